/-! THE SMALL MACHINE AND THE REAL ONE: tables -/
def vm_at (i : Nat) : Option Cond := match i / 240 with
  | 0 => tables_1_1[i % 240]?
  | 1 => tables_1_2[i % 240]?
  | 2 => tables_1_3[i % 240]?
  | 3 => tables_1_4[i % 240]?
  | 4 => tables_1_5[i % 240]?
  | 5 => tables_1_6[i % 240]?
  | _ => tables_1_7[i % 240]?
theorem vm_at_in {i : Nat} {w : Cond} (h : vm_at i = some w) : w ∈ tables_1 := by
  have k1 : ∀ v ∈ tables_1_1, v ∈ tables_1 := fun v h => List.mem_append_left _ h
  have k2 : ∀ v ∈ tables_1_2, v ∈ tables_1 := fun v h => List.mem_append_right _ (List.mem_append_left _ h)
  have k3 : ∀ v ∈ tables_1_3, v ∈ tables_1 := fun v h => List.mem_append_right _ (List.mem_append_right _ (List.mem_append_left _ h))
  have k4 : ∀ v ∈ tables_1_4, v ∈ tables_1 := fun v h => List.mem_append_right _ (List.mem_append_right _ (List.mem_append_right _ (List.mem_append_left _ h)))
  have k5 : ∀ v ∈ tables_1_5, v ∈ tables_1 := fun v h => List.mem_append_right _ (List.mem_append_right _ (List.mem_append_right _ (List.mem_append_right _ (List.mem_append_left _ h))))
  have k6 : ∀ v ∈ tables_1_6, v ∈ tables_1 := fun v h => List.mem_append_right _ (List.mem_append_right _ (List.mem_append_right _ (List.mem_append_right _ (List.mem_append_right _ (List.mem_append_left _ h)))))
  have k7 : ∀ v ∈ tables_1_7, v ∈ tables_1 := fun v h => List.mem_append_right _ (List.mem_append_right _ (List.mem_append_right _ (List.mem_append_right _ (List.mem_append_right _ (List.mem_append_right _ h)))))
  unfold vm_at at h
  split at h
  · exact k1 _ (List.mem_of_getElem? h)
  · exact k2 _ (List.mem_of_getElem? h)
  · exact k3 _ (List.mem_of_getElem? h)
  · exact k4 _ (List.mem_of_getElem? h)
  · exact k5 _ (List.mem_of_getElem? h)
  · exact k6 _ (List.mem_of_getElem? h)
  · exact k7 _ (List.mem_of_getElem? h)
def vm_atL (i : Nat) : Option Cond := if i < 73 then (k2_sels lw_privs)[i]? else vm_at (i - 73)
theorem vm_atL_in {i : Nat} {w : Cond} (h : vm_atL i = some w) : w ∈ lw_tbl := by
  unfold vm_atL at h
  split at h
  · exact List.mem_append_left _ (List.mem_of_getElem? h)
  · exact List.mem_append_right _ (vm_at_in h)
def vm_tb : List Cond := lw_tbl.filter goodWord
theorem vm_tb_good : GoodIn vm_tb vm_tb := fun w h => ⟨h, good_of_word (List.mem_filter.mp h).2⟩
theorem vm_tb_of {w : Cond} {i : Nat} (h : vm_at i = some w) (hg : goodWord w = true) : w ∈ vm_tb := List.mem_filter.mpr ⟨List.mem_append_right _ (vm_at_in h), hg⟩
theorem vm_tb_ofL {w : Cond} {i : Nat} (h : vm_atL i = some w) (hg : goodWord w = true) : w ∈ vm_tb := List.mem_filter.mpr ⟨vm_atL_in h, hg⟩
theorem vm_lookup {β : Type} {a : Nat × Nat} {q : β} : ∀ {t : List ((Nat × Nat) × β)}, t.lookup a = some q → (a, q) ∈ t
  | [], h => by cases h
  | (a', q') :: t, h => by
    rw [List.lookup_cons] at h
    split at h
    · next e =>
      rw [beq_iff_eq] at e
      cases h
      subst e
      exact List.mem_cons_self
    · exact List.mem_cons_of_mem _ (vm_lookup h)
def vm_flP (e : (Nat × Nat) × (Nat × Nat × Nat)) : Bool := decide (e.2.1 < 12) && decide (e.2.2.1 < vm_nf e.2.1) && decide (vm_at e.2.2.2 = some (Cond.fieldLink (vm_cn' e.1.1) e.1.2 ((vm_F e.2.1).2.1 e.2.2.1).1 ((vm_F e.2.1).2.1 e.2.2.1).2.1 ((vm_F e.2.1).2.1 e.2.2.1).2.2.1))
theorem vm_fl_all : vm_fl.all vm_flP = true := by decide +kernel
theorem vm_fl_ok {o idx c k i : Nat} (h : vm_fl.lookup (o, idx) = some (c, k, i)) : c < 12 ∧ k < vm_nf c ∧ Cond.fieldLink (vm_cn' o) idx ((vm_F c).2.1 k).1 ((vm_F c).2.1 k).2.1 ((vm_F c).2.1 k).2.2.1 ∈ vm_tb := by
  have h1 := List.all_eq_true.mp vm_fl_all _ (vm_lookup h)
  simp only [vm_flP, Bool.and_eq_true, decide_eq_true_eq] at h1
  exact ⟨h1.1.1, h1.1.2, vm_tb_of h1.2 rfl⟩
def vm_tyc (c : Nat) : Nat → FieldType := match c with
  | 0 => tyX0 | 1 => tyX1 | 2 => tyX2 | 3 => tyX3 | 4 => tyX4 | 5 => tyX6 | 6 => tyX7 | 7 => tyX8 | 8 => tyX9 | 9 => tyX10 | 10 => tyX11 | _ => tyX12
def vm_tyk (ty : FieldType) (t : Nat) : Bool := match ty with
  | .int => t == 0
  | .long => t == 1
  | .boolean => t == 3
  | .object _ => t == 2
  | .array _ => t == 2
  | _ => false
def vm_Fok (c : Nat) : Prop := vwCl[c]? = some (vm_F c) ∧ (vm_F c).2.2 = vm_nf c ∧ (∀ w ∈ u_ws (vm_F c).1 (vm_F c).2.1 (vm_F c).2.2, w ∈ vm_tb) ∧ (∀ k, k < (vm_F c).2.2 → parseFieldDescriptor ((vm_F c).2.1 k).2.2.1 = some (vm_tyc c k)) ∧ (∀ a, a < (vm_F c).2.2 → ∀ b, b < (vm_F c).2.2 → a ≠ b → ((vm_F c).2.1 a).2.1 ≠ ((vm_F c).2.1 b).2.1) ∧ ∀ k, k < (vm_F c).2.2 → vm_tyk (vm_tyc c k) (vm_fk c k) = true
theorem vm_F_0 : vm_Fok 0 := ⟨rfl, rfl, by decide +kernel, tyX0_ok, nmX0, by decide +kernel⟩
theorem vm_F_1 : vm_Fok 1 := ⟨rfl, rfl, by decide +kernel, tyX1_ok, nmX1, by decide +kernel⟩
theorem vm_F_2 : vm_Fok 2 := ⟨rfl, rfl, by decide +kernel, tyX2_ok, nmX2, by decide +kernel⟩
theorem vm_F_3 : vm_Fok 3 := ⟨rfl, rfl, by decide +kernel, tyX3_ok, nmX3, by decide +kernel⟩
theorem vm_F_4 : vm_Fok 4 := ⟨rfl, rfl, by decide +kernel, tyX4_ok, nmX4, by decide +kernel⟩
theorem vm_F_5 : vm_Fok 5 := ⟨rfl, rfl, by decide +kernel, tyX6_ok, nmX6, by decide +kernel⟩
theorem vm_F_6 : vm_Fok 6 := ⟨rfl, rfl, by decide +kernel, tyX7_ok, nmX7, by decide +kernel⟩
theorem vm_F_7 : vm_Fok 7 := ⟨rfl, rfl, by decide +kernel, tyX8_ok, nmX8, by decide +kernel⟩
theorem vm_F_8 : vm_Fok 8 := ⟨rfl, rfl, by decide +kernel, tyX9_ok, nmX9, by decide +kernel⟩
theorem vm_F_9 : vm_Fok 9 := ⟨rfl, rfl, by decide +kernel, tyX10_ok, nmX10, by decide +kernel⟩
theorem vm_F_10 : vm_Fok 10 := ⟨rfl, rfl, by decide +kernel, tyX11_ok, nmX11, by decide +kernel⟩
theorem vm_F_11 : vm_Fok 11 := ⟨rfl, rfl, by decide +kernel, tyX12_ok, nmX12, by decide +kernel⟩
theorem vm_F_ok {c : Nat} (h : c < 12) : vm_Fok c := by
  rcases (show c = 0 ∨ c = 1 ∨ c = 2 ∨ c = 3 ∨ c = 4 ∨ c = 5 ∨ c = 6 ∨ c = 7 ∨ c = 8 ∨ c = 9 ∨ c = 10 ∨ c = 11 by omega) with rfl | rfl | rfl | rfl | rfl | rfl | rfl | rfl | rfl | rfl | rfl | rfl
  all_goals first | exact vm_F_0 | exact vm_F_1 | exact vm_F_2 | exact vm_F_3 | exact vm_F_4 | exact vm_F_5 | exact vm_F_6 | exact vm_F_7 | exact vm_F_8 | exact vm_F_9 | exact vm_F_10 | exact vm_F_11
/-- a method's word, and that its class is there -/
def vm_mcP (q : vm_T) : Prop := Cond.code q.2.1 q.2.2.1 q.2.2.2.1 q.2.2.2.2.1 ∈ vm_tb
/-! every method has its word -/
theorem vm_mc_0 : vm_mcP (0, yX0_init, cX0_init, 2, none, 32) := vm_tb_of (i := 32) rfl rfl
theorem vm_mc_1 : vm_mcP (0, yX0_howMany, cX0_howMany, 1, (some .int), 503) := vm_tb_of (i := 503) rfl rfl
theorem vm_mc_2 : vm_mcP (0, yX0_howManySights, cX0_howManySights, 1, (some .int), 525) := vm_tb_of (i := 525) rfl rfl
theorem vm_mc_3 : vm_mcP (0, yX0_reserved, cX0_reserved, 1, (some .int), 1013) := vm_tb_of (i := 1013) rfl rfl
theorem vm_mc_4 : vm_mcP (0, yX0_isFull, cX0_isFull, 1, (some .boolean), 297) := vm_tb_of (i := 297) rfl rfl
theorem vm_mc_5 : vm_mcP (0, yX0_isAct, cX0_isAct, 2, (some .boolean), 309) := vm_tb_of (i := 309) rfl rfl
theorem vm_mc_6 : vm_mcP (0, yX0_isSight, cX0_isSight, 2, (some .boolean), 332) := vm_tb_of (i := 332) rfl rfl
theorem vm_mc_7 : vm_mcP (0, yX0_add, cX0_add, 4, (some .int), 301) := vm_tb_of (i := 301) rfl rfl
theorem vm_mc_8 : vm_mcP (0, yX0_setCost, cX0_setCost, 4, (some .int), 313) := vm_tb_of (i := 313) rfl rfl
theorem vm_mc_9 : vm_mcP (0, yX0_setChances, cX0_setChances, 6, (some .boolean), 324) := vm_tb_of (i := 324) rfl rfl
theorem vm_mc_10 : vm_mcP (0, yX0_setValue, cX0_setValue, 4, (some .int), 336) := vm_tb_of (i := 336) rfl rfl
theorem vm_mc_11 : vm_mcP (0, yX0_setReserve, cX0_setReserve, 3, (some .int), 344) := vm_tb_of (i := 344) rfl rfl
theorem vm_mc_12 : vm_mcP (0, yX0_valueAt, cX0_valueAt, 2, (some .int), 853) := vm_tb_of (i := 853) rfl rfl
theorem vm_mc_13 : vm_mcP (0, yX0_chanceAt, cX0_chanceAt, 4, (some .int), 364) := vm_tb_of (i := 364) rfl rfl
theorem vm_mc_14 : vm_mcP (0, yX0_paid, cX0_paid, 7, (some .long), 360) := vm_tb_of (i := 360) rfl rfl
theorem vm_mc_15 : vm_mcP (0, yX0_valued, cX0_valued, 3, (some .long), 386) := vm_tb_of (i := 386) rfl rfl
theorem vm_mc_16 : vm_mcP (0, yX0_left, cX0_left, 4, (some .long), 356) := vm_tb_of (i := 356) rfl rfl
theorem vm_mc_17 : vm_mcP (0, yX0_kept, cX0_kept, 4, (some .long), 382) := vm_tb_of (i := 382) rfl rfl
theorem vm_mc_18 : vm_mcP (0, yX0_stays, cX0_stays, 4, (some .boolean), 880) := vm_tb_of (i := 880) rfl rfl
theorem vm_mc_19 : vm_mcP (0, yX0_answered, cX0_answered, 5, (some .int), 373) := vm_tb_of (i := 373) rfl rfl
theorem vm_mc_20 : vm_mcP (0, yX0_isRather, cX0_isRather, 9, (some .boolean), 377) := vm_tb_of (i := 377) rfl rfl
theorem vm_mc_21 : vm_mcP (0, yX0_sightAt, cX0_sightAt, 6, (some .int), 913) := vm_tb_of (i := 913) rfl rfl
theorem vm_mc_22 : vm_mcP (0, yX0_askPay, cX0_askPay, 7, none, 401) := vm_tb_of (i := 401) rfl rfl
theorem vm_mc_23 : vm_mcP (0, yX0_askPayIn, cX0_askPayIn, 7, none, 424) := vm_tb_of (i := 424) rfl rfl
theorem vm_mc_24 : vm_mcP (0, yX0_askShares, cX0_askShares, 5, none, 487) := vm_tb_of (i := 487) rfl rfl
theorem vm_mc_25 : vm_mcP (0, yX0_askSharesAt, cX0_askSharesAt, 7, none, 494) := vm_tb_of (i := 494) rfl rfl
theorem vm_mc_26 : vm_mcP (0, yX0_placeBeside, cX0_placeBeside, 2, (some .int), 490) := vm_tb_of (i := 490) rfl rfl
theorem vm_mc_27 : vm_mcP (1, yX1_init, cX1_init, 1, none, 138) := vm_tb_of (i := 138) rfl rfl
theorem vm_mc_28 : vm_mcP (1, yX1_areCosts, cX1_areCosts, 1, (some .boolean), 708) := vm_tb_of (i := 708) rfl rfl
theorem vm_mc_29 : vm_mcP (1, yX1_set, cX1_set, 4, none, 713) := vm_tb_of (i := 713) rfl rfl
theorem vm_mc_30 : vm_mcP (1, yX1_howManyCalm, cX1_howManyCalm, 3, (some .int), 721) := vm_tb_of (i := 721) rfl rfl
theorem vm_mc_31 : vm_mcP (1, yX1_calmAt, cX1_calmAt, 4, (some .int), 744) := vm_tb_of (i := 744) rfl rfl
theorem vm_mc_32 : vm_mcP (1, yX1_isCalm, cX1_isCalm, 3, (some .boolean), 725) := vm_tb_of (i := 725) rfl rfl
theorem vm_mc_33 : vm_mcP (1, yX1_isContent, cX1_isContent, 5, (some .boolean), 729) := vm_tb_of (i := 729) rfl rfl
theorem vm_mc_34 : vm_mcP (1, yX1_left, cX1_left, 5, (some .int), 733) := vm_tb_of (i := 733) rfl rfl
theorem vm_mc_35 : vm_mcP (2, yX2_init, cX2_init, 1, none, 154) := vm_tb_of (i := 154) rfl rfl
theorem vm_mc_36 : vm_mcP (2, yX2_howMany, cX2_howMany, 1, (some .int), 876) := vm_tb_of (i := 876) rfl rfl
theorem vm_mc_37 : vm_mcP (2, yX2_tapeLength, cX2_tapeLength, 1, (some .int), 1017) := vm_tb_of (i := 1017) rfl rfl
theorem vm_mc_38 : vm_mcP (2, yX2_isFull, cX2_isFull, 1, (some .boolean), 764) := vm_tb_of (i := 764) rfl rfl
theorem vm_mc_39 : vm_mcP (2, yX2_isContract, cX2_isContract, 2, (some .boolean), 849) := vm_tb_of (i := 849) rfl rfl
theorem vm_mcs_0 : ∀ q ∈ vm_ms_0, vm_mcP q := List.forall_mem_cons.mpr ⟨vm_mc_0, List.forall_mem_cons.mpr ⟨vm_mc_1, List.forall_mem_cons.mpr ⟨vm_mc_2, List.forall_mem_cons.mpr ⟨vm_mc_3, List.forall_mem_cons.mpr ⟨vm_mc_4, List.forall_mem_cons.mpr ⟨vm_mc_5, List.forall_mem_cons.mpr ⟨vm_mc_6, List.forall_mem_cons.mpr ⟨vm_mc_7, List.forall_mem_cons.mpr ⟨vm_mc_8, List.forall_mem_cons.mpr ⟨vm_mc_9, List.forall_mem_cons.mpr ⟨vm_mc_10, List.forall_mem_cons.mpr ⟨vm_mc_11, List.forall_mem_cons.mpr ⟨vm_mc_12, List.forall_mem_cons.mpr ⟨vm_mc_13, List.forall_mem_cons.mpr ⟨vm_mc_14, List.forall_mem_cons.mpr ⟨vm_mc_15, List.forall_mem_cons.mpr ⟨vm_mc_16, List.forall_mem_cons.mpr ⟨vm_mc_17, List.forall_mem_cons.mpr ⟨vm_mc_18, List.forall_mem_cons.mpr ⟨vm_mc_19, List.forall_mem_cons.mpr ⟨vm_mc_20, List.forall_mem_cons.mpr ⟨vm_mc_21, List.forall_mem_cons.mpr ⟨vm_mc_22, List.forall_mem_cons.mpr ⟨vm_mc_23, List.forall_mem_cons.mpr ⟨vm_mc_24, List.forall_mem_cons.mpr ⟨vm_mc_25, List.forall_mem_cons.mpr ⟨vm_mc_26, List.forall_mem_cons.mpr ⟨vm_mc_27, List.forall_mem_cons.mpr ⟨vm_mc_28, List.forall_mem_cons.mpr ⟨vm_mc_29, List.forall_mem_cons.mpr ⟨vm_mc_30, List.forall_mem_cons.mpr ⟨vm_mc_31, List.forall_mem_cons.mpr ⟨vm_mc_32, List.forall_mem_cons.mpr ⟨vm_mc_33, List.forall_mem_cons.mpr ⟨vm_mc_34, List.forall_mem_cons.mpr ⟨vm_mc_35, List.forall_mem_cons.mpr ⟨vm_mc_36, List.forall_mem_cons.mpr ⟨vm_mc_37, List.forall_mem_cons.mpr ⟨vm_mc_38, List.forall_mem_cons.mpr ⟨vm_mc_39, fun _ h => absurd h List.not_mem_nil⟩⟩⟩⟩⟩⟩⟩⟩⟩⟩⟩⟩⟩⟩⟩⟩⟩⟩⟩⟩⟩⟩⟩⟩⟩⟩⟩⟩⟩⟩⟩⟩⟩⟩⟩⟩⟩⟩⟩⟩
theorem vm_mc_40 : vm_mcP (2, yX2_hasRoom, cX2_hasRoom, 2, (some .boolean), 752) := vm_tb_of (i := 752) rfl rfl
theorem vm_mc_41 : vm_mcP (2, yX2_append, cX2_append, 5, (some .int), 756) := vm_tb_of (i := 756) rfl rfl
theorem vm_mc_42 : vm_mcP (2, yX2_readTape, cX2_readTape, 2, (some .int), 768) := vm_tb_of (i := 768) rfl rfl
theorem vm_mc_43 : vm_mcP (2, yX2_paid, cX2_paid, 6, (some .int), 857) := vm_tb_of (i := 857) rfl rfl
theorem vm_mc_44 : vm_mcP (3, yX3_init, cX3_init, 1, none, 82) := vm_tb_of (i := 82) rfl rfl
theorem vm_mc_45 : vm_mcP (3, yX3_areRates, cX3_areRates, 2, (some .boolean), 540) := vm_tb_of (i := 540) rfl rfl
theorem vm_mc_46 : vm_mcP (3, yX3_areHeads, cX3_areHeads, 2, (some .boolean), 543) := vm_tb_of (i := 543) rfl rfl
theorem vm_mc_47 : vm_mcP (3, yX3_isOffer, cX3_isOffer, 2, (some .boolean), 560) := vm_tb_of (i := 560) rfl rfl
theorem vm_mc_48 : vm_mcP (3, yX3_keeps, cX3_keeps, 6, (some .boolean), 564) := vm_tb_of (i := 564) rfl rfl
theorem vm_mc_49 : vm_mcP (3, yX3_setValue, cX3_setValue, 4, (some .int), 533) := vm_tb_of (i := 533) rfl rfl
theorem vm_mc_50 : vm_mcP (3, yX3_told, cX3_told, 12, (some .int), 547) := vm_tb_of (i := 547) rfl rfl
theorem vm_mc_51 : vm_mcP (3, yX3_leastPay0, cX3_leastPay0, 4, (some .int), 550) := vm_tb_of (i := 550) rfl rfl
theorem vm_mc_52 : vm_mcP (3, yX3_leastPay1, cX3_leastPay1, 2, (some .int), 553) := vm_tb_of (i := 553) rfl rfl
theorem vm_mc_53 : vm_mcP (4, yX4_init, cX4_init, 1, none, 92) := vm_tb_of (i := 92) rfl rfl
theorem vm_mc_54 : vm_mcP (4, yX4_isCostOrChance, cX4_isCostOrChance, 1, (some .boolean), 571) := vm_tb_of (i := 571) rfl rfl
theorem vm_mc_55 : vm_mcP (4, yX4_isTerm, cX4_isTerm, 1, (some .boolean), 583) := vm_tb_of (i := 583) rfl rfl
theorem vm_mc_56 : vm_mcP (4, yX4_isPromise, cX4_isPromise, 1, (some .boolean), 586) := vm_tb_of (i := 586) rfl rfl
theorem vm_mc_57 : vm_mcP (4, yX4_set, cX4_set, 6, none, 576) := vm_tb_of (i := 576) rfl rfl
theorem vm_mc_58 : vm_mcP (4, yX4_sum, cX4_sum, 3, (some .long), 590) := vm_tb_of (i := 590) rfl rfl
theorem vm_mc_59 : vm_mcP (4, yX4_plan, cX4_plan, 4, (some .int), 622) := vm_tb_of (i := 622) rfl rfl
theorem vm_mc_60 : vm_mcP (4, yX4_bestPromise, cX4_bestPromise, 6, (some .int), 630) := vm_tb_of (i := 630) rfl rfl
theorem vm_mc_61 : vm_mcP (4, yX4_learn, cX4_learn, 4, none, 594) := vm_tb_of (i := 594) rfl rfl
theorem vm_mc_62 : vm_mcP (4, yX4_learnTerm, cX4_learnTerm, 10, none, 599) := vm_tb_of (i := 599) rfl rfl
theorem vm_mc_63 : vm_mcP (4, yX4_weigh, cX4_weigh, 12, none, 603) := vm_tb_of (i := 603) rfl rfl
theorem vm_mc_64 : vm_mcP (4, yX4_followsOf, cX4_followsOf, 4, (some .int), 607) := vm_tb_of (i := 607) rfl rfl
theorem vm_mc_65 : vm_mcP (4, yX4_isWilling, cX4_isWilling, 5, (some .boolean), 612) := vm_tb_of (i := 612) rfl rfl
theorem vm_mc_66 : vm_mcP (5, yX5_taken, cX5_taken, 11, (some .int), 1002) := vm_tb_of (i := 1002) rfl rfl
theorem vm_mc_67 : vm_mcP (5, yX5_toil, cX5_toil, 2, (some .int), 1005) := vm_tb_of (i := 1005) rfl rfl
theorem vm_mc_68 : vm_mcP (6, yX6_init, cX6_init, 1, none, 162) := vm_tb_of (i := 162) rfl rfl
theorem vm_mc_69 : vm_mcP (6, yX6_fault, cX6_fault, 1, (some .int), 838) := vm_tb_of (i := 838) rfl rfl
theorem vm_mc_70 : vm_mcP (6, yX6_works, cX6_works, 7, (some .long), 772) := vm_tb_of (i := 772) rfl rfl
theorem vm_mc_71 : vm_mcP (6, yX6_next, cX6_next, 1, (some .int), 793) := vm_tb_of (i := 793) rfl rfl
theorem vm_mc_72 : vm_mcP (6, yX6_fail, cX6_fail, 1, none, 805) := vm_tb_of (i := 805) rfl rfl
theorem vm_mc_73 : vm_mcP (6, yX6_skips, cX6_skips, 2, (some .boolean), 789) := vm_tb_of (i := 789) rfl rfl
theorem vm_mc_74 : vm_mcP (6, yX6_needs, cX6_needs, 2, none, 801) := vm_tb_of (i := 801) rfl rfl
theorem vm_mc_75 : vm_mcP (6, yX6_kept, cX6_kept, 2, (some .long), 832) := vm_tb_of (i := 832) rfl rfl
theorem vm_mc_76 : vm_mcP (6, yX6_sum, cX6_sum, 5, (some .long), 777) := vm_tb_of (i := 777) rfl rfl
theorem vm_mc_77 : vm_mcP (6, yX6_product, cX6_product, 5, (some .long), 781) := vm_tb_of (i := 781) rfl rfl
theorem vm_mc_78 : vm_mcP (6, yX6_atom, cX6_atom, 4, (some .long), 785) := vm_tb_of (i := 785) rfl rfl
theorem vm_mc_79 : vm_mcP (6, yX6_number, cX6_number, 5, (some .long), 827) := vm_tb_of (i := 827) rfl rfl
theorem vm_mcs_1 : ∀ q ∈ vm_ms_1, vm_mcP q := List.forall_mem_cons.mpr ⟨vm_mc_40, List.forall_mem_cons.mpr ⟨vm_mc_41, List.forall_mem_cons.mpr ⟨vm_mc_42, List.forall_mem_cons.mpr ⟨vm_mc_43, List.forall_mem_cons.mpr ⟨vm_mc_44, List.forall_mem_cons.mpr ⟨vm_mc_45, List.forall_mem_cons.mpr ⟨vm_mc_46, List.forall_mem_cons.mpr ⟨vm_mc_47, List.forall_mem_cons.mpr ⟨vm_mc_48, List.forall_mem_cons.mpr ⟨vm_mc_49, List.forall_mem_cons.mpr ⟨vm_mc_50, List.forall_mem_cons.mpr ⟨vm_mc_51, List.forall_mem_cons.mpr ⟨vm_mc_52, List.forall_mem_cons.mpr ⟨vm_mc_53, List.forall_mem_cons.mpr ⟨vm_mc_54, List.forall_mem_cons.mpr ⟨vm_mc_55, List.forall_mem_cons.mpr ⟨vm_mc_56, List.forall_mem_cons.mpr ⟨vm_mc_57, List.forall_mem_cons.mpr ⟨vm_mc_58, List.forall_mem_cons.mpr ⟨vm_mc_59, List.forall_mem_cons.mpr ⟨vm_mc_60, List.forall_mem_cons.mpr ⟨vm_mc_61, List.forall_mem_cons.mpr ⟨vm_mc_62, List.forall_mem_cons.mpr ⟨vm_mc_63, List.forall_mem_cons.mpr ⟨vm_mc_64, List.forall_mem_cons.mpr ⟨vm_mc_65, List.forall_mem_cons.mpr ⟨vm_mc_66, List.forall_mem_cons.mpr ⟨vm_mc_67, List.forall_mem_cons.mpr ⟨vm_mc_68, List.forall_mem_cons.mpr ⟨vm_mc_69, List.forall_mem_cons.mpr ⟨vm_mc_70, List.forall_mem_cons.mpr ⟨vm_mc_71, List.forall_mem_cons.mpr ⟨vm_mc_72, List.forall_mem_cons.mpr ⟨vm_mc_73, List.forall_mem_cons.mpr ⟨vm_mc_74, List.forall_mem_cons.mpr ⟨vm_mc_75, List.forall_mem_cons.mpr ⟨vm_mc_76, List.forall_mem_cons.mpr ⟨vm_mc_77, List.forall_mem_cons.mpr ⟨vm_mc_78, List.forall_mem_cons.mpr ⟨vm_mc_79, fun _ h => absurd h List.not_mem_nil⟩⟩⟩⟩⟩⟩⟩⟩⟩⟩⟩⟩⟩⟩⟩⟩⟩⟩⟩⟩⟩⟩⟩⟩⟩⟩⟩⟩⟩⟩⟩⟩⟩⟩⟩⟩⟩⟩⟩⟩
theorem vm_mc_80 : vm_mcP (6, yX6_opens, cX6_opens, 2, none, 809) := vm_tb_of (i := 809) rfl rfl
theorem vm_mc_81 : vm_mcP (6, yX6_deeper, cX6_deeper, 2, (some .long), 813) := vm_tb_of (i := 813) rfl rfl
theorem vm_mc_82 : vm_mcP (6, yX6_lesserOrGreater, cX6_lesserOrGreater, 7, (some .long), 797) := vm_tb_of (i := 797) rfl rfl
theorem vm_mc_83 : vm_mcP (6, yX6_oneOfTwo, cX6_oneOfTwo, 10, (some .long), 823) := vm_tb_of (i := 823) rfl rfl
theorem vm_mc_84 : vm_mcP (7, yX7_init, cX7_init, 1, none, 60) := vm_tb_of (i := 60) rfl rfl
theorem vm_mc_85 : vm_mcP (7, yX7_begin, cX7_begin, 3, none, 405) := vm_tb_of (i := 405) rfl rfl
theorem vm_mc_86 : vm_mcP (7, yX7_addLine, cX7_addLine, 2, none, 415) := vm_tb_of (i := 415) rfl rfl
theorem vm_mc_87 : vm_mcP (7, yX7_addGoal, cX7_addGoal, 3, none, 419) := vm_tb_of (i := 419) rfl rfl
theorem vm_mc_88 : vm_mcP (7, yX7_addRow, cX7_addRow, 2, none, 428) := vm_tb_of (i := 428) rfl rfl
theorem vm_mc_89 : vm_mcP (7, yX7_add, cX7_add, 3, none, 432) := vm_tb_of (i := 432) rfl rfl
theorem vm_mc_90 : vm_mcP (7, yX7_solves, cX7_solves, 4, (some .boolean), 436) := vm_tb_of (i := 436) rfl rfl
theorem vm_mc_91 : vm_mcP (7, yX7_firstBroken, cX7_firstBroken, 2, (some .int), 441) := vm_tb_of (i := 441) rfl rfl
theorem vm_mc_92 : vm_mcP (7, yX7_mending, cX7_mending, 4, (some .int), 445) := vm_tb_of (i := 445) rfl rfl
theorem vm_mc_93 : vm_mcP (7, yX7_growsLess, cX7_growsLess, 9, (some .boolean), 449) := vm_tb_of (i := 449) rfl rfl
theorem vm_mc_94 : vm_mcP (7, yX7_exchange, cX7_exchange, 9, none, 453) := vm_tb_of (i := 453) rfl rfl
theorem vm_mc_95 : vm_mcP (7, yX7_goal, cX7_goal, 1, (some .long), 461) := vm_tb_of (i := 461) rfl rfl
theorem vm_mc_96 : vm_mcP (7, yX7_unknown, cX7_unknown, 2, (some .long), 479) := vm_tb_of (i := 479) rfl rfl
theorem vm_mc_97 : vm_mcP (7, yX7_below, cX7_below, 1, (some .long), 466) := vm_tb_of (i := 466) rfl rfl
theorem vm_mc_98 : vm_mcP (8, yX8_init, cX8_init, 1, none, 119) := vm_tb_of (i := 119) rfl rfl
theorem vm_mc_99 : vm_mcP (8, yX8_digitAt, cX8_digitAt, 2, (some .int), 640) := vm_tb_of (i := 640) rfl rfl
theorem vm_mc_100 : vm_mcP (8, yX8_hasMoreDigits, cX8_hasMoreDigits, 2, (some .boolean), 643) := vm_tb_of (i := 643) rfl rfl
theorem vm_mc_101 : vm_mcP (8, yX8_areCosts, cX8_areCosts, 3, (some .boolean), 637) := vm_tb_of (i := 637) rfl rfl
theorem vm_mc_102 : vm_mcP (8, yX8_areShares, cX8_areShares, 4, (some .boolean), 646) := vm_tb_of (i := 646) rfl rfl
theorem vm_mc_103 : vm_mcP (8, yX8_set, cX8_set, 5, none, 650) := vm_tb_of (i := 650) rfl rfl
theorem vm_mc_104 : vm_mcP (8, yX8_setGot, cX8_setGot, 4, (some .int), 658) := vm_tb_of (i := 658) rfl rfl
theorem vm_mc_105 : vm_mcP (8, yX8_isMember, cX8_isMember, 2, (some .boolean), 666) := vm_tb_of (i := 666) rfl rfl
theorem vm_mc_106 : vm_mcP (8, yX8_isSet, cX8_isSet, 2, (some .boolean), 670) := vm_tb_of (i := 670) rfl rfl
theorem vm_mc_107 : vm_mcP (8, yX8_keeps, cX8_keeps, 4, (some .int), 674) := vm_tb_of (i := 674) rfl rfl
theorem vm_mc_108 : vm_mcP (8, yX8_firstBreak, cX8_firstBreak, 4, (some .int), 688) := vm_tb_of (i := 688) rfl rfl
theorem vm_mc_109 : vm_mcP (8, yX8_allGain, cX8_allGain, 4, (some .boolean), 692) := vm_tb_of (i := 692) rfl rfl
theorem vm_mc_110 : vm_mcP (9, yX9_init, cX9_init, 1, none, 238) := vm_tb_of (i := 238) rfl rfl
theorem vm_mc_111 : vm_mcP (9, yX9_isRate, cX9_isRate, 1, (some .boolean), 975) := vm_tb_of (i := 975) rfl rfl
theorem vm_mc_112 : vm_mcP (9, yX9_set, cX9_set, 4, none, 968) := vm_tb_of (i := 968) rfl rfl
theorem vm_mc_113 : vm_mcP (9, yX9_taken, cX9_taken, 8, (some .int), 980) := vm_tb_of (i := 980) rfl rfl
theorem vm_mc_114 : vm_mcP (9, yX9_bestBeside, cX9_bestBeside, 3, (some .int), 984) := vm_tb_of (i := 984) rfl rfl
theorem vm_mc_115 : vm_mcP (9, yX9_bestRates, cX9_bestRates, 10, (some .int), 994) := vm_tb_of (i := 994) rfl rfl
theorem vm_mc_116 : vm_mcP (10, yX10_init, cX10_init, 1, none, 207) := vm_tb_of (i := 207) rfl rfl
theorem vm_mc_117 : vm_mcP (10, yX10_howMany, cX10_howMany, 1, (some .int), 921) := vm_tb_of (i := 921) rfl rfl
theorem vm_mc_118 : vm_mcP (10, yX10_isFull, cX10_isFull, 1, (some .boolean), 899) := vm_tb_of (i := 899) rfl rfl
theorem vm_mc_119 : vm_mcP (10, yX10_isYear, cX10_isYear, 2, (some .boolean), 933) := vm_tb_of (i := 933) rfl rfl
theorem vm_mcs_2 : ∀ q ∈ vm_ms_2, vm_mcP q := List.forall_mem_cons.mpr ⟨vm_mc_80, List.forall_mem_cons.mpr ⟨vm_mc_81, List.forall_mem_cons.mpr ⟨vm_mc_82, List.forall_mem_cons.mpr ⟨vm_mc_83, List.forall_mem_cons.mpr ⟨vm_mc_84, List.forall_mem_cons.mpr ⟨vm_mc_85, List.forall_mem_cons.mpr ⟨vm_mc_86, List.forall_mem_cons.mpr ⟨vm_mc_87, List.forall_mem_cons.mpr ⟨vm_mc_88, List.forall_mem_cons.mpr ⟨vm_mc_89, List.forall_mem_cons.mpr ⟨vm_mc_90, List.forall_mem_cons.mpr ⟨vm_mc_91, List.forall_mem_cons.mpr ⟨vm_mc_92, List.forall_mem_cons.mpr ⟨vm_mc_93, List.forall_mem_cons.mpr ⟨vm_mc_94, List.forall_mem_cons.mpr ⟨vm_mc_95, List.forall_mem_cons.mpr ⟨vm_mc_96, List.forall_mem_cons.mpr ⟨vm_mc_97, List.forall_mem_cons.mpr ⟨vm_mc_98, List.forall_mem_cons.mpr ⟨vm_mc_99, List.forall_mem_cons.mpr ⟨vm_mc_100, List.forall_mem_cons.mpr ⟨vm_mc_101, List.forall_mem_cons.mpr ⟨vm_mc_102, List.forall_mem_cons.mpr ⟨vm_mc_103, List.forall_mem_cons.mpr ⟨vm_mc_104, List.forall_mem_cons.mpr ⟨vm_mc_105, List.forall_mem_cons.mpr ⟨vm_mc_106, List.forall_mem_cons.mpr ⟨vm_mc_107, List.forall_mem_cons.mpr ⟨vm_mc_108, List.forall_mem_cons.mpr ⟨vm_mc_109, List.forall_mem_cons.mpr ⟨vm_mc_110, List.forall_mem_cons.mpr ⟨vm_mc_111, List.forall_mem_cons.mpr ⟨vm_mc_112, List.forall_mem_cons.mpr ⟨vm_mc_113, List.forall_mem_cons.mpr ⟨vm_mc_114, List.forall_mem_cons.mpr ⟨vm_mc_115, List.forall_mem_cons.mpr ⟨vm_mc_116, List.forall_mem_cons.mpr ⟨vm_mc_117, List.forall_mem_cons.mpr ⟨vm_mc_118, List.forall_mem_cons.mpr ⟨vm_mc_119, fun _ h => absurd h List.not_mem_nil⟩⟩⟩⟩⟩⟩⟩⟩⟩⟩⟩⟩⟩⟩⟩⟩⟩⟩⟩⟩⟩⟩⟩⟩⟩⟩⟩⟩⟩⟩⟩⟩⟩⟩⟩⟩⟩⟩⟩⟩
theorem vm_mc_120 : vm_mcP (10, yX10_areLatest, cX10_areLatest, 2, (some .boolean), 953) := vm_tb_of (i := 953) rfl rfl
theorem vm_mc_121 : vm_mcP (10, yX10_setLot, cX10_setLot, 3, (some .int), 890) := vm_tb_of (i := 890) rfl rfl
theorem vm_mc_122 : vm_mcP (10, yX10_nextLot, cX10_nextLot, 1, (some .int), 907) := vm_tb_of (i := 907) rfl rfl
theorem vm_mc_123 : vm_mcP (10, yX10_pass, cX10_pass, 5, none, 903) := vm_tb_of (i := 903) rfl rfl
theorem vm_mc_124 : vm_mcP (10, yX10_takeBack, cX10_takeBack, 1, (some .int), 925) := vm_tb_of (i := 925) rfl rfl
theorem vm_mc_125 : vm_mcP (10, yX10_told, cX10_told, 3, (some .int), 937) := vm_tb_of (i := 937) rfl rfl
theorem vm_mc_126 : vm_mcP (10, yX10_sum, cX10_sum, 5, (some .long), 945) := vm_tb_of (i := 945) rfl rfl
theorem vm_mc_127 : vm_mcP (11, yX11_init, cX11_init, 2, none, 21) := vm_tb_of (i := 21) rfl rfl
theorem vm_mc_128 : vm_mcP (11, yX11_act, cX11_act, 2, (some .int), 290) := vm_tb_of (i := 290) rfl rfl
theorem vm_mc_129 : vm_mcP (11, yX11_cost, cX11_cost, 3, (some .int), 305) := vm_tb_of (i := 305) rfl rfl
theorem vm_mc_130 : vm_mcP (11, yX11_chances, cX11_chances, 4, (some .int), 317) := vm_tb_of (i := 317) rfl rfl
theorem vm_mc_131 : vm_mcP (11, yX11_value, cX11_value, 3, (some .int), 328) := vm_tb_of (i := 328) rfl rfl
theorem vm_mc_132 : vm_mcP (11, yX11_reserve, cX11_reserve, 2, (some .int), 340) := vm_tb_of (i := 340) rfl rfl
theorem vm_mc_133 : vm_mcP (11, yX11_pay, cX11_pay, 4, (some .int), 348) := vm_tb_of (i := 348) rfl rfl
theorem vm_mc_134 : vm_mcP (11, yX11_gain, cX11_gain, 3, (some .long), 352) := vm_tb_of (i := 352) rfl rfl
theorem vm_mc_135 : vm_mcP (11, yX11_answer, cX11_answer, 2, (some .int), 369) := vm_tb_of (i := 369) rfl rfl
theorem vm_mc_136 : vm_mcP (11, yX11_steers, cX11_steers, 3, (some .int), 390) := vm_tb_of (i := 390) rfl rfl
theorem vm_mc_137 : vm_mcP (11, yX11_least, cX11_least, 5, (some .long), 457) := vm_tb_of (i := 457) rfl rfl
theorem vm_mc_138 : vm_mcP (11, yX11_proof, cX11_proof, 5, (some .long), 483) := vm_tb_of (i := 483) rfl rfl
theorem vm_mc_139 : vm_mcP (11, yX11_best, cX11_best, 12, (some .int), 499) := vm_tb_of (i := 499) rfl rfl
theorem vm_mc_140 : vm_mcP (11, yX11_bestGain, cX11_bestGain, 4, (some .long), 512) := vm_tb_of (i := 512) rfl rfl
theorem vm_mc_141 : vm_mcP (11, yX11_coarser, cX11_coarser, 5, (some .long), 517) := vm_tb_of (i := 517) rfl rfl
theorem vm_mc_142 : vm_mcP (11, yX11_work, cX11_work, 3, (some .int), 529) := vm_tb_of (i := 529) rfl rfl
theorem vm_mc_143 : vm_mcP (11, yX11_menu, cX11_menu, 6, (some .int), 537) := vm_tb_of (i := 537) rfl rfl
theorem vm_mc_144 : vm_mcP (11, yX11_may, cX11_may, 7, (some .int), 557) := vm_tb_of (i := 557) rfl rfl
theorem vm_mc_145 : vm_mcP (11, yX11_terms, cX11_terms, 7, (some .int), 568) := vm_tb_of (i := 568) rfl rfl
theorem vm_mc_146 : vm_mcP (11, yX11_promise, cX11_promise, 3, (some .long), 580) := vm_tb_of (i := 580) rfl rfl
theorem vm_mc_147 : vm_mcP (11, yX11_first, cX11_first, 4, (some .int), 617) := vm_tb_of (i := 617) rfl rfl
theorem vm_mc_148 : vm_mcP (11, yX11_start, cX11_start, 2, (some .int), 626) := vm_tb_of (i := 626) rfl rfl
theorem vm_mc_149 : vm_mcP (11, yX11_team, cX11_team, 4, (some .int), 634) := vm_tb_of (i := 634) rfl rfl
theorem vm_mc_150 : vm_mcP (11, yX11_all, cX11_all, 3, (some .int), 654) := vm_tb_of (i := 654) rfl rfl
theorem vm_mc_151 : vm_mcP (11, yX11_has, cX11_has, 3, (some .int), 662) := vm_tb_of (i := 662) rfl rfl
theorem vm_mc_152 : vm_mcP (11, yX11_holds, cX11_holds, 3, (some .int), 684) := vm_tb_of (i := 684) rfl rfl
theorem vm_mc_153 : vm_mcP (11, yX11_breaks, cX11_breaks, 2, (some .int), 697) := vm_tb_of (i := 697) rfl rfl
theorem vm_mc_154 : vm_mcP (11, yX11_look, cX11_look, 4, (some .long), 701) := vm_tb_of (i := 701) rfl rfl
theorem vm_mc_155 : vm_mcP (11, yX11_contest, cX11_contest, 4, (some .int), 705) := vm_tb_of (i := 705) rfl rfl
theorem vm_mc_156 : vm_mcP (11, yX11_calms, cX11_calms, 1, (some .int), 717) := vm_tb_of (i := 717) rfl rfl
theorem vm_mc_157 : vm_mcP (11, yX11_calm, cX11_calm, 2, (some .int), 740) := vm_tb_of (i := 740) rfl rfl
theorem vm_mc_158 : vm_mcP (11, yX11_feed, cX11_feed, 4, (some .int), 748) := vm_tb_of (i := 748) rfl rfl
theorem vm_mc_159 : vm_mcP (11, yX11_contract, cX11_contract, 1, (some .int), 760) := vm_tb_of (i := 760) rfl rfl
theorem vm_mcs_3 : ∀ q ∈ vm_ms_3, vm_mcP q := List.forall_mem_cons.mpr ⟨vm_mc_120, List.forall_mem_cons.mpr ⟨vm_mc_121, List.forall_mem_cons.mpr ⟨vm_mc_122, List.forall_mem_cons.mpr ⟨vm_mc_123, List.forall_mem_cons.mpr ⟨vm_mc_124, List.forall_mem_cons.mpr ⟨vm_mc_125, List.forall_mem_cons.mpr ⟨vm_mc_126, List.forall_mem_cons.mpr ⟨vm_mc_127, List.forall_mem_cons.mpr ⟨vm_mc_128, List.forall_mem_cons.mpr ⟨vm_mc_129, List.forall_mem_cons.mpr ⟨vm_mc_130, List.forall_mem_cons.mpr ⟨vm_mc_131, List.forall_mem_cons.mpr ⟨vm_mc_132, List.forall_mem_cons.mpr ⟨vm_mc_133, List.forall_mem_cons.mpr ⟨vm_mc_134, List.forall_mem_cons.mpr ⟨vm_mc_135, List.forall_mem_cons.mpr ⟨vm_mc_136, List.forall_mem_cons.mpr ⟨vm_mc_137, List.forall_mem_cons.mpr ⟨vm_mc_138, List.forall_mem_cons.mpr ⟨vm_mc_139, List.forall_mem_cons.mpr ⟨vm_mc_140, List.forall_mem_cons.mpr ⟨vm_mc_141, List.forall_mem_cons.mpr ⟨vm_mc_142, List.forall_mem_cons.mpr ⟨vm_mc_143, List.forall_mem_cons.mpr ⟨vm_mc_144, List.forall_mem_cons.mpr ⟨vm_mc_145, List.forall_mem_cons.mpr ⟨vm_mc_146, List.forall_mem_cons.mpr ⟨vm_mc_147, List.forall_mem_cons.mpr ⟨vm_mc_148, List.forall_mem_cons.mpr ⟨vm_mc_149, List.forall_mem_cons.mpr ⟨vm_mc_150, List.forall_mem_cons.mpr ⟨vm_mc_151, List.forall_mem_cons.mpr ⟨vm_mc_152, List.forall_mem_cons.mpr ⟨vm_mc_153, List.forall_mem_cons.mpr ⟨vm_mc_154, List.forall_mem_cons.mpr ⟨vm_mc_155, List.forall_mem_cons.mpr ⟨vm_mc_156, List.forall_mem_cons.mpr ⟨vm_mc_157, List.forall_mem_cons.mpr ⟨vm_mc_158, List.forall_mem_cons.mpr ⟨vm_mc_159, fun _ h => absurd h List.not_mem_nil⟩⟩⟩⟩⟩⟩⟩⟩⟩⟩⟩⟩⟩⟩⟩⟩⟩⟩⟩⟩⟩⟩⟩⟩⟩⟩⟩⟩⟩⟩⟩⟩⟩⟩⟩⟩⟩⟩⟩⟩
theorem vm_mc_160 : vm_mcP (11, yX11_worth, cX11_worth, 3, (some .int), 845) := vm_tb_of (i := 845) rfl rfl
theorem vm_mc_161 : vm_mcP (11, yX11_sign, cX11_sign, 2, (some .int), 864) := vm_tb_of (i := 864) rfl rfl
theorem vm_mc_162 : vm_mcP (11, yX11_choose, cX11_choose, 9, (some .int), 872) := vm_tb_of (i := 872) rfl rfl
theorem vm_mc_163 : vm_mcP (11, yX11_lot, cX11_lot, 2, (some .int), 885) := vm_tb_of (i := 885) rfl rfl
theorem vm_mc_164 : vm_mcP (11, yX11_year, cX11_year, 4, (some .int), 894) := vm_tb_of (i := 894) rfl rfl
theorem vm_mc_165 : vm_mcP (11, yX11_back, cX11_back, 1, (some .int), 917) := vm_tb_of (i := 917) rfl rfl
theorem vm_mc_166 : vm_mcP (11, yX11_then, cX11_then, 3, (some .int), 929) := vm_tb_of (i := 929) rfl rfl
theorem vm_mc_167 : vm_mcP (11, yX11_account, cX11_account, 2, (some .long), 941) := vm_tb_of (i := 941) rfl rfl
theorem vm_mc_168 : vm_mcP (11, yX11_likely, cX11_likely, 8, (some .long), 949) := vm_tb_of (i := 949) rfl rfl
theorem vm_mc_169 : vm_mcP (11, yX11_suspect, cX11_suspect, 9, (some .int), 959) := vm_tb_of (i := 959) rfl rfl
theorem vm_mc_170 : vm_mcP (11, yX11_tasks, cX11_tasks, 4, (some .int), 964) := vm_tb_of (i := 964) rfl rfl
theorem vm_mc_171 : vm_mcP (11, yX11_doesBoth, cX11_doesBoth, 3, (some .int), 972) := vm_tb_of (i := 972) rfl rfl
theorem vm_mc_172 : vm_mcP (11, yX11_rates, cX11_rates, 2, (some .int), 990) := vm_tb_of (i := 990) rfl rfl
theorem vm_mc_173 : vm_mcP (11, yX11_ratchet, cX11_ratchet, 5, (some .int), 999) := vm_tb_of (i := 999) rfl rfl
theorem vm_mc_174 : vm_mcP (11, yX11_count, cX11_count, 2, (some .int), 1009) := vm_tb_of (i := 1009) rfl rfl
theorem vm_mc_175 : vm_mcP (11, yX11_solvesPay, cX11_solvesPay, 4, (some .boolean), 397) := vm_tb_of (i := 397) rfl rfl
theorem vm_mc_176 : vm_mcP (11, yX11_keptOfLeast, cX11_keptOfLeast, 3, (some .long), 507) := vm_tb_of (i := 507) rfl rfl
theorem vm_mc_177 : vm_mcP (11, yX11_readsJoins, cX11_readsJoins, 4, (some .boolean), 521) := vm_tb_of (i := 521) rfl rfl
theorem vm_mc_178 : vm_mcP (11, yX11_writePay, cX11_writePay, 4, none, 868) := vm_tb_of (i := 868) rfl rfl
theorem vm_mc_179 : vm_mcP (11, yX11_within, cX11_within, 3, (some .boolean), 293) := vm_tb_of (i := 293) rfl rfl
theorem vm_mc_180 : vm_mcP (11, yX11_isWorld, cX11_isWorld, 1, (some .boolean), 320) := vm_tb_of (i := 320) rfl rfl
theorem vm_mc_181 : vm_mcP (11, yX11_isWorldSet, cX11_isWorldSet, 1, (some .boolean), 393) := vm_tb_of (i := 393) rfl rfl
theorem vm_mc_182 : vm_mcP (11, yX11_part, cX11_part, 7, (some .long), 469) := vm_tb_of (i := 469) rfl rfl
theorem vm_mc_183 : vm_mcP (11, yX11_commonDivisor, cX11_commonDivisor, 11, (some .long), 475) := vm_tb_of (i := 475) rfl rfl
theorem vm_mc_184 : vm_mcP (12, yX12_init, cX12_init, 2, none, 1025) := vm_tb_of (i := 1025) rfl rfl
theorem vm_mc_185 : vm_mcP (12, yX12_in, cX12_in, 6, (some .boolean), 1212) := vm_tb_of (i := 1212) rfl rfl
theorem vm_mc_186 : vm_mcP (12, yX12_isAct, cX12_isAct, 2, (some .boolean), 1220) := vm_tb_of (i := 1220) rfl rfl
theorem vm_mc_187 : vm_mcP (12, yX12_isSight, cX12_isSight, 2, (some .boolean), 1235) := vm_tb_of (i := 1235) rfl rfl
theorem vm_mc_188 : vm_mcP (12, yX12_isWorld, cX12_isWorld, 1, (some .boolean), 1227) := vm_tb_of (i := 1227) rfl rfl
theorem vm_mc_189 : vm_mcP (12, yX12_chance, cX12_chance, 4, (some .int), 1262) := vm_tb_of (i := 1262) rfl rfl
theorem vm_mc_190 : vm_mcP (12, yX12_act, cX12_act, 2, (some .int), 1208) := vm_tb_of (i := 1208) rfl rfl
theorem vm_mc_191 : vm_mcP (12, yX12_cost, cX12_cost, 4, (some .int), 1216) := vm_tb_of (i := 1216) rfl rfl
theorem vm_mc_192 : vm_mcP (12, yX12_chances, cX12_chances, 6, (some .int), 1224) := vm_tb_of (i := 1224) rfl rfl
theorem vm_mc_193 : vm_mcP (12, yX12_value, cX12_value, 4, (some .int), 1231) := vm_tb_of (i := 1231) rfl rfl
theorem vm_mc_194 : vm_mcP (12, yX12_reserve, cX12_reserve, 3, (some .int), 1240) := vm_tb_of (i := 1240) rfl rfl
theorem vm_mc_195 : vm_mcP (12, yX12_pay, cX12_pay, 4, (some .int), 1244) := vm_tb_of (i := 1244) rfl rfl
theorem vm_mc_196 : vm_mcP (12, yX12_looksAtTold, cX12_looksAtTold, 2, none, 1254) := vm_tb_of (i := 1254) rfl rfl
theorem vm_mc_197 : vm_mcP (12, yX12_gainOf, cX12_gainOf, 5, (some .int), 1258) := vm_tb_of (i := 1258) rfl rfl
theorem vm_mc_198 : vm_mcP (12, yX12_other, cX12_other, 5, (some .int), 1274) := vm_tb_of (i := 1274) rfl rfl
theorem vm_mc_199 : vm_mcP (12, yX12_answerOf, cX12_answerOf, 5, (some .int), 1270) := vm_tb_of (i := 1270) rfl rfl
theorem vm_mcs_4 : ∀ q ∈ vm_ms_4, vm_mcP q := List.forall_mem_cons.mpr ⟨vm_mc_160, List.forall_mem_cons.mpr ⟨vm_mc_161, List.forall_mem_cons.mpr ⟨vm_mc_162, List.forall_mem_cons.mpr ⟨vm_mc_163, List.forall_mem_cons.mpr ⟨vm_mc_164, List.forall_mem_cons.mpr ⟨vm_mc_165, List.forall_mem_cons.mpr ⟨vm_mc_166, List.forall_mem_cons.mpr ⟨vm_mc_167, List.forall_mem_cons.mpr ⟨vm_mc_168, List.forall_mem_cons.mpr ⟨vm_mc_169, List.forall_mem_cons.mpr ⟨vm_mc_170, List.forall_mem_cons.mpr ⟨vm_mc_171, List.forall_mem_cons.mpr ⟨vm_mc_172, List.forall_mem_cons.mpr ⟨vm_mc_173, List.forall_mem_cons.mpr ⟨vm_mc_174, List.forall_mem_cons.mpr ⟨vm_mc_175, List.forall_mem_cons.mpr ⟨vm_mc_176, List.forall_mem_cons.mpr ⟨vm_mc_177, List.forall_mem_cons.mpr ⟨vm_mc_178, List.forall_mem_cons.mpr ⟨vm_mc_179, List.forall_mem_cons.mpr ⟨vm_mc_180, List.forall_mem_cons.mpr ⟨vm_mc_181, List.forall_mem_cons.mpr ⟨vm_mc_182, List.forall_mem_cons.mpr ⟨vm_mc_183, List.forall_mem_cons.mpr ⟨vm_mc_184, List.forall_mem_cons.mpr ⟨vm_mc_185, List.forall_mem_cons.mpr ⟨vm_mc_186, List.forall_mem_cons.mpr ⟨vm_mc_187, List.forall_mem_cons.mpr ⟨vm_mc_188, List.forall_mem_cons.mpr ⟨vm_mc_189, List.forall_mem_cons.mpr ⟨vm_mc_190, List.forall_mem_cons.mpr ⟨vm_mc_191, List.forall_mem_cons.mpr ⟨vm_mc_192, List.forall_mem_cons.mpr ⟨vm_mc_193, List.forall_mem_cons.mpr ⟨vm_mc_194, List.forall_mem_cons.mpr ⟨vm_mc_195, List.forall_mem_cons.mpr ⟨vm_mc_196, List.forall_mem_cons.mpr ⟨vm_mc_197, List.forall_mem_cons.mpr ⟨vm_mc_198, List.forall_mem_cons.mpr ⟨vm_mc_199, fun _ h => absurd h List.not_mem_nil⟩⟩⟩⟩⟩⟩⟩⟩⟩⟩⟩⟩⟩⟩⟩⟩⟩⟩⟩⟩⟩⟩⟩⟩⟩⟩⟩⟩⟩⟩⟩⟩⟩⟩⟩⟩⟩⟩⟩⟩
theorem vm_mc_200 : vm_mcP (12, yX12_gain, cX12_gain, 3, (some .long), 1249) := vm_tb_of (i := 1249) rfl rfl
theorem vm_mc_201 : vm_mcP (12, yX12_answer, cX12_answer, 2, (some .int), 1266) := vm_tb_of (i := 1266) rfl rfl
theorem vm_mc_202 : vm_mcP (12, yX12_findBounds, cX12_findBounds, 6, none, 1287) := vm_tb_of (i := 1287) rfl rfl
theorem vm_mc_203 : vm_mcP (12, yX12_determinant, cX12_determinant, 12, (some .long), 1295) := vm_tb_of (i := 1295) rfl rfl
theorem vm_mc_204 : vm_mcP (12, yX12_isCorner, cX12_isCorner, 7, (some .boolean), 1291) := vm_tb_of (i := 1291) rfl rfl
theorem vm_mc_205 : vm_mcP (12, yX12_isLess, cX12_isLess, 6, (some .boolean), 1300) := vm_tb_of (i := 1300) rfl rfl
theorem vm_mc_206 : vm_mcP (12, yX12_findLeast, cX12_findLeast, 9, none, 1283) := vm_tb_of (i := 1283) rfl rfl
theorem vm_mc_207 : vm_mcP (12, yX12_divisor, cX12_divisor, 10, (some .long), 1311) := vm_tb_of (i := 1311) rfl rfl
theorem vm_mc_208 : vm_mcP (12, yX12_part, cX12_part, 7, (some .long), 1308) := vm_tb_of (i := 1308) rfl rfl
theorem vm_mc_209 : vm_mcP (12, yX12_steers, cX12_steers, 3, (some .int), 1278) := vm_tb_of (i := 1278) rfl rfl
theorem vm_mc_210 : vm_mcP (12, yX12_least, cX12_least, 5, (some .long), 1304) := vm_tb_of (i := 1304) rfl rfl
theorem vm_mc_211 : vm_mcP (12, yX12_entry, cX12_entry, 6, (some .long), 1334) := vm_tb_of (i := 1334) rfl rfl
theorem vm_mc_212 : vm_mcP (12, yX12_made, cX12_made, 10, (some .long), 1330) := vm_tb_of (i := 1330) rfl rfl
theorem vm_mc_213 : vm_mcP (12, yX12_trySet, cX12_trySet, 14, none, 1326) := vm_tb_of (i := 1326) rfl rfl
theorem vm_mc_214 : vm_mcP (12, yX12_bits, cX12_bits, 1, (some .int), 1322) := vm_tb_of (i := 1322) rfl rfl
theorem vm_mc_215 : vm_mcP (12, yX12_findShares, cX12_findShares, 9, none, 1319) := vm_tb_of (i := 1319) rfl rfl
theorem vm_mc_216 : vm_mcP (12, yX12_proof, cX12_proof, 5, (some .long), 1315) := vm_tb_of (i := 1315) rfl rfl
theorem vm_mc_217 : vm_mcP (12, yX12_bestOf, cX12_bestOf, 7, (some .int), 1342) := vm_tb_of (i := 1342) rfl rfl
theorem vm_mc_218 : vm_mcP (12, yX12_best, cX12_best, 2, (some .int), 1338) := vm_tb_of (i := 1338) rfl rfl
theorem vm_mc_219 : vm_mcP (12, yX12_bestGain, cX12_bestGain, 3, (some .long), 1346) := vm_tb_of (i := 1346) rfl rfl
theorem vm_mc_220 : vm_mcP (12, yX12_coarser, cX12_coarser, 7, (some .long), 1350) := vm_tb_of (i := 1350) rfl rfl
theorem vm_mc_221 : vm_mcP (12, yX12_work, cX12_work, 4, (some .int), 1354) := vm_tb_of (i := 1354) rfl rfl
theorem vm_mc_222 : vm_mcP (12, yX12_areRates, cX12_areRates, 2, (some .boolean), 1364) := vm_tb_of (i := 1364) rfl rfl
theorem vm_mc_223 : vm_mcP (12, yX12_menu, cX12_menu, 12, (some .int), 1360) := vm_tb_of (i := 1360) rfl rfl
theorem vm_mc_224 : vm_mcP (12, yX12_may, cX12_may, 9, (some .int), 1370) := vm_tb_of (i := 1370) rfl rfl
theorem vm_mc_225 : vm_mcP (12, yX12_terms, cX12_terms, 6, (some .int), 1374) := vm_tb_of (i := 1374) rfl rfl
theorem vm_mc_226 : vm_mcP (12, yX12_hasOf, cX12_hasOf, 5, (some .int), 1391) := vm_tb_of (i := 1391) rfl rfl
theorem vm_mc_227 : vm_mcP (12, yX12_findTerm, cX12_findTerm, 16, none, 1387) := vm_tb_of (i := 1387) rfl rfl
theorem vm_mc_228 : vm_mcP (12, yX12_findSums, cX12_findSums, 6, none, 1383) := vm_tb_of (i := 1383) rfl rfl
theorem vm_mc_229 : vm_mcP (12, yX12_promise, cX12_promise, 3, (some .long), 1378) := vm_tb_of (i := 1378) rfl rfl
theorem vm_mc_230 : vm_mcP (12, yX12_first, cX12_first, 4, (some .int), 1395) := vm_tb_of (i := 1395) rfl rfl
theorem vm_mc_231 : vm_mcP (12, yX12_start, cX12_start, 4, (some .int), 1400) := vm_tb_of (i := 1400) rfl rfl
theorem vm_mc_232 : vm_mcP (12, yX12_areDigits, cX12_areDigits, 4, (some .boolean), 1408) := vm_tb_of (i := 1408) rfl rfl
theorem vm_mc_233 : vm_mcP (12, yX12_team, cX12_team, 6, (some .int), 1404) := vm_tb_of (i := 1404) rfl rfl
theorem vm_mc_234 : vm_mcP (12, yX12_all, cX12_all, 4, (some .int), 1412) := vm_tb_of (i := 1412) rfl rfl
theorem vm_mc_235 : vm_mcP (12, yX12_isSet, cX12_isSet, 2, (some .boolean), 1420) := vm_tb_of (i := 1420) rfl rfl
theorem vm_mc_236 : vm_mcP (12, yX12_memberHas, cX12_memberHas, 3, (some .int), 1424) := vm_tb_of (i := 1424) rfl rfl
theorem vm_mc_237 : vm_mcP (12, yX12_has, cX12_has, 3, (some .int), 1416) := vm_tb_of (i := 1416) rfl rfl
theorem vm_mc_238 : vm_mcP (12, yX12_isBroken, cX12_isBroken, 4, (some .boolean), 1436) := vm_tb_of (i := 1436) rfl rfl
theorem vm_mc_239 : vm_mcP (12, yX12_firstBreak, cX12_firstBreak, 4, (some .int), 1432) := vm_tb_of (i := 1432) rfl rfl
theorem vm_mcs_5 : ∀ q ∈ vm_ms_5, vm_mcP q := List.forall_mem_cons.mpr ⟨vm_mc_200, List.forall_mem_cons.mpr ⟨vm_mc_201, List.forall_mem_cons.mpr ⟨vm_mc_202, List.forall_mem_cons.mpr ⟨vm_mc_203, List.forall_mem_cons.mpr ⟨vm_mc_204, List.forall_mem_cons.mpr ⟨vm_mc_205, List.forall_mem_cons.mpr ⟨vm_mc_206, List.forall_mem_cons.mpr ⟨vm_mc_207, List.forall_mem_cons.mpr ⟨vm_mc_208, List.forall_mem_cons.mpr ⟨vm_mc_209, List.forall_mem_cons.mpr ⟨vm_mc_210, List.forall_mem_cons.mpr ⟨vm_mc_211, List.forall_mem_cons.mpr ⟨vm_mc_212, List.forall_mem_cons.mpr ⟨vm_mc_213, List.forall_mem_cons.mpr ⟨vm_mc_214, List.forall_mem_cons.mpr ⟨vm_mc_215, List.forall_mem_cons.mpr ⟨vm_mc_216, List.forall_mem_cons.mpr ⟨vm_mc_217, List.forall_mem_cons.mpr ⟨vm_mc_218, List.forall_mem_cons.mpr ⟨vm_mc_219, List.forall_mem_cons.mpr ⟨vm_mc_220, List.forall_mem_cons.mpr ⟨vm_mc_221, List.forall_mem_cons.mpr ⟨vm_mc_222, List.forall_mem_cons.mpr ⟨vm_mc_223, List.forall_mem_cons.mpr ⟨vm_mc_224, List.forall_mem_cons.mpr ⟨vm_mc_225, List.forall_mem_cons.mpr ⟨vm_mc_226, List.forall_mem_cons.mpr ⟨vm_mc_227, List.forall_mem_cons.mpr ⟨vm_mc_228, List.forall_mem_cons.mpr ⟨vm_mc_229, List.forall_mem_cons.mpr ⟨vm_mc_230, List.forall_mem_cons.mpr ⟨vm_mc_231, List.forall_mem_cons.mpr ⟨vm_mc_232, List.forall_mem_cons.mpr ⟨vm_mc_233, List.forall_mem_cons.mpr ⟨vm_mc_234, List.forall_mem_cons.mpr ⟨vm_mc_235, List.forall_mem_cons.mpr ⟨vm_mc_236, List.forall_mem_cons.mpr ⟨vm_mc_237, List.forall_mem_cons.mpr ⟨vm_mc_238, List.forall_mem_cons.mpr ⟨vm_mc_239, fun _ h => absurd h List.not_mem_nil⟩⟩⟩⟩⟩⟩⟩⟩⟩⟩⟩⟩⟩⟩⟩⟩⟩⟩⟩⟩⟩⟩⟩⟩⟩⟩⟩⟩⟩⟩⟩⟩⟩⟩⟩⟩⟩⟩⟩⟩
theorem vm_mc_240 : vm_mcP (12, yX12_holds, cX12_holds, 3, (some .int), 1428) := vm_tb_of (i := 1428) rfl rfl
theorem vm_mc_241 : vm_mcP (12, yX12_breaks, cX12_breaks, 2, (some .int), 1440) := vm_tb_of (i := 1440) rfl rfl
theorem vm_mc_242 : vm_mcP (12, yX12_look, cX12_look, 4, (some .long), 1444) := vm_tb_of (i := 1444) rfl rfl
theorem vm_mc_243 : vm_mcP (12, yX12_contest, cX12_contest, 4, (some .int), 1448) := vm_tb_of (i := 1448) rfl rfl
theorem vm_mc_244 : vm_mcP (12, yX12_contestHas, cX12_contestHas, 5, (some .int), 1465) := vm_tb_of (i := 1465) rfl rfl
theorem vm_mc_245 : vm_mcP (12, yX12_isBest, cX12_isBest, 5, (some .boolean), 1461) := vm_tb_of (i := 1461) rfl rfl
theorem vm_mc_246 : vm_mcP (12, yX12_calmAt, cX12_calmAt, 5, (some .int), 1457) := vm_tb_of (i := 1457) rfl rfl
theorem vm_mc_247 : vm_mcP (12, yX12_calms, cX12_calms, 1, (some .int), 1453) := vm_tb_of (i := 1453) rfl rfl
theorem vm_mc_248 : vm_mcP (12, yX12_calm, cX12_calm, 2, (some .int), 1469) := vm_tb_of (i := 1469) rfl rfl
theorem vm_mc_249 : vm_mcP (12, yX12_feed, cX12_feed, 5, (some .int), 1473) := vm_tb_of (i := 1473) rfl rfl
theorem vm_mc_250 : vm_mcP (12, yX12_byteAt, cX12_byteAt, 2, (some .int), 1491) := vm_tb_of (i := 1491) rfl rfl
theorem vm_mc_251 : vm_mcP (12, yX12_puts, cX12_puts, 2, none, 1497) := vm_tb_of (i := 1497) rfl rfl
theorem vm_mc_252 : vm_mcP (12, yX12_rank, cX12_rank, 1, (some .int), 1512) := vm_tb_of (i := 1512) rfl rfl
theorem vm_mc_253 : vm_mcP (12, yX12_unwinds, cX12_unwinds, 2, none, 1516) := vm_tb_of (i := 1516) rfl rfl
theorem vm_mc_254 : vm_mcP (12, yX12_opensAt, cX12_opensAt, 3, (some .int), 1501) := vm_tb_of (i := 1501) rfl rfl
theorem vm_mc_255 : vm_mcP (12, yX12_opensWord, cX12_opensWord, 3, (some .int), 1505) := vm_tb_of (i := 1505) rfl rfl
theorem vm_mc_256 : vm_mcP (12, yX12_operand, cX12_operand, 5, (some .int), 1487) := vm_tb_of (i := 1487) rfl rfl
theorem vm_mc_257 : vm_mcP (12, yX12_behind, cX12_behind, 6, (some .int), 1509) := vm_tb_of (i := 1509) rfl rfl
theorem vm_mc_258 : vm_mcP (12, yX12_reads, cX12_reads, 4, (some .int), 1483) := vm_tb_of (i := 1483) rfl rfl
theorem vm_mc_259 : vm_mcP (12, yX12_contract, cX12_contract, 2, (some .int), 1479) := vm_tb_of (i := 1479) rfl rfl
theorem vm_mc_260 : vm_mcP (12, yX12_kept, cX12_kept, 2, (some .long), 1531) := vm_tb_of (i := 1531) rfl rfl
theorem vm_mc_261 : vm_mcP (12, yX12_worthOf, cX12_worthOf, 11, (some .int), 1528) := vm_tb_of (i := 1528) rfl rfl
theorem vm_mc_262 : vm_mcP (12, yX12_isContract, cX12_isContract, 2, (some .boolean), 1524) := vm_tb_of (i := 1524) rfl rfl
theorem vm_mc_263 : vm_mcP (12, yX12_worth, cX12_worth, 3, (some .int), 1520) := vm_tb_of (i := 1520) rfl rfl
theorem vm_mc_264 : vm_mcP (12, yX12_sign, cX12_sign, 3, (some .int), 1537) := vm_tb_of (i := 1537) rfl rfl
theorem vm_mc_265 : vm_mcP (12, yX12_choose, cX12_choose, 6, (some .int), 1541) := vm_tb_of (i := 1541) rfl rfl
theorem vm_mc_266 : vm_mcP (12, yX12_lot, cX12_lot, 3, (some .int), 1545) := vm_tb_of (i := 1545) rfl rfl
theorem vm_mc_267 : vm_mcP (12, yX12_year, cX12_year, 6, (some .int), 1550) := vm_tb_of (i := 1550) rfl rfl
theorem vm_mc_268 : vm_mcP (12, yX12_back, cX12_back, 1, (some .int), 1555) := vm_tb_of (i := 1555) rfl rfl
theorem vm_mc_269 : vm_mcP (12, yX12_then, cX12_then, 3, (some .int), 1559) := vm_tb_of (i := 1559) rfl rfl
theorem vm_mc_270 : vm_mcP (12, yX12_account, cX12_account, 5, (some .long), 1563) := vm_tb_of (i := 1563) rfl rfl
theorem vm_mc_271 : vm_mcP (12, yX12_likelyOf, cX12_likelyOf, 7, (some .long), 1572) := vm_tb_of (i := 1572) rfl rfl
theorem vm_mc_272 : vm_mcP (12, yX12_likely, cX12_likely, 4, (some .long), 1567) := vm_tb_of (i := 1567) rfl rfl
theorem vm_mc_273 : vm_mcP (12, yX12_suspect, cX12_suspect, 5, (some .int), 1576) := vm_tb_of (i := 1576) rfl rfl
theorem vm_mc_274 : vm_mcP (12, yX12_tasks, cX12_tasks, 4, (some .int), 1580) := vm_tb_of (i := 1580) rfl rfl
theorem vm_mc_275 : vm_mcP (12, yX12_doesOf, cX12_doesOf, 8, (some .int), 1589) := vm_tb_of (i := 1589) rfl rfl
theorem vm_mc_276 : vm_mcP (12, yX12_doesBoth, cX12_doesBoth, 3, (some .int), 1584) := vm_tb_of (i := 1584) rfl rfl
theorem vm_mc_277 : vm_mcP (12, yX12_rates, cX12_rates, 8, (some .int), 1593) := vm_tb_of (i := 1593) rfl rfl
theorem vm_mc_278 : vm_mcP (12, yX12_ratchet, cX12_ratchet, 12, (some .int), 1597) := vm_tb_of (i := 1597) rfl rfl
theorem vm_mc_279 : vm_mcP (12, yX12_count, cX12_count, 2, (some .int), 1601) := vm_tb_of (i := 1601) rfl rfl
theorem vm_mcs_6 : ∀ q ∈ vm_ms_6, vm_mcP q := List.forall_mem_cons.mpr ⟨vm_mc_240, List.forall_mem_cons.mpr ⟨vm_mc_241, List.forall_mem_cons.mpr ⟨vm_mc_242, List.forall_mem_cons.mpr ⟨vm_mc_243, List.forall_mem_cons.mpr ⟨vm_mc_244, List.forall_mem_cons.mpr ⟨vm_mc_245, List.forall_mem_cons.mpr ⟨vm_mc_246, List.forall_mem_cons.mpr ⟨vm_mc_247, List.forall_mem_cons.mpr ⟨vm_mc_248, List.forall_mem_cons.mpr ⟨vm_mc_249, List.forall_mem_cons.mpr ⟨vm_mc_250, List.forall_mem_cons.mpr ⟨vm_mc_251, List.forall_mem_cons.mpr ⟨vm_mc_252, List.forall_mem_cons.mpr ⟨vm_mc_253, List.forall_mem_cons.mpr ⟨vm_mc_254, List.forall_mem_cons.mpr ⟨vm_mc_255, List.forall_mem_cons.mpr ⟨vm_mc_256, List.forall_mem_cons.mpr ⟨vm_mc_257, List.forall_mem_cons.mpr ⟨vm_mc_258, List.forall_mem_cons.mpr ⟨vm_mc_259, List.forall_mem_cons.mpr ⟨vm_mc_260, List.forall_mem_cons.mpr ⟨vm_mc_261, List.forall_mem_cons.mpr ⟨vm_mc_262, List.forall_mem_cons.mpr ⟨vm_mc_263, List.forall_mem_cons.mpr ⟨vm_mc_264, List.forall_mem_cons.mpr ⟨vm_mc_265, List.forall_mem_cons.mpr ⟨vm_mc_266, List.forall_mem_cons.mpr ⟨vm_mc_267, List.forall_mem_cons.mpr ⟨vm_mc_268, List.forall_mem_cons.mpr ⟨vm_mc_269, List.forall_mem_cons.mpr ⟨vm_mc_270, List.forall_mem_cons.mpr ⟨vm_mc_271, List.forall_mem_cons.mpr ⟨vm_mc_272, List.forall_mem_cons.mpr ⟨vm_mc_273, List.forall_mem_cons.mpr ⟨vm_mc_274, List.forall_mem_cons.mpr ⟨vm_mc_275, List.forall_mem_cons.mpr ⟨vm_mc_276, List.forall_mem_cons.mpr ⟨vm_mc_277, List.forall_mem_cons.mpr ⟨vm_mc_278, List.forall_mem_cons.mpr ⟨vm_mc_279, fun _ h => absurd h List.not_mem_nil⟩⟩⟩⟩⟩⟩⟩⟩⟩⟩⟩⟩⟩⟩⟩⟩⟩⟩⟩⟩⟩⟩⟩⟩⟩⟩⟩⟩⟩⟩⟩⟩⟩⟩⟩⟩⟩⟩⟩⟩
theorem vm_mc_280 : vm_mcP (14, yJ6_compare_7cf53, cJ6_compare_7cf53, 2, (some .int), 736) := vm_tb_of (i := 736) rfl rfl
theorem vm_mc_281 : vm_mcP (14, yJ6_bitCount_0f7a4, cJ6_bitCount_0f7a4, 1, (some .int), 677) := vm_tb_of (i := 677) rfl rfl
theorem vm_mc_282 : vm_mcP (15, yJ9_floorMod_7cf53, cJ9_floorMod_7cf53, 3, (some .int), 29) := vm_tb_of (i := 29) rfl rfl
theorem vm_mc_283 : vm_mcP (15, yJ9_abs_067f4, cJ9_abs_067f4, 2, (some .long), 472) := vm_tb_of (i := 472) rfl rfl
theorem vm_mc_284 : vm_mcP (15, yJ9_max_7cf53, cJ9_max_7cf53, 2, (some .int), 411) := vm_tb_of (i := 411) rfl rfl
theorem vm_mc_285 : vm_mcP (15, yJ9_max_f86c9, cJ9_max_f86c9, 4, (some .long), 819) := vm_tb_of (i := 819) rfl rfl
theorem vm_mc_286 : vm_mcP (15, yJ9_min_7cf53, cJ9_min_7cf53, 2, (some .int), 408) := vm_tb_of (i := 408) rfl rfl
theorem vm_mc_287 : vm_mcP (15, yJ9_min_f86c9, cJ9_min_f86c9, 4, (some .long), 816) := vm_tb_of (i := 816) rfl rfl
theorem vm_mc_288 : vm_mcP (13, yL_cell, cL_cell, 2, (some .int), 1020) := vm_tb_of (i := 1020) rfl rfl
theorem vm_mcs_7 : ∀ q ∈ vm_ms_7.take 9, vm_mcP q := List.forall_mem_cons.mpr ⟨vm_mc_280, List.forall_mem_cons.mpr ⟨vm_mc_281, List.forall_mem_cons.mpr ⟨vm_mc_282, List.forall_mem_cons.mpr ⟨vm_mc_283, List.forall_mem_cons.mpr ⟨vm_mc_284, List.forall_mem_cons.mpr ⟨vm_mc_285, List.forall_mem_cons.mpr ⟨vm_mc_286, List.forall_mem_cons.mpr ⟨vm_mc_287, List.forall_mem_cons.mpr ⟨vm_mc_288, fun _ h => absurd h List.not_mem_nil⟩⟩⟩⟩⟩⟩⟩⟩⟩
def vm_msP (q : vm_T) : Bool := decide (plainFor q.2.1 = true) && decide (q.2.1.cls = vm_cn' q.1) && decide (Cond.initialized q.2.1.cls ∈ tables_1_1.take 17) && decide (q.2.1.cls ≠ "java/lang/invoke/MethodHandle") && decide (q.2.1.cls ≠ "java/lang/invoke/VarHandle") && decide (q.2.2.2.1 ≤ 30)
theorem vm_ms_all : (vm_ms.take vm_jl).all vm_msP = true := by decide +kernel
theorem vm_ms_len : vm_ms.length = vm_jl + 1 := by decide +kernel
set_option maxRecDepth 100000 in
theorem vm_mcs : ∀ q ∈ vm_ms.take vm_jl, vm_mcP q := by
  intro q hq
  have e : vm_ms.take vm_jl = vm_ms_0 ++ vm_ms_1 ++ vm_ms_2 ++ vm_ms_3 ++ vm_ms_4 ++ vm_ms_5 ++ vm_ms_6 ++ vm_ms_7.take 9 := rfl
  rw [e] at hq
  simp only [List.mem_append] at hq
  rcases hq with ((((((h | h) | h) | h) | h) | h) | h) | h
  · exact vm_mcs_0 _ h
  · exact vm_mcs_1 _ h
  · exact vm_mcs_2 _ h
  · exact vm_mcs_3 _ h
  · exact vm_mcs_4 _ h
  · exact vm_mcs_5 _ h
  · exact vm_mcs_6 _ h
  · exact vm_mcs_7 _ h
theorem vm_m_ok {j : Nat} (h : j < vm_jl) : Cond.code (vm_y j) (vm_cd j) (vm_mx j) (vm_rt j) ∈ vm_tb ∧ plainFor (vm_y j) = true ∧ (vm_y j).cls = vm_cn' (vm_own j) ∧ Cond.initialized (vm_y j).cls ∈ vm_tb ∧ ((vm_y j).cls ≠ "java/lang/invoke/MethodHandle" ∧ (vm_y j).cls ≠ "java/lang/invoke/VarHandle") ∧ vm_mx j ≤ 30 := by
  have hl : j < vm_ms.length := by rw [vm_ms_len]; omega
  have hm : vm_m j ∈ vm_ms.take vm_jl := by
    rw [List.mem_take_iff_getElem]
    exact ⟨j, by omega, by simp [vm_m, hl]⟩
  have h1 := List.all_eq_true.mp vm_ms_all _ hm
  simp only [vm_msP, Bool.and_eq_true, decide_eq_true_eq] at h1
  obtain ⟨⟨⟨⟨⟨a2, a3⟩, a4⟩, a5⟩, a6⟩, a7⟩ := h1
  exact ⟨vm_mcs _ hm, a2, a3, List.mem_filter.mpr ⟨List.mem_append_right _ (List.mem_append_left _ (List.mem_of_mem_take a4)), rfl⟩, ⟨a5, a6⟩, a7⟩
/-- a call's words -/
def vm_mlP (e : (Nat × Nat) × (Nat × Nat × Nat × Nat × Nat × Nat × Nat)) : Bool := match e with
  | ((o, idx), (kind, j, na, i1, i2, i3, i4)) =>
    if kind = 5 then decide (vm_at i1 = some (Cond.methodLink (vm_cn' o) idx Lib.objectInit)) && decide (vm_at i2 = some (Cond.instanceMethod Lib.objectInit)) && decide (vm_at i4 = some (Cond.code Lib.objectInit ⟨#[0xb1]⟩ 1 none))
    else if kind = 6 then decide (vm_at i1 = some (Cond.methodLink (vm_cn' o) idx arraycopyName)) && decide (vm_at i2 = some (Cond.native arraycopyName)) && decide (vm_at i3 = some (Cond.static arraycopyName)) && decide (vm_at i4 = some (Cond.initialized "java/lang/System"))
    else decide (j < vm_jl) && decide ((parseMethodDescriptor (vm_y j).desc).map (fun d => d.parameters.length) = some na) &&
      (if kind = 3 ∨ kind = 4 then decide (vm_at i1 = some (Cond.methodLinkNest (vm_cn' o) idx (vm_y j) "PaySteer")) else decide (vm_at i1 = some (Cond.methodLink (vm_cn' o) idx (vm_y j)))) &&
      (if kind = 1 ∨ kind = 3 then decide (vm_at i2 = some (Cond.static (vm_y j))) else decide (vm_at i2 = some (Cond.instanceMethod (vm_y j)))) &&
      (if kind = 0 then decide (vm_atL i3 = some (Cond.selects (vm_y j).cls (vm_y j) (vm_y j))) else true) &&
      (if kind = 2 ∨ kind = 4 then decide ((vm_y j).name = "<init>") && decide (vm_rt j = none) else true)
theorem vm_ml_a0 : ((vm_ml.drop 0).take 60).all vm_mlP = true := by decide +kernel
theorem vm_ml_a1 : ((vm_ml.drop 60).take 60).all vm_mlP = true := by decide +kernel
theorem vm_ml_a2 : ((vm_ml.drop 120).take 60).all vm_mlP = true := by decide +kernel
theorem vm_ml_a3 : ((vm_ml.drop 180).take 60).all vm_mlP = true := by decide +kernel
theorem vm_ml_a4 : ((vm_ml.drop 240).take 60).all vm_mlP = true := by decide +kernel
theorem vm_ml_a5 : ((vm_ml.drop 300).take 60).all vm_mlP = true := by decide +kernel
set_option maxRecDepth 100000 in
theorem vm_ml_all {e} (h : e ∈ vm_ml) : vm_mlP e = true := by
  have e1 : vm_ml = vm_ml.take 60 ++ ((vm_ml.drop 60).take 60 ++ ((vm_ml.drop 120).take 60 ++ ((vm_ml.drop 180).take 60 ++ ((vm_ml.drop 240).take 60 ++ (vm_ml.drop 300).take 60)))) := rfl
  rw [e1] at h
  simp only [List.mem_append] at h
  rcases h with h | h | h | h | h | h
  · exact List.all_eq_true.mp vm_ml_a0 _ h
  · exact List.all_eq_true.mp vm_ml_a1 _ h
  · exact List.all_eq_true.mp vm_ml_a2 _ h
  · exact List.all_eq_true.mp vm_ml_a3 _ h
  · exact List.all_eq_true.mp vm_ml_a4 _ h
  · exact List.all_eq_true.mp vm_ml_a5 _ h
def vm_cnP (e : (Nat × Nat) × (Nat × Int × Nat)) : Bool := if e.2.1 = 0 then decide (vm_at e.2.2.2 = some (Cond.constant (vm_cn' e.1.1) e.1.2 (Int32.ofInt e.2.2.1))) else decide (e.2.1 = 1) && decide (vm_at e.2.2.2 = some (Cond.constantLong (vm_cn' e.1.1) e.1.2 (Int64.ofInt e.2.2.1)))
theorem vm_cn_all : vm_cn.all vm_cnP = true := by decide +kernel
def vm_nwP (e : (Nat × Nat) × (Nat × Nat × Nat × Nat)) : Bool := decide (e.2.1 < 12) && decide (vm_at e.2.2.1 = some (Cond.classLink (vm_cn' e.1.1) e.1.2 (vm_F e.2.1).1)) && decide (vm_at e.2.2.2.1 = some (Cond.instantiable (vm_F e.2.1).1 (vm_F e.2.1).2.2)) && decide (vm_at e.2.2.2.2 = some (Cond.initialized (vm_F e.2.1).1))
theorem vm_nw_all : vm_nw.all vm_nwP = true := by decide +kernel
def vm_tyn (t : Nat) : FieldType := match t with
  | 0 => .int | 1 => .long | 2 => .byte | 3 => .array .int | 4 => .array .long | _ => .array .byte
def vm_mnP (e : (Nat × Nat) × (Nat × Nat × Nat × Nat)) : Bool := decide (3 ≤ e.2.1 ∧ e.2.1 < 6) && decide (vm_at e.2.2.1 = some (Cond.classLink (vm_cn' e.1.1) e.1.2 ("[" ++ (vm_tyn e.2.1).toString))) && decide (vm_at e.2.2.2.2 = some (Cond.arrayClass (vm_tyn (e.2.1 - 3))))
theorem vm_mn_all : vm_mn.all vm_mnP = true := by decide +kernel
theorem vm_ac_0 : Cond.arrayClass .int ∈ vm_tb := by decide +kernel
theorem vm_ac_1 : Cond.arrayClass .long ∈ vm_tb := by decide +kernel
theorem vm_ac_2 : Cond.arrayClass .byte ∈ vm_tb := by decide +kernel
theorem vm_kinds : vm_ml.all (fun e => decide (e.2.1 < 7)) = true := by decide +kernel
theorem vm_kind_ok {o idx kind j na : Nat} {w : Nat × Nat × Nat × Nat} (h : vm_ml.lookup (o, idx) = some (kind, j, na, w)) : kind < 7 := of_decide_eq_true (List.all_eq_true.mp vm_kinds _ (vm_lookup h))
