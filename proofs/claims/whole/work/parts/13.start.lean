/-! THE CLAIM OUT OF ONE WALK OF THE LAW'S BODY. Your part is whole_start (and what it stands on); all else here is the same for every law, but numbers. -/
def R_law : String := "PaySteerLaw"
def lw_P (b : Addr) (xs : List Int32) (args : Array Value) (s : State) : Prop := args = #[.ref b] ∧ s.IntsAt b xs ∧ xs.length ≤ 3585 ∧ (Jvm.Cond.and given_1 narrow_1).before args s = true
def lw_Q (_ : Array Value) (s : State) (o : Outcome) (t : State) : Prop := o = .returned (some (.int 1)) ∧ Framed s o t [] 600000 7302250
def lw_Z (below : List Frame) (a : Array Value) (s : State) : State → Prop := fun t => ∃ o, t.status = .running ∧ Ended t below o ∧ lw_Q a s o t
/-- the law's own end, with 1 on the stack, nothing written that was there before, its room as the claim has it -/
theorem lw_ret {p : Program} {l : Launch} {e : Env} {s : State} {m : MethodId} {below : List Frame} {meth : Method} {c : Code} {b : Nat} (hx : p.tables.exec = Jvm.exec) (hb : c.code = code) (hr : meth.sig.returnType = ret) (hlocks : meth.locks = false) {pc : Nat} {H : Heap} {ls : Array Slot} (hdg : decode code pc = .ok (.ireturn, 1)) : W p l e room_1 s m #[Value.ref b] below meth c H [] 600000 7302250 (lw_Z below #[Value.ref b] s) (F0 m pc ls [.int 1]) := by
  intro T hT X
  obtain ⟨fs, hret, hrun, hended, hW, hframe⟩ := X.leave (v := some (.int 1)) (hlocks := hlocks) (fun h => by rw [hr] at h; cases h)
  have hmeth' : T.vm.method? m = some meth := X.method'
  refine ⟨T.setFrames fs, ?_, .returned (some (.int 1)), hrun, hended, rfl, ⟨_, rfl⟩, hW, hframe⟩
  jvm_step X.here [X.here.top, hx, hb, hdg, hmeth', hr, ret, narrow_b1]
  (try refine ⟨rfl, ?_⟩); (try refine ⟨rfl, ?_⟩)
  first | (intro acts; rw [hret _ acts rfl rfl rfl]) | rw [hret _ _ rfl rfl rfl]
  exact Steps.refl _
/-- what holds at the law's entry: the machine, the code, the tables' words (any of lw_tbl by 'hts w (by decide +kernel)'), the script of L ints xs at the cell b, what the Statement gives of the start (any of its parts by flat_of_before) -/
def lw_At (p : Program) (s : State) (m : MethodId) (meth : Method) (c : Code) (b L : Nat) (xs : Nat → Int32) : Prop :=
  p.tables.exec = Jvm.exec ∧ c.code = code ∧ meth.sig.returnType = ret ∧ c.maxLocals = 4 ∧ s.vm.findClass R_law = some m.cls ∧ (∀ w ∈ lw_tbl, w.before #[Value.ref b] s = true) ∧ va_X b L xs s s.heap ∧ b < s.heap.size ∧ meth.locks = false ∧ (Jvm.Cond.and given_1 narrow_1).before #[Value.ref b] s = true
theorem vm_inst {c : Nat} (h : c < 12) : Cond.instantiable (vm_F c).1 (vm_F c).2.2 ∈ vm_tb := by
  rcases (show c = 0 ∨ c = 1 ∨ c = 2 ∨ c = 3 ∨ c = 4 ∨ c = 5 ∨ c = 6 ∨ c = 7 ∨ c = 8 ∨ c = 9 ∨ c = 10 ∨ c = 11 by omega) with rfl | rfl | rfl | rfl | rfl | rfl | rfl | rfl | rfl | rfl | rfl | rfl <;> decide +kernel
set_option maxRecDepth 100000 in
theorem vm_m_law : vm_m vm_jl = (13, x, code, maxLocals, ret, 0) := by
  unfold vm_m
  rw [List.getD_eq_getElem?_getD]
  rfl
/-- what is left to show: the law's run in the small machine -/
def vm_Law : Prop := ∀ (L : Nat) (xs : Nat → Int), L ≤ 3585 → (∀ i, (Int32.ofInt (xs i)).toInt = xs i) → ∃ (d n : Nat) (S2 : List vSh) (M2 : vM), d ≤ 1000 ∧ vm_run xs L (vm_call xs L d n) n vm_jl 0 (vm_init 4 [vR (-2)]) [] ([], fun _ _ => 0) = some (some (vI 1), (S2, M2)) ∧ S2.length ≤ 600000 ∧ vm_sz S2 ≤ 7302250
theorem vm_start (hlaw : vm_Law) {p : Program} {e : Env} {s : State} {m : MethodId} {below : List Frame} {meth : Method} {c : Code} (l : Launch) {b L : Nat} {xs : Nat → Int32} (hL : L ≤ 3585) (C0 : lw_At p s m meth c b L xs) : W p l e room_1 s m #[Value.ref b] below meth c s.heap [] 0 0 (lw_Z below #[Value.ref b] s) (entryFrame m ([Value.ref b] : List Value).toArray 4) := by
  obtain ⟨hx, hb, hr, hml, hown, hts, hX, hbl, hlocks, hgv⟩ := C0
  obtain ⟨d, n, S2, M2, hd, hrun, hc1, hc2⟩ := hlaw L (fun i => (xs i).toInt) hL (fun i => by rw [Int32.ofInt_toInt])
  have hts2 : ∀ w ∈ vm_tb, w.before #[Value.ref b] s = true := fun w hw => hts w (List.mem_filter.mp hw).1
  have hk : ∀ k : Nat, ∃ q : ClassId × (Nat → Nat), ∀ v : vw_C, vwCl[k]? = some v → u_Kn s v.1 v.2.1 v.2.2 q.1 q.2 := by
    intro k
    by_cases hk : k < 12
    · obtain ⟨f1, f2, f3, f4, f5, f6⟩ := vm_F_ok hk
      obtain ⟨c0, iS0, hK0⟩ := u_known (C := (vm_F k).1) (T := (vm_F k).2.1) (N := (vm_F k).2.2) hts2 f3 (hts2 _ (vm_inst hk))
      refine ⟨(c0, iS0), fun v hv => ?_⟩
      rw [f1] at hv
      cases hv
      exact hK0
    · refine ⟨(0, fun _ => 0), fun v hv => ?_⟩
      have : k < vwCl.length := (List.getElem?_eq_some_iff.mp hv).1
      exact absurd this (by show ¬ k < 12; exact hk)
  have ha : ∀ t : Nat, ∃ cA : ClassId, t < 6 → ArrOfT s cA (vm_tyn t) ∧ va_RA s cA (vm_tyn t) := by
    have hac : ∀ ty : FieldType, (∀ C, ty ≠ .object C) → Cond.arrayClass ty ∈ vm_tb → ∃ cA : ClassId, ArrOfT s cA ty ∧ va_RA s cA ty := fun ty hty hw => by
      obtain ⟨c, k, comp, h1, h2, h3⟩ := Cond.arrayClass_spec (hts2 _ hw)
      refine ⟨c, fun N z => ⟨(fun q hq => by cases hq), k, h2, comp, h3⟩, ?_⟩
      cases ty <;> first | exact h1 | exact absurd rfl (hty _)
    have hao : ∀ ty : FieldType, Cond.arrayOver (.array ty) ∈ lw_tbl → ∃ cA : ClassId, ArrOfT s cA (.array ty) ∧ va_RA s cA (.array ty) := fun ty hw => by
      obtain ⟨comp, c, k, h1, h2, h3, h4, h5⟩ := arrayOverA_spec (hts _ hw)
      exact ⟨c, fun N z => ⟨(fun q hq => by cases hq), k, h3, comp, h4⟩, h5⟩
    intro t
    by_cases ht : t < 6
    · rcases (show t = 0 ∨ t = 1 ∨ t = 2 ∨ t = 3 ∨ t = 4 ∨ t = 5 by omega) with rfl | rfl | rfl | rfl | rfl | rfl
      · obtain ⟨cA, h⟩ := hac .int (fun _ q => by cases q) vm_ac_0
        exact ⟨cA, fun _ => h⟩
      · obtain ⟨cA, h⟩ := hac .long (fun _ q => by cases q) vm_ac_1
        exact ⟨cA, fun _ => h⟩
      · obtain ⟨cA, h⟩ := hac .byte (fun _ q => by cases q) vm_ac_2
        exact ⟨cA, fun _ => h⟩
      · obtain ⟨cA, h⟩ := hao .int (List.mem_append_right _ (vm_at_in (i := 35) rfl))
        exact ⟨cA, fun _ => h⟩
      · obtain ⟨cA, h⟩ := hao .long (List.mem_append_right _ (vm_at_in (i := 63) rfl))
        exact ⟨cA, fun _ => h⟩
      · obtain ⟨cA, h⟩ := hao .byte (List.mem_append_right _ (vm_at_in (i := 157) rfl))
        exact ⟨cA, fun _ => h⟩
    · exact ⟨0, fun q => absurd q ht⟩
  obtain ⟨f, hf⟩ := Classical.axiomOfChoice hk
  obtain ⟨dA, hdA⟩ := Classical.axiomOfChoice ha
  have hK : va_K (fun k => (f k).1, fun k => (f k).2) vwCl (vm_tys dA) s := by
    refine ⟨fun k q hq => hf k q hq, fun k q hq => ?_⟩
    have hk6 : k < 6 := (List.getElem?_eq_some_iff.mp hq).1
    rw [vm_tys_at hk6] at hq
    cases hq
    exact hdA k hk6
  have hNW : vm_NW s := ⟨fun o i y hy => va_Nw.of rfl (hts _ (List.mem_append_right _ hy)), hts _ (List.mem_append_right _ (vm_at_in (i := 35) rfl)), hts _ (List.mem_append_right _ (vm_at_in (i := 63) rfl)), hts _ (List.mem_append_right _ (vm_at_in (i := 157) rfl))⟩
  have hxo : (fun i => Int32.ofInt ((fun i => (xs i).toInt) i)) = xs := funext fun i => Int32.ofInt_toInt _
  have ej : vm_m vm_jl = (13, x, code, maxLocals, ret, 0) := vm_m_law
  have C : vm_Cx dA (fun k => (f k).1, fun k => (f k).2) s.heap.size b L (fun i => (xs i).toInt) p s m #[Value.ref b] meth c vm_jl := ⟨hx, by rw [hb, vm_cd, ej], by rw [hml, vm_mx, ej]; rfl, by rw [vm_own, ej]; exact hown, hts2, by rw [hr, vm_rt, ej], hlocks, fun hn => by rw [vm_y, ej] at hn; exact absurd hn (by decide), by rw [hxo]; exact hX, hbl, Nat.le_refl _, hNW, hK, fun i _ => by rw [Int32.ofInt_toInt], by omega⟩
  have hmx : vm_mx vm_jl = 4 := by rw [vm_mx, ej]; rfl
  rw [lg_entry_eq]
  have hLR := vm_entry (b := b) (ad := fun _ => 0) (n := 4) (as := [vR (-2)]) (by decide)
  have rel : vm_Rl dA (fun k => (f k).1, fun k => (f k).2) s.heap.size b s 4 0 0 (fun _ => 0) [] (fun _ _ => 0) (vm_init 4 [vR (-2)]) [] s.heap [] ((lg_sl ([vR (-2)].map (vm_cv b (fun _ => 0))) ++ List.replicate (4 - (lg_sl ([vR (-2)].map (vm_cv b (fun _ => 0)))).length) Slot.unset).toArray) 0 0 := by
    refine ⟨fun k q h => by simp [vm_ws] at h, ⟨fun i j p q h => by simp [vm_ws] at h, fun k q h => by simp [vm_ws] at h⟩, va_S.rf, fun a sh k h => by simp at h, fun v hv => (by cases hv), vm_init_ok (fun v hv => ?_), hLR, rfl, rfl, rfl⟩
    rw [List.mem_singleton.mp hv]
    exact ⟨by decide, by decide⟩
  refine vm_run_ok (nl := 4) (n0 := 0) (z0 := 0) (ad := fun _ => 0) (l := l) (d := d) (S2 := S2) (M2 := M2) (r := some (vI 1)) C hmx.symm (by show d + 2 ≤ 2048 ∧ 64 * (d + 2) ≤ 84000; omega) (vm_met hbl (fun i _ => by rw [Int32.ofInt_toInt]) (by omega) n d) (by show S2.length ≤ 0 + 600000 ∧ vm_sz S2 ≤ 0 + 7302250; omega) ?_ n 0 (vm_init 4 [vR (-2)]) [] [] (fun _ _ => 0) s.heap [] _ 0 0 (fun _ => 0) hrun (Nat.le_refl _) (fun _ _ => rfl) rel
  intro pc len t i ls st H locs LS cells slots ad1 hd ht hret hag hrel
  have hcells : cells ≤ 600000 := by have := hrel.2.2.2.2.2.2.2.1; omega
  have hslots : slots ≤ 7302250 := by have := hrel.2.2.2.2.2.2.2.2.1; omega
  unfold vm_ret at hret
  rcases ht with ⟨rfl, rfl, rfl⟩ | ⟨rfl, rfl, rfl⟩ | ⟨rfl, rfl, rfl⟩
  · split at hret
    · next x0 _ =>
      have e0 : x0 = 1 := by
        split at hret
        · cases hret; rfl
        · split at hret
          · split at hret
            · cases hret; rfl
            · cases hret
          · cases hret
      subst e0
      have hd' : decode code pc = .ok (.ireturn, 1) := by rw [vm_cd, ej] at hd; exact hd
      exact va_forget hrel.2.2.1.2.2 (W.widen hcells hslots (lw_ret hx hb hr hlocks hd'))
    · next q => exact absurd q (by decide)
    · next q => exact absurd q (by decide)
    · cases hret
  · split at hret
    · next q => exact absurd q (by decide)
    · split at hret <;> cases hret
    · next q => exact absurd q (by decide)
    · cases hret
  · split at hret
    · next q => exact absurd q (by decide)
    · next q => exact absurd q (by decide)
    · split at hret <;> cases hret
    · cases hret
