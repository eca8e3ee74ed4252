/-! THE CLASS'S LEAST SHARES are those of a set of acts and sights -/
section SM
variable {M : vM} {ss acts a w n q : Nat} {ch : Nat → Nat → Int} {co : Nat → Int} {B : Nat → Nat} {t : Int} {x y : Nat → Int}
abbrev mA (n ss a : Nat) (ch : Nat → Nat → Int) (co : Nat → Int) := shA n a (2 * ss) ch co
abbrev mC (ss a : Nat) (ch : Nat → Nat → Int) := shC a (2 * ss) ch
def SmH (n ss a : Nat) (ch : Nat → Nat → Int) : Prop := n ≤ 3 ∧ (2 ≤ ss ∧ ss ≤ 4) ∧ a ≤ n ∧ ∃ k, k < ss ∧ ch a k ≠ 0
theorem dot_ib {g : Nat → Int} (hn : n ≤ 3) (ha : a ≤ n) (hy : y a = 0) : dot y g (n + 1) = dot (fun s => g (ib a s)) (fun s => y (ib a s)) n := by
  have c : n = 0 ∨ n = 1 ∨ n = 2 ∨ n = 3 := by omega
  rcases c with rfl | rfl | rfl | rfl
  · have : a = 0 := by omega
    subst this
    simp [dot, ib, hy]
  · have : a = 0 ∨ a = 1 := by omega
    rcases this with rfl | rfl <;> simp [dot, ib, hy] <;> grind
  · have : a = 0 ∨ a = 1 ∨ a = 2 := by omega
    rcases this with rfl | rfl | rfl <;> simp [dot, ib, hy] <;> grind
  · have : a = 0 ∨ a = 1 ∨ a = 2 ∨ a = 3 := by omega
    rcases this with rfl | rfl | rfl | rfl <;> simp [dot, ib, hy] <;> grind
theorem sm_row (hn : n ≤ 3) {e : Nat} (he : e < 2 * ss) (hx : ∀ s, n ≤ s → x s = 0) : lpL (mA n ss a ch co) (mC ss a ch) (5 + e) t x = sg2 e * (dot (fun s => ch (ib a s) (e / 2)) x n - ch a (e / 2) * t) := by
  rw [dot_s4 (by omega) hx]
  have g : ∀ s, s < 4 → mA n ss a ch co (5 + e) s * x s = sg2 e * (ch (ib a s) (e / 2) * x s) := fun s hs => by
    unfold mA shA
    rw [Nat.add_sub_cancel_left, if_neg (show ¬ 5 + e = 0 by omega), if_neg (show ¬ 5 + e ≤ 4 by omega)]
    by_cases z : s < n
    · rw [if_pos ⟨by omega, z⟩, Int.mul_assoc]
    · rw [if_neg (by omega), hx s (by omega)]; omega
  unfold lpL
  simp only [s4, g 0 (by omega), g 1 (by omega), g 2 (by omega), g 3 (by omega)]
  unfold mC shC
  rw [Nat.add_sub_cancel_left, if_pos (by omega)]
  grind
theorem sm_goal (hn : n ≤ 3) (hx : ∀ s, n ≤ s → x s = 0) : lpL (mA n ss a ch co) (mC ss a ch) 0 t x = dot (fun s => co (ib a s)) x n := by
  rw [dot_s4 (by omega) hx]
  have g : ∀ s, s < 4 → mA n ss a ch co 0 s * x s = co (ib a s) * x s := fun s hs => by
    unfold mA shA
    rw [if_pos rfl]
    by_cases z : s < n
    · rw [if_pos z]
    · rw [if_neg z, hx s (by omega)]; omega
  unfold lpL
  simp only [s4, g 0 (by omega), g 1 (by omega), g 2 (by omega), g 3 (by omega)]
  unfold mC shC
  rw [if_neg (by omega)]
  omega
theorem sm_x {k : Nat} (hk : k < 4) : lpL (mA n ss a ch co) (mC ss a ch) (k + 1) t x = x k := by
  have g : ∀ s, s < 4 → mA n ss a ch co (k + 1) s = if k = s then 1 else 0 := fun s hs => by
    unfold mA shA
    rw [if_neg (by omega), if_pos (by omega)]
    by_cases e : k = s
    · rw [if_pos (by omega), if_pos e]
    · rw [if_neg (by omega), if_neg e]
  unfold lpL
  simp only [s4, g 0 (by omega), g 1 (by omega), g 2 (by omega), g 3 (by omega)]
  unfold mC shC
  rw [if_neg (by omega)]
  rcases lt4 hk with rfl | rfl | rfl | rfl <;> simp
/-- of shares: a point of the class's -/
def xo (n a : Nat) (y : Nat → Int) (s : Nat) : Int := if s < n then y (ib a s) else 0
theorem xo_dot {g : Nat → Int} : ∀ k, k ≤ n → dot g (xo n a y) k = dot g (fun s => y (ib a s)) k
  | 0, _ => rfl
  | k + 1, h => by
    rw [dot, dot, xo_dot k (by omega)]
    unfold xo
    rw [if_pos (by omega)]
theorem ok_L (h : SmH n ss a ch) (hy : okF ss (n + 1) a ch y t) : ∀ i, 1 ≤ i → rl n (2 * ss) i → 0 ≤ lpL (mA n ss a ch co) (mC ss a ch) i t (xo n a y) := fun i h1 hi => by
  obtain ⟨hn, hss, ha, _⟩ := h
  obtain ⟨ht, h0, hya, he⟩ := hy
  have hx : ∀ s, n ≤ s → xo n a y s = 0 := fun s hs => by unfold xo; rw [if_neg (by omega)]
  rcases hi with z | z
  · obtain ⟨k, rfl⟩ : ∃ k, i = k + 1 := ⟨i - 1, by omega⟩
    rw [sm_x (by omega)]
    unfold xo
    rw [if_pos (by omega)]
    exact h0 _
  · obtain ⟨e, rfl⟩ : ∃ e, i = 5 + e := ⟨i - 5, by omega⟩
    rw [sm_row hn (by omega) hx, xo_dot n (Nat.le_refl n)]
    have := he (e / 2) (by omega)
    rw [dot_ib hn ha hya] at this
    rw [this, Int.mul_comm t]
    omega
/-- what the class's point is to the reference -/
def Zs (a : Nat) (f : Nat → Int) : Nat → Int
  | 0 => f 0
  | b + 1 => if b = a then 0 else f (pl a b + 1)
def ins (p : Nat) (f : Nat → Int) (k : Nat) : Int := if k < p then f k else if k = p then 0 else f (k - 1)
theorem lxn_sh {f g : Nat → Int} : ∀ {m i : Nat}, lxn f m i → (∀ k, i ≤ k → k < i + m → g (k + 1) = f k) → lxn g m (i + 1)
  | 0, _, _, _ => trivial
  | m + 1, i, h, e => by
    have e0 := e i (Nat.le_refl i) (by omega)
    rcases h with h | ⟨h1, h2⟩
    · exact Or.inl (by rw [e0]; exact h)
    · exact Or.inr ⟨by rw [e0]; exact h1, lxn_sh h2 (fun k y1 y2 => e k (by omega) (by omega))⟩
theorem lxn_ins {f : Nat → Int} {p : Nat} : ∀ {m i : Nat}, i ≤ p → p ≤ i + m → lxn f m i → lxn (ins p f) (m + 1) i
  | 0, i, h1, h2, _ => Or.inr ⟨by unfold ins; rw [if_neg (by omega), if_pos (by omega)], trivial⟩
  | m + 1, i, h1, h2, h => by
    by_cases e : i = p
    · refine Or.inr ⟨by unfold ins; rw [if_neg (by omega), if_pos e], lxn_sh h (fun k y1 y2 => ?_)⟩
      unfold ins
      rw [if_neg (by omega), if_neg (by omega), Nat.add_sub_cancel]
    · have e0 : ins p f i = f i := by unfold ins; rw [if_pos (by omega)]
      rcases h with h | ⟨q1, q2⟩
      · exact Or.inl (by rw [e0]; exact h)
      · exact Or.inr ⟨by rw [e0]; exact q1, lxn_ins (by omega) (by omega) q2⟩
theorem sm_opt (h : SmH n ss a ch) (hA : LpA n (2 * ss) (mA n ss a ch co) (mC ss a ch)) (hS : LpS n (2 * ss) (mA n ss a ch co) B) (hy : okF ss (n + 1) a ch y t) : lxn (fun i => lpD (mA n ss a ch co) B * co0 (dot y co (n + 1)) y i - Zs a (lp0 (mA n ss a ch co) (mC ss a ch) B) i * t) (n + 1 + 1) 0 := by
  have q := lp_opt hA hS (ok_L (co := co) h hy)
  obtain ⟨hn, hss, ha, _⟩ := h
  obtain ⟨ht, h0, hya, he⟩ := hy
  have hx : ∀ s, n ≤ s → xo n a y s = 0 := fun s hs => by unfold xo; rw [if_neg (by omega)]
  refine lxn_c (fun k _ hk => ?_) (lxn_ins (p := a + 1) (by omega) (by omega) q)
  unfold ins
  cases k with
  | zero =>
    rw [if_pos (show 0 < a + 1 by omega)]
    show lpD _ B * dot y co (n + 1) - lp0 _ _ B 0 * t = lpD _ B * lpL _ _ 0 t (xo n a y) - lp0 _ _ B 0 * t
    rw [sm_goal hn hx, xo_dot n (Nat.le_refl n), ← dot_ib hn ha hya]
  | succ b =>
    show lpD _ B * y b - (if b = a then 0 else lp0 _ _ B (pl a b + 1)) * t = _
    by_cases z1 : b < a
    · rw [if_pos (show b + 1 < a + 1 by omega), if_neg (show ¬ b = a by omega)]
      show lpD _ B * y b - lp0 _ _ B (pl a b + 1) * t = lpD _ B * lpL _ _ (b + 1) t (xo n a y) - lp0 _ _ B (b + 1) * t
      rw [sm_x (by omega)]
      unfold xo pl ib
      rw [if_pos (show b < n by omega), if_pos z1, if_pos z1]
    · by_cases z2 : b = a
      · rw [if_neg (show ¬ b + 1 < a + 1 by omega), if_pos (show b + 1 = a + 1 by omega), if_pos z2, z2, hya]; omega
      · obtain ⟨c, rfl⟩ : ∃ c, b = c + 1 := ⟨b - 1, by omega⟩
        rw [if_neg (show ¬ c + 1 + 1 < a + 1 by omega), if_neg (show ¬ c + 1 + 1 = a + 1 by omega), if_neg z2]
        show lpD _ B * y (c + 1) - lp0 _ _ B (pl a (c + 1) + 1) * t = lpD _ B * lpL _ _ (c + 1) t (xo n a y) - lp0 _ _ B (c + 1) * t
        rw [sm_x (by omega)]
        unfold xo pl ib
        rw [if_pos (show c < n by omega), if_neg z1, if_neg (show ¬ c < a by omega), Nat.add_sub_cancel]
/-- nothing hired beside: no shares -/
theorem sm_zero (h : SmH n ss a ch) (hA : LpA n (2 * ss) (mA n ss a ch co) (mC ss a ch)) (hs : SvYes n (2 * ss) (mA n ss a ch co) (mC ss a ch) B) (hz : ∀ k, k < n → lp0 (mA n ss a ch co) (mC ss a ch) B (k + 1) = 0) : False := by
  obtain ⟨hn, hss, ha, k, hk, hne⟩ := h
  have hD := hs.1.1
  have hx : ∀ s, lp0 (mA n ss a ch co) (mC ss a ch) B (s + 1) = 0 ∨ 4 ≤ s := fun s => by
    by_cases z : s < n
    · exact Or.inl (hz s z)
    · by_cases z4 : s < 4
      · have e := lp_0B (A := mA n ss a ch co) (C := mC ss a ch) (B := B) (j := s) z4
        rw [hs.1.2.2.1 s (by omega) z4] at e
        exact Or.inl e
      · exact Or.inr (by omega)
  have row : ∀ e, e < 2 * ss → 0 ≤ sg2 e * (0 - ch a (e / 2) * lpD (mA n ss a ch co) B) := fun e he => by
    have p := hs.2 (5 + e) (by omega) (Or.inr ⟨by omega, by omega⟩)
    rw [← lp_vert hA] at p
    have e2 : lpL (mA n ss a ch co) (mC ss a ch) (5 + e) (lpD (mA n ss a ch co) B) (fun k => lp0 (mA n ss a ch co) (mC ss a ch) B (k + 1)) = lpL (mA n ss a ch co) (mC ss a ch) (5 + e) (lpD (mA n ss a ch co) B) (fun _ => 0) := by
      unfold lpL
      simp only [s4, (hx 0).resolve_right (by omega), (hx 1).resolve_right (by omega), (hx 2).resolve_right (by omega), (hx 3).resolve_right (by omega)]
    rw [e2, sm_row hn he (fun _ _ => rfl)] at p
    have ez : ∀ g : Nat → Int, ∀ m, dot g (fun _ => 0) m = 0 := fun g m => by
      induction m with
      | zero => rfl
      | succ m ih => rw [dot, ih]; omega
    rw [ez] at p
    exact p
  have r1 := row (2 * k) (by omega)
  have r2 := row (2 * k + 1) (by omega)
  rw [show 2 * k / 2 = k by omega, show sg2 (2 * k) = 1 by unfold sg2; rw [if_pos (by omega)]] at r1
  rw [show (2 * k + 1) / 2 = k by omega, show sg2 (2 * k + 1) = -1 by unfold sg2; rw [if_neg (by omega)]] at r2
  have r3 : ch a k * lpD (mA n ss a ch co) B = 0 := by omega
  rcases Int.mul_eq_zero.mp r3 with z | z
  · exact hne z
  · omega
theorem js_at {u : Nat → Nat} {v : Nat → Int} {c : Nat} : ∀ k : Nat, c < k → (∀ c c', c < c' → c' < k → u c ≠ u c') → js u v k (u c) = v c
  | 0, h, _ => by omega
  | k + 1, h, hu => by
    rw [js]
    by_cases e : c = k
    · rw [e, if_pos rfl, js_z k (fun i hi => hu i k hi (by omega))]; omega
    · rw [js_at k (by omega) (fun c c' h1 h2 => hu c c' h1 (by omega)), if_neg (fun z => hu c k (by omega) (by omega) z.symm)]; omega
theorem dot_js {f v : Nat → Int} {u : Nat → Nat} : ∀ q : Nat, (∀ c, c < q → u c < n) → dot f (fun s => js u v q s) n = dot (fun c => f (u c)) v q
  | 0, _ => by
    have : ∀ m, dot f (fun _ => 0) m = 0 := fun m => by
      induction m with
      | zero => rfl
      | succ m ih => rw [dot, ih]; omega
    exact this n
  | q + 1, h => by
    rw [dot, ← dot_js q (fun c hc => h c (by omega))]
    have g : ∀ m, dot f (fun s => js u v (q + 1) s) m = dot f (fun s => js u v q s) m + (if u q < m then f (u q) * v q else 0) := fun m => by
      induction m with
      | zero => rw [if_neg (by omega)]; rfl
      | succ m ih =>
        rw [dot, ih, dot, js]
        by_cases e : u q = m
        · rw [if_pos e, if_neg (by omega), if_pos (by omega), e]; grind
        · rw [if_neg e]
          by_cases z : u q < m
          · rw [if_pos z, if_pos (by omega)]; grind
          · rw [if_neg z, if_neg (by omega)]; grind
    rw [g n, if_pos (h q (by omega))]
theorem dot_4 {f x : Nat → Int} {q : Nat} (hq : q ≤ 4) : dot f x q = s4 (fun c => if c < q then f c * x c else 0) := by
  have : q = 0 ∨ q = 1 ∨ q = 2 ∨ q = 3 ∨ q = 4 := by omega
  rcases this with rfl | rfl | rfl | rfl | rfl <;> simp [dot, s4]
theorem cr_eq {wh wr : Nat → Nat} (hq : q ≤ 4) {r : Nat} (hr : r < q) : dot (fun c => eF wh wr ch r c) (cr q a wh wr ch) q = ct q wh wr ch * ch a (wr r) := by
  have h := cramer (n := q) (F := eF wh wr ch) (v := ev a wr ch) hq (x := fun s => if s < q then detp q (colr (eF wh wr ch) s (ev a wr ch)) else 0) (fun s hs => by rw [if_pos hs]) (fun s hs => by rw [if_neg (by omega)]) hr
  rw [dot_4 hq]
  have e : ∀ s, s < 4 → (if s < q then eF wh wr ch r s * cr q a wh wr ch s else 0) = sgn (detp q (eF wh wr ch)) * (pad q (eF wh wr ch) r s * (if s < q then detp q (colr (eF wh wr ch) s (ev a wr ch)) else 0)) := fun s hs => by
    by_cases z : s < q
    · rw [if_pos z, if_pos z]
      unfold pad cr
      rw [if_pos ⟨hr, z⟩]
      grind
    · rw [if_neg z, if_neg z, Int.mul_zero, Int.mul_zero]
  simp only [s4] at h ⊢
  rw [e 0 (by omega), e 1 (by omega), e 2 (by omega), e 3 (by omega), ← Int.mul_add, ← Int.mul_add, ← Int.mul_add, h]
  unfold ct
  show _ * (ch a (wr r) * _) = _
  grind
/-- the basis' lines: unknowns that aren't taken, sights that are -/
theorem sm_fin (h : SmH n ss a ch) (hA : LpA n (2 * ss) (mA n ss a ch co) (mC ss a ch)) (hs : SvYes n (2 * ss) (mA n ss a ch co) (mC ss a ch) B) {u wh wr : Nat → Nat} (hq : q ≤ 3) (hu : ∀ c, c < q → u c < n ∧ wh c = ib a (u c)) (hi : ∀ c c', c < c' → c' < q → u c ≠ u c') (hd : detp q (eF wh wr ch) ≠ 0) (hB : ∀ j, j < n → (∃ k, k < n ∧ B j = k + 1 ∧ ∀ c, c < q → u c ≠ k) ∨ ∃ e, e < 2 * ss ∧ B j = 5 + e ∧ ∃ r, r < q ∧ wr r = e / 2) : okS ss (n + 1) a q wh wr ch ∧ ∀ i, i ≤ n + 1 → lpD (mA n ss a ch co) B * co0 (ysu (n + 1) q a wh wr ch co) (yb q a wh wr ch) i = Zs a (lp0 (mA n ss a ch co) (mC ss a ch) B) i * ct q wh wr ch := by
  have hsm := h
  obtain ⟨hn, hss, ha, _⟩ := h
  have ht := ct_p hd
  have hD := hs.1.1
  -- the class's point
  have hx : ∀ s, n ≤ s → js u (cr q a wh wr ch) q s = 0 := fun s hs => js_z q (fun i hi => by have := (hu i hi).1; omega)
  have hyx : ∀ s, yb q a wh wr ch (ib a s) = js u (cr q a wh wr ch) q s := fun s => by
    have g : ∀ k, k ≤ q → js wh (cr q a wh wr ch) k (ib a s) = js u (cr q a wh wr ch) k s := fun k => by
      induction k with
      | zero => intro _; rfl
      | succ k ih =>
        intro hk
        rw [js, js, ih (by omega)]
        have e : wh k = ib a s ↔ u k = s := by
          rw [(hu k (by omega)).2]
          exact ⟨fun z => by have := congrArg (pl a) z; rw [(pl_ib a _).1, (pl_ib a _).1] at this; exact this, fun z => by rw [z]⟩
        by_cases z : u k = s
        · rw [if_pos z, if_pos (e.mpr z)]
        · rw [if_neg z, if_neg (fun y => z (e.mp y))]
    exact g q (Nat.le_refl q)
  have hya : yb q a wh wr ch a = 0 := js_z q (fun i hi => by rw [(hu i hi).2]; exact (pl_ib a _).2)
  have hrow : ∀ r, r < q → dot (fun s => ch (ib a s) (wr r)) (fun s => js u (cr q a wh wr ch) q s) n = ct q wh wr ch * ch a (wr r) := fun r hr => by
    rw [dot_js q (fun c hc => (hu c hc).1), ← cr_eq (by omega) hr]
    have : ∀ m, m ≤ q → dot (fun c => ch (ib a (u c)) (wr r)) (cr q a wh wr ch) m = dot (fun c => eF wh wr ch r c) (cr q a wh wr ch) m := fun m => by
      induction m with
      | zero => intro _; rfl
      | succ m ih => intro hm; rw [dot, dot, ih (by omega)]; show _ + ch (ib a (u m)) (wr r) * _ = _ + ch (wh m) (wr r) * _; rw [(hu m (by omega)).2]
    exact this q (Nat.le_refl q)
  have zB : ∀ j, j < 4 → lpL (mA n ss a ch co) (mC ss a ch) (B j) (ct q wh wr ch) (fun s => js u (cr q a wh wr ch) q s) = 0 := fun j hj => by
    by_cases z : j < n
    · rcases hB j z with ⟨k, h1, h2, h3⟩ | ⟨e, h1, h2, r, h3, h4⟩
      · rw [h2, sm_x (by omega)]
        exact js_z q (fun i hi => h3 i hi)
      · rw [h2, sm_row hn h1 hx, ← h4, hrow r h3, Int.mul_comm (ch a (wr r))]
        omega
    · rw [hs.1.2.2.1 j (by omega) hj, sm_x hj]
      exact hx j (by omega)
  have at2 := fun i => lp_at (A := mA n ss a ch co) (C := mC ss a ch) (B := B) (i := i) zB
  have nn2 : ∀ i, 1 ≤ i → rl n (2 * ss) i → 0 ≤ lpL (mA n ss a ch co) (mC ss a ch) i (ct q wh wr ch) (fun s => js u (cr q a wh wr ch) q s) := fun i h1 h2 => by
    have p := Int.mul_nonneg (hs.2 i h1 h2) (Int.le_of_lt ht)
    rw [← at2 i] at p
    exact Int.nonneg_of_mul_nonneg_right p hD
  have hmean : ∀ k, k < ss → dot (yb q a wh wr ch) (fun b => ch b k) (n + 1) = ct q wh wr ch * ch a k := fun k hk => by
    have r1 := nn2 (5 + 2 * k) (by omega) (Or.inr ⟨by omega, by omega⟩)
    have r2 := nn2 (5 + (2 * k + 1)) (by omega) (Or.inr ⟨by omega, by omega⟩)
    rw [sm_row hn (by omega) hx, show 2 * k / 2 = k by omega, show sg2 (2 * k) = 1 by unfold sg2; rw [if_pos (by omega)]] at r1
    rw [sm_row hn (by omega) hx, show (2 * k + 1) / 2 = k by omega, show sg2 (2 * k + 1) = -1 by unfold sg2; rw [if_neg (by omega)]] at r2
    rw [dot_ib hn ha hya]
    simp only [hyx]
    rw [Int.mul_comm (ch a k), Int.one_mul] at r1
    rw [Int.mul_comm (ch a k), Int.neg_mul, Int.one_mul] at r2
    generalize dot (fun s => ch (ib a s) k) (fun s => js u (cr q a wh wr ch) q s) n = L at *
    generalize ct q wh wr ch * ch a k = R at *
    omega
  have hgoal : ysu (n + 1) q a wh wr ch co = dot (fun s => co (ib a s)) (fun s => js u (cr q a wh wr ch) q s) n := by
    unfold ysu
    rw [dot_ib hn ha hya]
    simp only [hyx]
  refine ⟨⟨fun c hc => ?_, hmean⟩, fun i hi2 => ?_⟩
  · have p := nn2 (u c + 1) (by omega) (Or.inl (by have := (hu c hc).1; omega))
    rw [sm_x (by have := (hu c hc).1; omega), js_at q hc hi] at p
    exact p
  · cases i with
    | zero =>
      show lpD _ B * ysu (n + 1) q a wh wr ch co = lp0 _ _ B 0 * _
      rw [hgoal, ← sm_goal (ss := ss) (ch := ch) (t := ct q wh wr ch) hn hx]
      exact at2 0
    | succ b =>
      show lpD _ B * yb q a wh wr ch b = (if b = a then 0 else lp0 _ _ B (pl a b + 1)) * _
      by_cases z : b = a
      · rw [if_pos z, z, hya]; omega
      · have e : yb q a wh wr ch b = js u (cr q a wh wr ch) q (pl a b) := by rw [← hyx, ib_pl z]
        have hp : pl a b < 4 := by unfold pl; split <;> omega
        have := at2 (pl a b + 1)
        rw [sm_x hp] at this
        rw [if_neg z, e]
        exact this
end SM
