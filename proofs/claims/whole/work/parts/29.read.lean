/-! A CONTRACT'S TEXT: its codes, one behind the other, or the fault's place. g k: the byte at k, -1 behind the end -/
abbrev KR : Type := Nat ⊕ (List Int × Nat)
def kp_g (t : Nat → Int) (e k : Nat) : Int := if k < e then t k % 256 else -1
def kp_then (x : KR) (f : List Int → Nat → KR) : KR := match x with
  | .inl p => .inl p
  | .inr (c, k) => f c k
def kp_need (g : Nat → Int) (w : Int) (k : Nat) (f : Nat → KR) : KR := if g k = w then f (k + 1) else .inl k
def kp_open (g : Nat → Int) (can : Bool) (k : Nat) (f : Nat → KR) : KR := if can = true ∧ g k = 40 then f (k + 1) else .inl k
def kp_num (g : Nat → Int) : Nat → Int → Nat → Int × Nat
  | 0, v, k => (v, k)
  | n + 1, v, k => if 48 ≤ g k ∧ g k ≤ 57 then kp_num g n (v * 10 + g k - 48) (k + 1) else (v, k)
def kp_two (g : Nat → Int) (dp : Nat → KR) (can : Bool) (code : Int) (k : Nat) : KR :=
  kp_open g can k (fun k => kp_then (dp k) (fun c1 k => kp_need g 44 k (fun k => kp_then (dp k) (fun c2 k => kp_need g 41 k (fun k => .inr (c1 ++ c2 ++ [code], k))))))
def kp_if (g : Nat → Int) (dp : Nat → KR) (can : Bool) (k : Nat) : KR :=
  kp_open g can k (fun k => kp_then (dp k) (fun c1 k => kp_need g 60 k (fun k => kp_then (dp k) (fun c2 k => kp_need g 44 k (fun k => kp_then (dp k) (fun c3 k => kp_need g 44 k (fun k => kp_then (dp k) (fun c4 k => kp_need g 41 k (fun k => .inr (c1 ++ c2 ++ c3 ++ c4 ++ [20073], k))))))))))
def kp_atom (g : Nat → Int) (dp : Nat → KR) (can : Bool) (k : Nat) : KR :=
  if g k = 115 then .inr ([10000], k + 1)
  else if g k = 118 then .inr ([10001], k + 1)
  else if g k = 109 then (if g (k + 1) = 105 then kp_need g 110 (k + 2) (kp_two g dp can 20077) else kp_need g 97 (k + 1) (fun k => kp_need g 120 k (kp_two g dp can 20088)))
  else if g k = 105 then kp_need g 102 (k + 1) (kp_if g dp can)
  else if g k = 40 then kp_open g can k (fun k => kp_then (dp k) (fun c k => kp_need g 41 k (fun k => .inr (c, k))))
  else if (kp_num g 4 0 k).2 = k then .inl k else .inr ([(kp_num g 4 0 k).1], (kp_num g 4 0 k).2)
def kp_prods (g : Nat → Int) (at' : Nat → KR) : Nat → List Int → Nat → KR
  | 0, c, k => .inr (c, k)
  | n + 1, c, k => if g k = 42 then kp_then (at' (k + 1)) (fun c2 k => kp_prods g at' n (c ++ c2 ++ [20042]) k) else .inr (c, k)
def kp_sums (g : Nat → Int) (pr : Nat → KR) : Nat → List Int → Nat → KR
  | 0, c, k => .inr (c, k)
  | n + 1, c, k => if g k = 43 then kp_then (pr (k + 1)) (fun c2 k => kp_sums g pr n (c ++ c2 ++ [20043]) k) else if g k = 45 then kp_then (pr (k + 1)) (fun c2 k => kp_sums g pr n (c ++ c2 ++ [20045]) k) else .inr (c, k)
def kp_prod (g : Nat → Int) (e : Nat) (dp : Nat → KR) (can : Bool) (k : Nat) : KR := kp_then (kp_atom g dp can k) (fun c k => kp_prods g (kp_atom g dp can) e c k)
def kp_sum (g : Nat → Int) (e : Nat) (dp : Nat → KR) (can : Bool) (k : Nat) : KR := kp_then (kp_prod g e dp can k) (fun c k => kp_sums g (kp_prod g e dp can) e c k)
/-- a SUM with n ( more that may be open -/
def kp_lvl (g : Nat → Int) (e : Nat) : Nat → Nat → KR
  | 0 => kp_sum g e (fun k => .inl k) false
  | n + 1 => kp_sum g e (kp_lvl g e n) true
def kp_all (g : Nat → Int) (e : Nat) : Nat ⊕ List Int := match kp_lvl g e 5 0 with
  | .inl p => .inl p
  | .inr (c, k) => if k < e then .inl k else .inr c
