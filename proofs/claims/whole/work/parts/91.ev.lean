/-! ===== what a rule says of a set: as mathematics ===== -/
def evS (m : Nat) (F : stp → Bool) (s : stp) (K : List Bool) : Option (List Bool) :=
  if s.1 = 3 then (match K with
    | b :: K => some ((!b) :: K)
    | [] => none)
  else if s.1 = 2 then (match K with
    | b :: a :: K => some ((a && b) :: K)
    | _ => none)
  else if s.1 = 1 then (match K with
    | b :: a :: K => some ((a || b) :: K)
    | _ => none)
  else if K.length < m then some (F s :: K) else none
def ev (m : Nat) (F : stp → Bool) : List stp → List Bool → Option (List Bool)
  | [], K => some K
  | s :: S, K => (evS m F s K).bind (ev m F S)
theorem ev_app {m : Nat} {F : stp → Bool} (b : List stp) : ∀ (a : List stp) (K : List Bool), ev m F (a ++ b) K = (ev m F a K).bind (ev m F b)
  | [], K => rfl
  | s :: S, K => by
    show (evS m F s K).bind (ev m F (S ++ b)) = ((evS m F s K).bind (ev m F S)).bind (ev m F b)
    cases evS m F s K with
    | none => rfl
    | some K' => exact ev_app b S K'
theorem ev_1 {m : Nat} {F : stp → Bool} {s : stp} {K : List Bool} : ev m F [s] K = evS m F s K := by
  show (evS m F s K).bind (fun K => some K) = _
  cases evS m F s K <;> rfl
theorem evS_not {m : Nat} {F : stp → Bool} {l r : Nat} {b : Bool} {K : List Bool} : evS m F (3, l, r) (b :: K) = some ((!b) :: K) := rfl
theorem evS_and {m : Nat} {F : stp → Bool} {l r : Nat} {a b : Bool} {K : List Bool} : evS m F (2, l, r) (b :: a :: K) = some ((a && b) :: K) := rfl
theorem evS_or {m : Nat} {F : stp → Bool} {l r : Nat} {a b : Bool} {K : List Bool} : evS m F (1, l, r) (b :: a :: K) = some ((a || b) :: K) := rfl
theorem evS_cmp {m : Nat} {F : stp → Bool} {s : stp} {K : List Bool} (h : 18 ≤ s.1) (hK : K.length < m) : evS m F s K = some (F s :: K) := by
  unfold evS
  rw [if_neg (show ¬ s.1 = 3 by omega), if_neg (show ¬ s.1 = 2 by omega), if_neg (show ¬ s.1 = 1 by omega), if_pos hK]
/-- a step as it is laid -/
def wfs (x : stp) : Prop := x.1 = 1 ∨ x.1 = 2 ∨ x.1 = 3 ∨ (18 ≤ x.1 ∧ x.1 ≤ 20 ∧ x.2.1 < 10022 ∧ x.2.2 < 10022)
/-- a formula in steps: it lays one truth, D at most stand open -/
def GE (D : Nat) (s : List stp) : Prop := (∀ x ∈ s, wfs x) ∧ ∀ (m : Nat) (F : stp → Bool) (K : List Bool), K.length + D ≤ m → ∃ b, ev m F s K = some (b :: K)
theorem GE.mono {D D' : Nat} {s : List stp} (h : GE D s) (hD : D ≤ D') : GE D' s := ⟨h.1, fun m F K hK => h.2 m F K (by omega)⟩
theorem GE.two {D op : Nat} {a s : List stp} (ha : GE (D + 1) a) (hs : GE D s) (hop : op = 1 ∨ op = 2) : GE (D + 1) (a ++ s ++ [(op, 0, 0)]) := by
  refine ⟨fun x hx => ?_, fun m F K hK => ?_⟩
  · rcases List.mem_append.mp hx with hx | hx
    · rcases List.mem_append.mp hx with hx | hx
      · exact ha.1 x hx
      · exact hs.1 x hx
    · rw [List.mem_singleton.mp hx]
      rcases hop with rfl | rfl
      · exact Or.inl rfl
      · exact Or.inr (Or.inl rfl)
  · obtain ⟨p, hp⟩ := ha.2 m F K hK
    obtain ⟨q, hq⟩ := hs.2 m F (p :: K) (by show K.length + 1 + D ≤ m; omega)
    have e1 : ev m F (a ++ s ++ [(op, 0, 0)]) K = evS m F (op, 0, 0) (q :: p :: K) := by
      rw [ev_app, ev_app, hp]
      show (ev m F s (p :: K)).bind (ev m F [(op, 0, 0)]) = _
      rw [hq]
      exact ev_1
    rw [e1]
    rcases hop with rfl | rfl
    · exact ⟨_, evS_or⟩
    · exact ⟨_, evS_and⟩
theorem GE.neg {D : Nat} {s : List stp} (hs : GE D s) : GE D (s ++ [(3, 0, 0)]) := by
  refine ⟨fun x hx => ?_, fun m F K hK => ?_⟩
  · rcases List.mem_append.mp hx with hx | hx
    · exact hs.1 x hx
    · rw [List.mem_singleton.mp hx]
      exact Or.inr (Or.inr (Or.inl rfl))
  · obtain ⟨q, hq⟩ := hs.2 m F K hK
    have e1 : ev m F (s ++ [(3, 0, 0)]) K = evS m F (3, 0, 0) (q :: K) := by
      rw [ev_app, hq]
      show ev m F [(3, 0, 0)] (q :: K) = _
      exact ev_1
    rw [e1]
    exact ⟨_, evS_not⟩
section EVP
variable {t v : Nat → Nat}
theorem pT_w (hv : ∀ i, t i = 21 → v i < 10000) {i j x : Nat} (hR : pT t v i = .ok (j, x)) : x < 10022 := by
  unfold pT at hR
  by_cases z1 : t i = 21
  · rw [if_pos z1] at hR
    injection hR with hR
    injection hR with h1 h2
    have := hv i z1
    omega
  · rw [if_neg z1] at hR
    by_cases z2 : t i = 4
    · rw [if_pos z2] at hR
      injection hR with hR
      injection hR with h1 h2
      omega
    · rw [if_neg z2] at hR
      by_cases z3 : t i = 5
      · rw [if_pos z3] at hR
        injection hR with hR
        injection hR with h1 h2
        omega
      · rw [if_neg z3] at hR
        by_cases z4 : 6 ≤ t i ∧ t i ≤ 9
        · rw [if_pos z4] at hR
          by_cases z5 : 10 ≤ t (i + 1) ∧ t (i + 1) ≤ 14
          · rw [if_pos z5] at hR
            injection hR with hR
            injection hR with h1 h2
            omega
          · rw [if_neg z5] at hR; exact nomatch hR
        · rw [if_neg z4] at hR; exact nomatch hR
theorem pP_w (hv : ∀ i, t i = 21 → v i < 10000) {i j : Nat} {s : List stp} (hR : pP t v i = .ok (j, s)) : GE 1 s := by
  cases h1 : pT t v i with
  | error e => rw [pP_e h1] at hR; exact nomatch hR
  | ok p =>
    obtain ⟨a, l⟩ := p
    by_cases z : 18 ≤ t a ∧ t a ≤ 20
    · cases h2 : pT t v (a + 1) with
      | error e => rw [pP_e2 h1 z h2] at hR; exact nomatch hR
      | ok p =>
        obtain ⟨b, r⟩ := p
        rw [pP_o h1 z h2] at hR
        injection hR with hR
        injection hR with e1 e2
        subst e2
        refine ⟨fun x hx => ?_, fun m F K hK => ?_⟩
        · rw [List.mem_singleton.mp hx]
          exact Or.inr (Or.inr (Or.inr ⟨z.1, z.2, pT_w hv h1, pT_w hv h2⟩))
        · rw [ev_1, evS_cmp z.1 (by omega)]
          exact ⟨_, rfl⟩
    · rw [pP_n h1 z] at hR; exact nomatch hR
theorem pL_w {op D : Nat} (hop : op = 1 ∨ op = 2) {sub : Nat → rsl} (hs : ∀ i j s, sub i = .ok (j, s) → GE D s) : ∀ (f i : Nat) (acc : List stp) (j : Nat) (s : List stp), GE (D + 1) acc → pL t op sub f i acc = .ok (j, s) → GE (D + 1) s
  | 0, i, acc, j, s, hA, hR => by
    injection hR with hR
    injection hR with e1 e2
    rw [← e2]; exact hA
  | f + 1, i, acc, j, s, hA, hR => by
    by_cases z : t i = op
    · cases h1 : sub (i + 1) with
      | error e => rw [pL_e z h1] at hR; exact nomatch hR
      | ok p =>
        obtain ⟨a, s1⟩ := p
        rw [pL_o z h1] at hR
        exact pL_w hop hs f a _ j s (hA.two (hs _ _ _ h1) hop) hR
    · rw [pL_x z] at hR
      injection hR with hR
      injection hR with e1 e2
      rw [← e2]; exact hA
theorem pM_w {op D : Nat} (hop : op = 1 ∨ op = 2) {sub : Nat → rsl} (hs : ∀ i j s, sub i = .ok (j, s) → GE D s) (i j : Nat) (s : List stp) (hR : pM t op sub i = .ok (j, s)) : GE (D + 1) s := by
  cases h1 : sub i with
  | error e => rw [pM_e h1] at hR; exact nomatch hR
  | ok p =>
    obtain ⟨a, s1⟩ := p
    rw [pM_o h1] at hR
    exact pL_w hop hs 600 a s1 j s ((hs _ _ _ h1).mono (Nat.le_succ D)) hR
theorem pC_w (hv : ∀ i, t i = 21 → v i < 10000) : ∀ (o i j : Nat) (s : List stp), pC t v o i = .ok (j, s) → GE (2 * o + 1) s
  | 0, i, j, s, hR => by
    by_cases z : t i = 3 ∨ t i = 16
    · rw [pC_0 z] at hR; exact nomatch hR
    · rw [pC_cmp (fun y => z (Or.inl y)) (fun y => z (Or.inr y))] at hR
      exact pP_w hv hR
  | o + 1, i, j, s, hR => by
    have ih := pC_w hv o
    by_cases z : t i = 3
    · cases h1 : pC t v o (i + 1) with
      | error e => rw [pC_ne z h1] at hR; exact nomatch hR
      | ok p =>
        obtain ⟨a, s1⟩ := p
        rw [pC_no z h1] at hR
        injection hR with hR
        injection hR with e1 e2
        rw [← e2]
        exact (ih _ _ _ h1).neg.mono (by omega)
    · by_cases y : t i = 16
      · cases h1 : pA t v o (i + 1) with
        | error e => rw [pC_pe y h1] at hR; exact nomatch hR
        | ok p =>
          obtain ⟨a, s1⟩ := p
          by_cases x : t a = 17
          · rw [pC_po y h1 x] at hR
            injection hR with hR
            injection hR with e1 e2
            rw [← e2]
            exact (pM_w (t := t) (Or.inl rfl) (pM_w (t := t) (Or.inr rfl) ih) (i + 1) a s1 h1).mono (by omega)
          · rw [pC_pn y h1 x] at hR; exact nomatch hR
      · rw [pC_cmp z y] at hR
        exact (pP_w hv hR).mono (by omega)
theorem pA_w (hv : ∀ i, t i = 21 → v i < 10000) (i j : Nat) (s : List stp) (hR : pA t v 8 i = .ok (j, s)) : GE 30 s := (pM_w (t := t) (Or.inl rfl) (pM_w (t := t) (Or.inr rfl) (pC_w hv 8)) i j s hR).mono (by omega)
theorem pR_w (hv : ∀ i, t i = 21 → v i < 10000) : ∀ (f i : Nat) (rs r' : List (List stp)), (∀ s ∈ rs, GE 30 s) → pR t v f i rs = .ok r' → ∀ s ∈ r', GE 30 s
  | 0, i, rs, r', h, hR => by
    by_cases z : t i = 22
    · rw [pR_z z] at hR
      injection hR with hR
      rw [← hR]; exact h
    · by_cases z0 : t i = 0
      · rw [pR_m z0] at hR; exact nomatch hR
      · rw [pR_b z z0] at hR; exact nomatch hR
  | f + 1, i, rs, r', h, hR => by
    by_cases z : t i = 22
    · rw [pR_z z] at hR
      injection hR with hR
      rw [← hR]; exact h
    · by_cases z0 : t i = 0
      · cases h1 : pA t v 8 (i + 1) with
        | error e => rw [pR_e z0 h1] at hR; exact nomatch hR
        | ok p =>
          obtain ⟨j, s1⟩ := p
          by_cases y : t j = 15
          · rw [pR_o z0 h1 y] at hR
            refine pR_w hv f (j + 1) (rs ++ [s1]) r' (fun s hs => ?_) hR
            rcases List.mem_append.mp hs with hs | hs
            · exact h s hs
            · rw [List.mem_singleton.mp hs]; exact pA_w hv _ _ _ h1
          · rw [pR_n z0 h1 y] at hR; exact nomatch hR
      · rw [pR_b z z0] at hR; exact nomatch hR
end EVP
/-- the first rule that bars -/
def gB (F : stp → Bool) (s : List stp) : Bool := decide (ev 30 F s [] = some [true])
def fB (F : stp → Bool) : List (List stp) → Nat → Int32
  | [], _ => -1
  | s :: rs, k => if gB F s = true then nI k else fB F rs (k + 1)
theorem gB_of {F : stp → Bool} {s : List stp} {b : Bool} (h : ev 30 F s [] = some [b]) : gB F s = b := by
  unfold gB
  rw [h]
  cases b <;> rfl
/-- the value of a term by a row of facts; a comparison -/
def fv (row : Nat → Int32) (x : Nat) : Int32 := if 10000 ≤ x then row (x - 10000) else nI x
def cmF (row : Nat → Int32) (s : stp) : Bool := if s.1 = 18 then decide (fv row s.2.1 < fv row s.2.2) else if s.1 = 20 then decide (fv row s.2.2 < fv row s.2.1) else decide (fv row s.2.1 = fv row s.2.2)
/-- truths as the bits of a number -/
def enc : List Bool → Nat
  | [] => 0
  | b :: K => 2 * enc K + if b = true then 1 else 0
theorem enc_lt : ∀ K, enc K < 2 ^ K.length
  | [] => Nat.lt_succ_self 0
  | b :: K => by
    have := enc_lt K
    show 2 * enc K + (if b = true then 1 else 0) < 2 ^ (K.length + 1)
    rw [Nat.pow_succ]
    split <;> omega
theorem enc_0 {b : Bool} {K : List Bool} : bt (nI (enc (b :: K))) 0 = b := by
  rw [nI_bt (by decide), Nat.testBit_zero]
  show decide ((2 * enc K + if b = true then 1 else 0) % 2 = 1) = b
  cases b
  · rw [if_neg (by decide)]; exact decide_eq_false (by omega)
  · rw [if_pos rfl]; exact decide_eq_true (by omega)
theorem enc_s {b : Bool} {K : List Bool} {i : Nat} (h : i + 1 < 32) : bt (nI (enc (b :: K))) (i + 1) = bt (nI (enc K)) i := by
  rw [nI_bt h, nI_bt (by omega), Nat.testBit_succ]
  have : enc (b :: K) / 2 = enc K := by
    show (2 * enc K + if b = true then 1 else 0) / 2 = _
    split <;> omega
  rw [this]
theorem enc_hi {K : List Bool} {i : Nat} (h : K.length ≤ i) (hi : i < 32) : bt (nI (enc K)) i = false := by
  rw [nI_bt hi]
  exact Nat.testBit_lt_two_pow (Nat.lt_of_lt_of_le (enc_lt K) (Nat.pow_le_pow_right (by decide) h))
theorem b_m2 : ∀ i, i < 32 → bt (-2) i = !decide (i = 0) := by decide +kernel
theorem enc_not {b : Bool} {K : List Bool} : nI (enc (b :: K)) ^^^ 1 = nI (enc ((!b) :: K)) := by
  refine b_ext fun i hi => ?_
  rw [b_xor, b_1]
  cases i with
  | zero => rw [enc_0, enc_0]; cases b <;> rfl
  | succ i => rw [enc_s hi, enc_s hi, decide_eq_false (by omega), Bool.xor_false]
theorem b_ush1 (x : Int32) (i : Nat) : bt ((x.toUInt32 >>> ((1 : Int32).toUInt32 &&& Int32.toUInt32 31)).toInt32) i = bt x (1 + i) := b_ushr 1 (by decide) x i
theorem enc_and {a b : Bool} {K : List Bool} (hK : K.length ≤ 28) : ((nI (enc (b :: a :: K))).toUInt32 >>> ((1 : Int32).toUInt32 &&& Int32.toUInt32 31)).toInt32 &&& (nI (enc (b :: a :: K)) ||| (-2)) = nI (enc ((a && b) :: K)) := by
  refine b_ext fun i hi => ?_
  rw [b_and, b_or, b_ush1, b_m2 i hi]
  cases i with
  | zero =>
    rw [enc_0, enc_0, show 1 + 0 = 0 + 1 from rfl, enc_s (by decide), enc_0]
    cases a <;> cases b <;> rfl
  | succ i =>
    rw [decide_eq_false (show ¬ i + 1 = 0 by omega), enc_s (K := K) hi, Bool.not_false, Bool.or_true, Bool.and_true]
    by_cases h : i + 1 + 1 < 32
    · rw [show 1 + (i + 1) = i + 1 + 1 by omega, enc_s h, enc_s (by omega)]
    · rw [b_big (by omega), enc_hi (by omega) (by omega)]
theorem enc_or {a b : Bool} {K : List Bool} (hK : K.length ≤ 28) : ((nI (enc (b :: a :: K))).toUInt32 >>> ((1 : Int32).toUInt32 &&& Int32.toUInt32 31)).toInt32 ||| (nI (enc (b :: a :: K)) &&& 1) = nI (enc ((a || b) :: K)) := by
  refine b_ext fun i hi => ?_
  rw [b_or, b_and, b_ush1, b_1]
  cases i with
  | zero =>
    rw [enc_0, enc_0, show 1 + 0 = 0 + 1 from rfl, enc_s (by decide), enc_0]
    cases a <;> cases b <;> rfl
  | succ i =>
    rw [decide_eq_false (show ¬ i + 1 = 0 by omega), enc_s (K := K) hi, Bool.and_false, Bool.or_false]
    by_cases h : i + 1 + 1 < 32
    · rw [show 1 + (i + 1) = i + 1 + 1 by omega, enc_s h, enc_s (by omega)]
    · rw [b_big (by omega), enc_hi (by omega) (by omega)]
theorem b_shl1 (x : Int32) {i : Nat} (hi : i < 32) : bt (x <<< ((1 : Int32) &&& 31)) i = (decide (1 ≤ i) && bt x (i - 1)) := b_shl 1 (by decide) x hi
theorem enc_push {b : Bool} {K : List Bool} : nI (enc K) <<< ((1 : Int32) &&& 31) ||| bI (b = true) = nI (enc (b :: K)) := by
  refine b_ext fun i hi => ?_
  have e : bt (bI (b = true)) i = (b && decide (i = 0)) := by
    cases b
    · rw [bI_f (by decide), b_0]; rfl
    · rw [bI_t rfl, b_1]; rfl
  rw [b_or, b_shl1 _ hi, e]
  cases i with
  | zero => rw [enc_0]; cases b <;> rfl
  | succ i =>
    rw [enc_s hi, decide_eq_true (show 1 ≤ i + 1 by omega), decide_eq_false (show ¬ i + 1 = 0 by omega), Bool.and_false, Bool.or_false, Bool.true_and, Nat.add_sub_cancel]
theorem enc_bit {b : Bool} {K : List Bool} : nI (enc (b :: K)) &&& 1 = bI (b = true) := by
  refine b_ext fun i hi => ?_
  have e : bt (bI (b = true)) i = (b && decide (i = 0)) := by
    cases b
    · rw [bI_f (by decide), b_0]; rfl
    · rw [bI_t rfl, b_1]; rfl
  rw [b_and, b_1, e]
  cases i with
  | zero => rw [enc_0]
  | succ i => rw [decide_eq_false (show ¬ i + 1 = 0 by omega), Bool.and_false, Bool.and_false]
