/-! ===== the grammar, as mathematics ===== -/
abbrev stp : Type := Nat × Nat × Nat
abbrev rsl : Type := Except (Nat × Nat) (Nat × List stp)
section PPA
variable (t v : Nat → Nat)
def pT (i : Nat) : Except (Nat × Nat) (Nat × Nat) :=
  if t i = 21 then .ok (i + 1, v i) else if t i = 4 then .ok (i + 1, 10000) else if t i = 5 then .ok (i + 1, 10001) else if 6 ≤ t i ∧ t i ≤ 9 then (if 10 ≤ t (i + 1) ∧ t (i + 1) ≤ 14 then .ok (i + 2, 10002 + (t i - 6) * 5 + (t (i + 1) - 10)) else .error (1, i + 1)) else .error (1, i)
def pP (i : Nat) : rsl := match pT t v i with
  | .error e => .error e
  | .ok (j, l) => if 18 ≤ t j ∧ t j ≤ 20 then (match pT t v (j + 1) with
      | .error e => .error e
      | .ok (k, r) => .ok (k, [(t j, l, r)])) else .error (1, j)
def pL (op : Nat) (sub : Nat → rsl) : Nat → Nat → List stp → rsl
  | 0, i, acc => .ok (i, acc)
  | f + 1, i, acc => if t i = op then (match sub (i + 1) with
      | .error e => .error e
      | .ok (j, s) => pL op sub f j (acc ++ s ++ [(op, 0, 0)])) else .ok (i, acc)
def pM (op : Nat) (sub : Nat → rsl) (i : Nat) : rsl := match sub i with
  | .error e => .error e
  | .ok (j, s) => pL t op sub 600 j s
def pC : Nat → Nat → rsl
  | 0, i => if t i = 3 ∨ t i = 16 then .error (2, i) else pP t v i
  | o + 1, i => if t i = 3 then (match pC o (i + 1) with
      | .error e => .error e
      | .ok (j, s) => .ok (j, s ++ [(3, 0, 0)]))
    else if t i = 16 then (match pM t 1 (pM t 2 (pC o)) (i + 1) with
      | .error e => .error e
      | .ok (j, s) => if t j = 17 then .ok (j + 1, s) else .error (1, j))
    else pP t v i
def pR : Nat → Nat → List (List stp) → Except (Nat × Nat) (List (List stp))
  | 0, i, rs => if t i = 22 then .ok rs else if t i = 0 then .error (2, i) else .error (1, i)
  | f + 1, i, rs => if t i = 0 then (match pM t 1 (pM t 2 (pC t v 8)) (i + 1) with
      | .error e => .error e
      | .ok (j, s) => if t j = 15 then pR f (j + 1) (rs ++ [s]) else .error (1, j))
    else if t i = 22 then .ok rs else .error (1, i)
end PPA
/-! how much a formula costs -/
/-- the reference's number of a term -/
def mterm (x : Nat) : Nat := if x < 10000 then x else if x = 10000 then 10001 else if x = 10001 then 10002 else 10010 + 10 * ((x - 10002) / 5) + (x - 10002) % 5
/-- the reference's steps of a step -/
def cv (s : stp) : List Nat := if s.1 = 3 then [20003] else if s.1 = 2 then [20004] else if s.1 = 1 then [20005] else [mterm s.2.1, mterm s.2.2, 20000 + (s.1 - 18)]
def cvs (S : List stp) : List Nat := S.flatMap cv
theorem cvs_app (a b : List stp) : cvs (a ++ b) = cvs a ++ cvs b := List.flatMap_append
theorem cvs_1 (s : stp) : cvs [s] = cv s := by unfold cvs; simp
section PPB
variable {t v st : Nat → Nat}
/-- what a good answer costs: tokens, characters -/
def okC (st : Nat → Nat) (i : Nat) (R : rsl) : Prop := ∀ j s, R = .ok (j, s) → i < j ∧ 2 * s.length + st i ≤ st j ∧ (cvs s).length + st i ≤ st j
/-- how tokens stand in the text -/
def tkP (t st : Nat → Nat) : Prop := (∀ i, t i ≠ 22 → st i + 1 ≤ st (i + 1)) ∧ (∀ i, t i = 1 → st i + 2 ≤ st (i + 1)) ∧ ∀ i, t i = 2 ∨ t i = 3 → st i + 3 ≤ st (i + 1)
theorem pT_c (h : tkP t st) {i j x : Nat} (hR : pT t v i = .ok (j, x)) : i < j ∧ st i + 1 ≤ st j := by
  unfold pT at hR
  by_cases z1 : t i = 21
  · rw [if_pos z1] at hR
    injection hR with hR
    injection hR with h1 h2
    have := h.1 i (by omega)
    rw [← h1]; omega
  · rw [if_neg z1] at hR
    by_cases z2 : t i = 4
    · rw [if_pos z2] at hR
      injection hR with hR
      injection hR with h1 h2
      have := h.1 i (by omega)
      rw [← h1]; omega
    · rw [if_neg z2] at hR
      by_cases z3 : t i = 5
      · rw [if_pos z3] at hR
        injection hR with hR
        injection hR with h1 h2
        have := h.1 i (by omega)
        rw [← h1]; omega
      · rw [if_neg z3] at hR
        by_cases z4 : 6 ≤ t i ∧ t i ≤ 9
        · rw [if_pos z4] at hR
          by_cases z5 : 10 ≤ t (i + 1) ∧ t (i + 1) ≤ 14
          · rw [if_pos z5] at hR
            injection hR with hR
            injection hR with h1 h2
            have h5 := h.1 i (by omega)
            have h6 := h.1 (i + 1) (by omega)
            rw [← h1]
            have e : i + 1 + 1 = i + 2 := rfl
            rw [e] at h6
            omega
          · rw [if_neg z5] at hR; exact nomatch hR
        · rw [if_neg z4] at hR; exact nomatch hR
theorem pP_c (h : tkP t st) (i : Nat) : okC st i (pP t v i) := by
  intro j s hR
  unfold pP at hR
  cases h1 : pT t v i with
  | error e => rw [h1] at hR; exact nomatch hR
  | ok p =>
    obtain ⟨a, l⟩ := p
    rw [h1] at hR
    obtain ⟨a1, a2⟩ := pT_c h h1
    have hR : (if 18 ≤ t a ∧ t a ≤ 20 then (match pT t v (a + 1) with | .error e => Except.error e | .ok (k, r) => .ok (k, [(t a, l, r)])) else .error (1, a)) = Except.ok (j, s) := hR
    by_cases z : 18 ≤ t a ∧ t a ≤ 20
    · rw [if_pos z] at hR
      cases h2 : pT t v (a + 1) with
      | error e => rw [h2] at hR; exact nomatch hR
      | ok p =>
        obtain ⟨b, r⟩ := p
        rw [h2] at hR
        injection hR with hR
        injection hR with e1 e2
        obtain ⟨b1, b2⟩ := pT_c h h2
        have b3 := h.1 a (by omega)
        rw [← e1, ← e2, cvs_1]
        unfold cv
        rw [if_neg (show ¬ t a = 3 by omega), if_neg (show ¬ t a = 2 by omega), if_neg (show ¬ t a = 1 by omega)]
        refine ⟨by omega, ?_, ?_⟩
        · show 2 * 1 + st i ≤ st b; omega
        · show 3 + st i ≤ st b; omega
    · rw [if_neg z] at hR; exact nomatch hR
theorem pL_c (h : tkP t st) {op : Nat} (hop : op = 1 ∨ op = 2) {sub : Nat → rsl} (hs : ∀ i, okC st i (sub i)) : ∀ (f i : Nat) (acc : List stp) (j : Nat) (s : List stp), pL t op sub f i acc = .ok (j, s) → i ≤ j ∧ ∃ s', s = acc ++ s' ∧ 2 * s'.length + st i ≤ st j ∧ (cvs s').length + st i ≤ st j
  | 0, i, acc, j, s, hR => by
    injection hR with hR
    injection hR with e1 e2
    rw [← e1, ← e2]
    exact ⟨Nat.le_refl _, [], (List.append_nil _).symm, by show 2 * 0 + _ ≤ _; omega, by show 0 + _ ≤ _; omega⟩
  | f + 1, i, acc, j, s, hR => by
    have hR : (if t i = op then (match sub (i + 1) with | .error e => .error e | .ok (j, s) => pL t op sub f j (acc ++ s ++ [(op, 0, 0)])) else Except.ok (i, acc)) = Except.ok (j, s) := hR
    by_cases z : t i = op
    · rw [if_pos z] at hR
      cases h1 : sub (i + 1) with
      | error e => rw [h1] at hR; exact nomatch hR
      | ok p =>
        obtain ⟨a, s1⟩ := p
        rw [h1] at hR
        obtain ⟨a1, a2, a3⟩ := hs (i + 1) a s1 h1
        obtain ⟨b1, s', b2, b3, b4⟩ := pL_c h hop hs f a (acc ++ s1 ++ [(op, 0, 0)]) j s hR
        have hst : st i + 2 ≤ st (i + 1) := by
          rcases hop with rfl | rfl
          · exact h.2.1 i z
          · have := h.2.2 i (Or.inl z); omega
        refine ⟨by omega, s1 ++ [(op, 0, 0)] ++ s', by rw [b2]; simp [List.append_assoc], ?_, ?_⟩
        · rw [List.length_append, List.length_append]
          show 2 * (s1.length + 1 + s'.length) + st i ≤ st j
          omega
        · rw [cvs_app, cvs_app, cvs_1, List.length_append, List.length_append]
          have : (cv (op, 0, 0)).length = 1 := by rcases hop with rfl | rfl <;> rfl
          rw [this]
          omega
    · rw [if_neg z] at hR
      injection hR with hR
      injection hR with e1 e2
      rw [← e1, ← e2]
      exact ⟨Nat.le_refl _, [], (List.append_nil _).symm, by show 2 * 0 + _ ≤ _; omega, by show 0 + _ ≤ _; omega⟩
theorem pM_c (h : tkP t st) {op : Nat} (hop : op = 1 ∨ op = 2) {sub : Nat → rsl} (hs : ∀ i, okC st i (sub i)) (i : Nat) : okC st i (pM t op sub i) := by
  intro j s hR
  unfold pM at hR
  cases h1 : sub i with
  | error e => rw [h1] at hR; exact nomatch hR
  | ok p =>
    obtain ⟨a, s1⟩ := p
    rw [h1] at hR
    obtain ⟨a1, a2, a3⟩ := hs i a s1 h1
    obtain ⟨b1, s', b2, b3, b4⟩ := pL_c h hop hs 600 a s1 j s hR
    rw [b2, cvs_app, List.length_append, List.length_append]
    exact ⟨by omega, by omega, by omega⟩
theorem pC_c (h : tkP t st) : ∀ o i, okC st i (pC t v o i)
  | 0, i => by
    intro j s hR
    have hR : (if t i = 3 ∨ t i = 16 then .error (2, i) else pP t v i) = Except.ok (j, s) := hR
    by_cases z : t i = 3 ∨ t i = 16
    · rw [if_pos z] at hR; exact nomatch hR
    · rw [if_neg z] at hR; exact pP_c h i j s hR
  | o + 1, i => by
    intro j s hR
    have ih := pC_c h o
    have hR : (if t i = 3 then (match pC t v o (i + 1) with | .error e => .error e | .ok (j, s) => .ok (j, s ++ [(3, 0, 0)])) else if t i = 16 then (match pM t 1 (pM t 2 (pC t v o)) (i + 1) with | .error e => .error e | .ok (j, s) => if t j = 17 then .ok (j + 1, s) else .error (1, j)) else pP t v i) = Except.ok (j, s) := hR
    by_cases z : t i = 3
    · rw [if_pos z] at hR
      cases h1 : pC t v o (i + 1) with
      | error e => rw [h1] at hR; exact nomatch hR
      | ok p =>
        obtain ⟨a, s1⟩ := p
        rw [h1] at hR
        injection hR with hR
        injection hR with e1 e2
        obtain ⟨a1, a2, a3⟩ := ih (i + 1) a s1 h1
        have := h.2.2 i (Or.inr z)
        rw [← e1, ← e2, cvs_app, cvs_1, List.length_append, List.length_append]
        refine ⟨by omega, ?_, ?_⟩
        · show 2 * (s1.length + 1) + st i ≤ st a; omega
        · show (cvs s1).length + 1 + st i ≤ st a; omega
    · rw [if_neg z] at hR
      by_cases y : t i = 16
      · rw [if_pos y] at hR
        cases h1 : pM t 1 (pM t 2 (pC t v o)) (i + 1) with
        | error e => rw [h1] at hR; exact nomatch hR
        | ok p =>
          obtain ⟨a, s1⟩ := p
          rw [h1] at hR
          have hR : (if t a = 17 then .ok (a + 1, s1) else .error (1, a)) = Except.ok (j, s) := hR
          obtain ⟨a1, a2, a3⟩ := pM_c h (Or.inl rfl) (pM_c h (Or.inr rfl) ih) (i + 1) a s1 h1
          by_cases x : t a = 17
          · rw [if_pos x] at hR
            injection hR with hR
            injection hR with e1 e2
            have h5 := h.1 i (by omega)
            have h6 := h.1 a (by omega)
            rw [← e1, ← e2]
            exact ⟨by omega, by omega, by omega⟩
          · rw [if_neg x] at hR; exact nomatch hR
      · rw [if_neg y] at hR; exact pP_c h i j s hR
/-- a choice -/
def pA (t v : Nat → Nat) (o i : Nat) : rsl := pM t 1 (pM t 2 (pC t v o)) i
theorem pA_c (h : tkP t st) (o i : Nat) : okC st i (pA t v o i) := pM_c h (Or.inl rfl) (pM_c h (Or.inr rfl) (pC_c h o)) i
theorem pJ_c (h : tkP t st) (o i : Nat) : okC st i (pM t 2 (pC t v o) i) := pM_c h (Or.inr rfl) (pC_c h o) i
end PPB
/-! the tokens of a text keep these words -/
theorem wm_len {c : Nat → Nat} {q n w : Nat} (hn0 : 0 < n) (hw : w < 15) (hl : ∀ i, i < n → lE (c (q + i))) (h : wm c q n w) : n = wl.getD w 0 := by
  obtain ⟨h1, h2⟩ := (wm_pk hn0 hw hl).mp h
  obtain ⟨⟨a1, a0, a2⟩, a3⟩ := wl_f w hw
  have hle : ∀ i, i < n → 0 < c (q + i) ∧ c (q + i) < 256 := fun i hi => by have := hl i hi; unfold lE at this; omega
  rw [← a2] at h2
  exact (pk_inj' (c := c) (c' := fun i => tblN.getD i 0) (q := q) (q' := w * 6) n (wl.getD w 0) hle (fun i hi => ⟨(a3 i (by omega)).2.1, (a3 i (by omega)).2.2⟩) h2).1
theorem wT_wm {c : Nat → Nat} {q n w : Nat} : ∀ k, k ≤ 15 → wT c q n k = w → w < 15 → wm c q n w
  | 0, _, h, hw => by
    have : (23 : Nat) = w := h
    omega
  | k + 1, hk, h, hw => by
    have h : (if wm c q n k then k else wT c q n k) = w := h
    by_cases z : wm c q n k
    · rw [if_pos z] at h; rw [← h]; exact z
    · rw [if_neg z] at h; exact wT_wm k (by omega) h hw
theorem nx_len {c : Nat → Nat} {L p : Nat} (hp : p ≤ L) {w : Nat} (hw : w < 15) (h : (nx c L p).1 = w) : (nx c L p).2.1 + wl.getD w 0 = (nx c L p).2.2.2 := by
  obtain ⟨h1, h2⟩ := rn_in (P := lB) (c := c) hp
  unfold nx at h ⊢
  by_cases z : rn lB c (L - p) p < L
  · rw [if_pos z] at h ⊢
    generalize rn lB c (L - p) p = q at *
    by_cases y : lE (c q)
    · rw [if_pos y] at h ⊢
      have e1 := rn_u (P := lE) (c := c) z
      rw [if_pos y] at e1
      obtain ⟨e2, e3⟩ := rn_in (P := lE) (c := c) (L := L) (p := q + 1) (by omega)
      rw [← e1] at e2 e3
      have hm := wT_wm 15 (Nat.le_refl _) h hw
      have := wm_len (by omega) hw (fun i hi => rn_all (P := lE) (L - q) q (q + i) (by omega) (by omega)) hm
      show q + wl.getD w 0 = rn lE c (L - q) q
      omega
    · rw [if_neg y] at h
      exfalso
      by_cases x : lD (c q)
      · rw [if_pos x] at h
        have h : (if rn lD c (L - q) q - q ≤ 4 then 21 else 23) = w := h
        split at h <;> omega
      · rw [if_neg x] at h
        have h : sg (c q) = w := h
        have := sg_rng (c q)
        omega
  · rw [if_neg z] at h
    exfalso
    have h : 22 = w := h
    omega
theorem tk_P (c : Nat → Nat) (L : Nat) : tkP (tk c L) (sn c L) := by
  have hstep : ∀ i, (nx c L (ps c L i)).2.2.2 ≤ sn c L (i + 1) := fun i => by
    have hp := ps_le c L (i + 1)
    rcases nx_rng (c := c) hp with h | h
    · show _ ≤ (nx c L (ps c L (i + 1))).2.1
      rw [h]
      exact hp
    · exact h.2.2.1
  refine ⟨fun i hi => ?_, fun i hi => ?_, fun i hi => ?_⟩
  · rcases nx_rng (c := c) (ps_le c L i) with h | h
    · exact absurd (by show (nx c L (ps c L i)).1 = 22; rw [h]) hi
    · have := hstep i
      have := h.2.2.2.2.1
      show (nx c L (ps c L i)).2.1 + 1 ≤ _
      omega
  · have h1 := nx_len (c := c) (ps_le c L i) (w := 1) (by decide) hi
    have h2 := hstep i
    have h3 : wl.getD 1 0 = 2 := rfl
    show (nx c L (ps c L i)).2.1 + 2 ≤ _
    omega
  · have h2 := hstep i
    rcases hi with hi | hi
    · have h1 := nx_len (c := c) (ps_le c L i) (w := 2) (by decide) hi
      have h3 : wl.getD 2 0 = 3 := rfl
      show (nx c L (ps c L i)).2.1 + 3 ≤ _
      omega
    · have h1 := nx_len (c := c) (ps_le c L i) (w := 3) (by decide) hi
      have h3 : wl.getD 3 0 = 3 := rfl
      show (nx c L (ps c L i)).2.1 + 3 ≤ _
      omega
theorem sn_le (c : Nat → Nat) (L i : Nat) : sn c L i ≤ L := by
  rcases nx_rng (c := c) (ps_le c L i) with h | h
  · show (nx c L (ps c L i)).2.1 ≤ L
    rw [h]; exact Nat.le_refl L
  · have := h.2.2.2.1
    show (nx c L (ps c L i)).2.1 ≤ L
    omega
theorem tk_end {c : Nat → Nat} {L k : Nat} (h : nx c L (ps c L k) = (22, L, 0, L)) : ∀ f, nx c L (ps c L (k + f)) = (22, L, 0, L)
  | 0 => h
  | f + 1 => by
    have ih := tk_end h f
    have : ps c L (k + (f + 1)) = L := by
      show (nx c L (ps c L (k + f))).2.2.2 = L
      rw [ih]
    rw [this]
    exact nx_end c L
/-- numbers are below 10000 -/
theorem dv_n {c : Nat → Nat} {q : Nat} : ∀ n, n ≤ 4 → (∀ i, i < n → lD (c (q + i))) → ∃ x, x < 10 ^ n ∧ dv c q n = nI x
  | 0, _, _ => ⟨0, by decide, rfl⟩
  | n + 1, h4, h => by
    obtain ⟨x, h1, h2⟩ := dv_n (c := c) (q := q) n (by omega) (fun i hi => h i (by omega))
    have h3 := h n (by omega)
    refine ⟨x * 10 + (c (q + n) - 48), ?_, ?_⟩
    · rw [Nat.pow_succ]
      unfold lD at h3
      omega
    · show dv c q n * 10 + nI (c (q + n)) - 48 = _
      rw [h2, show (10 : Int32) = nI 10 from rfl, pk_mul, nI_add, show (48 : Int32) = nI 48 from rfl]
      unfold lD at h3
      rw [pk_sub (by omega)]
      congr 1
      omega
def vN (c : Nat → Nat) (L i : Nat) : Nat := (vl c L i).toNatClampNeg
theorem vN_ok {c : Nat → Nat} {L i : Nat} (h : tk c L i = 21) : vl c L i = nI (vN c L i) ∧ vN c L i < 10000 := by
  have hp := ps_le c L i
  obtain ⟨h1, h2⟩ := rn_in (P := lB) (c := c) hp
  have key : ∃ x, x < 10000 ∧ vl c L i = nI x := by
    unfold tk at h
    unfold vl
    unfold nx at h ⊢
    generalize ps c L i = p at *
    by_cases z : rn lB c (L - p) p < L
    · rw [if_pos z] at h ⊢
      generalize rn lB c (L - p) p = q at *
      by_cases y : lE (c q)
      · rw [if_pos y] at h
        exfalso
        have h : wT c q (rn lE c (L - q) q - q) 15 = 21 := h
        have := wT_lt c q (rn lE c (L - q) q - q) 15 (Nat.le_refl _)
        omega
      · rw [if_neg y] at h ⊢
        by_cases x : lD (c q)
        · rw [if_pos x] at h ⊢
          have h : (if rn lD c (L - q) q - q ≤ 4 then 21 else 23) = 21 := h
          have h4 : rn lD c (L - q) q - q ≤ 4 := by
            by_cases w : rn lD c (L - q) q - q ≤ 4
            · exact w
            · rw [if_neg w] at h; omega
          obtain ⟨e2, e3⟩ := rn_in (P := lD) (c := c) (L := L) (p := q) (by omega)
          obtain ⟨x, x1, x2⟩ := dv_n (c := c) (q := q) (rn lD c (L - q) q - q) h4 (fun i hi => rn_all (P := lD) (L - q) q (q + i) (by omega) (by omega))
          have : (10 : Nat) ^ (rn lD c (L - q) q - q) ≤ 10 ^ 4 := Nat.pow_le_pow_right (by decide) h4
          exact ⟨x, by omega, x2⟩
        · rw [if_neg x] at h
          exfalso
          have h : sg (c q) = 21 := h
          have := sg_rng (c q)
          omega
    · rw [if_neg z] at h
      exfalso
      exact absurd (show 22 = 21 from h) (by decide)
  obtain ⟨x, x1, x2⟩ := key
  unfold vN
  rw [x2, nI_clamp (by omega)]
  exact ⟨rfl, x1⟩
