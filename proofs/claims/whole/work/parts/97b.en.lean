/-! ===== all sets, one behind the other: as mathematics ===== -/
abbrev tup : Type := Nat → Option Nat
def cdl (P : Nat → Bool) : Nat → Nat → List Nat
  | 0, _ => []
  | r + 1, t => if P t = true then t :: cdl P r (t + 1) else cdl P r (t + 1)
theorem cdl_t {P : Nat → Bool} {r t : Nat} (h : P t = true) : cdl P (r + 1) t = t :: cdl P r (t + 1) := if_pos h
theorem cdl_f {P : Nat → Bool} {r t : Nat} (h : ¬ P t = true) : cdl P (r + 1) t = cdl P r (t + 1) := if_neg h
theorem cdl_tail {P : Nat → Bool} : ∀ (r t : Nat) {c : Nat} {cs : List Nat}, cdl P r t = c :: cs → t ≤ c ∧ c < t + r ∧ P c = true ∧ cs = cdl P (t + r - (c + 1)) (c + 1)
  | 0, t, c, cs, h => nomatch h
  | r + 1, t, c, cs, h => by
    by_cases z : P t = true
    · rw [cdl_t z] at h
      injection h with h1 h2
      subst h1
      refine ⟨Nat.le_refl _, by omega, z, ?_⟩
      rw [← h2, show t + (r + 1) - (t + 1) = r by omega]
    · rw [cdl_f z] at h
      obtain ⟨a1, a2, a3, a4⟩ := cdl_tail r (t + 1) h
      refine ⟨by omega, by omega, a3, ?_⟩
      rw [a4, show t + 1 + r - (c + 1) = t + (r + 1) - (c + 1) by omega]
theorem cdl_mem {P : Nat → Bool} : ∀ (r t : Nat) {c : Nat}, c ∈ cdl P r t → t ≤ c ∧ c < t + r ∧ P c = true
  | 0, t, c, h => nomatch h
  | r + 1, t, c, h => by
    by_cases z : P t = true
    · rw [cdl_t z] at h
      rcases List.mem_cons.mp h with h | h
      · rw [h]; exact ⟨Nat.le_refl _, by omega, z⟩
      · obtain ⟨a1, a2, a3⟩ := cdl_mem r (t + 1) h
        exact ⟨by omega, by omega, a3⟩
    · rw [cdl_f z] at h
      obtain ⟨a1, a2, a3⟩ := cdl_mem r (t + 1) h
      exact ⟨by omega, by omega, a3⟩
theorem cdl_len {P : Nat → Bool} : ∀ (r t : Nat), (cdl P r t).length ≤ r
  | 0, t => Nat.le_refl _
  | r + 1, t => by
    have := cdl_len (P := P) r (t + 1)
    by_cases z : P t = true
    · rw [cdl_t z, List.length_cons]; omega
    · rw [cdl_f z]; omega
theorem oU_same {T : tup} {k t : Nat} : oU T k t k = some t := if_pos rfl
theorem oU_ne {T : tup} {k t j : Nat} (h : j ≠ k) : oU T k t j = T j := if_neg h
theorem oU_oU {T : tup} {k t s : Nat} : oU (oU T k t) k s = oU T k s := by
  funext j
  by_cases h : j = k
  · subst h; rw [oU_same, oU_same]
  · rw [oU_ne h, oU_ne h, oU_ne h]
section ENA
variable (P : Nat → Nat → Bool) (B : Nat → Bool) (n : Nat)
def tl : Nat → Nat → tup → List tup
  | 0, _, T => [T]
  | r + 1, k, T => if B k = true then (cdl (P k) n 0).flatMap (fun t => tl r (k + 1) (oU T k t)) else tl r (k + 1) T
def lv (k : Nat) (T : tup) : List tup := if B k = true then (match T k with
  | some t => (cdl (P k) (n - (t + 1)) (t + 1)).flatMap (fun s => tl P B n (4 - k) (k + 1) (oU T k s))
  | none => []) else []
def af : Nat → Nat → tup → List tup
  | 0, _, _ => []
  | r + 1, k, T => af r (k + 1) T ++ lv P B n k T
def dn : Nat → tup → List tup
  | 0, _ => []
  | k + 1, T => lv P B n k T ++ dn k T
def fT : Nat → Nat → tup → tup
  | 0, _, T => T
  | r + 1, k, T => if B k = true then fT r (k + 1) (oU T k ((cdl (P k) n 0).headD 0)) else fT r (k + 1) T
end ENA
section ENB
variable {P : Nat → Nat → Bool} {B : Nat → Bool} {n : Nat}
theorem tl_s {r k : Nat} {T : tup} (h : B k = true) : tl P B n (r + 1) k T = (cdl (P k) n 0).flatMap (fun t => tl P B n r (k + 1) (oU T k t)) := if_pos h
theorem tl_n {r k : Nat} {T : tup} (h : ¬ B k = true) : tl P B n (r + 1) k T = tl P B n r (k + 1) T := if_neg h
theorem lv_s {k t : Nat} {T : tup} (h : B k = true) (ht : T k = some t) : lv P B n k T = (cdl (P k) (n - (t + 1)) (t + 1)).flatMap (fun s => tl P B n (4 - k) (k + 1) (oU T k s)) := by
  unfold lv
  rw [if_pos h, ht]
theorem lv_n {k : Nat} {T : tup} (h : ¬ B k = true) : lv P B n k T = [] := if_neg h
theorem fT_s {r k : Nat} {T : tup} (h : B k = true) : fT P B n (r + 1) k T = fT P B n r (k + 1) (oU T k ((cdl (P k) n 0).headD 0)) := if_pos h
theorem fT_n {r k : Nat} {T : tup} (h : ¬ B k = true) : fT P B n (r + 1) k T = fT P B n r (k + 1) T := if_neg h
theorem af_dn : ∀ (r k : Nat) (T : tup), af P B n r k T ++ dn P B n k T = dn P B n (k + r) T
  | 0, k, T => rfl
  | r + 1, k, T => by
    show (af P B n r (k + 1) T ++ lv P B n k T) ++ dn P B n k T = _
    rw [List.append_assoc]
    have := af_dn r (k + 1) T
    rw [show k + (r + 1) = k + 1 + r by omega]
    exact this
theorem flatMap_cg {α β : Type} {f g : α → List β} : ∀ (l : List α), (∀ x ∈ l, f x = g x) → l.flatMap f = l.flatMap g
  | [], _ => rfl
  | x :: l, h => by
    rw [List.flatMap_cons, List.flatMap_cons, h x List.mem_cons_self, flatMap_cg l (fun y hy => h y (List.mem_cons_of_mem _ hy))]
theorem tl_cg : ∀ (r k : Nat) (T T' : tup), r + k = 5 → (∀ j, ¬ (k ≤ j ∧ j < 5 ∧ B j = true) → T j = T' j) → tl P B n r k T = tl P B n r k T'
  | 0, k, T, T', hk, h => by
    have : T = T' := by
      funext j
      exact h j (by omega)
    rw [this]
  | r + 1, k, T, T', hk, h => by
    by_cases z : B k = true
    · rw [tl_s z, tl_s z]
      refine flatMap_cg _ (fun t _ => tl_cg r (k + 1) _ _ (by omega) (fun j hj => ?_))
      by_cases y : j = k
      · subst y; rw [oU_same, oU_same]
      · rw [oU_ne y, oU_ne y]
        exact h j (fun w => hj ⟨by omega, w.2⟩)
    · rw [tl_n z, tl_n z]
      refine tl_cg r (k + 1) T T' (by omega) (fun j hj => h j (fun w => ?_))
      by_cases y : j = k
      · subst y; exact z w.2.2
      · exact hj ⟨by omega, w.2⟩
theorem lv_cg {k : Nat} {T T' : tup} (hk : k < 5) (h : ∀ j, ¬ (k + 1 ≤ j ∧ j < 5 ∧ B j = true) → T j = T' j) : lv P B n k T = lv P B n k T' := by
  have e := h k (by omega)
  unfold lv
  by_cases z : B k = true
  · rw [if_pos z, if_pos z, e]
    cases T' k with
    | none => rfl
    | some t =>
      refine flatMap_cg _ (fun s _ => tl_cg _ _ _ _ (by omega) (fun j hj => ?_))
      by_cases y : j = k
      · subst y; rw [oU_same, oU_same]
      · rw [oU_ne y, oU_ne y]; exact h j hj
  · rw [if_neg z, if_neg z]
theorem dn_cg : ∀ (k : Nat) {T T' : tup}, k ≤ 5 → (∀ j, ¬ (k ≤ j ∧ j < 5 ∧ B j = true) → T j = T' j) → dn P B n k T = dn P B n k T'
  | 0, _, _, _, _ => rfl
  | k + 1, T, T', hk, h => by
    show lv P B n k T ++ dn P B n k T = lv P B n k T' ++ dn P B n k T'
    rw [lv_cg (by omega) h, dn_cg k (by omega) (fun j hj => h j (fun w => hj ⟨by omega, w.2⟩))]
theorem fT_pre : ∀ (r k : Nat) (T : tup) (j : Nat), ¬ (k ≤ j ∧ j < k + r ∧ B j = true) → fT P B n r k T j = T j
  | 0, _, _, _, _ => rfl
  | r + 1, k, T, j, h => by
    by_cases z : B k = true
    · have hj : j ≠ k := fun y => h (by subst y; exact ⟨Nat.le_refl _, by omega, z⟩)
      rw [fT_s z, fT_pre r (k + 1) _ j (fun w => h ⟨by omega, by omega, w.2.2⟩), oU_ne hj]
    · rw [fT_n z, fT_pre r (k + 1) _ j (fun w => h ⟨by omega, by omega, w.2.2⟩)]
theorem fT_id : ∀ (r k : Nat) (T : tup), (∀ j, k ≤ j → j < k + r → B j = true → T j = some ((cdl (P j) n 0).headD 0)) → fT P B n r k T = T
  | 0, _, _, _ => rfl
  | r + 1, k, T, h => by
    by_cases z : B k = true
    · have e : oU T k ((cdl (P k) n 0).headD 0) = T := by
        funext j
        by_cases y : j = k
        · subst y; rw [oU_same, h j (Nat.le_refl _) (by omega) z]
        · rw [oU_ne y]
      rw [fT_s z, e]
      exact fT_id r (k + 1) T (fun j a b c => h j (by omega) (by omega) c)
    · rw [fT_n z]
      exact fT_id r (k + 1) T (fun j a b c => h j (by omega) (by omega) c)
theorem tl_first : ∀ (r k : Nat) (T : tup), r + k = 5 → (∀ j, k ≤ j → j < 5 → B j = true → cdl (P j) n 0 ≠ []) → tl P B n r k T = fT P B n r k T :: af P B n r k (fT P B n r k T)
  | 0, _, _, _, _ => rfl
  | r + 1, k, T, hk, h => by
    have ih := fun T' => tl_first r (k + 1) T' (by omega) (fun j a b c => h j (by omega) b c)
    by_cases z : B k = true
    · cases hc : cdl (P k) n 0 with
      | nil => exact absurd hc (h k (Nat.le_refl _) (by omega) z)
      | cons c cs =>
        obtain ⟨c1, c2, c3, c4⟩ := cdl_tail n 0 hc
        rw [tl_s z, fT_s z, hc, List.flatMap_cons, ih]
        show (fT P B n r (k + 1) (oU T k c) :: af P B n r (k + 1) (fT P B n r (k + 1) (oU T k c))) ++ _ = fT P B n r (k + 1) (oU T k c) :: (af P B n r (k + 1) (fT P B n r (k + 1) (oU T k c)) ++ lv P B n k (fT P B n r (k + 1) (oU T k c)))
        rw [List.cons_append]
        have hk1 : fT P B n r (k + 1) (oU T k c) k = some c := by rw [fT_pre r (k + 1) _ k (by omega), oU_same]
        rw [lv_s z hk1, c4, show 0 + n - (c + 1) = n - (c + 1) by omega, show 4 - k = r by omega]
        have : ∀ s, tl P B n r (k + 1) (oU T k s) = tl P B n r (k + 1) (oU (fT P B n r (k + 1) (oU T k c)) k s) := fun s => tl_cg r (k + 1) _ _ (by omega) (fun j hj => by
          by_cases y : j = k
          · subst y; rw [oU_same, oU_same]
          · rw [oU_ne y, oU_ne y, fT_pre r (k + 1) _ j (fun w => hj ⟨w.1, by omega, w.2.2⟩), oU_ne y])
        rw [flatMap_cg _ (fun s _ => this s)]
    · rw [tl_n z, fT_n z, ih]
      show _ = fT P B n r (k + 1) T :: (af P B n r (k + 1) (fT P B n r (k + 1) T) ++ lv P B n k (fT P B n r (k + 1) T))
      rw [lv_n z, List.append_nil]
theorem tl_nil : ∀ (r k : Nat) (T : tup), r + k = 5 → (∃ j, k ≤ j ∧ j < 5 ∧ B j = true ∧ cdl (P j) n 0 = []) → tl P B n r k T = []
  | 0, k, _, hk, ⟨j, a, b, _⟩ => by omega
  | r + 1, k, T, hk, ⟨j, a, b, c, d⟩ => by
    by_cases z : B k = true
    · rw [tl_s z]
      by_cases y : j = k
      · subst y; rw [d]; rfl
      · rw [flatMap_cg (g := fun _ => ([] : List tup)) _ (fun t _ => tl_nil r (k + 1) _ (by omega) ⟨j, by omega, b, c, d⟩)]
        generalize cdl (P k) n 0 = l
        induction l with
        | nil => rfl
        | cons x l ih => rw [List.flatMap_cons]; exact ih
    · rw [tl_n z]
      have y : j ≠ k := fun y => z (by rw [← y]; exact c)
      exact tl_nil r (k + 1) T (by omega) ⟨j, by omega, b, c, d⟩
/-- one step of the other way to count them -/
theorem nx_ok {k t c : Nat} {cs : List Nat} {T : tup} (hk : k < 5) (hB : B k = true) (ht : T k = some t) (hc : cdl (P k) (n - (t + 1)) (t + 1) = c :: cs) (hne : ∀ j, j < 5 → B j = true → cdl (P j) n 0 ≠ []) (hf : ∀ j, k < j → j < 5 → B j = true → T j = some ((cdl (P j) n 0).headD 0)) : lv P B n k T ++ dn P B n k T = oU T k c :: dn P B n 5 (oU T k c) := by
  obtain ⟨c1, c2, c3, c4⟩ := cdl_tail _ _ hc
  have e1 : fT P B n (4 - k) (k + 1) (oU T k c) = oU T k c := fT_id _ _ _ (fun j a b d => by rw [oU_ne (by omega)]; exact hf j (by omega) (by omega) d)
  have e2 := tl_first (P := P) (B := B) (n := n) (4 - k) (k + 1) (oU T k c) (by omega) (fun j _ b d => hne j b d)
  rw [e1] at e2
  have e3 := af_dn (P := P) (B := B) (n := n) (4 - k) (k + 1) (oU T k c)
  rw [show k + 1 + (4 - k) = 5 by omega] at e3
  have e4 : dn P B n k T = dn P B n k (oU T k c) := dn_cg k (by omega) (fun j hj => by
    have : j ≠ k := fun y => hj (by subst y; exact ⟨Nat.le_refl _, hk, hB⟩)
    rw [oU_ne this])
  rw [lv_s hB ht, hc, List.flatMap_cons, e2, ← e3]
  show _ = oU T k c :: (_ ++ (lv P B n k (oU T k c) ++ dn P B n k (oU T k c)))
  rw [lv_s hB oU_same, e4, c4, show t + 1 + (n - (t + 1)) - (c + 1) = n - (c + 1) by omega]
  rw [flatMap_cg (f := fun s => tl P B n (4 - k) (k + 1) (oU T k s)) (g := fun s => tl P B n (4 - k) (k + 1) (oU (oU T k c) k s)) _ (fun s _ => by rw [oU_oU])]
  simp only [List.cons_append, List.append_assoc]
theorem lv_nil {k t : Nat} {T : tup} (hB : B k = true) (ht : T k = some t) (hc : cdl (P k) (n - (t + 1)) (t + 1) = []) : lv P B n k T = [] := by
  rw [lv_s hB ht, hc]; rfl
/-- not too many -/
theorem tl_len (hn : n ≤ 20) : ∀ (r k : Nat) (T : tup), (tl P B n r k T).length ≤ 20 ^ r
  | 0, _, _ => Nat.le_refl _
  | r + 1, k, T => by
    have ih := tl_len hn r (k + 1)
    by_cases z : B k = true
    · rw [tl_s z]
      have h1 : ∀ l : List Nat, (l.flatMap (fun t => tl P B n r (k + 1) (oU T k t))).length ≤ l.length * 20 ^ r := by
        intro l
        induction l with
        | nil => exact Nat.zero_le _
        | cons x l ihl =>
          rw [List.flatMap_cons, List.length_append, List.length_cons, Nat.add_mul, Nat.one_mul]
          have := ih (oU T k x)
          omega
      have h2 := h1 (cdl (P k) n 0)
      have h3 := cdl_len (P := P k) n 0
      have h4 : (cdl (P k) n 0).length * 20 ^ r ≤ 20 * 20 ^ r := Nat.mul_le_mul_right _ (by omega)
      rw [Nat.pow_succ, Nat.mul_comm (20 ^ r) 20]
      omega
    · rw [tl_n z, Nat.pow_succ]
      have := ih T
      have : 0 < 20 ^ r := Nat.pow_pos (by decide)
      omega
end ENB
/-! the best so far: how many fit, the set, its again, its ranks -/
abbrev jst : Type := Nat × Int32 × Int32 × Int32
def jd (bar : tup → Bool) (ag rk bi : tup → Int32) (s : jst) (T : tup) : jst := if bar T = true then s else (s.1 + 1, if s.1 = 0 ∨ ag T < s.2.2.1 ∨ (ag T = s.2.2.1 ∧ s.2.2.2 < rk T) then (bi T, ag T, rk T) else s.2)
theorem jd_b {bar : tup → Bool} {ag rk bi : tup → Int32} {s : jst} {T : tup} (h : bar T = true) : jd bar ag rk bi s T = s := if_pos h
theorem jd_y {bar : tup → Bool} {ag rk bi : tup → Int32} {s : jst} {T : tup} (h : ¬ bar T = true) (h2 : s.1 = 0 ∨ ag T < s.2.2.1 ∨ (ag T = s.2.2.1 ∧ s.2.2.2 < rk T)) : jd bar ag rk bi s T = (s.1 + 1, bi T, ag T, rk T) := by
  unfold jd
  rw [if_neg h, if_pos h2]
theorem jd_n {bar : tup → Bool} {ag rk bi : tup → Int32} {s : jst} {T : tup} (h : ¬ bar T = true) (h2 : ¬ (s.1 = 0 ∨ ag T < s.2.2.1 ∨ (ag T = s.2.2.1 ∧ s.2.2.2 < rk T))) : jd bar ag rk bi s T = (s.1 + 1, s.2) := by
  unfold jd
  rw [if_neg h, if_neg h2]
theorem jd_le {bar : tup → Bool} {ag rk bi : tup → Int32} {s : jst} {T : tup} : s.1 ≤ (jd bar ag rk bi s T).1 ∧ (jd bar ag rk bi s T).1 ≤ s.1 + 1 := by
  unfold jd
  split
  · exact ⟨Nat.le_refl _, Nat.le_succ _⟩
  · exact ⟨Nat.le_succ _, Nat.le_refl _⟩
theorem jf_le {bar : tup → Bool} {ag rk bi : tup → Int32} : ∀ (l : List tup) (s : jst), s.1 ≤ (l.foldl (jd bar ag rk bi) s).1 ∧ (l.foldl (jd bar ag rk bi) s).1 ≤ s.1 + l.length
  | [], s => ⟨Nat.le_refl _, Nat.le_refl _⟩
  | T :: l, s => by
    have h1 := jd_le (bar := bar) (ag := ag) (rk := rk) (bi := bi) (s := s) (T := T)
    have h2 := jf_le (bar := bar) (ag := ag) (rk := rk) (bi := bi) l (jd bar ag rk bi s T)
    rw [List.foldl_cons, List.length_cons]
    omega
/-- what stood there before does not count -/
theorem jf_eq {bar : tup → Bool} {ag rk bi : tup → Int32} : ∀ (l : List tup) (s s' : jst), s = s' ∨ (s.1 = 0 ∧ s'.1 = 0) → l.foldl (jd bar ag rk bi) s = l.foldl (jd bar ag rk bi) s' ∨ ((l.foldl (jd bar ag rk bi) s).1 = 0 ∧ (l.foldl (jd bar ag rk bi) s').1 = 0)
  | [], s, s', h => h
  | T :: l, s, s', h => by
    rw [List.foldl_cons, List.foldl_cons]
    refine jf_eq l _ _ ?_
    rcases h with rfl | ⟨h1, h2⟩
    · exact Or.inl rfl
    · by_cases z : bar T = true
      · rw [jd_b z, jd_b z]; exact Or.inr ⟨h1, h2⟩
      · rw [jd_y z (Or.inl h1), jd_y z (Or.inl h2), h1, h2]; exact Or.inl rfl
