/-! ===== the questions about things: equal answers ===== -/
theorem j_ct {σ : pm_S} {n e : Nat} (hJ : J1 σ n e) : ∀ t, t ≤ n → c_ct (fun t => h_s σ t e) t = m_ct σ t
  | 0, _ => rfl
  | t + 1, h => by
    have ih := j_ct hJ t (by omega)
    show c_ct (fun t => h_s σ t e) t + (if (h_h σ t e).2.2.2.2 = 1 then 1 else 0) = m_ct σ t + if qI σ 51 t = -1 then 1 else 0
    rw [ih]
    by_cases z : qI σ 51 t = -1
    · rw [if_pos z, if_pos ((j_th hJ (by omega)).mp z)]
    · rw [if_neg z, if_neg (fun y => z ((j_th hJ (by omega)).mpr y))]
theorem j_look {σ : pm_S} {n e : Nat} (hJ : J1 σ n e) (h9 : qI σ 9 2 = qI σ 43 3) (h4 : qI σ (qR σ 6 6) 5 = qI σ 43 21) (what : Int32) : c_look σ (fun t => h_s σ t e) n what = m_look σ n what := by
  unfold c_look m_look
  rw [hJ.2.2.2.2.2.1, hJ.1.1, hJ.2.1, j_ct hJ n (Nat.le_refl n), h9, h4]
theorem p_look {σ : pm_S} {n e : Nat} (hJ : J1 σ n e) (hS : pm_fix σ) (hr : pm_is σ (qR σ 6 6) 4) (h9 : qI σ 9 2 = qI σ 43 3) (h4 : qI σ (qR σ 6 6) 5 = qI σ 43 21) (what : Int32) : ∃ v, PE 10 0 MX11_look [.ref 6, .int what] σ (some (.int v)) σ ∧ PE 10 0 MX12_look [.ref 43, .int what] σ (some (.int v)) σ :=
  ⟨_, t_look (d := 10) (al := 0) (by decide) hS hJ.1 hr what, by rw [j_look hJ h9 h4]; exact s_look (d := 10) (al := 0) (by decide) hS hJ.2.1 hJ.1.2.1 what⟩
theorem c_db_ex {σ : pm_S} {X : Nat → List c_A} {j : Nat} : ∀ k t, c_db σ X j k t = true ↔ ∃ o, t ≤ o ∧ o < t + k ∧ c_dP σ X j o
  | 0, t => ⟨fun h => absurd (show false = true from h) (by decide), fun ⟨o, h1, h2, _⟩ => by omega⟩
  | k + 1, t => by
    show (if c_dP σ X j t then true else c_db σ X j k (t + 1)) = true ↔ _
    by_cases z : c_dP σ X j t
    · rw [if_pos z]
      exact ⟨fun _ => ⟨t, by omega, by omega, z⟩, fun _ => rfl⟩
    · rw [if_neg z, c_db_ex k (t + 1)]
      constructor
      · rintro ⟨o, h1, h2, h3⟩
        exact ⟨o, by omega, by omega, h3⟩
      · rintro ⟨o, h1, h2, h3⟩
        have : o ≠ t := fun y => z (y ▸ h3)
        exact ⟨o, by omega, by omega, h3⟩
theorem m_db_ex {σ : pm_S} {e j : Nat} : ∀ k, m_db σ e j k = true ↔ ∃ o, o < k ∧ dbP σ e j o
  | 0 => ⟨fun h => absurd (show false = true from h) (by decide), fun ⟨o, h1, _⟩ => by omega⟩
  | k + 1 => by
    rw [m_db_s, Bool.or_eq_true, m_db_ex k, decide_eq_true_eq]
    constructor
    · rintro (⟨o, h1, h2⟩ | h)
      · exact ⟨o, by omega, h2⟩
      · exact ⟨k, by omega, h⟩
    · rintro ⟨o, h1, h2⟩
      by_cases z : o = k
      · subst z; exact Or.inr h2
      · exact Or.inl ⟨o, by omega, h2⟩
theorem j_inDb {σ : pm_S} {n e j : Nat} (hJ : J1 σ n e) (hj : j < n) : c_inDb σ (fun t => h_s σ t e) n j ↔ inDb σ n e j := by
  obtain ⟨hT, j1, j2, j3, j4, j5, j6, hev, hcp, hat⟩ := id hJ
  have hn2 := hT.2.1
  have hrj := m_rt_le hcp 20 j hj hn2
  have hr : ∀ t, t < n → qI σ (qR σ 8 t) 7 = nI (m_rt σ 20 t) := fun t ht => (hat t ht).1.2.2.2.2.2.2
  have hk : ∀ t, t < n → (hX (fun t => h_s σ t e) t).2.2.1 = m_ke σ e t (qI σ 43 0) := fun t ht => (h_now hn2 ht hev).2.1
  have hdb : c_db σ (fun t => h_s σ t e) j n 0 = true ↔ m_db σ e j n = true := by
    rw [c_db_ex, m_db_ex]
    constructor
    · rintro ⟨o, -, h2, h3, h4, h5⟩
      have ho : o < n := by omega
      have hro := m_rt_le hcp 20 o ho hn2
      rw [hr o ho, hr j hj] at h4
      rw [hk o ho, hk j hj] at h5
      exact ⟨o, ho, fun z => h5 (by rw [z]), (j_th hJ ho).mpr h3, nI_inj (by omega) (by omega) h4, h5⟩
    · rintro ⟨o, ho, h2, h3, h4, h5⟩
      refine ⟨o, by omega, by omega, (j_th hJ ho).mp h3, ?_, ?_⟩
      · rw [hr o ho, hr j hj, h4]
      · rw [hk o ho, hk j hj]; exact h5
  have hroot : ¬ cTh (fun t => h_s σ t e) n (qI σ (qR σ 8 j) 7) ↔ qI σ 51 (m_rt σ 20 j) ≠ -1 := by
    rw [hr j hj, ← j_isTh hJ]
    have hcl : (nI (m_rt σ 20 j)).toNatClampNeg = m_rt σ 20 j := nI_clamp (by omega)
    constructor
    · intro h z
      exact h ⟨tOk_nI (by omega) (by omega), by rw [hcl]; exact z⟩
    · intro h z
      have := z.2
      rw [hcl] at this
      exact h this
  unfold c_inDb inDb
  rw [hdb, hroot]
  have h51 : (hX (fun t => h_s σ t e) j).2.2.2.2 = 1 ↔ qI σ 51 j = -1 := (j_th hJ hj).symm
  rw [h51]
  constructor
  · rintro ⟨h1, h2 | h2⟩
    · refine ⟨h1, Or.inl ⟨fun z => h2 (by rw [z]; exact h1), h2⟩⟩
    · exact ⟨h1, Or.inr h2⟩
  · rintro ⟨h1, h2 | h2⟩
    · exact ⟨h1, Or.inl h2.2⟩
    · exact ⟨h1, Or.inr h2⟩
theorem j_of {σ : pm_S} {n e : Nat} (hJ : J1 σ n e) (t what : Int32) : c_of σ (fun t => h_s σ t e) n t what = m_of σ n e t what := by
  unfold c_of m_of
  by_cases ht : tOk n t
  · rw [if_pos ht, if_pos ht]
    have hn2 := hJ.1.2.1
    obtain ⟨j, hj, rfl⟩ := (tOk_iff (by omega)).mp ht
    have hcl : (nI j).toNatClampNeg = j := nI_clamp (by omega)
    rw [hcl]
    obtain ⟨w1, w2, w3, w4, w5, w6, w7⟩ := (hJ.2.2.2.2.2.2.2.2.2 j hj).1
    rw [bI_c (j_inDb hJ hj), bI_c (show (hX (fun t => h_s σ t e) j).2.2.2.2 = 1 ↔ qI σ 51 j = -1 from (j_th hJ hj).symm), w1, w2, w3, w4, w5, w6, w7]
  · rw [if_neg ht, if_neg ht]
theorem p_of {σ : pm_S} {n e : Nat} (hJ : J1 σ n e) (hS : pm_fix σ) (t what : Int32) : ∃ v, PE 10 0 MX11_of [.ref 6, .int t, .int what] σ (some (.int v)) σ ∧ PE 10 0 MX12_of [.ref 43, .int t, .int what] σ (some (.int v)) σ :=
  ⟨_, t_of (d := 10) (al := 0) (by decide) hS hJ.1 t what, by rw [j_of hJ]; exact s_of (d := 10) (al := 0) (by decide) hS hJ.2.1 hJ.1.2.1 hJ.2.2.1 hJ.2.2.2.1 hJ.2.2.2.2.2.2.2.2.1 t what⟩
/-! held -/
theorem h_tail {σ : pm_S} {n t : Nat} (hn : n ≤ 20) (ht : t < n) : ∀ e, h_ev σ n e → ∀ x ∈ (h_s σ t e).tail, x.2.2.2.2 = 1
  | 0, _, x, hx => absurd hx (by simp [h_s])
  | e + 1, he, x, hx => by
    have ih := h_tail hn ht e (he.less (Nat.le_succ e))
    rw [h_s_s] at hx
    by_cases hq : qI σ 52 e = nI t
    · rw [if_pos hq, List.tail_cons] at hx
      obtain ⟨-, hok⟩ := he.own hn (Nat.lt_succ_self e) ht hq
      obtain ⟨xs, hxs⟩ := h_h_cons σ t e
      rw [hxs] at hx ih
      rcases List.mem_cons.mp hx with rfl | hx
      · exact hok.1
      · exact ih x hx
    · rw [if_neg hq] at hx
      exact ih x hx
theorem h_from {σ : pm_S} {n t : Nat} (hn : n ≤ 20) (ht : t < n) : ∀ e, h_ev σ n e → ∀ x ∈ h_s σ t e, qI σ 48 t ≤ x.1
  | 0, _, x, hx => by
    have : x = (qI σ 48 t, qI σ 50 t, qI σ 50 t, 0, 1) := by simpa [h_s] using hx
    rw [this]; exact Int32.le_refl _
  | e + 1, he, x, hx => by
    have ih := h_from hn ht e (he.less (Nat.le_succ e))
    rw [h_s_s] at hx
    by_cases hq : qI σ 52 e = nI t
    · rw [if_pos hq] at hx
      rcases List.mem_cons.mp hx with rfl | hx
      · rw [h_st_day]; exact (he.own hn (Nat.lt_succ_self e) ht hq).1
      · exact ih x hx
    · rw [if_neg hq] at hx
      exact ih x hx
theorem dW_all {day : Int32} : ∀ {l : List c_A}, (∀ x ∈ l, ¬ x.1 ≤ day) → l.dropWhile (fun x => decide (¬ x.1 ≤ day)) = []
  | [], _ => rfl
  | x :: xs, h => by
    rw [List.dropWhile_cons, if_pos]
    · exact dW_all (fun y hy => h y (List.mem_cons_of_mem _ hy))
    · simpa using h x List.mem_cons_self
theorem dW_mem {day : Int32} : ∀ {l : List c_A} {z : c_A} {zs : List c_A}, l.dropWhile (fun x => decide (¬ x.1 ≤ day)) = z :: zs → z ∈ l
  | x :: xs, z, zs, h => by
    rw [List.dropWhile_cons] at h
    split at h
    · exact List.mem_cons_of_mem _ (dW_mem h)
    · injection h with h1 h2
      rw [h1]; exact List.mem_cons_self
theorem j_held {σ : pm_S} {n e : Nat} (hJ : J1 σ n e) (t day what : Int32) : c_held σ (fun t => h_s σ t e) n t day what = m_held σ n e t day what := by
  obtain ⟨hT, j1, j2, j3, j4, j5, ⟨D, hD1, hD2⟩, hev, hcp, hat⟩ := id hJ
  have hn2 := hT.2.1
  unfold c_held m_held
  by_cases ht : tOk n t
  · obtain ⟨j, hj, rfl⟩ := (tOk_iff (by omega)).mp ht
    have hcl : (nI j).toNatClampNeg = j := nI_clamp (by omega)
    unfold okHeld
    rw [hcl, j5]
    obtain ⟨v1, v2, v3⟩ := hev.2.2.2 j hj
    by_cases hw : (0 : Int32) ≤ what ∧ what ≤ 1
    · by_cases hd : day ≤ qI σ 43 0
      · by_cases hc : qI σ 48 j ≤ day
        · have h0 : 0 ≤ day := i_trans v2 hc
          rw [if_pos ⟨ht, ⟨h0, hd⟩, hw⟩]
          obtain ⟨z, zs, i1, i2, i3, i4, i5⟩ := h_A (day := day) hn2 hj hc e hev
          obtain ⟨xs, hxs⟩ := h_h_cons σ j e
          have htail := h_tail hn2 hj e hev
          unfold c_hd
          rw [i1]
          show (if z.2.2.2.2 = 0 then _ else _) = _
          rcases (hat j hj).2.2 with ⟨b1, b2⟩ | ⟨b1, b2⟩
          · have hz : z.2.2.2.2 = 1 := by
              have := dW_mem i1
              rw [hxs] at this htail
              rcases List.mem_cons.mp this with h | h
              · rw [h]; exact b2
              · exact htail z h
            have hok : (tOk n (nI j) ∧ (qI σ 48 j ≤ day ∧ day ≤ qI σ 43 0) ∧ (qI σ 51 j ≠ -1 → ¬ qI σ 51 j ≤ day) ∧ (0 ≤ what ∧ what ≤ 1)) := ⟨ht, ⟨hc, hd⟩, fun y => absurd b1 y, hw⟩
            rw [if_neg (by rw [hz]; decide), if_pos hok, i2, i3]
          · have hbn : qI σ 51 j ≠ -1 := fun y => by
              have := (h_day0 hn2 hj e hev).1
              rw [← b1, y] at this
              exact absurd this (by decide)
            by_cases hb : qI σ 51 j ≤ day
            · have hz : z = h_h σ j e := by
                rw [hxs, List.dropWhile_cons, if_neg] at i1
                · injection i1 with i1 _; exact i1.symm
                · rw [b1] at hb; simpa using hb
              have hno : ¬ (tOk n (nI j) ∧ (qI σ 48 j ≤ day ∧ day ≤ qI σ 43 0) ∧ (qI σ 51 j ≠ -1 → ¬ qI σ 51 j ≤ day) ∧ (0 ≤ what ∧ what ≤ 1)) := fun y => y.2.2.1 hbn hb
              rw [if_pos (by rw [hz]; exact b2), if_neg hno]
            · have hz : z.2.2.2.2 = 1 := by
                rw [hxs, List.dropWhile_cons, if_pos] at i1
                · rw [hxs] at htail
                  exact htail z (dW_mem i1)
                · rw [b1] at hb; simpa using hb
              have hok : (tOk n (nI j) ∧ (qI σ 48 j ≤ day ∧ day ≤ qI σ 43 0) ∧ (qI σ 51 j ≠ -1 → ¬ qI σ 51 j ≤ day) ∧ (0 ≤ what ∧ what ≤ 1)) := ⟨ht, ⟨hc, hd⟩, fun _ => hb, hw⟩
              rw [if_neg (by rw [hz]; decide), if_pos hok, i2, i3]
        · have hno : ¬ (tOk n (nI j) ∧ (qI σ 48 j ≤ day ∧ day ≤ qI σ 43 0) ∧ (qI σ 51 j ≠ -1 → ¬ qI σ 51 j ≤ day) ∧ (0 ≤ what ∧ what ≤ 1)) := fun y => hc y.2.1.1
          rw [if_neg hno]
          split
          · unfold c_hd
            rw [dW_all (fun x hx y => hc (i_trans (h_from hn2 hj e hev x hx) y))]
          · rfl
      · rw [if_neg (fun y => hd y.2.1.2), if_neg (fun y => hd y.2.1.2)]
    · rw [if_neg (fun y => hw y.2.2), if_neg (fun y => hw y.2.2.2)]
  · rw [if_neg (fun y => ht y.1), if_neg (fun y => ht y.1)]
theorem p_held {σ : pm_S} {n e : Nat} (hJ : J1 σ n e) (hS : pm_fix σ) (t day what : Int32) : ∃ v, PE 10 0 MX11_held [.ref 6, .int t, .int day, .int what] σ (some (.int v)) σ ∧ PE 10 0 MX12_held [.ref 43, .int t, .int day, .int what] σ (some (.int v)) σ :=
  ⟨_, t_held (d := 10) (al := 0) (by decide) hS hJ.1 t day what, by rw [j_held hJ]; exact s_held (d := 10) (al := 0) (by decide) hS hJ.2.1 hJ.1.2.1 hJ.2.2.1 hJ.2.2.2.1 t day what⟩
/-! owners -/
def h_p (σ : pm_S) (t : Nat) : Nat → Nat
  | 0 => 0
  | e + 1 => h_p σ t e + if qI σ 52 e = nI t ∧ qI σ 53 e = 0 then 1 else 0
theorem h_p_le (σ : pm_S) (t : Nat) : ∀ e, h_p σ t e ≤ e
  | 0 => Nat.le_refl _
  | e + 1 => by
    have := h_p_le σ t e
    show h_p σ t e + (if _ then 1 else 0) ≤ e + 1
    split <;> omega
theorem h_p_s (σ : pm_S) (t e : Nat) : h_p σ t (e + 1) = h_p σ t e + if qI σ 52 e = nI t ∧ qI σ 53 e = 0 then 1 else 0 := rfl
theorem h_st_turn {k o d : Int32} {x : c_A} : (h_st k o d x).2.2.2.1 = if k = 0 then x.2.2.2.1 + 1 else x.2.2.2.1 := by
  unfold h_st
  split
  · rfl
  · split
    · rfl
    · split <;> rfl
theorem h_st_own {k o d : Int32} {x : c_A} : (h_st k o d x).2.1 = if k = 0 then o else x.2.1 := by
  unfold h_st
  split
  · rfl
  · split
    · rfl
    · split <;> rfl
theorem h_turn (σ : pm_S) (t : Nat) : ∀ e, (h_h σ t e).2.2.2.1 = nI (h_p σ t e)
  | 0 => rfl
  | e + 1 => by
    rw [h_h_s, h_p_s]
    by_cases hq : qI σ 52 e = nI t
    · rw [if_pos hq, h_st_turn]
      by_cases h0 : qI σ 53 e = 0
      · rw [if_pos h0, if_pos ⟨hq, h0⟩, h_turn σ t e, nI_succ]
      · rw [if_neg h0, if_neg (fun z => h0 z.2), h_turn σ t e, Nat.add_zero]
    · rw [if_neg hq, if_neg (fun z => hq z.1), h_turn σ t e, Nat.add_zero]
theorem h_turns (σ : pm_S) (t : Nat) : ∀ e, ∀ x ∈ h_s σ t e, ∃ k, k ≤ h_p σ t e ∧ x.2.2.2.1 = nI k
  | 0, x, hx => by
    have : x = (qI σ 48 t, qI σ 50 t, qI σ 50 t, 0, 1) := by simpa [h_s] using hx
    rw [this]; exact ⟨0, Nat.le_refl _, rfl⟩
  | e + 1, x, hx => by
    have hle : h_p σ t e ≤ h_p σ t (e + 1) := by rw [h_p_s]; omega
    by_cases hq : qI σ 52 e = nI t
    · rw [h_s_s, if_pos hq] at hx
      rcases List.mem_cons.mp hx with rfl | hx
      · have := h_turn σ t (e + 1)
        rw [h_h_s, if_pos hq] at this
        exact ⟨_, Nat.le_refl _, this⟩
      · obtain ⟨k, h1, h2⟩ := h_turns σ t e x hx
        exact ⟨k, by omega, h2⟩
    · rw [h_s_s, if_neg hq] at hx
      obtain ⟨k, h1, h2⟩ := h_turns σ t e x hx
      exact ⟨k, by omega, h2⟩
theorem c_oa_no {w : Int32} : ∀ {l : List c_A}, (∀ x ∈ l, x.2.2.2.1 ≠ w) → c_oa w l = -1
  | [], _ => rfl
  | x :: xs, h => by
    show (if x.2.2.2.1 = w then x.2.1 else c_oa w xs) = -1
    rw [if_neg (h x List.mem_cons_self)]
    exact c_oa_no (fun y hy => h y (List.mem_cons_of_mem _ hy))
/-- a turn that was reached keeps its owner -/
theorem h_stay {σ : pm_S} {t k e : Nat} (he : e < 1000) (hk : k ≤ h_p σ t e) : c_oa (nI k) (h_s σ t (e + 1)) = c_oa (nI k) (h_s σ t e) := by
  have hpe := h_p_le σ t e
  rw [h_s_s]
  by_cases hq : qI σ 52 e = nI t
  · rw [if_pos hq]
    show (if (h_st (qI σ 53 e) (qI σ 54 e) (qI σ 55 e) (h_h σ t e)).2.2.2.1 = nI k then (h_st (qI σ 53 e) (qI σ 54 e) (qI σ 55 e) (h_h σ t e)).2.1 else c_oa (nI k) (h_s σ t e)) = _
    rw [h_st_turn, h_st_own, h_turn]
    by_cases h0 : qI σ 53 e = 0
    · rw [if_pos h0, ← nI_succ, if_neg (nI_ne (by omega) (by omega) (by omega))]
    · rw [if_neg h0, if_neg h0]
      by_cases hz : h_p σ t e = k
      · obtain ⟨xs, hxs⟩ := h_h_cons σ t e
        rw [if_pos (by rw [hz]), hxs]
        show _ = if (h_h σ t e).2.2.2.1 = nI k then (h_h σ t e).2.1 else _
        rw [if_pos (by rw [h_turn, hz])]
      · rw [if_neg (nI_ne (by omega) (by omega) hz)]
  · rw [if_neg hq]
theorem h_stays {σ : pm_S} {t k e : Nat} : ∀ f, e + f < 1000 → k ≤ h_p σ t e → c_oa (nI k) (h_s σ t (e + f)) = c_oa (nI k) (h_s σ t e) ∧ h_p σ t e ≤ h_p σ t (e + f)
  | 0, _, _ => ⟨rfl, Nat.le_refl _⟩
  | f + 1, h1, h2 => by
    obtain ⟨i1, i2⟩ := h_stays f (by omega) h2
    refine ⟨?_, ?_⟩
    · show c_oa (nI k) (h_s σ t ((e + f) + 1)) = _
      rw [h_stay (by omega) (by omega), i1]
    · show _ ≤ h_p σ t ((e + f) + 1)
      rw [h_p_s]; omega
theorem m_os_c {σ : pm_S} {t : Nat} : ∀ (f e : Nat), e + f < 1000 → m_os σ (nI t) (-1) f e (h_p σ t e + 1) = nI (h_p σ t (e + f) + 1)
  | 0, e, _ => by
    show (if (-1 : Int32) = -1 then _ else _) = _
    rw [if_pos rfl]; rfl
  | f + 1, e, h => by
    have hpe := h_p_le σ t e
    show (if qI σ 52 e = nI t ∧ qI σ 53 e = 0 then (if nI (h_p σ t e + 1) = -1 then qI σ 54 e else m_os σ (nI t) (-1) f (e + 1) (h_p σ t e + 1 + 1)) else m_os σ (nI t) (-1) f (e + 1) (h_p σ t e + 1)) = _
    have ih := m_os_c (σ := σ) (t := t) f (e + 1) (by omega)
    rw [h_p_s] at ih
    rw [show e + (f + 1) = e + 1 + f by omega]
    by_cases hq : qI σ 52 e = nI t ∧ qI σ 53 e = 0
    · rw [if_pos hq, if_neg (nI_nm1 (by omega))]
      rw [if_pos hq] at ih
      exact ih
    · rw [if_neg hq]
      rw [if_neg hq] at ih
      exact ih
theorem m_os_k {σ : pm_S} {t k : Nat} (hk : k < 2 ^ 31) : ∀ (f e : Nat), e + f < 1000 → h_p σ t e < k → m_os σ (nI t) (nI k) f e (h_p σ t e + 1) = c_oa (nI k) (h_s σ t (e + f))
  | 0, e, h, hp => by
    show (if nI k = -1 then _ else _) = _
    rw [if_neg (nI_nm1 (by omega)), Nat.add_zero, c_oa_no]
    intro x hx
    obtain ⟨i, h1, h2⟩ := h_turns σ t e x hx
    rw [h2]
    exact nI_ne (by omega) (by omega) (by omega)
  | f + 1, e, h, hp => by
    have hpe := h_p_le σ t e
    show (if qI σ 52 e = nI t ∧ qI σ 53 e = 0 then (if nI (h_p σ t e + 1) = nI k then qI σ 54 e else m_os σ (nI t) (nI k) f (e + 1) (h_p σ t e + 1 + 1)) else m_os σ (nI t) (nI k) f (e + 1) (h_p σ t e + 1)) = _
    have ih := m_os_k (σ := σ) (t := t) hk f (e + 1) (by omega)
    rw [h_p_s] at ih
    rw [show e + (f + 1) = e + 1 + f by omega]
    by_cases hq : qI σ 52 e = nI t ∧ qI σ 53 e = 0
    · rw [if_pos hq]
      rw [if_pos hq] at ih
      by_cases hz : h_p σ t e + 1 = k
      · rw [if_pos (by rw [hz])]
        have hp1 : h_p σ t (e + 1) = k := by rw [h_p_s, if_pos hq]; exact hz
        rw [(h_stays (σ := σ) (t := t) (k := k) (e := e + 1) f (by omega) (by omega)).1]
        obtain ⟨xs, hxs⟩ := h_h_cons σ t (e + 1)
        rw [hxs]
        show _ = if (h_h σ t (e + 1)).2.2.2.1 = nI k then (h_h σ t (e + 1)).2.1 else _
        rw [if_pos (by rw [h_turn, hp1]), h_h_s, if_pos hq.1, h_st_own, if_pos hq.2]
      · rw [if_neg (nI_ne (by omega) (by omega) hz)]
        exact ih (by omega)
    · rw [if_neg hq]
      rw [if_neg hq] at ih
      exact ih hp
theorem j_own {σ : pm_S} {n e : Nat} (hJ : J1 σ n e) (t w : Int32) : c_own (fun t => h_s σ t e) n t w = m_own σ n e t w := by
  have hn2 := hJ.1.2.1
  have he := hJ.2.2.2.1
  unfold c_own m_own
  by_cases ht : tOk n t
  · rw [if_pos ht]
    obtain ⟨j, hj, rfl⟩ := (tOk_iff (by omega)).mp ht
    have hcl : (nI j).toNatClampNeg = j := nI_clamp (by omega)
    rw [hcl]
    have hpe := h_p_le σ j e
    show (if w = -1 then (h_h σ j e).2.2.2.1 + 1 else c_oa w (h_s σ j e)) = _
    rw [h_turn]
    by_cases hw : w = -1
    · subst hw
      rw [if_pos rfl, if_pos ⟨ht, Int32.le_refl _⟩, if_neg (by decide)]
      have := m_os_c (σ := σ) (t := j) e 0 (by omega)
      rw [Nat.zero_add] at this
      rw [show m_os σ (nI j) (-1) e 0 1 = _ from this, nI_succ]
    · rw [if_neg hw]
      by_cases hp : -1 ≤ w
      · rw [if_pos ⟨ht, hp⟩]
        obtain ⟨k, hk, rfl⟩ : ∃ k, k < 2 ^ 31 ∧ w = nI k := by
          have h1 := i_le.mp hp
          have e1 : (-1 : Int32).toInt = -1 := rfl
          rw [e1] at h1
          have h2 : w.toInt ≠ -1 := fun z => hw (i_eq.mpr z)
          have h3 := Int32.toInt_lt w
          refine ⟨w.toInt.toNat, by omega, ?_⟩
          rw [i_eq, nI_toInt (by omega)]
          omega
        by_cases hk0 : k = 0
        · subst hk0
          rw [if_pos (show nI 0 = 0 from rfl)]
          have := (h_stays (σ := σ) (t := j) (k := 0) (e := 0) e (by omega) (Nat.zero_le _)).1
          rw [Nat.zero_add] at this
          rw [this]
          rfl
        · rw [if_neg (fun z => hk0 (nI_inj hk (by omega) (z.trans (show (0 : Int32) = nI 0 from rfl))))]
          have := m_os_k (σ := σ) (t := j) hk e 0 (by omega) (by show 0 < k; omega)
          rw [Nat.zero_add] at this
          exact this.symm
      · rw [if_neg (fun z => hp z.2), c_oa_no]
        intro x hx
        obtain ⟨i, h1, h2⟩ := h_turns σ j e x hx
        rw [h2]
        intro z
        apply hp
        rw [← z]
        exact i_trans (show (-1 : Int32) ≤ 0 by decide) (nI_pos' (by omega))
  · rw [if_neg ht, if_neg (fun z => ht z.1)]
theorem p_owners {σ : pm_S} {n e : Nat} (hJ : J1 σ n e) (hS : pm_fix σ) (t w : Int32) : ∃ v, PE 10 0 MX11_owners [.ref 6, .int t, .int w] σ (some (.int v)) σ ∧ PE 10 0 MX12_owners [.ref 43, .int t, .int w] σ (some (.int v)) σ :=
  ⟨_, t_owners (d := 10) (al := 0) (by decide) hS hJ.1 t w, by rw [j_own hJ]; exact s_owners (d := 10) (al := 0) (by decide) hS hJ.2.1 hJ.1.2.1 hJ.2.2.1 hJ.2.2.2.1 t w⟩
