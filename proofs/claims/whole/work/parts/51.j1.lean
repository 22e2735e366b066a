/-! ===== the class's things and the reference's, side by side ===== -/
theorem Ch.fr {σ τ : pm_S} (hN : qN σ ≤ qN τ) (hT : ∀ a, a < qN σ → qT τ a = qT σ a) (hI : ∀ a k, pm_is σ a 0 → 68 ≤ a → qI τ a k = qI σ a k) (hR : ∀ a, pm_is σ a 0 → 68 ≤ a → qR τ a 0 = qR σ a 0) : ∀ (xs : List c_A) (a : Nat), Ch σ a xs → Ch τ a xs
  | [], a, h => h
  | x :: xs, a, h => by
    obtain ⟨⟨h1, h2⟩, ⟨f1, f2, f3, f4, f5⟩, h3⟩ := h
    refine ⟨⟨⟨h1.1, Nat.lt_of_lt_of_le h1.2.1 hN, by rw [hT a h1.2.1]; exact h1.2.2⟩, h2⟩, ⟨by rw [hI a 1 h1 h2]; exact f1, by rw [hI a 2 h1 h2]; exact f2, by rw [hI a 3 h1 h2]; exact f3, by rw [hI a 4 h1 h2]; exact f4, by rw [hI a 5 h1 h2]; exact f5⟩, ?_⟩
    rw [hR a h1 h2]
    exact Ch.fr hN hT hI hR xs _ h3
def j_at (σ : pm_S) (t : Nat) : Prop := qI σ (qR σ 8 t) 1 = qI σ 44 t ∧ qI σ (qR σ 8 t) 2 = qI σ 45 t ∧ qI σ (qR σ 8 t) 3 = qI σ 46 t ∧ qI σ (qR σ 8 t) 4 = qI σ 47 t ∧ qI σ (qR σ 8 t) 5 = qI σ 48 t ∧ qI σ (qR σ 8 t) 6 = qI σ 49 t ∧ qI σ (qR σ 8 t) 7 = nI (m_rt σ 20 t)
def j_rg (σ : pm_S) (t : Nat) : Prop := (0 ≤ qI σ 44 t ∧ qI σ 44 t ≤ 4) ∧ (0 ≤ qI σ 45 t ∧ qI σ 45 t ≤ 9)
def j_bu (σ : pm_S) (t e : Nat) : Prop := (qI σ 51 t = -1 ∧ (h_h σ t e).2.2.2.2 = 1) ∨ (qI σ 51 t = (h_h σ t e).1 ∧ (h_h σ t e).2.2.2.2 = 0)
def J1 (σ : pm_S) (n e : Nat) : Prop := cT σ n (fun t => h_s σ t e) ∧ qI σ 43 1 = nI n ∧ qI σ 43 2 = nI e ∧ e ≤ 300 ∧ qI σ 6 1 = nI e ∧ qI σ 6 0 = qI σ 43 0 ∧ (∃ D, D ≤ 9999 ∧ qI σ 43 0 = nI D) ∧ h_ev σ n e ∧ m_cp σ n ∧ (∀ t, t < n → j_at σ t ∧ j_rg σ t ∧ j_bu σ t e)
theorem h_day0 {σ : pm_S} {n t : Nat} (hn : n ≤ 20) (ht : t < n) : ∀ e, h_ev σ n e → 0 ≤ (h_h σ t e).1 ∧ qI σ 48 t ≤ (h_h σ t e).1
  | 0, he => ⟨(he.2.2.2 t ht).2.1, Int32.le_refl _⟩
  | e + 1, he => by
    have ih := h_day0 hn ht e (he.less (Nat.le_succ e))
    rw [h_h_s]
    by_cases hq : qI σ 52 e = nI t
    · rw [if_pos hq, h_st_day]
      have := (he.own hn (Nat.lt_succ_self e) ht hq).1
      exact ⟨i_trans (he.2.2.2 t ht).2.1 this, this⟩
    · rw [if_neg hq]; exact ih
theorem j_th {σ : pm_S} {n e t : Nat} (hJ : J1 σ n e) (ht : t < n) : qI σ 51 t = -1 ↔ (h_h σ t e).2.2.2.2 = 1 := by
  obtain ⟨hT, -, -, -, -, -, -, hev, -, hat⟩ := hJ
  rcases (hat t ht).2.2 with ⟨h1, h2⟩ | ⟨h1, h2⟩
  · exact ⟨fun _ => h2, fun _ => h1⟩
  · have h0 := (h_day0 hT.2.1 ht e hev).1
    refine ⟨fun z => ?_, fun z => ?_⟩
    · rw [← h1, z] at h0; exact absurd h0 (by decide)
    · rw [h2] at z; exact absurd z (by decide)
theorem j_isTh {σ : pm_S} {n e : Nat} (hJ : J1 σ n e) (t : Int32) : isTh σ n t ↔ cTh (fun t => h_s σ t e) n t := by
  have hn2 := hJ.1.2.1
  constructor
  · rintro ⟨h1, h2⟩
    obtain ⟨j, hj, rfl⟩ := (tOk_iff (by omega)).mp h1
    rw [nI_clamp (by omega)] at h2
    refine ⟨h1, ?_⟩
    rw [nI_clamp (by omega)]
    exact (j_th hJ hj).mp h2
  · rintro ⟨h1, h2⟩
    obtain ⟨j, hj, rfl⟩ := (tOk_iff (by omega)).mp h1
    rw [nI_clamp (by omega)] at h2
    refine ⟨h1, ?_⟩
    rw [nI_clamp (by omega)]
    exact (j_th hJ hj).mpr h2
/-- what a step that lays one act does to the state -/
def j_stp (σ τ : pm_S) (e j : Nat) (kind house : Int32) : Prop :=
  (qN τ = qN σ + 1 ∧ (∀ b, b < qN σ → qT τ b = qT σ b ∧ qL τ b = qL σ b) ∧ qT τ (qN σ) = 0) ∧
  (∀ b k, 68 ≤ b → b ≠ qN σ → qI τ b k = qI σ b k) ∧
  (qI τ (qN σ) 1 = (h_st kind house (qI σ 43 0) (h_h σ j e)).1 ∧ qI τ (qN σ) 2 = (h_st kind house (qI σ 43 0) (h_h σ j e)).2.1 ∧ qI τ (qN σ) 3 = (h_st kind house (qI σ 43 0) (h_h σ j e)).2.2.1 ∧ qI τ (qN σ) 4 = (h_st kind house (qI σ 43 0) (h_h σ j e)).2.2.2.1 ∧ qI τ (qN σ) 5 = (h_st kind house (qI σ 43 0) (h_h σ j e)).2.2.2.2 ∧ qR τ (qN σ) 0 = qR σ (qR σ 8 j) 8) ∧
  ((∀ b k, b ≠ qN σ → ¬ (b = qR σ 8 j ∧ k = 8) → qR τ b k = qR σ b k) ∧ qR τ (qR σ 8 j) 8 = qN σ) ∧
  ((∀ b k, b < 68 → b ≠ 52 → b ≠ 53 → b ≠ 54 → b ≠ 55 → b ≠ 51 → ¬ (b = 6 ∧ k = 1) → ¬ (b = 43 ∧ k = 2) → qI τ b k = qI σ b k) ∧ qI τ 6 1 = nI (e + 1) ∧ qI τ 43 2 = nI (e + 1)) ∧
  (∀ k, k ≠ e → qI τ 52 k = qI σ 52 k ∧ qI τ 53 k = qI σ 53 k ∧ qI τ 54 k = qI σ 54 k ∧ qI τ 55 k = qI σ 55 k) ∧
  (qI τ 52 e = nI j ∧ qI τ 53 e = kind ∧ qI τ 54 e = house ∧ qI τ 55 e = qI σ 43 0) ∧
  ((∀ k, k ≠ j → qI τ 51 k = qI σ 51 k) ∧ (kind ≠ 3 → qI τ 51 j = qI σ 51 j) ∧ (kind = 3 → qI τ 51 j = qI σ 43 0))
theorem m_rt_cg {σ τ : pm_S} {n : Nat} (hC : m_cp σ n) (hn : n ≤ 20) (h : ∀ j, j < n → qI τ 49 j = qI σ 49 j) : ∀ f j, j < n → m_rt τ f j = m_rt σ f j
  | 0, j, _ => rfl
  | f + 1, j, hj => by
    show (if qI τ 49 j = -1 then j else m_rt τ f (qI τ 49 j).toNatClampNeg) = (if qI σ 49 j = -1 then j else m_rt σ f (qI σ 49 j).toNatClampNeg)
    rw [h j hj]
    split
    · rfl
    · rename_i hne
      rcases hC j hj with h1 | ⟨i, hi, h1⟩
      · exact absurd h1 hne
      · rw [h1, nI_clamp (by omega)]
        exact m_rt_cg hC hn h f i (by omega)
theorem J1_push {σ τ : pm_S} {n e j : Nat} {kind house : Int32} (hJ : J1 σ n e) (hS : pm_fix σ) (hj : j < n) (he : e < 300) (hok : h_ok kind house (h_h σ j e)) (hs : j_stp σ τ e j kind house) : J1 τ n (e + 1) ∧ pm_fix τ := by
  obtain ⟨hT, j1, j2, j3, j4, j5, j6, hev, hcp, hat⟩ := id hJ
  have hn2 := hT.2.1
  have h68 := hS.1
  obtain ⟨⟨s1, s2, s3⟩, s4, ⟨a1, a2, a3, a4, a5, a6⟩, ⟨r1, r2⟩, ⟨f1, f2, f3⟩, e1, ⟨g1, g2, g3, g4⟩, ⟨b1, b2, b3⟩⟩ := hs
  have hnow : qI τ 43 0 = qI σ 43 0 := f1 43 0 (by decide) (by decide) (by decide) (by decide) (by decide) (by decide) (by decide) (by decide)
  have h48 : ∀ k, qI τ 48 k = qI σ 48 k := fun k => f1 48 k (by decide) (by decide) (by decide) (by decide) (by decide) (by decide) (by omega) (by omega)
  have h50 : ∀ k, qI τ 50 k = qI σ 50 k := fun k => f1 50 k (by decide) (by decide) (by decide) (by decide) (by decide) (by decide) (by omega) (by omega)
  have hpre : ∀ t k, k ≤ e → h_s τ t k = h_s σ t k := fun t k hk => h_s_cg (h48 t) (h50 t) k (fun i hi => e1 i (by omega))
  have hpreh : ∀ t k, k ≤ e → h_h τ t k = h_h σ t k := fun t k hk => by unfold h_h; rw [hpre t k hk]
  -- the things' own cells
  have hA : ∀ t, t < n → qR τ 8 t = qR σ 8 t := fun t ht => r1 8 t (by omega) (fun z => by have := (hT.at hj).2.1; omega)
  have haj := hT.at hj
  have hinj : ∀ t, t < n → qR σ 8 t = qR σ 8 j → t = j := fun t ht z => by
    have q1 := (hT.2.2 t ht).2.1
    have q2 := (hT.2.2 j hj).2.1
    rw [z, q2] at q1
    exact (nI_inj (by omega) (by omega) q1).symm
  have hold : ∀ (xs : List c_A) (a : Nat), Ch σ a xs → Ch τ a xs := Ch.fr (by omega) (fun a ha => (s2 a ha).1) (fun a k ha h6 => s4 a k h6 (by have := ha.2.1; omega)) (fun a ha h6 => r1 a 0 (by have := ha.2.1; omega) (fun z => by omega))
  have hst : ∀ t, t < n → h_s τ t (e + 1) = if t = j then h_st kind house (qI σ 43 0) (h_h σ j e) :: h_s σ j e else h_s σ t e := fun t ht => by
    rw [h_s_s, g1, g2, g3, g4]
    by_cases z : t = j
    · subst z
      rw [if_pos rfl, if_pos rfl, hpre t e (Nat.le_refl e)]
    · rw [if_neg (fun y => z (nI_inj (by omega) (by omega) y.symm)), if_neg z, hpre t e (Nat.le_refl e)]
  have h01 : (h_st kind house (qI σ 43 0) (h_h σ j e)).2.2.2.2 = 0 ∨ (h_st kind house (qI σ 43 0) (h_h σ j e)).2.2.2.2 = 1 := by
    unfold h_st
    split
    · exact Or.inr rfl
    · split
      · exact Or.inr rfl
      · split
        · exact Or.inr rfl
        · exact Or.inl rfl
  have hcT : cT τ n (fun t => h_s τ t (e + 1)) := by
    refine ⟨by rw [f1 7 1 (by decide) (by decide) (by decide) (by decide) (by decide) (by decide) (by decide) (by decide)]; exact hT.1, hn2, fun t ht => ?_⟩
    obtain ⟨⟨c1, c2⟩, c3, c4, x, xs, c5, c6⟩ := hT.2.2 t ht
    rw [hA t ht]
    refine ⟨⟨⟨c1.1, by have := c1.2.1; omega, by rw [(s2 _ c1.2.1).1]; exact c1.2.2⟩, c2⟩, by rw [s4 _ 0 c2 (by have := c1.2.1; omega)]; exact c3, ?_, ?_⟩
    · show Ch τ (qR τ (qR σ 8 t) 8) (h_s τ t (e + 1))
      rw [hst t ht]
      by_cases z : t = j
      · subst z
        rw [if_pos rfl, r2]
        refine ⟨⟨⟨by omega, by omega, s3⟩, by omega⟩, ⟨a1, a2, a3, a4, a5⟩, ?_⟩
        rw [a6]
        exact hold _ _ c4
      · rw [if_neg z, r1 (qR σ 8 t) 8 (by have := c1.2.1; omega) (fun y => z (hinj t ht y.1))]
        exact hold _ _ c4
    · show ∃ x xs, h_s τ t (e + 1) = x :: xs ∧ _
      rw [hst t ht]
      by_cases z : t = j
      · rw [if_pos z]
        exact ⟨_, _, rfl, h01⟩
      · rw [if_neg z]
        exact ⟨x, xs, c5, c6⟩
  have hhs : ∀ t, t < n → h_h τ t (e + 1) = if t = j then h_st kind house (qI σ 43 0) (h_h σ j e) else h_h σ t e := fun t ht => by
    unfold h_h
    rw [hst t ht]
    by_cases z : t = j
    · rw [if_pos z, if_pos z]; rfl
    · rw [if_neg z, if_neg z]
  have hev' : h_ev τ n (e + 1) := by
    refine ⟨fun i k hik hk => ?_, fun i hi => ?_, fun i hi => ?_, fun t ht => ?_⟩
    · by_cases zk : k = e
      · subst zk
        rw [g4]
        by_cases zi : i = k
        · rw [zi, g4]; exact Int32.le_refl _
        · rw [(e1 i zi).2.2.2]; exact hev.2.1 i (by omega)
      · rw [(e1 k zk).2.2.2, (e1 i (by omega)).2.2.2]
        exact hev.1 i k hik (by omega)
    · rw [hnow]
      by_cases zi : i = e
      · rw [zi, g4]; exact Int32.le_refl _
      · rw [(e1 i zi).2.2.2]; exact hev.2.1 i (by omega)
    · by_cases zi : i = e
      · subst zi
        refine ⟨j, hj, g1, ?_, ?_⟩
        · rw [g4, h48]; exact (hev.2.2.2 j hj).2.2
        · rw [g2, g3, hpreh j i (Nat.le_refl i)]; exact hok
      · obtain ⟨t, ht, w1, w2, w3⟩ := hev.2.2.1 i (by omega)
        refine ⟨t, ht, by rw [(e1 i zi).1]; exact w1, by rw [h48, (e1 i zi).2.2.2]; exact w2, ?_⟩
        rw [(e1 i zi).2.1, (e1 i zi).2.2.1, hpreh t i (by omega)]
        exact w3
    · rw [h50, h48, hnow]; exact hev.2.2.2 t ht
  have h49 : ∀ k, qI τ 49 k = qI σ 49 k := fun k => f1 49 k (by decide) (by decide) (by decide) (by decide) (by decide) (by decide) (by omega) (by omega)
  refine ⟨⟨hcT, by rw [f1 43 1 (by decide) (by decide) (by decide) (by decide) (by decide) (by decide) (by decide) (by decide)]; exact j1, f3, by omega, f2, by rw [hnow, f1 6 0 (by decide) (by decide) (by decide) (by decide) (by decide) (by decide) (by decide) (by decide)]; exact j5, by rw [hnow]; exact j6, hev', fun k hk => by rw [h49]; exact hcp k hk, fun t ht => ?_⟩, ?_⟩
  · obtain ⟨⟨v1, v2, v3, v4, v5, v6, v7⟩, w, u⟩ := hat t ht
    obtain ⟨⟨c1, c2⟩, -⟩ := hT.2.2 t ht
    have hne : qR σ 8 t ≠ qN σ := by have := c1.2.1; omega
    have hm : ∀ b k, b = 44 ∨ b = 45 ∨ b = 46 ∨ b = 47 → qI τ b k = qI σ b k := fun b k hb => f1 b k (by omega) (by omega) (by omega) (by omega) (by omega) (by omega) (by omega) (by omega)
    refine ⟨?_, ?_, ?_⟩
    · unfold j_at
      rw [hA t ht, s4 _ 1 c2 hne, s4 _ 2 c2 hne, s4 _ 3 c2 hne, s4 _ 4 c2 hne, s4 _ 5 c2 hne, s4 _ 6 c2 hne, s4 _ 7 c2 hne, hm 44 t (by omega), hm 45 t (by omega), hm 46 t (by omega), hm 47 t (by omega), h48, h49, m_rt_cg hcp hn2 (fun k _ => h49 k) 20 t ht]
      exact ⟨v1, v2, v3, v4, v5, v6, v7⟩
    · unfold j_rg
      rw [hm 44 t (by omega), hm 45 t (by omega)]
      exact w
    · unfold j_bu
      rw [hhs t ht]
      by_cases z : t = j
      · subst z
        rw [if_pos rfl]
        by_cases h3 : kind = 3
        · right
          rw [b3 h3, h_st_day]
          refine ⟨rfl, ?_⟩
          unfold h_st
          rw [h3, if_neg (by decide), if_neg (by decide), if_neg (by decide)]
        · left
          rw [b2 h3]
          refine ⟨(j_th hJ ht).mpr hok.1, ?_⟩
          unfold h_st
          rcases hok.2 with ⟨k0, -⟩ | ⟨k0, -⟩ | ⟨k0, -⟩ | k0
          · rw [if_pos k0]
          · rw [k0, if_neg (by decide), if_pos rfl]
          · rw [k0, if_neg (by decide), if_neg (by decide), if_pos rfl]
          · exact absurd k0 h3
      · rw [if_neg z, b1 t z]
        exact u
  · refine ⟨by omega, fun a ha hb => ⟨by rw [(s2 a (by omega)).1]; exact (hS.2.1 a ha hb).1, by rw [(s2 a (by omega)).2]; exact (hS.2.1 a ha hb).2⟩, fun q hq => ?_⟩
    have h5 : pm_fin.all (fun q => Nat.blt q.1 68) = true := by decide
    have h6 : q.1 < 68 := Nat.le_of_ble_eq_true (List.all_eq_true.mp h5 q hq)
    rw [r1 q.1 q.2.1 (by omega) (fun z => by have := haj.2.1; omega)]
    exact hS.2.2 q hq
