/-! ===== what leaves the things alone; days; a thing comes ===== -/
def j_same (σ τ : pm_S) : Prop := (∀ b k, 68 ≤ b → b < qN σ → qI τ b k = qI σ b k) ∧ (∀ b k, 44 ≤ b → b ≤ 55 → qI τ b k = qI σ b k) ∧ (qI τ 7 1 = qI σ 7 1 ∧ qI τ 43 1 = qI σ 43 1 ∧ qI τ 43 2 = qI σ 43 2 ∧ qI τ 6 1 = qI σ 6 1) ∧ (∀ b k, b = 8 ∨ 68 ≤ b → b < qN σ → qR τ b k = qR σ b k) ∧ (∀ b, b < qN σ → qT τ b = qT σ b) ∧ qN τ = qN σ
theorem J1_fr {σ τ : pm_S} {n e : Nat} (hJ : J1 σ n e) (hS : pm_fix σ) (hs : j_same σ τ) (hD : ∃ D, D ≤ 9999 ∧ qI τ 43 0 = nI D) (hle : qI σ 43 0 ≤ qI τ 43 0) (h6 : qI τ 6 0 = qI τ 43 0) : J1 τ n e := by
  obtain ⟨hT, j1, j2, j3, j4, j5, j6, hev, hcp, hat⟩ := id hJ
  obtain ⟨s1, s2, ⟨s3, s4, s5, s6⟩, s7, s8, s9⟩ := hs
  have h68 := hS.1
  have hn2 := hT.2.1
  have hpre : ∀ t k, h_s τ t k = h_s σ t k := fun t k => h_s_cg (s2 48 t (by decide) (by decide)) (s2 50 t (by decide) (by decide)) k (fun i _ => ⟨s2 52 i (by decide) (by decide), s2 53 i (by decide) (by decide), s2 54 i (by decide) (by decide), s2 55 i (by decide) (by decide)⟩)
  have hpreh : ∀ t k, h_h τ t k = h_h σ t k := fun t k => by unfold h_h; rw [hpre]
  have hold : ∀ (xs : List c_A) (a : Nat), Ch σ a xs → Ch τ a xs := Ch.fr (by omega) (fun a ha => s8 a ha) (fun a k ha h6 => s1 a k h6 ha.2.1) (fun a ha h6 => s7 a 0 (Or.inr h6) ha.2.1)
  refine ⟨⟨by rw [s3]; exact hT.1, hn2, fun t ht => ?_⟩, by rw [s4]; exact j1, by rw [s5]; exact j2, j3, by rw [s6]; exact j4, h6, hD, ⟨fun i k hik hk => ?_, fun i hi => ?_, fun i hi => ?_, fun t ht => ?_⟩, fun k hk => by rw [s2 49 k (by decide) (by decide)]; exact hcp k hk, fun t ht => ?_⟩
  · obtain ⟨⟨c1, c2⟩, c3, c4, c5⟩ := hT.2.2 t ht
    rw [s7 8 t (Or.inl rfl) (by omega)]
    refine ⟨⟨⟨c1.1, by rw [s9]; exact c1.2.1, by rw [s8 _ c1.2.1]; exact c1.2.2⟩, c2⟩, by rw [s1 _ 0 c2 c1.2.1]; exact c3, ?_, ?_⟩
    · show Ch τ (qR τ (qR σ 8 t) 8) (h_s τ t e)
      rw [hpre, s7 _ 8 (Or.inr c2) c1.2.1]
      exact hold _ _ c4
    · show ∃ x xs, h_s τ t e = x :: xs ∧ _
      rw [hpre]
      exact c5
  · rw [s2 55 i (by decide) (by decide), s2 55 k (by decide) (by decide)]
    exact hev.1 i k hik hk
  · rw [s2 55 i (by decide) (by decide)]
    exact i_trans (hev.2.1 i hi) hle
  · obtain ⟨t, ht, w1, w2, w3⟩ := hev.2.2.1 i hi
    refine ⟨t, ht, by rw [s2 52 i (by decide) (by decide)]; exact w1, by rw [s2 48 t (by decide) (by decide), s2 55 i (by decide) (by decide)]; exact w2, ?_⟩
    rw [s2 53 i (by decide) (by decide), s2 54 i (by decide) (by decide), hpreh]
    exact w3
  · rw [s2 50 t (by decide) (by decide), s2 48 t (by decide) (by decide)]
    obtain ⟨v1, v2, v3⟩ := hev.2.2.2 t ht
    exact ⟨v1, v2, i_trans v3 hle⟩
  · obtain ⟨⟨v1, v2, v3, v4, v5, v6, v7⟩, w, u⟩ := hat t ht
    obtain ⟨⟨c1, c2⟩, -⟩ := hT.2.2 t ht
    refine ⟨?_, ?_, ?_⟩
    · unfold j_at
      rw [s7 8 t (Or.inl rfl) (by omega), s1 _ 1 c2 c1.2.1, s1 _ 2 c2 c1.2.1, s1 _ 3 c2 c1.2.1, s1 _ 4 c2 c1.2.1, s1 _ 5 c2 c1.2.1, s1 _ 6 c2 c1.2.1, s1 _ 7 c2 c1.2.1, s2 44 t (by decide) (by decide), s2 45 t (by decide) (by decide), s2 46 t (by decide) (by decide), s2 47 t (by decide) (by decide), s2 48 t (by decide) (by decide), s2 49 t (by decide) (by decide), m_rt_cg hcp hn2 (fun k _ => s2 49 k (by decide) (by decide)) 20 t ht]
      exact ⟨v1, v2, v3, v4, v5, v6, v7⟩
    · unfold j_rg
      rw [s2 44 t (by decide) (by decide), s2 45 t (by decide) (by decide)]
      exact w
    · unfold j_bu
      rw [hpreh, s2 51 t (by decide) (by decide)]
      exact u
/-- days go by on both sides -/
theorem p_days {σ : pm_S} {n e : Nat} (hJ : J1 σ n e) (hS : pm_fix σ) (x : Int32) : ∃ r σ1 τ, PE 10 0 MX11_days [.ref 6, .int x] σ (some (.int r)) σ1 ∧ PE 10 0 MX12_days [.ref 43, .int x] σ1 (some (.int r)) τ ∧ (τ = σ ∨ (∃ y, τ = pm_sI (pm_sI σ 6 0 y) 43 0 y) ∧ J1 τ n e) ∧ fr5 σ σ1 := by
  obtain ⟨hT, j1, j2, j3, j4, j5, ⟨D, hD1, hD2⟩, -⟩ := id hJ
  have hc := t_days (d := 10) (al := 0) (by decide) hS x
  by_cases hx : 1 ≤ x ∧ x ≤ 1000
  · obtain ⟨k, hk1, hk2, hk3⟩ : ∃ k, 1 ≤ k ∧ k ≤ 1000 ∧ x = nI k := by
      have h1 := i_le.mp hx.1
      have h2 := i_le.mp hx.2
      have e1 : (1 : Int32).toInt = 1 := rfl
      have e2 : (1000 : Int32).toInt = 1000 := rfl
      rw [e1] at h1
      rw [e2] at h2
      refine ⟨x.toInt.toNat, by omega, by omega, ?_⟩
      rw [i_eq, nI_toInt (by omega)]
      omega
    have hs : qI σ 6 0 + x = nI (D + k) := by rw [j5, hD2, hk3, nI_add]
    by_cases hb : D + k ≤ 9999
    · have hok : okDaysC σ x := ⟨hx, by rw [hs]; exact nI_le hb (by decide)⟩
      rw [if_pos hok, if_pos hok] at hc
      have hS1 : pm_fix (pm_sI σ 6 0 (qI σ 6 0 + x)) := hS.sI
      have hm := s_days (d := 10) (al := 0) (by decide) hS1 x
      have hnow : qI (pm_sI σ 6 0 (qI σ 6 0 + x)) 43 0 = qI σ 43 0 := qI_sI_nc (by decide)
      have h9 : (9999 : Int32) - x = nI (9999 - k) := by rw [hk3]; exact pk_sub (a := 9999) (b := k) (by omega)
      have hok2 : okDays (pm_sI σ 6 0 (qI σ 6 0 + x)) x := ⟨hx, by rw [hnow, hD2, h9]; exact nI_le (by omega) (by omega)⟩
      rw [if_pos hok2, if_pos hok2, hnow, ← j5] at hm
      refine ⟨_, _, _, hc, hm, Or.inr ⟨⟨_, rfl⟩, ?_⟩, fr5_sI (by decide)⟩
      have h68 := hS.1
      refine J1_fr hJ hS ⟨fun b k hb _ => ?_, fun b k h1 h2 => ?_, ⟨rfl, rfl, rfl, rfl⟩, fun b k _ _ => rfl, fun b _ => rfl, rfl⟩ ⟨D + k, hb, by rw [qI_sI_eq]; exact hs⟩ ?_ ?_
      · rw [qI_sI_nc (by omega), qI_sI_nc (by omega)]
      · rw [qI_sI_nc (by omega), qI_sI_nc (by omega)]
      · rw [qI_sI_eq, hs, hD2]; exact nI_le (by omega) (by omega)
      · rw [qI_sI_eq, qI_sI_nc (by decide), qI_sI_eq]
    · have hno : ¬ okDaysC σ x := fun z => by
        have := z.2
        rw [hs] at this
        exact nI_ge (show 9999 < D + k by omega) (by omega) this
      rw [if_neg hno, if_neg hno] at hc
      have hm := s_days (d := 10) (al := 0) (by decide) hS x
      have h9 : (9999 : Int32) - x = nI (9999 - k) := by rw [hk3]; exact pk_sub (a := 9999) (b := k) (by omega)
      have hno2 : ¬ okDays σ x := fun z => by
        have := z.2
        rw [hD2, h9] at this
        exact nI_ge (show 9999 - k < D by omega) (by omega) this
      rw [if_neg hno2, if_neg hno2] at hm
      exact ⟨-1, _, _, hc, hm, Or.inl rfl, fr5.rfl'⟩
  · have hno : ¬ okDaysC σ x := fun z => hx z.1
    have hno2 : ¬ okDays σ x := fun z => hx z.1
    have hm := s_days (d := 10) (al := 0) (by decide) hS x
    rw [if_neg hno, if_neg hno] at hc
    rw [if_neg hno2, if_neg hno2] at hm
    exact ⟨-1, _, _, hc, hm, Or.inl rfl, fr5.rfl'⟩
theorem m_rt_f {σ : pm_S} {n : Nat} (hC : m_cp σ n) (hn : n ≤ 20) : ∀ (f g j : Nat), j < n → j ≤ f → j ≤ g → m_rt σ f j = m_rt σ g j
  | 0, 0, j, _, _, _ => rfl
  | 0, g + 1, j, hj, h1, _ => by
    have : j = 0 := by omega
    subst this
    show 0 = (if qI σ 49 0 = -1 then 0 else m_rt σ g (qI σ 49 0).toNatClampNeg)
    rcases hC 0 hj with h | ⟨i, hi, -⟩
    · rw [if_pos h]
    · omega
  | f + 1, 0, j, hj, _, h1 => by
    have : j = 0 := by omega
    subst this
    show (if qI σ 49 0 = -1 then 0 else m_rt σ f (qI σ 49 0).toNatClampNeg) = 0
    rcases hC 0 hj with h | ⟨i, hi, -⟩
    · rw [if_pos h]
    · omega
  | f + 1, g + 1, j, hj, h1, h2 => by
    show (if qI σ 49 j = -1 then j else m_rt σ f (qI σ 49 j).toNatClampNeg) = (if qI σ 49 j = -1 then j else m_rt σ g (qI σ 49 j).toNatClampNeg)
    rcases hC j hj with h | ⟨i, hi, h⟩
    · rw [if_pos h, if_pos h]
    · have hne : ¬ qI σ 49 j = -1 := by rw [h]; exact nI_nm1 (by omega)
      rw [if_neg hne, if_neg hne, h, nI_clamp (by omega)]
      exact m_rt_f hC hn f g i (by omega) (by omega) (by omega)
/-- what a step that brings a thing does: the act A, the thing B -/
def j_new (σ τ : pm_S) (n A B : Nat) (kind rank tone seasons house cp root : Int32) : Prop :=
  ((A = qN σ ∧ B = qN σ + 1) ∨ (B = qN σ ∧ A = qN σ + 1)) ∧
  (qN τ = qN σ + 2 ∧ (∀ b, b < qN σ → qT τ b = qT σ b ∧ qL τ b = qL σ b) ∧ qT τ A = 0 ∧ qT τ B = 9) ∧
  (∀ b k, 68 ≤ b → b < qN σ → qI τ b k = qI σ b k) ∧
  (qI τ A 1 = qI σ 43 0 ∧ qI τ A 2 = house ∧ qI τ A 3 = house ∧ qI τ A 4 = 0 ∧ qI τ A 5 = 1 ∧ qR τ A 0 = 0) ∧
  (qI τ B 0 = nI n ∧ qI τ B 1 = kind ∧ qI τ B 2 = rank ∧ qI τ B 3 = tone ∧ qI τ B 4 = seasons ∧ qI τ B 5 = qI σ 43 0 ∧ qI τ B 6 = cp ∧ qI τ B 7 = root ∧ qR τ B 8 = A) ∧
  ((∀ b k, b < qN σ → ¬ (b = 8 ∧ k = n) → qR τ b k = qR σ b k) ∧ qR τ 8 n = B) ∧
  ((∀ b k, b < 68 → ¬ (44 ≤ b ∧ b ≤ 51) → ¬ (b = 7 ∧ k = 1) → ¬ (b = 43 ∧ k = 1) → qI τ b k = qI σ b k) ∧ qI τ 7 1 = nI (n + 1) ∧ qI τ 43 1 = nI (n + 1)) ∧
  (∀ b k, 44 ≤ b → b ≤ 51 → k ≠ n → qI τ b k = qI σ b k) ∧
  (qI τ 44 n = kind ∧ qI τ 45 n = rank ∧ qI τ 46 n = tone ∧ qI τ 47 n = seasons ∧ qI τ 48 n = qI σ 43 0 ∧ qI τ 49 n = cp ∧ qI τ 50 n = house ∧ qI τ 51 n = -1)
theorem J1_new {σ τ : pm_S} {n e A B : Nat} {kind rank tone seasons house cp root : Int32} (hJ : J1 σ n e) (hS : pm_fix σ) (hn : n < 20) (hk : 0 ≤ kind ∧ kind ≤ 4) (hr : 0 ≤ rank ∧ rank ≤ 9) (hh : 0 ≤ house) (hcpn : (cp = -1 ∧ root = nI n) ∨ ∃ j, j < n ∧ cp = nI j ∧ root = nI (m_rt σ 20 j)) (hs : j_new σ τ n A B kind rank tone seasons house cp root) : J1 τ (n + 1) e ∧ pm_fix τ := by
  obtain ⟨hT, j1, j2, j3, j4, j5, ⟨D, hD1, hD2⟩, hev, hcp, hat⟩ := id hJ
  have h68 := hS.1
  obtain ⟨hAB, ⟨s1, s2, s3, s3b⟩, s4, ⟨a1, a2, a3, a4, a5, a6⟩, ⟨b0, b1, b2, b3, b4, b5, b6, b7, b8⟩, ⟨r1, r2⟩, ⟨f1, f2, f3⟩, k1, ⟨g1, g2, g3, g4, g5, g6, g7, g8⟩⟩ := hs
  have hnow : qI τ 43 0 = qI σ 43 0 := f1 43 0 (by decide) (by omega) (by decide) (by decide)
  have hE : ∀ b i, 52 ≤ b → b ≤ 55 → qI τ b i = qI σ b i := fun b i h1 h2 => f1 b i (by omega) (by omega) (by omega) (by omega)
  have hpre : ∀ t k, t < n → h_s τ t k = h_s σ t k := fun t k ht => h_s_cg (k1 48 t (by decide) (by decide) (by omega)) (k1 50 t (by decide) (by decide) (by omega)) k (fun i _ => ⟨hE 52 i (by decide) (by decide), hE 53 i (by decide) (by decide), hE 54 i (by decide) (by decide), hE 55 i (by decide) (by decide)⟩)
  have hpreh : ∀ t k, t < n → h_h τ t k = h_h σ t k := fun t k ht => by unfold h_h; rw [hpre t k ht]
  have hnew : ∀ k, k ≤ e → h_s τ n k = [(qI σ 43 0, house, house, 0, 1)] := by
    intro k
    induction k with
    | zero => intro _; show [_] = [_]; rw [g5, g7]
    | succ k ih =>
      intro hk
      rw [h_s_s, if_neg, ih (by omega)]
      rw [hE 52 k (by decide) (by decide)]
      obtain ⟨t, ht, w1, -⟩ := hev.2.2.1 k (by omega)
      rw [w1]
      exact nI_ne (by omega) (by omega) (by omega)
  have hnewh : h_h τ n e = (qI σ 43 0, house, house, 0, 1) := by unfold h_h; rw [hnew e (Nat.le_refl e)]; rfl
  have hold : ∀ (xs : List c_A) (a : Nat), Ch σ a xs → Ch τ a xs := Ch.fr (by omega) (fun a ha => (s2 a ha).1) (fun a k ha h6 => s4 a k h6 ha.2.1) (fun a ha h6 => r1 a 0 ha.2.1 (by omega))
  have hcT : cT τ (n + 1) (fun t => h_s τ t e) := by
    refine ⟨f2, by omega, fun t ht => ?_⟩
    by_cases z : t = n
    · subst z
      rw [r2]
      refine ⟨⟨⟨by omega, by omega, s3b⟩, by omega⟩, b0, ?_, ?_⟩
      · show Ch τ (qR τ B 8) (h_s τ t e)
        rw [hnew e (Nat.le_refl e), b8]
        exact ⟨⟨⟨by omega, by omega, s3⟩, by omega⟩, ⟨a1, a2, a3, a4, a5⟩, a6⟩
      · show ∃ x xs, h_s τ t e = x :: xs ∧ _
        rw [hnew e (Nat.le_refl e)]
        exact ⟨_, _, rfl, Or.inr rfl⟩
    · have ht' : t < n := by omega
      obtain ⟨⟨c1, c2⟩, c3, c4, c5⟩ := hT.2.2 t ht'
      rw [r1 8 t (by omega) (by omega)]
      refine ⟨⟨⟨c1.1, by have := c1.2.1; omega, by rw [(s2 _ c1.2.1).1]; exact c1.2.2⟩, c2⟩, by rw [s4 _ 0 c2 c1.2.1]; exact c3, ?_, ?_⟩
      · show Ch τ (qR τ (qR σ 8 t) 8) (h_s τ t e)
        rw [hpre t e ht', r1 _ 8 c1.2.1 (by omega)]
        exact hold _ _ c4
      · show ∃ x xs, h_s τ t e = x :: xs ∧ _
        rw [hpre t e ht']
        exact c5
  have h0D : (0 : Int32) ≤ qI σ 43 0 := by rw [hD2]; exact nI_pos' (by omega)
  have hcp' : m_cp τ (n + 1) := by
    intro k hk2
    by_cases z : k = n
    · subst z
      rw [g6]
      rcases hcpn with ⟨h, -⟩ | ⟨j, hj, h, -⟩
      · exact Or.inl h
      · exact Or.inr ⟨j, hj, h⟩
    · rw [k1 49 k (by decide) (by decide) z]
      exact hcp k (by omega)
  have h49 : ∀ k, k < n → qI τ 49 k = qI σ 49 k := fun k hk2 => k1 49 k (by decide) (by decide) (by omega)
  have hrt : ∀ f k, k < n → m_rt τ f k = m_rt σ f k := fun f k hk2 => m_rt_cg hcp (by omega) h49 f k hk2
  refine ⟨⟨hcT, f3, by rw [f1 43 2 (by decide) (by omega) (by decide) (by decide)]; exact j2, j3, by rw [f1 6 1 (by decide) (by omega) (by decide) (by decide)]; exact j4, by rw [hnow, f1 6 0 (by decide) (by omega) (by decide) (by decide)]; exact j5, ⟨D, hD1, by rw [hnow]; exact hD2⟩, ⟨fun i k hik hk2 => ?_, fun i hi => ?_, fun i hi => ?_, fun t ht => ?_⟩, hcp', fun t ht => ?_⟩, ?_⟩
  · rw [hE 55 i (by decide) (by decide), hE 55 k (by decide) (by decide)]
    exact hev.1 i k hik hk2
  · rw [hE 55 i (by decide) (by decide), hnow]
    exact hev.2.1 i hi
  · obtain ⟨t, ht, w1, w2, w3⟩ := hev.2.2.1 i hi
    refine ⟨t, by omega, by rw [hE 52 i (by decide) (by decide)]; exact w1, by rw [k1 48 t (by decide) (by decide) (by omega), hE 55 i (by decide) (by decide)]; exact w2, ?_⟩
    rw [hE 53 i (by decide) (by decide), hE 54 i (by decide) (by decide), hpreh t i ht]
    exact w3
  · by_cases z : t = n
    · subst z
      rw [g7, g5, hnow]
      exact ⟨hh, h0D, Int32.le_refl _⟩
    · rw [k1 50 t (by decide) (by decide) z, k1 48 t (by decide) (by decide) z, hnow]
      exact hev.2.2.2 t (by omega)
  · by_cases z : t = n
    · subst z
      refine ⟨?_, ?_, ?_⟩
      · unfold j_at
        rw [r2, b1, b2, b3, b4, b5, b6, b7, g1, g2, g3, g4, g5, g6]
        refine ⟨rfl, rfl, rfl, rfl, rfl, rfl, ?_⟩
        show root = nI (if qI τ 49 t = -1 then t else m_rt τ 19 (qI τ 49 t).toNatClampNeg)
        rw [g6]
        rcases hcpn with ⟨h, h'⟩ | ⟨j, hj, h, h'⟩
        · rw [if_pos h, h']
        · rw [h, if_neg (nI_nm1 (by omega)), nI_clamp (by omega), hrt 19 j hj, m_rt_f hcp (by omega) 19 20 j hj (by omega) (by omega), h']
      · unfold j_rg
        rw [g1, g2]
        exact ⟨hk, hr⟩
      · unfold j_bu
        rw [hnewh, g8]
        exact Or.inl ⟨rfl, rfl⟩
    · have ht' : t < n := by omega
      obtain ⟨⟨v1, v2, v3, v4, v5, v6, v7⟩, w, u⟩ := hat t ht'
      obtain ⟨⟨c1, c2⟩, -⟩ := hT.2.2 t ht'
      refine ⟨?_, ?_, ?_⟩
      · unfold j_at
        rw [r1 8 t (by omega) (by omega), s4 _ 1 c2 c1.2.1, s4 _ 2 c2 c1.2.1, s4 _ 3 c2 c1.2.1, s4 _ 4 c2 c1.2.1, s4 _ 5 c2 c1.2.1, s4 _ 6 c2 c1.2.1, s4 _ 7 c2 c1.2.1, k1 44 t (by decide) (by decide) z, k1 45 t (by decide) (by decide) z, k1 46 t (by decide) (by decide) z, k1 47 t (by decide) (by decide) z, k1 48 t (by decide) (by decide) z, k1 49 t (by decide) (by decide) z, hrt 20 t ht']
        exact ⟨v1, v2, v3, v4, v5, v6, v7⟩
      · unfold j_rg
        rw [k1 44 t (by decide) (by decide) z, k1 45 t (by decide) (by decide) z]
        exact w
      · unfold j_bu
        rw [hpreh t e ht', k1 51 t (by decide) (by decide) z]
        exact u
  · refine ⟨by omega, fun a ha hb => ⟨by rw [(s2 a (by omega)).1]; exact (hS.2.1 a ha hb).1, by rw [(s2 a (by omega)).2]; exact (hS.2.1 a ha hb).2⟩, fun q hq => ?_⟩
    have h5 : pm_fin.all (fun q => Nat.blt q.1 68 && !(q.1 == 8)) = true := by decide
    have h6 := List.all_eq_true.mp h5 q hq
    simp only [Bool.and_eq_true, Bool.not_eq_true', beq_eq_false_iff_ne] at h6
    have h7 : q.1 < 68 := Nat.le_of_ble_eq_true h6.1
    rw [r1 q.1 q.2.1 (by omega) (fun z => h6.2 z.1)]
    exact hS.2.2 q hq
