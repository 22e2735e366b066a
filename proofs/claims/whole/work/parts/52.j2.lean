/-! ===== the same happens on both sides ===== -/
theorem c_push_I {σ : pm_S} {a : Nat} {x1 x2 x3 x4 x5 : Int32} {b : Nat} (h : b ≠ qN σ) (k : Nat) : qI (c_push σ a x1 x2 x3 x4 x5) b k = qI σ b k := by
  show qI (c_act (pm_nw σ 0 0) (qN σ) (qR σ a 8) x1 x2 x3 x4 x5) b k = _
  rw [(c_act_ne h).1, qI_nw_ne h]
theorem c_push_R {σ : pm_S} {a : Nat} {x1 x2 x3 x4 x5 : Int32} {b k : Nat} (h : b ≠ qN σ) (h2 : ¬ (b = a ∧ k = 8)) : qR (c_push σ a x1 x2 x3 x4 x5) b k = qR σ b k := by
  unfold c_push
  rw [qR_sR, if_neg h2, (c_act_ne h).2, qR_nw_ne h]
theorem c_push_L {σ : pm_S} {a : Nat} {x1 x2 x3 x4 x5 : Int32} : qR (c_push σ a x1 x2 x3 x4 x5) a 8 = qN σ := by
  unfold c_push
  rw [qR_sR_eq]
theorem c_push_N {σ : pm_S} {a : Nat} (ha : a ≠ qN σ) (x1 x2 x3 x4 x5 : Int32) : qI (c_push σ a x1 x2 x3 x4 x5) (qN σ) 1 = x1 ∧ qI (c_push σ a x1 x2 x3 x4 x5) (qN σ) 2 = x2 ∧ qI (c_push σ a x1 x2 x3 x4 x5) (qN σ) 3 = x3 ∧ qI (c_push σ a x1 x2 x3 x4 x5) (qN σ) 4 = x4 ∧ qI (c_push σ a x1 x2 x3 x4 x5) (qN σ) 5 = x5 ∧ qR (c_push σ a x1 x2 x3 x4 x5) (qN σ) 0 = qR σ a 8 := by
  obtain ⟨h1, h2, h3, h4, h5, h6⟩ := c_act_at (pm_nw σ 0 0) (qN σ) (qR σ a 8) x1 x2 x3 x4 x5
  refine ⟨h1, h2, h3, h4, h5, ?_⟩
  unfold c_push
  rw [qR_sR, if_neg (fun z => ha z.1.symm)]
  exact h6
theorem c_push_T {σ : pm_S} {a : Nat} {x1 x2 x3 x4 x5 : Int32} : qN (c_push σ a x1 x2 x3 x4 x5) = qN σ + 1 ∧ (∀ b, b < qN σ → qT (c_push σ a x1 x2 x3 x4 x5) b = qT σ b ∧ qL (c_push σ a x1 x2 x3 x4 x5) b = qL σ b) ∧ qT (c_push σ a x1 x2 x3 x4 x5) (qN σ) = 0 :=
  ⟨rfl, fun b hb => ⟨qT_nw_ne (by omega), qL_nw_ne (by omega)⟩, qT_nw_eq⟩
theorem m_hap_I {σ : pm_S} {e : Nat} {t w h : Int32} {b k : Nat} (h52 : b ≠ 52) (h53 : b ≠ 53) (h54 : b ≠ 54) (h55 : b ≠ 55) (h43 : ¬ (b = 43 ∧ k = 2)) : qI (m_hap σ e t w h) b k = qI σ b k := by
  unfold m_hap
  rw [qI_sI_ne h43, qI_sI_nc h55, qI_sI_nc h54, qI_sI_nc h53, qI_sI_nc h52]
theorem m_hap_o {σ : pm_S} {e : Nat} {t w h : Int32} {k : Nat} (hk : k ≠ e) : qI (m_hap σ e t w h) 52 k = qI σ 52 k ∧ qI (m_hap σ e t w h) 53 k = qI σ 53 k ∧ qI (m_hap σ e t w h) 54 k = qI σ 54 k ∧ qI (m_hap σ e t w h) 55 k = qI σ 55 k := by
  simp [m_hap, qI, pm_sI, hk]
theorem m_hap_e (σ : pm_S) (e : Nat) (t w h : Int32) : qI (m_hap σ e t w h) 52 e = t ∧ qI (m_hap σ e t w h) 53 e = w ∧ qI (m_hap σ e t w h) 54 e = h ∧ qI (m_hap σ e t w h) 55 e = qI σ 43 0 ∧ qI (m_hap σ e t w h) 43 2 = qI σ 43 2 + 1 := by
  simp [m_hap, qI, pm_sI]
/-- both steps, one behind the other -/
theorem j_stp_of {σ : pm_S} {n e j : Nat} {kind house O K T TH : Int32} (hJ : J1 σ n e) (hS : pm_fix σ) (hj : j < n) (h3 : kind ≠ 3) (hh : h_st kind house (qI σ 43 0) (h_h σ j e) = (qI σ 43 0, O, K, T, TH)) : j_stp σ (m_hap (c_push (pm_sI σ 6 1 (nI e + 1)) (qR σ 8 j) (qI σ 6 0) O K T TH) e (nI j) kind house) e j kind house := by
  obtain ⟨hT, j1, j2, j3, j4, j5, -⟩ := hJ
  have h68 := hS.1
  obtain ⟨q1, q2, -⟩ := hT.at hj
  have hqa : qR σ 8 j ≠ qN σ := by have := q1.2.1; omega
  have hN : qN (pm_sI σ 6 1 (nI e + 1)) = qN σ := rfl
  obtain ⟨n1, n2, n3, n4, n5, n6⟩ := c_push_N (σ := pm_sI σ 6 1 (nI e + 1)) (a := qR σ 8 j) hqa (qI σ 6 0) O K T TH
  obtain ⟨v1, v2, v3, v4, v5⟩ := m_hap_e (c_push (pm_sI σ 6 1 (nI e + 1)) (qR σ 8 j) (qI σ 6 0) O K T TH) e (nI j) kind house
  have hlow : ∀ b k, b < 68 → ¬ (b = 6 ∧ k = 1) → qI (c_push (pm_sI σ 6 1 (nI e + 1)) (qR σ 8 j) (qI σ 6 0) O K T TH) b k = qI σ b k := fun b k hb h61 => by
    rw [c_push_I (by show b ≠ qN σ; omega), qI_sI_ne h61]
  refine ⟨c_push_T (σ := pm_sI σ 6 1 (nI e + 1)), fun b k hb hne => ?_, ?_, ⟨fun b k hb hne => ?_, c_push_L (σ := pm_sI σ 6 1 (nI e + 1))⟩, ⟨fun b k hb h52 h53 h54 h55 h51 h61 h43 => ?_, ?_, ?_⟩, fun k hk => ?_, ?_, fun k hk => ?_, fun _ => ?_, fun z => absurd z h3⟩
  · rw [m_hap_I (by omega) (by omega) (by omega) (by omega) (by omega), c_push_I (σ := pm_sI σ 6 1 (nI e + 1)) hne, qI_sI_nc (by omega)]
  · rw [hh]
    have hm : ∀ k, qI (m_hap (c_push (pm_sI σ 6 1 (nI e + 1)) (qR σ 8 j) (qI σ 6 0) O K T TH) e (nI j) kind house) (qN σ) k = qI (c_push (pm_sI σ 6 1 (nI e + 1)) (qR σ 8 j) (qI σ 6 0) O K T TH) (qN σ) k := fun k => m_hap_I (by omega) (by omega) (by omega) (by omega) (by omega)
    rw [hm, hm, hm, hm, hm]
    exact ⟨n1.trans j5, n2, n3, n4, n5, n6⟩
  · exact c_push_R (σ := pm_sI σ 6 1 (nI e + 1)) hb hne
  · rw [m_hap_I h52 h53 h54 h55 h43]
    exact hlow b k hb h61
  · rw [m_hap_I (by decide) (by decide) (by decide) (by decide) (by decide), c_push_I (by show 6 ≠ qN σ; omega), qI_sI_eq, nI_succ]
  · rw [v5, hlow 43 2 (by decide) (by decide), j2, nI_succ]
  · obtain ⟨w1, w2, w3, w4⟩ := m_hap_o (σ := c_push (pm_sI σ 6 1 (nI e + 1)) (qR σ 8 j) (qI σ 6 0) O K T TH) (t := nI j) (w := kind) (h := house) hk
    rw [w1, w2, w3, w4]
    exact ⟨hlow 52 k (by decide) (by omega), hlow 53 k (by decide) (by omega), hlow 54 k (by decide) (by omega), hlow 55 k (by decide) (by omega)⟩
  · exact ⟨v1, v2, v3, v4.trans (hlow 43 0 (by decide) (by decide))⟩
  · rw [m_hap_I (by decide) (by decide) (by decide) (by decide) (by omega)]
    exact hlow 51 k (by decide) (by omega)
  · rw [m_hap_I (by decide) (by decide) (by decide) (by decide) (by omega)]
    exact hlow 51 j (by decide) (by omega)
/-- the class's step leaves the reference's cells and the fixed cells -/
theorem c_push_ref {σ : pm_S} {a : Nat} {x0 x1 x2 x3 x4 x5 : Int32} (hS : pm_fix σ) (ha : 68 ≤ a) : pm_fix (c_push (pm_sI σ 6 1 x0) a x1 x2 x3 x4 x5) ∧ ∀ b k, 7 ≤ b → b < 68 → qI (c_push (pm_sI σ 6 1 x0) a x1 x2 x3 x4 x5) b k = qI σ b k := by
  have h68 := hS.1
  refine ⟨pm_fix.sRd (pm_fix.act (hS.sI.nw) h68) ha, fun b k h1 h2 => ?_⟩
  rw [c_push_I (by show b ≠ qN σ; omega), qI_sI_nc (by omega)]
theorem okGive_cg {σ τ : pm_S} {n e : Nat} {t house : Int32} (h : ∀ b k, 7 ≤ b → b < 68 → qI τ b k = qI σ b k) : okGive τ n e t house ↔ okGive σ n e t house := by
  have h1 : m_le τ t (qI τ 43 0) e = m_le σ t (qI σ 43 0) e := by
    rw [h 43 0 (by decide) (by decide)]
    exact m_le_cg e (fun i _ => ⟨h 52 i (by decide) (by decide), h 53 i (by decide) (by decide), h 54 i (by decide) (by decide), h 55 i (by decide) (by decide)⟩)
  have h2 : m_ow τ t (qI τ 43 0) (qI τ 50 t.toNatClampNeg) e = m_ow σ t (qI σ 43 0) (qI σ 50 t.toNatClampNeg) e := by
    rw [h 43 0 (by decide) (by decide), h 50 _ (by decide) (by decide)]
    exact m_ow_cg e (fun i _ => ⟨h 52 i (by decide) (by decide), h 53 i (by decide) (by decide), h 54 i (by decide) (by decide), h 55 i (by decide) (by decide)⟩)
  unfold okGive isTh
  rw [h1, h2, h 51 _ (by decide) (by decide)]
theorem j_give {σ : pm_S} {n e : Nat} (hJ : J1 σ n e) (t house : Int32) : okGive σ n e t house ↔ okGiveC (fun t => h_s σ t e) n t house ∧ e ≠ 300 := by
  have hn2 := hJ.1.2.1
  unfold okGive okGiveC
  rw [j_isTh hJ t]
  constructor
  · rintro ⟨a1, a2, a3, a4, a5⟩
    obtain ⟨j, hj, rfl⟩ := (tOk_iff (by omega)).mp a1.1
    rw [nI_clamp (by omega)] at a4 ⊢
    obtain ⟨w1, w2, w3, -⟩ := h_now hn2 hj hJ.2.2.2.2.2.2.2.1
    exact ⟨⟨a1, w3.mpr a3, a2, fun z => a4 (w1.symm.trans z)⟩, a5⟩
  · rintro ⟨⟨a1, a3, a2, a4⟩, a5⟩
    obtain ⟨j, hj, rfl⟩ := (tOk_iff (by omega)).mp a1.1
    rw [nI_clamp (by omega)] at a3 a4 ⊢
    obtain ⟨w1, w2, w3, -⟩ := h_now hn2 hj hJ.2.2.2.2.2.2.2.1
    exact ⟨a1, a2, w3.mp a3, fun z => a4 (w1.trans z), a5⟩
/-- the first cells, those of the start, stand as they were -/
def fr5 (σ τ : pm_S) : Prop := (qN σ ≤ qN τ ∧ ∀ b, b < qN σ → qT τ b = qT σ b) ∧ ∀ b, b ≤ 5 → qL τ b = qL σ b ∧ ∀ j, qI τ b j = qI σ b j ∧ qR τ b j = qR σ b j
theorem fr5.rfl' {σ : pm_S} : fr5 σ σ := ⟨⟨Nat.le_refl _, fun _ _ => rfl⟩, fun _ _ => ⟨rfl, fun _ => ⟨rfl, rfl⟩⟩⟩
theorem fr5.tr {σ τ ρ : pm_S} (h1 : fr5 σ τ) (h2 : fr5 τ ρ) : fr5 σ ρ := ⟨⟨Nat.le_trans h1.1.1 h2.1.1, fun b hb => (h2.1.2 b (Nat.lt_of_lt_of_le hb h1.1.1)).trans (h1.1.2 b hb)⟩, fun b hb => ⟨(h2.2 b hb).1.trans (h1.2 b hb).1, fun j => ⟨((h2.2 b hb).2 j).1.trans ((h1.2 b hb).2 j).1, ((h2.2 b hb).2 j).2.trans ((h1.2 b hb).2 j).2⟩⟩⟩
theorem fr5_sI {σ : pm_S} {a k : Nat} {x : Int32} (h : 6 ≤ a) : fr5 σ (pm_sI σ a k x) := ⟨⟨Nat.le_refl _, fun _ _ => rfl⟩, fun b hb => ⟨rfl, fun j => ⟨qI_sI_nc (by omega), rfl⟩⟩⟩
theorem fr5_push {σ : pm_S} {a : Nat} {x0 x1 x2 x3 x4 x5 : Int32} (hS : pm_fix σ) (ha : 68 ≤ a) : fr5 σ (c_push (pm_sI σ 6 1 x0) a x1 x2 x3 x4 x5) := by
  have h68 := hS.1
  obtain ⟨t1, t2, -⟩ := c_push_T (σ := pm_sI σ 6 1 x0) (a := a) (x1 := x1) (x2 := x2) (x3 := x3) (x4 := x4) (x5 := x5)
  have hN : qN (pm_sI σ 6 1 x0) = qN σ := rfl
  refine ⟨⟨by rw [t1, hN]; omega, fun b hb => (t2 b hb).1⟩, fun b hb => ⟨(t2 b (by omega)).2, fun j => ⟨?_, ?_⟩⟩⟩
  · rw [c_push_I (by omega), qI_sI_nc (by omega)]
  · rw [c_push_R (by omega) (by omega)]; rfl
/-- what a pair of calls comes to: nothing changed, or one act more on both sides -/
def j_out (σ τ : pm_S) (n e : Nat) : Prop := τ = σ ∨ ∃ j kind house, j < n ∧ e < 300 ∧ h_ok kind house (h_h σ j e) ∧ j_stp σ τ e j kind house
theorem p_pass {σ : pm_S} {n e : Nat} (hJ : J1 σ n e) (hS : pm_fix σ) (t house : Int32) : ∃ r σ1 τ, PE 10 1 MX11_pass [.ref 6, .int t, .int house] σ (some (.int r)) σ1 ∧ PE 10 0 MX12_pass [.ref 43, .int t, .int house] σ1 (some (.int r)) τ ∧ j_out σ τ n e ∧ fr5 σ σ1 := by
  have hT := hJ.1
  have hc := t_pass (d := 10) (al := 0) (by decide) hS hT hJ.2.2.2.2.1 hJ.2.2.2.1 t house
  by_cases hok : okGiveC (fun t => h_s σ t e) n t house ∧ e ≠ 300
  · rw [bI_t hok, if_pos hok] at hc
    obtain ⟨j, hj, rfl⟩ := (tOk_iff (by have := hT.2.1; omega)).mp hok.1.1.1
    have hcl : (nI j).toNatClampNeg = j := nI_clamp (by have := hT.2.1; omega)
    rw [hcl] at hc
    have hX : hX (fun t => h_s σ t e) j = h_h σ j e := rfl
    rw [hX] at hc
    obtain ⟨hS1, hlow⟩ := c_push_ref (a := qR σ 8 j) (x0 := nI e + 1) (x1 := qI σ 6 0) (x2 := house) (x3 := house) (x4 := (h_h σ j e).2.2.2.1 + 1) (x5 := 1) hS (hT.at hj).2.1
    have hm := s_pass (d := 10) (al := 0) (by decide) hS1 ((hlow 43 1 (by decide) (by decide)).trans hJ.2.1) hT.2.1 ((hlow 43 2 (by decide) (by decide)).trans hJ.2.2.1) hJ.2.2.2.1 (nI j) house
    have hg := (okGive_cg (n := n) (e := e) (t := nI j) (house := house) hlow).mpr ((j_give hJ _ _).mpr hok)
    rw [bI_t hg, if_pos hg] at hm
    have hok2 := hok.1
    unfold okGiveC at hok2
    rw [hcl] at hok2
    refine ⟨1, _, _, hc, hm, Or.inr ⟨j, 0, house, hj, by have := hJ.2.2.2.1; have := hok.2; omega, ⟨?_, Or.inl ⟨rfl, hok2.2.1, hok2.2.2.1.1⟩⟩, j_stp_of hJ hS hj (by decide) rfl⟩, fr5_push hS (hT.at hj).2.1⟩
    have := hok.1.1.2
    rw [hcl] at this
    exact this
  · rw [bI_f hok, if_neg hok] at hc
    have hm := s_pass (d := 10) (al := 0) (by decide) hS hJ.2.1 hT.2.1 hJ.2.2.1 hJ.2.2.2.1 t house
    have hg : ¬ okGive σ n e t house := fun z => hok ((j_give hJ _ _).mp z)
    rw [bI_f hg, if_neg hg] at hm
    exact ⟨0, _, _, hc, hm, Or.inl rfl, fr5.rfl'⟩
theorem p_lend {σ : pm_S} {n e : Nat} (hJ : J1 σ n e) (hS : pm_fix σ) (t house : Int32) : ∃ r σ1 τ, PE 10 1 MX11_lend [.ref 6, .int t, .int house] σ (some (.int r)) σ1 ∧ PE 10 0 MX12_lend [.ref 43, .int t, .int house] σ1 (some (.int r)) τ ∧ j_out σ τ n e ∧ fr5 σ σ1 := by
  have hT := hJ.1
  have hc := t_lend (d := 10) (al := 0) (by decide) hS hT hJ.2.2.2.2.1 hJ.2.2.2.1 t house
  by_cases hok : okGiveC (fun t => h_s σ t e) n t house ∧ e ≠ 300
  · rw [bI_t hok, if_pos hok] at hc
    obtain ⟨j, hj, rfl⟩ := (tOk_iff (by have := hT.2.1; omega)).mp hok.1.1.1
    have hcl : (nI j).toNatClampNeg = j := nI_clamp (by have := hT.2.1; omega)
    rw [hcl] at hc
    have hX : hX (fun t => h_s σ t e) j = h_h σ j e := rfl
    rw [hX] at hc
    obtain ⟨hS1, hlow⟩ := c_push_ref (a := qR σ 8 j) (x0 := nI e + 1) (x1 := qI σ 6 0) (x2 := (h_h σ j e).2.1) (x3 := house) (x4 := (h_h σ j e).2.2.2.1) (x5 := 1) hS (hT.at hj).2.1
    have hm := s_lend (d := 10) (al := 0) (by decide) hS1 ((hlow 43 1 (by decide) (by decide)).trans hJ.2.1) hT.2.1 ((hlow 43 2 (by decide) (by decide)).trans hJ.2.2.1) hJ.2.2.2.1 (nI j) house
    have hg := (okGive_cg (n := n) (e := e) (t := nI j) (house := house) hlow).mpr ((j_give hJ _ _).mpr hok)
    rw [bI_t hg, if_pos hg] at hm
    have hok2 := hok.1
    unfold okGiveC at hok2
    rw [hcl] at hok2
    refine ⟨1, _, _, hc, hm, Or.inr ⟨j, 1, house, hj, by have := hJ.2.2.2.1; have := hok.2; omega, ⟨?_, Or.inr (Or.inl ⟨rfl, hok2.2.1, Ne.symm hok2.2.2.2, hok2.2.2.1.1⟩)⟩, j_stp_of hJ hS hj (by decide) rfl⟩, fr5_push hS (hT.at hj).2.1⟩
    have := hok.1.1.2
    rw [hcl] at this
    exact this
  · rw [bI_f hok, if_neg hok] at hc
    have hm := s_lend (d := 10) (al := 0) (by decide) hS hJ.2.1 hT.2.1 hJ.2.2.1 hJ.2.2.2.1 t house
    have hg : ¬ okGive σ n e t house := fun z => hok ((j_give hJ _ _).mp z)
    rw [bI_f hg, if_neg hg] at hm
    exact ⟨0, _, _, hc, hm, Or.inl rfl, fr5.rfl'⟩
/-- a burning: the reference writes its day down too -/
theorem j_stp_bu {σ : pm_S} {n e j : Nat} {O K T TH : Int32} (hJ : J1 σ n e) (hS : pm_fix σ) (hj : j < n) (hh : h_st 3 (-1) (qI σ 43 0) (h_h σ j e) = (qI σ 43 0, O, K, T, TH)) : j_stp σ (pm_sI (m_hap (c_push (pm_sI σ 6 1 (nI e + 1)) (qR σ 8 j) (qI σ 6 0) O K T TH) e (nI j) 3 (-1)) 51 j (qI (c_push (pm_sI σ 6 1 (nI e + 1)) (qR σ 8 j) (qI σ 6 0) O K T TH) 43 0)) e j 3 (-1) := by
  obtain ⟨hT, j1, j2, j3, j4, j5, -⟩ := hJ
  have h68 := hS.1
  obtain ⟨q1, q2, -⟩ := hT.at hj
  have hqa : qR σ 8 j ≠ qN σ := by have := q1.2.1; omega
  obtain ⟨n1, n2, n3, n4, n5, n6⟩ := c_push_N (σ := pm_sI σ 6 1 (nI e + 1)) (a := qR σ 8 j) hqa (qI σ 6 0) O K T TH
  obtain ⟨v1, v2, v3, v4, v5⟩ := m_hap_e (c_push (pm_sI σ 6 1 (nI e + 1)) (qR σ 8 j) (qI σ 6 0) O K T TH) e (nI j) 3 (-1)
  have hlow : ∀ b k, b < 68 → ¬ (b = 6 ∧ k = 1) → qI (c_push (pm_sI σ 6 1 (nI e + 1)) (qR σ 8 j) (qI σ 6 0) O K T TH) b k = qI σ b k := fun b k hb h61 => by
    rw [c_push_I (by show b ≠ qN σ; omega), qI_sI_ne h61]
  refine ⟨c_push_T (σ := pm_sI σ 6 1 (nI e + 1)), fun b k hb hne => ?_, ?_, ⟨fun b k hb hne => ?_, c_push_L (σ := pm_sI σ 6 1 (nI e + 1))⟩, ⟨fun b k hb h52 h53 h54 h55 h51 h61 h43 => ?_, ?_, ?_⟩, fun k hk => ?_, ?_, fun k hk => ?_, fun z => absurd rfl z, fun _ => ?_⟩
  · rw [qI_sI_nc (by omega), m_hap_I (by omega) (by omega) (by omega) (by omega) (by omega), c_push_I (σ := pm_sI σ 6 1 (nI e + 1)) hne, qI_sI_nc (by omega)]
  · rw [hh]
    have hm : ∀ k, qI (pm_sI (m_hap (c_push (pm_sI σ 6 1 (nI e + 1)) (qR σ 8 j) (qI σ 6 0) O K T TH) e (nI j) 3 (-1)) 51 j (qI (c_push (pm_sI σ 6 1 (nI e + 1)) (qR σ 8 j) (qI σ 6 0) O K T TH) 43 0)) (qN σ) k = qI (c_push (pm_sI σ 6 1 (nI e + 1)) (qR σ 8 j) (qI σ 6 0) O K T TH) (qN σ) k := fun k => (qI_sI_nc (by omega)).trans (m_hap_I (by omega) (by omega) (by omega) (by omega) (by omega))
    rw [hm, hm, hm, hm, hm]
    exact ⟨n1.trans j5, n2, n3, n4, n5, n6⟩
  · exact c_push_R (σ := pm_sI σ 6 1 (nI e + 1)) hb hne
  · rw [qI_sI_nc h51, m_hap_I h52 h53 h54 h55 h43]
    exact hlow b k hb h61
  · rw [qI_sI_nc (by decide), m_hap_I (by decide) (by decide) (by decide) (by decide) (by decide), c_push_I (by show 6 ≠ qN σ; omega), qI_sI_eq, nI_succ]
  · rw [qI_sI_nc (by decide), v5, hlow 43 2 (by decide) (by decide), j2, nI_succ]
  · obtain ⟨w1, w2, w3, w4⟩ := m_hap_o (σ := c_push (pm_sI σ 6 1 (nI e + 1)) (qR σ 8 j) (qI σ 6 0) O K T TH) (t := nI j) (w := 3) (h := -1) hk
    rw [qI_sI_nc (by decide), qI_sI_nc (by decide), qI_sI_nc (by decide), qI_sI_nc (by decide), w1, w2, w3, w4]
    exact ⟨hlow 52 k (by decide) (by omega), hlow 53 k (by decide) (by omega), hlow 54 k (by decide) (by omega), hlow 55 k (by decide) (by omega)⟩
  · rw [qI_sI_nc (by decide), qI_sI_nc (by decide), qI_sI_nc (by decide), qI_sI_nc (by decide)]
    exact ⟨v1, v2, v3, v4.trans (hlow 43 0 (by decide) (by decide))⟩
  · rw [qI_sI_ne (by omega), m_hap_I (by decide) (by decide) (by decide) (by decide) (by omega)]
    exact hlow 51 k (by decide) (by omega)
  · rw [qI_sI_eq]
    exact hlow 43 0 (by decide) (by decide)
theorem j_back {σ : pm_S} {n e : Nat} (hJ : J1 σ n e) (t : Int32) : okBack σ n e t ↔ okBackC (fun t => h_s σ t e) n e t := by
  have hn2 := hJ.1.2.1
  unfold okBack okBackC
  rw [j_isTh hJ t]
  constructor
  · rintro ⟨a1, a2, a3⟩
    obtain ⟨j, hj, rfl⟩ := (tOk_iff (by omega)).mp a1.1
    rw [nI_clamp (by omega)]
    obtain ⟨w1, w2, w3, -⟩ := h_now hn2 hj hJ.2.2.2.2.2.2.2.1
    exact ⟨a1, fun z => a2 (w3.mp z), a3⟩
  · rintro ⟨a1, a2, a3⟩
    obtain ⟨j, hj, rfl⟩ := (tOk_iff (by omega)).mp a1.1
    rw [nI_clamp (by omega)] at a2
    obtain ⟨w1, w2, w3, -⟩ := h_now hn2 hj hJ.2.2.2.2.2.2.2.1
    exact ⟨a1, fun z => a2 (w3.mpr z), a3⟩
theorem okBack_cg {σ τ : pm_S} {n e : Nat} {t : Int32} (h : ∀ b k, 7 ≤ b → b < 68 → qI τ b k = qI σ b k) : okBack τ n e t ↔ okBack σ n e t := by
  have h1 : m_le τ t (qI τ 43 0) e = m_le σ t (qI σ 43 0) e := by
    rw [h 43 0 (by decide) (by decide)]
    exact m_le_cg e (fun i _ => ⟨h 52 i (by decide) (by decide), h 53 i (by decide) (by decide), h 54 i (by decide) (by decide), h 55 i (by decide) (by decide)⟩)
  unfold okBack isTh
  rw [h1, h 51 _ (by decide) (by decide)]
theorem p_back {σ : pm_S} {n e : Nat} (hJ : J1 σ n e) (hS : pm_fix σ) (t : Int32) : ∃ r σ1 τ, PE 10 1 MX11_back [.ref 6, .int t] σ (some (.int r)) σ1 ∧ PE 10 0 MX12_back [.ref 43, .int t] σ1 (some (.int r)) τ ∧ j_out σ τ n e ∧ fr5 σ σ1 := by
  have hT := hJ.1
  have hc := t_back (d := 10) (al := 0) (by decide) hS hT hJ.2.2.2.2.1 hJ.2.2.2.1 t
  by_cases hok : okBackC (fun t => h_s σ t e) n e t
  · rw [bI_t hok, if_pos hok] at hc
    obtain ⟨j, hj, rfl⟩ := (tOk_iff (by have := hT.2.1; omega)).mp hok.1.1
    have hcl : (nI j).toNatClampNeg = j := nI_clamp (by have := hT.2.1; omega)
    rw [hcl] at hc
    have hX : hX (fun t => h_s σ t e) j = h_h σ j e := rfl
    rw [hX] at hc
    obtain ⟨hS1, hlow⟩ := c_push_ref (a := qR σ 8 j) (x0 := nI e + 1) (x1 := qI σ 6 0) (x2 := (h_h σ j e).2.1) (x3 := (h_h σ j e).2.1) (x4 := (h_h σ j e).2.2.2.1) (x5 := 1) hS (hT.at hj).2.1
    have hm := s_back (d := 10) (al := 0) (by decide) hS1 ((hlow 43 1 (by decide) (by decide)).trans hJ.2.1) hT.2.1 ((hlow 43 2 (by decide) (by decide)).trans hJ.2.2.1) hJ.2.2.2.1 (nI j)
    have hg := (okBack_cg (n := n) (e := e) (t := nI j) hlow).mpr ((j_back hJ _).mpr hok)
    rw [bI_t hg, if_pos hg] at hm
    have hok2 := hok
    unfold okBackC at hok2
    rw [hcl] at hok2
    refine ⟨1, _, _, hc, hm, Or.inr ⟨j, 2, -1, hj, by have := hJ.2.2.2.1; have := hok.2.2; omega, ⟨?_, Or.inr (Or.inr (Or.inl ⟨rfl, hok2.2.1⟩))⟩, j_stp_of hJ hS hj (by decide) rfl⟩, fr5_push hS (hT.at hj).2.1⟩
    have := hok.1.2
    rw [hcl] at this
    exact this
  · rw [bI_f hok, if_neg hok] at hc
    have hm := s_back (d := 10) (al := 0) (by decide) hS hJ.2.1 hT.2.1 hJ.2.2.1 hJ.2.2.2.1 t
    have hg : ¬ okBack σ n e t := fun z => hok ((j_back hJ _).mp z)
    rw [bI_f hg, if_neg hg] at hm
    exact ⟨0, _, _, hc, hm, Or.inl rfl, fr5.rfl'⟩
theorem p_burn {σ : pm_S} {n e : Nat} (hJ : J1 σ n e) (hS : pm_fix σ) (t : Int32) : ∃ r σ1 τ, PE 10 1 MX11_burn [.ref 6, .int t] σ (some (.int r)) σ1 ∧ PE 10 0 MX12_burn [.ref 43, .int t] σ1 (some (.int r)) τ ∧ j_out σ τ n e ∧ fr5 σ σ1 := by
  have hT := hJ.1
  have hc := t_burn (d := 10) (al := 0) (by decide) hS hT hJ.2.2.2.2.1 hJ.2.2.2.1 t
  by_cases hok : okBurnC (fun t => h_s σ t e) n e t
  · rw [bI_t hok, if_pos hok] at hc
    have hok0 := hok
    obtain ⟨j, hj, rfl⟩ := (tOk_iff (by have := hT.2.1; omega)).mp hok.1.1
    have hcl : (nI j).toNatClampNeg = j := nI_clamp (by have := hT.2.1; omega)
    rw [hcl] at hc
    have hX : hX (fun t => h_s σ t e) j = h_h σ j e := rfl
    rw [hX] at hc
    obtain ⟨hS1, hlow⟩ := c_push_ref (a := qR σ 8 j) (x0 := nI e + 1) (x1 := qI σ 6 0) (x2 := (h_h σ j e).2.1) (x3 := (h_h σ j e).2.2.1) (x4 := (h_h σ j e).2.2.2.1) (x5 := 0) hS (hT.at hj).2.1
    have hm := s_burn (d := 10) (al := 0) (by decide) hS1 ((hlow 43 1 (by decide) (by decide)).trans hJ.2.1) hT.2.1 ((hlow 43 2 (by decide) (by decide)).trans hJ.2.2.1) hJ.2.2.2.1 (nI j)
    have hg0 := (j_isTh hJ (nI j)).mpr hok.1
    have hg : okBurn (c_push (pm_sI σ 6 1 (nI e + 1)) (qR σ 8 j) (qI σ 6 0) (h_h σ j e).2.1 (h_h σ j e).2.2.1 (h_h σ j e).2.2.2.1 0) n e (nI j) := by
      refine ⟨⟨hg0.1, ?_⟩, hok.2⟩
      rw [hlow 51 _ (by decide) (by decide)]
      exact hg0.2
    rw [bI_t hg, if_pos hg] at hm
    unfold m_burn at hm
    rw [hcl] at hm
    refine ⟨1, _, _, hc, hm, Or.inr ⟨j, 3, -1, hj, by have := hJ.2.2.2.1; have := hok.2; omega, ⟨?_, Or.inr (Or.inr (Or.inr rfl))⟩, j_stp_bu hJ hS hj rfl⟩, fr5_push hS (hT.at hj).2.1⟩
    have := hok.1.2
    rw [hcl] at this
    exact this
  · rw [bI_f hok, if_neg hok] at hc
    have hm := s_burn (d := 10) (al := 0) (by decide) hS hJ.2.1 hT.2.1 hJ.2.2.1 hJ.2.2.2.1 t
    have hg : ¬ okBurn σ n e t := fun z => hok ⟨(j_isTh hJ t).mp z.1, z.2⟩
    rw [bI_f hg, if_neg hg] at hm
    exact ⟨0, _, _, hc, hm, Or.inl rfl, fr5.rfl'⟩
