/-! ===== feed: on both sides ===== -/
theorem sh_20 : ∀ i, i < 20 → nI i - nI i / 4 * 4 = nI (i % 4) := by decide +kernel
theorem fd5_b (σ : pm_S) (n : Nat) (a b c d e : Int32) : ∀ i, i < 20 → qI (c_fd5 σ n a b c d e) 18 (n + i) &&& 255 = m_fb a b c d e i := fun i hi => by
  unfold c_fd5 m_fb m_fv
  rw [sh_20 i hi]
  by_cases z4 : i < 4
  · rw [if_pos z4, (c_ap_I _ _ _).1 18 _ (by omega) (by omega), (c_ap_I _ _ _).1 18 _ (by omega) (by omega), (c_ap_I _ _ _).1 18 _ (by omega) (by omega), (c_ap_I _ _ _).1 18 _ (by omega) (by omega), ap_fb _ n a i z4, show i % 4 = i by omega]
  · rw [if_neg z4]
    by_cases z8 : i < 8
    · rw [if_pos z8, (c_ap_I _ _ _).1 18 _ (by omega) (by omega), (c_ap_I _ _ _).1 18 _ (by omega) (by omega), (c_ap_I _ _ _).1 18 _ (by omega) (by omega), show n + i = n + 4 + (i % 4) by omega, ap_fb _ (n + 4) b (i % 4) (by omega)]
    · rw [if_neg z8]
      by_cases z12 : i < 12
      · rw [if_pos z12, (c_ap_I _ _ _).1 18 _ (by omega) (by omega), (c_ap_I _ _ _).1 18 _ (by omega) (by omega), show n + i = n + 8 + (i % 4) by omega, ap_fb _ (n + 8) c (i % 4) (by omega)]
      · rw [if_neg z12]
        by_cases z16 : i < 16
        · rw [if_pos z16, (c_ap_I _ _ _).1 18 _ (by omega) (by omega), show n + i = n + 12 + (i % 4) by omega, ap_fb _ (n + 12) d (i % 4) (by omega)]
        · rw [if_neg z16, show n + i = n + 16 + (i % 4) by omega, ap_fb _ (n + 16) e (i % 4) (by omega)]
theorem fd5_o (σ : pm_S) (n : Nat) (a b c d e : Int32) {y j : Nat} (h1 : ¬ (y = 18 ∧ n ≤ j ∧ j < n + 20)) (h2 : ¬ (y = 17 ∧ j = 1)) : qI (c_fd5 σ n a b c d e) y j = qI σ y j := by
  unfold c_fd5
  rw [(c_ap_I _ _ _).1 y j (by omega) h2, (c_ap_I _ _ _).1 y j (by omega) h2, (c_ap_I _ _ _).1 y j (by omega) h2, (c_ap_I _ _ _).1 y j (by omega) h2, (c_ap_I _ _ _).1 y j (by omega) h2]
theorem fd5_fix {σ : pm_S} (hS : pm_fix σ) (n : Nat) (a b c d e : Int32) : pm_fix (c_fd5 σ n a b c d e) := c_ap_fix (c_ap_fix (c_ap_fix (c_ap_fix (c_ap_fix hS n a) (n + 4) b) (n + 8) c) (n + 12) d) (n + 16) e
/-- a call that changes the tape alone -/
def tp_only (σ τ : pm_S) : Prop := (∀ b k, b ≠ 18 → b ≠ 66 → ¬ (b = 17 ∧ k = 1) → ¬ (b = 43 ∧ k = 30) → qI τ b k = qI σ b k) ∧ qR τ = qR σ ∧ qT τ = qT σ ∧ qL τ = qL σ ∧ qN τ = qN σ
theorem m_fs_R (σ : pm_S) (n : Nat) (a b c d e : Int32) : ∀ k, (m_fs σ n a b c d e k).2 = σ.2
  | 0 => rfl
  | k + 1 => m_fs_R σ n a b c d e k
theorem p_feed {σ : pm_S} {L : Nat} (h3 : J3 σ L) (hS : pm_fix σ) (a b c d e : Int32) : ∃ v σ1 τ L', PE 10 0 MX11_feed [.ref 6, .int a, .int b, .int c, .int d, .int e] σ (some (.int v)) σ1 ∧ PE 10 0 MX12_feed [.ref 43, .int a, .int b, .int c, .int d, .int e] σ1 (some (.int v)) τ ∧ J3 τ L' ∧ pm_fix τ ∧ tp_only σ τ ∧ fr5 σ σ1 := by
  obtain ⟨h0, h1, h2, h4⟩ := id h3
  have hc := t_feed (d := 10) (al := 0) (by decide) hS h1 h0 a b c d e
  by_cases hx : L + 20 ≤ 600
  · rw [if_pos hx, if_pos hx] at hc
    have hS1 := fd5_fix hS L a b c d e
    have hm := s_feed (dd := 10) (al := 0) (n := L) hS1 ((fd5_o σ L a b c d e (by omega) (by omega)).trans h2) h0 a b c d e
    rw [if_pos hx, if_pos hx] at hm
    obtain ⟨f1, f2⟩ := m_fs_I (c_fd5 σ L a b c d e) L a b c d e 20
    have hR := m_fs_R (c_fd5 σ L a b c d e) L a b c d e 20
    refine ⟨_, _, _, L + 20, hc, hm, ⟨hx, ?_, ?_, fun k hk => ?_⟩, m_fs_fix hS1 L a b c d e 20, ⟨fun y j y1 y2 y3 y4 => ?_, ?_, ?_, ?_, ?_⟩, ⟨Nat.le_refl _, fun _ _ => rfl⟩, fun b hb => ⟨rfl, fun j => ⟨fd5_o σ L _ _ _ _ _ (by omega) (by omega), rfl⟩⟩⟩
    · rw [f1 17 1 (by decide) (by decide)]
      exact c_ap_17 _ _ _
    · exact m_fs_n ((fd5_o σ L a b c d e (by omega) (by omega)).trans h2) a b c d e 20
    · rw [f1 18 k (by decide) (by omega), f2]
      by_cases z : L ≤ k
      · have := fd5_b σ L a b c d e (k - L) (by omega)
        rw [show L + (k - L) = k by omega] at this
        rw [if_pos ⟨z, hk⟩, this]
      · rw [if_neg (fun y => z y.1), fd5_o σ L a b c d e (by omega) (by omega), fd5_o σ L a b c d e (by omega) (by omega)]
        exact h4 k (by omega)
    · rw [f1 y j y2 y4, fd5_o σ L a b c d e (by omega) y3]
    · show (m_fs (c_fd5 σ L a b c d e) L a b c d e 20).2.1 = _
      rw [hR]; rfl
    · show (m_fs (c_fd5 σ L a b c d e) L a b c d e 20).2.2.1 = _
      rw [hR]; rfl
    · show (m_fs (c_fd5 σ L a b c d e) L a b c d e 20).2.2.2.1 = _
      rw [hR]; rfl
    · show (m_fs (c_fd5 σ L a b c d e) L a b c d e 20).2.2.2.2 = _
      rw [hR]; rfl
  · rw [if_neg hx, if_neg hx] at hc
    have hm := s_feed (dd := 10) (al := 0) (n := L) hS h2 h0 a b c d e
    rw [if_neg hx, if_neg hx] at hm
    exact ⟨_, _, _, L, hc, hm, h3, hS, ⟨fun _ _ _ _ _ _ => rfl, rfl, rfl, rfl, rfl⟩, fr5.rfl'⟩
theorem t_fault {d al : Nat} {σ : pm_S} (hS : pm_fix σ) (w : Int32) : PE d al MX11_fault [.ref 6, .int w] σ (some (.int (if w = 0 then qI σ 29 4 else if w = 1 then qI σ 29 5 else -1))) σ := by
  show PW _ _ _ _ _ _ _ _
  refine pw_iload_n dX11_fault_0 rfl ?_
  by_cases w1_0 : w = 0
  · rw [w1_0]
    refine pw_lsw (off := 27) (tgt := 28) dX11_fault_1 (by decide) (by decide) (by decide) ?_
    refine pw_aload_n dX11_fault_28 rfl ?_
    refine pw_getF (v := 29) dX11_fault_29 flX11_52 rfl (hS.at rfl rfl rfl) (hS.rf (6, 5, 29) rfl (by decide)) ?_
    refine pw_getI dX11_fault_32 flX11_242 rfl (hS.at rfl rfl rfl) ?_
    refine pw_iret dX11_fault_35 rfl rfl ?_
    exact ⟨rfl, rfl⟩
  by_cases w1_1 : w = 1
  · rw [w1_1]
    refine pw_lsw (off := 35) (tgt := 36) dX11_fault_1 (by decide) (by decide) (by decide) ?_
    refine pw_aload_n dX11_fault_36 rfl ?_
    refine pw_getF (v := 29) dX11_fault_37 flX11_52 rfl (hS.at rfl rfl rfl) (hS.rf (6, 5, 29) rfl (by decide)) ?_
    refine pw_getI dX11_fault_40 flX11_245 rfl (hS.at rfl rfl rfl) ?_
    refine pw_iret dX11_fault_43 rfl rfl ?_
    exact ⟨rfl, rfl⟩
  refine pw_lsw (off := 43) (tgt := 44) dX11_fault_1 (by decide) (by have a0 := sw_ne w1_0 (z := 0) rfl; have a1 := sw_ne w1_1 (z := 1) rfl; simp [Op.lookupswitch.offset, a0, a1, Ne.symm a0, Ne.symm a1]) (by decide) ?_
  refine pw_iconst (v := (-1)) dX11_fault_44 (by decide) ?_
  refine pw_iret dX11_fault_45 rfl rfl ?_
  exact ⟨by rw [if_neg w1_0, if_neg w1_1], rfl⟩
theorem p_fault {σ : pm_S} (hS : pm_fix σ) (h1 : qI σ 29 4 = qI σ 43 37) (h2 : qI σ 29 5 = qI σ 43 39) (w : Int32) : ∃ v, PE 10 0 MX11_fault [.ref 6, .int w] σ (some (.int v)) σ ∧ PE 10 0 MX12_fault [.ref 43, .int w] σ (some (.int v)) σ :=
  ⟨_, t_fault (d := 10) (al := 0) hS w, by rw [h1, h2]; exact s_fault (d := 10) (al := 0) hS w⟩
