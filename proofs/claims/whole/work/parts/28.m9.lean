/-! ===== the reference: the tape, small helpers ===== -/
theorem s_end {d al : Nat} {σ : pm_S} (hd : 1 ≤ d) (hS : pm_fix σ) (n : Int32) : PE d al MX12_end [.ref 43, .int n] σ (some (.int (bI (0 ≤ n ∧ n ≤ qI σ 43 30)))) (if 0 ≤ n ∧ n ≤ qI σ 43 30 then pm_sI σ 43 30 n else σ) := by
  show PW _ _ _ _ _ _ _ _
  refine pw_iload_n dX12_end_0 rfl ?_
  refine pw_iconst (v := 0) dX12_end_1 (by decide) ?_
  refine pw_aload_n dX12_end_2 rfl ?_
  refine pw_getI dX12_end_3 flX12_155 rfl (hS.at rfl rfl rfl) ?_
  refine pw_cS3 (d1 := d - 1) (a1 := 0) (a2 := al) dX12_end_6 mtX12_isIn stX12_isIn mlX12_86 (Nat.le_of_ble_eq_true rfl) (Nat.le_of_ble_eq_true rfl) (by omega) (by omega) (s_isIn _ _ _) ?_
  rintro r_ τ_ ⟨hr_, ht_⟩; subst r_; subst τ_
  refine pw_if_ne (tgt := 14) dX12_end_9 (by decide) (fun h9 => ?_) (fun h9 => ?_)
  · refine pw_aload_n dX12_end_14 rfl ?_
    refine pw_iload_n dX12_end_15 rfl ?_
    refine pw_putI dX12_end_16 flX12_155 ⟨_, rfl, Or.inl rfl⟩ rfl (hS.at rfl rfl rfl) ?_
    refine pw_iconst (v := 1) dX12_end_19 (by decide) ?_
    refine pw_iret dX12_end_20 rfl (by first | rfl | exact bI_nar) ?_
    have hok := bI_n.mp h9
    exact ⟨by rw [bI_t hok], by rw [if_pos hok]⟩
  · refine pw_iconst (v := 0) dX12_end_12 (by decide) ?_
    refine pw_iret dX12_end_13 rfl (by first | rfl | exact bI_nar) ?_
    have hno := bI_0.mp h9
    exact ⟨by rw [bI_f hno], by rw [if_neg hno]⟩
theorem s_fault {d al : Nat} {σ : pm_S} (hS : pm_fix σ) (w : Int32) : PE d al MX12_fault [.ref 43, .int w] σ (some (.int (if w = 0 then qI σ 43 37 else if w = 1 then qI σ 43 39 else -1))) σ := by
  show PW _ _ _ _ _ _ _ _
  refine pw_iload_n dX12_fault_0 rfl ?_
  refine pw_if_ne (tgt := 11) dX12_fault_1 (by decide) (fun h1 => ?_) (fun h1 => ?_)
  · refine pw_iload_n dX12_fault_11 rfl ?_
    refine pw_iconst (v := 1) dX12_fault_12 (by decide) ?_
    refine pw_icmp_ne (tgt := 23) dX12_fault_13 (by decide) (fun h13 => ?_) (fun h13 => ?_)
    · refine pw_iconst (v := (-1)) dX12_fault_23 (by decide) ?_
      refine pw_iret dX12_fault_24 rfl rfl ?_
      refine ⟨?_, rfl⟩
      first | rw [if_pos h1] | (rw [if_neg h1, if_pos h13]) | (rw [if_neg h1, if_neg h13])
    · refine pw_aload_n dX12_fault_16 rfl ?_
      refine pw_getI dX12_fault_17 flX12_79 rfl (hS.at rfl rfl rfl) ?_
      refine pw_goto (tgt := 24) dX12_fault_20 (by decide) ?_
      refine pw_iret dX12_fault_24 rfl rfl ?_
      refine ⟨?_, rfl⟩
      first | rw [if_pos h1] | (rw [if_neg h1, if_pos h13]) | (rw [if_neg h1, if_neg h13])
  · refine pw_aload_n dX12_fault_4 rfl ?_
    refine pw_getI dX12_fault_5 flX12_260 rfl (hS.at rfl rfl rfl) ?_
    refine pw_goto (tgt := 24) dX12_fault_8 (by decide) ?_
    refine pw_iret dX12_fault_24 rfl rfl ?_
    refine ⟨?_, rfl⟩
    first | rw [if_pos h1] | (rw [if_neg h1, if_pos h13]) | (rw [if_neg h1, if_neg h13])
/-- a byte of the five numbers -/
def m_fv (a b c d e : Int32) (k : Nat) : Int32 := if k < 4 then a else if k < 8 then b else if k < 12 then c else if k < 16 then d else e
def m_fb (a b c d e : Int32) (k : Nat) : Int32 := ((m_fv a b c d e k) >>> ((24 - 8 * (nI k - nI k / 4 * 4)) &&& 31)) &&& 255
def m_fs (σ : pm_S) (n : Nat) (a b c d e : Int32) : Nat → pm_S
  | 0 => σ
  | k + 1 => pm_sI (pm_sI (m_fs σ n a b c d e k) 66 (n + k) (m_fb a b c d e k)) 43 30 (nI (n + k + 1))
theorem m_fs_fix {σ : pm_S} (hS : pm_fix σ) (n : Nat) (a b c d e : Int32) : ∀ k, pm_fix (m_fs σ n a b c d e k)
  | 0 => hS
  | k + 1 => (m_fs_fix hS n a b c d e k).sI.sI
theorem m_fs_n {σ : pm_S} {n : Nat} (hn : qI σ 43 30 = nI n) (a b c d e : Int32) : ∀ k, qI (m_fs σ n a b c d e k) 43 30 = nI (n + k)
  | 0 => hn
  | k + 1 => rfl
theorem s_feed_lp {dd al n : Nat} {σ : pm_S} (hS0 : pm_fix σ) (hn : qI σ 43 30 = nI n) (hn2 : n + 20 ≤ 600) (a b c d e : Int32) : ∀ (k i : Nat) (x : Value), (pm_un x = true ∨ ∃ z, x = .int z) → i + k = 20 → PW dd al MX12_feed 18 [.ref 43, .int a, .int b, .int c, .int d, .int e, .int (nI i), x] [] (m_fs σ n a b c d e i) (fun r τ => r = some (.int (nI (n + 20))) ∧ τ = m_fs σ n a b c d e 20) := by
  intro k
  induction k with
  | zero =>
    intro i x hx hi
    have hS := m_fs_fix hS0 n a b c d e i
    refine pw_iload dX12_feed_18 rfl ?_
    refine pw_bipush (v := 20) dX12_feed_20 (by decide) ?_
    refine pw_icmp_ge (tgt := 115) dX12_feed_22 (by decide) (fun h22 => ?_) (fun h22 => ?_)
    · refine pw_aload_n dX12_feed_115 rfl ?_
      refine pw_getI dX12_feed_116 flX12_155 rfl (hS.at rfl rfl rfl) ?_
      refine pw_iret dX12_feed_119 rfl rfl ?_
      refine ⟨?_, by rw [show i = 20 by omega]⟩
      rw [m_fs_n hn, show i = 20 by omega]
    · exact absurd (by rw [show i = 20 by omega]; decide) h22
  | succ k ih =>
    intro i x hx hi
    have hS := m_fs_fix hS0 n a b c d e i
    have hq := m_fs_n hn a b c d e i
    have hni : n + i < 600 := by omega
    have hv : ∀ y : Int32, ∃ z, Value.int y = .int z := fun y => ⟨y, rfl⟩
    have hh := fun y : Int32 => ih (i + 1) (.int y) (Or.inr ⟨y, rfl⟩) (by omega)
    have hu : m_fs σ n a b c d e (i + 1) = pm_sI (pm_sI (m_fs σ n a b c d e i) 66 (n + i) (m_fb a b c d e i)) 43 30 (nI (n + i + 1)) := rfl
    rw [hu, nI_succ i] at hh
    have key : PW dd al MX12_feed 71 [.ref 43, .int a, .int b, .int c, .int d, .int e, .int (nI i), x] [.int (m_fv a b c d e i)] (m_fs σ n a b c d e i) (fun r τ => r = some (.int (nI (n + 20))) ∧ τ = m_fs σ n a b c d e 20) := by
      refine pw_istore dX12_feed_71 (Nat.le_of_ble_eq_true rfl) (Nat.le_of_ble_eq_true rfl) rfl ?_
      refine pw_aload_n dX12_feed_73 rfl ?_
      refine pw_getF (v := 66) dX12_feed_74 flX12_76 rfl (hS.at rfl rfl rfl) (hS.rf (43, 29, 66) rfl (by decide)) ?_
      refine pw_aload_n dX12_feed_77 rfl ?_
      refine pw_getI dX12_feed_78 flX12_155 rfl (hS.at rfl rfl rfl) ?_
      refine pw_iload dX12_feed_81 rfl ?_
      refine pw_bipush (v := 24) dX12_feed_83 (by decide) ?_
      refine pw_bipush (v := 8) dX12_feed_85 (by decide) ?_
      refine pw_iload dX12_feed_87 rfl ?_
      refine pw_iconst (v := 4) dX12_feed_89 (by decide) ?_
      refine pw_irem dX12_feed_90 (by decide) ?_
      refine pw_imul dX12_feed_91 ?_
      refine pw_isub dX12_feed_92 ?_
      refine pw_ishr dX12_feed_93 ?_
      refine pw_sipush (v := 255) dX12_feed_94 (by decide) ?_
      refine pw_iand dX12_feed_97 ?_
      refine pw_iast dX12_feed_98 (hS.at rfl rfl rfl) (by decide) hq (hS.lt rfl rfl hni rfl) (by omega) ?_
      refine pw_aload_n dX12_feed_99 rfl ?_
      refine pw_dup dX12_feed_100 rfl ?_
      refine pw_getI dX12_feed_101 flX12_155 rfl (hS.at rfl rfl rfl) ?_
      refine pw_iconst (v := 1) dX12_feed_104 (by decide) ?_
      refine pw_iadd dX12_feed_105 ?_
      refine pw_putI dX12_feed_106 flX12_155 ⟨_, rfl, Or.inl rfl⟩ rfl (hS.at rfl rfl rfl) ?_
      refine pw_iinc1 dX12_feed_109 rfl (Nat.le_of_ble_eq_true rfl) (Nat.le_of_ble_eq_true rfl) rfl ?_
      refine pw_goto (tgt := 18) dX12_feed_112 (by decide) ?_
      have hz := hh (m_fv a b c d e i)
      rw [nI_succ (n + i), ← hq] at hz
      exact hz
    unfold m_fv at key
    refine pw_iload dX12_feed_18 rfl ?_
    refine pw_bipush (v := 20) dX12_feed_20 (by decide) ?_
    refine pw_icmp_ge (tgt := 115) dX12_feed_22 (by decide) (fun h22 => ?_) (fun h22 => ?_)
    · exact absurd h22 (nI_ge (show i < 20 by omega) (by decide))
    · refine pw_iload dX12_feed_25 rfl ?_
      refine pw_iconst (v := 4) dX12_feed_27 (by decide) ?_
      refine pw_icmp_ge (tgt := 35) dX12_feed_28 (by decide) (fun h28 => ?_) (fun h28 => ?_)
      · refine pw_iload dX12_feed_35 rfl ?_
        refine pw_bipush (v := 8) dX12_feed_37 (by decide) ?_
        refine pw_icmp_ge (tgt := 46) dX12_feed_39 (by decide) (fun h39 => ?_) (fun h39 => ?_)
        · refine pw_iload dX12_feed_46 rfl ?_
          refine pw_bipush (v := 12) dX12_feed_48 (by decide) ?_
          refine pw_icmp_ge (tgt := 57) dX12_feed_50 (by decide) (fun h50 => ?_) (fun h50 => ?_)
          · refine pw_iload dX12_feed_57 rfl ?_
            refine pw_bipush (v := 16) dX12_feed_59 (by decide) ?_
            refine pw_icmp_ge (tgt := 69) dX12_feed_61 (by decide) (fun h61 => ?_) (fun h61 => ?_)
            · refine pw_iload dX12_feed_69 rfl ?_
              by_cases z4 : i < 4
              · rw [if_pos z4] at key
                first | exact key | exact absurd h28 (nI_ge z4 (by decide))
              · rw [if_neg z4] at key
                by_cases z8 : i < 8
                · rw [if_pos z8] at key
                  first | exact key | exact absurd (nI_le (show 4 ≤ i by omega) (by omega)) h28 | exact absurd h39 (nI_ge z8 (by decide))
                · rw [if_neg z8] at key
                  by_cases z12 : i < 12
                  · rw [if_pos z12] at key
                    first | exact key | exact absurd (nI_le (show 4 ≤ i by omega) (by omega)) h28 | exact absurd (nI_le (show 8 ≤ i by omega) (by omega)) h39 | exact absurd h50 (nI_ge z12 (by decide))
                  · rw [if_neg z12] at key
                    by_cases z16 : i < 16
                    · rw [if_pos z16] at key
                      first | exact key | exact absurd (nI_le (show 4 ≤ i by omega) (by omega)) h28 | exact absurd (nI_le (show 8 ≤ i by omega) (by omega)) h39 | exact absurd (nI_le (show 12 ≤ i by omega) (by omega)) h50 | exact absurd h61 (nI_ge z16 (by decide))
                    · rw [if_neg z16] at key
                      first | exact key | exact absurd (nI_le (show 4 ≤ i by omega) (by omega)) h28 | exact absurd (nI_le (show 8 ≤ i by omega) (by omega)) h39 | exact absurd (nI_le (show 12 ≤ i by omega) (by omega)) h50 | exact absurd (nI_le (show 16 ≤ i by omega) (by omega)) h61
            · refine pw_iload dX12_feed_64 rfl ?_
              refine pw_goto (tgt := 71) dX12_feed_66 (by decide) ?_
              by_cases z4 : i < 4
              · rw [if_pos z4] at key
                first | exact key | exact absurd h28 (nI_ge z4 (by decide))
              · rw [if_neg z4] at key
                by_cases z8 : i < 8
                · rw [if_pos z8] at key
                  first | exact key | exact absurd (nI_le (show 4 ≤ i by omega) (by omega)) h28 | exact absurd h39 (nI_ge z8 (by decide))
                · rw [if_neg z8] at key
                  by_cases z12 : i < 12
                  · rw [if_pos z12] at key
                    first | exact key | exact absurd (nI_le (show 4 ≤ i by omega) (by omega)) h28 | exact absurd (nI_le (show 8 ≤ i by omega) (by omega)) h39 | exact absurd h50 (nI_ge z12 (by decide))
                  · rw [if_neg z12] at key
                    by_cases z16 : i < 16
                    · rw [if_pos z16] at key
                      first | exact key | exact absurd (nI_le (show 4 ≤ i by omega) (by omega)) h28 | exact absurd (nI_le (show 8 ≤ i by omega) (by omega)) h39 | exact absurd (nI_le (show 12 ≤ i by omega) (by omega)) h50 | exact absurd h61 (nI_ge z16 (by decide))
                    · rw [if_neg z16] at key
                      first | exact key | exact absurd (nI_le (show 4 ≤ i by omega) (by omega)) h28 | exact absurd (nI_le (show 8 ≤ i by omega) (by omega)) h39 | exact absurd (nI_le (show 12 ≤ i by omega) (by omega)) h50 | exact absurd (nI_le (show 16 ≤ i by omega) (by omega)) h61
          · refine pw_iload_n dX12_feed_53 rfl ?_
            refine pw_goto (tgt := 71) dX12_feed_54 (by decide) ?_
            by_cases z4 : i < 4
            · rw [if_pos z4] at key
              first | exact key | exact absurd h28 (nI_ge z4 (by decide))
            · rw [if_neg z4] at key
              by_cases z8 : i < 8
              · rw [if_pos z8] at key
                first | exact key | exact absurd (nI_le (show 4 ≤ i by omega) (by omega)) h28 | exact absurd h39 (nI_ge z8 (by decide))
              · rw [if_neg z8] at key
                by_cases z12 : i < 12
                · rw [if_pos z12] at key
                  first | exact key | exact absurd (nI_le (show 4 ≤ i by omega) (by omega)) h28 | exact absurd (nI_le (show 8 ≤ i by omega) (by omega)) h39 | exact absurd h50 (nI_ge z12 (by decide))
                · rw [if_neg z12] at key
                  by_cases z16 : i < 16
                  · rw [if_pos z16] at key
                    first | exact key | exact absurd (nI_le (show 4 ≤ i by omega) (by omega)) h28 | exact absurd (nI_le (show 8 ≤ i by omega) (by omega)) h39 | exact absurd (nI_le (show 12 ≤ i by omega) (by omega)) h50 | exact absurd h61 (nI_ge z16 (by decide))
                  · rw [if_neg z16] at key
                    first | exact key | exact absurd (nI_le (show 4 ≤ i by omega) (by omega)) h28 | exact absurd (nI_le (show 8 ≤ i by omega) (by omega)) h39 | exact absurd (nI_le (show 12 ≤ i by omega) (by omega)) h50 | exact absurd (nI_le (show 16 ≤ i by omega) (by omega)) h61
        · refine pw_iload_n dX12_feed_42 rfl ?_
          refine pw_goto (tgt := 71) dX12_feed_43 (by decide) ?_
          by_cases z4 : i < 4
          · rw [if_pos z4] at key
            first | exact key | exact absurd h28 (nI_ge z4 (by decide))
          · rw [if_neg z4] at key
            by_cases z8 : i < 8
            · rw [if_pos z8] at key
              first | exact key | exact absurd (nI_le (show 4 ≤ i by omega) (by omega)) h28 | exact absurd h39 (nI_ge z8 (by decide))
            · rw [if_neg z8] at key
              by_cases z12 : i < 12
              · rw [if_pos z12] at key
                first | exact key | exact absurd (nI_le (show 4 ≤ i by omega) (by omega)) h28 | exact absurd (nI_le (show 8 ≤ i by omega) (by omega)) h39 | exact absurd h50 (nI_ge z12 (by decide))
              · rw [if_neg z12] at key
                by_cases z16 : i < 16
                · rw [if_pos z16] at key
                  first | exact key | exact absurd (nI_le (show 4 ≤ i by omega) (by omega)) h28 | exact absurd (nI_le (show 8 ≤ i by omega) (by omega)) h39 | exact absurd (nI_le (show 12 ≤ i by omega) (by omega)) h50 | exact absurd h61 (nI_ge z16 (by decide))
                · rw [if_neg z16] at key
                  first | exact key | exact absurd (nI_le (show 4 ≤ i by omega) (by omega)) h28 | exact absurd (nI_le (show 8 ≤ i by omega) (by omega)) h39 | exact absurd (nI_le (show 12 ≤ i by omega) (by omega)) h50 | exact absurd (nI_le (show 16 ≤ i by omega) (by omega)) h61
      · refine pw_iload_n dX12_feed_31 rfl ?_
        refine pw_goto (tgt := 71) dX12_feed_32 (by decide) ?_
        by_cases z4 : i < 4
        · rw [if_pos z4] at key
          first | exact key | exact absurd h28 (nI_ge z4 (by decide))
        · rw [if_neg z4] at key
          by_cases z8 : i < 8
          · rw [if_pos z8] at key
            first | exact key | exact absurd (nI_le (show 4 ≤ i by omega) (by omega)) h28 | exact absurd h39 (nI_ge z8 (by decide))
          · rw [if_neg z8] at key
            by_cases z12 : i < 12
            · rw [if_pos z12] at key
              first | exact key | exact absurd (nI_le (show 4 ≤ i by omega) (by omega)) h28 | exact absurd (nI_le (show 8 ≤ i by omega) (by omega)) h39 | exact absurd h50 (nI_ge z12 (by decide))
            · rw [if_neg z12] at key
              by_cases z16 : i < 16
              · rw [if_pos z16] at key
                first | exact key | exact absurd (nI_le (show 4 ≤ i by omega) (by omega)) h28 | exact absurd (nI_le (show 8 ≤ i by omega) (by omega)) h39 | exact absurd (nI_le (show 12 ≤ i by omega) (by omega)) h50 | exact absurd h61 (nI_ge z16 (by decide))
              · rw [if_neg z16] at key
                first | exact key | exact absurd (nI_le (show 4 ≤ i by omega) (by omega)) h28 | exact absurd (nI_le (show 8 ≤ i by omega) (by omega)) h39 | exact absurd (nI_le (show 12 ≤ i by omega) (by omega)) h50 | exact absurd (nI_le (show 16 ≤ i by omega) (by omega)) h61
theorem s_feed {dd al n : Nat} {σ : pm_S} (hS : pm_fix σ) (hn : qI σ 43 30 = nI n) (hn2 : n ≤ 600) (a b c d e : Int32) : PE dd al MX12_feed [.ref 43, .int a, .int b, .int c, .int d, .int e] σ (some (.int (if n + 20 ≤ 600 then nI (n + 20) else -1))) (if n + 20 ≤ 600 then m_fs σ n a b c d e 20 else σ) := by
  show PW _ _ _ _ _ _ _ _
  have hs : qI σ 43 30 + 20 = nI (n + 20) := by rw [hn, ← nI_add]; rfl
  refine pw_aload_n dX12_feed_0 rfl ?_
  refine pw_getI dX12_feed_1 flX12_155 rfl (hS.at rfl rfl rfl) ?_
  refine pw_bipush (v := 20) dX12_feed_4 (by decide) ?_
  refine pw_iadd dX12_feed_6 ?_
  refine pw_sipush (v := 600) dX12_feed_7 (by decide) ?_
  refine pw_icmp_le (tgt := 15) dX12_feed_10 (by decide) (fun h10 => ?_) (fun h10 => ?_)
  · refine pw_iconst (v := 0) dX12_feed_15 (by decide) ?_
    refine pw_istore dX12_feed_16 (Nat.le_of_ble_eq_true rfl) (Nat.le_of_ble_eq_true rfl) rfl ?_
    have hok : n + 20 ≤ 600 := by
      rw [hs] at h10
      exact (nI_leI (by omega) (by decide)).mp h10
    rw [if_pos hok, if_pos hok]
    exact s_feed_lp hS hn hok a b c d e 20 0 _ (Or.inl rfl) (by omega)
  · refine pw_iconst (v := (-1)) dX12_feed_13 (by decide) ?_
    refine pw_iret dX12_feed_14 rfl rfl ?_
    have hno : ¬ n + 20 ≤ 600 := fun z => h10 (by rw [hs]; exact nI_le z (by decide))
    exact ⟨by rw [if_neg hno], by rw [if_neg hno]⟩
def m_bt (v : Int32) : Nat → Int32
  | 0 => 0
  | k + 1 => m_bt v k + sb v (nI k)
theorem s_bits_lp {d al : Nat} {σ : pm_S} (v : Int32) : ∀ (k i : Nat), i + k = 20 → PW d al MX12_bits 4 [.int v, .int (m_bt v i), .int (nI i)] [] σ (fun r τ => r = some (.int (m_bt v 20)) ∧ τ = σ) := by
  intro k
  induction k with
  | zero =>
    intro i hi
    refine pw_iload_n dX12_bits_4 rfl ?_
    refine pw_bipush (v := 20) dX12_bits_5 (by decide) ?_
    refine pw_icmp_ge (tgt := 24) dX12_bits_7 (by decide) (fun h7 => ?_) (fun h7 => ?_)
    · refine pw_iload_n dX12_bits_24 rfl ?_
      refine pw_iret dX12_bits_25 rfl rfl ?_
      exact ⟨by rw [show i = 20 by omega], rfl⟩
    · exact absurd (by rw [show i = 20 by omega]; decide) h7
  | succ k ih =>
    intro i hi
    have hh := ih (i + 1) (by omega)
    have hu : m_bt v (i + 1) = m_bt v i + sb v (nI i) := rfl
    rw [hu, nI_succ i] at hh
    refine pw_iload_n dX12_bits_4 rfl ?_
    refine pw_bipush (v := 20) dX12_bits_5 (by decide) ?_
    refine pw_icmp_ge (tgt := 24) dX12_bits_7 (by decide) (fun h7 => ?_) (fun h7 => ?_)
    · exact absurd h7 (nI_ge (show i < 20 by omega) (by decide))
    · refine pw_iload_n dX12_bits_10 rfl ?_
      refine pw_iload_n dX12_bits_11 rfl ?_
      refine pw_iload_n dX12_bits_12 rfl ?_
      refine pw_ishr dX12_bits_13 ?_
      refine pw_iconst (v := 1) dX12_bits_14 (by decide) ?_
      refine pw_iand dX12_bits_15 ?_
      refine pw_iadd dX12_bits_16 ?_
      refine pw_istore_n dX12_bits_17 (Nat.le_of_ble_eq_true rfl) (Nat.le_of_ble_eq_true rfl) rfl ?_
      refine pw_iinc1 dX12_bits_18 rfl (Nat.le_of_ble_eq_true rfl) (Nat.le_of_ble_eq_true rfl) rfl ?_
      refine pw_goto (tgt := 4) dX12_bits_21 (by decide) ?_
      exact hh
theorem s_bits {d al : Nat} {σ : pm_S} (v : Int32) : PE d al MX12_bits [.int v] σ (some (.int (m_bt v 20))) σ := by
  show PW _ _ _ _ _ _ _ _
  refine pw_iconst (v := 0) dX12_bits_0 (by decide) ?_
  refine pw_istore_n dX12_bits_1 (Nat.le_of_ble_eq_true rfl) (Nat.le_of_ble_eq_true rfl) rfl ?_
  refine pw_iconst (v := 0) dX12_bits_2 (by decide) ?_
  refine pw_istore_n dX12_bits_3 (Nat.le_of_ble_eq_true rfl) (Nat.le_of_ble_eq_true rfl) rfl ?_
  exact s_bits_lp v 20 0 (by omega)
