/-! ===== the reference: owners and keepers on a day ===== -/
/-- the owner of a thing on a day, by the first e events -/
def m_ow (σ : pm_S) (t day o : Int32) : Nat → Int32
  | 0 => o
  | e + 1 => if qI σ 52 e = t ∧ qI σ 53 e = 0 ∧ qI σ 55 e ≤ day then qI σ 54 e else m_ow σ t day o e
theorem m_ow_s (σ : pm_S) (t day o : Int32) (e : Nat) : m_ow σ t day o (e + 1) = if qI σ 52 e = t ∧ qI σ 53 e = 0 ∧ qI σ 55 e ≤ day then qI σ 54 e else m_ow σ t day o e := rfl
theorem s_ownerOn_lp {d al n : Nat} {σ : pm_S} (hS : pm_fix σ) (hn : qI σ 43 2 = nI n) (hn2 : n ≤ 300) (t day o : Int32) : ∀ (k e : Nat), e + k = n → PW d al MX12_ownerOn 10 [.ref 43, .int t, .int day, .int (m_ow σ t day o e), .int (nI e)] [] σ (fun r τ => r = some (.int (m_ow σ t day o n)) ∧ τ = σ) := by
  intro k
  induction k with
  | zero =>
    intro e he
    refine pw_iload dX12_ownerOn_10 rfl ?_
    refine pw_aload_n dX12_ownerOn_12 rfl ?_
    refine pw_getI dX12_ownerOn_13 flX12_110 rfl (hS.at rfl rfl rfl) ?_
    refine pw_icmp_ge (tgt := 65) dX12_ownerOn_16 (by decide) (fun h16 => ?_) (fun h16 => ?_)
    · refine pw_iload_n dX12_ownerOn_65 rfl ?_
      refine pw_iret dX12_ownerOn_66 rfl rfl ?_
      exact ⟨by rw [show e = n by omega], rfl⟩
    · exact absurd (by rw [hn]; exact nI_le (by omega) (by omega)) h16
  | succ k ih =>
    intro e he
    have he2 : e < 300 := by omega
    have hh := ih (e + 1) (by omega)
    rw [m_ow_s, nI_succ] at hh
    refine pw_iload dX12_ownerOn_10 rfl ?_
    refine pw_aload_n dX12_ownerOn_12 rfl ?_
    refine pw_getI dX12_ownerOn_13 flX12_110 rfl (hS.at rfl rfl rfl) ?_
    refine pw_icmp_ge (tgt := 65) dX12_ownerOn_16 (by decide) (fun h16 => ?_) (fun h16 => ?_)
    · exact absurd (by rw [hn] at h16; exact h16) (nI_ge (show e < n by omega) (by omega))
    · refine pw_aload_n dX12_ownerOn_19 rfl ?_
      refine pw_getF (v := 52) dX12_ownerOn_20 flX12_34 rfl (hS.at rfl rfl rfl) (hS.rf (43, 12, 52) rfl (by decide)) ?_
      refine pw_iload dX12_ownerOn_23 rfl ?_
      refine pw_iald dX12_ownerOn_25 (hS.at rfl rfl rfl) rfl (hS.lt rfl rfl he2 rfl) (by omega) ?_
      refine pw_iload_n dX12_ownerOn_26 rfl ?_
      refine pw_icmp_ne (tgt := 59) dX12_ownerOn_27 (by decide) (fun h27 => ?_) (fun h27 => ?_)
      · refine pw_iinc1 dX12_ownerOn_59 rfl (Nat.le_of_ble_eq_true rfl) (Nat.le_of_ble_eq_true rfl) rfl ?_
        refine pw_goto (tgt := 10) dX12_ownerOn_62 (by decide) ?_
        first | (rw [if_neg (fun z => h27 z.1)] at hh; exact hh) | (rw [if_neg (fun z => h37 z.2.1)] at hh; exact hh) | (rw [if_neg (fun z => Int32.not_le.mpr h48 z.2.2)] at hh; exact hh) | (rw [if_pos ⟨h27, h37, Int32.not_lt.mp h48⟩] at hh; exact hh)
      · refine pw_aload_n dX12_ownerOn_30 rfl ?_
        refine pw_getF (v := 53) dX12_ownerOn_31 flX12_37 rfl (hS.at rfl rfl rfl) (hS.rf (43, 13, 53) rfl (by decide)) ?_
        refine pw_iload dX12_ownerOn_34 rfl ?_
        refine pw_iald dX12_ownerOn_36 (hS.at rfl rfl rfl) rfl (hS.lt rfl rfl he2 rfl) (by omega) ?_
        refine pw_if_ne (tgt := 59) dX12_ownerOn_37 (by decide) (fun h37 => ?_) (fun h37 => ?_)
        · refine pw_iinc1 dX12_ownerOn_59 rfl (Nat.le_of_ble_eq_true rfl) (Nat.le_of_ble_eq_true rfl) rfl ?_
          refine pw_goto (tgt := 10) dX12_ownerOn_62 (by decide) ?_
          first | (rw [if_neg (fun z => h27 z.1)] at hh; exact hh) | (rw [if_neg (fun z => h37 z.2.1)] at hh; exact hh) | (rw [if_neg (fun z => Int32.not_le.mpr h48 z.2.2)] at hh; exact hh) | (rw [if_pos ⟨h27, h37, Int32.not_lt.mp h48⟩] at hh; exact hh)
        · refine pw_aload_n dX12_ownerOn_40 rfl ?_
          refine pw_getF (v := 55) dX12_ownerOn_41 flX12_43 rfl (hS.at rfl rfl rfl) (hS.rf (43, 15, 55) rfl (by decide)) ?_
          refine pw_iload dX12_ownerOn_44 rfl ?_
          refine pw_iald dX12_ownerOn_46 (hS.at rfl rfl rfl) rfl (hS.lt rfl rfl he2 rfl) (by omega) ?_
          refine pw_iload_n dX12_ownerOn_47 rfl ?_
          refine pw_icmp_gt (tgt := 59) dX12_ownerOn_48 (by decide) (fun h48 => ?_) (fun h48 => ?_)
          · refine pw_iinc1 dX12_ownerOn_59 rfl (Nat.le_of_ble_eq_true rfl) (Nat.le_of_ble_eq_true rfl) rfl ?_
            refine pw_goto (tgt := 10) dX12_ownerOn_62 (by decide) ?_
            first | (rw [if_neg (fun z => h27 z.1)] at hh; exact hh) | (rw [if_neg (fun z => h37 z.2.1)] at hh; exact hh) | (rw [if_neg (fun z => Int32.not_le.mpr h48 z.2.2)] at hh; exact hh) | (rw [if_pos ⟨h27, h37, Int32.not_lt.mp h48⟩] at hh; exact hh)
          · refine pw_aload_n dX12_ownerOn_51 rfl ?_
            refine pw_getF (v := 54) dX12_ownerOn_52 flX12_40 rfl (hS.at rfl rfl rfl) (hS.rf (43, 14, 54) rfl (by decide)) ?_
            refine pw_iload dX12_ownerOn_55 rfl ?_
            refine pw_iald dX12_ownerOn_57 (hS.at rfl rfl rfl) rfl (hS.lt rfl rfl he2 rfl) (by omega) ?_
            refine pw_istore_n dX12_ownerOn_58 (Nat.le_of_ble_eq_true rfl) (Nat.le_of_ble_eq_true rfl) rfl ?_
            refine pw_iinc1 dX12_ownerOn_59 rfl (Nat.le_of_ble_eq_true rfl) (Nat.le_of_ble_eq_true rfl) rfl ?_
            refine pw_goto (tgt := 10) dX12_ownerOn_62 (by decide) ?_
            first | (rw [if_neg (fun z => h27 z.1)] at hh; exact hh) | (rw [if_neg (fun z => h37 z.2.1)] at hh; exact hh) | (rw [if_neg (fun z => Int32.not_le.mpr h48 z.2.2)] at hh; exact hh) | (rw [if_pos ⟨h27, h37, Int32.not_lt.mp h48⟩] at hh; exact hh)
theorem s_ownerOn {d al n m j : Nat} {σ : pm_S} (hS : pm_fix σ) (hn : qI σ 43 2 = nI n) (hn2 : n ≤ 300) (hj : j < 20) (day : Int32) : PE d al MX12_ownerOn [.ref 43, .int (nI j), .int day] σ (some (.int (m_ow σ (nI j) day (qI σ 50 j) n))) σ := by
  show PW _ _ _ _ _ _ _ _
  refine pw_aload_n dX12_ownerOn_0 rfl ?_
  refine pw_getF (v := 50) dX12_ownerOn_1 flX12_28 rfl (hS.at rfl rfl rfl) (hS.rf (43, 10, 50) rfl (by decide)) ?_
  refine pw_iload_n dX12_ownerOn_4 rfl ?_
  refine pw_iald dX12_ownerOn_5 (hS.at rfl rfl rfl) rfl (hS.lt rfl rfl hj rfl) (by omega) ?_
  refine pw_istore_n dX12_ownerOn_6 (Nat.le_of_ble_eq_true rfl) (Nat.le_of_ble_eq_true rfl) rfl ?_
  refine pw_iconst (v := 0) dX12_ownerOn_7 (by decide) ?_
  refine pw_istore dX12_ownerOn_8 (Nat.le_of_ble_eq_true rfl) (Nat.le_of_ble_eq_true rfl) rfl ?_
  exact s_ownerOn_lp hS hn hn2 (nI j) day (qI σ 50 j) n 0 (by omega)
/-- to whom a thing is lent on a day -/
def m_le (σ : pm_S) (t day : Int32) : Nat → Int32
  | 0 => -1
  | e + 1 => if qI σ 52 e = t ∧ (1 ≤ qI σ 53 e ∧ qI σ 53 e ≤ 2) ∧ qI σ 55 e ≤ day then (if qI σ 53 e = 1 then qI σ 54 e else -1) else m_le σ t day e
theorem m_le_s (σ : pm_S) (t day : Int32) (e : Nat) : m_le σ t day (e + 1) = if qI σ 52 e = t ∧ (1 ≤ qI σ 53 e ∧ qI σ 53 e ≤ 2) ∧ qI σ 55 e ≤ day then (if qI σ 53 e = 1 then qI σ 54 e else -1) else m_le σ t day e := rfl
theorem s_lentOn_lp {d al n : Nat} {σ : pm_S} (hd : 1 ≤ d) (hS : pm_fix σ) (hn : qI σ 43 2 = nI n) (hn2 : n ≤ 300) (t day : Int32) : ∀ (k e : Nat), e + k = n → PW d al MX12_lentOn 5 [.ref 43, .int t, .int day, .int (m_le σ t day e), .int (nI e)] [] σ (fun r τ => r = some (.int (m_le σ t day n)) ∧ τ = σ) := by
  intro k
  induction k with
  | zero =>
    intro e he
    refine pw_iload dX12_lentOn_5 rfl ?_
    refine pw_aload_n dX12_lentOn_7 rfl ?_
    refine pw_getI dX12_lentOn_8 flX12_110 rfl (hS.at rfl rfl rfl) ?_
    refine pw_icmp_ge (tgt := 80) dX12_lentOn_11 (by decide) (fun h11 => ?_) (fun h11 => ?_)
    · refine pw_iload_n dX12_lentOn_80 rfl ?_
      refine pw_iret dX12_lentOn_81 rfl rfl ?_
      exact ⟨by rw [show e = n by omega], rfl⟩
    · exact absurd (by rw [hn]; exact nI_le (by omega) (by omega)) h11
  | succ k ih =>
    intro e he
    have he2 : e < 300 := by omega
    have hh := ih (e + 1) (by omega)
    rw [m_le_s, nI_succ] at hh
    refine pw_iload dX12_lentOn_5 rfl ?_
    refine pw_aload_n dX12_lentOn_7 rfl ?_
    refine pw_getI dX12_lentOn_8 flX12_110 rfl (hS.at rfl rfl rfl) ?_
    refine pw_icmp_ge (tgt := 80) dX12_lentOn_11 (by decide) (fun h11 => ?_) (fun h11 => ?_)
    · exact absurd (by rw [hn] at h11; exact h11) (nI_ge (show e < n by omega) (by omega))
    · refine pw_aload_n dX12_lentOn_14 rfl ?_
      refine pw_getF (v := 52) dX12_lentOn_15 flX12_34 rfl (hS.at rfl rfl rfl) (hS.rf (43, 12, 52) rfl (by decide)) ?_
      refine pw_iload dX12_lentOn_18 rfl ?_
      refine pw_iald dX12_lentOn_20 (hS.at rfl rfl rfl) rfl (hS.lt rfl rfl he2 rfl) (by omega) ?_
      refine pw_iload_n dX12_lentOn_21 rfl ?_
      refine pw_icmp_ne (tgt := 74) dX12_lentOn_22 (by decide) (fun h22 => ?_) (fun h22 => ?_)
      · refine pw_iinc1 dX12_lentOn_74 rfl (Nat.le_of_ble_eq_true rfl) (Nat.le_of_ble_eq_true rfl) rfl ?_
        refine pw_goto (tgt := 5) dX12_lentOn_77 (by decide) ?_
        first | (rw [if_neg (fun z => h22 z.1)] at hh; exact hh) | (rw [if_neg (fun z => bI_0.mp h37 z.2.1)] at hh; exact hh) | (rw [if_neg (fun z => Int32.not_le.mpr h48 z.2.2)] at hh; exact hh) | (rw [if_pos ⟨h22, bI_n.mp h37, Int32.not_lt.mp h48⟩, if_pos h59] at hh; exact hh) | (rw [if_pos ⟨h22, bI_n.mp h37, Int32.not_lt.mp h48⟩, if_neg h59] at hh; exact hh)
      · refine pw_aload_n dX12_lentOn_25 rfl ?_
        refine pw_getF (v := 53) dX12_lentOn_26 flX12_37 rfl (hS.at rfl rfl rfl) (hS.rf (43, 13, 53) rfl (by decide)) ?_
        refine pw_iload dX12_lentOn_29 rfl ?_
        refine pw_iald dX12_lentOn_31 (hS.at rfl rfl rfl) rfl (hS.lt rfl rfl he2 rfl) (by omega) ?_
        refine pw_iconst (v := 1) dX12_lentOn_32 (by decide) ?_
        refine pw_iconst (v := 2) dX12_lentOn_33 (by decide) ?_
        refine pw_cS3 (d1 := d - 1) (a1 := 0) (a2 := al) dX12_lentOn_34 mtX12_isIn stX12_isIn mlX12_86 (Nat.le_of_ble_eq_true rfl) (Nat.le_of_ble_eq_true rfl) (by omega) (by omega) (s_isIn _ _ _) ?_
        rintro r_ τ_ ⟨hr_, ht_⟩; subst r_; subst τ_
        refine pw_if_eq (tgt := 74) dX12_lentOn_37 (by decide) (fun h37 => ?_) (fun h37 => ?_)
        · refine pw_iinc1 dX12_lentOn_74 rfl (Nat.le_of_ble_eq_true rfl) (Nat.le_of_ble_eq_true rfl) rfl ?_
          refine pw_goto (tgt := 5) dX12_lentOn_77 (by decide) ?_
          first | (rw [if_neg (fun z => h22 z.1)] at hh; exact hh) | (rw [if_neg (fun z => bI_0.mp h37 z.2.1)] at hh; exact hh) | (rw [if_neg (fun z => Int32.not_le.mpr h48 z.2.2)] at hh; exact hh) | (rw [if_pos ⟨h22, bI_n.mp h37, Int32.not_lt.mp h48⟩, if_pos h59] at hh; exact hh) | (rw [if_pos ⟨h22, bI_n.mp h37, Int32.not_lt.mp h48⟩, if_neg h59] at hh; exact hh)
        · refine pw_aload_n dX12_lentOn_40 rfl ?_
          refine pw_getF (v := 55) dX12_lentOn_41 flX12_43 rfl (hS.at rfl rfl rfl) (hS.rf (43, 15, 55) rfl (by decide)) ?_
          refine pw_iload dX12_lentOn_44 rfl ?_
          refine pw_iald dX12_lentOn_46 (hS.at rfl rfl rfl) rfl (hS.lt rfl rfl he2 rfl) (by omega) ?_
          refine pw_iload_n dX12_lentOn_47 rfl ?_
          refine pw_icmp_gt (tgt := 74) dX12_lentOn_48 (by decide) (fun h48 => ?_) (fun h48 => ?_)
          · refine pw_iinc1 dX12_lentOn_74 rfl (Nat.le_of_ble_eq_true rfl) (Nat.le_of_ble_eq_true rfl) rfl ?_
            refine pw_goto (tgt := 5) dX12_lentOn_77 (by decide) ?_
            first | (rw [if_neg (fun z => h22 z.1)] at hh; exact hh) | (rw [if_neg (fun z => bI_0.mp h37 z.2.1)] at hh; exact hh) | (rw [if_neg (fun z => Int32.not_le.mpr h48 z.2.2)] at hh; exact hh) | (rw [if_pos ⟨h22, bI_n.mp h37, Int32.not_lt.mp h48⟩, if_pos h59] at hh; exact hh) | (rw [if_pos ⟨h22, bI_n.mp h37, Int32.not_lt.mp h48⟩, if_neg h59] at hh; exact hh)
          · refine pw_aload_n dX12_lentOn_51 rfl ?_
            refine pw_getF (v := 53) dX12_lentOn_52 flX12_37 rfl (hS.at rfl rfl rfl) (hS.rf (43, 13, 53) rfl (by decide)) ?_
            refine pw_iload dX12_lentOn_55 rfl ?_
            refine pw_iald dX12_lentOn_57 (hS.at rfl rfl rfl) rfl (hS.lt rfl rfl he2 rfl) (by omega) ?_
            refine pw_iconst (v := 1) dX12_lentOn_58 (by decide) ?_
            refine pw_icmp_ne (tgt := 72) dX12_lentOn_59 (by decide) (fun h59 => ?_) (fun h59 => ?_)
            · refine pw_iconst (v := (-1)) dX12_lentOn_72 (by decide) ?_
              refine pw_istore_n dX12_lentOn_73 (Nat.le_of_ble_eq_true rfl) (Nat.le_of_ble_eq_true rfl) rfl ?_
              refine pw_iinc1 dX12_lentOn_74 rfl (Nat.le_of_ble_eq_true rfl) (Nat.le_of_ble_eq_true rfl) rfl ?_
              refine pw_goto (tgt := 5) dX12_lentOn_77 (by decide) ?_
              first | (rw [if_neg (fun z => h22 z.1)] at hh; exact hh) | (rw [if_neg (fun z => bI_0.mp h37 z.2.1)] at hh; exact hh) | (rw [if_neg (fun z => Int32.not_le.mpr h48 z.2.2)] at hh; exact hh) | (rw [if_pos ⟨h22, bI_n.mp h37, Int32.not_lt.mp h48⟩, if_pos h59] at hh; exact hh) | (rw [if_pos ⟨h22, bI_n.mp h37, Int32.not_lt.mp h48⟩, if_neg h59] at hh; exact hh)
            · refine pw_aload_n dX12_lentOn_62 rfl ?_
              refine pw_getF (v := 54) dX12_lentOn_63 flX12_40 rfl (hS.at rfl rfl rfl) (hS.rf (43, 14, 54) rfl (by decide)) ?_
              refine pw_iload dX12_lentOn_66 rfl ?_
              refine pw_iald dX12_lentOn_68 (hS.at rfl rfl rfl) rfl (hS.lt rfl rfl he2 rfl) (by omega) ?_
              refine pw_goto (tgt := 73) dX12_lentOn_69 (by decide) ?_
              refine pw_istore_n dX12_lentOn_73 (Nat.le_of_ble_eq_true rfl) (Nat.le_of_ble_eq_true rfl) rfl ?_
              refine pw_iinc1 dX12_lentOn_74 rfl (Nat.le_of_ble_eq_true rfl) (Nat.le_of_ble_eq_true rfl) rfl ?_
              refine pw_goto (tgt := 5) dX12_lentOn_77 (by decide) ?_
              first | (rw [if_neg (fun z => h22 z.1)] at hh; exact hh) | (rw [if_neg (fun z => bI_0.mp h37 z.2.1)] at hh; exact hh) | (rw [if_neg (fun z => Int32.not_le.mpr h48 z.2.2)] at hh; exact hh) | (rw [if_pos ⟨h22, bI_n.mp h37, Int32.not_lt.mp h48⟩, if_pos h59] at hh; exact hh) | (rw [if_pos ⟨h22, bI_n.mp h37, Int32.not_lt.mp h48⟩, if_neg h59] at hh; exact hh)
theorem s_lentOn {d al n : Nat} {σ : pm_S} (hd : 1 ≤ d) (hS : pm_fix σ) (hn : qI σ 43 2 = nI n) (hn2 : n ≤ 300) (t day : Int32) : PE d al MX12_lentOn [.ref 43, .int t, .int day] σ (some (.int (m_le σ t day n))) σ := by
  show PW _ _ _ _ _ _ _ _
  refine pw_iconst (v := (-1)) dX12_lentOn_0 (by decide) ?_
  refine pw_istore_n dX12_lentOn_1 (Nat.le_of_ble_eq_true rfl) (Nat.le_of_ble_eq_true rfl) rfl ?_
  refine pw_iconst (v := 0) dX12_lentOn_2 (by decide) ?_
  refine pw_istore dX12_lentOn_3 (Nat.le_of_ble_eq_true rfl) (Nat.le_of_ble_eq_true rfl) rfl ?_
  exact s_lentOn_lp hd hS hn hn2 t day n 0 (by omega)
/-- who keeps it -/
def m_ke (σ : pm_S) (n j : Nat) (day : Int32) : Int32 := if m_le σ (nI j) day n = -1 then m_ow σ (nI j) day (qI σ 50 j) n else m_le σ (nI j) day n
theorem s_keptOn {d al n j : Nat} {σ : pm_S} (hd : 2 ≤ d) (hS : pm_fix σ) (hn : qI σ 43 2 = nI n) (hn2 : n ≤ 300) (hj : j < 20) (day : Int32) : PE d al MX12_keptOn [.ref 43, .int (nI j), .int day] σ (some (.int (m_ke σ n j day))) σ := by
  show PW _ _ _ _ _ _ _ _
  refine pw_aload_n dX12_keptOn_0 rfl ?_
  refine pw_iload_n dX12_keptOn_1 rfl ?_
  refine pw_iload_n dX12_keptOn_2 rfl ?_
  refine pw_cV2 (d1 := d - 1) (a1 := 0) (a2 := al) dX12_keptOn_3 mtX12_lentOn ivX12_lentOn mlX12_113 (Nat.le_of_ble_eq_true rfl) (Nat.le_of_ble_eq_true rfl) (by omega) (by omega) (hS.at rfl rfl rfl) rfl rfl (s_lentOn (by omega) hS hn hn2 _ _) ?_
  rintro r_ τ_ ⟨hr_, ht_⟩; subst r_; subst τ_
  refine pw_istore_n dX12_keptOn_6 (Nat.le_of_ble_eq_true rfl) (Nat.le_of_ble_eq_true rfl) rfl ?_
  refine pw_iload_n dX12_keptOn_7 rfl ?_
  refine pw_iconst (v := (-1)) dX12_keptOn_8 (by decide) ?_
  refine pw_icmp_ne (tgt := 21) dX12_keptOn_9 (by decide) (fun h9 => ?_) (fun h9 => ?_)
  · refine pw_iload_n dX12_keptOn_21 rfl ?_
    refine pw_iret dX12_keptOn_22 rfl rfl ?_
    refine ⟨?_, rfl⟩
    unfold m_ke
    first | rw [if_pos h9] | rw [if_neg h9]
  · refine pw_aload_n dX12_keptOn_12 rfl ?_
    refine pw_iload_n dX12_keptOn_13 rfl ?_
    refine pw_iload_n dX12_keptOn_14 rfl ?_
    refine pw_cV2 (d1 := d - 1) (a1 := 0) (a2 := al) dX12_keptOn_15 mtX12_ownerOn ivX12_ownerOn mlX12_117 (Nat.le_of_ble_eq_true rfl) (Nat.le_of_ble_eq_true rfl) (by omega) (by omega) (hS.at rfl rfl rfl) rfl rfl (s_ownerOn (m := 0) hS hn hn2 hj _) ?_
    rintro r_ τ_ ⟨hr_, ht_⟩; subst r_; subst τ_
    refine pw_goto (tgt := 22) dX12_keptOn_18 (by decide) ?_
    refine pw_iret dX12_keptOn_22 rfl rfl ?_
    refine ⟨?_, rfl⟩
    unfold m_ke
    first | rw [if_pos h9] | rw [if_neg h9]
/-- an event: the state behind it -/
def m_hap (σ : pm_S) (e : Nat) (t what house : Int32) : pm_S := pm_sI (pm_sI (pm_sI (pm_sI (pm_sI σ 52 e t) 53 e what) 54 e house) 55 e (qI σ 43 0)) 43 2 (qI σ 43 2 + 1)
theorem s_happens {d al n : Nat} {σ : pm_S} (hS : pm_fix σ) (hn : qI σ 43 2 = nI n) (hn2 : n ≤ 300) (t what house : Int32) : PE d al MX12_happens [.ref 43, .int t, .int what, .int house] σ (some (.int (bI (n ≠ 300)))) (if n ≠ 300 then m_hap σ n t what house else σ) := by
  show PW _ _ _ _ _ _ _ _
  refine pw_aload_n dX12_happens_0 rfl ?_
  refine pw_getI dX12_happens_1 flX12_110 rfl (hS.at rfl rfl rfl) ?_
  refine pw_sipush (v := 300) dX12_happens_4 (by decide) ?_
  refine pw_icmp_ne (tgt := 12) dX12_happens_7 (by decide) (fun h7 => ?_) (fun h7 => ?_)
  · have hne : n ≠ 300 := fun z => h7 (by rw [hn, z]; rfl)
    have hn3 : n < 300 := by omega
    refine pw_aload_n dX12_happens_12 rfl ?_
    refine pw_getF (v := 52) dX12_happens_13 flX12_34 rfl (hS.at rfl rfl rfl) (hS.rf (43, 12, 52) rfl (by decide)) ?_
    refine pw_aload_n dX12_happens_16 rfl ?_
    refine pw_getI dX12_happens_17 flX12_110 rfl (hS.at rfl rfl rfl) ?_
    refine pw_iload_n dX12_happens_20 rfl ?_
    refine pw_iast dX12_happens_21 (hS.at rfl rfl rfl) (by decide) hn (hS.lt rfl rfl hn3 rfl) (by omega) ?_
    refine pw_aload_n dX12_happens_22 rfl ?_
    refine pw_getF (v := 53) dX12_happens_23 flX12_37 rfl (hS.at rfl rfl rfl) (hS.rf (43, 13, 53) rfl (by decide)) ?_
    refine pw_aload_n dX12_happens_26 rfl ?_
    refine pw_getI dX12_happens_27 flX12_110 rfl (hS.at rfl rfl rfl) ?_
    refine pw_iload_n dX12_happens_30 rfl ?_
    refine pw_iast dX12_happens_31 (hS.at rfl rfl rfl) (by decide) hn (hS.lt rfl rfl hn3 rfl) (by omega) ?_
    refine pw_aload_n dX12_happens_32 rfl ?_
    refine pw_getF (v := 54) dX12_happens_33 flX12_40 rfl (hS.at rfl rfl rfl) (hS.rf (43, 14, 54) rfl (by decide)) ?_
    refine pw_aload_n dX12_happens_36 rfl ?_
    refine pw_getI dX12_happens_37 flX12_110 rfl (hS.at rfl rfl rfl) ?_
    refine pw_iload_n dX12_happens_40 rfl ?_
    refine pw_iast dX12_happens_41 (hS.at rfl rfl rfl) (by decide) hn (hS.lt rfl rfl hn3 rfl) (by omega) ?_
    refine pw_aload_n dX12_happens_42 rfl ?_
    refine pw_getF (v := 55) dX12_happens_43 flX12_43 rfl (hS.at rfl rfl rfl) (hS.rf (43, 15, 55) rfl (by decide)) ?_
    refine pw_aload_n dX12_happens_46 rfl ?_
    refine pw_getI dX12_happens_47 flX12_110 rfl (hS.at rfl rfl rfl) ?_
    refine pw_aload_n dX12_happens_50 rfl ?_
    refine pw_getI dX12_happens_51 flX12_97 rfl (hS.at rfl rfl rfl) ?_
    refine pw_iast dX12_happens_54 (hS.at rfl rfl rfl) (by decide) hn (hS.lt rfl rfl hn3 rfl) (by omega) ?_
    refine pw_aload_n dX12_happens_55 rfl ?_
    refine pw_dup dX12_happens_56 rfl ?_
    refine pw_getI dX12_happens_57 flX12_110 rfl (hS.at rfl rfl rfl) ?_
    refine pw_iconst (v := 1) dX12_happens_60 (by decide) ?_
    refine pw_iadd dX12_happens_61 ?_
    refine pw_putI dX12_happens_62 flX12_110 ⟨_, rfl, Or.inl rfl⟩ rfl (hS.at rfl rfl rfl) ?_
    refine pw_iconst (v := 1) dX12_happens_65 (by decide) ?_
    refine pw_iret dX12_happens_66 rfl (by first | rfl | exact bI_nar) ?_
    exact ⟨by rw [bI_t hne], by rw [if_pos hne]; rfl⟩
  · refine pw_iconst (v := 0) dX12_happens_10 (by decide) ?_
    refine pw_iret dX12_happens_11 rfl (by first | rfl | exact bI_nar) ?_
    have he : ¬ n ≠ 300 := fun z => z (nI_inj (by omega) (by omega) (hn.symm.trans h7))
    exact ⟨by rw [bI_f he], by rw [if_neg he]⟩
