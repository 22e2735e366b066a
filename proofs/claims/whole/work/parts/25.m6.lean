/-! ===== the reference: of, held, owners ===== -/
def m_of (σ : pm_S) (n e : Nat) (t what : Int32) : Int32 := if tOk n t then (if what = 0 then qI σ 44 t.toNatClampNeg else if what = 1 then qI σ 45 t.toNatClampNeg else if what = 2 then qI σ 46 t.toNatClampNeg else if what = 3 then qI σ 47 t.toNatClampNeg else if what = 4 then qI σ 48 t.toNatClampNeg else if what = 5 then qI σ 49 t.toNatClampNeg else if what = 6 then nI (m_rt σ 20 t.toNatClampNeg) else if what = 7 then bI (qI σ 51 t.toNatClampNeg = -1) else if what = 8 then bI (inDb σ n e t.toNatClampNeg) else -1) else -1
theorem s_of {d al n e : Nat} {σ : pm_S} (hd : 5 ≤ d) (hS : pm_fix σ) (hn : qI σ 43 1 = nI n) (hn2 : n ≤ 20) (he : qI σ 43 2 = nI e) (he2 : e ≤ 300) (hC : m_cp σ n) (t what : Int32) : PE d al MX12_of [.ref 43, .int t, .int what] σ (some (.int (m_of σ n e t what))) σ := by
  show PW _ _ _ _ _ _ _ _
  refine pw_aload_n dX12_of_0 rfl ?_
  refine pw_iload_n dX12_of_1 rfl ?_
  refine pw_cV1 (d1 := d - 1) (a1 := 0) (a2 := al) dX12_of_2 mtX12_isThing ivX12_isThing mlX12_93 (Nat.le_of_ble_eq_true rfl) (Nat.le_of_ble_eq_true rfl) (by omega) (by omega) (hS.at rfl rfl rfl) rfl rfl (s_isThing (by omega) hS _) ?_
  rintro r_ τ_ ⟨hr_, ht_⟩; subst r_; subst τ_
  refine pw_if_ne (tgt := 10) dX12_of_5 (by decide) (fun h5 => ?_) (fun h5 => ?_)
  · rw [hn] at h5
    obtain ⟨j, hj, rfl⟩ := (tOk_iff (by omega)).mp (bI_n.mp h5)
    have hj3 : j < 20 := by omega
    have hcl : (nI j).toNatClampNeg = j := nI_clamp (by omega)
    unfold m_of
    rw [if_pos (tOk_nI hj (by omega)), hcl]
    refine pw_iload_n dX12_of_10 rfl ?_
    by_cases w11_0 : what = 0
    · rw [w11_0]
      refine pw_tsIn (off := 49) (tgt := 60) dX12_of_11 (by decide) (by decide) (by decide) (by decide) ?_
      refine pw_aload_n dX12_of_60 rfl ?_
      refine pw_getF (v := 44) dX12_of_61 flX12_7 rfl (hS.at rfl rfl rfl) (hS.rf (43, 4, 44) rfl (by decide)) ?_
      refine pw_iload_n dX12_of_64 rfl ?_
      refine pw_iald dX12_of_65 (hS.at rfl rfl rfl) rfl (hS.lt rfl rfl hj3 rfl) (by omega) ?_
      refine pw_iret dX12_of_66 rfl rfl ?_
      exact ⟨rfl, rfl⟩
    by_cases w11_1 : what = 1
    · rw [w11_1]
      refine pw_tsIn (off := 56) (tgt := 67) dX12_of_11 (by decide) (by decide) (by decide) (by decide) ?_
      refine pw_aload_n dX12_of_67 rfl ?_
      refine pw_getF (v := 45) dX12_of_68 flX12_13 rfl (hS.at rfl rfl rfl) (hS.rf (43, 5, 45) rfl (by decide)) ?_
      refine pw_iload_n dX12_of_71 rfl ?_
      refine pw_iald dX12_of_72 (hS.at rfl rfl rfl) rfl (hS.lt rfl rfl hj3 rfl) (by omega) ?_
      refine pw_iret dX12_of_73 rfl rfl ?_
      exact ⟨rfl, rfl⟩
    by_cases w11_2 : what = 2
    · rw [w11_2]
      refine pw_tsIn (off := 63) (tgt := 74) dX12_of_11 (by decide) (by decide) (by decide) (by decide) ?_
      refine pw_aload_n dX12_of_74 rfl ?_
      refine pw_getF (v := 46) dX12_of_75 flX12_16 rfl (hS.at rfl rfl rfl) (hS.rf (43, 6, 46) rfl (by decide)) ?_
      refine pw_iload_n dX12_of_78 rfl ?_
      refine pw_iald dX12_of_79 (hS.at rfl rfl rfl) rfl (hS.lt rfl rfl hj3 rfl) (by omega) ?_
      refine pw_iret dX12_of_80 rfl rfl ?_
      exact ⟨rfl, rfl⟩
    by_cases w11_3 : what = 3
    · rw [w11_3]
      refine pw_tsIn (off := 70) (tgt := 81) dX12_of_11 (by decide) (by decide) (by decide) (by decide) ?_
      refine pw_aload_n dX12_of_81 rfl ?_
      refine pw_getF (v := 47) dX12_of_82 flX12_19 rfl (hS.at rfl rfl rfl) (hS.rf (43, 7, 47) rfl (by decide)) ?_
      refine pw_iload_n dX12_of_85 rfl ?_
      refine pw_iald dX12_of_86 (hS.at rfl rfl rfl) rfl (hS.lt rfl rfl hj3 rfl) (by omega) ?_
      refine pw_iret dX12_of_87 rfl rfl ?_
      exact ⟨rfl, rfl⟩
    by_cases w11_4 : what = 4
    · rw [w11_4]
      refine pw_tsIn (off := 77) (tgt := 88) dX12_of_11 (by decide) (by decide) (by decide) (by decide) ?_
      refine pw_aload_n dX12_of_88 rfl ?_
      refine pw_getF (v := 48) dX12_of_89 flX12_22 rfl (hS.at rfl rfl rfl) (hS.rf (43, 8, 48) rfl (by decide)) ?_
      refine pw_iload_n dX12_of_92 rfl ?_
      refine pw_iald dX12_of_93 (hS.at rfl rfl rfl) rfl (hS.lt rfl rfl hj3 rfl) (by omega) ?_
      refine pw_iret dX12_of_94 rfl rfl ?_
      exact ⟨rfl, rfl⟩
    by_cases w11_5 : what = 5
    · rw [w11_5]
      refine pw_tsIn (off := 84) (tgt := 95) dX12_of_11 (by decide) (by decide) (by decide) (by decide) ?_
      refine pw_aload_n dX12_of_95 rfl ?_
      refine pw_getF (v := 49) dX12_of_96 flX12_25 rfl (hS.at rfl rfl rfl) (hS.rf (43, 9, 49) rfl (by decide)) ?_
      refine pw_iload_n dX12_of_99 rfl ?_
      refine pw_iald dX12_of_100 (hS.at rfl rfl rfl) rfl (hS.lt rfl rfl hj3 rfl) (by omega) ?_
      refine pw_iret dX12_of_101 rfl rfl ?_
      exact ⟨rfl, rfl⟩
    by_cases w11_6 : what = 6
    · rw [w11_6]
      refine pw_tsIn (off := 91) (tgt := 102) dX12_of_11 (by decide) (by decide) (by decide) (by decide) ?_
      refine pw_aload_n dX12_of_102 rfl ?_
      refine pw_iload_n dX12_of_103 rfl ?_
      refine pw_cV1 (d1 := d - 1) (a1 := 0) (a2 := al) dX12_of_104 mtX12_rootOf ivX12_rootOf mlX12_123 (Nat.le_of_ble_eq_true rfl) (Nat.le_of_ble_eq_true rfl) (by omega) (by omega) (hS.at rfl rfl rfl) rfl rfl (s_rootOf hS hC hn2 hj rfl) ?_
      rintro r_ τ_ ⟨hr_, ht_⟩; subst r_; subst τ_
      refine pw_iret dX12_of_107 rfl rfl ?_
      exact ⟨rfl, rfl⟩
    by_cases w11_7 : what = 7
    · rw [w11_7]
      refine pw_tsIn (off := 97) (tgt := 108) dX12_of_11 (by decide) (by decide) (by decide) (by decide) ?_
      refine pw_aload_n dX12_of_108 rfl ?_
      refine pw_iload_n dX12_of_109 rfl ?_
      refine pw_cV1 (d1 := d - 1) (a1 := 0) (a2 := al) dX12_of_110 mtX12_isThere ivX12_isThere mlX12_107 (Nat.le_of_ble_eq_true rfl) (Nat.le_of_ble_eq_true rfl) (by omega) (by omega) (hS.at rfl rfl rfl) rfl rfl (s_isThere (by omega) hS hn hn2 _) ?_
      rintro r_ τ_ ⟨hr_, ht_⟩; subst r_; subst τ_
      refine pw_if_eq (tgt := 120) dX12_of_113 (by decide) (fun h113 => ?_) (fun h113 => ?_)
      · refine pw_iconst (v := 0) dX12_of_120 (by decide) ?_
        refine pw_iret dX12_of_121 rfl rfl ?_
        refine ⟨?_, rfl⟩
        by_cases hq : qI σ 51 j = -1
        · first | (exact absurd (show _ ∧ _ from ⟨tOk_nI hj (by omega), by rw [hcl]; exact hq⟩) (bI_0.mp h113)) | (rw [bI_t hq]; rfl)
        · first | (exact absurd (by have z := (bI_n.mp h113).2; rw [hcl] at z; exact z) hq) | (rw [bI_f hq]; rfl)
      · refine pw_iconst (v := 1) dX12_of_116 (by decide) ?_
        refine pw_goto (tgt := 121) dX12_of_117 (by decide) ?_
        refine pw_iret dX12_of_121 rfl rfl ?_
        refine ⟨?_, rfl⟩
        by_cases hq : qI σ 51 j = -1
        · first | (exact absurd (show _ ∧ _ from ⟨tOk_nI hj (by omega), by rw [hcl]; exact hq⟩) (bI_0.mp h113)) | (rw [bI_t hq]; rfl)
        · first | (exact absurd (by have z := (bI_n.mp h113).2; rw [hcl] at z; exact z) hq) | (rw [bI_f hq]; rfl)
    by_cases w11_8 : what = 8
    · rw [w11_8]
      refine pw_tsIn (off := 111) (tgt := 122) dX12_of_11 (by decide) (by decide) (by decide) (by decide) ?_
      refine pw_aload_n dX12_of_122 rfl ?_
      refine pw_iload_n dX12_of_123 rfl ?_
      refine pw_cV1 (d1 := d - 1) (a1 := 0) (a2 := al) dX12_of_124 mtX12_isDoubtful ivX12_isDoubtful mlX12_136 (Nat.le_of_ble_eq_true rfl) (Nat.le_of_ble_eq_true rfl) (by omega) (by omega) (hS.at rfl rfl rfl) rfl rfl (s_isDoubtful (by omega) hS hn hn2 he he2 hC hj) ?_
      rintro r_ τ_ ⟨hr_, ht_⟩; subst r_; subst τ_
      refine pw_if_eq (tgt := 134) dX12_of_127 (by decide) (fun h127 => ?_) (fun h127 => ?_)
      · refine pw_iconst (v := 0) dX12_of_134 (by decide) ?_
        refine pw_iret dX12_of_135 rfl rfl ?_
        refine ⟨?_, rfl⟩
        by_cases hq : inDb σ n e j
        · first | (exact absurd hq (bI_0.mp h127)) | (rw [bI_t hq]; rfl)
        · first | (exact absurd (bI_n.mp h127) hq) | (rw [bI_f hq]; rfl)
      · refine pw_iconst (v := 1) dX12_of_130 (by decide) ?_
        refine pw_goto (tgt := 135) dX12_of_131 (by decide) ?_
        refine pw_iret dX12_of_135 rfl rfl ?_
        refine ⟨?_, rfl⟩
        by_cases hq : inDb σ n e j
        · first | (exact absurd hq (bI_0.mp h127)) | (rw [bI_t hq]; rfl)
        · first | (exact absurd (bI_n.mp h127) hq) | (rw [bI_f hq]; rfl)
    refine pw_tsOut (tgt := 136) dX12_of_11 (by have a0 := sw_ne w11_0 (z := 0) rfl; have a1 := sw_ne w11_1 (z := 1) rfl; have a2 := sw_ne w11_2 (z := 2) rfl; have a3 := sw_ne w11_3 (z := 3) rfl; have a4 := sw_ne w11_4 (z := 4) rfl; have a5 := sw_ne w11_5 (z := 5) rfl; have a6 := sw_ne w11_6 (z := 6) rfl; have a7 := sw_ne w11_7 (z := 7) rfl; have a8 := sw_ne w11_8 (z := 8) rfl; omega) (by decide) ?_
    refine pw_iconst (v := (-1)) dX12_of_136 (by decide) ?_
    refine pw_iret dX12_of_137 rfl rfl ?_
    refine ⟨?_, rfl⟩
    rw [if_neg w11_0, if_neg w11_1, if_neg w11_2, if_neg w11_3, if_neg w11_4, if_neg w11_5, if_neg w11_6, if_neg w11_7, if_neg w11_8]
  · refine pw_iconst (v := (-1)) dX12_of_8 (by decide) ?_
    refine pw_iret dX12_of_9 rfl rfl ?_
    rw [hn] at h5
    exact ⟨by unfold m_of; rw [if_neg (bI_0.mp h5)], rfl⟩
abbrev okHeld (σ : pm_S) (n : Nat) (t day what : Int32) : Prop := tOk n t ∧ (qI σ 48 t.toNatClampNeg ≤ day ∧ day ≤ qI σ 43 0) ∧ (qI σ 51 t.toNatClampNeg ≠ -1 → ¬ qI σ 51 t.toNatClampNeg ≤ day) ∧ (0 ≤ what ∧ what ≤ 1)
def m_held (σ : pm_S) (n e : Nat) (t day what : Int32) : Int32 := if okHeld σ n t day what then (if what = 0 then m_ow σ t day (qI σ 50 t.toNatClampNeg) e else m_ke σ e t.toNatClampNeg day) else -1
theorem s_held {d al n e : Nat} {σ : pm_S} (hd : 3 ≤ d) (hS : pm_fix σ) (hn : qI σ 43 1 = nI n) (hn2 : n ≤ 20) (he : qI σ 43 2 = nI e) (he2 : e ≤ 300) (t day what : Int32) : PE d al MX12_held [.ref 43, .int t, .int day, .int what] σ (some (.int (m_held σ n e t day what))) σ := by
  show PW _ _ _ _ _ _ _ _
  have hb : ∀ v : Int32, ¬ okHeld σ n t day what → v = -1 → (some (Value.int v) = some (Value.int (m_held σ n e t day what)) ∧ σ = σ) := fun v h1 h2 => ⟨by unfold m_held; rw [if_neg h1, h2], rfl⟩
  refine pw_aload_n dX12_held_0 rfl ?_
  refine pw_iload_n dX12_held_1 rfl ?_
  refine pw_cV1 (d1 := d - 1) (a1 := 0) (a2 := al) dX12_held_2 mtX12_isThing ivX12_isThing mlX12_93 (Nat.le_of_ble_eq_true rfl) (Nat.le_of_ble_eq_true rfl) (by omega) (by omega) (hS.at rfl rfl rfl) rfl rfl (s_isThing (by omega) hS _) ?_
  rintro r_ τ_ ⟨hr_, ht_⟩; subst r_; subst τ_
  refine pw_if_eq (tgt := 54) dX12_held_5 (by decide) (fun h5 => ?_) (fun h5 => ?_)
  · refine pw_iconst (v := (-1)) dX12_held_54 (by decide) ?_
    refine pw_iret dX12_held_55 rfl rfl ?_
    refine hb _ ?_ rfl
    first | (rw [hn] at h5; exact fun z => bI_0.mp h5 z.1) | (intro z; have z1 := z.2.1; have z2 := z.2.2.1; have z3 := z.2.2.2; rw [hcl] at z1 z2; first | exact bI_0.mp h22 z1 | exact z2 h32 h42 | exact bI_0.mp h51 z3)
  · rw [hn] at h5
    have ht : tOk n t := bI_n.mp h5
    obtain ⟨j, hj2, hj⟩ := (tOk_iff (by omega)).mp ht
    have hj3 : j < 20 := by omega
    have hcl : t.toNatClampNeg = j := by rw [hj]; exact nI_clamp (by omega)
    refine pw_iload_n dX12_held_8 rfl ?_
    refine pw_aload_n dX12_held_9 rfl ?_
    refine pw_getF (v := 48) dX12_held_10 flX12_22 rfl (hS.at rfl rfl rfl) (hS.rf (43, 8, 48) rfl (by decide)) ?_
    refine pw_iload_n dX12_held_13 rfl ?_
    refine pw_iald dX12_held_14 (hS.at rfl rfl rfl) hj (hS.lt rfl rfl hj3 rfl) (by omega) ?_
    refine pw_aload_n dX12_held_15 rfl ?_
    refine pw_getI dX12_held_16 flX12_97 rfl (hS.at rfl rfl rfl) ?_
    refine pw_cS3 (d1 := d - 1) (a1 := 0) (a2 := al) dX12_held_19 mtX12_isIn stX12_isIn mlX12_86 (Nat.le_of_ble_eq_true rfl) (Nat.le_of_ble_eq_true rfl) (by omega) (by omega) (s_isIn _ _ _) ?_
    rintro r_ τ_ ⟨hr_, ht_⟩; subst r_; subst τ_
    refine pw_if_eq (tgt := 54) dX12_held_22 (by decide) (fun h22 => ?_) (fun h22 => ?_)
    · refine pw_iconst (v := (-1)) dX12_held_54 (by decide) ?_
      refine pw_iret dX12_held_55 rfl rfl ?_
      refine hb _ ?_ rfl
      first | (rw [hn] at h5; exact fun z => bI_0.mp h5 z.1) | (intro z; have z1 := z.2.1; have z2 := z.2.2.1; have z3 := z.2.2.2; rw [hcl] at z1 z2; first | exact bI_0.mp h22 z1 | exact z2 h32 h42 | exact bI_0.mp h51 z3)
    · refine pw_aload_n dX12_held_25 rfl ?_
      refine pw_getF (v := 51) dX12_held_26 flX12_31 rfl (hS.at rfl rfl rfl) (hS.rf (43, 11, 51) rfl (by decide)) ?_
      refine pw_iload_n dX12_held_29 rfl ?_
      refine pw_iald dX12_held_30 (hS.at rfl rfl rfl) hj (hS.lt rfl rfl hj3 rfl) (by omega) ?_
      refine pw_iconst (v := (-1)) dX12_held_31 (by decide) ?_
      refine pw_icmp_eq (tgt := 45) dX12_held_32 (by decide) (fun h32 => ?_) (fun h32 => ?_)
      · refine pw_iload_n dX12_held_45 rfl ?_
        refine pw_iconst (v := 0) dX12_held_46 (by decide) ?_
        refine pw_iconst (v := 1) dX12_held_47 (by decide) ?_
        refine pw_cS3 (d1 := d - 1) (a1 := 0) (a2 := al) dX12_held_48 mtX12_isIn stX12_isIn mlX12_86 (Nat.le_of_ble_eq_true rfl) (Nat.le_of_ble_eq_true rfl) (by omega) (by omega) (s_isIn _ _ _) ?_
        rintro r_ τ_ ⟨hr_, ht_⟩; subst r_; subst τ_
        refine pw_if_ne (tgt := 56) dX12_held_51 (by decide) (fun h51 => ?_) (fun h51 => ?_)
        · refine pw_iload_n dX12_held_56 rfl ?_
          refine pw_if_ne (tgt := 69) dX12_held_57 (by decide) (fun h57 => ?_) (fun h57 => ?_)
          · refine pw_aload_n dX12_held_69 rfl ?_
            refine pw_iload_n dX12_held_70 rfl ?_
            refine pw_iload_n dX12_held_71 rfl ?_
            refine pw_cV2 (d1 := d - 1) (a1 := 0) (a2 := al) dX12_held_72 mtX12_keptOn ivX12_keptOn mlX12_127 (Nat.le_of_ble_eq_true rfl) (Nat.le_of_ble_eq_true rfl) (by omega) (by omega) (hS.at rfl rfl rfl) rfl rfl (s_keptOn' (by omega) hS he he2 hn2 ht _) ?_
            rintro r_ τ_ ⟨hr_, ht_⟩; subst r_; subst τ_
            refine pw_iret dX12_held_75 rfl rfl ?_
            have hok : okHeld σ n t day what := by
              refine ⟨ht, ?_, ?_, bI_n.mp h51⟩
              · rw [hcl]; exact bI_n.mp h22
              · rw [hcl]
                first | exact fun z => absurd h32 z | exact fun _ => h42
            refine ⟨?_, rfl⟩
            unfold m_held
            rw [if_pos hok]
            first | rw [if_pos h57] | rw [if_neg h57]
          · refine pw_aload_n dX12_held_60 rfl ?_
            refine pw_iload_n dX12_held_61 rfl ?_
            refine pw_iload_n dX12_held_62 rfl ?_
            refine pw_cV2 (d1 := d - 1) (a1 := 0) (a2 := al) dX12_held_63 mtX12_ownerOn ivX12_ownerOn mlX12_117 (Nat.le_of_ble_eq_true rfl) (Nat.le_of_ble_eq_true rfl) (by omega) (by omega) (hS.at rfl rfl rfl) rfl rfl (s_ownerOn' hS he he2 hn2 ht _) ?_
            rintro r_ τ_ ⟨hr_, ht_⟩; subst r_; subst τ_
            refine pw_goto (tgt := 75) dX12_held_66 (by decide) ?_
            refine pw_iret dX12_held_75 rfl rfl ?_
            have hok : okHeld σ n t day what := by
              refine ⟨ht, ?_, ?_, bI_n.mp h51⟩
              · rw [hcl]; exact bI_n.mp h22
              · rw [hcl]
                first | exact fun z => absurd h32 z | exact fun _ => h42
            refine ⟨?_, rfl⟩
            unfold m_held
            rw [if_pos hok]
            first | rw [if_pos h57] | rw [if_neg h57]
        · refine pw_iconst (v := (-1)) dX12_held_54 (by decide) ?_
          refine pw_iret dX12_held_55 rfl rfl ?_
          refine hb _ ?_ rfl
          first | (rw [hn] at h5; exact fun z => bI_0.mp h5 z.1) | (intro z; have z1 := z.2.1; have z2 := z.2.2.1; have z3 := z.2.2.2; rw [hcl] at z1 z2; first | exact bI_0.mp h22 z1 | exact z2 h32 h42 | exact bI_0.mp h51 z3)
      · refine pw_iload_n dX12_held_35 rfl ?_
        refine pw_aload_n dX12_held_36 rfl ?_
        refine pw_getF (v := 51) dX12_held_37 flX12_31 rfl (hS.at rfl rfl rfl) (hS.rf (43, 11, 51) rfl (by decide)) ?_
        refine pw_iload_n dX12_held_40 rfl ?_
        refine pw_iald dX12_held_41 (hS.at rfl rfl rfl) hj (hS.lt rfl rfl hj3 rfl) (by omega) ?_
        refine pw_icmp_ge (tgt := 54) dX12_held_42 (by decide) (fun h42 => ?_) (fun h42 => ?_)
        · refine pw_iconst (v := (-1)) dX12_held_54 (by decide) ?_
          refine pw_iret dX12_held_55 rfl rfl ?_
          refine hb _ ?_ rfl
          first | (rw [hn] at h5; exact fun z => bI_0.mp h5 z.1) | (intro z; have z1 := z.2.1; have z2 := z.2.2.1; have z3 := z.2.2.2; rw [hcl] at z1 z2; first | exact bI_0.mp h22 z1 | exact z2 h32 h42 | exact bI_0.mp h51 z3)
        · refine pw_iload_n dX12_held_45 rfl ?_
          refine pw_iconst (v := 0) dX12_held_46 (by decide) ?_
          refine pw_iconst (v := 1) dX12_held_47 (by decide) ?_
          refine pw_cS3 (d1 := d - 1) (a1 := 0) (a2 := al) dX12_held_48 mtX12_isIn stX12_isIn mlX12_86 (Nat.le_of_ble_eq_true rfl) (Nat.le_of_ble_eq_true rfl) (by omega) (by omega) (s_isIn _ _ _) ?_
          rintro r_ τ_ ⟨hr_, ht_⟩; subst r_; subst τ_
          refine pw_if_ne (tgt := 56) dX12_held_51 (by decide) (fun h51 => ?_) (fun h51 => ?_)
          · refine pw_iload_n dX12_held_56 rfl ?_
            refine pw_if_ne (tgt := 69) dX12_held_57 (by decide) (fun h57 => ?_) (fun h57 => ?_)
            · refine pw_aload_n dX12_held_69 rfl ?_
              refine pw_iload_n dX12_held_70 rfl ?_
              refine pw_iload_n dX12_held_71 rfl ?_
              refine pw_cV2 (d1 := d - 1) (a1 := 0) (a2 := al) dX12_held_72 mtX12_keptOn ivX12_keptOn mlX12_127 (Nat.le_of_ble_eq_true rfl) (Nat.le_of_ble_eq_true rfl) (by omega) (by omega) (hS.at rfl rfl rfl) rfl rfl (s_keptOn' (by omega) hS he he2 hn2 ht _) ?_
              rintro r_ τ_ ⟨hr_, ht_⟩; subst r_; subst τ_
              refine pw_iret dX12_held_75 rfl rfl ?_
              have hok : okHeld σ n t day what := by
                refine ⟨ht, ?_, ?_, bI_n.mp h51⟩
                · rw [hcl]; exact bI_n.mp h22
                · rw [hcl]
                  first | exact fun z => absurd h32 z | exact fun _ => h42
              refine ⟨?_, rfl⟩
              unfold m_held
              rw [if_pos hok]
              first | rw [if_pos h57] | rw [if_neg h57]
            · refine pw_aload_n dX12_held_60 rfl ?_
              refine pw_iload_n dX12_held_61 rfl ?_
              refine pw_iload_n dX12_held_62 rfl ?_
              refine pw_cV2 (d1 := d - 1) (a1 := 0) (a2 := al) dX12_held_63 mtX12_ownerOn ivX12_ownerOn mlX12_117 (Nat.le_of_ble_eq_true rfl) (Nat.le_of_ble_eq_true rfl) (by omega) (by omega) (hS.at rfl rfl rfl) rfl rfl (s_ownerOn' hS he he2 hn2 ht _) ?_
              rintro r_ τ_ ⟨hr_, ht_⟩; subst r_; subst τ_
              refine pw_goto (tgt := 75) dX12_held_66 (by decide) ?_
              refine pw_iret dX12_held_75 rfl rfl ?_
              have hok : okHeld σ n t day what := by
                refine ⟨ht, ?_, ?_, bI_n.mp h51⟩
                · rw [hcl]; exact bI_n.mp h22
                · rw [hcl]
                  first | exact fun z => absurd h32 z | exact fun _ => h42
              refine ⟨?_, rfl⟩
              unfold m_held
              rw [if_pos hok]
              first | rw [if_pos h57] | rw [if_neg h57]
          · refine pw_iconst (v := (-1)) dX12_held_54 (by decide) ?_
            refine pw_iret dX12_held_55 rfl rfl ?_
            refine hb _ ?_ rfl
            first | (rw [hn] at h5; exact fun z => bI_0.mp h5 z.1) | (intro z; have z1 := z.2.1; have z2 := z.2.2.1; have z3 := z.2.2.2; rw [hcl] at z1 z2; first | exact bI_0.mp h22 z1 | exact z2 h32 h42 | exact bI_0.mp h51 z3)
/-- the owners one behind the other -/
def m_os (σ : pm_S) (t w : Int32) : Nat → Nat → Nat → Int32
  | 0, _, c => if w = -1 then nI c else -1
  | k + 1, e, c => if qI σ 52 e = t ∧ qI σ 53 e = 0 then (if nI c = w then qI σ 54 e else m_os σ t w k (e + 1) (c + 1)) else m_os σ t w k (e + 1) c
theorem s_owners_lp {d al n : Nat} {σ : pm_S} (hS : pm_fix σ) (hn : qI σ 43 2 = nI n) (hn2 : n ≤ 300) (t w : Int32) : ∀ (k e c : Nat), e + k = n → PW d al MX12_owners 31 [.ref 43, .int t, .int w, .int (nI c), .int (nI e)] [] σ (fun r τ => r = some (.int (m_os σ t w k e c)) ∧ τ = σ) := by
  intro k
  induction k with
  | zero =>
    intro e c he
    refine pw_iload dX12_owners_31 rfl ?_
    refine pw_aload_n dX12_owners_33 rfl ?_
    refine pw_getI dX12_owners_34 flX12_110 rfl (hS.at rfl rfl rfl) ?_
    refine pw_icmp_ge (tgt := 86) dX12_owners_37 (by decide) (fun h37 => ?_) (fun h37 => ?_)
    · refine pw_iload_n dX12_owners_86 rfl ?_
      refine pw_iconst (v := (-1)) dX12_owners_87 (by decide) ?_
      refine pw_icmp_ne (tgt := 95) dX12_owners_88 (by decide) (fun h88 => ?_) (fun h88 => ?_)
      · refine pw_iconst (v := (-1)) dX12_owners_95 (by decide) ?_
        refine pw_iret dX12_owners_96 rfl rfl ?_
        refine ⟨?_, rfl⟩
        unfold m_os
        first | rw [if_pos h88] | rw [if_neg h88]
      · refine pw_iload_n dX12_owners_91 rfl ?_
        refine pw_goto (tgt := 96) dX12_owners_92 (by decide) ?_
        refine pw_iret dX12_owners_96 rfl rfl ?_
        refine ⟨?_, rfl⟩
        unfold m_os
        first | rw [if_pos h88] | rw [if_neg h88]
    · exact absurd (by rw [hn]; exact nI_le (by omega) (by omega)) h37
  | succ k ih =>
    intro e c he
    have he2 : e < 300 := by omega
    have hu : m_os σ t w (k + 1) e c = if qI σ 52 e = t ∧ qI σ 53 e = 0 then (if nI c = w then qI σ 54 e else m_os σ t w k (e + 1) (c + 1)) else m_os σ t w k (e + 1) c := rfl
    have hh := ih (e + 1) c (by omega)
    have hh' := ih (e + 1) (c + 1) (by omega)
    rw [nI_succ] at hh
    rw [nI_succ, nI_succ] at hh'
    rw [hu]
    refine pw_iload dX12_owners_31 rfl ?_
    refine pw_aload_n dX12_owners_33 rfl ?_
    refine pw_getI dX12_owners_34 flX12_110 rfl (hS.at rfl rfl rfl) ?_
    refine pw_icmp_ge (tgt := 86) dX12_owners_37 (by decide) (fun h37 => ?_) (fun h37 => ?_)
    · exact absurd (by rw [hn] at h37; exact h37) (nI_ge (show e < n by omega) (by omega))
    · refine pw_aload_n dX12_owners_40 rfl ?_
      refine pw_getF (v := 52) dX12_owners_41 flX12_34 rfl (hS.at rfl rfl rfl) (hS.rf (43, 12, 52) rfl (by decide)) ?_
      refine pw_iload dX12_owners_44 rfl ?_
      refine pw_iald dX12_owners_46 (hS.at rfl rfl rfl) rfl (hS.lt rfl rfl he2 rfl) (by omega) ?_
      refine pw_iload_n dX12_owners_47 rfl ?_
      refine pw_icmp_ne (tgt := 80) dX12_owners_48 (by decide) (fun h48 => ?_) (fun h48 => ?_)
      · refine pw_iinc1 dX12_owners_80 rfl (Nat.le_of_ble_eq_true rfl) (Nat.le_of_ble_eq_true rfl) rfl ?_
        refine pw_goto (tgt := 31) dX12_owners_83 (by decide) ?_
        by_cases hp : qI σ 52 e = t ∧ qI σ 53 e = 0
        · rw [if_pos hp]
          first | exact absurd hp.1 h48 | exact absurd hp.2 h58 | (rw [if_neg h66]; exact hh')
        · rw [if_neg hp]
          first | exact hh | exact absurd ⟨h48, h58⟩ hp
      · refine pw_aload_n dX12_owners_51 rfl ?_
        refine pw_getF (v := 53) dX12_owners_52 flX12_37 rfl (hS.at rfl rfl rfl) (hS.rf (43, 13, 53) rfl (by decide)) ?_
        refine pw_iload dX12_owners_55 rfl ?_
        refine pw_iald dX12_owners_57 (hS.at rfl rfl rfl) rfl (hS.lt rfl rfl he2 rfl) (by omega) ?_
        refine pw_if_eq (tgt := 64) dX12_owners_58 (by decide) (fun h58 => ?_) (fun h58 => ?_)
        · refine pw_iload_n dX12_owners_64 rfl ?_
          refine pw_iload_n dX12_owners_65 rfl ?_
          refine pw_icmp_ne (tgt := 77) dX12_owners_66 (by decide) (fun h66 => ?_) (fun h66 => ?_)
          · refine pw_iinc1 dX12_owners_77 rfl (Nat.le_of_ble_eq_true rfl) (Nat.le_of_ble_eq_true rfl) rfl ?_
            refine pw_iinc1 dX12_owners_80 rfl (Nat.le_of_ble_eq_true rfl) (Nat.le_of_ble_eq_true rfl) rfl ?_
            refine pw_goto (tgt := 31) dX12_owners_83 (by decide) ?_
            by_cases hp : qI σ 52 e = t ∧ qI σ 53 e = 0
            · rw [if_pos hp]
              first | exact absurd hp.1 h48 | exact absurd hp.2 h58 | (rw [if_neg h66]; exact hh')
            · rw [if_neg hp]
              first | exact hh | exact absurd ⟨h48, h58⟩ hp
          · refine pw_aload_n dX12_owners_69 rfl ?_
            refine pw_getF (v := 54) dX12_owners_70 flX12_40 rfl (hS.at rfl rfl rfl) (hS.rf (43, 14, 54) rfl (by decide)) ?_
            refine pw_iload dX12_owners_73 rfl ?_
            refine pw_iald dX12_owners_75 (hS.at rfl rfl rfl) rfl (hS.lt rfl rfl he2 rfl) (by omega) ?_
            refine pw_iret dX12_owners_76 rfl rfl ?_
            exact ⟨by rw [if_pos ⟨h48, h58⟩, if_pos h66], rfl⟩
        · refine pw_goto (tgt := 80) dX12_owners_61 (by decide) ?_
          refine pw_iinc1 dX12_owners_80 rfl (Nat.le_of_ble_eq_true rfl) (Nat.le_of_ble_eq_true rfl) rfl ?_
          refine pw_goto (tgt := 31) dX12_owners_83 (by decide) ?_
          by_cases hp : qI σ 52 e = t ∧ qI σ 53 e = 0
          · rw [if_pos hp]
            first | exact absurd hp.1 h48 | exact absurd hp.2 h58 | (rw [if_neg h66]; exact hh')
          · rw [if_neg hp]
            first | exact hh | exact absurd ⟨h48, h58⟩ hp
def m_own (σ : pm_S) (n e : Nat) (t w : Int32) : Int32 := if tOk n t ∧ -1 ≤ w then (if w = 0 then qI σ 50 t.toNatClampNeg else m_os σ t w e 0 1) else -1
theorem s_owners {d al n e : Nat} {σ : pm_S} (hd : 2 ≤ d) (hS : pm_fix σ) (hn : qI σ 43 1 = nI n) (hn2 : n ≤ 20) (he : qI σ 43 2 = nI e) (he2 : e ≤ 300) (t w : Int32) : PE d al MX12_owners [.ref 43, .int t, .int w] σ (some (.int (m_own σ n e t w))) σ := by
  show PW _ _ _ _ _ _ _ _
  refine pw_aload_n dX12_owners_0 rfl ?_
  refine pw_iload_n dX12_owners_1 rfl ?_
  refine pw_cV1 (d1 := d - 1) (a1 := 0) (a2 := al) dX12_owners_2 mtX12_isThing ivX12_isThing mlX12_93 (Nat.le_of_ble_eq_true rfl) (Nat.le_of_ble_eq_true rfl) (by omega) (by omega) (hS.at rfl rfl rfl) rfl rfl (s_isThing (by omega) hS _) ?_
  rintro r_ τ_ ⟨hr_, ht_⟩; subst r_; subst τ_
  refine pw_if_eq (tgt := 13) dX12_owners_5 (by decide) (fun h5 => ?_) (fun h5 => ?_)
  · refine pw_iconst (v := (-1)) dX12_owners_13 (by decide) ?_
    refine pw_iret dX12_owners_14 rfl rfl ?_
    have hno : ¬ (tOk n t ∧ -1 ≤ w) := by
      rw [hn] at h5
      first | exact fun z => bI_0.mp h5 z.1 | exact fun z => h10 z.2
    exact ⟨by unfold m_own; rw [if_neg hno], rfl⟩
  · refine pw_iload_n dX12_owners_8 rfl ?_
    refine pw_iconst (v := (-1)) dX12_owners_9 (by decide) ?_
    refine pw_icmp_ge (tgt := 15) dX12_owners_10 (by decide) (fun h10 => ?_) (fun h10 => ?_)
    · rw [hn] at h5
      have ht : tOk n t := bI_n.mp h5
      obtain ⟨j, hj2, hj⟩ := (tOk_iff (by omega)).mp ht
      have hj3 : j < 20 := by omega
      have hcl : t.toNatClampNeg = j := by rw [hj]; exact nI_clamp (by omega)
      unfold m_own
      rw [if_pos ⟨ht, h10⟩]
      refine pw_iload_n dX12_owners_15 rfl ?_
      refine pw_if_ne (tgt := 26) dX12_owners_16 (by decide) (fun h16 => ?_) (fun h16 => ?_)
      · refine pw_iconst (v := 1) dX12_owners_26 (by decide) ?_
        refine pw_istore_n dX12_owners_27 (Nat.le_of_ble_eq_true rfl) (Nat.le_of_ble_eq_true rfl) rfl ?_
        refine pw_iconst (v := 0) dX12_owners_28 (by decide) ?_
        refine pw_istore dX12_owners_29 (Nat.le_of_ble_eq_true rfl) (Nat.le_of_ble_eq_true rfl) rfl ?_
        rw [if_neg h16]
        exact s_owners_lp hS he he2 t w e 0 1 (by omega)
      · refine pw_aload_n dX12_owners_19 rfl ?_
        refine pw_getF (v := 50) dX12_owners_20 flX12_28 rfl (hS.at rfl rfl rfl) (hS.rf (43, 10, 50) rfl (by decide)) ?_
        refine pw_iload_n dX12_owners_23 rfl ?_
        refine pw_iald dX12_owners_24 (hS.at rfl rfl rfl) hj (hS.lt rfl rfl hj3 rfl) (by omega) ?_
        refine pw_iret dX12_owners_25 rfl rfl ?_
        exact ⟨by rw [if_pos h16, hcl], rfl⟩
    · refine pw_iconst (v := (-1)) dX12_owners_13 (by decide) ?_
      refine pw_iret dX12_owners_14 rfl rfl ?_
      have hno : ¬ (tOk n t ∧ -1 ≤ w) := by
        rw [hn] at h5
        first | exact fun z => bI_0.mp h5 z.1 | exact fun z => h10 z.2
      exact ⟨by unfold m_own; rw [if_neg hno], rfl⟩
