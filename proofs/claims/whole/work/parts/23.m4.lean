/-! ===== the reference: copies, what happens, days ===== -/
abbrev isTh (σ : pm_S) (n : Nat) (t : Int32) : Prop := tOk n t ∧ qI σ 51 t.toNatClampNeg = -1
abbrev okCopy (σ : pm_S) (n : Nat) (t r house : Int32) : Prop := isTh σ n t ∧ (0 ≤ r ∧ r ≤ 9) ∧ (0 ≤ house ∧ house ≤ 7) ∧ n ≠ 20
theorem s_copy {d al n : Nat} {σ : pm_S} (hd : 3 ≤ d) (hS : pm_fix σ) (hn : qI σ 43 1 = nI n) (hn2 : n ≤ 20) (t r house : Int32) : PE d al MX12_copy [.ref 43, .int t, .int r, .int house] σ (some (.int (if okCopy σ n t r house then nI n else -1))) (if okCopy σ n t r house then m_comes σ n (qI σ 44 t.toNatClampNeg) r (qI σ 46 t.toNatClampNeg) (qI σ 47 t.toNatClampNeg) house t else σ) := by
  show PW _ _ _ _ _ _ _ _
  refine pw_aload_n dX12_copy_0 rfl ?_
  refine pw_iload_n dX12_copy_1 rfl ?_
  refine pw_cV1 (d1 := d - 1) (a1 := 0) (a2 := al) dX12_copy_2 mtX12_isThere ivX12_isThere mlX12_107 (Nat.le_of_ble_eq_true rfl) (Nat.le_of_ble_eq_true rfl) (by omega) (by omega) (hS.at rfl rfl rfl) rfl rfl (s_isThere (by omega) hS hn hn2 _) ?_
  rintro r_ τ_ ⟨hr_, ht_⟩; subst r_; subst τ_
  refine pw_if_eq (tgt := 34) dX12_copy_5 (by decide) (fun h5 => ?_) (fun h5 => ?_)
  · refine pw_iconst (v := (-1)) dX12_copy_34 (by decide) ?_
    refine pw_iret dX12_copy_35 rfl rfl ?_
    have hno : ¬ okCopy σ n t r house := by
      first | exact fun z => bI_0.mp h5 z.1 | exact fun z => bI_0.mp h15 z.2.1 | exact fun z => bI_0.mp h22 z.2.2.1 | exact fun z => z.2.2.2 (nI_inj (by omega) (by omega) (hn.symm.trans h31))
    exact ⟨by rw [if_neg hno], by rw [if_neg hno]⟩
  · refine pw_iload_n dX12_copy_8 rfl ?_
    refine pw_iconst (v := 0) dX12_copy_9 (by decide) ?_
    refine pw_bipush (v := 9) dX12_copy_10 (by decide) ?_
    refine pw_cS3 (d1 := d - 1) (a1 := 0) (a2 := al) dX12_copy_12 mtX12_isIn stX12_isIn mlX12_86 (Nat.le_of_ble_eq_true rfl) (Nat.le_of_ble_eq_true rfl) (by omega) (by omega) (s_isIn _ _ _) ?_
    rintro r_ τ_ ⟨hr_, ht_⟩; subst r_; subst τ_
    refine pw_if_eq (tgt := 34) dX12_copy_15 (by decide) (fun h15 => ?_) (fun h15 => ?_)
    · refine pw_iconst (v := (-1)) dX12_copy_34 (by decide) ?_
      refine pw_iret dX12_copy_35 rfl rfl ?_
      have hno : ¬ okCopy σ n t r house := by
        first | exact fun z => bI_0.mp h5 z.1 | exact fun z => bI_0.mp h15 z.2.1 | exact fun z => bI_0.mp h22 z.2.2.1 | exact fun z => z.2.2.2 (nI_inj (by omega) (by omega) (hn.symm.trans h31))
      exact ⟨by rw [if_neg hno], by rw [if_neg hno]⟩
    · refine pw_iload_n dX12_copy_18 rfl ?_
      refine pw_cS1 (d1 := d - 1) (a1 := 0) (a2 := al) dX12_copy_19 mtX12_isHouse stX12_isHouse mlX12_100 (Nat.le_of_ble_eq_true rfl) (Nat.le_of_ble_eq_true rfl) (by omega) (by omega) (s_isHouse (by omega) _) ?_
      rintro r_ τ_ ⟨hr_, ht_⟩; subst r_; subst τ_
      refine pw_if_eq (tgt := 34) dX12_copy_22 (by decide) (fun h22 => ?_) (fun h22 => ?_)
      · refine pw_iconst (v := (-1)) dX12_copy_34 (by decide) ?_
        refine pw_iret dX12_copy_35 rfl rfl ?_
        have hno : ¬ okCopy σ n t r house := by
          first | exact fun z => bI_0.mp h5 z.1 | exact fun z => bI_0.mp h15 z.2.1 | exact fun z => bI_0.mp h22 z.2.2.1 | exact fun z => z.2.2.2 (nI_inj (by omega) (by omega) (hn.symm.trans h31))
        exact ⟨by rw [if_neg hno], by rw [if_neg hno]⟩
      · refine pw_aload_n dX12_copy_25 rfl ?_
        refine pw_getI dX12_copy_26 flX12_90 rfl (hS.at rfl rfl rfl) ?_
        refine pw_bipush (v := 20) dX12_copy_29 (by decide) ?_
        refine pw_icmp_ne (tgt := 36) dX12_copy_31 (by decide) (fun h31 => ?_) (fun h31 => ?_)
        · have hok : okCopy σ n t r house := ⟨bI_n.mp h5, bI_n.mp h15, bI_n.mp h22, fun z => h31 (by rw [hn, z]; rfl)⟩
          have hn3 : n < 20 := by have := hok.2.2.2; omega
          obtain ⟨j, hj2, hj⟩ := (tOk_iff (by omega)).mp hok.1.1
          have hj3 : j < 20 := by omega
          have hjc : t.toNatClampNeg = j := by rw [hj]; exact nI_clamp (by omega)
          refine pw_aload_n dX12_copy_36 rfl ?_
          refine pw_aload_n dX12_copy_37 rfl ?_
          refine pw_getF (v := 44) dX12_copy_38 flX12_7 rfl (hS.at rfl rfl rfl) (hS.rf (43, 4, 44) rfl (by decide)) ?_
          refine pw_iload_n dX12_copy_41 rfl ?_
          refine pw_iald dX12_copy_42 (hS.at rfl rfl rfl) hj (hS.lt rfl rfl hj3 rfl) (by omega) ?_
          refine pw_iload_n dX12_copy_43 rfl ?_
          refine pw_aload_n dX12_copy_44 rfl ?_
          refine pw_getF (v := 46) dX12_copy_45 flX12_16 rfl (hS.at rfl rfl rfl) (hS.rf (43, 6, 46) rfl (by decide)) ?_
          refine pw_iload_n dX12_copy_48 rfl ?_
          refine pw_iald dX12_copy_49 (hS.at rfl rfl rfl) hj (hS.lt rfl rfl hj3 rfl) (by omega) ?_
          refine pw_aload_n dX12_copy_50 rfl ?_
          refine pw_getF (v := 47) dX12_copy_51 flX12_19 rfl (hS.at rfl rfl rfl) (hS.rf (43, 7, 47) rfl (by decide)) ?_
          refine pw_iload_n dX12_copy_54 rfl ?_
          refine pw_iald dX12_copy_55 (hS.at rfl rfl rfl) hj (hS.lt rfl rfl hj3 rfl) (by omega) ?_
          refine pw_iload_n dX12_copy_56 rfl ?_
          refine pw_iload_n dX12_copy_57 rfl ?_
          refine pw_cV6 (d1 := d - 1) (a1 := 0) (a2 := al) dX12_copy_58 mtX12_comes ivX12_comes mlX12_103 (Nat.le_of_ble_eq_true rfl) (Nat.le_of_ble_eq_true rfl) (by omega) (by omega) (hS.at rfl rfl rfl) rfl rfl (s_comes hS hn (by omega) _ _ _ _ _ _) ?_
          rintro r_ τ_ ⟨hr_, ht_⟩; subst r_; subst τ_
          refine pw_iret dX12_copy_61 rfl rfl ?_
          exact ⟨by rw [if_pos hok], by rw [if_pos hok, hjc]⟩
        · refine pw_iconst (v := (-1)) dX12_copy_34 (by decide) ?_
          refine pw_iret dX12_copy_35 rfl rfl ?_
          have hno : ¬ okCopy σ n t r house := by
            first | exact fun z => bI_0.mp h5 z.1 | exact fun z => bI_0.mp h15 z.2.1 | exact fun z => bI_0.mp h22 z.2.2.1 | exact fun z => z.2.2.2 (nI_inj (by omega) (by omega) (hn.symm.trans h31))
          exact ⟨by rw [if_neg hno], by rw [if_neg hno]⟩
theorem s_ownerOn' {d al e n : Nat} {σ : pm_S} (hS : pm_fix σ) (he : qI σ 43 2 = nI e) (he2 : e ≤ 300) (hn2 : n ≤ 20) {t : Int32} (ht : tOk n t) (day : Int32) : PE d al MX12_ownerOn [.ref 43, .int t, .int day] σ (some (.int (m_ow σ t day (qI σ 50 t.toNatClampNeg) e))) σ := by
  obtain ⟨j, hj2, rfl⟩ := (tOk_iff (by omega)).mp ht
  rw [nI_clamp (by omega)]
  exact s_ownerOn (m := 0) hS he he2 (by omega) day
theorem s_keptOn' {d al e n : Nat} {σ : pm_S} (hd : 2 ≤ d) (hS : pm_fix σ) (he : qI σ 43 2 = nI e) (he2 : e ≤ 300) (hn2 : n ≤ 20) {t : Int32} (ht : tOk n t) (day : Int32) : PE d al MX12_keptOn [.ref 43, .int t, .int day] σ (some (.int (m_ke σ e t.toNatClampNeg day))) σ := by
  obtain ⟨j, hj2, rfl⟩ := (tOk_iff (by omega)).mp ht
  rw [nI_clamp (by omega)]
  exact s_keptOn hd hS he he2 (by omega) day
abbrev okGive (σ : pm_S) (n e : Nat) (t house : Int32) : Prop := isTh σ n t ∧ (0 ≤ house ∧ house ≤ 7) ∧ m_le σ t (qI σ 43 0) e = -1 ∧ m_ow σ t (qI σ 43 0) (qI σ 50 t.toNatClampNeg) e ≠ house ∧ e ≠ 300
theorem s_pass {d al n e : Nat} {σ : pm_S} (hd : 3 ≤ d) (hS : pm_fix σ) (hn : qI σ 43 1 = nI n) (hn2 : n ≤ 20) (he : qI σ 43 2 = nI e) (he2 : e ≤ 300) (t house : Int32) : PE d al MX12_pass [.ref 43, .int t, .int house] σ (some (.int (bI (okGive σ n e t house)))) (if okGive σ n e t house then m_hap σ e t 0 house else σ) := by
  show PW _ _ _ _ _ _ _ _
  refine pw_aload_n dX12_pass_0 rfl ?_
  refine pw_iload_n dX12_pass_1 rfl ?_
  refine pw_cV1 (d1 := d - 1) (a1 := 0) (a2 := al) dX12_pass_2 mtX12_isThere ivX12_isThere mlX12_107 (Nat.le_of_ble_eq_true rfl) (Nat.le_of_ble_eq_true rfl) (by omega) (by omega) (hS.at rfl rfl rfl) rfl rfl (s_isThere (by omega) hS hn hn2 _) ?_
  rintro r_ τ_ ⟨hr_, ht_⟩; subst r_; subst τ_
  refine pw_if_eq (tgt := 55) dX12_pass_5 (by decide) (fun h5 => ?_) (fun h5 => ?_)
  · refine pw_iconst (v := 0) dX12_pass_55 (by decide) ?_
    refine pw_iret dX12_pass_56 rfl (by first | rfl | exact bI_nar) ?_
    by_cases hok : okGive σ n e t house
    · rw [bI_t hok, if_pos hok]
      first | exact absurd hok.1 (bI_0.mp h5) | exact absurd hok.2.1 (bI_0.mp h12) | exact absurd hok.2.2.1 h25 | exact absurd h38 hok.2.2.2.1 | exact absurd hok.2.2.2.2 (bI_0.mp h48) | exact ⟨rfl, by rw [if_pos hok.2.2.2.2]⟩
    · rw [bI_f hok, if_neg hok]
      first | exact ⟨rfl, rfl⟩ | exact ⟨rfl, by rw [if_neg (bI_0.mp h48)]⟩ | exact absurd ⟨bI_n.mp h5, bI_n.mp h12, h25, h38, bI_n.mp h48⟩ hok
  · refine pw_iload_n dX12_pass_8 rfl ?_
    refine pw_cS1 (d1 := d - 1) (a1 := 0) (a2 := al) dX12_pass_9 mtX12_isHouse stX12_isHouse mlX12_100 (Nat.le_of_ble_eq_true rfl) (Nat.le_of_ble_eq_true rfl) (by omega) (by omega) (s_isHouse (by omega) _) ?_
    rintro r_ τ_ ⟨hr_, ht_⟩; subst r_; subst τ_
    refine pw_if_eq (tgt := 55) dX12_pass_12 (by decide) (fun h12 => ?_) (fun h12 => ?_)
    · refine pw_iconst (v := 0) dX12_pass_55 (by decide) ?_
      refine pw_iret dX12_pass_56 rfl (by first | rfl | exact bI_nar) ?_
      by_cases hok : okGive σ n e t house
      · rw [bI_t hok, if_pos hok]
        first | exact absurd hok.1 (bI_0.mp h5) | exact absurd hok.2.1 (bI_0.mp h12) | exact absurd hok.2.2.1 h25 | exact absurd h38 hok.2.2.2.1 | exact absurd hok.2.2.2.2 (bI_0.mp h48) | exact ⟨rfl, by rw [if_pos hok.2.2.2.2]⟩
      · rw [bI_f hok, if_neg hok]
        first | exact ⟨rfl, rfl⟩ | exact ⟨rfl, by rw [if_neg (bI_0.mp h48)]⟩ | exact absurd ⟨bI_n.mp h5, bI_n.mp h12, h25, h38, bI_n.mp h48⟩ hok
    · refine pw_aload_n dX12_pass_15 rfl ?_
      refine pw_iload_n dX12_pass_16 rfl ?_
      refine pw_aload_n dX12_pass_17 rfl ?_
      refine pw_getI dX12_pass_18 flX12_97 rfl (hS.at rfl rfl rfl) ?_
      refine pw_cV2 (d1 := d - 1) (a1 := 0) (a2 := al) dX12_pass_21 mtX12_lentOn ivX12_lentOn mlX12_113 (Nat.le_of_ble_eq_true rfl) (Nat.le_of_ble_eq_true rfl) (by omega) (by omega) (hS.at rfl rfl rfl) rfl rfl (s_lentOn (by omega) hS he he2 _ _) ?_
      rintro r_ τ_ ⟨hr_, ht_⟩; subst r_; subst τ_
      refine pw_iconst (v := (-1)) dX12_pass_24 (by decide) ?_
      refine pw_icmp_ne (tgt := 55) dX12_pass_25 (by decide) (fun h25 => ?_) (fun h25 => ?_)
      · refine pw_iconst (v := 0) dX12_pass_55 (by decide) ?_
        refine pw_iret dX12_pass_56 rfl (by first | rfl | exact bI_nar) ?_
        by_cases hok : okGive σ n e t house
        · rw [bI_t hok, if_pos hok]
          first | exact absurd hok.1 (bI_0.mp h5) | exact absurd hok.2.1 (bI_0.mp h12) | exact absurd hok.2.2.1 h25 | exact absurd h38 hok.2.2.2.1 | exact absurd hok.2.2.2.2 (bI_0.mp h48) | exact ⟨rfl, by rw [if_pos hok.2.2.2.2]⟩
        · rw [bI_f hok, if_neg hok]
          first | exact ⟨rfl, rfl⟩ | exact ⟨rfl, by rw [if_neg (bI_0.mp h48)]⟩ | exact absurd ⟨bI_n.mp h5, bI_n.mp h12, h25, h38, bI_n.mp h48⟩ hok
      · refine pw_aload_n dX12_pass_28 rfl ?_
        refine pw_iload_n dX12_pass_29 rfl ?_
        refine pw_aload_n dX12_pass_30 rfl ?_
        refine pw_getI dX12_pass_31 flX12_97 rfl (hS.at rfl rfl rfl) ?_
        refine pw_cV2 (d1 := d - 1) (a1 := 0) (a2 := al) dX12_pass_34 mtX12_ownerOn ivX12_ownerOn mlX12_117 (Nat.le_of_ble_eq_true rfl) (Nat.le_of_ble_eq_true rfl) (by omega) (by omega) (hS.at rfl rfl rfl) rfl rfl (s_ownerOn' hS he he2 hn2 (bI_n.mp h5).1 _) ?_
        rintro r_ τ_ ⟨hr_, ht_⟩; subst r_; subst τ_
        refine pw_iload_n dX12_pass_37 rfl ?_
        refine pw_icmp_eq (tgt := 55) dX12_pass_38 (by decide) (fun h38 => ?_) (fun h38 => ?_)
        · refine pw_iconst (v := 0) dX12_pass_55 (by decide) ?_
          refine pw_iret dX12_pass_56 rfl (by first | rfl | exact bI_nar) ?_
          by_cases hok : okGive σ n e t house
          · rw [bI_t hok, if_pos hok]
            first | exact absurd hok.1 (bI_0.mp h5) | exact absurd hok.2.1 (bI_0.mp h12) | exact absurd hok.2.2.1 h25 | exact absurd h38 hok.2.2.2.1 | exact absurd hok.2.2.2.2 (bI_0.mp h48) | exact ⟨rfl, by rw [if_pos hok.2.2.2.2]⟩
          · rw [bI_f hok, if_neg hok]
            first | exact ⟨rfl, rfl⟩ | exact ⟨rfl, by rw [if_neg (bI_0.mp h48)]⟩ | exact absurd ⟨bI_n.mp h5, bI_n.mp h12, h25, h38, bI_n.mp h48⟩ hok
        · refine pw_aload_n dX12_pass_41 rfl ?_
          refine pw_iload_n dX12_pass_42 rfl ?_
          refine pw_iconst (v := 0) dX12_pass_43 (by decide) ?_
          refine pw_iload_n dX12_pass_44 rfl ?_
          refine pw_cV3 (d1 := d - 1) (a1 := 0) (a2 := al) dX12_pass_45 mtX12_happens ivX12_happens mlX12_120 (Nat.le_of_ble_eq_true rfl) (Nat.le_of_ble_eq_true rfl) (by omega) (by omega) (hS.at rfl rfl rfl) rfl rfl (s_happens hS he he2 _ _ _) ?_
          rintro r_ τ_ ⟨hr_, ht_⟩; subst r_; subst τ_
          refine pw_if_eq (tgt := 55) dX12_pass_48 (by decide) (fun h48 => ?_) (fun h48 => ?_)
          · refine pw_iconst (v := 0) dX12_pass_55 (by decide) ?_
            refine pw_iret dX12_pass_56 rfl (by first | rfl | exact bI_nar) ?_
            by_cases hok : okGive σ n e t house
            · rw [bI_t hok, if_pos hok]
              first | exact absurd hok.1 (bI_0.mp h5) | exact absurd hok.2.1 (bI_0.mp h12) | exact absurd hok.2.2.1 h25 | exact absurd h38 hok.2.2.2.1 | exact absurd hok.2.2.2.2 (bI_0.mp h48) | exact ⟨rfl, by rw [if_pos hok.2.2.2.2]⟩
            · rw [bI_f hok, if_neg hok]
              first | exact ⟨rfl, rfl⟩ | exact ⟨rfl, by rw [if_neg (bI_0.mp h48)]⟩ | exact absurd ⟨bI_n.mp h5, bI_n.mp h12, h25, h38, bI_n.mp h48⟩ hok
          · refine pw_iconst (v := 1) dX12_pass_51 (by decide) ?_
            refine pw_goto (tgt := 56) dX12_pass_52 (by decide) ?_
            refine pw_iret dX12_pass_56 rfl (by first | rfl | exact bI_nar) ?_
            by_cases hok : okGive σ n e t house
            · rw [bI_t hok, if_pos hok]
              first | exact absurd hok.1 (bI_0.mp h5) | exact absurd hok.2.1 (bI_0.mp h12) | exact absurd hok.2.2.1 h25 | exact absurd h38 hok.2.2.2.1 | exact absurd hok.2.2.2.2 (bI_0.mp h48) | exact ⟨rfl, by rw [if_pos hok.2.2.2.2]⟩
            · rw [bI_f hok, if_neg hok]
              first | exact ⟨rfl, rfl⟩ | exact ⟨rfl, by rw [if_neg (bI_0.mp h48)]⟩ | exact absurd ⟨bI_n.mp h5, bI_n.mp h12, h25, h38, bI_n.mp h48⟩ hok
theorem s_lend {d al n e : Nat} {σ : pm_S} (hd : 3 ≤ d) (hS : pm_fix σ) (hn : qI σ 43 1 = nI n) (hn2 : n ≤ 20) (he : qI σ 43 2 = nI e) (he2 : e ≤ 300) (t house : Int32) : PE d al MX12_lend [.ref 43, .int t, .int house] σ (some (.int (bI (okGive σ n e t house)))) (if okGive σ n e t house then m_hap σ e t 1 house else σ) := by
  show PW _ _ _ _ _ _ _ _
  refine pw_aload_n dX12_lend_0 rfl ?_
  refine pw_iload_n dX12_lend_1 rfl ?_
  refine pw_cV1 (d1 := d - 1) (a1 := 0) (a2 := al) dX12_lend_2 mtX12_isThere ivX12_isThere mlX12_107 (Nat.le_of_ble_eq_true rfl) (Nat.le_of_ble_eq_true rfl) (by omega) (by omega) (hS.at rfl rfl rfl) rfl rfl (s_isThere (by omega) hS hn hn2 _) ?_
  rintro r_ τ_ ⟨hr_, ht_⟩; subst r_; subst τ_
  refine pw_if_eq (tgt := 55) dX12_lend_5 (by decide) (fun h5 => ?_) (fun h5 => ?_)
  · refine pw_iconst (v := 0) dX12_lend_55 (by decide) ?_
    refine pw_iret dX12_lend_56 rfl (by first | rfl | exact bI_nar) ?_
    by_cases hok : okGive σ n e t house
    · rw [bI_t hok, if_pos hok]
      first | exact absurd hok.1 (bI_0.mp h5) | exact absurd hok.2.1 (bI_0.mp h12) | exact absurd hok.2.2.1 h25 | exact absurd h38 hok.2.2.2.1 | exact absurd hok.2.2.2.2 (bI_0.mp h48) | exact ⟨rfl, by rw [if_pos hok.2.2.2.2]⟩
    · rw [bI_f hok, if_neg hok]
      first | exact ⟨rfl, rfl⟩ | exact ⟨rfl, by rw [if_neg (bI_0.mp h48)]⟩ | exact absurd ⟨bI_n.mp h5, bI_n.mp h12, h25, h38, bI_n.mp h48⟩ hok
  · refine pw_iload_n dX12_lend_8 rfl ?_
    refine pw_cS1 (d1 := d - 1) (a1 := 0) (a2 := al) dX12_lend_9 mtX12_isHouse stX12_isHouse mlX12_100 (Nat.le_of_ble_eq_true rfl) (Nat.le_of_ble_eq_true rfl) (by omega) (by omega) (s_isHouse (by omega) _) ?_
    rintro r_ τ_ ⟨hr_, ht_⟩; subst r_; subst τ_
    refine pw_if_eq (tgt := 55) dX12_lend_12 (by decide) (fun h12 => ?_) (fun h12 => ?_)
    · refine pw_iconst (v := 0) dX12_lend_55 (by decide) ?_
      refine pw_iret dX12_lend_56 rfl (by first | rfl | exact bI_nar) ?_
      by_cases hok : okGive σ n e t house
      · rw [bI_t hok, if_pos hok]
        first | exact absurd hok.1 (bI_0.mp h5) | exact absurd hok.2.1 (bI_0.mp h12) | exact absurd hok.2.2.1 h25 | exact absurd h38 hok.2.2.2.1 | exact absurd hok.2.2.2.2 (bI_0.mp h48) | exact ⟨rfl, by rw [if_pos hok.2.2.2.2]⟩
      · rw [bI_f hok, if_neg hok]
        first | exact ⟨rfl, rfl⟩ | exact ⟨rfl, by rw [if_neg (bI_0.mp h48)]⟩ | exact absurd ⟨bI_n.mp h5, bI_n.mp h12, h25, h38, bI_n.mp h48⟩ hok
    · refine pw_aload_n dX12_lend_15 rfl ?_
      refine pw_iload_n dX12_lend_16 rfl ?_
      refine pw_aload_n dX12_lend_17 rfl ?_
      refine pw_getI dX12_lend_18 flX12_97 rfl (hS.at rfl rfl rfl) ?_
      refine pw_cV2 (d1 := d - 1) (a1 := 0) (a2 := al) dX12_lend_21 mtX12_lentOn ivX12_lentOn mlX12_113 (Nat.le_of_ble_eq_true rfl) (Nat.le_of_ble_eq_true rfl) (by omega) (by omega) (hS.at rfl rfl rfl) rfl rfl (s_lentOn (by omega) hS he he2 _ _) ?_
      rintro r_ τ_ ⟨hr_, ht_⟩; subst r_; subst τ_
      refine pw_iconst (v := (-1)) dX12_lend_24 (by decide) ?_
      refine pw_icmp_ne (tgt := 55) dX12_lend_25 (by decide) (fun h25 => ?_) (fun h25 => ?_)
      · refine pw_iconst (v := 0) dX12_lend_55 (by decide) ?_
        refine pw_iret dX12_lend_56 rfl (by first | rfl | exact bI_nar) ?_
        by_cases hok : okGive σ n e t house
        · rw [bI_t hok, if_pos hok]
          first | exact absurd hok.1 (bI_0.mp h5) | exact absurd hok.2.1 (bI_0.mp h12) | exact absurd hok.2.2.1 h25 | exact absurd h38 hok.2.2.2.1 | exact absurd hok.2.2.2.2 (bI_0.mp h48) | exact ⟨rfl, by rw [if_pos hok.2.2.2.2]⟩
        · rw [bI_f hok, if_neg hok]
          first | exact ⟨rfl, rfl⟩ | exact ⟨rfl, by rw [if_neg (bI_0.mp h48)]⟩ | exact absurd ⟨bI_n.mp h5, bI_n.mp h12, h25, h38, bI_n.mp h48⟩ hok
      · refine pw_aload_n dX12_lend_28 rfl ?_
        refine pw_iload_n dX12_lend_29 rfl ?_
        refine pw_aload_n dX12_lend_30 rfl ?_
        refine pw_getI dX12_lend_31 flX12_97 rfl (hS.at rfl rfl rfl) ?_
        refine pw_cV2 (d1 := d - 1) (a1 := 0) (a2 := al) dX12_lend_34 mtX12_ownerOn ivX12_ownerOn mlX12_117 (Nat.le_of_ble_eq_true rfl) (Nat.le_of_ble_eq_true rfl) (by omega) (by omega) (hS.at rfl rfl rfl) rfl rfl (s_ownerOn' hS he he2 hn2 (bI_n.mp h5).1 _) ?_
        rintro r_ τ_ ⟨hr_, ht_⟩; subst r_; subst τ_
        refine pw_iload_n dX12_lend_37 rfl ?_
        refine pw_icmp_eq (tgt := 55) dX12_lend_38 (by decide) (fun h38 => ?_) (fun h38 => ?_)
        · refine pw_iconst (v := 0) dX12_lend_55 (by decide) ?_
          refine pw_iret dX12_lend_56 rfl (by first | rfl | exact bI_nar) ?_
          by_cases hok : okGive σ n e t house
          · rw [bI_t hok, if_pos hok]
            first | exact absurd hok.1 (bI_0.mp h5) | exact absurd hok.2.1 (bI_0.mp h12) | exact absurd hok.2.2.1 h25 | exact absurd h38 hok.2.2.2.1 | exact absurd hok.2.2.2.2 (bI_0.mp h48) | exact ⟨rfl, by rw [if_pos hok.2.2.2.2]⟩
          · rw [bI_f hok, if_neg hok]
            first | exact ⟨rfl, rfl⟩ | exact ⟨rfl, by rw [if_neg (bI_0.mp h48)]⟩ | exact absurd ⟨bI_n.mp h5, bI_n.mp h12, h25, h38, bI_n.mp h48⟩ hok
        · refine pw_aload_n dX12_lend_41 rfl ?_
          refine pw_iload_n dX12_lend_42 rfl ?_
          refine pw_iconst (v := 1) dX12_lend_43 (by decide) ?_
          refine pw_iload_n dX12_lend_44 rfl ?_
          refine pw_cV3 (d1 := d - 1) (a1 := 0) (a2 := al) dX12_lend_45 mtX12_happens ivX12_happens mlX12_120 (Nat.le_of_ble_eq_true rfl) (Nat.le_of_ble_eq_true rfl) (by omega) (by omega) (hS.at rfl rfl rfl) rfl rfl (s_happens hS he he2 _ _ _) ?_
          rintro r_ τ_ ⟨hr_, ht_⟩; subst r_; subst τ_
          refine pw_if_eq (tgt := 55) dX12_lend_48 (by decide) (fun h48 => ?_) (fun h48 => ?_)
          · refine pw_iconst (v := 0) dX12_lend_55 (by decide) ?_
            refine pw_iret dX12_lend_56 rfl (by first | rfl | exact bI_nar) ?_
            by_cases hok : okGive σ n e t house
            · rw [bI_t hok, if_pos hok]
              first | exact absurd hok.1 (bI_0.mp h5) | exact absurd hok.2.1 (bI_0.mp h12) | exact absurd hok.2.2.1 h25 | exact absurd h38 hok.2.2.2.1 | exact absurd hok.2.2.2.2 (bI_0.mp h48) | exact ⟨rfl, by rw [if_pos hok.2.2.2.2]⟩
            · rw [bI_f hok, if_neg hok]
              first | exact ⟨rfl, rfl⟩ | exact ⟨rfl, by rw [if_neg (bI_0.mp h48)]⟩ | exact absurd ⟨bI_n.mp h5, bI_n.mp h12, h25, h38, bI_n.mp h48⟩ hok
          · refine pw_iconst (v := 1) dX12_lend_51 (by decide) ?_
            refine pw_goto (tgt := 56) dX12_lend_52 (by decide) ?_
            refine pw_iret dX12_lend_56 rfl (by first | rfl | exact bI_nar) ?_
            by_cases hok : okGive σ n e t house
            · rw [bI_t hok, if_pos hok]
              first | exact absurd hok.1 (bI_0.mp h5) | exact absurd hok.2.1 (bI_0.mp h12) | exact absurd hok.2.2.1 h25 | exact absurd h38 hok.2.2.2.1 | exact absurd hok.2.2.2.2 (bI_0.mp h48) | exact ⟨rfl, by rw [if_pos hok.2.2.2.2]⟩
            · rw [bI_f hok, if_neg hok]
              first | exact ⟨rfl, rfl⟩ | exact ⟨rfl, by rw [if_neg (bI_0.mp h48)]⟩ | exact absurd ⟨bI_n.mp h5, bI_n.mp h12, h25, h38, bI_n.mp h48⟩ hok
abbrev okBack (σ : pm_S) (n e : Nat) (t : Int32) : Prop := isTh σ n t ∧ m_le σ t (qI σ 43 0) e ≠ -1 ∧ e ≠ 300
theorem s_back {d al n e : Nat} {σ : pm_S} (hd : 3 ≤ d) (hS : pm_fix σ) (hn : qI σ 43 1 = nI n) (hn2 : n ≤ 20) (he : qI σ 43 2 = nI e) (he2 : e ≤ 300) (t : Int32) : PE d al MX12_back [.ref 43, .int t] σ (some (.int (bI (okBack σ n e t)))) (if okBack σ n e t then m_hap σ e t 2 (-1) else σ) := by
  show PW _ _ _ _ _ _ _ _
  refine pw_aload_n dX12_back_0 rfl ?_
  refine pw_iload_n dX12_back_1 rfl ?_
  refine pw_cV1 (d1 := d - 1) (a1 := 0) (a2 := al) dX12_back_2 mtX12_isThere ivX12_isThere mlX12_107 (Nat.le_of_ble_eq_true rfl) (Nat.le_of_ble_eq_true rfl) (by omega) (by omega) (hS.at rfl rfl rfl) rfl rfl (s_isThere (by omega) hS hn hn2 _) ?_
  rintro r_ τ_ ⟨hr_, ht_⟩; subst r_; subst τ_
  refine pw_if_eq (tgt := 35) dX12_back_5 (by decide) (fun h5 => ?_) (fun h5 => ?_)
  · refine pw_iconst (v := 0) dX12_back_35 (by decide) ?_
    refine pw_iret dX12_back_36 rfl (by first | rfl | exact bI_nar) ?_
    by_cases hok : okBack σ n e t
    · rw [bI_t hok, if_pos hok]
      first | exact absurd hok.1 (bI_0.mp h5) | exact absurd h18 hok.2.1 | exact absurd hok.2.2 (bI_0.mp h28) | exact ⟨rfl, by rw [if_pos hok.2.2]⟩
    · rw [bI_f hok, if_neg hok]
      first | exact ⟨rfl, rfl⟩ | exact ⟨rfl, by rw [if_neg (bI_0.mp h28)]⟩ | exact absurd ⟨bI_n.mp h5, h18, bI_n.mp h28⟩ hok
  · refine pw_aload_n dX12_back_8 rfl ?_
    refine pw_iload_n dX12_back_9 rfl ?_
    refine pw_aload_n dX12_back_10 rfl ?_
    refine pw_getI dX12_back_11 flX12_97 rfl (hS.at rfl rfl rfl) ?_
    refine pw_cV2 (d1 := d - 1) (a1 := 0) (a2 := al) dX12_back_14 mtX12_lentOn ivX12_lentOn mlX12_113 (Nat.le_of_ble_eq_true rfl) (Nat.le_of_ble_eq_true rfl) (by omega) (by omega) (hS.at rfl rfl rfl) rfl rfl (s_lentOn (by omega) hS he he2 _ _) ?_
    rintro r_ τ_ ⟨hr_, ht_⟩; subst r_; subst τ_
    refine pw_iconst (v := (-1)) dX12_back_17 (by decide) ?_
    refine pw_icmp_eq (tgt := 35) dX12_back_18 (by decide) (fun h18 => ?_) (fun h18 => ?_)
    · refine pw_iconst (v := 0) dX12_back_35 (by decide) ?_
      refine pw_iret dX12_back_36 rfl (by first | rfl | exact bI_nar) ?_
      by_cases hok : okBack σ n e t
      · rw [bI_t hok, if_pos hok]
        first | exact absurd hok.1 (bI_0.mp h5) | exact absurd h18 hok.2.1 | exact absurd hok.2.2 (bI_0.mp h28) | exact ⟨rfl, by rw [if_pos hok.2.2]⟩
      · rw [bI_f hok, if_neg hok]
        first | exact ⟨rfl, rfl⟩ | exact ⟨rfl, by rw [if_neg (bI_0.mp h28)]⟩ | exact absurd ⟨bI_n.mp h5, h18, bI_n.mp h28⟩ hok
    · refine pw_aload_n dX12_back_21 rfl ?_
      refine pw_iload_n dX12_back_22 rfl ?_
      refine pw_iconst (v := 2) dX12_back_23 (by decide) ?_
      refine pw_iconst (v := (-1)) dX12_back_24 (by decide) ?_
      refine pw_cV3 (d1 := d - 1) (a1 := 0) (a2 := al) dX12_back_25 mtX12_happens ivX12_happens mlX12_120 (Nat.le_of_ble_eq_true rfl) (Nat.le_of_ble_eq_true rfl) (by omega) (by omega) (hS.at rfl rfl rfl) rfl rfl (s_happens hS he he2 _ _ _) ?_
      rintro r_ τ_ ⟨hr_, ht_⟩; subst r_; subst τ_
      refine pw_if_eq (tgt := 35) dX12_back_28 (by decide) (fun h28 => ?_) (fun h28 => ?_)
      · refine pw_iconst (v := 0) dX12_back_35 (by decide) ?_
        refine pw_iret dX12_back_36 rfl (by first | rfl | exact bI_nar) ?_
        by_cases hok : okBack σ n e t
        · rw [bI_t hok, if_pos hok]
          first | exact absurd hok.1 (bI_0.mp h5) | exact absurd h18 hok.2.1 | exact absurd hok.2.2 (bI_0.mp h28) | exact ⟨rfl, by rw [if_pos hok.2.2]⟩
        · rw [bI_f hok, if_neg hok]
          first | exact ⟨rfl, rfl⟩ | exact ⟨rfl, by rw [if_neg (bI_0.mp h28)]⟩ | exact absurd ⟨bI_n.mp h5, h18, bI_n.mp h28⟩ hok
      · refine pw_iconst (v := 1) dX12_back_31 (by decide) ?_
        refine pw_goto (tgt := 36) dX12_back_32 (by decide) ?_
        refine pw_iret dX12_back_36 rfl (by first | rfl | exact bI_nar) ?_
        by_cases hok : okBack σ n e t
        · rw [bI_t hok, if_pos hok]
          first | exact absurd hok.1 (bI_0.mp h5) | exact absurd h18 hok.2.1 | exact absurd hok.2.2 (bI_0.mp h28) | exact ⟨rfl, by rw [if_pos hok.2.2]⟩
        · rw [bI_f hok, if_neg hok]
          first | exact ⟨rfl, rfl⟩ | exact ⟨rfl, by rw [if_neg (bI_0.mp h28)]⟩ | exact absurd ⟨bI_n.mp h5, h18, bI_n.mp h28⟩ hok
abbrev okBurn (σ : pm_S) (n e : Nat) (t : Int32) : Prop := isTh σ n t ∧ e ≠ 300
def m_burn (σ : pm_S) (e : Nat) (t : Int32) : pm_S := pm_sI (m_hap σ e t 3 (-1)) 51 t.toNatClampNeg (qI σ 43 0)
theorem s_burn {d al n e : Nat} {σ : pm_S} (hd : 3 ≤ d) (hS : pm_fix σ) (hn : qI σ 43 1 = nI n) (hn2 : n ≤ 20) (he : qI σ 43 2 = nI e) (he2 : e ≤ 300) (t : Int32) : PE d al MX12_burn [.ref 43, .int t] σ (some (.int (bI (okBurn σ n e t)))) (if okBurn σ n e t then m_burn σ e t else σ) := by
  show PW _ _ _ _ _ _ _ _
  refine pw_aload_n dX12_burn_0 rfl ?_
  refine pw_iload_n dX12_burn_1 rfl ?_
  refine pw_cV1 (d1 := d - 1) (a1 := 0) (a2 := al) dX12_burn_2 mtX12_isThere ivX12_isThere mlX12_107 (Nat.le_of_ble_eq_true rfl) (Nat.le_of_ble_eq_true rfl) (by omega) (by omega) (hS.at rfl rfl rfl) rfl rfl (s_isThere (by omega) hS hn hn2 _) ?_
  rintro r_ τ_ ⟨hr_, ht_⟩; subst r_; subst τ_
  refine pw_if_eq (tgt := 18) dX12_burn_5 (by decide) (fun h5 => ?_) (fun h5 => ?_)
  · refine pw_iconst (v := 0) dX12_burn_18 (by decide) ?_
    refine pw_iret dX12_burn_19 rfl (by first | rfl | exact bI_nar) ?_
    by_cases hok : okBurn σ n e t
    · first | exact absurd hok.1 (bI_0.mp h5) | exact absurd hok.2 (bI_0.mp h15)
    · rw [bI_f hok, if_neg hok]
      first | exact ⟨rfl, rfl⟩ | exact ⟨rfl, by rw [if_neg (bI_0.mp h15)]⟩
  · refine pw_aload_n dX12_burn_8 rfl ?_
    refine pw_iload_n dX12_burn_9 rfl ?_
    refine pw_iconst (v := 3) dX12_burn_10 (by decide) ?_
    refine pw_iconst (v := (-1)) dX12_burn_11 (by decide) ?_
    refine pw_cV3 (d1 := d - 1) (a1 := 0) (a2 := al) dX12_burn_12 mtX12_happens ivX12_happens mlX12_120 (Nat.le_of_ble_eq_true rfl) (Nat.le_of_ble_eq_true rfl) (by omega) (by omega) (hS.at rfl rfl rfl) rfl rfl (s_happens hS he he2 _ _ _) ?_
    rintro r_ τ_ ⟨hr_, ht_⟩; subst r_; subst τ_
    refine pw_if_ne (tgt := 20) dX12_burn_15 (by decide) (fun h15 => ?_) (fun h15 => ?_)
    · have hok : okBurn σ n e t := ⟨bI_n.mp h5, bI_n.mp h15⟩
      obtain ⟨j, hj2, hj⟩ := (tOk_iff (by omega)).mp hok.1.1
      have hj3 : j < 20 := by omega
      have hjc : t.toNatClampNeg = j := by rw [hj]; exact nI_clamp (by omega)
      rw [if_pos hok.2]
      refine pw_aload_n dX12_burn_20 rfl ?_
      refine pw_getF (v := 51) dX12_burn_21 flX12_31 rfl (hS.at rfl rfl rfl) (hS.rf (43, 11, 51) rfl (by decide)) ?_
      refine pw_iload_n dX12_burn_24 rfl ?_
      refine pw_aload_n dX12_burn_25 rfl ?_
      refine pw_getI dX12_burn_26 flX12_97 rfl (hS.at rfl rfl rfl) ?_
      refine pw_iast dX12_burn_29 (hS.at rfl rfl rfl) (by decide) hj (hS.lt rfl rfl hj3 rfl) (by omega) ?_
      refine pw_iconst (v := 1) dX12_burn_30 (by decide) ?_
      refine pw_iret dX12_burn_31 rfl (by first | rfl | exact bI_nar) ?_
      rw [bI_t hok, if_pos hok]
      unfold m_burn
      rw [hjc]
      exact ⟨rfl, rfl⟩
    · refine pw_iconst (v := 0) dX12_burn_18 (by decide) ?_
      refine pw_iret dX12_burn_19 rfl (by first | rfl | exact bI_nar) ?_
      by_cases hok : okBurn σ n e t
      · first | exact absurd hok.1 (bI_0.mp h5) | exact absurd hok.2 (bI_0.mp h15)
      · rw [bI_f hok, if_neg hok]
        first | exact ⟨rfl, rfl⟩ | exact ⟨rfl, by rw [if_neg (bI_0.mp h15)]⟩
abbrev okDays (σ : pm_S) (n : Int32) : Prop := (1 ≤ n ∧ n ≤ 1000) ∧ qI σ 43 0 ≤ 9999 - n
theorem s_days {d al : Nat} {σ : pm_S} (hd : 1 ≤ d) (hS : pm_fix σ) (n : Int32) : PE d al MX12_days [.ref 43, .int n] σ (some (.int (if okDays σ n then qI σ 43 0 + n else -1))) (if okDays σ n then pm_sI σ 43 0 (qI σ 43 0 + n) else σ) := by
  show PW _ _ _ _ _ _ _ _
  refine pw_iload_n dX12_days_0 rfl ?_
  refine pw_iconst (v := 1) dX12_days_1 (by decide) ?_
  refine pw_sipush (v := 1000) dX12_days_2 (by decide) ?_
  refine pw_cS3 (d1 := d - 1) (a1 := 0) (a2 := al) dX12_days_5 mtX12_isIn stX12_isIn mlX12_86 (Nat.le_of_ble_eq_true rfl) (Nat.le_of_ble_eq_true rfl) (by omega) (by omega) (s_isIn _ _ _) ?_
  rintro r_ τ_ ⟨hr_, ht_⟩; subst r_; subst τ_
  refine pw_if_eq (tgt := 23) dX12_days_8 (by decide) (fun h8 => ?_) (fun h8 => ?_)
  · refine pw_iconst (v := (-1)) dX12_days_23 (by decide) ?_
    refine pw_iret dX12_days_24 rfl rfl ?_
    have hno : ¬ okDays σ n := by
      first | exact fun z => bI_0.mp h8 z.1 | exact fun z => h20 z.2
    exact ⟨by rw [if_neg hno], by rw [if_neg hno]⟩
  · refine pw_aload_n dX12_days_11 rfl ?_
    refine pw_getI dX12_days_12 flX12_97 rfl (hS.at rfl rfl rfl) ?_
    refine pw_sipush (v := 9999) dX12_days_15 (by decide) ?_
    refine pw_iload_n dX12_days_18 rfl ?_
    refine pw_isub dX12_days_19 ?_
    refine pw_icmp_le (tgt := 25) dX12_days_20 (by decide) (fun h20 => ?_) (fun h20 => ?_)
    · refine pw_aload_n dX12_days_25 rfl ?_
      refine pw_dup dX12_days_26 rfl ?_
      refine pw_getI dX12_days_27 flX12_97 rfl (hS.at rfl rfl rfl) ?_
      refine pw_iload_n dX12_days_30 rfl ?_
      refine pw_iadd dX12_days_31 ?_
      refine pw_putI dX12_days_32 flX12_97 ⟨_, rfl, Or.inl rfl⟩ rfl (hS.at rfl rfl rfl) ?_
      refine pw_aload_n dX12_days_35 rfl ?_
      refine pw_getI dX12_days_36 flX12_97 rfl (hS.at rfl rfl rfl) ?_
      refine pw_iret dX12_days_39 rfl rfl ?_
      have hok : okDays σ n := ⟨bI_n.mp h8, h20⟩
      rw [if_pos hok, if_pos hok]
      exact ⟨rfl, rfl⟩
    · refine pw_iconst (v := (-1)) dX12_days_23 (by decide) ?_
      refine pw_iret dX12_days_24 rfl rfl ?_
      have hno : ¬ okDays σ n := by
        first | exact fun z => bI_0.mp h8 z.1 | exact fun z => h20 z.2
      exact ⟨by rw [if_neg hno], by rw [if_neg hno]⟩
