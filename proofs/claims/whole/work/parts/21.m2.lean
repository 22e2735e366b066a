/-! ===== the reference: things and what happens ===== -/
theorem s_isThere {d al n : Nat} {σ : pm_S} (hd : 2 ≤ d) (hS : pm_fix σ) (hn : qI σ 43 1 = nI n) (hn2 : n ≤ 20) (v : Int32) : PE d al MX12_isThere [.ref 43, .int v] σ (some (.int (bI (tOk n v ∧ qI σ 51 v.toNatClampNeg = -1)))) σ := by
  show PW _ _ _ _ _ _ _ _
  refine pw_aload_n dX12_isThere_0 rfl ?_
  refine pw_iload_n dX12_isThere_1 rfl ?_
  refine pw_cV1 (d1 := d - 1) (a1 := 0) (a2 := al) dX12_isThere_2 mtX12_isThing ivX12_isThing mlX12_93 (Nat.le_of_ble_eq_true rfl) (Nat.le_of_ble_eq_true rfl) (by omega) (by omega) (hS.at rfl rfl rfl) rfl rfl (s_isThing (by omega) hS v) ?_
  rintro r_ τ_ ⟨hr_, ht_⟩; subst r_; subst τ_
  refine pw_if_eq (tgt := 22) dX12_isThere_5 (by decide) (fun h5 => ?_) (fun h5 => ?_)
  · refine pw_iconst (v := 0) dX12_isThere_22 (by decide) ?_
    refine pw_iret dX12_isThere_23 rfl rfl ?_
    refine ⟨?_, rfl⟩
    rw [bI_f]
    intro z
    rw [hn] at h5
    exact bI_0.mp h5 z.1
  · rw [hn, bI_n] at h5
    obtain ⟨j, hjn0, hj⟩ := (tOk_iff (by omega)).mp h5
    have hjn : j < 20 := by omega
    have hjc : v.toNatClampNeg = j := by rw [hj]; exact nI_clamp (by omega)
    refine pw_aload_n dX12_isThere_8 rfl ?_
    refine pw_getF (v := 51) dX12_isThere_9 flX12_31 rfl (hS.at rfl rfl rfl) (hS.rf (43, 11, 51) rfl (by decide)) ?_
    refine pw_iload_n dX12_isThere_12 rfl ?_
    refine pw_iald dX12_isThere_13 (hS.at rfl rfl rfl) hj (hS.lt rfl rfl hjn rfl) (by omega) ?_
    refine pw_iconst (v := (-1)) dX12_isThere_14 (by decide) ?_
    refine pw_icmp_ne (tgt := 22) dX12_isThere_15 (by decide) (fun h15 => ?_) (fun h15 => ?_)
    · refine pw_iconst (v := 0) dX12_isThere_22 (by decide) ?_
      refine pw_iret dX12_isThere_23 rfl (by first | rfl | exact bI_nar) ?_
      refine ⟨?_, rfl⟩
      rw [hjc]
      by_cases hq : qI σ 51 j = -1
      · first | exact absurd hq h15 | rw [bI_t ⟨h5, hq⟩]
      · first | exact absurd h15 hq | rw [bI_f (fun z => hq z.2)]
    · refine pw_iconst (v := 1) dX12_isThere_18 (by decide) ?_
      refine pw_goto (tgt := 23) dX12_isThere_19 (by decide) ?_
      refine pw_iret dX12_isThere_23 rfl (by first | rfl | exact bI_nar) ?_
      refine ⟨?_, rfl⟩
      rw [hjc]
      by_cases hq : qI σ 51 j = -1
      · first | exact absurd hq h15 | rw [bI_t ⟨h5, hq⟩]
      · first | exact absurd h15 hq | rw [bI_f (fun z => hq z.2)]
/-- a thing comes: the state behind it -/
def m_comes (σ : pm_S) (n : Nat) (k r c s house of : Int32) : pm_S := pm_sI (pm_sI (pm_sI (pm_sI (pm_sI (pm_sI (pm_sI (pm_sI (pm_sI σ 43 1 (qI σ 43 1 + 1)) 44 n k) 45 n r) 46 n c) 47 n s) 48 n (qI σ 43 0)) 49 n of) 50 n house) 51 n (-1)
theorem s_comes {d al n : Nat} {σ : pm_S} (hS : pm_fix σ) (hn : qI σ 43 1 = nI n) (hn2 : n < 20) (k r c s house of : Int32) : PE d al MX12_comes [.ref 43, .int k, .int r, .int c, .int s, .int house, .int of] σ (some (.int (nI n))) (m_comes σ n k r c s house of) := by
  show PW _ _ _ _ _ _ _ _
  refine pw_aload_n dX12_comes_0 rfl ?_
  refine pw_getI dX12_comes_1 flX12_90 rfl (hS.at rfl rfl rfl) ?_
  refine pw_istore dX12_comes_4 (Nat.le_of_ble_eq_true rfl) (Nat.le_of_ble_eq_true rfl) rfl ?_
  refine pw_aload_n dX12_comes_6 rfl ?_
  refine pw_dup dX12_comes_7 rfl ?_
  refine pw_getI dX12_comes_8 flX12_90 rfl (hS.at rfl rfl rfl) ?_
  refine pw_iconst (v := 1) dX12_comes_11 (by decide) ?_
  refine pw_iadd dX12_comes_12 ?_
  refine pw_putI dX12_comes_13 flX12_90 ⟨_, rfl, Or.inl rfl⟩ rfl (hS.at rfl rfl rfl) ?_
  refine pw_aload_n dX12_comes_16 rfl ?_
  refine pw_getF (v := 44) dX12_comes_17 flX12_7 rfl (hS.at rfl rfl rfl) (hS.rf (43, 4, 44) rfl (by decide)) ?_
  refine pw_iload dX12_comes_20 rfl ?_
  refine pw_iload_n dX12_comes_22 rfl ?_
  refine pw_iast dX12_comes_23 (hS.at rfl rfl rfl) (by decide) hn (hS.lt rfl rfl hn2 rfl) (by omega) ?_
  refine pw_aload_n dX12_comes_24 rfl ?_
  refine pw_getF (v := 45) dX12_comes_25 flX12_13 rfl (hS.at rfl rfl rfl) (hS.rf (43, 5, 45) rfl (by decide)) ?_
  refine pw_iload dX12_comes_28 rfl ?_
  refine pw_iload_n dX12_comes_30 rfl ?_
  refine pw_iast dX12_comes_31 (hS.at rfl rfl rfl) (by decide) hn (hS.lt rfl rfl hn2 rfl) (by omega) ?_
  refine pw_aload_n dX12_comes_32 rfl ?_
  refine pw_getF (v := 46) dX12_comes_33 flX12_16 rfl (hS.at rfl rfl rfl) (hS.rf (43, 6, 46) rfl (by decide)) ?_
  refine pw_iload dX12_comes_36 rfl ?_
  refine pw_iload_n dX12_comes_38 rfl ?_
  refine pw_iast dX12_comes_39 (hS.at rfl rfl rfl) (by decide) hn (hS.lt rfl rfl hn2 rfl) (by omega) ?_
  refine pw_aload_n dX12_comes_40 rfl ?_
  refine pw_getF (v := 47) dX12_comes_41 flX12_19 rfl (hS.at rfl rfl rfl) (hS.rf (43, 7, 47) rfl (by decide)) ?_
  refine pw_iload dX12_comes_44 rfl ?_
  refine pw_iload dX12_comes_46 rfl ?_
  refine pw_iast dX12_comes_48 (hS.at rfl rfl rfl) (by decide) hn (hS.lt rfl rfl hn2 rfl) (by omega) ?_
  refine pw_aload_n dX12_comes_49 rfl ?_
  refine pw_getF (v := 48) dX12_comes_50 flX12_22 rfl (hS.at rfl rfl rfl) (hS.rf (43, 8, 48) rfl (by decide)) ?_
  refine pw_iload dX12_comes_53 rfl ?_
  refine pw_aload_n dX12_comes_55 rfl ?_
  refine pw_getI dX12_comes_56 flX12_97 rfl (hS.at rfl rfl rfl) ?_
  refine pw_iast dX12_comes_59 (hS.at rfl rfl rfl) (by decide) hn (hS.lt rfl rfl hn2 rfl) (by omega) ?_
  refine pw_aload_n dX12_comes_60 rfl ?_
  refine pw_getF (v := 49) dX12_comes_61 flX12_25 rfl (hS.at rfl rfl rfl) (hS.rf (43, 9, 49) rfl (by decide)) ?_
  refine pw_iload dX12_comes_64 rfl ?_
  refine pw_iload dX12_comes_66 rfl ?_
  refine pw_iast dX12_comes_68 (hS.at rfl rfl rfl) (by decide) hn (hS.lt rfl rfl hn2 rfl) (by omega) ?_
  refine pw_aload_n dX12_comes_69 rfl ?_
  refine pw_getF (v := 50) dX12_comes_70 flX12_28 rfl (hS.at rfl rfl rfl) (hS.rf (43, 10, 50) rfl (by decide)) ?_
  refine pw_iload dX12_comes_73 rfl ?_
  refine pw_iload dX12_comes_75 rfl ?_
  refine pw_iast dX12_comes_77 (hS.at rfl rfl rfl) (by decide) hn (hS.lt rfl rfl hn2 rfl) (by omega) ?_
  refine pw_aload_n dX12_comes_78 rfl ?_
  refine pw_getF (v := 51) dX12_comes_79 flX12_31 rfl (hS.at rfl rfl rfl) (hS.rf (43, 11, 51) rfl (by decide)) ?_
  refine pw_iload dX12_comes_82 rfl ?_
  refine pw_iconst (v := (-1)) dX12_comes_84 (by decide) ?_
  refine pw_iast dX12_comes_85 (hS.at rfl rfl rfl) (by decide) hn (hS.lt rfl rfl hn2 rfl) (by omega) ?_
  refine pw_iload dX12_comes_86 rfl ?_
  refine pw_iret dX12_comes_88 rfl rfl ?_
  exact ⟨by rw [hn], rfl⟩
abbrev okThing (n : Nat) (k r c s house : Int32) : Prop := (0 ≤ k ∧ k ≤ 4) ∧ (0 ≤ r ∧ r ≤ 9) ∧ (0 ≤ c ∧ c ≤ 9) ∧ (1 ≤ s ∧ s ≤ 15) ∧ (0 ≤ house ∧ house ≤ 7) ∧ n ≠ 20
theorem s_thing {d al n : Nat} {σ : pm_S} (hd : 3 ≤ d) (hS : pm_fix σ) (hn : qI σ 43 1 = nI n) (hn2 : n ≤ 20) (k r c s house : Int32) : PE d al MX12_thing [.ref 43, .int k, .int r, .int c, .int s, .int house] σ (some (.int (if okThing n k r c s house then nI n else -1))) (if okThing n k r c s house then m_comes σ n k r c s house (-1) else σ) := by
  show PW _ _ _ _ _ _ _ _
  refine pw_iload_n dX12_thing_0 rfl ?_
  refine pw_iconst (v := 0) dX12_thing_1 (by decide) ?_
  refine pw_iconst (v := 4) dX12_thing_2 (by decide) ?_
  refine pw_cS3 (d1 := d - 1) (a1 := 0) (a2 := al) dX12_thing_3 mtX12_isIn stX12_isIn mlX12_86 (Nat.le_of_ble_eq_true rfl) (Nat.le_of_ble_eq_true rfl) (by omega) (by omega) (s_isIn _ _ _) ?_
  rintro r_ τ_ ⟨hr_, ht_⟩; subst r_; subst τ_
  refine pw_if_eq (tgt := 57) dX12_thing_6 (by decide) (fun h6 => ?_) (fun h6 => ?_)
  · refine pw_iconst (v := (-1)) dX12_thing_57 (by decide) ?_
    refine pw_iret dX12_thing_58 rfl rfl ?_
    have hno : ¬ okThing n k r c s house := by
      first | exact fun z => bI_0.mp h6 z.1 | exact fun z => bI_0.mp h16 z.2.1 | exact fun z => bI_0.mp h26 z.2.2.1 | exact fun z => bI_0.mp h37 z.2.2.2.1 | exact fun z => bI_0.mp h45 z.2.2.2.2.1 | exact fun z => z.2.2.2.2.2 (nI_inj (by omega) (by omega) (hn.symm.trans h54))
    exact ⟨by rw [if_neg hno], by rw [if_neg hno]⟩
  · refine pw_iload_n dX12_thing_9 rfl ?_
    refine pw_iconst (v := 0) dX12_thing_10 (by decide) ?_
    refine pw_bipush (v := 9) dX12_thing_11 (by decide) ?_
    refine pw_cS3 (d1 := d - 1) (a1 := 0) (a2 := al) dX12_thing_13 mtX12_isIn stX12_isIn mlX12_86 (Nat.le_of_ble_eq_true rfl) (Nat.le_of_ble_eq_true rfl) (by omega) (by omega) (s_isIn _ _ _) ?_
    rintro r_ τ_ ⟨hr_, ht_⟩; subst r_; subst τ_
    refine pw_if_eq (tgt := 57) dX12_thing_16 (by decide) (fun h16 => ?_) (fun h16 => ?_)
    · refine pw_iconst (v := (-1)) dX12_thing_57 (by decide) ?_
      refine pw_iret dX12_thing_58 rfl rfl ?_
      have hno : ¬ okThing n k r c s house := by
        first | exact fun z => bI_0.mp h6 z.1 | exact fun z => bI_0.mp h16 z.2.1 | exact fun z => bI_0.mp h26 z.2.2.1 | exact fun z => bI_0.mp h37 z.2.2.2.1 | exact fun z => bI_0.mp h45 z.2.2.2.2.1 | exact fun z => z.2.2.2.2.2 (nI_inj (by omega) (by omega) (hn.symm.trans h54))
      exact ⟨by rw [if_neg hno], by rw [if_neg hno]⟩
    · refine pw_iload_n dX12_thing_19 rfl ?_
      refine pw_iconst (v := 0) dX12_thing_20 (by decide) ?_
      refine pw_bipush (v := 9) dX12_thing_21 (by decide) ?_
      refine pw_cS3 (d1 := d - 1) (a1 := 0) (a2 := al) dX12_thing_23 mtX12_isIn stX12_isIn mlX12_86 (Nat.le_of_ble_eq_true rfl) (Nat.le_of_ble_eq_true rfl) (by omega) (by omega) (s_isIn _ _ _) ?_
      rintro r_ τ_ ⟨hr_, ht_⟩; subst r_; subst τ_
      refine pw_if_eq (tgt := 57) dX12_thing_26 (by decide) (fun h26 => ?_) (fun h26 => ?_)
      · refine pw_iconst (v := (-1)) dX12_thing_57 (by decide) ?_
        refine pw_iret dX12_thing_58 rfl rfl ?_
        have hno : ¬ okThing n k r c s house := by
          first | exact fun z => bI_0.mp h6 z.1 | exact fun z => bI_0.mp h16 z.2.1 | exact fun z => bI_0.mp h26 z.2.2.1 | exact fun z => bI_0.mp h37 z.2.2.2.1 | exact fun z => bI_0.mp h45 z.2.2.2.2.1 | exact fun z => z.2.2.2.2.2 (nI_inj (by omega) (by omega) (hn.symm.trans h54))
        exact ⟨by rw [if_neg hno], by rw [if_neg hno]⟩
      · refine pw_iload dX12_thing_29 rfl ?_
        refine pw_iconst (v := 1) dX12_thing_31 (by decide) ?_
        refine pw_bipush (v := 15) dX12_thing_32 (by decide) ?_
        refine pw_cS3 (d1 := d - 1) (a1 := 0) (a2 := al) dX12_thing_34 mtX12_isIn stX12_isIn mlX12_86 (Nat.le_of_ble_eq_true rfl) (Nat.le_of_ble_eq_true rfl) (by omega) (by omega) (s_isIn _ _ _) ?_
        rintro r_ τ_ ⟨hr_, ht_⟩; subst r_; subst τ_
        refine pw_if_eq (tgt := 57) dX12_thing_37 (by decide) (fun h37 => ?_) (fun h37 => ?_)
        · refine pw_iconst (v := (-1)) dX12_thing_57 (by decide) ?_
          refine pw_iret dX12_thing_58 rfl rfl ?_
          have hno : ¬ okThing n k r c s house := by
            first | exact fun z => bI_0.mp h6 z.1 | exact fun z => bI_0.mp h16 z.2.1 | exact fun z => bI_0.mp h26 z.2.2.1 | exact fun z => bI_0.mp h37 z.2.2.2.1 | exact fun z => bI_0.mp h45 z.2.2.2.2.1 | exact fun z => z.2.2.2.2.2 (nI_inj (by omega) (by omega) (hn.symm.trans h54))
          exact ⟨by rw [if_neg hno], by rw [if_neg hno]⟩
        · refine pw_iload dX12_thing_40 rfl ?_
          refine pw_cS1 (d1 := d - 1) (a1 := 0) (a2 := al) dX12_thing_42 mtX12_isHouse stX12_isHouse mlX12_100 (Nat.le_of_ble_eq_true rfl) (Nat.le_of_ble_eq_true rfl) (by omega) (by omega) (s_isHouse (by omega) _) ?_
          rintro r_ τ_ ⟨hr_, ht_⟩; subst r_; subst τ_
          refine pw_if_eq (tgt := 57) dX12_thing_45 (by decide) (fun h45 => ?_) (fun h45 => ?_)
          · refine pw_iconst (v := (-1)) dX12_thing_57 (by decide) ?_
            refine pw_iret dX12_thing_58 rfl rfl ?_
            have hno : ¬ okThing n k r c s house := by
              first | exact fun z => bI_0.mp h6 z.1 | exact fun z => bI_0.mp h16 z.2.1 | exact fun z => bI_0.mp h26 z.2.2.1 | exact fun z => bI_0.mp h37 z.2.2.2.1 | exact fun z => bI_0.mp h45 z.2.2.2.2.1 | exact fun z => z.2.2.2.2.2 (nI_inj (by omega) (by omega) (hn.symm.trans h54))
            exact ⟨by rw [if_neg hno], by rw [if_neg hno]⟩
          · refine pw_aload_n dX12_thing_48 rfl ?_
            refine pw_getI dX12_thing_49 flX12_90 rfl (hS.at rfl rfl rfl) ?_
            refine pw_bipush (v := 20) dX12_thing_52 (by decide) ?_
            refine pw_icmp_ne (tgt := 59) dX12_thing_54 (by decide) (fun h54 => ?_) (fun h54 => ?_)
            · have hok : okThing n k r c s house := ⟨bI_n.mp h6, bI_n.mp h16, bI_n.mp h26, bI_n.mp h37, bI_n.mp h45, fun z => h54 (by rw [hn, z]; rfl)⟩
              have hn3 : n < 20 := by have := hok.2.2.2.2.2; omega
              refine pw_aload_n dX12_thing_59 rfl ?_
              refine pw_iload_n dX12_thing_60 rfl ?_
              refine pw_iload_n dX12_thing_61 rfl ?_
              refine pw_iload_n dX12_thing_62 rfl ?_
              refine pw_iload dX12_thing_63 rfl ?_
              refine pw_iload dX12_thing_65 rfl ?_
              refine pw_iconst (v := (-1)) dX12_thing_67 (by decide) ?_
              refine pw_cV6 (d1 := d - 1) (a1 := 0) (a2 := al) dX12_thing_68 mtX12_comes ivX12_comes mlX12_103 (Nat.le_of_ble_eq_true rfl) (Nat.le_of_ble_eq_true rfl) (by omega) (by omega) (hS.at rfl rfl rfl) rfl rfl (s_comes hS hn (by omega) _ _ _ _ _ _) ?_
              rintro r_ τ_ ⟨hr_, ht_⟩; subst r_; subst τ_
              refine pw_iret dX12_thing_71 rfl rfl ?_
              exact ⟨by rw [if_pos hok], by rw [if_pos hok]⟩
            · refine pw_iconst (v := (-1)) dX12_thing_57 (by decide) ?_
              refine pw_iret dX12_thing_58 rfl rfl ?_
              have hno : ¬ okThing n k r c s house := by
                first | exact fun z => bI_0.mp h6 z.1 | exact fun z => bI_0.mp h16 z.2.1 | exact fun z => bI_0.mp h26 z.2.2.1 | exact fun z => bI_0.mp h37 z.2.2.2.1 | exact fun z => bI_0.mp h45 z.2.2.2.2.1 | exact fun z => z.2.2.2.2.2 (nI_inj (by omega) (by omega) (hn.symm.trans h54))
              exact ⟨by rw [if_neg hno], by rw [if_neg hno]⟩
