/-! ===== the reference: plain questions ===== -/
theorem s_isIn {d al : Nat} {σ : pm_S} (v a b : Int32) : PE d al MX12_isIn [.int v, .int a, .int b] σ (some (.int (bI (a ≤ v ∧ v ≤ b)))) σ := by
  show PW _ _ _ _ _ _ _ _
  refine pw_iload_n dX12_isIn_0 rfl ?_
  refine pw_iload_n dX12_isIn_1 rfl ?_
  refine pw_icmp_lt (tgt := 14) dX12_isIn_2 (by decide) (fun h2 => ?_) (fun h2 => ?_)
  · refine pw_iconst (v := 0) dX12_isIn_14 (by decide) ?_
    refine pw_iret dX12_isIn_15 rfl (by first | rfl | exact bI_nar) ?_
    first | exact ⟨by rw [bI_f (fun z => Int32.not_le.mpr h2 z.1)], rfl⟩ | exact ⟨by rw [bI_f (fun z => Int32.not_le.mpr h7 z.2)], rfl⟩ | exact ⟨by rw [bI_t ⟨Int32.not_lt.mp h2, Int32.not_lt.mp h7⟩], rfl⟩
  · refine pw_iload_n dX12_isIn_5 rfl ?_
    refine pw_iload_n dX12_isIn_6 rfl ?_
    refine pw_icmp_gt (tgt := 14) dX12_isIn_7 (by decide) (fun h7 => ?_) (fun h7 => ?_)
    · refine pw_iconst (v := 0) dX12_isIn_14 (by decide) ?_
      refine pw_iret dX12_isIn_15 rfl (by first | rfl | exact bI_nar) ?_
      first | exact ⟨by rw [bI_f (fun z => Int32.not_le.mpr h2 z.1)], rfl⟩ | exact ⟨by rw [bI_f (fun z => Int32.not_le.mpr h7 z.2)], rfl⟩ | exact ⟨by rw [bI_t ⟨Int32.not_lt.mp h2, Int32.not_lt.mp h7⟩], rfl⟩
    · refine pw_iconst (v := 1) dX12_isIn_10 (by decide) ?_
      refine pw_goto (tgt := 15) dX12_isIn_11 (by decide) ?_
      refine pw_iret dX12_isIn_15 rfl (by first | rfl | exact bI_nar) ?_
      first | exact ⟨by rw [bI_f (fun z => Int32.not_le.mpr h2 z.1)], rfl⟩ | exact ⟨by rw [bI_f (fun z => Int32.not_le.mpr h7 z.2)], rfl⟩ | exact ⟨by rw [bI_t ⟨Int32.not_lt.mp h2, Int32.not_lt.mp h7⟩], rfl⟩
theorem s_isHouse {d al : Nat} {σ : pm_S} (hd : 1 ≤ d) (v : Int32) : PE d al MX12_isHouse [.int v] σ (some (.int (bI (0 ≤ v ∧ v ≤ 7)))) σ := by
  show PW _ _ _ _ _ _ _ _
  refine pw_iload_n dX12_isHouse_0 rfl ?_
  refine pw_iconst (v := 0) dX12_isHouse_1 (by decide) ?_
  refine pw_bipush (v := 7) dX12_isHouse_2 (by decide) ?_
  refine pw_cS3 (d1 := d - 1) (a1 := 0) (a2 := al) dX12_isHouse_4 mtX12_isIn stX12_isIn mlX12_86 (Nat.le_of_ble_eq_true rfl) (Nat.le_of_ble_eq_true rfl) (by omega) (by omega) (s_isIn _ _ _) ?_
  rintro r_ τ_ ⟨hr_, ht_⟩; subst r_; subst τ_
  refine pw_iret dX12_isHouse_7 rfl (by first | rfl | exact bI_nar) ?_
  exact ⟨rfl, rfl⟩
theorem s_areGuests {d al : Nat} {σ : pm_S} (hd : 1 ≤ d) (v : Int32) : PE d al MX12_areGuests [.int v] σ (some (.int (bI (1 ≤ v ∧ v ≤ 255)))) σ := by
  show PW _ _ _ _ _ _ _ _
  refine pw_iload_n dX12_areGuests_0 rfl ?_
  refine pw_iconst (v := 1) dX12_areGuests_1 (by decide) ?_
  refine pw_sipush (v := 255) dX12_areGuests_2 (by decide) ?_
  refine pw_cS3 (d1 := d - 1) (a1 := 0) (a2 := al) dX12_areGuests_5 mtX12_isIn stX12_isIn mlX12_86 (Nat.le_of_ble_eq_true rfl) (Nat.le_of_ble_eq_true rfl) (by omega) (by omega) (s_isIn _ _ _) ?_
  rintro r_ τ_ ⟨hr_, ht_⟩; subst r_; subst τ_
  refine pw_iret dX12_areGuests_8 rfl (by first | rfl | exact bI_nar) ?_
  exact ⟨rfl, rfl⟩
theorem s_isSeason {d al : Nat} {σ : pm_S} (hd : 1 ≤ d) (v : Int32) : PE d al MX12_isSeason [.int v] σ (some (.int (bI (0 ≤ v ∧ v ≤ 3)))) σ := by
  show PW _ _ _ _ _ _ _ _
  refine pw_iload_n dX12_isSeason_0 rfl ?_
  refine pw_iconst (v := 0) dX12_isSeason_1 (by decide) ?_
  refine pw_iconst (v := 3) dX12_isSeason_2 (by decide) ?_
  refine pw_cS3 (d1 := d - 1) (a1 := 0) (a2 := al) dX12_isSeason_3 mtX12_isIn stX12_isIn mlX12_86 (Nat.le_of_ble_eq_true rfl) (Nat.le_of_ble_eq_true rfl) (by omega) (by omega) (s_isIn _ _ _) ?_
  rintro r_ τ_ ⟨hr_, ht_⟩; subst r_; subst τ_
  refine pw_iret dX12_isSeason_6 rfl (by first | rfl | exact bI_nar) ?_
  exact ⟨rfl, rfl⟩
theorem s_isThing {d al : Nat} {σ : pm_S} (hd : 1 ≤ d) (hS : pm_fix σ) (v : Int32) : PE d al MX12_isThing [.ref 43, .int v] σ (some (.int (bI (0 ≤ v ∧ v ≤ qI σ 43 1 - 1)))) σ := by
  show PW _ _ _ _ _ _ _ _
  refine pw_iload_n dX12_isThing_0 rfl ?_
  refine pw_iconst (v := 0) dX12_isThing_1 (by decide) ?_
  refine pw_aload_n dX12_isThing_2 rfl ?_
  refine pw_getI dX12_isThing_3 flX12_90 rfl (hS.at rfl rfl rfl) ?_
  refine pw_iconst (v := 1) dX12_isThing_6 (by decide) ?_
  refine pw_isub dX12_isThing_7 ?_
  refine pw_cS3 (d1 := d - 1) (a1 := 0) (a2 := al) dX12_isThing_8 mtX12_isIn stX12_isIn mlX12_86 (Nat.le_of_ble_eq_true rfl) (Nat.le_of_ble_eq_true rfl) (by omega) (by omega) (s_isIn _ _ _) ?_
  rintro r_ τ_ ⟨hr_, ht_⟩; subst r_; subst τ_
  refine pw_iret dX12_isThing_11 rfl (by first | rfl | exact bI_nar) ?_
  exact ⟨rfl, rfl⟩
