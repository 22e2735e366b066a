/-! ===== the class: gather, gathering, seen, again ===== -/
theorem tS_ts {σ : pm_S} {n a : Nat} {T : Nat → Option Nat} (ha : a = 35 ∨ a = 40) (h : ∀ i s, T i = some s → s < n) : tS (c_ts σ a T) n a T := ⟨fun k hk => by rw [c_ts_a hk, tr_ts ha], h⟩
theorem cT.ts {σ : pm_S} {n a : Nat} {X : Nat → List c_A} {T : Nat → Option Nat} (h : cT σ n X) (ha : a = 35 ∨ a = 40) : cT (c_ts σ a T) n X := h.to (fun _ _ _ => rfl) (fun b k hb => c_ts_R (by omega) k) rfl rfl
abbrev okGp (m : Nat) (house season guests : Int32) : Prop := (0 ≤ house ∧ house ≤ 7) ∧ (0 ≤ season ∧ season ≤ 3) ∧ (1 ≤ guests ∧ guests ≤ 255) ∧ m ≠ 60
abbrev okGC (X : Nat → List c_A) (K : Nat → Nat) (n m : Nat) (house season guests set : Int32) : Prop := okGp m house season guests ∧ (rd K n set).1 = true ∧ akl X house (rd K n set).2 5 0 = true
theorem t_gather {d al n m : Nat} {σ : pm_S} {X : Nat → List c_A} {K : Nat → Nat} (hd : 3 ≤ d) (hS : pm_fix σ) (hT : cT σ n X) (hK : ∀ t, t < n → qI σ (qR σ 8 t) 1 = nI (K t) ∧ K t < 5) (hm : qI σ 9 2 = nI m) (hm2 : m ≤ 60) (house season guests set : Int32) : PE d al MX11_gather [.ref 6, .int house, .int season, .int guests, .int set] σ (some (.int (if okGC X K n m house season guests set then nI m else -1))) (if okGp m house season guests then (if okGC X K n m house season guests set then c_put (c_ts σ 35 (rd K n set).2) m (rd K n set).2 house (qI σ 6 0) season guests else c_ts σ 35 (rd K n set).2) else σ) := by
  show PW _ _ _ _ _ _ _ _
  have hlt := rd_lt (K := K) (set := set) hT.2.1
  have hA := tS_ts (σ := σ) (a := 35) (Or.inl rfl) hlt
  have hT' := hT.ts (a := 35) (T := (rd K n set).2) (Or.inl rfl)
  have hC := hS.ts1
  have hC' := hC.ts (T := (rd K n set).2)
  have hS' := hS.ts (a := 35) (T := (rd K n set).2) (Or.inl rfl)
  have g8 : qR (c_ts σ 35 (rd K n set).2) 6 8 = 34 := hS'.rf (6, 8, 34) rfl (by decide)
  have g3 : qR (c_ts σ 35 (rd K n set).2) 6 3 = 9 := hS'.rf (6, 3, 9) rfl (by decide)
  refine pw_iload_n dX11_gather_0 rfl ?_
  refine pw_cS1 (d1 := d - 1) (a1 := 0) (a2 := al) dX11_gather_1 mtX11_isHouse stX11_isHouse mlX11_87 (Nat.le_of_ble_eq_true rfl) (Nat.le_of_ble_eq_true rfl) (by omega) (by omega) (t_house (by omega) _) ?_
  rintro r_ τ_ ⟨hr_, ht_⟩; subst r_; subst τ_
  refine pw_if_eq (tgt := 31) dX11_gather_4 (by decide) (fun h4 => ?_) (fun h4 => ?_)
  · refine pw_iconst (v := (-1)) dX11_gather_31 (by decide) ?_
    refine pw_iret dX11_gather_32 rfl rfl ?_
    have hno : ¬ okGp m house season guests := by
      first | exact fun z => bI_0.mp h4 z.1 | exact fun z => bI_0.mp h11 z.2.1 | exact fun z => bI_0.mp h18 z.2.2.1 | exact fun z => z.2.2.2 (bI_n.mp h28)
    have hno2 : ¬ okGC X K n m house season guests set := fun z => hno z.1
    exact ⟨by rw [if_neg hno2], by rw [if_neg hno]⟩
  · refine pw_iload_n dX11_gather_7 rfl ?_
    refine pw_cS1 (d1 := d - 1) (a1 := 0) (a2 := al) dX11_gather_8 mtX11_isSeason stX11_isSeason mlX11_198 (Nat.le_of_ble_eq_true rfl) (Nat.le_of_ble_eq_true rfl) (by omega) (by omega) (t_season (by omega) _) ?_
    rintro r_ τ_ ⟨hr_, ht_⟩; subst r_; subst τ_
    refine pw_if_eq (tgt := 31) dX11_gather_11 (by decide) (fun h11 => ?_) (fun h11 => ?_)
    · refine pw_iconst (v := (-1)) dX11_gather_31 (by decide) ?_
      refine pw_iret dX11_gather_32 rfl rfl ?_
      have hno : ¬ okGp m house season guests := by
        first | exact fun z => bI_0.mp h4 z.1 | exact fun z => bI_0.mp h11 z.2.1 | exact fun z => bI_0.mp h18 z.2.2.1 | exact fun z => z.2.2.2 (bI_n.mp h28)
      have hno2 : ¬ okGC X K n m house season guests set := fun z => hno z.1
      exact ⟨by rw [if_neg hno2], by rw [if_neg hno]⟩
    · refine pw_iload_n dX11_gather_14 rfl ?_
      refine pw_cS1 (d1 := d - 1) (a1 := 0) (a2 := al) dX11_gather_15 mtX11_isGuests stX11_isGuests mlX11_201 (Nat.le_of_ble_eq_true rfl) (Nat.le_of_ble_eq_true rfl) (by omega) (by omega) (t_guests (by omega) _) ?_
      rintro r_ τ_ ⟨hr_, ht_⟩; subst r_; subst τ_
      refine pw_if_eq (tgt := 31) dX11_gather_18 (by decide) (fun h18 => ?_) (fun h18 => ?_)
      · refine pw_iconst (v := (-1)) dX11_gather_31 (by decide) ?_
        refine pw_iret dX11_gather_32 rfl rfl ?_
        have hno : ¬ okGp m house season guests := by
          first | exact fun z => bI_0.mp h4 z.1 | exact fun z => bI_0.mp h11 z.2.1 | exact fun z => bI_0.mp h18 z.2.2.1 | exact fun z => z.2.2.2 (bI_n.mp h28)
        have hno2 : ¬ okGC X K n m house season guests set := fun z => hno z.1
        exact ⟨by rw [if_neg hno2], by rw [if_neg hno]⟩
      · refine pw_aload_n dX11_gather_21 rfl ?_
        refine pw_getF (v := 9) dX11_gather_22 flX11_26 rfl (hS.at rfl rfl rfl) (hS.rf (6, 3, 9) rfl (by decide)) ?_
        refine pw_cV0 (d1 := d - 1) (a1 := 0) (a2 := al) dX11_gather_25 mtX3_isFull ivX3_isFull mlX11_204 (Nat.le_of_ble_eq_true rfl) (Nat.le_of_ble_eq_true rfl) (by omega) (by omega) (hS.at rfl rfl rfl) rfl rfl (t_mfull hS hm hm2) ?_
        rintro r_ τ_ ⟨hr_, ht_⟩; subst r_; subst τ_
        refine pw_if_eq (tgt := 33) dX11_gather_28 (by decide) (fun h28 => ?_) (fun h28 => ?_)
        · have hp : okGp m house season guests := ⟨bI_n.mp h4, bI_n.mp h11, bI_n.mp h18, bI_0.mp h28⟩
          rw [if_pos hp]
          refine pw_aload_n dX11_gather_33 rfl ?_
          refine pw_getF (v := 34) dX11_gather_34 flX11_59 rfl (hS.at rfl rfl rfl) (hS.rf (6, 8, 34) rfl (by decide)) ?_
          refine pw_iload dX11_gather_37 rfl ?_
          refine pw_aload_n dX11_gather_39 rfl ?_
          refine pw_getF (v := 7) dX11_gather_40 flX11_19 rfl (hS.at rfl rfl rfl) (hS.rf (6, 2, 7) rfl (by decide)) ?_
          refine pw_cV2 (d1 := d - 1) (a1 := 0) (a2 := al) dX11_gather_43 mtX8_read ivX8_read mlX11_205 (Nat.le_of_ble_eq_true rfl) (Nat.le_of_ble_eq_true rfl) (by omega) (by omega) (hS.at rfl rfl rfl) rfl rfl (t_read (by omega) hS hT hC hK set) ?_
          rintro r_ τ_ ⟨hr_, ht_⟩; subst r_; subst τ_
          replace hS := hS'
          refine pw_if_eq (tgt := 60) dX11_gather_46 (by decide) (fun h46 => ?_) (fun h46 => ?_)
          · refine pw_iconst (v := (-1)) dX11_gather_60 (by decide) ?_
            refine pw_iret dX11_gather_61 rfl rfl ?_
            have hno2 : ¬ okGC X K n m house season guests set := by
              first | exact fun z => bI_0.mp h46 z.2.1 | exact fun z => bI_0.mp h57 z.2.2
            exact ⟨by rw [if_neg hno2], by rw [if_neg hno2]⟩
          · refine pw_aload_n dX11_gather_49 rfl ?_
            refine pw_getF (v := 34) dX11_gather_50 flX11_59 rfl (hS.at rfl rfl rfl) (hS.rf (6, 8, 34) rfl (by decide)) ?_
            refine pw_iload_n dX11_gather_53 rfl ?_
            refine pw_cV1 (d1 := d - 1) (a1 := 0) (a2 := al) dX11_gather_54 mtX8_isAllKeptBy ivX8_isAllKeptBy mlX11_209 (Nat.le_of_ble_eq_true rfl) (Nat.le_of_ble_eq_true rfl) (by omega) (by omega) (hS.at rfl rfl rfl) rfl rfl (t_allKept (by omega) hT' hC' hA _) ?_
            rintro r_ τ_ ⟨hr_, ht_⟩; subst r_; subst τ_
            refine pw_if_ne (tgt := 62) dX11_gather_57 (by decide) (fun h57 => ?_) (fun h57 => ?_)
            · have hok : okGC X K n m house season guests set := ⟨hp, bI_n.mp h46, bI_n.mp h57⟩
              rw [if_pos hok, if_pos hok]
              have hm3 := hp.2.2.2
              refine pw_aload_n dX11_gather_62 rfl ?_
              refine pw_getF (v := 9) dX11_gather_63 flX11_26 rfl (hS.at rfl rfl rfl) (hS.rf (6, 3, 9) rfl (by decide)) ?_
              refine pw_iload_n dX11_gather_66 rfl ?_
              refine pw_aload_n dX11_gather_67 rfl ?_
              refine pw_getI dX11_gather_68 flX11_7 rfl (hS.at rfl rfl rfl) ?_
              refine pw_iload_n dX11_gather_71 rfl ?_
              refine pw_iload_n dX11_gather_72 rfl ?_
              refine pw_aload_n dX11_gather_73 rfl ?_
              refine pw_getF (v := 34) dX11_gather_74 flX11_59 rfl (hS.at rfl rfl rfl) (hS.rf (6, 8, 34) rfl (by decide)) ?_
              refine pw_cV5 (d1 := d - 1) (a1 := 0) (a2 := al) dX11_gather_77 mtX3_put ivX3_put mlX11_212 (Nat.le_of_ble_eq_true rfl) (Nat.le_of_ble_eq_true rfl) (by omega) (by omega) (hS.at rfl rfl rfl) rfl rfl (t_mput (by omega) hS' hT' hC' hA hm (by omega) _ _ _ _) ?_
              rintro r_ τ_ ⟨hr_, ht_⟩; subst r_; subst τ_
              refine pw_iret dX11_gather_80 rfl rfl ?_
              exact ⟨rfl, rfl⟩
            · refine pw_iconst (v := (-1)) dX11_gather_60 (by decide) ?_
              refine pw_iret dX11_gather_61 rfl rfl ?_
              have hno2 : ¬ okGC X K n m house season guests set := by
                first | exact fun z => bI_0.mp h46 z.2.1 | exact fun z => bI_0.mp h57 z.2.2
              exact ⟨by rw [if_neg hno2], by rw [if_neg hno2]⟩
        · refine pw_iconst (v := (-1)) dX11_gather_31 (by decide) ?_
          refine pw_iret dX11_gather_32 rfl rfl ?_
          have hno : ¬ okGp m house season guests := by
            first | exact fun z => bI_0.mp h4 z.1 | exact fun z => bI_0.mp h11 z.2.1 | exact fun z => bI_0.mp h18 z.2.2.1 | exact fun z => z.2.2.2 (bI_n.mp h28)
          have hno2 : ¬ okGC X K n m house season guests set := fun z => hno z.1
          exact ⟨by rw [if_neg hno2], by rw [if_neg hno]⟩
theorem t_gathering {d al m : Nat} {σ : pm_S} (hd : 1 ≤ d) (hS : pm_fix σ) (hm : qI σ 9 2 = nI m) (hm2 : m ≤ 60) (x what : Int32) : PE d al MX11_gathering [.ref 6, .int x, .int what] σ (some (.int (if tOk m x then (if what = 0 then qI σ 11 x.toNatClampNeg else if what = 1 then qI σ 12 x.toNatClampNeg else if what = 2 then qI σ 13 x.toNatClampNeg else if what = 3 then qI σ 14 x.toNatClampNeg else if what = 4 then qI σ 15 x.toNatClampNeg else -1) else -1))) σ := by
  show PW _ _ _ _ _ _ _ _
  refine pw_aload_n dX11_gathering_0 rfl ?_
  refine pw_getF (v := 9) dX11_gathering_1 flX11_26 rfl (hS.at rfl rfl rfl) (hS.rf (6, 3, 9) rfl (by decide)) ?_
  refine pw_iload_n dX11_gathering_4 rfl ?_
  refine pw_iload_n dX11_gathering_5 rfl ?_
  refine pw_cV2 (d1 := d - 1) (a1 := 0) (a2 := al) dX11_gathering_6 mtX3_tell ivX3_tell mlX11_215 (Nat.le_of_ble_eq_true rfl) (Nat.le_of_ble_eq_true rfl) (by omega) (by omega) (hS.at rfl rfl rfl) rfl rfl (t_tell hS hm hm2 _ _) ?_
  rintro r_ τ_ ⟨hr_, ht_⟩; subst r_; subst τ_
  refine pw_iret dX11_gathering_9 rfl rfl ?_
  exact ⟨rfl, rfl⟩
theorem t_seen {d al n m : Nat} {σ : pm_S} {X : Nat → List c_A} (hd : 1 ≤ d) (hS : pm_fix σ) (hT : cT σ n X) (hm : qI σ 9 2 = nI m) (hm2 : m ≤ 60) (g a b : Int32) : PE d al MX11_seen [.ref 6, .int g, .int a, .int b] σ (some (.int (if okSeen n g a b then nI (sm (fun i => oN (cwP σ (sh1 g) (sh1 a ||| sh1 b) i)) m) else -1))) σ := by
  show PW _ _ _ _ _ _ _ _
  refine pw_iload_n dX11_seen_0 rfl ?_
  refine pw_iconst (v := 0) dX11_seen_1 (by decide) ?_
  refine pw_bipush (v := 7) dX11_seen_2 (by decide) ?_
  refine pw_cS3 (d1 := d - 1) (a1 := 0) (a2 := al) dX11_seen_4 mtX11_isWithin stX11_isWithin mlX11_79 (Nat.le_of_ble_eq_true rfl) (Nat.le_of_ble_eq_true rfl) (by omega) (by omega) (t_within _ _ _) ?_
  rintro r_ τ_ ⟨hr_, ht_⟩; subst r_; subst τ_
  refine pw_if_eq (tgt := 32) dX11_seen_7 (by decide) (fun h7 => ?_) (fun h7 => ?_)
  · refine pw_iconst (v := (-1)) dX11_seen_32 (by decide) ?_
    refine pw_iret dX11_seen_33 rfl rfl ?_
    have hno : ¬ okSeen n g a b := by
      first | exact fun z => bI_0.mp h7 z.1 | exact fun z => c_fd_z hT h18 z.2.1 | exact fun z => c_fd_z hT h29 z.2.2
    exact ⟨by rw [if_neg hno], rfl⟩
  · refine pw_aload_n dX11_seen_10 rfl ?_
    refine pw_getF (v := 7) dX11_seen_11 flX11_19 rfl (hS.at rfl rfl rfl) (hS.rf (6, 2, 7) rfl (by decide)) ?_
    refine pw_iload_n dX11_seen_14 rfl ?_
    refine pw_cV1 (d1 := d - 1) (a1 := 0) (a2 := al) dX11_seen_15 mtX6_find ivX6_find mlX11_147 (Nat.le_of_ble_eq_true rfl) (Nat.le_of_ble_eq_true rfl) (by omega) (by omega) (hS.at rfl rfl rfl) rfl rfl (t_find hS hT.1 hT.2.1 _) ?_
    rintro r_ τ_ ⟨hr_, ht_⟩; subst r_; subst τ_
    refine pw_ifnull (tgt := 32) dX11_seen_18 (by decide) (fun h18 => ?_) (fun h18 => ?_)
    · refine pw_iconst (v := (-1)) dX11_seen_32 (by decide) ?_
      refine pw_iret dX11_seen_33 rfl rfl ?_
      have hno : ¬ okSeen n g a b := by
        first | exact fun z => bI_0.mp h7 z.1 | exact fun z => c_fd_z hT h18 z.2.1 | exact fun z => c_fd_z hT h29 z.2.2
      exact ⟨by rw [if_neg hno], rfl⟩
    · refine pw_aload_n dX11_seen_21 rfl ?_
      refine pw_getF (v := 7) dX11_seen_22 flX11_19 rfl (hS.at rfl rfl rfl) (hS.rf (6, 2, 7) rfl (by decide)) ?_
      refine pw_iload_n dX11_seen_25 rfl ?_
      refine pw_cV1 (d1 := d - 1) (a1 := 0) (a2 := al) dX11_seen_26 mtX6_find ivX6_find mlX11_147 (Nat.le_of_ble_eq_true rfl) (Nat.le_of_ble_eq_true rfl) (by omega) (by omega) (hS.at rfl rfl rfl) rfl rfl (t_find hS hT.1 hT.2.1 _) ?_
      rintro r_ τ_ ⟨hr_, ht_⟩; subst r_; subst τ_
      refine pw_ifnonnull (tgt := 34) dX11_seen_29 (by decide) (fun h29 => ?_) (fun h29 => ?_)
      · refine pw_aload_n dX11_seen_34 rfl ?_
        refine pw_getF (v := 9) dX11_seen_35 flX11_26 rfl (hS.at rfl rfl rfl) (hS.rf (6, 3, 9) rfl (by decide)) ?_
        refine pw_iconst (v := 1) dX11_seen_38 (by decide) ?_
        refine pw_iload_n dX11_seen_39 rfl ?_
        refine pw_ishl dX11_seen_40 ?_
        refine pw_iconst (v := 1) dX11_seen_41 (by decide) ?_
        refine pw_iload_n dX11_seen_42 rfl ?_
        refine pw_ishl dX11_seen_43 ?_
        refine pw_iconst (v := 1) dX11_seen_44 (by decide) ?_
        refine pw_iload_n dX11_seen_45 rfl ?_
        refine pw_ishl dX11_seen_46 ?_
        refine pw_ior dX11_seen_47 ?_
        refine pw_cV2 (d1 := d - 1) (a1 := 0) (a2 := al) dX11_seen_48 mtX3_countWith ivX3_countWith mlX11_219 (Nat.le_of_ble_eq_true rfl) (Nat.le_of_ble_eq_true rfl) (by omega) (by omega) (hS.at rfl rfl rfl) rfl rfl (t_countWith hS hm hm2 _ _) ?_
        rintro r_ τ_ ⟨hr_, ht_⟩; subst r_; subst τ_
        refine pw_iret dX11_seen_51 rfl rfl ?_
        have hok : okSeen n g a b := ⟨bI_n.mp h7, c_fd_pos h18, c_fd_pos h29⟩
        exact ⟨by rw [if_pos hok], rfl⟩
      · refine pw_iconst (v := (-1)) dX11_seen_32 (by decide) ?_
        refine pw_iret dX11_seen_33 rfl rfl ?_
        have hno : ¬ okSeen n g a b := by
          first | exact fun z => bI_0.mp h7 z.1 | exact fun z => c_fd_z hT h18 z.2.1 | exact fun z => c_fd_z hT h29 z.2.2
        exact ⟨by rw [if_neg hno], rfl⟩
abbrev okAC (K : Nat → Nat) (n : Nat) (guests set : Int32) : Prop := (1 ≤ guests ∧ guests ≤ 255) ∧ (rd K n set).1 = true
theorem t_again {d al n m : Nat} {σ : pm_S} {X : Nat → List c_A} {K : Nat → Nat} (hd : 3 ≤ d) (hS : pm_fix σ) (hT : cT σ n X) (hK : ∀ t, t < n → qI σ (qR σ 8 t) 1 = nI (K t) ∧ K t < 5) (hm : qI σ 9 2 = nI m) (hm2 : m ≤ 60) (guests set : Int32) : PE d al MX11_again [.ref 6, .int guests, .int set] σ (some (.int (if okAC K n guests set then nI (spS σ guests (rd K n set).2 + 10 * sm (csF σ guests (tb (rd K n set).2 5)) m) else -1))) (if (1 ≤ guests ∧ guests ≤ 255) then c_ts σ 35 (rd K n set).2 else σ) := by
  show PW _ _ _ _ _ _ _ _
  have hlt := rd_lt (K := K) (set := set) hT.2.1
  have hA := tS_ts (σ := σ) (a := 35) (Or.inl rfl) hlt
  have hT' := hT.ts (a := 35) (T := (rd K n set).2) (Or.inl rfl)
  have hC := hS.ts1
  have hC' := hC.ts (T := (rd K n set).2)
  have hS' := hS.ts (a := 35) (T := (rd K n set).2) (Or.inl rfl)
  refine pw_iload_n dX11_again_0 rfl ?_
  refine pw_cS1 (d1 := d - 1) (a1 := 0) (a2 := al) dX11_again_1 mtX11_isGuests stX11_isGuests mlX11_201 (Nat.le_of_ble_eq_true rfl) (Nat.le_of_ble_eq_true rfl) (by omega) (by omega) (t_guests (by omega) _) ?_
  rintro r_ τ_ ⟨hr_, ht_⟩; subst r_; subst τ_
  refine pw_if_eq (tgt := 22) dX11_again_4 (by decide) (fun h4 => ?_) (fun h4 => ?_)
  · refine pw_iconst (v := (-1)) dX11_again_22 (by decide) ?_
    refine pw_iret dX11_again_23 rfl rfl ?_
    first | (have hno : ¬ (1 ≤ guests ∧ guests ≤ 255) := bI_0.mp h4; have hno2 : ¬ okAC K n guests set := (fun z => hno z.1); exact ⟨by rw [if_neg hno2], by rw [if_neg hno]⟩) | (have hno2 : ¬ okAC K n guests set := (fun z => bI_0.mp h19 z.2); exact ⟨by rw [if_neg hno2], rfl⟩)
  · have hg := bI_n.mp h4
    rw [if_pos hg]
    refine pw_aload_n dX11_again_7 rfl ?_
    refine pw_getF (v := 34) dX11_again_8 flX11_59 rfl (hS.at rfl rfl rfl) (hS.rf (6, 8, 34) rfl (by decide)) ?_
    refine pw_iload_n dX11_again_11 rfl ?_
    refine pw_aload_n dX11_again_12 rfl ?_
    refine pw_getF (v := 7) dX11_again_13 flX11_19 rfl (hS.at rfl rfl rfl) (hS.rf (6, 2, 7) rfl (by decide)) ?_
    refine pw_cV2 (d1 := d - 1) (a1 := 0) (a2 := al) dX11_again_16 mtX8_read ivX8_read mlX11_205 (Nat.le_of_ble_eq_true rfl) (Nat.le_of_ble_eq_true rfl) (by omega) (by omega) (hS.at rfl rfl rfl) rfl rfl (t_read (by omega) hS hT hC hK set) ?_
    rintro r_ τ_ ⟨hr_, ht_⟩; subst r_; subst τ_
    replace hS := hS'
    refine pw_if_ne (tgt := 24) dX11_again_19 (by decide) (fun h19 => ?_) (fun h19 => ?_)
    · refine pw_aload_n dX11_again_24 rfl ?_
      refine pw_getF (v := 9) dX11_again_25 flX11_26 rfl (hS.at rfl rfl rfl) (hS.rf (6, 3, 9) rfl (by decide)) ?_
      refine pw_iload_n dX11_again_28 rfl ?_
      refine pw_aload_n dX11_again_29 rfl ?_
      refine pw_getF (v := 34) dX11_again_30 flX11_59 rfl (hS.at rfl rfl rfl) (hS.rf (6, 8, 34) rfl (by decide)) ?_
      refine pw_cV2 (d1 := d - 1) (a1 := 0) (a2 := al) dX11_again_33 mtX3_sumAgain ivX3_sumAgain mlX11_222 (Nat.le_of_ble_eq_true rfl) (Nat.le_of_ble_eq_true rfl) (by omega) (by omega) (hS.at rfl rfl rfl) rfl rfl (t_sumAgain (by omega) hS' hT' hC' hA hm hm2 (lt8_guests hg)) ?_
      rintro r_ τ_ ⟨hr_, ht_⟩; subst r_; subst τ_
      refine pw_iret dX11_again_36 rfl rfl ?_
      have hok : okAC K n guests set := ⟨hg, bI_n.mp h19⟩
      refine ⟨?_, rfl⟩
      rw [if_pos hok]
      rfl
    · refine pw_iconst (v := (-1)) dX11_again_22 (by decide) ?_
      refine pw_iret dX11_again_23 rfl rfl ?_
      first | (have hno : ¬ (1 ≤ guests ∧ guests ≤ 255) := bI_0.mp h4; have hno2 : ¬ okAC K n guests set := (fun z => hno z.1); exact ⟨by rw [if_neg hno2], by rw [if_neg hno]⟩) | (have hno2 : ¬ okAC K n guests set := (fun z => bI_0.mp h19 z.2); exact ⟨by rw [if_neg hno2], rfl⟩)
