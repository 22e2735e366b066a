/-! ===== the class: rules() ===== -/
def RIs (σ τ : pm_S) (c : Nat → Nat) (L r : Nat) (v : Option Value) (R : Except (Nat × Nat) (List (List stp))) : Prop := τ.2 = (pm_sR σ 29 1 r).2 ∧ (∀ b j, ¬ (29 ≤ b ∧ b ≤ 33) → ¬ (r ≤ b ∧ b ≤ r + 4) → qI τ b j = qI σ b j) ∧ match R with
  | .ok rs => v = some (.int 1) ∧ qI τ 29 4 = 0 ∧ qI τ 29 5 = -1 ∧ stS τ r rs.flatten ∧ ruS τ r rs
  | .error e => v = some (.int 0) ∧ qI τ 29 4 = nI e.1 ∧ qI τ 29 5 = nI (sn c L e.2)
theorem t_readInto {d al L r : Nat} {σ : pm_S} {c : Nat → Nat} (hd : 50 ≤ d) (hS0 : pm_fix σ) (hT : tpH σ c L) (hJ : jdC σ) (hr : r = 19 ∨ r = 24) : PM d al MX5_readInto [.ref 29, .ref r] σ (fun v τ => RIs σ τ c L r v (pR (tk c L) (vN c L) 12 0 [])) := by
  have hS : pm_fix (pm_sR σ 29 1 r) := hS0.sR (by decide)
  have hri : pm_is (pm_sR σ 29 1 r) r 4 := by rcases hr with rfl | rfl <;> exact hS0.at rfl rfl rfl
  have hT1 : tpH (pm_sI (pm_sI (pm_sI (pm_sI (pm_sR σ 29 1 r) r 4 0) r 5 0) 29 4 0) 29 5 (-1)) c L := tpH_of (fun b j hb => by rw [qI_sI_nc (by omega), qI_sI_nc (by omega), qI_sI_nc (by omega), qI_sI_nc (by omega)]; rfl) hT
  have hJ1 : jdC (pm_sI (pm_sI (pm_sI (pm_sI (pm_sR σ 29 1 r) r 4 0) r 5 0) 29 4 0) 29 5 (-1)) := by
    have hI : ∀ b j, b ≤ 5 → qI (pm_sI (pm_sI (pm_sI (pm_sI (pm_sR σ 29 1 r) r 4 0) r 5 0) 29 4 0) 29 5 (-1)) b j = qI σ b j := fun b j hb => by rw [qI_sI_nc (by omega), qI_sI_nc (by omega), qI_sI_nc (by omega), qI_sI_nc (by omega)]; rfl
    obtain ⟨⟨a1, a2, a3, a4, a5, a6, a7⟩, ⟨b1, b2, b3, b4, b5, b6, b7⟩, c3, c4⟩ := hJ
    exact ⟨⟨a1, a2, (qR_sR_nc (by decide)).trans a3, by rw [hI 2 1 (by decide)]; exact a4, a5, a6, a7⟩, ⟨b1, b2, (qR_sR_nc (by decide)).trans b3, by rw [hI 3 1 (by decide)]; exact b4, b5, b6, b7⟩, fun k hk => by rw [hI 4 k (by decide)]; exact c3 k hk, fun k hk => by rw [hI 5 k (by decide)]; exact c4 k hk⟩
  show PW _ _ _ _ _ _ _ _
  refine pw_aload_n dX5_readInto_0 rfl ?_
  refine pw_aload_n dX5_readInto_1 rfl ?_
  refine pw_putR dX5_readInto_2 flX5_20 ⟨_, rfl, Or.inl rfl⟩ rfl (hS.at rfl rfl rfl) ?_
  refine pw_aload_n dX5_readInto_5 rfl ?_
  refine pw_getF dX5_readInto_6 flX5_20 rfl (hS.at rfl rfl rfl) qR_sR_eq ?_
  refine pw_cV0 (d1 := d - 1) (a1 := 0) (a2 := al) dX5_readInto_9 mtX4_clear ivX4_clear mlX5_31 (Nat.le_of_ble_eq_true rfl) (Nat.le_of_ble_eq_true rfl) (by omega) (by omega) hri rfl rfl (t_lclear hS hr) ?_
  rintro r_ τ_ ⟨hr_, ht_⟩; subst r_; subst τ_
  refine pw_aload_n dX5_readInto_12 rfl ?_
  refine pw_iconst (v := 0) dX5_readInto_13 (by decide) ?_
  refine pw_putI dX5_readInto_14 flX5_24 ⟨_, rfl, Or.inl rfl⟩ rfl (hS.at rfl rfl rfl) ?_
  refine pw_aload_n dX5_readInto_17 rfl ?_
  refine pw_iconst (v := (-1)) dX5_readInto_18 (by decide) ?_
  refine pw_putI dX5_readInto_19 flX5_28 ⟨_, rfl, Or.inl rfl⟩ rfl (hS.at rfl rfl rfl) ?_
  refine pw_aload_n dX5_readInto_22 rfl ?_
  refine pw_getF (v := 30) dX5_readInto_23 flX5_14 rfl (hS.at rfl rfl rfl) (hS.rf (29, 0, 30) rfl (by decide)) ?_
  refine pw_cV0 (d1 := d - 1) (a1 := 0) (a2 := al) dX5_readInto_26 mtX10_cutTape ivX10_cutTape mlX5_36 (Nat.le_of_ble_eq_true rfl) (Nat.le_of_ble_eq_true rfl) (by omega) (by omega) (hS.at rfl rfl rfl) rfl rfl (t_cutTape (by omega) hS.sI.sI.sI.sI hT1 hJ1) ?_
  rintro r_ ρ ⟨hr_, k, hk, hK, hend⟩; subst r_
  have hSρ : pm_fix ρ := fix_of2 hK.1 hS.sI.sI.sI.sI
  have hK2 : ρ.2 = (pm_sR σ 29 1 r).2 := hK.1
  have hfr : ∀ b j, ¬ (29 ≤ b ∧ b ≤ 33) → ¬ (r ≤ b ∧ b ≤ r + 4) → qI ρ b j = qI σ b j := fun b j a1 a2 => by
    rw [hK.2.1 b j (by omega) (by omega) (by omega) (by omega), qI_sI_nc (by omega), qI_sI_nc (by omega), qI_sI_nc (by omega), qI_sI_nc (by omega)]; rfl
  have h29 : ∀ j, qI ρ 29 j = qI (pm_sI (pm_sI (pm_sI (pm_sI (pm_sR σ 29 1 r) r 4 0) r 5 0) 29 4 0) 29 5 (-1)) 29 j := fun j => hK.2.1 29 j (by decide) (by decide) (by decide) (by decide)
  have hrr : ∀ j, qI ρ r j = qI (pm_sI (pm_sI (pm_sI (pm_sI (pm_sR σ 29 1 r) r 4 0) r 5 0) 29 4 0) 29 5 (-1)) r j := fun j => hK.2.1 r j (by omega) (by omega) (by omega) (by omega)
  have hC : rdC (pm_sI ρ 29 2 0) c L k r := by
    refine ⟨hSρ.sI, hT.1, hk, hend, ?_, ?_, fun j hj => ?_, hr, ?_⟩
    · rw [qI_sI_nc (by decide), hfr 17 1 (by decide) (by omega)]; exact hT.2.1
    · rw [qI_sI_nc (by decide)]; exact hK.2.2.1
    · rw [qI_sI_nc (by decide), qI_sI_nc (by decide), qI_sI_nc (by decide)]; exact hK.2.2.2 j hj
    · have : qR (pm_sI ρ 29 2 0) = qR (pm_sR σ 29 1 r) := by unfold qR; exact congrArg (fun z => z.1) hK2
      rw [this]; exact qR_sR_eq
  have hS := hSρ
  refine pw_aload_n dX5_readInto_29 rfl ?_
  refine pw_iconst (v := 0) dX5_readInto_30 (by decide) ?_
  refine pw_putI dX5_readInto_31 flX5_39 ⟨_, rfl, Or.inl rfl⟩ rfl (hSρ.at rfl rfl rfl) ?_
  have hi0 : qI (pm_sI ρ 29 2 0) 29 2 = nI 0 := qI_sI_eq
  refine pw_aload_n dX5_readInto_34 rfl ?_
  refine pw_aload_n dX5_readInto_35 rfl ?_
  refine pw_getF (v := 30) dX5_readInto_36 flX5_14 rfl (hSρ.at rfl rfl rfl) (hS.rf (29, 0, 30) rfl (by decide)) ?_
  refine pw_aload_n dX5_readInto_39 rfl ?_
  refine pw_getI dX5_readInto_40 flX5_39 rfl (hSρ.at rfl rfl rfl) ?_
  rw [hi0]
  refine pw_cV1 (d1 := d - 1) (a1 := 0) (a2 := al) dX5_readInto_43 mtX10_at ivX10_at mlX5_42 (Nat.le_of_ble_eq_true rfl) (Nat.le_of_ble_eq_true rfl) (by omega) (by omega) (hSρ.at rfl rfl rfl) rfl rfl (t_kat (i := 0) hC (by decide)) ?_
  rintro r_ τ_ ⟨hr_, ht_⟩; subst r_; subst τ_
  refine pw_putI dX5_readInto_46 flX5_46 ⟨_, rfl, Or.inl rfl⟩ rfl (hSρ.at rfl rfl rfl) ?_
  refine pw_iconst (v := 0) dX5_readInto_49 (by decide) ?_
  refine pw_istore_n dX5_readInto_50 (Nat.le_of_ble_eq_true rfl) (Nat.le_of_ble_eq_true rfl) rfl ?_
  have hTT : rdT (pm_sI ρ 29 2 0) (pm_sI (pm_sI ρ 29 2 0) 29 3 (nI (tk c L 0))) r := ⟨rfl, fun b j a1 a2 => qI_sI_ne (by omega)⟩
  have hO : OKs (pm_sI (pm_sI ρ 29 2 0) 29 3 (nI (tk c L 0))) c L k r 0 ([] : List (List stp)).flatten := by
    refine ⟨?_, ?_, ?_, qI_sI_eq, Nat.zero_le _, Nat.zero_le _, ?_, fun m hm => absurd hm (Nat.not_lt_zero m)⟩
    · rw [qI_sI_ne (by decide), qI_sI_ne (by decide), h29, qI_sI_ne (by decide), qI_sI_eq]
    · rw [qI_sI_ne (by decide), qI_sI_ne (by decide), h29, qI_sI_eq]
    · rw [qI_sI_ne (by decide), qI_sI_eq]; rfl
    · rw [qI_sI_nc (by omega), qI_sI_nc (by omega), hrr, qI_sI_nc (by omega), qI_sI_nc (by omega), qI_sI_ne (by omega), qI_sI_eq]; rfl
  have hU : ruS (pm_sI (pm_sI ρ 29 2 0) 29 3 (nI (tk c L 0))) r [] := by
    refine ⟨?_, fun m hm => absurd hm (Nat.not_lt_zero m)⟩
    rw [qI_sI_nc (by omega), qI_sI_nc (by omega), hrr, qI_sI_nc (by omega), qI_sI_nc (by omega), qI_sI_eq]; rfl
  refine PW.post ?_ (t_ri_lp hd 12 0 0 [] _ (by omega) rfl (hC.ofT hTT) hO hU)
  rintro v τ ⟨w1, w2⟩
  refine ⟨w1.1.trans hK2, fun b j a1 a2 => ?_, w2⟩
  rw [w1.2 b j (by omega) a2, qI_sI_nc (by omega), qI_sI_nc (by omega)]
  exact hfr b j a1 a2
/-- what rules() comes to: a is the list in force before, r the draft -/
def RUs (σ τ : pm_S) (c : Nat → Nat) (L a r : Nat) (v : Option Value) (R : Except (Nat × Nat) (List (List stp))) : Prop :=
  (qT τ = qT σ ∧ qL τ = qL σ ∧ qN τ = qN σ) ∧ (∀ b j, ¬ (b = 29 ∧ j = 1) → ¬ (b = 6 ∧ (j = 6 ∨ j = 7)) → qR τ b j = qR σ b j) ∧ (∀ b j, ¬ (29 ≤ b ∧ b ≤ 33) → ¬ (r ≤ b ∧ b ≤ r + 4) → ¬ (b = 17 ∧ j = 1) → qI τ b j = qI σ b j) ∧ qI τ 17 1 = 0 ∧ match R with
  | .ok rs => v = some (.int (nI rs.length)) ∧ qR τ 6 6 = r ∧ qR τ 6 7 = a ∧ qI τ 29 4 = 0 ∧ qI τ 29 5 = -1 ∧ stS τ r rs.flatten ∧ ruS τ r rs
  | .error e => v = some (.int (-1)) ∧ qR τ 6 6 = a ∧ qR τ 6 7 = r ∧ qI τ 29 4 = nI e.1 ∧ qI τ 29 5 = nI (sn c L e.2)
theorem t_rules {d al L a r : Nat} {σ : pm_S} {c : Nat → Nat} (hd : 60 ≤ d) (hS : pm_fix σ) (hT : tpH σ c L) (hJ : jdC σ) (hr : r = 19 ∨ r = 24) (ha : a = 19 ∨ a = 24) (h6 : qR σ 6 6 = a) (h7 : qR σ 6 7 = r) : PM d al MX11_rules [.ref 6] σ (fun v τ => RUs σ τ c L a r v (pR (tk c L) (vN c L) 12 0 [])) := by
  have hL := hT.1
  show PW _ _ _ _ _ _ _ _
  refine pw_aload_n dX11_rules_0 rfl ?_
  refine pw_getF (v := 29) dX11_rules_1 flX11_52 rfl (hS.at rfl rfl rfl) (hS.rf (6, 5, 29) rfl (by decide)) ?_
  refine pw_aload_n dX11_rules_4 rfl ?_
  refine pw_getF (v := r) dX11_rules_5 flX11_44 rfl (hS.at rfl rfl rfl) h7 ?_
  refine pw_cV1 (d1 := d - 1) (a1 := 0) (a2 := al) dX11_rules_8 mtX5_readInto ivX5_readInto mlX11_238 (Nat.le_of_ble_eq_true rfl) (Nat.le_of_ble_eq_true rfl) (by omega) (by omega) (hS.at rfl rfl rfl) rfl rfl (t_readInto (by omega) hS hT hJ hr) ?_
  rintro v0 τ ⟨w1, w2, w3⟩
  have hSτ : pm_fix τ := fix_of2 w1 (hS.sR (by decide))
  have h17 : qI τ 17 1 = nI L := (w2 17 1 (by decide) (by omega)).trans hT.2.1
  have hRτ : qR τ = qR (pm_sR σ 29 1 r) := by unfold qR; rw [w1]
  have g6 : qR τ 6 6 = a := by rw [hRτ]; exact (qR_sR_nc (by decide)).trans h6
  have g7 : qR τ 6 7 = r := by rw [hRτ]; exact (qR_sR_nc (by decide)).trans h7
  have hTT : qT τ = qT σ := by unfold qT; rw [w1]; rfl
  have hLL : qL τ = qL σ := by unfold qL; rw [w1]; rfl
  have hNN : qN τ = qN σ := by unfold qN; rw [w1]; rfl
  have hcut : (0 : Int32) ≤ 0 ∧ (0 : Int32) ≤ qI τ 17 1 := ⟨by decide, by rw [h17]; exact nI_pos' (by omega)⟩
  have hri : pm_is τ r 4 := by rcases hr with rfl | rfl <;> exact hSτ.at rfl rfl rfl
  cases hR : pR (tk c L) (vN c L) 12 0 [] with
  | error e =>
    rw [hR] at w3
    obtain ⟨x1, x2, x3⟩ : v0 = some (.int 0) ∧ qI τ 29 4 = nI e.1 ∧ qI τ 29 5 = nI (sn c L e.2) := w3
    subst x1
    have hS := hSτ
    refine pw_istore_n dX11_rules_11 (Nat.le_of_ble_eq_true rfl) (Nat.le_of_ble_eq_true rfl) rfl ?_
    refine pw_aload_n dX11_rules_12 rfl ?_
    refine pw_getF (v := 17) dX11_rules_13 flX11_33 rfl (hSτ.at rfl rfl rfl) (hS.rf (6, 4, 17) rfl (by decide)) ?_
    refine pw_iconst (v := 0) dX11_rules_16 (by decide) ?_
    refine pw_cV1 (d1 := d - 1) (a1 := 0) (a2 := al) dX11_rules_17 mtX7_cut ivX7_cut mlX11_235 (Nat.le_of_ble_eq_true rfl) (Nat.le_of_ble_eq_true rfl) (by omega) (by omega) (hSτ.at rfl rfl rfl) rfl rfl (t_cut hSτ _) ?_
    rintro r_ τ_ ⟨hr_, ht_⟩; subst r_; subst τ_
    rw [if_pos hcut]
    refine pw_iload_n dX11_rules_20 rfl ?_
    refine pw_if_ne (tgt := 26) dX11_rules_21 (by decide) (fun h21 => ?_) (fun h21 => ?_)
    · exact absurd rfl h21
    · refine pw_iconst (v := (-1)) dX11_rules_24 (by decide) ?_
      refine pw_iret dX11_rules_25 rfl rfl ?_
      refine ⟨⟨hTT, hLL, hNN⟩, fun b j a1 a2 => ?_, fun b j a1 a2 a3 => ?_, qI_sI_eq, rfl, g6, g7, ?_, ?_⟩
      · rw [qR_sI, hRτ, qR_sR, if_neg a1]
      · rw [qI_sI_ne a3]; exact w2 b j a1 a2
      · rw [qI_sI_nc (by decide)]; exact x2
      · rw [qI_sI_nc (by decide)]; exact x3
  | ok rs =>
    rw [hR] at w3
    obtain ⟨x1, x2, x3, x4, x5⟩ : v0 = some (.int 1) ∧ qI τ 29 4 = 0 ∧ qI τ 29 5 = -1 ∧ stS τ r rs.flatten ∧ ruS τ r rs := w3
    subst x1
    have hS2 : pm_fix (pm_sR (pm_sI τ 17 1 0) 6 6 r) := hSτ.sI.sR (by decide)
    have hS3 : pm_fix (pm_sR (pm_sR (pm_sI τ 17 1 0) 6 6 r) 6 7 a) := hS2.sR (by decide)
    have hS := hSτ
    refine pw_istore_n dX11_rules_11 (Nat.le_of_ble_eq_true rfl) (Nat.le_of_ble_eq_true rfl) rfl ?_
    refine pw_aload_n dX11_rules_12 rfl ?_
    refine pw_getF (v := 17) dX11_rules_13 flX11_33 rfl (hSτ.at rfl rfl rfl) (hS.rf (6, 4, 17) rfl (by decide)) ?_
    refine pw_iconst (v := 0) dX11_rules_16 (by decide) ?_
    refine pw_cV1 (d1 := d - 1) (a1 := 0) (a2 := al) dX11_rules_17 mtX7_cut ivX7_cut mlX11_235 (Nat.le_of_ble_eq_true rfl) (Nat.le_of_ble_eq_true rfl) (by omega) (by omega) (hSτ.at rfl rfl rfl) rfl rfl (t_cut hSτ _) ?_
    rintro r_ τ_ ⟨hr_, ht_⟩; subst r_; subst τ_
    rw [if_pos hcut]
    refine pw_iload_n dX11_rules_20 rfl ?_
    refine pw_if_ne (tgt := 26) dX11_rules_21 (by decide) (fun h21 => ?_) (fun h21 => ?_)
    · refine pw_aload_n dX11_rules_26 rfl ?_
      refine pw_getF dX11_rules_27 flX11_40 rfl (hSτ.at rfl rfl rfl) g6 ?_
      refine pw_astore_n dX11_rules_30 (Nat.le_of_ble_eq_true rfl) (Nat.le_of_ble_eq_true rfl) rfl ?_
      refine pw_aload_n dX11_rules_31 rfl ?_
      refine pw_aload_n dX11_rules_32 rfl ?_
      refine pw_getF dX11_rules_33 flX11_44 rfl (hSτ.at rfl rfl rfl) g7 ?_
      refine pw_putR dX11_rules_36 flX11_40 ⟨_, rfl, Or.inl rfl⟩ rfl (hSτ.at rfl rfl rfl) ?_
      refine pw_aload_n dX11_rules_39 rfl ?_
      refine pw_aload_n dX11_rules_40 rfl ?_
      refine pw_putR dX11_rules_41 flX11_44 ⟨_, rfl, Or.inl rfl⟩ rfl (hSτ.at rfl rfl rfl) ?_
      refine pw_aload_n dX11_rules_44 rfl ?_
      refine pw_getF dX11_rules_45 flX11_40 rfl (hSτ.at rfl rfl rfl) (show qR (pm_sR (pm_sR (pm_sI τ 17 1 0) 6 6 r) 6 7 a) 6 6 = r by rw [qR_sR, if_neg (by decide), qR_sR_eq]) ?_
      refine pw_cV0 (d1 := d - 1) (a1 := 0) (a2 := al) dX11_rules_48 mtX4_count ivX4_count mlX11_146 (Nat.le_of_ble_eq_true rfl) (Nat.le_of_ble_eq_true rfl) (by omega) (by omega) hri rfl rfl (t_rcount (σ := pm_sR (pm_sR (pm_sI τ 17 1 0) 6 6 r) 6 7 a) hri) ?_
      rintro r_ τ_ ⟨hr_, ht_⟩; subst r_; subst τ_
      refine pw_iret dX11_rules_51 rfl rfl ?_
      refine ⟨⟨hTT, hLL, hNN⟩, fun b j a1 a2 => ?_, fun b j a1 a2 a3 => ?_, (show qI (pm_sI τ 17 1 0) 17 1 = 0 from qI_sI_eq), ?_, ?_, qR_sR_eq, ?_, ?_, ⟨?_, fun m hm => ?_⟩, ?_, fun m hm => ?_⟩
      · rw [qR_sR, if_neg (by omega), qR_sR, if_neg (by omega), qR_sI, hRτ, qR_sR, if_neg a1]
      · rw [qI_sR, qI_sR, qI_sI_ne a3]; exact w2 b j a1 a2
      · rw [qI_sR, qI_sR, qI_sI_nc (by omega), x5.1]
      · rw [qR_sR, if_neg (by decide), qR_sR_eq]
      · rw [qI_sR, qI_sR, qI_sI_nc (by decide)]; exact x2
      · rw [qI_sR, qI_sR, qI_sI_nc (by decide)]; exact x3
      · rw [qI_sR, qI_sR, qI_sI_nc (by omega)]; exact x4.1
      · rw [qI_sR, qI_sR, qI_sI_nc (by omega), qI_sI_nc (by omega), qI_sI_nc (by omega)]; exact x4.2 m hm
      · rw [qI_sR, qI_sR, qI_sI_nc (by omega)]; exact x5.1
      · rw [qI_sR, qI_sR, qI_sI_nc (by omega)]; exact x5.2 m hm
    · exact absurd h21 (by decide)
