/-! ===== the class: best ===== -/
theorem t_invite {d al : Nat} {σ : pm_S} (hd : 2 ≤ d) (hS : pm_fix σ) (house se : Int32) {g : Int32} (hg : lt8 g) : PE d al MX1_invite [.ref 38, .int house, .int se, .int g] σ none (pm_sI (pm_sI (pm_sI (pm_sI (pm_sI σ 38 5 house) 38 6 se) 38 7 g) 42 0 se) 42 1 (nI (pcn g))) := by
  have hp := t_party (d := d - 1) (al := 0) (σ := pm_sI (pm_sI (pm_sI σ 38 5 house) 38 6 se) 38 7 g) (by omega) (pm_fix.fc2 hS.sI.sI.sI) se hg
  show PW _ _ _ _ _ _ _ _
  refine pw_aload_n dX1_invite_0 rfl ?_
  refine pw_iload_n dX1_invite_1 rfl ?_
  refine pw_putI dX1_invite_2 flX1_37 ⟨_, rfl, Or.inl rfl⟩ rfl (hS.at rfl rfl rfl) ?_
  refine pw_aload_n dX1_invite_5 rfl ?_
  refine pw_iload_n dX1_invite_6 rfl ?_
  refine pw_putI dX1_invite_7 flX1_41 ⟨_, rfl, Or.inl rfl⟩ rfl (hS.at rfl rfl rfl) ?_
  refine pw_aload_n dX1_invite_10 rfl ?_
  refine pw_iload_n dX1_invite_11 rfl ?_
  refine pw_putI dX1_invite_12 flX1_44 ⟨_, rfl, Or.inl rfl⟩ rfl (hS.at rfl rfl rfl) ?_
  refine pw_aload_n dX1_invite_15 rfl ?_
  refine pw_getF (v := 41) dX1_invite_16 flX1_33 rfl (hS.at rfl rfl rfl) (hS.rf (38, 3, 41) rfl (by decide)) ?_
  refine pw_iload_n dX1_invite_19 rfl ?_
  refine pw_iload_n dX1_invite_20 rfl ?_
  refine pw_cV2 (d1 := d - 1) (a1 := 0) (a2 := al) dX1_invite_21 mtX2_tellParty ivX2_tellParty mlX1_47 (Nat.le_of_ble_eq_true rfl) (Nat.le_of_ble_eq_true rfl) (by omega) (by omega) (hS.at rfl rfl rfl) rfl rfl (hp) ?_
  rintro r_ τ_ ⟨hr_, ht_⟩; subst r_; subst τ_
  refine pw_vret dX1_invite_24 rfl ?_
  exact ⟨rfl, rfl⟩
def bTl (js : jst) (what : Int32) : Int32 := if js.1 = 0 then -1 else if what = 0 then js.2.1 else if what = 1 then js.2.2.1 else if what = 2 then js.2.2.2 else nI js.1
theorem t_tellB {d al : Nat} {τ : pm_S} {js : jst} {what : Int32} (hS : pm_fix τ) (hj : cbJ τ js) (hb : js.1 < 2 ^ 31) (hw : 0 ≤ what ∧ what ≤ 3) : PE d al MX1_tell [.ref 38, .int what] τ (some (.int (bTl js what))) τ := by
  obtain ⟨j1, j2, j3, j4⟩ := hj
  have e0 : nI js.1 = 0 ↔ js.1 = 0 := by rw [show (0 : Int32) = nI 0 from rfl, nI_eq hb (by decide)]
  have hw4 : what = 0 ∨ what = 1 ∨ what = 2 ∨ what = 3 := by
    obtain ⟨k, hk, rfl⟩ := g_nI ⟨hw.1, Int32.le_trans hw.2 (by decide)⟩
    have h3 := (i_le' (a := k) (b := 3) (by omega) (by decide)).mp hw.2
    have : k = 0 ∨ k = 1 ∨ k = 2 ∨ k = 3 := by omega
    rcases this with rfl | rfl | rfl | rfl
    · exact Or.inl rfl
    · exact Or.inr (Or.inl rfl)
    · exact Or.inr (Or.inr (Or.inl rfl))
    · exact Or.inr (Or.inr (Or.inr rfl))
  show PW _ _ _ _ _ _ _ _
  unfold bTl
  by_cases z : js.1 = 0
  · rw [if_pos z]
    refine pw_aload_n dX1_tell_0 rfl ?_
    refine pw_getI dX1_tell_1 flX1_57 rfl (hS.at rfl rfl rfl) ?_
    rw [j1]
    refine pw_if_ne (tgt := 9) dX1_tell_4 (by decide) (fun h4 => ?_) (fun h4 => ?_)
    · exact absurd (e0.mpr z) h4
    · refine pw_iconst (v := (-1)) dX1_tell_7 (by decide) ?_
      refine pw_iret dX1_tell_8 rfl rfl ?_
      exact ⟨rfl, rfl⟩
  · rw [if_neg z]
    rcases hw4 with rfl | rfl | rfl | rfl
    · skip
      refine pw_aload_n dX1_tell_0 rfl ?_
      refine pw_getI dX1_tell_1 flX1_57 rfl (hS.at rfl rfl rfl) ?_
      rw [j1]
      refine pw_if_ne (tgt := 9) dX1_tell_4 (by decide) (fun h4 => ?_) (fun h4 => ?_)
      · refine pw_iload_n dX1_tell_9 rfl ?_
        refine pw_tsIn (off := 30) (tgt := 40) dX1_tell_10 (by decide) (by decide) (by decide) (by decide) ?_
        refine pw_aload_n dX1_tell_40 rfl ?_
        refine pw_getI dX1_tell_41 flX1_67 rfl (hS.at rfl rfl rfl) ?_
        refine pw_iret dX1_tell_44 rfl rfl ?_
        exact ⟨by rw [if_pos rfl, j2], rfl⟩
      · exact absurd (e0.mp h4) z
    · skip
      refine pw_aload_n dX1_tell_0 rfl ?_
      refine pw_getI dX1_tell_1 flX1_57 rfl (hS.at rfl rfl rfl) ?_
      rw [j1]
      refine pw_if_ne (tgt := 9) dX1_tell_4 (by decide) (fun h4 => ?_) (fun h4 => ?_)
      · refine pw_iload_n dX1_tell_9 rfl ?_
        refine pw_tsIn (off := 35) (tgt := 45) dX1_tell_10 (by decide) (by decide) (by decide) (by decide) ?_
        refine pw_aload_n dX1_tell_45 rfl ?_
        refine pw_getI dX1_tell_46 flX1_70 rfl (hS.at rfl rfl rfl) ?_
        refine pw_iret dX1_tell_49 rfl rfl ?_
        exact ⟨by rw [if_neg (by decide), if_pos rfl, j3], rfl⟩
      · exact absurd (e0.mp h4) z
    · skip
      refine pw_aload_n dX1_tell_0 rfl ?_
      refine pw_getI dX1_tell_1 flX1_57 rfl (hS.at rfl rfl rfl) ?_
      rw [j1]
      refine pw_if_ne (tgt := 9) dX1_tell_4 (by decide) (fun h4 => ?_) (fun h4 => ?_)
      · refine pw_iload_n dX1_tell_9 rfl ?_
        refine pw_tsIn (off := 40) (tgt := 50) dX1_tell_10 (by decide) (by decide) (by decide) (by decide) ?_
        refine pw_aload_n dX1_tell_50 rfl ?_
        refine pw_getI dX1_tell_51 flX1_73 rfl (hS.at rfl rfl rfl) ?_
        refine pw_iret dX1_tell_54 rfl rfl ?_
        exact ⟨by rw [if_neg (by decide), if_neg (by decide), if_pos rfl, j4], rfl⟩
      · exact absurd (e0.mp h4) z
    · skip
      refine pw_aload_n dX1_tell_0 rfl ?_
      refine pw_getI dX1_tell_1 flX1_57 rfl (hS.at rfl rfl rfl) ?_
      rw [j1]
      refine pw_if_ne (tgt := 9) dX1_tell_4 (by decide) (fun h4 => ?_) (fun h4 => ?_)
      · refine pw_iload_n dX1_tell_9 rfl ?_
        refine pw_tsIn (off := 45) (tgt := 55) dX1_tell_10 (by decide) (by decide) (by decide) (by decide) ?_
        refine pw_aload_n dX1_tell_55 rfl ?_
        refine pw_getI dX1_tell_56 flX1_57 rfl (hS.at rfl rfl rfl) ?_
        refine pw_iret dX1_tell_59 rfl rfl ?_
        exact ⟨by rw [if_neg (by decide), if_neg (by decide), if_neg (by decide), j1], rfl⟩
      · exact absurd (e0.mp h4) z
abbrev bTs (σ : pm_S) (n e : Nat) (house se kinds : Int32) : List tup := tl (bP σ e house se) (bB kinds) n 5 0 (fun _ => none)
theorem bTs_len {σ : pm_S} {n e : Nat} {house se kinds : Int32} (hn : n ≤ 20) : (bTs σ n e house se kinds).length ≤ 3200000 := tl_len hn 5 0 _
abbrev okBe (house se g kinds what : Int32) : Prop := (0 ≤ house ∧ house ≤ 7) ∧ (0 ≤ se ∧ se ≤ 3) ∧ (1 ≤ g ∧ g ≤ 255) ∧ (1 ≤ kinds ∧ kinds ≤ 31) ∧ (0 ≤ what ∧ what ≤ 3)
theorem t_choose {d al n e m a r : Nat} {σ τ : pm_S} {rs : List (List stp)} {house se g kinds : Int32} (hd : 20 ≤ d) (hX : bCx σ n e m rs a r) (hse : 0 ≤ se ∧ se ≤ 3) (hg : lt8 g) (hk : kpX σ τ) (h5 : qI τ 38 5 = house) (h6 : qI τ 38 6 = se) (h7 : qI τ 38 7 = g) (e0 : qI τ 42 0 = se) (e1 : qI τ 42 1 = nI (pcn g)) : PM d al MX1_choose [.ref 38, .int kinds, .ref a, .int (qI σ 43 0)] τ (fun v ρ => v = none ∧ ∃ js0 : jst, js0.1 = 0 ∧ cbC σ ρ a house se g kinds ∧ cbJ ρ ((bTs σ n e house se kinds).foldl (bJd σ rs m se g) js0)) := by
  have hn2 := hX.2.1.1.2.1
  obtain ⟨ρ2, hρ2⟩ : ∃ ρ2, ρ2 = pm_sI (pm_sI (pm_sR (pm_sI τ 38 8 kinds) 38 4 a) 38 9 (qI σ 43 0)) 38 10 0 := ⟨_, rfl⟩
  have k2 : kpX σ ρ2 := by
    rw [hρ2]
    exact (((hk.sI (by unfold kI; omega)).sR (by unfold kR; omega)).sI (by unfold kI; omega)).sI (by unfold kI; omega)
  have hS := hk.fix hX.1
  have hS2 := k2.fix hX.1
  have o2 : ∀ j, j ≠ 8 → j ≠ 9 → j ≠ 10 → qI ρ2 38 j = qI τ 38 j := fun j a1 a2 a3 => by rw [hρ2, qI_sI_ne (by omega), qI_sI_ne (by omega), qI_sR, qI_sI_ne (by omega)]
  have g8 : qI ρ2 38 8 = kinds := by rw [hρ2, qI_sI_ne (by decide), qI_sI_ne (by decide), qI_sR, qI_sI_eq]
  have g9 : qI ρ2 38 9 = qI σ 43 0 := by rw [hρ2, qI_sI_ne (by decide), qI_sI_eq]
  have g10 : qI ρ2 38 10 = 0 := by rw [hρ2, qI_sI_eq]
  have g4 : qR ρ2 38 4 = a := by rw [hρ2]; exact qR_sR_eq
  have o42 : ∀ j, qI ρ2 42 j = qI τ 42 j := fun j => by rw [hρ2, qI_sI_nc (by decide), qI_sI_nc (by decide), qI_sR, qI_sI_nc (by decide)]
  obtain ⟨ρ3, hρ3⟩ : ∃ ρ3, ρ3 = c_ts ρ2 40 (fun _ => none) := ⟨_, rfl⟩
  have k3 : kpX σ ρ3 := by rw [hρ3]; exact k2.tr (kpX.ts (Or.inr rfl))
  have hS3 := k3.fix hX.1
  have C3 : cbC σ ρ3 a house se g kinds := by
    refine ⟨k3, ?_⟩
    rw [hρ3]
    exact ⟨⟨(o2 5 (by decide) (by decide) (by decide)).trans h5, (o2 6 (by decide) (by decide) (by decide)).trans h6, (o2 7 (by decide) (by decide) (by decide)).trans h7, g8, g9⟩, (c_ts_R (by decide) 4).trans g4, (o42 0).trans e0, (o42 1).trans e1⟩
  have J3' : cbJ ρ3 (0, qI ρ2 38 11, qI ρ2 38 12, qI ρ2 38 13) := by rw [hρ3]; exact ⟨g10, rfl, rfl, rfl⟩
  have hlen := bTs_len (σ := σ) (e := e) (house := house) (se := se) (kinds := kinds) hn2
  have hly := t_ly hX hse hg (house := house) (kinds := kinds) 5 0 (d - 1) 0 ρ3 (0, qI ρ2 38 11, qI ρ2 38 12, qI ρ2 38 13) (fun _ => none) (by omega) (by omega) C3 J3' (fun j h5 _ => by rw [hρ3, c_ts_a h5]; rfl) (fun i s h => nomatch h) (by show 0 + (bTs σ n e house se kinds).length < _; omega)
  have hcl := t_clear (d := d - 1) (al := 0) hS2.ts2
  rw [← hρ3] at hcl
  show PW _ _ _ _ _ _ _ _
  refine pw_aload_n dX1_choose_0 rfl ?_
  refine pw_iload_n dX1_choose_1 rfl ?_
  refine pw_putI dX1_choose_2 flX1_51 ⟨_, rfl, Or.inl rfl⟩ rfl (hS.at rfl rfl rfl) ?_
  refine pw_aload_n dX1_choose_5 rfl ?_
  refine pw_aload_n dX1_choose_6 rfl ?_
  refine pw_putR dX1_choose_7 flX1_19 ⟨_, rfl, Or.inl rfl⟩ rfl (hS.at rfl rfl rfl) ?_
  refine pw_aload_n dX1_choose_10 rfl ?_
  refine pw_iload_n dX1_choose_11 rfl ?_
  refine pw_putI dX1_choose_12 flX1_54 ⟨_, rfl, Or.inl rfl⟩ rfl (hS.at rfl rfl rfl) ?_
  refine pw_aload_n dX1_choose_15 rfl ?_
  refine pw_iconst (v := 0) dX1_choose_16 (by decide) ?_
  refine pw_putI dX1_choose_17 flX1_57 ⟨_, rfl, Or.inl rfl⟩ rfl (hS.at rfl rfl rfl) ?_
  rw [← hρ2]
  have hS := hS2
  refine pw_aload_n dX1_choose_20 rfl ?_
  refine pw_getF (v := 39) dX1_choose_21 flX1_26 rfl (hS2.at rfl rfl rfl) (hS.rf (38, 2, 39) rfl (by decide)) ?_
  refine pw_cV0 (d1 := d - 1) (a1 := 0) (a2 := al) dX1_choose_24 mtX8_clear ivX8_clear mlX1_60 (Nat.le_of_ble_eq_true rfl) (Nat.le_of_ble_eq_true rfl) (by omega) (by omega) (hS2.at rfl rfl rfl) rfl rfl (hcl) ?_
  rintro r_ τ_ ⟨hr_, ht_⟩; subst r_; subst τ_
  refine pw_aload_n dX1_choose_27 rfl ?_
  refine pw_iconst (v := 0) dX1_choose_28 (by decide) ?_
  refine pw_cV1 (d1 := d - 1) (a1 := 0) (a2 := al) dX1_choose_29 mtX1_layFrom ivX1_layFrom mlX1_63 (Nat.le_of_ble_eq_true rfl) (Nat.le_of_ble_eq_true rfl) (by omega) (by omega) (hS3.at rfl rfl rfl) rfl rfl (hly) ?_
  rintro r_ ρ ⟨hr_, C4, J4_, -⟩; subst r_
  refine pw_vret dX1_choose_32 rfl ?_
  exact ⟨rfl, _, rfl, C4, J4_⟩
theorem t_best {d al n e m a r : Nat} {σ : pm_S} {rs : List (List stp)} {house se g kinds what : Int32} (hd : 30 ≤ d) (hX : bCx σ n e m rs a r) (hz : okBe house se g kinds what) : PM d al MX11_best [.ref 6, .int house, .int se, .int g, .int kinds, .int what] σ (fun v τ => (∃ js0 : jst, js0.1 = 0 ∧ v = some (.int (bTl ((bTs σ n e house se kinds).foldl (bJd σ rs m se g) js0) what))) ∧ kpX σ τ) := by
  have hS := hX.1
  have hn2 := hX.2.1.1.2.1
  have hg8 := lt8_guests hz.2.2.1
  obtain ⟨ρ1, hρ1⟩ : ∃ ρ1, ρ1 = pm_sI (pm_sI (pm_sI (pm_sI (pm_sI σ 38 5 house) 38 6 se) 38 7 g) 42 0 se) 42 1 (nI (pcn g)) := ⟨_, rfl⟩
  have k1 : kpX σ ρ1 := by
    rw [hρ1]
    exact ((((kpX.rfl'.sI (by unfold kI; omega)).sI (by unfold kI; omega)).sI (by unfold kI; omega)).sI (by unfold kI; omega)).sI (by unfold kI; omega)
  have hS1 := k1.fix hS
  have hin := t_invite (d := d - 1) (al := 0) (by omega) hS house se hg8
  rw [← hρ1] at hin
  have q5 : qI ρ1 38 5 = house := by rw [hρ1, qI_sI_nc (by decide), qI_sI_nc (by decide), qI_sI_ne (by decide), qI_sI_ne (by decide), qI_sI_eq]
  have q6 : qI ρ1 38 6 = se := by rw [hρ1, qI_sI_nc (by decide), qI_sI_nc (by decide), qI_sI_ne (by decide), qI_sI_eq]
  have q7 : qI ρ1 38 7 = g := by rw [hρ1, qI_sI_nc (by decide), qI_sI_nc (by decide), qI_sI_eq]
  have q0 : qI ρ1 42 0 = se := by rw [hρ1, qI_sI_ne (by decide), qI_sI_eq]
  have q1 : qI ρ1 42 1 = nI (pcn g) := by rw [hρ1, qI_sI_eq]
  have h66 : qR ρ1 6 6 = a := (k1.j4 hX.2.2.2).2.1.1
  have hday : qI ρ1 6 0 = qI σ 43 0 := (k1.1 6 0 (by unfold kI; omega)).trans hX.2.1.2.2.2.2.2.1
  have hch := t_choose (d := d - 1) (al := 0) (kinds := kinds) (by omega) hX hz.2.1 hg8 k1 q5 q6 q7 q0 q1
  show PW _ _ _ _ _ _ _ _
  refine pw_iload_n dX11_best_0 rfl ?_
  refine pw_cS1 (d1 := d - 1) (a1 := 0) (a2 := al) dX11_best_1 mtX11_isHouse stX11_isHouse mlX11_87 (Nat.le_of_ble_eq_true rfl) (Nat.le_of_ble_eq_true rfl) (by omega) (by omega) (t_house (by omega) _) ?_
  rintro r_ τ_ ⟨hr_, ht_⟩; subst r_; subst τ_
  refine pw_if_eq (tgt := 21) dX11_best_4 (by decide) (fun h4 => ?_) (fun h4 => ?_)
  · exact absurd hz.1 (bI_0.mp h4)
  · refine pw_iload_n dX11_best_7 rfl ?_
    refine pw_cS1 (d1 := d - 1) (a1 := 0) (a2 := al) dX11_best_8 mtX11_isSeason stX11_isSeason mlX11_198 (Nat.le_of_ble_eq_true rfl) (Nat.le_of_ble_eq_true rfl) (by omega) (by omega) (t_season (by omega) _) ?_
    rintro r_ τ_ ⟨hr_, ht_⟩; subst r_; subst τ_
    refine pw_if_eq (tgt := 21) dX11_best_11 (by decide) (fun h11 => ?_) (fun h11 => ?_)
    · exact absurd hz.2.1 (bI_0.mp h11)
    · refine pw_iload_n dX11_best_14 rfl ?_
      refine pw_cS1 (d1 := d - 1) (a1 := 0) (a2 := al) dX11_best_15 mtX11_isGuests stX11_isGuests mlX11_201 (Nat.le_of_ble_eq_true rfl) (Nat.le_of_ble_eq_true rfl) (by omega) (by omega) (t_guests (by omega) _) ?_
      rintro r_ τ_ ⟨hr_, ht_⟩; subst r_; subst τ_
      refine pw_if_ne (tgt := 23) dX11_best_18 (by decide) (fun h18 => ?_) (fun h18 => ?_)
      · refine pw_iload dX11_best_23 rfl ?_
        refine pw_iconst (v := 1) dX11_best_25 (by decide) ?_
        refine pw_bipush (v := 31) dX11_best_26 (by decide) ?_
        refine pw_cS3 (d1 := d - 1) (a1 := 0) (a2 := al) dX11_best_28 mtX11_isWithin stX11_isWithin mlX11_79 (Nat.le_of_ble_eq_true rfl) (Nat.le_of_ble_eq_true rfl) (by omega) (by omega) (t_within _ _ _) ?_
        rintro r_ τ_ ⟨hr_, ht_⟩; subst r_; subst τ_
        refine pw_if_eq (tgt := 44) dX11_best_31 (by decide) (fun h31 => ?_) (fun h31 => ?_)
        · exact absurd hz.2.2.2.1 (bI_0.mp h31)
        · refine pw_iload dX11_best_34 rfl ?_
          refine pw_iconst (v := 0) dX11_best_36 (by decide) ?_
          refine pw_iconst (v := 3) dX11_best_37 (by decide) ?_
          refine pw_cS3 (d1 := d - 1) (a1 := 0) (a2 := al) dX11_best_38 mtX11_isWithin stX11_isWithin mlX11_79 (Nat.le_of_ble_eq_true rfl) (Nat.le_of_ble_eq_true rfl) (by omega) (by omega) (t_within _ _ _) ?_
          rintro r_ τ_ ⟨hr_, ht_⟩; subst r_; subst τ_
          refine pw_if_ne (tgt := 46) dX11_best_41 (by decide) (fun h41 => ?_) (fun h41 => ?_)
          · refine pw_aload_n dX11_best_46 rfl ?_
            refine pw_getF (v := 38) dX11_best_47 flX11_75 rfl (hS.at rfl rfl rfl) (hS.rf (6, 10, 38) rfl (by decide)) ?_
            refine pw_iload_n dX11_best_50 rfl ?_
            refine pw_iload_n dX11_best_51 rfl ?_
            refine pw_iload_n dX11_best_52 rfl ?_
            refine pw_cV3 (d1 := d - 1) (a1 := 0) (a2 := al) dX11_best_53 mtX1_invite ivX1_invite mlX11_259 (Nat.le_of_ble_eq_true rfl) (Nat.le_of_ble_eq_true rfl) (by omega) (by omega) (hS.at rfl rfl rfl) rfl rfl (hin) ?_
            rintro r_ τ_ ⟨hr_, ht_⟩; subst r_; subst τ_
            have hS := hS1
            refine pw_aload_n dX11_best_56 rfl ?_
            refine pw_getF (v := 38) dX11_best_57 flX11_75 rfl (hS1.at rfl rfl rfl) (hS.rf (6, 10, 38) rfl (by decide)) ?_
            refine pw_iload dX11_best_60 rfl ?_
            refine pw_aload_n dX11_best_62 rfl ?_
            refine pw_getF dX11_best_63 flX11_40 rfl (hS1.at rfl rfl rfl) h66 ?_
            refine pw_aload_n dX11_best_66 rfl ?_
            refine pw_getI dX11_best_67 flX11_7 rfl (hS1.at rfl rfl rfl) ?_
            rw [hday]
            refine pw_cV3 (d1 := d - 1) (a1 := 0) (a2 := al) dX11_best_70 mtX1_choose ivX1_choose mlX11_263 (Nat.le_of_ble_eq_true rfl) (Nat.le_of_ble_eq_true rfl) (by omega) (by omega) (hS1.at rfl rfl rfl) rfl rfl (hch) ?_
            rintro r_ τ2 ⟨hr_, js0, hjs, C2, J2_⟩; subst r_
            have hS2 := C2.1.fix hX.1
            have hS := hS2
            have hlen := bTs_len (σ := σ) (e := e) (house := house) (se := se) (kinds := kinds) hn2
            have hle : ((bTs σ n e house se kinds).foldl (bJd σ rs m se g) js0).1 ≤ js0.1 + (bTs σ n e house se kinds).length := (jf_le (bar := bBar σ rs se g) (ag := bAg σ m g) (rk := bRk σ) (bi := bBi) (bTs σ n e house se kinds) js0).2
            have hb2 : ((bTs σ n e house se kinds).foldl (bJd σ rs m se g) js0).1 < 2 ^ 31 := by omega
            refine pw_aload_n dX11_best_73 rfl ?_
            refine pw_getF (v := 38) dX11_best_74 flX11_75 rfl (hS2.at rfl rfl rfl) (hS.rf (6, 10, 38) rfl (by decide)) ?_
            refine pw_iload dX11_best_77 rfl ?_
            refine pw_cV1 (d1 := d - 1) (a1 := 0) (a2 := al) dX11_best_79 mtX1_tell ivX1_tell mlX11_267 (Nat.le_of_ble_eq_true rfl) (Nat.le_of_ble_eq_true rfl) (by omega) (by omega) (hS2.at rfl rfl rfl) rfl rfl (t_tellB hS2 J2_ hb2 hz.2.2.2.2) ?_
            rintro r_ τ_ ⟨hr_, ht_⟩; subst r_; subst τ_
            refine pw_iret dX11_best_82 rfl rfl ?_
            exact ⟨⟨js0, hjs, rfl⟩, C2.1⟩
          · exact absurd hz.2.2.2.2 (bI_0.mp h41)
      · exact absurd hz.2.2.1 (bI_0.mp h18)
theorem t_best_n {d al : Nat} {σ : pm_S} {house se g kinds what : Int32} (hd : 2 ≤ d) (hz : ¬ okBe house se g kinds what) : PE d al MX11_best [.ref 6, .int house, .int se, .int g, .int kinds, .int what] σ (some (.int (-1))) σ := by
  show PW _ _ _ _ _ _ _ _
  refine pw_iload_n dX11_best_0 rfl ?_
  refine pw_cS1 (d1 := d - 1) (a1 := 0) (a2 := al) dX11_best_1 mtX11_isHouse stX11_isHouse mlX11_87 (Nat.le_of_ble_eq_true rfl) (Nat.le_of_ble_eq_true rfl) (by omega) (by omega) (t_house (by omega) _) ?_
  rintro r_ τ_ ⟨hr_, ht_⟩; subst r_; subst τ_
  refine pw_if_eq (tgt := 21) dX11_best_4 (by decide) (fun h4 => ?_) (fun h4 => ?_)
  · refine pw_iconst (v := (-1)) dX11_best_21 (by decide) ?_
    refine pw_iret dX11_best_22 rfl rfl ?_
    exact ⟨rfl, rfl⟩
  · refine pw_iload_n dX11_best_7 rfl ?_
    refine pw_cS1 (d1 := d - 1) (a1 := 0) (a2 := al) dX11_best_8 mtX11_isSeason stX11_isSeason mlX11_198 (Nat.le_of_ble_eq_true rfl) (Nat.le_of_ble_eq_true rfl) (by omega) (by omega) (t_season (by omega) _) ?_
    rintro r_ τ_ ⟨hr_, ht_⟩; subst r_; subst τ_
    refine pw_if_eq (tgt := 21) dX11_best_11 (by decide) (fun h11 => ?_) (fun h11 => ?_)
    · refine pw_iconst (v := (-1)) dX11_best_21 (by decide) ?_
      refine pw_iret dX11_best_22 rfl rfl ?_
      exact ⟨rfl, rfl⟩
    · refine pw_iload_n dX11_best_14 rfl ?_
      refine pw_cS1 (d1 := d - 1) (a1 := 0) (a2 := al) dX11_best_15 mtX11_isGuests stX11_isGuests mlX11_201 (Nat.le_of_ble_eq_true rfl) (Nat.le_of_ble_eq_true rfl) (by omega) (by omega) (t_guests (by omega) _) ?_
      rintro r_ τ_ ⟨hr_, ht_⟩; subst r_; subst τ_
      refine pw_if_ne (tgt := 23) dX11_best_18 (by decide) (fun h18 => ?_) (fun h18 => ?_)
      · refine pw_iload dX11_best_23 rfl ?_
        refine pw_iconst (v := 1) dX11_best_25 (by decide) ?_
        refine pw_bipush (v := 31) dX11_best_26 (by decide) ?_
        refine pw_cS3 (d1 := d - 1) (a1 := 0) (a2 := al) dX11_best_28 mtX11_isWithin stX11_isWithin mlX11_79 (Nat.le_of_ble_eq_true rfl) (Nat.le_of_ble_eq_true rfl) (by omega) (by omega) (t_within _ _ _) ?_
        rintro r_ τ_ ⟨hr_, ht_⟩; subst r_; subst τ_
        refine pw_if_eq (tgt := 44) dX11_best_31 (by decide) (fun h31 => ?_) (fun h31 => ?_)
        · refine pw_iconst (v := (-1)) dX11_best_44 (by decide) ?_
          refine pw_iret dX11_best_45 rfl rfl ?_
          exact ⟨rfl, rfl⟩
        · refine pw_iload dX11_best_34 rfl ?_
          refine pw_iconst (v := 0) dX11_best_36 (by decide) ?_
          refine pw_iconst (v := 3) dX11_best_37 (by decide) ?_
          refine pw_cS3 (d1 := d - 1) (a1 := 0) (a2 := al) dX11_best_38 mtX11_isWithin stX11_isWithin mlX11_79 (Nat.le_of_ble_eq_true rfl) (Nat.le_of_ble_eq_true rfl) (by omega) (by omega) (t_within _ _ _) ?_
          rintro r_ τ_ ⟨hr_, ht_⟩; subst r_; subst τ_
          refine pw_if_ne (tgt := 46) dX11_best_41 (by decide) (fun h41 => ?_) (fun h41 => ?_)
          · exact absurd ⟨bI_n.mp h4, bI_n.mp h11, bI_n.mp h18, bI_n.mp h31, bI_n.mp h41⟩ hz
          · refine pw_iconst (v := (-1)) dX11_best_44 (by decide) ?_
            refine pw_iret dX11_best_45 rfl rfl ?_
            exact ⟨rfl, rfl⟩
      · refine pw_iconst (v := (-1)) dX11_best_21 (by decide) ?_
        refine pw_iret dX11_best_22 rfl rfl ?_
        exact ⟨rfl, rfl⟩
