/-! ===== barred: on both sides ===== -/
def kI (b j : Nat) : Prop := b = 37 ∨ b = 38 ∨ b = 42 ∨ b = 65 ∨ b = 67 ∨ (b = 43 ∧ 41 ≤ j ∧ j ≤ 44)
def kR (b j : Nat) : Prop := b = 35 ∨ b = 40 ∨ (b = 38 ∧ j = 4)
/-- what is asked for in passing has changed alone -/
def kpX (σ τ : pm_S) : Prop := (∀ b j, ¬ kI b j → qI τ b j = qI σ b j) ∧ (∀ b j, ¬ kR b j → qR τ b j = qR σ b j) ∧ qT τ = qT σ ∧ qL τ = qL σ ∧ qN τ = qN σ
theorem kpX.rfl' {σ : pm_S} : kpX σ σ := ⟨fun _ _ _ => rfl, fun _ _ _ => rfl, rfl, rfl, rfl⟩
theorem kpX.tr {σ τ ρ : pm_S} (h1 : kpX σ τ) (h2 : kpX τ ρ) : kpX σ ρ := ⟨fun b j a => (h2.1 b j a).trans (h1.1 b j a), fun b j a => (h2.2.1 b j a).trans (h1.2.1 b j a), h2.2.2.1.trans h1.2.2.1, h2.2.2.2.1.trans h1.2.2.2.1, h2.2.2.2.2.trans h1.2.2.2.2⟩
theorem kpX.pl {σ τ : pm_S} (h : plX σ τ) : kpX σ τ := by
  refine ⟨fun b j a => h.2 b j (fun z => a (by unfold kI; omega)), fun b j _ => ?_, ?_, ?_, ?_⟩
  · unfold qR; rw [h.1]
  · unfold qT; rw [h.1]
  · unfold qL; rw [h.1]
  · unfold qN; rw [h.1]
theorem kpX.ts {σ : pm_S} {a : Nat} {T : Nat → Option Nat} (ha : a = 35 ∨ a = 40) : kpX σ (c_ts σ a T) := ⟨fun _ _ _ => rfl, fun b j z => c_ts_R (fun y => z (by unfold kR; omega)) j, rfl, rfl, rfl⟩
theorem kpX.sI {σ τ : pm_S} {a k : Nat} {x : Int32} (h : kpX σ τ) (ha : kI a k) : kpX σ (pm_sI τ a k x) := ⟨fun b j z => by rw [qI_sI_ne (fun y => z (by rw [y.1, y.2]; exact ha))]; exact h.1 b j z, h.2⟩
theorem kpX.fs {σ τ : pm_S} {a k : Nat} {R : Nat → Int32} (h : kpX σ τ) (ha : a = 37 ∨ a = 42) : kpX σ (c_fs τ a R k) := ⟨fun b j z => by rw [c_fs_ne (fun y => z (by unfold kI; omega))]; exact h.1 b j z, h.2⟩
theorem kpX.fix {σ τ : pm_S} (h : kpX σ τ) (hS : pm_fix σ) : pm_fix τ := by
  refine ⟨by rw [h.2.2.2.2]; exact hS.1, fun b x y => by rw [h.2.2.1, h.2.2.2.1]; exact hS.2.1 b x y, fun q hq => ?_⟩
  obtain ⟨-, -, f1, f2, f3⟩ := fin_no q hq
  rw [h.2.1 _ _ (fun z => by unfold kR at z; omega)]; exact hS.2.2 q hq
theorem kpX.j1 {σ τ : pm_S} {n e : Nat} (h : kpX σ τ) (hS : pm_fix σ) (hJ : J1 σ n e) : J1 τ n e := by
  have hI : ∀ b j, ¬ kI b j → qI τ b j = qI σ b j := h.1
  refine J1_fr hJ hS ⟨fun b k x _ => hI b k (by unfold kI; omega), fun b k x y => hI b k (by unfold kI; omega), ⟨hI 7 1 (by unfold kI; omega), hI 43 1 (by unfold kI; omega), hI 43 2 (by unfold kI; omega), hI 6 1 (by unfold kI; omega)⟩, fun b k x _ => h.2.1 b k (by unfold kR; omega), fun b _ => by rw [h.2.2.1], h.2.2.2.2⟩ ?_ ?_ ?_
  · rw [hI 43 0 (by unfold kI; omega)]; exact hJ.2.2.2.2.2.2.1
  · rw [hI 43 0 (by unfold kI; omega)]; exact Int32.le_refl _
  · rw [hI 43 0 (by unfold kI; omega), hI 6 0 (by unfold kI; omega)]; exact hJ.2.2.2.2.2.1
theorem kpX.j2 {σ τ : pm_S} {n m : Nat} (h : kpX σ τ) (hJ : J2 σ n m) : J2 τ n m := J2_fr hJ (Nat.le_refl n) (fun b k x => h.1 b k (by unfold kI; omega)) (fun t _ => by unfold kd; rw [h.1 44 t (by unfold kI; omega)])
theorem kpX.j3 {σ τ : pm_S} {L : Nat} (h : kpX σ τ) (hJ : J3 σ L) : J3 τ L := ⟨hJ.1, (h.1 17 1 (by unfold kI; omega)).trans hJ.2.1, (h.1 43 30 (by unfold kI; omega)).trans hJ.2.2.1, fun k hk => by rw [h.1 18 k (by unfold kI; omega), h.1 66 k (by unfold kI; omega)]; exact hJ.2.2.2 k hk⟩
theorem kpX.j4 {σ τ : pm_S} {rs : List (List stp)} {a r : Nat} (h : kpX σ τ) (hJ : J4 σ rs a r) : J4 τ rs a r := J4_fr hJ (fun b j x => h.1 b j (by unfold kI; omega)) ⟨h.2.1 6 6 (by unfold kR; omega), h.2.1 6 7 (by unfold kR; omega)⟩
theorem kpX.f5 {σ τ : pm_S} (h : kpX σ τ) : fr5 σ τ := ⟨⟨Nat.le_of_eq h.2.2.2.2.symm, fun b _ => by rw [h.2.2.1]⟩, fun b hb => ⟨by rw [h.2.2.2.1], fun j => ⟨h.1 b j (by unfold kI; omega), h.2.1 b j (by unfold kR; omega)⟩⟩⟩
theorem row_ok {ρ : pm_S} {a : Nat} {T : Nat → Option Nat} {se g day : Int32} (h0 : qI ρ a 0 = se) (h1 : qI ρ a 1 = nI (pcn g)) : ∀ k, k < 22 → qI (c_fs ρ a (rwF ρ T se g day) 5) a k = rwF ρ T se g day k := fun k hk => by
  show (if a = a ∧ 2 ≤ k ∧ k < 22 ∧ (k - 2) % 5 < 5 then rwF ρ T se g day k else qI ρ a k) = _
  by_cases z : 2 ≤ k
  · rw [if_pos ⟨rfl, z, hk, by omega⟩]
  · rw [if_neg (fun y => z y.2.1)]
    have : k = 0 ∨ k = 1 := by omega
    rcases this with rfl | rfl
    · rw [h0]; rfl
    · rw [h1]; rfl
abbrev okBC (K : Nat → Nat) (n : Nat) (se g set : Int32) : Prop := (0 ≤ se ∧ se ≤ 3) ∧ (1 ≤ g ∧ g ≤ 255) ∧ (rd K n set).1 = true
theorem t_barred_n {d al n e : Nat} {σ : pm_S} (hd : 6 ≤ d) (hS : pm_fix σ) (hJ : J1 σ n e) {se g set : Int32} (hz : ¬ okBC (kd σ) n se g set) : PM d al MX11_barred [.ref 6, .int se, .int g, .int set] σ (fun v τ => v = some (.int (-2)) ∧ kpX σ τ) := by
  have hr := t_read (d := d - 1) (al := 0) (by omega) hS hJ.1 hS.ts1 (kd_at hJ) set
  show PW _ _ _ _ _ _ _ _
  refine pw_iload_n dX11_barred_0 rfl ?_
  refine pw_cS1 (d1 := d - 1) (a1 := 0) (a2 := al) dX11_barred_1 mtX11_isSeason stX11_isSeason mlX11_198 (Nat.le_of_ble_eq_true rfl) (Nat.le_of_ble_eq_true rfl) (by omega) (by omega) (t_season (by omega) _) ?_
  rintro r_ τ_ ⟨hr_, ht_⟩; subst r_; subst τ_
  refine pw_if_eq (tgt := 29) dX11_barred_4 (by decide) (fun h4 => ?_) (fun h4 => ?_)
  · refine pw_bipush (v := (-2)) dX11_barred_29 (by decide) ?_
    refine pw_iret dX11_barred_31 rfl rfl ?_
    first | exact ⟨rfl, kpX.rfl'⟩ | exact ⟨rfl, kpX.ts (Or.inl rfl)⟩
  · refine pw_iload_n dX11_barred_7 rfl ?_
    refine pw_cS1 (d1 := d - 1) (a1 := 0) (a2 := al) dX11_barred_8 mtX11_isGuests stX11_isGuests mlX11_201 (Nat.le_of_ble_eq_true rfl) (Nat.le_of_ble_eq_true rfl) (by omega) (by omega) (t_guests (by omega) _) ?_
    rintro r_ τ_ ⟨hr_, ht_⟩; subst r_; subst τ_
    refine pw_if_eq (tgt := 29) dX11_barred_11 (by decide) (fun h11 => ?_) (fun h11 => ?_)
    · refine pw_bipush (v := (-2)) dX11_barred_29 (by decide) ?_
      refine pw_iret dX11_barred_31 rfl rfl ?_
      first | exact ⟨rfl, kpX.rfl'⟩ | exact ⟨rfl, kpX.ts (Or.inl rfl)⟩
    · refine pw_aload_n dX11_barred_14 rfl ?_
      refine pw_getF (v := 34) dX11_barred_15 flX11_59 rfl (hS.at rfl rfl rfl) (hS.rf (6, 8, 34) rfl (by decide)) ?_
      refine pw_iload_n dX11_barred_18 rfl ?_
      refine pw_aload_n dX11_barred_19 rfl ?_
      refine pw_getF (v := 7) dX11_barred_20 flX11_19 rfl (hS.at rfl rfl rfl) (hS.rf (6, 2, 7) rfl (by decide)) ?_
      refine pw_cV2 (d1 := d - 1) (a1 := 0) (a2 := al) dX11_barred_23 mtX8_read ivX8_read mlX11_205 (Nat.le_of_ble_eq_true rfl) (Nat.le_of_ble_eq_true rfl) (by omega) (by omega) (hS.at rfl rfl rfl) rfl rfl (hr) ?_
      rintro r_ τ_ ⟨hr_, ht_⟩; subst r_; subst τ_
      refine pw_if_ne (tgt := 32) dX11_barred_26 (by decide) (fun h26 => ?_) (fun h26 => ?_)
      · exact absurd ⟨bI_n.mp h4, bI_n.mp h11, bI_n.mp h26⟩ hz
      · refine pw_bipush (v := (-2)) dX11_barred_29 (by decide) ?_
        refine pw_iret dX11_barred_31 rfl rfl ?_
        first | exact ⟨rfl, kpX.rfl'⟩ | exact ⟨rfl, kpX.ts (Or.inl rfl)⟩
theorem t_barred_y {d al n e a r : Nat} {σ : pm_S} {rs : List (List stp)} (hd : 6 ≤ d) (hS : pm_fix σ) (hJ : J1 σ n e) (h4 : J4 σ rs a r) {se g set : Int32} (hz : okBC (kd σ) n se g set) : PM d al MX11_barred [.ref 6, .int se, .int g, .int set] σ (fun v τ => v = some (.int (fB (cmF (rwF σ (rd (kd σ) n set).2 se g (qI σ 43 0))) rs 0)) ∧ kpX σ τ) := by
  have hr := t_read (d := d - 1) (al := 0) (by omega) hS hJ.1 hS.ts1 (kd_at hJ) set
  rw [bI_t hz.2.2] at hr
  have hlt := rd_lt (K := kd σ) (set := set) hJ.1.2.1
  have hA := tS_ts (σ := σ) (a := 35) (Or.inl rfl) hlt
  have hg8 := lt8_guests hz.2.1
  have x1 : kpX σ (c_ts σ 35 (rd (kd σ) n set).2) := kpX.ts (Or.inl rfl)
  obtain ⟨ρ2, hρ2⟩ : ∃ ρ2, ρ2 = pm_sI (pm_sI (c_ts σ 35 (rd (kd σ) n set).2) 37 0 se) 37 1 (nI (pcn g)) := ⟨_, rfl⟩
  have x2 : kpX σ ρ2 := by rw [hρ2]; exact (x1.sI (by unfold kI; omega)).sI (by unfold kI; omega)
  have hA2 : tS ρ2 n 35 (rd (kd σ) n set).2 := by rw [hρ2]; exact hA
  have hS1 := x1.fix hS
  have hS2 := x2.fix hS
  have hJ2 := x2.j1 hS hJ
  have e0 : qI ρ2 37 0 = se := by rw [hρ2, qI_sI_ne (by decide), qI_sI_eq]
  have e1 : qI ρ2 37 1 = nI (pcn g) := by rw [hρ2, qI_sI_eq]
  have hday : qI ρ2 6 0 = qI σ 43 0 := (x2.1 6 0 (by unfold kI; omega)).trans hJ.2.2.2.2.2.1
  obtain ⟨ρ3, hρ3⟩ : ∃ ρ3, ρ3 = c_fs ρ2 37 (rwF ρ2 (rd (kd σ) n set).2 se g (qI σ 43 0)) 5 := ⟨_, rfl⟩
  have x3 : kpX σ ρ3 := by rw [hρ3]; exact x2.fs (Or.inl rfl)
  have hS3 := x3.fix hS
  have h43 := x3.j4 h4
  have hpa := t_party (d := d - 1) (al := 0) (by omega) hS1.fc1 se hg8
  rw [← hρ2] at hpa
  have hts := t_tellSet (d := d - 1) (al := 0) (by omega) hS2.fc1 hJ2.1 hS2.ts1 hA2 (fun t ht => (hJ2.2.2.2.2.2.2.2.2.2 t ht).1) se g (qI σ 43 0)
  rw [← hρ3] at hts
  have hfi := t_first (d := d - 1) (al := 0) (by omega) hS3 (show a = 19 ∨ a = 24 by have := h4.1; omega) hS3.fc1 h43.2.2.1.1 h43.2.2.1.2 h43.2.2.2.1.1 h43.2.2.2.2.1.2.2.2.1 h43.2.2.2.1.2
  have hrow : ∀ k, k < 22 → qI ρ3 37 k = rwF σ (rd (kd σ) n set).2 se g (qI σ 43 0) k := fun k hk => by
    rw [hρ3, row_ok e0 e1 k hk, rwF_cg (fun b j hb => x2.1 b j (by unfold kI; omega))]
  rw [fB_cg hrow rs 0 h4.2.2.2.1.2] at hfi
  have ha6 : qR ρ3 6 6 = a := h43.2.1.1
  have ia : pm_is ρ3 a 4 := (rl_f hS3 (show a = 19 ∨ a = 24 by have := h4.1; omega)).1
  show PW _ _ _ _ _ _ _ _
  refine pw_iload_n dX11_barred_0 rfl ?_
  refine pw_cS1 (d1 := d - 1) (a1 := 0) (a2 := al) dX11_barred_1 mtX11_isSeason stX11_isSeason mlX11_198 (Nat.le_of_ble_eq_true rfl) (Nat.le_of_ble_eq_true rfl) (by omega) (by omega) (t_season (by omega) _) ?_
  rintro r_ τ_ ⟨hr_, ht_⟩; subst r_; subst τ_
  refine pw_if_eq (tgt := 29) dX11_barred_4 (by decide) (fun h4 => ?_) (fun h4 => ?_)
  · exact absurd hz.1 (bI_0.mp h4)
  · refine pw_iload_n dX11_barred_7 rfl ?_
    refine pw_cS1 (d1 := d - 1) (a1 := 0) (a2 := al) dX11_barred_8 mtX11_isGuests stX11_isGuests mlX11_201 (Nat.le_of_ble_eq_true rfl) (Nat.le_of_ble_eq_true rfl) (by omega) (by omega) (t_guests (by omega) _) ?_
    rintro r_ τ_ ⟨hr_, ht_⟩; subst r_; subst τ_
    refine pw_if_eq (tgt := 29) dX11_barred_11 (by decide) (fun h11 => ?_) (fun h11 => ?_)
    · exact absurd hz.2.1 (bI_0.mp h11)
    · refine pw_aload_n dX11_barred_14 rfl ?_
      refine pw_getF (v := 34) dX11_barred_15 flX11_59 rfl (hS.at rfl rfl rfl) (hS.rf (6, 8, 34) rfl (by decide)) ?_
      refine pw_iload_n dX11_barred_18 rfl ?_
      refine pw_aload_n dX11_barred_19 rfl ?_
      refine pw_getF (v := 7) dX11_barred_20 flX11_19 rfl (hS.at rfl rfl rfl) (hS.rf (6, 2, 7) rfl (by decide)) ?_
      refine pw_cV2 (d1 := d - 1) (a1 := 0) (a2 := al) dX11_barred_23 mtX8_read ivX8_read mlX11_205 (Nat.le_of_ble_eq_true rfl) (Nat.le_of_ble_eq_true rfl) (by omega) (by omega) (hS.at rfl rfl rfl) rfl rfl (hr) ?_
      rintro r_ τ_ ⟨hr_, ht_⟩; subst r_; subst τ_
      refine pw_if_ne (tgt := 32) dX11_barred_26 (by decide) (fun h26 => ?_) (fun h26 => ?_)
      · have hS := hS1
        refine pw_aload_n dX11_barred_32 rfl ?_
        refine pw_getF (v := 36) dX11_barred_33 flX11_66 rfl (hS1.at rfl rfl rfl) (hS.rf (6, 9, 36) rfl (by decide)) ?_
        refine pw_iload_n dX11_barred_36 rfl ?_
        refine pw_iload_n dX11_barred_37 rfl ?_
        refine pw_cV2 (d1 := d - 1) (a1 := 0) (a2 := al) dX11_barred_38 mtX2_tellParty ivX2_tellParty mlX11_248 (Nat.le_of_ble_eq_true rfl) (Nat.le_of_ble_eq_true rfl) (by omega) (by omega) (hS1.at rfl rfl rfl) rfl rfl (hpa) ?_
        rintro r_ τ_ ⟨hr_, ht_⟩; subst r_; subst τ_
        have hS := hS2
        refine pw_aload_n dX11_barred_41 rfl ?_
        refine pw_getF (v := 36) dX11_barred_42 flX11_66 rfl (hS2.at rfl rfl rfl) (hS.rf (6, 9, 36) rfl (by decide)) ?_
        refine pw_aload_n dX11_barred_45 rfl ?_
        refine pw_getF (v := 34) dX11_barred_46 flX11_59 rfl (hS2.at rfl rfl rfl) (hS.rf (6, 8, 34) rfl (by decide)) ?_
        refine pw_aload_n dX11_barred_49 rfl ?_
        refine pw_getI dX11_barred_50 flX11_7 rfl (hS2.at rfl rfl rfl) ?_
        rw [hday]
        refine pw_cV2 (d1 := d - 1) (a1 := 0) (a2 := al) dX11_barred_53 mtX2_tellSet ivX2_tellSet mlX11_251 (Nat.le_of_ble_eq_true rfl) (Nat.le_of_ble_eq_true rfl) (by omega) (by omega) (hS2.at rfl rfl rfl) rfl rfl (hts) ?_
        rintro r_ τ_ ⟨hr_, ht_⟩; subst r_; subst τ_
        have hS := hS3
        refine pw_aload_n dX11_barred_56 rfl ?_
        refine pw_getF dX11_barred_57 flX11_40 rfl (hS3.at rfl rfl rfl) ha6 ?_
        refine pw_aload_n dX11_barred_60 rfl ?_
        refine pw_getF (v := 36) dX11_barred_61 flX11_66 rfl (hS3.at rfl rfl rfl) (hS.rf (6, 9, 36) rfl (by decide)) ?_
        refine pw_cV1 (d1 := d - 1) (a1 := 0) (a2 := al) dX11_barred_64 mtX4_firstThatBars ivX4_firstThatBars mlX11_255 (Nat.le_of_ble_eq_true rfl) (Nat.le_of_ble_eq_true rfl) (by omega) (by omega) ia rfl rfl (hfi) ?_
        rintro r_ τ_ ⟨hr_, ht_⟩; subst r_; subst τ_
        refine pw_iret dX11_barred_67 rfl rfl ?_
        exact ⟨rfl, x3⟩
      · exact absurd h26 (by decide)
theorem knC_of {σ τ : pm_S} {n e : Nat} {T : Nat → Option Nat} {se g set : Int32} (hJ : J1 σ n e) (hS : pm_fix τ) (hk : ∀ b j, (b = 43 ∧ j ≤ 1) ∨ (44 ≤ b ∧ b ≤ 48) → qI τ b j = qI σ b j) (hr : rep (kd σ) n set T) (hg : lt8 g) : knC τ (rwF σ T se g (qI σ 43 0)) se g set := by
  intro d ρ hd hρ x h1 h2
  have hI : ∀ b j, (b = 43 ∧ j ≤ 1) ∨ (44 ≤ b ∧ b ≤ 48) → qI ρ b j = qI σ b j := fun b j hb => (hρ.2 b j (by omega)).trans (hk b j hb)
  have hkd : kd ρ = kd σ := by
    funext t
    unfold kd
    rw [hI 44 t (by omega)]
  have hp := s_known (d := d) (al := 0) (σ := ρ) (T := T) (set := set) hd (fix_of2 hρ.1 hS) ((hI 43 1 (by omega)).trans hJ.2.1) hJ.1.2.1 (fun t ht => by rw [hkd, hI 44 t (by omega)]; exact kd_ok hJ ht) (by rw [hkd]; exact hr) h1 h2 se hg
  rw [hI 43 0 (by omega), rwF_cg (fun b j hb => hI b j (by omega))] at hp
  exact hp
theorem p_barred {σ : pm_S} {n e a r : Nat} {rs : List (List stp)} (hS : pm_fix σ) (hJ : J1 σ n e) (h4 : J4 σ rs a r) (se g set : Int32) : pS 0 MX11_barred MX12_barred [.int se, .int g, .int set] σ (fun τ => kpX σ τ) := by
  have hn2 := hJ.1.2.1
  have hiff := isSt_rd (σ := σ) (set := set) hn2 (fun t ht => kd_ok hJ ht)
  by_cases hz : okBC (kd σ) n se g set
  · refine PW.post ?_ (t_barred_y (d := 100) (al := 0) (by decide) hS hJ h4 hz)
    rintro v τ1 ⟨rfl, x1⟩
    refine ⟨_, rfl, x1.f5, ?_⟩
    have hS1 := x1.fix hS
    obtain ⟨hr, hb⟩ := rd_rep hn2 hz.2.2
    have hok : okBr τ1 n se g set := ⟨hz.1, hz.2.1, (isSt_cg (σ := σ) (fun k => x1.1 44 k (by unfold kI; omega))).mpr (hiff.mpr hz.2.2)⟩
    refine PW.post ?_ (s_barred_y (d := 100) (al := 0) (by decide) hS1 ((x1.1 43 1 (by unfold kI; omega)).trans hJ.2.1) hn2 hok h4.2.2.2.1.2 (knC_of hJ hS1 (fun b j hb => x1.1 b j (by unfold kI; omega)) hr (lt8_guests hz.2.1)) (x1.j4 h4).2.2.2.2.1)
    rintro v' τ ⟨rfl, x2⟩
    exact ⟨rfl, x1.tr (kpX.pl x2)⟩
  · refine PW.post ?_ (t_barred_n (d := 100) (al := 0) (by decide) hS hJ hz)
    rintro v τ1 ⟨rfl, x1⟩
    refine ⟨_, rfl, x1.f5, ?_⟩
    have hS1 := x1.fix hS
    have hno : ¬ okBr τ1 n se g set := fun z => hz ⟨z.1, z.2.1, hiff.mp ((isSt_cg (σ := σ) (fun k => x1.1 44 k (by unfold kI; omega))).mp z.2.2)⟩
    refine PW.post ?_ (s_barred_n (d := 100) (al := 0) (by decide) hS1 ((x1.1 43 1 (by unfold kI; omega)).trans hJ.2.1) hn2 hno)
    rintro v' τ ⟨rfl, rfl⟩
    exact ⟨rfl, x1⟩
