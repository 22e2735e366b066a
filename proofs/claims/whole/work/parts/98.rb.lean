/-! ===== the reference: what fits, the next that fits, a set is tried ===== -/
def nxI : List Nat → Int32
  | [] => -1
  | c :: _ => nI c
theorem s_isFit {d al n e t k : Nat} {σ τ : pm_S} {house se : Int32} (hd : 5 ≤ d) (hS0 : pm_fix σ) (hJ0 : J1 σ n e) (hk : kpX σ τ) (ht : t < n) (hk5 : k < 5) : PE d al MX12_isFit [.ref 43, .int (nI t), .int (nI k), .int house, .int se] τ (some (.int (bI (bP σ e house se k t = true)))) τ := by
  have hS := hk.fix hS0
  have hJ := hk.j1 hS0 hJ0
  have hn2 := hJ.1.2.1
  have ht20 : t < 20 := by omega
  have hI : ∀ b j, ¬ kI b j → qI τ b j = qI σ b j := hk.1
  have hth := s_isThere (d := d - 1) (al := 0) (by omega) hS hJ.2.1 hn2 (nI t)
  rw [nI_clamp (by omega), bI_c (q := qI σ 51 t = -1) ⟨fun z => by rw [← hI 51 t (by unfold kI; omega)]; exact z.2, fun z => ⟨tOk_nI ht (by omega), by rw [hI 51 t (by unfold kI; omega)]; exact z⟩⟩] at hth
  have hke := s_keptOn (d := d - 1) (al := 0) (by omega) hS hJ.2.2.1 hJ.2.2.2.1 ht20 (qI τ 43 0)
  rw [m_ke_cg (σ := σ) (fun b k a c => hI b k (by unfold kI; omega))] at hke
  have hday := hI 43 0 (by unfold kI; omega)
  have hkd := (kd_ok hJ0 ht).1
  have hkd5 := (kd_ok hJ0 ht).2
  have h44 : qI τ 44 t = nI (kd σ t) := (hI 44 t (by unfold kI; omega)).trans hkd
  have h47 : qI τ 47 t = qI σ 47 t := hI 47 t (by unfold kI; omega)
  have hkk : nI (kd σ t) = nI k ↔ kd σ t = k := nI_eq (by omega) (by omega)
  have hP : bP σ e house se k t = true ↔ fitP σ e house se k t := decide_eq_true_iff
  rw [bI_c hP]
  show PW _ _ _ _ _ _ _ _
  refine pw_aload_n dX12_isFit_0 rfl ?_
  refine pw_iload_n dX12_isFit_1 rfl ?_
  refine pw_cV1 (d1 := d - 1) (a1 := 0) (a2 := al) dX12_isFit_2 mtX12_isThere ivX12_isThere mlX12_107 (Nat.le_of_ble_eq_true rfl) (Nat.le_of_ble_eq_true rfl) (by omega) (by omega) (hS.at rfl rfl rfl) rfl rfl (hth) ?_
  rintro r_ τ_ ⟨hr_, ht_⟩; subst r_; subst τ_
  refine pw_if_eq (tgt := 50) dX12_isFit_5 (by decide) (fun h5 => ?_) (fun h5 => ?_)
  · refine pw_iconst (v := 0) dX12_isFit_50 (by decide) ?_
    refine pw_iret dX12_isFit_51 rfl (by first | rfl | exact bI_nar) ?_
    first | exact ⟨by rw [bI_t (⟨bI_n.mp h5, hkk.mp h15, h28, h43⟩ : fitP σ e house se k t)], rfl⟩ | exact ⟨by rw [bI_f (fun z => bI_0.mp h5 z.1)], rfl⟩ | exact ⟨by rw [bI_f (fun z => h15 (hkk.mpr z.2.1))], rfl⟩ | exact ⟨by rw [bI_f (fun z => h28 z.2.2.1)], rfl⟩ | exact ⟨by rw [bI_f (fun z => h43 z.2.2.2)], rfl⟩
  · refine pw_aload_n dX12_isFit_8 rfl ?_
    refine pw_getF (v := 44) dX12_isFit_9 flX12_7 rfl (hS.at rfl rfl rfl) (hS.rf (43, 4, 44) rfl (by decide)) ?_
    refine pw_iload_n dX12_isFit_12 rfl ?_
    refine pw_iald dX12_isFit_13 (hS.at rfl rfl rfl) rfl (hS.lt rfl rfl ht20 rfl) (by omega) ?_
    rw [h44]
    refine pw_iload_n dX12_isFit_14 rfl ?_
    refine pw_icmp_ne (tgt := 50) dX12_isFit_15 (by decide) (fun h15 => ?_) (fun h15 => ?_)
    · refine pw_iconst (v := 0) dX12_isFit_50 (by decide) ?_
      refine pw_iret dX12_isFit_51 rfl (by first | rfl | exact bI_nar) ?_
      first | exact ⟨by rw [bI_t (⟨bI_n.mp h5, hkk.mp h15, h28, h43⟩ : fitP σ e house se k t)], rfl⟩ | exact ⟨by rw [bI_f (fun z => bI_0.mp h5 z.1)], rfl⟩ | exact ⟨by rw [bI_f (fun z => h15 (hkk.mpr z.2.1))], rfl⟩ | exact ⟨by rw [bI_f (fun z => h28 z.2.2.1)], rfl⟩ | exact ⟨by rw [bI_f (fun z => h43 z.2.2.2)], rfl⟩
    · refine pw_aload_n dX12_isFit_18 rfl ?_
      refine pw_iload_n dX12_isFit_19 rfl ?_
      refine pw_aload_n dX12_isFit_20 rfl ?_
      refine pw_getI dX12_isFit_21 flX12_97 rfl (hS.at rfl rfl rfl) ?_
      refine pw_cV2 (d1 := d - 1) (a1 := 0) (a2 := al) dX12_isFit_24 mtX12_keptOn ivX12_keptOn mlX12_127 (Nat.le_of_ble_eq_true rfl) (Nat.le_of_ble_eq_true rfl) (by omega) (by omega) (hS.at rfl rfl rfl) rfl rfl (hke) ?_
      rintro r_ τ_ ⟨hr_, ht_⟩; subst r_; subst τ_
      rw [hday]
      refine pw_iload_n dX12_isFit_27 rfl ?_
      refine pw_icmp_ne (tgt := 50) dX12_isFit_28 (by decide) (fun h28 => ?_) (fun h28 => ?_)
      · refine pw_iconst (v := 0) dX12_isFit_50 (by decide) ?_
        refine pw_iret dX12_isFit_51 rfl (by first | rfl | exact bI_nar) ?_
        first | exact ⟨by rw [bI_t (⟨bI_n.mp h5, hkk.mp h15, h28, h43⟩ : fitP σ e house se k t)], rfl⟩ | exact ⟨by rw [bI_f (fun z => bI_0.mp h5 z.1)], rfl⟩ | exact ⟨by rw [bI_f (fun z => h15 (hkk.mpr z.2.1))], rfl⟩ | exact ⟨by rw [bI_f (fun z => h28 z.2.2.1)], rfl⟩ | exact ⟨by rw [bI_f (fun z => h43 z.2.2.2)], rfl⟩
      · refine pw_aload_n dX12_isFit_31 rfl ?_
        refine pw_getF (v := 47) dX12_isFit_32 flX12_19 rfl (hS.at rfl rfl rfl) (hS.rf (43, 7, 47) rfl (by decide)) ?_
        refine pw_iload_n dX12_isFit_35 rfl ?_
        refine pw_iald dX12_isFit_36 (hS.at rfl rfl rfl) rfl (hS.lt rfl rfl ht20 rfl) (by omega) ?_
        rw [h47]
        refine pw_iload dX12_isFit_37 rfl ?_
        refine pw_ishr dX12_isFit_39 ?_
        refine pw_iconst (v := 1) dX12_isFit_40 (by decide) ?_
        refine pw_iand dX12_isFit_41 ?_
        refine pw_iconst (v := 1) dX12_isFit_42 (by decide) ?_
        refine pw_icmp_ne (tgt := 50) dX12_isFit_43 (by decide) (fun h43 => ?_) (fun h43 => ?_)
        · refine pw_iconst (v := 0) dX12_isFit_50 (by decide) ?_
          refine pw_iret dX12_isFit_51 rfl (by first | rfl | exact bI_nar) ?_
          first | exact ⟨by rw [bI_t (⟨bI_n.mp h5, hkk.mp h15, h28, h43⟩ : fitP σ e house se k t)], rfl⟩ | exact ⟨by rw [bI_f (fun z => bI_0.mp h5 z.1)], rfl⟩ | exact ⟨by rw [bI_f (fun z => h15 (hkk.mpr z.2.1))], rfl⟩ | exact ⟨by rw [bI_f (fun z => h28 z.2.2.1)], rfl⟩ | exact ⟨by rw [bI_f (fun z => h43 z.2.2.2)], rfl⟩
        · refine pw_iconst (v := 1) dX12_isFit_46 (by decide) ?_
          refine pw_goto (tgt := 51) dX12_isFit_47 (by decide) ?_
          refine pw_iret dX12_isFit_51 rfl (by first | rfl | exact bI_nar) ?_
          first | exact ⟨by rw [bI_t (⟨bI_n.mp h5, hkk.mp h15, h28, h43⟩ : fitP σ e house se k t)], rfl⟩ | exact ⟨by rw [bI_f (fun z => bI_0.mp h5 z.1)], rfl⟩ | exact ⟨by rw [bI_f (fun z => h15 (hkk.mpr z.2.1))], rfl⟩ | exact ⟨by rw [bI_f (fun z => h28 z.2.2.1)], rfl⟩ | exact ⟨by rw [bI_f (fun z => h43 z.2.2.2)], rfl⟩
theorem s_next_lp {d al n e k : Nat} {σ τ : pm_S} {house se y : Int32} (hd : 6 ≤ d) (hS0 : pm_fix σ) (hJ0 : J1 σ n e) (hk : kpX σ τ) (hk5 : k < 5) : ∀ (q t : Nat), t + q = n → PW d al MX12_next 3 [.ref 43, .int y, .int (nI k), .int house, .int se, .int (nI t)] [] τ (fun v ρ => v = some (.int (nxI (cdl (bP σ e house se k) q t))) ∧ ρ = τ) := by
  have hS := hk.fix hS0
  have hJ := hk.j1 hS0 hJ0
  have hn := hJ.2.1
  have hn2 := hJ.1.2.1
  intro q
  induction q with
  | zero =>
    intro t ht
    have htn : t = n := by omega
    subst htn
    refine pw_iload dX12_next_3 rfl ?_
    refine pw_aload_n dX12_next_5 rfl ?_
    refine pw_getI dX12_next_6 flX12_90 rfl (hS.at rfl rfl rfl) ?_
    rw [hn]
    refine pw_icmp_ge (tgt := 31) dX12_next_9 (by decide) (fun h9 => ?_) (fun h9 => ?_)
    · refine pw_iload dX12_next_31 rfl ?_
      refine pw_aload_n dX12_next_33 rfl ?_
      refine pw_getI dX12_next_34 flX12_90 rfl (hS.at rfl rfl rfl) ?_
      rw [hn]
      refine pw_icmp_ge (tgt := 45) dX12_next_37 (by decide) (fun h37 => ?_) (fun h37 => ?_)
      · refine pw_iconst (v := (-1)) dX12_next_45 (by decide) ?_
        refine pw_iret dX12_next_46 rfl rfl ?_
        exact ⟨rfl, rfl⟩
      · exact absurd (Int32.le_refl _) h37
    · exact absurd (Int32.le_refl _) h9
  | succ q ih =>
    intro t ht
    have hf := s_isFit (d := d - 1) (al := 0) (house := house) (se := se) (by omega) hS0 hJ0 hk (show t < n by omega) hk5
    have hge := nI_ge (show t < n by omega) (by omega)
    by_cases z : bP σ e house se k t = true
    · rw [cdl_t z]
      rw [bI_t z] at hf
      refine pw_iload dX12_next_3 rfl ?_
      refine pw_aload_n dX12_next_5 rfl ?_
      refine pw_getI dX12_next_6 flX12_90 rfl (hS.at rfl rfl rfl) ?_
      rw [hn]
      refine pw_icmp_ge (tgt := 31) dX12_next_9 (by decide) (fun h9 => ?_) (fun h9 => ?_)
      · exact absurd h9 hge
      · refine pw_aload_n dX12_next_12 rfl ?_
        refine pw_iload dX12_next_13 rfl ?_
        refine pw_iload_n dX12_next_15 rfl ?_
        refine pw_iload_n dX12_next_16 rfl ?_
        refine pw_iload dX12_next_17 rfl ?_
        refine pw_cV4 (d1 := d - 1) (a1 := 0) (a2 := al) dX12_next_19 mtX12_isFit ivX12_isFit mlX12_280 (Nat.le_of_ble_eq_true rfl) (Nat.le_of_ble_eq_true rfl) (by omega) (by omega) (hS.at rfl rfl rfl) rfl rfl (hf) ?_
        rintro r_ τ_ ⟨hr_, ht_⟩; subst r_; subst τ_
        refine pw_if_ne (tgt := 31) dX12_next_22 (by decide) (fun h22 => ?_) (fun h22 => ?_)
        · refine pw_iload dX12_next_31 rfl ?_
          refine pw_aload_n dX12_next_33 rfl ?_
          refine pw_getI dX12_next_34 flX12_90 rfl (hS.at rfl rfl rfl) ?_
          rw [hn]
          refine pw_icmp_ge (tgt := 45) dX12_next_37 (by decide) (fun h37 => ?_) (fun h37 => ?_)
          · exact absurd h37 hge
          · refine pw_iload dX12_next_40 rfl ?_
            refine pw_goto (tgt := 46) dX12_next_42 (by decide) ?_
            refine pw_iret dX12_next_46 rfl rfl ?_
            exact ⟨rfl, rfl⟩
        · exact absurd h22 (by decide)
    · rw [cdl_f z]
      rw [bI_f z] at hf
      have hh := ih (t + 1) (by omega)
      rw [nI_succ] at hh
      refine pw_iload dX12_next_3 rfl ?_
      refine pw_aload_n dX12_next_5 rfl ?_
      refine pw_getI dX12_next_6 flX12_90 rfl (hS.at rfl rfl rfl) ?_
      rw [hn]
      refine pw_icmp_ge (tgt := 31) dX12_next_9 (by decide) (fun h9 => ?_) (fun h9 => ?_)
      · exact absurd h9 hge
      · refine pw_aload_n dX12_next_12 rfl ?_
        refine pw_iload dX12_next_13 rfl ?_
        refine pw_iload_n dX12_next_15 rfl ?_
        refine pw_iload_n dX12_next_16 rfl ?_
        refine pw_iload dX12_next_17 rfl ?_
        refine pw_cV4 (d1 := d - 1) (a1 := 0) (a2 := al) dX12_next_19 mtX12_isFit ivX12_isFit mlX12_280 (Nat.le_of_ble_eq_true rfl) (Nat.le_of_ble_eq_true rfl) (by omega) (by omega) (hS.at rfl rfl rfl) rfl rfl (hf) ?_
        rintro r_ τ_ ⟨hr_, ht_⟩; subst r_; subst τ_
        refine pw_if_ne (tgt := 31) dX12_next_22 (by decide) (fun h22 => ?_) (fun h22 => ?_)
        · exact absurd rfl h22
        · refine pw_iinc1 dX12_next_25 rfl (Nat.le_of_ble_eq_true rfl) (Nat.le_of_ble_eq_true rfl) rfl ?_
          refine pw_goto (tgt := 3) dX12_next_28 (by decide) ?_
          exact hh
theorem s_next {d al n e k t : Nat} {σ τ : pm_S} {house se : Int32} (hd : 6 ≤ d) (hS0 : pm_fix σ) (hJ0 : J1 σ n e) (hk : kpX σ τ) (hk5 : k < 5) (ht : t ≤ n) : PE d al MX12_next [.ref 43, .int (nI t), .int (nI k), .int house, .int se] τ (some (.int (nxI (cdl (bP σ e house se k) (n - t) t)))) τ := by
  show PW _ _ _ _ _ _ _ _
  refine pw_iload_n dX12_next_0 rfl ?_
  refine pw_istore dX12_next_1 (Nat.le_of_ble_eq_true rfl) (Nat.le_of_ble_eq_true rfl) rfl ?_
  exact s_next_lp hd hS0 hJ0 hk hk5 (n - t) t (by omega)
def tI : Option Nat → Int32
  | none => -1
  | some t => nI t
/-- a set as it is tried -/
def trS (τ : pm_S) (T : tup) : Prop := ∀ j, j < 5 → qI τ 67 j = tI (T j)
def vT (σ : pm_S) (n e : Nat) (house se kinds : Int32) (T : tup) : Prop := ∀ j, (∀ s, T j = some s → j < 5 ∧ bB kinds j = true ∧ s < n ∧ bP σ e house se j s = true) ∧ (j < 5 → bB kinds j = true → T j ≠ none)
theorem vT.rep {σ : pm_S} {n e : Nat} {house se kinds : Int32} {T : tup} (h : vT σ n e house se kinds T) (hn : n ≤ 20) : rep (kd σ) n (tb T 5) T := rep_tb hn (fun j s hs => by
  obtain ⟨a1, a2, a3, a4⟩ := (h j).1 s hs
  exact ⟨a3, (of_decide_eq_true a4).2.1⟩) (fun j hj => by
  cases hT : T j with
  | none => rfl
  | some s => have := ((h j).1 s hT).1; omega)
theorem vT.up {σ : pm_S} {n e k t : Nat} {house se kinds : Int32} {T : tup} (h : vT σ n e house se kinds T) (hk : k < 5) (hB : bB kinds k = true) (ht : t < n) (hP : bP σ e house se k t = true) : vT σ n e house se kinds (oU T k t) := fun j => by
  by_cases y : j = k
  · subst y
    rw [oU_same]
    exact ⟨fun s hs => by injection hs with hs; subst hs; exact ⟨hk, hB, ht, hP⟩, fun _ _ => by simp⟩
  · rw [oU_ne y]; exact h j
def mbJ (τ : pm_S) (js : jst) : Prop := qI τ 43 41 = js.2.1 ∧ qI τ 43 42 = js.2.2.1 ∧ qI τ 43 43 = js.2.2.2 ∧ qI τ 43 44 = nI js.1 ∧ (js.2.1 = 0 ↔ js.1 = 0)
def mbC (σ τ : pm_S) (T : tup) (js : jst) : Prop := kpX σ τ ∧ mbJ τ js ∧ trS τ T
theorem mbC.pl {σ τ ρ : pm_S} {T : tup} {js : jst} (h : mbC σ τ T js) (hp : plX τ ρ) : mbC σ ρ T js := ⟨h.1.tr (kpX.pl hp), ⟨(hp.2 43 41 (by decide)).trans h.2.1.1, (hp.2 43 42 (by decide)).trans h.2.1.2.1, (hp.2 43 43 (by decide)).trans h.2.1.2.2.1, (hp.2 43 44 (by decide)).trans h.2.1.2.2.2.1, h.2.1.2.2.2.2⟩, fun j hj => (hp.2 67 j (by decide)).trans (h.2.2 j hj)⟩
theorem kin_ne : ∀ K, K < 32 → 1 ≤ K → bt (nI K) 0 = true ∨ bt (nI K) 1 = true ∨ bt (nI K) 2 = true ∨ bt (nI K) 3 = true ∨ bt (nI K) 4 = true := by decide +kernel
theorem kin_ex {kinds : Int32} (h : 1 ≤ kinds ∧ kinds ≤ 31) : ∃ j, j < 5 ∧ bB kinds j = true := by
  have h1 : 1 ≤ kinds.toInt := i_le.mp h.1
  have h2 : kinds.toInt ≤ 31 := i_le.mp h.2
  have e : kinds = nI kinds.toInt.toNat := by rw [i_eq, nI_toInt (by omega)]; omega
  have hK := kin_ne kinds.toInt.toNat (by omega) (by omega)
  rw [← e] at hK
  rcases hK with h | h | h | h | h
  · exact ⟨0, by decide, h⟩
  · exact ⟨1, by decide, h⟩
  · exact ⟨2, by decide, h⟩
  · exact ⟨3, by decide, h⟩
  · exact ⟨4, by decide, h⟩
theorem tb_ne {σ : pm_S} {n e : Nat} {house se kinds : Int32} {T : tup} (h : vT σ n e house se kinds T) (hn : n ≤ 20) (hk : 1 ≤ kinds ∧ kinds ≤ 31) : tb T 5 ≠ 0 := by
  obtain ⟨j, h1, h2⟩ := kin_ex hk
  cases hT : T j with
  | none => exact absurd hT ((h j).2 h1 h2)
  | some s =>
    have := ((h.rep hn) j s).mp hT
    intro z
    rw [z, b_0] at this
    exact absurd this.2.1 (by decide)
theorem s_tr_lp {d al n e : Nat} {σ τ : pm_S} {house se g kinds : Int32} {T : tup} {Q : Option Value → pm_S → Prop} (hS0 : pm_fix σ) (hk : kpX σ τ) (hn2 : n ≤ 20) (hv : vT σ n e house se kinds T) (hT : trS τ T) (kk : PW d al MX12_tries 63 [.ref 43, .int se, .int g, .int (tb T 5), .int (trk σ T 5), .int (nI 5)] [] τ Q) : ∀ (q k : Nat), k + q = 5 → PW d al MX12_tries 8 [.ref 43, .int se, .int g, .int (tb T k), .int (trk σ T k), .int (nI k)] [] τ Q := by
  have hS := hk.fix hS0
  intro q
  induction q with
  | zero =>
    intro k hk5
    have : k = 5 := by omega
    subst this
    refine pw_iload dX12_tries_8 rfl ?_
    refine pw_iconst (v := 5) dX12_tries_10 (by decide) ?_
    refine pw_icmp_ge (tgt := 63) dX12_tries_11 (by decide) (fun h11 => ?_) (fun h11 => ?_)
    · exact kk
    · exact absurd (by decide) h11
  | succ q ih =>
    intro k hk5
    have hk6 : k < 5 := by omega
    have hh := ih (k + 1) (by omega)
    rw [nI_succ] at hh
    have e1 := hT k hk6
    cases hTk : T k with
    | none =>
      rw [hTk] at e1
      have e1 : qI τ 67 k = -1 := e1
      rw [tb_n hTk, trk_n hTk] at hh
      refine pw_iload dX12_tries_8 rfl ?_
      refine pw_iconst (v := 5) dX12_tries_10 (by decide) ?_
      refine pw_icmp_ge (tgt := 63) dX12_tries_11 (by decide) (fun h11 => ?_) (fun h11 => ?_)
      · exact absurd h11 (nI_ge hk6 (by decide))
      · refine pw_aload_n dX12_tries_14 rfl ?_
        refine pw_getF (v := 67) dX12_tries_15 flX12_83 rfl (hS.at rfl rfl rfl) (hS.rf (43, 40, 67) rfl (by decide)) ?_
        refine pw_iload dX12_tries_18 rfl ?_
        refine pw_iald dX12_tries_20 (hS.at rfl rfl rfl) rfl (hS.lt rfl rfl hk6 rfl) (by omega) ?_
        rw [e1]
        refine pw_iconst (v := (-1)) dX12_tries_21 (by decide) ?_
        refine pw_icmp_ne (tgt := 28) dX12_tries_22 (by decide) (fun h22 => ?_) (fun h22 => ?_)
        · exact absurd rfl h22
        · refine pw_goto (tgt := 57) dX12_tries_25 (by decide) ?_
          refine pw_iinc1 dX12_tries_57 rfl (Nat.le_of_ble_eq_true rfl) (Nat.le_of_ble_eq_true rfl) rfl ?_
          refine pw_goto (tgt := 8) dX12_tries_60 (by decide) ?_
          exact hh
    | some t =>
      rw [hTk] at e1
      have e1 : qI τ 67 k = nI t := e1
      have htn := ((hv k).1 t hTk).2.2.1
      have ht20 : t < 20 := by omega
      rw [tb_s hTk, trk_s hTk] at hh
      have e2 : qI τ 45 t = qI σ 45 t := hk.1 45 t (by unfold kI; omega)
      refine pw_iload dX12_tries_8 rfl ?_
      refine pw_iconst (v := 5) dX12_tries_10 (by decide) ?_
      refine pw_icmp_ge (tgt := 63) dX12_tries_11 (by decide) (fun h11 => ?_) (fun h11 => ?_)
      · exact absurd h11 (nI_ge hk6 (by decide))
      · refine pw_aload_n dX12_tries_14 rfl ?_
        refine pw_getF (v := 67) dX12_tries_15 flX12_83 rfl (hS.at rfl rfl rfl) (hS.rf (43, 40, 67) rfl (by decide)) ?_
        refine pw_iload dX12_tries_18 rfl ?_
        refine pw_iald dX12_tries_20 (hS.at rfl rfl rfl) rfl (hS.lt rfl rfl hk6 rfl) (by omega) ?_
        rw [e1]
        refine pw_iconst (v := (-1)) dX12_tries_21 (by decide) ?_
        refine pw_icmp_ne (tgt := 28) dX12_tries_22 (by decide) (fun h22 => ?_) (fun h22 => ?_)
        · refine pw_iload_n dX12_tries_28 rfl ?_
          refine pw_iconst (v := 1) dX12_tries_29 (by decide) ?_
          refine pw_aload_n dX12_tries_30 rfl ?_
          refine pw_getF (v := 67) dX12_tries_31 flX12_83 rfl (hS.at rfl rfl rfl) (hS.rf (43, 40, 67) rfl (by decide)) ?_
          refine pw_iload dX12_tries_34 rfl ?_
          refine pw_iald dX12_tries_36 (hS.at rfl rfl rfl) rfl (hS.lt rfl rfl hk6 rfl) (by omega) ?_
          rw [e1]
          refine pw_ishl dX12_tries_37 ?_
          refine pw_ior dX12_tries_38 ?_
          refine pw_istore_n dX12_tries_39 (Nat.le_of_ble_eq_true rfl) (Nat.le_of_ble_eq_true rfl) rfl ?_
          refine pw_iload dX12_tries_40 rfl ?_
          refine pw_aload_n dX12_tries_42 rfl ?_
          refine pw_getF (v := 45) dX12_tries_43 flX12_13 rfl (hS.at rfl rfl rfl) (hS.rf (43, 5, 45) rfl (by decide)) ?_
          refine pw_aload_n dX12_tries_46 rfl ?_
          refine pw_getF (v := 67) dX12_tries_47 flX12_83 rfl (hS.at rfl rfl rfl) (hS.rf (43, 40, 67) rfl (by decide)) ?_
          refine pw_iload dX12_tries_50 rfl ?_
          refine pw_iald dX12_tries_52 (hS.at rfl rfl rfl) rfl (hS.lt rfl rfl hk6 rfl) (by omega) ?_
          rw [e1]
          refine pw_iald dX12_tries_53 (hS.at rfl rfl rfl) rfl (hS.lt rfl rfl ht20 rfl) (by omega) ?_
          rw [e2]
          refine pw_iadd dX12_tries_54 ?_
          refine pw_istore dX12_tries_55 (Nat.le_of_ble_eq_true rfl) (Nat.le_of_ble_eq_true rfl) rfl ?_
          refine pw_iinc1 dX12_tries_57 rfl (Nat.le_of_ble_eq_true rfl) (Nat.le_of_ble_eq_true rfl) rfl ?_
          refine pw_goto (tgt := 8) dX12_tries_60 (by decide) ?_
          exact hh
        · exact absurd h22 (nI_nm1 (by omega))
theorem s_tries {d al n e m a r : Nat} {σ τ : pm_S} {rs : List (List stp)} {house se g kinds : Int32} {js : jst} {T : tup} (hd : 6 ≤ d) (hX : bCx σ n e m rs a r) (hg : lt8 g) (hkn : 1 ≤ kinds ∧ kinds ≤ 31) (hv : vT σ n e house se kinds T) (hC : mbC σ τ T js) (hb : js.1 + 1 < 2 ^ 31) : PM d al MX12_tries [.ref 43, .int se, .int g] τ (fun v ρ => v = none ∧ mbC σ ρ T (bJd σ rs m se g js T)) := by
  obtain ⟨x1, x2, x3, x4⟩ := hX
  have hn2 := x2.1.2.1
  have hS := hC.1.fix x1
  have hrep := hv.rep hn2
  have hbar := s_barBy (d := d - 1) (al := 0) (by omega) x4.2.2.2.1.2 hS (knC_of x2 hS (fun b j hb => hC.1.1 b j (by unfold kI; omega)) hrep hg (se := se)) (hC.1.j4 x4).2.2.2.2.1
  have hbB : bBar σ rs se g T = true ↔ fB (cmF (rwF σ T se g (qI σ 43 0))) rs 0 ≠ -1 := decide_eq_true_iff
  have hne := tb_ne hv hn2 hkn
  have key : ∀ ρ1, mbC σ ρ1 T js → ¬ bBar σ rs se g T = true → PW d al MX12_tries 75 [.ref 43, .int se, .int g, .int (tb T 5), .int (bRk σ T), .int (nI 5)] [] ρ1 (fun v ρ => v = none ∧ mbC σ ρ T (bJd σ rs m se g js T)) := by
    intro ρ1 C1 hnb
    have hS1 := C1.1.fix x1
    obtain ⟨q41, q42, q43, q44, q0⟩ := C1.2.1
    obtain ⟨ρ2, hρ2⟩ : ∃ ρ2, ρ2 = pm_sI ρ1 43 44 (nI (js.1 + 1)) := ⟨_, rfl⟩
    have k2 : kpX σ ρ2 := by rw [hρ2]; exact C1.1.sI (by unfold kI; omega)
    have hS2 := k2.fix x1
    have hJ2 := k2.j1 x1 x2
    have h22 := k2.j2 x3
    have t2 : trS ρ2 T := fun j hj => by rw [hρ2, qI_sI_nc (by decide)]; exact C1.2.2 j hj
    have p41 : qI ρ2 43 41 = js.2.1 := by rw [hρ2, qI_sI_ne (by decide)]; exact q41
    have p42 : qI ρ2 43 42 = js.2.2.1 := by rw [hρ2, qI_sI_ne (by decide)]; exact q42
    have p43 : qI ρ2 43 43 = js.2.2.2 := by rw [hρ2, qI_sI_ne (by decide)]; exact q43
    have p44 : qI ρ2 43 44 = nI (js.1 + 1) := by rw [hρ2, qI_sI_eq]
    have hag := s_againOf (d := d - 1) (al := 0) (by omega) hS2 hJ2.2.1 hn2 h22.2.2.1 h22.1 g (tb T 5)
    have hkd : kd ρ2 = kd σ := by
      funext t
      unfold kd
      rw [k2.1 44 t (by unfold kI; omega)]
    have eag : nI (m_ag ρ2 m n g (tb T 5) 8) = bAg σ m g T := by
      rw [← ag_eq hJ2 h22 (by rw [hkd]; exact hrep)]
      unfold bAg
      rw [spS_cg (fun j => k2.1 16 j (by unfold kI; omega)), csF_cg (fun b j hb => k2.1 b j (by unfold kI; omega))]
    rw [eag] at hag
    have hU : (js.1 = 0 ∨ bAg σ m g T < js.2.2.1 ∨ (bAg σ m g T = js.2.2.1 ∧ js.2.2.2 < bRk σ T)) → (fun (v : Option Value) (ρ : pm_S) => v = none ∧ mbC σ ρ T (bJd σ rs m se g js T)) none (pm_sI (pm_sI (pm_sI ρ2 43 41 (tb T 5)) 43 42 (bAg σ m g T)) 43 43 (bRk σ T)) := fun z2 => by
      refine ⟨rfl, ((k2.sI (by unfold kI; omega)).sI (by unfold kI; omega)).sI (by unfold kI; omega), ?_, fun j hj => by rw [qI_sI_nc (by decide), qI_sI_nc (by decide), qI_sI_nc (by decide)]; exact t2 j hj⟩
      rw [show bJd σ rs m se g js T = (js.1 + 1, bBi T, bAg σ m g T, bRk σ T) from jd_y hnb z2]
      refine ⟨?_, ?_, qI_sI_eq, ?_, ?_⟩
      · rw [qI_sI_ne (by decide), qI_sI_ne (by decide), qI_sI_eq]; rfl
      · rw [qI_sI_ne (by decide), qI_sI_eq]
      · rw [qI_sI_ne (by decide), qI_sI_ne (by decide), qI_sI_ne (by decide)]; exact p44
      · exact ⟨fun z => absurd z hne, fun z => absurd z (Nat.succ_ne_zero _)⟩
    have hN : ¬ (js.1 = 0 ∨ bAg σ m g T < js.2.2.1 ∨ (bAg σ m g T = js.2.2.1 ∧ js.2.2.2 < bRk σ T)) → (fun (v : Option Value) (ρ : pm_S) => v = none ∧ mbC σ ρ T (bJd σ rs m se g js T)) none ρ2 := fun z2 => by
      refine ⟨rfl, k2, ?_, t2⟩
      rw [show bJd σ rs m se g js T = (js.1 + 1, js.2) from jd_n hnb z2]
      exact ⟨p41, p42, p43, p44, ⟨fun z => absurd (Or.inl (q0.mp z)) z2, fun z => absurd z (Nat.succ_ne_zero _)⟩⟩
    have hS := hS1
    refine pw_aload_n dX12_tries_75 rfl ?_
    refine pw_dup dX12_tries_76 rfl ?_
    refine pw_getI dX12_tries_77 flX12_283 rfl (hS.at rfl rfl rfl) ?_
    rw [q44]
    refine pw_iconst (v := 1) dX12_tries_80 (by decide) ?_
    refine pw_iadd dX12_tries_81 ?_
    rw [← nI_succ]
    refine pw_putI dX12_tries_82 flX12_283 ⟨_, rfl, Or.inl rfl⟩ rfl (hS.at rfl rfl rfl) ?_
    rw [← hρ2]
    have hS := hS2
    refine pw_aload_n dX12_tries_85 rfl ?_
    refine pw_iload_n dX12_tries_86 rfl ?_
    refine pw_iload_n dX12_tries_87 rfl ?_
    refine pw_cV2 (d1 := d - 1) (a1 := 0) (a2 := al) dX12_tries_88 mtX12_againOf ivX12_againOf mlX12_152 (Nat.le_of_ble_eq_true rfl) (Nat.le_of_ble_eq_true rfl) (by omega) (by omega) (hS.at rfl rfl rfl) rfl rfl (hag) ?_
    rintro r_ τ_ ⟨hr_, ht_⟩; subst r_; subst τ_
    refine pw_istore dX12_tries_91 (Nat.le_of_ble_eq_true rfl) (Nat.le_of_ble_eq_true rfl) rfl ?_
    refine pw_aload_n dX12_tries_93 rfl ?_
    refine pw_getI dX12_tries_94 flX12_286 rfl (hS.at rfl rfl rfl) ?_
    rw [p41]
    refine pw_if_eq (tgt := 128) dX12_tries_97 (by decide) (fun h97 => ?_) (fun h97 => ?_)
    · refine pw_aload_n dX12_tries_128 rfl ?_
      refine pw_iload_n dX12_tries_129 rfl ?_
      refine pw_putI dX12_tries_130 flX12_286 ⟨_, rfl, Or.inl rfl⟩ rfl (hS.at rfl rfl rfl) ?_
      refine pw_aload_n dX12_tries_133 rfl ?_
      refine pw_iload dX12_tries_134 rfl ?_
      refine pw_putI dX12_tries_136 flX12_289 ⟨_, rfl, Or.inl rfl⟩ rfl (hS.at rfl rfl rfl) ?_
      refine pw_aload_n dX12_tries_139 rfl ?_
      refine pw_iload dX12_tries_140 rfl ?_
      refine pw_putI dX12_tries_142 flX12_292 ⟨_, rfl, Or.inl rfl⟩ rfl (hS.at rfl rfl rfl) ?_
      refine pw_vret dX12_tries_145 rfl ?_
      first | exact hU (Or.inl (q0.mp h97)) | exact hU (Or.inr (Or.inl (by rcases Int32.lt_or_eq_of_le (Int32.not_lt.mp h106) with y | y; exact y; exact absurd y h115))) | exact hU (Or.inr (Or.inr ⟨h115, h124⟩))
    · refine pw_iload dX12_tries_100 rfl ?_
      refine pw_aload_n dX12_tries_102 rfl ?_
      refine pw_getI dX12_tries_103 flX12_289 rfl (hS.at rfl rfl rfl) ?_
      rw [p42]
      refine pw_icmp_gt (tgt := 127) dX12_tries_106 (by decide) (fun h106 => ?_) (fun h106 => ?_)
      · refine pw_vret dX12_tries_127 rfl ?_
        first | exact hN (fun z => z.elim (fun y => h97 (q0.mpr y)) (fun z => z.elim (fun y => absurd h106 (Int32.not_lt.mpr (Int32.le_of_lt y))) (fun y => absurd h106 (by rw [y.1]; exact Int32.lt_irrefl)))) | exact hN (fun z => z.elim (fun y => h97 (q0.mpr y)) (fun z => z.elim (fun y => absurd y (by rw [h115]; exact Int32.lt_irrefl)) (fun y => h124 y.2)))
      · refine pw_iload dX12_tries_109 rfl ?_
        refine pw_aload_n dX12_tries_111 rfl ?_
        refine pw_getI dX12_tries_112 flX12_289 rfl (hS.at rfl rfl rfl) ?_
        rw [p42]
        refine pw_icmp_ne (tgt := 128) dX12_tries_115 (by decide) (fun h115 => ?_) (fun h115 => ?_)
        · refine pw_aload_n dX12_tries_128 rfl ?_
          refine pw_iload_n dX12_tries_129 rfl ?_
          refine pw_putI dX12_tries_130 flX12_286 ⟨_, rfl, Or.inl rfl⟩ rfl (hS.at rfl rfl rfl) ?_
          refine pw_aload_n dX12_tries_133 rfl ?_
          refine pw_iload dX12_tries_134 rfl ?_
          refine pw_putI dX12_tries_136 flX12_289 ⟨_, rfl, Or.inl rfl⟩ rfl (hS.at rfl rfl rfl) ?_
          refine pw_aload_n dX12_tries_139 rfl ?_
          refine pw_iload dX12_tries_140 rfl ?_
          refine pw_putI dX12_tries_142 flX12_292 ⟨_, rfl, Or.inl rfl⟩ rfl (hS.at rfl rfl rfl) ?_
          refine pw_vret dX12_tries_145 rfl ?_
          first | exact hU (Or.inl (q0.mp h97)) | exact hU (Or.inr (Or.inl (by rcases Int32.lt_or_eq_of_le (Int32.not_lt.mp h106) with y | y; exact y; exact absurd y h115))) | exact hU (Or.inr (Or.inr ⟨h115, h124⟩))
        · refine pw_iload dX12_tries_118 rfl ?_
          refine pw_aload_n dX12_tries_120 rfl ?_
          refine pw_getI dX12_tries_121 flX12_292 rfl (hS.at rfl rfl rfl) ?_
          rw [p43]
          refine pw_icmp_gt (tgt := 128) dX12_tries_124 (by decide) (fun h124 => ?_) (fun h124 => ?_)
          · refine pw_aload_n dX12_tries_128 rfl ?_
            refine pw_iload_n dX12_tries_129 rfl ?_
            refine pw_putI dX12_tries_130 flX12_286 ⟨_, rfl, Or.inl rfl⟩ rfl (hS.at rfl rfl rfl) ?_
            refine pw_aload_n dX12_tries_133 rfl ?_
            refine pw_iload dX12_tries_134 rfl ?_
            refine pw_putI dX12_tries_136 flX12_289 ⟨_, rfl, Or.inl rfl⟩ rfl (hS.at rfl rfl rfl) ?_
            refine pw_aload_n dX12_tries_139 rfl ?_
            refine pw_iload dX12_tries_140 rfl ?_
            refine pw_putI dX12_tries_142 flX12_292 ⟨_, rfl, Or.inl rfl⟩ rfl (hS.at rfl rfl rfl) ?_
            refine pw_vret dX12_tries_145 rfl ?_
            first | exact hU (Or.inl (q0.mp h97)) | exact hU (Or.inr (Or.inl (by rcases Int32.lt_or_eq_of_le (Int32.not_lt.mp h106) with y | y; exact y; exact absurd y h115))) | exact hU (Or.inr (Or.inr ⟨h115, h124⟩))
          · refine pw_vret dX12_tries_127 rfl ?_
            first | exact hN (fun z => z.elim (fun y => h97 (q0.mpr y)) (fun z => z.elim (fun y => absurd h106 (Int32.not_lt.mpr (Int32.le_of_lt y))) (fun y => absurd h106 (by rw [y.1]; exact Int32.lt_irrefl)))) | exact hN (fun z => z.elim (fun y => h97 (q0.mpr y)) (fun z => z.elim (fun y => absurd y (by rw [h115]; exact Int32.lt_irrefl)) (fun y => h124 y.2)))
  have hlp := s_tr_lp (d := d) (al := al) (g := g) (Q := fun v ρ => v = none ∧ mbC σ ρ T (bJd σ rs m se g js T)) x1 hC.1 hn2 hv hC.2.2 ?_ 5 0 (by omega)
  · show PW _ _ _ _ _ _ _ _
    refine pw_iconst (v := 0) dX12_tries_0 (by decide) ?_
    refine pw_istore_n dX12_tries_1 (Nat.le_of_ble_eq_true rfl) (Nat.le_of_ble_eq_true rfl) rfl ?_
    refine pw_iconst (v := 0) dX12_tries_2 (by decide) ?_
    refine pw_istore dX12_tries_3 (Nat.le_of_ble_eq_true rfl) (Nat.le_of_ble_eq_true rfl) rfl ?_
    refine pw_iconst (v := 0) dX12_tries_5 (by decide) ?_
    refine pw_istore dX12_tries_6 (Nat.le_of_ble_eq_true rfl) (Nat.le_of_ble_eq_true rfl) rfl ?_
    exact hlp
  · skip
    refine pw_aload_n dX12_tries_63 rfl ?_
    refine pw_iload_n dX12_tries_64 rfl ?_
    refine pw_iload_n dX12_tries_65 rfl ?_
    refine pw_iload_n dX12_tries_66 rfl ?_
    refine pw_cV3 (d1 := d - 1) (a1 := 0) (a2 := al) dX12_tries_67 mtX12_barredBy ivX12_barredBy mlX12_277 (Nat.le_of_ble_eq_true rfl) (Nat.le_of_ble_eq_true rfl) (by omega) (by omega) (hS.at rfl rfl rfl) rfl rfl (hbar) ?_
    rintro r_ ρ1 ⟨hr_, hp1⟩; subst r_
    have C1 := hC.pl hp1
    refine pw_iconst (v := (-1)) dX12_tries_70 (by decide) ?_
    refine pw_icmp_eq (tgt := 75) dX12_tries_71 (by decide) (fun h71 => ?_) (fun h71 => ?_)
    · exact key ρ1 C1 (fun z => hbB.mp z h71)
    · refine pw_vret dX12_tries_74 rfl ?_
      exact ⟨rfl, by rw [show bJd σ rs m se g js T = js from jd_b (hbB.mpr h71)]; exact C1⟩
