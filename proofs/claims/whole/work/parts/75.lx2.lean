/-! ===== the class: words, numbers, the tape cut ===== -/
def c_tp (σ : pm_S) (k : Nat) (tok place v : Int32) : pm_S := pm_sI (pm_sI (pm_sI (pm_sI σ 31 k tok) 32 k place) 33 k v) 30 4 (nI k + 1)
theorem t_kput {d al k : Nat} {σ : pm_S} (hS : pm_fix σ) (hk : qI σ 30 4 = nI k) (hk2 : k < 601) (tok place v : Int32) : PE d al MX10_put [.ref 30, .int tok, .int place, .int v] σ none (c_tp σ k tok place v) := by
  show PW _ _ _ _ _ _ _ _
  refine pw_aload_n dX10_put_0 rfl ?_
  refine pw_getI dX10_put_1 flX10_25 rfl (hS.at rfl rfl rfl) ?_
  refine pw_sipush (v := 601) dX10_put_4 (by decide) ?_
  refine pw_icmp_ge (tgt := 50) dX10_put_7 (by decide) (fun h7 => ?_) (fun h7 => ?_)
  · exact absurd (by rw [hk] at h7; exact h7) (nI_ge hk2 (by decide))
  · refine pw_aload_n dX10_put_10 rfl ?_
    refine pw_getF (v := 31) dX10_put_11 flX10_11 rfl (hS.at rfl rfl rfl) (hS.rf (30, 1, 31) rfl (by decide)) ?_
    refine pw_aload_n dX10_put_14 rfl ?_
    refine pw_getI dX10_put_15 flX10_25 rfl (hS.at rfl rfl rfl) ?_
    refine pw_iload_n dX10_put_18 rfl ?_
    refine pw_iast dX10_put_19 (hS.at rfl rfl rfl) (by decide) hk (hS.lt rfl rfl hk2 rfl) (by omega) ?_
    refine pw_aload_n dX10_put_20 rfl ?_
    refine pw_getF (v := 32) dX10_put_21 flX10_15 rfl (hS.at rfl rfl rfl) (hS.rf (30, 2, 32) rfl (by decide)) ?_
    refine pw_aload_n dX10_put_24 rfl ?_
    refine pw_getI dX10_put_25 flX10_25 rfl (hS.at rfl rfl rfl) ?_
    refine pw_iload_n dX10_put_28 rfl ?_
    refine pw_iast dX10_put_29 (hS.at rfl rfl rfl) (by decide) hk (hS.lt rfl rfl hk2 rfl) (by omega) ?_
    refine pw_aload_n dX10_put_30 rfl ?_
    refine pw_getF (v := 33) dX10_put_31 flX10_18 rfl (hS.at rfl rfl rfl) (hS.rf (30, 3, 33) rfl (by decide)) ?_
    refine pw_aload_n dX10_put_34 rfl ?_
    refine pw_getI dX10_put_35 flX10_25 rfl (hS.at rfl rfl rfl) ?_
    refine pw_iload_n dX10_put_38 rfl ?_
    refine pw_iast dX10_put_39 (hS.at rfl rfl rfl) (by decide) hk (hS.lt rfl rfl hk2 rfl) (by omega) ?_
    refine pw_aload_n dX10_put_40 rfl ?_
    refine pw_dup dX10_put_41 rfl ?_
    refine pw_getI dX10_put_42 flX10_25 rfl (hS.at rfl rfl rfl) ?_
    refine pw_iconst (v := 1) dX10_put_45 (by decide) ?_
    refine pw_iadd dX10_put_46 ?_
    refine pw_putI dX10_put_47 flX10_25 ⟨_, rfl, Or.inl rfl⟩ rfl (hS.at rfl rfl rfl) ?_
    refine pw_vret dX10_put_50 rfl ?_
    refine ⟨rfl, ?_⟩
    unfold c_tp
    rw [← hk]
    rfl
theorem t_isWord_lp {d al L q e w : Nat} {σ : pm_S} {c : Nat → Nat} (hd : 4 ≤ d) (hS : pm_fix σ) (hT : tpH σ c L) (hJ : jdC σ) (hw : w < 15) (hq : q < e) (he : e ≤ L) (h6 : e - q ≤ 6) : ∀ (k i : Nat) (x : Value), okx x → i + k = 6 → (∀ j, j < i → tblN.getD (w * 6 + j) 0 = if j < e - q then c (q + j) else 32) → PW d al MX10_isWord 13 [.ref 30, .int (nI w), .int (nI q), .int (nI e), .int (nI i), x] [] σ (fun r τ => r = some (.int (bI (wm c q (e - q) w))) ∧ τ = σ) := by
  have hL := hT.1
  intro k
  induction k with
  | zero =>
    intro i x hx hi hm
    have hi6 : i = 6 := by omega
    subst hi6
    refine pw_iload dX10_isWord_13 rfl ?_
    refine pw_bipush (v := 6) dX10_isWord_15 (by decide) ?_
    refine pw_icmp_ge (tgt := 71) dX10_isWord_17 (by decide) (fun h17 => ?_) (fun h17 => ?_)
    · refine pw_iconst (v := 1) dX10_isWord_71 (by decide) ?_
      refine pw_iret dX10_isWord_72 rfl (by first | rfl | exact bI_nar) ?_
      have hok : wm c q (e - q) w := ⟨h6, hm⟩
      exact ⟨by rw [bI_t hok], rfl⟩
    · exact absurd (by decide) h17
  | succ k ih =>
    intro i x hx hi hm
    have e1 : nI q + nI i = nI (q + i) := nI_add q i
    have e2 : nI w * 6 + nI i = nI (w * 6 + i) := by rw [show (6 : Int32) = nI 6 from rfl, pk_mul, nI_add]
    have hk9 : w * 6 + i < 90 := by omega
    have h128 := tbl_128 _ hk9
    have hh := fun v hv => ih (i + 1) (.int v) (Or.inr ⟨_, rfl⟩) (by omega) hv
    rw [nI_succ i] at hh
    have hno : ∀ v : Nat, v < 256 → (if i < e - q then c (q + i) else 32) = v → nI (tblN.getD (w * 6 + i) 0) ≠ nI v → bI (wm c q (e - q) w) = 0 := fun v hv1 hv2 hv3 => by
      rw [bI_f]
      intro z
      have := z.2 i (by omega)
      rw [hv2] at this
      exact hv3 (by rw [this])
    have hgo : ∀ v : Nat, v < 256 → (if i < e - q then c (q + i) else 32) = v → nI (tblN.getD (w * 6 + i) 0) = nI v → ∀ j, j < i + 1 → tblN.getD (w * 6 + j) 0 = if j < e - q then c (q + j) else 32 := fun v hv1 hv2 hv3 j hj => by
      by_cases z : j = i
      · rw [z, hv2]; exact nI_inj (by omega) (by omega) hv3
      · exact hm j (by omega)
    refine pw_iload dX10_isWord_13 rfl ?_
    refine pw_bipush (v := 6) dX10_isWord_15 (by decide) ?_
    refine pw_icmp_ge (tgt := 71) dX10_isWord_17 (by decide) (fun h17 => ?_) (fun h17 => ?_)
    · exact absurd h17 (nI_ge (show i < 6 by omega) (by decide))
    · refine pw_iload_n dX10_isWord_20 rfl ?_
      refine pw_iload dX10_isWord_21 rfl ?_
      refine pw_iadd dX10_isWord_23 ?_
      refine pw_iload_n dX10_isWord_24 rfl ?_
      rw [e1]
      refine pw_icmp_ge (tgt := 42) dX10_isWord_25 (by decide) (fun h25 => ?_) (fun h25 => ?_)
      · have hge : ¬ i < e - q := by
          intro z
          exact absurd h25 (nI_ge (show q + i < e by omega) (by omega))
        have hcv : (if i < e - q then c (q + i) else 32) = 32 := if_neg hge
        refine pw_bipush (v := 32) dX10_isWord_42 (by decide) ?_
        refine pw_istore dX10_isWord_44 (Nat.le_of_ble_eq_true rfl) (Nat.le_of_ble_eq_true rfl) rfl ?_
        refine pw_ldcS1 dX10_isWord_46 rfl ?_
        refine pw_iload_n dX10_isWord_48 rfl ?_
        refine pw_bipush (v := 6) dX10_isWord_49 (by decide) ?_
        refine pw_imul dX10_isWord_51 ?_
        refine pw_iload dX10_isWord_52 rfl ?_
        refine pw_iadd dX10_isWord_54 ?_
        rw [e2]
        refine pw_vT1 (d1 := d - 1) (a1 := 0) (a2 := al) dX10_isWord_55 mtJ0_charAt_5068e ivJ0_charAt_5068e mlX10_70 (Nat.le_of_ble_eq_true rfl) (Nat.le_of_ble_eq_true rfl) (by omega) (by omega) (Or.inl rfl) rfl (u_charAt (by omega) hJ.1 hk9 (hJ.2.2.1 _ hk9) h128) ?_
        rintro r_ τ_ ⟨hr_, ht_⟩; subst r_; subst τ_
        refine pw_iload dX10_isWord_58 rfl ?_
        refine pw_icmp_eq (tgt := 65) dX10_isWord_60 (by decide) (fun h60 => ?_) (fun h60 => ?_)
        · refine pw_iinc1 dX10_isWord_65 rfl (Nat.le_of_ble_eq_true rfl) (Nat.le_of_ble_eq_true rfl) rfl ?_
          refine pw_goto (tgt := 13) dX10_isWord_68 (by decide) ?_
          first | exact hh _ (hgo _ hc256 hcv h60) | exact hh _ (hgo 32 (by decide) hcv h60)
        · refine pw_iconst (v := 0) dX10_isWord_63 (by decide) ?_
          refine pw_iret dX10_isWord_64 rfl (by first | rfl | exact bI_nar) ?_
          first | exact ⟨by rw [hno _ hc256 hcv h60], rfl⟩ | exact ⟨by rw [hno 32 (by decide) hcv h60], rfl⟩
      · have hlt : q + i < e := by
          rcases Nat.lt_or_ge (q + i) e with z | z
          · exact z
          · exact absurd (nI_le z (by omega)) h25
        have hlt2 : q + i < L := by omega
        have hcv : (if i < e - q then c (q + i) else 32) = c (q + i) := if_pos (by omega)
        have hc256 := (hT.2.2 _ hlt2).2
        refine pw_aload_n dX10_isWord_28 rfl ?_
        refine pw_getF (v := 17) dX10_isWord_29 flX10_21 rfl (hS.at rfl rfl rfl) (hS.rf (30, 0, 17) rfl (by decide)) ?_
        refine pw_iload_n dX10_isWord_32 rfl ?_
        refine pw_iload dX10_isWord_33 rfl ?_
        refine pw_iadd dX10_isWord_35 ?_
        rw [e1]
        refine pw_cV1 (d1 := d - 1) (a1 := 0) (a2 := al) dX10_isWord_36 mtX7_at ivX7_at mlX10_33 (Nat.le_of_ble_eq_true rfl) (Nat.le_of_ble_eq_true rfl) (by omega) (by omega) (hS.at rfl rfl rfl) rfl rfl (t_tat' hS hT hlt2) ?_
        rintro r_ τ_ ⟨hr_, ht_⟩; subst r_; subst τ_
        refine pw_goto (tgt := 44) dX10_isWord_39 (by decide) ?_
        refine pw_istore dX10_isWord_44 (Nat.le_of_ble_eq_true rfl) (Nat.le_of_ble_eq_true rfl) rfl ?_
        refine pw_ldcS1 dX10_isWord_46 rfl ?_
        refine pw_iload_n dX10_isWord_48 rfl ?_
        refine pw_bipush (v := 6) dX10_isWord_49 (by decide) ?_
        refine pw_imul dX10_isWord_51 ?_
        refine pw_iload dX10_isWord_52 rfl ?_
        refine pw_iadd dX10_isWord_54 ?_
        rw [e2]
        refine pw_vT1 (d1 := d - 1) (a1 := 0) (a2 := al) dX10_isWord_55 mtJ0_charAt_5068e ivJ0_charAt_5068e mlX10_70 (Nat.le_of_ble_eq_true rfl) (Nat.le_of_ble_eq_true rfl) (by omega) (by omega) (Or.inl rfl) rfl (u_charAt (by omega) hJ.1 hk9 (hJ.2.2.1 _ hk9) h128) ?_
        rintro r_ τ_ ⟨hr_, ht_⟩; subst r_; subst τ_
        refine pw_iload dX10_isWord_58 rfl ?_
        refine pw_icmp_eq (tgt := 65) dX10_isWord_60 (by decide) (fun h60 => ?_) (fun h60 => ?_)
        · refine pw_iinc1 dX10_isWord_65 rfl (Nat.le_of_ble_eq_true rfl) (Nat.le_of_ble_eq_true rfl) rfl ?_
          refine pw_goto (tgt := 13) dX10_isWord_68 (by decide) ?_
          first | exact hh _ (hgo _ hc256 hcv h60) | exact hh _ (hgo 32 (by decide) hcv h60)
        · refine pw_iconst (v := 0) dX10_isWord_63 (by decide) ?_
          refine pw_iret dX10_isWord_64 rfl (by first | rfl | exact bI_nar) ?_
          first | exact ⟨by rw [hno _ hc256 hcv h60], rfl⟩ | exact ⟨by rw [hno 32 (by decide) hcv h60], rfl⟩
theorem t_isWord {d al L q e w : Nat} {σ : pm_S} {c : Nat → Nat} (hd : 4 ≤ d) (hS : pm_fix σ) (hT : tpH σ c L) (hJ : jdC σ) (hw : w < 15) (hq : q < e) (he : e ≤ L) : PE d al MX10_isWord [.ref 30, .int (nI w), .int (nI q), .int (nI e)] σ (some (.int (bI (wm c q (e - q) w)))) σ := by
  show PW _ _ _ _ _ _ _ _
  have hL := hT.1
  have e1 : nI e - nI q = nI (e - q) := pk_sub (by omega)
  refine pw_iload_n dX10_isWord_0 rfl ?_
  refine pw_iload_n dX10_isWord_1 rfl ?_
  refine pw_isub dX10_isWord_2 ?_
  rw [e1]
  refine pw_bipush (v := 6) dX10_isWord_3 (by decide) ?_
  refine pw_icmp_le (tgt := 10) dX10_isWord_5 (by decide) (fun h5 => ?_) (fun h5 => ?_)
  · refine pw_iconst (v := 0) dX10_isWord_10 (by decide) ?_
    refine pw_istore dX10_isWord_11 (Nat.le_of_ble_eq_true rfl) (Nat.le_of_ble_eq_true rfl) rfl ?_
    have h6 : e - q ≤ 6 := by
      rcases Nat.lt_or_ge 6 (e - q) with z | z
      · exact absurd h5 (nI_ge z (by omega))
      · exact z
    exact t_isWord_lp hd hS hT hJ hw hq he h6 6 0 _ (Or.inl rfl) (by omega) (fun j hj => by omega)
  · refine pw_iconst (v := 0) dX10_isWord_8 (by decide) ?_
    refine pw_iret dX10_isWord_9 rfl (by first | rfl | exact bI_nar) ?_
    have hno : ¬ wm c q (e - q) w := fun z => h5 (nI_le z.1 (by decide))
    exact ⟨by rw [bI_f hno], rfl⟩
theorem t_tw1 {d al L q : Nat} {σ : pm_S} {c : Nat → Nat} {Q : Option Value → pm_S → Prop} {x3 x4 : Value} (hd : 1 ≤ d) (hS : pm_fix σ) (hT : tpH σ c L) : ∀ (f p : Nat), p + f = L → PW d al MX10_takeWord 35 [.ref 30, .int (nI q), .int (nI (rn lE c f p)), x3, x4] [] σ Q → PW d al MX10_takeWord 4 [.ref 30, .int (nI q), .int (nI p), x3, x4] [] σ Q := by
  have hL := hT.1
  intro f
  induction f with
  | zero =>
    intro p hp kk
    refine pw_iload_n dX10_takeWord_4 rfl ?_
    refine pw_aload_n dX10_takeWord_5 rfl ?_
    refine pw_getF (v := 17) dX10_takeWord_6 flX10_21 rfl (hS.at rfl rfl rfl) (hS.rf (30, 0, 17) rfl (by decide)) ?_
    refine pw_cV0 (d1 := d - 1) (a1 := 0) (a2 := al) dX10_takeWord_9 mtX7_length ivX7_length mlX10_29 (Nat.le_of_ble_eq_true rfl) (Nat.le_of_ble_eq_true rfl) (by omega) (by omega) (hS.at rfl rfl rfl) rfl rfl (t_tlen hS) ?_
    rintro r_ τ_ ⟨hr_, ht_⟩; subst r_; subst τ_
    refine pw_icmp_ge (tgt := 35) dX10_takeWord_12 (by decide) (fun h12 => ?_) (fun h12 => ?_)
    · exact kk
    · exact absurd (by rw [hT.2.1]; exact nI_le (by omega) (by omega)) h12
  | succ f ih =>
    intro p hp kk
    have hp2 : p < L := by omega
    have hc := (hT.2.2 p hp2).2
    have hu : rn lE c (f + 1) p = if lE (c p) then rn lE c f (p + 1) else p := rfl
    rw [hu] at kk
    have hh := ih (p + 1) (by omega)
    rw [nI_succ p] at hh
    refine pw_iload_n dX10_takeWord_4 rfl ?_
    refine pw_aload_n dX10_takeWord_5 rfl ?_
    refine pw_getF (v := 17) dX10_takeWord_6 flX10_21 rfl (hS.at rfl rfl rfl) (hS.rf (30, 0, 17) rfl (by decide)) ?_
    refine pw_cV0 (d1 := d - 1) (a1 := 0) (a2 := al) dX10_takeWord_9 mtX7_length ivX7_length mlX10_29 (Nat.le_of_ble_eq_true rfl) (Nat.le_of_ble_eq_true rfl) (by omega) (by omega) (hS.at rfl rfl rfl) rfl rfl (t_tlen hS) ?_
    rintro r_ τ_ ⟨hr_, ht_⟩; subst r_; subst τ_
    refine pw_icmp_ge (tgt := 35) dX10_takeWord_12 (by decide) (fun h12 => ?_) (fun h12 => ?_)
    · exact absurd (by rw [hT.2.1] at h12; exact h12) (nI_ge hp2 (by omega))
    · refine pw_aload_n dX10_takeWord_15 rfl ?_
      refine pw_getF (v := 17) dX10_takeWord_16 flX10_21 rfl (hS.at rfl rfl rfl) (hS.rf (30, 0, 17) rfl (by decide)) ?_
      refine pw_iload_n dX10_takeWord_19 rfl ?_
      refine pw_cV1 (d1 := d - 1) (a1 := 0) (a2 := al) dX10_takeWord_20 mtX7_at ivX7_at mlX10_33 (Nat.le_of_ble_eq_true rfl) (Nat.le_of_ble_eq_true rfl) (by omega) (by omega) (hS.at rfl rfl rfl) rfl rfl (t_tat' hS hT hp2) ?_
      rintro r_ τ_ ⟨hr_, ht_⟩; subst r_; subst τ_
      refine pw_cS1 (d1 := d - 1) (a1 := 0) (a2 := al) dX10_takeWord_23 mtX10_isLetter stX10_isLetter mlX10_41 (Nat.le_of_ble_eq_true rfl) (Nat.le_of_ble_eq_true rfl) (by omega) (by omega) (t_isLetter hc) ?_
      rintro r_ τ_ ⟨hr_, ht_⟩; subst r_; subst τ_
      refine pw_if_eq (tgt := 35) dX10_takeWord_26 (by decide) (fun h26 => ?_) (fun h26 => ?_)
      · rw [if_neg (bI_0.mp h26)] at kk
        exact kk
      · refine pw_iinc1 dX10_takeWord_29 rfl (Nat.le_of_ble_eq_true rfl) (Nat.le_of_ble_eq_true rfl) rfl ?_
        refine pw_goto (tgt := 4) dX10_takeWord_32 (by decide) ?_
        rw [if_pos (bI_n.mp h26)] at kk
        exact hh kk
theorem t_tw2 {d al L q e : Nat} {σ : pm_S} {c : Nat → Nat} {Q : Option Value → pm_S → Prop} (hd : 5 ≤ d) (hS : pm_fix σ) (hT : tpH σ c L) (hJ : jdC σ) (hq : q < e) (he : e ≤ L) (kk : PW d al MX10_takeWord 68 [.ref 30, .int (nI q), .int (nI e), .int (nI (wT c q (e - q) 15)), .int (nI 15)] [] σ Q) : ∀ (k w : Nat), w + k = 15 → PW d al MX10_takeWord 41 [.ref 30, .int (nI q), .int (nI e), .int (nI (wT c q (e - q) w)), .int (nI w)] [] σ Q := by
  intro k
  induction k with
  | zero =>
    intro w hw
    have hw15 : w = 15 := by omega
    subst hw15
    refine pw_iload dX10_takeWord_41 rfl ?_
    refine pw_bipush (v := 15) dX10_takeWord_43 (by decide) ?_
    refine pw_icmp_ge (tgt := 68) dX10_takeWord_45 (by decide) (fun h45 => ?_) (fun h45 => ?_)
    · exact kk
    · exact absurd (by decide) h45
  | succ k ih =>
    intro w hw
    have hw2 : w < 15 := by omega
    have hh := ih (w + 1) (by omega)
    have hu : wT c q (e - q) (w + 1) = if wm c q (e - q) w then w else wT c q (e - q) w := rfl
    rw [hu, nI_succ w] at hh
    refine pw_iload dX10_takeWord_41 rfl ?_
    refine pw_bipush (v := 15) dX10_takeWord_43 (by decide) ?_
    refine pw_icmp_ge (tgt := 68) dX10_takeWord_45 (by decide) (fun h45 => ?_) (fun h45 => ?_)
    · exact absurd h45 (nI_ge hw2 (by decide))
    · refine pw_aload_n dX10_takeWord_48 rfl ?_
      refine pw_iload dX10_takeWord_49 rfl ?_
      refine pw_iload_n dX10_takeWord_51 rfl ?_
      refine pw_iload_n dX10_takeWord_52 rfl ?_
      refine pw_cV3 (d1 := d - 1) (a1 := 0) (a2 := al) dX10_takeWord_53 mtX10_isWord ivX10_isWord mlX10_64 (Nat.le_of_ble_eq_true rfl) (Nat.le_of_ble_eq_true rfl) (by omega) (by omega) (hS.at rfl rfl rfl) rfl rfl (t_isWord (by omega) hS hT hJ hw2 hq he) ?_
      rintro r_ τ_ ⟨hr_, ht_⟩; subst r_; subst τ_
      refine pw_if_eq (tgt := 62) dX10_takeWord_56 (by decide) (fun h56 => ?_) (fun h56 => ?_)
      · refine pw_iinc1 dX10_takeWord_62 rfl (Nat.le_of_ble_eq_true rfl) (Nat.le_of_ble_eq_true rfl) rfl ?_
        refine pw_goto (tgt := 41) dX10_takeWord_65 (by decide) ?_
        first | (rw [if_pos (bI_n.mp h56)] at hh; exact hh) | (rw [if_neg (bI_0.mp h56)] at hh; exact hh)
      · refine pw_iload dX10_takeWord_59 rfl ?_
        refine pw_istore_n dX10_takeWord_61 (Nat.le_of_ble_eq_true rfl) (Nat.le_of_ble_eq_true rfl) rfl ?_
        refine pw_iinc1 dX10_takeWord_62 rfl (Nat.le_of_ble_eq_true rfl) (Nat.le_of_ble_eq_true rfl) rfl ?_
        refine pw_goto (tgt := 41) dX10_takeWord_65 (by decide) ?_
        first | (rw [if_pos (bI_n.mp h56)] at hh; exact hh) | (rw [if_neg (bI_0.mp h56)] at hh; exact hh)
theorem t_takeWord {d al L q k : Nat} {σ : pm_S} {c : Nat → Nat} (hd : 5 ≤ d) (hS : pm_fix σ) (hT : tpH σ c L) (hJ : jdC σ) (hq : q < L) (hl : lE (c q)) (hk : qI σ 30 4 = nI k) (hk2 : k < 601) : PE d al MX10_takeWord [.ref 30, .int (nI q)] σ (some (.int (nI (rn lE c (L - q) q)))) (c_tp σ k (nI (wT c q (rn lE c (L - q) q - q) 15)) (nI q) 0) := by
  show PW _ _ _ _ _ _ _ _
  have e1 := rn_u (P := lE) (c := c) hq
  rw [if_pos hl] at e1
  obtain ⟨e2, e3⟩ := rn_in (P := lE) (c := c) (L := L) (p := q + 1) (by omega)
  rw [e1]
  refine pw_iload_n dX10_takeWord_0 rfl ?_
  refine pw_iconst (v := 1) dX10_takeWord_1 (by decide) ?_
  refine pw_iadd dX10_takeWord_2 ?_
  refine pw_istore_n dX10_takeWord_3 (Nat.le_of_ble_eq_true rfl) (Nat.le_of_ble_eq_true rfl) rfl ?_
  have hb := t_tw1 (d := d) (al := al) (q := q) (x3 := .retAddr 0) (x4 := .retAddr 0) (Q := fun r τ => r = some (Value.int (nI (rn lE c (L - (q + 1)) (q + 1)))) ∧ τ = c_tp σ k (nI (wT c q (rn lE c (L - (q + 1)) (q + 1) - q) 15)) (nI q) 0) (by omega) hS hT (L - (q + 1)) (q + 1) (by omega) ?_
  · rw [nI_succ] at hb
    exact hb
  · refine pw_bipush (v := 23) dX10_takeWord_35 (by decide) ?_
    refine pw_istore_n dX10_takeWord_37 (Nat.le_of_ble_eq_true rfl) (Nat.le_of_ble_eq_true rfl) rfl ?_
    refine pw_iconst (v := 0) dX10_takeWord_38 (by decide) ?_
    refine pw_istore dX10_takeWord_39 (Nat.le_of_ble_eq_true rfl) (Nat.le_of_ble_eq_true rfl) rfl ?_
    refine t_tw2 hd hS hT hJ (show q < rn lE c (L - (q + 1)) (q + 1) by omega) e3 ?_ 15 0 (by omega)
    refine pw_aload_n dX10_takeWord_68 rfl ?_
    refine pw_iload_n dX10_takeWord_69 rfl ?_
    refine pw_iload_n dX10_takeWord_70 rfl ?_
    refine pw_iconst (v := 0) dX10_takeWord_71 (by decide) ?_
    refine pw_cV3 (d1 := d - 1) (a1 := 0) (a2 := al) dX10_takeWord_72 mtX10_put ivX10_put mlX10_60 (Nat.le_of_ble_eq_true rfl) (Nat.le_of_ble_eq_true rfl) (by omega) (by omega) (hS.at rfl rfl rfl) rfl rfl (t_kput hS hk hk2 _ _ _) ?_
    rintro r_ τ_ ⟨hr_, ht_⟩; subst r_; subst τ_
    refine pw_iload_n dX10_takeWord_75 rfl ?_
    refine pw_iret dX10_takeWord_76 rfl rfl ?_
    exact ⟨rfl, rfl⟩
theorem t_tn1 {d al L q : Nat} {σ : pm_S} {c : Nat → Nat} {Q : Option Value → pm_S → Prop} (hd : 1 ≤ d) (hS : pm_fix σ) (hT : tpH σ c L) : ∀ (f p : Nat), q ≤ p → p + f = L → PW d al MX10_takeNumber 52 [.ref 30, .int (nI q), .int (nI (rn lD c f p)), .int (dv c q (rn lD c f p - q))] [] σ Q → PW d al MX10_takeNumber 4 [.ref 30, .int (nI q), .int (nI p), .int (dv c q (p - q))] [] σ Q := by
  have hL := hT.1
  intro f
  induction f with
  | zero =>
    intro p hqp hp kk
    refine pw_iload_n dX10_takeNumber_4 rfl ?_
    refine pw_aload_n dX10_takeNumber_5 rfl ?_
    refine pw_getF (v := 17) dX10_takeNumber_6 flX10_21 rfl (hS.at rfl rfl rfl) (hS.rf (30, 0, 17) rfl (by decide)) ?_
    refine pw_cV0 (d1 := d - 1) (a1 := 0) (a2 := al) dX10_takeNumber_9 mtX7_length ivX7_length mlX10_29 (Nat.le_of_ble_eq_true rfl) (Nat.le_of_ble_eq_true rfl) (by omega) (by omega) (hS.at rfl rfl rfl) rfl rfl (t_tlen hS) ?_
    rintro r_ τ_ ⟨hr_, ht_⟩; subst r_; subst τ_
    refine pw_icmp_ge (tgt := 52) dX10_takeNumber_12 (by decide) (fun h12 => ?_) (fun h12 => ?_)
    · exact kk
    · exact absurd (by rw [hT.2.1]; exact nI_le (by omega) (by omega)) h12
  | succ f ih =>
    intro p hqp hp kk
    have hp2 : p < L := by omega
    have hc := (hT.2.2 p hp2).2
    have hu : rn lD c (f + 1) p = if lD (c p) then rn lD c f (p + 1) else p := rfl
    rw [hu] at kk
    have hh := ih (p + 1) (by omega) (by omega)
    have hv : dv c q (p + 1 - q) = dv c q (p - q) * 10 + nI (c p) - 48 := by
      rw [show p + 1 - q = (p - q) + 1 by omega]
      show dv c q (p - q) * 10 + nI (c (q + (p - q))) - 48 = _
      rw [show q + (p - q) = p by omega]
    rw [hv, nI_succ p] at hh
    refine pw_iload_n dX10_takeNumber_4 rfl ?_
    refine pw_aload_n dX10_takeNumber_5 rfl ?_
    refine pw_getF (v := 17) dX10_takeNumber_6 flX10_21 rfl (hS.at rfl rfl rfl) (hS.rf (30, 0, 17) rfl (by decide)) ?_
    refine pw_cV0 (d1 := d - 1) (a1 := 0) (a2 := al) dX10_takeNumber_9 mtX7_length ivX7_length mlX10_29 (Nat.le_of_ble_eq_true rfl) (Nat.le_of_ble_eq_true rfl) (by omega) (by omega) (hS.at rfl rfl rfl) rfl rfl (t_tlen hS) ?_
    rintro r_ τ_ ⟨hr_, ht_⟩; subst r_; subst τ_
    refine pw_icmp_ge (tgt := 52) dX10_takeNumber_12 (by decide) (fun h12 => ?_) (fun h12 => ?_)
    · exact absurd (by rw [hT.2.1] at h12; exact h12) (nI_ge hp2 (by omega))
    · refine pw_aload_n dX10_takeNumber_15 rfl ?_
      refine pw_getF (v := 17) dX10_takeNumber_16 flX10_21 rfl (hS.at rfl rfl rfl) (hS.rf (30, 0, 17) rfl (by decide)) ?_
      refine pw_iload_n dX10_takeNumber_19 rfl ?_
      refine pw_cV1 (d1 := d - 1) (a1 := 0) (a2 := al) dX10_takeNumber_20 mtX7_at ivX7_at mlX10_33 (Nat.le_of_ble_eq_true rfl) (Nat.le_of_ble_eq_true rfl) (by omega) (by omega) (hS.at rfl rfl rfl) rfl rfl (t_tat' hS hT hp2) ?_
      rintro r_ τ_ ⟨hr_, ht_⟩; subst r_; subst τ_
      refine pw_cS1 (d1 := d - 1) (a1 := 0) (a2 := al) dX10_takeNumber_23 mtX10_isDigit stX10_isDigit mlX10_47 (Nat.le_of_ble_eq_true rfl) (Nat.le_of_ble_eq_true rfl) (by omega) (by omega) (t_isDigit hc) ?_
      rintro r_ τ_ ⟨hr_, ht_⟩; subst r_; subst τ_
      refine pw_if_eq (tgt := 52) dX10_takeNumber_26 (by decide) (fun h26 => ?_) (fun h26 => ?_)
      · rw [if_neg (bI_0.mp h26)] at kk
        exact kk
      · refine pw_iload_n dX10_takeNumber_29 rfl ?_
        refine pw_bipush (v := 10) dX10_takeNumber_30 (by decide) ?_
        refine pw_imul dX10_takeNumber_32 ?_
        refine pw_aload_n dX10_takeNumber_33 rfl ?_
        refine pw_getF (v := 17) dX10_takeNumber_34 flX10_21 rfl (hS.at rfl rfl rfl) (hS.rf (30, 0, 17) rfl (by decide)) ?_
        refine pw_iload_n dX10_takeNumber_37 rfl ?_
        refine pw_cV1 (d1 := d - 1) (a1 := 0) (a2 := al) dX10_takeNumber_38 mtX7_at ivX7_at mlX10_33 (Nat.le_of_ble_eq_true rfl) (Nat.le_of_ble_eq_true rfl) (by omega) (by omega) (hS.at rfl rfl rfl) rfl rfl (t_tat' hS hT hp2) ?_
        rintro r_ τ_ ⟨hr_, ht_⟩; subst r_; subst τ_
        refine pw_iadd dX10_takeNumber_41 ?_
        refine pw_bipush (v := 48) dX10_takeNumber_42 (by decide) ?_
        refine pw_isub dX10_takeNumber_44 ?_
        refine pw_istore_n dX10_takeNumber_45 (Nat.le_of_ble_eq_true rfl) (Nat.le_of_ble_eq_true rfl) rfl ?_
        refine pw_iinc1 dX10_takeNumber_46 rfl (Nat.le_of_ble_eq_true rfl) (Nat.le_of_ble_eq_true rfl) rfl ?_
        refine pw_goto (tgt := 4) dX10_takeNumber_49 (by decide) ?_
        rw [if_pos (bI_n.mp h26)] at kk
        exact hh kk
theorem t_takeNumber {d al L q k : Nat} {σ : pm_S} {c : Nat → Nat} (hd : 1 ≤ d) (hS : pm_fix σ) (hT : tpH σ c L) (hq : q < L) (hk : qI σ 30 4 = nI k) (hk2 : k < 601) : PE d al MX10_takeNumber [.ref 30, .int (nI q)] σ (some (.int (nI (rn lD c (L - q) q)))) (c_tp σ k (nI (if rn lD c (L - q) q - q ≤ 4 then 21 else 23)) (nI q) (dv c q (rn lD c (L - q) q - q))) := by
  show PW _ _ _ _ _ _ _ _
  have hL := hT.1
  obtain ⟨e2, e3⟩ := rn_in (P := lD) (c := c) (L := L) (p := q) (by omega)
  have e4 : nI (rn lD c (L - q) q) - nI q = nI (rn lD c (L - q) q - q) := pk_sub (by omega)
  refine pw_iload_n dX10_takeNumber_0 rfl ?_
  refine pw_istore_n dX10_takeNumber_1 (Nat.le_of_ble_eq_true rfl) (Nat.le_of_ble_eq_true rfl) rfl ?_
  refine pw_iconst (v := 0) dX10_takeNumber_2 (by decide) ?_
  refine pw_istore_n dX10_takeNumber_3 (Nat.le_of_ble_eq_true rfl) (Nat.le_of_ble_eq_true rfl) rfl ?_
  have hb := t_tn1 (d := d) (al := al) (q := q) (Q := fun r τ => r = some (Value.int (nI (rn lD c (L - q) q))) ∧ τ = c_tp σ k (nI (if rn lD c (L - q) q - q ≤ 4 then 21 else 23)) (nI q) (dv c q (rn lD c (L - q) q - q))) (by omega) hS hT (L - q) q (Nat.le_refl _) (by omega) ?_
  · rw [Nat.sub_self] at hb
    exact hb
  · refine pw_aload_n dX10_takeNumber_52 rfl ?_
    refine pw_iload_n dX10_takeNumber_53 rfl ?_
    refine pw_iload_n dX10_takeNumber_54 rfl ?_
    refine pw_isub dX10_takeNumber_55 ?_
    rw [e4]
    refine pw_iconst (v := 4) dX10_takeNumber_56 (by decide) ?_
    refine pw_icmp_le (tgt := 65) dX10_takeNumber_57 (by decide) (fun h57 => ?_) (fun h57 => ?_)
    · have hz : rn lD c (L - q) q - q ≤ 4 := (i_le' (by omega) (by decide)).mp h57
      rw [if_pos hz]
      refine pw_bipush (v := 21) dX10_takeNumber_65 (by decide) ?_
      refine pw_iload_n dX10_takeNumber_67 rfl ?_
      refine pw_iload_n dX10_takeNumber_68 rfl ?_
      refine pw_cV3 (d1 := d - 1) (a1 := 0) (a2 := al) dX10_takeNumber_69 mtX10_put ivX10_put mlX10_60 (Nat.le_of_ble_eq_true rfl) (Nat.le_of_ble_eq_true rfl) (by omega) (by omega) (hS.at rfl rfl rfl) rfl rfl (t_kput hS hk hk2 _ _ _) ?_
      rintro r_ τ_ ⟨hr_, ht_⟩; subst r_; subst τ_
      refine pw_iload_n dX10_takeNumber_72 rfl ?_
      refine pw_iret dX10_takeNumber_73 rfl rfl ?_
      exact ⟨rfl, rfl⟩
    · have hz : ¬ rn lD c (L - q) q - q ≤ 4 := fun z => h57 ((i_le' (by omega) (by decide)).mpr z)
      rw [if_neg hz]
      refine pw_bipush (v := 23) dX10_takeNumber_60 (by decide) ?_
      refine pw_goto (tgt := 67) dX10_takeNumber_62 (by decide) ?_
      refine pw_iload_n dX10_takeNumber_67 rfl ?_
      refine pw_iload_n dX10_takeNumber_68 rfl ?_
      refine pw_cV3 (d1 := d - 1) (a1 := 0) (a2 := al) dX10_takeNumber_69 mtX10_put ivX10_put mlX10_60 (Nat.le_of_ble_eq_true rfl) (Nat.le_of_ble_eq_true rfl) (by omega) (by omega) (hS.at rfl rfl rfl) rfl rfl (t_kput hS hk hk2 _ _ _) ?_
      rintro r_ τ_ ⟨hr_, ht_⟩; subst r_; subst τ_
      refine pw_iload_n dX10_takeNumber_72 rfl ?_
      refine pw_iret dX10_takeNumber_73 rfl rfl ?_
      exact ⟨rfl, rfl⟩
