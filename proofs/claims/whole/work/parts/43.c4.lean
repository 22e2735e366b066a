/-! ===== the class: passing, lending, back, burning, days ===== -/
theorem t_spend {d al e : Nat} {σ : pm_S} (hS : pm_fix σ) (he : qI σ 6 1 = nI e) (he2 : e ≤ 300) : PE d al MX11_spendAct [.ref 6] σ (some (.int (bI (e ≠ 300)))) (if e ≠ 300 then pm_sI σ 6 1 (nI e + 1) else σ) := by
  show PW _ _ _ _ _ _ _ _
  refine pw_aload_n dX11_spendAct_0 rfl ?_
  refine pw_getI dX11_spendAct_1 flX11_13 rfl (hS.at rfl rfl rfl) ?_
  refine pw_sipush (v := 300) dX11_spendAct_4 (by decide) ?_
  refine pw_icmp_lt (tgt := 12) dX11_spendAct_7 (by decide) (fun h7 => ?_) (fun h7 => ?_)
  · refine pw_aload_n dX11_spendAct_12 rfl ?_
    refine pw_dup dX11_spendAct_13 rfl ?_
    refine pw_getI dX11_spendAct_14 flX11_13 rfl (hS.at rfl rfl rfl) ?_
    refine pw_iconst (v := 1) dX11_spendAct_17 (by decide) ?_
    refine pw_iadd dX11_spendAct_18 ?_
    refine pw_putI dX11_spendAct_19 flX11_13 ⟨_, rfl, Or.inl rfl⟩ rfl (hS.at rfl rfl rfl) ?_
    refine pw_iconst (v := 1) dX11_spendAct_22 (by decide) ?_
    refine pw_iret dX11_spendAct_23 rfl (by first | rfl | exact bI_nar) ?_
    rw [he] at h7
    have hx : e ≠ 300 := fun z => absurd h7 (by rw [z]; decide)
    exact ⟨by rw [bI_t hx], by rw [if_pos hx, he]⟩
  · refine pw_iconst (v := 0) dX11_spendAct_10 (by decide) ?_
    refine pw_iret dX11_spendAct_11 rfl (by first | rfl | exact bI_nar) ?_
    rw [he] at h7
    have hx : ¬ e ≠ 300 := fun z => h7 (nI_lt (show e < 300 by omega) (by decide))
    exact ⟨by rw [bI_f hx], by rw [if_neg hx]⟩
abbrev okGiveC (X : Nat → List c_A) (n : Nat) (t house : Int32) : Prop := cTh X n t ∧ (hX X t.toNatClampNeg).2.2.1 = (hX X t.toNatClampNeg).2.1 ∧ (0 ≤ house ∧ house ≤ 7) ∧ (hX X t.toNatClampNeg).2.1 ≠ house
def c_ff (σ : pm_S) (X : Nat → List c_A) (n : Nat) (t house : Int32) : Nat := if okGiveC X n t house then qR σ 8 t.toNatClampNeg else 0
theorem c_ft_pos {σ : pm_S} {X : Nat → List c_A} {n : Nat} {t : Int32} (h : 0 < c_ft σ X n t) : cTh X n t := by
  unfold c_ft at h
  split at h
  · assumption
  · exact absurd h (Nat.lt_irrefl 0)
theorem c_ft_z {σ : pm_S} {X : Nat → List c_A} {n : Nat} {t : Int32} (hT : cT σ n X) (h : c_ft σ X n t = 0) : ¬ cTh X n t := by
  intro z
  unfold c_ft at h
  rw [if_pos z] at h
  obtain ⟨j, hj2, hj⟩ := (tOk_iff (by have := hT.2.1; omega)).mp z.1
  have hcl : t.toNatClampNeg = j := by rw [hj]; exact nI_clamp (by have := hT.2.1; omega)
  rw [hcl] at h
  have := (hT.at hj2).2.1
  omega
/-- what is known of a thing that is there -/
theorem cTh.get {σ : pm_S} {X : Nat → List c_A} {n : Nat} {t : Int32} (hT : cT σ n X) (h : cTh X n t) : ∃ j, j < n ∧ t = nI j ∧ t.toNatClampNeg = j ∧ c_ft σ X n t = qR σ 8 j := by
  obtain ⟨j, hj2, hj⟩ := (tOk_iff (by have := hT.2.1; omega)).mp h.1
  have hcl : t.toNatClampNeg = j := by rw [hj]; exact nI_clamp (by have := hT.2.1; omega)
  exact ⟨j, hj2, hj, hcl, by unfold c_ft; rw [if_pos h, hcl]⟩
theorem cT.lt {σ : pm_S} {n t : Nat} {X : Nat → List c_A} (h : cT σ n X) (ht : t < n) : 68 ≤ qR σ (qR σ 8 t) 8 := by
  obtain ⟨-, -, h3, x, xs, h4, -⟩ := h.2.2 t ht
  rw [h4] at h3
  exact h3.1.2
theorem t_free {d al n : Nat} {σ : pm_S} {X : Nat → List c_A} (hd : 2 ≤ d) (hS : pm_fix σ) (hT : cT σ n X) (t house : Int32) : PE d al MX11_findFreeFor [.ref 6, .int house, .int t] σ (some (.ref (c_ff σ X n t house))) σ := by
  show PW _ _ _ _ _ _ _ _
  refine pw_aload_n dX11_findFreeFor_0 rfl ?_
  refine pw_getF (v := 7) dX11_findFreeFor_1 flX11_19 rfl (hS.at rfl rfl rfl) (hS.rf (6, 2, 7) rfl (by decide)) ?_
  refine pw_iload_n dX11_findFreeFor_4 rfl ?_
  refine pw_cV1 (d1 := d - 1) (a1 := 0) (a2 := al) dX11_findFreeFor_5 mtX6_findThere ivX6_findThere mlX11_112 (Nat.le_of_ble_eq_true rfl) (Nat.le_of_ble_eq_true rfl) (by omega) (by omega) (hS.at rfl rfl rfl) rfl rfl (t_findThere (by omega) hS hT _) ?_
  rintro r_ τ_ ⟨hr_, ht_⟩; subst r_; subst τ_
  refine pw_astore_n dX11_findFreeFor_8 (Nat.le_of_ble_eq_true rfl) (Nat.le_of_ble_eq_true rfl) rfl ?_
  refine pw_aload_n dX11_findFreeFor_9 rfl ?_
  refine pw_ifnull (tgt := 35) dX11_findFreeFor_10 (by decide) (fun h10 => ?_) (fun h10 => ?_)
  · refine pw_null dX11_findFreeFor_35 ?_
    refine pw_aret dX11_findFreeFor_36 rfl (by first | exact Or.inl ⟨_, rfl⟩ | exact Or.inr ⟨_, rfl⟩) ?_
    refine ⟨?_, rfl⟩
    unfold c_ff
    have hno : ¬ okGiveC X n t house := by
      first | exact fun z => c_ft_z hT h10 z.1 | (intro z; have z2 := z.2.1; have z4 := z.2.2.2; rw [hcl] at z2 z4; first | exact bI_n.mp h17 (by rw [q6, q5]; exact z2) | exact bI_0.mp h24 z.2.2.1 | exact z4 (by rw [← q5]; exact h32))
    rw [if_neg hno]
  · have hth := c_ft_pos h10
    obtain ⟨j, hj2, hj, hcl, hfe⟩ := cTh.get hT hth
    obtain ⟨q1, q2, q3, q4, q5, q6, q7, q8, q9⟩ := hT.at hj2
    rw [hfe]
    refine pw_aload_n dX11_findFreeFor_13 rfl ?_
    refine pw_cV0 (d1 := d - 1) (a1 := 0) (a2 := al) dX11_findFreeFor_14 mtX9_isLent ivX9_isLent mlX11_132 (Nat.le_of_ble_eq_true rfl) (Nat.le_of_ble_eq_true rfl) (by omega) (by omega) q1 rfl rfl (t_isLent q1 q3) ?_
    rintro r_ τ_ ⟨hr_, ht_⟩; subst r_; subst τ_
    refine pw_if_ne (tgt := 35) dX11_findFreeFor_17 (by decide) (fun h17 => ?_) (fun h17 => ?_)
    · refine pw_null dX11_findFreeFor_35 ?_
      refine pw_aret dX11_findFreeFor_36 rfl (by first | exact Or.inl ⟨_, rfl⟩ | exact Or.inr ⟨_, rfl⟩) ?_
      refine ⟨?_, rfl⟩
      unfold c_ff
      have hno : ¬ okGiveC X n t house := by
        first | exact fun z => c_ft_z hT h10 z.1 | (intro z; have z2 := z.2.1; have z4 := z.2.2.2; rw [hcl] at z2 z4; first | exact bI_n.mp h17 (by rw [q6, q5]; exact z2) | exact bI_0.mp h24 z.2.2.1 | exact z4 (by rw [← q5]; exact h32))
      rw [if_neg hno]
    · refine pw_iload_n dX11_findFreeFor_20 rfl ?_
      refine pw_cS1 (d1 := d - 1) (a1 := 0) (a2 := al) dX11_findFreeFor_21 mtX11_isHouse stX11_isHouse mlX11_87 (Nat.le_of_ble_eq_true rfl) (Nat.le_of_ble_eq_true rfl) (by omega) (by omega) (t_house (by omega) _) ?_
      rintro r_ τ_ ⟨hr_, ht_⟩; subst r_; subst τ_
      refine pw_if_eq (tgt := 35) dX11_findFreeFor_24 (by decide) (fun h24 => ?_) (fun h24 => ?_)
      · refine pw_null dX11_findFreeFor_35 ?_
        refine pw_aret dX11_findFreeFor_36 rfl (by first | exact Or.inl ⟨_, rfl⟩ | exact Or.inr ⟨_, rfl⟩) ?_
        refine ⟨?_, rfl⟩
        unfold c_ff
        have hno : ¬ okGiveC X n t house := by
          first | exact fun z => c_ft_z hT h10 z.1 | (intro z; have z2 := z.2.1; have z4 := z.2.2.2; rw [hcl] at z2 z4; first | exact bI_n.mp h17 (by rw [q6, q5]; exact z2) | exact bI_0.mp h24 z.2.2.1 | exact z4 (by rw [← q5]; exact h32))
        rw [if_neg hno]
      · refine pw_aload_n dX11_findFreeFor_27 rfl ?_
        refine pw_cV0 (d1 := d - 1) (a1 := 0) (a2 := al) dX11_findFreeFor_28 mtX9_owner ivX9_owner mlX11_135 (Nat.le_of_ble_eq_true rfl) (Nat.le_of_ble_eq_true rfl) (by omega) (by omega) q1 rfl rfl (t_owner q1 q3) ?_
        rintro r_ τ_ ⟨hr_, ht_⟩; subst r_; subst τ_
        refine pw_iload_n dX11_findFreeFor_31 rfl ?_
        refine pw_icmp_ne (tgt := 37) dX11_findFreeFor_32 (by decide) (fun h32 => ?_) (fun h32 => ?_)
        · refine pw_aload_n dX11_findFreeFor_37 rfl ?_
          refine pw_aret dX11_findFreeFor_38 rfl (by first | exact Or.inl ⟨_, rfl⟩ | exact Or.inr ⟨_, rfl⟩) ?_
          refine ⟨?_, rfl⟩
          unfold c_ff
          have hok : okGiveC X n t house := by
            refine ⟨hth, ?_, bI_n.mp h24, ?_⟩
            · rw [hcl, ← q6, ← q5]
              exact Decidable.not_not.mp (bI_0.mp h17)
            · rw [hcl, ← q5]; exact h32
          rw [if_pos hok, hcl]
        · refine pw_null dX11_findFreeFor_35 ?_
          refine pw_aret dX11_findFreeFor_36 rfl (by first | exact Or.inl ⟨_, rfl⟩ | exact Or.inr ⟨_, rfl⟩) ?_
          refine ⟨?_, rfl⟩
          unfold c_ff
          have hno : ¬ okGiveC X n t house := by
            first | exact fun z => c_ft_z hT h10 z.1 | (intro z; have z2 := z.2.1; have z4 := z.2.2.2; rw [hcl] at z2 z4; first | exact bI_n.mp h17 (by rw [q6, q5]; exact z2) | exact bI_0.mp h24 z.2.2.1 | exact z4 (by rw [← q5]; exact h32))
          rw [if_neg hno]
theorem c_ff_pos {σ : pm_S} {X : Nat → List c_A} {n : Nat} {t house : Int32} (h : 0 < c_ff σ X n t house) : okGiveC X n t house := by
  unfold c_ff at h
  split at h
  · assumption
  · exact absurd h (Nat.lt_irrefl 0)
theorem c_ff_z {σ : pm_S} {X : Nat → List c_A} {n : Nat} {t house : Int32} (hT : cT σ n X) (h : c_ff σ X n t house = 0) : ¬ okGiveC X n t house := by
  intro z
  obtain ⟨j, hj2, hj, hcl, hfe⟩ := cTh.get hT z.1
  unfold c_ff at h
  rw [if_pos z, hcl] at h
  have := (hT.at hj2).2.1
  omega
theorem t_pass {d al n e : Nat} {σ : pm_S} {X : Nat → List c_A} (hd : 3 ≤ d) (hS : pm_fix σ) (hT : cT σ n X) (he : qI σ 6 1 = nI e) (he2 : e ≤ 300) (t house : Int32) : PE d (al + 1) MX11_pass [.ref 6, .int t, .int house] σ (some (.int (bI (okGiveC X n t house ∧ e ≠ 300)))) (if okGiveC X n t house ∧ e ≠ 300 then c_push (pm_sI σ 6 1 (nI e + 1)) (qR σ 8 t.toNatClampNeg) (qI σ 6 0) house house ((hX X t.toNatClampNeg).2.2.2.1 + 1) 1 else σ) := by
  show PW _ _ _ _ _ _ _ _
  refine pw_aload_n dX11_pass_0 rfl ?_
  refine pw_iload_n dX11_pass_1 rfl ?_
  refine pw_iload_n dX11_pass_2 rfl ?_
  refine pw_cV2 (d1 := d - 1) (a1 := 0) (a2 := al + 1) dX11_pass_3 mtX11_findFreeFor ivX11_findFreeFor mlX11_119 (Nat.le_of_ble_eq_true rfl) (Nat.le_of_ble_eq_true rfl) (by omega) (by omega) (hS.at rfl rfl rfl) rfl rfl (t_free (by omega) hS hT _ _) ?_
  rintro r_ τ_ ⟨hr_, ht_⟩; subst r_; subst τ_
  refine pw_astore_n dX11_pass_6 (Nat.le_of_ble_eq_true rfl) (Nat.le_of_ble_eq_true rfl) rfl ?_
  refine pw_aload_n dX11_pass_7 rfl ?_
  refine pw_ifnull (tgt := 18) dX11_pass_8 (by decide) (fun h8 => ?_) (fun h8 => ?_)
  · refine pw_iconst (v := 0) dX11_pass_18 (by decide) ?_
    refine pw_iret dX11_pass_19 rfl (by first | rfl | exact bI_nar) ?_
    have hno : ¬ (okGiveC X n t house ∧ e ≠ 300) := by
      first | exact fun z => c_ff_z hT h8 z.1 | exact fun z => bI_0.mp h15 z.2
    refine ⟨by rw [bI_f hno], ?_⟩
    rw [if_neg hno]
    first | done | rfl | (have h15b := bI_0.mp h15; rw [if_neg h15b])
  · refine pw_aload_n dX11_pass_11 rfl ?_
    refine pw_cV0 (d1 := d - 1) (a1 := 0) (a2 := al + 1) dX11_pass_12 mtX11_spendAct ivX11_spendAct mlX11_123 (Nat.le_of_ble_eq_true rfl) (Nat.le_of_ble_eq_true rfl) (by omega) (by omega) (hS.at rfl rfl rfl) rfl rfl (t_spend hS he he2) ?_
    rintro r_ τ_ ⟨hr_, ht_⟩; subst r_; subst τ_
    refine pw_if_ne (tgt := 20) dX11_pass_15 (by decide) (fun h15 => ?_) (fun h15 => ?_)
    · have hok := c_ff_pos h8
      have hfull : okGiveC X n t house ∧ e ≠ 300 := ⟨hok, bI_n.mp h15⟩
      obtain ⟨j, hj2, hj, hcl, hfe⟩ := cTh.get hT hok.1
      obtain ⟨q1, q2, q3, q4, q5, q6, q7, q8, q9⟩ := hT.at hj2
      have hff : c_ff σ X n t house = qR σ 8 j := by unfold c_ff; rw [if_pos hok, hcl]
      rw [if_pos hfull.2, hff]
      refine pw_aload_n dX11_pass_20 rfl ?_
      refine pw_aload_n dX11_pass_21 rfl ?_
      refine pw_getI dX11_pass_22 flX11_7 rfl (hS.at rfl rfl rfl) ?_
      refine pw_iload_n dX11_pass_25 rfl ?_
      refine pw_cV2 (d1 := d - 1) (a1 := 1) (a2 := al) dX11_pass_26 mtX9_goTo ivX9_goTo mlX11_126 (Nat.le_of_ble_eq_true rfl) (Nat.le_of_ble_eq_true rfl) (by omega) (by omega) q1 rfl rfl (t_goTo (σ := pm_sI σ 6 1 (nI e + 1)) (al := 0) (by omega) (by have := hS.1; show 6 ≤ qN σ; omega) q1 q3 _ _) ?_
      rintro r_ τ_ ⟨hr_, ht_⟩; subst r_; subst τ_
      refine pw_iconst (v := 1) dX11_pass_29 (by decide) ?_
      refine pw_iret dX11_pass_30 rfl (by first | rfl | exact bI_nar) ?_
      refine ⟨by rw [bI_t hfull], ?_⟩
      have hlt := hT.lt hj2
      have z5 : qI (pm_sI σ 6 1 (nI e + 1)) (qR σ (qR σ 8 j) 8) 2 = (hX X j).2.1 := (qI_sI_nc (by omega)).trans q5
      have z6 : qI (pm_sI σ 6 1 (nI e + 1)) (qR σ (qR σ 8 j) 8) 3 = (hX X j).2.2.1 := (qI_sI_nc (by omega)).trans q6
      have z7 : qI (pm_sI σ 6 1 (nI e + 1)) (qR σ (qR σ 8 j) 8) 4 = (hX X j).2.2.2.1 := (qI_sI_nc (by omega)).trans q7
      rw [if_pos hfull, hcl, ← z7]
      rfl
    · refine pw_iconst (v := 0) dX11_pass_18 (by decide) ?_
      refine pw_iret dX11_pass_19 rfl (by first | rfl | exact bI_nar) ?_
      have hno : ¬ (okGiveC X n t house ∧ e ≠ 300) := by
        first | exact fun z => c_ff_z hT h8 z.1 | exact fun z => bI_0.mp h15 z.2
      refine ⟨by rw [bI_f hno], ?_⟩
      rw [if_neg hno]
      first | done | rfl | (have h15b := bI_0.mp h15; rw [if_neg h15b])
theorem t_lend {d al n e : Nat} {σ : pm_S} {X : Nat → List c_A} (hd : 3 ≤ d) (hS : pm_fix σ) (hT : cT σ n X) (he : qI σ 6 1 = nI e) (he2 : e ≤ 300) (t house : Int32) : PE d (al + 1) MX11_lend [.ref 6, .int t, .int house] σ (some (.int (bI (okGiveC X n t house ∧ e ≠ 300)))) (if okGiveC X n t house ∧ e ≠ 300 then c_push (pm_sI σ 6 1 (nI e + 1)) (qR σ 8 t.toNatClampNeg) (qI σ 6 0) (hX X t.toNatClampNeg).2.1 house (hX X t.toNatClampNeg).2.2.2.1 1 else σ) := by
  show PW _ _ _ _ _ _ _ _
  refine pw_aload_n dX11_lend_0 rfl ?_
  refine pw_iload_n dX11_lend_1 rfl ?_
  refine pw_iload_n dX11_lend_2 rfl ?_
  refine pw_cV2 (d1 := d - 1) (a1 := 0) (a2 := al + 1) dX11_lend_3 mtX11_findFreeFor ivX11_findFreeFor mlX11_119 (Nat.le_of_ble_eq_true rfl) (Nat.le_of_ble_eq_true rfl) (by omega) (by omega) (hS.at rfl rfl rfl) rfl rfl (t_free (by omega) hS hT _ _) ?_
  rintro r_ τ_ ⟨hr_, ht_⟩; subst r_; subst τ_
  refine pw_astore_n dX11_lend_6 (Nat.le_of_ble_eq_true rfl) (Nat.le_of_ble_eq_true rfl) rfl ?_
  refine pw_aload_n dX11_lend_7 rfl ?_
  refine pw_ifnull (tgt := 18) dX11_lend_8 (by decide) (fun h8 => ?_) (fun h8 => ?_)
  · refine pw_iconst (v := 0) dX11_lend_18 (by decide) ?_
    refine pw_iret dX11_lend_19 rfl (by first | rfl | exact bI_nar) ?_
    have hno : ¬ (okGiveC X n t house ∧ e ≠ 300) := by
      first | exact fun z => c_ff_z hT h8 z.1 | exact fun z => bI_0.mp h15 z.2
    refine ⟨by rw [bI_f hno], ?_⟩
    rw [if_neg hno]
    first | done | rfl | (have h15b := bI_0.mp h15; rw [if_neg h15b])
  · refine pw_aload_n dX11_lend_11 rfl ?_
    refine pw_cV0 (d1 := d - 1) (a1 := 0) (a2 := al + 1) dX11_lend_12 mtX11_spendAct ivX11_spendAct mlX11_123 (Nat.le_of_ble_eq_true rfl) (Nat.le_of_ble_eq_true rfl) (by omega) (by omega) (hS.at rfl rfl rfl) rfl rfl (t_spend hS he he2) ?_
    rintro r_ τ_ ⟨hr_, ht_⟩; subst r_; subst τ_
    refine pw_if_ne (tgt := 20) dX11_lend_15 (by decide) (fun h15 => ?_) (fun h15 => ?_)
    · have hok := c_ff_pos h8
      have hfull : okGiveC X n t house ∧ e ≠ 300 := ⟨hok, bI_n.mp h15⟩
      obtain ⟨j, hj2, hj, hcl, hfe⟩ := cTh.get hT hok.1
      obtain ⟨q1, q2, q3, q4, q5, q6, q7, q8, q9⟩ := hT.at hj2
      have hff : c_ff σ X n t house = qR σ 8 j := by unfold c_ff; rw [if_pos hok, hcl]
      rw [if_pos hfull.2, hff]
      refine pw_aload_n dX11_lend_20 rfl ?_
      refine pw_aload_n dX11_lend_21 rfl ?_
      refine pw_getI dX11_lend_22 flX11_7 rfl (hS.at rfl rfl rfl) ?_
      refine pw_iload_n dX11_lend_25 rfl ?_
      refine pw_cV2 (d1 := d - 1) (a1 := 1) (a2 := al) dX11_lend_26 mtX9_stayWith ivX9_stayWith mlX11_129 (Nat.le_of_ble_eq_true rfl) (Nat.le_of_ble_eq_true rfl) (by omega) (by omega) q1 rfl rfl (t_stayWith (σ := pm_sI σ 6 1 (nI e + 1)) (al := 0) (by omega) (by have := hS.1; show 6 ≤ qN σ; omega) q1 q3 _ _) ?_
      rintro r_ τ_ ⟨hr_, ht_⟩; subst r_; subst τ_
      refine pw_iconst (v := 1) dX11_lend_29 (by decide) ?_
      refine pw_iret dX11_lend_30 rfl (by first | rfl | exact bI_nar) ?_
      refine ⟨by rw [bI_t hfull], ?_⟩
      have hlt := hT.lt hj2
      have z5 : qI (pm_sI σ 6 1 (nI e + 1)) (qR σ (qR σ 8 j) 8) 2 = (hX X j).2.1 := (qI_sI_nc (by omega)).trans q5
      have z6 : qI (pm_sI σ 6 1 (nI e + 1)) (qR σ (qR σ 8 j) 8) 3 = (hX X j).2.2.1 := (qI_sI_nc (by omega)).trans q6
      have z7 : qI (pm_sI σ 6 1 (nI e + 1)) (qR σ (qR σ 8 j) 8) 4 = (hX X j).2.2.2.1 := (qI_sI_nc (by omega)).trans q7
      rw [if_pos hfull, hcl, ← z5, ← z7]
      rfl
    · refine pw_iconst (v := 0) dX11_lend_18 (by decide) ?_
      refine pw_iret dX11_lend_19 rfl (by first | rfl | exact bI_nar) ?_
      have hno : ¬ (okGiveC X n t house ∧ e ≠ 300) := by
        first | exact fun z => c_ff_z hT h8 z.1 | exact fun z => bI_0.mp h15 z.2
      refine ⟨by rw [bI_f hno], ?_⟩
      rw [if_neg hno]
      first | done | rfl | (have h15b := bI_0.mp h15; rw [if_neg h15b])
abbrev okBackC (X : Nat → List c_A) (n e : Nat) (t : Int32) : Prop := cTh X n t ∧ (hX X t.toNatClampNeg).2.2.1 ≠ (hX X t.toNatClampNeg).2.1 ∧ e ≠ 300
theorem t_back {d al n e : Nat} {σ : pm_S} {X : Nat → List c_A} (hd : 3 ≤ d) (hS : pm_fix σ) (hT : cT σ n X) (he : qI σ 6 1 = nI e) (he2 : e ≤ 300) (t : Int32) : PE d (al + 1) MX11_back [.ref 6, .int t] σ (some (.int (bI (okBackC X n e t)))) (if okBackC X n e t then c_push (pm_sI σ 6 1 (nI e + 1)) (qR σ 8 t.toNatClampNeg) (qI σ 6 0) (hX X t.toNatClampNeg).2.1 (hX X t.toNatClampNeg).2.1 (hX X t.toNatClampNeg).2.2.2.1 1 else σ) := by
  show PW _ _ _ _ _ _ _ _
  refine pw_aload_n dX11_back_0 rfl ?_
  refine pw_getF (v := 7) dX11_back_1 flX11_19 rfl (hS.at rfl rfl rfl) (hS.rf (6, 2, 7) rfl (by decide)) ?_
  refine pw_iload_n dX11_back_4 rfl ?_
  refine pw_cV1 (d1 := d - 1) (a1 := 0) (a2 := al + 1) dX11_back_5 mtX6_findThere ivX6_findThere mlX11_112 (Nat.le_of_ble_eq_true rfl) (Nat.le_of_ble_eq_true rfl) (by omega) (by omega) (hS.at rfl rfl rfl) rfl rfl (t_findThere (by omega) hS hT _) ?_
  rintro r_ τ_ ⟨hr_, ht_⟩; subst r_; subst τ_
  refine pw_astore_n dX11_back_8 (Nat.le_of_ble_eq_true rfl) (Nat.le_of_ble_eq_true rfl) rfl ?_
  refine pw_aload_n dX11_back_9 rfl ?_
  refine pw_ifnull (tgt := 27) dX11_back_10 (by decide) (fun h10 => ?_) (fun h10 => ?_)
  · refine pw_iconst (v := 0) dX11_back_27 (by decide) ?_
    refine pw_iret dX11_back_28 rfl (by first | rfl | exact bI_nar) ?_
    have hno : ¬ okBackC X n e t := by
      first | exact fun z => c_ft_z hT h10 z.1 | exact fun z => bI_0.mp h24 z.2.2 | (intro z; have z2 := z.2.1; rw [hcl] at z2; exact bI_0.mp h17 (by rw [q6, q5]; exact z2))
    refine ⟨by rw [bI_f hno], ?_⟩
    rw [if_neg hno]
    first | done | rfl | (have h24b := bI_0.mp h24; rw [if_neg h24b])
  · have hth := c_ft_pos h10
    obtain ⟨j, hj2, hj, hcl, hfe⟩ := cTh.get hT hth
    obtain ⟨q1, q2, q3, q4, q5, q6, q7, q8, q9⟩ := hT.at hj2
    rw [hfe]
    refine pw_aload_n dX11_back_13 rfl ?_
    refine pw_cV0 (d1 := d - 1) (a1 := 0) (a2 := al + 1) dX11_back_14 mtX9_isLent ivX9_isLent mlX11_132 (Nat.le_of_ble_eq_true rfl) (Nat.le_of_ble_eq_true rfl) (by omega) (by omega) q1 rfl rfl (t_isLent q1 q3) ?_
    rintro r_ τ_ ⟨hr_, ht_⟩; subst r_; subst τ_
    refine pw_if_eq (tgt := 27) dX11_back_17 (by decide) (fun h17 => ?_) (fun h17 => ?_)
    · refine pw_iconst (v := 0) dX11_back_27 (by decide) ?_
      refine pw_iret dX11_back_28 rfl (by first | rfl | exact bI_nar) ?_
      have hno : ¬ okBackC X n e t := by
        first | exact fun z => c_ft_z hT h10 z.1 | exact fun z => bI_0.mp h24 z.2.2 | (intro z; have z2 := z.2.1; rw [hcl] at z2; exact bI_0.mp h17 (by rw [q6, q5]; exact z2))
      refine ⟨by rw [bI_f hno], ?_⟩
      rw [if_neg hno]
      first | done | rfl | (have h24b := bI_0.mp h24; rw [if_neg h24b])
    · refine pw_aload_n dX11_back_20 rfl ?_
      refine pw_cV0 (d1 := d - 1) (a1 := 0) (a2 := al + 1) dX11_back_21 mtX11_spendAct ivX11_spendAct mlX11_123 (Nat.le_of_ble_eq_true rfl) (Nat.le_of_ble_eq_true rfl) (by omega) (by omega) (hS.at rfl rfl rfl) rfl rfl (t_spend hS he he2) ?_
      rintro r_ τ_ ⟨hr_, ht_⟩; subst r_; subst τ_
      refine pw_if_ne (tgt := 29) dX11_back_24 (by decide) (fun h24 => ?_) (fun h24 => ?_)
      · have hok : okBackC X n e t := ⟨hth, by rw [hcl, ← q6, ← q5]; exact bI_n.mp h17, bI_n.mp h24⟩
        rw [if_pos hok.2.2]
        refine pw_aload_n dX11_back_29 rfl ?_
        refine pw_aload_n dX11_back_30 rfl ?_
        refine pw_getI dX11_back_31 flX11_7 rfl (hS.at rfl rfl rfl) ?_
        refine pw_aload_n dX11_back_34 rfl ?_
        refine pw_cV0 (d1 := d - 1) (a1 := 0) (a2 := al + 1) dX11_back_35 mtX9_owner ivX9_owner mlX11_135 (Nat.le_of_ble_eq_true rfl) (Nat.le_of_ble_eq_true rfl) (by omega) (by omega) q1 rfl rfl (t_owner (σ := pm_sI σ 6 1 (nI e + 1)) q1 q3) ?_
        rintro r_ τ_ ⟨hr_, ht_⟩; subst r_; subst τ_
        refine pw_cV2 (d1 := d - 1) (a1 := 1) (a2 := al) dX11_back_38 mtX9_stayWith ivX9_stayWith mlX11_129 (Nat.le_of_ble_eq_true rfl) (Nat.le_of_ble_eq_true rfl) (by omega) (by omega) q1 rfl rfl (t_stayWith (σ := pm_sI σ 6 1 (nI e + 1)) (al := 0) (by omega) (by have := hS.1; show 6 ≤ qN σ; omega) q1 q3 _ _) ?_
        rintro r_ τ_ ⟨hr_, ht_⟩; subst r_; subst τ_
        refine pw_iconst (v := 1) dX11_back_41 (by decide) ?_
        refine pw_iret dX11_back_42 rfl (by first | rfl | exact bI_nar) ?_
        refine ⟨by rw [bI_t hok], ?_⟩
        have hlt := hT.lt hj2
        have z5 : qI (pm_sI σ 6 1 (nI e + 1)) (qR σ (qR σ 8 j) 8) 2 = (hX X j).2.1 := (qI_sI_nc (by omega)).trans q5
        have z6 : qI (pm_sI σ 6 1 (nI e + 1)) (qR σ (qR σ 8 j) 8) 3 = (hX X j).2.2.1 := (qI_sI_nc (by omega)).trans q6
        have z7 : qI (pm_sI σ 6 1 (nI e + 1)) (qR σ (qR σ 8 j) 8) 4 = (hX X j).2.2.2.1 := (qI_sI_nc (by omega)).trans q7
        rw [if_pos hok, hcl, ← z5, ← z7]
        rfl
      · refine pw_iconst (v := 0) dX11_back_27 (by decide) ?_
        refine pw_iret dX11_back_28 rfl (by first | rfl | exact bI_nar) ?_
        have hno : ¬ okBackC X n e t := by
          first | exact fun z => c_ft_z hT h10 z.1 | exact fun z => bI_0.mp h24 z.2.2 | (intro z; have z2 := z.2.1; rw [hcl] at z2; exact bI_0.mp h17 (by rw [q6, q5]; exact z2))
        refine ⟨by rw [bI_f hno], ?_⟩
        rw [if_neg hno]
        first | done | rfl | (have h24b := bI_0.mp h24; rw [if_neg h24b])
abbrev okBurnC (X : Nat → List c_A) (n e : Nat) (t : Int32) : Prop := cTh X n t ∧ e ≠ 300
theorem t_burn {d al n e : Nat} {σ : pm_S} {X : Nat → List c_A} (hd : 3 ≤ d) (hS : pm_fix σ) (hT : cT σ n X) (he : qI σ 6 1 = nI e) (he2 : e ≤ 300) (t : Int32) : PE d (al + 1) MX11_burn [.ref 6, .int t] σ (some (.int (bI (okBurnC X n e t)))) (if okBurnC X n e t then c_push (pm_sI σ 6 1 (nI e + 1)) (qR σ 8 t.toNatClampNeg) (qI σ 6 0) (hX X t.toNatClampNeg).2.1 (hX X t.toNatClampNeg).2.2.1 (hX X t.toNatClampNeg).2.2.2.1 0 else σ) := by
  show PW _ _ _ _ _ _ _ _
  refine pw_aload_n dX11_burn_0 rfl ?_
  refine pw_getF (v := 7) dX11_burn_1 flX11_19 rfl (hS.at rfl rfl rfl) (hS.rf (6, 2, 7) rfl (by decide)) ?_
  refine pw_iload_n dX11_burn_4 rfl ?_
  refine pw_cV1 (d1 := d - 1) (a1 := 0) (a2 := al + 1) dX11_burn_5 mtX6_findThere ivX6_findThere mlX11_112 (Nat.le_of_ble_eq_true rfl) (Nat.le_of_ble_eq_true rfl) (by omega) (by omega) (hS.at rfl rfl rfl) rfl rfl (t_findThere (by omega) hS hT _) ?_
  rintro r_ τ_ ⟨hr_, ht_⟩; subst r_; subst τ_
  refine pw_astore_n dX11_burn_8 (Nat.le_of_ble_eq_true rfl) (Nat.le_of_ble_eq_true rfl) rfl ?_
  refine pw_aload_n dX11_burn_9 rfl ?_
  refine pw_ifnull (tgt := 20) dX11_burn_10 (by decide) (fun h10 => ?_) (fun h10 => ?_)
  · refine pw_iconst (v := 0) dX11_burn_20 (by decide) ?_
    refine pw_iret dX11_burn_21 rfl (by first | rfl | exact bI_nar) ?_
    have hno : ¬ okBurnC X n e t := by
      first | exact fun z => c_ft_z hT h10 z.1 | exact fun z => bI_0.mp h17 z.2
    refine ⟨by rw [bI_f hno], ?_⟩
    rw [if_neg hno]
    first | done | rfl | (have h17b := bI_0.mp h17; rw [if_neg h17b])
  · refine pw_aload_n dX11_burn_13 rfl ?_
    refine pw_cV0 (d1 := d - 1) (a1 := 0) (a2 := al + 1) dX11_burn_14 mtX11_spendAct ivX11_spendAct mlX11_123 (Nat.le_of_ble_eq_true rfl) (Nat.le_of_ble_eq_true rfl) (by omega) (by omega) (hS.at rfl rfl rfl) rfl rfl (t_spend hS he he2) ?_
    rintro r_ τ_ ⟨hr_, ht_⟩; subst r_; subst τ_
    refine pw_if_ne (tgt := 22) dX11_burn_17 (by decide) (fun h17 => ?_) (fun h17 => ?_)
    · have hth := c_ft_pos h10
      obtain ⟨j, hj2, hj, hcl, hfe⟩ := cTh.get hT hth
      obtain ⟨q1, q2, q3, q4, q5, q6, q7, q8, q9⟩ := hT.at hj2
      have hok : okBurnC X n e t := ⟨hth, bI_n.mp h17⟩
      rw [if_pos hok.2, hfe]
      refine pw_aload_n dX11_burn_22 rfl ?_
      refine pw_aload_n dX11_burn_23 rfl ?_
      refine pw_getI dX11_burn_24 flX11_7 rfl (hS.at rfl rfl rfl) ?_
      refine pw_cV1 (d1 := d - 1) (a1 := 1) (a2 := al) dX11_burn_27 mtX9_vanish ivX9_vanish mlX11_138 (Nat.le_of_ble_eq_true rfl) (Nat.le_of_ble_eq_true rfl) (by omega) (by omega) q1 rfl rfl (t_vanish (σ := pm_sI σ 6 1 (nI e + 1)) (al := 0) (by omega) (by have := hS.1; show 6 ≤ qN σ; omega) q1 q3 _) ?_
      rintro r_ τ_ ⟨hr_, ht_⟩; subst r_; subst τ_
      refine pw_iconst (v := 1) dX11_burn_30 (by decide) ?_
      refine pw_iret dX11_burn_31 rfl (by first | rfl | exact bI_nar) ?_
      refine ⟨by rw [bI_t hok], ?_⟩
      have hlt := hT.lt hj2
      have z5 : qI (pm_sI σ 6 1 (nI e + 1)) (qR σ (qR σ 8 j) 8) 2 = (hX X j).2.1 := (qI_sI_nc (by omega)).trans q5
      have z6 : qI (pm_sI σ 6 1 (nI e + 1)) (qR σ (qR σ 8 j) 8) 3 = (hX X j).2.2.1 := (qI_sI_nc (by omega)).trans q6
      have z7 : qI (pm_sI σ 6 1 (nI e + 1)) (qR σ (qR σ 8 j) 8) 4 = (hX X j).2.2.2.1 := (qI_sI_nc (by omega)).trans q7
      rw [if_pos hok, hcl, ← z5, ← z6, ← z7]
      rfl
    · refine pw_iconst (v := 0) dX11_burn_20 (by decide) ?_
      refine pw_iret dX11_burn_21 rfl (by first | rfl | exact bI_nar) ?_
      have hno : ¬ okBurnC X n e t := by
        first | exact fun z => c_ft_z hT h10 z.1 | exact fun z => bI_0.mp h17 z.2
      refine ⟨by rw [bI_f hno], ?_⟩
      rw [if_neg hno]
      first | done | rfl | (have h17b := bI_0.mp h17; rw [if_neg h17b])
abbrev okDaysC (σ : pm_S) (n : Int32) : Prop := (1 ≤ n ∧ n ≤ 1000) ∧ qI σ 6 0 + n ≤ 9999
theorem t_days {d al : Nat} {σ : pm_S} (hd : 1 ≤ d) (hS : pm_fix σ) (n : Int32) : PE d al MX11_days [.ref 6, .int n] σ (some (.int (if okDaysC σ n then qI σ 6 0 + n else -1))) (if okDaysC σ n then pm_sI σ 6 0 (qI σ 6 0 + n) else σ) := by
  show PW _ _ _ _ _ _ _ _
  refine pw_iload_n dX11_days_0 rfl ?_
  refine pw_iconst (v := 1) dX11_days_1 (by decide) ?_
  refine pw_sipush (v := 1000) dX11_days_2 (by decide) ?_
  refine pw_cS3 (d1 := d - 1) (a1 := 0) (a2 := al) dX11_days_5 mtX11_isWithin stX11_isWithin mlX11_79 (Nat.le_of_ble_eq_true rfl) (Nat.le_of_ble_eq_true rfl) (by omega) (by omega) (t_within _ _ _) ?_
  rintro r_ τ_ ⟨hr_, ht_⟩; subst r_; subst τ_
  refine pw_if_eq (tgt := 23) dX11_days_8 (by decide) (fun h8 => ?_) (fun h8 => ?_)
  · refine pw_iconst (v := (-1)) dX11_days_23 (by decide) ?_
    refine pw_iret dX11_days_24 rfl rfl ?_
    have hno : ¬ okDaysC σ n := by
      first | exact fun z => bI_0.mp h8 z.1 | exact fun z => h20 z.2
    exact ⟨by rw [if_neg hno], by rw [if_neg hno]⟩
  · refine pw_aload_n dX11_days_11 rfl ?_
    refine pw_getI dX11_days_12 flX11_7 rfl (hS.at rfl rfl rfl) ?_
    refine pw_iload_n dX11_days_15 rfl ?_
    refine pw_iadd dX11_days_16 ?_
    refine pw_sipush (v := 9999) dX11_days_17 (by decide) ?_
    refine pw_icmp_le (tgt := 25) dX11_days_20 (by decide) (fun h20 => ?_) (fun h20 => ?_)
    · refine pw_aload_n dX11_days_25 rfl ?_
      refine pw_dup dX11_days_26 rfl ?_
      refine pw_getI dX11_days_27 flX11_7 rfl (hS.at rfl rfl rfl) ?_
      refine pw_iload_n dX11_days_30 rfl ?_
      refine pw_iadd dX11_days_31 ?_
      refine pw_putI dX11_days_32 flX11_7 ⟨_, rfl, Or.inl rfl⟩ rfl (hS.at rfl rfl rfl) ?_
      refine pw_aload_n dX11_days_35 rfl ?_
      refine pw_getI dX11_days_36 flX11_7 rfl (hS.at rfl rfl rfl) ?_
      refine pw_iret dX11_days_39 rfl rfl ?_
      have hok : okDaysC σ n := ⟨bI_n.mp h8, h20⟩
      rw [if_pos hok, if_pos hok]
      exact ⟨rfl, rfl⟩
    · refine pw_iconst (v := (-1)) dX11_days_23 (by decide) ?_
      refine pw_iret dX11_days_24 rfl rfl ?_
      have hno : ¬ okDaysC σ n := by
        first | exact fun z => bI_0.mp h8 z.1 | exact fun z => h20 z.2
      exact ⟨by rw [if_neg hno], by rw [if_neg hno]⟩
