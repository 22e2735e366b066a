/-! ===== the class: copies, questions about things ===== -/
def c_newc (σ : pm_S) (n m : Nat) (rank house : Int32) : pm_S := pm_sI (pm_sR (c_thing (c_act (pm_nw (pm_nw σ 9 0) 0 0) (qN σ + 1) 0 (qI σ 6 0) house house 0 1) (qN σ) (qN σ + 1) (nI n) (qI σ m 1) rank (qI σ m 3) (qI σ m 4) (qI σ 6 0) (qI σ m 0) (qI σ m 7)) 8 n (qN σ)) 7 1 (nI n + 1)
abbrev okCopyC (X : Nat → List c_A) (n : Nat) (t r house : Int32) : Prop := cTh X n t ∧ (0 ≤ r ∧ r ≤ 9) ∧ (0 ≤ house ∧ house ≤ 7) ∧ n ≠ 20
theorem t_copy {d al n : Nat} {σ : pm_S} {X : Nat → List c_A} (hd : 2 ≤ d) (hS : pm_fix σ) (hT : cT σ n X) (t r house : Int32) : PE d (al + 2) MX11_copy [.ref 6, .int t, .int r, .int house] σ (some (.int (if okCopyC X n t r house then nI n else -1))) (if okCopyC X n t r house then c_newc σ n (qR σ 8 t.toNatClampNeg) r house else σ) := by
  show PW _ _ _ _ _ _ _ _
  have h68 := hS.1
  refine pw_aload_n dX11_copy_0 rfl ?_
  refine pw_getF (v := 7) dX11_copy_1 flX11_19 rfl (hS.at rfl rfl rfl) (hS.rf (6, 2, 7) rfl (by decide)) ?_
  refine pw_iload_n dX11_copy_4 rfl ?_
  refine pw_cV1 (d1 := d - 1) (a1 := 0) (a2 := al + 2) dX11_copy_5 mtX6_findThere ivX6_findThere mlX11_112 (Nat.le_of_ble_eq_true rfl) (Nat.le_of_ble_eq_true rfl) (by omega) (by omega) (hS.at rfl rfl rfl) rfl rfl (t_findThere (by omega) hS hT _) ?_
  rintro r_ τ_ ⟨hr_, ht_⟩; subst r_; subst τ_
  refine pw_astore dX11_copy_8 (Nat.le_of_ble_eq_true rfl) (Nat.le_of_ble_eq_true rfl) rfl ?_
  refine pw_aload dX11_copy_10 rfl ?_
  refine pw_ifnull (tgt := 39) dX11_copy_12 (by decide) (fun h12 => ?_) (fun h12 => ?_)
  · refine pw_iconst (v := (-1)) dX11_copy_39 (by decide) ?_
    refine pw_iret dX11_copy_40 rfl rfl ?_
    have hno : ¬ okCopyC X n t r house := by
      first | exact fun z => c_ft_z hT h12 z.1 | exact fun z => bI_0.mp h19 z.2.1 | exact fun z => bI_0.mp h26 z.2.2.1 | exact fun z => z.2.2.2 (bI_n.mp h36)
    exact ⟨by rw [if_neg hno], by rw [if_neg hno]⟩
  · have hth := c_ft_pos h12
    obtain ⟨j, hj2, hj, hcl, hfe⟩ := cTh.get hT hth
    obtain ⟨q1, q2, q3, q4, q5, q6, q7, q8, q9⟩ := hT.at hj2
    rw [hfe]
    have hmN := q1.2.1
    refine pw_iload_n dX11_copy_15 rfl ?_
    refine pw_cS1 (d1 := d - 1) (a1 := 0) (a2 := al + 2) dX11_copy_16 mtX11_isMark stX11_isMark mlX11_83 (Nat.le_of_ble_eq_true rfl) (Nat.le_of_ble_eq_true rfl) (by omega) (by omega) (t_mark (by omega) _) ?_
    rintro r_ τ_ ⟨hr_, ht_⟩; subst r_; subst τ_
    refine pw_if_eq (tgt := 39) dX11_copy_19 (by decide) (fun h19 => ?_) (fun h19 => ?_)
    · refine pw_iconst (v := (-1)) dX11_copy_39 (by decide) ?_
      refine pw_iret dX11_copy_40 rfl rfl ?_
      have hno : ¬ okCopyC X n t r house := by
        first | exact fun z => c_ft_z hT h12 z.1 | exact fun z => bI_0.mp h19 z.2.1 | exact fun z => bI_0.mp h26 z.2.2.1 | exact fun z => z.2.2.2 (bI_n.mp h36)
      exact ⟨by rw [if_neg hno], by rw [if_neg hno]⟩
    · refine pw_iload_n dX11_copy_22 rfl ?_
      refine pw_cS1 (d1 := d - 1) (a1 := 0) (a2 := al + 2) dX11_copy_23 mtX11_isHouse stX11_isHouse mlX11_87 (Nat.le_of_ble_eq_true rfl) (Nat.le_of_ble_eq_true rfl) (by omega) (by omega) (t_house (by omega) _) ?_
      rintro r_ τ_ ⟨hr_, ht_⟩; subst r_; subst τ_
      refine pw_if_eq (tgt := 39) dX11_copy_26 (by decide) (fun h26 => ?_) (fun h26 => ?_)
      · refine pw_iconst (v := (-1)) dX11_copy_39 (by decide) ?_
        refine pw_iret dX11_copy_40 rfl rfl ?_
        have hno : ¬ okCopyC X n t r house := by
          first | exact fun z => c_ft_z hT h12 z.1 | exact fun z => bI_0.mp h19 z.2.1 | exact fun z => bI_0.mp h26 z.2.2.1 | exact fun z => z.2.2.2 (bI_n.mp h36)
        exact ⟨by rw [if_neg hno], by rw [if_neg hno]⟩
      · refine pw_aload_n dX11_copy_29 rfl ?_
        refine pw_getF (v := 7) dX11_copy_30 flX11_19 rfl (hS.at rfl rfl rfl) (hS.rf (6, 2, 7) rfl (by decide)) ?_
        refine pw_cV0 (d1 := d - 1) (a1 := 0) (a2 := al + 2) dX11_copy_33 mtX6_isFull ivX6_isFull mlX11_90 (Nat.le_of_ble_eq_true rfl) (Nat.le_of_ble_eq_true rfl) (by omega) (by omega) (hS.at rfl rfl rfl) rfl rfl (t_isFull hS hT.1 hT.2.1) ?_
        rintro r_ τ_ ⟨hr_, ht_⟩; subst r_; subst τ_
        refine pw_if_eq (tgt := 41) dX11_copy_36 (by decide) (fun h36 => ?_) (fun h36 => ?_)
        · have hok : okCopyC X n t r house := ⟨hth, bI_n.mp h19, bI_n.mp h26, bI_0.mp h36⟩
          have hn3 : n < 20 := by have := hok.2.2.2; have := hT.2.1; omega
          rw [if_pos hok, if_pos hok, hcl]
          refine pw_aload_n dX11_copy_41 rfl ?_
          refine pw_getF (v := 7) dX11_copy_42 flX11_19 rfl (hS.at rfl rfl rfl) (hS.rf (6, 2, 7) rfl (by decide)) ?_
          refine pw_new dX11_copy_45 nlX11_99 (by omega) ?_
          have hS := hS.nw (t := 9) (n := 0)
          refine pw_dup dX11_copy_48 rfl ?_
          refine pw_aload_n dX11_copy_49 rfl ?_
          refine pw_getF (v := 7) dX11_copy_50 flX11_19 rfl (hS.at rfl rfl rfl) (hS.rf (6, 2, 7) rfl (by decide)) ?_
          refine pw_cV0 (d1 := d - 1) (a1 := 0) (a2 := al + 1) dX11_copy_53 mtX6_count ivX6_count mlX11_101 (Nat.le_of_ble_eq_true rfl) (Nat.le_of_ble_eq_true rfl) (by omega) (by omega) (hS.at rfl rfl rfl) rfl rfl (t_count hS) ?_
          rintro r_ τ_ ⟨hr_, ht_⟩; subst r_; subst τ_
          refine pw_aload dX11_copy_56 rfl ?_
          refine pw_iload_n dX11_copy_58 rfl ?_
          refine pw_new dX11_copy_59 nlX11_94 (by show 6 ≤ qN σ + 1; omega) ?_
          show PW _ _ _ _ _ (.ref (qN σ + 1) :: _) _ _
          have hS := hS.nw (t := 0) (n := 0)
          refine pw_dup dX11_copy_62 rfl ?_
          refine pw_aload_n dX11_copy_63 rfl ?_
          refine pw_getI dX11_copy_64 flX11_7 rfl (hS.at rfl rfl rfl) ?_
          refine pw_iload_n dX11_copy_67 rfl ?_
          refine pw_cI2 (d1 := d - 1) (a1 := 0) (a2 := al) dX11_copy_68 mtX0_init rfl imX0_init rfl mlX11_96 (Nat.le_of_ble_eq_true rfl) (Nat.le_of_ble_eq_true rfl) (by omega) (by omega) (by omega) (t_act1 (by omega) (is_nw_new (by show 0 < qN σ + 1; omega)) _ _) ?_
          rintro r_ τ_ ⟨hr_, ht_⟩; subst r_; subst τ_
          have e6 : qI (pm_nw (pm_nw σ 9 0) 0 0) 6 0 = qI σ 6 0 := by rw [qI_nw_ne (by show 6 ≠ qN σ + 1; omega), qI_nw_ne (by omega)]
          have hN9 : pm_is (c_act (pm_nw (pm_nw σ 9 0) 0 0) (qN σ + 1) 0 (qI (pm_nw (pm_nw σ 9 0) 0 0) 6 0) house house 0 1) (qN σ) 9 := is_nw_old (t' := 0) (n := 0) (is_nw_new (σ := σ) (t := 9) (n := 0) (by omega))
          have hN0 : pm_is (c_act (pm_nw (pm_nw σ 9 0) 0 0) (qN σ + 1) 0 (qI (pm_nw (pm_nw σ 9 0) 0 0) 6 0) house house 0 1) (qN σ + 1) 0 := is_nw_new (σ := pm_nw σ 9 0) (t := 0) (n := 0) (by show 0 < qN σ + 1; omega)
          have hM : pm_is (c_act (pm_nw (pm_nw σ 9 0) 0 0) (qN σ + 1) 0 (qI (pm_nw (pm_nw σ 9 0) 0 0) 6 0) house house 0 1) (qR σ 8 j) 9 := is_nw_old (t' := 0) (n := 0) (is_nw_old (t' := 9) (n := 0) q1)
          have hS := pm_fix.act (a := qN σ + 1) (b := 0) (x1 := qI (pm_nw (pm_nw σ 9 0) 0 0) 6 0) (x2 := house) (x3 := house) (x4 := 0) (x5 := 1) hS (by omega)
          have hq7 : qI (c_act (pm_nw (pm_nw σ 9 0) 0 0) (qN σ + 1) 0 (qI (pm_nw (pm_nw σ 9 0) 0 0) 6 0) house house 0 1) 7 1 = nI n := by
            rw [(c_act_ne (by omega)).1, qI_nw_ne (by show 7 ≠ qN σ + 1; omega), qI_nw_ne (by omega)]; exact hT.1
          have hn7 : qI (pm_nw σ 9 0) 7 1 = nI n := by rw [qI_nw_ne (by omega)]; exact hT.1
          have eM : ∀ k, qI (c_act (pm_nw (pm_nw σ 9 0) 0 0) (qN σ + 1) 0 (qI (pm_nw (pm_nw σ 9 0) 0 0) 6 0) house house 0 1) (qR σ 8 j) k = qI σ (qR σ 8 j) k := fun k => by
            rw [(c_act_ne (by omega)).1, qI_nw_ne (by show _ ≠ qN σ + 1; omega), qI_nw_ne (by omega)]
          have eD : qI (c_act (pm_nw (pm_nw σ 9 0) 0 0) (qN σ + 1) 0 (qI (pm_nw (pm_nw σ 9 0) 0 0) 6 0) house house 0 1) (qN σ + 1) 1 = qI σ 6 0 := by
            rw [(c_act_at _ _ _ _ _ _ _ _).1]; exact e6
          refine pw_cI4 (d1 := d - 1) (a1 := 0) (a2 := al) dX11_copy_71 mtX9_init_ rfl imX9_init_ rfl mlX11_116 (Nat.le_of_ble_eq_true rfl) (Nat.le_of_ble_eq_true rfl) (by omega) (by omega) (by omega) (t_thing2 (by omega) hN9 hN0 hM (by omega) (by omega) _ _) ?_
          rintro r_ τ_ ⟨hr_, ht_⟩; subst r_; subst τ_
          rw [hn7, eM, eM, eM, eM, eM, eD]
          have hS := pm_fix.thing (a := qN σ) (l := qN σ + 1) (x1 := nI n) (x2 := qI σ (qR σ 8 j) 1) (x3 := r) (x4 := qI σ (qR σ 8 j) 3) (x5 := qI σ (qR σ 8 j) 4) (x6 := qI σ 6 0) (x7 := qI σ (qR σ 8 j) 0) (x8 := qI σ (qR σ 8 j) 7) hS (by omega)
          have hN7 : 7 ≠ qN σ := by omega
          refine pw_cV1 (d1 := d - 1) (a1 := 0) (a2 := al) dX11_copy_74 mtX6_put ivX6_put mlX11_108 (Nat.le_of_ble_eq_true rfl) (Nat.le_of_ble_eq_true rfl) (by omega) (by omega) (hS.at rfl rfl rfl) rfl rfl (t_put (n := n) (by omega) hS (((c_thing_ne hN7).1 1).trans hq7) (by omega) hN9) ?_
          rintro r_ τ_ ⟨hr_, ht_⟩; subst r_; subst τ_
          refine pw_iret dX11_copy_77 rfl rfl ?_
          refine ⟨rfl, ?_⟩
          unfold c_newc
          rw [← e6]
        · refine pw_iconst (v := (-1)) dX11_copy_39 (by decide) ?_
          refine pw_iret dX11_copy_40 rfl rfl ?_
          have hno : ¬ okCopyC X n t r house := by
            first | exact fun z => c_ft_z hT h12 z.1 | exact fun z => bI_0.mp h19 z.2.1 | exact fun z => bI_0.mp h26 z.2.2.1 | exact fun z => z.2.2.2 (bI_n.mp h36)
          exact ⟨by rw [if_neg hno], by rw [if_neg hno]⟩
def c_ct (X : Nat → List c_A) : Nat → Nat
  | 0 => 0
  | t + 1 => c_ct X t + if (hX X t).2.2.2.2 = 1 then 1 else 0
theorem t_countThere_lp {d al n : Nat} {σ : pm_S} {X : Nat → List c_A} (hd : 2 ≤ d) (hS : pm_fix σ) (hT : cT σ n X) : ∀ (k t : Nat), t + k = n → PW d al MX6_countThere 4 [.ref 7, .int (nI (c_ct X t)), .int (nI t)] [] σ (fun r τ => r = some (.int (nI (c_ct X n))) ∧ τ = σ) := by
  have hn := hT.1
  have hn2 := hT.2.1
  intro k
  induction k with
  | zero =>
    intro t ht
    refine pw_iload_n dX6_countThere_4 rfl ?_
    refine pw_aload_n dX6_countThere_5 rfl ?_
    refine pw_getI dX6_countThere_6 flX6_17 rfl (hS.at rfl rfl rfl) ?_
    refine pw_icmp_ge (tgt := 29) dX6_countThere_9 (by decide) (fun h9 => ?_) (fun h9 => ?_)
    · refine pw_iload_n dX6_countThere_29 rfl ?_
      refine pw_iret dX6_countThere_30 rfl rfl ?_
      exact ⟨by rw [show t = n by omega], rfl⟩
    · exact absurd (by rw [hn]; exact nI_le (by omega) (by omega)) h9
  | succ k ih =>
    intro t ht
    have ht2 : t < n := by omega
    have hh := ih (t + 1) (by omega)
    have hcl : (nI t).toNatClampNeg = t := nI_clamp (by omega)
    have hu : c_ct X (t + 1) = c_ct X t + if (hX X t).2.2.2.2 = 1 then 1 else 0 := rfl
    rw [hu, nI_succ t] at hh
    refine pw_iload_n dX6_countThere_4 rfl ?_
    refine pw_aload_n dX6_countThere_5 rfl ?_
    refine pw_getI dX6_countThere_6 flX6_17 rfl (hS.at rfl rfl rfl) ?_
    refine pw_icmp_ge (tgt := 29) dX6_countThere_9 (by decide) (fun h9 => ?_) (fun h9 => ?_)
    · exact absurd (by rw [hn] at h9; exact h9) (nI_ge ht2 (by omega))
    · refine pw_aload_n dX6_countThere_12 rfl ?_
      refine pw_iload_n dX6_countThere_13 rfl ?_
      refine pw_cV1 (d1 := d - 1) (a1 := 0) (a2 := al) dX6_countThere_14 mtX6_findThere ivX6_findThere mlX6_32 (Nat.le_of_ble_eq_true rfl) (Nat.le_of_ble_eq_true rfl) (by omega) (by omega) (hS.at rfl rfl rfl) rfl rfl (t_findThere (by omega) hS hT _) ?_
      rintro r_ τ_ ⟨hr_, ht_⟩; subst r_; subst τ_
      refine pw_ifnull (tgt := 23) dX6_countThere_17 (by decide) (fun h17 => ?_) (fun h17 => ?_)
      · refine pw_iinc1 dX6_countThere_23 rfl (Nat.le_of_ble_eq_true rfl) (Nat.le_of_ble_eq_true rfl) rfl ?_
        refine pw_goto (tgt := 4) dX6_countThere_26 (by decide) ?_
        by_cases hp : (hX X t).2.2.2.2 = 1
        · rw [if_pos hp, nI_succ] at hh
          first | exact hh | exact absurd (show cTh X n (nI t) from ⟨tOk_nI ht2 (by omega), by rw [hcl]; exact hp⟩) (c_ft_z hT h17)
        · rw [if_neg hp, Nat.add_zero] at hh
          first | exact hh | exact absurd (by have z := (c_ft_pos h17).2; rw [hcl] at z; exact z) hp
      · refine pw_iinc1 dX6_countThere_20 rfl (Nat.le_of_ble_eq_true rfl) (Nat.le_of_ble_eq_true rfl) rfl ?_
        refine pw_iinc1 dX6_countThere_23 rfl (Nat.le_of_ble_eq_true rfl) (Nat.le_of_ble_eq_true rfl) rfl ?_
        refine pw_goto (tgt := 4) dX6_countThere_26 (by decide) ?_
        by_cases hp : (hX X t).2.2.2.2 = 1
        · rw [if_pos hp, nI_succ] at hh
          first | exact hh | exact absurd (show cTh X n (nI t) from ⟨tOk_nI ht2 (by omega), by rw [hcl]; exact hp⟩) (c_ft_z hT h17)
        · rw [if_neg hp, Nat.add_zero] at hh
          first | exact hh | exact absurd (by have z := (c_ft_pos h17).2; rw [hcl] at z; exact z) hp
theorem t_countThere {d al n : Nat} {σ : pm_S} {X : Nat → List c_A} (hd : 2 ≤ d) (hS : pm_fix σ) (hT : cT σ n X) : PE d al MX6_countThere [.ref 7] σ (some (.int (nI (c_ct X n)))) σ := by
  show PW _ _ _ _ _ _ _ _
  refine pw_iconst (v := 0) dX6_countThere_0 (by decide) ?_
  refine pw_istore_n dX6_countThere_1 (Nat.le_of_ble_eq_true rfl) (Nat.le_of_ble_eq_true rfl) rfl ?_
  refine pw_iconst (v := 0) dX6_countThere_2 (by decide) ?_
  refine pw_istore_n dX6_countThere_3 (Nat.le_of_ble_eq_true rfl) (Nat.le_of_ble_eq_true rfl) rfl ?_
  exact t_countThere_lp hd hS hT n 0 (by omega)
abbrev c_dP (σ : pm_S) (X : Nat → List c_A) (j t : Nat) : Prop := (hX X t).2.2.2.2 = 1 ∧ qI σ (qR σ 8 t) 7 = qI σ (qR σ 8 j) 7 ∧ (hX X t).2.2.1 ≠ (hX X j).2.2.1
def c_db (σ : pm_S) (X : Nat → List c_A) (j : Nat) : Nat → Nat → Bool
  | 0, _ => false
  | k + 1, t => if c_dP σ X j t then true else c_db σ X j k (t + 1)
theorem t_doubt_lp {d al n j : Nat} {σ : pm_S} {X : Nat → List c_A} (hd : 2 ≤ d) (hS : pm_fix σ) (hT : cT σ n X) (hj : j < n) : ∀ (k t : Nat) (x : Value), (pm_un x = true ∨ ∃ z, x = .ref z) → t + k = n → PW d al MX6_isInDoubt 24 [.ref 7, .ref (qR σ 8 j), .int (nI t), x] [] σ (fun r τ => r = some (.int (bI (c_db σ X j k t = true))) ∧ τ = σ) := by
  have hn := hT.1
  have hn2 := hT.2.1
  obtain ⟨p1, p2, p3, p4, p5, p6, p7, p8, p9⟩ := hT.at hj
  intro k
  induction k with
  | zero =>
    intro t x hx ht
    refine pw_iload_n dX6_isInDoubt_24 rfl ?_
    refine pw_aload_n dX6_isInDoubt_25 rfl ?_
    refine pw_getI dX6_isInDoubt_26 flX6_17 rfl (hS.at rfl rfl rfl) ?_
    refine pw_icmp_ge (tgt := 72) dX6_isInDoubt_29 (by decide) (fun h29 => ?_) (fun h29 => ?_)
    · refine pw_iconst (v := 0) dX6_isInDoubt_72 (by decide) ?_
      refine pw_iret dX6_isInDoubt_73 rfl (by first | rfl | exact bI_nar) ?_
      exact ⟨rfl, rfl⟩
    · exact absurd (by rw [hn]; exact nI_le (by omega) (by omega)) h29
  | succ k ih =>
    intro t x hx ht
    have ht2 : t < n := by omega
    obtain ⟨q1, q2, q3, q4, q5, q6, q7, q8, q9⟩ := hT.at ht2
    have hcl : (nI t).toNatClampNeg = t := nI_clamp (by omega)
    have hu : c_db σ X j (k + 1) t = if c_dP σ X j t then true else c_db σ X j k (t + 1) := rfl
    have hh := fun z : Nat => ih (t + 1) (.ref z) (Or.inr ⟨z, rfl⟩) (by omega)
    rw [nI_succ t] at hh
    rw [hu]
    have hft : cTh X n (nI t) → c_ft σ X n (nI t) = qR σ 8 t := fun z => by unfold c_ft; rw [if_pos z, hcl]
    refine pw_iload_n dX6_isInDoubt_24 rfl ?_
    refine pw_aload_n dX6_isInDoubt_25 rfl ?_
    refine pw_getI dX6_isInDoubt_26 flX6_17 rfl (hS.at rfl rfl rfl) ?_
    refine pw_icmp_ge (tgt := 72) dX6_isInDoubt_29 (by decide) (fun h29 => ?_) (fun h29 => ?_)
    · exact absurd (by rw [hn] at h29; exact h29) (nI_ge ht2 (by omega))
    · refine pw_aload_n dX6_isInDoubt_32 rfl ?_
      refine pw_iload_n dX6_isInDoubt_33 rfl ?_
      refine pw_cV1 (d1 := d - 1) (a1 := 0) (a2 := al) dX6_isInDoubt_34 mtX6_findThere ivX6_findThere mlX6_32 (Nat.le_of_ble_eq_true rfl) (Nat.le_of_ble_eq_true rfl) (by omega) (by omega) (hS.at rfl rfl rfl) rfl rfl (t_findThere (by omega) hS hT _) ?_
      rintro r_ τ_ ⟨hr_, ht_⟩; subst r_; subst τ_
      refine pw_astore_n dX6_isInDoubt_37 (Nat.le_of_ble_eq_true rfl) (Nat.le_of_ble_eq_true rfl) rfl ?_
      refine pw_aload_n dX6_isInDoubt_38 rfl ?_
      refine pw_ifnull (tgt := 66) dX6_isInDoubt_39 (by decide) (fun h39 => ?_) (fun h39 => ?_)
      · refine pw_iinc1 dX6_isInDoubt_66 rfl (Nat.le_of_ble_eq_true rfl) (Nat.le_of_ble_eq_true rfl) rfl ?_
        refine pw_goto (tgt := 24) dX6_isInDoubt_69 (by decide) ?_
        have hno : ¬ c_dP σ X j t := by
          first | exact fun z => c_ft_z hT h39 ⟨tOk_nI ht2 (by omega), by rw [hcl]; exact z.1⟩ | exact fun z => h50 z.2.1 | exact fun z => z.2.2 (by rw [← q6, ← p6]; exact h61)
        rw [if_neg hno]
        exact hh _
      · have hth := c_ft_pos h39
        rw [hft hth]
        have hth2 : (hX X t).2.2.2.2 = 1 := by have z := hth.2; rw [hcl] at z; exact z
        refine pw_aload_n dX6_isInDoubt_42 rfl ?_
        refine pw_getI dX6_isInDoubt_43 flX6_35 rfl q1 ?_
        refine pw_aload_n dX6_isInDoubt_46 rfl ?_
        refine pw_getI dX6_isInDoubt_47 flX6_35 rfl p1 ?_
        refine pw_icmp_ne (tgt := 66) dX6_isInDoubt_50 (by decide) (fun h50 => ?_) (fun h50 => ?_)
        · refine pw_iinc1 dX6_isInDoubt_66 rfl (Nat.le_of_ble_eq_true rfl) (Nat.le_of_ble_eq_true rfl) rfl ?_
          refine pw_goto (tgt := 24) dX6_isInDoubt_69 (by decide) ?_
          have hno : ¬ c_dP σ X j t := by
            first | exact fun z => c_ft_z hT h39 ⟨tOk_nI ht2 (by omega), by rw [hcl]; exact z.1⟩ | exact fun z => h50 z.2.1 | exact fun z => z.2.2 (by rw [← q6, ← p6]; exact h61)
          rw [if_neg hno]
          exact hh _
        · refine pw_aload_n dX6_isInDoubt_53 rfl ?_
          refine pw_cV0 (d1 := d - 1) (a1 := 0) (a2 := al) dX6_isInDoubt_54 mtX9_keeper ivX9_keeper mlX6_38 (Nat.le_of_ble_eq_true rfl) (Nat.le_of_ble_eq_true rfl) (by omega) (by omega) q1 rfl rfl (t_keeper q1 q3) ?_
          rintro r_ τ_ ⟨hr_, ht_⟩; subst r_; subst τ_
          refine pw_aload_n dX6_isInDoubt_57 rfl ?_
          refine pw_cV0 (d1 := d - 1) (a1 := 0) (a2 := al) dX6_isInDoubt_58 mtX9_keeper ivX9_keeper mlX6_38 (Nat.le_of_ble_eq_true rfl) (Nat.le_of_ble_eq_true rfl) (by omega) (by omega) p1 rfl rfl (t_keeper p1 p3) ?_
          rintro r_ τ_ ⟨hr_, ht_⟩; subst r_; subst τ_
          refine pw_icmp_eq (tgt := 66) dX6_isInDoubt_61 (by decide) (fun h61 => ?_) (fun h61 => ?_)
          · refine pw_iinc1 dX6_isInDoubt_66 rfl (Nat.le_of_ble_eq_true rfl) (Nat.le_of_ble_eq_true rfl) rfl ?_
            refine pw_goto (tgt := 24) dX6_isInDoubt_69 (by decide) ?_
            have hno : ¬ c_dP σ X j t := by
              first | exact fun z => c_ft_z hT h39 ⟨tOk_nI ht2 (by omega), by rw [hcl]; exact z.1⟩ | exact fun z => h50 z.2.1 | exact fun z => z.2.2 (by rw [← q6, ← p6]; exact h61)
            rw [if_neg hno]
            exact hh _
          · refine pw_iconst (v := 1) dX6_isInDoubt_64 (by decide) ?_
            refine pw_iret dX6_isInDoubt_65 rfl (by first | rfl | exact bI_nar) ?_
            have hp : c_dP σ X j t := ⟨hth2, h50, by rw [← q6, ← p6]; exact h61⟩
            exact ⟨by rw [if_pos hp]; rfl, rfl⟩
abbrev c_inDb (σ : pm_S) (X : Nat → List c_A) (n j : Nat) : Prop := (hX X j).2.2.2.2 = 1 ∧ (¬ cTh X n (qI σ (qR σ 8 j) 7) ∨ c_db σ X j n 0 = true)
theorem t_doubt {d al n j : Nat} {σ : pm_S} {X : Nat → List c_A} (hd : 2 ≤ d) (hS : pm_fix σ) (hT : cT σ n X) (hj : j < n) : PE d al MX6_isInDoubt [.ref 7, .ref (qR σ 8 j)] σ (some (.int (bI (c_inDb σ X n j)))) σ := by
  show PW _ _ _ _ _ _ _ _
  obtain ⟨p1, p2, p3, p4, p5, p6, p7, p8, p9⟩ := hT.at hj
  refine pw_aload_n dX6_isInDoubt_0 rfl ?_
  refine pw_cV0 (d1 := d - 1) (a1 := 0) (a2 := al) dX6_isInDoubt_1 mtX9_isThere ivX9_isThere mlX6_29 (Nat.le_of_ble_eq_true rfl) (Nat.le_of_ble_eq_true rfl) (by omega) (by omega) p1 rfl rfl (t_isThere p1 p3 (by rw [p8]; exact p9)) ?_
  rintro r_ τ_ ⟨hr_, ht_⟩; subst r_; subst τ_
  refine pw_if_ne (tgt := 9) dX6_isInDoubt_4 (by decide) (fun h4 => ?_) (fun h4 => ?_)
  · refine pw_aload_n dX6_isInDoubt_9 rfl ?_
    refine pw_aload_n dX6_isInDoubt_10 rfl ?_
    refine pw_getI dX6_isInDoubt_11 flX6_35 rfl p1 ?_
    refine pw_cV1 (d1 := d - 1) (a1 := 0) (a2 := al) dX6_isInDoubt_14 mtX6_findThere ivX6_findThere mlX6_32 (Nat.le_of_ble_eq_true rfl) (Nat.le_of_ble_eq_true rfl) (by omega) (by omega) (hS.at rfl rfl rfl) rfl rfl (t_findThere (by omega) hS hT _) ?_
    rintro r_ τ_ ⟨hr_, ht_⟩; subst r_; subst τ_
    refine pw_ifnonnull (tgt := 22) dX6_isInDoubt_17 (by decide) (fun h17 => ?_) (fun h17 => ?_)
    · refine pw_iconst (v := 0) dX6_isInDoubt_22 (by decide) ?_
      refine pw_istore_n dX6_isInDoubt_23 (Nat.le_of_ble_eq_true rfl) (Nat.le_of_ble_eq_true rfl) rfl ?_
      have h1 : (hX X j).2.2.2.2 = 1 := by rw [p8] at h4; exact p9.resolve_left h4
      have hh := t_doubt_lp (d := d) (al := al) hd hS hT hj n 0 (.retAddr 0) (Or.inl rfl) (by omega)
      refine PW.post ?_ hh
      rintro r τ ⟨e1, e2⟩
      refine ⟨?_, e2⟩
      rw [e1]
      congr 2
      exact bI_c ⟨fun z => ⟨h1, Or.inr z⟩, fun z => z.2.resolve_left (fun y => y (c_ft_pos h17))⟩
    · refine pw_iconst (v := 1) dX6_isInDoubt_20 (by decide) ?_
      refine pw_iret dX6_isInDoubt_21 rfl (by first | rfl | exact bI_nar) ?_
      have hp : c_inDb σ X n j := ⟨by rw [← p8]; exact (p8 ▸ p9 : _ ∨ _).resolve_left h4, Or.inl (c_ft_z hT h17)⟩
      exact ⟨by rw [bI_t hp], rfl⟩
  · refine pw_iconst (v := 0) dX6_isInDoubt_7 (by decide) ?_
    refine pw_iret dX6_isInDoubt_8 rfl (by first | rfl | exact bI_nar) ?_
    exact ⟨by rw [bI_f (fun z => by have z1 := z.1; rw [← p8, h4] at z1; exact absurd z1 (by decide))], rfl⟩
