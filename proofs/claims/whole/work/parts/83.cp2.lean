/-! ===== the class: terms and comparisons ===== -/
theorem tk_le (c : Nat → Nat) (L i : Nat) : tk c L i ≤ 23 := by
  rcases nx_rng (c := c) (ps_le c L i) with h | h
  · show (nx c L (ps c L i)).1 ≤ 23
    rw [h]; exact (show 22 ≤ 23 by decide)
  · exact h.2.1
theorem t_take_ok {d al L k r i : Nat} {σ : pm_S} {c : Nat → Nat} {S : List stp} (hd : 3 ≤ d) (h : rdC σ c L k r) (ho : OKs σ c L k r i S) {w : Nat} (hw : w < 22) : PM d al MX5_take [.ref 29, .int (nI w)] σ (fun x τ => x = none ∧ rdS σ τ r ∧ (if tk c L i = w then OKs τ c L k r (i + 1) S else BDs τ c L r (1, i))) := by
  have hS := h.1
  have ht := tk_le c L i
  obtain ⟨o1, o2, o3, o4, o5, o6, o7, o8⟩ := id ho
  have e : nI (tk c L i) = nI w ↔ tk c L i = w := nI_eq (by omega) (by omega)
  show PW _ _ _ _ _ _ _ _
  by_cases hz : tk c L i = w
  · have hne : tk c L i ≠ 22 := by omega
    refine pw_aload_n dX5_take_0 rfl ?_
    refine pw_getI dX5_take_1 flX5_46 rfl (hS.at rfl rfl rfl) ?_
    rw [o4]
    refine pw_iload_n dX5_take_4 rfl ?_
    refine pw_icmp_eq (tgt := 13) dX5_take_5 (by decide) (fun h5 => ?_) (fun h5 => ?_)
    · refine pw_aload_n dX5_take_13 rfl ?_
      refine pw_cV0 (d1 := d - 1) (a1 := 0) (a2 := al) dX5_take_14 mtX5_advance ivX5_advance mlX5_49 (Nat.le_of_ble_eq_true rfl) (Nat.le_of_ble_eq_true rfl) (by omega) (by omega) (hS.at rfl rfl rfl) rfl rfl (t_adv_ok (by omega) h ho hne) ?_
      rintro r_ τ1 ⟨hr_, hs1, ho1⟩; subst r_
      refine pw_vret dX5_take_17 rfl ?_
      exact ⟨rfl, hs1, by rw [if_pos hz]; exact ho1⟩
    · exact absurd (e.mpr hz) h5
  · skip
    refine pw_aload_n dX5_take_0 rfl ?_
    refine pw_getI dX5_take_1 flX5_46 rfl (hS.at rfl rfl rfl) ?_
    rw [o4]
    refine pw_iload_n dX5_take_4 rfl ?_
    refine pw_icmp_eq (tgt := 13) dX5_take_5 (by decide) (fun h5 => ?_) (fun h5 => ?_)
    · exact absurd (e.mp h5) hz
    · refine pw_aload_n dX5_take_8 rfl ?_
      refine pw_iconst (v := 1) dX5_take_9 (by decide) ?_
      refine pw_cV1 (d1 := d - 1) (a1 := 0) (a2 := al) dX5_take_10 mtX5_refuse ivX5_refuse mlX5_62 (Nat.le_of_ble_eq_true rfl) (Nat.le_of_ble_eq_true rfl) (by omega) (by omega) (hS.at rfl rfl rfl) rfl rfl (t_ref_ok (w := 1) (by omega) h ho (Or.inl rfl)) ?_
      rintro r_ τ1 ⟨hr_, hs1, hb1⟩; subst r_
      have hS1 := (h.of hs1).1
      refine pw_aload_n dX5_take_13 rfl ?_
      refine pw_cV0 (d1 := d - 1) (a1 := 0) (a2 := al) dX5_take_14 mtX5_advance ivX5_advance mlX5_49 (Nat.le_of_ble_eq_true rfl) (Nat.le_of_ble_eq_true rfl) (by omega) (by omega) (hS1.at rfl rfl rfl) rfl rfl (t_adv_bad hS1 hb1) ?_
      rintro r_ τ_ ⟨hr_, ht_⟩; subst r_; subst τ_
      refine pw_vret dX5_take_17 rfl ?_
      exact ⟨rfl, hs1, by rw [if_neg hz]; exact hb1⟩
theorem t_take_bad {d al L k r : Nat} {σ : pm_S} {c : Nat → Nat} {e : Nat × Nat} (hd : 3 ≤ d) (h : rdC σ c L k r) (hb : BDs σ c L r e) {w : Nat} (hw : w < 22) : PE d al MX5_take [.ref 29, .int (nI w)] σ none σ := by
  have hS := h.1
  obtain ⟨b1, b2, b3, b4, b5⟩ := id hb
  have hne : ¬ (23 : Int32) = nI w := fun z => by have := nI_inj (a := 23) (by decide) (by omega) z; omega
  show PW _ _ _ _ _ _ _ _
  refine pw_aload_n dX5_take_0 rfl ?_
  refine pw_getI dX5_take_1 flX5_46 rfl (hS.at rfl rfl rfl) ?_
  rw [b4]
  refine pw_iload_n dX5_take_4 rfl ?_
  refine pw_icmp_eq (tgt := 13) dX5_take_5 (by decide) (fun h5 => ?_) (fun h5 => ?_)
  · exact absurd h5 hne
  · refine pw_aload_n dX5_take_8 rfl ?_
    refine pw_iconst (v := 1) dX5_take_9 (by decide) ?_
    refine pw_cV1 (d1 := d - 1) (a1 := 0) (a2 := al) dX5_take_10 mtX5_refuse ivX5_refuse mlX5_62 (Nat.le_of_ble_eq_true rfl) (Nat.le_of_ble_eq_true rfl) (by omega) (by omega) (hS.at rfl rfl rfl) rfl rfl (t_ref_bad hS hb _) ?_
    rintro r_ τ_ ⟨hr_, ht_⟩; subst r_; subst τ_
    refine pw_aload_n dX5_take_13 rfl ?_
    refine pw_cV0 (d1 := d - 1) (a1 := 0) (a2 := al) dX5_take_14 mtX5_advance ivX5_advance mlX5_49 (Nat.le_of_ble_eq_true rfl) (Nat.le_of_ble_eq_true rfl) (by omega) (by omega) (hS.at rfl rfl rfl) rfl rfl (t_adv_bad hS hb) ?_
    rintro r_ τ_ ⟨hr_, ht_⟩; subst r_; subst τ_
    refine pw_vret dX5_take_17 rfl ?_
    exact ⟨rfl, rfl⟩
theorem t_rt1 {d al L k r i : Nat} {σ : pm_S} {c : Nat → Nat} {S : List stp} {x : Int32} {Q : Option Value → pm_S → Prop} (hd : 2 ≤ d) (h : rdC σ c L k r) (ho : OKs σ c L k r i S) (hi : tk c L i ≠ 22) (kk : ∀ τ, rdS σ τ r → OKs τ c L k r (i + 1) S → Q (some (.int x)) τ) : PW d al MX5_readTerm 136 [.ref 29, .int x] [] σ Q := by
  have hS := h.1
  refine pw_aload_n dX5_readTerm_136 rfl ?_
  refine pw_cV0 (d1 := d - 1) (a1 := 0) (a2 := al) dX5_readTerm_137 mtX5_advance ivX5_advance mlX5_49 (Nat.le_of_ble_eq_true rfl) (Nat.le_of_ble_eq_true rfl) (by omega) (by omega) (hS.at rfl rfl rfl) rfl rfl (t_adv_ok (by omega) h ho hi) ?_
  rintro r_ τ1 ⟨hr_, hs1, ho1⟩; subst r_
  refine pw_iload_n dX5_readTerm_140 rfl ?_
  refine pw_iret dX5_readTerm_141 rfl rfl ?_
  exact kk τ1 hs1 ho1
theorem t_rt2 {d al L r : Nat} {σ : pm_S} {c : Nat → Nat} {e : Nat × Nat} {x : Int32} {Q : Option Value → pm_S → Prop} (hd : 2 ≤ d) (hS : pm_fix σ) (hb : BDs σ c L r e) (kk : Q (some (.int x)) σ) : PW d al MX5_readTerm 136 [.ref 29, .int x] [] σ Q := by
  refine pw_aload_n dX5_readTerm_136 rfl ?_
  refine pw_cV0 (d1 := d - 1) (a1 := 0) (a2 := al) dX5_readTerm_137 mtX5_advance ivX5_advance mlX5_49 (Nat.le_of_ble_eq_true rfl) (Nat.le_of_ble_eq_true rfl) (by omega) (by omega) (hS.at rfl rfl rfl) rfl rfl (t_adv_bad hS hb) ?_
  rintro r_ τ_ ⟨hr_, ht_⟩; subst r_; subst τ_
  refine pw_iload_n dX5_readTerm_140 rfl ?_
  refine pw_iret dX5_readTerm_141 rfl rfl ?_
  exact kk
/-- what reading a term comes to -/
def TRs (σ τ : pm_S) (c : Nat → Nat) (L k r : Nat) (S : List stp) (x : Int32) (R : Except (Nat × Nat) (Nat × Nat)) : Prop := rdS σ τ r ∧ match R with
  | .ok (j, y) => x = nI y ∧ OKs τ c L k r j S
  | .error e => BDs τ c L r e
theorem t_term_ok {d al L k r i : Nat} {σ : pm_S} {c : Nat → Nat} {S : List stp} (hd : 4 ≤ d) (h : rdC σ c L k r) (ho : OKs σ c L k r i S) : PM d al MX5_readTerm [.ref 29] σ (fun v τ => ∃ x, v = some (.int x) ∧ TRs σ τ c L k r S x (pT (tk c L) (vN c L) i)) := by
  have hS := h.1
  have ht := tk_le c L i
  have hk6 : k ≤ 600 := h.2.2.1
  obtain ⟨o1, o2, o3, o4, o5, o6, o7, o8⟩ := id ho
  have e : ∀ w : Nat, w < 100 → (nI (tk c L i) = nI w ↔ tk c L i = w) := fun w hw => nI_eq (by omega) (by omega)
  have e21 : nI (tk c L i) = 21 ↔ tk c L i = 21 := e 21 (by decide)
  have e4 : nI (tk c L i) = 4 ↔ tk c L i = 4 := e 4 (by decide)
  have e5 : nI (tk c L i) = 5 ↔ tk c L i = 5 := e 5 (by decide)
  have l6 : nI (tk c L i) < 6 ↔ tk c L i < 6 := i_lt' (by omega) (by decide)
  have l9 : (9 : Int32) < nI (tk c L i) ↔ 9 < tk c L i := i_lt' (by decide) (by omega)
  show PW _ _ _ _ _ _ _ _
  unfold pT
  by_cases z1 : tk c L i = 21
  · rw [if_pos z1]
    have hne : tk c L i ≠ 22 := by omega
    have hv := (vN_ok z1).1
    refine pw_iconst (v := 0) dX5_readTerm_0 (by decide) ?_
    refine pw_istore_n dX5_readTerm_1 (Nat.le_of_ble_eq_true rfl) (Nat.le_of_ble_eq_true rfl) rfl ?_
    refine pw_aload_n dX5_readTerm_2 rfl ?_
    refine pw_getI dX5_readTerm_3 flX5_46 rfl (hS.at rfl rfl rfl) ?_
    rw [o4]
    refine pw_bipush (v := 21) dX5_readTerm_6 (by decide) ?_
    refine pw_icmp_ne (tgt := 26) dX5_readTerm_8 (by decide) (fun h8 => ?_) (fun h8 => ?_)
    · exact absurd (e21.mpr z1) h8
    · refine pw_aload_n dX5_readTerm_11 rfl ?_
      refine pw_getF (v := 30) dX5_readTerm_12 flX5_14 rfl (hS.at rfl rfl rfl) (hS.rf (29, 0, 30) rfl (by decide)) ?_
      refine pw_aload_n dX5_readTerm_15 rfl ?_
      refine pw_getI dX5_readTerm_16 flX5_39 rfl (hS.at rfl rfl rfl) ?_
      rw [o3]
      refine pw_cV1 (d1 := d - 1) (a1 := 0) (a2 := al) dX5_readTerm_19 mtX10_valueOf ivX10_valueOf mlX5_84 (Nat.le_of_ble_eq_true rfl) (Nat.le_of_ble_eq_true rfl) (by omega) (by omega) (hS.at rfl rfl rfl) rfl rfl (t_kval h (h.lt hne)) ?_
      rintro r_ τ_ ⟨hr_, ht_⟩; subst r_; subst τ_
      rw [hv]
      refine pw_istore_n dX5_readTerm_22 (Nat.le_of_ble_eq_true rfl) (Nat.le_of_ble_eq_true rfl) rfl ?_
      refine pw_goto (tgt := 136) dX5_readTerm_23 (by decide) ?_
      exact t_rt1 (by omega) h ho hne (fun τ h1 h2 => ⟨_, rfl, h1, rfl, h2⟩)
  · rw [if_neg z1]
    by_cases z2 : tk c L i = 4
    · rw [if_pos z2]
      refine pw_iconst (v := 0) dX5_readTerm_0 (by decide) ?_
      refine pw_istore_n dX5_readTerm_1 (Nat.le_of_ble_eq_true rfl) (Nat.le_of_ble_eq_true rfl) rfl ?_
      refine pw_aload_n dX5_readTerm_2 rfl ?_
      refine pw_getI dX5_readTerm_3 flX5_46 rfl (hS.at rfl rfl rfl) ?_
      rw [o4]
      refine pw_bipush (v := 21) dX5_readTerm_6 (by decide) ?_
      refine pw_icmp_ne (tgt := 26) dX5_readTerm_8 (by decide) (fun h8 => ?_) (fun h8 => ?_)
      · refine pw_aload_n dX5_readTerm_26 rfl ?_
        refine pw_getI dX5_readTerm_27 flX5_46 rfl (hS.at rfl rfl rfl) ?_
        rw [o4]
        refine pw_iconst (v := 4) dX5_readTerm_30 (by decide) ?_
        refine pw_icmp_ne (tgt := 41) dX5_readTerm_31 (by decide) (fun h31 => ?_) (fun h31 => ?_)
        · exact absurd (e4.mpr z2) h31
        · refine pw_sipush (v := 10000) dX5_readTerm_34 (by decide) ?_
          refine pw_istore_n dX5_readTerm_37 (Nat.le_of_ble_eq_true rfl) (Nat.le_of_ble_eq_true rfl) rfl ?_
          refine pw_goto (tgt := 136) dX5_readTerm_38 (by decide) ?_
          exact t_rt1 (by omega) h ho (by omega) (fun τ h1 h2 => ⟨_, rfl, h1, rfl, h2⟩)
      · exact absurd (e21.mp h8) z1
    · rw [if_neg z2]
      by_cases z3 : tk c L i = 5
      · rw [if_pos z3]
        refine pw_iconst (v := 0) dX5_readTerm_0 (by decide) ?_
        refine pw_istore_n dX5_readTerm_1 (Nat.le_of_ble_eq_true rfl) (Nat.le_of_ble_eq_true rfl) rfl ?_
        refine pw_aload_n dX5_readTerm_2 rfl ?_
        refine pw_getI dX5_readTerm_3 flX5_46 rfl (hS.at rfl rfl rfl) ?_
        rw [o4]
        refine pw_bipush (v := 21) dX5_readTerm_6 (by decide) ?_
        refine pw_icmp_ne (tgt := 26) dX5_readTerm_8 (by decide) (fun h8 => ?_) (fun h8 => ?_)
        · refine pw_aload_n dX5_readTerm_26 rfl ?_
          refine pw_getI dX5_readTerm_27 flX5_46 rfl (hS.at rfl rfl rfl) ?_
          rw [o4]
          refine pw_iconst (v := 4) dX5_readTerm_30 (by decide) ?_
          refine pw_icmp_ne (tgt := 41) dX5_readTerm_31 (by decide) (fun h31 => ?_) (fun h31 => ?_)
          · refine pw_aload_n dX5_readTerm_41 rfl ?_
            refine pw_getI dX5_readTerm_42 flX5_46 rfl (hS.at rfl rfl rfl) ?_
            rw [o4]
            refine pw_iconst (v := 5) dX5_readTerm_45 (by decide) ?_
            refine pw_icmp_ne (tgt := 56) dX5_readTerm_46 (by decide) (fun h46 => ?_) (fun h46 => ?_)
            · exact absurd (e5.mpr z3) h46
            · refine pw_sipush (v := 10001) dX5_readTerm_49 (by decide) ?_
              refine pw_istore_n dX5_readTerm_52 (Nat.le_of_ble_eq_true rfl) (Nat.le_of_ble_eq_true rfl) rfl ?_
              refine pw_goto (tgt := 136) dX5_readTerm_53 (by decide) ?_
              exact t_rt1 (by omega) h ho (by omega) (fun τ h1 h2 => ⟨_, rfl, h1, rfl, h2⟩)
          · exact absurd (e4.mp h31) z2
        · exact absurd (e21.mp h8) z1
      · rw [if_neg z3]
        by_cases z4 : 6 ≤ tk c L i ∧ tk c L i ≤ 9
        · rw [if_pos z4]
          have ht1 := tk_le c L (i + 1)
          have m10 : nI (tk c L (i + 1)) < 10 ↔ tk c L (i + 1) < 10 := i_lt' (by omega) (by decide)
          have m14 : (14 : Int32) < nI (tk c L (i + 1)) ↔ 14 < tk c L (i + 1) := i_lt' (by decide) (by omega)
          have ec : (10002 : Int32) + (nI (tk c L i) - 6) * 5 = nI (10002 + (tk c L i - 6) * 5) := by
            rw [show (6 : Int32) = nI 6 from rfl, pk_sub z4.1, show (5 : Int32) = nI 5 from rfl, pk_mul, show (10002 : Int32) = nI 10002 from rfl, nI_add]
          by_cases z5 : 10 ≤ tk c L (i + 1) ∧ tk c L (i + 1) ≤ 14
          · rw [if_pos z5]
            have ed : nI (10002 + (tk c L i - 6) * 5) + (nI (tk c L (i + 1)) - 10) = nI (10002 + (tk c L i - 6) * 5 + (tk c L (i + 1) - 10)) := by
              rw [show (10 : Int32) = nI 10 from rfl, pk_sub z5.1, nI_add]
            refine pw_iconst (v := 0) dX5_readTerm_0 (by decide) ?_
            refine pw_istore_n dX5_readTerm_1 (Nat.le_of_ble_eq_true rfl) (Nat.le_of_ble_eq_true rfl) rfl ?_
            refine pw_aload_n dX5_readTerm_2 rfl ?_
            refine pw_getI dX5_readTerm_3 flX5_46 rfl (hS.at rfl rfl rfl) ?_
            rw [o4]
            refine pw_bipush (v := 21) dX5_readTerm_6 (by decide) ?_
            refine pw_icmp_ne (tgt := 26) dX5_readTerm_8 (by decide) (fun h8 => ?_) (fun h8 => ?_)
            · refine pw_aload_n dX5_readTerm_26 rfl ?_
              refine pw_getI dX5_readTerm_27 flX5_46 rfl (hS.at rfl rfl rfl) ?_
              rw [o4]
              refine pw_iconst (v := 4) dX5_readTerm_30 (by decide) ?_
              refine pw_icmp_ne (tgt := 41) dX5_readTerm_31 (by decide) (fun h31 => ?_) (fun h31 => ?_)
              · refine pw_aload_n dX5_readTerm_41 rfl ?_
                refine pw_getI dX5_readTerm_42 flX5_46 rfl (hS.at rfl rfl rfl) ?_
                rw [o4]
                refine pw_iconst (v := 5) dX5_readTerm_45 (by decide) ?_
                refine pw_icmp_ne (tgt := 56) dX5_readTerm_46 (by decide) (fun h46 => ?_) (fun h46 => ?_)
                · refine pw_aload_n dX5_readTerm_56 rfl ?_
                  refine pw_getI dX5_readTerm_57 flX5_46 rfl (hS.at rfl rfl rfl) ?_
                  rw [o4]
                  refine pw_bipush (v := 6) dX5_readTerm_60 (by decide) ?_
                  refine pw_icmp_lt (tgt := 131) dX5_readTerm_62 (by decide) (fun h62 => ?_) (fun h62 => ?_)
                  · exact absurd (l6.mp h62) (by omega)
                  · refine pw_aload_n dX5_readTerm_65 rfl ?_
                    refine pw_getI dX5_readTerm_66 flX5_46 rfl (hS.at rfl rfl rfl) ?_
                    rw [o4]
                    refine pw_bipush (v := 9) dX5_readTerm_69 (by decide) ?_
                    refine pw_icmp_gt (tgt := 131) dX5_readTerm_71 (by decide) (fun h71 => ?_) (fun h71 => ?_)
                    · exact absurd (l9.mp h71) (by omega)
                    · refine pw_sipush (v := 10002) dX5_readTerm_74 (by decide) ?_
                      refine pw_aload_n dX5_readTerm_77 rfl ?_
                      refine pw_getI dX5_readTerm_78 flX5_46 rfl (hS.at rfl rfl rfl) ?_
                      rw [o4]
                      refine pw_bipush (v := 6) dX5_readTerm_81 (by decide) ?_
                      refine pw_isub dX5_readTerm_83 ?_
                      refine pw_iconst (v := 5) dX5_readTerm_84 (by decide) ?_
                      refine pw_imul dX5_readTerm_85 ?_
                      refine pw_iadd dX5_readTerm_86 ?_
                      rw [ec]
                      refine pw_istore_n dX5_readTerm_87 (Nat.le_of_ble_eq_true rfl) (Nat.le_of_ble_eq_true rfl) rfl ?_
                      refine pw_aload_n dX5_readTerm_88 rfl ?_
                      refine pw_cV0 (d1 := d - 1) (a1 := 0) (a2 := al) dX5_readTerm_89 mtX5_advance ivX5_advance mlX5_49 (Nat.le_of_ble_eq_true rfl) (Nat.le_of_ble_eq_true rfl) (by omega) (by omega) (hS.at rfl rfl rfl) rfl rfl (t_adv_ok (by omega) h ho (by omega)) ?_
                      rintro r_ τ1 ⟨hr_, hs1, ho1⟩; subst r_
                      have h1 := h.of hs1
                      have hS := h1.1
                      have p4 := ho1.2.2.2.1
                      refine pw_aload_n dX5_readTerm_92 rfl ?_
                      refine pw_getI dX5_readTerm_93 flX5_46 rfl (hS.at rfl rfl rfl) ?_
                      rw [p4]
                      refine pw_bipush (v := 10) dX5_readTerm_96 (by decide) ?_
                      refine pw_icmp_lt (tgt := 123) dX5_readTerm_98 (by decide) (fun h98 => ?_) (fun h98 => ?_)
                      · exact absurd (m10.mp h98) (by omega)
                      · refine pw_aload_n dX5_readTerm_101 rfl ?_
                        refine pw_getI dX5_readTerm_102 flX5_46 rfl (hS.at rfl rfl rfl) ?_
                        rw [p4]
                        refine pw_bipush (v := 14) dX5_readTerm_105 (by decide) ?_
                        refine pw_icmp_gt (tgt := 123) dX5_readTerm_107 (by decide) (fun h107 => ?_) (fun h107 => ?_)
                        · exact absurd (m14.mp h107) (by omega)
                        · refine pw_iload_n dX5_readTerm_110 rfl ?_
                          refine pw_aload_n dX5_readTerm_111 rfl ?_
                          refine pw_getI dX5_readTerm_112 flX5_46 rfl (hS.at rfl rfl rfl) ?_
                          rw [p4]
                          refine pw_bipush (v := 10) dX5_readTerm_115 (by decide) ?_
                          refine pw_isub dX5_readTerm_117 ?_
                          refine pw_iadd dX5_readTerm_118 ?_
                          rw [ed]
                          refine pw_istore_n dX5_readTerm_119 (Nat.le_of_ble_eq_true rfl) (Nat.le_of_ble_eq_true rfl) rfl ?_
                          refine pw_goto (tgt := 136) dX5_readTerm_120 (by decide) ?_
                          exact t_rt1 (by omega) h1 ho1 (by omega) (fun τ q1 q2 => ⟨_, rfl, hs1.tr q1, rfl, q2⟩)
                · exact absurd (e5.mp h46) z3
              · exact absurd (e4.mp h31) z2
            · exact absurd (e21.mp h8) z1
          · rw [if_neg z5]
            refine pw_iconst (v := 0) dX5_readTerm_0 (by decide) ?_
            refine pw_istore_n dX5_readTerm_1 (Nat.le_of_ble_eq_true rfl) (Nat.le_of_ble_eq_true rfl) rfl ?_
            refine pw_aload_n dX5_readTerm_2 rfl ?_
            refine pw_getI dX5_readTerm_3 flX5_46 rfl (hS.at rfl rfl rfl) ?_
            rw [o4]
            refine pw_bipush (v := 21) dX5_readTerm_6 (by decide) ?_
            refine pw_icmp_ne (tgt := 26) dX5_readTerm_8 (by decide) (fun h8 => ?_) (fun h8 => ?_)
            · refine pw_aload_n dX5_readTerm_26 rfl ?_
              refine pw_getI dX5_readTerm_27 flX5_46 rfl (hS.at rfl rfl rfl) ?_
              rw [o4]
              refine pw_iconst (v := 4) dX5_readTerm_30 (by decide) ?_
              refine pw_icmp_ne (tgt := 41) dX5_readTerm_31 (by decide) (fun h31 => ?_) (fun h31 => ?_)
              · refine pw_aload_n dX5_readTerm_41 rfl ?_
                refine pw_getI dX5_readTerm_42 flX5_46 rfl (hS.at rfl rfl rfl) ?_
                rw [o4]
                refine pw_iconst (v := 5) dX5_readTerm_45 (by decide) ?_
                refine pw_icmp_ne (tgt := 56) dX5_readTerm_46 (by decide) (fun h46 => ?_) (fun h46 => ?_)
                · refine pw_aload_n dX5_readTerm_56 rfl ?_
                  refine pw_getI dX5_readTerm_57 flX5_46 rfl (hS.at rfl rfl rfl) ?_
                  rw [o4]
                  refine pw_bipush (v := 6) dX5_readTerm_60 (by decide) ?_
                  refine pw_icmp_lt (tgt := 131) dX5_readTerm_62 (by decide) (fun h62 => ?_) (fun h62 => ?_)
                  · exact absurd (l6.mp h62) (by omega)
                  · refine pw_aload_n dX5_readTerm_65 rfl ?_
                    refine pw_getI dX5_readTerm_66 flX5_46 rfl (hS.at rfl rfl rfl) ?_
                    rw [o4]
                    refine pw_bipush (v := 9) dX5_readTerm_69 (by decide) ?_
                    refine pw_icmp_gt (tgt := 131) dX5_readTerm_71 (by decide) (fun h71 => ?_) (fun h71 => ?_)
                    · exact absurd (l9.mp h71) (by omega)
                    · refine pw_sipush (v := 10002) dX5_readTerm_74 (by decide) ?_
                      refine pw_aload_n dX5_readTerm_77 rfl ?_
                      refine pw_getI dX5_readTerm_78 flX5_46 rfl (hS.at rfl rfl rfl) ?_
                      rw [o4]
                      refine pw_bipush (v := 6) dX5_readTerm_81 (by decide) ?_
                      refine pw_isub dX5_readTerm_83 ?_
                      refine pw_iconst (v := 5) dX5_readTerm_84 (by decide) ?_
                      refine pw_imul dX5_readTerm_85 ?_
                      refine pw_iadd dX5_readTerm_86 ?_
                      refine pw_istore_n dX5_readTerm_87 (Nat.le_of_ble_eq_true rfl) (Nat.le_of_ble_eq_true rfl) rfl ?_
                      refine pw_aload_n dX5_readTerm_88 rfl ?_
                      refine pw_cV0 (d1 := d - 1) (a1 := 0) (a2 := al) dX5_readTerm_89 mtX5_advance ivX5_advance mlX5_49 (Nat.le_of_ble_eq_true rfl) (Nat.le_of_ble_eq_true rfl) (by omega) (by omega) (hS.at rfl rfl rfl) rfl rfl (t_adv_ok (by omega) h ho (by omega)) ?_
                      rintro r_ τ1 ⟨hr_, hs1, ho1⟩; subst r_
                      have h1 := h.of hs1
                      have hS := h1.1
                      have p4 := ho1.2.2.2.1
                      refine pw_aload_n dX5_readTerm_92 rfl ?_
                      refine pw_getI dX5_readTerm_93 flX5_46 rfl (hS.at rfl rfl rfl) ?_
                      rw [p4]
                      refine pw_bipush (v := 10) dX5_readTerm_96 (by decide) ?_
                      refine pw_icmp_lt (tgt := 123) dX5_readTerm_98 (by decide) (fun h98 => ?_) (fun h98 => ?_)
                      · refine pw_aload_n dX5_readTerm_123 rfl ?_
                        refine pw_iconst (v := 1) dX5_readTerm_124 (by decide) ?_
                        refine pw_cV1 (d1 := d - 1) (a1 := 0) (a2 := al) dX5_readTerm_125 mtX5_refuse ivX5_refuse mlX5_62 (Nat.le_of_ble_eq_true rfl) (Nat.le_of_ble_eq_true rfl) (by omega) (by omega) (hS.at rfl rfl rfl) rfl rfl (t_ref_ok (w := 1) (by omega) h1 ho1 (Or.inl rfl)) ?_
                        rintro r_ τ2 ⟨hr_, hs2, hb2⟩; subst r_
                        refine pw_goto (tgt := 136) dX5_readTerm_128 (by decide) ?_
                        exact t_rt2 (by omega) (h1.of hs2).1 hb2 ⟨_, rfl, hs1.tr hs2, hb2⟩
                      · refine pw_aload_n dX5_readTerm_101 rfl ?_
                        refine pw_getI dX5_readTerm_102 flX5_46 rfl (hS.at rfl rfl rfl) ?_
                        rw [p4]
                        refine pw_bipush (v := 14) dX5_readTerm_105 (by decide) ?_
                        refine pw_icmp_gt (tgt := 123) dX5_readTerm_107 (by decide) (fun h107 => ?_) (fun h107 => ?_)
                        · refine pw_aload_n dX5_readTerm_123 rfl ?_
                          refine pw_iconst (v := 1) dX5_readTerm_124 (by decide) ?_
                          refine pw_cV1 (d1 := d - 1) (a1 := 0) (a2 := al) dX5_readTerm_125 mtX5_refuse ivX5_refuse mlX5_62 (Nat.le_of_ble_eq_true rfl) (Nat.le_of_ble_eq_true rfl) (by omega) (by omega) (hS.at rfl rfl rfl) rfl rfl (t_ref_ok (w := 1) (by omega) h1 ho1 (Or.inl rfl)) ?_
                          rintro r_ τ2 ⟨hr_, hs2, hb2⟩; subst r_
                          refine pw_goto (tgt := 136) dX5_readTerm_128 (by decide) ?_
                          exact t_rt2 (by omega) (h1.of hs2).1 hb2 ⟨_, rfl, hs1.tr hs2, hb2⟩
                        · exact absurd (show 10 ≤ tk c L (i + 1) ∧ tk c L (i + 1) ≤ 14 from ⟨Nat.le_of_not_lt (fun z => h98 (m10.mpr z)), Nat.le_of_not_lt (fun z => h107 (m14.mpr z))⟩) z5
                · exact absurd (e5.mp h46) z3
              · exact absurd (e4.mp h31) z2
            · exact absurd (e21.mp h8) z1
        · rw [if_neg z4]
          refine pw_iconst (v := 0) dX5_readTerm_0 (by decide) ?_
          refine pw_istore_n dX5_readTerm_1 (Nat.le_of_ble_eq_true rfl) (Nat.le_of_ble_eq_true rfl) rfl ?_
          refine pw_aload_n dX5_readTerm_2 rfl ?_
          refine pw_getI dX5_readTerm_3 flX5_46 rfl (hS.at rfl rfl rfl) ?_
          rw [o4]
          refine pw_bipush (v := 21) dX5_readTerm_6 (by decide) ?_
          refine pw_icmp_ne (tgt := 26) dX5_readTerm_8 (by decide) (fun h8 => ?_) (fun h8 => ?_)
          · refine pw_aload_n dX5_readTerm_26 rfl ?_
            refine pw_getI dX5_readTerm_27 flX5_46 rfl (hS.at rfl rfl rfl) ?_
            rw [o4]
            refine pw_iconst (v := 4) dX5_readTerm_30 (by decide) ?_
            refine pw_icmp_ne (tgt := 41) dX5_readTerm_31 (by decide) (fun h31 => ?_) (fun h31 => ?_)
            · refine pw_aload_n dX5_readTerm_41 rfl ?_
              refine pw_getI dX5_readTerm_42 flX5_46 rfl (hS.at rfl rfl rfl) ?_
              rw [o4]
              refine pw_iconst (v := 5) dX5_readTerm_45 (by decide) ?_
              refine pw_icmp_ne (tgt := 56) dX5_readTerm_46 (by decide) (fun h46 => ?_) (fun h46 => ?_)
              · refine pw_aload_n dX5_readTerm_56 rfl ?_
                refine pw_getI dX5_readTerm_57 flX5_46 rfl (hS.at rfl rfl rfl) ?_
                rw [o4]
                refine pw_bipush (v := 6) dX5_readTerm_60 (by decide) ?_
                refine pw_icmp_lt (tgt := 131) dX5_readTerm_62 (by decide) (fun h62 => ?_) (fun h62 => ?_)
                · refine pw_aload_n dX5_readTerm_131 rfl ?_
                  refine pw_iconst (v := 1) dX5_readTerm_132 (by decide) ?_
                  refine pw_cV1 (d1 := d - 1) (a1 := 0) (a2 := al) dX5_readTerm_133 mtX5_refuse ivX5_refuse mlX5_62 (Nat.le_of_ble_eq_true rfl) (Nat.le_of_ble_eq_true rfl) (by omega) (by omega) (hS.at rfl rfl rfl) rfl rfl (t_ref_ok (w := 1) (by omega) h ho (Or.inl rfl)) ?_
                  rintro r_ τ2 ⟨hr_, hs2, hb2⟩; subst r_
                  exact t_rt2 (by omega) (h.of hs2).1 hb2 ⟨_, rfl, hs2, hb2⟩
                · refine pw_aload_n dX5_readTerm_65 rfl ?_
                  refine pw_getI dX5_readTerm_66 flX5_46 rfl (hS.at rfl rfl rfl) ?_
                  rw [o4]
                  refine pw_bipush (v := 9) dX5_readTerm_69 (by decide) ?_
                  refine pw_icmp_gt (tgt := 131) dX5_readTerm_71 (by decide) (fun h71 => ?_) (fun h71 => ?_)
                  · refine pw_aload_n dX5_readTerm_131 rfl ?_
                    refine pw_iconst (v := 1) dX5_readTerm_132 (by decide) ?_
                    refine pw_cV1 (d1 := d - 1) (a1 := 0) (a2 := al) dX5_readTerm_133 mtX5_refuse ivX5_refuse mlX5_62 (Nat.le_of_ble_eq_true rfl) (Nat.le_of_ble_eq_true rfl) (by omega) (by omega) (hS.at rfl rfl rfl) rfl rfl (t_ref_ok (w := 1) (by omega) h ho (Or.inl rfl)) ?_
                    rintro r_ τ2 ⟨hr_, hs2, hb2⟩; subst r_
                    exact t_rt2 (by omega) (h.of hs2).1 hb2 ⟨_, rfl, hs2, hb2⟩
                  · exact absurd (show 6 ≤ tk c L i ∧ tk c L i ≤ 9 from ⟨Nat.le_of_not_lt (fun z => h62 (l6.mpr z)), Nat.le_of_not_lt (fun z => h71 (l9.mpr z))⟩) z4
              · exact absurd (e5.mp h46) z3
            · exact absurd (e4.mp h31) z2
          · exact absurd (e21.mp h8) z1
theorem t_term_bad {d al L k r : Nat} {σ : pm_S} {c : Nat → Nat} {e : Nat × Nat} (hd : 4 ≤ d) (h : rdC σ c L k r) (hb : BDs σ c L r e) : PM d al MX5_readTerm [.ref 29] σ (fun v τ => ∃ x, v = some (.int x) ∧ τ = σ) := by
  have hS := h.1
  obtain ⟨b1, b2, b3, b4, b5⟩ := id hb
  show PW _ _ _ _ _ _ _ _
  refine pw_iconst (v := 0) dX5_readTerm_0 (by decide) ?_
  refine pw_istore_n dX5_readTerm_1 (Nat.le_of_ble_eq_true rfl) (Nat.le_of_ble_eq_true rfl) rfl ?_
  refine pw_aload_n dX5_readTerm_2 rfl ?_
  refine pw_getI dX5_readTerm_3 flX5_46 rfl (hS.at rfl rfl rfl) ?_
  rw [b4]
  refine pw_bipush (v := 21) dX5_readTerm_6 (by decide) ?_
  refine pw_icmp_ne (tgt := 26) dX5_readTerm_8 (by decide) (fun h8 => ?_) (fun h8 => ?_)
  · refine pw_aload_n dX5_readTerm_26 rfl ?_
    refine pw_getI dX5_readTerm_27 flX5_46 rfl (hS.at rfl rfl rfl) ?_
    rw [b4]
    refine pw_iconst (v := 4) dX5_readTerm_30 (by decide) ?_
    refine pw_icmp_ne (tgt := 41) dX5_readTerm_31 (by decide) (fun h31 => ?_) (fun h31 => ?_)
    · refine pw_aload_n dX5_readTerm_41 rfl ?_
      refine pw_getI dX5_readTerm_42 flX5_46 rfl (hS.at rfl rfl rfl) ?_
      rw [b4]
      refine pw_iconst (v := 5) dX5_readTerm_45 (by decide) ?_
      refine pw_icmp_ne (tgt := 56) dX5_readTerm_46 (by decide) (fun h46 => ?_) (fun h46 => ?_)
      · refine pw_aload_n dX5_readTerm_56 rfl ?_
        refine pw_getI dX5_readTerm_57 flX5_46 rfl (hS.at rfl rfl rfl) ?_
        rw [b4]
        refine pw_bipush (v := 6) dX5_readTerm_60 (by decide) ?_
        refine pw_icmp_lt (tgt := 131) dX5_readTerm_62 (by decide) (fun h62 => ?_) (fun h62 => ?_)
        · exact absurd h62 (by decide)
        · refine pw_aload_n dX5_readTerm_65 rfl ?_
          refine pw_getI dX5_readTerm_66 flX5_46 rfl (hS.at rfl rfl rfl) ?_
          rw [b4]
          refine pw_bipush (v := 9) dX5_readTerm_69 (by decide) ?_
          refine pw_icmp_gt (tgt := 131) dX5_readTerm_71 (by decide) (fun h71 => ?_) (fun h71 => ?_)
          · refine pw_aload_n dX5_readTerm_131 rfl ?_
            refine pw_iconst (v := 1) dX5_readTerm_132 (by decide) ?_
            refine pw_cV1 (d1 := d - 1) (a1 := 0) (a2 := al) dX5_readTerm_133 mtX5_refuse ivX5_refuse mlX5_62 (Nat.le_of_ble_eq_true rfl) (Nat.le_of_ble_eq_true rfl) (by omega) (by omega) (hS.at rfl rfl rfl) rfl rfl (t_ref_bad hS hb _) ?_
            rintro r_ τ_ ⟨hr_, ht_⟩; subst r_; subst τ_
            exact t_rt2 (by omega) hS hb ⟨_, rfl, rfl⟩
          · exact absurd (by decide) h71
      · exact absurd h46 (by decide)
    · exact absurd h31 (by decide)
  · exact absurd h8 (by decide)
section PPC
variable {t v : Nat → Nat}
theorem pP_e {i : Nat} {e : Nat × Nat} (h : pT t v i = .error e) : pP t v i = .error e := by unfold pP; rw [h]
theorem pP_n {i j l : Nat} (h : pT t v i = .ok (j, l)) (hz : ¬ (18 ≤ t j ∧ t j ≤ 20)) : pP t v i = .error (1, j) := by
  unfold pP; rw [h]
  exact if_neg hz
theorem pP_e2 {i j l : Nat} {e : Nat × Nat} (h : pT t v i = .ok (j, l)) (hz : 18 ≤ t j ∧ t j ≤ 20) (h2 : pT t v (j + 1) = .error e) : pP t v i = .error e := by
  unfold pP; rw [h]
  show (if 18 ≤ t j ∧ t j ≤ 20 then _ else _) = _
  rw [if_pos hz, h2]
theorem pP_o {i j l k r : Nat} (h : pT t v i = .ok (j, l)) (hz : 18 ≤ t j ∧ t j ≤ 20) (h2 : pT t v (j + 1) = .ok (k, r)) : pP t v i = .ok (k, [(t j, l, r)]) := by
  unfold pP; rw [h]
  show (if 18 ≤ t j ∧ t j ≤ 20 then _ else _) = _
  rw [if_pos hz, h2]
end PPC
/-- what reading more comes to -/
def RRs (σ τ : pm_S) (c : Nat → Nat) (L k r : Nat) (S : List stp) (R : rsl) : Prop := rdS σ τ r ∧ match R with
  | .ok (j, s) => OKs τ c L k r j (S ++ s)
  | .error e => BDs τ c L r e
theorem t_cmp_bad {d al L k r : Nat} {σ : pm_S} {c : Nat → Nat} {e : Nat × Nat} (hd : 5 ≤ d) (h : rdC σ c L k r) (hb : BDs σ c L r e) : PM d al MX5_readComparison [.ref 29] σ (fun v τ => v = none ∧ rdS σ τ r ∧ BDs τ c L r e) := by
  have hS := h.1
  obtain ⟨b1, b2, b3, b4, b5⟩ := id hb
  have hr := h.rule
  have hl : qR σ 29 1 = r := h.2.2.2.2.2.2.2.2
  show PW _ _ _ _ _ _ _ _
  refine pw_aload_n dX5_readComparison_0 rfl ?_
  refine pw_cV0 (d1 := d - 1) (a1 := 0) (a2 := al) dX5_readComparison_1 mtX5_readTerm ivX5_readTerm mlX5_80 (Nat.le_of_ble_eq_true rfl) (Nat.le_of_ble_eq_true rfl) (by omega) (by omega) (hS.at rfl rfl rfl) rfl rfl (t_term_bad (by omega) h hb) ?_
  rintro r_ τ1 ⟨x1, hr_, ht_⟩; subst r_; subst τ1
  refine pw_istore_n dX5_readComparison_4 (Nat.le_of_ble_eq_true rfl) (Nat.le_of_ble_eq_true rfl) rfl ?_
  refine pw_aload_n dX5_readComparison_5 rfl ?_
  refine pw_getI dX5_readComparison_6 flX5_46 rfl (hS.at rfl rfl rfl) ?_
  rw [b4]
  refine pw_istore_n dX5_readComparison_9 (Nat.le_of_ble_eq_true rfl) (Nat.le_of_ble_eq_true rfl) rfl ?_
  refine pw_iload_n dX5_readComparison_10 rfl ?_
  refine pw_bipush (v := 18) dX5_readComparison_11 (by decide) ?_
  refine pw_icmp_eq (tgt := 28) dX5_readComparison_13 (by decide) (fun h13 => ?_) (fun h13 => ?_)
  · exact absurd h13 (by decide)
  · refine pw_iload_n dX5_readComparison_16 rfl ?_
    refine pw_bipush (v := 19) dX5_readComparison_17 (by decide) ?_
    refine pw_icmp_eq (tgt := 28) dX5_readComparison_19 (by decide) (fun h19 => ?_) (fun h19 => ?_)
    · exact absurd h19 (by decide)
    · refine pw_iload_n dX5_readComparison_22 rfl ?_
      refine pw_bipush (v := 20) dX5_readComparison_23 (by decide) ?_
      refine pw_icmp_ne (tgt := 35) dX5_readComparison_25 (by decide) (fun h25 => ?_) (fun h25 => ?_)
      · refine pw_aload_n dX5_readComparison_35 rfl ?_
        refine pw_iconst (v := 1) dX5_readComparison_36 (by decide) ?_
        refine pw_cV1 (d1 := d - 1) (a1 := 0) (a2 := al) dX5_readComparison_37 mtX5_refuse ivX5_refuse mlX5_62 (Nat.le_of_ble_eq_true rfl) (Nat.le_of_ble_eq_true rfl) (by omega) (by omega) (hS.at rfl rfl rfl) rfl rfl (t_ref_bad hS hb _) ?_
        rintro r_ τ_ ⟨hr_, ht_⟩; subst r_; subst τ_
        refine pw_aload_n dX5_readComparison_40 rfl ?_
        refine pw_cV0 (d1 := d - 1) (a1 := 0) (a2 := al) dX5_readComparison_41 mtX5_readTerm ivX5_readTerm mlX5_80 (Nat.le_of_ble_eq_true rfl) (Nat.le_of_ble_eq_true rfl) (by omega) (by omega) (hS.at rfl rfl rfl) rfl rfl (t_term_bad (by omega) h hb) ?_
        rintro r_ τ1 ⟨x1, hr_, ht_⟩; subst r_; subst τ1
        refine pw_istore_n dX5_readComparison_44 (Nat.le_of_ble_eq_true rfl) (Nat.le_of_ble_eq_true rfl) rfl ?_
        refine pw_aload_n dX5_readComparison_45 rfl ?_
        refine pw_getF dX5_readComparison_46 flX5_20 rfl (hS.at rfl rfl rfl) hl ?_
        refine pw_iload_n dX5_readComparison_49 rfl ?_
        refine pw_iload_n dX5_readComparison_50 rfl ?_
        refine pw_iload_n dX5_readComparison_51 rfl ?_
        refine pw_cV3 (d1 := d - 1) (a1 := 0) (a2 := al) dX5_readComparison_52 mtX4_addStep ivX4_addStep mlX5_70 (Nat.le_of_ble_eq_true rfl) (Nat.le_of_ble_eq_true rfl) (by omega) (by omega) hr rfl rfl (t_add_bad h hb _ _ _) ?_
        rintro r_ τ1 ⟨hr_, hs1, hb1⟩; subst r_
        refine pw_vret dX5_readComparison_55 rfl ?_
        exact ⟨rfl, hs1, hb1⟩
      · exact absurd h25 (by decide)
theorem t_cmp_ok {d al L k r i : Nat} {σ : pm_S} {c : Nat → Nat} {S : List stp} (hd : 5 ≤ d) (h : rdC σ c L k r) (ho : OKs σ c L k r i S) : PM d al MX5_readComparison [.ref 29] σ (fun v τ => v = none ∧ RRs σ τ c L k r S (pP (tk c L) (vN c L) i)) := by
  have hS := h.1
  have hL6 : L ≤ 600 := h.2.1
  have hcost := pP_c (v := vN c L) (tk_P c L) i
  show PW _ _ _ _ _ _ _ _
  refine pw_aload_n dX5_readComparison_0 rfl ?_
  refine pw_cV0 (d1 := d - 1) (a1 := 0) (a2 := al) dX5_readComparison_1 mtX5_readTerm ivX5_readTerm mlX5_80 (Nat.le_of_ble_eq_true rfl) (Nat.le_of_ble_eq_true rfl) (by omega) (by omega) (hS.at rfl rfl rfl) rfl rfl (t_term_ok (by omega) h ho) ?_
  rintro r_ τ1 ⟨x1, hr_, hs1, hR1⟩
  subst r_
  have h1 := h.of hs1
  have hS1 := h1.1
  have hr1 := h1.rule
  have hl1 : qR τ1 29 1 = r := h1.2.2.2.2.2.2.2.2
  cases hp1 : pT (tk c L) (vN c L) i with
  | error e =>
    rw [hp1] at hR1
    have hb : BDs τ1 c L r e := hR1
    rw [pP_e hp1]
    obtain ⟨b1, b2, b3, b4, b5⟩ := id hb
    refine pw_istore_n dX5_readComparison_4 (Nat.le_of_ble_eq_true rfl) (Nat.le_of_ble_eq_true rfl) rfl ?_
    refine pw_aload_n dX5_readComparison_5 rfl ?_
    refine pw_getI dX5_readComparison_6 flX5_46 rfl (hS1.at rfl rfl rfl) ?_
    rw [b4]
    refine pw_istore_n dX5_readComparison_9 (Nat.le_of_ble_eq_true rfl) (Nat.le_of_ble_eq_true rfl) rfl ?_
    refine pw_iload_n dX5_readComparison_10 rfl ?_
    refine pw_bipush (v := 18) dX5_readComparison_11 (by decide) ?_
    refine pw_icmp_eq (tgt := 28) dX5_readComparison_13 (by decide) (fun h13 => ?_) (fun h13 => ?_)
    · exact absurd h13 (by decide)
    · refine pw_iload_n dX5_readComparison_16 rfl ?_
      refine pw_bipush (v := 19) dX5_readComparison_17 (by decide) ?_
      refine pw_icmp_eq (tgt := 28) dX5_readComparison_19 (by decide) (fun h19 => ?_) (fun h19 => ?_)
      · exact absurd h19 (by decide)
      · refine pw_iload_n dX5_readComparison_22 rfl ?_
        refine pw_bipush (v := 20) dX5_readComparison_23 (by decide) ?_
        refine pw_icmp_ne (tgt := 35) dX5_readComparison_25 (by decide) (fun h25 => ?_) (fun h25 => ?_)
        · refine pw_aload_n dX5_readComparison_35 rfl ?_
          refine pw_iconst (v := 1) dX5_readComparison_36 (by decide) ?_
          refine pw_cV1 (d1 := d - 1) (a1 := 0) (a2 := al) dX5_readComparison_37 mtX5_refuse ivX5_refuse mlX5_62 (Nat.le_of_ble_eq_true rfl) (Nat.le_of_ble_eq_true rfl) (by omega) (by omega) (hS1.at rfl rfl rfl) rfl rfl (t_ref_bad hS1 hb _) ?_
          rintro r_ τ_ ⟨hr_, ht_⟩; subst r_; subst τ_
          refine pw_aload_n dX5_readComparison_40 rfl ?_
          refine pw_cV0 (d1 := d - 1) (a1 := 0) (a2 := al) dX5_readComparison_41 mtX5_readTerm ivX5_readTerm mlX5_80 (Nat.le_of_ble_eq_true rfl) (Nat.le_of_ble_eq_true rfl) (by omega) (by omega) (hS1.at rfl rfl rfl) rfl rfl (t_term_bad (by omega) h1 hb) ?_
          rintro r_ τ2 ⟨x2, hr_, ht_⟩; subst r_; subst τ2
          refine pw_istore_n dX5_readComparison_44 (Nat.le_of_ble_eq_true rfl) (Nat.le_of_ble_eq_true rfl) rfl ?_
          refine pw_aload_n dX5_readComparison_45 rfl ?_
          refine pw_getF dX5_readComparison_46 flX5_20 rfl (hS1.at rfl rfl rfl) hl1 ?_
          refine pw_iload_n dX5_readComparison_49 rfl ?_
          refine pw_iload_n dX5_readComparison_50 rfl ?_
          refine pw_iload_n dX5_readComparison_51 rfl ?_
          refine pw_cV3 (d1 := d - 1) (a1 := 0) (a2 := al) dX5_readComparison_52 mtX4_addStep ivX4_addStep mlX5_70 (Nat.le_of_ble_eq_true rfl) (Nat.le_of_ble_eq_true rfl) (by omega) (by omega) hr1 rfl rfl (t_add_bad h1 hb _ _ _) ?_
          rintro r_ τ2 ⟨hr_, hs2, hb2⟩; subst r_
          refine pw_vret dX5_readComparison_55 rfl ?_
          exact ⟨rfl, hs1.tr hs2, hb2⟩
        · exact absurd h25 (by decide)
  | ok p =>
    obtain ⟨j, l⟩ := p
    rw [hp1] at hR1
    obtain ⟨hx1, ho1⟩ : x1 = nI l ∧ OKs τ1 c L k r j S := hR1
    subst hx1
    have p4 := ho1.2.2.2.1
    have ht := tk_le c L j
    have e18 : nI (tk c L j) = 18 ↔ tk c L j = 18 := nI_eq (by omega) (by decide)
    have e19 : nI (tk c L j) = 19 ↔ tk c L j = 19 := nI_eq (by omega) (by decide)
    have e20 : nI (tk c L j) = 20 ↔ tk c L j = 20 := nI_eq (by omega) (by decide)
    by_cases z : 18 ≤ tk c L j ∧ tk c L j ≤ 20
    · skip
      -- behind the sign
      have tail : ∀ τ2 : pm_S, rdS τ1 τ2 r → OKs τ2 c L k r (j + 1) S → PW d al MX5_readComparison 40 [.ref 29, .int (nI l), .int (nI (tk c L j)), .retAddr 0] [] τ2 (fun v τ => v = none ∧ RRs σ τ c L k r S (pP (tk c L) (vN c L) i)) := by
        intro τ2 hs2 ho2
        have h2 := h1.of hs2
        have hS2 := h2.1
        refine pw_aload_n dX5_readComparison_40 rfl ?_
        refine pw_cV0 (d1 := d - 1) (a1 := 0) (a2 := al) dX5_readComparison_41 mtX5_readTerm ivX5_readTerm mlX5_80 (Nat.le_of_ble_eq_true rfl) (Nat.le_of_ble_eq_true rfl) (by omega) (by omega) (hS2.at rfl rfl rfl) rfl rfl (t_term_ok (by omega) h2 ho2) ?_
        rintro r_ τ3 ⟨x3, hr_, hs3, hR3⟩
        subst r_
        have h3 := h2.of hs3
        have hS3 := h3.1
        have hr3 := h3.rule
        have hl3 : qR τ3 29 1 = r := h3.2.2.2.2.2.2.2.2
        cases hp2 : pT (tk c L) (vN c L) (j + 1) with
        | error e =>
          rw [hp2] at hR3
          have hb : BDs τ3 c L r e := hR3
          rw [pP_e2 hp1 z hp2]
          refine pw_istore_n dX5_readComparison_44 (Nat.le_of_ble_eq_true rfl) (Nat.le_of_ble_eq_true rfl) rfl ?_
          refine pw_aload_n dX5_readComparison_45 rfl ?_
          refine pw_getF dX5_readComparison_46 flX5_20 rfl (hS3.at rfl rfl rfl) hl3 ?_
          refine pw_iload_n dX5_readComparison_49 rfl ?_
          refine pw_iload_n dX5_readComparison_50 rfl ?_
          refine pw_iload_n dX5_readComparison_51 rfl ?_
          refine pw_cV3 (d1 := d - 1) (a1 := 0) (a2 := al) dX5_readComparison_52 mtX4_addStep ivX4_addStep mlX5_70 (Nat.le_of_ble_eq_true rfl) (Nat.le_of_ble_eq_true rfl) (by omega) (by omega) hr3 rfl rfl (t_add_bad h3 hb _ _ _) ?_
          rintro r_ τ4 ⟨hr_, hs4, hb4⟩; subst r_
          refine pw_vret dX5_readComparison_55 rfl ?_
          exact ⟨rfl, ((hs1.tr hs2).tr hs3).tr hs4, hb4⟩
        | ok p =>
          obtain ⟨m, y⟩ := p
          rw [hp2] at hR3
          obtain ⟨hx3, ho3⟩ : x3 = nI y ∧ OKs τ3 c L k r m S := hR3
          subst hx3
          obtain ⟨c1, c2, -⟩ := hcost m [(tk c L j, l, y)] (pP_o hp1 z hp2)
          rw [pP_o hp1 z hp2]
          have c2 : 2 * 1 + sn c L i ≤ sn c L m := c2
          have o6 := ho.2.2.2.2.2.1
          refine pw_istore_n dX5_readComparison_44 (Nat.le_of_ble_eq_true rfl) (Nat.le_of_ble_eq_true rfl) rfl ?_
          refine pw_aload_n dX5_readComparison_45 rfl ?_
          refine pw_getF dX5_readComparison_46 flX5_20 rfl (hS3.at rfl rfl rfl) hl3 ?_
          refine pw_iload_n dX5_readComparison_49 rfl ?_
          refine pw_iload_n dX5_readComparison_50 rfl ?_
          refine pw_iload_n dX5_readComparison_51 rfl ?_
          refine pw_cV3 (d1 := d - 1) (a1 := 0) (a2 := al) dX5_readComparison_52 mtX4_addStep ivX4_addStep mlX5_70 (Nat.le_of_ble_eq_true rfl) (Nat.le_of_ble_eq_true rfl) (by omega) (by omega) hr3 rfl rfl (t_add_ok h3 ho3 (by omega)) ?_
          rintro r_ τ4 ⟨hr_, hs4, ho4⟩; subst r_
          refine pw_vret dX5_readComparison_55 rfl ?_
          exact ⟨rfl, ((hs1.tr hs2).tr hs3).tr hs4, ho4⟩
      refine pw_istore_n dX5_readComparison_4 (Nat.le_of_ble_eq_true rfl) (Nat.le_of_ble_eq_true rfl) rfl ?_
      refine pw_aload_n dX5_readComparison_5 rfl ?_
      refine pw_getI dX5_readComparison_6 flX5_46 rfl (hS1.at rfl rfl rfl) ?_
      rw [p4]
      refine pw_istore_n dX5_readComparison_9 (Nat.le_of_ble_eq_true rfl) (Nat.le_of_ble_eq_true rfl) rfl ?_
      refine pw_iload_n dX5_readComparison_10 rfl ?_
      refine pw_bipush (v := 18) dX5_readComparison_11 (by decide) ?_
      refine pw_icmp_eq (tgt := 28) dX5_readComparison_13 (by decide) (fun h13 => ?_) (fun h13 => ?_)
      · refine pw_aload_n dX5_readComparison_28 rfl ?_
        refine pw_cV0 (d1 := d - 1) (a1 := 0) (a2 := al) dX5_readComparison_29 mtX5_advance ivX5_advance mlX5_49 (Nat.le_of_ble_eq_true rfl) (Nat.le_of_ble_eq_true rfl) (by omega) (by omega) (hS1.at rfl rfl rfl) rfl rfl (t_adv_ok (by omega) h1 ho1 (by omega)) ?_
        rintro r_ τ2 ⟨hr_, hs2, ho2⟩; subst r_
        refine pw_goto (tgt := 40) dX5_readComparison_32 (by decide) ?_
        exact tail τ2 hs2 ho2
      · refine pw_iload_n dX5_readComparison_16 rfl ?_
        refine pw_bipush (v := 19) dX5_readComparison_17 (by decide) ?_
        refine pw_icmp_eq (tgt := 28) dX5_readComparison_19 (by decide) (fun h19 => ?_) (fun h19 => ?_)
        · refine pw_aload_n dX5_readComparison_28 rfl ?_
          refine pw_cV0 (d1 := d - 1) (a1 := 0) (a2 := al) dX5_readComparison_29 mtX5_advance ivX5_advance mlX5_49 (Nat.le_of_ble_eq_true rfl) (Nat.le_of_ble_eq_true rfl) (by omega) (by omega) (hS1.at rfl rfl rfl) rfl rfl (t_adv_ok (by omega) h1 ho1 (by omega)) ?_
          rintro r_ τ2 ⟨hr_, hs2, ho2⟩; subst r_
          refine pw_goto (tgt := 40) dX5_readComparison_32 (by decide) ?_
          exact tail τ2 hs2 ho2
        · refine pw_iload_n dX5_readComparison_22 rfl ?_
          refine pw_bipush (v := 20) dX5_readComparison_23 (by decide) ?_
          refine pw_icmp_ne (tgt := 35) dX5_readComparison_25 (by decide) (fun h25 => ?_) (fun h25 => ?_)
          · exact absurd (show tk c L j = 18 ∨ tk c L j = 19 ∨ tk c L j = 20 by omega) (fun w => w.elim (fun y => h13 (e18.mpr y)) (fun w => w.elim (fun y => h19 (e19.mpr y)) (fun y => h25 (e20.mpr y))))
          · refine pw_aload_n dX5_readComparison_28 rfl ?_
            refine pw_cV0 (d1 := d - 1) (a1 := 0) (a2 := al) dX5_readComparison_29 mtX5_advance ivX5_advance mlX5_49 (Nat.le_of_ble_eq_true rfl) (Nat.le_of_ble_eq_true rfl) (by omega) (by omega) (hS1.at rfl rfl rfl) rfl rfl (t_adv_ok (by omega) h1 ho1 (by omega)) ?_
            rintro r_ τ2 ⟨hr_, hs2, ho2⟩; subst r_
            refine pw_goto (tgt := 40) dX5_readComparison_32 (by decide) ?_
            exact tail τ2 hs2 ho2
    · rw [pP_n hp1 z]
      refine pw_istore_n dX5_readComparison_4 (Nat.le_of_ble_eq_true rfl) (Nat.le_of_ble_eq_true rfl) rfl ?_
      refine pw_aload_n dX5_readComparison_5 rfl ?_
      refine pw_getI dX5_readComparison_6 flX5_46 rfl (hS1.at rfl rfl rfl) ?_
      rw [p4]
      refine pw_istore_n dX5_readComparison_9 (Nat.le_of_ble_eq_true rfl) (Nat.le_of_ble_eq_true rfl) rfl ?_
      refine pw_iload_n dX5_readComparison_10 rfl ?_
      refine pw_bipush (v := 18) dX5_readComparison_11 (by decide) ?_
      refine pw_icmp_eq (tgt := 28) dX5_readComparison_13 (by decide) (fun h13 => ?_) (fun h13 => ?_)
      · exact absurd (e18.mp h13) (by omega)
      · refine pw_iload_n dX5_readComparison_16 rfl ?_
        refine pw_bipush (v := 19) dX5_readComparison_17 (by decide) ?_
        refine pw_icmp_eq (tgt := 28) dX5_readComparison_19 (by decide) (fun h19 => ?_) (fun h19 => ?_)
        · exact absurd (e19.mp h19) (by omega)
        · refine pw_iload_n dX5_readComparison_22 rfl ?_
          refine pw_bipush (v := 20) dX5_readComparison_23 (by decide) ?_
          refine pw_icmp_ne (tgt := 35) dX5_readComparison_25 (by decide) (fun h25 => ?_) (fun h25 => ?_)
          · refine pw_aload_n dX5_readComparison_35 rfl ?_
            refine pw_iconst (v := 1) dX5_readComparison_36 (by decide) ?_
            refine pw_cV1 (d1 := d - 1) (a1 := 0) (a2 := al) dX5_readComparison_37 mtX5_refuse ivX5_refuse mlX5_62 (Nat.le_of_ble_eq_true rfl) (Nat.le_of_ble_eq_true rfl) (by omega) (by omega) (hS1.at rfl rfl rfl) rfl rfl (t_ref_ok (w := 1) (by omega) h1 ho1 (Or.inl rfl)) ?_
            rintro r_ τ2 ⟨hr_, hs2, hb2⟩; subst r_
            have h2 := h1.of hs2
            have hS2 := h2.1
            have hr2 := h2.rule
            have hl2 : qR τ2 29 1 = r := h2.2.2.2.2.2.2.2.2
            refine pw_aload_n dX5_readComparison_40 rfl ?_
            refine pw_cV0 (d1 := d - 1) (a1 := 0) (a2 := al) dX5_readComparison_41 mtX5_readTerm ivX5_readTerm mlX5_80 (Nat.le_of_ble_eq_true rfl) (Nat.le_of_ble_eq_true rfl) (by omega) (by omega) (hS2.at rfl rfl rfl) rfl rfl (t_term_bad (by omega) h2 hb2) ?_
            rintro r_ τ3 ⟨x3, hr_, ht_⟩; subst r_; subst τ3
            refine pw_istore_n dX5_readComparison_44 (Nat.le_of_ble_eq_true rfl) (Nat.le_of_ble_eq_true rfl) rfl ?_
            refine pw_aload_n dX5_readComparison_45 rfl ?_
            refine pw_getF dX5_readComparison_46 flX5_20 rfl (hS2.at rfl rfl rfl) hl2 ?_
            refine pw_iload_n dX5_readComparison_49 rfl ?_
            refine pw_iload_n dX5_readComparison_50 rfl ?_
            refine pw_iload_n dX5_readComparison_51 rfl ?_
            refine pw_cV3 (d1 := d - 1) (a1 := 0) (a2 := al) dX5_readComparison_52 mtX4_addStep ivX4_addStep mlX5_70 (Nat.le_of_ble_eq_true rfl) (Nat.le_of_ble_eq_true rfl) (by omega) (by omega) hr2 rfl rfl (t_add_bad h2 hb2 _ _ _) ?_
            rintro r_ τ4 ⟨hr_, hs4, hb4⟩; subst r_
            refine pw_vret dX5_readComparison_55 rfl ?_
            exact ⟨rfl, (hs1.tr hs2).tr hs4, hb4⟩
          · exact absurd (show tk c L j = 20 by first | exact e20.mp h25 | exact e20.mp (Decidable.not_not.mp h25)) (by omega)
