/-! ===== the reference: roots, doubts, questions ===== -/
def m_rt (σ : pm_S) : Nat → Nat → Nat
  | 0, j => j
  | f + 1, j => if qI σ 49 j = -1 then j else m_rt σ f (qI σ 49 j).toNatClampNeg
/-- what is a copy is one of an earlier thing -/
def m_cp (σ : pm_S) (n : Nat) : Prop := ∀ j, j < n → qI σ 49 j = -1 ∨ ∃ i, i < j ∧ qI σ 49 j = nI i
theorem m_rt_le {σ : pm_S} {n : Nat} (hC : m_cp σ n) : ∀ (f j : Nat), j < n → n ≤ 20 → m_rt σ f j ≤ j
  | 0, j, _, _ => Nat.le_refl _
  | f + 1, j, h, h2 => by
    show (if qI σ 49 j = -1 then j else m_rt σ f (qI σ 49 j).toNatClampNeg) ≤ j
    split
    · exact Nat.le_refl _
    · rename_i hne
      rcases hC j h with h1 | ⟨i, hi, h1⟩
      · exact absurd h1 hne
      · rw [h1, nI_clamp (by omega)]
        exact Nat.le_trans (m_rt_le hC f i (by omega) h2) (by omega)
theorem s_rootOf_lp {d al n : Nat} {σ : pm_S} (hS : pm_fix σ) (hC : m_cp σ n) (hn2 : n ≤ 20) (x : Int32) : ∀ (f j : Nat), j < n → j ≤ f → PW d al MX12_rootOf 2 [.ref 43, .int x, .int (nI j)] [] σ (fun r τ => r = some (.int (nI (m_rt σ f j))) ∧ τ = σ) := by
  intro f
  induction f with
  | zero =>
    intro j hj hf
    have hj0 : j = 0 := by omega
    subst hj0
    have hj20 : 0 < 20 := by decide
    refine pw_aload_n dX12_rootOf_2 rfl ?_
    refine pw_getF (v := 49) dX12_rootOf_3 flX12_25 rfl (hS.at rfl rfl rfl) (hS.rf (43, 9, 49) rfl (by decide)) ?_
    refine pw_iload_n dX12_rootOf_6 rfl ?_
    refine pw_iald dX12_rootOf_7 (hS.at rfl rfl rfl) rfl (hS.lt rfl rfl hj20 rfl) (by omega) ?_
    refine pw_iconst (v := (-1)) dX12_rootOf_8 (by decide) ?_
    refine pw_icmp_eq (tgt := 22) dX12_rootOf_9 (by decide) (fun h9 => ?_) (fun h9 => ?_)
    · refine pw_iload_n dX12_rootOf_22 rfl ?_
      refine pw_iret dX12_rootOf_23 rfl rfl ?_
      exact ⟨rfl, rfl⟩
    · exfalso
      rcases hC 0 hj with h1 | ⟨i, hi, -⟩
      · exact h9 h1
      · omega
  | succ f ih =>
    intro j hj hf
    have hj20 : j < 20 := by omega
    have hu : m_rt σ (f + 1) j = if qI σ 49 j = -1 then j else m_rt σ f (qI σ 49 j).toNatClampNeg := rfl
    refine pw_aload_n dX12_rootOf_2 rfl ?_
    refine pw_getF (v := 49) dX12_rootOf_3 flX12_25 rfl (hS.at rfl rfl rfl) (hS.rf (43, 9, 49) rfl (by decide)) ?_
    refine pw_iload_n dX12_rootOf_6 rfl ?_
    refine pw_iald dX12_rootOf_7 (hS.at rfl rfl rfl) rfl (hS.lt rfl rfl hj20 rfl) (by omega) ?_
    refine pw_iconst (v := (-1)) dX12_rootOf_8 (by decide) ?_
    refine pw_icmp_eq (tgt := 22) dX12_rootOf_9 (by decide) (fun h9 => ?_) (fun h9 => ?_)
    · refine pw_iload_n dX12_rootOf_22 rfl ?_
      refine pw_iret dX12_rootOf_23 rfl rfl ?_
      exact ⟨by rw [hu, if_pos h9], rfl⟩
    · refine pw_aload_n dX12_rootOf_12 rfl ?_
      refine pw_getF (v := 49) dX12_rootOf_13 flX12_25 rfl (hS.at rfl rfl rfl) (hS.rf (43, 9, 49) rfl (by decide)) ?_
      refine pw_iload_n dX12_rootOf_16 rfl ?_
      refine pw_iald dX12_rootOf_17 (hS.at rfl rfl rfl) rfl (hS.lt rfl rfl hj20 rfl) (by omega) ?_
      refine pw_istore_n dX12_rootOf_18 (Nat.le_of_ble_eq_true rfl) (Nat.le_of_ble_eq_true rfl) rfl ?_
      refine pw_goto (tgt := 2) dX12_rootOf_19 (by decide) ?_
      rcases hC j hj with h1 | ⟨i, hi, h1⟩
      · exact absurd h1 h9
      · have hh := ih i (by omega) (by omega)
        rw [hu, if_neg h9, h1, nI_clamp (by omega)]
        exact hh
theorem s_rootOf {d al n j : Nat} {σ : pm_S} (hS : pm_fix σ) (hC : m_cp σ n) (hn2 : n ≤ 20) (hj : j < n) {t : Int32} (ht : t = nI j) : PE d al MX12_rootOf [.ref 43, .int t] σ (some (.int (nI (m_rt σ 20 j)))) σ := by
  show PW _ _ _ _ _ _ _ _
  subst ht
  refine pw_iload_n dX12_rootOf_0 rfl ?_
  refine pw_istore_n dX12_rootOf_1 (Nat.le_of_ble_eq_true rfl) (Nat.le_of_ble_eq_true rfl) rfl ?_
  exact s_rootOf_lp hS hC hn2 (nI j) 20 j hj (by omega)
abbrev dbP (σ : pm_S) (e j o : Nat) : Prop := o ≠ j ∧ qI σ 51 o = -1 ∧ m_rt σ 20 o = m_rt σ 20 j ∧ m_ke σ e o (qI σ 43 0) ≠ m_ke σ e j (qI σ 43 0)
/-- some other thing of the root, among the first o, is kept elsewhere -/
def m_db (σ : pm_S) (e j : Nat) : Nat → Bool
  | 0 => false
  | o + 1 => m_db σ e j o || decide (dbP σ e j o)
theorem m_db_s (σ : pm_S) (e j o : Nat) : m_db σ e j (o + 1) = (m_db σ e j o || decide (dbP σ e j o)) := rfl
theorem s_isDoubtful_lp {d al n e j : Nat} {σ : pm_S} (hd : 3 ≤ d) (hS : pm_fix σ) (hn : qI σ 43 1 = nI n) (hn2 : n ≤ 20) (he : qI σ 43 2 = nI e) (he2 : e ≤ 300) (hC : m_cp σ n) (hj : j < n) : ∀ (k o : Nat), o + k = n → PW d al MX12_isDoubtful 38 [.ref 43, .int (nI j), .int (nI (m_rt σ 20 j)), .int (bI (m_db σ e j o = true)), .int (nI o)] [] σ (fun r τ => r = some (.int (bI (m_db σ e j n = true))) ∧ τ = σ) := by
  have hrj := m_rt_le hC 20 j hj hn2
  intro k
  induction k with
  | zero =>
    intro o ho
    refine pw_iload dX12_isDoubtful_38 rfl ?_
    refine pw_aload_n dX12_isDoubtful_40 rfl ?_
    refine pw_getI dX12_isDoubtful_41 flX12_90 rfl (hS.at rfl rfl rfl) ?_
    refine pw_icmp_ge (tgt := 110) dX12_isDoubtful_44 (by decide) (fun h44 => ?_) (fun h44 => ?_)
    · refine pw_iload_n dX12_isDoubtful_110 rfl ?_
      refine pw_iret dX12_isDoubtful_111 rfl (by first | rfl | exact bI_nar) ?_
      exact ⟨by rw [show o = n by omega], rfl⟩
    · exact absurd (by rw [hn]; exact nI_le (by omega) (by omega)) h44
  | succ k ih =>
    intro o ho
    have ho2 : o < n := by omega
    have hh := ih (o + 1) (by omega)
    rw [m_db_s, nI_succ] at hh
    have hro := m_rt_le hC 20 o ho2 hn2
    refine pw_iload dX12_isDoubtful_38 rfl ?_
    refine pw_aload_n dX12_isDoubtful_40 rfl ?_
    refine pw_getI dX12_isDoubtful_41 flX12_90 rfl (hS.at rfl rfl rfl) ?_
    refine pw_icmp_ge (tgt := 110) dX12_isDoubtful_44 (by decide) (fun h44 => ?_) (fun h44 => ?_)
    · exact absurd (by rw [hn] at h44; exact h44) (nI_ge ho2 (by omega))
    · refine pw_iload_n dX12_isDoubtful_47 rfl ?_
      refine pw_if_ne (tgt := 98) dX12_isDoubtful_48 (by decide) (fun h48 => ?_) (fun h48 => ?_)
      · refine pw_iconst (v := 1) dX12_isDoubtful_98 (by decide) ?_
        refine pw_goto (tgt := 103) dX12_isDoubtful_99 (by decide) ?_
        refine pw_istore_n dX12_isDoubtful_103 (Nat.le_of_ble_eq_true rfl) (Nat.le_of_ble_eq_true rfl) rfl ?_
        refine pw_iinc1 dX12_isDoubtful_104 rfl (Nat.le_of_ble_eq_true rfl) (Nat.le_of_ble_eq_true rfl) rfl ?_
        refine pw_goto (tgt := 38) dX12_isDoubtful_107 (by decide) ?_
        have hcl : (nI o).toNatClampNeg = o := nI_clamp (by omega)
        by_cases hb : m_db σ e j o = true
        · first | exact absurd hb (bI_0.mp h48) | (rw [hb, Bool.true_or] at hh; exact hh)
        · rw [Bool.eq_false_iff.mpr hb, Bool.false_or] at hh
          by_cases hp : dbP σ e j o
          · rw [decide_eq_true hp] at hh
            first | exact hh | exact absurd (bI_n.mp h48) hb | exact absurd (nI_inj (by omega) (by omega) h54) hp.1 | exact absurd (show _ ∧ _ from ⟨tOk_nI ho2 (by omega), by rw [hcl]; exact hp.2.1⟩) (bI_0.mp h63) | exact absurd (congrArg nI hp.2.2.1) h73 | exact absurd h95 hp.2.2.2
          · rw [decide_eq_false hp] at hh
            first | exact hh | exact absurd (bI_n.mp h48) hb | (exfalso; apply hp; refine ⟨fun z => h54 (by rw [z]), ?_, nI_inj (by omega) (by omega) h73, h95⟩; have z := (bI_n.mp h63).2; rw [hcl] at z; exact z)
      · refine pw_iload dX12_isDoubtful_51 rfl ?_
        refine pw_iload_n dX12_isDoubtful_53 rfl ?_
        refine pw_icmp_eq (tgt := 102) dX12_isDoubtful_54 (by decide) (fun h54 => ?_) (fun h54 => ?_)
        · refine pw_iconst (v := 0) dX12_isDoubtful_102 (by decide) ?_
          refine pw_istore_n dX12_isDoubtful_103 (Nat.le_of_ble_eq_true rfl) (Nat.le_of_ble_eq_true rfl) rfl ?_
          refine pw_iinc1 dX12_isDoubtful_104 rfl (Nat.le_of_ble_eq_true rfl) (Nat.le_of_ble_eq_true rfl) rfl ?_
          refine pw_goto (tgt := 38) dX12_isDoubtful_107 (by decide) ?_
          have hcl : (nI o).toNatClampNeg = o := nI_clamp (by omega)
          by_cases hb : m_db σ e j o = true
          · first | exact absurd hb (bI_0.mp h48) | (rw [hb, Bool.true_or] at hh; exact hh)
          · rw [Bool.eq_false_iff.mpr hb, Bool.false_or] at hh
            by_cases hp : dbP σ e j o
            · rw [decide_eq_true hp] at hh
              first | exact hh | exact absurd (bI_n.mp h48) hb | exact absurd (nI_inj (by omega) (by omega) h54) hp.1 | exact absurd (show _ ∧ _ from ⟨tOk_nI ho2 (by omega), by rw [hcl]; exact hp.2.1⟩) (bI_0.mp h63) | exact absurd (congrArg nI hp.2.2.1) h73 | exact absurd h95 hp.2.2.2
            · rw [decide_eq_false hp] at hh
              first | exact hh | exact absurd (bI_n.mp h48) hb | (exfalso; apply hp; refine ⟨fun z => h54 (by rw [z]), ?_, nI_inj (by omega) (by omega) h73, h95⟩; have z := (bI_n.mp h63).2; rw [hcl] at z; exact z)
        · refine pw_aload_n dX12_isDoubtful_57 rfl ?_
          refine pw_iload dX12_isDoubtful_58 rfl ?_
          refine pw_cV1 (d1 := d - 1) (a1 := 0) (a2 := al) dX12_isDoubtful_60 mtX12_isThere ivX12_isThere mlX12_107 (Nat.le_of_ble_eq_true rfl) (Nat.le_of_ble_eq_true rfl) (by omega) (by omega) (hS.at rfl rfl rfl) rfl rfl (s_isThere (by omega) hS hn hn2 _) ?_
          rintro r_ τ_ ⟨hr_, ht_⟩; subst r_; subst τ_
          refine pw_if_eq (tgt := 102) dX12_isDoubtful_63 (by decide) (fun h63 => ?_) (fun h63 => ?_)
          · refine pw_iconst (v := 0) dX12_isDoubtful_102 (by decide) ?_
            refine pw_istore_n dX12_isDoubtful_103 (Nat.le_of_ble_eq_true rfl) (Nat.le_of_ble_eq_true rfl) rfl ?_
            refine pw_iinc1 dX12_isDoubtful_104 rfl (Nat.le_of_ble_eq_true rfl) (Nat.le_of_ble_eq_true rfl) rfl ?_
            refine pw_goto (tgt := 38) dX12_isDoubtful_107 (by decide) ?_
            have hcl : (nI o).toNatClampNeg = o := nI_clamp (by omega)
            by_cases hb : m_db σ e j o = true
            · first | exact absurd hb (bI_0.mp h48) | (rw [hb, Bool.true_or] at hh; exact hh)
            · rw [Bool.eq_false_iff.mpr hb, Bool.false_or] at hh
              by_cases hp : dbP σ e j o
              · rw [decide_eq_true hp] at hh
                first | exact hh | exact absurd (bI_n.mp h48) hb | exact absurd (nI_inj (by omega) (by omega) h54) hp.1 | exact absurd (show _ ∧ _ from ⟨tOk_nI ho2 (by omega), by rw [hcl]; exact hp.2.1⟩) (bI_0.mp h63) | exact absurd (congrArg nI hp.2.2.1) h73 | exact absurd h95 hp.2.2.2
              · rw [decide_eq_false hp] at hh
                first | exact hh | exact absurd (bI_n.mp h48) hb | (exfalso; apply hp; refine ⟨fun z => h54 (by rw [z]), ?_, nI_inj (by omega) (by omega) h73, h95⟩; have z := (bI_n.mp h63).2; rw [hcl] at z; exact z)
          · refine pw_aload_n dX12_isDoubtful_66 rfl ?_
            refine pw_iload dX12_isDoubtful_67 rfl ?_
            refine pw_cV1 (d1 := d - 1) (a1 := 0) (a2 := al) dX12_isDoubtful_69 mtX12_rootOf ivX12_rootOf mlX12_123 (Nat.le_of_ble_eq_true rfl) (Nat.le_of_ble_eq_true rfl) (by omega) (by omega) (hS.at rfl rfl rfl) rfl rfl (s_rootOf hS hC hn2 ho2 rfl) ?_
            rintro r_ τ_ ⟨hr_, ht_⟩; subst r_; subst τ_
            refine pw_iload_n dX12_isDoubtful_72 rfl ?_
            refine pw_icmp_ne (tgt := 102) dX12_isDoubtful_73 (by decide) (fun h73 => ?_) (fun h73 => ?_)
            · refine pw_iconst (v := 0) dX12_isDoubtful_102 (by decide) ?_
              refine pw_istore_n dX12_isDoubtful_103 (Nat.le_of_ble_eq_true rfl) (Nat.le_of_ble_eq_true rfl) rfl ?_
              refine pw_iinc1 dX12_isDoubtful_104 rfl (Nat.le_of_ble_eq_true rfl) (Nat.le_of_ble_eq_true rfl) rfl ?_
              refine pw_goto (tgt := 38) dX12_isDoubtful_107 (by decide) ?_
              have hcl : (nI o).toNatClampNeg = o := nI_clamp (by omega)
              by_cases hb : m_db σ e j o = true
              · first | exact absurd hb (bI_0.mp h48) | (rw [hb, Bool.true_or] at hh; exact hh)
              · rw [Bool.eq_false_iff.mpr hb, Bool.false_or] at hh
                by_cases hp : dbP σ e j o
                · rw [decide_eq_true hp] at hh
                  first | exact hh | exact absurd (bI_n.mp h48) hb | exact absurd (nI_inj (by omega) (by omega) h54) hp.1 | exact absurd (show _ ∧ _ from ⟨tOk_nI ho2 (by omega), by rw [hcl]; exact hp.2.1⟩) (bI_0.mp h63) | exact absurd (congrArg nI hp.2.2.1) h73 | exact absurd h95 hp.2.2.2
                · rw [decide_eq_false hp] at hh
                  first | exact hh | exact absurd (bI_n.mp h48) hb | (exfalso; apply hp; refine ⟨fun z => h54 (by rw [z]), ?_, nI_inj (by omega) (by omega) h73, h95⟩; have z := (bI_n.mp h63).2; rw [hcl] at z; exact z)
            · refine pw_aload_n dX12_isDoubtful_76 rfl ?_
              refine pw_iload dX12_isDoubtful_77 rfl ?_
              refine pw_aload_n dX12_isDoubtful_79 rfl ?_
              refine pw_getI dX12_isDoubtful_80 flX12_97 rfl (hS.at rfl rfl rfl) ?_
              refine pw_cV2 (d1 := d - 1) (a1 := 0) (a2 := al) dX12_isDoubtful_83 mtX12_keptOn ivX12_keptOn mlX12_127 (Nat.le_of_ble_eq_true rfl) (Nat.le_of_ble_eq_true rfl) (by omega) (by omega) (hS.at rfl rfl rfl) rfl rfl (s_keptOn (by omega) hS he he2 (by omega) _) ?_
              rintro r_ τ_ ⟨hr_, ht_⟩; subst r_; subst τ_
              refine pw_aload_n dX12_isDoubtful_86 rfl ?_
              refine pw_iload_n dX12_isDoubtful_87 rfl ?_
              refine pw_aload_n dX12_isDoubtful_88 rfl ?_
              refine pw_getI dX12_isDoubtful_89 flX12_97 rfl (hS.at rfl rfl rfl) ?_
              refine pw_cV2 (d1 := d - 1) (a1 := 0) (a2 := al) dX12_isDoubtful_92 mtX12_keptOn ivX12_keptOn mlX12_127 (Nat.le_of_ble_eq_true rfl) (Nat.le_of_ble_eq_true rfl) (by omega) (by omega) (hS.at rfl rfl rfl) rfl rfl (s_keptOn (by omega) hS he he2 (by omega) _) ?_
              rintro r_ τ_ ⟨hr_, ht_⟩; subst r_; subst τ_
              refine pw_icmp_eq (tgt := 102) dX12_isDoubtful_95 (by decide) (fun h95 => ?_) (fun h95 => ?_)
              · refine pw_iconst (v := 0) dX12_isDoubtful_102 (by decide) ?_
                refine pw_istore_n dX12_isDoubtful_103 (Nat.le_of_ble_eq_true rfl) (Nat.le_of_ble_eq_true rfl) rfl ?_
                refine pw_iinc1 dX12_isDoubtful_104 rfl (Nat.le_of_ble_eq_true rfl) (Nat.le_of_ble_eq_true rfl) rfl ?_
                refine pw_goto (tgt := 38) dX12_isDoubtful_107 (by decide) ?_
                have hcl : (nI o).toNatClampNeg = o := nI_clamp (by omega)
                by_cases hb : m_db σ e j o = true
                · first | exact absurd hb (bI_0.mp h48) | (rw [hb, Bool.true_or] at hh; exact hh)
                · rw [Bool.eq_false_iff.mpr hb, Bool.false_or] at hh
                  by_cases hp : dbP σ e j o
                  · rw [decide_eq_true hp] at hh
                    first | exact hh | exact absurd (bI_n.mp h48) hb | exact absurd (nI_inj (by omega) (by omega) h54) hp.1 | exact absurd (show _ ∧ _ from ⟨tOk_nI ho2 (by omega), by rw [hcl]; exact hp.2.1⟩) (bI_0.mp h63) | exact absurd (congrArg nI hp.2.2.1) h73 | exact absurd h95 hp.2.2.2
                  · rw [decide_eq_false hp] at hh
                    first | exact hh | exact absurd (bI_n.mp h48) hb | (exfalso; apply hp; refine ⟨fun z => h54 (by rw [z]), ?_, nI_inj (by omega) (by omega) h73, h95⟩; have z := (bI_n.mp h63).2; rw [hcl] at z; exact z)
              · refine pw_iconst (v := 1) dX12_isDoubtful_98 (by decide) ?_
                refine pw_goto (tgt := 103) dX12_isDoubtful_99 (by decide) ?_
                refine pw_istore_n dX12_isDoubtful_103 (Nat.le_of_ble_eq_true rfl) (Nat.le_of_ble_eq_true rfl) rfl ?_
                refine pw_iinc1 dX12_isDoubtful_104 rfl (Nat.le_of_ble_eq_true rfl) (Nat.le_of_ble_eq_true rfl) rfl ?_
                refine pw_goto (tgt := 38) dX12_isDoubtful_107 (by decide) ?_
                have hcl : (nI o).toNatClampNeg = o := nI_clamp (by omega)
                by_cases hb : m_db σ e j o = true
                · first | exact absurd hb (bI_0.mp h48) | (rw [hb, Bool.true_or] at hh; exact hh)
                · rw [Bool.eq_false_iff.mpr hb, Bool.false_or] at hh
                  by_cases hp : dbP σ e j o
                  · rw [decide_eq_true hp] at hh
                    first | exact hh | exact absurd (bI_n.mp h48) hb | exact absurd (nI_inj (by omega) (by omega) h54) hp.1 | exact absurd (show _ ∧ _ from ⟨tOk_nI ho2 (by omega), by rw [hcl]; exact hp.2.1⟩) (bI_0.mp h63) | exact absurd (congrArg nI hp.2.2.1) h73 | exact absurd h95 hp.2.2.2
                  · rw [decide_eq_false hp] at hh
                    first | exact hh | exact absurd (bI_n.mp h48) hb | (exfalso; apply hp; refine ⟨fun z => h54 (by rw [z]), ?_, nI_inj (by omega) (by omega) h73, h95⟩; have z := (bI_n.mp h63).2; rw [hcl] at z; exact z)
abbrev inDb (σ : pm_S) (n e j : Nat) : Prop := qI σ 51 j = -1 ∧ ((m_rt σ 20 j ≠ j ∧ qI σ 51 (m_rt σ 20 j) ≠ -1) ∨ m_db σ e j n = true)
theorem s_isDoubtful {d al n e j : Nat} {σ : pm_S} (hd : 4 ≤ d) (hS : pm_fix σ) (hn : qI σ 43 1 = nI n) (hn2 : n ≤ 20) (he : qI σ 43 2 = nI e) (he2 : e ≤ 300) (hC : m_cp σ n) (hj : j < n) : PE d al MX12_isDoubtful [.ref 43, .int (nI j)] σ (some (.int (bI (inDb σ n e j)))) σ := by
  show PW _ _ _ _ _ _ _ _
  have hrj := m_rt_le hC 20 j hj hn2
  have hcl : (nI j).toNatClampNeg = j := nI_clamp (by omega)
  have hr20 : m_rt σ 20 j < 20 := by omega
  refine pw_aload_n dX12_isDoubtful_0 rfl ?_
  refine pw_iload_n dX12_isDoubtful_1 rfl ?_
  refine pw_cV1 (d1 := d - 1) (a1 := 0) (a2 := al) dX12_isDoubtful_2 mtX12_isThere ivX12_isThere mlX12_107 (Nat.le_of_ble_eq_true rfl) (Nat.le_of_ble_eq_true rfl) (by omega) (by omega) (hS.at rfl rfl rfl) rfl rfl (s_isThere (by omega) hS hn hn2 _) ?_
  rintro r_ τ_ ⟨hr_, ht_⟩; subst r_; subst τ_
  refine pw_if_ne (tgt := 10) dX12_isDoubtful_5 (by decide) (fun h5 => ?_) (fun h5 => ?_)
  · refine pw_aload_n dX12_isDoubtful_10 rfl ?_
    refine pw_iload_n dX12_isDoubtful_11 rfl ?_
    refine pw_cV1 (d1 := d - 1) (a1 := 0) (a2 := al) dX12_isDoubtful_12 mtX12_rootOf ivX12_rootOf mlX12_123 (Nat.le_of_ble_eq_true rfl) (Nat.le_of_ble_eq_true rfl) (by omega) (by omega) (hS.at rfl rfl rfl) rfl rfl (s_rootOf hS hC hn2 hj rfl) ?_
    rintro r_ τ_ ⟨hr_, ht_⟩; subst r_; subst τ_
    refine pw_istore_n dX12_isDoubtful_15 (Nat.le_of_ble_eq_true rfl) (Nat.le_of_ble_eq_true rfl) rfl ?_
    refine pw_iload_n dX12_isDoubtful_16 rfl ?_
    refine pw_iload_n dX12_isDoubtful_17 rfl ?_
    refine pw_icmp_eq (tgt := 33) dX12_isDoubtful_18 (by decide) (fun h18 => ?_) (fun h18 => ?_)
    · refine pw_iconst (v := 0) dX12_isDoubtful_33 (by decide) ?_
      refine pw_istore_n dX12_isDoubtful_34 (Nat.le_of_ble_eq_true rfl) (Nat.le_of_ble_eq_true rfl) rfl ?_
      refine pw_iconst (v := 0) dX12_isDoubtful_35 (by decide) ?_
      refine pw_istore dX12_isDoubtful_36 (Nat.le_of_ble_eq_true rfl) (Nat.le_of_ble_eq_true rfl) rfl ?_
      have z := (bI_n.mp h5).2
      rw [hcl] at z
      have hh := s_isDoubtful_lp (d := d) (al := al) (by omega) hS hn hn2 he he2 hC hj n 0 (by omega)
      refine PW.post ?_ hh
      rintro r τ ⟨h1, h2⟩
      refine ⟨?_, h2⟩
      rw [h1]
      congr 2
      refine bI_c ⟨fun y => ⟨z, Or.inr y⟩, fun y => ?_⟩
      rcases y.2 with y | y
      · first | exact absurd (by rw [nI_inj (by omega) (by omega) h18]) y.1 | exact absurd h28 y.2
      · exact y
    · refine pw_aload_n dX12_isDoubtful_21 rfl ?_
      refine pw_getF (v := 51) dX12_isDoubtful_22 flX12_31 rfl (hS.at rfl rfl rfl) (hS.rf (43, 11, 51) rfl (by decide)) ?_
      refine pw_iload_n dX12_isDoubtful_25 rfl ?_
      refine pw_iald dX12_isDoubtful_26 (hS.at rfl rfl rfl) rfl (hS.lt rfl rfl hr20 rfl) (by omega) ?_
      refine pw_iconst (v := (-1)) dX12_isDoubtful_27 (by decide) ?_
      refine pw_icmp_eq (tgt := 33) dX12_isDoubtful_28 (by decide) (fun h28 => ?_) (fun h28 => ?_)
      · refine pw_iconst (v := 0) dX12_isDoubtful_33 (by decide) ?_
        refine pw_istore_n dX12_isDoubtful_34 (Nat.le_of_ble_eq_true rfl) (Nat.le_of_ble_eq_true rfl) rfl ?_
        refine pw_iconst (v := 0) dX12_isDoubtful_35 (by decide) ?_
        refine pw_istore dX12_isDoubtful_36 (Nat.le_of_ble_eq_true rfl) (Nat.le_of_ble_eq_true rfl) rfl ?_
        have z := (bI_n.mp h5).2
        rw [hcl] at z
        have hh := s_isDoubtful_lp (d := d) (al := al) (by omega) hS hn hn2 he he2 hC hj n 0 (by omega)
        refine PW.post ?_ hh
        rintro r τ ⟨h1, h2⟩
        refine ⟨?_, h2⟩
        rw [h1]
        congr 2
        refine bI_c ⟨fun y => ⟨z, Or.inr y⟩, fun y => ?_⟩
        rcases y.2 with y | y
        · first | exact absurd (by rw [nI_inj (by omega) (by omega) h18]) y.1 | exact absurd h28 y.2
        · exact y
      · refine pw_iconst (v := 1) dX12_isDoubtful_31 (by decide) ?_
        refine pw_iret dX12_isDoubtful_32 rfl (by first | rfl | exact bI_nar) ?_
        have z := (bI_n.mp h5).2
        rw [hcl] at z
        exact ⟨by rw [bI_t ⟨z, Or.inl ⟨fun y => h18 (by rw [y]), h28⟩⟩], rfl⟩
  · refine pw_iconst (v := 0) dX12_isDoubtful_8 (by decide) ?_
    refine pw_iret dX12_isDoubtful_9 rfl (by first | rfl | exact bI_nar) ?_
    exact ⟨by rw [bI_f (fun z => bI_0.mp h5 ⟨tOk_nI hj (by omega), by rw [hcl]; exact z.1⟩)], rfl⟩
/-- how many are there, of the first t -/
def m_ct (σ : pm_S) : Nat → Nat
  | 0 => 0
  | t + 1 => m_ct σ t + if qI σ 51 t = -1 then 1 else 0
theorem m_ct_le (σ : pm_S) : ∀ t, m_ct σ t ≤ t
  | 0 => Nat.le_refl _
  | t + 1 => by
    have := m_ct_le σ t
    show m_ct σ t + (if qI σ 51 t = -1 then 1 else 0) ≤ t + 1
    split <;> omega
theorem s_look_lp {d al n : Nat} {σ : pm_S} (hd : 3 ≤ d) (hS : pm_fix σ) (hn : qI σ 43 1 = nI n) (hn2 : n ≤ 20) (x : Int32) : ∀ (k t : Nat), t + k = n → PW d al MX12_look 48 [.ref 43, .int x, .int (nI (m_ct σ t)), .int (nI t)] [] σ (fun r τ => r = some (.int (nI (m_ct σ n))) ∧ τ = σ) := by
  intro k
  induction k with
  | zero =>
    intro t ht
    refine pw_iload_n dX12_look_48 rfl ?_
    refine pw_aload_n dX12_look_49 rfl ?_
    refine pw_getI dX12_look_50 flX12_90 rfl (hS.at rfl rfl rfl) ?_
    refine pw_icmp_ge (tgt := 78) dX12_look_53 (by decide) (fun h53 => ?_) (fun h53 => ?_)
    · refine pw_iload_n dX12_look_78 rfl ?_
      refine pw_iret dX12_look_79 rfl rfl ?_
      exact ⟨by rw [show t = n by omega], rfl⟩
    · exact absurd (by rw [hn]; exact nI_le (by omega) (by omega)) h53
  | succ k ih =>
    intro t ht
    have ht2 : t < n := by omega
    have hh := ih (t + 1) (by omega)
    have hcl : (nI t).toNatClampNeg = t := nI_clamp (by omega)
    have hu : m_ct σ (t + 1) = m_ct σ t + if qI σ 51 t = -1 then 1 else 0 := rfl
    rw [hu, nI_succ] at hh
    refine pw_iload_n dX12_look_48 rfl ?_
    refine pw_aload_n dX12_look_49 rfl ?_
    refine pw_getI dX12_look_50 flX12_90 rfl (hS.at rfl rfl rfl) ?_
    refine pw_icmp_ge (tgt := 78) dX12_look_53 (by decide) (fun h53 => ?_) (fun h53 => ?_)
    · exact absurd (by rw [hn] at h53; exact h53) (nI_ge ht2 (by omega))
    · refine pw_iload_n dX12_look_56 rfl ?_
      refine pw_aload_n dX12_look_57 rfl ?_
      refine pw_iload_n dX12_look_58 rfl ?_
      refine pw_cV1 (d1 := d - 1) (a1 := 0) (a2 := al) dX12_look_59 mtX12_isThere ivX12_isThere mlX12_107 (Nat.le_of_ble_eq_true rfl) (Nat.le_of_ble_eq_true rfl) (by omega) (by omega) (hS.at rfl rfl rfl) rfl rfl (s_isThere (by omega) hS hn hn2 _) ?_
      rintro r_ τ_ ⟨hr_, ht_⟩; subst r_; subst τ_
      refine pw_if_eq (tgt := 69) dX12_look_62 (by decide) (fun h62 => ?_) (fun h62 => ?_)
      · refine pw_iconst (v := 0) dX12_look_69 (by decide) ?_
        refine pw_iadd dX12_look_70 ?_
        refine pw_istore_n dX12_look_71 (Nat.le_of_ble_eq_true rfl) (Nat.le_of_ble_eq_true rfl) rfl ?_
        refine pw_iinc1 dX12_look_72 rfl (Nat.le_of_ble_eq_true rfl) (Nat.le_of_ble_eq_true rfl) rfl ?_
        refine pw_goto (tgt := 48) dX12_look_75 (by decide) ?_
        first | (rw [if_pos (by have z := (bI_n.mp h62).2; rw [hcl] at z; exact z), nI_succ] at hh; exact hh) | (rw [if_neg (fun z => bI_0.mp h62 ⟨tOk_nI ht2 (by omega), by rw [hcl]; exact z⟩), Nat.add_zero] at hh; rw [show nI (m_ct σ t) + 0 = nI (m_ct σ t) from Int32.add_zero _]; exact hh)
      · refine pw_iconst (v := 1) dX12_look_65 (by decide) ?_
        refine pw_goto (tgt := 70) dX12_look_66 (by decide) ?_
        refine pw_iadd dX12_look_70 ?_
        refine pw_istore_n dX12_look_71 (Nat.le_of_ble_eq_true rfl) (Nat.le_of_ble_eq_true rfl) rfl ?_
        refine pw_iinc1 dX12_look_72 rfl (Nat.le_of_ble_eq_true rfl) (Nat.le_of_ble_eq_true rfl) rfl ?_
        refine pw_goto (tgt := 48) dX12_look_75 (by decide) ?_
        first | (rw [if_pos (by have z := (bI_n.mp h62).2; rw [hcl] at z; exact z), nI_succ] at hh; exact hh) | (rw [if_neg (fun z => bI_0.mp h62 ⟨tOk_nI ht2 (by omega), by rw [hcl]; exact z⟩), Nat.add_zero] at hh; rw [show nI (m_ct σ t) + 0 = nI (m_ct σ t) from Int32.add_zero _]; exact hh)
def m_look (σ : pm_S) (n : Nat) (what : Int32) : Int32 := if what = 0 then qI σ 43 0 else if what = 1 then qI σ 43 1 else if what = 2 then nI (m_ct σ n) else if what = 3 then qI σ 43 3 else if what = 4 then qI σ 43 21 else -1
theorem sw_out {x : Int32} {lo hi : Int} {n : Nat} (h : ∀ k : Nat, k < n → x.toInt ≠ lo + k) (hh : hi = lo + n - 1) : x.toInt < lo ∨ hi < x.toInt := by
  rcases Int.lt_or_le x.toInt lo with h1 | h1
  · exact Or.inl h1
  · refine Or.inr ?_
    rcases Int.lt_or_le hi x.toInt with h2 | h2
    · exact h2
    · exact absurd (by omega) (h (x.toInt - lo).toNat (by omega))
theorem sw_ne {x c : Int32} {z : Int} (h : ¬ x = c) (hz : c.toInt = z) : x.toInt ≠ z := fun y => h (i_eq.mpr (y.trans hz.symm))
theorem s_look {d al n : Nat} {σ : pm_S} (hd : 3 ≤ d) (hS : pm_fix σ) (hn : qI σ 43 1 = nI n) (hn2 : n ≤ 20) (what : Int32) : PE d al MX12_look [.ref 43, .int what] σ (some (.int (m_look σ n what))) σ := by
  show PW _ _ _ _ _ _ _ _
  refine pw_iconst (v := 0) dX12_look_0 (by decide) ?_
  refine pw_istore_n dX12_look_1 (Nat.le_of_ble_eq_true rfl) (Nat.le_of_ble_eq_true rfl) rfl ?_
  refine pw_iload_n dX12_look_2 rfl ?_
  by_cases w3_0 : what = 0
  · rw [w3_0]
    refine pw_tsIn (off := 33) (tgt := 36) dX12_look_3 (by decide) (by decide) (by decide) (by decide) ?_
    refine pw_aload_n dX12_look_36 rfl ?_
    refine pw_getI dX12_look_37 flX12_97 rfl (hS.at rfl rfl rfl) ?_
    refine pw_iret dX12_look_40 rfl rfl ?_
    exact ⟨rfl, rfl⟩
  by_cases w3_1 : what = 1
  · rw [w3_1]
    refine pw_tsIn (off := 38) (tgt := 41) dX12_look_3 (by decide) (by decide) (by decide) (by decide) ?_
    refine pw_aload_n dX12_look_41 rfl ?_
    refine pw_getI dX12_look_42 flX12_90 rfl (hS.at rfl rfl rfl) ?_
    refine pw_iret dX12_look_45 rfl rfl ?_
    exact ⟨rfl, rfl⟩
  by_cases w3_2 : what = 2
  · rw [w3_2]
    refine pw_tsIn (off := 43) (tgt := 46) dX12_look_3 (by decide) (by decide) (by decide) (by decide) ?_
    refine pw_iconst (v := 0) dX12_look_46 (by decide) ?_
    refine pw_istore_n dX12_look_47 (Nat.le_of_ble_eq_true rfl) (Nat.le_of_ble_eq_true rfl) rfl ?_
    have hh := s_look_lp (d := d) (al := al) hd hS hn hn2 2 n 0 (by omega)
    refine PW.post ?_ hh
    rintro r τ ⟨h1, h2⟩
    exact ⟨by rw [h1]; rfl, h2⟩
  by_cases w3_3 : what = 3
  · rw [w3_3]
    refine pw_tsIn (off := 77) (tgt := 80) dX12_look_3 (by decide) (by decide) (by decide) (by decide) ?_
    refine pw_aload_n dX12_look_80 rfl ?_
    refine pw_getI dX12_look_81 flX12_130 rfl (hS.at rfl rfl rfl) ?_
    refine pw_iret dX12_look_84 rfl rfl ?_
    exact ⟨rfl, rfl⟩
  by_cases w3_4 : what = 4
  · rw [w3_4]
    refine pw_tsIn (off := 82) (tgt := 85) dX12_look_3 (by decide) (by decide) (by decide) (by decide) ?_
    refine pw_aload_n dX12_look_85 rfl ?_
    refine pw_getI dX12_look_86 flX12_133 rfl (hS.at rfl rfl rfl) ?_
    refine pw_iret dX12_look_89 rfl rfl ?_
    exact ⟨rfl, rfl⟩
  refine pw_tsOut (tgt := 90) dX12_look_3 (by have a0 := sw_ne w3_0 (z := 0) rfl; have a1 := sw_ne w3_1 (z := 1) rfl; have a2 := sw_ne w3_2 (z := 2) rfl; have a3 := sw_ne w3_3 (z := 3) rfl; have a4 := sw_ne w3_4 (z := 4) rfl; omega) (by decide) ?_
  refine pw_iconst (v := (-1)) dX12_look_90 (by decide) ?_
  refine pw_iret dX12_look_91 rfl rfl ?_
  refine ⟨?_, rfl⟩
  unfold m_look
  rw [if_neg w3_0, if_neg w3_1, if_neg w3_2, if_neg w3_3, if_neg w3_4]
