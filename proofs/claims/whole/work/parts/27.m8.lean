/-! ===== the reference: what was seen, again; the tape ===== -/
abbrev snP (σ : pm_S) (g a b : Int32) (i : Nat) : Prop := sb (qI σ 59 i) g = 1 ∧ sb (qI σ 60 i) a = 1 ∧ sb (qI σ 60 i) b = 1
def m_sn (σ : pm_S) (g a b : Int32) : Nat → Nat
  | 0 => 0
  | i + 1 => m_sn σ g a b i + if snP σ g a b i then 1 else 0
theorem m_sn_le (σ : pm_S) (g a b : Int32) : ∀ i, m_sn σ g a b i ≤ i
  | 0 => Nat.le_refl _
  | i + 1 => by
    have := m_sn_le σ g a b i
    show m_sn σ g a b i + (if snP σ g a b i then 1 else 0) ≤ i + 1
    split <;> omega
theorem s_seenOf_lp {d al n : Nat} {σ : pm_S} (hS : pm_fix σ) (hn : qI σ 43 3 = nI n) (hn2 : n ≤ 60) (g a b : Int32) : ∀ (k i : Nat), i + k = n → PW d al MX12_seenOf 6 [.ref 43, .int g, .int a, .int b, .int (nI (m_sn σ g a b i)), .int (nI i)] [] σ (fun r τ => r = some (.int (nI (m_sn σ g a b n))) ∧ τ = σ) := by
  intro k
  induction k with
  | zero =>
    intro i hi
    refine pw_iload dX12_seenOf_6 rfl ?_
    refine pw_aload_n dX12_seenOf_8 rfl ?_
    refine pw_getI dX12_seenOf_9 flX12_130 rfl (hS.at rfl rfl rfl) ?_
    refine pw_icmp_ge (tgt := 76) dX12_seenOf_12 (by decide) (fun h12 => ?_) (fun h12 => ?_)
    · refine pw_iload dX12_seenOf_76 rfl ?_
      refine pw_iret dX12_seenOf_78 rfl rfl ?_
      exact ⟨by rw [show i = n by omega], rfl⟩
    · exact absurd (by rw [hn]; exact nI_le (by omega) (by omega)) h12
  | succ k ih =>
    intro i hi
    have hi2 : i < 60 := by omega
    have hh := ih (i + 1) (by omega)
    have hu : m_sn σ g a b (i + 1) = m_sn σ g a b i + if snP σ g a b i then 1 else 0 := rfl
    rw [hu, nI_succ] at hh
    refine pw_iload dX12_seenOf_6 rfl ?_
    refine pw_aload_n dX12_seenOf_8 rfl ?_
    refine pw_getI dX12_seenOf_9 flX12_130 rfl (hS.at rfl rfl rfl) ?_
    refine pw_icmp_ge (tgt := 76) dX12_seenOf_12 (by decide) (fun h12 => ?_) (fun h12 => ?_)
    · exact absurd (by rw [hn] at h12; exact h12) (nI_ge (show i < n by omega) (by omega))
    · refine pw_iload dX12_seenOf_15 rfl ?_
      refine pw_aload_n dX12_seenOf_17 rfl ?_
      refine pw_getF (v := 59) dX12_seenOf_18 flX12_55 rfl (hS.at rfl rfl rfl) (hS.rf (43, 19, 59) rfl (by decide)) ?_
      refine pw_iload dX12_seenOf_21 rfl ?_
      refine pw_iald dX12_seenOf_23 (hS.at rfl rfl rfl) rfl (hS.lt rfl rfl hi2 rfl) (by omega) ?_
      refine pw_iload_n dX12_seenOf_24 rfl ?_
      refine pw_ishr dX12_seenOf_25 ?_
      refine pw_iconst (v := 1) dX12_seenOf_26 (by decide) ?_
      refine pw_iand dX12_seenOf_27 ?_
      refine pw_iconst (v := 1) dX12_seenOf_28 (by decide) ?_
      refine pw_icmp_ne (tgt := 66) dX12_seenOf_29 (by decide) (fun h29 => ?_) (fun h29 => ?_)
      · refine pw_iconst (v := 0) dX12_seenOf_66 (by decide) ?_
        refine pw_iadd dX12_seenOf_67 ?_
        refine pw_istore dX12_seenOf_68 (Nat.le_of_ble_eq_true rfl) (Nat.le_of_ble_eq_true rfl) rfl ?_
        refine pw_iinc1 dX12_seenOf_70 rfl (Nat.le_of_ble_eq_true rfl) (Nat.le_of_ble_eq_true rfl) rfl ?_
        refine pw_goto (tgt := 6) dX12_seenOf_73 (by decide) ?_
        by_cases hp : snP σ g a b i
        · rw [if_pos hp, nI_succ] at hh
          first | exact hh | exact absurd hp.1 h29 | exact absurd hp.2.1 h44 | exact absurd hp.2.2 h59
        · rw [if_neg hp, Nat.add_zero] at hh
          rw [show nI (m_sn σ g a b i) + 0 = nI (m_sn σ g a b i) from Int32.add_zero _]
          exact hh
      · refine pw_aload_n dX12_seenOf_32 rfl ?_
        refine pw_getF (v := 60) dX12_seenOf_33 flX12_58 rfl (hS.at rfl rfl rfl) (hS.rf (43, 20, 60) rfl (by decide)) ?_
        refine pw_iload dX12_seenOf_36 rfl ?_
        refine pw_iald dX12_seenOf_38 (hS.at rfl rfl rfl) rfl (hS.lt rfl rfl hi2 rfl) (by omega) ?_
        refine pw_iload_n dX12_seenOf_39 rfl ?_
        refine pw_ishr dX12_seenOf_40 ?_
        refine pw_iconst (v := 1) dX12_seenOf_41 (by decide) ?_
        refine pw_iand dX12_seenOf_42 ?_
        refine pw_iconst (v := 1) dX12_seenOf_43 (by decide) ?_
        refine pw_icmp_ne (tgt := 66) dX12_seenOf_44 (by decide) (fun h44 => ?_) (fun h44 => ?_)
        · refine pw_iconst (v := 0) dX12_seenOf_66 (by decide) ?_
          refine pw_iadd dX12_seenOf_67 ?_
          refine pw_istore dX12_seenOf_68 (Nat.le_of_ble_eq_true rfl) (Nat.le_of_ble_eq_true rfl) rfl ?_
          refine pw_iinc1 dX12_seenOf_70 rfl (Nat.le_of_ble_eq_true rfl) (Nat.le_of_ble_eq_true rfl) rfl ?_
          refine pw_goto (tgt := 6) dX12_seenOf_73 (by decide) ?_
          by_cases hp : snP σ g a b i
          · rw [if_pos hp, nI_succ] at hh
            first | exact hh | exact absurd hp.1 h29 | exact absurd hp.2.1 h44 | exact absurd hp.2.2 h59
          · rw [if_neg hp, Nat.add_zero] at hh
            rw [show nI (m_sn σ g a b i) + 0 = nI (m_sn σ g a b i) from Int32.add_zero _]
            exact hh
        · refine pw_aload_n dX12_seenOf_47 rfl ?_
          refine pw_getF (v := 60) dX12_seenOf_48 flX12_58 rfl (hS.at rfl rfl rfl) (hS.rf (43, 20, 60) rfl (by decide)) ?_
          refine pw_iload dX12_seenOf_51 rfl ?_
          refine pw_iald dX12_seenOf_53 (hS.at rfl rfl rfl) rfl (hS.lt rfl rfl hi2 rfl) (by omega) ?_
          refine pw_iload_n dX12_seenOf_54 rfl ?_
          refine pw_ishr dX12_seenOf_55 ?_
          refine pw_iconst (v := 1) dX12_seenOf_56 (by decide) ?_
          refine pw_iand dX12_seenOf_57 ?_
          refine pw_iconst (v := 1) dX12_seenOf_58 (by decide) ?_
          refine pw_icmp_ne (tgt := 66) dX12_seenOf_59 (by decide) (fun h59 => ?_) (fun h59 => ?_)
          · refine pw_iconst (v := 0) dX12_seenOf_66 (by decide) ?_
            refine pw_iadd dX12_seenOf_67 ?_
            refine pw_istore dX12_seenOf_68 (Nat.le_of_ble_eq_true rfl) (Nat.le_of_ble_eq_true rfl) rfl ?_
            refine pw_iinc1 dX12_seenOf_70 rfl (Nat.le_of_ble_eq_true rfl) (Nat.le_of_ble_eq_true rfl) rfl ?_
            refine pw_goto (tgt := 6) dX12_seenOf_73 (by decide) ?_
            by_cases hp : snP σ g a b i
            · rw [if_pos hp, nI_succ] at hh
              first | exact hh | exact absurd hp.1 h29 | exact absurd hp.2.1 h44 | exact absurd hp.2.2 h59
            · rw [if_neg hp, Nat.add_zero] at hh
              rw [show nI (m_sn σ g a b i) + 0 = nI (m_sn σ g a b i) from Int32.add_zero _]
              exact hh
          · refine pw_iconst (v := 1) dX12_seenOf_62 (by decide) ?_
            refine pw_goto (tgt := 67) dX12_seenOf_63 (by decide) ?_
            refine pw_iadd dX12_seenOf_67 ?_
            refine pw_istore dX12_seenOf_68 (Nat.le_of_ble_eq_true rfl) (Nat.le_of_ble_eq_true rfl) rfl ?_
            refine pw_iinc1 dX12_seenOf_70 rfl (Nat.le_of_ble_eq_true rfl) (Nat.le_of_ble_eq_true rfl) rfl ?_
            refine pw_goto (tgt := 6) dX12_seenOf_73 (by decide) ?_
            rw [if_pos ⟨h29, h44, h59⟩, nI_succ] at hh
            exact hh
theorem s_seenOf {d al n : Nat} {σ : pm_S} (hS : pm_fix σ) (hn : qI σ 43 3 = nI n) (hn2 : n ≤ 60) (g a b : Int32) : PE d al MX12_seenOf [.ref 43, .int g, .int a, .int b] σ (some (.int (nI (m_sn σ g a b n)))) σ := by
  show PW _ _ _ _ _ _ _ _
  refine pw_iconst (v := 0) dX12_seenOf_0 (by decide) ?_
  refine pw_istore dX12_seenOf_1 (Nat.le_of_ble_eq_true rfl) (Nat.le_of_ble_eq_true rfl) rfl ?_
  refine pw_iconst (v := 0) dX12_seenOf_3 (by decide) ?_
  refine pw_istore dX12_seenOf_4 (Nat.le_of_ble_eq_true rfl) (Nat.le_of_ble_eq_true rfl) rfl ?_
  exact s_seenOf_lp hS hn hn2 g a b n 0 (by omega)
abbrev okSeen (n : Nat) (g a b : Int32) : Prop := (0 ≤ g ∧ g ≤ 7) ∧ tOk n a ∧ tOk n b
theorem s_seen {d al n m : Nat} {σ : pm_S} (hd : 2 ≤ d) (hS : pm_fix σ) (hn : qI σ 43 1 = nI n) (hm : qI σ 43 3 = nI m) (hm2 : m ≤ 60) (g a b : Int32) : PE d al MX12_seen [.ref 43, .int g, .int a, .int b] σ (some (.int (if okSeen n g a b then nI (m_sn σ g a b m) else -1))) σ := by
  show PW _ _ _ _ _ _ _ _
  refine pw_iload_n dX12_seen_0 rfl ?_
  refine pw_iconst (v := 0) dX12_seen_1 (by decide) ?_
  refine pw_bipush (v := 7) dX12_seen_2 (by decide) ?_
  refine pw_cS3 (d1 := d - 1) (a1 := 0) (a2 := al) dX12_seen_4 mtX12_isIn stX12_isIn mlX12_86 (Nat.le_of_ble_eq_true rfl) (Nat.le_of_ble_eq_true rfl) (by omega) (by omega) (s_isIn _ _ _) ?_
  rintro r_ τ_ ⟨hr_, ht_⟩; subst r_; subst τ_
  refine pw_if_eq (tgt := 36) dX12_seen_7 (by decide) (fun h7 => ?_) (fun h7 => ?_)
  · refine pw_iconst (v := (-1)) dX12_seen_36 (by decide) ?_
    refine pw_iret dX12_seen_37 rfl rfl ?_
    refine ⟨?_, rfl⟩
    by_cases hok : okSeen n g a b
    · rw [if_pos hok]
      first | done | rfl | exact absurd hok.1 (bI_0.mp h7) | (rw [hn] at h15; exact absurd hok.2.1 (bI_0.mp h15)) | (rw [hn] at h23; exact absurd hok.2.2 (bI_0.mp h23))
    · rw [if_neg hok]
      first | done | rfl | (rw [hn] at h15 h23; exact absurd ⟨bI_n.mp h7, bI_n.mp h15, bI_n.mp h23⟩ hok)
  · refine pw_aload_n dX12_seen_10 rfl ?_
    refine pw_iload_n dX12_seen_11 rfl ?_
    refine pw_cV1 (d1 := d - 1) (a1 := 0) (a2 := al) dX12_seen_12 mtX12_isThing ivX12_isThing mlX12_93 (Nat.le_of_ble_eq_true rfl) (Nat.le_of_ble_eq_true rfl) (by omega) (by omega) (hS.at rfl rfl rfl) rfl rfl (s_isThing (by omega) hS _) ?_
    rintro r_ τ_ ⟨hr_, ht_⟩; subst r_; subst τ_
    refine pw_if_eq (tgt := 36) dX12_seen_15 (by decide) (fun h15 => ?_) (fun h15 => ?_)
    · refine pw_iconst (v := (-1)) dX12_seen_36 (by decide) ?_
      refine pw_iret dX12_seen_37 rfl rfl ?_
      refine ⟨?_, rfl⟩
      by_cases hok : okSeen n g a b
      · rw [if_pos hok]
        first | done | rfl | exact absurd hok.1 (bI_0.mp h7) | (rw [hn] at h15; exact absurd hok.2.1 (bI_0.mp h15)) | (rw [hn] at h23; exact absurd hok.2.2 (bI_0.mp h23))
      · rw [if_neg hok]
        first | done | rfl | (rw [hn] at h15 h23; exact absurd ⟨bI_n.mp h7, bI_n.mp h15, bI_n.mp h23⟩ hok)
    · refine pw_aload_n dX12_seen_18 rfl ?_
      refine pw_iload_n dX12_seen_19 rfl ?_
      refine pw_cV1 (d1 := d - 1) (a1 := 0) (a2 := al) dX12_seen_20 mtX12_isThing ivX12_isThing mlX12_93 (Nat.le_of_ble_eq_true rfl) (Nat.le_of_ble_eq_true rfl) (by omega) (by omega) (hS.at rfl rfl rfl) rfl rfl (s_isThing (by omega) hS _) ?_
      rintro r_ τ_ ⟨hr_, ht_⟩; subst r_; subst τ_
      refine pw_if_eq (tgt := 36) dX12_seen_23 (by decide) (fun h23 => ?_) (fun h23 => ?_)
      · refine pw_iconst (v := (-1)) dX12_seen_36 (by decide) ?_
        refine pw_iret dX12_seen_37 rfl rfl ?_
        refine ⟨?_, rfl⟩
        by_cases hok : okSeen n g a b
        · rw [if_pos hok]
          first | done | rfl | exact absurd hok.1 (bI_0.mp h7) | (rw [hn] at h15; exact absurd hok.2.1 (bI_0.mp h15)) | (rw [hn] at h23; exact absurd hok.2.2 (bI_0.mp h23))
        · rw [if_neg hok]
          first | done | rfl | (rw [hn] at h15 h23; exact absurd ⟨bI_n.mp h7, bI_n.mp h15, bI_n.mp h23⟩ hok)
      · refine pw_aload_n dX12_seen_26 rfl ?_
        refine pw_iload_n dX12_seen_27 rfl ?_
        refine pw_iload_n dX12_seen_28 rfl ?_
        refine pw_iload_n dX12_seen_29 rfl ?_
        refine pw_cV3 (d1 := d - 1) (a1 := 0) (a2 := al) dX12_seen_30 mtX12_seenOf ivX12_seenOf mlX12_148 (Nat.le_of_ble_eq_true rfl) (Nat.le_of_ble_eq_true rfl) (by omega) (by omega) (hS.at rfl rfl rfl) rfl rfl (s_seenOf hS hm hm2 _ _ _) ?_
        rintro r_ τ_ ⟨hr_, ht_⟩; subst r_; subst τ_
        refine pw_goto (tgt := 37) dX12_seen_33 (by decide) ?_
        refine pw_iret dX12_seen_37 rfl rfl ?_
        refine ⟨?_, rfl⟩
        by_cases hok : okSeen n g a b
        · rw [if_pos hok]
          first | done | rfl | exact absurd hok.1 (bI_0.mp h7) | (rw [hn] at h15; exact absurd hok.2.1 (bI_0.mp h15)) | (rw [hn] at h23; exact absurd hok.2.2 (bI_0.mp h23))
        · rw [if_neg hok]
          first | done | rfl | (rw [hn] at h15 h23; exact absurd ⟨bI_n.mp h7, bI_n.mp h15, bI_n.mp h23⟩ hok)
/-! again: the pairs of a guest -/
abbrev abP (σ : pm_S) (G : Nat) (set g : Int32) (a b : Nat) : Prop := a + 1 ≤ b ∧ sb set (nI a) = 1 ∧ sb set (nI b) = 1 ∧ 0 < m_sn σ g (nI a) (nI b) G
def m_ab (σ : pm_S) (G : Nat) (set g : Int32) (a : Nat) : Nat → Nat
  | 0 => 0
  | b + 1 => m_ab σ G set g a b + if abP σ G set g a b then 1 else 0
theorem m_ab_0 (σ : pm_S) (G : Nat) (set g : Int32) (a : Nat) : ∀ b, b ≤ a + 1 → m_ab σ G set g a b = 0
  | 0, _ => rfl
  | b + 1, h => by
    show m_ab σ G set g a b + (if abP σ G set g a b then 1 else 0) = 0
    rw [m_ab_0 σ G set g a b (by omega), if_neg (fun z => by have := z.1; omega)]
def m_aa (σ : pm_S) (G N : Nat) (set g : Int32) : Nat → Nat
  | 0 => 0
  | a + 1 => m_aa σ G N set g a + m_ab σ G set g a N
abbrev agP (σ : pm_S) (set g : Int32) (i : Nat) : Prop := sb (qI σ 59 i) g = 1 ∧ qI σ 60 i = set
def m_ai (σ : pm_S) (set g : Int32) : Nat → Nat
  | 0 => 0
  | i + 1 => m_ai σ set g i + if agP σ set g i then 10 else 0
def m_ag (σ : pm_S) (G N : Nat) (guests set : Int32) : Nat → Nat
  | 0 => 0
  | g + 1 => m_ag σ G N guests set g + if sb guests (nI g) = 0 then 0 else m_aa σ G N set (nI g) N + m_ai σ set (nI g) G
theorem s_again_b {d al n m : Nat} {σ : pm_S} {Q : Option Value → pm_S → Prop} (hd : 1 ≤ d) (hS : pm_fix σ) (hn : qI σ 43 1 = nI n) (hn2 : n ≤ 20) (hm : qI σ 43 3 = nI m) (hm2 : m ≤ 60) (guests set : Int32) (s g a : Nat) (ha : a < n)
    (kk : PW d al MX12_againOf 93 [.ref 43, .int guests, .int set, .int (nI (s + m_ab σ m set (nI g) a n)), .int (nI g), .int (nI a), .int (nI n)] [] σ Q) : ∀ (k b : Nat), a + 1 ≤ b → b + k = n → PW d al MX12_againOf 42 [.ref 43, .int guests, .int set, .int (nI (s + m_ab σ m set (nI g) a b)), .int (nI g), .int (nI a), .int (nI b)] [] σ Q := by
  intro k
  induction k with
  | zero =>
    intro b hab hb
    refine pw_iload dX12_againOf_42 rfl ?_
    refine pw_aload_n dX12_againOf_44 rfl ?_
    refine pw_getI dX12_againOf_45 flX12_90 rfl (hS.at rfl rfl rfl) ?_
    refine pw_icmp_ge (tgt := 93) dX12_againOf_48 (by decide) (fun h48 => ?_) (fun h48 => ?_)
    · rw [show b = n by omega]
      exact kk
    · exact absurd (by rw [hn]; exact nI_le (by omega) (by omega)) h48
  | succ k ih =>
    intro b hab hb
    have hb2 : b < n := by omega
    have hh := ih (b + 1) (by omega) (by omega)
    have hu : m_ab σ m set (nI g) a (b + 1) = m_ab σ m set (nI g) a b + if abP σ m set (nI g) a b then 1 else 0 := rfl
    have hsm := m_sn_le σ (nI g) (nI a) (nI b) m
    rw [hu, nI_succ b] at hh
    have h0 : ∀ {x : Nat}, (nI x ≤ 0) → x < 100 → x = 0 := fun {x} h h2 => by
      rcases Nat.eq_zero_or_pos x with h3 | h3
      · exact h3
      · exact absurd h (nI_nle h3 (by omega))
    refine pw_iload dX12_againOf_42 rfl ?_
    refine pw_aload_n dX12_againOf_44 rfl ?_
    refine pw_getI dX12_againOf_45 flX12_90 rfl (hS.at rfl rfl rfl) ?_
    refine pw_icmp_ge (tgt := 93) dX12_againOf_48 (by decide) (fun h48 => ?_) (fun h48 => ?_)
    · exact absurd (by rw [hn] at h48; exact h48) (nI_ge hb2 (by omega))
    · refine pw_iload_n dX12_againOf_51 rfl ?_
      refine pw_iload dX12_againOf_52 rfl ?_
      refine pw_ishr dX12_againOf_54 ?_
      refine pw_iconst (v := 1) dX12_againOf_55 (by decide) ?_
      refine pw_iand dX12_againOf_56 ?_
      refine pw_iconst (v := 1) dX12_againOf_57 (by decide) ?_
      refine pw_icmp_ne (tgt := 87) dX12_againOf_58 (by decide) (fun h58 => ?_) (fun h58 => ?_)
      · refine pw_iinc1 dX12_againOf_87 rfl (Nat.le_of_ble_eq_true rfl) (Nat.le_of_ble_eq_true rfl) rfl ?_
        refine pw_goto (tgt := 42) dX12_againOf_90 (by decide) ?_
        by_cases hp : abP σ m set (nI g) a b
        · rw [if_pos hp, ← Nat.add_assoc, nI_succ] at hh
          first | exact hh | exact absurd hp.2.1 h58 | exact absurd hp.2.2.1 h68 | exact absurd (h0 h81 (by omega)) (by have := hp.2.2.2; omega)
        · rw [if_neg hp, Nat.add_zero] at hh
          first | exact hh | (exfalso; apply hp; exact ⟨hab, h58, h68, Nat.pos_of_ne_zero (fun z => h81 (by rw [z]; decide))⟩)
      · refine pw_iload_n dX12_againOf_61 rfl ?_
        refine pw_iload dX12_againOf_62 rfl ?_
        refine pw_ishr dX12_againOf_64 ?_
        refine pw_iconst (v := 1) dX12_againOf_65 (by decide) ?_
        refine pw_iand dX12_againOf_66 ?_
        refine pw_iconst (v := 1) dX12_againOf_67 (by decide) ?_
        refine pw_icmp_ne (tgt := 87) dX12_againOf_68 (by decide) (fun h68 => ?_) (fun h68 => ?_)
        · refine pw_iinc1 dX12_againOf_87 rfl (Nat.le_of_ble_eq_true rfl) (Nat.le_of_ble_eq_true rfl) rfl ?_
          refine pw_goto (tgt := 42) dX12_againOf_90 (by decide) ?_
          by_cases hp : abP σ m set (nI g) a b
          · rw [if_pos hp, ← Nat.add_assoc, nI_succ] at hh
            first | exact hh | exact absurd hp.2.1 h58 | exact absurd hp.2.2.1 h68 | exact absurd (h0 h81 (by omega)) (by have := hp.2.2.2; omega)
          · rw [if_neg hp, Nat.add_zero] at hh
            first | exact hh | (exfalso; apply hp; exact ⟨hab, h58, h68, Nat.pos_of_ne_zero (fun z => h81 (by rw [z]; decide))⟩)
        · refine pw_aload_n dX12_againOf_71 rfl ?_
          refine pw_iload dX12_againOf_72 rfl ?_
          refine pw_iload dX12_againOf_74 rfl ?_
          refine pw_iload dX12_againOf_76 rfl ?_
          refine pw_cV3 (d1 := d - 1) (a1 := 0) (a2 := al) dX12_againOf_78 mtX12_seenOf ivX12_seenOf mlX12_148 (Nat.le_of_ble_eq_true rfl) (Nat.le_of_ble_eq_true rfl) (by omega) (by omega) (hS.at rfl rfl rfl) rfl rfl (s_seenOf hS hm hm2 _ _ _) ?_
          rintro r_ τ_ ⟨hr_, ht_⟩; subst r_; subst τ_
          refine pw_if_le (tgt := 87) dX12_againOf_81 (by decide) (fun h81 => ?_) (fun h81 => ?_)
          · refine pw_iinc1 dX12_againOf_87 rfl (Nat.le_of_ble_eq_true rfl) (Nat.le_of_ble_eq_true rfl) rfl ?_
            refine pw_goto (tgt := 42) dX12_againOf_90 (by decide) ?_
            by_cases hp : abP σ m set (nI g) a b
            · rw [if_pos hp, ← Nat.add_assoc, nI_succ] at hh
              first | exact hh | exact absurd hp.2.1 h58 | exact absurd hp.2.2.1 h68 | exact absurd (h0 h81 (by omega)) (by have := hp.2.2.2; omega)
            · rw [if_neg hp, Nat.add_zero] at hh
              first | exact hh | (exfalso; apply hp; exact ⟨hab, h58, h68, Nat.pos_of_ne_zero (fun z => h81 (by rw [z]; decide))⟩)
          · refine pw_iinc1 dX12_againOf_84 rfl (Nat.le_of_ble_eq_true rfl) (Nat.le_of_ble_eq_true rfl) rfl ?_
            refine pw_iinc1 dX12_againOf_87 rfl (Nat.le_of_ble_eq_true rfl) (Nat.le_of_ble_eq_true rfl) rfl ?_
            refine pw_goto (tgt := 42) dX12_againOf_90 (by decide) ?_
            by_cases hp : abP σ m set (nI g) a b
            · rw [if_pos hp, ← Nat.add_assoc, nI_succ] at hh
              first | exact hh | exact absurd hp.2.1 h58 | exact absurd hp.2.2.1 h68 | exact absurd (h0 h81 (by omega)) (by have := hp.2.2.2; omega)
            · rw [if_neg hp, Nat.add_zero] at hh
              first | exact hh | (exfalso; apply hp; exact ⟨hab, h58, h68, Nat.pos_of_ne_zero (fun z => h81 (by rw [z]; decide))⟩)
theorem s_again_a {d al n m : Nat} {σ : pm_S} {Q : Option Value → pm_S → Prop} (hd : 1 ≤ d) (hS : pm_fix σ) (hn : qI σ 43 1 = nI n) (hn2 : n ≤ 20) (hm : qI σ 43 3 = nI m) (hm2 : m ≤ 60) (guests set : Int32) (s g : Nat)
    (kk : ∀ x : Value, pm_un x = true ∨ (∃ y, x = .int y) → PW d al MX12_againOf 99 [.ref 43, .int guests, .int set, .int (nI (s + m_aa σ m n set (nI g) n)), .int (nI g), .int (nI n), x] [] σ Q) : ∀ (k a : Nat) (x : Value), (pm_un x = true ∨ ∃ y, x = .int y) → a + k = n → PW d al MX12_againOf 27 [.ref 43, .int guests, .int set, .int (nI (s + m_aa σ m n set (nI g) a)), .int (nI g), .int (nI a), x] [] σ Q := by
  intro k
  induction k with
  | zero =>
    intro a x hx ha
    refine pw_iload dX12_againOf_27 rfl ?_
    refine pw_aload_n dX12_againOf_29 rfl ?_
    refine pw_getI dX12_againOf_30 flX12_90 rfl (hS.at rfl rfl rfl) ?_
    refine pw_icmp_ge (tgt := 99) dX12_againOf_33 (by decide) (fun h33 => ?_) (fun h33 => ?_)
    · rw [show a = n by omega]
      exact kk x hx
    · exact absurd (by rw [hn]; exact nI_le (by omega) (by omega)) h33
  | succ k ih =>
    intro a x hx ha
    have ha2 : a < n := by omega
    have hu : m_aa σ m n set (nI g) (a + 1) = m_aa σ m n set (nI g) a + m_ab σ m set (nI g) a n := rfl
    have hh := ih (a + 1) (.int (nI n)) (Or.inr ⟨_, rfl⟩) (by omega)
    rw [hu, nI_succ a, ← Nat.add_assoc] at hh
    refine pw_iload dX12_againOf_27 rfl ?_
    refine pw_aload_n dX12_againOf_29 rfl ?_
    refine pw_getI dX12_againOf_30 flX12_90 rfl (hS.at rfl rfl rfl) ?_
    refine pw_icmp_ge (tgt := 99) dX12_againOf_33 (by decide) (fun h33 => ?_) (fun h33 => ?_)
    · exact absurd (by rw [hn] at h33; exact h33) (nI_ge ha2 (by omega))
    · refine pw_iload dX12_againOf_36 rfl ?_
      refine pw_iconst (v := 1) dX12_againOf_38 (by decide) ?_
      refine pw_iadd dX12_againOf_39 ?_
      refine pw_istore dX12_againOf_40 (Nat.le_of_ble_eq_true rfl) (Nat.le_of_ble_eq_true rfl) rfl ?_
      have hb := s_again_b (d := d) (al := al) (Q := Q) hd hS hn hn2 hm hm2 guests set (s + m_aa σ m n set (nI g) a) g a ha2 ?_ (n - (a + 1)) (a + 1) (Nat.le_refl _) (by omega)
      · rw [m_ab_0 _ _ _ _ _ _ (Nat.le_refl _), Nat.add_zero, nI_succ] at hb
        exact hb
      · refine pw_iinc1 dX12_againOf_93 rfl (Nat.le_of_ble_eq_true rfl) (Nat.le_of_ble_eq_true rfl) rfl ?_
        refine pw_goto (tgt := 27) dX12_againOf_96 (by decide) ?_
        exact hh
theorem s_again_i {d al m : Nat} {σ : pm_S} {Q : Option Value → pm_S → Prop} (hS : pm_fix σ) (hm : qI σ 43 3 = nI m) (hm2 : m ≤ 60) (guests set : Int32) (s g : Nat) (x : Value)
    (kk : PW d al MX12_againOf 153 [.ref 43, .int guests, .int set, .int (nI (s + m_ai σ set (nI g) m)), .int (nI g), .int (nI m), x] [] σ Q) : ∀ (k i : Nat), i + k = m → PW d al MX12_againOf 102 [.ref 43, .int guests, .int set, .int (nI (s + m_ai σ set (nI g) i)), .int (nI g), .int (nI i), x] [] σ Q := by
  intro k
  induction k with
  | zero =>
    intro i hi
    refine pw_iload dX12_againOf_102 rfl ?_
    refine pw_aload_n dX12_againOf_104 rfl ?_
    refine pw_getI dX12_againOf_105 flX12_130 rfl (hS.at rfl rfl rfl) ?_
    refine pw_icmp_ge (tgt := 153) dX12_againOf_108 (by decide) (fun h108 => ?_) (fun h108 => ?_)
    · rw [show i = m by omega]
      exact kk
    · exact absurd (by rw [hm]; exact nI_le (by omega) (by omega)) h108
  | succ k ih =>
    intro i hi
    have hi2 : i < 60 := by omega
    have hh := ih (i + 1) (by omega)
    have hu : m_ai σ set (nI g) (i + 1) = m_ai σ set (nI g) i + if agP σ set (nI g) i then 10 else 0 := rfl
    rw [hu, nI_succ i] at hh
    refine pw_iload dX12_againOf_102 rfl ?_
    refine pw_aload_n dX12_againOf_104 rfl ?_
    refine pw_getI dX12_againOf_105 flX12_130 rfl (hS.at rfl rfl rfl) ?_
    refine pw_icmp_ge (tgt := 153) dX12_againOf_108 (by decide) (fun h108 => ?_) (fun h108 => ?_)
    · exact absurd (by rw [hm] at h108; exact h108) (nI_ge (show i < m by omega) (by omega))
    · refine pw_iload_n dX12_againOf_111 rfl ?_
      refine pw_aload_n dX12_againOf_112 rfl ?_
      refine pw_getF (v := 59) dX12_againOf_113 flX12_55 rfl (hS.at rfl rfl rfl) (hS.rf (43, 19, 59) rfl (by decide)) ?_
      refine pw_iload dX12_againOf_116 rfl ?_
      refine pw_iald dX12_againOf_118 (hS.at rfl rfl rfl) rfl (hS.lt rfl rfl hi2 rfl) (by omega) ?_
      refine pw_iload dX12_againOf_119 rfl ?_
      refine pw_ishr dX12_againOf_121 ?_
      refine pw_iconst (v := 1) dX12_againOf_122 (by decide) ?_
      refine pw_iand dX12_againOf_123 ?_
      refine pw_iconst (v := 1) dX12_againOf_124 (by decide) ?_
      refine pw_icmp_ne (tgt := 144) dX12_againOf_125 (by decide) (fun h125 => ?_) (fun h125 => ?_)
      · refine pw_iconst (v := 0) dX12_againOf_144 (by decide) ?_
        refine pw_iadd dX12_againOf_145 ?_
        refine pw_istore_n dX12_againOf_146 (Nat.le_of_ble_eq_true rfl) (Nat.le_of_ble_eq_true rfl) rfl ?_
        refine pw_iinc1 dX12_againOf_147 rfl (Nat.le_of_ble_eq_true rfl) (Nat.le_of_ble_eq_true rfl) rfl ?_
        refine pw_goto (tgt := 102) dX12_againOf_150 (by decide) ?_
        by_cases hp : agP σ set (nI g) i
        · rw [if_pos hp, ← Nat.add_assoc, ← nI_add] at hh
          first | exact hh | exact absurd hp.1 h125 | exact absurd hp.2 h136
        · rw [if_neg hp, Nat.add_zero] at hh
          first | (rw [show nI (s + m_ai σ set (nI g) i) + 0 = nI (s + m_ai σ set (nI g) i) from Int32.add_zero _]; exact hh) | exact absurd ⟨h125, h136⟩ hp
      · refine pw_aload_n dX12_againOf_128 rfl ?_
        refine pw_getF (v := 60) dX12_againOf_129 flX12_58 rfl (hS.at rfl rfl rfl) (hS.rf (43, 20, 60) rfl (by decide)) ?_
        refine pw_iload dX12_againOf_132 rfl ?_
        refine pw_iald dX12_againOf_134 (hS.at rfl rfl rfl) rfl (hS.lt rfl rfl hi2 rfl) (by omega) ?_
        refine pw_iload_n dX12_againOf_135 rfl ?_
        refine pw_icmp_ne (tgt := 144) dX12_againOf_136 (by decide) (fun h136 => ?_) (fun h136 => ?_)
        · refine pw_iconst (v := 0) dX12_againOf_144 (by decide) ?_
          refine pw_iadd dX12_againOf_145 ?_
          refine pw_istore_n dX12_againOf_146 (Nat.le_of_ble_eq_true rfl) (Nat.le_of_ble_eq_true rfl) rfl ?_
          refine pw_iinc1 dX12_againOf_147 rfl (Nat.le_of_ble_eq_true rfl) (Nat.le_of_ble_eq_true rfl) rfl ?_
          refine pw_goto (tgt := 102) dX12_againOf_150 (by decide) ?_
          by_cases hp : agP σ set (nI g) i
          · rw [if_pos hp, ← Nat.add_assoc, ← nI_add] at hh
            first | exact hh | exact absurd hp.1 h125 | exact absurd hp.2 h136
          · rw [if_neg hp, Nat.add_zero] at hh
            first | (rw [show nI (s + m_ai σ set (nI g) i) + 0 = nI (s + m_ai σ set (nI g) i) from Int32.add_zero _]; exact hh) | exact absurd ⟨h125, h136⟩ hp
        · refine pw_bipush (v := 10) dX12_againOf_139 (by decide) ?_
          refine pw_goto (tgt := 145) dX12_againOf_141 (by decide) ?_
          refine pw_iadd dX12_againOf_145 ?_
          refine pw_istore_n dX12_againOf_146 (Nat.le_of_ble_eq_true rfl) (Nat.le_of_ble_eq_true rfl) rfl ?_
          refine pw_iinc1 dX12_againOf_147 rfl (Nat.le_of_ble_eq_true rfl) (Nat.le_of_ble_eq_true rfl) rfl ?_
          refine pw_goto (tgt := 102) dX12_againOf_150 (by decide) ?_
          by_cases hp : agP σ set (nI g) i
          · rw [if_pos hp, ← Nat.add_assoc, ← nI_add] at hh
            first | exact hh | exact absurd hp.1 h125 | exact absurd hp.2 h136
          · rw [if_neg hp, Nat.add_zero] at hh
            first | (rw [show nI (s + m_ai σ set (nI g) i) + 0 = nI (s + m_ai σ set (nI g) i) from Int32.add_zero _]; exact hh) | exact absurd ⟨h125, h136⟩ hp
theorem s_again_g {d al n m : Nat} {σ : pm_S} (hd : 1 ≤ d) (hS : pm_fix σ) (hn : qI σ 43 1 = nI n) (hn2 : n ≤ 20) (hm : qI σ 43 3 = nI m) (hm2 : m ≤ 60) (guests set : Int32) : ∀ (k g : Nat) (x y : Value), (pm_un x = true ∨ ∃ z, x = .int z) → (pm_un y = true ∨ ∃ z, y = .int z) → g + k = 8 → PW d al MX12_againOf 5 [.ref 43, .int guests, .int set, .int (nI (m_ag σ m n guests set g)), .int (nI g), x, y] [] σ (fun r τ => r = some (.int (nI (m_ag σ m n guests set 8))) ∧ τ = σ) := by
  intro k
  induction k with
  | zero =>
    intro g x y hx hy hg
    refine pw_iload dX12_againOf_5 rfl ?_
    refine pw_bipush (v := 8) dX12_againOf_7 (by decide) ?_
    refine pw_icmp_ge (tgt := 159) dX12_againOf_9 (by decide) (fun h9 => ?_) (fun h9 => ?_)
    · refine pw_iload_n dX12_againOf_159 rfl ?_
      refine pw_iret dX12_againOf_160 rfl rfl ?_
      exact ⟨by rw [show g = 8 by omega], rfl⟩
    · exact absurd (by rw [show g = 8 by omega]; decide) h9
  | succ k ih =>
    intro g x y hx hy hg
    have hu : m_ag σ m n guests set (g + 1) = m_ag σ m n guests set g + if sb guests (nI g) = 0 then 0 else m_aa σ m n set (nI g) n + m_ai σ set (nI g) m := rfl
    have hnl : ∀ w : Value, (pm_un w = true ∨ ∃ z, w = .int z) → w.category = 1 := fun w h => by
      rcases h with h | ⟨z, rfl⟩
      · cases w <;> first | done | rfl | cases h
      · rfl
    refine pw_iload dX12_againOf_5 rfl ?_
    refine pw_bipush (v := 8) dX12_againOf_7 (by decide) ?_
    refine pw_icmp_ge (tgt := 159) dX12_againOf_9 (by decide) (fun h9 => ?_) (fun h9 => ?_)
    · exact absurd h9 (nI_ge (show g < 8 by omega) (by decide))
    · refine pw_iload_n dX12_againOf_12 rfl ?_
      refine pw_iload dX12_againOf_13 rfl ?_
      refine pw_ishr dX12_againOf_15 ?_
      refine pw_iconst (v := 1) dX12_againOf_16 (by decide) ?_
      refine pw_iand dX12_againOf_17 ?_
      refine pw_if_ne (tgt := 24) dX12_againOf_18 (by decide) (fun h18 => ?_) (fun h18 => ?_)
      · refine pw_iconst (v := 0) dX12_againOf_24 (by decide) ?_
        refine pw_istore dX12_againOf_25 (Nat.le_of_ble_eq_true rfl) (Nat.le_of_ble_eq_true rfl) rfl ?_
        refine s_again_a hd hS hn hn2 hm hm2 guests set (m_ag σ m n guests set g) g ?_ n 0 y hy (by omega)
        intro y2 hy2
        refine pw_iconst (v := 0) dX12_againOf_99 (by decide) ?_
        refine pw_istore dX12_againOf_100 (Nat.le_of_ble_eq_true rfl) (Nat.le_of_ble_eq_true rfl) rfl ?_
        refine s_again_i hS hm hm2 guests set (m_ag σ m n guests set g + m_aa σ m n set (nI g) n) g y2 ?_ m 0 (by omega)
        refine pw_iinc1 dX12_againOf_153 rfl (Nat.le_of_ble_eq_true rfl) (Nat.le_of_ble_eq_true rfl) rfl ?_
        refine pw_goto (tgt := 5) dX12_againOf_156 (by decide) ?_
        have hh := ih (g + 1) (.int (nI m)) y2 (Or.inr ⟨_, rfl⟩) hy2 (by omega)
        rw [hu, nI_succ g, if_neg h18, ← Nat.add_assoc] at hh
        exact hh
      · refine pw_goto (tgt := 153) dX12_againOf_21 (by decide) ?_
        refine pw_iinc1 dX12_againOf_153 rfl (Nat.le_of_ble_eq_true rfl) (Nat.le_of_ble_eq_true rfl) rfl ?_
        refine pw_goto (tgt := 5) dX12_againOf_156 (by decide) ?_
        have hh := ih (g + 1) x y hx hy (by omega)
        rw [hu, nI_succ g, if_pos h18, Nat.add_zero] at hh
        exact hh
theorem s_againOf {d al n m : Nat} {σ : pm_S} (hd : 1 ≤ d) (hS : pm_fix σ) (hn : qI σ 43 1 = nI n) (hn2 : n ≤ 20) (hm : qI σ 43 3 = nI m) (hm2 : m ≤ 60) (guests set : Int32) : PE d al MX12_againOf [.ref 43, .int guests, .int set] σ (some (.int (nI (m_ag σ m n guests set 8)))) σ := by
  show PW _ _ _ _ _ _ _ _
  refine pw_iconst (v := 0) dX12_againOf_0 (by decide) ?_
  refine pw_istore_n dX12_againOf_1 (Nat.le_of_ble_eq_true rfl) (Nat.le_of_ble_eq_true rfl) rfl ?_
  refine pw_iconst (v := 0) dX12_againOf_2 (by decide) ?_
  refine pw_istore dX12_againOf_3 (Nat.le_of_ble_eq_true rfl) (Nat.le_of_ble_eq_true rfl) rfl ?_
  exact s_again_g hd hS hn hn2 hm hm2 guests set 8 0 _ _ (Or.inl rfl) (Or.inl rfl) (by omega)
abbrev okAg (σ : pm_S) (n : Nat) (guests set : Int32) : Prop := (1 ≤ guests ∧ guests ≤ 255) ∧ isSt σ n set
theorem s_again {d al n m : Nat} {σ : pm_S} (hd : 2 ≤ d) (hS : pm_fix σ) (hn : qI σ 43 1 = nI n) (hn2 : n ≤ 20) (hm : qI σ 43 3 = nI m) (hm2 : m ≤ 60) (guests set : Int32) : PE d al MX12_again [.ref 43, .int guests, .int set] σ (some (.int (if okAg σ n guests set then nI (m_ag σ m n guests set 8) else -1))) σ := by
  show PW _ _ _ _ _ _ _ _
  refine pw_iload_n dX12_again_0 rfl ?_
  refine pw_cS1 (d1 := d - 1) (a1 := 0) (a2 := al) dX12_again_1 mtX12_areGuests stX12_areGuests mlX12_142 (Nat.le_of_ble_eq_true rfl) (Nat.le_of_ble_eq_true rfl) (by omega) (by omega) (s_areGuests (by omega) _) ?_
  rintro r_ τ_ ⟨hr_, ht_⟩; subst r_; subst τ_
  refine pw_if_eq (tgt := 24) dX12_again_4 (by decide) (fun h4 => ?_) (fun h4 => ?_)
  · refine pw_iconst (v := (-1)) dX12_again_24 (by decide) ?_
    refine pw_iret dX12_again_25 rfl rfl ?_
    refine ⟨?_, rfl⟩
    by_cases hok : okAg σ n guests set
    · rw [if_pos hok]
      first | done | rfl | exact absurd hok.1 (bI_0.mp h4) | exact absurd hok.2 (bI_0.mp h12)
    · rw [if_neg hok]
      first | done | rfl | exact absurd ⟨bI_n.mp h4, bI_n.mp h12⟩ hok
  · refine pw_aload_n dX12_again_7 rfl ?_
    refine pw_iload_n dX12_again_8 rfl ?_
    refine pw_cV1 (d1 := d - 1) (a1 := 0) (a2 := al) dX12_again_9 mtX12_isSet ivX12_isSet mlX12_145 (Nat.le_of_ble_eq_true rfl) (Nat.le_of_ble_eq_true rfl) (by omega) (by omega) (hS.at rfl rfl rfl) rfl rfl (s_isSet (by omega) hS hn hn2 _) ?_
    rintro r_ τ_ ⟨hr_, ht_⟩; subst r_; subst τ_
    refine pw_if_eq (tgt := 24) dX12_again_12 (by decide) (fun h12 => ?_) (fun h12 => ?_)
    · refine pw_iconst (v := (-1)) dX12_again_24 (by decide) ?_
      refine pw_iret dX12_again_25 rfl rfl ?_
      refine ⟨?_, rfl⟩
      by_cases hok : okAg σ n guests set
      · rw [if_pos hok]
        first | done | rfl | exact absurd hok.1 (bI_0.mp h4) | exact absurd hok.2 (bI_0.mp h12)
      · rw [if_neg hok]
        first | done | rfl | exact absurd ⟨bI_n.mp h4, bI_n.mp h12⟩ hok
    · refine pw_aload_n dX12_again_15 rfl ?_
      refine pw_iload_n dX12_again_16 rfl ?_
      refine pw_iload_n dX12_again_17 rfl ?_
      refine pw_cV2 (d1 := d - 1) (a1 := 0) (a2 := al) dX12_again_18 mtX12_againOf ivX12_againOf mlX12_152 (Nat.le_of_ble_eq_true rfl) (Nat.le_of_ble_eq_true rfl) (by omega) (by omega) (hS.at rfl rfl rfl) rfl rfl (s_againOf (by omega) hS hn hn2 hm hm2 _ _) ?_
      rintro r_ τ_ ⟨hr_, ht_⟩; subst r_; subst τ_
      refine pw_goto (tgt := 25) dX12_again_21 (by decide) ?_
      refine pw_iret dX12_again_25 rfl rfl ?_
      refine ⟨?_, rfl⟩
      by_cases hok : okAg σ n guests set
      · rw [if_pos hok]
        first | done | rfl | exact absurd hok.1 (bI_0.mp h4) | exact absurd hok.2 (bI_0.mp h12)
      · rw [if_neg hok]
        first | done | rfl | exact absurd ⟨bI_n.mp h4, bI_n.mp h12⟩ hok
