/-! ===== the reference: sets, gatherings ===== -/
/-- a bit as the machine takes it -/
abbrev sb (x i : Int32) : Int32 := (x >>> (i &&& 31)) &&& 1
abbrev sh1 (i : Int32) : Int32 := 1 <<< (i &&& 31)
/-- at most one of a kind, from thing t on, k of them -/
def m_sl (σ : pm_S) (set : Int32) : Nat → Nat → Int32 → Bool
  | 0, _, _ => true
  | k + 1, t, ks => if sb set (nI t) = 0 then m_sl σ set k (t + 1) ks else if sb ks (qI σ 44 t) = 1 then false else m_sl σ set k (t + 1) (ks ||| sh1 (qI σ 44 t))
theorem s_isSet_lp {d al n : Nat} {σ : pm_S} (hS : pm_fix σ) (hn : qI σ 43 1 = nI n) (hn2 : n ≤ 20) (set : Int32) : ∀ (k t : Nat) (ks : Int32), t + k = n → PW d al MX12_isSet 22 [.ref 43, .int set, .int ks, .int (nI t)] [] σ (fun r τ => r = some (.int (bI (m_sl σ set k t ks = true))) ∧ τ = σ) := by
  intro k
  induction k with
  | zero =>
    intro t ks ht
    refine pw_iload_n dX12_isSet_22 rfl ?_
    refine pw_aload_n dX12_isSet_23 rfl ?_
    refine pw_getI dX12_isSet_24 flX12_90 rfl (hS.at rfl rfl rfl) ?_
    refine pw_icmp_ge (tgt := 74) dX12_isSet_27 (by decide) (fun h27 => ?_) (fun h27 => ?_)
    · refine pw_iconst (v := 1) dX12_isSet_74 (by decide) ?_
      refine pw_iret dX12_isSet_75 rfl (by first | rfl | exact bI_nar) ?_
      exact ⟨rfl, rfl⟩
    · exact absurd (by rw [hn]; exact nI_le (by omega) (by omega)) h27
  | succ k ih =>
    intro t ks ht
    have ht2 : t < n := by omega
    have ht3 : t < 20 := by omega
    have hu : m_sl σ set (k + 1) t ks = if sb set (nI t) = 0 then m_sl σ set k (t + 1) ks else if sb ks (qI σ 44 t) = 1 then false else m_sl σ set k (t + 1) (ks ||| sh1 (qI σ 44 t)) := rfl
    have hh := ih (t + 1) ks (by omega)
    have hh' := ih (t + 1) (ks ||| sh1 (qI σ 44 t)) (by omega)
    rw [nI_succ] at hh hh'
    rw [hu]
    refine pw_iload_n dX12_isSet_22 rfl ?_
    refine pw_aload_n dX12_isSet_23 rfl ?_
    refine pw_getI dX12_isSet_24 flX12_90 rfl (hS.at rfl rfl rfl) ?_
    refine pw_icmp_ge (tgt := 74) dX12_isSet_27 (by decide) (fun h27 => ?_) (fun h27 => ?_)
    · exact absurd (by rw [hn] at h27; exact h27) (nI_ge ht2 (by omega))
    · refine pw_iload_n dX12_isSet_30 rfl ?_
      refine pw_iload_n dX12_isSet_31 rfl ?_
      refine pw_ishr dX12_isSet_32 ?_
      refine pw_iconst (v := 1) dX12_isSet_33 (by decide) ?_
      refine pw_iand dX12_isSet_34 ?_
      refine pw_if_ne (tgt := 41) dX12_isSet_35 (by decide) (fun h35 => ?_) (fun h35 => ?_)
      · refine pw_iload_n dX12_isSet_41 rfl ?_
        refine pw_aload_n dX12_isSet_42 rfl ?_
        refine pw_getF (v := 44) dX12_isSet_43 flX12_7 rfl (hS.at rfl rfl rfl) (hS.rf (43, 4, 44) rfl (by decide)) ?_
        refine pw_iload_n dX12_isSet_46 rfl ?_
        refine pw_iald dX12_isSet_47 (hS.at rfl rfl rfl) rfl (hS.lt rfl rfl ht3 rfl) (by omega) ?_
        refine pw_ishr dX12_isSet_48 ?_
        refine pw_iconst (v := 1) dX12_isSet_49 (by decide) ?_
        refine pw_iand dX12_isSet_50 ?_
        refine pw_iconst (v := 1) dX12_isSet_51 (by decide) ?_
        refine pw_icmp_ne (tgt := 57) dX12_isSet_52 (by decide) (fun h52 => ?_) (fun h52 => ?_)
        · refine pw_iload_n dX12_isSet_57 rfl ?_
          refine pw_iconst (v := 1) dX12_isSet_58 (by decide) ?_
          refine pw_aload_n dX12_isSet_59 rfl ?_
          refine pw_getF (v := 44) dX12_isSet_60 flX12_7 rfl (hS.at rfl rfl rfl) (hS.rf (43, 4, 44) rfl (by decide)) ?_
          refine pw_iload_n dX12_isSet_63 rfl ?_
          refine pw_iald dX12_isSet_64 (hS.at rfl rfl rfl) rfl (hS.lt rfl rfl ht3 rfl) (by omega) ?_
          refine pw_ishl dX12_isSet_65 ?_
          refine pw_ior dX12_isSet_66 ?_
          refine pw_istore_n dX12_isSet_67 (Nat.le_of_ble_eq_true rfl) (Nat.le_of_ble_eq_true rfl) rfl ?_
          refine pw_iinc1 dX12_isSet_68 rfl (Nat.le_of_ble_eq_true rfl) (Nat.le_of_ble_eq_true rfl) rfl ?_
          refine pw_goto (tgt := 22) dX12_isSet_71 (by decide) ?_
          first | (rw [if_pos h35]; exact hh) | (rw [if_neg h35, if_neg h52]; exact hh')
        · refine pw_iconst (v := 0) dX12_isSet_55 (by decide) ?_
          refine pw_iret dX12_isSet_56 rfl (by first | rfl | exact bI_nar) ?_
          exact ⟨by rw [if_neg h35, if_pos h52]; rfl, rfl⟩
      · refine pw_goto (tgt := 68) dX12_isSet_38 (by decide) ?_
        refine pw_iinc1 dX12_isSet_68 rfl (Nat.le_of_ble_eq_true rfl) (Nat.le_of_ble_eq_true rfl) rfl ?_
        refine pw_goto (tgt := 22) dX12_isSet_71 (by decide) ?_
        first | (rw [if_pos h35]; exact hh) | (rw [if_neg h35, if_neg h52]; exact hh')
abbrev isSt (σ : pm_S) (n : Nat) (set : Int32) : Prop := (1 ≤ set ∧ set ≤ sh1 (nI n) - 1) ∧ m_sl σ set n 0 0 = true
theorem s_isSet {d al n : Nat} {σ : pm_S} (hd : 1 ≤ d) (hS : pm_fix σ) (hn : qI σ 43 1 = nI n) (hn2 : n ≤ 20) (set : Int32) : PE d al MX12_isSet [.ref 43, .int set] σ (some (.int (bI (isSt σ n set)))) σ := by
  show PW _ _ _ _ _ _ _ _
  refine pw_iload_n dX12_isSet_0 rfl ?_
  refine pw_iconst (v := 1) dX12_isSet_1 (by decide) ?_
  refine pw_iconst (v := 1) dX12_isSet_2 (by decide) ?_
  refine pw_aload_n dX12_isSet_3 rfl ?_
  refine pw_getI dX12_isSet_4 flX12_90 rfl (hS.at rfl rfl rfl) ?_
  refine pw_ishl dX12_isSet_7 ?_
  refine pw_iconst (v := 1) dX12_isSet_8 (by decide) ?_
  refine pw_isub dX12_isSet_9 ?_
  refine pw_cS3 (d1 := d - 1) (a1 := 0) (a2 := al) dX12_isSet_10 mtX12_isIn stX12_isIn mlX12_86 (Nat.le_of_ble_eq_true rfl) (Nat.le_of_ble_eq_true rfl) (by omega) (by omega) (s_isIn _ _ _) ?_
  rintro r_ τ_ ⟨hr_, ht_⟩; subst r_; subst τ_
  refine pw_if_ne (tgt := 18) dX12_isSet_13 (by decide) (fun h13 => ?_) (fun h13 => ?_)
  · refine pw_iconst (v := 0) dX12_isSet_18 (by decide) ?_
    refine pw_istore_n dX12_isSet_19 (Nat.le_of_ble_eq_true rfl) (Nat.le_of_ble_eq_true rfl) rfl ?_
    refine pw_iconst (v := 0) dX12_isSet_20 (by decide) ?_
    refine pw_istore_n dX12_isSet_21 (Nat.le_of_ble_eq_true rfl) (Nat.le_of_ble_eq_true rfl) rfl ?_
    rw [hn] at h13
    have hh := s_isSet_lp (d := d) (al := al) hS hn hn2 set n 0 0 (by omega)
    refine PW.post ?_ hh
    rintro r τ ⟨h1, h2⟩
    refine ⟨?_, h2⟩
    rw [h1]
    congr 2
    exact bI_c ⟨fun z => ⟨bI_n.mp h13, z⟩, fun z => z.2⟩
  · refine pw_iconst (v := 0) dX12_isSet_16 (by decide) ?_
    refine pw_iret dX12_isSet_17 rfl (by first | rfl | exact bI_nar) ?_
    rw [hn] at h13
    exact ⟨by rw [bI_f (fun z => bI_0.mp h13 z.1)], rfl⟩
/-- all things of the set, from t on, are there and kept by the house -/
def m_gl (σ : pm_S) (e : Nat) (house set : Int32) : Nat → Nat → Bool
  | 0, _ => true
  | k + 1, t => if sb set (nI t) = 1 then (if qI σ 51 t = -1 ∧ m_ke σ e t (qI σ 43 0) = house then m_gl σ e house set k (t + 1) else false) else m_gl σ e house set k (t + 1)
def m_gat (σ : pm_S) (i : Nat) (house season guests set : Int32) : pm_S := pm_sI (pm_sI (pm_sI (pm_sI (pm_sI (pm_sI σ 43 3 (qI σ 43 3 + 1)) 56 i house) 57 i (qI σ 43 0)) 58 i season) 59 i guests) 60 i set
theorem s_gather_lp {d al n e i : Nat} {σ : pm_S} (hd : 3 ≤ d) (hS : pm_fix σ) (hn : qI σ 43 1 = nI n) (hn2 : n ≤ 20) (he : qI σ 43 2 = nI e) (he2 : e ≤ 300) (hi : qI σ 43 3 = nI i) (hi2 : i < 60) (house season guests set : Int32) : ∀ (k t : Nat), t + k = n → PW d al MX12_gather 44 [.ref 43, .int house, .int season, .int guests, .int set, .int (nI t)] [] σ (fun r τ => r = some (.int (if m_gl σ e house set k t = true then nI i else -1)) ∧ τ = if m_gl σ e house set k t = true then m_gat σ i house season guests set else σ) := by
  intro k
  induction k with
  | zero =>
    intro t ht
    refine pw_iload dX12_gather_44 rfl ?_
    refine pw_aload_n dX12_gather_46 rfl ?_
    refine pw_getI dX12_gather_47 flX12_90 rfl (hS.at rfl rfl rfl) ?_
    refine pw_icmp_ge (tgt := 95) dX12_gather_50 (by decide) (fun h50 => ?_) (fun h50 => ?_)
    · refine pw_aload_n dX12_gather_95 rfl ?_
      refine pw_getI dX12_gather_96 flX12_130 rfl (hS.at rfl rfl rfl) ?_
      refine pw_istore dX12_gather_99 (Nat.le_of_ble_eq_true rfl) (Nat.le_of_ble_eq_true rfl) rfl ?_
      refine pw_aload_n dX12_gather_101 rfl ?_
      refine pw_dup dX12_gather_102 rfl ?_
      refine pw_getI dX12_gather_103 flX12_130 rfl (hS.at rfl rfl rfl) ?_
      refine pw_iconst (v := 1) dX12_gather_106 (by decide) ?_
      refine pw_iadd dX12_gather_107 ?_
      refine pw_putI dX12_gather_108 flX12_130 ⟨_, rfl, Or.inl rfl⟩ rfl (hS.at rfl rfl rfl) ?_
      refine pw_aload_n dX12_gather_111 rfl ?_
      refine pw_getF (v := 56) dX12_gather_112 flX12_46 rfl (hS.at rfl rfl rfl) (hS.rf (43, 16, 56) rfl (by decide)) ?_
      refine pw_iload dX12_gather_115 rfl ?_
      refine pw_iload_n dX12_gather_117 rfl ?_
      refine pw_iast dX12_gather_118 (hS.at rfl rfl rfl) (by decide) hi (hS.lt rfl rfl hi2 rfl) (by omega) ?_
      refine pw_aload_n dX12_gather_119 rfl ?_
      refine pw_getF (v := 57) dX12_gather_120 flX12_49 rfl (hS.at rfl rfl rfl) (hS.rf (43, 17, 57) rfl (by decide)) ?_
      refine pw_iload dX12_gather_123 rfl ?_
      refine pw_aload_n dX12_gather_125 rfl ?_
      refine pw_getI dX12_gather_126 flX12_97 rfl (hS.at rfl rfl rfl) ?_
      refine pw_iast dX12_gather_129 (hS.at rfl rfl rfl) (by decide) hi (hS.lt rfl rfl hi2 rfl) (by omega) ?_
      refine pw_aload_n dX12_gather_130 rfl ?_
      refine pw_getF (v := 58) dX12_gather_131 flX12_52 rfl (hS.at rfl rfl rfl) (hS.rf (43, 18, 58) rfl (by decide)) ?_
      refine pw_iload dX12_gather_134 rfl ?_
      refine pw_iload_n dX12_gather_136 rfl ?_
      refine pw_iast dX12_gather_137 (hS.at rfl rfl rfl) (by decide) hi (hS.lt rfl rfl hi2 rfl) (by omega) ?_
      refine pw_aload_n dX12_gather_138 rfl ?_
      refine pw_getF (v := 59) dX12_gather_139 flX12_55 rfl (hS.at rfl rfl rfl) (hS.rf (43, 19, 59) rfl (by decide)) ?_
      refine pw_iload dX12_gather_142 rfl ?_
      refine pw_iload_n dX12_gather_144 rfl ?_
      refine pw_iast dX12_gather_145 (hS.at rfl rfl rfl) (by decide) hi (hS.lt rfl rfl hi2 rfl) (by omega) ?_
      refine pw_aload_n dX12_gather_146 rfl ?_
      refine pw_getF (v := 60) dX12_gather_147 flX12_58 rfl (hS.at rfl rfl rfl) (hS.rf (43, 20, 60) rfl (by decide)) ?_
      refine pw_iload dX12_gather_150 rfl ?_
      refine pw_iload dX12_gather_152 rfl ?_
      refine pw_iast dX12_gather_154 (hS.at rfl rfl rfl) (by decide) hi (hS.lt rfl rfl hi2 rfl) (by omega) ?_
      refine pw_iload dX12_gather_155 rfl ?_
      refine pw_iret dX12_gather_157 rfl rfl ?_
      exact ⟨by rw [hi]; rfl, rfl⟩
    · exact absurd (by rw [hn]; exact nI_le (by omega) (by omega)) h50
  | succ k ih =>
    intro t ht
    have ht2 : t < n := by omega
    have hcl : (nI t).toNatClampNeg = t := nI_clamp (by omega)
    have hu : m_gl σ e house set (k + 1) t = if sb set (nI t) = 1 then (if qI σ 51 t = -1 ∧ m_ke σ e t (qI σ 43 0) = house then m_gl σ e house set k (t + 1) else false) else m_gl σ e house set k (t + 1) := rfl
    have hh := ih (t + 1) (by omega)
    rw [nI_succ] at hh
    rw [hu]
    refine pw_iload dX12_gather_44 rfl ?_
    refine pw_aload_n dX12_gather_46 rfl ?_
    refine pw_getI dX12_gather_47 flX12_90 rfl (hS.at rfl rfl rfl) ?_
    refine pw_icmp_ge (tgt := 95) dX12_gather_50 (by decide) (fun h50 => ?_) (fun h50 => ?_)
    · exact absurd (by rw [hn] at h50; exact h50) (nI_ge ht2 (by omega))
    · refine pw_iload dX12_gather_53 rfl ?_
      refine pw_iload dX12_gather_55 rfl ?_
      refine pw_ishr dX12_gather_57 ?_
      refine pw_iconst (v := 1) dX12_gather_58 (by decide) ?_
      refine pw_iand dX12_gather_59 ?_
      refine pw_iconst (v := 1) dX12_gather_60 (by decide) ?_
      refine pw_icmp_ne (tgt := 89) dX12_gather_61 (by decide) (fun h61 => ?_) (fun h61 => ?_)
      · refine pw_iinc1 dX12_gather_89 rfl (Nat.le_of_ble_eq_true rfl) (Nat.le_of_ble_eq_true rfl) rfl ?_
        refine pw_goto (tgt := 44) dX12_gather_92 (by decide) ?_
        by_cases hs : sb set (nI t) = 1
        · rw [if_pos hs]
          have hy : qI σ 51 t = -1 ∧ m_ke σ e t (qI σ 43 0) = house := by
            first | exact absurd hs h61 | exact ⟨by have z := (bI_n.mp h70).2; rw [hcl] at z; exact z, h84⟩
          rw [if_pos hy]
          exact hh
        · rw [if_neg hs]
          first | exact hh | exact absurd h61 hs
      · refine pw_aload_n dX12_gather_64 rfl ?_
        refine pw_iload dX12_gather_65 rfl ?_
        refine pw_cV1 (d1 := d - 1) (a1 := 0) (a2 := al) dX12_gather_67 mtX12_isThere ivX12_isThere mlX12_107 (Nat.le_of_ble_eq_true rfl) (Nat.le_of_ble_eq_true rfl) (by omega) (by omega) (hS.at rfl rfl rfl) rfl rfl (s_isThere (by omega) hS hn hn2 _) ?_
        rintro r_ τ_ ⟨hr_, ht_⟩; subst r_; subst τ_
        refine pw_if_eq (tgt := 87) dX12_gather_70 (by decide) (fun h70 => ?_) (fun h70 => ?_)
        · refine pw_iconst (v := (-1)) dX12_gather_87 (by decide) ?_
          refine pw_iret dX12_gather_88 rfl rfl ?_
          have hno : ¬ (qI σ 51 t = -1 ∧ m_ke σ e t (qI σ 43 0) = house) := by
            first | exact fun z => bI_0.mp h70 ⟨tOk_nI ht2 (by omega), by rw [hcl]; exact z.1⟩ | exact fun z => h84 z.2
          rw [if_pos h61, if_neg hno]
          exact ⟨rfl, rfl⟩
        · refine pw_aload_n dX12_gather_73 rfl ?_
          refine pw_iload dX12_gather_74 rfl ?_
          refine pw_aload_n dX12_gather_76 rfl ?_
          refine pw_getI dX12_gather_77 flX12_97 rfl (hS.at rfl rfl rfl) ?_
          refine pw_cV2 (d1 := d - 1) (a1 := 0) (a2 := al) dX12_gather_80 mtX12_keptOn ivX12_keptOn mlX12_127 (Nat.le_of_ble_eq_true rfl) (Nat.le_of_ble_eq_true rfl) (by omega) (by omega) (hS.at rfl rfl rfl) rfl rfl (s_keptOn (by omega) hS he he2 (by omega) _) ?_
          rintro r_ τ_ ⟨hr_, ht_⟩; subst r_; subst τ_
          refine pw_iload_n dX12_gather_83 rfl ?_
          refine pw_icmp_eq (tgt := 89) dX12_gather_84 (by decide) (fun h84 => ?_) (fun h84 => ?_)
          · refine pw_iinc1 dX12_gather_89 rfl (Nat.le_of_ble_eq_true rfl) (Nat.le_of_ble_eq_true rfl) rfl ?_
            refine pw_goto (tgt := 44) dX12_gather_92 (by decide) ?_
            by_cases hs : sb set (nI t) = 1
            · rw [if_pos hs]
              have hy : qI σ 51 t = -1 ∧ m_ke σ e t (qI σ 43 0) = house := by
                first | exact absurd hs h61 | exact ⟨by have z := (bI_n.mp h70).2; rw [hcl] at z; exact z, h84⟩
              rw [if_pos hy]
              exact hh
            · rw [if_neg hs]
              first | exact hh | exact absurd h61 hs
          · refine pw_iconst (v := (-1)) dX12_gather_87 (by decide) ?_
            refine pw_iret dX12_gather_88 rfl rfl ?_
            have hno : ¬ (qI σ 51 t = -1 ∧ m_ke σ e t (qI σ 43 0) = house) := by
              first | exact fun z => bI_0.mp h70 ⟨tOk_nI ht2 (by omega), by rw [hcl]; exact z.1⟩ | exact fun z => h84 z.2
            rw [if_pos h61, if_neg hno]
            exact ⟨rfl, rfl⟩
abbrev okGat (σ : pm_S) (n e i : Nat) (house season guests set : Int32) : Prop := (0 ≤ house ∧ house ≤ 7) ∧ (0 ≤ season ∧ season ≤ 3) ∧ (1 ≤ guests ∧ guests ≤ 255) ∧ isSt σ n set ∧ i ≠ 60 ∧ m_gl σ e house set n 0 = true
theorem s_gather {d al n e i : Nat} {σ : pm_S} (hd : 3 ≤ d) (hS : pm_fix σ) (hn : qI σ 43 1 = nI n) (hn2 : n ≤ 20) (he : qI σ 43 2 = nI e) (he2 : e ≤ 300) (hi : qI σ 43 3 = nI i) (hi2 : i ≤ 60) (house season guests set : Int32) : PE d al MX12_gather [.ref 43, .int house, .int season, .int guests, .int set] σ (some (.int (if okGat σ n e i house season guests set then nI i else -1))) (if okGat σ n e i house season guests set then m_gat σ i house season guests set else σ) := by
  show PW _ _ _ _ _ _ _ _
  refine pw_iload_n dX12_gather_0 rfl ?_
  refine pw_cS1 (d1 := d - 1) (a1 := 0) (a2 := al) dX12_gather_1 mtX12_isHouse stX12_isHouse mlX12_100 (Nat.le_of_ble_eq_true rfl) (Nat.le_of_ble_eq_true rfl) (by omega) (by omega) (s_isHouse (by omega) _) ?_
  rintro r_ τ_ ⟨hr_, ht_⟩; subst r_; subst τ_
  refine pw_if_eq (tgt := 39) dX12_gather_4 (by decide) (fun h4 => ?_) (fun h4 => ?_)
  · refine pw_iconst (v := (-1)) dX12_gather_39 (by decide) ?_
    refine pw_iret dX12_gather_40 rfl rfl ?_
    have hno : ¬ okGat σ n e i house season guests set := by
      first | exact fun z => bI_0.mp h4 z.1 | exact fun z => bI_0.mp h11 z.2.1 | exact fun z => bI_0.mp h18 z.2.2.1 | exact fun z => bI_0.mp h27 z.2.2.2.1 | exact fun z => z.2.2.2.2.1 (nI_inj (by omega) (by omega) (hi.symm.trans h36))
    exact ⟨by rw [if_neg hno], by rw [if_neg hno]⟩
  · refine pw_iload_n dX12_gather_7 rfl ?_
    refine pw_cS1 (d1 := d - 1) (a1 := 0) (a2 := al) dX12_gather_8 mtX12_isSeason stX12_isSeason mlX12_139 (Nat.le_of_ble_eq_true rfl) (Nat.le_of_ble_eq_true rfl) (by omega) (by omega) (s_isSeason (by omega) _) ?_
    rintro r_ τ_ ⟨hr_, ht_⟩; subst r_; subst τ_
    refine pw_if_eq (tgt := 39) dX12_gather_11 (by decide) (fun h11 => ?_) (fun h11 => ?_)
    · refine pw_iconst (v := (-1)) dX12_gather_39 (by decide) ?_
      refine pw_iret dX12_gather_40 rfl rfl ?_
      have hno : ¬ okGat σ n e i house season guests set := by
        first | exact fun z => bI_0.mp h4 z.1 | exact fun z => bI_0.mp h11 z.2.1 | exact fun z => bI_0.mp h18 z.2.2.1 | exact fun z => bI_0.mp h27 z.2.2.2.1 | exact fun z => z.2.2.2.2.1 (nI_inj (by omega) (by omega) (hi.symm.trans h36))
      exact ⟨by rw [if_neg hno], by rw [if_neg hno]⟩
    · refine pw_iload_n dX12_gather_14 rfl ?_
      refine pw_cS1 (d1 := d - 1) (a1 := 0) (a2 := al) dX12_gather_15 mtX12_areGuests stX12_areGuests mlX12_142 (Nat.le_of_ble_eq_true rfl) (Nat.le_of_ble_eq_true rfl) (by omega) (by omega) (s_areGuests (by omega) _) ?_
      rintro r_ τ_ ⟨hr_, ht_⟩; subst r_; subst τ_
      refine pw_if_eq (tgt := 39) dX12_gather_18 (by decide) (fun h18 => ?_) (fun h18 => ?_)
      · refine pw_iconst (v := (-1)) dX12_gather_39 (by decide) ?_
        refine pw_iret dX12_gather_40 rfl rfl ?_
        have hno : ¬ okGat σ n e i house season guests set := by
          first | exact fun z => bI_0.mp h4 z.1 | exact fun z => bI_0.mp h11 z.2.1 | exact fun z => bI_0.mp h18 z.2.2.1 | exact fun z => bI_0.mp h27 z.2.2.2.1 | exact fun z => z.2.2.2.2.1 (nI_inj (by omega) (by omega) (hi.symm.trans h36))
        exact ⟨by rw [if_neg hno], by rw [if_neg hno]⟩
      · refine pw_aload_n dX12_gather_21 rfl ?_
        refine pw_iload dX12_gather_22 rfl ?_
        refine pw_cV1 (d1 := d - 1) (a1 := 0) (a2 := al) dX12_gather_24 mtX12_isSet ivX12_isSet mlX12_145 (Nat.le_of_ble_eq_true rfl) (Nat.le_of_ble_eq_true rfl) (by omega) (by omega) (hS.at rfl rfl rfl) rfl rfl (s_isSet (by omega) hS hn hn2 _) ?_
        rintro r_ τ_ ⟨hr_, ht_⟩; subst r_; subst τ_
        refine pw_if_eq (tgt := 39) dX12_gather_27 (by decide) (fun h27 => ?_) (fun h27 => ?_)
        · refine pw_iconst (v := (-1)) dX12_gather_39 (by decide) ?_
          refine pw_iret dX12_gather_40 rfl rfl ?_
          have hno : ¬ okGat σ n e i house season guests set := by
            first | exact fun z => bI_0.mp h4 z.1 | exact fun z => bI_0.mp h11 z.2.1 | exact fun z => bI_0.mp h18 z.2.2.1 | exact fun z => bI_0.mp h27 z.2.2.2.1 | exact fun z => z.2.2.2.2.1 (nI_inj (by omega) (by omega) (hi.symm.trans h36))
          exact ⟨by rw [if_neg hno], by rw [if_neg hno]⟩
        · refine pw_aload_n dX12_gather_30 rfl ?_
          refine pw_getI dX12_gather_31 flX12_130 rfl (hS.at rfl rfl rfl) ?_
          refine pw_bipush (v := 60) dX12_gather_34 (by decide) ?_
          refine pw_icmp_ne (tgt := 41) dX12_gather_36 (by decide) (fun h36 => ?_) (fun h36 => ?_)
          · refine pw_iconst (v := 0) dX12_gather_41 (by decide) ?_
            refine pw_istore dX12_gather_42 (Nat.le_of_ble_eq_true rfl) (Nat.le_of_ble_eq_true rfl) rfl ?_
            have hi3 : i ≠ 60 := fun z => h36 (by rw [hi, z]; rfl)
            have hh := s_gather_lp (d := d) (al := al) hd hS hn hn2 he he2 hi (by omega) house season guests set n 0 (by omega)
            refine PW.post ?_ hh
            rintro r τ ⟨h1, h2⟩
            rw [h1, h2]
            by_cases hg : m_gl σ e house set n 0 = true
            · have hok : okGat σ n e i house season guests set := ⟨bI_n.mp h4, bI_n.mp h11, bI_n.mp h18, bI_n.mp h27, hi3, hg⟩
              rw [if_pos hg, if_pos hg, if_pos hok, if_pos hok]
              exact ⟨rfl, rfl⟩
            · have hno : ¬ okGat σ n e i house season guests set := fun z => hg z.2.2.2.2.2
              rw [if_neg hg, if_neg hg, if_neg hno, if_neg hno]
              exact ⟨rfl, rfl⟩
          · refine pw_iconst (v := (-1)) dX12_gather_39 (by decide) ?_
            refine pw_iret dX12_gather_40 rfl rfl ?_
            have hno : ¬ okGat σ n e i house season guests set := by
              first | exact fun z => bI_0.mp h4 z.1 | exact fun z => bI_0.mp h11 z.2.1 | exact fun z => bI_0.mp h18 z.2.2.1 | exact fun z => bI_0.mp h27 z.2.2.2.1 | exact fun z => z.2.2.2.2.1 (nI_inj (by omega) (by omega) (hi.symm.trans h36))
            exact ⟨by rw [if_neg hno], by rw [if_neg hno]⟩
def m_gth (σ : pm_S) (i : Nat) (x what : Int32) : Int32 := if tOk i x then (if what = 0 then qI σ 56 x.toNatClampNeg else if what = 1 then qI σ 57 x.toNatClampNeg else if what = 2 then qI σ 58 x.toNatClampNeg else if what = 3 then qI σ 59 x.toNatClampNeg else if what = 4 then qI σ 60 x.toNatClampNeg else -1) else -1
theorem s_gathering {d al i : Nat} {σ : pm_S} (hd : 1 ≤ d) (hS : pm_fix σ) (hi : qI σ 43 3 = nI i) (hi2 : i ≤ 60) (x what : Int32) : PE d al MX12_gathering [.ref 43, .int x, .int what] σ (some (.int (m_gth σ i x what))) σ := by
  show PW _ _ _ _ _ _ _ _
  refine pw_iload_n dX12_gathering_0 rfl ?_
  refine pw_iconst (v := 0) dX12_gathering_1 (by decide) ?_
  refine pw_aload_n dX12_gathering_2 rfl ?_
  refine pw_getI dX12_gathering_3 flX12_130 rfl (hS.at rfl rfl rfl) ?_
  refine pw_iconst (v := 1) dX12_gathering_6 (by decide) ?_
  refine pw_isub dX12_gathering_7 ?_
  refine pw_cS3 (d1 := d - 1) (a1 := 0) (a2 := al) dX12_gathering_8 mtX12_isIn stX12_isIn mlX12_86 (Nat.le_of_ble_eq_true rfl) (Nat.le_of_ble_eq_true rfl) (by omega) (by omega) (s_isIn _ _ _) ?_
  rintro r_ τ_ ⟨hr_, ht_⟩; subst r_; subst τ_
  refine pw_if_ne (tgt := 16) dX12_gathering_11 (by decide) (fun h11 => ?_) (fun h11 => ?_)
  · rw [hi] at h11
    obtain ⟨j, hj, rfl⟩ := (tOk_iff (by omega)).mp (bI_n.mp h11)
    have hj3 : j < 60 := by omega
    have hcl : (nI j).toNatClampNeg = j := nI_clamp (by omega)
    unfold m_gth
    rw [if_pos (tOk_nI hj (by omega)), hcl]
    refine pw_iload_n dX12_gathering_16 rfl ?_
    by_cases w17_0 : what = 0
    · rw [w17_0]
      refine pw_tsIn (off := 35) (tgt := 52) dX12_gathering_17 (by decide) (by decide) (by decide) (by decide) ?_
      refine pw_aload_n dX12_gathering_52 rfl ?_
      refine pw_getF (v := 56) dX12_gathering_53 flX12_46 rfl (hS.at rfl rfl rfl) (hS.rf (43, 16, 56) rfl (by decide)) ?_
      refine pw_iload_n dX12_gathering_56 rfl ?_
      refine pw_iald dX12_gathering_57 (hS.at rfl rfl rfl) rfl (hS.lt rfl rfl hj3 rfl) (by omega) ?_
      refine pw_iret dX12_gathering_58 rfl rfl ?_
      exact ⟨rfl, rfl⟩
    by_cases w17_1 : what = 1
    · rw [w17_1]
      refine pw_tsIn (off := 42) (tgt := 59) dX12_gathering_17 (by decide) (by decide) (by decide) (by decide) ?_
      refine pw_aload_n dX12_gathering_59 rfl ?_
      refine pw_getF (v := 57) dX12_gathering_60 flX12_49 rfl (hS.at rfl rfl rfl) (hS.rf (43, 17, 57) rfl (by decide)) ?_
      refine pw_iload_n dX12_gathering_63 rfl ?_
      refine pw_iald dX12_gathering_64 (hS.at rfl rfl rfl) rfl (hS.lt rfl rfl hj3 rfl) (by omega) ?_
      refine pw_iret dX12_gathering_65 rfl rfl ?_
      exact ⟨rfl, rfl⟩
    by_cases w17_2 : what = 2
    · rw [w17_2]
      refine pw_tsIn (off := 49) (tgt := 66) dX12_gathering_17 (by decide) (by decide) (by decide) (by decide) ?_
      refine pw_aload_n dX12_gathering_66 rfl ?_
      refine pw_getF (v := 58) dX12_gathering_67 flX12_52 rfl (hS.at rfl rfl rfl) (hS.rf (43, 18, 58) rfl (by decide)) ?_
      refine pw_iload_n dX12_gathering_70 rfl ?_
      refine pw_iald dX12_gathering_71 (hS.at rfl rfl rfl) rfl (hS.lt rfl rfl hj3 rfl) (by omega) ?_
      refine pw_iret dX12_gathering_72 rfl rfl ?_
      exact ⟨rfl, rfl⟩
    by_cases w17_3 : what = 3
    · rw [w17_3]
      refine pw_tsIn (off := 56) (tgt := 73) dX12_gathering_17 (by decide) (by decide) (by decide) (by decide) ?_
      refine pw_aload_n dX12_gathering_73 rfl ?_
      refine pw_getF (v := 59) dX12_gathering_74 flX12_55 rfl (hS.at rfl rfl rfl) (hS.rf (43, 19, 59) rfl (by decide)) ?_
      refine pw_iload_n dX12_gathering_77 rfl ?_
      refine pw_iald dX12_gathering_78 (hS.at rfl rfl rfl) rfl (hS.lt rfl rfl hj3 rfl) (by omega) ?_
      refine pw_iret dX12_gathering_79 rfl rfl ?_
      exact ⟨rfl, rfl⟩
    by_cases w17_4 : what = 4
    · rw [w17_4]
      refine pw_tsIn (off := 63) (tgt := 80) dX12_gathering_17 (by decide) (by decide) (by decide) (by decide) ?_
      refine pw_aload_n dX12_gathering_80 rfl ?_
      refine pw_getF (v := 60) dX12_gathering_81 flX12_58 rfl (hS.at rfl rfl rfl) (hS.rf (43, 20, 60) rfl (by decide)) ?_
      refine pw_iload_n dX12_gathering_84 rfl ?_
      refine pw_iald dX12_gathering_85 (hS.at rfl rfl rfl) rfl (hS.lt rfl rfl hj3 rfl) (by omega) ?_
      refine pw_iret dX12_gathering_86 rfl rfl ?_
      exact ⟨rfl, rfl⟩
    refine pw_tsOut (tgt := 87) dX12_gathering_17 (by have a0 := sw_ne w17_0 (z := 0) rfl; have a1 := sw_ne w17_1 (z := 1) rfl; have a2 := sw_ne w17_2 (z := 2) rfl; have a3 := sw_ne w17_3 (z := 3) rfl; have a4 := sw_ne w17_4 (z := 4) rfl; omega) (by decide) ?_
    refine pw_iconst (v := (-1)) dX12_gathering_87 (by decide) ?_
    refine pw_iret dX12_gathering_88 rfl rfl ?_
    refine ⟨?_, rfl⟩
    rw [if_neg w17_0, if_neg w17_1, if_neg w17_2, if_neg w17_3, if_neg w17_4]
  · refine pw_iconst (v := (-1)) dX12_gathering_14 (by decide) ?_
    refine pw_iret dX12_gathering_15 rfl rfl ?_
    rw [hi] at h11
    exact ⟨by unfold m_gth; rw [if_neg (bI_0.mp h11)], rfl⟩
