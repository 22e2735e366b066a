/-! ===== the class: the facts of a set ===== -/
theorem t_party {d al w a : Nat} {σ : pm_S} (hd : 1 ≤ d) (hC : fcC σ w a) (se : Int32) {g : Int32} (hg : lt8 g) : PE d al MX2_tellParty [.ref w, .int se, .int g] σ none (pm_sI (pm_sI σ a 0 se) a 1 (nI (pcn g))) := by
  obtain ⟨h1, h2, h3, h4, h5⟩ := hC
  show PW _ _ _ _ _ _ _ _
  refine pw_aload_n dX2_tellParty_0 rfl ?_
  refine pw_getF dX2_tellParty_1 flX2_11 rfl h1 h2 ?_
  refine pw_iconst (v := 0) dX2_tellParty_4 (by decide) ?_
  refine pw_iload_n dX2_tellParty_5 rfl ?_
  refine pw_iast dX2_tellParty_6 h3 (by omega) (k := 0) rfl (by show 0 < qL σ a; rw [h4]; decide) (by decide) ?_
  refine pw_aload_n dX2_tellParty_7 rfl ?_
  refine pw_getF dX2_tellParty_8 flX2_11 rfl h1 h2 ?_
  refine pw_iconst (v := 1) dX2_tellParty_11 (by decide) ?_
  refine pw_iload_n dX2_tellParty_12 rfl ?_
  refine pw_cS1 (d1 := d - 1) (a1 := 0) (a2 := al) dX2_tellParty_13 mtJ6_bitCount_0f7a4 stJ6_bitCount_0f7a4 mlX2_15 (Nat.le_of_ble_eq_true rfl) (Nat.le_of_ble_eq_true rfl) (by omega) (by omega) (t_bitCount hg) ?_
  rintro r_ τ_ ⟨hr_, ht_⟩; subst r_; subst τ_
  refine pw_iast dX2_tellParty_16 h3 (by omega) (k := 1) rfl (by show 1 < qL σ a; rw [h4]; decide) (by decide) ?_
  refine pw_vret dX2_tellParty_17 rfl ?_
  exact ⟨rfl, rfl⟩
/-- the row of facts -/
def rwF (σ : pm_S) (T : Nat → Option Nat) (se g day : Int32) (k : Nat) : Int32 := if k = 0 then se else if k = 1 then nI (pcn g) else match T ((k - 2) % 5) with
  | none => 0
  | some t => if k < 7 then qI σ 45 t else if k < 12 then qI σ 46 t else if k < 17 then day - qI σ 48 t else 1
theorem rwF_n {σ : pm_S} {T : Nat → Option Nat} {se g day : Int32} {k i : Nat} (hk : 2 ≤ k) (hi : (k - 2) % 5 = i) (h : T i = none) : rwF σ T se g day k = 0 := by
  unfold rwF
  rw [if_neg (by omega), if_neg (by omega), hi, h]
theorem rwF_s {σ : pm_S} {T : Nat → Option Nat} {se g day : Int32} {k i t : Nat} (hk : 2 ≤ k) (hi : (k - 2) % 5 = i) (h : T i = some t) : rwF σ T se g day k = if k < 7 then qI σ 45 t else if k < 12 then qI σ 46 t else if k < 17 then day - qI σ 48 t else 1 := by
  unfold rwF
  rw [if_neg (by omega), if_neg (by omega), hi, h]
/-- the facts of the first k kinds stand -/
def c_fs (σ : pm_S) (a : Nat) (R : Nat → Int32) (k : Nat) : pm_S := (fun b j => if b = a ∧ 2 ≤ j ∧ j < 22 ∧ (j - 2) % 5 < k then R j else qI σ b j, σ.2)
theorem c_fs_ne {σ : pm_S} {a : Nat} {R : Nat → Int32} {k b : Nat} (h : b ≠ a) (j : Nat) : qI (c_fs σ a R k) b j = qI σ b j := if_neg (fun z => h z.1)
theorem c_fs_0 {σ : pm_S} {a : Nat} {R : Nat → Int32} : c_fs σ a R 0 = σ := by
  unfold c_fs
  refine Prod.ext ?_ rfl
  funext b j
  exact if_neg (fun z => Nat.not_lt_zero _ z.2.2.2)
theorem c_fs_s {σ : pm_S} {a : Nat} {R : Nat → Int32} {i : Nat} (hi : i < 5) {x1 x2 x3 x4 : Int32} (h1 : x1 = R (2 + i)) (h2 : x2 = R (7 + i)) (h3 : x3 = R (12 + i)) (h4 : x4 = R (17 + i)) : pm_sI (pm_sI (pm_sI (pm_sI (c_fs σ a R i) a (2 + i) x1) a (7 + i) x2) a (12 + i) x3) a (17 + i) x4 = c_fs σ a R (i + 1) := by
  subst h1; subst h2; subst h3; subst h4
  unfold c_fs pm_sI
  refine Prod.ext ?_ rfl
  funext b j
  show (if b = a ∧ j = 17 + i then _ else if b = a ∧ j = 12 + i then _ else if b = a ∧ j = 7 + i then _ else if b = a ∧ j = 2 + i then _ else if b = a ∧ 2 ≤ j ∧ j < 22 ∧ (j - 2) % 5 < i then _ else _) = if b = a ∧ 2 ≤ j ∧ j < 22 ∧ (j - 2) % 5 < i + 1 then _ else _
  by_cases z1 : b = a ∧ j = 17 + i
  · rw [if_pos z1, if_pos (by omega), z1.2]
  · rw [if_neg z1]
    by_cases z2 : b = a ∧ j = 12 + i
    · rw [if_pos z2, if_pos (by omega), z2.2]
    · rw [if_neg z2]
      by_cases z3 : b = a ∧ j = 7 + i
      · rw [if_pos z3, if_pos (by omega), z3.2]
      · rw [if_neg z3]
        by_cases z4 : b = a ∧ j = 2 + i
        · rw [if_pos z4, if_pos (by omega), z4.2]
        · rw [if_neg z4]
          by_cases z5 : b = a ∧ 2 ≤ j ∧ j < 22 ∧ (j - 2) % 5 < i
          · rw [if_pos z5, if_pos (by omega)]
          · rw [if_neg z5, if_neg (by omega)]
theorem t_tellSet_lp {d al n w a sw sa : Nat} {σ : pm_S} {X : Nat → List c_A} {T : Nat → Option Nat} (hd : 1 ≤ d) (hC : fcC σ w a) (hT : cT σ n X) (hTC : tsC σ sw sa) (hA : tS σ n sa T) (hJ : ∀ t, t < n → j_at σ t) (se g day : Int32) : ∀ (k i : Nat) (x : Value), (pm_un x = true ∨ ∃ z, x = .ref z) → i + k = 5 → PW d al MX2_tellSet 2 [.ref w, .ref sw, .int day, .int (nI i), x] [] (c_fs σ a (rwF σ T se g day) i) (fun r τ => r = none ∧ τ = c_fs σ a (rwF σ T se g day) 5) := by
  obtain ⟨f1, f2, f3, f4, f5⟩ := hC
  intro k
  induction k with
  | zero =>
    intro i x hx hi
    have h5 : i = 5 := by omega
    subst h5
    refine pw_iload_n dX2_tellSet_2 rfl ?_
    refine pw_iconst (v := 5) dX2_tellSet_3 (by decide) ?_
    refine pw_icmp_ge (tgt := 109) dX2_tellSet_4 (by decide) (fun h4 => ?_) (fun h4 => ?_)
    · refine pw_vret dX2_tellSet_109 rfl ?_
      exact ⟨rfl, rfl⟩
    · exact absurd (by decide) h4
  | succ k ih =>
    intro i x hx hi
    have hi5 : i < 5 := by omega
    have hh := fun z => ih (i + 1) (.ref z) (Or.inr ⟨_, rfl⟩) (by omega)
    rw [nI_succ] at hh
    have e2 : 2 + nI i = nI (2 + i) := nI_add 2 i
    have e7 : 7 + nI i = nI (7 + i) := nI_add 7 i
    have e12 : 12 + nI i = nI (12 + i) := nI_add 12 i
    have e17 : 17 + nI i = nI (17 + i) := nI_add 17 i
    have hai : qR (c_fs σ a (rwF σ T se g day) i) sa i = tr σ T i := hA.1 i (by omega)
    have hTC' : tsC (c_fs σ a (rwF σ T se g day) i) sw sa := hTC
    have g1 : pm_is (c_fs σ a (rwF σ T se g day) i) w 2 := f1
    have g3 : pm_is (c_fs σ a (rwF σ T se g day) i) a 20 := f3
    cases hTi : T i with
    | none =>
      rw [tr_n hTi] at hai
      have hs := fun z => hh z
      rw [← c_fs_s hi5 (x1 := 0) (x2 := 0) (x3 := 0) (x4 := 0) (rwF_n (by omega) (by omega) hTi).symm (rwF_n (by omega) (by omega) hTi).symm (rwF_n (by omega) (by omega) hTi).symm (rwF_n (by omega) (by omega) hTi).symm] at hs
      refine pw_iload_n dX2_tellSet_2 rfl ?_
      refine pw_iconst (v := 5) dX2_tellSet_3 (by decide) ?_
      refine pw_icmp_ge (tgt := 109) dX2_tellSet_4 (by decide) (fun h4 => ?_) (fun h4 => ?_)
      · exact absurd h4 (nI_ge (show i < 5 by omega) (by decide))
      · refine pw_aload_n dX2_tellSet_7 rfl ?_
        refine pw_iload_n dX2_tellSet_8 rfl ?_
        refine pw_cV1 (d1 := d - 1) (a1 := 0) (a2 := al) dX2_tellSet_9 mtX8_at ivX8_at mlX2_21 (Nat.le_of_ble_eq_true rfl) (Nat.le_of_ble_eq_true rfl) (by omega) (by omega) hTC.1 rfl rfl (t_at hTC' hi5) ?_
        rintro r_ τ_ ⟨hr_, ht_⟩; subst r_; subst τ_
        rw [hai]
        refine pw_astore dX2_tellSet_12 (Nat.le_of_ble_eq_true rfl) (Nat.le_of_ble_eq_true rfl) rfl ?_
        refine pw_aload_n dX2_tellSet_14 rfl ?_
        refine pw_getF dX2_tellSet_15 flX2_11 rfl f1 f2 ?_
        refine pw_iconst (v := 2) dX2_tellSet_18 (by decide) ?_
        refine pw_iload_n dX2_tellSet_19 rfl ?_
        refine pw_iadd dX2_tellSet_20 ?_
        refine pw_aload dX2_tellSet_21 rfl ?_
        refine pw_ifnonnull (tgt := 30) dX2_tellSet_23 (by decide) (fun h23 => ?_) (fun h23 => ?_)
        · exact absurd h23 (Nat.lt_irrefl 0)
        · refine pw_iconst (v := 0) dX2_tellSet_26 (by decide) ?_
          refine pw_goto (tgt := 35) dX2_tellSet_27 (by decide) ?_
          refine pw_iast dX2_tellSet_35 f3 (by omega) e2 (by show 2 + i < qL σ a; rw [f4]; omega) (by omega) ?_
          refine pw_aload_n dX2_tellSet_36 rfl ?_
          refine pw_getF dX2_tellSet_37 flX2_11 rfl f1 f2 ?_
          refine pw_bipush (v := 7) dX2_tellSet_40 (by decide) ?_
          refine pw_iload_n dX2_tellSet_42 rfl ?_
          refine pw_iadd dX2_tellSet_43 ?_
          refine pw_aload dX2_tellSet_44 rfl ?_
          refine pw_ifnonnull (tgt := 53) dX2_tellSet_46 (by decide) (fun h46 => ?_) (fun h46 => ?_)
          · exact absurd h46 (Nat.lt_irrefl 0)
          · refine pw_iconst (v := 0) dX2_tellSet_49 (by decide) ?_
            refine pw_goto (tgt := 58) dX2_tellSet_50 (by decide) ?_
            refine pw_iast dX2_tellSet_58 f3 (by omega) e7 (by show 7 + i < qL σ a; rw [f4]; omega) (by omega) ?_
            refine pw_aload_n dX2_tellSet_59 rfl ?_
            refine pw_getF dX2_tellSet_60 flX2_11 rfl f1 f2 ?_
            refine pw_bipush (v := 12) dX2_tellSet_63 (by decide) ?_
            refine pw_iload_n dX2_tellSet_65 rfl ?_
            refine pw_iadd dX2_tellSet_66 ?_
            refine pw_aload dX2_tellSet_67 rfl ?_
            refine pw_ifnonnull (tgt := 76) dX2_tellSet_69 (by decide) (fun h69 => ?_) (fun h69 => ?_)
            · exact absurd h69 (Nat.lt_irrefl 0)
            · refine pw_iconst (v := 0) dX2_tellSet_72 (by decide) ?_
              refine pw_goto (tgt := 83) dX2_tellSet_73 (by decide) ?_
              refine pw_iast dX2_tellSet_83 f3 (by omega) e12 (by show 12 + i < qL σ a; rw [f4]; omega) (by omega) ?_
              refine pw_aload_n dX2_tellSet_84 rfl ?_
              refine pw_getF dX2_tellSet_85 flX2_11 rfl f1 f2 ?_
              refine pw_bipush (v := 17) dX2_tellSet_88 (by decide) ?_
              refine pw_iload_n dX2_tellSet_90 rfl ?_
              refine pw_iadd dX2_tellSet_91 ?_
              refine pw_aload dX2_tellSet_92 rfl ?_
              refine pw_ifnonnull (tgt := 101) dX2_tellSet_94 (by decide) (fun h94 => ?_) (fun h94 => ?_)
              · exact absurd h94 (Nat.lt_irrefl 0)
              · refine pw_iconst (v := 0) dX2_tellSet_97 (by decide) ?_
                refine pw_goto (tgt := 102) dX2_tellSet_98 (by decide) ?_
                refine pw_iast dX2_tellSet_102 f3 (by omega) e17 (by show 17 + i < qL σ a; rw [f4]; omega) (by omega) ?_
                refine pw_iinc1 dX2_tellSet_103 rfl (Nat.le_of_ble_eq_true rfl) (Nat.le_of_ble_eq_true rfl) rfl ?_
                refine pw_goto (tgt := 2) dX2_tellSet_106 (by decide) ?_
                exact hs 0
    | some t =>
      rw [tr_s hTi] at hai
      have htn := hA.2 i t hTi
      obtain ⟨⟨q1, q2⟩, q3, -⟩ := hT.2.2 t htn
      obtain ⟨j1, j2, j3, j4, j5, -⟩ := hJ t htn
      have hna : qR σ 8 t ≠ a := by omega
      have v2 : rwF σ T se g day (2 + i) = qI σ (qR σ 8 t) 2 := by rw [rwF_s (by omega) (by omega) hTi, if_pos (by omega), j2]
      have v3 : rwF σ T se g day (7 + i) = qI σ (qR σ 8 t) 3 := by rw [rwF_s (by omega) (by omega) hTi, if_neg (by omega), if_pos (by omega), j3]
      have v5 : rwF σ T se g day (12 + i) = day - qI σ (qR σ 8 t) 5 := by rw [rwF_s (by omega) (by omega) hTi, if_neg (by omega), if_neg (by omega), if_pos (by omega), j5]
      have v1 : rwF σ T se g day (17 + i) = 1 := by rw [rwF_s (by omega) (by omega) hTi, if_neg (by omega), if_neg (by omega), if_neg (by omega)]
      have p2 : qI (c_fs σ a (rwF σ T se g day) i) (qR σ 8 t) 2 = qI σ (qR σ 8 t) 2 := c_fs_ne hna 2
      have p3 : ∀ x, qI (pm_sI (c_fs σ a (rwF σ T se g day) i) a (2 + i) x) (qR σ 8 t) 3 = qI σ (qR σ 8 t) 3 := fun x => (qI_sI_nc hna).trans (c_fs_ne hna 3)
      have p5 : ∀ x y, qI (pm_sI (pm_sI (c_fs σ a (rwF σ T se g day) i) a (2 + i) x) a (7 + i) y) (qR σ 8 t) 5 = qI σ (qR σ 8 t) 5 := fun x y => (qI_sI_nc hna).trans ((qI_sI_nc hna).trans (c_fs_ne hna 5))
      have hs := fun z => hh z
      rw [← c_fs_s hi5 v2.symm v3.symm v5.symm v1.symm] at hs
      refine pw_iload_n dX2_tellSet_2 rfl ?_
      refine pw_iconst (v := 5) dX2_tellSet_3 (by decide) ?_
      refine pw_icmp_ge (tgt := 109) dX2_tellSet_4 (by decide) (fun h4 => ?_) (fun h4 => ?_)
      · exact absurd h4 (nI_ge (show i < 5 by omega) (by decide))
      · refine pw_aload_n dX2_tellSet_7 rfl ?_
        refine pw_iload_n dX2_tellSet_8 rfl ?_
        refine pw_cV1 (d1 := d - 1) (a1 := 0) (a2 := al) dX2_tellSet_9 mtX8_at ivX8_at mlX2_21 (Nat.le_of_ble_eq_true rfl) (Nat.le_of_ble_eq_true rfl) (by omega) (by omega) hTC.1 rfl rfl (t_at hTC' hi5) ?_
        rintro r_ τ_ ⟨hr_, ht_⟩; subst r_; subst τ_
        rw [hai]
        refine pw_astore dX2_tellSet_12 (Nat.le_of_ble_eq_true rfl) (Nat.le_of_ble_eq_true rfl) rfl ?_
        refine pw_aload_n dX2_tellSet_14 rfl ?_
        refine pw_getF dX2_tellSet_15 flX2_11 rfl f1 f2 ?_
        refine pw_iconst (v := 2) dX2_tellSet_18 (by decide) ?_
        refine pw_iload_n dX2_tellSet_19 rfl ?_
        refine pw_iadd dX2_tellSet_20 ?_
        refine pw_aload dX2_tellSet_21 rfl ?_
        refine pw_ifnonnull (tgt := 30) dX2_tellSet_23 (by decide) (fun h23 => ?_) (fun h23 => ?_)
        · refine pw_aload dX2_tellSet_30 rfl ?_
          refine pw_getI dX2_tellSet_32 flX2_27 rfl q1 ?_
          rw [p2]
          refine pw_iast dX2_tellSet_35 f3 (by omega) e2 (by show 2 + i < qL σ a; rw [f4]; omega) (by omega) ?_
          refine pw_aload_n dX2_tellSet_36 rfl ?_
          refine pw_getF dX2_tellSet_37 flX2_11 rfl f1 f2 ?_
          refine pw_bipush (v := 7) dX2_tellSet_40 (by decide) ?_
          refine pw_iload_n dX2_tellSet_42 rfl ?_
          refine pw_iadd dX2_tellSet_43 ?_
          refine pw_aload dX2_tellSet_44 rfl ?_
          refine pw_ifnonnull (tgt := 53) dX2_tellSet_46 (by decide) (fun h46 => ?_) (fun h46 => ?_)
          · refine pw_aload dX2_tellSet_53 rfl ?_
            refine pw_getI dX2_tellSet_55 flX2_33 rfl q1 ?_
            rw [p3]
            refine pw_iast dX2_tellSet_58 f3 (by omega) e7 (by show 7 + i < qL σ a; rw [f4]; omega) (by omega) ?_
            refine pw_aload_n dX2_tellSet_59 rfl ?_
            refine pw_getF dX2_tellSet_60 flX2_11 rfl f1 f2 ?_
            refine pw_bipush (v := 12) dX2_tellSet_63 (by decide) ?_
            refine pw_iload_n dX2_tellSet_65 rfl ?_
            refine pw_iadd dX2_tellSet_66 ?_
            refine pw_aload dX2_tellSet_67 rfl ?_
            refine pw_ifnonnull (tgt := 76) dX2_tellSet_69 (by decide) (fun h69 => ?_) (fun h69 => ?_)
            · refine pw_iload_n dX2_tellSet_76 rfl ?_
              refine pw_aload dX2_tellSet_77 rfl ?_
              refine pw_getI dX2_tellSet_79 flX2_36 rfl q1 ?_
              rw [p5]
              refine pw_isub dX2_tellSet_82 ?_
              refine pw_iast dX2_tellSet_83 f3 (by omega) e12 (by show 12 + i < qL σ a; rw [f4]; omega) (by omega) ?_
              refine pw_aload_n dX2_tellSet_84 rfl ?_
              refine pw_getF dX2_tellSet_85 flX2_11 rfl f1 f2 ?_
              refine pw_bipush (v := 17) dX2_tellSet_88 (by decide) ?_
              refine pw_iload_n dX2_tellSet_90 rfl ?_
              refine pw_iadd dX2_tellSet_91 ?_
              refine pw_aload dX2_tellSet_92 rfl ?_
              refine pw_ifnonnull (tgt := 101) dX2_tellSet_94 (by decide) (fun h94 => ?_) (fun h94 => ?_)
              · refine pw_iconst (v := 1) dX2_tellSet_101 (by decide) ?_
                refine pw_iast dX2_tellSet_102 f3 (by omega) e17 (by show 17 + i < qL σ a; rw [f4]; omega) (by omega) ?_
                refine pw_iinc1 dX2_tellSet_103 rfl (Nat.le_of_ble_eq_true rfl) (Nat.le_of_ble_eq_true rfl) rfl ?_
                refine pw_goto (tgt := 2) dX2_tellSet_106 (by decide) ?_
                exact hs _
              · exact absurd h94 (by omega)
            · exact absurd h69 (by omega)
          · exact absurd h46 (by omega)
        · exact absurd h23 (by omega)
theorem t_tellSet {d al n w a sw sa : Nat} {σ : pm_S} {X : Nat → List c_A} {T : Nat → Option Nat} (hd : 1 ≤ d) (hC : fcC σ w a) (hT : cT σ n X) (hTC : tsC σ sw sa) (hA : tS σ n sa T) (hJ : ∀ t, t < n → j_at σ t) (se g day : Int32) : PE d al MX2_tellSet [.ref w, .ref sw, .int day] σ none (c_fs σ a (rwF σ T se g day) 5) := by
  have h := t_tellSet_lp (d := d) (al := al) hd hC hT hTC hA hJ se g day 5 0 (.retAddr 0) (Or.inl rfl) (by omega)
  rw [c_fs_0] at h
  show PW _ _ _ _ _ _ _ _
  refine pw_iconst (v := 0) dX2_tellSet_0 (by decide) ?_
  refine pw_istore_n dX2_tellSet_1 (Nat.le_of_ble_eq_true rfl) (Nat.le_of_ble_eq_true rfl) rfl ?_
  exact h
/-! ===== the reference: what a rule says of a set ===== -/
def rpT (σ : pm_S) (n : Nat) (set : Int32) (T : Nat → Option Nat) : Prop := rep (kd σ) n set T
theorem kn_k : ∀ y, y < 20 → (nI (10010 + 10 * (y / 5) + y % 5) - 10010) - (nI (10010 + 10 * (y / 5) + y % 5) - 10010) / 10 * 10 = nI (y % 5) := by decide +kernel
theorem kn_c : ∀ y, y < 20 → ((10020 ≤ nI (10010 + 10 * (y / 5) + y % 5) ↔ 5 ≤ y) ∧ (10030 ≤ nI (10010 + 10 * (y / 5) + y % 5) ↔ 10 ≤ y) ∧ (10040 ≤ nI (10010 + 10 * (y / 5) + y % 5) ↔ 15 ≤ y)) := by decide +kernel
theorem s_known_lp {d al n y : Nat} {σ : pm_S} {T : Nat → Option Nat} {set : Int32} (hS : pm_fix σ) (hn : qI σ 43 1 = nI n) (hn2 : n ≤ 20) (hk : ∀ t, t < n → qI σ 44 t = nI (kd σ t) ∧ kd σ t < 5) (hr : rep (kd σ) n set T) (hy : y < 20) (se g : Int32) : ∀ (k t : Nat), t + k = n → (∀ s, s < t → ¬ (bt set s = true ∧ kd σ s = y % 5)) → PW d al MX12_known 24 [.ref 43, .int (nI (10010 + 10 * (y / 5) + y % 5)), .int se, .int g, .int set, .int (nI t)] [] σ (fun r τ => r = some (.int (rwF σ T se g (qI σ 43 0) (y + 2))) ∧ τ = σ) := by
  obtain ⟨c1, c2, c3⟩ := kn_c y hy
  have hki := kn_k y hy
  intro k
  induction k with
  | zero =>
    intro t ht hno
    have htn : t = n := by omega
    subst htn
    have hTn : T (y % 5) = none := by
      cases hT : T (y % 5) with
      | none => rfl
      | some s =>
        obtain ⟨a1, a2, a3⟩ := (hr (y % 5) s).mp hT
        exact absurd ⟨a2, a3⟩ (hno s a1)
    refine pw_iload dX12_known_24 rfl ?_
    refine pw_aload_n dX12_known_26 rfl ?_
    refine pw_getI dX12_known_27 flX12_90 rfl (hS.at rfl rfl rfl) ?_
    rw [hn]
    refine pw_icmp_ge (tgt := 67) dX12_known_30 (by decide) (fun h30 => ?_) (fun h30 => ?_)
    · refine pw_iload dX12_known_67 rfl ?_
      refine pw_aload_n dX12_known_69 rfl ?_
      refine pw_getI dX12_known_70 flX12_90 rfl (hS.at rfl rfl rfl) ?_
      rw [hn]
      refine pw_icmp_ne (tgt := 78) dX12_known_73 (by decide) (fun h73 => ?_) (fun h73 => ?_)
      · exact absurd rfl h73
      · refine pw_iconst (v := 0) dX12_known_76 (by decide) ?_
        refine pw_iret dX12_known_77 rfl rfl ?_
        exact ⟨by rw [rwF_n (by omega) (by omega) hTn], rfl⟩
    · exact absurd (Int32.le_refl _) h30
  | succ k ih =>
    intro t ht hno
    have htn : t < n := by omega
    have ht20 : t < 20 := by omega
    obtain ⟨k1, k2⟩ := hk t htn
    have e0 := sb_0 set (t := t) (by omega)
    have ek : nI (kd σ t) = nI (y % 5) ↔ kd σ t = y % 5 := nI_eq (by omega) (by omega)
    have ene : ¬ nI t = nI n := nI_ne (by omega) (by omega) (by omega)
    by_cases z : bt set t = true ∧ kd σ t = y % 5
    · have hTt : T (y % 5) = some t := (hr (y % 5) t).mpr ⟨htn, z.1, z.2⟩
      have hrw : rwF σ T se g (qI σ 43 0) (y + 2) = if y + 2 < 7 then qI σ 45 t else if y + 2 < 12 then qI σ 46 t else if y + 2 < 17 then qI σ 43 0 - qI σ 48 t else 1 := rwF_s (by omega) (by omega) hTt
      rw [hrw]
      refine pw_iload dX12_known_24 rfl ?_
      refine pw_aload_n dX12_known_26 rfl ?_
      refine pw_getI dX12_known_27 flX12_90 rfl (hS.at rfl rfl rfl) ?_
      rw [hn]
      refine pw_icmp_ge (tgt := 67) dX12_known_30 (by decide) (fun h30 => ?_) (fun h30 => ?_)
      · exact absurd h30 (nI_ge htn (by omega))
      · refine pw_iload dX12_known_33 rfl ?_
        refine pw_iload dX12_known_35 rfl ?_
        refine pw_ishr dX12_known_37 ?_
        refine pw_iconst (v := 1) dX12_known_38 (by decide) ?_
        refine pw_iand dX12_known_39 ?_
        refine pw_if_eq (tgt := 61) dX12_known_40 (by decide) (fun h40 => ?_) (fun h40 => ?_)
        · exact absurd z.1 (e0.mp h40)
        · refine pw_aload_n dX12_known_43 rfl ?_
          refine pw_getF (v := 44) dX12_known_44 flX12_7 rfl (hS.at rfl rfl rfl) (hS.rf (43, 4, 44) rfl (by decide)) ?_
          refine pw_iload dX12_known_47 rfl ?_
          refine pw_iald dX12_known_49 (hS.at rfl rfl rfl) rfl (hS.lt rfl rfl ht20 rfl) (by omega) ?_
          rw [k1]
          refine pw_iload_n dX12_known_50 rfl ?_
          refine pw_sipush (v := 10010) dX12_known_51 (by decide) ?_
          refine pw_isub dX12_known_54 ?_
          refine pw_bipush (v := 10) dX12_known_55 (by decide) ?_
          refine pw_irem dX12_known_57 (by decide) ?_
          rw [hki]
          refine pw_icmp_eq (tgt := 67) dX12_known_58 (by decide) (fun h58 => ?_) (fun h58 => ?_)
          · refine pw_iload dX12_known_67 rfl ?_
            refine pw_aload_n dX12_known_69 rfl ?_
            refine pw_getI dX12_known_70 flX12_90 rfl (hS.at rfl rfl rfl) ?_
            rw [hn]
            refine pw_icmp_ne (tgt := 78) dX12_known_73 (by decide) (fun h73 => ?_) (fun h73 => ?_)
            · refine pw_iload_n dX12_known_78 rfl ?_
              refine pw_sipush (v := 10020) dX12_known_79 (by decide) ?_
              refine pw_icmp_ge (tgt := 95) dX12_known_82 (by decide) (fun h82 => ?_) (fun h82 => ?_)
              · refine pw_iload_n dX12_known_95 rfl ?_
                refine pw_sipush (v := 10030) dX12_known_96 (by decide) ?_
                refine pw_icmp_ge (tgt := 112) dX12_known_99 (by decide) (fun h99 => ?_) (fun h99 => ?_)
                · refine pw_iload_n dX12_known_112 rfl ?_
                  refine pw_sipush (v := 10040) dX12_known_113 (by decide) ?_
                  refine pw_icmp_ge (tgt := 134) dX12_known_116 (by decide) (fun h116 => ?_) (fun h116 => ?_)
                  · refine pw_iconst (v := 1) dX12_known_134 (by decide) ?_
                    refine pw_iret dX12_known_135 rfl rfl ?_
                    first | exact ⟨by rw [if_pos (show y + 2 < 7 by have := mt c1.mpr h82; omega)], rfl⟩ | exact ⟨by rw [if_neg (show ¬ y + 2 < 7 by have := c1.mp h82; omega), if_pos (show y + 2 < 12 by have := mt c2.mpr h99; omega)], rfl⟩ | exact ⟨by rw [if_neg (show ¬ y + 2 < 7 by have := c1.mp h82; omega), if_neg (show ¬ y + 2 < 12 by have := c2.mp h99; omega), if_pos (show y + 2 < 17 by have := mt c3.mpr h116; omega)], rfl⟩ | exact ⟨by rw [if_neg (show ¬ y + 2 < 7 by have := c1.mp h82; omega), if_neg (show ¬ y + 2 < 12 by have := c2.mp h99; omega), if_neg (show ¬ y + 2 < 17 by have := c3.mp h116; omega)], rfl⟩
                  · refine pw_aload_n dX12_known_119 rfl ?_
                    refine pw_getI dX12_known_120 flX12_97 rfl (hS.at rfl rfl rfl) ?_
                    refine pw_aload_n dX12_known_123 rfl ?_
                    refine pw_getF (v := 48) dX12_known_124 flX12_22 rfl (hS.at rfl rfl rfl) (hS.rf (43, 8, 48) rfl (by decide)) ?_
                    refine pw_iload dX12_known_127 rfl ?_
                    refine pw_iald dX12_known_129 (hS.at rfl rfl rfl) rfl (hS.lt rfl rfl ht20 rfl) (by omega) ?_
                    refine pw_isub dX12_known_130 ?_
                    refine pw_goto (tgt := 135) dX12_known_131 (by decide) ?_
                    refine pw_iret dX12_known_135 rfl rfl ?_
                    first | exact ⟨by rw [if_pos (show y + 2 < 7 by have := mt c1.mpr h82; omega)], rfl⟩ | exact ⟨by rw [if_neg (show ¬ y + 2 < 7 by have := c1.mp h82; omega), if_pos (show y + 2 < 12 by have := mt c2.mpr h99; omega)], rfl⟩ | exact ⟨by rw [if_neg (show ¬ y + 2 < 7 by have := c1.mp h82; omega), if_neg (show ¬ y + 2 < 12 by have := c2.mp h99; omega), if_pos (show y + 2 < 17 by have := mt c3.mpr h116; omega)], rfl⟩ | exact ⟨by rw [if_neg (show ¬ y + 2 < 7 by have := c1.mp h82; omega), if_neg (show ¬ y + 2 < 12 by have := c2.mp h99; omega), if_neg (show ¬ y + 2 < 17 by have := c3.mp h116; omega)], rfl⟩
                · refine pw_aload_n dX12_known_102 rfl ?_
                  refine pw_getF (v := 46) dX12_known_103 flX12_16 rfl (hS.at rfl rfl rfl) (hS.rf (43, 6, 46) rfl (by decide)) ?_
                  refine pw_iload dX12_known_106 rfl ?_
                  refine pw_iald dX12_known_108 (hS.at rfl rfl rfl) rfl (hS.lt rfl rfl ht20 rfl) (by omega) ?_
                  refine pw_goto (tgt := 135) dX12_known_109 (by decide) ?_
                  refine pw_iret dX12_known_135 rfl rfl ?_
                  first | exact ⟨by rw [if_pos (show y + 2 < 7 by have := mt c1.mpr h82; omega)], rfl⟩ | exact ⟨by rw [if_neg (show ¬ y + 2 < 7 by have := c1.mp h82; omega), if_pos (show y + 2 < 12 by have := mt c2.mpr h99; omega)], rfl⟩ | exact ⟨by rw [if_neg (show ¬ y + 2 < 7 by have := c1.mp h82; omega), if_neg (show ¬ y + 2 < 12 by have := c2.mp h99; omega), if_pos (show y + 2 < 17 by have := mt c3.mpr h116; omega)], rfl⟩ | exact ⟨by rw [if_neg (show ¬ y + 2 < 7 by have := c1.mp h82; omega), if_neg (show ¬ y + 2 < 12 by have := c2.mp h99; omega), if_neg (show ¬ y + 2 < 17 by have := c3.mp h116; omega)], rfl⟩
              · refine pw_aload_n dX12_known_85 rfl ?_
                refine pw_getF (v := 45) dX12_known_86 flX12_13 rfl (hS.at rfl rfl rfl) (hS.rf (43, 5, 45) rfl (by decide)) ?_
                refine pw_iload dX12_known_89 rfl ?_
                refine pw_iald dX12_known_91 (hS.at rfl rfl rfl) rfl (hS.lt rfl rfl ht20 rfl) (by omega) ?_
                refine pw_goto (tgt := 135) dX12_known_92 (by decide) ?_
                refine pw_iret dX12_known_135 rfl rfl ?_
                first | exact ⟨by rw [if_pos (show y + 2 < 7 by have := mt c1.mpr h82; omega)], rfl⟩ | exact ⟨by rw [if_neg (show ¬ y + 2 < 7 by have := c1.mp h82; omega), if_pos (show y + 2 < 12 by have := mt c2.mpr h99; omega)], rfl⟩ | exact ⟨by rw [if_neg (show ¬ y + 2 < 7 by have := c1.mp h82; omega), if_neg (show ¬ y + 2 < 12 by have := c2.mp h99; omega), if_pos (show y + 2 < 17 by have := mt c3.mpr h116; omega)], rfl⟩ | exact ⟨by rw [if_neg (show ¬ y + 2 < 7 by have := c1.mp h82; omega), if_neg (show ¬ y + 2 < 12 by have := c2.mp h99; omega), if_neg (show ¬ y + 2 < 17 by have := c3.mp h116; omega)], rfl⟩
            · exact absurd h73 ene
          · exact absurd (ek.mpr z.2) h58
    · have hh := ih (t + 1) (by omega) (fun s hs => by
        by_cases w : s = t
        · rw [w]; exact z
        · exact hno s (by omega))
      rw [nI_succ] at hh
      refine pw_iload dX12_known_24 rfl ?_
      refine pw_aload_n dX12_known_26 rfl ?_
      refine pw_getI dX12_known_27 flX12_90 rfl (hS.at rfl rfl rfl) ?_
      rw [hn]
      refine pw_icmp_ge (tgt := 67) dX12_known_30 (by decide) (fun h30 => ?_) (fun h30 => ?_)
      · exact absurd h30 (nI_ge htn (by omega))
      · refine pw_iload dX12_known_33 rfl ?_
        refine pw_iload dX12_known_35 rfl ?_
        refine pw_ishr dX12_known_37 ?_
        refine pw_iconst (v := 1) dX12_known_38 (by decide) ?_
        refine pw_iand dX12_known_39 ?_
        refine pw_if_eq (tgt := 61) dX12_known_40 (by decide) (fun h40 => ?_) (fun h40 => ?_)
        · refine pw_iinc1 dX12_known_61 rfl (Nat.le_of_ble_eq_true rfl) (Nat.le_of_ble_eq_true rfl) rfl ?_
          refine pw_goto (tgt := 24) dX12_known_64 (by decide) ?_
          exact hh
        · refine pw_aload_n dX12_known_43 rfl ?_
          refine pw_getF (v := 44) dX12_known_44 flX12_7 rfl (hS.at rfl rfl rfl) (hS.rf (43, 4, 44) rfl (by decide)) ?_
          refine pw_iload dX12_known_47 rfl ?_
          refine pw_iald dX12_known_49 (hS.at rfl rfl rfl) rfl (hS.lt rfl rfl ht20 rfl) (by omega) ?_
          rw [k1]
          refine pw_iload_n dX12_known_50 rfl ?_
          refine pw_sipush (v := 10010) dX12_known_51 (by decide) ?_
          refine pw_isub dX12_known_54 ?_
          refine pw_bipush (v := 10) dX12_known_55 (by decide) ?_
          refine pw_irem dX12_known_57 (by decide) ?_
          rw [hki]
          refine pw_icmp_eq (tgt := 67) dX12_known_58 (by decide) (fun h58 => ?_) (fun h58 => ?_)
          · exact absurd ⟨Decidable.by_contra (fun w => h40 (e0.mpr w)), ek.mp h58⟩ z
          · refine pw_iinc1 dX12_known_61 rfl (Nat.le_of_ble_eq_true rfl) (Nat.le_of_ble_eq_true rfl) rfl ?_
            refine pw_goto (tgt := 24) dX12_known_64 (by decide) ?_
            exact hh
