/-! ===== the reference: rules() ===== -/
def c_cpy (ρ : pm_S) (a s k : Nat) : pm_S := (fun b j => if b = a ∧ j < k then qI ρ s j else qI ρ b j, ρ.2)
theorem c_cpy_ne {ρ : pm_S} {a s k b : Nat} (h : b ≠ a) (j : Nat) : qI (c_cpy ρ a s k) b j = qI ρ b j := if_neg (fun z => h z.1)
theorem c_cpy_in {ρ : pm_S} {a s k j : Nat} (h : j < k) : qI (c_cpy ρ a s k) a j = qI ρ s j := if_pos ⟨rfl, h⟩
theorem c_cpy_0 {ρ : pm_S} {a s : Nat} : c_cpy ρ a s 0 = ρ := by
  unfold c_cpy
  refine Prod.ext ?_ rfl
  funext b j
  exact if_neg (fun z => Nat.not_lt_zero _ z.2)
theorem c_cpy_s {ρ : pm_S} {a s k : Nat} {x : Int32} (hx : x = qI ρ s k) : pm_sI (c_cpy ρ a s k) a k x = c_cpy ρ a s (k + 1) := by
  subst hx
  unfold c_cpy pm_sI
  refine Prod.ext ?_ rfl
  funext b j
  show (if b = a ∧ j = k then _ else if b = a ∧ j < k then _ else _) = if b = a ∧ j < k + 1 then _ else _
  by_cases h1 : b = a ∧ j = k
  · rw [if_pos h1, if_pos (by omega), h1.2]
  · rw [if_neg h1]
    by_cases h2 : b = a ∧ j < k
    · rw [if_pos h2, if_pos (by omega)]
    · rw [if_neg h2, if_neg (by omega)]
theorem c_cpy_fix {ρ : pm_S} {a s k : Nat} (h : pm_fix ρ) : pm_fix (c_cpy ρ a s k) := fix_of2 (τ := c_cpy ρ a s k) rfl h
theorem s_cp1 {d al n : Nat} {ρ : pm_S} {Q : Option Value → pm_S → Prop} (hS0 : pm_fix ρ) (hn : qI ρ 43 21 = nI n) (hn2 : n ≤ 12) (kk : PW d al MX12_rules 116 [.ref 43, .int 1, .int (nI n)] [] (c_cpy ρ 61 63 n) Q) : ∀ (k i : Nat), i + k = n → PW d al MX12_rules 90 [.ref 43, .int 1, .int (nI i)] [] (c_cpy ρ 61 63 i) Q := by
  intro k
  induction k with
  | zero =>
    intro i hi
    have hin : i = n := by omega
    subst hin
    have hS := c_cpy_fix (a := 61) (s := 63) (k := i) hS0
    have e21 : qI (c_cpy ρ 61 63 i) 43 21 = nI i := (c_cpy_ne (by decide) _).trans hn
    refine pw_iload_n dX12_rules_90 rfl ?_
    refine pw_aload_n dX12_rules_91 rfl ?_
    refine pw_getI dX12_rules_92 flX12_133 rfl (hS.at rfl rfl rfl) ?_
    rw [e21]
    refine pw_icmp_ge (tgt := 116) dX12_rules_95 (by decide) (fun h95 => ?_) (fun h95 => ?_)
    · exact kk
    · exact absurd (Int32.le_refl _) h95
  | succ k ih =>
    intro i hi
    have hS := c_cpy_fix (a := 61) (s := 63) (k := i) hS0
    have hi13 : i < 13 := by omega
    have e21 : qI (c_cpy ρ 61 63 i) 43 21 = nI n := (c_cpy_ne (by decide) _).trans hn
    refine pw_iload_n dX12_rules_90 rfl ?_
    refine pw_aload_n dX12_rules_91 rfl ?_
    refine pw_getI dX12_rules_92 flX12_133 rfl (hS.at rfl rfl rfl) ?_
    rw [e21]
    refine pw_icmp_ge (tgt := 116) dX12_rules_95 (by decide) (fun h95 => ?_) (fun h95 => ?_)
    · exact absurd h95 (nI_ge (show i < n by omega) (by omega))
    · refine pw_aload_n dX12_rules_98 rfl ?_
      refine pw_getF (v := 61) dX12_rules_99 flX12_61 rfl (hS.at rfl rfl rfl) (hS.rf (43, 24, 61) rfl (by decide)) ?_
      refine pw_iload_n dX12_rules_102 rfl ?_
      refine pw_aload_n dX12_rules_103 rfl ?_
      refine pw_getF (v := 63) dX12_rules_104 flX12_67 rfl (hS.at rfl rfl rfl) (hS.rf (43, 26, 63) rfl (by decide)) ?_
      refine pw_iload_n dX12_rules_107 rfl ?_
      refine pw_iald dX12_rules_108 (hS.at rfl rfl rfl) rfl (hS.lt rfl rfl hi13 rfl) (by omega) ?_
      refine pw_iast dX12_rules_109 (hS.at rfl rfl rfl) (by decide) rfl (hS.lt rfl rfl hi13 rfl) (by omega) ?_
      rw [c_cpy_s (c_cpy_ne (by decide) _)]
      refine pw_iinc1 dX12_rules_110 rfl (Nat.le_of_ble_eq_true rfl) (Nat.le_of_ble_eq_true rfl) rfl ?_
      refine pw_goto (tgt := 90) dX12_rules_113 (by decide) ?_
      have hq := ih (i + 1) (by omega)
      rw [nI_succ] at hq
      exact hq
theorem s_cp2 {d al n : Nat} {ρ : pm_S} {Q : Option Value → pm_S → Prop} (hS0 : pm_fix ρ) (hn : qI ρ 43 23 = nI n) (hn2 : n ≤ 600) (kk : PW d al MX12_rules 157 [.ref 43, .int 1, .int (nI n)] [] (c_cpy ρ 62 64 n) Q) : ∀ (k i : Nat), i + k = n → PW d al MX12_rules 131 [.ref 43, .int 1, .int (nI i)] [] (c_cpy ρ 62 64 i) Q := by
  intro k
  induction k with
  | zero =>
    intro i hi
    have hin : i = n := by omega
    subst hin
    have hS := c_cpy_fix (a := 62) (s := 64) (k := i) hS0
    have e21 : qI (c_cpy ρ 62 64 i) 43 23 = nI i := (c_cpy_ne (by decide) _).trans hn
    refine pw_iload_n dX12_rules_131 rfl ?_
    refine pw_aload_n dX12_rules_132 rfl ?_
    refine pw_getI dX12_rules_133 flX12_225 rfl (hS.at rfl rfl rfl) ?_
    rw [e21]
    refine pw_icmp_ge (tgt := 157) dX12_rules_136 (by decide) (fun h136 => ?_) (fun h136 => ?_)
    · exact kk
    · exact absurd (Int32.le_refl _) h136
  | succ k ih =>
    intro i hi
    have hS := c_cpy_fix (a := 62) (s := 64) (k := i) hS0
    have hi13 : i < 620 := by omega
    have e21 : qI (c_cpy ρ 62 64 i) 43 23 = nI n := (c_cpy_ne (by decide) _).trans hn
    refine pw_iload_n dX12_rules_131 rfl ?_
    refine pw_aload_n dX12_rules_132 rfl ?_
    refine pw_getI dX12_rules_133 flX12_225 rfl (hS.at rfl rfl rfl) ?_
    rw [e21]
    refine pw_icmp_ge (tgt := 157) dX12_rules_136 (by decide) (fun h136 => ?_) (fun h136 => ?_)
    · exact absurd h136 (nI_ge (show i < n by omega) (by omega))
    · refine pw_aload_n dX12_rules_139 rfl ?_
      refine pw_getF (v := 62) dX12_rules_140 flX12_64 rfl (hS.at rfl rfl rfl) (hS.rf (43, 25, 62) rfl (by decide)) ?_
      refine pw_iload_n dX12_rules_143 rfl ?_
      refine pw_aload_n dX12_rules_144 rfl ?_
      refine pw_getF (v := 64) dX12_rules_145 flX12_70 rfl (hS.at rfl rfl rfl) (hS.rf (43, 27, 64) rfl (by decide)) ?_
      refine pw_iload_n dX12_rules_148 rfl ?_
      refine pw_iald dX12_rules_149 (hS.at rfl rfl rfl) rfl (hS.lt rfl rfl hi13 rfl) (by omega) ?_
      refine pw_iast dX12_rules_150 (hS.at rfl rfl rfl) (by decide) rfl (hS.lt rfl rfl hi13 rfl) (by omega) ?_
      rw [c_cpy_s (c_cpy_ne (by decide) _)]
      refine pw_iinc1 dX12_rules_151 rfl (Nat.le_of_ble_eq_true rfl) (Nat.le_of_ble_eq_true rfl) rfl ?_
      refine pw_goto (tgt := 131) dX12_rules_154 (by decide) ?_
      have hq := ih (i + 1) (by omega)
      rw [nI_succ] at hq
      exact hq
/-- what rules() of the reference comes to -/
def MUs (σ τ : pm_S) (c : Nat → Nat) (L : Nat) (v : Option Value) (R : Except (Nat × Nat) (List (List stp))) : Prop :=
  τ.2 = σ.2 ∧ (∀ b j, ¬ (b = 43 ∧ 21 ≤ j ∧ j ≤ 39) → ¬ (61 ≤ b ∧ b ≤ 64) → qI τ b j = qI σ b j) ∧ qI τ 43 30 = 0 ∧ match R with
  | .ok rs => v = some (.int (nI rs.length)) ∧ qI τ 43 21 = nI rs.length ∧ qI τ 43 37 = 0 ∧ qI τ 43 39 = -1 ∧ (∀ m, m ≤ rs.length → qI τ 61 m = nI (cvs (rs.take m).flatten).length) ∧ (∀ m, m < (cvs rs.flatten).length → qI τ 62 m = nI ((cvs rs.flatten).getD m 0)) ∧ rs.length ≤ 12 ∧ (cvs rs.flatten).length ≤ 600
  | .error e => v = some (.int (-1)) ∧ qI τ 43 21 = qI σ 43 21 ∧ qI τ 43 37 = nI e.1 ∧ qI τ 43 39 = nI (sn c L e.2) ∧ (∀ j, qI τ 61 j = qI σ 61 j) ∧ ∀ j, qI τ 62 j = qI σ 62 j
theorem s_ru_end {d al L : Nat} {c : Nat → Nat} {σ : pm_S} (h0 : pm_fix σ) : ∀ (R : Except (Nat × Nat) (List (List stp))) (τ : pm_S) (v : Int32), MAs σ τ c L v R → PW d al MX12_rules 45 [.ref 43, .int v, .retAddr 0] [] τ (fun r ρ => MUs σ ρ c L r R) := by
  intro R τ v hM
  obtain ⟨hU, hM⟩ := hM
  have hS : pm_fix τ := fix_of2 hU.1 h0
  cases R with
  | error e =>
    obtain ⟨rfl, b1, b2⟩ : v = 0 ∧ qI τ 43 35 = nI e.1 ∧ qI τ 43 36 = nI (sn c L e.2) := hM
    refine pw_aload_n dX12_rules_45 rfl ?_
    refine pw_iconst (v := 0) dX12_rules_46 (by decide) ?_
    refine pw_putI dX12_rules_47 flX12_155 ⟨_, rfl, Or.inl rfl⟩ rfl (hS.at rfl rfl rfl) ?_
    refine pw_aload_n dX12_rules_50 rfl ?_
    refine pw_aload_n dX12_rules_51 rfl ?_
    refine pw_getI dX12_rules_52 flX12_213 rfl (hS.at rfl rfl rfl) ?_
    refine pw_putI dX12_rules_55 flX12_260 ⟨_, rfl, Or.inl rfl⟩ rfl (hS.at rfl rfl rfl) ?_
    refine pw_aload_n dX12_rules_58 rfl ?_
    refine pw_iload_n dX12_rules_59 rfl ?_
    refine pw_if_eq (tgt := 67) dX12_rules_60 (by decide) (fun h60 => ?_) (fun h60 => ?_)
    · refine pw_aload_n dX12_rules_67 rfl ?_
      refine pw_getI dX12_rules_68 flX12_216 rfl (hS.at rfl rfl rfl) ?_
      refine pw_putI dX12_rules_71 flX12_79 ⟨_, rfl, Or.inl rfl⟩ rfl (hS.at rfl rfl rfl) ?_
      refine pw_iload_n dX12_rules_74 rfl ?_
      refine pw_if_ne (tgt := 80) dX12_rules_75 (by decide) (fun h75 => ?_) (fun h75 => ?_)
      · exact absurd rfl h75
      · refine pw_iconst (v := (-1)) dX12_rules_78 (by decide) ?_
        refine pw_iret dX12_rules_79 rfl rfl ?_
        refine ⟨hU.1, fun b j a1 a2 => ?_, ?_, rfl, ?_, ?_, ?_, fun j => ?_, fun j => ?_⟩
        · rw [qI_sI_ne (by omega), qI_sI_ne (by omega), qI_sI_ne (by omega)]; exact hU.2 b j (by omega) (by omega) (by omega)
        · rw [qI_sI_ne (by decide), qI_sI_ne (by decide), qI_sI_eq]
        · rw [qI_sI_ne (by decide), qI_sI_ne (by decide), qI_sI_ne (by decide)]; exact hU.2 43 21 (by omega) (by decide) (by decide)
        · rw [qI_sI_ne (by decide), qI_sI_eq, qI_sI_ne (by decide)]; exact b1
        · rw [qI_sI_eq, qI_sI_ne (by decide), qI_sI_ne (by decide)]; exact b2
        · rw [qI_sI_nc (by decide), qI_sI_nc (by decide), qI_sI_nc (by decide)]; exact hU.2 61 j (by omega) (by decide) (by decide)
        · rw [qI_sI_nc (by decide), qI_sI_nc (by decide), qI_sI_nc (by decide)]; exact hU.2 62 j (by omega) (by decide) (by decide)
    · exact absurd rfl h60
  | ok rs =>
    obtain ⟨rfl, b1, b2, b3, b4, ⟨b5, b6⟩, b7⟩ : v = 1 ∧ qI τ 43 35 = 0 ∧ qI τ 43 23 = nI (cvs rs.flatten).length ∧ (cvs rs.flatten).length ≤ 600 ∧ (∀ m, m < (cvs rs.flatten).length → qI τ 64 m = nI ((cvs rs.flatten).getD m 0)) ∧ muS τ rs ∧ rs.length ≤ 12 := hM
    obtain ⟨ρ1, hρ1⟩ : ∃ ρ1, ρ1 = pm_sI (pm_sI (pm_sI (pm_sI τ 43 30 0) 43 37 0) 43 39 (-1)) 43 21 (nI rs.length) := ⟨_, rfl⟩
    have hS1 : pm_fix ρ1 := by rw [hρ1]; exact hS.sI.sI.sI.sI
    have g21 : qI ρ1 43 21 = nI rs.length := by rw [hρ1]; exact qI_sI_eq
    have g37 : qI ρ1 43 37 = 0 := by rw [hρ1, qI_sI_ne (by decide), qI_sI_ne (by decide), qI_sI_eq]
    have g39 : qI ρ1 43 39 = -1 := by rw [hρ1, qI_sI_ne (by decide), qI_sI_eq]
    have g30 : qI ρ1 43 30 = 0 := by rw [hρ1, qI_sI_ne (by decide), qI_sI_ne (by decide), qI_sI_ne (by decide), qI_sI_eq]
    have go : ∀ b j, ¬ (b = 43 ∧ (j = 21 ∨ j = 30 ∨ j = 37 ∨ j = 39)) → qI ρ1 b j = qI τ b j := fun b j a1 => by rw [hρ1, qI_sI_ne (by omega), qI_sI_ne (by omega), qI_sI_ne (by omega), qI_sI_ne (by omega)]
    obtain ⟨ρ2, hρ2⟩ : ∃ ρ2, ρ2 = pm_sI (c_cpy ρ1 61 63 rs.length) 61 rs.length (nI (cvs rs.flatten).length) := ⟨_, rfl⟩
    have hS2 : pm_fix ρ2 := by rw [hρ2]; exact (c_cpy_fix hS1).sI
    have k21 : qI (c_cpy ρ1 61 63 rs.length) 43 21 = nI rs.length := (c_cpy_ne (by decide) _).trans g21
    have k23 : qI (c_cpy ρ1 61 63 rs.length) 43 23 = nI (cvs rs.flatten).length := (c_cpy_ne (by decide) _).trans ((go 43 23 (by omega)).trans b2)
    have hk13 : rs.length < 13 := by omega
    have o2 : ∀ b j, b ≠ 61 → qI ρ2 b j = qI ρ1 b j := fun b j hb => by rw [hρ2, qI_sI_nc hb]; exact c_cpy_ne hb j
    have hlast : PW d al MX12_rules 157 [.ref 43, .int 1, .int (nI (cvs rs.flatten).length)] [] (c_cpy ρ2 62 64 (cvs rs.flatten).length) (fun r ρ => MUs σ ρ c L r (.ok rs)) := by
      have hS := c_cpy_fix (a := 62) (s := 64) (k := (cvs rs.flatten).length) hS2
      have m21 : qI (c_cpy ρ2 62 64 (cvs rs.flatten).length) 43 21 = nI rs.length := (c_cpy_ne (by decide) _).trans ((o2 43 21 (by decide)).trans g21)
      refine pw_aload_n dX12_rules_157 rfl ?_
      refine pw_getI dX12_rules_158 flX12_133 rfl (hS.at rfl rfl rfl) ?_
      rw [m21]
      refine pw_iret dX12_rules_161 rfl rfl ?_
      refine ⟨?_, fun b j a1 a2 => ?_, ?_, rfl, m21, ?_, ?_, fun m hm => ?_, fun m hm => ?_, b7, b3⟩
      · show ρ2.2 = σ.2
        rw [hρ2]
        show ρ1.2 = σ.2
        rw [hρ1]
        exact hU.1
      · rw [c_cpy_ne (by omega), o2 b j (by omega), go b j (by omega)]; exact hU.2 b j (by omega) (by omega) (by omega)
      · rw [c_cpy_ne (by decide), o2 43 30 (by decide)]; exact g30
      · rw [c_cpy_ne (by decide), o2 43 37 (by decide)]; exact g37
      · rw [c_cpy_ne (by decide), o2 43 39 (by decide)]; exact g39
      · rw [c_cpy_ne (by decide), hρ2]
        by_cases y : m = rs.length
        · subst y
          rw [qI_sI_eq, List.take_length]
        · rw [qI_sI_ne (by omega), c_cpy_in (by omega), go 63 m (by omega)]; exact b6 m (by omega)
      · rw [c_cpy_in hm, o2 64 m (by decide), go 64 m (by omega)]; exact b4 m hm
    refine pw_aload_n dX12_rules_45 rfl ?_
    refine pw_iconst (v := 0) dX12_rules_46 (by decide) ?_
    refine pw_putI dX12_rules_47 flX12_155 ⟨_, rfl, Or.inl rfl⟩ rfl (hS.at rfl rfl rfl) ?_
    refine pw_aload_n dX12_rules_50 rfl ?_
    refine pw_aload_n dX12_rules_51 rfl ?_
    refine pw_getI dX12_rules_52 flX12_213 rfl (hS.at rfl rfl rfl) ?_
    rw [show qI (pm_sI τ 43 30 0) 43 35 = 0 from (qI_sI_ne (by decide)).trans b1]
    refine pw_putI dX12_rules_55 flX12_260 ⟨_, rfl, Or.inl rfl⟩ rfl (hS.at rfl rfl rfl) ?_
    refine pw_aload_n dX12_rules_58 rfl ?_
    refine pw_iload_n dX12_rules_59 rfl ?_
    refine pw_if_eq (tgt := 67) dX12_rules_60 (by decide) (fun h60 => ?_) (fun h60 => ?_)
    · exact absurd h60 (by decide)
    · refine pw_iconst (v := (-1)) dX12_rules_63 (by decide) ?_
      refine pw_goto (tgt := 71) dX12_rules_64 (by decide) ?_
      refine pw_putI dX12_rules_71 flX12_79 ⟨_, rfl, Or.inl rfl⟩ rfl (hS.at rfl rfl rfl) ?_
      refine pw_iload_n dX12_rules_74 rfl ?_
      refine pw_if_ne (tgt := 80) dX12_rules_75 (by decide) (fun h75 => ?_) (fun h75 => ?_)
      · refine pw_aload_n dX12_rules_80 rfl ?_
        refine pw_aload_n dX12_rules_81 rfl ?_
        refine pw_getI dX12_rules_82 flX12_254 rfl (hS.at rfl rfl rfl) ?_
        rw [show qI (pm_sI (pm_sI (pm_sI τ 43 30 0) 43 37 0) 43 39 (-1)) 43 22 = nI rs.length from (qI_sI_ne (by decide)).trans ((qI_sI_ne (by decide)).trans ((qI_sI_ne (by decide)).trans b5))]
        refine pw_putI dX12_rules_85 flX12_133 ⟨_, rfl, Or.inl rfl⟩ rfl (hS.at rfl rfl rfl) ?_
        rw [← hρ1]
        refine pw_iconst (v := 0) dX12_rules_88 (by decide) ?_
        refine pw_istore_n dX12_rules_89 (Nat.le_of_ble_eq_true rfl) (Nat.le_of_ble_eq_true rfl) rfl ?_
        refine (c_cpy_0 (ρ := ρ1) (a := 61) (s := 63)) ▸ s_cp1 hS1 g21 b7 ?_ rs.length 0 (by omega)
        have hS := c_cpy_fix (a := 61) (s := 63) (k := rs.length) hS1
        refine pw_aload_n dX12_rules_116 rfl ?_
        refine pw_getF (v := 61) dX12_rules_117 flX12_61 rfl (hS.at rfl rfl rfl) (hS.rf (43, 24, 61) rfl (by decide)) ?_
        refine pw_aload_n dX12_rules_120 rfl ?_
        refine pw_getI dX12_rules_121 flX12_133 rfl (hS.at rfl rfl rfl) ?_
        rw [k21]
        refine pw_aload_n dX12_rules_124 rfl ?_
        refine pw_getI dX12_rules_125 flX12_225 rfl (hS.at rfl rfl rfl) ?_
        rw [k23]
        refine pw_iast dX12_rules_128 (hS.at rfl rfl rfl) (by decide) rfl (hS.lt rfl rfl hk13 rfl) (by omega) ?_
        rw [← hρ2]
        refine pw_iconst (v := 0) dX12_rules_129 (by decide) ?_
        refine pw_istore_n dX12_rules_130 (Nat.le_of_ble_eq_true rfl) (Nat.le_of_ble_eq_true rfl) rfl ?_
        refine (c_cpy_0 (ρ := ρ2) (a := 62) (s := 64)) ▸ s_cp2 hS2 ((o2 43 23 (by decide)).trans ((go 43 23 (by omega)).trans b2)) b3 ?_ (cvs rs.flatten).length 0 (by omega)
        exact hlast
      · exact absurd h75 (by decide)
theorem s_rules {d al L : Nat} {σ : pm_S} {c : Nat → Nat} (hd : 60 ≤ d) (hS0 : pm_fix σ) (hT : mT σ c L) : PM d al MX12_rules [.ref 43] σ (fun v τ => MUs σ τ c L v (pR (tk c L) (vN c L) 12 0 [])) := by
  have hL := hT.1
  obtain ⟨σ1, hσ1⟩ : ∃ σ1, σ1 = pm_sI (pm_sI (pm_sI (pm_sI σ 43 35 0) 43 31 0) 43 22 0) 43 23 0 := ⟨_, rfl⟩
  have hU1 : mdU σ σ1 := ⟨by rw [hσ1]; rfl, fun b j a1 _ _ => by rw [hσ1, qI_sI_ne (by omega), qI_sI_ne (by omega), qI_sI_ne (by omega), qI_sI_ne (by omega)]⟩
  have hC1 : mdC σ1 c L := mdC.ofU ⟨hS0, hT⟩ hU1
  have g35 : qI σ1 43 35 = 0 := by rw [hσ1, qI_sI_ne (by decide), qI_sI_ne (by decide), qI_sI_ne (by decide), qI_sI_eq]
  have g31 : qI σ1 43 31 = nI 0 := by rw [hσ1, qI_sI_ne (by decide), qI_sI_ne (by decide), qI_sI_eq]; rfl
  have g22 : qI σ1 43 22 = nI 0 := by rw [hσ1, qI_sI_ne (by decide), qI_sI_eq]; rfl
  have g23 : qI σ1 43 23 = nI 0 := by rw [hσ1, qI_sI_eq]; rfl
  have hS := hS0
  show PW _ _ _ _ _ _ _ _
  refine pw_aload_n dX12_rules_0 rfl ?_
  refine pw_iconst (v := 0) dX12_rules_1 (by decide) ?_
  refine pw_putI dX12_rules_2 flX12_213 ⟨_, rfl, Or.inl rfl⟩ rfl (hS.at rfl rfl rfl) ?_
  refine pw_aload_n dX12_rules_5 rfl ?_
  refine pw_iconst (v := 0) dX12_rules_6 (by decide) ?_
  refine pw_putI dX12_rules_7 flX12_188 ⟨_, rfl, Or.inl rfl⟩ rfl (hS.at rfl rfl rfl) ?_
  refine pw_aload_n dX12_rules_10 rfl ?_
  refine pw_iconst (v := 0) dX12_rules_11 (by decide) ?_
  refine pw_putI dX12_rules_12 flX12_254 ⟨_, rfl, Or.inl rfl⟩ rfl (hS.at rfl rfl rfl) ?_
  refine pw_aload_n dX12_rules_15 rfl ?_
  refine pw_iconst (v := 0) dX12_rules_16 (by decide) ?_
  refine pw_putI dX12_rules_17 flX12_225 ⟨_, rfl, Or.inl rfl⟩ rfl (hS.at rfl rfl rfl) ?_
  rw [← hσ1]
  refine pw_aload_n dX12_rules_20 rfl ?_
  refine pw_cV0 (d1 := d - 1) (a1 := 0) (a2 := al) dX12_rules_21 mtX12_next0 ivX12_next0 mlX12_222 (Nat.le_of_ble_eq_true rfl) (Nat.le_of_ble_eq_true rfl) (by omega) (by omega) (hC1.1.at rfl rfl rfl) rfl rfl (s_next0 (p := 0) (by omega) hC1.1 hC1.2 (Nat.zero_le _) g31) ?_
  rintro r_ τ1 ⟨hr_, w1, w2, w3, w4, w5, w6⟩; subst r_
  refine pw_iconst (v := 1) dX12_rules_24 (by decide) ?_
  refine pw_istore_n dX12_rules_25 (Nat.le_of_ble_eq_true rfl) (Nat.le_of_ble_eq_true rfl) rfl ?_
  have hU2 : mdU σ1 τ1 := ⟨w1, fun b j a1 _ _ => w2 b j (by omega)⟩
  exact s_ru_lp (by omega) hL (fun τ v hM => s_ru_end hS0 _ τ v hM) 12 0 0 [] τ1 (by omega) rfl (hU1.tr hU2) (hC1.ofU hU2) ⟨w3, w4, w5, w6, by rw [w2 43 35 (by omega)]; exact g35, by rw [w2 43 23 (by omega)]; exact g23, fun m hm => absurd hm (Nat.not_lt_zero m)⟩ (Nat.zero_le _) ⟨by rw [w2 43 22 (by omega)]; exact g22, fun m hm => absurd hm (Nat.not_lt_zero m)⟩ rfl
