/-! ===== the reference: the next token ===== -/
theorem sI_sI {σ : pm_S} {a k : Nat} {x y : Int32} : pm_sI (pm_sI σ a k x) a k y = pm_sI σ a k y := by
  unfold pm_sI
  refine Prod.ext (funext fun b => funext fun j => ?_) rfl
  show (if b = a ∧ j = k then y else if b = a ∧ j = k then x else σ.1 b j) = if b = a ∧ j = k then y else σ.1 b j
  split <;> rfl
theorem sI_id {σ : pm_S} {a k : Nat} {x : Int32} (h : qI σ a k = x) : pm_sI σ a k x = σ := by
  unfold pm_sI
  refine Prod.ext (funext fun b => funext fun j => ?_) rfl
  show (if b = a ∧ j = k then x else σ.1 b j) = σ.1 b j
  split
  · rename_i z
    rw [z.1, z.2]; exact h.symm
  · rfl
theorem mT_of {σ τ : pm_S} {c : Nat → Nat} {L : Nat} (h1 : qI τ 43 30 = qI σ 43 30) (h2 : ∀ j, qI τ 66 j = qI σ 66 j) (h : mT σ c L) : mT τ c L := ⟨h.1, by rw [h1]; exact h.2.1, fun p hp => by rw [h2 p]; exact h.2.2 p hp⟩
theorem s_nx_b {d al L : Nat} {c : Nat → Nat} {Q : Option Value → pm_S → Prop} {x1 x2 x3 x4 : Value} (hd : 1 ≤ d) : ∀ (f p : Nat) (τ : pm_S), pm_fix τ → mT τ c L → p + f = L → qI τ 43 31 = nI p → PW d al MX12_next0 39 [.ref 43, x1, x2, x3, x4] [] (pm_sI τ 43 31 (nI (rn lB c f p))) Q → PW d al MX12_next0 0 [.ref 43, x1, x2, x3, x4] [] τ Q := by
  intro f
  induction f with
  | zero =>
    intro p τ hS hT hp ha kk
    have hL := hT.1
    have hst : pm_sI τ 43 31 (nI (rn lB c 0 p)) = τ := sI_id ha
    rw [hst] at kk
    have e1 : (if p < L then nI (c p) else -1) = -1 := if_neg (by omega)
    refine pw_aload_n dX12_next0_0 rfl ?_
    refine pw_aload_n dX12_next0_1 rfl ?_
    refine pw_getI dX12_next0_2 flX12_188 rfl (hS.at rfl rfl rfl) ?_
    rw [ha]
    refine pw_cV1 (d1 := d - 1) (a1 := 0) (a2 := al) dX12_next0_5 mtX12_see ivX12_see mlX12_191 (Nat.le_of_ble_eq_true rfl) (Nat.le_of_ble_eq_true rfl) (by omega) (by omega) (hS.at rfl rfl rfl) rfl rfl (s_see hS hT (by omega)) ?_
    rintro r_ τ_ ⟨hr_, ht_⟩; subst r_; subst τ_
    rw [e1]
    refine pw_bipush (v := 32) dX12_next0_8 (by decide) ?_
    refine pw_icmp_eq (tgt := 26) dX12_next0_10 (by decide) (fun h10 => ?_) (fun h10 => ?_)
    · exact absurd h10 (by decide)
    · refine pw_aload_n dX12_next0_13 rfl ?_
      refine pw_aload_n dX12_next0_14 rfl ?_
      refine pw_getI dX12_next0_15 flX12_188 rfl (hS.at rfl rfl rfl) ?_
      rw [ha]
      refine pw_cV1 (d1 := d - 1) (a1 := 0) (a2 := al) dX12_next0_18 mtX12_see ivX12_see mlX12_191 (Nat.le_of_ble_eq_true rfl) (Nat.le_of_ble_eq_true rfl) (by omega) (by omega) (hS.at rfl rfl rfl) rfl rfl (s_see hS hT (by omega)) ?_
      rintro r_ τ_ ⟨hr_, ht_⟩; subst r_; subst τ_
      rw [e1]
      refine pw_bipush (v := 10) dX12_next0_21 (by decide) ?_
      refine pw_icmp_ne (tgt := 39) dX12_next0_23 (by decide) (fun h23 => ?_) (fun h23 => ?_)
      · exact kk
      · exact absurd h23 (by decide)
  | succ f ih =>
    intro p τ hS hT hp ha kk
    have hL := hT.1
    have hpL : p < L := by omega
    have hc := (hT.2.2 p hpL).2
    have e1 : (if p < L then nI (c p) else -1) = nI (c p) := if_pos hpL
    have hu : rn lB c (f + 1) p = if lB (c p) then rn lB c f (p + 1) else p := rfl
    have q1 : nI (c p) = 32 ↔ c p = 32 := nI_eq (by omega) (by decide)
    have q2 : nI (c p) = 10 ↔ c p = 10 := nI_eq (by omega) (by decide)
    rw [hu] at kk
    have hh := ih (p + 1) (pm_sI τ 43 31 (nI (p + 1))) hS.sI (mT_of (qI_sI_ne (by decide)) (fun j => qI_sI_nc (by decide)) hT) (by omega) qI_sI_eq
    rw [sI_sI, nI_succ p, ← ha] at hh
    refine pw_aload_n dX12_next0_0 rfl ?_
    refine pw_aload_n dX12_next0_1 rfl ?_
    refine pw_getI dX12_next0_2 flX12_188 rfl (hS.at rfl rfl rfl) ?_
    rw [ha]
    refine pw_cV1 (d1 := d - 1) (a1 := 0) (a2 := al) dX12_next0_5 mtX12_see ivX12_see mlX12_191 (Nat.le_of_ble_eq_true rfl) (Nat.le_of_ble_eq_true rfl) (by omega) (by omega) (hS.at rfl rfl rfl) rfl rfl (s_see hS hT (by omega)) ?_
    rintro r_ τ_ ⟨hr_, ht_⟩; subst r_; subst τ_
    rw [e1]
    refine pw_bipush (v := 32) dX12_next0_8 (by decide) ?_
    refine pw_icmp_eq (tgt := 26) dX12_next0_10 (by decide) (fun h10 => ?_) (fun h10 => ?_)
    · refine pw_aload_n dX12_next0_26 rfl ?_
      refine pw_dup dX12_next0_27 rfl ?_
      refine pw_getI dX12_next0_28 flX12_188 rfl (hS.at rfl rfl rfl) ?_
      refine pw_iconst (v := 1) dX12_next0_31 (by decide) ?_
      refine pw_iadd dX12_next0_32 ?_
      refine pw_putI dX12_next0_33 flX12_188 ⟨_, rfl, Or.inl rfl⟩ rfl (hS.at rfl rfl rfl) ?_
      refine pw_goto (tgt := 0) dX12_next0_36 (by decide) ?_
      first | (rw [if_pos (Or.inl (q1.mp h10))] at kk; exact hh kk) | (rw [if_pos (Or.inr (q2.mp h23))] at kk; exact hh kk)
    · refine pw_aload_n dX12_next0_13 rfl ?_
      refine pw_aload_n dX12_next0_14 rfl ?_
      refine pw_getI dX12_next0_15 flX12_188 rfl (hS.at rfl rfl rfl) ?_
      rw [ha]
      refine pw_cV1 (d1 := d - 1) (a1 := 0) (a2 := al) dX12_next0_18 mtX12_see ivX12_see mlX12_191 (Nat.le_of_ble_eq_true rfl) (Nat.le_of_ble_eq_true rfl) (by omega) (by omega) (hS.at rfl rfl rfl) rfl rfl (s_see hS hT (by omega)) ?_
      rintro r_ τ_ ⟨hr_, ht_⟩; subst r_; subst τ_
      rw [e1]
      refine pw_bipush (v := 10) dX12_next0_21 (by decide) ?_
      refine pw_icmp_ne (tgt := 39) dX12_next0_23 (by decide) (fun h23 => ?_) (fun h23 => ?_)
      · rw [if_neg (fun z => z.elim (fun y => h10 (q1.mpr y)) (fun y => h23 (q2.mpr y))), sI_id ha] at kk
        exact kk
      · refine pw_aload_n dX12_next0_26 rfl ?_
        refine pw_dup dX12_next0_27 rfl ?_
        refine pw_getI dX12_next0_28 flX12_188 rfl (hS.at rfl rfl rfl) ?_
        refine pw_iconst (v := 1) dX12_next0_31 (by decide) ?_
        refine pw_iadd dX12_next0_32 ?_
        refine pw_putI dX12_next0_33 flX12_188 ⟨_, rfl, Or.inl rfl⟩ rfl (hS.at rfl rfl rfl) ?_
        refine pw_goto (tgt := 0) dX12_next0_36 (by decide) ?_
        first | (rw [if_pos (Or.inl (q1.mp h10))] at kk; exact hh kk) | (rw [if_pos (Or.inr (q2.mp h23))] at kk; exact hh kk)
theorem s_nx_l {d al L q : Nat} {c : Nat → Nat} {Q : Option Value → pm_S → Prop} {y1 : Int32} (hd : 2 ≤ d) : ∀ (f p : Nat) (τ : pm_S), pm_fix τ → mT τ c L → q ≤ p → p + f = L → qI τ 43 31 = nI p → PW d al MX12_next0 131 [.ref 43, .int y1, .int (nI (rn lE c f p - q)), .long (jL (pkN c q (min (rn lE c f p - q) 7))), .retAddr 0] [] (pm_sI τ 43 31 (nI (rn lE c f p))) Q → PW d al MX12_next0 80 [.ref 43, .int y1, .int (nI (p - q)), .long (jL (pkN c q (min (p - q) 7))), .retAddr 0] [] τ Q := by
  intro f
  induction f with
  | zero =>
    intro p τ hS hT hqp hp ha kk
    have hL := hT.1
    have hst : pm_sI τ 43 31 (nI (rn lE c 0 p)) = τ := sI_id ha
    rw [hst] at kk
    have e1 : (if p < L then nI (c p) else -1) = -1 := if_neg (by omega)
    refine pw_aload_n dX12_next0_80 rfl ?_
    refine pw_aload_n dX12_next0_81 rfl ?_
    refine pw_getI dX12_next0_82 flX12_188 rfl (hS.at rfl rfl rfl) ?_
    rw [ha]
    refine pw_cV1 (d1 := d - 1) (a1 := 0) (a2 := al) dX12_next0_85 mtX12_see ivX12_see mlX12_191 (Nat.le_of_ble_eq_true rfl) (Nat.le_of_ble_eq_true rfl) (by omega) (by omega) (hS.at rfl rfl rfl) rfl rfl (s_see hS hT (by omega)) ?_
    rintro r_ τ_ ⟨hr_, ht_⟩; subst r_; subst τ_
    rw [e1]
    refine pw_cS1 (d1 := d - 1) (a1 := 0) (a2 := al) dX12_next0_88 mtX12_isLetter stX12_isLetter mlX12_200 (Nat.le_of_ble_eq_true rfl) (Nat.le_of_ble_eq_true rfl) (by omega) (by omega) (s_isLetter_n (by omega)) ?_
    rintro r_ τ_ ⟨hr_, ht_⟩; subst r_; subst τ_
    refine pw_if_eq (tgt := 131) dX12_next0_91 (by decide) (fun h91 => ?_) (fun h91 => ?_)
    · exact kk
    · exact absurd rfl h91
  | succ f ih =>
    intro p τ hS hT hqp hp ha kk
    have hL := hT.1
    have hpL : p < L := by omega
    have hc := (hT.2.2 p hpL).2
    have e1 : (if p < L then nI (c p) else -1) = nI (c p) := if_pos hpL
    have hu : rn lE c (f + 1) p = if lE (c p) then rn lE c f (p + 1) else p := rfl
    rw [hu] at kk
    have hh := ih (p + 1) (pm_sI τ 43 31 (nI (p + 1))) hS.sI (mT_of (qI_sI_ne (by decide)) (fun j => qI_sI_nc (by decide)) hT) (by omega) (by omega) qI_sI_eq
    rw [sI_sI, nI_succ p, ← ha, show p + 1 - q = (p - q) + 1 by omega, nI_succ (p - q)] at hh
    have h256 : ∀ i, i < p - q → c (q + i) < 256 := fun i hi => (hT.2.2 (q + i) (by omega)).2
    refine pw_aload_n dX12_next0_80 rfl ?_
    refine pw_aload_n dX12_next0_81 rfl ?_
    refine pw_getI dX12_next0_82 flX12_188 rfl (hS.at rfl rfl rfl) ?_
    rw [ha]
    refine pw_cV1 (d1 := d - 1) (a1 := 0) (a2 := al) dX12_next0_85 mtX12_see ivX12_see mlX12_191 (Nat.le_of_ble_eq_true rfl) (Nat.le_of_ble_eq_true rfl) (by omega) (by omega) (hS.at rfl rfl rfl) rfl rfl (s_see hS hT (by omega)) ?_
    rintro r_ τ_ ⟨hr_, ht_⟩; subst r_; subst τ_
    rw [e1]
    refine pw_cS1 (d1 := d - 1) (a1 := 0) (a2 := al) dX12_next0_88 mtX12_isLetter stX12_isLetter mlX12_200 (Nat.le_of_ble_eq_true rfl) (Nat.le_of_ble_eq_true rfl) (by omega) (by omega) (s_isLetter (by omega) hc) ?_
    rintro r_ τ_ ⟨hr_, ht_⟩; subst r_; subst τ_
    refine pw_if_eq (tgt := 131) dX12_next0_91 (by decide) (fun h91 => ?_) (fun h91 => ?_)
    · rw [if_neg (bI_0.mp h91), sI_id ha] at kk
      exact kk
    · refine pw_iload_n dX12_next0_94 rfl ?_
      refine pw_bipush (v := 7) dX12_next0_95 (by decide) ?_
      refine pw_icmp_ge (tgt := 115) dX12_next0_97 (by decide) (fun h97 => ?_) (fun h97 => ?_)
      · refine pw_iinc1 dX12_next0_115 rfl (Nat.le_of_ble_eq_true rfl) (Nat.le_of_ble_eq_true rfl) rfl ?_
        refine pw_aload_n dX12_next0_118 rfl ?_
        refine pw_dup dX12_next0_119 rfl ?_
        refine pw_getI dX12_next0_120 flX12_188 rfl (hS.at rfl rfl rfl) ?_
        refine pw_iconst (v := 1) dX12_next0_123 (by decide) ?_
        refine pw_iadd dX12_next0_124 ?_
        refine pw_putI dX12_next0_125 flX12_188 ⟨_, rfl, Or.inl rfl⟩ rfl (hS.at rfl rfl rfl) ?_
        refine pw_goto (tgt := 80) dX12_next0_128 (by decide) ?_
        rw [if_pos (bI_n.mp h91)] at kk
        have hk := hh kk
        first | (rw [show min (p - q + 1) 7 = p - q + 1 by omega, show pkN c q (p - q + 1) = pkN c q (p - q) * 256 + c p from (by show pkN c q (p - q) * 256 + c (q + (p - q)) = _; rw [show q + (p - q) = p by omega])] at hk; exact hk) | (have h7 : ¬ p - q < 7 := (fun z => nI_ge z (by omega) h97); rw [show min (p - q + 1) 7 = min (p - q) 7 by omega] at hk; exact hk)
      · refine pw_lload_n dX12_next0_100 rfl ?_
        refine pw_bipush (v := 8) dX12_next0_101 (by decide) ?_
        refine pw_lshl dX12_next0_103 ?_
        refine pw_aload_n dX12_next0_104 rfl ?_
        refine pw_aload_n dX12_next0_105 rfl ?_
        refine pw_getI dX12_next0_106 flX12_188 rfl (hS.at rfl rfl rfl) ?_
        rw [ha]
        refine pw_cV1 (d1 := d - 1) (a1 := 0) (a2 := al) dX12_next0_109 mtX12_see ivX12_see mlX12_191 (Nat.le_of_ble_eq_true rfl) (Nat.le_of_ble_eq_true rfl) (by omega) (by omega) (hS.at rfl rfl rfl) rfl rfl (s_see hS hT (by omega)) ?_
        rintro r_ τ_ ⟨hr_, ht_⟩; subst r_; subst τ_
        rw [e1]
        refine pw_i2l dX12_next0_112 ?_
        rw [jL_i2l _ hc]
        refine pw_lor dX12_next0_113 ?_
        have h7 : p - q < 7 := by
          rcases Nat.lt_or_ge (p - q) 7 with z | z
          · exact z
          · exact absurd (nI_le z (by omega)) h97
        have hpk := pkN_lt (c := c) (q := q) (p - q) h256
        have hp6 : (256 : Nat) ^ (p - q) ≤ 256 ^ 6 := Nat.pow_le_pow_right (by decide) (by omega)
        have hb : pkN c q (p - q) < 256 ^ 6 := Nat.lt_of_lt_of_le hpk hp6
        rw [show min (p - q) 7 = p - q by omega, jL_shl _ (by omega), jL_or _ _ hc (by omega)]
        refine pw_lstore_n dX12_next0_114 (Nat.le_of_ble_eq_true rfl) (Nat.le_of_ble_eq_true rfl) rfl ?_
        refine pw_iinc1 dX12_next0_115 rfl (Nat.le_of_ble_eq_true rfl) (Nat.le_of_ble_eq_true rfl) rfl ?_
        refine pw_aload_n dX12_next0_118 rfl ?_
        refine pw_dup dX12_next0_119 rfl ?_
        refine pw_getI dX12_next0_120 flX12_188 rfl (hS.at rfl rfl rfl) ?_
        refine pw_iconst (v := 1) dX12_next0_123 (by decide) ?_
        refine pw_iadd dX12_next0_124 ?_
        refine pw_putI dX12_next0_125 flX12_188 ⟨_, rfl, Or.inl rfl⟩ rfl (hS.at rfl rfl rfl) ?_
        refine pw_goto (tgt := 80) dX12_next0_128 (by decide) ?_
        rw [if_pos (bI_n.mp h91)] at kk
        have hk := hh kk
        first | (rw [show min (p - q + 1) 7 = p - q + 1 by omega, show pkN c q (p - q + 1) = pkN c q (p - q) * 256 + c p from (by show pkN c q (p - q) * 256 + c (q + (p - q)) = _; rw [show q + (p - q) = p by omega])] at hk; exact hk) | (have h7 : ¬ p - q < 7 := (fun z => nI_ge z (by omega) h97); rw [show min (p - q + 1) 7 = min (p - q) 7 by omega] at hk; exact hk)
/-- the digits' loop: the state so far -/
def dS (τ ρ : pm_S) (v a : Int32) : Prop := ρ.2 = τ.2 ∧ (∀ b j, ¬ (b = 43 ∧ (j = 31 ∨ j = 34)) → qI ρ b j = qI τ b j) ∧ qI ρ 43 31 = a ∧ qI ρ 43 34 = v
theorem dS_a {τ ρ : pm_S} {c : Nat → Nat} {q p : Nat} (hqp : q ≤ p) (h4 : p - q < 4) (hρ : dS τ ρ (dv c q (min (p - q) 4)) (nI p)) : dS τ (pm_sI (pm_sI ρ 43 34 (10 * qI ρ 43 34 + nI (c p) - 48)) 43 31 (qI (pm_sI ρ 43 34 (10 * qI ρ 43 34 + nI (c p) - 48)) 43 31 + 1)) (dv c q (min (p + 1 - q) 4)) (nI (p + 1)) := by
  refine ⟨hρ.1, fun b j hb => ?_, ?_, ?_⟩
  · rw [qI_sI_ne (by omega), qI_sI_ne (by omega)]; exact hρ.2.1 b j hb
  · rw [qI_sI_eq, qI_sI_ne (by decide), hρ.2.2.1, nI_succ]
  · rw [qI_sI_ne (by decide), qI_sI_eq, hρ.2.2.2, show min (p + 1 - q) 4 = min (p - q) 4 + 1 by omega]
    show 10 * dv c q (min (p - q) 4) + nI (c p) - 48 = dv c q (min (p - q) 4) * 10 + nI (c (q + min (p - q) 4)) - 48
    rw [show q + min (p - q) 4 = p by omega, Int32.mul_comm]
theorem dS_b {τ ρ : pm_S} {c : Nat → Nat} {q p : Nat} (hqp : q ≤ p) (h4 : ¬ p - q < 4) (hρ : dS τ ρ (dv c q (min (p - q) 4)) (nI p)) : dS τ (pm_sI ρ 43 31 (qI ρ 43 31 + 1)) (dv c q (min (p + 1 - q) 4)) (nI (p + 1)) := by
  refine ⟨hρ.1, fun b j hb => ?_, ?_, ?_⟩
  · rw [qI_sI_ne (by omega)]; exact hρ.2.1 b j hb
  · rw [qI_sI_eq, hρ.2.2.1, nI_succ]
  · rw [qI_sI_ne (by decide), hρ.2.2.2, show min (p + 1 - q) 4 = min (p - q) 4 by omega]
theorem s_nx_d {d al L q : Nat} {c : Nat → Nat} {Q : Option Value → pm_S → Prop} {y1 : Int32} {x3 x4 : Value} {τ : pm_S} (hd : 2 ≤ d) (hS0 : pm_fix τ) (hT0 : mT τ c L) {E : Nat} (kk : ∀ ρ, dS τ ρ (dv c q (min (E - q) 4)) (nI E) → PW d al MX12_next0 222 [.ref 43, .int y1, .int (nI (E - q)), x3, x4] [] ρ Q) : ∀ (f p : Nat) (ρ : pm_S), q ≤ p → p + f = L → rn lD c f p = E → dS τ ρ (dv c q (min (p - q) 4)) (nI p) → PW d al MX12_next0 164 [.ref 43, .int y1, .int (nI (p - q)), x3, x4] [] ρ Q := by
  have hL := hT0.1
  intro f
  induction f with
  | zero =>
    intro p ρ hqp hp hE hρ
    have hS : pm_fix ρ := fix_of2 hρ.1 hS0
    have hT : mT ρ c L := mT_of (hρ.2.1 43 30 (by decide)) (fun j => hρ.2.1 66 j (by omega)) hT0
    have ha := hρ.2.2.1
    have hEp : p = E := hE
    subst hEp
    have e1 : (if p < L then nI (c p) else -1) = -1 := if_neg (by omega)
    refine pw_aload_n dX12_next0_164 rfl ?_
    refine pw_aload_n dX12_next0_165 rfl ?_
    refine pw_getI dX12_next0_166 flX12_188 rfl (hS.at rfl rfl rfl) ?_
    rw [ha]
    refine pw_cV1 (d1 := d - 1) (a1 := 0) (a2 := al) dX12_next0_169 mtX12_see ivX12_see mlX12_191 (Nat.le_of_ble_eq_true rfl) (Nat.le_of_ble_eq_true rfl) (by omega) (by omega) (hS.at rfl rfl rfl) rfl rfl (s_see hS hT (by omega)) ?_
    rintro r_ τ_ ⟨hr_, ht_⟩; subst r_; subst τ_
    rw [e1]
    refine pw_cS1 (d1 := d - 1) (a1 := 0) (a2 := al) dX12_next0_172 mtX12_isDigit stX12_isDigit mlX12_207 (Nat.le_of_ble_eq_true rfl) (Nat.le_of_ble_eq_true rfl) (by omega) (by omega) (s_isDigit_n (by omega)) ?_
    rintro r_ τ_ ⟨hr_, ht_⟩; subst r_; subst τ_
    refine pw_if_eq (tgt := 222) dX12_next0_175 (by decide) (fun h175 => ?_) (fun h175 => ?_)
    · exact kk ρ hρ
    · exact absurd rfl h175
  | succ f ih =>
    intro p ρ hqp hp hE hρ
    have hS : pm_fix ρ := fix_of2 hρ.1 hS0
    have hT : mT ρ c L := mT_of (hρ.2.1 43 30 (by decide)) (fun j => hρ.2.1 66 j (by omega)) hT0
    have ha := hρ.2.2.1
    have hpL : p < L := by omega
    have hc := (hT.2.2 p hpL).2
    have e1 : (if p < L then nI (c p) else -1) = nI (c p) := if_pos hpL
    have hu : rn lD c (f + 1) p = if lD (c p) then rn lD c f (p + 1) else p := rfl
    rw [hu] at hE
    have hn : nI (p - q) + 1 = nI (p + 1 - q) := by rw [show p + 1 - q = (p - q) + 1 by omega, nI_succ]
    refine pw_aload_n dX12_next0_164 rfl ?_
    refine pw_aload_n dX12_next0_165 rfl ?_
    refine pw_getI dX12_next0_166 flX12_188 rfl (hS.at rfl rfl rfl) ?_
    rw [ha]
    refine pw_cV1 (d1 := d - 1) (a1 := 0) (a2 := al) dX12_next0_169 mtX12_see ivX12_see mlX12_191 (Nat.le_of_ble_eq_true rfl) (Nat.le_of_ble_eq_true rfl) (by omega) (by omega) (hS.at rfl rfl rfl) rfl rfl (s_see hS hT (by omega)) ?_
    rintro r_ τ_ ⟨hr_, ht_⟩; subst r_; subst τ_
    rw [e1]
    refine pw_cS1 (d1 := d - 1) (a1 := 0) (a2 := al) dX12_next0_172 mtX12_isDigit stX12_isDigit mlX12_207 (Nat.le_of_ble_eq_true rfl) (Nat.le_of_ble_eq_true rfl) (by omega) (by omega) (s_isDigit (by omega) hc) ?_
    rintro r_ τ_ ⟨hr_, ht_⟩; subst r_; subst τ_
    refine pw_if_eq (tgt := 222) dX12_next0_175 (by decide) (fun h175 => ?_) (fun h175 => ?_)
    · rw [if_neg (bI_0.mp h175)] at hE
      subst hE
      exact kk ρ hρ
    · refine pw_iload_n dX12_next0_178 rfl ?_
      refine pw_iconst (v := 4) dX12_next0_179 (by decide) ?_
      refine pw_icmp_ge (tgt := 206) dX12_next0_180 (by decide) (fun h180 => ?_) (fun h180 => ?_)
      · refine pw_iinc1 dX12_next0_206 rfl (Nat.le_of_ble_eq_true rfl) (Nat.le_of_ble_eq_true rfl) rfl ?_
        refine pw_aload_n dX12_next0_209 rfl ?_
        refine pw_dup dX12_next0_210 rfl ?_
        refine pw_getI dX12_next0_211 flX12_188 rfl (hS.at rfl rfl rfl) ?_
        refine pw_iconst (v := 1) dX12_next0_214 (by decide) ?_
        refine pw_iadd dX12_next0_215 ?_
        refine pw_putI dX12_next0_216 flX12_188 ⟨_, rfl, Or.inl rfl⟩ rfl (hS.at rfl rfl rfl) ?_
        refine pw_goto (tgt := 164) dX12_next0_219 (by decide) ?_
        rw [if_pos (bI_n.mp h175)] at hE
        rw [hn]
        refine ih (p + 1) _ (by omega) (by omega) hE ?_
        by_cases h4 : p - q < 4
        · first | exact absurd h180 (nI_ge h4 (by decide)) | exact dS_a hqp h4 hρ
        · first | exact absurd (nI_le (show 4 ≤ p - q by omega) (by omega)) h180 | exact dS_b hqp h4 hρ
      · refine pw_aload_n dX12_next0_183 rfl ?_
        refine pw_bipush (v := 10) dX12_next0_184 (by decide) ?_
        refine pw_aload_n dX12_next0_186 rfl ?_
        refine pw_getI dX12_next0_187 flX12_210 rfl (hS.at rfl rfl rfl) ?_
        refine pw_imul dX12_next0_190 ?_
        refine pw_aload_n dX12_next0_191 rfl ?_
        refine pw_aload_n dX12_next0_192 rfl ?_
        refine pw_getI dX12_next0_193 flX12_188 rfl (hS.at rfl rfl rfl) ?_
        rw [ha]
        refine pw_cV1 (d1 := d - 1) (a1 := 0) (a2 := al) dX12_next0_196 mtX12_see ivX12_see mlX12_191 (Nat.le_of_ble_eq_true rfl) (Nat.le_of_ble_eq_true rfl) (by omega) (by omega) (hS.at rfl rfl rfl) rfl rfl (s_see hS hT (by omega)) ?_
        rintro r_ τ_ ⟨hr_, ht_⟩; subst r_; subst τ_
        rw [e1]
        refine pw_iadd dX12_next0_199 ?_
        refine pw_bipush (v := 48) dX12_next0_200 (by decide) ?_
        refine pw_isub dX12_next0_202 ?_
        refine pw_putI dX12_next0_203 flX12_210 ⟨_, rfl, Or.inl rfl⟩ rfl (hS.at rfl rfl rfl) ?_
        refine pw_iinc1 dX12_next0_206 rfl (Nat.le_of_ble_eq_true rfl) (Nat.le_of_ble_eq_true rfl) rfl ?_
        refine pw_aload_n dX12_next0_209 rfl ?_
        refine pw_dup dX12_next0_210 rfl ?_
        refine pw_getI dX12_next0_211 flX12_188 rfl (hS.at rfl rfl rfl) ?_
        refine pw_iconst (v := 1) dX12_next0_214 (by decide) ?_
        refine pw_iadd dX12_next0_215 ?_
        refine pw_putI dX12_next0_216 flX12_188 ⟨_, rfl, Or.inl rfl⟩ rfl (hS.at rfl rfl rfl) ?_
        refine pw_goto (tgt := 164) dX12_next0_219 (by decide) ?_
        rw [if_pos (bI_n.mp h175)] at hE
        rw [hn]
        refine ih (p + 1) _ (by omega) (by omega) hE ?_
        by_cases h4 : p - q < 4
        · first | exact absurd h180 (nI_ge h4 (by decide)) | exact dS_a hqp h4 hρ
        · first | exact absurd (nI_le (show 4 ≤ p - q by omega) (by omega)) h180 | exact dS_b hqp h4 hρ
