/-! ===== the class: all rules of a text ===== -/
theorem t_lclear {d al r : Nat} {σ : pm_S} (hS : pm_fix σ) (hr : r = 19 ∨ r = 24) : PE d al MX4_clear [.ref r] σ none (pm_sI (pm_sI σ r 4 0) r 5 0) := by
  show PW _ _ _ _ _ _ _ _
  rcases hr with rfl | rfl
  refine pw_aload_n dX4_clear_0 rfl ?_
  refine pw_iconst (v := 0) dX4_clear_1 (by decide) ?_
  refine pw_putI dX4_clear_2 flX4_28 ⟨_, rfl, Or.inl rfl⟩ rfl (hS.at rfl rfl rfl) ?_
  refine pw_aload_n dX4_clear_5 rfl ?_
  refine pw_iconst (v := 0) dX4_clear_6 (by decide) ?_
  refine pw_putI dX4_clear_7 flX4_24 ⟨_, rfl, Or.inl rfl⟩ rfl (hS.at rfl rfl rfl) ?_
  refine pw_vret dX4_clear_10 rfl ?_
  exact ⟨rfl, rfl⟩
  refine pw_aload_n dX4_clear_0 rfl ?_
  refine pw_iconst (v := 0) dX4_clear_1 (by decide) ?_
  refine pw_putI dX4_clear_2 flX4_28 ⟨_, rfl, Or.inl rfl⟩ rfl (hS.at rfl rfl rfl) ?_
  refine pw_aload_n dX4_clear_5 rfl ?_
  refine pw_iconst (v := 0) dX4_clear_6 (by decide) ?_
  refine pw_putI dX4_clear_7 flX4_24 ⟨_, rfl, Or.inl rfl⟩ rfl (hS.at rfl rfl rfl) ?_
  refine pw_vret dX4_clear_10 rfl ?_
  exact ⟨rfl, rfl⟩
theorem t_close {d al n r : Nat} {σ : pm_S} (hS : pm_fix σ) (hr : r = 19 ∨ r = 24) (hn : qI σ r 5 = nI n) (hn2 : n ≤ 12) : PE d al MX4_closeRule [.ref r] σ none (if n < 12 then pm_sI (pm_sI σ (r + 4) n (qI σ r 4)) r 5 (nI n + 1) else σ) := by
  show PW _ _ _ _ _ _ _ _
  rcases hr with rfl | rfl
  refine pw_aload_n dX4_closeRule_0 rfl ?_
  refine pw_getI dX4_closeRule_1 flX4_24 rfl (hS.at rfl rfl rfl) ?_
  refine pw_bipush (v := 12) dX4_closeRule_4 (by decide) ?_
  refine pw_icmp_ge (tgt := 32) dX4_closeRule_6 (by decide) (fun h6 => ?_) (fun h6 => ?_)
  · refine pw_vret dX4_closeRule_32 rfl ?_
    refine ⟨rfl, ?_⟩
    first | (rw [if_pos hn3, ← hn]; rfl) | (rw [hn] at h6; have hno : ¬ n < 12 := (fun z => nI_ge z (by decide) h6); rw [if_neg hno])
  · rw [hn] at h6
    have hn3 : n < 12 := by
      rcases Nat.lt_or_ge n 12 with z | z
      · exact z
      · exact absurd (nI_le z (by omega)) h6
    refine pw_aload_n dX4_closeRule_9 rfl ?_
    refine pw_getF (v := 23) dX4_closeRule_10 flX4_21 rfl (hS.at rfl rfl rfl) (hS.rf (19, 3, 23) rfl (by decide)) ?_
    refine pw_aload_n dX4_closeRule_13 rfl ?_
    refine pw_getI dX4_closeRule_14 flX4_24 rfl (hS.at rfl rfl rfl) ?_
    refine pw_aload_n dX4_closeRule_17 rfl ?_
    refine pw_getI dX4_closeRule_18 flX4_28 rfl (hS.at rfl rfl rfl) ?_
    refine pw_iast dX4_closeRule_21 (hS.at rfl rfl rfl) (by decide) hn (hS.lt rfl rfl hn3 rfl) (by omega) ?_
    refine pw_aload_n dX4_closeRule_22 rfl ?_
    refine pw_dup dX4_closeRule_23 rfl ?_
    refine pw_getI dX4_closeRule_24 flX4_24 rfl (hS.at rfl rfl rfl) ?_
    refine pw_iconst (v := 1) dX4_closeRule_27 (by decide) ?_
    refine pw_iadd dX4_closeRule_28 ?_
    refine pw_putI dX4_closeRule_29 flX4_24 ⟨_, rfl, Or.inl rfl⟩ rfl (hS.at rfl rfl rfl) ?_
    refine pw_vret dX4_closeRule_32 rfl ?_
    refine ⟨rfl, ?_⟩
    first | (rw [if_pos hn3, ← hn]; rfl) | (rw [hn] at h6; have hno : ¬ n < 12 := (fun z => nI_ge z (by decide) h6); rw [if_neg hno])
  refine pw_aload_n dX4_closeRule_0 rfl ?_
  refine pw_getI dX4_closeRule_1 flX4_24 rfl (hS.at rfl rfl rfl) ?_
  refine pw_bipush (v := 12) dX4_closeRule_4 (by decide) ?_
  refine pw_icmp_ge (tgt := 32) dX4_closeRule_6 (by decide) (fun h6 => ?_) (fun h6 => ?_)
  · refine pw_vret dX4_closeRule_32 rfl ?_
    refine ⟨rfl, ?_⟩
    first | (rw [if_pos hn3, ← hn]; rfl) | (rw [hn] at h6; have hno : ¬ n < 12 := (fun z => nI_ge z (by decide) h6); rw [if_neg hno])
  · rw [hn] at h6
    have hn3 : n < 12 := by
      rcases Nat.lt_or_ge n 12 with z | z
      · exact z
      · exact absurd (nI_le z (by omega)) h6
    refine pw_aload_n dX4_closeRule_9 rfl ?_
    refine pw_getF (v := 28) dX4_closeRule_10 flX4_21 rfl (hS.at rfl rfl rfl) (hS.rf (24, 3, 28) rfl (by decide)) ?_
    refine pw_aload_n dX4_closeRule_13 rfl ?_
    refine pw_getI dX4_closeRule_14 flX4_24 rfl (hS.at rfl rfl rfl) ?_
    refine pw_aload_n dX4_closeRule_17 rfl ?_
    refine pw_getI dX4_closeRule_18 flX4_28 rfl (hS.at rfl rfl rfl) ?_
    refine pw_iast dX4_closeRule_21 (hS.at rfl rfl rfl) (by decide) hn (hS.lt rfl rfl hn3 rfl) (by omega) ?_
    refine pw_aload_n dX4_closeRule_22 rfl ?_
    refine pw_dup dX4_closeRule_23 rfl ?_
    refine pw_getI dX4_closeRule_24 flX4_24 rfl (hS.at rfl rfl rfl) ?_
    refine pw_iconst (v := 1) dX4_closeRule_27 (by decide) ?_
    refine pw_iadd dX4_closeRule_28 ?_
    refine pw_putI dX4_closeRule_29 flX4_24 ⟨_, rfl, Or.inl rfl⟩ rfl (hS.at rfl rfl rfl) ?_
    refine pw_vret dX4_closeRule_32 rfl ?_
    refine ⟨rfl, ?_⟩
    first | (rw [if_pos hn3, ← hn]; rfl) | (rw [hn] at h6; have hno : ¬ n < 12 := (fun z => nI_ge z (by decide) h6); rw [if_neg hno])
def rdT (σ τ : pm_S) (r : Nat) : Prop := τ.2 = σ.2 ∧ ∀ b j, ¬ (b = 29 ∧ 2 ≤ j ∧ j ≤ 5) → ¬ (r ≤ b ∧ b ≤ r + 4) → qI τ b j = qI σ b j
theorem rdT.of {σ τ : pm_S} {r : Nat} (h : rdS σ τ r) : rdT σ τ r := ⟨h.1, fun b j a1 a2 => h.2 b j a1 (by omega) (by omega)⟩
theorem rdT.tr {σ τ ρ : pm_S} {r : Nat} (h1 : rdT σ τ r) (h2 : rdT τ ρ r) : rdT σ ρ r := ⟨h2.1.trans h1.1, fun b j a1 a2 => (h2.2 b j a1 a2).trans (h1.2 b j a1 a2)⟩
theorem rdC.ofT {σ τ : pm_S} {c : Nat → Nat} {L k r : Nat} (h : rdC σ c L k r) (hs : rdT σ τ r) : rdC τ c L k r := by
  obtain ⟨h1, h2, h3, h4, h5, h6, h7, h8, h9⟩ := h
  have e : ∀ b j, b = 17 ∨ b = 30 ∨ b = 31 ∨ b = 32 ∨ b = 33 → qI τ b j = qI σ b j := fun b j hb => hs.2 b j (by omega) (by omega)
  refine ⟨fix_of2 hs.1 h1, h2, h3, h4, by rw [e 17 1 (by omega)]; exact h5, by rw [e 30 4 (by omega)]; exact h6, fun j hj => by rw [e 31 j (by omega), e 32 j (by omega), e 33 j (by omega)]; exact h7 j hj, h8, ?_⟩
  have : qR τ = qR σ := by unfold qR; rw [hs.1]
  rw [this]; exact h9
/-- the rules' ends -/
def ruS (τ : pm_S) (r : Nat) (rs : List (List stp)) : Prop := qI τ r 5 = nI rs.length ∧ ∀ m, m < rs.length → qI τ (r + 4) m = nI ((rs.take (m + 1)).flatten.length)
theorem ruS.of {σ τ : pm_S} {r : Nat} {rs : List (List stp)} (hr : r = 19 ∨ r = 24) (h : ruS σ r rs) (hs : rdS σ τ r) : ruS τ r rs := ⟨by rw [hs.2 r 5 (by omega) (by omega) (by omega)]; exact h.1, fun m hm => by rw [hs.2 (r + 4) m (by omega) (by omega) (by omega)]; exact h.2 m hm⟩
/-- what reading all rules comes to -/
def ALs (σ τ : pm_S) (c : Nat → Nat) (L r : Nat) (v : Option Value) (R : Except (Nat × Nat) (List (List stp))) : Prop := rdT σ τ r ∧ match R with
  | .ok rs => v = some (.int 1) ∧ qI τ 29 4 = 0 ∧ qI τ 29 5 = -1 ∧ stS τ r rs.flatten ∧ ruS τ r rs
  | .error e => v = some (.int 0) ∧ qI τ 29 4 = nI e.1 ∧ qI τ 29 5 = nI (sn c L e.2)
section PPE
variable {t v : Nat → Nat}
theorem pR_z {i : Nat} {rs : List (List stp)} (h : t i = 22) : ∀ f, pR t v f i rs = .ok rs
  | 0 => if_pos h
  | f + 1 => (if_neg (by omega)).trans (if_pos h)
theorem pR_b {i : Nat} {rs : List (List stp)} (h : ¬ t i = 22) (h0 : ¬ t i = 0) : ∀ f, pR t v f i rs = .error (1, i)
  | 0 => (if_neg h).trans (if_neg h0)
  | f + 1 => (if_neg h0).trans (if_neg h)
theorem pR_m {i : Nat} {rs : List (List stp)} (h0 : t i = 0) : pR t v 0 i rs = .error (2, i) := (if_neg (by omega)).trans (if_pos h0)
theorem pR_e {f i : Nat} {rs : List (List stp)} {e : Nat × Nat} (h0 : t i = 0) (h1 : pA t v 8 (i + 1) = .error e) : pR t v (f + 1) i rs = .error e := by
  refine (if_pos h0).trans ?_
  have h1 : pM t 1 (pM t 2 (pC t v 8)) (i + 1) = .error e := h1
  rw [h1]
theorem pR_o {f i j : Nat} {rs : List (List stp)} {s : List stp} (h0 : t i = 0) (h1 : pA t v 8 (i + 1) = .ok (j, s)) (h2 : t j = 15) : pR t v (f + 1) i rs = pR t v f (j + 1) (rs ++ [s]) := by
  refine (if_pos h0).trans ?_
  have h1 : pM t 1 (pM t 2 (pC t v 8)) (i + 1) = .ok (j, s) := h1
  rw [h1]
  exact if_pos h2
theorem pR_n {f i j : Nat} {rs : List (List stp)} {s : List stp} (h0 : t i = 0) (h1 : pA t v 8 (i + 1) = .ok (j, s)) (h2 : ¬ t j = 15) : pR t v (f + 1) i rs = .error (1, j) := by
  refine (if_pos h0).trans ?_
  have h1 : pM t 1 (pM t 2 (pC t v 8)) (i + 1) = .ok (j, s) := h1
  rw [h1]
  exact if_neg h2
end PPE
/-- behind a fault the reader comes to its end -/
theorem t_ri_x {d al L k r n : Nat} {σ : pm_S} {c : Nat → Nat} {e : Nat × Nat} {Q : Option Value → pm_S → Prop} (hd : 3 ≤ d) (hn : n ≤ 12) (h : rdC σ c L k r) (hb : BDs σ c L r e) (kk : Q (some (.int 0)) σ) : PW d al MX5_readInto 51 [.ref 29, .ref r, .int (nI n)] [] σ Q := by
  have hS := h.1
  obtain ⟨b1, b2, b3, b4, b5⟩ := id hb
  have hne : qI σ 29 4 ≠ 0 := by rw [b1]; rcases b2 with z | z <;> rw [z] <;> decide
  refine pw_iload_n dX5_readInto_51 rfl ?_
  refine pw_bipush (v := 12) dX5_readInto_52 (by decide) ?_
  refine pw_icmp_ge (tgt := 92) dX5_readInto_54 (by decide) (fun h54 => ?_) (fun h54 => ?_)
  · refine pw_aload_n dX5_readInto_92 rfl ?_
    refine pw_getI dX5_readInto_93 flX5_46 rfl (hS.at rfl rfl rfl) ?_
    rw [b4]
    refine pw_if_ne (tgt := 107) dX5_readInto_96 (by decide) (fun h96 => ?_) (fun h96 => ?_)
    · refine pw_aload_n dX5_readInto_107 rfl ?_
      refine pw_getI dX5_readInto_108 flX5_46 rfl (hS.at rfl rfl rfl) ?_
      rw [b4]
      refine pw_bipush (v := 22) dX5_readInto_111 (by decide) ?_
      refine pw_icmp_eq (tgt := 121) dX5_readInto_113 (by decide) (fun h113 => ?_) (fun h113 => ?_)
      · exact absurd h113 (by decide)
      · refine pw_aload_n dX5_readInto_116 rfl ?_
        refine pw_iconst (v := 1) dX5_readInto_117 (by decide) ?_
        refine pw_cV1 (d1 := d - 1) (a1 := 0) (a2 := al) dX5_readInto_118 mtX5_refuse ivX5_refuse mlX5_62 (Nat.le_of_ble_eq_true rfl) (Nat.le_of_ble_eq_true rfl) (by omega) (by omega) (hS.at rfl rfl rfl) rfl rfl (t_ref_bad hS hb _) ?_
        rintro r_ τ_ ⟨hr_, ht_⟩; subst r_; subst τ_
        refine pw_aload_n dX5_readInto_121 rfl ?_
        refine pw_getI dX5_readInto_122 flX5_24 rfl (hS.at rfl rfl rfl) ?_
        refine pw_if_ne (tgt := 132) dX5_readInto_125 (by decide) (fun h125 => ?_) (fun h125 => ?_)
        · refine pw_iconst (v := 0) dX5_readInto_132 (by decide) ?_
          refine pw_iret dX5_readInto_133 rfl (by first | rfl | exact bI_nar) ?_
          exact kk
        · exact absurd h125 hne
    · exact absurd h96 (by decide)
  · refine pw_aload_n dX5_readInto_57 rfl ?_
    refine pw_getI dX5_readInto_58 flX5_46 rfl (hS.at rfl rfl rfl) ?_
    rw [b4]
    refine pw_if_ne (tgt := 92) dX5_readInto_61 (by decide) (fun h61 => ?_) (fun h61 => ?_)
    · refine pw_aload_n dX5_readInto_92 rfl ?_
      refine pw_getI dX5_readInto_93 flX5_46 rfl (hS.at rfl rfl rfl) ?_
      rw [b4]
      refine pw_if_ne (tgt := 107) dX5_readInto_96 (by decide) (fun h96 => ?_) (fun h96 => ?_)
      · refine pw_aload_n dX5_readInto_107 rfl ?_
        refine pw_getI dX5_readInto_108 flX5_46 rfl (hS.at rfl rfl rfl) ?_
        rw [b4]
        refine pw_bipush (v := 22) dX5_readInto_111 (by decide) ?_
        refine pw_icmp_eq (tgt := 121) dX5_readInto_113 (by decide) (fun h113 => ?_) (fun h113 => ?_)
        · exact absurd h113 (by decide)
        · refine pw_aload_n dX5_readInto_116 rfl ?_
          refine pw_iconst (v := 1) dX5_readInto_117 (by decide) ?_
          refine pw_cV1 (d1 := d - 1) (a1 := 0) (a2 := al) dX5_readInto_118 mtX5_refuse ivX5_refuse mlX5_62 (Nat.le_of_ble_eq_true rfl) (Nat.le_of_ble_eq_true rfl) (by omega) (by omega) (hS.at rfl rfl rfl) rfl rfl (t_ref_bad hS hb _) ?_
          rintro r_ τ_ ⟨hr_, ht_⟩; subst r_; subst τ_
          refine pw_aload_n dX5_readInto_121 rfl ?_
          refine pw_getI dX5_readInto_122 flX5_24 rfl (hS.at rfl rfl rfl) ?_
          refine pw_if_ne (tgt := 132) dX5_readInto_125 (by decide) (fun h125 => ?_) (fun h125 => ?_)
          · refine pw_iconst (v := 0) dX5_readInto_132 (by decide) ?_
            refine pw_iret dX5_readInto_133 rfl (by first | rfl | exact bI_nar) ?_
            exact kk
          · exact absurd h125 hne
      · exact absurd h96 (by decide)
    · exact absurd h61 (by decide)
/-- the end of the loop, all well -/
theorem t_ri_y {d al L k r i f : Nat} {σ : pm_S} {c : Nat → Nat} {rs : List (List stp)} {x : Value} (hd : 3 ≤ d) (h : rdC σ c L k r) (ho : OKs σ c L k r i rs.flatten) (hu : ruS σ r rs) (hf : tk c L i = 0 → f = 0) : PW d al MX5_readInto 92 [.ref 29, .ref r, x] [] σ (fun v τ => ALs σ τ c L r v (pR (tk c L) (vN c L) f i rs)) := by
  have hS := h.1
  have ht := tk_le c L i
  obtain ⟨o1, o2, o3, o4, o5, o6, o7⟩ := id ho
  have e0 : nI (tk c L i) = 0 ↔ tk c L i = 0 := nI_eq (b := 0) (by omega) (by decide)
  have e22 : nI (tk c L i) = 22 ↔ tk c L i = 22 := nI_eq (by omega) (by decide)
  have hne : ∀ (τ : pm_S) (e : Nat × Nat), BDs τ c L r e → qI τ 29 4 ≠ 0 := fun τ e hb => by rw [hb.1]; rcases hb.2.1 with z | z <;> rw [z] <;> decide
  by_cases z0 : tk c L i = 0
  · rw [hf z0, pR_m z0]
    refine pw_aload_n dX5_readInto_92 rfl ?_
    refine pw_getI dX5_readInto_93 flX5_46 rfl (hS.at rfl rfl rfl) ?_
    rw [o4]
    refine pw_if_ne (tgt := 107) dX5_readInto_96 (by decide) (fun h96 => ?_) (fun h96 => ?_)
    · exact absurd (e0.mpr z0) h96
    · refine pw_aload_n dX5_readInto_99 rfl ?_
      refine pw_iconst (v := 2) dX5_readInto_100 (by decide) ?_
      refine pw_cV1 (d1 := d - 1) (a1 := 0) (a2 := al) dX5_readInto_101 mtX5_refuse ivX5_refuse mlX5_62 (Nat.le_of_ble_eq_true rfl) (Nat.le_of_ble_eq_true rfl) (by omega) (by omega) (hS.at rfl rfl rfl) rfl rfl (t_ref_ok (w := 2) (by omega) h ho (Or.inr rfl)) ?_
      rintro r_ τ1 ⟨hr_, hs1, hb1⟩; subst r_
      refine pw_goto (tgt := 121) dX5_readInto_104 (by decide) ?_
      refine pw_aload_n dX5_readInto_121 rfl ?_
      refine pw_getI dX5_readInto_122 flX5_24 rfl ((h.of hs1).1.at rfl rfl rfl) ?_
      refine pw_if_ne (tgt := 132) dX5_readInto_125 (by decide) (fun h125 => ?_) (fun h125 => ?_)
      · refine pw_iconst (v := 0) dX5_readInto_132 (by decide) ?_
        refine pw_iret dX5_readInto_133 rfl (by first | rfl | exact bI_nar) ?_
        exact ⟨rdT.of hs1, rfl, hb1.1, hb1.2.2.1⟩
      · exact absurd h125 (hne _ _ hb1)
  · by_cases z22 : tk c L i = 22
    · rw [pR_z z22]
      refine pw_aload_n dX5_readInto_92 rfl ?_
      refine pw_getI dX5_readInto_93 flX5_46 rfl (hS.at rfl rfl rfl) ?_
      rw [o4]
      refine pw_if_ne (tgt := 107) dX5_readInto_96 (by decide) (fun h96 => ?_) (fun h96 => ?_)
      · refine pw_aload_n dX5_readInto_107 rfl ?_
        refine pw_getI dX5_readInto_108 flX5_46 rfl (hS.at rfl rfl rfl) ?_
        rw [o4]
        refine pw_bipush (v := 22) dX5_readInto_111 (by decide) ?_
        refine pw_icmp_eq (tgt := 121) dX5_readInto_113 (by decide) (fun h113 => ?_) (fun h113 => ?_)
        · refine pw_aload_n dX5_readInto_121 rfl ?_
          refine pw_getI dX5_readInto_122 flX5_24 rfl (hS.at rfl rfl rfl) ?_
          refine pw_if_ne (tgt := 132) dX5_readInto_125 (by decide) (fun h125 => ?_) (fun h125 => ?_)
          · exact absurd o1 h125
          · refine pw_iconst (v := 1) dX5_readInto_128 (by decide) ?_
            refine pw_goto (tgt := 133) dX5_readInto_129 (by decide) ?_
            refine pw_iret dX5_readInto_133 rfl (by first | rfl | exact bI_nar) ?_
            exact ⟨rdT.of rdS.rfl', rfl, o1, o2, o7, hu⟩
        · exact absurd (e22.mpr z22) h113
      · exact absurd (e0.mp h96) z0
    · rw [pR_b z22 z0]
      refine pw_aload_n dX5_readInto_92 rfl ?_
      refine pw_getI dX5_readInto_93 flX5_46 rfl (hS.at rfl rfl rfl) ?_
      rw [o4]
      refine pw_if_ne (tgt := 107) dX5_readInto_96 (by decide) (fun h96 => ?_) (fun h96 => ?_)
      · refine pw_aload_n dX5_readInto_107 rfl ?_
        refine pw_getI dX5_readInto_108 flX5_46 rfl (hS.at rfl rfl rfl) ?_
        rw [o4]
        refine pw_bipush (v := 22) dX5_readInto_111 (by decide) ?_
        refine pw_icmp_eq (tgt := 121) dX5_readInto_113 (by decide) (fun h113 => ?_) (fun h113 => ?_)
        · exact absurd (e22.mp h113) z22
        · refine pw_aload_n dX5_readInto_116 rfl ?_
          refine pw_iconst (v := 1) dX5_readInto_117 (by decide) ?_
          refine pw_cV1 (d1 := d - 1) (a1 := 0) (a2 := al) dX5_readInto_118 mtX5_refuse ivX5_refuse mlX5_62 (Nat.le_of_ble_eq_true rfl) (Nat.le_of_ble_eq_true rfl) (by omega) (by omega) (hS.at rfl rfl rfl) rfl rfl (t_ref_ok (w := 1) (by omega) h ho (Or.inl rfl)) ?_
          rintro r_ τ1 ⟨hr_, hs1, hb1⟩; subst r_
          refine pw_aload_n dX5_readInto_121 rfl ?_
          refine pw_getI dX5_readInto_122 flX5_24 rfl ((h.of hs1).1.at rfl rfl rfl) ?_
          refine pw_if_ne (tgt := 132) dX5_readInto_125 (by decide) (fun h125 => ?_) (fun h125 => ?_)
          · refine pw_iconst (v := 0) dX5_readInto_132 (by decide) ?_
            refine pw_iret dX5_readInto_133 rfl (by first | rfl | exact bI_nar) ?_
            exact ⟨rdT.of hs1, rfl, hb1.1, hb1.2.2.1⟩
          · exact absurd h125 (hne _ _ hb1)
      · exact absurd (e0.mp h96) z0
theorem t_ri_lp {d al L k r : Nat} {c : Nat → Nat} (hd : 50 ≤ d) : ∀ (f n i : Nat) (rs : List (List stp)) (σ : pm_S), n + f = 12 → rs.length = n → rdC σ c L k r → OKs σ c L k r i rs.flatten → ruS σ r rs → PW d al MX5_readInto 51 [.ref 29, .ref r, .int (nI n)] [] σ (fun v τ => ALs σ τ c L r v (pR (tk c L) (vN c L) f i rs)) := by
  intro f
  induction f with
  | zero =>
    intro n i rs σ hn hrs h ho hu
    have hS := h.1
    have hn12 : n = 12 := by omega
    subst hn12
    refine pw_iload_n dX5_readInto_51 rfl ?_
    refine pw_bipush (v := 12) dX5_readInto_52 (by decide) ?_
    refine pw_icmp_ge (tgt := 92) dX5_readInto_54 (by decide) (fun h54 => ?_) (fun h54 => ?_)
    · exact t_ri_y (by omega) h ho hu (fun _ => rfl)
    · exact absurd (by decide) h54
  | succ f ih =>
    intro n i rs σ hn hrs h ho hu
    have hS := h.1
    have ht := tk_le c L i
    have o4 := ho.2.2.2.1
    have hr2 := h.2.2.2.2.2.2.2.1
    have e0 : nI (tk c L i) = 0 ↔ tk c L i = 0 := nI_eq (b := 0) (by omega) (by decide)
    by_cases z0 : tk c L i = 0
    · -- behind a fault
      have bad : ∀ (τ : pm_S) (e : Nat × Nat), rdS σ τ r → BDs τ c L r e → ∀ (Q : Option Value → pm_S → Prop), (∀ ρ, rdT σ ρ r → BDs ρ c L r e → Q (some (.int 0)) ρ) → PW d al MX5_readInto 79 [.ref 29, .ref r, .int (nI n)] [] τ Q := by
        intro τ e hs hb Q kk
        have hτ := h.of hs
        have hSτ := hτ.1
        have hl : qR τ 29 1 = r := hτ.2.2.2.2.2.2.2.2
        have huτ := hu.of hr2 hs
        have hc5 : qI τ r 5 = nI n := by rw [huτ.1, hrs]
        have hr := hτ.rule
        have hn12 : n < 12 := by omega
        refine pw_aload_n dX5_readInto_79 rfl ?_
        refine pw_getF dX5_readInto_80 flX5_20 rfl (hSτ.at rfl rfl rfl) hl ?_
        refine pw_cV0 (d1 := d - 1) (a1 := 0) (a2 := al) dX5_readInto_83 mtX4_closeRule ivX4_closeRule mlX5_59 (Nat.le_of_ble_eq_true rfl) (Nat.le_of_ble_eq_true rfl) (by omega) (by omega) hr rfl rfl (t_close hSτ hr2 hc5 (by omega)) ?_
        rintro r_ τ_ ⟨hr_, ht_⟩; subst r_; subst τ_
        rw [if_pos hn12]
        refine pw_iinc1 dX5_readInto_86 rfl (Nat.le_of_ble_eq_true rfl) (Nat.le_of_ble_eq_true rfl) rfl ?_
        refine pw_goto (tgt := 51) dX5_readInto_89 (by decide) ?_
        have hT : rdT σ (pm_sI (pm_sI τ (r + 4) n (qI τ r 4)) r 5 (nI n + 1)) r := (rdT.of hs).tr ⟨rfl, fun b j a1 a2 => by rw [qI_sI_nc (by omega), qI_sI_nc (by omega)]⟩
        have hb2 : BDs (pm_sI (pm_sI τ (r + 4) n (qI τ r 4)) r 5 (nI n + 1)) c L r e := by
          obtain ⟨b1, b2, b3, b4, m, b5, b6⟩ := hb
          refine ⟨?_, b2, ?_, ?_, m, b5, ?_⟩
          · rw [qI_sI_nc (by omega), qI_sI_nc (by omega)]; exact b1
          · rw [qI_sI_nc (by omega), qI_sI_nc (by omega)]; exact b3
          · rw [qI_sI_nc (by omega), qI_sI_nc (by omega)]; exact b4
          · rw [qI_sI_ne (by omega), qI_sI_nc (by omega)]; exact b6
        have hq := t_ri_x (d := d) (al := al) (n := n + 1) (by omega) (by omega) (h.ofT hT) hb2 (kk _ hT hb2)
        rw [nI_succ] at hq
        exact hq
      cases hp : pA (tk c L) (vN c L) 8 (i + 1) with
      | error e =>
        rw [pR_e z0 hp]
        refine pw_iload_n dX5_readInto_51 rfl ?_
        refine pw_bipush (v := 12) dX5_readInto_52 (by decide) ?_
        refine pw_icmp_ge (tgt := 92) dX5_readInto_54 (by decide) (fun h54 => ?_) (fun h54 => ?_)
        · exact absurd h54 (nI_ge (show n < 12 by omega) (by decide))
        · refine pw_aload_n dX5_readInto_57 rfl ?_
          refine pw_getI dX5_readInto_58 flX5_46 rfl (hS.at rfl rfl rfl) ?_
          rw [o4]
          refine pw_if_ne (tgt := 92) dX5_readInto_61 (by decide) (fun h61 => ?_) (fun h61 => ?_)
          · exact absurd (e0.mpr z0) h61
          · refine pw_aload_n dX5_readInto_64 rfl ?_
            refine pw_cV0 (d1 := d - 1) (a1 := 0) (a2 := al) dX5_readInto_65 mtX5_advance ivX5_advance mlX5_49 (Nat.le_of_ble_eq_true rfl) (Nat.le_of_ble_eq_true rfl) (by omega) (by omega) (hS.at rfl rfl rfl) rfl rfl (t_adv_ok (by omega) h ho (by omega)) ?_
            rintro r_ τ1 ⟨hr_, hs1, ho1⟩; subst r_
            have h1 := h.of hs1
            have hS1 := h1.1
            refine pw_aload_n dX5_readInto_68 rfl ?_
            refine pw_iconst (v := 0) dX5_readInto_69 (by decide) ?_
            refine pw_cV1 (d1 := d - 1) (a1 := 0) (a2 := al) dX5_readInto_70 mtX5_readChoice ivX5_readChoice mlX5_52 (Nat.le_of_ble_eq_true rfl) (Nat.le_of_ble_eq_true rfl) (by omega) (by omega) (hS1.at rfl rfl rfl) rfl rfl (t_choice (d := d - 1) (by omega) 0 τ1 (i + 1) rs.flatten h1 ho1) ?_
            rintro r_ τ2 ⟨hr_, hs2, hb2⟩; subst r_
            rw [hp] at hb2
            have hb2 : BDs τ2 c L r e := hb2
            have h2 := h1.of hs2
            have hS2 := h2.1
            refine pw_aload_n dX5_readInto_73 rfl ?_
            refine pw_bipush (v := 15) dX5_readInto_74 (by decide) ?_
            refine pw_cV1 (d1 := d - 1) (a1 := 0) (a2 := al) dX5_readInto_76 mtX5_take ivX5_take mlX5_56 (Nat.le_of_ble_eq_true rfl) (Nat.le_of_ble_eq_true rfl) (by omega) (by omega) (hS2.at rfl rfl rfl) rfl rfl (t_take_bad (w := 15) (by omega) h2 hb2 (by decide)) ?_
            rintro r_ τ_ ⟨hr_, ht_⟩; subst r_; subst τ_
            exact bad τ2 e (hs1.tr hs2) hb2 _ (fun ρ q1 q2 => ⟨q1, rfl, q2.1, q2.2.2.1⟩)
      | ok p =>
        obtain ⟨j, s⟩ := p
        by_cases z15 : tk c L j = 15
        · rw [pR_o z0 hp z15]
          have hn12 : n < 12 := by omega
          refine pw_iload_n dX5_readInto_51 rfl ?_
          refine pw_bipush (v := 12) dX5_readInto_52 (by decide) ?_
          refine pw_icmp_ge (tgt := 92) dX5_readInto_54 (by decide) (fun h54 => ?_) (fun h54 => ?_)
          · exact absurd h54 (nI_ge (show n < 12 by omega) (by decide))
          · refine pw_aload_n dX5_readInto_57 rfl ?_
            refine pw_getI dX5_readInto_58 flX5_46 rfl (hS.at rfl rfl rfl) ?_
            rw [o4]
            refine pw_if_ne (tgt := 92) dX5_readInto_61 (by decide) (fun h61 => ?_) (fun h61 => ?_)
            · exact absurd (e0.mpr z0) h61
            · refine pw_aload_n dX5_readInto_64 rfl ?_
              refine pw_cV0 (d1 := d - 1) (a1 := 0) (a2 := al) dX5_readInto_65 mtX5_advance ivX5_advance mlX5_49 (Nat.le_of_ble_eq_true rfl) (Nat.le_of_ble_eq_true rfl) (by omega) (by omega) (hS.at rfl rfl rfl) rfl rfl (t_adv_ok (by omega) h ho (by omega)) ?_
              rintro r_ τ1 ⟨hr_, hs1, ho1⟩; subst r_
              have h1 := h.of hs1
              have hS1 := h1.1
              refine pw_aload_n dX5_readInto_68 rfl ?_
              refine pw_iconst (v := 0) dX5_readInto_69 (by decide) ?_
              refine pw_cV1 (d1 := d - 1) (a1 := 0) (a2 := al) dX5_readInto_70 mtX5_readChoice ivX5_readChoice mlX5_52 (Nat.le_of_ble_eq_true rfl) (Nat.le_of_ble_eq_true rfl) (by omega) (by omega) (hS1.at rfl rfl rfl) rfl rfl (t_choice (d := d - 1) (by omega) 0 τ1 (i + 1) rs.flatten h1 ho1) ?_
              rintro r_ τ2 ⟨hr_, hs2, ho2⟩; subst r_
              rw [hp] at ho2
              have ho2 : OKs τ2 c L k r j (rs.flatten ++ s) := ho2
              have h2 := h1.of hs2
              have hS2 := h2.1
              refine pw_aload_n dX5_readInto_73 rfl ?_
              refine pw_bipush (v := 15) dX5_readInto_74 (by decide) ?_
              refine pw_cV1 (d1 := d - 1) (a1 := 0) (a2 := al) dX5_readInto_76 mtX5_take ivX5_take mlX5_56 (Nat.le_of_ble_eq_true rfl) (Nat.le_of_ble_eq_true rfl) (by omega) (by omega) (hS2.at rfl rfl rfl) rfl rfl (t_take_ok (w := 15) (by omega) h2 ho2 (by decide)) ?_
              rintro r_ τ3 ⟨hr_, hs3, ho3⟩; subst r_
              rw [if_pos z15] at ho3
              have h3 := h2.of hs3
              have hS3 := h3.1
              have hl3 : qR τ3 29 1 = r := h3.2.2.2.2.2.2.2.2
              have hu3 := hu.of hr2 ((hs1.tr hs2).tr hs3)
              have hc5 : qI τ3 r 5 = nI n := by rw [hu3.1, hrs]
              refine pw_aload_n dX5_readInto_79 rfl ?_
              refine pw_getF dX5_readInto_80 flX5_20 rfl (hS3.at rfl rfl rfl) hl3 ?_
              refine pw_cV0 (d1 := d - 1) (a1 := 0) (a2 := al) dX5_readInto_83 mtX4_closeRule ivX4_closeRule mlX5_59 (Nat.le_of_ble_eq_true rfl) (Nat.le_of_ble_eq_true rfl) (by omega) (by omega) h3.rule rfl rfl (t_close hS3 hr2 hc5 (by omega)) ?_
              rintro r_ τ_ ⟨hr_, ht_⟩; subst r_; subst τ_
              rw [if_pos hn12]
              refine pw_iinc1 dX5_readInto_86 rfl (Nat.le_of_ble_eq_true rfl) (Nat.le_of_ble_eq_true rfl) rfl ?_
              refine pw_goto (tgt := 51) dX5_readInto_89 (by decide) ?_
              have hT : rdT σ (pm_sI (pm_sI τ3 (r + 4) n (qI τ3 r 4)) r 5 (nI n + 1)) r := (rdT.of ((hs1.tr hs2).tr hs3)).tr ⟨rfl, fun b j a1 a2 => by rw [qI_sI_nc (by omega), qI_sI_nc (by omega)]⟩
              have hfl : (rs ++ [s]).flatten = rs.flatten ++ s := by rw [List.flatten_append]; simp
              obtain ⟨p1, p2, p3, p4, p5, p6, p7, p8⟩ := id ho3
              have hO : OKs (pm_sI (pm_sI τ3 (r + 4) n (qI τ3 r 4)) r 5 (nI n + 1)) c L k r (j + 1) (rs ++ [s]).flatten := by
                rw [hfl]
                refine ⟨?_, ?_, ?_, ?_, p5, p6, ?_, fun m hm => ?_⟩
                · rw [qI_sI_nc (by omega), qI_sI_nc (by omega)]; exact p1
                · rw [qI_sI_nc (by omega), qI_sI_nc (by omega)]; exact p2
                · rw [qI_sI_nc (by omega), qI_sI_nc (by omega)]; exact p3
                · rw [qI_sI_nc (by omega), qI_sI_nc (by omega)]; exact p4
                · rw [qI_sI_ne (by omega), qI_sI_nc (by omega)]; exact p7
                · rw [qI_sI_nc (by omega), qI_sI_nc (by omega), qI_sI_nc (by omega), qI_sI_nc (by omega), qI_sI_nc (by omega), qI_sI_nc (by omega)]; exact p8 m hm
              have hU : ruS (pm_sI (pm_sI τ3 (r + 4) n (qI τ3 r 4)) r 5 (nI n + 1)) r (rs ++ [s]) := by
                refine ⟨?_, fun m hm => ?_⟩
                · rw [qI_sI_eq, List.length_append, hrs, show n + [s].length = n + 1 from rfl, nI_succ]
                · rw [List.length_append, hrs] at hm
                  have hm : m < n + 1 := hm
                  rw [qI_sI_nc (by omega)]
                  by_cases zm : m = n
                  · subst zm
                    rw [qI_sI_eq, p7, show List.take (m + 1) (rs ++ [s]) = rs ++ [s] from List.take_of_length_le (by rw [List.length_append, hrs]; exact Nat.le_refl _), hfl]
                  · rw [qI_sI_ne (by omega), hu3.2 m (by omega), List.take_append_of_le_length (by omega)]
              have hq := ih (n + 1) (j + 1) (rs ++ [s]) _ (by omega) (by rw [List.length_append, hrs]; rfl) (h.ofT hT) hO hU
              rw [nI_succ] at hq
              refine PW.post ?_ hq
              rintro v τ ⟨w1, w2⟩
              exact ⟨hT.tr w1, w2⟩
        · rw [pR_n z0 hp z15]
          refine pw_iload_n dX5_readInto_51 rfl ?_
          refine pw_bipush (v := 12) dX5_readInto_52 (by decide) ?_
          refine pw_icmp_ge (tgt := 92) dX5_readInto_54 (by decide) (fun h54 => ?_) (fun h54 => ?_)
          · exact absurd h54 (nI_ge (show n < 12 by omega) (by decide))
          · refine pw_aload_n dX5_readInto_57 rfl ?_
            refine pw_getI dX5_readInto_58 flX5_46 rfl (hS.at rfl rfl rfl) ?_
            rw [o4]
            refine pw_if_ne (tgt := 92) dX5_readInto_61 (by decide) (fun h61 => ?_) (fun h61 => ?_)
            · exact absurd (e0.mpr z0) h61
            · refine pw_aload_n dX5_readInto_64 rfl ?_
              refine pw_cV0 (d1 := d - 1) (a1 := 0) (a2 := al) dX5_readInto_65 mtX5_advance ivX5_advance mlX5_49 (Nat.le_of_ble_eq_true rfl) (Nat.le_of_ble_eq_true rfl) (by omega) (by omega) (hS.at rfl rfl rfl) rfl rfl (t_adv_ok (by omega) h ho (by omega)) ?_
              rintro r_ τ1 ⟨hr_, hs1, ho1⟩; subst r_
              have h1 := h.of hs1
              have hS1 := h1.1
              refine pw_aload_n dX5_readInto_68 rfl ?_
              refine pw_iconst (v := 0) dX5_readInto_69 (by decide) ?_
              refine pw_cV1 (d1 := d - 1) (a1 := 0) (a2 := al) dX5_readInto_70 mtX5_readChoice ivX5_readChoice mlX5_52 (Nat.le_of_ble_eq_true rfl) (Nat.le_of_ble_eq_true rfl) (by omega) (by omega) (hS1.at rfl rfl rfl) rfl rfl (t_choice (d := d - 1) (by omega) 0 τ1 (i + 1) rs.flatten h1 ho1) ?_
              rintro r_ τ2 ⟨hr_, hs2, ho2⟩; subst r_
              rw [hp] at ho2
              have ho2 : OKs τ2 c L k r j (rs.flatten ++ s) := ho2
              have h2 := h1.of hs2
              have hS2 := h2.1
              refine pw_aload_n dX5_readInto_73 rfl ?_
              refine pw_bipush (v := 15) dX5_readInto_74 (by decide) ?_
              refine pw_cV1 (d1 := d - 1) (a1 := 0) (a2 := al) dX5_readInto_76 mtX5_take ivX5_take mlX5_56 (Nat.le_of_ble_eq_true rfl) (Nat.le_of_ble_eq_true rfl) (by omega) (by omega) (hS2.at rfl rfl rfl) rfl rfl (t_take_ok (w := 15) (by omega) h2 ho2 (by decide)) ?_
              rintro r_ τ3 ⟨hr_, hs3, hb3⟩; subst r_
              rw [if_neg z15] at hb3
              exact bad τ3 (1, j) ((hs1.tr hs2).tr hs3) hb3 _ (fun ρ q1 q2 => ⟨q1, rfl, q2.1, q2.2.2.1⟩)
    · have hfin := t_ri_y (d := d) (al := al) (f := f + 1) (x := .int (nI n)) (by omega) h ho hu (fun y => absurd y z0)
      refine pw_iload_n dX5_readInto_51 rfl ?_
      refine pw_bipush (v := 12) dX5_readInto_52 (by decide) ?_
      refine pw_icmp_ge (tgt := 92) dX5_readInto_54 (by decide) (fun h54 => ?_) (fun h54 => ?_)
      · exact absurd h54 (nI_ge (show n < 12 by omega) (by decide))
      · refine pw_aload_n dX5_readInto_57 rfl ?_
        refine pw_getI dX5_readInto_58 flX5_46 rfl (hS.at rfl rfl rfl) ?_
        rw [o4]
        refine pw_if_ne (tgt := 92) dX5_readInto_61 (by decide) (fun h61 => ?_) (fun h61 => ?_)
        · exact hfin
        · exact absurd (e0.mp h61) z0
