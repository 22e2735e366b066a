/-! ===== the class: reading rules, the small steps ===== -/
def rdC (σ : pm_S) (c : Nat → Nat) (L k r : Nat) : Prop := pm_fix σ ∧ L ≤ 600 ∧ k ≤ 600 ∧ nx c L (ps c L k) = (22, L, 0, L) ∧ qI σ 17 1 = nI L ∧ qI σ 30 4 = nI k ∧ (∀ j, j < k → qI σ 31 j = nI (tk c L j) ∧ qI σ 32 j = nI (sn c L j) ∧ qI σ 33 j = vl c L j) ∧ (r = 19 ∨ r = 24) ∧ qR σ 29 1 = r
def rdS (σ τ : pm_S) (r : Nat) : Prop := τ.2 = σ.2 ∧ ∀ b j, ¬ (b = 29 ∧ 2 ≤ j ∧ j ≤ 5) → ¬ (b = r ∧ j = 4) → ¬ (r < b ∧ b ≤ r + 3) → qI τ b j = qI σ b j
theorem rdS.rfl' {σ : pm_S} {r : Nat} : rdS σ σ r := ⟨rfl, fun _ _ _ _ _ => rfl⟩
theorem rdS.tr {σ τ ρ : pm_S} {r : Nat} (h1 : rdS σ τ r) (h2 : rdS τ ρ r) : rdS σ ρ r := ⟨h2.1.trans h1.1, fun b j a1 a2 a3 => (h2.2 b j a1 a2 a3).trans (h1.2 b j a1 a2 a3)⟩
theorem rdC.of {σ τ : pm_S} {c : Nat → Nat} {L k r : Nat} (h : rdC σ c L k r) (hs : rdS σ τ r) : rdC τ c L k r := by
  obtain ⟨h1, h2, h3, h4, h5, h6, h7, h8, h9⟩ := h
  have e : ∀ b j, b = 17 ∨ b = 30 ∨ b = 31 ∨ b = 32 ∨ b = 33 → qI τ b j = qI σ b j := fun b j hb => hs.2 b j (by omega) (by omega) (by omega)
  refine ⟨fix_of2 hs.1 h1, h2, h3, h4, by rw [e 17 1 (by omega)]; exact h5, by rw [e 30 4 (by omega)]; exact h6, fun j hj => by rw [e 31 j (by omega), e 32 j (by omega), e 33 j (by omega)]; exact h7 j hj, h8, ?_⟩
  have : qR τ = qR σ := by unfold qR; rw [hs.1]
  rw [this]; exact h9
theorem rdC.rule {σ : pm_S} {c : Nat → Nat} {L k r : Nat} (h : rdC σ c L k r) : pm_is σ r 4 := by
  rcases h.2.2.2.2.2.2.2.1 with rfl | rfl
  · exact h.1.at rfl rfl rfl
  · exact h.1.at rfl rfl rfl
theorem rdC.lt {σ : pm_S} {c : Nat → Nat} {L k r i : Nat} (h : rdC σ c L k r) (hi : tk c L i ≠ 22) : i < k := by
  rcases Nat.lt_or_ge i k with z | z
  · exact z
  · have := tk_end h.2.2.2.1 (i - k)
    rw [show k + (i - k) = i by omega] at this
    exact absurd (by show (nx c L (ps c L i)).1 = 22; rw [this]) hi
/-- the steps in the list -/
def stS (τ : pm_S) (r : Nat) (S : List stp) : Prop := qI τ r 4 = nI S.length ∧ ∀ m, m < S.length → qI τ (r + 1) m = nI (S.getD m (0, 0, 0)).1 ∧ qI τ (r + 2) m = nI (S.getD m (0, 0, 0)).2.1 ∧ qI τ (r + 3) m = nI (S.getD m (0, 0, 0)).2.2
def OKs (τ : pm_S) (c : Nat → Nat) (L k r i : Nat) (S : List stp) : Prop := qI τ 29 4 = 0 ∧ qI τ 29 5 = -1 ∧ qI τ 29 2 = nI i ∧ qI τ 29 3 = nI (tk c L i) ∧ i ≤ k ∧ 2 * S.length ≤ sn c L i ∧ stS τ r S
def BDs (τ : pm_S) (c : Nat → Nat) (L r : Nat) (e : Nat × Nat) : Prop := qI τ 29 4 = nI e.1 ∧ (e.1 = 1 ∨ e.1 = 2) ∧ qI τ 29 5 = nI (sn c L e.2) ∧ qI τ 29 3 = 23 ∧ ∃ m, m ≤ 300 ∧ qI τ r 4 = nI m
theorem t_kat {d al L k r i : Nat} {σ : pm_S} {c : Nat → Nat} (h : rdC σ c L k r) (hi : i ≤ 700) : PE d al MX10_at [.ref 30, .int (nI i)] σ (some (.int (nI (tk c L i)))) σ := by
  obtain ⟨hS, h2, h3, h4, h5, h6, h7, h8, h9⟩ := id h
  show PW _ _ _ _ _ _ _ _
  refine pw_iload_n dX10_at_0 rfl ?_
  refine pw_if_lt (tgt := 21) dX10_at_1 (by decide) (fun h1 => ?_) (fun h1 => ?_)
  · exact absurd h1 (nI_pos (by omega))
  · refine pw_iload_n dX10_at_4 rfl ?_
    refine pw_aload_n dX10_at_5 rfl ?_
    refine pw_getI dX10_at_6 flX10_25 rfl (hS.at rfl rfl rfl) ?_
    refine pw_icmp_ge (tgt := 21) dX10_at_9 (by decide) (fun h9 => ?_) (fun h9 => ?_)
    · refine pw_bipush (v := 22) dX10_at_21 (by decide) ?_
      refine pw_iret dX10_at_23 rfl rfl ?_
      refine ⟨?_, rfl⟩
      first | rw [(h7 i hik).1] | (rw [h6] at h9; have hno : ¬ i < k := (fun z => nI_ge z (by omega) h9); have hz : tk c L i = 22 := Decidable.by_contra (fun z => hno (h.lt z)); rw [hz]; rfl)
    · rw [h6] at h9
      have hik : i < k := by
        rcases Nat.lt_or_ge i k with z | z
        · exact z
        · exact absurd (nI_le z (by omega)) h9
      have hik6 : i < 601 := by omega
      refine pw_aload_n dX10_at_12 rfl ?_
      refine pw_getF (v := 31) dX10_at_13 flX10_11 rfl (hS.at rfl rfl rfl) (hS.rf (30, 1, 31) rfl (by decide)) ?_
      refine pw_iload_n dX10_at_16 rfl ?_
      refine pw_iald dX10_at_17 (hS.at rfl rfl rfl) rfl (hS.lt rfl rfl hik6 rfl) (by omega) ?_
      refine pw_goto (tgt := 23) dX10_at_18 (by decide) ?_
      refine pw_iret dX10_at_23 rfl rfl ?_
      refine ⟨?_, rfl⟩
      first | rw [(h7 i hik).1] | (rw [h6] at h9; have hno : ¬ i < k := (fun z => nI_ge z (by omega) h9); have hz : tk c L i = 22 := Decidable.by_contra (fun z => hno (h.lt z)); rw [hz]; rfl)
theorem t_kplace {d al L k r i : Nat} {σ : pm_S} {c : Nat → Nat} (hd : 1 ≤ d) (h : rdC σ c L k r) (hi : i ≤ 700) : PE d al MX10_placeOf [.ref 30, .int (nI i)] σ (some (.int (nI (sn c L i)))) σ := by
  obtain ⟨hS, h2, h3, h4, h5, h6, h7, h8, h9⟩ := id h
  show PW _ _ _ _ _ _ _ _
  refine pw_iload_n dX10_placeOf_0 rfl ?_
  refine pw_if_lt (tgt := 21) dX10_placeOf_1 (by decide) (fun h1 => ?_) (fun h1 => ?_)
  · exact absurd h1 (nI_pos (by omega))
  · refine pw_iload_n dX10_placeOf_4 rfl ?_
    refine pw_aload_n dX10_placeOf_5 rfl ?_
    refine pw_getI dX10_placeOf_6 flX10_25 rfl (hS.at rfl rfl rfl) ?_
    refine pw_icmp_ge (tgt := 21) dX10_placeOf_9 (by decide) (fun h9 => ?_) (fun h9 => ?_)
    · refine pw_aload_n dX10_placeOf_21 rfl ?_
      refine pw_getF (v := 17) dX10_placeOf_22 flX10_21 rfl (hS.at rfl rfl rfl) (hS.rf (30, 0, 17) rfl (by decide)) ?_
      refine pw_cV0 (d1 := d - 1) (a1 := 0) (a2 := al) dX10_placeOf_25 mtX7_length ivX7_length mlX10_29 (Nat.le_of_ble_eq_true rfl) (Nat.le_of_ble_eq_true rfl) (by omega) (by omega) (hS.at rfl rfl rfl) rfl rfl (t_tlen hS) ?_
      rintro r_ τ_ ⟨hr_, ht_⟩; subst r_; subst τ_
      refine pw_iret dX10_placeOf_28 rfl rfl ?_
      refine ⟨?_, rfl⟩
      first | rw [(h7 i hik).2.1] | (rw [h6] at h9; have hno : ¬ i < k := (fun z => nI_ge z (by omega) h9); have hz := tk_end h4 (i - k); rw [show k + (i - k) = i by omega] at hz; rw [h5, show sn c L i = L from congrArg (fun x => x.2.1) hz])
    · rw [h6] at h9
      have hik : i < k := by
        rcases Nat.lt_or_ge i k with z | z
        · exact z
        · exact absurd (nI_le z (by omega)) h9
      have hik6 : i < 601 := by omega
      refine pw_aload_n dX10_placeOf_12 rfl ?_
      refine pw_getF (v := 32) dX10_placeOf_13 flX10_15 rfl (hS.at rfl rfl rfl) (hS.rf (30, 2, 32) rfl (by decide)) ?_
      refine pw_iload_n dX10_placeOf_16 rfl ?_
      refine pw_iald dX10_placeOf_17 (hS.at rfl rfl rfl) rfl (hS.lt rfl rfl hik6 rfl) (by omega) ?_
      refine pw_goto (tgt := 28) dX10_placeOf_18 (by decide) ?_
      refine pw_iret dX10_placeOf_28 rfl rfl ?_
      refine ⟨?_, rfl⟩
      first | rw [(h7 i hik).2.1] | (rw [h6] at h9; have hno : ¬ i < k := (fun z => nI_ge z (by omega) h9); have hz := tk_end h4 (i - k); rw [show k + (i - k) = i by omega] at hz; rw [h5, show sn c L i = L from congrArg (fun x => x.2.1) hz])
theorem t_kval {d al L k r i : Nat} {σ : pm_S} {c : Nat → Nat} (h : rdC σ c L k r) (hi : i < k) : PE d al MX10_valueOf [.ref 30, .int (nI i)] σ (some (.int (vl c L i))) σ := by
  obtain ⟨hS, h2, h3, h4, h5, h6, h7, h8, h9⟩ := id h
  have hik6 : i < 601 := by omega
  show PW _ _ _ _ _ _ _ _
  refine pw_iload_n dX10_valueOf_0 rfl ?_
  refine pw_if_lt (tgt := 21) dX10_valueOf_1 (by decide) (fun h1 => ?_) (fun h1 => ?_)
  · exact absurd h1 (nI_pos (by omega))
  · refine pw_iload_n dX10_valueOf_4 rfl ?_
    refine pw_aload_n dX10_valueOf_5 rfl ?_
    refine pw_getI dX10_valueOf_6 flX10_25 rfl (hS.at rfl rfl rfl) ?_
    refine pw_icmp_ge (tgt := 21) dX10_valueOf_9 (by decide) (fun h9 => ?_) (fun h9 => ?_)
    · exact absurd (by rw [h6] at h9; exact h9) (nI_ge hi (by omega))
    · refine pw_aload_n dX10_valueOf_12 rfl ?_
      refine pw_getF (v := 33) dX10_valueOf_13 flX10_18 rfl (hS.at rfl rfl rfl) (hS.rf (30, 3, 33) rfl (by decide)) ?_
      refine pw_iload_n dX10_valueOf_16 rfl ?_
      refine pw_iald dX10_valueOf_17 (hS.at rfl rfl rfl) rfl (hS.lt rfl rfl hik6 rfl) (by omega) ?_
      refine pw_goto (tgt := 22) dX10_valueOf_18 (by decide) ?_
      refine pw_iret dX10_valueOf_22 rfl rfl ?_
      exact ⟨by rw [(h7 i hi).2.2], rfl⟩
theorem t_adv_ok {d al L k r i : Nat} {σ : pm_S} {c : Nat → Nat} {S : List stp} (hd : 1 ≤ d) (h : rdC σ c L k r) (ho : OKs σ c L k r i S) (hi : tk c L i ≠ 22) : PM d al MX5_advance [.ref 29] σ (fun x τ => x = none ∧ rdS σ τ r ∧ OKs τ c L k r (i + 1) S) := by
  obtain ⟨hS, h2, h3, h4, h5, h6, h7, h8, h9⟩ := id h
  obtain ⟨o1, o2, o3, o4, o5, o6, o7, o8⟩ := ho
  have hik := h.lt hi
  have e : qI σ 29 2 + 1 = nI (i + 1) := by rw [o3, nI_succ]
  have h' : rdC (pm_sI σ 29 2 (nI (i + 1))) c L k r := h.of ⟨rfl, fun b j a1 _ _ => qI_sI_ne (by omega)⟩
  show PW _ _ _ _ _ _ _ _
  refine pw_aload_n dX5_advance_0 rfl ?_
  refine pw_getI dX5_advance_1 flX5_24 rfl (hS.at rfl rfl rfl) ?_
  refine pw_if_ne (tgt := 32) dX5_advance_4 (by decide) (fun h4 => ?_) (fun h4 => ?_)
  · exact absurd o1 h4
  · refine pw_aload_n dX5_advance_7 rfl ?_
    refine pw_dup dX5_advance_8 rfl ?_
    refine pw_getI dX5_advance_9 flX5_39 rfl (hS.at rfl rfl rfl) ?_
    refine pw_iconst (v := 1) dX5_advance_12 (by decide) ?_
    refine pw_iadd dX5_advance_13 ?_
    rw [e]
    refine pw_putI dX5_advance_14 flX5_39 ⟨_, rfl, Or.inl rfl⟩ rfl (hS.at rfl rfl rfl) ?_
    refine pw_aload_n dX5_advance_17 rfl ?_
    refine pw_aload_n dX5_advance_18 rfl ?_
    refine pw_getF (v := 30) dX5_advance_19 flX5_14 rfl (hS.at rfl rfl rfl) (hS.rf (29, 0, 30) rfl (by decide)) ?_
    refine pw_aload_n dX5_advance_22 rfl ?_
    refine pw_getI dX5_advance_23 flX5_39 rfl (hS.at rfl rfl rfl) ?_
    rw [show qI (pm_sI σ 29 2 (nI (i + 1))) 29 2 = nI (i + 1) from qI_sI_eq]
    refine pw_cV1 (d1 := d - 1) (a1 := 0) (a2 := al) dX5_advance_26 mtX10_at ivX10_at mlX5_42 (Nat.le_of_ble_eq_true rfl) (Nat.le_of_ble_eq_true rfl) (by omega) (by omega) (hS.at rfl rfl rfl) rfl rfl (t_kat h' (by omega)) ?_
    rintro r_ τ_ ⟨hr_, ht_⟩; subst r_; subst τ_
    refine pw_putI dX5_advance_29 flX5_46 ⟨_, rfl, Or.inl rfl⟩ rfl (hS.at rfl rfl rfl) ?_
    refine pw_vret dX5_advance_32 rfl ?_
    have hsn := (tk_P c L).1 i hi
    refine ⟨rfl, ⟨rfl, fun b j a1 _ _ => ?_⟩, ?_, ?_, ?_, qI_sI_eq, by omega, by omega, ?_, ?_⟩
    · rw [qI_sI_ne (by omega), qI_sI_ne (by omega)]
    · rw [qI_sI_ne (by decide), qI_sI_ne (by decide)]; exact o1
    · rw [qI_sI_ne (by decide), qI_sI_ne (by decide)]; exact o2
    · rw [qI_sI_ne (by decide), qI_sI_eq]
    · rw [qI_sI_nc (by omega), qI_sI_nc (by omega)]; exact o7
    · intro m hm
      rw [qI_sI_nc (by omega), qI_sI_nc (by omega), qI_sI_nc (by omega), qI_sI_nc (by omega), qI_sI_nc (by omega), qI_sI_nc (by omega)]
      exact o8 m hm
theorem t_adv_bad {d al L r : Nat} {σ : pm_S} {c : Nat → Nat} {e : Nat × Nat} (hS : pm_fix σ) (hb : BDs σ c L r e) : PE d al MX5_advance [.ref 29] σ none σ := by
  have hne : qI σ 29 4 ≠ 0 := by rw [hb.1]; rcases hb.2.1 with z | z <;> rw [z] <;> decide
  show PW _ _ _ _ _ _ _ _
  refine pw_aload_n dX5_advance_0 rfl ?_
  refine pw_getI dX5_advance_1 flX5_24 rfl (hS.at rfl rfl rfl) ?_
  refine pw_if_ne (tgt := 32) dX5_advance_4 (by decide) (fun _ => ?_) (fun z => absurd z hne)
  refine pw_vret dX5_advance_32 rfl ?_
  exact ⟨rfl, rfl⟩
theorem t_ref_ok {d al L k r i : Nat} {σ : pm_S} {c : Nat → Nat} {S : List stp} (hd : 2 ≤ d) (h : rdC σ c L k r) (ho : OKs σ c L k r i S) {w : Nat} (hw : w = 1 ∨ w = 2) : PM d al MX5_refuse [.ref 29, .int (nI w)] σ (fun x τ => x = none ∧ rdS σ τ r ∧ BDs τ c L r (w, i)) := by
  obtain ⟨hS, h2, h3, h4, h5, h6, h7, h8, h9⟩ := id h
  obtain ⟨o1, o2, o3, o4, o5, o6, o7, o8⟩ := ho
  have hsn := sn_le c L i
  have h' : rdC (pm_sI σ 29 4 (nI w)) c L k r := h.of ⟨rfl, fun b j a1 _ _ => qI_sI_ne (by omega)⟩
  show PW _ _ _ _ _ _ _ _
  refine pw_aload_n dX5_refuse_0 rfl ?_
  refine pw_getI dX5_refuse_1 flX5_24 rfl (hS.at rfl rfl rfl) ?_
  refine pw_if_ne (tgt := 27) dX5_refuse_4 (by decide) (fun h4 => ?_) (fun h4 => ?_)
  · exact absurd o1 h4
  · refine pw_aload_n dX5_refuse_7 rfl ?_
    refine pw_iload_n dX5_refuse_8 rfl ?_
    refine pw_putI dX5_refuse_9 flX5_24 ⟨_, rfl, Or.inl rfl⟩ rfl (hS.at rfl rfl rfl) ?_
    refine pw_aload_n dX5_refuse_12 rfl ?_
    refine pw_aload_n dX5_refuse_13 rfl ?_
    refine pw_getF (v := 30) dX5_refuse_14 flX5_14 rfl (hS.at rfl rfl rfl) (hS.rf (29, 0, 30) rfl (by decide)) ?_
    refine pw_aload_n dX5_refuse_17 rfl ?_
    refine pw_getI dX5_refuse_18 flX5_39 rfl (hS.at rfl rfl rfl) ?_
    rw [show qI (pm_sI σ 29 4 (nI w)) 29 2 = nI i from (qI_sI_ne (by decide)).trans o3]
    refine pw_cV1 (d1 := d - 1) (a1 := 0) (a2 := al) dX5_refuse_21 mtX10_placeOf ivX10_placeOf mlX5_89 (Nat.le_of_ble_eq_true rfl) (Nat.le_of_ble_eq_true rfl) (by omega) (by omega) (hS.at rfl rfl rfl) rfl rfl (t_kplace (by omega) h' (by omega)) ?_
    rintro r_ τ_ ⟨hr_, ht_⟩; subst r_; subst τ_
    refine pw_putI dX5_refuse_24 flX5_28 ⟨_, rfl, Or.inl rfl⟩ rfl (hS.at rfl rfl rfl) ?_
    refine pw_aload_n dX5_refuse_27 rfl ?_
    refine pw_bipush (v := 23) dX5_refuse_28 (by decide) ?_
    refine pw_putI dX5_refuse_30 flX5_46 ⟨_, rfl, Or.inl rfl⟩ rfl (hS.at rfl rfl rfl) ?_
    refine pw_vret dX5_refuse_33 rfl ?_
    refine ⟨rfl, ⟨rfl, fun b j a1 _ _ => ?_⟩, ?_, hw, ?_, qI_sI_eq, S.length, by omega, ?_⟩
    · rw [qI_sI_ne (by omega), qI_sI_ne (by omega), qI_sI_ne (by omega)]
    · rw [qI_sI_ne (by decide), qI_sI_ne (by decide), qI_sI_eq]
    · rw [qI_sI_ne (by decide), qI_sI_eq]
    · rw [qI_sI_nc (by omega), qI_sI_nc (by omega), qI_sI_nc (by omega)]; exact o7
theorem t_ref_bad {d al L r : Nat} {σ : pm_S} {c : Nat → Nat} {e : Nat × Nat} (hS : pm_fix σ) (hb : BDs σ c L r e) (w : Int32) : PE d al MX5_refuse [.ref 29, .int w] σ none σ := by
  have hne : qI σ 29 4 ≠ 0 := by rw [hb.1]; rcases hb.2.1 with z | z <;> rw [z] <;> decide
  show PW _ _ _ _ _ _ _ _
  refine pw_aload_n dX5_refuse_0 rfl ?_
  refine pw_getI dX5_refuse_1 flX5_24 rfl (hS.at rfl rfl rfl) ?_
  refine pw_if_ne (tgt := 27) dX5_refuse_4 (by decide) (fun h4 => ?_) (fun h4 => ?_)
  · refine pw_aload_n dX5_refuse_27 rfl ?_
    refine pw_bipush (v := 23) dX5_refuse_28 (by decide) ?_
    refine pw_putI dX5_refuse_30 flX5_46 ⟨_, rfl, Or.inl rfl⟩ rfl (hS.at rfl rfl rfl) ?_
    refine pw_vret dX5_refuse_33 rfl ?_
    exact ⟨rfl, sI_id hb.2.2.2.1⟩
  · exact absurd h4 hne
def c_add (σ : pm_S) (r n : Nat) (op l x : Int32) : pm_S := pm_sI (pm_sI (pm_sI (pm_sI σ (r + 1) n op) (r + 2) n l) (r + 3) n x) r 4 (nI n + 1)
theorem t_addStep {d al n r : Nat} {σ : pm_S} (hS : pm_fix σ) (hr : r = 19 ∨ r = 24) (hn : qI σ r 4 = nI n) (hn2 : n ≤ 300) (op l x : Int32) : PE d al MX4_addStep [.ref r, .int op, .int l, .int x] σ none (if n < 300 then c_add σ r n op l x else σ) := by
  show PW _ _ _ _ _ _ _ _
  rcases hr with rfl | rfl
  refine pw_aload_n dX4_addStep_0 rfl ?_
  refine pw_getI dX4_addStep_1 flX4_28 rfl (hS.at rfl rfl rfl) ?_
  refine pw_sipush (v := 300) dX4_addStep_4 (by decide) ?_
  refine pw_icmp_ge (tgt := 50) dX4_addStep_7 (by decide) (fun h7 => ?_) (fun h7 => ?_)
  · refine pw_vret dX4_addStep_50 rfl ?_
    refine ⟨rfl, ?_⟩
    first | (rw [if_pos hn3]; unfold c_add; rw [← hn]; rfl) | (rw [hn] at h7; have hno : ¬ n < 300 := (fun z => nI_ge z (by decide) h7); rw [if_neg hno])
  · rw [hn] at h7
    have hn3 : n < 300 := by
      rcases Nat.lt_or_ge n 300 with z | z
      · exact z
      · exact absurd (nI_le z (by omega)) h7
    refine pw_aload_n dX4_addStep_10 rfl ?_
    refine pw_getF (v := 20) dX4_addStep_11 flX4_11 rfl (hS.at rfl rfl rfl) (hS.rf (19, 0, 20) rfl (by decide)) ?_
    refine pw_aload_n dX4_addStep_14 rfl ?_
    refine pw_getI dX4_addStep_15 flX4_28 rfl (hS.at rfl rfl rfl) ?_
    refine pw_iload_n dX4_addStep_18 rfl ?_
    refine pw_iast dX4_addStep_19 (hS.at rfl rfl rfl) (by decide) hn (hS.lt rfl rfl hn3 rfl) (by omega) ?_
    refine pw_aload_n dX4_addStep_20 rfl ?_
    refine pw_getF (v := 21) dX4_addStep_21 flX4_15 rfl (hS.at rfl rfl rfl) (hS.rf (19, 1, 21) rfl (by decide)) ?_
    refine pw_aload_n dX4_addStep_24 rfl ?_
    refine pw_getI dX4_addStep_25 flX4_28 rfl (hS.at rfl rfl rfl) ?_
    refine pw_iload_n dX4_addStep_28 rfl ?_
    refine pw_iast dX4_addStep_29 (hS.at rfl rfl rfl) (by decide) hn (hS.lt rfl rfl hn3 rfl) (by omega) ?_
    refine pw_aload_n dX4_addStep_30 rfl ?_
    refine pw_getF (v := 22) dX4_addStep_31 flX4_18 rfl (hS.at rfl rfl rfl) (hS.rf (19, 2, 22) rfl (by decide)) ?_
    refine pw_aload_n dX4_addStep_34 rfl ?_
    refine pw_getI dX4_addStep_35 flX4_28 rfl (hS.at rfl rfl rfl) ?_
    refine pw_iload_n dX4_addStep_38 rfl ?_
    refine pw_iast dX4_addStep_39 (hS.at rfl rfl rfl) (by decide) hn (hS.lt rfl rfl hn3 rfl) (by omega) ?_
    refine pw_aload_n dX4_addStep_40 rfl ?_
    refine pw_dup dX4_addStep_41 rfl ?_
    refine pw_getI dX4_addStep_42 flX4_28 rfl (hS.at rfl rfl rfl) ?_
    refine pw_iconst (v := 1) dX4_addStep_45 (by decide) ?_
    refine pw_iadd dX4_addStep_46 ?_
    refine pw_putI dX4_addStep_47 flX4_28 ⟨_, rfl, Or.inl rfl⟩ rfl (hS.at rfl rfl rfl) ?_
    refine pw_vret dX4_addStep_50 rfl ?_
    refine ⟨rfl, ?_⟩
    first | (rw [if_pos hn3]; unfold c_add; rw [← hn]; rfl) | (rw [hn] at h7; have hno : ¬ n < 300 := (fun z => nI_ge z (by decide) h7); rw [if_neg hno])
  refine pw_aload_n dX4_addStep_0 rfl ?_
  refine pw_getI dX4_addStep_1 flX4_28 rfl (hS.at rfl rfl rfl) ?_
  refine pw_sipush (v := 300) dX4_addStep_4 (by decide) ?_
  refine pw_icmp_ge (tgt := 50) dX4_addStep_7 (by decide) (fun h7 => ?_) (fun h7 => ?_)
  · refine pw_vret dX4_addStep_50 rfl ?_
    refine ⟨rfl, ?_⟩
    first | (rw [if_pos hn3]; unfold c_add; rw [← hn]; rfl) | (rw [hn] at h7; have hno : ¬ n < 300 := (fun z => nI_ge z (by decide) h7); rw [if_neg hno])
  · rw [hn] at h7
    have hn3 : n < 300 := by
      rcases Nat.lt_or_ge n 300 with z | z
      · exact z
      · exact absurd (nI_le z (by omega)) h7
    refine pw_aload_n dX4_addStep_10 rfl ?_
    refine pw_getF (v := 25) dX4_addStep_11 flX4_11 rfl (hS.at rfl rfl rfl) (hS.rf (24, 0, 25) rfl (by decide)) ?_
    refine pw_aload_n dX4_addStep_14 rfl ?_
    refine pw_getI dX4_addStep_15 flX4_28 rfl (hS.at rfl rfl rfl) ?_
    refine pw_iload_n dX4_addStep_18 rfl ?_
    refine pw_iast dX4_addStep_19 (hS.at rfl rfl rfl) (by decide) hn (hS.lt rfl rfl hn3 rfl) (by omega) ?_
    refine pw_aload_n dX4_addStep_20 rfl ?_
    refine pw_getF (v := 26) dX4_addStep_21 flX4_15 rfl (hS.at rfl rfl rfl) (hS.rf (24, 1, 26) rfl (by decide)) ?_
    refine pw_aload_n dX4_addStep_24 rfl ?_
    refine pw_getI dX4_addStep_25 flX4_28 rfl (hS.at rfl rfl rfl) ?_
    refine pw_iload_n dX4_addStep_28 rfl ?_
    refine pw_iast dX4_addStep_29 (hS.at rfl rfl rfl) (by decide) hn (hS.lt rfl rfl hn3 rfl) (by omega) ?_
    refine pw_aload_n dX4_addStep_30 rfl ?_
    refine pw_getF (v := 27) dX4_addStep_31 flX4_18 rfl (hS.at rfl rfl rfl) (hS.rf (24, 2, 27) rfl (by decide)) ?_
    refine pw_aload_n dX4_addStep_34 rfl ?_
    refine pw_getI dX4_addStep_35 flX4_28 rfl (hS.at rfl rfl rfl) ?_
    refine pw_iload_n dX4_addStep_38 rfl ?_
    refine pw_iast dX4_addStep_39 (hS.at rfl rfl rfl) (by decide) hn (hS.lt rfl rfl hn3 rfl) (by omega) ?_
    refine pw_aload_n dX4_addStep_40 rfl ?_
    refine pw_dup dX4_addStep_41 rfl ?_
    refine pw_getI dX4_addStep_42 flX4_28 rfl (hS.at rfl rfl rfl) ?_
    refine pw_iconst (v := 1) dX4_addStep_45 (by decide) ?_
    refine pw_iadd dX4_addStep_46 ?_
    refine pw_putI dX4_addStep_47 flX4_28 ⟨_, rfl, Or.inl rfl⟩ rfl (hS.at rfl rfl rfl) ?_
    refine pw_vret dX4_addStep_50 rfl ?_
    refine ⟨rfl, ?_⟩
    first | (rw [if_pos hn3]; unfold c_add; rw [← hn]; rfl) | (rw [hn] at h7; have hno : ¬ n < 300 := (fun z => nI_ge z (by decide) h7); rw [if_neg hno])
theorem c_add_S {σ : pm_S} {r n : Nat} {op l x : Int32} : rdS σ (c_add σ r n op l x) r := ⟨rfl, fun b j _ a2 a3 => by unfold c_add; rw [qI_sI_ne a2, qI_sI_nc (by omega), qI_sI_nc (by omega), qI_sI_nc (by omega)]⟩
theorem getD_app_l {α : Type} (a b : List α) (d : α) {i : Nat} (h : i < a.length) : (a ++ b).getD i d = a.getD i d := by
  rw [List.getD_eq_getElem?_getD, List.getD_eq_getElem?_getD, List.getElem?_append_left h]
theorem getD_app_r {α : Type} (a b : List α) (d : α) (i : Nat) : (a ++ b).getD (a.length + i) d = b.getD i d := by
  rw [List.getD_eq_getElem?_getD, List.getD_eq_getElem?_getD, List.getElem?_append_right (by omega), Nat.add_sub_cancel_left]
/-- a step is laid, all well so far -/
theorem t_add_ok {d al L k r i : Nat} {σ : pm_S} {c : Nat → Nat} {S : List stp} (h : rdC σ c L k r) (ho : OKs σ c L k r i S) {op l x : Nat} (hc : 2 * (S.length + 1) ≤ sn c L i) : PM d al MX4_addStep [.ref r, .int (nI op), .int (nI l), .int (nI x)] σ (fun v τ => v = none ∧ rdS σ τ r ∧ OKs τ c L k r i (S ++ [(op, l, x)])) := by
  obtain ⟨hS, h2, h3, h4, h5, h6, h7, h8, h9⟩ := id h
  obtain ⟨o1, o2, o3, o4, o5, o6, o7, o8⟩ := ho
  have hsn := sn_le c L i
  have hn3 : S.length < 300 := by omega
  have hp := t_addStep (d := d) (al := al) hS h8 o7 (by omega) (nI op) (nI l) (nI x)
  rw [if_pos hn3] at hp
  refine PW.post ?_ hp
  rintro v τ ⟨rfl, rfl⟩
  have hs := c_add_S (σ := σ) (r := r) (n := S.length) (op := nI op) (l := nI l) (x := nI x)
  have e29 : ∀ j, qI (c_add σ r S.length (nI op) (nI l) (nI x)) 29 j = qI σ 29 j := fun j => by
    unfold c_add
    rw [qI_sI_nc (by omega), qI_sI_nc (by omega), qI_sI_nc (by omega), qI_sI_nc (by omega)]
  refine ⟨rfl, hs, by rw [e29]; exact o1, by rw [e29]; exact o2, by rw [e29]; exact o3, by rw [e29]; exact o4, o5, by rw [List.length_append]; exact hc, ?_, fun m hm => ?_⟩
  · unfold c_add
    rw [qI_sI_eq, List.length_append, show S.length + [(op, l, x)].length = S.length + 1 from rfl, nI_succ]
  · rw [List.length_append] at hm
    have hm : m < S.length + 1 := hm
    unfold c_add
    by_cases z : m = S.length
    · subst z
      have := getD_app_r S [(op, l, x)] (0, 0, 0) 0
      rw [Nat.add_zero] at this
      rw [this]
      refine ⟨?_, ?_, ?_⟩
      · rw [qI_sI_nc (by omega), qI_sI_nc (by omega), qI_sI_nc (by omega), qI_sI_eq]; rfl
      · rw [qI_sI_nc (by omega), qI_sI_nc (by omega), qI_sI_eq]; rfl
      · rw [qI_sI_nc (by omega), qI_sI_eq]; rfl
    · rw [getD_app_l _ _ _ (by omega)]
      obtain ⟨q1, q2, q3⟩ := o8 m (by omega)
      refine ⟨?_, ?_, ?_⟩
      · rw [qI_sI_nc (by omega), qI_sI_nc (by omega), qI_sI_nc (by omega), qI_sI_ne (by omega)]; exact q1
      · rw [qI_sI_nc (by omega), qI_sI_nc (by omega), qI_sI_ne (by omega), qI_sI_nc (by omega)]; exact q2
      · rw [qI_sI_nc (by omega), qI_sI_ne (by omega), qI_sI_nc (by omega), qI_sI_nc (by omega)]; exact q3
/-- a step is laid behind a fault -/
theorem t_add_bad {d al L k r : Nat} {σ : pm_S} {c : Nat → Nat} {e : Nat × Nat} (h : rdC σ c L k r) (hb : BDs σ c L r e) (op l x : Int32) : PM d al MX4_addStep [.ref r, .int op, .int l, .int x] σ (fun v τ => v = none ∧ rdS σ τ r ∧ BDs τ c L r e) := by
  obtain ⟨hS, h2, h3, h4, h5, h6, h7, h8, h9⟩ := id h
  obtain ⟨b1, b2, b3, b4, m, b5, b6⟩ := hb
  have hp := t_addStep (d := d) (al := al) hS h8 b6 b5 op l x
  refine PW.post ?_ hp
  rintro v τ ⟨rfl, rfl⟩
  by_cases z : m < 300
  · rw [if_pos z]
    have e29 : ∀ j, qI (c_add σ r m op l x) 29 j = qI σ 29 j := fun j => by
      unfold c_add
      rw [qI_sI_nc (by omega), qI_sI_nc (by omega), qI_sI_nc (by omega), qI_sI_nc (by omega)]
    refine ⟨rfl, c_add_S, by rw [e29]; exact b1, b2, by rw [e29]; exact b3, by rw [e29]; exact b4, m + 1, by omega, ?_⟩
    unfold c_add
    rw [qI_sI_eq, nI_succ]
  · rw [if_neg z]
    exact ⟨rfl, rdS.rfl', b1, b2, b3, b4, m, b5, b6⟩
