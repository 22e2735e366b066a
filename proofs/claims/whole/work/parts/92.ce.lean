/-! ===== the class: what a rule says of a set ===== -/
def fcC (σ : pm_S) (w a : Nat) : Prop := pm_is σ w 2 ∧ qR σ w 0 = a ∧ pm_is σ a 20 ∧ qL σ a = 22 ∧ (a = 37 ∨ a = 42)
theorem pm_fix.fc1 {σ : pm_S} (hS : pm_fix σ) : fcC σ 36 37 := ⟨hS.at rfl rfl rfl, hS.rf (36, 0, 37) rfl (by decide), hS.at rfl rfl rfl, hS.ln rfl rfl, Or.inl rfl⟩
theorem pm_fix.fc2 {σ : pm_S} (hS : pm_fix σ) : fcC σ 41 42 := ⟨hS.at rfl rfl rfl, hS.rf (41, 0, 42) rfl (by decide), hS.at rfl rfl rfl, hS.ln rfl rfl, Or.inr rfl⟩
theorem t_value {d al w a x : Nat} {σ : pm_S} (hC : fcC σ w a) (hx : x < 10022) : PE d al MX2_value [.ref w, .int (nI x)] σ (some (.int (fv (qI σ a) x))) σ := by
  obtain ⟨h1, h2, h3, h4, h5⟩ := hC
  show PW _ _ _ _ _ _ _ _
  unfold fv
  by_cases z : 10000 ≤ x
  · have e : nI x - 10000 = nI (x - 10000) := by rw [show (10000 : Int32) = nI 10000 from rfl, pk_sub z]
    refine pw_iload_n dX2_value_0 rfl ?_
    refine pw_sipush (v := 10000) dX2_value_1 (by decide) ?_
    refine pw_isub dX2_value_4 ?_
    rw [e]
    refine pw_istore_n dX2_value_5 (Nat.le_of_ble_eq_true rfl) (Nat.le_of_ble_eq_true rfl) rfl ?_
    refine pw_iload_n dX2_value_6 rfl ?_
    refine pw_if_lt (tgt := 28) dX2_value_7 (by decide) (fun h7 => ?_) (fun h7 => ?_)
    · exact absurd h7 (nI_pos (by omega))
    · refine pw_iload_n dX2_value_10 rfl ?_
      refine pw_aload_n dX2_value_11 rfl ?_
      refine pw_getF dX2_value_12 flX2_11 rfl h1 h2 ?_
      refine pw_alen dX2_value_15 h3 (by decide) (by decide) ?_
      rw [h4]
      refine pw_icmp_ge (tgt := 28) dX2_value_16 (by decide) (fun h16 => ?_) (fun h16 => ?_)
      · exact absurd h16 (nI_ge (show x - 10000 < 22 by omega) (by decide))
      · refine pw_aload_n dX2_value_19 rfl ?_
        refine pw_getF dX2_value_20 flX2_11 rfl h1 h2 ?_
        refine pw_iload_n dX2_value_23 rfl ?_
        refine pw_iald dX2_value_24 h3 rfl (by rw [h4]; omega) (by omega) ?_
        refine pw_goto (tgt := 29) dX2_value_25 (by decide) ?_
        refine pw_iret dX2_value_29 rfl rfl ?_
        exact ⟨by rw [if_pos z], rfl⟩
  · have e : nI x - 10000 < 0 := by
      rw [i_lt, show (10000 : Int32) = nI 10000 from rfl, pk_sub_toInt (by omega) (by decide)]
      show (x : Int) - 10000 < 0
      omega
    refine pw_iload_n dX2_value_0 rfl ?_
    refine pw_sipush (v := 10000) dX2_value_1 (by decide) ?_
    refine pw_isub dX2_value_4 ?_
    refine pw_istore_n dX2_value_5 (Nat.le_of_ble_eq_true rfl) (Nat.le_of_ble_eq_true rfl) rfl ?_
    refine pw_iload_n dX2_value_6 rfl ?_
    refine pw_if_lt (tgt := 28) dX2_value_7 (by decide) (fun h7 => ?_) (fun h7 => ?_)
    · refine pw_iload_n dX2_value_28 rfl ?_
      refine pw_iret dX2_value_29 rfl rfl ?_
      exact ⟨by rw [if_neg z], rfl⟩
    · exact absurd e h7
theorem rl_f {σ : pm_S} {r : Nat} (hS : pm_fix σ) (hr : r = 19 ∨ r = 24) : pm_is σ r 4 ∧ (qR σ r 0 = r + 1 ∧ qR σ r 1 = r + 2 ∧ qR σ r 2 = r + 3 ∧ qR σ r 3 = r + 4) ∧ (pm_is σ (r + 1) 20 ∧ pm_is σ (r + 2) 20 ∧ pm_is σ (r + 3) 20 ∧ pm_is σ (r + 4) 20) ∧ (qL σ (r + 1) = 300 ∧ qL σ (r + 2) = 300 ∧ qL σ (r + 3) = 300 ∧ qL σ (r + 4) = 12) := by
  rcases hr with rfl | rfl
  · exact ⟨hS.at rfl rfl rfl, ⟨hS.rf (19, 0, 20) rfl (by decide), hS.rf (19, 1, 21) rfl (by decide), hS.rf (19, 2, 22) rfl (by decide), hS.rf (19, 3, 23) rfl (by decide)⟩, ⟨hS.at rfl rfl rfl, hS.at rfl rfl rfl, hS.at rfl rfl rfl, hS.at rfl rfl rfl⟩, hS.ln rfl rfl, hS.ln rfl rfl, hS.ln rfl rfl, hS.ln rfl rfl⟩
  · exact ⟨hS.at rfl rfl rfl, ⟨hS.rf (24, 0, 25) rfl (by decide), hS.rf (24, 1, 26) rfl (by decide), hS.rf (24, 2, 27) rfl (by decide), hS.rf (24, 3, 28) rfl (by decide)⟩, ⟨hS.at rfl rfl rfl, hS.at rfl rfl rfl, hS.at rfl rfl rfl, hS.at rfl rfl rfl⟩, hS.ln rfl rfl, hS.ln rfl rfl, hS.ln rfl rfl, hS.ln rfl rfl⟩
theorem t_compares {d al w a r i o l x : Nat} {σ : pm_S} (hd : 1 ≤ d) (hS : pm_fix σ) (hr : r = 19 ∨ r = 24) (hC : fcC σ w a) (hi : i < 300) (e1 : qI σ (r + 1) i = nI o) (e2 : qI σ (r + 2) i = nI l) (e3 : qI σ (r + 3) i = nI x) (ho : 18 ≤ o ∧ o ≤ 20) (hl : l < 10022) (hx : x < 10022) : PE d al MX4_compares [.ref r, .int (nI i), .ref w] σ (some (.int (bI (cmF (qI σ a) (o, l, x) = true)))) σ := by
  obtain ⟨r0, ⟨r1, r2, r3, -⟩, ⟨i1, i2, i3, -⟩, ⟨l1, l2, l3, -⟩⟩ := rl_f hS hr
  have hw := hC.1
  have s18 : nI o = 18 ↔ o = 18 := nI_eq (by omega) (by decide)
  have s20 : nI o = 20 ↔ o = 20 := nI_eq (by omega) (by decide)
  have c18 : o = 18 → (cmF (qI σ a) (o, l, x) = true ↔ fv (qI σ a) l < fv (qI σ a) x) := fun z => by
    show ((if o = 18 then _ else _) = true) ↔ _
    rw [if_pos z, decide_eq_true_iff]
  have c20 : o = 20 → (cmF (qI σ a) (o, l, x) = true ↔ fv (qI σ a) x < fv (qI σ a) l) := fun z => by
    show ((if o = 18 then _ else if o = 20 then _ else _) = true) ↔ _
    rw [if_neg (by omega), if_pos z, decide_eq_true_iff]
  have c19 : ¬ o = 18 → ¬ o = 20 → (cmF (qI σ a) (o, l, x) = true ↔ fv (qI σ a) l = fv (qI σ a) x) := fun z y => by
    show ((if o = 18 then _ else if o = 20 then _ else _) = true) ↔ _
    rw [if_neg z, if_neg y, decide_eq_true_iff]
  show PW _ _ _ _ _ _ _ _
  refine pw_aload_n dX4_compares_0 rfl ?_
  refine pw_aload_n dX4_compares_1 rfl ?_
  refine pw_getF dX4_compares_2 flX4_15 rfl r0 r2 ?_
  refine pw_iload_n dX4_compares_5 rfl ?_
  refine pw_iald dX4_compares_6 i2 rfl (by rw [l2]; exact hi) (by omega) ?_
  rw [e2]
  refine pw_cV1 (d1 := d - 1) (a1 := 0) (a2 := al) dX4_compares_7 mtX2_value ivX2_value mlX4_39 (Nat.le_of_ble_eq_true rfl) (Nat.le_of_ble_eq_true rfl) (by omega) (by omega) hw rfl rfl (t_value hC hl) ?_
  rintro r_ τ_ ⟨hr_, ht_⟩; subst r_; subst τ_
  refine pw_istore_n dX4_compares_10 (Nat.le_of_ble_eq_true rfl) (Nat.le_of_ble_eq_true rfl) rfl ?_
  refine pw_aload_n dX4_compares_11 rfl ?_
  refine pw_aload_n dX4_compares_12 rfl ?_
  refine pw_getF dX4_compares_13 flX4_18 rfl r0 r3 ?_
  refine pw_iload_n dX4_compares_16 rfl ?_
  refine pw_iald dX4_compares_17 i3 rfl (by rw [l3]; exact hi) (by omega) ?_
  rw [e3]
  refine pw_cV1 (d1 := d - 1) (a1 := 0) (a2 := al) dX4_compares_18 mtX2_value ivX2_value mlX4_39 (Nat.le_of_ble_eq_true rfl) (Nat.le_of_ble_eq_true rfl) (by omega) (by omega) hw rfl rfl (t_value hC hx) ?_
  rintro r_ τ_ ⟨hr_, ht_⟩; subst r_; subst τ_
  refine pw_istore dX4_compares_21 (Nat.le_of_ble_eq_true rfl) (Nat.le_of_ble_eq_true rfl) rfl ?_
  refine pw_aload_n dX4_compares_23 rfl ?_
  refine pw_getF dX4_compares_24 flX4_11 rfl r0 r1 ?_
  refine pw_iload_n dX4_compares_27 rfl ?_
  refine pw_iald dX4_compares_28 i1 rfl (by rw [l1]; exact hi) (by omega) ?_
  rw [e1]
  by_cases w29_18 : nI o = 18
  · rw [w29_18]
    refine pw_lsw (off := 27) (tgt := 56) dX4_compares_29 (by decide) (by decide) (by decide) ?_
    refine pw_iload_n dX4_compares_56 rfl ?_
    refine pw_iload dX4_compares_57 rfl ?_
    refine pw_icmp_ge (tgt := 66) dX4_compares_59 (by decide) (fun h59 => ?_) (fun h59 => ?_)
    · refine pw_iconst (v := 0) dX4_compares_66 (by decide) ?_
      refine pw_iret dX4_compares_67 rfl (by first | rfl | exact bI_nar) ?_
      first | exact ⟨by rw [bI_f (fun z => by have := (c18 (s18.mp w29_18)).mp z; exact absurd h59 (Int32.not_le.mpr this))], rfl⟩ | exact ⟨by rw [bI_t ((c18 (s18.mp w29_18)).mpr (Int32.not_le.mp h59))], rfl⟩
    · refine pw_iconst (v := 1) dX4_compares_62 (by decide) ?_
      refine pw_goto (tgt := 67) dX4_compares_63 (by decide) ?_
      refine pw_iret dX4_compares_67 rfl (by first | rfl | exact bI_nar) ?_
      first | exact ⟨by rw [bI_f (fun z => by have := (c18 (s18.mp w29_18)).mp z; exact absurd h59 (Int32.not_le.mpr this))], rfl⟩ | exact ⟨by rw [bI_t ((c18 (s18.mp w29_18)).mpr (Int32.not_le.mp h59))], rfl⟩
  by_cases w29_20 : nI o = 20
  · rw [w29_20]
    refine pw_lsw (off := 39) (tgt := 68) dX4_compares_29 (by decide) (by decide) (by decide) ?_
    refine pw_iload_n dX4_compares_68 rfl ?_
    refine pw_iload dX4_compares_69 rfl ?_
    refine pw_icmp_le (tgt := 78) dX4_compares_71 (by decide) (fun h71 => ?_) (fun h71 => ?_)
    · refine pw_iconst (v := 0) dX4_compares_78 (by decide) ?_
      refine pw_iret dX4_compares_79 rfl (by first | rfl | exact bI_nar) ?_
      first | exact ⟨by rw [bI_f (fun z => by have := (c20 (s20.mp w29_20)).mp z; exact absurd h71 (Int32.not_le.mpr this))], rfl⟩ | exact ⟨by rw [bI_t ((c20 (s20.mp w29_20)).mpr (Int32.not_le.mp h71))], rfl⟩
    · refine pw_iconst (v := 1) dX4_compares_74 (by decide) ?_
      refine pw_goto (tgt := 79) dX4_compares_75 (by decide) ?_
      refine pw_iret dX4_compares_79 rfl (by first | rfl | exact bI_nar) ?_
      first | exact ⟨by rw [bI_f (fun z => by have := (c20 (s20.mp w29_20)).mp z; exact absurd h71 (Int32.not_le.mpr this))], rfl⟩ | exact ⟨by rw [bI_t ((c20 (s20.mp w29_20)).mpr (Int32.not_le.mp h71))], rfl⟩
  refine pw_lsw (off := 51) (tgt := 80) dX4_compares_29 (by decide) (by have a0 := sw_ne w29_18 (z := 18) rfl; have a1 := sw_ne w29_20 (z := 20) rfl; simp [Op.lookupswitch.offset, a0, a1, Ne.symm a0, Ne.symm a1]) (by decide) ?_
  refine pw_iload_n dX4_compares_80 rfl ?_
  refine pw_iload dX4_compares_81 rfl ?_
  refine pw_icmp_ne (tgt := 90) dX4_compares_83 (by decide) (fun h83 => ?_) (fun h83 => ?_)
  · refine pw_iconst (v := 0) dX4_compares_90 (by decide) ?_
    refine pw_iret dX4_compares_91 rfl (by first | rfl | exact bI_nar) ?_
    first | exact ⟨by rw [bI_f (fun z => h83 ((c19 (fun y => w29_18 (s18.mpr y)) (fun y => w29_20 (s20.mpr y))).mp z))], rfl⟩ | exact ⟨by rw [bI_t ((c19 (fun y => w29_18 (s18.mpr y)) (fun y => w29_20 (s20.mpr y))).mpr h83)], rfl⟩
  · refine pw_iconst (v := 1) dX4_compares_86 (by decide) ?_
    refine pw_goto (tgt := 91) dX4_compares_87 (by decide) ?_
    refine pw_iret dX4_compares_91 rfl (by first | rfl | exact bI_nar) ?_
    first | exact ⟨by rw [bI_f (fun z => h83 ((c19 (fun y => w29_18 (s18.mpr y)) (fun y => w29_20 (s20.mpr y))).mp z))], rfl⟩ | exact ⟨by rw [bI_t ((c19 (fun y => w29_18 (s18.mpr y)) (fun y => w29_20 (s20.mpr y))).mpr h83)], rfl⟩
theorem drop_c {α : Type} {S : List α} {i : Nat} {x d : α} {xs : List α} (h : S.drop i = x :: xs) : i < S.length ∧ S.getD i d = x ∧ S.drop (i + 1) = xs := by
  have h0 : S[i]? = some x := by
    have : (S.drop i)[0]? = some x := by rw [h]; rfl
    rw [List.getElem?_drop] at this
    exact this
  refine ⟨(List.getElem?_eq_some_iff.mp h0).1, ?_, ?_⟩
  · rw [List.getD_eq_getElem?_getD, h0]; rfl
  · have h1 : (S.drop i).drop 1 = xs := by rw [h]; rfl
    rw [List.drop_drop] at h1
    exact h1
theorem t_holds_lp {d al w a r q : Nat} {σ : pm_S} {S : List stp} {b : Bool} (fr : Int32) (hd : 2 ≤ d) (hS : pm_fix σ) (hr : r = 19 ∨ r = 24) (hC : fcC σ w a) (hst : stS σ r S) (hl : S.length ≤ 300) : ∀ (s : List stp) (i : Nat) (K : List Bool) (rest : List stp), S.drop i = s ++ rest → (∀ x ∈ s, wfs x) → ev 30 (cmF (qI σ a)) s K = some [b] → K.length ≤ 30 → i + s.length = q → PW d al MX4_holds 6 [.ref r, .int fr, .int (nI q), .ref w, .int (nI (enc K)), .int (nI i)] [] σ (fun v τ => v = some (.int (bI (b = true))) ∧ τ = σ) := by
  obtain ⟨r0, ⟨r1, r2, r3, -⟩, ⟨i1, i2, i3, -⟩, ⟨l1, l2, l3, -⟩⟩ := rl_f hS hr
  intro s
  induction s with
  | nil =>
    intro i K rest hdr hwf he hK hi
    have hi : i = q := hi
    subst hi
    have hKb : K = [b] := by
      have he : some K = some [b] := he
      injection he
    subst hKb
    have e1 := enc_bit (b := b) (K := [])
    refine pw_iload dX4_holds_6 rfl ?_
    refine pw_iload_n dX4_holds_8 rfl ?_
    refine pw_icmp_ge (tgt := 118) dX4_holds_9 (by decide) (fun h9 => ?_) (fun h9 => ?_)
    · refine pw_iload dX4_holds_118 rfl ?_
      refine pw_iconst (v := 1) dX4_holds_120 (by decide) ?_
      refine pw_iand dX4_holds_121 ?_
      rw [e1]
      refine pw_if_eq (tgt := 129) dX4_holds_122 (by decide) (fun h122 => ?_) (fun h122 => ?_)
      · refine pw_iconst (v := 0) dX4_holds_129 (by decide) ?_
        refine pw_iret dX4_holds_130 rfl (by first | rfl | exact bI_nar) ?_
        first | exact ⟨by rw [bI_f (bI_0.mp h122)], rfl⟩ | exact ⟨by rw [bI_t (bI_n.mp h122)], rfl⟩
      · refine pw_iconst (v := 1) dX4_holds_125 (by decide) ?_
        refine pw_goto (tgt := 130) dX4_holds_126 (by decide) ?_
        refine pw_iret dX4_holds_130 rfl (by first | rfl | exact bI_nar) ?_
        first | exact ⟨by rw [bI_f (bI_0.mp h122)], rfl⟩ | exact ⟨by rw [bI_t (bI_n.mp h122)], rfl⟩
    · exact absurd (Int32.le_refl _) h9
  | cons x s ih =>
    intro i K rest hdr hwf he hK hi
    obtain ⟨d1, d2, d3⟩ := drop_c (d := (0, 0, 0)) hdr
    obtain ⟨g1, g2, g3⟩ := hst.2 i d1
    rw [d2] at g1 g2 g3
    have hi : i + (s.length + 1) = q := hi
    have hi3 : i < 300 := by omega
    have hq3 : q ≤ 300 := by
      have := congrArg List.length hdr
      rw [List.length_drop, List.length_append, List.length_cons] at this
      omega
    have hwx := hwf x List.mem_cons_self
    have hws : ∀ y ∈ s, wfs y := fun y hy => hwf y (List.mem_cons_of_mem _ hy)
    have he : (evS 30 (cmF (qI σ a)) x K).bind (ev 30 (cmF (qI σ a)) s) = some [b] := he
    obtain ⟨o, l, y⟩ := x
    rcases hwx with h1 | h1 | h1 | h1
    · have h1 : o = 1 := h1
      subst h1
      have g1 : qI σ (r + 1) i = nI 1 := g1
      cases K with
      | nil => exact nomatch he
      | cons p K =>
        cases K with
        | nil => exact nomatch he
        | cons p' K =>
          have hK : K.length + 1 + 1 ≤ 30 := hK
          have hh := ih (i + 1) ((p' || p) :: K) rest d3 hws he (by show K.length + 1 ≤ 30; omega) (by omega)
          rw [nI_succ, ← enc_or (by omega)] at hh
          refine pw_iload dX4_holds_6 rfl ?_
          refine pw_iload_n dX4_holds_8 rfl ?_
          refine pw_icmp_ge (tgt := 118) dX4_holds_9 (by decide) (fun h9 => ?_) (fun h9 => ?_)
          · exact absurd h9 (nI_ge (show i < q by omega) (by omega))
          · refine pw_iload dX4_holds_12 rfl ?_
            refine pw_sipush (v := 300) dX4_holds_14 (by decide) ?_
            refine pw_icmp_ge (tgt := 118) dX4_holds_17 (by decide) (fun h17 => ?_) (fun h17 => ?_)
            · exact absurd h17 (nI_ge hi3 (by decide))
            · refine pw_aload_n dX4_holds_20 rfl ?_
              refine pw_getF dX4_holds_21 flX4_11 rfl r0 r1 ?_
              refine pw_iload dX4_holds_24 rfl ?_
              refine pw_iald dX4_holds_26 i1 rfl (by rw [l1]; exact hi3) (by omega) ?_
              rw [g1]
              refine pw_tsIn (off := 49) (tgt := 76) dX4_holds_27 (by decide) (by decide) (by decide) (by decide) ?_
              refine pw_iload dX4_holds_76 rfl ?_
              refine pw_iconst (v := 1) dX4_holds_78 (by decide) ?_
              refine pw_iushr dX4_holds_79 ?_
              refine pw_iload dX4_holds_80 rfl ?_
              refine pw_iconst (v := 1) dX4_holds_82 (by decide) ?_
              refine pw_iand dX4_holds_83 ?_
              refine pw_ior dX4_holds_84 ?_
              refine pw_istore dX4_holds_85 (Nat.le_of_ble_eq_true rfl) (Nat.le_of_ble_eq_true rfl) rfl ?_
              refine pw_goto (tgt := 112) dX4_holds_87 (by decide) ?_
              refine pw_iinc1 dX4_holds_112 rfl (Nat.le_of_ble_eq_true rfl) (Nat.le_of_ble_eq_true rfl) rfl ?_
              refine pw_goto (tgt := 6) dX4_holds_115 (by decide) ?_
              exact hh
    · have h1 : o = 2 := h1
      subst h1
      have g1 : qI σ (r + 1) i = nI 2 := g1
      cases K with
      | nil => exact nomatch he
      | cons p K =>
        cases K with
        | nil => exact nomatch he
        | cons p' K =>
          have hK : K.length + 1 + 1 ≤ 30 := hK
          have hh := ih (i + 1) ((p' && p) :: K) rest d3 hws he (by show K.length + 1 ≤ 30; omega) (by omega)
          rw [nI_succ, ← enc_and (by omega)] at hh
          refine pw_iload dX4_holds_6 rfl ?_
          refine pw_iload_n dX4_holds_8 rfl ?_
          refine pw_icmp_ge (tgt := 118) dX4_holds_9 (by decide) (fun h9 => ?_) (fun h9 => ?_)
          · exact absurd h9 (nI_ge (show i < q by omega) (by omega))
          · refine pw_iload dX4_holds_12 rfl ?_
            refine pw_sipush (v := 300) dX4_holds_14 (by decide) ?_
            refine pw_icmp_ge (tgt := 118) dX4_holds_17 (by decide) (fun h17 => ?_) (fun h17 => ?_)
            · exact absurd h17 (nI_ge hi3 (by decide))
            · refine pw_aload_n dX4_holds_20 rfl ?_
              refine pw_getF dX4_holds_21 flX4_11 rfl r0 r1 ?_
              refine pw_iload dX4_holds_24 rfl ?_
              refine pw_iald dX4_holds_26 i1 rfl (by rw [l1]; exact hi3) (by omega) ?_
              rw [g1]
              refine pw_tsIn (off := 34) (tgt := 61) dX4_holds_27 (by decide) (by decide) (by decide) (by decide) ?_
              refine pw_iload dX4_holds_61 rfl ?_
              refine pw_iconst (v := 1) dX4_holds_63 (by decide) ?_
              refine pw_iushr dX4_holds_64 ?_
              refine pw_iload dX4_holds_65 rfl ?_
              refine pw_bipush (v := (-2)) dX4_holds_67 (by decide) ?_
              refine pw_ior dX4_holds_69 ?_
              refine pw_iand dX4_holds_70 ?_
              refine pw_istore dX4_holds_71 (Nat.le_of_ble_eq_true rfl) (Nat.le_of_ble_eq_true rfl) rfl ?_
              refine pw_goto (tgt := 112) dX4_holds_73 (by decide) ?_
              refine pw_iinc1 dX4_holds_112 rfl (Nat.le_of_ble_eq_true rfl) (Nat.le_of_ble_eq_true rfl) rfl ?_
              refine pw_goto (tgt := 6) dX4_holds_115 (by decide) ?_
              exact hh
    · have h1 : o = 3 := h1
      subst h1
      have g1 : qI σ (r + 1) i = nI 3 := g1
      cases K with
      | nil => exact nomatch he
      | cons p K =>
        have hh := ih (i + 1) ((!p) :: K) rest d3 hws he hK (by omega)
        rw [nI_succ, ← enc_not] at hh
        refine pw_iload dX4_holds_6 rfl ?_
        refine pw_iload_n dX4_holds_8 rfl ?_
        refine pw_icmp_ge (tgt := 118) dX4_holds_9 (by decide) (fun h9 => ?_) (fun h9 => ?_)
        · exact absurd h9 (nI_ge (show i < q by omega) (by omega))
        · refine pw_iload dX4_holds_12 rfl ?_
          refine pw_sipush (v := 300) dX4_holds_14 (by decide) ?_
          refine pw_icmp_ge (tgt := 118) dX4_holds_17 (by decide) (fun h17 => ?_) (fun h17 => ?_)
          · exact absurd h17 (nI_ge hi3 (by decide))
          · refine pw_aload_n dX4_holds_20 rfl ?_
            refine pw_getF dX4_holds_21 flX4_11 rfl r0 r1 ?_
            refine pw_iload dX4_holds_24 rfl ?_
            refine pw_iald dX4_holds_26 i1 rfl (by rw [l1]; exact hi3) (by omega) ?_
            rw [g1]
            refine pw_tsIn (off := 25) (tgt := 52) dX4_holds_27 (by decide) (by decide) (by decide) (by decide) ?_
            refine pw_iload dX4_holds_52 rfl ?_
            refine pw_iconst (v := 1) dX4_holds_54 (by decide) ?_
            refine pw_ixor dX4_holds_55 ?_
            refine pw_istore dX4_holds_56 (Nat.le_of_ble_eq_true rfl) (Nat.le_of_ble_eq_true rfl) rfl ?_
            refine pw_goto (tgt := 112) dX4_holds_58 (by decide) ?_
            refine pw_iinc1 dX4_holds_112 rfl (Nat.le_of_ble_eq_true rfl) (Nat.le_of_ble_eq_true rfl) rfl ?_
            refine pw_goto (tgt := 6) dX4_holds_115 (by decide) ?_
            exact hh
    · obtain ⟨h1, h2, h3, h4⟩ : 18 ≤ o ∧ o ≤ 20 ∧ l < 10022 ∧ y < 10022 := h1
      by_cases hK2 : K.length < 30
      · rw [evS_cmp (s := (o, l, y)) h1 hK2] at he
        have hh := ih (i + 1) (cmF (qI σ a) (o, l, y) :: K) rest d3 hws he (by show K.length + 1 ≤ 30; omega) (by omega)
        rw [nI_succ, ← enc_push] at hh
        have hc := t_compares (d := d - 1) (al := 0) (by omega) hS hr hC hi3 g1 g2 g3 ⟨h1, h2⟩ h3 h4
        have hto : (nI o).toInt < 1 ∨ 3 < (nI o).toInt := by rw [nI_toInt (by omega)]; omega
        by_cases hz : cmF (qI σ a) (o, l, y) = true
        · rw [bI_t hz] at hh hc
          refine pw_iload dX4_holds_6 rfl ?_
          refine pw_iload_n dX4_holds_8 rfl ?_
          refine pw_icmp_ge (tgt := 118) dX4_holds_9 (by decide) (fun h9 => ?_) (fun h9 => ?_)
          · exact absurd h9 (nI_ge (show i < q by omega) (by omega))
          · refine pw_iload dX4_holds_12 rfl ?_
            refine pw_sipush (v := 300) dX4_holds_14 (by decide) ?_
            refine pw_icmp_ge (tgt := 118) dX4_holds_17 (by decide) (fun h17 => ?_) (fun h17 => ?_)
            · exact absurd h17 (nI_ge hi3 (by decide))
            · refine pw_aload_n dX4_holds_20 rfl ?_
              refine pw_getF dX4_holds_21 flX4_11 rfl r0 r1 ?_
              refine pw_iload dX4_holds_24 rfl ?_
              refine pw_iald dX4_holds_26 i1 rfl (by rw [l1]; exact hi3) (by omega) ?_
              rw [g1]
              refine pw_tsOut (tgt := 90) dX4_holds_27 (hto) (by decide) ?_
              refine pw_iload dX4_holds_90 rfl ?_
              refine pw_iconst (v := 1) dX4_holds_92 (by decide) ?_
              refine pw_ishl dX4_holds_93 ?_
              refine pw_aload_n dX4_holds_94 rfl ?_
              refine pw_iload dX4_holds_95 rfl ?_
              refine pw_aload_n dX4_holds_97 rfl ?_
              refine pw_cV2 (d1 := d - 1) (a1 := 0) (a2 := al) dX4_holds_98 mtX4_compares ivX4_compares mlX4_35 (Nat.le_of_ble_eq_true rfl) (Nat.le_of_ble_eq_true rfl) (by omega) (by omega) r0 rfl rfl (hc) ?_
              rintro r_ τ_ ⟨hr_, ht_⟩; subst r_; subst τ_
              refine pw_if_eq (tgt := 108) dX4_holds_101 (by decide) (fun h101 => ?_) (fun h101 => ?_)
              · exact absurd h101 (by decide)
              · refine pw_iconst (v := 1) dX4_holds_104 (by decide) ?_
                refine pw_goto (tgt := 109) dX4_holds_105 (by decide) ?_
                refine pw_ior dX4_holds_109 ?_
                refine pw_istore dX4_holds_110 (Nat.le_of_ble_eq_true rfl) (Nat.le_of_ble_eq_true rfl) rfl ?_
                refine pw_iinc1 dX4_holds_112 rfl (Nat.le_of_ble_eq_true rfl) (Nat.le_of_ble_eq_true rfl) rfl ?_
                refine pw_goto (tgt := 6) dX4_holds_115 (by decide) ?_
                exact hh
        · rw [bI_f hz] at hh hc
          refine pw_iload dX4_holds_6 rfl ?_
          refine pw_iload_n dX4_holds_8 rfl ?_
          refine pw_icmp_ge (tgt := 118) dX4_holds_9 (by decide) (fun h9 => ?_) (fun h9 => ?_)
          · exact absurd h9 (nI_ge (show i < q by omega) (by omega))
          · refine pw_iload dX4_holds_12 rfl ?_
            refine pw_sipush (v := 300) dX4_holds_14 (by decide) ?_
            refine pw_icmp_ge (tgt := 118) dX4_holds_17 (by decide) (fun h17 => ?_) (fun h17 => ?_)
            · exact absurd h17 (nI_ge hi3 (by decide))
            · refine pw_aload_n dX4_holds_20 rfl ?_
              refine pw_getF dX4_holds_21 flX4_11 rfl r0 r1 ?_
              refine pw_iload dX4_holds_24 rfl ?_
              refine pw_iald dX4_holds_26 i1 rfl (by rw [l1]; exact hi3) (by omega) ?_
              rw [g1]
              refine pw_tsOut (tgt := 90) dX4_holds_27 (hto) (by decide) ?_
              refine pw_iload dX4_holds_90 rfl ?_
              refine pw_iconst (v := 1) dX4_holds_92 (by decide) ?_
              refine pw_ishl dX4_holds_93 ?_
              refine pw_aload_n dX4_holds_94 rfl ?_
              refine pw_iload dX4_holds_95 rfl ?_
              refine pw_aload_n dX4_holds_97 rfl ?_
              refine pw_cV2 (d1 := d - 1) (a1 := 0) (a2 := al) dX4_holds_98 mtX4_compares ivX4_compares mlX4_35 (Nat.le_of_ble_eq_true rfl) (Nat.le_of_ble_eq_true rfl) (by omega) (by omega) r0 rfl rfl (hc) ?_
              rintro r_ τ_ ⟨hr_, ht_⟩; subst r_; subst τ_
              refine pw_if_eq (tgt := 108) dX4_holds_101 (by decide) (fun h101 => ?_) (fun h101 => ?_)
              · refine pw_iconst (v := 0) dX4_holds_108 (by decide) ?_
                refine pw_ior dX4_holds_109 ?_
                refine pw_istore dX4_holds_110 (Nat.le_of_ble_eq_true rfl) (Nat.le_of_ble_eq_true rfl) rfl ?_
                refine pw_iinc1 dX4_holds_112 rfl (Nat.le_of_ble_eq_true rfl) (Nat.le_of_ble_eq_true rfl) rfl ?_
                refine pw_goto (tgt := 6) dX4_holds_115 (by decide) ?_
                exact hh
              · exact absurd rfl h101
      · exfalso
        have : evS 30 (cmF (qI σ a)) (o, l, y) K = none := by
          unfold evS
          rw [if_neg (show ¬ o = 3 by omega), if_neg (show ¬ o = 2 by omega), if_neg (show ¬ o = 1 by omega), if_neg hK2]
        rw [this] at he
        exact nomatch he
theorem t_holds {d al w a r i q : Nat} {σ : pm_S} {S s rest : List stp} (hd : 2 ≤ d) (hS : pm_fix σ) (hr : r = 19 ∨ r = 24) (hC : fcC σ w a) (hst : stS σ r S) (hl : S.length ≤ 300) (hdr : S.drop i = s ++ rest) (hg : GE 30 s) (hq : i + s.length = q) : PE d al MX4_holds [.ref r, .int (nI i), .int (nI q), .ref w] σ (some (.int (bI (gB (cmF (qI σ a)) s = true)))) σ := by
  obtain ⟨b, hb⟩ := hg.2 30 (cmF (qI σ a)) [] (Nat.le_refl _)
  rw [gB_of hb]
  show PW _ _ _ _ _ _ _ _
  refine pw_iconst (v := 0) dX4_holds_0 (by decide) ?_
  refine pw_istore dX4_holds_1 (Nat.le_of_ble_eq_true rfl) (Nat.le_of_ble_eq_true rfl) rfl ?_
  refine pw_iload_n dX4_holds_3 rfl ?_
  refine pw_istore dX4_holds_4 (Nat.le_of_ble_eq_true rfl) (Nat.le_of_ble_eq_true rfl) rfl ?_
  exact t_holds_lp (nI i) hd hS hr hC hst hl s i [] rest hdr hg.1 hb (Nat.zero_le _) hq
theorem fl_cut {α : Type} (rs : List (List α)) (m : Nat) : rs.flatten = (rs.take m).flatten ++ (rs.drop m).flatten := by
  rw [← List.flatten_append, List.take_append_drop]
theorem fl_drop {α : Type} (rs : List (List α)) (m : Nat) : rs.flatten.drop (rs.take m).flatten.length = (rs.drop m).flatten := by
  have h := fl_cut rs m
  have h2 : rs.flatten.drop (rs.take m).flatten.length = ((rs.take m).flatten ++ (rs.drop m).flatten).drop (rs.take m).flatten.length := by rw [← h]
  rw [h2, List.drop_left]
theorem take_s {α : Type} {rs : List (List α)} {m : Nat} {s : List α} {rest : List (List α)} (h : rs.drop m = s :: rest) : (rs.take (m + 1)).flatten.length = (rs.take m).flatten.length + s.length := by
  obtain ⟨h1, h2, h3⟩ := drop_c (d := []) h
  have h4 : rs.take (m + 1) = rs.take m ++ [s] := by
    rw [List.take_add_one]
    have : rs[m]? = some s := by
      have : (rs.drop m)[0]? = some s := by rw [h]; rfl
      rw [List.getElem?_drop] at this
      exact this
    rw [this]; rfl
  rw [h4, List.flatten_append, List.length_append]
  simp
theorem t_first_lp {d al w a r : Nat} {σ : pm_S} {rs : List (List stp)} (hd : 3 ≤ d) (hS : pm_fix σ) (hr : r = 19 ∨ r = 24) (hC : fcC σ w a) (hst : stS σ r rs.flatten) (hru : ruS σ r rs) (hl : rs.flatten.length ≤ 300) (hn : rs.length ≤ 12) (hg : ∀ s ∈ rs, GE 30 s) : ∀ (us : List (List stp)) (m : Nat), m < 2 ^ 31 → rs.drop m = us → PW d al MX4_firstThatBars 4 [.ref r, .ref w, .int (nI (rs.take m).flatten.length), .int (nI m)] [] σ (fun v τ => v = some (.int (fB (cmF (qI σ a)) us m)) ∧ τ = σ) := by
  obtain ⟨r0, ⟨-, -, -, r4⟩, ⟨-, -, -, i4⟩, ⟨-, -, -, l4⟩⟩ := rl_f hS hr
  intro us
  induction us with
  | nil =>
    intro m hm3 hm
    have hm2 : rs.length ≤ m := List.drop_eq_nil_iff.mp hm
    have hk := hru.1
    refine pw_iload_n dX4_firstThatBars_4 rfl ?_
    refine pw_aload_n dX4_firstThatBars_5 rfl ?_
    refine pw_getI dX4_firstThatBars_6 flX4_24 rfl r0 ?_
    rw [hk]
    refine pw_icmp_ge (tgt := 42) dX4_firstThatBars_9 (by decide) (fun h9 => ?_) (fun h9 => ?_)
    · refine pw_iconst (v := (-1)) dX4_firstThatBars_42 (by decide) ?_
      refine pw_iret dX4_firstThatBars_43 rfl rfl ?_
      exact ⟨rfl, rfl⟩
    · exact absurd (nI_le hm2 hm3) h9
  | cons s us ih =>
    intro m hm3 hm
    obtain ⟨d1, d2, d3⟩ := drop_c (d := []) hm
    have hh := ih (m + 1) (by omega) d3
    have hk := hru.1
    have he := hru.2 m d1
    rw [take_s hm] at he hh
    have hfl := fl_drop rs m
    rw [hm] at hfl
    have hmem : s ∈ rs := List.mem_of_mem_drop (by rw [hm]; exact List.mem_cons_self)
    have hc := t_holds (d := d - 1) (al := 0) (by omega) hS hr hC hst hl (i := (rs.take m).flatten.length) (q := (rs.take m).flatten.length + s.length) hfl (hg s hmem) rfl
    rw [nI_succ] at hh
    show PW _ _ _ _ _ _ _ (fun v τ => v = some (.int (if gB (cmF (qI σ a)) s = true then nI m else fB (cmF (qI σ a)) us (m + 1))) ∧ τ = σ)
    by_cases z : gB (cmF (qI σ a)) s = true
    · rw [if_pos z]
      rw [bI_t z] at hc
      refine pw_iload_n dX4_firstThatBars_4 rfl ?_
      refine pw_aload_n dX4_firstThatBars_5 rfl ?_
      refine pw_getI dX4_firstThatBars_6 flX4_24 rfl r0 ?_
      rw [hk]
      refine pw_icmp_ge (tgt := 42) dX4_firstThatBars_9 (by decide) (fun h9 => ?_) (fun h9 => ?_)
      · exact absurd h9 (nI_ge (show m < rs.length by omega) (by omega))
      · refine pw_aload_n dX4_firstThatBars_12 rfl ?_
        refine pw_iload_n dX4_firstThatBars_13 rfl ?_
        refine pw_aload_n dX4_firstThatBars_14 rfl ?_
        refine pw_getF dX4_firstThatBars_15 flX4_21 rfl r0 r4 ?_
        refine pw_iload_n dX4_firstThatBars_18 rfl ?_
        refine pw_iald dX4_firstThatBars_19 i4 rfl (by rw [l4]; omega) (by omega) ?_
        rw [he]
        refine pw_aload_n dX4_firstThatBars_20 rfl ?_
        refine pw_cV3 (d1 := d - 1) (a1 := 0) (a2 := al) dX4_firstThatBars_21 mtX4_holds ivX4_holds mlX4_31 (Nat.le_of_ble_eq_true rfl) (Nat.le_of_ble_eq_true rfl) (by omega) (by omega) r0 rfl rfl (hc) ?_
        rintro r_ τ_ ⟨hr_, ht_⟩; subst r_; subst τ_
        refine pw_if_eq (tgt := 29) dX4_firstThatBars_24 (by decide) (fun h24 => ?_) (fun h24 => ?_)
        · exact absurd h24 (by decide)
        · refine pw_iload_n dX4_firstThatBars_27 rfl ?_
          refine pw_iret dX4_firstThatBars_28 rfl rfl ?_
          exact ⟨rfl, rfl⟩
    · rw [if_neg z]
      rw [bI_f z] at hc
      refine pw_iload_n dX4_firstThatBars_4 rfl ?_
      refine pw_aload_n dX4_firstThatBars_5 rfl ?_
      refine pw_getI dX4_firstThatBars_6 flX4_24 rfl r0 ?_
      rw [hk]
      refine pw_icmp_ge (tgt := 42) dX4_firstThatBars_9 (by decide) (fun h9 => ?_) (fun h9 => ?_)
      · exact absurd h9 (nI_ge (show m < rs.length by omega) (by omega))
      · refine pw_aload_n dX4_firstThatBars_12 rfl ?_
        refine pw_iload_n dX4_firstThatBars_13 rfl ?_
        refine pw_aload_n dX4_firstThatBars_14 rfl ?_
        refine pw_getF dX4_firstThatBars_15 flX4_21 rfl r0 r4 ?_
        refine pw_iload_n dX4_firstThatBars_18 rfl ?_
        refine pw_iald dX4_firstThatBars_19 i4 rfl (by rw [l4]; omega) (by omega) ?_
        rw [he]
        refine pw_aload_n dX4_firstThatBars_20 rfl ?_
        refine pw_cV3 (d1 := d - 1) (a1 := 0) (a2 := al) dX4_firstThatBars_21 mtX4_holds ivX4_holds mlX4_31 (Nat.le_of_ble_eq_true rfl) (Nat.le_of_ble_eq_true rfl) (by omega) (by omega) r0 rfl rfl (hc) ?_
        rintro r_ τ_ ⟨hr_, ht_⟩; subst r_; subst τ_
        refine pw_if_eq (tgt := 29) dX4_firstThatBars_24 (by decide) (fun h24 => ?_) (fun h24 => ?_)
        · refine pw_aload_n dX4_firstThatBars_29 rfl ?_
          refine pw_getF dX4_firstThatBars_30 flX4_21 rfl r0 r4 ?_
          refine pw_iload_n dX4_firstThatBars_33 rfl ?_
          refine pw_iald dX4_firstThatBars_34 i4 rfl (by rw [l4]; omega) (by omega) ?_
          rw [he]
          refine pw_istore_n dX4_firstThatBars_35 (Nat.le_of_ble_eq_true rfl) (Nat.le_of_ble_eq_true rfl) rfl ?_
          refine pw_iinc1 dX4_firstThatBars_36 rfl (Nat.le_of_ble_eq_true rfl) (Nat.le_of_ble_eq_true rfl) rfl ?_
          refine pw_goto (tgt := 4) dX4_firstThatBars_39 (by decide) ?_
          exact hh
        · exact absurd rfl h24
theorem t_first {d al w a r : Nat} {σ : pm_S} {rs : List (List stp)} (hd : 3 ≤ d) (hS : pm_fix σ) (hr : r = 19 ∨ r = 24) (hC : fcC σ w a) (hst : stS σ r rs.flatten) (hru : ruS σ r rs) (hl : rs.flatten.length ≤ 300) (hn : rs.length ≤ 12) (hg : ∀ s ∈ rs, GE 30 s) : PE d al MX4_firstThatBars [.ref r, .ref w] σ (some (.int (fB (cmF (qI σ a)) rs 0))) σ := by
  show PW _ _ _ _ _ _ _ _
  refine pw_iconst (v := 0) dX4_firstThatBars_0 (by decide) ?_
  refine pw_istore_n dX4_firstThatBars_1 (Nat.le_of_ble_eq_true rfl) (Nat.le_of_ble_eq_true rfl) rfl ?_
  refine pw_iconst (v := 0) dX4_firstThatBars_2 (by decide) ?_
  refine pw_istore_n dX4_firstThatBars_3 (Nat.le_of_ble_eq_true rfl) (Nat.le_of_ble_eq_true rfl) rfl ?_
  exact t_first_lp hd hS hr hC hst hru hl hn hg rs 0 (by decide) rfl
