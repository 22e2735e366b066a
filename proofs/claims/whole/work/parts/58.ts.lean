/-! ===== the class: sets ===== -/
/-- the thing of a kind, as a reference -/
def tr (σ : pm_S) (T : Nat → Option Nat) (k : Nat) : Nat := match T k with
  | none => 0
  | some t => qR σ 8 t
theorem tr_n {σ : pm_S} {T : Nat → Option Nat} {k : Nat} (h : T k = none) : tr σ T k = 0 := by unfold tr; rw [h]
theorem tr_s {σ : pm_S} {T : Nat → Option Nat} {k t : Nat} (h : T k = some t) : tr σ T k = qR σ 8 t := by unfold tr; rw [h]
/-- a set's array holds these things -/
def c_ts (σ : pm_S) (a : Nat) (T : Nat → Option Nat) : pm_S := (σ.1, fun b j => if b = a ∧ j < 5 then tr σ T j else σ.2.1 b j, σ.2.2)
def c_z (σ : pm_S) (a i : Nat) : pm_S := (σ.1, fun b j => if b = a ∧ j < i then 0 else σ.2.1 b j, σ.2.2)
def tsC (σ : pm_S) (w a : Nat) : Prop := pm_is σ w 8 ∧ qR σ w 0 = a ∧ pm_is σ a 22 ∧ qL σ a = 5 ∧ w ≠ a ∧ (a = 35 ∨ a = 40)
theorem pm_fix.ts1 {σ : pm_S} (hS : pm_fix σ) : tsC σ 34 35 := ⟨hS.at rfl rfl rfl, hS.rf (34, 0, 35) rfl (by decide), hS.at rfl rfl rfl, hS.ln rfl rfl, by decide, Or.inl rfl⟩
theorem pm_fix.ts2 {σ : pm_S} (hS : pm_fix σ) : tsC σ 39 40 := ⟨hS.at rfl rfl rfl, hS.rf (39, 0, 40) rfl (by decide), hS.at rfl rfl rfl, hS.ln rfl rfl, by decide, Or.inr rfl⟩
theorem c_ts_R {σ : pm_S} {a : Nat} {T : Nat → Option Nat} {b : Nat} (h : b ≠ a) (j : Nat) : qR (c_ts σ a T) b j = qR σ b j := if_neg (fun z => h z.1)
theorem c_ts_a {σ : pm_S} {a : Nat} {T : Nat → Option Nat} {k : Nat} (h : k < 5) : qR (c_ts σ a T) a k = tr σ T k := if_pos ⟨rfl, h⟩
theorem tsC.ts {σ : pm_S} {w a : Nat} {T : Nat → Option Nat} (h : tsC σ w a) : tsC (c_ts σ a T) w a := ⟨h.1, (c_ts_R h.2.2.2.2.1 0).trans h.2.1, h.2.2.1, h.2.2.2.1, h.2.2.2.2⟩
theorem tsC.z {σ : pm_S} {w a i : Nat} (h : tsC σ w a) : tsC (c_z σ a i) w a := ⟨h.1, (show (if w = a ∧ 0 < i then 0 else qR σ w 0) = a by rw [if_neg (fun z => h.2.2.2.2.1 z.1)]; exact h.2.1), h.2.2.1, h.2.2.2.1, h.2.2.2.2⟩
theorem pm_fix.ts {σ : pm_S} {a : Nat} {T : Nat → Option Nat} (h : pm_fix σ) (ha : a = 35 ∨ a = 40) : pm_fix (c_ts σ a T) := by
  refine ⟨h.1, h.2.1, fun q hq => ?_⟩
  have h5 : pm_fin.all (fun q => !(q.1 == 35) && !(q.1 == 40)) = true := by decide
  have h6 := List.all_eq_true.mp h5 q hq
  simp only [Bool.and_eq_true, Bool.not_eq_true', beq_eq_false_iff_ne] at h6
  rw [c_ts_R (by rcases ha with rfl | rfl <;> omega)]
  exact h.2.2 q hq
theorem tr_ts {σ : pm_S} {a : Nat} {T T' : Nat → Option Nat} (ha : a = 35 ∨ a = 40) (k : Nat) : tr (c_ts σ a T) T' k = tr σ T' k := by
  unfold tr
  cases T' k with
  | none => rfl
  | some t => exact c_ts_R (by omega) t
theorem c_ts_ts {σ : pm_S} {a : Nat} {T T' : Nat → Option Nat} (ha : a = 35 ∨ a = 40) : c_ts (c_ts σ a T) a T' = c_ts σ a T' := by
  unfold c_ts
  refine Prod.ext rfl (Prod.ext (funext fun b => funext fun j => ?_) rfl)
  show (if b = a ∧ j < 5 then tr (c_ts σ a T) T' j else if b = a ∧ j < 5 then tr σ T j else σ.2.1 b j) = _
  show _ = if b = a ∧ j < 5 then tr σ T' j else σ.2.1 b j
  rw [tr_ts ha]
  split <;> rfl
def oU (T : Nat → Option Nat) (k t : Nat) : Nat → Option Nat := fun j => if j = k then some t else T j
theorem c_ts_lay {σ : pm_S} {a : Nat} {T : Nat → Option Nat} {k t : Nat} (hk : k < 5) : pm_sR (c_ts σ a T) a k (qR σ 8 t) = c_ts σ a (oU T k t) := by
  unfold c_ts pm_sR
  refine Prod.ext rfl (Prod.ext (funext fun b => funext fun j => ?_) rfl)
  show (if b = a ∧ j = k then qR σ 8 t else if b = a ∧ j < 5 then tr σ T j else σ.2.1 b j) = if b = a ∧ j < 5 then tr σ (oU T k t) j else σ.2.1 b j
  by_cases h1 : b = a ∧ j = k
  · rw [if_pos h1, if_pos ⟨h1.1, by omega⟩, tr_s (t := t) (by unfold oU; rw [if_pos h1.2])]
  · rw [if_neg h1]
    by_cases h2 : b = a ∧ j < 5
    · rw [if_pos h2, if_pos h2]
      unfold tr oU
      rw [if_neg (fun z => h1 ⟨h2.1, z⟩)]
    · rw [if_neg h2, if_neg h2]
theorem t_at {d al w a k : Nat} {σ : pm_S} (hC : tsC σ w a) (hk : k < 5) : PE d al MX8_at [.ref w, .int (nI k)] σ (some (.ref (qR σ a k))) σ := by
  show PW _ _ _ _ _ _ _ _
  refine pw_iload_n dX8_at_0 rfl ?_
  refine pw_if_lt (tgt := 18) dX8_at_1 (by decide) (fun h1 => ?_) (fun h1 => ?_)
  · exact absurd h1 (nI_pos (by omega))
  · refine pw_iload_n dX8_at_4 rfl ?_
    refine pw_iconst (v := 5) dX8_at_5 (by decide) ?_
    refine pw_icmp_ge (tgt := 18) dX8_at_6 (by decide) (fun h6 => ?_) (fun h6 => ?_)
    · exact absurd h6 (nI_ge hk (by decide))
    · refine pw_aload_n dX8_at_9 rfl ?_
      refine pw_getF dX8_at_10 flX8_11 rfl hC.1 hC.2.1 ?_
      refine pw_iload_n dX8_at_13 rfl ?_
      refine pw_aald dX8_at_14 hC.2.2.1 (by first | exact Or.inl rfl | exact Or.inr rfl) rfl (by rw [hC.2.2.2.1]; exact hk) (by omega) ?_
      refine pw_goto (tgt := 19) dX8_at_15 (by decide) ?_
      refine pw_aret dX8_at_19 rfl (by first | exact Or.inl ⟨_, rfl⟩ | exact Or.inr ⟨_, rfl⟩) ?_
      exact ⟨rfl, rfl⟩
theorem t_slay {d al w a k x : Nat} {σ : pm_S} (hC : tsC σ w a) (hk : k < 5) (hx : pm_is σ x 9) : PE d al MX8_lay [.ref w, .int (nI k), .ref x] σ none (pm_sR σ a k x) := by
  show PW _ _ _ _ _ _ _ _
  refine pw_iload_n dX8_lay_0 rfl ?_
  refine pw_if_lt (tgt := 16) dX8_lay_1 (by decide) (fun h1 => ?_) (fun h1 => ?_)
  · exact absurd h1 (nI_pos (by omega))
  · refine pw_iload_n dX8_lay_4 rfl ?_
    refine pw_iconst (v := 5) dX8_lay_5 (by decide) ?_
    refine pw_icmp_ge (tgt := 16) dX8_lay_6 (by decide) (fun h6 => ?_) (fun h6 => ?_)
    · exact absurd h6 (nI_ge hk (by decide))
    · refine pw_aload_n dX8_lay_9 rfl ?_
      refine pw_getF dX8_lay_10 flX8_11 rfl hC.1 hC.2.1 ?_
      refine pw_iload_n dX8_lay_13 rfl ?_
      refine pw_aload_n dX8_lay_14 rfl ?_
      refine pw_aast dX8_lay_15 hC.2.2.1 (Or.inr hx) rfl (by rw [hC.2.2.2.1]; exact hk) (by omega) ?_
      refine pw_vret dX8_lay_16 rfl ?_
      exact ⟨rfl, rfl⟩
theorem t_clear_lp {d al w a : Nat} {σ : pm_S} (hC : tsC σ w a) : ∀ k i, i + k = 5 → PW d al MX8_clear 2 [.ref w, .int (nI i)] [] (c_z σ a i) (fun r τ => r = none ∧ τ = c_z σ a 5) := by
  intro k
  induction k with
  | zero =>
    intro i hi
    refine pw_iload_n dX8_clear_2 rfl ?_
    refine pw_iconst (v := 5) dX8_clear_3 (by decide) ?_
    refine pw_icmp_ge (tgt := 20) dX8_clear_4 (by decide) (fun h4 => ?_) (fun h4 => ?_)
    · refine pw_vret dX8_clear_20 rfl ?_
      exact ⟨rfl, by rw [show i = 5 by omega]⟩
    · exact absurd (by rw [show i = 5 by omega]; decide) h4
  | succ k ih =>
    intro i hi
    have hh := ih (i + 1) (by omega)
    have hst : pm_sR (c_z σ a i) a i 0 = c_z σ a (i + 1) := by
      unfold c_z pm_sR
      refine Prod.ext rfl (Prod.ext (funext fun b => funext fun j => ?_) rfl)
      show (if b = a ∧ j = i then 0 else if b = a ∧ j < i then 0 else σ.2.1 b j) = if b = a ∧ j < i + 1 then 0 else σ.2.1 b j
      by_cases h1 : b = a ∧ j < i + 1
      · rw [if_pos h1]
        split
        · rfl
        · rename_i h2
          rw [if_pos ⟨h1.1, by omega⟩]
      · rw [if_neg h1, if_neg (fun z => h1 ⟨z.1, by omega⟩), if_neg (fun z => h1 ⟨z.1, by omega⟩)]
    rw [nI_succ, ← hst] at hh
    have hC := hC.z (i := i)
    refine pw_iload_n dX8_clear_2 rfl ?_
    refine pw_iconst (v := 5) dX8_clear_3 (by decide) ?_
    refine pw_icmp_ge (tgt := 20) dX8_clear_4 (by decide) (fun h4 => ?_) (fun h4 => ?_)
    · exact absurd h4 (nI_ge (show i < 5 by omega) (by decide))
    · refine pw_aload_n dX8_clear_7 rfl ?_
      refine pw_getF dX8_clear_8 flX8_11 rfl hC.1 hC.2.1 ?_
      refine pw_iload_n dX8_clear_11 rfl ?_
      refine pw_null dX8_clear_12 ?_
      refine pw_aast dX8_clear_13 hC.2.2.1 (Or.inl rfl) rfl (by rw [hC.2.2.2.1]; omega) (by omega) ?_
      refine pw_iinc1 dX8_clear_14 rfl (Nat.le_of_ble_eq_true rfl) (Nat.le_of_ble_eq_true rfl) rfl ?_
      refine pw_goto (tgt := 2) dX8_clear_17 (by decide) ?_
      exact hh
theorem t_clear {d al w a : Nat} {σ : pm_S} (hC : tsC σ w a) : PE d al MX8_clear [.ref w] σ none (c_ts σ a (fun _ => none)) := by
  show PW _ _ _ _ _ _ _ _
  refine pw_iconst (v := 0) dX8_clear_0 (by decide) ?_
  refine pw_istore_n dX8_clear_1 (Nat.le_of_ble_eq_true rfl) (Nat.le_of_ble_eq_true rfl) rfl ?_
  have hh := t_clear_lp (d := d) (al := al) hC 5 0 (by omega)
  have e : c_z σ a 0 = σ := by
    unfold c_z
    refine Prod.ext rfl (Prod.ext (funext fun b => funext fun j => ?_) rfl)
    show (if b = a ∧ j < 0 then 0 else σ.2.1 b j) = _
    rw [if_neg (fun z => Nat.not_lt_zero j z.2)]
  rw [e] at hh
  exact hh
theorem oU_lt {T : Nat → Option Nat} {k t n : Nat} (h : ∀ i s, T i = some s → s < n) (ht : t < n) : ∀ i s, oU T k t i = some s → s < n := fun i s hs => by
  unfold oU at hs
  split at hs
  · injection hs with hs; omega
  · exact h i s hs
/-- reading a set of bits, thing by thing -/
def rdl (K : Nat → Nat) (set : Int32) : Nat → Nat → (Nat → Option Nat) → Bool × (Nat → Option Nat)
  | 0, _, T => (true, T)
  | k + 1, t, T => if sb set (nI t) = 0 then rdl K set k (t + 1) T else if (T (K t)).isSome = true then (false, T) else rdl K set k (t + 1) (oU T (K t) t)
theorem t_read_lp {d al n w a : Nat} {σ : pm_S} {X : Nat → List c_A} {K : Nat → Nat} (hd : 2 ≤ d) (hS : pm_fix σ) (hT : cT σ n X) (hC : tsC σ w a) (hK : ∀ t, t < n → qI σ (qR σ 8 t) 1 = nI (K t) ∧ K t < 5) (set : Int32) : ∀ (k t : Nat) (T : Nat → Option Nat) (x : Value), (∀ i s, T i = some s → s < n) → (pm_un x = true ∨ ∃ z, x = .ref z) → t + k = n → PW d al MX8_read 21 [.ref w, .int set, .ref 7, .int (nI t), x] [] (c_ts σ a T) (fun r τ => r = some (.int (bI ((rdl K set k t T).1 = true))) ∧ τ = c_ts σ a (rdl K set k t T).2) := by
  have ha := hC.2.2.2.2.2
  have h68 := hS.1
  intro k
  induction k with
  | zero =>
    intro t T x hTn hx ht
    have hn2 := hT.2.1
    have hS := hS.ts (T := T) ha
    refine pw_iload_n dX8_read_21 rfl ?_
    refine pw_aload_n dX8_read_22 rfl ?_
    refine pw_cV0 (d1 := d - 1) (a1 := 0) (a2 := al) dX8_read_23 mtX6_count ivX6_count mlX8_20 (Nat.le_of_ble_eq_true rfl) (Nat.le_of_ble_eq_true rfl) (by omega) (by omega) (hS.at rfl rfl rfl) rfl rfl (t_count hS) ?_
    rintro r_ τ_ ⟨hr_, ht_⟩; subst r_; subst τ_
    refine pw_icmp_ge (tgt := 80) dX8_read_26 (by decide) (fun h26 => ?_) (fun h26 => ?_)
    · refine pw_iconst (v := 1) dX8_read_80 (by decide) ?_
      refine pw_iret dX8_read_81 rfl (by first | rfl | exact bI_nar) ?_
      exact ⟨rfl, rfl⟩
    · exact absurd (by rw [show qI (c_ts σ a T) 7 1 = nI n from hT.1]; exact nI_le (by omega) (by omega)) h26
  | succ k ih =>
    intro t T x hTn hx ht
    have ht2 : t < n := by omega
    have hn2 := hT.2.1
    have hS0 := hS
    have hS := hS.ts (T := T) ha
    obtain ⟨q1, q2, q3, q4, q5, q6, q7, q8, q9⟩ := hT.at ht2
    obtain ⟨k1, k2⟩ := hK t ht2
    have h7 : qI (c_ts σ a T) 7 1 = nI n := hT.1
    have hfd : c_fd (c_ts σ a T) n (nI t) = qR σ 8 t := by
      unfold c_fd
      rw [if_pos (tOk_nI ht2 (by omega)), nI_clamp (by omega), c_ts_R (by omega)]
    have hu : rdl K set (k + 1) t T = if sb set (nI t) = 0 then rdl K set k (t + 1) T else if (T (K t)).isSome = true then (false, T) else rdl K set k (t + 1) (oU T (K t) t) := rfl
    have hh := ih (t + 1) T (.ref (qR σ 8 t)) hTn (Or.inr ⟨_, rfl⟩) (by omega)
    have hh' := ih (t + 1) (oU T (K t) t) (.ref (qR σ 8 t)) (oU_lt hTn ht2) (Or.inr ⟨_, rfl⟩) (by omega)
    rw [nI_succ] at hh hh'
    rw [hu]
    have tnone : tr σ T (K t) = 0 → ¬ (T (K t)).isSome = true := fun h z => by
      obtain ⟨s, hs⟩ := Option.isSome_iff_exists.mp z
      rw [tr_s hs] at h
      have := (hT.at (hTn _ _ hs)).2.1
      omega
    refine pw_iload_n dX8_read_21 rfl ?_
    refine pw_aload_n dX8_read_22 rfl ?_
    refine pw_cV0 (d1 := d - 1) (a1 := 0) (a2 := al) dX8_read_23 mtX6_count ivX6_count mlX8_20 (Nat.le_of_ble_eq_true rfl) (Nat.le_of_ble_eq_true rfl) (by omega) (by omega) (hS.at rfl rfl rfl) rfl rfl (t_count hS) ?_
    rintro r_ τ_ ⟨hr_, ht_⟩; subst r_; subst τ_
    refine pw_icmp_ge (tgt := 80) dX8_read_26 (by decide) (fun h26 => ?_) (fun h26 => ?_)
    · exact absurd (by rw [h7] at h26; exact h26) (nI_ge ht2 (by omega))
    · refine pw_aload_n dX8_read_29 rfl ?_
      refine pw_iload_n dX8_read_30 rfl ?_
      refine pw_cV1 (d1 := d - 1) (a1 := 0) (a2 := al) dX8_read_31 mtX6_find ivX6_find mlX8_26 (Nat.le_of_ble_eq_true rfl) (Nat.le_of_ble_eq_true rfl) (by omega) (by omega) (hS.at rfl rfl rfl) rfl rfl (t_find hS h7 hn2 _) ?_
      rintro r_ τ_ ⟨hr_, ht_⟩; subst r_; subst τ_
      rw [hfd]
      refine pw_astore dX8_read_34 (Nat.le_of_ble_eq_true rfl) (Nat.le_of_ble_eq_true rfl) rfl ?_
      refine pw_iload_n dX8_read_36 rfl ?_
      refine pw_iload_n dX8_read_37 rfl ?_
      refine pw_ishr dX8_read_38 ?_
      refine pw_iconst (v := 1) dX8_read_39 (by decide) ?_
      refine pw_iand dX8_read_40 ?_
      refine pw_if_eq (tgt := 74) dX8_read_41 (by decide) (fun h41 => ?_) (fun h41 => ?_)
      · refine pw_iinc1 dX8_read_74 rfl (Nat.le_of_ble_eq_true rfl) (Nat.le_of_ble_eq_true rfl) rfl ?_
        refine pw_goto (tgt := 21) dX8_read_77 (by decide) ?_
        by_cases hz : sb set (nI t) = 0
        · rw [if_pos hz]
          first | exact hh | exact absurd hz h41
        · rw [if_neg hz]
          first | exact absurd h41 hz | (rw [if_neg (tnone h58), c_ts_lay k2]; exact hh')
      · refine pw_aload dX8_read_44 rfl ?_
        refine pw_ifnull (tgt := 74) dX8_read_46 (by decide) (fun h46 => ?_) (fun h46 => ?_)
        · omega
        · refine pw_aload_n dX8_read_49 rfl ?_
          refine pw_aload dX8_read_50 rfl ?_
          refine pw_getI dX8_read_52 flX8_30 rfl q1 ?_
          rw [show qI (c_ts σ a T) (qR σ 8 t) 1 = nI (K t) from k1]
          refine pw_cV1 (d1 := d - 1) (a1 := 0) (a2 := al) dX8_read_55 mtX8_at ivX8_at mlX8_34 (Nat.le_of_ble_eq_true rfl) (Nat.le_of_ble_eq_true rfl) (by omega) (by omega) hC.ts.1 rfl rfl (t_at hC.ts k2) ?_
          rintro r_ τ_ ⟨hr_, ht_⟩; subst r_; subst τ_
          rw [c_ts_a k2]
          refine pw_ifnull (tgt := 63) dX8_read_58 (by decide) (fun h58 => ?_) (fun h58 => ?_)
          · refine pw_aload_n dX8_read_63 rfl ?_
            refine pw_aload dX8_read_64 rfl ?_
            refine pw_getI dX8_read_66 flX8_30 rfl q1 ?_
            rw [show qI (c_ts σ a T) (qR σ 8 t) 1 = nI (K t) from k1]
            refine pw_aload dX8_read_69 rfl ?_
            refine pw_cV2 (d1 := d - 1) (a1 := 0) (a2 := al) dX8_read_71 mtX8_lay ivX8_lay mlX8_37 (Nat.le_of_ble_eq_true rfl) (Nat.le_of_ble_eq_true rfl) (by omega) (by omega) hC.ts.1 rfl rfl (t_slay hC.ts k2 q1) ?_
            rintro r_ τ_ ⟨hr_, ht_⟩; subst r_; subst τ_
            refine pw_iinc1 dX8_read_74 rfl (Nat.le_of_ble_eq_true rfl) (Nat.le_of_ble_eq_true rfl) rfl ?_
            refine pw_goto (tgt := 21) dX8_read_77 (by decide) ?_
            by_cases hz : sb set (nI t) = 0
            · rw [if_pos hz]
              first | exact hh | exact absurd hz h41
            · rw [if_neg hz]
              first | exact absurd h41 hz | (rw [if_neg (tnone h58), c_ts_lay k2]; exact hh')
          · refine pw_iconst (v := 0) dX8_read_61 (by decide) ?_
            refine pw_iret dX8_read_62 rfl (by first | rfl | exact bI_nar) ?_
            have hsome : (T (K t)).isSome = true := by
              cases hTk : T (K t) with
              | none => rw [tr_n hTk] at h58; omega
              | some s => rfl
            rw [if_neg h41, if_pos hsome]
            exact ⟨rfl, rfl⟩
