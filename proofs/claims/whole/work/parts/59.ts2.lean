/-! ===== the class: a set is read, its bits, ranks, keepers ===== -/
def rd (K : Nat → Nat) (n : Nat) (set : Int32) : Bool × (Nat → Option Nat) := if 0 < set ∧ set >>> (nI n &&& 31) = 0 then rdl K set n 0 (fun _ => none) else (false, fun _ => none)
theorem t_read {d al n w a : Nat} {σ : pm_S} {X : Nat → List c_A} {K : Nat → Nat} (hd : 2 ≤ d) (hS : pm_fix σ) (hT : cT σ n X) (hC : tsC σ w a) (hK : ∀ t, t < n → qI σ (qR σ 8 t) 1 = nI (K t) ∧ K t < 5) (set : Int32) : PE d al MX8_read [.ref w, .int set, .ref 7] σ (some (.int (bI ((rd K n set).1 = true)))) (c_ts σ a (rd K n set).2) := by
  show PW _ _ _ _ _ _ _ _
  have ha := hC.2.2.2.2.2
  have hS' := hS.ts (T := fun _ => none) ha
  have h7 : qI (c_ts σ a (fun _ => none)) 7 1 = nI n := hT.1
  refine pw_aload_n dX8_read_0 rfl ?_
  refine pw_cV0 (d1 := d - 1) (a1 := 0) (a2 := al) dX8_read_1 mtX8_clear ivX8_clear mlX8_17 (Nat.le_of_ble_eq_true rfl) (Nat.le_of_ble_eq_true rfl) (by omega) (by omega) hC.1 rfl rfl (t_clear hC) ?_
  rintro r_ τ_ ⟨hr_, ht_⟩; subst r_; subst τ_
  refine pw_iload_n dX8_read_4 rfl ?_
  refine pw_if_le (tgt := 17) dX8_read_5 (by decide) (fun h5 => ?_) (fun h5 => ?_)
  · refine pw_iconst (v := 0) dX8_read_17 (by decide) ?_
    refine pw_iret dX8_read_18 rfl (by first | rfl | exact bI_nar) ?_
    have hno : ¬ (0 < set ∧ set >>> (nI n &&& 31) = 0) := by
      first | exact fun z => Int32.not_lt.mpr h5 z.1 | exact fun z => h14 z.2
    unfold rd
    rw [if_neg hno]
    exact ⟨rfl, rfl⟩
  · refine pw_iload_n dX8_read_8 rfl ?_
    refine pw_aload_n dX8_read_9 rfl ?_
    refine pw_cV0 (d1 := d - 1) (a1 := 0) (a2 := al) dX8_read_10 mtX6_count ivX6_count mlX8_20 (Nat.le_of_ble_eq_true rfl) (Nat.le_of_ble_eq_true rfl) (by omega) (by omega) (hS.at rfl rfl rfl) rfl rfl (t_count hS') ?_
    rintro r_ τ_ ⟨hr_, ht_⟩; subst r_; subst τ_
    rw [h7]
    refine pw_ishr dX8_read_13 ?_
    refine pw_if_eq (tgt := 19) dX8_read_14 (by decide) (fun h14 => ?_) (fun h14 => ?_)
    · refine pw_iconst (v := 0) dX8_read_19 (by decide) ?_
      refine pw_istore_n dX8_read_20 (Nat.le_of_ble_eq_true rfl) (Nat.le_of_ble_eq_true rfl) rfl ?_
      have hok : 0 < set ∧ set >>> (nI n &&& 31) = 0 := ⟨Int32.not_le.mp h5, h14⟩
      unfold rd
      rw [if_pos hok]
      exact t_read_lp hd hS hT hC hK set n 0 (fun _ => none) _ (fun i s z => nomatch z) (Or.inl rfl) (by omega)
    · refine pw_iconst (v := 0) dX8_read_17 (by decide) ?_
      refine pw_iret dX8_read_18 rfl (by first | rfl | exact bI_nar) ?_
      have hno : ¬ (0 < set ∧ set >>> (nI n &&& 31) = 0) := by
        first | exact fun z => Int32.not_lt.mpr h5 z.1 | exact fun z => h14 z.2
      unfold rd
      rw [if_neg hno]
      exact ⟨rfl, rfl⟩
def tb (T : Nat → Option Nat) : Nat → Int32
  | 0 => 0
  | k + 1 => match T k with
    | none => tb T k
    | some t => tb T k ||| sh1 (nI t)
theorem tb_n {T : Nat → Option Nat} {k : Nat} (h : T k = none) : tb T (k + 1) = tb T k := by
  show (match T k with | none => tb T k | some t => tb T k ||| sh1 (nI t)) = _
  rw [h]
theorem tb_s {T : Nat → Option Nat} {k t : Nat} (h : T k = some t) : tb T (k + 1) = tb T k ||| sh1 (nI t) := by
  show (match T k with | none => tb T k | some t => tb T k ||| sh1 (nI t)) = _
  rw [h]
/-- what the array of a set holds -/
def tS (σ : pm_S) (n a : Nat) (T : Nat → Option Nat) : Prop := (∀ k, k < 5 → qR σ a k = tr σ T k) ∧ ∀ i s, T i = some s → s < n
theorem t_bits_lp {d al n w a : Nat} {σ : pm_S} {X : Nat → List c_A} {T : Nat → Option Nat} (hT : cT σ n X) (hC : tsC σ w a) (hA : tS σ n a T) : ∀ (k i : Nat) (x : Value), (pm_un x = true ∨ ∃ z, x = .ref z) → i + k = 5 → PW d al MX8_bits 4 [.ref w, .int (tb T i), .int (nI i), x] [] σ (fun r τ => r = some (.int (tb T 5)) ∧ τ = σ) := by
  intro k
  induction k with
  | zero =>
    intro i x hx hi
    refine pw_iload_n dX8_bits_4 rfl ?_
    refine pw_iconst (v := 5) dX8_bits_5 (by decide) ?_
    refine pw_icmp_ge (tgt := 35) dX8_bits_6 (by decide) (fun h6 => ?_) (fun h6 => ?_)
    · refine pw_iload_n dX8_bits_35 rfl ?_
      refine pw_iret dX8_bits_36 rfl rfl ?_
      exact ⟨by rw [show i = 5 by omega], rfl⟩
    · exact absurd (by rw [show i = 5 by omega]; decide) h6
  | succ k ih =>
    intro i x hx hi
    have hh := fun z => ih (i + 1) (.ref z) (Or.inr ⟨_, rfl⟩) (by omega)
    rw [nI_succ] at hh
    have hai := hA.1 i (by omega)
    cases hTi : T i with
    | none =>
      rw [tr_n hTi] at hai
      rw [tb_n hTi] at hh
      refine pw_iload_n dX8_bits_4 rfl ?_
      refine pw_iconst (v := 5) dX8_bits_5 (by decide) ?_
      refine pw_icmp_ge (tgt := 35) dX8_bits_6 (by decide) (fun h6 => ?_) (fun h6 => ?_)
      · exact absurd h6 (nI_ge (show i < 5 by omega) (by decide))
      · refine pw_aload_n dX8_bits_9 rfl ?_
        refine pw_getF dX8_bits_10 flX8_11 rfl hC.1 hC.2.1 ?_
        refine pw_iload_n dX8_bits_13 rfl ?_
        refine pw_aaldF dX8_bits_14 hC.2.2.1 (by first | exact Or.inl rfl | exact Or.inr rfl) rfl (by rw [hC.2.2.2.1]; omega) (by omega) hai ?_
        refine pw_astore_n dX8_bits_15 (Nat.le_of_ble_eq_true rfl) (Nat.le_of_ble_eq_true rfl) rfl ?_
        refine pw_aload_n dX8_bits_16 rfl ?_
        refine pw_ifnull (tgt := 29) dX8_bits_17 (by decide) (fun h17 => ?_) (fun h17 => ?_)
        · refine pw_iinc1 dX8_bits_29 rfl (Nat.le_of_ble_eq_true rfl) (Nat.le_of_ble_eq_true rfl) rfl ?_
          refine pw_goto (tgt := 4) dX8_bits_32 (by decide) ?_
          exact hh _
        · exact absurd h17 (Nat.lt_irrefl 0)
    | some t =>
      rw [tr_s hTi] at hai
      rw [tb_s hTi] at hh
      have htn := hA.2 i t hTi
      obtain ⟨⟨q1, q2⟩, q3, -⟩ := hT.2.2 t htn
      refine pw_iload_n dX8_bits_4 rfl ?_
      refine pw_iconst (v := 5) dX8_bits_5 (by decide) ?_
      refine pw_icmp_ge (tgt := 35) dX8_bits_6 (by decide) (fun h6 => ?_) (fun h6 => ?_)
      · exact absurd h6 (nI_ge (show i < 5 by omega) (by decide))
      · refine pw_aload_n dX8_bits_9 rfl ?_
        refine pw_getF dX8_bits_10 flX8_11 rfl hC.1 hC.2.1 ?_
        refine pw_iload_n dX8_bits_13 rfl ?_
        refine pw_aaldF dX8_bits_14 hC.2.2.1 (by first | exact Or.inl rfl | exact Or.inr rfl) rfl (by rw [hC.2.2.2.1]; omega) (by omega) hai ?_
        refine pw_astore_n dX8_bits_15 (Nat.le_of_ble_eq_true rfl) (Nat.le_of_ble_eq_true rfl) rfl ?_
        refine pw_aload_n dX8_bits_16 rfl ?_
        refine pw_ifnull (tgt := 29) dX8_bits_17 (by decide) (fun h17 => ?_) (fun h17 => ?_)
        · omega
        · refine pw_iload_n dX8_bits_20 rfl ?_
          refine pw_iconst (v := 1) dX8_bits_21 (by decide) ?_
          refine pw_aload_n dX8_bits_22 rfl ?_
          refine pw_getI dX8_bits_23 flX8_41 rfl q1 ?_
          refine pw_ishl dX8_bits_26 ?_
          refine pw_ior dX8_bits_27 ?_
          refine pw_istore_n dX8_bits_28 (Nat.le_of_ble_eq_true rfl) (Nat.le_of_ble_eq_true rfl) rfl ?_
          refine pw_iinc1 dX8_bits_29 rfl (Nat.le_of_ble_eq_true rfl) (Nat.le_of_ble_eq_true rfl) rfl ?_
          refine pw_goto (tgt := 4) dX8_bits_32 (by decide) ?_
          rw [q3]
          exact hh _
theorem t_bits {d al n w a : Nat} {σ : pm_S} {X : Nat → List c_A} {T : Nat → Option Nat} (hT : cT σ n X) (hC : tsC σ w a) (hA : tS σ n a T) : PE d al MX8_bits [.ref w] σ (some (.int (tb T 5))) σ := by
  show PW _ _ _ _ _ _ _ _
  refine pw_iconst (v := 0) dX8_bits_0 (by decide) ?_
  refine pw_istore_n dX8_bits_1 (Nat.le_of_ble_eq_true rfl) (Nat.le_of_ble_eq_true rfl) rfl ?_
  refine pw_iconst (v := 0) dX8_bits_2 (by decide) ?_
  refine pw_istore_n dX8_bits_3 (Nat.le_of_ble_eq_true rfl) (Nat.le_of_ble_eq_true rfl) rfl ?_
  exact t_bits_lp hT hC hA 5 0 _ (Or.inl rfl) (by omega)
def trk (σ : pm_S) (T : Nat → Option Nat) : Nat → Int32
  | 0 => 0
  | k + 1 => match T k with
    | none => trk σ T k
    | some t => trk σ T k + qI σ 45 t
theorem trk_n {σ : pm_S} {T : Nat → Option Nat} {k : Nat} (h : T k = none) : trk σ T (k + 1) = trk σ T k := by
  show (match T k with | none => trk σ T k | some t => trk σ T k + qI σ 45 t) = _
  rw [h]
theorem trk_s {σ : pm_S} {T : Nat → Option Nat} {k t : Nat} (h : T k = some t) : trk σ T (k + 1) = trk σ T k + qI σ 45 t := by
  show (match T k with | none => trk σ T k | some t => trk σ T k + qI σ 45 t) = _
  rw [h]
theorem t_sumRanks_lp {d al n w a : Nat} {σ : pm_S} {X : Nat → List c_A} {T : Nat → Option Nat} (hT : cT σ n X) (hC : tsC σ w a) (hA : tS σ n a T) (hR : ∀ t, t < n → qI σ (qR σ 8 t) 2 = qI σ 45 t) : ∀ (k i : Nat) (x : Value), (pm_un x = true ∨ ∃ z, x = .ref z) → i + k = 5 → PW d al MX8_sumRanks 4 [.ref w, .int (trk σ T i), .int (nI i), x] [] σ (fun r τ => r = some (.int (trk σ T 5)) ∧ τ = σ) := by
  intro k
  induction k with
  | zero =>
    intro i x hx hi
    refine pw_iload_n dX8_sumRanks_4 rfl ?_
    refine pw_iconst (v := 5) dX8_sumRanks_5 (by decide) ?_
    refine pw_icmp_ge (tgt := 33) dX8_sumRanks_6 (by decide) (fun h6 => ?_) (fun h6 => ?_)
    · refine pw_iload_n dX8_sumRanks_33 rfl ?_
      refine pw_iret dX8_sumRanks_34 rfl rfl ?_
      exact ⟨by rw [show i = 5 by omega], rfl⟩
    · exact absurd (by rw [show i = 5 by omega]; decide) h6
  | succ k ih =>
    intro i x hx hi
    have hh := fun z => ih (i + 1) (.ref z) (Or.inr ⟨_, rfl⟩) (by omega)
    rw [nI_succ] at hh
    have hai := hA.1 i (by omega)
    cases hTi : T i with
    | none =>
      rw [tr_n hTi] at hai
      rw [trk_n hTi] at hh
      refine pw_iload_n dX8_sumRanks_4 rfl ?_
      refine pw_iconst (v := 5) dX8_sumRanks_5 (by decide) ?_
      refine pw_icmp_ge (tgt := 33) dX8_sumRanks_6 (by decide) (fun h6 => ?_) (fun h6 => ?_)
      · exact absurd h6 (nI_ge (show i < 5 by omega) (by decide))
      · refine pw_aload_n dX8_sumRanks_9 rfl ?_
        refine pw_getF dX8_sumRanks_10 flX8_11 rfl hC.1 hC.2.1 ?_
        refine pw_iload_n dX8_sumRanks_13 rfl ?_
        refine pw_aaldF dX8_sumRanks_14 hC.2.2.1 (by first | exact Or.inl rfl | exact Or.inr rfl) rfl (by rw [hC.2.2.2.1]; omega) (by omega) hai ?_
        refine pw_astore_n dX8_sumRanks_15 (Nat.le_of_ble_eq_true rfl) (Nat.le_of_ble_eq_true rfl) rfl ?_
        refine pw_aload_n dX8_sumRanks_16 rfl ?_
        refine pw_ifnull (tgt := 27) dX8_sumRanks_17 (by decide) (fun h17 => ?_) (fun h17 => ?_)
        · refine pw_iinc1 dX8_sumRanks_27 rfl (Nat.le_of_ble_eq_true rfl) (Nat.le_of_ble_eq_true rfl) rfl ?_
          refine pw_goto (tgt := 4) dX8_sumRanks_30 (by decide) ?_
          exact hh _
        · exact absurd h17 (Nat.lt_irrefl 0)
    | some t =>
      rw [tr_s hTi] at hai
      rw [trk_s hTi] at hh
      have htn := hA.2 i t hTi
      obtain ⟨⟨q1, q2⟩, q3, -⟩ := hT.2.2 t htn
      refine pw_iload_n dX8_sumRanks_4 rfl ?_
      refine pw_iconst (v := 5) dX8_sumRanks_5 (by decide) ?_
      refine pw_icmp_ge (tgt := 33) dX8_sumRanks_6 (by decide) (fun h6 => ?_) (fun h6 => ?_)
      · exact absurd h6 (nI_ge (show i < 5 by omega) (by decide))
      · refine pw_aload_n dX8_sumRanks_9 rfl ?_
        refine pw_getF dX8_sumRanks_10 flX8_11 rfl hC.1 hC.2.1 ?_
        refine pw_iload_n dX8_sumRanks_13 rfl ?_
        refine pw_aaldF dX8_sumRanks_14 hC.2.2.1 (by first | exact Or.inl rfl | exact Or.inr rfl) rfl (by rw [hC.2.2.2.1]; omega) (by omega) hai ?_
        refine pw_astore_n dX8_sumRanks_15 (Nat.le_of_ble_eq_true rfl) (Nat.le_of_ble_eq_true rfl) rfl ?_
        refine pw_aload_n dX8_sumRanks_16 rfl ?_
        refine pw_ifnull (tgt := 27) dX8_sumRanks_17 (by decide) (fun h17 => ?_) (fun h17 => ?_)
        · omega
        · refine pw_iload_n dX8_sumRanks_20 rfl ?_
          refine pw_aload_n dX8_sumRanks_21 rfl ?_
          refine pw_getI dX8_sumRanks_22 flX8_44 rfl q1 ?_
          refine pw_iadd dX8_sumRanks_25 ?_
          refine pw_istore_n dX8_sumRanks_26 (Nat.le_of_ble_eq_true rfl) (Nat.le_of_ble_eq_true rfl) rfl ?_
          refine pw_iinc1 dX8_sumRanks_27 rfl (Nat.le_of_ble_eq_true rfl) (Nat.le_of_ble_eq_true rfl) rfl ?_
          refine pw_goto (tgt := 4) dX8_sumRanks_30 (by decide) ?_
          rw [hR t htn]
          exact hh _
theorem t_sumRanks {d al n w a : Nat} {σ : pm_S} {X : Nat → List c_A} {T : Nat → Option Nat} (hT : cT σ n X) (hC : tsC σ w a) (hA : tS σ n a T) (hR : ∀ t, t < n → qI σ (qR σ 8 t) 2 = qI σ 45 t) : PE d al MX8_sumRanks [.ref w] σ (some (.int (trk σ T 5))) σ := by
  show PW _ _ _ _ _ _ _ _
  refine pw_iconst (v := 0) dX8_sumRanks_0 (by decide) ?_
  refine pw_istore_n dX8_sumRanks_1 (Nat.le_of_ble_eq_true rfl) (Nat.le_of_ble_eq_true rfl) rfl ?_
  refine pw_iconst (v := 0) dX8_sumRanks_2 (by decide) ?_
  refine pw_istore_n dX8_sumRanks_3 (Nat.le_of_ble_eq_true rfl) (Nat.le_of_ble_eq_true rfl) rfl ?_
  exact t_sumRanks_lp hT hC hA hR 5 0 _ (Or.inl rfl) (by omega)
abbrev akP (X : Nat → List c_A) (house : Int32) (t : Nat) : Prop := (hX X t).2.2.2.2 = 1 ∧ (hX X t).2.2.1 = house
def akl (X : Nat → List c_A) (house : Int32) (T : Nat → Option Nat) : Nat → Nat → Bool
  | 0, _ => true
  | r + 1, k => match T k with
    | none => akl X house T r (k + 1)
    | some t => if akP X house t then akl X house T r (k + 1) else false
theorem t_allKept_lp {d al n w a : Nat} {σ : pm_S} {X : Nat → List c_A} {T : Nat → Option Nat} (hd : 1 ≤ d) (hT : cT σ n X) (hC : tsC σ w a) (hA : tS σ n a T) (house : Int32) : ∀ (k i : Nat) (x : Value), (pm_un x = true ∨ ∃ z, x = .ref z) → i + k = 5 → PW d al MX8_isAllKeptBy 2 [.ref w, .int house, .int (nI i), x] [] σ (fun r τ => r = some (.int (bI (akl X house T k i = true))) ∧ τ = σ) := by
  intro k
  induction k with
  | zero =>
    intro i x hx hi
    refine pw_iload_n dX8_isAllKeptBy_2 rfl ?_
    refine pw_iconst (v := 5) dX8_isAllKeptBy_3 (by decide) ?_
    refine pw_icmp_ge (tgt := 41) dX8_isAllKeptBy_4 (by decide) (fun h4 => ?_) (fun h4 => ?_)
    · refine pw_iconst (v := 1) dX8_isAllKeptBy_41 (by decide) ?_
      refine pw_iret dX8_isAllKeptBy_42 rfl (by first | rfl | exact bI_nar) ?_
      exact ⟨rfl, rfl⟩
    · exact absurd (by rw [show i = 5 by omega]; decide) h4
  | succ k ih =>
    intro i x hx hi
    have hh := fun z => ih (i + 1) (.ref z) (Or.inr ⟨_, rfl⟩) (by omega)
    rw [nI_succ] at hh
    have hai := hA.1 i (by omega)
    have hu : akl X house T (k + 1) i = match T i with | none => akl X house T k (i + 1) | some t => if akP X house t then akl X house T k (i + 1) else false := rfl
    rw [hu]
    cases hTi : T i with
    | none =>
      rw [tr_n hTi] at hai
      refine pw_iload_n dX8_isAllKeptBy_2 rfl ?_
      refine pw_iconst (v := 5) dX8_isAllKeptBy_3 (by decide) ?_
      refine pw_icmp_ge (tgt := 41) dX8_isAllKeptBy_4 (by decide) (fun h4 => ?_) (fun h4 => ?_)
      · exact absurd h4 (nI_ge (show i < 5 by omega) (by decide))
      · refine pw_aload_n dX8_isAllKeptBy_7 rfl ?_
        refine pw_getF dX8_isAllKeptBy_8 flX8_11 rfl hC.1 hC.2.1 ?_
        refine pw_iload_n dX8_isAllKeptBy_11 rfl ?_
        refine pw_aaldF dX8_isAllKeptBy_12 hC.2.2.1 (by first | exact Or.inl rfl | exact Or.inr rfl) rfl (by rw [hC.2.2.2.1]; omega) (by omega) hai ?_
        refine pw_astore_n dX8_isAllKeptBy_13 (Nat.le_of_ble_eq_true rfl) (Nat.le_of_ble_eq_true rfl) rfl ?_
        refine pw_aload_n dX8_isAllKeptBy_14 rfl ?_
        refine pw_ifnull (tgt := 35) dX8_isAllKeptBy_15 (by decide) (fun h15 => ?_) (fun h15 => ?_)
        · refine pw_iinc1 dX8_isAllKeptBy_35 rfl (Nat.le_of_ble_eq_true rfl) (Nat.le_of_ble_eq_true rfl) rfl ?_
          refine pw_goto (tgt := 2) dX8_isAllKeptBy_38 (by decide) ?_
          exact hh _
        · exact absurd h15 (Nat.lt_irrefl 0)
    | some t =>
      rw [tr_s hTi] at hai
      have htn := hA.2 i t hTi
      obtain ⟨q1, q2, q3, q4, q5, q6, q7, q8, q9⟩ := hT.at htn
      show PW _ _ _ _ _ _ _ (fun r τ => r = some (.int (bI ((if akP X house t then akl X house T k (i + 1) else false) = true))) ∧ τ = σ)
      refine pw_iload_n dX8_isAllKeptBy_2 rfl ?_
      refine pw_iconst (v := 5) dX8_isAllKeptBy_3 (by decide) ?_
      refine pw_icmp_ge (tgt := 41) dX8_isAllKeptBy_4 (by decide) (fun h4 => ?_) (fun h4 => ?_)
      · exact absurd h4 (nI_ge (show i < 5 by omega) (by decide))
      · refine pw_aload_n dX8_isAllKeptBy_7 rfl ?_
        refine pw_getF dX8_isAllKeptBy_8 flX8_11 rfl hC.1 hC.2.1 ?_
        refine pw_iload_n dX8_isAllKeptBy_11 rfl ?_
        refine pw_aaldF dX8_isAllKeptBy_12 hC.2.2.1 (by first | exact Or.inl rfl | exact Or.inr rfl) rfl (by rw [hC.2.2.2.1]; omega) (by omega) hai ?_
        refine pw_astore_n dX8_isAllKeptBy_13 (Nat.le_of_ble_eq_true rfl) (Nat.le_of_ble_eq_true rfl) rfl ?_
        refine pw_aload_n dX8_isAllKeptBy_14 rfl ?_
        refine pw_ifnull (tgt := 35) dX8_isAllKeptBy_15 (by decide) (fun h15 => ?_) (fun h15 => ?_)
        · omega
        · refine pw_aload_n dX8_isAllKeptBy_18 rfl ?_
          refine pw_cV0 (d1 := d - 1) (a1 := 0) (a2 := al) dX8_isAllKeptBy_19 mtX9_isThere ivX9_isThere mlX8_47 (Nat.le_of_ble_eq_true rfl) (Nat.le_of_ble_eq_true rfl) (by omega) (by omega) q1 rfl rfl (t_isThere q1 q3 (by rw [q8]; exact q9)) ?_
          rintro r_ τ_ ⟨hr_, ht_⟩; subst r_; subst τ_
          refine pw_if_eq (tgt := 33) dX8_isAllKeptBy_22 (by decide) (fun h22 => ?_) (fun h22 => ?_)
          · refine pw_iconst (v := 0) dX8_isAllKeptBy_33 (by decide) ?_
            refine pw_iret dX8_isAllKeptBy_34 rfl (by first | rfl | exact bI_nar) ?_
            have hno : ¬ akP X house t := by
              first | exact fun z => by rw [q8, z.1] at h22; exact absurd h22 (by decide) | exact fun z => h30 (q6.trans z.2)
            rw [if_neg hno]
            exact ⟨rfl, rfl⟩
          · refine pw_aload_n dX8_isAllKeptBy_25 rfl ?_
            refine pw_cV0 (d1 := d - 1) (a1 := 0) (a2 := al) dX8_isAllKeptBy_26 mtX9_keeper ivX9_keeper mlX8_51 (Nat.le_of_ble_eq_true rfl) (Nat.le_of_ble_eq_true rfl) (by omega) (by omega) q1 rfl rfl (t_keeper q1 q3) ?_
            rintro r_ τ_ ⟨hr_, ht_⟩; subst r_; subst τ_
            refine pw_iload_n dX8_isAllKeptBy_29 rfl ?_
            refine pw_icmp_eq (tgt := 35) dX8_isAllKeptBy_30 (by decide) (fun h30 => ?_) (fun h30 => ?_)
            · refine pw_iinc1 dX8_isAllKeptBy_35 rfl (Nat.le_of_ble_eq_true rfl) (Nat.le_of_ble_eq_true rfl) rfl ?_
              refine pw_goto (tgt := 2) dX8_isAllKeptBy_38 (by decide) ?_
              have hok : akP X house t := ⟨by rw [q8] at h22; exact q9.resolve_left h22, q6.symm.trans h30⟩
              rw [if_pos hok]
              exact hh _
            · refine pw_iconst (v := 0) dX8_isAllKeptBy_33 (by decide) ?_
              refine pw_iret dX8_isAllKeptBy_34 rfl (by first | rfl | exact bI_nar) ?_
              have hno : ¬ akP X house t := by
                first | exact fun z => by rw [q8, z.1] at h22; exact absurd h22 (by decide) | exact fun z => h30 (q6.trans z.2)
              rw [if_neg hno]
              exact ⟨rfl, rfl⟩
theorem t_allKept {d al n w a : Nat} {σ : pm_S} {X : Nat → List c_A} {T : Nat → Option Nat} (hd : 1 ≤ d) (hT : cT σ n X) (hC : tsC σ w a) (hA : tS σ n a T) (house : Int32) : PE d al MX8_isAllKeptBy [.ref w, .int house] σ (some (.int (bI (akl X house T 5 0 = true)))) σ := by
  show PW _ _ _ _ _ _ _ _
  refine pw_iconst (v := 0) dX8_isAllKeptBy_0 (by decide) ?_
  refine pw_istore_n dX8_isAllKeptBy_1 (Nat.le_of_ble_eq_true rfl) (Nat.le_of_ble_eq_true rfl) rfl ?_
  exact t_allKept_lp hd hT hC hA house 5 0 _ (Or.inl rfl) (by omega)
