/-! ===== the class: gatherings ===== -/
theorem cT.to {σ τ : pm_S} {n : Nat} {X : Nat → List c_A} (h : cT σ n X) (hI : ∀ b k, b = 7 ∨ 68 ≤ b → qI τ b k = qI σ b k) (hR : ∀ b k, b = 8 ∨ 68 ≤ b → qR τ b k = qR σ b k) (hT : qT τ = qT σ) (hN : qN τ = qN σ) : cT τ n X := by
  refine ⟨by rw [hI 7 1 (Or.inl rfl)]; exact h.1, h.2.1, fun t ht => ?_⟩
  obtain ⟨⟨c1, c2⟩, c3, c4, c5⟩ := h.2.2 t ht
  rw [hR 8 t (Or.inl rfl)]
  refine ⟨⟨⟨c1.1, by rw [hN]; exact c1.2.1, by rw [hT]; exact c1.2.2⟩, c2⟩, by rw [hI _ 0 (Or.inr c2)]; exact c3, ?_, c5⟩
  rw [hR _ 8 (Or.inr c2)]
  exact Ch.fr (by rw [hN]; exact Nat.le_refl _) (fun a _ => by rw [hT]) (fun a k _ h6 => hI a k (Or.inr h6)) (fun a _ h6 => hR a 0 (Or.inr h6)) _ _ c4
/-- the place of a pair -/
def prf (T : Nat → Option Nat) (i j : Nat) : Option Nat := match T i, T j with
  | some a, some b => some (a * 20 + b)
  | _, _ => none
def pv (T : Nat → Option Nat) (i j : Nat) : Int32 := match prf T i j with
  | some q => nI q
  | none => -1
theorem prf_s {T : Nat → Option Nat} {i j a b : Nat} (h1 : T i = some a) (h2 : T j = some b) : prf T i j = some (a * 20 + b) := by unfold prf; rw [h1, h2]
theorem prf_n1 {T : Nat → Option Nat} {i j : Nat} (h1 : T i = none) : prf T i j = none := by unfold prf; rw [h1]
theorem prf_n2 {T : Nat → Option Nat} {i j : Nat} (h1 : T j = none) : prf T i j = none := by unfold prf; rw [h1]; cases T i <;> rfl
theorem prf_get {T : Nat → Option Nat} {i j q : Nat} (h : prf T i j = some q) : ∃ a b, T i = some a ∧ T j = some b ∧ q = a * 20 + b := by
  cases h1 : T i with
  | none => rw [prf_n1 h1] at h; exact nomatch h
  | some a =>
    cases h2 : T j with
    | none => rw [prf_n2 h2] at h; exact nomatch h
    | some b =>
      rw [prf_s h1 h2] at h
      injection h with h
      exact ⟨a, b, rfl, rfl, h.symm⟩
theorem t_pairOf {d al n i j : Nat} {σ : pm_S} {X : Nat → List c_A} {T : Nat → Option Nat} (hT : cT σ n X) (hA : ∀ i s, T i = some s → s < n) : PE d al MX3_pairOf [.ref (tr σ T i), .ref (tr σ T j)] σ (some (.int (pv T i j))) σ := by
  show PW _ _ _ _ _ _ _ _
  cases h1 : T i with
  | none =>
    have e1 := tr_n (σ := σ) h1
    have e2 : pv T i j = -1 := by unfold pv; rw [prf_n1 h1]
    rw [e1, e2]
    refine pw_aload_n dX3_pairOf_0 rfl ?_
    refine pw_ifnull (tgt := 8) dX3_pairOf_1 (by decide) (fun h1 => ?_) (fun h1 => ?_)
    · refine pw_iconst (v := (-1)) dX3_pairOf_8 (by decide) ?_
      refine pw_goto (tgt := 24) dX3_pairOf_9 (by decide) ?_
      refine pw_iret dX3_pairOf_24 rfl rfl ?_
      exact ⟨rfl, rfl⟩
    · exact absurd h1 (Nat.lt_irrefl 0)
  | some a =>
    obtain ⟨⟨q1, q2⟩, q3, -⟩ := hT.2.2 a (hA i a h1)
    cases h2 : T j with
    | none =>
      have e1 := tr_n (σ := σ) h2
      have e2 : pv T i j = -1 := by unfold pv; rw [prf_n2 h2]
      rw [e1, e2, tr_s h1]
      refine pw_aload_n dX3_pairOf_0 rfl ?_
      refine pw_ifnull (tgt := 8) dX3_pairOf_1 (by decide) (fun h1 => ?_) (fun h1 => ?_)
      · omega
      · refine pw_aload_n dX3_pairOf_4 rfl ?_
        refine pw_ifnonnull (tgt := 12) dX3_pairOf_5 (by decide) (fun h5 => ?_) (fun h5 => ?_)
        · exact absurd h5 (Nat.lt_irrefl 0)
        · refine pw_iconst (v := (-1)) dX3_pairOf_8 (by decide) ?_
          refine pw_goto (tgt := 24) dX3_pairOf_9 (by decide) ?_
          refine pw_iret dX3_pairOf_24 rfl rfl ?_
          exact ⟨rfl, rfl⟩
    | some b =>
      obtain ⟨⟨p1, p2⟩, p3, -⟩ := hT.2.2 b (hA j b h2)
      have e2 : pv T i j = nI (a * 20 + b) := by unfold pv; rw [prf_s h1 h2]
      rw [e2, tr_s h1, tr_s h2]
      refine pw_aload_n dX3_pairOf_0 rfl ?_
      refine pw_ifnull (tgt := 8) dX3_pairOf_1 (by decide) (fun h1 => ?_) (fun h1 => ?_)
      · omega
      · refine pw_aload_n dX3_pairOf_4 rfl ?_
        refine pw_ifnonnull (tgt := 12) dX3_pairOf_5 (by decide) (fun h5 => ?_) (fun h5 => ?_)
        · refine pw_aload_n dX3_pairOf_12 rfl ?_
          refine pw_getI dX3_pairOf_13 flX3_60 rfl q1 ?_
          refine pw_bipush (v := 20) dX3_pairOf_16 (by decide) ?_
          refine pw_imul dX3_pairOf_18 ?_
          refine pw_aload_n dX3_pairOf_19 rfl ?_
          refine pw_getI dX3_pairOf_20 flX3_60 rfl p1 ?_
          refine pw_iadd dX3_pairOf_23 ?_
          refine pw_iret dX3_pairOf_24 rfl rfl ?_
          refine ⟨?_, rfl⟩
          rw [q3, p3, show (20 : Int32) = nI 20 from rfl, pk_mul, nI_add]
        · omega
theorem pv_rng {T : Nat → Option Nat} {i j n : Nat} (hn : n ≤ 20) (hA : ∀ i s, T i = some s → s < n) : (prf T i j = none ∧ pv T i j = -1) ∨ ∃ q, q < 400 ∧ prf T i j = some q ∧ pv T i j = nI q := by
  unfold pv
  cases h : prf T i j with
  | none => exact Or.inl ⟨rfl, rfl⟩
  | some q =>
    obtain ⟨a, b, h1, h2, rfl⟩ := prf_get h
    have := hA i a h1
    have := hA j b h2
    exact Or.inr ⟨_, by omega, rfl, rfl⟩
def spF (σ : pm_S) (g : Int32) (T : Nat → Option Nat) (i j : Nat) : Nat := match prf T i j with
  | some q => pcn (qI σ 16 q &&& g)
  | none => 0
def spG (σ : pm_S) (g : Int32) (T : Nat → Option Nat) (i j : Nat) : Nat := if i + 1 ≤ j then spF σ g T i j else 0
def okx (x : Value) : Prop := pm_un x = true ∨ ∃ y, x = .int y
theorem t_sp_j {d al n w a : Nat} {σ : pm_S} {X : Nat → List c_A} {T : Nat → Option Nat} {Q : Option Value → pm_S → Prop} (hd : 1 ≤ d) (hS : pm_fix σ) (hT : cT σ n X) (hC : tsC σ w a) (hA : tS σ n a T) {g : Int32} (hg : lt8 g) (s i : Nat) (hi : i < 5)
    (kk : ∀ x, okx x → PW d al MX3_sumPairs 67 [.ref 9, .int g, .ref w, .int (nI (s + sm (spG σ g T i) 5)), .int (nI i), .int (nI 5), x] [] σ Q) : ∀ (k j : Nat) (x : Value), okx x → i + 1 ≤ j → j + k = 5 → PW d al MX3_sumPairs 17 [.ref 9, .int g, .ref w, .int (nI (s + sm (spG σ g T i) j)), .int (nI i), .int (nI j), x] [] σ Q := by
  have hn2 := hT.2.1
  intro k
  induction k with
  | zero =>
    intro j x hx hij hj
    have hj5 : j = 5 := by omega
    subst hj5
    refine pw_iload dX3_sumPairs_17 rfl ?_
    refine pw_iconst (v := 5) dX3_sumPairs_19 (by decide) ?_
    refine pw_icmp_ge (tgt := 67) dX3_sumPairs_20 (by decide) (fun h20 => ?_) (fun h20 => ?_)
    · exact kk x hx
    · exact absurd (by decide) h20
  | succ k ih =>
    intro j x hx hij hj
    have hj2 : j < 5 := by omega
    have hh := fun v : Int32 => ih (j + 1) (.int v) (Or.inr ⟨v, rfl⟩) (by omega) (by omega)
    rw [nI_succ j, sm_s] at hh
    have hG : spG σ g T i j = spF σ g T i j := if_pos hij
    rw [hG] at hh
    have e1 := hA.1 i hi
    have e2 := hA.1 j hj2
    rcases pv_rng (i := i) (j := j) hn2 hA.2 with ⟨z1, z2⟩ | ⟨q, z0, z1, z2⟩
    · have hF : spF σ g T i j = 0 := by unfold spF; rw [z1]
      rw [hF, Nat.add_zero] at hh
      refine pw_iload dX3_sumPairs_17 rfl ?_
      refine pw_iconst (v := 5) dX3_sumPairs_19 (by decide) ?_
      refine pw_icmp_ge (tgt := 67) dX3_sumPairs_20 (by decide) (fun h20 => ?_) (fun h20 => ?_)
      · exact absurd h20 (nI_ge hj2 (by decide))
      · refine pw_aload_n dX3_sumPairs_23 rfl ?_
        refine pw_iload dX3_sumPairs_24 rfl ?_
        refine pw_cV1 (d1 := d - 1) (a1 := 0) (a2 := al) dX3_sumPairs_26 mtX8_at ivX8_at mlX3_38 (Nat.le_of_ble_eq_true rfl) (Nat.le_of_ble_eq_true rfl) (by omega) (by omega) hC.1 rfl rfl (t_at hC hi) ?_
        rintro r_ τ_ ⟨hr_, ht_⟩; subst r_; subst τ_
        refine pw_aload_n dX3_sumPairs_29 rfl ?_
        refine pw_iload dX3_sumPairs_30 rfl ?_
        refine pw_cV1 (d1 := d - 1) (a1 := 0) (a2 := al) dX3_sumPairs_32 mtX8_at ivX8_at mlX3_38 (Nat.le_of_ble_eq_true rfl) (Nat.le_of_ble_eq_true rfl) (by omega) (by omega) hC.1 rfl rfl (t_at hC hj2) ?_
        rintro r_ τ_ ⟨hr_, ht_⟩; subst r_; subst τ_
        rw [e1, e2]
        refine pw_cS2 (d1 := d - 1) (a1 := 0) (a2 := al) dX3_sumPairs_35 mtX3_pairOf stX3_pairOf mlX3_42 (Nat.le_of_ble_eq_true rfl) (Nat.le_of_ble_eq_true rfl) (by omega) (by omega) (t_pairOf hT hA.2) ?_
        rintro r_ τ_ ⟨hr_, ht_⟩; subst r_; subst τ_
        rw [z2]
        refine pw_istore dX3_sumPairs_38 (Nat.le_of_ble_eq_true rfl) (Nat.le_of_ble_eq_true rfl) rfl ?_
        refine pw_iload dX3_sumPairs_40 rfl ?_
        refine pw_iconst (v := (-1)) dX3_sumPairs_42 (by decide) ?_
        refine pw_icmp_eq (tgt := 61) dX3_sumPairs_43 (by decide) (fun h43 => ?_) (fun h43 => ?_)
        · refine pw_iinc1 dX3_sumPairs_61 rfl (Nat.le_of_ble_eq_true rfl) (Nat.le_of_ble_eq_true rfl) rfl ?_
          refine pw_goto (tgt := 17) dX3_sumPairs_64 (by decide) ?_
          exact hh _
        · exact absurd rfl h43
    · have hF : spF σ g T i j = pcn (qI σ 16 q &&& g) := by unfold spF; rw [z1]
      rw [hF, ← Nat.add_assoc, ← nI_add] at hh
      refine pw_iload dX3_sumPairs_17 rfl ?_
      refine pw_iconst (v := 5) dX3_sumPairs_19 (by decide) ?_
      refine pw_icmp_ge (tgt := 67) dX3_sumPairs_20 (by decide) (fun h20 => ?_) (fun h20 => ?_)
      · exact absurd h20 (nI_ge hj2 (by decide))
      · refine pw_aload_n dX3_sumPairs_23 rfl ?_
        refine pw_iload dX3_sumPairs_24 rfl ?_
        refine pw_cV1 (d1 := d - 1) (a1 := 0) (a2 := al) dX3_sumPairs_26 mtX8_at ivX8_at mlX3_38 (Nat.le_of_ble_eq_true rfl) (Nat.le_of_ble_eq_true rfl) (by omega) (by omega) hC.1 rfl rfl (t_at hC hi) ?_
        rintro r_ τ_ ⟨hr_, ht_⟩; subst r_; subst τ_
        refine pw_aload_n dX3_sumPairs_29 rfl ?_
        refine pw_iload dX3_sumPairs_30 rfl ?_
        refine pw_cV1 (d1 := d - 1) (a1 := 0) (a2 := al) dX3_sumPairs_32 mtX8_at ivX8_at mlX3_38 (Nat.le_of_ble_eq_true rfl) (Nat.le_of_ble_eq_true rfl) (by omega) (by omega) hC.1 rfl rfl (t_at hC hj2) ?_
        rintro r_ τ_ ⟨hr_, ht_⟩; subst r_; subst τ_
        rw [e1, e2]
        refine pw_cS2 (d1 := d - 1) (a1 := 0) (a2 := al) dX3_sumPairs_35 mtX3_pairOf stX3_pairOf mlX3_42 (Nat.le_of_ble_eq_true rfl) (Nat.le_of_ble_eq_true rfl) (by omega) (by omega) (t_pairOf hT hA.2) ?_
        rintro r_ τ_ ⟨hr_, ht_⟩; subst r_; subst τ_
        rw [z2]
        refine pw_istore dX3_sumPairs_38 (Nat.le_of_ble_eq_true rfl) (Nat.le_of_ble_eq_true rfl) rfl ?_
        refine pw_iload dX3_sumPairs_40 rfl ?_
        refine pw_iconst (v := (-1)) dX3_sumPairs_42 (by decide) ?_
        refine pw_icmp_eq (tgt := 61) dX3_sumPairs_43 (by decide) (fun h43 => ?_) (fun h43 => ?_)
        · exact absurd h43 (nI_nm1 (by omega))
        · refine pw_iload_n dX3_sumPairs_46 rfl ?_
          refine pw_aload_n dX3_sumPairs_47 rfl ?_
          refine pw_getF (v := 16) dX3_sumPairs_48 flX3_16 rfl (hS.at rfl rfl rfl) (hS.rf (9, 1, 16) rfl (by decide)) ?_
          refine pw_iload dX3_sumPairs_51 rfl ?_
          refine pw_iald dX3_sumPairs_53 (hS.at rfl rfl rfl) rfl (hS.lt rfl rfl z0 rfl) (by omega) ?_
          refine pw_iload_n dX3_sumPairs_54 rfl ?_
          refine pw_iand dX3_sumPairs_55 ?_
          refine pw_cS1 (d1 := d - 1) (a1 := 0) (a2 := al) dX3_sumPairs_56 mtJ6_bitCount_0f7a4 stJ6_bitCount_0f7a4 mlX3_54 (Nat.le_of_ble_eq_true rfl) (Nat.le_of_ble_eq_true rfl) (by omega) (by omega) (t_bitCount (lt8_and hg)) ?_
          rintro r_ τ_ ⟨hr_, ht_⟩; subst r_; subst τ_
          refine pw_iadd dX3_sumPairs_59 ?_
          refine pw_istore_n dX3_sumPairs_60 (Nat.le_of_ble_eq_true rfl) (Nat.le_of_ble_eq_true rfl) rfl ?_
          refine pw_iinc1 dX3_sumPairs_61 rfl (Nat.le_of_ble_eq_true rfl) (Nat.le_of_ble_eq_true rfl) rfl ?_
          refine pw_goto (tgt := 17) dX3_sumPairs_64 (by decide) ?_
          exact hh _
def spS (σ : pm_S) (g : Int32) (T : Nat → Option Nat) : Nat := sm (fun i => sm (spG σ g T i) 5) 5
theorem t_sp_i {d al n w a : Nat} {σ : pm_S} {X : Nat → List c_A} {T : Nat → Option Nat} (hd : 1 ≤ d) (hS : pm_fix σ) (hT : cT σ n X) (hC : tsC σ w a) (hA : tS σ n a T) {g : Int32} (hg : lt8 g) : ∀ (k i : Nat) (x y : Value), okx x → okx y → i + k = 5 → PW d al MX3_sumPairs 5 [.ref 9, .int g, .ref w, .int (nI (sm (fun i => sm (spG σ g T i) 5) i)), .int (nI i), x, y] [] σ (fun r τ => r = some (.int (nI (spS σ g T))) ∧ τ = σ) := by
  intro k
  induction k with
  | zero =>
    intro i x y hx hy hi
    have hi5 : i = 5 := by omega
    subst hi5
    refine pw_iload dX3_sumPairs_5 rfl ?_
    refine pw_iconst (v := 5) dX3_sumPairs_7 (by decide) ?_
    refine pw_icmp_ge (tgt := 73) dX3_sumPairs_8 (by decide) (fun h8 => ?_) (fun h8 => ?_)
    · refine pw_iload_n dX3_sumPairs_73 rfl ?_
      refine pw_iret dX3_sumPairs_74 rfl rfl ?_
      exact ⟨rfl, rfl⟩
    · exact absurd (by decide) h8
  | succ k ih =>
    intro i x y hx hy hi
    have hi2 : i < 5 := by omega
    have hh := fun z hz => ih (i + 1) (.int (nI 5)) z (Or.inr ⟨_, rfl⟩) hz (by omega)
    rw [nI_succ i, sm_s] at hh
    refine pw_iload dX3_sumPairs_5 rfl ?_
    refine pw_iconst (v := 5) dX3_sumPairs_7 (by decide) ?_
    refine pw_icmp_ge (tgt := 73) dX3_sumPairs_8 (by decide) (fun h8 => ?_) (fun h8 => ?_)
    · exact absurd h8 (nI_ge hi2 (by decide))
    · refine pw_iload dX3_sumPairs_11 rfl ?_
      refine pw_iconst (v := 1) dX3_sumPairs_13 (by decide) ?_
      refine pw_iadd dX3_sumPairs_14 ?_
      refine pw_istore dX3_sumPairs_15 (Nat.le_of_ble_eq_true rfl) (Nat.le_of_ble_eq_true rfl) rfl ?_
      have hb := t_sp_j (d := d) (al := al) (Q := fun r τ => r = some (Value.int (nI (spS σ g T))) ∧ τ = σ) hd hS hT hC hA hg (sm (fun i => sm (spG σ g T i) 5) i) i hi2 ?_ (5 - (i + 1)) (i + 1) y hy (Nat.le_refl _) (by omega)
      · rw [sm_0 (f := spG σ g T i) (i + 1) (fun j hj => if_neg (by omega)), Nat.add_zero, nI_succ] at hb
        exact hb
      · intro z hz
        refine pw_iinc1 dX3_sumPairs_67 rfl (Nat.le_of_ble_eq_true rfl) (Nat.le_of_ble_eq_true rfl) rfl ?_
        refine pw_goto (tgt := 5) dX3_sumPairs_70 (by decide) ?_
        exact hh z hz
theorem t_sumPairs {d al n w a : Nat} {σ : pm_S} {X : Nat → List c_A} {T : Nat → Option Nat} (hd : 1 ≤ d) (hS : pm_fix σ) (hT : cT σ n X) (hC : tsC σ w a) (hA : tS σ n a T) {g : Int32} (hg : lt8 g) : PE d al MX3_sumPairs [.ref 9, .int g, .ref w] σ (some (.int (nI (spS σ g T)))) σ := by
  show PW _ _ _ _ _ _ _ _
  refine pw_iconst (v := 0) dX3_sumPairs_0 (by decide) ?_
  refine pw_istore_n dX3_sumPairs_1 (Nat.le_of_ble_eq_true rfl) (Nat.le_of_ble_eq_true rfl) rfl ?_
  refine pw_iconst (v := 0) dX3_sumPairs_2 (by decide) ?_
  refine pw_istore dX3_sumPairs_3 (Nat.le_of_ble_eq_true rfl) (Nat.le_of_ble_eq_true rfl) rfl ?_
  exact t_sp_i hd hS hT hC hA hg 5 0 _ _ (Or.inl rfl) (Or.inl rfl) (by omega)
def csF (σ : pm_S) (g set : Int32) (i : Nat) : Nat := if qI σ 15 i = set then pcn (qI σ 14 i &&& g) else 0
theorem t_cs_lp {d al m : Nat} {σ : pm_S} (hd : 1 ≤ d) (hS : pm_fix σ) (hm : qI σ 9 2 = nI m) (hm2 : m ≤ 60) {g : Int32} (hg : lt8 g) (set : Int32) : ∀ (k i : Nat), i + k = m → PW d al MX3_countSame 5 [.ref 9, .int g, .int set, .int (nI (sm (csF σ g set) i)), .int (nI i)] [] σ (fun r τ => r = some (.int (nI (sm (csF σ g set) m))) ∧ τ = σ) := by
  intro k
  induction k with
  | zero =>
    intro i hi
    refine pw_iload dX3_countSame_5 rfl ?_
    refine pw_aload_n dX3_countSame_7 rfl ?_
    refine pw_getI dX3_countSame_8 flX3_20 rfl (hS.at rfl rfl rfl) ?_
    refine pw_icmp_ge (tgt := 50) dX3_countSame_11 (by decide) (fun h11 => ?_) (fun h11 => ?_)
    · refine pw_iload_n dX3_countSame_50 rfl ?_
      refine pw_iret dX3_countSame_51 rfl rfl ?_
      exact ⟨by rw [show i = m by omega], rfl⟩
    · exact absurd (by rw [hm]; exact nI_le (by omega) (by omega)) h11
  | succ k ih =>
    intro i hi
    have hi2 : i < 60 := by omega
    have hh := ih (i + 1) (by omega)
    rw [nI_succ i, sm_s] at hh
    have h3 : (3 : Nat) < 5 := by decide
    have h4 : (4 : Nat) < 5 := by decide
    refine pw_iload dX3_countSame_5 rfl ?_
    refine pw_aload_n dX3_countSame_7 rfl ?_
    refine pw_getI dX3_countSame_8 flX3_20 rfl (hS.at rfl rfl rfl) ?_
    refine pw_icmp_ge (tgt := 50) dX3_countSame_11 (by decide) (fun h11 => ?_) (fun h11 => ?_)
    · exact absurd (by rw [hm] at h11; exact h11) (nI_ge (show i < m by omega) (by omega))
    · refine pw_aload_n dX3_countSame_14 rfl ?_
      refine pw_getF (v := 10) dX3_countSame_15 flX3_13 rfl (hS.at rfl rfl rfl) (hS.rf (9, 0, 10) rfl (by decide)) ?_
      refine pw_iconst (v := 4) dX3_countSame_18 (by decide) ?_
      refine pw_aaldF dX3_countSame_19 (hS.at rfl rfl rfl) (by first | exact Or.inl rfl | exact Or.inr rfl) rfl (hS.lt rfl rfl h4 rfl) (by decide) (hS.rf (10, 4, 15) rfl (by decide)) ?_
      refine pw_iload dX3_countSame_20 rfl ?_
      refine pw_iald dX3_countSame_22 (hS.at rfl rfl rfl) rfl (hS.lt rfl rfl hi2 rfl) (by omega) ?_
      refine pw_iload_n dX3_countSame_23 rfl ?_
      refine pw_icmp_ne (tgt := 44) dX3_countSame_24 (by decide) (fun h24 => ?_) (fun h24 => ?_)
      · refine pw_iinc1 dX3_countSame_44 rfl (Nat.le_of_ble_eq_true rfl) (Nat.le_of_ble_eq_true rfl) rfl ?_
        refine pw_goto (tgt := 5) dX3_countSame_47 (by decide) ?_
        by_cases hp : qI σ 15 i = set
        · have hF : csF σ g set i = pcn (qI σ 14 i &&& g) := if_pos hp
          rw [hF, ← nI_add] at hh
          first | exact hh | exact absurd hp h24
        · have hF : csF σ g set i = 0 := if_neg hp
          rw [hF, Nat.add_zero] at hh
          first | exact hh | exact absurd h24 hp
      · refine pw_iload_n dX3_countSame_27 rfl ?_
        refine pw_aload_n dX3_countSame_28 rfl ?_
        refine pw_getF (v := 10) dX3_countSame_29 flX3_13 rfl (hS.at rfl rfl rfl) (hS.rf (9, 0, 10) rfl (by decide)) ?_
        refine pw_iconst (v := 3) dX3_countSame_32 (by decide) ?_
        refine pw_aaldF dX3_countSame_33 (hS.at rfl rfl rfl) (by first | exact Or.inl rfl | exact Or.inr rfl) rfl (hS.lt rfl rfl h3 rfl) (by decide) (hS.rf (10, 3, 14) rfl (by decide)) ?_
        refine pw_iload dX3_countSame_34 rfl ?_
        refine pw_iald dX3_countSame_36 (hS.at rfl rfl rfl) rfl (hS.lt rfl rfl hi2 rfl) (by omega) ?_
        refine pw_iload_n dX3_countSame_37 rfl ?_
        refine pw_iand dX3_countSame_38 ?_
        refine pw_cS1 (d1 := d - 1) (a1 := 0) (a2 := al) dX3_countSame_39 mtJ6_bitCount_0f7a4 stJ6_bitCount_0f7a4 mlX3_54 (Nat.le_of_ble_eq_true rfl) (Nat.le_of_ble_eq_true rfl) (by omega) (by omega) (t_bitCount (lt8_and hg)) ?_
        rintro r_ τ_ ⟨hr_, ht_⟩; subst r_; subst τ_
        refine pw_iadd dX3_countSame_42 ?_
        refine pw_istore_n dX3_countSame_43 (Nat.le_of_ble_eq_true rfl) (Nat.le_of_ble_eq_true rfl) rfl ?_
        refine pw_iinc1 dX3_countSame_44 rfl (Nat.le_of_ble_eq_true rfl) (Nat.le_of_ble_eq_true rfl) rfl ?_
        refine pw_goto (tgt := 5) dX3_countSame_47 (by decide) ?_
        by_cases hp : qI σ 15 i = set
        · have hF : csF σ g set i = pcn (qI σ 14 i &&& g) := if_pos hp
          rw [hF, ← nI_add] at hh
          first | exact hh | exact absurd hp h24
        · have hF : csF σ g set i = 0 := if_neg hp
          rw [hF, Nat.add_zero] at hh
          first | exact hh | exact absurd h24 hp
theorem t_countSame {d al m : Nat} {σ : pm_S} (hd : 1 ≤ d) (hS : pm_fix σ) (hm : qI σ 9 2 = nI m) (hm2 : m ≤ 60) {g : Int32} (hg : lt8 g) (set : Int32) : PE d al MX3_countSame [.ref 9, .int g, .int set] σ (some (.int (nI (sm (csF σ g set) m)))) σ := by
  show PW _ _ _ _ _ _ _ _
  refine pw_iconst (v := 0) dX3_countSame_0 (by decide) ?_
  refine pw_istore_n dX3_countSame_1 (Nat.le_of_ble_eq_true rfl) (Nat.le_of_ble_eq_true rfl) rfl ?_
  refine pw_iconst (v := 0) dX3_countSame_2 (by decide) ?_
  refine pw_istore dX3_countSame_3 (Nat.le_of_ble_eq_true rfl) (Nat.le_of_ble_eq_true rfl) rfl ?_
  exact t_cs_lp hd hS hm hm2 hg set m 0 (by omega)
theorem t_sumAgain {d al n m w a : Nat} {σ : pm_S} {X : Nat → List c_A} {T : Nat → Option Nat} (hd : 2 ≤ d) (hS : pm_fix σ) (hT : cT σ n X) (hC : tsC σ w a) (hA : tS σ n a T) (hm : qI σ 9 2 = nI m) (hm2 : m ≤ 60) {g : Int32} (hg : lt8 g) : PE d al MX3_sumAgain [.ref 9, .int g, .ref w] σ (some (.int (nI (spS σ g T + 10 * sm (csF σ g (tb T 5)) m)))) σ := by
  show PW _ _ _ _ _ _ _ _
  refine pw_aload_n dX3_sumAgain_0 rfl ?_
  refine pw_iload_n dX3_sumAgain_1 rfl ?_
  refine pw_aload_n dX3_sumAgain_2 rfl ?_
  refine pw_cV2 (d1 := d - 1) (a1 := 0) (a2 := al) dX3_sumAgain_3 mtX3_sumPairs ivX3_sumPairs mlX3_46 (Nat.le_of_ble_eq_true rfl) (Nat.le_of_ble_eq_true rfl) (by omega) (by omega) (hS.at rfl rfl rfl) rfl rfl (t_sumPairs (by omega) hS hT hC hA hg) ?_
  rintro r_ τ_ ⟨hr_, ht_⟩; subst r_; subst τ_
  refine pw_bipush (v := 10) dX3_sumAgain_6 (by decide) ?_
  refine pw_aload_n dX3_sumAgain_8 rfl ?_
  refine pw_iload_n dX3_sumAgain_9 rfl ?_
  refine pw_aload_n dX3_sumAgain_10 rfl ?_
  refine pw_cV0 (d1 := d - 1) (a1 := 0) (a2 := al) dX3_sumAgain_11 mtX8_bits ivX8_bits mlX3_28 (Nat.le_of_ble_eq_true rfl) (Nat.le_of_ble_eq_true rfl) (by omega) (by omega) hC.1 rfl rfl (t_bits hT hC hA) ?_
  rintro r_ τ_ ⟨hr_, ht_⟩; subst r_; subst τ_
  refine pw_cV2 (d1 := d - 1) (a1 := 0) (a2 := al) dX3_sumAgain_14 mtX3_countSame ivX3_countSame mlX3_50 (Nat.le_of_ble_eq_true rfl) (Nat.le_of_ble_eq_true rfl) (by omega) (by omega) (hS.at rfl rfl rfl) rfl rfl (t_countSame (by omega) hS hm hm2 hg _) ?_
  rintro r_ τ_ ⟨hr_, ht_⟩; subst r_; subst τ_
  refine pw_imul dX3_sumAgain_17 ?_
  refine pw_iadd dX3_sumAgain_18 ?_
  refine pw_iret dX3_sumAgain_19 rfl rfl ?_
  refine ⟨?_, rfl⟩
  rw [show (10 : Int32) = nI 10 from rfl, pk_mul, nI_add]
abbrev cwP (σ : pm_S) (g th : Int32) (i : Nat) : Prop := qI σ 14 i &&& g = g ∧ qI σ 15 i &&& th = th
theorem t_cw_lp {d al m : Nat} {σ : pm_S} (hS : pm_fix σ) (hm : qI σ 9 2 = nI m) (hm2 : m ≤ 60) (g th : Int32) : ∀ (k i : Nat), i + k = m → PW d al MX3_countWith 5 [.ref 9, .int g, .int th, .int (nI (sm (fun i => oN (cwP σ g th i)) i)), .int (nI i)] [] σ (fun r τ => r = some (.int (nI (sm (fun i => oN (cwP σ g th i)) m))) ∧ τ = σ) := by
  intro k
  induction k with
  | zero =>
    intro i hi
    refine pw_iload dX3_countWith_5 rfl ?_
    refine pw_aload_n dX3_countWith_7 rfl ?_
    refine pw_getI dX3_countWith_8 flX3_20 rfl (hS.at rfl rfl rfl) ?_
    refine pw_icmp_ge (tgt := 53) dX3_countWith_11 (by decide) (fun h11 => ?_) (fun h11 => ?_)
    · refine pw_iload_n dX3_countWith_53 rfl ?_
      refine pw_iret dX3_countWith_54 rfl rfl ?_
      exact ⟨by rw [show i = m by omega], rfl⟩
    · exact absurd (by rw [hm]; exact nI_le (by omega) (by omega)) h11
  | succ k ih =>
    intro i hi
    have hi2 : i < 60 := by omega
    have hh := ih (i + 1) (by omega)
    rw [nI_succ i, sm_s] at hh
    have h3 : (3 : Nat) < 5 := by decide
    have h4 : (4 : Nat) < 5 := by decide
    refine pw_iload dX3_countWith_5 rfl ?_
    refine pw_aload_n dX3_countWith_7 rfl ?_
    refine pw_getI dX3_countWith_8 flX3_20 rfl (hS.at rfl rfl rfl) ?_
    refine pw_icmp_ge (tgt := 53) dX3_countWith_11 (by decide) (fun h11 => ?_) (fun h11 => ?_)
    · exact absurd (by rw [hm] at h11; exact h11) (nI_ge (show i < m by omega) (by omega))
    · refine pw_aload_n dX3_countWith_14 rfl ?_
      refine pw_getF (v := 10) dX3_countWith_15 flX3_13 rfl (hS.at rfl rfl rfl) (hS.rf (9, 0, 10) rfl (by decide)) ?_
      refine pw_iconst (v := 3) dX3_countWith_18 (by decide) ?_
      refine pw_aaldF dX3_countWith_19 (hS.at rfl rfl rfl) (by first | exact Or.inl rfl | exact Or.inr rfl) rfl (hS.lt rfl rfl h3 rfl) (by decide) (hS.rf (10, 3, 14) rfl (by decide)) ?_
      refine pw_iload dX3_countWith_20 rfl ?_
      refine pw_iald dX3_countWith_22 (hS.at rfl rfl rfl) rfl (hS.lt rfl rfl hi2 rfl) (by omega) ?_
      refine pw_iload_n dX3_countWith_23 rfl ?_
      refine pw_iand dX3_countWith_24 ?_
      refine pw_iload_n dX3_countWith_25 rfl ?_
      refine pw_icmp_ne (tgt := 47) dX3_countWith_26 (by decide) (fun h26 => ?_) (fun h26 => ?_)
      · refine pw_iinc1 dX3_countWith_47 rfl (Nat.le_of_ble_eq_true rfl) (Nat.le_of_ble_eq_true rfl) rfl ?_
        refine pw_goto (tgt := 5) dX3_countWith_50 (by decide) ?_
        by_cases hp : cwP σ g th i
        · rw [oN_t hp, nI_succ] at hh
          first | exact hh | exact absurd hp.1 h26 | exact absurd hp.2 h41
        · rw [oN_f hp, Nat.add_zero] at hh
          first | exact hh | exact absurd ⟨h26, h41⟩ hp
      · refine pw_aload_n dX3_countWith_29 rfl ?_
        refine pw_getF (v := 10) dX3_countWith_30 flX3_13 rfl (hS.at rfl rfl rfl) (hS.rf (9, 0, 10) rfl (by decide)) ?_
        refine pw_iconst (v := 4) dX3_countWith_33 (by decide) ?_
        refine pw_aaldF dX3_countWith_34 (hS.at rfl rfl rfl) (by first | exact Or.inl rfl | exact Or.inr rfl) rfl (hS.lt rfl rfl h4 rfl) (by decide) (hS.rf (10, 4, 15) rfl (by decide)) ?_
        refine pw_iload dX3_countWith_35 rfl ?_
        refine pw_iald dX3_countWith_37 (hS.at rfl rfl rfl) rfl (hS.lt rfl rfl hi2 rfl) (by omega) ?_
        refine pw_iload_n dX3_countWith_38 rfl ?_
        refine pw_iand dX3_countWith_39 ?_
        refine pw_iload_n dX3_countWith_40 rfl ?_
        refine pw_icmp_ne (tgt := 47) dX3_countWith_41 (by decide) (fun h41 => ?_) (fun h41 => ?_)
        · refine pw_iinc1 dX3_countWith_47 rfl (Nat.le_of_ble_eq_true rfl) (Nat.le_of_ble_eq_true rfl) rfl ?_
          refine pw_goto (tgt := 5) dX3_countWith_50 (by decide) ?_
          by_cases hp : cwP σ g th i
          · rw [oN_t hp, nI_succ] at hh
            first | exact hh | exact absurd hp.1 h26 | exact absurd hp.2 h41
          · rw [oN_f hp, Nat.add_zero] at hh
            first | exact hh | exact absurd ⟨h26, h41⟩ hp
        · refine pw_iinc1 dX3_countWith_44 rfl (Nat.le_of_ble_eq_true rfl) (Nat.le_of_ble_eq_true rfl) rfl ?_
          refine pw_iinc1 dX3_countWith_47 rfl (Nat.le_of_ble_eq_true rfl) (Nat.le_of_ble_eq_true rfl) rfl ?_
          refine pw_goto (tgt := 5) dX3_countWith_50 (by decide) ?_
          by_cases hp : cwP σ g th i
          · rw [oN_t hp, nI_succ] at hh
            first | exact hh | exact absurd hp.1 h26 | exact absurd hp.2 h41
          · rw [oN_f hp, Nat.add_zero] at hh
            first | exact hh | exact absurd ⟨h26, h41⟩ hp
theorem t_countWith {d al m : Nat} {σ : pm_S} (hS : pm_fix σ) (hm : qI σ 9 2 = nI m) (hm2 : m ≤ 60) (g th : Int32) : PE d al MX3_countWith [.ref 9, .int g, .int th] σ (some (.int (nI (sm (fun i => oN (cwP σ g th i)) m)))) σ := by
  show PW _ _ _ _ _ _ _ _
  refine pw_iconst (v := 0) dX3_countWith_0 (by decide) ?_
  refine pw_istore_n dX3_countWith_1 (Nat.le_of_ble_eq_true rfl) (Nat.le_of_ble_eq_true rfl) rfl ?_
  refine pw_iconst (v := 0) dX3_countWith_2 (by decide) ?_
  refine pw_istore dX3_countWith_3 (Nat.le_of_ble_eq_true rfl) (Nat.le_of_ble_eq_true rfl) rfl ?_
  exact t_cw_lp hS hm hm2 g th m 0 (by omega)
