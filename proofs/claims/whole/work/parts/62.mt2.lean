/-! ===== the class: a gathering is written down ===== -/
def c_shw (σ : pm_S) (L : List Nat) (g : Int32) : pm_S := (fun b j => if b = 16 ∧ j ∈ L then σ.1 b j ||| g else σ.1 b j, σ.2)
theorem c_shw_0 (σ : pm_S) (g : Int32) : c_shw σ [] g = σ := by
  unfold c_shw
  refine Prod.ext (funext fun b => funext fun j => ?_) rfl
  show (if b = 16 ∧ j ∈ [] then _ else σ.1 b j) = _
  rw [if_neg (fun z => absurd z.2 List.not_mem_nil)]
theorem c_shw_s (σ : pm_S) (L : List Nat) (g : Int32) (q : Nat) : pm_sI (c_shw σ L g) 16 q (qI (c_shw σ L g) 16 q ||| g) = c_shw σ (q :: L) g := by
  unfold pm_sI
  refine Prod.ext (funext fun b => funext fun j => ?_) rfl
  show (if b = 16 ∧ j = q then (if 16 = 16 ∧ q ∈ L then σ.1 16 q ||| g else σ.1 16 q) ||| g else if b = 16 ∧ j ∈ L then σ.1 b j ||| g else σ.1 b j) = if b = 16 ∧ j ∈ q :: L then σ.1 b j ||| g else σ.1 b j
  by_cases h1 : b = 16 ∧ j = q
  · obtain ⟨rfl, rfl⟩ := h1
    rw [if_pos (c := 16 = 16 ∧ j = j) ⟨rfl, rfl⟩, if_pos (c := 16 = 16 ∧ j ∈ j :: L) ⟨rfl, List.mem_cons_self⟩]
    by_cases h2 : j ∈ L
    · rw [if_pos ⟨rfl, h2⟩]
      apply b_ext
      intro i _
      rw [b_or, b_or, Bool.or_assoc, Bool.or_self]
    · rw [if_neg (fun z => h2 z.2)]
  · rw [if_neg h1]
    by_cases h2 : b = 16 ∧ j ∈ L
    · rw [if_pos h2, if_pos ⟨h2.1, List.mem_cons_of_mem _ h2.2⟩]
    · rw [if_neg h2, if_neg]
      rintro ⟨z1, z2⟩
      rcases List.mem_cons.mp z2 with z | z
      · exact h1 ⟨z1, z⟩
      · exact h2 ⟨z1, z⟩
theorem c_shw_ne {σ : pm_S} {L : List Nat} {g : Int32} {b : Nat} (h : b ≠ 16) (j : Nat) : qI (c_shw σ L g) b j = qI σ b j := if_neg (fun z => h z.1)
def shJ (T : Nat → Option Nat) (i : Nat) (L : List Nat) : Nat → List Nat
  | 0 => L
  | j + 1 => if i + 1 ≤ j then (match prf T i j with
      | some q => q :: shJ T i L j
      | none => shJ T i L j) else shJ T i L j
def shI (T : Nat → Option Nat) : Nat → List Nat
  | 0 => []
  | i + 1 => shJ T i (shI T i) 5
theorem shJ_0 {T : Nat → Option Nat} {i : Nat} {L : List Nat} : ∀ j, j ≤ i + 1 → shJ T i L j = L
  | 0, _ => rfl
  | j + 1, h => by
    show (if i + 1 ≤ j then _ else shJ T i L j) = L
    rw [if_neg (by omega), shJ_0 j (by omega)]
theorem shJ_n {T : Nat → Option Nat} {i j : Nat} {L : List Nat} (h1 : i + 1 ≤ j) (h : prf T i j = none) : shJ T i L (j + 1) = shJ T i L j := by
  show (if i + 1 ≤ j then (match prf T i j with | some q => q :: shJ T i L j | none => shJ T i L j) else shJ T i L j) = _
  rw [if_pos h1, h]
theorem shJ_s {T : Nat → Option Nat} {i j q : Nat} {L : List Nat} (h1 : i + 1 ≤ j) (h : prf T i j = some q) : shJ T i L (j + 1) = q :: shJ T i L j := by
  show (if i + 1 ≤ j then (match prf T i j with | some q => q :: shJ T i L j | none => shJ T i L j) else shJ T i L j) = _
  rw [if_pos h1, h]
theorem shJ_mem {T : Nat → Option Nat} {i : Nat} {L : List Nat} {q : Nat} : ∀ j, q ∈ shJ T i L j ↔ q ∈ L ∨ ∃ k, i < k ∧ k < j ∧ prf T i k = some q
  | 0 => ⟨fun h => Or.inl h, fun h => h.elim id (fun ⟨k, _, h2, _⟩ => by omega)⟩
  | j + 1 => by
    have ih := shJ_mem (T := T) (i := i) (L := L) (q := q) j
    by_cases h1 : i + 1 ≤ j
    · cases hp : prf T i j with
      | none =>
        rw [shJ_n h1 hp, ih]
        constructor
        · rintro (h | ⟨k, a, b, c⟩)
          · exact Or.inl h
          · exact Or.inr ⟨k, a, by omega, c⟩
        · rintro (h | ⟨k, a, b, c⟩)
          · exact Or.inl h
          · have : k ≠ j := fun z => by rw [z, hp] at c; exact nomatch c
            exact Or.inr ⟨k, a, by omega, c⟩
      | some r =>
        rw [shJ_s h1 hp, List.mem_cons, ih]
        constructor
        · rintro (h | h | ⟨k, a, b, c⟩)
          · exact Or.inr ⟨j, by omega, by omega, by rw [hp, h]⟩
          · exact Or.inl h
          · exact Or.inr ⟨k, a, by omega, c⟩
        · rintro (h | ⟨k, a, b, c⟩)
          · exact Or.inr (Or.inl h)
          · by_cases z : k = j
            · rw [z, hp] at c
              injection c with c
              exact Or.inl c.symm
            · exact Or.inr (Or.inr ⟨k, a, by omega, c⟩)
    · rw [show shJ T i L (j + 1) = shJ T i L j from if_neg h1, ih]
      constructor
      · rintro (h | ⟨k, a, b, c⟩)
        · exact Or.inl h
        · omega
      · rintro (h | ⟨k, a, b, c⟩)
        · exact Or.inl h
        · omega
theorem shI_mem {T : Nat → Option Nat} {q : Nat} : ∀ i, q ∈ shI T i ↔ ∃ j k, j < i ∧ j < k ∧ k < 5 ∧ prf T j k = some q
  | 0 => ⟨fun h => absurd h List.not_mem_nil, fun ⟨j, k, h, _⟩ => by omega⟩
  | i + 1 => by
    show q ∈ shJ T i (shI T i) 5 ↔ _
    rw [shJ_mem, shI_mem i]
    constructor
    · rintro (⟨j, k, a, b, c, e⟩ | ⟨k, a, b, c⟩)
      · exact ⟨j, k, by omega, b, c, e⟩
      · exact ⟨i, k, by omega, a, b, c⟩
    · rintro ⟨j, k, a, b, c, e⟩
      by_cases z : j = i
      · subst z; exact Or.inr ⟨k, b, c, e⟩
      · exact Or.inl ⟨j, k, by omega, b, c, e⟩
theorem t_sh_j {d al n w a : Nat} {σ : pm_S} {X : Nat → List c_A} {T : Nat → Option Nat} {Q : Option Value → pm_S → Prop} (hd : 1 ≤ d) (hS : pm_fix σ) (hT : cT σ n X) (hC : tsC σ w a) (hA : tS σ n a T) (g : Int32) (L : List Nat) (i : Nat) (hi : i < 5)
    (kk : ∀ x, okx x → PW d al MX3_showPairs 57 [.ref 9, .ref w, .int g, .int (nI i), .int (nI 5), x] [] (c_shw σ (shJ T i L 5) g) Q) : ∀ (k j : Nat) (x : Value), okx x → i + 1 ≤ j → j + k = 5 → PW d al MX3_showPairs 12 [.ref 9, .ref w, .int g, .int (nI i), .int (nI j), x] [] (c_shw σ (shJ T i L j) g) Q := by
  have hn2 := hT.2.1
  have hT' : ∀ M, cT (c_shw σ M g) n X := fun M => hT.to (fun b k h => c_shw_ne (by omega) k) (fun _ _ _ => rfl) rfl rfl
  have hC' : ∀ M, tsC (c_shw σ M g) w a := fun M => hC
  intro k
  induction k with
  | zero =>
    intro j x hx hij hj
    have hj5 : j = 5 := by omega
    subst hj5
    refine pw_iload dX3_showPairs_12 rfl ?_
    refine pw_iconst (v := 5) dX3_showPairs_14 (by decide) ?_
    refine pw_icmp_ge (tgt := 57) dX3_showPairs_15 (by decide) (fun h15 => ?_) (fun h15 => ?_)
    · exact kk x hx
    · exact absurd (by decide) h15
  | succ k ih =>
    intro j x hx hij hj
    have hj2 : j < 5 := by omega
    have hh := fun v : Int32 => ih (j + 1) (.int v) (Or.inr ⟨v, rfl⟩) (by omega) (by omega)
    rw [nI_succ j] at hh
    have e1 := hA.1 i hi
    have e2 := hA.1 j hj2
    rcases pv_rng (i := i) (j := j) hn2 hA.2 with ⟨z1, z2⟩ | ⟨q, z0, z1, z2⟩
    · rw [shJ_n hij z1] at hh
      refine pw_iload dX3_showPairs_12 rfl ?_
      refine pw_iconst (v := 5) dX3_showPairs_14 (by decide) ?_
      refine pw_icmp_ge (tgt := 57) dX3_showPairs_15 (by decide) (fun h15 => ?_) (fun h15 => ?_)
      · exact absurd h15 (nI_ge hj2 (by decide))
      · refine pw_aload_n dX3_showPairs_18 rfl ?_
        refine pw_iload_n dX3_showPairs_19 rfl ?_
        refine pw_cV1 (d1 := d - 1) (a1 := 0) (a2 := al) dX3_showPairs_20 mtX8_at ivX8_at mlX3_38 (Nat.le_of_ble_eq_true rfl) (Nat.le_of_ble_eq_true rfl) (by omega) (by omega) (hC' _).1 rfl rfl (t_at (hC' _) hi) ?_
        rintro r_ τ_ ⟨hr_, ht_⟩; subst r_; subst τ_
        refine pw_aload_n dX3_showPairs_23 rfl ?_
        refine pw_iload dX3_showPairs_24 rfl ?_
        refine pw_cV1 (d1 := d - 1) (a1 := 0) (a2 := al) dX3_showPairs_26 mtX8_at ivX8_at mlX3_38 (Nat.le_of_ble_eq_true rfl) (Nat.le_of_ble_eq_true rfl) (by omega) (by omega) (hC' _).1 rfl rfl (t_at (hC' _) hj2) ?_
        rintro r_ τ_ ⟨hr_, ht_⟩; subst r_; subst τ_
        rw [show qR (c_shw σ (shJ T i L j) g) a i = tr (c_shw σ (shJ T i L j) g) T i from e1, show qR (c_shw σ (shJ T i L j) g) a j = tr (c_shw σ (shJ T i L j) g) T j from e2]
        refine pw_cS2 (d1 := d - 1) (a1 := 0) (a2 := al) dX3_showPairs_29 mtX3_pairOf stX3_pairOf mlX3_42 (Nat.le_of_ble_eq_true rfl) (Nat.le_of_ble_eq_true rfl) (by omega) (by omega) (t_pairOf (hT' _) hA.2) ?_
        rintro r_ τ_ ⟨hr_, ht_⟩; subst r_; subst τ_
        rw [z2]
        refine pw_istore dX3_showPairs_32 (Nat.le_of_ble_eq_true rfl) (Nat.le_of_ble_eq_true rfl) rfl ?_
        refine pw_iload dX3_showPairs_34 rfl ?_
        refine pw_iconst (v := (-1)) dX3_showPairs_36 (by decide) ?_
        refine pw_icmp_eq (tgt := 51) dX3_showPairs_37 (by decide) (fun h37 => ?_) (fun h37 => ?_)
        · refine pw_iinc1 dX3_showPairs_51 rfl (Nat.le_of_ble_eq_true rfl) (Nat.le_of_ble_eq_true rfl) rfl ?_
          refine pw_goto (tgt := 12) dX3_showPairs_54 (by decide) ?_
          exact hh _
        · exact absurd rfl h37
    · rw [shJ_s hij z1, ← c_shw_s] at hh
      refine pw_iload dX3_showPairs_12 rfl ?_
      refine pw_iconst (v := 5) dX3_showPairs_14 (by decide) ?_
      refine pw_icmp_ge (tgt := 57) dX3_showPairs_15 (by decide) (fun h15 => ?_) (fun h15 => ?_)
      · exact absurd h15 (nI_ge hj2 (by decide))
      · refine pw_aload_n dX3_showPairs_18 rfl ?_
        refine pw_iload_n dX3_showPairs_19 rfl ?_
        refine pw_cV1 (d1 := d - 1) (a1 := 0) (a2 := al) dX3_showPairs_20 mtX8_at ivX8_at mlX3_38 (Nat.le_of_ble_eq_true rfl) (Nat.le_of_ble_eq_true rfl) (by omega) (by omega) (hC' _).1 rfl rfl (t_at (hC' _) hi) ?_
        rintro r_ τ_ ⟨hr_, ht_⟩; subst r_; subst τ_
        refine pw_aload_n dX3_showPairs_23 rfl ?_
        refine pw_iload dX3_showPairs_24 rfl ?_
        refine pw_cV1 (d1 := d - 1) (a1 := 0) (a2 := al) dX3_showPairs_26 mtX8_at ivX8_at mlX3_38 (Nat.le_of_ble_eq_true rfl) (Nat.le_of_ble_eq_true rfl) (by omega) (by omega) (hC' _).1 rfl rfl (t_at (hC' _) hj2) ?_
        rintro r_ τ_ ⟨hr_, ht_⟩; subst r_; subst τ_
        rw [show qR (c_shw σ (shJ T i L j) g) a i = tr (c_shw σ (shJ T i L j) g) T i from e1, show qR (c_shw σ (shJ T i L j) g) a j = tr (c_shw σ (shJ T i L j) g) T j from e2]
        refine pw_cS2 (d1 := d - 1) (a1 := 0) (a2 := al) dX3_showPairs_29 mtX3_pairOf stX3_pairOf mlX3_42 (Nat.le_of_ble_eq_true rfl) (Nat.le_of_ble_eq_true rfl) (by omega) (by omega) (t_pairOf (hT' _) hA.2) ?_
        rintro r_ τ_ ⟨hr_, ht_⟩; subst r_; subst τ_
        rw [z2]
        refine pw_istore dX3_showPairs_32 (Nat.le_of_ble_eq_true rfl) (Nat.le_of_ble_eq_true rfl) rfl ?_
        refine pw_iload dX3_showPairs_34 rfl ?_
        refine pw_iconst (v := (-1)) dX3_showPairs_36 (by decide) ?_
        refine pw_icmp_eq (tgt := 51) dX3_showPairs_37 (by decide) (fun h37 => ?_) (fun h37 => ?_)
        · exact absurd h37 (nI_nm1 (by omega))
        · refine pw_aload_n dX3_showPairs_40 rfl ?_
          refine pw_getF (v := 16) dX3_showPairs_41 flX3_16 rfl (hS.at rfl rfl rfl) (hS.rf (9, 1, 16) rfl (by decide)) ?_
          refine pw_iload dX3_showPairs_44 rfl ?_
          refine pw_dup2 dX3_showPairs_46 rfl rfl ?_
          refine pw_iald dX3_showPairs_47 (hS.at rfl rfl rfl) rfl (hS.lt rfl rfl z0 rfl) (by omega) ?_
          refine pw_iload_n dX3_showPairs_48 rfl ?_
          refine pw_ior dX3_showPairs_49 ?_
          refine pw_iast dX3_showPairs_50 (hS.at rfl rfl rfl) (by decide) rfl (hS.lt rfl rfl z0 rfl) (by omega) ?_
          refine pw_iinc1 dX3_showPairs_51 rfl (Nat.le_of_ble_eq_true rfl) (Nat.le_of_ble_eq_true rfl) rfl ?_
          refine pw_goto (tgt := 12) dX3_showPairs_54 (by decide) ?_
          exact hh _
theorem t_sh_i {d al n w a : Nat} {σ : pm_S} {X : Nat → List c_A} {T : Nat → Option Nat} (hd : 1 ≤ d) (hS : pm_fix σ) (hT : cT σ n X) (hC : tsC σ w a) (hA : tS σ n a T) (g : Int32) : ∀ (k i : Nat) (x y : Value), okx x → okx y → i + k = 5 → PW d al MX3_showPairs 2 [.ref 9, .ref w, .int g, .int (nI i), x, y] [] (c_shw σ (shI T i) g) (fun r τ => r = none ∧ τ = c_shw σ (shI T 5) g) := by
  intro k
  induction k with
  | zero =>
    intro i x y hx hy hi
    have hi5 : i = 5 := by omega
    subst hi5
    refine pw_iload_n dX3_showPairs_2 rfl ?_
    refine pw_iconst (v := 5) dX3_showPairs_3 (by decide) ?_
    refine pw_icmp_ge (tgt := 63) dX3_showPairs_4 (by decide) (fun h4 => ?_) (fun h4 => ?_)
    · refine pw_vret dX3_showPairs_63 rfl ?_
      exact ⟨rfl, rfl⟩
    · exact absurd (by decide) h4
  | succ k ih =>
    intro i x y hx hy hi
    have hi2 : i < 5 := by omega
    have hh := fun z hz => ih (i + 1) (.int (nI 5)) z (Or.inr ⟨_, rfl⟩) hz (by omega)
    rw [nI_succ i] at hh
    refine pw_iload_n dX3_showPairs_2 rfl ?_
    refine pw_iconst (v := 5) dX3_showPairs_3 (by decide) ?_
    refine pw_icmp_ge (tgt := 63) dX3_showPairs_4 (by decide) (fun h4 => ?_) (fun h4 => ?_)
    · exact absurd h4 (nI_ge hi2 (by decide))
    · refine pw_iload_n dX3_showPairs_7 rfl ?_
      refine pw_iconst (v := 1) dX3_showPairs_8 (by decide) ?_
      refine pw_iadd dX3_showPairs_9 ?_
      refine pw_istore dX3_showPairs_10 (Nat.le_of_ble_eq_true rfl) (Nat.le_of_ble_eq_true rfl) rfl ?_
      have hb := t_sh_j (d := d) (al := al) (Q := fun r τ => r = none ∧ τ = c_shw σ (shI T 5) g) hd hS hT hC hA g (shI T i) i hi2 ?_ (5 - (i + 1)) (i + 1) y hy (Nat.le_refl _) (by omega)
      · rw [shJ_0 (i + 1) (Nat.le_refl _), nI_succ] at hb
        exact hb
      · intro z hz
        refine pw_iinc1 dX3_showPairs_57 rfl (Nat.le_of_ble_eq_true rfl) (Nat.le_of_ble_eq_true rfl) rfl ?_
        refine pw_goto (tgt := 2) dX3_showPairs_60 (by decide) ?_
        exact hh z hz
theorem t_showPairs {d al n w a : Nat} {σ : pm_S} {X : Nat → List c_A} {T : Nat → Option Nat} (hd : 1 ≤ d) (hS : pm_fix σ) (hT : cT σ n X) (hC : tsC σ w a) (hA : tS σ n a T) (g : Int32) : PE d al MX3_showPairs [.ref 9, .ref w, .int g] σ none (c_shw σ (shI T 5) g) := by
  show PW _ _ _ _ _ _ _ _
  refine pw_iconst (v := 0) dX3_showPairs_0 (by decide) ?_
  refine pw_istore_n dX3_showPairs_1 (Nat.le_of_ble_eq_true rfl) (Nat.le_of_ble_eq_true rfl) rfl ?_
  have hh := t_sh_i (d := d) (al := al) hd hS hT hC hA g 5 0 (.retAddr 0) (.retAddr 0) (Or.inl rfl) (Or.inl rfl) (by omega)
  rw [show shI T 0 = [] from rfl, c_shw_0] at hh
  exact hh
theorem t_mfull {d al m : Nat} {σ : pm_S} (hS : pm_fix σ) (hm : qI σ 9 2 = nI m) (hm2 : m ≤ 60) : PE d al MX3_isFull [.ref 9] σ (some (.int (bI (m = 60)))) σ := by
  show PW _ _ _ _ _ _ _ _
  refine pw_aload_n dX3_isFull_0 rfl ?_
  refine pw_getI dX3_isFull_1 flX3_20 rfl (hS.at rfl rfl rfl) ?_
  refine pw_bipush (v := 60) dX3_isFull_4 (by decide) ?_
  refine pw_icmp_lt (tgt := 13) dX3_isFull_6 (by decide) (fun h6 => ?_) (fun h6 => ?_)
  · refine pw_iconst (v := 0) dX3_isFull_13 (by decide) ?_
    refine pw_iret dX3_isFull_14 rfl (by first | rfl | exact bI_nar) ?_
    rw [hm] at h6
    by_cases hf : m = 60
    · rw [bI_t hf]
      first | exact ⟨rfl, rfl⟩ | exact absurd h6 (by rw [hf]; decide)
    · rw [bI_f hf]
      first | exact ⟨rfl, rfl⟩ | exact absurd (nI_lt (show m < 60 by omega) (by decide)) h6
  · refine pw_iconst (v := 1) dX3_isFull_9 (by decide) ?_
    refine pw_goto (tgt := 14) dX3_isFull_10 (by decide) ?_
    refine pw_iret dX3_isFull_14 rfl (by first | rfl | exact bI_nar) ?_
    rw [hm] at h6
    by_cases hf : m = 60
    · rw [bI_t hf]
      first | exact ⟨rfl, rfl⟩ | exact absurd h6 (by rw [hf]; decide)
    · rw [bI_f hf]
      first | exact ⟨rfl, rfl⟩ | exact absurd (nI_lt (show m < 60 by omega) (by decide)) h6
def c_row (σ : pm_S) (m : Nat) (T : Nat → Option Nat) (house day season guests : Int32) : pm_S := pm_sI (pm_sI (pm_sI (pm_sI (pm_sI σ 11 m house) 12 m day) 13 m season) 14 m guests) 15 m (tb T 5)
def c_put (σ : pm_S) (m : Nat) (T : Nat → Option Nat) (house day season guests : Int32) : pm_S := pm_sI (c_shw (c_row σ m T house day season guests) (shI T 5) guests) 9 2 (nI m + 1)
theorem t_mput {d al n m w a : Nat} {σ : pm_S} {X : Nat → List c_A} {T : Nat → Option Nat} (hd : 2 ≤ d) (hS : pm_fix σ) (hT : cT σ n X) (hC : tsC σ w a) (hA : tS σ n a T) (hm : qI σ 9 2 = nI m) (hm2 : m < 60) (house day season guests : Int32) : PE d al MX3_put [.ref 9, .int house, .int day, .int season, .int guests, .ref w] σ (some (.int (nI m))) (c_put σ m T house day season guests) := by
  show PW _ _ _ _ _ _ _ _
  have hz0 : (0 : Nat) < 5 := by decide
  have hz1 : (1 : Nat) < 5 := by decide
  have hz2 : (2 : Nat) < 5 := by decide
  have hz3 : (3 : Nat) < 5 := by decide
  have hz4 : (4 : Nat) < 5 := by decide
  have hT4 : cT (pm_sI (pm_sI (pm_sI (pm_sI σ 11 m house) 12 m day) 13 m season) 14 m guests) n X := hT.to (fun b k h => by rw [qI_sI_nc (by omega), qI_sI_nc (by omega), qI_sI_nc (by omega), qI_sI_nc (by omega)]) (fun _ _ _ => rfl) rfl rfl
  have hT5 : cT (c_row σ m T house day season guests) n X := hT4.to (fun b k h => by show qI (pm_sI _ _ _ _) _ _ = _; rw [qI_sI_nc (by omega)]) (fun _ _ _ => rfl) rfl rfl
  have hS4 : pm_fix (pm_sI (pm_sI (pm_sI (pm_sI σ 11 m house) 12 m day) 13 m season) 14 m guests) := hS.sI.sI.sI.sI
  have hS5 : pm_fix (c_row σ m T house day season guests) := hS4.sI
  refine pw_aload_n dX3_put_0 rfl ?_
  refine pw_cV0 (d1 := d - 1) (a1 := 0) (a2 := al) dX3_put_1 mtX3_isFull ivX3_isFull mlX3_24 (Nat.le_of_ble_eq_true rfl) (Nat.le_of_ble_eq_true rfl) (by omega) (by omega) (hS.at rfl rfl rfl) rfl rfl (t_mfull hS hm (by omega)) ?_
  rintro r_ τ_ ⟨hr_, ht_⟩; subst r_; subst τ_
  refine pw_if_eq (tgt := 9) dX3_put_4 (by decide) (fun h4 => ?_) (fun h4 => ?_)
  · refine pw_aload_n dX3_put_9 rfl ?_
    refine pw_getF (v := 10) dX3_put_10 flX3_13 rfl (hS.at rfl rfl rfl) (hS.rf (9, 0, 10) rfl (by decide)) ?_
    refine pw_iconst (v := 0) dX3_put_13 (by decide) ?_
    refine pw_aaldF dX3_put_14 (hS.at rfl rfl rfl) (by first | exact Or.inl rfl | exact Or.inr rfl) rfl (hS.lt rfl rfl hz0 rfl) (by decide) (hS.rf (10, 0, 11) rfl (by decide)) ?_
    refine pw_aload_n dX3_put_15 rfl ?_
    refine pw_getI dX3_put_16 flX3_20 rfl (hS.at rfl rfl rfl) ?_
    refine pw_iload_n dX3_put_19 rfl ?_
    refine pw_iast dX3_put_20 (hS.at rfl rfl rfl) (by decide) hm (hS.lt rfl rfl hm2 rfl) (by omega) ?_
    refine pw_aload_n dX3_put_21 rfl ?_
    refine pw_getF (v := 10) dX3_put_22 flX3_13 rfl (hS.at rfl rfl rfl) (hS.rf (9, 0, 10) rfl (by decide)) ?_
    refine pw_iconst (v := 1) dX3_put_25 (by decide) ?_
    refine pw_aaldF dX3_put_26 (hS.at rfl rfl rfl) (by first | exact Or.inl rfl | exact Or.inr rfl) rfl (hS.lt rfl rfl hz1 rfl) (by decide) (hS.rf (10, 1, 12) rfl (by decide)) ?_
    refine pw_aload_n dX3_put_27 rfl ?_
    refine pw_getI dX3_put_28 flX3_20 rfl (hS.at rfl rfl rfl) ?_
    refine pw_iload_n dX3_put_31 rfl ?_
    refine pw_iast dX3_put_32 (hS.at rfl rfl rfl) (by decide) hm (hS.lt rfl rfl hm2 rfl) (by omega) ?_
    refine pw_aload_n dX3_put_33 rfl ?_
    refine pw_getF (v := 10) dX3_put_34 flX3_13 rfl (hS.at rfl rfl rfl) (hS.rf (9, 0, 10) rfl (by decide)) ?_
    refine pw_iconst (v := 2) dX3_put_37 (by decide) ?_
    refine pw_aaldF dX3_put_38 (hS.at rfl rfl rfl) (by first | exact Or.inl rfl | exact Or.inr rfl) rfl (hS.lt rfl rfl hz2 rfl) (by decide) (hS.rf (10, 2, 13) rfl (by decide)) ?_
    refine pw_aload_n dX3_put_39 rfl ?_
    refine pw_getI dX3_put_40 flX3_20 rfl (hS.at rfl rfl rfl) ?_
    refine pw_iload_n dX3_put_43 rfl ?_
    refine pw_iast dX3_put_44 (hS.at rfl rfl rfl) (by decide) hm (hS.lt rfl rfl hm2 rfl) (by omega) ?_
    refine pw_aload_n dX3_put_45 rfl ?_
    refine pw_getF (v := 10) dX3_put_46 flX3_13 rfl (hS.at rfl rfl rfl) (hS.rf (9, 0, 10) rfl (by decide)) ?_
    refine pw_iconst (v := 3) dX3_put_49 (by decide) ?_
    refine pw_aaldF dX3_put_50 (hS.at rfl rfl rfl) (by first | exact Or.inl rfl | exact Or.inr rfl) rfl (hS.lt rfl rfl hz3 rfl) (by decide) (hS.rf (10, 3, 14) rfl (by decide)) ?_
    refine pw_aload_n dX3_put_51 rfl ?_
    refine pw_getI dX3_put_52 flX3_20 rfl (hS.at rfl rfl rfl) ?_
    refine pw_iload dX3_put_55 rfl ?_
    refine pw_iast dX3_put_57 (hS.at rfl rfl rfl) (by decide) hm (hS.lt rfl rfl hm2 rfl) (by omega) ?_
    refine pw_aload_n dX3_put_58 rfl ?_
    refine pw_getF (v := 10) dX3_put_59 flX3_13 rfl (hS.at rfl rfl rfl) (hS.rf (9, 0, 10) rfl (by decide)) ?_
    refine pw_iconst (v := 4) dX3_put_62 (by decide) ?_
    refine pw_aaldF dX3_put_63 (hS.at rfl rfl rfl) (by first | exact Or.inl rfl | exact Or.inr rfl) rfl (hS.lt rfl rfl hz4 rfl) (by decide) (hS.rf (10, 4, 15) rfl (by decide)) ?_
    refine pw_aload_n dX3_put_64 rfl ?_
    refine pw_getI dX3_put_65 flX3_20 rfl (hS.at rfl rfl rfl) ?_
    refine pw_aload dX3_put_68 rfl ?_
    refine pw_cV0 (d1 := d - 1) (a1 := 0) (a2 := al) dX3_put_70 mtX8_bits ivX8_bits mlX3_28 (Nat.le_of_ble_eq_true rfl) (Nat.le_of_ble_eq_true rfl) (by omega) (by omega) hC.1 rfl rfl (t_bits hT4 hC hA) ?_
    rintro r_ τ_ ⟨hr_, ht_⟩; subst r_; subst τ_
    refine pw_iast dX3_put_73 (hS.at rfl rfl rfl) (by decide) hm (hS.lt rfl rfl hm2 rfl) (by omega) ?_
    refine pw_aload_n dX3_put_74 rfl ?_
    refine pw_aload dX3_put_75 rfl ?_
    refine pw_iload dX3_put_77 rfl ?_
    refine pw_cV2 (d1 := d - 1) (a1 := 0) (a2 := al) dX3_put_79 mtX3_showPairs ivX3_showPairs mlX3_34 (Nat.le_of_ble_eq_true rfl) (Nat.le_of_ble_eq_true rfl) (by omega) (by omega) (hS.at rfl rfl rfl) rfl rfl (t_showPairs (σ := c_row σ m T house day season guests) (by omega) hS5 hT5 hC hA guests) ?_
    rintro r_ τ_ ⟨hr_, ht_⟩; subst r_; subst τ_
    have e9 : qI (c_shw (c_row σ m T house day season guests) (shI T 5) guests) 9 2 = nI m := hm
    refine pw_aload_n dX3_put_82 rfl ?_
    refine pw_dup dX3_put_83 rfl ?_
    refine pw_getI dX3_put_84 flX3_20 rfl (hS.at rfl rfl rfl) ?_
    refine pw_iconst (v := 1) dX3_put_87 (by decide) ?_
    refine pw_iadd dX3_put_88 ?_
    rw [e9]
    refine pw_putI dX3_put_89 flX3_20 ⟨_, rfl, Or.inl rfl⟩ rfl (hS.at rfl rfl rfl) ?_
    refine pw_aload_n dX3_put_92 rfl ?_
    refine pw_getI dX3_put_93 flX3_20 rfl (hS.at rfl rfl rfl) ?_
    refine pw_iconst (v := 1) dX3_put_96 (by decide) ?_
    refine pw_isub dX3_put_97 ?_
    refine pw_iret dX3_put_98 rfl rfl ?_
    refine ⟨?_, rfl⟩
    show some (Value.int (nI m + 1 - 1)) = _
    rw [← nI_succ, nI_pred]
  · exact absurd (bI_n.mp h4) (by omega)
theorem t_tell {d al m : Nat} {σ : pm_S} (hS : pm_fix σ) (hm : qI σ 9 2 = nI m) (hm2 : m ≤ 60) (x what : Int32) : PE d al MX3_tell [.ref 9, .int x, .int what] σ (some (.int (if tOk m x then (if what = 0 then qI σ 11 x.toNatClampNeg else if what = 1 then qI σ 12 x.toNatClampNeg else if what = 2 then qI σ 13 x.toNatClampNeg else if what = 3 then qI σ 14 x.toNatClampNeg else if what = 4 then qI σ 15 x.toNatClampNeg else -1) else -1))) σ := by
  show PW _ _ _ _ _ _ _ _
  refine pw_iload_n dX3_tell_0 rfl ?_
  refine pw_if_lt (tgt := 32) dX3_tell_1 (by decide) (fun h1 => ?_) (fun h1 => ?_)
  · refine pw_iconst (v := (-1)) dX3_tell_32 (by decide) ?_
    refine pw_iret dX3_tell_33 rfl rfl ?_
    refine ⟨?_, rfl⟩
    first | (have hno : ¬ tOk m x := (fun z => ((tOk_lt (by omega)).mp z).1 h1); rw [if_neg hno]) | (have hno : ¬ tOk m x := (fun z => ((tOk_lt (by omega)).mp z).2 (by rw [← hm]; exact h9)); rw [if_neg hno]) | (rw [if_pos ht, if_neg (fun z => by rw [z] at h13; exact absurd h13 (by decide)), if_neg (fun z => by rw [z] at h13; exact absurd h13 (by decide)), if_neg (fun z => by rw [z] at h13; exact absurd h13 (by decide)), if_neg (fun z => by rw [z] at h13; exact absurd h13 (by decide)), if_neg (fun z => by rw [z] at h13; exact absurd h13 (by decide))]) | (rw [if_pos ht, if_neg (fun z => by rw [z] at h18; exact absurd h18 (by decide)), if_neg (fun z => by rw [z] at h18; exact absurd h18 (by decide)), if_neg (fun z => by rw [z] at h18; exact absurd h18 (by decide)), if_neg (fun z => by rw [z] at h18; exact absurd h18 (by decide)), if_neg (fun z => by rw [z] at h18; exact absurd h18 (by decide))]) | (rw [if_pos ht, hcl, hw]; rcases (by omega : w = 0 ∨ w = 1 ∨ w = 2 ∨ w = 3 ∨ w = 4) with rfl | rfl | rfl | rfl | rfl <;> rfl)
  · refine pw_iload_n dX3_tell_4 rfl ?_
    refine pw_aload_n dX3_tell_5 rfl ?_
    refine pw_getI dX3_tell_6 flX3_20 rfl (hS.at rfl rfl rfl) ?_
    refine pw_icmp_ge (tgt := 32) dX3_tell_9 (by decide) (fun h9 => ?_) (fun h9 => ?_)
    · refine pw_iconst (v := (-1)) dX3_tell_32 (by decide) ?_
      refine pw_iret dX3_tell_33 rfl rfl ?_
      refine ⟨?_, rfl⟩
      first | (have hno : ¬ tOk m x := (fun z => ((tOk_lt (by omega)).mp z).1 h1); rw [if_neg hno]) | (have hno : ¬ tOk m x := (fun z => ((tOk_lt (by omega)).mp z).2 (by rw [← hm]; exact h9)); rw [if_neg hno]) | (rw [if_pos ht, if_neg (fun z => by rw [z] at h13; exact absurd h13 (by decide)), if_neg (fun z => by rw [z] at h13; exact absurd h13 (by decide)), if_neg (fun z => by rw [z] at h13; exact absurd h13 (by decide)), if_neg (fun z => by rw [z] at h13; exact absurd h13 (by decide)), if_neg (fun z => by rw [z] at h13; exact absurd h13 (by decide))]) | (rw [if_pos ht, if_neg (fun z => by rw [z] at h18; exact absurd h18 (by decide)), if_neg (fun z => by rw [z] at h18; exact absurd h18 (by decide)), if_neg (fun z => by rw [z] at h18; exact absurd h18 (by decide)), if_neg (fun z => by rw [z] at h18; exact absurd h18 (by decide)), if_neg (fun z => by rw [z] at h18; exact absurd h18 (by decide))]) | (rw [if_pos ht, hcl, hw]; rcases (by omega : w = 0 ∨ w = 1 ∨ w = 2 ∨ w = 3 ∨ w = 4) with rfl | rfl | rfl | rfl | rfl <;> rfl)
    · have ht : tOk m x := (tOk_lt (by omega)).mpr ⟨h1, by rw [← hm]; exact h9⟩
      obtain ⟨j, hj2, hj⟩ := (tOk_iff (by omega)).mp ht
      have hj3 : j < 60 := by omega
      have hcl : x.toNatClampNeg = j := by rw [hj]; exact nI_clamp (by omega)
      refine pw_iload_n dX3_tell_12 rfl ?_
      refine pw_if_lt (tgt := 32) dX3_tell_13 (by decide) (fun h13 => ?_) (fun h13 => ?_)
      · refine pw_iconst (v := (-1)) dX3_tell_32 (by decide) ?_
        refine pw_iret dX3_tell_33 rfl rfl ?_
        refine ⟨?_, rfl⟩
        first | (have hno : ¬ tOk m x := (fun z => ((tOk_lt (by omega)).mp z).1 h1); rw [if_neg hno]) | (have hno : ¬ tOk m x := (fun z => ((tOk_lt (by omega)).mp z).2 (by rw [← hm]; exact h9)); rw [if_neg hno]) | (rw [if_pos ht, if_neg (fun z => by rw [z] at h13; exact absurd h13 (by decide)), if_neg (fun z => by rw [z] at h13; exact absurd h13 (by decide)), if_neg (fun z => by rw [z] at h13; exact absurd h13 (by decide)), if_neg (fun z => by rw [z] at h13; exact absurd h13 (by decide)), if_neg (fun z => by rw [z] at h13; exact absurd h13 (by decide))]) | (rw [if_pos ht, if_neg (fun z => by rw [z] at h18; exact absurd h18 (by decide)), if_neg (fun z => by rw [z] at h18; exact absurd h18 (by decide)), if_neg (fun z => by rw [z] at h18; exact absurd h18 (by decide)), if_neg (fun z => by rw [z] at h18; exact absurd h18 (by decide)), if_neg (fun z => by rw [z] at h18; exact absurd h18 (by decide))]) | (rw [if_pos ht, hcl, hw]; rcases (by omega : w = 0 ∨ w = 1 ∨ w = 2 ∨ w = 3 ∨ w = 4) with rfl | rfl | rfl | rfl | rfl <;> rfl)
      · refine pw_iload_n dX3_tell_16 rfl ?_
        refine pw_iconst (v := 5) dX3_tell_17 (by decide) ?_
        refine pw_icmp_ge (tgt := 32) dX3_tell_18 (by decide) (fun h18 => ?_) (fun h18 => ?_)
        · refine pw_iconst (v := (-1)) dX3_tell_32 (by decide) ?_
          refine pw_iret dX3_tell_33 rfl rfl ?_
          refine ⟨?_, rfl⟩
          first | (have hno : ¬ tOk m x := (fun z => ((tOk_lt (by omega)).mp z).1 h1); rw [if_neg hno]) | (have hno : ¬ tOk m x := (fun z => ((tOk_lt (by omega)).mp z).2 (by rw [← hm]; exact h9)); rw [if_neg hno]) | (rw [if_pos ht, if_neg (fun z => by rw [z] at h13; exact absurd h13 (by decide)), if_neg (fun z => by rw [z] at h13; exact absurd h13 (by decide)), if_neg (fun z => by rw [z] at h13; exact absurd h13 (by decide)), if_neg (fun z => by rw [z] at h13; exact absurd h13 (by decide)), if_neg (fun z => by rw [z] at h13; exact absurd h13 (by decide))]) | (rw [if_pos ht, if_neg (fun z => by rw [z] at h18; exact absurd h18 (by decide)), if_neg (fun z => by rw [z] at h18; exact absurd h18 (by decide)), if_neg (fun z => by rw [z] at h18; exact absurd h18 (by decide)), if_neg (fun z => by rw [z] at h18; exact absurd h18 (by decide)), if_neg (fun z => by rw [z] at h18; exact absurd h18 (by decide))]) | (rw [if_pos ht, hcl, hw]; rcases (by omega : w = 0 ∨ w = 1 ∨ w = 2 ∨ w = 3 ∨ w = 4) with rfl | rfl | rfl | rfl | rfl <;> rfl)
        · obtain ⟨w, hw5, hw⟩ : ∃ w, w < 5 ∧ what = nI w := by
            obtain ⟨w, hw0, hw⟩ := nI_of h13
            refine ⟨w, ?_, hw⟩
            rcases Nat.lt_or_ge w 5 with q | q
            · exact q
            · exact absurd (by rw [hw]; exact nI_le q (by omega)) h18
          have hqR : qR σ 10 w = 11 + w := by
            rcases (by omega : w = 0 ∨ w = 1 ∨ w = 2 ∨ w = 3 ∨ w = 4) with rfl | rfl | rfl | rfl | rfl
            · exact hS.rf (10, 0, 11) rfl (by decide)
            · exact hS.rf (10, 1, 12) rfl (by decide)
            · exact hS.rf (10, 2, 13) rfl (by decide)
            · exact hS.rf (10, 3, 14) rfl (by decide)
            · exact hS.rf (10, 4, 15) rfl (by decide)
          have hq2 : (Nat.ble 6 (11 + w) && Nat.blt (11 + w) 68) = true := by
            rcases (by omega : w = 0 ∨ w = 1 ∨ w = 2 ∨ w = 3 ∨ w = 4) with rfl | rfl | rfl | rfl | rfl <;> rfl
          have hq3 : Nat.ble 60 (pm_ln (11 + w)) = true := by
            rcases (by omega : w = 0 ∨ w = 1 ∨ w = 2 ∨ w = 3 ∨ w = 4) with rfl | rfl | rfl | rfl | rfl <;> rfl
          have hq4 : pm_tg (11 + w) = 20 := by
            rcases (by omega : w = 0 ∨ w = 1 ∨ w = 2 ∨ w = 3 ∨ w = 4) with rfl | rfl | rfl | rfl | rfl <;> rfl
          refine pw_aload_n dX3_tell_21 rfl ?_
          refine pw_getF (v := 10) dX3_tell_22 flX3_13 rfl (hS.at rfl rfl rfl) (hS.rf (9, 0, 10) rfl (by decide)) ?_
          refine pw_iload_n dX3_tell_25 rfl ?_
          refine pw_aaldF dX3_tell_26 (hS.at rfl rfl rfl) (by first | exact Or.inl rfl | exact Or.inr rfl) hw (hS.lt rfl rfl hw5 rfl) (by omega) hqR ?_
          refine pw_iload_n dX3_tell_27 rfl ?_
          refine pw_iald dX3_tell_28 (hq4 ▸ hS.at rfl rfl hq2) hj (hS.lt rfl hq2 hj3 hq3) (by omega) ?_
          refine pw_goto (tgt := 33) dX3_tell_29 (by decide) ?_
          refine pw_iret dX3_tell_33 rfl rfl ?_
          refine ⟨?_, rfl⟩
          first | (have hno : ¬ tOk m x := (fun z => ((tOk_lt (by omega)).mp z).1 h1); rw [if_neg hno]) | (have hno : ¬ tOk m x := (fun z => ((tOk_lt (by omega)).mp z).2 (by rw [← hm]; exact h9)); rw [if_neg hno]) | (rw [if_pos ht, if_neg (fun z => by rw [z] at h13; exact absurd h13 (by decide)), if_neg (fun z => by rw [z] at h13; exact absurd h13 (by decide)), if_neg (fun z => by rw [z] at h13; exact absurd h13 (by decide)), if_neg (fun z => by rw [z] at h13; exact absurd h13 (by decide)), if_neg (fun z => by rw [z] at h13; exact absurd h13 (by decide))]) | (rw [if_pos ht, if_neg (fun z => by rw [z] at h18; exact absurd h18 (by decide)), if_neg (fun z => by rw [z] at h18; exact absurd h18 (by decide)), if_neg (fun z => by rw [z] at h18; exact absurd h18 (by decide)), if_neg (fun z => by rw [z] at h18; exact absurd h18 (by decide)), if_neg (fun z => by rw [z] at h18; exact absurd h18 (by decide))]) | (rw [if_pos ht, hcl, hw]; rcases (by omega : w = 0 ∨ w = 1 ∨ w = 2 ∨ w = 3 ∨ w = 4) with rfl | rfl | rfl | rfl | rfl <;> rfl)
