/-! ===== bits of a number; the count of bits ===== -/
theorem b_1 (i : Nat) : bt 1 i = decide (i = 0) := by
  rcases Nat.lt_or_ge i 32 with h | h
  · exact (by decide +kernel : ∀ i, i < 32 → bt 1 i = decide (i = 0)) i h
  · rw [b_big h, decide_eq_false (by omega)]
theorem sb_bt (x : Int32) {t : Nat} (ht : t < 32) : sb x (nI t) = bI (bt x t = true) := by
  have h : ∀ i, i < 32 → bt (sb x (nI t)) i = (decide (i = 0) && bt x t) := fun i hi => by
    unfold sb
    rw [b_and, b_1, b_sshr t ht x hi]
    by_cases z : i = 0
    · subst z; rw [Nat.add_zero, if_pos ht]; simp
    · simp [z]
  apply b_ext
  intro i hi
  rw [h i hi]
  by_cases z : bt x t = true
  · rw [bI_t z, b_1, z, Bool.and_true]
  · rw [bI_f z, b_0, Bool.eq_false_iff.mpr z, Bool.and_false]
theorem sb_1 (x : Int32) {t : Nat} (ht : t < 32) : sb x (nI t) = 1 ↔ bt x t = true := by
  rw [sb_bt x ht]
  by_cases z : bt x t = true
  · rw [bI_t z]; simp [z]
  · rw [bI_f z]; simp [z]
theorem sb_0 (x : Int32) {t : Nat} (ht : t < 32) : sb x (nI t) = 0 ↔ ¬ bt x t = true := by rw [sb_bt x ht]; exact bI_0
theorem b_sh1 {t : Nat} (ht : t < 32) {i : Nat} (hi : i < 32) : bt (sh1 (nI t)) i = decide (i = t) := by
  unfold sh1
  rw [b_shl t ht 1 hi, b_1]
  by_cases z : i = t
  · subst z; simp
  · rw [decide_eq_false z]
    by_cases y : t ≤ i
    · rw [decide_eq_true y, decide_eq_false (by omega)]; rfl
    · rw [decide_eq_false y, Bool.false_and]
theorem sh1_nI {t : Nat} (ht : t < 31) : sh1 (nI t) = nI (2 ^ t) := by
  unfold sh1
  have h1 : 2 ^ t < 2 ^ 31 := Nat.pow_lt_pow_right (by decide) ht
  have := pk_shlN (n := 1) (nI t &&& 31) t (s_l t (by omega)) (by omega)
  rw [Nat.one_mul] at this
  exact this
/-- sums of numbers -/
def sm (f : Nat → Nat) : Nat → Nat
  | 0 => 0
  | n + 1 => sm f n + f n
theorem sm_s (f : Nat → Nat) (n : Nat) : sm f (n + 1) = sm f n + f n := rfl
theorem sm_cg {f g : Nat → Nat} : ∀ n, (∀ i, i < n → f i = g i) → sm f n = sm g n
  | 0, _ => rfl
  | n + 1, h => by rw [sm_s, sm_s, sm_cg n (fun i hi => h i (by omega)), h n (by omega)]
theorem sm_add (f g : Nat → Nat) : ∀ n, sm (fun i => f i + g i) n = sm f n + sm g n
  | 0 => rfl
  | n + 1 => by rw [sm_s, sm_s, sm_s, sm_add f g n]; omega
theorem sm_0 {f : Nat → Nat} : ∀ n, (∀ i, i < n → f i = 0) → sm f n = 0
  | 0, _ => rfl
  | n + 1, h => by rw [sm_s, sm_0 n (fun i hi => h i (by omega)), h n (by omega)]
theorem sm_mul (c : Nat) (f : Nat → Nat) : ∀ n, sm (fun i => c * f i) n = c * sm f n
  | 0 => rfl
  | n + 1 => by rw [sm_s, sm_s, sm_mul c f n, Nat.mul_add]
theorem sm_comm (f : Nat → Nat → Nat) (m : Nat) : ∀ n, sm (fun i => sm (fun j => f i j) m) n = sm (fun j => sm (fun i => f i j) n) m
  | 0 => (sm_0 m (fun _ _ => rfl)).symm
  | n + 1 => by
    rw [sm_s, sm_comm f m n, ← sm_add]
    exact sm_cg m (fun j _ => rfl)
theorem sm_one {f : Nat → Nat} {k : Nat} : ∀ n, k < n → (∀ i, i < n → i ≠ k → f i = 0) → sm f n = f k
  | n + 1, hk, h => by
    rw [sm_s]
    by_cases z : k = n
    · subst z
      rw [sm_0 k (fun i hi => h i (by omega) (by omega)), Nat.zero_add]
    · rw [sm_one n (by omega) (fun i hi hne => h i (by omega) hne), h n (by omega) (fun y => z y.symm), Nat.add_zero]
theorem sm_le {f : Nat → Nat} {c : Nat} : ∀ n, (∀ i, i < n → f i ≤ c) → sm f n ≤ n * c
  | 0, _ => by rw [Nat.zero_mul]; exact Nat.le_refl _
  | n + 1, h => by
    have h1 := sm_le n (fun i hi => h i (by omega))
    have h2 := h n (by omega)
    rw [sm_s, Nat.succ_mul]
    omega
/-- one or none -/
def oN (p : Prop) [Decidable p] : Nat := if p then 1 else 0
theorem oN_t {p : Prop} [Decidable p] (h : p) : oN p = 1 := if_pos h
theorem oN_f {p : Prop} [Decidable p] (h : ¬ p) : oN p = 0 := if_neg h
theorem oN_c {p q : Prop} [Decidable p] [Decidable q] (h : p ↔ q) : oN p = oN q := by
  by_cases z : p
  · rw [oN_t z, oN_t (h.mp z)]
  · rw [oN_f z, oN_f (fun y => z (h.mpr y))]
/-- the bits below 8, counted -/
def pcn (x : Int32) : Nat := sm (fun g => oN (bt x g = true)) 8
theorem pcn_le (x : Int32) : pcn x ≤ 8 := by
  have := sm_le (f := fun g => oN (bt x g = true)) (c := 1) 8 (fun i _ => by show oN _ ≤ 1; unfold oN; split <;> omega)
  unfold pcn
  omega
/-- no bit from 8 on -/
def lt8 (x : Int32) : Prop := ∀ i, 8 ≤ i → i < 32 → bt x i = false
theorem lt8_and {x y : Int32} (h : lt8 y) : lt8 (x &&& y) := fun i h1 h2 => by rw [b_and, h i h1 h2, Bool.and_false]
theorem lt8_or {x y : Int32} (h1 : lt8 x) (h2 : lt8 y) : lt8 (x ||| y) := fun i a b => by rw [b_or, h1 i a b, h2 i a b]; rfl
theorem lt8_0 : lt8 0 := fun i _ _ => b_0 i
theorem nI_bt {X i : Nat} (hi : i < 32) : bt (nI X) i = X.testBit i := by
  unfold bt
  show (BitVec.ofNat 32 X).getLsbD i = _
  rw [BitVec.getLsbD_ofNat]
  simp [hi]
theorem lt8_get {x : Int32} (h : lt8 x) : ∃ X, X < 256 ∧ x = nI X := by
  refine ⟨x.toBitVec.toNat % 256, Nat.mod_lt _ (by decide), ?_⟩
  apply b_ext
  intro i hi
  rw [nI_bt hi]
  by_cases z : i < 8
  · rw [show (256 : Nat) = 2 ^ 8 from rfl, Nat.testBit_mod_two_pow, decide_eq_true z, Bool.true_and]
    rfl
  · rw [h i (by omega) hi, show (256 : Nat) = 2 ^ 8 from rfl, Nat.testBit_mod_two_pow, decide_eq_false z, Bool.false_and]
theorem lt8_nI {X : Nat} (h : X < 256) : lt8 (nI X) := fun i h1 h2 => by
  rw [nI_bt h2]
  exact Nat.testBit_lt_two_pow (Nat.lt_of_lt_of_le h (show 2 ^ 8 ≤ 2 ^ i from Nat.pow_le_pow_right (by decide) h1))
theorem lt8_guests {g : Int32} (h : 1 ≤ g ∧ g ≤ 255) : lt8 g := by
  have h1 := i_le.mp h.1
  have h2 := i_le.mp h.2
  have e1 : (1 : Int32).toInt = 1 := rfl
  have e2 : (255 : Int32).toInt = 255 := rfl
  rw [e1] at h1
  rw [e2] at h2
  have : g = nI g.toInt.toNat := by rw [i_eq, nI_toInt (by omega)]; omega
  rw [this]
  exact lt8_nI (by omega)
def bcE1 (x : Int32) : Int32 := x - (((x.toUInt32 >>> ((1 : Int32).toUInt32 &&& Int32.toUInt32 31)).toInt32) &&& 1431655765)
def bcE2 (x : Int32) : Int32 := (x &&& 858993459) + (((x.toUInt32 >>> ((2 : Int32).toUInt32 &&& Int32.toUInt32 31)).toInt32) &&& 858993459)
def bcE3 (x : Int32) : Int32 := (x + ((x.toUInt32 >>> ((4 : Int32).toUInt32 &&& Int32.toUInt32 31)).toInt32)) &&& 252645135
def bcE4 (x : Int32) : Int32 := x + ((x.toUInt32 >>> ((8 : Int32).toUInt32 &&& Int32.toUInt32 31)).toInt32)
def bcE5 (x : Int32) : Int32 := x + ((x.toUInt32 >>> ((16 : Int32).toUInt32 &&& Int32.toUInt32 31)).toInt32)
theorem bc_all : ∀ X, X < 256 → bcE5 (bcE4 (bcE3 (bcE2 (bcE1 (nI X))))) &&& 63 = nI (pcn (nI X)) := by decide +kernel
theorem t_bitCount {d al : Nat} {σ : pm_S} {x : Int32} (h : lt8 x) : PE d al MJ6_bitCount_0f7a4 [.int x] σ (some (.int (nI (pcn x)))) σ := by
  obtain ⟨X, hX, rfl⟩ := lt8_get h
  show PW _ _ _ _ _ _ _ _
  refine pw_iload_n dJ6_bitCount_0f7a4_0 rfl ?_
  refine pw_iload_n dJ6_bitCount_0f7a4_1 rfl ?_
  refine pw_iconst (v := 1) dJ6_bitCount_0f7a4_2 (by decide) ?_
  refine pw_iushr dJ6_bitCount_0f7a4_3 ?_
  refine pw_ldcw dJ6_bitCount_0f7a4_4 coJ6_265 ?_
  refine pw_iand dJ6_bitCount_0f7a4_7 ?_
  refine pw_isub dJ6_bitCount_0f7a4_8 ?_
  refine pw_istore_n dJ6_bitCount_0f7a4_9 (Nat.le_of_ble_eq_true rfl) (Nat.le_of_ble_eq_true rfl) rfl ?_
  refine pw_iload_n dJ6_bitCount_0f7a4_10 rfl ?_
  refine pw_ldcw dJ6_bitCount_0f7a4_11 coJ6_266 ?_
  refine pw_iand dJ6_bitCount_0f7a4_14 ?_
  refine pw_iload_n dJ6_bitCount_0f7a4_15 rfl ?_
  refine pw_iconst (v := 2) dJ6_bitCount_0f7a4_16 (by decide) ?_
  refine pw_iushr dJ6_bitCount_0f7a4_17 ?_
  refine pw_ldcw dJ6_bitCount_0f7a4_18 coJ6_266 ?_
  refine pw_iand dJ6_bitCount_0f7a4_21 ?_
  refine pw_iadd dJ6_bitCount_0f7a4_22 ?_
  refine pw_istore_n dJ6_bitCount_0f7a4_23 (Nat.le_of_ble_eq_true rfl) (Nat.le_of_ble_eq_true rfl) rfl ?_
  refine pw_iload_n dJ6_bitCount_0f7a4_24 rfl ?_
  refine pw_iload_n dJ6_bitCount_0f7a4_25 rfl ?_
  refine pw_iconst (v := 4) dJ6_bitCount_0f7a4_26 (by decide) ?_
  refine pw_iushr dJ6_bitCount_0f7a4_27 ?_
  refine pw_iadd dJ6_bitCount_0f7a4_28 ?_
  refine pw_ldcw dJ6_bitCount_0f7a4_29 coJ6_267 ?_
  refine pw_iand dJ6_bitCount_0f7a4_32 ?_
  refine pw_istore_n dJ6_bitCount_0f7a4_33 (Nat.le_of_ble_eq_true rfl) (Nat.le_of_ble_eq_true rfl) rfl ?_
  refine pw_iload_n dJ6_bitCount_0f7a4_34 rfl ?_
  refine pw_iload_n dJ6_bitCount_0f7a4_35 rfl ?_
  refine pw_bipush (v := 8) dJ6_bitCount_0f7a4_36 (by decide) ?_
  refine pw_iushr dJ6_bitCount_0f7a4_38 ?_
  refine pw_iadd dJ6_bitCount_0f7a4_39 ?_
  refine pw_istore_n dJ6_bitCount_0f7a4_40 (Nat.le_of_ble_eq_true rfl) (Nat.le_of_ble_eq_true rfl) rfl ?_
  refine pw_iload_n dJ6_bitCount_0f7a4_41 rfl ?_
  refine pw_iload_n dJ6_bitCount_0f7a4_42 rfl ?_
  refine pw_bipush (v := 16) dJ6_bitCount_0f7a4_43 (by decide) ?_
  refine pw_iushr dJ6_bitCount_0f7a4_45 ?_
  refine pw_iadd dJ6_bitCount_0f7a4_46 ?_
  refine pw_istore_n dJ6_bitCount_0f7a4_47 (Nat.le_of_ble_eq_true rfl) (Nat.le_of_ble_eq_true rfl) rfl ?_
  refine pw_iload_n dJ6_bitCount_0f7a4_48 rfl ?_
  refine pw_bipush (v := 63) dJ6_bitCount_0f7a4_49 (by decide) ?_
  refine pw_iand dJ6_bitCount_0f7a4_51 ?_
  refine pw_iret dJ6_bitCount_0f7a4_52 rfl rfl ?_
  refine ⟨?_, rfl⟩
  exact congrArg (fun v => some (Value.int v)) (bc_all X hX)
