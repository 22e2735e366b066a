/-! ===== the reference: its tokens ===== -/
def mT (σ : pm_S) (c : Nat → Nat) (L : Nat) : Prop := L ≤ 600 ∧ qI σ 43 30 = nI L ∧ ∀ p, p < L → qI σ 66 p = nI (c p) ∧ c p < 256
theorem s_see {d al L p : Nat} {σ : pm_S} {c : Nat → Nat} (hS : pm_fix σ) (hT : mT σ c L) (hp : p ≤ 1000) : PE d al MX12_see [.ref 43, .int (nI p)] σ (some (.int (if p < L then nI (c p) else -1))) σ := by
  show PW _ _ _ _ _ _ _ _
  have hL := hT.1
  refine pw_iload_n dX12_see_0 rfl ?_
  refine pw_aload_n dX12_see_1 rfl ?_
  refine pw_getI dX12_see_2 flX12_155 rfl (hS.at rfl rfl rfl) ?_
  refine pw_icmp_ge (tgt := 17) dX12_see_5 (by decide) (fun h5 => ?_) (fun h5 => ?_)
  · refine pw_iconst (v := (-1)) dX12_see_17 (by decide) ?_
    refine pw_iret dX12_see_18 rfl rfl ?_
    refine ⟨?_, rfl⟩
    first | rw [if_pos hpL, (hT.2.2 p hpL).1] | (rw [hT.2.1] at h5; have hno : ¬ p < L := (fun z => nI_ge z (by omega) h5); rw [if_neg hno])
  · rw [hT.2.1] at h5
    have hpL : p < L := by
      rcases Nat.lt_or_ge p L with z | z
      · exact z
      · exact absurd (nI_le z (by omega)) h5
    have hp6 : p < 600 := by omega
    refine pw_aload_n dX12_see_8 rfl ?_
    refine pw_getF (v := 66) dX12_see_9 flX12_76 rfl (hS.at rfl rfl rfl) (hS.rf (43, 29, 66) rfl (by decide)) ?_
    refine pw_iload_n dX12_see_12 rfl ?_
    refine pw_iald dX12_see_13 (hS.at rfl rfl rfl) rfl (hS.lt rfl rfl hp6 rfl) (by omega) ?_
    refine pw_goto (tgt := 18) dX12_see_14 (by decide) ?_
    refine pw_iret dX12_see_18 rfl rfl ?_
    refine ⟨?_, rfl⟩
    first | rw [if_pos hpL, (hT.2.2 p hpL).1] | (rw [hT.2.1] at h5; have hno : ¬ p < L := (fun z => nI_ge z (by omega) h5); rw [if_neg hno])
theorem s_isLetter {d al x : Nat} {σ : pm_S} (hd : 1 ≤ d) (hx : x < 256) : PE d al MX12_isLetter [.int (nI x)] σ (some (.int (bI (lE x)))) σ := by
  show PW _ _ _ _ _ _ _ _
  have e1 : ((97 : Int32) ≤ nI x ∧ nI x ≤ 122) ↔ (97 ≤ x ∧ x ≤ 122) := by rw [show (97 : Int32) = nI 97 from rfl, show (122 : Int32) = nI 122 from rfl, i_le' (by decide) (by omega), i_le' (by omega) (by decide)]
  have e2 : ((65 : Int32) ≤ nI x ∧ nI x ≤ 90) ↔ (65 ≤ x ∧ x ≤ 90) := by rw [show (65 : Int32) = nI 65 from rfl, show (90 : Int32) = nI 90 from rfl, i_le' (by decide) (by omega), i_le' (by omega) (by decide)]
  refine pw_iload_n dX12_isLetter_0 rfl ?_
  refine pw_bipush (v := 97) dX12_isLetter_1 (by decide) ?_
  refine pw_bipush (v := 122) dX12_isLetter_3 (by decide) ?_
  refine pw_cS3 (d1 := d - 1) (a1 := 0) (a2 := al) dX12_isLetter_5 mtX12_isIn stX12_isIn mlX12_86 (Nat.le_of_ble_eq_true rfl) (Nat.le_of_ble_eq_true rfl) (by omega) (by omega) (s_isIn _ _ _) ?_
  rintro r_ τ_ ⟨hr_, ht_⟩; subst r_; subst τ_
  refine pw_if_ne (tgt := 22) dX12_isLetter_8 (by decide) (fun h8 => ?_) (fun h8 => ?_)
  · refine pw_iconst (v := 1) dX12_isLetter_22 (by decide) ?_
    refine pw_goto (tgt := 27) dX12_isLetter_23 (by decide) ?_
    refine pw_iret dX12_isLetter_27 rfl (by first | rfl | exact bI_nar) ?_
    refine ⟨?_, rfl⟩
    by_cases hz : lE x
    · rw [bI_t hz]
      first | done | rfl | exact absurd hz (fun z => z.elim (fun y => bI_0.mp h8 (e1.mpr y)) (fun y => bI_0.mp h19 (e2.mpr y)))
    · rw [bI_f hz]
      first | done | rfl | exact absurd (Or.inl (e1.mp (bI_n.mp h8))) hz | exact absurd (Or.inr (e2.mp (bI_n.mp h19))) hz
  · refine pw_iload_n dX12_isLetter_11 rfl ?_
    refine pw_bipush (v := 65) dX12_isLetter_12 (by decide) ?_
    refine pw_bipush (v := 90) dX12_isLetter_14 (by decide) ?_
    refine pw_cS3 (d1 := d - 1) (a1 := 0) (a2 := al) dX12_isLetter_16 mtX12_isIn stX12_isIn mlX12_86 (Nat.le_of_ble_eq_true rfl) (Nat.le_of_ble_eq_true rfl) (by omega) (by omega) (s_isIn _ _ _) ?_
    rintro r_ τ_ ⟨hr_, ht_⟩; subst r_; subst τ_
    refine pw_if_eq (tgt := 26) dX12_isLetter_19 (by decide) (fun h19 => ?_) (fun h19 => ?_)
    · refine pw_iconst (v := 0) dX12_isLetter_26 (by decide) ?_
      refine pw_iret dX12_isLetter_27 rfl (by first | rfl | exact bI_nar) ?_
      refine ⟨?_, rfl⟩
      by_cases hz : lE x
      · rw [bI_t hz]
        first | done | rfl | exact absurd hz (fun z => z.elim (fun y => bI_0.mp h8 (e1.mpr y)) (fun y => bI_0.mp h19 (e2.mpr y)))
      · rw [bI_f hz]
        first | done | rfl | exact absurd (Or.inl (e1.mp (bI_n.mp h8))) hz | exact absurd (Or.inr (e2.mp (bI_n.mp h19))) hz
    · refine pw_iconst (v := 1) dX12_isLetter_22 (by decide) ?_
      refine pw_goto (tgt := 27) dX12_isLetter_23 (by decide) ?_
      refine pw_iret dX12_isLetter_27 rfl (by first | rfl | exact bI_nar) ?_
      refine ⟨?_, rfl⟩
      by_cases hz : lE x
      · rw [bI_t hz]
        first | done | rfl | exact absurd hz (fun z => z.elim (fun y => bI_0.mp h8 (e1.mpr y)) (fun y => bI_0.mp h19 (e2.mpr y)))
      · rw [bI_f hz]
        first | done | rfl | exact absurd (Or.inl (e1.mp (bI_n.mp h8))) hz | exact absurd (Or.inr (e2.mp (bI_n.mp h19))) hz
theorem s_isLetter_n {d al : Nat} {σ : pm_S} (hd : 1 ≤ d) : PE d al MX12_isLetter [.int (-1)] σ (some (.int 0)) σ := by
  show PW _ _ _ _ _ _ _ _
  refine pw_iload_n dX12_isLetter_0 rfl ?_
  refine pw_bipush (v := 97) dX12_isLetter_1 (by decide) ?_
  refine pw_bipush (v := 122) dX12_isLetter_3 (by decide) ?_
  refine pw_cS3 (d1 := d - 1) (a1 := 0) (a2 := al) dX12_isLetter_5 mtX12_isIn stX12_isIn mlX12_86 (Nat.le_of_ble_eq_true rfl) (Nat.le_of_ble_eq_true rfl) (by omega) (by omega) (s_isIn _ _ _) ?_
  rintro r_ τ_ ⟨hr_, ht_⟩; subst r_; subst τ_
  refine pw_if_ne (tgt := 22) dX12_isLetter_8 (by decide) (fun h8 => ?_) (fun h8 => ?_)
  · exact absurd (bI_f (by decide)) h8
  · refine pw_iload_n dX12_isLetter_11 rfl ?_
    refine pw_bipush (v := 65) dX12_isLetter_12 (by decide) ?_
    refine pw_bipush (v := 90) dX12_isLetter_14 (by decide) ?_
    refine pw_cS3 (d1 := d - 1) (a1 := 0) (a2 := al) dX12_isLetter_16 mtX12_isIn stX12_isIn mlX12_86 (Nat.le_of_ble_eq_true rfl) (Nat.le_of_ble_eq_true rfl) (by omega) (by omega) (s_isIn _ _ _) ?_
    rintro r_ τ_ ⟨hr_, ht_⟩; subst r_; subst τ_
    refine pw_if_eq (tgt := 26) dX12_isLetter_19 (by decide) (fun h19 => ?_) (fun h19 => ?_)
    · refine pw_iconst (v := 0) dX12_isLetter_26 (by decide) ?_
      refine pw_iret dX12_isLetter_27 rfl (by first | rfl | exact bI_nar) ?_
      exact ⟨rfl, rfl⟩
    · exact absurd (bI_f (by decide)) h19
theorem s_isDigit {d al x : Nat} {σ : pm_S} (hd : 1 ≤ d) (hx : x < 256) : PE d al MX12_isDigit [.int (nI x)] σ (some (.int (bI (lD x)))) σ := by
  show PW _ _ _ _ _ _ _ _
  have e1 : ((48 : Int32) ≤ nI x ∧ nI x ≤ 57) ↔ (48 ≤ x ∧ x ≤ 57) := by rw [show (48 : Int32) = nI 48 from rfl, show (57 : Int32) = nI 57 from rfl, i_le' (by decide) (by omega), i_le' (by omega) (by decide)]
  refine pw_iload_n dX12_isDigit_0 rfl ?_
  refine pw_bipush (v := 48) dX12_isDigit_1 (by decide) ?_
  refine pw_bipush (v := 57) dX12_isDigit_3 (by decide) ?_
  refine pw_cS3 (d1 := d - 1) (a1 := 0) (a2 := al) dX12_isDigit_5 mtX12_isIn stX12_isIn mlX12_86 (Nat.le_of_ble_eq_true rfl) (Nat.le_of_ble_eq_true rfl) (by omega) (by omega) (s_isIn _ _ _) ?_
  rintro r_ τ_ ⟨hr_, ht_⟩; subst r_; subst τ_
  refine pw_iret dX12_isDigit_8 rfl (by first | rfl | exact bI_nar) ?_
  exact ⟨by rw [bI_c e1], rfl⟩
theorem s_isDigit_n {d al : Nat} {σ : pm_S} (hd : 1 ≤ d) : PE d al MX12_isDigit [.int (-1)] σ (some (.int 0)) σ := by
  show PW _ _ _ _ _ _ _ _
  refine pw_iload_n dX12_isDigit_0 rfl ?_
  refine pw_bipush (v := 48) dX12_isDigit_1 (by decide) ?_
  refine pw_bipush (v := 57) dX12_isDigit_3 (by decide) ?_
  refine pw_cS3 (d1 := d - 1) (a1 := 0) (a2 := al) dX12_isDigit_5 mtX12_isIn stX12_isIn mlX12_86 (Nat.le_of_ble_eq_true rfl) (Nat.le_of_ble_eq_true rfl) (by omega) (by omega) (s_isIn _ _ _) ?_
  rintro r_ τ_ ⟨hr_, ht_⟩; subst r_; subst τ_
  refine pw_iret dX12_isDigit_8 rfl (by first | rfl | exact bI_nar) ?_
  exact ⟨by rw [bI_f (by decide)], rfl⟩
/-! longs as numbers -/
def jL (n : Nat) : Int64 := Int64.ofNat n
theorem jL_tb (n : Nat) : (jL n).toBitVec = BitVec.ofNat 64 n := rfl
theorem jL_inj {a b : Nat} (ha : a < 2 ^ 64) (hb : b < 2 ^ 64) (h : jL a = jL b) : a = b := by
  have h1 : (jL a).toBitVec.toNat = (jL b).toBitVec.toNat := by rw [h]
  rw [jL_tb, jL_tb, BitVec.toNat_ofNat, BitVec.toNat_ofNat, Nat.mod_eq_of_lt ha, Nat.mod_eq_of_lt hb] at h1
  exact h1
theorem jL_shl (n : Nat) (h : n * 256 < 2 ^ 64) : jL n <<< ((8 : Int32).toInt64 &&& 63) = jL (n * 256) := by
  have e : ((8 : Int32).toInt64 &&& 63) = 8 := by decide
  rw [e]
  apply Int64.toBitVec_inj.mp
  rw [Int64.toBitVec_shiftLeft, jL_tb, jL_tb]
  apply BitVec.eq_of_toNat_eq
  have e2 : ((8 : Int64).toBitVec.smod 64) = BitVec.ofNat 64 8 := by decide
  rw [e2, BitVec.shiftLeft_eq', BitVec.toNat_shiftLeft, BitVec.toNat_ofNat, BitVec.toNat_ofNat, BitVec.toNat_ofNat, Nat.mod_eq_of_lt (show 8 < 2 ^ 64 by decide), Nat.shiftLeft_eq, Nat.mod_eq_of_lt (show n < 2 ^ 64 by omega)]
theorem jL_or (n x : Nat) (hx : x < 256) (h : n * 256 + x < 2 ^ 64) : jL (n * 256) ||| jL x = jL (n * 256 + x) := by
  apply Int64.toBitVec_inj.mp
  rw [Int64.toBitVec_or, jL_tb, jL_tb, jL_tb]
  apply BitVec.eq_of_toNat_eq
  rw [BitVec.toNat_or, BitVec.toNat_ofNat, BitVec.toNat_ofNat, BitVec.toNat_ofNat, Nat.mod_eq_of_lt (Nat.lt_of_le_of_lt (Nat.le_add_right _ _) h), Nat.mod_eq_of_lt (Nat.lt_trans hx (by decide)), Nat.mod_eq_of_lt h]
  have := Nat.shiftLeft_add_eq_or_of_lt (i := 8) (b := x) (by omega) n
  rw [Nat.shiftLeft_eq] at this
  exact this.symm
theorem jL_i2l : ∀ x, x < 256 → (nI x).toInt64 = jL x := by decide +kernel
theorem lc0 {x y : Int64} : lg_cmp x y = 0 ↔ x = y := by
  unfold lg_cmp
  constructor
  · intro h
    split at h
    · exact absurd h (by decide)
    · split at h
      · assumption
      · first | exact absurd h (by decide) | assumption
  · intro h
    subst h
    simp
