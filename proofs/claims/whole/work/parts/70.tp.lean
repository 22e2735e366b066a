/-! ===== the class: the tape ===== -/
abbrev b8 (x : Int32) : Int32 := x.toInt8.toInt32.toInt8.toInt32
theorem b8_1 (x : Int32) {i : Nat} (hi : i < 8) : bt x.toInt8.toInt32 i = bt x i := by
  unfold bt
  rw [Int8.toBitVec_toInt32, Int32.toBitVec_toInt8, BitVec.getLsbD_signExtend, BitVec.getLsbD_signExtend, if_pos hi, if_pos (by omega)]
  simp only [hi, show i < 32 by omega, decide_true, Bool.true_and]
theorem b8_and (x : Int32) : b8 x &&& 255 = x &&& 255 := by
  apply b_ext
  intro i hi
  rw [b_and, b_and, b_255]
  by_cases z : i < 8
  · rw [b8_1 _ z, b8_1 _ z]
  · rw [decide_eq_false z, Bool.and_false, Bool.and_false]
theorem t_tlen {d al : Nat} {σ : pm_S} (hS : pm_fix σ) : PE d al MX7_length [.ref 17] σ (some (.int (qI σ 17 1))) σ := by
  show PW _ _ _ _ _ _ _ _
  refine pw_aload_n dX7_length_0 rfl ?_
  refine pw_getI dX7_length_1 flX7_15 rfl (hS.at rfl rfl rfl) ?_
  refine pw_iret dX7_length_4 rfl rfl ?_
  exact ⟨rfl, rfl⟩
theorem t_room {d al n k : Nat} {σ : pm_S} (hS : pm_fix σ) (hn : qI σ 17 1 = nI n) (hn2 : n ≤ 600) (hk : k ≤ 5) : PE d al MX7_hasRoomFor [.ref 17, .int (nI k)] σ (some (.int (bI (n + 4 * k ≤ 600)))) σ := by
  show PW _ _ _ _ _ _ _ _
  have e : nI n + 4 * nI k = nI (n + 4 * k) := by rw [show (4 : Int32) = nI 4 from rfl, pk_mul, nI_add]
  refine pw_aload_n dX7_hasRoomFor_0 rfl ?_
  refine pw_getI dX7_hasRoomFor_1 flX7_15 rfl (hS.at rfl rfl rfl) ?_
  refine pw_iconst (v := 4) dX7_hasRoomFor_4 (by decide) ?_
  refine pw_iload_n dX7_hasRoomFor_5 rfl ?_
  refine pw_imul dX7_hasRoomFor_6 ?_
  refine pw_iadd dX7_hasRoomFor_7 ?_
  refine pw_sipush (v := 600) dX7_hasRoomFor_8 (by decide) ?_
  refine pw_icmp_gt (tgt := 18) dX7_hasRoomFor_11 (by decide) (fun h11 => ?_) (fun h11 => ?_)
  · refine pw_iconst (v := 0) dX7_hasRoomFor_18 (by decide) ?_
    refine pw_iret dX7_hasRoomFor_19 rfl (by first | rfl | exact bI_nar) ?_
    rw [hn, e] at h11
    by_cases hf : n + 4 * k ≤ 600
    · rw [bI_t hf]
      first | exact ⟨rfl, rfl⟩ | exact absurd h11 (nI_nlt (b := n + 4 * k) (a := 600) hf (by decide))
    · rw [bI_f hf]
      first | exact ⟨rfl, rfl⟩ | exact absurd (nI_lt (show 600 < n + 4 * k by omega) (by omega)) h11
  · refine pw_iconst (v := 1) dX7_hasRoomFor_14 (by decide) ?_
    refine pw_goto (tgt := 19) dX7_hasRoomFor_15 (by decide) ?_
    refine pw_iret dX7_hasRoomFor_19 rfl (by first | rfl | exact bI_nar) ?_
    rw [hn, e] at h11
    by_cases hf : n + 4 * k ≤ 600
    · rw [bI_t hf]
      first | exact ⟨rfl, rfl⟩ | exact absurd h11 (nI_nlt (b := n + 4 * k) (a := 600) hf (by decide))
    · rw [bI_f hf]
      first | exact ⟨rfl, rfl⟩ | exact absurd (nI_lt (show 600 < n + 4 * k by omega) (by omega)) h11
def c_ap (σ : pm_S) (n : Nat) (v : Int32) : pm_S := pm_sI (pm_sI (pm_sI (pm_sI (pm_sI σ 18 n (b8 (v >>> ((24 : Int32) &&& 31)))) 18 (n + 1) (b8 (v >>> ((16 : Int32) &&& 31)))) 18 (n + 2) (b8 (v >>> ((8 : Int32) &&& 31)))) 18 (n + 3) (b8 v)) 17 1 (nI (n + 4))
theorem t_append {d al n : Nat} {σ : pm_S} (hd : 1 ≤ d) (hS : pm_fix σ) (hn : qI σ 17 1 = nI n) (hn2 : n + 4 ≤ 600) (v : Int32) : PE d al MX7_append [.ref 17, .int v] σ none (c_ap σ n v) := by
  show PW _ _ _ _ _ _ _ _
  have h0 : n < 600 := by omega
  have h1 : n + 1 < 600 := by omega
  have h2 : n + 2 < 600 := by omega
  have h3 : n + 3 < 600 := by omega
  have e1 : qI σ 17 1 + 1 = nI (n + 1) := by rw [hn, ← nI_succ]
  have e2 : qI σ 17 1 + 2 = nI (n + 2) := by rw [hn]; exact nI_add n 2
  have e3 : qI σ 17 1 + 3 = nI (n + 3) := by rw [hn]; exact nI_add n 3
  have e4 : qI σ 17 1 + 4 = nI (n + 4) := by rw [hn]; exact nI_add n 4
  refine pw_aload_n dX7_append_0 rfl ?_
  refine pw_iconst (v := 1) dX7_append_1 (by decide) ?_
  refine pw_cV1 (d1 := d - 1) (a1 := 0) (a2 := al) dX7_append_2 mtX7_hasRoomFor ivX7_hasRoomFor mlX7_19 (Nat.le_of_ble_eq_true rfl) (Nat.le_of_ble_eq_true rfl) (by omega) (by omega) (hS.at rfl rfl rfl) rfl rfl (t_room (k := 1) hS hn (by omega) (by decide)) ?_
  rintro r_ τ_ ⟨hr_, ht_⟩; subst r_; subst τ_
  refine pw_if_ne (tgt := 9) dX7_append_5 (by decide) (fun h5 => ?_) (fun h5 => ?_)
  · refine pw_aload_n dX7_append_9 rfl ?_
    refine pw_getF (v := 18) dX7_append_10 flX7_11 rfl (hS.at rfl rfl rfl) (hS.rf (17, 0, 18) rfl (by decide)) ?_
    refine pw_aload_n dX7_append_13 rfl ?_
    refine pw_getI dX7_append_14 flX7_15 rfl (hS.at rfl rfl rfl) ?_
    refine pw_iload_n dX7_append_17 rfl ?_
    refine pw_bipush (v := 24) dX7_append_18 (by decide) ?_
    refine pw_ishr dX7_append_20 ?_
    refine pw_i2b dX7_append_21 ?_
    refine pw_bast dX7_append_22 (hS.at rfl rfl rfl) (by decide) hn (hS.lt rfl rfl h0 rfl) (by omega) ?_
    refine pw_aload_n dX7_append_23 rfl ?_
    refine pw_getF (v := 18) dX7_append_24 flX7_11 rfl (hS.at rfl rfl rfl) (hS.rf (17, 0, 18) rfl (by decide)) ?_
    refine pw_aload_n dX7_append_27 rfl ?_
    refine pw_getI dX7_append_28 flX7_15 rfl (hS.at rfl rfl rfl) ?_
    refine pw_iconst (v := 1) dX7_append_31 (by decide) ?_
    refine pw_iadd dX7_append_32 ?_
    refine pw_iload_n dX7_append_33 rfl ?_
    refine pw_bipush (v := 16) dX7_append_34 (by decide) ?_
    refine pw_ishr dX7_append_36 ?_
    refine pw_i2b dX7_append_37 ?_
    refine pw_bast dX7_append_38 (hS.at rfl rfl rfl) (by decide) e1 (hS.lt rfl rfl h1 rfl) (by omega) ?_
    refine pw_aload_n dX7_append_39 rfl ?_
    refine pw_getF (v := 18) dX7_append_40 flX7_11 rfl (hS.at rfl rfl rfl) (hS.rf (17, 0, 18) rfl (by decide)) ?_
    refine pw_aload_n dX7_append_43 rfl ?_
    refine pw_getI dX7_append_44 flX7_15 rfl (hS.at rfl rfl rfl) ?_
    refine pw_iconst (v := 2) dX7_append_47 (by decide) ?_
    refine pw_iadd dX7_append_48 ?_
    refine pw_iload_n dX7_append_49 rfl ?_
    refine pw_bipush (v := 8) dX7_append_50 (by decide) ?_
    refine pw_ishr dX7_append_52 ?_
    refine pw_i2b dX7_append_53 ?_
    refine pw_bast dX7_append_54 (hS.at rfl rfl rfl) (by decide) e2 (hS.lt rfl rfl h2 rfl) (by omega) ?_
    refine pw_aload_n dX7_append_55 rfl ?_
    refine pw_getF (v := 18) dX7_append_56 flX7_11 rfl (hS.at rfl rfl rfl) (hS.rf (17, 0, 18) rfl (by decide)) ?_
    refine pw_aload_n dX7_append_59 rfl ?_
    refine pw_getI dX7_append_60 flX7_15 rfl (hS.at rfl rfl rfl) ?_
    refine pw_iconst (v := 3) dX7_append_63 (by decide) ?_
    refine pw_iadd dX7_append_64 ?_
    refine pw_iload_n dX7_append_65 rfl ?_
    refine pw_i2b dX7_append_66 ?_
    refine pw_bast dX7_append_67 (hS.at rfl rfl rfl) (by decide) e3 (hS.lt rfl rfl h3 rfl) (by omega) ?_
    refine pw_aload_n dX7_append_68 rfl ?_
    refine pw_dup dX7_append_69 rfl ?_
    refine pw_getI dX7_append_70 flX7_15 rfl (hS.at rfl rfl rfl) ?_
    refine pw_iconst (v := 4) dX7_append_73 (by decide) ?_
    refine pw_iadd dX7_append_74 ?_
    refine pw_putI dX7_append_75 flX7_15 ⟨_, rfl, Or.inl rfl⟩ rfl (hS.at rfl rfl rfl) ?_
    refine pw_vret dX7_append_78 rfl ?_
    refine ⟨rfl, ?_⟩
    unfold c_ap
    rw [← e4]
    rfl
  · exact absurd (show n + 4 * 1 ≤ 600 by omega) (bI_0.mp h5)
def c_fd5 (σ : pm_S) (n : Nat) (a b c d e : Int32) : pm_S := c_ap (c_ap (c_ap (c_ap (c_ap σ n a) (n + 4) b) (n + 8) c) (n + 12) d) (n + 16) e
theorem c_ap_fix {σ : pm_S} (hS : pm_fix σ) (n : Nat) (v : Int32) : pm_fix (c_ap σ n v) := hS.sI.sI.sI.sI.sI
theorem c_ap_17 (σ : pm_S) (n : Nat) (v : Int32) : qI (c_ap σ n v) 17 1 = nI (n + 4) := qI_sI_eq
theorem t_feed {d al n : Nat} {σ : pm_S} (hd : 2 ≤ d) (hS : pm_fix σ) (hn : qI σ 17 1 = nI n) (hn2 : n ≤ 600) (a b c dv e : Int32) : PE d al MX11_feed [.ref 6, .int a, .int b, .int c, .int dv, .int e] σ (some (.int (if n + 20 ≤ 600 then nI (n + 20) else -1))) (if n + 20 ≤ 600 then c_fd5 σ n a b c dv e else σ) := by
  show PW _ _ _ _ _ _ _ _
  have hS1 := c_ap_fix hS n a
  have hS2 := c_ap_fix hS1 (n + 4) b
  have hS3 := c_ap_fix hS2 (n + 8) c
  have hS4 := c_ap_fix hS3 (n + 12) dv
  have hS5 := c_ap_fix hS4 (n + 16) e
  refine pw_aload_n dX11_feed_0 rfl ?_
  refine pw_getF (v := 17) dX11_feed_1 flX11_33 rfl (hS.at rfl rfl rfl) (hS.rf (6, 4, 17) rfl (by decide)) ?_
  refine pw_iconst (v := 5) dX11_feed_4 (by decide) ?_
  refine pw_cV1 (d1 := d - 1) (a1 := 0) (a2 := al) dX11_feed_5 mtX7_hasRoomFor ivX7_hasRoomFor mlX11_226 (Nat.le_of_ble_eq_true rfl) (Nat.le_of_ble_eq_true rfl) (by omega) (by omega) (hS.at rfl rfl rfl) rfl rfl (t_room (k := 5) hS hn hn2 (by decide)) ?_
  rintro r_ τ_ ⟨hr_, ht_⟩; subst r_; subst τ_
  refine pw_if_ne (tgt := 13) dX11_feed_8 (by decide) (fun h8 => ?_) (fun h8 => ?_)
  · have hok : n + 20 ≤ 600 := bI_n.mp h8
    rw [if_pos hok, if_pos hok]
    refine pw_aload_n dX11_feed_13 rfl ?_
    refine pw_getF (v := 17) dX11_feed_14 flX11_33 rfl (hS.at rfl rfl rfl) (hS.rf (6, 4, 17) rfl (by decide)) ?_
    refine pw_iload_n dX11_feed_17 rfl ?_
    refine pw_cV1 (d1 := d - 1) (a1 := 0) (a2 := al) dX11_feed_18 mtX7_append ivX7_append mlX11_229 (Nat.le_of_ble_eq_true rfl) (Nat.le_of_ble_eq_true rfl) (by omega) (by omega) (hS.at rfl rfl rfl) rfl rfl (t_append (by omega) hS hn (by omega) _) ?_
    rintro r_ τ_ ⟨hr_, ht_⟩; subst r_; subst τ_
    refine pw_aload_n dX11_feed_21 rfl ?_
    refine pw_getF (v := 17) dX11_feed_22 flX11_33 rfl (hS.at rfl rfl rfl) (hS.rf (6, 4, 17) rfl (by decide)) ?_
    refine pw_iload_n dX11_feed_25 rfl ?_
    refine pw_cV1 (d1 := d - 1) (a1 := 0) (a2 := al) dX11_feed_26 mtX7_append ivX7_append mlX11_229 (Nat.le_of_ble_eq_true rfl) (Nat.le_of_ble_eq_true rfl) (by omega) (by omega) (hS.at rfl rfl rfl) rfl rfl (t_append (by omega) hS1 (c_ap_17 _ _ _) (by omega) _) ?_
    rintro r_ τ_ ⟨hr_, ht_⟩; subst r_; subst τ_
    refine pw_aload_n dX11_feed_29 rfl ?_
    refine pw_getF (v := 17) dX11_feed_30 flX11_33 rfl (hS.at rfl rfl rfl) (hS.rf (6, 4, 17) rfl (by decide)) ?_
    refine pw_iload_n dX11_feed_33 rfl ?_
    refine pw_cV1 (d1 := d - 1) (a1 := 0) (a2 := al) dX11_feed_34 mtX7_append ivX7_append mlX11_229 (Nat.le_of_ble_eq_true rfl) (Nat.le_of_ble_eq_true rfl) (by omega) (by omega) (hS.at rfl rfl rfl) rfl rfl (t_append (by omega) hS2 (c_ap_17 _ _ _) (by omega) _) ?_
    rintro r_ τ_ ⟨hr_, ht_⟩; subst r_; subst τ_
    refine pw_aload_n dX11_feed_37 rfl ?_
    refine pw_getF (v := 17) dX11_feed_38 flX11_33 rfl (hS.at rfl rfl rfl) (hS.rf (6, 4, 17) rfl (by decide)) ?_
    refine pw_iload dX11_feed_41 rfl ?_
    refine pw_cV1 (d1 := d - 1) (a1 := 0) (a2 := al) dX11_feed_43 mtX7_append ivX7_append mlX11_229 (Nat.le_of_ble_eq_true rfl) (Nat.le_of_ble_eq_true rfl) (by omega) (by omega) (hS.at rfl rfl rfl) rfl rfl (t_append (by omega) hS3 (c_ap_17 _ _ _) (by omega) _) ?_
    rintro r_ τ_ ⟨hr_, ht_⟩; subst r_; subst τ_
    refine pw_aload_n dX11_feed_46 rfl ?_
    refine pw_getF (v := 17) dX11_feed_47 flX11_33 rfl (hS.at rfl rfl rfl) (hS.rf (6, 4, 17) rfl (by decide)) ?_
    refine pw_iload dX11_feed_50 rfl ?_
    refine pw_cV1 (d1 := d - 1) (a1 := 0) (a2 := al) dX11_feed_52 mtX7_append ivX7_append mlX11_229 (Nat.le_of_ble_eq_true rfl) (Nat.le_of_ble_eq_true rfl) (by omega) (by omega) (hS.at rfl rfl rfl) rfl rfl (t_append (by omega) hS4 (c_ap_17 _ _ _) (by omega) _) ?_
    rintro r_ τ_ ⟨hr_, ht_⟩; subst r_; subst τ_
    refine pw_aload_n dX11_feed_55 rfl ?_
    refine pw_getF (v := 17) dX11_feed_56 flX11_33 rfl (hS.at rfl rfl rfl) (hS.rf (6, 4, 17) rfl (by decide)) ?_
    refine pw_cV0 (d1 := d - 1) (a1 := 0) (a2 := al) dX11_feed_59 mtX7_length ivX7_length mlX11_232 (Nat.le_of_ble_eq_true rfl) (Nat.le_of_ble_eq_true rfl) (by omega) (by omega) (hS.at rfl rfl rfl) rfl rfl (t_tlen hS5) ?_
    rintro r_ τ_ ⟨hr_, ht_⟩; subst r_; subst τ_
    refine pw_iret dX11_feed_62 rfl rfl ?_
    refine ⟨?_, rfl⟩
    rw [c_ap_17]
  · refine pw_iconst (v := (-1)) dX11_feed_11 (by decide) ?_
    refine pw_iret dX11_feed_12 rfl rfl ?_
    have hno : ¬ n + 20 ≤ 600 := bI_0.mp h8
    exact ⟨by rw [if_neg hno], by rw [if_neg hno]⟩
theorem t_cut {d al : Nat} {σ : pm_S} (hS : pm_fix σ) (n : Int32) : PE d al MX7_cut [.ref 17, .int n] σ none (if 0 ≤ n ∧ n ≤ qI σ 17 1 then pm_sI σ 17 1 n else σ) := by
  show PW _ _ _ _ _ _ _ _
  refine pw_iload_n dX7_cut_0 rfl ?_
  refine pw_if_lt (tgt := 17) dX7_cut_1 (by decide) (fun h1 => ?_) (fun h1 => ?_)
  · refine pw_vret dX7_cut_17 rfl ?_
    refine ⟨rfl, ?_⟩
    first | (have hno : ¬ (0 ≤ n ∧ n ≤ qI σ 17 1) := (fun z => Int32.not_lt.mpr z.1 h1); rw [if_neg hno]) | (have hno : ¬ (0 ≤ n ∧ n ≤ qI σ 17 1) := (fun z => Int32.not_lt.mpr z.2 h9); rw [if_neg hno]) | (have hok : 0 ≤ n ∧ n ≤ qI σ 17 1 := ⟨Int32.not_lt.mp h1, Int32.not_lt.mp h9⟩; rw [if_pos hok])
  · refine pw_iload_n dX7_cut_4 rfl ?_
    refine pw_aload_n dX7_cut_5 rfl ?_
    refine pw_getI dX7_cut_6 flX7_15 rfl (hS.at rfl rfl rfl) ?_
    refine pw_icmp_gt (tgt := 17) dX7_cut_9 (by decide) (fun h9 => ?_) (fun h9 => ?_)
    · refine pw_vret dX7_cut_17 rfl ?_
      refine ⟨rfl, ?_⟩
      first | (have hno : ¬ (0 ≤ n ∧ n ≤ qI σ 17 1) := (fun z => Int32.not_lt.mpr z.1 h1); rw [if_neg hno]) | (have hno : ¬ (0 ≤ n ∧ n ≤ qI σ 17 1) := (fun z => Int32.not_lt.mpr z.2 h9); rw [if_neg hno]) | (have hok : 0 ≤ n ∧ n ≤ qI σ 17 1 := ⟨Int32.not_lt.mp h1, Int32.not_lt.mp h9⟩; rw [if_pos hok])
    · refine pw_aload_n dX7_cut_12 rfl ?_
      refine pw_iload_n dX7_cut_13 rfl ?_
      refine pw_putI dX7_cut_14 flX7_15 ⟨_, rfl, Or.inl rfl⟩ rfl (hS.at rfl rfl rfl) ?_
      refine pw_vret dX7_cut_17 rfl ?_
      refine ⟨rfl, ?_⟩
      first | (have hno : ¬ (0 ≤ n ∧ n ≤ qI σ 17 1) := (fun z => Int32.not_lt.mpr z.1 h1); rw [if_neg hno]) | (have hno : ¬ (0 ≤ n ∧ n ≤ qI σ 17 1) := (fun z => Int32.not_lt.mpr z.2 h9); rw [if_neg hno]) | (have hok : 0 ≤ n ∧ n ≤ qI σ 17 1 := ⟨Int32.not_lt.mp h1, Int32.not_lt.mp h9⟩; rw [if_pos hok])
theorem t_end {d al : Nat} {σ : pm_S} (hd : 1 ≤ d) (hS : pm_fix σ) (n : Int32) : PE d al MX11_end [.ref 6, .int n] σ (some (.int (bI (0 ≤ n ∧ n ≤ qI σ 17 1)))) (if 0 ≤ n ∧ n ≤ qI σ 17 1 then pm_sI σ 17 1 n else σ) := by
  show PW _ _ _ _ _ _ _ _
  refine pw_iload_n dX11_end_0 rfl ?_
  refine pw_iconst (v := 0) dX11_end_1 (by decide) ?_
  refine pw_aload_n dX11_end_2 rfl ?_
  refine pw_getF (v := 17) dX11_end_3 flX11_33 rfl (hS.at rfl rfl rfl) (hS.rf (6, 4, 17) rfl (by decide)) ?_
  refine pw_cV0 (d1 := d - 1) (a1 := 0) (a2 := al) dX11_end_6 mtX7_length ivX7_length mlX11_232 (Nat.le_of_ble_eq_true rfl) (Nat.le_of_ble_eq_true rfl) (by omega) (by omega) (hS.at rfl rfl rfl) rfl rfl (t_tlen hS) ?_
  rintro r_ τ_ ⟨hr_, ht_⟩; subst r_; subst τ_
  refine pw_cS3 (d1 := d - 1) (a1 := 0) (a2 := al) dX11_end_9 mtX11_isWithin stX11_isWithin mlX11_79 (Nat.le_of_ble_eq_true rfl) (Nat.le_of_ble_eq_true rfl) (by omega) (by omega) (t_within _ _ _) ?_
  rintro r_ τ_ ⟨hr_, ht_⟩; subst r_; subst τ_
  refine pw_if_ne (tgt := 17) dX11_end_12 (by decide) (fun h12 => ?_) (fun h12 => ?_)
  · refine pw_aload_n dX11_end_17 rfl ?_
    refine pw_getF (v := 17) dX11_end_18 flX11_33 rfl (hS.at rfl rfl rfl) (hS.rf (6, 4, 17) rfl (by decide)) ?_
    refine pw_iload_n dX11_end_21 rfl ?_
    refine pw_cV1 (d1 := d - 1) (a1 := 0) (a2 := al) dX11_end_22 mtX7_cut ivX7_cut mlX11_235 (Nat.le_of_ble_eq_true rfl) (Nat.le_of_ble_eq_true rfl) (by omega) (by omega) (hS.at rfl rfl rfl) rfl rfl (t_cut hS _) ?_
    rintro r_ τ_ ⟨hr_, ht_⟩; subst r_; subst τ_
    refine pw_iconst (v := 1) dX11_end_25 (by decide) ?_
    refine pw_iret dX11_end_26 rfl (by first | rfl | exact bI_nar) ?_
    have hok := bI_n.mp h12
    exact ⟨by rw [bI_t hok], rfl⟩
  · refine pw_iconst (v := 0) dX11_end_15 (by decide) ?_
    refine pw_iret dX11_end_16 rfl (by first | rfl | exact bI_nar) ?_
    have hno := bI_0.mp h12
    exact ⟨by rw [bI_f hno], by rw [if_neg hno]⟩
theorem t_tat {d al n k : Nat} {σ : pm_S} (hS : pm_fix σ) (hn : qI σ 17 1 = nI n) (hn2 : n ≤ 600) (hk : k ≤ 1000) : PE d al MX7_at [.ref 17, .int (nI k)] σ (some (.int (if k < n then qI σ 18 k &&& 255 else -1))) σ := by
  show PW _ _ _ _ _ _ _ _
  refine pw_iload_n dX7_at_0 rfl ?_
  refine pw_if_lt (tgt := 25) dX7_at_1 (by decide) (fun h1 => ?_) (fun h1 => ?_)
  · exact absurd h1 (nI_pos (by omega))
  · refine pw_iload_n dX7_at_4 rfl ?_
    refine pw_aload_n dX7_at_5 rfl ?_
    refine pw_getI dX7_at_6 flX7_15 rfl (hS.at rfl rfl rfl) ?_
    refine pw_icmp_ge (tgt := 25) dX7_at_9 (by decide) (fun h9 => ?_) (fun h9 => ?_)
    · refine pw_iconst (v := (-1)) dX7_at_25 (by decide) ?_
      refine pw_iret dX7_at_26 rfl rfl ?_
      refine ⟨?_, rfl⟩
      first | rw [if_pos hkn] | (rw [hn] at h9; have hno : ¬ k < n := (fun z => nI_ge z (by omega) h9); rw [if_neg hno])
    · rw [hn] at h9
      have hkn : k < n := by
        rcases Nat.lt_or_ge k n with q | q
        · exact q
        · exact absurd (nI_le q (by omega)) h9
      have hk6 : k < 600 := by omega
      refine pw_aload_n dX7_at_12 rfl ?_
      refine pw_getF (v := 18) dX7_at_13 flX7_11 rfl (hS.at rfl rfl rfl) (hS.rf (17, 0, 18) rfl (by decide)) ?_
      refine pw_iload_n dX7_at_16 rfl ?_
      refine pw_bald dX7_at_17 (hS.at rfl rfl rfl) rfl (hS.lt rfl rfl hk6 rfl) (by omega) ?_
      refine pw_sipush (v := 255) dX7_at_18 (by decide) ?_
      refine pw_iand dX7_at_21 ?_
      refine pw_goto (tgt := 26) dX7_at_22 (by decide) ?_
      refine pw_iret dX7_at_26 rfl rfl ?_
      refine ⟨?_, rfl⟩
      first | rw [if_pos hkn] | (rw [hn] at h9; have hno : ¬ k < n := (fun z => nI_ge z (by omega) h9); rw [if_neg hno])
def J3 (σ : pm_S) (L : Nat) : Prop := L ≤ 600 ∧ qI σ 17 1 = nI L ∧ qI σ 43 30 = nI L ∧ ∀ k, k < L → qI σ 18 k &&& 255 = qI σ 66 k
theorem J3_fr {σ τ : pm_S} {L : Nat} (h : J3 σ L) (hf : frT σ τ) : J3 τ L := ⟨h.1, by rw [hf.1 17 1 (by omega)]; exact h.2.1, by rw [hf.1 43 30 (by omega)]; exact h.2.2.1, fun k hk => by rw [hf.1 18 k (by omega), hf.1 66 k (by omega)]; exact h.2.2.2 k hk⟩
theorem p_end {σ : pm_S} {L : Nat} (h3 : J3 σ L) (hS : pm_fix σ) (x : Int32) : ∃ v σ1 τ L', PE 10 0 MX11_end [.ref 6, .int x] σ (some (.int v)) σ1 ∧ PE 10 0 MX12_end [.ref 43, .int x] σ1 (some (.int v)) τ ∧ J3 τ L' ∧ pm_fix τ ∧ (τ = σ ∨ ∃ y, τ = pm_sI (pm_sI σ 17 1 y) 43 30 y) ∧ fr5 σ σ1 := by
  obtain ⟨h0, h1, h2, h4⟩ := id h3
  have hc := t_end (d := 10) (al := 0) (by decide) hS x
  by_cases hx : 0 ≤ x ∧ x ≤ qI σ 17 1
  · rw [bI_t hx, if_pos hx] at hc
    have hm := s_end (d := 10) (al := 0) (by decide) (hS.sI (a := 17) (k := 1) (x := x)) x
    have e30 : qI (pm_sI σ 17 1 x) 43 30 = nI L := (qI_sI_nc (by decide)).trans h2
    have hx2 : 0 ≤ x ∧ x ≤ qI (pm_sI σ 17 1 x) 43 30 := by rw [e30, ← h1]; exact hx
    rw [bI_t hx2, if_pos hx2] at hm
    obtain ⟨j, hj, rfl⟩ : ∃ j, j ≤ L ∧ x = nI j := by
      have a1 := i_le.mp hx.1
      have a2 := i_le.mp hx.2
      rw [h1, nI_toInt (by omega)] at a2
      have e1 : (0 : Int32).toInt = 0 := rfl
      rw [e1] at a1
      exact ⟨x.toInt.toNat, by omega, by rw [i_eq, nI_toInt (by omega)]; omega⟩
    refine ⟨_, _, _, j, hc, hm, ⟨by omega, ?_, qI_sI_eq, fun k hk => ?_⟩, hS.sI.sI, Or.inr ⟨_, rfl⟩, fr5_sI (by decide)⟩
    · rw [qI_sI_nc (by decide), qI_sI_eq]
    · rw [qI_sI_nc (by decide), qI_sI_nc (by decide), qI_sI_nc (by decide), qI_sI_nc (by decide)]
      exact h4 k (by omega)
  · rw [bI_f hx, if_neg hx] at hc
    have hm := s_end (d := 10) (al := 0) (by decide) hS x
    have hx2 : ¬ (0 ≤ x ∧ x ≤ qI σ 43 30) := by rw [h2, ← h1]; exact hx
    rw [bI_f hx2, if_neg hx2] at hm
    exact ⟨_, _, _, L, hc, hm, h3, hS, Or.inl rfl, fr5.rfl'⟩
theorem m_fs_I (σ : pm_S) (n : Nat) (a b c d e : Int32) : ∀ k, (∀ y j, y ≠ 66 → ¬ (y = 43 ∧ j = 30) → qI (m_fs σ n a b c d e k) y j = qI σ y j) ∧ ∀ j, qI (m_fs σ n a b c d e k) 66 j = if n ≤ j ∧ j < n + k then m_fb a b c d e (j - n) else qI σ 66 j
  | 0 => ⟨fun _ _ _ _ => rfl, fun j => (if_neg (by omega)).symm⟩
  | k + 1 => by
    obtain ⟨h1, h2⟩ := m_fs_I σ n a b c d e k
    refine ⟨fun y j hy hj => ?_, fun j => ?_⟩
    · show qI (pm_sI (pm_sI _ _ _ _) _ _ _) _ _ = _
      rw [qI_sI_ne hj, qI_sI_nc hy, h1 y j hy hj]
    · show qI (pm_sI (pm_sI _ _ _ _) _ _ _) _ _ = _
      rw [qI_sI_nc (by decide), qI_sI]
      by_cases z : j = n + k
      · rw [if_pos ⟨rfl, z⟩, if_pos (by omega), z, Nat.add_sub_cancel_left]
      · rw [if_neg (fun y => z y.2), h2]
        by_cases y : n ≤ j ∧ j < n + k
        · rw [if_pos y, if_pos (by omega)]
        · rw [if_neg y, if_neg (by omega)]
theorem c_ap_I (σ : pm_S) (n : Nat) (v : Int32) : (∀ y j, ¬ (y = 18 ∧ n ≤ j ∧ j < n + 4) → ¬ (y = 17 ∧ j = 1) → qI (c_ap σ n v) y j = qI σ y j) ∧ (qI (c_ap σ n v) 18 n = b8 (v >>> ((24 : Int32) &&& 31)) ∧ qI (c_ap σ n v) 18 (n + 1) = b8 (v >>> ((16 : Int32) &&& 31)) ∧ qI (c_ap σ n v) 18 (n + 2) = b8 (v >>> ((8 : Int32) &&& 31)) ∧ qI (c_ap σ n v) 18 (n + 3) = b8 v) := by
  refine ⟨fun y j h1 h2 => ?_, ?_⟩
  · unfold c_ap
    rw [qI_sI_ne h2, qI_sI_ne (by omega), qI_sI_ne (by omega), qI_sI_ne (by omega), qI_sI_ne (by omega)]
  · unfold c_ap
    refine ⟨?_, ?_, ?_, ?_⟩
    · rw [qI_sI_nc (by decide), qI_sI_ne (by omega), qI_sI_ne (by omega), qI_sI_ne (by omega), qI_sI_eq]
    · rw [qI_sI_nc (by decide), qI_sI_ne (by omega), qI_sI_ne (by omega), qI_sI_eq]
    · rw [qI_sI_nc (by decide), qI_sI_ne (by omega), qI_sI_eq]
    · rw [qI_sI_nc (by decide), qI_sI_eq]
/-- the bytes of one number: the same on both sides -/
theorem ap_fb (σ : pm_S) (n : Nat) (v : Int32) : ∀ j, j < 4 → qI (c_ap σ n v) 18 (n + j) &&& 255 = (v >>> ((24 - 8 * nI j) &&& 31)) &&& 255 := fun j hj => by
  obtain ⟨-, h0, h1, h2, h3⟩ := c_ap_I σ n v
  rcases (by omega : j = 0 ∨ j = 1 ∨ j = 2 ∨ j = 3) with rfl | rfl | rfl | rfl
  · rw [Nat.add_zero, h0, b8_and]; rfl
  · rw [h1, b8_and]; rfl
  · rw [h2, b8_and]; rfl
  · rw [h3, b8_and]
    have : v >>> (((24 : Int32) - 8 * nI 3) &&& 31) = v := by
      show v >>> (nI 0 &&& 31) = v
      apply b_ext
      intro i hi
      rw [b_sshr 0 (by decide) v hi, Nat.zero_add, if_pos hi]
    rw [this]
