/-! ===== the JDK's texts: length, charAt, indexOf ===== -/
theorem jf_v : Cond.fieldLink RJ0 9 "java/lang/String" "value" "[B" ∈ pm_T := pm_T_in (List.mem_of_getElem? (i := 1331) (by decide +kernel)) rfl
theorem jf_c : Cond.fieldLink RJ0 15 "java/lang/String" "coder" "B" ∈ pm_T := pm_T_in (List.mem_of_getElem? (i := 1330) (by decide +kernel)) rfl
theorem jf_s : Cond.fieldLink RJ0 38 "java/lang/String" "COMPACT_STRINGS" "Z" ∈ pm_T := pm_T_in (List.mem_of_getElem? (i := 704) (by decide +kernel)) rfl
theorem jf_f : Cond.fieldLink RJ0 1053 "jdk/internal/util/Preconditions" "SIOOBE_FORMATTER" "Ljava/util/function/BiFunction;" ∈ pm_T := pm_T_in (List.mem_of_getElem? (i := 712) (by decide +kernel)) rfl
section PMK
variable {d al : Nat} {M : pm_M} {pc : Nat} {ls st : List Value} {σ : pm_S} {Q : Option Value → pm_S → Prop}
variable {d1 a1 a2 : Nat} {M' : pm_M} {Q1 : Option Value → pm_S → Prop} {idx : Nat}
theorem pw_vT0 {a : Nat} (hd : decode M.2.1 pc = .ok (.invokevirtual idx, 3)) (hm : pm_mt M' 0) (hi : pm_iv M') (hl : Cond.methodLink M.1.cls idx M'.1 ∈ pm_T) (hlen : (pm_fl_ [.ref a]).length ≤ M'.2.2.1) (hr : (st.map fun v => v.category).sum ≤ 8) (hdd : d1 + 1 ≤ d) (hal : a1 + a2 ≤ al) (h2 : a = 2 ∨ a = 3) (hc : M'.1.cls = "java/lang/String") (h1 : PM d1 a1 M' [.ref a] σ Q1) (k : ∀ r τ, Q1 r τ → PW d a2 M (pc + 3) ls (r.toList ++ st) τ Q) : PW d al M pc ls (.ref a :: st) σ Q :=
  pw_callV [] hd hm hi hl rfl hlen hr hdd hal (by omega) (hc ▸ pm_rcvS h2) h1 k
theorem pw_vT1 {a : Nat} {x1 : Value} (hd : decode M.2.1 pc = .ok (.invokevirtual idx, 3)) (hm : pm_mt M' 1) (hi : pm_iv M') (hl : Cond.methodLink M.1.cls idx M'.1 ∈ pm_T) (hlen : (pm_fl_ [.ref a, x1]).length ≤ M'.2.2.1) (hr : (st.map fun v => v.category).sum ≤ 8) (hdd : d1 + 1 ≤ d) (hal : a1 + a2 ≤ al) (h2 : a = 2 ∨ a = 3) (hc : M'.1.cls = "java/lang/String") (h1 : PM d1 a1 M' [.ref a, x1] σ Q1) (k : ∀ r τ, Q1 r τ → PW d a2 M (pc + 3) ls (r.toList ++ st) τ Q) : PW d al M pc ls (x1 :: .ref a :: st) σ Q :=
  pw_callV [x1] hd hm hi hl rfl hlen hr hdd hal (by omega) (hc ▸ pm_rcvS h2) h1 k
theorem pw_vT2 {a : Nat} {x1 x2 : Value} (hd : decode M.2.1 pc = .ok (.invokevirtual idx, 3)) (hm : pm_mt M' 2) (hi : pm_iv M') (hl : Cond.methodLink M.1.cls idx M'.1 ∈ pm_T) (hlen : (pm_fl_ [.ref a, x1, x2]).length ≤ M'.2.2.1) (hr : (st.map fun v => v.category).sum ≤ 8) (hdd : d1 + 1 ≤ d) (hal : a1 + a2 ≤ al) (h2 : a = 2 ∨ a = 3) (hc : M'.1.cls = "java/lang/String") (h1 : PM d1 a1 M' [.ref a, x1, x2] σ Q1) (k : ∀ r τ, Q1 r τ → PW d a2 M (pc + 3) ls (r.toList ++ st) τ Q) : PW d al M pc ls (x2 :: x1 :: .ref a :: st) σ Q :=
  pw_callV [x1, x2] hd hm hi hl rfl hlen hr hdd hal (by omega) (hc ▸ pm_rcvS h2) h1 k
end PMK
/-- a text and its bytes -/
def sT (σ : pm_S) (a b n : Nat) : Prop := (a = 2 ∨ a = 3) ∧ pm_is σ a 13 ∧ qR σ a 0 = b ∧ qI σ a 1 = 0 ∧ pm_is σ b 21 ∧ qL σ b = n ∧ n < 1000
theorem u_latin {d al a b n : Nat} {σ : pm_S} (h : sT σ a b n) : PE d al MJ0_isLatin1_aae02 [.ref a] σ (some (.int 1)) σ := by
  show PW _ _ _ _ _ _ _ _
  refine pw_comp dJ0_isLatin1_aae02_0 jf_s ?_
  refine pw_if_eq (tgt := 17) dJ0_isLatin1_aae02_3 (by decide) (fun h3 => ?_) (fun h3 => ?_)
  · exact absurd h3 (by decide)
  · refine pw_aload_n dJ0_isLatin1_aae02_6 rfl ?_
    refine pw_getC dJ0_isLatin1_aae02_7 jf_c h.2.1 ?_
    refine pw_if_ne (tgt := 17) dJ0_isLatin1_aae02_10 (by decide) (fun h10 => ?_) (fun h10 => ?_)
    · exact absurd h.2.2.2.1 h10
    · refine pw_iconst (v := 1) dJ0_isLatin1_aae02_13 (by decide) ?_
      refine pw_goto (tgt := 18) dJ0_isLatin1_aae02_14 (by decide) ?_
      refine pw_iret dJ0_isLatin1_aae02_18 rfl (by first | rfl | exact bI_nar) ?_
      exact ⟨rfl, rfl⟩
theorem u_coder {d al a b n : Nat} {σ : pm_S} (h : sT σ a b n) : PE d al MJ0_coder_7d493 [.ref a] σ (some (.int 0)) σ := by
  show PW _ _ _ _ _ _ _ _
  refine pw_comp dJ0_coder_7d493_0 jf_s ?_
  refine pw_if_eq (tgt := 13) dJ0_coder_7d493_3 (by decide) (fun h3 => ?_) (fun h3 => ?_)
  · exact absurd h3 (by decide)
  · refine pw_aload_n dJ0_coder_7d493_6 rfl ?_
    refine pw_getC dJ0_coder_7d493_7 jf_c h.2.1 ?_
    rw [h.2.2.2.1]
    refine pw_goto (tgt := 14) dJ0_coder_7d493_10 (by decide) ?_
    refine pw_iret dJ0_coder_7d493_14 rfl (by first | rfl | exact bI_nar) ?_
    exact ⟨rfl, rfl⟩
theorem nI_sh0 (n : Nat) (h : n < 1000) : nI n >>> ((0 : Int32) &&& 31) = nI n := by
  have := pk_shrN (n := n) (by omega) ((0 : Int32) &&& 31) 0 (by decide)
  rw [this, Nat.pow_zero, Nat.div_one]
theorem u_length {d al a b n : Nat} {σ : pm_S} (hd : 1 ≤ d) (h : sT σ a b n) : PE d al MJ0_length_8abf5 [.ref a] σ (some (.int (nI n))) σ := by
  show PW _ _ _ _ _ _ _ _
  refine pw_aload_n dJ0_length_8abf5_0 rfl ?_
  refine pw_getV dJ0_length_8abf5_1 jf_v h.2.1 h.2.2.1 ?_
  refine pw_alen dJ0_length_8abf5_4 h.2.2.2.2.1 (by decide) (by decide) ?_
  refine pw_aload_n dJ0_length_8abf5_5 rfl ?_
  refine pw_vT0 (d1 := d - 1) (a1 := 0) (a2 := al) dJ0_length_8abf5_6 mtJ0_coder_7d493 ivJ0_coder_7d493 mlJ0_335 (Nat.le_of_ble_eq_true rfl) (Nat.le_of_ble_eq_true rfl) (by omega) (by omega) h.1 rfl (u_coder h) ?_
  rintro r_ τ_ ⟨hr_, ht_⟩; subst r_; subst τ_
  refine pw_ishr dJ0_length_8abf5_9 ?_
  refine pw_iret dJ0_length_8abf5_10 rfl rfl ?_
  refine ⟨?_, rfl⟩
  rw [h.2.2.2.2.2.1, nI_sh0 n h.2.2.2.2.2.2]
theorem u_ck3 {d al k n : Nat} {σ : pm_S} (hk : k < n) (hn : n < 2 ^ 31) : PW d al MJ3_checkIndex_8e157 0 [.int (nI k), .int (nI n), .retAddr 0] [] σ (fun r τ => r = some (.int (nI k)) ∧ τ = σ) := by
  refine pw_iload_n dJ3_checkIndex_8e157_0 rfl ?_
  refine pw_if_lt (tgt := 9) dJ3_checkIndex_8e157_1 (by decide) (fun h1 => ?_) (fun h1 => ?_)
  · exact absurd h1 (nI_pos (by omega))
  · refine pw_iload_n dJ3_checkIndex_8e157_4 rfl ?_
    refine pw_iload_n dJ3_checkIndex_8e157_5 rfl ?_
    refine pw_icmp_lt (tgt := 16) dJ3_checkIndex_8e157_6 (by decide) (fun h6 => ?_) (fun h6 => ?_)
    · refine pw_iload_n dJ3_checkIndex_8e157_16 rfl ?_
      refine pw_iret dJ3_checkIndex_8e157_17 rfl rfl ?_
      exact ⟨rfl, rfl⟩
    · exact absurd (nI_lt hk hn) h6
theorem u_ck {d al k n : Nat} {σ : pm_S} (hd : 1 ≤ d) (hk : k < n) (hn : n < 2 ^ 31) : PE d al MJ0_checkIndex_df160 [.int (nI k), .int (nI n)] σ none σ := by
  show PW _ _ _ _ _ _ _ _
  refine pw_iload_n dJ0_checkIndex_df160_0 rfl ?_
  refine pw_iload_n dJ0_checkIndex_df160_1 rfl ?_
  refine pw_ckix (d1 := d - 1) dJ0_checkIndex_df160_2 jf_f dJ0_checkIndex_df160_5 mtJ3_checkIndex_8e157 stJ3_checkIndex_8e157 mlJ0_1059 (by decide) (Nat.le_of_ble_eq_true rfl) (by omega) (u_ck3 hk hn) ?_
  refine pw_pop dJ0_checkIndex_df160_8 rfl ?_
  refine pw_vret dJ0_checkIndex_df160_9 rfl ?_
  exact ⟨rfl, rfl⟩
theorem ch_all : ∀ c, c < 128 → ((nI c &&& 255).toUInt32 % 65536).toInt32 = nI c ∧ narrow .char (.int (nI c)) = .int (nI c) := by
  intro c hc
  have h1 : ((nI c &&& 255).toUInt32 % 65536).toInt32 = nI c := (by decide +kernel : ∀ c, c < 128 → ((nI c &&& 255).toUInt32 % 65536).toInt32 = nI c) c hc
  refine ⟨h1, ?_⟩
  show Value.int _ = _
  exact congrArg Value.int ((by decide +kernel : ∀ c, c < 128 → ((nI c).toUInt32 % 65536).toInt32 = nI c) c hc)
theorem u_char1 {d al b k c : Nat} {σ : pm_S} (hd : 2 ≤ d) (hb : pm_is σ b 21) (hk : k < qL σ b) (hn : qL σ b < 1000) (hc : qI σ b k = nI c) (hc2 : c < 128) : PE d al MJ1_charAt_3b067 [.ref b, .int (nI k)] σ (some (.int (nI c))) σ := by
  show PW _ _ _ _ _ _ _ _
  refine pw_iload_n dJ1_charAt_3b067_0 rfl ?_
  refine pw_aload_n dJ1_charAt_3b067_1 rfl ?_
  refine pw_alen dJ1_charAt_3b067_2 hb (by decide) (by decide) ?_
  refine pw_cS2 (d1 := d - 1) (a1 := 0) (a2 := al) dJ1_charAt_3b067_3 mtJ0_checkIndex_df160 stJ0_checkIndex_df160 mlJ1_9 (Nat.le_of_ble_eq_true rfl) (Nat.le_of_ble_eq_true rfl) (by omega) (by omega) (u_ck (by omega) hk (by omega)) ?_
  rintro r_ τ_ ⟨hr_, ht_⟩; subst r_; subst τ_
  refine pw_aload_n dJ1_charAt_3b067_6 rfl ?_
  refine pw_iload_n dJ1_charAt_3b067_7 rfl ?_
  refine pw_bald dJ1_charAt_3b067_8 hb rfl hk (by omega) ?_
  refine pw_sipush (v := 255) dJ1_charAt_3b067_9 (by decide) ?_
  refine pw_iand dJ1_charAt_3b067_12 ?_
  refine pw_i2c dJ1_charAt_3b067_13 ?_
  rw [hc, (ch_all c hc2).1]
  refine pw_iret dJ1_charAt_3b067_14 rfl (ch_all c hc2).2 ?_
  exact ⟨rfl, rfl⟩
theorem u_charAt {d al a b n k c : Nat} {σ : pm_S} (hd : 3 ≤ d) (h : sT σ a b n) (hk : k < n) (hc : qI σ b k = nI c) (hc2 : c < 128) : PE d al MJ0_charAt_5068e [.ref a, .int (nI k)] σ (some (.int (nI c))) σ := by
  show PW _ _ _ _ _ _ _ _
  refine pw_aload_n dJ0_charAt_5068e_0 rfl ?_
  refine pw_vT0 (d1 := d - 1) (a1 := 0) (a2 := al) dJ0_charAt_5068e_1 mtJ0_isLatin1_aae02 ivJ0_isLatin1_aae02 mlJ0_492 (Nat.le_of_ble_eq_true rfl) (Nat.le_of_ble_eq_true rfl) (by omega) (by omega) h.1 rfl (u_latin h) ?_
  rintro r_ τ_ ⟨hr_, ht_⟩; subst r_; subst τ_
  refine pw_if_eq (tgt := 16) dJ0_charAt_5068e_4 (by decide) (fun h4 => absurd h4 (by decide)) (fun h4 => ?_)
  refine pw_aload_n dJ0_charAt_5068e_7 rfl ?_
  refine pw_getV dJ0_charAt_5068e_8 jf_v h.2.1 h.2.2.1 ?_
  refine pw_iload_n dJ0_charAt_5068e_11 rfl ?_
  refine pw_cS2 (d1 := d - 1) (a1 := 0) (a2 := al) dJ0_charAt_5068e_12 mtJ1_charAt_3b067 stJ1_charAt_3b067 mlJ0_495 (Nat.le_of_ble_eq_true rfl) (Nat.le_of_ble_eq_true rfl) (by omega) (by omega) (u_char1 (by omega) h.2.2.2.2.1 (by rw [h.2.2.2.2.2.1]; exact hk) (by rw [h.2.2.2.2.2.1]; exact h.2.2.2.2.2.2) hc hc2) ?_
  rintro r_ τ_ ⟨hr_, ht_⟩; subst r_; subst τ_
  refine pw_iret dJ0_charAt_5068e_15 rfl (ch_all c hc2).2 ?_
  exact ⟨rfl, rfl⟩
theorem u_canEnc {d al c : Nat} {σ : pm_S} (hc : c < 256) : PE d al MJ1_canEncode_9a6ad [.int (nI c)] σ (some (.int 1)) σ := by
  show PW _ _ _ _ _ _ _ _
  refine pw_iload_n dJ1_canEncode_9a6ad_0 rfl ?_
  refine pw_if_lt (tgt := 15) dJ1_canEncode_9a6ad_1 (by decide) (fun h1 => ?_) (fun h1 => ?_)
  · exact absurd h1 (nI_pos (by omega))
  · refine pw_iload_n dJ1_canEncode_9a6ad_4 rfl ?_
    refine pw_sipush (v := 255) dJ1_canEncode_9a6ad_5 (by decide) ?_
    refine pw_icmp_gt (tgt := 15) dJ1_canEncode_9a6ad_8 (by decide) (fun h8 => ?_) (fun h8 => ?_)
    · exact absurd h8 (nI_nlt (b := c) (a := 255) (by omega) (by decide))
    · refine pw_iconst (v := 1) dJ1_canEncode_9a6ad_11 (by decide) ?_
      refine pw_goto (tgt := 16) dJ1_canEncode_9a6ad_12 (by decide) ?_
      refine pw_iret dJ1_canEncode_9a6ad_16 rfl (by first | rfl | exact bI_nar) ?_
      exact ⟨rfl, rfl⟩
/-- the first place of a byte -/
def ixF (σ : pm_S) (b : Nat) (c : Int32) : Nat → Nat → Int32
  | 0, _ => -1
  | r + 1, k => if qI σ b k = c then nI k else ixF σ b c r (k + 1)
theorem u_ixc_lp {d al b n : Nat} {σ : pm_S} (hb : pm_is σ b 21) (hn : qL σ b = n) (hn2 : n < 1000) (x : Int32) (c : Int32) : ∀ (r k : Nat), k + r = n → PW d al MJ1_indexOfChar_4cfef 7 [.ref b, .int x, .int 0, .int (nI n), .int c, .int (nI k)] [] σ (fun v τ => v = some (.int (ixF σ b c r k)) ∧ τ = σ) := by
  intro r
  induction r with
  | zero =>
    intro k hk
    refine pw_iload dJ1_indexOfChar_4cfef_7 rfl ?_
    refine pw_iload_n dJ1_indexOfChar_4cfef_9 rfl ?_
    refine pw_icmp_ge (tgt := 31) dJ1_indexOfChar_4cfef_10 (by decide) (fun h10 => ?_) (fun h10 => ?_)
    · refine pw_iconst (v := (-1)) dJ1_indexOfChar_4cfef_31 (by decide) ?_
      refine pw_iret dJ1_indexOfChar_4cfef_32 rfl rfl ?_
      exact ⟨rfl, rfl⟩
    · exact absurd (nI_le (by omega) (by omega)) h10
  | succ r ih =>
    intro k hk
    have hh := ih (k + 1) (by omega)
    rw [nI_succ] at hh
    have hu : ixF σ b c (r + 1) k = if qI σ b k = c then nI k else ixF σ b c r (k + 1) := rfl
    rw [hu]
    refine pw_iload dJ1_indexOfChar_4cfef_7 rfl ?_
    refine pw_iload_n dJ1_indexOfChar_4cfef_9 rfl ?_
    refine pw_icmp_ge (tgt := 31) dJ1_indexOfChar_4cfef_10 (by decide) (fun h10 => ?_) (fun h10 => ?_)
    · exact absurd h10 (nI_ge (show k < n by omega) (by omega))
    · refine pw_aload_n dJ1_indexOfChar_4cfef_13 rfl ?_
      refine pw_iload dJ1_indexOfChar_4cfef_14 rfl ?_
      refine pw_bald dJ1_indexOfChar_4cfef_16 hb rfl (by omega) (by omega) ?_
      refine pw_iload dJ1_indexOfChar_4cfef_17 rfl ?_
      refine pw_icmp_ne (tgt := 25) dJ1_indexOfChar_4cfef_19 (by decide) (fun h19 => ?_) (fun h19 => ?_)
      · refine pw_iinc1 dJ1_indexOfChar_4cfef_25 rfl (Nat.le_of_ble_eq_true rfl) (Nat.le_of_ble_eq_true rfl) rfl ?_
        refine pw_goto (tgt := 7) dJ1_indexOfChar_4cfef_28 (by decide) ?_
        rw [if_neg h19]
        exact hh
      · refine pw_iload dJ1_indexOfChar_4cfef_22 rfl ?_
        refine pw_iret dJ1_indexOfChar_4cfef_24 rfl rfl ?_
        exact ⟨by rw [if_pos h19], rfl⟩
theorem u_ixc {d al b n : Nat} {σ : pm_S} (hb : pm_is σ b 21) (hn : qL σ b = n) (hn2 : n < 1000) (x : Int32) : PE d al MJ1_indexOfChar_4cfef [.ref b, .int x, .int 0, .int (nI n)] σ (some (.int (ixF σ b x.toInt8.toInt32 n 0))) σ := by
  show PW _ _ _ _ _ _ _ _
  refine pw_iload_n dJ1_indexOfChar_4cfef_0 rfl ?_
  refine pw_i2b dJ1_indexOfChar_4cfef_1 ?_
  refine pw_istore dJ1_indexOfChar_4cfef_2 (Nat.le_of_ble_eq_true rfl) (Nat.le_of_ble_eq_true rfl) rfl ?_
  refine pw_iload_n dJ1_indexOfChar_4cfef_4 rfl ?_
  refine pw_istore dJ1_indexOfChar_4cfef_5 (Nat.le_of_ble_eq_true rfl) (Nat.le_of_ble_eq_true rfl) rfl ?_
  exact u_ixc_lp hb hn hn2 x _ n 0 (by omega)
theorem u_ix1 {d al b n c : Nat} {σ : pm_S} (hd : 1 ≤ d) (hb : pm_is σ b 21) (hn : qL σ b = n) (hn2 : n < 1000) (hn0 : 0 < n) (hc : c < 256) : PE d al MJ1_indexOf_4cfef [.ref b, .int (nI c), .int 0, .int (nI n)] σ (some (.int (ixF σ b (nI c).toInt8.toInt32 n 0))) σ := by
  show PW _ _ _ _ _ _ _ _
  have e1 : (if (0 : Int32) < 0 then (0 : Int32) else 0) = 0 := rfl
  have e2 : (if nI (qL σ b) < nI n then nI (qL σ b) else nI n) = nI n := by rw [hn]; split <;> rfl
  refine pw_iload_n dJ1_indexOf_4cfef_0 rfl ?_
  refine pw_cS1 (d1 := d - 1) (a1 := 0) (a2 := al) dJ1_indexOf_4cfef_1 mtJ1_canEncode_9a6ad stJ1_canEncode_9a6ad mlJ1_88 (Nat.le_of_ble_eq_true rfl) (Nat.le_of_ble_eq_true rfl) (by omega) (by omega) (u_canEnc hc) ?_
  rintro r_ τ_ ⟨hr_, ht_⟩; subst r_; subst τ_
  refine pw_if_ne (tgt := 9) dJ1_indexOf_4cfef_4 (by decide) (fun h4 => ?_) (fun h4 => ?_)
  · refine pw_iload_n dJ1_indexOf_4cfef_9 rfl ?_
    refine pw_iconst (v := 0) dJ1_indexOf_4cfef_10 (by decide) ?_
    refine pw_max dJ1_indexOf_4cfef_11 rfl (by omega) (Nat.le_of_ble_eq_true rfl) ?_
    rw [e1]
    refine pw_istore_n dJ1_indexOf_4cfef_14 (Nat.le_of_ble_eq_true rfl) (Nat.le_of_ble_eq_true rfl) rfl ?_
    refine pw_iload_n dJ1_indexOf_4cfef_15 rfl ?_
    refine pw_aload_n dJ1_indexOf_4cfef_16 rfl ?_
    refine pw_alen dJ1_indexOf_4cfef_17 hb (by decide) (by decide) ?_
    refine pw_min dJ1_indexOf_4cfef_18 rfl (by omega) (Nat.le_of_ble_eq_true rfl) ?_
    rw [e2]
    refine pw_istore_n dJ1_indexOf_4cfef_21 (Nat.le_of_ble_eq_true rfl) (Nat.le_of_ble_eq_true rfl) rfl ?_
    refine pw_iload_n dJ1_indexOf_4cfef_22 rfl ?_
    refine pw_iload_n dJ1_indexOf_4cfef_23 rfl ?_
    refine pw_icmp_lt (tgt := 29) dJ1_indexOf_4cfef_24 (by decide) (fun h24 => ?_) (fun h24 => ?_)
    · refine pw_aload_n dJ1_indexOf_4cfef_29 rfl ?_
      refine pw_iload_n dJ1_indexOf_4cfef_30 rfl ?_
      refine pw_iload_n dJ1_indexOf_4cfef_31 rfl ?_
      refine pw_iload_n dJ1_indexOf_4cfef_32 rfl ?_
      refine pw_cS4 (d1 := d - 1) (a1 := 0) (a2 := al) dJ1_indexOf_4cfef_33 mtJ1_indexOfChar_4cfef stJ1_indexOfChar_4cfef mlJ1_95 (Nat.le_of_ble_eq_true rfl) (Nat.le_of_ble_eq_true rfl) (by omega) (by omega) (u_ixc hb hn hn2 _) ?_
      rintro r_ τ_ ⟨hr_, ht_⟩; subst r_; subst τ_
      refine pw_iret dJ1_indexOf_4cfef_36 rfl rfl ?_
      exact ⟨rfl, rfl⟩
    · exact absurd (nI_lt hn0 (by omega)) h24
  · exact absurd h4 (by decide)
theorem u_ix2 {d al a b n c : Nat} {σ : pm_S} (hd : 2 ≤ d) (h : sT σ a b n) (hn0 : 0 < n) (hc : c < 256) : PE d al MJ0_indexOf_7cf53 [.ref a, .int (nI c), .int 0] σ (some (.int (ixF σ b (nI c).toInt8.toInt32 n 0))) σ := by
  show PW _ _ _ _ _ _ _ _
  refine pw_aload_n dJ0_indexOf_7cf53_0 rfl ?_
  refine pw_vT0 (d1 := d - 1) (a1 := 0) (a2 := al) dJ0_indexOf_7cf53_1 mtJ0_isLatin1_aae02 ivJ0_isLatin1_aae02 mlJ0_492 (Nat.le_of_ble_eq_true rfl) (Nat.le_of_ble_eq_true rfl) (by omega) (by omega) h.1 rfl (u_latin h) ?_
  rintro r_ τ_ ⟨hr_, ht_⟩; subst r_; subst τ_
  refine pw_if_eq (tgt := 23) dJ0_indexOf_7cf53_4 (by decide) (fun h4 => ?_) (fun h4 => ?_)
  · exact absurd h4 (by decide)
  · refine pw_aload_n dJ0_indexOf_7cf53_7 rfl ?_
    refine pw_getV dJ0_indexOf_7cf53_8 jf_v h.2.1 h.2.2.1 ?_
    refine pw_iload_n dJ0_indexOf_7cf53_11 rfl ?_
    refine pw_iload_n dJ0_indexOf_7cf53_12 rfl ?_
    refine pw_aload_n dJ0_indexOf_7cf53_13 rfl ?_
    refine pw_vT0 (d1 := d - 1) (a1 := 0) (a2 := al) dJ0_indexOf_7cf53_14 mtJ0_length_8abf5 ivJ0_length_8abf5 mlJ0_505 (Nat.le_of_ble_eq_true rfl) (Nat.le_of_ble_eq_true rfl) (by omega) (by omega) h.1 rfl (u_length (by omega) h) ?_
    rintro r_ τ_ ⟨hr_, ht_⟩; subst r_; subst τ_
    refine pw_cS4 (d1 := d - 1) (a1 := 0) (a2 := al) dJ0_indexOf_7cf53_17 mtJ1_indexOf_4cfef stJ1_indexOf_4cfef mlJ0_637 (Nat.le_of_ble_eq_true rfl) (Nat.le_of_ble_eq_true rfl) (by omega) (by omega) (u_ix1 (by omega) h.2.2.2.2.1 h.2.2.2.2.2.1 h.2.2.2.2.2.2 hn0 hc) ?_
    rintro r_ τ_ ⟨hr_, ht_⟩; subst r_; subst τ_
    refine pw_goto (tgt := 36) dJ0_indexOf_7cf53_20 (by decide) ?_
    refine pw_iret dJ0_indexOf_7cf53_36 rfl rfl ?_
    exact ⟨rfl, rfl⟩
theorem u_indexOf {d al a b n c : Nat} {σ : pm_S} (hd : 3 ≤ d) (h : sT σ a b n) (hn0 : 0 < n) (hc : c < 256) : PE d al MJ0_indexOf_0f7a4 [.ref a, .int (nI c)] σ (some (.int (ixF σ b (nI c).toInt8.toInt32 n 0))) σ := by
  show PW _ _ _ _ _ _ _ _
  refine pw_aload_n dJ0_indexOf_0f7a4_0 rfl ?_
  refine pw_iload_n dJ0_indexOf_0f7a4_1 rfl ?_
  refine pw_iconst (v := 0) dJ0_indexOf_0f7a4_2 (by decide) ?_
  refine pw_vT2 (d1 := d - 1) (a1 := 0) (a2 := al) dJ0_indexOf_0f7a4_3 mtJ0_indexOf_7cf53 ivJ0_indexOf_7cf53 mlJ0_633 (Nat.le_of_ble_eq_true rfl) (Nat.le_of_ble_eq_true rfl) (by omega) (by omega) h.1 rfl (u_ix2 (by omega) h hn0 hc) ?_
  rintro r_ τ_ ⟨hr_, ht_⟩; subst r_; subst τ_
  refine pw_iret dJ0_indexOf_0f7a4_6 rfl rfl ?_
  exact ⟨rfl, rfl⟩
