/-! ===== the law, whole ===== -/
theorem lw_next {d al i : Nat} {τ : pm_S} {Q : Option Value → pm_S → Prop} (kk : PW d al pm_ML 18 [.ref 1, .ref 6, .ref 43, .int (nI (i + 6))] [] τ Q) : PW d al pm_ML 895 [.ref 1, .ref 6, .ref 43, .int (nI i)] [] τ Q := by
  have e6 : nI i + Int32.ofInt 6 = nI (i + 6) := nI_add i 6
  refine pw_iinc dL_law_895 rfl (Nat.le_of_ble_eq_true rfl) (Nat.le_of_ble_eq_true rfl) rfl ?_
  rw [e6]
  refine pw_goto (tgt := 18) dL_law_898 (by decide) ?_
  exact kk
theorem lw_loop {d Ls : Nat} {xs : Nat → Int32} (hd : 101 ≤ d) (hL : Ls ≤ 3072) : ∀ (q i : Nat) (σ : pm_S), Ls < i + 6 + 6 * q → i ≤ 4000 → JJ Ls xs σ → PW d (2 * q) pm_ML 18 [.ref 1, .ref 6, .ref 43, .int (nI i)] [] σ (fun r _ => r = some (.int 1)) := by
  intro q
  induction q with
  | zero =>
    intro i σ hq hi hJ
    obtain ⟨hS, hf, -⟩ := id hJ
    obtain ⟨i1, l1, v1⟩ := scr_of hf
    have hc : nI Ls - 6 < nI i ↔ Ls < i + 6 := by
      rw [i_lt, show (6 : Int32) = nI 6 from rfl, pk_sub_toInt (by omega) (by decide), nI_toInt (by omega)]
      omega
    refine pw_iload_n dL_law_18 rfl ?_
    refine pw_aload_n dL_law_19 rfl ?_
    refine pw_alen dL_law_20 i1 (by decide) (by decide) ?_
    rw [l1]
    refine pw_bipush (v := 6) dL_law_21 (by decide) ?_
    refine pw_isub dL_law_23 ?_
    refine pw_icmp_gt (tgt := 901) dL_law_24 (by decide) (fun h24 => ?_) (fun h24 => ?_)
    · refine pw_iconst (v := 1) dL_law_901 (by decide) ?_
      refine pw_iret dL_law_902 rfl (by first | rfl | exact bI_nar) ?_
      exact rfl
    · exact absurd (hc.mpr (by omega)) h24
  | succ q ih =>
    intro i σ hq hi hJ
    obtain ⟨hS, hf, -⟩ := id hJ
    obtain ⟨i1, l1, v1⟩ := scr_of hf
    have hc : nI Ls - 6 < nI i ↔ Ls < i + 6 := by
      rw [i_lt, show (6 : Int32) = nI 6 from rfl, pk_sub_toInt (by omega) (by decide), nI_toInt (by omega)]
      omega
    by_cases z : Ls < i + 6
    · skip
      refine pw_iload_n dL_law_18 rfl ?_
      refine pw_aload_n dL_law_19 rfl ?_
      refine pw_alen dL_law_20 i1 (by decide) (by decide) ?_
      rw [l1]
      refine pw_bipush (v := 6) dL_law_21 (by decide) ?_
      refine pw_isub dL_law_23 ?_
      refine pw_icmp_gt (tgt := 901) dL_law_24 (by decide) (fun h24 => ?_) (fun h24 => ?_)
      · refine pw_iconst (v := 1) dL_law_901 (by decide) ?_
        refine pw_iret dL_law_902 rfl (by first | rfl | exact bI_nar) ?_
        exact rfl
      · exact absurd (hc.mpr z) h24
    · have hi6 : i + 6 ≤ Ls := by omega
      have kk : ∀ τ, JJ Ls xs τ → PW d (2 * q) pm_ML 895 [.ref 1, .ref 6, .ref 43, .int (nI i)] [] τ (fun r _ => r = some (.int 1)) := fun τ hτ => lw_next (ih (i + 6) τ (by omega) (by omega) hτ)
      rw [show 2 * (q + 1) = 2 * q + 2 by omega]
      refine pw_iload_n dL_law_18 rfl ?_
      refine pw_aload_n dL_law_19 rfl ?_
      refine pw_alen dL_law_20 i1 (by decide) (by decide) ?_
      rw [l1]
      refine pw_bipush (v := 6) dL_law_21 (by decide) ?_
      refine pw_isub dL_law_23 ?_
      refine pw_icmp_gt (tgt := 901) dL_law_24 (by decide) (fun h24 => ?_) (fun h24 => ?_)
      · exact absurd (hc.mp h24) z
      · refine pw_aload_n dL_law_27 rfl ?_
        refine pw_iload_n dL_law_28 rfl ?_
        refine pw_iald dL_law_29 i1 rfl (by rw [l1]; omega) (by omega) ?_
        rw [v1]
        refine pw_bipush (v := 31) dL_law_30 (by decide) ?_
        refine pw_iand dL_law_32 ?_
        by_cases w33_0 : xs i &&& 31 = 0
        · rw [w33_0]
          refine pw_tsIn (off := 99) (tgt := 132) dL_law_33 (by decide) (by decide) (by decide) (by decide) ?_
          exact lw_0 hd hi6 hL hJ kk
        by_cases w33_1 : xs i &&& 31 = 1
        · rw [w33_1]
          refine pw_tsIn (off := 162) (tgt := 195) dL_law_33 (by decide) (by decide) (by decide) (by decide) ?_
          exact lw_1 hd hi6 hL hJ kk
        by_cases w33_2 : xs i &&& 31 = 2
        · rw [w33_2]
          refine pw_tsIn (off := 205) (tgt := 238) dL_law_33 (by decide) (by decide) (by decide) (by decide) ?_
          exact lw_2 hd hi6 hL hJ kk
        by_cases w33_3 : xs i &&& 31 = 3
        · rw [w33_3]
          refine pw_tsIn (off := 238) (tgt := 271) dL_law_33 (by decide) (by decide) (by decide) (by decide) ?_
          exact lw_3 hd hi6 hL hJ kk
        by_cases w33_4 : xs i &&& 31 = 4
        · rw [w33_4]
          refine pw_tsIn (off := 271) (tgt := 304) dL_law_33 (by decide) (by decide) (by decide) (by decide) ?_
          exact lw_4 hd hi6 hL hJ kk
        by_cases w33_5 : xs i &&& 31 = 5
        · rw [w33_5]
          refine pw_tsIn (off := 294) (tgt := 327) dL_law_33 (by decide) (by decide) (by decide) (by decide) ?_
          exact lw_5 hd hi6 hL hJ kk
        by_cases w33_6 : xs i &&& 31 = 6
        · rw [w33_6]
          refine pw_tsIn (off := 317) (tgt := 350) dL_law_33 (by decide) (by decide) (by decide) (by decide) ?_
          exact lw_6 hd hi6 hL hJ kk
        by_cases w33_7 : xs i &&& 31 = 7
        · rw [w33_7]
          refine pw_tsIn (off := 340) (tgt := 373) dL_law_33 (by decide) (by decide) (by decide) (by decide) ?_
          exact lw_7 hd hi6 hL hJ kk
        by_cases w33_8 : xs i &&& 31 = 8
        · rw [w33_8]
          refine pw_tsIn (off := 363) (tgt := 396) dL_law_33 (by decide) (by decide) (by decide) (by decide) ?_
          exact lw_8 hd hi6 hL hJ kk
        by_cases w33_9 : xs i &&& 31 = 9
        · rw [w33_9]
          refine pw_tsIn (off := 396) (tgt := 429) dL_law_33 (by decide) (by decide) (by decide) (by decide) ?_
          exact lw_9 hd hi6 hL hJ kk
        by_cases w33_10 : xs i &&& 31 = 10
        · rw [w33_10]
          refine pw_tsIn (off := 439) (tgt := 472) dL_law_33 (by decide) (by decide) (by decide) (by decide) ?_
          exact lw_10 hd hi6 hL hJ kk
        by_cases w33_11 : xs i &&& 31 = 11
        · rw [w33_11]
          refine pw_tsIn (off := 472) (tgt := 505) dL_law_33 (by decide) (by decide) (by decide) (by decide) ?_
          exact lw_11 hd hi6 hL hJ kk
        by_cases w33_12 : xs i &&& 31 = 12
        · rw [w33_12]
          refine pw_tsIn (off := 525) (tgt := 558) dL_law_33 (by decide) (by decide) (by decide) (by decide) ?_
          exact lw_12 hd hi6 hL hJ kk
        by_cases w33_13 : xs i &&& 31 = 13
        · rw [w33_13]
          refine pw_tsIn (off := 558) (tgt := 591) dL_law_33 (by decide) (by decide) (by decide) (by decide) ?_
          exact lw_13 hd hi6 hL hJ kk
        by_cases w33_14 : xs i &&& 31 = 14
        · rw [w33_14]
          refine pw_tsIn (off := 601) (tgt := 634) dL_law_33 (by decide) (by decide) (by decide) (by decide) ?_
          exact lw_14 hd hi6 hL hJ kk
        by_cases w33_15 : xs i &&& 31 = 15
        · rw [w33_15]
          refine pw_tsIn (off := 634) (tgt := 667) dL_law_33 (by decide) (by decide) (by decide) (by decide) ?_
          exact lw_15 hd hi6 hL hJ kk
        by_cases w33_16 : xs i &&& 31 = 16
        · rw [w33_16]
          refine pw_tsIn (off := 697) (tgt := 730) dL_law_33 (by decide) (by decide) (by decide) (by decide) ?_
          exact lw_16 hd hi6 hL hJ kk
        by_cases w33_17 : xs i &&& 31 = 17
        · rw [w33_17]
          refine pw_tsIn (off := 720) (tgt := 753) dL_law_33 (by decide) (by decide) (by decide) (by decide) ?_
          exact lw_17 hd hi6 hL hJ kk
        by_cases w33_18 : xs i &&& 31 = 18
        · rw [w33_18]
          refine pw_tsIn (off := 733) (tgt := 766) dL_law_33 (by decide) (by decide) (by decide) (by decide) ?_
          exact lw_18 hd hi6 hL hJ kk
        by_cases w33_19 : xs i &&& 31 = 19
        · rw [w33_19]
          refine pw_tsIn (off := 756) (tgt := 789) dL_law_33 (by decide) (by decide) (by decide) (by decide) ?_
          exact lw_19 hd hi6 hL hJ kk
        by_cases w33_20 : xs i &&& 31 = 20
        · rw [w33_20]
          refine pw_tsIn (off := 799) (tgt := 832) dL_law_33 (by decide) (by decide) (by decide) (by decide) ?_
          exact lw_20 hd hi6 hL hJ kk
        refine pw_tsOut (tgt := 895) dL_law_33 (by have a0 := sw_ne w33_0 (z := 0) rfl; have a1 := sw_ne w33_1 (z := 1) rfl; have a2 := sw_ne w33_2 (z := 2) rfl; have a3 := sw_ne w33_3 (z := 3) rfl; have a4 := sw_ne w33_4 (z := 4) rfl; have a5 := sw_ne w33_5 (z := 5) rfl; have a6 := sw_ne w33_6 (z := 6) rfl; have a7 := sw_ne w33_7 (z := 7) rfl; have a8 := sw_ne w33_8 (z := 8) rfl; have a9 := sw_ne w33_9 (z := 9) rfl; have a10 := sw_ne w33_10 (z := 10) rfl; have a11 := sw_ne w33_11 (z := 11) rfl; have a12 := sw_ne w33_12 (z := 12) rfl; have a13 := sw_ne w33_13 (z := 13) rfl; have a14 := sw_ne w33_14 (z := 14) rfl; have a15 := sw_ne w33_15 (z := 15) rfl; have a16 := sw_ne w33_16 (z := 16) rfl; have a17 := sw_ne w33_17 (z := 17) rfl; have a18 := sw_ne w33_18 (z := 18) rfl; have a19 := sw_ne w33_19 (z := 19) rfl; have a20 := sw_ne w33_20 (z := 20) rfl; omega) (by decide) ?_
        exact PW.mono (Nat.le_add_right _ _) (kk σ hJ)
theorem lw_all {d Ls : Nat} {xs : Nat → Int32} (hd : 101 ≤ d) (hL : Ls ≤ 3072) : PM d 2000 pm_ML [.ref 1] (pm_s0 Ls xs) (fun r _ => r = some (.int 1)) := by
  show PW _ _ _ _ _ _ _ _
  rw [mk_0]
  refine pw_new dL_law_0 nlL_7 (show 6 ≤ 6 by decide) ?_
  rw [mk_N, mk_nw (N2 := 7) (t := 11) (n := 0) rfl rfl rfl rfl rfl rfl]
  refine pw_dup dL_law_3 rfl ?_
  refine pw_cI0 (d1 := d - 1) (a1 := 36) (a2 := 1963) dL_law_4 mtX11_init rfl imX11_init rfl mlL_9 (Nat.le_of_ble_eq_true rfl) (Nat.le_of_ble_eq_true rfl) (by omega) (by omega) (by omega) (t_made (by omega)) ?_
  rintro r_ τ_ ⟨hr_, ht_⟩; subst r_; subst τ_
  refine pw_astore_n dL_law_7 (Nat.le_of_ble_eq_true rfl) (Nat.le_of_ble_eq_true rfl) rfl ?_
  refine pw_new dL_law_8 nlL_10 (show 6 ≤ 43 by decide) ?_
  rw [mk_N, mk_nw (N2 := 44) (t := 12) (n := 0) rfl rfl rfl rfl rfl rfl]
  refine pw_dup dL_law_11 rfl ?_
  refine pw_cI0 (d1 := d - 1) (a1 := 24) (a2 := 1938) dL_law_12 mtX12_init rfl imX12_init rfl mlL_12 (Nat.le_of_ble_eq_true rfl) (Nat.le_of_ble_eq_true rfl) (by omega) (by omega) (by omega) (t_made2 (by omega)) ?_
  rintro r_ τ_ ⟨hr_, ht_⟩; subst r_; subst τ_
  refine pw_astore_n dL_law_15 (Nat.le_of_ble_eq_true rfl) (Nat.le_of_ble_eq_true rfl) rfl ?_
  refine pw_iconst (v := 0) dL_law_16 (by decide) ?_
  refine pw_istore_n dL_law_17 (Nat.le_of_ble_eq_true rfl) (Nat.le_of_ble_eq_true rfl) rfl ?_
  exact PW.mono (show 2 * 512 ≤ 1938 by decide) (lw_loop hd hL 512 0 _ (by omega) (by omega) (JJ_0 Ls xs))
