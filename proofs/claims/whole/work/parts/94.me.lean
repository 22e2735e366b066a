/-! ===== the reference: facts, comparisons, the pile ===== -/
theorem m_bt_all : ∀ X, X < 256 → m_bt (nI X) 20 = nI (pcn (nI X)) := by decide +kernel
theorem s_known {d al n x : Nat} {σ : pm_S} {T : Nat → Option Nat} {set : Int32} (hd : 1 ≤ d) (hS : pm_fix σ) (hn : qI σ 43 1 = nI n) (hn2 : n ≤ 20) (hk : ∀ t, t < n → qI σ 44 t = nI (kd σ t) ∧ kd σ t < 5) (hr : rep (kd σ) n set T) (hx : 10000 ≤ x) (hx2 : x < 10022) (se : Int32) {g : Int32} (hg : lt8 g) : PE d al MX12_known [.ref 43, .int (nI (mterm x)), .int se, .int g, .int set] σ (some (.int (rwF σ T se g (qI σ 43 0) (x - 10000)))) σ := by
  show PW _ _ _ _ _ _ _ _
  by_cases z0 : x = 10000
  · subst z0
    refine pw_iload_n dX12_known_0 rfl ?_
    refine pw_sipush (v := 10001) dX12_known_1 (by decide) ?_
    refine pw_icmp_ne (tgt := 9) dX12_known_4 (by decide) (fun h4 => ?_) (fun h4 => ?_)
    · exact absurd rfl h4
    · refine pw_iload_n dX12_known_7 rfl ?_
      refine pw_iret dX12_known_8 rfl rfl ?_
      exact ⟨rfl, rfl⟩
  · by_cases z1 : x = 10001
    · subst z1
      have e : m_bt g 20 = nI (pcn g) := by
        obtain ⟨X, h1, rfl⟩ := lt8_get hg
        exact m_bt_all X h1
      refine pw_iload_n dX12_known_0 rfl ?_
      refine pw_sipush (v := 10001) dX12_known_1 (by decide) ?_
      refine pw_icmp_ne (tgt := 9) dX12_known_4 (by decide) (fun h4 => ?_) (fun h4 => ?_)
      · refine pw_iload_n dX12_known_9 rfl ?_
        refine pw_sipush (v := 10002) dX12_known_10 (by decide) ?_
        refine pw_icmp_ne (tgt := 21) dX12_known_13 (by decide) (fun h13 => ?_) (fun h13 => ?_)
        · exact absurd rfl h13
        · refine pw_iload_n dX12_known_16 rfl ?_
          refine pw_cS1 (d1 := d - 1) (a1 := 0) (a2 := al) dX12_known_17 mtX12_bits stX12_bits mlX12_263 (Nat.le_of_ble_eq_true rfl) (Nat.le_of_ble_eq_true rfl) (by omega) (by omega) (s_bits g) ?_
          rintro r_ τ_ ⟨hr_, ht_⟩; subst r_; subst τ_
          refine pw_iret dX12_known_20 rfl rfl ?_
          exact ⟨by rw [e]; rfl, rfl⟩
      · exact absurd h4 (by decide)
    · have em : mterm x = 10010 + 10 * ((x - 10002) / 5) + (x - 10002) % 5 := by
        unfold mterm
        rw [if_neg (by omega), if_neg z0, if_neg z1]
      rw [em, show x - 10000 = x - 10002 + 2 by omega]
      have n1 : ¬ nI (10010 + 10 * ((x - 10002) / 5) + (x - 10002) % 5) = 10001 := fun z => by have := nI_inj (b := 10001) (by omega) (by decide) z; omega
      have n2 : ¬ nI (10010 + 10 * ((x - 10002) / 5) + (x - 10002) % 5) = 10002 := fun z => by have := nI_inj (b := 10002) (by omega) (by decide) z; omega
      refine pw_iload_n dX12_known_0 rfl ?_
      refine pw_sipush (v := 10001) dX12_known_1 (by decide) ?_
      refine pw_icmp_ne (tgt := 9) dX12_known_4 (by decide) (fun h4 => ?_) (fun h4 => ?_)
      · refine pw_iload_n dX12_known_9 rfl ?_
        refine pw_sipush (v := 10002) dX12_known_10 (by decide) ?_
        refine pw_icmp_ne (tgt := 21) dX12_known_13 (by decide) (fun h13 => ?_) (fun h13 => ?_)
        · refine pw_iconst (v := 0) dX12_known_21 (by decide) ?_
          refine pw_istore dX12_known_22 (Nat.le_of_ble_eq_true rfl) (Nat.le_of_ble_eq_true rfl) rfl ?_
          exact s_known_lp hS hn hn2 hk hr (y := x - 10002) (by omega) se g n 0 (by omega) (fun s hs => absurd hs (Nat.not_lt_zero s))
        · exact absurd h13 n2
      · exact absurd h4 n1
theorem s_both_c {d al o l x : Nat} {σ : pm_S} (row : Nat → Int32) (ho : 18 ≤ o ∧ o ≤ 20) : PE d al MX12_both [.int (nI (20000 + (o - 18))), .int (fv row l), .int (fv row x)] σ (some (.int (bI (cmF row (o, l, x) = true)))) σ := by
  show PW _ _ _ _ _ _ _ _
  by_cases z1 : o = 18
  · subst z1
    have c : cmF row (18, l, x) = true ↔ fv row l < fv row x := by
      show (decide _ = true) ↔ _
      exact decide_eq_true_iff
    refine pw_iload_n dX12_both_0 rfl ?_
    refine pw_tsIn (off := 35) (tgt := 36) dX12_both_1 (by decide) (by decide) (by decide) (by decide) ?_
    refine pw_iload_n dX12_both_36 rfl ?_
    refine pw_iload_n dX12_both_37 rfl ?_
    refine pw_icmp_ge (tgt := 45) dX12_both_38 (by decide) (fun h38 => ?_) (fun h38 => ?_)
    · refine pw_iconst (v := 0) dX12_both_45 (by decide) ?_
      refine pw_iret dX12_both_46 rfl rfl ?_
      first | exact ⟨by rw [bI_f (fun z => absurd h38 (Int32.not_le.mpr (c.mp z)))], rfl⟩ | exact ⟨by rw [bI_t (c.mpr (Int32.not_le.mp h38))], rfl⟩
    · refine pw_iconst (v := 1) dX12_both_41 (by decide) ?_
      refine pw_goto (tgt := 46) dX12_both_42 (by decide) ?_
      refine pw_iret dX12_both_46 rfl rfl ?_
      first | exact ⟨by rw [bI_f (fun z => absurd h38 (Int32.not_le.mpr (c.mp z)))], rfl⟩ | exact ⟨by rw [bI_t (c.mpr (Int32.not_le.mp h38))], rfl⟩
  · by_cases z2 : o = 19
    · subst z2
      have c : cmF row (19, l, x) = true ↔ fv row l = fv row x := by
        show (decide _ = true) ↔ _
        exact decide_eq_true_iff
      refine pw_iload_n dX12_both_0 rfl ?_
      refine pw_tsIn (off := 46) (tgt := 47) dX12_both_1 (by decide) (by decide) (by decide) (by decide) ?_
      refine pw_iload_n dX12_both_47 rfl ?_
      refine pw_iload_n dX12_both_48 rfl ?_
      refine pw_icmp_ne (tgt := 56) dX12_both_49 (by decide) (fun h49 => ?_) (fun h49 => ?_)
      · refine pw_iconst (v := 0) dX12_both_56 (by decide) ?_
        refine pw_iret dX12_both_57 rfl rfl ?_
        first | exact ⟨by rw [bI_f (fun z => h49 (c.mp z))], rfl⟩ | exact ⟨by rw [bI_t (c.mpr h49)], rfl⟩
      · refine pw_iconst (v := 1) dX12_both_52 (by decide) ?_
        refine pw_goto (tgt := 57) dX12_both_53 (by decide) ?_
        refine pw_iret dX12_both_57 rfl rfl ?_
        first | exact ⟨by rw [bI_f (fun z => h49 (c.mp z))], rfl⟩ | exact ⟨by rw [bI_t (c.mpr h49)], rfl⟩
    · have z3 : o = 20 := by omega
      subst z3
      have c : cmF row (20, l, x) = true ↔ fv row x < fv row l := by
        show (decide _ = true) ↔ _
        exact decide_eq_true_iff
      refine pw_iload_n dX12_both_0 rfl ?_
      refine pw_tsIn (off := 57) (tgt := 58) dX12_both_1 (by decide) (by decide) (by decide) (by decide) ?_
      refine pw_iload_n dX12_both_58 rfl ?_
      refine pw_iload_n dX12_both_59 rfl ?_
      refine pw_icmp_le (tgt := 67) dX12_both_60 (by decide) (fun h60 => ?_) (fun h60 => ?_)
      · refine pw_iconst (v := 0) dX12_both_67 (by decide) ?_
        refine pw_iret dX12_both_68 rfl rfl ?_
        first | exact ⟨by rw [bI_f (fun z => absurd h60 (Int32.not_le.mpr (c.mp z)))], rfl⟩ | exact ⟨by rw [bI_t (c.mpr (Int32.not_le.mp h60))], rfl⟩
      · refine pw_iconst (v := 1) dX12_both_63 (by decide) ?_
        refine pw_goto (tgt := 68) dX12_both_64 (by decide) ?_
        refine pw_iret dX12_both_68 rfl rfl ?_
        first | exact ⟨by rw [bI_f (fun z => absurd h60 (Int32.not_le.mpr (c.mp z)))], rfl⟩ | exact ⟨by rw [bI_t (c.mpr (Int32.not_le.mp h60))], rfl⟩
theorem bI_and (a b : Bool) : bI (a = true) &&& bI (b = true) = bI ((a && b) = true) := by cases a <;> cases b <;> rfl
theorem bI_or (a b : Bool) : bI (a = true) ||| bI (b = true) = bI ((a || b) = true) := by cases a <;> cases b <;> rfl
theorem bI_not (a : Bool) : 1 - bI (a = true) = bI ((!a) = true) := by cases a <;> rfl
theorem s_both_and {d al : Nat} {σ : pm_S} (a b : Bool) : PE d al MX12_both [.int (nI 20004), .int (bI (a = true)), .int (bI (b = true))] σ (some (.int (bI ((a && b) = true)))) σ := by
  show PW _ _ _ _ _ _ _ _
  rw [← bI_and]
  refine pw_iload_n dX12_both_0 rfl ?_
  refine pw_tsIn (off := 68) (tgt := 69) dX12_both_1 (by decide) (by decide) (by decide) (by decide) ?_
  refine pw_iload_n dX12_both_69 rfl ?_
  refine pw_iload_n dX12_both_70 rfl ?_
  refine pw_iand dX12_both_71 ?_
  refine pw_iret dX12_both_72 rfl rfl ?_
  exact ⟨rfl, rfl⟩
theorem s_both_or {d al : Nat} {σ : pm_S} (a b : Bool) : PE d al MX12_both [.int (nI 20005), .int (bI (a = true)), .int (bI (b = true))] σ (some (.int (bI ((a || b) = true)))) σ := by
  show PW _ _ _ _ _ _ _ _
  rw [← bI_or]
  refine pw_iload_n dX12_both_0 rfl ?_
  refine pw_tsOut (tgt := 73) dX12_both_1 (by decide) (by decide) ?_
  refine pw_iload_n dX12_both_73 rfl ?_
  refine pw_iload_n dX12_both_74 rfl ?_
  refine pw_ior dX12_both_75 ?_
  refine pw_iret dX12_both_76 rfl rfl ?_
  exact ⟨rfl, rfl⟩
/-- nothing but the pile has changed -/
def plX (σ τ : pm_S) : Prop := τ.2 = σ.2 ∧ ∀ b j, b ≠ 65 → qI τ b j = qI σ b j
theorem plX.rfl' {σ : pm_S} : plX σ σ := ⟨rfl, fun _ _ _ => rfl⟩
theorem plX.tr {σ τ ρ : pm_S} (h1 : plX σ τ) (h2 : plX τ ρ) : plX σ ρ := ⟨h2.1.trans h1.1, fun b j a => (h2.2 b j a).trans (h1.2 b j a)⟩
theorem plX.sI {σ τ : pm_S} {k : Nat} {x : Int32} (h : plX σ τ) : plX σ (pm_sI τ 65 k x) := ⟨h.1, fun b j a => by rw [qI_sI_nc a]; exact h.2 b j a⟩
/-- the truths on the pile -/
def plS (τ : pm_S) : List Bool → Prop
  | [] => True
  | b :: K => qI τ 65 K.length = bI (b = true) ∧ plS τ K
theorem plS.sI {τ : pm_S} {k : Nat} {x : Int32} : ∀ {K : List Bool}, plS τ K → K.length ≤ k → plS (pm_sI τ 65 k x) K
  | [], _, _ => trivial
  | b :: K, h, hk => by
    have hk : K.length + 1 ≤ k := hk
    exact ⟨by rw [qI_sI_ne (by omega)]; exact h.1, plS.sI h.2 (by omega)⟩
theorem mterm_s {x : Nat} (hx : x < 10000) : mterm x = x := if_pos hx
theorem mterm_b {x : Nat} (hx : 10000 ≤ x) (hx2 : x < 10022) : 10001 ≤ mterm x ∧ mterm x < 20000 := by
  unfold mterm
  rw [if_neg (by omega)]
  by_cases z0 : x = 10000
  · rw [if_pos z0]; omega
  · rw [if_neg z0]
    by_cases z1 : x = 10001
    · rw [if_pos z1]; omega
    · rw [if_neg z1]; omega
/-- what is asked of the facts -/
def knC (σ : pm_S) (row : Nat → Int32) (se g set : Int32) : Prop := ∀ (d : Nat) (τ : pm_S), 1 ≤ d → plX σ τ → ∀ x, 10000 ≤ x → x < 10022 → PE d 0 MX12_known [.ref 43, .int (nI (mterm x)), .int se, .int g, .int set] τ (some (.int (row (x - 10000)))) τ
theorem s_so_push {d al e i top x k : Nat} {σ τ : pm_S} {row : Nat → Int32} {se g set : Int32} {x7 : Value} {Q : Option Value → pm_S → Prop} (hd : 2 ≤ d) (hS0 : pm_fix σ) (hX : plX σ τ) (hkn : knC σ row se g set) (hk : k < 12) (he : qI σ 61 (k + 1) = nI e) (he2 : e ≤ 600) (hi : i < e) (ht : top ≤ 40) (hv : qI σ 62 i = nI (mterm x)) (hx : x < 10022)
    (kk : ∀ z, PW d al MX12_isSo 11 [.ref 43, .int (nI k), .int se, .int g, .int set, .int (nI (top + 1)), .int (nI (i + 1)), .int z] [] (pm_sI τ 65 top (fv row x)) Q) : PW d al MX12_isSo 11 [.ref 43, .int (nI k), .int se, .int g, .int set, .int (nI top), .int (nI i), x7] [] τ Q := by
  have hS : pm_fix τ := fix_of2 hX.1 hS0
  have e1 : qI τ 61 (k + 1) = nI e := (hX.2 61 _ (by decide)).trans he
  have e2 : qI τ 62 i = nI (mterm x) := (hX.2 62 _ (by decide)).trans hv
  have hk13 : k + 1 < 13 := by omega
  have hi6 : i < 620 := by omega
  have ht6 : top < 620 := by omega
  have ek : nI k + 1 = nI (k + 1) := (nI_succ k).symm
  rw [nI_succ, nI_succ] at kk
  by_cases z : 10000 ≤ x
  · obtain ⟨m1, m2⟩ := mterm_b z hx
    have hf : fv row x = row (x - 10000) := if_pos z
    rw [hf] at kk
    refine pw_iload dX12_isSo_11 rfl ?_
    refine pw_aload_n dX12_isSo_13 rfl ?_
    refine pw_getF (v := 61) dX12_isSo_14 flX12_61 rfl (hS.at rfl rfl rfl) (hS.rf (43, 24, 61) rfl (by decide)) ?_
    refine pw_iload_n dX12_isSo_17 rfl ?_
    refine pw_iconst (v := 1) dX12_isSo_18 (by decide) ?_
    refine pw_iadd dX12_isSo_19 ?_
    refine pw_iald dX12_isSo_20 (hS.at rfl rfl rfl) ek (hS.lt rfl rfl hk13 rfl) (by omega) ?_
    rw [e1]
    refine pw_icmp_ge (tgt := 147) dX12_isSo_21 (by decide) (fun h21 => ?_) (fun h21 => ?_)
    · exact absurd h21 (nI_ge hi (by omega))
    · refine pw_aload_n dX12_isSo_24 rfl ?_
      refine pw_getF (v := 62) dX12_isSo_25 flX12_64 rfl (hS.at rfl rfl rfl) (hS.rf (43, 25, 62) rfl (by decide)) ?_
      refine pw_iload dX12_isSo_28 rfl ?_
      refine pw_iald dX12_isSo_30 (hS.at rfl rfl rfl) rfl (hS.lt rfl rfl hi6 rfl) (by omega) ?_
      rw [e2]
      refine pw_istore dX12_isSo_31 (Nat.le_of_ble_eq_true rfl) (Nat.le_of_ble_eq_true rfl) rfl ?_
      refine pw_iload dX12_isSo_33 rfl ?_
      refine pw_sipush (v := 20000) dX12_isSo_35 (by decide) ?_
      refine pw_icmp_ge (tgt := 77) dX12_isSo_38 (by decide) (fun h38 => ?_) (fun h38 => ?_)
      · exact absurd h38 (nI_ge m2 (by decide))
      · refine pw_aload_n dX12_isSo_41 rfl ?_
        refine pw_getF (v := 65) dX12_isSo_42 flX12_73 rfl (hS.at rfl rfl rfl) (hS.rf (43, 28, 65) rfl (by decide)) ?_
        refine pw_iload dX12_isSo_45 rfl ?_
        refine pw_iload dX12_isSo_47 rfl ?_
        refine pw_sipush (v := 10001) dX12_isSo_49 (by decide) ?_
        refine pw_icmp_ge (tgt := 60) dX12_isSo_52 (by decide) (fun h52 => ?_) (fun h52 => ?_)
        · refine pw_aload_n dX12_isSo_60 rfl ?_
          refine pw_iload dX12_isSo_61 rfl ?_
          refine pw_iload_n dX12_isSo_63 rfl ?_
          refine pw_iload_n dX12_isSo_64 rfl ?_
          refine pw_iload dX12_isSo_65 rfl ?_
          refine pw_cV4 (d1 := d - 1) (a1 := 0) (a2 := al) dX12_isSo_67 mtX12_known ivX12_known mlX12_266 (Nat.le_of_ble_eq_true rfl) (Nat.le_of_ble_eq_true rfl) (by omega) (by omega) (hS.at rfl rfl rfl) rfl rfl (hkn (d - 1) τ (by omega) hX x z hx) ?_
          rintro r_ τ_ ⟨hr_, ht_⟩; subst r_; subst τ_
          refine pw_iast dX12_isSo_70 (hS.at rfl rfl rfl) (by decide) rfl (hS.lt rfl rfl ht6 rfl) (by omega) ?_
          refine pw_iinc1 dX12_isSo_71 rfl (Nat.le_of_ble_eq_true rfl) (Nat.le_of_ble_eq_true rfl) rfl ?_
          refine pw_goto (tgt := 141) dX12_isSo_74 (by decide) ?_
          refine pw_iinc1 dX12_isSo_141 rfl (Nat.le_of_ble_eq_true rfl) (Nat.le_of_ble_eq_true rfl) rfl ?_
          refine pw_goto (tgt := 11) dX12_isSo_144 (by decide) ?_
          exact kk _
        · exact absurd (nI_le m1 (by omega)) h52
  · have m1 := mterm_s (x := x) (by omega)
    have hf : fv row x = nI x := if_neg z
    rw [hf] at kk
    rw [m1] at e2
    refine pw_iload dX12_isSo_11 rfl ?_
    refine pw_aload_n dX12_isSo_13 rfl ?_
    refine pw_getF (v := 61) dX12_isSo_14 flX12_61 rfl (hS.at rfl rfl rfl) (hS.rf (43, 24, 61) rfl (by decide)) ?_
    refine pw_iload_n dX12_isSo_17 rfl ?_
    refine pw_iconst (v := 1) dX12_isSo_18 (by decide) ?_
    refine pw_iadd dX12_isSo_19 ?_
    refine pw_iald dX12_isSo_20 (hS.at rfl rfl rfl) ek (hS.lt rfl rfl hk13 rfl) (by omega) ?_
    rw [e1]
    refine pw_icmp_ge (tgt := 147) dX12_isSo_21 (by decide) (fun h21 => ?_) (fun h21 => ?_)
    · exact absurd h21 (nI_ge hi (by omega))
    · refine pw_aload_n dX12_isSo_24 rfl ?_
      refine pw_getF (v := 62) dX12_isSo_25 flX12_64 rfl (hS.at rfl rfl rfl) (hS.rf (43, 25, 62) rfl (by decide)) ?_
      refine pw_iload dX12_isSo_28 rfl ?_
      refine pw_iald dX12_isSo_30 (hS.at rfl rfl rfl) rfl (hS.lt rfl rfl hi6 rfl) (by omega) ?_
      rw [e2]
      refine pw_istore dX12_isSo_31 (Nat.le_of_ble_eq_true rfl) (Nat.le_of_ble_eq_true rfl) rfl ?_
      refine pw_iload dX12_isSo_33 rfl ?_
      refine pw_sipush (v := 20000) dX12_isSo_35 (by decide) ?_
      refine pw_icmp_ge (tgt := 77) dX12_isSo_38 (by decide) (fun h38 => ?_) (fun h38 => ?_)
      · exact absurd h38 (nI_ge (show x < 20000 by omega) (by decide))
      · refine pw_aload_n dX12_isSo_41 rfl ?_
        refine pw_getF (v := 65) dX12_isSo_42 flX12_73 rfl (hS.at rfl rfl rfl) (hS.rf (43, 28, 65) rfl (by decide)) ?_
        refine pw_iload dX12_isSo_45 rfl ?_
        refine pw_iload dX12_isSo_47 rfl ?_
        refine pw_sipush (v := 10001) dX12_isSo_49 (by decide) ?_
        refine pw_icmp_ge (tgt := 60) dX12_isSo_52 (by decide) (fun h52 => ?_) (fun h52 => ?_)
        · exact absurd h52 (nI_ge (show x < 10001 by omega) (by decide))
        · refine pw_iload dX12_isSo_55 rfl ?_
          refine pw_goto (tgt := 70) dX12_isSo_57 (by decide) ?_
          refine pw_iast dX12_isSo_70 (hS.at rfl rfl rfl) (by decide) rfl (hS.lt rfl rfl ht6 rfl) (by omega) ?_
          refine pw_iinc1 dX12_isSo_71 rfl (Nat.le_of_ble_eq_true rfl) (Nat.le_of_ble_eq_true rfl) rfl ?_
          refine pw_goto (tgt := 141) dX12_isSo_74 (by decide) ?_
          refine pw_iinc1 dX12_isSo_141 rfl (Nat.le_of_ble_eq_true rfl) (Nat.le_of_ble_eq_true rfl) rfl ?_
          refine pw_goto (tgt := 11) dX12_isSo_144 (by decide) ?_
          exact kk _
/-- two are joined into one -/
theorem s_so_two {d al e i top k w : Nat} {σ τ : pm_S} {se g set u y r : Int32} {x7 : Value} {Q : Option Value → pm_S → Prop} (hd : 1 ≤ d) (hS0 : pm_fix σ) (hX : plX σ τ) (hk : k < 12) (he : qI σ 61 (k + 1) = nI e) (he2 : e ≤ 600) (hi : i < e) (ht : top ≤ 40) (hv : qI σ 62 i = nI w) (hw : 20000 ≤ w) (hw2 : w < 30000) (hw3 : w ≠ 20003) (h1 : qI τ 65 top = u) (h2 : qI τ 65 (top + 1) = y)
    (hb : PE (d - 1) 0 MX12_both [.int (nI w), .int u, .int y] τ (some (.int r)) τ)
    (kk : ∀ z, PW d al MX12_isSo 11 [.ref 43, .int (nI k), .int se, .int g, .int set, .int (nI (top + 1)), .int (nI (i + 1)), .int z] [] (pm_sI τ 65 top r) Q) : PW d al MX12_isSo 11 [.ref 43, .int (nI k), .int se, .int g, .int set, .int (nI (top + 2)), .int (nI i), x7] [] τ Q := by
  have hS : pm_fix τ := fix_of2 hX.1 hS0
  have e1 : qI τ 61 (k + 1) = nI e := (hX.2 61 _ (by decide)).trans he
  have e2 : qI τ 62 i = nI w := (hX.2 62 _ (by decide)).trans hv
  have hk13 : k + 1 < 13 := by omega
  have hi6 : i < 620 := by omega
  have ht6 : top < 620 := by omega
  have ht7 : top + 1 < 620 := by omega
  have ek : nI k + 1 = nI (k + 1) := (nI_succ k).symm
  have m1 : nI (top + 2) - 1 = nI (top + 1) := by rw [show (1 : Int32) = nI 1 from rfl, pk_sub (by omega)]; rfl
  have m2 : nI (top + 1) - 1 = nI top := by rw [show (1 : Int32) = nI 1 from rfl, pk_sub (by omega)]; rfl
  have hne : ¬ nI w = 20003 := fun z => by have := nI_inj (b := 20003) (by omega) (by decide) z; omega
  have kk2 := kk
  rw [nI_succ i] at kk2
  refine pw_iload dX12_isSo_11 rfl ?_
  refine pw_aload_n dX12_isSo_13 rfl ?_
  refine pw_getF (v := 61) dX12_isSo_14 flX12_61 rfl (hS.at rfl rfl rfl) (hS.rf (43, 24, 61) rfl (by decide)) ?_
  refine pw_iload_n dX12_isSo_17 rfl ?_
  refine pw_iconst (v := 1) dX12_isSo_18 (by decide) ?_
  refine pw_iadd dX12_isSo_19 ?_
  refine pw_iald dX12_isSo_20 (hS.at rfl rfl rfl) ek (hS.lt rfl rfl hk13 rfl) (by omega) ?_
  rw [e1]
  refine pw_icmp_ge (tgt := 147) dX12_isSo_21 (by decide) (fun h21 => ?_) (fun h21 => ?_)
  · exact absurd h21 (nI_ge hi (by omega))
  · refine pw_aload_n dX12_isSo_24 rfl ?_
    refine pw_getF (v := 62) dX12_isSo_25 flX12_64 rfl (hS.at rfl rfl rfl) (hS.rf (43, 25, 62) rfl (by decide)) ?_
    refine pw_iload dX12_isSo_28 rfl ?_
    refine pw_iald dX12_isSo_30 (hS.at rfl rfl rfl) rfl (hS.lt rfl rfl hi6 rfl) (by omega) ?_
    rw [e2]
    refine pw_istore dX12_isSo_31 (Nat.le_of_ble_eq_true rfl) (Nat.le_of_ble_eq_true rfl) rfl ?_
    refine pw_iload dX12_isSo_33 rfl ?_
    refine pw_sipush (v := 20000) dX12_isSo_35 (by decide) ?_
    refine pw_icmp_ge (tgt := 77) dX12_isSo_38 (by decide) (fun h38 => ?_) (fun h38 => ?_)
    · refine pw_iload dX12_isSo_77 rfl ?_
      refine pw_sipush (v := 20003) dX12_isSo_79 (by decide) ?_
      refine pw_icmp_ne (tgt := 108) dX12_isSo_82 (by decide) (fun h82 => ?_) (fun h82 => ?_)
      · refine pw_iincm1 dX12_isSo_108 rfl (Nat.le_of_ble_eq_true rfl) (Nat.le_of_ble_eq_true rfl) rfl ?_
        rw [m1]
        refine pw_aload_n dX12_isSo_111 rfl ?_
        refine pw_getF (v := 65) dX12_isSo_112 flX12_73 rfl (hS.at rfl rfl rfl) (hS.rf (43, 28, 65) rfl (by decide)) ?_
        refine pw_iload dX12_isSo_115 rfl ?_
        refine pw_iconst (v := 1) dX12_isSo_117 (by decide) ?_
        refine pw_isub dX12_isSo_118 ?_
        refine pw_iload dX12_isSo_119 rfl ?_
        refine pw_aload_n dX12_isSo_121 rfl ?_
        refine pw_getF (v := 65) dX12_isSo_122 flX12_73 rfl (hS.at rfl rfl rfl) (hS.rf (43, 28, 65) rfl (by decide)) ?_
        refine pw_iload dX12_isSo_125 rfl ?_
        refine pw_iconst (v := 1) dX12_isSo_127 (by decide) ?_
        refine pw_isub dX12_isSo_128 ?_
        refine pw_iald dX12_isSo_129 (hS.at rfl rfl rfl) m2 (hS.lt rfl rfl ht6 rfl) (by omega) ?_
        rw [h1]
        refine pw_aload_n dX12_isSo_130 rfl ?_
        refine pw_getF (v := 65) dX12_isSo_131 flX12_73 rfl (hS.at rfl rfl rfl) (hS.rf (43, 28, 65) rfl (by decide)) ?_
        refine pw_iload dX12_isSo_134 rfl ?_
        refine pw_iald dX12_isSo_136 (hS.at rfl rfl rfl) rfl (hS.lt rfl rfl ht7 rfl) (by omega) ?_
        rw [h2]
        refine pw_cS3 (d1 := d - 1) (a1 := 0) (a2 := al) dX12_isSo_137 mtX12_both stX12_both mlX12_270 (Nat.le_of_ble_eq_true rfl) (Nat.le_of_ble_eq_true rfl) (by omega) (by omega) (hb) ?_
        rintro r_ τ_ ⟨hr_, ht_⟩; subst r_; subst τ_
        refine pw_iast dX12_isSo_140 (hS.at rfl rfl rfl) (by decide) m2 (hS.lt rfl rfl ht6 rfl) (by omega) ?_
        refine pw_iinc1 dX12_isSo_141 rfl (Nat.le_of_ble_eq_true rfl) (Nat.le_of_ble_eq_true rfl) rfl ?_
        refine pw_goto (tgt := 11) dX12_isSo_144 (by decide) ?_
        exact kk2 _
      · exact absurd h82 hne
    · exact absurd (nI_le hw (by omega)) h38
