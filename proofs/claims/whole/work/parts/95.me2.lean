/-! ===== the reference: a rule of a set, the first that bars ===== -/
theorem s_so_not {d al e i top k : Nat} {σ τ : pm_S} {se g set u r : Int32} {x7 : Value} {Q : Option Value → pm_S → Prop} (hS0 : pm_fix σ) (hX : plX σ τ) (hk : k < 12) (he : qI σ 61 (k + 1) = nI e) (he2 : e ≤ 600) (hi : i < e) (ht : top ≤ 40) (hv : qI σ 62 i = nI 20003) (h1 : qI τ 65 top = u) (hr : 1 - u = r)
    (kk : ∀ z, PW d al MX12_isSo 11 [.ref 43, .int (nI k), .int se, .int g, .int set, .int (nI (top + 1)), .int (nI (i + 1)), .int z] [] (pm_sI τ 65 top r) Q) : PW d al MX12_isSo 11 [.ref 43, .int (nI k), .int se, .int g, .int set, .int (nI (top + 1)), .int (nI i), x7] [] τ Q := by
  have hS : pm_fix τ := fix_of2 hX.1 hS0
  have e1 : qI τ 61 (k + 1) = nI e := (hX.2 61 _ (by decide)).trans he
  have e2 : qI τ 62 i = nI 20003 := (hX.2 62 _ (by decide)).trans hv
  have hk13 : k + 1 < 13 := by omega
  have hi6 : i < 620 := by omega
  have ht6 : top < 620 := by omega
  have ek : nI k + 1 = nI (k + 1) := (nI_succ k).symm
  have m2 : nI (top + 1) - 1 = nI top := by rw [show (1 : Int32) = nI 1 from rfl, pk_sub (by omega)]; rfl
  have kk2 := kk
  rw [nI_succ i] at kk2
  refine pw_iload dX12_isSo_11 rfl ?_
  refine pw_aload_n dX12_isSo_13 rfl ?_
  refine pw_getF (v := 61) dX12_isSo_14 flX12_61 rfl (hS.at rfl rfl rfl) (hS.rf (43, 24, 61) rfl (by decide)) ?_
  refine pw_iload_n dX12_isSo_17 rfl ?_
  refine pw_iconst (v := 1) dX12_isSo_18 (by decide) ?_
  refine pw_iadd dX12_isSo_19 ?_
  refine pw_iald dX12_isSo_20 (hS.at rfl rfl rfl) ek (hS.lt rfl rfl hk13 rfl) (by omega) ?_
  rw [e1]
  refine pw_icmp_ge (tgt := 147) dX12_isSo_21 (by decide) (fun h21 => ?_) (fun h21 => ?_)
  · exact absurd h21 (nI_ge hi (by omega))
  · refine pw_aload_n dX12_isSo_24 rfl ?_
    refine pw_getF (v := 62) dX12_isSo_25 flX12_64 rfl (hS.at rfl rfl rfl) (hS.rf (43, 25, 62) rfl (by decide)) ?_
    refine pw_iload dX12_isSo_28 rfl ?_
    refine pw_iald dX12_isSo_30 (hS.at rfl rfl rfl) rfl (hS.lt rfl rfl hi6 rfl) (by omega) ?_
    rw [e2]
    refine pw_istore dX12_isSo_31 (Nat.le_of_ble_eq_true rfl) (Nat.le_of_ble_eq_true rfl) rfl ?_
    refine pw_iload dX12_isSo_33 rfl ?_
    refine pw_sipush (v := 20000) dX12_isSo_35 (by decide) ?_
    refine pw_icmp_ge (tgt := 77) dX12_isSo_38 (by decide) (fun h38 => ?_) (fun h38 => ?_)
    · refine pw_iload dX12_isSo_77 rfl ?_
      refine pw_sipush (v := 20003) dX12_isSo_79 (by decide) ?_
      refine pw_icmp_ne (tgt := 108) dX12_isSo_82 (by decide) (fun h82 => ?_) (fun h82 => ?_)
      · exact absurd rfl h82
      · refine pw_aload_n dX12_isSo_85 rfl ?_
        refine pw_getF (v := 65) dX12_isSo_86 flX12_73 rfl (hS.at rfl rfl rfl) (hS.rf (43, 28, 65) rfl (by decide)) ?_
        refine pw_iload dX12_isSo_89 rfl ?_
        refine pw_iconst (v := 1) dX12_isSo_91 (by decide) ?_
        refine pw_isub dX12_isSo_92 ?_
        refine pw_iconst (v := 1) dX12_isSo_93 (by decide) ?_
        refine pw_aload_n dX12_isSo_94 rfl ?_
        refine pw_getF (v := 65) dX12_isSo_95 flX12_73 rfl (hS.at rfl rfl rfl) (hS.rf (43, 28, 65) rfl (by decide)) ?_
        refine pw_iload dX12_isSo_98 rfl ?_
        refine pw_iconst (v := 1) dX12_isSo_100 (by decide) ?_
        refine pw_isub dX12_isSo_101 ?_
        refine pw_iald dX12_isSo_102 (hS.at rfl rfl rfl) m2 (hS.lt rfl rfl ht6 rfl) (by omega) ?_
        rw [h1]
        refine pw_isub dX12_isSo_103 ?_
        rw [hr]
        refine pw_iast dX12_isSo_104 (hS.at rfl rfl rfl) (by decide) m2 (hS.lt rfl rfl ht6 rfl) (by omega) ?_
        refine pw_goto (tgt := 141) dX12_isSo_105 (by decide) ?_
        refine pw_iinc1 dX12_isSo_141 rfl (Nat.le_of_ble_eq_true rfl) (Nat.le_of_ble_eq_true rfl) rfl ?_
        refine pw_goto (tgt := 11) dX12_isSo_144 (by decide) ?_
        exact kk2 _
    · exact absurd (by decide) h38
theorem cvs_at {A P s B : List stp} {x : stp} (h : A = P ++ (x :: s ++ B)) {j : Nat} (hj : j < (cv x).length) : (cvs A).getD ((cvs P).length + j) 0 = (cv x).getD j 0 := by
  have e : cvs A = cvs P ++ (cv x ++ cvs (s ++ B)) := by
    rw [h, cvs_app]
    rfl
  rw [e, getD_app_r, getD_app_l _ _ _ hj]
theorem cvs_lt {A P s B : List stp} {x : stp} (h : A = P ++ (x :: s ++ B)) : (cvs P).length + (cv x).length ≤ (cvs A).length := by
  have e : cvs A = cvs P ++ (cv x ++ cvs (s ++ B)) := by
    rw [h, cvs_app]
    rfl
  rw [e, List.length_append, List.length_append]
  omega
theorem cvs_nx (P : List stp) (x : stp) : (cvs (P ++ [x])).length = (cvs P).length + (cv x).length := by
  rw [cvs_app, cvs_1, List.length_append]
theorem s_isSo_lp {d al e k : Nat} {σ : pm_S} {row : Nat → Int32} {se g set : Int32} {A : List stp} {b : Bool} (hd : 2 ≤ d) (hS0 : pm_fix σ) (hkn : knC σ row se g set) (hk : k < 12) (he : qI σ 61 (k + 1) = nI e) (hst : ∀ m, m < (cvs A).length → qI σ 62 m = nI ((cvs A).getD m 0)) (hA : (cvs A).length ≤ 600) : ∀ (s P B : List stp) (K : List Bool) (τ : pm_S) (x7 : Value), A = P ++ (s ++ B) → (∀ x ∈ s, wfs x) → ev 30 (cmF row) s K = some [b] → K.length ≤ 30 → plX σ τ → plS τ K → (cvs (P ++ s)).length = e → PW d al MX12_isSo 11 [.ref 43, .int (nI k), .int se, .int g, .int set, .int (nI K.length), .int (nI (cvs P).length), x7] [] τ (fun v ρ => v = some (.int (bI (b = true))) ∧ plX σ ρ) := by
  intro s
  induction s with
  | nil =>
    intro P B K τ x7 hA1 hwf hev hK hX hP hlen
    have hS : pm_fix τ := fix_of2 hX.1 hS0
    have hKb : K = [b] := by
      have hev : some K = some [b] := hev
      injection hev
    subst hKb
    rw [List.append_nil] at hlen
    have e1 : qI τ 61 (k + 1) = nI e := (hX.2 61 _ (by decide)).trans he
    have hk13 : k + 1 < 13 := by omega
    have ek : nI k + 1 = nI (k + 1) := (nI_succ k).symm
    have e0 : qI τ 65 0 = bI (b = true) := hP.1
    have hb1 : bI (b = true) = 1 ↔ b = true := by cases b <;> decide
    refine pw_iload dX12_isSo_11 rfl ?_
    refine pw_aload_n dX12_isSo_13 rfl ?_
    refine pw_getF (v := 61) dX12_isSo_14 flX12_61 rfl (hS.at rfl rfl rfl) (hS.rf (43, 24, 61) rfl (by decide)) ?_
    refine pw_iload_n dX12_isSo_17 rfl ?_
    refine pw_iconst (v := 1) dX12_isSo_18 (by decide) ?_
    refine pw_iadd dX12_isSo_19 ?_
    refine pw_iald dX12_isSo_20 (hS.at rfl rfl rfl) ek (hS.lt rfl rfl hk13 rfl) (by omega) ?_
    rw [e1, hlen]
    refine pw_icmp_ge (tgt := 147) dX12_isSo_21 (by decide) (fun h21 => ?_) (fun h21 => ?_)
    · refine pw_aload_n dX12_isSo_147 rfl ?_
      refine pw_getF (v := 65) dX12_isSo_148 flX12_73 rfl (hS.at rfl rfl rfl) (hS.rf (43, 28, 65) rfl (by decide)) ?_
      refine pw_iconst (v := 0) dX12_isSo_151 (by decide) ?_
      refine pw_iald dX12_isSo_152 (hS.at rfl rfl rfl) (k := 0) rfl (hS.lt rfl rfl (show 0 < 1 by decide) rfl) (by decide) ?_
      rw [e0]
      refine pw_iconst (v := 1) dX12_isSo_153 (by decide) ?_
      refine pw_icmp_ne (tgt := 161) dX12_isSo_154 (by decide) (fun h154 => ?_) (fun h154 => ?_)
      · refine pw_iconst (v := 0) dX12_isSo_161 (by decide) ?_
        refine pw_iret dX12_isSo_162 rfl (by first | rfl | exact bI_nar) ?_
        first | exact ⟨by rw [bI_f (fun z => h154 (hb1.mpr z))], hX⟩ | exact ⟨by rw [bI_t (hb1.mp h154)], hX⟩
      · refine pw_iconst (v := 1) dX12_isSo_157 (by decide) ?_
        refine pw_goto (tgt := 162) dX12_isSo_158 (by decide) ?_
        refine pw_iret dX12_isSo_162 rfl (by first | rfl | exact bI_nar) ?_
        first | exact ⟨by rw [bI_f (fun z => h154 (hb1.mpr z))], hX⟩ | exact ⟨by rw [bI_t (hb1.mp h154)], hX⟩
    · exact absurd (Int32.le_refl _) h21
  | cons x s ih =>
    intro P B K τ x7 hA1 hwf hev hK hX hP hlen
    have hwx := hwf x List.mem_cons_self
    have hws : ∀ y ∈ s, wfs y := fun y hy => hwf y (List.mem_cons_of_mem _ hy)
    have hev : (evS 30 (cmF row) x K).bind (ev 30 (cmF row) s) = some [b] := hev
    have hA2 : A = P ++ [x] ++ (s ++ B) := by rw [hA1, List.append_assoc]; rfl
    have hlen2 : (cvs (P ++ [x] ++ s)).length = e := by rw [← hlen, List.append_assoc]; rfl
    have hle := cvs_lt hA1
    have hnx := cvs_nx P x
    have hee : (cvs P).length + (cv x).length ≤ e := by
      rw [← hlen2, cvs_app, List.length_append, hnx]; omega
    have he6 : e ≤ 600 := by
      have e1 : A = (P ++ x :: s) ++ B := by rw [hA1]; simp
      have : (cvs (P ++ x :: s)).length ≤ (cvs A).length := by rw [e1, cvs_app (P ++ x :: s), List.length_append]; omega
      omega
    obtain ⟨o, l, y⟩ := x
    rcases hwx with h1 | h1 | h1 | h1
    · have h1 : o = 1 := h1
      subst h1
      have c1 : (cv (1, l, y)).length = 1 := rfl
      have hv := hst ((cvs P).length + 0) (by omega)
      rw [cvs_at hA1 (by omega)] at hv
      have hv : qI σ 62 (cvs P).length = nI 20005 := hv
      cases K with
      | nil => exact nomatch hev
      | cons p K =>
        cases K with
        | nil => exact nomatch hev
        | cons p' K =>
          have hK : K.length + 1 + 1 ≤ 30 := hK
          have hP1 : qI τ 65 (K.length + 1) = bI (p = true) := hP.1
          refine s_so_two (u := bI (p' = true)) (y := bI (p = true)) (top := K.length) (by omega) hS0 hX hk he he6 (by omega) (by omega) hv (by decide) (by decide) (by decide) hP.2.1 hP1 (s_both_or p' p) (fun z => ?_)
          have hh := ih (P ++ [(1, l, y)]) B ((p' || p) :: K) (pm_sI τ 65 K.length (bI ((p' || p) = true))) (.int z) hA2 hws hev (by show K.length + 1 ≤ 30; omega) hX.sI ⟨qI_sI_eq, plS.sI hP.2.2 (Nat.le_refl _)⟩ hlen2
          rw [hnx] at hh
          exact hh
    · have h1 : o = 2 := h1
      subst h1
      have c1 : (cv (2, l, y)).length = 1 := rfl
      have hv := hst ((cvs P).length + 0) (by omega)
      rw [cvs_at hA1 (by omega)] at hv
      have hv : qI σ 62 (cvs P).length = nI 20004 := hv
      cases K with
      | nil => exact nomatch hev
      | cons p K =>
        cases K with
        | nil => exact nomatch hev
        | cons p' K =>
          have hK : K.length + 1 + 1 ≤ 30 := hK
          have hP1 : qI τ 65 (K.length + 1) = bI (p = true) := hP.1
          refine s_so_two (u := bI (p' = true)) (y := bI (p = true)) (top := K.length) (by omega) hS0 hX hk he he6 (by omega) (by omega) hv (by decide) (by decide) (by decide) hP.2.1 hP1 (s_both_and p' p) (fun z => ?_)
          have hh := ih (P ++ [(2, l, y)]) B ((p' && p) :: K) (pm_sI τ 65 K.length (bI ((p' && p) = true))) (.int z) hA2 hws hev (by show K.length + 1 ≤ 30; omega) hX.sI ⟨qI_sI_eq, plS.sI hP.2.2 (Nat.le_refl _)⟩ hlen2
          rw [hnx] at hh
          exact hh
    · have h1 : o = 3 := h1
      subst h1
      have c1 : (cv (3, l, y)).length = 1 := rfl
      have hv := hst ((cvs P).length + 0) (by omega)
      rw [cvs_at hA1 (by omega)] at hv
      have hv : qI σ 62 (cvs P).length = nI 20003 := hv
      cases K with
      | nil => exact nomatch hev
      | cons p K =>
        have hK : K.length + 1 ≤ 30 := hK
        refine s_so_not (u := bI (p = true)) (top := K.length) hS0 hX hk he he6 (by omega) (by omega) hv hP.1 (bI_not p) (fun z => ?_)
        have hh := ih (P ++ [(3, l, y)]) B ((!p) :: K) (pm_sI τ 65 K.length (bI ((!p) = true))) (.int z) hA2 hws hev (by show K.length + 1 ≤ 30; omega) hX.sI ⟨qI_sI_eq, plS.sI hP.2 (Nat.le_refl _)⟩ hlen2
        rw [hnx] at hh
        exact hh
    · obtain ⟨h1, h2, h3, h4⟩ : 18 ≤ o ∧ o ≤ 20 ∧ l < 10022 ∧ y < 10022 := h1
      by_cases hK2 : K.length < 30
      · rw [evS_cmp (s := (o, l, y)) h1 hK2] at hev
        have ecv : cv (o, l, y) = [mterm l, mterm y, 20000 + (o - 18)] := by rw [← cvs_1, cv_cmp ⟨h1, h2⟩]
        have c1 : (cv (o, l, y)).length = 3 := by rw [ecv]; rfl
        have v0 := hst ((cvs P).length + 0) (by omega)
        have v1 := hst ((cvs P).length + 1) (by omega)
        have v2 := hst ((cvs P).length + 2) (by omega)
        rw [cvs_at hA1 (by omega), ecv] at v0 v1 v2
        have v0 : qI σ 62 (cvs P).length = nI (mterm l) := v0
        have v1 : qI σ 62 ((cvs P).length + 1) = nI (mterm y) := v1
        have v2 : qI σ 62 ((cvs P).length + 1 + 1) = nI (20000 + (o - 18)) := v2
        refine s_so_push hd hS0 hX hkn hk he he6 (by omega) (by omega) v0 h3 (fun z0 => ?_)
        refine s_so_push hd hS0 hX.sI hkn hk he he6 (by omega) (by omega) v1 h4 (fun z1 => ?_)
        refine s_so_two (u := fv row l) (y := fv row y) (top := K.length) (by omega) hS0 hX.sI.sI hk he he6 (by omega) (by omega) v2 (by omega) (by omega) (by omega) ((qI_sI_ne (by omega)).trans qI_sI_eq) qI_sI_eq (s_both_c row ⟨h1, h2⟩) (fun z => ?_)
        have hh := ih (P ++ [(o, l, y)]) B (cmF row (o, l, y) :: K) (pm_sI (pm_sI (pm_sI τ 65 K.length (fv row l)) 65 (K.length + 1) (fv row y)) 65 K.length (bI (cmF row (o, l, y) = true))) (.int z) hA2 hws hev (by show K.length + 1 ≤ 30; omega) hX.sI.sI.sI ⟨qI_sI_eq, plS.sI (plS.sI (plS.sI hP (Nat.le_refl _)) (Nat.le_succ _)) (Nat.le_refl _)⟩ hlen2
        rw [hnx, c1] at hh
        exact hh
      · exfalso
        have : evS 30 (cmF row) (o, l, y) K = none := by
          unfold evS
          rw [if_neg (show ¬ o = 3 by omega), if_neg (show ¬ o = 2 by omega), if_neg (show ¬ o = 1 by omega), if_neg hK2]
        rw [this] at hev
        exact nomatch hev
theorem s_isSo {d al k : Nat} {σ : pm_S} {row : Nat → Int32} {se g set : Int32} {P s B : List stp} {A : List stp} (hd : 2 ≤ d) (hS : pm_fix σ) (hkn : knC σ row se g set) (hk : k < 12) (h0 : qI σ 61 k = nI (cvs P).length) (he : qI σ 61 (k + 1) = nI (cvs (P ++ s)).length) (hst : ∀ m, m < (cvs A).length → qI σ 62 m = nI ((cvs A).getD m 0)) (hA : (cvs A).length ≤ 600) (hA1 : A = P ++ (s ++ B)) (hg : GE 30 s) : PM d al MX12_isSo [.ref 43, .int (nI k), .int se, .int g, .int set] σ (fun v τ => v = some (.int (bI (gB (cmF row) s = true))) ∧ plX σ τ) := by
  obtain ⟨b, hb⟩ := hg.2 30 (cmF row) [] (Nat.le_refl _)
  rw [gB_of hb]
  have hk13 : k < 13 := by omega
  show PW _ _ _ _ _ _ _ _
  refine pw_iconst (v := 0) dX12_isSo_0 (by decide) ?_
  refine pw_istore dX12_isSo_1 (Nat.le_of_ble_eq_true rfl) (Nat.le_of_ble_eq_true rfl) rfl ?_
  refine pw_aload_n dX12_isSo_3 rfl ?_
  refine pw_getF (v := 61) dX12_isSo_4 flX12_61 rfl (hS.at rfl rfl rfl) (hS.rf (43, 24, 61) rfl (by decide)) ?_
  refine pw_iload_n dX12_isSo_7 rfl ?_
  refine pw_iald dX12_isSo_8 (hS.at rfl rfl rfl) rfl (hS.lt rfl rfl hk13 rfl) (by omega) ?_
  rw [h0]
  refine pw_istore dX12_isSo_9 (Nat.le_of_ble_eq_true rfl) (Nat.le_of_ble_eq_true rfl) rfl ?_
  exact s_isSo_lp hd hS hkn hk he hst hA s P B [] σ (.retAddr 0) hA1 hg.1 hb (Nat.zero_le _) plX.rfl' trivial rfl
/-- the rules of the reference -/
def mrS (σ : pm_S) (rs : List (List stp)) : Prop := qI σ 43 21 = nI rs.length ∧ (∀ m, m ≤ rs.length → qI σ 61 m = nI (cvs (rs.take m).flatten).length) ∧ (∀ m, m < (cvs rs.flatten).length → qI σ 62 m = nI ((cvs rs.flatten).getD m 0)) ∧ rs.length ≤ 12 ∧ (cvs rs.flatten).length ≤ 600
theorem knC.of {σ τ : pm_S} {row : Nat → Int32} {se g set : Int32} (h : knC σ row se g set) (hX : plX σ τ) : knC τ row se g set := fun d ρ hd hρ x h1 h2 => h d ρ hd (hX.tr hρ) x h1 h2
theorem mrS.of {σ τ : pm_S} {rs : List (List stp)} (h : mrS σ rs) (hX : ∀ b j, b = 61 ∨ b = 62 ∨ (b = 43 ∧ j = 21) → qI τ b j = qI σ b j) : mrS τ rs := ⟨(hX 43 21 (by omega)).trans h.1, fun m hm => (hX 61 m (by omega)).trans (h.2.1 m hm), fun m hm => (hX 62 m (by omega)).trans (h.2.2.1 m hm), h.2.2.2⟩
theorem take_s' {α : Type} {rs : List (List α)} {m : Nat} {s : List α} {rest : List (List α)} (h : rs.drop m = s :: rest) : (rs.take (m + 1)).flatten = (rs.take m).flatten ++ s := by
  have h4 : rs.take (m + 1) = rs.take m ++ [s] := by
    rw [List.take_add_one]
    have : rs[m]? = some s := by
      have : (rs.drop m)[0]? = some s := by rw [h]; rfl
      rw [List.getElem?_drop] at this
      exact this
    rw [this]; rfl
  rw [h4, List.flatten_append]
  simp
theorem s_barBy_lp {d al : Nat} {row : Nat → Int32} {se g set : Int32} {rs : List (List stp)} {σ0 : pm_S} (hd : 3 ≤ d) (hg : ∀ s ∈ rs, GE 30 s) : ∀ (us : List (List stp)) (m : Nat) (σ : pm_S), m < 2 ^ 31 → rs.drop m = us → pm_fix σ → knC σ row se g set → mrS σ rs → plX σ0 σ → PW d al MX12_barredBy 3 [.ref 43, .int se, .int g, .int set, .int (nI m)] [] σ (fun v τ => v = some (.int (fB (cmF row) us m)) ∧ plX σ0 τ) := by
  intro us
  induction us with
  | nil =>
    intro m σ hm3 hm hS hkn hR hX0
    have hm2 : rs.length ≤ m := List.drop_eq_nil_iff.mp hm
    have hk := hR.1
    refine pw_iload dX12_barredBy_3 rfl ?_
    refine pw_aload_n dX12_barredBy_5 rfl ?_
    refine pw_getI dX12_barredBy_6 flX12_133 rfl (hS.at rfl rfl rfl) ?_
    rw [hk]
    refine pw_icmp_ge (tgt := 33) dX12_barredBy_9 (by decide) (fun h9 => ?_) (fun h9 => ?_)
    · refine pw_iconst (v := (-1)) dX12_barredBy_33 (by decide) ?_
      refine pw_iret dX12_barredBy_34 rfl rfl ?_
      exact ⟨rfl, hX0⟩
    · exact absurd (nI_le hm2 hm3) h9
  | cons s us ih =>
    intro m σ hm3 hm hS hkn hR hX0
    obtain ⟨d1, d2, d3⟩ := drop_c (d := []) hm
    have hk := hR.1
    have hn := hR.2.2.2.1
    have hmem : s ∈ rs := List.mem_of_mem_drop (by rw [hm]; exact List.mem_cons_self)
    have hA1 : rs.flatten = (rs.take m).flatten ++ (s ++ us.flatten) := by
      have := fl_cut rs m
      rw [hm] at this
      exact this
    have he := hR.2.1 (m + 1) (by omega)
    rw [take_s' hm] at he
    have hc := s_isSo (d := d - 1) (al := 0) (by omega) hS hkn (show m < 12 by omega) (hR.2.1 m (by omega)) he hR.2.2.1 hR.2.2.2.2 hA1 (hg s hmem)
    show PW _ _ _ _ _ _ _ (fun v τ => v = some (.int (if gB (cmF row) s = true then nI m else fB (cmF row) us (m + 1))) ∧ plX σ0 τ)
    by_cases z : gB (cmF row) s = true
    · rw [if_pos z]
      rw [bI_t z] at hc
      refine pw_iload dX12_barredBy_3 rfl ?_
      refine pw_aload_n dX12_barredBy_5 rfl ?_
      refine pw_getI dX12_barredBy_6 flX12_133 rfl (hS.at rfl rfl rfl) ?_
      rw [hk]
      refine pw_icmp_ge (tgt := 33) dX12_barredBy_9 (by decide) (fun h9 => ?_) (fun h9 => ?_)
      · exact absurd h9 (nI_ge (show m < rs.length by omega) (by omega))
      · refine pw_aload_n dX12_barredBy_12 rfl ?_
        refine pw_iload dX12_barredBy_13 rfl ?_
        refine pw_iload_n dX12_barredBy_15 rfl ?_
        refine pw_iload_n dX12_barredBy_16 rfl ?_
        refine pw_iload_n dX12_barredBy_17 rfl ?_
        refine pw_cV4 (d1 := d - 1) (a1 := 0) (a2 := al) dX12_barredBy_18 mtX12_isSo ivX12_isSo mlX12_273 (Nat.le_of_ble_eq_true rfl) (Nat.le_of_ble_eq_true rfl) (by omega) (by omega) (hS.at rfl rfl rfl) rfl rfl (hc) ?_
        rintro r_ τ_ ⟨hr_, ht_⟩; subst r_
        refine pw_if_eq (tgt := 27) dX12_barredBy_21 (by decide) (fun h21 => ?_) (fun h21 => ?_)
        · exact absurd h21 (by decide)
        · refine pw_iload dX12_barredBy_24 rfl ?_
          refine pw_iret dX12_barredBy_26 rfl rfl ?_
          exact ⟨rfl, hX0.tr ht_⟩
    · rw [if_neg z]
      rw [bI_f z] at hc
      refine pw_iload dX12_barredBy_3 rfl ?_
      refine pw_aload_n dX12_barredBy_5 rfl ?_
      refine pw_getI dX12_barredBy_6 flX12_133 rfl (hS.at rfl rfl rfl) ?_
      rw [hk]
      refine pw_icmp_ge (tgt := 33) dX12_barredBy_9 (by decide) (fun h9 => ?_) (fun h9 => ?_)
      · exact absurd h9 (nI_ge (show m < rs.length by omega) (by omega))
      · refine pw_aload_n dX12_barredBy_12 rfl ?_
        refine pw_iload dX12_barredBy_13 rfl ?_
        refine pw_iload_n dX12_barredBy_15 rfl ?_
        refine pw_iload_n dX12_barredBy_16 rfl ?_
        refine pw_iload_n dX12_barredBy_17 rfl ?_
        refine pw_cV4 (d1 := d - 1) (a1 := 0) (a2 := al) dX12_barredBy_18 mtX12_isSo ivX12_isSo mlX12_273 (Nat.le_of_ble_eq_true rfl) (Nat.le_of_ble_eq_true rfl) (by omega) (by omega) (hS.at rfl rfl rfl) rfl rfl (hc) ?_
        rintro r_ τ_ ⟨hr_, ht_⟩; subst r_
        refine pw_if_eq (tgt := 27) dX12_barredBy_21 (by decide) (fun h21 => ?_) (fun h21 => ?_)
        · refine pw_iinc1 dX12_barredBy_27 rfl (Nat.le_of_ble_eq_true rfl) (Nat.le_of_ble_eq_true rfl) rfl ?_
          refine pw_goto (tgt := 3) dX12_barredBy_30 (by decide) ?_
          have hh := ih (m + 1) τ_ (by omega) d3 (fix_of2 ht_.1 hS) (hkn.of ht_) (hR.of (fun b j hb => ht_.2 b j (by omega))) (hX0.tr ht_)
          rw [nI_succ] at hh
          exact hh
        · exact absurd rfl h21
theorem s_barBy {d al : Nat} {row : Nat → Int32} {se g set : Int32} {rs : List (List stp)} {σ : pm_S} (hd : 3 ≤ d) (hg : ∀ s ∈ rs, GE 30 s) (hS : pm_fix σ) (hkn : knC σ row se g set) (hR : mrS σ rs) : PM d al MX12_barredBy [.ref 43, .int se, .int g, .int set] σ (fun v τ => v = some (.int (fB (cmF row) rs 0)) ∧ plX σ τ) := by
  show PW _ _ _ _ _ _ _ _
  refine pw_iconst (v := 0) dX12_barredBy_0 (by decide) ?_
  refine pw_istore dX12_barredBy_1 (Nat.le_of_ble_eq_true rfl) (Nat.le_of_ble_eq_true rfl) rfl ?_
  exact s_barBy_lp hd hg rs 0 σ (by decide) rfl hS hkn hR plX.rfl'
abbrev okBr (σ : pm_S) (n : Nat) (se g set : Int32) : Prop := (0 ≤ se ∧ se ≤ 3) ∧ (1 ≤ g ∧ g ≤ 255) ∧ isSt σ n set
theorem s_barred_n {d al n : Nat} {se g set : Int32} {σ : pm_S} (hd : 4 ≤ d) (hS : pm_fix σ) (hn : qI σ 43 1 = nI n) (hn2 : n ≤ 20) (hz : ¬ okBr σ n se g set) : PE d al MX12_barred [.ref 43, .int se, .int g, .int set] σ (some (.int (-2))) σ := by
  show PW _ _ _ _ _ _ _ _
  refine pw_iload_n dX12_barred_0 rfl ?_
  refine pw_cS1 (d1 := d - 1) (a1 := 0) (a2 := al) dX12_barred_1 mtX12_isSeason stX12_isSeason mlX12_139 (Nat.le_of_ble_eq_true rfl) (Nat.le_of_ble_eq_true rfl) (by omega) (by omega) (s_isSeason (by omega) _) ?_
  rintro r_ τ_ ⟨hr_, ht_⟩; subst r_; subst τ_
  refine pw_if_eq (tgt := 32) dX12_barred_4 (by decide) (fun h4 => ?_) (fun h4 => ?_)
  · refine pw_bipush (v := (-2)) dX12_barred_32 (by decide) ?_
    refine pw_iret dX12_barred_34 rfl rfl ?_
    exact ⟨rfl, rfl⟩
  · refine pw_iload_n dX12_barred_7 rfl ?_
    refine pw_cS1 (d1 := d - 1) (a1 := 0) (a2 := al) dX12_barred_8 mtX12_areGuests stX12_areGuests mlX12_142 (Nat.le_of_ble_eq_true rfl) (Nat.le_of_ble_eq_true rfl) (by omega) (by omega) (s_areGuests (by omega) _) ?_
    rintro r_ τ_ ⟨hr_, ht_⟩; subst r_; subst τ_
    refine pw_if_eq (tgt := 32) dX12_barred_11 (by decide) (fun h11 => ?_) (fun h11 => ?_)
    · refine pw_bipush (v := (-2)) dX12_barred_32 (by decide) ?_
      refine pw_iret dX12_barred_34 rfl rfl ?_
      exact ⟨rfl, rfl⟩
    · refine pw_aload_n dX12_barred_14 rfl ?_
      refine pw_iload_n dX12_barred_15 rfl ?_
      refine pw_cV1 (d1 := d - 1) (a1 := 0) (a2 := al) dX12_barred_16 mtX12_isSet ivX12_isSet mlX12_145 (Nat.le_of_ble_eq_true rfl) (Nat.le_of_ble_eq_true rfl) (by omega) (by omega) (hS.at rfl rfl rfl) rfl rfl (s_isSet (by omega) hS hn hn2 _) ?_
      rintro r_ τ_ ⟨hr_, ht_⟩; subst r_; subst τ_
      refine pw_if_eq (tgt := 32) dX12_barred_19 (by decide) (fun h19 => ?_) (fun h19 => ?_)
      · refine pw_bipush (v := (-2)) dX12_barred_32 (by decide) ?_
        refine pw_iret dX12_barred_34 rfl rfl ?_
        exact ⟨rfl, rfl⟩
      · exact absurd ⟨bI_n.mp h4, bI_n.mp h11, bI_n.mp h19⟩ hz
theorem s_barred_y {d al n : Nat} {row : Nat → Int32} {se g set : Int32} {rs : List (List stp)} {σ : pm_S} (hd : 4 ≤ d) (hS : pm_fix σ) (hn : qI σ 43 1 = nI n) (hn2 : n ≤ 20) (hz : okBr σ n se g set) (hg : ∀ s ∈ rs, GE 30 s) (hkn : knC σ row se g set) (hR : mrS σ rs) : PM d al MX12_barred [.ref 43, .int se, .int g, .int set] σ (fun v τ => v = some (.int (fB (cmF row) rs 0)) ∧ plX σ τ) := by
  show PW _ _ _ _ _ _ _ _
  refine pw_iload_n dX12_barred_0 rfl ?_
  refine pw_cS1 (d1 := d - 1) (a1 := 0) (a2 := al) dX12_barred_1 mtX12_isSeason stX12_isSeason mlX12_139 (Nat.le_of_ble_eq_true rfl) (Nat.le_of_ble_eq_true rfl) (by omega) (by omega) (s_isSeason (by omega) _) ?_
  rintro r_ τ_ ⟨hr_, ht_⟩; subst r_; subst τ_
  refine pw_if_eq (tgt := 32) dX12_barred_4 (by decide) (fun h4 => ?_) (fun h4 => ?_)
  · exact absurd hz.1 (bI_0.mp h4)
  · refine pw_iload_n dX12_barred_7 rfl ?_
    refine pw_cS1 (d1 := d - 1) (a1 := 0) (a2 := al) dX12_barred_8 mtX12_areGuests stX12_areGuests mlX12_142 (Nat.le_of_ble_eq_true rfl) (Nat.le_of_ble_eq_true rfl) (by omega) (by omega) (s_areGuests (by omega) _) ?_
    rintro r_ τ_ ⟨hr_, ht_⟩; subst r_; subst τ_
    refine pw_if_eq (tgt := 32) dX12_barred_11 (by decide) (fun h11 => ?_) (fun h11 => ?_)
    · exact absurd hz.2.1 (bI_0.mp h11)
    · refine pw_aload_n dX12_barred_14 rfl ?_
      refine pw_iload_n dX12_barred_15 rfl ?_
      refine pw_cV1 (d1 := d - 1) (a1 := 0) (a2 := al) dX12_barred_16 mtX12_isSet ivX12_isSet mlX12_145 (Nat.le_of_ble_eq_true rfl) (Nat.le_of_ble_eq_true rfl) (by omega) (by omega) (hS.at rfl rfl rfl) rfl rfl (s_isSet (by omega) hS hn hn2 _) ?_
      rintro r_ τ_ ⟨hr_, ht_⟩; subst r_; subst τ_
      refine pw_if_eq (tgt := 32) dX12_barred_19 (by decide) (fun h19 => ?_) (fun h19 => ?_)
      · exact absurd hz.2.2 (bI_0.mp h19)
      · refine pw_aload_n dX12_barred_22 rfl ?_
        refine pw_iload_n dX12_barred_23 rfl ?_
        refine pw_iload_n dX12_barred_24 rfl ?_
        refine pw_iload_n dX12_barred_25 rfl ?_
        refine pw_cV3 (d1 := d - 1) (a1 := 0) (a2 := al) dX12_barred_26 mtX12_barredBy ivX12_barredBy mlX12_277 (Nat.le_of_ble_eq_true rfl) (Nat.le_of_ble_eq_true rfl) (by omega) (by omega) (hS.at rfl rfl rfl) rfl rfl (s_barBy (by omega) hg hS hkn hR) ?_
        rintro r_ τ_ ⟨hr_, ht_⟩; subst r_
        refine pw_goto (tgt := 34) dX12_barred_29 (by decide) ?_
        refine pw_iret dX12_barred_34 rfl rfl ?_
        exact ⟨rfl, ht_⟩
