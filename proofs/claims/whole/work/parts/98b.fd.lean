/-! ===== the reference: all sets, best ===== -/
def fdQ (σ : pm_S) (js : jst) (v : Option Value) (ρ : pm_S) : Prop := v = none ∧ kpX σ ρ ∧ mbJ ρ js
theorem mbC.st {σ τ : pm_S} {T : tup} {js : jst} {k c : Nat} (h : mbC σ τ T js) : mbC σ (pm_sI τ 67 k (nI c)) (oU T k c) js := by
  obtain ⟨h1, ⟨q1, q2, q3, q4, q5⟩, h3⟩ := h
  refine ⟨h1.sI (by unfold kI; omega), ⟨(qI_sI_nc (by decide)).trans q1, (qI_sI_nc (by decide)).trans q2, (qI_sI_nc (by decide)).trans q3, (qI_sI_nc (by decide)).trans q4, q5⟩, fun j hj => ?_⟩
  by_cases y : j = k
  · subst y; rw [qI_sI_eq, oU_same]; rfl
  · rw [qI_sI_ne (fun w => y w.2), oU_ne y]; exact h3 j hj
theorem s_in_e {d al k : Nat} {τ : pm_S} {house se g kinds y : Int32} {Q : Option Value → pm_S → Prop} (kk : PW d al MX12_finds 81 [.ref 43, .int house, .int se, .int g, .int kinds, .int 1, .int (nI k - 1), .int y] [] τ Q) : PW d al MX12_finds 199 [.ref 43, .int house, .int se, .int g, .int kinds, .int 1, .int (nI k), .int y] [] τ Q := by
  refine pw_iincm1 dX12_finds_199 rfl (Nat.le_of_ble_eq_true rfl) (Nat.le_of_ble_eq_true rfl) rfl ?_
  refine pw_goto (tgt := 98) dX12_finds_202 (by decide) ?_
  refine pw_iload dX12_finds_98 rfl ?_
  refine pw_if_lt (tgt := 205) dX12_finds_100 (by decide) (fun h100 => ?_) (fun h100 => ?_)
  · refine pw_goto (tgt := 81) dX12_finds_205 (by decide) ?_
    exact kk
  · refine pw_iload dX12_finds_103 rfl ?_
    refine pw_if_ne (tgt := 205) dX12_finds_105 (by decide) (fun h105 => ?_) (fun h105 => ?_)
    · refine pw_goto (tgt := 81) dX12_finds_205 (by decide) ?_
      exact kk
    · exact absurd h105 (by decide)
theorem s_in {d al n e m a r N : Nat} {σ : pm_S} {rs : List (List stp)} {house se g kinds : Int32} {js : jst} (hd : 8 ≤ d) (hX : bCx σ n e m rs a r) (hne : ∀ j, j < 5 → bB kinds j = true → cdl (bP σ e house se j) n 0 ≠ [])
    (hmain : ∀ (τ : pm_S) (T : tup) (x6 x7 : Int32), vT σ n e house se kinds T → mbC σ τ T js → (dn (bP σ e house se) (bB kinds) n 5 T).length < N → js.1 + (dn (bP σ e house se) (bB kinds) n 5 T).length + 1 < 2 ^ 31 - 1 → PW d al MX12_finds 81 [.ref 43, .int house, .int se, .int g, .int kinds, .int 1, .int x6, .int x7] [] τ (fdQ σ ((T :: dn (bP σ e house se) (bB kinds) n 5 T).foldl (bJd σ rs m se g) js))) :
    ∀ (k : Nat) (τ : pm_S) (T : tup) (x7 : Value), k ≤ 5 → vT σ n e house se kinds T → (∀ j, k ≤ j → j < 5 → bB kinds j = true → T j = some ((cdl (bP σ e house se j) n 0).headD 0)) → mbC σ τ T js → (dn (bP σ e house se) (bB kinds) n k T).length ≤ N → js.1 + (dn (bP σ e house se) (bB kinds) n k T).length < 2 ^ 31 - 1 → PW d al MX12_finds 98 [.ref 43, .int house, .int se, .int g, .int kinds, .int 0, .int (nI k - 1), x7] [] τ (fdQ σ ((dn (bP σ e house se) (bB kinds) n k T).foldl (bJd σ rs m se g) js)) := by
  obtain ⟨x1, x2, x3, x4⟩ := hX
  have hn2 := x2.1.2.1
  intro k
  induction k with
  | zero =>
    intro τ T x7 hk hv hf hC hl hb
    refine pw_iload dX12_finds_98 rfl ?_
    refine pw_if_lt (tgt := 205) dX12_finds_100 (by decide) (fun h100 => ?_) (fun h100 => ?_)
    · refine pw_goto (tgt := 81) dX12_finds_205 (by decide) ?_
      refine pw_iload dX12_finds_81 rfl ?_
      refine pw_if_eq (tgt := 208) dX12_finds_83 (by decide) (fun h83 => ?_) (fun h83 => ?_)
      · refine pw_vret dX12_finds_208 rfl ?_
        exact ⟨rfl, hC.1, hC.2.1⟩
      · exact absurd rfl h83
    · exact absurd (by decide) h100
  | succ k ih =>
    intro τ T x7 hk hv hf hC hl hb
    have hS := hC.1.fix x1
    have hk5 : k < 5 := by omega
    have ek : nI (k + 1) - 1 = nI k := by rw [show (1 : Int32) = nI 1 from rfl, pk_sub (by omega)]; rfl
    rw [ek]
    have e1 := hC.2.2 k hk5
    have hl' : (lv (bP σ e house se) (bB kinds) n k T ++ dn (bP σ e house se) (bB kinds) n k T).length ≤ N := hl
    have hb' : js.1 + (lv (bP σ e house se) (bB kinds) n k T ++ dn (bP σ e house se) (bB kinds) n k T).length < 2 ^ 31 - 1 := hb
    show PW _ _ _ _ _ _ _ (fdQ σ ((lv (bP σ e house se) (bB kinds) n k T ++ dn (bP σ e house se) (bB kinds) n k T).foldl (bJd σ rs m se g) js))
    by_cases z : bB kinds k = true
    · cases hT : T k with
      | none => exact absurd hT ((hv k).2 hk5 z)
      | some t =>
        rw [hT] at e1
        have e1 : qI τ 67 k = nI t := e1
        have htn := ((hv k).1 t hT).2.2.1
        have hnx := s_next (d := d - 1) (al := 0) (house := house) (se := se) (by omega) x1 x2 hC.1 hk5 (t := t + 1) (by omega)
        rw [nI_succ] at hnx
        cases hc : cdl (bP σ e house se k) (n - (t + 1)) (t + 1) with
        | nil =>
          rw [lv_nil z hT hc, List.nil_append] at hl' hb' ⊢
          rw [hc] at hnx
          have hnx : PE (d - 1) 0 MX12_next [.ref 43, .int (nI t + 1), .int (nI k), .int house, .int se] τ (some (.int (-1))) τ := hnx
          have hn0 := s_next (d := d - 1) (al := 0) (house := house) (se := se) (by omega) x1 x2 hC.1 hk5 (t := 0) (by omega)
          rw [Nat.sub_zero] at hn0
          cases hc0 : cdl (bP σ e house se k) n 0 with
          | nil => exact absurd hc0 (hne k hk5 z)
          | cons c0 cs0 =>
            rw [hc0] at hn0
            have hn0 : PE (d - 1) 0 MX12_next [.ref 43, .int 0, .int (nI k), .int house, .int se] τ (some (.int (nI c0))) τ := hn0
            obtain ⟨c1, c2, c3, -⟩ := cdl_tail n 0 hc0
            have hdn : dn (bP σ e house se) (bB kinds) n k T = dn (bP σ e house se) (bB kinds) n k (oU T k c0) := dn_cg k (by omega) (fun j hj => by
              have : j ≠ k := fun y => hj (by subst y; exact ⟨Nat.le_refl _, hk5, z⟩)
              rw [oU_ne this])
            rw [hdn] at hl' hb' ⊢
            have hh := fun x => ih (pm_sI τ 67 k (nI c0)) (oU T k c0) x (by omega) (hv.up hk5 z (by omega) c3) (fun j a b c => by
              by_cases y : j = k
              · subst y; rw [oU_same, hc0]; rfl
              · rw [oU_ne y]; exact hf j (by omega) b c) hC.st hl' hb'
            refine pw_iload dX12_finds_98 rfl ?_
            refine pw_if_lt (tgt := 205) dX12_finds_100 (by decide) (fun h100 => ?_) (fun h100 => ?_)
            · exact absurd h100 (nI_pos (by omega))
            · refine pw_iload dX12_finds_103 rfl ?_
              refine pw_if_ne (tgt := 205) dX12_finds_105 (by decide) (fun h105 => ?_) (fun h105 => ?_)
              · exact absurd rfl h105
              · refine pw_aload_n dX12_finds_108 rfl ?_
                refine pw_getF (v := 67) dX12_finds_109 flX12_83 rfl (hS.at rfl rfl rfl) (hS.rf (43, 40, 67) rfl (by decide)) ?_
                refine pw_iload dX12_finds_112 rfl ?_
                refine pw_iald dX12_finds_114 (hS.at rfl rfl rfl) rfl (hS.lt rfl rfl hk5 rfl) (by omega) ?_
                rw [e1]
                refine pw_iconst (v := (-1)) dX12_finds_115 (by decide) ?_
                refine pw_icmp_ne (tgt := 123) dX12_finds_116 (by decide) (fun h116 => ?_) (fun h116 => ?_)
                · refine pw_aload_n dX12_finds_123 rfl ?_
                  refine pw_aload_n dX12_finds_124 rfl ?_
                  refine pw_getF (v := 67) dX12_finds_125 flX12_83 rfl (hS.at rfl rfl rfl) (hS.rf (43, 40, 67) rfl (by decide)) ?_
                  refine pw_iload dX12_finds_128 rfl ?_
                  refine pw_iald dX12_finds_130 (hS.at rfl rfl rfl) rfl (hS.lt rfl rfl hk5 rfl) (by omega) ?_
                  rw [e1]
                  refine pw_iconst (v := 1) dX12_finds_131 (by decide) ?_
                  refine pw_iadd dX12_finds_132 ?_
                  refine pw_iload dX12_finds_133 rfl ?_
                  refine pw_iload_n dX12_finds_135 rfl ?_
                  refine pw_iload_n dX12_finds_136 rfl ?_
                  refine pw_cV4 (d1 := d - 1) (a1 := 0) (a2 := al) dX12_finds_137 mtX12_next ivX12_next mlX12_295 (Nat.le_of_ble_eq_true rfl) (Nat.le_of_ble_eq_true rfl) (by omega) (by omega) (hS.at rfl rfl rfl) rfl rfl (hnx) ?_
                  rintro r_ τ_ ⟨hr_, ht_⟩; subst r_; subst τ_
                  refine pw_istore dX12_finds_140 (Nat.le_of_ble_eq_true rfl) (Nat.le_of_ble_eq_true rfl) rfl ?_
                  refine pw_iload dX12_finds_142 rfl ?_
                  refine pw_iconst (v := (-1)) dX12_finds_144 (by decide) ?_
                  refine pw_icmp_eq (tgt := 152) dX12_finds_145 (by decide) (fun h145 => ?_) (fun h145 => ?_)
                  · refine pw_iconst (v := 0) dX12_finds_152 (by decide) ?_
                    refine pw_istore dX12_finds_153 (Nat.le_of_ble_eq_true rfl) (Nat.le_of_ble_eq_true rfl) rfl ?_
                    refine pw_iload dX12_finds_155 rfl ?_
                    refine pw_if_eq (tgt := 172) dX12_finds_157 (by decide) (fun h157 => ?_) (fun h157 => ?_)
                    · refine pw_aload_n dX12_finds_172 rfl ?_
                      refine pw_getF (v := 67) dX12_finds_173 flX12_83 rfl (hS.at rfl rfl rfl) (hS.rf (43, 40, 67) rfl (by decide)) ?_
                      refine pw_iload dX12_finds_176 rfl ?_
                      refine pw_iald dX12_finds_178 (hS.at rfl rfl rfl) rfl (hS.lt rfl rfl hk5 rfl) (by omega) ?_
                      rw [e1]
                      refine pw_iconst (v := (-1)) dX12_finds_179 (by decide) ?_
                      refine pw_icmp_eq (tgt := 199) dX12_finds_180 (by decide) (fun h180 => ?_) (fun h180 => ?_)
                      · exact absurd h180 (nI_nm1 (by omega))
                      · refine pw_aload_n dX12_finds_183 rfl ?_
                        refine pw_getF (v := 67) dX12_finds_184 flX12_83 rfl (hS.at rfl rfl rfl) (hS.rf (43, 40, 67) rfl (by decide)) ?_
                        refine pw_iload dX12_finds_187 rfl ?_
                        refine pw_aload_n dX12_finds_189 rfl ?_
                        refine pw_iconst (v := 0) dX12_finds_190 (by decide) ?_
                        refine pw_iload dX12_finds_191 rfl ?_
                        refine pw_iload_n dX12_finds_193 rfl ?_
                        refine pw_iload_n dX12_finds_194 rfl ?_
                        refine pw_cV4 (d1 := d - 1) (a1 := 0) (a2 := al) dX12_finds_195 mtX12_next ivX12_next mlX12_295 (Nat.le_of_ble_eq_true rfl) (Nat.le_of_ble_eq_true rfl) (by omega) (by omega) (hS.at rfl rfl rfl) rfl rfl (hn0) ?_
                        rintro r_ τ_ ⟨hr_, ht_⟩; subst r_; subst τ_
                        refine pw_iast dX12_finds_198 (hS.at rfl rfl rfl) (by decide) rfl (hS.lt rfl rfl hk5 rfl) (by omega) ?_
                        refine pw_iincm1 dX12_finds_199 rfl (Nat.le_of_ble_eq_true rfl) (Nat.le_of_ble_eq_true rfl) rfl ?_
                        refine pw_goto (tgt := 98) dX12_finds_202 (by decide) ?_
                        exact hh _
                    · exact absurd rfl h157
                  · exact absurd rfl h145
                · exact absurd h116 (nI_nm1 (by omega))
        | cons c cs =>
          obtain ⟨c1, c2, c3, -⟩ := cdl_tail _ _ hc
          have hno := nx_ok (P := bP σ e house se) (B := bB kinds) hk5 z hT hc hne (fun j a b c => hf j (by omega) b c)
          rw [hno] at hl' hb' ⊢
          rw [List.length_cons] at hl' hb'
          rw [hc] at hnx
          have hnx : PE (d - 1) 0 MX12_next [.ref 43, .int (nI t + 1), .int (nI k), .int house, .int se] τ (some (.int (nI c))) τ := hnx
          have hh := fun x6 x7 => hmain (pm_sI τ 67 k (nI c)) (oU T k c) x6 x7 (hv.up hk5 z (by omega) c3) hC.st (by omega) (by omega)
          refine pw_iload dX12_finds_98 rfl ?_
          refine pw_if_lt (tgt := 205) dX12_finds_100 (by decide) (fun h100 => ?_) (fun h100 => ?_)
          · exact absurd h100 (nI_pos (by omega))
          · refine pw_iload dX12_finds_103 rfl ?_
            refine pw_if_ne (tgt := 205) dX12_finds_105 (by decide) (fun h105 => ?_) (fun h105 => ?_)
            · exact absurd rfl h105
            · refine pw_aload_n dX12_finds_108 rfl ?_
              refine pw_getF (v := 67) dX12_finds_109 flX12_83 rfl (hS.at rfl rfl rfl) (hS.rf (43, 40, 67) rfl (by decide)) ?_
              refine pw_iload dX12_finds_112 rfl ?_
              refine pw_iald dX12_finds_114 (hS.at rfl rfl rfl) rfl (hS.lt rfl rfl hk5 rfl) (by omega) ?_
              rw [e1]
              refine pw_iconst (v := (-1)) dX12_finds_115 (by decide) ?_
              refine pw_icmp_ne (tgt := 123) dX12_finds_116 (by decide) (fun h116 => ?_) (fun h116 => ?_)
              · refine pw_aload_n dX12_finds_123 rfl ?_
                refine pw_aload_n dX12_finds_124 rfl ?_
                refine pw_getF (v := 67) dX12_finds_125 flX12_83 rfl (hS.at rfl rfl rfl) (hS.rf (43, 40, 67) rfl (by decide)) ?_
                refine pw_iload dX12_finds_128 rfl ?_
                refine pw_iald dX12_finds_130 (hS.at rfl rfl rfl) rfl (hS.lt rfl rfl hk5 rfl) (by omega) ?_
                rw [e1]
                refine pw_iconst (v := 1) dX12_finds_131 (by decide) ?_
                refine pw_iadd dX12_finds_132 ?_
                refine pw_iload dX12_finds_133 rfl ?_
                refine pw_iload_n dX12_finds_135 rfl ?_
                refine pw_iload_n dX12_finds_136 rfl ?_
                refine pw_cV4 (d1 := d - 1) (a1 := 0) (a2 := al) dX12_finds_137 mtX12_next ivX12_next mlX12_295 (Nat.le_of_ble_eq_true rfl) (Nat.le_of_ble_eq_true rfl) (by omega) (by omega) (hS.at rfl rfl rfl) rfl rfl (hnx) ?_
                rintro r_ τ_ ⟨hr_, ht_⟩; subst r_; subst τ_
                refine pw_istore dX12_finds_140 (Nat.le_of_ble_eq_true rfl) (Nat.le_of_ble_eq_true rfl) rfl ?_
                refine pw_iload dX12_finds_142 rfl ?_
                refine pw_iconst (v := (-1)) dX12_finds_144 (by decide) ?_
                refine pw_icmp_eq (tgt := 152) dX12_finds_145 (by decide) (fun h145 => ?_) (fun h145 => ?_)
                · exact absurd h145 (nI_nm1 (by omega))
                · refine pw_iconst (v := 1) dX12_finds_148 (by decide) ?_
                  refine pw_goto (tgt := 153) dX12_finds_149 (by decide) ?_
                  refine pw_istore dX12_finds_153 (Nat.le_of_ble_eq_true rfl) (Nat.le_of_ble_eq_true rfl) rfl ?_
                  refine pw_iload dX12_finds_155 rfl ?_
                  refine pw_if_eq (tgt := 172) dX12_finds_157 (by decide) (fun h157 => ?_) (fun h157 => ?_)
                  · exact absurd h157 (by decide)
                  · refine pw_aload_n dX12_finds_160 rfl ?_
                    refine pw_getF (v := 67) dX12_finds_161 flX12_83 rfl (hS.at rfl rfl rfl) (hS.rf (43, 40, 67) rfl (by decide)) ?_
                    refine pw_iload dX12_finds_164 rfl ?_
                    refine pw_iload dX12_finds_166 rfl ?_
                    refine pw_iast dX12_finds_168 (hS.at rfl rfl rfl) (by decide) rfl (hS.lt rfl rfl hk5 rfl) (by omega) ?_
                    refine pw_goto (tgt := 199) dX12_finds_169 (by decide) ?_
                    exact s_in_e (hh _ _)
              · exact absurd h116 (nI_nm1 (by omega))
    · have hT : T k = none := by
        cases hT : T k with
        | none => rfl
        | some s => exact absurd ((hv k).1 s hT).2.1 z
      rw [hT] at e1
      have e1 : qI τ 67 k = -1 := e1
      rw [lv_n z, List.nil_append] at hl' hb' ⊢
      have hh := fun x => ih τ T x (by omega) hv (fun j a b c => hf j (by
        by_cases y : j = k
        · exact absurd (y ▸ c) z
        · omega) b c) hC hl' hb'
      refine pw_iload dX12_finds_98 rfl ?_
      refine pw_if_lt (tgt := 205) dX12_finds_100 (by decide) (fun h100 => ?_) (fun h100 => ?_)
      · exact absurd h100 (nI_pos (by omega))
      · refine pw_iload dX12_finds_103 rfl ?_
        refine pw_if_ne (tgt := 205) dX12_finds_105 (by decide) (fun h105 => ?_) (fun h105 => ?_)
        · exact absurd rfl h105
        · refine pw_aload_n dX12_finds_108 rfl ?_
          refine pw_getF (v := 67) dX12_finds_109 flX12_83 rfl (hS.at rfl rfl rfl) (hS.rf (43, 40, 67) rfl (by decide)) ?_
          refine pw_iload dX12_finds_112 rfl ?_
          refine pw_iald dX12_finds_114 (hS.at rfl rfl rfl) rfl (hS.lt rfl rfl hk5 rfl) (by omega) ?_
          rw [e1]
          refine pw_iconst (v := (-1)) dX12_finds_115 (by decide) ?_
          refine pw_icmp_ne (tgt := 123) dX12_finds_116 (by decide) (fun h116 => ?_) (fun h116 => ?_)
          · exact absurd rfl h116
          · refine pw_iconst (v := (-1)) dX12_finds_119 (by decide) ?_
            refine pw_goto (tgt := 140) dX12_finds_120 (by decide) ?_
            refine pw_istore dX12_finds_140 (Nat.le_of_ble_eq_true rfl) (Nat.le_of_ble_eq_true rfl) rfl ?_
            refine pw_iload dX12_finds_142 rfl ?_
            refine pw_iconst (v := (-1)) dX12_finds_144 (by decide) ?_
            refine pw_icmp_eq (tgt := 152) dX12_finds_145 (by decide) (fun h145 => ?_) (fun h145 => ?_)
            · refine pw_iconst (v := 0) dX12_finds_152 (by decide) ?_
              refine pw_istore dX12_finds_153 (Nat.le_of_ble_eq_true rfl) (Nat.le_of_ble_eq_true rfl) rfl ?_
              refine pw_iload dX12_finds_155 rfl ?_
              refine pw_if_eq (tgt := 172) dX12_finds_157 (by decide) (fun h157 => ?_) (fun h157 => ?_)
              · refine pw_aload_n dX12_finds_172 rfl ?_
                refine pw_getF (v := 67) dX12_finds_173 flX12_83 rfl (hS.at rfl rfl rfl) (hS.rf (43, 40, 67) rfl (by decide)) ?_
                refine pw_iload dX12_finds_176 rfl ?_
                refine pw_iald dX12_finds_178 (hS.at rfl rfl rfl) rfl (hS.lt rfl rfl hk5 rfl) (by omega) ?_
                rw [e1]
                refine pw_iconst (v := (-1)) dX12_finds_179 (by decide) ?_
                refine pw_icmp_eq (tgt := 199) dX12_finds_180 (by decide) (fun h180 => ?_) (fun h180 => ?_)
                · refine pw_iincm1 dX12_finds_199 rfl (Nat.le_of_ble_eq_true rfl) (Nat.le_of_ble_eq_true rfl) rfl ?_
                  refine pw_goto (tgt := 98) dX12_finds_202 (by decide) ?_
                  exact hh _
                · exact absurd rfl h180
              · exact absurd rfl h157
            · exact absurd rfl h145
theorem s_main {d al n e m a r : Nat} {σ : pm_S} {rs : List (List stp)} {house se g kinds : Int32} (hd : 10 ≤ d) (hX : bCx σ n e m rs a r) (hg : lt8 g) (hkn : 1 ≤ kinds ∧ kinds ≤ 31) (hne : ∀ j, j < 5 → bB kinds j = true → cdl (bP σ e house se j) n 0 ≠ []) : ∀ (N : Nat) (τ : pm_S) (T : tup) (js : jst) (x6 x7 : Value), vT σ n e house se kinds T → mbC σ τ T js → (dn (bP σ e house se) (bB kinds) n 5 T).length < N → js.1 + (dn (bP σ e house se) (bB kinds) n 5 T).length + 1 < 2 ^ 31 - 1 → PW d al MX12_finds 81 [.ref 43, .int house, .int se, .int g, .int kinds, .int 1, x6, x7] [] τ (fdQ σ ((T :: dn (bP σ e house se) (bB kinds) n 5 T).foldl (bJd σ rs m se g) js)) := by
  intro N
  induction N with
  | zero => intro τ T js x6 x7 _ _ h _; exact absurd h (Nat.not_lt_zero _)
  | succ N ih =>
    intro τ T js x6 x7 hv hC hl hb
    have hS := hC.1.fix hX.1
    have htr := s_tries (d := d - 1) (al := 0) (by omega) hX hg hkn hv hC (by omega)
    have hle := (jd_le (bar := bBar σ rs se g) (ag := bAg σ m g) (rk := bRk σ) (bi := bBi) (s := js) (T := T)).2
    rw [List.foldl_cons]
    have hin := fun τ1 C1 => s_in (d := d) (al := al) (N := N) (js := bJd σ rs m se g js T) (by omega) hX hne (fun τ' T' x6 x7 a b c e => ih τ' T' _ (.int x6) (.int x7) a b c e) 5 τ1 T x7 (Nat.le_refl _) hv (fun j a b => by omega) C1 (by omega) (by show (jd (bBar σ rs se g) (bAg σ m g) (bRk σ) bBi js T).1 + _ < _; omega)
    refine pw_iload dX12_finds_81 rfl ?_
    refine pw_if_eq (tgt := 208) dX12_finds_83 (by decide) (fun h83 => ?_) (fun h83 => ?_)
    · exact absurd h83 (by decide)
    · refine pw_aload_n dX12_finds_86 rfl ?_
      refine pw_iload_n dX12_finds_87 rfl ?_
      refine pw_iload_n dX12_finds_88 rfl ?_
      refine pw_cV2 (d1 := d - 1) (a1 := 0) (a2 := al) dX12_finds_89 mtX12_tries ivX12_tries mlX12_298 (Nat.le_of_ble_eq_true rfl) (Nat.le_of_ble_eq_true rfl) (by omega) (by omega) (hS.at rfl rfl rfl) rfl rfl (htr) ?_
      rintro r_ τ1 ⟨hr_, C1⟩; subst r_
      refine pw_iconst (v := 4) dX12_finds_92 (by decide) ?_
      refine pw_istore dX12_finds_93 (Nat.le_of_ble_eq_true rfl) (Nat.le_of_ble_eq_true rfl) rfl ?_
      refine pw_iconst (v := 0) dX12_finds_95 (by decide) ?_
      refine pw_istore dX12_finds_96 (Nat.le_of_ble_eq_true rfl) (Nat.le_of_ble_eq_true rfl) rfl ?_
      exact hin τ1 C1
/-- the first of all -/
def fst0 (σ : pm_S) (n e : Nat) (house se kinds : Int32) (j : Nat) : Option Nat := if j < 5 ∧ bB kinds j = true then some ((cdl (bP σ e house se j) n 0).headD 0) else none
theorem fst0_v {σ : pm_S} {n e : Nat} {house se kinds : Int32} (hne : ∀ j, j < 5 → bB kinds j = true → cdl (bP σ e house se j) n 0 ≠ []) : vT σ n e house se kinds (fst0 σ n e house se kinds) := fun j => by
  unfold fst0
  by_cases z : j < 5 ∧ bB kinds j = true
  · rw [if_pos z]
    cases hc : cdl (bP σ e house se j) n 0 with
    | nil => exact absurd hc (hne j z.1 z.2)
    | cons c cs =>
      obtain ⟨c1, c2, c3, -⟩ := cdl_tail n 0 hc
      exact ⟨fun s hs => by injection hs with hs; subst hs; exact ⟨z.1, z.2, by show c < n; omega, c3⟩, fun _ _ => by simp⟩
  · rw [if_neg z]
    refine ⟨fun s hs => ?_, fun a b => absurd ⟨a, b⟩ z⟩
    exact nomatch hs
theorem bTs_f {σ : pm_S} {n e : Nat} {house se kinds : Int32} (hne : ∀ j, j < 5 → bB kinds j = true → cdl (bP σ e house se j) n 0 ≠ []) : bTs σ n e house se kinds = fst0 σ n e house se kinds :: dn (bP σ e house se) (bB kinds) n 5 (fst0 σ n e house se kinds) := by
  have e1 : bTs σ n e house se kinds = tl (bP σ e house se) (bB kinds) n 5 0 (fst0 σ n e house se kinds) := tl_cg 5 0 _ _ rfl (fun j hj => by
    unfold fst0
    rw [if_neg (fun w => hj ⟨Nat.zero_le _, w⟩)])
  have e2 : fT (bP σ e house se) (bB kinds) n 5 0 (fst0 σ n e house se kinds) = fst0 σ n e house se kinds := fT_id 5 0 _ (fun j _ b c => by
    unfold fst0
    rw [if_pos ⟨by omega, c⟩])
  have e3 := tl_first (P := bP σ e house se) (B := bB kinds) (n := n) 5 0 (fst0 σ n e house se kinds) rfl (fun j _ b c => hne j b c)
  have e4 := af_dn (P := bP σ e house se) (B := bB kinds) (n := n) 5 0 (fst0 σ n e house se kinds)
  rw [e1, e3, e2, ← e4]
  show _ = _ :: (_ ++ [])
  rw [List.append_nil]
theorem s_ini {d al n e m a r : Nat} {σ : pm_S} {rs : List (List stp)} {house se g kinds : Int32} {js : jst} (hd : 10 ≤ d) (hX : bCx σ n e m rs a r) (hg : lt8 g) (hkn : 1 ≤ kinds ∧ kinds ≤ 31) (hj0 : js.1 = 0) : ∀ (q k : Nat) (τ : pm_S), k + q = 5 → kpX σ τ → mbJ τ js → (∀ j, j < k → qI τ 67 j = tI (fst0 σ n e house se kinds j)) → (∀ j, j < k → bB kinds j = true → cdl (bP σ e house se j) n 0 ≠ []) → PW d al MX12_finds 13 [.ref 43, .int house, .int se, .int g, .int kinds, .int (nI k), .retAddr 0, .retAddr 0] [] τ (fdQ σ ((bTs σ n e house se kinds).foldl (bJd σ rs m se g) js)) := by
  have hn2 := hX.2.1.1.2.1
  intro q
  induction q with
  | zero =>
    intro k τ hk hK hM hT hne
    have hk5 : k = 5 := by omega
    subst hk5
    have hlen := bTs_len (σ := σ) (e := e) (house := house) (se := se) (kinds := kinds) hn2
    rw [bTs_f hne] at hlen ⊢
    rw [List.length_cons] at hlen
    have hm := s_main (d := d) (al := al) (rs := rs) (m := m) (g := g) hd hX hg hkn hne _ τ (fst0 σ n e house se kinds) js (.retAddr 0) (.retAddr 0) (fst0_v hne) ⟨hK, hM, hT⟩ (Nat.lt_succ_self _) (by omega)
    refine pw_iload dX12_finds_13 rfl ?_
    refine pw_iconst (v := 5) dX12_finds_15 (by decide) ?_
    refine pw_icmp_ge (tgt := 78) dX12_finds_16 (by decide) (fun h16 => ?_) (fun h16 => ?_)
    · refine pw_iconst (v := 1) dX12_finds_78 (by decide) ?_
      refine pw_istore dX12_finds_79 (Nat.le_of_ble_eq_true rfl) (Nat.le_of_ble_eq_true rfl) rfl ?_
      exact hm
    · exact absurd (by decide) h16
  | succ q ih =>
    intro k τ hk hK hM hT hne
    have hS := hK.fix hX.1
    have hk5 : k < 5 := by omega
    have hst : ∀ v, kpX σ (pm_sI τ 67 k v) ∧ mbJ (pm_sI τ 67 k v) js := fun v => ⟨hK.sI (by unfold kI; omega), (qI_sI_nc (by decide)).trans hM.1, (qI_sI_nc (by decide)).trans hM.2.1, (qI_sI_nc (by decide)).trans hM.2.2.1, (qI_sI_nc (by decide)).trans hM.2.2.2.1, hM.2.2.2.2⟩
    have hup : ∀ v, v = tI (fst0 σ n e house se kinds k) → ∀ j, j < k + 1 → qI (pm_sI τ 67 k v) 67 j = tI (fst0 σ n e house se kinds j) := fun v hv j hj => by
      by_cases y : j = k
      · subst y; rw [qI_sI_eq]; exact hv
      · rw [qI_sI_ne (fun w => y w.2)]; exact hT j (by omega)
    have hsb := sb_bt kinds (t := k) (by omega)
    by_cases z : bB kinds k = true
    · have e0 : (kinds >>> (nI k &&& 31)) &&& 1 = 1 := hsb.trans (bI_t z)
      have hnx := s_next (d := d - 1) (al := 0) (house := house) (se := se) (by omega) hX.1 hX.2.1 hK hk5 (t := 0) (by omega)
      rw [Nat.sub_zero] at hnx
      cases hc : cdl (bP σ e house se k) n 0 with
      | nil =>
        rw [hc] at hnx
        have hnx : PE (d - 1) 0 MX12_next [.ref 43, .int 0, .int (nI k), .int house, .int se] τ (some (.int (-1))) τ := hnx
        rw [show bTs σ n e house se kinds = [] from tl_nil 5 0 _ rfl ⟨k, Nat.zero_le _, hk5, z, hc⟩]
        have e2 : qI (pm_sI τ 67 k (-1)) 67 k = -1 := qI_sI_eq
        refine pw_iload dX12_finds_13 rfl ?_
        refine pw_iconst (v := 5) dX12_finds_15 (by decide) ?_
        refine pw_icmp_ge (tgt := 78) dX12_finds_16 (by decide) (fun h16 => ?_) (fun h16 => ?_)
        · exact absurd h16 (nI_ge hk5 (by decide))
        · refine pw_aload_n dX12_finds_19 rfl ?_
          refine pw_getF (v := 67) dX12_finds_20 flX12_83 rfl (hS.at rfl rfl rfl) (hS.rf (43, 40, 67) rfl (by decide)) ?_
          refine pw_iload dX12_finds_23 rfl ?_
          refine pw_iload dX12_finds_25 rfl ?_
          refine pw_iload dX12_finds_27 rfl ?_
          refine pw_ishr dX12_finds_29 ?_
          refine pw_iconst (v := 1) dX12_finds_30 (by decide) ?_
          refine pw_iand dX12_finds_31 ?_
          rw [e0]
          refine pw_if_ne (tgt := 39) dX12_finds_32 (by decide) (fun h32 => ?_) (fun h32 => ?_)
          · refine pw_aload_n dX12_finds_39 rfl ?_
            refine pw_iconst (v := 0) dX12_finds_40 (by decide) ?_
            refine pw_iload dX12_finds_41 rfl ?_
            refine pw_iload_n dX12_finds_43 rfl ?_
            refine pw_iload_n dX12_finds_44 rfl ?_
            refine pw_cV4 (d1 := d - 1) (a1 := 0) (a2 := al) dX12_finds_45 mtX12_next ivX12_next mlX12_295 (Nat.le_of_ble_eq_true rfl) (Nat.le_of_ble_eq_true rfl) (by omega) (by omega) (hS.at rfl rfl rfl) rfl rfl (hnx) ?_
            rintro r_ τ_ ⟨hr_, ht_⟩; subst r_; subst τ_
            refine pw_iast dX12_finds_48 (hS.at rfl rfl rfl) (by decide) rfl (hS.lt rfl rfl hk5 rfl) (by omega) ?_
            refine pw_iload dX12_finds_49 rfl ?_
            refine pw_iload dX12_finds_51 rfl ?_
            refine pw_ishr dX12_finds_53 ?_
            refine pw_iconst (v := 1) dX12_finds_54 (by decide) ?_
            refine pw_iand dX12_finds_55 ?_
            rw [e0]
            refine pw_iconst (v := 1) dX12_finds_56 (by decide) ?_
            refine pw_icmp_ne (tgt := 72) dX12_finds_57 (by decide) (fun h57 => ?_) (fun h57 => ?_)
            · exact absurd rfl h57
            · refine pw_aload_n dX12_finds_60 rfl ?_
              refine pw_getF (v := 67) dX12_finds_61 flX12_83 rfl (hS.at rfl rfl rfl) (hS.rf (43, 40, 67) rfl (by decide)) ?_
              refine pw_iload dX12_finds_64 rfl ?_
              refine pw_iald dX12_finds_66 (hS.at rfl rfl rfl) rfl (hS.lt rfl rfl hk5 rfl) (by omega) ?_
              rw [e2]
              refine pw_iconst (v := (-1)) dX12_finds_67 (by decide) ?_
              refine pw_icmp_ne (tgt := 72) dX12_finds_68 (by decide) (fun h68 => ?_) (fun h68 => ?_)
              · exact absurd rfl h68
              · refine pw_vret dX12_finds_71 rfl ?_
                exact ⟨rfl, hst _⟩
          · exact absurd h32 (by decide)
      | cons c cs =>
        rw [hc] at hnx
        have hnx : PE (d - 1) 0 MX12_next [.ref 43, .int 0, .int (nI k), .int house, .int se] τ (some (.int (nI c))) τ := hnx
        obtain ⟨c1, c2, c3, -⟩ := cdl_tail n 0 hc
        have e2 : qI (pm_sI τ 67 k (nI c)) 67 k = nI c := qI_sI_eq
        have hF : nI c = tI (fst0 σ n e house se kinds k) := by
          unfold fst0
          rw [if_pos ⟨hk5, z⟩, hc]; rfl
        have hh := ih (k + 1) (pm_sI τ 67 k (nI c)) (by omega) (hst _).1 (hst _).2 (hup _ hF) (fun j a b => by
          by_cases y : j = k
          · subst y; rw [hc]; simp
          · exact hne j (by omega) b)
        rw [nI_succ] at hh
        refine pw_iload dX12_finds_13 rfl ?_
        refine pw_iconst (v := 5) dX12_finds_15 (by decide) ?_
        refine pw_icmp_ge (tgt := 78) dX12_finds_16 (by decide) (fun h16 => ?_) (fun h16 => ?_)
        · exact absurd h16 (nI_ge hk5 (by decide))
        · refine pw_aload_n dX12_finds_19 rfl ?_
          refine pw_getF (v := 67) dX12_finds_20 flX12_83 rfl (hS.at rfl rfl rfl) (hS.rf (43, 40, 67) rfl (by decide)) ?_
          refine pw_iload dX12_finds_23 rfl ?_
          refine pw_iload dX12_finds_25 rfl ?_
          refine pw_iload dX12_finds_27 rfl ?_
          refine pw_ishr dX12_finds_29 ?_
          refine pw_iconst (v := 1) dX12_finds_30 (by decide) ?_
          refine pw_iand dX12_finds_31 ?_
          rw [e0]
          refine pw_if_ne (tgt := 39) dX12_finds_32 (by decide) (fun h32 => ?_) (fun h32 => ?_)
          · refine pw_aload_n dX12_finds_39 rfl ?_
            refine pw_iconst (v := 0) dX12_finds_40 (by decide) ?_
            refine pw_iload dX12_finds_41 rfl ?_
            refine pw_iload_n dX12_finds_43 rfl ?_
            refine pw_iload_n dX12_finds_44 rfl ?_
            refine pw_cV4 (d1 := d - 1) (a1 := 0) (a2 := al) dX12_finds_45 mtX12_next ivX12_next mlX12_295 (Nat.le_of_ble_eq_true rfl) (Nat.le_of_ble_eq_true rfl) (by omega) (by omega) (hS.at rfl rfl rfl) rfl rfl (hnx) ?_
            rintro r_ τ_ ⟨hr_, ht_⟩; subst r_; subst τ_
            refine pw_iast dX12_finds_48 (hS.at rfl rfl rfl) (by decide) rfl (hS.lt rfl rfl hk5 rfl) (by omega) ?_
            refine pw_iload dX12_finds_49 rfl ?_
            refine pw_iload dX12_finds_51 rfl ?_
            refine pw_ishr dX12_finds_53 ?_
            refine pw_iconst (v := 1) dX12_finds_54 (by decide) ?_
            refine pw_iand dX12_finds_55 ?_
            rw [e0]
            refine pw_iconst (v := 1) dX12_finds_56 (by decide) ?_
            refine pw_icmp_ne (tgt := 72) dX12_finds_57 (by decide) (fun h57 => ?_) (fun h57 => ?_)
            · exact absurd rfl h57
            · refine pw_aload_n dX12_finds_60 rfl ?_
              refine pw_getF (v := 67) dX12_finds_61 flX12_83 rfl (hS.at rfl rfl rfl) (hS.rf (43, 40, 67) rfl (by decide)) ?_
              refine pw_iload dX12_finds_64 rfl ?_
              refine pw_iald dX12_finds_66 (hS.at rfl rfl rfl) rfl (hS.lt rfl rfl hk5 rfl) (by omega) ?_
              rw [e2]
              refine pw_iconst (v := (-1)) dX12_finds_67 (by decide) ?_
              refine pw_icmp_ne (tgt := 72) dX12_finds_68 (by decide) (fun h68 => ?_) (fun h68 => ?_)
              · refine pw_iinc1 dX12_finds_72 rfl (Nat.le_of_ble_eq_true rfl) (Nat.le_of_ble_eq_true rfl) rfl ?_
                refine pw_goto (tgt := 13) dX12_finds_75 (by decide) ?_
                exact hh
              · exact absurd h68 (nI_nm1 (by omega))
          · exact absurd h32 (by decide)
    · have e0 : (kinds >>> (nI k &&& 31)) &&& 1 = 0 := hsb.trans (bI_f z)
      have hF : (-1 : Int32) = tI (fst0 σ n e house se kinds k) := by
        unfold fst0
        rw [if_neg (fun w => z w.2)]; rfl
      have hh := ih (k + 1) (pm_sI τ 67 k (-1)) (by omega) (hst _).1 (hst _).2 (hup _ hF) (fun j a b => by
        by_cases y : j = k
        · exact absurd (y ▸ b) z
        · exact hne j (by omega) b)
      rw [nI_succ] at hh
      refine pw_iload dX12_finds_13 rfl ?_
      refine pw_iconst (v := 5) dX12_finds_15 (by decide) ?_
      refine pw_icmp_ge (tgt := 78) dX12_finds_16 (by decide) (fun h16 => ?_) (fun h16 => ?_)
      · exact absurd h16 (nI_ge hk5 (by decide))
      · refine pw_aload_n dX12_finds_19 rfl ?_
        refine pw_getF (v := 67) dX12_finds_20 flX12_83 rfl (hS.at rfl rfl rfl) (hS.rf (43, 40, 67) rfl (by decide)) ?_
        refine pw_iload dX12_finds_23 rfl ?_
        refine pw_iload dX12_finds_25 rfl ?_
        refine pw_iload dX12_finds_27 rfl ?_
        refine pw_ishr dX12_finds_29 ?_
        refine pw_iconst (v := 1) dX12_finds_30 (by decide) ?_
        refine pw_iand dX12_finds_31 ?_
        rw [e0]
        refine pw_if_ne (tgt := 39) dX12_finds_32 (by decide) (fun h32 => ?_) (fun h32 => ?_)
        · exact absurd rfl h32
        · refine pw_iconst (v := (-1)) dX12_finds_35 (by decide) ?_
          refine pw_goto (tgt := 48) dX12_finds_36 (by decide) ?_
          refine pw_iast dX12_finds_48 (hS.at rfl rfl rfl) (by decide) rfl (hS.lt rfl rfl hk5 rfl) (by omega) ?_
          refine pw_iload dX12_finds_49 rfl ?_
          refine pw_iload dX12_finds_51 rfl ?_
          refine pw_ishr dX12_finds_53 ?_
          refine pw_iconst (v := 1) dX12_finds_54 (by decide) ?_
          refine pw_iand dX12_finds_55 ?_
          rw [e0]
          refine pw_iconst (v := 1) dX12_finds_56 (by decide) ?_
          refine pw_icmp_ne (tgt := 72) dX12_finds_57 (by decide) (fun h57 => ?_) (fun h57 => ?_)
          · refine pw_iinc1 dX12_finds_72 rfl (Nat.le_of_ble_eq_true rfl) (Nat.le_of_ble_eq_true rfl) rfl ?_
            refine pw_goto (tgt := 13) dX12_finds_75 (by decide) ?_
            exact hh
          · exact absurd h57 (by decide)
theorem s_best {d al n e m a r : Nat} {σ τ : pm_S} {rs : List (List stp)} {house se g kinds what : Int32} (hd : 15 ≤ d) (hX : bCx σ n e m rs a r) (hK : kpX σ τ) (hz : okBe house se g kinds what) : PM d al MX12_best [.ref 43, .int house, .int se, .int g, .int kinds, .int what] τ (fun v ρ => (∃ js0 : jst, js0.1 = 0 ∧ v = some (.int (bTl ((bTs σ n e house se kinds).foldl (bJd σ rs m se g) js0) what))) ∧ kpX σ ρ) := by
  have hS := hK.fix hX.1
  have hn2 := hX.2.1.1.2.1
  have hg8 := lt8_guests hz.2.2.1
  obtain ⟨τ1, hτ1⟩ : ∃ τ1, τ1 = pm_sI (pm_sI τ 43 41 0) 43 44 0 := ⟨_, rfl⟩
  have K1 : kpX σ τ1 := by rw [hτ1]; exact (hK.sI (by unfold kI; omega)).sI (by unfold kI; omega)
  have M1 : mbJ τ1 (0, 0, qI τ 43 42, qI τ 43 43) := by
    rw [hτ1]
    exact ⟨by rw [qI_sI_ne (by decide), qI_sI_eq], by rw [qI_sI_ne (by decide), qI_sI_ne (by decide)], by rw [qI_sI_ne (by decide), qI_sI_ne (by decide)], by rw [qI_sI_eq]; rfl, ⟨fun _ => rfl, fun _ => rfl⟩⟩
  have hfd : PM (d - 1) 0 MX12_finds [.ref 43, .int house, .int se, .int g, .int kinds] τ (fdQ σ ((bTs σ n e house se kinds).foldl (bJd σ rs m se g) (0, 0, qI τ 43 42, qI τ 43 43))) := by
    have hi := s_ini (d := d - 1) (al := 0) (rs := rs) (m := m) (js := (0, 0, qI τ 43 42, qI τ 43 43)) (by omega) hX hg8 hz.2.2.2.1 rfl 5 0 τ1 rfl K1 M1 (fun j hj => absurd hj (Nat.not_lt_zero j)) (fun j hj => absurd hj (Nat.not_lt_zero j)) (house := house) (se := se)
    show PW _ _ _ _ _ _ _ _
    refine pw_aload_n dX12_finds_0 rfl ?_
    refine pw_iconst (v := 0) dX12_finds_1 (by decide) ?_
    refine pw_putI dX12_finds_2 flX12_286 ⟨_, rfl, Or.inl rfl⟩ rfl (hS.at rfl rfl rfl) ?_
    refine pw_aload_n dX12_finds_5 rfl ?_
    refine pw_iconst (v := 0) dX12_finds_6 (by decide) ?_
    refine pw_putI dX12_finds_7 flX12_283 ⟨_, rfl, Or.inl rfl⟩ rfl (hS.at rfl rfl rfl) ?_
    rw [← hτ1]
    refine pw_iconst (v := 0) dX12_finds_10 (by decide) ?_
    refine pw_istore dX12_finds_11 (Nat.le_of_ble_eq_true rfl) (Nat.le_of_ble_eq_true rfl) rfl ?_
    exact hi
  have hlen := bTs_len (σ := σ) (e := e) (house := house) (se := se) (kinds := kinds) hn2
  have hle : ((bTs σ n e house se kinds).foldl (bJd σ rs m se g) (0, 0, qI τ 43 42, qI τ 43 43)).1 ≤ 0 + (bTs σ n e house se kinds).length := (jf_le (bar := bBar σ rs se g) (ag := bAg σ m g) (rk := bRk σ) (bi := bBi) (bTs σ n e house se kinds) (0, 0, qI τ 43 42, qI τ 43 43)).2
  obtain ⟨js, hjs⟩ : ∃ js, js = (bTs σ n e house se kinds).foldl (bJd σ rs m se g) (0, 0, qI τ 43 42, qI τ 43 43) := ⟨_, rfl⟩
  rw [← hjs] at hfd hle
  have fin : ∀ (x : Int32) (ρ : pm_S), kpX σ ρ → x = bTl js what → (∃ js0 : jst, js0.1 = 0 ∧ some (Value.int x) = some (.int (bTl ((bTs σ n e house se kinds).foldl (bJd σ rs m se g) js0) what))) ∧ kpX σ ρ := fun x ρ h1 h2 => ⟨⟨(0, 0, qI τ 43 42, qI τ 43 43), rfl, by rw [← hjs, h2]⟩, h1⟩
  have t0 : js.1 = 0 → bTl js what = -1 := fun z => if_pos z
  have t1 : ¬ js.1 = 0 → bTl js what = if what = 0 then js.2.1 else if what = 1 then js.2.2.1 else if what = 2 then js.2.2.2 else nI js.1 := fun z => if_neg z
  show PW _ _ _ _ _ _ _ _
  refine pw_iload_n dX12_best_0 rfl ?_
  refine pw_cS1 (d1 := d - 1) (a1 := 0) (a2 := al) dX12_best_1 mtX12_isHouse stX12_isHouse mlX12_100 (Nat.le_of_ble_eq_true rfl) (Nat.le_of_ble_eq_true rfl) (by omega) (by omega) (s_isHouse (by omega) _) ?_
  rintro r_ τ_ ⟨hr_, ht_⟩; subst r_; subst τ_
  refine pw_if_eq (tgt := 42) dX12_best_4 (by decide) (fun h4 => ?_) (fun h4 => ?_)
  · exact absurd hz.1 (bI_0.mp h4)
  · refine pw_iload_n dX12_best_7 rfl ?_
    refine pw_cS1 (d1 := d - 1) (a1 := 0) (a2 := al) dX12_best_8 mtX12_isSeason stX12_isSeason mlX12_139 (Nat.le_of_ble_eq_true rfl) (Nat.le_of_ble_eq_true rfl) (by omega) (by omega) (s_isSeason (by omega) _) ?_
    rintro r_ τ_ ⟨hr_, ht_⟩; subst r_; subst τ_
    refine pw_if_eq (tgt := 42) dX12_best_11 (by decide) (fun h11 => ?_) (fun h11 => ?_)
    · exact absurd hz.2.1 (bI_0.mp h11)
    · refine pw_iload_n dX12_best_14 rfl ?_
      refine pw_cS1 (d1 := d - 1) (a1 := 0) (a2 := al) dX12_best_15 mtX12_areGuests stX12_areGuests mlX12_142 (Nat.le_of_ble_eq_true rfl) (Nat.le_of_ble_eq_true rfl) (by omega) (by omega) (s_areGuests (by omega) _) ?_
      rintro r_ τ_ ⟨hr_, ht_⟩; subst r_; subst τ_
      refine pw_if_eq (tgt := 42) dX12_best_18 (by decide) (fun h18 => ?_) (fun h18 => ?_)
      · exact absurd hz.2.2.1 (bI_0.mp h18)
      · refine pw_iload dX12_best_21 rfl ?_
        refine pw_iconst (v := 1) dX12_best_23 (by decide) ?_
        refine pw_bipush (v := 31) dX12_best_24 (by decide) ?_
        refine pw_cS3 (d1 := d - 1) (a1 := 0) (a2 := al) dX12_best_26 mtX12_isIn stX12_isIn mlX12_86 (Nat.le_of_ble_eq_true rfl) (Nat.le_of_ble_eq_true rfl) (by omega) (by omega) (s_isIn _ _ _) ?_
        rintro r_ τ_ ⟨hr_, ht_⟩; subst r_; subst τ_
        refine pw_if_eq (tgt := 42) dX12_best_29 (by decide) (fun h29 => ?_) (fun h29 => ?_)
        · exact absurd hz.2.2.2.1 (bI_0.mp h29)
        · refine pw_iload dX12_best_32 rfl ?_
          refine pw_iconst (v := 0) dX12_best_34 (by decide) ?_
          refine pw_iconst (v := 3) dX12_best_35 (by decide) ?_
          refine pw_cS3 (d1 := d - 1) (a1 := 0) (a2 := al) dX12_best_36 mtX12_isIn stX12_isIn mlX12_86 (Nat.le_of_ble_eq_true rfl) (Nat.le_of_ble_eq_true rfl) (by omega) (by omega) (s_isIn _ _ _) ?_
          rintro r_ τ_ ⟨hr_, ht_⟩; subst r_; subst τ_
          refine pw_if_ne (tgt := 44) dX12_best_39 (by decide) (fun h39 => ?_) (fun h39 => ?_)
          · refine pw_aload_n dX12_best_44 rfl ?_
            refine pw_iload_n dX12_best_45 rfl ?_
            refine pw_iload_n dX12_best_46 rfl ?_
            refine pw_iload_n dX12_best_47 rfl ?_
            refine pw_iload dX12_best_48 rfl ?_
            refine pw_cV4 (d1 := d - 1) (a1 := 0) (a2 := al) dX12_best_50 mtX12_finds ivX12_finds mlX12_302 (Nat.le_of_ble_eq_true rfl) (Nat.le_of_ble_eq_true rfl) (by omega) (by omega) (hS.at rfl rfl rfl) rfl rfl (hfd) ?_
            rintro r_ ρ ⟨hr_, Kρ, q41, q42, q43, q44, q0⟩; subst r_
            have hS := Kρ.fix hX.1
            refine pw_aload_n dX12_best_53 rfl ?_
            refine pw_getI dX12_best_54 flX12_286 rfl (hS.at rfl rfl rfl) ?_
            rw [q41]
            refine pw_if_ne (tgt := 62) dX12_best_57 (by decide) (fun h57 => ?_) (fun h57 => ?_)
            · refine pw_iload dX12_best_62 rfl ?_
              refine pw_if_ne (tgt := 74) dX12_best_64 (by decide) (fun h64 => ?_) (fun h64 => ?_)
              · refine pw_iload dX12_best_74 rfl ?_
                refine pw_iconst (v := 1) dX12_best_76 (by decide) ?_
                refine pw_icmp_ne (tgt := 87) dX12_best_77 (by decide) (fun h77 => ?_) (fun h77 => ?_)
                · refine pw_iload dX12_best_87 rfl ?_
                  refine pw_iconst (v := 2) dX12_best_89 (by decide) ?_
                  refine pw_icmp_ne (tgt := 100) dX12_best_90 (by decide) (fun h90 => ?_) (fun h90 => ?_)
                  · refine pw_aload_n dX12_best_100 rfl ?_
                    refine pw_getI dX12_best_101 flX12_283 rfl (hS.at rfl rfl rfl) ?_
                    try rw [q44]
                    refine pw_iret dX12_best_104 rfl rfl ?_
                    first | exact fin _ ρ Kρ (by rw [t1 (fun y => h57 (q0.mpr y)), if_pos h64]) | exact fin _ ρ Kρ (by rw [t1 (fun y => h57 (q0.mpr y)), if_neg h64, if_pos h77]) | exact fin _ ρ Kρ (by rw [t1 (fun y => h57 (q0.mpr y)), if_neg h64, if_neg h77, if_pos h90]) | exact fin _ ρ Kρ (by rw [t1 (fun y => h57 (q0.mpr y)), if_neg h64, if_neg h77, if_neg h90])
                  · refine pw_aload_n dX12_best_93 rfl ?_
                    refine pw_getI dX12_best_94 flX12_292 rfl (hS.at rfl rfl rfl) ?_
                    rw [q43]
                    refine pw_goto (tgt := 104) dX12_best_97 (by decide) ?_
                    try rw [q44]
                    refine pw_iret dX12_best_104 rfl rfl ?_
                    first | exact fin _ ρ Kρ (by rw [t1 (fun y => h57 (q0.mpr y)), if_pos h64]) | exact fin _ ρ Kρ (by rw [t1 (fun y => h57 (q0.mpr y)), if_neg h64, if_pos h77]) | exact fin _ ρ Kρ (by rw [t1 (fun y => h57 (q0.mpr y)), if_neg h64, if_neg h77, if_pos h90]) | exact fin _ ρ Kρ (by rw [t1 (fun y => h57 (q0.mpr y)), if_neg h64, if_neg h77, if_neg h90])
                · refine pw_aload_n dX12_best_80 rfl ?_
                  refine pw_getI dX12_best_81 flX12_289 rfl (hS.at rfl rfl rfl) ?_
                  rw [q42]
                  refine pw_goto (tgt := 104) dX12_best_84 (by decide) ?_
                  try rw [q44]
                  refine pw_iret dX12_best_104 rfl rfl ?_
                  first | exact fin _ ρ Kρ (by rw [t1 (fun y => h57 (q0.mpr y)), if_pos h64]) | exact fin _ ρ Kρ (by rw [t1 (fun y => h57 (q0.mpr y)), if_neg h64, if_pos h77]) | exact fin _ ρ Kρ (by rw [t1 (fun y => h57 (q0.mpr y)), if_neg h64, if_neg h77, if_pos h90]) | exact fin _ ρ Kρ (by rw [t1 (fun y => h57 (q0.mpr y)), if_neg h64, if_neg h77, if_neg h90])
              · refine pw_aload_n dX12_best_67 rfl ?_
                refine pw_getI dX12_best_68 flX12_286 rfl (hS.at rfl rfl rfl) ?_
                rw [q41]
                refine pw_goto (tgt := 104) dX12_best_71 (by decide) ?_
                try rw [q44]
                refine pw_iret dX12_best_104 rfl rfl ?_
                first | exact fin _ ρ Kρ (by rw [t1 (fun y => h57 (q0.mpr y)), if_pos h64]) | exact fin _ ρ Kρ (by rw [t1 (fun y => h57 (q0.mpr y)), if_neg h64, if_pos h77]) | exact fin _ ρ Kρ (by rw [t1 (fun y => h57 (q0.mpr y)), if_neg h64, if_neg h77, if_pos h90]) | exact fin _ ρ Kρ (by rw [t1 (fun y => h57 (q0.mpr y)), if_neg h64, if_neg h77, if_neg h90])
            · refine pw_iconst (v := (-1)) dX12_best_60 (by decide) ?_
              refine pw_iret dX12_best_61 rfl rfl ?_
              exact fin _ ρ Kρ (t0 (q0.mp h57)).symm
          · exact absurd hz.2.2.2.2 (bI_0.mp h39)
theorem s_best_n {d al : Nat} {σ : pm_S} {house se g kinds what : Int32} (hd : 2 ≤ d) (hz : ¬ okBe house se g kinds what) : PE d al MX12_best [.ref 43, .int house, .int se, .int g, .int kinds, .int what] σ (some (.int (-1))) σ := by
  show PW _ _ _ _ _ _ _ _
  refine pw_iload_n dX12_best_0 rfl ?_
  refine pw_cS1 (d1 := d - 1) (a1 := 0) (a2 := al) dX12_best_1 mtX12_isHouse stX12_isHouse mlX12_100 (Nat.le_of_ble_eq_true rfl) (Nat.le_of_ble_eq_true rfl) (by omega) (by omega) (s_isHouse (by omega) _) ?_
  rintro r_ τ_ ⟨hr_, ht_⟩; subst r_; subst τ_
  refine pw_if_eq (tgt := 42) dX12_best_4 (by decide) (fun h4 => ?_) (fun h4 => ?_)
  · refine pw_iconst (v := (-1)) dX12_best_42 (by decide) ?_
    refine pw_iret dX12_best_43 rfl rfl ?_
    exact ⟨rfl, rfl⟩
  · refine pw_iload_n dX12_best_7 rfl ?_
    refine pw_cS1 (d1 := d - 1) (a1 := 0) (a2 := al) dX12_best_8 mtX12_isSeason stX12_isSeason mlX12_139 (Nat.le_of_ble_eq_true rfl) (Nat.le_of_ble_eq_true rfl) (by omega) (by omega) (s_isSeason (by omega) _) ?_
    rintro r_ τ_ ⟨hr_, ht_⟩; subst r_; subst τ_
    refine pw_if_eq (tgt := 42) dX12_best_11 (by decide) (fun h11 => ?_) (fun h11 => ?_)
    · refine pw_iconst (v := (-1)) dX12_best_42 (by decide) ?_
      refine pw_iret dX12_best_43 rfl rfl ?_
      exact ⟨rfl, rfl⟩
    · refine pw_iload_n dX12_best_14 rfl ?_
      refine pw_cS1 (d1 := d - 1) (a1 := 0) (a2 := al) dX12_best_15 mtX12_areGuests stX12_areGuests mlX12_142 (Nat.le_of_ble_eq_true rfl) (Nat.le_of_ble_eq_true rfl) (by omega) (by omega) (s_areGuests (by omega) _) ?_
      rintro r_ τ_ ⟨hr_, ht_⟩; subst r_; subst τ_
      refine pw_if_eq (tgt := 42) dX12_best_18 (by decide) (fun h18 => ?_) (fun h18 => ?_)
      · refine pw_iconst (v := (-1)) dX12_best_42 (by decide) ?_
        refine pw_iret dX12_best_43 rfl rfl ?_
        exact ⟨rfl, rfl⟩
      · refine pw_iload dX12_best_21 rfl ?_
        refine pw_iconst (v := 1) dX12_best_23 (by decide) ?_
        refine pw_bipush (v := 31) dX12_best_24 (by decide) ?_
        refine pw_cS3 (d1 := d - 1) (a1 := 0) (a2 := al) dX12_best_26 mtX12_isIn stX12_isIn mlX12_86 (Nat.le_of_ble_eq_true rfl) (Nat.le_of_ble_eq_true rfl) (by omega) (by omega) (s_isIn _ _ _) ?_
        rintro r_ τ_ ⟨hr_, ht_⟩; subst r_; subst τ_
        refine pw_if_eq (tgt := 42) dX12_best_29 (by decide) (fun h29 => ?_) (fun h29 => ?_)
        · refine pw_iconst (v := (-1)) dX12_best_42 (by decide) ?_
          refine pw_iret dX12_best_43 rfl rfl ?_
          exact ⟨rfl, rfl⟩
        · refine pw_iload dX12_best_32 rfl ?_
          refine pw_iconst (v := 0) dX12_best_34 (by decide) ?_
          refine pw_iconst (v := 3) dX12_best_35 (by decide) ?_
          refine pw_cS3 (d1 := d - 1) (a1 := 0) (a2 := al) dX12_best_36 mtX12_isIn stX12_isIn mlX12_86 (Nat.le_of_ble_eq_true rfl) (Nat.le_of_ble_eq_true rfl) (by omega) (by omega) (s_isIn _ _ _) ?_
          rintro r_ τ_ ⟨hr_, ht_⟩; subst r_; subst τ_
          refine pw_if_ne (tgt := 44) dX12_best_39 (by decide) (fun h39 => ?_) (fun h39 => ?_)
          · exact absurd ⟨bI_n.mp h4, bI_n.mp h11, bI_n.mp h18, bI_n.mp h29, bI_n.mp h39⟩ hz
          · refine pw_iconst (v := (-1)) dX12_best_42 (by decide) ?_
            refine pw_iret dX12_best_43 rfl rfl ?_
            exact ⟨rfl, rfl⟩
theorem p_best {σ : pm_S} {n e m a r : Nat} {rs : List (List stp)} (hX : bCx σ n e m rs a r) (house se g kinds what : Int32) : pS 0 MX11_best MX12_best [.int house, .int se, .int g, .int kinds, .int what] σ (fun τ => kpX σ τ) := by
  by_cases hz : okBe house se g kinds what
  · refine PW.post ?_ (t_best (d := 100) (al := 0) (by decide) hX hz)
    rintro v τ1 ⟨⟨j1, h1, rfl⟩, K1⟩
    refine ⟨_, rfl, K1.f5, PW.post ?_ (s_best (d := 100) (al := 0) (by decide) hX K1 hz)⟩
    rintro v' τ ⟨⟨j2, h2, rfl⟩, K2⟩
    refine ⟨?_, K2⟩
    have : bTl ((bTs σ n e house se kinds).foldl (bJd σ rs m se g) j2) what = bTl ((bTs σ n e house se kinds).foldl (bJd σ rs m se g) j1) what := by
      rcases jf_eq (bar := bBar σ rs se g) (ag := bAg σ m g) (rk := bRk σ) (bi := bBi) (bTs σ n e house se kinds) j2 j1 (Or.inr ⟨h2, h1⟩) with y | ⟨y1, y2⟩
      · rw [show (bTs σ n e house se kinds).foldl (bJd σ rs m se g) j2 = (bTs σ n e house se kinds).foldl (bJd σ rs m se g) j1 from y]
      · unfold bTl
        rw [if_pos y1, if_pos y2]
    rw [this]
  · refine PW.post ?_ (t_best_n (d := 100) (al := 0) (by decide) hz)
    rintro v τ1 ⟨rfl, rfl⟩
    refine ⟨_, rfl, fr5.rfl', PW.post ?_ (s_best_n (d := 100) (al := 0) (by decide) hz)⟩
    rintro v' τ ⟨rfl, rfl⟩
    exact ⟨rfl, kpX.rfl'⟩
