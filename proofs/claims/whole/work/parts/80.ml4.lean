/-! ===== the reference: the next token, whole ===== -/
theorem s_nx_w {d al n q : Nat} {ρ : pm_S} {c : Nat → Nat} {y1 : Int32} {Q : Option Value → pm_S → Prop} (hd : 1 ≤ d) (hS : pm_fix ρ) (hn0 : 0 < n) (hn : n < 1000) (hl : ∀ i, i < n → lE (c (q + i))) (kk : Q none (pm_sI ρ 43 32 (nI (mtk (wT c q n 15))))) : PW d al MX12_next0 131 [.ref 43, .int y1, .int (nI n), .long (jL (pkN c q (min n 7))), .retAddr 0] [] ρ Q := by
  have h256 : ∀ i, i < n → c (q + i) < 256 := fun i hi => by have := hl i hi; unfold lE at this; omega
  refine pw_aload_n dX12_next0_131 rfl ?_
  refine pw_iload_n dX12_next0_132 rfl ?_
  refine pw_bipush (v := 7) dX12_next0_133 (by decide) ?_
  refine pw_icmp_ge (tgt := 145) dX12_next0_135 (by decide) (fun h135 => ?_) (fun h135 => ?_)
  · have h7 : ¬ n ≤ 6 := fun z => nI_ge (show n < 7 by omega) (by decide) h135
    rw [wT_big h7] at kk
    refine pw_iconst (v := 1) dX12_next0_145 (by decide) ?_
    refine pw_putI dX12_next0_146 flX12_197 ⟨_, rfl, Or.inl rfl⟩ rfl (hS.at rfl rfl rfl) ?_
    refine pw_goto (tgt := 294) dX12_next0_149 (by decide) ?_
    refine pw_vret dX12_next0_294 rfl ?_
    exact kk
  · have h7 : n ≤ 6 := by
      rcases Nat.lt_or_ge n 7 with z | z
      · omega
      · exact absurd (nI_le z (by omega)) h135
    rw [show min n 7 = n by omega]
    have hpk := pkN_lt (c := c) (q := q) n h256
    have hp6 : (256 : Nat) ^ n ≤ 256 ^ 6 := Nat.pow_le_pow_right (by decide) h7
    have hb : pkN c q n < 2 ^ 60 := Nat.lt_of_lt_of_le (Nat.lt_of_lt_of_le hpk hp6) (by decide)
    rw [wTN_eq hn0 h7 hl 15 (Nat.le_refl _), wd_eq] at kk
    refine pw_lload_n dX12_next0_138 rfl ?_
    refine pw_cS1 (d1 := d - 1) (a1 := 0) (a2 := al) dX12_next0_139 mtX12_word stX12_word mlX12_203 (Nat.le_of_ble_eq_true rfl) (Nat.le_of_ble_eq_true rfl) (by omega) (by omega) (s_word hb) ?_
    rintro r_ τ_ ⟨hr_, ht_⟩; subst r_; subst τ_
    refine pw_goto (tgt := 146) dX12_next0_142 (by decide) ?_
    refine pw_putI dX12_next0_146 flX12_197 ⟨_, rfl, Or.inl rfl⟩ rfl (hS.at rfl rfl rfl) ?_
    refine pw_goto (tgt := 294) dX12_next0_149 (by decide) ?_
    refine pw_vret dX12_next0_294 rfl ?_
    exact kk
theorem s_nx_v {d al n : Nat} {ρ : pm_S} {y1 : Int32} {x3 x4 : Value} {Q : Option Value → pm_S → Prop} (hS : pm_fix ρ) (hn : n < 1000) (kk : Q none (pm_sI ρ 43 32 (nI (mtk (if n ≤ 4 then 21 else 23))))) : PW d al MX12_next0 222 [.ref 43, .int y1, .int (nI n), x3, x4] [] ρ Q := by
  refine pw_aload_n dX12_next0_222 rfl ?_
  refine pw_iload_n dX12_next0_223 rfl ?_
  refine pw_iconst (v := 5) dX12_next0_224 (by decide) ?_
  refine pw_icmp_ge (tgt := 232) dX12_next0_225 (by decide) (fun h225 => ?_) (fun h225 => ?_)
  · have h7 : ¬ n ≤ 4 := fun z => nI_ge (show n < 5 by omega) (by decide) h225
    rw [if_neg h7] at kk
    refine pw_iconst (v := 1) dX12_next0_232 (by decide) ?_
    refine pw_putI dX12_next0_233 flX12_197 ⟨_, rfl, Or.inl rfl⟩ rfl (hS.at rfl rfl rfl) ?_
    refine pw_goto (tgt := 294) dX12_next0_236 (by decide) ?_
    refine pw_vret dX12_next0_294 rfl ?_
    exact kk
  · have h7 : n ≤ 4 := by
      rcases Nat.lt_or_ge n 5 with z | z
      · omega
      · exact absurd (nI_le z (by omega)) h225
    rw [if_pos h7] at kk
    refine pw_iconst (v := 2) dX12_next0_228 (by decide) ?_
    refine pw_goto (tgt := 233) dX12_next0_229 (by decide) ?_
    refine pw_putI dX12_next0_233 flX12_197 ⟨_, rfl, Or.inl rfl⟩ rfl (hS.at rfl rfl rfl) ?_
    refine pw_goto (tgt := 294) dX12_next0_236 (by decide) ?_
    refine pw_vret dX12_next0_294 rfl ?_
    exact kk
theorem sg_m (x : Nat) : mtk (sg x) = if x = 59 ∨ x = 40 ∨ x = 41 ∨ x = 60 ∨ x = 61 ∨ x = 62 then x else 1 := by
  unfold sg
  by_cases z1 : x = 59
  · subst z1; rfl
  · rw [if_neg z1]
    by_cases z2 : x = 40
    · subst z2; rfl
    · rw [if_neg z2]
      by_cases z3 : x = 41
      · subst z3; rfl
      · rw [if_neg z3]
        by_cases z4 : x = 60
        · subst z4; rfl
        · rw [if_neg z4]
          by_cases z5 : x = 61
          · subst z5; rfl
          · rw [if_neg z5]
            by_cases z6 : x = 62
            · subst z6; rfl
            · rw [if_neg z6, if_neg (by omega)]; rfl
theorem s_nx_s {d al x : Nat} {ρ : pm_S} {x2 x3 x4 : Value} {Q : Option Value → pm_S → Prop} (hS : pm_fix ρ) (hx : x < 256) (kk : Q none (pm_sI (pm_sI ρ 43 31 (qI ρ 43 31 + 1)) 43 32 (nI (mtk (sg x))))) : PW d al MX12_next0 239 [.ref 43, .int (nI x), x2, x3, x4] [] ρ Q := by
  have q1 : nI x = 59 ↔ x = 59 := nI_eq (by omega) (by decide)
  have q2 : nI x = 40 ↔ x = 40 := nI_eq (by omega) (by decide)
  have q3 : nI x = 41 ↔ x = 41 := nI_eq (by omega) (by decide)
  have q4 : nI x = 60 ↔ x = 60 := nI_eq (by omega) (by decide)
  have q5 : nI x = 61 ↔ x = 61 := nI_eq (by omega) (by decide)
  have q6 : nI x = 62 ↔ x = 62 := nI_eq (by omega) (by decide)
  rw [sg_m] at kk
  refine pw_aload_n dX12_next0_239 rfl ?_
  refine pw_dup dX12_next0_240 rfl ?_
  refine pw_getI dX12_next0_241 flX12_188 rfl (hS.at rfl rfl rfl) ?_
  refine pw_iconst (v := 1) dX12_next0_244 (by decide) ?_
  refine pw_iadd dX12_next0_245 ?_
  refine pw_putI dX12_next0_246 flX12_188 ⟨_, rfl, Or.inl rfl⟩ rfl (hS.at rfl rfl rfl) ?_
  refine pw_aload_n dX12_next0_249 rfl ?_
  refine pw_iload_n dX12_next0_250 rfl ?_
  refine pw_bipush (v := 59) dX12_next0_251 (by decide) ?_
  refine pw_icmp_eq (tgt := 286) dX12_next0_253 (by decide) (fun h253 => ?_) (fun h253 => ?_)
  · have hy : x = 59 ∨ x = 40 ∨ x = 41 ∨ x = 60 ∨ x = 61 ∨ x = 62 := by
      first | exact Or.inl (q1.mp h253) | exact Or.inr (Or.inl (q2.mp h259)) | exact Or.inr (Or.inr (Or.inl (q3.mp h265))) | exact Or.inr (Or.inr (Or.inr (Or.inl (q4.mp h271)))) | exact Or.inr (Or.inr (Or.inr (Or.inr (Or.inl (q5.mp h277))))) | exact Or.inr (Or.inr (Or.inr (Or.inr (Or.inr (q6.mp h283)))))
    rw [if_pos hy] at kk
    refine pw_iload_n dX12_next0_286 rfl ?_
    refine pw_goto (tgt := 291) dX12_next0_287 (by decide) ?_
    refine pw_putI dX12_next0_291 flX12_197 ⟨_, rfl, Or.inl rfl⟩ rfl (hS.at rfl rfl rfl) ?_
    refine pw_vret dX12_next0_294 rfl ?_
    exact kk
  · refine pw_iload_n dX12_next0_256 rfl ?_
    refine pw_bipush (v := 40) dX12_next0_257 (by decide) ?_
    refine pw_icmp_eq (tgt := 286) dX12_next0_259 (by decide) (fun h259 => ?_) (fun h259 => ?_)
    · have hy : x = 59 ∨ x = 40 ∨ x = 41 ∨ x = 60 ∨ x = 61 ∨ x = 62 := by
        first | exact Or.inl (q1.mp h253) | exact Or.inr (Or.inl (q2.mp h259)) | exact Or.inr (Or.inr (Or.inl (q3.mp h265))) | exact Or.inr (Or.inr (Or.inr (Or.inl (q4.mp h271)))) | exact Or.inr (Or.inr (Or.inr (Or.inr (Or.inl (q5.mp h277))))) | exact Or.inr (Or.inr (Or.inr (Or.inr (Or.inr (q6.mp h283)))))
      rw [if_pos hy] at kk
      refine pw_iload_n dX12_next0_286 rfl ?_
      refine pw_goto (tgt := 291) dX12_next0_287 (by decide) ?_
      refine pw_putI dX12_next0_291 flX12_197 ⟨_, rfl, Or.inl rfl⟩ rfl (hS.at rfl rfl rfl) ?_
      refine pw_vret dX12_next0_294 rfl ?_
      exact kk
    · refine pw_iload_n dX12_next0_262 rfl ?_
      refine pw_bipush (v := 41) dX12_next0_263 (by decide) ?_
      refine pw_icmp_eq (tgt := 286) dX12_next0_265 (by decide) (fun h265 => ?_) (fun h265 => ?_)
      · have hy : x = 59 ∨ x = 40 ∨ x = 41 ∨ x = 60 ∨ x = 61 ∨ x = 62 := by
          first | exact Or.inl (q1.mp h253) | exact Or.inr (Or.inl (q2.mp h259)) | exact Or.inr (Or.inr (Or.inl (q3.mp h265))) | exact Or.inr (Or.inr (Or.inr (Or.inl (q4.mp h271)))) | exact Or.inr (Or.inr (Or.inr (Or.inr (Or.inl (q5.mp h277))))) | exact Or.inr (Or.inr (Or.inr (Or.inr (Or.inr (q6.mp h283)))))
        rw [if_pos hy] at kk
        refine pw_iload_n dX12_next0_286 rfl ?_
        refine pw_goto (tgt := 291) dX12_next0_287 (by decide) ?_
        refine pw_putI dX12_next0_291 flX12_197 ⟨_, rfl, Or.inl rfl⟩ rfl (hS.at rfl rfl rfl) ?_
        refine pw_vret dX12_next0_294 rfl ?_
        exact kk
      · refine pw_iload_n dX12_next0_268 rfl ?_
        refine pw_bipush (v := 60) dX12_next0_269 (by decide) ?_
        refine pw_icmp_eq (tgt := 286) dX12_next0_271 (by decide) (fun h271 => ?_) (fun h271 => ?_)
        · have hy : x = 59 ∨ x = 40 ∨ x = 41 ∨ x = 60 ∨ x = 61 ∨ x = 62 := by
            first | exact Or.inl (q1.mp h253) | exact Or.inr (Or.inl (q2.mp h259)) | exact Or.inr (Or.inr (Or.inl (q3.mp h265))) | exact Or.inr (Or.inr (Or.inr (Or.inl (q4.mp h271)))) | exact Or.inr (Or.inr (Or.inr (Or.inr (Or.inl (q5.mp h277))))) | exact Or.inr (Or.inr (Or.inr (Or.inr (Or.inr (q6.mp h283)))))
          rw [if_pos hy] at kk
          refine pw_iload_n dX12_next0_286 rfl ?_
          refine pw_goto (tgt := 291) dX12_next0_287 (by decide) ?_
          refine pw_putI dX12_next0_291 flX12_197 ⟨_, rfl, Or.inl rfl⟩ rfl (hS.at rfl rfl rfl) ?_
          refine pw_vret dX12_next0_294 rfl ?_
          exact kk
        · refine pw_iload_n dX12_next0_274 rfl ?_
          refine pw_bipush (v := 61) dX12_next0_275 (by decide) ?_
          refine pw_icmp_eq (tgt := 286) dX12_next0_277 (by decide) (fun h277 => ?_) (fun h277 => ?_)
          · have hy : x = 59 ∨ x = 40 ∨ x = 41 ∨ x = 60 ∨ x = 61 ∨ x = 62 := by
              first | exact Or.inl (q1.mp h253) | exact Or.inr (Or.inl (q2.mp h259)) | exact Or.inr (Or.inr (Or.inl (q3.mp h265))) | exact Or.inr (Or.inr (Or.inr (Or.inl (q4.mp h271)))) | exact Or.inr (Or.inr (Or.inr (Or.inr (Or.inl (q5.mp h277))))) | exact Or.inr (Or.inr (Or.inr (Or.inr (Or.inr (q6.mp h283)))))
            rw [if_pos hy] at kk
            refine pw_iload_n dX12_next0_286 rfl ?_
            refine pw_goto (tgt := 291) dX12_next0_287 (by decide) ?_
            refine pw_putI dX12_next0_291 flX12_197 ⟨_, rfl, Or.inl rfl⟩ rfl (hS.at rfl rfl rfl) ?_
            refine pw_vret dX12_next0_294 rfl ?_
            exact kk
          · refine pw_iload_n dX12_next0_280 rfl ?_
            refine pw_bipush (v := 62) dX12_next0_281 (by decide) ?_
            refine pw_icmp_ne (tgt := 290) dX12_next0_283 (by decide) (fun h283 => ?_) (fun h283 => ?_)
            · rw [q1] at h253
              rw [q2] at h259
              rw [q3] at h265
              rw [q4] at h271
              rw [q5] at h277
              rw [ne_eq, q6] at h283
              rw [if_neg (by omega)] at kk
              refine pw_iconst (v := 1) dX12_next0_290 (by decide) ?_
              refine pw_putI dX12_next0_291 flX12_197 ⟨_, rfl, Or.inl rfl⟩ rfl (hS.at rfl rfl rfl) ?_
              refine pw_vret dX12_next0_294 rfl ?_
              exact kk
            · have hy : x = 59 ∨ x = 40 ∨ x = 41 ∨ x = 60 ∨ x = 61 ∨ x = 62 := by
                first | exact Or.inl (q1.mp h253) | exact Or.inr (Or.inl (q2.mp h259)) | exact Or.inr (Or.inr (Or.inl (q3.mp h265))) | exact Or.inr (Or.inr (Or.inr (Or.inl (q4.mp h271)))) | exact Or.inr (Or.inr (Or.inr (Or.inr (Or.inl (q5.mp h277))))) | exact Or.inr (Or.inr (Or.inr (Or.inr (Or.inr (q6.mp h283)))))
              rw [if_pos hy] at kk
              refine pw_iload_n dX12_next0_286 rfl ?_
              refine pw_goto (tgt := 291) dX12_next0_287 (by decide) ?_
              refine pw_putI dX12_next0_291 flX12_197 ⟨_, rfl, Or.inl rfl⟩ rfl (hS.at rfl rfl rfl) ?_
              refine pw_vret dX12_next0_294 rfl ?_
              exact kk
def lxI (σ τ : pm_S) (c : Nat → Nat) (L p : Nat) : Prop := τ.2 = σ.2 ∧ (∀ b j, ¬ (b = 43 ∧ 31 ≤ j ∧ j ≤ 34) → qI τ b j = qI σ b j) ∧ qI τ 43 31 = nI (nx c L p).2.2.2 ∧ qI τ 43 32 = nI (mtk (nx c L p).1) ∧ qI τ 43 33 = nI (nx c L p).2.1 ∧ ((nx c L p).1 = 21 → qI τ 43 34 = (nx c L p).2.2.1)
theorem s_next0 {d al L p : Nat} {σ : pm_S} {c : Nat → Nat} (hd : 2 ≤ d) (hS : pm_fix σ) (hT : mT σ c L) (hp : p ≤ L) (ha : qI σ 43 31 = nI p) : PM d al MX12_next0 [.ref 43] σ (fun r τ => r = none ∧ lxI σ τ c L p) := by
  show PW _ _ _ _ _ _ _ _
  have hL := hT.1
  refine s_nx_b (by omega) (L - p) p σ hS hT (by omega) ha ?_
  obtain ⟨hq1, hq2⟩ := rn_in (P := lB) (c := c) hp
  have hstop := rn_stop (P := lB) (c := c) (L := L) (L - p) p (by omega)
  have hnxq : nx c L p = if rn lB c (L - p) p < L then (if lE (c (rn lB c (L - p) p)) then (wT c (rn lB c (L - p) p) (rn lE c (L - rn lB c (L - p) p) (rn lB c (L - p) p) - rn lB c (L - p) p) 15, rn lB c (L - p) p, 0, rn lE c (L - rn lB c (L - p) p) (rn lB c (L - p) p))
    else if lD (c (rn lB c (L - p) p)) then (if rn lD c (L - rn lB c (L - p) p) (rn lB c (L - p) p) - rn lB c (L - p) p ≤ 4 then 21 else 23, rn lB c (L - p) p, dv c (rn lB c (L - p) p) (rn lD c (L - rn lB c (L - p) p) (rn lB c (L - p) p) - rn lB c (L - p) p), rn lD c (L - rn lB c (L - p) p) (rn lB c (L - p) p))
    else (sg (c (rn lB c (L - p) p)), rn lB c (L - p) p, 0, rn lB c (L - p) p + 1)) else (22, L, 0, L) := rfl
  generalize rn lB c (L - p) p = q at *
  have hSq : pm_fix (pm_sI (pm_sI σ 43 31 (nI q)) 43 33 (nI q)) := hS.sI.sI
  have hTq : mT (pm_sI (pm_sI σ 43 31 (nI q)) 43 33 (nI q)) c L := mT_of (by rw [qI_sI_ne (by decide), qI_sI_ne (by decide)]) (fun j => by rw [qI_sI_nc (by decide), qI_sI_nc (by decide)]) hT
  have h31 : qI (pm_sI σ 43 31 (nI q)) 43 31 = nI q := qI_sI_eq
  have h31' : qI (pm_sI (pm_sI σ 43 31 (nI q)) 43 33 (nI q)) 43 31 = nI q := by rw [qI_sI_ne (by decide), qI_sI_eq]
  have h33' : qI (pm_sI (pm_sI σ 43 31 (nI q)) 43 33 (nI q)) 43 33 = nI q := qI_sI_eq
  have hfr : ∀ b j, ¬ (b = 43 ∧ 31 ≤ j ∧ j ≤ 34) → qI (pm_sI (pm_sI σ 43 31 (nI q)) 43 33 (nI q)) b j = qI σ b j := fun b j hb => by rw [qI_sI_ne (by omega), qI_sI_ne (by omega)]
  by_cases hqL : q < L
  · have hcq := (hT.2.2 q hqL).2
    have hnb := hstop hqL
    rw [if_pos hqL] at hnxq
    have e1 : (if q < L then nI (c q) else -1) = nI (c q) := if_pos hqL
    by_cases hl : lE (c q)
    · rw [if_pos hl] at hnxq
      have e2 := rn_u (P := lE) (c := c) hqL
      rw [if_pos hl] at e2
      obtain ⟨e3, e4⟩ := rn_in (P := lE) (c := c) (L := L) (p := q + 1) (by omega)
      rw [← e2] at e3 e4
      have hall : ∀ i, i < rn lE c (L - q) q - q → lE (c (q + i)) := fun i hi => rn_all (L - q) q (q + i) (by omega) (by omega)
      have hk := s_nx_l (d := d) (al := al) (q := q) (y1 := nI (c q)) (Q := fun r τ => r = none ∧ lxI σ τ c L p) hd (L - q) q (pm_sI (pm_sI σ 43 31 (nI q)) 43 33 (nI q)) hSq hTq (Nat.le_refl _) (by omega) h31' (s_nx_w (c := c) (q := q) (by omega) hSq.sI (by omega) (by omega) hall ⟨rfl, rfl, fun b j hb => by rw [qI_sI_ne (by omega), qI_sI_ne (by omega)]; exact hfr b j hb, by rw [qI_sI_ne (by decide), qI_sI_eq, hnxq], by rw [qI_sI_eq, hnxq], by rw [qI_sI_ne (by decide), qI_sI_ne (by decide), h33', hnxq], fun z => by rw [hnxq] at z; have := wT_lt c q (rn lE c (L - q) q - q) 15 (Nat.le_refl _); exfalso; have z2 : wT c q (rn lE c (L - q) q - q) 15 = 21 := z; omega⟩)
      rw [Nat.sub_self] at hk
      refine pw_aload_n dX12_next0_39 rfl ?_
      refine pw_aload_n dX12_next0_40 rfl ?_
      refine pw_getI dX12_next0_41 flX12_188 rfl (hS.at rfl rfl rfl) ?_
      rw [h31]
      refine pw_putI dX12_next0_44 flX12_194 ⟨_, rfl, Or.inl rfl⟩ rfl (hS.at rfl rfl rfl) ?_
      refine pw_aload_n dX12_next0_47 rfl ?_
      refine pw_aload_n dX12_next0_48 rfl ?_
      refine pw_getI dX12_next0_49 flX12_188 rfl (hS.at rfl rfl rfl) ?_
      rw [h31']
      refine pw_cV1 (d1 := d - 1) (a1 := 0) (a2 := al) dX12_next0_52 mtX12_see ivX12_see mlX12_191 (Nat.le_of_ble_eq_true rfl) (Nat.le_of_ble_eq_true rfl) (by omega) (by omega) (hS.at rfl rfl rfl) rfl rfl (s_see hSq hTq (by omega)) ?_
      rintro r_ τ_ ⟨hr_, ht_⟩; subst r_; subst τ_
      rw [e1]
      refine pw_istore_n dX12_next0_55 (Nat.le_of_ble_eq_true rfl) (Nat.le_of_ble_eq_true rfl) rfl ?_
      refine pw_iconst (v := 0) dX12_next0_56 (by decide) ?_
      refine pw_istore_n dX12_next0_57 (Nat.le_of_ble_eq_true rfl) (Nat.le_of_ble_eq_true rfl) rfl ?_
      refine pw_iload_n dX12_next0_58 rfl ?_
      refine pw_iconst (v := (-1)) dX12_next0_59 (by decide) ?_
      refine pw_icmp_ne (tgt := 71) dX12_next0_60 (by decide) (fun h60 => ?_) (fun h60 => ?_)
      · refine pw_iload_n dX12_next0_71 rfl ?_
        refine pw_cS1 (d1 := d - 1) (a1 := 0) (a2 := al) dX12_next0_72 mtX12_isLetter stX12_isLetter mlX12_200 (Nat.le_of_ble_eq_true rfl) (Nat.le_of_ble_eq_true rfl) (by omega) (by omega) (s_isLetter (by omega) hcq) ?_
        rintro r_ τ_ ⟨hr_, ht_⟩; subst r_; subst τ_
        refine pw_if_eq (tgt := 152) dX12_next0_75 (by decide) (fun h75 => ?_) (fun h75 => ?_)
        · exact absurd hl (bI_0.mp h75)
        · refine pw_lconst (v := 0) dX12_next0_78 (by decide) ?_
          refine pw_lstore_n dX12_next0_79 (Nat.le_of_ble_eq_true rfl) (Nat.le_of_ble_eq_true rfl) rfl ?_
          exact hk
      · exact absurd h60 (nI_nm1 (by omega))
    · rw [if_neg hl] at hnxq
      by_cases hdg : lD (c q)
      · rw [if_pos hdg] at hnxq
        have e2 := rn_u (P := lD) (c := c) hqL
        rw [if_pos hdg] at e2
        obtain ⟨e3, e4⟩ := rn_in (P := lD) (c := c) (L := L) (p := q + 1) (by omega)
        rw [← e2] at e3 e4
        have hk := fun x3 x4 => s_nx_d (d := d) (al := al) (q := q) (y1 := nI (c q)) (x3 := x3) (x4 := x4) (τ := pm_sI (pm_sI (pm_sI σ 43 31 (nI q)) 43 33 (nI q)) 43 34 0) (E := rn lD c (L - q) q) (Q := fun r τ => r = none ∧ lxI σ τ c L p) hd hSq.sI (mT_of (qI_sI_ne (by decide)) (fun j => qI_sI_nc (by decide)) hTq) (fun ρ hρ => s_nx_v (fix_of2 hρ.1 hSq.sI) (by omega) ⟨rfl, hρ.1, fun b j hb => by rw [qI_sI_ne (by omega), hρ.2.1 b j (by omega), qI_sI_ne (by omega)]; exact hfr b j hb, by rw [qI_sI_ne (by decide), hρ.2.2.1, hnxq], by rw [qI_sI_eq, hnxq], by rw [qI_sI_ne (by decide), hρ.2.1 43 33 (by decide), qI_sI_ne (by decide), h33', hnxq], fun z => by
            rw [hnxq] at z
            have z2 : (if rn lD c (L - q) q - q ≤ 4 then 21 else 23) = 21 := z
            have z3 : rn lD c (L - q) q - q ≤ 4 := by
              by_cases y : rn lD c (L - q) q - q ≤ 4
              · exact y
              · rw [if_neg y] at z2; omega
            rw [qI_sI_ne (by decide), hρ.2.2.2, hnxq, show min (rn lD c (L - q) q - q) 4 = rn lD c (L - q) q - q by omega]⟩) (L - q) q (pm_sI (pm_sI (pm_sI σ 43 31 (nI q)) 43 33 (nI q)) 43 34 0) (Nat.le_refl _) (by omega) rfl ⟨rfl, fun _ _ _ => rfl, by rw [qI_sI_ne (by decide)]; exact h31', by rw [qI_sI_eq, Nat.sub_self]; rfl⟩
        rw [Nat.sub_self] at hk
        refine pw_aload_n dX12_next0_39 rfl ?_
        refine pw_aload_n dX12_next0_40 rfl ?_
        refine pw_getI dX12_next0_41 flX12_188 rfl (hS.at rfl rfl rfl) ?_
        rw [h31]
        refine pw_putI dX12_next0_44 flX12_194 ⟨_, rfl, Or.inl rfl⟩ rfl (hS.at rfl rfl rfl) ?_
        refine pw_aload_n dX12_next0_47 rfl ?_
        refine pw_aload_n dX12_next0_48 rfl ?_
        refine pw_getI dX12_next0_49 flX12_188 rfl (hS.at rfl rfl rfl) ?_
        rw [h31']
        refine pw_cV1 (d1 := d - 1) (a1 := 0) (a2 := al) dX12_next0_52 mtX12_see ivX12_see mlX12_191 (Nat.le_of_ble_eq_true rfl) (Nat.le_of_ble_eq_true rfl) (by omega) (by omega) (hS.at rfl rfl rfl) rfl rfl (s_see hSq hTq (by omega)) ?_
        rintro r_ τ_ ⟨hr_, ht_⟩; subst r_; subst τ_
        rw [e1]
        refine pw_istore_n dX12_next0_55 (Nat.le_of_ble_eq_true rfl) (Nat.le_of_ble_eq_true rfl) rfl ?_
        refine pw_iconst (v := 0) dX12_next0_56 (by decide) ?_
        refine pw_istore_n dX12_next0_57 (Nat.le_of_ble_eq_true rfl) (Nat.le_of_ble_eq_true rfl) rfl ?_
        refine pw_iload_n dX12_next0_58 rfl ?_
        refine pw_iconst (v := (-1)) dX12_next0_59 (by decide) ?_
        refine pw_icmp_ne (tgt := 71) dX12_next0_60 (by decide) (fun h60 => ?_) (fun h60 => ?_)
        · refine pw_iload_n dX12_next0_71 rfl ?_
          refine pw_cS1 (d1 := d - 1) (a1 := 0) (a2 := al) dX12_next0_72 mtX12_isLetter stX12_isLetter mlX12_200 (Nat.le_of_ble_eq_true rfl) (Nat.le_of_ble_eq_true rfl) (by omega) (by omega) (s_isLetter (by omega) hcq) ?_
          rintro r_ τ_ ⟨hr_, ht_⟩; subst r_; subst τ_
          refine pw_if_eq (tgt := 152) dX12_next0_75 (by decide) (fun h75 => ?_) (fun h75 => ?_)
          · refine pw_iload_n dX12_next0_152 rfl ?_
            refine pw_cS1 (d1 := d - 1) (a1 := 0) (a2 := al) dX12_next0_153 mtX12_isDigit stX12_isDigit mlX12_207 (Nat.le_of_ble_eq_true rfl) (Nat.le_of_ble_eq_true rfl) (by omega) (by omega) (s_isDigit (by omega) hcq) ?_
            rintro r_ τ_ ⟨hr_, ht_⟩; subst r_; subst τ_
            refine pw_if_eq (tgt := 239) dX12_next0_156 (by decide) (fun h156 => ?_) (fun h156 => ?_)
            · exact absurd hdg (bI_0.mp h156)
            · refine pw_aload_n dX12_next0_159 rfl ?_
              refine pw_iconst (v := 0) dX12_next0_160 (by decide) ?_
              refine pw_putI dX12_next0_161 flX12_210 ⟨_, rfl, Or.inl rfl⟩ rfl (hS.at rfl rfl rfl) ?_
              exact hk _ _
          · exact absurd (bI_n.mp h75) hl
        · exact absurd h60 (nI_nm1 (by omega))
      · rw [if_neg hdg] at hnxq
        have hk := fun x2 x3 x4 => s_nx_s (d := d) (al := al) (ρ := pm_sI (pm_sI σ 43 31 (nI q)) 43 33 (nI q)) (x2 := x2) (x3 := x3) (x4 := x4) (Q := fun r τ => r = none ∧ lxI σ τ c L p) hSq hcq ⟨rfl, rfl, fun b j hb => by rw [qI_sI_ne (by omega), qI_sI_ne (by omega)]; exact hfr b j hb, by rw [qI_sI_ne (by decide), qI_sI_eq, h31', hnxq, ← nI_succ], by rw [qI_sI_eq, hnxq], by rw [qI_sI_ne (by decide), qI_sI_ne (by decide), h33', hnxq], fun z => by rw [hnxq] at z; have := sg_rng (c q); exfalso; have z2 : sg (c q) = 21 := z; omega⟩
        refine pw_aload_n dX12_next0_39 rfl ?_
        refine pw_aload_n dX12_next0_40 rfl ?_
        refine pw_getI dX12_next0_41 flX12_188 rfl (hS.at rfl rfl rfl) ?_
        rw [h31]
        refine pw_putI dX12_next0_44 flX12_194 ⟨_, rfl, Or.inl rfl⟩ rfl (hS.at rfl rfl rfl) ?_
        refine pw_aload_n dX12_next0_47 rfl ?_
        refine pw_aload_n dX12_next0_48 rfl ?_
        refine pw_getI dX12_next0_49 flX12_188 rfl (hS.at rfl rfl rfl) ?_
        rw [h31']
        refine pw_cV1 (d1 := d - 1) (a1 := 0) (a2 := al) dX12_next0_52 mtX12_see ivX12_see mlX12_191 (Nat.le_of_ble_eq_true rfl) (Nat.le_of_ble_eq_true rfl) (by omega) (by omega) (hS.at rfl rfl rfl) rfl rfl (s_see hSq hTq (by omega)) ?_
        rintro r_ τ_ ⟨hr_, ht_⟩; subst r_; subst τ_
        rw [e1]
        refine pw_istore_n dX12_next0_55 (Nat.le_of_ble_eq_true rfl) (Nat.le_of_ble_eq_true rfl) rfl ?_
        refine pw_iconst (v := 0) dX12_next0_56 (by decide) ?_
        refine pw_istore_n dX12_next0_57 (Nat.le_of_ble_eq_true rfl) (Nat.le_of_ble_eq_true rfl) rfl ?_
        refine pw_iload_n dX12_next0_58 rfl ?_
        refine pw_iconst (v := (-1)) dX12_next0_59 (by decide) ?_
        refine pw_icmp_ne (tgt := 71) dX12_next0_60 (by decide) (fun h60 => ?_) (fun h60 => ?_)
        · refine pw_iload_n dX12_next0_71 rfl ?_
          refine pw_cS1 (d1 := d - 1) (a1 := 0) (a2 := al) dX12_next0_72 mtX12_isLetter stX12_isLetter mlX12_200 (Nat.le_of_ble_eq_true rfl) (Nat.le_of_ble_eq_true rfl) (by omega) (by omega) (s_isLetter (by omega) hcq) ?_
          rintro r_ τ_ ⟨hr_, ht_⟩; subst r_; subst τ_
          refine pw_if_eq (tgt := 152) dX12_next0_75 (by decide) (fun h75 => ?_) (fun h75 => ?_)
          · refine pw_iload_n dX12_next0_152 rfl ?_
            refine pw_cS1 (d1 := d - 1) (a1 := 0) (a2 := al) dX12_next0_153 mtX12_isDigit stX12_isDigit mlX12_207 (Nat.le_of_ble_eq_true rfl) (Nat.le_of_ble_eq_true rfl) (by omega) (by omega) (s_isDigit (by omega) hcq) ?_
            rintro r_ τ_ ⟨hr_, ht_⟩; subst r_; subst τ_
            refine pw_if_eq (tgt := 239) dX12_next0_156 (by decide) (fun h156 => ?_) (fun h156 => ?_)
            · exact hk _ _ _
            · exact absurd (bI_n.mp h156) hdg
          · exact absurd (bI_n.mp h75) hl
        · exact absurd h60 (nI_nm1 (by omega))
  · have hqe : q = L := by omega
    rw [if_neg hqL] at hnxq
    have e1 : (if q < L then nI (c q) else -1) = -1 := if_neg hqL
    refine pw_aload_n dX12_next0_39 rfl ?_
    refine pw_aload_n dX12_next0_40 rfl ?_
    refine pw_getI dX12_next0_41 flX12_188 rfl (hS.at rfl rfl rfl) ?_
    rw [h31]
    refine pw_putI dX12_next0_44 flX12_194 ⟨_, rfl, Or.inl rfl⟩ rfl (hS.at rfl rfl rfl) ?_
    refine pw_aload_n dX12_next0_47 rfl ?_
    refine pw_aload_n dX12_next0_48 rfl ?_
    refine pw_getI dX12_next0_49 flX12_188 rfl (hS.at rfl rfl rfl) ?_
    rw [h31']
    refine pw_cV1 (d1 := d - 1) (a1 := 0) (a2 := al) dX12_next0_52 mtX12_see ivX12_see mlX12_191 (Nat.le_of_ble_eq_true rfl) (Nat.le_of_ble_eq_true rfl) (by omega) (by omega) (hS.at rfl rfl rfl) rfl rfl (s_see hSq hTq (by omega)) ?_
    rintro r_ τ_ ⟨hr_, ht_⟩; subst r_; subst τ_
    rw [e1]
    refine pw_istore_n dX12_next0_55 (Nat.le_of_ble_eq_true rfl) (Nat.le_of_ble_eq_true rfl) rfl ?_
    refine pw_iconst (v := 0) dX12_next0_56 (by decide) ?_
    refine pw_istore_n dX12_next0_57 (Nat.le_of_ble_eq_true rfl) (Nat.le_of_ble_eq_true rfl) rfl ?_
    refine pw_iload_n dX12_next0_58 rfl ?_
    refine pw_iconst (v := (-1)) dX12_next0_59 (by decide) ?_
    refine pw_icmp_ne (tgt := 71) dX12_next0_60 (by decide) (fun h60 => ?_) (fun h60 => ?_)
    · exact absurd rfl h60
    · refine pw_aload_n dX12_next0_63 rfl ?_
      refine pw_iconst (v := 0) dX12_next0_64 (by decide) ?_
      refine pw_putI dX12_next0_65 flX12_197 ⟨_, rfl, Or.inl rfl⟩ rfl (hS.at rfl rfl rfl) ?_
      refine pw_goto (tgt := 294) dX12_next0_68 (by decide) ?_
      refine pw_vret dX12_next0_294 rfl ?_
      refine ⟨rfl, rfl, fun b j hb => ?_, ?_, ?_, ?_, fun z => ?_⟩
      · rw [qI_sI_ne (by omega)]; exact hfr b j hb
      · rw [qI_sI_ne (by decide), h31', hnxq, hqe]
      · rw [qI_sI_eq, hnxq]; rfl
      · rw [qI_sI_ne (by decide), h33', hnxq, hqe]
      · rw [hnxq] at z; exact absurd (show 22 = 21 from z) (by decide)
