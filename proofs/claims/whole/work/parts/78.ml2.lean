/-! ===== the reference: words ===== -/
def pkN (c : Nat → Nat) (q : Nat) : Nat → Nat
  | 0 => 0
  | n + 1 => pkN c q n * 256 + c (q + n)
theorem pkN_lt {c : Nat → Nat} {q : Nat} : ∀ n, (∀ i, i < n → c (q + i) < 256) → pkN c q n < 256 ^ n
  | 0, _ => Nat.lt_succ_self 0
  | n + 1, h => by
    have ih := pkN_lt n (fun i hi => h i (by omega))
    have h2 := h n (by omega)
    show pkN c q n * 256 + c (q + n) < 256 ^ (n + 1)
    rw [Nat.pow_succ]
    omega
theorem pk_inj' {c c' : Nat → Nat} {q q' : Nat} : ∀ n n', (∀ i, i < n → 0 < c (q + i) ∧ c (q + i) < 256) → (∀ i, i < n' → 0 < c' (q' + i) ∧ c' (q' + i) < 256) → pkN c q n = pkN c' q' n' → n = n' ∧ ∀ i, i < n → c (q + i) = c' (q' + i)
  | 0, 0, _, _, _ => ⟨rfl, fun i hi => absurd hi (Nat.not_lt_zero i)⟩
  | 0, n' + 1, _, h', h => by
    have h2 := h' n' (by omega)
    have : 0 = pkN c' q' n' * 256 + c' (q' + n') := h
    omega
  | n + 1, 0, h0, _, h => by
    have h2 := h0 n (by omega)
    have : pkN c q n * 256 + c (q + n) = 0 := h
    omega
  | n + 1, n' + 1, h0, h', h => by
    have h2 := h0 n (by omega)
    have h3 := h' n' (by omega)
    have h4 : pkN c q n * 256 + c (q + n) = pkN c' q' n' * 256 + c' (q' + n') := h
    have h5 : c (q + n) = c' (q' + n') := by omega
    obtain ⟨a, b⟩ := pk_inj' n n' (fun i hi => h0 i (by omega)) (fun i hi => h' i (by omega)) (by omega)
    subst a
    refine ⟨rfl, fun i hi => ?_⟩
    by_cases z : i = n
    · rw [z]; exact h5
    · exact b i (by omega)
def wl : List Nat := [3, 2, 3, 3, 6, 6, 4, 4, 3, 3, 4, 6, 6, 4, 5]
def cst : List Nat := [6447474, 28530, 6385252, 7237492, 126879263846254, 113753910899827, 1918987883, 1953459813, 6383461, 6840691, 1651472236, 126870958861420, 118083489655909, 1986098021, 495589486448]
theorem wl_f : ∀ w, w < 15 → (wl.getD w 0 ≤ 6 ∧ 0 < wl.getD w 0 ∧ pkN (fun i => tblN.getD i 0) (w * 6) (wl.getD w 0) = cst.getD w 0) ∧ ∀ i, i < 6 → (tblN.getD (w * 6 + i) 0 = 32 ↔ wl.getD w 0 ≤ i) ∧ 0 < tblN.getD (w * 6 + i) 0 ∧ tblN.getD (w * 6 + i) 0 < 256 := by decide +kernel
theorem wm_pk {c : Nat → Nat} {q n w : Nat} (hn0 : 0 < n) (hw : w < 15) (hl : ∀ i, i < n → lE (c (q + i))) : wm c q n w ↔ (n ≤ 6 ∧ pkN c q n = cst.getD w 0) := by
  obtain ⟨⟨a1, a0, a2⟩, a3⟩ := wl_f w hw
  have hle : ∀ i, i < n → 0 < c (q + i) ∧ c (q + i) < 256 ∧ c (q + i) ≠ 32 := fun i hi => by have := hl i hi; unfold lE at this; omega
  constructor
  · rintro ⟨h1, h2⟩
    refine ⟨h1, ?_⟩
    have hlt : ∀ i, i < n → i < wl.getD w 0 := fun i hi => by
      have e := h2 i (by omega)
      rw [if_pos hi] at e
      rcases Nat.lt_or_ge i (wl.getD w 0) with z | z
      · exact z
      · have := (a3 i (by omega)).1.mpr z
        exact absurd (e.symm.trans this) (hle i hi).2.2
    have hn1 := hlt (n - 1) (by omega)
    have hnw : n = wl.getD w 0 := by
      by_cases z : n < 6
      · have e := h2 n z
        rw [if_neg (Nat.lt_irrefl n)] at e
        have := (a3 n z).1.mp e
        omega
      · omega
    rw [← a2, ← hnw]
    have key : ∀ k, k ≤ n → pkN c q k = pkN (fun i => tblN.getD i 0) (w * 6) k := by
      intro k
      induction k with
      | zero => exact fun _ => rfl
      | succ k ih =>
        intro hk
        show pkN c q k * 256 + c (q + k) = pkN (fun i => tblN.getD i 0) (w * 6) k * 256 + tblN.getD (w * 6 + k) 0
        rw [ih (by omega)]
        have e := h2 k (by omega)
        rw [if_pos (by omega)] at e
        rw [e]
    exact key n (Nat.le_refl n)
  · rintro ⟨h1, h2⟩
    rw [← a2] at h2
    obtain ⟨b1, b2⟩ := pk_inj' (c := c) (c' := fun i => tblN.getD i 0) (q := q) (q' := w * 6) n (wl.getD w 0) (fun i hi => ⟨(hle i hi).1, (hle i hi).2.1⟩) (fun i hi => ⟨(a3 i (by omega)).2.1, (a3 i (by omega)).2.2⟩) h2
    refine ⟨h1, fun i hi => ?_⟩
    by_cases z : i < n
    · rw [if_pos z]; exact (b2 i z).symm
    · rw [if_neg z]; exact (a3 i hi).1.mpr (by omega)
/-- the class's tokens in the reference's numbers -/
def mtl : List Nat := [3, 4, 5, 6, 7, 8, 410, 420, 430, 440, 300, 301, 302, 303, 304, 59, 40, 41, 60, 61, 62, 2, 0, 1]
def mtk (t : Nat) : Nat := mtl.getD t 1
def wdN (N : Nat) : Nat := if N = 6447474 then 3 else if N = 28530 then 4 else if N = 6385252 then 5 else if N = 7237492 then 6 else if N = 126879263846254 then 7 else if N = 113753910899827 then 8 else if N = 1918987883 then 410 else if N = 1953459813 then 420 else if N = 6383461 then 430 else if N = 6840691 then 440 else if N = 1651472236 then 300 else if N = 126870958861420 then 301 else if N = 118083489655909 then 302 else if N = 1986098021 then 303 else if N = 495589486448 then 304 else 1
def wTN (N : Nat) : Nat → Nat
  | 0 => 23
  | w + 1 => if N = cst.getD w 0 then w else wTN N w
theorem wTN_eq {c : Nat → Nat} {q n : Nat} (hn0 : 0 < n) (hn : n ≤ 6) (hl : ∀ i, i < n → lE (c (q + i))) : ∀ w, w ≤ 15 → wT c q n w = wTN (pkN c q n) w
  | 0, _ => rfl
  | w + 1, h => by
    show (if wm c q n w then w else wT c q n w) = if pkN c q n = cst.getD w 0 then w else wTN (pkN c q n) w
    rw [wTN_eq hn0 hn hl w (by omega)]
    have hk := wm_pk (c := c) (q := q) (n := n) (w := w) hn0 (by omega) hl
    by_cases z : pkN c q n = cst.getD w 0
    · rw [if_pos z, if_pos (hk.mpr ⟨hn, z⟩)]
    · rw [if_neg z, if_neg (fun y => z (hk.mp y).2)]
theorem wT_big {c : Nat → Nat} {q n : Nat} (hn : ¬ n ≤ 6) : ∀ w, wT c q n w = 23
  | 0 => rfl
  | w + 1 => by
    show (if wm c q n w then w else wT c q n w) = 23
    rw [if_neg (fun y => hn y.1), wT_big hn w]
theorem wTN_no {N : Nat} : ∀ w, (∀ i, i < w → N ≠ cst.getD i 0) → wTN N w = 23
  | 0, _ => rfl
  | w + 1, h => by
    show (if N = cst.getD w 0 then w else wTN N w) = 23
    rw [if_neg (h w (by omega)), wTN_no w (fun i hi => h i (by omega))]
theorem wd_all : ∀ w, w < 15 → mtk (wTN (cst.getD w 0) 15) = wdN (cst.getD w 0) := by decide +kernel
theorem wd_eq (N : Nat) : mtk (wTN N 15) = wdN N := by
  by_cases z : ∃ w, w < 15 ∧ N = cst.getD w 0
  · obtain ⟨w, hw, rfl⟩ := z
    exact wd_all w hw
  · have hno : ∀ i, i < 15 → N ≠ cst.getD i 0 := fun i hi y => z ⟨i, hi, y⟩
    rw [wTN_no 15 hno]
    unfold wdN
    rw [if_neg (show ¬ N = 6447474 from hno 0 (by decide)), if_neg (show ¬ N = 28530 from hno 1 (by decide)), if_neg (show ¬ N = 6385252 from hno 2 (by decide)), if_neg (show ¬ N = 7237492 from hno 3 (by decide)), if_neg (show ¬ N = 126879263846254 from hno 4 (by decide)), if_neg (show ¬ N = 113753910899827 from hno 5 (by decide)), if_neg (show ¬ N = 1918987883 from hno 6 (by decide)), if_neg (show ¬ N = 1953459813 from hno 7 (by decide)), if_neg (show ¬ N = 6383461 from hno 8 (by decide)), if_neg (show ¬ N = 6840691 from hno 9 (by decide)), if_neg (show ¬ N = 1651472236 from hno 10 (by decide)), if_neg (show ¬ N = 126870958861420 from hno 11 (by decide)), if_neg (show ¬ N = 118083489655909 from hno 12 (by decide)), if_neg (show ¬ N = 1986098021 from hno 13 (by decide)), if_neg (show ¬ N = 495589486448 from hno 14 (by decide))]
    rfl
theorem jl_c {N : Nat} (hN : N < 2 ^ 60) (K : Nat) (hK : K < 2 ^ 60) : jL N = jL K ↔ N = K := ⟨fun h => jL_inj (by omega) (by omega) h, fun h => by rw [h]⟩
theorem s_word {d al N : Nat} {σ : pm_S} (hN : N < 2 ^ 60) : PE d al MX12_word [.long (jL N)] σ (some (.int (nI (wdN N)))) σ := by
  show PW _ _ _ _ _ _ _ _
  have y : ∀ {K : Nat} {C : Int64}, K < 2 ^ 60 → jL K = C → lg_cmp (jL N) C = 0 → N = K := fun {K C} h1 h2 h3 => (jl_c hN K h1).mp (by rw [h2]; exact lc0.mp h3)
  have n : ∀ {K : Nat} {C : Int64}, K < 2 ^ 60 → jL K = C → lg_cmp (jL N) C ≠ 0 → ¬ N = K := fun {K C} h1 h2 h3 h4 => h3 (lc0.mpr (by rw [h4]; exact h2))
  unfold wdN
  refine pw_lload_n dX12_word_0 rfl ?_
  refine pw_ldc2 dX12_word_1 coX12_158 ?_
  refine pw_lcmp dX12_word_4 ?_
  refine pw_if_ne (tgt := 10) dX12_word_5 (by decide) (fun h5 => ?_) (fun h5 => ?_)
  · rw [if_neg (n (K := 6447474) (by decide) rfl h5)]
    refine pw_lload_n dX12_word_10 rfl ?_
    refine pw_ldc2 dX12_word_11 coX12_160 ?_
    refine pw_lcmp dX12_word_14 ?_
    refine pw_if_ne (tgt := 20) dX12_word_15 (by decide) (fun h15 => ?_) (fun h15 => ?_)
    · rw [if_neg (n (K := 28530) (by decide) rfl h15)]
      refine pw_lload_n dX12_word_20 rfl ?_
      refine pw_ldc2 dX12_word_21 coX12_162 ?_
      refine pw_lcmp dX12_word_24 ?_
      refine pw_if_ne (tgt := 30) dX12_word_25 (by decide) (fun h25 => ?_) (fun h25 => ?_)
      · rw [if_neg (n (K := 6385252) (by decide) rfl h25)]
        refine pw_lload_n dX12_word_30 rfl ?_
        refine pw_ldc2 dX12_word_31 coX12_164 ?_
        refine pw_lcmp dX12_word_34 ?_
        refine pw_if_ne (tgt := 41) dX12_word_35 (by decide) (fun h35 => ?_) (fun h35 => ?_)
        · rw [if_neg (n (K := 7237492) (by decide) rfl h35)]
          refine pw_lload_n dX12_word_41 rfl ?_
          refine pw_ldc2 dX12_word_42 coX12_166 ?_
          refine pw_lcmp dX12_word_45 ?_
          refine pw_if_ne (tgt := 52) dX12_word_46 (by decide) (fun h46 => ?_) (fun h46 => ?_)
          · rw [if_neg (n (K := 126879263846254) (by decide) rfl h46)]
            refine pw_lload_n dX12_word_52 rfl ?_
            refine pw_ldc2 dX12_word_53 coX12_168 ?_
            refine pw_lcmp dX12_word_56 ?_
            refine pw_if_ne (tgt := 63) dX12_word_57 (by decide) (fun h57 => ?_) (fun h57 => ?_)
            · rw [if_neg (n (K := 113753910899827) (by decide) rfl h57)]
              refine pw_lload_n dX12_word_63 rfl ?_
              refine pw_ldc2 dX12_word_64 coX12_170 ?_
              refine pw_lcmp dX12_word_67 ?_
              refine pw_if_ne (tgt := 75) dX12_word_68 (by decide) (fun h68 => ?_) (fun h68 => ?_)
              · rw [if_neg (n (K := 1918987883) (by decide) rfl h68)]
                refine pw_lload_n dX12_word_75 rfl ?_
                refine pw_ldc2 dX12_word_76 coX12_172 ?_
                refine pw_lcmp dX12_word_79 ?_
                refine pw_if_ne (tgt := 87) dX12_word_80 (by decide) (fun h80 => ?_) (fun h80 => ?_)
                · rw [if_neg (n (K := 1953459813) (by decide) rfl h80)]
                  refine pw_lload_n dX12_word_87 rfl ?_
                  refine pw_ldc2 dX12_word_88 coX12_174 ?_
                  refine pw_lcmp dX12_word_91 ?_
                  refine pw_if_ne (tgt := 99) dX12_word_92 (by decide) (fun h92 => ?_) (fun h92 => ?_)
                  · rw [if_neg (n (K := 6383461) (by decide) rfl h92)]
                    refine pw_lload_n dX12_word_99 rfl ?_
                    refine pw_ldc2 dX12_word_100 coX12_176 ?_
                    refine pw_lcmp dX12_word_103 ?_
                    refine pw_if_ne (tgt := 111) dX12_word_104 (by decide) (fun h104 => ?_) (fun h104 => ?_)
                    · rw [if_neg (n (K := 6840691) (by decide) rfl h104)]
                      refine pw_lload_n dX12_word_111 rfl ?_
                      refine pw_ldc2 dX12_word_112 coX12_178 ?_
                      refine pw_lcmp dX12_word_115 ?_
                      refine pw_if_ne (tgt := 123) dX12_word_116 (by decide) (fun h116 => ?_) (fun h116 => ?_)
                      · rw [if_neg (n (K := 1651472236) (by decide) rfl h116)]
                        refine pw_lload_n dX12_word_123 rfl ?_
                        refine pw_ldc2 dX12_word_124 coX12_180 ?_
                        refine pw_lcmp dX12_word_127 ?_
                        refine pw_if_ne (tgt := 135) dX12_word_128 (by decide) (fun h128 => ?_) (fun h128 => ?_)
                        · rw [if_neg (n (K := 126870958861420) (by decide) rfl h128)]
                          refine pw_lload_n dX12_word_135 rfl ?_
                          refine pw_ldc2 dX12_word_136 coX12_182 ?_
                          refine pw_lcmp dX12_word_139 ?_
                          refine pw_if_ne (tgt := 147) dX12_word_140 (by decide) (fun h140 => ?_) (fun h140 => ?_)
                          · rw [if_neg (n (K := 118083489655909) (by decide) rfl h140)]
                            refine pw_lload_n dX12_word_147 rfl ?_
                            refine pw_ldc2 dX12_word_148 coX12_184 ?_
                            refine pw_lcmp dX12_word_151 ?_
                            refine pw_if_ne (tgt := 159) dX12_word_152 (by decide) (fun h152 => ?_) (fun h152 => ?_)
                            · rw [if_neg (n (K := 1986098021) (by decide) rfl h152)]
                              refine pw_lload_n dX12_word_159 rfl ?_
                              refine pw_ldc2 dX12_word_160 coX12_186 ?_
                              refine pw_lcmp dX12_word_163 ?_
                              refine pw_if_ne (tgt := 173) dX12_word_164 (by decide) (fun h164 => ?_) (fun h164 => ?_)
                              · rw [if_neg (n (K := 495589486448) (by decide) rfl h164)]
                                refine pw_iconst (v := 1) dX12_word_173 (by decide) ?_
                                refine pw_iret dX12_word_174 rfl rfl ?_
                                exact ⟨rfl, rfl⟩
                              · rw [if_pos (y (K := 495589486448) (by decide) rfl h164)]
                                refine pw_sipush (v := 304) dX12_word_167 (by decide) ?_
                                refine pw_goto (tgt := 174) dX12_word_170 (by decide) ?_
                                refine pw_iret dX12_word_174 rfl rfl ?_
                                exact ⟨rfl, rfl⟩
                            · rw [if_pos (y (K := 1986098021) (by decide) rfl h152)]
                              refine pw_sipush (v := 303) dX12_word_155 (by decide) ?_
                              refine pw_iret dX12_word_158 rfl rfl ?_
                              exact ⟨rfl, rfl⟩
                          · rw [if_pos (y (K := 118083489655909) (by decide) rfl h140)]
                            refine pw_sipush (v := 302) dX12_word_143 (by decide) ?_
                            refine pw_iret dX12_word_146 rfl rfl ?_
                            exact ⟨rfl, rfl⟩
                        · rw [if_pos (y (K := 126870958861420) (by decide) rfl h128)]
                          refine pw_sipush (v := 301) dX12_word_131 (by decide) ?_
                          refine pw_iret dX12_word_134 rfl rfl ?_
                          exact ⟨rfl, rfl⟩
                      · rw [if_pos (y (K := 1651472236) (by decide) rfl h116)]
                        refine pw_sipush (v := 300) dX12_word_119 (by decide) ?_
                        refine pw_iret dX12_word_122 rfl rfl ?_
                        exact ⟨rfl, rfl⟩
                    · rw [if_pos (y (K := 6840691) (by decide) rfl h104)]
                      refine pw_sipush (v := 440) dX12_word_107 (by decide) ?_
                      refine pw_iret dX12_word_110 rfl rfl ?_
                      exact ⟨rfl, rfl⟩
                  · rw [if_pos (y (K := 6383461) (by decide) rfl h92)]
                    refine pw_sipush (v := 430) dX12_word_95 (by decide) ?_
                    refine pw_iret dX12_word_98 rfl rfl ?_
                    exact ⟨rfl, rfl⟩
                · rw [if_pos (y (K := 1953459813) (by decide) rfl h80)]
                  refine pw_sipush (v := 420) dX12_word_83 (by decide) ?_
                  refine pw_iret dX12_word_86 rfl rfl ?_
                  exact ⟨rfl, rfl⟩
              · rw [if_pos (y (K := 1918987883) (by decide) rfl h68)]
                refine pw_sipush (v := 410) dX12_word_71 (by decide) ?_
                refine pw_iret dX12_word_74 rfl rfl ?_
                exact ⟨rfl, rfl⟩
            · rw [if_pos (y (K := 113753910899827) (by decide) rfl h57)]
              refine pw_bipush (v := 8) dX12_word_60 (by decide) ?_
              refine pw_iret dX12_word_62 rfl rfl ?_
              exact ⟨rfl, rfl⟩
          · rw [if_pos (y (K := 126879263846254) (by decide) rfl h46)]
            refine pw_bipush (v := 7) dX12_word_49 (by decide) ?_
            refine pw_iret dX12_word_51 rfl rfl ?_
            exact ⟨rfl, rfl⟩
        · rw [if_pos (y (K := 7237492) (by decide) rfl h35)]
          refine pw_bipush (v := 6) dX12_word_38 (by decide) ?_
          refine pw_iret dX12_word_40 rfl rfl ?_
          exact ⟨rfl, rfl⟩
      · rw [if_pos (y (K := 6385252) (by decide) rfl h25)]
        refine pw_iconst (v := 5) dX12_word_28 (by decide) ?_
        refine pw_iret dX12_word_29 rfl rfl ?_
        exact ⟨rfl, rfl⟩
    · rw [if_pos (y (K := 28530) (by decide) rfl h15)]
      refine pw_iconst (v := 4) dX12_word_18 (by decide) ?_
      refine pw_iret dX12_word_19 rfl rfl ?_
      exact ⟨rfl, rfl⟩
  · rw [if_pos (y (K := 6447474) (by decide) rfl h5)]
    refine pw_iconst (v := 3) dX12_word_8 (by decide) ?_
    refine pw_iret dX12_word_9 rfl rfl ?_
    exact ⟨rfl, rfl⟩
