/-! ===== rules and barred: on both sides ===== -/
section RUA
variable {t v st : Nat → Nat}
theorem pR_c (h : tkP t st) : ∀ (f i : Nat) (rs r' : List (List stp)), 2 * rs.flatten.length ≤ st i → pR t v f i rs = .ok r' → ∃ j, 2 * r'.flatten.length ≤ st j
  | 0, i, rs, r', h0, hR => by
    by_cases z : t i = 22
    · rw [pR_z z] at hR
      injection hR with hR
      rw [← hR]; exact ⟨i, h0⟩
    · by_cases z0 : t i = 0
      · rw [pR_m z0] at hR; exact nomatch hR
      · rw [pR_b z z0] at hR; exact nomatch hR
  | f + 1, i, rs, r', h0, hR => by
    by_cases z : t i = 22
    · rw [pR_z z] at hR
      injection hR with hR
      rw [← hR]; exact ⟨i, h0⟩
    · by_cases z0 : t i = 0
      · cases h1 : pA t v 8 (i + 1) with
        | error e => rw [pR_e z0 h1] at hR; exact nomatch hR
        | ok p =>
          obtain ⟨j, s1⟩ := p
          by_cases y : t j = 15
          · rw [pR_o z0 h1 y] at hR
            obtain ⟨c1, c2, -⟩ := pA_c h (v := v) 8 (i + 1) j s1 h1
            have c4 := h.1 i (by omega)
            have c5 := h.1 j (by omega)
            refine pR_c h f (j + 1) (rs ++ [s1]) r' ?_ hR
            have : (rs ++ [s1]).flatten.length = rs.flatten.length + s1.length := by
              rw [List.flatten_append, List.length_append]; simp
            omega
          · rw [pR_n z0 h1 y] at hR; exact nomatch hR
      · rw [pR_b z z0] at hR; exact nomatch hR
end RUA
/-! the facts count below 22 alone -/
theorem fv_cg {R R' : Nat → Int32} (h : ∀ k, k < 22 → R k = R' k) {x : Nat} (hx : x < 10022) : fv R x = fv R' x := by
  unfold fv
  by_cases z : 10000 ≤ x
  · rw [if_pos z, if_pos z, h _ (by omega)]
  · rw [if_neg z, if_neg z]
theorem cmF_cg {R R' : Nat → Int32} (h : ∀ k, k < 22 → R k = R' k) {o l x : Nat} (hl : l < 10022) (hx : x < 10022) : cmF R (o, l, x) = cmF R' (o, l, x) := by
  unfold cmF
  rw [fv_cg h hl, fv_cg h hx]
theorem ev_cg {R R' : Nat → Int32} {m : Nat} (h : ∀ k, k < 22 → R k = R' k) : ∀ (s : List stp) (K : List Bool), (∀ x ∈ s, wfs x) → ev m (cmF R) s K = ev m (cmF R') s K
  | [], _, _ => rfl
  | x :: s, K, hw => by
    have hwx := hw x List.mem_cons_self
    have hws : ∀ y ∈ s, wfs y := fun y hy => hw y (List.mem_cons_of_mem _ hy)
    have e : evS m (cmF R) x K = evS m (cmF R') x K := by
      obtain ⟨o, l, y⟩ := x
      rcases hwx with h1 | h1 | h1 | h1
      · have h1 : o = 1 := h1
        subst h1; rfl
      · have h1 : o = 2 := h1
        subst h1; rfl
      · have h1 : o = 3 := h1
        subst h1; rfl
      · unfold evS
        rw [cmF_cg h h1.2.2.1 h1.2.2.2]
    show (evS m (cmF R) x K).bind (ev m (cmF R) s) = (evS m (cmF R') x K).bind (ev m (cmF R') s)
    rw [e]
    cases evS m (cmF R') x K with
    | none => rfl
    | some K' => exact ev_cg h s K' hws
theorem fB_cg {R R' : Nat → Int32} (h : ∀ k, k < 22 → R k = R' k) : ∀ (rs : List (List stp)) (k : Nat), (∀ s ∈ rs, GE 30 s) → fB (cmF R) rs k = fB (cmF R') rs k
  | [], _, _ => rfl
  | s :: rs, k, hg => by
    have e : gB (cmF R) s = gB (cmF R') s := by
      unfold gB
      rw [ev_cg h s [] (hg s List.mem_cons_self).1]
    show (if gB (cmF R) s = true then nI k else fB (cmF R) rs (k + 1)) = (if gB (cmF R') s = true then nI k else fB (cmF R') rs (k + 1))
    rw [e, fB_cg h rs (k + 1) (fun y hy => hg y (List.mem_cons_of_mem _ hy))]
theorem rwF_cg {σ τ : pm_S} {T : Nat → Option Nat} {se g day : Int32} (h : ∀ b j, b = 45 ∨ b = 46 ∨ b = 48 → qI τ b j = qI σ b j) : rwF τ T se g day = rwF σ T se g day := by
  funext k
  unfold rwF
  cases T ((k - 2) % 5) with
  | none => rfl
  | some t =>
    show (if k = 0 then se else if k = 1 then nI (pcn g) else if k < 7 then qI τ 45 t else if k < 12 then qI τ 46 t else if k < 17 then day - qI τ 48 t else 1) = _
    rw [h 45 t (by omega), h 46 t (by omega), h 48 t (by omega)]
/-- the rules in force, side by side -/
def J4 (σ : pm_S) (rs : List (List stp)) (a r : Nat) : Prop := ((a = 19 ∧ r = 24) ∨ (a = 24 ∧ r = 19)) ∧ (qR σ 6 6 = a ∧ qR σ 6 7 = r) ∧ (stS σ a rs.flatten ∧ ruS σ a rs) ∧ (rs.flatten.length ≤ 300 ∧ ∀ s ∈ rs, GE 30 s) ∧ mrS σ rs ∧ qI σ 29 4 = qI σ 43 37 ∧ qI σ 29 5 = qI σ 43 39
theorem J4_fr {σ τ : pm_S} {rs : List (List stp)} {a r : Nat} (h : J4 σ rs a r) (hI : ∀ b j, (19 ≤ b ∧ b ≤ 29) ∨ b = 61 ∨ b = 62 ∨ (b = 43 ∧ (j = 21 ∨ j = 37 ∨ j = 39)) → qI τ b j = qI σ b j) (h6 : qR τ 6 6 = qR σ 6 6 ∧ qR τ 6 7 = qR σ 6 7) : J4 τ rs a r := by
  obtain ⟨h1, ⟨h2, h3⟩, ⟨⟨h4, h5⟩, h7, h8⟩, h9, h10, h11, h12⟩ := h
  refine ⟨h1, ⟨h6.1.trans h2, h6.2.trans h3⟩, ⟨⟨(hI a 4 (by omega)).trans h4, fun m hm => ?_⟩, (hI a 5 (by omega)).trans h7, fun m hm => (hI (a + 4) m (by omega)).trans (h8 m hm)⟩, h9, h10.of (fun b j hb => hI b j (by omega)), ?_, ?_⟩
  · rw [hI (a + 1) m (by omega), hI (a + 2) m (by omega), hI (a + 3) m (by omega)]; exact h5 m hm
  · rw [hI 29 4 (by omega), hI 43 37 (by omega)]; exact h11
  · rw [hI 29 5 (by omega), hI 43 39 (by omega)]; exact h12
theorem jdC_fr {σ τ : pm_S} (h : fr5 σ τ) (hj : jdC σ) : jdC τ := by
  obtain ⟨⟨hN, hT⟩, hf⟩ := h
  have hs : ∀ a b n, b ≤ 5 → sT σ a b n → sT τ a b n := fun a b n hb hs => by
    obtain ⟨s1, s2, s3, s4, s5, s6, s7⟩ := hs
    have ha : a ≤ 5 := by omega
    obtain ⟨t2, t3⟩ := hf a ha
    obtain ⟨u2, u3⟩ := hf b hb
    exact ⟨s1, ⟨s2.1, Nat.lt_of_lt_of_le s2.2.1 hN, (hT a s2.2.1).trans s2.2.2⟩, (t3 0).2.trans s3, (t3 1).1.trans s4, ⟨s5.1, Nat.lt_of_lt_of_le s5.2.1 hN, (hT b s5.2.1).trans s5.2.2⟩, u2.trans s6, s7⟩
  exact ⟨hs 2 4 90 (by decide) hj.1, hs 3 5 6 (by decide) hj.2.1, fun k hk => ((hf 4 (by decide)).2 k).1.trans (hj.2.2.1 k hk), fun k hk => ((hf 5 (by decide)).2 k).1.trans (hj.2.2.2 k hk)⟩
/-- both do the call, and answer alike -/
def pS (al : Nat) (MC MR : pm_M) (av : List Value) (σ : pm_S) (P : pm_S → Prop) : Prop := PM 100 al MC (.ref 6 :: av) σ (fun v τ1 => ∃ x, v = some (.int x) ∧ fr5 σ τ1 ∧ PM 100 0 MR (.ref 43 :: av) τ1 (fun v' τ => v' = some (.int x) ∧ P τ))
theorem fin_no : ∀ q ∈ pm_fin, ¬ (q.1 = 29 ∧ q.2.1 = 1) ∧ ¬ (q.1 = 6 ∧ (q.2.1 = 6 ∨ q.2.1 = 7)) ∧ ¬ (q.1 = 38 ∧ q.2.1 = 4) ∧ q.1 ≠ 35 ∧ q.1 ≠ 40 := by decide
theorem lt8_255 : lt8 255 := fun i h1 h2 => by rw [b_255]; exact decide_eq_false (by omega)
theorem p_rules {σ : pm_S} {n e m L a r : Nat} {rs : List (List stp)} (hS : pm_fix σ) (h1 : J1 σ n e) (h2 : J2 σ n m) (h3 : J3 σ L) (h4 : J4 σ rs a r) (hj : jdC σ) : pS 0 MX11_rules MX12_rules [] σ (fun τ => pm_fix τ ∧ J1 τ n e ∧ J2 τ n m ∧ J3 τ 0 ∧ (∃ rs a r, J4 τ rs a r) ∧ fr5 σ τ) := by
  obtain ⟨c, hc⟩ : ∃ c : Nat → Nat, c = fun p => (qI σ 18 p &&& 255).toNatClampNeg := ⟨_, rfl⟩
  have hcp : ∀ p, qI σ 18 p &&& 255 = nI (c p) ∧ c p < 256 := fun p => by
    obtain ⟨X, x1, x2⟩ := lt8_get (lt8_and (x := qI σ 18 p) lt8_255)
    have : c p = X := by rw [hc]; show (qI σ 18 p &&& 255).toNatClampNeg = X; rw [x2, nI_clamp (by omega)]
    rw [this]; exact ⟨x2, x1⟩
  have hT : tpH σ c L := ⟨h3.1, h3.2.1, fun p _ => hcp p⟩
  obtain ⟨k1, ⟨k2, k3⟩, ⟨⟨k4, k5⟩, k6, k7⟩, ⟨k8, k9⟩, k10, k11, k12⟩ := id h4
  have hr : r = 19 ∨ r = 24 := by omega
  have ha : a = 19 ∨ a = 24 := by omega
  have hv : ∀ i, tk c L i = 21 → vN c L i < 10000 := fun i hi => (vN_ok hi).2
  refine PW.post ?_ (t_rules (d := 100) (al := 0) (by decide) hS hT hj hr ha k2 k3)
  rintro v τ1 ⟨⟨w1, w2, w3⟩, w4, w5, w6, w7⟩
  -- behind the class's call
  have hS1 : pm_fix τ1 := by
    refine ⟨by rw [w3]; exact hS.1, fun b x y => by rw [w1, w2]; exact hS.2.1 b x y, fun q hq => ?_⟩
    obtain ⟨f1, f2, -⟩ := fin_no q hq
    rw [w4 _ _ f1 f2]; exact hS.2.2 q hq
  have hM : mT τ1 c L := ⟨h3.1, by rw [w5 43 30 (by omega) (by omega) (by omega)]; exact h3.2.2.1, fun p hp => by rw [w5 66 p (by omega) (by omega) (by omega), ← h3.2.2.2 p hp]; exact hcp p⟩
  -- the end, for both ways
  have hend : ∀ τ, τ.2 = τ1.2 → (∀ b j, ¬ (b = 43 ∧ 21 ≤ j ∧ j ≤ 39) → ¬ (61 ≤ b ∧ b ≤ 64) → qI τ b j = qI τ1 b j) → qI τ 43 30 = 0 → pm_fix τ ∧ J1 τ n e ∧ J2 τ n m ∧ J3 τ 0 ∧ fr5 σ τ := by
    intro τ y1 y2 y3
    have hT1 : qT τ = qT σ := by rw [← w1]; unfold qT; rw [y1]
    have hL1 : qL τ = qL σ := by rw [← w2]; unfold qL; rw [y1]
    have hN1 : qN τ = qN σ := by rw [← w3]; unfold qN; rw [y1]
    have hR1 : qR τ = qR τ1 := by unfold qR; rw [y1]
    have hI : ∀ b j, ¬ (29 ≤ b ∧ b ≤ 33) → ¬ (r ≤ b ∧ b ≤ r + 4) → ¬ (b = 17 ∧ j = 1) → ¬ (b = 43 ∧ 21 ≤ j ∧ j ≤ 39) → ¬ (61 ≤ b ∧ b ≤ 64) → qI τ b j = qI σ b j := fun b j a1 a2 a3 a4 a5 => (y2 b j a4 a5).trans (w5 b j a1 a2 a3)
    refine ⟨fix_of2 y1 hS1, ?_, ?_, ⟨by omega, ?_, y3, fun k hk => absurd hk (Nat.not_lt_zero k)⟩, ?_⟩
    · refine J1_fr h1 hS ⟨fun b k x _ => hI b k (by omega) (by omega) (by omega) (by omega) (by omega), fun b k x y => hI b k (by omega) (by omega) (by omega) (by omega) (by omega), ⟨hI 7 1 (by omega) (by omega) (by omega) (by omega) (by omega), hI 43 1 (by omega) (by omega) (by omega) (by omega) (by omega), hI 43 2 (by omega) (by omega) (by omega) (by omega) (by omega), hI 6 1 (by omega) (by omega) (by omega) (by omega) (by omega)⟩, fun b k x _ => by rw [hR1]; exact w4 b k (by omega) (by omega), fun b _ => by rw [hT1], hN1⟩ ?_ ?_ ?_
      · rw [hI 43 0 (by omega) (by omega) (by omega) (by omega) (by omega)]; exact h1.2.2.2.2.2.2.1
      · rw [hI 43 0 (by omega) (by omega) (by omega) (by omega) (by omega)]; exact Int32.le_refl _
      · rw [hI 43 0 (by omega) (by omega) (by omega) (by omega) (by omega), hI 6 0 (by omega) (by omega) (by omega) (by omega) (by omega)]; exact h1.2.2.2.2.2.1
    · refine J2_fr h2 (Nat.le_refl n) (fun b k x => hI b k (by omega) (by omega) (by omega) (by omega) (by omega)) (fun t _ => ?_)
      unfold kd
      rw [hI 44 t (by omega) (by omega) (by omega) (by omega) (by omega)]
    · rw [y2 17 1 (by omega) (by omega)]; exact w6
    · exact ⟨⟨Nat.le_of_eq hN1.symm, fun b _ => by rw [hT1]⟩, fun b hb => ⟨by rw [hL1], fun j => ⟨hI b j (by omega) (by omega) (by omega) (by omega) (by omega), by rw [hR1]; exact w4 b j (by omega) (by omega)⟩⟩⟩
  have hmid : fr5 σ τ1 := ⟨⟨Nat.le_of_eq w3.symm, fun b _ => by rw [w1]⟩, fun b hb => ⟨by rw [w2], fun j => ⟨w5 b j (by omega) (by omega) (by omega), w4 b j (by omega) (by omega)⟩⟩⟩
  have href := s_rules (d := 100) (al := 0) (by decide) hS1 hM
  cases hR : pR (tk c L) (vN c L) 12 0 [] with
  | error e =>
    rw [hR] at w7 href
    obtain ⟨x1, x2, x3, x4, x5⟩ : v = some (.int (-1)) ∧ qR τ1 6 6 = a ∧ qR τ1 6 7 = r ∧ qI τ1 29 4 = nI e.1 ∧ qI τ1 29 5 = nI (sn c L e.2) := w7
    refine ⟨-1, x1, hmid, PW.post ?_ href⟩
    rintro v' τ ⟨y1, y2, y3, y4, y5, y6, y7, y8, y9⟩
    obtain ⟨z1, z2, z3, z4, z5⟩ := hend τ y1 y2 y3
    have hRR : qR τ = qR τ1 := by unfold qR; rw [y1]
    refine ⟨y4, z1, z2, z3, z4, ⟨rs, a, r, k1, ⟨by rw [hRR]; exact x2, by rw [hRR]; exact x3⟩, ⟨⟨?_, fun m hm => ?_⟩, ?_, fun m hm => ?_⟩, ⟨k8, k9⟩, k10.of (fun b j hb => ?_), ?_, ?_⟩, z5⟩
    · rw [y2 a 4 (by omega) (by omega), w5 a 4 (by omega) (by omega) (by omega)]; exact k4
    · rw [y2 _ m (by omega) (by omega), w5 _ m (by omega) (by omega) (by omega), y2 (a + 2) m (by omega) (by omega), w5 (a + 2) m (by omega) (by omega) (by omega), y2 (a + 3) m (by omega) (by omega), w5 (a + 3) m (by omega) (by omega) (by omega)]; exact k5 m hm
    · rw [y2 a 5 (by omega) (by omega), w5 a 5 (by omega) (by omega) (by omega)]; exact k6
    · rw [y2 _ m (by omega) (by omega), w5 _ m (by omega) (by omega) (by omega)]; exact k7 m hm
    · rcases hb with rfl | rfl | ⟨rfl, rfl⟩
      · rw [y8 j]; exact w5 61 j (by omega) (by omega) (by omega)
      · rw [y9 j]; exact w5 62 j (by omega) (by omega) (by omega)
      · rw [y5]; exact w5 43 21 (by omega) (by omega) (by omega)
    · rw [y2 29 4 (by omega) (by omega), x4, y6]
    · rw [y2 29 5 (by omega) (by omega), x5, y7]
  | ok rs' =>
    rw [hR] at w7 href
    obtain ⟨x1, x2, x3, x4, x5, ⟨x6, x7⟩, x8, x9⟩ : v = some (.int (nI rs'.length)) ∧ qR τ1 6 6 = r ∧ qR τ1 6 7 = a ∧ qI τ1 29 4 = 0 ∧ qI τ1 29 5 = -1 ∧ stS τ1 r rs'.flatten ∧ ruS τ1 r rs' := w7
    refine ⟨_, x1, hmid, PW.post ?_ href⟩
    rintro v' τ ⟨y1, y2, y3, y4, y5, y6, y7, y8, y9, y10, y11⟩
    obtain ⟨z1, z2, z3, z4, z5⟩ := hend τ y1 y2 y3
    have hRR : qR τ = qR τ1 := by unfold qR; rw [y1]
    have hg := pR_w hv 12 0 [] rs' (fun s hs => nomatch hs) hR
    have hl : rs'.flatten.length ≤ 300 := by
      obtain ⟨j, hj⟩ := pR_c (tk_P c L) 12 0 [] rs' (Nat.zero_le _) hR
      have := sn_le c L j
      have := h3.1
      omega
    refine ⟨y4, z1, z2, z3, z4, ⟨rs', r, a, by omega, ⟨by rw [hRR]; exact x2, by rw [hRR]; exact x3⟩, ⟨⟨?_, fun m hm => ?_⟩, ?_, fun m hm => ?_⟩, ⟨hl, hg⟩, ⟨y5, y8, y9, y10, y11⟩, ?_, ?_⟩, z5⟩
    · rw [y2 r 4 (by omega) (by omega)]; exact x6
    · rw [y2 _ m (by omega) (by omega), y2 (r + 2) m (by omega) (by omega), y2 (r + 3) m (by omega) (by omega)]; exact x7 m hm
    · rw [y2 r 5 (by omega) (by omega)]; exact x8
    · rw [y2 _ m (by omega) (by omega)]; exact x9 m hm
    · rw [y2 29 4 (by omega) (by omega), x4, y6]
    · rw [y2 29 5 (by omega) (by omega), x5, y7]
