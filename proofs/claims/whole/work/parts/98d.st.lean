/-! ===== what holds between the calls ===== -/
def JJ (Ls : Nat) (xs : Nat → Int32) (σ : pm_S) : Prop := pm_fix σ ∧ fr5 (pm_s0 Ls xs) σ ∧ ∃ (n e m L : Nat) (rs : List (List stp)) (a r : Nat), J1 σ n e ∧ J2 σ n m ∧ J3 σ L ∧ J4 σ rs a r
theorem jd_b1 : ∀ k, k < 90 → pm_b1.getD k 0 = nI (tblN.getD k 0) := by decide +kernel
theorem jd_b2 : ∀ k, k < 6 → pm_b2.getD k 0 = nI (sgnN.getD k 0) := by decide +kernel
theorem jdC_0 (L : Nat) (xs : Nat → Int32) : jdC (pm_s0 L xs) := by
  refine ⟨⟨Or.inl rfl, ⟨by decide, by show 2 < 6; decide, rfl⟩, rfl, rfl, ⟨by decide, by show 4 < 6; decide, rfl⟩, rfl, by decide⟩, ⟨Or.inr rfl, ⟨by decide, by show 3 < 6; decide, rfl⟩, rfl, rfl, ⟨by decide, by show 5 < 6; decide, rfl⟩, rfl, by decide⟩, fun k hk => ?_, fun k hk => ?_⟩
  · exact jd_b1 k hk
  · exact jd_b2 k hk
section JJS
variable {Ls : Nat} {xs : Nat → Int32} {σ : pm_S}
theorem pS_of {al v : _} {MC MR : pm_M} {av : List Value} {P : pm_S → Prop} {σ1 τ : pm_S} (h1 : PE 10 al MC (.ref 6 :: av) σ (some (.int v)) σ1) (h2 : PE 10 0 MR (.ref 43 :: av) σ1 (some (.int v)) τ) (hal : al ≤ 2) (hm : fr5 σ σ1) (hP : P τ) : pS 2 MC MR av σ P := by
  refine PW.post ?_ (PE.mono (d' := 100) (al' := 2) h1 (by decide) hal)
  rintro r ρ ⟨rfl, rfl⟩
  refine ⟨v, rfl, hm, PW.post ?_ (PE.mono (d' := 100) (al' := 0) h2 (by decide) (Nat.le_refl _))⟩
  rintro r ρ ⟨rfl, rfl⟩
  exact ⟨rfl, hP⟩
theorem pS_up {MC MR : pm_M} {av : List Value} {P P' : pm_S → Prop} (h : pS 0 MC MR av σ P) (hP : ∀ τ, P τ → P' τ) : pS 2 MC MR av σ P' := by
  refine PW.mono (Nat.zero_le 2) (PW.post ?_ h)
  rintro r ρ ⟨x, h1, h2, h3⟩
  refine ⟨x, h1, h2, PW.post ?_ h3⟩
  rintro r' τ ⟨h4, h5⟩
  exact ⟨h4, hP τ h5⟩
theorem JJ.kp {τ : pm_S} (h : JJ Ls xs σ) (hk : kpX σ τ) : JJ Ls xs τ := by
  obtain ⟨hS, hf, n, e, m, L, rs, a, r, h1, h2, h3, h4⟩ := h
  exact ⟨hk.fix hS, hf.tr hk.f5, n, e, m, L, rs, a, r, hk.j1 hS h1, hk.j2 h2, hk.j3 h3, hk.j4 h4⟩
/-- an act more -/
theorem JJ.out {τ : pm_S} {n e m L a r : Nat} {rs : List (List stp)} (hS : pm_fix σ) (hf : fr5 (pm_s0 Ls xs) σ) (h1 : J1 σ n e) (h2 : J2 σ n m) (h3 : J3 σ L) (h4 : J4 σ rs a r) (ho : j_out σ τ n e) : JJ Ls xs τ := by
  rcases ho with rfl | ⟨j, kind, house, hj, he, hok, hs⟩
  · exact ⟨hS, hf, n, e, m, L, rs, a, r, h1, h2, h3, h4⟩
  · obtain ⟨k1, k2⟩ := J1_push h1 hS hj he hok hs
    obtain ⟨⟨s1, s2, s3⟩, s4, -, ⟨r1, -⟩, ⟨f1, -, -⟩, -⟩ := hs
    have h68 := hS.1
    have hA := (h1.1.at hj).2.1
    have fI : ∀ b k, b < 68 → ¬ (51 ≤ b ∧ b ≤ 55) → ¬ (b = 6 ∧ k = 1) → ¬ (b = 43 ∧ k = 2) → qI τ b k = qI σ b k := fun b k a1 a2 a3 a4 => f1 b k a1 (by omega) (by omega) (by omega) (by omega) (by omega) a3 a4
    refine ⟨k2, hf.tr ⟨⟨by omega, fun b hb => (s2 b hb).1⟩, fun b hb => ⟨(s2 b (by omega)).2, fun k => ⟨fI b k (by omega) (by omega) (by omega) (by omega), r1 b k (by omega) (by omega)⟩⟩⟩, n, e + 1, m, L, rs, a, r, k1, ?_, ?_, ?_⟩
    · exact J2_fr h2 (Nat.le_refl n) (fun b k x => fI b k (by omega) (by omega) (by omega) (by omega)) (fun t _ => by unfold kd; rw [fI 44 t (by omega) (by omega) (by omega) (by omega)])
    · exact ⟨h3.1, (fI 17 1 (by omega) (by omega) (by omega) (by omega)).trans h3.2.1, (fI 43 30 (by omega) (by omega) (by omega) (by omega)).trans h3.2.2.1, fun k hk => by rw [fI 18 k (by omega) (by omega) (by omega) (by omega), fI 66 k (by omega) (by omega) (by omega) (by omega)]; exact h3.2.2.2 k hk⟩
    · exact J4_fr h4 (fun b k x => fI b k (by omega) (by omega) (by omega) (by omega)) ⟨r1 6 6 (by omega) (by omega), r1 6 7 (by omega) (by omega)⟩
/-- a thing more -/
theorem JJ.nout {τ : pm_S} {n e m L a r : Nat} {rs : List (List stp)} (hS : pm_fix σ) (hf : fr5 (pm_s0 Ls xs) σ) (h1 : J1 σ n e) (h2 : J2 σ n m) (h3 : J3 σ L) (h4 : J4 σ rs a r) (ho : j_nout σ τ n) : JJ Ls xs τ := by
  rcases ho with rfl | ⟨A, B, kind, rank, tone, seasons, house, cp, root, hn, c1, c2, c3, c4, hs⟩
  · exact ⟨hS, hf, n, e, m, L, rs, a, r, h1, h2, h3, h4⟩
  · obtain ⟨k1, k2⟩ := J1_new h1 hS hn c1 c2 c3 c4 hs
    obtain ⟨-, ⟨s1, s2, -, -⟩, -, -, -, ⟨r1, -⟩, ⟨f1, -, -⟩, kk1, -⟩ := hs
    have h68 := hS.1
    refine ⟨k2, hf.tr ⟨⟨by omega, fun b hb => (s2 b hb).1⟩, fun b hb => ⟨(s2 b (by omega)).2, fun k => ⟨f1 b k (by omega) (by omega) (by omega) (by omega), r1 b k (by omega) (by omega)⟩⟩⟩, n + 1, e, m, L, rs, a, r, k1, ?_, ?_, ?_⟩
    · exact J2_fr h2 (Nat.le_succ n) (fun b k x => f1 b k (by omega) (by omega) (by omega) (by omega)) (fun t ht => by unfold kd; rw [kk1 44 t (by omega) (by omega) (by omega)])
    · exact ⟨h3.1, (f1 17 1 (by omega) (by omega) (by omega) (by omega)).trans h3.2.1, (f1 43 30 (by omega) (by omega) (by omega) (by omega)).trans h3.2.2.1, fun k hk => by rw [f1 18 k (by omega) (by omega) (by omega) (by omega), f1 66 k (by omega) (by omega) (by omega) (by omega)]; exact h3.2.2.2 k hk⟩
    · exact J4_fr h4 (fun b k x => f1 b k (by omega) (by omega) (by omega) (by omega)) ⟨r1 6 6 (by omega) (by omega), r1 6 7 (by omega) (by omega)⟩
theorem q_thing (h : JJ Ls xs σ) (x1 x2 x3 x4 x5 : Int32) : pS 2 MX11_thing MX12_thing [.int x1, .int x2, .int x3, .int x4, .int x5] σ (JJ Ls xs) := by
  obtain ⟨hS, hf, n, e, m, L, rs, a, r, h1, h2, h3, h4⟩ := h
  obtain ⟨v, σ1, τ, p1, p2, p3, p4⟩ := p_thing h1 hS x1 x2 x3 x4 x5
  exact pS_of p1 p2 (by decide) p4 (JJ.nout hS hf h1 h2 h3 h4 p3)
theorem q_copy (h : JJ Ls xs σ) (x1 x2 x3 : Int32) : pS 2 MX11_copy MX12_copy [.int x1, .int x2, .int x3] σ (JJ Ls xs) := by
  obtain ⟨hS, hf, n, e, m, L, rs, a, r, h1, h2, h3, h4⟩ := h
  obtain ⟨v, σ1, τ, p1, p2, p3, p4⟩ := p_copy h1 hS x1 x2 x3
  exact pS_of p1 p2 (by decide) p4 (JJ.nout hS hf h1 h2 h3 h4 p3)
theorem q_pass (h : JJ Ls xs σ) (x1 x2 : Int32) : pS 2 MX11_pass MX12_pass [.int x1, .int x2] σ (JJ Ls xs) := by
  obtain ⟨hS, hf, n, e, m, L, rs, a, r, h1, h2, h3, h4⟩ := h
  obtain ⟨v, σ1, τ, p1, p2, p3, p4⟩ := p_pass h1 hS x1 x2
  exact pS_of p1 p2 (by decide) p4 (JJ.out hS hf h1 h2 h3 h4 p3)
theorem q_lend (h : JJ Ls xs σ) (x1 x2 : Int32) : pS 2 MX11_lend MX12_lend [.int x1, .int x2] σ (JJ Ls xs) := by
  obtain ⟨hS, hf, n, e, m, L, rs, a, r, h1, h2, h3, h4⟩ := h
  obtain ⟨v, σ1, τ, p1, p2, p3, p4⟩ := p_lend h1 hS x1 x2
  exact pS_of p1 p2 (by decide) p4 (JJ.out hS hf h1 h2 h3 h4 p3)
theorem q_back (h : JJ Ls xs σ) (x1 : Int32) : pS 2 MX11_back MX12_back [.int x1] σ (JJ Ls xs) := by
  obtain ⟨hS, hf, n, e, m, L, rs, a, r, h1, h2, h3, h4⟩ := h
  obtain ⟨v, σ1, τ, p1, p2, p3, p4⟩ := p_back h1 hS x1
  exact pS_of p1 p2 (by decide) p4 (JJ.out hS hf h1 h2 h3 h4 p3)
theorem q_burn (h : JJ Ls xs σ) (x1 : Int32) : pS 2 MX11_burn MX12_burn [.int x1] σ (JJ Ls xs) := by
  obtain ⟨hS, hf, n, e, m, L, rs, a, r, h1, h2, h3, h4⟩ := h
  obtain ⟨v, σ1, τ, p1, p2, p3, p4⟩ := p_burn h1 hS x1
  exact pS_of p1 p2 (by decide) p4 (JJ.out hS hf h1 h2 h3 h4 p3)
theorem q_days (h : JJ Ls xs σ) (x1 : Int32) : pS 2 MX11_days MX12_days [.int x1] σ (JJ Ls xs) := by
  obtain ⟨hS, hf, n, e, m, L, rs, a, r, h1, h2, h3, h4⟩ := h
  obtain ⟨v, σ1, τ, p1, p2, p3, p4⟩ := p_days h1 hS x1
  refine pS_of p1 p2 (by decide) p4 ?_
  rcases p3 with rfl | ⟨⟨y, rfl⟩, k1⟩
  · exact ⟨hS, hf, n, e, m, L, rs, a, r, h1, h2, h3, h4⟩
  · have fI : ∀ b k, ¬ (b = 6 ∧ k = 0) → ¬ (b = 43 ∧ k = 0) → qI (pm_sI (pm_sI σ 6 0 y) 43 0 y) b k = qI σ b k := fun b k a1 a2 => by rw [qI_sI_ne a2, qI_sI_ne a1]
    refine ⟨hS.sI.sI, hf.tr ((fr5_sI (by decide)).tr (fr5_sI (by decide))), n, e, m, L, rs, a, r, k1, ?_, ?_, ?_⟩
    · exact J2_fr h2 (Nat.le_refl n) (fun b k x => fI b k (by omega) (by omega)) (fun t _ => by unfold kd; rw [fI 44 t (by omega) (by omega)])
    · exact ⟨h3.1, (fI 17 1 (by omega) (by omega)).trans h3.2.1, (fI 43 30 (by omega) (by omega)).trans h3.2.2.1, fun k hk => by rw [fI 18 k (by omega) (by omega), fI 66 k (by omega) (by omega)]; exact h3.2.2.2 k hk⟩
    · exact J4_fr h4 (fun b k x => fI b k (by omega) (by omega)) ⟨rfl, rfl⟩
theorem q_look (h : JJ Ls xs σ) (x1 : Int32) : pS 2 MX11_look MX12_look [.int x1] σ (JJ Ls xs) := by
  obtain ⟨hS, hf, n, e, m, L, rs, a, r, h1, h2, h3, h4⟩ := id h
  have ha : a = 19 ∨ a = 24 := by have := h4.1; omega
  obtain ⟨v, p1, p2⟩ := p_look h1 hS (by rw [h4.2.1.1]; exact (rl_f hS ha).1) (by rw [h2.2.1, h2.2.2.1]) (by rw [h4.2.1.1, h4.2.2.1.2.1, h4.2.2.2.2.1.1]) x1
  exact pS_of p1 p2 (by decide) fr5.rfl' h
theorem q_of (h : JJ Ls xs σ) (x1 x2 : Int32) : pS 2 MX11_of MX12_of [.int x1, .int x2] σ (JJ Ls xs) := by
  obtain ⟨hS, hf, n, e, m, L, rs, a, r, h1, h2, h3, h4⟩ := id h
  obtain ⟨v, p1, p2⟩ := p_of h1 hS x1 x2
  exact pS_of p1 p2 (by decide) fr5.rfl' h
theorem q_held (h : JJ Ls xs σ) (x1 x2 x3 : Int32) : pS 2 MX11_held MX12_held [.int x1, .int x2, .int x3] σ (JJ Ls xs) := by
  obtain ⟨hS, hf, n, e, m, L, rs, a, r, h1, h2, h3, h4⟩ := id h
  obtain ⟨v, p1, p2⟩ := p_held h1 hS x1 x2 x3
  exact pS_of p1 p2 (by decide) fr5.rfl' h
theorem q_owners (h : JJ Ls xs σ) (x1 x2 : Int32) : pS 2 MX11_owners MX12_owners [.int x1, .int x2] σ (JJ Ls xs) := by
  obtain ⟨hS, hf, n, e, m, L, rs, a, r, h1, h2, h3, h4⟩ := id h
  obtain ⟨v, p1, p2⟩ := p_owners h1 hS x1 x2
  exact pS_of p1 p2 (by decide) fr5.rfl' h
theorem q_gather (h : JJ Ls xs σ) (x1 x2 x3 x4 : Int32) : pS 2 MX11_gather MX12_gather [.int x1, .int x2, .int x3, .int x4] σ (JJ Ls xs) := by
  obtain ⟨hS, hf, n, e, m, L, rs, a, r, h1, h2, h3, h4⟩ := id h
  obtain ⟨v, σ1, τ, p1, p2, k1, ⟨m', k2⟩, k3, k4, k5, k6⟩ := p_gather h1 h2 hS x1 x2 x3 x4
  exact pS_of p1 p2 (by decide) k6 ⟨k3, hf.tr k5, n, e, m', L, rs, a, r, k1, k2, J3_fr h3 k4, J4_fr h4 (fun b j x => k4.1 b j (by omega)) k4.2⟩
theorem q_gathering (h : JJ Ls xs σ) (x1 x2 : Int32) : pS 2 MX11_gathering MX12_gathering [.int x1, .int x2] σ (JJ Ls xs) := by
  obtain ⟨hS, hf, n, e, m, L, rs, a, r, h1, h2, h3, h4⟩ := id h
  obtain ⟨v, p1, p2⟩ := p_gathering h2 hS x1 x2
  exact pS_of p1 p2 (by decide) fr5.rfl' h
theorem q_seen (h : JJ Ls xs σ) (x1 x2 x3 : Int32) : pS 2 MX11_seen MX12_seen [.int x1, .int x2, .int x3] σ (JJ Ls xs) := by
  obtain ⟨hS, hf, n, e, m, L, rs, a, r, h1, h2, h3, h4⟩ := id h
  obtain ⟨v, p1, p2⟩ := p_seen h1 h2 hS x1 x2 x3
  exact pS_of p1 p2 (by decide) fr5.rfl' h
theorem q_again (h : JJ Ls xs σ) (x1 x2 : Int32) : pS 2 MX11_again MX12_again [.int x1, .int x2] σ (JJ Ls xs) := by
  obtain ⟨hS, hf, n, e, m, L, rs, a, r, h1, h2, h3, h4⟩ := id h
  obtain ⟨v, τ, p1, p2, p3⟩ := p_again h1 h2 hS x1 x2
  have hk : kpX σ τ := by
    rcases p3 with rfl | ⟨T, rfl⟩
    · exact kpX.rfl'
    · exact kpX.ts (Or.inl rfl)
  exact pS_of p1 p2 (by decide) hk.f5 (h.kp hk)
theorem q_feed (h : JJ Ls xs σ) (x1 x2 x3 x4 x5 : Int32) : pS 2 MX11_feed MX12_feed [.int x1, .int x2, .int x3, .int x4, .int x5] σ (JJ Ls xs) := by
  obtain ⟨hS, hf, n, e, m, L, rs, a, r, h1, h2, h3, h4⟩ := id h
  obtain ⟨v, σ1, τ, L', p1, p2, k3, kS, ⟨t1, t2, t3, t4, t5⟩, k6⟩ := p_feed h3 hS x1 x2 x3 x4 x5
  refine pS_of p1 p2 (by decide) k6 ⟨kS, hf.tr ⟨⟨Nat.le_of_eq t5.symm, fun b _ => by rw [t3]⟩, fun b hb => ⟨by rw [t4], fun j => ⟨t1 b j (by omega) (by omega) (by omega) (by omega), by rw [t2]⟩⟩⟩, n, e, m, L', rs, a, r, ?_, ?_, k3, ?_⟩
  · refine J1_fr h1 hS ⟨fun b k x _ => t1 b k (by omega) (by omega) (by omega) (by omega), fun b k x y => t1 b k (by omega) (by omega) (by omega) (by omega), ⟨t1 7 1 (by omega) (by omega) (by omega) (by omega), t1 43 1 (by omega) (by omega) (by omega) (by omega), t1 43 2 (by omega) (by omega) (by omega) (by omega), t1 6 1 (by omega) (by omega) (by omega) (by omega)⟩, fun b k x _ => by rw [t2], fun b _ => by rw [t3], t5⟩ ?_ ?_ ?_
    · rw [t1 43 0 (by omega) (by omega) (by omega) (by omega)]; exact h1.2.2.2.2.2.2.1
    · rw [t1 43 0 (by omega) (by omega) (by omega) (by omega)]; exact Int32.le_refl _
    · rw [t1 43 0 (by omega) (by omega) (by omega) (by omega), t1 6 0 (by omega) (by omega) (by omega) (by omega)]; exact h1.2.2.2.2.2.1
  · exact J2_fr h2 (Nat.le_refl n) (fun b k x => t1 b k (by omega) (by omega) (by omega) (by omega)) (fun t _ => by unfold kd; rw [t1 44 t (by omega) (by omega) (by omega) (by omega)])
  · exact J4_fr h4 (fun b k x => t1 b k (by omega) (by omega) (by omega) (by omega)) ⟨by rw [t2], by rw [t2]⟩
theorem q_end (h : JJ Ls xs σ) (x1 : Int32) : pS 2 MX11_end MX12_end [.int x1] σ (JJ Ls xs) := by
  obtain ⟨hS, hf, n, e, m, L, rs, a, r, h1, h2, h3, h4⟩ := id h
  obtain ⟨v, σ1, τ, L', p1, p2, k3, kS, p3, k6⟩ := p_end h3 hS x1
  refine pS_of p1 p2 (by decide) k6 ?_
  rcases p3 with rfl | ⟨y, rfl⟩
  · exact h
  · have t1 : ∀ b k, ¬ (b = 17 ∧ k = 1) → ¬ (b = 43 ∧ k = 30) → qI (pm_sI (pm_sI σ 17 1 y) 43 30 y) b k = qI σ b k := fun b k a1 a2 => by rw [qI_sI_ne a2, qI_sI_ne a1]
    refine ⟨kS, hf.tr ((fr5_sI (by decide)).tr (fr5_sI (by decide))), n, e, m, L', rs, a, r, ?_, ?_, k3, ?_⟩
    · refine J1_fr h1 hS ⟨fun b k x _ => t1 b k (by omega) (by omega), fun b k x y => t1 b k (by omega) (by omega), ⟨t1 7 1 (by omega) (by omega), t1 43 1 (by omega) (by omega), t1 43 2 (by omega) (by omega), t1 6 1 (by omega) (by omega)⟩, fun b k x _ => rfl, fun b _ => rfl, rfl⟩ ?_ ?_ ?_
      · rw [t1 43 0 (by omega) (by omega)]; exact h1.2.2.2.2.2.2.1
      · rw [t1 43 0 (by omega) (by omega)]; exact Int32.le_refl _
      · rw [t1 43 0 (by omega) (by omega), t1 6 0 (by omega) (by omega)]; exact h1.2.2.2.2.2.1
    · exact J2_fr h2 (Nat.le_refl n) (fun b k x => t1 b k (by omega) (by omega)) (fun t _ => by unfold kd; rw [t1 44 t (by omega) (by omega)])
    · exact J4_fr h4 (fun b k x => t1 b k (by omega) (by omega)) ⟨rfl, rfl⟩
theorem q_rules (h : JJ Ls xs σ) : pS 2 MX11_rules MX12_rules [] σ (JJ Ls xs) := by
  obtain ⟨hS, hf, n, e, m, L, rs, a, r, h1, h2, h3, h4⟩ := id h
  refine pS_up (p_rules hS h1 h2 h3 h4 (jdC_fr hf (jdC_0 Ls xs))) ?_
  rintro τ ⟨k1, k2, k3, k4, ⟨rs', a', r', k5⟩, k6⟩
  exact ⟨k1, hf.tr k6, n, e, m, 0, rs', a', r', k2, k3, k4, k5⟩
theorem q_fault (h : JJ Ls xs σ) (x1 : Int32) : pS 2 MX11_fault MX12_fault [.int x1] σ (JJ Ls xs) := by
  obtain ⟨hS, hf, n, e, m, L, rs, a, r, h1, h2, h3, h4⟩ := id h
  obtain ⟨v, p1, p2⟩ := p_fault hS h4.2.2.2.2.2.1 h4.2.2.2.2.2.2 x1
  exact pS_of p1 p2 (by decide) fr5.rfl' h
theorem q_barred (h : JJ Ls xs σ) (x1 x2 x3 : Int32) : pS 2 MX11_barred MX12_barred [.int x1, .int x2, .int x3] σ (JJ Ls xs) := by
  obtain ⟨hS, hf, n, e, m, L, rs, a, r, h1, h2, h3, h4⟩ := id h
  exact pS_up (p_barred hS h1 h4 x1 x2 x3) (fun τ hk => h.kp hk)
theorem q_best (h : JJ Ls xs σ) (x1 x2 x3 x4 x5 : Int32) : pS 2 MX11_best MX12_best [.int x1, .int x2, .int x3, .int x4, .int x5] σ (JJ Ls xs) := by
  obtain ⟨hS, hf, n, e, m, L, rs, a, r, h1, h2, h3, h4⟩ := id h
  exact pS_up (p_best ⟨hS, h1, h2, h4⟩ x1 x2 x3 x4 x5) (fun τ hk => h.kp hk)
end JJS
/-! at the start -/
theorem RR_ok : ∀ q ∈ pm_fin, ¬ q.1 < 6 ∧ lk3 c_RR q.1 q.2.1 = q.2.2 := by decide
theorem RI_no {b j : Nat} (h : b ≠ 6) (h2 : b ≠ 29) (h3 : b ≠ 43) : lkI c_RI b j = 0 := lkI_no (by
  rw [List.all_eq_true]
  intro q hq
  have : q.1 = 6 ∨ q.1 = 29 ∨ q.1 = 43 := by
    have hall : ∀ q ∈ c_RI, q.1 = 6 ∨ q.1 = 29 ∨ q.1 = 43 := by decide
    exact hall q hq
  simp only [Bool.not_eq_true', beq_eq_false_iff_ne]
  omega) j
theorem JJ_0 (Ls : Nat) (xs : Nat → Int32) : JJ Ls xs (mkS Ls xs 68 20 60 c_RR c_RI) := by
  have hI : ∀ b j, 6 ≤ b → b ≠ 6 → b ≠ 29 → b ≠ 43 → qI (mkS Ls xs 68 20 60 c_RR c_RI) b j = 0 := fun b j h6 a1 a2 a3 => by
    show (if b < 6 then _ else lkI c_RI b j) = 0
    rw [if_neg (by omega), RI_no a1 a2 a3]
  refine ⟨⟨Nat.le_refl _, fun a h6 h68 => ⟨?_, ?_⟩, fun q hq => ?_⟩, ⟨⟨by show 6 ≤ 68; decide, fun b hb => ?_⟩, fun b hb => ⟨?_, fun j => ⟨?_, ?_⟩⟩⟩, 0, 0, 0, 0, [], 19, 24, ?_, ?_, ?_, ?_⟩
  · show (if a < 6 then _ else if a < 68 then pm_tg a else 20) = pm_tg a
    rw [if_neg (by omega), if_pos h68]
  · show (if a < 6 then _ else if a < 68 then pm_ln a else 60) = pm_ln a
    rw [if_neg (by omega), if_pos h68]
  · obtain ⟨h1, h2⟩ := RR_ok q hq
    show (if q.1 < 6 then _ else lk3 c_RR q.1 q.2.1) = q.2.2
    rw [if_neg h1]; exact h2
  · exact if_pos (show b < 6 from hb)
  · exact if_pos (by omega)
  · exact if_pos (by omega)
  · exact if_pos (by omega)
  · exact ⟨⟨mk_I rfl rfl, by omega, fun t ht => absurd ht (Nat.not_lt_zero t)⟩, mk_I rfl rfl, mk_I rfl rfl, by omega, mk_I rfl rfl, (mk_I (v := 0) rfl rfl).trans (mk_I (v := 0) rfl rfl).symm, ⟨0, by omega, mk_I rfl rfl⟩, ⟨fun i j _ h => absurd h (Nat.not_lt_zero j), fun i h => absurd h (Nat.not_lt_zero i), fun i h => absurd h (Nat.not_lt_zero i), fun t h => absurd h (Nat.not_lt_zero t)⟩, fun j h => absurd h (Nat.not_lt_zero j), fun t h => absurd h (Nat.not_lt_zero t)⟩
  · exact ⟨by omega, mk_I rfl rfl, mk_I rfl rfl, fun i h => absurd h (Nat.not_lt_zero i), fun a b _ _ => hI 16 _ (by decide) (by decide) (by decide) (by decide)⟩
  · exact ⟨by omega, mk_I rfl rfl, mk_I rfl rfl, fun i h => absurd h (Nat.not_lt_zero i)⟩
  · refine ⟨Or.inl ⟨rfl, rfl⟩, ⟨mk_R rfl rfl, mk_R rfl rfl⟩, ⟨⟨mk_I rfl rfl, fun m h => absurd h (Nat.not_lt_zero m)⟩, mk_I rfl rfl, fun m h => absurd h (Nat.not_lt_zero m)⟩, ⟨Nat.zero_le _, fun s hs => nomatch hs⟩, ⟨mk_I rfl rfl, fun m hm => ?_, fun m h => absurd h (Nat.not_lt_zero m), Nat.zero_le _, Nat.zero_le _⟩, (mk_I (v := 0) rfl rfl).trans (mk_I (v := 0) rfl rfl).symm, (mk_I (v := -1) rfl rfl).trans (mk_I (v := -1) rfl rfl).symm⟩
    have : m = 0 := by have : m ≤ 0 := hm; omega
    subst this
    exact mk_I rfl rfl
