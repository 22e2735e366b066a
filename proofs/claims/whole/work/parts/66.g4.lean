/-! ===== gather: on both sides ===== -/
theorem c_put_f (ρ : pm_S) (m : Nat) (T : Nat → Option Nat) (house day season guests : Int32) :
    (∀ b k, ¬ (b = 9 ∧ k = 2) → ¬ (11 ≤ b ∧ b ≤ 16) → qI (c_put ρ m T house day season guests) b k = qI ρ b k) ∧
    (∀ b k, 11 ≤ b → b ≤ 15 → k ≠ m → qI (c_put ρ m T house day season guests) b k = qI ρ b k) ∧
    qI (c_put ρ m T house day season guests) 9 2 = nI m + 1 ∧
    (qI (c_put ρ m T house day season guests) 11 m = house ∧ qI (c_put ρ m T house day season guests) 12 m = day ∧ qI (c_put ρ m T house day season guests) 13 m = season ∧ qI (c_put ρ m T house day season guests) 14 m = guests ∧ qI (c_put ρ m T house day season guests) 15 m = tb T 5) ∧
    ∀ q, qI (c_put ρ m T house day season guests) 16 q = if q ∈ shI T 5 then qI ρ 16 q ||| guests else qI ρ 16 q := by
  have e : ∀ b k, ¬ (b = 9 ∧ k = 2) → b ≠ 16 → qI (c_put ρ m T house day season guests) b k = qI (c_row ρ m T house day season guests) b k := fun b k h1 h2 => by
    unfold c_put
    rw [qI_sI_ne h1, c_shw_ne h2]
  refine ⟨fun b k h1 h2 => ?_, fun b k h1 h2 h3 => ?_, ?_, ⟨?_, ?_, ?_, ?_, ?_⟩, fun q => ?_⟩
  · rw [e b k h1 (by omega)]
    unfold c_row
    rw [qI_sI_nc (by omega), qI_sI_nc (by omega), qI_sI_nc (by omega), qI_sI_nc (by omega), qI_sI_nc (by omega)]
  · rw [e b k (by omega) (by omega)]
    unfold c_row
    rw [qI_sI_ne (by omega), qI_sI_ne (by omega), qI_sI_ne (by omega), qI_sI_ne (by omega), qI_sI_ne (by omega)]
  · unfold c_put; rw [qI_sI_eq]
  · rw [e 11 m (by omega) (by omega)]; simp [c_row, qI, pm_sI]
  · rw [e 12 m (by omega) (by omega)]; simp [c_row, qI, pm_sI]
  · rw [e 13 m (by omega) (by omega)]; simp [c_row, qI, pm_sI]
  · rw [e 14 m (by omega) (by omega)]; simp [c_row, qI, pm_sI]
  · rw [e 15 m (by omega) (by omega)]; simp [c_row, qI, pm_sI]
  · unfold c_put
    rw [qI_sI_ne (by omega)]
    have h16 : qI (c_row ρ m T house day season guests) 16 q = qI ρ 16 q := by
      unfold c_row
      rw [qI_sI_nc (by omega), qI_sI_nc (by omega), qI_sI_nc (by omega), qI_sI_nc (by omega), qI_sI_nc (by omega)]
    show (if 16 = 16 ∧ q ∈ shI T 5 then qI (c_row ρ m T house day season guests) 16 q ||| guests else qI (c_row ρ m T house day season guests) 16 q) = _
    rw [h16]
    by_cases z : q ∈ shI T 5
    · rw [if_pos ⟨rfl, z⟩, if_pos z]
    · rw [if_neg (fun y => z y.2), if_neg z]
theorem m_gat_f (ρ : pm_S) (m : Nat) (house season guests set : Int32) :
    (∀ b k, ¬ (b = 43 ∧ k = 3) → ¬ (56 ≤ b ∧ b ≤ 60) → qI (m_gat ρ m house season guests set) b k = qI ρ b k) ∧
    (∀ b k, 56 ≤ b → b ≤ 60 → k ≠ m → qI (m_gat ρ m house season guests set) b k = qI ρ b k) ∧
    qI (m_gat ρ m house season guests set) 43 3 = qI ρ 43 3 + 1 ∧
    (qI (m_gat ρ m house season guests set) 56 m = house ∧ qI (m_gat ρ m house season guests set) 57 m = qI ρ 43 0 ∧ qI (m_gat ρ m house season guests set) 58 m = season ∧ qI (m_gat ρ m house season guests set) 59 m = guests ∧ qI (m_gat ρ m house season guests set) 60 m = set) := by
  refine ⟨fun b k h1 h2 => ?_, fun b k h1 h2 h3 => ?_, ?_, ?_⟩
  · unfold m_gat
    rw [qI_sI_nc (by omega), qI_sI_nc (by omega), qI_sI_nc (by omega), qI_sI_nc (by omega), qI_sI_nc (by omega), qI_sI_ne h1]
  · unfold m_gat
    rw [qI_sI_ne (by omega), qI_sI_ne (by omega), qI_sI_ne (by omega), qI_sI_ne (by omega), qI_sI_ne (by omega), qI_sI_ne (by omega)]
  · simp [m_gat, qI, pm_sI]
  · simp [m_gat, qI, pm_sI]
theorem sh_pair {K : Nat → Nat} {n : Nat} {set : Int32} {T : Nat → Option Nat} (hn : n ≤ 20) (hK : ∀ t, t < n → K t < 5) (hr : rep K n set T) (hb : ∀ s, n ≤ s → s < 32 → bt set s = false) {a b : Nat} (ha : a < 20) (hb2 : b < 20) : a * 20 + b ∈ shI T 5 ↔ bt set a = true ∧ bt set b = true ∧ K a < K b := by
  rw [shI_mem]
  constructor
  · rintro ⟨j, k, h1, h2, h3, h4⟩
    obtain ⟨a', b', t1, t2, t3⟩ := prf_get h4
    obtain ⟨x1, x2, x3⟩ := (hr j a').mp t1
    obtain ⟨y1, y2, y3⟩ := (hr k b').mp t2
    have ea : a = a' := by omega
    have eb : b = b' := by omega
    subst ea; subst eb
    exact ⟨x2, y2, by omega⟩
  · rintro ⟨h1, h2, h3⟩
    have han : a < n := by
      rcases Nat.lt_or_ge a n with q | q
      · exact q
      · rw [hb a q (by omega)] at h1; exact absurd h1 (by decide)
    have hbn : b < n := by
      rcases Nat.lt_or_ge b n with q | q
      · exact q
      · rw [hb b q (by omega)] at h2; exact absurd h2 (by decide)
    have := hK b hbn
    exact ⟨K a, K b, by omega, h3, this, prf_s ((hr _ _).mpr ⟨han, h1, rfl⟩) ((hr _ _).mpr ⟨hbn, h2, rfl⟩)⟩
theorem isSt_cg {σ τ : pm_S} {n : Nat} {set : Int32} (h : ∀ k, qI τ 44 k = qI σ 44 k) : isSt τ n set ↔ isSt σ n set := by
  have hsl : ∀ k t ks, m_sl τ set k t ks = m_sl σ set k t ks := by
    intro k
    induction k with
    | zero => exact fun _ _ => rfl
    | succ k ih =>
      intro t ks
      show (if sb set (nI t) = 0 then m_sl τ set k (t + 1) ks else if sb ks (qI τ 44 t) = 1 then false else m_sl τ set k (t + 1) (ks ||| sh1 (qI τ 44 t))) = _
      rw [ih, ih, h]
      rfl
  unfold isSt
  rw [hsl]
theorem m_ke_cg {σ τ : pm_S} {e j : Nat} {day : Int32} (h : ∀ b k, 50 ≤ b → b ≤ 55 → qI τ b k = qI σ b k) : m_ke τ e j day = m_ke σ e j day := by
  unfold m_ke
  rw [m_le_cg e (fun i _ => ⟨h 52 i (by decide) (by decide), h 53 i (by decide) (by decide), h 54 i (by decide) (by decide), h 55 i (by decide) (by decide)⟩), h 50 j (by decide) (by decide), m_ow_cg e (fun i _ => ⟨h 52 i (by decide) (by decide), h 53 i (by decide) (by decide), h 54 i (by decide) (by decide), h 55 i (by decide) (by decide)⟩)]
theorem m_gl_cg {σ τ : pm_S} {e : Nat} {house set : Int32} (h : ∀ b k, 50 ≤ b → b ≤ 55 → qI τ b k = qI σ b k) (h0 : qI τ 43 0 = qI σ 43 0) : ∀ k t, m_gl τ e house set k t = m_gl σ e house set k t
  | 0, _ => rfl
  | k + 1, t => by
    show (if sb set (nI t) = 1 then (if qI τ 51 t = -1 ∧ m_ke τ e t (qI τ 43 0) = house then m_gl τ e house set k (t + 1) else false) else m_gl τ e house set k (t + 1)) = _
    rw [m_gl_cg h h0 k (t + 1), m_ke_cg h, h0, h 51 t (by decide) (by decide)]
    rfl
theorem J2_put {σ τ : pm_S} {n e m : Nat} {house season guests set : Int32} {T : Nat → Option Nat} (hJ : J1 σ n e) (h2 : J2 σ n m) (hm : m ≠ 60) (hr : rep (kd σ) n set T) (hb : ∀ s, n ≤ s → s < 32 → bt set s = false) (hτ : τ = m_gat (c_put (c_ts σ 35 T) m T house (qI σ 6 0) season guests) m house season guests set) : J2 τ n (m + 1) ∧ (∀ b k, ¬ (b = 9 ∧ k = 2) → ¬ (11 ≤ b ∧ b ≤ 16) → ¬ (b = 43 ∧ k = 3) → ¬ (56 ≤ b ∧ b ≤ 60) → qI τ b k = qI σ b k) := by
  obtain ⟨h0, h21, h22, h23, h24⟩ := id h2
  obtain ⟨p1, p2, p3, ⟨p4, p5, p6, p7, p8⟩, p9⟩ := c_put_f (c_ts σ 35 T) m T house (qI σ 6 0) season guests
  obtain ⟨g1, g2, g3, ⟨g4, g5, g6, g7, g8⟩⟩ := m_gat_f (c_put (c_ts σ 35 T) m T house (qI σ 6 0) season guests) m house season guests set
  rw [← hτ] at g1 g2 g3 g4 g5 g6 g7 g8
  have hn2 := hJ.1.2.1
  have htb := tb_set hn2 (fun t ht => (kd_ok hJ ht).2) hr hb
  have hout : ∀ b k, ¬ (b = 9 ∧ k = 2) → ¬ (11 ≤ b ∧ b ≤ 16) → ¬ (b = 43 ∧ k = 3) → ¬ (56 ≤ b ∧ b ≤ 60) → qI τ b k = qI σ b k := fun b k a c d f => by
    rw [g1 b k d f, p1 b k a c]; rfl
  have h43 : qI (c_put (c_ts σ 35 T) m T house (qI σ 6 0) season guests) 43 0 = qI σ 43 0 := p1 43 0 (by decide) (by decide)
  have hC : ∀ b k, 11 ≤ b → b ≤ 15 → k ≠ m → qI τ b k = qI σ b k := fun b k a c d => by rw [g1 b k (by omega) (by omega), p2 b k a c d]; rfl
  have hM : ∀ b k, 56 ≤ b → b ≤ 60 → k ≠ m → qI τ b k = qI σ b k := fun b k a c d => by rw [g2 b k a c d, p1 b k (by omega) (by omega)]; rfl
  have hkd : ∀ t, kd τ t = kd σ t := fun t => by unfold kd; rw [hout 44 t (by omega) (by omega) (by omega) (by omega)]
  refine ⟨⟨by omega, ?_, ?_, fun i hi => ?_, fun a b ha hb2 => ?_⟩, hout⟩
  · rw [g1 9 2 (by decide) (by decide), p3, nI_succ]
  · rw [g3, p1 43 3 (by decide) (by decide), show qI (c_ts σ 35 T) 43 3 = nI m from h22, nI_succ]
  · by_cases z : i = m
    · subst z
      rw [g4, g5, g6, g7, g8, h43, g1 11 i (by omega) (by omega), g1 12 i (by omega) (by omega), g1 13 i (by omega) (by omega), g1 14 i (by omega) (by omega), g1 15 i (by omega) (by omega), p4, p5, p6, p7, p8, htb]
      exact ⟨⟨rfl, hJ.2.2.2.2.2.1, rfl, rfl, rfl⟩, hb⟩
    · rw [hC 11 i (by decide) (by decide) z, hC 12 i (by decide) (by decide) z, hC 13 i (by decide) (by decide) z, hC 14 i (by decide) (by decide) z, hC 15 i (by decide) (by decide) z, hM 56 i (by decide) (by decide) z, hM 57 i (by decide) (by decide) z, hM 58 i (by decide) (by decide) z, hM 59 i (by decide) (by decide) z, hM 60 i (by decide) (by decide) z]
      exact h23 i (by omega)
  · have hpg : ∀ k, k ≤ m → pg τ a b k = pg σ a b k := by
      intro k
      induction k with
      | zero => exact fun _ => rfl
      | succ k ih =>
        intro hk
        rw [pg_s, pg_s, ih (by omega), hM 59 k (by decide) (by decide) (by omega)]
        unfold pgP
        rw [hM 60 k (by decide) (by decide) (by omega), hkd a, hkd b]
    rw [g1 16 _ (by omega) (by omega), p9, pg_s, hpg m (Nat.le_refl m), g7, show qI (c_ts σ 35 T) 16 (a * 20 + b) = pg σ a b m from h24 a b ha hb2]
    have hp : pgP τ a b m ↔ a * 20 + b ∈ shI T 5 := by
      unfold pgP
      rw [g8, hkd a, hkd b, sh_pair hn2 (fun t ht => (kd_ok hJ ht).2) hr hb ha hb2]
    by_cases z : a * 20 + b ∈ shI T 5
    · rw [if_pos z, if_pos (hp.mpr z)]
    · rw [if_neg z, if_neg (fun y => z (hp.mp y))]
theorem fr5.ts {σ : pm_S} {a : Nat} {T : Nat → Option Nat} (ha : a = 35 ∨ a = 40) : fr5 σ (c_ts σ a T) := ⟨⟨Nat.le_refl _, fun _ _ => rfl⟩, fun b hb => ⟨rfl, fun j => ⟨rfl, c_ts_R (by omega) j⟩⟩⟩
theorem p_gather {σ : pm_S} {n e m : Nat} (hJ : J1 σ n e) (h2 : J2 σ n m) (hS : pm_fix σ) (house season guests set : Int32) : ∃ v σ1 τ, PE 10 0 MX11_gather [.ref 6, .int house, .int season, .int guests, .int set] σ (some (.int v)) σ1 ∧ PE 10 0 MX12_gather [.ref 43, .int house, .int season, .int guests, .int set] σ1 (some (.int v)) τ ∧ J1 τ n e ∧ (∃ m', J2 τ n m') ∧ pm_fix τ ∧ frT σ τ ∧ fr5 σ τ ∧ fr5 σ σ1 := by
  have hn2 := hJ.1.2.1
  have hc := t_gather (d := 10) (al := 0) (by decide) hS hJ.1 (kd_at hJ) h2.2.1 h2.1 house season guests set
  by_cases hp : okGp m house season guests
  · rw [if_pos hp] at hc
    have hiff := isSt_rd (σ := σ) (set := set) hn2 (fun t ht => kd_ok hJ ht)
    by_cases hok : okGC (fun t => h_s σ t e) (kd σ) n m house season guests set
    · rw [if_pos hok, if_pos hok] at hc
      obtain ⟨hr, hb⟩ := rd_rep hn2 hok.2.1
      obtain ⟨p1, p2, p3, ⟨p4, p5, p6, p7, p8⟩, p9⟩ := c_put_f (c_ts σ 35 (rd (kd σ) n set).2) m (rd (kd σ) n set).2 house (qI σ 6 0) season guests
      have hS1 : pm_fix (c_put (c_ts σ 35 (rd (kd σ) n set).2) m (rd (kd σ) n set).2 house (qI σ 6 0) season guests) := (hS.ts (a := 35) (T := (rd (kd σ) n set).2) (Or.inl rfl)).to rfl rfl rfl rfl
      have hm := s_gather (d := 10) (al := 0) (by decide) hS1 (n := n) (e := e) (i := m) ((p1 43 1 (by decide) (by decide)).trans hJ.2.1) hn2 ((p1 43 2 (by decide) (by decide)).trans hJ.2.2.1) hJ.2.2.2.1 ((p1 43 3 (by decide) (by decide)).trans h2.2.2.1) h2.1 house season guests set
      have hokm : okGat (c_put (c_ts σ 35 (rd (kd σ) n set).2) m (rd (kd σ) n set).2 house (qI σ 6 0) season guests) n e m house season guests set := by
        refine ⟨hp.1, hp.2.1, hp.2.2.1, (isSt_cg (σ := σ) (fun k => p1 44 k (by omega) (by omega))).mpr (hiff.mpr hok.2.1), hp.2.2.2, ?_⟩
        rw [m_gl_cg (σ := σ) (fun b k a c => p1 b k (by omega) (by omega)) (p1 43 0 (by decide) (by decide))]
        exact (ak_gl hJ hr).mp hok.2.2
      rw [if_pos hokm, if_pos hokm] at hm
      obtain ⟨q1, q2⟩ := J2_put hJ h2 hp.2.2.2 hr hb (house := house) (season := season) (guests := guests) rfl
      have hj1 : J1 (m_gat (c_put (c_ts σ 35 (rd (kd σ) n set).2) m (rd (kd σ) n set).2 house (qI σ 6 0) season guests) m house season guests set) n e := by
        have h68 := hS.1
        refine J1_fr hJ hS ⟨fun b k a _ => q2 b k (by omega) (by omega) (by omega) (by omega), fun b k a c => q2 b k (by omega) (by omega) (by omega) (by omega), ⟨q2 7 1 (by decide) (by decide) (by decide) (by decide), q2 43 1 (by decide) (by decide) (by decide) (by decide), q2 43 2 (by decide) (by decide) (by decide) (by decide), q2 6 1 (by decide) (by decide) (by decide) (by decide)⟩, fun b k a _ => c_ts_R (by omega) k, fun _ _ => rfl, rfl⟩ ?_ ?_ ?_
        · rw [q2 43 0 (by decide) (by decide) (by decide) (by decide)]; exact hJ.2.2.2.2.2.2.1
        · rw [q2 43 0 (by decide) (by decide) (by decide) (by decide)]; exact Int32.le_refl _
        · rw [q2 43 0 (by decide) (by decide) (by decide) (by decide), q2 6 0 (by decide) (by decide) (by decide) (by decide)]; exact hJ.2.2.2.2.2.1
      refine ⟨_, _, _, hc, hm, hj1, ⟨m + 1, q1⟩, hS1.to rfl rfl rfl rfl, ⟨fun b k a => q2 b k (by omega) (by omega) (by omega) (by omega), c_ts_R (by decide) 6, c_ts_R (by decide) 7⟩, ⟨⟨Nat.le_refl _, fun _ _ => rfl⟩, fun b hb => ⟨rfl, fun j => ⟨q2 b j (by omega) (by omega) (by omega) (by omega), c_ts_R (by omega) j⟩⟩⟩, ⟨Nat.le_refl _, fun _ _ => rfl⟩, fun b hb => ⟨rfl, fun j => ⟨p1 b j (by omega) (by omega), c_ts_R (by omega) j⟩⟩⟩
    · rw [if_neg hok, if_neg hok] at hc
      have hS1 := hS.ts (a := 35) (T := (rd (kd σ) n set).2) (Or.inl rfl)
      have hm := s_gather (d := 10) (al := 0) (by decide) hS1 (n := n) (e := e) (i := m) hJ.2.1 hn2 hJ.2.2.1 hJ.2.2.2.1 h2.2.2.1 h2.1 house season guests set
      have hno : ¬ okGat (c_ts σ 35 (rd (kd σ) n set).2) n e m house season guests set := fun z => by
        have hs := hiff.mp ((isSt_cg (σ := σ) (τ := c_ts σ 35 (rd (kd σ) n set).2) (fun _ => rfl)).mp z.2.2.2.1)
        obtain ⟨hr, hb⟩ := rd_rep hn2 hs
        have hg := z.2.2.2.2.2
        rw [m_gl_cg (σ := σ) (τ := c_ts σ 35 (rd (kd σ) n set).2) (fun _ _ _ _ => rfl) rfl] at hg
        exact hok ⟨hp, hs, (ak_gl hJ hr).mpr hg⟩
      rw [if_neg hno, if_neg hno] at hm
      exact ⟨_, _, _, hc, hm, hJ.ts hS (Or.inl rfl), ⟨m, h2.ts⟩, hS1, frT.ts (Or.inl rfl), fr5.ts (Or.inl rfl), fr5.ts (Or.inl rfl)⟩
  · rw [if_neg hp] at hc
    have hno : ¬ okGC (fun t => h_s σ t e) (kd σ) n m house season guests set := fun z => hp z.1
    rw [if_neg hno] at hc
    have hm := s_gather (d := 10) (al := 0) (by decide) hS (n := n) (e := e) (i := m) hJ.2.1 hn2 hJ.2.2.1 hJ.2.2.2.1 h2.2.2.1 h2.1 house season guests set
    have hno2 : ¬ okGat σ n e m house season guests set := fun z => hp ⟨z.1, z.2.1, z.2.2.1, z.2.2.2.2.1⟩
    rw [if_neg hno2, if_neg hno2] at hm
    exact ⟨_, _, _, hc, hm, hJ, ⟨m, h2⟩, hS, frT.rfl', fr5.rfl', fr5.rfl'⟩
