/-! ===== again: equal sums ===== -/
theorem m_ag_sm (σ : pm_S) (G N : Nat) (guests set : Int32) : ∀ k, m_ag σ G N guests set k = sm (fun g => if sb guests (nI g) = 0 then 0 else m_aa σ G N set (nI g) N + m_ai σ set (nI g) G) k
  | 0 => rfl
  | k + 1 => by
    show m_ag σ G N guests set k + _ = _
    rw [m_ag_sm σ G N guests set k]
    rfl
theorem m_aa_sm (σ : pm_S) (G N : Nat) (set g : Int32) : ∀ k, m_aa σ G N set g k = sm (fun a => m_ab σ G set g a N) k
  | 0 => rfl
  | k + 1 => by
    show m_aa σ G N set g k + _ = _
    rw [m_aa_sm σ G N set g k]
    rfl
theorem m_ab_sm (σ : pm_S) (G : Nat) (set g : Int32) (a : Nat) : ∀ k, m_ab σ G set g a k = sm (fun b => oN (abP σ G set g a b)) k
  | 0 => rfl
  | k + 1 => by
    show m_ab σ G set g a k + _ = _
    rw [m_ab_sm σ G set g a k]
    rfl
theorem m_ai_sm (σ : pm_S) (set g : Int32) : ∀ k, m_ai σ set g k = sm (fun i => if agP σ set g i then 10 else 0) k
  | 0 => rfl
  | k + 1 => by
    show m_ai σ set g k + _ = _
    rw [m_ai_sm σ set g k]
    rfl
def Pg (σ : pm_S) (m g a b : Nat) : Bool := decide (0 < m_sn σ (nI g) (nI a) (nI b) m)
theorem Pg_sym {σ : pm_S} {m g : Nat} (a b : Nat) : Pg σ m g a b = Pg σ m g b a := by
  have h : ∀ a b, m_sn σ (nI g) (nI a) (nI b) m = m_sn σ (nI g) (nI b) (nI a) m := fun a b => by
    rw [m_sn_sm, m_sn_sm]
    refine sm_cg m (fun i _ => oN_c ?_)
    unfold snP
    exact ⟨fun z => ⟨z.1, z.2.2, z.2.1⟩, fun z => ⟨z.1, z.2.2, z.2.1⟩⟩
  unfold Pg
  rw [h a b]
theorem aa_eq {σ : pm_S} {n e m g : Nat} {set : Int32} {T : Nat → Option Nat} (hJ : J1 σ n e) (hr : rep (kd σ) n set T) : m_aa σ m n set (nI g) n = sm (fun i => sm (fun j => if i < j then rT T (Pg σ m g) i j else 0) 5) 5 := by
  have hn2 := hJ.1.2.1
  rw [← pr_eq (K := kd σ) (S := fun a => bt set a) (fun a ha => (kd_ok hJ ha).2) hr (Pg σ m g) Pg_sym, m_aa_sm]
  refine sm_cg n (fun a ha => ?_)
  show m_ab σ m set (nI g) a n = _
  rw [m_ab_sm]
  refine sm_cg n (fun b hb => ?_)
  show oN (abP σ m set (nI g) a b) = if a < b then (if bt set a = true then (if bt set b = true then oN (Pg σ m g a b = true) else 0) else 0) else 0
  have hP : Pg σ m g a b = true ↔ 0 < m_sn σ (nI g) (nI a) (nI b) m := by unfold Pg; exact decide_eq_true_iff
  by_cases z1 : a < b
  · rw [if_pos z1]
    by_cases z2 : bt set a = true
    · rw [if_pos z2]
      by_cases z3 : bt set b = true
      · rw [if_pos z3]
        refine oN_c ?_
        unfold abP
        rw [hP, sb_1 set (by omega), sb_1 set (by omega)]
        exact ⟨fun z => z.2.2.2, fun z => ⟨z1, z2, z3, z⟩⟩
      · rw [if_neg z3, oN_f]
        intro z
        exact z3 ((sb_1 set (by omega)).mp z.2.2.1)
    · rw [if_neg z2, oN_f]
      intro z
      exact z2 ((sb_1 set (by omega)).mp z.2.1)
  · rw [if_neg z1, oN_f]
    intro z
    exact z1 z.1
theorem spF_eq {σ : pm_S} {n e m i j : Nat} {guests set : Int32} {T : Nat → Option Nat} (hJ : J1 σ n e) (h2 : J2 σ n m) (hr : rep (kd σ) n set T) (hij : i < j) : spF σ guests T i j = sm (fun g => if bt guests g = true then rT T (Pg σ m g) i j else 0) 8 := by
  have hn2 := hJ.1.2.1
  cases h1 : T i with
  | none =>
    unfold spF
    rw [prf_n1 h1]
    exact (sm_0 8 (fun g _ => by rw [rT_n1 h1]; split <;> rfl)).symm
  | some a =>
    cases h3 : T j with
    | none =>
      unfold spF
      rw [prf_n2 h3]
      exact (sm_0 8 (fun g _ => by rw [rT_n2 h3]; split <;> rfl)).symm
    | some b =>
      obtain ⟨a1, a2, a3⟩ := (hr i a).mp h1
      obtain ⟨b1, b2, b3⟩ := (hr j b).mp h3
      unfold spF
      rw [prf_s h1 h3]
      show pcn (qI σ 16 (a * 20 + b) &&& guests) = _
      rw [h2.2.2.2.2 a b (by omega) (by omega)]
      refine sm_cg 8 (fun g hg => ?_)
      show oN (bt (pg σ a b m &&& guests) g = true) = if bt guests g = true then rT T (Pg σ m g) i j else 0
      rw [rT_s h1 h3]
      by_cases z : bt guests g = true
      · rw [if_pos z]
        refine oN_c ?_
        rw [b_and, z, Bool.and_true, pg_bt]
        unfold Pg
        rw [decide_eq_true_iff, m_sn_pos (by omega) (by omega) (by omega)]
        constructor
        · rintro ⟨x, y1, y2, y3⟩
          exact ⟨x, y1, y3, y2.1, y2.2.1⟩
        · rintro ⟨x, y1, y2, y3, y4⟩
          exact ⟨x, y1, ⟨y3, y4, by omega⟩, y2⟩
      · rw [if_neg z, oN_f]
        rw [b_and, Bool.and_eq_true]
        exact fun y => z y.2
theorem sp_eq {σ : pm_S} {n e m : Nat} {guests set : Int32} {T : Nat → Option Nat} (hJ : J1 σ n e) (h2 : J2 σ n m) (hr : rep (kd σ) n set T) : spS σ guests T = sm (fun g => if bt guests g = true then m_aa σ m n set (nI g) n else 0) 8 := by
  have e1 : spS σ guests T = sm (fun i => sm (fun j => sm (fun g => if i < j then (if bt guests g = true then rT T (Pg σ m g) i j else 0) else 0) 8) 5) 5 := by
    unfold spS
    refine sm_cg 5 (fun i _ => sm_cg 5 (fun j _ => ?_))
    unfold spG
    by_cases z : i + 1 ≤ j
    · rw [if_pos z, spF_eq hJ h2 hr (by omega)]
      exact sm_cg 8 (fun g _ => (if_pos (by omega)).symm)
    · rw [if_neg z]
      exact (sm_0 8 (fun g _ => if_neg (by omega))).symm
  rw [e1, sm_cg 5 (fun i _ => sm_comm (fun j g => if i < j then (if bt guests g = true then rT T (Pg σ m g) i j else 0) else 0) 8 5), sm_comm (fun i g => sm (fun j => if i < j then (if bt guests g = true then rT T (Pg σ m g) i j else 0) else 0) 5) 8 5]
  refine sm_cg 8 (fun g _ => ?_)
  by_cases z : bt guests g = true
  · rw [if_pos z, aa_eq hJ hr]
    refine sm_cg 5 (fun i _ => sm_cg 5 (fun j _ => ?_))
    rw [if_pos z]
  · rw [if_neg z]
    exact sm_0 5 (fun i _ => sm_0 5 (fun j _ => by rw [if_neg z]; split <;> rfl))
theorem cs_eq {σ : pm_S} {n m : Nat} {guests set : Int32} (h2 : J2 σ n m) : 10 * sm (csF σ guests set) m = sm (fun g => if bt guests g = true then m_ai σ set (nI g) m else 0) 8 := by
  rw [← sm_mul]
  have e1 : sm (fun i => 10 * csF σ guests set i) m = sm (fun i => sm (fun g => if bt guests g = true then (if agP σ set (nI g) i then 10 else 0) else 0) 8) m := by
    refine sm_cg m (fun i hi => ?_)
    obtain ⟨-, -, -, r4, r5⟩ := (h2.2.2.2.1 i hi).1
    unfold csF
    rw [r4, r5]
    by_cases z : qI σ 60 i = set
    · rw [if_pos z]
      unfold pcn
      rw [← sm_mul]
      refine sm_cg 8 (fun g hg => ?_)
      show 10 * oN (bt (qI σ 59 i &&& guests) g = true) = _
      by_cases y : bt guests g = true
      · rw [if_pos y, b_and, y, Bool.and_true]
        by_cases x : bt (qI σ 59 i) g = true
        · rw [oN_t x, if_pos ⟨(sb_1 _ (by omega)).mpr x, z⟩]
        · rw [oN_f x, if_neg (fun w => x ((sb_1 _ (by omega)).mp w.1))]
      · rw [if_neg y, oN_f]
        rw [b_and, Bool.and_eq_true]
        exact fun w => y w.2
    · rw [if_neg z]
      exact (sm_0 8 (fun g _ => by rw [if_neg (c := agP σ set (nI g) i) (fun w => z w.2)]; split <;> rfl)).symm
  rw [e1, sm_comm (fun i g => if bt guests g = true then (if agP σ set (nI g) i then 10 else 0) else 0) 8 m]
  refine sm_cg 8 (fun g _ => ?_)
  by_cases z : bt guests g = true
  · rw [if_pos z, m_ai_sm]
    exact sm_cg m (fun i _ => if_pos z)
  · rw [if_neg z]
    exact sm_0 m (fun i _ => if_neg z)
theorem ag_eq {σ : pm_S} {n e m : Nat} {guests set : Int32} {T : Nat → Option Nat} (hJ : J1 σ n e) (h2 : J2 σ n m) (hr : rep (kd σ) n set T) : spS σ guests T + 10 * sm (csF σ guests set) m = m_ag σ m n guests set 8 := by
  rw [sp_eq hJ h2 hr, cs_eq h2, m_ag_sm, ← sm_add]
  refine sm_cg 8 (fun g hg => ?_)
  show (if bt guests g = true then m_aa σ m n set (nI g) n else 0) + (if bt guests g = true then m_ai σ set (nI g) m else 0) = _
  by_cases z : bt guests g = true
  · rw [if_pos z, if_pos z, if_neg (fun y => (sb_0 guests (by omega)).mp y z)]
  · rw [if_neg z, if_neg z, if_pos ((sb_0 guests (by omega)).mpr z)]
/-- the cells of the tape and of the rules -/
def frT (σ τ : pm_S) : Prop := (∀ b k, b = 4 ∨ b = 5 ∨ (17 ≤ b ∧ b ≤ 33) ∨ (61 ≤ b ∧ b ≤ 64) ∨ b = 66 ∨ (b = 43 ∧ 21 ≤ k ∧ k ≤ 39) → qI τ b k = qI σ b k) ∧ qR τ 6 6 = qR σ 6 6 ∧ qR τ 6 7 = qR σ 6 7
theorem frT.rfl' {σ : pm_S} : frT σ σ := ⟨fun _ _ _ => rfl, rfl, rfl⟩
theorem j_same_ts {σ : pm_S} {a : Nat} {T : Nat → Option Nat} (ha : a = 35 ∨ a = 40) : j_same σ (c_ts σ a T) := ⟨fun _ _ _ _ => rfl, fun _ _ _ _ => rfl, ⟨rfl, rfl, rfl, rfl⟩, fun b k hb _ => c_ts_R (by omega) k, fun _ _ => rfl, rfl⟩
theorem J1.ts {σ : pm_S} {n e a : Nat} {T : Nat → Option Nat} (hJ : J1 σ n e) (hS : pm_fix σ) (ha : a = 35 ∨ a = 40) : J1 (c_ts σ a T) n e := J1_fr hJ hS (j_same_ts ha) hJ.2.2.2.2.2.2.1 (Int32.le_refl _) hJ.2.2.2.2.2.1
theorem frT.ts {σ : pm_S} {a : Nat} {T : Nat → Option Nat} (ha : a = 35 ∨ a = 40) : frT σ (c_ts σ a T) := ⟨fun _ _ _ => rfl, c_ts_R (by omega) 6, c_ts_R (by omega) 7⟩
theorem J2.ts {σ : pm_S} {n m a : Nat} {T : Nat → Option Nat} (h : J2 σ n m) : J2 (c_ts σ a T) n m := J2_fr h (Nat.le_refl n) (fun _ _ _ => rfl) (fun _ _ => rfl)
theorem p_again {σ : pm_S} {n e m : Nat} (hJ : J1 σ n e) (h2 : J2 σ n m) (hS : pm_fix σ) (guests set : Int32) : ∃ v τ, PE 10 0 MX11_again [.ref 6, .int guests, .int set] σ (some (.int v)) τ ∧ PE 10 0 MX12_again [.ref 43, .int guests, .int set] τ (some (.int v)) τ ∧ (τ = σ ∨ ∃ T, τ = c_ts σ 35 T) := by
  have hn2 := hJ.1.2.1
  have hc := t_again (d := 10) (al := 0) (by decide) hS hJ.1 (kd_at hJ) h2.2.1 h2.1 guests set
  by_cases hg : 1 ≤ guests ∧ guests ≤ 255
  · rw [if_pos hg] at hc
    refine ⟨_, _, hc, ?_, Or.inr ⟨_, rfl⟩⟩
    have hS' := hS.ts (a := 35) (T := (rd (kd σ) n set).2) (Or.inl rfl)
    have hm := s_again (d := 10) (al := 0) (by decide) hS' (show qI (c_ts σ 35 (rd (kd σ) n set).2) 43 1 = nI n from hJ.2.1) hn2 (show qI (c_ts σ 35 (rd (kd σ) n set).2) 43 3 = nI m from h2.2.2.1) h2.1 guests set
    have hiff := isSt_rd (σ := σ) (set := set) hn2 (fun t ht => kd_ok hJ ht)
    have hst : isSt (c_ts σ 35 (rd (kd σ) n set).2) n set ↔ isSt σ n set := by
      have hsl : ∀ k t ks, m_sl (c_ts σ 35 (rd (kd σ) n set).2) set k t ks = m_sl σ set k t ks := by
        intro k
        induction k with
        | zero => exact fun _ _ => rfl
        | succ k ih =>
          intro t ks
          show (if sb set (nI t) = 0 then m_sl (c_ts σ 35 (rd (kd σ) n set).2) set k (t + 1) ks else if sb ks (qI σ 44 t) = 1 then false else m_sl (c_ts σ 35 (rd (kd σ) n set).2) set k (t + 1) (ks ||| sh1 (qI σ 44 t))) = _
          rw [ih, ih]
          rfl
      unfold isSt
      rw [hsl]
    by_cases hok : okAC (kd σ) n guests set
    · rw [if_pos hok]
      have hok2 : okAg (c_ts σ 35 (rd (kd σ) n set).2) n guests set := ⟨hg, hst.mpr (hiff.mpr hok.2)⟩
      rw [if_pos hok2] at hm
      obtain ⟨hr, hb⟩ := rd_rep hn2 hok.2
      rw [tb_set hn2 (fun t ht => (kd_ok hJ ht).2) hr hb]
      have := ag_eq (guests := guests) (hJ.ts (T := (rd (kd σ) n set).2) hS (Or.inl rfl)) (h2.ts (a := 35) (T := (rd (kd σ) n set).2)) hr
      rw [← this] at hm
      exact hm
    · rw [if_neg hok]
      have hno : ¬ okAg (c_ts σ 35 (rd (kd σ) n set).2) n guests set := fun z => hok ⟨hg, hiff.mp (hst.mp z.2)⟩
      rw [if_neg hno] at hm
      exact hm
  · rw [if_neg hg] at hc
    have hno : ¬ okAC (kd σ) n guests set := fun z => hg z.1
    rw [if_neg hno] at hc
    have hm := s_again (d := 10) (al := 0) (by decide) hS hJ.2.1 hn2 h2.2.2.1 h2.1 guests set
    have hno2 : ¬ okAg σ n guests set := fun z => hg z.1
    rw [if_neg hno2] at hm
    exact ⟨_, _, hc, hm, Or.inl rfl⟩
