/-! ===== gatherings on both sides ===== -/
abbrev pgP (σ : pm_S) (a b i : Nat) : Prop := bt (qI σ 60 i) a = true ∧ bt (qI σ 60 i) b = true ∧ kd σ a < kd σ b
/-- the guests that saw a pair -/
def pg (σ : pm_S) (a b : Nat) : Nat → Int32
  | 0 => 0
  | i + 1 => if pgP σ a b i then pg σ a b i ||| qI σ 59 i else pg σ a b i
theorem pg_s (σ : pm_S) (a b i : Nat) : pg σ a b (i + 1) = if pgP σ a b i then pg σ a b i ||| qI σ 59 i else pg σ a b i := rfl
def J2 (σ : pm_S) (n m : Nat) : Prop := m ≤ 60 ∧ qI σ 9 2 = nI m ∧ qI σ 43 3 = nI m ∧ (∀ i, i < m → (qI σ 11 i = qI σ 56 i ∧ qI σ 12 i = qI σ 57 i ∧ qI σ 13 i = qI σ 58 i ∧ qI σ 14 i = qI σ 59 i ∧ qI σ 15 i = qI σ 60 i) ∧ ∀ s, n ≤ s → s < 32 → bt (qI σ 60 i) s = false) ∧ ∀ a b, a < 20 → b < 20 → qI σ 16 (a * 20 + b) = pg σ a b m
theorem J2_fr {σ τ : pm_S} {n n' m : Nat} (h : J2 σ n m) (hn : n ≤ n') (hI : ∀ b k, (b = 9 ∧ k = 2) ∨ (b = 43 ∧ k = 3) ∨ (11 ≤ b ∧ b ≤ 16) ∨ (56 ≤ b ∧ b ≤ 60) → qI τ b k = qI σ b k) (hk : ∀ t, t < n → kd τ t = kd σ t) : J2 τ n' m := by
  obtain ⟨h1, h2, h3, h4, h5⟩ := h
  have e : ∀ b k, 56 ≤ b → b ≤ 60 → qI τ b k = qI σ b k := fun b k a c => hI b k (by omega)
  have f : ∀ b k, 11 ≤ b → b ≤ 16 → qI τ b k = qI σ b k := fun b k a c => hI b k (by omega)
  refine ⟨h1, by rw [hI 9 2 (by omega)]; exact h2, by rw [hI 43 3 (by omega)]; exact h3, fun i hi => ?_, fun a b ha hb => ?_⟩
  · rw [e 56 i (by decide) (by decide), e 57 i (by decide) (by decide), e 58 i (by decide) (by decide), e 59 i (by decide) (by decide), e 60 i (by decide) (by decide), f 11 i (by decide) (by decide), f 12 i (by decide) (by decide), f 13 i (by decide) (by decide), f 14 i (by decide) (by decide), f 15 i (by decide) (by decide)]
    exact ⟨(h4 i hi).1, fun s a b => (h4 i hi).2 s (by omega) b⟩
  · rw [f 16 _ (by decide) (by decide), h5 a b ha hb]
    have key : ∀ k, k ≤ m → pg τ a b k = pg σ a b k := by
      intro k
      induction k with
      | zero => exact fun _ => rfl
      | succ k ih =>
        intro hkm
        rw [pg_s, pg_s, ih (by omega), e 59 k (by decide) (by decide)]
        have hp : pgP τ a b k ↔ pgP σ a b k := by
          unfold pgP
          rw [e 60 k (by decide) (by decide)]
          by_cases za : a < n
          · by_cases zb : b < n
            · rw [hk a za, hk b zb]
            · have := (h4 k (by omega)).2 b (by omega) (by omega)
              rw [this]
              exact ⟨fun z => absurd z.2.1 (by decide), fun z => absurd z.2.1 (by decide)⟩
          · have := (h4 k (by omega)).2 a (by omega) (by omega)
            rw [this]
            exact ⟨fun z => absurd z.1 (by decide), fun z => absurd z.1 (by decide)⟩
        by_cases z : pgP σ a b k
        · rw [if_pos z, if_pos (hp.mpr z)]
        · rw [if_neg z, if_neg (fun y => z (hp.mp y))]
    exact (key m (Nat.le_refl m)).symm
theorem pg_bt {σ : pm_S} {a b g : Nat} : ∀ m, bt (pg σ a b m) g = true ↔ ∃ i, i < m ∧ pgP σ a b i ∧ bt (qI σ 59 i) g = true
  | 0 => by
    constructor
    · intro h
      rw [show pg σ a b 0 = 0 from rfl, b_0] at h
      exact absurd h (by decide)
    · rintro ⟨i, h, -⟩
      omega
  | m + 1 => by
    rw [pg_s]
    by_cases z : pgP σ a b m
    · rw [if_pos z, b_or, Bool.or_eq_true, pg_bt m]
      constructor
      · rintro (⟨i, h1, h2⟩ | h)
        · exact ⟨i, by omega, h2⟩
        · exact ⟨m, by omega, z, h⟩
      · rintro ⟨i, h1, h2, h3⟩
        by_cases y : i = m
        · subst y; exact Or.inr h3
        · exact Or.inl ⟨i, by omega, h2, h3⟩
    · rw [if_neg z, pg_bt m]
      constructor
      · rintro ⟨i, h1, h2⟩; exact ⟨i, by omega, h2⟩
      · rintro ⟨i, h1, h2, h3⟩
        have : i ≠ m := fun y => z (y ▸ h2)
        exact ⟨i, by omega, h2, h3⟩
theorem m_sn_sm (σ : pm_S) (g a b : Int32) : ∀ m, m_sn σ g a b m = sm (fun i => oN (snP σ g a b i)) m
  | 0 => rfl
  | m + 1 => by
    show m_sn σ g a b m + (if snP σ g a b m then 1 else 0) = _
    rw [m_sn_sm σ g a b m]
    rfl
theorem sm_pos {f : Nat → Nat} : ∀ n, 0 < sm f n ↔ ∃ i, i < n ∧ 0 < f i
  | 0 => ⟨fun h => absurd h (Nat.lt_irrefl 0), fun ⟨i, h, _⟩ => by omega⟩
  | n + 1 => by
    rw [sm_s]
    constructor
    · intro h
      by_cases z : 0 < f n
      · exact ⟨n, by omega, z⟩
      · obtain ⟨i, h1, h2⟩ := (sm_pos (f := f) n).mp (by omega)
        exact ⟨i, by omega, h2⟩
    · rintro ⟨i, h1, h2⟩
      by_cases z : i = n
      · subst z; omega
      · have := (sm_pos (f := f) n).mpr ⟨i, by omega, h2⟩
        omega
theorem oN_pos {p : Prop} [Decidable p] : 0 < oN p ↔ p := by
  by_cases z : p
  · rw [oN_t z]; simp [z]
  · rw [oN_f z]; simp [z]
theorem snP_iff {σ : pm_S} {g a b i : Nat} (hg : g < 32) (ha : a < 32) (hb : b < 32) : snP σ (nI g) (nI a) (nI b) i ↔ bt (qI σ 59 i) g = true ∧ bt (qI σ 60 i) a = true ∧ bt (qI σ 60 i) b = true := by
  unfold snP
  rw [sb_1 _ hg, sb_1 _ ha, sb_1 _ hb]
theorem m_sn_pos {σ : pm_S} {g a b m : Nat} (hg : g < 32) (ha : a < 32) (hb : b < 32) : 0 < m_sn σ (nI g) (nI a) (nI b) m ↔ ∃ i, i < m ∧ bt (qI σ 59 i) g = true ∧ bt (qI σ 60 i) a = true ∧ bt (qI σ 60 i) b = true := by
  rw [m_sn_sm, sm_pos]
  constructor
  · rintro ⟨i, h1, h2⟩
    exact ⟨i, h1, (snP_iff hg ha hb).mp (oN_pos.mp h2)⟩
  · rintro ⟨i, h1, h2⟩
    exact ⟨i, h1, oN_pos.mpr ((snP_iff hg ha hb).mpr h2)⟩
/-! seen -/
theorem and_sub {x y : Int32} : x &&& y = y ↔ ∀ i, i < 32 → bt y i = true → bt x i = true := by
  constructor
  · intro h i hi hy
    rw [← h, b_and, Bool.and_eq_true] at hy
    exact hy.1
  · intro h
    apply b_ext
    intro i hi
    rw [b_and]
    cases hy : bt y i with
    | false => exact Bool.and_false _
    | true => rw [h i hi hy]; rfl
theorem cw_sn {σ : pm_S} {n m g a b i : Nat} (h : J2 σ n m) (hi : i < m) (hg : g < 32) (ha : a < 32) (hb : b < 32) : cwP σ (sh1 (nI g)) (sh1 (nI a) ||| sh1 (nI b)) i ↔ snP σ (nI g) (nI a) (nI b) i := by
  rw [snP_iff hg ha hb]
  unfold cwP
  obtain ⟨-, -, -, r14, r15⟩ := (h.2.2.2.1 i hi).1
  rw [r14, r15, and_sub, and_sub]
  constructor
  · rintro ⟨h1, h2⟩
    refine ⟨h1 g hg (by rw [b_sh1 hg hg]; simp), h2 a ha (by rw [b_or, b_sh1 ha ha]; simp), h2 b hb (by rw [b_or, b_sh1 hb hb]; simp)⟩
  · rintro ⟨h1, h2, h3⟩
    refine ⟨fun k hk z => ?_, fun k hk z => ?_⟩
    · rw [b_sh1 hg hk, decide_eq_true_eq] at z
      rw [z]; exact h1
    · rw [b_or, b_sh1 ha hk, b_sh1 hb hk, Bool.or_eq_true, decide_eq_true_eq, decide_eq_true_eq] at z
      rcases z with z | z
      · rw [z]; exact h2
      · rw [z]; exact h3
theorem g_nI {g : Int32} (h : 0 ≤ g ∧ g ≤ 7) : ∃ k, k < 8 ∧ g = nI k := by
  have h1 := i_le.mp h.1
  have h2 := i_le.mp h.2
  have e1 : (0 : Int32).toInt = 0 := rfl
  have e2 : (7 : Int32).toInt = 7 := rfl
  rw [e1] at h1
  rw [e2] at h2
  exact ⟨g.toInt.toNat, by omega, by rw [i_eq, nI_toInt (by omega)]; omega⟩
theorem p_seen {σ : pm_S} {n e m : Nat} (hJ : J1 σ n e) (h2 : J2 σ n m) (hS : pm_fix σ) (g a b : Int32) : ∃ v, PE 10 0 MX11_seen [.ref 6, .int g, .int a, .int b] σ (some (.int v)) σ ∧ PE 10 0 MX12_seen [.ref 43, .int g, .int a, .int b] σ (some (.int v)) σ := by
  refine ⟨_, t_seen (d := 10) (al := 0) (by decide) hS hJ.1 h2.2.1 h2.1 g a b, ?_⟩
  have hm := s_seen (d := 10) (al := 0) (by decide) hS hJ.2.1 h2.2.2.1 h2.1 g a b
  have hn2 := hJ.1.2.1
  by_cases hok : okSeen n g a b
  · rw [if_pos hok] at hm ⊢
    obtain ⟨k, hk, rfl⟩ := g_nI hok.1
    obtain ⟨i, hi, rfl⟩ := (tOk_iff (by omega)).mp hok.2.1
    obtain ⟨j, hj, rfl⟩ := (tOk_iff (by omega)).mp hok.2.2
    rw [sm_cg m (fun x hx => oN_c (cw_sn h2 hx (by omega) (by omega) (by omega))), ← m_sn_sm]
    exact hm
  · rw [if_neg hok] at hm ⊢
    exact hm
theorem p_gathering {σ : pm_S} {n m : Nat} (h2 : J2 σ n m) (hS : pm_fix σ) (x what : Int32) : ∃ v, PE 10 0 MX11_gathering [.ref 6, .int x, .int what] σ (some (.int v)) σ ∧ PE 10 0 MX12_gathering [.ref 43, .int x, .int what] σ (some (.int v)) σ := by
  refine ⟨_, t_gathering (d := 10) (al := 0) (by decide) hS h2.2.1 h2.1 x what, ?_⟩
  have hm := s_gathering (d := 10) (al := 0) (by decide) hS h2.2.2.1 h2.1 x what
  unfold m_gth at hm
  by_cases hx : tOk m x
  · rw [if_pos hx] at hm ⊢
    obtain ⟨j, hj, rfl⟩ := (tOk_iff (by have := h2.1; omega)).mp hx
    rw [nI_clamp (by have := h2.1; omega)] at hm ⊢
    obtain ⟨r1, r2, r3, r4, r5⟩ := (h2.2.2.2.1 j hj).1
    rw [r1, r2, r3, r4, r5]
    exact hm
  · rw [if_neg hx] at hm ⊢
    exact hm
/-! again: sums over pairs -/
theorem oT {T : Nat → Option Nat} {n : Nat} {K : Nat → Nat} {S : Nat → Bool} (hK : ∀ a, a < n → K a < 5) (hr : ∀ j s, T j = some s ↔ s < n ∧ S s = true ∧ K s = j) (h : Nat → Nat) : sm (fun a => if S a = true then h a else 0) n = sm (fun i => match T i with | some a => h a | none => 0) 5 := by
  have e1 : sm (fun a => if S a = true then h a else 0) n = sm (fun a => sm (fun i => if S a = true ∧ K a = i then h a else 0) 5) n := by
    refine sm_cg n (fun a ha => ?_)
    by_cases z : S a = true
    · rw [if_pos z, sm_one (k := K a) 5 (hK a ha) (fun i _ hne => if_neg (fun y => hne y.2.symm)), if_pos ⟨z, rfl⟩]
    · rw [if_neg z, sm_0 5 (fun i _ => if_neg (fun y => z y.1))]
  rw [e1, sm_comm]
  refine sm_cg 5 (fun i hi => ?_)
  cases hT : T i with
  | none =>
    refine sm_0 n (fun a ha => if_neg (fun y => ?_))
    have := (hr i a).mpr ⟨ha, y.1, y.2⟩
    rw [hT] at this
    exact nomatch this
  | some s =>
    obtain ⟨s1, s2, s3⟩ := (hr i s).mp hT
    show sm (fun a => if S a = true ∧ K a = i then h a else 0) n = h s
    rw [sm_one (k := s) n s1 (fun a ha hne => if_neg (fun y => hne ?_)), if_pos ⟨s2, s3⟩]
    have := (hr i a).mpr ⟨ha, y.1, y.2⟩
    rw [hT] at this
    injection this with this
    exact this.symm
def rT (T : Nat → Option Nat) (P : Nat → Nat → Bool) (i j : Nat) : Nat := match T i, T j with
  | some a, some b => oN (P a b = true)
  | _, _ => 0
theorem rT_s {T : Nat → Option Nat} {P : Nat → Nat → Bool} {i j a b : Nat} (h1 : T i = some a) (h2 : T j = some b) : rT T P i j = oN (P a b = true) := by unfold rT; rw [h1, h2]
theorem rT_n1 {T : Nat → Option Nat} {P : Nat → Nat → Bool} {i j : Nat} (h1 : T i = none) : rT T P i j = 0 := by unfold rT; rw [h1]
theorem rT_n2 {T : Nat → Option Nat} {P : Nat → Nat → Bool} {i j : Nat} (h1 : T j = none) : rT T P i j = 0 := by unfold rT; rw [h1]; cases T i <;> rfl
theorem rT_sym {T : Nat → Option Nat} {P : Nat → Nat → Bool} (hP : ∀ a b, P a b = P b a) (i j : Nat) : rT T P i j = rT T P j i := by
  cases h1 : T i with
  | none => rw [rT_n1 h1, rT_n2 h1]
  | some a =>
    cases h2 : T j with
    | none => rw [rT_n2 h2, rT_n1 h2]
    | some b => rw [rT_s h1 h2, rT_s h2 h1, hP a b]
/-- twice the sum over pairs in order is the sum over all pairs of two -/
theorem sm_two (F : Nat → Nat → Nat) (hF : ∀ a b, F a b = F b a) (n : Nat) : 2 * sm (fun a => sm (fun b => if a < b then F a b else 0) n) n = sm (fun a => sm (fun b => if a ≠ b then F a b else 0) n) n := by
  have e : sm (fun a => sm (fun b => if b < a then F a b else 0) n) n = sm (fun a => sm (fun b => if a < b then F a b else 0) n) n := by
    rw [sm_comm]
    refine sm_cg n (fun b _ => sm_cg n (fun a _ => ?_))
    rw [hF]
  have e2 : sm (fun a => sm (fun b => if a ≠ b then F a b else 0) n) n = sm (fun a => sm (fun b => if a < b then F a b else 0) n) n + sm (fun a => sm (fun b => if b < a then F a b else 0) n) n := by
    rw [← sm_add]
    refine sm_cg n (fun a _ => ?_)
    show sm (fun b => if a ≠ b then F a b else 0) n = sm (fun b => if a < b then F a b else 0) n + sm (fun b => if b < a then F a b else 0) n
    rw [← sm_add]
    refine sm_cg n (fun b _ => ?_)
    show (if a ≠ b then F a b else 0) = (if a < b then F a b else 0) + (if b < a then F a b else 0)
    rcases Nat.lt_trichotomy a b with z | z | z
    · rw [if_pos (by omega), if_pos z, if_neg (by omega), Nat.add_zero]
    · rw [if_neg (fun y => y z), if_neg (by omega), if_neg (by omega)]
    · rw [if_pos (by omega), if_neg (by omega), if_pos z, Nat.zero_add]
  rw [e2, e]
  omega
theorem pr_eq {T : Nat → Option Nat} {n : Nat} {K : Nat → Nat} {S : Nat → Bool} (hK : ∀ a, a < n → K a < 5) (hr : ∀ j s, T j = some s ↔ s < n ∧ S s = true ∧ K s = j) (P : Nat → Nat → Bool) (hP : ∀ a b, P a b = P b a) : sm (fun a => sm (fun b => if a < b then (if S a = true then (if S b = true then oN (P a b = true) else 0) else 0) else 0) n) n = sm (fun i => sm (fun j => if i < j then rT T P i j else 0) 5) 5 := by
  have hsym : ∀ a b, (if S a = true then (if S b = true then oN (P a b = true) else 0) else 0) = (if S b = true then (if S a = true then oN (P b a = true) else 0) else 0) := fun a b => by
    rw [hP a b]
    by_cases z : S a = true
    · by_cases y : S b = true
      · rw [if_pos z, if_pos y, if_pos y, if_pos z]
      · rw [if_pos z, if_neg y, if_neg y]
    · by_cases y : S b = true
      · rw [if_neg z, if_pos y, if_neg z]
      · rw [if_neg z, if_neg y]
  have h1 := sm_two (fun a b => if S a = true then (if S b = true then oN (P a b = true) else 0) else 0) hsym n
  have h2 := sm_two (rT T P) (rT_sym hP) 5
  suffices h : sm (fun a => sm (fun b => if a ≠ b then (if S a = true then (if S b = true then oN (P a b = true) else 0) else 0) else 0) n) n = sm (fun i => sm (fun j => if i ≠ j then rT T P i j else 0) 5) 5 by
    rw [← h1, ← h2] at h
    exact Nat.eq_of_mul_eq_mul_left (by decide) h
  have a1 : ∀ a, sm (fun b => if a ≠ b then (if S a = true then (if S b = true then oN (P a b = true) else 0) else 0) else 0) n = if S a = true then sm (fun b => if S b = true then (if a ≠ b then oN (P a b = true) else 0) else 0) n else 0 := fun a => by
    by_cases z : S a = true
    · rw [if_pos z]
      refine sm_cg n (fun b _ => ?_)
      rw [if_pos z]
      by_cases y : S b = true
      · rw [if_pos y, if_pos y]
      · rw [if_neg y, if_neg y]; split <;> rfl
    · rw [if_neg z]
      exact sm_0 n (fun b _ => by rw [if_neg z]; split <;> rfl)
  rw [sm_cg n (fun a _ => a1 a), oT hK hr]
  refine sm_cg 5 (fun i hi => ?_)
  cases hi1 : T i with
  | none => exact (sm_0 5 (fun j _ => by rw [rT_n1 hi1]; split <;> rfl)).symm
  | some a =>
    show sm (fun b => if S b = true then (if a ≠ b then oN (P a b = true) else 0) else 0) n = _
    rw [oT hK hr]
    refine sm_cg 5 (fun j hj => ?_)
    cases hj1 : T j with
    | none =>
      rw [rT_n2 hj1]
      show 0 = if i ≠ j then 0 else 0
      split <;> rfl
    | some b =>
      rw [rT_s hi1 hj1]
      show (if a ≠ b then oN (P a b = true) else 0) = _
      by_cases z : i = j
      · have hab : a = b := by
          rw [z, hj1] at hi1
          injection hi1 with hi1
          exact hi1.symm
        rw [if_neg (fun y => y hab), if_neg (fun y => y z)]
      · rw [if_pos z, if_pos]
        intro y
        exact z (((hr i a).mp hi1).2.2.symm.trans (by rw [y]; exact ((hr j b).mp hj1).2.2))
