/-! ===== sets as bits and sets by kind ===== -/
def kd (σ : pm_S) (t : Nat) : Nat := (qI σ 44 t).toNatClampNeg
theorem kd_ok {σ : pm_S} {n e t : Nat} (hJ : J1 σ n e) (ht : t < n) : qI σ 44 t = nI (kd σ t) ∧ kd σ t < 5 := by
  have h := (hJ.2.2.2.2.2.2.2.2.2 t ht).2.1.1
  have h1 := i_le.mp h.1
  have h2 := i_le.mp h.2
  have e1 : (0 : Int32).toInt = 0 := rfl
  have e2 : (4 : Int32).toInt = 4 := rfl
  rw [e1] at h1
  rw [e2] at h2
  have hx : qI σ 44 t = nI (qI σ 44 t).toInt.toNat := by rw [i_eq, nI_toInt (by omega)]; omega
  have hk : kd σ t = (qI σ 44 t).toInt.toNat := by
    unfold kd
    rw [hx, nI_clamp (by omega), ← hx]
  rw [hk]
  exact ⟨hx, by omega⟩
theorem kd_at {σ : pm_S} {n e : Nat} (hJ : J1 σ n e) : ∀ t, t < n → qI σ (qR σ 8 t) 1 = nI (kd σ t) ∧ kd σ t < 5 := fun t ht => by
  rw [(hJ.2.2.2.2.2.2.2.2.2 t ht).1.1]
  exact kd_ok hJ ht
/-- T is the set, by kind -/
def rep (K : Nat → Nat) (n : Nat) (set : Int32) (T : Nat → Option Nat) : Prop := ∀ j s, T j = some s ↔ s < n ∧ bt set s = true ∧ K s = j
theorem rdl_ok {K : Nat → Nat} {set : Int32} {n : Nat} (hn : n ≤ 20) : ∀ k t T, t + k = n → rep K t set T → (rdl K set k t T).1 = true → rep K n set (rdl K set k t T).2
  | 0, t, T, ht, hr, _ => by
    have : t = n := by omega
    subst this
    exact hr
  | k + 1, t, T, ht, hr, h => by
    have hu : rdl K set (k + 1) t T = if sb set (nI t) = 0 then rdl K set k (t + 1) T else if (T (K t)).isSome = true then (false, T) else rdl K set k (t + 1) (oU T (K t) t) := rfl
    rw [hu] at h ⊢
    by_cases z : sb set (nI t) = 0
    · rw [if_pos z] at h ⊢
      refine rdl_ok hn k (t + 1) T (by omega) (fun j s => ?_) h
      rw [hr j s]
      constructor
      · rintro ⟨h1, h2⟩; exact ⟨by omega, h2⟩
      · rintro ⟨h1, h2⟩
        refine ⟨?_, h2⟩
        have : s ≠ t := fun y => (sb_0 set (by omega)).mp z (y ▸ h2.1)
        omega
    · rw [if_neg z] at h ⊢
      by_cases y : (T (K t)).isSome = true
      · rw [if_pos y] at h
        exact absurd (show false = true from h) (by decide)
      · rw [if_neg y] at h ⊢
        refine rdl_ok hn k (t + 1) (oU T (K t) t) (by omega) (fun j s => ?_) h
        have hbt : bt set t = true := Decidable.not_not.mp (fun q => z ((sb_0 set (by omega)).mpr q))
        unfold oU
        by_cases hj : j = K t
        · subst hj
          rw [if_pos rfl]
          constructor
          · intro q
            injection q with q
            subst q
            exact ⟨by omega, hbt, rfl⟩
          · rintro ⟨h1, h2, h3⟩
            by_cases hs : s = t
            · rw [hs]
            · have := (hr (K t) s).mpr ⟨by omega, h2, h3⟩
              rw [this] at y
              exact absurd rfl y
        · rw [if_neg hj, hr j s]
          constructor
          · rintro ⟨h1, h2⟩; exact ⟨by omega, h2⟩
          · rintro ⟨h1, h2, h3⟩
            refine ⟨?_, h2, h3⟩
            have : s ≠ t := fun q => hj (by rw [← h3, q])
            omega
theorem sl_rdl {σ : pm_S} {K : Nat → Nat} {set : Int32} {n : Nat} (hn : n ≤ 20) (hK : ∀ t, t < n → qI σ 44 t = nI (K t) ∧ K t < 5) : ∀ k t T ks, t + k = n → (∀ j, j < 5 → bt ks j = (T j).isSome) → m_sl σ set k t ks = (rdl K set k t T).1
  | 0, t, T, ks, _, _ => rfl
  | k + 1, t, T, ks, ht, h => by
    have hu : rdl K set (k + 1) t T = if sb set (nI t) = 0 then rdl K set k (t + 1) T else if (T (K t)).isSome = true then (false, T) else rdl K set k (t + 1) (oU T (K t) t) := rfl
    have hv : m_sl σ set (k + 1) t ks = if sb set (nI t) = 0 then m_sl σ set k (t + 1) ks else if sb ks (qI σ 44 t) = 1 then false else m_sl σ set k (t + 1) (ks ||| sh1 (qI σ 44 t)) := rfl
    obtain ⟨k1, k2⟩ := hK t (by omega)
    rw [hu, hv, k1]
    by_cases z : sb set (nI t) = 0
    · rw [if_pos z, if_pos z]
      exact sl_rdl hn hK k (t + 1) T ks (by omega) h
    · rw [if_neg z, if_neg z]
      by_cases y : (T (K t)).isSome = true
      · rw [if_pos y, if_pos ((sb_1 ks (by omega)).mpr (by rw [h _ k2]; exact y))]
      · rw [if_neg y, if_neg (fun q => y (by rw [← h _ k2]; exact (sb_1 ks (by omega)).mp q))]
        refine sl_rdl hn hK k (t + 1) _ _ (by omega) (fun j hj => ?_)
        rw [b_or, b_sh1 (by omega) (by omega), h j hj]
        unfold oU
        by_cases q : j = K t
        · rw [if_pos q, decide_eq_true q, Bool.or_true]; rfl
        · rw [if_neg q, decide_eq_false q, Bool.or_false]
theorem pos_nI {x : Int32} (h : 0 < x) : ∃ X, 0 < X ∧ X < 2 ^ 31 ∧ x = nI X := by
  have h1 := i_lt.mp h
  have e1 : (0 : Int32).toInt = 0 := rfl
  rw [e1] at h1
  have h3 := Int32.toInt_lt x
  refine ⟨x.toInt.toNat, by omega, by omega, ?_⟩
  rw [i_eq, nI_toInt (by omega)]
  omega
theorem set_rng {set : Int32} {n : Nat} (hn : n ≤ 20) : (1 ≤ set ∧ set ≤ sh1 (nI n) - 1) ↔ (0 < set ∧ set >>> (nI n &&& 31) = 0) := by
  have hp : 2 ^ n ≤ 2 ^ 20 := Nat.pow_le_pow_right (by decide) hn
  have hp0 : 0 < 2 ^ n := Nat.pow_pos (by decide)
  have e1 : (1 : Int32).toInt = 1 := rfl
  have e0 : (0 : Int32).toInt = 0 := rfl
  have hb : (sh1 (nI n) - 1).toInt = (2 ^ n : Nat) - 1 := by
    rw [sh1_nI (by omega)]
    exact nI_m1 (by omega)
  constructor
  · rintro ⟨h1, h2⟩
    have h0 : 0 < set := by rw [i_lt, e0]; rw [i_le, e1] at h1; omega
    refine ⟨h0, ?_⟩
    obtain ⟨X, hX0, hX, rfl⟩ := pos_nI h0
    rw [i_le, hb, nI_toInt hX] at h2
    rw [pk_shrN hX _ n (s_l n (by omega)), Nat.div_eq_of_lt (by omega)]
    rfl
  · rintro ⟨h0, h2⟩
    obtain ⟨X, hX0, hX, rfl⟩ := pos_nI h0
    rw [pk_shrN hX _ n (s_l n (by omega))] at h2
    have h3 : X / 2 ^ n = 0 := nI_inj (Nat.lt_of_le_of_lt (Nat.div_le_self _ _) hX) (by decide) h2
    have h4 : X < 2 ^ n := (Nat.div_eq_zero_iff.mp h3).resolve_left (by omega)
    rw [i_le, i_le, hb, nI_toInt hX, e1]
    omega
theorem isSt_rd {σ : pm_S} {K : Nat → Nat} {set : Int32} {n : Nat} (hn : n ≤ 20) (hK : ∀ t, t < n → qI σ 44 t = nI (K t) ∧ K t < 5) : isSt σ n set ↔ (rd K n set).1 = true := by
  unfold isSt rd
  rw [set_rng hn, sl_rdl hn hK n 0 (fun _ => none) 0 (by omega) (fun j _ => b_0 j)]
  by_cases z : 0 < set ∧ set >>> (nI n &&& 31) = 0
  · rw [if_pos z]
    exact ⟨fun h => h.2, fun h => ⟨z, h⟩⟩
  · rw [if_neg z]
    exact ⟨fun h => absurd h.1 z, fun h => absurd h (by decide)⟩
theorem rd_rep {K : Nat → Nat} {set : Int32} {n : Nat} (hn : n ≤ 20) (h : (rd K n set).1 = true) : rep K n set (rd K n set).2 ∧ ∀ s, n ≤ s → s < 32 → bt set s = false := by
  unfold rd at h ⊢
  by_cases z : 0 < set ∧ set >>> (nI n &&& 31) = 0
  · rw [if_pos z] at h ⊢
    refine ⟨rdl_ok hn n 0 (fun _ => none) (by omega) (fun j s => ⟨fun q => absurd q (by simp), fun q => absurd q.1 (Nat.not_lt_zero s)⟩) h, fun s h1 h2 => ?_⟩
    have := b_sshr n (by omega) set (i := s - n) (by omega)
    rw [z.2, b_0, show n + (s - n) = s by omega, if_pos h2] at this
    exact this.symm
  · rw [if_neg z] at h
    exact absurd h (by decide)
theorem rd_lt {K : Nat → Nat} {set : Int32} {n : Nat} (hn : n ≤ 20) : ∀ i s, (rd K n set).2 i = some s → s < n := by
  have key : ∀ k t T, t + k = n → (∀ i s, T i = some s → s < n) → ∀ i s, (rdl K set k t T).2 i = some s → s < n := by
    intro k
    induction k with
    | zero => exact fun t T _ h i s hs => h i s hs
    | succ k ih =>
      intro t T ht h i s hs
      have hu : rdl K set (k + 1) t T = if sb set (nI t) = 0 then rdl K set k (t + 1) T else if (T (K t)).isSome = true then (false, T) else rdl K set k (t + 1) (oU T (K t) t) := rfl
      rw [hu] at hs
      split at hs
      · exact ih (t + 1) T (by omega) h i s hs
      · split at hs
        · exact h i s hs
        · exact ih (t + 1) _ (by omega) (oU_lt h (by omega)) i s hs
  intro i s hs
  unfold rd at hs
  split at hs
  · exact key n 0 (fun _ => none) (by omega) (fun i s q => absurd q (by simp)) i s hs
  · exact nomatch hs
theorem tb_bt {T : Nat → Option Nat} (hT : ∀ i s, T i = some s → s < 20) {s : Nat} (hs : s < 32) : ∀ k, bt (tb T k) s = true ↔ ∃ j, j < k ∧ T j = some s
  | 0 => by
    constructor
    · intro h
      rw [show tb T 0 = 0 from rfl, b_0] at h
      exact absurd h (by decide)
    · rintro ⟨j, hj, -⟩
      omega
  | k + 1 => by
    have ih := tb_bt hT hs k
    cases hk : T k with
    | none =>
      rw [tb_n hk, ih]
      constructor
      · rintro ⟨j, h1, h2⟩; exact ⟨j, by omega, h2⟩
      · rintro ⟨j, h1, h2⟩
        have : j ≠ k := fun z => by rw [z, hk] at h2; exact nomatch h2
        exact ⟨j, by omega, h2⟩
    | some t =>
      have := hT k t hk
      rw [tb_s hk, b_or, Bool.or_eq_true, ih, b_sh1 (by omega) hs, decide_eq_true_eq]
      constructor
      · rintro (⟨j, h1, h2⟩ | h)
        · exact ⟨j, by omega, h2⟩
        · exact ⟨k, by omega, by rw [hk, h]⟩
      · rintro ⟨j, h1, h2⟩
        by_cases z : j = k
        · subst z
          rw [hk] at h2
          injection h2 with h2
          exact Or.inr h2.symm
        · exact Or.inl ⟨j, by omega, h2⟩
theorem tb_set {K : Nat → Nat} {set : Int32} {n : Nat} {T : Nat → Option Nat} (hn : n ≤ 20) (hK : ∀ t, t < n → K t < 5) (hr : rep K n set T) (hb : ∀ s, n ≤ s → s < 32 → bt set s = false) : tb T 5 = set := by
  apply b_ext
  intro s hs
  have h1 := tb_bt (T := T) (fun i s h => by have := ((hr i s).mp h).1; omega) hs 5
  rw [Bool.eq_iff_iff, h1]
  constructor
  · rintro ⟨j, hj, h⟩
    exact ((hr j s).mp h).2.1
  · intro h
    have hsn : s < n := by
      rcases Nat.lt_or_ge s n with q | q
      · exact q
      · rw [hb s q hs] at h; exact absurd h (by decide)
    exact ⟨K s, hK s hsn, (hr (K s) s).mpr ⟨hsn, h, rfl⟩⟩
/-- a set laid kind by kind is what its bits say -/
theorem rep_tb {K : Nat → Nat} {n : Nat} {T : Nat → Option Nat} (hn : n ≤ 20) (hT : ∀ j s, T j = some s → s < n ∧ K s = j) (h5 : ∀ j, 5 ≤ j → T j = none) : rep K n (tb T 5) T := fun j s => by
  constructor
  · intro h
    obtain ⟨h1, h2⟩ := hT j s h
    have hj : j < 5 := by
      rcases Nat.lt_or_ge j 5 with q | q
      · exact q
      · rw [h5 j q] at h; exact nomatch h
    exact ⟨h1, (tb_bt (fun i s h => by have := (hT i s h).1; omega) (by omega) 5).mpr ⟨j, hj, h⟩, h2⟩
  · rintro ⟨h1, h2, h3⟩
    obtain ⟨i, hi, h⟩ := (tb_bt (fun i s h => by have := (hT i s h).1; omega) (by omega) 5).mp h2
    have := (hT i s h).2
    rw [← h3, this]
    exact h
theorem akl_iff {X : Nat → List c_A} {house : Int32} {T : Nat → Option Nat} : ∀ r k, akl X house T r k = true ↔ ∀ j s, k ≤ j → j < k + r → T j = some s → akP X house s
  | 0, k => ⟨fun _ j s h1 h2 => by omega, fun _ => rfl⟩
  | r + 1, k => by
    have hu : akl X house T (r + 1) k = match T k with | none => akl X house T r (k + 1) | some t => if akP X house t then akl X house T r (k + 1) else false := rfl
    rw [hu]
    cases hk : T k with
    | none =>
      show akl X house T r (k + 1) = true ↔ _
      rw [akl_iff r (k + 1)]
      constructor
      · intro h j s h1 h2 h3
        have : j ≠ k := fun z => by rw [z, hk] at h3; exact nomatch h3
        exact h j s (by omega) (by omega) h3
      · intro h j s h1 h2 h3
        exact h j s (by omega) (by omega) h3
    | some t =>
      show (if akP X house t then akl X house T r (k + 1) else false) = true ↔ _
      by_cases z : akP X house t
      · rw [if_pos z, akl_iff r (k + 1)]
        constructor
        · intro h j s h1 h2 h3
          by_cases y : j = k
          · subst y
            rw [hk] at h3
            injection h3 with h3
            rw [← h3]; exact z
          · exact h j s (by omega) (by omega) h3
        · intro h j s h1 h2 h3
          exact h j s (by omega) (by omega) h3
      · rw [if_neg z]
        constructor
        · intro h; exact absurd h (by decide)
        · intro h
          exact absurd (h k t (Nat.le_refl k) (by omega) hk) z
theorem m_gl_iff {σ : pm_S} {e : Nat} {house set : Int32} : ∀ r t, t + r < 32 → (m_gl σ e house set r t = true ↔ ∀ s, t ≤ s → s < t + r → bt set s = true → qI σ 51 s = -1 ∧ m_ke σ e s (qI σ 43 0) = house)
  | 0, t, _ => ⟨fun _ s h1 h2 => by omega, fun _ => rfl⟩
  | r + 1, t, ht => by
    have hu : m_gl σ e house set (r + 1) t = if sb set (nI t) = 1 then (if qI σ 51 t = -1 ∧ m_ke σ e t (qI σ 43 0) = house then m_gl σ e house set r (t + 1) else false) else m_gl σ e house set r (t + 1) := rfl
    rw [hu]
    have ih := m_gl_iff (σ := σ) (e := e) (house := house) (set := set) r (t + 1) (by omega)
    by_cases z : sb set (nI t) = 1
    · rw [if_pos z]
      by_cases y : qI σ 51 t = -1 ∧ m_ke σ e t (qI σ 43 0) = house
      · rw [if_pos y, ih]
        constructor
        · intro h s h1 h2 h3
          by_cases q : s = t
          · rw [q]; exact y
          · exact h s (by omega) (by omega) h3
        · intro h s h1 h2 h3
          exact h s (by omega) (by omega) h3
      · rw [if_neg y]
        constructor
        · intro h; exact absurd h (by decide)
        · intro h
          exact absurd (h t (Nat.le_refl t) (by omega) ((sb_1 set (by omega)).mp z)) y
    · rw [if_neg z, ih]
      constructor
      · intro h s h1 h2 h3
        have : s ≠ t := fun q => z ((sb_1 set (by omega)).mpr (q ▸ h3))
        exact h s (by omega) (by omega) h3
      · intro h s h1 h2 h3
        exact h s (by omega) (by omega) h3
theorem ak_gl {σ : pm_S} {n e : Nat} {house set : Int32} {T : Nat → Option Nat} (hJ : J1 σ n e) (hr : rep (kd σ) n set T) : akl (fun t => h_s σ t e) house T 5 0 = true ↔ m_gl σ e house set n 0 = true := by
  have hn2 := hJ.1.2.1
  rw [akl_iff, m_gl_iff n 0 (by omega)]
  have hp : ∀ s, s < n → (akP (fun t => h_s σ t e) house s ↔ qI σ 51 s = -1 ∧ m_ke σ e s (qI σ 43 0) = house) := fun s hs => by
    unfold akP
    rw [show (hX (fun t => h_s σ t e) s).2.2.2.2 = 1 ↔ qI σ 51 s = -1 from (j_th hJ hs).symm, show (hX (fun t => h_s σ t e) s).2.2.1 = m_ke σ e s (qI σ 43 0) from (h_now hn2 hs hJ.2.2.2.2.2.2.2.1).2.1]
  constructor
  · intro h s _ h2 h3
    have hs : s < n := by omega
    exact (hp s hs).mp (h (kd σ s) s (by omega) (by have := (kd_ok hJ hs).2; omega) ((hr _ _).mpr ⟨hs, h3, rfl⟩))
  · intro h j s _ _ h3
    obtain ⟨h4, h5, -⟩ := (hr j s).mp h3
    exact (hp s h4).mpr (h s (by omega) (by omega) h5)
