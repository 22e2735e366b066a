/-! ===== the history of a thing, out of the reference's events ===== -/
def h_st (kind house day : Int32) (x : c_A) : c_A := if kind = 0 then (day, house, house, x.2.2.2.1 + 1, 1) else if kind = 1 then (day, x.2.1, house, x.2.2.2.1, 1) else if kind = 2 then (day, x.2.1, x.2.1, x.2.2.2.1, 1) else (day, x.2.1, x.2.2.1, x.2.2.2.1, 0)
def h_s (σ : pm_S) (t : Nat) : Nat → List c_A
  | 0 => [(qI σ 48 t, qI σ 50 t, qI σ 50 t, 0, 1)]
  | e + 1 => if qI σ 52 e = nI t then h_st (qI σ 53 e) (qI σ 54 e) (qI σ 55 e) ((h_s σ t e).headD (0, 0, 0, 0, 0)) :: h_s σ t e else h_s σ t e
theorem h_s_s (σ : pm_S) (t e : Nat) : h_s σ t (e + 1) = if qI σ 52 e = nI t then h_st (qI σ 53 e) (qI σ 54 e) (qI σ 55 e) ((h_s σ t e).headD (0, 0, 0, 0, 0)) :: h_s σ t e else h_s σ t e := rfl
theorem h_s_ne (σ : pm_S) (t : Nat) : ∀ e, ∃ x xs, h_s σ t e = x :: xs
  | 0 => ⟨_, _, rfl⟩
  | e + 1 => by
    rw [h_s_s]
    split
    · exact ⟨_, _, rfl⟩
    · exact h_s_ne σ t e
/-- it depends on the thing's first cells and on the events alone -/
theorem h_s_cg {σ τ : pm_S} {t : Nat} (h1 : qI τ 48 t = qI σ 48 t) (h2 : qI τ 50 t = qI σ 50 t) : ∀ e, (∀ i, i < e → qI τ 52 i = qI σ 52 i ∧ qI τ 53 i = qI σ 53 i ∧ qI τ 54 i = qI σ 54 i ∧ qI τ 55 i = qI σ 55 i) → h_s τ t e = h_s σ t e
  | 0, _ => by
    show [_] = [_]
    rw [h1, h2]
  | e + 1, h => by
    obtain ⟨a, b, c, d⟩ := h e (Nat.lt_succ_self e)
    rw [h_s_s, h_s_s, a, b, c, d, h_s_cg h1 h2 e (fun i hi => h i (Nat.lt_succ_of_lt hi))]
theorem m_ow_cg {σ τ : pm_S} {t day o : Int32} : ∀ e, (∀ i, i < e → qI τ 52 i = qI σ 52 i ∧ qI τ 53 i = qI σ 53 i ∧ qI τ 54 i = qI σ 54 i ∧ qI τ 55 i = qI σ 55 i) → m_ow τ t day o e = m_ow σ t day o e
  | 0, _ => rfl
  | e + 1, h => by
    obtain ⟨a, b, c, d⟩ := h e (Nat.lt_succ_self e)
    rw [m_ow_s, m_ow_s, a, b, c, d, m_ow_cg e (fun i hi => h i (Nat.lt_succ_of_lt hi))]
theorem m_le_cg {σ τ : pm_S} {t day : Int32} : ∀ e, (∀ i, i < e → qI τ 52 i = qI σ 52 i ∧ qI τ 53 i = qI σ 53 i ∧ qI τ 54 i = qI σ 54 i ∧ qI τ 55 i = qI σ 55 i) → m_le τ t day e = m_le σ t day e
  | 0, _ => rfl
  | e + 1, h => by
    obtain ⟨a, b, c, d⟩ := h e (Nat.lt_succ_self e)
    rw [m_le_s, m_le_s, a, b, c, d, m_le_cg e (fun i hi => h i (Nat.lt_succ_of_lt hi))]
/-- the head of a history -/
abbrev h_h (σ : pm_S) (t e : Nat) : c_A := (h_s σ t e).headD (0, 0, 0, 0, 0)
theorem h_h_cons (σ : pm_S) (t e : Nat) : ∃ xs, h_s σ t e = h_h σ t e :: xs := by
  obtain ⟨x, xs, h⟩ := h_s_ne σ t e
  exact ⟨xs, by unfold h_h; rw [h]; rfl⟩
theorem h_h_s (σ : pm_S) (t e : Nat) : h_h σ t (e + 1) = if qI σ 52 e = nI t then h_st (qI σ 53 e) (qI σ 54 e) (qI σ 55 e) (h_h σ t e) else h_h σ t e := by
  unfold h_h
  rw [h_s_s]
  split <;> rfl
/-- an event fits what went before -/
def h_ok (kind house : Int32) (y : c_A) : Prop := y.2.2.2.2 = 1 ∧ ((kind = 0 ∧ y.2.2.1 = y.2.1 ∧ 0 ≤ house) ∨ (kind = 1 ∧ y.2.2.1 = y.2.1 ∧ house ≠ y.2.1 ∧ 0 ≤ house) ∨ (kind = 2 ∧ y.2.2.1 ≠ y.2.1) ∨ kind = 3)
/-- the events are in order and fit -/
def h_ev (σ : pm_S) (n e : Nat) : Prop := (∀ i j, i ≤ j → j < e → qI σ 55 i ≤ qI σ 55 j) ∧ (∀ i, i < e → qI σ 55 i ≤ qI σ 43 0) ∧ (∀ i, i < e → ∃ t, t < n ∧ qI σ 52 i = nI t ∧ qI σ 48 t ≤ qI σ 55 i ∧ h_ok (qI σ 53 i) (qI σ 54 i) (h_h σ t i)) ∧ ∀ t, t < n → 0 ≤ qI σ 50 t ∧ 0 ≤ qI σ 48 t ∧ qI σ 48 t ≤ qI σ 43 0
theorem h_ev.less {σ : pm_S} {n e k : Nat} (h : h_ev σ n e) (hk : k ≤ e) : h_ev σ n k := ⟨fun i j hij hj => h.1 i j hij (by omega), fun i hi => h.2.1 i (by omega), fun i hi => h.2.2.1 i (by omega), h.2.2.2⟩
theorem i_trans {a b c : Int32} (h1 : a ≤ b) (h2 : b ≤ c) : a ≤ c := Int32.le_trans h1 h2
/-- the event's own thing -/
theorem h_ev.own {σ : pm_S} {n e i t : Nat} (h : h_ev σ n e) (hn : n ≤ 20) (hi : i < e) (ht : t < n) (hit : qI σ 52 i = nI t) : qI σ 48 t ≤ qI σ 55 i ∧ h_ok (qI σ 53 i) (qI σ 54 i) (h_h σ t i) := by
  obtain ⟨t', h1, h2, h3, h4⟩ := h.2.2.1 i hi
  have : t' = t := nI_inj (by omega) (by omega) (h2.symm.trans hit)
  subst this
  exact ⟨h3, h4⟩
theorem h_st_day (k o d : Int32) (x : c_A) : (h_st k o d x).1 = d := by unfold h_st; split <;> first | rfl | (split <;> first | rfl | (split <;> rfl))
/-- no act is later than what bounds all -/
theorem h_days {σ : pm_S} {t : Nat} {D : Int32} (h0 : qI σ 48 t ≤ D) : ∀ e, (∀ i, i < e → qI σ 55 i ≤ D) → ∀ x ∈ h_s σ t e, x.1 ≤ D
  | 0, _, x, hx => by
    have : x = (qI σ 48 t, qI σ 50 t, qI σ 50 t, 0, 1) := by simpa [h_s] using hx
    rw [this]; exact h0
  | e + 1, h, x, hx => by
    rw [h_s_s] at hx
    split at hx
    · rcases List.mem_cons.mp hx with rfl | hx
      · rw [h_st_day]; exact h e (Nat.lt_succ_self e)
      · exact h_days h0 e (fun i hi => h i (Nat.lt_succ_of_lt hi)) x hx
    · exact h_days h0 e (fun i hi => h i (Nat.lt_succ_of_lt hi)) x hx
theorem dW_none {day : Int32} {l : List c_A} (h : ∀ x ∈ l, x.1 ≤ day) : l.dropWhile (fun x => decide (¬ x.1 ≤ day)) = l := by
  cases l with
  | nil => rfl
  | cons x xs =>
    rw [List.dropWhile_cons, if_neg]
    simp [h x List.mem_cons_self]
/-- who has it on a day: the chain's answer is the events' answer -/
theorem h_A {σ : pm_S} {n t : Nat} {day : Int32} (hn : n ≤ 20) (ht : t < n) (h0 : qI σ 48 t ≤ day) : ∀ e, h_ev σ n e → ∃ z zs, (h_s σ t e).dropWhile (fun x => decide (¬ x.1 ≤ day)) = z :: zs ∧ z.2.1 = m_ow σ (nI t) day (qI σ 50 t) e ∧ z.2.2.1 = m_ke σ e t day ∧ (z.2.2.1 = z.2.1 ↔ m_le σ (nI t) day e = -1) ∧ (0 ≤ z.2.1 ∧ 0 ≤ z.2.2.1)
  | 0, he => by
    refine ⟨_, _, dW_none (h_days h0 0 (fun i hi => absurd hi (Nat.not_lt_zero i))), rfl, ?_, ?_, ?_⟩
    · show qI σ 50 t = m_ke σ 0 t day
      unfold m_ke
      rw [if_pos (show m_le σ (nI t) day 0 = -1 from rfl)]
      rfl
    · exact ⟨fun _ => rfl, fun _ => rfl⟩
    · exact ⟨(he.2.2.2 t ht).1, (he.2.2.2 t ht).1⟩
  | e + 1, he => by
    have ih := h_A hn ht h0 e (he.less (Nat.le_succ e))
    obtain ⟨z, zs, i1, i2, i3, i4, i5⟩ := ih
    rw [h_s_s]
    by_cases hq : qI σ 52 e = nI t
    · rw [if_pos hq]
      obtain ⟨hca, hok⟩ := he.own hn (Nat.lt_succ_self e) ht hq
      by_cases hd : qI σ 55 e ≤ day
      · -- nothing is dropped
        have hall : ∀ x ∈ h_s σ t e, x.1 ≤ day := fun x hx => i_trans (h_days hca e (fun i hi => he.1 i e (by omega) (Nat.lt_succ_self e)) x hx) hd
        rw [dW_none hall] at i1
        have hz : h_h σ t e = z := by unfold h_h; rw [i1]; rfl
        have hall2 : ∀ x ∈ h_st (qI σ 53 e) (qI σ 54 e) (qI σ 55 e) (h_h σ t e) :: h_s σ t e, x.1 ≤ day := fun x hx => by
          rcases List.mem_cons.mp hx with rfl | hx
          · rw [h_st_day]; exact hd
          · exact hall x hx
        rw [hz] at hok hall2
        refine ⟨_, _, by rw [show (h_s σ t e).headD (0, 0, 0, 0, 0) = z from hz]; exact dW_none hall2, ?_⟩
        obtain ⟨-, hk⟩ := hok
        unfold m_ke
        rw [m_ow_s, m_le_s]
        rcases hk with ⟨k0, k1, k2⟩ | ⟨k0, k1, k2, k3⟩ | ⟨k0, k1⟩ | k0
        · have hle := i4.mp k1
          rw [k0, if_pos ⟨hq, rfl, hd⟩, if_neg (c := qI σ 52 e = nI t ∧ _ ∧ _) (fun y => absurd y.2.1.1 (by decide)), hle, if_pos rfl]
          exact ⟨rfl, rfl, ⟨fun _ => rfl, fun _ => rfl⟩, k2, k2⟩
        · have hne : qI σ 54 e ≠ -1 := fun y => by rw [y] at k3; exact absurd k3 (by decide)
          have c1 : qI σ 52 e = nI t ∧ (1 ≤ (1 : Int32) ∧ (1 : Int32) ≤ 2) ∧ qI σ 55 e ≤ day := ⟨hq, by decide, hd⟩
          rw [k0, if_neg (c := qI σ 52 e = nI t ∧ _ ∧ _) (fun y => absurd y.2.1 (by decide)), if_pos c1, if_pos (c := (1 : Int32) = 1) rfl, if_neg hne]
          exact ⟨i2, rfl, ⟨fun y => absurd y k2, fun y => absurd y hne⟩, i5.1, k3⟩
        · have c1 : qI σ 52 e = nI t ∧ (1 ≤ (2 : Int32) ∧ (2 : Int32) ≤ 2) ∧ qI σ 55 e ≤ day := ⟨hq, by decide, hd⟩
          rw [k0, if_neg (c := qI σ 52 e = nI t ∧ _ ∧ _) (fun y => absurd y.2.1 (by decide)), if_pos c1, if_neg (c := (2 : Int32) = 1) (by decide), if_pos (c := (-1 : Int32) = -1) rfl]
          exact ⟨i2, i2, ⟨fun _ => rfl, fun _ => rfl⟩, i5.1, i5.1⟩
        · rw [k0, if_neg (c := qI σ 52 e = nI t ∧ _ ∧ _) (fun y => absurd y.2.1 (by decide)), if_neg (c := qI σ 52 e = nI t ∧ _ ∧ _) (fun y => absurd y.2.1.2 (by decide))]
          exact ⟨i2, i3, i4, i5.1, i5.2⟩
      · -- the event is later than the day
        refine ⟨z, zs, ?_, ?_⟩
        · rw [List.dropWhile_cons, if_pos]
          · exact i1
          · rw [h_st_day]; simpa using hd
        · unfold m_ke
          rw [m_ow_s, m_le_s, if_neg (c := qI σ 52 e = nI t ∧ _ ∧ _) (fun y => hd y.2.2), if_neg (c := qI σ 52 e = nI t ∧ _ ∧ _) (fun y => hd y.2.2)]
          exact ⟨i2, i3, i4, i5⟩
    · rw [if_neg hq]
      refine ⟨z, zs, i1, ?_⟩
      unfold m_ke
      rw [m_ow_s, m_le_s, if_neg (c := qI σ 52 e = nI t ∧ _ ∧ _) (fun y => hq y.1), if_neg (c := qI σ 52 e = nI t ∧ _ ∧ _) (fun y => hq y.1)]
      exact ⟨i2, i3, i4, i5⟩
/-- and now -/
theorem h_now {σ : pm_S} {n t e : Nat} (hn : n ≤ 20) (ht : t < n) (he : h_ev σ n e) : (h_h σ t e).2.1 = m_ow σ (nI t) (qI σ 43 0) (qI σ 50 t) e ∧ (h_h σ t e).2.2.1 = m_ke σ e t (qI σ 43 0) ∧ ((h_h σ t e).2.2.1 = (h_h σ t e).2.1 ↔ m_le σ (nI t) (qI σ 43 0) e = -1) ∧ (0 ≤ (h_h σ t e).2.1 ∧ 0 ≤ (h_h σ t e).2.2.1) := by
  have hc := (he.2.2.2 t ht).2.2
  obtain ⟨z, zs, i1, i2, i3, i4, i5⟩ := h_A (day := qI σ 43 0) hn ht hc e he
  rw [dW_none (h_days hc e (fun i hi => he.2.1 i hi))] at i1
  have hz : h_h σ t e = z := by unfold h_h; rw [i1]; rfl
  rw [hz]
  exact ⟨i2, i3, i4, i5⟩
