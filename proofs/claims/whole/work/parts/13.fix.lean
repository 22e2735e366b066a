/-! ===== the fixed cells: 6 .. 67 ===== -/
def pm_tgl : List Nat := [0, 0, 0, 0, 0, 0, 11, 6, 22, 3, 23, 20, 20, 20, 20, 20, 20, 7, 21, 4, 20, 20, 20, 20, 4, 20, 20, 20, 20, 5, 10, 20, 20, 20, 8, 22, 2, 20, 1, 8, 22, 2, 20, 12, 20, 20, 20, 20, 20, 20, 20, 20, 20, 20, 20, 20, 20, 20, 20, 20, 20, 20, 20, 20, 20, 20, 20, 20]
def pm_lnl : List Nat := [0, 0, 0, 0, 0, 0, 0, 0, 20, 0, 5, 60, 60, 60, 60, 60, 400, 0, 600, 0, 300, 300, 300, 12, 0, 300, 300, 300, 12, 0, 0, 601, 601, 601, 0, 5, 0, 22, 0, 0, 5, 0, 22, 0, 20, 20, 20, 20, 20, 20, 20, 20, 300, 300, 300, 300, 60, 60, 60, 60, 60, 13, 620, 13, 620, 620, 600, 5]
def pm_fin : List (Nat × Nat × Nat) := [(6, 2, 7), (6, 3, 9), (6, 4, 17), (6, 5, 29), (6, 8, 34), (6, 9, 36), (6, 10, 38), (7, 0, 8), (9, 0, 10), (9, 1, 16), (10, 0, 11), (10, 1, 12), (10, 2, 13), (10, 3, 14), (10, 4, 15), (17, 0, 18), (19, 0, 20), (19, 1, 21), (19, 2, 22), (19, 3, 23), (24, 0, 25), (24, 1, 26), (24, 2, 27), (24, 3, 28), (29, 0, 30), (30, 0, 17), (30, 1, 31), (30, 2, 32), (30, 3, 33), (34, 0, 35), (36, 0, 37), (38, 0, 7), (38, 1, 9), (38, 2, 39), (38, 3, 41), (39, 0, 40), (41, 0, 42), (43, 4, 44), (43, 5, 45), (43, 6, 46), (43, 7, 47), (43, 8, 48), (43, 9, 49), (43, 10, 50), (43, 11, 51), (43, 12, 52), (43, 13, 53), (43, 14, 54), (43, 15, 55), (43, 16, 56), (43, 17, 57), (43, 18, 58), (43, 19, 59), (43, 20, 60), (43, 24, 61), (43, 25, 62), (43, 26, 63), (43, 27, 64), (43, 28, 65), (43, 29, 66), (43, 40, 67)]
def pm_tg (a : Nat) : Nat := pm_tgl.getD a 0
def pm_ln (a : Nat) : Nat := pm_lnl.getD a 0
/-- the fixed cells stand as they were made -/
def pm_fix (σ : pm_S) : Prop := 68 ≤ qN σ ∧ (∀ a, 6 ≤ a → a < 68 → qT σ a = pm_tg a ∧ qL σ a = pm_ln a) ∧ ∀ q ∈ pm_fin, qR σ q.1 q.2.1 = q.2.2
theorem pm_fix.at {σ τ : pm_S} {a : Nat} (h : pm_fix σ) (h1 : qT τ = qT σ) (h2 : qN τ = qN σ) (ha : (Nat.ble 6 a && Nat.blt a 68) = true) : pm_is τ a (pm_tg a) := by
  simp only [Bool.and_eq_true] at ha
  have h6 : 6 ≤ a := Nat.le_of_ble_eq_true ha.1
  have h68 : a < 68 := Nat.le_of_ble_eq_true ha.2
  exact ⟨by omega, by rw [h2]; exact Nat.lt_of_lt_of_le h68 h.1, by rw [h1]; exact (h.2.1 a h6 h68).1⟩
theorem pm_fix.ln {σ τ : pm_S} {a : Nat} (h : pm_fix σ) (h1 : qL τ = qL σ) (ha : (Nat.ble 6 a && Nat.blt a 68) = true) : qL τ a = pm_ln a := by
  simp only [Bool.and_eq_true] at ha
  rw [h1]
  exact (h.2.1 a (Nat.le_of_ble_eq_true ha.1) (Nat.le_of_ble_eq_true ha.2)).2
theorem pm_fix.rf {σ τ : pm_S} (h : pm_fix σ) (q : Nat × Nat × Nat) (h1 : qR τ = qR σ) (hq : q ∈ pm_fin) : qR τ q.1 q.2.1 = q.2.2 := by rw [h1]; exact h.2.2 q hq
theorem pm_fix.to {σ τ : pm_S} (h : pm_fix σ) (h1 : qT τ = qT σ) (h2 : qL τ = qL σ) (h3 : qN τ = qN σ) (h4 : qR τ = qR σ) : pm_fix τ := by
  unfold pm_fix
  rw [h1, h2, h3, h4]
  exact h
theorem pm_fix.sI {σ : pm_S} {a k : Nat} {x : Int32} (h : pm_fix σ) : pm_fix (pm_sI σ a k x) := h.to rfl rfl rfl rfl
theorem pm_fix.sR {σ : pm_S} {a k x : Nat} (h : pm_fix σ) (hq : pm_fin.all (fun q => !(q.1 == a && q.2.1 == k)) = true) : pm_fix (pm_sR σ a k x) := by
  refine ⟨h.1, h.2.1, fun q hm => ?_⟩
  have h1 := List.all_eq_true.mp hq q hm
  simp only [Bool.not_eq_true', Bool.and_eq_false_iff, beq_eq_false_iff_ne] at h1
  show (if q.1 = a ∧ q.2.1 = k then x else qR σ q.1 q.2.1) = q.2.2
  rw [if_neg (fun z => h1.elim (fun h1 => h1 z.1) (fun h1 => h1 z.2))]
  exact h.2.2 q hm
/-- a cell further on -/
theorem pm_fix.sRd {σ : pm_S} {a k x : Nat} (h : pm_fix σ) (ha : 68 ≤ a) : pm_fix (pm_sR σ a k x) := by
  refine h.sR (List.all_eq_true.mpr fun q hm => ?_)
  have h2 : q.1 < 68 := by
    have h3 : pm_fin.all (fun q => Nat.blt q.1 68) = true := by decide
    exact Nat.le_of_ble_eq_true (List.all_eq_true.mp h3 q hm)
  simp only [Bool.not_eq_true', Bool.and_eq_false_iff, beq_eq_false_iff_ne]
  left
  omega
theorem pm_fix.nw {σ : pm_S} {t n : Nat} (h : pm_fix σ) : pm_fix (pm_nw σ t n) := by
  obtain ⟨h1, h2, h3⟩ := h
  refine ⟨by show 68 ≤ qN σ + 1; omega, fun a ha hb => ?_, fun q hm => ?_⟩
  · rw [qT_nw_ne (by omega), qL_nw_ne (by omega)]
    exact h2 a ha hb
  · have h4 : q.1 < 68 := by
      have h5 : pm_fin.all (fun q => Nat.blt q.1 68) = true := by decide
      exact Nat.le_of_ble_eq_true (List.all_eq_true.mp h5 q hm)
    show (if q.1 = qN σ then 0 else qR σ q.1 q.2.1) = q.2.2
    rw [if_neg (by omega)]
    exact h3 q hm
/-! ===== a few more rows ===== -/
def bI (p : Prop) [Decidable p] : Int32 := if p then 1 else 0
theorem bI_t {p : Prop} [Decidable p] (h : p) : bI p = 1 := if_pos h
theorem bI_f {p : Prop} [Decidable p] (h : ¬ p) : bI p = 0 := if_neg h
theorem bI_0 {p : Prop} [Decidable p] : bI p = 0 ↔ ¬ p := by
  unfold bI; split
  · exact ⟨fun h => absurd h (by decide), fun h => absurd ‹p› h⟩
  · exact ⟨fun _ => ‹¬ p›, fun _ => rfl⟩
theorem bI_n {p : Prop} [Decidable p] : ¬ bI p = 0 ↔ p := by
  rw [bI_0]; exact Decidable.not_not
theorem bI_01 {p : Prop} [Decidable p] : bI p = 0 ∨ bI p = 1 := by unfold bI; split <;> simp
theorem bI_c {p q : Prop} [Decidable p] [Decidable q] (h : p ↔ q) : bI p = bI q := by
  unfold bI; by_cases hp : p
  · rw [if_pos hp, if_pos (h.mp hp)]
  · rw [if_neg hp, if_neg (fun z => hp (h.mpr z))]
theorem bI_nar {p : Prop} [Decidable p] : narrow .boolean (.int (bI p)) = .int (bI p) := by unfold bI; split <;> rfl
theorem pm_m1 (x : Int32) : x + Int32.ofInt (-1) = x - 1 := by
  rw [Int32.sub_eq_add_neg]; rfl
section PMX
variable {d al : Nat} {M : pm_M} {pc : Nat} {ls st : List Value} {σ : pm_S} {Q : Option Value → pm_S → Prop}
theorem pw_getF {t k idx a v : Nat} (hd : decode M.2.1 pc = .ok (.getfield idx, 3)) (hf : pm_fl M.1.cls idx t k) (hr : pm_rf t k = true) (ha : pm_is σ a t) (hv : qR σ a k = v) (kk : PW d al M (pc + 3) ls (.ref v :: st) σ Q) : PW d al M pc ls (.ref a :: st) σ Q :=
  pw_getR hd hf hr ha (by rw [hv]; exact kk)
theorem pw_aaldF {a k t v : Nat} {j : Int32} (hd : decode M.2.1 pc = .ok (.aaload, 1)) (ha : pm_is σ a t) (ht : t = 22 ∨ t = 23) (hj : j = nI k) (hk : k < qL σ a) (hb : k < 2 ^ 31) (hv : qR σ a k = v) (kk : PW d al M (pc + 1) ls (.ref v :: st) σ Q) : PW d al M pc ls (.int j :: .ref a :: st) σ Q :=
  pw_aald hd ha ht hj hk hb (by rw [hv]; exact kk)
theorem pw_iinc1 {i : Nat} {x : Int32} (hd : decode M.2.1 pc = .ok (.iinc i 1, 3)) (hl : ls[i]? = some (.int x)) (hn : i < M.2.2.1) (hi : i < ls.length) (hnl : pm_nl ls i = true) (k : PW d al M (pc + 3) (ls.set i (.int (x + 1))) st σ Q) : PW d al M pc ls st σ Q :=
  pw_iinc hd hl hn hi hnl k
theorem pw_iincm1 {i : Nat} {x : Int32} (hd : decode M.2.1 pc = .ok (.iinc i (-1), 3)) (hl : ls[i]? = some (.int x)) (hn : i < M.2.2.1) (hi : i < ls.length) (hnl : pm_nl ls i = true) (k : PW d al M (pc + 3) (ls.set i (.int (x - 1))) st σ Q) : PW d al M pc ls st σ Q :=
  pw_iinc hd hl hn hi hnl (by rw [show x + Int32.ofInt (-1) = x - 1 from pm_m1 x]; exact k)
end PMX
/-- an exact run: the answer and the state behind it -/
def PE (d al : Nat) (M : pm_M) (av : List Value) (σ : pm_S) (r : Option Value) (τ : pm_S) : Prop := PM d al M av σ (fun r' τ' => r' = r ∧ τ' = τ)
