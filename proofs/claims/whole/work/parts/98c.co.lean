/-! ===== the constructors: cells by tables ===== -/
def lk3 : List (Nat × Nat × Nat) → Nat → Nat → Nat
  | [], _, _ => 0
  | q :: l, b, j => if b = q.1 ∧ j = q.2.1 then q.2.2 else lk3 l b j
def lkI : List (Nat × Nat × Int32) → Nat → Nat → Int32
  | [], _, _ => 0
  | q :: l, b, j => if b = q.1 ∧ j = q.2.1 then q.2.2 else lkI l b j
theorem lk3_no {b : Nat} : ∀ {l : List (Nat × Nat × Nat)}, l.all (fun q => !(q.1 == b)) = true → ∀ j, lk3 l b j = 0
  | [], _, _ => rfl
  | q :: l, h, j => by
    rw [List.all_cons, Bool.and_eq_true] at h
    have h1 : q.1 ≠ b := by simpa using h.1
    show (if b = q.1 ∧ j = q.2.1 then q.2.2 else lk3 l b j) = 0
    rw [if_neg (fun z => h1 z.1.symm)]
    exact lk3_no h.2 j
theorem lkI_no {b : Nat} : ∀ {l : List (Nat × Nat × Int32)}, l.all (fun q => !(q.1 == b)) = true → ∀ j, lkI l b j = 0
  | [], _, _ => rfl
  | q :: l, h, j => by
    rw [List.all_cons, Bool.and_eq_true] at h
    have h1 : q.1 ≠ b := by simpa using h.1
    show (if b = q.1 ∧ j = q.2.1 then q.2.2 else lkI l b j) = 0
    rw [if_neg (fun z => h1 z.1.symm)]
    exact lkI_no h.2 j
theorem lk3_lt {c b : Nat} (hb : c ≤ b) : ∀ {l : List (Nat × Nat × Nat)}, l.all (fun q => Nat.blt q.1 c) = true → ∀ j, lk3 l b j = 0
  | [], _, _ => rfl
  | q :: l, h, j => by
    rw [List.all_cons, Bool.and_eq_true] at h
    have h1 : q.1 < c := Nat.le_of_ble_eq_true h.1
    show (if b = q.1 ∧ j = q.2.1 then q.2.2 else lk3 l b j) = 0
    rw [if_neg (fun z => by omega)]
    exact lk3_lt hb h.2 j
theorem lkI_lt {c b : Nat} (hb : c ≤ b) : ∀ {l : List (Nat × Nat × Int32)}, l.all (fun q => Nat.blt q.1 c) = true → ∀ j, lkI l b j = 0
  | [], _, _ => rfl
  | q :: l, h, j => by
    rw [List.all_cons, Bool.and_eq_true] at h
    have h1 : q.1 < c := Nat.le_of_ble_eq_true h.1
    show (if b = q.1 ∧ j = q.2.1 then q.2.2 else lkI l b j) = 0
    rw [if_neg (fun z => by omega)]
    exact lkI_lt hb h.2 j
def mkS (L : Nat) (xs : Nat → Int32) (N dt dl : Nat) (rr : List (Nat × Nat × Nat)) (ri : List (Nat × Nat × Int32)) : pm_S := (fun b j => if b < 6 then qI (pm_s0 L xs) b j else lkI ri b j, fun b j => if b < 6 then qR (pm_s0 L xs) b j else lk3 rr b j, fun b => if b < 6 then qT (pm_s0 L xs) b else if b < N then pm_tg b else dt, fun b => if b < 6 then qL (pm_s0 L xs) b else if b < N then pm_ln b else dl, N)
section MKS
variable {L : Nat} {xs : Nat → Int32} {N N2 dt dl t n a k x v : Nat} {rr : List (Nat × Nat × Nat)} {ri : List (Nat × Nat × Int32)}
theorem mk_N : qN (mkS L xs N dt dl rr ri) = N := rfl
theorem mk_is (h : (Nat.ble 6 a && Nat.blt a N) = true) : pm_is (mkS L xs N dt dl rr ri) a (pm_tg a) := by
  simp only [Bool.and_eq_true] at h
  have h6 : 6 ≤ a := Nat.le_of_ble_eq_true h.1
  have hN : a < N := Nat.le_of_ble_eq_true h.2
  refine ⟨by omega, hN, ?_⟩
  show (if a < 6 then _ else if a < N then pm_tg a else dt) = _
  rw [if_neg (by omega), if_pos hN]
theorem mk_R (h : Nat.ble 6 a = true) (e : lk3 rr a k = v) : qR (mkS L xs N dt dl rr ri) a k = v := by
  have h6 : 6 ≤ a := Nat.le_of_ble_eq_true h
  show (if a < 6 then _ else lk3 rr a k) = v
  rw [if_neg (by omega)]; exact e
theorem mk_I {v : Int32} (h : Nat.ble 6 a = true) (e : lkI ri a k = v) : qI (mkS L xs N dt dl rr ri) a k = v := by
  have h6 : 6 ≤ a := Nat.le_of_ble_eq_true h
  show (if a < 6 then _ else lkI ri a k) = v
  rw [if_neg (by omega)]; exact e
theorem mk_nw (hN : N + 1 = N2) (h6 : Nat.ble 6 N = true) (ht : pm_tg N = t) (hn : pm_ln N = n) (hr : rr.all (fun q => !(q.1 == N)) = true) (hi : ri.all (fun q => !(q.1 == N)) = true) : pm_nw (mkS L xs N dt dl rr ri) t n = mkS L xs N2 dt dl rr ri := by
  subst hN; subst ht; subst hn
  have h6 : 6 ≤ N := Nat.le_of_ble_eq_true h6
  refine Prod.ext (funext fun b => funext fun j => ?_) (Prod.ext (funext fun b => funext fun j => ?_) (Prod.ext (funext fun b => ?_) (Prod.ext (funext fun b => ?_) rfl)))
  · show (if b = N then 0 else if b < 6 then qI (pm_s0 L xs) b j else lkI ri b j) = if b < 6 then qI (pm_s0 L xs) b j else lkI ri b j
    by_cases z : b = N
    · subst z
      rw [if_pos rfl, if_neg (by omega), lkI_no hi]
    · rw [if_neg z]
  · show (if b = N then 0 else if b < 6 then qR (pm_s0 L xs) b j else lk3 rr b j) = if b < 6 then qR (pm_s0 L xs) b j else lk3 rr b j
    by_cases z : b = N
    · subst z
      rw [if_pos rfl, if_neg (by omega), lk3_no hr]
    · rw [if_neg z]
  · show (if b = N then pm_tg N else if b < 6 then qT (pm_s0 L xs) b else if b < N then pm_tg b else dt) = if b < 6 then qT (pm_s0 L xs) b else if b < N + 1 then pm_tg b else dt
    by_cases z : b = N
    · subst z
      rw [if_pos rfl, if_neg (by omega), if_pos (by omega)]
    · rw [if_neg z]
      by_cases y : b < 6
      · rw [if_pos y, if_pos y]
      · rw [if_neg y, if_neg y]
        by_cases w : b < N
        · rw [if_pos w, if_pos (by omega)]
        · rw [if_neg w, if_neg (by omega)]
  · show (if b = N then pm_ln N else if b < 6 then qL (pm_s0 L xs) b else if b < N then pm_ln b else dl) = if b < 6 then qL (pm_s0 L xs) b else if b < N + 1 then pm_ln b else dl
    by_cases z : b = N
    · subst z
      rw [if_pos rfl, if_neg (by omega), if_pos (by omega)]
    · rw [if_neg z]
      by_cases y : b < 6
      · rw [if_pos y, if_pos y]
      · rw [if_neg y, if_neg y]
        by_cases w : b < N
        · rw [if_pos w, if_pos (by omega)]
        · rw [if_neg w, if_neg (by omega)]
theorem mk_sR (h : Nat.ble 6 a = true) : pm_sR (mkS L xs N dt dl rr ri) a k x = mkS L xs N dt dl ((a, k, x) :: rr) ri := by
  have h6 : 6 ≤ a := Nat.le_of_ble_eq_true h
  refine Prod.ext rfl (Prod.ext (funext fun b => funext fun j => ?_) rfl)
  show (if b = a ∧ j = k then x else if b < 6 then qR (pm_s0 L xs) b j else lk3 rr b j) = if b < 6 then qR (pm_s0 L xs) b j else if b = a ∧ j = k then x else lk3 rr b j
  by_cases z : b = a ∧ j = k
  · rw [if_pos z, if_neg (by omega), if_pos z]
  · rw [if_neg z, if_neg z]
theorem mk_sI {y : Int32} (h : Nat.ble 6 a = true) : pm_sI (mkS L xs N dt dl rr ri) a k y = mkS L xs N dt dl rr ((a, k, y) :: ri) := by
  have h6 : 6 ≤ a := Nat.le_of_ble_eq_true h
  refine Prod.ext (funext fun b => funext fun j => ?_) rfl
  show (if b = a ∧ j = k then y else if b < 6 then qI (pm_s0 L xs) b j else lkI ri b j) = if b < 6 then qI (pm_s0 L xs) b j else if b = a ∧ j = k then y else lkI ri b j
  by_cases z : b = a ∧ j = k
  · rw [if_pos z, if_neg (by omega), if_pos z]
  · rw [if_neg z, if_neg z]
theorem mk_mn (hr : rr.all (fun q => Nat.blt q.1 10) = true) (hi : ri.all (fun q => Nat.blt q.1 10) = true) : pm_mn (mkS L xs 10 21 0 rr ri) = mkS L xs 16 20 60 ((10, 4, 15) :: (10, 3, 14) :: (10, 2, 13) :: (10, 1, 12) :: (10, 0, 11) :: rr) ri := by
  refine Prod.ext (funext fun b => funext fun j => ?_) (Prod.ext (funext fun b => funext fun j => ?_) (Prod.ext (funext fun b => ?_) (Prod.ext (funext fun b => ?_) rfl)))
  · show (if 10 ≤ b then 0 else if b < 6 then qI (pm_s0 L xs) b j else lkI ri b j) = if b < 6 then qI (pm_s0 L xs) b j else lkI ri b j
    by_cases z : 10 ≤ b
    · rw [if_pos z, if_neg (by omega), lkI_lt z hi]
    · rw [if_neg z]
  · show (if b = 10 then (if j < 5 then 10 + 1 + j else 0) else if 10 ≤ b then 0 else if b < 6 then qR (pm_s0 L xs) b j else lk3 rr b j) = if b < 6 then qR (pm_s0 L xs) b j else if b = 10 ∧ j = 4 then 15 else if b = 10 ∧ j = 3 then 14 else if b = 10 ∧ j = 2 then 13 else if b = 10 ∧ j = 1 then 12 else if b = 10 ∧ j = 0 then 11 else lk3 rr b j
    by_cases z : b = 10
    · subst z
      rw [if_pos rfl, if_neg (show ¬ (10 : Nat) < 6 by decide)]
      by_cases y : j < 5
      · rw [if_pos y]
        have : j = 0 ∨ j = 1 ∨ j = 2 ∨ j = 3 ∨ j = 4 := by omega
        rcases this with rfl | rfl | rfl | rfl | rfl <;> rfl
      · rw [if_neg y, if_neg (by omega), if_neg (by omega), if_neg (by omega), if_neg (by omega), if_neg (by omega), lk3_lt (Nat.le_refl _) hr]
    · have hh : ∀ m, ¬ (b = 10 ∧ j = m) := fun m w => z w.1
      rw [if_neg z, if_neg (hh 4), if_neg (hh 3), if_neg (hh 2), if_neg (hh 1), if_neg (hh 0)]
      by_cases y : 10 ≤ b
      · rw [if_pos y, if_neg (by omega), lk3_lt y hr]
      · rw [if_neg y]
  · show (if b = 10 then 23 else if 10 ≤ b then 20 else if b < 6 then qT (pm_s0 L xs) b else if b < 10 then pm_tg b else 21) = if b < 6 then qT (pm_s0 L xs) b else if b < 16 then pm_tg b else 20
    by_cases z : b = 10
    · subst z; rfl
    · rw [if_neg z]
      by_cases y : 10 ≤ b
      · rw [if_pos y, if_neg (by omega)]
        by_cases w : b < 16
        · rw [if_pos w]
          have : b = 11 ∨ b = 12 ∨ b = 13 ∨ b = 14 ∨ b = 15 := by omega
          rcases this with rfl | rfl | rfl | rfl | rfl <;> rfl
        · rw [if_neg w]
      · rw [if_neg y]
        by_cases w : b < 6
        · rw [if_pos w, if_pos w]
        · rw [if_neg w, if_neg w, if_pos (by omega), if_pos (by omega)]
  · show (if b = 10 then 5 else if 10 ≤ b then 60 else if b < 6 then qL (pm_s0 L xs) b else if b < 10 then pm_ln b else 0) = if b < 6 then qL (pm_s0 L xs) b else if b < 16 then pm_ln b else 60
    by_cases z : b = 10
    · subst z; rfl
    · rw [if_neg z]
      by_cases y : 10 ≤ b
      · rw [if_pos y, if_neg (by omega)]
        by_cases w : b < 16
        · rw [if_pos w]
          have : b = 11 ∨ b = 12 ∨ b = 13 ∨ b = 14 ∨ b = 15 := by omega
          rcases this with rfl | rfl | rfl | rfl | rfl <;> rfl
        · rw [if_neg w]
      · rw [if_neg y]
        by_cases w : b < 6
        · rw [if_pos w, if_pos w]
        · rw [if_neg w, if_neg w, if_pos (by omega), if_pos (by omega)]
theorem mk_0 : pm_s0 L xs = mkS L xs 6 21 0 [] [] := by
  refine Prod.ext (funext fun b => funext fun j => ?_) (Prod.ext (funext fun b => funext fun j => ?_) (Prod.ext (funext fun b => ?_) (Prod.ext (funext fun b => ?_) rfl)))
  · show qI (pm_s0 L xs) b j = if b < 6 then qI (pm_s0 L xs) b j else 0
    by_cases z : b < 6
    · rw [if_pos z]
    · rw [if_neg z]
      show (if b = 1 then xs j else if b = 4 then _ else if b = 5 then _ else 0) = 0
      rw [if_neg (by omega), if_neg (by omega), if_neg (by omega)]
  · show qR (pm_s0 L xs) b j = if b < 6 then qR (pm_s0 L xs) b j else 0
    by_cases z : b < 6
    · rw [if_pos z]
    · rw [if_neg z]
      show (if b = 2 ∧ j = 0 then 4 else if b = 3 ∧ j = 0 then 5 else 0) = 0
      rw [if_neg (by omega), if_neg (by omega)]
  · show qT (pm_s0 L xs) b = if b < 6 then qT (pm_s0 L xs) b else if b < 6 then pm_tg b else 21
    by_cases z : b < 6
    · rw [if_pos z]
    · rw [if_neg z, if_neg z]
      show (if b = 1 then 20 else if b = 2 then 13 else if b = 3 then 13 else 21) = 21
      rw [if_neg (by omega), if_neg (by omega), if_neg (by omega)]
  · show qL (pm_s0 L xs) b = if b < 6 then qL (pm_s0 L xs) b else if b < 6 then pm_ln b else 0
    by_cases z : b < 6
    · rw [if_pos z]
    · rw [if_neg z, if_neg z]
      show (if b = 1 then L else if b = 4 then 90 else if b = 5 then 6 else 0) = 0
      rw [if_neg (by omega), if_neg (by omega), if_neg (by omega)]
end MKS
theorem is_mn_old {σ : pm_S} {a t : Nat} (h : pm_is σ a t) : pm_is (pm_mn σ) a t := ⟨h.1, by have := h.2.1; show a < qN σ + 6; omega, (qT_mn_lt h.2.1).trans h.2.2⟩
theorem t_i6 {d al a : Nat} {σ : pm_S} (hd : 1 ≤ d) (h6 : 6 ≤ qN σ) (ha : pm_is σ a 6) : PE d (al + 1) MX6_init [.ref a] σ none (pm_sR (pm_nw σ 22 20) a 0 (qN σ)) := by
  show PW _ _ _ _ _ _ _ _
  have ha0 : 0 < a := ha.1
  refine pw_aload_n dX6_init_0 rfl ?_
  refine pw_obj dX6_init_1 mlX6_3 imObj coObj (by omega) (by omega) (Nat.le_of_ble_eq_true rfl) ?_
  refine pw_aload_n dX6_init_4 rfl ?_
  refine pw_bipush (v := 20) dX6_init_5 (by decide) ?_
  refine pw_anew dX6_init_7 clX6_9 (n := 20) rfl (by decide) h6 ?_
  refine pw_putR dX6_init_10 flX6_11 ⟨_, rfl, Or.inr ⟨rfl, rfl, rfl⟩⟩ rfl (is_nw_old ha) ?_
  refine pw_vret dX6_init_13 rfl ?_
  exact ⟨rfl, rfl⟩
theorem t_i7 {d al a : Nat} {σ : pm_S} (hd : 1 ≤ d) (h6 : 6 ≤ qN σ) (ha : pm_is σ a 7) : PE d (al + 1) MX7_init [.ref a] σ none (pm_sR (pm_nw σ 21 600) a 0 (qN σ)) := by
  show PW _ _ _ _ _ _ _ _
  have ha0 : 0 < a := ha.1
  refine pw_aload_n dX7_init_0 rfl ?_
  refine pw_obj dX7_init_1 mlX7_3 imObj coObj (by omega) (by omega) (Nat.le_of_ble_eq_true rfl) ?_
  refine pw_aload_n dX7_init_4 rfl ?_
  refine pw_sipush (v := 600) dX7_init_5 (by decide) ?_
  refine pw_newarr (t := 21) dX7_init_8 (by first | exact Or.inl ⟨rfl, rfl⟩ | exact Or.inr ⟨rfl, rfl⟩) ac_byte (n := 600) rfl (by decide) h6 ?_
  refine pw_putR dX7_init_10 flX7_11 ⟨_, rfl, Or.inr ⟨rfl, rfl, rfl⟩⟩ rfl (is_nw_old ha) ?_
  refine pw_vret dX7_init_13 rfl ?_
  exact ⟨rfl, rfl⟩
theorem t_i8 {d al a : Nat} {σ : pm_S} (hd : 1 ≤ d) (h6 : 6 ≤ qN σ) (ha : pm_is σ a 8) : PE d (al + 1) MX8_init [.ref a] σ none (pm_sR (pm_nw σ 22 5) a 0 (qN σ)) := by
  show PW _ _ _ _ _ _ _ _
  have ha0 : 0 < a := ha.1
  refine pw_aload_n dX8_init_0 rfl ?_
  refine pw_obj dX8_init_1 mlX8_3 imObj coObj (by omega) (by omega) (Nat.le_of_ble_eq_true rfl) ?_
  refine pw_aload_n dX8_init_4 rfl ?_
  refine pw_iconst (v := 5) dX8_init_5 (by decide) ?_
  refine pw_anew dX8_init_6 clX8_9 (n := 5) rfl (by decide) h6 ?_
  refine pw_putR dX8_init_9 flX8_11 ⟨_, rfl, Or.inr ⟨rfl, rfl, rfl⟩⟩ rfl (is_nw_old ha) ?_
  refine pw_vret dX8_init_12 rfl ?_
  exact ⟨rfl, rfl⟩
theorem t_i2 {d al a : Nat} {σ : pm_S} (hd : 1 ≤ d) (h6 : 6 ≤ qN σ) (ha : pm_is σ a 2) : PE d (al + 1) MX2_init [.ref a] σ none (pm_sR (pm_nw σ 20 22) a 0 (qN σ)) := by
  show PW _ _ _ _ _ _ _ _
  have ha0 : 0 < a := ha.1
  refine pw_aload_n dX2_init_0 rfl ?_
  refine pw_obj dX2_init_1 mlX2_5 imObj coObj (by omega) (by omega) (Nat.le_of_ble_eq_true rfl) ?_
  refine pw_aload_n dX2_init_4 rfl ?_
  refine pw_bipush (v := 22) dX2_init_5 (by decide) ?_
  refine pw_newarr (t := 20) dX2_init_7 (by first | exact Or.inl ⟨rfl, rfl⟩ | exact Or.inr ⟨rfl, rfl⟩) ac_int (n := 22) rfl (by decide) h6 ?_
  refine pw_putR dX2_init_9 flX2_11 ⟨_, rfl, Or.inr ⟨rfl, rfl, rfl⟩⟩ rfl (is_nw_old ha) ?_
  refine pw_vret dX2_init_12 rfl ?_
  exact ⟨rfl, rfl⟩
theorem t_i3 {d al a : Nat} {σ : pm_S} (hd : 1 ≤ d) (h6 : 6 ≤ qN σ) (ha : pm_is σ a 3) : PE d (al + 7) MX3_init [.ref a] σ none (pm_sR (pm_nw (pm_sR (pm_mn σ) a 0 (qN σ)) 20 400) a 1 (qN σ + 6)) := by
  show PW _ _ _ _ _ _ _ _
  have ha0 : 0 < a := ha.1
  refine pw_aload_n dX3_init_0 rfl ?_
  refine pw_obj dX3_init_1 mlX3_3 imObj coObj (by omega) (by omega) (Nat.le_of_ble_eq_true rfl) ?_
  refine pw_aload_n dX3_init_4 rfl ?_
  refine pw_iconst (v := 5) dX3_init_5 (by decide) ?_
  refine pw_bipush (v := 60) dX3_init_6 (by decide) ?_
  refine pw_mna dX3_init_8 clX3_11 ac_int rfl rfl h6 ?_
  refine pw_putR dX3_init_12 flX3_13 ⟨_, rfl, Or.inr ⟨rfl, rfl, rfl⟩⟩ rfl (is_mn_old ha) ?_
  refine pw_aload_n dX3_init_15 rfl ?_
  refine pw_sipush (v := 400) dX3_init_16 (by decide) ?_
  refine pw_newarr (t := 20) dX3_init_19 (by first | exact Or.inl ⟨rfl, rfl⟩ | exact Or.inr ⟨rfl, rfl⟩) ac_int (n := 400) rfl (by decide) (show 6 ≤ qN σ + 6 by omega) ?_
  refine pw_putR dX3_init_21 flX3_16 ⟨_, rfl, Or.inr ⟨rfl, rfl, rfl⟩⟩ rfl (is_nw_old (is_mn_old ha)) ?_
  refine pw_vret dX3_init_24 rfl ?_
  exact ⟨rfl, rfl⟩
theorem t_i4 {d al a : Nat} {σ : pm_S} (hd : 1 ≤ d) (h6 : 6 ≤ qN σ) (ha : pm_is σ a 4) : PE d (al + 4) MX4_init [.ref a] σ none (pm_sR (pm_nw (pm_sR (pm_nw (pm_sR (pm_nw (pm_sR (pm_nw σ 20 300) a 0 (qN σ)) 20 300) a 1 (qN σ + 1)) 20 300) a 2 (qN σ + 1 + 1)) 20 12) a 3 (qN σ + 1 + 1 + 1)) := by
  show PW _ _ _ _ _ _ _ _
  have ha0 : 0 < a := ha.1
  refine pw_aload_n dX4_init_0 rfl ?_
  refine pw_obj dX4_init_1 mlX4_3 imObj coObj (by omega) (by omega) (Nat.le_of_ble_eq_true rfl) ?_
  refine pw_aload_n dX4_init_4 rfl ?_
  refine pw_sipush (v := 300) dX4_init_5 (by decide) ?_
  refine pw_newarr (t := 20) dX4_init_8 (by first | exact Or.inl ⟨rfl, rfl⟩ | exact Or.inr ⟨rfl, rfl⟩) ac_int (n := 300) rfl (by decide) h6 ?_
  refine pw_putR dX4_init_10 flX4_11 ⟨_, rfl, Or.inr ⟨rfl, rfl, rfl⟩⟩ rfl (is_nw_old ha) ?_
  refine pw_aload_n dX4_init_13 rfl ?_
  refine pw_sipush (v := 300) dX4_init_14 (by decide) ?_
  refine pw_newarr (t := 20) dX4_init_17 (by first | exact Or.inl ⟨rfl, rfl⟩ | exact Or.inr ⟨rfl, rfl⟩) ac_int (n := 300) rfl (by decide) (show 6 ≤ qN σ + 1 by omega) ?_
  refine pw_putR dX4_init_19 flX4_15 ⟨_, rfl, Or.inr ⟨rfl, rfl, rfl⟩⟩ rfl (is_nw_old (is_nw_old ha)) ?_
  refine pw_aload_n dX4_init_22 rfl ?_
  refine pw_sipush (v := 300) dX4_init_23 (by decide) ?_
  refine pw_newarr (t := 20) dX4_init_26 (by first | exact Or.inl ⟨rfl, rfl⟩ | exact Or.inr ⟨rfl, rfl⟩) ac_int (n := 300) rfl (by decide) (show 6 ≤ qN σ + 1 + 1 by omega) ?_
  refine pw_putR dX4_init_28 flX4_18 ⟨_, rfl, Or.inr ⟨rfl, rfl, rfl⟩⟩ rfl (is_nw_old (is_nw_old (is_nw_old ha))) ?_
  refine pw_aload_n dX4_init_31 rfl ?_
  refine pw_bipush (v := 12) dX4_init_32 (by decide) ?_
  refine pw_newarr (t := 20) dX4_init_34 (by first | exact Or.inl ⟨rfl, rfl⟩ | exact Or.inr ⟨rfl, rfl⟩) ac_int (n := 12) rfl (by decide) (show 6 ≤ qN σ + 1 + 1 + 1 by omega) ?_
  refine pw_putR dX4_init_36 flX4_21 ⟨_, rfl, Or.inr ⟨rfl, rfl, rfl⟩⟩ rfl (is_nw_old (is_nw_old (is_nw_old (is_nw_old ha)))) ?_
  refine pw_vret dX4_init_39 rfl ?_
  exact ⟨rfl, rfl⟩
theorem t_i10 {d al a b : Nat} {σ : pm_S} (hd : 1 ≤ d) (h6 : 6 ≤ qN σ) (ha : pm_is σ a 10) : PE d (al + 3) MX10_init [.ref a, .ref b] σ none (pm_sR (pm_sR (pm_nw (pm_sR (pm_nw (pm_sR (pm_nw σ 20 601) a 1 (qN σ)) 20 601) a 2 (qN σ + 1)) 20 601) a 3 (qN σ + 1 + 1)) a 0 b) := by
  show PW _ _ _ _ _ _ _ _
  have ha0 : 0 < a := ha.1
  refine pw_aload_n dX10_init_0 rfl ?_
  refine pw_obj dX10_init_1 mlX10_3 imObj coObj (by omega) (by omega) (Nat.le_of_ble_eq_true rfl) ?_
  refine pw_aload_n dX10_init_4 rfl ?_
  refine pw_sipush (v := 601) dX10_init_5 (by decide) ?_
  refine pw_newarr (t := 20) dX10_init_8 (by first | exact Or.inl ⟨rfl, rfl⟩ | exact Or.inr ⟨rfl, rfl⟩) ac_int (n := 601) rfl (by decide) h6 ?_
  refine pw_putR dX10_init_10 flX10_11 ⟨_, rfl, Or.inr ⟨rfl, rfl, rfl⟩⟩ rfl (is_nw_old ha) ?_
  refine pw_aload_n dX10_init_13 rfl ?_
  refine pw_sipush (v := 601) dX10_init_14 (by decide) ?_
  refine pw_newarr (t := 20) dX10_init_17 (by first | exact Or.inl ⟨rfl, rfl⟩ | exact Or.inr ⟨rfl, rfl⟩) ac_int (n := 601) rfl (by decide) (show 6 ≤ qN σ + 1 by omega) ?_
  refine pw_putR dX10_init_19 flX10_15 ⟨_, rfl, Or.inr ⟨rfl, rfl, rfl⟩⟩ rfl (is_nw_old (is_nw_old ha)) ?_
  refine pw_aload_n dX10_init_22 rfl ?_
  refine pw_sipush (v := 601) dX10_init_23 (by decide) ?_
  refine pw_newarr (t := 20) dX10_init_26 (by first | exact Or.inl ⟨rfl, rfl⟩ | exact Or.inr ⟨rfl, rfl⟩) ac_int (n := 601) rfl (by decide) (show 6 ≤ qN σ + 1 + 1 by omega) ?_
  refine pw_putR dX10_init_28 flX10_18 ⟨_, rfl, Or.inr ⟨rfl, rfl, rfl⟩⟩ rfl (is_nw_old (is_nw_old (is_nw_old ha))) ?_
  refine pw_aload_n dX10_init_31 rfl ?_
  refine pw_aload_n dX10_init_32 rfl ?_
  refine pw_putR dX10_init_33 flX10_21 ⟨_, rfl, Or.inr ⟨rfl, rfl, rfl⟩⟩ rfl (is_nw_old (is_nw_old (is_nw_old ha))) ?_
  refine pw_vret dX10_init_36 rfl ?_
  exact ⟨rfl, rfl⟩
theorem t_i5 {d L : Nat} {xs : Nat → Int32} (hd : 2 ≤ d) : PE d 4 MX5_init [.ref 29, .ref 17, .ref 24] (mkS L xs 30 20 60 ((6, 7, 24) :: (24, 3, 28) :: (24, 2, 27) :: (24, 1, 26) :: (24, 0, 25) :: (6, 6, 19) :: (19, 3, 23) :: (19, 2, 22) :: (19, 1, 21) :: (19, 0, 20) :: (6, 4, 17) :: (17, 0, 18) :: (6, 3, 9) :: (9, 1, 16) :: (9, 0, 10) :: (10, 4, 15) :: (10, 3, 14) :: (10, 2, 13) :: (10, 1, 12) :: (10, 0, 11) :: (6, 2, 7) :: (7, 0, 8) :: []) ((6, 1, 0) :: (6, 0, 0) :: [])) none (mkS L xs 34 20 60 ((29, 1, 24) :: (29, 0, 30) :: (30, 0, 17) :: (30, 3, 33) :: (30, 2, 32) :: (30, 1, 31) :: (6, 7, 24) :: (24, 3, 28) :: (24, 2, 27) :: (24, 1, 26) :: (24, 0, 25) :: (6, 6, 19) :: (19, 3, 23) :: (19, 2, 22) :: (19, 1, 21) :: (19, 0, 20) :: (6, 4, 17) :: (17, 0, 18) :: (6, 3, 9) :: (9, 1, 16) :: (9, 0, 10) :: (10, 4, 15) :: (10, 3, 14) :: (10, 2, 13) :: (10, 1, 12) :: (10, 0, 11) :: (6, 2, 7) :: (7, 0, 8) :: []) ((29, 5, (-1)) :: (29, 4, 0) :: (6, 1, 0) :: (6, 0, 0) :: [])) := by
  show PW _ _ _ _ _ _ _ _
  refine pw_aload_n dX5_init_0 rfl ?_
  refine pw_obj dX5_init_1 mlX5_3 imObj coObj (by omega) (by omega) (Nat.le_of_ble_eq_true rfl) ?_
  refine pw_aload_n dX5_init_4 rfl ?_
  refine pw_new dX5_init_5 nlX5_9 (show 6 ≤ 30 by decide) ?_
  rw [mk_N, mk_nw (N2 := 31) (t := 10) (n := 0) rfl rfl rfl rfl rfl rfl]
  refine pw_dup dX5_init_8 rfl ?_
  refine pw_aload_n dX5_init_9 rfl ?_
  refine pw_cI1 (d1 := d - 1) (a1 := 3) (a2 := 0) dX5_init_10 mtX10_init rfl imX10_init rfl mlX5_11 (Nat.le_of_ble_eq_true rfl) (Nat.le_of_ble_eq_true rfl) (by omega) (by omega) (by omega) (PE.eq (t_i10 (al := 0) (by omega) (show 6 ≤ 31 by decide) (mk_is rfl)) rfl (show _ = mkS L xs 34 20 60 ((30, 0, 17) :: (30, 3, 33) :: (30, 2, 32) :: (30, 1, 31) :: (6, 7, 24) :: (24, 3, 28) :: (24, 2, 27) :: (24, 1, 26) :: (24, 0, 25) :: (6, 6, 19) :: (19, 3, 23) :: (19, 2, 22) :: (19, 1, 21) :: (19, 0, 20) :: (6, 4, 17) :: (17, 0, 18) :: (6, 3, 9) :: (9, 1, 16) :: (9, 0, 10) :: (10, 4, 15) :: (10, 3, 14) :: (10, 2, 13) :: (10, 1, 12) :: (10, 0, 11) :: (6, 2, 7) :: (7, 0, 8) :: []) ((6, 1, 0) :: (6, 0, 0) :: []) by rw [mk_N, mk_nw (N2 := 32) (t := 20) (n := 601) rfl rfl rfl rfl rfl rfl, mk_sR rfl, mk_nw (N2 := 33) (t := 20) (n := 601) rfl rfl rfl rfl rfl rfl, mk_sR rfl, mk_nw (N2 := 34) (t := 20) (n := 601) rfl rfl rfl rfl rfl rfl, mk_sR rfl, mk_sR rfl])) ?_
  rintro r_ τ_ ⟨hr_, ht_⟩; subst r_; subst τ_
  refine pw_putR dX5_init_13 flX5_14 ⟨_, rfl, Or.inr ⟨rfl, rfl, rfl⟩⟩ rfl (mk_is rfl) ?_
  rw [mk_sR rfl]
  refine pw_aload_n dX5_init_16 rfl ?_
  refine pw_aload_n dX5_init_17 rfl ?_
  refine pw_putR dX5_init_18 flX5_20 ⟨_, rfl, Or.inl rfl⟩ rfl (mk_is rfl) ?_
  rw [mk_sR rfl]
  refine pw_aload_n dX5_init_21 rfl ?_
  refine pw_iconst (v := 0) dX5_init_22 (by decide) ?_
  refine pw_putI dX5_init_23 flX5_24 ⟨_, rfl, Or.inl rfl⟩ rfl (mk_is rfl) ?_
  rw [mk_sI rfl]
  refine pw_aload_n dX5_init_26 rfl ?_
  refine pw_iconst (v := (-1)) dX5_init_27 (by decide) ?_
  refine pw_putI dX5_init_28 flX5_28 ⟨_, rfl, Or.inl rfl⟩ rfl (mk_is rfl) ?_
  rw [mk_sI rfl]
  refine pw_vret dX5_init_31 rfl ?_
  exact ⟨rfl, rfl⟩
theorem t_i1 {d L : Nat} {xs : Nat → Int32} (hd : 2 ≤ d) : PE d 4 MX1_init [.ref 38, .ref 7, .ref 9, .ref 19] (mkS L xs 39 20 60 ((6, 9, 36) :: (36, 0, 37) :: (6, 8, 34) :: (34, 0, 35) :: (6, 5, 29) :: (29, 1, 24) :: (29, 0, 30) :: (30, 0, 17) :: (30, 3, 33) :: (30, 2, 32) :: (30, 1, 31) :: (6, 7, 24) :: (24, 3, 28) :: (24, 2, 27) :: (24, 1, 26) :: (24, 0, 25) :: (6, 6, 19) :: (19, 3, 23) :: (19, 2, 22) :: (19, 1, 21) :: (19, 0, 20) :: (6, 4, 17) :: (17, 0, 18) :: (6, 3, 9) :: (9, 1, 16) :: (9, 0, 10) :: (10, 4, 15) :: (10, 3, 14) :: (10, 2, 13) :: (10, 1, 12) :: (10, 0, 11) :: (6, 2, 7) :: (7, 0, 8) :: []) ((29, 5, (-1)) :: (29, 4, 0) :: (6, 1, 0) :: (6, 0, 0) :: [])) none (mkS L xs 43 20 60 ((38, 3, 41) :: (41, 0, 42) :: (38, 2, 39) :: (39, 0, 40) :: (38, 4, 19) :: (38, 1, 9) :: (38, 0, 7) :: (6, 9, 36) :: (36, 0, 37) :: (6, 8, 34) :: (34, 0, 35) :: (6, 5, 29) :: (29, 1, 24) :: (29, 0, 30) :: (30, 0, 17) :: (30, 3, 33) :: (30, 2, 32) :: (30, 1, 31) :: (6, 7, 24) :: (24, 3, 28) :: (24, 2, 27) :: (24, 1, 26) :: (24, 0, 25) :: (6, 6, 19) :: (19, 3, 23) :: (19, 2, 22) :: (19, 1, 21) :: (19, 0, 20) :: (6, 4, 17) :: (17, 0, 18) :: (6, 3, 9) :: (9, 1, 16) :: (9, 0, 10) :: (10, 4, 15) :: (10, 3, 14) :: (10, 2, 13) :: (10, 1, 12) :: (10, 0, 11) :: (6, 2, 7) :: (7, 0, 8) :: []) ((29, 5, (-1)) :: (29, 4, 0) :: (6, 1, 0) :: (6, 0, 0) :: [])) := by
  show PW _ _ _ _ _ _ _ _
  refine pw_aload_n dX1_init_0 rfl ?_
  refine pw_obj dX1_init_1 mlX1_3 imObj coObj (by omega) (by omega) (Nat.le_of_ble_eq_true rfl) ?_
  refine pw_aload_n dX1_init_4 rfl ?_
  refine pw_aload_n dX1_init_5 rfl ?_
  refine pw_putR dX1_init_6 flX1_9 ⟨_, rfl, Or.inr ⟨rfl, rfl, rfl⟩⟩ rfl (mk_is rfl) ?_
  rw [mk_sR rfl]
  refine pw_aload_n dX1_init_9 rfl ?_
  refine pw_aload_n dX1_init_10 rfl ?_
  refine pw_putR dX1_init_11 flX1_15 ⟨_, rfl, Or.inr ⟨rfl, rfl, rfl⟩⟩ rfl (mk_is rfl) ?_
  rw [mk_sR rfl]
  refine pw_aload_n dX1_init_14 rfl ?_
  refine pw_aload_n dX1_init_15 rfl ?_
  refine pw_putR dX1_init_16 flX1_19 ⟨_, rfl, Or.inl rfl⟩ rfl (mk_is rfl) ?_
  rw [mk_sR rfl]
  refine pw_aload_n dX1_init_19 rfl ?_
  refine pw_new dX1_init_20 nlX1_23 (show 6 ≤ 39 by decide) ?_
  rw [mk_N, mk_nw (N2 := 40) (t := 8) (n := 0) rfl rfl rfl rfl rfl rfl]
  refine pw_dup dX1_init_23 rfl ?_
  refine pw_cIN0 (d1 := d - 1) (a1 := 1) (a2 := 2) dX1_init_24 mtX8_init rfl imX8_init rfl mlX1_25 (Nat.le_of_ble_eq_true rfl) (Nat.le_of_ble_eq_true rfl) (by omega) (by omega) (by omega) (PE.eq (t_i8 (al := 0) (by omega) (show 6 ≤ 40 by decide) (mk_is rfl)) rfl (show _ = mkS L xs 41 20 60 ((39, 0, 40) :: (38, 4, 19) :: (38, 1, 9) :: (38, 0, 7) :: (6, 9, 36) :: (36, 0, 37) :: (6, 8, 34) :: (34, 0, 35) :: (6, 5, 29) :: (29, 1, 24) :: (29, 0, 30) :: (30, 0, 17) :: (30, 3, 33) :: (30, 2, 32) :: (30, 1, 31) :: (6, 7, 24) :: (24, 3, 28) :: (24, 2, 27) :: (24, 1, 26) :: (24, 0, 25) :: (6, 6, 19) :: (19, 3, 23) :: (19, 2, 22) :: (19, 1, 21) :: (19, 0, 20) :: (6, 4, 17) :: (17, 0, 18) :: (6, 3, 9) :: (9, 1, 16) :: (9, 0, 10) :: (10, 4, 15) :: (10, 3, 14) :: (10, 2, 13) :: (10, 1, 12) :: (10, 0, 11) :: (6, 2, 7) :: (7, 0, 8) :: []) ((29, 5, (-1)) :: (29, 4, 0) :: (6, 1, 0) :: (6, 0, 0) :: []) by rw [mk_N, mk_nw (N2 := 41) (t := 22) (n := 5) rfl rfl rfl rfl rfl rfl, mk_sR rfl])) ?_
  rintro r_ τ_ ⟨hr_, ht_⟩; subst r_; subst τ_
  refine pw_putR dX1_init_27 flX1_26 ⟨_, rfl, Or.inr ⟨rfl, rfl, rfl⟩⟩ rfl (mk_is rfl) ?_
  rw [mk_sR rfl]
  refine pw_aload_n dX1_init_30 rfl ?_
  refine pw_new dX1_init_31 nlX1_30 (show 6 ≤ 41 by decide) ?_
  rw [mk_N, mk_nw (N2 := 42) (t := 2) (n := 0) rfl rfl rfl rfl rfl rfl]
  refine pw_dup dX1_init_34 rfl ?_
  refine pw_cIN0 (d1 := d - 1) (a1 := 1) (a2 := 0) dX1_init_35 mtX2_init rfl imX2_init rfl mlX1_32 (Nat.le_of_ble_eq_true rfl) (Nat.le_of_ble_eq_true rfl) (by omega) (by omega) (by omega) (PE.eq (t_i2 (al := 0) (by omega) (show 6 ≤ 42 by decide) (mk_is rfl)) rfl (show _ = mkS L xs 43 20 60 ((41, 0, 42) :: (38, 2, 39) :: (39, 0, 40) :: (38, 4, 19) :: (38, 1, 9) :: (38, 0, 7) :: (6, 9, 36) :: (36, 0, 37) :: (6, 8, 34) :: (34, 0, 35) :: (6, 5, 29) :: (29, 1, 24) :: (29, 0, 30) :: (30, 0, 17) :: (30, 3, 33) :: (30, 2, 32) :: (30, 1, 31) :: (6, 7, 24) :: (24, 3, 28) :: (24, 2, 27) :: (24, 1, 26) :: (24, 0, 25) :: (6, 6, 19) :: (19, 3, 23) :: (19, 2, 22) :: (19, 1, 21) :: (19, 0, 20) :: (6, 4, 17) :: (17, 0, 18) :: (6, 3, 9) :: (9, 1, 16) :: (9, 0, 10) :: (10, 4, 15) :: (10, 3, 14) :: (10, 2, 13) :: (10, 1, 12) :: (10, 0, 11) :: (6, 2, 7) :: (7, 0, 8) :: []) ((29, 5, (-1)) :: (29, 4, 0) :: (6, 1, 0) :: (6, 0, 0) :: []) by rw [mk_N, mk_nw (N2 := 43) (t := 20) (n := 22) rfl rfl rfl rfl rfl rfl, mk_sR rfl])) ?_
  rintro r_ τ_ ⟨hr_, ht_⟩; subst r_; subst τ_
  refine pw_putR dX1_init_38 flX1_33 ⟨_, rfl, Or.inr ⟨rfl, rfl, rfl⟩⟩ rfl (mk_is rfl) ?_
  rw [mk_sR rfl]
  refine pw_vret dX1_init_41 rfl ?_
  exact ⟨rfl, rfl⟩
theorem t_i11 {d L : Nat} {xs : Nat → Int32} (hd : 3 ≤ d) : PE d 36 MX11_init [.ref 6] (mkS L xs 7 21 0 ([]) ([])) none (mkS L xs 43 20 60 ((6, 10, 38) :: (38, 3, 41) :: (41, 0, 42) :: (38, 2, 39) :: (39, 0, 40) :: (38, 4, 19) :: (38, 1, 9) :: (38, 0, 7) :: (6, 9, 36) :: (36, 0, 37) :: (6, 8, 34) :: (34, 0, 35) :: (6, 5, 29) :: (29, 1, 24) :: (29, 0, 30) :: (30, 0, 17) :: (30, 3, 33) :: (30, 2, 32) :: (30, 1, 31) :: (6, 7, 24) :: (24, 3, 28) :: (24, 2, 27) :: (24, 1, 26) :: (24, 0, 25) :: (6, 6, 19) :: (19, 3, 23) :: (19, 2, 22) :: (19, 1, 21) :: (19, 0, 20) :: (6, 4, 17) :: (17, 0, 18) :: (6, 3, 9) :: (9, 1, 16) :: (9, 0, 10) :: (10, 4, 15) :: (10, 3, 14) :: (10, 2, 13) :: (10, 1, 12) :: (10, 0, 11) :: (6, 2, 7) :: (7, 0, 8) :: []) ((29, 5, (-1)) :: (29, 4, 0) :: (6, 1, 0) :: (6, 0, 0) :: [])) := by
  show PW _ _ _ _ _ _ _ _
  refine pw_aload_n dX11_init_0 rfl ?_
  refine pw_obj dX11_init_1 mlX11_1 imObj coObj (by omega) (by omega) (Nat.le_of_ble_eq_true rfl) ?_
  refine pw_aload_n dX11_init_4 rfl ?_
  refine pw_iconst (v := 0) dX11_init_5 (by decide) ?_
  refine pw_putI dX11_init_6 flX11_7 ⟨_, rfl, Or.inl rfl⟩ rfl (mk_is rfl) ?_
  rw [mk_sI rfl]
  refine pw_aload_n dX11_init_9 rfl ?_
  refine pw_iconst (v := 0) dX11_init_10 (by decide) ?_
  refine pw_putI dX11_init_11 flX11_13 ⟨_, rfl, Or.inl rfl⟩ rfl (mk_is rfl) ?_
  rw [mk_sI rfl]
  refine pw_aload_n dX11_init_14 rfl ?_
  refine pw_new dX11_init_15 nlX11_16 (show 6 ≤ 7 by decide) ?_
  rw [mk_N, mk_nw (N2 := 8) (t := 6) (n := 0) rfl rfl rfl rfl rfl rfl]
  refine pw_dup dX11_init_18 rfl ?_
  refine pw_cIN0 (d1 := d - 1) (a1 := 1) (a2 := 34) dX11_init_19 mtX6_init rfl imX6_init rfl mlX11_18 (Nat.le_of_ble_eq_true rfl) (Nat.le_of_ble_eq_true rfl) (by omega) (by omega) (by omega) (PE.eq (t_i6 (al := 0) (by omega) (show 6 ≤ 8 by decide) (mk_is rfl)) rfl (show _ = mkS L xs 9 21 0 ((7, 0, 8) :: []) ((6, 1, 0) :: (6, 0, 0) :: []) by rw [mk_N, mk_nw (N2 := 9) (t := 22) (n := 20) rfl rfl rfl rfl rfl rfl, mk_sR rfl])) ?_
  rintro r_ τ_ ⟨hr_, ht_⟩; subst r_; subst τ_
  refine pw_putR dX11_init_22 flX11_19 ⟨_, rfl, Or.inr ⟨rfl, rfl, rfl⟩⟩ rfl (mk_is rfl) ?_
  rw [mk_sR rfl]
  refine pw_aload_n dX11_init_25 rfl ?_
  refine pw_new dX11_init_26 nlX11_23 (show 6 ≤ 9 by decide) ?_
  rw [mk_N, mk_nw (N2 := 10) (t := 3) (n := 0) rfl rfl rfl rfl rfl rfl]
  refine pw_dup dX11_init_29 rfl ?_
  refine pw_cIN0 (d1 := d - 1) (a1 := 7) (a2 := 26) dX11_init_30 mtX3_init rfl imX3_init rfl mlX11_25 (Nat.le_of_ble_eq_true rfl) (Nat.le_of_ble_eq_true rfl) (by omega) (by omega) (by omega) (PE.eq (t_i3 (al := 0) (by omega) (show 6 ≤ 10 by decide) (mk_is rfl)) rfl (show _ = mkS L xs 17 20 60 ((9, 1, 16) :: (9, 0, 10) :: (10, 4, 15) :: (10, 3, 14) :: (10, 2, 13) :: (10, 1, 12) :: (10, 0, 11) :: (6, 2, 7) :: (7, 0, 8) :: []) ((6, 1, 0) :: (6, 0, 0) :: []) by rw [mk_N, mk_mn rfl rfl, mk_sR rfl, mk_nw (N2 := 17) (t := 20) (n := 400) rfl rfl rfl rfl rfl rfl, mk_sR rfl])) ?_
  rintro r_ τ_ ⟨hr_, ht_⟩; subst r_; subst τ_
  refine pw_putR dX11_init_33 flX11_26 ⟨_, rfl, Or.inr ⟨rfl, rfl, rfl⟩⟩ rfl (mk_is rfl) ?_
  rw [mk_sR rfl]
  refine pw_aload_n dX11_init_36 rfl ?_
  refine pw_new dX11_init_37 nlX11_30 (show 6 ≤ 17 by decide) ?_
  rw [mk_N, mk_nw (N2 := 18) (t := 7) (n := 0) rfl rfl rfl rfl rfl rfl]
  refine pw_dup dX11_init_40 rfl ?_
  refine pw_cIN0 (d1 := d - 1) (a1 := 1) (a2 := 24) dX11_init_41 mtX7_init rfl imX7_init rfl mlX11_32 (Nat.le_of_ble_eq_true rfl) (Nat.le_of_ble_eq_true rfl) (by omega) (by omega) (by omega) (PE.eq (t_i7 (al := 0) (by omega) (show 6 ≤ 18 by decide) (mk_is rfl)) rfl (show _ = mkS L xs 19 20 60 ((17, 0, 18) :: (6, 3, 9) :: (9, 1, 16) :: (9, 0, 10) :: (10, 4, 15) :: (10, 3, 14) :: (10, 2, 13) :: (10, 1, 12) :: (10, 0, 11) :: (6, 2, 7) :: (7, 0, 8) :: []) ((6, 1, 0) :: (6, 0, 0) :: []) by rw [mk_N, mk_nw (N2 := 19) (t := 21) (n := 600) rfl rfl rfl rfl rfl rfl, mk_sR rfl])) ?_
  rintro r_ τ_ ⟨hr_, ht_⟩; subst r_; subst τ_
  refine pw_putR dX11_init_44 flX11_33 ⟨_, rfl, Or.inr ⟨rfl, rfl, rfl⟩⟩ rfl (mk_is rfl) ?_
  rw [mk_sR rfl]
  refine pw_aload_n dX11_init_47 rfl ?_
  refine pw_new dX11_init_48 nlX11_37 (show 6 ≤ 19 by decide) ?_
  rw [mk_N, mk_nw (N2 := 20) (t := 4) (n := 0) rfl rfl rfl rfl rfl rfl]
  refine pw_dup dX11_init_51 rfl ?_
  refine pw_cIN0 (d1 := d - 1) (a1 := 4) (a2 := 19) dX11_init_52 mtX4_init rfl imX4_init rfl mlX11_39 (Nat.le_of_ble_eq_true rfl) (Nat.le_of_ble_eq_true rfl) (by omega) (by omega) (by omega) (PE.eq (t_i4 (al := 0) (by omega) (show 6 ≤ 20 by decide) (mk_is rfl)) rfl (show _ = mkS L xs 24 20 60 ((19, 3, 23) :: (19, 2, 22) :: (19, 1, 21) :: (19, 0, 20) :: (6, 4, 17) :: (17, 0, 18) :: (6, 3, 9) :: (9, 1, 16) :: (9, 0, 10) :: (10, 4, 15) :: (10, 3, 14) :: (10, 2, 13) :: (10, 1, 12) :: (10, 0, 11) :: (6, 2, 7) :: (7, 0, 8) :: []) ((6, 1, 0) :: (6, 0, 0) :: []) by rw [mk_N, mk_nw (N2 := 21) (t := 20) (n := 300) rfl rfl rfl rfl rfl rfl, mk_sR rfl, mk_nw (N2 := 22) (t := 20) (n := 300) rfl rfl rfl rfl rfl rfl, mk_sR rfl, mk_nw (N2 := 23) (t := 20) (n := 300) rfl rfl rfl rfl rfl rfl, mk_sR rfl, mk_nw (N2 := 24) (t := 20) (n := 12) rfl rfl rfl rfl rfl rfl, mk_sR rfl])) ?_
  rintro r_ τ_ ⟨hr_, ht_⟩; subst r_; subst τ_
  refine pw_putR dX11_init_55 flX11_40 ⟨_, rfl, Or.inl rfl⟩ rfl (mk_is rfl) ?_
  rw [mk_sR rfl]
  refine pw_aload_n dX11_init_58 rfl ?_
  refine pw_new dX11_init_59 nlX11_37 (show 6 ≤ 24 by decide) ?_
  rw [mk_N, mk_nw (N2 := 25) (t := 4) (n := 0) rfl rfl rfl rfl rfl rfl]
  refine pw_dup dX11_init_62 rfl ?_
  refine pw_cIN0 (d1 := d - 1) (a1 := 4) (a2 := 14) dX11_init_63 mtX4_init rfl imX4_init rfl mlX11_39 (Nat.le_of_ble_eq_true rfl) (Nat.le_of_ble_eq_true rfl) (by omega) (by omega) (by omega) (PE.eq (t_i4 (al := 0) (by omega) (show 6 ≤ 25 by decide) (mk_is rfl)) rfl (show _ = mkS L xs 29 20 60 ((24, 3, 28) :: (24, 2, 27) :: (24, 1, 26) :: (24, 0, 25) :: (6, 6, 19) :: (19, 3, 23) :: (19, 2, 22) :: (19, 1, 21) :: (19, 0, 20) :: (6, 4, 17) :: (17, 0, 18) :: (6, 3, 9) :: (9, 1, 16) :: (9, 0, 10) :: (10, 4, 15) :: (10, 3, 14) :: (10, 2, 13) :: (10, 1, 12) :: (10, 0, 11) :: (6, 2, 7) :: (7, 0, 8) :: []) ((6, 1, 0) :: (6, 0, 0) :: []) by rw [mk_N, mk_nw (N2 := 26) (t := 20) (n := 300) rfl rfl rfl rfl rfl rfl, mk_sR rfl, mk_nw (N2 := 27) (t := 20) (n := 300) rfl rfl rfl rfl rfl rfl, mk_sR rfl, mk_nw (N2 := 28) (t := 20) (n := 300) rfl rfl rfl rfl rfl rfl, mk_sR rfl, mk_nw (N2 := 29) (t := 20) (n := 12) rfl rfl rfl rfl rfl rfl, mk_sR rfl])) ?_
  rintro r_ τ_ ⟨hr_, ht_⟩; subst r_; subst τ_
  refine pw_putR dX11_init_66 flX11_44 ⟨_, rfl, Or.inl rfl⟩ rfl (mk_is rfl) ?_
  rw [mk_sR rfl]
  refine pw_aload_n dX11_init_69 rfl ?_
  refine pw_new dX11_init_70 nlX11_47 (show 6 ≤ 29 by decide) ?_
  rw [mk_N, mk_nw (N2 := 30) (t := 5) (n := 0) rfl rfl rfl rfl rfl rfl]
  refine pw_dup dX11_init_73 rfl ?_
  refine pw_aload_n dX11_init_74 rfl ?_
  refine pw_getF (v := 17) dX11_init_75 flX11_33 rfl (mk_is rfl) (mk_R rfl rfl) ?_
  refine pw_aload_n dX11_init_78 rfl ?_
  refine pw_getF dX11_init_79 flX11_44 rfl (mk_is rfl) (mk_R (v := 24) rfl rfl) ?_
  refine pw_cI2 (d1 := d - 1) (a1 := 4) (a2 := 9) dX11_init_82 mtX5_init rfl imX5_init rfl mlX11_49 (Nat.le_of_ble_eq_true rfl) (Nat.le_of_ble_eq_true rfl) (by omega) (by omega) (by omega) (t_i5 (by omega)) ?_
  rintro r_ τ_ ⟨hr_, ht_⟩; subst r_; subst τ_
  refine pw_putR dX11_init_85 flX11_52 ⟨_, rfl, Or.inr ⟨rfl, rfl, rfl⟩⟩ rfl (mk_is rfl) ?_
  rw [mk_sR rfl]
  refine pw_aload_n dX11_init_88 rfl ?_
  refine pw_new dX11_init_89 nlX11_56 (show 6 ≤ 34 by decide) ?_
  rw [mk_N, mk_nw (N2 := 35) (t := 8) (n := 0) rfl rfl rfl rfl rfl rfl]
  refine pw_dup dX11_init_92 rfl ?_
  refine pw_cIN0 (d1 := d - 1) (a1 := 1) (a2 := 7) dX11_init_93 mtX8_init rfl imX8_init rfl mlX11_58 (Nat.le_of_ble_eq_true rfl) (Nat.le_of_ble_eq_true rfl) (by omega) (by omega) (by omega) (PE.eq (t_i8 (al := 0) (by omega) (show 6 ≤ 35 by decide) (mk_is rfl)) rfl (show _ = mkS L xs 36 20 60 ((34, 0, 35) :: (6, 5, 29) :: (29, 1, 24) :: (29, 0, 30) :: (30, 0, 17) :: (30, 3, 33) :: (30, 2, 32) :: (30, 1, 31) :: (6, 7, 24) :: (24, 3, 28) :: (24, 2, 27) :: (24, 1, 26) :: (24, 0, 25) :: (6, 6, 19) :: (19, 3, 23) :: (19, 2, 22) :: (19, 1, 21) :: (19, 0, 20) :: (6, 4, 17) :: (17, 0, 18) :: (6, 3, 9) :: (9, 1, 16) :: (9, 0, 10) :: (10, 4, 15) :: (10, 3, 14) :: (10, 2, 13) :: (10, 1, 12) :: (10, 0, 11) :: (6, 2, 7) :: (7, 0, 8) :: []) ((29, 5, (-1)) :: (29, 4, 0) :: (6, 1, 0) :: (6, 0, 0) :: []) by rw [mk_N, mk_nw (N2 := 36) (t := 22) (n := 5) rfl rfl rfl rfl rfl rfl, mk_sR rfl])) ?_
  rintro r_ τ_ ⟨hr_, ht_⟩; subst r_; subst τ_
  refine pw_putR dX11_init_96 flX11_59 ⟨_, rfl, Or.inr ⟨rfl, rfl, rfl⟩⟩ rfl (mk_is rfl) ?_
  rw [mk_sR rfl]
  refine pw_aload_n dX11_init_99 rfl ?_
  refine pw_new dX11_init_100 nlX11_63 (show 6 ≤ 36 by decide) ?_
  rw [mk_N, mk_nw (N2 := 37) (t := 2) (n := 0) rfl rfl rfl rfl rfl rfl]
  refine pw_dup dX11_init_103 rfl ?_
  refine pw_cIN0 (d1 := d - 1) (a1 := 1) (a2 := 5) dX11_init_104 mtX2_init rfl imX2_init rfl mlX11_65 (Nat.le_of_ble_eq_true rfl) (Nat.le_of_ble_eq_true rfl) (by omega) (by omega) (by omega) (PE.eq (t_i2 (al := 0) (by omega) (show 6 ≤ 37 by decide) (mk_is rfl)) rfl (show _ = mkS L xs 38 20 60 ((36, 0, 37) :: (6, 8, 34) :: (34, 0, 35) :: (6, 5, 29) :: (29, 1, 24) :: (29, 0, 30) :: (30, 0, 17) :: (30, 3, 33) :: (30, 2, 32) :: (30, 1, 31) :: (6, 7, 24) :: (24, 3, 28) :: (24, 2, 27) :: (24, 1, 26) :: (24, 0, 25) :: (6, 6, 19) :: (19, 3, 23) :: (19, 2, 22) :: (19, 1, 21) :: (19, 0, 20) :: (6, 4, 17) :: (17, 0, 18) :: (6, 3, 9) :: (9, 1, 16) :: (9, 0, 10) :: (10, 4, 15) :: (10, 3, 14) :: (10, 2, 13) :: (10, 1, 12) :: (10, 0, 11) :: (6, 2, 7) :: (7, 0, 8) :: []) ((29, 5, (-1)) :: (29, 4, 0) :: (6, 1, 0) :: (6, 0, 0) :: []) by rw [mk_N, mk_nw (N2 := 38) (t := 20) (n := 22) rfl rfl rfl rfl rfl rfl, mk_sR rfl])) ?_
  rintro r_ τ_ ⟨hr_, ht_⟩; subst r_; subst τ_
  refine pw_putR dX11_init_107 flX11_66 ⟨_, rfl, Or.inr ⟨rfl, rfl, rfl⟩⟩ rfl (mk_is rfl) ?_
  rw [mk_sR rfl]
  refine pw_aload_n dX11_init_110 rfl ?_
  refine pw_new dX11_init_111 nlX11_70 (show 6 ≤ 38 by decide) ?_
  rw [mk_N, mk_nw (N2 := 39) (t := 1) (n := 0) rfl rfl rfl rfl rfl rfl]
  refine pw_dup dX11_init_114 rfl ?_
  refine pw_aload_n dX11_init_115 rfl ?_
  refine pw_getF (v := 7) dX11_init_116 flX11_19 rfl (mk_is rfl) (mk_R rfl rfl) ?_
  refine pw_aload_n dX11_init_119 rfl ?_
  refine pw_getF (v := 9) dX11_init_120 flX11_26 rfl (mk_is rfl) (mk_R rfl rfl) ?_
  refine pw_aload_n dX11_init_123 rfl ?_
  refine pw_getF dX11_init_124 flX11_40 rfl (mk_is rfl) (mk_R (v := 19) rfl rfl) ?_
  refine pw_cI3 (d1 := d - 1) (a1 := 4) (a2 := 0) dX11_init_127 mtX1_init rfl imX1_init rfl mlX11_72 (Nat.le_of_ble_eq_true rfl) (Nat.le_of_ble_eq_true rfl) (by omega) (by omega) (by omega) (t_i1 (by omega)) ?_
  rintro r_ τ_ ⟨hr_, ht_⟩; subst r_; subst τ_
  refine pw_putR dX11_init_130 flX11_75 ⟨_, rfl, Or.inr ⟨rfl, rfl, rfl⟩⟩ rfl (mk_is rfl) ?_
  rw [mk_sR rfl]
  refine pw_vret dX11_init_133 rfl ?_
  exact ⟨rfl, rfl⟩
theorem t_i12 {d L : Nat} {xs : Nat → Int32} (hd : 1 ≤ d) : PE d 24 MX12_init [.ref 43] (mkS L xs 44 20 60 ((6, 10, 38) :: (38, 3, 41) :: (41, 0, 42) :: (38, 2, 39) :: (39, 0, 40) :: (38, 4, 19) :: (38, 1, 9) :: (38, 0, 7) :: (6, 9, 36) :: (36, 0, 37) :: (6, 8, 34) :: (34, 0, 35) :: (6, 5, 29) :: (29, 1, 24) :: (29, 0, 30) :: (30, 0, 17) :: (30, 3, 33) :: (30, 2, 32) :: (30, 1, 31) :: (6, 7, 24) :: (24, 3, 28) :: (24, 2, 27) :: (24, 1, 26) :: (24, 0, 25) :: (6, 6, 19) :: (19, 3, 23) :: (19, 2, 22) :: (19, 1, 21) :: (19, 0, 20) :: (6, 4, 17) :: (17, 0, 18) :: (6, 3, 9) :: (9, 1, 16) :: (9, 0, 10) :: (10, 4, 15) :: (10, 3, 14) :: (10, 2, 13) :: (10, 1, 12) :: (10, 0, 11) :: (6, 2, 7) :: (7, 0, 8) :: []) ((29, 5, (-1)) :: (29, 4, 0) :: (6, 1, 0) :: (6, 0, 0) :: [])) none (mkS L xs 68 20 60 ((43, 40, 67) :: (43, 29, 66) :: (43, 28, 65) :: (43, 27, 64) :: (43, 26, 63) :: (43, 25, 62) :: (43, 24, 61) :: (43, 20, 60) :: (43, 19, 59) :: (43, 18, 58) :: (43, 17, 57) :: (43, 16, 56) :: (43, 15, 55) :: (43, 14, 54) :: (43, 13, 53) :: (43, 12, 52) :: (43, 11, 51) :: (43, 10, 50) :: (43, 9, 49) :: (43, 8, 48) :: (43, 7, 47) :: (43, 6, 46) :: (43, 5, 45) :: (43, 4, 44) :: (6, 10, 38) :: (38, 3, 41) :: (41, 0, 42) :: (38, 2, 39) :: (39, 0, 40) :: (38, 4, 19) :: (38, 1, 9) :: (38, 0, 7) :: (6, 9, 36) :: (36, 0, 37) :: (6, 8, 34) :: (34, 0, 35) :: (6, 5, 29) :: (29, 1, 24) :: (29, 0, 30) :: (30, 0, 17) :: (30, 3, 33) :: (30, 2, 32) :: (30, 1, 31) :: (6, 7, 24) :: (24, 3, 28) :: (24, 2, 27) :: (24, 1, 26) :: (24, 0, 25) :: (6, 6, 19) :: (19, 3, 23) :: (19, 2, 22) :: (19, 1, 21) :: (19, 0, 20) :: (6, 4, 17) :: (17, 0, 18) :: (6, 3, 9) :: (9, 1, 16) :: (9, 0, 10) :: (10, 4, 15) :: (10, 3, 14) :: (10, 2, 13) :: (10, 1, 12) :: (10, 0, 11) :: (6, 2, 7) :: (7, 0, 8) :: []) ((43, 39, (-1)) :: (29, 5, (-1)) :: (29, 4, 0) :: (6, 1, 0) :: (6, 0, 0) :: [])) := by
  show PW _ _ _ _ _ _ _ _
  refine pw_aload_n dX12_init_0 rfl ?_
  refine pw_obj dX12_init_1 mlX12_1 imObj coObj (by omega) (by omega) (Nat.le_of_ble_eq_true rfl) ?_
  refine pw_aload_n dX12_init_4 rfl ?_
  refine pw_bipush (v := 20) dX12_init_5 (by decide) ?_
  refine pw_newarr (t := 20) dX12_init_7 (by first | exact Or.inl ⟨rfl, rfl⟩ | exact Or.inr ⟨rfl, rfl⟩) ac_int (n := 20) rfl (by decide) (show 6 ≤ 44 by decide) ?_
  rw [mk_N, mk_nw (N2 := 45) (t := 20) (n := 20) rfl rfl rfl rfl rfl rfl]
  refine pw_putR dX12_init_9 flX12_7 ⟨_, rfl, Or.inr ⟨rfl, rfl, rfl⟩⟩ rfl (mk_is rfl) ?_
  rw [mk_sR rfl]
  refine pw_aload_n dX12_init_12 rfl ?_
  refine pw_bipush (v := 20) dX12_init_13 (by decide) ?_
  refine pw_newarr (t := 20) dX12_init_15 (by first | exact Or.inl ⟨rfl, rfl⟩ | exact Or.inr ⟨rfl, rfl⟩) ac_int (n := 20) rfl (by decide) (show 6 ≤ 45 by decide) ?_
  rw [mk_N, mk_nw (N2 := 46) (t := 20) (n := 20) rfl rfl rfl rfl rfl rfl]
  refine pw_putR dX12_init_17 flX12_13 ⟨_, rfl, Or.inr ⟨rfl, rfl, rfl⟩⟩ rfl (mk_is rfl) ?_
  rw [mk_sR rfl]
  refine pw_aload_n dX12_init_20 rfl ?_
  refine pw_bipush (v := 20) dX12_init_21 (by decide) ?_
  refine pw_newarr (t := 20) dX12_init_23 (by first | exact Or.inl ⟨rfl, rfl⟩ | exact Or.inr ⟨rfl, rfl⟩) ac_int (n := 20) rfl (by decide) (show 6 ≤ 46 by decide) ?_
  rw [mk_N, mk_nw (N2 := 47) (t := 20) (n := 20) rfl rfl rfl rfl rfl rfl]
  refine pw_putR dX12_init_25 flX12_16 ⟨_, rfl, Or.inr ⟨rfl, rfl, rfl⟩⟩ rfl (mk_is rfl) ?_
  rw [mk_sR rfl]
  refine pw_aload_n dX12_init_28 rfl ?_
  refine pw_bipush (v := 20) dX12_init_29 (by decide) ?_
  refine pw_newarr (t := 20) dX12_init_31 (by first | exact Or.inl ⟨rfl, rfl⟩ | exact Or.inr ⟨rfl, rfl⟩) ac_int (n := 20) rfl (by decide) (show 6 ≤ 47 by decide) ?_
  rw [mk_N, mk_nw (N2 := 48) (t := 20) (n := 20) rfl rfl rfl rfl rfl rfl]
  refine pw_putR dX12_init_33 flX12_19 ⟨_, rfl, Or.inr ⟨rfl, rfl, rfl⟩⟩ rfl (mk_is rfl) ?_
  rw [mk_sR rfl]
  refine pw_aload_n dX12_init_36 rfl ?_
  refine pw_bipush (v := 20) dX12_init_37 (by decide) ?_
  refine pw_newarr (t := 20) dX12_init_39 (by first | exact Or.inl ⟨rfl, rfl⟩ | exact Or.inr ⟨rfl, rfl⟩) ac_int (n := 20) rfl (by decide) (show 6 ≤ 48 by decide) ?_
  rw [mk_N, mk_nw (N2 := 49) (t := 20) (n := 20) rfl rfl rfl rfl rfl rfl]
  refine pw_putR dX12_init_41 flX12_22 ⟨_, rfl, Or.inr ⟨rfl, rfl, rfl⟩⟩ rfl (mk_is rfl) ?_
  rw [mk_sR rfl]
  refine pw_aload_n dX12_init_44 rfl ?_
  refine pw_bipush (v := 20) dX12_init_45 (by decide) ?_
  refine pw_newarr (t := 20) dX12_init_47 (by first | exact Or.inl ⟨rfl, rfl⟩ | exact Or.inr ⟨rfl, rfl⟩) ac_int (n := 20) rfl (by decide) (show 6 ≤ 49 by decide) ?_
  rw [mk_N, mk_nw (N2 := 50) (t := 20) (n := 20) rfl rfl rfl rfl rfl rfl]
  refine pw_putR dX12_init_49 flX12_25 ⟨_, rfl, Or.inr ⟨rfl, rfl, rfl⟩⟩ rfl (mk_is rfl) ?_
  rw [mk_sR rfl]
  refine pw_aload_n dX12_init_52 rfl ?_
  refine pw_bipush (v := 20) dX12_init_53 (by decide) ?_
  refine pw_newarr (t := 20) dX12_init_55 (by first | exact Or.inl ⟨rfl, rfl⟩ | exact Or.inr ⟨rfl, rfl⟩) ac_int (n := 20) rfl (by decide) (show 6 ≤ 50 by decide) ?_
  rw [mk_N, mk_nw (N2 := 51) (t := 20) (n := 20) rfl rfl rfl rfl rfl rfl]
  refine pw_putR dX12_init_57 flX12_28 ⟨_, rfl, Or.inr ⟨rfl, rfl, rfl⟩⟩ rfl (mk_is rfl) ?_
  rw [mk_sR rfl]
  refine pw_aload_n dX12_init_60 rfl ?_
  refine pw_bipush (v := 20) dX12_init_61 (by decide) ?_
  refine pw_newarr (t := 20) dX12_init_63 (by first | exact Or.inl ⟨rfl, rfl⟩ | exact Or.inr ⟨rfl, rfl⟩) ac_int (n := 20) rfl (by decide) (show 6 ≤ 51 by decide) ?_
  rw [mk_N, mk_nw (N2 := 52) (t := 20) (n := 20) rfl rfl rfl rfl rfl rfl]
  refine pw_putR dX12_init_65 flX12_31 ⟨_, rfl, Or.inr ⟨rfl, rfl, rfl⟩⟩ rfl (mk_is rfl) ?_
  rw [mk_sR rfl]
  refine pw_aload_n dX12_init_68 rfl ?_
  refine pw_sipush (v := 300) dX12_init_69 (by decide) ?_
  refine pw_newarr (t := 20) dX12_init_72 (by first | exact Or.inl ⟨rfl, rfl⟩ | exact Or.inr ⟨rfl, rfl⟩) ac_int (n := 300) rfl (by decide) (show 6 ≤ 52 by decide) ?_
  rw [mk_N, mk_nw (N2 := 53) (t := 20) (n := 300) rfl rfl rfl rfl rfl rfl]
  refine pw_putR dX12_init_74 flX12_34 ⟨_, rfl, Or.inr ⟨rfl, rfl, rfl⟩⟩ rfl (mk_is rfl) ?_
  rw [mk_sR rfl]
  refine pw_aload_n dX12_init_77 rfl ?_
  refine pw_sipush (v := 300) dX12_init_78 (by decide) ?_
  refine pw_newarr (t := 20) dX12_init_81 (by first | exact Or.inl ⟨rfl, rfl⟩ | exact Or.inr ⟨rfl, rfl⟩) ac_int (n := 300) rfl (by decide) (show 6 ≤ 53 by decide) ?_
  rw [mk_N, mk_nw (N2 := 54) (t := 20) (n := 300) rfl rfl rfl rfl rfl rfl]
  refine pw_putR dX12_init_83 flX12_37 ⟨_, rfl, Or.inr ⟨rfl, rfl, rfl⟩⟩ rfl (mk_is rfl) ?_
  rw [mk_sR rfl]
  refine pw_aload_n dX12_init_86 rfl ?_
  refine pw_sipush (v := 300) dX12_init_87 (by decide) ?_
  refine pw_newarr (t := 20) dX12_init_90 (by first | exact Or.inl ⟨rfl, rfl⟩ | exact Or.inr ⟨rfl, rfl⟩) ac_int (n := 300) rfl (by decide) (show 6 ≤ 54 by decide) ?_
  rw [mk_N, mk_nw (N2 := 55) (t := 20) (n := 300) rfl rfl rfl rfl rfl rfl]
  refine pw_putR dX12_init_92 flX12_40 ⟨_, rfl, Or.inr ⟨rfl, rfl, rfl⟩⟩ rfl (mk_is rfl) ?_
  rw [mk_sR rfl]
  refine pw_aload_n dX12_init_95 rfl ?_
  refine pw_sipush (v := 300) dX12_init_96 (by decide) ?_
  refine pw_newarr (t := 20) dX12_init_99 (by first | exact Or.inl ⟨rfl, rfl⟩ | exact Or.inr ⟨rfl, rfl⟩) ac_int (n := 300) rfl (by decide) (show 6 ≤ 55 by decide) ?_
  rw [mk_N, mk_nw (N2 := 56) (t := 20) (n := 300) rfl rfl rfl rfl rfl rfl]
  refine pw_putR dX12_init_101 flX12_43 ⟨_, rfl, Or.inr ⟨rfl, rfl, rfl⟩⟩ rfl (mk_is rfl) ?_
  rw [mk_sR rfl]
  refine pw_aload_n dX12_init_104 rfl ?_
  refine pw_bipush (v := 60) dX12_init_105 (by decide) ?_
  refine pw_newarr (t := 20) dX12_init_107 (by first | exact Or.inl ⟨rfl, rfl⟩ | exact Or.inr ⟨rfl, rfl⟩) ac_int (n := 60) rfl (by decide) (show 6 ≤ 56 by decide) ?_
  rw [mk_N, mk_nw (N2 := 57) (t := 20) (n := 60) rfl rfl rfl rfl rfl rfl]
  refine pw_putR dX12_init_109 flX12_46 ⟨_, rfl, Or.inr ⟨rfl, rfl, rfl⟩⟩ rfl (mk_is rfl) ?_
  rw [mk_sR rfl]
  refine pw_aload_n dX12_init_112 rfl ?_
  refine pw_bipush (v := 60) dX12_init_113 (by decide) ?_
  refine pw_newarr (t := 20) dX12_init_115 (by first | exact Or.inl ⟨rfl, rfl⟩ | exact Or.inr ⟨rfl, rfl⟩) ac_int (n := 60) rfl (by decide) (show 6 ≤ 57 by decide) ?_
  rw [mk_N, mk_nw (N2 := 58) (t := 20) (n := 60) rfl rfl rfl rfl rfl rfl]
  refine pw_putR dX12_init_117 flX12_49 ⟨_, rfl, Or.inr ⟨rfl, rfl, rfl⟩⟩ rfl (mk_is rfl) ?_
  rw [mk_sR rfl]
  refine pw_aload_n dX12_init_120 rfl ?_
  refine pw_bipush (v := 60) dX12_init_121 (by decide) ?_
  refine pw_newarr (t := 20) dX12_init_123 (by first | exact Or.inl ⟨rfl, rfl⟩ | exact Or.inr ⟨rfl, rfl⟩) ac_int (n := 60) rfl (by decide) (show 6 ≤ 58 by decide) ?_
  rw [mk_N, mk_nw (N2 := 59) (t := 20) (n := 60) rfl rfl rfl rfl rfl rfl]
  refine pw_putR dX12_init_125 flX12_52 ⟨_, rfl, Or.inr ⟨rfl, rfl, rfl⟩⟩ rfl (mk_is rfl) ?_
  rw [mk_sR rfl]
  refine pw_aload_n dX12_init_128 rfl ?_
  refine pw_bipush (v := 60) dX12_init_129 (by decide) ?_
  refine pw_newarr (t := 20) dX12_init_131 (by first | exact Or.inl ⟨rfl, rfl⟩ | exact Or.inr ⟨rfl, rfl⟩) ac_int (n := 60) rfl (by decide) (show 6 ≤ 59 by decide) ?_
  rw [mk_N, mk_nw (N2 := 60) (t := 20) (n := 60) rfl rfl rfl rfl rfl rfl]
  refine pw_putR dX12_init_133 flX12_55 ⟨_, rfl, Or.inr ⟨rfl, rfl, rfl⟩⟩ rfl (mk_is rfl) ?_
  rw [mk_sR rfl]
  refine pw_aload_n dX12_init_136 rfl ?_
  refine pw_bipush (v := 60) dX12_init_137 (by decide) ?_
  refine pw_newarr (t := 20) dX12_init_139 (by first | exact Or.inl ⟨rfl, rfl⟩ | exact Or.inr ⟨rfl, rfl⟩) ac_int (n := 60) rfl (by decide) (show 6 ≤ 60 by decide) ?_
  rw [mk_N, mk_nw (N2 := 61) (t := 20) (n := 60) rfl rfl rfl rfl rfl rfl]
  refine pw_putR dX12_init_141 flX12_58 ⟨_, rfl, Or.inr ⟨rfl, rfl, rfl⟩⟩ rfl (mk_is rfl) ?_
  rw [mk_sR rfl]
  refine pw_aload_n dX12_init_144 rfl ?_
  refine pw_bipush (v := 13) dX12_init_145 (by decide) ?_
  refine pw_newarr (t := 20) dX12_init_147 (by first | exact Or.inl ⟨rfl, rfl⟩ | exact Or.inr ⟨rfl, rfl⟩) ac_int (n := 13) rfl (by decide) (show 6 ≤ 61 by decide) ?_
  rw [mk_N, mk_nw (N2 := 62) (t := 20) (n := 13) rfl rfl rfl rfl rfl rfl]
  refine pw_putR dX12_init_149 flX12_61 ⟨_, rfl, Or.inr ⟨rfl, rfl, rfl⟩⟩ rfl (mk_is rfl) ?_
  rw [mk_sR rfl]
  refine pw_aload_n dX12_init_152 rfl ?_
  refine pw_sipush (v := 620) dX12_init_153 (by decide) ?_
  refine pw_newarr (t := 20) dX12_init_156 (by first | exact Or.inl ⟨rfl, rfl⟩ | exact Or.inr ⟨rfl, rfl⟩) ac_int (n := 620) rfl (by decide) (show 6 ≤ 62 by decide) ?_
  rw [mk_N, mk_nw (N2 := 63) (t := 20) (n := 620) rfl rfl rfl rfl rfl rfl]
  refine pw_putR dX12_init_158 flX12_64 ⟨_, rfl, Or.inr ⟨rfl, rfl, rfl⟩⟩ rfl (mk_is rfl) ?_
  rw [mk_sR rfl]
  refine pw_aload_n dX12_init_161 rfl ?_
  refine pw_bipush (v := 13) dX12_init_162 (by decide) ?_
  refine pw_newarr (t := 20) dX12_init_164 (by first | exact Or.inl ⟨rfl, rfl⟩ | exact Or.inr ⟨rfl, rfl⟩) ac_int (n := 13) rfl (by decide) (show 6 ≤ 63 by decide) ?_
  rw [mk_N, mk_nw (N2 := 64) (t := 20) (n := 13) rfl rfl rfl rfl rfl rfl]
  refine pw_putR dX12_init_166 flX12_67 ⟨_, rfl, Or.inr ⟨rfl, rfl, rfl⟩⟩ rfl (mk_is rfl) ?_
  rw [mk_sR rfl]
  refine pw_aload_n dX12_init_169 rfl ?_
  refine pw_sipush (v := 620) dX12_init_170 (by decide) ?_
  refine pw_newarr (t := 20) dX12_init_173 (by first | exact Or.inl ⟨rfl, rfl⟩ | exact Or.inr ⟨rfl, rfl⟩) ac_int (n := 620) rfl (by decide) (show 6 ≤ 64 by decide) ?_
  rw [mk_N, mk_nw (N2 := 65) (t := 20) (n := 620) rfl rfl rfl rfl rfl rfl]
  refine pw_putR dX12_init_175 flX12_70 ⟨_, rfl, Or.inr ⟨rfl, rfl, rfl⟩⟩ rfl (mk_is rfl) ?_
  rw [mk_sR rfl]
  refine pw_aload_n dX12_init_178 rfl ?_
  refine pw_sipush (v := 620) dX12_init_179 (by decide) ?_
  refine pw_newarr (t := 20) dX12_init_182 (by first | exact Or.inl ⟨rfl, rfl⟩ | exact Or.inr ⟨rfl, rfl⟩) ac_int (n := 620) rfl (by decide) (show 6 ≤ 65 by decide) ?_
  rw [mk_N, mk_nw (N2 := 66) (t := 20) (n := 620) rfl rfl rfl rfl rfl rfl]
  refine pw_putR dX12_init_184 flX12_73 ⟨_, rfl, Or.inr ⟨rfl, rfl, rfl⟩⟩ rfl (mk_is rfl) ?_
  rw [mk_sR rfl]
  refine pw_aload_n dX12_init_187 rfl ?_
  refine pw_sipush (v := 600) dX12_init_188 (by decide) ?_
  refine pw_newarr (t := 20) dX12_init_191 (by first | exact Or.inl ⟨rfl, rfl⟩ | exact Or.inr ⟨rfl, rfl⟩) ac_int (n := 600) rfl (by decide) (show 6 ≤ 66 by decide) ?_
  rw [mk_N, mk_nw (N2 := 67) (t := 20) (n := 600) rfl rfl rfl rfl rfl rfl]
  refine pw_putR dX12_init_193 flX12_76 ⟨_, rfl, Or.inr ⟨rfl, rfl, rfl⟩⟩ rfl (mk_is rfl) ?_
  rw [mk_sR rfl]
  refine pw_aload_n dX12_init_196 rfl ?_
  refine pw_iconst (v := (-1)) dX12_init_197 (by decide) ?_
  refine pw_putI dX12_init_198 flX12_79 ⟨_, rfl, Or.inl rfl⟩ rfl (mk_is rfl) ?_
  rw [mk_sI rfl]
  refine pw_aload_n dX12_init_201 rfl ?_
  refine pw_iconst (v := 5) dX12_init_202 (by decide) ?_
  refine pw_newarr (t := 20) dX12_init_203 (by first | exact Or.inl ⟨rfl, rfl⟩ | exact Or.inr ⟨rfl, rfl⟩) ac_int (n := 5) rfl (by decide) (show 6 ≤ 67 by decide) ?_
  rw [mk_N, mk_nw (N2 := 68) (t := 20) (n := 5) rfl rfl rfl rfl rfl rfl]
  refine pw_putR dX12_init_205 flX12_83 ⟨_, rfl, Or.inr ⟨rfl, rfl, rfl⟩⟩ rfl (mk_is rfl) ?_
  rw [mk_sR rfl]
  refine pw_vret dX12_init_208 rfl ?_
  exact ⟨rfl, rfl⟩
def c_RR : List (Nat × Nat × Nat) := ((43, 40, 67) :: (43, 29, 66) :: (43, 28, 65) :: (43, 27, 64) :: (43, 26, 63) :: (43, 25, 62) :: (43, 24, 61) :: (43, 20, 60) :: (43, 19, 59) :: (43, 18, 58) :: (43, 17, 57) :: (43, 16, 56) :: (43, 15, 55) :: (43, 14, 54) :: (43, 13, 53) :: (43, 12, 52) :: (43, 11, 51) :: (43, 10, 50) :: (43, 9, 49) :: (43, 8, 48) :: (43, 7, 47) :: (43, 6, 46) :: (43, 5, 45) :: (43, 4, 44) :: (6, 10, 38) :: (38, 3, 41) :: (41, 0, 42) :: (38, 2, 39) :: (39, 0, 40) :: (38, 4, 19) :: (38, 1, 9) :: (38, 0, 7) :: (6, 9, 36) :: (36, 0, 37) :: (6, 8, 34) :: (34, 0, 35) :: (6, 5, 29) :: (29, 1, 24) :: (29, 0, 30) :: (30, 0, 17) :: (30, 3, 33) :: (30, 2, 32) :: (30, 1, 31) :: (6, 7, 24) :: (24, 3, 28) :: (24, 2, 27) :: (24, 1, 26) :: (24, 0, 25) :: (6, 6, 19) :: (19, 3, 23) :: (19, 2, 22) :: (19, 1, 21) :: (19, 0, 20) :: (6, 4, 17) :: (17, 0, 18) :: (6, 3, 9) :: (9, 1, 16) :: (9, 0, 10) :: (10, 4, 15) :: (10, 3, 14) :: (10, 2, 13) :: (10, 1, 12) :: (10, 0, 11) :: (6, 2, 7) :: (7, 0, 8) :: [])
def c_RI : List (Nat × Nat × Int32) := ((43, 39, (-1)) :: (29, 5, (-1)) :: (29, 4, 0) :: (6, 1, 0) :: (6, 0, 0) :: [])
theorem t_made {d L : Nat} {xs : Nat → Int32} (hd : 3 ≤ d) : PE d 36 MX11_init [.ref 6] (mkS L xs 7 21 0 ([]) ([])) none (mkS L xs 43 20 60 ((6, 10, 38) :: (38, 3, 41) :: (41, 0, 42) :: (38, 2, 39) :: (39, 0, 40) :: (38, 4, 19) :: (38, 1, 9) :: (38, 0, 7) :: (6, 9, 36) :: (36, 0, 37) :: (6, 8, 34) :: (34, 0, 35) :: (6, 5, 29) :: (29, 1, 24) :: (29, 0, 30) :: (30, 0, 17) :: (30, 3, 33) :: (30, 2, 32) :: (30, 1, 31) :: (6, 7, 24) :: (24, 3, 28) :: (24, 2, 27) :: (24, 1, 26) :: (24, 0, 25) :: (6, 6, 19) :: (19, 3, 23) :: (19, 2, 22) :: (19, 1, 21) :: (19, 0, 20) :: (6, 4, 17) :: (17, 0, 18) :: (6, 3, 9) :: (9, 1, 16) :: (9, 0, 10) :: (10, 4, 15) :: (10, 3, 14) :: (10, 2, 13) :: (10, 1, 12) :: (10, 0, 11) :: (6, 2, 7) :: (7, 0, 8) :: []) ((29, 5, (-1)) :: (29, 4, 0) :: (6, 1, 0) :: (6, 0, 0) :: [])) := t_i11 hd
theorem t_made2 {d L : Nat} {xs : Nat → Int32} (hd : 1 ≤ d) : PE d 24 MX12_init [.ref 43] (mkS L xs 44 20 60 ((6, 10, 38) :: (38, 3, 41) :: (41, 0, 42) :: (38, 2, 39) :: (39, 0, 40) :: (38, 4, 19) :: (38, 1, 9) :: (38, 0, 7) :: (6, 9, 36) :: (36, 0, 37) :: (6, 8, 34) :: (34, 0, 35) :: (6, 5, 29) :: (29, 1, 24) :: (29, 0, 30) :: (30, 0, 17) :: (30, 3, 33) :: (30, 2, 32) :: (30, 1, 31) :: (6, 7, 24) :: (24, 3, 28) :: (24, 2, 27) :: (24, 1, 26) :: (24, 0, 25) :: (6, 6, 19) :: (19, 3, 23) :: (19, 2, 22) :: (19, 1, 21) :: (19, 0, 20) :: (6, 4, 17) :: (17, 0, 18) :: (6, 3, 9) :: (9, 1, 16) :: (9, 0, 10) :: (10, 4, 15) :: (10, 3, 14) :: (10, 2, 13) :: (10, 1, 12) :: (10, 0, 11) :: (6, 2, 7) :: (7, 0, 8) :: []) ((29, 5, (-1)) :: (29, 4, 0) :: (6, 1, 0) :: (6, 0, 0) :: [])) none (mkS L xs 68 20 60 c_RR c_RI) := t_i12 hd
