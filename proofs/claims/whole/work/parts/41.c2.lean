/-! ===== the class: the shelf ===== -/
theorem pm_fix.act {σ : pm_S} (h : pm_fix σ) {a b : Nat} (ha : 68 ≤ a) {x1 x2 x3 x4 x5 : Int32} : pm_fix (c_act σ a b x1 x2 x3 x4 x5) := (h.sRd ha).sI.sI.sI.sI.sI
theorem pm_fix.thing {σ : pm_S} (h : pm_fix σ) {a l : Nat} (ha : 68 ≤ a) {x1 x2 x3 x4 x5 x6 x7 x8 : Int32} : pm_fix (c_thing σ a l x1 x2 x3 x4 x5 x6 x7 x8) := pm_fix.sRd h.sI.sI.sI.sI.sI.sI.sI.sI ha
theorem t_within {d al : Nat} {σ : pm_S} (v a b : Int32) : PE d al MX11_isWithin [.int v, .int a, .int b] σ (some (.int (bI (a ≤ v ∧ v ≤ b)))) σ := by
  show PW _ _ _ _ _ _ _ _
  refine pw_iload_n dX11_isWithin_0 rfl ?_
  refine pw_iload_n dX11_isWithin_1 rfl ?_
  refine pw_icmp_lt (tgt := 14) dX11_isWithin_2 (by decide) (fun h2 => ?_) (fun h2 => ?_)
  · refine pw_iconst (v := 0) dX11_isWithin_14 (by decide) ?_
    refine pw_iret dX11_isWithin_15 rfl (by first | rfl | exact bI_nar) ?_
    first | exact ⟨by rw [bI_f (fun z => Int32.not_le.mpr h2 z.1)], rfl⟩ | exact ⟨by rw [bI_f (fun z => Int32.not_le.mpr h7 z.2)], rfl⟩ | exact ⟨by rw [bI_t ⟨Int32.not_lt.mp h2, Int32.not_lt.mp h7⟩], rfl⟩
  · refine pw_iload_n dX11_isWithin_5 rfl ?_
    refine pw_iload_n dX11_isWithin_6 rfl ?_
    refine pw_icmp_gt (tgt := 14) dX11_isWithin_7 (by decide) (fun h7 => ?_) (fun h7 => ?_)
    · refine pw_iconst (v := 0) dX11_isWithin_14 (by decide) ?_
      refine pw_iret dX11_isWithin_15 rfl (by first | rfl | exact bI_nar) ?_
      first | exact ⟨by rw [bI_f (fun z => Int32.not_le.mpr h2 z.1)], rfl⟩ | exact ⟨by rw [bI_f (fun z => Int32.not_le.mpr h7 z.2)], rfl⟩ | exact ⟨by rw [bI_t ⟨Int32.not_lt.mp h2, Int32.not_lt.mp h7⟩], rfl⟩
    · refine pw_iconst (v := 1) dX11_isWithin_10 (by decide) ?_
      refine pw_goto (tgt := 15) dX11_isWithin_11 (by decide) ?_
      refine pw_iret dX11_isWithin_15 rfl (by first | rfl | exact bI_nar) ?_
      first | exact ⟨by rw [bI_f (fun z => Int32.not_le.mpr h2 z.1)], rfl⟩ | exact ⟨by rw [bI_f (fun z => Int32.not_le.mpr h7 z.2)], rfl⟩ | exact ⟨by rw [bI_t ⟨Int32.not_lt.mp h2, Int32.not_lt.mp h7⟩], rfl⟩
theorem t_mark {d al : Nat} {σ : pm_S} (hd : 1 ≤ d) (v : Int32) : PE d al MX11_isMark [.int v] σ (some (.int (bI (0 ≤ v ∧ v ≤ 9)))) σ := by
  show PW _ _ _ _ _ _ _ _
  refine pw_iload_n dX11_isMark_0 rfl ?_
  refine pw_iconst (v := 0) dX11_isMark_1 (by decide) ?_
  refine pw_bipush (v := 9) dX11_isMark_2 (by decide) ?_
  refine pw_cS3 (d1 := d - 1) (a1 := 0) (a2 := al) dX11_isMark_4 mtX11_isWithin stX11_isWithin mlX11_79 (Nat.le_of_ble_eq_true rfl) (Nat.le_of_ble_eq_true rfl) (by omega) (by omega) (t_within _ _ _) ?_
  rintro r_ τ_ ⟨hr_, ht_⟩; subst r_; subst τ_
  refine pw_iret dX11_isMark_7 rfl (by first | rfl | exact bI_nar) ?_
  exact ⟨rfl, rfl⟩
theorem t_house {d al : Nat} {σ : pm_S} (hd : 1 ≤ d) (v : Int32) : PE d al MX11_isHouse [.int v] σ (some (.int (bI (0 ≤ v ∧ v ≤ 7)))) σ := by
  show PW _ _ _ _ _ _ _ _
  refine pw_iload_n dX11_isHouse_0 rfl ?_
  refine pw_iconst (v := 0) dX11_isHouse_1 (by decide) ?_
  refine pw_bipush (v := 7) dX11_isHouse_2 (by decide) ?_
  refine pw_cS3 (d1 := d - 1) (a1 := 0) (a2 := al) dX11_isHouse_4 mtX11_isWithin stX11_isWithin mlX11_79 (Nat.le_of_ble_eq_true rfl) (Nat.le_of_ble_eq_true rfl) (by omega) (by omega) (t_within _ _ _) ?_
  rintro r_ τ_ ⟨hr_, ht_⟩; subst r_; subst τ_
  refine pw_iret dX11_isHouse_7 rfl (by first | rfl | exact bI_nar) ?_
  exact ⟨rfl, rfl⟩
theorem t_season {d al : Nat} {σ : pm_S} (hd : 1 ≤ d) (v : Int32) : PE d al MX11_isSeason [.int v] σ (some (.int (bI (0 ≤ v ∧ v ≤ 3)))) σ := by
  show PW _ _ _ _ _ _ _ _
  refine pw_iload_n dX11_isSeason_0 rfl ?_
  refine pw_iconst (v := 0) dX11_isSeason_1 (by decide) ?_
  refine pw_iconst (v := 3) dX11_isSeason_2 (by decide) ?_
  refine pw_cS3 (d1 := d - 1) (a1 := 0) (a2 := al) dX11_isSeason_3 mtX11_isWithin stX11_isWithin mlX11_79 (Nat.le_of_ble_eq_true rfl) (Nat.le_of_ble_eq_true rfl) (by omega) (by omega) (t_within _ _ _) ?_
  rintro r_ τ_ ⟨hr_, ht_⟩; subst r_; subst τ_
  refine pw_iret dX11_isSeason_6 rfl (by first | rfl | exact bI_nar) ?_
  exact ⟨rfl, rfl⟩
theorem t_guests {d al : Nat} {σ : pm_S} (hd : 1 ≤ d) (v : Int32) : PE d al MX11_isGuests [.int v] σ (some (.int (bI (1 ≤ v ∧ v ≤ 255)))) σ := by
  show PW _ _ _ _ _ _ _ _
  refine pw_iload_n dX11_isGuests_0 rfl ?_
  refine pw_iconst (v := 1) dX11_isGuests_1 (by decide) ?_
  refine pw_sipush (v := 255) dX11_isGuests_2 (by decide) ?_
  refine pw_cS3 (d1 := d - 1) (a1 := 0) (a2 := al) dX11_isGuests_5 mtX11_isWithin stX11_isWithin mlX11_79 (Nat.le_of_ble_eq_true rfl) (Nat.le_of_ble_eq_true rfl) (by omega) (by omega) (t_within _ _ _) ?_
  rintro r_ τ_ ⟨hr_, ht_⟩; subst r_; subst τ_
  refine pw_iret dX11_isGuests_8 rfl (by first | rfl | exact bI_nar) ?_
  exact ⟨rfl, rfl⟩
theorem t_count {d al : Nat} {σ : pm_S} (hS : pm_fix σ) : PE d al MX6_count [.ref 7] σ (some (.int (qI σ 7 1))) σ := by
  show PW _ _ _ _ _ _ _ _
  refine pw_aload_n dX6_count_0 rfl ?_
  refine pw_getI dX6_count_1 flX6_17 rfl (hS.at rfl rfl rfl) ?_
  refine pw_iret dX6_count_4 rfl rfl ?_
  exact ⟨rfl, rfl⟩
theorem t_isFull {d al n : Nat} {σ : pm_S} (hS : pm_fix σ) (hn : qI σ 7 1 = nI n) (hn2 : n ≤ 20) : PE d al MX6_isFull [.ref 7] σ (some (.int (bI (n = 20)))) σ := by
  show PW _ _ _ _ _ _ _ _
  refine pw_aload_n dX6_isFull_0 rfl ?_
  refine pw_getI dX6_isFull_1 flX6_17 rfl (hS.at rfl rfl rfl) ?_
  refine pw_bipush (v := 20) dX6_isFull_4 (by decide) ?_
  refine pw_icmp_lt (tgt := 13) dX6_isFull_6 (by decide) (fun h6 => ?_) (fun h6 => ?_)
  · refine pw_iconst (v := 0) dX6_isFull_13 (by decide) ?_
    refine pw_iret dX6_isFull_14 rfl (by first | rfl | exact bI_nar) ?_
    rw [hn] at h6
    by_cases hf : n = 20
    · rw [bI_t hf]
      first | exact ⟨rfl, rfl⟩ | exact absurd h6 (by rw [hf]; decide)
    · rw [bI_f hf]
      first | exact ⟨rfl, rfl⟩ | exact absurd (nI_lt (show n < 20 by omega) (by decide)) h6
  · refine pw_iconst (v := 1) dX6_isFull_9 (by decide) ?_
    refine pw_goto (tgt := 14) dX6_isFull_10 (by decide) ?_
    refine pw_iret dX6_isFull_14 rfl (by first | rfl | exact bI_nar) ?_
    rw [hn] at h6
    by_cases hf : n = 20
    · rw [bI_t hf]
      first | exact ⟨rfl, rfl⟩ | exact absurd h6 (by rw [hf]; decide)
    · rw [bI_f hf]
      first | exact ⟨rfl, rfl⟩ | exact absurd (nI_lt (show n < 20 by omega) (by decide)) h6
theorem t_put {d al n a : Nat} {σ : pm_S} (hd : 1 ≤ d) (hS : pm_fix σ) (hn : qI σ 7 1 = nI n) (hn2 : n < 20) (ha : pm_is σ a 9) : PE d al MX6_put [.ref 7, .ref a] σ (some (.int (nI n))) (pm_sI (pm_sR σ 8 n a) 7 1 (nI n + 1)) := by
  show PW _ _ _ _ _ _ _ _
  refine pw_aload_n dX6_put_0 rfl ?_
  refine pw_cV0 (d1 := d - 1) (a1 := 0) (a2 := al) dX6_put_1 mtX6_isFull ivX6_isFull mlX6_21 (Nat.le_of_ble_eq_true rfl) (Nat.le_of_ble_eq_true rfl) (by omega) (by omega) (hS.at rfl rfl rfl) rfl rfl (t_isFull hS hn (by omega)) ?_
  rintro r_ τ_ ⟨hr_, ht_⟩; subst r_; subst τ_
  refine pw_if_eq (tgt := 9) dX6_put_4 (by decide) (fun h4 => ?_) (fun h4 => ?_)
  · refine pw_aload_n dX6_put_9 rfl ?_
    refine pw_getF (v := 8) dX6_put_10 flX6_11 rfl (hS.at rfl rfl rfl) (hS.rf (7, 0, 8) rfl (by decide)) ?_
    refine pw_aload_n dX6_put_13 rfl ?_
    refine pw_getI dX6_put_14 flX6_17 rfl (hS.at rfl rfl rfl) ?_
    refine pw_aload_n dX6_put_17 rfl ?_
    refine pw_aast dX6_put_18 (hS.at rfl rfl rfl) (Or.inr ha) hn (hS.lt rfl rfl hn2 rfl) (by omega) ?_
    refine pw_aload_n dX6_put_19 rfl ?_
    refine pw_dup dX6_put_20 rfl ?_
    refine pw_getI dX6_put_21 flX6_17 rfl (hS.at rfl rfl rfl) ?_
    refine pw_iconst (v := 1) dX6_put_24 (by decide) ?_
    refine pw_iadd dX6_put_25 ?_
    refine pw_putI dX6_put_26 flX6_17 ⟨_, rfl, Or.inl rfl⟩ rfl (hS.at rfl rfl rfl) ?_
    refine pw_aload_n dX6_put_29 rfl ?_
    refine pw_getI dX6_put_30 flX6_17 rfl (hS.at rfl rfl rfl) ?_
    refine pw_iconst (v := 1) dX6_put_33 (by decide) ?_
    refine pw_isub dX6_put_34 ?_
    refine pw_iret dX6_put_35 rfl rfl ?_
    refine ⟨?_, ?_⟩
    · show some (Value.int (qI σ 7 1 + 1 - 1)) = _
      rw [hn, ← nI_succ, nI_pred]
    · show pm_sI (pm_sR σ 8 n a) 7 1 (qI σ 7 1 + 1) = _
      rw [hn]
  · exact absurd (bI_n.mp h4) (by omega)
/-- the things on the shelf: n of them, each with its chain of acts -/
def cT (σ : pm_S) (n : Nat) (X : Nat → List c_A) : Prop := qI σ 7 1 = nI n ∧ n ≤ 20 ∧ ∀ t, t < n → (pm_is σ (qR σ 8 t) 9 ∧ 68 ≤ qR σ 8 t) ∧ qI σ (qR σ 8 t) 0 = nI t ∧ Ch σ (qR σ (qR σ 8 t) 8) (X t) ∧ ∃ x xs, X t = x :: xs ∧ (x.2.2.2.2 = 0 ∨ x.2.2.2.2 = 1)
/-- the latest act of a thing -/
def hX (X : Nat → List c_A) (t : Nat) : c_A := (X t).headD (0, 0, 0, 0, 0)
theorem cT.at {σ : pm_S} {n t : Nat} {X : Nat → List c_A} (h : cT σ n X) (ht : t < n) : pm_is σ (qR σ 8 t) 9 ∧ 68 ≤ qR σ 8 t ∧ pm_is σ (qR σ (qR σ 8 t) 8) 0 ∧ qI σ (qR σ (qR σ 8 t) 8) 1 = (hX X t).1 ∧ qI σ (qR σ (qR σ 8 t) 8) 2 = (hX X t).2.1 ∧ qI σ (qR σ (qR σ 8 t) 8) 3 = (hX X t).2.2.1 ∧ qI σ (qR σ (qR σ 8 t) 8) 4 = (hX X t).2.2.2.1 ∧ qI σ (qR σ (qR σ 8 t) 8) 5 = (hX X t).2.2.2.2 ∧ ((hX X t).2.2.2.2 = 0 ∨ (hX X t).2.2.2.2 = 1) := by
  obtain ⟨⟨h1, h2⟩, -, h3, x, xs, h4, h5⟩ := h.2.2 t ht
  have hx : hX X t = x := by unfold hX; rw [h4]; rfl
  rw [h4] at h3
  obtain ⟨⟨g1, -⟩, ⟨f1, f2, f3, f4, f5⟩, -⟩ := h3
  rw [hx]
  exact ⟨h1, h2, g1, f1, f2, f3, f4, f5, h5⟩
theorem tOk_lt {n : Nat} {v : Int32} (hn : n < 2 ^ 30) : tOk n v ↔ ¬ v < 0 ∧ ¬ nI n ≤ v := by
  rw [tOk_iff hn]
  constructor
  · rintro ⟨j, h1, rfl⟩
    exact ⟨nI_pos (by omega), nI_ge h1 (by omega)⟩
  · rintro ⟨h1, h2⟩
    obtain ⟨j, hj, rfl⟩ := nI_of h1
    refine ⟨j, ?_, rfl⟩
    rcases Nat.lt_or_ge j n with h | h
    · exact h
    · exact absurd (nI_le h (by omega)) h2
def c_fd (σ : pm_S) (n : Nat) (t : Int32) : Nat := if tOk n t then qR σ 8 t.toNatClampNeg else 0
theorem t_find {d al n : Nat} {σ : pm_S} (hS : pm_fix σ) (hn : qI σ 7 1 = nI n) (hn2 : n ≤ 20) (t : Int32) : PE d al MX6_find [.ref 7, .int t] σ (some (.ref (c_fd σ n t))) σ := by
  show PW _ _ _ _ _ _ _ _
  refine pw_iload_n dX6_find_0 rfl ?_
  refine pw_if_lt (tgt := 21) dX6_find_1 (by decide) (fun h1 => ?_) (fun h1 => ?_)
  · refine pw_null dX6_find_21 ?_
    refine pw_aret dX6_find_22 rfl (by first | exact Or.inl ⟨_, rfl⟩ | exact Or.inr ⟨_, rfl⟩) ?_
    refine ⟨?_, rfl⟩
    unfold c_fd
    first | rw [if_pos ht, hcl] | (have hno : ¬ tOk n t := (fun z => ((tOk_lt (by omega)).mp z).1 h1); rw [if_neg hno]) | (have hno : ¬ tOk n t := (fun z => ((tOk_lt (by omega)).mp z).2 (by rw [← hn]; exact h9)); rw [if_neg hno])
  · refine pw_iload_n dX6_find_4 rfl ?_
    refine pw_aload_n dX6_find_5 rfl ?_
    refine pw_getI dX6_find_6 flX6_17 rfl (hS.at rfl rfl rfl) ?_
    refine pw_icmp_ge (tgt := 21) dX6_find_9 (by decide) (fun h9 => ?_) (fun h9 => ?_)
    · refine pw_null dX6_find_21 ?_
      refine pw_aret dX6_find_22 rfl (by first | exact Or.inl ⟨_, rfl⟩ | exact Or.inr ⟨_, rfl⟩) ?_
      refine ⟨?_, rfl⟩
      unfold c_fd
      first | rw [if_pos ht, hcl] | (have hno : ¬ tOk n t := (fun z => ((tOk_lt (by omega)).mp z).1 h1); rw [if_neg hno]) | (have hno : ¬ tOk n t := (fun z => ((tOk_lt (by omega)).mp z).2 (by rw [← hn]; exact h9)); rw [if_neg hno])
    · have ht : tOk n t := (tOk_lt (by omega)).mpr ⟨h1, by rw [← hn]; exact h9⟩
      obtain ⟨j, hj2, hj⟩ := (tOk_iff (by omega)).mp ht
      have hj3 : j < 20 := by omega
      have hcl : t.toNatClampNeg = j := by rw [hj]; exact nI_clamp (by omega)
      refine pw_aload_n dX6_find_12 rfl ?_
      refine pw_getF (v := 8) dX6_find_13 flX6_11 rfl (hS.at rfl rfl rfl) (hS.rf (7, 0, 8) rfl (by decide)) ?_
      refine pw_iload_n dX6_find_16 rfl ?_
      refine pw_aald dX6_find_17 (hS.at rfl rfl rfl) (by first | exact Or.inl rfl | exact Or.inr rfl) hj (hS.lt rfl rfl hj3 rfl) (by omega) ?_
      refine pw_goto (tgt := 22) dX6_find_18 (by decide) ?_
      refine pw_aret dX6_find_22 rfl (by first | exact Or.inl ⟨_, rfl⟩ | exact Or.inr ⟨_, rfl⟩) ?_
      refine ⟨?_, rfl⟩
      unfold c_fd
      first | rw [if_pos ht, hcl] | (have hno : ¬ tOk n t := (fun z => ((tOk_lt (by omega)).mp z).1 h1); rw [if_neg hno]) | (have hno : ¬ tOk n t := (fun z => ((tOk_lt (by omega)).mp z).2 (by rw [← hn]; exact h9)); rw [if_neg hno])
/-- there, in the class's words -/
abbrev cTh (X : Nat → List c_A) (n : Nat) (t : Int32) : Prop := tOk n t ∧ (hX X t.toNatClampNeg).2.2.2.2 = 1
def c_ft (σ : pm_S) (X : Nat → List c_A) (n : Nat) (t : Int32) : Nat := if cTh X n t then qR σ 8 t.toNatClampNeg else 0
theorem t_findThere {d al n : Nat} {σ : pm_S} {X : Nat → List c_A} (hd : 1 ≤ d) (hS : pm_fix σ) (hT : cT σ n X) (t : Int32) : PE d al MX6_findThere [.ref 7, .int t] σ (some (.ref (c_ft σ X n t))) σ := by
  show PW _ _ _ _ _ _ _ _
  have hfd : ∀ {h : 0 < c_fd σ n t}, tOk n t := fun {h} => by
    unfold c_fd at h
    split at h
    · assumption
    · exact absurd h (Nat.lt_irrefl 0)
  refine pw_aload_n dX6_findThere_0 rfl ?_
  refine pw_iload_n dX6_findThere_1 rfl ?_
  refine pw_cV1 (d1 := d - 1) (a1 := 0) (a2 := al) dX6_findThere_2 mtX6_find ivX6_find mlX6_25 (Nat.le_of_ble_eq_true rfl) (Nat.le_of_ble_eq_true rfl) (by omega) (by omega) (hS.at rfl rfl rfl) rfl rfl (t_find hS hT.1 hT.2.1 _) ?_
  rintro r_ τ_ ⟨hr_, ht_⟩; subst r_; subst τ_
  refine pw_astore_n dX6_findThere_5 (Nat.le_of_ble_eq_true rfl) (Nat.le_of_ble_eq_true rfl) rfl ?_
  refine pw_aload_n dX6_findThere_6 rfl ?_
  refine pw_ifnull (tgt := 21) dX6_findThere_7 (by decide) (fun h7 => ?_) (fun h7 => ?_)
  · refine pw_null dX6_findThere_21 ?_
    refine pw_aret dX6_findThere_22 rfl (by first | exact Or.inl ⟨_, rfl⟩ | exact Or.inr ⟨_, rfl⟩) ?_
    refine ⟨?_, rfl⟩
    unfold c_ft
    first | (have hy : cTh X n t := (show _ ∧ _ from ⟨ht, by rw [hcl]; rw [hc8] at h14; exact hc9.resolve_left h14⟩); rw [if_pos hy, hcl]) | (have hy : ¬ cTh X n t := (fun z => by have z2 := z.2; rw [hcl] at z2; rw [hc8] at h14; rw [h14] at z2; exact absurd z2 (by decide)); rw [if_neg hy]) | (have hy : ¬ cTh X n t := (fun z => by unfold c_fd at h7; rw [if_pos z.1] at h7; obtain ⟨j, hj2, hj⟩ := (tOk_iff (by have := hT.2.1; omega)).mp z.1; have hcl : t.toNatClampNeg = j := (by rw [hj]; exact nI_clamp (by have := hT.2.1; omega)); rw [hcl] at h7; have := (hT.at hj2).2.1; omega); rw [if_neg hy])
  · have ht : tOk n t := hfd (h := h7)
    obtain ⟨j, hj2, hj⟩ := (tOk_iff (by have := hT.2.1; omega)).mp ht
    have hcl : t.toNatClampNeg = j := by rw [hj]; exact nI_clamp (by have := hT.2.1; omega)
    obtain ⟨hc1, hc2, hc3, hc4, hc5, hc6, hc7, hc8, hc9⟩ := hT.at hj2
    have hfe : c_fd σ n t = qR σ 8 j := by unfold c_fd; rw [if_pos ht, hcl]
    rw [hfe]
    refine pw_aload_n dX6_findThere_10 rfl ?_
    refine pw_cV0 (d1 := d - 1) (a1 := 0) (a2 := al) dX6_findThere_11 mtX9_isThere ivX9_isThere mlX6_29 (Nat.le_of_ble_eq_true rfl) (Nat.le_of_ble_eq_true rfl) (by omega) (by omega) hc1 rfl rfl (t_isThere hc1 hc3 (by rw [hc8]; exact hc9)) ?_
    rintro r_ τ_ ⟨hr_, ht_⟩; subst r_; subst τ_
    refine pw_if_eq (tgt := 21) dX6_findThere_14 (by decide) (fun h14 => ?_) (fun h14 => ?_)
    · refine pw_null dX6_findThere_21 ?_
      refine pw_aret dX6_findThere_22 rfl (by first | exact Or.inl ⟨_, rfl⟩ | exact Or.inr ⟨_, rfl⟩) ?_
      refine ⟨?_, rfl⟩
      unfold c_ft
      first | (have hy : cTh X n t := (show _ ∧ _ from ⟨ht, by rw [hcl]; rw [hc8] at h14; exact hc9.resolve_left h14⟩); rw [if_pos hy, hcl]) | (have hy : ¬ cTh X n t := (fun z => by have z2 := z.2; rw [hcl] at z2; rw [hc8] at h14; rw [h14] at z2; exact absurd z2 (by decide)); rw [if_neg hy]) | (have hy : ¬ cTh X n t := (fun z => by unfold c_fd at h7; rw [if_pos z.1] at h7; obtain ⟨j, hj2, hj⟩ := (tOk_iff (by have := hT.2.1; omega)).mp z.1; have hcl : t.toNatClampNeg = j := (by rw [hj]; exact nI_clamp (by have := hT.2.1; omega)); rw [hcl] at h7; have := (hT.at hj2).2.1; omega); rw [if_neg hy])
    · refine pw_aload_n dX6_findThere_17 rfl ?_
      refine pw_goto (tgt := 22) dX6_findThere_18 (by decide) ?_
      refine pw_aret dX6_findThere_22 rfl (by first | exact Or.inl ⟨_, rfl⟩ | exact Or.inr ⟨_, rfl⟩) ?_
      refine ⟨?_, rfl⟩
      unfold c_ft
      first | (have hy : cTh X n t := (show _ ∧ _ from ⟨ht, by rw [hcl]; rw [hc8] at h14; exact hc9.resolve_left h14⟩); rw [if_pos hy, hcl]) | (have hy : ¬ cTh X n t := (fun z => by have z2 := z.2; rw [hcl] at z2; rw [hc8] at h14; rw [h14] at z2; exact absurd z2 (by decide)); rw [if_neg hy]) | (have hy : ¬ cTh X n t := (fun z => by unfold c_fd at h7; rw [if_pos z.1] at h7; obtain ⟨j, hj2, hj⟩ := (tOk_iff (by have := hT.2.1; omega)).mp z.1; have hcl : t.toNatClampNeg = j := (by rw [hj]; exact nI_clamp (by have := hT.2.1; omega)); rw [hcl] at h7; have := (hT.at hj2).2.1; omega); rw [if_neg hy])
