/-! ===== a thing comes, on both sides ===== -/
theorem m_comes_o {σ : pm_S} {n : Nat} {k0 r c s house of : Int32} {b k : Nat} (h1 : ¬ (b = 43 ∧ k = 1)) (h2 : 44 ≤ b → b ≤ 51 → k ≠ n) : qI (m_comes σ n k0 r c s house of) b k = qI σ b k := by
  unfold m_comes
  rw [qI_sI_ne (by omega), qI_sI_ne (by omega), qI_sI_ne (by omega), qI_sI_ne (by omega), qI_sI_ne (by omega), qI_sI_ne (by omega), qI_sI_ne (by omega), qI_sI_ne (by omega), qI_sI_ne (by omega)]
theorem m_comes_n (σ : pm_S) (n : Nat) (k0 r c s house of : Int32) : qI (m_comes σ n k0 r c s house of) 44 n = k0 ∧ qI (m_comes σ n k0 r c s house of) 45 n = r ∧ qI (m_comes σ n k0 r c s house of) 46 n = c ∧ qI (m_comes σ n k0 r c s house of) 47 n = s ∧ qI (m_comes σ n k0 r c s house of) 48 n = qI σ 43 0 ∧ qI (m_comes σ n k0 r c s house of) 49 n = of ∧ qI (m_comes σ n k0 r c s house of) 50 n = house ∧ qI (m_comes σ n k0 r c s house of) 51 n = -1 ∧ qI (m_comes σ n k0 r c s house of) 43 1 = qI σ 43 1 + 1 := by
  simp [m_comes, qI, pm_sI]
/-- the state behind a new thing of the class -/
theorem c_new_f {σ : pm_S} {n : Nat} (hS : pm_fix σ) (k r c s house : Int32) :
    (qN (c_new σ n k r c s house) = qN σ + 2 ∧ (∀ b, b < qN σ → qT (c_new σ n k r c s house) b = qT σ b ∧ qL (c_new σ n k r c s house) b = qL σ b) ∧ qT (c_new σ n k r c s house) (qN σ) = 0 ∧ qT (c_new σ n k r c s house) (qN σ + 1) = 9) ∧
    (∀ b j, b < qN σ → ¬ (b = 7 ∧ j = 1) → qI (c_new σ n k r c s house) b j = qI σ b j) ∧ qI (c_new σ n k r c s house) 7 1 = nI n + 1 ∧
    (∀ b j, b < qN σ → ¬ (b = 8 ∧ j = n) → qR (c_new σ n k r c s house) b j = qR σ b j) ∧ qR (c_new σ n k r c s house) 8 n = qN σ + 1 ∧
    (qI (c_new σ n k r c s house) (qN σ) 1 = qI σ 6 0 ∧ qI (c_new σ n k r c s house) (qN σ) 2 = house ∧ qI (c_new σ n k r c s house) (qN σ) 3 = house ∧ qI (c_new σ n k r c s house) (qN σ) 4 = 0 ∧ qI (c_new σ n k r c s house) (qN σ) 5 = 1 ∧ qR (c_new σ n k r c s house) (qN σ) 0 = 0) ∧
    (qI (c_new σ n k r c s house) (qN σ + 1) 0 = nI n ∧ qI (c_new σ n k r c s house) (qN σ + 1) 1 = k ∧ qI (c_new σ n k r c s house) (qN σ + 1) 2 = r ∧ qI (c_new σ n k r c s house) (qN σ + 1) 3 = c ∧ qI (c_new σ n k r c s house) (qN σ + 1) 4 = s ∧ qI (c_new σ n k r c s house) (qN σ + 1) 5 = qI σ 6 0 ∧ qI (c_new σ n k r c s house) (qN σ + 1) 6 = -1 ∧ qI (c_new σ n k r c s house) (qN σ + 1) 7 = nI n ∧ qR (c_new σ n k r c s house) (qN σ + 1) 8 = qN σ) := by
  have h68 := hS.1
  have e1 : qN (c_act (pm_nw σ 0 0) (qN σ) 0 (qI σ 6 0) house house 0 1) = qN σ + 1 := rfl
  have e2 : ∀ b, qT (c_new σ n k r c s house) b = if b = qN σ + 1 then 9 else if b = qN σ then 0 else qT σ b := fun b => rfl
  have e3 : ∀ b, qL (c_new σ n k r c s house) b = if b = qN σ + 1 then 0 else if b = qN σ then 0 else qL σ b := fun b => rfl
  obtain ⟨n1, n2, n3, n4, n5, n6⟩ := c_act_at (pm_nw σ 0 0) (qN σ) 0 (qI σ 6 0) house house 0 1
  obtain ⟨t0, t1, t2, t3, t4, t5, t6, t7, t8⟩ := c_thing_at (pm_nw (c_act (pm_nw σ 0 0) (qN σ) 0 (qI σ 6 0) house house 0 1) 9 0) (qN σ + 1) (qN σ) (nI n) k r c s (qI σ 6 0) (-1) (nI n)
  have hI : ∀ b j, ¬ (b = 7 ∧ j = 1) → qI (c_new σ n k r c s house) b j = qI (c_thing (pm_nw (c_act (pm_nw σ 0 0) (qN σ) 0 (qI σ 6 0) house house 0 1) 9 0) (qN σ + 1) (qN σ) (nI n) k r c s (qI σ 6 0) (-1) (nI n)) b j := fun b j h => by unfold c_new; rw [qI_sI_ne h, qI_sR]
  have hR : ∀ b j, ¬ (b = 8 ∧ j = n) → qR (c_new σ n k r c s house) b j = qR (c_thing (pm_nw (c_act (pm_nw σ 0 0) (qN σ) 0 (qI σ 6 0) house house 0 1) 9 0) (qN σ + 1) (qN σ) (nI n) k r c s (qI σ 6 0) (-1) (nI n)) b j := fun b j h => by unfold c_new; rw [qR_sI, qR_sR, if_neg h]
  refine ⟨⟨rfl, fun b hb => ⟨by rw [e2, if_neg (by omega), if_neg (by omega)], by rw [e3, if_neg (by omega), if_neg (by omega)]⟩, by rw [e2, if_neg (by omega), if_pos rfl], by rw [e2, if_pos rfl]⟩, fun b j hb h => ?_, by unfold c_new; rw [qI_sI_eq], fun b j hb h => ?_, by unfold c_new; rw [qR_sI, qR_sR_eq], ⟨?_, ?_, ?_, ?_, ?_, ?_⟩, ⟨?_, ?_, ?_, ?_, ?_, ?_, ?_, ?_, ?_⟩⟩
  · rw [hI b j h, (c_thing_ne (by omega)).1, qI_nw_ne (by rw [e1]; omega), (c_act_ne (by omega)).1, qI_nw_ne (by omega)]
  · rw [hR b j h, (c_thing_ne (by omega)).2, qR_nw_ne (by rw [e1]; omega), (c_act_ne (by omega)).2, qR_nw_ne (by omega)]
  · rw [hI _ _ (by omega), (c_thing_ne (by omega)).1, qI_nw_ne (by rw [e1]; omega)]; exact n1
  · rw [hI _ _ (by omega), (c_thing_ne (by omega)).1, qI_nw_ne (by rw [e1]; omega)]; exact n2
  · rw [hI _ _ (by omega), (c_thing_ne (by omega)).1, qI_nw_ne (by rw [e1]; omega)]; exact n3
  · rw [hI _ _ (by omega), (c_thing_ne (by omega)).1, qI_nw_ne (by rw [e1]; omega)]; exact n4
  · rw [hI _ _ (by omega), (c_thing_ne (by omega)).1, qI_nw_ne (by rw [e1]; omega)]; exact n5
  · rw [hR _ _ (by omega), (c_thing_ne (by omega)).2, qR_nw_ne (by rw [e1]; omega)]; exact n6
  · rw [hI _ _ (by omega)]; exact t0
  · rw [hI _ _ (by omega)]; exact t1
  · rw [hI _ _ (by omega)]; exact t2
  · rw [hI _ _ (by omega)]; exact t3
  · rw [hI _ _ (by omega)]; exact t4
  · rw [hI _ _ (by omega)]; exact t5
  · rw [hI _ _ (by omega)]; exact t6
  · rw [hI _ _ (by omega)]; exact t7
  · rw [hR _ _ (by omega)]; exact t8
theorem c_newc_f {σ : pm_S} {n m : Nat} (hS : pm_fix σ) (r house : Int32) :
    (qN (c_newc σ n m r house) = qN σ + 2 ∧ (∀ b, b < qN σ → qT (c_newc σ n m r house) b = qT σ b ∧ qL (c_newc σ n m r house) b = qL σ b) ∧ qT (c_newc σ n m r house) (qN σ + 1) = 0 ∧ qT (c_newc σ n m r house) (qN σ) = 9) ∧
    (∀ b j, b < qN σ → ¬ (b = 7 ∧ j = 1) → qI (c_newc σ n m r house) b j = qI σ b j) ∧ qI (c_newc σ n m r house) 7 1 = nI n + 1 ∧
    (∀ b j, b < qN σ → ¬ (b = 8 ∧ j = n) → qR (c_newc σ n m r house) b j = qR σ b j) ∧ qR (c_newc σ n m r house) 8 n = qN σ ∧
    (qI (c_newc σ n m r house) (qN σ + 1) 1 = qI σ 6 0 ∧ qI (c_newc σ n m r house) (qN σ + 1) 2 = house ∧ qI (c_newc σ n m r house) (qN σ + 1) 3 = house ∧ qI (c_newc σ n m r house) (qN σ + 1) 4 = 0 ∧ qI (c_newc σ n m r house) (qN σ + 1) 5 = 1 ∧ qR (c_newc σ n m r house) (qN σ + 1) 0 = 0) ∧
    (qI (c_newc σ n m r house) (qN σ) 0 = nI n ∧ qI (c_newc σ n m r house) (qN σ) 1 = qI σ m 1 ∧ qI (c_newc σ n m r house) (qN σ) 2 = r ∧ qI (c_newc σ n m r house) (qN σ) 3 = qI σ m 3 ∧ qI (c_newc σ n m r house) (qN σ) 4 = qI σ m 4 ∧ qI (c_newc σ n m r house) (qN σ) 5 = qI σ 6 0 ∧ qI (c_newc σ n m r house) (qN σ) 6 = qI σ m 0 ∧ qI (c_newc σ n m r house) (qN σ) 7 = qI σ m 7 ∧ qR (c_newc σ n m r house) (qN σ) 8 = qN σ + 1) := by
  have h68 := hS.1
  have e1 : qN (pm_nw σ 9 0) = qN σ + 1 := rfl
  have e2 : ∀ b, qT (c_newc σ n m r house) b = if b = qN σ + 1 then 0 else if b = qN σ then 9 else qT σ b := fun b => rfl
  have e3 : ∀ b, qL (c_newc σ n m r house) b = if b = qN σ + 1 then 0 else if b = qN σ then 0 else qL σ b := fun b => rfl
  obtain ⟨n1, n2, n3, n4, n5, n6⟩ := c_act_at (pm_nw (pm_nw σ 9 0) 0 0) (qN σ + 1) 0 (qI σ 6 0) house house 0 1
  obtain ⟨t0, t1, t2, t3, t4, t5, t6, t7, t8⟩ := c_thing_at (c_act (pm_nw (pm_nw σ 9 0) 0 0) (qN σ + 1) 0 (qI σ 6 0) house house 0 1) (qN σ) (qN σ + 1) (nI n) (qI σ m 1) r (qI σ m 3) (qI σ m 4) (qI σ 6 0) (qI σ m 0) (qI σ m 7)
  have hI : ∀ b j, ¬ (b = 7 ∧ j = 1) → qI (c_newc σ n m r house) b j = qI (c_thing (c_act (pm_nw (pm_nw σ 9 0) 0 0) (qN σ + 1) 0 (qI σ 6 0) house house 0 1) (qN σ) (qN σ + 1) (nI n) (qI σ m 1) r (qI σ m 3) (qI σ m 4) (qI σ 6 0) (qI σ m 0) (qI σ m 7)) b j := fun b j h => by unfold c_newc; rw [qI_sI_ne h, qI_sR]
  have hR : ∀ b j, ¬ (b = 8 ∧ j = n) → qR (c_newc σ n m r house) b j = qR (c_thing (c_act (pm_nw (pm_nw σ 9 0) 0 0) (qN σ + 1) 0 (qI σ 6 0) house house 0 1) (qN σ) (qN σ + 1) (nI n) (qI σ m 1) r (qI σ m 3) (qI σ m 4) (qI σ 6 0) (qI σ m 0) (qI σ m 7)) b j := fun b j h => by unfold c_newc; rw [qR_sI, qR_sR, if_neg h]
  refine ⟨⟨rfl, fun b hb => ⟨by rw [e2, if_neg (by omega), if_neg (by omega)], by rw [e3, if_neg (by omega), if_neg (by omega)]⟩, by rw [e2, if_pos rfl], by rw [e2, if_neg (by omega), if_pos rfl]⟩, fun b j hb h => ?_, by unfold c_newc; rw [qI_sI_eq], fun b j hb h => ?_, by unfold c_newc; rw [qR_sI, qR_sR_eq], ⟨?_, ?_, ?_, ?_, ?_, ?_⟩, ⟨?_, ?_, ?_, ?_, ?_, ?_, ?_, ?_, ?_⟩⟩
  · rw [hI b j h, (c_thing_ne (by omega)).1, (c_act_ne (by omega)).1, qI_nw_ne (by rw [e1]; omega), qI_nw_ne (by omega)]
  · rw [hR b j h, (c_thing_ne (by omega)).2, (c_act_ne (by omega)).2, qR_nw_ne (by rw [e1]; omega), qR_nw_ne (by omega)]
  · rw [hI _ _ (by omega), (c_thing_ne (by omega)).1]; exact n1
  · rw [hI _ _ (by omega), (c_thing_ne (by omega)).1]; exact n2
  · rw [hI _ _ (by omega), (c_thing_ne (by omega)).1]; exact n3
  · rw [hI _ _ (by omega), (c_thing_ne (by omega)).1]; exact n4
  · rw [hI _ _ (by omega), (c_thing_ne (by omega)).1]; exact n5
  · rw [hR _ _ (by omega), (c_thing_ne (by omega)).2]; exact n6
  · rw [hI _ _ (by omega)]; exact t0
  · rw [hI _ _ (by omega)]; exact t1
  · rw [hI _ _ (by omega)]; exact t2
  · rw [hI _ _ (by omega)]; exact t3
  · rw [hI _ _ (by omega)]; exact t4
  · rw [hI _ _ (by omega)]; exact t5
  · rw [hI _ _ (by omega)]; exact t6
  · rw [hI _ _ (by omega)]; exact t7
  · rw [hR _ _ (by omega)]; exact t8
/-- the class's step and then the reference's are one coming -/
theorem j_new_of {σ ρ : pm_S} {n e A B : Nat} {kind rank tone seasons house cp root : Int32} (hJ : J1 σ n e) (hS : pm_fix σ)
    (hAB : (A = qN σ ∧ B = qN σ + 1) ∨ (B = qN σ ∧ A = qN σ + 1))
    (f1 : qN ρ = qN σ + 2 ∧ (∀ b, b < qN σ → qT ρ b = qT σ b ∧ qL ρ b = qL σ b) ∧ qT ρ A = 0 ∧ qT ρ B = 9)
    (f2 : ∀ b j, b < qN σ → ¬ (b = 7 ∧ j = 1) → qI ρ b j = qI σ b j) (f3 : qI ρ 7 1 = nI n + 1)
    (f4 : ∀ b j, b < qN σ → ¬ (b = 8 ∧ j = n) → qR ρ b j = qR σ b j) (f5 : qR ρ 8 n = B)
    (f6 : qI ρ A 1 = qI σ 6 0 ∧ qI ρ A 2 = house ∧ qI ρ A 3 = house ∧ qI ρ A 4 = 0 ∧ qI ρ A 5 = 1 ∧ qR ρ A 0 = 0)
    (f7 : qI ρ B 0 = nI n ∧ qI ρ B 1 = kind ∧ qI ρ B 2 = rank ∧ qI ρ B 3 = tone ∧ qI ρ B 4 = seasons ∧ qI ρ B 5 = qI σ 6 0 ∧ qI ρ B 6 = cp ∧ qI ρ B 7 = root ∧ qR ρ B 8 = A) :
    j_new σ (m_comes ρ n kind rank tone seasons house cp) n A B kind rank tone seasons house cp root := by
  have h68 := hS.1
  have j5 := hJ.2.2.2.2.2.1
  obtain ⟨v1, v2, v3, v4, v5, v6, v7, v8, v9⟩ := m_comes_n ρ n kind rank tone seasons house cp
  have hm : ∀ b k, ¬ (b = 43 ∧ k = 1) → (44 ≤ b → b ≤ 51 → k ≠ n) → qI (m_comes ρ n kind rank tone seasons house cp) b k = qI ρ b k := fun b k h1 h2 => m_comes_o h1 h2
  have h43 : qI ρ 43 0 = qI σ 43 0 := f2 43 0 (by omega) (by omega)
  have h431 : qI ρ 43 1 = qI σ 43 1 := f2 43 1 (by omega) (by omega)
  obtain ⟨a1, a2, a3, a4, a5, a6⟩ := f6
  obtain ⟨b0, b1, b2, b3, b4, b5, b6, b7, b8⟩ := f7
  refine ⟨hAB, f1, fun b k h1 h2 => ?_, ⟨?_, ?_, ?_, ?_, ?_, a6⟩, ⟨?_, ?_, ?_, ?_, ?_, ?_, ?_, ?_, b8⟩, ⟨f4, f5⟩, ⟨fun b k h1 h2 h3 h4 => ?_, ?_, ?_⟩, fun b k h1 h2 h3 => ?_, ⟨v1, v2, v3, v4, v5.trans h43, v6, v7, v8⟩⟩
  · rw [hm b k (by omega) (by omega)]; exact f2 b k h2 (by omega)
  · rw [hm A 1 (by omega) (by omega), a1]; exact j5
  · rw [hm A 2 (by omega) (by omega), a2]
  · rw [hm A 3 (by omega) (by omega), a3]
  · rw [hm A 4 (by omega) (by omega), a4]
  · rw [hm A 5 (by omega) (by omega), a5]
  · rw [hm B 0 (by omega) (by omega), b0]
  · rw [hm B 1 (by omega) (by omega), b1]
  · rw [hm B 2 (by omega) (by omega), b2]
  · rw [hm B 3 (by omega) (by omega), b3]
  · rw [hm B 4 (by omega) (by omega), b4]
  · rw [hm B 5 (by omega) (by omega), b5]; exact j5
  · rw [hm B 6 (by omega) (by omega), b6]
  · rw [hm B 7 (by omega) (by omega), b7]
  · rw [hm b k h4 (fun z1 z2 => absurd ⟨z1, z2⟩ h2)]; exact f2 b k (by omega) h3
  · rw [hm 7 1 (by decide) (by omega), f3, nI_succ]
  · rw [v9, h431, hJ.2.1, nI_succ]
  · rw [hm b k (by omega) (fun _ _ => h3)]; exact f2 b k (by omega) (by omega)
/-- what a pair of calls that may bring a thing comes to -/
def j_nout (σ τ : pm_S) (n : Nat) : Prop := τ = σ ∨ ∃ A B kind rank tone seasons house cp root, n < 20 ∧ (0 ≤ kind ∧ kind ≤ 4) ∧ (0 ≤ rank ∧ rank ≤ 9) ∧ 0 ≤ house ∧ ((cp = -1 ∧ root = nI n) ∨ ∃ j, j < n ∧ cp = nI j ∧ root = nI (m_rt σ 20 j)) ∧ j_new σ τ n A B kind rank tone seasons house cp root
theorem new_fix {σ ρ : pm_S} {n : Nat} (hS : pm_fix σ) (f1 : qN ρ = qN σ + 2 ∧ ∀ b, b < qN σ → qT ρ b = qT σ b ∧ qL ρ b = qL σ b) (f4 : ∀ b j, b < qN σ → ¬ (b = 8 ∧ j = n) → qR ρ b j = qR σ b j) : pm_fix ρ := by
  have h68 := hS.1
  refine ⟨by omega, fun a ha hb => ⟨by rw [(f1.2 a (by omega)).1]; exact (hS.2.1 a ha hb).1, by rw [(f1.2 a (by omega)).2]; exact (hS.2.1 a ha hb).2⟩, fun q hq => ?_⟩
  have h5 : pm_fin.all (fun q => Nat.blt q.1 68 && !(q.1 == 8)) = true := by decide
  have h6 := List.all_eq_true.mp h5 q hq
  simp only [Bool.and_eq_true, Bool.not_eq_true', beq_eq_false_iff_ne] at h6
  have h7 : q.1 < 68 := Nat.le_of_ble_eq_true h6.1
  rw [f4 q.1 q.2.1 (by omega) (fun z => h6.2 z.1)]
  exact hS.2.2 q hq
theorem p_thing {σ : pm_S} {n e : Nat} (hJ : J1 σ n e) (hS : pm_fix σ) (k r c s house : Int32) : ∃ v σ1 τ, PE 10 2 MX11_thing [.ref 6, .int k, .int r, .int c, .int s, .int house] σ (some (.int v)) σ1 ∧ PE 10 0 MX12_thing [.ref 43, .int k, .int r, .int c, .int s, .int house] σ1 (some (.int v)) τ ∧ j_nout σ τ n ∧ fr5 σ σ1 := by
  have hT := hJ.1
  have hc := t_thing (d := 10) (al := 0) (by decide) hS hT.1 hT.2.1 k r c s house
  by_cases hok : okThing n k r c s house
  · rw [if_pos hok, if_pos hok] at hc
    obtain ⟨f1, f2, f3, f4, f5, f6, f7⟩ := c_new_f (n := n) hS k r c s house
    have hn3 : n < 20 := by have := hT.2.1; have := hok.2.2.2.2.2; omega
    have h68 := hS.1
    have hS1 : pm_fix (c_new σ n k r c s house) := new_fix hS ⟨f1.1, f1.2.1⟩ f4
    have hm := s_thing (d := 10) (al := 0) (by decide) hS1 ((f2 43 1 (by omega) (by omega)).trans hJ.2.1) hT.2.1 k r c s house
    rw [if_pos hok, if_pos hok] at hm
    exact ⟨_, _, _, hc, hm, Or.inr ⟨qN σ, qN σ + 1, k, r, c, s, house, -1, nI n, hn3, hok.1, hok.2.1, hok.2.2.2.2.1.1, Or.inl ⟨rfl, rfl⟩, j_new_of hJ hS (Or.inl ⟨rfl, rfl⟩) f1 f2 f3 f4 f5 f6 f7⟩, ⟨by rw [f1.1]; omega, fun b hb => (f1.2.1 b hb).1⟩, fun b hb => ⟨(f1.2.1 b (by omega)).2, fun j => ⟨f2 b j (by omega) (by omega), f4 b j (by omega) (by omega)⟩⟩⟩
  · rw [if_neg hok, if_neg hok] at hc
    have hm := s_thing (d := 10) (al := 0) (by decide) hS hJ.2.1 hT.2.1 k r c s house
    rw [if_neg hok, if_neg hok] at hm
    exact ⟨_, _, _, hc, hm, Or.inl rfl, fr5.rfl'⟩
theorem p_copy {σ : pm_S} {n e : Nat} (hJ : J1 σ n e) (hS : pm_fix σ) (t r house : Int32) : ∃ v σ1 τ, PE 10 2 MX11_copy [.ref 6, .int t, .int r, .int house] σ (some (.int v)) σ1 ∧ PE 10 0 MX12_copy [.ref 43, .int t, .int r, .int house] σ1 (some (.int v)) τ ∧ j_nout σ τ n ∧ fr5 σ σ1 := by
  have hT := hJ.1
  have hn2 := hT.2.1
  have hc := t_copy (d := 10) (al := 0) (by decide) hS hT t r house
  by_cases hok : okCopyC (fun t => h_s σ t e) n t r house
  · rw [if_pos hok, if_pos hok] at hc
    obtain ⟨j, hj, rfl⟩ := (tOk_iff (by omega)).mp hok.1.1
    have hcl : (nI j).toNatClampNeg = j := nI_clamp (by omega)
    rw [hcl] at hc
    obtain ⟨f1, f2, f3, f4, f5, f6, f7⟩ := c_newc_f (n := n) (m := qR σ 8 j) hS r house
    have hn3 : n < 20 := by have := hok.2.2.2; omega
    have h68 := hS.1
    have hS1 : pm_fix (c_newc σ n (qR σ 8 j) r house) := new_fix hS ⟨f1.1, f1.2.1⟩ f4
    have hm := s_copy (d := 10) (al := 0) (by decide) hS1 ((f2 43 1 (by omega) (by omega)).trans hJ.2.1) hn2 (nI j) r house
    have hth : isTh σ n (nI j) := (j_isTh hJ _).mpr hok.1
    have hokm : okCopy (c_newc σ n (qR σ 8 j) r house) n (nI j) r house := by
      refine ⟨⟨hth.1, ?_⟩, hok.2⟩
      rw [f2 51 _ (by omega) (by omega)]; exact hth.2
    rw [if_pos hokm, if_pos hokm, hcl, f2 44 j (by omega) (by omega), f2 46 j (by omega) (by omega), f2 47 j (by omega) (by omega)] at hm
    obtain ⟨⟨w1, w2, w3, w4, w5, w6, w7⟩, w8, w9⟩ := hJ.2.2.2.2.2.2.2.2.2 j hj
    have w0 := (hT.2.2 j hj).2.1
    rw [w1, w3, w4, w0, w7] at f7
    refine ⟨_, _, _, hc, hm, Or.inr ⟨qN σ + 1, qN σ, qI σ 44 j, r, qI σ 46 j, qI σ 47 j, house, nI j, nI (m_rt σ 20 j), hn3, w8.1, hok.2.1, hok.2.2.1.1, Or.inr ⟨j, hj, rfl, rfl⟩, j_new_of hJ hS (Or.inr ⟨rfl, rfl⟩) f1 f2 f3 f4 f5 f6 f7⟩, ⟨by rw [f1.1]; omega, fun b hb => (f1.2.1 b hb).1⟩, fun b hb => ⟨(f1.2.1 b (by omega)).2, fun j => ⟨f2 b j (by omega) (by omega), f4 b j (by omega) (by omega)⟩⟩⟩
  · rw [if_neg hok, if_neg hok] at hc
    have hm := s_copy (d := 10) (al := 0) (by decide) hS hJ.2.1 hn2 t r house
    have hno : ¬ okCopy σ n t r house := fun z => hok ⟨(j_isTh hJ _).mp z.1, z.2⟩
    rw [if_neg hno, if_neg hno] at hm
    exact ⟨_, _, _, hc, hm, Or.inl rfl, fr5.rfl'⟩
