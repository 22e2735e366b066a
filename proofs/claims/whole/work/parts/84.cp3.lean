/-! ===== the class: joins, choices, clauses ===== -/
section PPD
variable {t v : Nat → Nat}
theorem pL_x {op : Nat} {sub : Nat → rsl} {i : Nat} (h : ¬ t i = op) : ∀ f acc, pL t op sub f i acc = .ok (i, acc)
  | 0, _ => rfl
  | f + 1, acc => if_neg h
theorem pL_e {op : Nat} {sub : Nat → rsl} {i f : Nat} {acc : List stp} {e : Nat × Nat} (h : t i = op) (h1 : sub (i + 1) = .error e) : pL t op sub (f + 1) i acc = .error e := by
  show (if t i = op then (match sub (i + 1) with | .error e => Except.error e | .ok (j, s) => pL t op sub f j (acc ++ s ++ [(op, 0, 0)])) else Except.ok (i, acc)) = _
  rw [if_pos h, h1]
theorem pL_o {op : Nat} {sub : Nat → rsl} {i f j : Nat} {acc s : List stp} (h : t i = op) (h1 : sub (i + 1) = .ok (j, s)) : pL t op sub (f + 1) i acc = pL t op sub f j (acc ++ s ++ [(op, 0, 0)]) := by
  show (if t i = op then (match sub (i + 1) with | .error e => Except.error e | .ok (j, s) => pL t op sub f j (acc ++ s ++ [(op, 0, 0)])) else Except.ok (i, acc)) = _
  rw [if_pos h, h1]
theorem pM_e {op : Nat} {sub : Nat → rsl} {i : Nat} {e : Nat × Nat} (h1 : sub i = .error e) : pM t op sub i = .error e := by unfold pM; rw [h1]
theorem pM_o {op : Nat} {sub : Nat → rsl} {i j : Nat} {s : List stp} (h1 : sub i = .ok (j, s)) : pM t op sub i = pL t op sub 600 j s := by unfold pM; rw [h1]
theorem pC_0 {i : Nat} (h : t i = 3 ∨ t i = 16) : pC t v 0 i = .error (2, i) := if_pos h
theorem pC_cmp {i : Nat} (h1 : ¬ t i = 3) (h2 : ¬ t i = 16) : ∀ o, pC t v o i = pP t v i
  | 0 => if_neg (fun z => z.elim h1 h2)
  | o + 1 => (if_neg h1).trans (if_neg h2)
theorem pC_ne {o i : Nat} {e : Nat × Nat} (h : t i = 3) (h1 : pC t v o (i + 1) = .error e) : pC t v (o + 1) i = .error e := by
  refine (if_pos h).trans ?_
  rw [h1]
theorem pC_no {o i j : Nat} {s : List stp} (h : t i = 3) (h1 : pC t v o (i + 1) = .ok (j, s)) : pC t v (o + 1) i = .ok (j, s ++ [(3, 0, 0)]) := by
  refine (if_pos h).trans ?_
  rw [h1]
theorem pC_pe {o i : Nat} {e : Nat × Nat} (h : t i = 16) (h1 : pA t v o (i + 1) = .error e) : pC t v (o + 1) i = .error e := by
  refine (if_neg (by omega)).trans ((if_pos h).trans ?_)
  have h1 : pM t 1 (pM t 2 (pC t v o)) (i + 1) = .error e := h1
  rw [h1]
theorem pC_po {o i j : Nat} {s : List stp} (h : t i = 16) (h1 : pA t v o (i + 1) = .ok (j, s)) (h2 : t j = 17) : pC t v (o + 1) i = .ok (j + 1, s) := by
  refine (if_neg (by omega)).trans ((if_pos h).trans ?_)
  have h1 : pM t 1 (pM t 2 (pC t v o)) (i + 1) = .ok (j, s) := h1
  rw [h1]
  exact if_pos h2
theorem pC_pn {o i j : Nat} {s : List stp} (h : t i = 16) (h1 : pA t v o (i + 1) = .ok (j, s)) (h2 : ¬ t j = 17) : pC t v (o + 1) i = .error (1, j) := by
  refine (if_neg (by omega)).trans ((if_pos h).trans ?_)
  have h1 : pM t 1 (pM t 2 (pC t v o)) (i + 1) = .ok (j, s) := h1
  rw [h1]
  exact if_neg h2
end PPD
/-- a method that reads: all well so far, and behind a fault -/
def SpO (M : pm_M) (d : Nat) (x : Int32) (c : Nat → Nat) (L k r : Nat) (sub : Nat → rsl) : Prop := ∀ (al : Nat) (σ : pm_S) (i : Nat) (S : List stp), rdC σ c L k r → OKs σ c L k r i S → PM d al M [.ref 29, .int x] σ (fun v τ => v = none ∧ RRs σ τ c L k r S (sub i))
def SpB (M : pm_M) (d : Nat) (x : Int32) (c : Nat → Nat) (L k r : Nat) : Prop := ∀ (al : Nat) (σ : pm_S) (e : Nat × Nat), rdC σ c L k r → BDs σ c L r e → PM d al M [.ref 29, .int x] σ (fun v τ => v = none ∧ rdS σ τ r ∧ BDs τ c L r e)
theorem t_cl_bad {d L k r : Nat} {c : Nat → Nat} (hd : 6 ≤ d) (x : Int32) : SpB MX5_readClause d x c L k r := by
  intro al σ e h hb
  have hS := h.1
  obtain ⟨b1, b2, b3, b4, b5⟩ := id hb
  show PW _ _ _ _ _ _ _ _
  refine pw_aload_n dX5_readClause_0 rfl ?_
  refine pw_getI dX5_readClause_1 flX5_46 rfl (hS.at rfl rfl rfl) ?_
  rw [b4]
  refine pw_iconst (v := 3) dX5_readClause_4 (by decide) ?_
  refine pw_icmp_eq (tgt := 24) dX5_readClause_5 (by decide) (fun h5 => ?_) (fun h5 => ?_)
  · exact absurd h5 (by decide)
  · refine pw_aload_n dX5_readClause_8 rfl ?_
    refine pw_getI dX5_readClause_9 flX5_46 rfl (hS.at rfl rfl rfl) ?_
    rw [b4]
    refine pw_bipush (v := 16) dX5_readClause_12 (by decide) ?_
    refine pw_icmp_eq (tgt := 24) dX5_readClause_14 (by decide) (fun h14 => ?_) (fun h14 => ?_)
    · exact absurd h14 (by decide)
    · refine pw_aload_n dX5_readClause_17 rfl ?_
      refine pw_cV0 (d1 := d - 1) (a1 := 0) (a2 := al) dX5_readClause_18 mtX5_readComparison ivX5_readComparison mlX5_77 (Nat.le_of_ble_eq_true rfl) (Nat.le_of_ble_eq_true rfl) (by omega) (by omega) (hS.at rfl rfl rfl) rfl rfl (t_cmp_bad (by omega) h hb) ?_
      rintro r_ τ1 ⟨hr_, hs1, hb1⟩; subst r_
      refine pw_goto (tgt := 87) dX5_readClause_21 (by decide) ?_
      refine pw_vret dX5_readClause_87 rfl ?_
      exact ⟨rfl, hs1, hb1⟩
theorem t_jn_x {d al L k r n : Nat} {σ : pm_S} {c : Nat → Nat} {e : Nat × Nat} {x : Int32} {Q : Option Value → pm_S → Prop} (hn : n ≤ 600) (h : rdC σ c L k r) (hb : BDs σ c L r e) (kk : Q none σ) : PW d al MX5_readJoin 7 [.ref 29, .int x, .int (nI n)] [] σ Q := by
  have hS := h.1
  obtain ⟨b1, b2, b3, b4, b5⟩ := id hb
  refine pw_iload_n dX5_readJoin_7 rfl ?_
  refine pw_sipush (v := 600) dX5_readJoin_8 (by decide) ?_
  refine pw_icmp_ge (tgt := 47) dX5_readJoin_11 (by decide) (fun h11 => ?_) (fun h11 => ?_)
  · refine pw_vret dX5_readJoin_47 rfl ?_
    exact kk
  · refine pw_aload_n dX5_readJoin_14 rfl ?_
    refine pw_getI dX5_readJoin_15 flX5_46 rfl (hS.at rfl rfl rfl) ?_
    rw [b4]
    refine pw_iconst (v := 2) dX5_readJoin_18 (by decide) ?_
    refine pw_icmp_ne (tgt := 47) dX5_readJoin_19 (by decide) (fun h19 => ?_) (fun h19 => ?_)
    · refine pw_vret dX5_readJoin_47 rfl ?_
      exact kk
    · exact absurd h19 (by decide)
theorem t_jn_bad {d L k r : Nat} {c : Nat → Nat} (hd : 7 ≤ d) (x : Int32) : SpB MX5_readJoin d x c L k r := by
  intro al σ e h hb
  have hS := h.1
  show PW _ _ _ _ _ _ _ _
  refine pw_aload_n dX5_readJoin_0 rfl ?_
  refine pw_iload_n dX5_readJoin_1 rfl ?_
  refine pw_cV1 (d1 := d - 1) (a1 := 0) (a2 := al) dX5_readJoin_2 mtX5_readClause ivX5_readClause mlX5_74 (Nat.le_of_ble_eq_true rfl) (Nat.le_of_ble_eq_true rfl) (by omega) (by omega) (hS.at rfl rfl rfl) rfl rfl (t_cl_bad (d := d - 1) (by omega) x 0 σ e h hb) ?_
  rintro r_ τ1 ⟨hr_, hs1, hb1⟩; subst r_
  refine pw_iconst (v := 0) dX5_readJoin_5 (by decide) ?_
  refine pw_istore_n dX5_readJoin_6 (Nat.le_of_ble_eq_true rfl) (Nat.le_of_ble_eq_true rfl) rfl ?_
  exact t_jn_x (n := 0) (by decide) (h.of hs1) hb1 ⟨rfl, hs1, hb1⟩
theorem t_jn_lp {d al L k r : Nat} {c : Nat → Nat} {x : Int32} {sub : Nat → rsl} (hd : 9 ≤ d) (hcost : ∀ i, okC (sn c L) i (sub i)) (hsub : SpO MX5_readClause (d - 1) x c L k r sub) (S0 : List stp) : ∀ (f n i : Nat) (acc : List stp) (σ : pm_S), n + f = 600 → rdC σ c L k r → OKs σ c L k r i (S0 ++ acc) → PW d al MX5_readJoin 7 [.ref 29, .int x, .int (nI n)] [] σ (fun v τ => v = none ∧ RRs σ τ c L k r S0 (pL (tk c L) 2 sub f i acc)) := by
  intro f
  induction f with
  | zero =>
    intro n i acc σ hn h ho
    have hS := h.1
    have hn6 : n = 600 := by omega
    subst hn6
    refine pw_iload_n dX5_readJoin_7 rfl ?_
    refine pw_sipush (v := 600) dX5_readJoin_8 (by decide) ?_
    refine pw_icmp_ge (tgt := 47) dX5_readJoin_11 (by decide) (fun h11 => ?_) (fun h11 => ?_)
    · refine pw_vret dX5_readJoin_47 rfl ?_
      exact ⟨rfl, rdS.rfl', ho⟩
    · exact absurd (by decide) h11
  | succ f ih =>
    intro n i acc σ hn h ho
    have hS := h.1
    have ht := tk_le c L i
    have o4 := ho.2.2.2.1
    have e1 : nI (tk c L i) = 2 ↔ tk c L i = 2 := nI_eq (by omega) (by decide)
    by_cases z : tk c L i = 2
    · -- one more
      have hst := tk_P c L
      have hs2 : sn c L i + 2 ≤ sn c L (i + 1) := (by have := hst.2.2 i (Or.inl z); omega)
      cases hp : sub (i + 1) with
      | error e =>
        rw [pL_e z hp]
        refine pw_iload_n dX5_readJoin_7 rfl ?_
        refine pw_sipush (v := 600) dX5_readJoin_8 (by decide) ?_
        refine pw_icmp_ge (tgt := 47) dX5_readJoin_11 (by decide) (fun h11 => ?_) (fun h11 => ?_)
        · exact absurd h11 (nI_ge (show n < 600 by omega) (by decide))
        · refine pw_aload_n dX5_readJoin_14 rfl ?_
          refine pw_getI dX5_readJoin_15 flX5_46 rfl (hS.at rfl rfl rfl) ?_
          rw [o4]
          refine pw_iconst (v := 2) dX5_readJoin_18 (by decide) ?_
          refine pw_icmp_ne (tgt := 47) dX5_readJoin_19 (by decide) (fun h19 => ?_) (fun h19 => ?_)
          · exact absurd (e1.mpr z) h19
          · refine pw_aload_n dX5_readJoin_22 rfl ?_
            refine pw_cV0 (d1 := d - 1) (a1 := 0) (a2 := al) dX5_readJoin_23 mtX5_advance ivX5_advance mlX5_49 (Nat.le_of_ble_eq_true rfl) (Nat.le_of_ble_eq_true rfl) (by omega) (by omega) (hS.at rfl rfl rfl) rfl rfl (t_adv_ok (by omega) h ho (by omega)) ?_
            rintro r_ τ1 ⟨hr_, hs1, ho1⟩; subst r_
            have h1 := h.of hs1
            have hS1 := h1.1
            refine pw_aload_n dX5_readJoin_26 rfl ?_
            refine pw_iload_n dX5_readJoin_27 rfl ?_
            refine pw_cV1 (d1 := d - 1) (a1 := 0) (a2 := al) dX5_readJoin_28 mtX5_readClause ivX5_readClause mlX5_74 (Nat.le_of_ble_eq_true rfl) (Nat.le_of_ble_eq_true rfl) (by omega) (by omega) (hS1.at rfl rfl rfl) rfl rfl (hsub 0 τ1 (i + 1) (S0 ++ acc) h1 ho1) ?_
            rintro r_ τ2 ⟨hr_, hs2, hb2⟩; subst r_
            rw [hp] at hb2
            have hb2 : BDs τ2 c L r e := hb2
            have h2 := h1.of hs2
            have hS2 := h2.1
            have hl2 : qR τ2 29 1 = r := h2.2.2.2.2.2.2.2.2
            refine pw_aload_n dX5_readJoin_31 rfl ?_
            refine pw_getF dX5_readJoin_32 flX5_20 rfl (hS2.at rfl rfl rfl) hl2 ?_
            refine pw_iconst (v := 2) dX5_readJoin_35 (by decide) ?_
            refine pw_iconst (v := 0) dX5_readJoin_36 (by decide) ?_
            refine pw_iconst (v := 0) dX5_readJoin_37 (by decide) ?_
            refine pw_cV3 (d1 := d - 1) (a1 := 0) (a2 := al) dX5_readJoin_38 mtX4_addStep ivX4_addStep mlX5_70 (Nat.le_of_ble_eq_true rfl) (Nat.le_of_ble_eq_true rfl) (by omega) (by omega) h2.rule rfl rfl (t_add_bad h2 hb2 _ _ _) ?_
            rintro r_ τ3 ⟨hr_, hs3, hb3⟩; subst r_
            refine pw_iinc1 dX5_readJoin_41 rfl (Nat.le_of_ble_eq_true rfl) (Nat.le_of_ble_eq_true rfl) rfl ?_
            refine pw_goto (tgt := 7) dX5_readJoin_44 (by decide) ?_
            have hq := t_jn_x (d := d) (al := al) (n := n + 1) (x := x) (Q := fun v τ => v = none ∧ RRs σ τ c L k r S0 (.error e)) (by omega) (h2.of hs3) hb3 ⟨rfl, ((hs1.tr hs2).tr hs3), hb3⟩
            rw [nI_succ] at hq
            exact hq
      | ok p =>
        obtain ⟨j, s⟩ := p
        obtain ⟨q1, q2, -⟩ := hcost (i + 1) j s hp
        rw [pL_o z hp]
        have o6 := ho.2.2.2.2.2.1
        rw [List.length_append] at o6
        refine pw_iload_n dX5_readJoin_7 rfl ?_
        refine pw_sipush (v := 600) dX5_readJoin_8 (by decide) ?_
        refine pw_icmp_ge (tgt := 47) dX5_readJoin_11 (by decide) (fun h11 => ?_) (fun h11 => ?_)
        · exact absurd h11 (nI_ge (show n < 600 by omega) (by decide))
        · refine pw_aload_n dX5_readJoin_14 rfl ?_
          refine pw_getI dX5_readJoin_15 flX5_46 rfl (hS.at rfl rfl rfl) ?_
          rw [o4]
          refine pw_iconst (v := 2) dX5_readJoin_18 (by decide) ?_
          refine pw_icmp_ne (tgt := 47) dX5_readJoin_19 (by decide) (fun h19 => ?_) (fun h19 => ?_)
          · exact absurd (e1.mpr z) h19
          · refine pw_aload_n dX5_readJoin_22 rfl ?_
            refine pw_cV0 (d1 := d - 1) (a1 := 0) (a2 := al) dX5_readJoin_23 mtX5_advance ivX5_advance mlX5_49 (Nat.le_of_ble_eq_true rfl) (Nat.le_of_ble_eq_true rfl) (by omega) (by omega) (hS.at rfl rfl rfl) rfl rfl (t_adv_ok (by omega) h ho (by omega)) ?_
            rintro r_ τ1 ⟨hr_, hs1, ho1⟩; subst r_
            have h1 := h.of hs1
            have hS1 := h1.1
            refine pw_aload_n dX5_readJoin_26 rfl ?_
            refine pw_iload_n dX5_readJoin_27 rfl ?_
            refine pw_cV1 (d1 := d - 1) (a1 := 0) (a2 := al) dX5_readJoin_28 mtX5_readClause ivX5_readClause mlX5_74 (Nat.le_of_ble_eq_true rfl) (Nat.le_of_ble_eq_true rfl) (by omega) (by omega) (hS1.at rfl rfl rfl) rfl rfl (hsub 0 τ1 (i + 1) (S0 ++ acc) h1 ho1) ?_
            rintro r_ τ2 ⟨hr_, hs2, ho2⟩; subst r_
            rw [hp] at ho2
            have ho2 : OKs τ2 c L k r j (S0 ++ acc ++ s) := ho2
            have h2 := h1.of hs2
            have hS2 := h2.1
            have hl2 : qR τ2 29 1 = r := h2.2.2.2.2.2.2.2.2
            refine pw_aload_n dX5_readJoin_31 rfl ?_
            refine pw_getF dX5_readJoin_32 flX5_20 rfl (hS2.at rfl rfl rfl) hl2 ?_
            refine pw_iconst (v := 2) dX5_readJoin_35 (by decide) ?_
            refine pw_iconst (v := 0) dX5_readJoin_36 (by decide) ?_
            refine pw_iconst (v := 0) dX5_readJoin_37 (by decide) ?_
            refine pw_cV3 (d1 := d - 1) (a1 := 0) (a2 := al) dX5_readJoin_38 mtX4_addStep ivX4_addStep mlX5_70 (Nat.le_of_ble_eq_true rfl) (Nat.le_of_ble_eq_true rfl) (by omega) (by omega) h2.rule rfl rfl (t_add_ok (op := 2) (l := 0) (x := 0) h2 ho2 (by rw [List.length_append, List.length_append]; omega)) ?_
            rintro r_ τ3 ⟨hr_, hs3, ho3⟩; subst r_
            refine pw_iinc1 dX5_readJoin_41 rfl (Nat.le_of_ble_eq_true rfl) (Nat.le_of_ble_eq_true rfl) rfl ?_
            refine pw_goto (tgt := 7) dX5_readJoin_44 (by decide) ?_
            have ho3 : OKs τ3 c L k r j (S0 ++ (acc ++ s ++ [(2, 0, 0)])) := by
              rw [List.append_assoc, List.append_assoc] at ho3
              rw [List.append_assoc]
              exact ho3
            have hq := ih (n + 1) j (acc ++ s ++ [(2, 0, 0)]) τ3 (by omega) (h2.of hs3) ho3
            rw [nI_succ] at hq
            refine PW.post ?_ hq
            rintro v τ ⟨rfl, w1, w2⟩
            exact ⟨rfl, ((hs1.tr hs2).tr hs3).tr w1, w2⟩
    · rw [pL_x z]
      refine pw_iload_n dX5_readJoin_7 rfl ?_
      refine pw_sipush (v := 600) dX5_readJoin_8 (by decide) ?_
      refine pw_icmp_ge (tgt := 47) dX5_readJoin_11 (by decide) (fun h11 => ?_) (fun h11 => ?_)
      · exact absurd h11 (nI_ge (show n < 600 by omega) (by decide))
      · refine pw_aload_n dX5_readJoin_14 rfl ?_
        refine pw_getI dX5_readJoin_15 flX5_46 rfl (hS.at rfl rfl rfl) ?_
        rw [o4]
        refine pw_iconst (v := 2) dX5_readJoin_18 (by decide) ?_
        refine pw_icmp_ne (tgt := 47) dX5_readJoin_19 (by decide) (fun h19 => ?_) (fun h19 => ?_)
        · refine pw_vret dX5_readJoin_47 rfl ?_
          exact ⟨rfl, rdS.rfl', ho⟩
        · exact absurd (e1.mp h19) z
theorem t_jn_ok {d L k r : Nat} {c : Nat → Nat} {x : Int32} {sub : Nat → rsl} (hd : 9 ≤ d) (hcost : ∀ i, okC (sn c L) i (sub i)) (hsub : SpO MX5_readClause (d - 1) x c L k r sub) : SpO MX5_readJoin d x c L k r (pM (tk c L) 2 sub) := by
  intro al σ i S h ho
  have hS := h.1
  show PW _ _ _ _ _ _ _ _
  cases hp : sub i with
  | error e =>
    rw [pM_e hp]
    refine pw_aload_n dX5_readJoin_0 rfl ?_
    refine pw_iload_n dX5_readJoin_1 rfl ?_
    refine pw_cV1 (d1 := d - 1) (a1 := 0) (a2 := al) dX5_readJoin_2 mtX5_readClause ivX5_readClause mlX5_74 (Nat.le_of_ble_eq_true rfl) (Nat.le_of_ble_eq_true rfl) (by omega) (by omega) (hS.at rfl rfl rfl) rfl rfl (hsub 0 σ i S h ho) ?_
    rintro r_ τ1 ⟨hr_, hs1, hb1⟩; subst r_
    rw [hp] at hb1
    have hb1 : BDs τ1 c L r e := hb1
    refine pw_iconst (v := 0) dX5_readJoin_5 (by decide) ?_
    refine pw_istore_n dX5_readJoin_6 (Nat.le_of_ble_eq_true rfl) (Nat.le_of_ble_eq_true rfl) rfl ?_
    exact t_jn_x (n := 0) (by decide) (h.of hs1) hb1 ⟨rfl, hs1, hb1⟩
  | ok p =>
    obtain ⟨j, s⟩ := p
    rw [pM_o hp]
    refine pw_aload_n dX5_readJoin_0 rfl ?_
    refine pw_iload_n dX5_readJoin_1 rfl ?_
    refine pw_cV1 (d1 := d - 1) (a1 := 0) (a2 := al) dX5_readJoin_2 mtX5_readClause ivX5_readClause mlX5_74 (Nat.le_of_ble_eq_true rfl) (Nat.le_of_ble_eq_true rfl) (by omega) (by omega) (hS.at rfl rfl rfl) rfl rfl (hsub 0 σ i S h ho) ?_
    rintro r_ τ1 ⟨hr_, hs1, ho1⟩; subst r_
    rw [hp] at ho1
    have ho1 : OKs τ1 c L k r j (S ++ s) := ho1
    refine pw_iconst (v := 0) dX5_readJoin_5 (by decide) ?_
    refine pw_istore_n dX5_readJoin_6 (Nat.le_of_ble_eq_true rfl) (Nat.le_of_ble_eq_true rfl) rfl ?_
    refine PW.post ?_ (t_jn_lp hd hcost hsub S 600 0 j s τ1 (by omega) (h.of hs1) ho1)
    rintro v τ ⟨rfl, w1, w2⟩
    exact ⟨rfl, hs1.tr w1, w2⟩
theorem t_ch_x {d al L k r n : Nat} {σ : pm_S} {c : Nat → Nat} {e : Nat × Nat} {x : Int32} {Q : Option Value → pm_S → Prop} (hn : n ≤ 600) (h : rdC σ c L k r) (hb : BDs σ c L r e) (kk : Q none σ) : PW d al MX5_readChoice 7 [.ref 29, .int x, .int (nI n)] [] σ Q := by
  have hS := h.1
  obtain ⟨b1, b2, b3, b4, b5⟩ := id hb
  refine pw_iload_n dX5_readChoice_7 rfl ?_
  refine pw_sipush (v := 600) dX5_readChoice_8 (by decide) ?_
  refine pw_icmp_ge (tgt := 47) dX5_readChoice_11 (by decide) (fun h11 => ?_) (fun h11 => ?_)
  · refine pw_vret dX5_readChoice_47 rfl ?_
    exact kk
  · refine pw_aload_n dX5_readChoice_14 rfl ?_
    refine pw_getI dX5_readChoice_15 flX5_46 rfl (hS.at rfl rfl rfl) ?_
    rw [b4]
    refine pw_iconst (v := 1) dX5_readChoice_18 (by decide) ?_
    refine pw_icmp_ne (tgt := 47) dX5_readChoice_19 (by decide) (fun h19 => ?_) (fun h19 => ?_)
    · refine pw_vret dX5_readChoice_47 rfl ?_
      exact kk
    · exact absurd h19 (by decide)
theorem t_ch_bad {d L k r : Nat} {c : Nat → Nat} (hd : 8 ≤ d) (x : Int32) : SpB MX5_readChoice d x c L k r := by
  intro al σ e h hb
  have hS := h.1
  show PW _ _ _ _ _ _ _ _
  refine pw_aload_n dX5_readChoice_0 rfl ?_
  refine pw_iload_n dX5_readChoice_1 rfl ?_
  refine pw_cV1 (d1 := d - 1) (a1 := 0) (a2 := al) dX5_readChoice_2 mtX5_readJoin ivX5_readJoin mlX5_65 (Nat.le_of_ble_eq_true rfl) (Nat.le_of_ble_eq_true rfl) (by omega) (by omega) (hS.at rfl rfl rfl) rfl rfl (t_jn_bad (d := d - 1) (by omega) x 0 σ e h hb) ?_
  rintro r_ τ1 ⟨hr_, hs1, hb1⟩; subst r_
  refine pw_iconst (v := 0) dX5_readChoice_5 (by decide) ?_
  refine pw_istore_n dX5_readChoice_6 (Nat.le_of_ble_eq_true rfl) (Nat.le_of_ble_eq_true rfl) rfl ?_
  exact t_ch_x (n := 0) (by decide) (h.of hs1) hb1 ⟨rfl, hs1, hb1⟩
theorem t_ch_lp {d al L k r : Nat} {c : Nat → Nat} {x : Int32} {sub : Nat → rsl} (hd : 9 ≤ d) (hcost : ∀ i, okC (sn c L) i (sub i)) (hsub : SpO MX5_readJoin (d - 1) x c L k r sub) (S0 : List stp) : ∀ (f n i : Nat) (acc : List stp) (σ : pm_S), n + f = 600 → rdC σ c L k r → OKs σ c L k r i (S0 ++ acc) → PW d al MX5_readChoice 7 [.ref 29, .int x, .int (nI n)] [] σ (fun v τ => v = none ∧ RRs σ τ c L k r S0 (pL (tk c L) 1 sub f i acc)) := by
  intro f
  induction f with
  | zero =>
    intro n i acc σ hn h ho
    have hS := h.1
    have hn6 : n = 600 := by omega
    subst hn6
    refine pw_iload_n dX5_readChoice_7 rfl ?_
    refine pw_sipush (v := 600) dX5_readChoice_8 (by decide) ?_
    refine pw_icmp_ge (tgt := 47) dX5_readChoice_11 (by decide) (fun h11 => ?_) (fun h11 => ?_)
    · refine pw_vret dX5_readChoice_47 rfl ?_
      exact ⟨rfl, rdS.rfl', ho⟩
    · exact absurd (by decide) h11
  | succ f ih =>
    intro n i acc σ hn h ho
    have hS := h.1
    have ht := tk_le c L i
    have o4 := ho.2.2.2.1
    have e1 : nI (tk c L i) = 1 ↔ tk c L i = 1 := nI_eq (by omega) (by decide)
    by_cases z : tk c L i = 1
    · -- one more
      have hst := tk_P c L
      have hs2 : sn c L i + 2 ≤ sn c L (i + 1) := hst.2.1 i z
      cases hp : sub (i + 1) with
      | error e =>
        rw [pL_e z hp]
        refine pw_iload_n dX5_readChoice_7 rfl ?_
        refine pw_sipush (v := 600) dX5_readChoice_8 (by decide) ?_
        refine pw_icmp_ge (tgt := 47) dX5_readChoice_11 (by decide) (fun h11 => ?_) (fun h11 => ?_)
        · exact absurd h11 (nI_ge (show n < 600 by omega) (by decide))
        · refine pw_aload_n dX5_readChoice_14 rfl ?_
          refine pw_getI dX5_readChoice_15 flX5_46 rfl (hS.at rfl rfl rfl) ?_
          rw [o4]
          refine pw_iconst (v := 1) dX5_readChoice_18 (by decide) ?_
          refine pw_icmp_ne (tgt := 47) dX5_readChoice_19 (by decide) (fun h19 => ?_) (fun h19 => ?_)
          · exact absurd (e1.mpr z) h19
          · refine pw_aload_n dX5_readChoice_22 rfl ?_
            refine pw_cV0 (d1 := d - 1) (a1 := 0) (a2 := al) dX5_readChoice_23 mtX5_advance ivX5_advance mlX5_49 (Nat.le_of_ble_eq_true rfl) (Nat.le_of_ble_eq_true rfl) (by omega) (by omega) (hS.at rfl rfl rfl) rfl rfl (t_adv_ok (by omega) h ho (by omega)) ?_
            rintro r_ τ1 ⟨hr_, hs1, ho1⟩; subst r_
            have h1 := h.of hs1
            have hS1 := h1.1
            refine pw_aload_n dX5_readChoice_26 rfl ?_
            refine pw_iload_n dX5_readChoice_27 rfl ?_
            refine pw_cV1 (d1 := d - 1) (a1 := 0) (a2 := al) dX5_readChoice_28 mtX5_readJoin ivX5_readJoin mlX5_65 (Nat.le_of_ble_eq_true rfl) (Nat.le_of_ble_eq_true rfl) (by omega) (by omega) (hS1.at rfl rfl rfl) rfl rfl (hsub 0 τ1 (i + 1) (S0 ++ acc) h1 ho1) ?_
            rintro r_ τ2 ⟨hr_, hs2, hb2⟩; subst r_
            rw [hp] at hb2
            have hb2 : BDs τ2 c L r e := hb2
            have h2 := h1.of hs2
            have hS2 := h2.1
            have hl2 : qR τ2 29 1 = r := h2.2.2.2.2.2.2.2.2
            refine pw_aload_n dX5_readChoice_31 rfl ?_
            refine pw_getF dX5_readChoice_32 flX5_20 rfl (hS2.at rfl rfl rfl) hl2 ?_
            refine pw_iconst (v := 1) dX5_readChoice_35 (by decide) ?_
            refine pw_iconst (v := 0) dX5_readChoice_36 (by decide) ?_
            refine pw_iconst (v := 0) dX5_readChoice_37 (by decide) ?_
            refine pw_cV3 (d1 := d - 1) (a1 := 0) (a2 := al) dX5_readChoice_38 mtX4_addStep ivX4_addStep mlX5_70 (Nat.le_of_ble_eq_true rfl) (Nat.le_of_ble_eq_true rfl) (by omega) (by omega) h2.rule rfl rfl (t_add_bad h2 hb2 _ _ _) ?_
            rintro r_ τ3 ⟨hr_, hs3, hb3⟩; subst r_
            refine pw_iinc1 dX5_readChoice_41 rfl (Nat.le_of_ble_eq_true rfl) (Nat.le_of_ble_eq_true rfl) rfl ?_
            refine pw_goto (tgt := 7) dX5_readChoice_44 (by decide) ?_
            have hq := t_ch_x (d := d) (al := al) (n := n + 1) (x := x) (Q := fun v τ => v = none ∧ RRs σ τ c L k r S0 (.error e)) (by omega) (h2.of hs3) hb3 ⟨rfl, ((hs1.tr hs2).tr hs3), hb3⟩
            rw [nI_succ] at hq
            exact hq
      | ok p =>
        obtain ⟨j, s⟩ := p
        obtain ⟨q1, q2, -⟩ := hcost (i + 1) j s hp
        rw [pL_o z hp]
        have o6 := ho.2.2.2.2.2.1
        rw [List.length_append] at o6
        refine pw_iload_n dX5_readChoice_7 rfl ?_
        refine pw_sipush (v := 600) dX5_readChoice_8 (by decide) ?_
        refine pw_icmp_ge (tgt := 47) dX5_readChoice_11 (by decide) (fun h11 => ?_) (fun h11 => ?_)
        · exact absurd h11 (nI_ge (show n < 600 by omega) (by decide))
        · refine pw_aload_n dX5_readChoice_14 rfl ?_
          refine pw_getI dX5_readChoice_15 flX5_46 rfl (hS.at rfl rfl rfl) ?_
          rw [o4]
          refine pw_iconst (v := 1) dX5_readChoice_18 (by decide) ?_
          refine pw_icmp_ne (tgt := 47) dX5_readChoice_19 (by decide) (fun h19 => ?_) (fun h19 => ?_)
          · exact absurd (e1.mpr z) h19
          · refine pw_aload_n dX5_readChoice_22 rfl ?_
            refine pw_cV0 (d1 := d - 1) (a1 := 0) (a2 := al) dX5_readChoice_23 mtX5_advance ivX5_advance mlX5_49 (Nat.le_of_ble_eq_true rfl) (Nat.le_of_ble_eq_true rfl) (by omega) (by omega) (hS.at rfl rfl rfl) rfl rfl (t_adv_ok (by omega) h ho (by omega)) ?_
            rintro r_ τ1 ⟨hr_, hs1, ho1⟩; subst r_
            have h1 := h.of hs1
            have hS1 := h1.1
            refine pw_aload_n dX5_readChoice_26 rfl ?_
            refine pw_iload_n dX5_readChoice_27 rfl ?_
            refine pw_cV1 (d1 := d - 1) (a1 := 0) (a2 := al) dX5_readChoice_28 mtX5_readJoin ivX5_readJoin mlX5_65 (Nat.le_of_ble_eq_true rfl) (Nat.le_of_ble_eq_true rfl) (by omega) (by omega) (hS1.at rfl rfl rfl) rfl rfl (hsub 0 τ1 (i + 1) (S0 ++ acc) h1 ho1) ?_
            rintro r_ τ2 ⟨hr_, hs2, ho2⟩; subst r_
            rw [hp] at ho2
            have ho2 : OKs τ2 c L k r j (S0 ++ acc ++ s) := ho2
            have h2 := h1.of hs2
            have hS2 := h2.1
            have hl2 : qR τ2 29 1 = r := h2.2.2.2.2.2.2.2.2
            refine pw_aload_n dX5_readChoice_31 rfl ?_
            refine pw_getF dX5_readChoice_32 flX5_20 rfl (hS2.at rfl rfl rfl) hl2 ?_
            refine pw_iconst (v := 1) dX5_readChoice_35 (by decide) ?_
            refine pw_iconst (v := 0) dX5_readChoice_36 (by decide) ?_
            refine pw_iconst (v := 0) dX5_readChoice_37 (by decide) ?_
            refine pw_cV3 (d1 := d - 1) (a1 := 0) (a2 := al) dX5_readChoice_38 mtX4_addStep ivX4_addStep mlX5_70 (Nat.le_of_ble_eq_true rfl) (Nat.le_of_ble_eq_true rfl) (by omega) (by omega) h2.rule rfl rfl (t_add_ok (op := 1) (l := 0) (x := 0) h2 ho2 (by rw [List.length_append, List.length_append]; omega)) ?_
            rintro r_ τ3 ⟨hr_, hs3, ho3⟩; subst r_
            refine pw_iinc1 dX5_readChoice_41 rfl (Nat.le_of_ble_eq_true rfl) (Nat.le_of_ble_eq_true rfl) rfl ?_
            refine pw_goto (tgt := 7) dX5_readChoice_44 (by decide) ?_
            have ho3 : OKs τ3 c L k r j (S0 ++ (acc ++ s ++ [(1, 0, 0)])) := by
              rw [List.append_assoc, List.append_assoc] at ho3
              rw [List.append_assoc]
              exact ho3
            have hq := ih (n + 1) j (acc ++ s ++ [(1, 0, 0)]) τ3 (by omega) (h2.of hs3) ho3
            rw [nI_succ] at hq
            refine PW.post ?_ hq
            rintro v τ ⟨rfl, w1, w2⟩
            exact ⟨rfl, ((hs1.tr hs2).tr hs3).tr w1, w2⟩
    · rw [pL_x z]
      refine pw_iload_n dX5_readChoice_7 rfl ?_
      refine pw_sipush (v := 600) dX5_readChoice_8 (by decide) ?_
      refine pw_icmp_ge (tgt := 47) dX5_readChoice_11 (by decide) (fun h11 => ?_) (fun h11 => ?_)
      · exact absurd h11 (nI_ge (show n < 600 by omega) (by decide))
      · refine pw_aload_n dX5_readChoice_14 rfl ?_
        refine pw_getI dX5_readChoice_15 flX5_46 rfl (hS.at rfl rfl rfl) ?_
        rw [o4]
        refine pw_iconst (v := 1) dX5_readChoice_18 (by decide) ?_
        refine pw_icmp_ne (tgt := 47) dX5_readChoice_19 (by decide) (fun h19 => ?_) (fun h19 => ?_)
        · refine pw_vret dX5_readChoice_47 rfl ?_
          exact ⟨rfl, rdS.rfl', ho⟩
        · exact absurd (e1.mp h19) z
theorem t_ch_ok {d L k r : Nat} {c : Nat → Nat} {x : Int32} {sub : Nat → rsl} (hd : 9 ≤ d) (hcost : ∀ i, okC (sn c L) i (sub i)) (hsub : SpO MX5_readJoin (d - 1) x c L k r sub) : SpO MX5_readChoice d x c L k r (pM (tk c L) 1 sub) := by
  intro al σ i S h ho
  have hS := h.1
  show PW _ _ _ _ _ _ _ _
  cases hp : sub i with
  | error e =>
    rw [pM_e hp]
    refine pw_aload_n dX5_readChoice_0 rfl ?_
    refine pw_iload_n dX5_readChoice_1 rfl ?_
    refine pw_cV1 (d1 := d - 1) (a1 := 0) (a2 := al) dX5_readChoice_2 mtX5_readJoin ivX5_readJoin mlX5_65 (Nat.le_of_ble_eq_true rfl) (Nat.le_of_ble_eq_true rfl) (by omega) (by omega) (hS.at rfl rfl rfl) rfl rfl (hsub 0 σ i S h ho) ?_
    rintro r_ τ1 ⟨hr_, hs1, hb1⟩; subst r_
    rw [hp] at hb1
    have hb1 : BDs τ1 c L r e := hb1
    refine pw_iconst (v := 0) dX5_readChoice_5 (by decide) ?_
    refine pw_istore_n dX5_readChoice_6 (Nat.le_of_ble_eq_true rfl) (Nat.le_of_ble_eq_true rfl) rfl ?_
    exact t_ch_x (n := 0) (by decide) (h.of hs1) hb1 ⟨rfl, hs1, hb1⟩
  | ok p =>
    obtain ⟨j, s⟩ := p
    rw [pM_o hp]
    refine pw_aload_n dX5_readChoice_0 rfl ?_
    refine pw_iload_n dX5_readChoice_1 rfl ?_
    refine pw_cV1 (d1 := d - 1) (a1 := 0) (a2 := al) dX5_readChoice_2 mtX5_readJoin ivX5_readJoin mlX5_65 (Nat.le_of_ble_eq_true rfl) (Nat.le_of_ble_eq_true rfl) (by omega) (by omega) (hS.at rfl rfl rfl) rfl rfl (hsub 0 σ i S h ho) ?_
    rintro r_ τ1 ⟨hr_, hs1, ho1⟩; subst r_
    rw [hp] at ho1
    have ho1 : OKs τ1 c L k r j (S ++ s) := ho1
    refine pw_iconst (v := 0) dX5_readChoice_5 (by decide) ?_
    refine pw_istore_n dX5_readChoice_6 (Nat.le_of_ble_eq_true rfl) (Nat.le_of_ble_eq_true rfl) rfl ?_
    refine PW.post ?_ (t_ch_lp hd hcost hsub S 600 0 j s τ1 (by omega) (h.of hs1) ho1)
    rintro v τ ⟨rfl, w1, w2⟩
    exact ⟨rfl, hs1.tr w1, w2⟩
theorem t_clause {L k r : Nat} {c : Nat → Nat} : ∀ (o d : Nat), 3 * o + 12 ≤ d → o ≤ 8 → SpO MX5_readClause d (nI (8 - o)) c L k r (pC (tk c L) (vN c L) o) := by
  intro o
  induction o with
  | zero =>
    intro d hd ho8 al σ i S h ho
    have hS := h.1
    have ht := tk_le c L i
    have o4 := ho.2.2.2.1
    have e3 : nI (tk c L i) = 3 ↔ tk c L i = 3 := nI_eq (by omega) (by decide)
    have e16 : nI (tk c L i) = 16 ↔ tk c L i = 16 := nI_eq (by omega) (by decide)
    show PW _ _ _ _ _ _ _ _
    by_cases z : tk c L i = 3 ∨ tk c L i = 16
    · rw [pC_0 z]
      refine pw_aload_n dX5_readClause_0 rfl ?_
      refine pw_getI dX5_readClause_1 flX5_46 rfl (hS.at rfl rfl rfl) ?_
      rw [o4]
      refine pw_iconst (v := 3) dX5_readClause_4 (by decide) ?_
      refine pw_icmp_eq (tgt := 24) dX5_readClause_5 (by decide) (fun h5 => ?_) (fun h5 => ?_)
      · refine pw_iload_n dX5_readClause_24 rfl ?_
        refine pw_bipush (v := 8) dX5_readClause_25 (by decide) ?_
        refine pw_icmp_lt (tgt := 38) dX5_readClause_27 (by decide) (fun h27 => ?_) (fun h27 => ?_)
        · exact absurd h27 (by decide)
        · refine pw_aload_n dX5_readClause_30 rfl ?_
          refine pw_iconst (v := 2) dX5_readClause_31 (by decide) ?_
          refine pw_cV1 (d1 := d - 1) (a1 := 0) (a2 := al) dX5_readClause_32 mtX5_refuse ivX5_refuse mlX5_62 (Nat.le_of_ble_eq_true rfl) (Nat.le_of_ble_eq_true rfl) (by omega) (by omega) (hS.at rfl rfl rfl) rfl rfl (t_ref_ok (w := 2) (by omega) h ho (Or.inr rfl)) ?_
          rintro r_ τ1 ⟨hr_, hs1, hb1⟩; subst r_
          refine pw_goto (tgt := 87) dX5_readClause_35 (by decide) ?_
          refine pw_vret dX5_readClause_87 rfl ?_
          exact ⟨rfl, hs1, hb1⟩
      · refine pw_aload_n dX5_readClause_8 rfl ?_
        refine pw_getI dX5_readClause_9 flX5_46 rfl (hS.at rfl rfl rfl) ?_
        rw [o4]
        refine pw_bipush (v := 16) dX5_readClause_12 (by decide) ?_
        refine pw_icmp_eq (tgt := 24) dX5_readClause_14 (by decide) (fun h14 => ?_) (fun h14 => ?_)
        · refine pw_iload_n dX5_readClause_24 rfl ?_
          refine pw_bipush (v := 8) dX5_readClause_25 (by decide) ?_
          refine pw_icmp_lt (tgt := 38) dX5_readClause_27 (by decide) (fun h27 => ?_) (fun h27 => ?_)
          · exact absurd h27 (by decide)
          · refine pw_aload_n dX5_readClause_30 rfl ?_
            refine pw_iconst (v := 2) dX5_readClause_31 (by decide) ?_
            refine pw_cV1 (d1 := d - 1) (a1 := 0) (a2 := al) dX5_readClause_32 mtX5_refuse ivX5_refuse mlX5_62 (Nat.le_of_ble_eq_true rfl) (Nat.le_of_ble_eq_true rfl) (by omega) (by omega) (hS.at rfl rfl rfl) rfl rfl (t_ref_ok (w := 2) (by omega) h ho (Or.inr rfl)) ?_
            rintro r_ τ1 ⟨hr_, hs1, hb1⟩; subst r_
            refine pw_goto (tgt := 87) dX5_readClause_35 (by decide) ?_
            refine pw_vret dX5_readClause_87 rfl ?_
            exact ⟨rfl, hs1, hb1⟩
        · exact absurd z (fun w => w.elim (fun y => h5 (e3.mpr y)) (fun y => h14 (e16.mpr y)))
    · rw [pC_cmp (fun y => z (Or.inl y)) (fun y => z (Or.inr y)) 0]
      refine pw_aload_n dX5_readClause_0 rfl ?_
      refine pw_getI dX5_readClause_1 flX5_46 rfl (hS.at rfl rfl rfl) ?_
      rw [o4]
      refine pw_iconst (v := 3) dX5_readClause_4 (by decide) ?_
      refine pw_icmp_eq (tgt := 24) dX5_readClause_5 (by decide) (fun h5 => ?_) (fun h5 => ?_)
      · exact absurd (Or.inl (e3.mp h5)) z
      · refine pw_aload_n dX5_readClause_8 rfl ?_
        refine pw_getI dX5_readClause_9 flX5_46 rfl (hS.at rfl rfl rfl) ?_
        rw [o4]
        refine pw_bipush (v := 16) dX5_readClause_12 (by decide) ?_
        refine pw_icmp_eq (tgt := 24) dX5_readClause_14 (by decide) (fun h14 => ?_) (fun h14 => ?_)
        · exact absurd (Or.inr (e16.mp h14)) z
        · refine pw_aload_n dX5_readClause_17 rfl ?_
          refine pw_cV0 (d1 := d - 1) (a1 := 0) (a2 := al) dX5_readClause_18 mtX5_readComparison ivX5_readComparison mlX5_77 (Nat.le_of_ble_eq_true rfl) (Nat.le_of_ble_eq_true rfl) (by omega) (by omega) (hS.at rfl rfl rfl) rfl rfl (t_cmp_ok (by omega) h ho) ?_
          rintro r_ τ1 ⟨hr_, hR⟩; subst r_
          refine pw_goto (tgt := 87) dX5_readClause_21 (by decide) ?_
          refine pw_vret dX5_readClause_87 rfl ?_
          exact ⟨rfl, hR⟩
  | succ o ih =>
    intro d hd ho8 al σ i S h ho
    have hS := h.1
    have ht := tk_le c L i
    have o4 := ho.2.2.2.1
    have e3 : nI (tk c L i) = 3 ↔ tk c L i = 3 := nI_eq (by omega) (by decide)
    have e16 : nI (tk c L i) = 16 ↔ tk c L i = 16 := nI_eq (by omega) (by decide)
    have hopen : nI (8 - (o + 1)) + 1 = nI (8 - o) := by rw [← nI_succ, show 8 - (o + 1) + 1 = 8 - o by omega]
    have hlt8 : nI (8 - (o + 1)) < 8 := nI_lt (b := 8) (by omega) (by decide)
    show PW _ _ _ _ _ _ _ _
    by_cases z3 : tk c L i = 3
    · have hst := (tk_P c L).2.2 i (Or.inr z3)
      cases hp : pC (tk c L) (vN c L) o (i + 1) with
      | error e =>
        rw [pC_ne z3 hp]
        refine pw_aload_n dX5_readClause_0 rfl ?_
        refine pw_getI dX5_readClause_1 flX5_46 rfl (hS.at rfl rfl rfl) ?_
        rw [o4]
        refine pw_iconst (v := 3) dX5_readClause_4 (by decide) ?_
        refine pw_icmp_eq (tgt := 24) dX5_readClause_5 (by decide) (fun h5 => ?_) (fun h5 => ?_)
        · refine pw_iload_n dX5_readClause_24 rfl ?_
          refine pw_bipush (v := 8) dX5_readClause_25 (by decide) ?_
          refine pw_icmp_lt (tgt := 38) dX5_readClause_27 (by decide) (fun h27 => ?_) (fun h27 => ?_)
          · refine pw_aload_n dX5_readClause_38 rfl ?_
            refine pw_getI dX5_readClause_39 flX5_46 rfl (hS.at rfl rfl rfl) ?_
            rw [o4]
            refine pw_iconst (v := 3) dX5_readClause_42 (by decide) ?_
            refine pw_icmp_ne (tgt := 70) dX5_readClause_43 (by decide) (fun h43 => ?_) (fun h43 => ?_)
            · exact absurd (e3.mpr z3) h43
            · refine pw_aload_n dX5_readClause_46 rfl ?_
              refine pw_cV0 (d1 := d - 1) (a1 := 0) (a2 := al) dX5_readClause_47 mtX5_advance ivX5_advance mlX5_49 (Nat.le_of_ble_eq_true rfl) (Nat.le_of_ble_eq_true rfl) (by omega) (by omega) (hS.at rfl rfl rfl) rfl rfl (t_adv_ok (by omega) h ho (by omega)) ?_
              rintro r_ τ1 ⟨hr_, hs1, ho1⟩; subst r_
              have h1 := h.of hs1
              have hS1 := h1.1
              refine pw_aload_n dX5_readClause_50 rfl ?_
              refine pw_iload_n dX5_readClause_51 rfl ?_
              refine pw_iconst (v := 1) dX5_readClause_52 (by decide) ?_
              refine pw_iadd dX5_readClause_53 ?_
              rw [hopen]
              refine pw_cV1 (d1 := d - 1) (a1 := 0) (a2 := al) dX5_readClause_54 mtX5_readClause ivX5_readClause mlX5_74 (Nat.le_of_ble_eq_true rfl) (Nat.le_of_ble_eq_true rfl) (by omega) (by omega) (hS1.at rfl rfl rfl) rfl rfl (ih (d - 1) (by omega) (by omega) 0 τ1 (i + 1) S h1 ho1) ?_
              rintro r_ τ2 ⟨hr_, hs2, hb2⟩; subst r_
              rw [hp] at hb2
              have hb2 : BDs τ2 c L r e := hb2
              have h2 := h1.of hs2
              have hS2 := h2.1
              have hl2 : qR τ2 29 1 = r := h2.2.2.2.2.2.2.2.2
              refine pw_aload_n dX5_readClause_57 rfl ?_
              refine pw_getF dX5_readClause_58 flX5_20 rfl (hS2.at rfl rfl rfl) hl2 ?_
              refine pw_iconst (v := 3) dX5_readClause_61 (by decide) ?_
              refine pw_iconst (v := 0) dX5_readClause_62 (by decide) ?_
              refine pw_iconst (v := 0) dX5_readClause_63 (by decide) ?_
              refine pw_cV3 (d1 := d - 1) (a1 := 0) (a2 := al) dX5_readClause_64 mtX4_addStep ivX4_addStep mlX5_70 (Nat.le_of_ble_eq_true rfl) (Nat.le_of_ble_eq_true rfl) (by omega) (by omega) h2.rule rfl rfl (t_add_bad h2 hb2 _ _ _) ?_
              rintro r_ τ3 ⟨hr_, hs3, hb3⟩; subst r_
              refine pw_goto (tgt := 87) dX5_readClause_67 (by decide) ?_
              refine pw_vret dX5_readClause_87 rfl ?_
              exact ⟨rfl, (hs1.tr hs2).tr hs3, hb3⟩
          · exact absurd hlt8 h27
        · exact absurd (e3.mpr z3) h5
      | ok p =>
        obtain ⟨j, s⟩ := p
        obtain ⟨q1, q2, -⟩ := pC_c (v := vN c L) (tk_P c L) o (i + 1) j s hp
        have o6 := ho.2.2.2.2.2.1
        rw [pC_no z3 hp]
        refine pw_aload_n dX5_readClause_0 rfl ?_
        refine pw_getI dX5_readClause_1 flX5_46 rfl (hS.at rfl rfl rfl) ?_
        rw [o4]
        refine pw_iconst (v := 3) dX5_readClause_4 (by decide) ?_
        refine pw_icmp_eq (tgt := 24) dX5_readClause_5 (by decide) (fun h5 => ?_) (fun h5 => ?_)
        · refine pw_iload_n dX5_readClause_24 rfl ?_
          refine pw_bipush (v := 8) dX5_readClause_25 (by decide) ?_
          refine pw_icmp_lt (tgt := 38) dX5_readClause_27 (by decide) (fun h27 => ?_) (fun h27 => ?_)
          · refine pw_aload_n dX5_readClause_38 rfl ?_
            refine pw_getI dX5_readClause_39 flX5_46 rfl (hS.at rfl rfl rfl) ?_
            rw [o4]
            refine pw_iconst (v := 3) dX5_readClause_42 (by decide) ?_
            refine pw_icmp_ne (tgt := 70) dX5_readClause_43 (by decide) (fun h43 => ?_) (fun h43 => ?_)
            · exact absurd (e3.mpr z3) h43
            · refine pw_aload_n dX5_readClause_46 rfl ?_
              refine pw_cV0 (d1 := d - 1) (a1 := 0) (a2 := al) dX5_readClause_47 mtX5_advance ivX5_advance mlX5_49 (Nat.le_of_ble_eq_true rfl) (Nat.le_of_ble_eq_true rfl) (by omega) (by omega) (hS.at rfl rfl rfl) rfl rfl (t_adv_ok (by omega) h ho (by omega)) ?_
              rintro r_ τ1 ⟨hr_, hs1, ho1⟩; subst r_
              have h1 := h.of hs1
              have hS1 := h1.1
              refine pw_aload_n dX5_readClause_50 rfl ?_
              refine pw_iload_n dX5_readClause_51 rfl ?_
              refine pw_iconst (v := 1) dX5_readClause_52 (by decide) ?_
              refine pw_iadd dX5_readClause_53 ?_
              rw [hopen]
              refine pw_cV1 (d1 := d - 1) (a1 := 0) (a2 := al) dX5_readClause_54 mtX5_readClause ivX5_readClause mlX5_74 (Nat.le_of_ble_eq_true rfl) (Nat.le_of_ble_eq_true rfl) (by omega) (by omega) (hS1.at rfl rfl rfl) rfl rfl (ih (d - 1) (by omega) (by omega) 0 τ1 (i + 1) S h1 ho1) ?_
              rintro r_ τ2 ⟨hr_, hs2, ho2⟩; subst r_
              rw [hp] at ho2
              have ho2 : OKs τ2 c L k r j (S ++ s) := ho2
              have h2 := h1.of hs2
              have hS2 := h2.1
              have hl2 : qR τ2 29 1 = r := h2.2.2.2.2.2.2.2.2
              refine pw_aload_n dX5_readClause_57 rfl ?_
              refine pw_getF dX5_readClause_58 flX5_20 rfl (hS2.at rfl rfl rfl) hl2 ?_
              refine pw_iconst (v := 3) dX5_readClause_61 (by decide) ?_
              refine pw_iconst (v := 0) dX5_readClause_62 (by decide) ?_
              refine pw_iconst (v := 0) dX5_readClause_63 (by decide) ?_
              refine pw_cV3 (d1 := d - 1) (a1 := 0) (a2 := al) dX5_readClause_64 mtX4_addStep ivX4_addStep mlX5_70 (Nat.le_of_ble_eq_true rfl) (Nat.le_of_ble_eq_true rfl) (by omega) (by omega) h2.rule rfl rfl (t_add_ok (op := 3) (l := 0) (x := 0) h2 ho2 (by rw [List.length_append]; omega)) ?_
              rintro r_ τ3 ⟨hr_, hs3, ho3⟩; subst r_
              refine pw_goto (tgt := 87) dX5_readClause_67 (by decide) ?_
              refine pw_vret dX5_readClause_87 rfl ?_
              rw [List.append_assoc] at ho3
              exact ⟨rfl, (hs1.tr hs2).tr hs3, ho3⟩
          · exact absurd hlt8 h27
        · exact absurd (e3.mpr z3) h5
    · by_cases z16 : tk c L i = 16
      · have hch : SpO MX5_readChoice (d - 1) (nI (8 - o)) c L k r (pA (tk c L) (vN c L) o) := t_ch_ok (by omega) (fun i => pJ_c (tk_P c L) o i) (t_jn_ok (by omega) (fun i => pC_c (tk_P c L) o i) (ih (d - 1 - 1 - 1) (by omega) (by omega)))
        cases hp : pA (tk c L) (vN c L) o (i + 1) with
        | error e =>
          rw [pC_pe z16 hp]
          refine pw_aload_n dX5_readClause_0 rfl ?_
          refine pw_getI dX5_readClause_1 flX5_46 rfl (hS.at rfl rfl rfl) ?_
          rw [o4]
          refine pw_iconst (v := 3) dX5_readClause_4 (by decide) ?_
          refine pw_icmp_eq (tgt := 24) dX5_readClause_5 (by decide) (fun h5 => ?_) (fun h5 => ?_)
          · exact absurd (e3.mp h5) z3
          · refine pw_aload_n dX5_readClause_8 rfl ?_
            refine pw_getI dX5_readClause_9 flX5_46 rfl (hS.at rfl rfl rfl) ?_
            rw [o4]
            refine pw_bipush (v := 16) dX5_readClause_12 (by decide) ?_
            refine pw_icmp_eq (tgt := 24) dX5_readClause_14 (by decide) (fun h14 => ?_) (fun h14 => ?_)
            · refine pw_iload_n dX5_readClause_24 rfl ?_
              refine pw_bipush (v := 8) dX5_readClause_25 (by decide) ?_
              refine pw_icmp_lt (tgt := 38) dX5_readClause_27 (by decide) (fun h27 => ?_) (fun h27 => ?_)
              · refine pw_aload_n dX5_readClause_38 rfl ?_
                refine pw_getI dX5_readClause_39 flX5_46 rfl (hS.at rfl rfl rfl) ?_
                rw [o4]
                refine pw_iconst (v := 3) dX5_readClause_42 (by decide) ?_
                refine pw_icmp_ne (tgt := 70) dX5_readClause_43 (by decide) (fun h43 => ?_) (fun h43 => ?_)
                · refine pw_aload_n dX5_readClause_70 rfl ?_
                  refine pw_cV0 (d1 := d - 1) (a1 := 0) (a2 := al) dX5_readClause_71 mtX5_advance ivX5_advance mlX5_49 (Nat.le_of_ble_eq_true rfl) (Nat.le_of_ble_eq_true rfl) (by omega) (by omega) (hS.at rfl rfl rfl) rfl rfl (t_adv_ok (by omega) h ho (by omega)) ?_
                  rintro r_ τ1 ⟨hr_, hs1, ho1⟩; subst r_
                  have h1 := h.of hs1
                  have hS1 := h1.1
                  refine pw_aload_n dX5_readClause_74 rfl ?_
                  refine pw_iload_n dX5_readClause_75 rfl ?_
                  refine pw_iconst (v := 1) dX5_readClause_76 (by decide) ?_
                  refine pw_iadd dX5_readClause_77 ?_
                  rw [hopen]
                  refine pw_cV1 (d1 := d - 1) (a1 := 0) (a2 := al) dX5_readClause_78 mtX5_readChoice ivX5_readChoice mlX5_52 (Nat.le_of_ble_eq_true rfl) (Nat.le_of_ble_eq_true rfl) (by omega) (by omega) (hS1.at rfl rfl rfl) rfl rfl (hch 0 τ1 (i + 1) S h1 ho1) ?_
                  rintro r_ τ2 ⟨hr_, hs2, hb2⟩; subst r_
                  rw [hp] at hb2
                  have hb2 : BDs τ2 c L r e := hb2
                  have h2 := h1.of hs2
                  have hS2 := h2.1
                  refine pw_aload_n dX5_readClause_81 rfl ?_
                  refine pw_bipush (v := 17) dX5_readClause_82 (by decide) ?_
                  refine pw_cV1 (d1 := d - 1) (a1 := 0) (a2 := al) dX5_readClause_84 mtX5_take ivX5_take mlX5_56 (Nat.le_of_ble_eq_true rfl) (Nat.le_of_ble_eq_true rfl) (by omega) (by omega) (hS2.at rfl rfl rfl) rfl rfl (t_take_bad (w := 17) (by omega) h2 hb2 (by decide)) ?_
                  rintro r_ τ_ ⟨hr_, ht_⟩; subst r_; subst τ_
                  refine pw_vret dX5_readClause_87 rfl ?_
                  exact ⟨rfl, hs1.tr hs2, hb2⟩
                · exact absurd (e3.mp h43) z3
              · exact absurd hlt8 h27
            · exact absurd (e16.mpr z16) h14
        | ok p =>
          obtain ⟨j, s⟩ := p
          by_cases z17 : tk c L j = 17
          · rw [pC_po z16 hp z17]
            refine pw_aload_n dX5_readClause_0 rfl ?_
            refine pw_getI dX5_readClause_1 flX5_46 rfl (hS.at rfl rfl rfl) ?_
            rw [o4]
            refine pw_iconst (v := 3) dX5_readClause_4 (by decide) ?_
            refine pw_icmp_eq (tgt := 24) dX5_readClause_5 (by decide) (fun h5 => ?_) (fun h5 => ?_)
            · exact absurd (e3.mp h5) z3
            · refine pw_aload_n dX5_readClause_8 rfl ?_
              refine pw_getI dX5_readClause_9 flX5_46 rfl (hS.at rfl rfl rfl) ?_
              rw [o4]
              refine pw_bipush (v := 16) dX5_readClause_12 (by decide) ?_
              refine pw_icmp_eq (tgt := 24) dX5_readClause_14 (by decide) (fun h14 => ?_) (fun h14 => ?_)
              · refine pw_iload_n dX5_readClause_24 rfl ?_
                refine pw_bipush (v := 8) dX5_readClause_25 (by decide) ?_
                refine pw_icmp_lt (tgt := 38) dX5_readClause_27 (by decide) (fun h27 => ?_) (fun h27 => ?_)
                · refine pw_aload_n dX5_readClause_38 rfl ?_
                  refine pw_getI dX5_readClause_39 flX5_46 rfl (hS.at rfl rfl rfl) ?_
                  rw [o4]
                  refine pw_iconst (v := 3) dX5_readClause_42 (by decide) ?_
                  refine pw_icmp_ne (tgt := 70) dX5_readClause_43 (by decide) (fun h43 => ?_) (fun h43 => ?_)
                  · refine pw_aload_n dX5_readClause_70 rfl ?_
                    refine pw_cV0 (d1 := d - 1) (a1 := 0) (a2 := al) dX5_readClause_71 mtX5_advance ivX5_advance mlX5_49 (Nat.le_of_ble_eq_true rfl) (Nat.le_of_ble_eq_true rfl) (by omega) (by omega) (hS.at rfl rfl rfl) rfl rfl (t_adv_ok (by omega) h ho (by omega)) ?_
                    rintro r_ τ1 ⟨hr_, hs1, ho1⟩; subst r_
                    have h1 := h.of hs1
                    have hS1 := h1.1
                    refine pw_aload_n dX5_readClause_74 rfl ?_
                    refine pw_iload_n dX5_readClause_75 rfl ?_
                    refine pw_iconst (v := 1) dX5_readClause_76 (by decide) ?_
                    refine pw_iadd dX5_readClause_77 ?_
                    rw [hopen]
                    refine pw_cV1 (d1 := d - 1) (a1 := 0) (a2 := al) dX5_readClause_78 mtX5_readChoice ivX5_readChoice mlX5_52 (Nat.le_of_ble_eq_true rfl) (Nat.le_of_ble_eq_true rfl) (by omega) (by omega) (hS1.at rfl rfl rfl) rfl rfl (hch 0 τ1 (i + 1) S h1 ho1) ?_
                    rintro r_ τ2 ⟨hr_, hs2, ho2⟩; subst r_
                    rw [hp] at ho2
                    have ho2 : OKs τ2 c L k r j (S ++ s) := ho2
                    have h2 := h1.of hs2
                    have hS2 := h2.1
                    refine pw_aload_n dX5_readClause_81 rfl ?_
                    refine pw_bipush (v := 17) dX5_readClause_82 (by decide) ?_
                    refine pw_cV1 (d1 := d - 1) (a1 := 0) (a2 := al) dX5_readClause_84 mtX5_take ivX5_take mlX5_56 (Nat.le_of_ble_eq_true rfl) (Nat.le_of_ble_eq_true rfl) (by omega) (by omega) (hS2.at rfl rfl rfl) rfl rfl (t_take_ok (w := 17) (by omega) h2 ho2 (by decide)) ?_
                    rintro r_ τ3 ⟨hr_, hs3, ho3⟩; subst r_
                    refine pw_vret dX5_readClause_87 rfl ?_
                    rw [if_pos z17] at ho3
                    exact ⟨rfl, (hs1.tr hs2).tr hs3, ho3⟩
                  · exact absurd (e3.mp h43) z3
                · exact absurd hlt8 h27
              · exact absurd (e16.mpr z16) h14
          · rw [pC_pn z16 hp z17]
            refine pw_aload_n dX5_readClause_0 rfl ?_
            refine pw_getI dX5_readClause_1 flX5_46 rfl (hS.at rfl rfl rfl) ?_
            rw [o4]
            refine pw_iconst (v := 3) dX5_readClause_4 (by decide) ?_
            refine pw_icmp_eq (tgt := 24) dX5_readClause_5 (by decide) (fun h5 => ?_) (fun h5 => ?_)
            · exact absurd (e3.mp h5) z3
            · refine pw_aload_n dX5_readClause_8 rfl ?_
              refine pw_getI dX5_readClause_9 flX5_46 rfl (hS.at rfl rfl rfl) ?_
              rw [o4]
              refine pw_bipush (v := 16) dX5_readClause_12 (by decide) ?_
              refine pw_icmp_eq (tgt := 24) dX5_readClause_14 (by decide) (fun h14 => ?_) (fun h14 => ?_)
              · refine pw_iload_n dX5_readClause_24 rfl ?_
                refine pw_bipush (v := 8) dX5_readClause_25 (by decide) ?_
                refine pw_icmp_lt (tgt := 38) dX5_readClause_27 (by decide) (fun h27 => ?_) (fun h27 => ?_)
                · refine pw_aload_n dX5_readClause_38 rfl ?_
                  refine pw_getI dX5_readClause_39 flX5_46 rfl (hS.at rfl rfl rfl) ?_
                  rw [o4]
                  refine pw_iconst (v := 3) dX5_readClause_42 (by decide) ?_
                  refine pw_icmp_ne (tgt := 70) dX5_readClause_43 (by decide) (fun h43 => ?_) (fun h43 => ?_)
                  · refine pw_aload_n dX5_readClause_70 rfl ?_
                    refine pw_cV0 (d1 := d - 1) (a1 := 0) (a2 := al) dX5_readClause_71 mtX5_advance ivX5_advance mlX5_49 (Nat.le_of_ble_eq_true rfl) (Nat.le_of_ble_eq_true rfl) (by omega) (by omega) (hS.at rfl rfl rfl) rfl rfl (t_adv_ok (by omega) h ho (by omega)) ?_
                    rintro r_ τ1 ⟨hr_, hs1, ho1⟩; subst r_
                    have h1 := h.of hs1
                    have hS1 := h1.1
                    refine pw_aload_n dX5_readClause_74 rfl ?_
                    refine pw_iload_n dX5_readClause_75 rfl ?_
                    refine pw_iconst (v := 1) dX5_readClause_76 (by decide) ?_
                    refine pw_iadd dX5_readClause_77 ?_
                    rw [hopen]
                    refine pw_cV1 (d1 := d - 1) (a1 := 0) (a2 := al) dX5_readClause_78 mtX5_readChoice ivX5_readChoice mlX5_52 (Nat.le_of_ble_eq_true rfl) (Nat.le_of_ble_eq_true rfl) (by omega) (by omega) (hS1.at rfl rfl rfl) rfl rfl (hch 0 τ1 (i + 1) S h1 ho1) ?_
                    rintro r_ τ2 ⟨hr_, hs2, ho2⟩; subst r_
                    rw [hp] at ho2
                    have ho2 : OKs τ2 c L k r j (S ++ s) := ho2
                    have h2 := h1.of hs2
                    have hS2 := h2.1
                    refine pw_aload_n dX5_readClause_81 rfl ?_
                    refine pw_bipush (v := 17) dX5_readClause_82 (by decide) ?_
                    refine pw_cV1 (d1 := d - 1) (a1 := 0) (a2 := al) dX5_readClause_84 mtX5_take ivX5_take mlX5_56 (Nat.le_of_ble_eq_true rfl) (Nat.le_of_ble_eq_true rfl) (by omega) (by omega) (hS2.at rfl rfl rfl) rfl rfl (t_take_ok (w := 17) (by omega) h2 ho2 (by decide)) ?_
                    rintro r_ τ3 ⟨hr_, hs3, ho3⟩; subst r_
                    refine pw_vret dX5_readClause_87 rfl ?_
                    rw [if_neg z17] at ho3
                    exact ⟨rfl, (hs1.tr hs2).tr hs3, ho3⟩
                  · exact absurd (e3.mp h43) z3
                · exact absurd hlt8 h27
              · exact absurd (e16.mpr z16) h14
      · rw [pC_cmp z3 z16 (o + 1)]
        refine pw_aload_n dX5_readClause_0 rfl ?_
        refine pw_getI dX5_readClause_1 flX5_46 rfl (hS.at rfl rfl rfl) ?_
        rw [o4]
        refine pw_iconst (v := 3) dX5_readClause_4 (by decide) ?_
        refine pw_icmp_eq (tgt := 24) dX5_readClause_5 (by decide) (fun h5 => ?_) (fun h5 => ?_)
        · exact absurd (e3.mp h5) z3
        · refine pw_aload_n dX5_readClause_8 rfl ?_
          refine pw_getI dX5_readClause_9 flX5_46 rfl (hS.at rfl rfl rfl) ?_
          rw [o4]
          refine pw_bipush (v := 16) dX5_readClause_12 (by decide) ?_
          refine pw_icmp_eq (tgt := 24) dX5_readClause_14 (by decide) (fun h14 => ?_) (fun h14 => ?_)
          · exact absurd (e16.mp h14) z16
          · refine pw_aload_n dX5_readClause_17 rfl ?_
            refine pw_cV0 (d1 := d - 1) (a1 := 0) (a2 := al) dX5_readClause_18 mtX5_readComparison ivX5_readComparison mlX5_77 (Nat.le_of_ble_eq_true rfl) (Nat.le_of_ble_eq_true rfl) (by omega) (by omega) (hS.at rfl rfl rfl) rfl rfl (t_cmp_ok (by omega) h ho) ?_
            rintro r_ τ1 ⟨hr_, hR⟩; subst r_
            refine pw_goto (tgt := 87) dX5_readClause_21 (by decide) ?_
            refine pw_vret dX5_readClause_87 rfl ?_
            exact ⟨rfl, hR⟩
theorem t_choice {d L k r : Nat} {c : Nat → Nat} (hd : 40 ≤ d) : SpO MX5_readChoice d (nI 0) c L k r (pA (tk c L) (vN c L) 8) := t_ch_ok (by omega) (fun i => pJ_c (tk_P c L) 8 i) (t_jn_ok (by omega) (fun i => pC_c (tk_P c L) 8 i) (t_clause 8 (d - 1 - 1) (by omega) (Nat.le_refl _)))
theorem t_choice_bad {d L k r : Nat} {c : Nat → Nat} (hd : 40 ≤ d) : SpB MX5_readChoice d (nI 0) c L k r := t_ch_bad (by omega) _
