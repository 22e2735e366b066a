/-! ===== the reference: joins, choices, clauses ===== -/
/-- what reading more comes to -/
def MRs (σ τ : pm_S) (c : Nat → Nat) (L o : Nat) (S : List Nat) (v : Option Value) (R : rsl) : Prop := mdS σ τ ∧ match R with
  | .ok (j, s) => v = some (.int 1) ∧ mO_ τ c L j o (S ++ cvs s)
  | .error e => v = some (.int 0) ∧ mB_ τ c L e
def SpM (M : pm_M) (d : Nat) (c : Nat → Nat) (L o : Nat) (sub : Nat → rsl) : Prop := ∀ (al : Nat) (σ : pm_S) (i : Nat) (S : List Nat), mdC σ c L → mO_ σ c L i o S → S.length ≤ sn c L i → PM d al M [.ref 43] σ (fun v τ => MRs σ τ c L o S v (sub i))
theorem mO_.of {σ τ : pm_S} {c : Nat → Nat} {L i o : Nat} {S S' : List Nat} (h : mO_ σ c L i o S) (h1 : mQ_ τ c L i S') (h2 : qI τ 43 38 = qI σ 43 38) : mO_ τ c L i o S' := ⟨h1, h2.trans h.2⟩
theorem s_all_lp {d al L o : Nat} {c : Nat → Nat} {sub : Nat → rsl} (hd : 9 ≤ d) (hL : L ≤ 600) (hcost : ∀ i, okC (sn c L) i (sub i)) (hsub : SpM MX12_one (d - 1) c L o sub) (S0 : List Nat) : ∀ (f n i : Nat) (acc : List stp) (σ : pm_S), n + f = 600 → 2 * n ≤ sn c L i → mdC σ c L → mO_ σ c L i o (S0 ++ cvs acc) → (S0 ++ cvs acc).length ≤ sn c L i → PW d al MX12_all 9 [.ref 43] [] σ (fun v τ => MRs σ τ c L o S0 v (pL (tk c L) 2 sub f i acc)) := by
  intro f
  induction f with
  | zero =>
    intro n i acc σ hn hn2 h hq hl
    have := sn_le c L i
    omega
  | succ f ih =>
    intro n i acc σ hn hn2 h hq hl
    have hS := h.1
    have ht := tk_le c L i
    have q2 := hq.1.2.1
    have e1 : nI (mtk (tk c L i)) = 5 ↔ tk c L i = 2 := (mk_all (tk c L i) (by omega)).1.2.2.2.2.1
    by_cases z : tk c L i = 2
    · have hst := tk_P c L
      have hs2 : sn c L i + 2 ≤ sn c L (i + 1) := (by have := hst.2.2 i (Or.inl z); omega)
      cases hp : sub (i + 1) with
      | error e =>
        rw [pL_e z hp]
        refine pw_aload_n dX12_all_9 rfl ?_
        refine pw_getI dX12_all_10 flX12_197 rfl (hS.at rfl rfl rfl) ?_
        rw [q2]
        refine pw_iconst (v := 5) dX12_all_13 (by decide) ?_
        refine pw_icmp_ne (tgt := 40) dX12_all_14 (by decide) (fun h14 => ?_) (fun h14 => ?_)
        · exact absurd (e1.mpr z) h14
        · refine pw_aload_n dX12_all_17 rfl ?_
          refine pw_cV0 (d1 := d - 1) (a1 := 0) (a2 := al) dX12_all_18 mtX12_next0 ivX12_next0 mlX12_222 (Nat.le_of_ble_eq_true rfl) (Nat.le_of_ble_eq_true rfl) (by omega) (by omega) (hS.at rfl rfl rfl) rfl rfl (s_nxt (by omega) h hq.1) ?_
          rintro r_ τ1 ⟨hr_, hs1, hq1, hd1⟩; subst r_
          refine pw_aload_n dX12_all_21 rfl ?_
          have ho1 : mO_ τ1 c L (i + 1) o (S0 ++ cvs acc) := ⟨hq1, hd1.trans hq.2⟩
          refine pw_cV0 (d1 := d - 1) (a1 := 0) (a2 := al) dX12_all_22 mtX12_one ivX12_one mlX12_239 (Nat.le_of_ble_eq_true rfl) (Nat.le_of_ble_eq_true rfl) (by omega) (by omega) ((h.of hs1).1.at rfl rfl rfl) rfl rfl (hsub 0 τ1 (i + 1) (S0 ++ cvs acc) (h.of hs1) ho1 (by omega)) ?_
          rintro r_ τ2 ⟨hs2_, hb2⟩
          rw [hp] at hb2
          obtain ⟨hr_, hb2⟩ : r_ = some (.int 0) ∧ mB_ τ2 c L e := hb2
          subst r_
          refine pw_if_ne (tgt := 30) dX12_all_25 (by decide) (fun h25 => ?_) (fun h25 => ?_)
          · exact absurd rfl h25
          · refine pw_iconst (v := 0) dX12_all_28 (by decide) ?_
            refine pw_iret dX12_all_29 rfl (by first | rfl | exact bI_nar) ?_
            exact ⟨hs1.tr hs2_, rfl, hb2⟩
      | ok p =>
        obtain ⟨j, s⟩ := p
        obtain ⟨q1, -, q3⟩ := hcost (i + 1) j s hp
        rw [pL_o z hp]
        have hlen : (S0 ++ cvs (acc ++ s ++ [(2, 0, 0)])).length ≤ sn c L j := by
          rw [cvs_app, cvs_app, cvs_1, ← List.append_assoc, ← List.append_assoc, List.length_append, List.length_append]
          have : (cv (2, 0, 0)).length = 1 := rfl
          omega
        have hj := sn_le c L j
        refine pw_aload_n dX12_all_9 rfl ?_
        refine pw_getI dX12_all_10 flX12_197 rfl (hS.at rfl rfl rfl) ?_
        rw [q2]
        refine pw_iconst (v := 5) dX12_all_13 (by decide) ?_
        refine pw_icmp_ne (tgt := 40) dX12_all_14 (by decide) (fun h14 => ?_) (fun h14 => ?_)
        · exact absurd (e1.mpr z) h14
        · refine pw_aload_n dX12_all_17 rfl ?_
          refine pw_cV0 (d1 := d - 1) (a1 := 0) (a2 := al) dX12_all_18 mtX12_next0 ivX12_next0 mlX12_222 (Nat.le_of_ble_eq_true rfl) (Nat.le_of_ble_eq_true rfl) (by omega) (by omega) (hS.at rfl rfl rfl) rfl rfl (s_nxt (by omega) h hq.1) ?_
          rintro r_ τ1 ⟨hr_, hs1, hq1, hd1⟩; subst r_
          refine pw_aload_n dX12_all_21 rfl ?_
          have ho1 : mO_ τ1 c L (i + 1) o (S0 ++ cvs acc) := ⟨hq1, hd1.trans hq.2⟩
          refine pw_cV0 (d1 := d - 1) (a1 := 0) (a2 := al) dX12_all_22 mtX12_one ivX12_one mlX12_239 (Nat.le_of_ble_eq_true rfl) (Nat.le_of_ble_eq_true rfl) (by omega) (by omega) ((h.of hs1).1.at rfl rfl rfl) rfl rfl (hsub 0 τ1 (i + 1) (S0 ++ cvs acc) (h.of hs1) ho1 (by omega)) ?_
          rintro r_ τ2 ⟨hs2_, ho2⟩
          rw [hp] at ho2
          obtain ⟨hr_, ho2⟩ : r_ = some (.int 1) ∧ mO_ τ2 c L j o (S0 ++ cvs acc ++ cvs s) := ho2
          subst r_
          refine pw_if_ne (tgt := 30) dX12_all_25 (by decide) (fun h25 => ?_) (fun h25 => ?_)
          · refine pw_aload_n dX12_all_30 rfl ?_
            refine pw_sipush (v := 20004) dX12_all_31 (by decide) ?_
            refine pw_cV1 (d1 := d - 1) (a1 := 0) (a2 := al) dX12_all_34 mtX12_lay ivX12_lay mlX12_235 (Nat.le_of_ble_eq_true rfl) (Nat.le_of_ble_eq_true rfl) (by omega) (by omega) (((h.of hs1).of hs2_).1.at rfl rfl rfl) rfl rfl (s_layq ((h.of hs1).of hs2_) ho2.1 (by rw [List.length_append]; omega) 20004) ?_
            rintro r_ τ3 ⟨hr_, hs3, hq3, hd3⟩; subst r_
            refine pw_goto (tgt := 9) dX12_all_37 (by decide) ?_
            have ho3 : mO_ τ3 c L j o (S0 ++ cvs (acc ++ s ++ [(2, 0, 0)])) := by
              rw [cvs_app, cvs_app, cvs_1, ← List.append_assoc, ← List.append_assoc]
              exact ⟨hq3, hd3.trans ho2.2⟩
            refine PW.post ?_ (ih (n + 1) j (acc ++ s ++ [(2, 0, 0)]) τ3 (by omega) (by omega) (((h.of hs1).of hs2_).of hs3) ho3 hlen)
            rintro v τ ⟨w1, w2⟩
            exact ⟨((hs1.tr hs2_).tr hs3).tr w1, w2⟩
          · exact absurd h25 (by decide)
    · rw [pL_x z]
      refine pw_aload_n dX12_all_9 rfl ?_
      refine pw_getI dX12_all_10 flX12_197 rfl (hS.at rfl rfl rfl) ?_
      rw [q2]
      refine pw_iconst (v := 5) dX12_all_13 (by decide) ?_
      refine pw_icmp_ne (tgt := 40) dX12_all_14 (by decide) (fun h14 => ?_) (fun h14 => ?_)
      · refine pw_iconst (v := 1) dX12_all_40 (by decide) ?_
        refine pw_iret dX12_all_41 rfl (by first | rfl | exact bI_nar) ?_
        exact ⟨mdS.rfl', rfl, hq⟩
      · exact absurd (e1.mp h14) z
theorem s_all {d L o : Nat} {c : Nat → Nat} {sub : Nat → rsl} (hd : 9 ≤ d) (hL : L ≤ 600) (hcost : ∀ i, okC (sn c L) i (sub i)) (hsub : SpM MX12_one (d - 1) c L o sub) : SpM MX12_all d c L o (pM (tk c L) 2 sub) := by
  intro al σ i S h hq hl
  have hS := h.1
  show PW _ _ _ _ _ _ _ _
  cases hp : sub i with
  | error e =>
    rw [pM_e hp]
    refine pw_aload_n dX12_all_0 rfl ?_
    refine pw_cV0 (d1 := d - 1) (a1 := 0) (a2 := al) dX12_all_1 mtX12_one ivX12_one mlX12_239 (Nat.le_of_ble_eq_true rfl) (Nat.le_of_ble_eq_true rfl) (by omega) (by omega) (hS.at rfl rfl rfl) rfl rfl (hsub 0 σ i S h hq hl) ?_
    rintro r_ τ2 ⟨hs2_, hb2⟩
    rw [hp] at hb2
    obtain ⟨hr_, hb2⟩ : r_ = some (.int 0) ∧ mB_ τ2 c L e := hb2
    subst r_
    refine pw_if_ne (tgt := 9) dX12_all_4 (by decide) (fun h4 => ?_) (fun h4 => ?_)
    · exact absurd rfl h4
    · refine pw_iconst (v := 0) dX12_all_7 (by decide) ?_
      refine pw_iret dX12_all_8 rfl (by first | rfl | exact bI_nar) ?_
      exact ⟨hs2_, rfl, hb2⟩
  | ok p =>
    obtain ⟨j, s⟩ := p
    obtain ⟨q1, -, q3⟩ := hcost i j s hp
    rw [pM_o hp]
    refine pw_aload_n dX12_all_0 rfl ?_
    refine pw_cV0 (d1 := d - 1) (a1 := 0) (a2 := al) dX12_all_1 mtX12_one ivX12_one mlX12_239 (Nat.le_of_ble_eq_true rfl) (Nat.le_of_ble_eq_true rfl) (by omega) (by omega) (hS.at rfl rfl rfl) rfl rfl (hsub 0 σ i S h hq hl) ?_
    rintro r_ τ2 ⟨hs2_, ho2⟩
    rw [hp] at ho2
    obtain ⟨hr_, ho2⟩ : r_ = some (.int 1) ∧ mO_ τ2 c L j o (S ++ cvs s) := ho2
    subst r_
    refine pw_if_ne (tgt := 9) dX12_all_4 (by decide) (fun h4 => ?_) (fun h4 => ?_)
    · refine PW.post ?_ (s_all_lp hd hL hcost hsub S 600 0 j s τ2 (by omega) (by omega) (h.of hs2_) ho2 (by rw [List.length_append]; omega))
      rintro v τ ⟨w1, w2⟩
      exact ⟨hs2_.tr w1, w2⟩
    · exact absurd h4 (by decide)
theorem s_any_lp {d al L o : Nat} {c : Nat → Nat} {sub : Nat → rsl} (hd : 9 ≤ d) (hL : L ≤ 600) (hcost : ∀ i, okC (sn c L) i (sub i)) (hsub : SpM MX12_all (d - 1) c L o sub) (S0 : List Nat) : ∀ (f n i : Nat) (acc : List stp) (σ : pm_S), n + f = 600 → 2 * n ≤ sn c L i → mdC σ c L → mO_ σ c L i o (S0 ++ cvs acc) → (S0 ++ cvs acc).length ≤ sn c L i → PW d al MX12_any 9 [.ref 43] [] σ (fun v τ => MRs σ τ c L o S0 v (pL (tk c L) 1 sub f i acc)) := by
  intro f
  induction f with
  | zero =>
    intro n i acc σ hn hn2 h hq hl
    have := sn_le c L i
    omega
  | succ f ih =>
    intro n i acc σ hn hn2 h hq hl
    have hS := h.1
    have ht := tk_le c L i
    have q2 := hq.1.2.1
    have e1 : nI (mtk (tk c L i)) = 4 ↔ tk c L i = 1 := (mk_all (tk c L i) (by omega)).1.2.2.2.1
    by_cases z : tk c L i = 1
    · have hst := tk_P c L
      have hs2 : sn c L i + 2 ≤ sn c L (i + 1) := hst.2.1 i z
      cases hp : sub (i + 1) with
      | error e =>
        rw [pL_e z hp]
        refine pw_aload_n dX12_any_9 rfl ?_
        refine pw_getI dX12_any_10 flX12_197 rfl (hS.at rfl rfl rfl) ?_
        rw [q2]
        refine pw_iconst (v := 4) dX12_any_13 (by decide) ?_
        refine pw_icmp_ne (tgt := 40) dX12_any_14 (by decide) (fun h14 => ?_) (fun h14 => ?_)
        · exact absurd (e1.mpr z) h14
        · refine pw_aload_n dX12_any_17 rfl ?_
          refine pw_cV0 (d1 := d - 1) (a1 := 0) (a2 := al) dX12_any_18 mtX12_next0 ivX12_next0 mlX12_222 (Nat.le_of_ble_eq_true rfl) (Nat.le_of_ble_eq_true rfl) (by omega) (by omega) (hS.at rfl rfl rfl) rfl rfl (s_nxt (by omega) h hq.1) ?_
          rintro r_ τ1 ⟨hr_, hs1, hq1, hd1⟩; subst r_
          refine pw_aload_n dX12_any_21 rfl ?_
          have ho1 : mO_ τ1 c L (i + 1) o (S0 ++ cvs acc) := ⟨hq1, hd1.trans hq.2⟩
          refine pw_cV0 (d1 := d - 1) (a1 := 0) (a2 := al) dX12_any_22 mtX12_all ivX12_all mlX12_231 (Nat.le_of_ble_eq_true rfl) (Nat.le_of_ble_eq_true rfl) (by omega) (by omega) ((h.of hs1).1.at rfl rfl rfl) rfl rfl (hsub 0 τ1 (i + 1) (S0 ++ cvs acc) (h.of hs1) ho1 (by omega)) ?_
          rintro r_ τ2 ⟨hs2_, hb2⟩
          rw [hp] at hb2
          obtain ⟨hr_, hb2⟩ : r_ = some (.int 0) ∧ mB_ τ2 c L e := hb2
          subst r_
          refine pw_if_ne (tgt := 30) dX12_any_25 (by decide) (fun h25 => ?_) (fun h25 => ?_)
          · exact absurd rfl h25
          · refine pw_iconst (v := 0) dX12_any_28 (by decide) ?_
            refine pw_iret dX12_any_29 rfl (by first | rfl | exact bI_nar) ?_
            exact ⟨hs1.tr hs2_, rfl, hb2⟩
      | ok p =>
        obtain ⟨j, s⟩ := p
        obtain ⟨q1, -, q3⟩ := hcost (i + 1) j s hp
        rw [pL_o z hp]
        have hlen : (S0 ++ cvs (acc ++ s ++ [(1, 0, 0)])).length ≤ sn c L j := by
          rw [cvs_app, cvs_app, cvs_1, ← List.append_assoc, ← List.append_assoc, List.length_append, List.length_append]
          have : (cv (1, 0, 0)).length = 1 := rfl
          omega
        have hj := sn_le c L j
        refine pw_aload_n dX12_any_9 rfl ?_
        refine pw_getI dX12_any_10 flX12_197 rfl (hS.at rfl rfl rfl) ?_
        rw [q2]
        refine pw_iconst (v := 4) dX12_any_13 (by decide) ?_
        refine pw_icmp_ne (tgt := 40) dX12_any_14 (by decide) (fun h14 => ?_) (fun h14 => ?_)
        · exact absurd (e1.mpr z) h14
        · refine pw_aload_n dX12_any_17 rfl ?_
          refine pw_cV0 (d1 := d - 1) (a1 := 0) (a2 := al) dX12_any_18 mtX12_next0 ivX12_next0 mlX12_222 (Nat.le_of_ble_eq_true rfl) (Nat.le_of_ble_eq_true rfl) (by omega) (by omega) (hS.at rfl rfl rfl) rfl rfl (s_nxt (by omega) h hq.1) ?_
          rintro r_ τ1 ⟨hr_, hs1, hq1, hd1⟩; subst r_
          refine pw_aload_n dX12_any_21 rfl ?_
          have ho1 : mO_ τ1 c L (i + 1) o (S0 ++ cvs acc) := ⟨hq1, hd1.trans hq.2⟩
          refine pw_cV0 (d1 := d - 1) (a1 := 0) (a2 := al) dX12_any_22 mtX12_all ivX12_all mlX12_231 (Nat.le_of_ble_eq_true rfl) (Nat.le_of_ble_eq_true rfl) (by omega) (by omega) ((h.of hs1).1.at rfl rfl rfl) rfl rfl (hsub 0 τ1 (i + 1) (S0 ++ cvs acc) (h.of hs1) ho1 (by omega)) ?_
          rintro r_ τ2 ⟨hs2_, ho2⟩
          rw [hp] at ho2
          obtain ⟨hr_, ho2⟩ : r_ = some (.int 1) ∧ mO_ τ2 c L j o (S0 ++ cvs acc ++ cvs s) := ho2
          subst r_
          refine pw_if_ne (tgt := 30) dX12_any_25 (by decide) (fun h25 => ?_) (fun h25 => ?_)
          · refine pw_aload_n dX12_any_30 rfl ?_
            refine pw_sipush (v := 20005) dX12_any_31 (by decide) ?_
            refine pw_cV1 (d1 := d - 1) (a1 := 0) (a2 := al) dX12_any_34 mtX12_lay ivX12_lay mlX12_235 (Nat.le_of_ble_eq_true rfl) (Nat.le_of_ble_eq_true rfl) (by omega) (by omega) (((h.of hs1).of hs2_).1.at rfl rfl rfl) rfl rfl (s_layq ((h.of hs1).of hs2_) ho2.1 (by rw [List.length_append]; omega) 20005) ?_
            rintro r_ τ3 ⟨hr_, hs3, hq3, hd3⟩; subst r_
            refine pw_goto (tgt := 9) dX12_any_37 (by decide) ?_
            have ho3 : mO_ τ3 c L j o (S0 ++ cvs (acc ++ s ++ [(1, 0, 0)])) := by
              rw [cvs_app, cvs_app, cvs_1, ← List.append_assoc, ← List.append_assoc]
              exact ⟨hq3, hd3.trans ho2.2⟩
            refine PW.post ?_ (ih (n + 1) j (acc ++ s ++ [(1, 0, 0)]) τ3 (by omega) (by omega) (((h.of hs1).of hs2_).of hs3) ho3 hlen)
            rintro v τ ⟨w1, w2⟩
            exact ⟨((hs1.tr hs2_).tr hs3).tr w1, w2⟩
          · exact absurd h25 (by decide)
    · rw [pL_x z]
      refine pw_aload_n dX12_any_9 rfl ?_
      refine pw_getI dX12_any_10 flX12_197 rfl (hS.at rfl rfl rfl) ?_
      rw [q2]
      refine pw_iconst (v := 4) dX12_any_13 (by decide) ?_
      refine pw_icmp_ne (tgt := 40) dX12_any_14 (by decide) (fun h14 => ?_) (fun h14 => ?_)
      · refine pw_iconst (v := 1) dX12_any_40 (by decide) ?_
        refine pw_iret dX12_any_41 rfl (by first | rfl | exact bI_nar) ?_
        exact ⟨mdS.rfl', rfl, hq⟩
      · exact absurd (e1.mp h14) z
theorem s_any {d L o : Nat} {c : Nat → Nat} {sub : Nat → rsl} (hd : 9 ≤ d) (hL : L ≤ 600) (hcost : ∀ i, okC (sn c L) i (sub i)) (hsub : SpM MX12_all (d - 1) c L o sub) : SpM MX12_any d c L o (pM (tk c L) 1 sub) := by
  intro al σ i S h hq hl
  have hS := h.1
  show PW _ _ _ _ _ _ _ _
  cases hp : sub i with
  | error e =>
    rw [pM_e hp]
    refine pw_aload_n dX12_any_0 rfl ?_
    refine pw_cV0 (d1 := d - 1) (a1 := 0) (a2 := al) dX12_any_1 mtX12_all ivX12_all mlX12_231 (Nat.le_of_ble_eq_true rfl) (Nat.le_of_ble_eq_true rfl) (by omega) (by omega) (hS.at rfl rfl rfl) rfl rfl (hsub 0 σ i S h hq hl) ?_
    rintro r_ τ2 ⟨hs2_, hb2⟩
    rw [hp] at hb2
    obtain ⟨hr_, hb2⟩ : r_ = some (.int 0) ∧ mB_ τ2 c L e := hb2
    subst r_
    refine pw_if_ne (tgt := 9) dX12_any_4 (by decide) (fun h4 => ?_) (fun h4 => ?_)
    · exact absurd rfl h4
    · refine pw_iconst (v := 0) dX12_any_7 (by decide) ?_
      refine pw_iret dX12_any_8 rfl (by first | rfl | exact bI_nar) ?_
      exact ⟨hs2_, rfl, hb2⟩
  | ok p =>
    obtain ⟨j, s⟩ := p
    obtain ⟨q1, -, q3⟩ := hcost i j s hp
    rw [pM_o hp]
    refine pw_aload_n dX12_any_0 rfl ?_
    refine pw_cV0 (d1 := d - 1) (a1 := 0) (a2 := al) dX12_any_1 mtX12_all ivX12_all mlX12_231 (Nat.le_of_ble_eq_true rfl) (Nat.le_of_ble_eq_true rfl) (by omega) (by omega) (hS.at rfl rfl rfl) rfl rfl (hsub 0 σ i S h hq hl) ?_
    rintro r_ τ2 ⟨hs2_, ho2⟩
    rw [hp] at ho2
    obtain ⟨hr_, ho2⟩ : r_ = some (.int 1) ∧ mO_ τ2 c L j o (S ++ cvs s) := ho2
    subst r_
    refine pw_if_ne (tgt := 9) dX12_any_4 (by decide) (fun h4 => ?_) (fun h4 => ?_)
    · refine PW.post ?_ (s_any_lp hd hL hcost hsub S 600 0 j s τ2 (by omega) (by omega) (h.of hs2_) ho2 (by rw [List.length_append]; omega))
      rintro v τ ⟨w1, w2⟩
      exact ⟨hs2_.tr w1, w2⟩
    · exact absurd h4 (by decide)
theorem dp_dn {o : Nat} (h : o < 8) : nI (8 - o) - 1 = nI (8 - (o + 1)) := by
  rw [show (1 : Int32) = nI 1 from rfl, pk_sub (by omega), show 8 - o - 1 = 8 - (o + 1) by omega]
/-- the depth is set back -/
theorem mQ_.dp {σ : pm_S} {c : Nat → Nat} {L i : Nat} {S : List Nat} {x : Int32} (h : mQ_ σ c L i S) : mQ_ (pm_sI σ 43 38 x) c L i S := by
  obtain ⟨q1, q2, q3, q4, q5, q6, q7⟩ := h
  exact ⟨(qI_sI_ne (by decide)).trans q1, (qI_sI_ne (by decide)).trans q2, (qI_sI_ne (by decide)).trans q3, fun z => (qI_sI_ne (by decide)).trans (q4 z), (qI_sI_ne (by decide)).trans q5, (qI_sI_ne (by decide)).trans q6, fun m hm => (qI_sI_nc (by decide)).trans (q7 m hm)⟩
theorem mdS_dp {σ : pm_S} {x : Int32} : mdS σ (pm_sI σ 43 38 x) := ⟨rfl, fun b j a1 a2 => qI_sI_ne (by omega)⟩
theorem cv_cmp {t l r : Nat} (h : 18 ≤ t ∧ t ≤ 20) : cvs [(t, l, r)] = [mterm l, mterm r, 20000 + (t - 18)] := by
  rw [cvs_1]
  unfold cv
  rw [if_neg (show ¬ t = 3 by omega), if_neg (show ¬ t = 2 by omega), if_neg (show ¬ t = 1 by omega)]
theorem s_one_cmp {d al L i o : Nat} {σ : pm_S} {c : Nat → Nat} {S : List Nat} (hd : 6 ≤ d) (hL : L ≤ 600) (h : mdC σ c L) (hq : mO_ σ c L i o S) (hl : S.length ≤ sn c L i) : PW d al MX12_one 90 [.ref 43, .retAddr 0] [] σ (fun v τ => MRs σ τ c L o S v (pP (tk c L) (vN c L) i)) := by
  have hS := h.1
  have hsn := sn_le c L i
  cases hp : pT (tk c L) (vN c L) i with
  | error e =>
    rw [pP_e hp]
    refine pw_aload_n dX12_one_90 rfl ?_
    refine pw_cV0 (d1 := d - 1) (a1 := 0) (a2 := al) dX12_one_91 mtX12_term ivX12_term mlX12_251 (Nat.le_of_ble_eq_true rfl) (Nat.le_of_ble_eq_true rfl) (by omega) (by omega) (hS.at rfl rfl rfl) rfl rfl (s_term (by omega) h hq (by omega)) ?_
    rintro r_ τ1 ⟨hs1, hb1⟩
    rw [hp] at hb1
    obtain ⟨hr_, hb1⟩ : r_ = some (.int 0) ∧ mB_ τ1 c L e := hb1
    subst r_
    refine pw_if_ne (tgt := 99) dX12_one_94 (by decide) (fun h94 => ?_) (fun h94 => ?_)
    · exact absurd rfl h94
    · refine pw_iconst (v := 0) dX12_one_97 (by decide) ?_
      refine pw_iret dX12_one_98 rfl (by first | rfl | exact bI_nar) ?_
      exact ⟨hs1, rfl, hb1⟩
  | ok p =>
    obtain ⟨j, l⟩ := p
    have ht := tk_le c L j
    obtain ⟨-, -, -, -, -, e60, e61, e62⟩ := mk_all (tk c L j) (by omega)
    by_cases hz : 18 ≤ tk c L j ∧ tk c L j ≤ 20
    · have step : ∀ τ1, mdS σ τ1 → mO_ τ1 c L j o (S ++ [mterm l]) → PW d al MX12_one 145 [.ref 43, .retAddr 0] [.int (nI (20000 + (tk c L j - 18)))] τ1 (fun v τ => MRs σ τ c L o S v (pP (tk c L) (vN c L) i)) := by
        intro τ1 hs1 ho1
        have hk : ¬ nI (20000 + (tk c L j - 18)) = -1 := nI_nm1 (by omega)
        cases hp2 : pT (tk c L) (vN c L) (j + 1) with
        | error e =>
          rw [pP_e2 hp hz hp2]
          refine pw_istore_n dX12_one_145 (Nat.le_of_ble_eq_true rfl) (Nat.le_of_ble_eq_true rfl) rfl ?_
          refine pw_iload_n dX12_one_146 rfl ?_
          refine pw_iconst (v := (-1)) dX12_one_147 (by decide) ?_
          refine pw_icmp_ne (tgt := 157) dX12_one_148 (by decide) (fun h148 => ?_) (fun h148 => ?_)
          · refine pw_aload_n dX12_one_157 rfl ?_
            refine pw_cV0 (d1 := d - 1) (a1 := 0) (a2 := al) dX12_one_158 mtX12_next0 ivX12_next0 mlX12_222 (Nat.le_of_ble_eq_true rfl) (Nat.le_of_ble_eq_true rfl) (by omega) (by omega) ((h.of hs1).1.at rfl rfl rfl) rfl rfl (s_nxt (by omega) (h.of hs1) ho1.1) ?_
            rintro r_ τ2 ⟨hr_, hs2, hq2, hd2⟩; subst r_
            refine pw_aload_n dX12_one_161 rfl ?_
            have ho2 : mO_ τ2 c L (j + 1) o (S ++ [mterm l]) := ⟨hq2, hd2.trans ho1.2⟩
            refine pw_cV0 (d1 := d - 1) (a1 := 0) (a2 := al) dX12_one_162 mtX12_term ivX12_term mlX12_251 (Nat.le_of_ble_eq_true rfl) (Nat.le_of_ble_eq_true rfl) (by omega) (by omega) (((h.of hs1).of hs2).1.at rfl rfl rfl) rfl rfl (s_term (by omega) ((h.of hs1).of hs2) ho2 (by rw [List.length_append]; show S.length + 1 < 610; omega)) ?_
            rintro r_ τ3 ⟨hs3, hb3⟩
            rw [hp2] at hb3
            obtain ⟨hr_, hb3⟩ : r_ = some (.int 0) ∧ mB_ τ3 c L e := hb3
            subst r_
            refine pw_if_ne (tgt := 170) dX12_one_165 (by decide) (fun h165 => ?_) (fun h165 => ?_)
            · exact absurd rfl h165
            · refine pw_iconst (v := 0) dX12_one_168 (by decide) ?_
              refine pw_iret dX12_one_169 rfl (by first | rfl | exact bI_nar) ?_
              exact ⟨(hs1.tr hs2).tr hs3, rfl, hb3⟩
          · exact absurd h148 hk
        | ok p =>
          obtain ⟨k, r⟩ := p
          rw [pP_o hp hz hp2]
          refine pw_istore_n dX12_one_145 (Nat.le_of_ble_eq_true rfl) (Nat.le_of_ble_eq_true rfl) rfl ?_
          refine pw_iload_n dX12_one_146 rfl ?_
          refine pw_iconst (v := (-1)) dX12_one_147 (by decide) ?_
          refine pw_icmp_ne (tgt := 157) dX12_one_148 (by decide) (fun h148 => ?_) (fun h148 => ?_)
          · refine pw_aload_n dX12_one_157 rfl ?_
            refine pw_cV0 (d1 := d - 1) (a1 := 0) (a2 := al) dX12_one_158 mtX12_next0 ivX12_next0 mlX12_222 (Nat.le_of_ble_eq_true rfl) (Nat.le_of_ble_eq_true rfl) (by omega) (by omega) ((h.of hs1).1.at rfl rfl rfl) rfl rfl (s_nxt (by omega) (h.of hs1) ho1.1) ?_
            rintro r_ τ2 ⟨hr_, hs2, hq2, hd2⟩; subst r_
            refine pw_aload_n dX12_one_161 rfl ?_
            have ho2 : mO_ τ2 c L (j + 1) o (S ++ [mterm l]) := ⟨hq2, hd2.trans ho1.2⟩
            refine pw_cV0 (d1 := d - 1) (a1 := 0) (a2 := al) dX12_one_162 mtX12_term ivX12_term mlX12_251 (Nat.le_of_ble_eq_true rfl) (Nat.le_of_ble_eq_true rfl) (by omega) (by omega) (((h.of hs1).of hs2).1.at rfl rfl rfl) rfl rfl (s_term (by omega) ((h.of hs1).of hs2) ho2 (by rw [List.length_append]; show S.length + 1 < 610; omega)) ?_
            rintro r_ τ3 ⟨hs3, ho3⟩
            rw [hp2] at ho3
            obtain ⟨hr_, ho3⟩ : r_ = some (.int 1) ∧ mO_ τ3 c L k o (S ++ [mterm l] ++ [mterm r]) := ho3
            subst r_
            refine pw_if_ne (tgt := 170) dX12_one_165 (by decide) (fun h165 => ?_) (fun h165 => ?_)
            · refine pw_aload_n dX12_one_170 rfl ?_
              refine pw_iload_n dX12_one_171 rfl ?_
              refine pw_cV1 (d1 := d - 1) (a1 := 0) (a2 := al) dX12_one_172 mtX12_lay ivX12_lay mlX12_235 (Nat.le_of_ble_eq_true rfl) (Nat.le_of_ble_eq_true rfl) (by omega) (by omega) ((((h.of hs1).of hs2).of hs3).1.at rfl rfl rfl) rfl rfl (s_layq (((h.of hs1).of hs2).of hs3) ho3.1 (by rw [List.length_append, List.length_append]; show S.length + 1 + 1 < 620; omega) _) ?_
              rintro r_ τ4 ⟨hr_, hs4, hq4, hd4⟩; subst r_
              refine pw_iconst (v := 1) dX12_one_175 (by decide) ?_
              refine pw_iret dX12_one_176 rfl (by first | rfl | exact bI_nar) ?_
              refine ⟨((hs1.tr hs2).tr hs3).tr hs4, rfl, ?_⟩
              rw [cv_cmp hz]
              rw [List.append_assoc, List.append_assoc] at hq4
              exact ⟨hq4, hd4.trans ho3.2⟩
            · exact absurd h165 (by decide)
          · exact absurd h148 hk
      by_cases y1 : tk c L j = 18
      · have e := step
        rw [y1] at e
        refine pw_aload_n dX12_one_90 rfl ?_
        refine pw_cV0 (d1 := d - 1) (a1 := 0) (a2 := al) dX12_one_91 mtX12_term ivX12_term mlX12_251 (Nat.le_of_ble_eq_true rfl) (Nat.le_of_ble_eq_true rfl) (by omega) (by omega) (hS.at rfl rfl rfl) rfl rfl (s_term (by omega) h hq (by omega)) ?_
        rintro r_ τ1 ⟨hs1, ho1⟩
        rw [hp] at ho1
        obtain ⟨hr_, ho1⟩ : r_ = some (.int 1) ∧ mO_ τ1 c L j o (S ++ [mterm l]) := ho1
        subst r_
        have hS1 := (h.of hs1).1
        have hS := hS1
        have q2 := ho1.1.2.1
        refine pw_if_ne (tgt := 99) dX12_one_94 (by decide) (fun h94 => ?_) (fun h94 => ?_)
        · refine pw_aload_n dX12_one_99 rfl ?_
          refine pw_getI dX12_one_100 flX12_197 rfl ((h.of hs1).1.at rfl rfl rfl) ?_
          rw [q2]
          refine pw_bipush (v := 60) dX12_one_103 (by decide) ?_
          refine pw_icmp_ne (tgt := 114) dX12_one_105 (by decide) (fun h105 => ?_) (fun h105 => ?_)
          · exact absurd (e60.mpr y1) h105
          · refine pw_sipush (v := 20000) dX12_one_108 (by decide) ?_
            refine pw_goto (tgt := 145) dX12_one_111 (by decide) ?_
            exact e τ1 hs1 ho1
        · exact absurd h94 (by decide)
      · by_cases y2 : tk c L j = 19
        · have e := step
          rw [y2] at e
          refine pw_aload_n dX12_one_90 rfl ?_
          refine pw_cV0 (d1 := d - 1) (a1 := 0) (a2 := al) dX12_one_91 mtX12_term ivX12_term mlX12_251 (Nat.le_of_ble_eq_true rfl) (Nat.le_of_ble_eq_true rfl) (by omega) (by omega) (hS.at rfl rfl rfl) rfl rfl (s_term (by omega) h hq (by omega)) ?_
          rintro r_ τ1 ⟨hs1, ho1⟩
          rw [hp] at ho1
          obtain ⟨hr_, ho1⟩ : r_ = some (.int 1) ∧ mO_ τ1 c L j o (S ++ [mterm l]) := ho1
          subst r_
          have hS1 := (h.of hs1).1
          have hS := hS1
          have q2 := ho1.1.2.1
          refine pw_if_ne (tgt := 99) dX12_one_94 (by decide) (fun h94 => ?_) (fun h94 => ?_)
          · refine pw_aload_n dX12_one_99 rfl ?_
            refine pw_getI dX12_one_100 flX12_197 rfl (hS.at rfl rfl rfl) ?_
            rw [q2]
            refine pw_bipush (v := 60) dX12_one_103 (by decide) ?_
            refine pw_icmp_ne (tgt := 114) dX12_one_105 (by decide) (fun h105 => ?_) (fun h105 => ?_)
            · refine pw_aload_n dX12_one_114 rfl ?_
              refine pw_getI dX12_one_115 flX12_197 rfl (hS.at rfl rfl rfl) ?_
              rw [q2]
              refine pw_bipush (v := 61) dX12_one_118 (by decide) ?_
              refine pw_icmp_ne (tgt := 129) dX12_one_120 (by decide) (fun h120 => ?_) (fun h120 => ?_)
              · exact absurd (e61.mpr y2) h120
              · refine pw_sipush (v := 20001) dX12_one_123 (by decide) ?_
                refine pw_goto (tgt := 145) dX12_one_126 (by decide) ?_
                exact e τ1 hs1 ho1
            · exact absurd (e60.mp h105) y1
          · exact absurd h94 (by decide)
        · have y3 : tk c L j = 20 := by omega
          have e := step
          rw [y3] at e
          refine pw_aload_n dX12_one_90 rfl ?_
          refine pw_cV0 (d1 := d - 1) (a1 := 0) (a2 := al) dX12_one_91 mtX12_term ivX12_term mlX12_251 (Nat.le_of_ble_eq_true rfl) (Nat.le_of_ble_eq_true rfl) (by omega) (by omega) (hS.at rfl rfl rfl) rfl rfl (s_term (by omega) h hq (by omega)) ?_
          rintro r_ τ1 ⟨hs1, ho1⟩
          rw [hp] at ho1
          obtain ⟨hr_, ho1⟩ : r_ = some (.int 1) ∧ mO_ τ1 c L j o (S ++ [mterm l]) := ho1
          subst r_
          have hS1 := (h.of hs1).1
          have hS := hS1
          have q2 := ho1.1.2.1
          refine pw_if_ne (tgt := 99) dX12_one_94 (by decide) (fun h94 => ?_) (fun h94 => ?_)
          · refine pw_aload_n dX12_one_99 rfl ?_
            refine pw_getI dX12_one_100 flX12_197 rfl (hS.at rfl rfl rfl) ?_
            rw [q2]
            refine pw_bipush (v := 60) dX12_one_103 (by decide) ?_
            refine pw_icmp_ne (tgt := 114) dX12_one_105 (by decide) (fun h105 => ?_) (fun h105 => ?_)
            · refine pw_aload_n dX12_one_114 rfl ?_
              refine pw_getI dX12_one_115 flX12_197 rfl (hS.at rfl rfl rfl) ?_
              rw [q2]
              refine pw_bipush (v := 61) dX12_one_118 (by decide) ?_
              refine pw_icmp_ne (tgt := 129) dX12_one_120 (by decide) (fun h120 => ?_) (fun h120 => ?_)
              · refine pw_aload_n dX12_one_129 rfl ?_
                refine pw_getI dX12_one_130 flX12_197 rfl (hS.at rfl rfl rfl) ?_
                rw [q2]
                refine pw_bipush (v := 62) dX12_one_133 (by decide) ?_
                refine pw_icmp_ne (tgt := 144) dX12_one_135 (by decide) (fun h135 => ?_) (fun h135 => ?_)
                · exact absurd (e62.mpr y3) h135
                · refine pw_sipush (v := 20002) dX12_one_138 (by decide) ?_
                  refine pw_goto (tgt := 145) dX12_one_141 (by decide) ?_
                  exact e τ1 hs1 ho1
              · exact absurd (e61.mp h120) y2
            · exact absurd (e60.mp h105) y1
          · exact absurd h94 (by decide)
    · rw [pP_n hp hz]
      refine pw_aload_n dX12_one_90 rfl ?_
      refine pw_cV0 (d1 := d - 1) (a1 := 0) (a2 := al) dX12_one_91 mtX12_term ivX12_term mlX12_251 (Nat.le_of_ble_eq_true rfl) (Nat.le_of_ble_eq_true rfl) (by omega) (by omega) (hS.at rfl rfl rfl) rfl rfl (s_term (by omega) h hq (by omega)) ?_
      rintro r_ τ1 ⟨hs1, ho1⟩
      rw [hp] at ho1
      obtain ⟨hr_, ho1⟩ : r_ = some (.int 1) ∧ mO_ τ1 c L j o (S ++ [mterm l]) := ho1
      subst r_
      have hS1 := (h.of hs1).1
      have hS := hS1
      have q2 := ho1.1.2.1
      refine pw_if_ne (tgt := 99) dX12_one_94 (by decide) (fun h94 => ?_) (fun h94 => ?_)
      · refine pw_aload_n dX12_one_99 rfl ?_
        refine pw_getI dX12_one_100 flX12_197 rfl (hS.at rfl rfl rfl) ?_
        rw [q2]
        refine pw_bipush (v := 60) dX12_one_103 (by decide) ?_
        refine pw_icmp_ne (tgt := 114) dX12_one_105 (by decide) (fun h105 => ?_) (fun h105 => ?_)
        · refine pw_aload_n dX12_one_114 rfl ?_
          refine pw_getI dX12_one_115 flX12_197 rfl (hS.at rfl rfl rfl) ?_
          rw [q2]
          refine pw_bipush (v := 61) dX12_one_118 (by decide) ?_
          refine pw_icmp_ne (tgt := 129) dX12_one_120 (by decide) (fun h120 => ?_) (fun h120 => ?_)
          · refine pw_aload_n dX12_one_129 rfl ?_
            refine pw_getI dX12_one_130 flX12_197 rfl (hS.at rfl rfl rfl) ?_
            rw [q2]
            refine pw_bipush (v := 62) dX12_one_133 (by decide) ?_
            refine pw_icmp_ne (tgt := 144) dX12_one_135 (by decide) (fun h135 => ?_) (fun h135 => ?_)
            · refine pw_iconst (v := (-1)) dX12_one_144 (by decide) ?_
              refine pw_istore_n dX12_one_145 (Nat.le_of_ble_eq_true rfl) (Nat.le_of_ble_eq_true rfl) rfl ?_
              refine pw_iload_n dX12_one_146 rfl ?_
              refine pw_iconst (v := (-1)) dX12_one_147 (by decide) ?_
              refine pw_icmp_ne (tgt := 157) dX12_one_148 (by decide) (fun h148 => ?_) (fun h148 => ?_)
              · exact absurd rfl h148
              · refine pw_aload_n dX12_one_151 rfl ?_
                refine pw_iconst (v := 1) dX12_one_152 (by decide) ?_
                refine pw_cV1 (d1 := d - 1) (a1 := 0) (a2 := al) dX12_one_153 mtX12_bad ivX12_bad mlX12_219 (Nat.le_of_ble_eq_true rfl) (Nat.le_of_ble_eq_true rfl) (by omega) (by omega) (hS.at rfl rfl rfl) rfl rfl (s_badq (h.of hs1) ho1.1 1) ?_
                rintro r_ τ2 ⟨hr_, hs2, hb2⟩; subst r_
                refine pw_iret dX12_one_156 rfl (by first | rfl | exact bI_nar) ?_
                exact ⟨hs1.tr hs2, rfl, hb2⟩
            · exact absurd (e62.mp h135) (by omega)
          · exact absurd (e61.mp h120) (by omega)
        · exact absurd (e60.mp h105) (by omega)
      · exact absurd h94 (by decide)
theorem s_one {L : Nat} {c : Nat → Nat} (hL : L ≤ 600) : ∀ (o d : Nat), 3 * o + 12 ≤ d → o ≤ 8 → SpM MX12_one d c L o (pC (tk c L) (vN c L) o) := by
  intro o
  induction o with
  | zero =>
    intro d hd ho al σ i S h hq hl
    have hS := h.1
    have ht := tk_le c L i
    have q2 := hq.1.2.1
    have e6 := (mk_all (tk c L i) (by omega)).1.2.2.2.2.2.1
    have e40 := (mk_all (tk c L i) (by omega)).2.2.2.1
    show PW _ _ _ _ _ _ _ _
    by_cases y1 : tk c L i = 3
    · rw [pC_0 (Or.inl y1)]
      refine pw_aload_n dX12_one_0 rfl ?_
      refine pw_getI dX12_one_1 flX12_197 rfl (hS.at rfl rfl rfl) ?_
      rw [q2]
      refine pw_bipush (v := 6) dX12_one_4 (by decide) ?_
      refine pw_icmp_ne (tgt := 44) dX12_one_6 (by decide) (fun h6 => ?_) (fun h6 => ?_)
      · exact absurd (e6.mpr y1) h6
      · refine pw_aload_n dX12_one_9 rfl ?_
        refine pw_cV0 (d1 := d - 1) (a1 := 0) (a2 := al) dX12_one_10 mtX12_opens ivX12_opens mlX12_242 (Nat.le_of_ble_eq_true rfl) (Nat.le_of_ble_eq_true rfl) (by omega) (by omega) (hS.at rfl rfl rfl) rfl rfl (s_opens0 (by omega) h hq) ?_
        rintro r_ τ1 ⟨hr_, hs1, hb1⟩; subst r_
        refine pw_if_eq (tgt := 23) dX12_one_13 (by decide) (fun h13 => ?_) (fun h13 => ?_)
        · refine pw_iconst (v := 0) dX12_one_23 (by decide) ?_
          refine pw_iret dX12_one_24 rfl (by first | rfl | exact bI_nar) ?_
          exact ⟨hs1, rfl, hb1⟩
        · exact absurd rfl h13
    · by_cases y2 : tk c L i = 16
      · rw [pC_0 (Or.inr y2)]
        refine pw_aload_n dX12_one_0 rfl ?_
        refine pw_getI dX12_one_1 flX12_197 rfl (hS.at rfl rfl rfl) ?_
        rw [q2]
        refine pw_bipush (v := 6) dX12_one_4 (by decide) ?_
        refine pw_icmp_ne (tgt := 44) dX12_one_6 (by decide) (fun h6 => ?_) (fun h6 => ?_)
        · refine pw_aload_n dX12_one_44 rfl ?_
          refine pw_getI dX12_one_45 flX12_197 rfl (hS.at rfl rfl rfl) ?_
          rw [q2]
          refine pw_bipush (v := 40) dX12_one_48 (by decide) ?_
          refine pw_icmp_ne (tgt := 90) dX12_one_50 (by decide) (fun h50 => ?_) (fun h50 => ?_)
          · exact absurd (e40.mpr y2) h50
          · refine pw_aload_n dX12_one_53 rfl ?_
            refine pw_cV0 (d1 := d - 1) (a1 := 0) (a2 := al) dX12_one_54 mtX12_opens ivX12_opens mlX12_242 (Nat.le_of_ble_eq_true rfl) (Nat.le_of_ble_eq_true rfl) (by omega) (by omega) (hS.at rfl rfl rfl) rfl rfl (s_opens0 (by omega) h hq) ?_
            rintro r_ τ1 ⟨hr_, hs1, hb1⟩; subst r_
            refine pw_if_eq (tgt := 76) dX12_one_57 (by decide) (fun h57 => ?_) (fun h57 => ?_)
            · refine pw_iconst (v := 0) dX12_one_76 (by decide) ?_
              refine pw_iret dX12_one_77 rfl (by first | rfl | exact bI_nar) ?_
              exact ⟨hs1, rfl, hb1⟩
            · exact absurd rfl h57
        · exact absurd (e6.mp h6) y1
      · rw [pC_cmp y1 y2]
        refine pw_aload_n dX12_one_0 rfl ?_
        refine pw_getI dX12_one_1 flX12_197 rfl (hS.at rfl rfl rfl) ?_
        rw [q2]
        refine pw_bipush (v := 6) dX12_one_4 (by decide) ?_
        refine pw_icmp_ne (tgt := 44) dX12_one_6 (by decide) (fun h6 => ?_) (fun h6 => ?_)
        · refine pw_aload_n dX12_one_44 rfl ?_
          refine pw_getI dX12_one_45 flX12_197 rfl (hS.at rfl rfl rfl) ?_
          rw [q2]
          refine pw_bipush (v := 40) dX12_one_48 (by decide) ?_
          refine pw_icmp_ne (tgt := 90) dX12_one_50 (by decide) (fun h50 => ?_) (fun h50 => ?_)
          · exact s_one_cmp (by omega) hL h hq hl
          · exact absurd (e40.mp h50) y2
        · exact absurd (e6.mp h6) y1
  | succ o ih =>
    intro d hd ho al σ i S h hq hl
    have hS := h.1
    have ht := tk_le c L i
    have q2 := hq.1.2.1
    have e6 := (mk_all (tk c L i) (by omega)).1.2.2.2.2.2.1
    have e40 := (mk_all (tk c L i) (by omega)).2.2.2.1
    show PW _ _ _ _ _ _ _ _
    by_cases y1 : tk c L i = 3
    · have hs0 := (tk_P c L).2.2 i (Or.inr y1)
      have hone := ih (d - 1) (by omega) (by omega)
      cases hp : pC (tk c L) (vN c L) o (i + 1) with
      | error e =>
        rw [pC_ne y1 hp]
        refine pw_aload_n dX12_one_0 rfl ?_
        refine pw_getI dX12_one_1 flX12_197 rfl (hS.at rfl rfl rfl) ?_
        rw [q2]
        refine pw_bipush (v := 6) dX12_one_4 (by decide) ?_
        refine pw_icmp_ne (tgt := 44) dX12_one_6 (by decide) (fun h6 => ?_) (fun h6 => ?_)
        · exact absurd (e6.mpr y1) h6
        · refine pw_aload_n dX12_one_9 rfl ?_
          refine pw_cV0 (d1 := d - 1) (a1 := 0) (a2 := al) dX12_one_10 mtX12_opens ivX12_opens mlX12_242 (Nat.le_of_ble_eq_true rfl) (Nat.le_of_ble_eq_true rfl) (by omega) (by omega) (hS.at rfl rfl rfl) rfl rfl (s_opens1 (by omega) (by omega) h hq) ?_
          rintro r_ τ1 ⟨hr_, hs1, ho1⟩; subst r_
          refine pw_if_eq (tgt := 23) dX12_one_13 (by decide) (fun h13 => ?_) (fun h13 => ?_)
          · exact absurd h13 (by decide)
          · refine pw_aload_n dX12_one_16 rfl ?_
            refine pw_cV0 (d1 := d - 1) (a1 := 0) (a2 := al) dX12_one_17 mtX12_one ivX12_one mlX12_239 (Nat.le_of_ble_eq_true rfl) (Nat.le_of_ble_eq_true rfl) (by omega) (by omega) ((h.of hs1).1.at rfl rfl rfl) rfl rfl (hone 0 τ1 (i + 1) S (h.of hs1) ho1 (by omega)) ?_
            rintro r_ τ2 ⟨hs2, hb2⟩
            rw [hp] at hb2
            obtain ⟨hr_, hb2⟩ : r_ = some (.int 0) ∧ mB_ τ2 c L e := hb2
            subst r_
            refine pw_if_ne (tgt := 25) dX12_one_20 (by decide) (fun h20 => ?_) (fun h20 => ?_)
            · exact absurd rfl h20
            · refine pw_iconst (v := 0) dX12_one_23 (by decide) ?_
              refine pw_iret dX12_one_24 rfl (by first | rfl | exact bI_nar) ?_
              exact ⟨hs1.tr hs2, rfl, hb2⟩
      | ok p =>
        obtain ⟨j, s⟩ := p
        rw [pC_no y1 hp]
        obtain ⟨c1, -, c3⟩ := pC_c (tk_P c L) (v := vN c L) o (i + 1) j s hp
        have hj := sn_le c L j
        refine pw_aload_n dX12_one_0 rfl ?_
        refine pw_getI dX12_one_1 flX12_197 rfl (hS.at rfl rfl rfl) ?_
        rw [q2]
        refine pw_bipush (v := 6) dX12_one_4 (by decide) ?_
        refine pw_icmp_ne (tgt := 44) dX12_one_6 (by decide) (fun h6 => ?_) (fun h6 => ?_)
        · exact absurd (e6.mpr y1) h6
        · refine pw_aload_n dX12_one_9 rfl ?_
          refine pw_cV0 (d1 := d - 1) (a1 := 0) (a2 := al) dX12_one_10 mtX12_opens ivX12_opens mlX12_242 (Nat.le_of_ble_eq_true rfl) (Nat.le_of_ble_eq_true rfl) (by omega) (by omega) (hS.at rfl rfl rfl) rfl rfl (s_opens1 (by omega) (by omega) h hq) ?_
          rintro r_ τ1 ⟨hr_, hs1, ho1⟩; subst r_
          refine pw_if_eq (tgt := 23) dX12_one_13 (by decide) (fun h13 => ?_) (fun h13 => ?_)
          · exact absurd h13 (by decide)
          · refine pw_aload_n dX12_one_16 rfl ?_
            refine pw_cV0 (d1 := d - 1) (a1 := 0) (a2 := al) dX12_one_17 mtX12_one ivX12_one mlX12_239 (Nat.le_of_ble_eq_true rfl) (Nat.le_of_ble_eq_true rfl) (by omega) (by omega) ((h.of hs1).1.at rfl rfl rfl) rfl rfl (hone 0 τ1 (i + 1) S (h.of hs1) ho1 (by omega)) ?_
            rintro r_ τ2 ⟨hs2, ho2⟩
            rw [hp] at ho2
            obtain ⟨hr_, ho2⟩ : r_ = some (.int 1) ∧ mO_ τ2 c L j o (S ++ cvs s) := ho2
            subst r_
            refine pw_if_ne (tgt := 25) dX12_one_20 (by decide) (fun h20 => ?_) (fun h20 => ?_)
            · refine pw_aload_n dX12_one_25 rfl ?_
              refine pw_dup dX12_one_26 rfl ?_
              refine pw_getI dX12_one_27 flX12_228 rfl (((h.of hs1).of hs2).1.at rfl rfl rfl) ?_
              rw [ho2.2]
              refine pw_iconst (v := 1) dX12_one_30 (by decide) ?_
              refine pw_isub dX12_one_31 ?_
              rw [dp_dn (show o < 8 by omega)]
              refine pw_putI dX12_one_32 flX12_228 ⟨_, rfl, Or.inl rfl⟩ rfl (((h.of hs1).of hs2).1.at rfl rfl rfl) ?_
              refine pw_aload_n dX12_one_35 rfl ?_
              refine pw_sipush (v := 20003) dX12_one_36 (by decide) ?_
              refine pw_cV1 (d1 := d - 1) (a1 := 0) (a2 := al) dX12_one_39 mtX12_lay ivX12_lay mlX12_235 (Nat.le_of_ble_eq_true rfl) (Nat.le_of_ble_eq_true rfl) (by omega) (by omega) (((h.of hs1).of hs2).1.at rfl rfl rfl) rfl rfl (s_layq (((h.of hs1).of hs2).of mdS_dp) ho2.1.dp (by rw [List.length_append]; omega) 20003) ?_
              rintro r_ τ3 ⟨hr_, hs3, hq3, hd3⟩; subst r_
              refine pw_iconst (v := 1) dX12_one_42 (by decide) ?_
              refine pw_iret dX12_one_43 rfl (by first | rfl | exact bI_nar) ?_
              refine ⟨((hs1.tr hs2).tr mdS_dp).tr hs3, rfl, ?_⟩
              rw [cvs_app, cvs_1, ← List.append_assoc]
              exact ⟨hq3, hd3.trans qI_sI_eq⟩
            · exact absurd h20 (by decide)
    · by_cases y2 : tk c L i = 16
      · have hs0 := (tk_P c L).1 i (by omega)
        have hany : SpM MX12_any (d - 1) c L o (pA (tk c L) (vN c L) o) := s_any (by omega) hL (fun i => pJ_c (tk_P c L) o i) (s_all (by omega) hL (fun i => pC_c (tk_P c L) o i) (ih (d - 1 - 1 - 1) (by omega) (by omega)))
        cases hp : pA (tk c L) (vN c L) o (i + 1) with
        | error e =>
          rw [pC_pe y2 hp]
          refine pw_aload_n dX12_one_0 rfl ?_
          refine pw_getI dX12_one_1 flX12_197 rfl (hS.at rfl rfl rfl) ?_
          rw [q2]
          refine pw_bipush (v := 6) dX12_one_4 (by decide) ?_
          refine pw_icmp_ne (tgt := 44) dX12_one_6 (by decide) (fun h6 => ?_) (fun h6 => ?_)
          · refine pw_aload_n dX12_one_44 rfl ?_
            refine pw_getI dX12_one_45 flX12_197 rfl (hS.at rfl rfl rfl) ?_
            rw [q2]
            refine pw_bipush (v := 40) dX12_one_48 (by decide) ?_
            refine pw_icmp_ne (tgt := 90) dX12_one_50 (by decide) (fun h50 => ?_) (fun h50 => ?_)
            · exact absurd (e40.mpr y2) h50
            · refine pw_aload_n dX12_one_53 rfl ?_
              refine pw_cV0 (d1 := d - 1) (a1 := 0) (a2 := al) dX12_one_54 mtX12_opens ivX12_opens mlX12_242 (Nat.le_of_ble_eq_true rfl) (Nat.le_of_ble_eq_true rfl) (by omega) (by omega) (hS.at rfl rfl rfl) rfl rfl (s_opens1 (by omega) (by omega) h hq) ?_
              rintro r_ τ1 ⟨hr_, hs1, ho1⟩; subst r_
              refine pw_if_eq (tgt := 76) dX12_one_57 (by decide) (fun h57 => ?_) (fun h57 => ?_)
              · exact absurd h57 (by decide)
              · refine pw_aload_n dX12_one_60 rfl ?_
                refine pw_cV0 (d1 := d - 1) (a1 := 0) (a2 := al) dX12_one_61 mtX12_any ivX12_any mlX12_245 (Nat.le_of_ble_eq_true rfl) (Nat.le_of_ble_eq_true rfl) (by omega) (by omega) ((h.of hs1).1.at rfl rfl rfl) rfl rfl (hany 0 τ1 (i + 1) S (h.of hs1) ho1 (by omega)) ?_
                rintro r_ τ2 ⟨hs2, hb2⟩
                rw [hp] at hb2
                obtain ⟨hr_, hb2⟩ : r_ = some (.int 0) ∧ mB_ τ2 c L e := hb2
                subst r_
                refine pw_if_eq (tgt := 76) dX12_one_64 (by decide) (fun h64 => ?_) (fun h64 => ?_)
                · refine pw_iconst (v := 0) dX12_one_76 (by decide) ?_
                  refine pw_iret dX12_one_77 rfl (by first | rfl | exact bI_nar) ?_
                  exact ⟨hs1.tr hs2, rfl, hb2⟩
                · exact absurd rfl h64
          · exact absurd (e6.mp h6) y1
        | ok p =>
          obtain ⟨j, s⟩ := p
          have htj := tk_le c L j
          have e41 := (mk_all (tk c L j) (by omega)).2.2.2.2.1
          by_cases y3 : tk c L j = 17
          · rw [pC_po y2 hp y3]
            refine pw_aload_n dX12_one_0 rfl ?_
            refine pw_getI dX12_one_1 flX12_197 rfl (hS.at rfl rfl rfl) ?_
            rw [q2]
            refine pw_bipush (v := 6) dX12_one_4 (by decide) ?_
            refine pw_icmp_ne (tgt := 44) dX12_one_6 (by decide) (fun h6 => ?_) (fun h6 => ?_)
            · refine pw_aload_n dX12_one_44 rfl ?_
              refine pw_getI dX12_one_45 flX12_197 rfl (hS.at rfl rfl rfl) ?_
              rw [q2]
              refine pw_bipush (v := 40) dX12_one_48 (by decide) ?_
              refine pw_icmp_ne (tgt := 90) dX12_one_50 (by decide) (fun h50 => ?_) (fun h50 => ?_)
              · exact absurd (e40.mpr y2) h50
              · refine pw_aload_n dX12_one_53 rfl ?_
                refine pw_cV0 (d1 := d - 1) (a1 := 0) (a2 := al) dX12_one_54 mtX12_opens ivX12_opens mlX12_242 (Nat.le_of_ble_eq_true rfl) (Nat.le_of_ble_eq_true rfl) (by omega) (by omega) (hS.at rfl rfl rfl) rfl rfl (s_opens1 (by omega) (by omega) h hq) ?_
                rintro r_ τ1 ⟨hr_, hs1, ho1⟩; subst r_
                refine pw_if_eq (tgt := 76) dX12_one_57 (by decide) (fun h57 => ?_) (fun h57 => ?_)
                · exact absurd h57 (by decide)
                · refine pw_aload_n dX12_one_60 rfl ?_
                  refine pw_cV0 (d1 := d - 1) (a1 := 0) (a2 := al) dX12_one_61 mtX12_any ivX12_any mlX12_245 (Nat.le_of_ble_eq_true rfl) (Nat.le_of_ble_eq_true rfl) (by omega) (by omega) ((h.of hs1).1.at rfl rfl rfl) rfl rfl (hany 0 τ1 (i + 1) S (h.of hs1) ho1 (by omega)) ?_
                  rintro r_ τ2 ⟨hs2, ho2⟩
                  rw [hp] at ho2
                  obtain ⟨hr_, ho2⟩ : r_ = some (.int 1) ∧ mO_ τ2 c L j o (S ++ cvs s) := ho2
                  subst r_
                  refine pw_if_eq (tgt := 76) dX12_one_64 (by decide) (fun h64 => ?_) (fun h64 => ?_)
                  · exact absurd h64 (by decide)
                  · refine pw_aload_n dX12_one_67 rfl ?_
                    refine pw_bipush (v := 41) dX12_one_68 (by decide) ?_
                    refine pw_cV1 (d1 := d - 1) (a1 := 0) (a2 := al) dX12_one_70 mtX12_need ivX12_need mlX12_248 (Nat.le_of_ble_eq_true rfl) (Nat.le_of_ble_eq_true rfl) (by omega) (by omega) (((h.of hs1).of hs2).1.at rfl rfl rfl) rfl rfl (s_needq (by omega) ((h.of hs1).of hs2) ho2 e41) ?_
                    rintro r_ τ3 ⟨hs3, ho3⟩
                    rw [if_pos y3] at ho3
                    obtain ⟨hr_, ho3⟩ := ho3
                    subst r_
                    refine pw_if_ne (tgt := 78) dX12_one_73 (by decide) (fun h73 => ?_) (fun h73 => ?_)
                    · refine pw_aload_n dX12_one_78 rfl ?_
                      refine pw_dup dX12_one_79 rfl ?_
                      refine pw_getI dX12_one_80 flX12_228 rfl ((((h.of hs1).of hs2).of hs3).1.at rfl rfl rfl) ?_
                      rw [ho3.2]
                      refine pw_iconst (v := 1) dX12_one_83 (by decide) ?_
                      refine pw_isub dX12_one_84 ?_
                      rw [dp_dn (show o < 8 by omega)]
                      refine pw_putI dX12_one_85 flX12_228 ⟨_, rfl, Or.inl rfl⟩ rfl ((((h.of hs1).of hs2).of hs3).1.at rfl rfl rfl) ?_
                      refine pw_iconst (v := 1) dX12_one_88 (by decide) ?_
                      refine pw_iret dX12_one_89 rfl (by first | rfl | exact bI_nar) ?_
                      exact ⟨((hs1.tr hs2).tr hs3).tr mdS_dp, rfl, ho3.1.dp, qI_sI_eq⟩
                    · exact absurd h73 (by decide)
            · exact absurd (e6.mp h6) y1
          · rw [pC_pn y2 hp y3]
            refine pw_aload_n dX12_one_0 rfl ?_
            refine pw_getI dX12_one_1 flX12_197 rfl (hS.at rfl rfl rfl) ?_
            rw [q2]
            refine pw_bipush (v := 6) dX12_one_4 (by decide) ?_
            refine pw_icmp_ne (tgt := 44) dX12_one_6 (by decide) (fun h6 => ?_) (fun h6 => ?_)
            · refine pw_aload_n dX12_one_44 rfl ?_
              refine pw_getI dX12_one_45 flX12_197 rfl (hS.at rfl rfl rfl) ?_
              rw [q2]
              refine pw_bipush (v := 40) dX12_one_48 (by decide) ?_
              refine pw_icmp_ne (tgt := 90) dX12_one_50 (by decide) (fun h50 => ?_) (fun h50 => ?_)
              · exact absurd (e40.mpr y2) h50
              · refine pw_aload_n dX12_one_53 rfl ?_
                refine pw_cV0 (d1 := d - 1) (a1 := 0) (a2 := al) dX12_one_54 mtX12_opens ivX12_opens mlX12_242 (Nat.le_of_ble_eq_true rfl) (Nat.le_of_ble_eq_true rfl) (by omega) (by omega) (hS.at rfl rfl rfl) rfl rfl (s_opens1 (by omega) (by omega) h hq) ?_
                rintro r_ τ1 ⟨hr_, hs1, ho1⟩; subst r_
                refine pw_if_eq (tgt := 76) dX12_one_57 (by decide) (fun h57 => ?_) (fun h57 => ?_)
                · exact absurd h57 (by decide)
                · refine pw_aload_n dX12_one_60 rfl ?_
                  refine pw_cV0 (d1 := d - 1) (a1 := 0) (a2 := al) dX12_one_61 mtX12_any ivX12_any mlX12_245 (Nat.le_of_ble_eq_true rfl) (Nat.le_of_ble_eq_true rfl) (by omega) (by omega) ((h.of hs1).1.at rfl rfl rfl) rfl rfl (hany 0 τ1 (i + 1) S (h.of hs1) ho1 (by omega)) ?_
                  rintro r_ τ2 ⟨hs2, ho2⟩
                  rw [hp] at ho2
                  obtain ⟨hr_, ho2⟩ : r_ = some (.int 1) ∧ mO_ τ2 c L j o (S ++ cvs s) := ho2
                  subst r_
                  refine pw_if_eq (tgt := 76) dX12_one_64 (by decide) (fun h64 => ?_) (fun h64 => ?_)
                  · exact absurd h64 (by decide)
                  · refine pw_aload_n dX12_one_67 rfl ?_
                    refine pw_bipush (v := 41) dX12_one_68 (by decide) ?_
                    refine pw_cV1 (d1 := d - 1) (a1 := 0) (a2 := al) dX12_one_70 mtX12_need ivX12_need mlX12_248 (Nat.le_of_ble_eq_true rfl) (Nat.le_of_ble_eq_true rfl) (by omega) (by omega) (((h.of hs1).of hs2).1.at rfl rfl rfl) rfl rfl (s_needq (by omega) ((h.of hs1).of hs2) ho2 e41) ?_
                    rintro r_ τ3 ⟨hs3, ho3⟩
                    rw [if_neg y3] at ho3
                    obtain ⟨hr_, ho3⟩ := ho3
                    subst r_
                    refine pw_if_ne (tgt := 78) dX12_one_73 (by decide) (fun h73 => ?_) (fun h73 => ?_)
                    · exact absurd rfl h73
                    · refine pw_iconst (v := 0) dX12_one_76 (by decide) ?_
                      refine pw_iret dX12_one_77 rfl (by first | rfl | exact bI_nar) ?_
                      exact ⟨(hs1.tr hs2).tr hs3, rfl, ho3⟩
            · exact absurd (e6.mp h6) y1
      · rw [pC_cmp y1 y2]
        refine pw_aload_n dX12_one_0 rfl ?_
        refine pw_getI dX12_one_1 flX12_197 rfl (hS.at rfl rfl rfl) ?_
        rw [q2]
        refine pw_bipush (v := 6) dX12_one_4 (by decide) ?_
        refine pw_icmp_ne (tgt := 44) dX12_one_6 (by decide) (fun h6 => ?_) (fun h6 => ?_)
        · refine pw_aload_n dX12_one_44 rfl ?_
          refine pw_getI dX12_one_45 flX12_197 rfl (hS.at rfl rfl rfl) ?_
          rw [q2]
          refine pw_bipush (v := 40) dX12_one_48 (by decide) ?_
          refine pw_icmp_ne (tgt := 90) dX12_one_50 (by decide) (fun h50 => ?_) (fun h50 => ?_)
          · exact s_one_cmp (by omega) hL h hq hl
          · exact absurd (e40.mp h50) y2
        · exact absurd (e6.mp h6) y1
theorem s_choice {d L : Nat} {c : Nat → Nat} (hL : L ≤ 600) (hd : 40 ≤ d) : SpM MX12_any d c L 8 (pA (tk c L) (vN c L) 8) := s_any (by omega) hL (fun i => pJ_c (tk_P c L) 8 i) (s_all (by omega) hL (fun i => pC_c (tk_P c L) 8 i) (s_one hL 8 (d - 1 - 1) (by omega) (Nat.le_refl _)))
