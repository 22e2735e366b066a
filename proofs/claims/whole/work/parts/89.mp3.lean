/-! ===== the reference: a rule, all rules ===== -/
def mdU (σ τ : pm_S) : Prop := τ.2 = σ.2 ∧ ∀ b j, ¬ (b = 43 ∧ (j = 22 ∨ j = 23 ∨ (31 ≤ j ∧ j ≤ 36) ∨ j = 38)) → b ≠ 63 → b ≠ 64 → qI τ b j = qI σ b j
theorem mdU.rfl' {σ : pm_S} : mdU σ σ := ⟨rfl, fun _ _ _ _ _ => rfl⟩
theorem mdU.tr {σ τ ρ : pm_S} (h1 : mdU σ τ) (h2 : mdU τ ρ) : mdU σ ρ := ⟨h2.1.trans h1.1, fun b j a1 a2 a3 => (h2.2 b j a1 a2 a3).trans (h1.2 b j a1 a2 a3)⟩
theorem mdU.ofS {σ τ : pm_S} (h : mdS σ τ) : mdU σ τ := ⟨h.1, fun b j a1 _ a3 => h.2 b j (by omega) a3⟩
theorem mdC.ofU {σ τ : pm_S} {c : Nat → Nat} {L : Nat} (h : mdC σ c L) (hs : mdU σ τ) : mdC τ c L := ⟨fix_of2 hs.1 h.1, mT_of (hs.2 43 30 (by omega) (by omega) (by omega)) (fun j => hs.2 66 j (by omega) (by omega) (by omega)) h.2⟩
/-- where the rules begin -/
def muS (τ : pm_S) (rs : List (List stp)) : Prop := qI τ 43 22 = nI rs.length ∧ ∀ m, m < rs.length → qI τ 63 m = nI (cvs (rs.take m).flatten).length
theorem s_ar_b1 {d al L i : Nat} {σ : pm_S} {c : Nat → Nat} {S : List Nat} (hd : 3 ≤ d) (h : mdC σ c L) (hq : mQ_ σ c L i S) (z : ¬ tk c L i = 0) : PM d al MX12_aRule [.ref 43] σ (fun v τ => v = some (.int 0) ∧ mdU σ τ ∧ mB_ τ c L (1, i)) := by
  have hS := h.1
  have ht := tk_le c L i
  have q2 := hq.2.1
  have e3 := (mk_all (tk c L i) (by omega)).1.2.2.1
  show PW _ _ _ _ _ _ _ _
  refine pw_aload_n dX12_aRule_0 rfl ?_
  refine pw_getI dX12_aRule_1 flX12_197 rfl (hS.at rfl rfl rfl) ?_
  rw [q2]
  refine pw_iconst (v := 3) dX12_aRule_4 (by decide) ?_
  refine pw_icmp_eq (tgt := 14) dX12_aRule_5 (by decide) (fun h5 => ?_) (fun h5 => ?_)
  · exact absurd (e3.mp h5) z
  · refine pw_aload_n dX12_aRule_8 rfl ?_
    refine pw_iconst (v := 1) dX12_aRule_9 (by decide) ?_
    refine pw_cV1 (d1 := d - 1) (a1 := 0) (a2 := al) dX12_aRule_10 mtX12_bad ivX12_bad mlX12_219 (Nat.le_of_ble_eq_true rfl) (Nat.le_of_ble_eq_true rfl) (by omega) (by omega) (hS.at rfl rfl rfl) rfl rfl (s_badq h hq 1) ?_
    rintro r_ τ1 ⟨hr_, hs1, hb1⟩; subst r_
    refine pw_iret dX12_aRule_13 rfl (by first | rfl | exact bI_nar) ?_
    exact ⟨rfl, mdU.ofS hs1, hb1⟩
theorem s_ar_b2 {d al L i : Nat} {σ : pm_S} {c : Nat → Nat} {S : List Nat} (hd : 3 ≤ d) (h : mdC σ c L) (hq : mQ_ σ c L i S) (z : tk c L i = 0) (hr : qI σ 43 22 = nI 12) : PM d al MX12_aRule [.ref 43] σ (fun v τ => v = some (.int 0) ∧ mdU σ τ ∧ mB_ τ c L (2, i)) := by
  have hS := h.1
  have ht := tk_le c L i
  have q2 := hq.2.1
  have e3 := (mk_all (tk c L i) (by omega)).1.2.2.1
  show PW _ _ _ _ _ _ _ _
  refine pw_aload_n dX12_aRule_0 rfl ?_
  refine pw_getI dX12_aRule_1 flX12_197 rfl (hS.at rfl rfl rfl) ?_
  rw [q2]
  refine pw_iconst (v := 3) dX12_aRule_4 (by decide) ?_
  refine pw_icmp_eq (tgt := 14) dX12_aRule_5 (by decide) (fun h5 => ?_) (fun h5 => ?_)
  · refine pw_aload_n dX12_aRule_14 rfl ?_
    refine pw_getI dX12_aRule_15 flX12_254 rfl (hS.at rfl rfl rfl) ?_
    rw [hr]
    refine pw_bipush (v := 12) dX12_aRule_18 (by decide) ?_
    refine pw_icmp_ne (tgt := 29) dX12_aRule_20 (by decide) (fun h20 => ?_) (fun h20 => ?_)
    · exact absurd rfl h20
    · refine pw_aload_n dX12_aRule_23 rfl ?_
      refine pw_iconst (v := 2) dX12_aRule_24 (by decide) ?_
      refine pw_cV1 (d1 := d - 1) (a1 := 0) (a2 := al) dX12_aRule_25 mtX12_bad ivX12_bad mlX12_219 (Nat.le_of_ble_eq_true rfl) (Nat.le_of_ble_eq_true rfl) (by omega) (by omega) (hS.at rfl rfl rfl) rfl rfl (s_badq h hq 2) ?_
      rintro r_ τ1 ⟨hr_, hs1, hb1⟩; subst r_
      refine pw_iret dX12_aRule_28 rfl (by first | rfl | exact bI_nar) ?_
      exact ⟨rfl, mdU.ofS hs1, hb1⟩
  · exact absurd (e3.mpr z) h5
def MUr (τ : pm_S) (c : Nat → Nat) (L : Nat) (rs : List (List stp)) (v : Option Value) (R : rsl) : Prop := match R with
  | .error e => v = some (.int 0) ∧ mB_ τ c L e
  | .ok (j, s) => if tk c L j = 15 then v = some (.int 1) ∧ mQ_ τ c L (j + 1) (cvs (rs ++ [s]).flatten) ∧ muS τ (rs ++ [s]) else v = some (.int 0) ∧ mB_ τ c L (1, j)
theorem s_ar {d al L i : Nat} {σ : pm_S} {c : Nat → Nat} {rs : List (List stp)} (hd : 45 ≤ d) (hL : L ≤ 600) (h : mdC σ c L) (hq : mQ_ σ c L i (cvs rs.flatten)) (hl : (cvs rs.flatten).length ≤ sn c L i) (z : tk c L i = 0) (hr : muS σ rs) (hn : rs.length < 12) : PM d al MX12_aRule [.ref 43] σ (fun v τ => mdU σ τ ∧ MUr τ c L rs v (pA (tk c L) (vN c L) 8 (i + 1))) := by
  have hS := h.1
  have ht := tk_le c L i
  have q2 := hq.2.1
  have e3 := (mk_all (tk c L i) (by omega)).1.2.2.1
  have hs0 := (tk_P c L).1 i (by omega)
  have hne : ¬ nI rs.length = 12 := fun y => by have := nI_inj (b := 12) (by omega) (by decide) y; omega
  -- behind the first token
  have hprep : ∀ τ1, mdS σ τ1 → mQ_ τ1 c L (i + 1) (cvs rs.flatten) → mdU σ (pm_sI (pm_sI (pm_sI τ1 63 rs.length (nI (cvs rs.flatten).length)) 43 22 (nI rs.length + 1)) 43 38 0) ∧ mdC (pm_sI (pm_sI (pm_sI τ1 63 rs.length (nI (cvs rs.flatten).length)) 43 22 (nI rs.length + 1)) 43 38 0) c L ∧ mO_ (pm_sI (pm_sI (pm_sI τ1 63 rs.length (nI (cvs rs.flatten).length)) 43 22 (nI rs.length + 1)) 43 38 0) c L (i + 1) 8 (cvs rs.flatten) ∧ ∀ s : List stp, ∀ τ, mdS (pm_sI (pm_sI (pm_sI τ1 63 rs.length (nI (cvs rs.flatten).length)) 43 22 (nI rs.length + 1)) 43 38 0) τ → muS τ (rs ++ [s]) := by
    intro τ1 hs1 hq1
    have hU : mdU σ (pm_sI (pm_sI (pm_sI τ1 63 rs.length (nI (cvs rs.flatten).length)) 43 22 (nI rs.length + 1)) 43 38 0) := ⟨hs1.1, fun b j a1 a2 a3 => by rw [qI_sI_ne (by omega), qI_sI_ne (by omega), qI_sI_nc a2]; exact hs1.2 b j (by omega) a3⟩
    refine ⟨hU, h.ofU hU, ⟨?_, qI_sI_eq⟩, fun s τ hs => ⟨?_, fun m hm => ?_⟩⟩
    · obtain ⟨q1, q2, q3, q4, q5, q6, q7⟩ := hq1
      have e43 : ∀ j, j ≠ 22 → j ≠ 38 → qI (pm_sI (pm_sI (pm_sI τ1 63 rs.length (nI (cvs rs.flatten).length)) 43 22 (nI rs.length + 1)) 43 38 0) 43 j = qI τ1 43 j := fun j a1 a2 => by rw [qI_sI_ne (by omega), qI_sI_ne (by omega), qI_sI_nc (by decide)]
      exact ⟨(e43 _ (by decide) (by decide)).trans q1, (e43 _ (by decide) (by decide)).trans q2, (e43 _ (by decide) (by decide)).trans q3, fun z => (e43 _ (by decide) (by decide)).trans (q4 z), (e43 _ (by decide) (by decide)).trans q5, (e43 _ (by decide) (by decide)).trans q6, fun m hm => by rw [qI_sI_nc (by decide), qI_sI_nc (by decide), qI_sI_nc (by decide)]; exact q7 m hm⟩
    · rw [hs.2 43 22 (by omega) (by decide), qI_sI_ne (by decide), qI_sI_eq, ← nI_succ, List.length_append]; rfl
    · rw [List.length_append] at hm
      have hm : m < rs.length + 1 := hm
      rw [hs.2 63 m (by omega) (by decide), qI_sI_nc (by decide), qI_sI_nc (by decide), List.take_append_of_le_length (by omega)]
      by_cases y : m = rs.length
      · subst y
        rw [qI_sI_eq, List.take_length]
      · rw [qI_sI_ne (by omega), hs1.2 63 m (by omega) (by decide)]
        exact hr.2 m (by omega)
  show PW _ _ _ _ _ _ _ _
  have hany := s_choice (d := d - 1) (c := c) hL (by omega)
  cases hp : pA (tk c L) (vN c L) 8 (i + 1) with
  | error e =>
    refine pw_aload_n dX12_aRule_0 rfl ?_
    refine pw_getI dX12_aRule_1 flX12_197 rfl (hS.at rfl rfl rfl) ?_
    rw [q2]
    refine pw_iconst (v := 3) dX12_aRule_4 (by decide) ?_
    refine pw_icmp_eq (tgt := 14) dX12_aRule_5 (by decide) (fun h5 => ?_) (fun h5 => ?_)
    · refine pw_aload_n dX12_aRule_14 rfl ?_
      refine pw_getI dX12_aRule_15 flX12_254 rfl (hS.at rfl rfl rfl) ?_
      rw [hr.1]
      refine pw_bipush (v := 12) dX12_aRule_18 (by decide) ?_
      refine pw_icmp_ne (tgt := 29) dX12_aRule_20 (by decide) (fun h20 => ?_) (fun h20 => ?_)
      · refine pw_aload_n dX12_aRule_29 rfl ?_
        refine pw_cV0 (d1 := d - 1) (a1 := 0) (a2 := al) dX12_aRule_30 mtX12_next0 ivX12_next0 mlX12_222 (Nat.le_of_ble_eq_true rfl) (Nat.le_of_ble_eq_true rfl) (by omega) (by omega) (hS.at rfl rfl rfl) rfl rfl (s_nxt (by omega) h hq) ?_
        rintro r_ τ1 ⟨hr_, hs1, hq1, hd1⟩; subst r_
        obtain ⟨p1, p2, p3, p4⟩ := hprep τ1 hs1 hq1
        have hS1 := (h.of hs1).1
        have hS := hS1
        have hr1 : qI τ1 43 22 = nI rs.length := (hs1.2 43 22 (by omega) (by decide)).trans hr.1
        have hn13 : rs.length < 13 := by omega
        have hf1 := hq1.2.2.2.2.2.1
        refine pw_aload_n dX12_aRule_33 rfl ?_
        refine pw_getF (v := 63) dX12_aRule_34 flX12_67 rfl (hS1.at rfl rfl rfl) (hS.rf (43, 26, 63) rfl (by decide)) ?_
        refine pw_aload_n dX12_aRule_37 rfl ?_
        refine pw_getI dX12_aRule_38 flX12_254 rfl (hS1.at rfl rfl rfl) ?_
        refine pw_aload_n dX12_aRule_41 rfl ?_
        refine pw_getI dX12_aRule_42 flX12_225 rfl (hS1.at rfl rfl rfl) ?_
        rw [hf1]
        refine pw_iast dX12_aRule_45 (hS1.at rfl rfl rfl) (by decide) hr1 (hS1.lt rfl rfl hn13 rfl) (by omega) ?_
        refine pw_aload_n dX12_aRule_46 rfl ?_
        refine pw_dup dX12_aRule_47 rfl ?_
        refine pw_getI dX12_aRule_48 flX12_254 rfl (hS1.at rfl rfl rfl) ?_
        rw [show qI (pm_sI τ1 63 rs.length (nI (cvs rs.flatten).length)) 43 22 = nI rs.length from (qI_sI_nc (by decide)).trans hr1]
        refine pw_iconst (v := 1) dX12_aRule_51 (by decide) ?_
        refine pw_iadd dX12_aRule_52 ?_
        refine pw_putI dX12_aRule_53 flX12_254 ⟨_, rfl, Or.inl rfl⟩ rfl (hS1.at rfl rfl rfl) ?_
        refine pw_aload_n dX12_aRule_56 rfl ?_
        refine pw_iconst (v := 0) dX12_aRule_57 (by decide) ?_
        refine pw_putI dX12_aRule_58 flX12_228 ⟨_, rfl, Or.inl rfl⟩ rfl (hS1.at rfl rfl rfl) ?_
        refine pw_aload_n dX12_aRule_61 rfl ?_
        refine pw_cV0 (d1 := d - 1) (a1 := 0) (a2 := al) dX12_aRule_62 mtX12_any ivX12_any mlX12_245 (Nat.le_of_ble_eq_true rfl) (Nat.le_of_ble_eq_true rfl) (by omega) (by omega) (hS1.at rfl rfl rfl) rfl rfl (hany 0 _ (i + 1) _ p2 p3 (by omega)) ?_
        rintro r_ τ2 ⟨hs2, hb2⟩
        rw [hp] at hb2
        obtain ⟨hr_, hb2⟩ : r_ = some (.int 0) ∧ mB_ τ2 c L e := hb2
        subst r_
        refine pw_if_eq (tgt := 81) dX12_aRule_65 (by decide) (fun h65 => ?_) (fun h65 => ?_)
        · refine pw_iconst (v := 0) dX12_aRule_81 (by decide) ?_
          refine pw_iret dX12_aRule_82 rfl (by first | rfl | exact bI_nar) ?_
          exact ⟨p1.tr (mdU.ofS hs2), rfl, hb2⟩
        · exact absurd rfl h65
      · exact absurd h20 hne
    · exact absurd (e3.mpr z) h5
  | ok p =>
    obtain ⟨j, s⟩ := p
    have htj := tk_le c L j
    have e59 := (mk_all (tk c L j) (by omega)).2.2.1
    have hfl : cvs (rs ++ [s]).flatten = cvs rs.flatten ++ cvs s := by rw [List.flatten_append, cvs_app]; simp
    by_cases y : tk c L j = 15
    · skip
      refine pw_aload_n dX12_aRule_0 rfl ?_
      refine pw_getI dX12_aRule_1 flX12_197 rfl (hS.at rfl rfl rfl) ?_
      rw [q2]
      refine pw_iconst (v := 3) dX12_aRule_4 (by decide) ?_
      refine pw_icmp_eq (tgt := 14) dX12_aRule_5 (by decide) (fun h5 => ?_) (fun h5 => ?_)
      · refine pw_aload_n dX12_aRule_14 rfl ?_
        refine pw_getI dX12_aRule_15 flX12_254 rfl (hS.at rfl rfl rfl) ?_
        rw [hr.1]
        refine pw_bipush (v := 12) dX12_aRule_18 (by decide) ?_
        refine pw_icmp_ne (tgt := 29) dX12_aRule_20 (by decide) (fun h20 => ?_) (fun h20 => ?_)
        · refine pw_aload_n dX12_aRule_29 rfl ?_
          refine pw_cV0 (d1 := d - 1) (a1 := 0) (a2 := al) dX12_aRule_30 mtX12_next0 ivX12_next0 mlX12_222 (Nat.le_of_ble_eq_true rfl) (Nat.le_of_ble_eq_true rfl) (by omega) (by omega) (hS.at rfl rfl rfl) rfl rfl (s_nxt (by omega) h hq) ?_
          rintro r_ τ1 ⟨hr_, hs1, hq1, hd1⟩; subst r_
          obtain ⟨p1, p2, p3, p4⟩ := hprep τ1 hs1 hq1
          have hS1 := (h.of hs1).1
          have hS := hS1
          have hr1 : qI τ1 43 22 = nI rs.length := (hs1.2 43 22 (by omega) (by decide)).trans hr.1
          have hn13 : rs.length < 13 := by omega
          have hf1 := hq1.2.2.2.2.2.1
          refine pw_aload_n dX12_aRule_33 rfl ?_
          refine pw_getF (v := 63) dX12_aRule_34 flX12_67 rfl (hS1.at rfl rfl rfl) (hS.rf (43, 26, 63) rfl (by decide)) ?_
          refine pw_aload_n dX12_aRule_37 rfl ?_
          refine pw_getI dX12_aRule_38 flX12_254 rfl (hS1.at rfl rfl rfl) ?_
          refine pw_aload_n dX12_aRule_41 rfl ?_
          refine pw_getI dX12_aRule_42 flX12_225 rfl (hS1.at rfl rfl rfl) ?_
          rw [hf1]
          refine pw_iast dX12_aRule_45 (hS1.at rfl rfl rfl) (by decide) hr1 (hS1.lt rfl rfl hn13 rfl) (by omega) ?_
          refine pw_aload_n dX12_aRule_46 rfl ?_
          refine pw_dup dX12_aRule_47 rfl ?_
          refine pw_getI dX12_aRule_48 flX12_254 rfl (hS1.at rfl rfl rfl) ?_
          rw [show qI (pm_sI τ1 63 rs.length (nI (cvs rs.flatten).length)) 43 22 = nI rs.length from (qI_sI_nc (by decide)).trans hr1]
          refine pw_iconst (v := 1) dX12_aRule_51 (by decide) ?_
          refine pw_iadd dX12_aRule_52 ?_
          refine pw_putI dX12_aRule_53 flX12_254 ⟨_, rfl, Or.inl rfl⟩ rfl (hS1.at rfl rfl rfl) ?_
          refine pw_aload_n dX12_aRule_56 rfl ?_
          refine pw_iconst (v := 0) dX12_aRule_57 (by decide) ?_
          refine pw_putI dX12_aRule_58 flX12_228 ⟨_, rfl, Or.inl rfl⟩ rfl (hS1.at rfl rfl rfl) ?_
          refine pw_aload_n dX12_aRule_61 rfl ?_
          refine pw_cV0 (d1 := d - 1) (a1 := 0) (a2 := al) dX12_aRule_62 mtX12_any ivX12_any mlX12_245 (Nat.le_of_ble_eq_true rfl) (Nat.le_of_ble_eq_true rfl) (by omega) (by omega) (hS1.at rfl rfl rfl) rfl rfl (hany 0 _ (i + 1) _ p2 p3 (by omega)) ?_
          rintro r_ τ2 ⟨hs2, ho2⟩
          rw [hp] at ho2
          obtain ⟨hr_, ho2⟩ : r_ = some (.int 1) ∧ mO_ τ2 c L j 8 (cvs rs.flatten ++ cvs s) := ho2
          subst r_
          refine pw_if_eq (tgt := 81) dX12_aRule_65 (by decide) (fun h65 => ?_) (fun h65 => ?_)
          · exact absurd h65 (by decide)
          · refine pw_aload_n dX12_aRule_68 rfl ?_
            refine pw_bipush (v := 59) dX12_aRule_69 (by decide) ?_
            refine pw_cV1 (d1 := d - 1) (a1 := 0) (a2 := al) dX12_aRule_71 mtX12_need ivX12_need mlX12_248 (Nat.le_of_ble_eq_true rfl) (Nat.le_of_ble_eq_true rfl) (by omega) (by omega) ((p2.of hs2).1.at rfl rfl rfl) rfl rfl (s_needq (by omega) (p2.of hs2) ho2 e59) ?_
            rintro r_ τ3 ⟨hs3, ho3⟩
            rw [if_pos y] at ho3
            obtain ⟨hr_, ho3⟩ := ho3
            subst r_
            refine pw_if_eq (tgt := 81) dX12_aRule_74 (by decide) (fun h74 => ?_) (fun h74 => ?_)
            · exact absurd h74 (by decide)
            · refine pw_iconst (v := 1) dX12_aRule_77 (by decide) ?_
              refine pw_goto (tgt := 82) dX12_aRule_78 (by decide) ?_
              refine pw_iret dX12_aRule_82 rfl (by first | rfl | exact bI_nar) ?_
              refine ⟨p1.tr (mdU.ofS (hs2.tr hs3)), ?_⟩
              show (if tk c L j = 15 then _ else _)
              rw [if_pos y, hfl]
              exact ⟨rfl, ho3.1, p4 s τ3 (hs2.tr hs3)⟩
        · exact absurd h20 hne
      · exact absurd (e3.mpr z) h5
    · skip
      refine pw_aload_n dX12_aRule_0 rfl ?_
      refine pw_getI dX12_aRule_1 flX12_197 rfl (hS.at rfl rfl rfl) ?_
      rw [q2]
      refine pw_iconst (v := 3) dX12_aRule_4 (by decide) ?_
      refine pw_icmp_eq (tgt := 14) dX12_aRule_5 (by decide) (fun h5 => ?_) (fun h5 => ?_)
      · refine pw_aload_n dX12_aRule_14 rfl ?_
        refine pw_getI dX12_aRule_15 flX12_254 rfl (hS.at rfl rfl rfl) ?_
        rw [hr.1]
        refine pw_bipush (v := 12) dX12_aRule_18 (by decide) ?_
        refine pw_icmp_ne (tgt := 29) dX12_aRule_20 (by decide) (fun h20 => ?_) (fun h20 => ?_)
        · refine pw_aload_n dX12_aRule_29 rfl ?_
          refine pw_cV0 (d1 := d - 1) (a1 := 0) (a2 := al) dX12_aRule_30 mtX12_next0 ivX12_next0 mlX12_222 (Nat.le_of_ble_eq_true rfl) (Nat.le_of_ble_eq_true rfl) (by omega) (by omega) (hS.at rfl rfl rfl) rfl rfl (s_nxt (by omega) h hq) ?_
          rintro r_ τ1 ⟨hr_, hs1, hq1, hd1⟩; subst r_
          obtain ⟨p1, p2, p3, p4⟩ := hprep τ1 hs1 hq1
          have hS1 := (h.of hs1).1
          have hS := hS1
          have hr1 : qI τ1 43 22 = nI rs.length := (hs1.2 43 22 (by omega) (by decide)).trans hr.1
          have hn13 : rs.length < 13 := by omega
          have hf1 := hq1.2.2.2.2.2.1
          refine pw_aload_n dX12_aRule_33 rfl ?_
          refine pw_getF (v := 63) dX12_aRule_34 flX12_67 rfl (hS1.at rfl rfl rfl) (hS.rf (43, 26, 63) rfl (by decide)) ?_
          refine pw_aload_n dX12_aRule_37 rfl ?_
          refine pw_getI dX12_aRule_38 flX12_254 rfl (hS1.at rfl rfl rfl) ?_
          refine pw_aload_n dX12_aRule_41 rfl ?_
          refine pw_getI dX12_aRule_42 flX12_225 rfl (hS1.at rfl rfl rfl) ?_
          rw [hf1]
          refine pw_iast dX12_aRule_45 (hS1.at rfl rfl rfl) (by decide) hr1 (hS1.lt rfl rfl hn13 rfl) (by omega) ?_
          refine pw_aload_n dX12_aRule_46 rfl ?_
          refine pw_dup dX12_aRule_47 rfl ?_
          refine pw_getI dX12_aRule_48 flX12_254 rfl (hS1.at rfl rfl rfl) ?_
          rw [show qI (pm_sI τ1 63 rs.length (nI (cvs rs.flatten).length)) 43 22 = nI rs.length from (qI_sI_nc (by decide)).trans hr1]
          refine pw_iconst (v := 1) dX12_aRule_51 (by decide) ?_
          refine pw_iadd dX12_aRule_52 ?_
          refine pw_putI dX12_aRule_53 flX12_254 ⟨_, rfl, Or.inl rfl⟩ rfl (hS1.at rfl rfl rfl) ?_
          refine pw_aload_n dX12_aRule_56 rfl ?_
          refine pw_iconst (v := 0) dX12_aRule_57 (by decide) ?_
          refine pw_putI dX12_aRule_58 flX12_228 ⟨_, rfl, Or.inl rfl⟩ rfl (hS1.at rfl rfl rfl) ?_
          refine pw_aload_n dX12_aRule_61 rfl ?_
          refine pw_cV0 (d1 := d - 1) (a1 := 0) (a2 := al) dX12_aRule_62 mtX12_any ivX12_any mlX12_245 (Nat.le_of_ble_eq_true rfl) (Nat.le_of_ble_eq_true rfl) (by omega) (by omega) (hS1.at rfl rfl rfl) rfl rfl (hany 0 _ (i + 1) _ p2 p3 (by omega)) ?_
          rintro r_ τ2 ⟨hs2, ho2⟩
          rw [hp] at ho2
          obtain ⟨hr_, ho2⟩ : r_ = some (.int 1) ∧ mO_ τ2 c L j 8 (cvs rs.flatten ++ cvs s) := ho2
          subst r_
          refine pw_if_eq (tgt := 81) dX12_aRule_65 (by decide) (fun h65 => ?_) (fun h65 => ?_)
          · exact absurd h65 (by decide)
          · refine pw_aload_n dX12_aRule_68 rfl ?_
            refine pw_bipush (v := 59) dX12_aRule_69 (by decide) ?_
            refine pw_cV1 (d1 := d - 1) (a1 := 0) (a2 := al) dX12_aRule_71 mtX12_need ivX12_need mlX12_248 (Nat.le_of_ble_eq_true rfl) (Nat.le_of_ble_eq_true rfl) (by omega) (by omega) ((p2.of hs2).1.at rfl rfl rfl) rfl rfl (s_needq (by omega) (p2.of hs2) ho2 e59) ?_
            rintro r_ τ3 ⟨hs3, ho3⟩
            rw [if_neg y] at ho3
            obtain ⟨hr_, ho3⟩ := ho3
            subst r_
            refine pw_if_eq (tgt := 81) dX12_aRule_74 (by decide) (fun h74 => ?_) (fun h74 => ?_)
            · refine pw_iconst (v := 0) dX12_aRule_81 (by decide) ?_
              refine pw_iret dX12_aRule_82 rfl (by first | rfl | exact bI_nar) ?_
              refine ⟨p1.tr (mdU.ofS (hs2.tr hs3)), ?_⟩
              show (if tk c L j = 15 then _ else _)
              rw [if_neg y]
              exact ⟨rfl, ho3⟩
            · exact absurd rfl h74
        · exact absurd h20 hne
      · exact absurd (e3.mpr z) h5
/-- what reading all rules comes to -/
def MAs (σ τ : pm_S) (c : Nat → Nat) (L : Nat) (v : Int32) (R : Except (Nat × Nat) (List (List stp))) : Prop := mdU σ τ ∧ match R with
  | .ok rs => v = 1 ∧ qI τ 43 35 = 0 ∧ qI τ 43 23 = nI (cvs rs.flatten).length ∧ (cvs rs.flatten).length ≤ 600 ∧ (∀ m, m < (cvs rs.flatten).length → qI τ 64 m = nI ((cvs rs.flatten).getD m 0)) ∧ muS τ rs ∧ rs.length ≤ 12
  | .error e => v = 0 ∧ mB_ τ c L e
theorem s_ru_0 {d al : Nat} {τ : pm_S} {x : Value} {Q : Option Value → pm_S → Prop} (kk : PW d al MX12_rules 45 [.ref 43, .int 0, x] [] τ Q) : PW d al MX12_rules 26 [.ref 43, .int 0, x] [] τ Q := by
  refine pw_iload_n dX12_rules_26 rfl ?_
  refine pw_if_eq (tgt := 45) dX12_rules_27 (by decide) (fun h27 => ?_) (fun h27 => ?_)
  · exact kk
  · exact absurd rfl h27
theorem s_ru_lp {d al L : Nat} {c : Nat → Nat} {σ0 : pm_S} {R : Except (Nat × Nat) (List (List stp))} {Q : Option Value → pm_S → Prop} (hd : 50 ≤ d) (hL : L ≤ 600) (kk : ∀ τ v, MAs σ0 τ c L v R → PW d al MX12_rules 45 [.ref 43, .int v, .retAddr 0] [] τ Q) : ∀ (f n i : Nat) (rs : List (List stp)) (σ : pm_S), n + f = 12 → rs.length = n → mdU σ0 σ → mdC σ c L → mQ_ σ c L i (cvs rs.flatten) → (cvs rs.flatten).length ≤ sn c L i → muS σ rs → pR (tk c L) (vN c L) f i rs = R → PW d al MX12_rules 26 [.ref 43, .int 1, .retAddr 0] [] σ Q := by
  intro f
  induction f with
  | zero =>
    intro n i rs σ hn hrs hU h hq hl hr hR
    have hS := h.1
    have ht := tk_le c L i
    have hsn := sn_le c L i
    have q2 := hq.2.1
    have e0 := (mk_all (tk c L i) (by omega)).1.1
    by_cases z : tk c L i = 22
    · rw [pR_z z] at hR
      subst hR
      refine pw_iload_n dX12_rules_26 rfl ?_
      refine pw_if_eq (tgt := 45) dX12_rules_27 (by decide) (fun h27 => ?_) (fun h27 => ?_)
      · exact absurd h27 (by decide)
      · refine pw_aload_n dX12_rules_30 rfl ?_
        refine pw_getI dX12_rules_31 flX12_197 rfl (hS.at rfl rfl rfl) ?_
        rw [q2]
        refine pw_if_eq (tgt := 45) dX12_rules_34 (by decide) (fun h34 => ?_) (fun h34 => ?_)
        · exact kk σ 1 ⟨hU, rfl, hq.2.2.2.2.1, hq.2.2.2.2.2.1, by omega, hq.2.2.2.2.2.2, hr, by omega⟩
        · exact absurd (e0.mpr z) h34
    · by_cases z0 : tk c L i = 0
      · rw [pR_m z0] at hR
        subst hR
        refine pw_iload_n dX12_rules_26 rfl ?_
        refine pw_if_eq (tgt := 45) dX12_rules_27 (by decide) (fun h27 => ?_) (fun h27 => ?_)
        · exact absurd h27 (by decide)
        · refine pw_aload_n dX12_rules_30 rfl ?_
          refine pw_getI dX12_rules_31 flX12_197 rfl (hS.at rfl rfl rfl) ?_
          rw [q2]
          refine pw_if_eq (tgt := 45) dX12_rules_34 (by decide) (fun h34 => ?_) (fun h34 => ?_)
          · exact absurd (e0.mp h34) z
          · refine pw_aload_n dX12_rules_37 rfl ?_
            refine pw_cV0 (d1 := d - 1) (a1 := 0) (a2 := al) dX12_rules_38 mtX12_aRule ivX12_aRule mlX12_257 (Nat.le_of_ble_eq_true rfl) (Nat.le_of_ble_eq_true rfl) (by omega) (by omega) (hS.at rfl rfl rfl) rfl rfl (s_ar_b2 (by omega) h hq z0 (by rw [hr.1, hrs, show n = 12 by omega])) ?_
            rintro r_ τ1 ⟨hr_, hs1, hb1⟩; subst r_
            refine pw_istore_n dX12_rules_41 (Nat.le_of_ble_eq_true rfl) (Nat.le_of_ble_eq_true rfl) rfl ?_
            refine pw_goto (tgt := 26) dX12_rules_42 (by decide) ?_
            exact s_ru_0 (kk τ1 0 ⟨hU.tr hs1, rfl, hb1⟩)
      · rw [pR_b z z0] at hR
        subst hR
        refine pw_iload_n dX12_rules_26 rfl ?_
        refine pw_if_eq (tgt := 45) dX12_rules_27 (by decide) (fun h27 => ?_) (fun h27 => ?_)
        · exact absurd h27 (by decide)
        · refine pw_aload_n dX12_rules_30 rfl ?_
          refine pw_getI dX12_rules_31 flX12_197 rfl (hS.at rfl rfl rfl) ?_
          rw [q2]
          refine pw_if_eq (tgt := 45) dX12_rules_34 (by decide) (fun h34 => ?_) (fun h34 => ?_)
          · exact absurd (e0.mp h34) z
          · refine pw_aload_n dX12_rules_37 rfl ?_
            refine pw_cV0 (d1 := d - 1) (a1 := 0) (a2 := al) dX12_rules_38 mtX12_aRule ivX12_aRule mlX12_257 (Nat.le_of_ble_eq_true rfl) (Nat.le_of_ble_eq_true rfl) (by omega) (by omega) (hS.at rfl rfl rfl) rfl rfl (s_ar_b1 (by omega) h hq z0) ?_
            rintro r_ τ1 ⟨hr_, hs1, hb1⟩; subst r_
            refine pw_istore_n dX12_rules_41 (Nat.le_of_ble_eq_true rfl) (Nat.le_of_ble_eq_true rfl) rfl ?_
            refine pw_goto (tgt := 26) dX12_rules_42 (by decide) ?_
            exact s_ru_0 (kk τ1 0 ⟨hU.tr hs1, rfl, hb1⟩)
  | succ f ih =>
    intro n i rs σ hn hrs hU h hq hl hr hR
    have hS := h.1
    have ht := tk_le c L i
    have hsn := sn_le c L i
    have q2 := hq.2.1
    have e0 := (mk_all (tk c L i) (by omega)).1.1
    by_cases z : tk c L i = 22
    · rw [pR_z z] at hR
      subst hR
      refine pw_iload_n dX12_rules_26 rfl ?_
      refine pw_if_eq (tgt := 45) dX12_rules_27 (by decide) (fun h27 => ?_) (fun h27 => ?_)
      · exact absurd h27 (by decide)
      · refine pw_aload_n dX12_rules_30 rfl ?_
        refine pw_getI dX12_rules_31 flX12_197 rfl (hS.at rfl rfl rfl) ?_
        rw [q2]
        refine pw_if_eq (tgt := 45) dX12_rules_34 (by decide) (fun h34 => ?_) (fun h34 => ?_)
        · exact kk σ 1 ⟨hU, rfl, hq.2.2.2.2.1, hq.2.2.2.2.2.1, by omega, hq.2.2.2.2.2.2, hr, by omega⟩
        · exact absurd (e0.mpr z) h34
    · by_cases z0 : tk c L i = 0
      · have har := s_ar (d := d - 1) (al := 0) (by omega) hL h hq hl z0 hr (by omega)
        cases hp : pA (tk c L) (vN c L) 8 (i + 1) with
        | error e =>
          rw [pR_e z0 hp] at hR
          subst hR
          rw [hp] at har
          refine pw_iload_n dX12_rules_26 rfl ?_
          refine pw_if_eq (tgt := 45) dX12_rules_27 (by decide) (fun h27 => ?_) (fun h27 => ?_)
          · exact absurd h27 (by decide)
          · refine pw_aload_n dX12_rules_30 rfl ?_
            refine pw_getI dX12_rules_31 flX12_197 rfl (hS.at rfl rfl rfl) ?_
            rw [q2]
            refine pw_if_eq (tgt := 45) dX12_rules_34 (by decide) (fun h34 => ?_) (fun h34 => ?_)
            · exact absurd (e0.mp h34) z
            · refine pw_aload_n dX12_rules_37 rfl ?_
              refine pw_cV0 (d1 := d - 1) (a1 := 0) (a2 := al) dX12_rules_38 mtX12_aRule ivX12_aRule mlX12_257 (Nat.le_of_ble_eq_true rfl) (Nat.le_of_ble_eq_true rfl) (by omega) (by omega) (hS.at rfl rfl rfl) rfl rfl (har) ?_
              rintro r_ τ1 ⟨hs1, hr_, hb1⟩; subst r_
              refine pw_istore_n dX12_rules_41 (Nat.le_of_ble_eq_true rfl) (Nat.le_of_ble_eq_true rfl) rfl ?_
              refine pw_goto (tgt := 26) dX12_rules_42 (by decide) ?_
              exact s_ru_0 (kk τ1 0 ⟨hU.tr hs1, rfl, hb1⟩)
        | ok p =>
          obtain ⟨j, s⟩ := p
          rw [hp] at har
          by_cases y : tk c L j = 15
          · rw [pR_o z0 hp y] at hR
            obtain ⟨c1, -, c3⟩ := pA_c (tk_P c L) (v := vN c L) 8 (i + 1) j s hp
            have c4 := (tk_P c L).1 i (by omega)
            have c5 := (tk_P c L).1 j (by omega)
            have hfl : cvs (rs ++ [s]).flatten = cvs rs.flatten ++ cvs s := by rw [List.flatten_append, cvs_app]; simp
            refine pw_iload_n dX12_rules_26 rfl ?_
            refine pw_if_eq (tgt := 45) dX12_rules_27 (by decide) (fun h27 => ?_) (fun h27 => ?_)
            · exact absurd h27 (by decide)
            · refine pw_aload_n dX12_rules_30 rfl ?_
              refine pw_getI dX12_rules_31 flX12_197 rfl (hS.at rfl rfl rfl) ?_
              rw [q2]
              refine pw_if_eq (tgt := 45) dX12_rules_34 (by decide) (fun h34 => ?_) (fun h34 => ?_)
              · exact absurd (e0.mp h34) z
              · refine pw_aload_n dX12_rules_37 rfl ?_
                refine pw_cV0 (d1 := d - 1) (a1 := 0) (a2 := al) dX12_rules_38 mtX12_aRule ivX12_aRule mlX12_257 (Nat.le_of_ble_eq_true rfl) (Nat.le_of_ble_eq_true rfl) (by omega) (by omega) (hS.at rfl rfl rfl) rfl rfl (har) ?_
                rintro r_ τ1 ⟨hs1, hx⟩
                have hx : (if tk c L j = 15 then r_ = some (.int 1) ∧ mQ_ τ1 c L (j + 1) (cvs (rs ++ [s]).flatten) ∧ muS τ1 (rs ++ [s]) else r_ = some (.int 0) ∧ mB_ τ1 c L (1, j)) := hx
                rw [if_pos y] at hx
                obtain ⟨hr_, hq1, hm1⟩ := hx
                subst r_
                refine pw_istore_n dX12_rules_41 (Nat.le_of_ble_eq_true rfl) (Nat.le_of_ble_eq_true rfl) rfl ?_
                refine pw_goto (tgt := 26) dX12_rules_42 (by decide) ?_
                exact ih (n + 1) (j + 1) (rs ++ [s]) τ1 (by omega) (by rw [List.length_append, hrs]; rfl) (hU.tr hs1) (h.ofU hs1) hq1 (by rw [hfl, List.length_append]; omega) hm1 hR
          · rw [pR_n z0 hp y] at hR
            subst hR
            refine pw_iload_n dX12_rules_26 rfl ?_
            refine pw_if_eq (tgt := 45) dX12_rules_27 (by decide) (fun h27 => ?_) (fun h27 => ?_)
            · exact absurd h27 (by decide)
            · refine pw_aload_n dX12_rules_30 rfl ?_
              refine pw_getI dX12_rules_31 flX12_197 rfl (hS.at rfl rfl rfl) ?_
              rw [q2]
              refine pw_if_eq (tgt := 45) dX12_rules_34 (by decide) (fun h34 => ?_) (fun h34 => ?_)
              · exact absurd (e0.mp h34) z
              · refine pw_aload_n dX12_rules_37 rfl ?_
                refine pw_cV0 (d1 := d - 1) (a1 := 0) (a2 := al) dX12_rules_38 mtX12_aRule ivX12_aRule mlX12_257 (Nat.le_of_ble_eq_true rfl) (Nat.le_of_ble_eq_true rfl) (by omega) (by omega) (hS.at rfl rfl rfl) rfl rfl (har) ?_
                rintro r_ τ1 ⟨hs1, hx⟩
                have hx : (if tk c L j = 15 then r_ = some (.int 1) ∧ mQ_ τ1 c L (j + 1) (cvs (rs ++ [s]).flatten) ∧ muS τ1 (rs ++ [s]) else r_ = some (.int 0) ∧ mB_ τ1 c L (1, j)) := hx
                rw [if_neg y] at hx
                obtain ⟨hr_, hb1⟩ := hx
                subst r_
                refine pw_istore_n dX12_rules_41 (Nat.le_of_ble_eq_true rfl) (Nat.le_of_ble_eq_true rfl) rfl ?_
                refine pw_goto (tgt := 26) dX12_rules_42 (by decide) ?_
                exact s_ru_0 (kk τ1 0 ⟨hU.tr hs1, rfl, hb1⟩)
      · rw [pR_b z z0] at hR
        subst hR
        refine pw_iload_n dX12_rules_26 rfl ?_
        refine pw_if_eq (tgt := 45) dX12_rules_27 (by decide) (fun h27 => ?_) (fun h27 => ?_)
        · exact absurd h27 (by decide)
        · refine pw_aload_n dX12_rules_30 rfl ?_
          refine pw_getI dX12_rules_31 flX12_197 rfl (hS.at rfl rfl rfl) ?_
          rw [q2]
          refine pw_if_eq (tgt := 45) dX12_rules_34 (by decide) (fun h34 => ?_) (fun h34 => ?_)
          · exact absurd (e0.mp h34) z
          · refine pw_aload_n dX12_rules_37 rfl ?_
            refine pw_cV0 (d1 := d - 1) (a1 := 0) (a2 := al) dX12_rules_38 mtX12_aRule ivX12_aRule mlX12_257 (Nat.le_of_ble_eq_true rfl) (Nat.le_of_ble_eq_true rfl) (by omega) (by omega) (hS.at rfl rfl rfl) rfl rfl (s_ar_b1 (by omega) h hq z0) ?_
            rintro r_ τ1 ⟨hr_, hs1, hb1⟩; subst r_
            refine pw_istore_n dX12_rules_41 (Nat.le_of_ble_eq_true rfl) (Nat.le_of_ble_eq_true rfl) rfl ?_
            refine pw_goto (tgt := 26) dX12_rules_42 (by decide) ?_
            exact s_ru_0 (kk τ1 0 ⟨hU.tr hs1, rfl, hb1⟩)
