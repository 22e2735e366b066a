/-! ===== the reference: reading rules, the small steps ===== -/
def mdC (σ : pm_S) (c : Nat → Nat) (L : Nat) : Prop := pm_fix σ ∧ mT σ c L
def mdS (σ τ : pm_S) : Prop := τ.2 = σ.2 ∧ ∀ b j, ¬ (b = 43 ∧ (j = 23 ∨ (31 ≤ j ∧ j ≤ 36) ∨ j = 38)) → b ≠ 64 → qI τ b j = qI σ b j
theorem mdS.rfl' {σ : pm_S} : mdS σ σ := ⟨rfl, fun _ _ _ _ => rfl⟩
theorem mdS.tr {σ τ ρ : pm_S} (h1 : mdS σ τ) (h2 : mdS τ ρ) : mdS σ ρ := ⟨h2.1.trans h1.1, fun b j a1 a2 => (h2.2 b j a1 a2).trans (h1.2 b j a1 a2)⟩
theorem mdC.of {σ τ : pm_S} {c : Nat → Nat} {L : Nat} (h : mdC σ c L) (hs : mdS σ τ) : mdC τ c L := ⟨fix_of2 hs.1 h.1, mT_of (hs.2 43 30 (by omega) (by omega)) (fun j => hs.2 66 j (by omega) (by omega)) h.2⟩
/-- at token i, with these steps laid -/
def mQ_ (τ : pm_S) (c : Nat → Nat) (L i : Nat) (S : List Nat) : Prop := qI τ 43 31 = nI (ps c L (i + 1)) ∧ qI τ 43 32 = nI (mtk (tk c L i)) ∧ qI τ 43 33 = nI (sn c L i) ∧ (tk c L i = 21 → qI τ 43 34 = vl c L i) ∧ qI τ 43 35 = 0 ∧ qI τ 43 23 = nI S.length ∧ ∀ m, m < S.length → qI τ 64 m = nI (S.getD m 0)
def mO_ (τ : pm_S) (c : Nat → Nat) (L i o : Nat) (S : List Nat) : Prop := mQ_ τ c L i S ∧ qI τ 43 38 = nI (8 - o)
def mB_ (τ : pm_S) (c : Nat → Nat) (L : Nat) (e : Nat × Nat) : Prop := qI τ 43 35 = nI e.1 ∧ qI τ 43 36 = nI (sn c L e.2)
theorem mk_a1 : ∀ t, t < 24 → ((nI (mtk t) = 0 ↔ t = 22) ∧ (nI (mtk t) = 2 ↔ t = 21) ∧ (nI (mtk t) = 3 ↔ t = 0) ∧ (nI (mtk t) = 4 ↔ t = 1)) := by decide +kernel
theorem mk_a2 : ∀ t, t < 24 → ((nI (mtk t) = 5 ↔ t = 2) ∧ (nI (mtk t) = 6 ↔ t = 3) ∧ (nI (mtk t) = 7 ↔ t = 4) ∧ (nI (mtk t) = 8 ↔ t = 5)) := by decide +kernel
theorem mk_b : ∀ t, t < 24 → ((400 ≤ nI (mtk t) ↔ 6 ≤ t ∧ t ≤ 9) ∧ ((300 ≤ nI (mtk t) ∧ nI (mtk t) ≤ 304) ↔ 10 ≤ t ∧ t ≤ 14)) := by decide +kernel
theorem mk_c1 : ∀ t, t < 24 → ((nI (mtk t) = 59 ↔ t = 15) ∧ (nI (mtk t) = 40 ↔ t = 16) ∧ (nI (mtk t) = 41 ↔ t = 17)) := by decide +kernel
theorem mk_c2 : ∀ t, t < 24 → ((nI (mtk t) = 60 ↔ t = 18) ∧ (nI (mtk t) = 61 ↔ t = 19) ∧ (nI (mtk t) = 62 ↔ t = 20)) := by decide +kernel
theorem mk_all (t : Nat) (h : t < 24) : ((nI (mtk t) = 0 ↔ t = 22) ∧ (nI (mtk t) = 2 ↔ t = 21) ∧ (nI (mtk t) = 3 ↔ t = 0) ∧ (nI (mtk t) = 4 ↔ t = 1) ∧ (nI (mtk t) = 5 ↔ t = 2) ∧ (nI (mtk t) = 6 ↔ t = 3) ∧ (nI (mtk t) = 7 ↔ t = 4) ∧ (nI (mtk t) = 8 ↔ t = 5)) ∧ ((400 ≤ nI (mtk t) ↔ 6 ≤ t ∧ t ≤ 9) ∧ ((300 ≤ nI (mtk t) ∧ nI (mtk t) ≤ 304) ↔ 10 ≤ t ∧ t ≤ 14)) ∧ ((nI (mtk t) = 59 ↔ t = 15) ∧ (nI (mtk t) = 40 ↔ t = 16) ∧ (nI (mtk t) = 41 ↔ t = 17) ∧ (nI (mtk t) = 60 ↔ t = 18) ∧ (nI (mtk t) = 61 ↔ t = 19) ∧ (nI (mtk t) = 62 ↔ t = 20)) := by
  obtain ⟨a1, a2, a3, a4⟩ := mk_a1 t h
  obtain ⟨b1, b2, b3, b4⟩ := mk_a2 t h
  obtain ⟨c1, c2, c3⟩ := mk_c1 t h
  obtain ⟨d1, d2, d3⟩ := mk_c2 t h
  exact ⟨⟨a1, a2, a3, a4, b1, b2, b3, b4⟩, mk_b t h, c1, c2, c3, d1, d2, d3⟩
theorem s_bad {d al : Nat} {σ : pm_S} (hS : pm_fix σ) (k : Int32) : PE d al MX12_bad [.ref 43, .int k] σ (some (.int 0)) (pm_sI (pm_sI σ 43 35 k) 43 36 (qI σ 43 33)) := by
  show PW _ _ _ _ _ _ _ _
  refine pw_aload_n dX12_bad_0 rfl ?_
  refine pw_iload_n dX12_bad_1 rfl ?_
  refine pw_putI dX12_bad_2 flX12_213 ⟨_, rfl, Or.inl rfl⟩ rfl (hS.at rfl rfl rfl) ?_
  refine pw_aload_n dX12_bad_5 rfl ?_
  refine pw_aload_n dX12_bad_6 rfl ?_
  refine pw_getI dX12_bad_7 flX12_194 rfl (hS.at rfl rfl rfl) ?_
  refine pw_putI dX12_bad_10 flX12_216 ⟨_, rfl, Or.inl rfl⟩ rfl (hS.at rfl rfl rfl) ?_
  refine pw_iconst (v := 0) dX12_bad_13 (by decide) ?_
  refine pw_iret dX12_bad_14 rfl (by first | rfl | exact bI_nar) ?_
  exact ⟨rfl, rfl⟩
theorem s_badq {d al L i : Nat} {σ : pm_S} {c : Nat → Nat} {S : List Nat} (h : mdC σ c L) (hq : mQ_ σ c L i S) (k : Nat) : PM d al MX12_bad [.ref 43, .int (nI k)] σ (fun v τ => v = some (.int 0) ∧ mdS σ τ ∧ mB_ τ c L (k, i)) := by
  refine PW.post ?_ (s_bad h.1 (nI k))
  rintro v τ ⟨rfl, rfl⟩
  refine ⟨rfl, ⟨rfl, fun b j a1 a2 => by rw [qI_sI_ne (by omega), qI_sI_ne (by omega)]⟩, ?_, ?_⟩
  · rw [qI_sI_ne (by decide), qI_sI_eq]
  · rw [qI_sI_eq]; exact hq.2.2.1
def m_lay (σ : pm_S) (n : Nat) (x : Int32) : pm_S := pm_sI (pm_sI σ 64 n x) 43 23 (nI n + 1)
theorem s_lay {d al n : Nat} {σ : pm_S} (hS : pm_fix σ) (hn : qI σ 43 23 = nI n) (hn2 : n < 620) (x : Int32) : PE d al MX12_lay [.ref 43, .int x] σ none (m_lay σ n x) := by
  have e : qI (pm_sI σ 64 n x) 43 23 = nI n := (qI_sI_nc (by decide)).trans hn
  show PW _ _ _ _ _ _ _ _
  refine pw_aload_n dX12_lay_0 rfl ?_
  refine pw_getF (v := 64) dX12_lay_1 flX12_70 rfl (hS.at rfl rfl rfl) (hS.rf (43, 27, 64) rfl (by decide)) ?_
  refine pw_aload_n dX12_lay_4 rfl ?_
  refine pw_getI dX12_lay_5 flX12_225 rfl (hS.at rfl rfl rfl) ?_
  refine pw_iload_n dX12_lay_8 rfl ?_
  refine pw_iast dX12_lay_9 (hS.at rfl rfl rfl) (by decide) hn (hS.lt rfl rfl hn2 rfl) (by omega) ?_
  refine pw_aload_n dX12_lay_10 rfl ?_
  refine pw_dup dX12_lay_11 rfl ?_
  refine pw_getI dX12_lay_12 flX12_225 rfl (hS.at rfl rfl rfl) ?_
  rw [e]
  refine pw_iconst (v := 1) dX12_lay_15 (by decide) ?_
  refine pw_iadd dX12_lay_16 ?_
  refine pw_putI dX12_lay_17 flX12_225 ⟨_, rfl, Or.inl rfl⟩ rfl (hS.at rfl rfl rfl) ?_
  refine pw_vret dX12_lay_20 rfl ?_
  exact ⟨rfl, rfl⟩
theorem s_layq {d al L i : Nat} {σ : pm_S} {c : Nat → Nat} {S : List Nat} (h : mdC σ c L) (hq : mQ_ σ c L i S) (hn : S.length < 620) (x : Nat) : PM d al MX12_lay [.ref 43, .int (nI x)] σ (fun v τ => v = none ∧ mdS σ τ ∧ mQ_ τ c L i (S ++ [x]) ∧ qI τ 43 38 = qI σ 43 38) := by
  obtain ⟨q1, q2, q3, q4, q5, q6, q7⟩ := hq
  refine PW.post ?_ (s_lay h.1 q6 hn (nI x))
  rintro v τ ⟨rfl, rfl⟩
  have e43 : ∀ j, j ≠ 23 → qI (m_lay σ S.length (nI x)) 43 j = qI σ 43 j := fun j hj => by unfold m_lay; rw [qI_sI_ne (by omega), qI_sI_nc (by decide)]
  refine ⟨rfl, ⟨rfl, fun b j a1 a2 => by unfold m_lay; rw [qI_sI_ne (by omega), qI_sI_nc (by omega)]⟩, ⟨by rw [e43 _ (by decide)]; exact q1, by rw [e43 _ (by decide)]; exact q2, by rw [e43 _ (by decide)]; exact q3, fun z => by rw [e43 _ (by decide)]; exact q4 z, by rw [e43 _ (by decide)]; exact q5, ?_, fun m hm => ?_⟩, e43 _ (by decide)⟩
  · unfold m_lay
    rw [qI_sI_eq, List.length_append, show S.length + [x].length = S.length + 1 from rfl, nI_succ]
  · rw [List.length_append] at hm
    have hm : m < S.length + 1 := hm
    unfold m_lay
    rw [qI_sI_nc (by decide)]
    by_cases z : m = S.length
    · subst z
      have := getD_app_r S [x] 0 0
      rw [Nat.add_zero] at this
      rw [this, qI_sI_eq]; rfl
    · rw [getD_app_l _ _ _ (by omega), qI_sI_ne (by omega)]
      exact q7 m (by omega)
theorem s_nxt {d al L i : Nat} {σ : pm_S} {c : Nat → Nat} {S : List Nat} (hd : 2 ≤ d) (h : mdC σ c L) (hq : mQ_ σ c L i S) : PM d al MX12_next0 [.ref 43] σ (fun v τ => v = none ∧ mdS σ τ ∧ mQ_ τ c L (i + 1) S ∧ qI τ 43 38 = qI σ 43 38) := by
  obtain ⟨q1, q2, q3, q4, q5, q6, q7⟩ := hq
  refine PW.post ?_ (s_next0 hd h.1 h.2 (ps_le c L (i + 1)) q1)
  rintro v τ ⟨rfl, w1, w2, w3, w4, w5, w6⟩
  exact ⟨rfl, ⟨w1, fun b j a1 a2 => w2 b j (by omega)⟩, ⟨w3, w4, w5, fun z => w6 z, by rw [w2 43 35 (by omega)]; exact q5, by rw [w2 43 23 (by omega)]; exact q6, fun m hm => by rw [w2 64 m (by omega)]; exact q7 m hm⟩, w2 43 38 (by omega)⟩
theorem s_needq {d al L i o : Nat} {σ : pm_S} {c : Nat → Nat} {S : List Nat} {w : Int32} {t : Nat} (hd : 3 ≤ d) (h : mdC σ c L) (hq : mO_ σ c L i o S) (hw : nI (mtk (tk c L i)) = w ↔ tk c L i = t) : PM d al MX12_need [.ref 43, .int w] σ (fun v τ => mdS σ τ ∧ if tk c L i = t then v = some (.int 1) ∧ mO_ τ c L (i + 1) o S else v = some (.int 0) ∧ mB_ τ c L (1, i)) := by
  have hS := h.1
  have q2 := hq.1.2.1
  show PW _ _ _ _ _ _ _ _
  by_cases z : tk c L i = t
  · skip
    refine pw_aload_n dX12_need_0 rfl ?_
    refine pw_getI dX12_need_1 flX12_197 rfl (hS.at rfl rfl rfl) ?_
    rw [q2]
    refine pw_iload_n dX12_need_4 rfl ?_
    refine pw_icmp_eq (tgt := 14) dX12_need_5 (by decide) (fun h5 => ?_) (fun h5 => ?_)
    · refine pw_aload_n dX12_need_14 rfl ?_
      refine pw_cV0 (d1 := d - 1) (a1 := 0) (a2 := al) dX12_need_15 mtX12_next0 ivX12_next0 mlX12_222 (Nat.le_of_ble_eq_true rfl) (Nat.le_of_ble_eq_true rfl) (by omega) (by omega) (hS.at rfl rfl rfl) rfl rfl (s_nxt (by omega) h hq.1) ?_
      rintro r_ τ1 ⟨hr_, hs1, ho1, hd1⟩; subst r_
      refine pw_iconst (v := 1) dX12_need_18 (by decide) ?_
      refine pw_iret dX12_need_19 rfl (by first | rfl | exact bI_nar) ?_
      exact ⟨hs1, by rw [if_pos z]; exact ⟨rfl, ho1, hd1.trans hq.2⟩⟩
    · exact absurd (hw.mpr z) h5
  · skip
    refine pw_aload_n dX12_need_0 rfl ?_
    refine pw_getI dX12_need_1 flX12_197 rfl (hS.at rfl rfl rfl) ?_
    rw [q2]
    refine pw_iload_n dX12_need_4 rfl ?_
    refine pw_icmp_eq (tgt := 14) dX12_need_5 (by decide) (fun h5 => ?_) (fun h5 => ?_)
    · exact absurd (hw.mp h5) z
    · refine pw_aload_n dX12_need_8 rfl ?_
      refine pw_iconst (v := 1) dX12_need_9 (by decide) ?_
      refine pw_cV1 (d1 := d - 1) (a1 := 0) (a2 := al) dX12_need_10 mtX12_bad ivX12_bad mlX12_219 (Nat.le_of_ble_eq_true rfl) (Nat.le_of_ble_eq_true rfl) (by omega) (by omega) (hS.at rfl rfl rfl) rfl rfl (s_badq h hq.1 1) ?_
      rintro r_ τ1 ⟨hr_, hs1, hb1⟩; subst r_
      refine pw_iret dX12_need_13 rfl (by first | rfl | exact bI_nar) ?_
      exact ⟨hs1, by rw [if_neg z]; exact ⟨rfl, hb1⟩⟩
theorem s_opens0 {d al L i : Nat} {σ : pm_S} {c : Nat → Nat} {S : List Nat} (hd : 3 ≤ d) (h : mdC σ c L) (hq : mO_ σ c L i 0 S) : PM d al MX12_opens [.ref 43] σ (fun v τ => v = some (.int 0) ∧ mdS σ τ ∧ mB_ τ c L (2, i)) := by
  have hS := h.1
  have q3 : qI σ 43 38 = 8 := hq.2
  show PW _ _ _ _ _ _ _ _
  refine pw_aload_n dX12_opens_0 rfl ?_
  refine pw_getI dX12_opens_1 flX12_228 rfl (hS.at rfl rfl rfl) ?_
  rw [q3]
  refine pw_bipush (v := 8) dX12_opens_4 (by decide) ?_
  refine pw_icmp_ne (tgt := 15) dX12_opens_6 (by decide) (fun h6 => ?_) (fun h6 => ?_)
  · exact absurd rfl h6
  · refine pw_aload_n dX12_opens_9 rfl ?_
    refine pw_iconst (v := 2) dX12_opens_10 (by decide) ?_
    refine pw_cV1 (d1 := d - 1) (a1 := 0) (a2 := al) dX12_opens_11 mtX12_bad ivX12_bad mlX12_219 (Nat.le_of_ble_eq_true rfl) (Nat.le_of_ble_eq_true rfl) (by omega) (by omega) (hS.at rfl rfl rfl) rfl rfl (s_badq h hq.1 2) ?_
    rintro r_ τ1 ⟨hr_, hs1, hb1⟩; subst r_
    refine pw_iret dX12_opens_14 rfl (by first | rfl | exact bI_nar) ?_
    exact ⟨rfl, hs1, hb1⟩
theorem s_opens1 {d al L i o : Nat} {σ : pm_S} {c : Nat → Nat} {S : List Nat} (hd : 3 ≤ d) (ho : o < 8) (h : mdC σ c L) (hq : mO_ σ c L i (o + 1) S) : PM d al MX12_opens [.ref 43] σ (fun v τ => v = some (.int 1) ∧ mdS σ τ ∧ mO_ τ c L (i + 1) o S) := by
  have hS := h.1
  have q3 : qI σ 43 38 = nI (8 - (o + 1)) := hq.2
  have hne : ¬ nI (8 - (o + 1)) = 8 := fun z => by have := nI_inj (b := 8) (by omega) (by decide) z; omega
  have hm : mdS σ (pm_sI σ 43 38 (nI (8 - (o + 1)) + 1)) := ⟨rfl, fun b j a1 a2 => qI_sI_ne (by omega)⟩
  have hq1 : mQ_ (pm_sI σ 43 38 (nI (8 - (o + 1)) + 1)) c L i S := by
    obtain ⟨q1, q2, q3, q4, q5, q6, q7⟩ := hq.1
    exact ⟨(qI_sI_ne (by decide)).trans q1, (qI_sI_ne (by decide)).trans q2, (qI_sI_ne (by decide)).trans q3, fun z => (qI_sI_ne (by decide)).trans (q4 z), (qI_sI_ne (by decide)).trans q5, (qI_sI_ne (by decide)).trans q6, fun m hm => (qI_sI_nc (by decide)).trans (q7 m hm)⟩
  have e8 : qI (pm_sI σ 43 38 (nI (8 - (o + 1)) + 1)) 43 38 = nI (8 - o) := by
    rw [qI_sI_eq, ← nI_succ, show 8 - (o + 1) + 1 = 8 - o by omega]
  show PW _ _ _ _ _ _ _ _
  refine pw_aload_n dX12_opens_0 rfl ?_
  refine pw_getI dX12_opens_1 flX12_228 rfl (hS.at rfl rfl rfl) ?_
  rw [q3]
  refine pw_bipush (v := 8) dX12_opens_4 (by decide) ?_
  refine pw_icmp_ne (tgt := 15) dX12_opens_6 (by decide) (fun h6 => ?_) (fun h6 => ?_)
  · refine pw_aload_n dX12_opens_15 rfl ?_
    refine pw_dup dX12_opens_16 rfl ?_
    refine pw_getI dX12_opens_17 flX12_228 rfl (hS.at rfl rfl rfl) ?_
    rw [q3]
    refine pw_iconst (v := 1) dX12_opens_20 (by decide) ?_
    refine pw_iadd dX12_opens_21 ?_
    refine pw_putI dX12_opens_22 flX12_228 ⟨_, rfl, Or.inl rfl⟩ rfl (hS.at rfl rfl rfl) ?_
    refine pw_aload_n dX12_opens_25 rfl ?_
    refine pw_cV0 (d1 := d - 1) (a1 := 0) (a2 := al) dX12_opens_26 mtX12_next0 ivX12_next0 mlX12_222 (Nat.le_of_ble_eq_true rfl) (Nat.le_of_ble_eq_true rfl) (by omega) (by omega) (hS.at rfl rfl rfl) rfl rfl (s_nxt (by omega) (h.of hm) hq1) ?_
    rintro r_ τ1 ⟨hr_, hs1, ho1, hd1⟩; subst r_
    refine pw_iconst (v := 1) dX12_opens_29 (by decide) ?_
    refine pw_iret dX12_opens_30 rfl (by first | rfl | exact bI_nar) ?_
    exact ⟨rfl, hm.tr hs1, ho1, hd1.trans e8⟩
  · exact absurd h6 hne
theorem tm_lay : ∀ a, a < 4 → ∀ b, b < 5 → 10000 + nI (mtk (a + 6)) - 400 + nI (mtk (b + 10)) - 300 = nI (mterm (10002 + a * 5 + b)) := by decide +kernel
/-- what reading a term comes to -/
def MTs (σ τ : pm_S) (c : Nat → Nat) (L o : Nat) (S : List Nat) (v : Option Value) (R : Except (Nat × Nat) (Nat × Nat)) : Prop := mdS σ τ ∧ match R with
  | .ok (j, y) => v = some (.int 1) ∧ mO_ τ c L j o (S ++ [mterm y])
  | .error e => v = some (.int 0) ∧ mB_ τ c L e
theorem s_term {d al L i o : Nat} {σ : pm_S} {c : Nat → Nat} {S : List Nat} (hd : 4 ≤ d) (h : mdC σ c L) (hq : mO_ σ c L i o S) (hn : S.length < 610) : PM d al MX12_term [.ref 43] σ (fun v τ => MTs σ τ c L o S v (pT (tk c L) (vN c L) i)) := by
  have hS := h.1
  have ht := tk_le c L i
  have q2 := hq.1.2.1
  have q4 := hq.1.2.2.2.1
  obtain ⟨⟨-, e2, -, -, -, -, e7, e8⟩, ⟨e400, -⟩, -⟩ := mk_all (tk c L i) (by omega)
  show PW _ _ _ _ _ _ _ _
  unfold pT
  by_cases z1 : tk c L i = 21
  · rw [if_pos z1]
    obtain ⟨v1, v2⟩ := vN_ok z1
    have hv : qI σ 43 34 = nI (vN c L i) := (q4 z1).trans v1
    have hm : mterm (vN c L i) = vN c L i := if_pos v2
    refine pw_aload_n dX12_term_0 rfl ?_
    refine pw_getI dX12_term_1 flX12_197 rfl (hS.at rfl rfl rfl) ?_
    rw [q2]
    refine pw_istore_n dX12_term_4 (Nat.le_of_ble_eq_true rfl) (Nat.le_of_ble_eq_true rfl) rfl ?_
    refine pw_iload_n dX12_term_5 rfl ?_
    refine pw_iconst (v := 2) dX12_term_6 (by decide) ?_
    refine pw_icmp_ne (tgt := 21) dX12_term_7 (by decide) (fun h7 => ?_) (fun h7 => ?_)
    · exact absurd (e2.mpr z1) h7
    · refine pw_aload_n dX12_term_10 rfl ?_
      refine pw_aload_n dX12_term_11 rfl ?_
      refine pw_getI dX12_term_12 flX12_210 rfl (hS.at rfl rfl rfl) ?_
      rw [hv]
      refine pw_cV1 (d1 := d - 1) (a1 := 0) (a2 := al) dX12_term_15 mtX12_lay ivX12_lay mlX12_235 (Nat.le_of_ble_eq_true rfl) (Nat.le_of_ble_eq_true rfl) (by omega) (by omega) (hS.at rfl rfl rfl) rfl rfl (s_layq h hq.1 (by omega) (vN c L i)) ?_
      rintro r_ τ1 ⟨hr_, hs1, ho1, hd1⟩; subst r_
      refine pw_goto (tgt := 66) dX12_term_18 (by decide) ?_
      refine pw_aload_n dX12_term_66 rfl ?_
      refine pw_cV0 (d1 := d - 1) (a1 := 0) (a2 := al) dX12_term_67 mtX12_next0 ivX12_next0 mlX12_222 (Nat.le_of_ble_eq_true rfl) (Nat.le_of_ble_eq_true rfl) (by omega) (by omega) ((h.of hs1).1.at rfl rfl rfl) rfl rfl (s_nxt (by omega) (h.of hs1) ho1) ?_
      rintro r_ τ2 ⟨hr_, hs2, ho2, hd2⟩; subst r_
      refine pw_iload_n dX12_term_70 rfl ?_
      refine pw_sipush (v := 400) dX12_term_71 (by decide) ?_
      refine pw_icmp_ge (tgt := 79) dX12_term_74 (by decide) (fun h74 => ?_) (fun h74 => ?_)
      · exact absurd (e400.mp h74) (by omega)
      · refine pw_iconst (v := 1) dX12_term_77 (by decide) ?_
        refine pw_iret dX12_term_78 rfl (by first | rfl | exact bI_nar) ?_
        exact ⟨hs1.tr hs2, rfl, by rw [hm]; exact ho2, (hd2.trans hd1).trans hq.2⟩
  · rw [if_neg z1]
    by_cases z2 : tk c L i = 4
    · rw [if_pos z2]
      refine pw_aload_n dX12_term_0 rfl ?_
      refine pw_getI dX12_term_1 flX12_197 rfl (hS.at rfl rfl rfl) ?_
      rw [q2]
      refine pw_istore_n dX12_term_4 (Nat.le_of_ble_eq_true rfl) (Nat.le_of_ble_eq_true rfl) rfl ?_
      refine pw_iload_n dX12_term_5 rfl ?_
      refine pw_iconst (v := 2) dX12_term_6 (by decide) ?_
      refine pw_icmp_ne (tgt := 21) dX12_term_7 (by decide) (fun h7 => ?_) (fun h7 => ?_)
      · refine pw_iload_n dX12_term_21 rfl ?_
        refine pw_bipush (v := 7) dX12_term_22 (by decide) ?_
        refine pw_icmp_ne (tgt := 37) dX12_term_24 (by decide) (fun h24 => ?_) (fun h24 => ?_)
        · exact absurd (e7.mpr z2) h24
        · refine pw_aload_n dX12_term_27 rfl ?_
          refine pw_sipush (v := 10001) dX12_term_28 (by decide) ?_
          refine pw_cV1 (d1 := d - 1) (a1 := 0) (a2 := al) dX12_term_31 mtX12_lay ivX12_lay mlX12_235 (Nat.le_of_ble_eq_true rfl) (Nat.le_of_ble_eq_true rfl) (by omega) (by omega) (hS.at rfl rfl rfl) rfl rfl (s_layq h hq.1 (by omega) 10001) ?_
          rintro r_ τ1 ⟨hr_, hs1, ho1, hd1⟩; subst r_
          refine pw_goto (tgt := 66) dX12_term_34 (by decide) ?_
          refine pw_aload_n dX12_term_66 rfl ?_
          refine pw_cV0 (d1 := d - 1) (a1 := 0) (a2 := al) dX12_term_67 mtX12_next0 ivX12_next0 mlX12_222 (Nat.le_of_ble_eq_true rfl) (Nat.le_of_ble_eq_true rfl) (by omega) (by omega) ((h.of hs1).1.at rfl rfl rfl) rfl rfl (s_nxt (by omega) (h.of hs1) ho1) ?_
          rintro r_ τ2 ⟨hr_, hs2, ho2, hd2⟩; subst r_
          refine pw_iload_n dX12_term_70 rfl ?_
          refine pw_sipush (v := 400) dX12_term_71 (by decide) ?_
          refine pw_icmp_ge (tgt := 79) dX12_term_74 (by decide) (fun h74 => ?_) (fun h74 => ?_)
          · exact absurd (e400.mp h74) (by omega)
          · refine pw_iconst (v := 1) dX12_term_77 (by decide) ?_
            refine pw_iret dX12_term_78 rfl (by first | rfl | exact bI_nar) ?_
            exact ⟨hs1.tr hs2, rfl, ho2, (hd2.trans hd1).trans hq.2⟩
      · exact absurd (e2.mp h7) z1
    · rw [if_neg z2]
      by_cases z3 : tk c L i = 5
      · rw [if_pos z3]
        refine pw_aload_n dX12_term_0 rfl ?_
        refine pw_getI dX12_term_1 flX12_197 rfl (hS.at rfl rfl rfl) ?_
        rw [q2]
        refine pw_istore_n dX12_term_4 (Nat.le_of_ble_eq_true rfl) (Nat.le_of_ble_eq_true rfl) rfl ?_
        refine pw_iload_n dX12_term_5 rfl ?_
        refine pw_iconst (v := 2) dX12_term_6 (by decide) ?_
        refine pw_icmp_ne (tgt := 21) dX12_term_7 (by decide) (fun h7 => ?_) (fun h7 => ?_)
        · refine pw_iload_n dX12_term_21 rfl ?_
          refine pw_bipush (v := 7) dX12_term_22 (by decide) ?_
          refine pw_icmp_ne (tgt := 37) dX12_term_24 (by decide) (fun h24 => ?_) (fun h24 => ?_)
          · refine pw_iload_n dX12_term_37 rfl ?_
            refine pw_bipush (v := 8) dX12_term_38 (by decide) ?_
            refine pw_icmp_ne (tgt := 53) dX12_term_40 (by decide) (fun h40 => ?_) (fun h40 => ?_)
            · exact absurd (e8.mpr z3) h40
            · refine pw_aload_n dX12_term_43 rfl ?_
              refine pw_sipush (v := 10002) dX12_term_44 (by decide) ?_
              refine pw_cV1 (d1 := d - 1) (a1 := 0) (a2 := al) dX12_term_47 mtX12_lay ivX12_lay mlX12_235 (Nat.le_of_ble_eq_true rfl) (Nat.le_of_ble_eq_true rfl) (by omega) (by omega) (hS.at rfl rfl rfl) rfl rfl (s_layq h hq.1 (by omega) 10002) ?_
              rintro r_ τ1 ⟨hr_, hs1, ho1, hd1⟩; subst r_
              refine pw_goto (tgt := 66) dX12_term_50 (by decide) ?_
              refine pw_aload_n dX12_term_66 rfl ?_
              refine pw_cV0 (d1 := d - 1) (a1 := 0) (a2 := al) dX12_term_67 mtX12_next0 ivX12_next0 mlX12_222 (Nat.le_of_ble_eq_true rfl) (Nat.le_of_ble_eq_true rfl) (by omega) (by omega) ((h.of hs1).1.at rfl rfl rfl) rfl rfl (s_nxt (by omega) (h.of hs1) ho1) ?_
              rintro r_ τ2 ⟨hr_, hs2, ho2, hd2⟩; subst r_
              refine pw_iload_n dX12_term_70 rfl ?_
              refine pw_sipush (v := 400) dX12_term_71 (by decide) ?_
              refine pw_icmp_ge (tgt := 79) dX12_term_74 (by decide) (fun h74 => ?_) (fun h74 => ?_)
              · exact absurd (e400.mp h74) (by omega)
              · refine pw_iconst (v := 1) dX12_term_77 (by decide) ?_
                refine pw_iret dX12_term_78 rfl (by first | rfl | exact bI_nar) ?_
                exact ⟨hs1.tr hs2, rfl, ho2, (hd2.trans hd1).trans hq.2⟩
          · exact absurd (e7.mp h24) z2
        · exact absurd (e2.mp h7) z1
      · rw [if_neg z3]
        by_cases z4 : 6 ≤ tk c L i ∧ tk c L i ≤ 9
        · rw [if_pos z4]
          have ht1 := tk_le c L (i + 1)
          obtain ⟨-, ⟨-, e300⟩, -⟩ := mk_all (tk c L (i + 1)) (by omega)
          by_cases z5 : 10 ≤ tk c L (i + 1) ∧ tk c L (i + 1) ≤ 14
          · rw [if_pos z5]
            have hl := tm_lay (tk c L i - 6) (by omega) (tk c L (i + 1) - 10) (by omega)
            rw [show tk c L i - 6 + 6 = tk c L i by omega, show tk c L (i + 1) - 10 + 10 = tk c L (i + 1) by omega] at hl
            refine pw_aload_n dX12_term_0 rfl ?_
            refine pw_getI dX12_term_1 flX12_197 rfl (hS.at rfl rfl rfl) ?_
            rw [q2]
            refine pw_istore_n dX12_term_4 (Nat.le_of_ble_eq_true rfl) (Nat.le_of_ble_eq_true rfl) rfl ?_
            refine pw_iload_n dX12_term_5 rfl ?_
            refine pw_iconst (v := 2) dX12_term_6 (by decide) ?_
            refine pw_icmp_ne (tgt := 21) dX12_term_7 (by decide) (fun h7 => ?_) (fun h7 => ?_)
            · refine pw_iload_n dX12_term_21 rfl ?_
              refine pw_bipush (v := 7) dX12_term_22 (by decide) ?_
              refine pw_icmp_ne (tgt := 37) dX12_term_24 (by decide) (fun h24 => ?_) (fun h24 => ?_)
              · refine pw_iload_n dX12_term_37 rfl ?_
                refine pw_bipush (v := 8) dX12_term_38 (by decide) ?_
                refine pw_icmp_ne (tgt := 53) dX12_term_40 (by decide) (fun h40 => ?_) (fun h40 => ?_)
                · refine pw_iload_n dX12_term_53 rfl ?_
                  refine pw_sipush (v := 400) dX12_term_54 (by decide) ?_
                  refine pw_icmp_ge (tgt := 66) dX12_term_57 (by decide) (fun h57 => ?_) (fun h57 => ?_)
                  · refine pw_aload_n dX12_term_66 rfl ?_
                    refine pw_cV0 (d1 := d - 1) (a1 := 0) (a2 := al) dX12_term_67 mtX12_next0 ivX12_next0 mlX12_222 (Nat.le_of_ble_eq_true rfl) (Nat.le_of_ble_eq_true rfl) (by omega) (by omega) (hS.at rfl rfl rfl) rfl rfl (s_nxt (by omega) h hq.1) ?_
                    rintro r_ τ1 ⟨hr_, hs1, ho1, hd1⟩; subst r_
                    refine pw_iload_n dX12_term_70 rfl ?_
                    refine pw_sipush (v := 400) dX12_term_71 (by decide) ?_
                    refine pw_icmp_ge (tgt := 79) dX12_term_74 (by decide) (fun h74 => ?_) (fun h74 => ?_)
                    · refine pw_aload_n dX12_term_79 rfl ?_
                      refine pw_getI dX12_term_80 flX12_197 rfl ((h.of hs1).1.at rfl rfl rfl) ?_
                      rw [ho1.2.1]
                      refine pw_sipush (v := 300) dX12_term_83 (by decide) ?_
                      refine pw_sipush (v := 304) dX12_term_86 (by decide) ?_
                      refine pw_cS3 (d1 := d - 1) (a1 := 0) (a2 := al) dX12_term_89 mtX12_isIn stX12_isIn mlX12_86 (Nat.le_of_ble_eq_true rfl) (Nat.le_of_ble_eq_true rfl) (by omega) (by omega) (s_isIn _ _ _) ?_
                      rintro r_ τ_ ⟨hr_, ht_⟩; subst r_; subst τ_
                      refine pw_if_ne (tgt := 101) dX12_term_92 (by decide) (fun h92 => ?_) (fun h92 => ?_)
                      · refine pw_aload_n dX12_term_101 rfl ?_
                        refine pw_sipush (v := 10000) dX12_term_102 (by decide) ?_
                        refine pw_iload_n dX12_term_105 rfl ?_
                        refine pw_iadd dX12_term_106 ?_
                        refine pw_sipush (v := 400) dX12_term_107 (by decide) ?_
                        refine pw_isub dX12_term_110 ?_
                        refine pw_aload_n dX12_term_111 rfl ?_
                        refine pw_getI dX12_term_112 flX12_197 rfl ((h.of hs1).1.at rfl rfl rfl) ?_
                        rw [ho1.2.1]
                        refine pw_iadd dX12_term_115 ?_
                        refine pw_sipush (v := 300) dX12_term_116 (by decide) ?_
                        refine pw_isub dX12_term_119 ?_
                        rw [hl]
                        refine pw_cV1 (d1 := d - 1) (a1 := 0) (a2 := al) dX12_term_120 mtX12_lay ivX12_lay mlX12_235 (Nat.le_of_ble_eq_true rfl) (Nat.le_of_ble_eq_true rfl) (by omega) (by omega) ((h.of hs1).1.at rfl rfl rfl) rfl rfl (s_layq (h.of hs1) ho1 (by omega) _) ?_
                        rintro r_ τ2 ⟨hr_, hs2, ho2, hd2⟩; subst r_
                        refine pw_aload_n dX12_term_123 rfl ?_
                        refine pw_cV0 (d1 := d - 1) (a1 := 0) (a2 := al) dX12_term_124 mtX12_next0 ivX12_next0 mlX12_222 (Nat.le_of_ble_eq_true rfl) (Nat.le_of_ble_eq_true rfl) (by omega) (by omega) (((h.of hs1).of hs2).1.at rfl rfl rfl) rfl rfl (s_nxt (by omega) ((h.of hs1).of hs2) ho2) ?_
                        rintro r_ τ3 ⟨hr_, hs3, ho3, hd3⟩; subst r_
                        refine pw_iconst (v := 1) dX12_term_127 (by decide) ?_
                        refine pw_iret dX12_term_128 rfl (by first | rfl | exact bI_nar) ?_
                        exact ⟨(hs1.tr hs2).tr hs3, rfl, ho3, ((hd3.trans hd2).trans hd1).trans hq.2⟩
                      · exact absurd (e300.mpr z5) (bI_0.mp h92)
                    · exact absurd (e400.mpr z4) h74
                  · exact absurd (e400.mpr z4) h57
                · exact absurd (e8.mp h40) z3
              · exact absurd (e7.mp h24) z2
            · exact absurd (e2.mp h7) z1
          · rw [if_neg z5]
            refine pw_aload_n dX12_term_0 rfl ?_
            refine pw_getI dX12_term_1 flX12_197 rfl (hS.at rfl rfl rfl) ?_
            rw [q2]
            refine pw_istore_n dX12_term_4 (Nat.le_of_ble_eq_true rfl) (Nat.le_of_ble_eq_true rfl) rfl ?_
            refine pw_iload_n dX12_term_5 rfl ?_
            refine pw_iconst (v := 2) dX12_term_6 (by decide) ?_
            refine pw_icmp_ne (tgt := 21) dX12_term_7 (by decide) (fun h7 => ?_) (fun h7 => ?_)
            · refine pw_iload_n dX12_term_21 rfl ?_
              refine pw_bipush (v := 7) dX12_term_22 (by decide) ?_
              refine pw_icmp_ne (tgt := 37) dX12_term_24 (by decide) (fun h24 => ?_) (fun h24 => ?_)
              · refine pw_iload_n dX12_term_37 rfl ?_
                refine pw_bipush (v := 8) dX12_term_38 (by decide) ?_
                refine pw_icmp_ne (tgt := 53) dX12_term_40 (by decide) (fun h40 => ?_) (fun h40 => ?_)
                · refine pw_iload_n dX12_term_53 rfl ?_
                  refine pw_sipush (v := 400) dX12_term_54 (by decide) ?_
                  refine pw_icmp_ge (tgt := 66) dX12_term_57 (by decide) (fun h57 => ?_) (fun h57 => ?_)
                  · refine pw_aload_n dX12_term_66 rfl ?_
                    refine pw_cV0 (d1 := d - 1) (a1 := 0) (a2 := al) dX12_term_67 mtX12_next0 ivX12_next0 mlX12_222 (Nat.le_of_ble_eq_true rfl) (Nat.le_of_ble_eq_true rfl) (by omega) (by omega) (hS.at rfl rfl rfl) rfl rfl (s_nxt (by omega) h hq.1) ?_
                    rintro r_ τ1 ⟨hr_, hs1, ho1, hd1⟩; subst r_
                    refine pw_iload_n dX12_term_70 rfl ?_
                    refine pw_sipush (v := 400) dX12_term_71 (by decide) ?_
                    refine pw_icmp_ge (tgt := 79) dX12_term_74 (by decide) (fun h74 => ?_) (fun h74 => ?_)
                    · refine pw_aload_n dX12_term_79 rfl ?_
                      refine pw_getI dX12_term_80 flX12_197 rfl ((h.of hs1).1.at rfl rfl rfl) ?_
                      rw [ho1.2.1]
                      refine pw_sipush (v := 300) dX12_term_83 (by decide) ?_
                      refine pw_sipush (v := 304) dX12_term_86 (by decide) ?_
                      refine pw_cS3 (d1 := d - 1) (a1 := 0) (a2 := al) dX12_term_89 mtX12_isIn stX12_isIn mlX12_86 (Nat.le_of_ble_eq_true rfl) (Nat.le_of_ble_eq_true rfl) (by omega) (by omega) (s_isIn _ _ _) ?_
                      rintro r_ τ_ ⟨hr_, ht_⟩; subst r_; subst τ_
                      refine pw_if_ne (tgt := 101) dX12_term_92 (by decide) (fun h92 => ?_) (fun h92 => ?_)
                      · exact absurd (e300.mp (bI_n.mp h92)) z5
                      · refine pw_aload_n dX12_term_95 rfl ?_
                        refine pw_iconst (v := 1) dX12_term_96 (by decide) ?_
                        refine pw_cV1 (d1 := d - 1) (a1 := 0) (a2 := al) dX12_term_97 mtX12_bad ivX12_bad mlX12_219 (Nat.le_of_ble_eq_true rfl) (Nat.le_of_ble_eq_true rfl) (by omega) (by omega) ((h.of hs1).1.at rfl rfl rfl) rfl rfl (s_badq (h.of hs1) ho1 1) ?_
                        rintro r_ τ2 ⟨hr_, hs2, hb2⟩; subst r_
                        refine pw_iret dX12_term_100 rfl (by first | rfl | exact bI_nar) ?_
                        exact ⟨hs1.tr hs2, rfl, hb2⟩
                    · exact absurd (e400.mpr z4) h74
                  · exact absurd (e400.mpr z4) h57
                · exact absurd (e8.mp h40) z3
              · exact absurd (e7.mp h24) z2
            · exact absurd (e2.mp h7) z1
        · rw [if_neg z4]
          refine pw_aload_n dX12_term_0 rfl ?_
          refine pw_getI dX12_term_1 flX12_197 rfl (hS.at rfl rfl rfl) ?_
          rw [q2]
          refine pw_istore_n dX12_term_4 (Nat.le_of_ble_eq_true rfl) (Nat.le_of_ble_eq_true rfl) rfl ?_
          refine pw_iload_n dX12_term_5 rfl ?_
          refine pw_iconst (v := 2) dX12_term_6 (by decide) ?_
          refine pw_icmp_ne (tgt := 21) dX12_term_7 (by decide) (fun h7 => ?_) (fun h7 => ?_)
          · refine pw_iload_n dX12_term_21 rfl ?_
            refine pw_bipush (v := 7) dX12_term_22 (by decide) ?_
            refine pw_icmp_ne (tgt := 37) dX12_term_24 (by decide) (fun h24 => ?_) (fun h24 => ?_)
            · refine pw_iload_n dX12_term_37 rfl ?_
              refine pw_bipush (v := 8) dX12_term_38 (by decide) ?_
              refine pw_icmp_ne (tgt := 53) dX12_term_40 (by decide) (fun h40 => ?_) (fun h40 => ?_)
              · refine pw_iload_n dX12_term_53 rfl ?_
                refine pw_sipush (v := 400) dX12_term_54 (by decide) ?_
                refine pw_icmp_ge (tgt := 66) dX12_term_57 (by decide) (fun h57 => ?_) (fun h57 => ?_)
                · exact absurd (e400.mp h57) z4
                · refine pw_aload_n dX12_term_60 rfl ?_
                  refine pw_iconst (v := 1) dX12_term_61 (by decide) ?_
                  refine pw_cV1 (d1 := d - 1) (a1 := 0) (a2 := al) dX12_term_62 mtX12_bad ivX12_bad mlX12_219 (Nat.le_of_ble_eq_true rfl) (Nat.le_of_ble_eq_true rfl) (by omega) (by omega) (hS.at rfl rfl rfl) rfl rfl (s_badq h hq.1 1) ?_
                  rintro r_ τ1 ⟨hr_, hs1, hb1⟩; subst r_
                  refine pw_iret dX12_term_65 rfl (by first | rfl | exact bI_nar) ?_
                  exact ⟨hs1, rfl, hb1⟩
              · exact absurd (e8.mp h40) z3
            · exact absurd (e7.mp h24) z2
          · exact absurd (e2.mp h7) z1
