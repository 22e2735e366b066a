/-! ===== the class: the tape cut into tokens ===== -/
def tkI (σ : pm_S) (c : Nat → Nat) (L k : Nat) (τ : pm_S) : Prop := τ.2 = σ.2 ∧ (∀ b j, b ≠ 30 → b ≠ 31 → b ≠ 32 → b ≠ 33 → qI τ b j = qI σ b j) ∧ qI τ 30 4 = nI k ∧ ∀ j, j < k → qI τ 31 j = nI (tk c L j) ∧ qI τ 32 j = nI (sn c L j) ∧ qI τ 33 j = vl c L j
theorem fix_of2 {σ τ : pm_S} (h : τ.2 = σ.2) (hS : pm_fix σ) : pm_fix τ := by
  have h1 : qT τ = qT σ := by unfold qT; rw [h]
  have h2 : qL τ = qL σ := by unfold qL; rw [h]
  have h3 : qN τ = qN σ := by unfold qN; rw [h]
  have h4 : qR τ = qR σ := by unfold qR; rw [h]
  exact hS.to h1 h2 h3 h4
theorem is_of2 {σ τ : pm_S} (h : τ.2 = σ.2) {a t : Nat} (ha : pm_is σ a t) : pm_is τ a t := by
  unfold pm_is qN qT at *
  rw [h]; exact ha
theorem sT_of2 {σ τ : pm_S} (h : τ.2 = σ.2) (hI : ∀ b j, b ≤ 5 → qI τ b j = qI σ b j) {a b n : Nat} (hs : sT σ a b n) : sT τ a b n := by
  obtain ⟨h1, h2, h3, h4, h5, h6, h7⟩ := hs
  refine ⟨h1, is_of2 h h2, ?_, by rw [hI a 1 (by omega)]; exact h4, is_of2 h h5, ?_, h7⟩
  · have e : qR τ = qR σ := by unfold qR; rw [h]
    rw [e]; exact h3
  · have e : qL τ = qL σ := by unfold qL; rw [h]
    rw [e]; exact h6
theorem jdC_of2 {σ τ : pm_S} (h : τ.2 = σ.2) (hI : ∀ b j, b ≤ 5 → qI τ b j = qI σ b j) (hs : jdC σ) : jdC τ := ⟨sT_of2 h hI hs.1, sT_of2 h hI hs.2.1, fun k hk => by rw [hI 4 k (by omega)]; exact hs.2.2.1 k hk, fun k hk => by rw [hI 5 k (by omega)]; exact hs.2.2.2 k hk⟩
theorem tpH_of {σ τ : pm_S} {c : Nat → Nat} {L : Nat} (hI : ∀ b j, b = 17 ∨ b = 18 → qI τ b j = qI σ b j) (h : tpH σ c L) : tpH τ c L := ⟨h.1, by rw [hI 17 1 (by omega)]; exact h.2.1, fun p hp => by rw [hI 18 p (by omega)]; exact h.2.2 p hp⟩
theorem tkI_put {σ τ : pm_S} {c : Nat → Nat} {L k : Nat} (h : tkI σ c L k τ) {tok pl v : Int32} (h1 : tok = nI (tk c L k)) (h2 : pl = nI (sn c L k)) (h3 : v = vl c L k) : tkI σ c L (k + 1) (c_tp τ k tok pl v) := by
  obtain ⟨a1, a2, a3, a4⟩ := h
  refine ⟨a1, fun b j b1 b2 b3 b4 => ?_, ?_, fun j hj => ?_⟩
  · unfold c_tp
    rw [qI_sI_nc b1, qI_sI_nc b4, qI_sI_nc b3, qI_sI_nc b2]; exact a2 b j b1 b2 b3 b4
  · unfold c_tp
    rw [qI_sI_eq, nI_succ]
  · unfold c_tp
    by_cases z : j = k
    · subst z
      refine ⟨?_, ?_, ?_⟩
      · rw [qI_sI_nc (by decide), qI_sI_nc (by decide), qI_sI_nc (by decide), qI_sI_eq, h1]
      · rw [qI_sI_nc (by decide), qI_sI_nc (by decide), qI_sI_eq, h2]
      · rw [qI_sI_nc (by decide), qI_sI_eq, h3]
    · obtain ⟨c1, c2, c3⟩ := a4 j (by omega)
      refine ⟨?_, ?_, ?_⟩
      · rw [qI_sI_nc (by decide), qI_sI_nc (by decide), qI_sI_nc (by decide), qI_sI_ne (by omega)]; exact c1
      · rw [qI_sI_nc (by decide), qI_sI_nc (by decide), qI_sI_ne (by omega)]; exact c2
      · rw [qI_sI_nc (by decide), qI_sI_ne (by omega)]; exact c3
theorem ch16 : ∀ x, x < 256 → ((nI x).toUInt32 % 65536).toInt32 = nI x := by decide +kernel
theorem sg_k : ∀ x, x < 256 → ((nI 59 = (nI x).toInt8.toInt32 ↔ x = 59) ∧ (nI 40 = (nI x).toInt8.toInt32 ↔ x = 40) ∧ (nI 41 = (nI x).toInt8.toInt32 ↔ x = 41) ∧ (nI 60 = (nI x).toInt8.toInt32 ↔ x = 60) ∧ (nI 61 = (nI x).toInt8.toInt32 ↔ x = 61) ∧ (nI 62 = (nI x).toInt8.toInt32 ↔ x = 62)) := by decide +kernel
theorem ix_sg {σ : pm_S} (hJ : jdC σ) {x : Nat} (hx : x < 256) : ixF σ 5 (nI x).toInt8.toInt32 6 0 = if sg x = 23 then -1 else nI (sg x - 15) := by
  obtain ⟨k1, k2, k3, k4, k5, k6⟩ := sg_k x hx
  have e0 : qI σ 5 0 = nI 59 := hJ.2.2.2 0 (by decide)
  have e1 : qI σ 5 1 = nI 40 := hJ.2.2.2 1 (by decide)
  have e2 : qI σ 5 2 = nI 41 := hJ.2.2.2 2 (by decide)
  have e3 : qI σ 5 3 = nI 60 := hJ.2.2.2 3 (by decide)
  have e4 : qI σ 5 4 = nI 61 := hJ.2.2.2 4 (by decide)
  have e5 : qI σ 5 5 = nI 62 := hJ.2.2.2 5 (by decide)
  show (if qI σ 5 0 = _ then nI 0 else if qI σ 5 1 = _ then nI 1 else if qI σ 5 2 = _ then nI 2 else if qI σ 5 3 = _ then nI 3 else if qI σ 5 4 = _ then nI 4 else if qI σ 5 5 = _ then nI 5 else -1) = _
  rw [e0, e1, e2, e3, e4, e5]
  unfold sg
  by_cases z1 : x = 59
  · rw [if_pos (k1.mpr z1), if_pos z1]; rfl
  · rw [if_neg (fun y => z1 (k1.mp y)), if_neg z1]
    by_cases z2 : x = 40
    · rw [if_pos (k2.mpr z2), if_pos z2]; rfl
    · rw [if_neg (fun y => z2 (k2.mp y)), if_neg z2]
      by_cases z3 : x = 41
      · rw [if_pos (k3.mpr z3), if_pos z3]; rfl
      · rw [if_neg (fun y => z3 (k3.mp y)), if_neg z3]
        by_cases z4 : x = 60
        · rw [if_pos (k4.mpr z4), if_pos z4]; rfl
        · rw [if_neg (fun y => z4 (k4.mp y)), if_neg z4]
          by_cases z5 : x = 61
          · rw [if_pos (k5.mpr z5), if_pos z5]; rfl
          · rw [if_neg (fun y => z5 (k5.mp y)), if_neg z5]
            by_cases z6 : x = 62
            · rw [if_pos (k6.mpr z6), if_pos z6]; rfl
            · rw [if_neg (fun y => z6 (k6.mp y)), if_neg z6]; rfl
theorem t_cut_lp {d al L : Nat} {σ : pm_S} {c : Nat → Nat} (hd : 6 ≤ d) (hS : pm_fix σ) (hT : tpH σ c L) (hJ : jdC σ) : ∀ (f p i k : Nat) (x3 x4 : Value) (τ : pm_S), okx x3 → okx x4 → p + f = L → i ≤ p → k ≤ p → tkI σ c L k τ → nx c L (ps c L k) = nx c L p → PW d al MX10_cutTape 9 [.ref 30, .int (nI p), .int (nI i), x3, x4] [] τ (fun r ρ => r = none ∧ ∃ k, k ≤ 600 ∧ tkI σ c L k ρ ∧ nx c L (ps c L k) = (22, L, 0, L)) := by
  have hL := hT.1
  intro f
  induction f using Nat.strongRecOn with
  | ind f ih =>
  intro p i k x3 x4 τ hx3 hx4 hp hi hkp hK hnx
  have hS1 : pm_fix τ := fix_of2 hK.1 hS
  have hT1 : tpH τ c L := tpH_of (fun b j hb => hK.2.1 b j (by omega) (by omega) (by omega) (by omega)) hT
  have hJ1 : jdC τ := jdC_of2 hK.1 (fun b j hb => hK.2.1 b j (by omega) (by omega) (by omega) (by omega)) hJ
  have h17 : qI τ 17 1 = nI L := hT1.2.1
  by_cases hpL : p < L
  · have hxc := (hT.2.2 p hpL).2
    have hk601 : k < 601 := by omega
    have hps : ps c L (k + 1) = (nx c L p).2.2.2 := by rw [← hnx]; rfl
    have hs3 : sT τ 3 5 6 := hJ1.2.1
    -- the rest behind one token
    have go : ∀ (e : Nat) (v3 v4 : Value) (ρ : pm_S), okx v3 → okx v4 → p < e → e ≤ L → e = (nx c L p).2.2.2 → tkI σ c L (k + 1) ρ → PW d al MX10_cutTape 114 [.ref 30, .int (nI e), .int (nI i), v3, v4] [] ρ (fun r ρ => r = none ∧ ∃ k, k ≤ 600 ∧ tkI σ c L k ρ ∧ nx c L (ps c L k) = (22, L, 0, L)) := by
      intro e v3 v4 ρ hv3 hv4 he1 he2 he3 hρ
      refine pw_iinc1 dX10_cutTape_114 rfl (Nat.le_of_ble_eq_true rfl) (Nat.le_of_ble_eq_true rfl) rfl ?_
      refine pw_goto (tgt := 9) dX10_cutTape_117 (by decide) ?_
      have := ih (L - e) (by omega) e (i + 1) (k + 1) v3 v4 ρ hv3 hv4 (by omega) (by omega) (by omega) hρ (by rw [hps, he3])
      rw [nI_succ] at this
      exact this
    by_cases hb : lB (c p)
    · have hgo := fun v3 hv3 => ih (L - (p + 1)) (by omega) (p + 1) (i + 1) k v3 x4 τ hv3 hx4 (by omega) (by omega) (by omega) hK (by rw [hnx]; exact nx_bl hpL hb)
      rw [nI_succ, nI_succ] at hgo
      have hS := hS1
      refine pw_iload_n dX10_cutTape_9 rfl ?_
      refine pw_sipush (v := 600) dX10_cutTape_10 (by decide) ?_
      refine pw_icmp_ge (tgt := 120) dX10_cutTape_13 (by decide) (fun h13 => ?_) (fun h13 => ?_)
      · exact absurd h13 (nI_ge (show i < 600 by omega) (by decide))
      · refine pw_iload_n dX10_cutTape_16 rfl ?_
        refine pw_aload_n dX10_cutTape_17 rfl ?_
        refine pw_getF (v := 17) dX10_cutTape_18 flX10_21 rfl (hS.at rfl rfl rfl) (hS.rf (30, 0, 17) rfl (by decide)) ?_
        refine pw_cV0 (d1 := d - 1) (a1 := 0) (a2 := al) dX10_cutTape_21 mtX7_length ivX7_length mlX10_29 (Nat.le_of_ble_eq_true rfl) (Nat.le_of_ble_eq_true rfl) (by omega) (by omega) (hS.at rfl rfl rfl) rfl rfl (t_tlen hS1) ?_
        rintro r_ τ_ ⟨hr_, ht_⟩; subst r_; subst τ_
        refine pw_icmp_ge (tgt := 120) dX10_cutTape_24 (by decide) (fun h24 => ?_) (fun h24 => ?_)
        · exact absurd (by rw [h17] at h24; exact h24) (nI_ge hpL (by omega))
        · refine pw_aload_n dX10_cutTape_27 rfl ?_
          refine pw_getF (v := 17) dX10_cutTape_28 flX10_21 rfl (hS.at rfl rfl rfl) (hS.rf (30, 0, 17) rfl (by decide)) ?_
          refine pw_iload_n dX10_cutTape_31 rfl ?_
          refine pw_cV1 (d1 := d - 1) (a1 := 0) (a2 := al) dX10_cutTape_32 mtX7_at ivX7_at mlX10_33 (Nat.le_of_ble_eq_true rfl) (Nat.le_of_ble_eq_true rfl) (by omega) (by omega) (hS.at rfl rfl rfl) rfl rfl (t_tat' hS1 hT1 hpL) ?_
          rintro r_ τ_ ⟨hr_, ht_⟩; subst r_; subst τ_
          refine pw_istore_n dX10_cutTape_35 (Nat.le_of_ble_eq_true rfl) (Nat.le_of_ble_eq_true rfl) rfl ?_
          refine pw_iload_n dX10_cutTape_36 rfl ?_
          refine pw_cS1 (d1 := d - 1) (a1 := 0) (a2 := al) dX10_cutTape_37 mtX10_isBlank stX10_isBlank mlX10_37 (Nat.le_of_ble_eq_true rfl) (Nat.le_of_ble_eq_true rfl) (by omega) (by omega) (t_isBlank hxc) ?_
          rintro r_ τ_ ⟨hr_, ht_⟩; subst r_; subst τ_
          refine pw_if_eq (tgt := 49) dX10_cutTape_40 (by decide) (fun h40 => ?_) (fun h40 => ?_)
          · exact absurd hb (bI_0.mp h40)
          · refine pw_iinc1 dX10_cutTape_43 rfl (Nat.le_of_ble_eq_true rfl) (Nat.le_of_ble_eq_true rfl) rfl ?_
            refine pw_goto (tgt := 114) dX10_cutTape_46 (by decide) ?_
            refine pw_iinc1 dX10_cutTape_114 rfl (Nat.le_of_ble_eq_true rfl) (Nat.le_of_ble_eq_true rfl) rfl ?_
            refine pw_goto (tgt := 9) dX10_cutTape_117 (by decide) ?_
            exact hgo _ (Or.inr ⟨_, rfl⟩)
    · have hno := nx_no hpL hb
      have htk : tk c L k = (nx c L p).1 := by rw [← hnx]
      have hsn : sn c L k = (nx c L p).2.1 := by rw [← hnx]
      have hvl : vl c L k = (nx c L p).2.2.1 := by rw [← hnx]
      by_cases hl : lE (c p)
      · rw [if_pos hl] at hno
        have hpu := tkI_put (tok := nI (wT c p (rn lE c (L - p) p - p) 15)) (pl := nI p) (v := 0) hK (by rw [htk, hno]) (by rw [hsn, hno]) (by rw [hvl, hno])
        have e1 := rn_u (P := lE) (c := c) hpL
        rw [if_pos hl] at e1
        obtain ⟨e2, e3⟩ := rn_in (P := lE) (c := c) (L := L) (p := p + 1) (by omega)
        rw [← e1] at e2 e3
        have hgo := fun v3 hv3 => go (rn lE c (L - p) p) v3 x4 _ hv3 hx4 (by omega) e3 (by rw [hno]) hpu
        have hS := hS1
        refine pw_iload_n dX10_cutTape_9 rfl ?_
        refine pw_sipush (v := 600) dX10_cutTape_10 (by decide) ?_
        refine pw_icmp_ge (tgt := 120) dX10_cutTape_13 (by decide) (fun h13 => ?_) (fun h13 => ?_)
        · exact absurd h13 (nI_ge (show i < 600 by omega) (by decide))
        · refine pw_iload_n dX10_cutTape_16 rfl ?_
          refine pw_aload_n dX10_cutTape_17 rfl ?_
          refine pw_getF (v := 17) dX10_cutTape_18 flX10_21 rfl (hS.at rfl rfl rfl) (hS.rf (30, 0, 17) rfl (by decide)) ?_
          refine pw_cV0 (d1 := d - 1) (a1 := 0) (a2 := al) dX10_cutTape_21 mtX7_length ivX7_length mlX10_29 (Nat.le_of_ble_eq_true rfl) (Nat.le_of_ble_eq_true rfl) (by omega) (by omega) (hS.at rfl rfl rfl) rfl rfl (t_tlen hS1) ?_
          rintro r_ τ_ ⟨hr_, ht_⟩; subst r_; subst τ_
          refine pw_icmp_ge (tgt := 120) dX10_cutTape_24 (by decide) (fun h24 => ?_) (fun h24 => ?_)
          · exact absurd (by rw [h17] at h24; exact h24) (nI_ge hpL (by omega))
          · refine pw_aload_n dX10_cutTape_27 rfl ?_
            refine pw_getF (v := 17) dX10_cutTape_28 flX10_21 rfl (hS.at rfl rfl rfl) (hS.rf (30, 0, 17) rfl (by decide)) ?_
            refine pw_iload_n dX10_cutTape_31 rfl ?_
            refine pw_cV1 (d1 := d - 1) (a1 := 0) (a2 := al) dX10_cutTape_32 mtX7_at ivX7_at mlX10_33 (Nat.le_of_ble_eq_true rfl) (Nat.le_of_ble_eq_true rfl) (by omega) (by omega) (hS.at rfl rfl rfl) rfl rfl (t_tat' hS1 hT1 hpL) ?_
            rintro r_ τ_ ⟨hr_, ht_⟩; subst r_; subst τ_
            refine pw_istore_n dX10_cutTape_35 (Nat.le_of_ble_eq_true rfl) (Nat.le_of_ble_eq_true rfl) rfl ?_
            refine pw_iload_n dX10_cutTape_36 rfl ?_
            refine pw_cS1 (d1 := d - 1) (a1 := 0) (a2 := al) dX10_cutTape_37 mtX10_isBlank stX10_isBlank mlX10_37 (Nat.le_of_ble_eq_true rfl) (Nat.le_of_ble_eq_true rfl) (by omega) (by omega) (t_isBlank hxc) ?_
            rintro r_ τ_ ⟨hr_, ht_⟩; subst r_; subst τ_
            refine pw_if_eq (tgt := 49) dX10_cutTape_40 (by decide) (fun h40 => ?_) (fun h40 => ?_)
            · refine pw_iload_n dX10_cutTape_49 rfl ?_
              refine pw_cS1 (d1 := d - 1) (a1 := 0) (a2 := al) dX10_cutTape_50 mtX10_isLetter stX10_isLetter mlX10_41 (Nat.le_of_ble_eq_true rfl) (Nat.le_of_ble_eq_true rfl) (by omega) (by omega) (t_isLetter hxc) ?_
              rintro r_ τ_ ⟨hr_, ht_⟩; subst r_; subst τ_
              refine pw_if_eq (tgt := 65) dX10_cutTape_53 (by decide) (fun h53 => ?_) (fun h53 => ?_)
              · exact absurd hl (bI_0.mp h53)
              · refine pw_aload_n dX10_cutTape_56 rfl ?_
                refine pw_iload_n dX10_cutTape_57 rfl ?_
                refine pw_cV1 (d1 := d - 1) (a1 := 0) (a2 := al) dX10_cutTape_58 mtX10_takeWord ivX10_takeWord mlX10_44 (Nat.le_of_ble_eq_true rfl) (Nat.le_of_ble_eq_true rfl) (by omega) (by omega) (hS.at rfl rfl rfl) rfl rfl (t_takeWord (by omega) hS1 hT1 hJ1 hpL hl hK.2.2.1 hk601) ?_
                rintro r_ τ_ ⟨hr_, ht_⟩; subst r_; subst τ_
                refine pw_istore_n dX10_cutTape_61 (Nat.le_of_ble_eq_true rfl) (Nat.le_of_ble_eq_true rfl) rfl ?_
                refine pw_goto (tgt := 114) dX10_cutTape_62 (by decide) ?_
                exact hgo _ (Or.inr ⟨_, rfl⟩)
            · exact absurd (bI_n.mp h40) hb
      · rw [if_neg hl] at hno
        by_cases hdg : lD (c p)
        · rw [if_pos hdg] at hno
          have hpu := tkI_put (tok := nI (if rn lD c (L - p) p - p ≤ 4 then 21 else 23)) (pl := nI p) (v := dv c p (rn lD c (L - p) p - p)) hK (by rw [htk, hno]) (by rw [hsn, hno]) (by rw [hvl, hno])
          have e1 := rn_u (P := lD) (c := c) hpL
          rw [if_pos hdg] at e1
          obtain ⟨e2, e3⟩ := rn_in (P := lD) (c := c) (L := L) (p := p + 1) (by omega)
          rw [← e1] at e2 e3
          have hgo := fun v3 hv3 => go (rn lD c (L - p) p) v3 x4 _ hv3 hx4 (by omega) e3 (by rw [hno]) hpu
          have hS := hS1
          refine pw_iload_n dX10_cutTape_9 rfl ?_
          refine pw_sipush (v := 600) dX10_cutTape_10 (by decide) ?_
          refine pw_icmp_ge (tgt := 120) dX10_cutTape_13 (by decide) (fun h13 => ?_) (fun h13 => ?_)
          · exact absurd h13 (nI_ge (show i < 600 by omega) (by decide))
          · refine pw_iload_n dX10_cutTape_16 rfl ?_
            refine pw_aload_n dX10_cutTape_17 rfl ?_
            refine pw_getF (v := 17) dX10_cutTape_18 flX10_21 rfl (hS.at rfl rfl rfl) (hS.rf (30, 0, 17) rfl (by decide)) ?_
            refine pw_cV0 (d1 := d - 1) (a1 := 0) (a2 := al) dX10_cutTape_21 mtX7_length ivX7_length mlX10_29 (Nat.le_of_ble_eq_true rfl) (Nat.le_of_ble_eq_true rfl) (by omega) (by omega) (hS.at rfl rfl rfl) rfl rfl (t_tlen hS1) ?_
            rintro r_ τ_ ⟨hr_, ht_⟩; subst r_; subst τ_
            refine pw_icmp_ge (tgt := 120) dX10_cutTape_24 (by decide) (fun h24 => ?_) (fun h24 => ?_)
            · exact absurd (by rw [h17] at h24; exact h24) (nI_ge hpL (by omega))
            · refine pw_aload_n dX10_cutTape_27 rfl ?_
              refine pw_getF (v := 17) dX10_cutTape_28 flX10_21 rfl (hS.at rfl rfl rfl) (hS.rf (30, 0, 17) rfl (by decide)) ?_
              refine pw_iload_n dX10_cutTape_31 rfl ?_
              refine pw_cV1 (d1 := d - 1) (a1 := 0) (a2 := al) dX10_cutTape_32 mtX7_at ivX7_at mlX10_33 (Nat.le_of_ble_eq_true rfl) (Nat.le_of_ble_eq_true rfl) (by omega) (by omega) (hS.at rfl rfl rfl) rfl rfl (t_tat' hS1 hT1 hpL) ?_
              rintro r_ τ_ ⟨hr_, ht_⟩; subst r_; subst τ_
              refine pw_istore_n dX10_cutTape_35 (Nat.le_of_ble_eq_true rfl) (Nat.le_of_ble_eq_true rfl) rfl ?_
              refine pw_iload_n dX10_cutTape_36 rfl ?_
              refine pw_cS1 (d1 := d - 1) (a1 := 0) (a2 := al) dX10_cutTape_37 mtX10_isBlank stX10_isBlank mlX10_37 (Nat.le_of_ble_eq_true rfl) (Nat.le_of_ble_eq_true rfl) (by omega) (by omega) (t_isBlank hxc) ?_
              rintro r_ τ_ ⟨hr_, ht_⟩; subst r_; subst τ_
              refine pw_if_eq (tgt := 49) dX10_cutTape_40 (by decide) (fun h40 => ?_) (fun h40 => ?_)
              · refine pw_iload_n dX10_cutTape_49 rfl ?_
                refine pw_cS1 (d1 := d - 1) (a1 := 0) (a2 := al) dX10_cutTape_50 mtX10_isLetter stX10_isLetter mlX10_41 (Nat.le_of_ble_eq_true rfl) (Nat.le_of_ble_eq_true rfl) (by omega) (by omega) (t_isLetter hxc) ?_
                rintro r_ τ_ ⟨hr_, ht_⟩; subst r_; subst τ_
                refine pw_if_eq (tgt := 65) dX10_cutTape_53 (by decide) (fun h53 => ?_) (fun h53 => ?_)
                · refine pw_iload_n dX10_cutTape_65 rfl ?_
                  refine pw_cS1 (d1 := d - 1) (a1 := 0) (a2 := al) dX10_cutTape_66 mtX10_isDigit stX10_isDigit mlX10_47 (Nat.le_of_ble_eq_true rfl) (Nat.le_of_ble_eq_true rfl) (by omega) (by omega) (t_isDigit hxc) ?_
                  rintro r_ τ_ ⟨hr_, ht_⟩; subst r_; subst τ_
                  refine pw_if_eq (tgt := 81) dX10_cutTape_69 (by decide) (fun h69 => ?_) (fun h69 => ?_)
                  · exact absurd hdg (bI_0.mp h69)
                  · refine pw_aload_n dX10_cutTape_72 rfl ?_
                    refine pw_iload_n dX10_cutTape_73 rfl ?_
                    refine pw_cV1 (d1 := d - 1) (a1 := 0) (a2 := al) dX10_cutTape_74 mtX10_takeNumber ivX10_takeNumber mlX10_50 (Nat.le_of_ble_eq_true rfl) (Nat.le_of_ble_eq_true rfl) (by omega) (by omega) (hS.at rfl rfl rfl) rfl rfl (t_takeNumber (by omega) hS1 hT1 hpL hK.2.2.1 hk601) ?_
                    rintro r_ τ_ ⟨hr_, ht_⟩; subst r_; subst τ_
                    refine pw_istore_n dX10_cutTape_77 (Nat.le_of_ble_eq_true rfl) (Nat.le_of_ble_eq_true rfl) rfl ?_
                    refine pw_goto (tgt := 114) dX10_cutTape_78 (by decide) ?_
                    exact hgo _ (Or.inr ⟨_, rfl⟩)
                · exact absurd (bI_n.mp h53) hl
              · exact absurd (bI_n.mp h40) hb
        · rw [if_neg hdg] at hno
          have hpu := tkI_put (tok := nI (sg (c p))) (pl := nI p) (v := 0) hK (by rw [htk, hno]) (by rw [hsn, hno]) (by rw [hvl, hno])
          have hgo := fun v3 v4 hv3 hv4 => go (p + 1) v3 v4 _ hv3 hv4 (by omega) (by omega) (by rw [hno]) hpu
          rw [nI_succ] at hgo
          have hix := ix_sg hJ1 hxc
          have hsr := sg_rng (c p)
          have hS := hS1
          refine pw_iload_n dX10_cutTape_9 rfl ?_
          refine pw_sipush (v := 600) dX10_cutTape_10 (by decide) ?_
          refine pw_icmp_ge (tgt := 120) dX10_cutTape_13 (by decide) (fun h13 => ?_) (fun h13 => ?_)
          · exact absurd h13 (nI_ge (show i < 600 by omega) (by decide))
          · refine pw_iload_n dX10_cutTape_16 rfl ?_
            refine pw_aload_n dX10_cutTape_17 rfl ?_
            refine pw_getF (v := 17) dX10_cutTape_18 flX10_21 rfl (hS.at rfl rfl rfl) (hS.rf (30, 0, 17) rfl (by decide)) ?_
            refine pw_cV0 (d1 := d - 1) (a1 := 0) (a2 := al) dX10_cutTape_21 mtX7_length ivX7_length mlX10_29 (Nat.le_of_ble_eq_true rfl) (Nat.le_of_ble_eq_true rfl) (by omega) (by omega) (hS.at rfl rfl rfl) rfl rfl (t_tlen hS1) ?_
            rintro r_ τ_ ⟨hr_, ht_⟩; subst r_; subst τ_
            refine pw_icmp_ge (tgt := 120) dX10_cutTape_24 (by decide) (fun h24 => ?_) (fun h24 => ?_)
            · exact absurd (by rw [h17] at h24; exact h24) (nI_ge hpL (by omega))
            · refine pw_aload_n dX10_cutTape_27 rfl ?_
              refine pw_getF (v := 17) dX10_cutTape_28 flX10_21 rfl (hS.at rfl rfl rfl) (hS.rf (30, 0, 17) rfl (by decide)) ?_
              refine pw_iload_n dX10_cutTape_31 rfl ?_
              refine pw_cV1 (d1 := d - 1) (a1 := 0) (a2 := al) dX10_cutTape_32 mtX7_at ivX7_at mlX10_33 (Nat.le_of_ble_eq_true rfl) (Nat.le_of_ble_eq_true rfl) (by omega) (by omega) (hS.at rfl rfl rfl) rfl rfl (t_tat' hS1 hT1 hpL) ?_
              rintro r_ τ_ ⟨hr_, ht_⟩; subst r_; subst τ_
              refine pw_istore_n dX10_cutTape_35 (Nat.le_of_ble_eq_true rfl) (Nat.le_of_ble_eq_true rfl) rfl ?_
              refine pw_iload_n dX10_cutTape_36 rfl ?_
              refine pw_cS1 (d1 := d - 1) (a1 := 0) (a2 := al) dX10_cutTape_37 mtX10_isBlank stX10_isBlank mlX10_37 (Nat.le_of_ble_eq_true rfl) (Nat.le_of_ble_eq_true rfl) (by omega) (by omega) (t_isBlank hxc) ?_
              rintro r_ τ_ ⟨hr_, ht_⟩; subst r_; subst τ_
              refine pw_if_eq (tgt := 49) dX10_cutTape_40 (by decide) (fun h40 => ?_) (fun h40 => ?_)
              · refine pw_iload_n dX10_cutTape_49 rfl ?_
                refine pw_cS1 (d1 := d - 1) (a1 := 0) (a2 := al) dX10_cutTape_50 mtX10_isLetter stX10_isLetter mlX10_41 (Nat.le_of_ble_eq_true rfl) (Nat.le_of_ble_eq_true rfl) (by omega) (by omega) (t_isLetter hxc) ?_
                rintro r_ τ_ ⟨hr_, ht_⟩; subst r_; subst τ_
                refine pw_if_eq (tgt := 65) dX10_cutTape_53 (by decide) (fun h53 => ?_) (fun h53 => ?_)
                · refine pw_iload_n dX10_cutTape_65 rfl ?_
                  refine pw_cS1 (d1 := d - 1) (a1 := 0) (a2 := al) dX10_cutTape_66 mtX10_isDigit stX10_isDigit mlX10_47 (Nat.le_of_ble_eq_true rfl) (Nat.le_of_ble_eq_true rfl) (by omega) (by omega) (t_isDigit hxc) ?_
                  rintro r_ τ_ ⟨hr_, ht_⟩; subst r_; subst τ_
                  refine pw_if_eq (tgt := 81) dX10_cutTape_69 (by decide) (fun h69 => ?_) (fun h69 => ?_)
                  · refine pw_ldcS2 dX10_cutTape_81 rfl ?_
                    refine pw_iload_n dX10_cutTape_83 rfl ?_
                    refine pw_i2c dX10_cutTape_84 ?_
                    rw [ch16 _ hxc]
                    refine pw_vT1 (d1 := d - 1) (a1 := 0) (a2 := al) dX10_cutTape_85 mtJ0_indexOf_0f7a4 ivJ0_indexOf_0f7a4 mlX10_55 (Nat.le_of_ble_eq_true rfl) (Nat.le_of_ble_eq_true rfl) (by omega) (by omega) (Or.inr rfl) rfl (u_indexOf (by omega) hs3 (by decide) hxc) ?_
                    rintro r_ τ_ ⟨hr_, ht_⟩; subst r_; subst τ_
                    rw [hix]
                    refine pw_istore dX10_cutTape_88 (Nat.le_of_ble_eq_true rfl) (Nat.le_of_ble_eq_true rfl) rfl ?_
                    refine pw_aload_n dX10_cutTape_90 rfl ?_
                    refine pw_iload dX10_cutTape_91 rfl ?_
                    refine pw_if_ge (tgt := 101) dX10_cutTape_93 (by decide) (fun h93 => ?_) (fun h93 => ?_)
                    · have hz : ¬ sg (c p) = 23 := by
                        intro z
                        rw [if_pos z] at h93
                        exact absurd h93 (by decide)
                      refine pw_bipush (v := 15) dX10_cutTape_101 (by decide) ?_
                      refine pw_iload dX10_cutTape_103 rfl ?_
                      refine pw_iadd dX10_cutTape_105 ?_
                      first | (rw [show (23 : Int32) = nI (sg (c p)) by rw [hz]; rfl]) | (rw [show (15 : Int32) + (if sg (c p) = 23 then (-1 : Int32) else nI (sg (c p) - 15)) = nI (sg (c p)) by rw [if_neg hz, show (15 : Int32) = nI 15 from rfl, nI_add, show 15 + (sg (c p) - 15) = sg (c p) by omega]])
                      refine pw_iload_n dX10_cutTape_106 rfl ?_
                      refine pw_iconst (v := 0) dX10_cutTape_107 (by decide) ?_
                      refine pw_cV3 (d1 := d - 1) (a1 := 0) (a2 := al) dX10_cutTape_108 mtX10_put ivX10_put mlX10_60 (Nat.le_of_ble_eq_true rfl) (Nat.le_of_ble_eq_true rfl) (by omega) (by omega) (hS.at rfl rfl rfl) rfl rfl (t_kput hS1 hK.2.2.1 hk601 _ _ _) ?_
                      rintro r_ τ_ ⟨hr_, ht_⟩; subst r_; subst τ_
                      refine pw_iinc1 dX10_cutTape_111 rfl (Nat.le_of_ble_eq_true rfl) (Nat.le_of_ble_eq_true rfl) rfl ?_
                      exact hgo _ _ (Or.inr ⟨_, rfl⟩) (Or.inr ⟨_, rfl⟩)
                    · have hz : sg (c p) = 23 := by
                        rcases Nat.eq_or_lt_of_le (show sg (c p) ≤ 23 by omega) with z | z
                        · exact z
                        · rw [if_neg (by omega)] at h93
                          exact absurd (nI_pos' (by omega)) h93
                      refine pw_bipush (v := 23) dX10_cutTape_96 (by decide) ?_
                      refine pw_goto (tgt := 106) dX10_cutTape_98 (by decide) ?_
                      first | (rw [show (23 : Int32) = nI (sg (c p)) by rw [hz]; rfl]) | (rw [show (15 : Int32) + (if sg (c p) = 23 then (-1 : Int32) else nI (sg (c p) - 15)) = nI (sg (c p)) by rw [if_neg hz, show (15 : Int32) = nI 15 from rfl, nI_add, show 15 + (sg (c p) - 15) = sg (c p) by omega]])
                      refine pw_iload_n dX10_cutTape_106 rfl ?_
                      refine pw_iconst (v := 0) dX10_cutTape_107 (by decide) ?_
                      refine pw_cV3 (d1 := d - 1) (a1 := 0) (a2 := al) dX10_cutTape_108 mtX10_put ivX10_put mlX10_60 (Nat.le_of_ble_eq_true rfl) (Nat.le_of_ble_eq_true rfl) (by omega) (by omega) (hS.at rfl rfl rfl) rfl rfl (t_kput hS1 hK.2.2.1 hk601 _ _ _) ?_
                      rintro r_ τ_ ⟨hr_, ht_⟩; subst r_; subst τ_
                      refine pw_iinc1 dX10_cutTape_111 rfl (Nat.le_of_ble_eq_true rfl) (Nat.le_of_ble_eq_true rfl) rfl ?_
                      exact hgo _ _ (Or.inr ⟨_, rfl⟩) (Or.inr ⟨_, rfl⟩)
                  · exact absurd (bI_n.mp h69) hdg
                · exact absurd (bI_n.mp h53) hl
              · exact absurd (bI_n.mp h40) hb
  · have hpe : p = L := by omega
    have hend : nx c L (ps c L k) = (22, L, 0, L) := by rw [hnx, hpe]; exact nx_end c L
    have hS := hS1
    refine pw_iload_n dX10_cutTape_9 rfl ?_
    refine pw_sipush (v := 600) dX10_cutTape_10 (by decide) ?_
    refine pw_icmp_ge (tgt := 120) dX10_cutTape_13 (by decide) (fun h13 => ?_) (fun h13 => ?_)
    · refine pw_vret dX10_cutTape_120 rfl ?_
      exact ⟨rfl, k, by omega, hK, hend⟩
    · refine pw_iload_n dX10_cutTape_16 rfl ?_
      refine pw_aload_n dX10_cutTape_17 rfl ?_
      refine pw_getF (v := 17) dX10_cutTape_18 flX10_21 rfl (hS.at rfl rfl rfl) (hS.rf (30, 0, 17) rfl (by decide)) ?_
      refine pw_cV0 (d1 := d - 1) (a1 := 0) (a2 := al) dX10_cutTape_21 mtX7_length ivX7_length mlX10_29 (Nat.le_of_ble_eq_true rfl) (Nat.le_of_ble_eq_true rfl) (by omega) (by omega) (hS.at rfl rfl rfl) rfl rfl (t_tlen hS1) ?_
      rintro r_ τ_ ⟨hr_, ht_⟩; subst r_; subst τ_
      refine pw_icmp_ge (tgt := 120) dX10_cutTape_24 (by decide) (fun h24 => ?_) (fun h24 => ?_)
      · refine pw_vret dX10_cutTape_120 rfl ?_
        exact ⟨rfl, k, by omega, hK, hend⟩
      · exact absurd (by rw [h17]; exact nI_le (by omega) (by omega)) h24
theorem t_cutTape {d al L : Nat} {σ : pm_S} {c : Nat → Nat} (hd : 6 ≤ d) (hS : pm_fix σ) (hT : tpH σ c L) (hJ : jdC σ) : PM d al MX10_cutTape [.ref 30] σ (fun r ρ => r = none ∧ ∃ k, k ≤ 600 ∧ tkI σ c L k ρ ∧ nx c L (ps c L k) = (22, L, 0, L)) := by
  show PW _ _ _ _ _ _ _ _
  refine pw_aload_n dX10_cutTape_0 rfl ?_
  refine pw_iconst (v := 0) dX10_cutTape_1 (by decide) ?_
  refine pw_putI dX10_cutTape_2 flX10_25 ⟨_, rfl, Or.inl rfl⟩ rfl (hS.at rfl rfl rfl) ?_
  refine pw_iconst (v := 0) dX10_cutTape_5 (by decide) ?_
  refine pw_istore_n dX10_cutTape_6 (Nat.le_of_ble_eq_true rfl) (Nat.le_of_ble_eq_true rfl) rfl ?_
  refine pw_iconst (v := 0) dX10_cutTape_7 (by decide) ?_
  refine pw_istore_n dX10_cutTape_8 (Nat.le_of_ble_eq_true rfl) (Nat.le_of_ble_eq_true rfl) rfl ?_
  refine t_cut_lp hd hS hT hJ L 0 0 0 _ _ _ (Or.inl rfl) (Or.inl rfl) (by omega) (Nat.le_refl _) (Nat.le_refl _) ⟨rfl, fun b j b1 _ _ _ => qI_sI_nc b1, qI_sI_eq, fun j hj => absurd hj (Nat.not_lt_zero j)⟩ rfl
