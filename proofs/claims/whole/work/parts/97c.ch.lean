/-! ===== the class: the chooser ===== -/
theorem spS_cg {σ τ : pm_S} {g : Int32} {T : tup} (h : ∀ j, qI τ 16 j = qI σ 16 j) : spS τ g T = spS σ g T := by
  have e : ∀ i j, spG τ g T i j = spG σ g T i j := fun i j => by
    unfold spG spF
    cases prf T i j with
    | none => rfl
    | some q =>
      show (if i + 1 ≤ j then pcn (qI τ 16 q &&& g) else 0) = _
      rw [h q]
  unfold spS
  exact sm_cg 5 (fun i _ => sm_cg 5 (fun j _ => e i j))
theorem csF_cg {σ τ : pm_S} {g set : Int32} (h : ∀ b j, b = 14 ∨ b = 15 → qI τ b j = qI σ b j) (m : Nat) : sm (csF τ g set) m = sm (csF σ g set) m := sm_cg m (fun i _ => by
  unfold csF
  rw [h 15 i (by omega), h 14 i (by omega)])
theorem trk_cg {σ τ : pm_S} {T : tup} (h : ∀ j, qI τ 45 j = qI σ 45 j) : ∀ k, trk τ T k = trk σ T k
  | 0 => rfl
  | k + 1 => by
    cases hT : T k with
    | none => rw [trk_n hT, trk_n hT]; exact trk_cg h k
    | some t => rw [trk_s hT, trk_s hT, trk_cg h k, h t]
def bBar (σ : pm_S) (rs : List (List stp)) (se g : Int32) (T : tup) : Bool := decide (fB (cmF (rwF σ T se g (qI σ 43 0))) rs 0 ≠ -1)
def bAg (σ : pm_S) (m : Nat) (g : Int32) (T : tup) : Int32 := nI (spS σ g T + 10 * sm (csF σ g (tb T 5)) m)
def bRk (σ : pm_S) (T : tup) : Int32 := trk σ T 5
def bBi (T : tup) : Int32 := tb T 5
abbrev bJd (σ : pm_S) (rs : List (List stp)) (m : Nat) (se g : Int32) : jst → tup → jst := jd (bBar σ rs se g) (bAg σ m g) (bRk σ) bBi
def bCx (σ : pm_S) (n e m : Nat) (rs : List (List stp)) (a r : Nat) : Prop := pm_fix σ ∧ J1 σ n e ∧ J2 σ n m ∧ J4 σ rs a r
/-- the chooser at work -/
def cbC (σ τ : pm_S) (a : Nat) (house se g kinds : Int32) : Prop := kpX σ τ ∧ (qI τ 38 5 = house ∧ qI τ 38 6 = se ∧ qI τ 38 7 = g ∧ qI τ 38 8 = kinds ∧ qI τ 38 9 = qI σ 43 0) ∧ qR τ 38 4 = a ∧ qI τ 42 0 = se ∧ qI τ 42 1 = nI (pcn g)
def cbJ (τ : pm_S) (js : jst) : Prop := qI τ 38 10 = nI js.1 ∧ qI τ 38 11 = js.2.1 ∧ qI τ 38 12 = js.2.2.1 ∧ qI τ 38 13 = js.2.2.2
theorem cbC.sI {σ τ : pm_S} {a k : Nat} {house se g kinds x : Int32} (h : cbC σ τ a house se g kinds) (hk : 10 ≤ k) : cbC σ (pm_sI τ 38 k x) a house se g kinds := by
  obtain ⟨h1, ⟨h2, h3, h4, h5, h6⟩, h7, h8, h9⟩ := h
  exact ⟨h1.sI (by unfold kI; omega), ⟨(qI_sI_ne (by omega)).trans h2, (qI_sI_ne (by omega)).trans h3, (qI_sI_ne (by omega)).trans h4, (qI_sI_ne (by omega)).trans h5, (qI_sI_ne (by omega)).trans h6⟩, h7, (qI_sI_nc (by decide)).trans h8, (qI_sI_nc (by decide)).trans h9⟩
theorem c_fs_lo {σ : pm_S} {a k j : Nat} {R : Nat → Int32} (h : j < 2) : qI (c_fs σ a R k) a j = qI σ a j := if_neg (fun z => by omega)
theorem cbC.fs {σ τ : pm_S} {a k : Nat} {house se g kinds : Int32} {R : Nat → Int32} (h : cbC σ τ a house se g kinds) : cbC σ (c_fs τ 42 R k) a house se g kinds := by
  obtain ⟨h1, ⟨h2, h3, h4, h5, h6⟩, h7, h8, h9⟩ := h
  exact ⟨h1.fs (Or.inr rfl), ⟨(c_fs_ne (by decide) _).trans h2, (c_fs_ne (by decide) _).trans h3, (c_fs_ne (by decide) _).trans h4, (c_fs_ne (by decide) _).trans h5, (c_fs_ne (by decide) _).trans h6⟩, h7, (c_fs_lo (by decide)).trans h8, (c_fs_lo (by decide)).trans h9⟩
theorem kpX.sR {σ τ : pm_S} {a k x : Nat} (h : kpX σ τ) (ha : kR a k) : kpX σ (pm_sR τ a k x) := ⟨h.1, fun b j z => by rw [qR_sR, if_neg (fun y => z (by rw [y.1, y.2]; exact ha))]; exact h.2.1 b j z, h.2.2⟩
theorem cbC.sR {σ τ : pm_S} {a k x : Nat} {house se g kinds : Int32} (h : cbC σ τ a house se g kinds) : cbC σ (pm_sR τ 40 k x) a house se g kinds := ⟨h.1.sR (by unfold kR; omega), h.2.1, by rw [qR_sR, if_neg (by omega)]; exact h.2.2.1, h.2.2.2⟩
theorem t_judge {d al n e m a r : Nat} {σ τ : pm_S} {rs : List (List stp)} {house se g kinds : Int32} {js : jst} {T : tup} (hd : 6 ≤ d) (hX : bCx σ n e m rs a r) (hg : lt8 g) (hC : cbC σ τ a house se g kinds) (hj : cbJ τ js) (hA : tS τ n 40 T) (hb : js.1 + 1 < 2 ^ 31) : PM d al MX1_judge [.ref 38] τ (fun v ρ => v = none ∧ cbC σ ρ a house se g kinds ∧ cbJ ρ (bJd σ rs m se g js T) ∧ ∀ j, qR ρ 40 j = qR τ 40 j) := by
  obtain ⟨x1, x2, x3, x4⟩ := hX
  have hS := hC.1.fix x1
  have hJ := hC.1.j1 x1 x2
  have ha4 : a = 19 ∨ a = 24 := by have := x4.1; omega
  obtain ⟨ρ1, hρ1⟩ : ∃ ρ1, ρ1 = c_fs τ 42 (rwF τ T se g (qI σ 43 0)) 5 := ⟨_, rfl⟩
  have c1 : cbC σ ρ1 a house se g kinds := by rw [hρ1]; exact hC.fs
  have j1 : cbJ ρ1 js := by
    rw [hρ1]
    exact ⟨(c_fs_ne (by decide) _).trans hj.1, (c_fs_ne (by decide) _).trans hj.2.1, (c_fs_ne (by decide) _).trans hj.2.2.1, (c_fs_ne (by decide) _).trans hj.2.2.2⟩
  have r1 : qR ρ1 = qR τ := by rw [hρ1]; rfl
  have hS1 := c1.1.fix x1
  have h41 := c1.1.j4 x4
  have hts := t_tellSet (d := d - 1) (al := 0) (by omega) hS.fc2 hJ.1 hS.ts2 hA (fun t ht => (hJ.2.2.2.2.2.2.2.2.2 t ht).1) se g (qI σ 43 0)
  rw [← hρ1] at hts
  have hfi := t_first (d := d - 1) (al := 0) (by omega) hS1 ha4 hS1.fc2 h41.2.2.1.1 h41.2.2.1.2 h41.2.2.2.1.1 h41.2.2.2.2.1.2.2.2.1 h41.2.2.2.1.2
  have hrow : ∀ k, k < 22 → qI ρ1 42 k = rwF σ T se g (qI σ 43 0) k := fun k hk => by
    rw [hρ1, row_ok hC.2.2.2.1 hC.2.2.2.2 k hk, rwF_cg (fun b j hb => hC.1.1 b j (by unfold kI; omega))]
  rw [fB_cg hrow rs 0 x4.2.2.2.1.2] at hfi
  have ia : pm_is ρ1 a 4 := (rl_f hS1 ha4).1
  have hl4 : qR ρ1 38 4 = a := c1.2.2.1
  -- behind the count
  obtain ⟨ρ2, hρ2⟩ : ∃ ρ2, ρ2 = pm_sI ρ1 38 10 (nI (js.1 + 1)) := ⟨_, rfl⟩
  have c2 : cbC σ ρ2 a house se g kinds := by rw [hρ2]; exact c1.sI (by decide)
  have hS2 := c2.1.fix x1
  have hJ2 := c2.1.j1 x1 x2
  have h22 := c2.1.j2 x3
  have r2 : qR ρ2 = qR τ := by rw [hρ2]; exact r1
  have hA2 : tS ρ2 n 40 T := by
    refine ⟨fun k hk => ?_, hA.2⟩
    have e : tr ρ2 T k = tr τ T k := by unfold tr; rw [r2]
    rw [r2, e]; exact hA.1 k hk
  have k10 : qI ρ2 38 10 = nI (js.1 + 1) := by rw [hρ2, qI_sI_eq]
  have k11 : qI ρ2 38 11 = js.2.1 := by rw [hρ2, qI_sI_ne (by decide)]; exact j1.2.1
  have k12 : qI ρ2 38 12 = js.2.2.1 := by rw [hρ2, qI_sI_ne (by decide)]; exact j1.2.2.1
  have k13 : qI ρ2 38 13 = js.2.2.2 := by rw [hρ2, qI_sI_ne (by decide)]; exact j1.2.2.2
  have hag := t_sumAgain (d := d - 1) (al := 0) (by omega) hS2 hJ2.1 hS2.ts2 hA2 h22.2.1 h22.1 hg
  have eag : nI (spS ρ2 g T + 10 * sm (csF ρ2 g (tb T 5)) m) = bAg σ m g T := by
    unfold bAg
    rw [spS_cg (fun j => c2.1.1 16 j (by unfold kI; omega)), csF_cg (fun b j hb => c2.1.1 b j (by unfold kI; omega))]
  rw [eag] at hag
  have hrk := t_sumRanks (d := d - 1) (al := 0) hJ2.1 hS2.ts2 hA2 (fun t ht => (hJ2.2.2.2.2.2.2.2.2.2 t ht).1.2.1)
  have erk : trk ρ2 T 5 = bRk σ T := trk_cg (fun j => c2.1.1 45 j (by unfold kI; omega)) 5
  rw [erk] at hrk
  have hbi := t_bits (d := d - 1) (al := 0) hJ2.1 hS2.ts2 hA2
  have one : nI (js.1 + 1) = 1 ↔ js.1 = 0 := by
    rw [show (1 : Int32) = nI 1 from rfl, nI_eq hb (by decide)]; omega
  -- the two ends
  have hU : ¬ bBar σ rs se g T = true → (js.1 = 0 ∨ bAg σ m g T < js.2.2.1 ∨ (bAg σ m g T = js.2.2.1 ∧ js.2.2.2 < bRk σ T)) → (fun (v : Option Value) (ρ : pm_S) => v = none ∧ cbC σ ρ a house se g kinds ∧ cbJ ρ (bJd σ rs m se g js T) ∧ ∀ j, qR ρ 40 j = qR τ 40 j) none (pm_sI (pm_sI (pm_sI ρ2 38 11 (tb T 5)) 38 12 (bAg σ m g T)) 38 13 (bRk σ T)) := fun z1 z2 => by
    refine ⟨rfl, ((c2.sI (by decide)).sI (by decide)).sI (by decide), ?_, fun j => ?_⟩
    · rw [show bJd σ rs m se g js T = (js.1 + 1, bBi T, bAg σ m g T, bRk σ T) from jd_y z1 z2]
      refine ⟨?_, ?_, ?_, qI_sI_eq⟩
      · rw [qI_sI_ne (by decide), qI_sI_ne (by decide), qI_sI_ne (by decide)]; exact k10
      · rw [qI_sI_ne (by decide), qI_sI_ne (by decide), qI_sI_eq]; rfl
      · rw [qI_sI_ne (by decide), qI_sI_eq]
    · show qR ρ2 40 j = _
      rw [r2]
  have hN : ¬ bBar σ rs se g T = true → ¬ (js.1 = 0 ∨ bAg σ m g T < js.2.2.1 ∨ (bAg σ m g T = js.2.2.1 ∧ js.2.2.2 < bRk σ T)) → (fun (v : Option Value) (ρ : pm_S) => v = none ∧ cbC σ ρ a house se g kinds ∧ cbJ ρ (bJd σ rs m se g js T) ∧ ∀ j, qR ρ 40 j = qR τ 40 j) none ρ2 := fun z1 z2 => by
    refine ⟨rfl, c2, ?_, fun j => by rw [r2]⟩
    rw [show bJd σ rs m se g js T = (js.1 + 1, js.2) from jd_n z1 z2]
    exact ⟨k10, k11, k12, k13⟩
  have hbar : bBar σ rs se g T = true ↔ fB (cmF (rwF σ T se g (qI σ 43 0))) rs 0 ≠ -1 := decide_eq_true_iff
  have hday := hC.2.1.2.2.2.2
  have hgs : qI ρ2 38 7 = g := c2.2.1.2.2.1
  show PW _ _ _ _ _ _ _ _
  refine pw_aload_n dX1_judge_0 rfl ?_
  refine pw_getF (v := 41) dX1_judge_1 flX1_33 rfl (hS.at rfl rfl rfl) (hS.rf (38, 3, 41) rfl (by decide)) ?_
  refine pw_aload_n dX1_judge_4 rfl ?_
  refine pw_getF (v := 39) dX1_judge_5 flX1_26 rfl (hS.at rfl rfl rfl) (hS.rf (38, 2, 39) rfl (by decide)) ?_
  refine pw_aload_n dX1_judge_8 rfl ?_
  refine pw_getI dX1_judge_9 flX1_54 rfl (hS.at rfl rfl rfl) ?_
  rw [hday]
  refine pw_cV2 (d1 := d - 1) (a1 := 0) (a2 := al) dX1_judge_12 mtX2_tellSet ivX2_tellSet mlX1_105 (Nat.le_of_ble_eq_true rfl) (Nat.le_of_ble_eq_true rfl) (by omega) (by omega) (hS.at rfl rfl rfl) rfl rfl (hts) ?_
  rintro r_ τ_ ⟨hr_, ht_⟩; subst r_; subst τ_
  have hS := hS1
  refine pw_aload_n dX1_judge_15 rfl ?_
  refine pw_getF dX1_judge_16 flX1_19 rfl (hS1.at rfl rfl rfl) hl4 ?_
  refine pw_aload_n dX1_judge_19 rfl ?_
  refine pw_getF (v := 41) dX1_judge_20 flX1_33 rfl (hS1.at rfl rfl rfl) (hS.rf (38, 3, 41) rfl (by decide)) ?_
  refine pw_cV1 (d1 := d - 1) (a1 := 0) (a2 := al) dX1_judge_23 mtX4_firstThatBars ivX4_firstThatBars mlX1_109 (Nat.le_of_ble_eq_true rfl) (Nat.le_of_ble_eq_true rfl) (by omega) (by omega) ia rfl rfl (hfi) ?_
  rintro r_ τ_ ⟨hr_, ht_⟩; subst r_; subst τ_
  refine pw_iconst (v := (-1)) dX1_judge_26 (by decide) ?_
  refine pw_icmp_eq (tgt := 31) dX1_judge_27 (by decide) (fun h27 => ?_) (fun h27 => ?_)
  · refine pw_aload_n dX1_judge_31 rfl ?_
    refine pw_dup dX1_judge_32 rfl ?_
    refine pw_getI dX1_judge_33 flX1_57 rfl (hS1.at rfl rfl rfl) ?_
    rw [j1.1]
    refine pw_iconst (v := 1) dX1_judge_36 (by decide) ?_
    refine pw_iadd dX1_judge_37 ?_
    rw [← nI_succ]
    refine pw_putI dX1_judge_38 flX1_57 ⟨_, rfl, Or.inl rfl⟩ rfl (hS1.at rfl rfl rfl) ?_
    rw [← hρ2]
    have hS := hS2
    refine pw_aload_n dX1_judge_41 rfl ?_
    refine pw_getF (v := 9) dX1_judge_42 flX1_15 rfl (hS2.at rfl rfl rfl) (hS.rf (38, 1, 9) rfl (by decide)) ?_
    refine pw_aload_n dX1_judge_45 rfl ?_
    refine pw_getI dX1_judge_46 flX1_44 rfl (hS.at rfl rfl rfl) ?_
    rw [hgs]
    refine pw_aload_n dX1_judge_49 rfl ?_
    refine pw_getF (v := 39) dX1_judge_50 flX1_26 rfl (hS.at rfl rfl rfl) (hS.rf (38, 2, 39) rfl (by decide)) ?_
    refine pw_cV2 (d1 := d - 1) (a1 := 0) (a2 := al) dX1_judge_53 mtX3_sumAgain ivX3_sumAgain mlX1_115 (Nat.le_of_ble_eq_true rfl) (Nat.le_of_ble_eq_true rfl) (by omega) (by omega) (hS.at rfl rfl rfl) rfl rfl (hag) ?_
    rintro r_ τ_ ⟨hr_, ht_⟩; subst r_; subst τ_
    refine pw_istore_n dX1_judge_56 (Nat.le_of_ble_eq_true rfl) (Nat.le_of_ble_eq_true rfl) rfl ?_
    refine pw_aload_n dX1_judge_57 rfl ?_
    refine pw_getF (v := 39) dX1_judge_58 flX1_26 rfl (hS.at rfl rfl rfl) (hS.rf (38, 2, 39) rfl (by decide)) ?_
    refine pw_cV0 (d1 := d - 1) (a1 := 0) (a2 := al) dX1_judge_61 mtX8_sumRanks ivX8_sumRanks mlX1_121 (Nat.le_of_ble_eq_true rfl) (Nat.le_of_ble_eq_true rfl) (by omega) (by omega) (hS.at rfl rfl rfl) rfl rfl (hrk) ?_
    rintro r_ τ_ ⟨hr_, ht_⟩; subst r_; subst τ_
    refine pw_istore_n dX1_judge_64 (Nat.le_of_ble_eq_true rfl) (Nat.le_of_ble_eq_true rfl) rfl ?_
    refine pw_aload_n dX1_judge_65 rfl ?_
    refine pw_getI dX1_judge_66 flX1_57 rfl (hS.at rfl rfl rfl) ?_
    rw [k10]
    refine pw_iconst (v := 1) dX1_judge_69 (by decide) ?_
    refine pw_icmp_eq (tgt := 97) dX1_judge_70 (by decide) (fun h70 => ?_) (fun h70 => ?_)
    · refine pw_aload_n dX1_judge_97 rfl ?_
      refine pw_aload_n dX1_judge_98 rfl ?_
      refine pw_getF (v := 39) dX1_judge_99 flX1_26 rfl (hS.at rfl rfl rfl) (hS.rf (38, 2, 39) rfl (by decide)) ?_
      refine pw_cV0 (d1 := d - 1) (a1 := 0) (a2 := al) dX1_judge_102 mtX8_bits ivX8_bits mlX1_124 (Nat.le_of_ble_eq_true rfl) (Nat.le_of_ble_eq_true rfl) (by omega) (by omega) (hS.at rfl rfl rfl) rfl rfl (hbi) ?_
      rintro r_ τ_ ⟨hr_, ht_⟩; subst r_; subst τ_
      refine pw_putI dX1_judge_105 flX1_67 ⟨_, rfl, Or.inl rfl⟩ rfl (hS.at rfl rfl rfl) ?_
      refine pw_aload_n dX1_judge_108 rfl ?_
      refine pw_iload_n dX1_judge_109 rfl ?_
      refine pw_putI dX1_judge_110 flX1_70 ⟨_, rfl, Or.inl rfl⟩ rfl (hS.at rfl rfl rfl) ?_
      refine pw_aload_n dX1_judge_113 rfl ?_
      refine pw_iload_n dX1_judge_114 rfl ?_
      refine pw_putI dX1_judge_115 flX1_73 ⟨_, rfl, Or.inl rfl⟩ rfl (hS.at rfl rfl rfl) ?_
      refine pw_vret dX1_judge_118 rfl ?_
      first | exact hU (fun z => hbar.mp z h27) (Or.inl (one.mp h70)) | exact hU (fun z => hbar.mp z h27) (Or.inr (Or.inl h78)) | exact hU (fun z => hbar.mp z h27) (Or.inr (Or.inr ⟨h86, Int32.not_le.mp h94⟩)) | exact hN (fun z => hbar.mp z h27) (fun z => z.elim (fun y => h70 (one.mpr y)) (fun z => z.elim (fun y => h78 y) (fun y => h86 y.1))) | exact hN (fun z => hbar.mp z h27) (fun z => z.elim (fun y => h70 (one.mpr y)) (fun z => z.elim (fun y => h78 y) (fun y => absurd h94 (Int32.not_le.mpr y.2))))
    · refine pw_iload_n dX1_judge_73 rfl ?_
      refine pw_aload_n dX1_judge_74 rfl ?_
      refine pw_getI dX1_judge_75 flX1_70 rfl (hS.at rfl rfl rfl) ?_
      rw [k12]
      refine pw_icmp_lt (tgt := 97) dX1_judge_78 (by decide) (fun h78 => ?_) (fun h78 => ?_)
      · refine pw_aload_n dX1_judge_97 rfl ?_
        refine pw_aload_n dX1_judge_98 rfl ?_
        refine pw_getF (v := 39) dX1_judge_99 flX1_26 rfl (hS.at rfl rfl rfl) (hS.rf (38, 2, 39) rfl (by decide)) ?_
        refine pw_cV0 (d1 := d - 1) (a1 := 0) (a2 := al) dX1_judge_102 mtX8_bits ivX8_bits mlX1_124 (Nat.le_of_ble_eq_true rfl) (Nat.le_of_ble_eq_true rfl) (by omega) (by omega) (hS.at rfl rfl rfl) rfl rfl (hbi) ?_
        rintro r_ τ_ ⟨hr_, ht_⟩; subst r_; subst τ_
        refine pw_putI dX1_judge_105 flX1_67 ⟨_, rfl, Or.inl rfl⟩ rfl (hS.at rfl rfl rfl) ?_
        refine pw_aload_n dX1_judge_108 rfl ?_
        refine pw_iload_n dX1_judge_109 rfl ?_
        refine pw_putI dX1_judge_110 flX1_70 ⟨_, rfl, Or.inl rfl⟩ rfl (hS.at rfl rfl rfl) ?_
        refine pw_aload_n dX1_judge_113 rfl ?_
        refine pw_iload_n dX1_judge_114 rfl ?_
        refine pw_putI dX1_judge_115 flX1_73 ⟨_, rfl, Or.inl rfl⟩ rfl (hS.at rfl rfl rfl) ?_
        refine pw_vret dX1_judge_118 rfl ?_
        first | exact hU (fun z => hbar.mp z h27) (Or.inl (one.mp h70)) | exact hU (fun z => hbar.mp z h27) (Or.inr (Or.inl h78)) | exact hU (fun z => hbar.mp z h27) (Or.inr (Or.inr ⟨h86, Int32.not_le.mp h94⟩)) | exact hN (fun z => hbar.mp z h27) (fun z => z.elim (fun y => h70 (one.mpr y)) (fun z => z.elim (fun y => h78 y) (fun y => h86 y.1))) | exact hN (fun z => hbar.mp z h27) (fun z => z.elim (fun y => h70 (one.mpr y)) (fun z => z.elim (fun y => h78 y) (fun y => absurd h94 (Int32.not_le.mpr y.2))))
      · refine pw_iload_n dX1_judge_81 rfl ?_
        refine pw_aload_n dX1_judge_82 rfl ?_
        refine pw_getI dX1_judge_83 flX1_70 rfl (hS.at rfl rfl rfl) ?_
        rw [k12]
        refine pw_icmp_ne (tgt := 118) dX1_judge_86 (by decide) (fun h86 => ?_) (fun h86 => ?_)
        · refine pw_vret dX1_judge_118 rfl ?_
          first | exact hU (fun z => hbar.mp z h27) (Or.inl (one.mp h70)) | exact hU (fun z => hbar.mp z h27) (Or.inr (Or.inl h78)) | exact hU (fun z => hbar.mp z h27) (Or.inr (Or.inr ⟨h86, Int32.not_le.mp h94⟩)) | exact hN (fun z => hbar.mp z h27) (fun z => z.elim (fun y => h70 (one.mpr y)) (fun z => z.elim (fun y => h78 y) (fun y => h86 y.1))) | exact hN (fun z => hbar.mp z h27) (fun z => z.elim (fun y => h70 (one.mpr y)) (fun z => z.elim (fun y => h78 y) (fun y => absurd h94 (Int32.not_le.mpr y.2))))
        · refine pw_iload_n dX1_judge_89 rfl ?_
          refine pw_aload_n dX1_judge_90 rfl ?_
          refine pw_getI dX1_judge_91 flX1_73 rfl (hS.at rfl rfl rfl) ?_
          rw [k13]
          refine pw_icmp_le (tgt := 118) dX1_judge_94 (by decide) (fun h94 => ?_) (fun h94 => ?_)
          · refine pw_vret dX1_judge_118 rfl ?_
            first | exact hU (fun z => hbar.mp z h27) (Or.inl (one.mp h70)) | exact hU (fun z => hbar.mp z h27) (Or.inr (Or.inl h78)) | exact hU (fun z => hbar.mp z h27) (Or.inr (Or.inr ⟨h86, Int32.not_le.mp h94⟩)) | exact hN (fun z => hbar.mp z h27) (fun z => z.elim (fun y => h70 (one.mpr y)) (fun z => z.elim (fun y => h78 y) (fun y => h86 y.1))) | exact hN (fun z => hbar.mp z h27) (fun z => z.elim (fun y => h70 (one.mpr y)) (fun z => z.elim (fun y => h78 y) (fun y => absurd h94 (Int32.not_le.mpr y.2))))
          · refine pw_aload_n dX1_judge_97 rfl ?_
            refine pw_aload_n dX1_judge_98 rfl ?_
            refine pw_getF (v := 39) dX1_judge_99 flX1_26 rfl (hS.at rfl rfl rfl) (hS.rf (38, 2, 39) rfl (by decide)) ?_
            refine pw_cV0 (d1 := d - 1) (a1 := 0) (a2 := al) dX1_judge_102 mtX8_bits ivX8_bits mlX1_124 (Nat.le_of_ble_eq_true rfl) (Nat.le_of_ble_eq_true rfl) (by omega) (by omega) (hS.at rfl rfl rfl) rfl rfl (hbi) ?_
            rintro r_ τ_ ⟨hr_, ht_⟩; subst r_; subst τ_
            refine pw_putI dX1_judge_105 flX1_67 ⟨_, rfl, Or.inl rfl⟩ rfl (hS.at rfl rfl rfl) ?_
            refine pw_aload_n dX1_judge_108 rfl ?_
            refine pw_iload_n dX1_judge_109 rfl ?_
            refine pw_putI dX1_judge_110 flX1_70 ⟨_, rfl, Or.inl rfl⟩ rfl (hS.at rfl rfl rfl) ?_
            refine pw_aload_n dX1_judge_113 rfl ?_
            refine pw_iload_n dX1_judge_114 rfl ?_
            refine pw_putI dX1_judge_115 flX1_73 ⟨_, rfl, Or.inl rfl⟩ rfl (hS.at rfl rfl rfl) ?_
            refine pw_vret dX1_judge_118 rfl ?_
            first | exact hU (fun z => hbar.mp z h27) (Or.inl (one.mp h70)) | exact hU (fun z => hbar.mp z h27) (Or.inr (Or.inl h78)) | exact hU (fun z => hbar.mp z h27) (Or.inr (Or.inr ⟨h86, Int32.not_le.mp h94⟩)) | exact hN (fun z => hbar.mp z h27) (fun z => z.elim (fun y => h70 (one.mpr y)) (fun z => z.elim (fun y => h78 y) (fun y => h86 y.1))) | exact hN (fun z => hbar.mp z h27) (fun z => z.elim (fun y => h70 (one.mpr y)) (fun z => z.elim (fun y => h78 y) (fun y => absurd h94 (Int32.not_le.mpr y.2))))
  · refine pw_vret dX1_judge_30 rfl ?_
    exact ⟨rfl, c1, by rw [show bJd σ rs m se g js T = js from jd_b (hbar.mpr h27)]; exact j1, fun j => by rw [r1]⟩
