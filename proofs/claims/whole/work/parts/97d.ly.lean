/-! ===== the class: every set is laid ===== -/
abbrev fitP (σ : pm_S) (e : Nat) (house se : Int32) (k t : Nat) : Prop := qI σ 51 t = -1 ∧ kd σ t = k ∧ m_ke σ e t (qI σ 43 0) = house ∧ sb (qI σ 47 t) se = 1
def bP (σ : pm_S) (e : Nat) (house se : Int32) (k t : Nat) : Bool := decide (fitP σ e house se k t)
def bB (kinds : Int32) (k : Nat) : Bool := bt kinds k
theorem sb_01 {x se : Int32} (h : 0 ≤ se ∧ se ≤ 3) : sb x se ≠ 0 ↔ sb x se = 1 := by
  obtain ⟨k, hk, rfl⟩ := g_nI ⟨h.1, Int32.le_trans h.2 (by decide)⟩
  rw [ne_eq, sb_0 x (by omega), sb_1 x (by omega)]
  exact Decidable.not_not
/-- the kinds below k, and those that are not asked for, stand in the set -/
def sP (σ τ : pm_S) (kinds : Int32) (k : Nat) (T : tup) : Prop := ∀ j, j < 5 → (j < k ∨ ¬ bB kinds j = true) → qR τ 40 j = tr σ T j
def sK (τ ρ : pm_S) (kinds : Int32) (k : Nat) : Prop := ∀ j, j < 5 → (j < k ∨ ¬ bB kinds j = true) → qR ρ 40 j = qR τ 40 j
theorem or_up {kinds : Int32} {j k : Nat} (h : j < k ∨ ¬ bB kinds j = true) : j < k + 1 ∨ ¬ bB kinds j = true := h.imp (fun w => Nat.lt_succ_of_lt w) id
theorem or_dn {kinds : Int32} {j k : Nat} (hjk : j ≠ k) (h : j < k + 1 ∨ ¬ bB kinds j = true) : j < k ∨ ¬ bB kinds j = true := h.imp (fun w => by omega) id
def lyQ (σ τ : pm_S) (a : Nat) (house se g kinds : Int32) (k : Nat) (js : jst) (v : Option Value) (ρ : pm_S) : Prop := v = none ∧ cbC σ ρ a house se g kinds ∧ cbJ ρ js ∧ sK τ ρ kinds k
theorem t_ly_lp {d al n e m a r q0 k : Nat} {σ : pm_S} {rs : List (List stp)} {house se g kinds : Int32} {T : tup} (hd : 8 ≤ d) (hX : bCx σ n e m rs a r) (hse : 0 ≤ se ∧ se ≤ 3) (hk : k < 5) (hB : bB kinds k = true) (hT : ∀ i s, T i = some s → s < n)
    (ih : ∀ (τ : pm_S) (js : jst) (T' : tup), cbC σ τ a house se g kinds → cbJ τ js → sP σ τ kinds (k + 1) T' → (∀ i s, T' i = some s → s < n) → js.1 + (tl (bP σ e house se) (bB kinds) n q0 (k + 1) T').length < 2 ^ 31 - 1 → PM (d - 1) 0 MX1_layFrom [.ref 38, .int (nI (k + 1))] τ (lyQ σ τ a house se g kinds (k + 1) ((tl (bP σ e house se) (bB kinds) n q0 (k + 1) T').foldl (bJd σ rs m se g) js))) :
    ∀ (q t : Nat) (τ : pm_S) (js : jst) (x : Value), t + q = n → cbC σ τ a house se g kinds → cbJ τ js → sP σ τ kinds k T → js.1 + ((cdl (bP σ e house se k) q t).flatMap (fun s => tl (bP σ e house se) (bB kinds) n q0 (k + 1) (oU T k s))).length < 2 ^ 31 - 1 → PW d al MX1_layFrom 35 [.ref 38, .int (nI k), .int (nI t), x] [] τ (lyQ σ τ a house se g kinds k (((cdl (bP σ e house se k) q t).flatMap (fun s => tl (bP σ e house se) (bB kinds) n q0 (k + 1) (oU T k s))).foldl (bJd σ rs m se g) js)) := by
  obtain ⟨x1, x2, x3, x4⟩ := hX
  have hn2 := x2.1.2.1
  intro q
  induction q with
  | zero =>
    intro t τ js x ht hC hj hP hb
    have hS := hC.1.fix x1
    have hJ := hC.1.j1 x1 x2
    have hcn := hJ.1.1
    have htn : t = n := by omega
    subst htn
    refine pw_iload_n dX1_layFrom_35 rfl ?_
    refine pw_aload_n dX1_layFrom_36 rfl ?_
    refine pw_getF (v := 7) dX1_layFrom_37 flX1_9 rfl (hS.at rfl rfl rfl) (hS.rf (38, 0, 7) rfl (by decide)) ?_
    refine pw_cV0 (d1 := d - 1) (a1 := 0) (a2 := al) dX1_layFrom_40 mtX6_count ivX6_count mlX1_79 (Nat.le_of_ble_eq_true rfl) (Nat.le_of_ble_eq_true rfl) (by omega) (by omega) (hS.at rfl rfl rfl) rfl rfl (t_count hS) ?_
    rintro r_ τ_ ⟨hr_, ht_⟩; subst r_; subst τ_
    rw [hcn]
    refine pw_icmp_ge (tgt := 111) dX1_layFrom_43 (by decide) (fun h43 => ?_) (fun h43 => ?_)
    · refine pw_vret dX1_layFrom_111 rfl ?_
      exact ⟨rfl, hC, hj, fun _ _ _ => rfl⟩
    · exact absurd (Int32.le_refl _) h43
  | succ q ihq =>
    intro t τ js x ht hC hj hP hb
    have hS := hC.1.fix x1
    have hJ := hC.1.j1 x1 x2
    have hcn := hJ.1.1
    have htn : t < n := by omega
    have hft := t_findThere (d := d - 1) (al := 0) (by omega) hS hJ.1 (nI t)
    have hI : ∀ b j, ¬ kI b j → qI τ b j = qI σ b j := hC.1.1
    -- what is known of thing t
    obtain ⟨f1, f2, f3, f4, f5, f6, f7, f8, f9⟩ := hJ.1.at htn
    have hkd : kd τ t = kd σ t := by unfold kd; rw [hI 44 t (by unfold kI; omega)]
    have hki := (kd_at hJ t htn).1
    rw [hkd] at hki
    have hkd5 := (kd_ok x2 htn).2
    have hth : (hX (fun t => h_s τ t e) t).2.2.2.2 = 1 ↔ qI σ 51 t = -1 := by
      rw [← hI 51 t (by unfold kI; omega)]
      exact (j_th hJ htn).symm
    have hke : qI τ (qR τ (qR τ 8 t) 8) 3 = m_ke σ e t (qI σ 43 0) := by
      rw [f6, show (hX (fun t => h_s τ t e) t).2.2.1 = m_ke τ e t (qI τ 43 0) from (h_now hn2 htn hJ.2.2.2.2.2.2.2.1).2.1, m_ke_cg (fun b k a c => hI b k (by unfold kI; omega)), hI 43 0 (by unfold kI; omega)]
    have hsu : qI τ (qR τ 8 t) 4 = qI σ 47 t := by
      rw [(hJ.2.2.2.2.2.2.2.2.2 t htn).1.2.2.2.1, hI 47 t (by unfold kI; omega)]
    have hkk : nI (kd σ t) = nI k ↔ kd σ t = k := nI_eq (by omega) (by omega)
    have hho : qI τ 38 5 = house := hC.2.1.1
    have hss : qI τ 38 6 = se := hC.2.1.2.1
    have hs1 := sb_01 (x := qI σ 47 t) hse
    by_cases z0 : qI σ 51 t = -1
    · -- it is there
      have hcth : cTh (fun t => h_s τ t e) n (nI t) := ⟨tOk_nI htn (by omega), by rw [nI_clamp (by omega)]; exact hth.mpr z0⟩
      have hft2 : c_ft τ (fun t => h_s τ t e) n (nI t) = qR τ 8 t := by
        unfold c_ft
        rw [if_pos hcth, nI_clamp (by omega)]
      rw [hft2] at hft
      by_cases z1 : fitP σ e house se k t
      · have hPt : bP σ e house se k t = true := decide_eq_true z1
        rw [cdl_t hPt, List.flatMap_cons, List.length_append] at hb
        rw [cdl_t hPt, List.flatMap_cons, List.foldl_append]
        obtain ⟨z2, z3, z4, z5⟩ := z1
        -- the thing is laid
        obtain ⟨τ1, hτ1⟩ : ∃ τ1, τ1 = pm_sR τ 40 k (qR τ 8 t) := ⟨_, rfl⟩
        have C1 : cbC σ τ1 a house se g kinds := by rw [hτ1]; exact hC.sR
        have J1' : cbJ τ1 js := by rw [hτ1]; exact hj
        have P1 : sP σ τ1 kinds (k + 1) (oU T k t) := fun j h5 hh => by
          rw [hτ1, qR_sR]
          by_cases y : j = k
          · subst y
            rw [if_pos ⟨rfl, rfl⟩, tr_s oU_same]
            exact hC.1.2.1 8 t (by unfold kR; omega)
          · rw [if_neg (fun w => y w.2), hP j h5 (or_dn y hh)]
            unfold tr
            rw [oU_ne y]
        have T1 : ∀ i s, oU T k t i = some s → s < n := oU_lt hT htn
        have hS1 := C1.1.fix x1
        have hcall := ih τ1 js (oU T k t) C1 J1' P1 T1 (by omega)
        rw [nI_succ] at hcall
        have hlay := t_slay (d := d - 1) (al := 0) hS.ts2 hk f1
        rw [← hτ1] at hlay
        refine pw_iload_n dX1_layFrom_35 rfl ?_
        refine pw_aload_n dX1_layFrom_36 rfl ?_
        refine pw_getF (v := 7) dX1_layFrom_37 flX1_9 rfl (hS.at rfl rfl rfl) (hS.rf (38, 0, 7) rfl (by decide)) ?_
        refine pw_cV0 (d1 := d - 1) (a1 := 0) (a2 := al) dX1_layFrom_40 mtX6_count ivX6_count mlX1_79 (Nat.le_of_ble_eq_true rfl) (Nat.le_of_ble_eq_true rfl) (by omega) (by omega) (hS.at rfl rfl rfl) rfl rfl (t_count hS) ?_
        rintro r_ τ_ ⟨hr_, ht_⟩; subst r_; subst τ_
        rw [hcn]
        refine pw_icmp_ge (tgt := 111) dX1_layFrom_43 (by decide) (fun h43 => ?_) (fun h43 => ?_)
        · exact absurd h43 (nI_ge htn (by omega))
        · refine pw_aload_n dX1_layFrom_46 rfl ?_
          refine pw_getF (v := 7) dX1_layFrom_47 flX1_9 rfl (hS.at rfl rfl rfl) (hS.rf (38, 0, 7) rfl (by decide)) ?_
          refine pw_iload_n dX1_layFrom_50 rfl ?_
          refine pw_cV1 (d1 := d - 1) (a1 := 0) (a2 := al) dX1_layFrom_51 mtX6_findThere ivX6_findThere mlX1_85 (Nat.le_of_ble_eq_true rfl) (Nat.le_of_ble_eq_true rfl) (by omega) (by omega) (hS.at rfl rfl rfl) rfl rfl (hft) ?_
          rintro r_ τ_ ⟨hr_, ht_⟩; subst r_; subst τ_
          refine pw_astore_n dX1_layFrom_54 (Nat.le_of_ble_eq_true rfl) (Nat.le_of_ble_eq_true rfl) rfl ?_
          refine pw_aload_n dX1_layFrom_55 rfl ?_
          refine pw_ifnull (tgt := 105) dX1_layFrom_56 (by decide) (fun h56 => ?_) (fun h56 => ?_)
          · omega
          · refine pw_aload_n dX1_layFrom_59 rfl ?_
            refine pw_getI dX1_layFrom_60 flX1_89 rfl f1 ?_
            rw [hki]
            refine pw_iload_n dX1_layFrom_63 rfl ?_
            refine pw_icmp_ne (tgt := 105) dX1_layFrom_64 (by decide) (fun h64 => ?_) (fun h64 => ?_)
            · exact absurd (hkk.mpr z3) h64
            · refine pw_aload_n dX1_layFrom_67 rfl ?_
              refine pw_cV0 (d1 := d - 1) (a1 := 0) (a2 := al) dX1_layFrom_68 mtX9_keeper ivX9_keeper mlX1_94 (Nat.le_of_ble_eq_true rfl) (Nat.le_of_ble_eq_true rfl) (by omega) (by omega) f1 rfl rfl (t_keeper f1 f3) ?_
              rintro r_ τ_ ⟨hr_, ht_⟩; subst r_; subst τ_
              rw [hke]
              refine pw_aload_n dX1_layFrom_71 rfl ?_
              refine pw_getI dX1_layFrom_72 flX1_37 rfl (hS.at rfl rfl rfl) ?_
              rw [hho]
              refine pw_icmp_ne (tgt := 105) dX1_layFrom_75 (by decide) (fun h75 => ?_) (fun h75 => ?_)
              · exact absurd z4 h75
              · refine pw_aload_n dX1_layFrom_78 rfl ?_
                refine pw_aload_n dX1_layFrom_79 rfl ?_
                refine pw_getI dX1_layFrom_80 flX1_41 rfl (hS.at rfl rfl rfl) ?_
                rw [hss]
                refine pw_cV1 (d1 := d - 1) (a1 := 0) (a2 := al) dX1_layFrom_83 mtX9_suits ivX9_suits mlX1_97 (Nat.le_of_ble_eq_true rfl) (Nat.le_of_ble_eq_true rfl) (by omega) (by omega) f1 rfl rfl (t_suits f1 _) ?_
                rintro r_ τ_ ⟨hr_, ht_⟩; subst r_; subst τ_
                rw [hsu]
                refine pw_if_eq (tgt := 105) dX1_layFrom_86 (by decide) (fun h86 => ?_) (fun h86 => ?_)
                · exact absurd (hs1.mpr z5) (bI_0.mp h86)
                · refine pw_aload_n dX1_layFrom_89 rfl ?_
                  refine pw_getF (v := 39) dX1_layFrom_90 flX1_26 rfl (hS.at rfl rfl rfl) (hS.rf (38, 2, 39) rfl (by decide)) ?_
                  refine pw_iload_n dX1_layFrom_93 rfl ?_
                  refine pw_aload_n dX1_layFrom_94 rfl ?_
                  refine pw_cV2 (d1 := d - 1) (a1 := 0) (a2 := al) dX1_layFrom_95 mtX8_lay ivX8_lay mlX1_101 (Nat.le_of_ble_eq_true rfl) (Nat.le_of_ble_eq_true rfl) (by omega) (by omega) (hS.at rfl rfl rfl) rfl rfl (hlay) ?_
                  rintro r_ τ_ ⟨hr_, ht_⟩; subst r_; subst τ_
                  refine pw_aload_n dX1_layFrom_98 rfl ?_
                  refine pw_iload_n dX1_layFrom_99 rfl ?_
                  refine pw_iconst (v := 1) dX1_layFrom_100 (by decide) ?_
                  refine pw_iadd dX1_layFrom_101 ?_
                  refine pw_cV1 (d1 := d - 1) (a1 := 0) (a2 := al) dX1_layFrom_102 mtX1_layFrom ivX1_layFrom mlX1_63 (Nat.le_of_ble_eq_true rfl) (Nat.le_of_ble_eq_true rfl) (by omega) (by omega) (hS1.at rfl rfl rfl) rfl rfl (hcall) ?_
                  rintro r_ τ2 ⟨hr_, C2, J2_, K2⟩; subst r_
                  refine pw_iinc1 dX1_layFrom_105 rfl (Nat.le_of_ble_eq_true rfl) (Nat.le_of_ble_eq_true rfl) rfl ?_
                  refine pw_goto (tgt := 35) dX1_layFrom_108 (by decide) ?_
                  have P2 : sP σ τ2 kinds k T := fun j h5 hh => by
                    have hjk : j ≠ k := fun y => hh.elim (fun w => by omega) (fun w => w (by rw [y]; exact hB))
                    rw [K2 j h5 (or_up hh), hτ1, qR_sR, if_neg (fun w => hjk w.2)]
                    exact hP j h5 hh
                  have hle : ((tl (bP σ e house se) (bB kinds) n q0 (k + 1) (oU T k t)).foldl (bJd σ rs m se g) js).1 ≤ js.1 + (tl (bP σ e house se) (bB kinds) n q0 (k + 1) (oU T k t)).length := (jf_le (bar := bBar σ rs se g) (ag := bAg σ m g) (rk := bRk σ) (bi := bBi) (tl (bP σ e house se) (bB kinds) n q0 (k + 1) (oU T k t)) js).2
                  have hq := ihq (t + 1) τ2 _ (.ref (qR τ 8 t)) (by omega) C2 J2_ P2 (by omega)
                  rw [nI_succ] at hq
                  refine PW.post ?_ hq
                  rintro v ρ ⟨w1, w2, w3, w4⟩
                  refine ⟨w1, w2, w3, fun j h5 hh => ?_⟩
                  have hjk : j ≠ k := fun y => hh.elim (fun w => by omega) (fun w => w (by rw [y]; exact hB))
                  rw [w4 j h5 hh, K2 j h5 (or_up hh), hτ1, qR_sR, if_neg (fun w => hjk w.2)]
      · have hPt : ¬ bP σ e house se k t = true := fun y => z1 (of_decide_eq_true y)
        rw [cdl_f hPt] at hb ⊢
        have hq := ihq (t + 1) τ js (.ref (qR τ 8 t)) (by omega) hC hj hP hb
        rw [nI_succ] at hq
        refine pw_iload_n dX1_layFrom_35 rfl ?_
        refine pw_aload_n dX1_layFrom_36 rfl ?_
        refine pw_getF (v := 7) dX1_layFrom_37 flX1_9 rfl (hS.at rfl rfl rfl) (hS.rf (38, 0, 7) rfl (by decide)) ?_
        refine pw_cV0 (d1 := d - 1) (a1 := 0) (a2 := al) dX1_layFrom_40 mtX6_count ivX6_count mlX1_79 (Nat.le_of_ble_eq_true rfl) (Nat.le_of_ble_eq_true rfl) (by omega) (by omega) (hS.at rfl rfl rfl) rfl rfl (t_count hS) ?_
        rintro r_ τ_ ⟨hr_, ht_⟩; subst r_; subst τ_
        rw [hcn]
        refine pw_icmp_ge (tgt := 111) dX1_layFrom_43 (by decide) (fun h43 => ?_) (fun h43 => ?_)
        · exact absurd h43 (nI_ge htn (by omega))
        · refine pw_aload_n dX1_layFrom_46 rfl ?_
          refine pw_getF (v := 7) dX1_layFrom_47 flX1_9 rfl (hS.at rfl rfl rfl) (hS.rf (38, 0, 7) rfl (by decide)) ?_
          refine pw_iload_n dX1_layFrom_50 rfl ?_
          refine pw_cV1 (d1 := d - 1) (a1 := 0) (a2 := al) dX1_layFrom_51 mtX6_findThere ivX6_findThere mlX1_85 (Nat.le_of_ble_eq_true rfl) (Nat.le_of_ble_eq_true rfl) (by omega) (by omega) (hS.at rfl rfl rfl) rfl rfl (hft) ?_
          rintro r_ τ_ ⟨hr_, ht_⟩; subst r_; subst τ_
          refine pw_astore_n dX1_layFrom_54 (Nat.le_of_ble_eq_true rfl) (Nat.le_of_ble_eq_true rfl) rfl ?_
          refine pw_aload_n dX1_layFrom_55 rfl ?_
          refine pw_ifnull (tgt := 105) dX1_layFrom_56 (by decide) (fun h56 => ?_) (fun h56 => ?_)
          · omega
          · refine pw_aload_n dX1_layFrom_59 rfl ?_
            refine pw_getI dX1_layFrom_60 flX1_89 rfl f1 ?_
            rw [hki]
            refine pw_iload_n dX1_layFrom_63 rfl ?_
            refine pw_icmp_ne (tgt := 105) dX1_layFrom_64 (by decide) (fun h64 => ?_) (fun h64 => ?_)
            · refine pw_iinc1 dX1_layFrom_105 rfl (Nat.le_of_ble_eq_true rfl) (Nat.le_of_ble_eq_true rfl) rfl ?_
              refine pw_goto (tgt := 35) dX1_layFrom_108 (by decide) ?_
              exact hq
            · refine pw_aload_n dX1_layFrom_67 rfl ?_
              refine pw_cV0 (d1 := d - 1) (a1 := 0) (a2 := al) dX1_layFrom_68 mtX9_keeper ivX9_keeper mlX1_94 (Nat.le_of_ble_eq_true rfl) (Nat.le_of_ble_eq_true rfl) (by omega) (by omega) f1 rfl rfl (t_keeper f1 f3) ?_
              rintro r_ τ_ ⟨hr_, ht_⟩; subst r_; subst τ_
              rw [hke]
              refine pw_aload_n dX1_layFrom_71 rfl ?_
              refine pw_getI dX1_layFrom_72 flX1_37 rfl (hS.at rfl rfl rfl) ?_
              rw [hho]
              refine pw_icmp_ne (tgt := 105) dX1_layFrom_75 (by decide) (fun h75 => ?_) (fun h75 => ?_)
              · refine pw_iinc1 dX1_layFrom_105 rfl (Nat.le_of_ble_eq_true rfl) (Nat.le_of_ble_eq_true rfl) rfl ?_
                refine pw_goto (tgt := 35) dX1_layFrom_108 (by decide) ?_
                exact hq
              · refine pw_aload_n dX1_layFrom_78 rfl ?_
                refine pw_aload_n dX1_layFrom_79 rfl ?_
                refine pw_getI dX1_layFrom_80 flX1_41 rfl (hS.at rfl rfl rfl) ?_
                rw [hss]
                refine pw_cV1 (d1 := d - 1) (a1 := 0) (a2 := al) dX1_layFrom_83 mtX9_suits ivX9_suits mlX1_97 (Nat.le_of_ble_eq_true rfl) (Nat.le_of_ble_eq_true rfl) (by omega) (by omega) f1 rfl rfl (t_suits f1 _) ?_
                rintro r_ τ_ ⟨hr_, ht_⟩; subst r_; subst τ_
                rw [hsu]
                refine pw_if_eq (tgt := 105) dX1_layFrom_86 (by decide) (fun h86 => ?_) (fun h86 => ?_)
                · refine pw_iinc1 dX1_layFrom_105 rfl (Nat.le_of_ble_eq_true rfl) (Nat.le_of_ble_eq_true rfl) rfl ?_
                  refine pw_goto (tgt := 35) dX1_layFrom_108 (by decide) ?_
                  exact hq
                · exact absurd ⟨z0, hkk.mp h64, h75, hs1.mp (bI_n.mp h86)⟩ z1
    · -- it is not
      have hPt : ¬ bP σ e house se k t = true := fun y => z0 (of_decide_eq_true y).1
      rw [cdl_f hPt] at hb ⊢
      have hft2 : c_ft τ (fun t => h_s τ t e) n (nI t) = 0 := by
        unfold c_ft
        rw [if_neg (fun y => z0 (hth.mp (by have := y.2; rw [nI_clamp (by omega)] at this; exact this)))]
      rw [hft2] at hft
      have hq := ihq (t + 1) τ js (.ref 0) (by omega) hC hj hP hb
      rw [nI_succ] at hq
      refine pw_iload_n dX1_layFrom_35 rfl ?_
      refine pw_aload_n dX1_layFrom_36 rfl ?_
      refine pw_getF (v := 7) dX1_layFrom_37 flX1_9 rfl (hS.at rfl rfl rfl) (hS.rf (38, 0, 7) rfl (by decide)) ?_
      refine pw_cV0 (d1 := d - 1) (a1 := 0) (a2 := al) dX1_layFrom_40 mtX6_count ivX6_count mlX1_79 (Nat.le_of_ble_eq_true rfl) (Nat.le_of_ble_eq_true rfl) (by omega) (by omega) (hS.at rfl rfl rfl) rfl rfl (t_count hS) ?_
      rintro r_ τ_ ⟨hr_, ht_⟩; subst r_; subst τ_
      rw [hcn]
      refine pw_icmp_ge (tgt := 111) dX1_layFrom_43 (by decide) (fun h43 => ?_) (fun h43 => ?_)
      · exact absurd h43 (nI_ge htn (by omega))
      · refine pw_aload_n dX1_layFrom_46 rfl ?_
        refine pw_getF (v := 7) dX1_layFrom_47 flX1_9 rfl (hS.at rfl rfl rfl) (hS.rf (38, 0, 7) rfl (by decide)) ?_
        refine pw_iload_n dX1_layFrom_50 rfl ?_
        refine pw_cV1 (d1 := d - 1) (a1 := 0) (a2 := al) dX1_layFrom_51 mtX6_findThere ivX6_findThere mlX1_85 (Nat.le_of_ble_eq_true rfl) (Nat.le_of_ble_eq_true rfl) (by omega) (by omega) (hS.at rfl rfl rfl) rfl rfl (hft) ?_
        rintro r_ τ_ ⟨hr_, ht_⟩; subst r_; subst τ_
        refine pw_astore_n dX1_layFrom_54 (Nat.le_of_ble_eq_true rfl) (Nat.le_of_ble_eq_true rfl) rfl ?_
        refine pw_aload_n dX1_layFrom_55 rfl ?_
        refine pw_ifnull (tgt := 105) dX1_layFrom_56 (by decide) (fun h56 => ?_) (fun h56 => ?_)
        · refine pw_iinc1 dX1_layFrom_105 rfl (Nat.le_of_ble_eq_true rfl) (Nat.le_of_ble_eq_true rfl) rfl ?_
          refine pw_goto (tgt := 35) dX1_layFrom_108 (by decide) ?_
          exact hq
        · exact absurd h56 (Nat.lt_irrefl 0)
theorem t_ly {n e m a r : Nat} {σ : pm_S} {rs : List (List stp)} {house se g kinds : Int32} (hX : bCx σ n e m rs a r) (hse : 0 ≤ se ∧ se ≤ 3) (hg : lt8 g) : ∀ (q k d al : Nat) (τ : pm_S) (js : jst) (T : tup), q + k = 5 → q + 8 ≤ d → cbC σ τ a house se g kinds → cbJ τ js → sP σ τ kinds k T → (∀ i s, T i = some s → s < n) → js.1 + (tl (bP σ e house se) (bB kinds) n q k T).length < 2 ^ 31 - 1 → PM d al MX1_layFrom [.ref 38, .int (nI k)] τ (lyQ σ τ a house se g kinds k ((tl (bP σ e house se) (bB kinds) n q k T).foldl (bJd σ rs m se g) js)) := by
  intro q
  induction q with
  | zero =>
    intro k d al τ js T hk hd hC hj hP hT hb
    have hS := hC.1.fix hX.1
    have hk5 : k = 5 := by omega
    subst hk5
    have hb : js.1 + 1 < 2 ^ 31 - 1 := hb
    have htr : ∀ j, tr τ T j = tr σ T j := fun j => by
      unfold tr
      cases T j with
      | none => rfl
      | some t => exact hC.1.2.1 8 t (by unfold kR; omega)
    have hju := t_judge (d := d - 1) (al := 0) (by omega) hX hg hC hj ⟨fun j h5 => by rw [htr]; exact hP j h5 (Or.inl h5), hT⟩ (by omega)
    show PW _ _ _ _ _ _ _ _
    refine pw_iload_n dX1_layFrom_0 rfl ?_
    refine pw_iconst (v := 5) dX1_layFrom_1 (by decide) ?_
    refine pw_icmp_lt (tgt := 12) dX1_layFrom_2 (by decide) (fun h2 => ?_) (fun h2 => ?_)
    · exact absurd h2 (by decide)
    · refine pw_aload_n dX1_layFrom_5 rfl ?_
      refine pw_cV0 (d1 := d - 1) (a1 := 0) (a2 := al) dX1_layFrom_6 mtX1_judge ivX1_judge mlX1_76 (Nat.le_of_ble_eq_true rfl) (Nat.le_of_ble_eq_true rfl) (by omega) (by omega) (hS.at rfl rfl rfl) rfl rfl (hju) ?_
      rintro r_ τ2 ⟨hr_, C2, J2_, K2⟩; subst r_
      refine pw_goto (tgt := 111) dX1_layFrom_9 (by decide) ?_
      refine pw_vret dX1_layFrom_111 rfl ?_
      exact ⟨rfl, C2, J2_, fun j _ _ => K2 j⟩
  | succ q ih =>
    intro k d al τ js T hk hd hC hj hP hT hb
    have hS := hC.1.fix hX.1
    have hk5 : k < 5 := by omega
    have hks : qI τ 38 8 = kinds := hC.2.1.2.2.2.1
    have e0 := sb_0 kinds (t := k) (by omega)
    show PW _ _ _ _ _ _ _ _
    by_cases z : bB kinds k = true
    · rw [tl_s z] at hb ⊢
      have hlp := t_ly_lp (d := d) (al := al) (q0 := q) (by omega) hX hse hk5 z hT (fun τ' js' T' c1 c2 c3 c4 c5 => ih (k + 1) (d - 1) 0 τ' js' T' (by omega) (by omega) c1 c2 c3 c4 c5) n 0 τ js (.retAddr 0) (by omega) hC hj hP hb
      refine pw_iload_n dX1_layFrom_0 rfl ?_
      refine pw_iconst (v := 5) dX1_layFrom_1 (by decide) ?_
      refine pw_icmp_lt (tgt := 12) dX1_layFrom_2 (by decide) (fun h2 => ?_) (fun h2 => ?_)
      · refine pw_aload_n dX1_layFrom_12 rfl ?_
        refine pw_getI dX1_layFrom_13 flX1_51 rfl (hS.at rfl rfl rfl) ?_
        rw [hks]
        refine pw_iload_n dX1_layFrom_16 rfl ?_
        refine pw_ishr dX1_layFrom_17 ?_
        refine pw_iconst (v := 1) dX1_layFrom_18 (by decide) ?_
        refine pw_iand dX1_layFrom_19 ?_
        refine pw_if_ne (tgt := 33) dX1_layFrom_20 (by decide) (fun h20 => ?_) (fun h20 => ?_)
        · refine pw_iconst (v := 0) dX1_layFrom_33 (by decide) ?_
          refine pw_istore_n dX1_layFrom_34 (Nat.le_of_ble_eq_true rfl) (Nat.le_of_ble_eq_true rfl) rfl ?_
          exact hlp
        · exact absurd z (e0.mp h20)
      · exact absurd (nI_lt hk5 (by decide)) h2
    · rw [tl_n z] at hb ⊢
      have hcall := ih (k + 1) (d - 1) 0 τ js T (by omega) (by omega) hC hj (fun j h5 hh => hP j h5 (by
        by_cases y : j = k
        · exact Or.inr (by rw [y]; exact z)
        · exact hh.elim (fun w => Or.inl (by omega)) Or.inr)) hT hb
      rw [nI_succ] at hcall
      refine pw_iload_n dX1_layFrom_0 rfl ?_
      refine pw_iconst (v := 5) dX1_layFrom_1 (by decide) ?_
      refine pw_icmp_lt (tgt := 12) dX1_layFrom_2 (by decide) (fun h2 => ?_) (fun h2 => ?_)
      · refine pw_aload_n dX1_layFrom_12 rfl ?_
        refine pw_getI dX1_layFrom_13 flX1_51 rfl (hS.at rfl rfl rfl) ?_
        rw [hks]
        refine pw_iload_n dX1_layFrom_16 rfl ?_
        refine pw_ishr dX1_layFrom_17 ?_
        refine pw_iconst (v := 1) dX1_layFrom_18 (by decide) ?_
        refine pw_iand dX1_layFrom_19 ?_
        refine pw_if_ne (tgt := 33) dX1_layFrom_20 (by decide) (fun h20 => ?_) (fun h20 => ?_)
        · exact absurd (e0.mpr z) h20
        · refine pw_aload_n dX1_layFrom_23 rfl ?_
          refine pw_iload_n dX1_layFrom_24 rfl ?_
          refine pw_iconst (v := 1) dX1_layFrom_25 (by decide) ?_
          refine pw_iadd dX1_layFrom_26 ?_
          refine pw_cV1 (d1 := d - 1) (a1 := 0) (a2 := al) dX1_layFrom_27 mtX1_layFrom ivX1_layFrom mlX1_63 (Nat.le_of_ble_eq_true rfl) (Nat.le_of_ble_eq_true rfl) (by omega) (by omega) (hS.at rfl rfl rfl) rfl rfl (hcall) ?_
          rintro r_ τ2 ⟨hr_, C2, J2_, K2⟩; subst r_
          refine pw_goto (tgt := 111) dX1_layFrom_30 (by decide) ?_
          refine pw_vret dX1_layFrom_111 rfl ?_
          exact ⟨rfl, C2, J2_, fun j h5 hh => K2 j h5 (hh.elim (fun w => Or.inl (by omega)) Or.inr)⟩
      · exact absurd (nI_lt hk5 (by decide)) h2
