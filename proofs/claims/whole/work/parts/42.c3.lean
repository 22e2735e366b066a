/-! ===== the class: things come, pass, are lent ===== -/
theorem c_act_at (τ : pm_S) (a b : Nat) (x1 x2 x3 x4 x5 : Int32) : qI (c_act τ a b x1 x2 x3 x4 x5) a 1 = x1 ∧ qI (c_act τ a b x1 x2 x3 x4 x5) a 2 = x2 ∧ qI (c_act τ a b x1 x2 x3 x4 x5) a 3 = x3 ∧ qI (c_act τ a b x1 x2 x3 x4 x5) a 4 = x4 ∧ qI (c_act τ a b x1 x2 x3 x4 x5) a 5 = x5 ∧ qR (c_act τ a b x1 x2 x3 x4 x5) a 0 = b := by
  simp [c_act, qI, qR, pm_sI, pm_sR]
theorem c_act_ne {τ : pm_S} {a b : Nat} {x1 x2 x3 x4 x5 : Int32} {y : Nat} (h : y ≠ a) : (∀ j, qI (c_act τ a b x1 x2 x3 x4 x5) y j = qI τ y j) ∧ ∀ j, qR (c_act τ a b x1 x2 x3 x4 x5) y j = qR τ y j := by
  simp [c_act, qI, qR, pm_sI, pm_sR, h]
theorem c_thing_at (τ : pm_S) (a l : Nat) (x1 x2 x3 x4 x5 x6 x7 x8 : Int32) : qI (c_thing τ a l x1 x2 x3 x4 x5 x6 x7 x8) a 0 = x1 ∧ qI (c_thing τ a l x1 x2 x3 x4 x5 x6 x7 x8) a 1 = x2 ∧ qI (c_thing τ a l x1 x2 x3 x4 x5 x6 x7 x8) a 2 = x3 ∧ qI (c_thing τ a l x1 x2 x3 x4 x5 x6 x7 x8) a 3 = x4 ∧ qI (c_thing τ a l x1 x2 x3 x4 x5 x6 x7 x8) a 4 = x5 ∧ qI (c_thing τ a l x1 x2 x3 x4 x5 x6 x7 x8) a 5 = x6 ∧ qI (c_thing τ a l x1 x2 x3 x4 x5 x6 x7 x8) a 6 = x7 ∧ qI (c_thing τ a l x1 x2 x3 x4 x5 x6 x7 x8) a 7 = x8 ∧ qR (c_thing τ a l x1 x2 x3 x4 x5 x6 x7 x8) a 8 = l := by
  simp [c_thing, qI, qR, pm_sI, pm_sR]
theorem c_thing_ne {τ : pm_S} {a l : Nat} {x1 x2 x3 x4 x5 x6 x7 x8 : Int32} {y : Nat} (h : y ≠ a) : (∀ j, qI (c_thing τ a l x1 x2 x3 x4 x5 x6 x7 x8) y j = qI τ y j) ∧ ∀ j, qR (c_thing τ a l x1 x2 x3 x4 x5 x6 x7 x8) y j = qR τ y j := by
  simp [c_thing, qI, qR, pm_sI, pm_sR, h]
/-- a thing comes: act and thing are new, the shelf has it -/
def c_new (σ : pm_S) (n : Nat) (kind rank tone seasons house : Int32) : pm_S := pm_sI (pm_sR (c_thing (pm_nw (c_act (pm_nw σ 0 0) (qN σ) 0 (qI σ 6 0) house house 0 1) 9 0) (qN σ + 1) (qN σ) (nI n) kind rank tone seasons (qI σ 6 0) (-1) (nI n)) 8 n (qN σ + 1)) 7 1 (nI n + 1)
theorem t_thing {d al n : Nat} {σ : pm_S} (hd : 2 ≤ d) (hS : pm_fix σ) (hn : qI σ 7 1 = nI n) (hn2 : n ≤ 20) (k r c s house : Int32) : PE d (al + 2) MX11_thing [.ref 6, .int k, .int r, .int c, .int s, .int house] σ (some (.int (if okThing n k r c s house then nI n else -1))) (if okThing n k r c s house then c_new σ n k r c s house else σ) := by
  show PW _ _ _ _ _ _ _ _
  have h68 := hS.1
  refine pw_iload_n dX11_thing_0 rfl ?_
  refine pw_iconst (v := 0) dX11_thing_1 (by decide) ?_
  refine pw_iconst (v := 4) dX11_thing_2 (by decide) ?_
  refine pw_cS3 (d1 := d - 1) (a1 := 0) (a2 := al + 2) dX11_thing_3 mtX11_isWithin stX11_isWithin mlX11_79 (Nat.le_of_ble_eq_true rfl) (Nat.le_of_ble_eq_true rfl) (by omega) (by omega) (t_within _ _ _) ?_
  rintro r_ τ_ ⟨hr_, ht_⟩; subst r_; subst τ_
  refine pw_if_eq (tgt := 23) dX11_thing_6 (by decide) (fun h6 => ?_) (fun h6 => ?_)
  · refine pw_iconst (v := (-1)) dX11_thing_23 (by decide) ?_
    refine pw_iret dX11_thing_24 rfl rfl ?_
    have hno : ¬ okThing n k r c s house := by
      first | exact fun z => bI_0.mp h6 z.1 | exact fun z => bI_0.mp h13 z.2.1 | exact fun z => bI_0.mp h20 z.2.2.1
    exact ⟨by rw [if_neg hno], by rw [if_neg hno]⟩
  · refine pw_iload_n dX11_thing_9 rfl ?_
    refine pw_cS1 (d1 := d - 1) (a1 := 0) (a2 := al + 2) dX11_thing_10 mtX11_isMark stX11_isMark mlX11_83 (Nat.le_of_ble_eq_true rfl) (Nat.le_of_ble_eq_true rfl) (by omega) (by omega) (t_mark (by omega) _) ?_
    rintro r_ τ_ ⟨hr_, ht_⟩; subst r_; subst τ_
    refine pw_if_eq (tgt := 23) dX11_thing_13 (by decide) (fun h13 => ?_) (fun h13 => ?_)
    · refine pw_iconst (v := (-1)) dX11_thing_23 (by decide) ?_
      refine pw_iret dX11_thing_24 rfl rfl ?_
      have hno : ¬ okThing n k r c s house := by
        first | exact fun z => bI_0.mp h6 z.1 | exact fun z => bI_0.mp h13 z.2.1 | exact fun z => bI_0.mp h20 z.2.2.1
      exact ⟨by rw [if_neg hno], by rw [if_neg hno]⟩
    · refine pw_iload_n dX11_thing_16 rfl ?_
      refine pw_cS1 (d1 := d - 1) (a1 := 0) (a2 := al + 2) dX11_thing_17 mtX11_isMark stX11_isMark mlX11_83 (Nat.le_of_ble_eq_true rfl) (Nat.le_of_ble_eq_true rfl) (by omega) (by omega) (t_mark (by omega) _) ?_
      rintro r_ τ_ ⟨hr_, ht_⟩; subst r_; subst τ_
      refine pw_if_ne (tgt := 25) dX11_thing_20 (by decide) (fun h20 => ?_) (fun h20 => ?_)
      · refine pw_iload dX11_thing_25 rfl ?_
        refine pw_iconst (v := 1) dX11_thing_27 (by decide) ?_
        refine pw_bipush (v := 15) dX11_thing_28 (by decide) ?_
        refine pw_cS3 (d1 := d - 1) (a1 := 0) (a2 := al + 2) dX11_thing_30 mtX11_isWithin stX11_isWithin mlX11_79 (Nat.le_of_ble_eq_true rfl) (Nat.le_of_ble_eq_true rfl) (by omega) (by omega) (t_within _ _ _) ?_
        rintro r_ τ_ ⟨hr_, ht_⟩; subst r_; subst τ_
        refine pw_if_eq (tgt := 54) dX11_thing_33 (by decide) (fun h33 => ?_) (fun h33 => ?_)
        · refine pw_iconst (v := (-1)) dX11_thing_54 (by decide) ?_
          refine pw_iret dX11_thing_55 rfl rfl ?_
          have hno : ¬ okThing n k r c s house := by
            first | exact fun z => bI_0.mp h33 z.2.2.2.1 | exact fun z => bI_0.mp h41 z.2.2.2.2.1 | exact fun z => z.2.2.2.2.2 (bI_n.mp h51)
          exact ⟨by rw [if_neg hno], by rw [if_neg hno]⟩
        · refine pw_iload dX11_thing_36 rfl ?_
          refine pw_cS1 (d1 := d - 1) (a1 := 0) (a2 := al + 2) dX11_thing_38 mtX11_isHouse stX11_isHouse mlX11_87 (Nat.le_of_ble_eq_true rfl) (Nat.le_of_ble_eq_true rfl) (by omega) (by omega) (t_house (by omega) _) ?_
          rintro r_ τ_ ⟨hr_, ht_⟩; subst r_; subst τ_
          refine pw_if_eq (tgt := 54) dX11_thing_41 (by decide) (fun h41 => ?_) (fun h41 => ?_)
          · refine pw_iconst (v := (-1)) dX11_thing_54 (by decide) ?_
            refine pw_iret dX11_thing_55 rfl rfl ?_
            have hno : ¬ okThing n k r c s house := by
              first | exact fun z => bI_0.mp h33 z.2.2.2.1 | exact fun z => bI_0.mp h41 z.2.2.2.2.1 | exact fun z => z.2.2.2.2.2 (bI_n.mp h51)
            exact ⟨by rw [if_neg hno], by rw [if_neg hno]⟩
          · refine pw_aload_n dX11_thing_44 rfl ?_
            refine pw_getF (v := 7) dX11_thing_45 flX11_19 rfl (hS.at rfl rfl rfl) (hS.rf (6, 2, 7) rfl (by decide)) ?_
            refine pw_cV0 (d1 := d - 1) (a1 := 0) (a2 := al + 2) dX11_thing_48 mtX6_isFull ivX6_isFull mlX11_90 (Nat.le_of_ble_eq_true rfl) (Nat.le_of_ble_eq_true rfl) (by omega) (by omega) (hS.at rfl rfl rfl) rfl rfl (t_isFull hS hn hn2) ?_
            rintro r_ τ_ ⟨hr_, ht_⟩; subst r_; subst τ_
            refine pw_if_eq (tgt := 56) dX11_thing_51 (by decide) (fun h51 => ?_) (fun h51 => ?_)
            · have hok : okThing n k r c s house := ⟨bI_n.mp h6, bI_n.mp h13, bI_n.mp h20, bI_n.mp h33, bI_n.mp h41, bI_0.mp h51⟩
              have hn3 : n < 20 := by have := hok.2.2.2.2.2; omega
              rw [if_pos hok, if_pos hok]
              refine pw_new dX11_thing_56 nlX11_94 (by omega) ?_
              refine pw_dup dX11_thing_59 rfl ?_
              have hS := hS.nw (t := 0) (n := 0)
              refine pw_aload_n dX11_thing_60 rfl ?_
              refine pw_getI dX11_thing_61 flX11_7 rfl (hS.at rfl rfl rfl) ?_
              refine pw_iload dX11_thing_64 rfl ?_
              refine pw_cI2 (d1 := d - 1) (a1 := 0) (a2 := al + 1) dX11_thing_66 mtX0_init rfl imX0_init rfl mlX11_96 (Nat.le_of_ble_eq_true rfl) (Nat.le_of_ble_eq_true rfl) (by omega) (by omega) (by omega) (t_act1 (by omega) (is_nw_new (by omega)) _ _) ?_
              rintro r_ τ_ ⟨hr_, ht_⟩; subst r_; subst τ_
              have hN0 : pm_is (c_act (pm_nw σ 0 0) (qN σ) 0 (qI (pm_nw σ 0 0) 6 0) house house 0 1) (qN σ) 0 := is_nw_new (t := 0) (n := 0) (by omega)
              have hS := pm_fix.act (a := qN σ) (b := 0) (x1 := qI (pm_nw σ 0 0) 6 0) (x2 := house) (x3 := house) (x4 := 0) (x5 := 1) hS (by omega)
              refine pw_astore dX11_thing_69 (Nat.le_of_ble_eq_true rfl) (Nat.le_of_ble_eq_true rfl) rfl ?_
              refine pw_aload_n dX11_thing_71 rfl ?_
              refine pw_getF (v := 7) dX11_thing_72 flX11_19 rfl (hS.at rfl rfl rfl) (hS.rf (6, 2, 7) rfl (by decide)) ?_
              refine pw_new dX11_thing_75 nlX11_99 (by show 6 ≤ qN σ + 1; omega) ?_
              show PW _ _ _ _ _ (.ref (qN σ + 1) :: _) _ _
              have hS := hS.nw (t := 9) (n := 0)
              have hq7 : qI (pm_nw (c_act (pm_nw σ 0 0) (qN σ) 0 (qI (pm_nw σ 0 0) 6 0) house house 0 1) 9 0) 7 1 = nI n := by
                rw [qI_nw_ne (by show 7 ≠ qN σ + 1; omega), (c_act_ne (by omega)).1, qI_nw_ne (by omega)]; exact hn
              refine pw_dup dX11_thing_78 rfl ?_
              refine pw_aload_n dX11_thing_79 rfl ?_
              refine pw_getF (v := 7) dX11_thing_80 flX11_19 rfl (hS.at rfl rfl rfl) (hS.rf (6, 2, 7) rfl (by decide)) ?_
              refine pw_cV0 (d1 := d - 1) (a1 := 0) (a2 := al) dX11_thing_83 mtX6_count ivX6_count mlX11_101 (Nat.le_of_ble_eq_true rfl) (Nat.le_of_ble_eq_true rfl) (by omega) (by omega) (hS.at rfl rfl rfl) rfl rfl (t_count hS) ?_
              rintro r_ τ_ ⟨hr_, ht_⟩; subst r_; subst τ_
              refine pw_iload_n dX11_thing_86 rfl ?_
              refine pw_iload_n dX11_thing_87 rfl ?_
              refine pw_iload_n dX11_thing_88 rfl ?_
              refine pw_iload dX11_thing_89 rfl ?_
              refine pw_aload dX11_thing_91 rfl ?_
              refine pw_cI6 (d1 := d - 1) (a1 := 0) (a2 := al) dX11_thing_93 mtX9_init rfl imX9_init rfl mlX11_105 (Nat.le_of_ble_eq_true rfl) (Nat.le_of_ble_eq_true rfl) (by omega) (by omega) (by omega) (t_thing1 (by omega) (is_nw_new (by show 0 < qN σ + 1; omega)) (is_nw_old hN0) (by show qN σ + 1 ≠ qN σ; omega) _ _ _ _ _) ?_
              rintro r_ τ_ ⟨hr_, ht_⟩; subst r_; subst τ_
              have hS := pm_fix.thing (a := qN σ + 1) (l := qN σ) (x1 := qI (pm_nw (c_act (pm_nw σ 0 0) (qN σ) 0 (qI (pm_nw σ 0 0) 6 0) house house 0 1) 9 0) 7 1) (x2 := k) (x3 := r) (x4 := c) (x5 := s) (x6 := qI (pm_nw (c_act (pm_nw σ 0 0) (qN σ) 0 (qI (pm_nw σ 0 0) 6 0) house house 0 1) 9 0) (qN σ) 1) (x7 := -1) (x8 := qI (pm_nw (c_act (pm_nw σ 0 0) (qN σ) 0 (qI (pm_nw σ 0 0) 6 0) house house 0 1) 9 0) 7 1) hS (by omega)
              have hN7 : 7 ≠ qN σ + 1 := by omega
              have hN9 : pm_is (pm_nw (c_act (pm_nw σ 0 0) (qN σ) 0 (qI (pm_nw σ 0 0) 6 0) house house 0 1) 9 0) (qN σ + 1) 9 := is_nw_new (σ := c_act (pm_nw σ 0 0) (qN σ) 0 (qI (pm_nw σ 0 0) 6 0) house house 0 1) (by show 0 < qN σ + 1; omega)
              refine pw_cV1 (d1 := d - 1) (a1 := 0) (a2 := al) dX11_thing_96 mtX6_put ivX6_put mlX11_108 (Nat.le_of_ble_eq_true rfl) (Nat.le_of_ble_eq_true rfl) (by omega) (by omega) (hS.at rfl rfl rfl) rfl rfl (t_put (n := n) (by omega) hS (((c_thing_ne hN7).1 1).trans hq7) (by omega) hN9) ?_
              rintro r_ τ_ ⟨hr_, ht_⟩; subst r_; subst τ_
              refine pw_iret dX11_thing_99 rfl rfl ?_
              refine ⟨rfl, ?_⟩
              unfold c_new
              have e1 : qI (pm_nw σ 0 0) 6 0 = qI σ 6 0 := qI_nw_ne (by omega) 0
              have e2 : qI (pm_nw (c_act (pm_nw σ 0 0) (qN σ) 0 (qI (pm_nw σ 0 0) 6 0) house house 0 1) 9 0) (qN σ) 1 = qI σ 6 0 := by
                rw [qI_nw_ne (by show qN σ ≠ qN σ + 1; omega), (c_act_at _ _ _ _ _ _ _ _).1]; exact e1
              rw [← e1] at e2 ⊢
              rw [hq7, e2]
              rfl
            · refine pw_iconst (v := (-1)) dX11_thing_54 (by decide) ?_
              refine pw_iret dX11_thing_55 rfl rfl ?_
              have hno : ¬ okThing n k r c s house := by
                first | exact fun z => bI_0.mp h33 z.2.2.2.1 | exact fun z => bI_0.mp h41 z.2.2.2.2.1 | exact fun z => z.2.2.2.2.2 (bI_n.mp h51)
              exact ⟨by rw [if_neg hno], by rw [if_neg hno]⟩
      · refine pw_iconst (v := (-1)) dX11_thing_23 (by decide) ?_
        refine pw_iret dX11_thing_24 rfl rfl ?_
        have hno : ¬ okThing n k r c s house := by
          first | exact fun z => bI_0.mp h6 z.1 | exact fun z => bI_0.mp h13 z.2.1 | exact fun z => bI_0.mp h20 z.2.2.1
        exact ⟨by rw [if_neg hno], by rw [if_neg hno]⟩
