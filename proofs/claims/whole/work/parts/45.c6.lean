/-! ===== the class: of, held, owners, look ===== -/
theorem c_fd_pos {σ : pm_S} {n : Nat} {t : Int32} (h : 0 < c_fd σ n t) : tOk n t := by
  unfold c_fd at h
  split at h
  · assumption
  · exact absurd h (Nat.lt_irrefl 0)
theorem c_fd_z {σ : pm_S} {X : Nat → List c_A} {n : Nat} {t : Int32} (hT : cT σ n X) (h : c_fd σ n t = 0) : ¬ tOk n t := by
  intro z
  unfold c_fd at h
  rw [if_pos z] at h
  obtain ⟨j, hj2, hj⟩ := (tOk_iff (by have := hT.2.1; omega)).mp z
  have hcl : t.toNatClampNeg = j := by rw [hj]; exact nI_clamp (by have := hT.2.1; omega)
  rw [hcl] at h
  have := (hT.at hj2).2.1
  omega
theorem c_fd_get {σ : pm_S} {X : Nat → List c_A} {n : Nat} {t : Int32} (hT : cT σ n X) (h : tOk n t) : ∃ j, j < n ∧ t = nI j ∧ t.toNatClampNeg = j ∧ c_fd σ n t = qR σ 8 j := by
  obtain ⟨j, hj2, hj⟩ := (tOk_iff (by have := hT.2.1; omega)).mp h
  have hcl : t.toNatClampNeg = j := by rw [hj]; exact nI_clamp (by have := hT.2.1; omega)
  exact ⟨j, hj2, hj, hcl, by unfold c_fd; rw [if_pos h, hcl]⟩
def c_of (σ : pm_S) (X : Nat → List c_A) (n : Nat) (t what : Int32) : Int32 := if tOk n t then (if what = 0 then qI σ (qR σ 8 t.toNatClampNeg) 1 else if what = 1 then qI σ (qR σ 8 t.toNatClampNeg) 2 else if what = 2 then qI σ (qR σ 8 t.toNatClampNeg) 3 else if what = 3 then qI σ (qR σ 8 t.toNatClampNeg) 4 else if what = 4 then qI σ (qR σ 8 t.toNatClampNeg) 5 else if what = 5 then qI σ (qR σ 8 t.toNatClampNeg) 6 else if what = 6 then qI σ (qR σ 8 t.toNatClampNeg) 7 else if what = 7 then bI ((hX X t.toNatClampNeg).2.2.2.2 = 1) else if what = 8 then bI (c_inDb σ X n t.toNatClampNeg) else -1) else -1
theorem t_of {d al n : Nat} {σ : pm_S} {X : Nat → List c_A} (hd : 3 ≤ d) (hS : pm_fix σ) (hT : cT σ n X) (t what : Int32) : PE d al MX11_of [.ref 6, .int t, .int what] σ (some (.int (c_of σ X n t what))) σ := by
  show PW _ _ _ _ _ _ _ _
  refine pw_aload_n dX11_of_0 rfl ?_
  refine pw_getF (v := 7) dX11_of_1 flX11_19 rfl (hS.at rfl rfl rfl) (hS.rf (6, 2, 7) rfl (by decide)) ?_
  refine pw_iload_n dX11_of_4 rfl ?_
  refine pw_cV1 (d1 := d - 1) (a1 := 0) (a2 := al) dX11_of_5 mtX6_find ivX6_find mlX11_147 (Nat.le_of_ble_eq_true rfl) (Nat.le_of_ble_eq_true rfl) (by omega) (by omega) (hS.at rfl rfl rfl) rfl rfl (t_find hS hT.1 hT.2.1 _) ?_
  rintro r_ τ_ ⟨hr_, ht_⟩; subst r_; subst τ_
  refine pw_astore_n dX11_of_8 (Nat.le_of_ble_eq_true rfl) (Nat.le_of_ble_eq_true rfl) rfl ?_
  refine pw_aload_n dX11_of_9 rfl ?_
  refine pw_ifnonnull (tgt := 15) dX11_of_10 (by decide) (fun h10 => ?_) (fun h10 => ?_)
  · have ht := c_fd_pos h10
    obtain ⟨j, hj2, hj, hcl, hfe⟩ := c_fd_get hT ht
    obtain ⟨q1, q2, q3, q4, q5, q6, q7, q8, q9⟩ := hT.at hj2
    rw [hfe]
    unfold c_of
    rw [if_pos ht, hcl]
    refine pw_iload_n dX11_of_15 rfl ?_
    by_cases w16_0 : what = 0
    · rw [w16_0]
      refine pw_tsIn (off := 52) (tgt := 68) dX11_of_16 (by decide) (by decide) (by decide) (by decide) ?_
      refine pw_aload_n dX11_of_68 rfl ?_
      refine pw_getI dX11_of_69 flX11_150 rfl q1 ?_
      refine pw_iret dX11_of_72 rfl rfl ?_
      exact ⟨rfl, rfl⟩
    by_cases w16_1 : what = 1
    · rw [w16_1]
      refine pw_tsIn (off := 57) (tgt := 73) dX11_of_16 (by decide) (by decide) (by decide) (by decide) ?_
      refine pw_aload_n dX11_of_73 rfl ?_
      refine pw_getI dX11_of_74 flX11_153 rfl q1 ?_
      refine pw_iret dX11_of_77 rfl rfl ?_
      exact ⟨rfl, rfl⟩
    by_cases w16_2 : what = 2
    · rw [w16_2]
      refine pw_tsIn (off := 62) (tgt := 78) dX11_of_16 (by decide) (by decide) (by decide) (by decide) ?_
      refine pw_aload_n dX11_of_78 rfl ?_
      refine pw_getI dX11_of_79 flX11_156 rfl q1 ?_
      refine pw_iret dX11_of_82 rfl rfl ?_
      exact ⟨rfl, rfl⟩
    by_cases w16_3 : what = 3
    · rw [w16_3]
      refine pw_tsIn (off := 67) (tgt := 83) dX11_of_16 (by decide) (by decide) (by decide) (by decide) ?_
      refine pw_aload_n dX11_of_83 rfl ?_
      refine pw_getI dX11_of_84 flX11_159 rfl q1 ?_
      refine pw_iret dX11_of_87 rfl rfl ?_
      exact ⟨rfl, rfl⟩
    by_cases w16_4 : what = 4
    · rw [w16_4]
      refine pw_tsIn (off := 72) (tgt := 88) dX11_of_16 (by decide) (by decide) (by decide) (by decide) ?_
      refine pw_aload_n dX11_of_88 rfl ?_
      refine pw_getI dX11_of_89 flX11_162 rfl q1 ?_
      refine pw_iret dX11_of_92 rfl rfl ?_
      exact ⟨rfl, rfl⟩
    by_cases w16_5 : what = 5
    · rw [w16_5]
      refine pw_tsIn (off := 77) (tgt := 93) dX11_of_16 (by decide) (by decide) (by decide) (by decide) ?_
      refine pw_aload_n dX11_of_93 rfl ?_
      refine pw_getI dX11_of_94 flX11_165 rfl q1 ?_
      refine pw_iret dX11_of_97 rfl rfl ?_
      exact ⟨rfl, rfl⟩
    by_cases w16_6 : what = 6
    · rw [w16_6]
      refine pw_tsIn (off := 82) (tgt := 98) dX11_of_16 (by decide) (by decide) (by decide) (by decide) ?_
      refine pw_aload_n dX11_of_98 rfl ?_
      refine pw_getI dX11_of_99 flX11_168 rfl q1 ?_
      refine pw_iret dX11_of_102 rfl rfl ?_
      exact ⟨rfl, rfl⟩
    by_cases w16_7 : what = 7
    · rw [w16_7]
      refine pw_tsIn (off := 87) (tgt := 103) dX11_of_16 (by decide) (by decide) (by decide) (by decide) ?_
      refine pw_aload_n dX11_of_103 rfl ?_
      refine pw_cV0 (d1 := d - 1) (a1 := 0) (a2 := al) dX11_of_104 mtX9_isThere ivX9_isThere mlX11_171 (Nat.le_of_ble_eq_true rfl) (Nat.le_of_ble_eq_true rfl) (by omega) (by omega) q1 rfl rfl (t_isThere q1 q3 (by rw [q8]; exact q9)) ?_
      rintro r_ τ_ ⟨hr_, ht_⟩; subst r_; subst τ_
      refine pw_if_eq (tgt := 114) dX11_of_107 (by decide) (fun h107 => ?_) (fun h107 => ?_)
      · refine pw_iconst (v := 0) dX11_of_114 (by decide) ?_
        refine pw_iret dX11_of_115 rfl rfl ?_
        refine ⟨?_, rfl⟩
        rw [q8] at h107
        by_cases hq : (hX X j).2.2.2.2 = 1
        · first | (exact absurd h107 (by rw [hq]; decide)) | (rw [bI_t hq]; rfl)
        · first | (exact absurd (q9.resolve_left h107) hq) | (rw [bI_f hq]; rfl)
      · refine pw_iconst (v := 1) dX11_of_110 (by decide) ?_
        refine pw_goto (tgt := 115) dX11_of_111 (by decide) ?_
        refine pw_iret dX11_of_115 rfl rfl ?_
        refine ⟨?_, rfl⟩
        rw [q8] at h107
        by_cases hq : (hX X j).2.2.2.2 = 1
        · first | (exact absurd h107 (by rw [hq]; decide)) | (rw [bI_t hq]; rfl)
        · first | (exact absurd (q9.resolve_left h107) hq) | (rw [bI_f hq]; rfl)
    by_cases w16_8 : what = 8
    · rw [w16_8]
      refine pw_tsIn (off := 100) (tgt := 116) dX11_of_16 (by decide) (by decide) (by decide) (by decide) ?_
      refine pw_aload_n dX11_of_116 rfl ?_
      refine pw_getF (v := 7) dX11_of_117 flX11_19 rfl (hS.at rfl rfl rfl) (hS.rf (6, 2, 7) rfl (by decide)) ?_
      refine pw_aload_n dX11_of_120 rfl ?_
      refine pw_cV1 (d1 := d - 1) (a1 := 0) (a2 := al) dX11_of_121 mtX6_isInDoubt ivX6_isInDoubt mlX11_174 (Nat.le_of_ble_eq_true rfl) (Nat.le_of_ble_eq_true rfl) (by omega) (by omega) (hS.at rfl rfl rfl) rfl rfl (t_doubt (by omega) hS hT hj2) ?_
      rintro r_ τ_ ⟨hr_, ht_⟩; subst r_; subst τ_
      refine pw_if_eq (tgt := 131) dX11_of_124 (by decide) (fun h124 => ?_) (fun h124 => ?_)
      · refine pw_iconst (v := 0) dX11_of_131 (by decide) ?_
        refine pw_iret dX11_of_132 rfl rfl ?_
        refine ⟨?_, rfl⟩
        by_cases hq : c_inDb σ X n j
        · first | (exact absurd hq (bI_0.mp h124)) | (rw [bI_t hq]; rfl)
        · first | (exact absurd (bI_n.mp h124) hq) | (rw [bI_f hq]; rfl)
      · refine pw_iconst (v := 1) dX11_of_127 (by decide) ?_
        refine pw_goto (tgt := 132) dX11_of_128 (by decide) ?_
        refine pw_iret dX11_of_132 rfl rfl ?_
        refine ⟨?_, rfl⟩
        by_cases hq : c_inDb σ X n j
        · first | (exact absurd hq (bI_0.mp h124)) | (rw [bI_t hq]; rfl)
        · first | (exact absurd (bI_n.mp h124) hq) | (rw [bI_f hq]; rfl)
    refine pw_tsOut (tgt := 133) dX11_of_16 (by have a0 := sw_ne w16_0 (z := 0) rfl; have a1 := sw_ne w16_1 (z := 1) rfl; have a2 := sw_ne w16_2 (z := 2) rfl; have a3 := sw_ne w16_3 (z := 3) rfl; have a4 := sw_ne w16_4 (z := 4) rfl; have a5 := sw_ne w16_5 (z := 5) rfl; have a6 := sw_ne w16_6 (z := 6) rfl; have a7 := sw_ne w16_7 (z := 7) rfl; have a8 := sw_ne w16_8 (z := 8) rfl; omega) (by decide) ?_
    refine pw_iconst (v := (-1)) dX11_of_133 (by decide) ?_
    refine pw_iret dX11_of_134 rfl rfl ?_
    refine ⟨?_, rfl⟩
    rw [if_neg w16_0, if_neg w16_1, if_neg w16_2, if_neg w16_3, if_neg w16_4, if_neg w16_5, if_neg w16_6, if_neg w16_7, if_neg w16_8]
  · refine pw_iconst (v := (-1)) dX11_of_13 (by decide) ?_
    refine pw_iret dX11_of_14 rfl rfl ?_
    exact ⟨by unfold c_of; rw [if_neg (c_fd_z hT h10)], rfl⟩
/-- who has a thing on a day, by its chain -/
def c_hd (xs : List c_A) (day what : Int32) : Int32 := match xs.dropWhile (fun x => decide (¬ x.1 ≤ day)) with
  | [] => -1
  | x :: _ => if x.2.2.2.2 = 0 then -1 else if what = 0 then x.2.1 else x.2.2.1
theorem c_hd_0 {σ : pm_S} {xs : List c_A} {day what : Int32} (h : Ch σ 0 (xs.dropWhile (fun x => decide (¬ x.1 ≤ day)))) : c_hd xs day what = -1 := by
  unfold c_hd
  generalize List.dropWhile (fun x => decide (¬ x.1 ≤ day)) xs = l at h ⊢
  cases l with
  | nil => rfl
  | cons x xs => exact absurd h.1.1.1 (Nat.lt_irrefl 0)
def c_held (σ : pm_S) (X : Nat → List c_A) (n : Nat) (t day what : Int32) : Int32 := if tOk n t ∧ (0 ≤ day ∧ day ≤ qI σ 6 0) ∧ (0 ≤ what ∧ what ≤ 1) then c_hd (X t.toNatClampNeg) day what else -1
theorem t_held {d al n : Nat} {σ : pm_S} {X : Nat → List c_A} (hd : 1 ≤ d) (hS : pm_fix σ) (hT : cT σ n X) (t day what : Int32) : PE d al MX11_held [.ref 6, .int t, .int day, .int what] σ (some (.int (c_held σ X n t day what))) σ := by
  show PW _ _ _ _ _ _ _ _
  refine pw_aload_n dX11_held_0 rfl ?_
  refine pw_getF (v := 7) dX11_held_1 flX11_19 rfl (hS.at rfl rfl rfl) (hS.rf (6, 2, 7) rfl (by decide)) ?_
  refine pw_iload_n dX11_held_4 rfl ?_
  refine pw_cV1 (d1 := d - 1) (a1 := 0) (a2 := al) dX11_held_5 mtX6_find ivX6_find mlX11_147 (Nat.le_of_ble_eq_true rfl) (Nat.le_of_ble_eq_true rfl) (by omega) (by omega) (hS.at rfl rfl rfl) rfl rfl (t_find hS hT.1 hT.2.1 _) ?_
  rintro r_ τ_ ⟨hr_, ht_⟩; subst r_; subst τ_
  refine pw_astore dX11_held_8 (Nat.le_of_ble_eq_true rfl) (Nat.le_of_ble_eq_true rfl) rfl ?_
  refine pw_aload dX11_held_10 rfl ?_
  refine pw_ifnull (tgt := 36) dX11_held_12 (by decide) (fun h12 => ?_) (fun h12 => ?_)
  · refine pw_iconst (v := (-1)) dX11_held_36 (by decide) ?_
    refine pw_iret dX11_held_37 rfl rfl ?_
    have hno : ¬ (tOk n t ∧ (0 ≤ day ∧ day ≤ qI σ 6 0) ∧ (0 ≤ what ∧ what ≤ 1)) := by
      first | exact fun z => c_fd_z hT h12 z.1 | exact fun z => bI_0.mp h24 z.2.1 | exact fun z => bI_0.mp h33 z.2.2
    exact ⟨by unfold c_held; rw [if_neg hno], rfl⟩
  · refine pw_iload_n dX11_held_15 rfl ?_
    refine pw_iconst (v := 0) dX11_held_16 (by decide) ?_
    refine pw_aload_n dX11_held_17 rfl ?_
    refine pw_getI dX11_held_18 flX11_7 rfl (hS.at rfl rfl rfl) ?_
    refine pw_cS3 (d1 := d - 1) (a1 := 0) (a2 := al) dX11_held_21 mtX11_isWithin stX11_isWithin mlX11_79 (Nat.le_of_ble_eq_true rfl) (Nat.le_of_ble_eq_true rfl) (by omega) (by omega) (t_within _ _ _) ?_
    rintro r_ τ_ ⟨hr_, ht_⟩; subst r_; subst τ_
    refine pw_if_eq (tgt := 36) dX11_held_24 (by decide) (fun h24 => ?_) (fun h24 => ?_)
    · refine pw_iconst (v := (-1)) dX11_held_36 (by decide) ?_
      refine pw_iret dX11_held_37 rfl rfl ?_
      have hno : ¬ (tOk n t ∧ (0 ≤ day ∧ day ≤ qI σ 6 0) ∧ (0 ≤ what ∧ what ≤ 1)) := by
        first | exact fun z => c_fd_z hT h12 z.1 | exact fun z => bI_0.mp h24 z.2.1 | exact fun z => bI_0.mp h33 z.2.2
      exact ⟨by unfold c_held; rw [if_neg hno], rfl⟩
    · refine pw_iload_n dX11_held_27 rfl ?_
      refine pw_iconst (v := 0) dX11_held_28 (by decide) ?_
      refine pw_iconst (v := 1) dX11_held_29 (by decide) ?_
      refine pw_cS3 (d1 := d - 1) (a1 := 0) (a2 := al) dX11_held_30 mtX11_isWithin stX11_isWithin mlX11_79 (Nat.le_of_ble_eq_true rfl) (Nat.le_of_ble_eq_true rfl) (by omega) (by omega) (t_within _ _ _) ?_
      rintro r_ τ_ ⟨hr_, ht_⟩; subst r_; subst τ_
      refine pw_if_ne (tgt := 38) dX11_held_33 (by decide) (fun h33 => ?_) (fun h33 => ?_)
      · have ht := c_fd_pos h12
        obtain ⟨j, hj2, hj, hcl, hfe⟩ := c_fd_get hT ht
        obtain ⟨⟨q1, -⟩, -, q3, -⟩ := hT.2.2 j hj2
        rw [hfe]
        have hok : tOk n t ∧ (0 ≤ day ∧ day ≤ qI σ 6 0) ∧ (0 ≤ what ∧ what ≤ 1) := ⟨ht, bI_n.mp h24, bI_n.mp h33⟩
        unfold c_held
        rw [if_pos hok, hcl]
        refine pw_aload dX11_held_38 rfl ?_
        refine pw_iload_n dX11_held_40 rfl ?_
        refine pw_cV1 (d1 := d - 1) (a1 := 0) (a2 := al) dX11_held_41 mtX9_latestUpTo ivX9_latestUpTo mlX11_178 (Nat.le_of_ble_eq_true rfl) (Nat.le_of_ble_eq_true rfl) (by omega) (by omega) q1 rfl rfl (t_upTo q1 q3 _) ?_
        rintro r_ τ_ ⟨⟨b, hr_, hb⟩, ht_⟩; subst r_; subst τ_
        refine pw_astore dX11_held_44 (Nat.le_of_ble_eq_true rfl) (Nat.le_of_ble_eq_true rfl) rfl ?_
        refine pw_aload dX11_held_46 rfl ?_
        refine pw_ifnull (tgt := 59) dX11_held_48 (by decide) (fun h48 => ?_) (fun h48 => ?_)
        · refine pw_iconst (v := (-1)) dX11_held_59 (by decide) ?_
          refine pw_iret dX11_held_60 rfl rfl ?_
          first | exact ⟨by show _ = some (Value.int (if x.2.2.2.2 = 0 then _ else _)); rw [if_pos (f5.symm.trans h56)], rfl⟩ | exact ⟨by rw [c_hd_0 (show Ch σ 0 _ from h48 ▸ hb)], rfl⟩
        · unfold c_hd
          generalize List.dropWhile (fun x => decide (¬ x.1 ≤ day)) (X j) = l at hb ⊢
          cases l with
          | nil => exact absurd (show b = 0 from hb) (Nat.ne_of_gt h48)
          | cons x xs => ?_
          obtain ⟨⟨hb1, -⟩, ⟨-, f2, f3, -, f5⟩, -⟩ := hb
          refine pw_aload dX11_held_51 rfl ?_
          refine pw_getI dX11_held_53 flX11_182 rfl hb1 ?_
          refine pw_if_ne (tgt := 61) dX11_held_56 (by decide) (fun h56 => ?_) (fun h56 => ?_)
          · refine pw_iload_n dX11_held_61 rfl ?_
            refine pw_if_ne (tgt := 73) dX11_held_62 (by decide) (fun h62 => ?_) (fun h62 => ?_)
            · refine pw_aload dX11_held_73 rfl ?_
              refine pw_getI dX11_held_75 flX11_188 rfl hb1 ?_
              refine pw_iret dX11_held_78 rfl rfl ?_
              refine ⟨?_, rfl⟩
              show _ = some (Value.int (if x.2.2.2.2 = 0 then _ else _))
              rw [if_neg (fun z => h56 (f5.trans z))]
              first | rw [if_pos h62, f2] | rw [if_neg h62, f3]
            · refine pw_aload dX11_held_65 rfl ?_
              refine pw_getI dX11_held_67 flX11_186 rfl hb1 ?_
              refine pw_goto (tgt := 78) dX11_held_70 (by decide) ?_
              refine pw_iret dX11_held_78 rfl rfl ?_
              refine ⟨?_, rfl⟩
              show _ = some (Value.int (if x.2.2.2.2 = 0 then _ else _))
              rw [if_neg (fun z => h56 (f5.trans z))]
              first | rw [if_pos h62, f2] | rw [if_neg h62, f3]
          · refine pw_iconst (v := (-1)) dX11_held_59 (by decide) ?_
            refine pw_iret dX11_held_60 rfl rfl ?_
            first | exact ⟨by show _ = some (Value.int (if x.2.2.2.2 = 0 then _ else _)); rw [if_pos (f5.symm.trans h56)], rfl⟩ | exact ⟨by rw [c_hd_0 (show Ch σ 0 _ from h48 ▸ hb)], rfl⟩
      · refine pw_iconst (v := (-1)) dX11_held_36 (by decide) ?_
        refine pw_iret dX11_held_37 rfl rfl ?_
        have hno : ¬ (tOk n t ∧ (0 ≤ day ∧ day ≤ qI σ 6 0) ∧ (0 ≤ what ∧ what ≤ 1)) := by
          first | exact fun z => c_fd_z hT h12 z.1 | exact fun z => bI_0.mp h24 z.2.1 | exact fun z => bI_0.mp h33 z.2.2
        exact ⟨by unfold c_held; rw [if_neg hno], rfl⟩
def c_own (X : Nat → List c_A) (n : Nat) (t w : Int32) : Int32 := if tOk n t then (if w = -1 then (hX X t.toNatClampNeg).2.2.2.1 + 1 else c_oa w (X t.toNatClampNeg)) else -1
theorem t_owners {d al n : Nat} {σ : pm_S} {X : Nat → List c_A} (hd : 1 ≤ d) (hS : pm_fix σ) (hT : cT σ n X) (t w : Int32) : PE d al MX11_owners [.ref 6, .int t, .int w] σ (some (.int (c_own X n t w))) σ := by
  show PW _ _ _ _ _ _ _ _
  refine pw_aload_n dX11_owners_0 rfl ?_
  refine pw_getF (v := 7) dX11_owners_1 flX11_19 rfl (hS.at rfl rfl rfl) (hS.rf (6, 2, 7) rfl (by decide)) ?_
  refine pw_iload_n dX11_owners_4 rfl ?_
  refine pw_cV1 (d1 := d - 1) (a1 := 0) (a2 := al) dX11_owners_5 mtX6_find ivX6_find mlX11_147 (Nat.le_of_ble_eq_true rfl) (Nat.le_of_ble_eq_true rfl) (by omega) (by omega) (hS.at rfl rfl rfl) rfl rfl (t_find hS hT.1 hT.2.1 _) ?_
  rintro r_ τ_ ⟨hr_, ht_⟩; subst r_; subst τ_
  refine pw_astore_n dX11_owners_8 (Nat.le_of_ble_eq_true rfl) (Nat.le_of_ble_eq_true rfl) rfl ?_
  refine pw_aload_n dX11_owners_9 rfl ?_
  refine pw_ifnonnull (tgt := 15) dX11_owners_10 (by decide) (fun h10 => ?_) (fun h10 => ?_)
  · have ht := c_fd_pos h10
    obtain ⟨j, hj2, hj, hcl, hfe⟩ := c_fd_get hT ht
    obtain ⟨q1, q2, q3, q4, q5, q6, q7, q8, q9⟩ := hT.at hj2
    have hch := (hT.2.2 j hj2).2.2.1
    rw [hfe]
    unfold c_own
    rw [if_pos ht, hcl]
    refine pw_iload_n dX11_owners_15 rfl ?_
    refine pw_iconst (v := (-1)) dX11_owners_16 (by decide) ?_
    refine pw_icmp_ne (tgt := 27) dX11_owners_17 (by decide) (fun h17 => ?_) (fun h17 => ?_)
    · refine pw_aload_n dX11_owners_27 rfl ?_
      refine pw_iload_n dX11_owners_28 rfl ?_
      refine pw_cV1 (d1 := d - 1) (a1 := 0) (a2 := al) dX11_owners_29 mtX9_ownerAt ivX9_ownerAt mlX11_194 (Nat.le_of_ble_eq_true rfl) (Nat.le_of_ble_eq_true rfl) (by omega) (by omega) q1 rfl rfl (t_ownerAt q1 hch _) ?_
      rintro r_ τ_ ⟨hr_, ht_⟩; subst r_; subst τ_
      refine pw_iret dX11_owners_32 rfl rfl ?_
      refine ⟨?_, rfl⟩
      first | rw [if_pos h17, ← q7] | rw [if_neg h17]
    · refine pw_aload_n dX11_owners_20 rfl ?_
      refine pw_cV0 (d1 := d - 1) (a1 := 0) (a2 := al) dX11_owners_21 mtX9_countOwners ivX9_countOwners mlX11_191 (Nat.le_of_ble_eq_true rfl) (Nat.le_of_ble_eq_true rfl) (by omega) (by omega) q1 rfl rfl (t_countOwners q1 q3) ?_
      rintro r_ τ_ ⟨hr_, ht_⟩; subst r_; subst τ_
      refine pw_goto (tgt := 32) dX11_owners_24 (by decide) ?_
      refine pw_iret dX11_owners_32 rfl rfl ?_
      refine ⟨?_, rfl⟩
      first | rw [if_pos h17, ← q7] | rw [if_neg h17]
  · refine pw_iconst (v := (-1)) dX11_owners_13 (by decide) ?_
    refine pw_iret dX11_owners_14 rfl rfl ?_
    exact ⟨by unfold c_own; rw [if_neg (c_fd_z hT h10)], rfl⟩
theorem t_mcount {d al : Nat} {σ : pm_S} (hS : pm_fix σ) : PE d al MX3_count [.ref 9] σ (some (.int (qI σ 9 2))) σ := by
  show PW _ _ _ _ _ _ _ _
  refine pw_aload_n dX3_count_0 rfl ?_
  refine pw_getI dX3_count_1 flX3_20 rfl (hS.at rfl rfl rfl) ?_
  refine pw_iret dX3_count_4 rfl rfl ?_
  exact ⟨rfl, rfl⟩
theorem t_rcount {d al r : Nat} {σ : pm_S} (hr : pm_is σ r 4) : PE d al MX4_count [.ref r] σ (some (.int (qI σ r 5))) σ := by
  show PW _ _ _ _ _ _ _ _
  refine pw_aload_n dX4_count_0 rfl ?_
  refine pw_getI dX4_count_1 flX4_24 rfl hr ?_
  refine pw_iret dX4_count_4 rfl rfl ?_
  exact ⟨rfl, rfl⟩
def c_look (σ : pm_S) (X : Nat → List c_A) (n : Nat) (what : Int32) : Int32 := if what = 0 then qI σ 6 0 else if what = 1 then qI σ 7 1 else if what = 2 then nI (c_ct X n) else if what = 3 then qI σ 9 2 else if what = 4 then qI σ (qR σ 6 6) 5 else -1
theorem t_look {d al n : Nat} {σ : pm_S} {X : Nat → List c_A} (hd : 3 ≤ d) (hS : pm_fix σ) (hT : cT σ n X) (hr : pm_is σ (qR σ 6 6) 4) (what : Int32) : PE d al MX11_look [.ref 6, .int what] σ (some (.int (c_look σ X n what))) σ := by
  show PW _ _ _ _ _ _ _ _
  refine pw_iload_n dX11_look_0 rfl ?_
  by_cases w1_0 : what = 0
  · rw [w1_0]
    refine pw_tsIn (off := 35) (tgt := 36) dX11_look_1 (by decide) (by decide) (by decide) (by decide) ?_
    refine pw_aload_n dX11_look_36 rfl ?_
    refine pw_getI dX11_look_37 flX11_7 rfl (hS.at rfl rfl rfl) ?_
    refine pw_iret dX11_look_40 rfl rfl ?_
    exact ⟨rfl, rfl⟩
  by_cases w1_1 : what = 1
  · rw [w1_1]
    refine pw_tsIn (off := 40) (tgt := 41) dX11_look_1 (by decide) (by decide) (by decide) (by decide) ?_
    refine pw_aload_n dX11_look_41 rfl ?_
    refine pw_getF (v := 7) dX11_look_42 flX11_19 rfl (hS.at rfl rfl rfl) (hS.rf (6, 2, 7) rfl (by decide)) ?_
    refine pw_cV0 (d1 := d - 1) (a1 := 0) (a2 := al) dX11_look_45 mtX6_count ivX6_count mlX11_101 (Nat.le_of_ble_eq_true rfl) (Nat.le_of_ble_eq_true rfl) (by omega) (by omega) (hS.at rfl rfl rfl) rfl rfl (t_count hS) ?_
    rintro r_ τ_ ⟨hr_, ht_⟩; subst r_; subst τ_
    refine pw_iret dX11_look_48 rfl rfl ?_
    exact ⟨rfl, rfl⟩
  by_cases w1_2 : what = 2
  · rw [w1_2]
    refine pw_tsIn (off := 48) (tgt := 49) dX11_look_1 (by decide) (by decide) (by decide) (by decide) ?_
    refine pw_aload_n dX11_look_49 rfl ?_
    refine pw_getF (v := 7) dX11_look_50 flX11_19 rfl (hS.at rfl rfl rfl) (hS.rf (6, 2, 7) rfl (by decide)) ?_
    refine pw_cV0 (d1 := d - 1) (a1 := 0) (a2 := al) dX11_look_53 mtX6_countThere ivX6_countThere mlX11_142 (Nat.le_of_ble_eq_true rfl) (Nat.le_of_ble_eq_true rfl) (by omega) (by omega) (hS.at rfl rfl rfl) rfl rfl (t_countThere (by omega) hS hT) ?_
    rintro r_ τ_ ⟨hr_, ht_⟩; subst r_; subst τ_
    refine pw_iret dX11_look_56 rfl rfl ?_
    exact ⟨rfl, rfl⟩
  by_cases w1_3 : what = 3
  · rw [w1_3]
    refine pw_tsIn (off := 56) (tgt := 57) dX11_look_1 (by decide) (by decide) (by decide) (by decide) ?_
    refine pw_aload_n dX11_look_57 rfl ?_
    refine pw_getF (v := 9) dX11_look_58 flX11_26 rfl (hS.at rfl rfl rfl) (hS.rf (6, 3, 9) rfl (by decide)) ?_
    refine pw_cV0 (d1 := d - 1) (a1 := 0) (a2 := al) dX11_look_61 mtX3_count ivX3_count mlX11_145 (Nat.le_of_ble_eq_true rfl) (Nat.le_of_ble_eq_true rfl) (by omega) (by omega) (hS.at rfl rfl rfl) rfl rfl (t_mcount hS) ?_
    rintro r_ τ_ ⟨hr_, ht_⟩; subst r_; subst τ_
    refine pw_iret dX11_look_64 rfl rfl ?_
    exact ⟨rfl, rfl⟩
  by_cases w1_4 : what = 4
  · rw [w1_4]
    refine pw_tsIn (off := 64) (tgt := 65) dX11_look_1 (by decide) (by decide) (by decide) (by decide) ?_
    refine pw_aload_n dX11_look_65 rfl ?_
    refine pw_getR dX11_look_66 flX11_40 rfl (hS.at rfl rfl rfl) ?_
    refine pw_cV0 (d1 := d - 1) (a1 := 0) (a2 := al) dX11_look_69 mtX4_count ivX4_count mlX11_146 (Nat.le_of_ble_eq_true rfl) (Nat.le_of_ble_eq_true rfl) (by omega) (by omega) hr rfl rfl (t_rcount hr) ?_
    rintro r_ τ_ ⟨hr_, ht_⟩; subst r_; subst τ_
    refine pw_iret dX11_look_72 rfl rfl ?_
    exact ⟨rfl, rfl⟩
  refine pw_tsOut (tgt := 73) dX11_look_1 (by have a0 := sw_ne w1_0 (z := 0) rfl; have a1 := sw_ne w1_1 (z := 1) rfl; have a2 := sw_ne w1_2 (z := 2) rfl; have a3 := sw_ne w1_3 (z := 3) rfl; have a4 := sw_ne w1_4 (z := 4) rfl; omega) (by decide) ?_
  refine pw_iconst (v := (-1)) dX11_look_73 (by decide) ?_
  refine pw_iret dX11_look_74 rfl rfl ?_
  refine ⟨?_, rfl⟩
  unfold c_look
  rw [if_neg w1_0, if_neg w1_1, if_neg w1_2, if_neg w1_3, if_neg w1_4]
