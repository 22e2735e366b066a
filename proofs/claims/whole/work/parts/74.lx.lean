/-! ===== the text of rules, cut into tokens: as mathematics ===== -/
def tblN : List Nat := [98, 97, 114, 32, 32, 32, 111, 114, 32, 32, 32, 32, 97, 110, 100, 32, 32, 32, 110, 111, 116, 32, 32, 32, 115, 101, 97, 115, 111, 110, 103, 117, 101, 115, 116, 115, 114, 97, 110, 107, 32, 32, 116, 111, 110, 101, 32, 32, 97, 103, 101, 32, 32, 32, 104, 97, 115, 32, 32, 32, 98, 111, 119, 108, 32, 32, 115, 99, 114, 111, 108, 108, 107, 101, 116, 116, 108, 101, 118, 97, 115, 101, 32, 32, 115, 99, 111, 111, 112, 32]
def sgnN : List Nat := [59, 40, 41, 60, 61, 62]
abbrev lB (x : Nat) : Prop := x = 32 ∨ x = 10
abbrev lE (x : Nat) : Prop := (97 ≤ x ∧ x ≤ 122) ∨ (65 ≤ x ∧ x ≤ 90)
abbrev lD (x : Nat) : Prop := 48 ≤ x ∧ x ≤ 57
/-- the end of a run of such characters -/
def rn (P : Nat → Prop) [DecidablePred P] (c : Nat → Nat) : Nat → Nat → Nat
  | 0, p => p
  | f + 1, p => if P (c p) then rn P c f (p + 1) else p
theorem rn_u {P : Nat → Prop} [DecidablePred P] {c : Nat → Nat} {L p : Nat} (h : p < L) : rn P c (L - p) p = if P (c p) then rn P c (L - (p + 1)) (p + 1) else p := by
  rw [show L - p = (L - (p + 1)) + 1 by omega]
  rfl
theorem rn_L {P : Nat → Prop} [DecidablePred P] {c : Nat → Nat} {L : Nat} : rn P c (L - L) L = L := by rw [Nat.sub_self]; rfl
theorem rn_le {P : Nat → Prop} [DecidablePred P] {c : Nat → Nat} : ∀ f p, p ≤ rn P c f p ∧ rn P c f p ≤ p + f
  | 0, p => ⟨Nat.le_refl _, Nat.le_refl _⟩
  | f + 1, p => by
    have ih := rn_le (P := P) (c := c) f (p + 1)
    show p ≤ (if P (c p) then rn P c f (p + 1) else p) ∧ (if P (c p) then rn P c f (p + 1) else p) ≤ p + (f + 1)
    split <;> omega
theorem rn_in {P : Nat → Prop} [DecidablePred P] {c : Nat → Nat} {L p : Nat} (h : p ≤ L) : p ≤ rn P c (L - p) p ∧ rn P c (L - p) p ≤ L := by
  have := rn_le (P := P) (c := c) (L - p) p
  omega
theorem rn_all {P : Nat → Prop} [DecidablePred P] {c : Nat → Nat} : ∀ f p i, p ≤ i → i < rn P c f p → P (c i)
  | 0, p, i, h1, h2 => by have : rn P c 0 p = p := rfl; omega
  | f + 1, p, i, h1, h2 => by
    have hu : rn P c (f + 1) p = if P (c p) then rn P c f (p + 1) else p := rfl
    rw [hu] at h2
    by_cases z : P (c p)
    · rw [if_pos z] at h2
      by_cases y : i = p
      · rw [y]; exact z
      · exact rn_all f (p + 1) i (by omega) h2
    · rw [if_neg z] at h2; omega
theorem rn_stop {P : Nat → Prop} [DecidablePred P] {c : Nat → Nat} {L : Nat} : ∀ f p, p + f = L → rn P c f p < L → ¬ P (c (rn P c f p))
  | 0, p, h1, h2 => by have : rn P c 0 p = p := rfl; omega
  | f + 1, p, h1, h2 => by
    have hu : rn P c (f + 1) p = if P (c p) then rn P c f (p + 1) else p := rfl
    rw [hu] at h2 ⊢
    by_cases z : P (c p)
    · rw [if_pos z] at h2 ⊢
      exact rn_stop f (p + 1) (by omega) h2
    · rw [if_neg z]; exact z
abbrev wm (c : Nat → Nat) (q n w : Nat) : Prop := n ≤ 6 ∧ ∀ i, i < 6 → tblN.getD (w * 6 + i) 0 = if i < n then c (q + i) else 32
/-- the word's number, 23 for none -/
def wT (c : Nat → Nat) (q n : Nat) : Nat → Nat
  | 0 => 23
  | w + 1 => if wm c q n w then w else wT c q n w
def sg (x : Nat) : Nat := if x = 59 then 15 else if x = 40 then 16 else if x = 41 then 17 else if x = 60 then 18 else if x = 61 then 19 else if x = 62 then 20 else 23
/-- the number that digits spell -/
def dv (c : Nat → Nat) (q : Nat) : Nat → Int32
  | 0 => 0
  | n + 1 => dv c q n * 10 + nI (c (q + n)) - 48
/-- a token: what, where, its number, where the next begins to be sought -/
def nx (c : Nat → Nat) (L p : Nat) : Nat × Nat × Int32 × Nat :=
  if rn lB c (L - p) p < L then
    (if lE (c (rn lB c (L - p) p)) then (wT c (rn lB c (L - p) p) (rn lE c (L - rn lB c (L - p) p) (rn lB c (L - p) p) - rn lB c (L - p) p) 15, rn lB c (L - p) p, 0, rn lE c (L - rn lB c (L - p) p) (rn lB c (L - p) p))
    else if lD (c (rn lB c (L - p) p)) then (if rn lD c (L - rn lB c (L - p) p) (rn lB c (L - p) p) - rn lB c (L - p) p ≤ 4 then 21 else 23, rn lB c (L - p) p, dv c (rn lB c (L - p) p) (rn lD c (L - rn lB c (L - p) p) (rn lB c (L - p) p) - rn lB c (L - p) p), rn lD c (L - rn lB c (L - p) p) (rn lB c (L - p) p))
    else (sg (c (rn lB c (L - p) p)), rn lB c (L - p) p, 0, rn lB c (L - p) p + 1))
  else (22, L, 0, L)
theorem nx_bl {c : Nat → Nat} {L p : Nat} (h : p < L) (hb : lB (c p)) : nx c L p = nx c L (p + 1) := by
  have : rn lB c (L - p) p = rn lB c (L - (p + 1)) (p + 1) := by rw [rn_u h, if_pos hb]
  unfold nx
  rw [this]
theorem nx_end (c : Nat → Nat) (L : Nat) : nx c L L = (22, L, 0, L) := by
  unfold nx
  rw [rn_L, if_neg (Nat.lt_irrefl L)]
theorem nx_no {c : Nat → Nat} {L p : Nat} (h : p < L) (hb : ¬ lB (c p)) : nx c L p = if lE (c p) then (wT c p (rn lE c (L - p) p - p) 15, p, 0, rn lE c (L - p) p) else if lD (c p) then (if rn lD c (L - p) p - p ≤ 4 then 21 else 23, p, dv c p (rn lD c (L - p) p - p), rn lD c (L - p) p) else (sg (c p), p, 0, p + 1) := by
  have : rn lB c (L - p) p = p := by rw [rn_u h, if_neg hb]
  unfold nx
  rw [this, if_pos h]
theorem wT_lt (c : Nat → Nat) (q n : Nat) : ∀ w, w ≤ 15 → wT c q n w < 15 ∨ wT c q n w = 23
  | 0, _ => Or.inr rfl
  | w + 1, h => by
    show (if wm c q n w then w else wT c q n w) < 15 ∨ (if wm c q n w then w else wT c q n w) = 23
    split
    · left; omega
    · exact wT_lt c q n w (by omega)
theorem sg_rng (x : Nat) : (15 ≤ sg x ∧ sg x ≤ 20) ∨ sg x = 23 := by
  unfold sg
  split
  · omega
  · split
    · omega
    · split
      · omega
      · split
        · omega
        · split
          · omega
          · split <;> omega
/-- what a token is: where it begins, where it ends -/
theorem nx_rng {c : Nat → Nat} {L p : Nat} (h : p ≤ L) : (nx c L p = (22, L, 0, L)) ∨ ((nx c L p).1 ≠ 22 ∧ (nx c L p).1 ≤ 23 ∧ p ≤ (nx c L p).2.1 ∧ (nx c L p).2.1 < L ∧ (nx c L p).2.1 < (nx c L p).2.2.2 ∧ (nx c L p).2.2.2 ≤ L) := by
  obtain ⟨h1, h2⟩ := rn_in (P := lB) (c := c) h
  unfold nx
  by_cases z : rn lB c (L - p) p < L
  · right
    rw [if_pos z]
    generalize rn lB c (L - p) p = q at *
    by_cases y : lE (c q)
    · rw [if_pos y]
      have e1 := rn_u (P := lE) (c := c) z
      rw [if_pos y] at e1
      obtain ⟨e2, e3⟩ := rn_in (P := lE) (c := c) (L := L) (p := q + 1) (by omega)
      rw [← e1] at e2 e3
      have := wT_lt c q (rn lE c (L - q) q - q) 15 (Nat.le_refl _)
      refine ⟨?_, ?_, h1, z, ?_, e3⟩
      · show wT c q (rn lE c (L - q) q - q) 15 ≠ 22; omega
      · show wT c q (rn lE c (L - q) q - q) 15 ≤ 23; omega
      · show q < rn lE c (L - q) q; omega
    · rw [if_neg y]
      by_cases x : lD (c q)
      · rw [if_pos x]
        have e1 := rn_u (P := lD) (c := c) z
        rw [if_pos x] at e1
        obtain ⟨e2, e3⟩ := rn_in (P := lD) (c := c) (L := L) (p := q + 1) (by omega)
        rw [← e1] at e2 e3
        refine ⟨?_, ?_, h1, z, ?_, e3⟩
        · show (if rn lD c (L - q) q - q ≤ 4 then 21 else 23) ≠ 22; split <;> omega
        · show (if rn lD c (L - q) q - q ≤ 4 then 21 else 23) ≤ 23; split <;> omega
        · show q < rn lD c (L - q) q; omega
      · rw [if_neg x]
        have := sg_rng (c q)
        refine ⟨?_, ?_, h1, z, ?_, ?_⟩
        · show sg (c q) ≠ 22; omega
        · show sg (c q) ≤ 23; omega
        · show q < q + 1; omega
        · show q + 1 ≤ L; omega
  · left
    rw [if_neg z]
/-- where token k begins to be sought -/
def ps (c : Nat → Nat) (L : Nat) : Nat → Nat
  | 0 => 0
  | k + 1 => (nx c L (ps c L k)).2.2.2
theorem ps_le (c : Nat → Nat) (L : Nat) : ∀ k, ps c L k ≤ L
  | 0 => Nat.zero_le _
  | k + 1 => by
    rcases nx_rng (c := c) (ps_le c L k) with h | h
    · show (nx c L (ps c L k)).2.2.2 ≤ L
      rw [h]; exact Nat.le_refl L
    · exact h.2.2.2.2.2
abbrev tk (c : Nat → Nat) (L k : Nat) : Nat := (nx c L (ps c L k)).1
abbrev sn (c : Nat → Nat) (L k : Nat) : Nat := (nx c L (ps c L k)).2.1
abbrev vl (c : Nat → Nat) (L k : Nat) : Int32 := (nx c L (ps c L k)).2.2.1
/-! ===== the class: the tape's characters ===== -/
theorem i_lt' {a b : Nat} (ha : a < 2 ^ 31) (hb : b < 2 ^ 31) : nI a < nI b ↔ a < b := by rw [i_lt, nI_toInt ha, nI_toInt hb]; omega
theorem i_le' {a b : Nat} (ha : a < 2 ^ 31) (hb : b < 2 ^ 31) : nI a ≤ nI b ↔ a ≤ b := by rw [i_le, nI_toInt ha, nI_toInt hb]; omega
theorem t_isBlank {d al x : Nat} {σ : pm_S} (hx : x < 256) : PE d al MX10_isBlank [.int (nI x)] σ (some (.int (bI (lB x)))) σ := by
  show PW _ _ _ _ _ _ _ _
  have e1 : nI x = 32 ↔ x = 32 := nI_eq (by omega) (by decide)
  have e2 : nI x = 10 ↔ x = 10 := nI_eq (by omega) (by decide)
  refine pw_iload_n dX10_isBlank_0 rfl ?_
  refine pw_bipush (v := 32) dX10_isBlank_1 (by decide) ?_
  refine pw_icmp_eq (tgt := 12) dX10_isBlank_3 (by decide) (fun h3 => ?_) (fun h3 => ?_)
  · refine pw_iconst (v := 1) dX10_isBlank_12 (by decide) ?_
    refine pw_goto (tgt := 17) dX10_isBlank_13 (by decide) ?_
    refine pw_iret dX10_isBlank_17 rfl (by first | rfl | exact bI_nar) ?_
    refine ⟨?_, rfl⟩
    by_cases hz : lB x
    · rw [bI_t hz]
      first | done | rfl | exact absurd hz (fun z => z.elim (fun y => h3 (e1.mpr y)) (fun y => h9 (e2.mpr y)))
    · rw [bI_f hz]
      first | done | rfl | exact absurd (Or.inl (e1.mp h3)) hz | exact absurd (Or.inr (e2.mp h9)) hz
  · refine pw_iload_n dX10_isBlank_6 rfl ?_
    refine pw_bipush (v := 10) dX10_isBlank_7 (by decide) ?_
    refine pw_icmp_ne (tgt := 16) dX10_isBlank_9 (by decide) (fun h9 => ?_) (fun h9 => ?_)
    · refine pw_iconst (v := 0) dX10_isBlank_16 (by decide) ?_
      refine pw_iret dX10_isBlank_17 rfl (by first | rfl | exact bI_nar) ?_
      refine ⟨?_, rfl⟩
      by_cases hz : lB x
      · rw [bI_t hz]
        first | done | rfl | exact absurd hz (fun z => z.elim (fun y => h3 (e1.mpr y)) (fun y => h9 (e2.mpr y)))
      · rw [bI_f hz]
        first | done | rfl | exact absurd (Or.inl (e1.mp h3)) hz | exact absurd (Or.inr (e2.mp h9)) hz
    · refine pw_iconst (v := 1) dX10_isBlank_12 (by decide) ?_
      refine pw_goto (tgt := 17) dX10_isBlank_13 (by decide) ?_
      refine pw_iret dX10_isBlank_17 rfl (by first | rfl | exact bI_nar) ?_
      refine ⟨?_, rfl⟩
      by_cases hz : lB x
      · rw [bI_t hz]
        first | done | rfl | exact absurd hz (fun z => z.elim (fun y => h3 (e1.mpr y)) (fun y => h9 (e2.mpr y)))
      · rw [bI_f hz]
        first | done | rfl | exact absurd (Or.inl (e1.mp h3)) hz | exact absurd (Or.inr (e2.mp h9)) hz
theorem t_isLetter {d al x : Nat} {σ : pm_S} (hx : x < 256) : PE d al MX10_isLetter [.int (nI x)] σ (some (.int (bI (lE x)))) σ := by
  show PW _ _ _ _ _ _ _ _
  have e1 : nI x < 97 ↔ x < 97 := i_lt' (by omega) (by decide)
  have e2 : nI x ≤ 122 ↔ x ≤ 122 := i_le' (by omega) (by decide)
  have e3 : nI x < 65 ↔ x < 65 := i_lt' (by omega) (by decide)
  have e4 : (90 : Int32) < nI x ↔ 90 < x := i_lt' (by decide) (by omega)
  refine pw_iload_n dX10_isLetter_0 rfl ?_
  refine pw_bipush (v := 97) dX10_isLetter_1 (by decide) ?_
  refine pw_icmp_lt (tgt := 12) dX10_isLetter_3 (by decide) (fun h3 => ?_) (fun h3 => ?_)
  · refine pw_iload_n dX10_isLetter_12 rfl ?_
    refine pw_bipush (v := 65) dX10_isLetter_13 (by decide) ?_
    refine pw_icmp_lt (tgt := 28) dX10_isLetter_15 (by decide) (fun h15 => ?_) (fun h15 => ?_)
    · refine pw_iconst (v := 0) dX10_isLetter_28 (by decide) ?_
      refine pw_iret dX10_isLetter_29 rfl (by first | rfl | exact bI_nar) ?_
      refine ⟨?_, rfl⟩
      by_cases hz : lE x
      · rw [bI_t hz]
        first | done | rfl | (exfalso; unfold lE at hz; first | (rw [e1] at h3; rw [e3] at h15; omega) | (rw [e1] at h3; rw [e4] at h21; omega) | (rw [e2] at h9; rw [e3] at h15; omega) | (rw [e2] at h9; rw [e4] at h21; omega))
      · rw [bI_f hz]
        first | done | rfl | (exfalso; apply hz; unfold lE; first | (rw [e1] at h3; rw [e2] at h9; omega) | (rw [e3] at h15; rw [e4] at h21; omega))
    · refine pw_iload_n dX10_isLetter_18 rfl ?_
      refine pw_bipush (v := 90) dX10_isLetter_19 (by decide) ?_
      refine pw_icmp_gt (tgt := 28) dX10_isLetter_21 (by decide) (fun h21 => ?_) (fun h21 => ?_)
      · refine pw_iconst (v := 0) dX10_isLetter_28 (by decide) ?_
        refine pw_iret dX10_isLetter_29 rfl (by first | rfl | exact bI_nar) ?_
        refine ⟨?_, rfl⟩
        by_cases hz : lE x
        · rw [bI_t hz]
          first | done | rfl | (exfalso; unfold lE at hz; first | (rw [e1] at h3; rw [e3] at h15; omega) | (rw [e1] at h3; rw [e4] at h21; omega) | (rw [e2] at h9; rw [e3] at h15; omega) | (rw [e2] at h9; rw [e4] at h21; omega))
        · rw [bI_f hz]
          first | done | rfl | (exfalso; apply hz; unfold lE; first | (rw [e1] at h3; rw [e2] at h9; omega) | (rw [e3] at h15; rw [e4] at h21; omega))
      · refine pw_iconst (v := 1) dX10_isLetter_24 (by decide) ?_
        refine pw_goto (tgt := 29) dX10_isLetter_25 (by decide) ?_
        refine pw_iret dX10_isLetter_29 rfl (by first | rfl | exact bI_nar) ?_
        refine ⟨?_, rfl⟩
        by_cases hz : lE x
        · rw [bI_t hz]
          first | done | rfl | (exfalso; unfold lE at hz; first | (rw [e1] at h3; rw [e3] at h15; omega) | (rw [e1] at h3; rw [e4] at h21; omega) | (rw [e2] at h9; rw [e3] at h15; omega) | (rw [e2] at h9; rw [e4] at h21; omega))
        · rw [bI_f hz]
          first | done | rfl | (exfalso; apply hz; unfold lE; first | (rw [e1] at h3; rw [e2] at h9; omega) | (rw [e3] at h15; rw [e4] at h21; omega))
  · refine pw_iload_n dX10_isLetter_6 rfl ?_
    refine pw_bipush (v := 122) dX10_isLetter_7 (by decide) ?_
    refine pw_icmp_le (tgt := 24) dX10_isLetter_9 (by decide) (fun h9 => ?_) (fun h9 => ?_)
    · refine pw_iconst (v := 1) dX10_isLetter_24 (by decide) ?_
      refine pw_goto (tgt := 29) dX10_isLetter_25 (by decide) ?_
      refine pw_iret dX10_isLetter_29 rfl (by first | rfl | exact bI_nar) ?_
      refine ⟨?_, rfl⟩
      by_cases hz : lE x
      · rw [bI_t hz]
        first | done | rfl | (exfalso; unfold lE at hz; first | (rw [e1] at h3; rw [e3] at h15; omega) | (rw [e1] at h3; rw [e4] at h21; omega) | (rw [e2] at h9; rw [e3] at h15; omega) | (rw [e2] at h9; rw [e4] at h21; omega))
      · rw [bI_f hz]
        first | done | rfl | (exfalso; apply hz; unfold lE; first | (rw [e1] at h3; rw [e2] at h9; omega) | (rw [e3] at h15; rw [e4] at h21; omega))
    · refine pw_iload_n dX10_isLetter_12 rfl ?_
      refine pw_bipush (v := 65) dX10_isLetter_13 (by decide) ?_
      refine pw_icmp_lt (tgt := 28) dX10_isLetter_15 (by decide) (fun h15 => ?_) (fun h15 => ?_)
      · refine pw_iconst (v := 0) dX10_isLetter_28 (by decide) ?_
        refine pw_iret dX10_isLetter_29 rfl (by first | rfl | exact bI_nar) ?_
        refine ⟨?_, rfl⟩
        by_cases hz : lE x
        · rw [bI_t hz]
          first | done | rfl | (exfalso; unfold lE at hz; first | (rw [e1] at h3; rw [e3] at h15; omega) | (rw [e1] at h3; rw [e4] at h21; omega) | (rw [e2] at h9; rw [e3] at h15; omega) | (rw [e2] at h9; rw [e4] at h21; omega))
        · rw [bI_f hz]
          first | done | rfl | (exfalso; apply hz; unfold lE; first | (rw [e1] at h3; rw [e2] at h9; omega) | (rw [e3] at h15; rw [e4] at h21; omega))
      · refine pw_iload_n dX10_isLetter_18 rfl ?_
        refine pw_bipush (v := 90) dX10_isLetter_19 (by decide) ?_
        refine pw_icmp_gt (tgt := 28) dX10_isLetter_21 (by decide) (fun h21 => ?_) (fun h21 => ?_)
        · refine pw_iconst (v := 0) dX10_isLetter_28 (by decide) ?_
          refine pw_iret dX10_isLetter_29 rfl (by first | rfl | exact bI_nar) ?_
          refine ⟨?_, rfl⟩
          by_cases hz : lE x
          · rw [bI_t hz]
            first | done | rfl | (exfalso; unfold lE at hz; first | (rw [e1] at h3; rw [e3] at h15; omega) | (rw [e1] at h3; rw [e4] at h21; omega) | (rw [e2] at h9; rw [e3] at h15; omega) | (rw [e2] at h9; rw [e4] at h21; omega))
          · rw [bI_f hz]
            first | done | rfl | (exfalso; apply hz; unfold lE; first | (rw [e1] at h3; rw [e2] at h9; omega) | (rw [e3] at h15; rw [e4] at h21; omega))
        · refine pw_iconst (v := 1) dX10_isLetter_24 (by decide) ?_
          refine pw_goto (tgt := 29) dX10_isLetter_25 (by decide) ?_
          refine pw_iret dX10_isLetter_29 rfl (by first | rfl | exact bI_nar) ?_
          refine ⟨?_, rfl⟩
          by_cases hz : lE x
          · rw [bI_t hz]
            first | done | rfl | (exfalso; unfold lE at hz; first | (rw [e1] at h3; rw [e3] at h15; omega) | (rw [e1] at h3; rw [e4] at h21; omega) | (rw [e2] at h9; rw [e3] at h15; omega) | (rw [e2] at h9; rw [e4] at h21; omega))
          · rw [bI_f hz]
            first | done | rfl | (exfalso; apply hz; unfold lE; first | (rw [e1] at h3; rw [e2] at h9; omega) | (rw [e3] at h15; rw [e4] at h21; omega))
theorem t_isDigit {d al x : Nat} {σ : pm_S} (hx : x < 256) : PE d al MX10_isDigit [.int (nI x)] σ (some (.int (bI (lD x)))) σ := by
  show PW _ _ _ _ _ _ _ _
  have e1 : nI x < 48 ↔ x < 48 := i_lt' (by omega) (by decide)
  have e4 : (57 : Int32) < nI x ↔ 57 < x := i_lt' (by decide) (by omega)
  refine pw_iload_n dX10_isDigit_0 rfl ?_
  refine pw_bipush (v := 48) dX10_isDigit_1 (by decide) ?_
  refine pw_icmp_lt (tgt := 16) dX10_isDigit_3 (by decide) (fun h3 => ?_) (fun h3 => ?_)
  · refine pw_iconst (v := 0) dX10_isDigit_16 (by decide) ?_
    refine pw_iret dX10_isDigit_17 rfl (by first | rfl | exact bI_nar) ?_
    refine ⟨?_, rfl⟩
    by_cases hz : lD x
    · rw [bI_t hz]
      first | done | rfl | (exfalso; unfold lD at hz; first | (rw [e1] at h3; omega) | (rw [e4] at h9; omega))
    · rw [bI_f hz]
      first | done | rfl | (exfalso; apply hz; unfold lD; rw [e1] at h3; rw [e4] at h9; omega)
  · refine pw_iload_n dX10_isDigit_6 rfl ?_
    refine pw_bipush (v := 57) dX10_isDigit_7 (by decide) ?_
    refine pw_icmp_gt (tgt := 16) dX10_isDigit_9 (by decide) (fun h9 => ?_) (fun h9 => ?_)
    · refine pw_iconst (v := 0) dX10_isDigit_16 (by decide) ?_
      refine pw_iret dX10_isDigit_17 rfl (by first | rfl | exact bI_nar) ?_
      refine ⟨?_, rfl⟩
      by_cases hz : lD x
      · rw [bI_t hz]
        first | done | rfl | (exfalso; unfold lD at hz; first | (rw [e1] at h3; omega) | (rw [e4] at h9; omega))
      · rw [bI_f hz]
        first | done | rfl | (exfalso; apply hz; unfold lD; rw [e1] at h3; rw [e4] at h9; omega)
    · refine pw_iconst (v := 1) dX10_isDigit_12 (by decide) ?_
      refine pw_goto (tgt := 17) dX10_isDigit_13 (by decide) ?_
      refine pw_iret dX10_isDigit_17 rfl (by first | rfl | exact bI_nar) ?_
      refine ⟨?_, rfl⟩
      by_cases hz : lD x
      · rw [bI_t hz]
        first | done | rfl | (exfalso; unfold lD at hz; first | (rw [e1] at h3; omega) | (rw [e4] at h9; omega))
      · rw [bI_f hz]
        first | done | rfl | (exfalso; apply hz; unfold lD; rw [e1] at h3; rw [e4] at h9; omega)
/-- the tape holds this text; the texts of the class stand -/
def tpH (σ : pm_S) (c : Nat → Nat) (L : Nat) : Prop := L ≤ 600 ∧ qI σ 17 1 = nI L ∧ ∀ p, p < L → qI σ 18 p &&& 255 = nI (c p) ∧ c p < 256
def jdC (σ : pm_S) : Prop := sT σ 2 4 90 ∧ sT σ 3 5 6 ∧ (∀ k, k < 90 → qI σ 4 k = nI (tblN.getD k 0)) ∧ ∀ k, k < 6 → qI σ 5 k = nI (sgnN.getD k 0)
theorem tbl_128 : ∀ k, k < 90 → tblN.getD k 0 < 128 := by decide
theorem t_tat' {d al L p : Nat} {σ : pm_S} {c : Nat → Nat} (hS : pm_fix σ) (h : tpH σ c L) (hp : p < L) : PE d al MX7_at [.ref 17, .int (nI p)] σ (some (.int (nI (c p)))) σ := by
  have := t_tat (d := d) (al := al) (k := p) hS h.2.1 h.1 (by have := h.1; omega)
  rw [if_pos hp, (h.2.2 p hp).1] at this
  exact this
