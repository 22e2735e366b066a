/-! ===== new cells ===== -/
theorem pm_val_nw_ne {g : pm_G} {σ : pm_S} {t n b : Nat} (h : b ≠ qN σ) (j : Nat) : pm_val g (pm_nw σ t n) b j = pm_val g σ b j := by
  unfold pm_val pm_nw qT qR qI
  simp only [if_neg h]
theorem pm_val_nw_eq {g : pm_G} {σ : pm_S} {t n : Nat} (j : Nat) : pm_val g (pm_nw σ t n) (qN σ) j = if pm_rf t j = true then .null else .int 0 := by
  unfold pm_val pm_nw qT qR qI
  simp only [if_true, pm_rv]
theorem qT_nw_ne {σ : pm_S} {t n b : Nat} (h : b ≠ qN σ) : qT (pm_nw σ t n) b = qT σ b := if_neg h
theorem qL_nw_ne {σ : pm_S} {t n b : Nat} (h : b ≠ qN σ) : qL (pm_nw σ t n) b = qL σ b := if_neg h
theorem qT_nw_eq {σ : pm_S} {t n : Nat} : qT (pm_nw σ t n) (qN σ) = t := if_pos rfl
theorem qL_nw_eq {σ : pm_S} {t n : Nat} : qL (pm_nw σ t n) (qN σ) = n := if_pos rfl
theorem pm_Rl_new {g : pm_G} {σ : pm_S} {H H' : Heap} {t n : Nat} (hG : pm_Gk g) (hR : pm_Rl g σ H) (hc : pm_cell g (pm_nw σ t n) (qN σ) H') (hs : H'.size = H.size + 1) (ho : ∀ q, q < H.size → H'[q]? = H[q]?) : pm_Rl g (pm_nw σ t n) H' := by
  obtain ⟨r1, r2, r3, r4, r5⟩ := hR
  have hN : qN (pm_nw σ t n) = qN σ + 1 := rfl
  refine ⟨by omega, by rw [hs, hN, hG.2.1 _ r1, r2], fun b hb0 hbn => ?_, fun q hq => ?_, ?_⟩
  · by_cases hba : b = qN σ
    · subst hba; exact hc
    · have hbn' : b < qN σ := by omega
      obtain ⟨cell, c1, c2, c3, c4, c5, c6, c7⟩ := r3 b hb0 hbn'
      have hlt : g.1 b < H.size := (Array.getElem?_eq_some_iff.mp c1).1
      refine ⟨cell, by rw [ho _ hlt]; exact c1, by rw [qT_nw_ne hba]; exact c2, c3, c4, c5, ?_, ?_⟩
      · rw [qT_nw_ne hba]
        intro ht k hk
        rw [pm_val_nw_ne hba k]
        exact c6 ht k hk
      · rw [qT_nw_ne hba, qL_nw_ne hba]
        intro ht
        exact ⟨(c7 ht).1, fun j hj => by rw [pm_val_nw_ne hba j]; exact (c7 ht).2 j hj⟩
  · have h7 := hG.2.2 (qN σ) r1
    rw [ho q (by omega)]
    exact r4 q hq
  · rw [qT_nw_ne (by omega), qT_nw_ne (by omega), qT_nw_ne (by omega), qT_nw_ne (by omega), qT_nw_ne (by omega)]
    exact r5
/-- the types that fields have here -/
def pm_pl : FieldType → Bool
  | .long => false
  | .float => false
  | .double => false
  | _ => true
theorem pm_dv {ty : FieldType} (h : pm_pl ty = true) : defaultValue ty = if pm_isr ty = true then .null else .int 0 := by
  cases ty <;> first | rfl | (exfalso; revert h; decide)
theorem pm_pl_ok : (List.range 13).all (fun t => (List.range (pm_nf t)).all (fun k => pm_pl (pm_fty t k))) = true := by decide +kernel
theorem pm_pl_at {t k : Nat} (ht : t < 13) (hk : k < pm_nf t) : pm_pl (pm_fty t k) = true := List.all_eq_true.mp (List.all_eq_true.mp pm_pl_ok t (List.mem_range.mpr ht)) k (List.mem_range.mpr hk)
/-- a class's link, that it can be made -/
def pm_nl_ (own : String) (idx t : Nat) : Prop := ∃ q : vw_C, pm_cl[t]? = some q ∧ Cond.classLink own idx q.1 ∈ pm_T ∧ Cond.instantiable q.1 q.2.2 ∈ pm_T ∧ Cond.initialized q.1 ∈ pm_T
theorem pm_nf_le (t : Nat) : pm_nf t ≤ 45 := by
  unfold pm_nf
  split <;> decide
theorem pm_outer (c : ClassId) (N h0 : Nat) : ∀ i : Nat, Jvm.Free.Multi.outerC c N h0 i = arrV c N (fun j => va_rf (if j < i then some (h0 + 1 + j) else none))
  | 0 => by
    show ({ cls := c, slots := Array.replicate N .null, vm := .none } : Cell) = _
    rw [arrV_new]
    refine congrArg (arrV c N) (funext fun j => ?_)
    simp [va_rf]
  | i + 1 => by
    show (Jvm.Free.Multi.outerC c N h0 i).setSlot i (.ref (h0 + 1 + i)) = _
    rw [pm_outer c N h0 i, arrV_store]
    refine congrArg (arrV c N) (funext fun j => ?_)
    by_cases e : j = i
    · subst e
      simp [updV, va_rf]
    · by_cases h : j < i
      · simp [updV, e, h, Nat.lt_succ_of_lt h]
      · simp [updV, e, h, show ¬ j < i + 1 by omega]
theorem pm_ar1 {x al ms r : Nat} (h1 : x + 700 * (al + 6) ≤ ms) (h2 : ms ≤ r) : x + (5 + 5 * 60) ≤ r :=
  Nat.le_trans (Nat.le_trans (Nat.add_le_add_left (Nat.le_trans (Nat.le_of_ble_eq_true rfl : 5 + 5 * 60 ≤ 700 * 6) (Nat.mul_le_mul_left 700 (Nat.le_add_left 6 al))) x) h1) h2
theorem pm_ar2 {x al ms : Nat} (h1 : x + 700 * (al + 6) ≤ ms) : x + 5 + 5 * 60 + 700 * al ≤ ms := by
  refine Nat.le_trans ?_ h1
  rw [Nat.mul_add, Nat.add_assoc, Nat.add_assoc]
  refine Nat.add_le_add_left ?_ x
  rw [← Nat.add_assoc, Nat.add_comm]
  exact Nat.add_le_add_left (Nat.le_of_ble_eq_true rfl : 5 + 5 * 60 ≤ 700 * 6) _
section PMN
variable {d al : Nat} {M : pm_M} {pc : Nat} {ls st : List Value} {σ : pm_S} {Q : Option Value → pm_S → Prop}
theorem pw_new {t idx : Nat} (hd : decode M.2.1 pc = .ok (.new idx, 3)) (hf : pm_nl_ M.1.cls idx t) (h6 : 6 ≤ qN σ) (kk : PW d al M (pc + 3) ls (.ref (qN σ) :: st) (pm_nw σ t 0) Q) : PW d (al + 1) M pc ls st σ Q := by
  intro p l e R s m args below meth c g Z mc ms H locs cells slots lr hF hV
  obtain ⟨q, hq, w1, w2, w3⟩ := hf
  obtain ⟨h13, hnf, hok⟩ := pm_cls hq
  have hts := hF.1.2.2.2.2.2.2.1
  have hKn := hF.1.2.2.2.2.2.2.2.2.1.1.1 t q hq
  have h45 := pm_nf_le t
  refine W.newcK hF.1.1 hF.1.2.1 hF.1.2.2.2.2.2.1 (hts _ w1) (hts _ w2) (hts _ w3) rfl hd (by have := hV.1; have := hF.2.2.2.2.1; omega) (by have := hV.2.1; have := hF.2.2.2.2.2.1; omega) hKn.2.1 rfl (fun H' kC hkC e1 z1 o1 => ?_)
  have hr2 := hV.2.2.1.2.1
  have hk2 := kk p l e R s m args below meth c g Z mc ms H' locs (cells + 1) (slots + q.2.2) lr hF ⟨by have := hV.1; omega, by have := hV.2.1; omega, pm_Rl_new hF.2.1 hV.2.2.1 ?_ z1 o1, hV.2.2.2.1, hV.2.2.2.2⟩
  · have e2 : List.map (pm_tr g) (Value.ref (qN σ) :: st) = pm_tr g (.ref (qN σ)) :: st.map (pm_tr g) := rfl
    rw [e2, pm_tr_ref (by omega), ← hr2] at hk2
    exact hk2
  · have hb := u_born (pm_fty t) hts hok.1 hKn hkC e1 hok.2.1
    obtain ⟨cell, b1, b2, b3, b4⟩ := hb
    refine ⟨cell, by rw [← hr2]; exact b1, ?_, by rw [b3]; rfl, (by rw [b3]; exact fun h => by cases h), fun _ => b3, ?_, ?_⟩
    · rw [b2, qT_nw_eq]
      exact (if_neg (by omega)).symm
    · rw [qT_nw_eq]
      intro _ k hk
      rw [pm_val_nw_eq, b4 k (by omega)]
      exact congrArg some (pm_dv (pm_pl_at h13 hk))
    · rw [qT_nw_eq]
      intro h; omega
theorem pw_newarr {n : Nat} {j : Int32} {at_ : ArrayType} {t : Nat} (hd : decode M.2.1 pc = .ok (.newarray at_, 2)) (ht : (at_ = .int ∧ t = 20) ∨ (at_ = .byte ∧ t = 21)) (hw : Cond.arrayClass (pm_fty t 0) ∈ pm_T) (hj : j = nI n) (hn : n ≤ 700) (h6 : 6 ≤ qN σ) (kk : PW d al M (pc + 2) ls (.ref (qN σ) :: st) (pm_nw σ t n) Q) : PW d (al + 1) M pc ls (.int j :: st) σ Q := by
  intro p l e R s m args below meth c g Z mc ms H locs cells slots lr hF hV
  subst hj
  have hty : Op.newarray.typeOf at_ = pm_fty t 0 := by rcases ht with ⟨rfl, rfl⟩ | ⟨rfl, rfl⟩ <;> rfl
  have hcl : (nI n).toNatClampNeg = n := nI_clamp (by omega)
  have hts := hF.1.2.2.2.2.2.2.1
  have hr2 := hV.2.2.1.2.1
  refine W.newa hF.1.1 hF.1.2.1 (atype := at_) (by rw [hty]; exact hts _ hw) rfl hd (n := nI n) (rest := st.map (pm_tr g)) rfl (nI_pos (by omega)) (by rw [hcl, hty]; rcases ht with ⟨rfl, rfl⟩ | ⟨rfl, rfl⟩ <;> (show n * _ ≤ _; simp [pm_fty, componentBytes]; omega)) (by have := hV.1; have := hF.2.2.2.2.1; omega) (by rw [hcl]; have := hV.2.1; have := hF.2.2.2.2.2.1; omega) (fun cA kA comp h1 h2 h3 => ?_)
  rw [hcl]
  have hcA : cA = g.2.1 t := by
    have hra := (hF.1.2.2.2.2.2.2.2.2.1.2.1 t (by omega) (by omega)).2
    rw [hty] at h1
    have h4 : s.vm.findClass ("[" ++ (pm_fty t 0).toString) = some (g.2.1 t) := by rcases ht with ⟨rfl, rfl⟩ | ⟨rfl, rfl⟩ <;> exact hra
    exact Option.some.inj (h1.symm.trans h4)
  have hk2 := kk p l e R s m args below meth c g Z mc ms (H.push { cls := cA, slots := Array.replicate n (defaultValue (Op.newarray.typeOf at_)), vm := .none }) locs (cells + 1) (slots + n) lr hF ⟨by have := hV.1; omega, by have := hV.2.1; omega, pm_Rl_new hF.2.1 hV.2.2.1 ?_ (by simp) (fun q hq => by rw [Array.getElem?_push, if_neg (Nat.ne_of_lt hq)]), hV.2.2.2.1, hV.2.2.2.2⟩
  · have e2 : List.map (pm_tr g) (Value.ref (qN σ) :: st) = pm_tr g (.ref (qN σ)) :: st.map (pm_tr g) := rfl
    rw [e2, pm_tr_ref (by omega), ← hr2] at hk2
    exact hk2
  · refine ⟨{ cls := cA, slots := Array.replicate n (defaultValue (Op.newarray.typeOf at_)), vm := .none }, by rw [← hr2]; simp, ?_, rfl, (fun h => by cases h), fun _ => rfl, ?_, ?_⟩
    · rw [qT_nw_eq]
      show cA = _
      rw [hcA]
      exact (if_neg (by omega)).symm
    · rw [qT_nw_eq]
      intro h; omega
    · rw [qT_nw_eq, qL_nw_eq]
      intro _
      refine ⟨⟨by simp, by simp; rfl⟩, fun k hk => ?_⟩
      rw [pm_val_nw_eq]
      rcases ht with ⟨rfl, rfl⟩ | ⟨rfl, rfl⟩ <;> (simp [hk]; rfl)
theorem pw_anew {n idx : Nat} {j : Int32} (hd : decode M.2.1 pc = .ok (.anewarray idx, 3)) (hw1 : Cond.classLink M.1.cls idx RX9 ∈ pm_T) (hj : j = nI n) (hn : n ≤ 700) (h6 : 6 ≤ qN σ) (kk : PW d al M (pc + 3) ls (.ref (qN σ) :: st) (pm_nw σ 22 n) Q) : PW d (al + 1) M pc ls (.int j :: st) σ Q := by
  intro p l e R s m args below meth c g Z mc ms H locs cells slots lr hF hV
  subst hj
  have hcl : (nI n).toNatClampNeg = n := nI_clamp (by omega)
  have hts := hF.1.2.2.2.2.2.2.1
  have hr2 := hV.2.2.1.2.1
  refine W.anew hF.1.1 hF.1.2.1 hF.1.2.2.2.2.2.1 (hts _ hw1) (va_AO.use hF.1.2.2.2.2.2.2.2.2.2.2.1.2.1) rfl hd (n := nI n) (rest := st.map (pm_tr g)) rfl (nI_pos (by omega)) (by rw [hcl]; omega) (by have := hV.1; have := hF.2.2.2.2.1; omega) (by rw [hcl]; have := hV.2.1; have := hF.2.2.2.2.2.1; omega) (fun cA kA comp h1 h2 h3 h4 => ?_)
  rw [hcl]
  have hcA : cA = g.2.1 22 := by
    obtain ⟨kA', comp', r1, r2, r3, r4⟩ := (hF.1.2.2.2.2.2.2.2.2.1.2.1 22 (by decide) (by decide)).2
    exact Option.some.inj (h1.symm.trans r4)
  have hk2 := kk p l e R s m args below meth c g Z mc ms (H.push { cls := cA, slots := Array.replicate n .null, vm := .none }) locs (cells + 1) (slots + n) lr hF ⟨by have := hV.1; omega, by have := hV.2.1; omega, pm_Rl_new hF.2.1 hV.2.2.1 ?_ (by simp) (fun q hq => by rw [Array.getElem?_push, if_neg (Nat.ne_of_lt hq)]), hV.2.2.2.1, hV.2.2.2.2⟩
  · have e2 : List.map (pm_tr g) (Value.ref (qN σ) :: st) = pm_tr g (.ref (qN σ)) :: st.map (pm_tr g) := rfl
    rw [e2, pm_tr_ref (by omega), ← hr2] at hk2
    exact hk2
  · refine ⟨{ cls := cA, slots := Array.replicate n .null, vm := .none }, by rw [← hr2]; simp, ?_, rfl, (fun h => by cases h), fun _ => rfl, ?_, ?_⟩
    · rw [qT_nw_eq]
      show cA = _
      rw [hcA]
      exact (if_neg (by omega)).symm
    · rw [qT_nw_eq]
      intro h; omega
    · rw [qT_nw_eq, qL_nw_eq]
      intro _
      refine ⟨⟨by simp, by simp; rfl⟩, fun k hk => ?_⟩
      rw [pm_val_nw_eq]
      simp [hk]
      rfl
/-- new int[5][60]: the rows behind their array -/
def pm_mn (σ : pm_S) : pm_S := (fun b j => if qN σ ≤ b then 0 else σ.1 b j, fun b j => if b = qN σ then (if j < 5 then qN σ + 1 + j else 0) else if qN σ ≤ b then 0 else σ.2.1 b j, fun b => if b = qN σ then 23 else if qN σ ≤ b then 20 else σ.2.2.1 b, fun b => if b = qN σ then 5 else if qN σ ≤ b then 60 else σ.2.2.2.1 b, qN σ + 6)
theorem pm_val_mn_lt {g : pm_G} {σ : pm_S} {b : Nat} (h : b < qN σ) (j : Nat) : pm_val g (pm_mn σ) b j = pm_val g σ b j := by
  unfold pm_val pm_mn qT qR qI
  simp only [if_neg (show ¬ b = qN σ by omega), if_neg (show ¬ qN σ ≤ b by omega)]
theorem qT_mn_lt {σ : pm_S} {b : Nat} (h : b < qN σ) : qT (pm_mn σ) b = qT σ b := by
  unfold pm_mn qT
  simp only [if_neg (show ¬ b = qN σ by omega), if_neg (show ¬ qN σ ≤ b by omega)]
theorem qL_mn_lt {σ : pm_S} {b : Nat} (h : b < qN σ) : qL (pm_mn σ) b = qL σ b := by
  unfold pm_mn qL
  simp only [if_neg (show ¬ b = qN σ by omega), if_neg (show ¬ qN σ ≤ b by omega)]
theorem qT_mn_in {σ : pm_S} {b : Nat} (h : qN σ < b) : qT (pm_mn σ) b = 20 := by
  unfold pm_mn qT
  simp only [if_neg (show ¬ b = qN σ by omega), if_pos (show qN σ ≤ b by omega)]
theorem qL_mn_in {σ : pm_S} {b : Nat} (h : qN σ < b) : qL (pm_mn σ) b = 60 := by
  unfold pm_mn qL
  simp only [if_neg (show ¬ b = qN σ by omega), if_pos (show qN σ ≤ b by omega)]
theorem qT_mn_0 {σ : pm_S} : qT (pm_mn σ) (qN σ) = 23 := if_pos rfl
theorem qL_mn_0 {σ : pm_S} : qL (pm_mn σ) (qN σ) = 5 := if_pos rfl
theorem pw_mna {idx : Nat} {n k : Int32} (hd : decode M.2.1 pc = .ok (.multianewarray idx 2, 4)) (hw1 : Cond.classLink M.1.cls idx ("[" ++ (FieldType.array .int).toString) ∈ pm_T) (hw2 : Cond.arrayClass .int ∈ pm_T) (hn : n = 5) (hk : k = 60) (h6 : 6 ≤ qN σ) (kk : PW d al M (pc + 4) ls (.ref (qN σ) :: st) (pm_mn σ) Q) : PW d (al + 6) M pc ls (.int k :: .int n :: st) σ Q := by
  intro p l e R s m args below meth c g Z mc ms H locs cells slots lr hF hV
  subst hn
  subst hk
  have hts := hF.1.2.2.2.2.2.2.1
  have hr2 := hV.2.2.1.2.1
  intro T hT Xs
  have c5 : (5 : Int32).toNatClampNeg = 5 := by decide
  have c60 : (60 : Int32).toNatClampNeg = 60 := by decide
  have z1 : (5 : Int32).toNatClampNeg * 4 ≤ 536870912 := by rw [c5]; omega
  have z2 : (60 : Int32).toNatClampNeg * componentBytes FieldType.int ≤ 536870912 := by rw [c60, show componentBytes FieldType.int = 4 from rfl]; omega
  have z3 : (60 : Int32).toNatClampNeg ≤ 536870912 := by rw [c60]; omega
  have z4 : cells + (1 + (5 : Int32).toNatClampNeg) ≤ R.cells := by rw [c5]; have := hV.1; have := hF.2.2.2.2.1; omega
  have z5 : slots + ((5 : Int32).toNatClampNeg + (5 : Int32).toNatClampNeg * (60 : Int32).toNatClampNeg) ≤ R.slots := by rw [c5, c60]; exact pm_ar1 hV.2.1 hF.2.2.2.2.2.1
  have z6 : ¬ (5 : Int32) < 0 := by decide
  have z7 : ¬ (60 : Int32) < 0 := by decide
  have z9 : slots + 5 + 5 * 60 + 700 * al ≤ ms := pm_ar2 hV.2.1
  have z8 := hF.1.2.2.2.2.2.2.2.2.2.2.1.2.2
  obtain ⟨vm₁, cA, comp, -, fA, fC, hO, -, X', step⟩ := Xs.multianewarray2F hF.1.1 hF.1.2.2.2.2.2.1 (hts _ hw1) (ty := .int) z8 (hts _ hw2) (g := F0 m pc lr (.int 60 :: .int 5 :: st.map (pm_tr g))) rfl (by rw [hF.1.2.1]; exact hd) (n := 5) (k := 60) (rest := st.map (pm_tr g)) rfl z6 z7 z1 z2 z3 rfl rfl z4 z5
  rw [c5, c60] at X' step
  have hcA : cA = g.2.1 23 := by
    have hra := (hF.1.2.2.2.2.2.2.2.2.1.2.1 23 (by decide) (by decide)).2
    have h4 : s.vm.findClass ("[" ++ (FieldType.array .int).toString) = some (g.2.1 23) := hra
    exact Option.some.inj (fA.symm.trans h4)
  have hcC : comp = g.2.1 20 := by
    have hra := (hF.1.2.2.2.2.2.2.2.2.1.2.1 20 (by decide) (by decide)).2
    have h4 : s.vm.findClass (FieldType.array .int).toString = some (g.2.1 20) := hra
    exact Option.some.inj (fC.symm.trans h4)
  generalize hFl : Jvm.Free.Multi.fill (T.setVm vm₁) cA comp 5 60 (defaultValue .int) 5 = F at X' step
  have hTh : (T.setVm vm₁).heap = H := hT
  obtain ⟨f1, f2, -, -⟩ := Jvm.Free.Multi.fill_facts (T.setVm vm₁) cA comp 5 60 (defaultValue .int) 5
  rw [hFl, hTh] at f1 f2
  have hold : ∀ x : Nat, x < H.size → F.heap[x]? = H[x]? := fun x hx => by
    have := Jvm.Free.Multi.fill_old (T.setVm vm₁) cA comp 5 60 (defaultValue .int) (a := x) (by rw [hTh]; exact hx) 5
    rw [hFl, hTh] at this
    exact this
  have hrow : ∀ j : Nat, j < 5 → F.heap[H.size + 1 + j]? = some (Jvm.Free.Multi.innerC comp 60 (defaultValue .int)) := fun j hj => by
    have := Jvm.Free.Multi.fill_inner (T.setVm vm₁) cA comp 5 60 (defaultValue .int) 5 j hj
    rw [hFl, hTh] at this
    exact this
  have hout : Jvm.Free.Multi.outerC cA 5 H.size 5 = arrV cA 5 (fun j => va_rf (if j < 5 then some (H.size + 1 + j) else none)) := pm_outer cA 5 H.size 5
  rw [hout] at f2
  have hG := hF.2.1
  obtain ⟨r1, r2, r3, r4, r5⟩ := hV.2.2.1
  have hρ : ∀ j, j ≤ 6 → g.1 (qN σ + j) = H.size + j := by
    intro j
    induction j with
    | zero => intro _; rw [Nat.add_zero, Nat.add_zero]; exact r2.symm
    | succ j ih => intro hj; rw [← Nat.add_assoc, hG.2.1 _ (by omega), ih (by omega)]; omega
  have hN : qN (pm_mn σ) = qN σ + 6 := rfl
  have hRl : pm_Rl g (pm_mn σ) F.heap := by
    refine ⟨by omega, by rw [hN, hρ 6 (by omega), f1], fun b hb0 hbn => ?_, fun q hq => ?_, ?_⟩
    · rcases Nat.lt_trichotomy b (qN σ) with hlt | heq | hgt
      · obtain ⟨cell, c1, c2, c3, c4, c5', c6, c7⟩ := r3 b hb0 hlt
        have hl2 : g.1 b < H.size := (Array.getElem?_eq_some_iff.mp c1).1
        refine ⟨cell, by rw [hold _ hl2]; exact c1, by rw [qT_mn_lt hlt]; exact c2, c3, c4, c5', ?_, ?_⟩
        · rw [qT_mn_lt hlt]
          intro ht k hk
          rw [pm_val_mn_lt hlt k]
          exact c6 ht k hk
        · rw [qT_mn_lt hlt, qL_mn_lt hlt]
          intro ht
          exact ⟨(c7 ht).1, fun j hj => by rw [pm_val_mn_lt hlt j]; exact (c7 ht).2 j hj⟩
      · subst heq
        refine ⟨_, by rw [← r2]; exact f2, ?_, rfl, (fun h => by cases h), fun _ => rfl, ?_, ?_⟩
        · rw [qT_mn_0]
          show cA = _
          rw [hcA]
          exact (if_neg (by omega)).symm
        · rw [qT_mn_0]
          intro h; omega
        · rw [qT_mn_0, qL_mn_0]
          intro _
          refine ⟨⟨by rw [arrV_size]; exact Nat.le_refl _, by rw [arrV_size]; rfl⟩, fun j hj => ?_⟩
          rw [arrV_read _ _ hj, if_pos hj, pm_val_r qT_mn_0 rfl]
          have hq : qR (pm_mn σ) (qN σ) j = qN σ + 1 + j := by
            unfold pm_mn qR
            simp only [if_pos, hj]
          rw [hq]
          unfold pm_rv
          rw [if_neg (by omega)]
          show some (Value.ref (H.size + 1 + j)) = some (Value.ref (g.1 (qN σ + 1 + j)))
          rw [Nat.add_assoc (qN σ), hρ (1 + j) (by omega), Nat.add_assoc]
      · obtain ⟨j, rfl⟩ : ∃ j, b = qN σ + (1 + j) := ⟨b - qN σ - 1, by omega⟩
        have hj : j < 5 := by omega
        have hcell := hrow j hj
        have hin : Jvm.Free.Multi.innerC comp 60 (defaultValue .int) = arrV comp 60 (fun _ => .int 0) := arrV_new _ _ _
        rw [hin] at hcell
        refine ⟨_, by rw [hρ (1 + j) (by omega), ← Nat.add_assoc]; exact hcell, ?_, rfl, (fun h => by cases h), fun _ => rfl, ?_, ?_⟩
        · rw [qT_mn_in (by omega)]
          show comp = _
          rw [hcC]
          exact (if_neg (by omega)).symm
        · rw [qT_mn_in (by omega)]
          intro h; omega
        · rw [qT_mn_in (by omega), qL_mn_in (by omega)]
          intro _
          refine ⟨⟨by rw [arrV_size]; exact Nat.le_refl _, by rw [arrV_size]; rfl⟩, fun i hi => ?_⟩
          rw [arrV_read _ _ hi, pm_val_i (qT_mn_in (by omega)) rfl]
          have hq : qI (pm_mn σ) (qN σ + (1 + j)) i = 0 := by
            unfold pm_mn qI
            simp only [if_pos (show qN σ ≤ qN σ + (1 + j) by omega)]
          rw [hq]
    · have h7 := hG.2.2 (qN σ) r1
      rw [hold q (by omega)]
      exact r4 q hq
    · rw [qT_mn_lt (by omega), qT_mn_lt (by omega), qT_mn_lt (by omega), qT_mn_lt (by omega), qT_mn_lt (by omega)]
      exact r5
  have hk2 := kk p l e R s m args below meth c g Z mc ms F.heap locs (cells + 1 + 5) (slots + 5 + 5 * 60) lr hF ⟨by have := hV.1; omega, z9, hRl, hV.2.2.2.1, hV.2.2.2.2⟩
  have e2 : List.map (pm_tr g) (Value.ref (qN σ) :: st) = pm_tr g (.ref (qN σ)) :: st.map (pm_tr g) := rfl
  rw [e2, pm_tr_ref (by omega), ← hr2] at hk2
  obtain ⟨t, a1, b1⟩ := hk2 F rfl X'
  refine ⟨t, step t ?_, b1⟩
  have e3 : T.heap.size = H.size := by rw [hT]
  rw [e3]
  exact a1
end PMN
