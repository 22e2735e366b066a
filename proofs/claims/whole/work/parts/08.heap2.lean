section PMH2
variable {d al : Nat} {M : pm_M} {pc : Nat} {ls st : List Value} {σ : pm_S} {Q : Option Value → pm_S → Prop}
theorem pw_putI {t k idx a : Nat} {x : Int32} (hd : decode M.2.1 pc = .ok (.putfield idx, 3)) (hf : pm_fl M.1.cls idx t k) (hw : pm_wr M t k) (hty : pm_fty t k = .int) (ha : pm_is σ a t) (kk : PW d al M (pc + 3) ls st (pm_sI σ a k x) Q) : PW d al M pc ls (.int x :: .ref a :: st) σ Q :=
  have hr : pm_rf (qT σ a) k = false := by rw [ha.2.2]; unfold pm_rf; rw [hty]; rfl
  pw_put0 (v := .int x) (σ' := pm_sI σ a k x) hd hf hw ha (fun g => by rw [hty]; rfl) (fun g => by rw [hty]; rfl) rfl rfl rfl (fun g b hb j => pm_val_sI_ne hb j) (fun g j => pm_val_sI_eq hr j) kk
theorem pw_putZ {t k idx a : Nat} {x : Int32} (hd : decode M.2.1 pc = .ok (.putfield idx, 3)) (hf : pm_fl M.1.cls idx t k) (hw : pm_wr M t k) (hty : pm_fty t k = .boolean) (hx : x = 0 ∨ x = 1) (ha : pm_is σ a t) (kk : PW d al M (pc + 3) ls st (pm_sI σ a k x) Q) : PW d al M pc ls (.int x :: .ref a :: st) σ Q :=
  have hr : pm_rf (qT σ a) k = false := by rw [ha.2.2]; unfold pm_rf; rw [hty]; rfl
  pw_put0 (v := .int x) (σ' := pm_sI σ a k x) hd hf hw ha (fun g => by rw [hty]; rcases hx with rfl | rfl <;> rfl) (fun g => by rw [hty]; rcases hx with rfl | rfl <;> rfl) rfl rfl rfl (fun g b hb j => pm_val_sI_ne hb j) (fun g j => pm_val_sI_eq hr j) kk
theorem pm_rv_fit {ty : FieldType} (h : pm_isr ty = true) (g : pm_G) (x : Nat) : narrow ty (pm_rv g x) = pm_rv g x ∧ fits ty (pm_rv g x) = true := by
  unfold pm_rv
  cases ty <;> first | (exfalso; revert h; decide) | (split <;> exact ⟨rfl, rfl⟩)
theorem pw_putR {t k idx a x : Nat} (hd : decode M.2.1 pc = .ok (.putfield idx, 3)) (hf : pm_fl M.1.cls idx t k) (hw : pm_wr M t k) (hr : pm_rf t k = true) (ha : pm_is σ a t) (kk : PW d al M (pc + 3) ls st (pm_sR σ a k x) Q) : PW d al M pc ls (.ref x :: .ref a :: st) σ Q :=
  pw_put0 (v := .ref x) (σ' := pm_sR σ a k x) hd hf hw ha (fun g => (pm_rv_fit hr g x).1) (fun g => (pm_rv_fit hr g x).2) rfl rfl rfl (fun g b hb j => pm_val_sR_ne hb j) (fun g j => pm_val_sR_eq (by rw [ha.2.2]; exact hr) j) kk
/-! arrays -/
theorem pw_alen {a t : Nat} (hd : decode M.2.1 pc = .ok (.arraylength, 1)) (ha : pm_is σ a t) (ht : 20 ≤ t) (ht' : t ≤ 23) (kk : PW d al M (pc + 1) ls (.int (nI (qL σ a)) :: st) σ Q) : PW d al M pc ls (.ref a :: st) σ Q := by
  intro p l e R s m args below meth c g Z mc ms H locs cells slots lr hF hV
  have e2 : List.map (pm_tr g) (Value.ref a :: st) = pm_tr g (.ref a) :: st.map (pm_tr g) := rfl
  rw [e2, pm_tr_ref ha.1]
  obtain ⟨cell, c1, c2, c3, c4, c5, c6, c7⟩ := hV.2.2.1.2.2.1 a ha.1 ha.2.1
  have h3 := ha.2.2
  rw [h3] at c2 c7
  exact W.alen hF.1.1 hF.1.2.1 c1 (pm_arrOf hF.1.2.2.2.2.2.2.2.2.1 hV.2.2.1 ha ht ht' c2 c3) (n := nI (qL σ a)) (c7 ht).1.2 rfl rfl hd (kk p l e R s m args below meth c g Z mc ms H locs cells slots lr hF hV)
theorem pw_iald {a k : Nat} {j : Int32} (hd : decode M.2.1 pc = .ok (.iaload, 1)) (ha : pm_is σ a 20) (hj : j = nI k) (hk : k < qL σ a) (hb : k < 2 ^ 31) (kk : PW d al M (pc + 1) ls (.int (qI σ a k) :: st) σ Q) : PW d al M pc ls (.int j :: .ref a :: st) σ Q := by
  intro p l e R s m args below meth c g Z mc ms H locs cells slots lr hF hV
  subst hj
  have e2 : List.map (pm_tr g) (.int (nI k) :: Value.ref a :: st) = .int (nI k) :: pm_tr g (.ref a) :: st.map (pm_tr g) := rfl
  rw [e2, pm_tr_ref ha.1]
  obtain ⟨cell, c1, c2, c3, c4, c5, c6, c7⟩ := hV.2.2.1.2.2.1 a ha.1 ha.2.1
  have h3 := ha.2.2
  rw [h3] at c2 c7
  obtain ⟨d1, d2⟩ := c7 (by decide)
  exact W.iald hF.1.1 hF.1.2.1 c1 (pm_arrOf hF.1.2.2.2.2.2.2.2.2.1 hV.2.2.1 ha (by decide) (by decide) c2 c3) c4 (pm_inb d1.1 hk hb) (v := .int (qI σ a k)) (by rw [nI_clamp hb, d2 k hk, pm_val_i h3 rfl]) rfl rfl hd (kk p l e R s m args below meth c g Z mc ms H locs cells slots lr hF hV)
theorem pw_bald {a k : Nat} {j : Int32} (hd : decode M.2.1 pc = .ok (.baload, 1)) (ha : pm_is σ a 21) (hj : j = nI k) (hk : k < qL σ a) (hb : k < 2 ^ 31) (kk : PW d al M (pc + 1) ls (.int (qI σ a k) :: st) σ Q) : PW d al M pc ls (.int j :: .ref a :: st) σ Q := by
  intro p l e R s m args below meth c g Z mc ms H locs cells slots lr hF hV
  subst hj
  have e2 : List.map (pm_tr g) (.int (nI k) :: Value.ref a :: st) = .int (nI k) :: pm_tr g (.ref a) :: st.map (pm_tr g) := rfl
  rw [e2, pm_tr_ref ha.1]
  obtain ⟨cell, c1, c2, c3, c4, c5, c6, c7⟩ := hV.2.2.1.2.2.1 a ha.1 ha.2.1
  have h3 := ha.2.2
  rw [h3] at c2 c7
  obtain ⟨d1, d2⟩ := c7 (by decide)
  exact W.bald hF.1.1 hF.1.2.1 c1 (pm_arrOf hF.1.2.2.2.2.2.2.2.2.1 hV.2.2.1 ha (by decide) (by decide) c2 c3) c4 (pm_inb d1.1 hk hb) (v := .int (qI σ a k)) (by rw [nI_clamp hb, d2 k hk, pm_val_i h3 rfl]) rfl rfl hd (kk p l e R s m args below meth c g Z mc ms H locs cells slots lr hF hV)
theorem pw_aald {a k t : Nat} {j : Int32} (hd : decode M.2.1 pc = .ok (.aaload, 1)) (ha : pm_is σ a t) (ht : t = 22 ∨ t = 23) (hj : j = nI k) (hk : k < qL σ a) (hb : k < 2 ^ 31) (kk : PW d al M (pc + 1) ls (.ref (qR σ a k) :: st) σ Q) : PW d al M pc ls (.int j :: .ref a :: st) σ Q := by
  intro p l e R s m args below meth c g Z mc ms H locs cells slots lr hF hV
  subst hj
  have e2 : List.map (pm_tr g) (.int (nI k) :: Value.ref a :: st) = .int (nI k) :: pm_tr g (.ref a) :: st.map (pm_tr g) := rfl
  rw [e2, pm_tr_ref ha.1]
  obtain ⟨cell, c1, c2, c3, c4, c5, c6, c7⟩ := hV.2.2.1.2.2.1 a ha.1 ha.2.1
  have h3 := ha.2.2
  rw [h3] at c2 c7
  obtain ⟨d1, d2⟩ := c7 (by omega)
  exact W.aald hF.1.1 hF.1.2.1 c1 (pm_arrOf hF.1.2.2.2.2.2.2.2.2.1 hV.2.2.1 ha (by omega) (by omega) c2 c3) (by rcases ht with rfl | rfl <;> rfl) c4 (pm_inb d1.1 hk hb) (v := pm_tr g (.ref (qR σ a k))) (by rw [nI_clamp hb, d2 k hk, pm_val_r h3 (by rcases ht with rfl | rfl <;> rfl)]; rfl) rfl rfl hd (kk p l e R s m args below meth c g Z mc ms H locs cells slots lr hF hV)
theorem pm_locs {g : pm_G} {locs : List Loc} {a i : Nat} (hG : pm_Gk g) (h : ∀ q ∈ locs, g.2.2.2.2.1 ≤ q.base) (h6 : 6 ≤ a) : ∀ q ∈ locs ++ [⟨g.1 a, i⟩], g.2.2.2.2.1 ≤ q.base := by
  intro x hx
  rcases List.mem_append.mp hx with h' | h'
  · exact h x h'
  · have : x = ⟨g.1 a, i⟩ := by simpa using h'
    rw [this]
    exact hG.2.2 a h6
theorem pw_iast {a k : Nat} {j x : Int32} (hd : decode M.2.1 pc = .ok (.iastore, 1)) (ha : pm_is σ a 20) (h6 : 6 ≤ a) (hj : j = nI k) (hk : k < qL σ a) (hb : k < 2 ^ 31) (kk : PW d al M (pc + 1) ls st (pm_sI σ a k x) Q) : PW d al M pc ls (.int x :: .int j :: .ref a :: st) σ Q := by
  intro p l e R s m args below meth c g Z mc ms H locs cells slots lr hF hV
  subst hj
  have e2 : List.map (pm_tr g) (.int x :: .int (nI k) :: Value.ref a :: st) = .int x :: .int (nI k) :: pm_tr g (.ref a) :: st.map (pm_tr g) := rfl
  rw [e2, pm_tr_ref ha.1]
  obtain ⟨cell, c1, c2, c3, c4, c5, c6, c7⟩ := hV.2.2.1.2.2.1 a ha.1 ha.2.1
  have h3 := ha.2.2
  rw [h3] at c2 c7
  obtain ⟨d1, d2⟩ := c7 (by decide)
  refine W.iast hF.1.1 hF.1.2.1 c1 (pm_arrOf hF.1.2.2.2.2.2.2.2.2.1 hV.2.2.1 ha (by decide) (by decide) c2 c3) c4 (pm_inb d1.1 hk hb) rfl rfl hd (fun H' e1 hs ho => ?_)
  rw [nI_clamp hb] at e1 ⊢
  exact kk p l e R s m args below meth c g Z mc ms H' _ cells slots lr hF ⟨hV.1, hV.2.1, pm_Rl_arr hF.2.1 hV.2.2.1 ha (by decide) h6 c1 hk rfl rfl rfl (fun b hb j => pm_val_sI_ne hb j) (fun j => pm_val_sI_eq (by rw [h3]; rfl) j) e1 hs ho, pm_locs hF.2.1 hV.2.2.2.1 h6, hV.2.2.2.2⟩
theorem pw_bast {a k : Nat} {j x : Int32} (hd : decode M.2.1 pc = .ok (.bastore, 1)) (ha : pm_is σ a 21) (h6 : 6 ≤ a) (hj : j = nI k) (hk : k < qL σ a) (hb : k < 2 ^ 31) (kk : PW d al M (pc + 1) ls st (pm_sI σ a k x.toInt8.toInt32) Q) : PW d al M pc ls (.int x :: .int j :: .ref a :: st) σ Q := by
  intro p l e R s m args below meth c g Z mc ms H locs cells slots lr hF hV
  subst hj
  have e2 : List.map (pm_tr g) (.int x :: .int (nI k) :: Value.ref a :: st) = .int x :: .int (nI k) :: pm_tr g (.ref a) :: st.map (pm_tr g) := rfl
  rw [e2, pm_tr_ref ha.1]
  obtain ⟨cell, c1, c2, c3, c4, c5, c6, c7⟩ := hV.2.2.1.2.2.1 a ha.1 ha.2.1
  have h3 := ha.2.2
  rw [h3] at c2 c7
  obtain ⟨d1, d2⟩ := c7 (by decide)
  refine W.bast hF.1.1 hF.1.2.1 c1 (pm_arrOf hF.1.2.2.2.2.2.2.2.2.1 hV.2.2.1 ha (by decide) (by decide) c2 c3) c4 (pm_inb d1.1 hk hb) rfl rfl hd (fun H' e1 hs ho => ?_)
  rw [nI_clamp hb] at e1 ⊢
  exact kk p l e R s m args below meth c g Z mc ms H' _ cells slots lr hF ⟨hV.1, hV.2.1, pm_Rl_arr hF.2.1 hV.2.2.1 ha (by decide) h6 c1 hk rfl rfl rfl (fun b hb j => pm_val_sI_ne hb j) (fun j => pm_val_sI_eq (by rw [h3]; rfl) j) e1 hs ho, pm_locs hF.2.1 hV.2.2.2.1 h6, hV.2.2.2.2⟩
theorem pw_aast {a k x : Nat} {j : Int32} (hd : decode M.2.1 pc = .ok (.aastore, 1)) (ha : pm_is σ a 22) (hx : x = 0 ∨ pm_is σ x 9) (hj : j = nI k) (hk : k < qL σ a) (hb : k < 2 ^ 31) (kk : PW d al M (pc + 1) ls st (pm_sR σ a k x) Q) : PW d al M pc ls (.ref x :: .int j :: .ref a :: st) σ Q := by
  intro p l e R s m args below meth c g Z mc ms H locs cells slots lr hF hV
  subst hj
  have h6 := pm_old hV.2.2.1 ha (Or.inr (by decide))
  have e2 : List.map (pm_tr g) (.ref x :: .int (nI k) :: Value.ref a :: st) = pm_tr g (.ref x) :: .int (nI k) :: pm_tr g (.ref a) :: st.map (pm_tr g) := rfl
  rw [e2, pm_tr_ref ha.1]
  obtain ⟨cell, c1, c2, c3, c4, c5, c6, c7⟩ := hV.2.2.1.2.2.1 a ha.1 ha.2.1
  have h3 := ha.2.2
  rw [h3] at c2 c7
  obtain ⟨d1, d2⟩ := c7 (by decide)
  have hK1 := hF.1.2.2.2.2.2.2.2.2.1
  have hcA : cell.cls = g.2.1 22 := by rw [c2]; exact if_neg (by omega)
  have fin : ∀ H' : Heap, H'[g.1 a]? = some (cell.setSlot k (pm_tr g (.ref x))) → H'.size = H.size → (∀ q, q ≠ g.1 a → H'[q]? = H[q]?) → W p l e R s m args below meth c H' (locs ++ [⟨g.1 a, k⟩]) cells slots Z (F0 m (pc + 1) lr (st.map (pm_tr g))) := fun H' e1 hs ho =>
    kk p l e R s m args below meth c g Z mc ms H' _ cells slots lr hF ⟨hV.1, hV.2.1, pm_Rl_arr hF.2.1 hV.2.2.1 ha (by decide) h6 c1 hk rfl rfl rfl (fun b hb j => pm_val_sR_ne hb j) (fun j => pm_val_sR_eq (by rw [h3]; rfl) j) e1 hs ho, pm_locs hF.2.1 hV.2.2.2.1 h6, hV.2.2.2.2⟩
  rcases hx with h0 | hx
  · subst h0
    refine va_WaastN (C := RX9) hF.1.1 hF.1.2.1 c1 (pm_arrOf hK1 hV.2.2.1 ha (by decide) (by decide) c2 c3) c4 (pm_inb d1.1 hk hb) rfl rfl hd (fun H' e1 hs ho => ?_)
    rw [nI_clamp hb] at e1 ⊢
    exact fin H' e1 hs ho
  · rw [pm_tr_ref hx.1] at fin ⊢
    obtain ⟨cv, v1, v2, v3, v4, v5, v6, v7⟩ := hV.2.2.1.2.2.1 x hx.1 hx.2.1
    obtain ⟨-, hra⟩ := hK1.2.1 22 (by decide) (by decide)
    obtain ⟨kA, comp, r1, r2, r3, r4⟩ := hra
    have hx6 := pm_old hV.2.2.1 hx (Or.inl (by decide))
    have hcv : cv.cls = g.2.1 9 := by rw [v2, hx.2.2]; exact if_neg (by omega)
    obtain ⟨-, hfc, kC, hkC, hkind⟩ := hK1.1.1 9 _ rfl
    have hcomp : comp = g.2.1 9 := Option.some.inj (r3.symm.trans hfc)
    refine W.aast hF.1.1 hF.1.2.1 c1 (fun q h => by rw [h] at c3; cases c3) c4 (by rw [hcA]; exact r1) r2 rfl (by rw [hcomp]; exact hkC) ⟨nI_pos hb, by rw [nI_clamp hb]; exact Nat.lt_of_lt_of_le hk d1.1⟩ v1 (fun q h => by rw [h] at v3; cases v3) (by rw [hcv]; exact hkC) (by rw [hcv, hcomp]; exact va_asg _ _) rfl rfl hd (fun H' e1 hs ho => ?_)
    rw [nI_clamp hb] at e1 ⊢
    exact fin H' e1 hs ho
end PMH2
