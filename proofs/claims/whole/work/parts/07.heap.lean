/-! ===== the classes' words ===== -/
def pm_ok (q : vw_C) (ty : Nat → FieldType) : Prop := (∀ w ∈ u_ws q.1 q.2.1 q.2.2, w ∈ pm_T) ∧ (∀ k, k < q.2.2 → parseFieldDescriptor (q.2.1 k).2.2.1 = some (ty k)) ∧ (∀ a, a < q.2.2 → ∀ b, b < q.2.2 → a ≠ b → (q.2.1 a).2.1 ≠ (q.2.1 b).2.1)
theorem pm_inT {ws : List Cond} (h : ws.all (fun w => decide (w ∈ lw_tbl) && goodWord w) = true) : ∀ w ∈ ws, w ∈ pm_T := fun w hw => by
  have h1 := List.all_eq_true.mp h w hw
  simp only [Bool.and_eq_true, decide_eq_true_eq] at h1
  exact pm_T_in h1.1 h1.2
theorem pm_u0 : ∀ w ∈ u_ws RX0 TX0 6, w ∈ pm_T := pm_inT (by decide +kernel)
theorem pm_u1 : ∀ w ∈ u_ws RX1 TX1 14, w ∈ pm_T := pm_inT (by decide +kernel)
theorem pm_u2 : ∀ w ∈ u_ws RX2 TX2 1, w ∈ pm_T := pm_inT (by decide +kernel)
theorem pm_u3 : ∀ w ∈ u_ws RX3 TX3 3, w ∈ pm_T := pm_inT (by decide +kernel)
theorem pm_u4 : ∀ w ∈ u_ws RX4 TX4 6, w ∈ pm_T := pm_inT (by decide +kernel)
theorem pm_u5 : ∀ w ∈ u_ws RX5 TX5 6, w ∈ pm_T := pm_inT (by decide +kernel)
theorem pm_u6 : ∀ w ∈ u_ws RX6 TX6 2, w ∈ pm_T := pm_inT (by decide +kernel)
theorem pm_u7 : ∀ w ∈ u_ws RX7 TX7 2, w ∈ pm_T := pm_inT (by decide +kernel)
theorem pm_u8 : ∀ w ∈ u_ws RX8 TX8 1, w ∈ pm_T := pm_inT (by decide +kernel)
theorem pm_u9 : ∀ w ∈ u_ws RX9 TX9 9, w ∈ pm_T := pm_inT (by decide +kernel)
theorem pm_u10 : ∀ w ∈ u_ws RX10 TX10 5, w ∈ pm_T := pm_inT (by decide +kernel)
theorem pm_u11 : ∀ w ∈ u_ws RX11 TX11 11, w ∈ pm_T := pm_inT (by decide +kernel)
theorem pm_u12 : ∀ w ∈ u_ws RX12 TX12 45, w ∈ pm_T := pm_inT (by decide +kernel)
theorem pm_cls {t : Nat} {q : vw_C} (h : pm_cl[t]? = some q) : t < 13 ∧ q.2.2 = pm_nf t ∧ pm_ok q (pm_fty t) := by
  match t, h with
  | 0, h => cases h; exact ⟨by decide, rfl, pm_u0, tyX0_ok, nmX0⟩
  | 1, h => cases h; exact ⟨by decide, rfl, pm_u1, tyX1_ok, nmX1⟩
  | 2, h => cases h; exact ⟨by decide, rfl, pm_u2, tyX2_ok, nmX2⟩
  | 3, h => cases h; exact ⟨by decide, rfl, pm_u3, tyX3_ok, nmX3⟩
  | 4, h => cases h; exact ⟨by decide, rfl, pm_u4, tyX4_ok, nmX4⟩
  | 5, h => cases h; exact ⟨by decide, rfl, pm_u5, tyX5_ok, nmX5⟩
  | 6, h => cases h; exact ⟨by decide, rfl, pm_u6, tyX6_ok, nmX6⟩
  | 7, h => cases h; exact ⟨by decide, rfl, pm_u7, tyX7_ok, nmX7⟩
  | 8, h => cases h; exact ⟨by decide, rfl, pm_u8, tyX8_ok, nmX8⟩
  | 9, h => cases h; exact ⟨by decide, rfl, pm_u9, tyX9_ok, nmX9⟩
  | 10, h => cases h; exact ⟨by decide, rfl, pm_u10, tyX10_ok, nmX10⟩
  | 11, h => cases h; exact ⟨by decide, rfl, pm_u11, tyX11_ok, nmX11⟩
  | 12, h => cases h; exact ⟨by decide, rfl, pm_u12, tyX12_ok, nmX12⟩
  | n + 13, h => simp [pm_cl] at h
/-- a field's link, by tag and slot -/
def pm_fl (own : String) (idx t k : Nat) : Prop := ∃ q : vw_C, pm_cl[t]? = some q ∧ k < q.2.2 ∧ Cond.fieldLink own idx (q.2.1 k).1 (q.2.1 k).2.1 (q.2.1 k).2.2.1 ∈ pm_T
/-! ===== the relation kept ===== -/
theorem pm_old {g : pm_G} {σ : pm_S} {H : Heap} {a t : Nat} (hR : pm_Rl g σ H) (ha : pm_is σ a t) (ht : t < 13 ∨ 22 ≤ t) : 6 ≤ a := by
  obtain ⟨h1, h2, h3⟩ := ha
  obtain ⟨-, -, -, -, e1, e2, e3, e4, e5⟩ := hR
  rcases Nat.lt_or_ge a 6 with h | h
  · have : a = 1 ∨ a = 2 ∨ a = 3 ∨ a = 4 ∨ a = 5 := by omega
    rcases this with rfl | rfl | rfl | rfl | rfl <;> omega
  · exact h
theorem pm_isr_int {ty : FieldType} {v : Int32} (h : fits ty (.int v) = true) : pm_isr ty = false := by
  cases ty <;> first | rfl | simp [fits] at h
theorem pm_Rl_upd {g : pm_G} {σ σ' : pm_S} {H H' : Heap} {a : Nat} (hG : pm_Gk g) (hR : pm_Rl g σ H) (hT : qT σ' = qT σ) (hL : qL σ' = qL σ) (hN : qN σ' = qN σ) (hI : ∀ b, b ≠ a → ∀ k, pm_val g σ' b k = pm_val g σ b k) (h6 : 6 ≤ a) (hc : pm_cell g σ' a H') (hs : H'.size = H.size) (ho : ∀ q, q ≠ g.1 a → H'[q]? = H[q]?) : pm_Rl g σ' H' := by
  obtain ⟨r1, r2, r3, r4, r5⟩ := hR
  refine ⟨by rw [hN]; exact r1, by rw [hs, hN]; exact r2, fun b hb0 hbn => ?_, fun q hq => ?_, by rw [hT]; exact r5⟩
  · by_cases hba : b = a
    · subst hba; exact hc
    · rw [hN] at hbn
      obtain ⟨cell, c1, c2, c3, c4, c5, c6, c7⟩ := r3 b hb0 hbn
      refine ⟨cell, by rw [ho _ (fun z => hba (hG.1 a b hb0 h6 z))]; exact c1, by rw [hT]; exact c2, c3, c4, c5, ?_, ?_⟩
      · rw [hT]
        intro ht k hk
        rw [hI b hba k]
        exact c6 ht k hk
      · rw [hT, hL]
        intro ht
        exact ⟨(c7 ht).1, fun j hj => by rw [hI b hba j]; exact (c7 ht).2 j hj⟩
  · have h7 := hG.2.2 a h6
    rw [ho q (by omega)]
    exact r4 q hq
theorem pm_val_sI {g : pm_G} {σ : pm_S} {a k : Nat} {x : Int32} (b j : Nat) : pm_val g (pm_sI σ a k x) b j = if pm_rf (qT σ b) j = true then pm_rv g (qR σ b j) else .int (if b = a ∧ j = k then x else qI σ b j) := rfl
theorem pm_val_sR {g : pm_G} {σ : pm_S} {a k x : Nat} (b j : Nat) : pm_val g (pm_sR σ a k x) b j = if pm_rf (qT σ b) j = true then pm_rv g (if b = a ∧ j = k then x else qR σ b j) else .int (qI σ b j) := rfl
theorem pm_val_sI_ne {g : pm_G} {σ : pm_S} {a k : Nat} {x : Int32} {b : Nat} (h : b ≠ a) (j : Nat) : pm_val g (pm_sI σ a k x) b j = pm_val g σ b j := by
  rw [pm_val_sI]; unfold pm_val; rw [if_neg (c := b = a ∧ j = k) (fun z => h z.1)]
theorem pm_val_sR_ne {g : pm_G} {σ : pm_S} {a k x : Nat} {b : Nat} (h : b ≠ a) (j : Nat) : pm_val g (pm_sR σ a k x) b j = pm_val g σ b j := by
  rw [pm_val_sR]; unfold pm_val; rw [if_neg (c := b = a ∧ j = k) (fun z => h z.1)]
theorem pm_val_sI_eq {g : pm_G} {σ : pm_S} {a k : Nat} {x : Int32} (hr : pm_rf (qT σ a) k = false) (j : Nat) : pm_val g (pm_sI σ a k x) a j = updV (pm_val g σ a) k (.int x) j := by
  rw [pm_val_sI]
  unfold updV
  by_cases h : j = k
  · subst h
    rw [if_pos rfl, if_neg (by rw [hr]; decide), if_pos ⟨rfl, rfl⟩]
  · rw [if_neg h, if_neg (c := a = a ∧ j = k) (fun z => h z.2)]; rfl
theorem pm_val_sR_eq {g : pm_G} {σ : pm_S} {a k x : Nat} (hr : pm_rf (qT σ a) k = true) (j : Nat) : pm_val g (pm_sR σ a k x) a j = updV (pm_val g σ a) k (pm_rv g x) j := by
  rw [pm_val_sR]
  unfold updV
  by_cases h : j = k
  · subst h
    rw [if_pos rfl, if_pos hr, if_pos ⟨rfl, rfl⟩]
  · rw [if_neg h, if_neg (c := a = a ∧ j = k) (fun z => h z.2)]; rfl
theorem pm_val_i {g : pm_G} {σ : pm_S} {a t k : Nat} (ht : qT σ a = t) (h : pm_rf t k = false) : pm_val g σ a k = .int (qI σ a k) := if_neg (by rw [ht, h]; decide)
theorem pm_val_r {g : pm_G} {σ : pm_S} {a t k : Nat} (ht : qT σ a = t) (h : pm_rf t k = true) : pm_val g σ a k = pm_rv g (qR σ a k) := if_pos (by rw [ht]; exact h)
/-- an object's slot is set -/
theorem pm_Rl_obj {g : pm_G} {σ σ' : pm_S} {H H' : Heap} {a t k : Nat} {v : Value} {cell : Cell} (hG : pm_Gk g) (hR : pm_Rl g σ H) (ha : pm_is σ a t) (ht : t < 13) (hcell : H[g.1 a]? = some cell) (hk : k < pm_nf t) (hap : ∀ x y, x < pm_nf t → y < pm_nf t → x ≠ y → g.2.2.1 t x ≠ g.2.2.1 t y)
    (hT : qT σ' = qT σ) (hL : qL σ' = qL σ) (hN : qN σ' = qN σ) (hI : ∀ b, b ≠ a → ∀ k, pm_val g σ' b k = pm_val g σ b k) (hA : ∀ j, pm_val g σ' a j = updV (pm_val g σ a) k v j)
    (e1 : H'[g.1 a]? = some (cell.setSlot (g.2.2.1 t k) v)) (hs : H'.size = H.size) (ho : ∀ q, q ≠ g.1 a → H'[q]? = H[q]?) : pm_Rl g σ' H' := by
  have h6 := pm_old hR ha (Or.inl ht)
  obtain ⟨a1, a2, a3⟩ := ha
  obtain ⟨cell', c1, c2, c3, c4, c5, c6, c7⟩ := hR.2.2.1 a a1 a2
  have hce : cell = cell' := Option.some.inj (hcell.symm.trans c1)
  subst hce
  refine pm_Rl_upd hG hR hT hL hN hI h6 ⟨_, e1, by rw [hT]; exact c2, c3, c4, c5, ?_, ?_⟩ hs ho
  · rw [hT, a3]
    intro _ j hj
    rw [hA j]
    rw [a3] at c6
    exact t_set (c6 (by omega)) hap hk v j hj
  · rw [hT, a3]
    intro h; omega
/-- an array's place is set -/
theorem pm_Rl_arr {g : pm_G} {σ σ' : pm_S} {H H' : Heap} {a t k : Nat} {v : Value} {cell : Cell} (hG : pm_Gk g) (hR : pm_Rl g σ H) (ha : pm_is σ a t) (ht : 20 ≤ t) (h6 : 6 ≤ a) (hcell : H[g.1 a]? = some cell) (hk : k < qL σ a)
    (hT : qT σ' = qT σ) (hL : qL σ' = qL σ) (hN : qN σ' = qN σ) (hI : ∀ b, b ≠ a → ∀ k, pm_val g σ' b k = pm_val g σ b k) (hA : ∀ j, pm_val g σ' a j = updV (pm_val g σ a) k v j)
    (e1 : H'[g.1 a]? = some (cell.setSlot k v)) (hs : H'.size = H.size) (ho : ∀ q, q ≠ g.1 a → H'[q]? = H[q]?) : pm_Rl g σ' H' := by
  obtain ⟨a1, a2, a3⟩ := ha
  obtain ⟨cell', c1, c2, c3, c4, c5, c6, c7⟩ := hR.2.2.1 a a1 a2
  have hce : cell = cell' := Option.some.inj (hcell.symm.trans c1)
  subst hce
  refine pm_Rl_upd hG hR hT hL hN hI h6 ⟨_, e1, by rw [hT]; exact c2, c3, c4, c5, ?_, ?_⟩ hs ho
  · rw [hT, a3]
    intro h; omega
  · rw [hT, hL]
    intro h
    obtain ⟨d1, d2⟩ := c7 h
    refine ⟨by rw [k2_slotsz]; exact d1, fun j hj => ?_⟩
    rw [hA j]
    unfold updV
    show (cell.slots.setIfInBounds k v)[j]? = _
    by_cases hjk : j = k
    · subst hjk
      rw [if_pos rfl]
      rw [Array.getElem?_setIfInBounds_self_of_lt (Nat.lt_of_lt_of_le hk d1.1)]
    · rw [if_neg hjk, Array.getElem?_setIfInBounds_ne (Ne.symm hjk)]
      exact d2 j hj
theorem pm_arrOf {g : pm_G} {σ : pm_S} {H : Heap} {s : State} {a t : Nat} {cell : Cell} (hK : pm_K1 g s) (hR : pm_Rl g σ H) (ha : pm_is σ a t) (ht : 20 ≤ t) (ht' : t ≤ 23) (hc : cell.cls = pm_gc g a t) (hv : cell.vm.isStatics = false) : s.isArrayOf cell (pm_fty t 0) := by
  have hv' : ∀ k, cell.vm ≠ .statics k := fun k h => by rw [h] at hv; cases hv
  have key : ∀ c, ArrOfT s c (pm_fty t 0) → cell.cls = c → s.isArrayOf cell (pm_fty t 0) := fun c h hc => ⟨hv', by rw [hc]; exact (h 0 (fun _ => .null)).2⟩
  unfold pm_gc at hc
  by_cases h6 : a < 6
  · rw [if_pos h6] at hc
    obtain ⟨a1, a2, a3⟩ := ha
    obtain ⟨-, -, -, -, e1, e2, e3, e4, e5⟩ := hR
    have : a = 1 ∨ a = 2 ∨ a = 3 ∨ a = 4 ∨ a = 5 := by omega
    rcases this with rfl | rfl | rfl | rfl | rfl
    · have : t = 20 := by omega
      subst this
      exact key _ hK.2.2.1 hc
    · omega
    · omega
    · have : t = 21 := by omega
      subst this
      exact key _ hK.2.2.2.1 hc
    · have : t = 21 := by omega
      subst this
      exact key _ hK.2.2.2.2 hc
  · rw [if_neg h6] at hc
    exact key _ (hK.2.1 t ht ht').1 hc
theorem pm_inb {k n : Nat} {sz : Nat} (hsz : n ≤ sz) (hk : k < n) (hb : k < 2 ^ 31) : ¬ (nI k < 0 ∨ sz ≤ (nI k).toNatClampNeg) := by
  rw [nI_clamp hb]
  intro h
  rcases h with h | h
  · exact nI_pos hb h
  · omega
/-! ===== rows over the heap ===== -/
section PMH
variable {d al : Nat} {M : pm_M} {pc : Nat} {ls st : List Value} {σ : pm_S} {Q : Option Value → pm_S → Prop}
theorem pw_get0 {t k idx a : Nat} {v : Value} (hd : decode M.2.1 pc = .ok (.getfield idx, 3)) (hf : pm_fl M.1.cls idx t k) (ha : pm_is σ a t) (hv : ∀ g, pm_val g σ a k = pm_tr g v) (kk : PW d al M (pc + 3) ls (v :: st) σ Q) : PW d al M pc ls (.ref a :: st) σ Q := by
  intro p l e R s m args below meth c g Z mc ms H locs cells slots lr hF hV
  have e2 : List.map (pm_tr g) (Value.ref a :: st) = pm_tr g (.ref a) :: st.map (pm_tr g) := rfl
  rw [e2, pm_tr_ref ha.1]
  obtain ⟨q, hq, hk, hlink⟩ := hf
  obtain ⟨h13, hnf, hok⟩ := pm_cls hq
  obtain ⟨cell, c1, c2, c3, c4, c5, c6, c7⟩ := hV.2.2.1.2.2.1 a ha.1 ha.2.1
  obtain ⟨hS, hfc, kC, hkC, hkind⟩ := hF.1.2.2.2.2.2.2.2.2.1.1.1 t q hq
  obtain ⟨cf, kf, fi, f, hi, hsl⟩ := hS k hk
  have hts := hF.1.2.2.2.2.2.2.1
  refine W.getf hF.1.1 hF.1.2.1 hF.1.2.2.2.2.2.1 (hts _ hlink) hi (u_facts hfc hkC (u_lays hts hok.1 hk) hi).1 c1 c4 (v := pm_tr g v) ?_ rfl rfl hd (kk p l e R s m args below meth c g Z mc ms H locs cells slots lr hF hV)
  rw [hsl, ← hv g]
  have h3 := ha.2.2
  rw [h3] at c6
  exact c6 (by omega) k (by omega)
theorem pw_getI {t k idx a : Nat} (hd : decode M.2.1 pc = .ok (.getfield idx, 3)) (hf : pm_fl M.1.cls idx t k) (hr : pm_rf t k = false) (ha : pm_is σ a t) (kk : PW d al M (pc + 3) ls (.int (qI σ a k) :: st) σ Q) : PW d al M pc ls (.ref a :: st) σ Q :=
  pw_get0 hd hf ha (fun g => pm_val_i ha.2.2 hr) kk
theorem pw_getR {t k idx a : Nat} (hd : decode M.2.1 pc = .ok (.getfield idx, 3)) (hf : pm_fl M.1.cls idx t k) (hr : pm_rf t k = true) (ha : pm_is σ a t) (kk : PW d al M (pc + 3) ls (.ref (qR σ a k) :: st) σ Q) : PW d al M pc ls (.ref a :: st) σ Q :=
  pw_get0 hd hf ha (fun g => pm_val_r ha.2.2 hr) kk
/-- not final, or in a constructor of the class itself -/
def pm_wr (M : pm_M) (t k : Nat) : Prop := ∃ q : vw_C, pm_cl[t]? = some q ∧ ((q.2.1 k).2.2.2 = false ∨ ((q.2.1 k).2.2.2 = true ∧ M.1.name = "<init>" ∧ (q.2.1 k).1 = M.1.cls))
theorem pw_put0 {t k idx a : Nat} {v : Value} {σ' : pm_S} (hd : decode M.2.1 pc = .ok (.putfield idx, 3)) (hf : pm_fl M.1.cls idx t k) (hw : pm_wr M t k) (ha : pm_is σ a t) (hn : ∀ g, narrow (pm_fty t k) (pm_tr g v) = pm_tr g v) (hfit : ∀ g, fits (pm_fty t k) (pm_tr g v) = true)
    (hT : qT σ' = qT σ) (hL : qL σ' = qL σ) (hN : qN σ' = qN σ) (hI : ∀ g b, b ≠ a → ∀ k, pm_val g σ' b k = pm_val g σ b k) (hA : ∀ g j, pm_val g σ' a j = updV (pm_val g σ a) k (pm_tr g v) j) (kk : PW d al M (pc + 3) ls st σ' Q) : PW d al M pc ls (v :: .ref a :: st) σ Q := by
  intro p l e R s m args below meth c g Z mc ms H locs cells slots lr hF hV
  have e2 : List.map (pm_tr g) (v :: Value.ref a :: st) = pm_tr g v :: pm_tr g (.ref a) :: st.map (pm_tr g) := rfl
  rw [e2, pm_tr_ref ha.1]
  obtain ⟨q, hq, hk, hlink⟩ := hf
  obtain ⟨h13, hnf, hok⟩ := pm_cls hq
  obtain ⟨cell, c1, c2, c3, c4, c5, c6, c7⟩ := hV.2.2.1.2.2.1 a ha.1 ha.2.1
  have h6 := pm_old hV.2.2.1 ha (Or.inl h13)
  have hvm := c5 h6
  have hcls : cell.cls = g.2.1 t := by rw [c2, ha.2.2]; exact if_neg (by omega)
  have hK := hF.1.2.2.2.2.2.2.2.2.1.1
  obtain ⟨hS, hfc, kC, hkC, hkind⟩ := hK.1 t q hq
  obtain ⟨cf, kf, fi, f, hi, hsl⟩ := hS k hk
  have hts := hF.1.2.2.2.2.2.2.1
  have hlays := u_lays hts hok.1 hk
  have hfacts := u_facts hfc hkC hlays hi
  have hst := hfacts.1
  have hap := va_apart (own := M.1.cls) hts hok.1 (pm_fty t) hok.2.1 hok.2.2 hK hq
  have hslot : f.slot < cell.slots.size := by
    rw [hsl]
    have h3 := ha.2.2
    rw [h3] at c6
    exact k2_hasslot (c6 (by omega) k (by omega))
  have fin : ∀ H' : Heap, H'[g.1 a]? = some (cell.setSlot f.slot (pm_tr g v)) → H'.size = H.size → (∀ q, q ≠ g.1 a → H'[q]? = H[q]?) → W p l e R s m args below meth c H' (locs ++ [⟨g.1 a, f.slot⟩]) cells slots Z (F0 m (pc + 3) lr (st.map (pm_tr g))) := by
    intro H' e1 hs ho
    rw [hsl] at e1
    refine kk p l e R s m args below meth c g Z mc ms H' _ cells slots lr hF ⟨hV.1, hV.2.1, pm_Rl_obj (k := k) hF.2.1 hV.2.2.1 ha h13 c1 (by omega) (by rw [← hnf]; exact hap) hT hL hN (hI g) (hA g) e1 hs ho, ?_, hV.2.2.2.2⟩
    intro x hx
    rcases List.mem_append.mp hx with h | h
    · exact hV.2.2.2.1 x h
    · have : x = ⟨g.1 a, f.slot⟩ := by simpa using h
      rw [this]
      exact hF.2.1.2.2 a h6
  obtain ⟨q', hq', hw⟩ := hw
  have hqq : q = q' := Option.some.inj (hq.symm.trans hq')
  subst hqq
  rcases hw with hw | ⟨hw0, hw1, hw2⟩
  · have hlay := hts _ (hok.1 _ (u_in_lay hk))
    unfold u_lay at hlay
    rw [if_neg (by rw [hw]; decide)] at hlay
    have h6' := u_store hfc hkC hkind hlay hi (hok.2.1 k hk) (hn g) (hfit g)
    exact W.putK hF.1.1 hF.1.2.1 (f := f) ⟨hF.1.2.2.2.2.2.1, hts _ hlink, ⟨cf, kf, fi, hi⟩, hst⟩ (by rw [hcls]; exact h6') c1 hvm hslot rfl rfl hd fin
  · have h7 := u_fits hfc hkC hkind hlays hi (hok.2.1 k hk) (hn g) (hfit g)
    have hlay := hts _ (hok.1 _ (u_in_lay hk))
    unfold u_lay at hlay
    rw [if_pos hw0] at hlay
    have hcf : m.cls = cf := by
      obtain ⟨_, _, c', _, _, _, -, -, hf', -, -, -, hown2, -⟩ := Cond.laysFinal_spec hlay
      have e1 : c' = cf := by have := hi.symm.trans hf'; simp at this; exact this.1.symm
      rw [hw2] at hown2
      rw [← e1]; exact Option.some.inj (hF.1.2.2.2.2.2.1.symm.trans hown2)
    exact W.putFinK hF.1.1 hF.1.2.1 hF.1.2.2.2.2.2.1 (hts _ hlink) hi hst hcf (hF.1.2.2.2.2.2.2.2.1 hw1) (by rw [hcls]; exact h7) c1 hvm hslot rfl rfl hd fin
end PMH
