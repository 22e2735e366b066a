/-! ===== rows for the JDK's own code: fields of a text, statics, texts, max and min ===== -/
section PMJ
variable {d al : Nat} {M : pm_M} {pc : Nat} {ls st : List Value} {σ : pm_S} {Q : Option Value → pm_S → Prop}
theorem pw_getV {idx a : Nat} (hd : decode M.2.1 pc = .ok (.getfield idx, 3)) (hl : Cond.fieldLink M.1.cls idx "java/lang/String" "value" "[B" ∈ pm_T) (ha : pm_is σ a 13) {b : Nat} (hb : qR σ a 0 = b) (kk : PW d al M (pc + 3) ls (.ref b :: st) σ Q) : PW d al M pc ls (.ref a :: st) σ Q := by
  intro p l e R s m args below meth c g Z mc ms H locs cells slots lr hF hV
  have e2 : List.map (pm_tr g) (Value.ref a :: st) = pm_tr g (.ref a) :: st.map (pm_tr g) := rfl
  rw [e2, pm_tr_ref ha.1]
  obtain ⟨cell, c1, c2, c3, c4, c5, c6, c7⟩ := hV.2.2.1.2.2.1 a ha.1 ha.2.1
  obtain ⟨cf, k, i, f, f1, f2, f3⟩ := hF.1.2.2.2.2.2.2.2.2.2.1.2.1
  have hts := hF.1.2.2.2.2.2.2.1
  refine W.getf hF.1.1 hF.1.2.1 hF.1.2.2.2.2.2.1 (hts _ hl) f1 f2 c1 c4 (v := pm_tr g (.ref b)) ?_ rfl rfl hd (kk p l e R s m args below meth c g Z mc ms H locs cells slots lr hF hV)
  rw [f3, ← hb]
  have h3 := ha.2.2
  rw [h3] at c6
  rw [c6 (by decide) 0 (by decide)]
  exact congrArg some (pm_val_r ha.2.2 rfl)
theorem pw_getC {idx a : Nat} (hd : decode M.2.1 pc = .ok (.getfield idx, 3)) (hl : Cond.fieldLink M.1.cls idx "java/lang/String" "coder" "B" ∈ pm_T) (ha : pm_is σ a 13) (kk : PW d al M (pc + 3) ls (.int (qI σ a 1) :: st) σ Q) : PW d al M pc ls (.ref a :: st) σ Q := by
  intro p l e R s m args below meth c g Z mc ms H locs cells slots lr hF hV
  have e2 : List.map (pm_tr g) (Value.ref a :: st) = pm_tr g (.ref a) :: st.map (pm_tr g) := rfl
  rw [e2, pm_tr_ref ha.1]
  obtain ⟨cell, c1, c2, c3, c4, c5, c6, c7⟩ := hV.2.2.1.2.2.1 a ha.1 ha.2.1
  obtain ⟨cf, k, i, f, f1, f2, f3⟩ := hF.1.2.2.2.2.2.2.2.2.2.1.2.2.1
  have hts := hF.1.2.2.2.2.2.2.1
  refine W.getf hF.1.1 hF.1.2.1 hF.1.2.2.2.2.2.1 (hts _ hl) f1 f2 c1 c4 (v := .int (qI σ a 1)) ?_ rfl rfl hd (kk p l e R s m args below meth c g Z mc ms H locs cells slots lr hF hV)
  rw [f3]
  have h3 := ha.2.2
  rw [h3] at c6
  rw [c6 (by decide) 1 (by decide)]
  exact congrArg some (pm_val_i ha.2.2 rfl)
theorem pw_comp {idx : Nat} (hd : decode M.2.1 pc = .ok (.getstatic idx, 3)) (hl : Cond.fieldLink M.1.cls idx "java/lang/String" "COMPACT_STRINGS" "Z" ∈ pm_T) (kk : PW d al M (pc + 3) ls (.int 1 :: st) σ Q) : PW d al M pc ls st σ Q := by
  intro p l e R s m args below meth c g Z mc ms H locs cells slots lr hF hV
  obtain ⟨cf, kf, fi, f, a, cell, h1, h2, h3, h4, h5, h6, h7, h8⟩ := hF.1.2.2.2.2.2.2.2.2.2.2.2.1
  have hts := hF.1.2.2.2.2.2.2.1
  exact W.gets hF.1.1 hF.1.2.1 hF.1.2.2.2.2.2.1 (hts _ hl) h1 h2 h3 h4 (by rw [hV.2.2.1.2.2.2.1 a (Nat.lt_of_not_le h8)]; exact h5) (fun e => by rw [e] at h6; cases h6) h7 rfl hd (kk p l e R s m args below meth c g Z mc ms H locs cells slots lr hF hV)
theorem pw_ldcS1 (hd : decode M.2.1 pc = .ok (.ldc 68, 2)) (hM : M.1.cls = RX10) (kk : PW d al M (pc + 2) ls (.ref 2 :: st) σ Q) : PW d al M pc ls st σ Q := by
  intro p l e R s m args below meth c g Z mc ms H locs cells slots lr hF hV
  have hz : vk_R RX10 pm_tx1 pm_s1 (g.1 2) s := hF.1.2.2.2.2.2.2.2.2.2.1.2.2.2.1
  have hown := hF.1.2.2.2.2.2.1
  rw [hM] at hown
  exact va_ldcS hF.1.1 hF.1.2.1 hown hz hd (kk p l e R s m args below meth c g Z mc ms H locs cells slots lr hF hV)
theorem pw_ldcS2 (hd : decode M.2.1 pc = .ok (.ldc 53, 2)) (hM : M.1.cls = RX10) (kk : PW d al M (pc + 2) ls (.ref 3 :: st) σ Q) : PW d al M pc ls st σ Q := by
  intro p l e R s m args below meth c g Z mc ms H locs cells slots lr hF hV
  have hz : vk_R RX10 pm_tx2 pm_s2 (g.1 3) s := hF.1.2.2.2.2.2.2.2.2.2.1.2.2.2.2
  have hown := hF.1.2.2.2.2.2.1
  rw [hM] at hown
  exact va_ldcS hF.1.1 hF.1.2.1 hown hz hd (kk p l e R s m args below meth c g Z mc ms H locs cells slots lr hF hV)
theorem jm_1 : Cond.methodLink "java/lang/StringLatin1" 92 Lib.Math.max.name ∈ pm_T := pm_T_in (List.mem_of_getElem? (i := 770) (by decide +kernel)) rfl
theorem jm_2 : Cond.static Lib.Math.max.name ∈ pm_T := pm_T_in (List.mem_of_getElem? (i := 771) (by decide +kernel)) rfl
theorem jm_3 : Cond.code Lib.Math.max.name Lib.Math.max.code 2 (some .int) ∈ pm_T := pm_T_in (List.mem_of_getElem? (i := 772) (by decide +kernel)) rfl
theorem jm_4 : Cond.methodLink "java/lang/StringLatin1" 38 Lib.Math.min.name ∈ pm_T := pm_T_in (List.mem_of_getElem? (i := 773) (by decide +kernel)) rfl
theorem jm_5 : Cond.static Lib.Math.min.name ∈ pm_T := pm_T_in (List.mem_of_getElem? (i := 774) (by decide +kernel)) rfl
theorem jm_6 : Cond.code Lib.Math.min.name Lib.Math.min.code 2 (some .int) ∈ pm_T := pm_T_in (List.mem_of_getElem? (i := 775) (by decide +kernel)) rfl
theorem jm_7 : Cond.initialized "java/lang/Math" ∈ pm_T := pm_T_in (List.mem_of_getElem? (i := 70) (by decide +kernel)) rfl
theorem pm_catS (g : pm_G) (st : List Value) : ((st.map (pm_tr g)).map fun v => v.category).sum = (st.map fun v => v.category).sum := by
  rw [List.map_map]
  have e : ((fun v : Value => v.category) ∘ pm_tr g) = fun v => v.category := funext fun v => pm_tr_cat g v
  rw [e]
theorem pw_max {x y : Int32} (hd : decode M.2.1 pc = .ok (.invokestatic 92, 3)) (hM : M.1.cls = "java/lang/StringLatin1") (hdd : 1 ≤ d) (hr : (st.map fun v => v.category).sum ≤ 8) (kk : PW d al M (pc + 3) ls (.int (if x < y then y else x) :: st) σ Q) : PW d al M pc ls (.int y :: .int x :: st) σ Q := by
  intro p l e R s m args below meth c g Z mc ms H locs cells slots lr hF hV
  have hts := hF.1.2.2.2.2.2.2.1
  have hown := hF.1.2.2.2.2.2.1
  rw [hM] at hown
  exact va_mmax hF.1.1 hF.1.2.1 (by rw [hF.1.2.2.2.2.1, hV.2.2.2.2.1]) hown (hts _ jm_1) (hts _ jm_2) (hts _ jm_7) (hts _ jm_3) (Nat.le_trans hdd hF.2.2.1) (by rw [pm_catS]; have := hF.2.2.2.1; omega) (Nat.le_trans (by have := hV.1; omega) hF.2.2.2.2.1) (Nat.le_trans (by have := hV.2.1; omega) hF.2.2.2.2.2.1) hd (kk p l e R s m args below meth c g Z mc ms H locs cells slots lr hF hV)
theorem pw_min {x y : Int32} (hd : decode M.2.1 pc = .ok (.invokestatic 38, 3)) (hM : M.1.cls = "java/lang/StringLatin1") (hdd : 1 ≤ d) (hr : (st.map fun v => v.category).sum ≤ 8) (kk : PW d al M (pc + 3) ls (.int (if y < x then y else x) :: st) σ Q) : PW d al M pc ls (.int y :: .int x :: st) σ Q := by
  intro p l e R s m args below meth c g Z mc ms H locs cells slots lr hF hV
  have hts := hF.1.2.2.2.2.2.2.1
  have hown := hF.1.2.2.2.2.2.1
  rw [hM] at hown
  exact va_mmin hF.1.1 hF.1.2.1 (by rw [hF.1.2.2.2.2.1, hV.2.2.2.2.1]) hown (hts _ jm_4) (hts _ jm_5) (hts _ jm_7) (hts _ jm_6) (Nat.le_trans hdd hF.2.2.1) (by rw [pm_catS]; have := hF.2.2.2.1; omega) (Nat.le_trans (by have := hV.1; omega) hF.2.2.2.2.1) (Nat.le_trans (by have := hV.2.1; omega) hF.2.2.2.2.2.1) hd (kk p l e R s m args below meth c g Z mc ms H locs cells slots lr hF hV)
/-- a text as the receiver of a call -/
theorem pm_rcvS {a : Nat} (h2 : a = 2 ∨ a = 3) : ∀ (g : pm_G) (s : State) (H : Heap), pm_K g s → pm_Rl g σ H → ∃ cellB : Cell, H[g.1 a]? = some cellB ∧ cellB.vm.isStatics = false ∧ s.vm.findClass "java/lang/String" = some cellB.cls := by
  intro g s H hK hR
  obtain ⟨cell, c1, c2, c3, c4, c5, c6, c7⟩ := hR.2.2.1 a (by omega) (by have := hR.1; omega)
  refine ⟨cell, c1, c3, ?_⟩
  rw [c2]
  unfold pm_gc
  rw [if_pos (by omega)]
  rcases h2 with rfl | rfl
  · exact hK.2.1.1.1
  · exact hK.2.1.1.2
/-- a run whose locals say less than the arguments -/
theorem pm_met2 {d al : Nat} {M : pm_M} {ls : List Value} {σ : pm_S} {Q : Option Value → pm_S → Prop} (vs : List Value) (hp : plainName M.1.cls = true) (hlen : (lg_sl vs).length ≤ M.2.2.1) (h : PW d al M 0 ls [] σ Q) (l : Launch) (g : pm_G) (hG : pm_Gk g) (hsub : ∀ q ∈ pm_prs g 0 ls, q ∈ lv_args 0 vs) :
    Met l M.1 (pm_ws M) (pm_rm d al) (va_Pc vs (fun U => pm_K g U ∧ pm_Rl g σ U.heap)) (pm_Qc g Q) al (700 * al) (fun q => g.2.2.2.2.1 ≤ q) := by
  refine Met.ofW (cc := M.2.1) (maxL := M.2.2.1) (ret := M.2.2.2) hp rfl ?_
  intro p e s m args below meth c s₁ B hml hv
  obtain ⟨rfl, hK, hR⟩ := hv
  have hts0 := atoms_spec (ws := pm_ws M) B.pre
  have hts : ∀ w ∈ pm_T, w.before vs.toArray s = true := fun w hw => hts0 w (List.mem_cons_of_mem _ hw)
  have hlocks := B.notSynchronized
  have hCx : pm_Cx M p s m vs.toArray meth c g := ⟨B.exec, B.bytes, B.returns, hlocks, hml, findClass_of_methodNamed B.named, hts, (fun h => (name_of_methodNamed B.named B.method).1.trans h), hK⟩
  have hE : pm_End M Q p l e (headSpec (pm_ws M) (pm_rm d al)).room s m vs.toArray below meth c g (MQ below (pm_Qc g Q) vs.toArray s al (700 * al) (fun q => g.2.2.2.2.1 ≤ q)) al (700 * al) := by
    intro r τ H locs lr pc ins hQ hRl hlo hd hok
    rcases hok with ⟨h1, rfl, rfl⟩ | ⟨ty, x, h1, rfl, rfl, hn⟩ | ⟨ty, a, h1, rfl, rfl, ht⟩
    · exact W.vret B.exec B.bytes (B.returns.trans h1) (fun t ht hW => ⟨none, τ, hQ, rfl, by rw [ht]; exact hRl⟩) hlo hd
    · exact W.zret (ty := ty) B.exec B.bytes (B.returns.trans h1) hn (fun t ht hW => ⟨some (.int x), τ, hQ, rfl, by rw [ht]; exact hRl⟩) hlo hd
    · refine W.aret (rt := ty) (v := pm_tr g (.ref a)) B.exec B.bytes (B.returns.trans h1) ht ?_ (fun t ht hW => ⟨some (.ref a), τ, hQ, rfl, by rw [ht]; exact hRl⟩) hlo hd
      rcases Nat.eq_zero_or_pos a with h0 | h0
      · subst h0; exact Or.inl rfl
      · exact Or.inr ⟨_, pm_tr_ref h0⟩
  rw [lg_entry_eq]
  have hl := lv_entry vs (n := M.2.2.1) hlen
  generalize (lg_sl vs ++ List.replicate (M.2.2.1 - (lg_sl vs).length) Slot.unset).toArray = lr at hl ⊢
  refine h p l e _ s m _ below meth c g _ al (700 * al) s.heap [] 0 0 lr ⟨hCx, hG, Nat.le_refl _, Nat.le_refl _, Nat.le_refl _, Nat.le_refl _, hE⟩ ⟨by omega, by omega, hR, (fun q h => by cases h), ?_⟩
  exact ⟨hl.1, hl.2.1, fun q hq => hl.2.2 q (hsub q hq)⟩
theorem pm_blind2 (g : pm_G) (vs : List Value) (σ : pm_S) : FrameBlind (va_Pc vs (fun U => pm_K g U ∧ pm_Rl g σ U.heap)) := fun a U fr mk h => ⟨h.1, pm_K.same (u := U) (U := U.calling fr mk a) rfl h.2.1, h.2.2⟩
/-- the static is read and handed to the check of an index, which leaves it alone -/
theorem pw_ckix {i n : Int32} {idx1 idx2 d1 : Nat} {M' : pm_M} (hd1 : decode M.2.1 pc = .ok (.getstatic idx1, 3)) (hl1 : Cond.fieldLink M.1.cls idx1 "jdk/internal/util/Preconditions" "SIOOBE_FORMATTER" "Ljava/util/function/BiFunction;" ∈ pm_T)
    (hd2 : decode M.2.1 (pc + 3) = .ok (.invokestatic idx2, 3)) (hm : pm_mt M' 3) (hs : Cond.static M'.1 ∈ pm_T) (hl : Cond.methodLink M.1.cls idx2 M'.1 ∈ pm_T) (h3 : 3 ≤ M'.2.2.1) (hr : (st.map fun v => v.category).sum ≤ 8) (hdd : d1 + 1 ≤ d)
    (h1 : PW d1 0 M' 0 [.int i, .int n, .retAddr 0] [] σ (fun r τ => r = some (.int i) ∧ τ = σ)) (kk : PW d al M (pc + 6) ls (.int i :: st) σ Q) : PW d al M pc ls (.int n :: .int i :: st) σ Q := by
  intro p l e R s m args below meth c g Z mc ms H locs cells slots lr hF hV
  obtain ⟨v, hv, cf, kf, fi, f, a, cell, g1, g2, g3, g4, g5, g6, g7, g8⟩ := hF.1.2.2.2.2.2.2.2.2.2.2.2.2
  have hts := hF.1.2.2.2.2.2.2.1
  obtain ⟨m1, m2, m3, m4, m5, m6⟩ := hm
  refine W.gets hF.1.1 hF.1.2.1 hF.1.2.2.2.2.2.1 (hts _ hl1) g1 g2 g3 g4 (by rw [hV.2.2.1.2.2.2.1 a (Nat.lt_of_not_le g8)]; exact g5) (fun e => by rw [e] at g6; cases g6) g7 rfl hd1 ?_
  have hcat : v.category = 1 := by rcases hv with rfl | ⟨q, rfl⟩ <;> rfl
  have hlen : (lg_sl [Value.int i, .int n, v]).length ≤ M'.2.2.1 := by
    have : (lg_sl [Value.int i, .int n, v]).length = 3 := by rcases hv with rfl | ⟨q, rfl⟩ <;> rfl
    omega
  refine pm_cont (a1 := 0) (a2 := al) (Q1 := fun r τ => r = some (.int i) ∧ τ = σ) (a := #[Value.int i, .int n, v]) (st := st) (va_runS (As := [Value.int i, .int n, v]) (Ts := pm_T) (own := M.1.cls) (n := 3) ⟨hF.1.1, hF.1.2.1, hF.1.2.2.2.2.1, hF.1.2.2.2.2.2.1, hts⟩ (pm_met2 [Value.int i, .int n, v] m1 hlen h1 l g hF.2.1 ?_) ⟨callB_of 3 hts (pm_good m2) rfl rfl rfl (hts _ m3) (hts _ hl) ⟨m4.1, m4.2, m5⟩ (pm_hR hdd hF.2.2.1 hF.2.2.2.1 m6), hts _ hs⟩ ⟨pm_blind2 g _ σ, fun U hU hW => ⟨rfl, hF.1.2.2.2.2.2.2.2.2.warm hW, by rw [hU]; exact hV.2.2.1⟩⟩ rfl rfl (by rw [hV.2.2.2.2.1]) rfl (pm_roomw g hr) hd2 (pm_ft (a2 := al) hV.1 hV.2.1 hF.2.2.2.2.1 hF.2.2.2.2.2.1 (by omega))) hF hV (by omega) ?_
  · intro q hq
    have e1 : pm_prs g 0 [Value.int i, .int n, .retAddr 0] = [(0, .int i), (1, .int n)] := rfl
    rw [e1] at hq
    have e2 : lv_args 0 [Value.int i, .int n, v] = (0, .int i) :: (1, .int n) :: lv_args 2 [v] := rfl
    rw [e2]
    rcases List.mem_cons.mp hq with h | h
    · rw [h]; exact List.mem_cons_self
    · rcases List.mem_cons.mp h with h | h
      · rw [h]; exact List.mem_cons_of_mem _ List.mem_cons_self
      · cases h
  · rintro r τ ⟨rfl, rfl⟩
    exact kk
end PMJ
