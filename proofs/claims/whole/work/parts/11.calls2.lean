/-! ===== calls ===== -/
/-- what is known of a method that is called: n parameters -/
def pm_mt (M : pm_M) (n : Nat) : Prop := plainName M.1.cls = true ∧ Cond.code M.1 M.2.1 M.2.2.1 M.2.2.2 ∈ pm_T ∧ Cond.initialized M.1.cls ∈ pm_T ∧ (M.1.cls ≠ "java/lang/invoke/MethodHandle" ∧ M.1.cls ≠ "java/lang/invoke/VarHandle") ∧ (parseMethodDescriptor M.1.desc).map (fun d => d.parameters.length) = some n ∧ M.2.2.1 ≤ 80
/-- of one that is called on an object -/
def pm_iv (M : pm_M) : Prop := Cond.instanceMethod M.1 ∈ pm_T ∧ Cond.selects M.1.cls M.1 M.1 ∈ pm_T
theorem pm_good {M : pm_M} (h : Cond.code M.1 M.2.1 M.2.2.1 M.2.2.2 ∈ pm_T) : GoodIn pm_T (pm_ws M) := fun w hw => by
  have hm : w ∈ pm_T := by
    rcases List.mem_cons.mp hw with rfl | hw
    · exact h
    · exact hw
  exact ⟨hm, good_of_word (pm_T_good w hm)⟩
theorem pm_tr_list (g : pm_G) (r : Option Value) (st : List Value) : (r.toList ++ st).map (pm_tr g) = (r.map (pm_tr g)).toList ++ st.map (pm_tr g) := by
  cases r <;> rfl
theorem pm_blind (g : pm_G) (av : List Value) (σ : pm_S) : FrameBlind (pm_Pc g av σ) := fun a U fr mk h => ⟨h.1, pm_K.same (u := U) (U := U.calling fr mk a) rfl h.2.1, h.2.2⟩
theorem pm_roomw (g : pm_G) {m : MethodId} {pc : Nat} {lr : Array Slot} {stk st : List Value} (h : (st.map fun v => v.category).sum ≤ 8) : 2 * (F0 m pc lr stk).monitorRoom + ((st.map (pm_tr g)).map fun v => v.category).sum ≤ 8 := by
  refine lv_room ?_
  rw [List.map_map]
  have e : ((fun v : Value => v.category) ∘ pm_tr g) = fun v => v.category := funext fun v => pm_tr_cat g v
  rw [e]
  exact h
section PMC
variable {d al : Nat} {M : pm_M} {pc : Nat} {ls st : List Value} {σ : pm_S} {Q : Option Value → pm_S → Prop}
variable {d1 a1 a2 : Nat} {M' : pm_M} {Q1 : Option Value → pm_S → Prop} {idx : Nat}
theorem pm_cont {p : Program} {l : Launch} {e : Env} {R : Room} {s : State} {m : MethodId} {args : Array Value} {below : List Frame} {meth : Method} {c : Code} {g : pm_G} {Z : State → Prop} {mc ms : Nat} {H : Heap} {locs : List Loc} {cells slots : Nat} {lr : Array Slot} {stk : List Value} {a : Array Value}
    (hr : va_Run p l e R s m args below meth c H locs cells slots a1 (700 * a1) (F0 m pc lr stk) (st.map (pm_tr g)) (pm_Qc g Q1 a) (fun q => g.2.2.2.2.1 ≤ q)) (hF : pm_Fx d M Q p l e R s m args below meth c g Z mc ms) (hV : pm_Vr al M σ ls g mc ms H locs cells slots lr) (hal : a1 + a2 ≤ al)
    (k : ∀ r τ, Q1 r τ → PW d a2 M (pc + 3) ls (r.toList ++ st) τ Q) : W p l e R s m args below meth c H locs cells slots Z (F0 m pc lr stk) := by
  intro T hT X
  obtain ⟨v, st₀, t, T', L, h0, X', hL, e1, e2, ⟨r, τ, hq, hv, hRl⟩, stp⟩ := hr T hT X
  have hv' : v = r.map (pm_tr g) := by injection hv
  subst hv'
  have hk := k r τ hq p l e R s m args below meth c g Z mc ms T'.heap (locs ++ L) (cells + a1) (slots + 700 * a1) lr hF ⟨by have := hV.1; omega, by have := hV.2.1; rw [Nat.add_assoc, ← Nat.mul_add]; exact Nat.le_trans (Nat.add_le_add_left (Nat.mul_le_mul_left 700 hal) _) this, by rw [e1]; exact hRl, fun q hq => by
    rcases List.mem_append.mp hq with h | h
    · exact hV.2.2.2.1 q h
    · exact hL q h, hV.2.2.2.2⟩
  rw [pm_tr_list] at hk
  obtain ⟨t2, b1, b2⟩ := hk T' rfl X'
  exact ⟨t2, stp t2 b1, b2⟩
theorem pm_hR {R : Room} (hd : d1 + 1 ≤ d) (hr1 : d ≤ R.frames) (hr2 : 100 * d ≤ R.locals) {n : Nat} (hn : n ≤ 80) : (pm_rm d1 a1).frames + 1 ≤ R.frames ∧ 8 + (n + 11) + (pm_rm d1 a1).locals ≤ R.locals := by
  refine ⟨Nat.le_trans hd hr1, Nat.le_trans ?_ hr2⟩
  show 8 + (n + 11) + 100 * d1 ≤ 100 * d
  omega
theorem pm_ft {ms mc R1 R2 x y : Nat} (h1 : x + al ≤ mc) (h2 : y + 700 * al ≤ ms) (h3 : mc ≤ R1) (h4 : ms ≤ R2) (hal : a1 + a2 ≤ al) : x + a1 ≤ R1 ∧ y + 700 * a1 ≤ R2 := by
  refine ⟨by omega, Nat.le_trans (Nat.le_trans (Nat.add_le_add_left (Nat.mul_le_mul_left 700 (Nat.le_trans (Nat.le_add_right a1 a2) hal)) _) h2) h4⟩
/-- invokestatic -/
theorem pw_callS {n : Nat} (av : List Value) (hd : decode M.2.1 pc = .ok (.invokestatic idx, 3)) (hm : pm_mt M' n) (hs : Cond.static M'.1 ∈ pm_T) (hl : Cond.methodLink M.1.cls idx M'.1 ∈ pm_T) (hn : av.length = n) (hlen : (pm_fl_ av).length ≤ M'.2.2.1) (hr : (st.map fun v => v.category).sum ≤ 8) (hdd : d1 + 1 ≤ d) (hal : a1 + a2 ≤ al)
    (h1 : PM d1 a1 M' av σ Q1) (k : ∀ r τ, Q1 r τ → PW d a2 M (pc + 3) ls (r.toList ++ st) τ Q) : PW d al M pc ls (av.reverse ++ st) σ Q := by
  intro p l e R s m args below meth c g Z mc ms H locs cells slots lr hF hV
  obtain ⟨m1, m2, m3, m4, m5, m6⟩ := hm
  have hts := hF.1.2.2.2.2.2.2.1
  rw [List.map_append, List.map_reverse]
  refine pm_cont (va_runS (As := av.map (pm_tr g)) (Ts := pm_T) (own := M.1.cls) (n := n) ⟨hF.1.1, hF.1.2.1, hF.1.2.2.2.2.1, hF.1.2.2.2.2.2.1, hts⟩ (pm_met m1 hlen h1 l g hF.2.1) ⟨callB_of n hts (pm_good m2) rfl rfl rfl (hts _ m3) (hts _ hl) ⟨m4.1, m4.2, m5⟩ (pm_hR hdd hF.2.2.1 hF.2.2.2.1 m6), hts _ hs⟩ ⟨pm_blind g av σ, fun U hU hW => ⟨rfl, hF.1.2.2.2.2.2.2.2.2.warm hW, by rw [hU]; exact hV.2.2.1⟩⟩ rfl (by rw [List.length_map]; exact hn) (by rw [hV.2.2.2.2.1]) rfl (pm_roomw g hr) hd (pm_ft hV.1 hV.2.1 hF.2.2.2.2.1 hF.2.2.2.2.2.1 hal)) hF hV hal k
/-- invokevirtual -/
theorem pw_callV {n a : Nat} (av : List Value) (hd : decode M.2.1 pc = .ok (.invokevirtual idx, 3)) (hm : pm_mt M' n) (hi : pm_iv M') (hl : Cond.methodLink M.1.cls idx M'.1 ∈ pm_T) (hn : av.length = n) (hlen : (pm_fl_ (.ref a :: av)).length ≤ M'.2.2.1) (hr : (st.map fun v => v.category).sum ≤ 8) (hdd : d1 + 1 ≤ d) (hal : a1 + a2 ≤ al) (ha : 0 < a)
    (hrecv : ∀ (g : pm_G) (s : State) (H : Heap), pm_K g s → pm_Rl g σ H → ∃ cellB : Cell, H[g.1 a]? = some cellB ∧ cellB.vm.isStatics = false ∧ s.vm.findClass M'.1.cls = some cellB.cls)
    (h1 : PM d1 a1 M' (.ref a :: av) σ Q1) (k : ∀ r τ, Q1 r τ → PW d a2 M (pc + 3) ls (r.toList ++ st) τ Q) : PW d al M pc ls (av.reverse ++ .ref a :: st) σ Q := by
  intro p l e R s m args below meth c g Z mc ms H locs cells slots lr hF hV
  obtain ⟨m1, m2, m3, m4, m5, m6⟩ := hm
  have hts := hF.1.2.2.2.2.2.2.1
  rw [List.map_append, List.map_reverse, List.map_cons, pm_tr_ref ha]
  have e1 : ((Value.ref a :: av).map (pm_tr g)) = Value.ref (g.1 a) :: av.map (pm_tr g) := by rw [List.map_cons, pm_tr_ref ha]
  refine pm_cont (va_runV (As := av.map (pm_tr g)) (Ts := pm_T) (own := M.1.cls) (C := M'.1.cls) (n := n) (b := g.1 a) ⟨hF.1.1, hF.1.2.1, hF.1.2.2.2.2.1, hF.1.2.2.2.2.2.1, hts⟩ (pm_met m1 hlen h1 l g hF.2.1) ⟨callB_of n hts (pm_good m2) rfl rfl rfl (hts _ m3) (hts _ hl) ⟨m4.1, m4.2, m5⟩ (pm_hR hdd hF.2.2.1 hF.2.2.2.1 m6), hts _ hi.1, hts _ hi.2⟩ ⟨pm_blind g _ σ, hrecv g s H hF.1.2.2.2.2.2.2.2.2 hV.2.2.1, fun U hU hW => ⟨by rw [e1], hF.1.2.2.2.2.2.2.2.2.warm hW, by rw [hU]; exact hV.2.2.1⟩⟩ rfl (by rw [List.length_map]; exact hn) (by rw [hV.2.2.2.2.1]) rfl (pm_roomw g hr) hd (pm_ft hV.1 hV.2.1 hF.2.2.2.2.1 hF.2.2.2.2.2.1 hal)) hF hV hal k
theorem pm_rcv {a t : Nat} {q : vw_C} (ha : pm_is σ a t) (hq : pm_cl[t]? = some q) : ∀ (g : pm_G) (s : State) (H : Heap), pm_K g s → pm_Rl g σ H → ∃ cellB : Cell, H[g.1 a]? = some cellB ∧ cellB.vm.isStatics = false ∧ s.vm.findClass q.1 = some cellB.cls := by
  intro g s H hK hR
  obtain ⟨cell, c1, c2, c3, c4, c5, c6, c7⟩ := hR.2.2.1 a ha.1 ha.2.1
  have h6 := pm_old hR ha (Or.inl (pm_cls hq).1)
  refine ⟨cell, c1, c3, ?_⟩
  rw [c2, ha.2.2]
  unfold pm_gc
  rw [if_neg (by omega)]
  exact (hK.1.1.1 t q hq).2.1
/-- invokespecial of a constructor -/
theorem pw_callI {n a : Nat} (av : List Value) (hd : decode M.2.1 pc = .ok (.invokespecial idx, 3)) (hm : pm_mt M' n) (hv : M'.2.2.2 = none) (hi : Cond.instanceMethod M'.1 ∈ pm_T) (hin : M'.1.name = "<init>") (hl : Cond.methodLink M.1.cls idx M'.1 ∈ pm_T) (hn : av.length = n) (hlen : (pm_fl_ (.ref a :: av)).length ≤ M'.2.2.1) (hr : (st.map fun v => v.category).sum ≤ 8) (hdd : d1 + 1 ≤ d) (hal : a1 + a2 ≤ al) (ha : 0 < a)
    (h1 : PM d1 a1 M' (.ref a :: av) σ Q1) (k : ∀ r τ, Q1 r τ → PW d a2 M (pc + 3) ls (r.toList ++ st) τ Q) : PW d al M pc ls (av.reverse ++ .ref a :: st) σ Q := by
  intro p l e R s m args below meth c g Z mc ms H locs cells slots lr hF hV
  obtain ⟨m1, m2, m3, m4, m5, m6⟩ := hm
  have hts := hF.1.2.2.2.2.2.2.1
  rw [List.map_append, List.map_reverse, List.map_cons, pm_tr_ref ha]
  have e1 : ((Value.ref a :: av).map (pm_tr g)) = Value.ref (g.1 a) :: av.map (pm_tr g) := by rw [List.map_cons, pm_tr_ref ha]
  refine pm_cont (va_runI (As := av.map (pm_tr g)) (Ts := pm_T) (own := M.1.cls) (n := n) (b := g.1 a) ⟨hF.1.1, hF.1.2.1, hF.1.2.2.2.2.1, hF.1.2.2.2.2.2.1, hts⟩ (pm_met m1 hlen h1 l g hF.2.1) ⟨hv ▸ callB_of (ret := M'.2.2.2) n hts (pm_good m2) rfl rfl rfl (hts _ m3) (hts _ hl) ⟨m4.1, m4.2, m5⟩ (pm_hR hdd hF.2.2.1 hF.2.2.2.1 m6), hin, hts _ hi⟩ ⟨pm_blind g _ σ, fun U hU hW => ⟨by rw [e1], hF.1.2.2.2.2.2.2.2.2.warm hW, by rw [hU]; exact hV.2.2.1⟩⟩ rfl (by rw [List.length_map]; exact hn) (by rw [hV.2.2.2.2.1]) rfl (pm_roomw g hr) hd (pm_ft hV.1 hV.2.1 hF.2.2.2.2.1 hF.2.2.2.2.2.1 hal)) hF hV hal k
/-- invokespecial of a nest mate's private constructor -/
theorem pw_callIN {n a : Nat} (av : List Value) {host : String} (hd : decode M.2.1 pc = .ok (.invokespecial idx, 3)) (hm : pm_mt M' n) (hv : M'.2.2.2 = none) (hi : Cond.instanceMethod M'.1 ∈ pm_T) (hin : M'.1.name = "<init>") (hl : (M.1.cls, idx, M'.1, host) ∈ pm_ne) (hn : av.length = n) (hlen : (pm_fl_ (.ref a :: av)).length ≤ M'.2.2.1) (hr : (st.map fun v => v.category).sum ≤ 8) (hdd : d1 + 1 ≤ d) (hal : a1 + a2 ≤ al) (ha : 0 < a)
    (h1 : PM d1 a1 M' (.ref a :: av) σ Q1) (k : ∀ r τ, Q1 r τ → PW d a2 M (pc + 3) ls (r.toList ++ st) τ Q) : PW d al M pc ls (av.reverse ++ .ref a :: st) σ Q := by
  intro p l e R s m args below meth c g Z mc ms H locs cells slots lr hF hV
  obtain ⟨m1, m2, m3, m4, m5, m6⟩ := hm
  have hts := hF.1.2.2.2.2.2.2.1
  have hnest := hF.1.2.2.2.2.2.2.2.2.2.2.1.1 _ hl
  rw [List.map_append, List.map_reverse, List.map_cons, pm_tr_ref ha]
  have e1 : ((Value.ref a :: av).map (pm_tr g)) = Value.ref (g.1 a) :: av.map (pm_tr g) := by rw [List.map_cons, pm_tr_ref ha]
  refine pm_cont (va_runIN (As := av.map (pm_tr g)) (Ts := pm_T) (own := M.1.cls) (host := host) (n := n) (b := g.1 a) ⟨hF.1.1, hF.1.2.1, hF.1.2.2.2.2.1, hF.1.2.2.2.2.2.1, hts⟩ (pm_met m1 hlen h1 l g hF.2.1) ⟨hv ▸ va_cnB (ret := M'.2.2.2) n hts (pm_good m2) rfl rfl rfl hnest (hts _ m3) ⟨m4.1, m4.2, m5⟩ (pm_hR hdd hF.2.2.1 hF.2.2.2.1 m6), hin, hts _ hi⟩ ⟨pm_blind g _ σ, fun U hU hW => ⟨by rw [e1], hF.1.2.2.2.2.2.2.2.2.warm hW, by rw [hU]; exact hV.2.2.1⟩⟩ rfl (by rw [List.length_map]; exact hn) (by rw [hV.2.2.2.2.1]) rfl (pm_roomw g hr) hd (pm_ft hV.1 hV.2.1 hF.2.2.2.2.1 hF.2.2.2.2.2.1 hal)) hF hV hal k
/-- Object's constructor -/
theorem pw_obj {a : Nat} (hd : decode M.2.1 pc = .ok (.invokespecial idx, 3)) (hl : Cond.methodLink M.1.cls idx Lib.objectInit ∈ pm_T) (hi : Cond.instanceMethod Lib.objectInit ∈ pm_T) (hc : Cond.code Lib.objectInit ⟨#[0xb1]⟩ 1 none ∈ pm_T) (ha : 0 < a) (hdd : 1 ≤ d) (hr : (st.map fun v => v.category).sum ≤ 8) (k : PW d al M (pc + 3) ls st σ Q) : PW d al M pc ls (.ref a :: st) σ Q := by
  intro p l e R s m args below meth c g Z mc ms H locs cells slots lr hF hV
  have hts := hF.1.2.2.2.2.2.2.1
  rw [List.map_cons, pm_tr_ref ha]
  exact W.objInit hF.1.1 hF.1.2.1 hF.1.2.2.2.2.2.1 (hts _ hl) (hts _ hi) (hts _ hc) rfl (by rw [hV.2.2.2.2.1, hF.1.2.2.2.2.1]) rfl hd (Nat.le_trans hdd hF.2.2.1) (by
    have h1 := pm_roomw g (m := m) (pc := pc) (lr := lr) (stk := Value.ref (g.1 a) :: st.map (pm_tr g)) hr
    have h2 := hF.2.2.2.1
    omega) (k p l e R s m args below meth c g Z mc ms H locs cells slots lr hF hV)
end PMC
/-! rows by the number of arguments -/
section PMC2
variable {d al : Nat} {M : pm_M} {pc : Nat} {ls st : List Value} {σ : pm_S} {Q : Option Value → pm_S → Prop}
variable {d1 a1 a2 : Nat} {M' : pm_M} {Q1 : Option Value → pm_S → Prop} {idx : Nat}
theorem pw_cV0 {a t : Nat} {q : vw_C}  (hd : decode M.2.1 pc = .ok (.invokevirtual idx, 3)) (hm : pm_mt M' 0) (hi : pm_iv M') (hl : Cond.methodLink M.1.cls idx M'.1 ∈ pm_T) (hlen : (pm_fl_ [.ref a]).length ≤ M'.2.2.1) (hr : (st.map fun v => v.category).sum ≤ 8) (hdd : d1 + 1 ≤ d) (hal : a1 + a2 ≤ al) (ha : pm_is σ a t) (hq : pm_cl[t]? = some q) (hc : q.1 = M'.1.cls) (h1 : PM d1 a1 M' [.ref a] σ Q1) (k : ∀ r τ, Q1 r τ → PW d a2 M (pc + 3) ls (r.toList ++ st) τ Q) : PW d al M pc ls (.ref a :: st) σ Q :=
  pw_callV [] hd hm hi hl rfl hlen hr hdd hal ha.1 (hc ▸ pm_rcv ha hq) h1 k
theorem pw_cI0 {a : Nat}  (hd : decode M.2.1 pc = .ok (.invokespecial idx, 3)) (hm : pm_mt M' 0) (hv : M'.2.2.2 = none) (hi : Cond.instanceMethod M'.1 ∈ pm_T) (hin : M'.1.name = "<init>") (hl : Cond.methodLink M.1.cls idx M'.1 ∈ pm_T) (hlen : (pm_fl_ [.ref a]).length ≤ M'.2.2.1) (hr : (st.map fun v => v.category).sum ≤ 8) (hdd : d1 + 1 ≤ d) (hal : a1 + a2 ≤ al) (ha : 0 < a) (h1 : PM d1 a1 M' [.ref a] σ Q1) (k : ∀ r τ, Q1 r τ → PW d a2 M (pc + 3) ls (r.toList ++ st) τ Q) : PW d al M pc ls (.ref a :: st) σ Q :=
  pw_callI [] hd hm hv hi hin hl rfl hlen hr hdd hal ha h1 k
theorem pw_cS1 {x1 : Value} (hd : decode M.2.1 pc = .ok (.invokestatic idx, 3)) (hm : pm_mt M' 1) (hs : Cond.static M'.1 ∈ pm_T) (hl : Cond.methodLink M.1.cls idx M'.1 ∈ pm_T) (hlen : (pm_fl_ [x1]).length ≤ M'.2.2.1) (hr : (st.map fun v => v.category).sum ≤ 8) (hdd : d1 + 1 ≤ d) (hal : a1 + a2 ≤ al) (h1 : PM d1 a1 M' [x1] σ Q1) (k : ∀ r τ, Q1 r τ → PW d a2 M (pc + 3) ls (r.toList ++ st) τ Q) : PW d al M pc ls (x1 :: st) σ Q :=
  pw_callS [x1] hd hm hs hl rfl hlen hr hdd hal h1 k
theorem pw_cV1 {a t : Nat} {q : vw_C} {x1 : Value} (hd : decode M.2.1 pc = .ok (.invokevirtual idx, 3)) (hm : pm_mt M' 1) (hi : pm_iv M') (hl : Cond.methodLink M.1.cls idx M'.1 ∈ pm_T) (hlen : (pm_fl_ [.ref a, x1]).length ≤ M'.2.2.1) (hr : (st.map fun v => v.category).sum ≤ 8) (hdd : d1 + 1 ≤ d) (hal : a1 + a2 ≤ al) (ha : pm_is σ a t) (hq : pm_cl[t]? = some q) (hc : q.1 = M'.1.cls) (h1 : PM d1 a1 M' [.ref a, x1] σ Q1) (k : ∀ r τ, Q1 r τ → PW d a2 M (pc + 3) ls (r.toList ++ st) τ Q) : PW d al M pc ls (x1 :: .ref a :: st) σ Q :=
  pw_callV [x1] hd hm hi hl rfl hlen hr hdd hal ha.1 (hc ▸ pm_rcv ha hq) h1 k
theorem pw_cI1 {a : Nat} {x1 : Value} (hd : decode M.2.1 pc = .ok (.invokespecial idx, 3)) (hm : pm_mt M' 1) (hv : M'.2.2.2 = none) (hi : Cond.instanceMethod M'.1 ∈ pm_T) (hin : M'.1.name = "<init>") (hl : Cond.methodLink M.1.cls idx M'.1 ∈ pm_T) (hlen : (pm_fl_ [.ref a, x1]).length ≤ M'.2.2.1) (hr : (st.map fun v => v.category).sum ≤ 8) (hdd : d1 + 1 ≤ d) (hal : a1 + a2 ≤ al) (ha : 0 < a) (h1 : PM d1 a1 M' [.ref a, x1] σ Q1) (k : ∀ r τ, Q1 r τ → PW d a2 M (pc + 3) ls (r.toList ++ st) τ Q) : PW d al M pc ls (x1 :: .ref a :: st) σ Q :=
  pw_callI [x1] hd hm hv hi hin hl rfl hlen hr hdd hal ha h1 k
theorem pw_cS2 {x1 x2 : Value} (hd : decode M.2.1 pc = .ok (.invokestatic idx, 3)) (hm : pm_mt M' 2) (hs : Cond.static M'.1 ∈ pm_T) (hl : Cond.methodLink M.1.cls idx M'.1 ∈ pm_T) (hlen : (pm_fl_ [x1, x2]).length ≤ M'.2.2.1) (hr : (st.map fun v => v.category).sum ≤ 8) (hdd : d1 + 1 ≤ d) (hal : a1 + a2 ≤ al) (h1 : PM d1 a1 M' [x1, x2] σ Q1) (k : ∀ r τ, Q1 r τ → PW d a2 M (pc + 3) ls (r.toList ++ st) τ Q) : PW d al M pc ls (x2 :: x1 :: st) σ Q :=
  pw_callS [x1, x2] hd hm hs hl rfl hlen hr hdd hal h1 k
theorem pw_cV2 {a t : Nat} {q : vw_C} {x1 x2 : Value} (hd : decode M.2.1 pc = .ok (.invokevirtual idx, 3)) (hm : pm_mt M' 2) (hi : pm_iv M') (hl : Cond.methodLink M.1.cls idx M'.1 ∈ pm_T) (hlen : (pm_fl_ [.ref a, x1, x2]).length ≤ M'.2.2.1) (hr : (st.map fun v => v.category).sum ≤ 8) (hdd : d1 + 1 ≤ d) (hal : a1 + a2 ≤ al) (ha : pm_is σ a t) (hq : pm_cl[t]? = some q) (hc : q.1 = M'.1.cls) (h1 : PM d1 a1 M' [.ref a, x1, x2] σ Q1) (k : ∀ r τ, Q1 r τ → PW d a2 M (pc + 3) ls (r.toList ++ st) τ Q) : PW d al M pc ls (x2 :: x1 :: .ref a :: st) σ Q :=
  pw_callV [x1, x2] hd hm hi hl rfl hlen hr hdd hal ha.1 (hc ▸ pm_rcv ha hq) h1 k
theorem pw_cI2 {a : Nat} {x1 x2 : Value} (hd : decode M.2.1 pc = .ok (.invokespecial idx, 3)) (hm : pm_mt M' 2) (hv : M'.2.2.2 = none) (hi : Cond.instanceMethod M'.1 ∈ pm_T) (hin : M'.1.name = "<init>") (hl : Cond.methodLink M.1.cls idx M'.1 ∈ pm_T) (hlen : (pm_fl_ [.ref a, x1, x2]).length ≤ M'.2.2.1) (hr : (st.map fun v => v.category).sum ≤ 8) (hdd : d1 + 1 ≤ d) (hal : a1 + a2 ≤ al) (ha : 0 < a) (h1 : PM d1 a1 M' [.ref a, x1, x2] σ Q1) (k : ∀ r τ, Q1 r τ → PW d a2 M (pc + 3) ls (r.toList ++ st) τ Q) : PW d al M pc ls (x2 :: x1 :: .ref a :: st) σ Q :=
  pw_callI [x1, x2] hd hm hv hi hin hl rfl hlen hr hdd hal ha h1 k
theorem pw_cS3 {x1 x2 x3 : Value} (hd : decode M.2.1 pc = .ok (.invokestatic idx, 3)) (hm : pm_mt M' 3) (hs : Cond.static M'.1 ∈ pm_T) (hl : Cond.methodLink M.1.cls idx M'.1 ∈ pm_T) (hlen : (pm_fl_ [x1, x2, x3]).length ≤ M'.2.2.1) (hr : (st.map fun v => v.category).sum ≤ 8) (hdd : d1 + 1 ≤ d) (hal : a1 + a2 ≤ al) (h1 : PM d1 a1 M' [x1, x2, x3] σ Q1) (k : ∀ r τ, Q1 r τ → PW d a2 M (pc + 3) ls (r.toList ++ st) τ Q) : PW d al M pc ls (x3 :: x2 :: x1 :: st) σ Q :=
  pw_callS [x1, x2, x3] hd hm hs hl rfl hlen hr hdd hal h1 k
theorem pw_cV3 {a t : Nat} {q : vw_C} {x1 x2 x3 : Value} (hd : decode M.2.1 pc = .ok (.invokevirtual idx, 3)) (hm : pm_mt M' 3) (hi : pm_iv M') (hl : Cond.methodLink M.1.cls idx M'.1 ∈ pm_T) (hlen : (pm_fl_ [.ref a, x1, x2, x3]).length ≤ M'.2.2.1) (hr : (st.map fun v => v.category).sum ≤ 8) (hdd : d1 + 1 ≤ d) (hal : a1 + a2 ≤ al) (ha : pm_is σ a t) (hq : pm_cl[t]? = some q) (hc : q.1 = M'.1.cls) (h1 : PM d1 a1 M' [.ref a, x1, x2, x3] σ Q1) (k : ∀ r τ, Q1 r τ → PW d a2 M (pc + 3) ls (r.toList ++ st) τ Q) : PW d al M pc ls (x3 :: x2 :: x1 :: .ref a :: st) σ Q :=
  pw_callV [x1, x2, x3] hd hm hi hl rfl hlen hr hdd hal ha.1 (hc ▸ pm_rcv ha hq) h1 k
theorem pw_cI3 {a : Nat} {x1 x2 x3 : Value} (hd : decode M.2.1 pc = .ok (.invokespecial idx, 3)) (hm : pm_mt M' 3) (hv : M'.2.2.2 = none) (hi : Cond.instanceMethod M'.1 ∈ pm_T) (hin : M'.1.name = "<init>") (hl : Cond.methodLink M.1.cls idx M'.1 ∈ pm_T) (hlen : (pm_fl_ [.ref a, x1, x2, x3]).length ≤ M'.2.2.1) (hr : (st.map fun v => v.category).sum ≤ 8) (hdd : d1 + 1 ≤ d) (hal : a1 + a2 ≤ al) (ha : 0 < a) (h1 : PM d1 a1 M' [.ref a, x1, x2, x3] σ Q1) (k : ∀ r τ, Q1 r τ → PW d a2 M (pc + 3) ls (r.toList ++ st) τ Q) : PW d al M pc ls (x3 :: x2 :: x1 :: .ref a :: st) σ Q :=
  pw_callI [x1, x2, x3] hd hm hv hi hin hl rfl hlen hr hdd hal ha h1 k
theorem pw_cS4 {x1 x2 x3 x4 : Value} (hd : decode M.2.1 pc = .ok (.invokestatic idx, 3)) (hm : pm_mt M' 4) (hs : Cond.static M'.1 ∈ pm_T) (hl : Cond.methodLink M.1.cls idx M'.1 ∈ pm_T) (hlen : (pm_fl_ [x1, x2, x3, x4]).length ≤ M'.2.2.1) (hr : (st.map fun v => v.category).sum ≤ 8) (hdd : d1 + 1 ≤ d) (hal : a1 + a2 ≤ al) (h1 : PM d1 a1 M' [x1, x2, x3, x4] σ Q1) (k : ∀ r τ, Q1 r τ → PW d a2 M (pc + 3) ls (r.toList ++ st) τ Q) : PW d al M pc ls (x4 :: x3 :: x2 :: x1 :: st) σ Q :=
  pw_callS [x1, x2, x3, x4] hd hm hs hl rfl hlen hr hdd hal h1 k
theorem pw_cV4 {a t : Nat} {q : vw_C} {x1 x2 x3 x4 : Value} (hd : decode M.2.1 pc = .ok (.invokevirtual idx, 3)) (hm : pm_mt M' 4) (hi : pm_iv M') (hl : Cond.methodLink M.1.cls idx M'.1 ∈ pm_T) (hlen : (pm_fl_ [.ref a, x1, x2, x3, x4]).length ≤ M'.2.2.1) (hr : (st.map fun v => v.category).sum ≤ 8) (hdd : d1 + 1 ≤ d) (hal : a1 + a2 ≤ al) (ha : pm_is σ a t) (hq : pm_cl[t]? = some q) (hc : q.1 = M'.1.cls) (h1 : PM d1 a1 M' [.ref a, x1, x2, x3, x4] σ Q1) (k : ∀ r τ, Q1 r τ → PW d a2 M (pc + 3) ls (r.toList ++ st) τ Q) : PW d al M pc ls (x4 :: x3 :: x2 :: x1 :: .ref a :: st) σ Q :=
  pw_callV [x1, x2, x3, x4] hd hm hi hl rfl hlen hr hdd hal ha.1 (hc ▸ pm_rcv ha hq) h1 k
theorem pw_cI4 {a : Nat} {x1 x2 x3 x4 : Value} (hd : decode M.2.1 pc = .ok (.invokespecial idx, 3)) (hm : pm_mt M' 4) (hv : M'.2.2.2 = none) (hi : Cond.instanceMethod M'.1 ∈ pm_T) (hin : M'.1.name = "<init>") (hl : Cond.methodLink M.1.cls idx M'.1 ∈ pm_T) (hlen : (pm_fl_ [.ref a, x1, x2, x3, x4]).length ≤ M'.2.2.1) (hr : (st.map fun v => v.category).sum ≤ 8) (hdd : d1 + 1 ≤ d) (hal : a1 + a2 ≤ al) (ha : 0 < a) (h1 : PM d1 a1 M' [.ref a, x1, x2, x3, x4] σ Q1) (k : ∀ r τ, Q1 r τ → PW d a2 M (pc + 3) ls (r.toList ++ st) τ Q) : PW d al M pc ls (x4 :: x3 :: x2 :: x1 :: .ref a :: st) σ Q :=
  pw_callI [x1, x2, x3, x4] hd hm hv hi hin hl rfl hlen hr hdd hal ha h1 k
theorem pw_cS5 {x1 x2 x3 x4 x5 : Value} (hd : decode M.2.1 pc = .ok (.invokestatic idx, 3)) (hm : pm_mt M' 5) (hs : Cond.static M'.1 ∈ pm_T) (hl : Cond.methodLink M.1.cls idx M'.1 ∈ pm_T) (hlen : (pm_fl_ [x1, x2, x3, x4, x5]).length ≤ M'.2.2.1) (hr : (st.map fun v => v.category).sum ≤ 8) (hdd : d1 + 1 ≤ d) (hal : a1 + a2 ≤ al) (h1 : PM d1 a1 M' [x1, x2, x3, x4, x5] σ Q1) (k : ∀ r τ, Q1 r τ → PW d a2 M (pc + 3) ls (r.toList ++ st) τ Q) : PW d al M pc ls (x5 :: x4 :: x3 :: x2 :: x1 :: st) σ Q :=
  pw_callS [x1, x2, x3, x4, x5] hd hm hs hl rfl hlen hr hdd hal h1 k
theorem pw_cV5 {a t : Nat} {q : vw_C} {x1 x2 x3 x4 x5 : Value} (hd : decode M.2.1 pc = .ok (.invokevirtual idx, 3)) (hm : pm_mt M' 5) (hi : pm_iv M') (hl : Cond.methodLink M.1.cls idx M'.1 ∈ pm_T) (hlen : (pm_fl_ [.ref a, x1, x2, x3, x4, x5]).length ≤ M'.2.2.1) (hr : (st.map fun v => v.category).sum ≤ 8) (hdd : d1 + 1 ≤ d) (hal : a1 + a2 ≤ al) (ha : pm_is σ a t) (hq : pm_cl[t]? = some q) (hc : q.1 = M'.1.cls) (h1 : PM d1 a1 M' [.ref a, x1, x2, x3, x4, x5] σ Q1) (k : ∀ r τ, Q1 r τ → PW d a2 M (pc + 3) ls (r.toList ++ st) τ Q) : PW d al M pc ls (x5 :: x4 :: x3 :: x2 :: x1 :: .ref a :: st) σ Q :=
  pw_callV [x1, x2, x3, x4, x5] hd hm hi hl rfl hlen hr hdd hal ha.1 (hc ▸ pm_rcv ha hq) h1 k
theorem pw_cI5 {a : Nat} {x1 x2 x3 x4 x5 : Value} (hd : decode M.2.1 pc = .ok (.invokespecial idx, 3)) (hm : pm_mt M' 5) (hv : M'.2.2.2 = none) (hi : Cond.instanceMethod M'.1 ∈ pm_T) (hin : M'.1.name = "<init>") (hl : Cond.methodLink M.1.cls idx M'.1 ∈ pm_T) (hlen : (pm_fl_ [.ref a, x1, x2, x3, x4, x5]).length ≤ M'.2.2.1) (hr : (st.map fun v => v.category).sum ≤ 8) (hdd : d1 + 1 ≤ d) (hal : a1 + a2 ≤ al) (ha : 0 < a) (h1 : PM d1 a1 M' [.ref a, x1, x2, x3, x4, x5] σ Q1) (k : ∀ r τ, Q1 r τ → PW d a2 M (pc + 3) ls (r.toList ++ st) τ Q) : PW d al M pc ls (x5 :: x4 :: x3 :: x2 :: x1 :: .ref a :: st) σ Q :=
  pw_callI [x1, x2, x3, x4, x5] hd hm hv hi hin hl rfl hlen hr hdd hal ha h1 k
theorem pw_cS6 {x1 x2 x3 x4 x5 x6 : Value} (hd : decode M.2.1 pc = .ok (.invokestatic idx, 3)) (hm : pm_mt M' 6) (hs : Cond.static M'.1 ∈ pm_T) (hl : Cond.methodLink M.1.cls idx M'.1 ∈ pm_T) (hlen : (pm_fl_ [x1, x2, x3, x4, x5, x6]).length ≤ M'.2.2.1) (hr : (st.map fun v => v.category).sum ≤ 8) (hdd : d1 + 1 ≤ d) (hal : a1 + a2 ≤ al) (h1 : PM d1 a1 M' [x1, x2, x3, x4, x5, x6] σ Q1) (k : ∀ r τ, Q1 r τ → PW d a2 M (pc + 3) ls (r.toList ++ st) τ Q) : PW d al M pc ls (x6 :: x5 :: x4 :: x3 :: x2 :: x1 :: st) σ Q :=
  pw_callS [x1, x2, x3, x4, x5, x6] hd hm hs hl rfl hlen hr hdd hal h1 k
theorem pw_cV6 {a t : Nat} {q : vw_C} {x1 x2 x3 x4 x5 x6 : Value} (hd : decode M.2.1 pc = .ok (.invokevirtual idx, 3)) (hm : pm_mt M' 6) (hi : pm_iv M') (hl : Cond.methodLink M.1.cls idx M'.1 ∈ pm_T) (hlen : (pm_fl_ [.ref a, x1, x2, x3, x4, x5, x6]).length ≤ M'.2.2.1) (hr : (st.map fun v => v.category).sum ≤ 8) (hdd : d1 + 1 ≤ d) (hal : a1 + a2 ≤ al) (ha : pm_is σ a t) (hq : pm_cl[t]? = some q) (hc : q.1 = M'.1.cls) (h1 : PM d1 a1 M' [.ref a, x1, x2, x3, x4, x5, x6] σ Q1) (k : ∀ r τ, Q1 r τ → PW d a2 M (pc + 3) ls (r.toList ++ st) τ Q) : PW d al M pc ls (x6 :: x5 :: x4 :: x3 :: x2 :: x1 :: .ref a :: st) σ Q :=
  pw_callV [x1, x2, x3, x4, x5, x6] hd hm hi hl rfl hlen hr hdd hal ha.1 (hc ▸ pm_rcv ha hq) h1 k
theorem pw_cI6 {a : Nat} {x1 x2 x3 x4 x5 x6 : Value} (hd : decode M.2.1 pc = .ok (.invokespecial idx, 3)) (hm : pm_mt M' 6) (hv : M'.2.2.2 = none) (hi : Cond.instanceMethod M'.1 ∈ pm_T) (hin : M'.1.name = "<init>") (hl : Cond.methodLink M.1.cls idx M'.1 ∈ pm_T) (hlen : (pm_fl_ [.ref a, x1, x2, x3, x4, x5, x6]).length ≤ M'.2.2.1) (hr : (st.map fun v => v.category).sum ≤ 8) (hdd : d1 + 1 ≤ d) (hal : a1 + a2 ≤ al) (ha : 0 < a) (h1 : PM d1 a1 M' [.ref a, x1, x2, x3, x4, x5, x6] σ Q1) (k : ∀ r τ, Q1 r τ → PW d a2 M (pc + 3) ls (r.toList ++ st) τ Q) : PW d al M pc ls (x6 :: x5 :: x4 :: x3 :: x2 :: x1 :: .ref a :: st) σ Q :=
  pw_callI [x1, x2, x3, x4, x5, x6] hd hm hv hi hin hl rfl hlen hr hdd hal ha h1 k
theorem pw_cIN0 {a : Nat} {host : String} (hd : decode M.2.1 pc = .ok (.invokespecial idx, 3)) (hm : pm_mt M' 0) (hv : M'.2.2.2 = none) (hi : Cond.instanceMethod M'.1 ∈ pm_T) (hin : M'.1.name = "<init>") (hl : (M.1.cls, idx, M'.1, host) ∈ pm_ne) (hlen : (pm_fl_ [.ref a]).length ≤ M'.2.2.1) (hr : (st.map fun v => v.category).sum ≤ 8) (hdd : d1 + 1 ≤ d) (hal : a1 + a2 ≤ al) (ha : 0 < a) (h1 : PM d1 a1 M' [.ref a] σ Q1) (k : ∀ r τ, Q1 r τ → PW d a2 M (pc + 3) ls (r.toList ++ st) τ Q) : PW d al M pc ls (.ref a :: st) σ Q :=
  pw_callIN [] hd hm hv hi hin hl rfl hlen hr hdd hal ha h1 k
end PMC2
