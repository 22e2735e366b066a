/-! ===== what is known of the classes goes along ===== -/
theorem pm_K1.moved {g : pm_G} {u U : State} (hvm : u.vm.Alike U.vm) (h : pm_K1 g u) : pm_K1 g U :=
  ⟨va_K.moved hvm h.1, fun t h1 h2 => ⟨arrOfT_moved hvm (h.2.1 t h1 h2).1, (h.2.1 t h1 h2).2.moved hvm⟩, arrOfT_moved hvm h.2.2.1, arrOfT_moved hvm h.2.2.2.1, arrOfT_moved hvm h.2.2.2.2⟩
theorem pm_ff {u U : State} (hvm : u.vm.Alike U.vm) {C n d : String} {z : Nat} (h : ∃ (cf : ClassId) (k : Class) (i : Nat) (f : Field), u.fieldFound? C n d = some (cf, k, i, f) ∧ f.isStatic = false ∧ f.slot = z) : ∃ (cf : ClassId) (k : Class) (i : Nat) (f : Field), U.fieldFound? C n d = some (cf, k, i, f) ∧ f.isStatic = false ∧ f.slot = z := by
  obtain ⟨cf, k, i, f, h1, h2⟩ := h
  obtain ⟨k', hi', -⟩ := State.fieldFound?_setVm hvm h1
  exact ⟨cf, k', i, f, hi', h2⟩
theorem pm_K.warm {g : pm_G} {s U : State} (hW : s.WarmedH U.vm) (h : pm_K g s) : pm_K g U := by
  obtain ⟨h1, ⟨⟨a1, a2⟩, a3, a4, a5, a6⟩, ⟨b1, b2, b3⟩, c1, v, c2, c3⟩ := h
  have hvm := hW.alike
  exact ⟨h1.moved hvm, ⟨⟨by rw [hvm.findClass]; exact a1, by rw [hvm.findClass]; exact a2⟩, pm_ff hvm a3, pm_ff hvm a4, a5.warm hW, a6.warm hW⟩, ⟨fun q hq => va_Nw.warmM hW (b1 q hq), b2.moved hvm, over_moved hvm b3⟩, c1.moved hvm, v, c2, c3.moved hvm⟩
theorem pm_K.same {g : pm_G} {u U : State} (hv : U.vm = u.vm) (h : pm_K g u) : pm_K g U := by
  obtain ⟨h1, ⟨⟨a1, a2⟩, a3, a4, a5, a6⟩, ⟨b1, b2, b3⟩, c1, v, c2, c3⟩ := h
  have hvm : u.vm.Alike U.vm := by rw [hv]; exact Vm.Alike.refl _
  exact ⟨h1.moved hvm, ⟨⟨by rw [hvm.findClass]; exact a1, by rw [hvm.findClass]; exact a2⟩, pm_ff hvm a3, pm_ff hvm a4, a5.same hv, a6.same hv⟩, ⟨fun q hq => va_Nw.same rfl hv.symm (b1 q hq), b2.moved hvm, over_moved hvm b3⟩, c1.moved hvm, v, c2, c3.moved hvm⟩
/-! ===== a method's run as the kit's contract ===== -/
def pm_ws (M : pm_M) : List Cond := Cond.code M.1 M.2.1 M.2.2.1 M.2.2.2 :: pm_T
def pm_rm (d al : Nat) : Room := { frames := d, cells := al, slots := 700 * al, locals := 100 * d }
def pm_Pc (g : pm_G) (av : List Value) (σ : pm_S) : Array Value → State → Prop := va_Pc (av.map (pm_tr g)) (fun U => pm_K g U ∧ pm_Rl g σ U.heap)
def pm_Qc (g : pm_G) (Q : Option Value → pm_S → Prop) : Array Value → State → Outcome → State → Prop := fun _ _ oc t => ∃ (r : Option Value) (σ : pm_S), Q r σ ∧ oc = .returned (r.map (pm_tr g)) ∧ pm_Rl g σ t.heap
def pm_fl_ (av : List Value) : List Value := av.flatMap fun v => if v.category = 2 then [v, .retAddr 0] else [v]
theorem pm_ent_sub {g : pm_G} {q : Nat × Value} (n : Nat) : ∀ (av : List Value) (i : Nat), q ∈ pm_prs g i (pm_fl_ av ++ List.replicate n (.retAddr 0)) → q ∈ lv_args i (av.map (pm_tr g))
  | [], i, h => by
    exfalso
    obtain ⟨k, v, h1, h2, -⟩ := pm_prs_mem.mp h
    simp [pm_fl_, List.getElem?_replicate] at h1
    obtain ⟨-, rfl⟩ := h1
    cases h2
  | v :: vs, i, h => by
    have ih := pm_ent_sub (g := g) (q := q) n vs
    show q ∈ (i, pm_tr g v) :: lv_args (if (pm_tr g v).category = 2 then i + 2 else i + 1) (vs.map (pm_tr g))
    have hf : pm_fl_ (v :: vs) = (if v.category = 2 then [v, .retAddr 0] else [v]) ++ pm_fl_ vs := by simp [pm_fl_]
    rw [hf] at h
    rw [pm_tr_cat]
    by_cases hc : v.category = 2
    · rw [if_pos hc] at h ⊢
      have h' : q ∈ pm_prs g i (v :: .retAddr 0 :: (pm_fl_ vs ++ List.replicate n (.retAddr 0))) := by simpa using h
      have hu : pm_un v = false := by cases v <;> first | rfl | (exfalso; simp [Value.category] at hc)
      have e1 : pm_prs g i (v :: .retAddr 0 :: (pm_fl_ vs ++ List.replicate n (.retAddr 0))) = (i, pm_tr g v) :: pm_prs g (i + 2) (pm_fl_ vs ++ List.replicate n (.retAddr 0)) := by
        show (if pm_un v = true then _ else _) = _
        rw [if_neg (by rw [hu]; decide)]
        rfl
      rw [e1] at h'
      rcases List.mem_cons.mp h' with h' | h'
      · exact List.mem_cons.mpr (Or.inl h')
      · exact List.mem_cons_of_mem _ (ih _ h')
    · rw [if_neg hc] at h ⊢
      have h' : q ∈ pm_prs g i (v :: (pm_fl_ vs ++ List.replicate n (.retAddr 0))) := by simpa using h
      unfold pm_prs at h'
      by_cases hu : pm_un v = true
      · rw [if_pos hu] at h'
        exact List.mem_cons_of_mem _ (ih _ h')
      · rw [if_neg hu] at h'
        rcases List.mem_cons.mp h' with h' | h'
        · exact List.mem_cons.mpr (Or.inl h')
        · exact List.mem_cons_of_mem _ (ih _ h')
theorem pm_sl_len (g : pm_G) (av : List Value) : (lg_sl (av.map (pm_tr g))).length = (pm_fl_ av).length := by
  induction av with
  | nil => rfl
  | cons v vs ih =>
    have e1 : lg_sl ((v :: vs).map (pm_tr g)) = (if (pm_tr g v).category = 2 then [.val (pm_tr g v), .second] else [.val (pm_tr g v)]) ++ lg_sl (vs.map (pm_tr g)) := by simp [lg_sl]
    have e2 : pm_fl_ (v :: vs) = (if v.category = 2 then [v, .retAddr 0] else [v]) ++ pm_fl_ vs := by simp [pm_fl_]
    rw [e1, e2, List.length_append, List.length_append, ih, pm_tr_cat]
    split <;> rfl
theorem pm_met {d al : Nat} {M : pm_M} {av : List Value} {σ : pm_S} {Q : Option Value → pm_S → Prop} (hp : plainName M.1.cls = true) (hlen : (pm_fl_ av).length ≤ M.2.2.1) (h : PM d al M av σ Q) (l : Launch) (g : pm_G) (hG : pm_Gk g) :
    Met l M.1 (pm_ws M) (pm_rm d al) (pm_Pc g av σ) (pm_Qc g Q) al (700 * al) (fun q => g.2.2.2.2.1 ≤ q) := by
  refine Met.ofW (cc := M.2.1) (maxL := M.2.2.1) (ret := M.2.2.2) hp rfl ?_
  intro p e s m args below meth c s₁ B hml hv
  obtain ⟨rfl, hK, hR⟩ := hv
  have hts0 := atoms_spec (ws := pm_ws M) B.pre
  have hts : ∀ w ∈ pm_T, w.before (av.map (pm_tr g)).toArray s = true := fun w hw => hts0 w (List.mem_cons_of_mem _ hw)
  have hlocks := B.notSynchronized
  have hCx : pm_Cx M p s m (av.map (pm_tr g)).toArray meth c g := ⟨B.exec, B.bytes, B.returns, hlocks, hml, findClass_of_methodNamed B.named, hts, (fun h => (name_of_methodNamed B.named B.method).1.trans h), hK⟩
  have hE : pm_End M Q p l e (headSpec (pm_ws M) (pm_rm d al)).room s m (av.map (pm_tr g)).toArray below meth c g (MQ below (pm_Qc g Q) (av.map (pm_tr g)).toArray s al (700 * al) (fun q => g.2.2.2.2.1 ≤ q)) al (700 * al) := by
    intro r τ H locs lr pc ins hQ hRl hlo hd hok
    rcases hok with ⟨h1, rfl, rfl⟩ | ⟨ty, x, h1, rfl, rfl, hn⟩ | ⟨ty, a, h1, rfl, rfl, ht⟩
    · exact W.vret B.exec B.bytes (B.returns.trans h1) (fun t ht hW => ⟨none, τ, hQ, rfl, by rw [ht]; exact hRl⟩) hlo hd
    · exact W.zret (ty := ty) B.exec B.bytes (B.returns.trans h1) hn (fun t ht hW => ⟨some (.int x), τ, hQ, rfl, by rw [ht]; exact hRl⟩) hlo hd
    · refine W.aret (rt := ty) (v := pm_tr g (.ref a)) B.exec B.bytes (B.returns.trans h1) ht ?_ (fun t ht hW => ⟨some (.ref a), τ, hQ, rfl, by rw [ht]; exact hRl⟩) hlo hd
      rcases Nat.eq_zero_or_pos a with h0 | h0
      · subst h0; exact Or.inl rfl
      · exact Or.inr ⟨_, pm_tr_ref h0⟩
  rw [lg_entry_eq]
  have hl := lv_entry (av.map (pm_tr g)) (n := M.2.2.1) (by rw [pm_sl_len]; exact hlen)
  generalize (lg_sl (av.map (pm_tr g)) ++ List.replicate (M.2.2.1 - (lg_sl (av.map (pm_tr g))).length) Slot.unset).toArray = lr at hl ⊢
  refine h p l e _ s m _ below meth c g _ al (700 * al) s.heap [] 0 0 lr ⟨hCx, hG, Nat.le_refl _, Nat.le_refl _, Nat.le_refl _, Nat.le_refl _, hE⟩ ⟨by omega, by omega, hR, (fun q h => by cases h), ?_⟩
  exact ⟨hl.1, hl.2.1, fun q hq => hl.2.2 q (pm_ent_sub _ av 0 hq)⟩
