/-! ===== the law's entry: the pure machine's first state ===== -/
def pm_ML : pm_M := (yL_law, cL_law, 4, some .boolean)
def pm_b1 : List Int32 := [98, 97, 114, 32, 32, 32, 111, 114, 32, 32, 32, 32, 97, 110, 100, 32, 32, 32, 110, 111, 116, 32, 32, 32, 115, 101, 97, 115, 111, 110, 103, 117, 101, 115, 116, 115, 114, 97, 110, 107, 32, 32, 116, 111, 110, 101, 32, 32, 97, 103, 101, 32, 32, 32, 104, 97, 115, 32, 32, 32, 98, 111, 119, 108, 32, 32, 115, 99, 114, 111, 108, 108, 107, 101, 116, 116, 108, 101, 118, 97, 115, 101, 32, 32, 115, 99, 111, 111, 112, 32]
def pm_b2 : List Int32 := [59, 40, 41, 60, 61, 62]
def pm_s0 (L : Nat) (xs : Nat → Int32) : pm_S := (fun a j => if a = 1 then xs j else if a = 4 then pm_b1.getD j 0 else if a = 5 then pm_b2.getD j 0 else 0, fun a k => if a = 2 ∧ k = 0 then 4 else if a = 3 ∧ k = 0 then 5 else 0, fun a => if a = 1 then 20 else if a = 2 then 13 else if a = 3 then 13 else 21, fun a => if a = 1 then L else if a = 4 then 90 else if a = 5 then 6 else 0, 6)
def pm_tm (i : Nat) : Term := Term.string RX10 (if i = 0 then 68 else 53)
def pm_nar : List Cond := flatC (Jvm.Cond.and given_1 narrow_1)
theorem pm_n1 : ∀ i, i < 2 → Cond.exactly (pm_tm i) "java/lang/String" ∈ pm_nar ∧ Cond.eq (.field (pm_tm i) "java/lang/String" "coder" "B") (.int 0) ∈ pm_nar ∧ Cond.arrayOf (.field (pm_tm i) "java/lang/String" "value" "[B") .byte ∈ pm_nar ∧ Cond.eq (.length (.field (pm_tm i) "java/lang/String" "value" "[B")) (.int (Int32.ofNat (([90, 6] : List Nat).getD i 0))) ∈ pm_nar := by decide +kernel
theorem pm_n2 : ∀ i, i < 2 → ∀ j, j < ([90, 6] : List Nat).getD i 0 → Cond.eq (.elem (.field (pm_tm i) "java/lang/String" "value" "[B") (.int (Int32.ofNat j))) (.int ((([pm_b1, pm_b2] : List (List Int32)).getD i []).getD j 0)) ∈ pm_nar := by decide +kernel
theorem pm_n3 : Cond.not (Cond.eq (pm_tm 0) (pm_tm 1)) ∈ pm_nar := by decide +kernel
theorem pm_n4 : Cond.eq (.static "java/lang/String" "COMPACT_STRINGS" "Z") (.int 1) ∈ pm_nar ∧ Cond.isRef (.static "jdk/internal/util/Preconditions" "SIOOBE_FORMATTER" "Ljava/util/function/BiFunction;") ∈ pm_nar := by decide +kernel
theorem pm_w1 : ∀ q ∈ pm_cl, Cond.instantiable q.1 q.2.2 ∈ lw_tbl := by decide +kernel
theorem pm_w2 : ∀ q ∈ pm_ne, Cond.methodLinkNest q.1 q.2.1 q.2.2.1 q.2.2.2 ∈ lw_tbl := by decide +kernel
theorem pm_w3 : ∀ w ∈ [Cond.arrayClass .int, .arrayClass .byte, .arrayOver (.object RX9), .arrayOver (.array .int), .stringRef RX10 pm_tx1 pm_s1, .stringRef RX10 pm_tx2 pm_s2, .laysStatic "java/lang/String" "COMPACT_STRINGS" "Z", .initialized "java/lang/String", .laysStatic "jdk/internal/util/Preconditions" "SIOOBE_FORMATTER" "Ljava/util/function/BiFunction;", .initialized "jdk/internal/util/Preconditions"], w ∈ lw_tbl := by decide +kernel
theorem pm_vmst {v : VmData} (h : ∀ k, v ≠ .statics k) : v.isStatics = false := by
  cases v <;> first | rfl | exact absurd rfl (h _)
theorem pm_top {p : Program} {e : Env} {s : State} {m : MethodId} {below : List Frame} {meth : Method} {c : Code} (l : Launch) {b L : Nat} {xs : Nat → Int32} (hL : L ≤ 3072) (C0 : lw_At p s m meth c b L xs) (h : PM 800 2000 pm_ML [.ref 1] (pm_s0 L xs) (fun r _ => r = some (.int 1))) :
    W p l e room_1 s m #[Value.ref b] below meth c s.heap [] 0 0 (lw_Z below #[Value.ref b] s) (entryFrame m ([Value.ref b] : List Value).toArray 4) := by
  obtain ⟨hx, hb, hr, hml, hown, hts, hX, hbl, hlocks, hgv⟩ := C0
  have hnar := flat_of_before _ hgv
  have hA : ∀ a : Nat, a < s.heap.size → ¬ (fun q : Nat => s.heap.size ≤ q) a := fun a h => Nat.not_le.mpr h
  -- the classes
  have hu : ∀ t : Nat, ∃ x : ClassId × (Nat → Nat), ∀ q, pm_cl[t]? = some q → u_Kn s q.1 q.2.1 q.2.2 x.1 x.2 := by
    intro t
    cases hq : pm_cl[t]? with
    | none => exact ⟨(0, fun _ => 0), fun q h => by cases h⟩
    | some q =>
      obtain ⟨cC, iS, hk⟩ := u_known hts (fun w hw => (List.mem_filter.mp ((pm_cls hq).2.2.1 w hw)).1) (hts _ (pm_w1 q (List.mem_of_getElem? hq)))
      exact ⟨(cC, iS), fun q' h => by cases h; exact hk⟩
  obtain ⟨F, hF⟩ := Classical.axiomOfChoice hu
  -- the arrays
  obtain ⟨cI, kI, compI, i1, i2, i3⟩ := Cond.arrayClass_spec (hts (.arrayClass .int) (pm_w3 _ (by decide +kernel)))
  obtain ⟨cB, kB, compB, b1, b2, b3⟩ := Cond.arrayClass_spec (hts (.arrayClass .byte) (pm_w3 _ (by decide +kernel)))
  obtain ⟨compT, cT, kT, t1, t2, t3, t4, t5⟩ := Cond.arrayOver_spec (hts (.arrayOver (.object RX9)) (pm_w3 _ (by decide +kernel)))
  obtain ⟨compG, cG, kG, g1, g2, g3, g4, g5⟩ := arrayOverA_spec (hts (.arrayOver (.array .int)) (pm_w3 _ (by decide +kernel)))
  -- the texts
  obtain ⟨adK, adV, ⟨hS1, -⟩, hS2⟩ := vk_Sof (args := #[Value.ref b]) (s := s) (N := 2) (tm := pm_tm) (len := [90, 6]) (byt := [pm_b1, pm_b2]) (A := fun q : Nat => s.heap.size ≤ q)
    (by decide) (fun i hi => hnar _ (pm_n1 i hi).1) (fun i hi => hnar _ (pm_n1 i hi).2.1) (fun i hi => hnar _ (pm_n1 i hi).2.2.1) (fun i hi => hnar _ (pm_n1 i hi).2.2.2) (fun i hi j hj => hnar _ (pm_n2 i hi j hj))
    (fun i j hi hj hij => by
      have : (i = 0 ∧ j = 1) ∨ (i = 1 ∧ j = 0) := by omega
      rcases this with ⟨rfl, rfl⟩ | ⟨rfl, rfl⟩
      · exact Or.inl (hnar _ pm_n3)
      · exact Or.inr (hnar _ pm_n3)) hA
  obtain ⟨⟨k0, o1, o2, o3, o4⟩, ⟨cf0, kc0, ic0, fc0, cc0, p1, p2, p3, p4, p5, p6⟩, ⟨cfv, kcv, icv, fcv, ccv, v1, v2, v3, v4, v5, v6⟩, ⟨a0, x1, x2, x3, x4, x5, x6, x7⟩⟩ := hS1 0 (by decide)
  obtain ⟨⟨k1, o1', o2', o3', o4'⟩, ⟨cf0', kc0', ic0', fc0', cc0', p1', p2', p3', p4', p5', p6'⟩, ⟨cfv', kcv', icv', fcv', ccv', v1', v2', v3', v4', v5', v6'⟩, ⟨a1, x1', x2', x3', x4', x5', x6', x7'⟩⟩ := hS1 1 (by decide)
  have ef : fc0' = fc0 := by have := p1.symm.trans p1'; simp at this; exact this.2.2.2.symm
  have ev : fcv' = fcv := by have := v1.symm.trans v1'; simp at this; exact this.2.2.2.symm
  subst ef; subst ev
  obtain ⟨scr, s1, s2, s3, s4, s5⟩ := hX
  -- beside it
  let ρ : Nat → Nat := fun a => if a = 1 then b else if a = 2 then adK 0 else if a = 3 then adK 1 else if a = 4 then adV 0 else if a = 5 then adV 1 else s.heap.size + (a - 6)
  let dC : Nat → ClassId := fun t => if t < 13 then (F t).1 else if t = 20 then cI else if t = 21 then cB else if t = 22 then cT else cG
  let dI : Nat → Nat → Nat := fun t => if t < 13 then (F t).2 else fun k => if k = 0 then fcv'.slot else fc0'.slot
  let dO : Nat → ClassId := fun a => if a = 1 then scr.cls else if a = 2 then k0.cls else if a = 3 then k1.cls else if a = 4 then a0.cls else a1.cls
  obtain ⟨g, hg⟩ : ∃ g : pm_G, g = (ρ, dC, dI, dO, s.heap.size, s.heap) := ⟨_, rfl⟩
  have hlt : ∀ {q : Nat} {x : Cell}, s.heap[q]? = some x → q < s.heap.size := fun h => (Array.getElem?_eq_some_iff.mp h).1
  have hG : pm_Gk g := by
    subst hg
    have h6 : ∀ n, 6 ≤ n → ρ n = s.heap.size + (n - 6) := fun n hn => by
      show (if n = 1 then b else if n = 2 then adK 0 else if n = 3 then adK 1 else if n = 4 then adV 0 else if n = 5 then adV 1 else s.heap.size + (n - 6)) = _
      rw [if_neg (by omega), if_neg (by omega), if_neg (by omega), if_neg (by omega), if_neg (by omega)]
    have hold : ∀ n, 0 < n → n < 6 → ρ n < s.heap.size := fun n h0 h5 => by
      have : n = 1 ∨ n = 2 ∨ n = 3 ∨ n = 4 ∨ n = 5 := by omega
      rcases this with rfl | rfl | rfl | rfl | rfl
      · exact hbl
      · exact hlt o1
      · exact hlt o1'
      · exact hlt x1
      · exact hlt x1'
    refine ⟨fun x y hy hx hxy => ?_, fun n hn => ?_, fun n hn => ?_⟩
    · have hxy' : ρ y = ρ x := hxy
      rcases Nat.lt_or_ge y 6 with h5 | h5
      · have := hold y hy h5
        rw [h6 x hx] at hxy'
        omega
      · rw [h6 x hx, h6 y h5] at hxy'
        omega
    · show ρ (n + 1) = ρ n + 1
      rw [h6 n hn, h6 (n + 1) (by omega)]
      omega
    · show s.heap.size ≤ ρ n
      rw [h6 n hn]
      omega
  have hsh : ∀ {ty : FieldType} {cA : ClassId} {kA : Class} {comp : ClassId}, s.vm.classes[cA]? = some kA → kA.kind = .array comp ty → ArrOfT s cA ty := fun h1 h2 n z => ⟨(fun k h => by cases h), _, h1, _, h2⟩
  have hsc : ∀ {ty : FieldType} {cell : Cell}, s.isArrayOf cell ty → ArrOfT s cell.cls ty := fun h n z => ⟨(fun k h => by cases h), h.2⟩
  have hK : pm_K g s := by
    subst hg
    refine ⟨⟨⟨fun t q hq => ?_, fun k q hk => by cases hk⟩, fun t h1 h2 => ?_, hsc s2, hsc x2, hsc x2'⟩, ⟨⟨o3, o3'⟩, ⟨cfv, kcv, icv, fcv', v1, v2, rfl⟩, ⟨cf0, kc0, ic0, fc0', p1, p2, rfl⟩, vk_R.of (hts _ (pm_w3 _ (by decide +kernel))) (hS2 0 (by decide)), vk_R.of (hts _ (pm_w3 _ (by decide +kernel))) (hS2 1 (by decide))⟩, ⟨fun q hq => va_Nw.of rfl (hts _ (pm_w2 q hq)), va_AO.of (hts _ (pm_w3 _ (by decide +kernel))), over_moved (Vm.Alike.refl _) (hts _ (pm_w3 _ (by decide +kernel)))⟩, va_Zof (hts _ (pm_w3 _ (by decide +kernel))) (hts _ (pm_w3 _ (by decide +kernel))) (va_eqt (hnar _ pm_n4.1)) hA, ?_⟩
    · have h13 := (pm_cls hq).1
      have e1 : dC t = (F t).1 := if_pos h13
      have e2 : dI t = (F t).2 := if_pos h13
      show u_Kn s q.1 q.2.1 q.2.2 (dC t) (dI t)
      rw [e1, e2]
      exact hF t q hq
    · have : t = 20 ∨ t = 21 ∨ t = 22 ∨ t = 23 := by omega
      rcases this with rfl | rfl | rfl | rfl
      · exact ⟨hsh i2 i3, i1⟩
      · exact ⟨hsh b2 b3, b1⟩
      · exact ⟨hsh t3 t4, kT, compT, t3, t4, t1, t5⟩
      · exact ⟨hsh g3 g4, g5⟩
    · rcases va_Zqof (A := fun q : Nat => s.heap.size ≤ q) (hts _ (pm_w3 (.laysStatic "jdk/internal/util/Preconditions" "SIOOBE_FORMATTER" "Ljava/util/function/BiFunction;") (by decide +kernel))) (hts _ (pm_w3 (.initialized "jdk/internal/util/Preconditions") (by decide +kernel))) (hnar _ pm_n4.2) hA with h | ⟨t, h⟩
      · exact ⟨_, Or.inl rfl, h⟩
      · exact ⟨_, Or.inr ⟨t, rfl⟩, h⟩
  have hRl : pm_Rl g (pm_s0 L xs) s.heap := by
    subst hg
    refine ⟨by show 6 ≤ 6; omega, by show s.heap.size = s.heap.size + 0; omega, fun a h0 h6 => ?_, fun q hq => rfl, rfl, rfl, rfl, rfl, rfl⟩
    have h6' : a < 6 := h6
    have : a = 1 ∨ a = 2 ∨ a = 3 ∨ a = 4 ∨ a = 5 := by omega
    rcases this with rfl | rfl | rfl | rfl | rfl
    · exact ⟨scr, s1, rfl, pm_vmst s2.1, s3, fun h => by omega, fun h => absurd h (show ¬ (20 : Nat) < 20 by decide), fun _ => ⟨⟨by show L ≤ _; rw [s4]; exact Nat.le_refl _, by rw [s4]; rfl⟩, fun j hj => s5 j hj⟩⟩
    · refine ⟨k0, o1, rfl, o2, ?_, fun h => by omega, fun _ k hk => ?_, fun h => absurd h (show ¬ (20 : Nat) ≤ 13 by decide)⟩
      · have : ccv = k0 := Option.some.inj (v3.symm.trans o1)
        rw [← this]; exact v4
      · have hk2 : k < 2 := hk
        have : k = 0 ∨ k = 1 := by omega
        rcases this with rfl | rfl
        · have : ccv = k0 := Option.some.inj (v3.symm.trans o1)
          rw [← this]; exact v5
        · have : cc0 = k0 := Option.some.inj (p3.symm.trans o1)
          rw [← this]; exact p5
    · refine ⟨k1, o1', rfl, o2', ?_, fun h => by omega, fun _ k hk => ?_, fun h => absurd h (show ¬ (20 : Nat) ≤ 13 by decide)⟩
      · have : ccv' = k1 := Option.some.inj (v3'.symm.trans o1')
        rw [← this]; exact v4'
      · have hk2 : k < 2 := hk
        have : k = 0 ∨ k = 1 := by omega
        rcases this with rfl | rfl
        · have : ccv' = k1 := Option.some.inj (v3'.symm.trans o1')
          rw [← this]; exact v5'
        · have : cc0' = k1 := Option.some.inj (p3'.symm.trans o1')
          rw [← this]; exact p5'
    · exact ⟨a0, x1, rfl, pm_vmst x2.1, x3, fun h => by omega, fun h => absurd h (show ¬ (21 : Nat) < 20 by decide), fun _ => ⟨⟨x4, x5⟩, fun j hj => x6 j hj⟩⟩
    · exact ⟨a1, x1', rfl, pm_vmst x2'.1, x3', fun h => by omega, fun h => absurd h (show ¬ (21 : Nat) < 20 by decide), fun _ => ⟨⟨x4', x5'⟩, fun j hj => x6' j hj⟩⟩
  have hbase : g.2.2.2.2.1 = s.heap.size := by rw [hg]
  have hE : pm_End pm_ML (fun r _ => r = some (.int 1)) p l e room_1 s m #[Value.ref b] below meth c g (lw_Z below #[Value.ref b] s) 2000 1400000 := by
    intro r τ H locs lr pc ins hQ hRl' hlo hd hok
    subst hQ
    rcases hok with ⟨h1, -, -⟩ | ⟨ty, x, h1, rfl, h3, hn⟩ | ⟨ty, a, h1, -, h3, -⟩
    · cases h1
    · refine va_forget (fun q hq => by rw [← hbase]; exact hlo q hq) ?_
      refine W.widen (k := 600000) (n := 7302250) (Nat.le_of_ble_eq_true rfl) (Nat.le_of_ble_eq_true rfl) ?_
      exact lw_ret hx hb hr hlocks hd
    · cases h3
  have hg1 : g.1 1 = b := by rw [hg]; rfl
  have etr : ([Value.ref 1].map (pm_tr g)) = [Value.ref b] := by
    show [pm_tr g (.ref 1)] = _
    rw [pm_tr_ref (by decide), hg1]
  rw [lg_entry_eq]
  have hl := lv_entry [Value.ref b] (n := 4) (Nat.le_of_ble_eq_true rfl)
  generalize (lg_sl [Value.ref b] ++ List.replicate (4 - (lg_sl [Value.ref b]).length) Slot.unset).toArray = lr at hl ⊢
  refine h p l e room_1 s m _ below meth c g _ 2000 1400000 s.heap [] 0 0 lr ⟨⟨hx, hb, hr, hlocks, hml, hown, fun w hw => hts w (List.mem_filter.mp hw).1, ?_, hK⟩, hG, Nat.le_of_ble_eq_true rfl, Nat.le_of_ble_eq_true rfl, Nat.le_of_ble_eq_true rfl, Nat.le_of_ble_eq_true rfl, hE⟩ ⟨Nat.le_of_ble_eq_true rfl, Nat.le_of_ble_eq_true rfl, hRl, (fun q h => by cases h), ?_⟩
  · intro h; exact absurd h (by decide)
  · refine ⟨hl.1, hl.2.1, fun q hq => hl.2.2 q ?_⟩
    rw [← etr]
    exact pm_ent_sub _ [.ref 1] 0 hq
