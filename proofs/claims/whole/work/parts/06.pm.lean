/-! ===== THE PURE MACHINE: its state; cells are numbered from 1 on, 0 is null ===== -/
/-- ints by cell and slot, references by cell and slot, the tag of a cell, the length of an array, how many numbers are used -/
abbrev pm_S : Type := (Nat → Nat → Int32) × (Nat → Nat → Nat) × (Nat → Nat) × (Nat → Nat) × Nat
def qI (σ : pm_S) : Nat → Nat → Int32 := σ.1
def qR (σ : pm_S) : Nat → Nat → Nat := σ.2.1
def qT (σ : pm_S) : Nat → Nat := σ.2.2.1
def qL (σ : pm_S) : Nat → Nat := σ.2.2.2.1
def qN (σ : pm_S) : Nat := σ.2.2.2.2
def pm_sI (σ : pm_S) (a k : Nat) (x : Int32) : pm_S := (fun b j => if b = a ∧ j = k then x else σ.1 b j, σ.2)
def pm_sR (σ : pm_S) (a k : Nat) (x : Nat) : pm_S := (σ.1, fun b j => if b = a ∧ j = k then x else σ.2.1 b j, σ.2.2)
def pm_nw (σ : pm_S) (t n : Nat) : pm_S := (fun b j => if b = qN σ then 0 else σ.1 b j, fun b j => if b = qN σ then 0 else σ.2.1 b j, fun b => if b = qN σ then t else σ.2.2.1 b, fun b => if b = qN σ then n else σ.2.2.2.1 b, qN σ + 1)
/-- a cell that is there, of a tag -/
def pm_is (σ : pm_S) (a t : Nat) : Prop := 0 < a ∧ a < qN σ ∧ qT σ a = t
/-! the tags: 0 .. 12 the classes, 13 String; 20 int[], 21 byte[], 22 Thing[], 23 int[][] -/
def pm_cl : List vw_C := [(RX0, TX0, 6), (RX1, TX1, 14), (RX2, TX2, 1), (RX3, TX3, 3), (RX4, TX4, 6), (RX5, TX5, 6), (RX6, TX6, 2), (RX7, TX7, 2), (RX8, TX8, 1), (RX9, TX9, 9), (RX10, TX10, 5), (RX11, TX11, 11), (RX12, TX12, 45)]
def pm_nf (t : Nat) : Nat := match t with
  | 0 => 6
  | 1 => 14
  | 2 => 1
  | 3 => 3
  | 4 => 6
  | 5 => 6
  | 6 => 2
  | 7 => 2
  | 8 => 1
  | 9 => 9
  | 10 => 5
  | 11 => 11
  | 12 => 45
  | 13 => 2
  | _ => 0
def pm_fty (t k : Nat) : FieldType := match t with
  | 0 => tyX0 k
  | 1 => tyX1 k
  | 2 => tyX2 k
  | 3 => tyX3 k
  | 4 => tyX4 k
  | 5 => tyX5 k
  | 6 => tyX6 k
  | 7 => tyX7 k
  | 8 => tyX8 k
  | 9 => tyX9 k
  | 10 => tyX10 k
  | 11 => tyX11 k
  | 12 => tyX12 k
  | 13 => if k = 0 then .array .byte else .byte
  | 20 => .int
  | 21 => .byte
  | 22 => .object RX9
  | 23 => .array .int
  | _ => .int
def pm_isr : FieldType → Bool
  | .object _ => true
  | .array _ => true
  | _ => false
def pm_rf (t k : Nat) : Bool := pm_isr (pm_fty t k)
/-! ===== the real machine beside it: addresses, class ids, slots, the old cells' classes, the first new address, the heap at the start ===== -/
abbrev pm_G : Type := (Nat → Nat) × (Nat → ClassId) × (Nat → Nat → Nat) × (Nat → ClassId) × Nat × Heap
def pm_rv (g : pm_G) (n : Nat) : Value := if n = 0 then .null else .ref (g.1 n)
def pm_tr (g : pm_G) (v : Value) : Value := match v with
  | .ref n => pm_rv g n
  | w => w
def pm_val (g : pm_G) (σ : pm_S) (a k : Nat) : Value := if pm_rf (qT σ a) k = true then pm_rv g (qR σ a k) else .int (qI σ a k)
def pm_gc (g : pm_G) (a t : Nat) : ClassId := if a < 6 then g.2.2.2.1 a else g.2.1 t
def pm_cell (g : pm_G) (σ : pm_S) (a : Nat) (H : Heap) : Prop := ∃ cell : Cell, H[g.1 a]? = some cell ∧ cell.cls = pm_gc g a (qT σ a) ∧ cell.vm.isStatics = false ∧ cell.vm ≠ .unknown ∧ (6 ≤ a → cell.vm = .none) ∧
  (qT σ a < 20 → ∀ k, k < pm_nf (qT σ a) → cell.slots[g.2.2.1 (qT σ a) k]? = some (pm_val g σ a k)) ∧
  (20 ≤ qT σ a → (qL σ a ≤ cell.slots.size ∧ cell.slots.size.toInt32 = nI (qL σ a)) ∧ ∀ j, j < qL σ a → cell.slots[j]? = some (pm_val g σ a j))
def pm_Rl (g : pm_G) (σ : pm_S) (H : Heap) : Prop := 6 ≤ qN σ ∧ H.size = g.1 (qN σ) ∧ (∀ a, 0 < a → a < qN σ → pm_cell g σ a H) ∧ (∀ q, q < g.2.2.2.2.1 → H[q]? = g.2.2.2.2.2[q]?) ∧ (qT σ 1 = 20 ∧ qT σ 2 = 13 ∧ qT σ 3 = 13 ∧ qT σ 4 = 21 ∧ qT σ 5 = 21)
def pm_Gk (g : pm_G) : Prop := (∀ a b, 0 < b → 6 ≤ a → g.1 b = g.1 a → b = a) ∧ (∀ n, 6 ≤ n → g.1 (n + 1) = g.1 n + 1) ∧ ∀ n, 6 ≤ n → g.2.2.2.2.1 ≤ g.1 n
/-- the words of the tables that every method may use -/
def pm_T : List Cond := lw_tbl.filter goodWord
theorem pm_T_good : ∀ w ∈ pm_T, goodWord w = true := fun w h => (List.mem_filter.mp h).2
theorem pm_T_in {w : Cond} (h : w ∈ lw_tbl) (hg : goodWord w = true) : w ∈ pm_T := List.mem_filter.mpr ⟨h, hg⟩
/-- the two text constants, by the entries of the class's file -/
def pm_tx1 : Nat := 68
def pm_tx2 : Nat := 53
def pm_s1 : String := "bar   or    and   not   seasonguestsrank  tone  age   has   bowl  scrollkettlevase  scoop "
def pm_s2 : String := ";()<=>"
/-- what is known of the classes at a method's start -/
def pm_K1 (g : pm_G) (U : State) : Prop := va_K (g.2.1, g.2.2.1) pm_cl [] U ∧ (∀ t, 20 ≤ t → t ≤ 23 → ArrOfT U (g.2.1 t) (pm_fty t 0) ∧ va_RA U (g.2.1 t) (pm_fty t 0)) ∧ ArrOfT U (g.2.2.2.1 1) .int ∧ ArrOfT U (g.2.2.2.1 4) .byte ∧ ArrOfT U (g.2.2.2.1 5) .byte
/-- of the text constants, of the statics that are read -/
def pm_K2 (g : pm_G) (U : State) : Prop := (U.vm.findClass "java/lang/String" = some (g.2.2.2.1 2) ∧ U.vm.findClass "java/lang/String" = some (g.2.2.2.1 3)) ∧ (∃ (cf : ClassId) (k : Class) (i : Nat) (f : Field), U.fieldFound? "java/lang/String" "value" "[B" = some (cf, k, i, f) ∧ f.isStatic = false ∧ f.slot = g.2.2.1 13 0) ∧ (∃ (cf : ClassId) (k : Class) (i : Nat) (f : Field), U.fieldFound? "java/lang/String" "coder" "B" = some (cf, k, i, f) ∧ f.isStatic = false ∧ f.slot = g.2.2.1 13 1) ∧
  vk_R RX10 pm_tx1 pm_s1 (g.1 2) U ∧ vk_R RX10 pm_tx2 pm_s2 (g.1 3) U
/-- of the links to private constructors of nest mates -/
def pm_ne : List (String × Nat × MethodName × String) := [("TeaBook", 18, ⟨"TeaBook$Shelf", "<init>", "()V"⟩, "TeaBook"), ("TeaBook", 25, ⟨"TeaBook$Meetings", "<init>", "()V"⟩, "TeaBook"), ("TeaBook", 32, ⟨"TeaBook$Tape", "<init>", "()V"⟩, "TeaBook"), ("TeaBook", 39, ⟨"TeaBook$RuleList", "<init>", "()V"⟩, "TeaBook"), ("TeaBook", 58, ⟨"TeaBook$TeaSet", "<init>", "()V"⟩, "TeaBook"), ("TeaBook", 65, ⟨"TeaBook$Facts", "<init>", "()V"⟩, "TeaBook"), ("TeaBook$Chooser", 25, ⟨"TeaBook$TeaSet", "<init>", "()V"⟩, "TeaBook"), ("TeaBook$Chooser", 32, ⟨"TeaBook$Facts", "<init>", "()V"⟩, "TeaBook")]
def pm_K3 (U : State) : Prop := (∀ q ∈ pm_ne, va_Nw (.methodLinkNest q.1 q.2.1 q.2.2.1 q.2.2.2) U) ∧ va_AO RX9 U ∧ (Cond.arrayOver (.array .int)).before #[] U = true
/-- of the statics of the JDK: where they stand at the start -/
def pm_K4 (g : pm_G) (U : State) : Prop := va_Z "java/lang/String" "COMPACT_STRINGS" "Z" (.int 1) (fun q => g.2.2.2.2.1 ≤ q) U g.2.2.2.2.2 ∧ ∃ v, (v = .null ∨ ∃ q, v = .ref q) ∧ va_Z "jdk/internal/util/Preconditions" "SIOOBE_FORMATTER" "Ljava/util/function/BiFunction;" v (fun q => g.2.2.2.2.1 ≤ q) U g.2.2.2.2.2
def pm_K (g : pm_G) (U : State) : Prop := pm_K1 g U ∧ pm_K2 g U ∧ pm_K3 U ∧ pm_K4 g U
/-! ===== methods, and the judgement ===== -/
/-- a method: its name, its bytes, its locals, what it answers -/
abbrev pm_M : Type := MethodName × ByteArray × Nat × Option FieldType
def pm_Cx (M : pm_M) (p : Program) (s : State) (m : MethodId) (args : Array Value) (meth : Method) (c : Code) (g : pm_G) : Prop :=
  p.tables.exec = Jvm.exec ∧ c.code = M.2.1 ∧ meth.sig.returnType = M.2.2.2 ∧ meth.locks = false ∧ c.maxLocals = M.2.2.1 ∧ s.vm.findClass M.1.cls = some m.cls ∧ (∀ w ∈ pm_T, w.before args s = true) ∧ (M.1.name = "<init>" → meth.name = "<init>") ∧ pm_K g s
/-- the last instruction and the answer -/
def pm_rOk (ret : Option FieldType) (ins : Instr) (r : Option Value) : Prop :=
  (ret = none ∧ ins = .return_ ∧ r = none) ∨ (∃ (ty : FieldType) (x : Int32), ret = some ty ∧ ins = .ireturn ∧ r = some (.int x) ∧ narrow ty (.int x) = .int x) ∨ (∃ (ty : FieldType) (a : Nat), ret = some ty ∧ ins = .areturn ∧ r = some (.ref a) ∧ ((∃ n, ty = .object n) ∨ ∃ t, ty = .array t))
def pm_End (M : pm_M) (Q : Option Value → pm_S → Prop) (p : Program) (l : Launch) (e : Env) (R : Room) (s : State) (m : MethodId) (args : Array Value) (below : List Frame) (meth : Method) (c : Code) (g : pm_G) (Z : State → Prop) (mc ms : Nat) : Prop :=
  ∀ (r : Option Value) (σ : pm_S) (H : Heap) (locs : List Loc) (lr : Array Slot) (pc : Nat) (ins : Instr), Q r σ → pm_Rl g σ H → (∀ q ∈ locs, g.2.2.2.2.1 ≤ q.base) → decode M.2.1 pc = .ok (ins, 1) → pm_rOk M.2.2.2 ins r → W p l e R s m args below meth c H locs mc ms Z (F0 m pc lr (r.toList.map (pm_tr g)))
def pm_Fx (d : Nat) (M : pm_M) (Q : Option Value → pm_S → Prop) (p : Program) (l : Launch) (e : Env) (R : Room) (s : State) (m : MethodId) (args : Array Value) (below : List Frame) (meth : Method) (c : Code) (g : pm_G) (Z : State → Prop) (mc ms : Nat) : Prop :=
  pm_Cx M p s m args meth c g ∧ pm_Gk g ∧ d ≤ R.frames ∧ 100 * d ≤ R.locals ∧ mc ≤ R.cells ∧ ms ≤ R.slots ∧ pm_End M Q p l e R s m args below meth c g Z mc ms
/-- a local that holds nothing (a retAddr stands for it) -/
def pm_un : Value → Bool
  | .retAddr _ => true
  | _ => false
def pm_prs (g : pm_G) : Nat → List Value → List (Nat × Value)
  | _, [] => []
  | i, v :: vs => if pm_un v = true then pm_prs g (i + 1) vs else (i, pm_tr g v) :: pm_prs g (i + 1) vs
def pm_Vr (al : Nat) (M : pm_M) (σ : pm_S) (ls : List Value) (g : pm_G) (mc ms : Nat) (H : Heap) (locs : List Loc) (cells slots : Nat) (lr : Array Slot) : Prop :=
  cells + al ≤ mc ∧ slots + 700 * al ≤ ms ∧ pm_Rl g σ H ∧ (∀ q ∈ locs, g.2.2.2.2.1 ≤ q.base) ∧ lv_has lr M.2.2.1 (pm_prs g 0 ls)
/-- from pc on, with these locals and this stack, in the state σ, the method comes to its end with Q; d frames at most, al new cells at most -/
def PW (d al : Nat) (M : pm_M) (pc : Nat) (ls st : List Value) (σ : pm_S) (Q : Option Value → pm_S → Prop) : Prop :=
  ∀ (p : Program) (l : Launch) (e : Env) (R : Room) (s : State) (m : MethodId) (args : Array Value) (below : List Frame) (meth : Method) (c : Code) (g : pm_G) (Z : State → Prop) (mc ms : Nat) (H : Heap) (locs : List Loc) (cells slots : Nat) (lr : Array Slot),
    pm_Fx d M Q p l e R s m args below meth c g Z mc ms → pm_Vr al M σ ls g mc ms H locs cells slots lr → W p l e R s m args below meth c H locs cells slots Z (F0 m pc lr (st.map (pm_tr g)))
def pm_ent (n : Nat) (av : List Value) : List Value := (av.flatMap fun v => if v.category = 2 then [v, .retAddr 0] else [v]) ++ List.replicate (n - (av.flatMap fun v => if v.category = 2 then [v, .retAddr 0] else [v]).length) (.retAddr 0)
/-- a method's whole run -/
def PM (d al : Nat) (M : pm_M) (av : List Value) (σ : pm_S) (Q : Option Value → pm_S → Prop) : Prop := PW d al M 0 (pm_ent M.2.2.1 av) [] σ Q
/-! ===== small facts ===== -/
theorem pm_tr_cat (g : pm_G) (v : Value) : (pm_tr g v).category = v.category := by
  cases v <;> first | rfl | (rename_i a; show (pm_rv g a).category = 1; unfold pm_rv; split <;> rfl)
theorem pm_tr_ref {g : pm_G} {a : Nat} (h : 0 < a) : pm_tr g (.ref a) = .ref (g.1 a) := if_neg (Nat.ne_of_gt h)
theorem pm_tr_null (g : pm_G) : pm_tr g (.ref 0) = .null := rfl
theorem pm_prs_mem {g : pm_G} {q : Nat × Value} : ∀ {ls : List Value} {i : Nat}, q ∈ pm_prs g i ls ↔ ∃ (k : Nat) (v : Value), ls[k]? = some v ∧ pm_un v = false ∧ q = (i + k, pm_tr g v)
  | [], i => by simp [pm_prs]
  | v :: vs, i => by
    have ih := pm_prs_mem (g := g) (q := q) (ls := vs) (i := i + 1)
    unfold pm_prs
    constructor
    · intro h
      by_cases hu : pm_un v = true
      · rw [if_pos hu] at h
        obtain ⟨k, w, h1, h2, h3⟩ := ih.mp h
        exact ⟨k + 1, w, by simpa using h1, h2, by rw [h3]; congr 1; omega⟩
      · rw [if_neg hu] at h
        rcases List.mem_cons.mp h with h | h
        · exact ⟨0, v, rfl, by simpa using hu, h⟩
        · obtain ⟨k, w, h1, h2, h3⟩ := ih.mp h
          exact ⟨k + 1, w, by simpa using h1, h2, by rw [h3]; congr 1; omega⟩
    · rintro ⟨k, w, h1, h2, h3⟩
      cases k with
      | zero =>
        have hw : v = w := by simpa using h1
        subst hw
        rw [if_neg (by rw [h2]; decide)]
        exact List.mem_cons.mpr (Or.inl h3)
      | succ k =>
        have hm : q ∈ pm_prs g (i + 1) vs := ih.mpr ⟨k, w, by simpa using h1, h2, by rw [h3]; congr 1; omega⟩
        split
        · exact hm
        · exact List.mem_cons_of_mem _ hm
/-- no long stands just below this local -/
def pm_nl (ls : List Value) (i : Nat) : Bool := match i with
  | 0 => true
  | j + 1 => match ls[j]? with
    | some w => w.category != 2
    | none => true
theorem pm_put1 {g : pm_G} {n i : Nat} {ls : List Value} {v : Value} {lr' : Array Slot} (hi : i < ls.length) (hnl : pm_nl ls i = true)
    (h : lv_has lr' n ((i, pm_tr g v) :: (pm_prs g 0 ls).filter (fun q => !(q.1 == i) && !(q.1 + 1 == i && q.2.category == 2)))) : lv_has lr' n (pm_prs g 0 (ls.set i v)) := by
  obtain ⟨h1, h2, h3⟩ := h
  refine ⟨h1, h2, fun q hq => ?_⟩
  obtain ⟨k, w, e1, e2, e3⟩ := pm_prs_mem.mp hq
  rw [Nat.zero_add] at e3
  by_cases hk : k = i
  · subst hk
    rw [List.getElem?_set_self hi] at e1
    cases e1
    exact h3 q (List.mem_cons.mpr (Or.inl e3))
  · rw [List.getElem?_set_ne (Ne.symm hk)] at e1
    refine h3 q (List.mem_cons_of_mem _ (List.mem_filter.mpr ⟨pm_prs_mem.mpr ⟨k, w, e1, e2, by rw [e3, Nat.zero_add]⟩, ?_⟩))
    rw [e3]
    simp only [Bool.and_eq_true, Bool.not_eq_true', beq_eq_false_iff_ne, ne_eq, Bool.and_eq_false_iff]
    refine ⟨hk, ?_⟩
    by_cases hki : k + 1 = i
    · right
      subst hki
      have h5 : (match ls[k]? with | some w => w.category != 2 | none => true) = true := hnl
      rw [e1] at h5
      rw [pm_tr_cat]
      simpa using h5
    · exact Or.inl hki
theorem pm_put2 {g : pm_G} {n i : Nat} {ls : List Value} {x : Int64} {lr' : Array Slot} (hi : i + 1 < ls.length) (hnl : pm_nl ls i = true)
    (h : lv_has lr' n ((i, Value.long x) :: (pm_prs g 0 ls).filter (fun q => !(q.1 == i) && (!(q.1 == i + 1) && !(q.1 + 1 == i && q.2.category == 2))))) : lv_has lr' n (pm_prs g 0 ((ls.set i (.long x)).set (i + 1) (.retAddr 0))) := by
  obtain ⟨h1, h2, h3⟩ := h
  refine ⟨h1, h2, fun q hq => ?_⟩
  obtain ⟨k, w, e1, e2, e3⟩ := pm_prs_mem.mp hq
  rw [Nat.zero_add] at e3
  by_cases hk1 : k = i + 1
  · subst hk1
    rw [List.getElem?_set_self (by rw [List.length_set]; exact hi)] at e1
    cases e1
    cases e2
  · rw [List.getElem?_set_ne (Ne.symm hk1)] at e1
    by_cases hk : k = i
    · subst hk
      rw [List.getElem?_set_self (by omega)] at e1
      cases e1
      exact h3 q (List.mem_cons.mpr (Or.inl e3))
    · rw [List.getElem?_set_ne (Ne.symm hk)] at e1
      refine h3 q (List.mem_cons_of_mem _ (List.mem_filter.mpr ⟨pm_prs_mem.mpr ⟨k, w, e1, e2, by rw [e3, Nat.zero_add]⟩, ?_⟩))
      rw [e3]
      simp only [Bool.and_eq_true, Bool.not_eq_true', beq_eq_false_iff_ne, ne_eq, Bool.and_eq_false_iff]
      refine ⟨hk, hk1, ?_⟩
      by_cases hki : k + 1 = i
      · right
        subst hki
        have h5 : (match ls[k]? with | some w => w.category != 2 | none => true) = true := hnl
        rw [e1] at h5
        rw [pm_tr_cat]
        simpa using h5
      · exact Or.inl hki
theorem pm_lat {g : pm_G} {n i : Nat} {ls : List Value} {v : Value} {lr : Array Slot} (h : lv_has lr n (pm_prs g 0 ls)) (hi : ls[i]? = some v) (hu : pm_un v = false) : lr[i]? = some (.val (pm_tr g v)) :=
  h.2.2 (i, pm_tr g v) (pm_prs_mem.mpr ⟨i, v, hi, hu, by rw [Nat.zero_add]⟩)
/-! ===== rows that leave the heap as it is ===== -/
section PMR
variable {d al : Nat} {M : pm_M} {pc : Nat} {ls st : List Value} {σ : pm_S} {Q : Option Value → pm_S → Prop}
theorem pw_iconst {n : Int} {v : Int32} (hd : decode M.2.1 pc = .ok (.iconst n, 1)) (hv : Int32.ofInt n = v) (k : PW d al M (pc + 1) ls (.int v :: st) σ Q) : PW d al M pc ls st σ Q :=
  fun p l e R s m args below meth c g Z mc ms H locs cells slots lr hF hV => lv_iconst hF.1.1 hF.1.2.1 hd hv (k p l e R s m args below meth c g Z mc ms H locs cells slots lr hF hV)
theorem pw_bipush {n : Int} {v : Int32} (hd : decode M.2.1 pc = .ok (.bipush n, 2)) (hv : (Int8.ofInt n).toInt32 = v) (k : PW d al M (pc + 2) ls (.int v :: st) σ Q) : PW d al M pc ls st σ Q :=
  fun p l e R s m args below meth c g Z mc ms H locs cells slots lr hF hV => lv_bipush hF.1.1 hF.1.2.1 hd hv (k p l e R s m args below meth c g Z mc ms H locs cells slots lr hF hV)
theorem pw_sipush {n : Int} {v : Int32} (hd : decode M.2.1 pc = .ok (.sipush n, 3)) (hv : (Int16.ofInt n).toInt32 = v) (k : PW d al M (pc + 3) ls (.int v :: st) σ Q) : PW d al M pc ls st σ Q :=
  fun p l e R s m args below meth c g Z mc ms H locs cells slots lr hF hV => lv_sipush hF.1.1 hF.1.2.1 hd hv (k p l e R s m args below meth c g Z mc ms H locs cells slots lr hF hV)
theorem pw_lconst {n : Fin 2} {v : Int64} (hd : decode M.2.1 pc = .ok (.lconst n, 1)) (hv : Int64.ofNat (n : Nat) = v) (k : PW d al M (pc + 1) ls (.long v :: st) σ Q) : PW d al M pc ls st σ Q :=
  fun p l e R s m args below meth c g Z mc ms H locs cells slots lr hF hV => lv_lconst hF.1.1 hF.1.2.1 hd hv (k p l e R s m args below meth c g Z mc ms H locs cells slots lr hF hV)
theorem pw_iload_n {j : Fin 4} {x : Int32} (hd : decode M.2.1 pc = .ok (.iload_n j, 1)) (hl : ls[(j : Nat)]? = some (.int x)) (k : PW d al M (pc + 1) ls (.int x :: st) σ Q) : PW d al M pc ls st σ Q :=
  fun p l e R s m args below meth c g Z mc ms H locs cells slots lr hF hV => lv_iload_n hF.1.1 hF.1.2.1 hd rfl (pm_lat hV.2.2.2.2 hl rfl) (k p l e R s m args below meth c g Z mc ms H locs cells slots lr hF hV)
theorem pw_iload {i : Nat} {x : Int32} (hd : decode M.2.1 pc = .ok (.iload i, 2)) (hl : ls[i]? = some (.int x)) (k : PW d al M (pc + 2) ls (.int x :: st) σ Q) : PW d al M pc ls st σ Q :=
  fun p l e R s m args below meth c g Z mc ms H locs cells slots lr hF hV => lv_iload hF.1.1 hF.1.2.1 hd (pm_lat hV.2.2.2.2 hl rfl) (k p l e R s m args below meth c g Z mc ms H locs cells slots lr hF hV)
theorem pw_lload_n {j : Fin 4} {x : Int64} (hd : decode M.2.1 pc = .ok (.lload_n j, 1)) (hl : ls[(j : Nat)]? = some (.long x)) (k : PW d al M (pc + 1) ls (.long x :: st) σ Q) : PW d al M pc ls st σ Q :=
  fun p l e R s m args below meth c g Z mc ms H locs cells slots lr hF hV => lv_lload_n hF.1.1 hF.1.2.1 hd rfl (pm_lat hV.2.2.2.2 hl rfl) (k p l e R s m args below meth c g Z mc ms H locs cells slots lr hF hV)
theorem pw_lload {i : Nat} {x : Int64} (hd : decode M.2.1 pc = .ok (.lload i, 2)) (hl : ls[i]? = some (.long x)) (k : PW d al M (pc + 2) ls (.long x :: st) σ Q) : PW d al M pc ls st σ Q :=
  fun p l e R s m args below meth c g Z mc ms H locs cells slots lr hF hV => lv_lload hF.1.1 hF.1.2.1 hd (pm_lat hV.2.2.2.2 hl rfl) (k p l e R s m args below meth c g Z mc ms H locs cells slots lr hF hV)
theorem pw_aload_n {j : Fin 4} {a : Nat} (hd : decode M.2.1 pc = .ok (.aload_n j, 1)) (hl : ls[(j : Nat)]? = some (.ref a)) (k : PW d al M (pc + 1) ls (.ref a :: st) σ Q) : PW d al M pc ls st σ Q := by
  intro p l e R s m args below meth c g Z mc ms H locs cells slots lr hF hV
  have h1 := pm_lat hV.2.2.2.2 hl rfl
  have h2 := (k p l e R s m args below meth c g Z mc ms H locs cells slots lr hF hV)
  have e2 : List.map (pm_tr g) (Value.ref a :: st) = pm_tr g (.ref a) :: st.map (pm_tr g) := rfl
  rw [e2] at h2
  rcases Nat.eq_zero_or_pos a with h0 | h0
  · subst h0
    rw [pm_tr_null] at h1 h2
    exact lv_aload_nN hF.1.1 hF.1.2.1 hd rfl h1 h2
  · rw [pm_tr_ref h0] at h1 h2
    exact lv_aload_n hF.1.1 hF.1.2.1 hd rfl h1 h2
theorem pw_istore_n {j : Fin 4} {x : Int32} (hd : decode M.2.1 pc = .ok (.istore_n j, 1)) (hn : (j : Nat) < M.2.2.1) (hi : (j : Nat) < ls.length) (hnl : pm_nl ls (j : Nat) = true) (k : PW d al M (pc + 1) (ls.set (j : Nat) (.int x)) st σ Q) : PW d al M pc ls (.int x :: st) σ Q :=
  fun p l e R s m args below meth c g Z mc ms H locs cells slots lr hF hV => lv_istore_n hF.1.1 hF.1.2.1 hd rfl hV.2.2.2.2 hn rfl (fun lr' h' => k p l e R s m args below meth c g Z mc ms H locs cells slots lr' hF ⟨hV.1, hV.2.1, hV.2.2.1, hV.2.2.2.1, pm_put1 (v := .int x) hi hnl h'⟩)
theorem pw_lstore_n {j : Fin 4} {x : Int64} (hd : decode M.2.1 pc = .ok (.lstore_n j, 1)) (hn : (j : Nat) + 1 < M.2.2.1) (hi : (j : Nat) + 1 < ls.length) (hnl : pm_nl ls (j : Nat) = true) (k : PW d al M (pc + 1) ((ls.set (j : Nat) (.long x)).set ((j : Nat) + 1) (.retAddr 0)) st σ Q) : PW d al M pc ls (.long x :: st) σ Q :=
  fun p l e R s m args below meth c g Z mc ms H locs cells slots lr hF hV => lv_lstore_n hF.1.1 hF.1.2.1 hd rfl hV.2.2.2.2 hn rfl (fun lr' h' => k p l e R s m args below meth c g Z mc ms H locs cells slots lr' hF ⟨hV.1, hV.2.1, hV.2.2.1, hV.2.2.2.1, pm_put2 hi hnl h'⟩)
theorem pw_astore_n {j : Fin 4} {a : Nat} (hd : decode M.2.1 pc = .ok (.astore_n j, 1)) (hn : (j : Nat) < M.2.2.1) (hi : (j : Nat) < ls.length) (hnl : pm_nl ls (j : Nat) = true) (k : PW d al M (pc + 1) (ls.set (j : Nat) (.ref a)) st σ Q) : PW d al M pc ls (.ref a :: st) σ Q := by
  intro p l e R s m args below meth c g Z mc ms H locs cells slots lr hF hV
  have e2 : List.map (pm_tr g) (Value.ref a :: st) = pm_tr g (.ref a) :: st.map (pm_tr g) := rfl
  rw [e2]
  have key : ∀ lr' : Array Slot, lv_has lr' M.2.2.1 (((j : Nat), pm_tr g (.ref a)) :: (pm_prs g 0 ls).filter (fun q => !(q.1 == (j : Nat)) && !(q.1 + 1 == (j : Nat) && q.2.category == 2))) → W p l e R s m args below meth c H locs cells slots Z (F0 m (pc + 1) lr' (st.map (pm_tr g))) := fun lr' h' => k p l e R s m args below meth c g Z mc ms H locs cells slots lr' hF ⟨hV.1, hV.2.1, hV.2.2.1, hV.2.2.2.1, pm_put1 hi hnl h'⟩
  rcases Nat.eq_zero_or_pos a with h0 | h0
  · subst h0
    rw [pm_tr_null] at key ⊢
    exact lv_astore_nN hF.1.1 hF.1.2.1 hd rfl hV.2.2.2.2 hn rfl key
  · rw [pm_tr_ref h0] at key ⊢
    exact lv_astore_n hF.1.1 hF.1.2.1 hd rfl hV.2.2.2.2 hn rfl key
theorem pw_aload {i : Nat} {a : Nat} (hd : decode M.2.1 pc = .ok (.aload i, 2)) (hl : ls[i]? = some (.ref a)) (k : PW d al M (pc + 2) ls (.ref a :: st) σ Q) : PW d al M pc ls st σ Q := by
  intro p l e R s m args below meth c g Z mc ms H locs cells slots lr hF hV
  have h1 := pm_lat hV.2.2.2.2 hl rfl
  have h2 := (k p l e R s m args below meth c g Z mc ms H locs cells slots lr hF hV)
  have e2 : List.map (pm_tr g) (Value.ref a :: st) = pm_tr g (.ref a) :: st.map (pm_tr g) := rfl
  rw [e2] at h2
  rcases Nat.eq_zero_or_pos a with h0 | h0
  · subst h0
    rw [pm_tr_null] at h1 h2
    exact lv_aloadN hF.1.1 hF.1.2.1 hd h1 h2
  · rw [pm_tr_ref h0] at h1 h2
    exact lv_aload hF.1.1 hF.1.2.1 hd h1 h2
theorem pw_istore {i : Nat} {x : Int32} (hd : decode M.2.1 pc = .ok (.istore i, 2)) (hn : i < M.2.2.1) (hi : i < ls.length) (hnl : pm_nl ls i = true) (k : PW d al M (pc + 2) (ls.set i (.int x)) st σ Q) : PW d al M pc ls (.int x :: st) σ Q :=
  fun p l e R s m args below meth c g Z mc ms H locs cells slots lr hF hV => lv_istore hF.1.1 hF.1.2.1 hd hV.2.2.2.2 hn rfl (fun lr' h' => k p l e R s m args below meth c g Z mc ms H locs cells slots lr' hF ⟨hV.1, hV.2.1, hV.2.2.1, hV.2.2.2.1, pm_put1 (v := .int x) hi hnl h'⟩)
theorem pw_lstore {i : Nat} {x : Int64} (hd : decode M.2.1 pc = .ok (.lstore i, 2)) (hn : i + 1 < M.2.2.1) (hi : i + 1 < ls.length) (hnl : pm_nl ls i = true) (k : PW d al M (pc + 2) ((ls.set i (.long x)).set (i + 1) (.retAddr 0)) st σ Q) : PW d al M pc ls (.long x :: st) σ Q :=
  fun p l e R s m args below meth c g Z mc ms H locs cells slots lr hF hV => lv_lstore hF.1.1 hF.1.2.1 hd hV.2.2.2.2 hn rfl (fun lr' h' => k p l e R s m args below meth c g Z mc ms H locs cells slots lr' hF ⟨hV.1, hV.2.1, hV.2.2.1, hV.2.2.2.1, pm_put2 hi hnl h'⟩)
theorem pw_astore {i : Nat} {a : Nat} (hd : decode M.2.1 pc = .ok (.astore i, 2)) (hn : i < M.2.2.1) (hi : i < ls.length) (hnl : pm_nl ls i = true) (k : PW d al M (pc + 2) (ls.set i (.ref a)) st σ Q) : PW d al M pc ls (.ref a :: st) σ Q := by
  intro p l e R s m args below meth c g Z mc ms H locs cells slots lr hF hV
  have e2 : List.map (pm_tr g) (Value.ref a :: st) = pm_tr g (.ref a) :: st.map (pm_tr g) := rfl
  rw [e2]
  have key : ∀ lr' : Array Slot, lv_has lr' M.2.2.1 ((i, pm_tr g (.ref a)) :: (pm_prs g 0 ls).filter (fun q => !(q.1 == i) && !(q.1 + 1 == i && q.2.category == 2))) → W p l e R s m args below meth c H locs cells slots Z (F0 m (pc + 2) lr' (st.map (pm_tr g))) := fun lr' h' => k p l e R s m args below meth c g Z mc ms H locs cells slots lr' hF ⟨hV.1, hV.2.1, hV.2.2.1, hV.2.2.2.1, pm_put1 hi hnl h'⟩
  rcases Nat.eq_zero_or_pos a with h0 | h0
  · subst h0
    rw [pm_tr_null] at key ⊢
    exact lv_astoreN hF.1.1 hF.1.2.1 hd hV.2.2.2.2 hn rfl key
  · rw [pm_tr_ref h0] at key ⊢
    exact lv_astore hF.1.1 hF.1.2.1 hd hV.2.2.2.2 hn rfl key
theorem pw_iinc {i : Nat} {n : Int} {x : Int32} (hd : decode M.2.1 pc = .ok (.iinc i n, 3)) (hl : ls[i]? = some (.int x)) (hn : i < M.2.2.1) (hi : i < ls.length) (hnl : pm_nl ls i = true) (k : PW d al M (pc + 3) (ls.set i (.int (x + Int32.ofInt n))) st σ Q) : PW d al M pc ls st σ Q := by
  intro p l e R s m args below meth c g Z mc ms H locs cells slots lr hF hV
  obtain ⟨j, hj⟩ := List.getElem?_of_mem (pm_prs_mem (g := g) (i := 0).mpr ⟨i, .int x, hl, rfl, by rw [Nat.zero_add]⟩ : (i, pm_tr g (.int x)) ∈ pm_prs g 0 ls)
  exact lv_iinc hF.1.1 hF.1.2.1 hd hV.2.2.2.2 hj rfl hn rfl (fun lr' h' => k p l e R s m args below meth c g Z mc ms H locs cells slots lr' hF ⟨hV.1, hV.2.1, hV.2.2.1, hV.2.2.2.1, pm_put1 (v := .int (x + Int32.ofInt n)) hi hnl h'⟩)
theorem pw_iadd {x y : Int32} (hd : decode M.2.1 pc = .ok (.iadd, 1))  (k : PW d al M (pc + 1) ls (.int (x + y) :: st) σ Q) : PW d al M pc ls (.int y :: .int x :: st) σ Q :=
  fun p l e R s m args below meth c g Z mc ms H locs cells slots lr hF hV => lv_iadd hF.1.1 hF.1.2.1 hd  (k p l e R s m args below meth c g Z mc ms H locs cells slots lr hF hV)
theorem pw_isub {x y : Int32} (hd : decode M.2.1 pc = .ok (.isub, 1))  (k : PW d al M (pc + 1) ls (.int (x - y) :: st) σ Q) : PW d al M pc ls (.int y :: .int x :: st) σ Q :=
  fun p l e R s m args below meth c g Z mc ms H locs cells slots lr hF hV => lv_isub hF.1.1 hF.1.2.1 hd  (k p l e R s m args below meth c g Z mc ms H locs cells slots lr hF hV)
theorem pw_imul {x y : Int32} (hd : decode M.2.1 pc = .ok (.imul, 1))  (k : PW d al M (pc + 1) ls (.int (x * y) :: st) σ Q) : PW d al M pc ls (.int y :: .int x :: st) σ Q :=
  fun p l e R s m args below meth c g Z mc ms H locs cells slots lr hF hV => lv_imul hF.1.1 hF.1.2.1 hd  (k p l e R s m args below meth c g Z mc ms H locs cells slots lr hF hV)
theorem pw_iand {x y : Int32} (hd : decode M.2.1 pc = .ok (.iand, 1))  (k : PW d al M (pc + 1) ls (.int (x &&& y) :: st) σ Q) : PW d al M pc ls (.int y :: .int x :: st) σ Q :=
  fun p l e R s m args below meth c g Z mc ms H locs cells slots lr hF hV => lv_iand hF.1.1 hF.1.2.1 hd  (k p l e R s m args below meth c g Z mc ms H locs cells slots lr hF hV)
theorem pw_ior {x y : Int32} (hd : decode M.2.1 pc = .ok (.ior, 1))  (k : PW d al M (pc + 1) ls (.int (x ||| y) :: st) σ Q) : PW d al M pc ls (.int y :: .int x :: st) σ Q :=
  fun p l e R s m args below meth c g Z mc ms H locs cells slots lr hF hV => lv_ior hF.1.1 hF.1.2.1 hd  (k p l e R s m args below meth c g Z mc ms H locs cells slots lr hF hV)
theorem pw_ixor {x y : Int32} (hd : decode M.2.1 pc = .ok (.ixor, 1))  (k : PW d al M (pc + 1) ls (.int (x ^^^ y) :: st) σ Q) : PW d al M pc ls (.int y :: .int x :: st) σ Q :=
  fun p l e R s m args below meth c g Z mc ms H locs cells slots lr hF hV => lv_ixor hF.1.1 hF.1.2.1 hd  (k p l e R s m args below meth c g Z mc ms H locs cells slots lr hF hV)
theorem pw_ishl {x y : Int32} (hd : decode M.2.1 pc = .ok (.ishl, 1))  (k : PW d al M (pc + 1) ls (.int (x <<< (y &&& 31)) :: st) σ Q) : PW d al M pc ls (.int y :: .int x :: st) σ Q :=
  fun p l e R s m args below meth c g Z mc ms H locs cells slots lr hF hV => lv_ishl hF.1.1 hF.1.2.1 hd  (k p l e R s m args below meth c g Z mc ms H locs cells slots lr hF hV)
theorem pw_ishr {x y : Int32} (hd : decode M.2.1 pc = .ok (.ishr, 1))  (k : PW d al M (pc + 1) ls (.int (x >>> (y &&& 31)) :: st) σ Q) : PW d al M pc ls (.int y :: .int x :: st) σ Q :=
  fun p l e R s m args below meth c g Z mc ms H locs cells slots lr hF hV => lv_ishr hF.1.1 hF.1.2.1 hd  (k p l e R s m args below meth c g Z mc ms H locs cells slots lr hF hV)
theorem pw_iushr {x y : Int32} (hd : decode M.2.1 pc = .ok (.iushr, 1))  (k : PW d al M (pc + 1) ls (.int ((x.toUInt32 >>> (y.toUInt32 &&& Int32.toUInt32 31)).toInt32) :: st) σ Q) : PW d al M pc ls (.int y :: .int x :: st) σ Q :=
  fun p l e R s m args below meth c g Z mc ms H locs cells slots lr hF hV => lv_iushr hF.1.1 hF.1.2.1 hd rfl (k p l e R s m args below meth c g Z mc ms H locs cells slots lr hF hV)
theorem pw_irem {x y : Int32} (hd : decode M.2.1 pc = .ok (.irem, 1)) (hne : ¬ y = 0) (k : PW d al M (pc + 1) ls (.int (x - x / y * y) :: st) σ Q) : PW d al M pc ls (.int y :: .int x :: st) σ Q :=
  fun p l e R s m args below meth c g Z mc ms H locs cells slots lr hF hV => lv_irem hF.1.1 hF.1.2.1 hd hne (k p l e R s m args below meth c g Z mc ms H locs cells slots lr hF hV)
theorem pw_lshl {x : Int64} {y : Int32} (hd : decode M.2.1 pc = .ok (.lshl, 1))  (k : PW d al M (pc + 1) ls (.long (x <<< (y.toInt64 &&& 63)) :: st) σ Q) : PW d al M pc ls (.int y :: .long x :: st) σ Q :=
  fun p l e R s m args below meth c g Z mc ms H locs cells slots lr hF hV => lv_lshl hF.1.1 hF.1.2.1 hd rfl (k p l e R s m args below meth c g Z mc ms H locs cells slots lr hF hV)
theorem pw_lor {x y : Int64} (hd : decode M.2.1 pc = .ok (.lor, 1))  (k : PW d al M (pc + 1) ls (.long (x ||| y) :: st) σ Q) : PW d al M pc ls (.long y :: .long x :: st) σ Q :=
  fun p l e R s m args below meth c g Z mc ms H locs cells slots lr hF hV => lv_lor hF.1.1 hF.1.2.1 hd  (k p l e R s m args below meth c g Z mc ms H locs cells slots lr hF hV)
theorem pw_i2l {x : Int32} (hd : decode M.2.1 pc = .ok (.i2l, 1))  (k : PW d al M (pc + 1) ls (.long x.toInt64 :: st) σ Q) : PW d al M pc ls (.int x :: st) σ Q :=
  fun p l e R s m args below meth c g Z mc ms H locs cells slots lr hF hV => lv_i2l hF.1.1 hF.1.2.1 hd rfl (k p l e R s m args below meth c g Z mc ms H locs cells slots lr hF hV)
theorem pw_i2c {x : Int32} (hd : decode M.2.1 pc = .ok (.i2c, 1))  (k : PW d al M (pc + 1) ls (.int (x.toUInt32 % 65536).toInt32 :: st) σ Q) : PW d al M pc ls (.int x :: st) σ Q :=
  fun p l e R s m args below meth c g Z mc ms H locs cells slots lr hF hV => lv_i2c hF.1.1 hF.1.2.1 hd rfl (k p l e R s m args below meth c g Z mc ms H locs cells slots lr hF hV)
theorem pw_i2b {x : Int32} (hd : decode M.2.1 pc = .ok (.i2b, 1))  (k : PW d al M (pc + 1) ls (.int x.toInt8.toInt32 :: st) σ Q) : PW d al M pc ls (.int x :: st) σ Q :=
  fun p l e R s m args below meth c g Z mc ms H locs cells slots lr hF hV => lv_i2b hF.1.1 hF.1.2.1 hd rfl (k p l e R s m args below meth c g Z mc ms H locs cells slots lr hF hV)
theorem pw_lcmp {x y : Int64} (hd : decode M.2.1 pc = .ok (.lcmp, 1))  (k : PW d al M (pc + 1) ls (.int (lg_cmp x y) :: st) σ Q) : PW d al M pc ls (.long y :: .long x :: st) σ Q :=
  fun p l e R s m args below meth c g Z mc ms H locs cells slots lr hF hV => W.lcmp hF.1.1 hF.1.2.1 hd  (k p l e R s m args below meth c g Z mc ms H locs cells slots lr hF hV)
theorem pw_dup {v : Value} (hd : decode M.2.1 pc = .ok (.dup, 1)) (hc : v.category = 1) (k : PW d al M (pc + 1) ls (v :: v :: st) σ Q) : PW d al M pc ls (v :: st) σ Q :=
  fun p l e R s m args below meth c g Z mc ms H locs cells slots lr hF hV => lv_dup hF.1.1 hF.1.2.1 hd ((pm_tr_cat g v).trans hc) (k p l e R s m args below meth c g Z mc ms H locs cells slots lr hF hV)
theorem pw_dup2 {v u : Value} (hd : decode M.2.1 pc = .ok (.dup2, 1)) (hc : v.category = 1) (hu : u.category = 1) (k : PW d al M (pc + 1) ls (v :: u :: v :: u :: st) σ Q) : PW d al M pc ls (v :: u :: st) σ Q :=
  fun p l e R s m args below meth c g Z mc ms H locs cells slots lr hF hV => lv_dup2_11 hF.1.1 hF.1.2.1 hd ((pm_tr_cat g v).trans hc) ((pm_tr_cat g u).trans hu) (k p l e R s m args below meth c g Z mc ms H locs cells slots lr hF hV)
theorem pw_pop {v : Value} (hd : decode M.2.1 pc = .ok (.pop, 1)) (hc : v.category = 1) (k : PW d al M (pc + 1) ls st σ Q) : PW d al M pc ls (v :: st) σ Q :=
  fun p l e R s m args below meth c g Z mc ms H locs cells slots lr hF hV => lv_pop hF.1.1 hF.1.2.1 hd ((pm_tr_cat g v).trans hc) (k p l e R s m args below meth c g Z mc ms H locs cells slots lr hF hV)
theorem pw_null  (hd : decode M.2.1 pc = .ok (.aconst_null, 1))  (k : PW d al M (pc + 1) ls (.ref 0 :: st) σ Q) : PW d al M pc ls st σ Q :=
  fun p l e R s m args below meth c g Z mc ms H locs cells slots lr hF hV => lv_null hF.1.1 hF.1.2.1 hd  (k p l e R s m args below meth c g Z mc ms H locs cells slots lr hF hV)
theorem pw_goto {off : Int} {tgt : Nat} (hd : decode M.2.1 pc = .ok (.goto off, 3)) (ht : (pc : Int) + off = (tgt : Int)) (k : PW d al M tgt ls st σ Q) : PW d al M pc ls st σ Q :=
  fun p l e R s m args below meth c g Z mc ms H locs cells slots lr hF hV => lv_goto hF.1.1 hF.1.2.1 hd ht (k p l e R s m args below meth c g Z mc ms H locs cells slots lr hF hV)
theorem pw_if_eq {x : Int32} {off : Int} {tgt : Nat} (hd : decode M.2.1 pc = .ok (.ifCond .eq off, 3)) (ht : (pc : Int) + off = (tgt : Int)) (kt : x = 0 → PW d al M tgt ls st σ Q) (kf : ¬ x = 0 → PW d al M (pc + 3) ls st σ Q) : PW d al M pc ls (.int x :: st) σ Q :=
  fun p l e R s m args below meth c g Z mc ms H locs cells slots lr hF hV => lv_if_eq hF.1.1 hF.1.2.1 hd ht (fun h => kt h p l e R s m args below meth c g Z mc ms H locs cells slots lr hF hV) (fun h => kf h p l e R s m args below meth c g Z mc ms H locs cells slots lr hF hV)
theorem pw_if_ne {x : Int32} {off : Int} {tgt : Nat} (hd : decode M.2.1 pc = .ok (.ifCond .ne off, 3)) (ht : (pc : Int) + off = (tgt : Int)) (kt : x ≠ 0 → PW d al M tgt ls st σ Q) (kf : x = 0 → PW d al M (pc + 3) ls st σ Q) : PW d al M pc ls (.int x :: st) σ Q :=
  fun p l e R s m args below meth c g Z mc ms H locs cells slots lr hF hV => lv_if_ne hF.1.1 hF.1.2.1 hd ht (fun h => kt h p l e R s m args below meth c g Z mc ms H locs cells slots lr hF hV) (fun h => kf h p l e R s m args below meth c g Z mc ms H locs cells slots lr hF hV)
theorem pw_if_lt {x : Int32} {off : Int} {tgt : Nat} (hd : decode M.2.1 pc = .ok (.ifCond .lt off, 3)) (ht : (pc : Int) + off = (tgt : Int)) (kt : x < 0 → PW d al M tgt ls st σ Q) (kf : ¬ x < 0 → PW d al M (pc + 3) ls st σ Q) : PW d al M pc ls (.int x :: st) σ Q :=
  fun p l e R s m args below meth c g Z mc ms H locs cells slots lr hF hV => lv_if_lt hF.1.1 hF.1.2.1 hd ht (fun h => kt h p l e R s m args below meth c g Z mc ms H locs cells slots lr hF hV) (fun h => kf h p l e R s m args below meth c g Z mc ms H locs cells slots lr hF hV)
theorem pw_if_ge {x : Int32} {off : Int} {tgt : Nat} (hd : decode M.2.1 pc = .ok (.ifCond .ge off, 3)) (ht : (pc : Int) + off = (tgt : Int)) (kt : 0 ≤ x → PW d al M tgt ls st σ Q) (kf : ¬ 0 ≤ x → PW d al M (pc + 3) ls st σ Q) : PW d al M pc ls (.int x :: st) σ Q :=
  fun p l e R s m args below meth c g Z mc ms H locs cells slots lr hF hV => lv_if_ge hF.1.1 hF.1.2.1 hd ht (fun h => kt h p l e R s m args below meth c g Z mc ms H locs cells slots lr hF hV) (fun h => kf h p l e R s m args below meth c g Z mc ms H locs cells slots lr hF hV)
theorem pw_if_gt {x : Int32} {off : Int} {tgt : Nat} (hd : decode M.2.1 pc = .ok (.ifCond .gt off, 3)) (ht : (pc : Int) + off = (tgt : Int)) (kt : 0 < x → PW d al M tgt ls st σ Q) (kf : ¬ 0 < x → PW d al M (pc + 3) ls st σ Q) : PW d al M pc ls (.int x :: st) σ Q :=
  fun p l e R s m args below meth c g Z mc ms H locs cells slots lr hF hV => lv_if_gt hF.1.1 hF.1.2.1 hd ht (fun h => kt h p l e R s m args below meth c g Z mc ms H locs cells slots lr hF hV) (fun h => kf h p l e R s m args below meth c g Z mc ms H locs cells slots lr hF hV)
theorem pw_if_le {x : Int32} {off : Int} {tgt : Nat} (hd : decode M.2.1 pc = .ok (.ifCond .le off, 3)) (ht : (pc : Int) + off = (tgt : Int)) (kt : x ≤ 0 → PW d al M tgt ls st σ Q) (kf : ¬ x ≤ 0 → PW d al M (pc + 3) ls st σ Q) : PW d al M pc ls (.int x :: st) σ Q :=
  fun p l e R s m args below meth c g Z mc ms H locs cells slots lr hF hV => lv_if_le hF.1.1 hF.1.2.1 hd ht (fun h => kt h p l e R s m args below meth c g Z mc ms H locs cells slots lr hF hV) (fun h => kf h p l e R s m args below meth c g Z mc ms H locs cells slots lr hF hV)
theorem pw_icmp_eq {x y : Int32} {off : Int} {tgt : Nat} (hd : decode M.2.1 pc = .ok (.if_icmp .eq off, 3)) (ht : (pc : Int) + off = (tgt : Int)) (kt : x = y → PW d al M tgt ls st σ Q) (kf : ¬ x = y → PW d al M (pc + 3) ls st σ Q) : PW d al M pc ls (.int y :: .int x :: st) σ Q :=
  fun p l e R s m args below meth c g Z mc ms H locs cells slots lr hF hV => lv_icmp_eq hF.1.1 hF.1.2.1 hd ht (fun h => kt h p l e R s m args below meth c g Z mc ms H locs cells slots lr hF hV) (fun h => kf h p l e R s m args below meth c g Z mc ms H locs cells slots lr hF hV)
theorem pw_icmp_ne {x y : Int32} {off : Int} {tgt : Nat} (hd : decode M.2.1 pc = .ok (.if_icmp .ne off, 3)) (ht : (pc : Int) + off = (tgt : Int)) (kt : x ≠ y → PW d al M tgt ls st σ Q) (kf : x = y → PW d al M (pc + 3) ls st σ Q) : PW d al M pc ls (.int y :: .int x :: st) σ Q :=
  fun p l e R s m args below meth c g Z mc ms H locs cells slots lr hF hV => lv_icmp_ne hF.1.1 hF.1.2.1 hd ht (fun h => kt h p l e R s m args below meth c g Z mc ms H locs cells slots lr hF hV) (fun h => kf h p l e R s m args below meth c g Z mc ms H locs cells slots lr hF hV)
theorem pw_icmp_lt {x y : Int32} {off : Int} {tgt : Nat} (hd : decode M.2.1 pc = .ok (.if_icmp .lt off, 3)) (ht : (pc : Int) + off = (tgt : Int)) (kt : x < y → PW d al M tgt ls st σ Q) (kf : ¬ x < y → PW d al M (pc + 3) ls st σ Q) : PW d al M pc ls (.int y :: .int x :: st) σ Q :=
  fun p l e R s m args below meth c g Z mc ms H locs cells slots lr hF hV => lv_icmp_lt hF.1.1 hF.1.2.1 hd ht (fun h => kt h p l e R s m args below meth c g Z mc ms H locs cells slots lr hF hV) (fun h => kf h p l e R s m args below meth c g Z mc ms H locs cells slots lr hF hV)
theorem pw_icmp_ge {x y : Int32} {off : Int} {tgt : Nat} (hd : decode M.2.1 pc = .ok (.if_icmp .ge off, 3)) (ht : (pc : Int) + off = (tgt : Int)) (kt : y ≤ x → PW d al M tgt ls st σ Q) (kf : ¬ y ≤ x → PW d al M (pc + 3) ls st σ Q) : PW d al M pc ls (.int y :: .int x :: st) σ Q :=
  fun p l e R s m args below meth c g Z mc ms H locs cells slots lr hF hV => lv_icmp_ge hF.1.1 hF.1.2.1 hd ht (fun h => kt h p l e R s m args below meth c g Z mc ms H locs cells slots lr hF hV) (fun h => kf h p l e R s m args below meth c g Z mc ms H locs cells slots lr hF hV)
theorem pw_icmp_gt {x y : Int32} {off : Int} {tgt : Nat} (hd : decode M.2.1 pc = .ok (.if_icmp .gt off, 3)) (ht : (pc : Int) + off = (tgt : Int)) (kt : y < x → PW d al M tgt ls st σ Q) (kf : ¬ y < x → PW d al M (pc + 3) ls st σ Q) : PW d al M pc ls (.int y :: .int x :: st) σ Q :=
  fun p l e R s m args below meth c g Z mc ms H locs cells slots lr hF hV => lv_icmp_gt hF.1.1 hF.1.2.1 hd ht (fun h => kt h p l e R s m args below meth c g Z mc ms H locs cells slots lr hF hV) (fun h => kf h p l e R s m args below meth c g Z mc ms H locs cells slots lr hF hV)
theorem pw_icmp_le {x y : Int32} {off : Int} {tgt : Nat} (hd : decode M.2.1 pc = .ok (.if_icmp .le off, 3)) (ht : (pc : Int) + off = (tgt : Int)) (kt : x ≤ y → PW d al M tgt ls st σ Q) (kf : ¬ x ≤ y → PW d al M (pc + 3) ls st σ Q) : PW d al M pc ls (.int y :: .int x :: st) σ Q :=
  fun p l e R s m args below meth c g Z mc ms H locs cells slots lr hF hV => lv_icmp_le hF.1.1 hF.1.2.1 hd ht (fun h => kt h p l e R s m args below meth c g Z mc ms H locs cells slots lr hF hV) (fun h => kf h p l e R s m args below meth c g Z mc ms H locs cells slots lr hF hV)
theorem pw_ifnull {a : Nat} {off : Int} {tgt : Nat} (hd : decode M.2.1 pc = .ok (.ifnull off, 3)) (ht : (pc : Int) + off = (tgt : Int)) (kt : a = 0 → PW d al M tgt ls st σ Q) (kf : 0 < a → PW d al M (pc + 3) ls st σ Q) : PW d al M pc ls (.ref a :: st) σ Q := by
  intro p l e R s m args below meth c g Z mc ms H locs cells slots lr hF hV
  have e2 : List.map (pm_tr g) (Value.ref a :: st) = pm_tr g (.ref a) :: st.map (pm_tr g) := rfl
  rw [e2]
  rcases Nat.eq_zero_or_pos a with h0 | h0
  · subst h0
    rw [pm_tr_null]
    exact lv_ifnullN hF.1.1 hF.1.2.1 hd ht (kt rfl p l e R s m args below meth c g Z mc ms H locs cells slots lr hF hV)
  · rw [pm_tr_ref h0]
    exact lv_ifnull hF.1.1 hF.1.2.1 hd (kf h0 p l e R s m args below meth c g Z mc ms H locs cells slots lr hF hV)
theorem pw_ifnonnull {a : Nat} {off : Int} {tgt : Nat} (hd : decode M.2.1 pc = .ok (.ifnonnull off, 3)) (ht : (pc : Int) + off = (tgt : Int)) (kt : 0 < a → PW d al M tgt ls st σ Q) (kf : a = 0 → PW d al M (pc + 3) ls st σ Q) : PW d al M pc ls (.ref a :: st) σ Q := by
  intro p l e R s m args below meth c g Z mc ms H locs cells slots lr hF hV
  have e2 : List.map (pm_tr g) (Value.ref a :: st) = pm_tr g (.ref a) :: st.map (pm_tr g) := rfl
  rw [e2]
  rcases Nat.eq_zero_or_pos a with h0 | h0
  · subst h0
    rw [pm_tr_null]
    exact lv_ifnonnullN hF.1.1 hF.1.2.1 hd (kf rfl p l e R s m args below meth c g Z mc ms H locs cells slots lr hF hV)
  · rw [pm_tr_ref h0]
    exact lv_ifnonnull hF.1.1 hF.1.2.1 hd ht (kt h0 p l e R s m args below meth c g Z mc ms H locs cells slots lr hF hV)
theorem pw_tsOut {dflt lo hi : Int} {offs : Array Int} {len : Nat} {x : Int32} {tgt : Nat} (hd : decode M.2.1 pc = .ok (.tableswitch dflt lo hi offs, len)) (h : x.toInt < lo ∨ hi < x.toInt) (ht : (pc : Int) + dflt = (tgt : Int)) (k : PW d al M tgt ls st σ Q) : PW d al M pc ls (.int x :: st) σ Q :=
  fun p l e R s m args below meth c g Z mc ms H locs cells slots lr hF hV => lv_tableOut hF.1.1 hF.1.2.1 hd h ht (k p l e R s m args below meth c g Z mc ms H locs cells slots lr hF hV)
theorem pw_tsIn {dflt lo hi : Int} {offs : Array Int} {len : Nat} {x : Int32} {off : Int} {tgt : Nat} (hd : decode M.2.1 pc = .ok (.tableswitch dflt lo hi offs, len)) (h1 : ¬ x.toInt < lo) (h2 : ¬ hi < x.toInt) (ho : offs[(x.toInt - lo).toNat]? = some off) (ht : (pc : Int) + off = (tgt : Int)) (k : PW d al M tgt ls st σ Q) : PW d al M pc ls (.int x :: st) σ Q :=
  fun p l e R s m args below meth c g Z mc ms H locs cells slots lr hF hV => lv_tableIn hF.1.1 hF.1.2.1 hd h1 h2 ho ht (k p l e R s m args below meth c g Z mc ms H locs cells slots lr hF hV)
theorem pw_lsw {dflt : Int} {ps : Array (Int × Int)} {len : Nat} {x : Int32} {off : Int} {tgt : Nat} (hd : decode M.2.1 pc = .ok (.lookupswitch dflt ps, len)) (hp : (ps.toList.zip (ps.toList.drop 1)).all (fun (a, next) => a.1 < next.1) = true) (ho : Op.lookupswitch.offset ps.toList dflt x.toInt = off) (ht : (pc : Int) + off = (tgt : Int)) (k : PW d al M tgt ls st σ Q) : PW d al M pc ls (.int x :: st) σ Q :=
  fun p l e R s m args below meth c g Z mc ms H locs cells slots lr hF hV => lv_lookup hF.1.1 hF.1.2.1 hd hp ho ht (k p l e R s m args below meth c g Z mc ms H locs cells slots lr hF hV)
theorem pw_ldc {idx : Nat} {v : Int32} (hd : decode M.2.1 pc = .ok (.ldc idx, 2)) (hc : Cond.constant M.1.cls idx v ∈ pm_T) (k : PW d al M (pc + 2) ls (.int v :: st) σ Q) : PW d al M pc ls st σ Q :=
  fun p l e R s m args below meth c g Z mc ms H locs cells slots lr hF hV => lv_ldc hF.1.1 hF.1.2.1 hF.1.2.2.2.2.2.1 (hF.1.2.2.2.2.2.2.1 _ hc) hd (k p l e R s m args below meth c g Z mc ms H locs cells slots lr hF hV)
theorem pw_ldcw {idx : Nat} {v : Int32} (hd : decode M.2.1 pc = .ok (.ldc_w idx, 3)) (hc : Cond.constant M.1.cls idx v ∈ pm_T) (k : PW d al M (pc + 3) ls (.int v :: st) σ Q) : PW d al M pc ls st σ Q :=
  fun p l e R s m args below meth c g Z mc ms H locs cells slots lr hF hV => lv_ldcw hF.1.1 hF.1.2.1 hF.1.2.2.2.2.2.1 (hF.1.2.2.2.2.2.2.1 _ hc) hd (k p l e R s m args below meth c g Z mc ms H locs cells slots lr hF hV)
theorem pw_ldc2 {idx : Nat} {v : Int64} (hd : decode M.2.1 pc = .ok (.ldc2_w idx, 3)) (hc : Cond.constantLong M.1.cls idx v ∈ pm_T) (k : PW d al M (pc + 3) ls (.long v :: st) σ Q) : PW d al M pc ls st σ Q :=
  fun p l e R s m args below meth c g Z mc ms H locs cells slots lr hF hV => lv_ldc2 hF.1.1 hF.1.2.1 hF.1.2.2.2.2.2.1 (hF.1.2.2.2.2.2.2.1 _ hc) hd (k p l e R s m args below meth c g Z mc ms H locs cells slots lr hF hV)
theorem PW.mono {al' : Nat} (h : al ≤ al') (k : PW d al M pc ls st σ Q) : PW d al' M pc ls st σ Q :=
  fun p l e R s m args below meth c g Z mc ms H locs cells slots lr hF hV => k p l e R s m args below meth c g Z mc ms H locs cells slots lr hF ⟨by have := hV.1; omega, by have := hV.2.1; omega, hV.2.2⟩
theorem PW.fr {d' : Nat} (h : d ≤ d') (k : PW d al M pc ls st σ Q) : PW d' al M pc ls st σ Q :=
  fun p l e R s m args below meth c g Z mc ms H locs cells slots lr hF hV => k p l e R s m args below meth c g Z mc ms H locs cells slots lr ⟨hF.1, hF.2.1, Nat.le_trans h hF.2.2.1, by have := hF.2.2.2.1; omega, hF.2.2.2.2⟩ hV
theorem PW.post {Q' : Option Value → pm_S → Prop} (h : ∀ r τ, Q r τ → Q' r τ) (k : PW d al M pc ls st σ Q) : PW d al M pc ls st σ Q' :=
  fun p l e R s m args below meth c g Z mc ms H locs cells slots lr hF hV => k p l e R s m args below meth c g Z mc ms H locs cells slots lr ⟨hF.1, hF.2.1, hF.2.2.1, hF.2.2.2.1, hF.2.2.2.2.1, hF.2.2.2.2.2.1, fun r τ H locs lr pc ins q => hF.2.2.2.2.2.2 r τ H locs lr pc ins (h r τ q)⟩ hV
/-! the end of a method -/
theorem pw_iret {x : Int32} {ty : FieldType} (hd : decode M.2.1 pc = .ok (.ireturn, 1)) (hr : M.2.2.2 = some ty) (hn : narrow ty (.int x) = .int x) (k : Q (some (.int x)) σ) : PW d al M pc ls [.int x] σ Q :=
  fun p l e R s m args below meth c g Z mc ms H locs cells slots lr hF hV => W.widen (by have := hV.1; omega) (by have := hV.2.1; omega) (hF.2.2.2.2.2.2 (some (.int x)) σ H locs lr pc .ireturn k hV.2.2.1 hV.2.2.2.1 hd (Or.inr (Or.inl ⟨ty, x, hr, rfl, rfl, hn⟩)))
theorem pw_vret (hd : decode M.2.1 pc = .ok (.return_, 1)) (hr : M.2.2.2 = none) (k : Q none σ) : PW d al M pc ls [] σ Q :=
  fun p l e R s m args below meth c g Z mc ms H locs cells slots lr hF hV => W.widen (by have := hV.1; omega) (by have := hV.2.1; omega) (hF.2.2.2.2.2.2 none σ H locs lr pc .return_ k hV.2.2.1 hV.2.2.2.1 hd (Or.inl ⟨hr, rfl, rfl⟩))
theorem pw_aret {a : Nat} {ty : FieldType} (hd : decode M.2.1 pc = .ok (.areturn, 1)) (hr : M.2.2.2 = some ty) (ht : (∃ n, ty = .object n) ∨ ∃ t, ty = .array t) (k : Q (some (.ref a)) σ) : PW d al M pc ls [.ref a] σ Q :=
  fun p l e R s m args below meth c g Z mc ms H locs cells slots lr hF hV => W.widen (by have := hV.1; omega) (by have := hV.2.1; omega) (hF.2.2.2.2.2.2 (some (.ref a)) σ H locs lr pc .areturn k hV.2.2.1 hV.2.2.2.1 hd (Or.inr (Or.inr ⟨ty, a, hr, rfl, rfl, ht⟩)))
end PMR
