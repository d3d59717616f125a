/-! BASE: the words that are good, the surroundings, the judgement G over lists, contracts -/
def wsA : List Cond := lw_tbl.filter goodWord
theorem wA {w : Cond} (n : Nat) (h : lw_tbl[n]? = some w) (g : goodWord w = true) : w ∈ wsA := List.mem_filter.mpr ⟨List.mem_of_getElem? h, g⟩
theorem gA : GoodIn wsA wsA := fun w h => ⟨h, good_of_word (List.mem_filter.mp h).2⟩
def wM (y : MethodName) (cc : ByteArray) (mL : Nat) (rt : Option FieldType) : List Cond := .code y cc mL rt :: wsA
def wH (y : MethodName) (cc : ByteArray) (mL : Nat) (rt : Option FieldType) (hh : List (Nat × Nat × Nat × Nat)) : List Cond := .codeWith y cc mL rt hh :: wsA
theorem gC {w : Cond} (h : w ∈ wsA) : GoodIn wsA (w :: wsA) := fun v hv => (List.mem_cons.mp hv).elim (fun e => e ▸ gA w h) (gA v)
abbrev eIO : String := "java/lang/IndexOutOfBoundsException"
abbrev eIA : String := "java/lang/IllegalArgumentException"
abbrev eIS : String := "java/lang/IllegalStateException"
abbrev eUp : List String := ["java/lang/RuntimeException", "java/lang/Exception"]
/-- words that ride beside the method's own list -/
def exW : List Cond := [.methodLinkNest RX3 11 yX2_init RX3, .methodLinkNest RX3 18 yX0_init RX3, .methodLinkNest RX3 32 yX1_init RX3, .methodLinkNest RX0 22 yX3_isIn RX3, .methodLinkNest RX2 22 yX3_isIn RX3,
  .declares (Bundle.initS "java/lang/RuntimeException"), .declares (Bundle.initS "java/lang/Exception"), .declares (Bundle.initS "java/lang/Throwable"), .castable eIO eIO, .castable eIA eIA, .castable eIS eIS]
def exS : List (Nat × String) := [(58, "there are 10 places"), (70, "the parent is a leaf in use"), (106, "the leaf is closed in the version"), (123, "all weights of the seasons are 0"), (133, "both versions are the same"), (136, "some leaf is closed in the version to copy to"), (146, "all 12 months are seen"), (177, "there is no free leaf"), (182, "the held cells have more than the sum"), (189, "there is no such version"), (195, "there is no such place"), (197, "there is no such account"), (199, "there is no such account with cells"), (201, "there is no such month"), (203, "an argument is out of its range"), (205, "the place is no leaf")]
def exN : List (String × String) := [(eIO, eIS), (eIA, eIS)]
def Ex (A : Nat → Prop) (U : State) (H : Heap) : Prop := (∀ w ∈ exW, va_Nw w U) ∧ (∀ q ∈ exS, ∃ sa : Nat, vk_R RX3 q.1 q.2 sa U) ∧ (∀ q ∈ exN, va_Nc q.1 q.2 U) ∧
  vx_Zq Bundle.tN "UNASSIGNED_STACK" Bundle.steD A U H ∧ vx_Zq Bundle.tN "SUPPRESSED_SENTINEL" Bundle.listD A U H
theorem Ex.warm {A : Nat → Prop} {s U : State} {H : Heap} (hW : s.WarmedH U.vm) (h : Ex A s H) : Ex A U H := by
  obtain ⟨h1, h2, h3, h4, h5⟩ := h
  refine ⟨fun w hw => ?_, fun q hq => ?_, fun q hq => va_Nc.moved hW.alike (h3 q hq), vx_Zq.moved hW.alike h4, vx_Zq.moved hW.alike h5⟩
  · have z := h1 w hw
    simp only [exW, List.mem_cons, List.not_mem_nil, or_false] at hw
    rcases hw with rfl | rfl | rfl | rfl | rfl | rfl | rfl | rfl | rfl | rfl | rfl <;> first | exact va_Nw.warmM hW z | exact va_Nw.warmD hW z | exact va_Nw.warmC hW z
  · obtain ⟨sa, z⟩ := h2 q hq
    exact ⟨sa, vk_R.warm hW z⟩
theorem Ex.kept {A : Nat → Prop} {U : State} {H H1 : Heap} (h : Ex A U H) (hq : ∀ a : Nat, a < H.size → ¬ A a → H1[a]? = H[a]?) : Ex A U H1 := ⟨h.1, h.2.1, h.2.2.1, h.2.2.2.1.kept hq, h.2.2.2.2.kept hq⟩
theorem Ex.narrow {A B : Nat → Prop} {U : State} {H : Heap} (h : Ex A U H) (hAB : ∀ q, B q → A q) : Ex B U H := ⟨h.1, h.2.1, h.2.2.1, h.2.2.2.1.narrow hAB, h.2.2.2.2.narrow hAB⟩
/-- the kinds: where the classes' fields lie, the class of int[], the class of long[] -/
abbrev Gm : Type := va_G × ClassId × ClassId
abbrev tyIL (γ : Gm) : List (ClassId × FieldType) := [(γ.2.1, .int)]
/-- a method's frame, all that stays while its body runs -/
abbrev Kx : Type := Program × Env × Room × State × MethodId × Array Value × List Frame × Method × Code × (State → Prop) × (Nat → Prop)
abbrev Kx.pr (κ : Kx) : Program := κ.1
abbrev Kx.en (κ : Kx) : Env := κ.2.1
abbrev Kx.R (κ : Kx) : Room := κ.2.2.1
abbrev Kx.s (κ : Kx) : State := κ.2.2.2.1
abbrev Kx.m (κ : Kx) : MethodId := κ.2.2.2.2.1
abbrev Kx.args (κ : Kx) : Array Value := κ.2.2.2.2.2.1
abbrev Kx.below (κ : Kx) : List Frame := κ.2.2.2.2.2.2.1
abbrev Kx.meth (κ : Kx) : Method := κ.2.2.2.2.2.2.2.1
abbrev Kx.c (κ : Kx) : Code := κ.2.2.2.2.2.2.2.2.1
abbrev Kx.Q (κ : Kx) : State → Prop := κ.2.2.2.2.2.2.2.2.2.1
abbrev Kx.A (κ : Kx) : Nat → Prop := κ.2.2.2.2.2.2.2.2.2.2
/-- from a heap that holds ws, locals that hold lv, the stack st, at pc, the body comes to its end -/
def G (l : Launch) (γ : Gm) (κ : Kx) (ws : va_W) (lv : List (Nat × Value)) (k n : Nat) (st : List Value) (pc : Nat) : Prop :=
  ∀ (H : Heap) (locs : List Loc) (ls : Array Slot), va_P γ.1 vwCl ws H → va_D κ.A ws → va_S κ.A κ.s.heap H locs → lv_has ls κ.c.maxLocals lv → W κ.pr l κ.en κ.R κ.s κ.m κ.args κ.below κ.meth κ.c H locs k n κ.Q (F0 κ.m pc ls st)
def Ok (γ : Gm) (κ : Kx) (cc : ByteArray) (nL : Nat) (own : String) (f ll : Nat) : Prop :=
  κ.pr.tables.exec = Jvm.exec ∧ κ.c.code = cc ∧ κ.c.maxLocals = nL ∧ κ.s.vm.findClass own = some κ.m.cls ∧ (∀ w ∈ wsA, w.before κ.args κ.s = true) ∧ va_K γ.1 vwCl (tyIL γ) κ.s ∧
  (∀ q, κ.s.heap.size ≤ q → κ.A q) ∧ Ex κ.A κ.s κ.s.heap ∧ κ.meth.locks = false ∧ f ≤ κ.R.frames ∧ ll ≤ κ.R.locals
/-- a local, by its number -/
def lvG : List (Nat × Value) → Nat → Option Value
  | [], _ => none
  | (j, v) :: r, i => cond (Nat.beq j i) (some v) (lvG r i)
theorem lvG_in : ∀ (l : List (Nat × Value)) {i : Nat} {v : Value}, lvG l i = some v → (i, v) ∈ l
  | [], _, _, h => by cases h
  | (j, w) :: r, i, v, h => by
    unfold lvG at h
    cases hb : Nat.beq j i with
    | true =>
      rw [hb] at h
      cases h
      have e := Nat.eq_of_beq_eq_true hb
      subst e
      exact List.mem_cons_self
    | false =>
      rw [hb] at h
      exact List.mem_cons_of_mem _ (lvG_in r h)
theorem lvG_at {ls : Array Slot} {nL : Nat} {l : List (Nat × Value)} (h : lv_has ls nL l) {i : Nat} {v : Value} (hk : lvG l i = some v) : ls[i]? = some (.val v) := h.2.2 (i, v) (lvG_in l hk)
abbrev lvS (i : Nat) (v : Value) (lv : List (Nat × Value)) : List (Nat × Value) := (i, v) :: lv.filter (fun q => !(q.1 == i) && !(q.1 + 1 == i && q.2.category == 2))
abbrev lvS2 (i : Nat) (v : Value) (lv : List (Nat × Value)) : List (Nat × Value) := (i, v) :: lv.filter (fun q => !(q.1 == i) && (!(q.1 == i + 1) && !(q.1 + 1 == i && q.2.category == 2)))
section GROWS
variable {l : Launch} {γ : Gm} {κ : Kx} {cc : ByteArray} {nL f ll : Nat} {own : String} {ws ws' : va_W} {lv lv' : List (Nat × Value)} {k n pc pc' : Nat} {st : List Value}
theorem g_sub (is : List Nat) (hl : lv_pick lv is = lv') (kk : G l γ κ ws lv' k n st pc) : G l γ κ ws lv k n st pc := fun H locs ls hP hD hS h => kk H locs ls hP hD hS (lv_sub h is hl)
theorem g_iconst (C : Ok γ κ cc nL own f ll) {z : Int} {v : Int32} (d : decode cc pc = .ok (.iconst z, 1)) (hp : pc' = pc + 1) (hv : Int32.ofInt z = v) (kk : G l γ κ ws lv k n (.int v :: st) pc') : G l γ κ ws lv k n st pc := by
  subst hp
  exact fun H locs ls hP hD hS h => lv_iconst C.1 C.2.1 d hv (kk H locs ls hP hD hS h)
theorem g_bipush (C : Ok γ κ cc nL own f ll) {z : Int} {v : Int32} (d : decode cc pc = .ok (.bipush z, 2)) (hp : pc' = pc + 2) (hv : (Int8.ofInt z).toInt32 = v) (kk : G l γ κ ws lv k n (.int v :: st) pc') : G l γ κ ws lv k n st pc := by
  subst hp
  exact fun H locs ls hP hD hS h => lv_bipush C.1 C.2.1 d hv (kk H locs ls hP hD hS h)
theorem g_sipush (C : Ok γ κ cc nL own f ll) {z : Int} {v : Int32} (d : decode cc pc = .ok (.sipush z, 3)) (hp : pc' = pc + 3) (hv : (Int16.ofInt z).toInt32 = v) (kk : G l γ κ ws lv k n (.int v :: st) pc') : G l γ κ ws lv k n st pc := by
  subst hp
  exact fun H locs ls hP hD hS h => lv_sipush C.1 C.2.1 d hv (kk H locs ls hP hD hS h)
theorem g_lconst (C : Ok γ κ cc nL own f ll) {z : Fin 2} {v : Int64} (d : decode cc pc = .ok (.lconst z, 1)) (hp : pc' = pc + 1) (hv : Int64.ofNat (z : Nat) = v) (kk : G l γ κ ws lv k n (.long v :: st) pc') : G l γ κ ws lv k n st pc := by
  subst hp
  exact fun H locs ls hP hD hS h => lv_lconst C.1 C.2.1 d hv (kk H locs ls hP hD hS h)
theorem g_ldc (C : Ok γ κ cc nL own f ll) {ix : Nat} {v : Int32} (hw : Jvm.Cond.constant own ix v ∈ wsA) (d : decode cc pc = .ok (.ldc ix, 2)) (hp : pc' = pc + 2) (kk : G l γ κ ws lv k n (.int v :: st) pc') : G l γ κ ws lv k n st pc := by
  subst hp
  exact fun H locs ls hP hD hS h => lv_ldc C.1 C.2.1 C.2.2.2.1 (C.2.2.2.2.1 _ hw) d (kk H locs ls hP hD hS h)
theorem g_ldcw (C : Ok γ κ cc nL own f ll) {ix : Nat} {v : Int32} (hw : Jvm.Cond.constant own ix v ∈ wsA) (d : decode cc pc = .ok (.ldc_w ix, 3)) (hp : pc' = pc + 3) (kk : G l γ κ ws lv k n (.int v :: st) pc') : G l γ κ ws lv k n st pc := by
  subst hp
  exact fun H locs ls hP hD hS h => lv_ldcw C.1 C.2.1 C.2.2.2.1 (C.2.2.2.2.1 _ hw) d (kk H locs ls hP hD hS h)
theorem g_iload_n (C : Ok γ κ cc nL own f ll) {i : Fin 4} {j : Nat} {x : Int32} (d : decode cc pc = .ok (.iload_n i, 1)) (hp : pc' = pc + 1) (hi : (i : Nat) = j) (h : lvG lv j = some (.int x)) (kk : G l γ κ ws lv k n (.int x :: st) pc') : G l γ κ ws lv k n st pc := by
  subst hp
  exact fun H locs ls hP hD hS hl => lv_iload_n C.1 C.2.1 d hi (lvG_at hl h) (kk H locs ls hP hD hS hl)
theorem g_iload (C : Ok γ κ cc nL own f ll) {j : Nat} {x : Int32} (d : decode cc pc = .ok (.iload j, 2)) (hp : pc' = pc + 2) (h : lvG lv j = some (.int x)) (kk : G l γ κ ws lv k n (.int x :: st) pc') : G l γ κ ws lv k n st pc := by
  subst hp
  exact fun H locs ls hP hD hS hl => lv_iload C.1 C.2.1 d (lvG_at hl h) (kk H locs ls hP hD hS hl)
theorem g_lload_n (C : Ok γ κ cc nL own f ll) {i : Fin 4} {j : Nat} {x : Int64} (d : decode cc pc = .ok (.lload_n i, 1)) (hp : pc' = pc + 1) (hi : (i : Nat) = j) (h : lvG lv j = some (.long x)) (kk : G l γ κ ws lv k n (.long x :: st) pc') : G l γ κ ws lv k n st pc := by
  subst hp
  exact fun H locs ls hP hD hS hl => lv_lload_n C.1 C.2.1 d hi (lvG_at hl h) (kk H locs ls hP hD hS hl)
theorem g_aload_n (C : Ok γ κ cc nL own f ll) {i : Fin 4} {j : Nat} {x : Nat} (d : decode cc pc = .ok (.aload_n i, 1)) (hp : pc' = pc + 1) (hi : (i : Nat) = j) (h : lvG lv j = some (.ref x)) (kk : G l γ κ ws lv k n (.ref x :: st) pc') : G l γ κ ws lv k n st pc := by
  subst hp
  exact fun H locs ls hP hD hS hl => lv_aload_n C.1 C.2.1 d hi (lvG_at hl h) (kk H locs ls hP hD hS hl)
theorem g_aload (C : Ok γ κ cc nL own f ll) {j : Nat} {x : Nat} (d : decode cc pc = .ok (.aload j, 2)) (hp : pc' = pc + 2) (h : lvG lv j = some (.ref x)) (kk : G l γ κ ws lv k n (.ref x :: st) pc') : G l γ κ ws lv k n st pc := by
  subst hp
  exact fun H locs ls hP hD hS hl => lv_aload C.1 C.2.1 d (lvG_at hl h) (kk H locs ls hP hD hS hl)
theorem g_istore_n (C : Ok γ κ cc nL own f ll) {i : Fin 4} {j : Nat} {x : Int32} (d : decode cc pc = .ok (.istore_n i, 1)) (hp : pc' = pc + 1) (hi : (i : Nat) = j) (hn : j < nL) (hl : lvS j (.int x) lv = lv') (kk : G l γ κ ws lv' k n st pc') : G l γ κ ws lv k n (.int x :: st) pc := by
  subst hp
  exact fun H locs ls hP hD hS h => lv_istore_n C.1 C.2.1 d hi h (by rw [C.2.2.1]; exact hn) hl (fun ls' h' => kk H locs ls' hP hD hS h')
theorem g_istore (C : Ok γ κ cc nL own f ll) {j : Nat} {x : Int32} (d : decode cc pc = .ok (.istore j, 2)) (hp : pc' = pc + 2) (hn : j < nL) (hl : lvS j (.int x) lv = lv') (kk : G l γ κ ws lv' k n st pc') : G l γ κ ws lv k n (.int x :: st) pc := by
  subst hp
  exact fun H locs ls hP hD hS h => lv_istore C.1 C.2.1 d h (by rw [C.2.2.1]; exact hn) hl (fun ls' h' => kk H locs ls' hP hD hS h')
theorem g_lstore_n (C : Ok γ κ cc nL own f ll) {i : Fin 4} {j : Nat} {x : Int64} (d : decode cc pc = .ok (.lstore_n i, 1)) (hp : pc' = pc + 1) (hi : (i : Nat) = j) (hn : j + 1 < nL) (hl : lvS2 j (.long x) lv = lv') (kk : G l γ κ ws lv' k n st pc') : G l γ κ ws lv k n (.long x :: st) pc := by
  subst hp
  exact fun H locs ls hP hD hS h => lv_lstore_n C.1 C.2.1 d hi h (by rw [C.2.2.1]; exact hn) hl (fun ls' h' => kk H locs ls' hP hD hS h')
theorem g_astore_n (C : Ok γ κ cc nL own f ll) {i : Fin 4} {j : Nat} {x : Nat} (d : decode cc pc = .ok (.astore_n i, 1)) (hp : pc' = pc + 1) (hi : (i : Nat) = j) (hn : j < nL) (hl : lvS j (.ref x) lv = lv') (kk : G l γ κ ws lv' k n st pc') : G l γ κ ws lv k n (.ref x :: st) pc := by
  subst hp
  exact fun H locs ls hP hD hS h => lv_astore_n C.1 C.2.1 d hi h (by rw [C.2.2.1]; exact hn) hl (fun ls' h' => kk H locs ls' hP hD hS h')
theorem g_astore (C : Ok γ κ cc nL own f ll) {j : Nat} {x : Nat} (d : decode cc pc = .ok (.astore j, 2)) (hp : pc' = pc + 2) (hn : j < nL) (hl : lvS j (.ref x) lv = lv') (kk : G l γ κ ws lv' k n st pc') : G l γ κ ws lv k n (.ref x :: st) pc := by
  subst hp
  exact fun H locs ls hP hD hS h => lv_astore C.1 C.2.1 d h (by rw [C.2.2.1]; exact hn) hl (fun ls' h' => kk H locs ls' hP hD hS h')
theorem g_iinc (C : Ok γ κ cc nL own f ll) {j : Nat} {z : Int} {x v : Int32} (d : decode cc pc = .ok (.iinc j z, 3)) (hp : pc' = pc + 3) (hg : lvG lv j = some (.int x)) (hv : x + Int32.ofInt z = v) (hn : j < nL) (hl : lvS j (.int v) lv = lv') (kk : G l γ κ ws lv' k n st pc') : G l γ κ ws lv k n st pc := by
  subst hp
  intro H locs ls hP hD hS h
  obtain ⟨i, hi⟩ := List.getElem?_of_mem (lvG_in lv hg)
  exact lv_iinc C.1 C.2.1 d h (k := i) hi hv (by rw [C.2.2.1]; exact hn) hl (fun ls' h' => kk H locs ls' hP hD hS h')
theorem g_iadd (C : Ok γ κ cc nL own f ll) {x y : Int32} (d : decode cc pc = .ok (.iadd, 1)) (hp : pc' = pc + 1) (kk : G l γ κ ws lv k n (.int (x + y) :: st) pc') : G l γ κ ws lv k n (.int y :: .int x :: st) pc := by
  subst hp
  exact fun H locs ls hP hD hS h => lv_iadd C.1 C.2.1 d (kk H locs ls hP hD hS h)
theorem g_isub (C : Ok γ κ cc nL own f ll) {x y : Int32} (d : decode cc pc = .ok (.isub, 1)) (hp : pc' = pc + 1) (kk : G l γ κ ws lv k n (.int (x - y) :: st) pc') : G l γ κ ws lv k n (.int y :: .int x :: st) pc := by
  subst hp
  exact fun H locs ls hP hD hS h => lv_isub C.1 C.2.1 d (kk H locs ls hP hD hS h)
theorem g_imul (C : Ok γ κ cc nL own f ll) {x y : Int32} (d : decode cc pc = .ok (.imul, 1)) (hp : pc' = pc + 1) (kk : G l γ κ ws lv k n (.int (x * y) :: st) pc') : G l γ κ ws lv k n (.int y :: .int x :: st) pc := by
  subst hp
  exact fun H locs ls hP hD hS h => lv_imul C.1 C.2.1 d (kk H locs ls hP hD hS h)
theorem g_irem (C : Ok γ κ cc nL own f ll) {x y : Int32} (d : decode cc pc = .ok (.irem, 1)) (hp : pc' = pc + 1) (hne : ¬ y = 0) (kk : G l γ κ ws lv k n (.int (x - x / y * y) :: st) pc') : G l γ κ ws lv k n (.int y :: .int x :: st) pc := by
  subst hp
  exact fun H locs ls hP hD hS h => lv_irem C.1 C.2.1 d hne (kk H locs ls hP hD hS h)
theorem g_iand (C : Ok γ κ cc nL own f ll) {x y : Int32} (d : decode cc pc = .ok (.iand, 1)) (hp : pc' = pc + 1) (kk : G l γ κ ws lv k n (.int (x &&& y) :: st) pc') : G l γ κ ws lv k n (.int y :: .int x :: st) pc := by
  subst hp
  exact fun H locs ls hP hD hS h => lv_iand C.1 C.2.1 d (kk H locs ls hP hD hS h)
theorem g_ior (C : Ok γ κ cc nL own f ll) {x y : Int32} (d : decode cc pc = .ok (.ior, 1)) (hp : pc' = pc + 1) (kk : G l γ κ ws lv k n (.int (x ||| y) :: st) pc') : G l γ κ ws lv k n (.int y :: .int x :: st) pc := by
  subst hp
  exact fun H locs ls hP hD hS h => lv_ior C.1 C.2.1 d (kk H locs ls hP hD hS h)
theorem g_ixor (C : Ok γ κ cc nL own f ll) {x y : Int32} (d : decode cc pc = .ok (.ixor, 1)) (hp : pc' = pc + 1) (kk : G l γ κ ws lv k n (.int (x ^^^ y) :: st) pc') : G l γ κ ws lv k n (.int y :: .int x :: st) pc := by
  subst hp
  exact fun H locs ls hP hD hS h => lv_ixor C.1 C.2.1 d (kk H locs ls hP hD hS h)
theorem g_ishl (C : Ok γ κ cc nL own f ll) {x y : Int32} (d : decode cc pc = .ok (.ishl, 1)) (hp : pc' = pc + 1) (kk : G l γ κ ws lv k n (.int (x <<< (y &&& 31)) :: st) pc') : G l γ κ ws lv k n (.int y :: .int x :: st) pc := by
  subst hp
  exact fun H locs ls hP hD hS h => lv_ishl C.1 C.2.1 d (kk H locs ls hP hD hS h)
theorem g_ishr (C : Ok γ κ cc nL own f ll) {x y : Int32} (d : decode cc pc = .ok (.ishr, 1)) (hp : pc' = pc + 1) (kk : G l γ κ ws lv k n (.int (x >>> (y &&& 31)) :: st) pc') : G l γ κ ws lv k n (.int y :: .int x :: st) pc := by
  subst hp
  exact fun H locs ls hP hD hS h => lv_ishr C.1 C.2.1 d (kk H locs ls hP hD hS h)
theorem g_iushr (C : Ok γ κ cc nL own f ll) {x y : Int32} (d : decode cc pc = .ok (.iushr, 1)) (hp : pc' = pc + 1) (kk : G l γ κ ws lv k n (.int ((x.toUInt32 >>> (y.toUInt32 &&& Int32.toUInt32 31)).toInt32) :: st) pc') : G l γ κ ws lv k n (.int y :: .int x :: st) pc := by
  subst hp
  exact fun H locs ls hP hD hS h => lv_iushr C.1 C.2.1 d rfl (kk H locs ls hP hD hS h)
theorem g_ladd (C : Ok γ κ cc nL own f ll) {x y : Int64} (d : decode cc pc = .ok (.ladd, 1)) (hp : pc' = pc + 1) (kk : G l γ κ ws lv k n (.long (x + y) :: st) pc') : G l γ κ ws lv k n (.long y :: .long x :: st) pc := by
  subst hp
  exact fun H locs ls hP hD hS h => lv_ladd C.1 C.2.1 d (kk H locs ls hP hD hS h)
theorem g_lmul (C : Ok γ κ cc nL own f ll) {x y : Int64} (d : decode cc pc = .ok (.lmul, 1)) (hp : pc' = pc + 1) (kk : G l γ κ ws lv k n (.long (x * y) :: st) pc') : G l γ κ ws lv k n (.long y :: .long x :: st) pc := by
  subst hp
  exact fun H locs ls hP hD hS h => lv_lmul C.1 C.2.1 d (kk H locs ls hP hD hS h)
theorem g_ldiv (C : Ok γ κ cc nL own f ll) {x y : Int64} (d : decode cc pc = .ok (.ldiv, 1)) (hp : pc' = pc + 1) (hne : ¬ y = 0) (kk : G l γ κ ws lv k n (.long (x / y) :: st) pc') : G l γ κ ws lv k n (.long y :: .long x :: st) pc := by
  subst hp
  exact fun H locs ls hP hD hS h => lv_ldiv C.1 C.2.1 d hne (kk H locs ls hP hD hS h)
theorem g_lcmp (C : Ok γ κ cc nL own f ll) {x y : Int64} (d : decode cc pc = .ok (.lcmp, 1)) (hp : pc' = pc + 1) (kk : G l γ κ ws lv k n (.int (lg_cmp x y) :: st) pc') : G l γ κ ws lv k n (.long y :: .long x :: st) pc := by
  subst hp
  exact fun H locs ls hP hD hS h => W.lcmp C.1 C.2.1 d (kk H locs ls hP hD hS h)
theorem g_i2l (C : Ok γ κ cc nL own f ll) {x : Int32} (d : decode cc pc = .ok (.i2l, 1)) (hp : pc' = pc + 1) (kk : G l γ κ ws lv k n (.long x.toInt64 :: st) pc') : G l γ κ ws lv k n (.int x :: st) pc := by
  subst hp
  exact fun H locs ls hP hD hS h => lv_i2l C.1 C.2.1 d rfl (kk H locs ls hP hD hS h)
theorem g_l2i (C : Ok γ κ cc nL own f ll) {x : Int64} (d : decode cc pc = .ok (.l2i, 1)) (hp : pc' = pc + 1) (kk : G l γ κ ws lv k n (.int x.toInt32 :: st) pc') : G l γ κ ws lv k n (.long x :: st) pc := by
  subst hp
  exact fun H locs ls hP hD hS h => lv_l2i C.1 C.2.1 d rfl (kk H locs ls hP hD hS h)
theorem g_dup (C : Ok γ κ cc nL own f ll) {x : Value} (d : decode cc pc = .ok (.dup, 1)) (hp : pc' = pc + 1) (hc : x.category = 1) (kk : G l γ κ ws lv k n (x :: x :: st) pc') : G l γ κ ws lv k n (x :: st) pc := by
  subst hp
  exact fun H locs ls hP hD hS h => lv_dup C.1 C.2.1 d hc (kk H locs ls hP hD hS h)
theorem g_dup2 (C : Ok γ κ cc nL own f ll) {x y : Value} (d : decode cc pc = .ok (.dup2, 1)) (hp : pc' = pc + 1) (hc : x.category = 1) (hc2 : y.category = 1) (kk : G l γ κ ws lv k n (x :: y :: x :: y :: st) pc') : G l γ κ ws lv k n (x :: y :: st) pc := by
  subst hp
  exact fun H locs ls hP hD hS h => lv_dup2_11 C.1 C.2.1 d hc hc2 (kk H locs ls hP hD hS h)
theorem g_pop (C : Ok γ κ cc nL own f ll) {x : Value} (d : decode cc pc = .ok (.pop, 1)) (hp : pc' = pc + 1) (hc : x.category = 1) (kk : G l γ κ ws lv k n st pc') : G l γ κ ws lv k n (x :: st) pc := by
  subst hp
  exact fun H locs ls hP hD hS h => lv_pop C.1 C.2.1 d hc (kk H locs ls hP hD hS h)
theorem g_goto (C : Ok γ κ cc nL own f ll) {off : Int} {tgt : Nat} (d : decode cc pc = .ok (.goto off, 3)) (ht : (pc : Int) + off = (tgt : Int)) (kk : G l γ κ ws lv k n st tgt) : G l γ κ ws lv k n st pc :=
  fun H locs ls hP hD hS h => lv_goto C.1 C.2.1 d ht (kk H locs ls hP hD hS h)
theorem g_if_eq (C : Ok γ κ cc nL own f ll) {x : Int32} {off : Int} {tgt : Nat} (d : decode cc pc = .ok (.ifCond .eq off, 3)) (hp : pc' = pc + 3) (ht : (pc : Int) + off = (tgt : Int)) (kt : x = 0 → G l γ κ ws lv k n st tgt) (kf : ¬ x = 0 → G l γ κ ws lv k n st pc') : G l γ κ ws lv k n (.int x :: st) pc := by
  subst hp
  exact fun H locs ls hP hD hS h => lv_if_eq C.1 C.2.1 d ht (fun c => kt c H locs ls hP hD hS h) (fun c => kf c H locs ls hP hD hS h)
theorem g_icmp_eq (C : Ok γ κ cc nL own f ll) {x y : Int32} {off : Int} {tgt : Nat} (d : decode cc pc = .ok (.if_icmp .eq off, 3)) (hp : pc' = pc + 3) (ht : (pc : Int) + off = (tgt : Int)) (kt : x = y → G l γ κ ws lv k n st tgt) (kf : ¬ x = y → G l γ κ ws lv k n st pc') : G l γ κ ws lv k n (.int y :: .int x :: st) pc := by
  subst hp
  exact fun H locs ls hP hD hS h => lv_icmp_eq C.1 C.2.1 d ht (fun c => kt c H locs ls hP hD hS h) (fun c => kf c H locs ls hP hD hS h)
theorem g_if_ne (C : Ok γ κ cc nL own f ll) {x : Int32} {off : Int} {tgt : Nat} (d : decode cc pc = .ok (.ifCond .ne off, 3)) (hp : pc' = pc + 3) (ht : (pc : Int) + off = (tgt : Int)) (kt : ¬ x = 0 → G l γ κ ws lv k n st tgt) (kf : x = 0 → G l γ κ ws lv k n st pc') : G l γ κ ws lv k n (.int x :: st) pc := by
  subst hp
  exact fun H locs ls hP hD hS h => lv_if_ne C.1 C.2.1 d ht (fun c => kt c H locs ls hP hD hS h) (fun c => kf c H locs ls hP hD hS h)
theorem g_icmp_ne (C : Ok γ κ cc nL own f ll) {x y : Int32} {off : Int} {tgt : Nat} (d : decode cc pc = .ok (.if_icmp .ne off, 3)) (hp : pc' = pc + 3) (ht : (pc : Int) + off = (tgt : Int)) (kt : ¬ x = y → G l γ κ ws lv k n st tgt) (kf : x = y → G l γ κ ws lv k n st pc') : G l γ κ ws lv k n (.int y :: .int x :: st) pc := by
  subst hp
  exact fun H locs ls hP hD hS h => lv_icmp_ne C.1 C.2.1 d ht (fun c => kt c H locs ls hP hD hS h) (fun c => kf c H locs ls hP hD hS h)
theorem g_if_lt (C : Ok γ κ cc nL own f ll) {x : Int32} {off : Int} {tgt : Nat} (d : decode cc pc = .ok (.ifCond .lt off, 3)) (hp : pc' = pc + 3) (ht : (pc : Int) + off = (tgt : Int)) (kt : x < 0 → G l γ κ ws lv k n st tgt) (kf : ¬ x < 0 → G l γ κ ws lv k n st pc') : G l γ κ ws lv k n (.int x :: st) pc := by
  subst hp
  exact fun H locs ls hP hD hS h => lv_if_lt C.1 C.2.1 d ht (fun c => kt c H locs ls hP hD hS h) (fun c => kf c H locs ls hP hD hS h)
theorem g_icmp_lt (C : Ok γ κ cc nL own f ll) {x y : Int32} {off : Int} {tgt : Nat} (d : decode cc pc = .ok (.if_icmp .lt off, 3)) (hp : pc' = pc + 3) (ht : (pc : Int) + off = (tgt : Int)) (kt : x < y → G l γ κ ws lv k n st tgt) (kf : ¬ x < y → G l γ κ ws lv k n st pc') : G l γ κ ws lv k n (.int y :: .int x :: st) pc := by
  subst hp
  exact fun H locs ls hP hD hS h => lv_icmp_lt C.1 C.2.1 d ht (fun c => kt c H locs ls hP hD hS h) (fun c => kf c H locs ls hP hD hS h)
theorem g_if_ge (C : Ok γ κ cc nL own f ll) {x : Int32} {off : Int} {tgt : Nat} (d : decode cc pc = .ok (.ifCond .ge off, 3)) (hp : pc' = pc + 3) (ht : (pc : Int) + off = (tgt : Int)) (kt : 0 ≤ x → G l γ κ ws lv k n st tgt) (kf : ¬ 0 ≤ x → G l γ κ ws lv k n st pc') : G l γ κ ws lv k n (.int x :: st) pc := by
  subst hp
  exact fun H locs ls hP hD hS h => lv_if_ge C.1 C.2.1 d ht (fun c => kt c H locs ls hP hD hS h) (fun c => kf c H locs ls hP hD hS h)
theorem g_icmp_ge (C : Ok γ κ cc nL own f ll) {x y : Int32} {off : Int} {tgt : Nat} (d : decode cc pc = .ok (.if_icmp .ge off, 3)) (hp : pc' = pc + 3) (ht : (pc : Int) + off = (tgt : Int)) (kt : y ≤ x → G l γ κ ws lv k n st tgt) (kf : ¬ y ≤ x → G l γ κ ws lv k n st pc') : G l γ κ ws lv k n (.int y :: .int x :: st) pc := by
  subst hp
  exact fun H locs ls hP hD hS h => lv_icmp_ge C.1 C.2.1 d ht (fun c => kt c H locs ls hP hD hS h) (fun c => kf c H locs ls hP hD hS h)
theorem g_if_gt (C : Ok γ κ cc nL own f ll) {x : Int32} {off : Int} {tgt : Nat} (d : decode cc pc = .ok (.ifCond .gt off, 3)) (hp : pc' = pc + 3) (ht : (pc : Int) + off = (tgt : Int)) (kt : 0 < x → G l γ κ ws lv k n st tgt) (kf : ¬ 0 < x → G l γ κ ws lv k n st pc') : G l γ κ ws lv k n (.int x :: st) pc := by
  subst hp
  exact fun H locs ls hP hD hS h => lv_if_gt C.1 C.2.1 d ht (fun c => kt c H locs ls hP hD hS h) (fun c => kf c H locs ls hP hD hS h)
theorem g_icmp_gt (C : Ok γ κ cc nL own f ll) {x y : Int32} {off : Int} {tgt : Nat} (d : decode cc pc = .ok (.if_icmp .gt off, 3)) (hp : pc' = pc + 3) (ht : (pc : Int) + off = (tgt : Int)) (kt : y < x → G l γ κ ws lv k n st tgt) (kf : ¬ y < x → G l γ κ ws lv k n st pc') : G l γ κ ws lv k n (.int y :: .int x :: st) pc := by
  subst hp
  exact fun H locs ls hP hD hS h => lv_icmp_gt C.1 C.2.1 d ht (fun c => kt c H locs ls hP hD hS h) (fun c => kf c H locs ls hP hD hS h)
theorem g_if_le (C : Ok γ κ cc nL own f ll) {x : Int32} {off : Int} {tgt : Nat} (d : decode cc pc = .ok (.ifCond .le off, 3)) (hp : pc' = pc + 3) (ht : (pc : Int) + off = (tgt : Int)) (kt : x ≤ 0 → G l γ κ ws lv k n st tgt) (kf : ¬ x ≤ 0 → G l γ κ ws lv k n st pc') : G l γ κ ws lv k n (.int x :: st) pc := by
  subst hp
  exact fun H locs ls hP hD hS h => lv_if_le C.1 C.2.1 d ht (fun c => kt c H locs ls hP hD hS h) (fun c => kf c H locs ls hP hD hS h)
theorem g_icmp_le (C : Ok γ κ cc nL own f ll) {x y : Int32} {off : Int} {tgt : Nat} (d : decode cc pc = .ok (.if_icmp .le off, 3)) (hp : pc' = pc + 3) (ht : (pc : Int) + off = (tgt : Int)) (kt : x ≤ y → G l γ κ ws lv k n st tgt) (kf : ¬ x ≤ y → G l γ κ ws lv k n st pc') : G l γ κ ws lv k n (.int y :: .int x :: st) pc := by
  subst hp
  exact fun H locs ls hP hD hS h => lv_icmp_le C.1 C.2.1 d ht (fun c => kt c H locs ls hP hD hS h) (fun c => kf c H locs ls hP hD hS h)
theorem g_get (C : Ok γ κ cc nL own f ll) {cls : String} {T : u_T} {N ci kf ix a : Nat} {fs : List Value} {v : Value} (hin : ∀ w ∈ u_ws cls T N, w ∈ wsA) (hc : vwCl[ci]? = some (cls, T, N)) (hk : kf < N) (hw : Cond.fieldLink own ix (T kf).1 (T kf).2.1 (T kf).2.2.1 ∈ wsA)
    (d : decode cc pc = .ok (.getfield ix, 3)) (hp : pc' = pc + 3) (q0 : Nat) (he : ws[q0]? = some (a, .inr (ci, fs))) (hv : fs[kf]? = some v) (kk : G l γ κ ws lv k n (v :: st) pc') : G l γ κ ws lv k n (.ref a :: st) pc := by
  subst hp
  exact fun H locs ls hP hD hS h => va_get C.1 C.2.1 C.2.2.2.2.1 hin C.2.2.2.1 C.2.2.2.2.2.1 hP q0 he hc kf hk (C.2.2.2.2.1 _ hw) (fun _ h9 => h9) hv d (kk H locs ls hP hD hS h)
theorem g_put (C : Ok γ κ cc nL own f ll) {cls : String} {T : u_T} {N ci kf ix a : Nat} {fs : List Value} {v : Value} {ty : FieldType} (hin : ∀ w ∈ u_ws cls T N, w ∈ wsA) (ty0 : Nat → FieldType) (hty : ∀ k, k < N → parseFieldDescriptor (T k).2.2.1 = some (ty0 k)) (hnm : ∀ a, a < N → ∀ b, b < N → a ≠ b → (T a).2.1 ≠ (T b).2.1)
    (hc : vwCl[ci]? = some (cls, T, N)) (hk : kf < N) (hw : Cond.fieldLink own ix (T kf).1 (T kf).2.1 (T kf).2.2.1 ∈ wsA) (hfin : (T kf).2.2.2 = false) (hd : parseFieldDescriptor (T kf).2.2.1 = some ty)
    (hn : narrow ty v = v) (hfit : fits ty v = true) (d : decode cc pc = .ok (.putfield ix, 3)) (hp : pc' = pc + 3) (q0 : Nat) (he : ws[q0]? = some (a, .inr (ci, fs))) (hl : kf < fs.length) (hws : ws.set q0 (a, .inr (ci, fs.set kf v)) = ws') (kk : G l γ κ ws' lv k n st pc') : G l γ κ ws lv k n (v :: .ref a :: st) pc := by
  subst hp
  subst hws
  exact fun H locs ls hP hD hS h => va_put C.1 C.2.1 C.2.2.2.2.1 hin ty0 hty hnm C.2.2.2.1 C.2.2.2.2.2.1 hP hD hS q0 he hc kf hk (C.2.2.2.2.1 _ hw) (fun _ h9 => h9) hfin hd hn hfit hl d (fun H1 locs1 hP1 hD1 hS1 => kk H1 locs1 ls hP1 hD1 hS1 h)
theorem g_putF (C : Ok γ κ cc nL own f ll) {cls : String} {T : u_T} {N ci kf ix a : Nat} {fs : List Value} {v : Value} {ty : FieldType} (hin : ∀ w ∈ u_ws cls T N, w ∈ wsA) (ty0 : Nat → FieldType) (hty : ∀ k, k < N → parseFieldDescriptor (T k).2.2.1 = some (ty0 k)) (hnm : ∀ a, a < N → ∀ b, b < N → a ≠ b → (T a).2.1 ≠ (T b).2.1)
    (hc : vwCl[ci]? = some (cls, T, N)) (hk : kf < N) (hw : Cond.fieldLink own ix (T kf).1 (T kf).2.1 (T kf).2.2.1 ∈ wsA) (hfin : (T kf).2.2.2 = true) (hdecl : (T kf).1 = own) (hd : parseFieldDescriptor (T kf).2.2.1 = some ty) (hin2 : κ.meth.name = "<init>")
    (hn : narrow ty v = v) (hfit : fits ty v = true) (d : decode cc pc = .ok (.putfield ix, 3)) (hp : pc' = pc + 3) (q0 : Nat) (he : ws[q0]? = some (a, .inr (ci, fs))) (hl : kf < fs.length) (hws : ws.set q0 (a, .inr (ci, fs.set kf v)) = ws') (kk : G l γ κ ws' lv k n st pc') : G l γ κ ws lv k n (v :: .ref a :: st) pc := by
  subst hp
  subst hws
  exact fun H locs ls hP hD hS h => va_putF C.1 C.2.1 C.2.2.2.2.1 hin ty0 hty hnm C.2.2.2.1 C.2.2.2.2.2.1 hP hD hS q0 he hc kf hk (C.2.2.2.2.1 _ hw) (fun _ h9 => h9) hfin hin2 hdecl hd hn hfit hl d (fun H1 locs1 hP1 hD1 hS1 => kk H1 locs1 ls hP1 hD1 hS1 h)
theorem g_iald (C : Ok γ κ cc nL own f ll) {a N : Nat} {fn : Nat → Int32} {i : Int32} (d : decode cc pc = .ok (.iaload, 1)) (hp : pc' = pc + 1) (q0 : Nat) (he : ws[q0]? = some (a, .inl (γ.2.1, N, .inl fn))) (hin : vp_in i N) (kk : G l γ κ ws lv k n (.int (fn i.toNatClampNeg) :: st) pc') : G l γ κ ws lv k n (.int i :: .ref a :: st) pc := by
  subst hp
  exact fun H locs ls hP hD hS h => va_iald C.1 C.2.1 C.2.2.2.2.2.1 hP q0 0 he rfl hin d (kk H locs ls hP hD hS h)
theorem g_iast (C : Ok γ κ cc nL own f ll) {a N : Nat} {fn : Nat → Int32} {i x : Int32} (d : decode cc pc = .ok (.iastore, 1)) (hp : pc' = pc + 1) (q0 : Nat) (he : ws[q0]? = some (a, .inl (γ.2.1, N, .inl fn))) (hin : vp_in i N) (hws : ws.set q0 (a, .inl (γ.2.1, N, .inl (upd fn i.toNatClampNeg x))) = ws') (kk : G l γ κ ws' lv k n st pc') : G l γ κ ws lv k n (.int x :: .int i :: .ref a :: st) pc := by
  subst hp
  subst hws
  exact fun H locs ls hP hD hS h => va_iast C.1 C.2.1 C.2.2.2.2.2.1 hP hD hS q0 0 he rfl hin d (fun H1 locs1 hP1 hD1 hS1 => kk H1 locs1 ls hP1 hD1 hS1 h)
theorem g_alen (C : Ok γ κ cc nL own f ll) {a N : Nat} {fn : Nat → Int32} {v : Int32} (d : decode cc pc = .ok (.arraylength, 1)) (hp : pc' = pc + 1) (q0 : Nat) (he : ws[q0]? = some (a, .inl (γ.2.1, N, .inl fn))) (hv : Int32.ofNat N = v) (kk : G l γ κ ws lv k n (.int v :: st) pc') : G l γ κ ws lv k n (.ref a :: st) pc := by
  subst hp
  exact fun H locs ls hP hD hS h => va_alen C.1 C.2.1 C.2.2.2.2.2.1 hP q0 0 he rfl hv d (kk H locs ls hP hD hS h)
theorem g_widen {k' n' : Nat} (h1 : k ≤ k') (h2 : n ≤ n') (kk : G l γ κ ws lv k' n' st pc) : G l γ κ ws lv k n st pc := fun H locs ls hP hD hS h => W.widen h1 h2 (kk H locs ls hP hD hS h)
end GROWS
