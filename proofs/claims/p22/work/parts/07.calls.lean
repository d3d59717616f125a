/-! CONTRACTS, starts, ends, calls, throws -/
def Pre (γ : Gm) (w0 : va_W) (sz : Nat) : State → Prop := fun U => U.heap.size = sz ∧ va_P γ.1 vwCl w0 U.heap ∧ va_K γ.1 vwCl (tyIL γ) U ∧ va_D (fun _ => True) w0 ∧ Ex (va_A w0 sz) U U.heap
def PoB (γ : Gm) (A : Nat → Prop) {S : Type} (w1 : S → va_W) : S → State → Prop := fun u t => va_P γ.1 vwCl (w1 u) t.heap ∧ va_D A (w1 u)
def CtI (l : Launch) (γ : Gm) (y : MethodName) (cc : ByteArray) (mL : Nat) (rt : FieldType) (f ll mc ms : Nat) (args : List Value) (w0 : va_W) {S : Type} (Q : Int32 → S → Prop) (w1 : S → va_W) : Prop :=
  ∀ sz : Nat, Met l y (wM y cc mL (some rt)) ({ frames := f, cells := mc, slots := ms, locals := ll } : Room) (va_Pc args (Pre γ w0 sz)) (va_Qi Q (PoB γ (va_A w0 sz) w1) (va_A w0 sz)) mc ms (va_A w0 sz)
def CtV (l : Launch) (γ : Gm) (y : MethodName) (cc : ByteArray) (mL : Nat) (f ll mc ms : Nat) (args : List Value) (w0 : va_W) {S : Type} (Q : S → Prop) (w1 : S → va_W) : Prop :=
  ∀ sz : Nat, Met l y (wM y cc mL none) ({ frames := f, cells := mc, slots := ms, locals := ll } : Room) (va_Pc args (Pre γ w0 sz)) (va_Qv Q (PoB γ (va_A w0 sz) w1) (va_A w0 sz)) mc ms (va_A w0 sz)
/-- nothing comes back by a return -/
def noQ (A : Nat → Prop) : Array Value → State → Outcome → State → Prop := va_Qv (fun _ : Unit => False) (fun _ _ => False) A
def exQ (γ : Gm) (A : Nat → Prop) {S : Type} (X : String → S → Prop) (w1 : S → va_W) : String → State → State → Prop := vx_X (fun u : String × S => X u.1 u.2) (fun E u t => E = u.1 ∧ PoB γ A w1 u.2 t) A
/-- a method that throws -/
def CtX (l : Launch) (γ : Gm) (y : MethodName) (cc : ByteArray) (mL : Nat) (rto : Option FieldType) (f ll : Nat) (args : List Value) (w0 : va_W) {S : Type} (X : String → S → Prop) (w1 : S → va_W) : Prop :=
  ∀ sz : Nat, vx_Met l y (wM y cc mL rto) ({ frames := f, cells := 1, slots := 6, locals := ll } : Room) (va_Pc args (Pre γ w0 sz)) (noQ (va_A w0 sz)) (exQ γ (va_A w0 sz) X w1) 1 6 (va_A w0 sz)
/-- a method with a table that catches all -/
def CtH (l : Launch) (γ : Gm) (y : MethodName) (cc : ByteArray) (mL : Nat) (rt : FieldType) (hh : List (Nat × Nat × Nat × Nat)) (f ll : Nat) (args : List Value) (w0 : va_W) {S : Type} (Q : Int32 → S → Prop) (w1 : S → va_W) : Prop :=
  ∀ sz : Nat, vx_Met l y (wH y cc mL (some rt) hh) ({ frames := f, cells := 1, slots := 6, locals := ll } : Room) (va_Pc args (Pre γ w0 sz)) (va_Qi Q (PoB γ (va_A w0 sz) w1) (va_A w0 sz)) (fun _ _ _ => False) 1 6 (va_A w0 sz)
def RtI (l : Launch) (γ : Gm) (κ : Kx) (cc : ByteArray) (rt : FieldType) (mc ms : Nat) {S : Type} (Q : Int32 → S → Prop) (w1 : S → va_W) : Prop :=
  ∀ (v : Int32) (u : S) (lv : List (Nat × Value)) (k n pc : Nat), decode cc pc = .ok (.ireturn, 1) → narrow rt (.int v) = .int v → k ≤ mc → n ≤ ms → Q v u → G l γ κ (w1 u) lv k n [.int v] pc
def RtV (l : Launch) (γ : Gm) (κ : Kx) (cc : ByteArray) (mc ms : Nat) {S : Type} (Q : S → Prop) (w1 : S → va_W) : Prop :=
  ∀ (u : S) (lv : List (Nat × Value)) (k n pc : Nat), decode cc pc = .ok (.return_, 1) → k ≤ mc → n ≤ ms → Q u → G l γ κ (w1 u) lv k n [] pc
/-- what a body that throws owes -/
def XQ (γ : Gm) (κ : Kx) {S : Type} (X : String → S → Prop) (w1 : S → va_W) : Prop :=
  κ.Q = vx_MQ κ.below (noQ κ.A) (exQ γ κ.A X w1) κ.args κ.s 1 6 κ.A ∧ (∀ x ∈ κ.c.exceptionTable.toList, False) ∧ 1 ≤ κ.R.cells ∧ 6 ≤ κ.R.slots
theorem va_Psub {D : va_G} {cl : List vw_C} {ws ws' : va_W} {H : Heap} (h : va_P D cl ws H) (is : List Nat) (hs : is.map (fun i => ws[i]?) = ws'.map some) : va_P D cl ws' H := by
  intro k q hk
  have h1 : (is.map (fun i => ws[i]?))[k]? = some (some q) := by rw [hs, List.getElem?_map, hk]; rfl
  rw [List.getElem?_map] at h1
  cases hi : is[k]? with
  | none => rw [hi] at h1; cases h1
  | some i => rw [hi] at h1; exact h i q (Option.some.inj h1)
theorem Pre.blind {γ : Gm} {w0 : va_W} {sz : Nat} {args : List Value} : FrameBlind (va_Pc args (Pre γ w0 sz)) := by
  intro a U g mk h
  obtain ⟨h0, h1, h2, h3, h4, h5⟩ := h
  have hW : U.WarmedH (U.calling g mk a).vm := State.WarmedH.refl U
  exact ⟨h0, h1, h2, va_K.moved (u := U) (U := U.calling g mk a) (Vm.Alike.refl U.vm) h3, h4, Ex.warm hW h5⟩
section STARTS
variable {l : Launch} {γ : Gm} {y : MethodName} {cc : ByteArray} {mL f ll mc ms : Nat} {args : List Value} {w0 : va_W} {S : Type}
theorem startI {rt : FieldType} {Q : Int32 → S → Prop} {w1 : S → va_W} (hy : plainName y.cls = true) (hsl : (lg_sl args).length ≤ mL)
    (body : ∀ κ : Kx, Ok γ κ cc mL y.cls f ll → RtI l γ κ cc rt mc ms Q w1 → mc ≤ κ.R.cells ∧ ms ≤ κ.R.slots → κ.meth.name = y.name → G l γ κ w0 (lv_args 0 args) 0 0 [] 0) : CtI l γ y cc mL rt f ll mc ms args w0 Q w1 := by
  intro sz
  refine Met.ofW (cc := cc) (maxL := mL) (ret := some rt) hy rfl ?_
  intro p e s m args' below meth c s₁ B hml hv
  obtain ⟨rfl, hsz, hP, hK, hD0, hE⟩ := hv
  subst hsz
  have hts : ∀ w ∈ wsA, w.before args.toArray s = true := fun w hw => atoms_spec (ws := wM y cc mL (some rt)) B.pre w (List.mem_cons_of_mem _ hw)
  have hl := lv_entry args (n := mL) hsl
  rw [lg_entry_eq]
  generalize ((lg_sl args) ++ List.replicate (mL - (lg_sl args).length) Slot.unset).toArray = ls at hl ⊢
  refine body (p, e, ({ frames := f, cells := mc, slots := ms, locals := ll } : Room), s, m, args.toArray, below, meth, c, MQ below (va_Qi Q (PoB γ (va_A w0 s.heap.size) w1) (va_A w0 s.heap.size)) args.toArray s mc ms (va_A w0 s.heap.size), va_A w0 s.heap.size)
    ⟨B.exec, B.bytes, hml, findClass_of_methodNamed B.named, hts, hK, fun q h => Or.inr h, hE, B.notSynchronized, Nat.le_refl _, Nat.le_refl _⟩ ?_ ⟨Nat.le_refl _, Nat.le_refl _⟩ (name_of_methodNamed B.named B.method).1 s.heap [] ls hP hD0.self va_S.rf (by show lv_has ls c.maxLocals _; rw [hml]; exact hl)
  exact fun v u lv k n pc d hn hk hn' hq H locs ls hP hD hS h => W.widen hk hn' (W.zret B.exec B.bytes B.returns hn (fun t ht hW => ⟨⟨v, u, rfl, hq, by rw [ht]; exact hP, hD⟩, hS.F ht⟩) hS.2.2 d B.notSynchronized)
theorem startV {Q : S → Prop} {w1 : S → va_W} (hy : plainName y.cls = true) (hsl : (lg_sl args).length ≤ mL)
    (body : ∀ κ : Kx, Ok γ κ cc mL y.cls f ll → RtV l γ κ cc mc ms Q w1 → mc ≤ κ.R.cells ∧ ms ≤ κ.R.slots → κ.meth.name = y.name → G l γ κ w0 (lv_args 0 args) 0 0 [] 0) : CtV l γ y cc mL f ll mc ms args w0 Q w1 := by
  intro sz
  refine Met.ofW (cc := cc) (maxL := mL) (ret := none) hy rfl ?_
  intro p e s m args' below meth c s₁ B hml hv
  obtain ⟨rfl, hsz, hP, hK, hD0, hE⟩ := hv
  subst hsz
  have hts : ∀ w ∈ wsA, w.before args.toArray s = true := fun w hw => atoms_spec (ws := wM y cc mL none) B.pre w (List.mem_cons_of_mem _ hw)
  have hl := lv_entry args (n := mL) hsl
  rw [lg_entry_eq]
  generalize ((lg_sl args) ++ List.replicate (mL - (lg_sl args).length) Slot.unset).toArray = ls at hl ⊢
  refine body (p, e, ({ frames := f, cells := mc, slots := ms, locals := ll } : Room), s, m, args.toArray, below, meth, c, MQ below (va_Qv Q (PoB γ (va_A w0 s.heap.size) w1) (va_A w0 s.heap.size)) args.toArray s mc ms (va_A w0 s.heap.size), va_A w0 s.heap.size)
    ⟨B.exec, B.bytes, hml, findClass_of_methodNamed B.named, hts, hK, fun q h => Or.inr h, hE, B.notSynchronized, Nat.le_refl _, Nat.le_refl _⟩ ?_ ⟨Nat.le_refl _, Nat.le_refl _⟩ (name_of_methodNamed B.named B.method).1 s.heap [] ls hP hD0.self va_S.rf (by show lv_has ls c.maxLocals _; rw [hml]; exact hl)
  exact fun u lv k n pc d hk hn' hq H locs ls hP hD hS h => W.widen hk hn' (W.vret B.exec B.bytes B.returns (fun t ht hW => ⟨⟨u, rfl, hq, by rw [ht]; exact hP, hD⟩, hS.F ht⟩) hS.2.2 d B.notSynchronized)
theorem startX {rto : Option FieldType} {X : String → S → Prop} {w1 : S → va_W} (hy : plainName y.cls = true) (hsl : (lg_sl args).length ≤ mL)
    (body : ∀ κ : Kx, Ok γ κ cc mL y.cls f ll → XQ γ κ X w1 → G l γ κ w0 (lv_args 0 args) 0 0 [] 0) : CtX l γ y cc mL rto f ll args w0 X w1 := by
  intro sz
  refine vx_ofW (cc := cc) (maxL := mL) (ret := rto) hy rfl ?_
  intro p e s m args' below meth c s₁ B hml htab hv
  obtain ⟨rfl, hsz, hP, hK, hD0, hE⟩ := hv
  subst hsz
  have hts : ∀ w ∈ wsA, w.before args.toArray s = true := fun w hw => atoms_spec (ws := wM y cc mL rto) B.pre w (List.mem_cons_of_mem _ hw)
  have hl := lv_entry args (n := mL) hsl
  rw [lg_entry_eq]
  generalize ((lg_sl args) ++ List.replicate (mL - (lg_sl args).length) Slot.unset).toArray = ls at hl ⊢
  exact body (p, e, ({ frames := f, cells := 1, slots := 6, locals := ll } : Room), s, m, args.toArray, below, meth, c, vx_MQ below (noQ (va_A w0 s.heap.size)) (exQ γ (va_A w0 s.heap.size) X w1) args.toArray s 1 6 (va_A w0 s.heap.size), va_A w0 s.heap.size)
    ⟨B.exec, B.bytes, hml, findClass_of_methodNamed B.named, hts, hK, fun q h => Or.inr h, hE, B.notSynchronized, Nat.le_refl _, Nat.le_refl _⟩ ⟨rfl, htab, Nat.le_refl _, Nat.le_refl _⟩ s.heap [] ls hP hD0.self va_S.rf (by show lv_has ls c.maxLocals _; rw [hml]; exact hl)
theorem startH {rt : FieldType} {hh : List (Nat × Nat × Nat × Nat)} {Q : Int32 → S → Prop} {w1 : S → va_W} (hy : plainName y.cls = true) (hsl : (lg_sl args).length ≤ mL)
    (body : ∀ κ : Kx, Ok γ κ cc mL y.cls f ll → RtI l γ κ cc rt 1 6 Q w1 → 1 ≤ κ.R.cells ∧ 6 ≤ κ.R.slots → κ.c.exceptionTable.toList = tableOf hh → G l γ κ w0 (lv_args 0 args) 0 0 [] 0) : CtH l γ y cc mL rt hh f ll args w0 Q w1 := by
  intro sz
  refine vx_ofWH (cc := cc) (maxL := mL) (ret := some rt) (hh := hh) hy rfl ?_
  intro p e s m args' below meth c s₁ B hml hv
  obtain ⟨rfl, hsz, hP, hK, hD0, hE⟩ := hv
  subst hsz
  have hts0 := atoms_spec (ws := wH y cc mL (some rt) hh) B.pre
  have hts : ∀ w ∈ wsA, w.before args.toArray s = true := fun w hw => hts0 w (List.mem_cons_of_mem _ hw)
  have hl := lv_entry args (n := mL) hsl
  rw [lg_entry_eq]
  generalize ((lg_sl args) ++ List.replicate (mL - (lg_sl args).length) Slot.unset).toArray = ls at hl ⊢
  refine body (p, e, ({ frames := f, cells := 1, slots := 6, locals := ll } : Room), s, m, args.toArray, below, meth, c, vx_MQ below (va_Qi Q (PoB γ (va_A w0 s.heap.size) w1) (va_A w0 s.heap.size)) (fun _ _ _ => False) args.toArray s 1 6 (va_A w0 s.heap.size), va_A w0 s.heap.size)
    ⟨B.exec, B.bytes, hml, findClass_of_methodNamed B.named, hts, hK, fun q h => Or.inr h, hE, B.notSynchronized, Nat.le_refl _, Nat.le_refl _⟩ ?_ ⟨Nat.le_refl _, Nat.le_refl _⟩ (vx_table (x := y) B (hts0 _ List.mem_cons_self)) s.heap [] ls hP hD0.self va_S.rf (by show lv_has ls c.maxLocals _; rw [hml]; exact hl)
  exact fun v u lv k n pc d hn hk hn' hq H locs ls hP hD hS h => vx_ret (W.widen hk hn' (W.zret B.exec B.bytes B.returns hn (fun t ht hW => ⟨⟨v, u, rfl, hq, by rw [ht]; exact hP, hD⟩, hS.F ht⟩) hS.2.2 d B.notSynchronized))
end STARTS
/-! calls: first the run, then what goes on behind it -/
section RUNS
variable {l : Launch} {γ : Gm} {κ : Kx} {cc : ByteArray} {nL f ll : Nat} {own : String} {k n pc : Nat}
def RunI (l : Launch) (γ : Gm) (κ : Kx) (w0 : va_W) (k n mc ms : Nat) (st : List Value) (pc : Nat) (rest : List Value) {S : Type} (Q : Int32 → S → Prop) (w1 : S → va_W) : Prop :=
  ∀ (H : Heap) (locs : List Loc) (ls : Array Slot), va_P γ.1 vwCl w0 H → va_D (fun _ => True) w0 → Ex (va_A w0 H.size) κ.s H → ls.size = κ.c.maxLocals →
    va_Run κ.pr l κ.en κ.R κ.s κ.m κ.args κ.below κ.meth κ.c H locs k n mc ms (F0 κ.m pc ls st) rest (va_Qi Q (PoB γ (va_A w0 H.size) w1) (va_A w0 H.size) #[]) (va_A w0 H.size)
def RunV (l : Launch) (γ : Gm) (κ : Kx) (w0 : va_W) (k n mc ms : Nat) (st : List Value) (pc : Nat) (rest : List Value) {S : Type} (Q : S → Prop) (w1 : S → va_W) : Prop :=
  ∀ (H : Heap) (locs : List Loc) (ls : Array Slot), va_P γ.1 vwCl w0 H → va_D (fun _ => True) w0 → Ex (va_A w0 H.size) κ.s H → ls.size = κ.c.maxLocals →
    va_Run κ.pr l κ.en κ.R κ.s κ.m κ.args κ.below κ.meth κ.c H locs k n mc ms (F0 κ.m pc ls st) rest (va_Qv Q (PoB γ (va_A w0 H.size) w1) (va_A w0 H.size) #[]) (va_A w0 H.size)
def RunX (l : Launch) (γ : Gm) (κ : Kx) (w0 : va_W) (k n : Nat) (st : List Value) (pc : Nat) (rest : List Value) {S : Type} (X : String → S → Prop) (w1 : S → va_W) : Prop :=
  ∀ (H : Heap) (locs : List Loc) (ls : Array Slot), va_P γ.1 vwCl w0 H → va_D (fun _ => True) w0 → Ex (va_A w0 H.size) κ.s H → ls.size = κ.c.maxLocals →
    vx_Run κ.pr l κ.en κ.R κ.s κ.m κ.args κ.below κ.meth κ.c H locs k n 1 6 (F0 κ.m pc ls st) rest (noQ (va_A w0 H.size) #[]) (exQ γ (va_A w0 H.size) X w1) (va_A w0 H.size)
def RunH (l : Launch) (γ : Gm) (κ : Kx) (w0 : va_W) (k n : Nat) (st : List Value) (pc : Nat) (rest : List Value) {S : Type} (Q : Int32 → S → Prop) (w1 : S → va_W) : Prop :=
  ∀ (H : Heap) (locs : List Loc) (ls : Array Slot), va_P γ.1 vwCl w0 H → va_D (fun _ => True) w0 → Ex (va_A w0 H.size) κ.s H → ls.size = κ.c.maxLocals →
    vx_Run κ.pr l κ.en κ.R κ.s κ.m κ.args κ.below κ.meth κ.c H locs k n 1 6 (F0 κ.m pc ls st) rest (va_Qi Q (PoB γ (va_A w0 H.size) w1) (va_A w0 H.size) #[]) (fun _ _ _ => False) (va_A w0 H.size)
/-- the words of a call -/
def LkV (own : String) (ix : Nat) (y : MethodName) (bytes : ByteArray) (mL : Nat) (rt : Option FieldType) (nA : Nat) : Prop :=
  (Cond.methodLink own ix y ∈ wsA ∧ Cond.instanceMethod y ∈ wsA ∧ Cond.selects y.cls y y ∈ wsA ∧ Cond.initialized y.cls ∈ wsA ∧ Cond.code y bytes mL rt ∈ wsA) ∧ y.cls ≠ "java/lang/invoke/MethodHandle" ∧ y.cls ≠ "java/lang/invoke/VarHandle" ∧ (parseMethodDescriptor y.desc).map (fun d => d.parameters.length) = some nA
def LkS (own : String) (ix : Nat) (y : MethodName) (bytes : ByteArray) (mL : Nat) (rt : Option FieldType) (nA : Nat) : Prop :=
  (Cond.methodLink own ix y ∈ wsA ∧ Cond.static y ∈ wsA ∧ Cond.initialized y.cls ∈ wsA ∧ Cond.code y bytes mL rt ∈ wsA) ∧ y.cls ≠ "java/lang/invoke/MethodHandle" ∧ y.cls ≠ "java/lang/invoke/VarHandle" ∧ (parseMethodDescriptor y.desc).map (fun d => d.parameters.length) = some nA
def LkN (own : String) (ix : Nat) (y : MethodName) (host : String) (bytes : ByteArray) (mL : Nat) (rt : Option FieldType) (nA : Nat) : Prop :=
  (Cond.methodLinkNest own ix y host ∈ exW ∧ Cond.static y ∈ wsA ∧ Cond.initialized y.cls ∈ wsA ∧ Cond.code y bytes mL rt ∈ wsA) ∧ y.cls ≠ "java/lang/invoke/MethodHandle" ∧ y.cls ≠ "java/lang/invoke/VarHandle" ∧ (parseMethodDescriptor y.desc).map (fun d => d.parameters.length) = some nA
def LkIN (own : String) (ix : Nat) (y : MethodName) (host : String) (bytes : ByteArray) (mL : Nat) (nA : Nat) : Prop :=
  (Cond.methodLinkNest own ix y host ∈ exW ∧ Cond.instanceMethod y ∈ wsA ∧ Cond.initialized y.cls ∈ wsA ∧ Cond.code y bytes mL none ∈ wsA) ∧ y.cls ≠ "java/lang/invoke/MethodHandle" ∧ y.cls ≠ "java/lang/invoke/VarHandle" ∧ (parseMethodDescriptor y.desc).map (fun d => d.parameters.length) = some nA
def LkI (own : String) (ix : Nat) (y : MethodName) (bytes : ByteArray) (mL : Nat) (nA : Nat) : Prop :=
  (Cond.methodLink own ix y ∈ wsA ∧ Cond.instanceMethod y ∈ wsA ∧ Cond.initialized y.cls ∈ wsA ∧ Cond.code y bytes mL none ∈ wsA) ∧ y.cls ≠ "java/lang/invoke/MethodHandle" ∧ y.cls ≠ "java/lang/invoke/VarHandle" ∧ (parseMethodDescriptor y.desc).map (fun d => d.parameters.length) = some nA
def LkH (own : String) (ix : Nat) (y : MethodName) (bytes : ByteArray) (mL : Nat) (rt : Option FieldType) (hh : List (Nat × Nat × Nat × Nat)) (nA : Nat) : Prop :=
  (Cond.methodLink own ix y ∈ wsA ∧ Cond.static y ∈ wsA ∧ Cond.initialized y.cls ∈ wsA ∧ Cond.codeWith y bytes mL rt hh ∈ wsA) ∧ y.cls ≠ "java/lang/invoke/MethodHandle" ∧ y.cls ≠ "java/lang/invoke/VarHandle" ∧ (parseMethodDescriptor y.desc).map (fun d => d.parameters.length) = some nA
theorem LkV.good {own : String} {ix : Nat} {y : MethodName} {bytes : ByteArray} {mL nA : Nat} {rt : Option FieldType} (h : LkV own ix y bytes mL rt nA) : GoodIn wsA (wsV own ix y.cls y (wM y bytes mL rt)) := by
  obtain ⟨⟨h1, h2, h3, h4, h5⟩, -⟩ := h
  intro w hw
  unfold wsV at hw
  rcases List.mem_append.mp hw with hw | hw
  · simp only [List.mem_cons, List.not_mem_nil, or_false] at hw
    rcases hw with rfl | rfl | rfl | rfl
    · exact gA _ h1
    · exact gA _ h2
    · exact gA _ h3
    · exact gA _ h4
  · exact gC h5 w hw
theorem LkS.good {own : String} {ix : Nat} {y : MethodName} {bytes : ByteArray} {mL nA : Nat} {rt : Option FieldType} (h : LkS own ix y bytes mL rt nA) : GoodIn wsA (va_wsS own ix y (wM y bytes mL rt)) := by
  obtain ⟨⟨h1, h2, h3, h5⟩, -⟩ := h
  intro w hw
  unfold va_wsS at hw
  rcases List.mem_append.mp hw with hw | hw
  · simp only [List.mem_cons, List.not_mem_nil, or_false] at hw
    rcases hw with rfl | rfl | rfl
    · exact gA _ h1
    · exact gA _ h2
    · exact gA _ h3
  · exact gC h5 w hw
theorem LkH.good {own : String} {ix : Nat} {y : MethodName} {bytes : ByteArray} {mL nA : Nat} {rt : Option FieldType} {hh : List (Nat × Nat × Nat × Nat)} (h : LkH own ix y bytes mL rt hh nA) : GoodIn wsA (va_wsS own ix y (wH y bytes mL rt hh)) := by
  obtain ⟨⟨h1, h2, h3, h5⟩, -⟩ := h
  intro w hw
  unfold va_wsS at hw
  rcases List.mem_append.mp hw with hw | hw
  · simp only [List.mem_cons, List.not_mem_nil, or_false] at hw
    rcases hw with rfl | rfl | rfl
    · exact gA _ h1
    · exact gA _ h2
    · exact gA _ h3
  · exact gC h5 w hw
theorem preOf {w0 : va_W} {H : Heap} {args : List Value} (C : Ok γ κ cc nL own f ll) (hP : va_P γ.1 vwCl w0 H) (hD : va_D (fun _ => True) w0) (hE : Ex (va_A w0 H.size) κ.s H) : ∀ U : State, U.heap = H → κ.s.WarmedH U.vm → va_Pc args (Pre γ w0 H.size) args.toArray U :=
  fun U hU hW => ⟨rfl, by rw [hU], by rw [hU]; exact hP, va_K.moved hW.alike C.2.2.2.2.2.1, hD, by rw [hU]; exact Ex.warm hW hE⟩
variable {y : MethodName} {bytes : ByteArray} {mL fc lc ix nA b mc ms : Nat} {As rest st : List Value} {w0 : va_W} {S : Type}
theorem run_VI (C : Ok γ κ cc nL own f ll) {rt : FieldType} {Q : Int32 → S → Prop} {w1 : S → va_W} (hw : LkV own ix y bytes mL (some rt) nA) (hM : CtI l γ y bytes mL rt fc lc mc ms (.ref b :: As) w0 Q w1) (hf : fc + 1 ≤ f ∧ 8 + (mL + 11) + lc ≤ ll)
    {ci N : Nat} {fs : List Value} {T : u_T} (he : w0[0]? = some (b, .inr (ci, fs))) (hcl : vwCl[ci]? = some (y.cls, T, N)) (hst : st = As.reverse ++ .ref b :: rest) (hlen : As.length = nA) (hcat : (rest.map fun v => v.category).sum ≤ 8) (hk : k + mc ≤ κ.R.cells ∧ n + ms ≤ κ.R.slots)
    (d : decode cc pc = .ok (.invokevirtual ix, 3)) : RunI l γ κ w0 k n mc ms st pc rest Q w1 := fun H locs ls hP hD hE hsz =>
  va_runV (As := As) (rest := rest) (n := nA) ⟨C.1, C.2.1, rfl, C.2.2.2.1, C.2.2.2.2.1⟩ (hM H.size) (cwV nA C.2.2.2.2.1 hw.good rfl rfl rfl ⟨rfl, hw.2.1, hw.2.2.1, hw.2.2.2⟩ ⟨Nat.le_trans hf.1 C.2.2.2.2.2.2.2.2.2.1, Nat.le_trans hf.2 C.2.2.2.2.2.2.2.2.2.2⟩)
    ⟨Pre.blind, va_recv C.2.2.2.2.2.1 hP hcl he, preOf C hP hD hE⟩ rfl hlen hsz hst (lv_room hcat) d hk
theorem run_VV (C : Ok γ κ cc nL own f ll) {Q : S → Prop} {w1 : S → va_W} (hw : LkV own ix y bytes mL none nA) (hM : CtV l γ y bytes mL fc lc mc ms (.ref b :: As) w0 Q w1) (hf : fc + 1 ≤ f ∧ 8 + (mL + 11) + lc ≤ ll)
    {ci N : Nat} {fs : List Value} {T : u_T} (he : w0[0]? = some (b, .inr (ci, fs))) (hcl : vwCl[ci]? = some (y.cls, T, N)) (hst : st = As.reverse ++ .ref b :: rest) (hlen : As.length = nA) (hcat : (rest.map fun v => v.category).sum ≤ 8) (hk : k + mc ≤ κ.R.cells ∧ n + ms ≤ κ.R.slots)
    (d : decode cc pc = .ok (.invokevirtual ix, 3)) : RunV l γ κ w0 k n mc ms st pc rest Q w1 := fun H locs ls hP hD hE hsz =>
  va_runV (As := As) (rest := rest) (n := nA) ⟨C.1, C.2.1, rfl, C.2.2.2.1, C.2.2.2.2.1⟩ (hM H.size) (cwV nA C.2.2.2.2.1 hw.good rfl rfl rfl ⟨rfl, hw.2.1, hw.2.2.1, hw.2.2.2⟩ ⟨Nat.le_trans hf.1 C.2.2.2.2.2.2.2.2.2.1, Nat.le_trans hf.2 C.2.2.2.2.2.2.2.2.2.2⟩)
    ⟨Pre.blind, va_recv C.2.2.2.2.2.1 hP hcl he, preOf C hP hD hE⟩ rfl hlen hsz hst (lv_room hcat) d hk
theorem run_VX (C : Ok γ κ cc nL own f ll) {rto : Option FieldType} {X : String → S → Prop} {w1 : S → va_W} (hw : LkV own ix y bytes mL rto nA) (hM : CtX l γ y bytes mL rto fc lc (.ref b :: As) w0 X w1) (hf : fc + 1 ≤ f ∧ 8 + (mL + 11) + lc ≤ ll)
    {ci N : Nat} {fs : List Value} {T : u_T} (he : w0[0]? = some (b, .inr (ci, fs))) (hcl : vwCl[ci]? = some (y.cls, T, N)) (hst : st = As.reverse ++ .ref b :: rest) (hlen : As.length = nA) (hcat : (rest.map fun v => v.category).sum ≤ 8) (hk : k + 1 ≤ κ.R.cells ∧ n + 6 ≤ κ.R.slots)
    (d : decode cc pc = .ok (.invokevirtual ix, 3)) : RunX l γ κ w0 k n st pc rest X w1 := fun H locs ls hP hD hE hsz =>
  vx_runV (As := As) (rest := rest) (n := nA) ⟨C.1, C.2.1, rfl, C.2.2.2.1, C.2.2.2.2.1⟩ (hM H.size) (cwV nA C.2.2.2.2.1 hw.good rfl rfl rfl ⟨rfl, hw.2.1, hw.2.2.1, hw.2.2.2⟩ ⟨Nat.le_trans hf.1 C.2.2.2.2.2.2.2.2.2.1, Nat.le_trans hf.2 C.2.2.2.2.2.2.2.2.2.2⟩)
    ⟨Pre.blind, va_recv C.2.2.2.2.2.1 hP hcl he, preOf C hP hD hE⟩ rfl hlen hsz hst (lv_room hcat) d hk
theorem run_SI (C : Ok γ κ cc nL own f ll) {rt : FieldType} {Q : Int32 → S → Prop} {w1 : S → va_W} (hw : LkS own ix y bytes mL (some rt) nA) (hM : CtI l γ y bytes mL rt fc lc mc ms As w0 Q w1) (hf : fc + 1 ≤ f ∧ 8 + (mL + 11) + lc ≤ ll)
    (hst : st = As.reverse ++ rest) (hlen : As.length = nA) (hcat : (rest.map fun v => v.category).sum ≤ 8) (hk : k + mc ≤ κ.R.cells ∧ n + ms ≤ κ.R.slots)
    (d : decode cc pc = .ok (.invokestatic ix, 3)) : RunI l γ κ w0 k n mc ms st pc rest Q w1 := fun H locs ls hP hD hE hsz =>
  va_runS (As := As) (rest := rest) (n := nA) ⟨C.1, C.2.1, rfl, C.2.2.2.1, C.2.2.2.2.1⟩ (hM H.size) (va_cwS nA C.2.2.2.2.1 hw.good rfl rfl rfl ⟨hw.2.1, hw.2.2.1, hw.2.2.2⟩ ⟨Nat.le_trans hf.1 C.2.2.2.2.2.2.2.2.2.1, Nat.le_trans hf.2 C.2.2.2.2.2.2.2.2.2.2⟩)
    ⟨Pre.blind, preOf C hP hD hE⟩ rfl hlen hsz hst (lv_room hcat) d hk
theorem run_SV (C : Ok γ κ cc nL own f ll) {Q : S → Prop} {w1 : S → va_W} (hw : LkS own ix y bytes mL none nA) (hM : CtV l γ y bytes mL fc lc mc ms As w0 Q w1) (hf : fc + 1 ≤ f ∧ 8 + (mL + 11) + lc ≤ ll)
    (hst : st = As.reverse ++ rest) (hlen : As.length = nA) (hcat : (rest.map fun v => v.category).sum ≤ 8) (hk : k + mc ≤ κ.R.cells ∧ n + ms ≤ κ.R.slots)
    (d : decode cc pc = .ok (.invokestatic ix, 3)) : RunV l γ κ w0 k n mc ms st pc rest Q w1 := fun H locs ls hP hD hE hsz =>
  va_runS (As := As) (rest := rest) (n := nA) ⟨C.1, C.2.1, rfl, C.2.2.2.1, C.2.2.2.2.1⟩ (hM H.size) (va_cwS nA C.2.2.2.2.1 hw.good rfl rfl rfl ⟨hw.2.1, hw.2.2.1, hw.2.2.2⟩ ⟨Nat.le_trans hf.1 C.2.2.2.2.2.2.2.2.2.1, Nat.le_trans hf.2 C.2.2.2.2.2.2.2.2.2.2⟩)
    ⟨Pre.blind, preOf C hP hD hE⟩ rfl hlen hsz hst (lv_room hcat) d hk
theorem run_SX (C : Ok γ κ cc nL own f ll) {rto : Option FieldType} {X : String → S → Prop} {w1 : S → va_W} (hw : LkS own ix y bytes mL rto nA) (hM : CtX l γ y bytes mL rto fc lc As w0 X w1) (hf : fc + 1 ≤ f ∧ 8 + (mL + 11) + lc ≤ ll)
    (hst : st = As.reverse ++ rest) (hlen : As.length = nA) (hcat : (rest.map fun v => v.category).sum ≤ 8) (hk : k + 1 ≤ κ.R.cells ∧ n + 6 ≤ κ.R.slots)
    (d : decode cc pc = .ok (.invokestatic ix, 3)) : RunX l γ κ w0 k n st pc rest X w1 := fun H locs ls hP hD hE hsz =>
  vx_runS (As := As) (rest := rest) (n := nA) ⟨C.1, C.2.1, rfl, C.2.2.2.1, C.2.2.2.2.1⟩ (hM H.size) (va_cwS nA C.2.2.2.2.1 hw.good rfl rfl rfl ⟨hw.2.1, hw.2.2.1, hw.2.2.2⟩ ⟨Nat.le_trans hf.1 C.2.2.2.2.2.2.2.2.2.1, Nat.le_trans hf.2 C.2.2.2.2.2.2.2.2.2.2⟩)
    ⟨Pre.blind, preOf C hP hD hE⟩ rfl hlen hsz hst (lv_room hcat) d hk
theorem run_SH (C : Ok γ κ cc nL own f ll) {rt : FieldType} {hh : List (Nat × Nat × Nat × Nat)} {Q : Int32 → S → Prop} {w1 : S → va_W} (hw : LkH own ix y bytes mL (some rt) hh nA) (hM : CtH l γ y bytes mL rt hh fc lc As w0 Q w1) (hf : fc + 1 ≤ f ∧ 8 + (mL + 11) + lc ≤ ll)
    (hst : st = As.reverse ++ rest) (hlen : As.length = nA) (hcat : (rest.map fun v => v.category).sum ≤ 8) (hk : k + 1 ≤ κ.R.cells ∧ n + 6 ≤ κ.R.slots)
    (d : decode cc pc = .ok (.invokestatic ix, 3)) : RunH l γ κ w0 k n st pc rest Q w1 := fun H locs ls hP hD hE hsz =>
  vx_runSX (As := As) (rest := rest) (n := nA) ⟨C.1, C.2.1, rfl, C.2.2.2.1, C.2.2.2.2.1⟩ (hM H.size) (vx_cwSW nA C.2.2.2.2.1 hw.good rfl rfl rfl ⟨hw.2.1, hw.2.2.1, hw.2.2.2⟩ ⟨Nat.le_trans hf.1 C.2.2.2.2.2.2.2.2.2.1, Nat.le_trans hf.2 C.2.2.2.2.2.2.2.2.2.2⟩)
    ⟨Pre.blind, preOf C hP hD hE⟩ rfl hlen hsz hst (lv_room hcat) d hk
theorem run_NI (C : Ok γ κ cc nL own f ll) {host : String} {rt : FieldType} {Q : Int32 → S → Prop} {w1 : S → va_W} (hw : LkN own ix y host bytes mL (some rt) nA) (hM : CtI l γ y bytes mL rt fc lc mc ms As w0 Q w1) (hf : fc + 1 ≤ f ∧ 8 + (mL + 11) + lc ≤ ll)
    (hst : st = As.reverse ++ rest) (hlen : As.length = nA) (hcat : (rest.map fun v => v.category).sum ≤ 8) (hk : k + mc ≤ κ.R.cells ∧ n + ms ≤ κ.R.slots)
    (d : decode cc pc = .ok (.invokestatic ix, 3)) : RunI l γ κ w0 k n mc ms st pc rest Q w1 := fun H locs ls hP hD hE hsz =>
  va_runSN (As := As) (rest := rest) (n := nA) (host := host) ⟨C.1, C.2.1, rfl, C.2.2.2.1, C.2.2.2.2.1⟩ (hM H.size) ⟨va_cnB nA C.2.2.2.2.1 (gC hw.1.2.2.2) rfl rfl rfl (hE.1 _ hw.1.1) (C.2.2.2.2.1 _ hw.1.2.2.1) ⟨hw.2.1, hw.2.2.1, hw.2.2.2⟩ ⟨Nat.le_trans hf.1 C.2.2.2.2.2.2.2.2.2.1, Nat.le_trans hf.2 C.2.2.2.2.2.2.2.2.2.2⟩, C.2.2.2.2.1 _ hw.1.2.1, trivial⟩
    ⟨Pre.blind, preOf C hP hD hE⟩ rfl hlen hsz hst (lv_room hcat) d hk
theorem run_INV (C : Ok γ κ cc nL own f ll) {host : String} {Q : S → Prop} {w1 : S → va_W} (hw : LkIN own ix y host bytes mL nA) (hyi : y.name = "<init>") (hM : CtV l γ y bytes mL fc lc mc ms (.ref b :: As) w0 Q w1) (hf : fc + 1 ≤ f ∧ 8 + (mL + 11) + lc ≤ ll)
    (hst : st = As.reverse ++ .ref b :: rest) (hlen : As.length = nA) (hcat : (rest.map fun v => v.category).sum ≤ 8) (hk : k + mc ≤ κ.R.cells ∧ n + ms ≤ κ.R.slots)
    (d : decode cc pc = .ok (.invokespecial ix, 3)) : RunV l γ κ w0 k n mc ms st pc rest Q w1 := fun H locs ls hP hD hE hsz =>
  va_runIN (As := As) (rest := rest) (n := nA) (host := host) ⟨C.1, C.2.1, rfl, C.2.2.2.1, C.2.2.2.2.1⟩ (hM H.size) ⟨va_cnB nA C.2.2.2.2.1 (gC hw.1.2.2.2) rfl rfl rfl (hE.1 _ hw.1.1) (C.2.2.2.2.1 _ hw.1.2.2.1) ⟨hw.2.1, hw.2.2.1, hw.2.2.2⟩ ⟨Nat.le_trans hf.1 C.2.2.2.2.2.2.2.2.2.1, Nat.le_trans hf.2 C.2.2.2.2.2.2.2.2.2.2⟩, hyi, C.2.2.2.2.1 _ hw.1.2.1⟩
    ⟨Pre.blind, preOf C hP hD hE⟩ rfl hlen hsz hst (lv_room hcat) d hk
theorem run_IV (C : Ok γ κ cc nL own f ll) {Q : S → Prop} {w1 : S → va_W} (hw : LkI own ix y bytes mL nA) (hyi : y.name = "<init>") (hM : CtV l γ y bytes mL fc lc mc ms (.ref b :: As) w0 Q w1) (hf : fc + 1 ≤ f ∧ 8 + (mL + 11) + lc ≤ ll)
    (hst : st = As.reverse ++ .ref b :: rest) (hlen : As.length = nA) (hcat : (rest.map fun v => v.category).sum ≤ 8) (hk : k + mc ≤ κ.R.cells ∧ n + ms ≤ κ.R.slots)
    (d : decode cc pc = .ok (.invokespecial ix, 3)) : RunV l γ κ w0 k n mc ms st pc rest Q w1 := fun H locs ls hP hD hE hsz =>
  va_runI (As := As) (rest := rest) (n := nA) ⟨C.1, C.2.1, rfl, C.2.2.2.1, C.2.2.2.2.1⟩ (hM H.size) (cwI nA C.2.2.2.2.1 (gC hw.1.2.2.2) rfl rfl rfl (C.2.2.2.2.1 _ hw.1.2.2.1) (C.2.2.2.2.1 _ hw.1.1) (C.2.2.2.2.1 _ hw.1.2.1) hyi ⟨hw.2.1, hw.2.2.1, hw.2.2.2⟩ ⟨Nat.le_trans hf.1 C.2.2.2.2.2.2.2.2.2.1, Nat.le_trans hf.2 C.2.2.2.2.2.2.2.2.2.2⟩)
    ⟨Pre.blind, preOf C hP hD hE⟩ rfl hlen hsz hst (lv_room hcat) d hk
end RUNS
