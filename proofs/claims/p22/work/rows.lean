section
-- ===== PART A: goes FIRST, ahead of the names: the tables' words, and 'selects' of the private methods out of them =====
/-- a private method of a class that the tables say can be made, by its rows of tables_1 -/
def lw_okq (q : MethodName × Nat) : Prop := (q.1.cls ≠ "java/lang/invoke/MethodHandle" ∧ q.1.cls ≠ "java/lang/invoke/VarHandle") ∧ Cond.instantiable q.1.cls q.2 ∈ tables_1 ∧ Cond.privateMethod q.1 ∈ tables_1 ∧ Cond.instanceMethod q.1 ∈ tables_1
theorem lw_p0 : lw_okq (⟨"BudgetBook", "checkPlace", "(I)V"⟩, 7) := ⟨⟨by decide +kernel, by decide +kernel⟩, List.mem_of_getElem? (i := 13) (by decide +kernel), List.mem_of_getElem? (i := 99) (by decide +kernel), List.mem_of_getElem? (i := 100) (by decide +kernel)⟩
theorem lw_p1 : lw_okq (⟨"java/lang/Throwable", "fillInStackTrace", "(I)Ljava/lang/Throwable;"⟩, 6) := ⟨⟨by decide +kernel, by decide +kernel⟩, List.mem_of_getElem? (i := 145) (by decide +kernel), List.mem_of_getElem? (i := 143) (by decide +kernel), List.mem_of_getElem? (i := 144) (by decide +kernel)⟩
theorem lw_p2 : lw_okq (⟨"BudgetBook", "checkLeaf", "(I)V"⟩, 7) := ⟨⟨by decide +kernel, by decide +kernel⟩, List.mem_of_getElem? (i := 13) (by decide +kernel), List.mem_of_getElem? (i := 190) (by decide +kernel), List.mem_of_getElem? (i := 191) (by decide +kernel)⟩
theorem lw_p3 : lw_okq (⟨"BudgetBook", "gapOfLeaf", "(IIII)I"⟩, 7) := ⟨⟨by decide +kernel, by decide +kernel⟩, List.mem_of_getElem? (i := 13) (by decide +kernel), List.mem_of_getElem? (i := 305) (by decide +kernel), List.mem_of_getElem? (i := 306) (by decide +kernel)⟩
theorem lw_p4 : lw_okq (⟨"BudgetBook", "isInUse", "(I)Z"⟩, 7) := ⟨⟨by decide +kernel, by decide +kernel⟩, List.mem_of_getElem? (i := 13) (by decide +kernel), List.mem_of_getElem? (i := 334) (by decide +kernel), List.mem_of_getElem? (i := 335) (by decide +kernel)⟩
theorem lw_p5 : lw_okq (⟨"BudgetBook", "checkSpreadable", "(IIII)V"⟩, 7) := ⟨⟨by decide +kernel, by decide +kernel⟩, List.mem_of_getElem? (i := 13) (by decide +kernel), List.mem_of_getElem? (i := 374) (by decide +kernel), List.mem_of_getElem? (i := 375) (by decide +kernel)⟩
theorem lw_p6 : lw_okq (⟨"BudgetBook", "freeAmong", "(III)I"⟩, 7) := ⟨⟨by decide +kernel, by decide +kernel⟩, List.mem_of_getElem? (i := 13) (by decide +kernel), List.mem_of_getElem? (i := 378) (by decide +kernel), List.mem_of_getElem? (i := 379) (by decide +kernel)⟩
theorem lw_p7 : lw_okq (⟨"BudgetBook", "restOf", "(IIII)I"⟩, 7) := ⟨⟨by decide +kernel, by decide +kernel⟩, List.mem_of_getElem? (i := 13) (by decide +kernel), List.mem_of_getElem? (i := 383) (by decide +kernel), List.mem_of_getElem? (i := 384) (by decide +kernel)⟩
theorem lw_p8 : lw_okq (⟨"BudgetBook", "spreadOver", "(IIIII)I"⟩, 7) := ⟨⟨by decide +kernel, by decide +kernel⟩, List.mem_of_getElem? (i := 13) (by decide +kernel), List.mem_of_getElem? (i := 388) (by decide +kernel), List.mem_of_getElem? (i := 389) (by decide +kernel)⟩
theorem lw_p9 : lw_okq (⟨"BudgetBook", "weighLeaves", "(IIII)V"⟩, 7) := ⟨⟨by decide +kernel, by decide +kernel⟩, List.mem_of_getElem? (i := 13) (by decide +kernel), List.mem_of_getElem? (i := 392) (by decide +kernel), List.mem_of_getElem? (i := 393) (by decide +kernel)⟩
def lw_privs_1 : List (MethodName × Nat) := [(⟨"BudgetBook", "checkPlace", "(I)V"⟩, 7), (⟨"java/lang/Throwable", "fillInStackTrace", "(I)Ljava/lang/Throwable;"⟩, 6), (⟨"BudgetBook", "checkLeaf", "(I)V"⟩, 7), (⟨"BudgetBook", "gapOfLeaf", "(IIII)I"⟩, 7), (⟨"BudgetBook", "isInUse", "(I)Z"⟩, 7), (⟨"BudgetBook", "checkSpreadable", "(IIII)V"⟩, 7), (⟨"BudgetBook", "freeAmong", "(III)I"⟩, 7), (⟨"BudgetBook", "restOf", "(IIII)I"⟩, 7), (⟨"BudgetBook", "spreadOver", "(IIIII)I"⟩, 7), (⟨"BudgetBook", "weighLeaves", "(IIII)V"⟩, 7)]
theorem lw_r1 : ∀ q ∈ lw_privs_1, lw_okq q := List.forall_mem_cons.mpr ⟨lw_p0, List.forall_mem_cons.mpr ⟨lw_p1, List.forall_mem_cons.mpr ⟨lw_p2, List.forall_mem_cons.mpr ⟨lw_p3, List.forall_mem_cons.mpr ⟨lw_p4, List.forall_mem_cons.mpr ⟨lw_p5, List.forall_mem_cons.mpr ⟨lw_p6, List.forall_mem_cons.mpr ⟨lw_p7, List.forall_mem_cons.mpr ⟨lw_p8, List.forall_mem_cons.mpr ⟨lw_p9, fun _ h => absurd h List.not_mem_nil⟩⟩⟩⟩⟩⟩⟩⟩⟩⟩
def lw_privs : List (MethodName × Nat) := lw_privs_1
def lw_tbl : List Cond := k2_sels lw_privs ++ tables_1
theorem lw_privs_ok : ∀ q ∈ lw_privs, lw_okq q := lw_r1
-- ===== end of PART A; then your names; then what follows =====
end
section
/-! ===== BEGIN words of one list among another's, by their places ===== -/
theorem goodIn_r {big : List Cond} (ws : List Cond) (ps : List Nat) (hp : ws = ps.filterMap (fun i => big[i]?)) (h : ws.all goodWord = true) : GoodIn big ws := by
  intro w hw
  have h1 := List.all_eq_true.mp h w hw
  rw [hp] at hw
  obtain ⟨i, -, hi⟩ := List.mem_filterMap.mp hw
  have hm : w ∈ big := by first | exact List.mem_of_getElem? hi | exact List.getElem?_mem hi
  exact ⟨hm, good_of_word h1⟩
theorem goodIn_app {big a b : List Cond} (ha : GoodIn big a) (hb : GoodIn big b) : GoodIn big (a ++ b) := fun w h => (List.mem_append.mp h).elim (ha w) (hb w)
theorem goodIn_ca {big a b : List Cond} {c : Cond} (ha : GoodIn big (c :: a)) (hb : GoodIn big b) : GoodIn big (c :: (a ++ b)) := fun w h => (List.mem_cons.mp h).elim (fun e => ha w (List.mem_cons.mpr (Or.inl e))) (fun h => (List.mem_append.mp h).elim (fun h => ha w (List.mem_cons.mpr (Or.inr h))) (hb w))
theorem goodIn_sub {big ws : List Cond} (hm : ∀ w ∈ ws, w ∈ big) (h : ws.all goodWord = true) : GoodIn big ws := fun w hw => ⟨hm w hw, good_of_word (List.all_eq_true.mp h w hw)⟩
/-! ===== END ===== -/

/-! ===== BEGIN exceptions that leave a method, and their catching by the caller (launches without stack traces) ===== -/
section VXA
/-! The laws vx_back, vx_callV, vx_callS, vx_callSW, vx_throw0, vx_throwS follow proofs of the library, with one case more: JvmDerived/Free/Laws.lean (Back.of_free), Shelf42/LK1.lean (callV, callS), Shelf/KitTraced.lean (throwNew0V, throwNewS). -/
/-- where a method has thrown q: the class by its name, the cell, what was written, the world -/
def vx_T (XC : String → State → State → Prop) (st : State) (q : Addr) (t : State) (mc ms : Nat) (free : Addr → Prop) : Prop :=
  ∃ (E : String) (ce : Cell) (L : List Loc), XC E st t ∧ t.heap[q]? = some ce ∧ ce.vm = .none ∧ st.vm.findClass E = some ce.cls ∧ st.WarmedH t.vm ∧ st.sameButNew ({ t with vm := st.vm } : State) L mc ms ∧ ∀ z ∈ L, free z.base
def vx_Q (Qc : Array Value → State → Outcome → State → Prop) (XC : String → State → State → Prop) (mc ms : Nat) (free : Addr → Prop) : Array Value → State → Outcome → State → Prop := fun a st o t =>
  (Qc a st o t ∧ ∃ L, FrameEnd st o t L mc ms ∧ ∀ q ∈ L, free q.base) ∨ ∃ q, o = .threw q ∧ vx_T XC st q t mc ms free
/-- a callee that returns or throws -/
def vx_Met (l : Launch) (y : MethodName) (ws : List Cond) (rm : Room) (Pc : Array Value → State → Prop) (Qc : Array Value → State → Outcome → State → Prop) (XC : String → State → State → Prop) (mc ms : Nat) (free : Addr → Prop) : Prop :=
  MetFree l y (headSpec ws rm) Pc (fun _ _ _ _ _ => True) (vx_Q Qc XC mc ms free)
def vx_Post (XC : String → State → State → Prop) (mc ms : Nat) (free : Addr → Prop) : Pt → Array Value → Addr → Pt → Prop := fun A a q B =>
  ∃ (g : JFrame) (mk : MethodId) (t : State) (L : List Loc) (E : String) (ce : Cell), B.U.heap = t.heap ∧ B.U.vm = t.vm ∧ XC E (A.U.calling g mk a) t ∧ t.heap[q]? = some ce ∧ ce.vm = .none ∧ A.U.vm.findClass E = some ce.cls ∧ B.locs = A.locs ++ L ∧ (∀ z ∈ L, free z.base) ∧ B.cells = A.cells + mc ∧ B.slots = A.slots + ms
def vx_Back (l : Launch) (R : Room) (p : Program) (e : Env) (below : List Frame) (s : State) (sargs : Array Value) (y : MethodName) (len W9 : Nat)
    (Pre : Pt → Array Value → Prop) (Post : Pt → Array Value → Option Value → Pt → Prop) (PostX : Pt → Array Value → Addr → Pt → Prop) : Prop :=
  ∀ (m : MethodId) (meth : Method) (c : Code) (A : Pt) (g : JFrame) (ig : Instr) (mk : MethodId) (a : Array Value),
    Stand p l e R s m sargs below meth c A.U A.locs A.cells A.slots → g.method = m → g.locals.size = c.maxLocals → decode c.code g.pc = .ok (ig, len) →
    2 * g.monitorRoom + (g.stack.map fun v => v.category).sum ≤ W9 → A.U.methodNamed? y = some mk → Pre A a →
    (∃ (v : Option Value) (B : Pt), Stand p l e R s m sargs below meth c B.U B.locs B.cells B.slots ∧ Post A a v B ∧
      Steps p.tables e below (doInvoke e (A.U.setTop g) [] mk a).1 (B.U.setTop { g with pc := g.pc + len, stack := v.toList ++ g.stack })) ∨
    (∃ (q : Addr) (B : Pt), Stand p l e R s m sargs below meth c B.U B.locs B.cells B.slots ∧ PostX A a q B ∧
      Steps p.tables e below (doInvoke e (A.U.setTop g) [] mk a).1 ((B.U.setTop g).pushFrame (.throwing q)))
section Payer
variable {l : Launch} {R : Room} {p : Program} {e : Env} {below : List Frame} {s : State} {sargs : Array Value} {y : MethodName} {len W9 : Nat}
theorem vx_back {ws : List Cond} {rm : Room} {Pc : Array Value → State → Prop} {Qc : Array Value → State → Outcome → State → Prop} {XC : String → State → State → Prop} {mc ms : Nat} {free : Addr → Prop} {bytes : ByteArray} {maxL : Nat} {ret : Option FieldType}
    (hM : vx_Met l y ws rm Pc Qc XC mc ms free) (hblind : FrameBlind Pc) (hrc : rm.cells = mc) (hrs : rm.slots = ms)
    (hframes : rm.frames + 1 ≤ R.frames) (hlocals : W9 + (maxL + 11) + rm.locals ≤ R.locals)
    (hws : ∀ w ∈ ws, ∀ a' U, s.WarmedH U.vm → w.before a' U = true) (hcode : Cond.code y bytes maxL ret ∈ ws) (hinit : ∀ a' U, s.WarmedH U.vm → (Cond.initialized y.cls).before a' U = true) :
    vx_Back l R p e below s sargs y len W9 (PreOf R mc ms Pc) (PostOf Qc mc ms free) (vx_Post XC mc ms free) := by
  intro m meth c A g ig mk a X hg hsize hdg hW hn hp
  have h1 : (headSpec ws rm).pre.before a A.U = true := atoms_intro fun w hw => hws w hw _ _ X.warmed
  have h2 : (Cond.code y bytes maxL ret).before a A.U = true := hws _ hcode _ _ X.warmed
  have h3 : (Cond.initialized y.cls).before a A.U = true := hinit _ _ X.warmed
  have h4 : A.cells + (headSpec ws rm).room.cells ≤ R.cells := by rw [show (headSpec ws rm).room.cells = mc from hrc]; exact hp.1
  have h5 : A.slots + (headSpec ws rm).room.slots ≤ R.slots := by rw [show (headSpec ws rm).room.slots = ms from hrs]; exact hp.2.1
  have hPc : Pc a (A.U.calling g mk a) := hblind _ _ _ _ hp.2.2
  obtain ⟨U, Ls, c0, s0⟩ := A
  dsimp only [Pt.U, Pt.locs, Pt.cells, Pt.slots] at h1 h2 h3 h4 h5 X hn hPc ⊢
  obtain ⟨methY, cY, hmY, hcY, -, hlY, -, -, -, -⟩ := Cond.code_spec hn h2
  obtain ⟨kY, hkY, -⟩ := className_of_methodNamed hn
  have hinitY : kY.init = .initialized := Cond.initialized_spec (findClass_of_methodNamed hn) hkY h3
  have h : At U g.method c below := by rw [hg]; exact X.here
  have hlocals9 : W9 + (maxL + 11) + (headSpec ws rm).room.locals ≤ R.locals := hlocals
  have happ : (headSpec ws rm).appliesLoose y e.platform (U.calling g mk a) = true :=
    Spec.appliesLoose_calling (g := g) h hdg hn hkY hinitY
      (X.room_calling (g := g) (R' := (headSpec ws rm).room) hsize hmY hcY hframes (by rw [hlY]; omega) h4 h5) h1
  obtain ⟨mid, hmid⟩ := h.above
  have hfr : (U.setTop g).frames = (.java g :: mid) ++ below := by rw [State.frames_setTop' g h.top, hmid]; rfl
  obtain ⟨o, s₂, hsteps, -, hend, hq⟩ := Steps.callFree hM p X.admits X.cas X.clock (acts := []) hfr happ hPc trivial
  have hq' : vx_Q Qc XC mc ms free a (U.calling g mk a) o s₂ := hq
  rw [State.frames_setTop' g h.top] at hend
  obtain ⟨g₀, hg0⟩ := Option.isSome_iff_exists.mp h.top
  obtain ⟨r, hr⟩ := State.topJava?_eq_some.mp hg0
  have hr' : (({ U with heap := s₂.heap, slotsUsed := s₂.slotsUsed } : State).setVm s₂.vm).frames = .java g₀ :: r := hr
  rcases hq' with ⟨hqc, L, hfe, hL⟩ | ⟨q, rfl, E, ce, L, hx, hce, hcv, hcl, hW₂, hsm, hL⟩
  · obtain ⟨⟨v, rfl⟩, hW₂, e2, q2, q3, q4, q5, q6⟩ := id hfe
    have e3 : s₂ = ({ (U.calling g mk a).setFrames s₂.frames with heap := s₂.heap, slotsUsed := s₂.slotsUsed } : State).setVm s₂.vm := by
      have : s₂ = ({ s₂ with vm := (U.calling g mk a).vm } : State).setVm s₂.vm := rfl
      rw [e2] at this
      exact this
    obtain ⟨c₂, i₂, len₂, hc₂, hd₂, hf₂⟩ := hend
    have hW' : U.WarmedH s₂.vm := hW₂
    have hcc : c₂ = c := by
      have h1 : s₂.code? g.method = U.code? g.method := by
        rw [State.code?_eq, State.code?_eq, hW'.alike.method?]
      exact Option.some.inj (hc₂.symm.trans (h1.trans h.code))
    subst hcc
    have hlen : len₂ = len := by rw [hdg] at hd₂; cases hd₂; rfl
    subst hlen
    have hs₂ : s₂ = (({ U with heap := s₂.heap, slotsUsed := s₂.slotsUsed } : State).setVm s₂.vm).setTop { g with pc := g.pc + len₂, stack := v.toList ++ g.stack } := by
      refine e3.trans ?_
      rw [hf₂, State.calling_eq h.top, State.setFrames_setFrames, State.setTop_of_frames _ hr', hr]
      rfl
    have hsame : U.sameButNew ({ U with heap := s₂.heap, slotsUsed := s₂.slotsUsed } : State) L mc ms := by
      refine ⟨?_, q2, q3, q4, q5, q6⟩
      obtain ⟨t, ht, -⟩ := State.frames_cons hr
      show ({ U with heap := s₂.heap, slotsUsed := s₂.slotsUsed } : State) = { U.setFrames U.frames with heap := s₂.heap, slotsUsed := s₂.slotsUsed }
      rw [State.setFrames_self ht]
    subst hg
    refine Or.inl ⟨v, ⟨(({ U with heap := s₂.heap, slotsUsed := s₂.slotsUsed } : State).setVm s₂.vm), Ls ++ L, c0 + mc, s0 + ms⟩,
      ⟨X.admits, X.cas, X.clock, X.frames, X.room, X.hears, X.method, X.code, (X.here.setHeapUsed s₂.heap s₂.slotsUsed).setVm hW'.alike, X.tail, State.WarmedH.trans X.warmed hW', X.limits, X.bytes, X.same.trans (hsame.setVm s.vm)⟩,
      ⟨g, mk, s₂, L, rfl, rfl, hqc, rfl, hL, rfl, rfl⟩, ?_⟩
    show Steps p.tables e below _ ((({ U with heap := s₂.heap, slotsUsed := s₂.slotsUsed } : State).setVm s₂.vm).setTop { g with pc := g.pc + len₂, stack := v.toList ++ g.stack })
    rw [← hs₂]
    exact hsteps
  · obtain ⟨e2, q2, q3, q4, q5, q6⟩ := id hsm
    have e3 : s₂ = ({ (U.calling g mk a).setFrames s₂.frames with heap := s₂.heap, slotsUsed := s₂.slotsUsed } : State).setVm s₂.vm := by
      have : s₂ = ({ s₂ with vm := (U.calling g mk a).vm } : State).setVm s₂.vm := rfl
      rw [e2] at this
      exact this
    have hf₂ : s₂.frames = .throwing q :: .java g :: U.frames.tail := hend
    have hW' : U.WarmedH s₂.vm := hW₂
    have hs₂ : s₂ = ((({ U with heap := s₂.heap, slotsUsed := s₂.slotsUsed } : State).setVm s₂.vm).setTop g).pushFrame (.throwing q) := by
      refine e3.trans ?_
      rw [hf₂, State.calling_eq h.top, State.setFrames_setFrames, State.pushFrame, State.frames_setTop _ hr', State.setTop_of_frames _ hr', State.setFrames_setFrames, hr]
      rfl
    have hsame : U.sameButNew ({ U with heap := s₂.heap, slotsUsed := s₂.slotsUsed } : State) L mc ms := by
      refine ⟨?_, q2, q3, q4, q5, q6⟩
      obtain ⟨t, ht, -⟩ := State.frames_cons hr
      show ({ U with heap := s₂.heap, slotsUsed := s₂.slotsUsed } : State) = { U.setFrames U.frames with heap := s₂.heap, slotsUsed := s₂.slotsUsed }
      rw [State.setFrames_self ht]
    subst hg
    refine Or.inr ⟨q, ⟨(({ U with heap := s₂.heap, slotsUsed := s₂.slotsUsed } : State).setVm s₂.vm), Ls ++ L, c0 + mc, s0 + ms⟩,
      ⟨X.admits, X.cas, X.clock, X.frames, X.room, X.hears, X.method, X.code, (X.here.setHeapUsed s₂.heap s₂.slotsUsed).setVm hW'.alike, X.tail, State.WarmedH.trans X.warmed hW', X.limits, X.bytes, X.same.trans (hsame.setVm s.vm)⟩,
      ⟨g, mk, s₂, L, E, ce, rfl, rfl, hx, hce, hcv, hcl, rfl, hL, rfl, rfl⟩, ?_⟩
    show Steps p.tables e below _ (((({ U with heap := s₂.heap, slotsUsed := s₂.slotsUsed } : State).setVm s₂.vm).setTop g).pushFrame (.throwing q))
    rw [← hs₂]
    exact hsteps
end Payer
section Calls
variable {p : Program} {l : Launch} {e : Env} {R : Room} {s : State} {m : MethodId} {args : Array Value} {below : List Frame} {meth : Method} {c : Code} {T : State} {locs : List Loc} {cells slots : Nat}
theorem vx_callV (X : Stand p l e R s m args below meth c T locs cells slots) (hexec : p.tables.exec = Jvm.exec) {own C : String} {index : Nat} {y : MethodName} {bytes : ByteArray} {maxL : Nat} {ret : Option FieldType}
    (hown : s.vm.findClass own = some m.cls) (hlink : (Cond.methodLink own index y).before args s = true) (hinst : (Cond.instanceMethod y).before args s = true) (hsel : (Cond.selects C y y).before args s = true)
    (hcode : (Cond.code y bytes maxL ret).before args s = true) (hy : y.cls ≠ "java/lang/invoke/MethodHandle" ∧ y.cls ≠ "java/lang/invoke/VarHandle")
    {W9 : Nat} {Pre : Pt → Array Value → Prop} {Post : Pt → Array Value → Option Value → Pt → Prop} {PostX : Pt → Array Value → Addr → Pt → Prop} (hK : vx_Back l R p e below s args y 3 W9 Pre Post PostX)
    {b : Addr} {cellB : Cell} (hcell : T.heap[b]? = some cellB) (hobj : cellB.vm.isStatics = false) (hcls : s.vm.findClass C = some cellB.cls)
    {g : JFrame} (hg : g.method = m) (hsize : g.locals.size = c.maxLocals) {argsL rest : List Value} (hlen : ∀ sig, parseMethodDescriptor y.desc = some sig → argsL.length = sig.parameters.length)
    (hstack : g.stack = argsL.reverse ++ .ref b :: rest) (hW : 2 * g.monitorRoom + (rest.map fun v => v.category).sum ≤ W9) (hdg : decode c.code g.pc = .ok (.invokevirtual index, 3))
    (hpre : ∀ vm₁, s.WarmedH vm₁ → Pre ⟨T.setVm vm₁, locs, cells, slots⟩ (Value.ref b :: argsL).toArray) :
    (∃ (v : Option Value) (vm₁ : Vm) (B : Pt), s.WarmedH vm₁ ∧ Stand p l e R s m args below meth c B.U B.locs B.cells B.slots ∧ Post ⟨T.setVm vm₁, locs, cells, slots⟩ (Value.ref b :: argsL).toArray v B ∧
      ∀ target, Steps p.tables e below (B.U.setTop { g with pc := g.pc + 3, stack := v.toList ++ rest }) target → Steps p.tables e below (T.setTop g) target) ∨
    (∃ (q : Addr) (vm₁ : Vm) (B : Pt), s.WarmedH vm₁ ∧ Stand p l e R s m args below meth c B.U B.locs B.cells B.slots ∧ PostX ⟨T.setVm vm₁, locs, cells, slots⟩ (Value.ref b :: argsL).toArray q B ∧
      Steps p.tables e below (T.setTop g) ((B.U.setTop { g with stack := rest }).pushFrame (.throwing q))) := by
  obtain ⟨mk, methM, hnamed, hmethM, hstM, habM⟩ := Cond.instanceMethod_spec hinst
  obtain ⟨methM', cM, hmethM', -, -, -, -, -, -, hsigM⟩ := Cond.code_spec hnamed hcode
  cases hmethM.symm.trans hmethM'
  obtain ⟨c2, r2, m2, q1, q2, q3, q4, kP, hkP, hkPi⟩ := Cond.selects_spec hsel
  cases hcls.symm.trans q1
  cases (State.methodFound?_of_named hnamed hy).symm.trans q2
  cases hnamed.symm.trans q3
  have hselP : selectMethod e.platform s.vm cellB.cls mk = .method mk := by rw [Launch.admits_selectMethod X.admits]; exact q4
  obtain ⟨vm₁, X₁, hstep₁⟩ := X.invokevirtual hexec hown hlink hnamed hmethM hstM hkP hkPi hy (a := b) (cell := cellB) hcell
    (fun z h => by rw [h] at hobj; cases hobj) hselP hmethM habM hkP hkPi (g := g) hg (argsL := argsL) (rest := rest) (hlen _ hsigM) hstack hdg
  rcases hK m meth c ⟨T.setVm vm₁, locs, cells, slots⟩ { g with stack := rest } (.invokevirtual index) mk (Value.ref b :: argsL).toArray X₁ hg hsize hdg hW (X₁.named hnamed) (hpre vm₁ X₁.warmed) with ⟨v, B, X', hpost, hsteps⟩ | ⟨q, B, X', hpost, hsteps⟩
  · exact Or.inl ⟨v, vm₁, B, X₁.warmed, X', hpost, fun target h => hstep₁ _ fun acts => by rw [doInvoke_state]; exact hsteps.trans h⟩
  · exact Or.inr ⟨q, vm₁, B, X₁.warmed, X', hpost, hstep₁ _ fun acts => by rw [doInvoke_state]; exact hsteps⟩
theorem vx_callS (X : Stand p l e R s m args below meth c T locs cells slots) (hexec : p.tables.exec = Jvm.exec) {own : String} {index : Nat} {y : MethodName} {bytes : ByteArray} {maxL : Nat} {ret : Option FieldType}
    (hown : s.vm.findClass own = some m.cls) (hlink : (Cond.methodLink own index y).before args s = true) (hstat : (Cond.static y).before args s = true) (hinit : (Cond.initialized y.cls).before args s = true)
    (hcode : (Cond.code y bytes maxL ret).before args s = true) (hy : y.cls ≠ "java/lang/invoke/MethodHandle" ∧ y.cls ≠ "java/lang/invoke/VarHandle")
    {W9 : Nat} {Pre : Pt → Array Value → Prop} {Post : Pt → Array Value → Option Value → Pt → Prop} {PostX : Pt → Array Value → Addr → Pt → Prop} (hK : vx_Back l R p e below s args y 3 W9 Pre Post PostX)
    {g : JFrame} (hg : g.method = m) (hsize : g.locals.size = c.maxLocals) {argsL rest : List Value} (hlen : ∀ sig, parseMethodDescriptor y.desc = some sig → argsL.length = sig.parameters.length)
    (hstack : g.stack = argsL.reverse ++ rest) (hW : 2 * g.monitorRoom + (rest.map fun v => v.category).sum ≤ W9) (hdg : decode c.code g.pc = .ok (.invokestatic index, 3))
    (hpre : ∀ vm₁, s.WarmedH vm₁ → Pre ⟨T.setVm vm₁, locs, cells, slots⟩ argsL.toArray) :
    (∃ (v : Option Value) (vm₁ : Vm) (B : Pt), s.WarmedH vm₁ ∧ Stand p l e R s m args below meth c B.U B.locs B.cells B.slots ∧ Post ⟨T.setVm vm₁, locs, cells, slots⟩ argsL.toArray v B ∧
      ∀ target, Steps p.tables e below (B.U.setTop { g with pc := g.pc + 3, stack := v.toList ++ rest }) target → Steps p.tables e below (T.setTop g) target) ∨
    (∃ (q : Addr) (vm₁ : Vm) (B : Pt), s.WarmedH vm₁ ∧ Stand p l e R s m args below meth c B.U B.locs B.cells B.slots ∧ PostX ⟨T.setVm vm₁, locs, cells, slots⟩ argsL.toArray q B ∧
      Steps p.tables e below (T.setTop g) ((B.U.setTop { g with stack := rest }).pushFrame (.throwing q))) := by
  obtain ⟨mk, hnamed⟩ := Cond.code_named hcode
  obtain ⟨methM, cM, hmethM, -, -, -, -, -, -, hsigM⟩ := Cond.code_spec hnamed hcode
  have hstatic : methM.isStatic = true := Cond.static_spec hnamed hmethM hstat
  obtain ⟨kP, hkP, -⟩ := className_of_methodNamed hnamed
  have hinitP : kP.init = .initialized := Cond.initialized_spec (findClass_of_methodNamed hnamed) hkP hinit
  obtain ⟨vm₁, X₁, hstep₁⟩ := X.invokestatic hexec hown hlink hnamed hmethM hstatic hkP hinitP hy (g := g) hg (argsL := argsL) (rest := rest) (hlen _ hsigM) hstack hdg
  rcases hK m meth c ⟨T.setVm vm₁, locs, cells, slots⟩ { g with stack := rest } (.invokestatic index) mk argsL.toArray X₁ hg hsize hdg hW (X₁.named hnamed) (hpre vm₁ X₁.warmed) with ⟨v, B, X', hpost, hsteps⟩ | ⟨q, B, X', hpost, hsteps⟩
  · exact Or.inl ⟨v, vm₁, B, X₁.warmed, X', hpost, fun target h => hstep₁ _ fun acts => by rw [doInvoke_state]; exact hsteps.trans h⟩
  · exact Or.inr ⟨q, vm₁, B, X₁.warmed, X', hpost, hstep₁ _ fun acts => by rw [doInvoke_state]; exact hsteps⟩
end Calls
theorem vx_cls {s : State} {T : State} {vm₁ : Vm} {E : String} {k : ClassId} (hW : s.WarmedH vm₁) (h : (T.setVm vm₁).vm.findClass E = some k) : s.vm.findClass E = some k := by
  have h1 : vm₁.findClass E = some k := h
  rw [hW.alike.findClass] at h1
  exact h1
/-- the method's frame g, with q thrown over it -/
def vx_W (p : Program) (l : Launch) (e : Env) (R : Room) (s : State) (m : MethodId) (args : Array Value) (below : List Frame) (meth : Method) (c : Code) (H : Heap) (locs : List Loc) (cells slots : Nat) (Q : State → Prop) (g : JFrame) (q : Addr) : Prop :=
  ∀ T : State, T.heap = H → Stand p l e R s m args below meth c T locs cells slots → ∃ t, Steps p.tables e below ((T.setTop g).pushFrame (.throwing q)) t ∧ Q t
def vx_Run (p : Program) (l : Launch) (e : Env) (R : Room) (s : State) (m : MethodId) (args : Array Value) (below : List Frame) (meth : Method) (c : Code) (H : Heap) (locs : List Loc) (cells slots mc ms : Nat) (g : JFrame) (rest : List Value) (Qa : State → Outcome → State → Prop) (XC : String → State → State → Prop) (free : Addr → Prop) : Prop :=
  ∀ T : State, T.heap = H → Stand p l e R s m args below meth c T locs cells slots →
    (∃ (v : Option Value) (st₀ t T' : State) (L : List Loc), st₀.heap = H ∧ Stand p l e R s m args below meth c T' (locs ++ L) (cells + mc) (slots + ms) ∧ (∀ q ∈ L, free q.base) ∧ T'.heap = t.heap ∧ T'.vm = t.vm ∧ Qa st₀ (.returned v) t ∧
      Goes p e below T g T' { g with pc := g.pc + 3, stack := v.toList ++ rest }) ∨
    (∃ (q : Addr) (st₀ t T' : State) (L : List Loc) (E : String) (ce : Cell), st₀.heap = H ∧ Stand p l e R s m args below meth c T' (locs ++ L) (cells + mc) (slots + ms) ∧ (∀ z ∈ L, free z.base) ∧ T'.heap = t.heap ∧ T'.vm = t.vm ∧ XC E st₀ t ∧ t.heap[q]? = some ce ∧ ce.vm = .none ∧ s.vm.findClass E = some ce.cls ∧
      Steps p.tables e below (T.setTop g) ((T'.setTop { g with stack := rest }).pushFrame (.throwing q)))
def vx_X {S : Type} (px : S → Prop) (B : String → S → State → Prop) (A : Nat → Prop) : String → State → State → Prop := fun E st t => ∃ u : S, px u ∧ B E u t ∧ va_F A st t
section Runs
variable {p : Program} {l : Launch} {e : Env} {R : Room} {s : State} {m : MethodId} {args : Array Value} {below : List Frame} {meth : Method} {c : Code} {H : Heap} {locs : List Loc} {cells slots : Nat}
variable {y : MethodName} {bytes cc : ByteArray} {maxL nL mc ms n index : Nat} {ret : Option FieldType} {ws : List Cond} {rm : Room} {Pc : Array Value → State → Prop} {Qc : Array Value → State → Outcome → State → Prop} {XC : String → State → State → Prop} {free : Addr → Prop} {Ts : List Cond} {own C : String} {b : Addr} {As rest : List Value} {g : JFrame}
theorem vx_callBack (cb : CallB R s args own index y bytes maxL ret ws rm mc ms n) (hM : vx_Met l y ws rm Pc Qc XC mc ms free) (hbl : FrameBlind Pc) : vx_Back l R p e below s args y 3 8 (PreOf R mc ms Pc) (PostOf Qc mc ms free) (vx_Post XC mc ms free) := by
  obtain ⟨hrc, hrs, hfr, hlo, hws, hcw, -, hini, -⟩ := cb
  exact vx_back (bytes := bytes) (maxL := maxL) (ret := ret) hM hbl hrc hrs hfr hlo hws hcw (fun a' U hW => word_at hW (Or.inl (by first | rfl | simp [Cond.onTables, Cond.keeps, Cond.steady])) hini)
theorem vx_runV (S : CallFix p m c cc nL s args Ts own) (hM : vx_Met l y ws rm Pc Qc XC mc ms free) (cw : CallW R s args own C index y bytes maxL ret ws rm mc ms n) (hp : PreV s H C b Pc As)
    (hg : g.method = m) (hn : As.length = n) (hsize : g.locals.size = nL) (hstack : g.stack = As.reverse ++ .ref b :: rest) (hW : 2 * g.monitorRoom + (rest.map fun v => v.category).sum ≤ 8) (hdg : decode cc g.pc = .ok (.invokevirtual index, 3)) (hf : cells + mc ≤ R.cells ∧ slots + ms ≤ R.slots) :
    vx_Run p l e R s m args below meth c H locs cells slots mc ms g rest (Qc (Value.ref b :: As).toArray) XC free := by
  have hK : vx_Back l R p e below s args y 3 8 (PreOf R mc ms Pc) (PostOf Qc mc ms free) (vx_Post XC mc ms free) := vx_callBack cw.1 hM hp.1
  obtain ⟨⟨-, -, -, -, -, -, hcode, -, hy, hlen, hl⟩, hin, hse⟩ := cw
  obtain ⟨hx, hb, hml, ho, -⟩ := S
  obtain ⟨-, ⟨cellB, hcB, hoB, hclB⟩, hPc⟩ := hp
  intro T hT X
  rcases vx_callV X hx (C := C) (bytes := bytes) (maxL := maxL) (ret := ret) ho hl hin hse hcode hy hK (by rw [hT]; exact hcB) hoB hclB hg (hsize.trans hml.symm) (argsL := As) (rest := rest) (fun sig h => hn.trans (hlen sig h)) hstack hW (by rw [hb]; exact hdg)
    (fun vm₁ hW₁ => ⟨hf.1, hf.2, hPc (T.setVm vm₁) hT hW₁⟩) with ⟨v, vm₁, ⟨U', l2, c2, s2⟩, hW₁, X', ⟨g', mk, t, L, e1, e2, hq, h1, hL, h2, h3⟩, st⟩ | ⟨q, vm₁, ⟨U', l2, c2, s2⟩, hW₁, X', ⟨g', mk, t, L, E, ce, e1, e2, hq, hce, hcv, hcl, h1, hL, h2, h3⟩, st⟩
  · dsimp only [Pt.U, Pt.locs, Pt.cells, Pt.slots] at X' e1 e2 h1 h2 h3 st
    subst h1; subst h2; subst h3
    exact Or.inl ⟨v, (T.setVm vm₁).calling g' mk (Value.ref b :: As).toArray, t, U', L, hT, X', hL, e1, e2, hq, st⟩
  · dsimp only [Pt.U, Pt.locs, Pt.cells, Pt.slots] at X' e1 e2 h1 h2 h3 st hcl
    subst h1; subst h2; subst h3
    exact Or.inr ⟨q, (T.setVm vm₁).calling g' mk (Value.ref b :: As).toArray, t, U', L, E, ce, hT, X', hL, e1, e2, hq, hce, hcv, vx_cls hW₁ hcl, st⟩
theorem vx_runS (S : CallFix p m c cc nL s args Ts own) (hM : vx_Met l y ws rm Pc Qc XC mc ms free) (cw : CallB R s args own index y bytes maxL ret ws rm mc ms n ∧ (Cond.static y).before args s = true) (hp : PreS s H Pc As)
    (hg : g.method = m) (hn : As.length = n) (hsize : g.locals.size = nL) (hstack : g.stack = As.reverse ++ rest) (hW : 2 * g.monitorRoom + (rest.map fun v => v.category).sum ≤ 8) (hdg : decode cc g.pc = .ok (.invokestatic index, 3)) (hf : cells + mc ≤ R.cells ∧ slots + ms ≤ R.slots) :
    vx_Run p l e R s m args below meth c H locs cells slots mc ms g rest (Qc As.toArray) XC free := by
  have hK : vx_Back l R p e below s args y 3 8 (PreOf R mc ms Pc) (PostOf Qc mc ms free) (vx_Post XC mc ms free) := vx_callBack cw.1 hM hp.1
  obtain ⟨⟨-, -, -, -, -, -, hcode, hini, hy, hlen, hl⟩, hstt⟩ := cw
  obtain ⟨hx, hb, hml, ho, -⟩ := S
  intro T hT X
  rcases vx_callS X hx (bytes := bytes) (maxL := maxL) (ret := ret) ho hl hstt hini hcode hy hK hg (hsize.trans hml.symm) (argsL := As) (rest := rest) (fun sig h => hn.trans (hlen sig h)) hstack hW (by rw [hb]; exact hdg)
    (fun vm₁ hW₁ => ⟨hf.1, hf.2, hp.2 (T.setVm vm₁) hT hW₁⟩) with ⟨v, vm₁, ⟨U', l2, c2, s2⟩, hW₁, X', ⟨g', mk, t, L, e1, e2, hq, h1, hL, h2, h3⟩, st⟩ | ⟨q, vm₁, ⟨U', l2, c2, s2⟩, hW₁, X', ⟨g', mk, t, L, E, ce, e1, e2, hq, hce, hcv, hcl, h1, hL, h2, h3⟩, st⟩
  · dsimp only [Pt.U, Pt.locs, Pt.cells, Pt.slots] at X' e1 e2 h1 h2 h3 st
    subst h1; subst h2; subst h3
    exact Or.inl ⟨v, (T.setVm vm₁).calling g' mk As.toArray, t, U', L, hT, X', hL, e1, e2, hq, st⟩
  · dsimp only [Pt.U, Pt.locs, Pt.cells, Pt.slots] at X' e1 e2 h1 h2 h3 st hcl
    subst h1; subst h2; subst h3
    exact Or.inr ⟨q, (T.setVm vm₁).calling g' mk As.toArray, t, U', L, E, ce, hT, X', hL, e1, e2, hq, hce, hcv, vx_cls hW₁ hcl, st⟩
end Runs
section Rows
variable {p : Program} {l : Launch} {e : Env} {R : Room} {s : State} {m : MethodId} {args : Array Value} {below : List Frame} {meth : Method} {c : Code} {H : Heap} {locs : List Loc} {cells slots : Nat} {Q : State → Prop}
variable {mc ms : Nat} {free : Addr → Prop} {A0 A1 : Nat → Prop} {H0 : Heap} {a : Array Value} {pc : Nat} {ls : Array Slot} {st0 rest : List Value}
theorem vx_keep {st₀ t T' : State} {L : List Loc} (h0 : st₀.heap = H) (e1 : T'.heap = t.heap) (hS : va_S A0 H0 H locs) (hA : ∀ q, q < H.size → A1 q → A0 q) (hf : ∀ q, free q → A0 q) (hL : ∀ q ∈ L, free q.base) (hF : va_F A1 st₀ t) :
    H.size ≤ T'.heap.size ∧ (∀ q : Nat, q < H.size → ¬ A1 q → T'.heap[q]? = H[q]?) ∧ va_S A0 H0 T'.heap (locs ++ L) := by
  obtain ⟨hz, hk⟩ := hF
  rw [h0] at hz hk
  exact ⟨by rw [e1]; exact hz, fun q h1 h2 => by rw [e1]; exact hk q h1 h2,
    ⟨Nat.le_trans hS.1 (by rw [e1]; exact hz), fun q h1 h2 => by rw [e1, hk q (Nat.lt_of_lt_of_le h1 hS.1) (fun z => h2 (hA q (Nat.lt_of_lt_of_le h1 hS.1) z))]; exact hS.2.1 q h1 h2, fun q hq => by
      rcases List.mem_append.mp hq with h | h
      · exact hS.2.2 q h
      · exact hf _ (hL q h)⟩⟩
theorem vx_calli {S SX : Type} {post : Int32 → S → Prop} {px : SX → Prop} {B : S → State → Prop} {BX : String → SX → State → Prop} {AX : Nat → Prop} (hr : vx_Run p l e R s m args below meth c H locs cells slots mc ms (F0 m pc ls st0) rest (va_Qi post B A1 a) (vx_X px BX AX) free) (hS : va_S A0 H0 H locs) (hA : ∀ q, q < H.size → A1 q → A0 q) (hf : ∀ q, free q → A0 q) (hAX : ∀ q, q < H.size → AX q → A0 q)
    (kx : ∀ (E : String) (ce : Cell) (q9 : Addr) (u : SX) (t : State) (H1 : Heap) (locs1 : List Loc), t.heap = H1 → s.vm.Alike t.vm → px u → BX E u t → H.size ≤ H1.size → (∀ q : Nat, q < H.size → ¬ AX q → H1[q]? = H[q]?) → va_S A0 H0 H1 locs1 → H1[q9]? = some ce → ce.vm = .none → s.vm.findClass E = some ce.cls → vx_W p l e R s m args below meth c H1 locs1 (cells + mc) (slots + ms) Q (F0 m pc ls rest) q9)
    (kk : ∀ (r : Int32) (u : S) (t : State) (H1 : Heap) (locs1 : List Loc), t.heap = H1 → s.vm.Alike t.vm → post r u → B u t → H.size ≤ H1.size → (∀ q : Nat, q < H.size → ¬ A1 q → H1[q]? = H[q]?) → va_S A0 H0 H1 locs1 → W p l e R s m args below meth c H1 locs1 (cells + mc) (slots + ms) Q (F0 m (pc + 3) ls (.int r :: rest))) : W p l e R s m args below meth c H locs cells slots Q (F0 m pc ls st0) := by
  intro T hT X
  rcases hr T hT X with ⟨v, st₀, t, T', L, h0, X', hL, e1, e2, ⟨⟨r, u, hv, hp, hb⟩, hF⟩, st⟩ | ⟨q, st₀, t, T', L, E, ce, h0, X', hL, e1, e2, ⟨u, hp, hb, hF⟩, hce, hcv, hcl, st⟩
  · cases hv
    obtain ⟨k1, k2, k3⟩ := vx_keep h0 e1 hS hA hf hL hF
    obtain ⟨t2, a1, b1⟩ := kk r u t T'.heap (locs ++ L) e1.symm (by rw [← e2]; exact X'.warmed.alike) hp hb k1 k2 k3 T' rfl X'
    exact ⟨t2, st t2 a1, b1⟩
  · obtain ⟨k1, k2, k3⟩ := vx_keep h0 e1 hS hAX hf hL hF
    obtain ⟨t2, a1, b1⟩ := kx E ce q u t T'.heap (locs ++ L) e1.symm (by rw [← e2]; exact X'.warmed.alike) hp hb k1 k2 k3 (by rw [e1]; exact hce) hcv hcl T' rfl X'
    exact ⟨t2, st.trans a1, b1⟩
theorem vx_calll {S SX : Type} {post : Int64 → S → Prop} {px : SX → Prop} {B : S → State → Prop} {BX : String → SX → State → Prop} {AX : Nat → Prop} (hr : vx_Run p l e R s m args below meth c H locs cells slots mc ms (F0 m pc ls st0) rest (va_Ql post B A1 a) (vx_X px BX AX) free) (hS : va_S A0 H0 H locs) (hA : ∀ q, q < H.size → A1 q → A0 q) (hf : ∀ q, free q → A0 q) (hAX : ∀ q, q < H.size → AX q → A0 q)
    (kx : ∀ (E : String) (ce : Cell) (q9 : Addr) (u : SX) (t : State) (H1 : Heap) (locs1 : List Loc), t.heap = H1 → s.vm.Alike t.vm → px u → BX E u t → H.size ≤ H1.size → (∀ q : Nat, q < H.size → ¬ AX q → H1[q]? = H[q]?) → va_S A0 H0 H1 locs1 → H1[q9]? = some ce → ce.vm = .none → s.vm.findClass E = some ce.cls → vx_W p l e R s m args below meth c H1 locs1 (cells + mc) (slots + ms) Q (F0 m pc ls rest) q9)
    (kk : ∀ (r : Int64) (u : S) (t : State) (H1 : Heap) (locs1 : List Loc), t.heap = H1 → s.vm.Alike t.vm → post r u → B u t → H.size ≤ H1.size → (∀ q : Nat, q < H.size → ¬ A1 q → H1[q]? = H[q]?) → va_S A0 H0 H1 locs1 → W p l e R s m args below meth c H1 locs1 (cells + mc) (slots + ms) Q (F0 m (pc + 3) ls (.long r :: rest))) : W p l e R s m args below meth c H locs cells slots Q (F0 m pc ls st0) := by
  intro T hT X
  rcases hr T hT X with ⟨v, st₀, t, T', L, h0, X', hL, e1, e2, ⟨⟨r, u, hv, hp, hb⟩, hF⟩, st⟩ | ⟨q, st₀, t, T', L, E, ce, h0, X', hL, e1, e2, ⟨u, hp, hb, hF⟩, hce, hcv, hcl, st⟩
  · cases hv
    obtain ⟨k1, k2, k3⟩ := vx_keep h0 e1 hS hA hf hL hF
    obtain ⟨t2, a1, b1⟩ := kk r u t T'.heap (locs ++ L) e1.symm (by rw [← e2]; exact X'.warmed.alike) hp hb k1 k2 k3 T' rfl X'
    exact ⟨t2, st t2 a1, b1⟩
  · obtain ⟨k1, k2, k3⟩ := vx_keep h0 e1 hS hAX hf hL hF
    obtain ⟨t2, a1, b1⟩ := kx E ce q u t T'.heap (locs ++ L) e1.symm (by rw [← e2]; exact X'.warmed.alike) hp hb k1 k2 k3 (by rw [e1]; exact hce) hcv hcl T' rfl X'
    exact ⟨t2, st.trans a1, b1⟩
theorem vx_callf {S SX : Type} {post : UInt32 → S → Prop} {px : SX → Prop} {B : S → State → Prop} {BX : String → SX → State → Prop} {AX : Nat → Prop} (hr : vx_Run p l e R s m args below meth c H locs cells slots mc ms (F0 m pc ls st0) rest (va_Qf post B A1 a) (vx_X px BX AX) free) (hS : va_S A0 H0 H locs) (hA : ∀ q, q < H.size → A1 q → A0 q) (hf : ∀ q, free q → A0 q) (hAX : ∀ q, q < H.size → AX q → A0 q)
    (kx : ∀ (E : String) (ce : Cell) (q9 : Addr) (u : SX) (t : State) (H1 : Heap) (locs1 : List Loc), t.heap = H1 → s.vm.Alike t.vm → px u → BX E u t → H.size ≤ H1.size → (∀ q : Nat, q < H.size → ¬ AX q → H1[q]? = H[q]?) → va_S A0 H0 H1 locs1 → H1[q9]? = some ce → ce.vm = .none → s.vm.findClass E = some ce.cls → vx_W p l e R s m args below meth c H1 locs1 (cells + mc) (slots + ms) Q (F0 m pc ls rest) q9)
    (kk : ∀ (r : UInt32) (u : S) (t : State) (H1 : Heap) (locs1 : List Loc), t.heap = H1 → s.vm.Alike t.vm → post r u → B u t → H.size ≤ H1.size → (∀ q : Nat, q < H.size → ¬ A1 q → H1[q]? = H[q]?) → va_S A0 H0 H1 locs1 → W p l e R s m args below meth c H1 locs1 (cells + mc) (slots + ms) Q (F0 m (pc + 3) ls (.float r :: rest))) : W p l e R s m args below meth c H locs cells slots Q (F0 m pc ls st0) := by
  intro T hT X
  rcases hr T hT X with ⟨v, st₀, t, T', L, h0, X', hL, e1, e2, ⟨⟨r, u, hv, hp, hb⟩, hF⟩, st⟩ | ⟨q, st₀, t, T', L, E, ce, h0, X', hL, e1, e2, ⟨u, hp, hb, hF⟩, hce, hcv, hcl, st⟩
  · cases hv
    obtain ⟨k1, k2, k3⟩ := vx_keep h0 e1 hS hA hf hL hF
    obtain ⟨t2, a1, b1⟩ := kk r u t T'.heap (locs ++ L) e1.symm (by rw [← e2]; exact X'.warmed.alike) hp hb k1 k2 k3 T' rfl X'
    exact ⟨t2, st t2 a1, b1⟩
  · obtain ⟨k1, k2, k3⟩ := vx_keep h0 e1 hS hAX hf hL hF
    obtain ⟨t2, a1, b1⟩ := kx E ce q u t T'.heap (locs ++ L) e1.symm (by rw [← e2]; exact X'.warmed.alike) hp hb k1 k2 k3 (by rw [e1]; exact hce) hcv hcl T' rfl X'
    exact ⟨t2, st.trans a1, b1⟩
theorem vx_calld {S SX : Type} {post : UInt64 → S → Prop} {px : SX → Prop} {B : S → State → Prop} {BX : String → SX → State → Prop} {AX : Nat → Prop} (hr : vx_Run p l e R s m args below meth c H locs cells slots mc ms (F0 m pc ls st0) rest (va_Qd post B A1 a) (vx_X px BX AX) free) (hS : va_S A0 H0 H locs) (hA : ∀ q, q < H.size → A1 q → A0 q) (hf : ∀ q, free q → A0 q) (hAX : ∀ q, q < H.size → AX q → A0 q)
    (kx : ∀ (E : String) (ce : Cell) (q9 : Addr) (u : SX) (t : State) (H1 : Heap) (locs1 : List Loc), t.heap = H1 → s.vm.Alike t.vm → px u → BX E u t → H.size ≤ H1.size → (∀ q : Nat, q < H.size → ¬ AX q → H1[q]? = H[q]?) → va_S A0 H0 H1 locs1 → H1[q9]? = some ce → ce.vm = .none → s.vm.findClass E = some ce.cls → vx_W p l e R s m args below meth c H1 locs1 (cells + mc) (slots + ms) Q (F0 m pc ls rest) q9)
    (kk : ∀ (r : UInt64) (u : S) (t : State) (H1 : Heap) (locs1 : List Loc), t.heap = H1 → s.vm.Alike t.vm → post r u → B u t → H.size ≤ H1.size → (∀ q : Nat, q < H.size → ¬ A1 q → H1[q]? = H[q]?) → va_S A0 H0 H1 locs1 → W p l e R s m args below meth c H1 locs1 (cells + mc) (slots + ms) Q (F0 m (pc + 3) ls (.double r :: rest))) : W p l e R s m args below meth c H locs cells slots Q (F0 m pc ls st0) := by
  intro T hT X
  rcases hr T hT X with ⟨v, st₀, t, T', L, h0, X', hL, e1, e2, ⟨⟨r, u, hv, hp, hb⟩, hF⟩, st⟩ | ⟨q, st₀, t, T', L, E, ce, h0, X', hL, e1, e2, ⟨u, hp, hb, hF⟩, hce, hcv, hcl, st⟩
  · cases hv
    obtain ⟨k1, k2, k3⟩ := vx_keep h0 e1 hS hA hf hL hF
    obtain ⟨t2, a1, b1⟩ := kk r u t T'.heap (locs ++ L) e1.symm (by rw [← e2]; exact X'.warmed.alike) hp hb k1 k2 k3 T' rfl X'
    exact ⟨t2, st t2 a1, b1⟩
  · obtain ⟨k1, k2, k3⟩ := vx_keep h0 e1 hS hAX hf hL hF
    obtain ⟨t2, a1, b1⟩ := kx E ce q u t T'.heap (locs ++ L) e1.symm (by rw [← e2]; exact X'.warmed.alike) hp hb k1 k2 k3 (by rw [e1]; exact hce) hcv hcl T' rfl X'
    exact ⟨t2, st.trans a1, b1⟩
theorem vx_callv {S SX : Type} {post : S → Prop} {px : SX → Prop} {B : S → State → Prop} {BX : String → SX → State → Prop} {AX : Nat → Prop} (hr : vx_Run p l e R s m args below meth c H locs cells slots mc ms (F0 m pc ls st0) rest (va_Qv post B A1 a) (vx_X px BX AX) free) (hS : va_S A0 H0 H locs) (hA : ∀ q, q < H.size → A1 q → A0 q) (hf : ∀ q, free q → A0 q) (hAX : ∀ q, q < H.size → AX q → A0 q)
    (kx : ∀ (E : String) (ce : Cell) (q9 : Addr) (u : SX) (t : State) (H1 : Heap) (locs1 : List Loc), t.heap = H1 → s.vm.Alike t.vm → px u → BX E u t → H.size ≤ H1.size → (∀ q : Nat, q < H.size → ¬ AX q → H1[q]? = H[q]?) → va_S A0 H0 H1 locs1 → H1[q9]? = some ce → ce.vm = .none → s.vm.findClass E = some ce.cls → vx_W p l e R s m args below meth c H1 locs1 (cells + mc) (slots + ms) Q (F0 m pc ls rest) q9)
    (kk : ∀ (u : S) (t : State) (H1 : Heap) (locs1 : List Loc), t.heap = H1 → s.vm.Alike t.vm → post u → B u t → H.size ≤ H1.size → (∀ q : Nat, q < H.size → ¬ A1 q → H1[q]? = H[q]?) → va_S A0 H0 H1 locs1 → W p l e R s m args below meth c H1 locs1 (cells + mc) (slots + ms) Q (F0 m (pc + 3) ls (rest))) : W p l e R s m args below meth c H locs cells slots Q (F0 m pc ls st0) := by
  intro T hT X
  rcases hr T hT X with ⟨v, st₀, t, T', L, h0, X', hL, e1, e2, ⟨⟨u, hv, hp, hb⟩, hF⟩, st⟩ | ⟨q, st₀, t, T', L, E, ce, h0, X', hL, e1, e2, ⟨u, hp, hb, hF⟩, hce, hcv, hcl, st⟩
  · cases hv
    obtain ⟨k1, k2, k3⟩ := vx_keep h0 e1 hS hA hf hL hF
    obtain ⟨t2, a1, b1⟩ := kk u t T'.heap (locs ++ L) e1.symm (by rw [← e2]; exact X'.warmed.alike) hp hb k1 k2 k3 T' rfl X'
    exact ⟨t2, st t2 a1, b1⟩
  · obtain ⟨k1, k2, k3⟩ := vx_keep h0 e1 hS hAX hf hL hF
    obtain ⟨t2, a1, b1⟩ := kx E ce q u t T'.heap (locs ++ L) e1.symm (by rw [← e2]; exact X'.warmed.alike) hp hb k1 k2 k3 (by rw [e1]; exact hce) hcv hcl T' rfl X'
    exact ⟨t2, st.trans a1, b1⟩
/-- caught by the row x of this method's table; the rows ahead don't take it -/
theorem vx_catch {own name : String} {E : String} {ce : Cell} {q : Addr} (hown : s.vm.findClass own = some m.cls) (pre : List ExceptionTableEntry) (x : ExceptionTableEntry) (suf : List ExceptionTableEntry) (hsplit : c.exceptionTable.toList = pre ++ x :: suf)
    (hpass : ∀ z ∈ pre, covers z pc = false ∨ (z.catchType ≠ 0 ∧ ∃ nm : String, (Cond.classLink own z.catchType nm).before args s = true ∧ va_Nc E nm s)) (hx : covers x pc = true) (h0 : x.catchType ≠ 0)
    (hlink : (Cond.classLink own x.catchType name).before args s = true) (hcast : (Cond.castable E name).before args s = true) (hcell : H[q]? = some ce) (hv : ce.vm = .none) (hcl : s.vm.findClass E = some ce.cls)
    (kk : W p l e R s m args below meth c H locs cells slots Q (F0 m x.handlerPc ls [.ref q])) : vx_W p l e R s m args below meth c H locs cells slots Q (F0 m pc ls rest) q := by
  intro T hT X
  have hpl : e.platform.magicAccessors = ({} : Platform).magicAccessors := by rw [X.admits.platform]
  obtain ⟨c3, c4, hc3, hc4, hasg⟩ := Cond.castable_spec hcast
  cases Option.some.inj (hc3.symm.trans hcl)
  obtain ⟨c5, hc5, hcl5⟩ := Cond.classLink_spec hown hlink e.platform hpl
  cases Option.some.inj (hc4.symm.trans hc5)
  obtain ⟨vm', X', st⟩ := X.thenCaughtThrough q (g := F0 m pc ls rest) rfl (Steps.refl _) (by rw [hT]; exact hcell) (by rw [hv]; rfl) (by obtain ⟨k9, h9, -⟩ := Vm.findClass_spec hcl; exact ⟨k9, h9⟩) pre x suf hsplit
    (fun z hz => by
      rcases hpass z hz with h | ⟨hz0, nm, hl1, hn1⟩
      · exact Or.inl h
      · obtain ⟨c6, hc6, hcl6⟩ := Cond.classLink_spec hown hl1 e.platform hpl
        obtain ⟨a8, b8, h1, h2, h3⟩ := hn1
        cases Option.some.inj (h1.symm.trans hcl)
        cases Option.some.inj (h2.symm.trans hc6)
        exact Or.inr ⟨hz0, _, hcl6, h3⟩) hx (Or.inr ⟨h0, c4, hcl5, hasg⟩)
  obtain ⟨t, a1, b1⟩ := kk (T.setVm vm') hT X'
  exact ⟨t, st.trans a1, b1⟩
end Rows
section Ends
variable {p : Program} {l : Launch} {e : Env} {R : Room} {s : State} {m : MethodId} {args : Array Value} {below : List Frame} {meth : Method} {c : Code} {H : Heap} {locs : List Loc} {cells slots : Nat} {Q : State → Prop}
variable {mc ms : Nat} {free : Addr → Prop} {A0 A1 : Nat → Prop} {H0 : Heap} {a : Array Value} {ls : Array Slot} {st0 rest : List Value}
variable {Qc : Array Value → State → Outcome → State → Prop} {XC : String → State → State → Prop}
/-- what a body that may throw owes at its end -/
def vx_MQ (below : List Frame) (Qc : Array Value → State → Outcome → State → Prop) (XC : String → State → State → Prop) (a : Array Value) (s : State) (mc ms : Nat) (free : Addr → Prop) : State → Prop := fun t =>
  ∃ o, t.status = .running ∧ Ended t below o ∧ vx_Q Qc XC mc ms free a s o t
theorem vx_ret {g : JFrame} {mc ms : Nat} (k : W p l e R s m args below meth c H locs cells slots (MQ below Qc args s mc ms free) g) : W p l e R s m args below meth c H locs cells slots (vx_MQ below Qc XC args s mc ms free) g := by
  intro T hT X
  obtain ⟨t, a1, o, b1, b2, b3, b4⟩ := k T hT X
  exact ⟨t, a1, o, b1, b2, Or.inl ⟨b3, b4⟩⟩
/-- not caught here: it goes on to the caller -/
theorem vx_widen {g : JFrame} {q : Addr} {k n : Nat} (h1 : cells ≤ k) (h2 : slots ≤ n) (kk : vx_W p l e R s m args below meth c H locs k n Q g q) : vx_W p l e R s m args below meth c H locs cells slots Q g q := fun T hT X => kk T hT (stand_widen X h1 h2)
theorem vx_out {pc : Nat} {E : String} {ce : Cell} {q : Addr} {mc ms : Nat} (hout : ∀ x ∈ c.exceptionTable.toList, covers x pc = false) (hlocks : meth.locks = false) (hcell : H[q]? = some ce) (hv : ce.vm = .none) (hcl : s.vm.findClass E = some ce.cls)
    (hx : ∀ t : State, t.heap = H → s.vm.Alike t.vm → XC E s t) (hf : ∀ z ∈ locs, free z.base) (hc : cells ≤ mc) (hs : slots ≤ ms) :
    vx_W p l e R s m args below meth c H locs cells slots (vx_MQ below Qc XC args s mc ms free) (F0 m pc ls rest) q := by
  intro T hT X
  obtain ⟨st1, hrun, hend, hW, hsm⟩ := X.leaveThrown q (g := F0 m pc ls rest) rfl rfl rfl hout hlocks
  have hcell9 : (T.setFrames (.throwing q :: below)).heap[q]? = some ce := by
    show T.heap[q]? = some ce
    rw [hT]; exact hcell
  exact ⟨_, st1, .threw q, hrun, hend, Or.inr ⟨q, rfl, E, ce, locs, hx _ hT hW.alike, hcell9, hv, hcl, hW, hsm.mono hc hs, hf⟩⟩
theorem vx_frame {U : State} {k n : Nat} (h : s.sameButNew ({ U with vm := s.vm } : State) locs k n) : s.heap.size ≤ U.heap.size ∧ ∀ q : Nat, q < s.heap.size → (∀ z ∈ locs, z.base ≠ q) → U.heap[q]? = s.heap[q]? := by
  obtain ⟨-, h2, -, -, -, h6⟩ := h
  refine ⟨h2, fun q hq hz => ?_⟩
  obtain ⟨c9, e1, e2, e3, e4⟩ := h6 q _ (Array.getElem?_eq_getElem hq)
  have hs : c9.slots = (s.heap[q]).slots := Array.ext_getElem? fun i => e4 i fun hm => hz _ hm rfl
  have h9 : c9 = s.heap[q] := by
    rw [hs] at e2
    exact e2
  have e5 : U.heap[q]? = some c9 := e1
  rw [e5, h9, Array.getElem?_eq_getElem hq]
/-- the words of a throw but the four that speak of the heap -/
def vx_no (w : Cond) : Bool := decide (w ≠ .isRef (.static Bundle.tN "UNASSIGNED_STACK" Bundle.steD)) && decide (w ≠ .isRef (.static Bundle.tN "SUPPRESSED_SENTINEL" Bundle.listD)) && decide (w ≠ .laysStatic Bundle.tN "UNASSIGNED_STACK" Bundle.steD) && decide (w ≠ .laysStatic Bundle.tN "SUPPRESSED_SENTINEL" Bundle.listD)
def vx_at0 (own : String) (ic : Nat) (X : String) (names : List String) : List Cond := (Bundle.ownAtoms0 own ic X names).filter vx_no
def vx_atS (own : String) (ic : Nat) (X : String) (names : List String) : List Cond := (Bundle.ownAtoms own ic X names).filter vx_no
/-- a word that the tables alone decide, or a good one -/
def vx_ot (w : Cond) : Bool := w.onTables || goodWord w
theorem vx_ot_at {args a' : Array Value} {s U : State} {w : Cond} (hW : s.WarmedH U.vm) (hvm : s.vm = U.vm) (hg : vx_ot w = true) (h : w.before args s = true) : w.before a' U = true := by
  simp only [vx_ot, Bool.or_eq_true] at hg
  rcases hg with hg | hg
  · exact va_tabs hg hvm h
  · exact word_at hW (good_of_word hg) h
/-- a list's words: the good ones out of the method's own list, the others by premises of their own -/
theorem vx_hat {args : Array Value} {s : State} {L B : List Cond} (h1 : ∀ w ∈ L.filter goodWord, w.before args s = true) (h2 : ∀ w ∈ L.filter (fun w => !goodWord w), w ∈ B) (h3 : ∀ w ∈ B, w.before args s = true) : ∀ w ∈ L, w.before args s = true := by
  intro w hw
  by_cases g : goodWord w = true
  · exact h1 w (List.mem_filter.mpr ⟨hw, g⟩)
  · refine h3 w (h2 w (List.mem_filter.mpr ⟨hw, ?_⟩))
    show (!goodWord w) = true
    cases hgw : goodWord w
    · rfl
    · exact absurd hgw g
theorem vx_c {args : Array Value} {s : State} {w : Cond} {B : List Cond} (h : w.before args s = true) (t : ∀ w ∈ B, w.before args s = true) : ∀ w' ∈ w :: B, w'.before args s = true := fun w' h' => (List.mem_cons.mp h').elim (fun e => by rw [e]; exact h) (t w')
theorem vx_n {args : Array Value} {s : State} : ∀ w ∈ ([] : List Cond), w.before args s = true := fun _ h => nomatch h
theorem vx_own {args : Array Value} {s : State} {L : List Cond} (h1 : ∀ w ∈ L.filter vx_no, w.before args s = true)
    (hU : (Cond.isRef (.static Bundle.tN "UNASSIGNED_STACK" Bundle.steD)).before args s = true) (hN : (Cond.isRef (.static Bundle.tN "SUPPRESSED_SENTINEL" Bundle.listD)).before args s = true)
    (lU : (Cond.laysStatic Bundle.tN "UNASSIGNED_STACK" Bundle.steD).before args s = true) (lN : (Cond.laysStatic Bundle.tN "SUPPRESSED_SENTINEL" Bundle.listD).before args s = true) : ∀ w ∈ L, w.before args s = true := by
  intro w hw
  by_cases e1 : w = .isRef (.static Bundle.tN "UNASSIGNED_STACK" Bundle.steD)
  · rw [e1]; exact hU
  · by_cases e2 : w = .isRef (.static Bundle.tN "SUPPRESSED_SENTINEL" Bundle.listD)
    · rw [e2]; exact hN
    · by_cases e3 : w = .laysStatic Bundle.tN "UNASSIGNED_STACK" Bundle.steD
      · rw [e3]; exact lU
      · by_cases e4 : w = .laysStatic Bundle.tN "SUPPRESSED_SENTINEL" Bundle.listD
        · rw [e4]; exact lN
        · exact h1 w (List.mem_filter.mpr ⟨hw, by unfold vx_no; rw [decide_eq_true e1, decide_eq_true e2, decide_eq_true e3, decide_eq_true e4]; rfl⟩)
/-- where a static field lies, its class's statics cell in H -/
def vx_L (C n d : String) (A : Nat → Prop) (U : State) (H : Heap) : Prop := ∃ (c : ClassId) (k : Class) (i : Nat) (f : Field) (a : Nat) (cell : Cell), U.vm.findClass C = some c ∧ U.fieldFound? C n d = some (c, k, i, f) ∧ f.isStatic = true ∧ k.statics = some a ∧ H[a]? = some cell ∧ cell.vm.isStatics = true ∧ cell.cls = c ∧ f.slot < cell.slots.size ∧ k.staticTypes[f.slot]? = some f.type ∧ ¬ A a
theorem vx_L.moved {C n d : String} {A : Nat → Prop} {u U : State} {H : Heap} (hvm : u.vm.Alike U.vm) (h : vx_L C n d A u H) : vx_L C n d A U H := by
  obtain ⟨c, k, i, f, a, cell, h1, h2, h3, h4, h5, h6, h7, h8, h9, h10⟩ := h
  obtain ⟨k', hi', he⟩ := State.fieldFound?_setVm hvm h2
  exact ⟨c, k', i, f, a, cell, by rw [hvm.findClass]; exact h1, hi', h3, by rw [he]; exact h4, h5, h6, h7, h8, by rw [he]; exact h9, h10⟩
theorem vx_L.kept {C n d : String} {A : Nat → Prop} {U : State} {H H1 : Heap} (h : vx_L C n d A U H) (hq : ∀ a : Nat, a < H.size → ¬ A a → H1[a]? = H[a]?) : vx_L C n d A U H1 := by
  obtain ⟨c, k, i, f, a, cell, h1, h2, h3, h4, h5, h6, h7, h8, h9, h10⟩ := h
  exact ⟨c, k, i, f, a, cell, h1, h2, h3, h4, by rw [hq a (Array.getElem?_eq_some_iff.mp h5).1 h10]; exact h5, h6, h7, h8, h9, h10⟩
theorem vx_L.narrow {C n d : String} {A B : Nat → Prop} {U : State} {H : Heap} (h : vx_L C n d A U H) (hAB : ∀ q, B q → A q) : vx_L C n d B U H := by
  obtain ⟨c, k, i, f, a, cell, h1, h2, h3, h4, h5, h6, h7, h8, h9, h10⟩ := h
  exact ⟨c, k, i, f, a, cell, h1, h2, h3, h4, h5, h6, h7, h8, h9, fun z => h10 (hAB _ z)⟩
theorem vx_L.word {C n d : String} {A : Nat → Prop} {s : State} {args : Array Value} (h : vx_L C n d A s s.heap) : (Cond.laysStatic C n d).before args s = true := by
  obtain ⟨c, k, i, f, a, cell, h1, h2, h3, h4, h5, h6, h7, h8, h9, -⟩ := h
  show (Cond.laysStatic C n d).holds args s none s [] = true
  exact Cond.laysStatic_of h1 h2 h3 h4 h5 h6 h7 h8 h9
/-- .. and what it holds: null or some reference -/
def vx_Zq (C n d : String) (A : Nat → Prop) (U : State) (H : Heap) : Prop := va_Zq C n d A U H ∧ vx_L C n d A U H
theorem vx_Zq.moved {C n d : String} {A : Nat → Prop} {u U : State} {H : Heap} (hvm : u.vm.Alike U.vm) (h : vx_Zq C n d A u H) : vx_Zq C n d A U H := ⟨va_Zq.moved hvm h.1, vx_L.moved hvm h.2⟩
theorem vx_Zq.kept {C n d : String} {A : Nat → Prop} {U : State} {H H1 : Heap} (h : vx_Zq C n d A U H) (hq : ∀ a : Nat, a < H.size → ¬ A a → H1[a]? = H[a]?) : vx_Zq C n d A U H1 := ⟨va_Zq.kept h.1 hq, vx_L.kept h.2 hq⟩
theorem vx_Zq.narrow {C n d : String} {A B : Nat → Prop} {U : State} {H : Heap} (h : vx_Zq C n d A U H) (hAB : ∀ q, B q → A q) : vx_Zq C n d B U H := ⟨va_Zq.narrow h.1 hAB, vx_L.narrow h.2 hAB⟩
theorem vx_Zqof {args : Array Value} {s : State} {C n d : String} {A : Nat → Prop} (hl : (Cond.laysStatic C n d).before args s = true) (hini : (Cond.initialized C).before args s = true) (h : (Cond.isRef (.static C n d)).before args s = true) (hA : ∀ a : Nat, a < s.heap.size → ¬ A a) : vx_Zq C n d A s s.heap := by
  refine ⟨va_Zqof hl hini h hA, ?_⟩
  obtain ⟨c, k, i, f, a, cell, h1, h2, h3, h4, h5, h6, h7, h8, h9⟩ := Cond.laysStatic_spec hl
  exact ⟨c, k, i, f, a, cell, h1, h2, h3, h4, h5, h6, h7, h8, h9, hA a (Array.getElem?_eq_some_iff.mp h5).1⟩
theorem vx_isRef {C n d : String} {v : Value} {A : Nat → Prop} {s : State} {args : Array Value} (h : va_Z C n d v A s s.heap) (hv : v.isRef = true) : (Cond.isRef (.static C n d)).before args s = true := by
  obtain ⟨cf, kf, fi, f, a, cell, h1, h2, h3, h4, h5, h6, h7, -⟩ := h
  have he : (Term.static C n d).eval args s none [] s = some v := by
    simp [Term.eval, State.fieldNamed?, h1, h2, h4, h5, h6, h7]
  simp only [Cond.before, Cond.holds, Cond.value, he]
  cases v <;> simp_all [Value.isRef]
theorem vx_isRefq {C n d : String} {A : Nat → Prop} {s : State} {args : Array Value} (h : va_Zq C n d A s s.heap) : (Cond.isRef (.static C n d)).before args s = true := by
  rcases h with h | ⟨t, h⟩
  · exact vx_isRef h rfl
  · exact vx_isRef h rfl
/-- the same frame, seen from here: as if the method were called anew in this heap -/
theorem vx_rebase {T : State} (X : Stand p l e R s m args below meth c T locs cells slots) {R' : Room} (hf : R'.frames ≤ R.frames) (hl : R'.locals ≤ R.locals) (hc : cells + R'.cells ≤ R.cells) (hs : slots + R'.slots ≤ R.slots) :
    Stand p l e R' ((T.setVm s.vm).setFrames (.invoking m args :: below)) m args below meth c T [] 0 0 := by
  have htop : (T.setVm s.vm).topJava?.isSome := X.here.top
  have hF : ((T.setVm s.vm).setFrames (.invoking m args :: below)).frames = .invoking m args :: below := State.frames_setFrames _ (State.cur_lt_of_top htop)
  obtain ⟨g₀, hg0⟩ := Option.isSome_iff_exists.mp htop
  obtain ⟨r, hr⟩ := State.topJava?_eq_some.mp hg0
  have hl9 : e.platform.stackLimits (T.setVm s.vm).me = e.platform.stackLimits s.me := X.limits
  have hb9 : (T.setVm s.vm).me.stackBytes = s.me.stackBytes := X.bytes
  refine ⟨X.admits, X.cas, X.clock, hF, ?_, X.hears, X.method, X.code, X.here, X.tail, X.warmed, ?_, ?_, ?_⟩
  · have h := X.room
    have hU : ((T.setVm s.vm).setFrames (.invoking m args :: below)).localsInUse = s.localsInUse := by
      rw [State.localsInUse_invoking hF (meth := meth) (c := c) X.method X.code, State.localsInUse_invoking X.frames X.method X.code]
    simp only [State.hasRoom, Bool.and_eq_true, decide_eq_true_eq] at h ⊢
    obtain ⟨⟨⟨⟨h1, h2, h3, h4, h5, h6⟩, h7⟩, h8⟩, h9⟩ := h
    rw [X.frames, List.length_cons] at h2 h3
    have q1 := X.heapSize
    have q2 := X.used
    simp only [hF, hU, List.length_cons, State.stackLimits_setFrames, State.stackBytes_setFrames, hl9, hb9]
    refine ⟨⟨⟨⟨by omega, by omega, by omega, by omega, by omega, h6⟩, ?_⟩, ?_⟩, X.book⟩
    · show T.heap.size + R'.cells ≤ e.platform.maxCells
      omega
    · show T.slotsUsed + R'.slots ≤ e.platform.maxSlots
      omega
  · rw [State.stackLimits_setFrames]; rfl
  · rw [State.stackBytes_setFrames]; rfl
  · refine ⟨?_, Nat.le_refl _, Nat.le_refl _, ?_, ?_, fun a c9 h9 => ⟨c9, h9, rfl, rfl, fun _ _ => rfl⟩⟩
    · obtain ⟨t, ht, -⟩ := State.frames_cons hr
      show T.setVm s.vm = { ((T.setVm s.vm).setFrames (.invoking m args :: below)).setFrames (T.setVm s.vm).frames with heap := T.heap, slotsUsed := T.slotsUsed }
      rw [State.setFrames_setFrames, State.setFrames_self ht]
      rfl
    · show T.slotsUsed = T.slotsUsed + ((T.heap.toList.drop T.heap.size).map (·.slots.size)).sum
      rw [List.drop_eq_nil_of_le (Nat.le_of_eq Array.length_toList)]
      rfl
    · show ((T.heap.toList.drop T.heap.size).map (·.slots.size)).sum ≤ 0
      rw [List.drop_eq_nil_of_le (Nat.le_of_eq Array.length_toList)]
      exact Nat.le_refl _
/-- 'throw new E()': new; dup; invokespecial; athrow -/
theorem vx_throw0 {cc : ByteArray} {pc : Nat} (hexec : p.tables.exec = Jvm.exec) (hb : c.code = cc) (hl : l.stackTraces = false) {own cls : String} {names : List String} {ik ic mc ms : Nat} {A : Nat → Prop}
    (hown : s.vm.findClass own = some m.cls) (hcls : Bundle.fit cls = true) (hnames : ∀ n ∈ names, Bundle.fit n = true)
    (hk : (Cond.classLink own ik cls).before args s = true) (hini : (Cond.initialized cls).before args s = true) (hat : ∀ w ∈ vx_at0 own ic cls names, w.before args s = true)
    (hgood : ∀ w ∈ Cond.classLink own ik cls :: Cond.initialized cls :: vx_at0 own ic cls names, vx_ot w = true)
    (hU : vx_Zq Bundle.tN "UNASSIGNED_STACK" Bundle.steD A s s.heap) (hN : vx_Zq Bundle.tN "SUPPRESSED_SENTINEL" Bundle.listD A s s.heap) (hS : va_S A s.heap H locs) (hsize : ls.size = c.maxLocals)
    (d0 : decode cc pc = .ok (.new ik, 3)) (d3 : decode cc (pc + 3) = .ok (.dup, 1)) (d4 : decode cc (pc + 4) = .ok (.invokespecial ic, 3)) (d7 : decode cc (pc + 7) = .ok (.athrow, 1))
    (hout : ∀ x ∈ c.exceptionTable.toList, covers x (pc + 7) = false)
    (hRframes : names.length + 3 < R.frames) (hRlocals : (rest.map fun v => v.category).sum + (13 * (names.length + 1) + 42) ≤ R.locals) (hRcells : cells + 1 ≤ R.cells) (hRslots : slots + 6 ≤ R.slots) (hlocks : meth.locks = false)
    (hx : ∀ t : State, s.vm.Alike t.vm → H.size ≤ t.heap.size → (∀ q : Nat, q < H.size → t.heap[q]? = H[q]?) → XC cls s t)
    (hf : ∀ z ∈ locs, free z.base) (hc : cells + 1 ≤ mc) (hs : slots + 6 ≤ ms) :
    W p l e R s m args below meth c H locs cells slots (vx_MQ below Qc XC args s mc ms free) (F0 m pc ls rest) := by
  intro T hT X
  have htr : e.platform.stackTraces = false := (show e.platform.stackTraces = l.stackTraces by rw [X.admits.platform]).trans hl
  have Y := vx_rebase X (R' := { frames := R.frames, locals := R.locals, cells := 1, slots := 6 }) (Nat.le_refl _) (Nat.le_refl _) hRcells hRslots
  obtain ⟨s', hA⟩ : ∃ z, z = (T.setVm s.vm).setFrames (.invoking m args :: below) := ⟨_, rfl⟩
  rw [← hA] at Y
  have hvm : s'.vm = s.vm := by rw [hA]; rfl
  have hhp : s'.heap = H := by rw [hA]; exact hT
  have hW0 : s.WarmedH s'.vm := by rw [hvm]; exact State.WarmedH.refl s
  have hat' : ∀ w ∈ vx_at0 own ic cls names, w.before args s' = true := fun w hw => vx_ot_at hW0 hvm.symm (hgood w (List.mem_cons_of_mem _ (List.mem_cons_of_mem _ hw))) (hat w hw)
  have hk' : (Cond.classLink own ik cls).before args s' = true := vx_ot_at hW0 hvm.symm (hgood _ List.mem_cons_self) hk
  have hini' : (Cond.initialized cls).before args s' = true := vx_ot_at hW0 hvm.symm (hgood _ (List.mem_cons_of_mem _ List.mem_cons_self)) hini
  have hU' : vx_Zq Bundle.tN "UNASSIGNED_STACK" Bundle.steD A s' s'.heap := by rw [hhp]; exact vx_Zq.moved hW0.alike (hU.kept hS.2.1)
  have hN' : vx_Zq Bundle.tN "SUPPRESSED_SENTINEL" Bundle.listD A s' s'.heap := by rw [hhp]; exact vx_Zq.moved hW0.alike (hN.kept hS.2.1)
  have h : ∀ w ∈ Bundle.ownAtoms0 own ic cls names, w.before args s' = true := vx_own hat' (vx_isRefq hU'.1) (vx_isRefq hN'.1) hU'.2.word hN'.2.word
  have hown' : s'.vm.findClass own = some m.cls := by rw [hvm]; exact hown
  have hins : (Cond.instantiable cls 6).before args s' = true := h _ (by simp [Bundle.ownAtoms0])
  obtain ⟨vm₁, cX, kX, hfX, hkX, -, -, X₁, st1⟩ := Y.newCold hexec (own := own) (C := cls) (index := ik) (n := 6) hown' hk' hins hini'
    (g := F0 m pc ls rest) rfl (by rw [hb]; exact d0) (Nat.le_refl _) (Nat.le_refl _)
  generalize hT1 : (T.setVm vm₁).pushCell { cls := cX, slots := kX.instanceTypes.map defaultValue, vm := .none } = T1 at X₁ st1
  have hcat : (Value.ref T.heap.size).category = 1 := rfl
  have hcellA : T1.heap[T.heap.size]? = some (freshCell cX kX) := by rw [← hT1]; exact State.heap_pushCell_size _ _
  have d3' : decode c.code (pc + 3) = .ok (.dup, 1) := by rw [hb]; exact d3
  obtain ⟨U, hsteps, hrun, hend, hW, hsame, ce, hce, hO⟩ := X₁.ctorThrow0 hexec htr (own := own) (cls := cls) (names := names) (ic := ic) hown' hcls hnames h (fun x hx => nomatch hx) hfX hkX hcellA (by rw [hhp, hT]; exact Nat.le_refl _)
    (g := { method := m, pc := pc + 4, locals := ls, stack := .ref T.heap.size :: .ref T.heap.size :: rest, locked := none }) rfl hsize rfl rfl (rest := rest) rfl
    (by rw [hb]; exact d4) (by rw [hb]; exact d7) hout hRframes (by simp only [List.map_cons, List.sum_cons, hcat]; omega) hlocks
  obtain ⟨f1, f2⟩ := vx_frame hsame
  rw [hhp] at f1 f2
  have hWs : s.WarmedH U.vm := State.WarmedH.trans hW0 hW
  have hcl : s.vm.findClass cls = some ce.cls := by
    have h9 := hO.cls
    rw [hvm] at h9
    exact h9
  have hall : s.sameButNew ({ U with vm := s.vm } : State) locs mc ms := by
    subst hA
    obtain ⟨e1, e2⟩ := hsame
    rw [State.setFrames_setFrames] at e1
    have h2 : (T.setVm s.vm).sameButNew ({ U with vm := s.vm } : State) [] (0 + 1) (0 + 6) := ⟨e1, e2⟩
    have h3 := X.same.trans h2
    rw [List.append_nil] at h3
    exact h3.mono hc hs
  refine ⟨U, ?_, .threw T.heap.size, hrun, hend, Or.inr ⟨T.heap.size, rfl, cls, ce, locs, hx U hWs.alike f1 (fun q hq => f2 q hq (fun z hz => nomatch hz)), hce, hO.vm, hcl, hWs, hall, hf⟩⟩
  refine st1 _ ?_
  show Steps p.tables e below (T1.setTop { method := m, pc := pc + 3, locals := ls, stack := .ref T.heap.size :: rest, locked := none }) _
  jvm_step X₁.here [X₁.here.top, hexec, d3', Value.category]
  exact hsteps
/-- 'throw new E("text")': new; dup; ldc; invokespecial; athrow -/
theorem vx_throwS {cc : ByteArray} {pc : Nat} (hexec : p.tables.exec = Jvm.exec) (hb : c.code = cc) (hl : l.stackTraces = false) {own cls text : String} {names : List String} {ik is ic mc ms sa : Nat} {A : Nat → Prop}
    (hown : s.vm.findClass own = some m.cls) (hcls : Bundle.fit cls = true) (hnames : ∀ n ∈ names, Bundle.fit n = true)
    (hk : (Cond.classLink own ik cls).before args s = true) (hini : (Cond.initialized cls).before args s = true) (hstr : vk_R own is text sa s) (hat : ∀ w ∈ vx_atS own ic cls names, w.before args s = true)
    (hgood : ∀ w ∈ Cond.classLink own ik cls :: Cond.initialized cls :: vx_atS own ic cls names, vx_ot w = true)
    (hU : vx_Zq Bundle.tN "UNASSIGNED_STACK" Bundle.steD A s s.heap) (hN : vx_Zq Bundle.tN "SUPPRESSED_SENTINEL" Bundle.listD A s s.heap) (hS : va_S A s.heap H locs) (hsize : ls.size = c.maxLocals)
    (d0 : decode cc pc = .ok (.new ik, 3)) (d3 : decode cc (pc + 3) = .ok (.dup, 1)) (d4 : decode cc (pc + 4) = .ok (.ldc is, 2)) (d6 : decode cc (pc + 6) = .ok (.invokespecial ic, 3)) (d9 : decode cc (pc + 9) = .ok (.athrow, 1))
    (hout : ∀ x ∈ c.exceptionTable.toList, covers x (pc + 9) = false)
    (hRframes : names.length + 3 < R.frames) (hRlocals : (rest.map fun v => v.category).sum + (13 * (names.length + 1) + 43) ≤ R.locals) (hRcells : cells + 1 ≤ R.cells) (hRslots : slots + 6 ≤ R.slots) (hlocks : meth.locks = false)
    (hx : ∀ t : State, s.vm.Alike t.vm → H.size ≤ t.heap.size → (∀ q : Nat, q < H.size → t.heap[q]? = H[q]?) → XC cls s t)
    (hf : ∀ z ∈ locs, free z.base) (hc : cells + 1 ≤ mc) (hs : slots + 6 ≤ ms) :
    W p l e R s m args below meth c H locs cells slots (vx_MQ below Qc XC args s mc ms free) (F0 m pc ls rest) := by
  intro T hT X
  have htr : e.platform.stackTraces = false := (show e.platform.stackTraces = l.stackTraces by rw [X.admits.platform]).trans hl
  have Y := vx_rebase X (R' := { frames := R.frames, locals := R.locals, cells := 1, slots := 6 }) (Nat.le_refl _) (Nat.le_refl _) hRcells hRslots
  obtain ⟨s', hA⟩ : ∃ z, z = (T.setVm s.vm).setFrames (.invoking m args :: below) := ⟨_, rfl⟩
  rw [← hA] at Y
  have hvm : s'.vm = s.vm := by rw [hA]; rfl
  have hhp : s'.heap = H := by rw [hA]; exact hT
  have hW0 : s.WarmedH s'.vm := by rw [hvm]; exact State.WarmedH.refl s
  have hat' : ∀ w ∈ vx_atS own ic cls names, w.before args s' = true := fun w hw => vx_ot_at hW0 hvm.symm (hgood w (List.mem_cons_of_mem _ (List.mem_cons_of_mem _ hw))) (hat w hw)
  have hk' : (Cond.classLink own ik cls).before args s' = true := vx_ot_at hW0 hvm.symm (hgood _ List.mem_cons_self) hk
  have hini' : (Cond.initialized cls).before args s' = true := vx_ot_at hW0 hvm.symm (hgood _ (List.mem_cons_of_mem _ List.mem_cons_self)) hini
  have hU' : vx_Zq Bundle.tN "UNASSIGNED_STACK" Bundle.steD A s' s'.heap := by rw [hhp]; exact vx_Zq.moved hW0.alike (hU.kept hS.2.1)
  have hN' : vx_Zq Bundle.tN "SUPPRESSED_SENTINEL" Bundle.listD A s' s'.heap := by rw [hhp]; exact vx_Zq.moved hW0.alike (hN.kept hS.2.1)
  have h : ∀ w ∈ Bundle.ownAtoms own ic cls names, w.before args s' = true := vx_own hat' (vx_isRefq hU'.1) (vx_isRefq hN'.1) hU'.2.word hN'.2.word
  have hown' : s'.vm.findClass own = some m.cls := by rw [hvm]; exact hown
  have hins : (Cond.instantiable cls 6).before args s' = true := h _ (by simp [Bundle.ownAtoms])
  obtain ⟨vm₁, cX, kX, hfX, hkX, -, -, X₁, st1⟩ := Y.newCold hexec (own := own) (C := cls) (index := ik) (n := 6) hown' hk' hins hini'
    (g := F0 m pc ls rest) rfl (by rw [hb]; exact d0) (Nat.le_refl _) (Nat.le_refl _)
  generalize hT1 : (T.setVm vm₁).pushCell { cls := cX, slots := kX.instanceTypes.map defaultValue, vm := .none } = T1 at X₁ st1
  have hcat : (Value.ref T.heap.size).category = 1 := rfl
  have hcellA : T1.heap[T.heap.size]? = some (freshCell cX kX) := by rw [← hT1]; exact State.heap_pushCell_size _ _
  have d3' : decode c.code (pc + 3) = .ok (.dup, 1) := by rw [hb]; exact d3
  have d4' : decode c.code (pc + 4) = .ok (.ldc is, 2) := by rw [hb]; exact d4
  have hstr' : vk_R own is text sa s' := vk_R.warm hW0 hstr
  obtain ⟨U, hsteps, hrun, hend, hW, hsame, ce, hce, hO⟩ := X₁.ctorThrowS hexec htr (own := own) (cls := cls) (names := names) (ic := ic) hown' hcls hnames h (fun x hx => nomatch hx) hfX hkX hcellA (by rw [hhp, hT]; exact Nat.le_refl _) (msg := .ref sa) rfl
    (g := { method := m, pc := pc + 6, locals := ls, stack := .ref sa :: .ref T.heap.size :: .ref T.heap.size :: rest, locked := none }) rfl hsize rfl rfl (rest := rest) rfl
    (by rw [hb]; exact d6) (by rw [hb]; exact d9) hout hRframes (by simp only [List.map_cons, List.sum_cons, hcat]; omega) hlocks
  obtain ⟨f1, f2⟩ := vx_frame hsame
  rw [hhp] at f1 f2
  have hWs : s.WarmedH U.vm := State.WarmedH.trans hW0 hW
  have hcl : s.vm.findClass cls = some ce.cls := by
    have h9 := hO.cls
    rw [hvm] at h9
    exact h9
  have hall : s.sameButNew ({ U with vm := s.vm } : State) locs mc ms := by
    subst hA
    obtain ⟨e1, e2⟩ := hsame
    rw [State.setFrames_setFrames] at e1
    have h2 : (T.setVm s.vm).sameButNew ({ U with vm := s.vm } : State) [] (0 + 1) (0 + 6) := ⟨e1, e2⟩
    have h3 := X.same.trans h2
    rw [List.append_nil] at h3
    exact h3.mono hc hs
  refine ⟨U, ?_, .threw T.heap.size, hrun, hend, Or.inr ⟨T.heap.size, rfl, cls, ce, locs, hx U hWs.alike f1 (fun q hq => f2 q hq (fun z hz => nomatch hz)), hce, hO.vm, hcl, hWs, hall, hf⟩⟩
  refine st1 _ ?_
  show Steps p.tables e below (T1.setTop { method := m, pc := pc + 3, locals := ls, stack := .ref T.heap.size :: rest, locked := none }) _
  jvm_step X₁.here [X₁.here.top, hexec, d3', Value.category]
  exact X₁.ldcString hexec (own := own) (text := text) (index := is) (a := sa) hown' hstr'.1 hstr'.2
    (g := { method := m, pc := pc + 4, locals := ls, stack := .ref T.heap.size :: .ref T.heap.size :: rest, locked := none }) rfl d4' _ hsteps
/-- 'throw new E("text")', the text by a wide index -/
theorem vx_throwSW {cc : ByteArray} {pc : Nat} (hexec : p.tables.exec = Jvm.exec) (hb : c.code = cc) (hl : l.stackTraces = false) {own cls text : String} {names : List String} {ik is ic mc ms sa : Nat} {A : Nat → Prop}
    (hown : s.vm.findClass own = some m.cls) (hcls : Bundle.fit cls = true) (hnames : ∀ n ∈ names, Bundle.fit n = true)
    (hk : (Cond.classLink own ik cls).before args s = true) (hini : (Cond.initialized cls).before args s = true) (hstr : vk_R own is text sa s) (hat : ∀ w ∈ vx_atS own ic cls names, w.before args s = true)
    (hgood : ∀ w ∈ Cond.classLink own ik cls :: Cond.initialized cls :: vx_atS own ic cls names, vx_ot w = true)
    (hU : vx_Zq Bundle.tN "UNASSIGNED_STACK" Bundle.steD A s s.heap) (hN : vx_Zq Bundle.tN "SUPPRESSED_SENTINEL" Bundle.listD A s s.heap) (hS : va_S A s.heap H locs) (hsize : ls.size = c.maxLocals)
    (d0 : decode cc pc = .ok (.new ik, 3)) (d3 : decode cc (pc + 3) = .ok (.dup, 1)) (d4 : decode cc (pc + 4) = .ok (.ldc_w is, 3)) (d7 : decode cc (pc + 7) = .ok (.invokespecial ic, 3)) (d10 : decode cc (pc + 10) = .ok (.athrow, 1))
    (hout : ∀ x ∈ c.exceptionTable.toList, covers x (pc + 10) = false)
    (hRframes : names.length + 3 < R.frames) (hRlocals : (rest.map fun v => v.category).sum + (13 * (names.length + 1) + 43) ≤ R.locals) (hRcells : cells + 1 ≤ R.cells) (hRslots : slots + 6 ≤ R.slots) (hlocks : meth.locks = false)
    (hx : ∀ t : State, s.vm.Alike t.vm → H.size ≤ t.heap.size → (∀ q : Nat, q < H.size → t.heap[q]? = H[q]?) → XC cls s t)
    (hf : ∀ z ∈ locs, free z.base) (hc : cells + 1 ≤ mc) (hs : slots + 6 ≤ ms) :
    W p l e R s m args below meth c H locs cells slots (vx_MQ below Qc XC args s mc ms free) (F0 m pc ls rest) := by
  intro T hT X
  have htr : e.platform.stackTraces = false := (show e.platform.stackTraces = l.stackTraces by rw [X.admits.platform]).trans hl
  have Y := vx_rebase X (R' := { frames := R.frames, locals := R.locals, cells := 1, slots := 6 }) (Nat.le_refl _) (Nat.le_refl _) hRcells hRslots
  obtain ⟨s', hA⟩ : ∃ z, z = (T.setVm s.vm).setFrames (.invoking m args :: below) := ⟨_, rfl⟩
  rw [← hA] at Y
  have hvm : s'.vm = s.vm := by rw [hA]; rfl
  have hhp : s'.heap = H := by rw [hA]; exact hT
  have hW0 : s.WarmedH s'.vm := by rw [hvm]; exact State.WarmedH.refl s
  have hat' : ∀ w ∈ vx_atS own ic cls names, w.before args s' = true := fun w hw => vx_ot_at hW0 hvm.symm (hgood w (List.mem_cons_of_mem _ (List.mem_cons_of_mem _ hw))) (hat w hw)
  have hk' : (Cond.classLink own ik cls).before args s' = true := vx_ot_at hW0 hvm.symm (hgood _ List.mem_cons_self) hk
  have hini' : (Cond.initialized cls).before args s' = true := vx_ot_at hW0 hvm.symm (hgood _ (List.mem_cons_of_mem _ List.mem_cons_self)) hini
  have hU' : vx_Zq Bundle.tN "UNASSIGNED_STACK" Bundle.steD A s' s'.heap := by rw [hhp]; exact vx_Zq.moved hW0.alike (hU.kept hS.2.1)
  have hN' : vx_Zq Bundle.tN "SUPPRESSED_SENTINEL" Bundle.listD A s' s'.heap := by rw [hhp]; exact vx_Zq.moved hW0.alike (hN.kept hS.2.1)
  have h : ∀ w ∈ Bundle.ownAtoms own ic cls names, w.before args s' = true := vx_own hat' (vx_isRefq hU'.1) (vx_isRefq hN'.1) hU'.2.word hN'.2.word
  have hown' : s'.vm.findClass own = some m.cls := by rw [hvm]; exact hown
  have hins : (Cond.instantiable cls 6).before args s' = true := h _ (by simp [Bundle.ownAtoms])
  obtain ⟨vm₁, cX, kX, hfX, hkX, -, -, X₁, st1⟩ := Y.newCold hexec (own := own) (C := cls) (index := ik) (n := 6) hown' hk' hins hini'
    (g := F0 m pc ls rest) rfl (by rw [hb]; exact d0) (Nat.le_refl _) (Nat.le_refl _)
  generalize hT1 : (T.setVm vm₁).pushCell { cls := cX, slots := kX.instanceTypes.map defaultValue, vm := .none } = T1 at X₁ st1
  have hcat : (Value.ref T.heap.size).category = 1 := rfl
  have hcellA : T1.heap[T.heap.size]? = some (freshCell cX kX) := by rw [← hT1]; exact State.heap_pushCell_size _ _
  have d3' : decode c.code (pc + 3) = .ok (.dup, 1) := by rw [hb]; exact d3
  have d4' : decode c.code (pc + 4) = .ok (.ldc_w is, 3) := by rw [hb]; exact d4
  have hstr' : vk_R own is text sa s' := vk_R.warm hW0 hstr
  obtain ⟨U, hsteps, hrun, hend, hW, hsame, ce, hce, hO⟩ := X₁.ctorThrowS hexec htr (own := own) (cls := cls) (names := names) (ic := ic) hown' hcls hnames h (fun x hx => nomatch hx) hfX hkX hcellA (by rw [hhp, hT]; exact Nat.le_refl _) (msg := .ref sa) rfl
    (g := { method := m, pc := pc + 7, locals := ls, stack := .ref sa :: .ref T.heap.size :: .ref T.heap.size :: rest, locked := none }) rfl hsize rfl rfl (rest := rest) rfl
    (by rw [hb]; exact d7) (by rw [hb]; exact d10) hout hRframes (by simp only [List.map_cons, List.sum_cons, hcat]; omega) hlocks
  obtain ⟨f1, f2⟩ := vx_frame hsame
  rw [hhp] at f1 f2
  have hWs : s.WarmedH U.vm := State.WarmedH.trans hW0 hW
  have hcl : s.vm.findClass cls = some ce.cls := by
    have h9 := hO.cls
    rw [hvm] at h9
    exact h9
  have hall : s.sameButNew ({ U with vm := s.vm } : State) locs mc ms := by
    subst hA
    obtain ⟨e1, e2⟩ := hsame
    rw [State.setFrames_setFrames] at e1
    have h2 : (T.setVm s.vm).sameButNew ({ U with vm := s.vm } : State) [] (0 + 1) (0 + 6) := ⟨e1, e2⟩
    have h3 := X.same.trans h2
    rw [List.append_nil] at h3
    exact h3.mono hc hs
  refine ⟨U, ?_, .threw T.heap.size, hrun, hend, Or.inr ⟨T.heap.size, rfl, cls, ce, locs, hx U hWs.alike f1 (fun q hq => f2 q hq (fun z hz => nomatch hz)), hce, hO.vm, hcl, hWs, hall, hf⟩⟩
  refine st1 _ ?_
  show Steps p.tables e below (T1.setTop { method := m, pc := pc + 3, locals := ls, stack := .ref T.heap.size :: rest, locked := none }) _
  jvm_step X₁.here [X₁.here.top, hexec, d3', Value.category]
  exact X₁.ldcStringW hexec (own := own) (text := text) (index := is) (a := sa) hown' hstr'.1 hstr'.2
    (g := { method := m, pc := pc + 4, locals := ls, stack := .ref T.heap.size :: .ref T.heap.size :: rest, locked := none }) rfl d4' _ hsteps
end Ends
section Bodies
variable {l : Launch}
theorem vx_ofW {y : MethodName} {ws ws' : List Cond} {rm : Room} {Pc : Array Value → State → Prop} {Qc : Array Value → State → Outcome → State → Prop} {XC : String → State → State → Prop} {mc ms : Nat} {free : Addr → Prop} {cc : ByteArray} {maxL : Nat} {ret : Option FieldType}
    (hy : plainName y.cls = true) (hw : ws = Cond.code y cc maxL ret :: ws')
    (body : ∀ p e s m args below meth c s₁, BodyLoose p l y (headSpec ws rm) cc maxL ret e s m args below meth c s₁ → c.maxLocals = maxL → (∀ x ∈ c.exceptionTable.toList, False) → Pc args s →
      W p l e (headSpec ws rm).room s m args below meth c s.heap [] 0 0 (vx_MQ below Qc XC args s mc ms free) (entryFrame m args maxL)) : vx_Met l y ws rm Pc Qc XC mc ms free := by
  refine MetFree.of_bodyS (code := cc) (maxLocals := maxL) (ret := ret) hy ?_ ?_
  · intro args s m h hn
    obtain ⟨meth, c, h1, h2, h3, h4, h5, h6, -, -⟩ := Cond.code_spec hn (atoms_spec (ws := ws) h _ (by rw [hw]; exact List.mem_cons_self))
    exact ⟨meth, c, h1, h2, h3, h4, h5, h6⟩
  · intro p e s m args below meth c s₁ B hml hP _
    have hh0 : s₁.heap = s.heap := by rw [B.state]; rfl
    have ht : ∀ x ∈ c.exceptionTable.toList, False := by
      obtain ⟨meth9, c9, h1, h2, -, -, -, -, h7, -⟩ := Cond.code_spec B.named (atoms_spec (ws := ws) B.pre _ (by rw [hw]; exact List.mem_cons_self))
      cases Option.some.inj (h1.symm.trans B.method)
      cases Option.some.inj (h2.symm.trans (Stand.of_body B).code)
      intro x hx
      rw [Array.isEmpty_iff.mp h7] at hx
      cases hx
    obtain ⟨t, a1, o, b1, b2, b3⟩ := body p e s m args below meth c s₁ B hml ht hP s₁ hh0 (Stand.of_body B)
    exact ⟨t, o, a1, b1, b2, b3⟩
/-- the table of a body with handlers -/
theorem vx_table {p : Program} {x y : MethodName} {S : Spec} {cc bytes : ByteArray} {maxL maxL' : Nat} {ret ret' : Option FieldType} {e : Env} {s s₁ : State} {m : MethodId} {args : Array Value} {below : List Frame} {meth : Method} {c : Code} {hh : List (Nat × Nat × Nat × Nat)}
    (B : BodyLoose p l y S cc maxL ret e s m args below meth c s₁) (h : (Cond.codeWith y bytes maxL' ret' hh).before args s = true) : c.exceptionTable.toList = tableOf hh := by
  obtain ⟨m9, meth9, c9, hn9, h1, h2, -, -, h6, -⟩ := Cond.codeWith_spec h
  cases Option.some.inj (hn9.symm.trans B.named)
  cases Option.some.inj (h1.symm.trans B.method)
  cases Option.some.inj (h2.symm.trans (Stand.of_body B).code)
  rw [← h6, table_eq]
end Bodies
end VXA
/-! ===== END ===== -/
/-! ===== BEGIN a static call of a method with an exception table ===== -/
section VXS
variable {p : Program} {l : Launch} {e : Env} {R : Room} {s : State} {m : MethodId} {args : Array Value} {below : List Frame} {meth : Method} {c : Code} {T : State} {H : Heap} {locs : List Loc} {cells slots : Nat}
abbrev vx_CSW (R : Room) (s : State) (args : Array Value) (own : String) (index : Nat) (y : MethodName) (bytes : ByteArray) (maxL : Nat) (ret : Option FieldType) (hh : List (Nat × Nat × Nat × Nat)) (ws : List Cond) (rm : Room) (mc ms n : Nat) : Prop :=
  (rm.cells = mc ∧ rm.slots = ms ∧ rm.frames + 1 ≤ R.frames ∧ 8 + (maxL + 11) + rm.locals ≤ R.locals ∧ (∀ w ∈ ws, ∀ (a' : Array Value) (U : State), s.WarmedH U.vm → w.before a' U = true) ∧ Cond.codeWith y bytes maxL ret hh ∈ ws) ∧
  (Cond.codeWith y bytes maxL ret hh).before args s = true ∧ (Cond.initialized y.cls).before args s = true ∧ (y.cls ≠ "java/lang/invoke/MethodHandle" ∧ y.cls ≠ "java/lang/invoke/VarHandle") ∧
  (∀ sig, parseMethodDescriptor y.desc = some sig → n = sig.parameters.length) ∧ (Cond.methodLink own index y).before args s = true ∧ (Cond.static y).before args s = true
theorem vx_cwSW {own : String} {index maxL mc ms : Nat} {y : MethodName} {bytes : ByteArray} {ret : Option FieldType} {hh : List (Nat × Nat × Nat × Nat)} {Ts ws ws' : List Cond} {rm : Room} (n : Nat) (ht : ∀ w ∈ Ts, w.before args s = true) (hT : GoodIn Ts (va_wsS own index y ws)) (hw : ws = Cond.codeWith y bytes maxL ret hh :: ws') (hrc : rm.cells = mc) (hrs : rm.slots = ms)
    (hd : y.cls ≠ "java/lang/invoke/MethodHandle" ∧ y.cls ≠ "java/lang/invoke/VarHandle" ∧ (parseMethodDescriptor y.desc).map (fun d => d.parameters.length) = some n) (hR : rm.frames + 1 ≤ R.frames ∧ 8 + (maxL + 11) + rm.locals ≤ R.locals) :
    vx_CSW R s args own index y bytes maxL ret hh ws rm mc ms n := by
  have ok : ∀ w ∈ va_wsS own index y ws, w.before args s = true := fun w h => ht w (hT w h).1
  have hG : GoodIn Ts ws := fun w h => hT w (by unfold va_wsS; exact List.mem_append_right _ h)
  have hc : Cond.codeWith y bytes maxL ret hh ∈ ws := by rw [hw]; exact List.mem_cons_self
  refine ⟨⟨hrc, hrs, hR.1, hR.2, pay_in ht hG, hc⟩, ht _ (hG _ hc).1, ok _ (by simp [va_wsS]), ⟨hd.1, hd.2.1⟩, fun sig h => ?_, ok _ (by simp [va_wsS]), ok _ (by simp [va_wsS])⟩
  have h2 := hd.2.2
  rw [h] at h2
  exact (Option.some.inj h2).symm
theorem vx_callSW (X : Stand p l e R s m args below meth c T locs cells slots) (hexec : p.tables.exec = Jvm.exec) {own : String} {index : Nat} {y : MethodName} {bytes : ByteArray} {maxL : Nat} {ret : Option FieldType} {hh : List (Nat × Nat × Nat × Nat)}
    (hown : s.vm.findClass own = some m.cls) (hlink : (Cond.methodLink own index y).before args s = true) (hstat : (Cond.static y).before args s = true) (hinit : (Cond.initialized y.cls).before args s = true)
    (hcode : (Cond.codeWith y bytes maxL ret hh).before args s = true) (hy : y.cls ≠ "java/lang/invoke/MethodHandle" ∧ y.cls ≠ "java/lang/invoke/VarHandle")
    {W9 : Nat} {Pre : Pt → Array Value → Prop} {Post : Pt → Array Value → Option Value → Pt → Prop} (hK : Back l R p e below s args y 3 W9 Pre Post)
    {g : JFrame} (hg : g.method = m) (hsize : g.locals.size = c.maxLocals) {argsL rest : List Value} (hlen : ∀ sig, parseMethodDescriptor y.desc = some sig → argsL.length = sig.parameters.length)
    (hstack : g.stack = argsL.reverse ++ rest) (hW : 2 * g.monitorRoom + (rest.map fun v => v.category).sum ≤ W9) (hdg : decode c.code g.pc = .ok (.invokestatic index, 3))
    (hpre : ∀ vm₁, s.WarmedH vm₁ → Pre ⟨T.setVm vm₁, locs, cells, slots⟩ argsL.toArray) :
    ∃ (v : Option Value) (vm₁ : Vm) (B : Pt), s.WarmedH vm₁ ∧ Stand p l e R s m args below meth c B.U B.locs B.cells B.slots ∧ Post ⟨T.setVm vm₁, locs, cells, slots⟩ argsL.toArray v B ∧
      ∀ target, Steps p.tables e below (B.U.setTop { g with pc := g.pc + 3, stack := v.toList ++ rest }) target → Steps p.tables e below (T.setTop g) target := by
  obtain ⟨mk, methM, cM, hnamed, hmethM, -, -, -, -, -, -, hsigM⟩ := Cond.codeWith_spec hcode
  have hstatic : methM.isStatic = true := Cond.static_spec hnamed hmethM hstat
  obtain ⟨kP, hkP, -⟩ := className_of_methodNamed hnamed
  have hinitP : kP.init = .initialized := Cond.initialized_spec (findClass_of_methodNamed hnamed) hkP hinit
  obtain ⟨vm₁, X₁, hstep₁⟩ := X.invokestatic hexec hown hlink hnamed hmethM hstatic hkP hinitP hy (g := g) hg (argsL := argsL) (rest := rest) (hlen _ hsigM) hstack hdg
  obtain ⟨v, B, X', hpost, hsteps⟩ := hK m meth c ⟨T.setVm vm₁, locs, cells, slots⟩ { g with stack := rest } (.invokestatic index) mk argsL.toArray X₁ hg hsize hdg hW (X₁.named hnamed) (hpre vm₁ X₁.warmed)
  exact ⟨v, vm₁, B, X₁.warmed, X', hpost, fun target h => hstep₁ _ fun acts => by rw [doInvoke_state]; exact hsteps.trans h⟩
theorem vx_runSW {y : MethodName} {bytes cc : ByteArray} {maxL nL mc ms n index : Nat} {ret : Option FieldType} {hh : List (Nat × Nat × Nat × Nat)} {ws : List Cond} {rm : Room} {Pc : Array Value → State → Prop} {Qc : Array Value → State → Outcome → State → Prop} {free : Addr → Prop} {Ts : List Cond} {own : String} {As rest : List Value} {g : JFrame}
    (S : CallFix p m c cc nL s args Ts own) (hM : Met l y ws rm Pc Qc mc ms free) (cw : vx_CSW R s args own index y bytes maxL ret hh ws rm mc ms n) (hp : PreS s H Pc As)
    (hg : g.method = m) (hn : As.length = n) (hsize : g.locals.size = nL) (hstack : g.stack = As.reverse ++ rest) (hW : 2 * g.monitorRoom + (rest.map fun v => v.category).sum ≤ 8) (hdg : decode cc g.pc = .ok (.invokestatic index, 3)) (hf : cells + mc ≤ R.cells ∧ slots + ms ≤ R.slots) :
    va_Run p l e R s m args below meth c H locs cells slots mc ms g rest (Qc As.toArray) (free) := by
  obtain ⟨⟨hrc, hrs, hfr, hlo, hws, hcw⟩, hcode, hini, hy, hlen, hl, hstt⟩ := cw
  have hK : Back l R p e below s args y 3 8 (PreOf R mc ms Pc) (PostOf Qc mc ms free) := va_backW (hh := hh) (bytes := bytes) (maxL := maxL) (ret := ret) hM hp.1 hrc hrs hfr hlo hws hcw (fun a' U hW => word_at hW (Or.inl (by first | rfl | simp [Cond.onTables, Cond.keeps, Cond.steady])) hini)
  obtain ⟨hx, hb, hml, ho, -⟩ := S
  intro T hT X
  obtain ⟨v, vm₁, ⟨U', l2, c2, s2⟩, hW₁, X', ⟨g', mk, t, L, e1, e2, hq, h1, hL, h2, h3⟩, st⟩ := vx_callSW X hx (hh := hh) (bytes := bytes) (maxL := maxL) (ret := ret) ho hl hstt hini hcode hy hK hg (hsize.trans hml.symm) (argsL := As) (rest := rest) (fun sig h => hn.trans (hlen sig h)) hstack hW (by rw [hb]; exact hdg)
    (fun vm₁ hW₁ => ⟨hf.1, hf.2, hp.2 (T.setVm vm₁) hT hW₁⟩)
  dsimp only [Pt.U, Pt.locs, Pt.cells, Pt.slots] at X' e1 e2 h1 h2 h3 st
  subst h1; subst h2; subst h3
  exact ⟨v, (T.setVm vm₁).calling g' mk As.toArray, t, U', L, hT, X', hL, e1, e2, hq, st⟩
/-- not caught here, past rows that name other classes: it goes on to the caller -/
theorem vx_outP {p : Program} {l : Launch} {e : Env} {R : Room} {s : State} {m : MethodId} {args : Array Value} {below : List Frame} {meth : Method} {c : Code} {H : Heap} {locs : List Loc} {cells slots : Nat} {free : Addr → Prop} {ls : Array Slot} {rest : List Value} {Qc : Array Value → State → Outcome → State → Prop} {XC : String → State → State → Prop}
    {pc : Nat} {own E : String} {ce : Cell} {q : Addr} {mc ms : Nat} (hown : s.vm.findClass own = some m.cls) (hlocks : meth.locks = false)
    (hpass : ∀ z ∈ c.exceptionTable.toList, covers z pc = false ∨ (z.catchType ≠ 0 ∧ ∃ nm : String, (Cond.classLink own z.catchType nm).before args s = true ∧ va_Nc E nm s)) (hcell : H[q]? = some ce) (hv : ce.vm = .none) (hcl : s.vm.findClass E = some ce.cls)
    (hx : ∀ t : State, t.heap = H → s.vm.Alike t.vm → XC E s t) (hf : ∀ z ∈ locs, free z.base) (hc : cells ≤ mc) (hs : slots ≤ ms) :
    vx_W p l e R s m args below meth c H locs cells slots (vx_MQ below Qc XC args s mc ms free) (F0 m pc ls rest) q := by
  intro T hT X
  have hpl : e.platform.magicAccessors = ({} : Platform).magicAccessors := by rw [X.admits.platform]
  obtain ⟨vm', hW', X', st⟩ := X.outThrough hlocks q (g := F0 m pc ls rest) rfl rfl rfl (cell := ce) (by rw [hT]; exact hcell) (by rw [hv]; rfl)
    (by obtain ⟨k9, h9, -⟩ := Vm.findClass_spec hcl; exact ⟨k9, h9⟩) (fun z hz => by
      rcases hpass z hz with h | ⟨hz0, nm, hl1, hn1⟩
      · exact Or.inl h
      · obtain ⟨c6, hc6, hcl6⟩ := Cond.classLink_spec hown hl1 e.platform hpl
        obtain ⟨a8, b8, h1, h2, h3⟩ := hn1
        cases Option.some.inj (h1.symm.trans hcl)
        cases Option.some.inj (h2.symm.trans hc6)
        exact Or.inr ⟨hz0, _, hcl6, h3⟩)
  obtain ⟨g₀, hfr⟩ := X'.frames_eq
  have hcell9 : ((T.setVm vm').setFrames (.throwing q :: below)).heap[q]? = some ce := by
    show T.heap[q]? = some ce
    rw [hT]; exact hcell
  have hend : Ended ((T.setVm vm').setFrames (.throwing q :: below)) below (.threw q) := State.frames_setFrames _ (State.cur_lt_of_frames hfr)
  refine ⟨(T.setVm vm').setFrames (.throwing q :: below), ?_, .threw q, X'.here.running, hend, Or.inr ⟨q, rfl, E, ce, locs, hx _ hT (X'.ends _).1.alike, hcell9, hv, hcl, (X'.ends _).1, (X'.ends _).2.mono hc hs, hf⟩⟩
  rw [X.pushThrowing_eq]
  exact st
/-- a thing of a world lies in the heap -/
theorem vx_lt {D : va_G} {cl : List vw_C} {ws : va_W} {H1 : Heap} (h : va_P D cl ws H1) {k : Nat} {q : Nat × va_E} (hk : ws[k]? = some q) : q.1 < H1.size := (h k q hk).lt
end VXS
/-! ===== END ===== -/
/-! ===== BEGIN methods with a table of their own: called by a name, returning or throwing ===== -/
section VXH
/-! vx_backW, vx_callVX, vx_callSX, vx_callVW, vx_runVW, vx_runVX, vx_runSX, vx_ofWH follow the same proofs as their sisters above (Free/Laws.lean, Shelf42/LK1.lean); vx_outP calls Shelf42/NT130.lean (outThrough). -/
section
variable {l : Launch} {R : Room} {p : Program} {e : Env} {below : List Frame} {s : State} {sargs : Array Value} {y : MethodName} {len W9 : Nat}
theorem vx_backW {ws : List Cond} {rm : Room} {Pc : Array Value → State → Prop} {Qc : Array Value → State → Outcome → State → Prop} {XC : String → State → State → Prop} {mc ms : Nat} {free : Addr → Prop} {bytes : ByteArray} {maxL : Nat} {ret : Option FieldType} {hh : List (Nat × Nat × Nat × Nat)}
    (hM : vx_Met l y ws rm Pc Qc XC mc ms free) (hblind : FrameBlind Pc) (hrc : rm.cells = mc) (hrs : rm.slots = ms)
    (hframes : rm.frames + 1 ≤ R.frames) (hlocals : W9 + (maxL + 11) + rm.locals ≤ R.locals)
    (hws : ∀ w ∈ ws, ∀ a' U, s.WarmedH U.vm → w.before a' U = true) (hcode : Cond.codeWith y bytes maxL ret hh ∈ ws) (hinit : ∀ a' U, s.WarmedH U.vm → (Cond.initialized y.cls).before a' U = true) :
    vx_Back l R p e below s sargs y len W9 (PreOf R mc ms Pc) (PostOf Qc mc ms free) (vx_Post XC mc ms free) := by
  intro m meth c A g ig mk a X hg hsize hdg hW hn hp
  have h1 : (headSpec ws rm).pre.before a A.U = true := atoms_intro fun w hw => hws w hw _ _ X.warmed
  have h2 : (Cond.codeWith y bytes maxL ret hh).before a A.U = true := hws _ hcode _ _ X.warmed
  have h3 : (Cond.initialized y.cls).before a A.U = true := hinit _ _ X.warmed
  have h4 : A.cells + (headSpec ws rm).room.cells ≤ R.cells := by rw [show (headSpec ws rm).room.cells = mc from hrc]; exact hp.1
  have h5 : A.slots + (headSpec ws rm).room.slots ≤ R.slots := by rw [show (headSpec ws rm).room.slots = ms from hrs]; exact hp.2.1
  have hPc : Pc a (A.U.calling g mk a) := hblind _ _ _ _ hp.2.2
  obtain ⟨U, Ls, c0, s0⟩ := A
  dsimp only [Pt.U, Pt.locs, Pt.cells, Pt.slots] at h1 h2 h3 h4 h5 X hn hPc ⊢
  obtain ⟨m9, methY, cY, hn9, hmY, hcY, -, hlY, -⟩ := Cond.codeWith_spec h2
  cases Option.some.inj (hn9.symm.trans hn)
  obtain ⟨kY, hkY, -⟩ := className_of_methodNamed hn
  have hinitY : kY.init = .initialized := Cond.initialized_spec (findClass_of_methodNamed hn) hkY h3
  have h : At U g.method c below := by rw [hg]; exact X.here
  have hlocals9 : W9 + (maxL + 11) + (headSpec ws rm).room.locals ≤ R.locals := hlocals
  have happ : (headSpec ws rm).appliesLoose y e.platform (U.calling g mk a) = true :=
    Spec.appliesLoose_calling (g := g) h hdg hn hkY hinitY
      (X.room_calling (g := g) (R' := (headSpec ws rm).room) hsize hmY hcY hframes (by rw [hlY]; omega) h4 h5) h1
  obtain ⟨mid, hmid⟩ := h.above
  have hfr : (U.setTop g).frames = (.java g :: mid) ++ below := by rw [State.frames_setTop' g h.top, hmid]; rfl
  obtain ⟨o, s₂, hsteps, -, hend, hq⟩ := Steps.callFree hM p X.admits X.cas X.clock (acts := []) hfr happ hPc trivial
  have hq' : vx_Q Qc XC mc ms free a (U.calling g mk a) o s₂ := hq
  rw [State.frames_setTop' g h.top] at hend
  obtain ⟨g₀, hg0⟩ := Option.isSome_iff_exists.mp h.top
  obtain ⟨r, hr⟩ := State.topJava?_eq_some.mp hg0
  have hr' : (({ U with heap := s₂.heap, slotsUsed := s₂.slotsUsed } : State).setVm s₂.vm).frames = .java g₀ :: r := hr
  rcases hq' with ⟨hqc, L, hfe, hL⟩ | ⟨q, rfl, E, ce, L, hx, hce, hcv, hcl, hW₂, hsm, hL⟩
  · obtain ⟨⟨v, rfl⟩, hW₂, e2, q2, q3, q4, q5, q6⟩ := id hfe
    have e3 : s₂ = ({ (U.calling g mk a).setFrames s₂.frames with heap := s₂.heap, slotsUsed := s₂.slotsUsed } : State).setVm s₂.vm := by
      have : s₂ = ({ s₂ with vm := (U.calling g mk a).vm } : State).setVm s₂.vm := rfl
      rw [e2] at this
      exact this
    obtain ⟨c₂, i₂, len₂, hc₂, hd₂, hf₂⟩ := hend
    have hW' : U.WarmedH s₂.vm := hW₂
    have hcc : c₂ = c := by
      have h1 : s₂.code? g.method = U.code? g.method := by
        rw [State.code?_eq, State.code?_eq, hW'.alike.method?]
      exact Option.some.inj (hc₂.symm.trans (h1.trans h.code))
    subst hcc
    have hlen : len₂ = len := by rw [hdg] at hd₂; cases hd₂; rfl
    subst hlen
    have hs₂ : s₂ = (({ U with heap := s₂.heap, slotsUsed := s₂.slotsUsed } : State).setVm s₂.vm).setTop { g with pc := g.pc + len₂, stack := v.toList ++ g.stack } := by
      refine e3.trans ?_
      rw [hf₂, State.calling_eq h.top, State.setFrames_setFrames, State.setTop_of_frames _ hr', hr]
      rfl
    have hsame : U.sameButNew ({ U with heap := s₂.heap, slotsUsed := s₂.slotsUsed } : State) L mc ms := by
      refine ⟨?_, q2, q3, q4, q5, q6⟩
      obtain ⟨t, ht, -⟩ := State.frames_cons hr
      show ({ U with heap := s₂.heap, slotsUsed := s₂.slotsUsed } : State) = { U.setFrames U.frames with heap := s₂.heap, slotsUsed := s₂.slotsUsed }
      rw [State.setFrames_self ht]
    subst hg
    refine Or.inl ⟨v, ⟨(({ U with heap := s₂.heap, slotsUsed := s₂.slotsUsed } : State).setVm s₂.vm), Ls ++ L, c0 + mc, s0 + ms⟩,
      ⟨X.admits, X.cas, X.clock, X.frames, X.room, X.hears, X.method, X.code, (X.here.setHeapUsed s₂.heap s₂.slotsUsed).setVm hW'.alike, X.tail, State.WarmedH.trans X.warmed hW', X.limits, X.bytes, X.same.trans (hsame.setVm s.vm)⟩,
      ⟨g, mk, s₂, L, rfl, rfl, hqc, rfl, hL, rfl, rfl⟩, ?_⟩
    show Steps p.tables e below _ ((({ U with heap := s₂.heap, slotsUsed := s₂.slotsUsed } : State).setVm s₂.vm).setTop { g with pc := g.pc + len₂, stack := v.toList ++ g.stack })
    rw [← hs₂]
    exact hsteps
  · obtain ⟨e2, q2, q3, q4, q5, q6⟩ := id hsm
    have e3 : s₂ = ({ (U.calling g mk a).setFrames s₂.frames with heap := s₂.heap, slotsUsed := s₂.slotsUsed } : State).setVm s₂.vm := by
      have : s₂ = ({ s₂ with vm := (U.calling g mk a).vm } : State).setVm s₂.vm := rfl
      rw [e2] at this
      exact this
    have hf₂ : s₂.frames = .throwing q :: .java g :: U.frames.tail := hend
    have hW' : U.WarmedH s₂.vm := hW₂
    have hs₂ : s₂ = ((({ U with heap := s₂.heap, slotsUsed := s₂.slotsUsed } : State).setVm s₂.vm).setTop g).pushFrame (.throwing q) := by
      refine e3.trans ?_
      rw [hf₂, State.calling_eq h.top, State.setFrames_setFrames, State.pushFrame, State.frames_setTop _ hr', State.setTop_of_frames _ hr', State.setFrames_setFrames, hr]
      rfl
    have hsame : U.sameButNew ({ U with heap := s₂.heap, slotsUsed := s₂.slotsUsed } : State) L mc ms := by
      refine ⟨?_, q2, q3, q4, q5, q6⟩
      obtain ⟨t, ht, -⟩ := State.frames_cons hr
      show ({ U with heap := s₂.heap, slotsUsed := s₂.slotsUsed } : State) = { U.setFrames U.frames with heap := s₂.heap, slotsUsed := s₂.slotsUsed }
      rw [State.setFrames_self ht]
    subst hg
    refine Or.inr ⟨q, ⟨(({ U with heap := s₂.heap, slotsUsed := s₂.slotsUsed } : State).setVm s₂.vm), Ls ++ L, c0 + mc, s0 + ms⟩,
      ⟨X.admits, X.cas, X.clock, X.frames, X.room, X.hears, X.method, X.code, (X.here.setHeapUsed s₂.heap s₂.slotsUsed).setVm hW'.alike, X.tail, State.WarmedH.trans X.warmed hW', X.limits, X.bytes, X.same.trans (hsame.setVm s.vm)⟩,
      ⟨g, mk, s₂, L, E, ce, rfl, rfl, hx, hce, hcv, hcl, rfl, hL, rfl, rfl⟩, ?_⟩
    show Steps p.tables e below _ (((({ U with heap := s₂.heap, slotsUsed := s₂.slotsUsed } : State).setVm s₂.vm).setTop g).pushFrame (.throwing q))
    rw [← hs₂]
    exact hsteps
end
variable {p : Program} {l : Launch} {e : Env} {R : Room} {s : State} {m : MethodId} {args : Array Value} {below : List Frame} {meth : Method} {c : Code} {T : State} {H : Heap} {locs : List Loc} {cells slots : Nat}
theorem vx_callVX (X : Stand p l e R s m args below meth c T locs cells slots) (hexec : p.tables.exec = Jvm.exec) {own C : String} {index : Nat} {y : MethodName} {bytes : ByteArray} {maxL : Nat} {ret : Option FieldType} {hh : List (Nat × Nat × Nat × Nat)}
    (hown : s.vm.findClass own = some m.cls) (hlink : (Cond.methodLink own index y).before args s = true) (hinst : (Cond.instanceMethod y).before args s = true) (hsel : (Cond.selects C y y).before args s = true)
    (hcode : (Cond.codeWith y bytes maxL ret hh).before args s = true) (hy : y.cls ≠ "java/lang/invoke/MethodHandle" ∧ y.cls ≠ "java/lang/invoke/VarHandle")
    {W9 : Nat} {Pre : Pt → Array Value → Prop} {Post : Pt → Array Value → Option Value → Pt → Prop} {PostX : Pt → Array Value → Addr → Pt → Prop} (hK : vx_Back l R p e below s args y 3 W9 Pre Post PostX)
    {b : Addr} {cellB : Cell} (hcell : T.heap[b]? = some cellB) (hobj : cellB.vm.isStatics = false) (hcls : s.vm.findClass C = some cellB.cls)
    {g : JFrame} (hg : g.method = m) (hsize : g.locals.size = c.maxLocals) {argsL rest : List Value} (hlen : ∀ sig, parseMethodDescriptor y.desc = some sig → argsL.length = sig.parameters.length)
    (hstack : g.stack = argsL.reverse ++ .ref b :: rest) (hW : 2 * g.monitorRoom + (rest.map fun v => v.category).sum ≤ W9) (hdg : decode c.code g.pc = .ok (.invokevirtual index, 3))
    (hpre : ∀ vm₁, s.WarmedH vm₁ → Pre ⟨T.setVm vm₁, locs, cells, slots⟩ (Value.ref b :: argsL).toArray) :
    (∃ (v : Option Value) (vm₁ : Vm) (B : Pt), s.WarmedH vm₁ ∧ Stand p l e R s m args below meth c B.U B.locs B.cells B.slots ∧ Post ⟨T.setVm vm₁, locs, cells, slots⟩ (Value.ref b :: argsL).toArray v B ∧
      ∀ target, Steps p.tables e below (B.U.setTop { g with pc := g.pc + 3, stack := v.toList ++ rest }) target → Steps p.tables e below (T.setTop g) target) ∨
    (∃ (q : Addr) (vm₁ : Vm) (B : Pt), s.WarmedH vm₁ ∧ Stand p l e R s m args below meth c B.U B.locs B.cells B.slots ∧ PostX ⟨T.setVm vm₁, locs, cells, slots⟩ (Value.ref b :: argsL).toArray q B ∧
      Steps p.tables e below (T.setTop g) ((B.U.setTop { g with stack := rest }).pushFrame (.throwing q))) := by
  obtain ⟨mk, methM, hnamed, hmethM, hstM, habM⟩ := Cond.instanceMethod_spec hinst
  obtain ⟨m8, methM', cM, hn8, hmethM', -, -, -, -, -, -, hsigM⟩ := Cond.codeWith_spec hcode
  cases Option.some.inj (hn8.symm.trans hnamed)
  cases hmethM.symm.trans hmethM'
  obtain ⟨c2, r2, m2, q1, q2, q3, q4, kP, hkP, hkPi⟩ := Cond.selects_spec hsel
  cases hcls.symm.trans q1
  cases (State.methodFound?_of_named hnamed hy).symm.trans q2
  cases hnamed.symm.trans q3
  have hselP : selectMethod e.platform s.vm cellB.cls mk = .method mk := by rw [Launch.admits_selectMethod X.admits]; exact q4
  obtain ⟨vm₁, X₁, hstep₁⟩ := X.invokevirtual hexec hown hlink hnamed hmethM hstM hkP hkPi hy (a := b) (cell := cellB) hcell
    (fun z h => by rw [h] at hobj; cases hobj) hselP hmethM habM hkP hkPi (g := g) hg (argsL := argsL) (rest := rest) (hlen _ hsigM) hstack hdg
  rcases hK m meth c ⟨T.setVm vm₁, locs, cells, slots⟩ { g with stack := rest } (.invokevirtual index) mk (Value.ref b :: argsL).toArray X₁ hg hsize hdg hW (X₁.named hnamed) (hpre vm₁ X₁.warmed) with ⟨v, B, X', hpost, hsteps⟩ | ⟨q, B, X', hpost, hsteps⟩
  · exact Or.inl ⟨v, vm₁, B, X₁.warmed, X', hpost, fun target h => hstep₁ _ fun acts => by rw [doInvoke_state]; exact hsteps.trans h⟩
  · exact Or.inr ⟨q, vm₁, B, X₁.warmed, X', hpost, hstep₁ _ fun acts => by rw [doInvoke_state]; exact hsteps⟩
theorem vx_callSX (X : Stand p l e R s m args below meth c T locs cells slots) (hexec : p.tables.exec = Jvm.exec) {own : String} {index : Nat} {y : MethodName} {bytes : ByteArray} {maxL : Nat} {ret : Option FieldType} {hh : List (Nat × Nat × Nat × Nat)}
    (hown : s.vm.findClass own = some m.cls) (hlink : (Cond.methodLink own index y).before args s = true) (hstat : (Cond.static y).before args s = true) (hinit : (Cond.initialized y.cls).before args s = true)
    (hcode : (Cond.codeWith y bytes maxL ret hh).before args s = true) (hy : y.cls ≠ "java/lang/invoke/MethodHandle" ∧ y.cls ≠ "java/lang/invoke/VarHandle")
    {W9 : Nat} {Pre : Pt → Array Value → Prop} {Post : Pt → Array Value → Option Value → Pt → Prop} {PostX : Pt → Array Value → Addr → Pt → Prop} (hK : vx_Back l R p e below s args y 3 W9 Pre Post PostX)
    {g : JFrame} (hg : g.method = m) (hsize : g.locals.size = c.maxLocals) {argsL rest : List Value} (hlen : ∀ sig, parseMethodDescriptor y.desc = some sig → argsL.length = sig.parameters.length)
    (hstack : g.stack = argsL.reverse ++ rest) (hW : 2 * g.monitorRoom + (rest.map fun v => v.category).sum ≤ W9) (hdg : decode c.code g.pc = .ok (.invokestatic index, 3))
    (hpre : ∀ vm₁, s.WarmedH vm₁ → Pre ⟨T.setVm vm₁, locs, cells, slots⟩ argsL.toArray) :
    (∃ (v : Option Value) (vm₁ : Vm) (B : Pt), s.WarmedH vm₁ ∧ Stand p l e R s m args below meth c B.U B.locs B.cells B.slots ∧ Post ⟨T.setVm vm₁, locs, cells, slots⟩ argsL.toArray v B ∧
      ∀ target, Steps p.tables e below (B.U.setTop { g with pc := g.pc + 3, stack := v.toList ++ rest }) target → Steps p.tables e below (T.setTop g) target) ∨
    (∃ (q : Addr) (vm₁ : Vm) (B : Pt), s.WarmedH vm₁ ∧ Stand p l e R s m args below meth c B.U B.locs B.cells B.slots ∧ PostX ⟨T.setVm vm₁, locs, cells, slots⟩ argsL.toArray q B ∧
      Steps p.tables e below (T.setTop g) ((B.U.setTop { g with stack := rest }).pushFrame (.throwing q))) := by
  obtain ⟨mk, methM, cM, hnamed, hmethM, -, -, -, -, -, -, hsigM⟩ := Cond.codeWith_spec hcode
  have hstatic : methM.isStatic = true := Cond.static_spec hnamed hmethM hstat
  obtain ⟨kP, hkP, -⟩ := className_of_methodNamed hnamed
  have hinitP : kP.init = .initialized := Cond.initialized_spec (findClass_of_methodNamed hnamed) hkP hinit
  obtain ⟨vm₁, X₁, hstep₁⟩ := X.invokestatic hexec hown hlink hnamed hmethM hstatic hkP hinitP hy (g := g) hg (argsL := argsL) (rest := rest) (hlen _ hsigM) hstack hdg
  rcases hK m meth c ⟨T.setVm vm₁, locs, cells, slots⟩ { g with stack := rest } (.invokestatic index) mk argsL.toArray X₁ hg hsize hdg hW (X₁.named hnamed) (hpre vm₁ X₁.warmed) with ⟨v, B, X', hpost, hsteps⟩ | ⟨q, B, X', hpost, hsteps⟩
  · exact Or.inl ⟨v, vm₁, B, X₁.warmed, X', hpost, fun target h => hstep₁ _ fun acts => by rw [doInvoke_state]; exact hsteps.trans h⟩
  · exact Or.inr ⟨q, vm₁, B, X₁.warmed, X', hpost, hstep₁ _ fun acts => by rw [doInvoke_state]; exact hsteps⟩
theorem vx_callVW (X : Stand p l e R s m args below meth c T locs cells slots) (hexec : p.tables.exec = Jvm.exec) {own C : String} {index : Nat} {y : MethodName} {bytes : ByteArray} {maxL : Nat} {ret : Option FieldType} {hh : List (Nat × Nat × Nat × Nat)}
    (hown : s.vm.findClass own = some m.cls) (hlink : (Cond.methodLink own index y).before args s = true) (hinst : (Cond.instanceMethod y).before args s = true) (hsel : (Cond.selects C y y).before args s = true)
    (hcode : (Cond.codeWith y bytes maxL ret hh).before args s = true) (hy : y.cls ≠ "java/lang/invoke/MethodHandle" ∧ y.cls ≠ "java/lang/invoke/VarHandle")
    {W9 : Nat} {Pre : Pt → Array Value → Prop} {Post : Pt → Array Value → Option Value → Pt → Prop} (hK : Back l R p e below s args y 3 W9 Pre Post)
    {b : Addr} {cellB : Cell} (hcell : T.heap[b]? = some cellB) (hobj : cellB.vm.isStatics = false) (hcls : s.vm.findClass C = some cellB.cls)
    {g : JFrame} (hg : g.method = m) (hsize : g.locals.size = c.maxLocals) {argsL rest : List Value} (hlen : ∀ sig, parseMethodDescriptor y.desc = some sig → argsL.length = sig.parameters.length)
    (hstack : g.stack = argsL.reverse ++ .ref b :: rest) (hW : 2 * g.monitorRoom + (rest.map fun v => v.category).sum ≤ W9) (hdg : decode c.code g.pc = .ok (.invokevirtual index, 3))
    (hpre : ∀ vm₁, s.WarmedH vm₁ → Pre ⟨T.setVm vm₁, locs, cells, slots⟩ (Value.ref b :: argsL).toArray) :
    ∃ (v : Option Value) (vm₁ : Vm) (B : Pt), s.WarmedH vm₁ ∧ Stand p l e R s m args below meth c B.U B.locs B.cells B.slots ∧ Post ⟨T.setVm vm₁, locs, cells, slots⟩ (Value.ref b :: argsL).toArray v B ∧
      ∀ target, Steps p.tables e below (B.U.setTop { g with pc := g.pc + 3, stack := v.toList ++ rest }) target → Steps p.tables e below (T.setTop g) target := by
  obtain ⟨mk, methM, hnamed, hmethM, hstM, habM⟩ := Cond.instanceMethod_spec hinst
  obtain ⟨m8, methM', cM, hn8, hmethM', -, -, -, -, -, -, hsigM⟩ := Cond.codeWith_spec hcode
  cases Option.some.inj (hn8.symm.trans hnamed)
  cases hmethM.symm.trans hmethM'
  obtain ⟨c2, r2, m2, q1, q2, q3, q4, kP, hkP, hkPi⟩ := Cond.selects_spec hsel
  cases hcls.symm.trans q1
  cases (State.methodFound?_of_named hnamed hy).symm.trans q2
  cases hnamed.symm.trans q3
  have hselP : selectMethod e.platform s.vm cellB.cls mk = .method mk := by rw [Launch.admits_selectMethod X.admits]; exact q4
  obtain ⟨vm₁, X₁, hstep₁⟩ := X.invokevirtual hexec hown hlink hnamed hmethM hstM hkP hkPi hy (a := b) (cell := cellB) hcell
    (fun z h => by rw [h] at hobj; cases hobj) hselP hmethM habM hkP hkPi (g := g) hg (argsL := argsL) (rest := rest) (hlen _ hsigM) hstack hdg
  obtain ⟨v, B, X', hpost, hsteps⟩ := hK m meth c ⟨T.setVm vm₁, locs, cells, slots⟩ { g with stack := rest } (.invokevirtual index) mk (Value.ref b :: argsL).toArray X₁ hg hsize hdg hW (X₁.named hnamed) (hpre vm₁ X₁.warmed)
  exact ⟨v, vm₁, B, X₁.warmed, X', hpost, fun target h => hstep₁ _ fun acts => by rw [doInvoke_state]; exact hsteps.trans h⟩
abbrev vx_CVW (R : Room) (s : State) (args : Array Value) (own C : String) (index : Nat) (y : MethodName) (bytes : ByteArray) (maxL : Nat) (ret : Option FieldType) (hh : List (Nat × Nat × Nat × Nat)) (ws : List Cond) (rm : Room) (mc ms n : Nat) : Prop :=
  (rm.cells = mc ∧ rm.slots = ms ∧ rm.frames + 1 ≤ R.frames ∧ 8 + (maxL + 11) + rm.locals ≤ R.locals ∧ (∀ w ∈ ws, ∀ (a' : Array Value) (U : State), s.WarmedH U.vm → w.before a' U = true) ∧ Cond.codeWith y bytes maxL ret hh ∈ ws) ∧
  (Cond.codeWith y bytes maxL ret hh).before args s = true ∧ (Cond.initialized y.cls).before args s = true ∧ (y.cls ≠ "java/lang/invoke/MethodHandle" ∧ y.cls ≠ "java/lang/invoke/VarHandle") ∧
  (∀ sig, parseMethodDescriptor y.desc = some sig → n = sig.parameters.length) ∧ (Cond.methodLink own index y).before args s = true ∧ (Cond.instanceMethod y).before args s = true ∧ (Cond.selects C y y).before args s = true
theorem vx_cwVW {own C : String} {index maxL mc ms : Nat} {y : MethodName} {bytes : ByteArray} {ret : Option FieldType} {hh : List (Nat × Nat × Nat × Nat)} {Ts ws ws' : List Cond} {rm : Room} (n : Nat) (ht : ∀ w ∈ Ts, w.before args s = true) (hT : GoodIn Ts (wsV own index C y ws)) (hw : ws = Cond.codeWith y bytes maxL ret hh :: ws') (hrc : rm.cells = mc) (hrs : rm.slots = ms)
    (hd : y.cls = C ∧ y.cls ≠ "java/lang/invoke/MethodHandle" ∧ y.cls ≠ "java/lang/invoke/VarHandle" ∧ (parseMethodDescriptor y.desc).map (fun d => d.parameters.length) = some n) (hR : rm.frames + 1 ≤ R.frames ∧ 8 + (maxL + 11) + rm.locals ≤ R.locals) :
    vx_CVW R s args own C index y bytes maxL ret hh ws rm mc ms n := by
  obtain ⟨hC, hd⟩ := hd
  subst hC
  have ok : ∀ w ∈ wsV own index y.cls y ws, w.before args s = true := fun w h => ht w (hT w h).1
  have hG : GoodIn Ts ws := fun w h => hT w (by unfold wsV; exact List.mem_append_right _ h)
  have hc : Cond.codeWith y bytes maxL ret hh ∈ ws := by rw [hw]; exact List.mem_cons_self
  refine ⟨⟨hrc, hrs, hR.1, hR.2, pay_in ht hG, hc⟩, ht _ (hG _ hc).1, ok _ (by simp [wsV]), ⟨hd.1, hd.2.1⟩, fun sig h => ?_, ok _ (by simp [wsV]), ok _ (by simp [wsV]), ok _ (by simp [wsV])⟩
  have h2 := hd.2.2
  rw [h] at h2
  exact (Option.some.inj h2).symm
theorem vx_runVW {y : MethodName} {bytes cc : ByteArray} {maxL nL mc ms n index : Nat} {ret : Option FieldType} {hh : List (Nat × Nat × Nat × Nat)} {ws : List Cond} {rm : Room} {Pc : Array Value → State → Prop} {Qc : Array Value → State → Outcome → State → Prop} {free : Addr → Prop} {Ts : List Cond} {own C : String} {b : Addr} {As rest : List Value} {g : JFrame}
    (S : CallFix p m c cc nL s args Ts own) (hM : Met l y ws rm Pc Qc mc ms free) (cw : vx_CVW R s args own C index y bytes maxL ret hh ws rm mc ms n) (hp : PreV s H C b Pc As)
    (hg : g.method = m) (hn : As.length = n) (hsize : g.locals.size = nL) (hstack : g.stack = As.reverse ++ .ref b :: rest) (hW : 2 * g.monitorRoom + (rest.map fun v => v.category).sum ≤ 8) (hdg : decode cc g.pc = .ok (.invokevirtual index, 3)) (hf : cells + mc ≤ R.cells ∧ slots + ms ≤ R.slots) :
    va_Run p l e R s m args below meth c H locs cells slots mc ms g rest (Qc (Value.ref b :: As).toArray) free := by
  obtain ⟨⟨hrc, hrs, hfr, hlo, hws, hcw⟩, hcode, hini, hy, hlen, hl, hin, hse⟩ := cw
  have hK : Back l R p e below s args y 3 8 (PreOf R mc ms Pc) (PostOf Qc mc ms free) := va_backW (hh := hh) (bytes := bytes) (maxL := maxL) (ret := ret) hM hp.1 hrc hrs hfr hlo hws hcw (fun a' U hW => word_at hW (Or.inl (by first | rfl | simp [Cond.onTables, Cond.keeps, Cond.steady])) hini)
  obtain ⟨hx, hb, hml, ho, -⟩ := S
  obtain ⟨-, ⟨cellB, hcB, hoB, hclB⟩, hPc⟩ := hp
  intro T hT X
  obtain ⟨v, vm₁, ⟨U', l2, c2, s2⟩, hW₁, X', ⟨g', mk, t, L, e1, e2, hq, h1, hL, h2, h3⟩, st⟩ := vx_callVW X hx (C := C) (hh := hh) (bytes := bytes) (maxL := maxL) (ret := ret) ho hl hin hse hcode hy hK (by rw [hT]; exact hcB) hoB hclB hg (hsize.trans hml.symm) (argsL := As) (rest := rest) (fun sig h => hn.trans (hlen sig h)) hstack hW (by rw [hb]; exact hdg)
    (fun vm₁ hW₁ => ⟨hf.1, hf.2, hPc (T.setVm vm₁) hT hW₁⟩)
  dsimp only [Pt.U, Pt.locs, Pt.cells, Pt.slots] at X' e1 e2 h1 h2 h3 st
  subst h1; subst h2; subst h3
  exact ⟨v, (T.setVm vm₁).calling g' mk (Value.ref b :: As).toArray, t, U', L, hT, X', hL, e1, e2, hq, st⟩
section
variable {y : MethodName} {bytes cc : ByteArray} {maxL nL mc ms n index : Nat} {ret : Option FieldType} {ws : List Cond} {rm : Room} {Pc : Array Value → State → Prop} {Qc : Array Value → State → Outcome → State → Prop} {XC : String → State → State → Prop} {free : Addr → Prop} {Ts : List Cond} {own C : String} {b : Addr} {As rest : List Value} {g : JFrame}
theorem vx_runVX {hh : List (Nat × Nat × Nat × Nat)} (S : CallFix p m c cc nL s args Ts own) (hM : vx_Met l y ws rm Pc Qc XC mc ms free) (cw : vx_CVW R s args own C index y bytes maxL ret hh ws rm mc ms n) (hp : PreV s H C b Pc As)
    (hg : g.method = m) (hn : As.length = n) (hsize : g.locals.size = nL) (hstack : g.stack = As.reverse ++ .ref b :: rest) (hW : 2 * g.monitorRoom + (rest.map fun v => v.category).sum ≤ 8) (hdg : decode cc g.pc = .ok (.invokevirtual index, 3)) (hf : cells + mc ≤ R.cells ∧ slots + ms ≤ R.slots) :
    vx_Run p l e R s m args below meth c H locs cells slots mc ms g rest (Qc (Value.ref b :: As).toArray) XC free := by
  obtain ⟨⟨hrc, hrs, hfr, hlo, hws, hcw⟩, hcode, hini, hy, hlen, hl, hin, hse⟩ := cw
  have hK : vx_Back l R p e below s args y 3 8 (PreOf R mc ms Pc) (PostOf Qc mc ms free) (vx_Post XC mc ms free) := vx_backW (hh := hh) (bytes := bytes) (maxL := maxL) (ret := ret) hM hp.1 hrc hrs hfr hlo hws hcw (fun a' U hW => word_at hW (Or.inl (by first | rfl | simp [Cond.onTables, Cond.keeps, Cond.steady])) hini)
  obtain ⟨hx, hb, hml, ho, -⟩ := S
  obtain ⟨-, ⟨cellB, hcB, hoB, hclB⟩, hPc⟩ := hp
  intro T hT X
  rcases vx_callVX X hx (C := C) (hh := hh) (bytes := bytes) (maxL := maxL) (ret := ret) ho hl hin hse hcode hy hK (by rw [hT]; exact hcB) hoB hclB hg (hsize.trans hml.symm) (argsL := As) (rest := rest) (fun sig h => hn.trans (hlen sig h)) hstack hW (by rw [hb]; exact hdg)
    (fun vm₁ hW₁ => ⟨hf.1, hf.2, hPc (T.setVm vm₁) hT hW₁⟩) with ⟨v, vm₁, ⟨U', l2, c2, s2⟩, hW₁, X', ⟨g', mk, t, L, e1, e2, hq, h1, hL, h2, h3⟩, st⟩ | ⟨q, vm₁, ⟨U', l2, c2, s2⟩, hW₁, X', ⟨g', mk, t, L, E, ce, e1, e2, hq, hce, hcv, hcl, h1, hL, h2, h3⟩, st⟩
  · dsimp only [Pt.U, Pt.locs, Pt.cells, Pt.slots] at X' e1 e2 h1 h2 h3 st
    subst h1; subst h2; subst h3
    exact Or.inl ⟨v, (T.setVm vm₁).calling g' mk (Value.ref b :: As).toArray, t, U', L, hT, X', hL, e1, e2, hq, st⟩
  · dsimp only [Pt.U, Pt.locs, Pt.cells, Pt.slots] at X' e1 e2 h1 h2 h3 st hcl
    subst h1; subst h2; subst h3
    exact Or.inr ⟨q, (T.setVm vm₁).calling g' mk (Value.ref b :: As).toArray, t, U', L, E, ce, hT, X', hL, e1, e2, hq, hce, hcv, vx_cls hW₁ hcl, st⟩
theorem vx_runSX {hh : List (Nat × Nat × Nat × Nat)} (S : CallFix p m c cc nL s args Ts own) (hM : vx_Met l y ws rm Pc Qc XC mc ms free) (cw : vx_CSW R s args own index y bytes maxL ret hh ws rm mc ms n) (hp : PreS s H Pc As)
    (hg : g.method = m) (hn : As.length = n) (hsize : g.locals.size = nL) (hstack : g.stack = As.reverse ++ rest) (hW : 2 * g.monitorRoom + (rest.map fun v => v.category).sum ≤ 8) (hdg : decode cc g.pc = .ok (.invokestatic index, 3)) (hf : cells + mc ≤ R.cells ∧ slots + ms ≤ R.slots) :
    vx_Run p l e R s m args below meth c H locs cells slots mc ms g rest (Qc As.toArray) XC free := by
  obtain ⟨⟨hrc, hrs, hfr, hlo, hws, hcw⟩, hcode, hini, hy, hlen, hl, hstt⟩ := cw
  have hK : vx_Back l R p e below s args y 3 8 (PreOf R mc ms Pc) (PostOf Qc mc ms free) (vx_Post XC mc ms free) := vx_backW (hh := hh) (bytes := bytes) (maxL := maxL) (ret := ret) hM hp.1 hrc hrs hfr hlo hws hcw (fun a' U hW => word_at hW (Or.inl (by first | rfl | simp [Cond.onTables, Cond.keeps, Cond.steady])) hini)
  obtain ⟨hx, hb, hml, ho, -⟩ := S
  intro T hT X
  rcases vx_callSX X hx (hh := hh) (bytes := bytes) (maxL := maxL) (ret := ret) ho hl hstt hini hcode hy hK hg (hsize.trans hml.symm) (argsL := As) (rest := rest) (fun sig h => hn.trans (hlen sig h)) hstack hW (by rw [hb]; exact hdg)
    (fun vm₁ hW₁ => ⟨hf.1, hf.2, hp.2 (T.setVm vm₁) hT hW₁⟩) with ⟨v, vm₁, ⟨U', l2, c2, s2⟩, hW₁, X', ⟨g', mk, t, L, e1, e2, hq, h1, hL, h2, h3⟩, st⟩ | ⟨q, vm₁, ⟨U', l2, c2, s2⟩, hW₁, X', ⟨g', mk, t, L, E, ce, e1, e2, hq, hce, hcv, hcl, h1, hL, h2, h3⟩, st⟩
  · dsimp only [Pt.U, Pt.locs, Pt.cells, Pt.slots] at X' e1 e2 h1 h2 h3 st
    subst h1; subst h2; subst h3
    exact Or.inl ⟨v, (T.setVm vm₁).calling g' mk As.toArray, t, U', L, hT, X', hL, e1, e2, hq, st⟩
  · dsimp only [Pt.U, Pt.locs, Pt.cells, Pt.slots] at X' e1 e2 h1 h2 h3 st hcl
    subst h1; subst h2; subst h3
    exact Or.inr ⟨q, (T.setVm vm₁).calling g' mk As.toArray, t, U', L, E, ce, hT, X', hL, e1, e2, hq, hce, hcv, vx_cls hW₁ hcl, st⟩
end
end VXH
theorem vx_ofWH {l : Launch} {y : MethodName} {ws ws' : List Cond} {rm : Room} {Pc : Array Value → State → Prop} {Qc : Array Value → State → Outcome → State → Prop} {XC : String → State → State → Prop} {mc ms : Nat} {free : Addr → Prop} {cc : ByteArray} {maxL : Nat} {ret : Option FieldType} {hh : List (Nat × Nat × Nat × Nat)}
    (hy : plainName y.cls = true) (hw : ws = Cond.codeWith y cc maxL ret hh :: ws')
    (body : ∀ p e s m args below meth c s₁, BodyLoose p l y (headSpec ws rm) cc maxL ret e s m args below meth c s₁ → c.maxLocals = maxL → Pc args s →
      W p l e (headSpec ws rm).room s m args below meth c s.heap [] 0 0 (vx_MQ below Qc XC args s mc ms free) (entryFrame m args maxL)) : vx_Met l y ws rm Pc Qc XC mc ms free := by
  refine MetFree.of_bodyS (code := cc) (maxLocals := maxL) (ret := ret) hy ?_ ?_
  · intro args s m h hn
    obtain ⟨m9, meth, c, hn9, h1, h2, h3, h4, -, h5, h6, -⟩ := Cond.codeWith_spec (atoms_spec (ws := ws) h _ (by rw [hw]; exact List.mem_cons_self))
    cases hn.symm.trans hn9
    exact ⟨meth, c, h1, h2, h3, h4, h5, h6⟩
  · intro p e s m args below meth c s₁ B hml hP _
    have hh0 : s₁.heap = s.heap := by rw [B.state]; rfl
    obtain ⟨t, a1, o, b1, b2, b3⟩ := body p e s m args below meth c s₁ B hml hP s₁ hh0 (Stand.of_body B)
    exact ⟨t, o, a1, b1, b2, b3⟩
/-! ===== END ===== -/
end
section
/-! ===== BEGIN printed: names, fields, word lists, decode rows ===== -/
def RX0 : String := "BudgetBook$Cells"
def TX0 : u_T := fun k => match k with
  | _ => ("BudgetBook$Cells", "amounts", "[I", true)
def tyX0 : Nat → FieldType := fun k => match k with
  | _ => .array .int
abbrev wsX00 : List Cond := u_ws RX0 TX0 1
theorem nmX0 : ∀ a, a < 1 → ∀ b, b < 1 → a ≠ b → (TX0 a).2.1 ≠ (TX0 b).2.1 := by decide +kernel
theorem tyX0_ok : ∀ k, k < 1 → parseFieldDescriptor (TX0 k).2.2.1 = some (tyX0 k) := by decide +kernel
abbrev cX0_init : ByteArray := prog_2_method_1_code
def yX0_init : MethodName := ⟨RX0, "<init>", "()V"⟩
abbrev cX0_indexOf : ByteArray := prog_2_method_2_code
def yX0_indexOf : MethodName := ⟨RX0, "indexOf", "(IIII)I"⟩
abbrev cX0_at : ByteArray := prog_2_method_3_code
def yX0_at : MethodName := ⟨RX0, "at", "(IIII)I"⟩
abbrev cX0_put : ByteArray := prog_2_method_4_code
def yX0_put : MethodName := ⟨RX0, "put", "(IIIII)I"⟩
abbrev cX0_valueOf : ByteArray := prog_2_method_5_code
def yX0_valueOf : MethodName := ⟨RX0, "valueOf", "(IIII)I"⟩
abbrev cX0_sumOver : ByteArray := prog_2_method_6_code
def yX0_sumOver : MethodName := ⟨RX0, "sumOver", "(IIII)I"⟩
abbrev cX0_yearOf : ByteArray := prog_2_method_7_code
def yX0_yearOf : MethodName := ⟨RX0, "yearOf", "(III)I"⟩
abbrev cX0_copyLayer : ByteArray := prog_2_method_8_code
def yX0_copyLayer : MethodName := ⟨RX0, "copyLayer", "(II)I"⟩
abbrev cX0_isBlank : ByteArray := prog_2_method_9_code
def yX0_isBlank : MethodName := ⟨RX0, "isBlank", "(I)Z"⟩
abbrev cX0_countFilled : ByteArray := prog_2_method_10_code
def yX0_countFilled : MethodName := ⟨RX0, "countFilled", "()I"⟩
def RX1 : String := "BudgetBook$Shares"
def TX1 : u_T := fun k => match k with
  | 0 => ("BudgetBook$Shares", "weights", "[I", true)
  | _ => ("BudgetBook$Shares", "shares", "[I", true)
def tyX1 : Nat → FieldType := fun k => match k with
  | 0 => .array .int
  | _ => .array .int
abbrev wsX10 : List Cond := u_ws RX1 TX1 2
theorem nmX1 : ∀ a, a < 2 → ∀ b, b < 2 → a ≠ b → (TX1 a).2.1 ≠ (TX1 b).2.1 := by decide +kernel
theorem tyX1_ok : ∀ k, k < 2 → parseFieldDescriptor (TX1 k).2.2.1 = some (tyX1 k) := by decide +kernel
abbrev cX1_init : ByteArray := prog_3_method_1_code
def yX1_init : MethodName := ⟨RX1, "<init>", "()V"⟩
abbrev cX1_weigh : ByteArray := prog_3_method_2_code
def yX1_weigh : MethodName := ⟨RX1, "weigh", "(II)I"⟩
abbrev cX1_shareOf : ByteArray := prog_3_method_3_code
def yX1_shareOf : MethodName := ⟨RX1, "shareOf", "(I)I"⟩
abbrev cX1_totalWeight : ByteArray := prog_3_method_4_code
def yX1_totalWeight : MethodName := ⟨RX1, "totalWeight", "()I"⟩
abbrev cX1_divide : ByteArray := prog_3_method_5_code
def yX1_divide : MethodName := ⟨RX1, "divide", "(I)V"⟩
def RX2 : String := "BudgetBook$Tree"
def TX2 : u_T := fun k => match k with
  | 0 => ("BudgetBook$Tree", "parents", "[I", true)
  | 1 => ("BudgetBook$Tree", "count", "I", false)
  | _ => ("BudgetBook$Tree", "placesWithChildren", "I", false)
def tyX2 : Nat → FieldType := fun k => match k with
  | 0 => .array .int
  | 1 => .int
  | _ => .int
abbrev wsX20 : List Cond := u_ws RX2 TX2 3
theorem nmX2 : ∀ a, a < 3 → ∀ b, b < 3 → a ≠ b → (TX2 a).2.1 ≠ (TX2 b).2.1 := by decide +kernel
theorem tyX2_ok : ∀ k, k < 3 → parseFieldDescriptor (TX2 k).2.2.1 = some (tyX2 k) := by decide +kernel
abbrev cX2_init : ByteArray := prog_4_method_1_code
def yX2_init : MethodName := ⟨RX2, "<init>", "()V"⟩
abbrev cX2_size : ByteArray := prog_4_method_2_code
def yX2_size : MethodName := ⟨RX2, "size", "()I"⟩
abbrev cX2_has : ByteArray := prog_4_method_3_code
def yX2_has : MethodName := ⟨RX2, "has", "(I)Z"⟩
abbrev cX2_isFull : ByteArray := prog_4_method_4_code
def yX2_isFull : MethodName := ⟨RX2, "isFull", "()Z"⟩
abbrev cX2_isLeaf : ByteArray := prog_4_method_5_code
def yX2_isLeaf : MethodName := ⟨RX2, "isLeaf", "(I)Z"⟩
abbrev cX2_addBelow : ByteArray := prog_4_method_6_code
def yX2_addBelow : MethodName := ⟨RX2, "addBelow", "(I)I"⟩
abbrev cX2_leavesBelow : ByteArray := prog_4_method_7_code
def yX2_leavesBelow : MethodName := ⟨RX2, "leavesBelow", "(I)I"⟩
def RX3 : String := "BudgetBook"
def TX3 : u_T := fun k => match k with
  | 0 => ("BudgetBook", "tree", "LBudgetBook$Tree;", true)
  | 1 => ("BudgetBook", "cells", "LBudgetBook$Cells;", true)
  | 2 => ("BudgetBook", "heldLeavesByMonth", "[I", true)
  | 3 => ("BudgetBook", "closedLeavesByVersion", "[I", true)
  | 4 => ("BudgetBook", "seasons", "LBudgetBook$Shares;", true)
  | 5 => ("BudgetBook", "leafShares", "LBudgetBook$Shares;", true)
  | _ => ("BudgetBook", "seenMonths", "I", false)
def tyX3 : Nat → FieldType := fun k => match k with
  | 0 => .object "BudgetBook$Tree"
  | 1 => .object "BudgetBook$Cells"
  | 2 => .array .int
  | 3 => .array .int
  | 4 => .object "BudgetBook$Shares"
  | 5 => .object "BudgetBook$Shares"
  | _ => .int
abbrev wsX30 : List Cond := u_ws RX3 TX3 7
theorem nmX3 : ∀ a, a < 7 → ∀ b, b < 7 → a ≠ b → (TX3 a).2.1 ≠ (TX3 b).2.1 := by decide +kernel
theorem tyX3_ok : ∀ k, k < 7 → parseFieldDescriptor (TX3 k).2.2.1 = some (tyX3 k) := by decide +kernel
abbrev cX3_init : ByteArray := prog_1_method_1_code
def yX3_init : MethodName := ⟨RX3, "<init>", "()V"⟩
abbrev cX3_addPlace : ByteArray := prog_1_method_2_code
def yX3_addPlace : MethodName := ⟨RX3, "addPlace", "(I)I"⟩
abbrev cX3_places : ByteArray := prog_1_method_3_code
def yX3_places : MethodName := ⟨RX3, "places", "()I"⟩
abbrev cX3_leaves : ByteArray := prog_1_method_4_code
def yX3_leaves : MethodName := ⟨RX3, "leaves", "(I)I"⟩
abbrev cX3_set : ByteArray := prog_1_method_5_code
def yX3_set : MethodName := ⟨RX3, "set", "(IIIII)I"⟩
abbrev cX3_hold : ByteArray := prog_1_method_6_code
def yX3_hold : MethodName := ⟨RX3, "hold", "(IIZ)Z"⟩
abbrev cX3_setSeason : ByteArray := prog_1_method_7_code
def yX3_setSeason : MethodName := ⟨RX3, "setSeason", "(II)I"⟩
abbrev cX3_spread : ByteArray := prog_1_method_8_code
def yX3_spread : MethodName := ⟨RX3, "spread", "(IIIII)I"⟩
abbrev cX3_spreadYear : ByteArray := prog_1_method_9_code
def yX3_spreadYear : MethodName := ⟨RX3, "spreadYear", "(III)I"⟩
abbrev cX3_copy : ByteArray := prog_1_method_10_code
def yX3_copy : MethodName := ⟨RX3, "copy", "(II)I"⟩
abbrev cX3_handIn : ByteArray := prog_1_method_11_code
def yX3_handIn : MethodName := ⟨RX3, "handIn", "(II)I"⟩
abbrev cX3_takeBack : ByteArray := prog_1_method_12_code
def yX3_takeBack : MethodName := ⟨RX3, "takeBack", "(II)I"⟩
abbrev cX3_see : ByteArray := prog_1_method_13_code
def yX3_see : MethodName := ⟨RX3, "see", "(IIII)I"⟩
abbrev cX3_closeMonth : ByteArray := prog_1_method_14_code
def yX3_closeMonth : MethodName := ⟨RX3, "closeMonth", "()I"⟩
abbrev cX3_amount : ByteArray := prog_1_method_15_code
def yX3_amount : MethodName := ⟨RX3, "amount", "(IIII)I"⟩
abbrev cX3_outlook : ByteArray := prog_1_method_16_code
def yX3_outlook : MethodName := ⟨RX3, "outlook", "(IIII)I"⟩
abbrev cX3_year : ByteArray := prog_1_method_17_code
def yX3_year : MethodName := ⟨RX3, "year", "(III)I"⟩
abbrev cX3_yearByLeaves : ByteArray := prog_1_method_18_code
def yX3_yearByLeaves : MethodName := ⟨RX3, "yearByLeaves", "(III)I"⟩
abbrev cX3_filled : ByteArray := prog_1_method_19_code
def yX3_filled : MethodName := ⟨RX3, "filled", "()I"⟩
abbrev cX3_gap : ByteArray := prog_1_method_20_code
def yX3_gap : MethodName := ⟨RX3, "gap", "(IIII)I"⟩
abbrev cX3_gapOfLeaf : ByteArray := prog_1_method_21_code
def yX3_gapOfLeaf : MethodName := ⟨RX3, "gapOfLeaf", "(IIII)I"⟩
abbrev cX3_gapPart : ByteArray := prog_1_method_22_code
def yX3_gapPart : MethodName := ⟨RX3, "gapPart", "(IIIII)I"⟩
abbrev cX3_isInUse : ByteArray := prog_1_method_23_code
def yX3_isInUse : MethodName := ⟨RX3, "isInUse", "(I)Z"⟩
abbrev cX3_freeAmong : ByteArray := prog_1_method_24_code
def yX3_freeAmong : MethodName := ⟨RX3, "freeAmong", "(III)I"⟩
abbrev cX3_restOf : ByteArray := prog_1_method_25_code
def yX3_restOf : MethodName := ⟨RX3, "restOf", "(IIII)I"⟩
abbrev cX3_checkSpreadable : ByteArray := prog_1_method_26_code
def yX3_checkSpreadable : MethodName := ⟨RX3, "checkSpreadable", "(IIII)V"⟩
abbrev cX3_spreadOver : ByteArray := prog_1_method_27_code
def yX3_spreadOver : MethodName := ⟨RX3, "spreadOver", "(IIIII)I"⟩
abbrev cX3_weighLeaves : ByteArray := prog_1_method_28_code
def yX3_weighLeaves : MethodName := ⟨RX3, "weighLeaves", "(IIII)V"⟩
abbrev cX3_checkVersion : ByteArray := prog_1_method_29_code
def yX3_checkVersion : MethodName := ⟨RX3, "checkVersion", "(I)V"⟩
abbrev cX3_checkPlace : ByteArray := prog_1_method_30_code
def yX3_checkPlace : MethodName := ⟨RX3, "checkPlace", "(I)V"⟩
abbrev cX3_checkAccount : ByteArray := prog_1_method_31_code
def yX3_checkAccount : MethodName := ⟨RX3, "checkAccount", "(I)V"⟩
abbrev cX3_checkCellAccount : ByteArray := prog_1_method_32_code
def yX3_checkCellAccount : MethodName := ⟨RX3, "checkCellAccount", "(I)V"⟩
abbrev cX3_checkMonth : ByteArray := prog_1_method_33_code
def yX3_checkMonth : MethodName := ⟨RX3, "checkMonth", "(I)V"⟩
abbrev cX3_checkUpTo : ByteArray := prog_1_method_34_code
def yX3_checkUpTo : MethodName := ⟨RX3, "checkUpTo", "(II)V"⟩
abbrev cX3_checkLeaf : ByteArray := prog_1_method_35_code
def yX3_checkLeaf : MethodName := ⟨RX3, "checkLeaf", "(I)V"⟩
abbrev cX3_mostOf : ByteArray := prog_1_method_36_code
def yX3_mostOf : MethodName := ⟨RX3, "mostOf", "(I)I"⟩
abbrev cX3_isIn : ByteArray := prog_1_method_37_code
def yX3_isIn : MethodName := ⟨RX3, "isIn", "(II)Z"⟩
def RX4 : String := "BudgetBookModel"
def TX4 : u_T := fun k => match k with
  | _ => ("", "", "", false)
def tyX4 : Nat → FieldType := fun k => match k with
  | _ => .int
abbrev wsX40 : List Cond := u_ws RX4 TX4 0
theorem nmX4 : ∀ a, a < 0 → ∀ b, b < 0 → a ≠ b → (TX4 a).2.1 ≠ (TX4 b).2.1 := by decide +kernel
theorem tyX4_ok : ∀ k, k < 0 → parseFieldDescriptor (TX4 k).2.2.1 = some (tyX4 k) := by decide +kernel
def RJ6 : String := "java/lang/Integer"
def TJ6 : u_T := fun k => match k with
  | _ => ("", "", "", false)
def tyJ6 : Nat → FieldType := fun k => match k with
  | _ => .int
abbrev wsJ60 : List Cond := u_ws RJ6 TJ6 0
theorem nmJ6 : ∀ a, a < 0 → ∀ b, b < 0 → a ≠ b → (TJ6 a).2.1 ≠ (TJ6 b).2.1 := by decide +kernel
theorem tyJ6_ok : ∀ k, k < 0 → parseFieldDescriptor (TJ6 k).2.2.1 = some (tyJ6 k) := by decide +kernel
abbrev cJ6_bitCount_0f7a4 : ByteArray := prog_11_method_49_code
def yJ6_bitCount_0f7a4 : MethodName := ⟨RJ6, "bitCount", "(I)I"⟩
def RJ0 : String := "java/lang/String"
def TJ0 : u_T := fun k => match k with
  | _ => ("", "", "", false)
def tyJ0 : Nat → FieldType := fun k => match k with
  | _ => .int
abbrev wsJ00 : List Cond := u_ws RJ0 TJ0 0
theorem nmJ0 : ∀ a, a < 0 → ∀ b, b < 0 → a ≠ b → (TJ0 a).2.1 ≠ (TJ0 b).2.1 := by decide +kernel
theorem tyJ0_ok : ∀ k, k < 0 → parseFieldDescriptor (TJ0 k).2.2.1 = some (tyJ0 k) := by decide +kernel
def RL : String := "BudgetBookLaw"
abbrev cL_low : ByteArray := method_2_code
def yL_low : MethodName := ⟨RL, "low", "(II)I"⟩
abbrev cL_cell : ByteArray := method_3_code
def yL_cell : MethodName := ⟨RL, "cell", "([II)I"⟩
abbrev cL_add : ByteArray := method_4_code
def yL_add : MethodName := ⟨RL, "add", "(LBudgetBook;I)I"⟩
abbrev cL_set : ByteArray := method_5_code
def yL_set : MethodName := ⟨RL, "set", "(LBudgetBook;IIIII)I"⟩
abbrev cL_spread : ByteArray := method_6_code
def yL_spread : MethodName := ⟨RL, "spread", "(LBudgetBook;IIIII)I"⟩
abbrev cL_spreadYear : ByteArray := method_7_code
def yL_spreadYear : MethodName := ⟨RL, "spreadYear", "(LBudgetBook;III)I"⟩
abbrev cL_copy : ByteArray := method_8_code
def yL_copy : MethodName := ⟨RL, "copy", "(LBudgetBook;II)I"⟩
abbrev cL_see : ByteArray := method_9_code
def yL_see : MethodName := ⟨RL, "see", "(LBudgetBook;IIII)I"⟩
abbrev cL_holds : ByteArray := method_10_code
def yL_holds : MethodName := ⟨RL, "holds", "(LBudgetBook;III)Z"⟩
abbrev cL_isLeaf : ByteArray := method_11_code
def yL_isLeaf : MethodName := ⟨RL, "isLeaf", "(LBudgetBook;I)Z"⟩
abbrev cL_law : ByteArray := code
def yL_law : MethodName := ⟨RL, "law", "([I)Z"⟩
abbrev vwCl : List vw_C := [(RX0, TX0, 1), (RX1, TX1, 2), (RX2, TX2, 3), (RX3, TX3, 7)]
end
section
theorem dX0_init_0 : decode cX0_init 0 = .ok (.aload_n 0, 1) := by decide +kernel
theorem dX0_init_1 : decode cX0_init 1 = .ok (.invokespecial 5, 3) := by decide +kernel
theorem dX0_init_4 : decode cX0_init 4 = .ok (.aload_n 0, 1) := by decide +kernel
theorem dX0_init_5 : decode cX0_init 5 = .ok (.sipush 1440, 3) := by decide +kernel
theorem dX0_init_8 : decode cX0_init 8 = .ok (.newarray .int, 2) := by decide +kernel
theorem dX0_init_10 : decode cX0_init 10 = .ok (.putfield 11, 3) := by decide +kernel
theorem dX0_init_13 : decode cX0_init 13 = .ok (.return_, 1) := by decide +kernel
theorem dX0_indexOf_0 : decode cX0_indexOf 0 = .ok (.iload_n 0, 1) := by decide +kernel
theorem dX0_indexOf_1 : decode cX0_indexOf 1 = .ok (.sipush 360, 3) := by decide +kernel
theorem dX0_indexOf_4 : decode cX0_indexOf 4 = .ok (.imul, 1) := by decide +kernel
theorem dX0_indexOf_5 : decode cX0_indexOf 5 = .ok (.iload_n 1, 1) := by decide +kernel
theorem dX0_indexOf_6 : decode cX0_indexOf 6 = .ok (.bipush 36, 2) := by decide +kernel
theorem dX0_indexOf_8 : decode cX0_indexOf 8 = .ok (.imul, 1) := by decide +kernel
theorem dX0_indexOf_9 : decode cX0_indexOf 9 = .ok (.iadd, 1) := by decide +kernel
theorem dX0_indexOf_10 : decode cX0_indexOf 10 = .ok (.iload_n 2, 1) := by decide +kernel
theorem dX0_indexOf_11 : decode cX0_indexOf 11 = .ok (.bipush 12, 2) := by decide +kernel
theorem dX0_indexOf_13 : decode cX0_indexOf 13 = .ok (.imul, 1) := by decide +kernel
theorem dX0_indexOf_14 : decode cX0_indexOf 14 = .ok (.iadd, 1) := by decide +kernel
theorem dX0_indexOf_15 : decode cX0_indexOf 15 = .ok (.iload_n 3, 1) := by decide +kernel
theorem dX0_indexOf_16 : decode cX0_indexOf 16 = .ok (.iadd, 1) := by decide +kernel
theorem dX0_indexOf_17 : decode cX0_indexOf 17 = .ok (.ireturn, 1) := by decide +kernel
theorem dX0_at_0 : decode cX0_at 0 = .ok (.aload_n 0, 1) := by decide +kernel
theorem dX0_at_1 : decode cX0_at 1 = .ok (.getfield 11, 3) := by decide +kernel
theorem dX0_at_4 : decode cX0_at 4 = .ok (.iload_n 1, 1) := by decide +kernel
theorem dX0_at_5 : decode cX0_at 5 = .ok (.iload_n 2, 1) := by decide +kernel
theorem dX0_at_6 : decode cX0_at 6 = .ok (.iload_n 3, 1) := by decide +kernel
theorem dX0_at_7 : decode cX0_at 7 = .ok (.iload 4, 2) := by decide +kernel
theorem dX0_at_9 : decode cX0_at 9 = .ok (.invokestatic 15, 3) := by decide +kernel
theorem dX0_at_12 : decode cX0_at 12 = .ok (.iaload, 1) := by decide +kernel
theorem dX0_at_13 : decode cX0_at 13 = .ok (.ireturn, 1) := by decide +kernel
theorem dX0_put_0 : decode cX0_put 0 = .ok (.iload_n 1, 1) := by decide +kernel
theorem dX0_put_1 : decode cX0_put 1 = .ok (.iload_n 2, 1) := by decide +kernel
theorem dX0_put_2 : decode cX0_put 2 = .ok (.iload_n 3, 1) := by decide +kernel
theorem dX0_put_3 : decode cX0_put 3 = .ok (.iload 4, 2) := by decide +kernel
theorem dX0_put_5 : decode cX0_put 5 = .ok (.invokestatic 15, 3) := by decide +kernel
theorem dX0_put_8 : decode cX0_put 8 = .ok (.istore 6, 2) := by decide +kernel
theorem dX0_put_10 : decode cX0_put 10 = .ok (.aload_n 0, 1) := by decide +kernel
theorem dX0_put_11 : decode cX0_put 11 = .ok (.getfield 11, 3) := by decide +kernel
theorem dX0_put_14 : decode cX0_put 14 = .ok (.iload 6, 2) := by decide +kernel
theorem dX0_put_16 : decode cX0_put 16 = .ok (.iaload, 1) := by decide +kernel
theorem dX0_put_17 : decode cX0_put 17 = .ok (.istore 7, 2) := by decide +kernel
theorem dX0_put_19 : decode cX0_put 19 = .ok (.aload_n 0, 1) := by decide +kernel
theorem dX0_put_20 : decode cX0_put 20 = .ok (.getfield 11, 3) := by decide +kernel
theorem dX0_put_23 : decode cX0_put 23 = .ok (.iload 6, 2) := by decide +kernel
theorem dX0_put_25 : decode cX0_put 25 = .ok (.iload 5, 2) := by decide +kernel
theorem dX0_put_27 : decode cX0_put 27 = .ok (.iastore, 1) := by decide +kernel
theorem dX0_put_28 : decode cX0_put 28 = .ok (.iload 7, 2) := by decide +kernel
theorem dX0_put_30 : decode cX0_put 30 = .ok (.ireturn, 1) := by decide +kernel
theorem dX0_valueOf_0 : decode cX0_valueOf 0 = .ok (.iload_n 3, 1) := by decide +kernel
theorem dX0_valueOf_1 : decode cX0_valueOf 1 = .ok (.iconst 3, 1) := by decide +kernel
theorem dX0_valueOf_2 : decode cX0_valueOf 2 = .ok (.if_icmp .ne 23, 3) := by decide +kernel
theorem dX0_valueOf_5 : decode cX0_valueOf 5 = .ok (.aload_n 0, 1) := by decide +kernel
theorem dX0_valueOf_6 : decode cX0_valueOf 6 = .ok (.iload_n 1, 1) := by decide +kernel
theorem dX0_valueOf_7 : decode cX0_valueOf 7 = .ok (.iload_n 2, 1) := by decide +kernel
theorem dX0_valueOf_8 : decode cX0_valueOf 8 = .ok (.iconst 0, 1) := by decide +kernel
theorem dX0_valueOf_9 : decode cX0_valueOf 9 = .ok (.iload 4, 2) := by decide +kernel
theorem dX0_valueOf_11 : decode cX0_valueOf 11 = .ok (.invokevirtual 19, 3) := by decide +kernel
theorem dX0_valueOf_14 : decode cX0_valueOf 14 = .ok (.aload_n 0, 1) := by decide +kernel
theorem dX0_valueOf_15 : decode cX0_valueOf 15 = .ok (.iload_n 1, 1) := by decide +kernel
theorem dX0_valueOf_16 : decode cX0_valueOf 16 = .ok (.iload_n 2, 1) := by decide +kernel
theorem dX0_valueOf_17 : decode cX0_valueOf 17 = .ok (.iconst 1, 1) := by decide +kernel
theorem dX0_valueOf_18 : decode cX0_valueOf 18 = .ok (.iload 4, 2) := by decide +kernel
theorem dX0_valueOf_20 : decode cX0_valueOf 20 = .ok (.invokevirtual 19, 3) := by decide +kernel
theorem dX0_valueOf_23 : decode cX0_valueOf 23 = .ok (.imul, 1) := by decide +kernel
theorem dX0_valueOf_24 : decode cX0_valueOf 24 = .ok (.ireturn, 1) := by decide +kernel
theorem dX0_valueOf_25 : decode cX0_valueOf 25 = .ok (.aload_n 0, 1) := by decide +kernel
theorem dX0_valueOf_26 : decode cX0_valueOf 26 = .ok (.iload_n 1, 1) := by decide +kernel
theorem dX0_valueOf_27 : decode cX0_valueOf 27 = .ok (.iload_n 2, 1) := by decide +kernel
theorem dX0_valueOf_28 : decode cX0_valueOf 28 = .ok (.iload_n 3, 1) := by decide +kernel
theorem dX0_valueOf_29 : decode cX0_valueOf 29 = .ok (.iload 4, 2) := by decide +kernel
theorem dX0_valueOf_31 : decode cX0_valueOf 31 = .ok (.invokevirtual 19, 3) := by decide +kernel
theorem dX0_valueOf_34 : decode cX0_valueOf 34 = .ok (.ireturn, 1) := by decide +kernel
theorem dX0_sumOver_0 : decode cX0_sumOver 0 = .ok (.iconst 0, 1) := by decide +kernel
theorem dX0_sumOver_1 : decode cX0_sumOver 1 = .ok (.istore 5, 2) := by decide +kernel
theorem dX0_sumOver_3 : decode cX0_sumOver 3 = .ok (.iconst 0, 1) := by decide +kernel
theorem dX0_sumOver_4 : decode cX0_sumOver 4 = .ok (.istore 6, 2) := by decide +kernel
theorem dX0_sumOver_6 : decode cX0_sumOver 6 = .ok (.iload 6, 2) := by decide +kernel
theorem dX0_sumOver_8 : decode cX0_sumOver 8 = .ok (.bipush 10, 2) := by decide +kernel
theorem dX0_sumOver_10 : decode cX0_sumOver 10 = .ok (.if_icmp .ge 33, 3) := by decide +kernel
theorem dX0_sumOver_13 : decode cX0_sumOver 13 = .ok (.iload_n 2, 1) := by decide +kernel
theorem dX0_sumOver_14 : decode cX0_sumOver 14 = .ok (.iload 6, 2) := by decide +kernel
theorem dX0_sumOver_16 : decode cX0_sumOver 16 = .ok (.invokestatic 22, 3) := by decide +kernel
theorem dX0_sumOver_19 : decode cX0_sumOver 19 = .ok (.ifCond .eq 18, 3) := by decide +kernel
theorem dX0_sumOver_22 : decode cX0_sumOver 22 = .ok (.iload 5, 2) := by decide +kernel
theorem dX0_sumOver_24 : decode cX0_sumOver 24 = .ok (.aload_n 0, 1) := by decide +kernel
theorem dX0_sumOver_25 : decode cX0_sumOver 25 = .ok (.iload_n 1, 1) := by decide +kernel
theorem dX0_sumOver_26 : decode cX0_sumOver 26 = .ok (.iload 6, 2) := by decide +kernel
theorem dX0_sumOver_28 : decode cX0_sumOver 28 = .ok (.iload_n 3, 1) := by decide +kernel
theorem dX0_sumOver_29 : decode cX0_sumOver 29 = .ok (.iload 4, 2) := by decide +kernel
theorem dX0_sumOver_31 : decode cX0_sumOver 31 = .ok (.invokevirtual 26, 3) := by decide +kernel
theorem dX0_sumOver_34 : decode cX0_sumOver 34 = .ok (.iadd, 1) := by decide +kernel
theorem dX0_sumOver_35 : decode cX0_sumOver 35 = .ok (.istore 5, 2) := by decide +kernel
theorem dX0_sumOver_37 : decode cX0_sumOver 37 = .ok (.iinc 6 1, 3) := by decide +kernel
theorem dX0_sumOver_40 : decode cX0_sumOver 40 = .ok (.goto (-34), 3) := by decide +kernel
theorem dX0_sumOver_43 : decode cX0_sumOver 43 = .ok (.iload 5, 2) := by decide +kernel
theorem dX0_sumOver_45 : decode cX0_sumOver 45 = .ok (.ireturn, 1) := by decide +kernel
theorem dX0_yearOf_0 : decode cX0_yearOf 0 = .ok (.iconst 0, 1) := by decide +kernel
theorem dX0_yearOf_1 : decode cX0_yearOf 1 = .ok (.istore 4, 2) := by decide +kernel
theorem dX0_yearOf_3 : decode cX0_yearOf 3 = .ok (.iconst 0, 1) := by decide +kernel
theorem dX0_yearOf_4 : decode cX0_yearOf 4 = .ok (.istore 5, 2) := by decide +kernel
theorem dX0_yearOf_6 : decode cX0_yearOf 6 = .ok (.iload 5, 2) := by decide +kernel
theorem dX0_yearOf_8 : decode cX0_yearOf 8 = .ok (.bipush 12, 2) := by decide +kernel
theorem dX0_yearOf_10 : decode cX0_yearOf 10 = .ok (.if_icmp .ge 23, 3) := by decide +kernel
theorem dX0_yearOf_13 : decode cX0_yearOf 13 = .ok (.iload 4, 2) := by decide +kernel
theorem dX0_yearOf_15 : decode cX0_yearOf 15 = .ok (.aload_n 0, 1) := by decide +kernel
theorem dX0_yearOf_16 : decode cX0_yearOf 16 = .ok (.iload_n 1, 1) := by decide +kernel
theorem dX0_yearOf_17 : decode cX0_yearOf 17 = .ok (.iload_n 2, 1) := by decide +kernel
theorem dX0_yearOf_18 : decode cX0_yearOf 18 = .ok (.iload_n 3, 1) := by decide +kernel
theorem dX0_yearOf_19 : decode cX0_yearOf 19 = .ok (.iload 5, 2) := by decide +kernel
theorem dX0_yearOf_21 : decode cX0_yearOf 21 = .ok (.invokevirtual 26, 3) := by decide +kernel
theorem dX0_yearOf_24 : decode cX0_yearOf 24 = .ok (.iadd, 1) := by decide +kernel
theorem dX0_yearOf_25 : decode cX0_yearOf 25 = .ok (.istore 4, 2) := by decide +kernel
theorem dX0_yearOf_27 : decode cX0_yearOf 27 = .ok (.iinc 5 1, 3) := by decide +kernel
theorem dX0_yearOf_30 : decode cX0_yearOf 30 = .ok (.goto (-24), 3) := by decide +kernel
theorem dX0_yearOf_33 : decode cX0_yearOf 33 = .ok (.iload 4, 2) := by decide +kernel
theorem dX0_yearOf_35 : decode cX0_yearOf 35 = .ok (.ireturn, 1) := by decide +kernel
theorem dX0_copyLayer_0 : decode cX0_copyLayer 0 = .ok (.iconst 0, 1) := by decide +kernel
theorem dX0_copyLayer_1 : decode cX0_copyLayer 1 = .ok (.istore_n 3, 1) := by decide +kernel
theorem dX0_copyLayer_2 : decode cX0_copyLayer 2 = .ok (.iconst 0, 1) := by decide +kernel
theorem dX0_copyLayer_3 : decode cX0_copyLayer 3 = .ok (.istore 4, 2) := by decide +kernel
theorem dX0_copyLayer_5 : decode cX0_copyLayer 5 = .ok (.iload 4, 2) := by decide +kernel
theorem dX0_copyLayer_7 : decode cX0_copyLayer 7 = .ok (.sipush 360, 3) := by decide +kernel
theorem dX0_copyLayer_10 : decode cX0_copyLayer 10 = .ok (.if_icmp .ge 63, 3) := by decide +kernel
theorem dX0_copyLayer_13 : decode cX0_copyLayer 13 = .ok (.aload_n 0, 1) := by decide +kernel
theorem dX0_copyLayer_14 : decode cX0_copyLayer 14 = .ok (.getfield 11, 3) := by decide +kernel
theorem dX0_copyLayer_17 : decode cX0_copyLayer 17 = .ok (.iload_n 1, 1) := by decide +kernel
theorem dX0_copyLayer_18 : decode cX0_copyLayer 18 = .ok (.sipush 360, 3) := by decide +kernel
theorem dX0_copyLayer_21 : decode cX0_copyLayer 21 = .ok (.imul, 1) := by decide +kernel
theorem dX0_copyLayer_22 : decode cX0_copyLayer 22 = .ok (.iload 4, 2) := by decide +kernel
theorem dX0_copyLayer_24 : decode cX0_copyLayer 24 = .ok (.iadd, 1) := by decide +kernel
theorem dX0_copyLayer_25 : decode cX0_copyLayer 25 = .ok (.iaload, 1) := by decide +kernel
theorem dX0_copyLayer_26 : decode cX0_copyLayer 26 = .ok (.istore 5, 2) := by decide +kernel
theorem dX0_copyLayer_28 : decode cX0_copyLayer 28 = .ok (.iload_n 2, 1) := by decide +kernel
theorem dX0_copyLayer_29 : decode cX0_copyLayer 29 = .ok (.sipush 360, 3) := by decide +kernel
theorem dX0_copyLayer_32 : decode cX0_copyLayer 32 = .ok (.imul, 1) := by decide +kernel
theorem dX0_copyLayer_33 : decode cX0_copyLayer 33 = .ok (.iload 4, 2) := by decide +kernel
theorem dX0_copyLayer_35 : decode cX0_copyLayer 35 = .ok (.iadd, 1) := by decide +kernel
theorem dX0_copyLayer_36 : decode cX0_copyLayer 36 = .ok (.istore 6, 2) := by decide +kernel
theorem dX0_copyLayer_38 : decode cX0_copyLayer 38 = .ok (.iload_n 3, 1) := by decide +kernel
theorem dX0_copyLayer_39 : decode cX0_copyLayer 39 = .ok (.aload_n 0, 1) := by decide +kernel
theorem dX0_copyLayer_40 : decode cX0_copyLayer 40 = .ok (.getfield 11, 3) := by decide +kernel
theorem dX0_copyLayer_43 : decode cX0_copyLayer 43 = .ok (.iload 6, 2) := by decide +kernel
theorem dX0_copyLayer_45 : decode cX0_copyLayer 45 = .ok (.iaload, 1) := by decide +kernel
theorem dX0_copyLayer_46 : decode cX0_copyLayer 46 = .ok (.iload 5, 2) := by decide +kernel
theorem dX0_copyLayer_48 : decode cX0_copyLayer 48 = .ok (.if_icmp .eq 7, 3) := by decide +kernel
theorem dX0_copyLayer_51 : decode cX0_copyLayer 51 = .ok (.iconst 1, 1) := by decide +kernel
theorem dX0_copyLayer_52 : decode cX0_copyLayer 52 = .ok (.goto 4, 3) := by decide +kernel
theorem dX0_copyLayer_55 : decode cX0_copyLayer 55 = .ok (.iconst 0, 1) := by decide +kernel
theorem dX0_copyLayer_56 : decode cX0_copyLayer 56 = .ok (.iadd, 1) := by decide +kernel
theorem dX0_copyLayer_57 : decode cX0_copyLayer 57 = .ok (.istore_n 3, 1) := by decide +kernel
theorem dX0_copyLayer_58 : decode cX0_copyLayer 58 = .ok (.aload_n 0, 1) := by decide +kernel
theorem dX0_copyLayer_59 : decode cX0_copyLayer 59 = .ok (.getfield 11, 3) := by decide +kernel
theorem dX0_copyLayer_62 : decode cX0_copyLayer 62 = .ok (.iload 6, 2) := by decide +kernel
theorem dX0_copyLayer_64 : decode cX0_copyLayer 64 = .ok (.iload 5, 2) := by decide +kernel
theorem dX0_copyLayer_66 : decode cX0_copyLayer 66 = .ok (.iastore, 1) := by decide +kernel
theorem dX0_copyLayer_67 : decode cX0_copyLayer 67 = .ok (.iinc 4 1, 3) := by decide +kernel
theorem dX0_copyLayer_70 : decode cX0_copyLayer 70 = .ok (.goto (-65), 3) := by decide +kernel
theorem dX0_copyLayer_73 : decode cX0_copyLayer 73 = .ok (.iload_n 3, 1) := by decide +kernel
theorem dX0_copyLayer_74 : decode cX0_copyLayer 74 = .ok (.ireturn, 1) := by decide +kernel
theorem dX0_isBlank_0 : decode cX0_isBlank 0 = .ok (.iconst 0, 1) := by decide +kernel
theorem dX0_isBlank_1 : decode cX0_isBlank 1 = .ok (.istore_n 2, 1) := by decide +kernel
theorem dX0_isBlank_2 : decode cX0_isBlank 2 = .ok (.iload_n 2, 1) := by decide +kernel
theorem dX0_isBlank_3 : decode cX0_isBlank 3 = .ok (.iconst 4, 1) := by decide +kernel
theorem dX0_isBlank_4 : decode cX0_isBlank 4 = .ok (.if_icmp .ge 45, 3) := by decide +kernel
theorem dX0_isBlank_7 : decode cX0_isBlank 7 = .ok (.iconst 0, 1) := by decide +kernel
theorem dX0_isBlank_8 : decode cX0_isBlank 8 = .ok (.istore_n 3, 1) := by decide +kernel
theorem dX0_isBlank_9 : decode cX0_isBlank 9 = .ok (.iload_n 3, 1) := by decide +kernel
theorem dX0_isBlank_10 : decode cX0_isBlank 10 = .ok (.bipush 36, 2) := by decide +kernel
theorem dX0_isBlank_12 : decode cX0_isBlank 12 = .ok (.if_icmp .ge 31, 3) := by decide +kernel
theorem dX0_isBlank_15 : decode cX0_isBlank 15 = .ok (.aload_n 0, 1) := by decide +kernel
theorem dX0_isBlank_16 : decode cX0_isBlank 16 = .ok (.getfield 11, 3) := by decide +kernel
theorem dX0_isBlank_19 : decode cX0_isBlank 19 = .ok (.iload_n 2, 1) := by decide +kernel
theorem dX0_isBlank_20 : decode cX0_isBlank 20 = .ok (.sipush 360, 3) := by decide +kernel
theorem dX0_isBlank_23 : decode cX0_isBlank 23 = .ok (.imul, 1) := by decide +kernel
theorem dX0_isBlank_24 : decode cX0_isBlank 24 = .ok (.iload_n 1, 1) := by decide +kernel
theorem dX0_isBlank_25 : decode cX0_isBlank 25 = .ok (.bipush 36, 2) := by decide +kernel
theorem dX0_isBlank_27 : decode cX0_isBlank 27 = .ok (.imul, 1) := by decide +kernel
theorem dX0_isBlank_28 : decode cX0_isBlank 28 = .ok (.iadd, 1) := by decide +kernel
theorem dX0_isBlank_29 : decode cX0_isBlank 29 = .ok (.iload_n 3, 1) := by decide +kernel
theorem dX0_isBlank_30 : decode cX0_isBlank 30 = .ok (.iadd, 1) := by decide +kernel
theorem dX0_isBlank_31 : decode cX0_isBlank 31 = .ok (.iaload, 1) := by decide +kernel
theorem dX0_isBlank_32 : decode cX0_isBlank 32 = .ok (.ifCond .eq 5, 3) := by decide +kernel
theorem dX0_isBlank_35 : decode cX0_isBlank 35 = .ok (.iconst 0, 1) := by decide +kernel
theorem dX0_isBlank_36 : decode cX0_isBlank 36 = .ok (.ireturn, 1) := by decide +kernel
theorem dX0_isBlank_37 : decode cX0_isBlank 37 = .ok (.iinc 3 1, 3) := by decide +kernel
theorem dX0_isBlank_40 : decode cX0_isBlank 40 = .ok (.goto (-31), 3) := by decide +kernel
theorem dX0_isBlank_43 : decode cX0_isBlank 43 = .ok (.iinc 2 1, 3) := by decide +kernel
theorem dX0_isBlank_46 : decode cX0_isBlank 46 = .ok (.goto (-44), 3) := by decide +kernel
theorem dX0_isBlank_49 : decode cX0_isBlank 49 = .ok (.iconst 1, 1) := by decide +kernel
theorem dX0_isBlank_50 : decode cX0_isBlank 50 = .ok (.ireturn, 1) := by decide +kernel
theorem dX0_countFilled_0 : decode cX0_countFilled 0 = .ok (.iconst 0, 1) := by decide +kernel
theorem dX0_countFilled_1 : decode cX0_countFilled 1 = .ok (.istore_n 1, 1) := by decide +kernel
theorem dX0_countFilled_2 : decode cX0_countFilled 2 = .ok (.iconst 0, 1) := by decide +kernel
theorem dX0_countFilled_3 : decode cX0_countFilled 3 = .ok (.istore_n 2, 1) := by decide +kernel
theorem dX0_countFilled_4 : decode cX0_countFilled 4 = .ok (.iload_n 2, 1) := by decide +kernel
theorem dX0_countFilled_5 : decode cX0_countFilled 5 = .ok (.aload_n 0, 1) := by decide +kernel
theorem dX0_countFilled_6 : decode cX0_countFilled 6 = .ok (.getfield 11, 3) := by decide +kernel
theorem dX0_countFilled_9 : decode cX0_countFilled 9 = .ok (.arraylength, 1) := by decide +kernel
theorem dX0_countFilled_10 : decode cX0_countFilled 10 = .ok (.if_icmp .ge 26, 3) := by decide +kernel
theorem dX0_countFilled_13 : decode cX0_countFilled 13 = .ok (.iload_n 1, 1) := by decide +kernel
theorem dX0_countFilled_14 : decode cX0_countFilled 14 = .ok (.aload_n 0, 1) := by decide +kernel
theorem dX0_countFilled_15 : decode cX0_countFilled 15 = .ok (.getfield 11, 3) := by decide +kernel
theorem dX0_countFilled_18 : decode cX0_countFilled 18 = .ok (.iload_n 2, 1) := by decide +kernel
theorem dX0_countFilled_19 : decode cX0_countFilled 19 = .ok (.iaload, 1) := by decide +kernel
theorem dX0_countFilled_20 : decode cX0_countFilled 20 = .ok (.ifCond .eq 7, 3) := by decide +kernel
theorem dX0_countFilled_23 : decode cX0_countFilled 23 = .ok (.iconst 1, 1) := by decide +kernel
theorem dX0_countFilled_24 : decode cX0_countFilled 24 = .ok (.goto 4, 3) := by decide +kernel
theorem dX0_countFilled_27 : decode cX0_countFilled 27 = .ok (.iconst 0, 1) := by decide +kernel
theorem dX0_countFilled_28 : decode cX0_countFilled 28 = .ok (.iadd, 1) := by decide +kernel
theorem dX0_countFilled_29 : decode cX0_countFilled 29 = .ok (.istore_n 1, 1) := by decide +kernel
theorem dX0_countFilled_30 : decode cX0_countFilled 30 = .ok (.iinc 2 1, 3) := by decide +kernel
theorem dX0_countFilled_33 : decode cX0_countFilled 33 = .ok (.goto (-29), 3) := by decide +kernel
theorem dX0_countFilled_36 : decode cX0_countFilled 36 = .ok (.iload_n 1, 1) := by decide +kernel
theorem dX0_countFilled_37 : decode cX0_countFilled 37 = .ok (.ireturn, 1) := by decide +kernel
theorem dX1_init_0 : decode cX1_init 0 = .ok (.aload_n 0, 1) := by decide +kernel
theorem dX1_init_1 : decode cX1_init 1 = .ok (.invokespecial 3, 3) := by decide +kernel
theorem dX1_init_4 : decode cX1_init 4 = .ok (.aload_n 0, 1) := by decide +kernel
theorem dX1_init_5 : decode cX1_init 5 = .ok (.bipush 12, 2) := by decide +kernel
theorem dX1_init_7 : decode cX1_init 7 = .ok (.newarray .int, 2) := by decide +kernel
theorem dX1_init_9 : decode cX1_init 9 = .ok (.putfield 9, 3) := by decide +kernel
theorem dX1_init_12 : decode cX1_init 12 = .ok (.aload_n 0, 1) := by decide +kernel
theorem dX1_init_13 : decode cX1_init 13 = .ok (.bipush 12, 2) := by decide +kernel
theorem dX1_init_15 : decode cX1_init 15 = .ok (.newarray .int, 2) := by decide +kernel
theorem dX1_init_17 : decode cX1_init 17 = .ok (.putfield 15, 3) := by decide +kernel
theorem dX1_init_20 : decode cX1_init 20 = .ok (.return_, 1) := by decide +kernel
theorem dX1_weigh_0 : decode cX1_weigh 0 = .ok (.aload_n 0, 1) := by decide +kernel
theorem dX1_weigh_1 : decode cX1_weigh 1 = .ok (.getfield 9, 3) := by decide +kernel
theorem dX1_weigh_4 : decode cX1_weigh 4 = .ok (.iload_n 1, 1) := by decide +kernel
theorem dX1_weigh_5 : decode cX1_weigh 5 = .ok (.iaload, 1) := by decide +kernel
theorem dX1_weigh_6 : decode cX1_weigh 6 = .ok (.istore_n 3, 1) := by decide +kernel
theorem dX1_weigh_7 : decode cX1_weigh 7 = .ok (.aload_n 0, 1) := by decide +kernel
theorem dX1_weigh_8 : decode cX1_weigh 8 = .ok (.getfield 9, 3) := by decide +kernel
theorem dX1_weigh_11 : decode cX1_weigh 11 = .ok (.iload_n 1, 1) := by decide +kernel
theorem dX1_weigh_12 : decode cX1_weigh 12 = .ok (.iload_n 2, 1) := by decide +kernel
theorem dX1_weigh_13 : decode cX1_weigh 13 = .ok (.iastore, 1) := by decide +kernel
theorem dX1_weigh_14 : decode cX1_weigh 14 = .ok (.iload_n 3, 1) := by decide +kernel
theorem dX1_weigh_15 : decode cX1_weigh 15 = .ok (.ireturn, 1) := by decide +kernel
theorem dX1_shareOf_0 : decode cX1_shareOf 0 = .ok (.aload_n 0, 1) := by decide +kernel
theorem dX1_shareOf_1 : decode cX1_shareOf 1 = .ok (.getfield 15, 3) := by decide +kernel
theorem dX1_shareOf_4 : decode cX1_shareOf 4 = .ok (.iload_n 1, 1) := by decide +kernel
theorem dX1_shareOf_5 : decode cX1_shareOf 5 = .ok (.iaload, 1) := by decide +kernel
theorem dX1_shareOf_6 : decode cX1_shareOf 6 = .ok (.ireturn, 1) := by decide +kernel
theorem dX1_totalWeight_0 : decode cX1_totalWeight 0 = .ok (.iconst 0, 1) := by decide +kernel
theorem dX1_totalWeight_1 : decode cX1_totalWeight 1 = .ok (.istore_n 1, 1) := by decide +kernel
theorem dX1_totalWeight_2 : decode cX1_totalWeight 2 = .ok (.iconst 0, 1) := by decide +kernel
theorem dX1_totalWeight_3 : decode cX1_totalWeight 3 = .ok (.istore_n 2, 1) := by decide +kernel
theorem dX1_totalWeight_4 : decode cX1_totalWeight 4 = .ok (.iload_n 2, 1) := by decide +kernel
theorem dX1_totalWeight_5 : decode cX1_totalWeight 5 = .ok (.bipush 12, 2) := by decide +kernel
theorem dX1_totalWeight_7 : decode cX1_totalWeight 7 = .ok (.if_icmp .ge 18, 3) := by decide +kernel
theorem dX1_totalWeight_10 : decode cX1_totalWeight 10 = .ok (.iload_n 1, 1) := by decide +kernel
theorem dX1_totalWeight_11 : decode cX1_totalWeight 11 = .ok (.aload_n 0, 1) := by decide +kernel
theorem dX1_totalWeight_12 : decode cX1_totalWeight 12 = .ok (.getfield 9, 3) := by decide +kernel
theorem dX1_totalWeight_15 : decode cX1_totalWeight 15 = .ok (.iload_n 2, 1) := by decide +kernel
theorem dX1_totalWeight_16 : decode cX1_totalWeight 16 = .ok (.iaload, 1) := by decide +kernel
theorem dX1_totalWeight_17 : decode cX1_totalWeight 17 = .ok (.iadd, 1) := by decide +kernel
theorem dX1_totalWeight_18 : decode cX1_totalWeight 18 = .ok (.istore_n 1, 1) := by decide +kernel
theorem dX1_totalWeight_19 : decode cX1_totalWeight 19 = .ok (.iinc 2 1, 3) := by decide +kernel
theorem dX1_totalWeight_22 : decode cX1_totalWeight 22 = .ok (.goto (-18), 3) := by decide +kernel
theorem dX1_totalWeight_25 : decode cX1_totalWeight 25 = .ok (.iload_n 1, 1) := by decide +kernel
theorem dX1_totalWeight_26 : decode cX1_totalWeight 26 = .ok (.ireturn, 1) := by decide +kernel
theorem dX1_divide_0 : decode cX1_divide 0 = .ok (.aload_n 0, 1) := by decide +kernel
theorem dX1_divide_1 : decode cX1_divide 1 = .ok (.invokevirtual 18, 3) := by decide +kernel
theorem dX1_divide_4 : decode cX1_divide 4 = .ok (.istore_n 2, 1) := by decide +kernel
theorem dX1_divide_5 : decode cX1_divide 5 = .ok (.iload_n 1, 1) := by decide +kernel
theorem dX1_divide_6 : decode cX1_divide 6 = .ok (.istore_n 3, 1) := by decide +kernel
theorem dX1_divide_7 : decode cX1_divide 7 = .ok (.iconst 0, 1) := by decide +kernel
theorem dX1_divide_8 : decode cX1_divide 8 = .ok (.istore 4, 2) := by decide +kernel
theorem dX1_divide_10 : decode cX1_divide 10 = .ok (.iload 4, 2) := by decide +kernel
theorem dX1_divide_12 : decode cX1_divide 12 = .ok (.bipush 12, 2) := by decide +kernel
theorem dX1_divide_14 : decode cX1_divide 14 = .ok (.if_icmp .ge 49, 3) := by decide +kernel
theorem dX1_divide_17 : decode cX1_divide 17 = .ok (.aload_n 0, 1) := by decide +kernel
theorem dX1_divide_18 : decode cX1_divide 18 = .ok (.getfield 15, 3) := by decide +kernel
theorem dX1_divide_21 : decode cX1_divide 21 = .ok (.iload 4, 2) := by decide +kernel
theorem dX1_divide_23 : decode cX1_divide 23 = .ok (.iload_n 2, 1) := by decide +kernel
theorem dX1_divide_24 : decode cX1_divide 24 = .ok (.ifCond .ne 7, 3) := by decide +kernel
theorem dX1_divide_27 : decode cX1_divide 27 = .ok (.iconst 0, 1) := by decide +kernel
theorem dX1_divide_28 : decode cX1_divide 28 = .ok (.goto 18, 3) := by decide +kernel
theorem dX1_divide_31 : decode cX1_divide 31 = .ok (.iload_n 1, 1) := by decide +kernel
theorem dX1_divide_32 : decode cX1_divide 32 = .ok (.i2l, 1) := by decide +kernel
theorem dX1_divide_33 : decode cX1_divide 33 = .ok (.aload_n 0, 1) := by decide +kernel
theorem dX1_divide_34 : decode cX1_divide 34 = .ok (.getfield 9, 3) := by decide +kernel
theorem dX1_divide_37 : decode cX1_divide 37 = .ok (.iload 4, 2) := by decide +kernel
theorem dX1_divide_39 : decode cX1_divide 39 = .ok (.iaload, 1) := by decide +kernel
theorem dX1_divide_40 : decode cX1_divide 40 = .ok (.i2l, 1) := by decide +kernel
theorem dX1_divide_41 : decode cX1_divide 41 = .ok (.lmul, 1) := by decide +kernel
theorem dX1_divide_42 : decode cX1_divide 42 = .ok (.iload_n 2, 1) := by decide +kernel
theorem dX1_divide_43 : decode cX1_divide 43 = .ok (.i2l, 1) := by decide +kernel
theorem dX1_divide_44 : decode cX1_divide 44 = .ok (.ldiv, 1) := by decide +kernel
theorem dX1_divide_45 : decode cX1_divide 45 = .ok (.l2i, 1) := by decide +kernel
theorem dX1_divide_46 : decode cX1_divide 46 = .ok (.iastore, 1) := by decide +kernel
theorem dX1_divide_47 : decode cX1_divide 47 = .ok (.iload_n 3, 1) := by decide +kernel
theorem dX1_divide_48 : decode cX1_divide 48 = .ok (.aload_n 0, 1) := by decide +kernel
theorem dX1_divide_49 : decode cX1_divide 49 = .ok (.getfield 15, 3) := by decide +kernel
theorem dX1_divide_52 : decode cX1_divide 52 = .ok (.iload 4, 2) := by decide +kernel
theorem dX1_divide_54 : decode cX1_divide 54 = .ok (.iaload, 1) := by decide +kernel
theorem dX1_divide_55 : decode cX1_divide 55 = .ok (.isub, 1) := by decide +kernel
theorem dX1_divide_56 : decode cX1_divide 56 = .ok (.istore_n 3, 1) := by decide +kernel
theorem dX1_divide_57 : decode cX1_divide 57 = .ok (.iinc 4 1, 3) := by decide +kernel
theorem dX1_divide_60 : decode cX1_divide 60 = .ok (.goto (-50), 3) := by decide +kernel
theorem dX1_divide_63 : decode cX1_divide 63 = .ok (.iconst 0, 1) := by decide +kernel
theorem dX1_divide_64 : decode cX1_divide 64 = .ok (.istore 4, 2) := by decide +kernel
theorem dX1_divide_66 : decode cX1_divide 66 = .ok (.iload 4, 2) := by decide +kernel
theorem dX1_divide_68 : decode cX1_divide 68 = .ok (.bipush 12, 2) := by decide +kernel
theorem dX1_divide_70 : decode cX1_divide 70 = .ok (.if_icmp .ge 37, 3) := by decide +kernel
theorem dX1_divide_73 : decode cX1_divide 73 = .ok (.iload_n 3, 1) := by decide +kernel
theorem dX1_divide_74 : decode cX1_divide 74 = .ok (.ifCond .le 27, 3) := by decide +kernel
theorem dX1_divide_77 : decode cX1_divide 77 = .ok (.aload_n 0, 1) := by decide +kernel
theorem dX1_divide_78 : decode cX1_divide 78 = .ok (.getfield 9, 3) := by decide +kernel
theorem dX1_divide_81 : decode cX1_divide 81 = .ok (.iload 4, 2) := by decide +kernel
theorem dX1_divide_83 : decode cX1_divide 83 = .ok (.iaload, 1) := by decide +kernel
theorem dX1_divide_84 : decode cX1_divide 84 = .ok (.ifCond .eq 17, 3) := by decide +kernel
theorem dX1_divide_87 : decode cX1_divide 87 = .ok (.aload_n 0, 1) := by decide +kernel
theorem dX1_divide_88 : decode cX1_divide 88 = .ok (.getfield 15, 3) := by decide +kernel
theorem dX1_divide_91 : decode cX1_divide 91 = .ok (.iload 4, 2) := by decide +kernel
theorem dX1_divide_93 : decode cX1_divide 93 = .ok (.dup2, 1) := by decide +kernel
theorem dX1_divide_94 : decode cX1_divide 94 = .ok (.iaload, 1) := by decide +kernel
theorem dX1_divide_95 : decode cX1_divide 95 = .ok (.iconst 1, 1) := by decide +kernel
theorem dX1_divide_96 : decode cX1_divide 96 = .ok (.iadd, 1) := by decide +kernel
theorem dX1_divide_97 : decode cX1_divide 97 = .ok (.iastore, 1) := by decide +kernel
theorem dX1_divide_98 : decode cX1_divide 98 = .ok (.iinc 3 (-1), 3) := by decide +kernel
theorem dX1_divide_101 : decode cX1_divide 101 = .ok (.iinc 4 1, 3) := by decide +kernel
theorem dX1_divide_104 : decode cX1_divide 104 = .ok (.goto (-38), 3) := by decide +kernel
theorem dX1_divide_107 : decode cX1_divide 107 = .ok (.return_, 1) := by decide +kernel
theorem dX2_init_0 : decode cX2_init 0 = .ok (.aload_n 0, 1) := by decide +kernel
theorem dX2_init_1 : decode cX2_init 1 = .ok (.invokespecial 3, 3) := by decide +kernel
theorem dX2_init_4 : decode cX2_init 4 = .ok (.aload_n 0, 1) := by decide +kernel
theorem dX2_init_5 : decode cX2_init 5 = .ok (.bipush 10, 2) := by decide +kernel
theorem dX2_init_7 : decode cX2_init 7 = .ok (.newarray .int, 2) := by decide +kernel
theorem dX2_init_9 : decode cX2_init 9 = .ok (.putfield 9, 3) := by decide +kernel
theorem dX2_init_12 : decode cX2_init 12 = .ok (.aload_n 0, 1) := by decide +kernel
theorem dX2_init_13 : decode cX2_init 13 = .ok (.iconst 1, 1) := by decide +kernel
theorem dX2_init_14 : decode cX2_init 14 = .ok (.putfield 15, 3) := by decide +kernel
theorem dX2_init_17 : decode cX2_init 17 = .ok (.aload_n 0, 1) := by decide +kernel
theorem dX2_init_18 : decode cX2_init 18 = .ok (.iconst 0, 1) := by decide +kernel
theorem dX2_init_19 : decode cX2_init 19 = .ok (.putfield 19, 3) := by decide +kernel
theorem dX2_init_22 : decode cX2_init 22 = .ok (.return_, 1) := by decide +kernel
theorem dX2_size_0 : decode cX2_size 0 = .ok (.aload_n 0, 1) := by decide +kernel
theorem dX2_size_1 : decode cX2_size 1 = .ok (.getfield 15, 3) := by decide +kernel
theorem dX2_size_4 : decode cX2_size 4 = .ok (.ireturn, 1) := by decide +kernel
theorem dX2_has_0 : decode cX2_has 0 = .ok (.iload_n 1, 1) := by decide +kernel
theorem dX2_has_1 : decode cX2_has 1 = .ok (.ifCond .lt 15, 3) := by decide +kernel
theorem dX2_has_4 : decode cX2_has 4 = .ok (.iload_n 1, 1) := by decide +kernel
theorem dX2_has_5 : decode cX2_has 5 = .ok (.aload_n 0, 1) := by decide +kernel
theorem dX2_has_6 : decode cX2_has 6 = .ok (.getfield 15, 3) := by decide +kernel
theorem dX2_has_9 : decode cX2_has 9 = .ok (.if_icmp .ge 7, 3) := by decide +kernel
theorem dX2_has_12 : decode cX2_has 12 = .ok (.iconst 1, 1) := by decide +kernel
theorem dX2_has_13 : decode cX2_has 13 = .ok (.goto 4, 3) := by decide +kernel
theorem dX2_has_16 : decode cX2_has 16 = .ok (.iconst 0, 1) := by decide +kernel
theorem dX2_has_17 : decode cX2_has 17 = .ok (.ireturn, 1) := by decide +kernel
theorem dX2_isFull_0 : decode cX2_isFull 0 = .ok (.aload_n 0, 1) := by decide +kernel
theorem dX2_isFull_1 : decode cX2_isFull 1 = .ok (.getfield 15, 3) := by decide +kernel
theorem dX2_isFull_4 : decode cX2_isFull 4 = .ok (.bipush 10, 2) := by decide +kernel
theorem dX2_isFull_6 : decode cX2_isFull 6 = .ok (.if_icmp .lt 7, 3) := by decide +kernel
theorem dX2_isFull_9 : decode cX2_isFull 9 = .ok (.iconst 1, 1) := by decide +kernel
theorem dX2_isFull_10 : decode cX2_isFull 10 = .ok (.goto 4, 3) := by decide +kernel
theorem dX2_isFull_13 : decode cX2_isFull 13 = .ok (.iconst 0, 1) := by decide +kernel
theorem dX2_isFull_14 : decode cX2_isFull 14 = .ok (.ireturn, 1) := by decide +kernel
theorem dX2_isLeaf_0 : decode cX2_isLeaf 0 = .ok (.aload_n 0, 1) := by decide +kernel
theorem dX2_isLeaf_1 : decode cX2_isLeaf 1 = .ok (.getfield 19, 3) := by decide +kernel
theorem dX2_isLeaf_4 : decode cX2_isLeaf 4 = .ok (.iload_n 1, 1) := by decide +kernel
theorem dX2_isLeaf_5 : decode cX2_isLeaf 5 = .ok (.invokestatic 22, 3) := by decide +kernel
theorem dX2_isLeaf_8 : decode cX2_isLeaf 8 = .ok (.ifCond .ne 7, 3) := by decide +kernel
theorem dX2_isLeaf_11 : decode cX2_isLeaf 11 = .ok (.iconst 1, 1) := by decide +kernel
theorem dX2_isLeaf_12 : decode cX2_isLeaf 12 = .ok (.goto 4, 3) := by decide +kernel
theorem dX2_isLeaf_15 : decode cX2_isLeaf 15 = .ok (.iconst 0, 1) := by decide +kernel
theorem dX2_isLeaf_16 : decode cX2_isLeaf 16 = .ok (.ireturn, 1) := by decide +kernel
theorem dX2_addBelow_0 : decode cX2_addBelow 0 = .ok (.aload_n 0, 1) := by decide +kernel
theorem dX2_addBelow_1 : decode cX2_addBelow 1 = .ok (.getfield 15, 3) := by decide +kernel
theorem dX2_addBelow_4 : decode cX2_addBelow 4 = .ok (.istore_n 2, 1) := by decide +kernel
theorem dX2_addBelow_5 : decode cX2_addBelow 5 = .ok (.aload_n 0, 1) := by decide +kernel
theorem dX2_addBelow_6 : decode cX2_addBelow 6 = .ok (.getfield 9, 3) := by decide +kernel
theorem dX2_addBelow_9 : decode cX2_addBelow 9 = .ok (.iload_n 2, 1) := by decide +kernel
theorem dX2_addBelow_10 : decode cX2_addBelow 10 = .ok (.iload_n 1, 1) := by decide +kernel
theorem dX2_addBelow_11 : decode cX2_addBelow 11 = .ok (.iastore, 1) := by decide +kernel
theorem dX2_addBelow_12 : decode cX2_addBelow 12 = .ok (.aload_n 0, 1) := by decide +kernel
theorem dX2_addBelow_13 : decode cX2_addBelow 13 = .ok (.dup, 1) := by decide +kernel
theorem dX2_addBelow_14 : decode cX2_addBelow 14 = .ok (.getfield 19, 3) := by decide +kernel
theorem dX2_addBelow_17 : decode cX2_addBelow 17 = .ok (.iconst 1, 1) := by decide +kernel
theorem dX2_addBelow_18 : decode cX2_addBelow 18 = .ok (.iload_n 1, 1) := by decide +kernel
theorem dX2_addBelow_19 : decode cX2_addBelow 19 = .ok (.ishl, 1) := by decide +kernel
theorem dX2_addBelow_20 : decode cX2_addBelow 20 = .ok (.ior, 1) := by decide +kernel
theorem dX2_addBelow_21 : decode cX2_addBelow 21 = .ok (.putfield 19, 3) := by decide +kernel
theorem dX2_addBelow_24 : decode cX2_addBelow 24 = .ok (.aload_n 0, 1) := by decide +kernel
theorem dX2_addBelow_25 : decode cX2_addBelow 25 = .ok (.dup, 1) := by decide +kernel
theorem dX2_addBelow_26 : decode cX2_addBelow 26 = .ok (.getfield 15, 3) := by decide +kernel
theorem dX2_addBelow_29 : decode cX2_addBelow 29 = .ok (.iconst 1, 1) := by decide +kernel
theorem dX2_addBelow_30 : decode cX2_addBelow 30 = .ok (.iadd, 1) := by decide +kernel
theorem dX2_addBelow_31 : decode cX2_addBelow 31 = .ok (.putfield 15, 3) := by decide +kernel
theorem dX2_addBelow_34 : decode cX2_addBelow 34 = .ok (.iload_n 2, 1) := by decide +kernel
theorem dX2_addBelow_35 : decode cX2_addBelow 35 = .ok (.ireturn, 1) := by decide +kernel
theorem dX2_leavesBelow_0 : decode cX2_leavesBelow 0 = .ok (.iconst 1, 1) := by decide +kernel
theorem dX2_leavesBelow_1 : decode cX2_leavesBelow 1 = .ok (.iload_n 1, 1) := by decide +kernel
theorem dX2_leavesBelow_2 : decode cX2_leavesBelow 2 = .ok (.ishl, 1) := by decide +kernel
theorem dX2_leavesBelow_3 : decode cX2_leavesBelow 3 = .ok (.istore_n 2, 1) := by decide +kernel
theorem dX2_leavesBelow_4 : decode cX2_leavesBelow 4 = .ok (.iload_n 1, 1) := by decide +kernel
theorem dX2_leavesBelow_5 : decode cX2_leavesBelow 5 = .ok (.iconst 1, 1) := by decide +kernel
theorem dX2_leavesBelow_6 : decode cX2_leavesBelow 6 = .ok (.iadd, 1) := by decide +kernel
theorem dX2_leavesBelow_7 : decode cX2_leavesBelow 7 = .ok (.istore_n 3, 1) := by decide +kernel
theorem dX2_leavesBelow_8 : decode cX2_leavesBelow 8 = .ok (.iload_n 3, 1) := by decide +kernel
theorem dX2_leavesBelow_9 : decode cX2_leavesBelow 9 = .ok (.aload_n 0, 1) := by decide +kernel
theorem dX2_leavesBelow_10 : decode cX2_leavesBelow 10 = .ok (.getfield 15, 3) := by decide +kernel
theorem dX2_leavesBelow_13 : decode cX2_leavesBelow 13 = .ok (.if_icmp .ge 28, 3) := by decide +kernel
theorem dX2_leavesBelow_16 : decode cX2_leavesBelow 16 = .ok (.iload_n 2, 1) := by decide +kernel
theorem dX2_leavesBelow_17 : decode cX2_leavesBelow 17 = .ok (.aload_n 0, 1) := by decide +kernel
theorem dX2_leavesBelow_18 : decode cX2_leavesBelow 18 = .ok (.getfield 9, 3) := by decide +kernel
theorem dX2_leavesBelow_21 : decode cX2_leavesBelow 21 = .ok (.iload_n 3, 1) := by decide +kernel
theorem dX2_leavesBelow_22 : decode cX2_leavesBelow 22 = .ok (.iaload, 1) := by decide +kernel
theorem dX2_leavesBelow_23 : decode cX2_leavesBelow 23 = .ok (.invokestatic 22, 3) := by decide +kernel
theorem dX2_leavesBelow_26 : decode cX2_leavesBelow 26 = .ok (.ifCond .eq 9, 3) := by decide +kernel
theorem dX2_leavesBelow_29 : decode cX2_leavesBelow 29 = .ok (.iload_n 2, 1) := by decide +kernel
theorem dX2_leavesBelow_30 : decode cX2_leavesBelow 30 = .ok (.iconst 1, 1) := by decide +kernel
theorem dX2_leavesBelow_31 : decode cX2_leavesBelow 31 = .ok (.iload_n 3, 1) := by decide +kernel
theorem dX2_leavesBelow_32 : decode cX2_leavesBelow 32 = .ok (.ishl, 1) := by decide +kernel
theorem dX2_leavesBelow_33 : decode cX2_leavesBelow 33 = .ok (.ior, 1) := by decide +kernel
theorem dX2_leavesBelow_34 : decode cX2_leavesBelow 34 = .ok (.istore_n 2, 1) := by decide +kernel
theorem dX2_leavesBelow_35 : decode cX2_leavesBelow 35 = .ok (.iinc 3 1, 3) := by decide +kernel
theorem dX2_leavesBelow_38 : decode cX2_leavesBelow 38 = .ok (.goto (-30), 3) := by decide +kernel
theorem dX2_leavesBelow_41 : decode cX2_leavesBelow 41 = .ok (.iload_n 2, 1) := by decide +kernel
theorem dX2_leavesBelow_42 : decode cX2_leavesBelow 42 = .ok (.aload_n 0, 1) := by decide +kernel
theorem dX2_leavesBelow_43 : decode cX2_leavesBelow 43 = .ok (.getfield 19, 3) := by decide +kernel
theorem dX2_leavesBelow_46 : decode cX2_leavesBelow 46 = .ok (.iconst (-1), 1) := by decide +kernel
theorem dX2_leavesBelow_47 : decode cX2_leavesBelow 47 = .ok (.ixor, 1) := by decide +kernel
theorem dX2_leavesBelow_48 : decode cX2_leavesBelow 48 = .ok (.iand, 1) := by decide +kernel
theorem dX2_leavesBelow_49 : decode cX2_leavesBelow 49 = .ok (.ireturn, 1) := by decide +kernel
theorem dX3_init_0 : decode cX3_init 0 = .ok (.aload_n 0, 1) := by decide +kernel
theorem dX3_init_1 : decode cX3_init 1 = .ok (.invokespecial 3, 3) := by decide +kernel
theorem dX3_init_4 : decode cX3_init 4 = .ok (.aload_n 0, 1) := by decide +kernel
theorem dX3_init_5 : decode cX3_init 5 = .ok (.new 9, 3) := by decide +kernel
theorem dX3_init_8 : decode cX3_init 8 = .ok (.dup, 1) := by decide +kernel
theorem dX3_init_9 : decode cX3_init 9 = .ok (.invokespecial 11, 3) := by decide +kernel
theorem dX3_init_12 : decode cX3_init 12 = .ok (.putfield 12, 3) := by decide +kernel
theorem dX3_init_15 : decode cX3_init 15 = .ok (.aload_n 0, 1) := by decide +kernel
theorem dX3_init_16 : decode cX3_init 16 = .ok (.new 16, 3) := by decide +kernel
theorem dX3_init_19 : decode cX3_init 19 = .ok (.dup, 1) := by decide +kernel
theorem dX3_init_20 : decode cX3_init 20 = .ok (.invokespecial 18, 3) := by decide +kernel
theorem dX3_init_23 : decode cX3_init 23 = .ok (.putfield 19, 3) := by decide +kernel
theorem dX3_init_26 : decode cX3_init 26 = .ok (.aload_n 0, 1) := by decide +kernel
theorem dX3_init_27 : decode cX3_init 27 = .ok (.bipush 12, 2) := by decide +kernel
theorem dX3_init_29 : decode cX3_init 29 = .ok (.newarray .int, 2) := by decide +kernel
theorem dX3_init_31 : decode cX3_init 31 = .ok (.putfield 23, 3) := by decide +kernel
theorem dX3_init_34 : decode cX3_init 34 = .ok (.aload_n 0, 1) := by decide +kernel
theorem dX3_init_35 : decode cX3_init 35 = .ok (.iconst 3, 1) := by decide +kernel
theorem dX3_init_36 : decode cX3_init 36 = .ok (.newarray .int, 2) := by decide +kernel
theorem dX3_init_38 : decode cX3_init 38 = .ok (.putfield 27, 3) := by decide +kernel
theorem dX3_init_41 : decode cX3_init 41 = .ok (.aload_n 0, 1) := by decide +kernel
theorem dX3_init_42 : decode cX3_init 42 = .ok (.new 30, 3) := by decide +kernel
theorem dX3_init_45 : decode cX3_init 45 = .ok (.dup, 1) := by decide +kernel
theorem dX3_init_46 : decode cX3_init 46 = .ok (.invokespecial 32, 3) := by decide +kernel
theorem dX3_init_49 : decode cX3_init 49 = .ok (.putfield 33, 3) := by decide +kernel
theorem dX3_init_52 : decode cX3_init 52 = .ok (.aload_n 0, 1) := by decide +kernel
theorem dX3_init_53 : decode cX3_init 53 = .ok (.new 30, 3) := by decide +kernel
theorem dX3_init_56 : decode cX3_init 56 = .ok (.dup, 1) := by decide +kernel
theorem dX3_init_57 : decode cX3_init 57 = .ok (.invokespecial 32, 3) := by decide +kernel
theorem dX3_init_60 : decode cX3_init 60 = .ok (.putfield 37, 3) := by decide +kernel
theorem dX3_init_63 : decode cX3_init 63 = .ok (.aload_n 0, 1) := by decide +kernel
theorem dX3_init_64 : decode cX3_init 64 = .ok (.iconst 0, 1) := by decide +kernel
theorem dX3_init_65 : decode cX3_init 65 = .ok (.putfield 40, 3) := by decide +kernel
theorem dX3_init_68 : decode cX3_init 68 = .ok (.iconst 0, 1) := by decide +kernel
theorem dX3_init_69 : decode cX3_init 69 = .ok (.istore_n 1, 1) := by decide +kernel
theorem dX3_init_70 : decode cX3_init 70 = .ok (.iload_n 1, 1) := by decide +kernel
theorem dX3_init_71 : decode cX3_init 71 = .ok (.bipush 12, 2) := by decide +kernel
theorem dX3_init_73 : decode cX3_init 73 = .ok (.if_icmp .ge 19, 3) := by decide +kernel
theorem dX3_init_76 : decode cX3_init 76 = .ok (.aload_n 0, 1) := by decide +kernel
theorem dX3_init_77 : decode cX3_init 77 = .ok (.getfield 33, 3) := by decide +kernel
theorem dX3_init_80 : decode cX3_init 80 = .ok (.iload_n 1, 1) := by decide +kernel
theorem dX3_init_81 : decode cX3_init 81 = .ok (.iconst 1, 1) := by decide +kernel
theorem dX3_init_82 : decode cX3_init 82 = .ok (.invokevirtual 44, 3) := by decide +kernel
theorem dX3_init_85 : decode cX3_init 85 = .ok (.pop, 1) := by decide +kernel
theorem dX3_init_86 : decode cX3_init 86 = .ok (.iinc 1 1, 3) := by decide +kernel
theorem dX3_init_89 : decode cX3_init 89 = .ok (.goto (-19), 3) := by decide +kernel
theorem dX3_init_92 : decode cX3_init 92 = .ok (.return_, 1) := by decide +kernel
theorem dX3_addPlace_0 : decode cX3_addPlace 0 = .ok (.aload_n 0, 1) := by decide +kernel
theorem dX3_addPlace_1 : decode cX3_addPlace 1 = .ok (.iload_n 1, 1) := by decide +kernel
theorem dX3_addPlace_2 : decode cX3_addPlace 2 = .ok (.invokevirtual 48, 3) := by decide +kernel
theorem dX3_addPlace_5 : decode cX3_addPlace 5 = .ok (.aload_n 0, 1) := by decide +kernel
theorem dX3_addPlace_6 : decode cX3_addPlace 6 = .ok (.getfield 12, 3) := by decide +kernel
theorem dX3_addPlace_9 : decode cX3_addPlace 9 = .ok (.invokevirtual 52, 3) := by decide +kernel
theorem dX3_addPlace_12 : decode cX3_addPlace 12 = .ok (.ifCond .eq 13, 3) := by decide +kernel
theorem dX3_addPlace_15 : decode cX3_addPlace 15 = .ok (.new 56, 3) := by decide +kernel
theorem dX3_addPlace_18 : decode cX3_addPlace 18 = .ok (.dup, 1) := by decide +kernel
theorem dX3_addPlace_19 : decode cX3_addPlace 19 = .ok (.ldc 58, 2) := by decide +kernel
theorem dX3_addPlace_21 : decode cX3_addPlace 21 = .ok (.invokespecial 60, 3) := by decide +kernel
theorem dX3_addPlace_24 : decode cX3_addPlace 24 = .ok (.athrow, 1) := by decide +kernel
theorem dX3_addPlace_25 : decode cX3_addPlace 25 = .ok (.aload_n 0, 1) := by decide +kernel
theorem dX3_addPlace_26 : decode cX3_addPlace 26 = .ok (.getfield 12, 3) := by decide +kernel
theorem dX3_addPlace_29 : decode cX3_addPlace 29 = .ok (.iload_n 1, 1) := by decide +kernel
theorem dX3_addPlace_30 : decode cX3_addPlace 30 = .ok (.invokevirtual 63, 3) := by decide +kernel
theorem dX3_addPlace_33 : decode cX3_addPlace 33 = .ok (.ifCond .eq 21, 3) := by decide +kernel
theorem dX3_addPlace_36 : decode cX3_addPlace 36 = .ok (.aload_n 0, 1) := by decide +kernel
theorem dX3_addPlace_37 : decode cX3_addPlace 37 = .ok (.iload_n 1, 1) := by decide +kernel
theorem dX3_addPlace_38 : decode cX3_addPlace 38 = .ok (.invokevirtual 67, 3) := by decide +kernel
theorem dX3_addPlace_41 : decode cX3_addPlace 41 = .ok (.ifCond .eq 13, 3) := by decide +kernel
theorem dX3_addPlace_44 : decode cX3_addPlace 44 = .ok (.new 56, 3) := by decide +kernel
theorem dX3_addPlace_47 : decode cX3_addPlace 47 = .ok (.dup, 1) := by decide +kernel
theorem dX3_addPlace_48 : decode cX3_addPlace 48 = .ok (.ldc 70, 2) := by decide +kernel
theorem dX3_addPlace_50 : decode cX3_addPlace 50 = .ok (.invokespecial 60, 3) := by decide +kernel
theorem dX3_addPlace_53 : decode cX3_addPlace 53 = .ok (.athrow, 1) := by decide +kernel
theorem dX3_addPlace_54 : decode cX3_addPlace 54 = .ok (.aload_n 0, 1) := by decide +kernel
theorem dX3_addPlace_55 : decode cX3_addPlace 55 = .ok (.getfield 12, 3) := by decide +kernel
theorem dX3_addPlace_58 : decode cX3_addPlace 58 = .ok (.iload_n 1, 1) := by decide +kernel
theorem dX3_addPlace_59 : decode cX3_addPlace 59 = .ok (.invokevirtual 72, 3) := by decide +kernel
theorem dX3_addPlace_62 : decode cX3_addPlace 62 = .ok (.ireturn, 1) := by decide +kernel
theorem dX3_places_0 : decode cX3_places 0 = .ok (.aload_n 0, 1) := by decide +kernel
theorem dX3_places_1 : decode cX3_places 1 = .ok (.getfield 12, 3) := by decide +kernel
theorem dX3_places_4 : decode cX3_places 4 = .ok (.invokevirtual 76, 3) := by decide +kernel
theorem dX3_places_7 : decode cX3_places 7 = .ok (.ireturn, 1) := by decide +kernel
theorem dX3_leaves_0 : decode cX3_leaves 0 = .ok (.aload_n 0, 1) := by decide +kernel
theorem dX3_leaves_1 : decode cX3_leaves 1 = .ok (.iload_n 1, 1) := by decide +kernel
theorem dX3_leaves_2 : decode cX3_leaves 2 = .ok (.invokevirtual 48, 3) := by decide +kernel
theorem dX3_leaves_5 : decode cX3_leaves 5 = .ok (.aload_n 0, 1) := by decide +kernel
theorem dX3_leaves_6 : decode cX3_leaves 6 = .ok (.getfield 12, 3) := by decide +kernel
theorem dX3_leaves_9 : decode cX3_leaves 9 = .ok (.iload_n 1, 1) := by decide +kernel
theorem dX3_leaves_10 : decode cX3_leaves 10 = .ok (.invokevirtual 80, 3) := by decide +kernel
theorem dX3_leaves_13 : decode cX3_leaves 13 = .ok (.ireturn, 1) := by decide +kernel
theorem dX3_set_0 : decode cX3_set 0 = .ok (.iload_n 1, 1) := by decide +kernel
theorem dX3_set_1 : decode cX3_set 1 = .ok (.invokestatic 83, 3) := by decide +kernel
theorem dX3_set_4 : decode cX3_set 4 = .ok (.aload_n 0, 1) := by decide +kernel
theorem dX3_set_5 : decode cX3_set 5 = .ok (.iload_n 2, 1) := by decide +kernel
theorem dX3_set_6 : decode cX3_set 6 = .ok (.invokevirtual 48, 3) := by decide +kernel
theorem dX3_set_9 : decode cX3_set 9 = .ok (.iload_n 3, 1) := by decide +kernel
theorem dX3_set_10 : decode cX3_set 10 = .ok (.invokestatic 86, 3) := by decide +kernel
theorem dX3_set_13 : decode cX3_set 13 = .ok (.iload 4, 2) := by decide +kernel
theorem dX3_set_15 : decode cX3_set 15 = .ok (.invokestatic 89, 3) := by decide +kernel
theorem dX3_set_18 : decode cX3_set 18 = .ok (.iload 5, 2) := by decide +kernel
theorem dX3_set_20 : decode cX3_set 20 = .ok (.iload_n 3, 1) := by decide +kernel
theorem dX3_set_21 : decode cX3_set 21 = .ok (.invokestatic 92, 3) := by decide +kernel
theorem dX3_set_24 : decode cX3_set 24 = .ok (.invokestatic 95, 3) := by decide +kernel
theorem dX3_set_27 : decode cX3_set 27 = .ok (.aload_n 0, 1) := by decide +kernel
theorem dX3_set_28 : decode cX3_set 28 = .ok (.iload_n 2, 1) := by decide +kernel
theorem dX3_set_29 : decode cX3_set 29 = .ok (.invokevirtual 99, 3) := by decide +kernel
theorem dX3_set_32 : decode cX3_set 32 = .ok (.aload_n 0, 1) := by decide +kernel
theorem dX3_set_33 : decode cX3_set 33 = .ok (.getfield 27, 3) := by decide +kernel
theorem dX3_set_36 : decode cX3_set 36 = .ok (.iload_n 1, 1) := by decide +kernel
theorem dX3_set_37 : decode cX3_set 37 = .ok (.iaload, 1) := by decide +kernel
theorem dX3_set_38 : decode cX3_set 38 = .ok (.iload_n 2, 1) := by decide +kernel
theorem dX3_set_39 : decode cX3_set 39 = .ok (.invokestatic 102, 3) := by decide +kernel
theorem dX3_set_42 : decode cX3_set 42 = .ok (.ifCond .eq 13, 3) := by decide +kernel
theorem dX3_set_45 : decode cX3_set 45 = .ok (.new 56, 3) := by decide +kernel
theorem dX3_set_48 : decode cX3_set 48 = .ok (.dup, 1) := by decide +kernel
theorem dX3_set_49 : decode cX3_set 49 = .ok (.ldc 106, 2) := by decide +kernel
theorem dX3_set_51 : decode cX3_set 51 = .ok (.invokespecial 60, 3) := by decide +kernel
theorem dX3_set_54 : decode cX3_set 54 = .ok (.athrow, 1) := by decide +kernel
theorem dX3_set_55 : decode cX3_set 55 = .ok (.aload_n 0, 1) := by decide +kernel
theorem dX3_set_56 : decode cX3_set 56 = .ok (.getfield 19, 3) := by decide +kernel
theorem dX3_set_59 : decode cX3_set 59 = .ok (.iload_n 1, 1) := by decide +kernel
theorem dX3_set_60 : decode cX3_set 60 = .ok (.iload_n 2, 1) := by decide +kernel
theorem dX3_set_61 : decode cX3_set 61 = .ok (.iload_n 3, 1) := by decide +kernel
theorem dX3_set_62 : decode cX3_set 62 = .ok (.iload 4, 2) := by decide +kernel
theorem dX3_set_64 : decode cX3_set 64 = .ok (.iload 5, 2) := by decide +kernel
theorem dX3_set_66 : decode cX3_set 66 = .ok (.invokevirtual 108, 3) := by decide +kernel
theorem dX3_set_69 : decode cX3_set 69 = .ok (.ireturn, 1) := by decide +kernel
theorem dX3_hold_0 : decode cX3_hold 0 = .ok (.aload_n 0, 1) := by decide +kernel
theorem dX3_hold_1 : decode cX3_hold 1 = .ok (.iload_n 1, 1) := by decide +kernel
theorem dX3_hold_2 : decode cX3_hold 2 = .ok (.invokevirtual 48, 3) := by decide +kernel
theorem dX3_hold_5 : decode cX3_hold 5 = .ok (.iload_n 2, 1) := by decide +kernel
theorem dX3_hold_6 : decode cX3_hold 6 = .ok (.invokestatic 89, 3) := by decide +kernel
theorem dX3_hold_9 : decode cX3_hold 9 = .ok (.aload_n 0, 1) := by decide +kernel
theorem dX3_hold_10 : decode cX3_hold 10 = .ok (.iload_n 1, 1) := by decide +kernel
theorem dX3_hold_11 : decode cX3_hold 11 = .ok (.invokevirtual 99, 3) := by decide +kernel
theorem dX3_hold_14 : decode cX3_hold 14 = .ok (.aload_n 0, 1) := by decide +kernel
theorem dX3_hold_15 : decode cX3_hold 15 = .ok (.getfield 23, 3) := by decide +kernel
theorem dX3_hold_18 : decode cX3_hold 18 = .ok (.iload_n 2, 1) := by decide +kernel
theorem dX3_hold_19 : decode cX3_hold 19 = .ok (.iaload, 1) := by decide +kernel
theorem dX3_hold_20 : decode cX3_hold 20 = .ok (.istore 4, 2) := by decide +kernel
theorem dX3_hold_22 : decode cX3_hold 22 = .ok (.iload_n 3, 1) := by decide +kernel
theorem dX3_hold_23 : decode cX3_hold 23 = .ok (.ifCond .eq 12, 3) := by decide +kernel
theorem dX3_hold_26 : decode cX3_hold 26 = .ok (.iload 4, 2) := by decide +kernel
theorem dX3_hold_28 : decode cX3_hold 28 = .ok (.iconst 1, 1) := by decide +kernel
theorem dX3_hold_29 : decode cX3_hold 29 = .ok (.iload_n 1, 1) := by decide +kernel
theorem dX3_hold_30 : decode cX3_hold 30 = .ok (.ishl, 1) := by decide +kernel
theorem dX3_hold_31 : decode cX3_hold 31 = .ok (.ior, 1) := by decide +kernel
theorem dX3_hold_32 : decode cX3_hold 32 = .ok (.goto 11, 3) := by decide +kernel
theorem dX3_hold_35 : decode cX3_hold 35 = .ok (.iload 4, 2) := by decide +kernel
theorem dX3_hold_37 : decode cX3_hold 37 = .ok (.iconst 1, 1) := by decide +kernel
theorem dX3_hold_38 : decode cX3_hold 38 = .ok (.iload_n 1, 1) := by decide +kernel
theorem dX3_hold_39 : decode cX3_hold 39 = .ok (.ishl, 1) := by decide +kernel
theorem dX3_hold_40 : decode cX3_hold 40 = .ok (.iconst (-1), 1) := by decide +kernel
theorem dX3_hold_41 : decode cX3_hold 41 = .ok (.ixor, 1) := by decide +kernel
theorem dX3_hold_42 : decode cX3_hold 42 = .ok (.iand, 1) := by decide +kernel
theorem dX3_hold_43 : decode cX3_hold 43 = .ok (.istore 5, 2) := by decide +kernel
theorem dX3_hold_45 : decode cX3_hold 45 = .ok (.aload_n 0, 1) := by decide +kernel
theorem dX3_hold_46 : decode cX3_hold 46 = .ok (.getfield 23, 3) := by decide +kernel
theorem dX3_hold_49 : decode cX3_hold 49 = .ok (.iload_n 2, 1) := by decide +kernel
theorem dX3_hold_50 : decode cX3_hold 50 = .ok (.iload 5, 2) := by decide +kernel
theorem dX3_hold_52 : decode cX3_hold 52 = .ok (.iastore, 1) := by decide +kernel
theorem dX3_hold_53 : decode cX3_hold 53 = .ok (.iload 5, 2) := by decide +kernel
theorem dX3_hold_55 : decode cX3_hold 55 = .ok (.iload 4, 2) := by decide +kernel
theorem dX3_hold_57 : decode cX3_hold 57 = .ok (.if_icmp .eq 7, 3) := by decide +kernel
theorem dX3_hold_60 : decode cX3_hold 60 = .ok (.iconst 1, 1) := by decide +kernel
theorem dX3_hold_61 : decode cX3_hold 61 = .ok (.goto 4, 3) := by decide +kernel
theorem dX3_hold_64 : decode cX3_hold 64 = .ok (.iconst 0, 1) := by decide +kernel
theorem dX3_hold_65 : decode cX3_hold 65 = .ok (.ireturn, 1) := by decide +kernel
theorem dX3_setSeason_0 : decode cX3_setSeason 0 = .ok (.iload_n 1, 1) := by decide +kernel
theorem dX3_setSeason_1 : decode cX3_setSeason 1 = .ok (.invokestatic 89, 3) := by decide +kernel
theorem dX3_setSeason_4 : decode cX3_setSeason 4 = .ok (.iload_n 2, 1) := by decide +kernel
theorem dX3_setSeason_5 : decode cX3_setSeason 5 = .ok (.bipush 100, 2) := by decide +kernel
theorem dX3_setSeason_7 : decode cX3_setSeason 7 = .ok (.invokestatic 95, 3) := by decide +kernel
theorem dX3_setSeason_10 : decode cX3_setSeason 10 = .ok (.aload_n 0, 1) := by decide +kernel
theorem dX3_setSeason_11 : decode cX3_setSeason 11 = .ok (.getfield 33, 3) := by decide +kernel
theorem dX3_setSeason_14 : decode cX3_setSeason 14 = .ok (.iload_n 1, 1) := by decide +kernel
theorem dX3_setSeason_15 : decode cX3_setSeason 15 = .ok (.iload_n 2, 1) := by decide +kernel
theorem dX3_setSeason_16 : decode cX3_setSeason 16 = .ok (.invokevirtual 44, 3) := by decide +kernel
theorem dX3_setSeason_19 : decode cX3_setSeason 19 = .ok (.ireturn, 1) := by decide +kernel
theorem dX3_spread_0 : decode cX3_spread 0 = .ok (.iload_n 1, 1) := by decide +kernel
theorem dX3_spread_1 : decode cX3_spread 1 = .ok (.invokestatic 83, 3) := by decide +kernel
theorem dX3_spread_4 : decode cX3_spread 4 = .ok (.aload_n 0, 1) := by decide +kernel
theorem dX3_spread_5 : decode cX3_spread 5 = .ok (.iload_n 2, 1) := by decide +kernel
theorem dX3_spread_6 : decode cX3_spread 6 = .ok (.invokevirtual 48, 3) := by decide +kernel
theorem dX3_spread_9 : decode cX3_spread 9 = .ok (.iload_n 3, 1) := by decide +kernel
theorem dX3_spread_10 : decode cX3_spread 10 = .ok (.invokestatic 89, 3) := by decide +kernel
theorem dX3_spread_13 : decode cX3_spread 13 = .ok (.iload 4, 2) := by decide +kernel
theorem dX3_spread_15 : decode cX3_spread 15 = .ok (.ldc 112, 2) := by decide +kernel
theorem dX3_spread_17 : decode cX3_spread 17 = .ok (.invokestatic 95, 3) := by decide +kernel
theorem dX3_spread_20 : decode cX3_spread 20 = .ok (.iload 5, 2) := by decide +kernel
theorem dX3_spread_22 : decode cX3_spread 22 = .ok (.iconst 1, 1) := by decide +kernel
theorem dX3_spread_23 : decode cX3_spread 23 = .ok (.invokestatic 95, 3) := by decide +kernel
theorem dX3_spread_26 : decode cX3_spread 26 = .ok (.aload_n 0, 1) := by decide +kernel
theorem dX3_spread_27 : decode cX3_spread 27 = .ok (.getfield 12, 3) := by decide +kernel
theorem dX3_spread_30 : decode cX3_spread 30 = .ok (.iload_n 2, 1) := by decide +kernel
theorem dX3_spread_31 : decode cX3_spread 31 = .ok (.invokevirtual 80, 3) := by decide +kernel
theorem dX3_spread_34 : decode cX3_spread 34 = .ok (.istore 6, 2) := by decide +kernel
theorem dX3_spread_36 : decode cX3_spread 36 = .ok (.aload_n 0, 1) := by decide +kernel
theorem dX3_spread_37 : decode cX3_spread 37 = .ok (.iload_n 1, 1) := by decide +kernel
theorem dX3_spread_38 : decode cX3_spread 38 = .ok (.iload 6, 2) := by decide +kernel
theorem dX3_spread_40 : decode cX3_spread 40 = .ok (.iload_n 3, 1) := by decide +kernel
theorem dX3_spread_41 : decode cX3_spread 41 = .ok (.iload 4, 2) := by decide +kernel
theorem dX3_spread_43 : decode cX3_spread 43 = .ok (.invokevirtual 113, 3) := by decide +kernel
theorem dX3_spread_46 : decode cX3_spread 46 = .ok (.aload_n 0, 1) := by decide +kernel
theorem dX3_spread_47 : decode cX3_spread 47 = .ok (.iload_n 1, 1) := by decide +kernel
theorem dX3_spread_48 : decode cX3_spread 48 = .ok (.iload 6, 2) := by decide +kernel
theorem dX3_spread_50 : decode cX3_spread 50 = .ok (.iload_n 3, 1) := by decide +kernel
theorem dX3_spread_51 : decode cX3_spread 51 = .ok (.iload 4, 2) := by decide +kernel
theorem dX3_spread_53 : decode cX3_spread 53 = .ok (.iload 5, 2) := by decide +kernel
theorem dX3_spread_55 : decode cX3_spread 55 = .ok (.invokevirtual 117, 3) := by decide +kernel
theorem dX3_spread_58 : decode cX3_spread 58 = .ok (.ireturn, 1) := by decide +kernel
theorem dX3_spreadYear_0 : decode cX3_spreadYear 0 = .ok (.iload_n 1, 1) := by decide +kernel
theorem dX3_spreadYear_1 : decode cX3_spreadYear 1 = .ok (.invokestatic 83, 3) := by decide +kernel
theorem dX3_spreadYear_4 : decode cX3_spreadYear 4 = .ok (.aload_n 0, 1) := by decide +kernel
theorem dX3_spreadYear_5 : decode cX3_spreadYear 5 = .ok (.iload_n 2, 1) := by decide +kernel
theorem dX3_spreadYear_6 : decode cX3_spreadYear 6 = .ok (.invokevirtual 48, 3) := by decide +kernel
theorem dX3_spreadYear_9 : decode cX3_spreadYear 9 = .ok (.iload_n 3, 1) := by decide +kernel
theorem dX3_spreadYear_10 : decode cX3_spreadYear 10 = .ok (.ldc 112, 2) := by decide +kernel
theorem dX3_spreadYear_12 : decode cX3_spreadYear 12 = .ok (.invokestatic 95, 3) := by decide +kernel
theorem dX3_spreadYear_15 : decode cX3_spreadYear 15 = .ok (.aload_n 0, 1) := by decide +kernel
theorem dX3_spreadYear_16 : decode cX3_spreadYear 16 = .ok (.getfield 33, 3) := by decide +kernel
theorem dX3_spreadYear_19 : decode cX3_spreadYear 19 = .ok (.invokevirtual 120, 3) := by decide +kernel
theorem dX3_spreadYear_22 : decode cX3_spreadYear 22 = .ok (.ifCond .ne 13, 3) := by decide +kernel
theorem dX3_spreadYear_25 : decode cX3_spreadYear 25 = .ok (.new 56, 3) := by decide +kernel
theorem dX3_spreadYear_28 : decode cX3_spreadYear 28 = .ok (.dup, 1) := by decide +kernel
theorem dX3_spreadYear_29 : decode cX3_spreadYear 29 = .ok (.ldc 123, 2) := by decide +kernel
theorem dX3_spreadYear_31 : decode cX3_spreadYear 31 = .ok (.invokespecial 60, 3) := by decide +kernel
theorem dX3_spreadYear_34 : decode cX3_spreadYear 34 = .ok (.athrow, 1) := by decide +kernel
theorem dX3_spreadYear_35 : decode cX3_spreadYear 35 = .ok (.aload_n 0, 1) := by decide +kernel
theorem dX3_spreadYear_36 : decode cX3_spreadYear 36 = .ok (.getfield 12, 3) := by decide +kernel
theorem dX3_spreadYear_39 : decode cX3_spreadYear 39 = .ok (.iload_n 2, 1) := by decide +kernel
theorem dX3_spreadYear_40 : decode cX3_spreadYear 40 = .ok (.invokevirtual 80, 3) := by decide +kernel
theorem dX3_spreadYear_43 : decode cX3_spreadYear 43 = .ok (.istore 4, 2) := by decide +kernel
theorem dX3_spreadYear_45 : decode cX3_spreadYear 45 = .ok (.aload_n 0, 1) := by decide +kernel
theorem dX3_spreadYear_46 : decode cX3_spreadYear 46 = .ok (.getfield 33, 3) := by decide +kernel
theorem dX3_spreadYear_49 : decode cX3_spreadYear 49 = .ok (.iload_n 3, 1) := by decide +kernel
theorem dX3_spreadYear_50 : decode cX3_spreadYear 50 = .ok (.invokevirtual 125, 3) := by decide +kernel
theorem dX3_spreadYear_53 : decode cX3_spreadYear 53 = .ok (.iconst 0, 1) := by decide +kernel
theorem dX3_spreadYear_54 : decode cX3_spreadYear 54 = .ok (.istore 5, 2) := by decide +kernel
theorem dX3_spreadYear_56 : decode cX3_spreadYear 56 = .ok (.iload 5, 2) := by decide +kernel
theorem dX3_spreadYear_58 : decode cX3_spreadYear 58 = .ok (.bipush 12, 2) := by decide +kernel
theorem dX3_spreadYear_60 : decode cX3_spreadYear 60 = .ok (.if_icmp .ge 27, 3) := by decide +kernel
theorem dX3_spreadYear_63 : decode cX3_spreadYear 63 = .ok (.aload_n 0, 1) := by decide +kernel
theorem dX3_spreadYear_64 : decode cX3_spreadYear 64 = .ok (.iload_n 1, 1) := by decide +kernel
theorem dX3_spreadYear_65 : decode cX3_spreadYear 65 = .ok (.iload 4, 2) := by decide +kernel
theorem dX3_spreadYear_67 : decode cX3_spreadYear 67 = .ok (.iload 5, 2) := by decide +kernel
theorem dX3_spreadYear_69 : decode cX3_spreadYear 69 = .ok (.aload_n 0, 1) := by decide +kernel
theorem dX3_spreadYear_70 : decode cX3_spreadYear 70 = .ok (.getfield 33, 3) := by decide +kernel
theorem dX3_spreadYear_73 : decode cX3_spreadYear 73 = .ok (.iload 5, 2) := by decide +kernel
theorem dX3_spreadYear_75 : decode cX3_spreadYear 75 = .ok (.invokevirtual 128, 3) := by decide +kernel
theorem dX3_spreadYear_78 : decode cX3_spreadYear 78 = .ok (.invokevirtual 113, 3) := by decide +kernel
theorem dX3_spreadYear_81 : decode cX3_spreadYear 81 = .ok (.iinc 5 1, 3) := by decide +kernel
theorem dX3_spreadYear_84 : decode cX3_spreadYear 84 = .ok (.goto (-28), 3) := by decide +kernel
theorem dX3_spreadYear_87 : decode cX3_spreadYear 87 = .ok (.iconst 0, 1) := by decide +kernel
theorem dX3_spreadYear_88 : decode cX3_spreadYear 88 = .ok (.istore 5, 2) := by decide +kernel
theorem dX3_spreadYear_90 : decode cX3_spreadYear 90 = .ok (.iconst 0, 1) := by decide +kernel
theorem dX3_spreadYear_91 : decode cX3_spreadYear 91 = .ok (.istore 6, 2) := by decide +kernel
theorem dX3_spreadYear_93 : decode cX3_spreadYear 93 = .ok (.iload 6, 2) := by decide +kernel
theorem dX3_spreadYear_95 : decode cX3_spreadYear 95 = .ok (.bipush 12, 2) := by decide +kernel
theorem dX3_spreadYear_97 : decode cX3_spreadYear 97 = .ok (.if_icmp .ge 33, 3) := by decide +kernel
theorem dX3_spreadYear_100 : decode cX3_spreadYear 100 = .ok (.iload 5, 2) := by decide +kernel
theorem dX3_spreadYear_102 : decode cX3_spreadYear 102 = .ok (.aload_n 0, 1) := by decide +kernel
theorem dX3_spreadYear_103 : decode cX3_spreadYear 103 = .ok (.iload_n 1, 1) := by decide +kernel
theorem dX3_spreadYear_104 : decode cX3_spreadYear 104 = .ok (.iload 4, 2) := by decide +kernel
theorem dX3_spreadYear_106 : decode cX3_spreadYear 106 = .ok (.iload 6, 2) := by decide +kernel
theorem dX3_spreadYear_108 : decode cX3_spreadYear 108 = .ok (.aload_n 0, 1) := by decide +kernel
theorem dX3_spreadYear_109 : decode cX3_spreadYear 109 = .ok (.getfield 33, 3) := by decide +kernel
theorem dX3_spreadYear_112 : decode cX3_spreadYear 112 = .ok (.iload 6, 2) := by decide +kernel
theorem dX3_spreadYear_114 : decode cX3_spreadYear 114 = .ok (.invokevirtual 128, 3) := by decide +kernel
theorem dX3_spreadYear_117 : decode cX3_spreadYear 117 = .ok (.iconst 0, 1) := by decide +kernel
theorem dX3_spreadYear_118 : decode cX3_spreadYear 118 = .ok (.invokevirtual 117, 3) := by decide +kernel
theorem dX3_spreadYear_121 : decode cX3_spreadYear 121 = .ok (.iadd, 1) := by decide +kernel
theorem dX3_spreadYear_122 : decode cX3_spreadYear 122 = .ok (.istore 5, 2) := by decide +kernel
theorem dX3_spreadYear_124 : decode cX3_spreadYear 124 = .ok (.iinc 6 1, 3) := by decide +kernel
theorem dX3_spreadYear_127 : decode cX3_spreadYear 127 = .ok (.goto (-34), 3) := by decide +kernel
theorem dX3_spreadYear_130 : decode cX3_spreadYear 130 = .ok (.iload 5, 2) := by decide +kernel
theorem dX3_spreadYear_132 : decode cX3_spreadYear 132 = .ok (.ireturn, 1) := by decide +kernel
theorem dX3_copy_0 : decode cX3_copy 0 = .ok (.iload_n 1, 1) := by decide +kernel
theorem dX3_copy_1 : decode cX3_copy 1 = .ok (.invokestatic 83, 3) := by decide +kernel
theorem dX3_copy_4 : decode cX3_copy 4 = .ok (.iload_n 2, 1) := by decide +kernel
theorem dX3_copy_5 : decode cX3_copy 5 = .ok (.invokestatic 83, 3) := by decide +kernel
theorem dX3_copy_8 : decode cX3_copy 8 = .ok (.iload_n 1, 1) := by decide +kernel
theorem dX3_copy_9 : decode cX3_copy 9 = .ok (.iload_n 2, 1) := by decide +kernel
theorem dX3_copy_10 : decode cX3_copy 10 = .ok (.if_icmp .ne 13, 3) := by decide +kernel
theorem dX3_copy_13 : decode cX3_copy 13 = .ok (.new 131, 3) := by decide +kernel
theorem dX3_copy_16 : decode cX3_copy 16 = .ok (.dup, 1) := by decide +kernel
theorem dX3_copy_17 : decode cX3_copy 17 = .ok (.ldc 133, 2) := by decide +kernel
theorem dX3_copy_19 : decode cX3_copy 19 = .ok (.invokespecial 135, 3) := by decide +kernel
theorem dX3_copy_22 : decode cX3_copy 22 = .ok (.athrow, 1) := by decide +kernel
theorem dX3_copy_23 : decode cX3_copy 23 = .ok (.aload_n 0, 1) := by decide +kernel
theorem dX3_copy_24 : decode cX3_copy 24 = .ok (.getfield 27, 3) := by decide +kernel
theorem dX3_copy_27 : decode cX3_copy 27 = .ok (.iload_n 2, 1) := by decide +kernel
theorem dX3_copy_28 : decode cX3_copy 28 = .ok (.iaload, 1) := by decide +kernel
theorem dX3_copy_29 : decode cX3_copy 29 = .ok (.ifCond .eq 13, 3) := by decide +kernel
theorem dX3_copy_32 : decode cX3_copy 32 = .ok (.new 56, 3) := by decide +kernel
theorem dX3_copy_35 : decode cX3_copy 35 = .ok (.dup, 1) := by decide +kernel
theorem dX3_copy_36 : decode cX3_copy 36 = .ok (.ldc 136, 2) := by decide +kernel
theorem dX3_copy_38 : decode cX3_copy 38 = .ok (.invokespecial 60, 3) := by decide +kernel
theorem dX3_copy_41 : decode cX3_copy 41 = .ok (.athrow, 1) := by decide +kernel
theorem dX3_copy_42 : decode cX3_copy 42 = .ok (.aload_n 0, 1) := by decide +kernel
theorem dX3_copy_43 : decode cX3_copy 43 = .ok (.getfield 19, 3) := by decide +kernel
theorem dX3_copy_46 : decode cX3_copy 46 = .ok (.iload_n 1, 1) := by decide +kernel
theorem dX3_copy_47 : decode cX3_copy 47 = .ok (.iload_n 2, 1) := by decide +kernel
theorem dX3_copy_48 : decode cX3_copy 48 = .ok (.invokevirtual 138, 3) := by decide +kernel
theorem dX3_copy_51 : decode cX3_copy 51 = .ok (.ireturn, 1) := by decide +kernel
theorem dX3_handIn_0 : decode cX3_handIn 0 = .ok (.iload_n 1, 1) := by decide +kernel
theorem dX3_handIn_1 : decode cX3_handIn 1 = .ok (.invokestatic 83, 3) := by decide +kernel
theorem dX3_handIn_4 : decode cX3_handIn 4 = .ok (.aload_n 0, 1) := by decide +kernel
theorem dX3_handIn_5 : decode cX3_handIn 5 = .ok (.iload_n 2, 1) := by decide +kernel
theorem dX3_handIn_6 : decode cX3_handIn 6 = .ok (.invokevirtual 48, 3) := by decide +kernel
theorem dX3_handIn_9 : decode cX3_handIn 9 = .ok (.aload_n 0, 1) := by decide +kernel
theorem dX3_handIn_10 : decode cX3_handIn 10 = .ok (.getfield 12, 3) := by decide +kernel
theorem dX3_handIn_13 : decode cX3_handIn 13 = .ok (.iload_n 2, 1) := by decide +kernel
theorem dX3_handIn_14 : decode cX3_handIn 14 = .ok (.invokevirtual 80, 3) := by decide +kernel
theorem dX3_handIn_17 : decode cX3_handIn 17 = .ok (.aload_n 0, 1) := by decide +kernel
theorem dX3_handIn_18 : decode cX3_handIn 18 = .ok (.getfield 27, 3) := by decide +kernel
theorem dX3_handIn_21 : decode cX3_handIn 21 = .ok (.iload_n 1, 1) := by decide +kernel
theorem dX3_handIn_22 : decode cX3_handIn 22 = .ok (.iaload, 1) := by decide +kernel
theorem dX3_handIn_23 : decode cX3_handIn 23 = .ok (.iconst (-1), 1) := by decide +kernel
theorem dX3_handIn_24 : decode cX3_handIn 24 = .ok (.ixor, 1) := by decide +kernel
theorem dX3_handIn_25 : decode cX3_handIn 25 = .ok (.iand, 1) := by decide +kernel
theorem dX3_handIn_26 : decode cX3_handIn 26 = .ok (.istore_n 3, 1) := by decide +kernel
theorem dX3_handIn_27 : decode cX3_handIn 27 = .ok (.aload_n 0, 1) := by decide +kernel
theorem dX3_handIn_28 : decode cX3_handIn 28 = .ok (.getfield 27, 3) := by decide +kernel
theorem dX3_handIn_31 : decode cX3_handIn 31 = .ok (.iload_n 1, 1) := by decide +kernel
theorem dX3_handIn_32 : decode cX3_handIn 32 = .ok (.dup2, 1) := by decide +kernel
theorem dX3_handIn_33 : decode cX3_handIn 33 = .ok (.iaload, 1) := by decide +kernel
theorem dX3_handIn_34 : decode cX3_handIn 34 = .ok (.iload_n 3, 1) := by decide +kernel
theorem dX3_handIn_35 : decode cX3_handIn 35 = .ok (.ior, 1) := by decide +kernel
theorem dX3_handIn_36 : decode cX3_handIn 36 = .ok (.iastore, 1) := by decide +kernel
theorem dX3_handIn_37 : decode cX3_handIn 37 = .ok (.iload_n 3, 1) := by decide +kernel
theorem dX3_handIn_38 : decode cX3_handIn 38 = .ok (.invokestatic 141, 3) := by decide +kernel
theorem dX3_handIn_41 : decode cX3_handIn 41 = .ok (.ireturn, 1) := by decide +kernel
theorem dX3_takeBack_0 : decode cX3_takeBack 0 = .ok (.iload_n 1, 1) := by decide +kernel
theorem dX3_takeBack_1 : decode cX3_takeBack 1 = .ok (.invokestatic 83, 3) := by decide +kernel
theorem dX3_takeBack_4 : decode cX3_takeBack 4 = .ok (.aload_n 0, 1) := by decide +kernel
theorem dX3_takeBack_5 : decode cX3_takeBack 5 = .ok (.iload_n 2, 1) := by decide +kernel
theorem dX3_takeBack_6 : decode cX3_takeBack 6 = .ok (.invokevirtual 48, 3) := by decide +kernel
theorem dX3_takeBack_9 : decode cX3_takeBack 9 = .ok (.aload_n 0, 1) := by decide +kernel
theorem dX3_takeBack_10 : decode cX3_takeBack 10 = .ok (.getfield 12, 3) := by decide +kernel
theorem dX3_takeBack_13 : decode cX3_takeBack 13 = .ok (.iload_n 2, 1) := by decide +kernel
theorem dX3_takeBack_14 : decode cX3_takeBack 14 = .ok (.invokevirtual 80, 3) := by decide +kernel
theorem dX3_takeBack_17 : decode cX3_takeBack 17 = .ok (.aload_n 0, 1) := by decide +kernel
theorem dX3_takeBack_18 : decode cX3_takeBack 18 = .ok (.getfield 27, 3) := by decide +kernel
theorem dX3_takeBack_21 : decode cX3_takeBack 21 = .ok (.iload_n 1, 1) := by decide +kernel
theorem dX3_takeBack_22 : decode cX3_takeBack 22 = .ok (.iaload, 1) := by decide +kernel
theorem dX3_takeBack_23 : decode cX3_takeBack 23 = .ok (.iand, 1) := by decide +kernel
theorem dX3_takeBack_24 : decode cX3_takeBack 24 = .ok (.istore_n 3, 1) := by decide +kernel
theorem dX3_takeBack_25 : decode cX3_takeBack 25 = .ok (.aload_n 0, 1) := by decide +kernel
theorem dX3_takeBack_26 : decode cX3_takeBack 26 = .ok (.getfield 27, 3) := by decide +kernel
theorem dX3_takeBack_29 : decode cX3_takeBack 29 = .ok (.iload_n 1, 1) := by decide +kernel
theorem dX3_takeBack_30 : decode cX3_takeBack 30 = .ok (.dup2, 1) := by decide +kernel
theorem dX3_takeBack_31 : decode cX3_takeBack 31 = .ok (.iaload, 1) := by decide +kernel
theorem dX3_takeBack_32 : decode cX3_takeBack 32 = .ok (.iload_n 3, 1) := by decide +kernel
theorem dX3_takeBack_33 : decode cX3_takeBack 33 = .ok (.iconst (-1), 1) := by decide +kernel
theorem dX3_takeBack_34 : decode cX3_takeBack 34 = .ok (.ixor, 1) := by decide +kernel
theorem dX3_takeBack_35 : decode cX3_takeBack 35 = .ok (.iand, 1) := by decide +kernel
theorem dX3_takeBack_36 : decode cX3_takeBack 36 = .ok (.iastore, 1) := by decide +kernel
theorem dX3_takeBack_37 : decode cX3_takeBack 37 = .ok (.iload_n 3, 1) := by decide +kernel
theorem dX3_takeBack_38 : decode cX3_takeBack 38 = .ok (.invokestatic 141, 3) := by decide +kernel
theorem dX3_takeBack_41 : decode cX3_takeBack 41 = .ok (.ireturn, 1) := by decide +kernel
theorem dX3_see_0 : decode cX3_see 0 = .ok (.aload_n 0, 1) := by decide +kernel
theorem dX3_see_1 : decode cX3_see 1 = .ok (.iload_n 1, 1) := by decide +kernel
theorem dX3_see_2 : decode cX3_see 2 = .ok (.invokevirtual 48, 3) := by decide +kernel
theorem dX3_see_5 : decode cX3_see 5 = .ok (.iload_n 2, 1) := by decide +kernel
theorem dX3_see_6 : decode cX3_see 6 = .ok (.invokestatic 86, 3) := by decide +kernel
theorem dX3_see_9 : decode cX3_see 9 = .ok (.iload_n 3, 1) := by decide +kernel
theorem dX3_see_10 : decode cX3_see 10 = .ok (.invokestatic 89, 3) := by decide +kernel
theorem dX3_see_13 : decode cX3_see 13 = .ok (.iload 4, 2) := by decide +kernel
theorem dX3_see_15 : decode cX3_see 15 = .ok (.iload_n 2, 1) := by decide +kernel
theorem dX3_see_16 : decode cX3_see 16 = .ok (.invokestatic 92, 3) := by decide +kernel
theorem dX3_see_19 : decode cX3_see 19 = .ok (.invokestatic 95, 3) := by decide +kernel
theorem dX3_see_22 : decode cX3_see 22 = .ok (.aload_n 0, 1) := by decide +kernel
theorem dX3_see_23 : decode cX3_see 23 = .ok (.iload_n 1, 1) := by decide +kernel
theorem dX3_see_24 : decode cX3_see 24 = .ok (.invokevirtual 99, 3) := by decide +kernel
theorem dX3_see_27 : decode cX3_see 27 = .ok (.aload_n 0, 1) := by decide +kernel
theorem dX3_see_28 : decode cX3_see 28 = .ok (.getfield 19, 3) := by decide +kernel
theorem dX3_see_31 : decode cX3_see 31 = .ok (.iconst 3, 1) := by decide +kernel
theorem dX3_see_32 : decode cX3_see 32 = .ok (.iload_n 1, 1) := by decide +kernel
theorem dX3_see_33 : decode cX3_see 33 = .ok (.iload_n 2, 1) := by decide +kernel
theorem dX3_see_34 : decode cX3_see 34 = .ok (.iload_n 3, 1) := by decide +kernel
theorem dX3_see_35 : decode cX3_see 35 = .ok (.iload 4, 2) := by decide +kernel
theorem dX3_see_37 : decode cX3_see 37 = .ok (.invokevirtual 108, 3) := by decide +kernel
theorem dX3_see_40 : decode cX3_see 40 = .ok (.ireturn, 1) := by decide +kernel
theorem dX3_closeMonth_0 : decode cX3_closeMonth 0 = .ok (.aload_n 0, 1) := by decide +kernel
theorem dX3_closeMonth_1 : decode cX3_closeMonth 1 = .ok (.getfield 40, 3) := by decide +kernel
theorem dX3_closeMonth_4 : decode cX3_closeMonth 4 = .ok (.bipush 12, 2) := by decide +kernel
theorem dX3_closeMonth_6 : decode cX3_closeMonth 6 = .ok (.if_icmp .lt 13, 3) := by decide +kernel
theorem dX3_closeMonth_9 : decode cX3_closeMonth 9 = .ok (.new 56, 3) := by decide +kernel
theorem dX3_closeMonth_12 : decode cX3_closeMonth 12 = .ok (.dup, 1) := by decide +kernel
theorem dX3_closeMonth_13 : decode cX3_closeMonth 13 = .ok (.ldc 146, 2) := by decide +kernel
theorem dX3_closeMonth_15 : decode cX3_closeMonth 15 = .ok (.invokespecial 60, 3) := by decide +kernel
theorem dX3_closeMonth_18 : decode cX3_closeMonth 18 = .ok (.athrow, 1) := by decide +kernel
theorem dX3_closeMonth_19 : decode cX3_closeMonth 19 = .ok (.aload_n 0, 1) := by decide +kernel
theorem dX3_closeMonth_20 : decode cX3_closeMonth 20 = .ok (.dup, 1) := by decide +kernel
theorem dX3_closeMonth_21 : decode cX3_closeMonth 21 = .ok (.getfield 40, 3) := by decide +kernel
theorem dX3_closeMonth_24 : decode cX3_closeMonth 24 = .ok (.iconst 1, 1) := by decide +kernel
theorem dX3_closeMonth_25 : decode cX3_closeMonth 25 = .ok (.iadd, 1) := by decide +kernel
theorem dX3_closeMonth_26 : decode cX3_closeMonth 26 = .ok (.putfield 40, 3) := by decide +kernel
theorem dX3_closeMonth_29 : decode cX3_closeMonth 29 = .ok (.aload_n 0, 1) := by decide +kernel
theorem dX3_closeMonth_30 : decode cX3_closeMonth 30 = .ok (.getfield 40, 3) := by decide +kernel
theorem dX3_closeMonth_33 : decode cX3_closeMonth 33 = .ok (.ireturn, 1) := by decide +kernel
theorem dX3_amount_0 : decode cX3_amount 0 = .ok (.iload_n 1, 1) := by decide +kernel
theorem dX3_amount_1 : decode cX3_amount 1 = .ok (.invokestatic 83, 3) := by decide +kernel
theorem dX3_amount_4 : decode cX3_amount 4 = .ok (.aload_n 0, 1) := by decide +kernel
theorem dX3_amount_5 : decode cX3_amount 5 = .ok (.iload_n 2, 1) := by decide +kernel
theorem dX3_amount_6 : decode cX3_amount 6 = .ok (.invokevirtual 48, 3) := by decide +kernel
theorem dX3_amount_9 : decode cX3_amount 9 = .ok (.iload_n 3, 1) := by decide +kernel
theorem dX3_amount_10 : decode cX3_amount 10 = .ok (.invokestatic 148, 3) := by decide +kernel
theorem dX3_amount_13 : decode cX3_amount 13 = .ok (.iload 4, 2) := by decide +kernel
theorem dX3_amount_15 : decode cX3_amount 15 = .ok (.invokestatic 89, 3) := by decide +kernel
theorem dX3_amount_18 : decode cX3_amount 18 = .ok (.aload_n 0, 1) := by decide +kernel
theorem dX3_amount_19 : decode cX3_amount 19 = .ok (.getfield 19, 3) := by decide +kernel
theorem dX3_amount_22 : decode cX3_amount 22 = .ok (.iload_n 1, 1) := by decide +kernel
theorem dX3_amount_23 : decode cX3_amount 23 = .ok (.aload_n 0, 1) := by decide +kernel
theorem dX3_amount_24 : decode cX3_amount 24 = .ok (.getfield 12, 3) := by decide +kernel
theorem dX3_amount_27 : decode cX3_amount 27 = .ok (.iload_n 2, 1) := by decide +kernel
theorem dX3_amount_28 : decode cX3_amount 28 = .ok (.invokevirtual 80, 3) := by decide +kernel
theorem dX3_amount_31 : decode cX3_amount 31 = .ok (.iload_n 3, 1) := by decide +kernel
theorem dX3_amount_32 : decode cX3_amount 32 = .ok (.iload 4, 2) := by decide +kernel
theorem dX3_amount_34 : decode cX3_amount 34 = .ok (.invokevirtual 151, 3) := by decide +kernel
theorem dX3_amount_37 : decode cX3_amount 37 = .ok (.ireturn, 1) := by decide +kernel
theorem dX3_outlook_0 : decode cX3_outlook 0 = .ok (.iload_n 1, 1) := by decide +kernel
theorem dX3_outlook_1 : decode cX3_outlook 1 = .ok (.invokestatic 83, 3) := by decide +kernel
theorem dX3_outlook_4 : decode cX3_outlook 4 = .ok (.aload_n 0, 1) := by decide +kernel
theorem dX3_outlook_5 : decode cX3_outlook 5 = .ok (.iload_n 2, 1) := by decide +kernel
theorem dX3_outlook_6 : decode cX3_outlook 6 = .ok (.invokevirtual 48, 3) := by decide +kernel
theorem dX3_outlook_9 : decode cX3_outlook 9 = .ok (.iload_n 3, 1) := by decide +kernel
theorem dX3_outlook_10 : decode cX3_outlook 10 = .ok (.invokestatic 148, 3) := by decide +kernel
theorem dX3_outlook_13 : decode cX3_outlook 13 = .ok (.iload 4, 2) := by decide +kernel
theorem dX3_outlook_15 : decode cX3_outlook 15 = .ok (.invokestatic 89, 3) := by decide +kernel
theorem dX3_outlook_18 : decode cX3_outlook 18 = .ok (.iload 4, 2) := by decide +kernel
theorem dX3_outlook_20 : decode cX3_outlook 20 = .ok (.aload_n 0, 1) := by decide +kernel
theorem dX3_outlook_21 : decode cX3_outlook 21 = .ok (.getfield 40, 3) := by decide +kernel
theorem dX3_outlook_24 : decode cX3_outlook 24 = .ok (.if_icmp .ge 7, 3) := by decide +kernel
theorem dX3_outlook_27 : decode cX3_outlook 27 = .ok (.iconst 3, 1) := by decide +kernel
theorem dX3_outlook_28 : decode cX3_outlook 28 = .ok (.goto 4, 3) := by decide +kernel
theorem dX3_outlook_31 : decode cX3_outlook 31 = .ok (.iload_n 1, 1) := by decide +kernel
theorem dX3_outlook_32 : decode cX3_outlook 32 = .ok (.istore 5, 2) := by decide +kernel
theorem dX3_outlook_34 : decode cX3_outlook 34 = .ok (.aload_n 0, 1) := by decide +kernel
theorem dX3_outlook_35 : decode cX3_outlook 35 = .ok (.getfield 19, 3) := by decide +kernel
theorem dX3_outlook_38 : decode cX3_outlook 38 = .ok (.iload 5, 2) := by decide +kernel
theorem dX3_outlook_40 : decode cX3_outlook 40 = .ok (.aload_n 0, 1) := by decide +kernel
theorem dX3_outlook_41 : decode cX3_outlook 41 = .ok (.getfield 12, 3) := by decide +kernel
theorem dX3_outlook_44 : decode cX3_outlook 44 = .ok (.iload_n 2, 1) := by decide +kernel
theorem dX3_outlook_45 : decode cX3_outlook 45 = .ok (.invokevirtual 80, 3) := by decide +kernel
theorem dX3_outlook_48 : decode cX3_outlook 48 = .ok (.iload_n 3, 1) := by decide +kernel
theorem dX3_outlook_49 : decode cX3_outlook 49 = .ok (.iload 4, 2) := by decide +kernel
theorem dX3_outlook_51 : decode cX3_outlook 51 = .ok (.invokevirtual 151, 3) := by decide +kernel
theorem dX3_outlook_54 : decode cX3_outlook 54 = .ok (.ireturn, 1) := by decide +kernel
theorem dX3_year_0 : decode cX3_year 0 = .ok (.iload_n 1, 1) := by decide +kernel
theorem dX3_year_1 : decode cX3_year 1 = .ok (.invokestatic 83, 3) := by decide +kernel
theorem dX3_year_4 : decode cX3_year 4 = .ok (.aload_n 0, 1) := by decide +kernel
theorem dX3_year_5 : decode cX3_year 5 = .ok (.iload_n 2, 1) := by decide +kernel
theorem dX3_year_6 : decode cX3_year 6 = .ok (.invokevirtual 48, 3) := by decide +kernel
theorem dX3_year_9 : decode cX3_year 9 = .ok (.iload_n 3, 1) := by decide +kernel
theorem dX3_year_10 : decode cX3_year 10 = .ok (.invokestatic 148, 3) := by decide +kernel
theorem dX3_year_13 : decode cX3_year 13 = .ok (.aload_n 0, 1) := by decide +kernel
theorem dX3_year_14 : decode cX3_year 14 = .ok (.getfield 12, 3) := by decide +kernel
theorem dX3_year_17 : decode cX3_year 17 = .ok (.iload_n 2, 1) := by decide +kernel
theorem dX3_year_18 : decode cX3_year 18 = .ok (.invokevirtual 80, 3) := by decide +kernel
theorem dX3_year_21 : decode cX3_year 21 = .ok (.istore 4, 2) := by decide +kernel
theorem dX3_year_23 : decode cX3_year 23 = .ok (.iconst 0, 1) := by decide +kernel
theorem dX3_year_24 : decode cX3_year 24 = .ok (.istore 5, 2) := by decide +kernel
theorem dX3_year_26 : decode cX3_year 26 = .ok (.iconst 0, 1) := by decide +kernel
theorem dX3_year_27 : decode cX3_year 27 = .ok (.istore 6, 2) := by decide +kernel
theorem dX3_year_29 : decode cX3_year 29 = .ok (.iload 6, 2) := by decide +kernel
theorem dX3_year_31 : decode cX3_year 31 = .ok (.bipush 12, 2) := by decide +kernel
theorem dX3_year_33 : decode cX3_year 33 = .ok (.if_icmp .ge 27, 3) := by decide +kernel
theorem dX3_year_36 : decode cX3_year 36 = .ok (.iload 5, 2) := by decide +kernel
theorem dX3_year_38 : decode cX3_year 38 = .ok (.aload_n 0, 1) := by decide +kernel
theorem dX3_year_39 : decode cX3_year 39 = .ok (.getfield 19, 3) := by decide +kernel
theorem dX3_year_42 : decode cX3_year 42 = .ok (.iload_n 1, 1) := by decide +kernel
theorem dX3_year_43 : decode cX3_year 43 = .ok (.iload 4, 2) := by decide +kernel
theorem dX3_year_45 : decode cX3_year 45 = .ok (.iload_n 3, 1) := by decide +kernel
theorem dX3_year_46 : decode cX3_year 46 = .ok (.iload 6, 2) := by decide +kernel
theorem dX3_year_48 : decode cX3_year 48 = .ok (.invokevirtual 151, 3) := by decide +kernel
theorem dX3_year_51 : decode cX3_year 51 = .ok (.iadd, 1) := by decide +kernel
theorem dX3_year_52 : decode cX3_year 52 = .ok (.istore 5, 2) := by decide +kernel
theorem dX3_year_54 : decode cX3_year 54 = .ok (.iinc 6 1, 3) := by decide +kernel
theorem dX3_year_57 : decode cX3_year 57 = .ok (.goto (-28), 3) := by decide +kernel
theorem dX3_year_60 : decode cX3_year 60 = .ok (.iload 5, 2) := by decide +kernel
theorem dX3_year_62 : decode cX3_year 62 = .ok (.ireturn, 1) := by decide +kernel
theorem dX3_yearByLeaves_0 : decode cX3_yearByLeaves 0 = .ok (.iload_n 1, 1) := by decide +kernel
theorem dX3_yearByLeaves_1 : decode cX3_yearByLeaves 1 = .ok (.invokestatic 83, 3) := by decide +kernel
theorem dX3_yearByLeaves_4 : decode cX3_yearByLeaves 4 = .ok (.aload_n 0, 1) := by decide +kernel
theorem dX3_yearByLeaves_5 : decode cX3_yearByLeaves 5 = .ok (.iload_n 2, 1) := by decide +kernel
theorem dX3_yearByLeaves_6 : decode cX3_yearByLeaves 6 = .ok (.invokevirtual 48, 3) := by decide +kernel
theorem dX3_yearByLeaves_9 : decode cX3_yearByLeaves 9 = .ok (.iload_n 3, 1) := by decide +kernel
theorem dX3_yearByLeaves_10 : decode cX3_yearByLeaves 10 = .ok (.invokestatic 148, 3) := by decide +kernel
theorem dX3_yearByLeaves_13 : decode cX3_yearByLeaves 13 = .ok (.aload_n 0, 1) := by decide +kernel
theorem dX3_yearByLeaves_14 : decode cX3_yearByLeaves 14 = .ok (.getfield 12, 3) := by decide +kernel
theorem dX3_yearByLeaves_17 : decode cX3_yearByLeaves 17 = .ok (.iload_n 2, 1) := by decide +kernel
theorem dX3_yearByLeaves_18 : decode cX3_yearByLeaves 18 = .ok (.invokevirtual 80, 3) := by decide +kernel
theorem dX3_yearByLeaves_21 : decode cX3_yearByLeaves 21 = .ok (.istore 4, 2) := by decide +kernel
theorem dX3_yearByLeaves_23 : decode cX3_yearByLeaves 23 = .ok (.iconst 0, 1) := by decide +kernel
theorem dX3_yearByLeaves_24 : decode cX3_yearByLeaves 24 = .ok (.istore 5, 2) := by decide +kernel
theorem dX3_yearByLeaves_26 : decode cX3_yearByLeaves 26 = .ok (.iconst 0, 1) := by decide +kernel
theorem dX3_yearByLeaves_27 : decode cX3_yearByLeaves 27 = .ok (.istore 6, 2) := by decide +kernel
theorem dX3_yearByLeaves_29 : decode cX3_yearByLeaves 29 = .ok (.iload 6, 2) := by decide +kernel
theorem dX3_yearByLeaves_31 : decode cX3_yearByLeaves 31 = .ok (.bipush 10, 2) := by decide +kernel
theorem dX3_yearByLeaves_33 : decode cX3_yearByLeaves 33 = .ok (.if_icmp .ge 35, 3) := by decide +kernel
theorem dX3_yearByLeaves_36 : decode cX3_yearByLeaves 36 = .ok (.iload 4, 2) := by decide +kernel
theorem dX3_yearByLeaves_38 : decode cX3_yearByLeaves 38 = .ok (.iload 6, 2) := by decide +kernel
theorem dX3_yearByLeaves_40 : decode cX3_yearByLeaves 40 = .ok (.invokestatic 102, 3) := by decide +kernel
theorem dX3_yearByLeaves_43 : decode cX3_yearByLeaves 43 = .ok (.ifCond .eq 19, 3) := by decide +kernel
theorem dX3_yearByLeaves_46 : decode cX3_yearByLeaves 46 = .ok (.iload 5, 2) := by decide +kernel
theorem dX3_yearByLeaves_48 : decode cX3_yearByLeaves 48 = .ok (.aload_n 0, 1) := by decide +kernel
theorem dX3_yearByLeaves_49 : decode cX3_yearByLeaves 49 = .ok (.getfield 19, 3) := by decide +kernel
theorem dX3_yearByLeaves_52 : decode cX3_yearByLeaves 52 = .ok (.iload_n 1, 1) := by decide +kernel
theorem dX3_yearByLeaves_53 : decode cX3_yearByLeaves 53 = .ok (.iload 6, 2) := by decide +kernel
theorem dX3_yearByLeaves_55 : decode cX3_yearByLeaves 55 = .ok (.iload_n 3, 1) := by decide +kernel
theorem dX3_yearByLeaves_56 : decode cX3_yearByLeaves 56 = .ok (.invokevirtual 155, 3) := by decide +kernel
theorem dX3_yearByLeaves_59 : decode cX3_yearByLeaves 59 = .ok (.iadd, 1) := by decide +kernel
theorem dX3_yearByLeaves_60 : decode cX3_yearByLeaves 60 = .ok (.istore 5, 2) := by decide +kernel
theorem dX3_yearByLeaves_62 : decode cX3_yearByLeaves 62 = .ok (.iinc 6 1, 3) := by decide +kernel
theorem dX3_yearByLeaves_65 : decode cX3_yearByLeaves 65 = .ok (.goto (-36), 3) := by decide +kernel
theorem dX3_yearByLeaves_68 : decode cX3_yearByLeaves 68 = .ok (.iload 5, 2) := by decide +kernel
theorem dX3_yearByLeaves_70 : decode cX3_yearByLeaves 70 = .ok (.ireturn, 1) := by decide +kernel
theorem dX3_filled_0 : decode cX3_filled 0 = .ok (.aload_n 0, 1) := by decide +kernel
theorem dX3_filled_1 : decode cX3_filled 1 = .ok (.getfield 19, 3) := by decide +kernel
theorem dX3_filled_4 : decode cX3_filled 4 = .ok (.invokevirtual 159, 3) := by decide +kernel
theorem dX3_filled_7 : decode cX3_filled 7 = .ok (.ireturn, 1) := by decide +kernel
theorem dX3_gap_0 : decode cX3_gap 0 = .ok (.iload_n 1, 1) := by decide +kernel
theorem dX3_gap_1 : decode cX3_gap 1 = .ok (.invokestatic 83, 3) := by decide +kernel
theorem dX3_gap_4 : decode cX3_gap 4 = .ok (.iload_n 2, 1) := by decide +kernel
theorem dX3_gap_5 : decode cX3_gap 5 = .ok (.invokestatic 83, 3) := by decide +kernel
theorem dX3_gap_8 : decode cX3_gap 8 = .ok (.aload_n 0, 1) := by decide +kernel
theorem dX3_gap_9 : decode cX3_gap 9 = .ok (.iload_n 3, 1) := by decide +kernel
theorem dX3_gap_10 : decode cX3_gap 10 = .ok (.invokevirtual 48, 3) := by decide +kernel
theorem dX3_gap_13 : decode cX3_gap 13 = .ok (.iload 4, 2) := by decide +kernel
theorem dX3_gap_15 : decode cX3_gap 15 = .ok (.iconst 3, 1) := by decide +kernel
theorem dX3_gap_16 : decode cX3_gap 16 = .ok (.invokestatic 95, 3) := by decide +kernel
theorem dX3_gap_19 : decode cX3_gap 19 = .ok (.aload_n 0, 1) := by decide +kernel
theorem dX3_gap_20 : decode cX3_gap 20 = .ok (.getfield 12, 3) := by decide +kernel
theorem dX3_gap_23 : decode cX3_gap 23 = .ok (.iload_n 3, 1) := by decide +kernel
theorem dX3_gap_24 : decode cX3_gap 24 = .ok (.invokevirtual 80, 3) := by decide +kernel
theorem dX3_gap_27 : decode cX3_gap 27 = .ok (.istore 5, 2) := by decide +kernel
theorem dX3_gap_29 : decode cX3_gap 29 = .ok (.iconst 0, 1) := by decide +kernel
theorem dX3_gap_30 : decode cX3_gap 30 = .ok (.istore 6, 2) := by decide +kernel
theorem dX3_gap_32 : decode cX3_gap 32 = .ok (.iconst 0, 1) := by decide +kernel
theorem dX3_gap_33 : decode cX3_gap 33 = .ok (.istore 7, 2) := by decide +kernel
theorem dX3_gap_35 : decode cX3_gap 35 = .ok (.iload 7, 2) := by decide +kernel
theorem dX3_gap_37 : decode cX3_gap 37 = .ok (.bipush 10, 2) := by decide +kernel
theorem dX3_gap_39 : decode cX3_gap 39 = .ok (.if_icmp .ge 34, 3) := by decide +kernel
theorem dX3_gap_42 : decode cX3_gap 42 = .ok (.iload 5, 2) := by decide +kernel
theorem dX3_gap_44 : decode cX3_gap 44 = .ok (.iload 7, 2) := by decide +kernel
theorem dX3_gap_46 : decode cX3_gap 46 = .ok (.invokestatic 102, 3) := by decide +kernel
theorem dX3_gap_49 : decode cX3_gap 49 = .ok (.ifCond .eq 18, 3) := by decide +kernel
theorem dX3_gap_52 : decode cX3_gap 52 = .ok (.iload 6, 2) := by decide +kernel
theorem dX3_gap_54 : decode cX3_gap 54 = .ok (.aload_n 0, 1) := by decide +kernel
theorem dX3_gap_55 : decode cX3_gap 55 = .ok (.iload_n 1, 1) := by decide +kernel
theorem dX3_gap_56 : decode cX3_gap 56 = .ok (.iload_n 2, 1) := by decide +kernel
theorem dX3_gap_57 : decode cX3_gap 57 = .ok (.iload 7, 2) := by decide +kernel
theorem dX3_gap_59 : decode cX3_gap 59 = .ok (.iload 4, 2) := by decide +kernel
theorem dX3_gap_61 : decode cX3_gap 61 = .ok (.invokevirtual 162, 3) := by decide +kernel
theorem dX3_gap_64 : decode cX3_gap 64 = .ok (.iadd, 1) := by decide +kernel
theorem dX3_gap_65 : decode cX3_gap 65 = .ok (.istore 6, 2) := by decide +kernel
theorem dX3_gap_67 : decode cX3_gap 67 = .ok (.iinc 7 1, 3) := by decide +kernel
theorem dX3_gap_70 : decode cX3_gap 70 = .ok (.goto (-35), 3) := by decide +kernel
theorem dX3_gap_73 : decode cX3_gap 73 = .ok (.iload 6, 2) := by decide +kernel
theorem dX3_gap_75 : decode cX3_gap 75 = .ok (.ireturn, 1) := by decide +kernel
theorem dX3_gapOfLeaf_0 : decode cX3_gapOfLeaf 0 = .ok (.iconst 0, 1) := by decide +kernel
theorem dX3_gapOfLeaf_1 : decode cX3_gapOfLeaf 1 = .ok (.istore 5, 2) := by decide +kernel
theorem dX3_gapOfLeaf_3 : decode cX3_gapOfLeaf 3 = .ok (.iconst 0, 1) := by decide +kernel
theorem dX3_gapOfLeaf_4 : decode cX3_gapOfLeaf 4 = .ok (.istore 6, 2) := by decide +kernel
theorem dX3_gapOfLeaf_6 : decode cX3_gapOfLeaf 6 = .ok (.iload 6, 2) := by decide +kernel
theorem dX3_gapOfLeaf_8 : decode cX3_gapOfLeaf 8 = .ok (.bipush 12, 2) := by decide +kernel
theorem dX3_gapOfLeaf_10 : decode cX3_gapOfLeaf 10 = .ok (.if_icmp .ge 83, 3) := by decide +kernel
theorem dX3_gapOfLeaf_13 : decode cX3_gapOfLeaf 13 = .ok (.aload_n 0, 1) := by decide +kernel
theorem dX3_gapOfLeaf_14 : decode cX3_gapOfLeaf 14 = .ok (.getfield 19, 3) := by decide +kernel
theorem dX3_gapOfLeaf_17 : decode cX3_gapOfLeaf 17 = .ok (.iload_n 1, 1) := by decide +kernel
theorem dX3_gapOfLeaf_18 : decode cX3_gapOfLeaf 18 = .ok (.iload_n 3, 1) := by decide +kernel
theorem dX3_gapOfLeaf_19 : decode cX3_gapOfLeaf 19 = .ok (.iconst 0, 1) := by decide +kernel
theorem dX3_gapOfLeaf_20 : decode cX3_gapOfLeaf 20 = .ok (.iload 6, 2) := by decide +kernel
theorem dX3_gapOfLeaf_22 : decode cX3_gapOfLeaf 22 = .ok (.invokevirtual 165, 3) := by decide +kernel
theorem dX3_gapOfLeaf_25 : decode cX3_gapOfLeaf 25 = .ok (.istore 7, 2) := by decide +kernel
theorem dX3_gapOfLeaf_27 : decode cX3_gapOfLeaf 27 = .ok (.aload_n 0, 1) := by decide +kernel
theorem dX3_gapOfLeaf_28 : decode cX3_gapOfLeaf 28 = .ok (.getfield 19, 3) := by decide +kernel
theorem dX3_gapOfLeaf_31 : decode cX3_gapOfLeaf 31 = .ok (.iload_n 1, 1) := by decide +kernel
theorem dX3_gapOfLeaf_32 : decode cX3_gapOfLeaf 32 = .ok (.iload_n 3, 1) := by decide +kernel
theorem dX3_gapOfLeaf_33 : decode cX3_gapOfLeaf 33 = .ok (.iconst 1, 1) := by decide +kernel
theorem dX3_gapOfLeaf_34 : decode cX3_gapOfLeaf 34 = .ok (.iload 6, 2) := by decide +kernel
theorem dX3_gapOfLeaf_36 : decode cX3_gapOfLeaf 36 = .ok (.invokevirtual 165, 3) := by decide +kernel
theorem dX3_gapOfLeaf_39 : decode cX3_gapOfLeaf 39 = .ok (.istore 8, 2) := by decide +kernel
theorem dX3_gapOfLeaf_41 : decode cX3_gapOfLeaf 41 = .ok (.aload_n 0, 1) := by decide +kernel
theorem dX3_gapOfLeaf_42 : decode cX3_gapOfLeaf 42 = .ok (.getfield 19, 3) := by decide +kernel
theorem dX3_gapOfLeaf_45 : decode cX3_gapOfLeaf 45 = .ok (.iload_n 2, 1) := by decide +kernel
theorem dX3_gapOfLeaf_46 : decode cX3_gapOfLeaf 46 = .ok (.iload_n 3, 1) := by decide +kernel
theorem dX3_gapOfLeaf_47 : decode cX3_gapOfLeaf 47 = .ok (.iconst 0, 1) := by decide +kernel
theorem dX3_gapOfLeaf_48 : decode cX3_gapOfLeaf 48 = .ok (.iload 6, 2) := by decide +kernel
theorem dX3_gapOfLeaf_50 : decode cX3_gapOfLeaf 50 = .ok (.invokevirtual 165, 3) := by decide +kernel
theorem dX3_gapOfLeaf_53 : decode cX3_gapOfLeaf 53 = .ok (.istore 9, 2) := by decide +kernel
theorem dX3_gapOfLeaf_55 : decode cX3_gapOfLeaf 55 = .ok (.aload_n 0, 1) := by decide +kernel
theorem dX3_gapOfLeaf_56 : decode cX3_gapOfLeaf 56 = .ok (.getfield 19, 3) := by decide +kernel
theorem dX3_gapOfLeaf_59 : decode cX3_gapOfLeaf 59 = .ok (.iload_n 2, 1) := by decide +kernel
theorem dX3_gapOfLeaf_60 : decode cX3_gapOfLeaf 60 = .ok (.iload_n 3, 1) := by decide +kernel
theorem dX3_gapOfLeaf_61 : decode cX3_gapOfLeaf 61 = .ok (.iconst 1, 1) := by decide +kernel
theorem dX3_gapOfLeaf_62 : decode cX3_gapOfLeaf 62 = .ok (.iload 6, 2) := by decide +kernel
theorem dX3_gapOfLeaf_64 : decode cX3_gapOfLeaf 64 = .ok (.invokevirtual 165, 3) := by decide +kernel
theorem dX3_gapOfLeaf_67 : decode cX3_gapOfLeaf 67 = .ok (.istore 10, 2) := by decide +kernel
theorem dX3_gapOfLeaf_69 : decode cX3_gapOfLeaf 69 = .ok (.iload 5, 2) := by decide +kernel
theorem dX3_gapOfLeaf_71 : decode cX3_gapOfLeaf 71 = .ok (.iload 7, 2) := by decide +kernel
theorem dX3_gapOfLeaf_73 : decode cX3_gapOfLeaf 73 = .ok (.iload 8, 2) := by decide +kernel
theorem dX3_gapOfLeaf_75 : decode cX3_gapOfLeaf 75 = .ok (.iload 9, 2) := by decide +kernel
theorem dX3_gapOfLeaf_77 : decode cX3_gapOfLeaf 77 = .ok (.iload 10, 2) := by decide +kernel
theorem dX3_gapOfLeaf_79 : decode cX3_gapOfLeaf 79 = .ok (.iload 4, 2) := by decide +kernel
theorem dX3_gapOfLeaf_81 : decode cX3_gapOfLeaf 81 = .ok (.invokestatic 168, 3) := by decide +kernel
theorem dX3_gapOfLeaf_84 : decode cX3_gapOfLeaf 84 = .ok (.iadd, 1) := by decide +kernel
theorem dX3_gapOfLeaf_85 : decode cX3_gapOfLeaf 85 = .ok (.istore 5, 2) := by decide +kernel
theorem dX3_gapOfLeaf_87 : decode cX3_gapOfLeaf 87 = .ok (.iinc 6 1, 3) := by decide +kernel
theorem dX3_gapOfLeaf_90 : decode cX3_gapOfLeaf 90 = .ok (.goto (-84), 3) := by decide +kernel
theorem dX3_gapOfLeaf_93 : decode cX3_gapOfLeaf 93 = .ok (.iload 5, 2) := by decide +kernel
theorem dX3_gapOfLeaf_95 : decode cX3_gapOfLeaf 95 = .ok (.ireturn, 1) := by decide +kernel
theorem dX3_gapPart_0 : decode cX3_gapPart 0 = .ok (.iload 4, 2) := by decide +kernel
theorem dX3_gapPart_2 : decode cX3_gapPart 2 = .ok (.tableswitch 46 0 2 #[26, 34, 40], 26) := by decide +kernel
theorem dX3_gapPart_28 : decode cX3_gapPart 28 = .ok (.iload_n 2, 1) := by decide +kernel
theorem dX3_gapPart_29 : decode cX3_gapPart 29 = .ok (.iload_n 3, 1) := by decide +kernel
theorem dX3_gapPart_30 : decode cX3_gapPart 30 = .ok (.imul, 1) := by decide +kernel
theorem dX3_gapPart_31 : decode cX3_gapPart 31 = .ok (.iload_n 0, 1) := by decide +kernel
theorem dX3_gapPart_32 : decode cX3_gapPart 32 = .ok (.iload_n 1, 1) := by decide +kernel
theorem dX3_gapPart_33 : decode cX3_gapPart 33 = .ok (.imul, 1) := by decide +kernel
theorem dX3_gapPart_34 : decode cX3_gapPart 34 = .ok (.isub, 1) := by decide +kernel
theorem dX3_gapPart_35 : decode cX3_gapPart 35 = .ok (.ireturn, 1) := by decide +kernel
theorem dX3_gapPart_36 : decode cX3_gapPart 36 = .ok (.iload_n 2, 1) := by decide +kernel
theorem dX3_gapPart_37 : decode cX3_gapPart 37 = .ok (.iload_n 0, 1) := by decide +kernel
theorem dX3_gapPart_38 : decode cX3_gapPart 38 = .ok (.isub, 1) := by decide +kernel
theorem dX3_gapPart_39 : decode cX3_gapPart 39 = .ok (.iload_n 1, 1) := by decide +kernel
theorem dX3_gapPart_40 : decode cX3_gapPart 40 = .ok (.imul, 1) := by decide +kernel
theorem dX3_gapPart_41 : decode cX3_gapPart 41 = .ok (.ireturn, 1) := by decide +kernel
theorem dX3_gapPart_42 : decode cX3_gapPart 42 = .ok (.iload_n 0, 1) := by decide +kernel
theorem dX3_gapPart_43 : decode cX3_gapPart 43 = .ok (.iload_n 3, 1) := by decide +kernel
theorem dX3_gapPart_44 : decode cX3_gapPart 44 = .ok (.iload_n 1, 1) := by decide +kernel
theorem dX3_gapPart_45 : decode cX3_gapPart 45 = .ok (.isub, 1) := by decide +kernel
theorem dX3_gapPart_46 : decode cX3_gapPart 46 = .ok (.imul, 1) := by decide +kernel
theorem dX3_gapPart_47 : decode cX3_gapPart 47 = .ok (.ireturn, 1) := by decide +kernel
theorem dX3_gapPart_48 : decode cX3_gapPart 48 = .ok (.iload_n 2, 1) := by decide +kernel
theorem dX3_gapPart_49 : decode cX3_gapPart 49 = .ok (.iload_n 0, 1) := by decide +kernel
theorem dX3_gapPart_50 : decode cX3_gapPart 50 = .ok (.isub, 1) := by decide +kernel
theorem dX3_gapPart_51 : decode cX3_gapPart 51 = .ok (.iload_n 3, 1) := by decide +kernel
theorem dX3_gapPart_52 : decode cX3_gapPart 52 = .ok (.iload_n 1, 1) := by decide +kernel
theorem dX3_gapPart_53 : decode cX3_gapPart 53 = .ok (.isub, 1) := by decide +kernel
theorem dX3_gapPart_54 : decode cX3_gapPart 54 = .ok (.imul, 1) := by decide +kernel
theorem dX3_gapPart_55 : decode cX3_gapPart 55 = .ok (.ireturn, 1) := by decide +kernel
theorem dX3_isInUse_0 : decode cX3_isInUse 0 = .ok (.iconst 0, 1) := by decide +kernel
theorem dX3_isInUse_1 : decode cX3_isInUse 1 = .ok (.istore_n 2, 1) := by decide +kernel
theorem dX3_isInUse_2 : decode cX3_isInUse 2 = .ok (.iconst 0, 1) := by decide +kernel
theorem dX3_isInUse_3 : decode cX3_isInUse 3 = .ok (.istore_n 3, 1) := by decide +kernel
theorem dX3_isInUse_4 : decode cX3_isInUse 4 = .ok (.iload_n 3, 1) := by decide +kernel
theorem dX3_isInUse_5 : decode cX3_isInUse 5 = .ok (.bipush 12, 2) := by decide +kernel
theorem dX3_isInUse_7 : decode cX3_isInUse 7 = .ok (.if_icmp .ge 18, 3) := by decide +kernel
theorem dX3_isInUse_10 : decode cX3_isInUse 10 = .ok (.iload_n 2, 1) := by decide +kernel
theorem dX3_isInUse_11 : decode cX3_isInUse 11 = .ok (.aload_n 0, 1) := by decide +kernel
theorem dX3_isInUse_12 : decode cX3_isInUse 12 = .ok (.getfield 23, 3) := by decide +kernel
theorem dX3_isInUse_15 : decode cX3_isInUse 15 = .ok (.iload_n 3, 1) := by decide +kernel
theorem dX3_isInUse_16 : decode cX3_isInUse 16 = .ok (.iaload, 1) := by decide +kernel
theorem dX3_isInUse_17 : decode cX3_isInUse 17 = .ok (.ior, 1) := by decide +kernel
theorem dX3_isInUse_18 : decode cX3_isInUse 18 = .ok (.istore_n 2, 1) := by decide +kernel
theorem dX3_isInUse_19 : decode cX3_isInUse 19 = .ok (.iinc 3 1, 3) := by decide +kernel
theorem dX3_isInUse_22 : decode cX3_isInUse 22 = .ok (.goto (-18), 3) := by decide +kernel
theorem dX3_isInUse_25 : decode cX3_isInUse 25 = .ok (.iconst 0, 1) := by decide +kernel
theorem dX3_isInUse_26 : decode cX3_isInUse 26 = .ok (.istore_n 3, 1) := by decide +kernel
theorem dX3_isInUse_27 : decode cX3_isInUse 27 = .ok (.iload_n 3, 1) := by decide +kernel
theorem dX3_isInUse_28 : decode cX3_isInUse 28 = .ok (.iconst 3, 1) := by decide +kernel
theorem dX3_isInUse_29 : decode cX3_isInUse 29 = .ok (.if_icmp .ge 18, 3) := by decide +kernel
theorem dX3_isInUse_32 : decode cX3_isInUse 32 = .ok (.iload_n 2, 1) := by decide +kernel
theorem dX3_isInUse_33 : decode cX3_isInUse 33 = .ok (.aload_n 0, 1) := by decide +kernel
theorem dX3_isInUse_34 : decode cX3_isInUse 34 = .ok (.getfield 27, 3) := by decide +kernel
theorem dX3_isInUse_37 : decode cX3_isInUse 37 = .ok (.iload_n 3, 1) := by decide +kernel
theorem dX3_isInUse_38 : decode cX3_isInUse 38 = .ok (.iaload, 1) := by decide +kernel
theorem dX3_isInUse_39 : decode cX3_isInUse 39 = .ok (.ior, 1) := by decide +kernel
theorem dX3_isInUse_40 : decode cX3_isInUse 40 = .ok (.istore_n 2, 1) := by decide +kernel
theorem dX3_isInUse_41 : decode cX3_isInUse 41 = .ok (.iinc 3 1, 3) := by decide +kernel
theorem dX3_isInUse_44 : decode cX3_isInUse 44 = .ok (.goto (-17), 3) := by decide +kernel
theorem dX3_isInUse_47 : decode cX3_isInUse 47 = .ok (.iload_n 2, 1) := by decide +kernel
theorem dX3_isInUse_48 : decode cX3_isInUse 48 = .ok (.iload_n 1, 1) := by decide +kernel
theorem dX3_isInUse_49 : decode cX3_isInUse 49 = .ok (.invokestatic 102, 3) := by decide +kernel
theorem dX3_isInUse_52 : decode cX3_isInUse 52 = .ok (.ifCond .ne 14, 3) := by decide +kernel
theorem dX3_isInUse_55 : decode cX3_isInUse 55 = .ok (.aload_n 0, 1) := by decide +kernel
theorem dX3_isInUse_56 : decode cX3_isInUse 56 = .ok (.getfield 19, 3) := by decide +kernel
theorem dX3_isInUse_59 : decode cX3_isInUse 59 = .ok (.iload_n 1, 1) := by decide +kernel
theorem dX3_isInUse_60 : decode cX3_isInUse 60 = .ok (.invokevirtual 171, 3) := by decide +kernel
theorem dX3_isInUse_63 : decode cX3_isInUse 63 = .ok (.ifCond .ne 7, 3) := by decide +kernel
theorem dX3_isInUse_66 : decode cX3_isInUse 66 = .ok (.iconst 1, 1) := by decide +kernel
theorem dX3_isInUse_67 : decode cX3_isInUse 67 = .ok (.goto 4, 3) := by decide +kernel
theorem dX3_isInUse_70 : decode cX3_isInUse 70 = .ok (.iconst 0, 1) := by decide +kernel
theorem dX3_isInUse_71 : decode cX3_isInUse 71 = .ok (.ireturn, 1) := by decide +kernel
theorem dX3_freeAmong_0 : decode cX3_freeAmong 0 = .ok (.iload_n 1, 1) := by decide +kernel
theorem dX3_freeAmong_1 : decode cX3_freeAmong 1 = .ok (.aload_n 0, 1) := by decide +kernel
theorem dX3_freeAmong_2 : decode cX3_freeAmong 2 = .ok (.getfield 23, 3) := by decide +kernel
theorem dX3_freeAmong_5 : decode cX3_freeAmong 5 = .ok (.iload_n 3, 1) := by decide +kernel
theorem dX3_freeAmong_6 : decode cX3_freeAmong 6 = .ok (.iaload, 1) := by decide +kernel
theorem dX3_freeAmong_7 : decode cX3_freeAmong 7 = .ok (.iconst (-1), 1) := by decide +kernel
theorem dX3_freeAmong_8 : decode cX3_freeAmong 8 = .ok (.ixor, 1) := by decide +kernel
theorem dX3_freeAmong_9 : decode cX3_freeAmong 9 = .ok (.iand, 1) := by decide +kernel
theorem dX3_freeAmong_10 : decode cX3_freeAmong 10 = .ok (.aload_n 0, 1) := by decide +kernel
theorem dX3_freeAmong_11 : decode cX3_freeAmong 11 = .ok (.getfield 27, 3) := by decide +kernel
theorem dX3_freeAmong_14 : decode cX3_freeAmong 14 = .ok (.iload_n 2, 1) := by decide +kernel
theorem dX3_freeAmong_15 : decode cX3_freeAmong 15 = .ok (.iaload, 1) := by decide +kernel
theorem dX3_freeAmong_16 : decode cX3_freeAmong 16 = .ok (.iconst (-1), 1) := by decide +kernel
theorem dX3_freeAmong_17 : decode cX3_freeAmong 17 = .ok (.ixor, 1) := by decide +kernel
theorem dX3_freeAmong_18 : decode cX3_freeAmong 18 = .ok (.iand, 1) := by decide +kernel
theorem dX3_freeAmong_19 : decode cX3_freeAmong 19 = .ok (.ireturn, 1) := by decide +kernel
theorem dX3_restOf_0 : decode cX3_restOf 0 = .ok (.iload_n 3, 1) := by decide +kernel
theorem dX3_restOf_1 : decode cX3_restOf 1 = .ok (.aload_n 0, 1) := by decide +kernel
theorem dX3_restOf_2 : decode cX3_restOf 2 = .ok (.iload_n 3, 1) := by decide +kernel
theorem dX3_restOf_3 : decode cX3_restOf 3 = .ok (.iload_n 2, 1) := by decide +kernel
theorem dX3_restOf_4 : decode cX3_restOf 4 = .ok (.iload 4, 2) := by decide +kernel
theorem dX3_restOf_6 : decode cX3_restOf 6 = .ok (.invokevirtual 174, 3) := by decide +kernel
theorem dX3_restOf_9 : decode cX3_restOf 9 = .ok (.iconst (-1), 1) := by decide +kernel
theorem dX3_restOf_10 : decode cX3_restOf 10 = .ok (.ixor, 1) := by decide +kernel
theorem dX3_restOf_11 : decode cX3_restOf 11 = .ok (.iand, 1) := by decide +kernel
theorem dX3_restOf_12 : decode cX3_restOf 12 = .ok (.istore 5, 2) := by decide +kernel
theorem dX3_restOf_14 : decode cX3_restOf 14 = .ok (.iload_n 1, 1) := by decide +kernel
theorem dX3_restOf_15 : decode cX3_restOf 15 = .ok (.aload_n 0, 1) := by decide +kernel
theorem dX3_restOf_16 : decode cX3_restOf 16 = .ok (.getfield 19, 3) := by decide +kernel
theorem dX3_restOf_19 : decode cX3_restOf 19 = .ok (.iload_n 2, 1) := by decide +kernel
theorem dX3_restOf_20 : decode cX3_restOf 20 = .ok (.iload 5, 2) := by decide +kernel
theorem dX3_restOf_22 : decode cX3_restOf 22 = .ok (.iconst 2, 1) := by decide +kernel
theorem dX3_restOf_23 : decode cX3_restOf 23 = .ok (.iload 4, 2) := by decide +kernel
theorem dX3_restOf_25 : decode cX3_restOf 25 = .ok (.invokevirtual 151, 3) := by decide +kernel
theorem dX3_restOf_28 : decode cX3_restOf 28 = .ok (.isub, 1) := by decide +kernel
theorem dX3_restOf_29 : decode cX3_restOf 29 = .ok (.ireturn, 1) := by decide +kernel
theorem dX3_checkSpreadable_0 : decode cX3_checkSpreadable 0 = .ok (.aload_n 0, 1) := by decide +kernel
theorem dX3_checkSpreadable_1 : decode cX3_checkSpreadable 1 = .ok (.iload_n 2, 1) := by decide +kernel
theorem dX3_checkSpreadable_2 : decode cX3_checkSpreadable 2 = .ok (.iload_n 1, 1) := by decide +kernel
theorem dX3_checkSpreadable_3 : decode cX3_checkSpreadable 3 = .ok (.iload_n 3, 1) := by decide +kernel
theorem dX3_checkSpreadable_4 : decode cX3_checkSpreadable 4 = .ok (.invokevirtual 174, 3) := by decide +kernel
theorem dX3_checkSpreadable_7 : decode cX3_checkSpreadable 7 = .ok (.ifCond .ne 13, 3) := by decide +kernel
theorem dX3_checkSpreadable_10 : decode cX3_checkSpreadable 10 = .ok (.new 56, 3) := by decide +kernel
theorem dX3_checkSpreadable_13 : decode cX3_checkSpreadable 13 = .ok (.dup, 1) := by decide +kernel
theorem dX3_checkSpreadable_14 : decode cX3_checkSpreadable 14 = .ok (.ldc 177, 2) := by decide +kernel
theorem dX3_checkSpreadable_16 : decode cX3_checkSpreadable 16 = .ok (.invokespecial 60, 3) := by decide +kernel
theorem dX3_checkSpreadable_19 : decode cX3_checkSpreadable 19 = .ok (.athrow, 1) := by decide +kernel
theorem dX3_checkSpreadable_20 : decode cX3_checkSpreadable 20 = .ok (.aload_n 0, 1) := by decide +kernel
theorem dX3_checkSpreadable_21 : decode cX3_checkSpreadable 21 = .ok (.iload 4, 2) := by decide +kernel
theorem dX3_checkSpreadable_23 : decode cX3_checkSpreadable 23 = .ok (.iload_n 1, 1) := by decide +kernel
theorem dX3_checkSpreadable_24 : decode cX3_checkSpreadable 24 = .ok (.iload_n 2, 1) := by decide +kernel
theorem dX3_checkSpreadable_25 : decode cX3_checkSpreadable 25 = .ok (.iload_n 3, 1) := by decide +kernel
theorem dX3_checkSpreadable_26 : decode cX3_checkSpreadable 26 = .ok (.invokevirtual 179, 3) := by decide +kernel
theorem dX3_checkSpreadable_29 : decode cX3_checkSpreadable 29 = .ok (.ifCond .ge 13, 3) := by decide +kernel
theorem dX3_checkSpreadable_32 : decode cX3_checkSpreadable 32 = .ok (.new 56, 3) := by decide +kernel
theorem dX3_checkSpreadable_35 : decode cX3_checkSpreadable 35 = .ok (.dup, 1) := by decide +kernel
theorem dX3_checkSpreadable_36 : decode cX3_checkSpreadable 36 = .ok (.ldc 182, 2) := by decide +kernel
theorem dX3_checkSpreadable_38 : decode cX3_checkSpreadable 38 = .ok (.invokespecial 60, 3) := by decide +kernel
theorem dX3_checkSpreadable_41 : decode cX3_checkSpreadable 41 = .ok (.athrow, 1) := by decide +kernel
theorem dX3_checkSpreadable_42 : decode cX3_checkSpreadable 42 = .ok (.return_, 1) := by decide +kernel
theorem dX3_spreadOver_0 : decode cX3_spreadOver 0 = .ok (.aload_n 0, 1) := by decide +kernel
theorem dX3_spreadOver_1 : decode cX3_spreadOver 1 = .ok (.iload_n 2, 1) := by decide +kernel
theorem dX3_spreadOver_2 : decode cX3_spreadOver 2 = .ok (.iload_n 1, 1) := by decide +kernel
theorem dX3_spreadOver_3 : decode cX3_spreadOver 3 = .ok (.iload_n 3, 1) := by decide +kernel
theorem dX3_spreadOver_4 : decode cX3_spreadOver 4 = .ok (.invokevirtual 174, 3) := by decide +kernel
theorem dX3_spreadOver_7 : decode cX3_spreadOver 7 = .ok (.istore 6, 2) := by decide +kernel
theorem dX3_spreadOver_9 : decode cX3_spreadOver 9 = .ok (.aload_n 0, 1) := by decide +kernel
theorem dX3_spreadOver_10 : decode cX3_spreadOver 10 = .ok (.iload_n 1, 1) := by decide +kernel
theorem dX3_spreadOver_11 : decode cX3_spreadOver 11 = .ok (.iload 6, 2) := by decide +kernel
theorem dX3_spreadOver_13 : decode cX3_spreadOver 13 = .ok (.iload_n 3, 1) := by decide +kernel
theorem dX3_spreadOver_14 : decode cX3_spreadOver 14 = .ok (.iload 5, 2) := by decide +kernel
theorem dX3_spreadOver_16 : decode cX3_spreadOver 16 = .ok (.invokevirtual 184, 3) := by decide +kernel
theorem dX3_spreadOver_19 : decode cX3_spreadOver 19 = .ok (.aload_n 0, 1) := by decide +kernel
theorem dX3_spreadOver_20 : decode cX3_spreadOver 20 = .ok (.getfield 37, 3) := by decide +kernel
theorem dX3_spreadOver_23 : decode cX3_spreadOver 23 = .ok (.aload_n 0, 1) := by decide +kernel
theorem dX3_spreadOver_24 : decode cX3_spreadOver 24 = .ok (.iload 4, 2) := by decide +kernel
theorem dX3_spreadOver_26 : decode cX3_spreadOver 26 = .ok (.iload_n 1, 1) := by decide +kernel
theorem dX3_spreadOver_27 : decode cX3_spreadOver 27 = .ok (.iload_n 2, 1) := by decide +kernel
theorem dX3_spreadOver_28 : decode cX3_spreadOver 28 = .ok (.iload_n 3, 1) := by decide +kernel
theorem dX3_spreadOver_29 : decode cX3_spreadOver 29 = .ok (.invokevirtual 179, 3) := by decide +kernel
theorem dX3_spreadOver_32 : decode cX3_spreadOver 32 = .ok (.invokevirtual 125, 3) := by decide +kernel
theorem dX3_spreadOver_35 : decode cX3_spreadOver 35 = .ok (.iconst 0, 1) := by decide +kernel
theorem dX3_spreadOver_36 : decode cX3_spreadOver 36 = .ok (.istore 7, 2) := by decide +kernel
theorem dX3_spreadOver_38 : decode cX3_spreadOver 38 = .ok (.iconst 0, 1) := by decide +kernel
theorem dX3_spreadOver_39 : decode cX3_spreadOver 39 = .ok (.istore 8, 2) := by decide +kernel
theorem dX3_spreadOver_41 : decode cX3_spreadOver 41 = .ok (.iload 8, 2) := by decide +kernel
theorem dX3_spreadOver_43 : decode cX3_spreadOver 43 = .ok (.bipush 10, 2) := by decide +kernel
theorem dX3_spreadOver_45 : decode cX3_spreadOver 45 = .ok (.if_icmp .ge 63, 3) := by decide +kernel
theorem dX3_spreadOver_48 : decode cX3_spreadOver 48 = .ok (.iload 6, 2) := by decide +kernel
theorem dX3_spreadOver_50 : decode cX3_spreadOver 50 = .ok (.iload 8, 2) := by decide +kernel
theorem dX3_spreadOver_52 : decode cX3_spreadOver 52 = .ok (.invokestatic 102, 3) := by decide +kernel
theorem dX3_spreadOver_55 : decode cX3_spreadOver 55 = .ok (.ifCond .eq 47, 3) := by decide +kernel
theorem dX3_spreadOver_58 : decode cX3_spreadOver 58 = .ok (.aload_n 0, 1) := by decide +kernel
theorem dX3_spreadOver_59 : decode cX3_spreadOver 59 = .ok (.getfield 37, 3) := by decide +kernel
theorem dX3_spreadOver_62 : decode cX3_spreadOver 62 = .ok (.iload 8, 2) := by decide +kernel
theorem dX3_spreadOver_64 : decode cX3_spreadOver 64 = .ok (.invokevirtual 128, 3) := by decide +kernel
theorem dX3_spreadOver_67 : decode cX3_spreadOver 67 = .ok (.istore 9, 2) := by decide +kernel
theorem dX3_spreadOver_69 : decode cX3_spreadOver 69 = .ok (.aload_n 0, 1) := by decide +kernel
theorem dX3_spreadOver_70 : decode cX3_spreadOver 70 = .ok (.getfield 19, 3) := by decide +kernel
theorem dX3_spreadOver_73 : decode cX3_spreadOver 73 = .ok (.iload_n 1, 1) := by decide +kernel
theorem dX3_spreadOver_74 : decode cX3_spreadOver 74 = .ok (.iload 8, 2) := by decide +kernel
theorem dX3_spreadOver_76 : decode cX3_spreadOver 76 = .ok (.iconst 2, 1) := by decide +kernel
theorem dX3_spreadOver_77 : decode cX3_spreadOver 77 = .ok (.iload_n 3, 1) := by decide +kernel
theorem dX3_spreadOver_78 : decode cX3_spreadOver 78 = .ok (.iload 9, 2) := by decide +kernel
theorem dX3_spreadOver_80 : decode cX3_spreadOver 80 = .ok (.invokevirtual 108, 3) := by decide +kernel
theorem dX3_spreadOver_83 : decode cX3_spreadOver 83 = .ok (.istore 10, 2) := by decide +kernel
theorem dX3_spreadOver_85 : decode cX3_spreadOver 85 = .ok (.iload 7, 2) := by decide +kernel
theorem dX3_spreadOver_87 : decode cX3_spreadOver 87 = .ok (.iload 9, 2) := by decide +kernel
theorem dX3_spreadOver_89 : decode cX3_spreadOver 89 = .ok (.iload 10, 2) := by decide +kernel
theorem dX3_spreadOver_91 : decode cX3_spreadOver 91 = .ok (.if_icmp .eq 7, 3) := by decide +kernel
theorem dX3_spreadOver_94 : decode cX3_spreadOver 94 = .ok (.iconst 1, 1) := by decide +kernel
theorem dX3_spreadOver_95 : decode cX3_spreadOver 95 = .ok (.goto 4, 3) := by decide +kernel
theorem dX3_spreadOver_98 : decode cX3_spreadOver 98 = .ok (.iconst 0, 1) := by decide +kernel
theorem dX3_spreadOver_99 : decode cX3_spreadOver 99 = .ok (.iadd, 1) := by decide +kernel
theorem dX3_spreadOver_100 : decode cX3_spreadOver 100 = .ok (.istore 7, 2) := by decide +kernel
theorem dX3_spreadOver_102 : decode cX3_spreadOver 102 = .ok (.iinc 8 1, 3) := by decide +kernel
theorem dX3_spreadOver_105 : decode cX3_spreadOver 105 = .ok (.goto (-64), 3) := by decide +kernel
theorem dX3_spreadOver_108 : decode cX3_spreadOver 108 = .ok (.iload 7, 2) := by decide +kernel
theorem dX3_spreadOver_110 : decode cX3_spreadOver 110 = .ok (.ireturn, 1) := by decide +kernel
theorem dX3_weighLeaves_0 : decode cX3_weighLeaves 0 = .ok (.iload 4, 2) := by decide +kernel
theorem dX3_weighLeaves_2 : decode cX3_weighLeaves 2 = .ok (.iconst 1, 1) := by decide +kernel
theorem dX3_weighLeaves_3 : decode cX3_weighLeaves 3 = .ok (.if_icmp .eq 17, 3) := by decide +kernel
theorem dX3_weighLeaves_6 : decode cX3_weighLeaves 6 = .ok (.aload_n 0, 1) := by decide +kernel
theorem dX3_weighLeaves_7 : decode cX3_weighLeaves 7 = .ok (.getfield 19, 3) := by decide +kernel
theorem dX3_weighLeaves_10 : decode cX3_weighLeaves 10 = .ok (.iload_n 1, 1) := by decide +kernel
theorem dX3_weighLeaves_11 : decode cX3_weighLeaves 11 = .ok (.iload_n 2, 1) := by decide +kernel
theorem dX3_weighLeaves_12 : decode cX3_weighLeaves 12 = .ok (.iconst 2, 1) := by decide +kernel
theorem dX3_weighLeaves_13 : decode cX3_weighLeaves 13 = .ok (.iload_n 3, 1) := by decide +kernel
theorem dX3_weighLeaves_14 : decode cX3_weighLeaves 14 = .ok (.invokevirtual 151, 3) := by decide +kernel
theorem dX3_weighLeaves_17 : decode cX3_weighLeaves 17 = .ok (.ifCond .ne 7, 3) := by decide +kernel
theorem dX3_weighLeaves_20 : decode cX3_weighLeaves 20 = .ok (.iconst 1, 1) := by decide +kernel
theorem dX3_weighLeaves_21 : decode cX3_weighLeaves 21 = .ok (.goto 4, 3) := by decide +kernel
theorem dX3_weighLeaves_24 : decode cX3_weighLeaves 24 = .ok (.iconst 0, 1) := by decide +kernel
theorem dX3_weighLeaves_25 : decode cX3_weighLeaves 25 = .ok (.istore 5, 2) := by decide +kernel
theorem dX3_weighLeaves_27 : decode cX3_weighLeaves 27 = .ok (.iconst 0, 1) := by decide +kernel
theorem dX3_weighLeaves_28 : decode cX3_weighLeaves 28 = .ok (.istore 6, 2) := by decide +kernel
theorem dX3_weighLeaves_30 : decode cX3_weighLeaves 30 = .ok (.iload 6, 2) := by decide +kernel
theorem dX3_weighLeaves_32 : decode cX3_weighLeaves 32 = .ok (.bipush 10, 2) := by decide +kernel
theorem dX3_weighLeaves_34 : decode cX3_weighLeaves 34 = .ok (.if_icmp .ge 56, 3) := by decide +kernel
theorem dX3_weighLeaves_37 : decode cX3_weighLeaves 37 = .ok (.iconst 0, 1) := by decide +kernel
theorem dX3_weighLeaves_38 : decode cX3_weighLeaves 38 = .ok (.istore 7, 2) := by decide +kernel
theorem dX3_weighLeaves_40 : decode cX3_weighLeaves 40 = .ok (.iload_n 2, 1) := by decide +kernel
theorem dX3_weighLeaves_41 : decode cX3_weighLeaves 41 = .ok (.iload 6, 2) := by decide +kernel
theorem dX3_weighLeaves_43 : decode cX3_weighLeaves 43 = .ok (.invokestatic 102, 3) := by decide +kernel
theorem dX3_weighLeaves_46 : decode cX3_weighLeaves 46 = .ok (.ifCond .eq 26, 3) := by decide +kernel
theorem dX3_weighLeaves_49 : decode cX3_weighLeaves 49 = .ok (.iload 5, 2) := by decide +kernel
theorem dX3_weighLeaves_51 : decode cX3_weighLeaves 51 = .ok (.ifCond .eq 7, 3) := by decide +kernel
theorem dX3_weighLeaves_54 : decode cX3_weighLeaves 54 = .ok (.iconst 1, 1) := by decide +kernel
theorem dX3_weighLeaves_55 : decode cX3_weighLeaves 55 = .ok (.goto 15, 3) := by decide +kernel
theorem dX3_weighLeaves_58 : decode cX3_weighLeaves 58 = .ok (.aload_n 0, 1) := by decide +kernel
theorem dX3_weighLeaves_59 : decode cX3_weighLeaves 59 = .ok (.getfield 19, 3) := by decide +kernel
theorem dX3_weighLeaves_62 : decode cX3_weighLeaves 62 = .ok (.iload_n 1, 1) := by decide +kernel
theorem dX3_weighLeaves_63 : decode cX3_weighLeaves 63 = .ok (.iload 6, 2) := by decide +kernel
theorem dX3_weighLeaves_65 : decode cX3_weighLeaves 65 = .ok (.iconst 2, 1) := by decide +kernel
theorem dX3_weighLeaves_66 : decode cX3_weighLeaves 66 = .ok (.iload_n 3, 1) := by decide +kernel
theorem dX3_weighLeaves_67 : decode cX3_weighLeaves 67 = .ok (.invokevirtual 165, 3) := by decide +kernel
theorem dX3_weighLeaves_70 : decode cX3_weighLeaves 70 = .ok (.istore 7, 2) := by decide +kernel
theorem dX3_weighLeaves_72 : decode cX3_weighLeaves 72 = .ok (.aload_n 0, 1) := by decide +kernel
theorem dX3_weighLeaves_73 : decode cX3_weighLeaves 73 = .ok (.getfield 37, 3) := by decide +kernel
theorem dX3_weighLeaves_76 : decode cX3_weighLeaves 76 = .ok (.iload 6, 2) := by decide +kernel
theorem dX3_weighLeaves_78 : decode cX3_weighLeaves 78 = .ok (.iload 7, 2) := by decide +kernel
theorem dX3_weighLeaves_80 : decode cX3_weighLeaves 80 = .ok (.invokevirtual 44, 3) := by decide +kernel
theorem dX3_weighLeaves_83 : decode cX3_weighLeaves 83 = .ok (.pop, 1) := by decide +kernel
theorem dX3_weighLeaves_84 : decode cX3_weighLeaves 84 = .ok (.iinc 6 1, 3) := by decide +kernel
theorem dX3_weighLeaves_87 : decode cX3_weighLeaves 87 = .ok (.goto (-57), 3) := by decide +kernel
theorem dX3_weighLeaves_90 : decode cX3_weighLeaves 90 = .ok (.return_, 1) := by decide +kernel
theorem dX3_checkVersion_0 : decode cX3_checkVersion 0 = .ok (.iload_n 0, 1) := by decide +kernel
theorem dX3_checkVersion_1 : decode cX3_checkVersion 1 = .ok (.ifCond .lt 8, 3) := by decide +kernel
theorem dX3_checkVersion_4 : decode cX3_checkVersion 4 = .ok (.iload_n 0, 1) := by decide +kernel
theorem dX3_checkVersion_5 : decode cX3_checkVersion 5 = .ok (.iconst 3, 1) := by decide +kernel
theorem dX3_checkVersion_6 : decode cX3_checkVersion 6 = .ok (.if_icmp .lt 13, 3) := by decide +kernel
theorem dX3_checkVersion_9 : decode cX3_checkVersion 9 = .ok (.new 187, 3) := by decide +kernel
theorem dX3_checkVersion_12 : decode cX3_checkVersion 12 = .ok (.dup, 1) := by decide +kernel
theorem dX3_checkVersion_13 : decode cX3_checkVersion 13 = .ok (.ldc 189, 2) := by decide +kernel
theorem dX3_checkVersion_15 : decode cX3_checkVersion 15 = .ok (.invokespecial 191, 3) := by decide +kernel
theorem dX3_checkVersion_18 : decode cX3_checkVersion 18 = .ok (.athrow, 1) := by decide +kernel
theorem dX3_checkVersion_19 : decode cX3_checkVersion 19 = .ok (.return_, 1) := by decide +kernel
theorem dX3_checkPlace_0 : decode cX3_checkPlace 0 = .ok (.aload_n 0, 1) := by decide +kernel
theorem dX3_checkPlace_1 : decode cX3_checkPlace 1 = .ok (.getfield 12, 3) := by decide +kernel
theorem dX3_checkPlace_4 : decode cX3_checkPlace 4 = .ok (.iload_n 1, 1) := by decide +kernel
theorem dX3_checkPlace_5 : decode cX3_checkPlace 5 = .ok (.invokevirtual 192, 3) := by decide +kernel
theorem dX3_checkPlace_8 : decode cX3_checkPlace 8 = .ok (.ifCond .ne 13, 3) := by decide +kernel
theorem dX3_checkPlace_11 : decode cX3_checkPlace 11 = .ok (.new 187, 3) := by decide +kernel
theorem dX3_checkPlace_14 : decode cX3_checkPlace 14 = .ok (.dup, 1) := by decide +kernel
theorem dX3_checkPlace_15 : decode cX3_checkPlace 15 = .ok (.ldc 195, 2) := by decide +kernel
theorem dX3_checkPlace_17 : decode cX3_checkPlace 17 = .ok (.invokespecial 191, 3) := by decide +kernel
theorem dX3_checkPlace_20 : decode cX3_checkPlace 20 = .ok (.athrow, 1) := by decide +kernel
theorem dX3_checkPlace_21 : decode cX3_checkPlace 21 = .ok (.return_, 1) := by decide +kernel
theorem dX3_checkAccount_0 : decode cX3_checkAccount 0 = .ok (.iload_n 0, 1) := by decide +kernel
theorem dX3_checkAccount_1 : decode cX3_checkAccount 1 = .ok (.ifCond .lt 8, 3) := by decide +kernel
theorem dX3_checkAccount_4 : decode cX3_checkAccount 4 = .ok (.iload_n 0, 1) := by decide +kernel
theorem dX3_checkAccount_5 : decode cX3_checkAccount 5 = .ok (.iconst 3, 1) := by decide +kernel
theorem dX3_checkAccount_6 : decode cX3_checkAccount 6 = .ok (.if_icmp .le 13, 3) := by decide +kernel
theorem dX3_checkAccount_9 : decode cX3_checkAccount 9 = .ok (.new 187, 3) := by decide +kernel
theorem dX3_checkAccount_12 : decode cX3_checkAccount 12 = .ok (.dup, 1) := by decide +kernel
theorem dX3_checkAccount_13 : decode cX3_checkAccount 13 = .ok (.ldc 197, 2) := by decide +kernel
theorem dX3_checkAccount_15 : decode cX3_checkAccount 15 = .ok (.invokespecial 191, 3) := by decide +kernel
theorem dX3_checkAccount_18 : decode cX3_checkAccount 18 = .ok (.athrow, 1) := by decide +kernel
theorem dX3_checkAccount_19 : decode cX3_checkAccount 19 = .ok (.return_, 1) := by decide +kernel
theorem dX3_checkCellAccount_0 : decode cX3_checkCellAccount 0 = .ok (.iload_n 0, 1) := by decide +kernel
theorem dX3_checkCellAccount_1 : decode cX3_checkCellAccount 1 = .ok (.ifCond .lt 8, 3) := by decide +kernel
theorem dX3_checkCellAccount_4 : decode cX3_checkCellAccount 4 = .ok (.iload_n 0, 1) := by decide +kernel
theorem dX3_checkCellAccount_5 : decode cX3_checkCellAccount 5 = .ok (.iconst 3, 1) := by decide +kernel
theorem dX3_checkCellAccount_6 : decode cX3_checkCellAccount 6 = .ok (.if_icmp .lt 13, 3) := by decide +kernel
theorem dX3_checkCellAccount_9 : decode cX3_checkCellAccount 9 = .ok (.new 187, 3) := by decide +kernel
theorem dX3_checkCellAccount_12 : decode cX3_checkCellAccount 12 = .ok (.dup, 1) := by decide +kernel
theorem dX3_checkCellAccount_13 : decode cX3_checkCellAccount 13 = .ok (.ldc 199, 2) := by decide +kernel
theorem dX3_checkCellAccount_15 : decode cX3_checkCellAccount 15 = .ok (.invokespecial 191, 3) := by decide +kernel
theorem dX3_checkCellAccount_18 : decode cX3_checkCellAccount 18 = .ok (.athrow, 1) := by decide +kernel
theorem dX3_checkCellAccount_19 : decode cX3_checkCellAccount 19 = .ok (.return_, 1) := by decide +kernel
theorem dX3_checkMonth_0 : decode cX3_checkMonth 0 = .ok (.iload_n 0, 1) := by decide +kernel
theorem dX3_checkMonth_1 : decode cX3_checkMonth 1 = .ok (.ifCond .lt 9, 3) := by decide +kernel
theorem dX3_checkMonth_4 : decode cX3_checkMonth 4 = .ok (.iload_n 0, 1) := by decide +kernel
theorem dX3_checkMonth_5 : decode cX3_checkMonth 5 = .ok (.bipush 12, 2) := by decide +kernel
theorem dX3_checkMonth_7 : decode cX3_checkMonth 7 = .ok (.if_icmp .lt 13, 3) := by decide +kernel
theorem dX3_checkMonth_10 : decode cX3_checkMonth 10 = .ok (.new 187, 3) := by decide +kernel
theorem dX3_checkMonth_13 : decode cX3_checkMonth 13 = .ok (.dup, 1) := by decide +kernel
theorem dX3_checkMonth_14 : decode cX3_checkMonth 14 = .ok (.ldc 201, 2) := by decide +kernel
theorem dX3_checkMonth_16 : decode cX3_checkMonth 16 = .ok (.invokespecial 191, 3) := by decide +kernel
theorem dX3_checkMonth_19 : decode cX3_checkMonth 19 = .ok (.athrow, 1) := by decide +kernel
theorem dX3_checkMonth_20 : decode cX3_checkMonth 20 = .ok (.return_, 1) := by decide +kernel
theorem dX3_checkUpTo_0 : decode cX3_checkUpTo 0 = .ok (.iload_n 0, 1) := by decide +kernel
theorem dX3_checkUpTo_1 : decode cX3_checkUpTo 1 = .ok (.ifCond .lt 8, 3) := by decide +kernel
theorem dX3_checkUpTo_4 : decode cX3_checkUpTo 4 = .ok (.iload_n 0, 1) := by decide +kernel
theorem dX3_checkUpTo_5 : decode cX3_checkUpTo 5 = .ok (.iload_n 1, 1) := by decide +kernel
theorem dX3_checkUpTo_6 : decode cX3_checkUpTo 6 = .ok (.if_icmp .le 13, 3) := by decide +kernel
theorem dX3_checkUpTo_9 : decode cX3_checkUpTo 9 = .ok (.new 131, 3) := by decide +kernel
theorem dX3_checkUpTo_12 : decode cX3_checkUpTo 12 = .ok (.dup, 1) := by decide +kernel
theorem dX3_checkUpTo_13 : decode cX3_checkUpTo 13 = .ok (.ldc 203, 2) := by decide +kernel
theorem dX3_checkUpTo_15 : decode cX3_checkUpTo 15 = .ok (.invokespecial 135, 3) := by decide +kernel
theorem dX3_checkUpTo_18 : decode cX3_checkUpTo 18 = .ok (.athrow, 1) := by decide +kernel
theorem dX3_checkUpTo_19 : decode cX3_checkUpTo 19 = .ok (.return_, 1) := by decide +kernel
theorem dX3_checkLeaf_0 : decode cX3_checkLeaf 0 = .ok (.aload_n 0, 1) := by decide +kernel
theorem dX3_checkLeaf_1 : decode cX3_checkLeaf 1 = .ok (.getfield 12, 3) := by decide +kernel
theorem dX3_checkLeaf_4 : decode cX3_checkLeaf 4 = .ok (.iload_n 1, 1) := by decide +kernel
theorem dX3_checkLeaf_5 : decode cX3_checkLeaf 5 = .ok (.invokevirtual 63, 3) := by decide +kernel
theorem dX3_checkLeaf_8 : decode cX3_checkLeaf 8 = .ok (.ifCond .ne 13, 3) := by decide +kernel
theorem dX3_checkLeaf_11 : decode cX3_checkLeaf 11 = .ok (.new 56, 3) := by decide +kernel
theorem dX3_checkLeaf_14 : decode cX3_checkLeaf 14 = .ok (.dup, 1) := by decide +kernel
theorem dX3_checkLeaf_15 : decode cX3_checkLeaf 15 = .ok (.ldc 205, 2) := by decide +kernel
theorem dX3_checkLeaf_17 : decode cX3_checkLeaf 17 = .ok (.invokespecial 60, 3) := by decide +kernel
theorem dX3_checkLeaf_20 : decode cX3_checkLeaf 20 = .ok (.athrow, 1) := by decide +kernel
theorem dX3_checkLeaf_21 : decode cX3_checkLeaf 21 = .ok (.return_, 1) := by decide +kernel
theorem dX3_mostOf_0 : decode cX3_mostOf 0 = .ok (.iload_n 0, 1) := by decide +kernel
theorem dX3_mostOf_1 : decode cX3_mostOf 1 = .ok (.iconst 2, 1) := by decide +kernel
theorem dX3_mostOf_2 : decode cX3_mostOf 2 = .ok (.if_icmp .ne 8, 3) := by decide +kernel
theorem dX3_mostOf_5 : decode cX3_mostOf 5 = .ok (.ldc 112, 2) := by decide +kernel
theorem dX3_mostOf_7 : decode cX3_mostOf 7 = .ok (.goto 6, 3) := by decide +kernel
theorem dX3_mostOf_10 : decode cX3_mostOf 10 = .ok (.sipush 1000, 3) := by decide +kernel
theorem dX3_mostOf_13 : decode cX3_mostOf 13 = .ok (.ireturn, 1) := by decide +kernel
theorem dX3_isIn_0 : decode cX3_isIn 0 = .ok (.iload_n 0, 1) := by decide +kernel
theorem dX3_isIn_1 : decode cX3_isIn 1 = .ok (.iload_n 1, 1) := by decide +kernel
theorem dX3_isIn_2 : decode cX3_isIn 2 = .ok (.ishr, 1) := by decide +kernel
theorem dX3_isIn_3 : decode cX3_isIn 3 = .ok (.iconst 1, 1) := by decide +kernel
theorem dX3_isIn_4 : decode cX3_isIn 4 = .ok (.iand, 1) := by decide +kernel
theorem dX3_isIn_5 : decode cX3_isIn 5 = .ok (.ifCond .eq 7, 3) := by decide +kernel
theorem dX3_isIn_8 : decode cX3_isIn 8 = .ok (.iconst 1, 1) := by decide +kernel
theorem dX3_isIn_9 : decode cX3_isIn 9 = .ok (.goto 4, 3) := by decide +kernel
theorem dX3_isIn_12 : decode cX3_isIn 12 = .ok (.iconst 0, 1) := by decide +kernel
theorem dX3_isIn_13 : decode cX3_isIn 13 = .ok (.ireturn, 1) := by decide +kernel
theorem dJ6_bitCount_0f7a4_0 : decode cJ6_bitCount_0f7a4 0 = .ok (.iload_n 0, 1) := by decide +kernel
theorem dJ6_bitCount_0f7a4_1 : decode cJ6_bitCount_0f7a4 1 = .ok (.iload_n 0, 1) := by decide +kernel
theorem dJ6_bitCount_0f7a4_2 : decode cJ6_bitCount_0f7a4 2 = .ok (.iconst 1, 1) := by decide +kernel
theorem dJ6_bitCount_0f7a4_3 : decode cJ6_bitCount_0f7a4 3 = .ok (.iushr, 1) := by decide +kernel
theorem dJ6_bitCount_0f7a4_4 : decode cJ6_bitCount_0f7a4 4 = .ok (.ldc_w 265, 3) := by decide +kernel
theorem dJ6_bitCount_0f7a4_7 : decode cJ6_bitCount_0f7a4 7 = .ok (.iand, 1) := by decide +kernel
theorem dJ6_bitCount_0f7a4_8 : decode cJ6_bitCount_0f7a4 8 = .ok (.isub, 1) := by decide +kernel
theorem dJ6_bitCount_0f7a4_9 : decode cJ6_bitCount_0f7a4 9 = .ok (.istore_n 0, 1) := by decide +kernel
theorem dJ6_bitCount_0f7a4_10 : decode cJ6_bitCount_0f7a4 10 = .ok (.iload_n 0, 1) := by decide +kernel
theorem dJ6_bitCount_0f7a4_11 : decode cJ6_bitCount_0f7a4 11 = .ok (.ldc_w 266, 3) := by decide +kernel
theorem dJ6_bitCount_0f7a4_14 : decode cJ6_bitCount_0f7a4 14 = .ok (.iand, 1) := by decide +kernel
theorem dJ6_bitCount_0f7a4_15 : decode cJ6_bitCount_0f7a4 15 = .ok (.iload_n 0, 1) := by decide +kernel
theorem dJ6_bitCount_0f7a4_16 : decode cJ6_bitCount_0f7a4 16 = .ok (.iconst 2, 1) := by decide +kernel
theorem dJ6_bitCount_0f7a4_17 : decode cJ6_bitCount_0f7a4 17 = .ok (.iushr, 1) := by decide +kernel
theorem dJ6_bitCount_0f7a4_18 : decode cJ6_bitCount_0f7a4 18 = .ok (.ldc_w 266, 3) := by decide +kernel
theorem dJ6_bitCount_0f7a4_21 : decode cJ6_bitCount_0f7a4 21 = .ok (.iand, 1) := by decide +kernel
theorem dJ6_bitCount_0f7a4_22 : decode cJ6_bitCount_0f7a4 22 = .ok (.iadd, 1) := by decide +kernel
theorem dJ6_bitCount_0f7a4_23 : decode cJ6_bitCount_0f7a4 23 = .ok (.istore_n 0, 1) := by decide +kernel
theorem dJ6_bitCount_0f7a4_24 : decode cJ6_bitCount_0f7a4 24 = .ok (.iload_n 0, 1) := by decide +kernel
theorem dJ6_bitCount_0f7a4_25 : decode cJ6_bitCount_0f7a4 25 = .ok (.iload_n 0, 1) := by decide +kernel
theorem dJ6_bitCount_0f7a4_26 : decode cJ6_bitCount_0f7a4 26 = .ok (.iconst 4, 1) := by decide +kernel
theorem dJ6_bitCount_0f7a4_27 : decode cJ6_bitCount_0f7a4 27 = .ok (.iushr, 1) := by decide +kernel
theorem dJ6_bitCount_0f7a4_28 : decode cJ6_bitCount_0f7a4 28 = .ok (.iadd, 1) := by decide +kernel
theorem dJ6_bitCount_0f7a4_29 : decode cJ6_bitCount_0f7a4 29 = .ok (.ldc_w 267, 3) := by decide +kernel
theorem dJ6_bitCount_0f7a4_32 : decode cJ6_bitCount_0f7a4 32 = .ok (.iand, 1) := by decide +kernel
theorem dJ6_bitCount_0f7a4_33 : decode cJ6_bitCount_0f7a4 33 = .ok (.istore_n 0, 1) := by decide +kernel
theorem dJ6_bitCount_0f7a4_34 : decode cJ6_bitCount_0f7a4 34 = .ok (.iload_n 0, 1) := by decide +kernel
theorem dJ6_bitCount_0f7a4_35 : decode cJ6_bitCount_0f7a4 35 = .ok (.iload_n 0, 1) := by decide +kernel
theorem dJ6_bitCount_0f7a4_36 : decode cJ6_bitCount_0f7a4 36 = .ok (.bipush 8, 2) := by decide +kernel
theorem dJ6_bitCount_0f7a4_38 : decode cJ6_bitCount_0f7a4 38 = .ok (.iushr, 1) := by decide +kernel
theorem dJ6_bitCount_0f7a4_39 : decode cJ6_bitCount_0f7a4 39 = .ok (.iadd, 1) := by decide +kernel
theorem dJ6_bitCount_0f7a4_40 : decode cJ6_bitCount_0f7a4 40 = .ok (.istore_n 0, 1) := by decide +kernel
theorem dJ6_bitCount_0f7a4_41 : decode cJ6_bitCount_0f7a4 41 = .ok (.iload_n 0, 1) := by decide +kernel
theorem dJ6_bitCount_0f7a4_42 : decode cJ6_bitCount_0f7a4 42 = .ok (.iload_n 0, 1) := by decide +kernel
theorem dJ6_bitCount_0f7a4_43 : decode cJ6_bitCount_0f7a4 43 = .ok (.bipush 16, 2) := by decide +kernel
theorem dJ6_bitCount_0f7a4_45 : decode cJ6_bitCount_0f7a4 45 = .ok (.iushr, 1) := by decide +kernel
theorem dJ6_bitCount_0f7a4_46 : decode cJ6_bitCount_0f7a4 46 = .ok (.iadd, 1) := by decide +kernel
theorem dJ6_bitCount_0f7a4_47 : decode cJ6_bitCount_0f7a4 47 = .ok (.istore_n 0, 1) := by decide +kernel
theorem dJ6_bitCount_0f7a4_48 : decode cJ6_bitCount_0f7a4 48 = .ok (.iload_n 0, 1) := by decide +kernel
theorem dJ6_bitCount_0f7a4_49 : decode cJ6_bitCount_0f7a4 49 = .ok (.bipush 63, 2) := by decide +kernel
theorem dJ6_bitCount_0f7a4_51 : decode cJ6_bitCount_0f7a4 51 = .ok (.iand, 1) := by decide +kernel
theorem dJ6_bitCount_0f7a4_52 : decode cJ6_bitCount_0f7a4 52 = .ok (.ireturn, 1) := by decide +kernel
end
section
theorem dL_low_0 : decode cL_low 0 = .ok (.iload_n 0, 1) := by decide +kernel
theorem dL_low_1 : decode cL_low 1 = .ok (.ldc 7, 2) := by decide +kernel
theorem dL_low_3 : decode cL_low 3 = .ok (.iand, 1) := by decide +kernel
theorem dL_low_4 : decode cL_low 4 = .ok (.iload_n 1, 1) := by decide +kernel
theorem dL_low_5 : decode cL_low 5 = .ok (.irem, 1) := by decide +kernel
theorem dL_low_6 : decode cL_low 6 = .ok (.ireturn, 1) := by decide +kernel
theorem dL_cell_0 : decode cL_cell 0 = .ok (.iload_n 1, 1) := by decide +kernel
theorem dL_cell_1 : decode cL_cell 1 = .ok (.aload_n 0, 1) := by decide +kernel
theorem dL_cell_2 : decode cL_cell 2 = .ok (.arraylength, 1) := by decide +kernel
theorem dL_cell_3 : decode cL_cell 3 = .ok (.if_icmp .ge 9, 3) := by decide +kernel
theorem dL_cell_6 : decode cL_cell 6 = .ok (.aload_n 0, 1) := by decide +kernel
theorem dL_cell_7 : decode cL_cell 7 = .ok (.iload_n 1, 1) := by decide +kernel
theorem dL_cell_8 : decode cL_cell 8 = .ok (.iaload, 1) := by decide +kernel
theorem dL_cell_9 : decode cL_cell 9 = .ok (.goto 11, 3) := by decide +kernel
theorem dL_cell_12 : decode cL_cell 12 = .ok (.ldc 8, 2) := by decide +kernel
theorem dL_cell_14 : decode cL_cell 14 = .ok (.iload_n 1, 1) := by decide +kernel
theorem dL_cell_15 : decode cL_cell 15 = .ok (.imul, 1) := by decide +kernel
theorem dL_cell_16 : decode cL_cell 16 = .ok (.sipush 977, 3) := by decide +kernel
theorem dL_cell_19 : decode cL_cell 19 = .ok (.iadd, 1) := by decide +kernel
theorem dL_cell_20 : decode cL_cell 20 = .ok (.ireturn, 1) := by decide +kernel
theorem dL_add_0 : decode cL_add 0 = .ok (.aload_n 0, 1) := by decide +kernel
theorem dL_add_1 : decode cL_add 1 = .ok (.iload_n 1, 1) := by decide +kernel
theorem dL_add_2 : decode cL_add 2 = .ok (.invokevirtual 9, 3) := by decide +kernel
theorem dL_add_5 : decode cL_add 5 = .ok (.ireturn, 1) := by decide +kernel
theorem dL_add_6 : decode cL_add 6 = .ok (.astore_n 2, 1) := by decide +kernel
theorem dL_add_7 : decode cL_add 7 = .ok (.bipush (-3), 2) := by decide +kernel
theorem dL_add_9 : decode cL_add 9 = .ok (.ireturn, 1) := by decide +kernel
theorem dL_set_0 : decode cL_set 0 = .ok (.aload_n 0, 1) := by decide +kernel
theorem dL_set_1 : decode cL_set 1 = .ok (.iload_n 1, 1) := by decide +kernel
theorem dL_set_2 : decode cL_set 2 = .ok (.iload_n 2, 1) := by decide +kernel
theorem dL_set_3 : decode cL_set 3 = .ok (.iload_n 3, 1) := by decide +kernel
theorem dL_set_4 : decode cL_set 4 = .ok (.iload 4, 2) := by decide +kernel
theorem dL_set_6 : decode cL_set 6 = .ok (.iload 5, 2) := by decide +kernel
theorem dL_set_8 : decode cL_set 8 = .ok (.invokevirtual 17, 3) := by decide +kernel
theorem dL_set_11 : decode cL_set 11 = .ok (.ireturn, 1) := by decide +kernel
theorem dL_set_12 : decode cL_set 12 = .ok (.astore 6, 2) := by decide +kernel
theorem dL_set_14 : decode cL_set 14 = .ok (.bipush (-3), 2) := by decide +kernel
theorem dL_set_16 : decode cL_set 16 = .ok (.ireturn, 1) := by decide +kernel
theorem dL_spread_0 : decode cL_spread 0 = .ok (.aload_n 0, 1) := by decide +kernel
theorem dL_spread_1 : decode cL_spread 1 = .ok (.iload_n 1, 1) := by decide +kernel
theorem dL_spread_2 : decode cL_spread 2 = .ok (.iload_n 2, 1) := by decide +kernel
theorem dL_spread_3 : decode cL_spread 3 = .ok (.iload_n 3, 1) := by decide +kernel
theorem dL_spread_4 : decode cL_spread 4 = .ok (.iload 4, 2) := by decide +kernel
theorem dL_spread_6 : decode cL_spread 6 = .ok (.iload 5, 2) := by decide +kernel
theorem dL_spread_8 : decode cL_spread 8 = .ok (.invokevirtual 21, 3) := by decide +kernel
theorem dL_spread_11 : decode cL_spread 11 = .ok (.ireturn, 1) := by decide +kernel
theorem dL_spread_12 : decode cL_spread 12 = .ok (.astore 6, 2) := by decide +kernel
theorem dL_spread_14 : decode cL_spread 14 = .ok (.bipush (-3), 2) := by decide +kernel
theorem dL_spread_16 : decode cL_spread 16 = .ok (.ireturn, 1) := by decide +kernel
theorem dL_spreadYear_0 : decode cL_spreadYear 0 = .ok (.aload_n 0, 1) := by decide +kernel
theorem dL_spreadYear_1 : decode cL_spreadYear 1 = .ok (.iload_n 1, 1) := by decide +kernel
theorem dL_spreadYear_2 : decode cL_spreadYear 2 = .ok (.iload_n 2, 1) := by decide +kernel
theorem dL_spreadYear_3 : decode cL_spreadYear 3 = .ok (.iload_n 3, 1) := by decide +kernel
theorem dL_spreadYear_4 : decode cL_spreadYear 4 = .ok (.invokevirtual 24, 3) := by decide +kernel
theorem dL_spreadYear_7 : decode cL_spreadYear 7 = .ok (.ireturn, 1) := by decide +kernel
theorem dL_spreadYear_8 : decode cL_spreadYear 8 = .ok (.astore 4, 2) := by decide +kernel
theorem dL_spreadYear_10 : decode cL_spreadYear 10 = .ok (.bipush (-3), 2) := by decide +kernel
theorem dL_spreadYear_12 : decode cL_spreadYear 12 = .ok (.ireturn, 1) := by decide +kernel
theorem dL_copy_0 : decode cL_copy 0 = .ok (.aload_n 0, 1) := by decide +kernel
theorem dL_copy_1 : decode cL_copy 1 = .ok (.iload_n 1, 1) := by decide +kernel
theorem dL_copy_2 : decode cL_copy 2 = .ok (.iload_n 2, 1) := by decide +kernel
theorem dL_copy_3 : decode cL_copy 3 = .ok (.invokevirtual 28, 3) := by decide +kernel
theorem dL_copy_6 : decode cL_copy 6 = .ok (.ireturn, 1) := by decide +kernel
theorem dL_copy_7 : decode cL_copy 7 = .ok (.astore_n 3, 1) := by decide +kernel
theorem dL_copy_8 : decode cL_copy 8 = .ok (.bipush (-3), 2) := by decide +kernel
theorem dL_copy_10 : decode cL_copy 10 = .ok (.ireturn, 1) := by decide +kernel
theorem dL_see_0 : decode cL_see 0 = .ok (.aload_n 0, 1) := by decide +kernel
theorem dL_see_1 : decode cL_see 1 = .ok (.iload_n 1, 1) := by decide +kernel
theorem dL_see_2 : decode cL_see 2 = .ok (.iload_n 2, 1) := by decide +kernel
theorem dL_see_3 : decode cL_see 3 = .ok (.iload_n 3, 1) := by decide +kernel
theorem dL_see_4 : decode cL_see 4 = .ok (.iload 4, 2) := by decide +kernel
theorem dL_see_6 : decode cL_see 6 = .ok (.invokevirtual 32, 3) := by decide +kernel
theorem dL_see_9 : decode cL_see 9 = .ok (.ireturn, 1) := by decide +kernel
theorem dL_see_10 : decode cL_see 10 = .ok (.astore 5, 2) := by decide +kernel
theorem dL_see_12 : decode cL_see 12 = .ok (.bipush (-3), 2) := by decide +kernel
theorem dL_see_14 : decode cL_see 14 = .ok (.ireturn, 1) := by decide +kernel
theorem dL_holds_0 : decode cL_holds 0 = .ok (.aload_n 0, 1) := by decide +kernel
theorem dL_holds_1 : decode cL_holds 1 = .ok (.invokevirtual 36, 3) := by decide +kernel
theorem dL_holds_4 : decode cL_holds 4 = .ok (.ifCond .lt 15, 3) := by decide +kernel
theorem dL_holds_7 : decode cL_holds 7 = .ok (.aload_n 0, 1) := by decide +kernel
theorem dL_holds_8 : decode cL_holds 8 = .ok (.iload_n 3, 1) := by decide +kernel
theorem dL_holds_9 : decode cL_holds 9 = .ok (.invokevirtual 40, 3) := by decide +kernel
theorem dL_holds_12 : decode cL_holds 12 = .ok (.ifCond .eq 7, 3) := by decide +kernel
theorem dL_holds_15 : decode cL_holds 15 = .ok (.iconst 1, 1) := by decide +kernel
theorem dL_holds_16 : decode cL_holds 16 = .ok (.goto 4, 3) := by decide +kernel
theorem dL_holds_19 : decode cL_holds 19 = .ok (.iconst 0, 1) := by decide +kernel
theorem dL_holds_20 : decode cL_holds 20 = .ok (.istore 4, 2) := by decide +kernel
theorem dL_holds_22 : decode cL_holds 22 = .ok (.iconst 0, 1) := by decide +kernel
theorem dL_holds_23 : decode cL_holds 23 = .ok (.istore 5, 2) := by decide +kernel
theorem dL_holds_25 : decode cL_holds 25 = .ok (.iload 5, 2) := by decide +kernel
theorem dL_holds_27 : decode cL_holds 27 = .ok (.iconst 4, 1) := by decide +kernel
theorem dL_holds_28 : decode cL_holds 28 = .ok (.if_icmp .ge 59, 3) := by decide +kernel
theorem dL_holds_31 : decode cL_holds 31 = .ok (.iload 4, 2) := by decide +kernel
theorem dL_holds_33 : decode cL_holds 33 = .ok (.ifCond .eq 54, 3) := by decide +kernel
theorem dL_holds_36 : decode cL_holds 36 = .ok (.aload_n 0, 1) := by decide +kernel
theorem dL_holds_37 : decode cL_holds 37 = .ok (.iload_n 1, 1) := by decide +kernel
theorem dL_holds_38 : decode cL_holds 38 = .ok (.iload_n 3, 1) := by decide +kernel
theorem dL_holds_39 : decode cL_holds 39 = .ok (.iload 5, 2) := by decide +kernel
theorem dL_holds_41 : decode cL_holds 41 = .ok (.invokevirtual 43, 3) := by decide +kernel
theorem dL_holds_44 : decode cL_holds 44 = .ok (.aload_n 0, 1) := by decide +kernel
theorem dL_holds_45 : decode cL_holds 45 = .ok (.iload_n 1, 1) := by decide +kernel
theorem dL_holds_46 : decode cL_holds 46 = .ok (.iload_n 3, 1) := by decide +kernel
theorem dL_holds_47 : decode cL_holds 47 = .ok (.iload 5, 2) := by decide +kernel
theorem dL_holds_49 : decode cL_holds 49 = .ok (.invokevirtual 46, 3) := by decide +kernel
theorem dL_holds_52 : decode cL_holds 52 = .ok (.if_icmp .ne 26, 3) := by decide +kernel
theorem dL_holds_55 : decode cL_holds 55 = .ok (.aload_n 0, 1) := by decide +kernel
theorem dL_holds_56 : decode cL_holds 56 = .ok (.iload_n 1, 1) := by decide +kernel
theorem dL_holds_57 : decode cL_holds 57 = .ok (.iload_n 3, 1) := by decide +kernel
theorem dL_holds_58 : decode cL_holds 58 = .ok (.iload 5, 2) := by decide +kernel
theorem dL_holds_60 : decode cL_holds 60 = .ok (.invokevirtual 43, 3) := by decide +kernel
theorem dL_holds_63 : decode cL_holds 63 = .ok (.aload_n 0, 1) := by decide +kernel
theorem dL_holds_64 : decode cL_holds 64 = .ok (.iload_n 1, 1) := by decide +kernel
theorem dL_holds_65 : decode cL_holds 65 = .ok (.iconst 0, 1) := by decide +kernel
theorem dL_holds_66 : decode cL_holds 66 = .ok (.iload 5, 2) := by decide +kernel
theorem dL_holds_68 : decode cL_holds 68 = .ok (.invokevirtual 43, 3) := by decide +kernel
theorem dL_holds_71 : decode cL_holds 71 = .ok (.if_icmp .gt 7, 3) := by decide +kernel
theorem dL_holds_74 : decode cL_holds 74 = .ok (.iconst 1, 1) := by decide +kernel
theorem dL_holds_75 : decode cL_holds 75 = .ok (.goto 4, 3) := by decide +kernel
theorem dL_holds_78 : decode cL_holds 78 = .ok (.iconst 0, 1) := by decide +kernel
theorem dL_holds_79 : decode cL_holds 79 = .ok (.istore 4, 2) := by decide +kernel
theorem dL_holds_81 : decode cL_holds 81 = .ok (.iinc 5 1, 3) := by decide +kernel
theorem dL_holds_84 : decode cL_holds 84 = .ok (.goto (-59), 3) := by decide +kernel
theorem dL_holds_87 : decode cL_holds 87 = .ok (.aload_n 0, 1) := by decide +kernel
theorem dL_holds_88 : decode cL_holds 88 = .ok (.iload_n 1, 1) := by decide +kernel
theorem dL_holds_89 : decode cL_holds 89 = .ok (.iload_n 2, 1) := by decide +kernel
theorem dL_holds_90 : decode cL_holds 90 = .ok (.iload_n 3, 1) := by decide +kernel
theorem dL_holds_91 : decode cL_holds 91 = .ok (.iconst 0, 1) := by decide +kernel
theorem dL_holds_92 : decode cL_holds 92 = .ok (.invokevirtual 49, 3) := by decide +kernel
theorem dL_holds_95 : decode cL_holds 95 = .ok (.istore 5, 2) := by decide +kernel
theorem dL_holds_97 : decode cL_holds 97 = .ok (.iload 4, 2) := by decide +kernel
theorem dL_holds_99 : decode cL_holds 99 = .ok (.ifCond .eq 38, 3) := by decide +kernel
theorem dL_holds_102 : decode cL_holds 102 = .ok (.iload 5, 2) := by decide +kernel
theorem dL_holds_104 : decode cL_holds 104 = .ok (.aload_n 0, 1) := by decide +kernel
theorem dL_holds_105 : decode cL_holds 105 = .ok (.iload_n 1, 1) := by decide +kernel
theorem dL_holds_106 : decode cL_holds 106 = .ok (.iload_n 2, 1) := by decide +kernel
theorem dL_holds_107 : decode cL_holds 107 = .ok (.iload_n 3, 1) := by decide +kernel
theorem dL_holds_108 : decode cL_holds 108 = .ok (.iconst 1, 1) := by decide +kernel
theorem dL_holds_109 : decode cL_holds 109 = .ok (.invokevirtual 49, 3) := by decide +kernel
theorem dL_holds_112 : decode cL_holds 112 = .ok (.aload_n 0, 1) := by decide +kernel
theorem dL_holds_113 : decode cL_holds 113 = .ok (.iload_n 1, 1) := by decide +kernel
theorem dL_holds_114 : decode cL_holds 114 = .ok (.iload_n 2, 1) := by decide +kernel
theorem dL_holds_115 : decode cL_holds 115 = .ok (.iload_n 3, 1) := by decide +kernel
theorem dL_holds_116 : decode cL_holds 116 = .ok (.iconst 2, 1) := by decide +kernel
theorem dL_holds_117 : decode cL_holds 117 = .ok (.invokevirtual 49, 3) := by decide +kernel
theorem dL_holds_120 : decode cL_holds 120 = .ok (.iadd, 1) := by decide +kernel
theorem dL_holds_121 : decode cL_holds 121 = .ok (.aload_n 0, 1) := by decide +kernel
theorem dL_holds_122 : decode cL_holds 122 = .ok (.iload_n 1, 1) := by decide +kernel
theorem dL_holds_123 : decode cL_holds 123 = .ok (.iload_n 2, 1) := by decide +kernel
theorem dL_holds_124 : decode cL_holds 124 = .ok (.iload_n 3, 1) := by decide +kernel
theorem dL_holds_125 : decode cL_holds 125 = .ok (.iconst 3, 1) := by decide +kernel
theorem dL_holds_126 : decode cL_holds 126 = .ok (.invokevirtual 49, 3) := by decide +kernel
theorem dL_holds_129 : decode cL_holds 129 = .ok (.iadd, 1) := by decide +kernel
theorem dL_holds_130 : decode cL_holds 130 = .ok (.if_icmp .ne 7, 3) := by decide +kernel
theorem dL_holds_133 : decode cL_holds 133 = .ok (.iconst 1, 1) := by decide +kernel
theorem dL_holds_134 : decode cL_holds 134 = .ok (.goto 4, 3) := by decide +kernel
theorem dL_holds_137 : decode cL_holds 137 = .ok (.iconst 0, 1) := by decide +kernel
theorem dL_holds_138 : decode cL_holds 138 = .ok (.istore 4, 2) := by decide +kernel
theorem dL_holds_140 : decode cL_holds 140 = .ok (.iload 4, 2) := by decide +kernel
theorem dL_holds_142 : decode cL_holds 142 = .ok (.ifCond .eq 38, 3) := by decide +kernel
theorem dL_holds_145 : decode cL_holds 145 = .ok (.iload 5, 2) := by decide +kernel
theorem dL_holds_147 : decode cL_holds 147 = .ok (.aload_n 0, 1) := by decide +kernel
theorem dL_holds_148 : decode cL_holds 148 = .ok (.iload_n 2, 1) := by decide +kernel
theorem dL_holds_149 : decode cL_holds 149 = .ok (.iload_n 3, 1) := by decide +kernel
theorem dL_holds_150 : decode cL_holds 150 = .ok (.iconst 3, 1) := by decide +kernel
theorem dL_holds_151 : decode cL_holds 151 = .ok (.invokevirtual 43, 3) := by decide +kernel
theorem dL_holds_154 : decode cL_holds 154 = .ok (.aload_n 0, 1) := by decide +kernel
theorem dL_holds_155 : decode cL_holds 155 = .ok (.iload_n 1, 1) := by decide +kernel
theorem dL_holds_156 : decode cL_holds 156 = .ok (.iload_n 3, 1) := by decide +kernel
theorem dL_holds_157 : decode cL_holds 157 = .ok (.iconst 3, 1) := by decide +kernel
theorem dL_holds_158 : decode cL_holds 158 = .ok (.invokevirtual 43, 3) := by decide +kernel
theorem dL_holds_161 : decode cL_holds 161 = .ok (.isub, 1) := by decide +kernel
theorem dL_holds_162 : decode cL_holds 162 = .ok (.if_icmp .ne 18, 3) := by decide +kernel
theorem dL_holds_165 : decode cL_holds 165 = .ok (.aload_n 0, 1) := by decide +kernel
theorem dL_holds_166 : decode cL_holds 166 = .ok (.iload_n 1, 1) := by decide +kernel
theorem dL_holds_167 : decode cL_holds 167 = .ok (.iload_n 1, 1) := by decide +kernel
theorem dL_holds_168 : decode cL_holds 168 = .ok (.iload_n 3, 1) := by decide +kernel
theorem dL_holds_169 : decode cL_holds 169 = .ok (.iconst 0, 1) := by decide +kernel
theorem dL_holds_170 : decode cL_holds 170 = .ok (.invokevirtual 49, 3) := by decide +kernel
theorem dL_holds_173 : decode cL_holds 173 = .ok (.ifCond .ne 7, 3) := by decide +kernel
theorem dL_holds_176 : decode cL_holds 176 = .ok (.iconst 1, 1) := by decide +kernel
theorem dL_holds_177 : decode cL_holds 177 = .ok (.goto 4, 3) := by decide +kernel
theorem dL_holds_180 : decode cL_holds 180 = .ok (.iconst 0, 1) := by decide +kernel
theorem dL_holds_181 : decode cL_holds 181 = .ok (.ireturn, 1) := by decide +kernel
theorem dL_isLeaf_0 : decode cL_isLeaf 0 = .ok (.aload_n 0, 1) := by decide +kernel
theorem dL_isLeaf_1 : decode cL_isLeaf 1 = .ok (.iload_n 1, 1) := by decide +kernel
theorem dL_isLeaf_2 : decode cL_isLeaf 2 = .ok (.invokevirtual 40, 3) := by decide +kernel
theorem dL_isLeaf_5 : decode cL_isLeaf 5 = .ok (.iconst 1, 1) := by decide +kernel
theorem dL_isLeaf_6 : decode cL_isLeaf 6 = .ok (.iload_n 1, 1) := by decide +kernel
theorem dL_isLeaf_7 : decode cL_isLeaf 7 = .ok (.ishl, 1) := by decide +kernel
theorem dL_isLeaf_8 : decode cL_isLeaf 8 = .ok (.if_icmp .ne 7, 3) := by decide +kernel
theorem dL_isLeaf_11 : decode cL_isLeaf 11 = .ok (.iconst 1, 1) := by decide +kernel
theorem dL_isLeaf_12 : decode cL_isLeaf 12 = .ok (.goto 4, 3) := by decide +kernel
theorem dL_isLeaf_15 : decode cL_isLeaf 15 = .ok (.iconst 0, 1) := by decide +kernel
theorem dL_isLeaf_16 : decode cL_isLeaf 16 = .ok (.ireturn, 1) := by decide +kernel
theorem dL_law_0 : decode cL_law 0 = .ok (.new 10, 3) := by decide +kernel
theorem dL_law_3 : decode cL_law 3 = .ok (.dup, 1) := by decide +kernel
theorem dL_law_4 : decode cL_law 4 = .ok (.invokespecial 52, 3) := by decide +kernel
theorem dL_law_7 : decode cL_law 7 = .ok (.astore_n 1, 1) := by decide +kernel
theorem dL_law_8 : decode cL_law 8 = .ok (.iconst 0, 1) := by decide +kernel
theorem dL_law_9 : decode cL_law 9 = .ok (.istore_n 2, 1) := by decide +kernel
theorem dL_law_10 : decode cL_law 10 = .ok (.aload_n 1, 1) := by decide +kernel
theorem dL_law_11 : decode cL_law 11 = .ok (.invokevirtual 53, 3) := by decide +kernel
theorem dL_law_14 : decode cL_law 14 = .ok (.iconst 1, 1) := by decide +kernel
theorem dL_law_15 : decode cL_law 15 = .ok (.if_icmp .ne 33, 3) := by decide +kernel
theorem dL_law_18 : decode cL_law 18 = .ok (.aload_n 1, 1) := by decide +kernel
theorem dL_law_19 : decode cL_law 19 = .ok (.iconst 0, 1) := by decide +kernel
theorem dL_law_20 : decode cL_law 20 = .ok (.invokevirtual 40, 3) := by decide +kernel
theorem dL_law_23 : decode cL_law 23 = .ok (.iconst 1, 1) := by decide +kernel
theorem dL_law_24 : decode cL_law 24 = .ok (.if_icmp .ne 24, 3) := by decide +kernel
theorem dL_law_27 : decode cL_law 27 = .ok (.aload_n 1, 1) := by decide +kernel
theorem dL_law_28 : decode cL_law 28 = .ok (.invokevirtual 36, 3) := by decide +kernel
theorem dL_law_31 : decode cL_law 31 = .ok (.ifCond .ne 17, 3) := by decide +kernel
theorem dL_law_34 : decode cL_law 34 = .ok (.aload_n 1, 1) := by decide +kernel
theorem dL_law_35 : decode cL_law 35 = .ok (.iconst 0, 1) := by decide +kernel
theorem dL_law_36 : decode cL_law 36 = .ok (.iconst 1, 1) := by decide +kernel
theorem dL_law_37 : decode cL_law 37 = .ok (.iconst 0, 1) := by decide +kernel
theorem dL_law_38 : decode cL_law 38 = .ok (.invokestatic 56, 3) := by decide +kernel
theorem dL_law_41 : decode cL_law 41 = .ok (.ifCond .eq 7, 3) := by decide +kernel
theorem dL_law_44 : decode cL_law 44 = .ok (.iconst 1, 1) := by decide +kernel
theorem dL_law_45 : decode cL_law 45 = .ok (.goto 4, 3) := by decide +kernel
theorem dL_law_48 : decode cL_law 48 = .ok (.iconst 0, 1) := by decide +kernel
theorem dL_law_49 : decode cL_law 49 = .ok (.istore_n 3, 1) := by decide +kernel
theorem dL_law_50 : decode cL_law 50 = .ok (.bipush 6, 2) := by decide +kernel
theorem dL_law_52 : decode cL_law 52 = .ok (.aload_n 0, 1) := by decide +kernel
theorem dL_law_53 : decode cL_law 53 = .ok (.iconst 0, 1) := by decide +kernel
theorem dL_law_54 : decode cL_law 54 = .ok (.invokestatic 62, 3) := by decide +kernel
theorem dL_law_57 : decode cL_law 57 = .ok (.bipush 45, 2) := by decide +kernel
theorem dL_law_59 : decode cL_law 59 = .ok (.invokestatic 66, 3) := by decide +kernel
theorem dL_law_62 : decode cL_law 62 = .ok (.iadd, 1) := by decide +kernel
theorem dL_law_63 : decode cL_law 63 = .ok (.istore 4, 2) := by decide +kernel
theorem dL_law_65 : decode cL_law 65 = .ok (.iconst 0, 1) := by decide +kernel
theorem dL_law_66 : decode cL_law 66 = .ok (.istore 5, 2) := by decide +kernel
theorem dL_law_68 : decode cL_law 68 = .ok (.iload 5, 2) := by decide +kernel
theorem dL_law_70 : decode cL_law 70 = .ok (.iload 4, 2) := by decide +kernel
theorem dL_law_72 : decode cL_law 72 = .ok (.if_icmp .ge 957, 3) := by decide +kernel
theorem dL_law_75 : decode cL_law 75 = .ok (.iload_n 3, 1) := by decide +kernel
theorem dL_law_76 : decode cL_law 76 = .ok (.ifCond .eq 953, 3) := by decide +kernel
theorem dL_law_79 : decode cL_law 79 = .ok (.aload_n 0, 1) := by decide +kernel
theorem dL_law_80 : decode cL_law 80 = .ok (.iconst 1, 1) := by decide +kernel
theorem dL_law_81 : decode cL_law 81 = .ok (.iload 5, 2) := by decide +kernel
theorem dL_law_83 : decode cL_law 83 = .ok (.iadd, 1) := by decide +kernel
theorem dL_law_84 : decode cL_law 84 = .ok (.invokestatic 62, 3) := by decide +kernel
theorem dL_law_87 : decode cL_law 87 = .ok (.istore 6, 2) := by decide +kernel
theorem dL_law_89 : decode cL_law 89 = .ok (.iload 6, 2) := by decide +kernel
theorem dL_law_91 : decode cL_law 91 = .ok (.iconst 3, 1) := by decide +kernel
theorem dL_law_92 : decode cL_law 92 = .ok (.ishr, 1) := by decide +kernel
theorem dL_law_93 : decode cL_law 93 = .ok (.iconst 3, 1) := by decide +kernel
theorem dL_law_94 : decode cL_law 94 = .ok (.invokestatic 66, 3) := by decide +kernel
theorem dL_law_97 : decode cL_law 97 = .ok (.istore 7, 2) := by decide +kernel
theorem dL_law_99 : decode cL_law 99 = .ok (.iload 6, 2) := by decide +kernel
theorem dL_law_101 : decode cL_law 101 = .ok (.iconst 5, 1) := by decide +kernel
theorem dL_law_102 : decode cL_law 102 = .ok (.ishr, 1) := by decide +kernel
theorem dL_law_103 : decode cL_law 103 = .ok (.iconst 3, 1) := by decide +kernel
theorem dL_law_104 : decode cL_law 104 = .ok (.invokestatic 66, 3) := by decide +kernel
theorem dL_law_107 : decode cL_law 107 = .ok (.istore 8, 2) := by decide +kernel
theorem dL_law_109 : decode cL_law 109 = .ok (.iload 6, 2) := by decide +kernel
theorem dL_law_111 : decode cL_law 111 = .ok (.bipush 7, 2) := by decide +kernel
theorem dL_law_113 : decode cL_law 113 = .ok (.ishr, 1) := by decide +kernel
theorem dL_law_114 : decode cL_law 114 = .ok (.aload_n 1, 1) := by decide +kernel
theorem dL_law_115 : decode cL_law 115 = .ok (.invokevirtual 53, 3) := by decide +kernel
theorem dL_law_118 : decode cL_law 118 = .ok (.invokestatic 66, 3) := by decide +kernel
theorem dL_law_121 : decode cL_law 121 = .ok (.istore 9, 2) := by decide +kernel
theorem dL_law_123 : decode cL_law 123 = .ok (.iload 6, 2) := by decide +kernel
theorem dL_law_125 : decode cL_law 125 = .ok (.bipush 10, 2) := by decide +kernel
theorem dL_law_127 : decode cL_law 127 = .ok (.ishr, 1) := by decide +kernel
theorem dL_law_128 : decode cL_law 128 = .ok (.bipush 12, 2) := by decide +kernel
theorem dL_law_130 : decode cL_law 130 = .ok (.invokestatic 66, 3) := by decide +kernel
theorem dL_law_133 : decode cL_law 133 = .ok (.istore 10, 2) := by decide +kernel
theorem dL_law_135 : decode cL_law 135 = .ok (.iload 6, 2) := by decide +kernel
theorem dL_law_137 : decode cL_law 137 = .ok (.bipush 20, 2) := by decide +kernel
theorem dL_law_139 : decode cL_law 139 = .ok (.ishr, 1) := by decide +kernel
theorem dL_law_140 : decode cL_law 140 = .ok (.bipush 20, 2) := by decide +kernel
theorem dL_law_142 : decode cL_law 142 = .ok (.invokestatic 66, 3) := by decide +kernel
theorem dL_law_145 : decode cL_law 145 = .ok (.istore 11, 2) := by decide +kernel
theorem dL_law_147 : decode cL_law 147 = .ok (.iload 11, 2) := by decide +kernel
theorem dL_law_149 : decode cL_law 149 = .ok (.iconst 4, 1) := by decide +kernel
theorem dL_law_150 : decode cL_law 150 = .ok (.if_icmp .ge 100, 3) := by decide +kernel
theorem dL_law_153 : decode cL_law 153 = .ok (.aload_n 1, 1) := by decide +kernel
theorem dL_law_154 : decode cL_law 154 = .ok (.invokevirtual 53, 3) := by decide +kernel
theorem dL_law_157 : decode cL_law 157 = .ok (.istore 12, 2) := by decide +kernel
theorem dL_law_159 : decode cL_law 159 = .ok (.aload_n 1, 1) := by decide +kernel
theorem dL_law_160 : decode cL_law 160 = .ok (.iload 9, 2) := by decide +kernel
theorem dL_law_162 : decode cL_law 162 = .ok (.invokestatic 69, 3) := by decide +kernel
theorem dL_law_165 : decode cL_law 165 = .ok (.istore 13, 2) := by decide +kernel
theorem dL_law_167 : decode cL_law 167 = .ok (.aload_n 1, 1) := by decide +kernel
theorem dL_law_168 : decode cL_law 168 = .ok (.iload 9, 2) := by decide +kernel
theorem dL_law_170 : decode cL_law 170 = .ok (.invokestatic 73, 3) := by decide +kernel
theorem dL_law_173 : decode cL_law 173 = .ok (.istore 14, 2) := by decide +kernel
theorem dL_law_175 : decode cL_law 175 = .ok (.iload 14, 2) := by decide +kernel
theorem dL_law_177 : decode cL_law 177 = .ok (.bipush (-3), 2) := by decide +kernel
theorem dL_law_179 : decode cL_law 179 = .ok (.if_icmp .ne 23, 3) := by decide +kernel
theorem dL_law_182 : decode cL_law 182 = .ok (.iload 12, 2) := by decide +kernel
theorem dL_law_184 : decode cL_law 184 = .ok (.bipush 10, 2) := by decide +kernel
theorem dL_law_186 : decode cL_law 186 = .ok (.if_icmp .eq 8, 3) := by decide +kernel
theorem dL_law_189 : decode cL_law 189 = .ok (.iload 13, 2) := by decide +kernel
theorem dL_law_191 : decode cL_law 191 = .ok (.ifCond .eq 7, 3) := by decide +kernel
theorem dL_law_194 : decode cL_law 194 = .ok (.iconst 1, 1) := by decide +kernel
theorem dL_law_195 : decode cL_law 195 = .ok (.goto 51, 3) := by decide +kernel
theorem dL_law_198 : decode cL_law 198 = .ok (.iconst 0, 1) := by decide +kernel
theorem dL_law_199 : decode cL_law 199 = .ok (.goto 47, 3) := by decide +kernel
theorem dL_law_202 : decode cL_law 202 = .ok (.iload 14, 2) := by decide +kernel
theorem dL_law_204 : decode cL_law 204 = .ok (.iload 12, 2) := by decide +kernel
theorem dL_law_206 : decode cL_law 206 = .ok (.if_icmp .ne 39, 3) := by decide +kernel
theorem dL_law_209 : decode cL_law 209 = .ok (.aload_n 1, 1) := by decide +kernel
theorem dL_law_210 : decode cL_law 210 = .ok (.iload 14, 2) := by decide +kernel
theorem dL_law_212 : decode cL_law 212 = .ok (.invokestatic 69, 3) := by decide +kernel
theorem dL_law_215 : decode cL_law 215 = .ok (.ifCond .eq 30, 3) := by decide +kernel
theorem dL_law_218 : decode cL_law 218 = .ok (.aload_n 1, 1) := by decide +kernel
theorem dL_law_219 : decode cL_law 219 = .ok (.iload 9, 2) := by decide +kernel
theorem dL_law_221 : decode cL_law 221 = .ok (.invokestatic 69, 3) := by decide +kernel
theorem dL_law_224 : decode cL_law 224 = .ok (.ifCond .ne 21, 3) := by decide +kernel
theorem dL_law_227 : decode cL_law 227 = .ok (.aload_n 1, 1) := by decide +kernel
theorem dL_law_228 : decode cL_law 228 = .ok (.iload 7, 2) := by decide +kernel
theorem dL_law_230 : decode cL_law 230 = .ok (.iload 14, 2) := by decide +kernel
theorem dL_law_232 : decode cL_law 232 = .ok (.iconst 2, 1) := by decide +kernel
theorem dL_law_233 : decode cL_law 233 = .ok (.iload 10, 2) := by decide +kernel
theorem dL_law_235 : decode cL_law 235 = .ok (.invokevirtual 77, 3) := by decide +kernel
theorem dL_law_238 : decode cL_law 238 = .ok (.ifCond .ne 7, 3) := by decide +kernel
theorem dL_law_241 : decode cL_law 241 = .ok (.iconst 1, 1) := by decide +kernel
theorem dL_law_242 : decode cL_law 242 = .ok (.goto 4, 3) := by decide +kernel
theorem dL_law_245 : decode cL_law 245 = .ok (.iconst 0, 1) := by decide +kernel
theorem dL_law_246 : decode cL_law 246 = .ok (.istore_n 3, 1) := by decide +kernel
theorem dL_law_247 : decode cL_law 247 = .ok (.goto 722, 3) := by decide +kernel
theorem dL_law_250 : decode cL_law 250 = .ok (.iload 11, 2) := by decide +kernel
theorem dL_law_252 : decode cL_law 252 = .ok (.bipush 8, 2) := by decide +kernel
theorem dL_law_254 : decode cL_law 254 = .ok (.if_icmp .ge 92, 3) := by decide +kernel
theorem dL_law_257 : decode cL_law 257 = .ok (.iload 6, 2) := by decide +kernel
theorem dL_law_259 : decode cL_law 259 = .ok (.iconst 3, 1) := by decide +kernel
theorem dL_law_260 : decode cL_law 260 = .ok (.invokestatic 66, 3) := by decide +kernel
theorem dL_law_263 : decode cL_law 263 = .ok (.istore 12, 2) := by decide +kernel
theorem dL_law_265 : decode cL_law 265 = .ok (.iload 6, 2) := by decide +kernel
theorem dL_law_267 : decode cL_law 267 = .ok (.iconst 2, 1) := by decide +kernel
theorem dL_law_268 : decode cL_law 268 = .ok (.ishr, 1) := by decide +kernel
theorem dL_law_269 : decode cL_law 269 = .ok (.iload 12, 2) := by decide +kernel
theorem dL_law_271 : decode cL_law 271 = .ok (.iconst 2, 1) := by decide +kernel
theorem dL_law_272 : decode cL_law 272 = .ok (.if_icmp .ne 8, 3) := by decide +kernel
theorem dL_law_275 : decode cL_law 275 = .ok (.ldc 80, 2) := by decide +kernel
theorem dL_law_277 : decode cL_law 277 = .ok (.goto 6, 3) := by decide +kernel
theorem dL_law_280 : decode cL_law 280 = .ok (.sipush 1001, 3) := by decide +kernel
theorem dL_law_283 : decode cL_law 283 = .ok (.invokestatic 66, 3) := by decide +kernel
theorem dL_law_286 : decode cL_law 286 = .ok (.istore 13, 2) := by decide +kernel
theorem dL_law_288 : decode cL_law 288 = .ok (.aload_n 1, 1) := by decide +kernel
theorem dL_law_289 : decode cL_law 289 = .ok (.iload 7, 2) := by decide +kernel
theorem dL_law_291 : decode cL_law 291 = .ok (.iload 9, 2) := by decide +kernel
theorem dL_law_293 : decode cL_law 293 = .ok (.iload 12, 2) := by decide +kernel
theorem dL_law_295 : decode cL_law 295 = .ok (.iload 10, 2) := by decide +kernel
theorem dL_law_297 : decode cL_law 297 = .ok (.iload 13, 2) := by decide +kernel
theorem dL_law_299 : decode cL_law 299 = .ok (.invokestatic 81, 3) := by decide +kernel
theorem dL_law_302 : decode cL_law 302 = .ok (.istore 14, 2) := by decide +kernel
theorem dL_law_304 : decode cL_law 304 = .ok (.iload 14, 2) := by decide +kernel
theorem dL_law_306 : decode cL_law 306 = .ok (.bipush (-3), 2) := by decide +kernel
theorem dL_law_308 : decode cL_law 308 = .ok (.if_icmp .eq 29, 3) := by decide +kernel
theorem dL_law_311 : decode cL_law 311 = .ok (.aload_n 1, 1) := by decide +kernel
theorem dL_law_312 : decode cL_law 312 = .ok (.iload 9, 2) := by decide +kernel
theorem dL_law_314 : decode cL_law 314 = .ok (.invokestatic 69, 3) := by decide +kernel
theorem dL_law_317 : decode cL_law 317 = .ok (.ifCond .eq 24, 3) := by decide +kernel
theorem dL_law_320 : decode cL_law 320 = .ok (.aload_n 1, 1) := by decide +kernel
theorem dL_law_321 : decode cL_law 321 = .ok (.iload 7, 2) := by decide +kernel
theorem dL_law_323 : decode cL_law 323 = .ok (.iload 9, 2) := by decide +kernel
theorem dL_law_325 : decode cL_law 325 = .ok (.iload 12, 2) := by decide +kernel
theorem dL_law_327 : decode cL_law 327 = .ok (.iload 10, 2) := by decide +kernel
theorem dL_law_329 : decode cL_law 329 = .ok (.invokevirtual 77, 3) := by decide +kernel
theorem dL_law_332 : decode cL_law 332 = .ok (.iload 13, 2) := by decide +kernel
theorem dL_law_334 : decode cL_law 334 = .ok (.if_icmp .ne 7, 3) := by decide +kernel
theorem dL_law_337 : decode cL_law 337 = .ok (.iconst 1, 1) := by decide +kernel
theorem dL_law_338 : decode cL_law 338 = .ok (.goto 4, 3) := by decide +kernel
theorem dL_law_341 : decode cL_law 341 = .ok (.iconst 0, 1) := by decide +kernel
theorem dL_law_342 : decode cL_law 342 = .ok (.istore_n 3, 1) := by decide +kernel
theorem dL_law_343 : decode cL_law 343 = .ok (.goto 626, 3) := by decide +kernel
theorem dL_law_346 : decode cL_law 346 = .ok (.iload 11, 2) := by decide +kernel
theorem dL_law_348 : decode cL_law 348 = .ok (.bipush 10, 2) := by decide +kernel
theorem dL_law_350 : decode cL_law 350 = .ok (.if_icmp .ge 61, 3) := by decide +kernel
theorem dL_law_353 : decode cL_law 353 = .ok (.aload_n 1, 1) := by decide +kernel
theorem dL_law_354 : decode cL_law 354 = .ok (.iload 9, 2) := by decide +kernel
theorem dL_law_356 : decode cL_law 356 = .ok (.invokestatic 69, 3) := by decide +kernel
theorem dL_law_359 : decode cL_law 359 = .ok (.ifCond .eq 610, 3) := by decide +kernel
theorem dL_law_362 : decode cL_law 362 = .ok (.iload 6, 2) := by decide +kernel
theorem dL_law_364 : decode cL_law 364 = .ok (.iconst 2, 1) := by decide +kernel
theorem dL_law_365 : decode cL_law 365 = .ok (.invokestatic 66, 3) := by decide +kernel
theorem dL_law_368 : decode cL_law 368 = .ok (.ifCond .ne 7, 3) := by decide +kernel
theorem dL_law_371 : decode cL_law 371 = .ok (.iconst 1, 1) := by decide +kernel
theorem dL_law_372 : decode cL_law 372 = .ok (.goto 4, 3) := by decide +kernel
theorem dL_law_375 : decode cL_law 375 = .ok (.iconst 0, 1) := by decide +kernel
theorem dL_law_376 : decode cL_law 376 = .ok (.istore 12, 2) := by decide +kernel
theorem dL_law_378 : decode cL_law 378 = .ok (.aload_n 1, 1) := by decide +kernel
theorem dL_law_379 : decode cL_law 379 = .ok (.iload 9, 2) := by decide +kernel
theorem dL_law_381 : decode cL_law 381 = .ok (.iload 10, 2) := by decide +kernel
theorem dL_law_383 : decode cL_law 383 = .ok (.iload 12, 2) := by decide +kernel
theorem dL_law_385 : decode cL_law 385 = .ok (.invokevirtual 84, 3) := by decide +kernel
theorem dL_law_388 : decode cL_law 388 = .ok (.pop, 1) := by decide +kernel
theorem dL_law_389 : decode cL_law 389 = .ok (.aload_n 1, 1) := by decide +kernel
theorem dL_law_390 : decode cL_law 390 = .ok (.iload 9, 2) := by decide +kernel
theorem dL_law_392 : decode cL_law 392 = .ok (.iload 10, 2) := by decide +kernel
theorem dL_law_394 : decode cL_law 394 = .ok (.iload 12, 2) := by decide +kernel
theorem dL_law_396 : decode cL_law 396 = .ok (.invokevirtual 84, 3) := by decide +kernel
theorem dL_law_399 : decode cL_law 399 = .ok (.ifCond .ne 7, 3) := by decide +kernel
theorem dL_law_402 : decode cL_law 402 = .ok (.iconst 1, 1) := by decide +kernel
theorem dL_law_403 : decode cL_law 403 = .ok (.goto 4, 3) := by decide +kernel
theorem dL_law_406 : decode cL_law 406 = .ok (.iconst 0, 1) := by decide +kernel
theorem dL_law_407 : decode cL_law 407 = .ok (.istore_n 3, 1) := by decide +kernel
theorem dL_law_408 : decode cL_law 408 = .ok (.goto 561, 3) := by decide +kernel
theorem dL_law_411 : decode cL_law 411 = .ok (.iload 11, 2) := by decide +kernel
theorem dL_law_413 : decode cL_law 413 = .ok (.bipush 13, 2) := by decide +kernel
theorem dL_law_415 : decode cL_law 415 = .ok (.if_icmp .ge 144, 3) := by decide +kernel
theorem dL_law_418 : decode cL_law 418 = .ok (.iload 6, 2) := by decide +kernel
theorem dL_law_420 : decode cL_law 420 = .ok (.iload 6, 2) := by decide +kernel
theorem dL_law_422 : decode cL_law 422 = .ok (.bipush 17, 2) := by decide +kernel
theorem dL_law_424 : decode cL_law 424 = .ok (.ishr, 1) := by decide +kernel
theorem dL_law_425 : decode cL_law 425 = .ok (.iconst 2, 1) := by decide +kernel
theorem dL_law_426 : decode cL_law 426 = .ok (.invokestatic 66, 3) := by decide +kernel
theorem dL_law_429 : decode cL_law 429 = .ok (.ifCond .ne 8, 3) := by decide +kernel
theorem dL_law_432 : decode cL_law 432 = .ok (.ldc 80, 2) := by decide +kernel
theorem dL_law_434 : decode cL_law 434 = .ok (.goto 6, 3) := by decide +kernel
theorem dL_law_437 : decode cL_law 437 = .ok (.sipush 900, 3) := by decide +kernel
theorem dL_law_440 : decode cL_law 440 = .ok (.invokestatic 66, 3) := by decide +kernel
theorem dL_law_443 : decode cL_law 443 = .ok (.istore 12, 2) := by decide +kernel
theorem dL_law_445 : decode cL_law 445 = .ok (.aload_n 1, 1) := by decide +kernel
theorem dL_law_446 : decode cL_law 446 = .ok (.iload 7, 2) := by decide +kernel
theorem dL_law_448 : decode cL_law 448 = .ok (.iload 9, 2) := by decide +kernel
theorem dL_law_450 : decode cL_law 450 = .ok (.iconst 2, 1) := by decide +kernel
theorem dL_law_451 : decode cL_law 451 = .ok (.iload 10, 2) := by decide +kernel
theorem dL_law_453 : decode cL_law 453 = .ok (.invokevirtual 77, 3) := by decide +kernel
theorem dL_law_456 : decode cL_law 456 = .ok (.istore 13, 2) := by decide +kernel
theorem dL_law_458 : decode cL_law 458 = .ok (.aload_n 1, 1) := by decide +kernel
theorem dL_law_459 : decode cL_law 459 = .ok (.iload 7, 2) := by decide +kernel
theorem dL_law_461 : decode cL_law 461 = .ok (.iload 9, 2) := by decide +kernel
theorem dL_law_463 : decode cL_law 463 = .ok (.iload 10, 2) := by decide +kernel
theorem dL_law_465 : decode cL_law 465 = .ok (.iload 12, 2) := by decide +kernel
theorem dL_law_467 : decode cL_law 467 = .ok (.iload 6, 2) := by decide +kernel
theorem dL_law_469 : decode cL_law 469 = .ok (.iconst 2, 1) := by decide +kernel
theorem dL_law_470 : decode cL_law 470 = .ok (.ishr, 1) := by decide +kernel
theorem dL_law_471 : decode cL_law 471 = .ok (.iconst 2, 1) := by decide +kernel
theorem dL_law_472 : decode cL_law 472 = .ok (.invokestatic 66, 3) := by decide +kernel
theorem dL_law_475 : decode cL_law 475 = .ok (.invokestatic 88, 3) := by decide +kernel
theorem dL_law_478 : decode cL_law 478 = .ok (.istore 14, 2) := by decide +kernel
theorem dL_law_480 : decode cL_law 480 = .ok (.iload 14, 2) := by decide +kernel
theorem dL_law_482 : decode cL_law 482 = .ok (.bipush (-3), 2) := by decide +kernel
theorem dL_law_484 : decode cL_law 484 = .ok (.if_icmp .ne 27, 3) := by decide +kernel
theorem dL_law_487 : decode cL_law 487 = .ok (.aload_n 1, 1) := by decide +kernel
theorem dL_law_488 : decode cL_law 488 = .ok (.iload 7, 2) := by decide +kernel
theorem dL_law_490 : decode cL_law 490 = .ok (.iload 9, 2) := by decide +kernel
theorem dL_law_492 : decode cL_law 492 = .ok (.iconst 2, 1) := by decide +kernel
theorem dL_law_493 : decode cL_law 493 = .ok (.iload 10, 2) := by decide +kernel
theorem dL_law_495 : decode cL_law 495 = .ok (.invokevirtual 77, 3) := by decide +kernel
theorem dL_law_498 : decode cL_law 498 = .ok (.iload 13, 2) := by decide +kernel
theorem dL_law_500 : decode cL_law 500 = .ok (.if_icmp .ne 7, 3) := by decide +kernel
theorem dL_law_503 : decode cL_law 503 = .ok (.iconst 1, 1) := by decide +kernel
theorem dL_law_504 : decode cL_law 504 = .ok (.goto 51, 3) := by decide +kernel
theorem dL_law_507 : decode cL_law 507 = .ok (.iconst 0, 1) := by decide +kernel
theorem dL_law_508 : decode cL_law 508 = .ok (.goto 47, 3) := by decide +kernel
theorem dL_law_511 : decode cL_law 511 = .ok (.aload_n 1, 1) := by decide +kernel
theorem dL_law_512 : decode cL_law 512 = .ok (.iload 7, 2) := by decide +kernel
theorem dL_law_514 : decode cL_law 514 = .ok (.iload 9, 2) := by decide +kernel
theorem dL_law_516 : decode cL_law 516 = .ok (.iconst 2, 1) := by decide +kernel
theorem dL_law_517 : decode cL_law 517 = .ok (.iload 10, 2) := by decide +kernel
theorem dL_law_519 : decode cL_law 519 = .ok (.invokevirtual 77, 3) := by decide +kernel
theorem dL_law_522 : decode cL_law 522 = .ok (.iload 12, 2) := by decide +kernel
theorem dL_law_524 : decode cL_law 524 = .ok (.if_icmp .ne 30, 3) := by decide +kernel
theorem dL_law_527 : decode cL_law 527 = .ok (.iload 14, 2) := by decide +kernel
theorem dL_law_529 : decode cL_law 529 = .ok (.bipush 10, 2) := by decide +kernel
theorem dL_law_531 : decode cL_law 531 = .ok (.if_icmp .gt 23, 3) := by decide +kernel
theorem dL_law_534 : decode cL_law 534 = .ok (.aload_n 1, 1) := by decide +kernel
theorem dL_law_535 : decode cL_law 535 = .ok (.iload 7, 2) := by decide +kernel
theorem dL_law_537 : decode cL_law 537 = .ok (.iload 9, 2) := by decide +kernel
theorem dL_law_539 : decode cL_law 539 = .ok (.iload 10, 2) := by decide +kernel
theorem dL_law_541 : decode cL_law 541 = .ok (.iload 12, 2) := by decide +kernel
theorem dL_law_543 : decode cL_law 543 = .ok (.iconst 0, 1) := by decide +kernel
theorem dL_law_544 : decode cL_law 544 = .ok (.invokestatic 88, 3) := by decide +kernel
theorem dL_law_547 : decode cL_law 547 = .ok (.ifCond .ne 7, 3) := by decide +kernel
theorem dL_law_550 : decode cL_law 550 = .ok (.iconst 1, 1) := by decide +kernel
theorem dL_law_551 : decode cL_law 551 = .ok (.goto 4, 3) := by decide +kernel
theorem dL_law_554 : decode cL_law 554 = .ok (.iconst 0, 1) := by decide +kernel
theorem dL_law_555 : decode cL_law 555 = .ok (.istore_n 3, 1) := by decide +kernel
theorem dL_law_556 : decode cL_law 556 = .ok (.goto 413, 3) := by decide +kernel
theorem dL_law_559 : decode cL_law 559 = .ok (.iload 11, 2) := by decide +kernel
theorem dL_law_561 : decode cL_law 561 = .ok (.bipush 14, 2) := by decide +kernel
theorem dL_law_563 : decode cL_law 563 = .ok (.if_icmp .ge 70, 3) := by decide +kernel
theorem dL_law_566 : decode cL_law 566 = .ok (.iload 6, 2) := by decide +kernel
theorem dL_law_568 : decode cL_law 568 = .ok (.ldc 80, 2) := by decide +kernel
theorem dL_law_570 : decode cL_law 570 = .ok (.invokestatic 66, 3) := by decide +kernel
theorem dL_law_573 : decode cL_law 573 = .ok (.istore 12, 2) := by decide +kernel
theorem dL_law_575 : decode cL_law 575 = .ok (.aload_n 1, 1) := by decide +kernel
theorem dL_law_576 : decode cL_law 576 = .ok (.iload 7, 2) := by decide +kernel
theorem dL_law_578 : decode cL_law 578 = .ok (.iload 9, 2) := by decide +kernel
theorem dL_law_580 : decode cL_law 580 = .ok (.iconst 2, 1) := by decide +kernel
theorem dL_law_581 : decode cL_law 581 = .ok (.invokevirtual 43, 3) := by decide +kernel
theorem dL_law_584 : decode cL_law 584 = .ok (.istore 13, 2) := by decide +kernel
theorem dL_law_586 : decode cL_law 586 = .ok (.aload_n 1, 1) := by decide +kernel
theorem dL_law_587 : decode cL_law 587 = .ok (.iload 7, 2) := by decide +kernel
theorem dL_law_589 : decode cL_law 589 = .ok (.iload 9, 2) := by decide +kernel
theorem dL_law_591 : decode cL_law 591 = .ok (.iload 12, 2) := by decide +kernel
theorem dL_law_593 : decode cL_law 593 = .ok (.invokestatic 90, 3) := by decide +kernel
theorem dL_law_596 : decode cL_law 596 = .ok (.istore 14, 2) := by decide +kernel
theorem dL_law_598 : decode cL_law 598 = .ok (.aload_n 1, 1) := by decide +kernel
theorem dL_law_599 : decode cL_law 599 = .ok (.iload 7, 2) := by decide +kernel
theorem dL_law_601 : decode cL_law 601 = .ok (.iload 9, 2) := by decide +kernel
theorem dL_law_603 : decode cL_law 603 = .ok (.iconst 2, 1) := by decide +kernel
theorem dL_law_604 : decode cL_law 604 = .ok (.invokevirtual 43, 3) := by decide +kernel
theorem dL_law_607 : decode cL_law 607 = .ok (.iload 14, 2) := by decide +kernel
theorem dL_law_609 : decode cL_law 609 = .ok (.bipush (-3), 2) := by decide +kernel
theorem dL_law_611 : decode cL_law 611 = .ok (.if_icmp .ne 8, 3) := by decide +kernel
theorem dL_law_614 : decode cL_law 614 = .ok (.iload 13, 2) := by decide +kernel
theorem dL_law_616 : decode cL_law 616 = .ok (.goto 5, 3) := by decide +kernel
theorem dL_law_619 : decode cL_law 619 = .ok (.iload 12, 2) := by decide +kernel
theorem dL_law_621 : decode cL_law 621 = .ok (.if_icmp .ne 7, 3) := by decide +kernel
theorem dL_law_624 : decode cL_law 624 = .ok (.iconst 1, 1) := by decide +kernel
theorem dL_law_625 : decode cL_law 625 = .ok (.goto 4, 3) := by decide +kernel
theorem dL_law_628 : decode cL_law 628 = .ok (.iconst 0, 1) := by decide +kernel
theorem dL_law_629 : decode cL_law 629 = .ok (.istore_n 3, 1) := by decide +kernel
theorem dL_law_630 : decode cL_law 630 = .ok (.goto 339, 3) := by decide +kernel
theorem dL_law_633 : decode cL_law 633 = .ok (.iload 11, 2) := by decide +kernel
theorem dL_law_635 : decode cL_law 635 = .ok (.bipush 15, 2) := by decide +kernel
theorem dL_law_637 : decode cL_law 637 = .ok (.if_icmp .ge 49, 3) := by decide +kernel
theorem dL_law_640 : decode cL_law 640 = .ok (.aload_n 1, 1) := by decide +kernel
theorem dL_law_641 : decode cL_law 641 = .ok (.iload 10, 2) := by decide +kernel
theorem dL_law_643 : decode cL_law 643 = .ok (.iload 6, 2) := by decide +kernel
theorem dL_law_645 : decode cL_law 645 = .ok (.bipush 101, 2) := by decide +kernel
theorem dL_law_647 : decode cL_law 647 = .ok (.invokestatic 66, 3) := by decide +kernel
theorem dL_law_650 : decode cL_law 650 = .ok (.invokevirtual 93, 3) := by decide +kernel
theorem dL_law_653 : decode cL_law 653 = .ok (.pop, 1) := by decide +kernel
theorem dL_law_654 : decode cL_law 654 = .ok (.aload_n 1, 1) := by decide +kernel
theorem dL_law_655 : decode cL_law 655 = .ok (.iload 10, 2) := by decide +kernel
theorem dL_law_657 : decode cL_law 657 = .ok (.iload 6, 2) := by decide +kernel
theorem dL_law_659 : decode cL_law 659 = .ok (.bipush 101, 2) := by decide +kernel
theorem dL_law_661 : decode cL_law 661 = .ok (.invokestatic 66, 3) := by decide +kernel
theorem dL_law_664 : decode cL_law 664 = .ok (.invokevirtual 93, 3) := by decide +kernel
theorem dL_law_667 : decode cL_law 667 = .ok (.iload 6, 2) := by decide +kernel
theorem dL_law_669 : decode cL_law 669 = .ok (.bipush 101, 2) := by decide +kernel
theorem dL_law_671 : decode cL_law 671 = .ok (.invokestatic 66, 3) := by decide +kernel
theorem dL_law_674 : decode cL_law 674 = .ok (.if_icmp .ne 7, 3) := by decide +kernel
theorem dL_law_677 : decode cL_law 677 = .ok (.iconst 1, 1) := by decide +kernel
theorem dL_law_678 : decode cL_law 678 = .ok (.goto 4, 3) := by decide +kernel
theorem dL_law_681 : decode cL_law 681 = .ok (.iconst 0, 1) := by decide +kernel
theorem dL_law_682 : decode cL_law 682 = .ok (.istore_n 3, 1) := by decide +kernel
theorem dL_law_683 : decode cL_law 683 = .ok (.goto 286, 3) := by decide +kernel
theorem dL_law_686 : decode cL_law 686 = .ok (.iload 11, 2) := by decide +kernel
theorem dL_law_688 : decode cL_law 688 = .ok (.bipush 16, 2) := by decide +kernel
theorem dL_law_690 : decode cL_law 690 = .ok (.if_icmp .ge 79, 3) := by decide +kernel
theorem dL_law_693 : decode cL_law 693 = .ok (.iload 7, 2) := by decide +kernel
theorem dL_law_695 : decode cL_law 695 = .ok (.iload 8, 2) := by decide +kernel
theorem dL_law_697 : decode cL_law 697 = .ok (.if_icmp .eq 72, 3) := by decide +kernel
theorem dL_law_700 : decode cL_law 700 = .ok (.aload_n 1, 1) := by decide +kernel
theorem dL_law_701 : decode cL_law 701 = .ok (.iload 7, 2) := by decide +kernel
theorem dL_law_703 : decode cL_law 703 = .ok (.iload 8, 2) := by decide +kernel
theorem dL_law_705 : decode cL_law 705 = .ok (.invokestatic 96, 3) := by decide +kernel
theorem dL_law_708 : decode cL_law 708 = .ok (.istore 12, 2) := by decide +kernel
theorem dL_law_710 : decode cL_law 710 = .ok (.iload 12, 2) := by decide +kernel
theorem dL_law_712 : decode cL_law 712 = .ok (.bipush (-3), 2) := by decide +kernel
theorem dL_law_714 : decode cL_law 714 = .ok (.if_icmp .eq 46, 3) := by decide +kernel
theorem dL_law_717 : decode cL_law 717 = .ok (.aload_n 1, 1) := by decide +kernel
theorem dL_law_718 : decode cL_law 718 = .ok (.iload 7, 2) := by decide +kernel
theorem dL_law_720 : decode cL_law 720 = .ok (.iload 8, 2) := by decide +kernel
theorem dL_law_722 : decode cL_law 722 = .ok (.iconst 0, 1) := by decide +kernel
theorem dL_law_723 : decode cL_law 723 = .ok (.iconst 0, 1) := by decide +kernel
theorem dL_law_724 : decode cL_law 724 = .ok (.invokevirtual 49, 3) := by decide +kernel
theorem dL_law_727 : decode cL_law 727 = .ok (.ifCond .ne 37, 3) := by decide +kernel
theorem dL_law_730 : decode cL_law 730 = .ok (.aload_n 1, 1) := by decide +kernel
theorem dL_law_731 : decode cL_law 731 = .ok (.iload 7, 2) := by decide +kernel
theorem dL_law_733 : decode cL_law 733 = .ok (.iconst 0, 1) := by decide +kernel
theorem dL_law_734 : decode cL_law 734 = .ok (.iconst 2, 1) := by decide +kernel
theorem dL_law_735 : decode cL_law 735 = .ok (.invokevirtual 43, 3) := by decide +kernel
theorem dL_law_738 : decode cL_law 738 = .ok (.aload_n 1, 1) := by decide +kernel
theorem dL_law_739 : decode cL_law 739 = .ok (.iload 8, 2) := by decide +kernel
theorem dL_law_741 : decode cL_law 741 = .ok (.iconst 0, 1) := by decide +kernel
theorem dL_law_742 : decode cL_law 742 = .ok (.iconst 2, 1) := by decide +kernel
theorem dL_law_743 : decode cL_law 743 = .ok (.invokevirtual 43, 3) := by decide +kernel
theorem dL_law_746 : decode cL_law 746 = .ok (.if_icmp .ne 18, 3) := by decide +kernel
theorem dL_law_749 : decode cL_law 749 = .ok (.aload_n 1, 1) := by decide +kernel
theorem dL_law_750 : decode cL_law 750 = .ok (.iload 7, 2) := by decide +kernel
theorem dL_law_752 : decode cL_law 752 = .ok (.iload 8, 2) := by decide +kernel
theorem dL_law_754 : decode cL_law 754 = .ok (.invokestatic 96, 3) := by decide +kernel
theorem dL_law_757 : decode cL_law 757 = .ok (.ifCond .ne 7, 3) := by decide +kernel
theorem dL_law_760 : decode cL_law 760 = .ok (.iconst 1, 1) := by decide +kernel
theorem dL_law_761 : decode cL_law 761 = .ok (.goto 4, 3) := by decide +kernel
theorem dL_law_764 : decode cL_law 764 = .ok (.iconst 0, 1) := by decide +kernel
theorem dL_law_765 : decode cL_law 765 = .ok (.istore_n 3, 1) := by decide +kernel
theorem dL_law_766 : decode cL_law 766 = .ok (.goto 203, 3) := by decide +kernel
theorem dL_law_769 : decode cL_law 769 = .ok (.iload 11, 2) := by decide +kernel
theorem dL_law_771 : decode cL_law 771 = .ok (.bipush 17, 2) := by decide +kernel
theorem dL_law_773 : decode cL_law 773 = .ok (.if_icmp .ge 51, 3) := by decide +kernel
theorem dL_law_776 : decode cL_law 776 = .ok (.aload_n 1, 1) := by decide +kernel
theorem dL_law_777 : decode cL_law 777 = .ok (.iload 7, 2) := by decide +kernel
theorem dL_law_779 : decode cL_law 779 = .ok (.iload 9, 2) := by decide +kernel
theorem dL_law_781 : decode cL_law 781 = .ok (.invokevirtual 99, 3) := by decide +kernel
theorem dL_law_784 : decode cL_law 784 = .ok (.ifCond .lt 35, 3) := by decide +kernel
theorem dL_law_787 : decode cL_law 787 = .ok (.aload_n 1, 1) := by decide +kernel
theorem dL_law_788 : decode cL_law 788 = .ok (.iload 7, 2) := by decide +kernel
theorem dL_law_790 : decode cL_law 790 = .ok (.iload 9, 2) := by decide +kernel
theorem dL_law_792 : decode cL_law 792 = .ok (.invokevirtual 99, 3) := by decide +kernel
theorem dL_law_795 : decode cL_law 795 = .ok (.ifCond .ne 24, 3) := by decide +kernel
theorem dL_law_798 : decode cL_law 798 = .ok (.aload_n 1, 1) := by decide +kernel
theorem dL_law_799 : decode cL_law 799 = .ok (.iload 7, 2) := by decide +kernel
theorem dL_law_801 : decode cL_law 801 = .ok (.iload 9, 2) := by decide +kernel
theorem dL_law_803 : decode cL_law 803 = .ok (.iconst 0, 1) := by decide +kernel
theorem dL_law_804 : decode cL_law 804 = .ok (.iload 10, 2) := by decide +kernel
theorem dL_law_806 : decode cL_law 806 = .ok (.iconst 1, 1) := by decide +kernel
theorem dL_law_807 : decode cL_law 807 = .ok (.invokestatic 81, 3) := by decide +kernel
theorem dL_law_810 : decode cL_law 810 = .ok (.bipush (-3), 2) := by decide +kernel
theorem dL_law_812 : decode cL_law 812 = .ok (.if_icmp .ne 7, 3) := by decide +kernel
theorem dL_law_815 : decode cL_law 815 = .ok (.iconst 1, 1) := by decide +kernel
theorem dL_law_816 : decode cL_law 816 = .ok (.goto 4, 3) := by decide +kernel
theorem dL_law_819 : decode cL_law 819 = .ok (.iconst 0, 1) := by decide +kernel
theorem dL_law_820 : decode cL_law 820 = .ok (.istore_n 3, 1) := by decide +kernel
theorem dL_law_821 : decode cL_law 821 = .ok (.goto 148, 3) := by decide +kernel
theorem dL_law_824 : decode cL_law 824 = .ok (.iload 11, 2) := by decide +kernel
theorem dL_law_826 : decode cL_law 826 = .ok (.bipush 18, 2) := by decide +kernel
theorem dL_law_828 : decode cL_law 828 = .ok (.if_icmp .ge 34, 3) := by decide +kernel
theorem dL_law_831 : decode cL_law 831 = .ok (.aload_n 1, 1) := by decide +kernel
theorem dL_law_832 : decode cL_law 832 = .ok (.iload 7, 2) := by decide +kernel
theorem dL_law_834 : decode cL_law 834 = .ok (.iload 9, 2) := by decide +kernel
theorem dL_law_836 : decode cL_law 836 = .ok (.invokevirtual 102, 3) := by decide +kernel
theorem dL_law_839 : decode cL_law 839 = .ok (.ifCond .lt 18, 3) := by decide +kernel
theorem dL_law_842 : decode cL_law 842 = .ok (.aload_n 1, 1) := by decide +kernel
theorem dL_law_843 : decode cL_law 843 = .ok (.iload 7, 2) := by decide +kernel
theorem dL_law_845 : decode cL_law 845 = .ok (.iload 9, 2) := by decide +kernel
theorem dL_law_847 : decode cL_law 847 = .ok (.invokevirtual 102, 3) := by decide +kernel
theorem dL_law_850 : decode cL_law 850 = .ok (.ifCond .ne 7, 3) := by decide +kernel
theorem dL_law_853 : decode cL_law 853 = .ok (.iconst 1, 1) := by decide +kernel
theorem dL_law_854 : decode cL_law 854 = .ok (.goto 4, 3) := by decide +kernel
theorem dL_law_857 : decode cL_law 857 = .ok (.iconst 0, 1) := by decide +kernel
theorem dL_law_858 : decode cL_law 858 = .ok (.istore_n 3, 1) := by decide +kernel
theorem dL_law_859 : decode cL_law 859 = .ok (.goto 110, 3) := by decide +kernel
theorem dL_law_862 : decode cL_law 862 = .ok (.iload 11, 2) := by decide +kernel
theorem dL_law_864 : decode cL_law 864 = .ok (.bipush 19, 2) := by decide +kernel
theorem dL_law_866 : decode cL_law 866 = .ok (.if_icmp .ge 80, 3) := by decide +kernel
theorem dL_law_869 : decode cL_law 869 = .ok (.aload_n 1, 1) := by decide +kernel
theorem dL_law_870 : decode cL_law 870 = .ok (.iload 9, 2) := by decide +kernel
theorem dL_law_872 : decode cL_law 872 = .ok (.iload 6, 2) := by decide +kernel
theorem dL_law_874 : decode cL_law 874 = .ok (.iconst 3, 1) := by decide +kernel
theorem dL_law_875 : decode cL_law 875 = .ok (.invokestatic 66, 3) := by decide +kernel
theorem dL_law_878 : decode cL_law 878 = .ok (.iload 10, 2) := by decide +kernel
theorem dL_law_880 : decode cL_law 880 = .ok (.iload 6, 2) := by decide +kernel
theorem dL_law_882 : decode cL_law 882 = .ok (.iconst 2, 1) := by decide +kernel
theorem dL_law_883 : decode cL_law 883 = .ok (.ishr, 1) := by decide +kernel
theorem dL_law_884 : decode cL_law 884 = .ok (.sipush 1001, 3) := by decide +kernel
theorem dL_law_887 : decode cL_law 887 = .ok (.invokestatic 66, 3) := by decide +kernel
theorem dL_law_890 : decode cL_law 890 = .ok (.invokestatic 105, 3) := by decide +kernel
theorem dL_law_893 : decode cL_law 893 = .ok (.istore 12, 2) := by decide +kernel
theorem dL_law_895 : decode cL_law 895 = .ok (.iload 12, 2) := by decide +kernel
theorem dL_law_897 : decode cL_law 897 = .ok (.bipush (-3), 2) := by decide +kernel
theorem dL_law_899 : decode cL_law 899 = .ok (.if_icmp .eq 38, 3) := by decide +kernel
theorem dL_law_902 : decode cL_law 902 = .ok (.iload 10, 2) := by decide +kernel
theorem dL_law_904 : decode cL_law 904 = .ok (.iload_n 2, 1) := by decide +kernel
theorem dL_law_905 : decode cL_law 905 = .ok (.if_icmp .ge 32, 3) := by decide +kernel
theorem dL_law_908 : decode cL_law 908 = .ok (.aload_n 1, 1) := by decide +kernel
theorem dL_law_909 : decode cL_law 909 = .ok (.iload 7, 2) := by decide +kernel
theorem dL_law_911 : decode cL_law 911 = .ok (.iload 9, 2) := by decide +kernel
theorem dL_law_913 : decode cL_law 913 = .ok (.iload 6, 2) := by decide +kernel
theorem dL_law_915 : decode cL_law 915 = .ok (.iconst 3, 1) := by decide +kernel
theorem dL_law_916 : decode cL_law 916 = .ok (.invokestatic 66, 3) := by decide +kernel
theorem dL_law_919 : decode cL_law 919 = .ok (.iload 10, 2) := by decide +kernel
theorem dL_law_921 : decode cL_law 921 = .ok (.invokevirtual 108, 3) := by decide +kernel
theorem dL_law_924 : decode cL_law 924 = .ok (.iload 6, 2) := by decide +kernel
theorem dL_law_926 : decode cL_law 926 = .ok (.iconst 2, 1) := by decide +kernel
theorem dL_law_927 : decode cL_law 927 = .ok (.ishr, 1) := by decide +kernel
theorem dL_law_928 : decode cL_law 928 = .ok (.sipush 1001, 3) := by decide +kernel
theorem dL_law_931 : decode cL_law 931 = .ok (.invokestatic 66, 3) := by decide +kernel
theorem dL_law_934 : decode cL_law 934 = .ok (.if_icmp .ne 7, 3) := by decide +kernel
theorem dL_law_937 : decode cL_law 937 = .ok (.iconst 1, 1) := by decide +kernel
theorem dL_law_938 : decode cL_law 938 = .ok (.goto 4, 3) := by decide +kernel
theorem dL_law_941 : decode cL_law 941 = .ok (.iconst 0, 1) := by decide +kernel
theorem dL_law_942 : decode cL_law 942 = .ok (.istore_n 3, 1) := by decide +kernel
theorem dL_law_943 : decode cL_law 943 = .ok (.goto 26, 3) := by decide +kernel
theorem dL_law_946 : decode cL_law 946 = .ok (.iload_n 2, 1) := by decide +kernel
theorem dL_law_947 : decode cL_law 947 = .ok (.bipush 12, 2) := by decide +kernel
theorem dL_law_949 : decode cL_law 949 = .ok (.if_icmp .ge 20, 3) := by decide +kernel
theorem dL_law_952 : decode cL_law 952 = .ok (.iinc 2 1, 3) := by decide +kernel
theorem dL_law_955 : decode cL_law 955 = .ok (.aload_n 1, 1) := by decide +kernel
theorem dL_law_956 : decode cL_law 956 = .ok (.invokevirtual 111, 3) := by decide +kernel
theorem dL_law_959 : decode cL_law 959 = .ok (.iload_n 2, 1) := by decide +kernel
theorem dL_law_960 : decode cL_law 960 = .ok (.if_icmp .ne 7, 3) := by decide +kernel
theorem dL_law_963 : decode cL_law 963 = .ok (.iconst 1, 1) := by decide +kernel
theorem dL_law_964 : decode cL_law 964 = .ok (.goto 4, 3) := by decide +kernel
theorem dL_law_967 : decode cL_law 967 = .ok (.iconst 0, 1) := by decide +kernel
theorem dL_law_968 : decode cL_law 968 = .ok (.istore_n 3, 1) := by decide +kernel
theorem dL_law_969 : decode cL_law 969 = .ok (.iload_n 3, 1) := by decide +kernel
theorem dL_law_970 : decode cL_law 970 = .ok (.ifCond .eq 51, 3) := by decide +kernel
theorem dL_law_973 : decode cL_law 973 = .ok (.aload_n 1, 1) := by decide +kernel
theorem dL_law_974 : decode cL_law 974 = .ok (.iload 7, 2) := by decide +kernel
theorem dL_law_976 : decode cL_law 976 = .ok (.iload 8, 2) := by decide +kernel
theorem dL_law_978 : decode cL_law 978 = .ok (.iload 9, 2) := by decide +kernel
theorem dL_law_980 : decode cL_law 980 = .ok (.invokestatic 56, 3) := by decide +kernel
theorem dL_law_983 : decode cL_law 983 = .ok (.ifCond .eq 38, 3) := by decide +kernel
theorem dL_law_986 : decode cL_law 986 = .ok (.iload 10, 2) := by decide +kernel
theorem dL_law_988 : decode cL_law 988 = .ok (.iload_n 2, 1) := by decide +kernel
theorem dL_law_989 : decode cL_law 989 = .ok (.if_icmp .lt 28, 3) := by decide +kernel
theorem dL_law_992 : decode cL_law 992 = .ok (.aload_n 1, 1) := by decide +kernel
theorem dL_law_993 : decode cL_law 993 = .ok (.iload 7, 2) := by decide +kernel
theorem dL_law_995 : decode cL_law 995 = .ok (.iload 9, 2) := by decide +kernel
theorem dL_law_997 : decode cL_law 997 = .ok (.iconst 3, 1) := by decide +kernel
theorem dL_law_998 : decode cL_law 998 = .ok (.iload 10, 2) := by decide +kernel
theorem dL_law_1000 : decode cL_law 1000 = .ok (.invokevirtual 108, 3) := by decide +kernel
theorem dL_law_1003 : decode cL_law 1003 = .ok (.aload_n 1, 1) := by decide +kernel
theorem dL_law_1004 : decode cL_law 1004 = .ok (.iload 7, 2) := by decide +kernel
theorem dL_law_1006 : decode cL_law 1006 = .ok (.iload 9, 2) := by decide +kernel
theorem dL_law_1008 : decode cL_law 1008 = .ok (.iconst 3, 1) := by decide +kernel
theorem dL_law_1009 : decode cL_law 1009 = .ok (.iload 10, 2) := by decide +kernel
theorem dL_law_1011 : decode cL_law 1011 = .ok (.invokevirtual 77, 3) := by decide +kernel
theorem dL_law_1014 : decode cL_law 1014 = .ok (.if_icmp .ne 7, 3) := by decide +kernel
theorem dL_law_1017 : decode cL_law 1017 = .ok (.iconst 1, 1) := by decide +kernel
theorem dL_law_1018 : decode cL_law 1018 = .ok (.goto 4, 3) := by decide +kernel
theorem dL_law_1021 : decode cL_law 1021 = .ok (.iconst 0, 1) := by decide +kernel
theorem dL_law_1022 : decode cL_law 1022 = .ok (.istore_n 3, 1) := by decide +kernel
theorem dL_law_1023 : decode cL_law 1023 = .ok (.iinc 5 1, 3) := by decide +kernel
theorem dL_law_1026 : decode cL_law 1026 = .ok (.goto (-958), 3) := by decide +kernel
theorem dL_law_1029 : decode cL_law 1029 = .ok (.iload_n 3, 1) := by decide +kernel
theorem dL_law_1030 : decode cL_law 1030 = .ok (.ireturn, 1) := by decide +kernel
end
section
/-! BASE: the words that are good, the surroundings, the judgement G over lists, contracts -/
def wsA : List Cond := lw_tbl.filter goodWord
theorem wA {w : Cond} (n : Nat) (h : lw_tbl[n]? = some w) (g : goodWord w = true) : w ∈ wsA := List.mem_filter.mpr ⟨List.mem_of_getElem? h, g⟩
theorem gA : GoodIn wsA wsA := fun w h => ⟨h, good_of_word (List.mem_filter.mp h).2⟩
def wM (y : MethodName) (cc : ByteArray) (mL : Nat) (rt : Option FieldType) : List Cond := .code y cc mL rt :: wsA
def wH (y : MethodName) (cc : ByteArray) (mL : Nat) (rt : Option FieldType) (hh : List (Nat × Nat × Nat × Nat)) : List Cond := .codeWith y cc mL rt hh :: wsA
theorem gC {w : Cond} (h : w ∈ wsA) : GoodIn wsA (w :: wsA) := fun v hv => (List.mem_cons.mp hv).elim (fun e => e ▸ gA w h) (gA v)
abbrev eIO : String := "java/lang/IndexOutOfBoundsException"
abbrev eIA : String := "java/lang/IllegalArgumentException"
abbrev eIS : String := "java/lang/IllegalStateException"
abbrev eUp : List String := ["java/lang/RuntimeException", "java/lang/Exception"]
/-- words that ride beside the method's own list -/
def exW : List Cond := [.methodLinkNest RX3 11 yX2_init RX3, .methodLinkNest RX3 18 yX0_init RX3, .methodLinkNest RX3 32 yX1_init RX3, .methodLinkNest RX0 22 yX3_isIn RX3, .methodLinkNest RX2 22 yX3_isIn RX3,
  .declares (Bundle.initS "java/lang/RuntimeException"), .declares (Bundle.initS "java/lang/Exception"), .declares (Bundle.initS "java/lang/Throwable"), .castable eIO eIO, .castable eIA eIA, .castable eIS eIS]
def exS : List (Nat × String) := [(58, "there are 10 places"), (70, "the parent is a leaf in use"), (106, "the leaf is closed in the version"), (123, "all weights of the seasons are 0"), (133, "both versions are the same"), (136, "some leaf is closed in the version to copy to"), (146, "all 12 months are seen"), (177, "there is no free leaf"), (182, "the held cells have more than the sum"), (189, "there is no such version"), (195, "there is no such place"), (197, "there is no such account"), (199, "there is no such account with cells"), (201, "there is no such month"), (203, "an argument is out of its range"), (205, "the place is no leaf")]
def exN : List (String × String) := [(eIO, eIS), (eIA, eIS)]
def Ex (A : Nat → Prop) (U : State) (H : Heap) : Prop := (∀ w ∈ exW, va_Nw w U) ∧ (∀ q ∈ exS, ∃ sa : Nat, vk_R RX3 q.1 q.2 sa U) ∧ (∀ q ∈ exN, va_Nc q.1 q.2 U) ∧
  vx_Zq Bundle.tN "UNASSIGNED_STACK" Bundle.steD A U H ∧ vx_Zq Bundle.tN "SUPPRESSED_SENTINEL" Bundle.listD A U H
theorem Ex.warm {A : Nat → Prop} {s U : State} {H : Heap} (hW : s.WarmedH U.vm) (h : Ex A s H) : Ex A U H := by
  obtain ⟨h1, h2, h3, h4, h5⟩ := h
  refine ⟨fun w hw => ?_, fun q hq => ?_, fun q hq => va_Nc.moved hW.alike (h3 q hq), vx_Zq.moved hW.alike h4, vx_Zq.moved hW.alike h5⟩
  · have z := h1 w hw
    simp only [exW, List.mem_cons, List.not_mem_nil, or_false] at hw
    rcases hw with rfl | rfl | rfl | rfl | rfl | rfl | rfl | rfl | rfl | rfl | rfl <;> first | exact va_Nw.warmM hW z | exact va_Nw.warmD hW z | exact va_Nw.warmC hW z
  · obtain ⟨sa, z⟩ := h2 q hq
    exact ⟨sa, vk_R.warm hW z⟩
theorem Ex.kept {A : Nat → Prop} {U : State} {H H1 : Heap} (h : Ex A U H) (hq : ∀ a : Nat, a < H.size → ¬ A a → H1[a]? = H[a]?) : Ex A U H1 := ⟨h.1, h.2.1, h.2.2.1, h.2.2.2.1.kept hq, h.2.2.2.2.kept hq⟩
theorem Ex.narrow {A B : Nat → Prop} {U : State} {H : Heap} (h : Ex A U H) (hAB : ∀ q, B q → A q) : Ex B U H := ⟨h.1, h.2.1, h.2.2.1, h.2.2.2.1.narrow hAB, h.2.2.2.2.narrow hAB⟩
/-- the kinds: where the classes' fields lie, the class of int[], the class of long[] -/
abbrev Gm : Type := va_G × ClassId × ClassId
abbrev tyIL (γ : Gm) : List (ClassId × FieldType) := [(γ.2.1, .int)]
/-- a method's frame, all that stays while its body runs -/
abbrev Kx : Type := Program × Env × Room × State × MethodId × Array Value × List Frame × Method × Code × (State → Prop) × (Nat → Prop)
abbrev Kx.pr (κ : Kx) : Program := κ.1
abbrev Kx.en (κ : Kx) : Env := κ.2.1
abbrev Kx.R (κ : Kx) : Room := κ.2.2.1
abbrev Kx.s (κ : Kx) : State := κ.2.2.2.1
abbrev Kx.m (κ : Kx) : MethodId := κ.2.2.2.2.1
abbrev Kx.args (κ : Kx) : Array Value := κ.2.2.2.2.2.1
abbrev Kx.below (κ : Kx) : List Frame := κ.2.2.2.2.2.2.1
abbrev Kx.meth (κ : Kx) : Method := κ.2.2.2.2.2.2.2.1
abbrev Kx.c (κ : Kx) : Code := κ.2.2.2.2.2.2.2.2.1
abbrev Kx.Q (κ : Kx) : State → Prop := κ.2.2.2.2.2.2.2.2.2.1
abbrev Kx.A (κ : Kx) : Nat → Prop := κ.2.2.2.2.2.2.2.2.2.2
/-- from a heap that holds ws, locals that hold lv, the stack st, at pc, the body comes to its end -/
def G (l : Launch) (γ : Gm) (κ : Kx) (ws : va_W) (lv : List (Nat × Value)) (k n : Nat) (st : List Value) (pc : Nat) : Prop :=
  ∀ (H : Heap) (locs : List Loc) (ls : Array Slot), va_P γ.1 vwCl ws H → va_D κ.A ws → va_S κ.A κ.s.heap H locs → lv_has ls κ.c.maxLocals lv → W κ.pr l κ.en κ.R κ.s κ.m κ.args κ.below κ.meth κ.c H locs k n κ.Q (F0 κ.m pc ls st)
def Ok (γ : Gm) (κ : Kx) (cc : ByteArray) (nL : Nat) (own : String) (f ll : Nat) : Prop :=
  κ.pr.tables.exec = Jvm.exec ∧ κ.c.code = cc ∧ κ.c.maxLocals = nL ∧ κ.s.vm.findClass own = some κ.m.cls ∧ (∀ w ∈ wsA, w.before κ.args κ.s = true) ∧ va_K γ.1 vwCl (tyIL γ) κ.s ∧
  (∀ q, κ.s.heap.size ≤ q → κ.A q) ∧ Ex κ.A κ.s κ.s.heap ∧ κ.meth.locks = false ∧ f ≤ κ.R.frames ∧ ll ≤ κ.R.locals
/-- a local, by its number -/
def lvG : List (Nat × Value) → Nat → Option Value
  | [], _ => none
  | (j, v) :: r, i => cond (Nat.beq j i) (some v) (lvG r i)
theorem lvG_in : ∀ (l : List (Nat × Value)) {i : Nat} {v : Value}, lvG l i = some v → (i, v) ∈ l
  | [], _, _, h => by cases h
  | (j, w) :: r, i, v, h => by
    unfold lvG at h
    cases hb : Nat.beq j i with
    | true =>
      rw [hb] at h
      cases h
      have e := Nat.eq_of_beq_eq_true hb
      subst e
      exact List.mem_cons_self
    | false =>
      rw [hb] at h
      exact List.mem_cons_of_mem _ (lvG_in r h)
theorem lvG_at {ls : Array Slot} {nL : Nat} {l : List (Nat × Value)} (h : lv_has ls nL l) {i : Nat} {v : Value} (hk : lvG l i = some v) : ls[i]? = some (.val v) := h.2.2 (i, v) (lvG_in l hk)
abbrev lvS (i : Nat) (v : Value) (lv : List (Nat × Value)) : List (Nat × Value) := (i, v) :: lv.filter (fun q => !(q.1 == i) && !(q.1 + 1 == i && q.2.category == 2))
abbrev lvS2 (i : Nat) (v : Value) (lv : List (Nat × Value)) : List (Nat × Value) := (i, v) :: lv.filter (fun q => !(q.1 == i) && (!(q.1 == i + 1) && !(q.1 + 1 == i && q.2.category == 2)))
section GROWS
variable {l : Launch} {γ : Gm} {κ : Kx} {cc : ByteArray} {nL f ll : Nat} {own : String} {ws ws' : va_W} {lv lv' : List (Nat × Value)} {k n pc pc' : Nat} {st : List Value}
theorem g_sub (is : List Nat) (hl : lv_pick lv is = lv') (kk : G l γ κ ws lv' k n st pc) : G l γ κ ws lv k n st pc := fun H locs ls hP hD hS h => kk H locs ls hP hD hS (lv_sub h is hl)
theorem g_iconst (C : Ok γ κ cc nL own f ll) {z : Int} {v : Int32} (d : decode cc pc = .ok (.iconst z, 1)) (hp : pc' = pc + 1) (hv : Int32.ofInt z = v) (kk : G l γ κ ws lv k n (.int v :: st) pc') : G l γ κ ws lv k n st pc := by
  subst hp
  exact fun H locs ls hP hD hS h => lv_iconst C.1 C.2.1 d hv (kk H locs ls hP hD hS h)
theorem g_bipush (C : Ok γ κ cc nL own f ll) {z : Int} {v : Int32} (d : decode cc pc = .ok (.bipush z, 2)) (hp : pc' = pc + 2) (hv : (Int8.ofInt z).toInt32 = v) (kk : G l γ κ ws lv k n (.int v :: st) pc') : G l γ κ ws lv k n st pc := by
  subst hp
  exact fun H locs ls hP hD hS h => lv_bipush C.1 C.2.1 d hv (kk H locs ls hP hD hS h)
theorem g_sipush (C : Ok γ κ cc nL own f ll) {z : Int} {v : Int32} (d : decode cc pc = .ok (.sipush z, 3)) (hp : pc' = pc + 3) (hv : (Int16.ofInt z).toInt32 = v) (kk : G l γ κ ws lv k n (.int v :: st) pc') : G l γ κ ws lv k n st pc := by
  subst hp
  exact fun H locs ls hP hD hS h => lv_sipush C.1 C.2.1 d hv (kk H locs ls hP hD hS h)
theorem g_lconst (C : Ok γ κ cc nL own f ll) {z : Fin 2} {v : Int64} (d : decode cc pc = .ok (.lconst z, 1)) (hp : pc' = pc + 1) (hv : Int64.ofNat (z : Nat) = v) (kk : G l γ κ ws lv k n (.long v :: st) pc') : G l γ κ ws lv k n st pc := by
  subst hp
  exact fun H locs ls hP hD hS h => lv_lconst C.1 C.2.1 d hv (kk H locs ls hP hD hS h)
theorem g_ldc (C : Ok γ κ cc nL own f ll) {ix : Nat} {v : Int32} (hw : Jvm.Cond.constant own ix v ∈ wsA) (d : decode cc pc = .ok (.ldc ix, 2)) (hp : pc' = pc + 2) (kk : G l γ κ ws lv k n (.int v :: st) pc') : G l γ κ ws lv k n st pc := by
  subst hp
  exact fun H locs ls hP hD hS h => lv_ldc C.1 C.2.1 C.2.2.2.1 (C.2.2.2.2.1 _ hw) d (kk H locs ls hP hD hS h)
theorem g_ldcw (C : Ok γ κ cc nL own f ll) {ix : Nat} {v : Int32} (hw : Jvm.Cond.constant own ix v ∈ wsA) (d : decode cc pc = .ok (.ldc_w ix, 3)) (hp : pc' = pc + 3) (kk : G l γ κ ws lv k n (.int v :: st) pc') : G l γ κ ws lv k n st pc := by
  subst hp
  exact fun H locs ls hP hD hS h => lv_ldcw C.1 C.2.1 C.2.2.2.1 (C.2.2.2.2.1 _ hw) d (kk H locs ls hP hD hS h)
theorem g_iload_n (C : Ok γ κ cc nL own f ll) {i : Fin 4} {j : Nat} {x : Int32} (d : decode cc pc = .ok (.iload_n i, 1)) (hp : pc' = pc + 1) (hi : (i : Nat) = j) (h : lvG lv j = some (.int x)) (kk : G l γ κ ws lv k n (.int x :: st) pc') : G l γ κ ws lv k n st pc := by
  subst hp
  exact fun H locs ls hP hD hS hl => lv_iload_n C.1 C.2.1 d hi (lvG_at hl h) (kk H locs ls hP hD hS hl)
theorem g_iload (C : Ok γ κ cc nL own f ll) {j : Nat} {x : Int32} (d : decode cc pc = .ok (.iload j, 2)) (hp : pc' = pc + 2) (h : lvG lv j = some (.int x)) (kk : G l γ κ ws lv k n (.int x :: st) pc') : G l γ κ ws lv k n st pc := by
  subst hp
  exact fun H locs ls hP hD hS hl => lv_iload C.1 C.2.1 d (lvG_at hl h) (kk H locs ls hP hD hS hl)
theorem g_lload_n (C : Ok γ κ cc nL own f ll) {i : Fin 4} {j : Nat} {x : Int64} (d : decode cc pc = .ok (.lload_n i, 1)) (hp : pc' = pc + 1) (hi : (i : Nat) = j) (h : lvG lv j = some (.long x)) (kk : G l γ κ ws lv k n (.long x :: st) pc') : G l γ κ ws lv k n st pc := by
  subst hp
  exact fun H locs ls hP hD hS hl => lv_lload_n C.1 C.2.1 d hi (lvG_at hl h) (kk H locs ls hP hD hS hl)
theorem g_aload_n (C : Ok γ κ cc nL own f ll) {i : Fin 4} {j : Nat} {x : Nat} (d : decode cc pc = .ok (.aload_n i, 1)) (hp : pc' = pc + 1) (hi : (i : Nat) = j) (h : lvG lv j = some (.ref x)) (kk : G l γ κ ws lv k n (.ref x :: st) pc') : G l γ κ ws lv k n st pc := by
  subst hp
  exact fun H locs ls hP hD hS hl => lv_aload_n C.1 C.2.1 d hi (lvG_at hl h) (kk H locs ls hP hD hS hl)
theorem g_aload (C : Ok γ κ cc nL own f ll) {j : Nat} {x : Nat} (d : decode cc pc = .ok (.aload j, 2)) (hp : pc' = pc + 2) (h : lvG lv j = some (.ref x)) (kk : G l γ κ ws lv k n (.ref x :: st) pc') : G l γ κ ws lv k n st pc := by
  subst hp
  exact fun H locs ls hP hD hS hl => lv_aload C.1 C.2.1 d (lvG_at hl h) (kk H locs ls hP hD hS hl)
theorem g_istore_n (C : Ok γ κ cc nL own f ll) {i : Fin 4} {j : Nat} {x : Int32} (d : decode cc pc = .ok (.istore_n i, 1)) (hp : pc' = pc + 1) (hi : (i : Nat) = j) (hn : j < nL) (hl : lvS j (.int x) lv = lv') (kk : G l γ κ ws lv' k n st pc') : G l γ κ ws lv k n (.int x :: st) pc := by
  subst hp
  exact fun H locs ls hP hD hS h => lv_istore_n C.1 C.2.1 d hi h (by rw [C.2.2.1]; exact hn) hl (fun ls' h' => kk H locs ls' hP hD hS h')
theorem g_istore (C : Ok γ κ cc nL own f ll) {j : Nat} {x : Int32} (d : decode cc pc = .ok (.istore j, 2)) (hp : pc' = pc + 2) (hn : j < nL) (hl : lvS j (.int x) lv = lv') (kk : G l γ κ ws lv' k n st pc') : G l γ κ ws lv k n (.int x :: st) pc := by
  subst hp
  exact fun H locs ls hP hD hS h => lv_istore C.1 C.2.1 d h (by rw [C.2.2.1]; exact hn) hl (fun ls' h' => kk H locs ls' hP hD hS h')
theorem g_lstore_n (C : Ok γ κ cc nL own f ll) {i : Fin 4} {j : Nat} {x : Int64} (d : decode cc pc = .ok (.lstore_n i, 1)) (hp : pc' = pc + 1) (hi : (i : Nat) = j) (hn : j + 1 < nL) (hl : lvS2 j (.long x) lv = lv') (kk : G l γ κ ws lv' k n st pc') : G l γ κ ws lv k n (.long x :: st) pc := by
  subst hp
  exact fun H locs ls hP hD hS h => lv_lstore_n C.1 C.2.1 d hi h (by rw [C.2.2.1]; exact hn) hl (fun ls' h' => kk H locs ls' hP hD hS h')
theorem g_astore_n (C : Ok γ κ cc nL own f ll) {i : Fin 4} {j : Nat} {x : Nat} (d : decode cc pc = .ok (.astore_n i, 1)) (hp : pc' = pc + 1) (hi : (i : Nat) = j) (hn : j < nL) (hl : lvS j (.ref x) lv = lv') (kk : G l γ κ ws lv' k n st pc') : G l γ κ ws lv k n (.ref x :: st) pc := by
  subst hp
  exact fun H locs ls hP hD hS h => lv_astore_n C.1 C.2.1 d hi h (by rw [C.2.2.1]; exact hn) hl (fun ls' h' => kk H locs ls' hP hD hS h')
theorem g_astore (C : Ok γ κ cc nL own f ll) {j : Nat} {x : Nat} (d : decode cc pc = .ok (.astore j, 2)) (hp : pc' = pc + 2) (hn : j < nL) (hl : lvS j (.ref x) lv = lv') (kk : G l γ κ ws lv' k n st pc') : G l γ κ ws lv k n (.ref x :: st) pc := by
  subst hp
  exact fun H locs ls hP hD hS h => lv_astore C.1 C.2.1 d h (by rw [C.2.2.1]; exact hn) hl (fun ls' h' => kk H locs ls' hP hD hS h')
theorem g_iinc (C : Ok γ κ cc nL own f ll) {j : Nat} {z : Int} {x v : Int32} (d : decode cc pc = .ok (.iinc j z, 3)) (hp : pc' = pc + 3) (hg : lvG lv j = some (.int x)) (hv : x + Int32.ofInt z = v) (hn : j < nL) (hl : lvS j (.int v) lv = lv') (kk : G l γ κ ws lv' k n st pc') : G l γ κ ws lv k n st pc := by
  subst hp
  intro H locs ls hP hD hS h
  obtain ⟨i, hi⟩ := List.getElem?_of_mem (lvG_in lv hg)
  exact lv_iinc C.1 C.2.1 d h (k := i) hi hv (by rw [C.2.2.1]; exact hn) hl (fun ls' h' => kk H locs ls' hP hD hS h')
theorem g_iadd (C : Ok γ κ cc nL own f ll) {x y : Int32} (d : decode cc pc = .ok (.iadd, 1)) (hp : pc' = pc + 1) (kk : G l γ κ ws lv k n (.int (x + y) :: st) pc') : G l γ κ ws lv k n (.int y :: .int x :: st) pc := by
  subst hp
  exact fun H locs ls hP hD hS h => lv_iadd C.1 C.2.1 d (kk H locs ls hP hD hS h)
theorem g_isub (C : Ok γ κ cc nL own f ll) {x y : Int32} (d : decode cc pc = .ok (.isub, 1)) (hp : pc' = pc + 1) (kk : G l γ κ ws lv k n (.int (x - y) :: st) pc') : G l γ κ ws lv k n (.int y :: .int x :: st) pc := by
  subst hp
  exact fun H locs ls hP hD hS h => lv_isub C.1 C.2.1 d (kk H locs ls hP hD hS h)
theorem g_imul (C : Ok γ κ cc nL own f ll) {x y : Int32} (d : decode cc pc = .ok (.imul, 1)) (hp : pc' = pc + 1) (kk : G l γ κ ws lv k n (.int (x * y) :: st) pc') : G l γ κ ws lv k n (.int y :: .int x :: st) pc := by
  subst hp
  exact fun H locs ls hP hD hS h => lv_imul C.1 C.2.1 d (kk H locs ls hP hD hS h)
theorem g_irem (C : Ok γ κ cc nL own f ll) {x y : Int32} (d : decode cc pc = .ok (.irem, 1)) (hp : pc' = pc + 1) (hne : ¬ y = 0) (kk : G l γ κ ws lv k n (.int (x - x / y * y) :: st) pc') : G l γ κ ws lv k n (.int y :: .int x :: st) pc := by
  subst hp
  exact fun H locs ls hP hD hS h => lv_irem C.1 C.2.1 d hne (kk H locs ls hP hD hS h)
theorem g_iand (C : Ok γ κ cc nL own f ll) {x y : Int32} (d : decode cc pc = .ok (.iand, 1)) (hp : pc' = pc + 1) (kk : G l γ κ ws lv k n (.int (x &&& y) :: st) pc') : G l γ κ ws lv k n (.int y :: .int x :: st) pc := by
  subst hp
  exact fun H locs ls hP hD hS h => lv_iand C.1 C.2.1 d (kk H locs ls hP hD hS h)
theorem g_ior (C : Ok γ κ cc nL own f ll) {x y : Int32} (d : decode cc pc = .ok (.ior, 1)) (hp : pc' = pc + 1) (kk : G l γ κ ws lv k n (.int (x ||| y) :: st) pc') : G l γ κ ws lv k n (.int y :: .int x :: st) pc := by
  subst hp
  exact fun H locs ls hP hD hS h => lv_ior C.1 C.2.1 d (kk H locs ls hP hD hS h)
theorem g_ixor (C : Ok γ κ cc nL own f ll) {x y : Int32} (d : decode cc pc = .ok (.ixor, 1)) (hp : pc' = pc + 1) (kk : G l γ κ ws lv k n (.int (x ^^^ y) :: st) pc') : G l γ κ ws lv k n (.int y :: .int x :: st) pc := by
  subst hp
  exact fun H locs ls hP hD hS h => lv_ixor C.1 C.2.1 d (kk H locs ls hP hD hS h)
theorem g_ishl (C : Ok γ κ cc nL own f ll) {x y : Int32} (d : decode cc pc = .ok (.ishl, 1)) (hp : pc' = pc + 1) (kk : G l γ κ ws lv k n (.int (x <<< (y &&& 31)) :: st) pc') : G l γ κ ws lv k n (.int y :: .int x :: st) pc := by
  subst hp
  exact fun H locs ls hP hD hS h => lv_ishl C.1 C.2.1 d (kk H locs ls hP hD hS h)
theorem g_ishr (C : Ok γ κ cc nL own f ll) {x y : Int32} (d : decode cc pc = .ok (.ishr, 1)) (hp : pc' = pc + 1) (kk : G l γ κ ws lv k n (.int (x >>> (y &&& 31)) :: st) pc') : G l γ κ ws lv k n (.int y :: .int x :: st) pc := by
  subst hp
  exact fun H locs ls hP hD hS h => lv_ishr C.1 C.2.1 d (kk H locs ls hP hD hS h)
theorem g_iushr (C : Ok γ κ cc nL own f ll) {x y : Int32} (d : decode cc pc = .ok (.iushr, 1)) (hp : pc' = pc + 1) (kk : G l γ κ ws lv k n (.int ((x.toUInt32 >>> (y.toUInt32 &&& Int32.toUInt32 31)).toInt32) :: st) pc') : G l γ κ ws lv k n (.int y :: .int x :: st) pc := by
  subst hp
  exact fun H locs ls hP hD hS h => lv_iushr C.1 C.2.1 d rfl (kk H locs ls hP hD hS h)
theorem g_ladd (C : Ok γ κ cc nL own f ll) {x y : Int64} (d : decode cc pc = .ok (.ladd, 1)) (hp : pc' = pc + 1) (kk : G l γ κ ws lv k n (.long (x + y) :: st) pc') : G l γ κ ws lv k n (.long y :: .long x :: st) pc := by
  subst hp
  exact fun H locs ls hP hD hS h => lv_ladd C.1 C.2.1 d (kk H locs ls hP hD hS h)
theorem g_lmul (C : Ok γ κ cc nL own f ll) {x y : Int64} (d : decode cc pc = .ok (.lmul, 1)) (hp : pc' = pc + 1) (kk : G l γ κ ws lv k n (.long (x * y) :: st) pc') : G l γ κ ws lv k n (.long y :: .long x :: st) pc := by
  subst hp
  exact fun H locs ls hP hD hS h => lv_lmul C.1 C.2.1 d (kk H locs ls hP hD hS h)
theorem g_ldiv (C : Ok γ κ cc nL own f ll) {x y : Int64} (d : decode cc pc = .ok (.ldiv, 1)) (hp : pc' = pc + 1) (hne : ¬ y = 0) (kk : G l γ κ ws lv k n (.long (x / y) :: st) pc') : G l γ κ ws lv k n (.long y :: .long x :: st) pc := by
  subst hp
  exact fun H locs ls hP hD hS h => lv_ldiv C.1 C.2.1 d hne (kk H locs ls hP hD hS h)
theorem g_lcmp (C : Ok γ κ cc nL own f ll) {x y : Int64} (d : decode cc pc = .ok (.lcmp, 1)) (hp : pc' = pc + 1) (kk : G l γ κ ws lv k n (.int (lg_cmp x y) :: st) pc') : G l γ κ ws lv k n (.long y :: .long x :: st) pc := by
  subst hp
  exact fun H locs ls hP hD hS h => W.lcmp C.1 C.2.1 d (kk H locs ls hP hD hS h)
theorem g_i2l (C : Ok γ κ cc nL own f ll) {x : Int32} (d : decode cc pc = .ok (.i2l, 1)) (hp : pc' = pc + 1) (kk : G l γ κ ws lv k n (.long x.toInt64 :: st) pc') : G l γ κ ws lv k n (.int x :: st) pc := by
  subst hp
  exact fun H locs ls hP hD hS h => lv_i2l C.1 C.2.1 d rfl (kk H locs ls hP hD hS h)
theorem g_l2i (C : Ok γ κ cc nL own f ll) {x : Int64} (d : decode cc pc = .ok (.l2i, 1)) (hp : pc' = pc + 1) (kk : G l γ κ ws lv k n (.int x.toInt32 :: st) pc') : G l γ κ ws lv k n (.long x :: st) pc := by
  subst hp
  exact fun H locs ls hP hD hS h => lv_l2i C.1 C.2.1 d rfl (kk H locs ls hP hD hS h)
theorem g_dup (C : Ok γ κ cc nL own f ll) {x : Value} (d : decode cc pc = .ok (.dup, 1)) (hp : pc' = pc + 1) (hc : x.category = 1) (kk : G l γ κ ws lv k n (x :: x :: st) pc') : G l γ κ ws lv k n (x :: st) pc := by
  subst hp
  exact fun H locs ls hP hD hS h => lv_dup C.1 C.2.1 d hc (kk H locs ls hP hD hS h)
theorem g_dup2 (C : Ok γ κ cc nL own f ll) {x y : Value} (d : decode cc pc = .ok (.dup2, 1)) (hp : pc' = pc + 1) (hc : x.category = 1) (hc2 : y.category = 1) (kk : G l γ κ ws lv k n (x :: y :: x :: y :: st) pc') : G l γ κ ws lv k n (x :: y :: st) pc := by
  subst hp
  exact fun H locs ls hP hD hS h => lv_dup2_11 C.1 C.2.1 d hc hc2 (kk H locs ls hP hD hS h)
theorem g_pop (C : Ok γ κ cc nL own f ll) {x : Value} (d : decode cc pc = .ok (.pop, 1)) (hp : pc' = pc + 1) (hc : x.category = 1) (kk : G l γ κ ws lv k n st pc') : G l γ κ ws lv k n (x :: st) pc := by
  subst hp
  exact fun H locs ls hP hD hS h => lv_pop C.1 C.2.1 d hc (kk H locs ls hP hD hS h)
theorem g_goto (C : Ok γ κ cc nL own f ll) {off : Int} {tgt : Nat} (d : decode cc pc = .ok (.goto off, 3)) (ht : (pc : Int) + off = (tgt : Int)) (kk : G l γ κ ws lv k n st tgt) : G l γ κ ws lv k n st pc :=
  fun H locs ls hP hD hS h => lv_goto C.1 C.2.1 d ht (kk H locs ls hP hD hS h)
theorem g_if_eq (C : Ok γ κ cc nL own f ll) {x : Int32} {off : Int} {tgt : Nat} (d : decode cc pc = .ok (.ifCond .eq off, 3)) (hp : pc' = pc + 3) (ht : (pc : Int) + off = (tgt : Int)) (kt : x = 0 → G l γ κ ws lv k n st tgt) (kf : ¬ x = 0 → G l γ κ ws lv k n st pc') : G l γ κ ws lv k n (.int x :: st) pc := by
  subst hp
  exact fun H locs ls hP hD hS h => lv_if_eq C.1 C.2.1 d ht (fun c => kt c H locs ls hP hD hS h) (fun c => kf c H locs ls hP hD hS h)
theorem g_icmp_eq (C : Ok γ κ cc nL own f ll) {x y : Int32} {off : Int} {tgt : Nat} (d : decode cc pc = .ok (.if_icmp .eq off, 3)) (hp : pc' = pc + 3) (ht : (pc : Int) + off = (tgt : Int)) (kt : x = y → G l γ κ ws lv k n st tgt) (kf : ¬ x = y → G l γ κ ws lv k n st pc') : G l γ κ ws lv k n (.int y :: .int x :: st) pc := by
  subst hp
  exact fun H locs ls hP hD hS h => lv_icmp_eq C.1 C.2.1 d ht (fun c => kt c H locs ls hP hD hS h) (fun c => kf c H locs ls hP hD hS h)
theorem g_if_ne (C : Ok γ κ cc nL own f ll) {x : Int32} {off : Int} {tgt : Nat} (d : decode cc pc = .ok (.ifCond .ne off, 3)) (hp : pc' = pc + 3) (ht : (pc : Int) + off = (tgt : Int)) (kt : ¬ x = 0 → G l γ κ ws lv k n st tgt) (kf : x = 0 → G l γ κ ws lv k n st pc') : G l γ κ ws lv k n (.int x :: st) pc := by
  subst hp
  exact fun H locs ls hP hD hS h => lv_if_ne C.1 C.2.1 d ht (fun c => kt c H locs ls hP hD hS h) (fun c => kf c H locs ls hP hD hS h)
theorem g_icmp_ne (C : Ok γ κ cc nL own f ll) {x y : Int32} {off : Int} {tgt : Nat} (d : decode cc pc = .ok (.if_icmp .ne off, 3)) (hp : pc' = pc + 3) (ht : (pc : Int) + off = (tgt : Int)) (kt : ¬ x = y → G l γ κ ws lv k n st tgt) (kf : x = y → G l γ κ ws lv k n st pc') : G l γ κ ws lv k n (.int y :: .int x :: st) pc := by
  subst hp
  exact fun H locs ls hP hD hS h => lv_icmp_ne C.1 C.2.1 d ht (fun c => kt c H locs ls hP hD hS h) (fun c => kf c H locs ls hP hD hS h)
theorem g_if_lt (C : Ok γ κ cc nL own f ll) {x : Int32} {off : Int} {tgt : Nat} (d : decode cc pc = .ok (.ifCond .lt off, 3)) (hp : pc' = pc + 3) (ht : (pc : Int) + off = (tgt : Int)) (kt : x < 0 → G l γ κ ws lv k n st tgt) (kf : ¬ x < 0 → G l γ κ ws lv k n st pc') : G l γ κ ws lv k n (.int x :: st) pc := by
  subst hp
  exact fun H locs ls hP hD hS h => lv_if_lt C.1 C.2.1 d ht (fun c => kt c H locs ls hP hD hS h) (fun c => kf c H locs ls hP hD hS h)
theorem g_icmp_lt (C : Ok γ κ cc nL own f ll) {x y : Int32} {off : Int} {tgt : Nat} (d : decode cc pc = .ok (.if_icmp .lt off, 3)) (hp : pc' = pc + 3) (ht : (pc : Int) + off = (tgt : Int)) (kt : x < y → G l γ κ ws lv k n st tgt) (kf : ¬ x < y → G l γ κ ws lv k n st pc') : G l γ κ ws lv k n (.int y :: .int x :: st) pc := by
  subst hp
  exact fun H locs ls hP hD hS h => lv_icmp_lt C.1 C.2.1 d ht (fun c => kt c H locs ls hP hD hS h) (fun c => kf c H locs ls hP hD hS h)
theorem g_if_ge (C : Ok γ κ cc nL own f ll) {x : Int32} {off : Int} {tgt : Nat} (d : decode cc pc = .ok (.ifCond .ge off, 3)) (hp : pc' = pc + 3) (ht : (pc : Int) + off = (tgt : Int)) (kt : 0 ≤ x → G l γ κ ws lv k n st tgt) (kf : ¬ 0 ≤ x → G l γ κ ws lv k n st pc') : G l γ κ ws lv k n (.int x :: st) pc := by
  subst hp
  exact fun H locs ls hP hD hS h => lv_if_ge C.1 C.2.1 d ht (fun c => kt c H locs ls hP hD hS h) (fun c => kf c H locs ls hP hD hS h)
theorem g_icmp_ge (C : Ok γ κ cc nL own f ll) {x y : Int32} {off : Int} {tgt : Nat} (d : decode cc pc = .ok (.if_icmp .ge off, 3)) (hp : pc' = pc + 3) (ht : (pc : Int) + off = (tgt : Int)) (kt : y ≤ x → G l γ κ ws lv k n st tgt) (kf : ¬ y ≤ x → G l γ κ ws lv k n st pc') : G l γ κ ws lv k n (.int y :: .int x :: st) pc := by
  subst hp
  exact fun H locs ls hP hD hS h => lv_icmp_ge C.1 C.2.1 d ht (fun c => kt c H locs ls hP hD hS h) (fun c => kf c H locs ls hP hD hS h)
theorem g_if_gt (C : Ok γ κ cc nL own f ll) {x : Int32} {off : Int} {tgt : Nat} (d : decode cc pc = .ok (.ifCond .gt off, 3)) (hp : pc' = pc + 3) (ht : (pc : Int) + off = (tgt : Int)) (kt : 0 < x → G l γ κ ws lv k n st tgt) (kf : ¬ 0 < x → G l γ κ ws lv k n st pc') : G l γ κ ws lv k n (.int x :: st) pc := by
  subst hp
  exact fun H locs ls hP hD hS h => lv_if_gt C.1 C.2.1 d ht (fun c => kt c H locs ls hP hD hS h) (fun c => kf c H locs ls hP hD hS h)
theorem g_icmp_gt (C : Ok γ κ cc nL own f ll) {x y : Int32} {off : Int} {tgt : Nat} (d : decode cc pc = .ok (.if_icmp .gt off, 3)) (hp : pc' = pc + 3) (ht : (pc : Int) + off = (tgt : Int)) (kt : y < x → G l γ κ ws lv k n st tgt) (kf : ¬ y < x → G l γ κ ws lv k n st pc') : G l γ κ ws lv k n (.int y :: .int x :: st) pc := by
  subst hp
  exact fun H locs ls hP hD hS h => lv_icmp_gt C.1 C.2.1 d ht (fun c => kt c H locs ls hP hD hS h) (fun c => kf c H locs ls hP hD hS h)
theorem g_if_le (C : Ok γ κ cc nL own f ll) {x : Int32} {off : Int} {tgt : Nat} (d : decode cc pc = .ok (.ifCond .le off, 3)) (hp : pc' = pc + 3) (ht : (pc : Int) + off = (tgt : Int)) (kt : x ≤ 0 → G l γ κ ws lv k n st tgt) (kf : ¬ x ≤ 0 → G l γ κ ws lv k n st pc') : G l γ κ ws lv k n (.int x :: st) pc := by
  subst hp
  exact fun H locs ls hP hD hS h => lv_if_le C.1 C.2.1 d ht (fun c => kt c H locs ls hP hD hS h) (fun c => kf c H locs ls hP hD hS h)
theorem g_icmp_le (C : Ok γ κ cc nL own f ll) {x y : Int32} {off : Int} {tgt : Nat} (d : decode cc pc = .ok (.if_icmp .le off, 3)) (hp : pc' = pc + 3) (ht : (pc : Int) + off = (tgt : Int)) (kt : x ≤ y → G l γ κ ws lv k n st tgt) (kf : ¬ x ≤ y → G l γ κ ws lv k n st pc') : G l γ κ ws lv k n (.int y :: .int x :: st) pc := by
  subst hp
  exact fun H locs ls hP hD hS h => lv_icmp_le C.1 C.2.1 d ht (fun c => kt c H locs ls hP hD hS h) (fun c => kf c H locs ls hP hD hS h)
theorem g_get (C : Ok γ κ cc nL own f ll) {cls : String} {T : u_T} {N ci kf ix a : Nat} {fs : List Value} {v : Value} (hin : ∀ w ∈ u_ws cls T N, w ∈ wsA) (hc : vwCl[ci]? = some (cls, T, N)) (hk : kf < N) (hw : Cond.fieldLink own ix (T kf).1 (T kf).2.1 (T kf).2.2.1 ∈ wsA)
    (d : decode cc pc = .ok (.getfield ix, 3)) (hp : pc' = pc + 3) (q0 : Nat) (he : ws[q0]? = some (a, .inr (ci, fs))) (hv : fs[kf]? = some v) (kk : G l γ κ ws lv k n (v :: st) pc') : G l γ κ ws lv k n (.ref a :: st) pc := by
  subst hp
  exact fun H locs ls hP hD hS h => va_get C.1 C.2.1 C.2.2.2.2.1 hin C.2.2.2.1 C.2.2.2.2.2.1 hP q0 he hc kf hk (C.2.2.2.2.1 _ hw) (fun _ h9 => h9) hv d (kk H locs ls hP hD hS h)
theorem g_put (C : Ok γ κ cc nL own f ll) {cls : String} {T : u_T} {N ci kf ix a : Nat} {fs : List Value} {v : Value} {ty : FieldType} (hin : ∀ w ∈ u_ws cls T N, w ∈ wsA) (ty0 : Nat → FieldType) (hty : ∀ k, k < N → parseFieldDescriptor (T k).2.2.1 = some (ty0 k)) (hnm : ∀ a, a < N → ∀ b, b < N → a ≠ b → (T a).2.1 ≠ (T b).2.1)
    (hc : vwCl[ci]? = some (cls, T, N)) (hk : kf < N) (hw : Cond.fieldLink own ix (T kf).1 (T kf).2.1 (T kf).2.2.1 ∈ wsA) (hfin : (T kf).2.2.2 = false) (hd : parseFieldDescriptor (T kf).2.2.1 = some ty)
    (hn : narrow ty v = v) (hfit : fits ty v = true) (d : decode cc pc = .ok (.putfield ix, 3)) (hp : pc' = pc + 3) (q0 : Nat) (he : ws[q0]? = some (a, .inr (ci, fs))) (hl : kf < fs.length) (hws : ws.set q0 (a, .inr (ci, fs.set kf v)) = ws') (kk : G l γ κ ws' lv k n st pc') : G l γ κ ws lv k n (v :: .ref a :: st) pc := by
  subst hp
  subst hws
  exact fun H locs ls hP hD hS h => va_put C.1 C.2.1 C.2.2.2.2.1 hin ty0 hty hnm C.2.2.2.1 C.2.2.2.2.2.1 hP hD hS q0 he hc kf hk (C.2.2.2.2.1 _ hw) (fun _ h9 => h9) hfin hd hn hfit hl d (fun H1 locs1 hP1 hD1 hS1 => kk H1 locs1 ls hP1 hD1 hS1 h)
theorem g_putF (C : Ok γ κ cc nL own f ll) {cls : String} {T : u_T} {N ci kf ix a : Nat} {fs : List Value} {v : Value} {ty : FieldType} (hin : ∀ w ∈ u_ws cls T N, w ∈ wsA) (ty0 : Nat → FieldType) (hty : ∀ k, k < N → parseFieldDescriptor (T k).2.2.1 = some (ty0 k)) (hnm : ∀ a, a < N → ∀ b, b < N → a ≠ b → (T a).2.1 ≠ (T b).2.1)
    (hc : vwCl[ci]? = some (cls, T, N)) (hk : kf < N) (hw : Cond.fieldLink own ix (T kf).1 (T kf).2.1 (T kf).2.2.1 ∈ wsA) (hfin : (T kf).2.2.2 = true) (hdecl : (T kf).1 = own) (hd : parseFieldDescriptor (T kf).2.2.1 = some ty) (hin2 : κ.meth.name = "<init>")
    (hn : narrow ty v = v) (hfit : fits ty v = true) (d : decode cc pc = .ok (.putfield ix, 3)) (hp : pc' = pc + 3) (q0 : Nat) (he : ws[q0]? = some (a, .inr (ci, fs))) (hl : kf < fs.length) (hws : ws.set q0 (a, .inr (ci, fs.set kf v)) = ws') (kk : G l γ κ ws' lv k n st pc') : G l γ κ ws lv k n (v :: .ref a :: st) pc := by
  subst hp
  subst hws
  exact fun H locs ls hP hD hS h => va_putF C.1 C.2.1 C.2.2.2.2.1 hin ty0 hty hnm C.2.2.2.1 C.2.2.2.2.2.1 hP hD hS q0 he hc kf hk (C.2.2.2.2.1 _ hw) (fun _ h9 => h9) hfin hin2 hdecl hd hn hfit hl d (fun H1 locs1 hP1 hD1 hS1 => kk H1 locs1 ls hP1 hD1 hS1 h)
theorem g_iald (C : Ok γ κ cc nL own f ll) {a N : Nat} {fn : Nat → Int32} {i : Int32} (d : decode cc pc = .ok (.iaload, 1)) (hp : pc' = pc + 1) (q0 : Nat) (he : ws[q0]? = some (a, .inl (γ.2.1, N, .inl fn))) (hin : vp_in i N) (kk : G l γ κ ws lv k n (.int (fn i.toNatClampNeg) :: st) pc') : G l γ κ ws lv k n (.int i :: .ref a :: st) pc := by
  subst hp
  exact fun H locs ls hP hD hS h => va_iald C.1 C.2.1 C.2.2.2.2.2.1 hP q0 0 he rfl hin d (kk H locs ls hP hD hS h)
theorem g_iast (C : Ok γ κ cc nL own f ll) {a N : Nat} {fn : Nat → Int32} {i x : Int32} (d : decode cc pc = .ok (.iastore, 1)) (hp : pc' = pc + 1) (q0 : Nat) (he : ws[q0]? = some (a, .inl (γ.2.1, N, .inl fn))) (hin : vp_in i N) (hws : ws.set q0 (a, .inl (γ.2.1, N, .inl (upd fn i.toNatClampNeg x))) = ws') (kk : G l γ κ ws' lv k n st pc') : G l γ κ ws lv k n (.int x :: .int i :: .ref a :: st) pc := by
  subst hp
  subst hws
  exact fun H locs ls hP hD hS h => va_iast C.1 C.2.1 C.2.2.2.2.2.1 hP hD hS q0 0 he rfl hin d (fun H1 locs1 hP1 hD1 hS1 => kk H1 locs1 ls hP1 hD1 hS1 h)
theorem g_alen (C : Ok γ κ cc nL own f ll) {a N : Nat} {fn : Nat → Int32} {v : Int32} (d : decode cc pc = .ok (.arraylength, 1)) (hp : pc' = pc + 1) (q0 : Nat) (he : ws[q0]? = some (a, .inl (γ.2.1, N, .inl fn))) (hv : Int32.ofNat N = v) (kk : G l γ κ ws lv k n (.int v :: st) pc') : G l γ κ ws lv k n (.ref a :: st) pc := by
  subst hp
  exact fun H locs ls hP hD hS h => va_alen C.1 C.2.1 C.2.2.2.2.2.1 hP q0 0 he rfl hv d (kk H locs ls hP hD hS h)
theorem g_widen {k' n' : Nat} (h1 : k ≤ k') (h2 : n ≤ n') (kk : G l γ κ ws lv k' n' st pc) : G l γ κ ws lv k n st pc := fun H locs ls hP hD hS h => W.widen h1 h2 (kk H locs ls hP hD hS h)
end GROWS
end
section
/-! CONTRACTS, starts, ends, calls, throws -/
def Pre (γ : Gm) (w0 : va_W) (sz : Nat) : State → Prop := fun U => U.heap.size = sz ∧ va_P γ.1 vwCl w0 U.heap ∧ va_K γ.1 vwCl (tyIL γ) U ∧ va_D (fun _ => True) w0 ∧ Ex (va_A w0 sz) U U.heap
def PoB (γ : Gm) (A : Nat → Prop) {S : Type} (w1 : S → va_W) : S → State → Prop := fun u t => va_P γ.1 vwCl (w1 u) t.heap ∧ va_D A (w1 u)
def CtI (l : Launch) (γ : Gm) (y : MethodName) (cc : ByteArray) (mL : Nat) (rt : FieldType) (f ll mc ms : Nat) (args : List Value) (w0 : va_W) {S : Type} (Q : Int32 → S → Prop) (w1 : S → va_W) : Prop :=
  ∀ sz : Nat, Met l y (wM y cc mL (some rt)) ({ frames := f, cells := mc, slots := ms, locals := ll } : Room) (va_Pc args (Pre γ w0 sz)) (va_Qi Q (PoB γ (va_A w0 sz) w1) (va_A w0 sz)) mc ms (va_A w0 sz)
def CtV (l : Launch) (γ : Gm) (y : MethodName) (cc : ByteArray) (mL : Nat) (f ll mc ms : Nat) (args : List Value) (w0 : va_W) {S : Type} (Q : S → Prop) (w1 : S → va_W) : Prop :=
  ∀ sz : Nat, Met l y (wM y cc mL none) ({ frames := f, cells := mc, slots := ms, locals := ll } : Room) (va_Pc args (Pre γ w0 sz)) (va_Qv Q (PoB γ (va_A w0 sz) w1) (va_A w0 sz)) mc ms (va_A w0 sz)
/-- nothing comes back by a return -/
def noQ (A : Nat → Prop) : Array Value → State → Outcome → State → Prop := va_Qv (fun _ : Unit => False) (fun _ _ => False) A
def exQ (γ : Gm) (A : Nat → Prop) {S : Type} (X : String → S → Prop) (w1 : S → va_W) : String → State → State → Prop := vx_X (fun u : String × S => X u.1 u.2) (fun E u t => E = u.1 ∧ PoB γ A w1 u.2 t) A
/-- a method that throws -/
def CtX (l : Launch) (γ : Gm) (y : MethodName) (cc : ByteArray) (mL : Nat) (rto : Option FieldType) (f ll : Nat) (args : List Value) (w0 : va_W) {S : Type} (X : String → S → Prop) (w1 : S → va_W) : Prop :=
  ∀ sz : Nat, vx_Met l y (wM y cc mL rto) ({ frames := f, cells := 1, slots := 6, locals := ll } : Room) (va_Pc args (Pre γ w0 sz)) (noQ (va_A w0 sz)) (exQ γ (va_A w0 sz) X w1) 1 6 (va_A w0 sz)
/-- a method with a table that catches all -/
def CtH (l : Launch) (γ : Gm) (y : MethodName) (cc : ByteArray) (mL : Nat) (rt : FieldType) (hh : List (Nat × Nat × Nat × Nat)) (f ll : Nat) (args : List Value) (w0 : va_W) {S : Type} (Q : Int32 → S → Prop) (w1 : S → va_W) : Prop :=
  ∀ sz : Nat, vx_Met l y (wH y cc mL (some rt) hh) ({ frames := f, cells := 1, slots := 6, locals := ll } : Room) (va_Pc args (Pre γ w0 sz)) (va_Qi Q (PoB γ (va_A w0 sz) w1) (va_A w0 sz)) (fun _ _ _ => False) 1 6 (va_A w0 sz)
def RtI (l : Launch) (γ : Gm) (κ : Kx) (cc : ByteArray) (rt : FieldType) (mc ms : Nat) {S : Type} (Q : Int32 → S → Prop) (w1 : S → va_W) : Prop :=
  ∀ (v : Int32) (u : S) (lv : List (Nat × Value)) (k n pc : Nat), decode cc pc = .ok (.ireturn, 1) → narrow rt (.int v) = .int v → k ≤ mc → n ≤ ms → Q v u → G l γ κ (w1 u) lv k n [.int v] pc
def RtV (l : Launch) (γ : Gm) (κ : Kx) (cc : ByteArray) (mc ms : Nat) {S : Type} (Q : S → Prop) (w1 : S → va_W) : Prop :=
  ∀ (u : S) (lv : List (Nat × Value)) (k n pc : Nat), decode cc pc = .ok (.return_, 1) → k ≤ mc → n ≤ ms → Q u → G l γ κ (w1 u) lv k n [] pc
/-- what a body that throws owes -/
def XQ (γ : Gm) (κ : Kx) {S : Type} (X : String → S → Prop) (w1 : S → va_W) : Prop :=
  κ.Q = vx_MQ κ.below (noQ κ.A) (exQ γ κ.A X w1) κ.args κ.s 1 6 κ.A ∧ (∀ x ∈ κ.c.exceptionTable.toList, False) ∧ 1 ≤ κ.R.cells ∧ 6 ≤ κ.R.slots
theorem va_Psub {D : va_G} {cl : List vw_C} {ws ws' : va_W} {H : Heap} (h : va_P D cl ws H) (is : List Nat) (hs : is.map (fun i => ws[i]?) = ws'.map some) : va_P D cl ws' H := by
  intro k q hk
  have h1 : (is.map (fun i => ws[i]?))[k]? = some (some q) := by rw [hs, List.getElem?_map, hk]; rfl
  rw [List.getElem?_map] at h1
  cases hi : is[k]? with
  | none => rw [hi] at h1; cases h1
  | some i => rw [hi] at h1; exact h i q (Option.some.inj h1)
theorem Pre.blind {γ : Gm} {w0 : va_W} {sz : Nat} {args : List Value} : FrameBlind (va_Pc args (Pre γ w0 sz)) := by
  intro a U g mk h
  obtain ⟨h0, h1, h2, h3, h4, h5⟩ := h
  have hW : U.WarmedH (U.calling g mk a).vm := State.WarmedH.refl U
  exact ⟨h0, h1, h2, va_K.moved (u := U) (U := U.calling g mk a) (Vm.Alike.refl U.vm) h3, h4, Ex.warm hW h5⟩
section STARTS
variable {l : Launch} {γ : Gm} {y : MethodName} {cc : ByteArray} {mL f ll mc ms : Nat} {args : List Value} {w0 : va_W} {S : Type}
theorem startI {rt : FieldType} {Q : Int32 → S → Prop} {w1 : S → va_W} (hy : plainName y.cls = true) (hsl : (lg_sl args).length ≤ mL)
    (body : ∀ κ : Kx, Ok γ κ cc mL y.cls f ll → RtI l γ κ cc rt mc ms Q w1 → mc ≤ κ.R.cells ∧ ms ≤ κ.R.slots → κ.meth.name = y.name → G l γ κ w0 (lv_args 0 args) 0 0 [] 0) : CtI l γ y cc mL rt f ll mc ms args w0 Q w1 := by
  intro sz
  refine Met.ofW (cc := cc) (maxL := mL) (ret := some rt) hy rfl ?_
  intro p e s m args' below meth c s₁ B hml hv
  obtain ⟨rfl, hsz, hP, hK, hD0, hE⟩ := hv
  subst hsz
  have hts : ∀ w ∈ wsA, w.before args.toArray s = true := fun w hw => atoms_spec (ws := wM y cc mL (some rt)) B.pre w (List.mem_cons_of_mem _ hw)
  have hl := lv_entry args (n := mL) hsl
  rw [lg_entry_eq]
  generalize ((lg_sl args) ++ List.replicate (mL - (lg_sl args).length) Slot.unset).toArray = ls at hl ⊢
  refine body (p, e, ({ frames := f, cells := mc, slots := ms, locals := ll } : Room), s, m, args.toArray, below, meth, c, MQ below (va_Qi Q (PoB γ (va_A w0 s.heap.size) w1) (va_A w0 s.heap.size)) args.toArray s mc ms (va_A w0 s.heap.size), va_A w0 s.heap.size)
    ⟨B.exec, B.bytes, hml, findClass_of_methodNamed B.named, hts, hK, fun q h => Or.inr h, hE, B.notSynchronized, Nat.le_refl _, Nat.le_refl _⟩ ?_ ⟨Nat.le_refl _, Nat.le_refl _⟩ (name_of_methodNamed B.named B.method).1 s.heap [] ls hP hD0.self va_S.rf (by show lv_has ls c.maxLocals _; rw [hml]; exact hl)
  exact fun v u lv k n pc d hn hk hn' hq H locs ls hP hD hS h => W.widen hk hn' (W.zret B.exec B.bytes B.returns hn (fun t ht hW => ⟨⟨v, u, rfl, hq, by rw [ht]; exact hP, hD⟩, hS.F ht⟩) hS.2.2 d B.notSynchronized)
theorem startV {Q : S → Prop} {w1 : S → va_W} (hy : plainName y.cls = true) (hsl : (lg_sl args).length ≤ mL)
    (body : ∀ κ : Kx, Ok γ κ cc mL y.cls f ll → RtV l γ κ cc mc ms Q w1 → mc ≤ κ.R.cells ∧ ms ≤ κ.R.slots → κ.meth.name = y.name → G l γ κ w0 (lv_args 0 args) 0 0 [] 0) : CtV l γ y cc mL f ll mc ms args w0 Q w1 := by
  intro sz
  refine Met.ofW (cc := cc) (maxL := mL) (ret := none) hy rfl ?_
  intro p e s m args' below meth c s₁ B hml hv
  obtain ⟨rfl, hsz, hP, hK, hD0, hE⟩ := hv
  subst hsz
  have hts : ∀ w ∈ wsA, w.before args.toArray s = true := fun w hw => atoms_spec (ws := wM y cc mL none) B.pre w (List.mem_cons_of_mem _ hw)
  have hl := lv_entry args (n := mL) hsl
  rw [lg_entry_eq]
  generalize ((lg_sl args) ++ List.replicate (mL - (lg_sl args).length) Slot.unset).toArray = ls at hl ⊢
  refine body (p, e, ({ frames := f, cells := mc, slots := ms, locals := ll } : Room), s, m, args.toArray, below, meth, c, MQ below (va_Qv Q (PoB γ (va_A w0 s.heap.size) w1) (va_A w0 s.heap.size)) args.toArray s mc ms (va_A w0 s.heap.size), va_A w0 s.heap.size)
    ⟨B.exec, B.bytes, hml, findClass_of_methodNamed B.named, hts, hK, fun q h => Or.inr h, hE, B.notSynchronized, Nat.le_refl _, Nat.le_refl _⟩ ?_ ⟨Nat.le_refl _, Nat.le_refl _⟩ (name_of_methodNamed B.named B.method).1 s.heap [] ls hP hD0.self va_S.rf (by show lv_has ls c.maxLocals _; rw [hml]; exact hl)
  exact fun u lv k n pc d hk hn' hq H locs ls hP hD hS h => W.widen hk hn' (W.vret B.exec B.bytes B.returns (fun t ht hW => ⟨⟨u, rfl, hq, by rw [ht]; exact hP, hD⟩, hS.F ht⟩) hS.2.2 d B.notSynchronized)
theorem startX {rto : Option FieldType} {X : String → S → Prop} {w1 : S → va_W} (hy : plainName y.cls = true) (hsl : (lg_sl args).length ≤ mL)
    (body : ∀ κ : Kx, Ok γ κ cc mL y.cls f ll → XQ γ κ X w1 → G l γ κ w0 (lv_args 0 args) 0 0 [] 0) : CtX l γ y cc mL rto f ll args w0 X w1 := by
  intro sz
  refine vx_ofW (cc := cc) (maxL := mL) (ret := rto) hy rfl ?_
  intro p e s m args' below meth c s₁ B hml htab hv
  obtain ⟨rfl, hsz, hP, hK, hD0, hE⟩ := hv
  subst hsz
  have hts : ∀ w ∈ wsA, w.before args.toArray s = true := fun w hw => atoms_spec (ws := wM y cc mL rto) B.pre w (List.mem_cons_of_mem _ hw)
  have hl := lv_entry args (n := mL) hsl
  rw [lg_entry_eq]
  generalize ((lg_sl args) ++ List.replicate (mL - (lg_sl args).length) Slot.unset).toArray = ls at hl ⊢
  exact body (p, e, ({ frames := f, cells := 1, slots := 6, locals := ll } : Room), s, m, args.toArray, below, meth, c, vx_MQ below (noQ (va_A w0 s.heap.size)) (exQ γ (va_A w0 s.heap.size) X w1) args.toArray s 1 6 (va_A w0 s.heap.size), va_A w0 s.heap.size)
    ⟨B.exec, B.bytes, hml, findClass_of_methodNamed B.named, hts, hK, fun q h => Or.inr h, hE, B.notSynchronized, Nat.le_refl _, Nat.le_refl _⟩ ⟨rfl, htab, Nat.le_refl _, Nat.le_refl _⟩ s.heap [] ls hP hD0.self va_S.rf (by show lv_has ls c.maxLocals _; rw [hml]; exact hl)
theorem startH {rt : FieldType} {hh : List (Nat × Nat × Nat × Nat)} {Q : Int32 → S → Prop} {w1 : S → va_W} (hy : plainName y.cls = true) (hsl : (lg_sl args).length ≤ mL)
    (body : ∀ κ : Kx, Ok γ κ cc mL y.cls f ll → RtI l γ κ cc rt 1 6 Q w1 → 1 ≤ κ.R.cells ∧ 6 ≤ κ.R.slots → κ.c.exceptionTable.toList = tableOf hh → G l γ κ w0 (lv_args 0 args) 0 0 [] 0) : CtH l γ y cc mL rt hh f ll args w0 Q w1 := by
  intro sz
  refine vx_ofWH (cc := cc) (maxL := mL) (ret := some rt) (hh := hh) hy rfl ?_
  intro p e s m args' below meth c s₁ B hml hv
  obtain ⟨rfl, hsz, hP, hK, hD0, hE⟩ := hv
  subst hsz
  have hts0 := atoms_spec (ws := wH y cc mL (some rt) hh) B.pre
  have hts : ∀ w ∈ wsA, w.before args.toArray s = true := fun w hw => hts0 w (List.mem_cons_of_mem _ hw)
  have hl := lv_entry args (n := mL) hsl
  rw [lg_entry_eq]
  generalize ((lg_sl args) ++ List.replicate (mL - (lg_sl args).length) Slot.unset).toArray = ls at hl ⊢
  refine body (p, e, ({ frames := f, cells := 1, slots := 6, locals := ll } : Room), s, m, args.toArray, below, meth, c, vx_MQ below (va_Qi Q (PoB γ (va_A w0 s.heap.size) w1) (va_A w0 s.heap.size)) (fun _ _ _ => False) args.toArray s 1 6 (va_A w0 s.heap.size), va_A w0 s.heap.size)
    ⟨B.exec, B.bytes, hml, findClass_of_methodNamed B.named, hts, hK, fun q h => Or.inr h, hE, B.notSynchronized, Nat.le_refl _, Nat.le_refl _⟩ ?_ ⟨Nat.le_refl _, Nat.le_refl _⟩ (vx_table (x := y) B (hts0 _ List.mem_cons_self)) s.heap [] ls hP hD0.self va_S.rf (by show lv_has ls c.maxLocals _; rw [hml]; exact hl)
  exact fun v u lv k n pc d hn hk hn' hq H locs ls hP hD hS h => vx_ret (W.widen hk hn' (W.zret B.exec B.bytes B.returns hn (fun t ht hW => ⟨⟨v, u, rfl, hq, by rw [ht]; exact hP, hD⟩, hS.F ht⟩) hS.2.2 d B.notSynchronized))
end STARTS
/-! calls: first the run, then what goes on behind it -/
section RUNS
variable {l : Launch} {γ : Gm} {κ : Kx} {cc : ByteArray} {nL f ll : Nat} {own : String} {k n pc : Nat}
def RunI (l : Launch) (γ : Gm) (κ : Kx) (w0 : va_W) (k n mc ms : Nat) (st : List Value) (pc : Nat) (rest : List Value) {S : Type} (Q : Int32 → S → Prop) (w1 : S → va_W) : Prop :=
  ∀ (H : Heap) (locs : List Loc) (ls : Array Slot), va_P γ.1 vwCl w0 H → va_D (fun _ => True) w0 → Ex (va_A w0 H.size) κ.s H → ls.size = κ.c.maxLocals →
    va_Run κ.pr l κ.en κ.R κ.s κ.m κ.args κ.below κ.meth κ.c H locs k n mc ms (F0 κ.m pc ls st) rest (va_Qi Q (PoB γ (va_A w0 H.size) w1) (va_A w0 H.size) #[]) (va_A w0 H.size)
def RunV (l : Launch) (γ : Gm) (κ : Kx) (w0 : va_W) (k n mc ms : Nat) (st : List Value) (pc : Nat) (rest : List Value) {S : Type} (Q : S → Prop) (w1 : S → va_W) : Prop :=
  ∀ (H : Heap) (locs : List Loc) (ls : Array Slot), va_P γ.1 vwCl w0 H → va_D (fun _ => True) w0 → Ex (va_A w0 H.size) κ.s H → ls.size = κ.c.maxLocals →
    va_Run κ.pr l κ.en κ.R κ.s κ.m κ.args κ.below κ.meth κ.c H locs k n mc ms (F0 κ.m pc ls st) rest (va_Qv Q (PoB γ (va_A w0 H.size) w1) (va_A w0 H.size) #[]) (va_A w0 H.size)
def RunX (l : Launch) (γ : Gm) (κ : Kx) (w0 : va_W) (k n : Nat) (st : List Value) (pc : Nat) (rest : List Value) {S : Type} (X : String → S → Prop) (w1 : S → va_W) : Prop :=
  ∀ (H : Heap) (locs : List Loc) (ls : Array Slot), va_P γ.1 vwCl w0 H → va_D (fun _ => True) w0 → Ex (va_A w0 H.size) κ.s H → ls.size = κ.c.maxLocals →
    vx_Run κ.pr l κ.en κ.R κ.s κ.m κ.args κ.below κ.meth κ.c H locs k n 1 6 (F0 κ.m pc ls st) rest (noQ (va_A w0 H.size) #[]) (exQ γ (va_A w0 H.size) X w1) (va_A w0 H.size)
def RunH (l : Launch) (γ : Gm) (κ : Kx) (w0 : va_W) (k n : Nat) (st : List Value) (pc : Nat) (rest : List Value) {S : Type} (Q : Int32 → S → Prop) (w1 : S → va_W) : Prop :=
  ∀ (H : Heap) (locs : List Loc) (ls : Array Slot), va_P γ.1 vwCl w0 H → va_D (fun _ => True) w0 → Ex (va_A w0 H.size) κ.s H → ls.size = κ.c.maxLocals →
    vx_Run κ.pr l κ.en κ.R κ.s κ.m κ.args κ.below κ.meth κ.c H locs k n 1 6 (F0 κ.m pc ls st) rest (va_Qi Q (PoB γ (va_A w0 H.size) w1) (va_A w0 H.size) #[]) (fun _ _ _ => False) (va_A w0 H.size)
/-- the words of a call -/
def LkV (own : String) (ix : Nat) (y : MethodName) (bytes : ByteArray) (mL : Nat) (rt : Option FieldType) (nA : Nat) : Prop :=
  (Cond.methodLink own ix y ∈ wsA ∧ Cond.instanceMethod y ∈ wsA ∧ Cond.selects y.cls y y ∈ wsA ∧ Cond.initialized y.cls ∈ wsA ∧ Cond.code y bytes mL rt ∈ wsA) ∧ y.cls ≠ "java/lang/invoke/MethodHandle" ∧ y.cls ≠ "java/lang/invoke/VarHandle" ∧ (parseMethodDescriptor y.desc).map (fun d => d.parameters.length) = some nA
def LkS (own : String) (ix : Nat) (y : MethodName) (bytes : ByteArray) (mL : Nat) (rt : Option FieldType) (nA : Nat) : Prop :=
  (Cond.methodLink own ix y ∈ wsA ∧ Cond.static y ∈ wsA ∧ Cond.initialized y.cls ∈ wsA ∧ Cond.code y bytes mL rt ∈ wsA) ∧ y.cls ≠ "java/lang/invoke/MethodHandle" ∧ y.cls ≠ "java/lang/invoke/VarHandle" ∧ (parseMethodDescriptor y.desc).map (fun d => d.parameters.length) = some nA
def LkN (own : String) (ix : Nat) (y : MethodName) (host : String) (bytes : ByteArray) (mL : Nat) (rt : Option FieldType) (nA : Nat) : Prop :=
  (Cond.methodLinkNest own ix y host ∈ exW ∧ Cond.static y ∈ wsA ∧ Cond.initialized y.cls ∈ wsA ∧ Cond.code y bytes mL rt ∈ wsA) ∧ y.cls ≠ "java/lang/invoke/MethodHandle" ∧ y.cls ≠ "java/lang/invoke/VarHandle" ∧ (parseMethodDescriptor y.desc).map (fun d => d.parameters.length) = some nA
def LkIN (own : String) (ix : Nat) (y : MethodName) (host : String) (bytes : ByteArray) (mL : Nat) (nA : Nat) : Prop :=
  (Cond.methodLinkNest own ix y host ∈ exW ∧ Cond.instanceMethod y ∈ wsA ∧ Cond.initialized y.cls ∈ wsA ∧ Cond.code y bytes mL none ∈ wsA) ∧ y.cls ≠ "java/lang/invoke/MethodHandle" ∧ y.cls ≠ "java/lang/invoke/VarHandle" ∧ (parseMethodDescriptor y.desc).map (fun d => d.parameters.length) = some nA
def LkI (own : String) (ix : Nat) (y : MethodName) (bytes : ByteArray) (mL : Nat) (nA : Nat) : Prop :=
  (Cond.methodLink own ix y ∈ wsA ∧ Cond.instanceMethod y ∈ wsA ∧ Cond.initialized y.cls ∈ wsA ∧ Cond.code y bytes mL none ∈ wsA) ∧ y.cls ≠ "java/lang/invoke/MethodHandle" ∧ y.cls ≠ "java/lang/invoke/VarHandle" ∧ (parseMethodDescriptor y.desc).map (fun d => d.parameters.length) = some nA
def LkH (own : String) (ix : Nat) (y : MethodName) (bytes : ByteArray) (mL : Nat) (rt : Option FieldType) (hh : List (Nat × Nat × Nat × Nat)) (nA : Nat) : Prop :=
  (Cond.methodLink own ix y ∈ wsA ∧ Cond.static y ∈ wsA ∧ Cond.initialized y.cls ∈ wsA ∧ Cond.codeWith y bytes mL rt hh ∈ wsA) ∧ y.cls ≠ "java/lang/invoke/MethodHandle" ∧ y.cls ≠ "java/lang/invoke/VarHandle" ∧ (parseMethodDescriptor y.desc).map (fun d => d.parameters.length) = some nA
theorem LkV.good {own : String} {ix : Nat} {y : MethodName} {bytes : ByteArray} {mL nA : Nat} {rt : Option FieldType} (h : LkV own ix y bytes mL rt nA) : GoodIn wsA (wsV own ix y.cls y (wM y bytes mL rt)) := by
  obtain ⟨⟨h1, h2, h3, h4, h5⟩, -⟩ := h
  intro w hw
  unfold wsV at hw
  rcases List.mem_append.mp hw with hw | hw
  · simp only [List.mem_cons, List.not_mem_nil, or_false] at hw
    rcases hw with rfl | rfl | rfl | rfl
    · exact gA _ h1
    · exact gA _ h2
    · exact gA _ h3
    · exact gA _ h4
  · exact gC h5 w hw
theorem LkS.good {own : String} {ix : Nat} {y : MethodName} {bytes : ByteArray} {mL nA : Nat} {rt : Option FieldType} (h : LkS own ix y bytes mL rt nA) : GoodIn wsA (va_wsS own ix y (wM y bytes mL rt)) := by
  obtain ⟨⟨h1, h2, h3, h5⟩, -⟩ := h
  intro w hw
  unfold va_wsS at hw
  rcases List.mem_append.mp hw with hw | hw
  · simp only [List.mem_cons, List.not_mem_nil, or_false] at hw
    rcases hw with rfl | rfl | rfl
    · exact gA _ h1
    · exact gA _ h2
    · exact gA _ h3
  · exact gC h5 w hw
theorem LkH.good {own : String} {ix : Nat} {y : MethodName} {bytes : ByteArray} {mL nA : Nat} {rt : Option FieldType} {hh : List (Nat × Nat × Nat × Nat)} (h : LkH own ix y bytes mL rt hh nA) : GoodIn wsA (va_wsS own ix y (wH y bytes mL rt hh)) := by
  obtain ⟨⟨h1, h2, h3, h5⟩, -⟩ := h
  intro w hw
  unfold va_wsS at hw
  rcases List.mem_append.mp hw with hw | hw
  · simp only [List.mem_cons, List.not_mem_nil, or_false] at hw
    rcases hw with rfl | rfl | rfl
    · exact gA _ h1
    · exact gA _ h2
    · exact gA _ h3
  · exact gC h5 w hw
theorem preOf {w0 : va_W} {H : Heap} {args : List Value} (C : Ok γ κ cc nL own f ll) (hP : va_P γ.1 vwCl w0 H) (hD : va_D (fun _ => True) w0) (hE : Ex (va_A w0 H.size) κ.s H) : ∀ U : State, U.heap = H → κ.s.WarmedH U.vm → va_Pc args (Pre γ w0 H.size) args.toArray U :=
  fun U hU hW => ⟨rfl, by rw [hU], by rw [hU]; exact hP, va_K.moved hW.alike C.2.2.2.2.2.1, hD, by rw [hU]; exact Ex.warm hW hE⟩
variable {y : MethodName} {bytes : ByteArray} {mL fc lc ix nA b mc ms : Nat} {As rest st : List Value} {w0 : va_W} {S : Type}
theorem run_VI (C : Ok γ κ cc nL own f ll) {rt : FieldType} {Q : Int32 → S → Prop} {w1 : S → va_W} (hw : LkV own ix y bytes mL (some rt) nA) (hM : CtI l γ y bytes mL rt fc lc mc ms (.ref b :: As) w0 Q w1) (hf : fc + 1 ≤ f ∧ 8 + (mL + 11) + lc ≤ ll)
    {ci N : Nat} {fs : List Value} {T : u_T} (he : w0[0]? = some (b, .inr (ci, fs))) (hcl : vwCl[ci]? = some (y.cls, T, N)) (hst : st = As.reverse ++ .ref b :: rest) (hlen : As.length = nA) (hcat : (rest.map fun v => v.category).sum ≤ 8) (hk : k + mc ≤ κ.R.cells ∧ n + ms ≤ κ.R.slots)
    (d : decode cc pc = .ok (.invokevirtual ix, 3)) : RunI l γ κ w0 k n mc ms st pc rest Q w1 := fun H locs ls hP hD hE hsz =>
  va_runV (As := As) (rest := rest) (n := nA) ⟨C.1, C.2.1, rfl, C.2.2.2.1, C.2.2.2.2.1⟩ (hM H.size) (cwV nA C.2.2.2.2.1 hw.good rfl rfl rfl ⟨rfl, hw.2.1, hw.2.2.1, hw.2.2.2⟩ ⟨Nat.le_trans hf.1 C.2.2.2.2.2.2.2.2.2.1, Nat.le_trans hf.2 C.2.2.2.2.2.2.2.2.2.2⟩)
    ⟨Pre.blind, va_recv C.2.2.2.2.2.1 hP hcl he, preOf C hP hD hE⟩ rfl hlen hsz hst (lv_room hcat) d hk
theorem run_VV (C : Ok γ κ cc nL own f ll) {Q : S → Prop} {w1 : S → va_W} (hw : LkV own ix y bytes mL none nA) (hM : CtV l γ y bytes mL fc lc mc ms (.ref b :: As) w0 Q w1) (hf : fc + 1 ≤ f ∧ 8 + (mL + 11) + lc ≤ ll)
    {ci N : Nat} {fs : List Value} {T : u_T} (he : w0[0]? = some (b, .inr (ci, fs))) (hcl : vwCl[ci]? = some (y.cls, T, N)) (hst : st = As.reverse ++ .ref b :: rest) (hlen : As.length = nA) (hcat : (rest.map fun v => v.category).sum ≤ 8) (hk : k + mc ≤ κ.R.cells ∧ n + ms ≤ κ.R.slots)
    (d : decode cc pc = .ok (.invokevirtual ix, 3)) : RunV l γ κ w0 k n mc ms st pc rest Q w1 := fun H locs ls hP hD hE hsz =>
  va_runV (As := As) (rest := rest) (n := nA) ⟨C.1, C.2.1, rfl, C.2.2.2.1, C.2.2.2.2.1⟩ (hM H.size) (cwV nA C.2.2.2.2.1 hw.good rfl rfl rfl ⟨rfl, hw.2.1, hw.2.2.1, hw.2.2.2⟩ ⟨Nat.le_trans hf.1 C.2.2.2.2.2.2.2.2.2.1, Nat.le_trans hf.2 C.2.2.2.2.2.2.2.2.2.2⟩)
    ⟨Pre.blind, va_recv C.2.2.2.2.2.1 hP hcl he, preOf C hP hD hE⟩ rfl hlen hsz hst (lv_room hcat) d hk
theorem run_VX (C : Ok γ κ cc nL own f ll) {rto : Option FieldType} {X : String → S → Prop} {w1 : S → va_W} (hw : LkV own ix y bytes mL rto nA) (hM : CtX l γ y bytes mL rto fc lc (.ref b :: As) w0 X w1) (hf : fc + 1 ≤ f ∧ 8 + (mL + 11) + lc ≤ ll)
    {ci N : Nat} {fs : List Value} {T : u_T} (he : w0[0]? = some (b, .inr (ci, fs))) (hcl : vwCl[ci]? = some (y.cls, T, N)) (hst : st = As.reverse ++ .ref b :: rest) (hlen : As.length = nA) (hcat : (rest.map fun v => v.category).sum ≤ 8) (hk : k + 1 ≤ κ.R.cells ∧ n + 6 ≤ κ.R.slots)
    (d : decode cc pc = .ok (.invokevirtual ix, 3)) : RunX l γ κ w0 k n st pc rest X w1 := fun H locs ls hP hD hE hsz =>
  vx_runV (As := As) (rest := rest) (n := nA) ⟨C.1, C.2.1, rfl, C.2.2.2.1, C.2.2.2.2.1⟩ (hM H.size) (cwV nA C.2.2.2.2.1 hw.good rfl rfl rfl ⟨rfl, hw.2.1, hw.2.2.1, hw.2.2.2⟩ ⟨Nat.le_trans hf.1 C.2.2.2.2.2.2.2.2.2.1, Nat.le_trans hf.2 C.2.2.2.2.2.2.2.2.2.2⟩)
    ⟨Pre.blind, va_recv C.2.2.2.2.2.1 hP hcl he, preOf C hP hD hE⟩ rfl hlen hsz hst (lv_room hcat) d hk
theorem run_SI (C : Ok γ κ cc nL own f ll) {rt : FieldType} {Q : Int32 → S → Prop} {w1 : S → va_W} (hw : LkS own ix y bytes mL (some rt) nA) (hM : CtI l γ y bytes mL rt fc lc mc ms As w0 Q w1) (hf : fc + 1 ≤ f ∧ 8 + (mL + 11) + lc ≤ ll)
    (hst : st = As.reverse ++ rest) (hlen : As.length = nA) (hcat : (rest.map fun v => v.category).sum ≤ 8) (hk : k + mc ≤ κ.R.cells ∧ n + ms ≤ κ.R.slots)
    (d : decode cc pc = .ok (.invokestatic ix, 3)) : RunI l γ κ w0 k n mc ms st pc rest Q w1 := fun H locs ls hP hD hE hsz =>
  va_runS (As := As) (rest := rest) (n := nA) ⟨C.1, C.2.1, rfl, C.2.2.2.1, C.2.2.2.2.1⟩ (hM H.size) (va_cwS nA C.2.2.2.2.1 hw.good rfl rfl rfl ⟨hw.2.1, hw.2.2.1, hw.2.2.2⟩ ⟨Nat.le_trans hf.1 C.2.2.2.2.2.2.2.2.2.1, Nat.le_trans hf.2 C.2.2.2.2.2.2.2.2.2.2⟩)
    ⟨Pre.blind, preOf C hP hD hE⟩ rfl hlen hsz hst (lv_room hcat) d hk
theorem run_SV (C : Ok γ κ cc nL own f ll) {Q : S → Prop} {w1 : S → va_W} (hw : LkS own ix y bytes mL none nA) (hM : CtV l γ y bytes mL fc lc mc ms As w0 Q w1) (hf : fc + 1 ≤ f ∧ 8 + (mL + 11) + lc ≤ ll)
    (hst : st = As.reverse ++ rest) (hlen : As.length = nA) (hcat : (rest.map fun v => v.category).sum ≤ 8) (hk : k + mc ≤ κ.R.cells ∧ n + ms ≤ κ.R.slots)
    (d : decode cc pc = .ok (.invokestatic ix, 3)) : RunV l γ κ w0 k n mc ms st pc rest Q w1 := fun H locs ls hP hD hE hsz =>
  va_runS (As := As) (rest := rest) (n := nA) ⟨C.1, C.2.1, rfl, C.2.2.2.1, C.2.2.2.2.1⟩ (hM H.size) (va_cwS nA C.2.2.2.2.1 hw.good rfl rfl rfl ⟨hw.2.1, hw.2.2.1, hw.2.2.2⟩ ⟨Nat.le_trans hf.1 C.2.2.2.2.2.2.2.2.2.1, Nat.le_trans hf.2 C.2.2.2.2.2.2.2.2.2.2⟩)
    ⟨Pre.blind, preOf C hP hD hE⟩ rfl hlen hsz hst (lv_room hcat) d hk
theorem run_SX (C : Ok γ κ cc nL own f ll) {rto : Option FieldType} {X : String → S → Prop} {w1 : S → va_W} (hw : LkS own ix y bytes mL rto nA) (hM : CtX l γ y bytes mL rto fc lc As w0 X w1) (hf : fc + 1 ≤ f ∧ 8 + (mL + 11) + lc ≤ ll)
    (hst : st = As.reverse ++ rest) (hlen : As.length = nA) (hcat : (rest.map fun v => v.category).sum ≤ 8) (hk : k + 1 ≤ κ.R.cells ∧ n + 6 ≤ κ.R.slots)
    (d : decode cc pc = .ok (.invokestatic ix, 3)) : RunX l γ κ w0 k n st pc rest X w1 := fun H locs ls hP hD hE hsz =>
  vx_runS (As := As) (rest := rest) (n := nA) ⟨C.1, C.2.1, rfl, C.2.2.2.1, C.2.2.2.2.1⟩ (hM H.size) (va_cwS nA C.2.2.2.2.1 hw.good rfl rfl rfl ⟨hw.2.1, hw.2.2.1, hw.2.2.2⟩ ⟨Nat.le_trans hf.1 C.2.2.2.2.2.2.2.2.2.1, Nat.le_trans hf.2 C.2.2.2.2.2.2.2.2.2.2⟩)
    ⟨Pre.blind, preOf C hP hD hE⟩ rfl hlen hsz hst (lv_room hcat) d hk
theorem run_SH (C : Ok γ κ cc nL own f ll) {rt : FieldType} {hh : List (Nat × Nat × Nat × Nat)} {Q : Int32 → S → Prop} {w1 : S → va_W} (hw : LkH own ix y bytes mL (some rt) hh nA) (hM : CtH l γ y bytes mL rt hh fc lc As w0 Q w1) (hf : fc + 1 ≤ f ∧ 8 + (mL + 11) + lc ≤ ll)
    (hst : st = As.reverse ++ rest) (hlen : As.length = nA) (hcat : (rest.map fun v => v.category).sum ≤ 8) (hk : k + 1 ≤ κ.R.cells ∧ n + 6 ≤ κ.R.slots)
    (d : decode cc pc = .ok (.invokestatic ix, 3)) : RunH l γ κ w0 k n st pc rest Q w1 := fun H locs ls hP hD hE hsz =>
  vx_runSX (As := As) (rest := rest) (n := nA) ⟨C.1, C.2.1, rfl, C.2.2.2.1, C.2.2.2.2.1⟩ (hM H.size) (vx_cwSW nA C.2.2.2.2.1 hw.good rfl rfl rfl ⟨hw.2.1, hw.2.2.1, hw.2.2.2⟩ ⟨Nat.le_trans hf.1 C.2.2.2.2.2.2.2.2.2.1, Nat.le_trans hf.2 C.2.2.2.2.2.2.2.2.2.2⟩)
    ⟨Pre.blind, preOf C hP hD hE⟩ rfl hlen hsz hst (lv_room hcat) d hk
theorem run_NI (C : Ok γ κ cc nL own f ll) {host : String} {rt : FieldType} {Q : Int32 → S → Prop} {w1 : S → va_W} (hw : LkN own ix y host bytes mL (some rt) nA) (hM : CtI l γ y bytes mL rt fc lc mc ms As w0 Q w1) (hf : fc + 1 ≤ f ∧ 8 + (mL + 11) + lc ≤ ll)
    (hst : st = As.reverse ++ rest) (hlen : As.length = nA) (hcat : (rest.map fun v => v.category).sum ≤ 8) (hk : k + mc ≤ κ.R.cells ∧ n + ms ≤ κ.R.slots)
    (d : decode cc pc = .ok (.invokestatic ix, 3)) : RunI l γ κ w0 k n mc ms st pc rest Q w1 := fun H locs ls hP hD hE hsz =>
  va_runSN (As := As) (rest := rest) (n := nA) (host := host) ⟨C.1, C.2.1, rfl, C.2.2.2.1, C.2.2.2.2.1⟩ (hM H.size) ⟨va_cnB nA C.2.2.2.2.1 (gC hw.1.2.2.2) rfl rfl rfl (hE.1 _ hw.1.1) (C.2.2.2.2.1 _ hw.1.2.2.1) ⟨hw.2.1, hw.2.2.1, hw.2.2.2⟩ ⟨Nat.le_trans hf.1 C.2.2.2.2.2.2.2.2.2.1, Nat.le_trans hf.2 C.2.2.2.2.2.2.2.2.2.2⟩, C.2.2.2.2.1 _ hw.1.2.1, trivial⟩
    ⟨Pre.blind, preOf C hP hD hE⟩ rfl hlen hsz hst (lv_room hcat) d hk
theorem run_INV (C : Ok γ κ cc nL own f ll) {host : String} {Q : S → Prop} {w1 : S → va_W} (hw : LkIN own ix y host bytes mL nA) (hyi : y.name = "<init>") (hM : CtV l γ y bytes mL fc lc mc ms (.ref b :: As) w0 Q w1) (hf : fc + 1 ≤ f ∧ 8 + (mL + 11) + lc ≤ ll)
    (hst : st = As.reverse ++ .ref b :: rest) (hlen : As.length = nA) (hcat : (rest.map fun v => v.category).sum ≤ 8) (hk : k + mc ≤ κ.R.cells ∧ n + ms ≤ κ.R.slots)
    (d : decode cc pc = .ok (.invokespecial ix, 3)) : RunV l γ κ w0 k n mc ms st pc rest Q w1 := fun H locs ls hP hD hE hsz =>
  va_runIN (As := As) (rest := rest) (n := nA) (host := host) ⟨C.1, C.2.1, rfl, C.2.2.2.1, C.2.2.2.2.1⟩ (hM H.size) ⟨va_cnB nA C.2.2.2.2.1 (gC hw.1.2.2.2) rfl rfl rfl (hE.1 _ hw.1.1) (C.2.2.2.2.1 _ hw.1.2.2.1) ⟨hw.2.1, hw.2.2.1, hw.2.2.2⟩ ⟨Nat.le_trans hf.1 C.2.2.2.2.2.2.2.2.2.1, Nat.le_trans hf.2 C.2.2.2.2.2.2.2.2.2.2⟩, hyi, C.2.2.2.2.1 _ hw.1.2.1⟩
    ⟨Pre.blind, preOf C hP hD hE⟩ rfl hlen hsz hst (lv_room hcat) d hk
theorem run_IV (C : Ok γ κ cc nL own f ll) {Q : S → Prop} {w1 : S → va_W} (hw : LkI own ix y bytes mL nA) (hyi : y.name = "<init>") (hM : CtV l γ y bytes mL fc lc mc ms (.ref b :: As) w0 Q w1) (hf : fc + 1 ≤ f ∧ 8 + (mL + 11) + lc ≤ ll)
    (hst : st = As.reverse ++ .ref b :: rest) (hlen : As.length = nA) (hcat : (rest.map fun v => v.category).sum ≤ 8) (hk : k + mc ≤ κ.R.cells ∧ n + ms ≤ κ.R.slots)
    (d : decode cc pc = .ok (.invokespecial ix, 3)) : RunV l γ κ w0 k n mc ms st pc rest Q w1 := fun H locs ls hP hD hE hsz =>
  va_runI (As := As) (rest := rest) (n := nA) ⟨C.1, C.2.1, rfl, C.2.2.2.1, C.2.2.2.2.1⟩ (hM H.size) (cwI nA C.2.2.2.2.1 (gC hw.1.2.2.2) rfl rfl rfl (C.2.2.2.2.1 _ hw.1.2.2.1) (C.2.2.2.2.1 _ hw.1.1) (C.2.2.2.2.1 _ hw.1.2.1) hyi ⟨hw.2.1, hw.2.2.1, hw.2.2.2⟩ ⟨Nat.le_trans hf.1 C.2.2.2.2.2.2.2.2.2.1, Nat.le_trans hf.2 C.2.2.2.2.2.2.2.2.2.2⟩)
    ⟨Pre.blind, preOf C hP hD hE⟩ rfl hlen hsz hst (lv_room hcat) d hk
end RUNS
end
section
/-! what goes on behind a call; throws -/
section AFTER
variable {l : Launch} {γ : Gm} {κ : Kx} {cc : ByteArray} {nL f ll : Nat} {own : String} {k n mc ms pc pc' : Nat} {st rest : List Value} {lv : List (Nat × Value)} {ws w0 wr : va_W} {S : Type}
theorem aft_pre (C : Ok γ κ cc nL own f ll) {H : Heap} {locs : List Loc} (hP : va_P γ.1 vwCl ws H) (hD : va_D κ.A ws) (hS : va_S κ.A κ.s.heap H locs) (isC : List Nat) (hC : isC.map (fun i => ws[i]?) = w0.map some) (hn : va_nd isC = true) :
    va_P γ.1 vwCl w0 H ∧ va_D (fun _ => True) w0 ∧ Ex (va_A w0 H.size) κ.s H ∧ ∀ q, va_A w0 H.size q → κ.A q := by
  have hF := va_free (wc := w0) hD hS C.2.2.2.2.2.2.1 isC hC
  exact ⟨va_Psub hP isC hC, (hD.sub isC hn hC).weaken (fun _ _ _ _ => trivial), (C.2.2.2.2.2.2.2.1.kept hS.2.1).narrow hF, hF⟩
/-- a callee whose world is the places isC of ours; isR the other places; pm puts them in order again -/
theorem aftI (C : Ok γ κ cc nL own f ll) {Q : Int32 → S → Prop} {w1 : S → va_W} (hr : RunI l γ κ w0 k n mc ms st pc rest Q w1) (hp : pc' = pc + 3) (isC isR pm : List Nat) (hC : isC.map (fun i => ws[i]?) = w0.map some) (hR : isR.map (fun i => ws[i]?) = wr.map some)
    (hnd : va_nd isC = true ∧ va_nd isR = true ∧ va_nd pm = true) (hdis : ∀ i ∈ isR, i ∉ isC) {ws1 : S → va_W} (hpm : ∀ u, pm.map (fun i => (wr ++ w1 u)[i]?) = (ws1 u).map some)
    (kk : ∀ (r : Int32) (u : S), Q r u → G l γ κ (ws1 u) lv (k + mc) (n + ms) (.int r :: rest) pc') : G l γ κ ws lv k n st pc := by
  subst hp
  intro H locs ls hP hD hS h
  obtain ⟨a1, a2, a3, hF⟩ := aft_pre C hP hD hS isC hC hnd.1
  refine va_calli (hr H locs ls a1 a2 a3 h.1) hS (fun q _ hq => hF q hq) hF (fun r u t H1 locs1 ht hvm hq hB hz hk1 hS1 => ?_)
  obtain ⟨hP1, hD1⟩ := hB
  rw [ht] at hP1
  obtain ⟨hPj, hDj⟩ := va_join (wr := wr) (w1 := w1 u) hP hD isC isR hC hR hnd.2.1 hdis hk1 hF hP1 hD1
  exact kk r u hq H1 locs1 ls (va_Psub hPj pm (hpm u)) (hDj.sub pm hnd.2.2 (hpm u)) hS1 h
theorem aftV (C : Ok γ κ cc nL own f ll) {Q : S → Prop} {w1 : S → va_W} (hr : RunV l γ κ w0 k n mc ms st pc rest Q w1) (hp : pc' = pc + 3) (isC isR pm : List Nat) (hC : isC.map (fun i => ws[i]?) = w0.map some) (hR : isR.map (fun i => ws[i]?) = wr.map some)
    (hnd : va_nd isC = true ∧ va_nd isR = true ∧ va_nd pm = true) (hdis : ∀ i ∈ isR, i ∉ isC) {ws1 : S → va_W} (hpm : ∀ u, pm.map (fun i => (wr ++ w1 u)[i]?) = (ws1 u).map some)
    (kk : ∀ (u : S), Q u → G l γ κ (ws1 u) lv (k + mc) (n + ms) rest pc') : G l γ κ ws lv k n st pc := by
  subst hp
  intro H locs ls hP hD hS h
  obtain ⟨a1, a2, a3, hF⟩ := aft_pre C hP hD hS isC hC hnd.1
  refine va_callv (hr H locs ls a1 a2 a3 h.1) hS (fun q _ hq => hF q hq) hF (fun u t H1 locs1 ht hvm hq hB hz hk1 hS1 => ?_)
  obtain ⟨hP1, hD1⟩ := hB
  rw [ht] at hP1
  obtain ⟨hPj, hDj⟩ := va_join (wr := wr) (w1 := w1 u) hP hD isC isR hC hR hnd.2.1 hdis hk1 hF hP1 hD1
  exact kk u hq H1 locs1 ls (va_Psub hPj pm (hpm u)) (hDj.sub pm hnd.2.2 (hpm u)) hS1 h
/-- a callee with a table of its own -/
theorem aftH (C : Ok γ κ cc nL own f ll) {Q : Int32 → S → Prop} {w1 : S → va_W} (hr : RunH l γ κ w0 k n st pc rest Q w1) (hp : pc' = pc + 3) (isC isR pm : List Nat) (hC : isC.map (fun i => ws[i]?) = w0.map some) (hR : isR.map (fun i => ws[i]?) = wr.map some)
    (hnd : va_nd isC = true ∧ va_nd isR = true ∧ va_nd pm = true) (hdis : ∀ i ∈ isR, i ∉ isC) {ws1 : S → va_W} (hpm : ∀ u, pm.map (fun i => (wr ++ w1 u)[i]?) = (ws1 u).map some)
    (kk : ∀ (r : Int32) (u : S), Q r u → G l γ κ (ws1 u) lv (k + 1) (n + 6) (.int r :: rest) pc') : G l γ κ ws lv k n st pc := by
  subst hp
  intro H locs ls hP hD hS h
  obtain ⟨a1, a2, a3, hF⟩ := aft_pre C hP hD hS isC hC hnd.1
  intro T hT X
  rcases hr H locs ls a1 a2 a3 h.1 T hT X with ⟨v, st₀, t, T', L, h0, X', hL, e1, e2, ⟨⟨r, u, hv, hq, hB⟩, hFr⟩, stp⟩ | ⟨q, st₀, t, T', L, E, ce, h0, X', hL, e1, e2, hx, -⟩
  · cases hv
    obtain ⟨k1, k2, k3⟩ := vx_keep h0 e1 hS (fun q _ hq => hF q hq) hF hL hFr
    obtain ⟨hP1, hD1⟩ := hB
    rw [← e1] at hP1
    obtain ⟨hPj, hDj⟩ := va_join (wr := wr) (w1 := w1 u) hP hD isC isR hC hR hnd.2.1 hdis k2 hF hP1 hD1
    obtain ⟨t2, b1, b2⟩ := kk r u hq T'.heap (locs ++ L) ls (va_Psub hPj pm (hpm u)) (hDj.sub pm hnd.2.2 (hpm u)) k3 h T' rfl X'
    exact ⟨t2, stp t2 b1, b2⟩
  · exact hx.elim
/-- a callee whose world is all of ours -/
theorem sameI (C : Ok γ κ cc nL own f ll) {Q : Int32 → S → Prop} {w1 : S → va_W} (hr : RunI l γ κ ws k n mc ms st pc rest Q w1) (hp : pc' = pc + 3)
    (kk : ∀ (r : Int32) (u : S), Q r u → G l γ κ (w1 u) lv (k + mc) (n + ms) (.int r :: rest) pc') : G l γ κ ws lv k n st pc := by
  subst hp
  intro H locs ls hP hD hS h
  have hF : ∀ q, va_A ws H.size q → κ.A q := by
    intro q hq
    rcases hq with ⟨k2, e, hq⟩ | hq
    · exact hD.2 k2 _ hq
    · exact C.2.2.2.2.2.2.1 q (Nat.le_trans hS.1 hq)
  refine va_calli (hr H locs ls hP (hD.weaken (fun _ _ _ _ => trivial)) ((C.2.2.2.2.2.2.2.1.kept hS.2.1).narrow hF) h.1) hS (fun q _ hq => hF q hq) hF (fun r u t H1 locs1 ht hvm hq hB hz hk1 hS1 => ?_)
  obtain ⟨hP1, hD1⟩ := hB
  rw [ht] at hP1
  exact kk r u hq H1 locs1 ls hP1 (hD1.weaken (fun _ q _ hq => hF q.1 hq)) hS1 h
theorem sameV (C : Ok γ κ cc nL own f ll) {Q : S → Prop} {w1 : S → va_W} (hr : RunV l γ κ ws k n mc ms st pc rest Q w1) (hp : pc' = pc + 3)
    (kk : ∀ (u : S), Q u → G l γ κ (w1 u) lv (k + mc) (n + ms) rest pc') : G l γ κ ws lv k n st pc := by
  subst hp
  intro H locs ls hP hD hS h
  have hF : ∀ q, va_A ws H.size q → κ.A q := by
    intro q hq
    rcases hq with ⟨k2, e, hq⟩ | hq
    · exact hD.2 k2 _ hq
    · exact C.2.2.2.2.2.2.1 q (Nat.le_trans hS.1 hq)
  refine va_callv (hr H locs ls hP (hD.weaken (fun _ _ _ _ => trivial)) ((C.2.2.2.2.2.2.2.1.kept hS.2.1).narrow hF) h.1) hS (fun q _ hq => hF q hq) hF (fun u t H1 locs1 ht hvm hq hB hz hk1 hS1 => ?_)
  obtain ⟨hP1, hD1⟩ := hB
  rw [ht] at hP1
  exact kk u hq H1 locs1 ls hP1 (hD1.weaken (fun _ q _ hq => hF q.1 hq)) hS1 h
theorem no_A {H : Heap} {q : Nat} (h : q < H.size) : ¬ va_A [] H.size q := fun z => by
  rcases z with ⟨k2, e, hq⟩ | hq
  · simp at hq
  · omega
/-- a callee without a world -/
theorem noneI (C : Ok γ κ cc nL own f ll) {Q : Int32 → S → Prop} {w1 : S → va_W} (hr : RunI l γ κ [] k n mc ms st pc rest Q w1) (hp : pc' = pc + 3)
    (kk : ∀ (r : Int32) (u : S), Q r u → G l γ κ ws lv (k + mc) (n + ms) (.int r :: rest) pc') : G l γ κ ws lv k n st pc := by
  subst hp
  intro H locs ls hP hD hS h
  obtain ⟨a1, a2, a3, hF⟩ := aft_pre (w0 := []) C hP hD hS [] rfl rfl
  refine va_calli (hr H locs ls a1 a2 a3 h.1) hS (fun q _ hq => hF q hq) hF (fun r u t H1 locs1 ht hvm hq hB hz hk1 hS1 => ?_)
  exact kk r u hq H1 locs1 ls (hP.kept fun k2 q hk2 => hk1 q.1 (hP k2 q hk2).lt (no_A (hP k2 q hk2).lt)) hD hS1 h
theorem noneV (C : Ok γ κ cc nL own f ll) {Q : S → Prop} {w1 : S → va_W} (hr : RunV l γ κ [] k n mc ms st pc rest Q w1) (hp : pc' = pc + 3)
    (kk : ∀ (u : S), Q u → G l γ κ ws lv (k + mc) (n + ms) rest pc') : G l γ κ ws lv k n st pc := by
  subst hp
  intro H locs ls hP hD hS h
  obtain ⟨a1, a2, a3, hF⟩ := aft_pre (w0 := []) C hP hD hS [] rfl rfl
  refine va_callv (hr H locs ls a1 a2 a3 h.1) hS (fun q _ hq => hF q hq) hF (fun u t H1 locs1 ht hvm hq hB hz hk1 hS1 => ?_)
  exact kk u hq H1 locs1 ls (hP.kept fun k2 q hk2 => hk1 q.1 (hP k2 q hk2).lt (no_A (hP k2 q hk2).lt)) hD hS1 h
/-- a callee that throws, not caught here: its world is all of ours -/
theorem sameX (C : Ok γ κ cc nL own f ll) {S' : Type} {X : String → S → Prop} {w1 : S → va_W} {X' : String → S' → Prop} {w' : S' → va_W} (hX : XQ γ κ X' w') (hr : RunX l γ κ ws 0 0 st pc rest X w1)
    (kx : ∀ (E : String) (u : S), X E u → ∃ u', X' E u' ∧ w1 u = w' u') : G l γ κ ws lv 0 0 st pc := by
  intro H locs ls hP hD hS h
  have hF : ∀ q, va_A ws H.size q → κ.A q := by
    intro q hq
    rcases hq with ⟨k2, e, hq⟩ | hq
    · exact hD.2 k2 _ hq
    · exact C.2.2.2.2.2.2.1 q (Nat.le_trans hS.1 hq)
  rw [hX.1]
  refine vx_callv (hr H locs ls hP (hD.weaken (fun _ _ _ _ => trivial)) ((C.2.2.2.2.2.2.2.1.kept hS.2.1).narrow hF) h.1) hS (fun q _ hq => hF q hq) hF (fun q _ hq => hF q hq) (fun E ce q9 u t H1 locs1 ht hvm hpx hB hz hk1 hS1 hce hcv hcl => ?_) (fun u t H1 locs1 ht hvm hq => hq.elim)
  obtain ⟨rfl, hP1, hD1⟩ := hB
  obtain ⟨u', hx', hw'⟩ := kx _ _ hpx
  rw [ht, hw'] at hP1
  rw [hw'] at hD1
  exact vx_out (fun x hx => (hX.2.1 x hx).elim) C.2.2.2.2.2.2.2.2.1 hce hcv hcl (fun t' ht' _ => ⟨(u.1, u'), hx', ⟨rfl, by rw [ht']; exact hP1, hD1.weaken (fun _ q _ hq => hF q.1 hq)⟩, hS1.F ht'⟩) hS1.2.2 (Nat.le_refl _) (Nat.le_refl _)
/-- .. it has no world -/
theorem noneX (C : Ok γ κ cc nL own f ll) {S' : Type} {X : String → S → Prop} {w1 : S → va_W} {X' : String → S' → Prop} {w' : S' → va_W} (hX : XQ γ κ X' w') (hr : RunX l γ κ [] 0 0 st pc rest X w1)
    (kx : ∀ (E : String) (u : S), X E u → ∃ u', X' E u' ∧ ws = w' u') : G l γ κ ws lv 0 0 st pc := by
  intro H locs ls hP hD hS h
  obtain ⟨a1, a2, a3, hF⟩ := aft_pre (w0 := []) C hP hD hS [] rfl rfl
  rw [hX.1]
  refine vx_callv (hr H locs ls a1 a2 a3 h.1) hS (fun q _ hq => hF q hq) hF (fun q _ hq => hF q hq) (fun E ce q9 u t H1 locs1 ht hvm hpx hB hz hk1 hS1 hce hcv hcl => ?_) (fun u t H1 locs1 ht hvm hq => hq.elim)
  obtain ⟨rfl, -⟩ := hB
  obtain ⟨u', hx', hw'⟩ := kx _ _ hpx
  have hP1 := hP.kept (H1 := H1) fun k2 q hk2 => hk1 q.1 (hP k2 q hk2).lt (no_A (hP k2 q hk2).lt)
  rw [hw'] at hP1
  have hD1 := hD
  rw [hw'] at hD1
  exact vx_out (fun x hx => (hX.2.1 x hx).elim) C.2.2.2.2.2.2.2.2.1 hce hcv hcl (fun t' ht' _ => ⟨(u.1, u'), hx', ⟨rfl, by rw [ht']; exact hP1, hD1⟩, hS1.F ht'⟩) hS1.2.2 (Nat.le_refl _) (Nat.le_refl _)
/-- the words of a throw in BudgetBook -/
def ThW (E : String) (ik is ic : Nat) (text : String) : Prop := Bundle.fit E = true ∧ Cond.classLink RX3 ik E ∈ wsA ∧ Cond.initialized E ∈ wsA ∧ (∀ w ∈ (vx_atS RX3 ic E eUp).filter goodWord, w ∈ wsA) ∧
  (∀ w ∈ (vx_atS RX3 ic E eUp).filter (fun w => !goodWord w), w ∈ exW) ∧ (∀ w ∈ Cond.classLink RX3 ik E :: Cond.initialized E :: vx_atS RX3 ic E eUp, vx_ot w = true) ∧ (is, text) ∈ exS
theorem exW_on : ∀ w ∈ exW, w.onTables = true := by
  intro w hw
  simp only [exW, List.mem_cons, List.not_mem_nil, or_false] at hw
  rcases hw with rfl | rfl | rfl | rfl | rfl | rfl | rfl | rfl | rfl | rfl | rfl <;> rfl
theorem g_throw (hfl : l.stackTraces = false) (C : Ok γ κ cc nL RX3 f ll) {S' : Type} {X : String → S' → Prop} {w' : S' → va_W} (hX : XQ γ κ X w') (u : S') {E text : String} {ik is ic : Nat} (hT : ThW E ik is ic text) (hf : 6 ≤ f ∧ 82 ≤ ll)
    (d0 : decode cc pc = .ok (.new ik, 3)) (d3 : decode cc (pc + 3) = .ok (.dup, 1)) (d4 : decode cc (pc + 4) = .ok (.ldc is, 2)) (d6 : decode cc (pc + 6) = .ok (.invokespecial ic, 3)) (d9 : decode cc (pc + 9) = .ok (.athrow, 1))
    (hw : ws = w' u) (hx : X E u) : G l γ κ ws lv 0 0 [] pc := by
  subst hw
  obtain ⟨t1, t2, t3, t4, t5, t6, t7⟩ := hT
  have hts := C.2.2.2.2.1
  have hE := C.2.2.2.2.2.2.2.1
  obtain ⟨sa, hsa⟩ := hE.2.1 _ t7
  intro H locs ls hP hD hS h
  rw [hX.1]
  exact vx_throwS (names := eUp) C.1 C.2.1 hfl C.2.2.2.1 t1 (by decide +kernel) (hts _ t2) (hts _ t3) hsa (vx_hat (fun w hw => hts w (t4 w hw)) t5 (fun w hw => va_Nw.use (exW_on w hw) (hE.1 w hw))) t6 hE.2.2.2.1 hE.2.2.2.2 hS h.1 d0 d3 d4 d6 d9
    (fun x hx => (hX.2.1 x hx).elim) (show 2 + 3 < κ.R.frames from Nat.lt_of_lt_of_le (by omega) C.2.2.2.2.2.2.2.2.2.1) (show 0 + (13 * (2 + 1) + 43) ≤ κ.R.locals from Nat.le_trans hf.2 C.2.2.2.2.2.2.2.2.2.2) hX.2.2.1 hX.2.2.2 C.2.2.2.2.2.2.2.2.1
    (fun t hal hz hk => ⟨(E, u), hx, ⟨rfl, hP.kept (fun k2 q hk2 => hk q.1 (hP k2 q hk2).lt), hD⟩, Nat.le_trans hS.1 hz, fun q hq hnA => (hk q (Nat.lt_of_lt_of_le hq hS.1)).trans (hS.2.1 q hq hnA)⟩) hS.2.2 (Nat.le_refl _) (Nat.le_refl _)
/-- a callee that throws, caught here -/
theorem catchX (C : Ok γ κ cc nL own f ll) {X : String → S → Prop} {w1 : S → va_W} (hr : RunX l γ κ w0 0 0 st pc rest X w1) (isC isR pm : List Nat) (hC : isC.map (fun i => ws[i]?) = w0.map some) (hR : isR.map (fun i => ws[i]?) = wr.map some)
    (hnd : va_nd isC = true ∧ va_nd isR = true ∧ va_nd pm = true) (hdis : ∀ i ∈ isR, i ∉ isC) {ws1 : S → va_W} (hpm : ∀ u, pm.map (fun i => (wr ++ w1 u)[i]?) = (ws1 u).map some)
    (kx : ∀ (E : String) (u : S), X E u → ∃ (pre : List ExceptionTableEntry) (x : ExceptionTableEntry) (suf : List ExceptionTableEntry), κ.c.exceptionTable.toList = pre ++ x :: suf ∧
      (∀ z ∈ pre, z.catchType ≠ 0 ∧ ∃ nm : String, Cond.classLink own z.catchType nm ∈ wsA ∧ (E, nm) ∈ exN) ∧ covers x pc = true ∧ x.catchType ≠ 0 ∧ Cond.classLink own x.catchType E ∈ wsA ∧ Cond.castable E E ∈ exW ∧
      ∀ q9 : Nat, G l γ κ (ws1 u) lv 1 6 [.ref q9] x.handlerPc) : G l γ κ ws lv 0 0 st pc := by
  intro H locs ls hP hD hS h
  obtain ⟨a1, a2, a3, hF⟩ := aft_pre C hP hD hS isC hC hnd.1
  refine vx_callv (hr H locs ls a1 a2 a3 h.1) hS (fun q _ hq => hF q hq) hF (fun q _ hq => hF q hq) (fun E ce q9 u t H1 locs1 ht hvm hpx hB hz hk1 hS1 hce hcv hcl => ?_) (fun u t H1 locs1 ht hvm hq => hq.elim)
  obtain ⟨rfl, hP1, hD1⟩ := hB
  rw [ht] at hP1
  obtain ⟨hPj, hDj⟩ := va_join (wr := wr) (w1 := w1 u.2) hP hD isC isR hC hR hnd.2.1 hdis hk1 hF hP1 hD1
  obtain ⟨pre, x, suf, hsp, hpass, hcov, h0, hlk, hcast, kk⟩ := kx _ _ hpx
  have hE := C.2.2.2.2.2.2.2.1
  refine vx_catch (own := own) (name := u.1) C.2.2.2.1 pre x suf hsp (fun z hz => ?_) hcov h0 (C.2.2.2.2.1 _ hlk) (va_Nw.use rfl (hE.1 _ hcast)) hce hcv hcl (kk q9 H1 locs1 ls (va_Psub hPj pm (hpm u.2)) (hDj.sub pm hnd.2.2 (hpm u.2)) hS1 h)
  obtain ⟨z0, nm, z1, z2⟩ := hpass z hz
  exact Or.inr ⟨z0, nm, C.2.2.2.2.1 _ z1, hE.2.2.1 _ z2⟩
end AFTER
end
section
/-! the words that the code asks for, by their places in the tables (by program) -/
set_option maxRecDepth 50000 in
theorem aX0 : ∀ w ∈ u_ws RX0 TX0 1, w ∈ wsA := by
  intro w hw
  obtain ⟨k, hk, rfl⟩ := List.mem_map.mp hw
  have hk := List.mem_range.mp hk
  rcases (show k = 0 by omega) with rfl
  · exact wA 54 rfl rfl
set_option maxRecDepth 50000 in
theorem aX1 : ∀ w ∈ u_ws RX1 TX1 2, w ∈ wsA := by
  intro w hw
  obtain ⟨k, hk, rfl⟩ := List.mem_map.mp hw
  have hk := List.mem_range.mp hk
  rcases (show k = 0 ∨ k = 1 by omega) with rfl | rfl
  · exact wA 65 rfl rfl
  · exact wA 67 rfl rfl
set_option maxRecDepth 50000 in
theorem aX2 : ∀ w ∈ u_ws RX2 TX2 3, w ∈ wsA := by
  intro w hw
  obtain ⟨k, hk, rfl⟩ := List.mem_map.mp hw
  have hk := List.mem_range.mp hk
  rcases (show k = 0 ∨ k = 1 ∨ k = 2 by omega) with rfl | rfl | rfl
  · exact wA 39 rfl rfl
  · exact wA 41 rfl rfl
  · exact wA 43 rfl rfl
set_option maxRecDepth 50000 in
theorem aX3 : ∀ w ∈ u_ws RX3 TX3 7, w ∈ wsA := by
  intro w hw
  obtain ⟨k, hk, rfl⟩ := List.mem_map.mp hw
  have hk := List.mem_range.mp hk
  rcases (show k = 0 ∨ k = 1 ∨ k = 2 ∨ k = 3 ∨ k = 4 ∨ k = 5 ∨ k = 6 by omega) with rfl | rfl | rfl | rfl | rfl | rfl | rfl
  · exact wA 81 rfl rfl
  · exact wA 83 rfl rfl
  · exact wA 85 rfl rfl
  · exact wA 87 rfl rfl
  · exact wA 89 rfl rfl
  · exact wA 91 rfl rfl
  · exact wA 93 rfl rfl
set_option maxRecDepth 50000 in
theorem pF_X0_11 {l : Launch} {γ : Gm} {κ : Kx} {cc : ByteArray} {nL f ll : Nat} (C : Ok γ κ cc nL RX0 f ll) {ws ws' : va_W} {lv : List (Nat × Value)} {k n pc pc' a : Nat} {st : List Value} {fs : List Value} {v : Value} (d : decode cc pc = .ok (.putfield 11, 3)) (hp : pc' = pc + 3) (q0 : Nat) (he : ws[q0]? = some (a, .inr (0, fs))) (hin2 : κ.meth.name = "<init>") (hn : narrow (tyX0 0) v = v) (hfit : fits (tyX0 0) v = true) (hl : 0 < fs.length) (hws : ws.set q0 (a, .inr (0, fs.set 0 v)) = ws') (kk : G l γ κ ws' lv k n st pc') : G l γ κ ws lv k n (v :: .ref a :: st) pc := g_putF (kf := 0) C aX0 tyX0 tyX0_ok nmX0 rfl (by decide) (wA (w := Cond.fieldLink RX0 11 (TX0 0).1 (TX0 0).2.1 (TX0 0).2.2.1) 53 rfl rfl) rfl rfl (tyX0_ok 0 (by decide)) hin2 hn hfit d hp q0 he hl hws kk
set_option maxRecDepth 50000 in
theorem gf_X0_11 {l : Launch} {γ : Gm} {κ : Kx} {cc : ByteArray} {nL f ll : Nat} (C : Ok γ κ cc nL RX0 f ll) {ws : va_W} {lv : List (Nat × Value)} {k n pc pc' a : Nat} {st : List Value} {fs : List Value} {v : Value} (d : decode cc pc = .ok (.getfield 11, 3)) (hp : pc' = pc + 3) (q0 : Nat) (he : ws[q0]? = some (a, .inr (0, fs))) (hv : fs[0]? = some v) (kk : G l γ κ ws lv k n (v :: st) pc') : G l γ κ ws lv k n (.ref a :: st) pc := g_get (kf := 0) C aX0 rfl (by decide) (wA (w := Cond.fieldLink RX0 11 (TX0 0).1 (TX0 0).2.1 (TX0 0).2.2.1) 53 rfl rfl) d hp q0 he hv kk
set_option maxRecDepth 50000 in
theorem lk_X0_15 : LkS RX0 15 yX0_indexOf cX0_indexOf 4 (some .int) 4 := ⟨⟨wA 290 rfl rfl, wA 291 rfl rfl, wA 13 rfl rfl, wA 292 rfl rfl⟩, by decide +kernel, by decide +kernel, by decide +kernel⟩
set_option maxRecDepth 50000 in
theorem lk_X0_19 : LkV RX0 19 yX0_at cX0_at 5 (some .int) 4 := ⟨⟨wA 286 rfl rfl, wA 287 rfl rfl, wA 288 rfl rfl, wA 13 rfl rfl, wA 289 rfl rfl⟩, by decide +kernel, by decide +kernel, by decide +kernel⟩
set_option maxRecDepth 50000 in
theorem lk_X0_22 : LkN RX0 22 yX3_isIn RX3 cX3_isIn 2 (some .boolean) 2 := ⟨⟨by simp [exW], wA 189 rfl rfl, wA 11 rfl rfl, wA 190 rfl rfl⟩, by decide +kernel, by decide +kernel, by decide +kernel⟩
set_option maxRecDepth 50000 in
theorem lk_X0_26 : LkV RX0 26 yX0_valueOf cX0_valueOf 5 (some .int) 4 := ⟨⟨wA 282 rfl rfl, wA 283 rfl rfl, wA 284 rfl rfl, wA 13 rfl rfl, wA 285 rfl rfl⟩, by decide +kernel, by decide +kernel, by decide +kernel⟩
set_option maxRecDepth 50000 in
theorem pF_X1_9 {l : Launch} {γ : Gm} {κ : Kx} {cc : ByteArray} {nL f ll : Nat} (C : Ok γ κ cc nL RX1 f ll) {ws ws' : va_W} {lv : List (Nat × Value)} {k n pc pc' a : Nat} {st : List Value} {fs : List Value} {v : Value} (d : decode cc pc = .ok (.putfield 9, 3)) (hp : pc' = pc + 3) (q0 : Nat) (he : ws[q0]? = some (a, .inr (1, fs))) (hin2 : κ.meth.name = "<init>") (hn : narrow (tyX1 0) v = v) (hfit : fits (tyX1 0) v = true) (hl : 0 < fs.length) (hws : ws.set q0 (a, .inr (1, fs.set 0 v)) = ws') (kk : G l γ κ ws' lv k n st pc') : G l γ κ ws lv k n (v :: .ref a :: st) pc := g_putF (kf := 0) C aX1 tyX1 tyX1_ok nmX1 rfl (by decide) (wA (w := Cond.fieldLink RX1 9 (TX1 0).1 (TX1 0).2.1 (TX1 0).2.2.1) 63 rfl rfl) rfl rfl (tyX1_ok 0 (by decide)) hin2 hn hfit d hp q0 he hl hws kk
set_option maxRecDepth 50000 in
theorem pF_X1_15 {l : Launch} {γ : Gm} {κ : Kx} {cc : ByteArray} {nL f ll : Nat} (C : Ok γ κ cc nL RX1 f ll) {ws ws' : va_W} {lv : List (Nat × Value)} {k n pc pc' a : Nat} {st : List Value} {fs : List Value} {v : Value} (d : decode cc pc = .ok (.putfield 15, 3)) (hp : pc' = pc + 3) (q0 : Nat) (he : ws[q0]? = some (a, .inr (1, fs))) (hin2 : κ.meth.name = "<init>") (hn : narrow (tyX1 1) v = v) (hfit : fits (tyX1 1) v = true) (hl : 1 < fs.length) (hws : ws.set q0 (a, .inr (1, fs.set 1 v)) = ws') (kk : G l γ κ ws' lv k n st pc') : G l γ κ ws lv k n (v :: .ref a :: st) pc := g_putF (kf := 1) C aX1 tyX1 tyX1_ok nmX1 rfl (by decide) (wA (w := Cond.fieldLink RX1 15 (TX1 1).1 (TX1 1).2.1 (TX1 1).2.2.1) 64 rfl rfl) rfl rfl (tyX1_ok 1 (by decide)) hin2 hn hfit d hp q0 he hl hws kk
set_option maxRecDepth 50000 in
theorem gf_X1_9 {l : Launch} {γ : Gm} {κ : Kx} {cc : ByteArray} {nL f ll : Nat} (C : Ok γ κ cc nL RX1 f ll) {ws : va_W} {lv : List (Nat × Value)} {k n pc pc' a : Nat} {st : List Value} {fs : List Value} {v : Value} (d : decode cc pc = .ok (.getfield 9, 3)) (hp : pc' = pc + 3) (q0 : Nat) (he : ws[q0]? = some (a, .inr (1, fs))) (hv : fs[0]? = some v) (kk : G l γ κ ws lv k n (v :: st) pc') : G l γ κ ws lv k n (.ref a :: st) pc := g_get (kf := 0) C aX1 rfl (by decide) (wA (w := Cond.fieldLink RX1 9 (TX1 0).1 (TX1 0).2.1 (TX1 0).2.2.1) 63 rfl rfl) d hp q0 he hv kk
set_option maxRecDepth 50000 in
theorem gf_X1_15 {l : Launch} {γ : Gm} {κ : Kx} {cc : ByteArray} {nL f ll : Nat} (C : Ok γ κ cc nL RX1 f ll) {ws : va_W} {lv : List (Nat × Value)} {k n pc pc' a : Nat} {st : List Value} {fs : List Value} {v : Value} (d : decode cc pc = .ok (.getfield 15, 3)) (hp : pc' = pc + 3) (q0 : Nat) (he : ws[q0]? = some (a, .inr (1, fs))) (hv : fs[1]? = some v) (kk : G l γ κ ws lv k n (v :: st) pc') : G l γ κ ws lv k n (.ref a :: st) pc := g_get (kf := 1) C aX1 rfl (by decide) (wA (w := Cond.fieldLink RX1 15 (TX1 1).1 (TX1 1).2.1 (TX1 1).2.2.1) 64 rfl rfl) d hp q0 he hv kk
set_option maxRecDepth 50000 in
theorem lk_X1_18 : LkV RX1 18 yX1_totalWeight cX1_totalWeight 3 (some .int) 0 := ⟨⟨wA 409 rfl rfl, wA 410 rfl rfl, wA 411 rfl rfl, wA 14 rfl rfl, wA 412 rfl rfl⟩, by decide +kernel, by decide +kernel, by decide +kernel⟩
set_option maxRecDepth 50000 in
theorem pF_X2_9 {l : Launch} {γ : Gm} {κ : Kx} {cc : ByteArray} {nL f ll : Nat} (C : Ok γ κ cc nL RX2 f ll) {ws ws' : va_W} {lv : List (Nat × Value)} {k n pc pc' a : Nat} {st : List Value} {fs : List Value} {v : Value} (d : decode cc pc = .ok (.putfield 9, 3)) (hp : pc' = pc + 3) (q0 : Nat) (he : ws[q0]? = some (a, .inr (2, fs))) (hin2 : κ.meth.name = "<init>") (hn : narrow (tyX2 0) v = v) (hfit : fits (tyX2 0) v = true) (hl : 0 < fs.length) (hws : ws.set q0 (a, .inr (2, fs.set 0 v)) = ws') (kk : G l γ κ ws' lv k n st pc') : G l γ κ ws lv k n (v :: .ref a :: st) pc := g_putF (kf := 0) C aX2 tyX2 tyX2_ok nmX2 rfl (by decide) (wA (w := Cond.fieldLink RX2 9 (TX2 0).1 (TX2 0).2.1 (TX2 0).2.2.1) 36 rfl rfl) rfl rfl (tyX2_ok 0 (by decide)) hin2 hn hfit d hp q0 he hl hws kk
set_option maxRecDepth 50000 in
theorem pf_X2_15 {l : Launch} {γ : Gm} {κ : Kx} {cc : ByteArray} {nL f ll : Nat} (C : Ok γ κ cc nL RX2 f ll) {ws ws' : va_W} {lv : List (Nat × Value)} {k n pc pc' a : Nat} {st : List Value} {fs : List Value} {v : Value} (d : decode cc pc = .ok (.putfield 15, 3)) (hp : pc' = pc + 3) (q0 : Nat) (he : ws[q0]? = some (a, .inr (2, fs))) (hn : narrow (tyX2 1) v = v) (hfit : fits (tyX2 1) v = true) (hl : 1 < fs.length) (hws : ws.set q0 (a, .inr (2, fs.set 1 v)) = ws') (kk : G l γ κ ws' lv k n st pc') : G l γ κ ws lv k n (v :: .ref a :: st) pc := g_put (kf := 1) C aX2 tyX2 tyX2_ok nmX2 rfl (by decide) (wA (w := Cond.fieldLink RX2 15 (TX2 1).1 (TX2 1).2.1 (TX2 1).2.2.1) 37 rfl rfl) rfl (tyX2_ok 1 (by decide)) hn hfit d hp q0 he hl hws kk
set_option maxRecDepth 50000 in
theorem pf_X2_19 {l : Launch} {γ : Gm} {κ : Kx} {cc : ByteArray} {nL f ll : Nat} (C : Ok γ κ cc nL RX2 f ll) {ws ws' : va_W} {lv : List (Nat × Value)} {k n pc pc' a : Nat} {st : List Value} {fs : List Value} {v : Value} (d : decode cc pc = .ok (.putfield 19, 3)) (hp : pc' = pc + 3) (q0 : Nat) (he : ws[q0]? = some (a, .inr (2, fs))) (hn : narrow (tyX2 2) v = v) (hfit : fits (tyX2 2) v = true) (hl : 2 < fs.length) (hws : ws.set q0 (a, .inr (2, fs.set 2 v)) = ws') (kk : G l γ κ ws' lv k n st pc') : G l γ κ ws lv k n (v :: .ref a :: st) pc := g_put (kf := 2) C aX2 tyX2 tyX2_ok nmX2 rfl (by decide) (wA (w := Cond.fieldLink RX2 19 (TX2 2).1 (TX2 2).2.1 (TX2 2).2.2.1) 38 rfl rfl) rfl (tyX2_ok 2 (by decide)) hn hfit d hp q0 he hl hws kk
set_option maxRecDepth 50000 in
theorem gf_X2_15 {l : Launch} {γ : Gm} {κ : Kx} {cc : ByteArray} {nL f ll : Nat} (C : Ok γ κ cc nL RX2 f ll) {ws : va_W} {lv : List (Nat × Value)} {k n pc pc' a : Nat} {st : List Value} {fs : List Value} {v : Value} (d : decode cc pc = .ok (.getfield 15, 3)) (hp : pc' = pc + 3) (q0 : Nat) (he : ws[q0]? = some (a, .inr (2, fs))) (hv : fs[1]? = some v) (kk : G l γ κ ws lv k n (v :: st) pc') : G l γ κ ws lv k n (.ref a :: st) pc := g_get (kf := 1) C aX2 rfl (by decide) (wA (w := Cond.fieldLink RX2 15 (TX2 1).1 (TX2 1).2.1 (TX2 1).2.2.1) 37 rfl rfl) d hp q0 he hv kk
set_option maxRecDepth 50000 in
theorem gf_X2_19 {l : Launch} {γ : Gm} {κ : Kx} {cc : ByteArray} {nL f ll : Nat} (C : Ok γ κ cc nL RX2 f ll) {ws : va_W} {lv : List (Nat × Value)} {k n pc pc' a : Nat} {st : List Value} {fs : List Value} {v : Value} (d : decode cc pc = .ok (.getfield 19, 3)) (hp : pc' = pc + 3) (q0 : Nat) (he : ws[q0]? = some (a, .inr (2, fs))) (hv : fs[2]? = some v) (kk : G l γ κ ws lv k n (v :: st) pc') : G l γ κ ws lv k n (.ref a :: st) pc := g_get (kf := 2) C aX2 rfl (by decide) (wA (w := Cond.fieldLink RX2 19 (TX2 2).1 (TX2 2).2.1 (TX2 2).2.2.1) 38 rfl rfl) d hp q0 he hv kk
set_option maxRecDepth 50000 in
theorem lk_X2_22 : LkN RX2 22 yX3_isIn RX3 cX3_isIn 2 (some .boolean) 2 := ⟨⟨by simp [exW], wA 189 rfl rfl, wA 11 rfl rfl, wA 190 rfl rfl⟩, by decide +kernel, by decide +kernel, by decide +kernel⟩
set_option maxRecDepth 50000 in
theorem gf_X2_9 {l : Launch} {γ : Gm} {κ : Kx} {cc : ByteArray} {nL f ll : Nat} (C : Ok γ κ cc nL RX2 f ll) {ws : va_W} {lv : List (Nat × Value)} {k n pc pc' a : Nat} {st : List Value} {fs : List Value} {v : Value} (d : decode cc pc = .ok (.getfield 9, 3)) (hp : pc' = pc + 3) (q0 : Nat) (he : ws[q0]? = some (a, .inr (2, fs))) (hv : fs[0]? = some v) (kk : G l γ κ ws lv k n (v :: st) pc') : G l γ κ ws lv k n (.ref a :: st) pc := g_get (kf := 0) C aX2 rfl (by decide) (wA (w := Cond.fieldLink RX2 9 (TX2 0).1 (TX2 0).2.1 (TX2 0).2.2.1) 36 rfl rfl) d hp q0 he hv kk
set_option maxRecDepth 50000 in
theorem lk_X3_11 : LkIN RX3 11 yX2_init RX3 cX2_init 1 0 := ⟨⟨by simp [exW], wA 33 rfl rfl, wA 12 rfl rfl, wA 34 rfl rfl⟩, by decide +kernel, by decide +kernel, by decide +kernel⟩
set_option maxRecDepth 50000 in
theorem pF_X3_12 {l : Launch} {γ : Gm} {κ : Kx} {cc : ByteArray} {nL f ll : Nat} (C : Ok γ κ cc nL RX3 f ll) {ws ws' : va_W} {lv : List (Nat × Value)} {k n pc pc' a : Nat} {st : List Value} {fs : List Value} {v : Value} (d : decode cc pc = .ok (.putfield 12, 3)) (hp : pc' = pc + 3) (q0 : Nat) (he : ws[q0]? = some (a, .inr (3, fs))) (hin2 : κ.meth.name = "<init>") (hn : narrow (tyX3 0) v = v) (hfit : fits (tyX3 0) v = true) (hl : 0 < fs.length) (hws : ws.set q0 (a, .inr (3, fs.set 0 v)) = ws') (kk : G l γ κ ws' lv k n st pc') : G l γ κ ws lv k n (v :: .ref a :: st) pc := g_putF (kf := 0) C aX3 tyX3 tyX3_ok nmX3 rfl (by decide) (wA (w := Cond.fieldLink RX3 12 (TX3 0).1 (TX3 0).2.1 (TX3 0).2.2.1) 74 rfl rfl) rfl rfl (tyX3_ok 0 (by decide)) hin2 hn hfit d hp q0 he hl hws kk
set_option maxRecDepth 50000 in
theorem lk_X3_18 : LkIN RX3 18 yX0_init RX3 cX0_init 1 0 := ⟨⟨by simp [exW], wA 50 rfl rfl, wA 13 rfl rfl, wA 51 rfl rfl⟩, by decide +kernel, by decide +kernel, by decide +kernel⟩
set_option maxRecDepth 50000 in
theorem pF_X3_19 {l : Launch} {γ : Gm} {κ : Kx} {cc : ByteArray} {nL f ll : Nat} (C : Ok γ κ cc nL RX3 f ll) {ws ws' : va_W} {lv : List (Nat × Value)} {k n pc pc' a : Nat} {st : List Value} {fs : List Value} {v : Value} (d : decode cc pc = .ok (.putfield 19, 3)) (hp : pc' = pc + 3) (q0 : Nat) (he : ws[q0]? = some (a, .inr (3, fs))) (hin2 : κ.meth.name = "<init>") (hn : narrow (tyX3 1) v = v) (hfit : fits (tyX3 1) v = true) (hl : 1 < fs.length) (hws : ws.set q0 (a, .inr (3, fs.set 1 v)) = ws') (kk : G l γ κ ws' lv k n st pc') : G l γ κ ws lv k n (v :: .ref a :: st) pc := g_putF (kf := 1) C aX3 tyX3 tyX3_ok nmX3 rfl (by decide) (wA (w := Cond.fieldLink RX3 19 (TX3 1).1 (TX3 1).2.1 (TX3 1).2.2.1) 75 rfl rfl) rfl rfl (tyX3_ok 1 (by decide)) hin2 hn hfit d hp q0 he hl hws kk
set_option maxRecDepth 50000 in
theorem pF_X3_23 {l : Launch} {γ : Gm} {κ : Kx} {cc : ByteArray} {nL f ll : Nat} (C : Ok γ κ cc nL RX3 f ll) {ws ws' : va_W} {lv : List (Nat × Value)} {k n pc pc' a : Nat} {st : List Value} {fs : List Value} {v : Value} (d : decode cc pc = .ok (.putfield 23, 3)) (hp : pc' = pc + 3) (q0 : Nat) (he : ws[q0]? = some (a, .inr (3, fs))) (hin2 : κ.meth.name = "<init>") (hn : narrow (tyX3 2) v = v) (hfit : fits (tyX3 2) v = true) (hl : 2 < fs.length) (hws : ws.set q0 (a, .inr (3, fs.set 2 v)) = ws') (kk : G l γ κ ws' lv k n st pc') : G l γ κ ws lv k n (v :: .ref a :: st) pc := g_putF (kf := 2) C aX3 tyX3 tyX3_ok nmX3 rfl (by decide) (wA (w := Cond.fieldLink RX3 23 (TX3 2).1 (TX3 2).2.1 (TX3 2).2.2.1) 76 rfl rfl) rfl rfl (tyX3_ok 2 (by decide)) hin2 hn hfit d hp q0 he hl hws kk
set_option maxRecDepth 50000 in
theorem pF_X3_27 {l : Launch} {γ : Gm} {κ : Kx} {cc : ByteArray} {nL f ll : Nat} (C : Ok γ κ cc nL RX3 f ll) {ws ws' : va_W} {lv : List (Nat × Value)} {k n pc pc' a : Nat} {st : List Value} {fs : List Value} {v : Value} (d : decode cc pc = .ok (.putfield 27, 3)) (hp : pc' = pc + 3) (q0 : Nat) (he : ws[q0]? = some (a, .inr (3, fs))) (hin2 : κ.meth.name = "<init>") (hn : narrow (tyX3 3) v = v) (hfit : fits (tyX3 3) v = true) (hl : 3 < fs.length) (hws : ws.set q0 (a, .inr (3, fs.set 3 v)) = ws') (kk : G l γ κ ws' lv k n st pc') : G l γ κ ws lv k n (v :: .ref a :: st) pc := g_putF (kf := 3) C aX3 tyX3 tyX3_ok nmX3 rfl (by decide) (wA (w := Cond.fieldLink RX3 27 (TX3 3).1 (TX3 3).2.1 (TX3 3).2.2.1) 77 rfl rfl) rfl rfl (tyX3_ok 3 (by decide)) hin2 hn hfit d hp q0 he hl hws kk
set_option maxRecDepth 50000 in
theorem lk_X3_32 : LkIN RX3 32 yX1_init RX3 cX1_init 1 0 := ⟨⟨by simp [exW], wA 60 rfl rfl, wA 14 rfl rfl, wA 61 rfl rfl⟩, by decide +kernel, by decide +kernel, by decide +kernel⟩
set_option maxRecDepth 50000 in
theorem pF_X3_33 {l : Launch} {γ : Gm} {κ : Kx} {cc : ByteArray} {nL f ll : Nat} (C : Ok γ κ cc nL RX3 f ll) {ws ws' : va_W} {lv : List (Nat × Value)} {k n pc pc' a : Nat} {st : List Value} {fs : List Value} {v : Value} (d : decode cc pc = .ok (.putfield 33, 3)) (hp : pc' = pc + 3) (q0 : Nat) (he : ws[q0]? = some (a, .inr (3, fs))) (hin2 : κ.meth.name = "<init>") (hn : narrow (tyX3 4) v = v) (hfit : fits (tyX3 4) v = true) (hl : 4 < fs.length) (hws : ws.set q0 (a, .inr (3, fs.set 4 v)) = ws') (kk : G l γ κ ws' lv k n st pc') : G l γ κ ws lv k n (v :: .ref a :: st) pc := g_putF (kf := 4) C aX3 tyX3 tyX3_ok nmX3 rfl (by decide) (wA (w := Cond.fieldLink RX3 33 (TX3 4).1 (TX3 4).2.1 (TX3 4).2.2.1) 78 rfl rfl) rfl rfl (tyX3_ok 4 (by decide)) hin2 hn hfit d hp q0 he hl hws kk
set_option maxRecDepth 50000 in
theorem pF_X3_37 {l : Launch} {γ : Gm} {κ : Kx} {cc : ByteArray} {nL f ll : Nat} (C : Ok γ κ cc nL RX3 f ll) {ws ws' : va_W} {lv : List (Nat × Value)} {k n pc pc' a : Nat} {st : List Value} {fs : List Value} {v : Value} (d : decode cc pc = .ok (.putfield 37, 3)) (hp : pc' = pc + 3) (q0 : Nat) (he : ws[q0]? = some (a, .inr (3, fs))) (hin2 : κ.meth.name = "<init>") (hn : narrow (tyX3 5) v = v) (hfit : fits (tyX3 5) v = true) (hl : 5 < fs.length) (hws : ws.set q0 (a, .inr (3, fs.set 5 v)) = ws') (kk : G l γ κ ws' lv k n st pc') : G l γ κ ws lv k n (v :: .ref a :: st) pc := g_putF (kf := 5) C aX3 tyX3 tyX3_ok nmX3 rfl (by decide) (wA (w := Cond.fieldLink RX3 37 (TX3 5).1 (TX3 5).2.1 (TX3 5).2.2.1) 79 rfl rfl) rfl rfl (tyX3_ok 5 (by decide)) hin2 hn hfit d hp q0 he hl hws kk
set_option maxRecDepth 50000 in
theorem pf_X3_40 {l : Launch} {γ : Gm} {κ : Kx} {cc : ByteArray} {nL f ll : Nat} (C : Ok γ κ cc nL RX3 f ll) {ws ws' : va_W} {lv : List (Nat × Value)} {k n pc pc' a : Nat} {st : List Value} {fs : List Value} {v : Value} (d : decode cc pc = .ok (.putfield 40, 3)) (hp : pc' = pc + 3) (q0 : Nat) (he : ws[q0]? = some (a, .inr (3, fs))) (hn : narrow (tyX3 6) v = v) (hfit : fits (tyX3 6) v = true) (hl : 6 < fs.length) (hws : ws.set q0 (a, .inr (3, fs.set 6 v)) = ws') (kk : G l γ κ ws' lv k n st pc') : G l γ κ ws lv k n (v :: .ref a :: st) pc := g_put (kf := 6) C aX3 tyX3 tyX3_ok nmX3 rfl (by decide) (wA (w := Cond.fieldLink RX3 40 (TX3 6).1 (TX3 6).2.1 (TX3 6).2.2.1) 80 rfl rfl) rfl (tyX3_ok 6 (by decide)) hn hfit d hp q0 he hl hws kk
set_option maxRecDepth 50000 in
theorem gf_X3_33 {l : Launch} {γ : Gm} {κ : Kx} {cc : ByteArray} {nL f ll : Nat} (C : Ok γ κ cc nL RX3 f ll) {ws : va_W} {lv : List (Nat × Value)} {k n pc pc' a : Nat} {st : List Value} {fs : List Value} {v : Value} (d : decode cc pc = .ok (.getfield 33, 3)) (hp : pc' = pc + 3) (q0 : Nat) (he : ws[q0]? = some (a, .inr (3, fs))) (hv : fs[4]? = some v) (kk : G l γ κ ws lv k n (v :: st) pc') : G l γ κ ws lv k n (.ref a :: st) pc := g_get (kf := 4) C aX3 rfl (by decide) (wA (w := Cond.fieldLink RX3 33 (TX3 4).1 (TX3 4).2.1 (TX3 4).2.2.1) 78 rfl rfl) d hp q0 he hv kk
set_option maxRecDepth 50000 in
theorem lk_X3_44 : LkV RX3 44 yX1_weigh cX1_weigh 4 (some .int) 2 := ⟨⟨wA 70 rfl rfl, wA 71 rfl rfl, wA 72 rfl rfl, wA 14 rfl rfl, wA 73 rfl rfl⟩, by decide +kernel, by decide +kernel, by decide +kernel⟩
set_option maxRecDepth 50000 in
theorem lk_X3_48 : LkV RX3 48 yX3_checkPlace cX3_checkPlace 2 none 1 := ⟨⟨wA 108 rfl rfl, wA 110 rfl rfl, wA 0 rfl rfl, wA 11 rfl rfl, wA 111 rfl rfl⟩, by decide +kernel, by decide +kernel, by decide +kernel⟩
set_option maxRecDepth 50000 in
theorem gf_X3_12 {l : Launch} {γ : Gm} {κ : Kx} {cc : ByteArray} {nL f ll : Nat} (C : Ok γ κ cc nL RX3 f ll) {ws : va_W} {lv : List (Nat × Value)} {k n pc pc' a : Nat} {st : List Value} {fs : List Value} {v : Value} (d : decode cc pc = .ok (.getfield 12, 3)) (hp : pc' = pc + 3) (q0 : Nat) (he : ws[q0]? = some (a, .inr (3, fs))) (hv : fs[0]? = some v) (kk : G l γ κ ws lv k n (v :: st) pc') : G l γ κ ws lv k n (.ref a :: st) pc := g_get (kf := 0) C aX3 rfl (by decide) (wA (w := Cond.fieldLink RX3 12 (TX3 0).1 (TX3 0).2.1 (TX3 0).2.2.1) 74 rfl rfl) d hp q0 he hv kk
set_option maxRecDepth 50000 in
theorem lk_X3_52 : LkV RX3 52 yX2_isFull cX2_isFull 1 (some .boolean) 0 := ⟨⟨wA 338 rfl rfl, wA 339 rfl rfl, wA 340 rfl rfl, wA 12 rfl rfl, wA 341 rfl rfl⟩, by decide +kernel, by decide +kernel, by decide +kernel⟩
set_option maxRecDepth 50000 in
theorem lk_X3_63 : LkV RX3 63 yX2_isLeaf cX2_isLeaf 2 (some .boolean) 1 := ⟨⟨wA 203 rfl rfl, wA 204 rfl rfl, wA 205 rfl rfl, wA 12 rfl rfl, wA 206 rfl rfl⟩, by decide +kernel, by decide +kernel, by decide +kernel⟩
set_option maxRecDepth 50000 in
theorem lk_X3_67 : LkV RX3 67 yX3_isInUse cX3_isInUse 4 (some .boolean) 1 := ⟨⟨wA 343 rfl rfl, wA 345 rfl rfl, wA 4 rfl rfl, wA 11 rfl rfl, wA 346 rfl rfl⟩, by decide +kernel, by decide +kernel, by decide +kernel⟩
set_option maxRecDepth 50000 in
theorem lk_X3_72 : LkV RX3 72 yX2_addBelow cX2_addBelow 3 (some .int) 1 := ⟨⟨wA 352 rfl rfl, wA 353 rfl rfl, wA 354 rfl rfl, wA 12 rfl rfl, wA 355 rfl rfl⟩, by decide +kernel, by decide +kernel, by decide +kernel⟩
set_option maxRecDepth 50000 in
theorem lk_X3_76 : LkV RX3 76 yX2_size cX2_size 1 (some .int) 0 := ⟨⟨wA 100 rfl rfl, wA 101 rfl rfl, wA 102 rfl rfl, wA 12 rfl rfl, wA 103 rfl rfl⟩, by decide +kernel, by decide +kernel, by decide +kernel⟩
set_option maxRecDepth 50000 in
theorem lk_X3_80 : LkV RX3 80 yX2_leavesBelow cX2_leavesBelow 4 (some .int) 1 := ⟨⟨wA 184 rfl rfl, wA 185 rfl rfl, wA 186 rfl rfl, wA 12 rfl rfl, wA 187 rfl rfl⟩, by decide +kernel, by decide +kernel, by decide +kernel⟩
set_option maxRecDepth 50000 in
theorem lk_X3_83 : LkS RX3 83 yX3_checkVersion cX3_checkVersion 1 none 1 := ⟨⟨wA 250 rfl rfl, wA 251 rfl rfl, wA 11 rfl rfl, wA 252 rfl rfl⟩, by decide +kernel, by decide +kernel, by decide +kernel⟩
set_option maxRecDepth 50000 in
theorem lk_X3_86 : LkS RX3 86 yX3_checkCellAccount cX3_checkCellAccount 1 none 1 := ⟨⟨wA 363 rfl rfl, wA 364 rfl rfl, wA 11 rfl rfl, wA 365 rfl rfl⟩, by decide +kernel, by decide +kernel, by decide +kernel⟩
set_option maxRecDepth 50000 in
theorem lk_X3_89 : LkS RX3 89 yX3_checkMonth cX3_checkMonth 1 none 1 := ⟨⟨wA 195 rfl rfl, wA 196 rfl rfl, wA 11 rfl rfl, wA 197 rfl rfl⟩, by decide +kernel, by decide +kernel, by decide +kernel⟩
set_option maxRecDepth 50000 in
theorem lk_X3_92 : LkS RX3 92 yX3_mostOf cX3_mostOf 1 (some .int) 1 := ⟨⟨wA 367 rfl rfl, wA 368 rfl rfl, wA 11 rfl rfl, wA 369 rfl rfl⟩, by decide +kernel, by decide +kernel, by decide +kernel⟩
set_option maxRecDepth 50000 in
theorem lk_X3_95 : LkS RX3 95 yX3_checkUpTo cX3_checkUpTo 2 none 2 := ⟨⟨wA 227 rfl rfl, wA 228 rfl rfl, wA 11 rfl rfl, wA 229 rfl rfl⟩, by decide +kernel, by decide +kernel, by decide +kernel⟩
set_option maxRecDepth 50000 in
theorem lk_X3_99 : LkV RX3 99 yX3_checkLeaf cX3_checkLeaf 2 none 1 := ⟨⟨wA 199 rfl rfl, wA 201 rfl rfl, wA 2 rfl rfl, wA 11 rfl rfl, wA 202 rfl rfl⟩, by decide +kernel, by decide +kernel, by decide +kernel⟩
set_option maxRecDepth 50000 in
theorem gf_X3_27 {l : Launch} {γ : Gm} {κ : Kx} {cc : ByteArray} {nL f ll : Nat} (C : Ok γ κ cc nL RX3 f ll) {ws : va_W} {lv : List (Nat × Value)} {k n pc pc' a : Nat} {st : List Value} {fs : List Value} {v : Value} (d : decode cc pc = .ok (.getfield 27, 3)) (hp : pc' = pc + 3) (q0 : Nat) (he : ws[q0]? = some (a, .inr (3, fs))) (hv : fs[3]? = some v) (kk : G l γ κ ws lv k n (v :: st) pc') : G l γ κ ws lv k n (.ref a :: st) pc := g_get (kf := 3) C aX3 rfl (by decide) (wA (w := Cond.fieldLink RX3 27 (TX3 3).1 (TX3 3).2.1 (TX3 3).2.2.1) 77 rfl rfl) d hp q0 he hv kk
set_option maxRecDepth 50000 in
theorem lk_X3_102 : LkS RX3 102 yX3_isIn cX3_isIn 2 (some .boolean) 2 := ⟨⟨wA 313 rfl rfl, wA 189 rfl rfl, wA 11 rfl rfl, wA 190 rfl rfl⟩, by decide +kernel, by decide +kernel, by decide +kernel⟩
set_option maxRecDepth 50000 in
theorem gf_X3_19 {l : Launch} {γ : Gm} {κ : Kx} {cc : ByteArray} {nL f ll : Nat} (C : Ok γ κ cc nL RX3 f ll) {ws : va_W} {lv : List (Nat × Value)} {k n pc pc' a : Nat} {st : List Value} {fs : List Value} {v : Value} (d : decode cc pc = .ok (.getfield 19, 3)) (hp : pc' = pc + 3) (q0 : Nat) (he : ws[q0]? = some (a, .inr (3, fs))) (hv : fs[1]? = some v) (kk : G l γ κ ws lv k n (v :: st) pc') : G l γ κ ws lv k n (.ref a :: st) pc := g_get (kf := 1) C aX3 rfl (by decide) (wA (w := Cond.fieldLink RX3 19 (TX3 1).1 (TX3 1).2.1 (TX3 1).2.2.1) 75 rfl rfl) d hp q0 he hv kk
set_option maxRecDepth 50000 in
theorem lk_X3_108 : LkV RX3 108 yX0_put cX0_put 8 (some .int) 5 := ⟨⟨wA 372 rfl rfl, wA 373 rfl rfl, wA 374 rfl rfl, wA 13 rfl rfl, wA 375 rfl rfl⟩, by decide +kernel, by decide +kernel, by decide +kernel⟩
set_option maxRecDepth 50000 in
theorem gf_X3_23 {l : Launch} {γ : Gm} {κ : Kx} {cc : ByteArray} {nL f ll : Nat} (C : Ok γ κ cc nL RX3 f ll) {ws : va_W} {lv : List (Nat × Value)} {k n pc pc' a : Nat} {st : List Value} {fs : List Value} {v : Value} (d : decode cc pc = .ok (.getfield 23, 3)) (hp : pc' = pc + 3) (q0 : Nat) (he : ws[q0]? = some (a, .inr (3, fs))) (hv : fs[2]? = some v) (kk : G l γ κ ws lv k n (v :: st) pc') : G l γ κ ws lv k n (.ref a :: st) pc := g_get (kf := 2) C aX3 rfl (by decide) (wA (w := Cond.fieldLink RX3 23 (TX3 2).1 (TX3 2).2.1 (TX3 2).2.2.1) 76 rfl rfl) d hp q0 he hv kk
set_option maxRecDepth 50000 in
theorem k_X3_112 : Cond.constant RX3 112 1000000 ∈ wsA := wA 370 rfl rfl
set_option maxRecDepth 50000 in
theorem lk_X3_113 : LkV RX3 113 yX3_checkSpreadable cX3_checkSpreadable 5 none 4 := ⟨⟨wA 383 rfl rfl, wA 385 rfl rfl, wA 5 rfl rfl, wA 11 rfl rfl, wA 386 rfl rfl⟩, by decide +kernel, by decide +kernel, by decide +kernel⟩
set_option maxRecDepth 50000 in
theorem lk_X3_117 : LkV RX3 117 yX3_spreadOver cX3_spreadOver 11 (some .int) 5 := ⟨⟨wA 397 rfl rfl, wA 399 rfl rfl, wA 8 rfl rfl, wA 11 rfl rfl, wA 400 rfl rfl⟩, by decide +kernel, by decide +kernel, by decide +kernel⟩
set_option maxRecDepth 50000 in
theorem lk_X3_120 : LkV RX3 120 yX1_totalWeight cX1_totalWeight 3 (some .int) 0 := ⟨⟨wA 424 rfl rfl, wA 410 rfl rfl, wA 411 rfl rfl, wA 14 rfl rfl, wA 412 rfl rfl⟩, by decide +kernel, by decide +kernel, by decide +kernel⟩
set_option maxRecDepth 50000 in
theorem lk_X3_125 : LkV RX3 125 yX1_divide cX1_divide 5 none 1 := ⟨⟨wA 405 rfl rfl, wA 406 rfl rfl, wA 407 rfl rfl, wA 14 rfl rfl, wA 408 rfl rfl⟩, by decide +kernel, by decide +kernel, by decide +kernel⟩
set_option maxRecDepth 50000 in
theorem lk_X3_128 : LkV RX3 128 yX1_shareOf cX1_shareOf 2 (some .int) 1 := ⟨⟨wA 413 rfl rfl, wA 414 rfl rfl, wA 415 rfl rfl, wA 14 rfl rfl, wA 416 rfl rfl⟩, by decide +kernel, by decide +kernel, by decide +kernel⟩
set_option maxRecDepth 50000 in
theorem lk_X3_138 : LkV RX3 138 yX0_copyLayer cX0_copyLayer 7 (some .int) 2 := ⟨⟨wA 435 rfl rfl, wA 436 rfl rfl, wA 437 rfl rfl, wA 13 rfl rfl, wA 438 rfl rfl⟩, by decide +kernel, by decide +kernel, by decide +kernel⟩
set_option maxRecDepth 50000 in
theorem lk_X3_141 : LkS RX3 141 yJ6_bitCount_0f7a4 cJ6_bitCount_0f7a4 1 (some .int) 1 := ⟨⟨wA 254 rfl rfl, wA 255 rfl rfl, wA 21 rfl rfl, wA 256 rfl rfl⟩, by decide +kernel, by decide +kernel, by decide +kernel⟩
set_option maxRecDepth 50000 in
theorem gf_X3_40 {l : Launch} {γ : Gm} {κ : Kx} {cc : ByteArray} {nL f ll : Nat} (C : Ok γ κ cc nL RX3 f ll) {ws : va_W} {lv : List (Nat × Value)} {k n pc pc' a : Nat} {st : List Value} {fs : List Value} {v : Value} (d : decode cc pc = .ok (.getfield 40, 3)) (hp : pc' = pc + 3) (q0 : Nat) (he : ws[q0]? = some (a, .inr (3, fs))) (hv : fs[6]? = some v) (kk : G l γ κ ws lv k n (v :: st) pc') : G l γ κ ws lv k n (.ref a :: st) pc := g_get (kf := 6) C aX3 rfl (by decide) (wA (w := Cond.fieldLink RX3 40 (TX3 6).1 (TX3 6).2.1 (TX3 6).2.2.1) 80 rfl rfl) d hp q0 he hv kk
set_option maxRecDepth 50000 in
theorem lk_X3_148 : LkS RX3 148 yX3_checkAccount cX3_checkAccount 1 none 1 := ⟨⟨wA 273 rfl rfl, wA 274 rfl rfl, wA 11 rfl rfl, wA 275 rfl rfl⟩, by decide +kernel, by decide +kernel, by decide +kernel⟩
set_option maxRecDepth 50000 in
theorem lk_X3_151 : LkV RX3 151 yX0_sumOver cX0_sumOver 7 (some .int) 4 := ⟨⟨wA 277 rfl rfl, wA 278 rfl rfl, wA 279 rfl rfl, wA 13 rfl rfl, wA 280 rfl rfl⟩, by decide +kernel, by decide +kernel, by decide +kernel⟩
set_option maxRecDepth 50000 in
theorem lk_X3_155 : LkV RX3 155 yX0_yearOf cX0_yearOf 6 (some .int) 3 := ⟨⟨wA 453 rfl rfl, wA 454 rfl rfl, wA 455 rfl rfl, wA 13 rfl rfl, wA 456 rfl rfl⟩, by decide +kernel, by decide +kernel, by decide +kernel⟩
set_option maxRecDepth 50000 in
theorem lk_X3_159 : LkV RX3 159 yX0_countFilled cX0_countFilled 3 (some .int) 0 := ⟨⟨wA 305 rfl rfl, wA 306 rfl rfl, wA 307 rfl rfl, wA 13 rfl rfl, wA 308 rfl rfl⟩, by decide +kernel, by decide +kernel, by decide +kernel⟩
set_option maxRecDepth 50000 in
theorem lk_X3_162 : LkV RX3 162 yX3_gapOfLeaf cX3_gapOfLeaf 11 (some .int) 4 := ⟨⟨wA 314 rfl rfl, wA 316 rfl rfl, wA 3 rfl rfl, wA 11 rfl rfl, wA 317 rfl rfl⟩, by decide +kernel, by decide +kernel, by decide +kernel⟩
set_option maxRecDepth 50000 in
theorem lk_X3_165 : LkV RX3 165 yX0_at cX0_at 5 (some .int) 4 := ⟨⟨wA 318 rfl rfl, wA 287 rfl rfl, wA 288 rfl rfl, wA 13 rfl rfl, wA 289 rfl rfl⟩, by decide +kernel, by decide +kernel, by decide +kernel⟩
set_option maxRecDepth 50000 in
theorem lk_X3_168 : LkS RX3 168 yX3_gapPart cX3_gapPart 5 (some .int) 5 := ⟨⟨wA 319 rfl rfl, wA 320 rfl rfl, wA 11 rfl rfl, wA 321 rfl rfl⟩, by decide +kernel, by decide +kernel, by decide +kernel⟩
set_option maxRecDepth 50000 in
theorem lk_X3_171 : LkV RX3 171 yX0_isBlank cX0_isBlank 4 (some .boolean) 1 := ⟨⟨wA 347 rfl rfl, wA 348 rfl rfl, wA 349 rfl rfl, wA 13 rfl rfl, wA 350 rfl rfl⟩, by decide +kernel, by decide +kernel, by decide +kernel⟩
set_option maxRecDepth 50000 in
theorem lk_X3_174 : LkV RX3 174 yX3_freeAmong cX3_freeAmong 4 (some .int) 3 := ⟨⟨wA 387 rfl rfl, wA 389 rfl rfl, wA 6 rfl rfl, wA 11 rfl rfl, wA 390 rfl rfl⟩, by decide +kernel, by decide +kernel, by decide +kernel⟩
set_option maxRecDepth 50000 in
theorem lk_X3_179 : LkV RX3 179 yX3_restOf cX3_restOf 6 (some .int) 4 := ⟨⟨wA 392 rfl rfl, wA 394 rfl rfl, wA 7 rfl rfl, wA 11 rfl rfl, wA 395 rfl rfl⟩, by decide +kernel, by decide +kernel, by decide +kernel⟩
set_option maxRecDepth 50000 in
theorem lk_X3_184 : LkV RX3 184 yX3_weighLeaves cX3_weighLeaves 8 none 4 := ⟨⟨wA 401 rfl rfl, wA 403 rfl rfl, wA 9 rfl rfl, wA 11 rfl rfl, wA 404 rfl rfl⟩, by decide +kernel, by decide +kernel, by decide +kernel⟩
set_option maxRecDepth 50000 in
theorem gf_X3_37 {l : Launch} {γ : Gm} {κ : Kx} {cc : ByteArray} {nL f ll : Nat} (C : Ok γ κ cc nL RX3 f ll) {ws : va_W} {lv : List (Nat × Value)} {k n pc pc' a : Nat} {st : List Value} {fs : List Value} {v : Value} (d : decode cc pc = .ok (.getfield 37, 3)) (hp : pc' = pc + 3) (q0 : Nat) (he : ws[q0]? = some (a, .inr (3, fs))) (hv : fs[5]? = some v) (kk : G l γ κ ws lv k n (v :: st) pc') : G l γ κ ws lv k n (.ref a :: st) pc := g_get (kf := 5) C aX3 rfl (by decide) (wA (w := Cond.fieldLink RX3 37 (TX3 5).1 (TX3 5).2.1 (TX3 5).2.2.1) 79 rfl rfl) d hp q0 he hv kk
set_option maxRecDepth 50000 in
theorem lk_X3_192 : LkV RX3 192 yX2_has cX2_has 2 (some .boolean) 1 := ⟨⟨wA 112 rfl rfl, wA 113 rfl rfl, wA 114 rfl rfl, wA 12 rfl rfl, wA 115 rfl rfl⟩, by decide +kernel, by decide +kernel, by decide +kernel⟩
set_option maxRecDepth 50000 in
theorem k_J6_265 : Cond.constant RJ6 265 1431655765 ∈ wsA := wA 257 rfl rfl
set_option maxRecDepth 50000 in
theorem k_J6_266 : Cond.constant RJ6 266 858993459 ∈ wsA := wA 258 rfl rfl
set_option maxRecDepth 50000 in
theorem k_J6_267 : Cond.constant RJ6 267 252645135 ∈ wsA := wA 259 rfl rfl
set_option maxRecDepth 50000 in
theorem k_L_7 : Cond.constant RL 7 2147483647 ∈ wsA := wA 325 rfl rfl
set_option maxRecDepth 50000 in
theorem k_L_8 : Cond.constant RL 8 40503 ∈ wsA := wA 329 rfl rfl
set_option maxRecDepth 50000 in
theorem lk_L_9 : LkV RL 9 yX3_addPlace cX3_addPlace 2 (some .int) 1 := ⟨⟨wA 334 rfl rfl, wA 335 rfl rfl, wA 336 rfl rfl, wA 11 rfl rfl, wA 337 rfl rfl⟩, by decide +kernel, by decide +kernel, by decide +kernel⟩
set_option maxRecDepth 50000 in
theorem lk_L_17 : LkV RL 17 yX3_set cX3_set 6 (some .int) 5 := ⟨⟨wA 359 rfl rfl, wA 360 rfl rfl, wA 361 rfl rfl, wA 11 rfl rfl, wA 362 rfl rfl⟩, by decide +kernel, by decide +kernel, by decide +kernel⟩
set_option maxRecDepth 50000 in
theorem lk_L_21 : LkV RL 21 yX3_spread cX3_spread 7 (some .int) 5 := ⟨⟨wA 379 rfl rfl, wA 380 rfl rfl, wA 381 rfl rfl, wA 11 rfl rfl, wA 382 rfl rfl⟩, by decide +kernel, by decide +kernel, by decide +kernel⟩
set_option maxRecDepth 50000 in
theorem lk_L_24 : LkV RL 24 yX3_spreadYear cX3_spreadYear 7 (some .int) 3 := ⟨⟨wA 420 rfl rfl, wA 421 rfl rfl, wA 422 rfl rfl, wA 11 rfl rfl, wA 423 rfl rfl⟩, by decide +kernel, by decide +kernel, by decide +kernel⟩
set_option maxRecDepth 50000 in
theorem lk_L_28 : LkV RL 28 yX3_copy cX3_copy 3 (some .int) 2 := ⟨⟨wA 429 rfl rfl, wA 430 rfl rfl, wA 431 rfl rfl, wA 11 rfl rfl, wA 432 rfl rfl⟩, by decide +kernel, by decide +kernel, by decide +kernel⟩
set_option maxRecDepth 50000 in
theorem lk_L_32 : LkV RL 32 yX3_see cX3_see 5 (some .int) 4 := ⟨⟨wA 442 rfl rfl, wA 443 rfl rfl, wA 444 rfl rfl, wA 11 rfl rfl, wA 445 rfl rfl⟩, by decide +kernel, by decide +kernel, by decide +kernel⟩
set_option maxRecDepth 50000 in
theorem lk_L_36 : LkV RL 36 yX3_filled cX3_filled 1 (some .int) 0 := ⟨⟨wA 301 rfl rfl, wA 302 rfl rfl, wA 303 rfl rfl, wA 11 rfl rfl, wA 304 rfl rfl⟩, by decide +kernel, by decide +kernel, by decide +kernel⟩
set_option maxRecDepth 50000 in
theorem lk_L_40 : LkV RL 40 yX3_leaves cX3_leaves 2 (some .int) 1 := ⟨⟨wA 104 rfl rfl, wA 105 rfl rfl, wA 106 rfl rfl, wA 11 rfl rfl, wA 107 rfl rfl⟩, by decide +kernel, by decide +kernel, by decide +kernel⟩
set_option maxRecDepth 50000 in
theorem lk_L_43 : LkV RL 43 yX3_year cX3_year 7 (some .int) 3 := ⟨⟨wA 297 rfl rfl, wA 298 rfl rfl, wA 299 rfl rfl, wA 11 rfl rfl, wA 300 rfl rfl⟩, by decide +kernel, by decide +kernel, by decide +kernel⟩
set_option maxRecDepth 50000 in
theorem lk_L_46 : LkV RL 46 yX3_yearByLeaves cX3_yearByLeaves 7 (some .int) 3 := ⟨⟨wA 449 rfl rfl, wA 450 rfl rfl, wA 451 rfl rfl, wA 11 rfl rfl, wA 452 rfl rfl⟩, by decide +kernel, by decide +kernel, by decide +kernel⟩
set_option maxRecDepth 50000 in
theorem lk_L_49 : LkV RL 49 yX3_gap cX3_gap 8 (some .int) 4 := ⟨⟨wA 309 rfl rfl, wA 310 rfl rfl, wA 311 rfl rfl, wA 11 rfl rfl, wA 312 rfl rfl⟩, by decide +kernel, by decide +kernel, by decide +kernel⟩
set_option maxRecDepth 50000 in
theorem lk_L_52 : LkI RL 52 yX3_init cX3_init 2 0 := ⟨⟨wA 24 rfl rfl, wA 25 rfl rfl, wA 11 rfl rfl, wA 26 rfl rfl⟩, by decide +kernel, by decide +kernel, by decide +kernel⟩
set_option maxRecDepth 50000 in
theorem lk_L_53 : LkV RL 53 yX3_places cX3_places 1 (some .int) 0 := ⟨⟨wA 96 rfl rfl, wA 97 rfl rfl, wA 98 rfl rfl, wA 11 rfl rfl, wA 99 rfl rfl⟩, by decide +kernel, by decide +kernel, by decide +kernel⟩
set_option maxRecDepth 50000 in
theorem lk_L_56 : LkS RL 56 yL_holds cL_holds 6 (some .boolean) 4 := ⟨⟨wA 446 rfl rfl, wA 447 rfl rfl, wA 10 rfl rfl, wA 448 rfl rfl⟩, by decide +kernel, by decide +kernel, by decide +kernel⟩
set_option maxRecDepth 50000 in
theorem lk_L_62 : LkS RL 62 yL_cell cL_cell 2 (some .int) 2 := ⟨⟨wA 326 rfl rfl, wA 327 rfl rfl, wA 10 rfl rfl, wA 328 rfl rfl⟩, by decide +kernel, by decide +kernel, by decide +kernel⟩
set_option maxRecDepth 50000 in
theorem lk_L_66 : LkS RL 66 yL_low cL_low 2 (some .int) 2 := ⟨⟨wA 322 rfl rfl, wA 323 rfl rfl, wA 10 rfl rfl, wA 324 rfl rfl⟩, by decide +kernel, by decide +kernel, by decide +kernel⟩
set_option maxRecDepth 50000 in
theorem lk_L_69 : LkS RL 69 yL_isLeaf cL_isLeaf 2 (some .boolean) 2 := ⟨⟨wA 457 rfl rfl, wA 458 rfl rfl, wA 10 rfl rfl, wA 459 rfl rfl⟩, by decide +kernel, by decide +kernel, by decide +kernel⟩
set_option maxRecDepth 50000 in
theorem lk_L_73 : LkH RL 73 yL_add cL_add 3 (some .int) [(0, 5, 6, 15)] 2 := ⟨⟨wA 330 rfl rfl, wA 331 rfl rfl, wA 10 rfl rfl, wA 332 rfl rfl⟩, by decide +kernel, by decide +kernel, by decide +kernel⟩
set_option maxRecDepth 50000 in
theorem lk_L_77 : LkV RL 77 yX3_amount cX3_amount 5 (some .int) 4 := ⟨⟨wA 269 rfl rfl, wA 270 rfl rfl, wA 271 rfl rfl, wA 11 rfl rfl, wA 272 rfl rfl⟩, by decide +kernel, by decide +kernel, by decide +kernel⟩
set_option maxRecDepth 50000 in
theorem k_L_80 : Cond.constant RL 80 1000001 ∈ wsA := wA 460 rfl rfl
set_option maxRecDepth 50000 in
theorem lk_L_81 : LkH RL 81 yL_set cL_set 7 (some .int) [(0, 11, 12, 15)] 6 := ⟨⟨wA 356 rfl rfl, wA 357 rfl rfl, wA 10 rfl rfl, wA 358 rfl rfl⟩, by decide +kernel, by decide +kernel, by decide +kernel⟩
set_option maxRecDepth 50000 in
theorem lk_L_84 : LkV RL 84 yX3_hold cX3_hold 6 (some .boolean) 3 := ⟨⟨wA 191 rfl rfl, wA 192 rfl rfl, wA 193 rfl rfl, wA 11 rfl rfl, wA 194 rfl rfl⟩, by decide +kernel, by decide +kernel, by decide +kernel⟩
set_option maxRecDepth 50000 in
theorem lk_L_88 : LkH RL 88 yL_spread cL_spread 7 (some .int) [(0, 11, 12, 15)] 6 := ⟨⟨wA 376 rfl rfl, wA 377 rfl rfl, wA 10 rfl rfl, wA 378 rfl rfl⟩, by decide +kernel, by decide +kernel, by decide +kernel⟩
set_option maxRecDepth 50000 in
theorem lk_L_90 : LkH RL 90 yL_spreadYear cL_spreadYear 5 (some .int) [(0, 7, 8, 15)] 4 := ⟨⟨wA 417 rfl rfl, wA 418 rfl rfl, wA 10 rfl rfl, wA 419 rfl rfl⟩, by decide +kernel, by decide +kernel, by decide +kernel⟩
set_option maxRecDepth 50000 in
theorem lk_L_93 : LkV RL 93 yX3_setSeason cX3_setSeason 3 (some .int) 2 := ⟨⟨wA 223 rfl rfl, wA 224 rfl rfl, wA 225 rfl rfl, wA 11 rfl rfl, wA 226 rfl rfl⟩, by decide +kernel, by decide +kernel, by decide +kernel⟩
set_option maxRecDepth 50000 in
theorem lk_L_96 : LkH RL 96 yL_copy cL_copy 4 (some .int) [(0, 6, 7, 15)] 3 := ⟨⟨wA 426 rfl rfl, wA 427 rfl rfl, wA 10 rfl rfl, wA 428 rfl rfl⟩, by decide +kernel, by decide +kernel, by decide +kernel⟩
set_option maxRecDepth 50000 in
theorem lk_L_99 : LkV RL 99 yX3_handIn cX3_handIn 4 (some .int) 2 := ⟨⟨wA 246 rfl rfl, wA 247 rfl rfl, wA 248 rfl rfl, wA 11 rfl rfl, wA 249 rfl rfl⟩, by decide +kernel, by decide +kernel, by decide +kernel⟩
set_option maxRecDepth 50000 in
theorem lk_L_102 : LkV RL 102 yX3_takeBack cX3_takeBack 4 (some .int) 2 := ⟨⟨wA 260 rfl rfl, wA 261 rfl rfl, wA 262 rfl rfl, wA 11 rfl rfl, wA 263 rfl rfl⟩, by decide +kernel, by decide +kernel, by decide +kernel⟩
set_option maxRecDepth 50000 in
theorem lk_L_105 : LkH RL 105 yL_see cL_see 6 (some .int) [(0, 9, 10, 15)] 5 := ⟨⟨wA 439 rfl rfl, wA 440 rfl rfl, wA 10 rfl rfl, wA 441 rfl rfl⟩, by decide +kernel, by decide +kernel, by decide +kernel⟩
set_option maxRecDepth 50000 in
theorem lk_L_108 : LkV RL 108 yX3_outlook cX3_outlook 6 (some .int) 4 := ⟨⟨wA 293 rfl rfl, wA 294 rfl rfl, wA 295 rfl rfl, wA 11 rfl rfl, wA 296 rfl rfl⟩, by decide +kernel, by decide +kernel, by decide +kernel⟩
set_option maxRecDepth 50000 in
theorem lk_L_111 : LkV RL 111 yX3_closeMonth cX3_closeMonth 1 (some .int) 0 := ⟨⟨wA 264 rfl rfl, wA 265 rfl rfl, wA 266 rfl rfl, wA 11 rfl rfl, wA 267 rfl rfl⟩, by decide +kernel, by decide +kernel, by decide +kernel⟩
set_option maxRecDepth 50000 in
theorem thA_eIO : ∀ w ∈ (vx_atS RX3 191 eIO eUp).filter goodWord, w ∈ wsA := fun w hw => List.mem_filter.mpr ⟨(by decide +kernel : ∀ w ∈ (vx_atS RX3 191 eIO eUp).filter goodWord, w ∈ lw_tbl) w hw, (List.mem_filter.mp hw).2⟩
set_option maxRecDepth 50000 in
theorem thB_eIO : ∀ w ∈ (vx_atS RX3 191 eIO eUp).filter (fun w => !goodWord w), w ∈ exW := by decide +kernel
set_option maxRecDepth 50000 in
theorem thC_eIO : ∀ w ∈ Cond.classLink RX3 187 eIO :: Cond.initialized eIO :: vx_atS RX3 191 eIO eUp, vx_ot w = true := List.all_eq_true.mp (by decide +kernel)
set_option maxRecDepth 50000 in
theorem th_eIO {is : Nat} {text : String} (h : (is, text) ∈ exS) : ThW eIO 187 is 191 text := ⟨by decide +kernel, wA 116 rfl rfl, wA 18 rfl rfl, thA_eIO, thB_eIO, thC_eIO, h⟩
set_option maxRecDepth 50000 in
theorem thA_eIS : ∀ w ∈ (vx_atS RX3 60 eIS eUp).filter goodWord, w ∈ wsA := fun w hw => List.mem_filter.mpr ⟨(by decide +kernel : ∀ w ∈ (vx_atS RX3 60 eIS eUp).filter goodWord, w ∈ lw_tbl) w hw, (List.mem_filter.mp hw).2⟩
set_option maxRecDepth 50000 in
theorem thB_eIS : ∀ w ∈ (vx_atS RX3 60 eIS eUp).filter (fun w => !goodWord w), w ∈ exW := by decide +kernel
set_option maxRecDepth 50000 in
theorem thC_eIS : ∀ w ∈ Cond.classLink RX3 56 eIS :: Cond.initialized eIS :: vx_atS RX3 60 eIS eUp, vx_ot w = true := List.all_eq_true.mp (by decide +kernel)
set_option maxRecDepth 50000 in
theorem th_eIS {is : Nat} {text : String} (h : (is, text) ∈ exS) : ThW eIS 56 is 60 text := ⟨by decide +kernel, wA 207 rfl rfl, wA 20 rfl rfl, thA_eIS, thB_eIS, thC_eIS, h⟩
set_option maxRecDepth 50000 in
theorem thA_eIA : ∀ w ∈ (vx_atS RX3 135 eIA eUp).filter goodWord, w ∈ wsA := fun w hw => List.mem_filter.mpr ⟨(by decide +kernel : ∀ w ∈ (vx_atS RX3 135 eIA eUp).filter goodWord, w ∈ lw_tbl) w hw, (List.mem_filter.mp hw).2⟩
set_option maxRecDepth 50000 in
theorem thB_eIA : ∀ w ∈ (vx_atS RX3 135 eIA eUp).filter (fun w => !goodWord w), w ∈ exW := by decide +kernel
set_option maxRecDepth 50000 in
theorem thC_eIA : ∀ w ∈ Cond.classLink RX3 131 eIA :: Cond.initialized eIA :: vx_atS RX3 135 eIA eUp, vx_ot w = true := List.all_eq_true.mp (by decide +kernel)
set_option maxRecDepth 50000 in
theorem th_eIA {is : Nat} {text : String} (h : (is, text) ∈ exS) : ThW eIA 131 is 135 text := ⟨by decide +kernel, wA 230 rfl rfl, wA 19 rfl rfl, thA_eIA, thB_eIA, thC_eIA, h⟩
set_option maxRecDepth 50000 in
theorem cl_L_10 : Cond.classLink RL 10 "BudgetBook" ∈ wsA := wA 22 rfl rfl
set_option maxRecDepth 50000 in
theorem cl_L_15 : Cond.classLink RL 15 "java/lang/IllegalStateException" ∈ wsA := wA 333 rfl rfl
set_option maxRecDepth 50000 in
theorem cl_X3_9 : Cond.classLink RX3 9 "BudgetBook$Tree" ∈ wsA := wA 30 rfl rfl
set_option maxRecDepth 50000 in
theorem cl_X3_16 : Cond.classLink RX3 16 "BudgetBook$Cells" ∈ wsA := wA 47 rfl rfl
set_option maxRecDepth 50000 in
theorem cl_X3_30 : Cond.classLink RX3 30 "BudgetBook$Shares" ∈ wsA := wA 57 rfl rfl
set_option maxRecDepth 50000 in
theorem in_X3 : Cond.instantiable RX3 7 ∈ wsA := wA 23 rfl rfl
set_option maxRecDepth 50000 in
theorem ini_X3 : Cond.initialized RX3 ∈ wsA := wA 11 rfl rfl
set_option maxRecDepth 50000 in
theorem in_X2 : Cond.instantiable RX2 3 ∈ wsA := wA 31 rfl rfl
set_option maxRecDepth 50000 in
theorem ini_X2 : Cond.initialized RX2 ∈ wsA := wA 12 rfl rfl
set_option maxRecDepth 50000 in
theorem in_X0 : Cond.instantiable RX0 1 ∈ wsA := wA 48 rfl rfl
set_option maxRecDepth 50000 in
theorem ini_X0 : Cond.initialized RX0 ∈ wsA := wA 13 rfl rfl
set_option maxRecDepth 50000 in
theorem in_X1 : Cond.instantiable RX1 2 ∈ wsA := wA 58 rfl rfl
set_option maxRecDepth 50000 in
theorem ini_X1 : Cond.initialized RX1 ∈ wsA := wA 14 rfl rfl
set_option maxRecDepth 50000 in
theorem ac_int : Cond.arrayClass .int ∈ wsA := wA 46 rfl rfl
set_option maxRecDepth 50000 in
theorem oi_X0 : Cond.methodLink RX0 5 objectInit ∈ wsA := wA 52 rfl rfl
set_option maxRecDepth 50000 in
theorem oi_X1 : Cond.methodLink RX1 3 objectInit ∈ wsA := wA 62 rfl rfl
set_option maxRecDepth 50000 in
theorem oi_X2 : Cond.methodLink RX2 3 objectInit ∈ wsA := wA 35 rfl rfl
set_option maxRecDepth 50000 in
theorem oi_X3 : Cond.methodLink RX3 3 objectInit ∈ wsA := wA 27 rfl rfl
set_option maxRecDepth 50000 in
theorem oi_1 : Cond.instanceMethod objectInit ∈ wsA := wA 28 rfl rfl
set_option maxRecDepth 50000 in
theorem oi_2 : Cond.code objectInit ⟨#[0xb1]⟩ 1 none ∈ wsA := wA 29 rfl rfl
end
section
/-! the worlds of the classes; calls that make nothing, in short -/
abbrev Ar : Type := Nat → Int32
abbrev wT (γ : Gm) (h0 h1 : Nat) (cnt pwc : Int32) (par : Ar) : va_W := [(h0, .inr (2, [.ref h1, .int cnt, .int pwc])), (h1, .inl (γ.2.1, 10, .inl par))]
abbrev wC (γ : Gm) (h0 h1 : Nat) (amt : Ar) : va_W := [(h0, .inr (0, [.ref h1])), (h1, .inl (γ.2.1, 1440, .inl amt))]
abbrev wS (γ : Gm) (h0 h1 h2 : Nat) (wt sh : Ar) : va_W := [(h0, .inr (1, [.ref h1, .ref h2])), (h1, .inl (γ.2.1, 12, .inl wt)), (h2, .inl (γ.2.1, 12, .inl sh))]
abbrev wB (γ : Gm) (ad : Nat → Nat) (seen cnt pwc : Int32) (par amt held clos seW seS leW leS : Ar) : va_W :=
  [(ad 0, .inr (3, [.ref (ad 1), .ref (ad 2), .ref (ad 3), .ref (ad 4), .ref (ad 5), .ref (ad 6), .int seen])), (ad 1, .inr (2, [.ref (ad 7), .int cnt, .int pwc])), (ad 2, .inr (0, [.ref (ad 8)])),
   (ad 3, .inl (γ.2.1, 12, .inl held)), (ad 4, .inl (γ.2.1, 3, .inl clos)), (ad 5, .inr (1, [.ref (ad 9), .ref (ad 10)])), (ad 6, .inr (1, [.ref (ad 11), .ref (ad 12)])),
   (ad 7, .inl (γ.2.1, 10, .inl par)), (ad 8, .inl (γ.2.1, 1440, .inl amt)), (ad 9, .inl (γ.2.1, 12, .inl seW)), (ad 10, .inl (γ.2.1, 12, .inl seS)), (ad 11, .inl (γ.2.1, 12, .inl leW)), (ad 12, .inl (γ.2.1, 12, .inl leS))]
abbrev rs (ws : va_W) (is : List Nat) : va_W := is.filterMap (fun i => ws[i]?)
section SHORT
variable {l : Launch} {γ : Gm} {κ : Kx} {cc : ByteArray} {nL f ll : Nat} {own : String} {k n pc pc' : Nat} {st rest : List Value} {lv : List (Nat × Value)} {ws w0 : va_W} {S : Type}
theorem cfI (C : Ok γ κ cc nL own f ll) {Q : Int32 → S → Prop} {w1 : S → va_W} (hr : RunI l γ κ w0 k n 0 0 st pc rest Q w1) (hp : pc' = pc + 3) (isC isR pm : List Nat) (hnd : va_nd isC = true ∧ va_nd isR = true ∧ va_nd pm = true) (hdis : ∀ i ∈ isR, i ∉ isC) (ws1 : S → va_W) (hC : isC.map (fun i => ws[i]?) = w0.map some) (hR : isR.map (fun i => ws[i]?) = (rs ws isR).map some)
    (hpm : ∀ u, pm.map (fun i => (rs ws isR ++ w1 u)[i]?) = (ws1 u).map some) (kk : ∀ (r : Int32) (u : S), Q r u → G l γ κ (ws1 u) lv k n (.int r :: rest) pc') : G l γ κ ws lv k n st pc := aftI C hr hp isC isR pm hC hR hnd hdis hpm kk
theorem cfV (C : Ok γ κ cc nL own f ll) {Q : S → Prop} {w1 : S → va_W} (hr : RunV l γ κ w0 k n 0 0 st pc rest Q w1) (hp : pc' = pc + 3) (isC isR pm : List Nat) (hnd : va_nd isC = true ∧ va_nd isR = true ∧ va_nd pm = true) (hdis : ∀ i ∈ isR, i ∉ isC) (ws1 : S → va_W) (hC : isC.map (fun i => ws[i]?) = w0.map some) (hR : isR.map (fun i => ws[i]?) = (rs ws isR).map some)
    (hpm : ∀ u, pm.map (fun i => (rs ws isR ++ w1 u)[i]?) = (ws1 u).map some) (kk : ∀ (u : S), Q u → G l γ κ (ws1 u) lv k n rest pc') : G l γ κ ws lv k n st pc := aftV C hr hp isC isR pm hC hR hnd hdis hpm kk
theorem cfH (C : Ok γ κ cc nL own f ll) {Q : Int32 → S → Prop} {w1 : S → va_W} (hr : RunH l γ κ w0 k n st pc rest Q w1) (hp : pc' = pc + 3) (isC isR pm : List Nat) (hnd : va_nd isC = true ∧ va_nd isR = true ∧ va_nd pm = true) (hdis : ∀ i ∈ isR, i ∉ isC) (ws1 : S → va_W) (hC : isC.map (fun i => ws[i]?) = w0.map some) (hR : isR.map (fun i => ws[i]?) = (rs ws isR).map some)
    (hpm : ∀ u, pm.map (fun i => (rs ws isR ++ w1 u)[i]?) = (ws1 u).map some) (kk : ∀ (r : Int32) (u : S), Q r u → G l γ κ (ws1 u) lv (k + 1) (n + 6) (.int r :: rest) pc') : G l γ κ ws lv k n st pc := aftH C hr hp isC isR pm hC hR hnd hdis hpm kk
theorem cfX (C : Ok γ κ cc nL own f ll) {X : String → S → Prop} {w1 : S → va_W} (hr : RunX l γ κ w0 0 0 st pc rest X w1) (isC isR pm : List Nat) (hnd : va_nd isC = true ∧ va_nd isR = true ∧ va_nd pm = true) (hdis : ∀ i ∈ isR, i ∉ isC) (ws1 : S → va_W) (hC : isC.map (fun i => ws[i]?) = w0.map some) (hR : isR.map (fun i => ws[i]?) = (rs ws isR).map some)
    (hpm : ∀ u, pm.map (fun i => (rs ws isR ++ w1 u)[i]?) = (ws1 u).map some)
    (kx : ∀ (E : String) (u : S), X E u → ∃ (pre : List ExceptionTableEntry) (x : ExceptionTableEntry) (suf : List ExceptionTableEntry), κ.c.exceptionTable.toList = pre ++ x :: suf ∧
      (∀ z ∈ pre, z.catchType ≠ 0 ∧ ∃ nm : String, Cond.classLink own z.catchType nm ∈ wsA ∧ (E, nm) ∈ exN) ∧ covers x pc = true ∧ x.catchType ≠ 0 ∧ Cond.classLink own x.catchType E ∈ wsA ∧ Cond.castable E E ∈ exW ∧
      ∀ q9 : Nat, G l γ κ (ws1 u) lv 1 6 [.ref q9] x.handlerPc) : G l γ κ ws lv 0 0 st pc := catchX C hr isC isR pm hC hR hnd hdis hpm kx
theorem csI (C : Ok γ κ cc nL own f ll) {Q : Int32 → S → Prop} {w1 : S → va_W} (hr : RunI l γ κ ws k n 0 0 st pc rest Q w1) (hp : pc' = pc + 3) (kk : ∀ (r : Int32) (u : S), Q r u → G l γ κ (w1 u) lv k n (.int r :: rest) pc') : G l γ κ ws lv k n st pc := sameI C hr hp kk
theorem csV (C : Ok γ κ cc nL own f ll) {Q : S → Prop} {w1 : S → va_W} (hr : RunV l γ κ ws k n 0 0 st pc rest Q w1) (hp : pc' = pc + 3) (kk : ∀ (u : S), Q u → G l γ κ (w1 u) lv k n rest pc') : G l γ κ ws lv k n st pc := sameV C hr hp kk
theorem cnI (C : Ok γ κ cc nL own f ll) {Q : Int32 → S → Prop} {w1 : S → va_W} (hr : RunI l γ κ [] k n 0 0 st pc rest Q w1) (hp : pc' = pc + 3) (kk : ∀ (r : Int32) (u : S), Q r u → G l γ κ ws lv k n (.int r :: rest) pc') : G l γ κ ws lv k n st pc := noneI C hr hp kk
theorem cnV (C : Ok γ κ cc nL own f ll) {Q : S → Prop} {w1 : S → va_W} (hr : RunV l γ κ [] k n 0 0 st pc rest Q w1) (hp : pc' = pc + 3) (kk : ∀ (u : S), Q u → G l γ κ ws lv k n rest pc') : G l γ κ ws lv k n st pc := noneV C hr hp kk
theorem g_tabOut (C : Ok γ κ cc nL own f ll) {dflt lo hi : Int} {offs : Array Int} {len : Nat} {x : Int32} {tgt : Nat} (d : decode cc pc = .ok (.tableswitch dflt lo hi offs, len)) (h : x.toInt < lo ∨ hi < x.toInt) (ht : (pc : Int) + dflt = (tgt : Int)) (kk : G l γ κ ws lv k n st tgt) : G l γ κ ws lv k n (.int x :: st) pc :=
  fun H locs ls hP hD hS hl => lv_tableOut C.1 C.2.1 d h ht (kk H locs ls hP hD hS hl)
theorem g_tabIn (C : Ok γ κ cc nL own f ll) {dflt lo hi : Int} {offs : Array Int} {len : Nat} {x : Int32} {off : Int} {tgt : Nat} (d : decode cc pc = .ok (.tableswitch dflt lo hi offs, len)) (h1 : ¬ x.toInt < lo) (h2 : ¬ hi < x.toInt) (ho : offs[(x.toInt - lo).toNat]? = some off) (ht : (pc : Int) + off = (tgt : Int)) (kk : G l γ κ ws lv k n st tgt) : G l γ κ ws lv k n (.int x :: st) pc :=
  fun H locs ls hP hD hS hl => lv_tableIn C.1 C.2.1 d h1 h2 ho ht (kk H locs ls hP hD hS hl)
/-- the script -/
theorem g_sld (C : Ok γ κ cc nL own f ll) {b L : Nat} {xs : Nat → Int32} (hX : va_X b L xs κ.s κ.s.heap) (hbl : b < κ.s.heap.size) (hbA : ¬ κ.A b) {i : Int32} (d : decode cc pc = .ok (.iaload, 1)) (hp : pc' = pc + 1) (hin : vp_in i L) (kk : G l γ κ ws lv k n (.int (xs i.toNatClampNeg) :: st) pc') : G l γ κ ws lv k n (.int i :: .ref b :: st) pc := by
  subst hp
  exact fun H locs ls hP hD hS hl => va_sld C.1 C.2.1 hX hbl hbA hS hin d (kk H locs ls hP hD hS hl)
theorem g_slen (C : Ok γ κ cc nL own f ll) {b L : Nat} {xs : Nat → Int32} (hX : va_X b L xs κ.s κ.s.heap) (hbl : b < κ.s.heap.size) (hbA : ¬ κ.A b) (d : decode cc pc = .ok (.arraylength, 1)) (hp : pc' = pc + 1) (kk : G l γ κ ws lv k n (.int (Int32.ofNat L) :: st) pc') : G l γ κ ws lv k n (.ref b :: st) pc := by
  subst hp
  exact fun H locs ls hP hD hS hl => va_slen C.1 C.2.1 hX hbl hbA hS d (kk H locs ls hP hD hS hl)
end SHORT
/-! a static method that reads the script -/
def PreS (γ : Gm) (b L : Nat) (xs : Nat → Int32) (sz : Nat) : State → Prop := fun U => Pre γ [] sz U ∧ va_X b L xs U U.heap ∧ b < U.heap.size
theorem PreS.blind {γ : Gm} {b L sz : Nat} {xs : Nat → Int32} {args : List Value} : FrameBlind (va_Pc args (PreS γ b L xs sz)) := by
  intro a U g mk h
  obtain ⟨h0, ⟨h1, h2, h3, h4, h5⟩, h6, h7⟩ := h
  have hW : U.WarmedH (U.calling g mk a).vm := State.WarmedH.refl U
  exact ⟨h0, ⟨h1, h2, va_K.moved (u := U) (U := U.calling g mk a) (Vm.Alike.refl U.vm) h3, h4, Ex.warm hW h5⟩, va_X.moved (u := U) (U := U.calling g mk a) (Vm.Alike.refl U.vm) h6, h7⟩
def CtS (l : Launch) (γ : Gm) (y : MethodName) (cc : ByteArray) (mL : Nat) (rt : FieldType) (f ll : Nat) (args : List Value) (b L : Nat) (xs : Nat → Int32) (Q : Int32 → Prop) : Prop :=
  ∀ sz : Nat, Met l y (wM y cc mL (some rt)) ({ frames := f, cells := 0, slots := 0, locals := ll } : Room) (va_Pc args (PreS γ b L xs sz)) (va_Qi (fun r (_ : Unit) => Q r) (PoB γ (va_A [] sz) (fun _ => [])) (va_A [] sz)) 0 0 (va_A [] sz)
section SCRIPT
variable {l : Launch} {γ : Gm} {κ : Kx} {y : MethodName} {cc bytes : ByteArray} {nL mL f ll fc lc ix nA : Nat} {own : String} {args As rest st : List Value} {b L k n pc pc' : Nat} {xs : Nat → Int32} {ws : va_W} {lv : List (Nat × Value)} {rt : FieldType} {Q : Int32 → Prop}
theorem startS (hy : plainName y.cls = true) (hsl : (lg_sl args).length ≤ mL)
    (body : ∀ κ : Kx, Ok γ κ cc mL y.cls f ll → va_X b L xs κ.s κ.s.heap → b < κ.s.heap.size → ¬ κ.A b → RtI l γ κ cc rt 0 0 (fun r (_ : Unit) => Q r) (fun _ => []) → G l γ κ [] (lv_args 0 args) 0 0 [] 0) : CtS l γ y cc mL rt f ll args b L xs Q := by
  intro sz
  refine Met.ofW (cc := cc) (maxL := mL) (ret := some rt) hy rfl ?_
  intro p e s m args' below meth c s₁ B hml hv
  obtain ⟨rfl, ⟨hsz, hP, hK, hD0, hE⟩, hX, hbl⟩ := hv
  subst hsz
  have hts : ∀ w ∈ wsA, w.before args.toArray s = true := fun w hw => atoms_spec (ws := wM y cc mL (some rt)) B.pre w (List.mem_cons_of_mem _ hw)
  have hl := lv_entry args (n := mL) hsl
  rw [lg_entry_eq]
  generalize ((lg_sl args) ++ List.replicate (mL - (lg_sl args).length) Slot.unset).toArray = ls at hl ⊢
  refine body (p, e, ({ frames := f, cells := 0, slots := 0, locals := ll } : Room), s, m, args.toArray, below, meth, c, MQ below (va_Qi (fun r (_ : Unit) => Q r) (PoB γ (va_A [] s.heap.size) (fun _ => [])) (va_A [] s.heap.size)) args.toArray s 0 0 (va_A [] s.heap.size), va_A [] s.heap.size)
    ⟨B.exec, B.bytes, hml, findClass_of_methodNamed B.named, hts, hK, fun q h => Or.inr h, hE, B.notSynchronized, Nat.le_refl _, Nat.le_refl _⟩ hX hbl (no_A hbl) ?_ s.heap [] ls hP hD0.self va_S.rf (by show lv_has ls c.maxLocals _; rw [hml]; exact hl)
  exact fun v u lv k n pc d hn hk hn' hq H locs ls hP hD hS h => W.widen hk hn' (W.zret B.exec B.bytes B.returns hn (fun t ht hW => ⟨⟨v, u, rfl, hq, by rw [ht]; exact hP, hD⟩, hS.F ht⟩) hS.2.2 d B.notSynchronized)
theorem csS (C : Ok γ κ cc nL own f ll) (hX : va_X b L xs κ.s κ.s.heap) (hbl : b < κ.s.heap.size) (hbA : ¬ κ.A b) (hw : LkS own ix y bytes mL (some rt) nA) (hM : CtS l γ y bytes mL rt fc lc As b L xs Q) (hf : fc + 1 ≤ f ∧ 8 + (mL + 11) + lc ≤ ll)
    (hst : st = As.reverse ++ rest) (hlen : As.length = nA) (hcat : (rest.map fun v => v.category).sum ≤ 8) (hk : k + 0 ≤ κ.R.cells ∧ n + 0 ≤ κ.R.slots)
    (d : decode cc pc = .ok (.invokestatic ix, 3)) (hp : pc' = pc + 3) (kk : ∀ r : Int32, Q r → G l γ κ ws lv k n (.int r :: rest) pc') : G l γ κ ws lv k n st pc := by
  subst hp
  intro H locs ls hP hD hS h
  obtain ⟨a1, a2, a3, hF⟩ := aft_pre (w0 := []) C hP hD hS [] rfl rfl
  have hXH : va_X b L xs κ.s H := hX.kept (hS.2.1 b hbl hbA)
  have hpre : ∀ U : State, U.heap = H → κ.s.WarmedH U.vm → va_Pc As (PreS γ b L xs H.size) As.toArray U := fun U hU hW => by
    obtain ⟨p1, p2⟩ := preOf C a1 a2 a3 (args := As) U hU hW
    refine ⟨p1, p2, ?_, ?_⟩
    · rw [hU]
      exact hXH.moved hW.alike
    · rw [hU]
      exact Nat.lt_of_lt_of_le hbl hS.1
  refine va_calli (va_runS (As := As) (rest := rest) (n := nA) ⟨C.1, C.2.1, rfl, C.2.2.2.1, C.2.2.2.2.1⟩ (hM H.size) (va_cwS nA C.2.2.2.2.1 hw.good rfl rfl rfl ⟨hw.2.1, hw.2.2.1, hw.2.2.2⟩ ⟨Nat.le_trans hf.1 C.2.2.2.2.2.2.2.2.2.1, Nat.le_trans hf.2 C.2.2.2.2.2.2.2.2.2.2⟩)
    ⟨PreS.blind, hpre⟩ rfl hlen h.1 hst (lv_room hcat) d hk) hS (fun q _ hq => hF q hq) hF (fun r u t H1 locs1 ht hvm hq hB hz hk1 hS1 => ?_)
  exact kk r hq H1 locs1 ls (hP.kept fun k2 q hk2 => hk1 q.1 (hP k2 q hk2).lt (no_A (hP k2 q hk2).lt)) hD hS1 h
end SCRIPT
/-- a number of the script, or what stands behind its end -/
def vL_cell (xs : Nat → Int32) (L : Nat) (x1 : Int32) (Q : Int32 → Prop) : Prop := (Int32.ofNat L ≤ x1 → Q ((40503 : Int32) * x1 + (977 : Int32))) ∧ (¬ Int32.ofNat L ≤ x1 → (vp_in x1 L ∧ Q (xs x1.toNatClampNeg)))
theorem mtL_cell {l : Launch} {γ : Gm} {b L : Nat} {xs : Nat → Int32} {x1 : Int32} {Q : Int32 → Prop} (hv : vL_cell xs L x1 Q) : CtS l γ yL_cell cL_cell 2 .int 0 0 [.ref b, .int x1] b L xs Q := startS (by decide +kernel) (Nat.le_of_ble_eq_true rfl) (fun κ C hX hbl hbA RT => by
  show G l γ κ [] [(0, .ref b), (1, .int x1)] 0 0 [] 0
  refine g_iload_n (pc' := 1) C dL_cell_0 rfl rfl rfl ?_
  refine g_aload_n (pc' := 2) C dL_cell_1 rfl rfl rfl ?_
  refine g_slen (pc' := 3) C hX hbl hbA dL_cell_2 rfl ?_
  refine g_icmp_ge (pc' := 6) (tgt := 12) C dL_cell_3 rfl (by decide) (fun c => ?_) (fun c => ?_)
  · have hv := hv.1 c
    refine g_ldc (pc' := 14) C k_L_8 dL_cell_12 rfl ?_
    refine g_iload_n (pc' := 15) C dL_cell_14 rfl rfl rfl ?_
    refine g_imul (pc' := 16) C dL_cell_15 rfl ?_
    refine g_sipush (pc' := 19) (v := (977 : Int32)) C dL_cell_16 rfl (by decide) ?_
    refine g_iadd (pc' := 20) C dL_cell_19 rfl ?_
    exact RT _ () _ _ _ _ dL_cell_20 rfl (by decide) (by decide) hv
  · obtain ⟨hi, hv⟩ := hv.2 c
    refine g_aload_n (pc' := 7) C dL_cell_6 rfl rfl rfl ?_
    refine g_iload_n (pc' := 8) C dL_cell_7 rfl rfl rfl ?_
    refine g_sld (pc' := 9) C hX hbl hbA dL_cell_8 rfl hi ?_
    refine g_goto (tgt := 20) C dL_cell_9 (by decide) ?_
    exact RT _ () _ _ _ _ dL_cell_20 rfl (by decide) (by decide) hv)
theorem nd_BT1 : va_nd [1, 7] = true ∧ va_nd [0, 2, 3, 4, 5, 6, 8, 9, 10, 11, 12] = true ∧ va_nd [0, 11, 1, 2, 3, 4, 5, 12, 6, 7, 8, 9, 10] = true := by decide
theorem di_BT1 : ∀ i ∈ ([0, 2, 3, 4, 5, 6, 8, 9, 10, 11, 12] : List Nat), i ∉ ([1, 7] : List Nat) := by decide
theorem nd_BC2 : va_nd [2, 8] = true ∧ va_nd [0, 1, 3, 4, 5, 6, 7, 9, 10, 11, 12] = true ∧ va_nd [0, 1, 11, 2, 3, 4, 5, 6, 12, 7, 8, 9, 10] = true := by decide
theorem di_BC2 : ∀ i ∈ ([0, 1, 3, 4, 5, 6, 7, 9, 10, 11, 12] : List Nat), i ∉ ([2, 8] : List Nat) := by decide
theorem nd_BS5 : va_nd [5, 9, 10] = true ∧ va_nd [0, 1, 2, 3, 4, 6, 7, 8, 11, 12] = true ∧ va_nd [0, 1, 2, 3, 4, 10, 5, 6, 7, 11, 12, 8, 9] = true := by decide
theorem di_BS5 : ∀ i ∈ ([0, 1, 2, 3, 4, 6, 7, 8, 11, 12] : List Nat), i ∉ ([5, 9, 10] : List Nat) := by decide
theorem nd_BS6 : va_nd [6, 11, 12] = true ∧ va_nd [0, 1, 2, 3, 4, 5, 7, 8, 9, 10] = true ∧ va_nd [0, 1, 2, 3, 4, 5, 10, 6, 7, 8, 9, 11, 12] = true := by decide
theorem di_BS6 : ∀ i ∈ ([0, 1, 2, 3, 4, 5, 7, 8, 9, 10] : List Nat), i ∉ ([6, 11, 12] : List Nat) := by decide
theorem nd_HB : va_nd [0, 1, 2, 3, 4, 5, 6, 7, 8, 9, 10, 11, 12] = true ∧ va_nd [] = true ∧ va_nd [0, 1, 2, 3, 4, 5, 6, 7, 8, 9, 10, 11, 12] = true := by decide
theorem di_HB : ∀ i ∈ ([] : List Nat), i ∉ ([0, 1, 2, 3, 4, 5, 6, 7, 8, 9, 10, 11, 12] : List Nat) := by decide
theorem nd_LB : va_nd [0, 1, 2, 3, 4, 5, 6, 7, 8, 9, 10, 11, 12] = true ∧ va_nd [] = true ∧ va_nd [0, 1, 2, 3, 4, 5, 6, 7, 8, 9, 10, 11, 12] = true := by decide
theorem di_LB : ∀ i ∈ ([] : List Nat), i ∉ ([0, 1, 2, 3, 4, 5, 6, 7, 8, 9, 10, 11, 12] : List Nat) := by decide
theorem nd_LH : va_nd [0, 1, 2, 3, 4, 5, 6, 7, 8, 9, 10, 11, 12] = true ∧ va_nd [] = true ∧ va_nd [0, 1, 2, 3, 4, 5, 6, 7, 8, 9, 10, 11, 12] = true := by decide
theorem di_LH : ∀ i ∈ ([] : List Nat), i ∉ ([0, 1, 2, 3, 4, 5, 6, 7, 8, 9, 10, 11, 12] : List Nat) := by decide
end
section
/-! formulas and walks, by program -/
def vJ6_bitCount_0f7a4 (x0 : Int32) (Q : Int32 → Prop) : Prop := (Q ((((((((x0 - (((x0.toUInt32 >>> ((1 : Int32).toUInt32 &&& Int32.toUInt32 31)).toInt32) &&& (1431655765 : Int32))) &&& (858993459 : Int32)) + ((((x0 - (((x0.toUInt32 >>> ((1 : Int32).toUInt32 &&& Int32.toUInt32 31)).toInt32) &&& (1431655765 : Int32))).toUInt32 >>> ((2 : Int32).toUInt32 &&& Int32.toUInt32 31)).toInt32) &&& (858993459 : Int32))) + (((((x0 - (((x0.toUInt32 >>> ((1 : Int32).toUInt32 &&& Int32.toUInt32 31)).toInt32) &&& (1431655765 : Int32))) &&& (858993459 : Int32)) + ((((x0 - (((x0.toUInt32 >>> ((1 : Int32).toUInt32 &&& Int32.toUInt32 31)).toInt32) &&& (1431655765 : Int32))).toUInt32 >>> ((2 : Int32).toUInt32 &&& Int32.toUInt32 31)).toInt32) &&& (858993459 : Int32))).toUInt32 >>> ((4 : Int32).toUInt32 &&& Int32.toUInt32 31)).toInt32)) &&& (252645135 : Int32)) + (((((((x0 - (((x0.toUInt32 >>> ((1 : Int32).toUInt32 &&& Int32.toUInt32 31)).toInt32) &&& (1431655765 : Int32))) &&& (858993459 : Int32)) + ((((x0 - (((x0.toUInt32 >>> ((1 : Int32).toUInt32 &&& Int32.toUInt32 31)).toInt32) &&& (1431655765 : Int32))).toUInt32 >>> ((2 : Int32).toUInt32 &&& Int32.toUInt32 31)).toInt32) &&& (858993459 : Int32))) + (((((x0 - (((x0.toUInt32 >>> ((1 : Int32).toUInt32 &&& Int32.toUInt32 31)).toInt32) &&& (1431655765 : Int32))) &&& (858993459 : Int32)) + ((((x0 - (((x0.toUInt32 >>> ((1 : Int32).toUInt32 &&& Int32.toUInt32 31)).toInt32) &&& (1431655765 : Int32))).toUInt32 >>> ((2 : Int32).toUInt32 &&& Int32.toUInt32 31)).toInt32) &&& (858993459 : Int32))).toUInt32 >>> ((4 : Int32).toUInt32 &&& Int32.toUInt32 31)).toInt32)) &&& (252645135 : Int32)).toUInt32 >>> ((8 : Int32).toUInt32 &&& Int32.toUInt32 31)).toInt32)) + ((((((((x0 - (((x0.toUInt32 >>> ((1 : Int32).toUInt32 &&& Int32.toUInt32 31)).toInt32) &&& (1431655765 : Int32))) &&& (858993459 : Int32)) + ((((x0 - (((x0.toUInt32 >>> ((1 : Int32).toUInt32 &&& Int32.toUInt32 31)).toInt32) &&& (1431655765 : Int32))).toUInt32 >>> ((2 : Int32).toUInt32 &&& Int32.toUInt32 31)).toInt32) &&& (858993459 : Int32))) + (((((x0 - (((x0.toUInt32 >>> ((1 : Int32).toUInt32 &&& Int32.toUInt32 31)).toInt32) &&& (1431655765 : Int32))) &&& (858993459 : Int32)) + ((((x0 - (((x0.toUInt32 >>> ((1 : Int32).toUInt32 &&& Int32.toUInt32 31)).toInt32) &&& (1431655765 : Int32))).toUInt32 >>> ((2 : Int32).toUInt32 &&& Int32.toUInt32 31)).toInt32) &&& (858993459 : Int32))).toUInt32 >>> ((4 : Int32).toUInt32 &&& Int32.toUInt32 31)).toInt32)) &&& (252645135 : Int32)) + (((((((x0 - (((x0.toUInt32 >>> ((1 : Int32).toUInt32 &&& Int32.toUInt32 31)).toInt32) &&& (1431655765 : Int32))) &&& (858993459 : Int32)) + ((((x0 - (((x0.toUInt32 >>> ((1 : Int32).toUInt32 &&& Int32.toUInt32 31)).toInt32) &&& (1431655765 : Int32))).toUInt32 >>> ((2 : Int32).toUInt32 &&& Int32.toUInt32 31)).toInt32) &&& (858993459 : Int32))) + (((((x0 - (((x0.toUInt32 >>> ((1 : Int32).toUInt32 &&& Int32.toUInt32 31)).toInt32) &&& (1431655765 : Int32))) &&& (858993459 : Int32)) + ((((x0 - (((x0.toUInt32 >>> ((1 : Int32).toUInt32 &&& Int32.toUInt32 31)).toInt32) &&& (1431655765 : Int32))).toUInt32 >>> ((2 : Int32).toUInt32 &&& Int32.toUInt32 31)).toInt32) &&& (858993459 : Int32))).toUInt32 >>> ((4 : Int32).toUInt32 &&& Int32.toUInt32 31)).toInt32)) &&& (252645135 : Int32)).toUInt32 >>> ((8 : Int32).toUInt32 &&& Int32.toUInt32 31)).toInt32)).toUInt32 >>> ((16 : Int32).toUInt32 &&& Int32.toUInt32 31)).toInt32)) &&& (63 : Int32)))
set_option maxHeartbeats 4000000 in
set_option maxRecDepth 100000 in
theorem mtJ6_bitCount_0f7a4 {l : Launch} {γ : Gm} {x0 : Int32} {Q : Int32 → Prop} (hv : vJ6_bitCount_0f7a4 x0 Q) : CtI l γ yJ6_bitCount_0f7a4 cJ6_bitCount_0f7a4 1 .int 0 0 0 0 [.int x0] ([]) (fun (r : Int32) (_ : Unit) => Q r) (fun _ => []) := startI (by decide +kernel) (Nat.le_of_ble_eq_true rfl) (fun κ C RT hR hnm => by
  show G l γ κ ([]) [(0, .int x0)] 0 0 [] 0
  refine g_iload_n (pc' := 1) C dJ6_bitCount_0f7a4_0 rfl rfl rfl ?_
  refine g_iload_n (pc' := 2) C dJ6_bitCount_0f7a4_1 rfl rfl rfl ?_
  refine g_iconst (pc' := 3) (v := (1 : Int32)) C dJ6_bitCount_0f7a4_2 rfl (by decide) ?_
  refine g_iushr (pc' := 4) C dJ6_bitCount_0f7a4_3 rfl ?_
  refine g_ldcw (pc' := 7) C k_J6_265 dJ6_bitCount_0f7a4_4 rfl ?_
  refine g_iand (pc' := 8) C dJ6_bitCount_0f7a4_7 rfl ?_
  refine g_isub (pc' := 9) C dJ6_bitCount_0f7a4_8 rfl ?_
  refine g_istore_n (pc' := 10) (lv' := [(0, .int (x0 - (((x0.toUInt32 >>> ((1 : Int32).toUInt32 &&& Int32.toUInt32 31)).toInt32) &&& (1431655765 : Int32))))]) C dJ6_bitCount_0f7a4_9 rfl rfl (by decide) rfl ?_
  refine g_iload_n (pc' := 11) C dJ6_bitCount_0f7a4_10 rfl rfl rfl ?_
  refine g_ldcw (pc' := 14) C k_J6_266 dJ6_bitCount_0f7a4_11 rfl ?_
  refine g_iand (pc' := 15) C dJ6_bitCount_0f7a4_14 rfl ?_
  refine g_iload_n (pc' := 16) C dJ6_bitCount_0f7a4_15 rfl rfl rfl ?_
  refine g_iconst (pc' := 17) (v := (2 : Int32)) C dJ6_bitCount_0f7a4_16 rfl (by decide) ?_
  refine g_iushr (pc' := 18) C dJ6_bitCount_0f7a4_17 rfl ?_
  refine g_ldcw (pc' := 21) C k_J6_266 dJ6_bitCount_0f7a4_18 rfl ?_
  refine g_iand (pc' := 22) C dJ6_bitCount_0f7a4_21 rfl ?_
  refine g_iadd (pc' := 23) C dJ6_bitCount_0f7a4_22 rfl ?_
  refine g_istore_n (pc' := 24) (lv' := [(0, .int (((x0 - (((x0.toUInt32 >>> ((1 : Int32).toUInt32 &&& Int32.toUInt32 31)).toInt32) &&& (1431655765 : Int32))) &&& (858993459 : Int32)) + ((((x0 - (((x0.toUInt32 >>> ((1 : Int32).toUInt32 &&& Int32.toUInt32 31)).toInt32) &&& (1431655765 : Int32))).toUInt32 >>> ((2 : Int32).toUInt32 &&& Int32.toUInt32 31)).toInt32) &&& (858993459 : Int32))))]) C dJ6_bitCount_0f7a4_23 rfl rfl (by decide) rfl ?_
  refine g_iload_n (pc' := 25) C dJ6_bitCount_0f7a4_24 rfl rfl rfl ?_
  refine g_iload_n (pc' := 26) C dJ6_bitCount_0f7a4_25 rfl rfl rfl ?_
  refine g_iconst (pc' := 27) (v := (4 : Int32)) C dJ6_bitCount_0f7a4_26 rfl (by decide) ?_
  refine g_iushr (pc' := 28) C dJ6_bitCount_0f7a4_27 rfl ?_
  refine g_iadd (pc' := 29) C dJ6_bitCount_0f7a4_28 rfl ?_
  refine g_ldcw (pc' := 32) C k_J6_267 dJ6_bitCount_0f7a4_29 rfl ?_
  refine g_iand (pc' := 33) C dJ6_bitCount_0f7a4_32 rfl ?_
  refine g_istore_n (pc' := 34) (lv' := [(0, .int (((((x0 - (((x0.toUInt32 >>> ((1 : Int32).toUInt32 &&& Int32.toUInt32 31)).toInt32) &&& (1431655765 : Int32))) &&& (858993459 : Int32)) + ((((x0 - (((x0.toUInt32 >>> ((1 : Int32).toUInt32 &&& Int32.toUInt32 31)).toInt32) &&& (1431655765 : Int32))).toUInt32 >>> ((2 : Int32).toUInt32 &&& Int32.toUInt32 31)).toInt32) &&& (858993459 : Int32))) + (((((x0 - (((x0.toUInt32 >>> ((1 : Int32).toUInt32 &&& Int32.toUInt32 31)).toInt32) &&& (1431655765 : Int32))) &&& (858993459 : Int32)) + ((((x0 - (((x0.toUInt32 >>> ((1 : Int32).toUInt32 &&& Int32.toUInt32 31)).toInt32) &&& (1431655765 : Int32))).toUInt32 >>> ((2 : Int32).toUInt32 &&& Int32.toUInt32 31)).toInt32) &&& (858993459 : Int32))).toUInt32 >>> ((4 : Int32).toUInt32 &&& Int32.toUInt32 31)).toInt32)) &&& (252645135 : Int32)))]) C dJ6_bitCount_0f7a4_33 rfl rfl (by decide) rfl ?_
  refine g_iload_n (pc' := 35) C dJ6_bitCount_0f7a4_34 rfl rfl rfl ?_
  refine g_iload_n (pc' := 36) C dJ6_bitCount_0f7a4_35 rfl rfl rfl ?_
  refine g_bipush (pc' := 38) (v := (8 : Int32)) C dJ6_bitCount_0f7a4_36 rfl (by decide) ?_
  refine g_iushr (pc' := 39) C dJ6_bitCount_0f7a4_38 rfl ?_
  refine g_iadd (pc' := 40) C dJ6_bitCount_0f7a4_39 rfl ?_
  refine g_istore_n (pc' := 41) (lv' := [(0, .int ((((((x0 - (((x0.toUInt32 >>> ((1 : Int32).toUInt32 &&& Int32.toUInt32 31)).toInt32) &&& (1431655765 : Int32))) &&& (858993459 : Int32)) + ((((x0 - (((x0.toUInt32 >>> ((1 : Int32).toUInt32 &&& Int32.toUInt32 31)).toInt32) &&& (1431655765 : Int32))).toUInt32 >>> ((2 : Int32).toUInt32 &&& Int32.toUInt32 31)).toInt32) &&& (858993459 : Int32))) + (((((x0 - (((x0.toUInt32 >>> ((1 : Int32).toUInt32 &&& Int32.toUInt32 31)).toInt32) &&& (1431655765 : Int32))) &&& (858993459 : Int32)) + ((((x0 - (((x0.toUInt32 >>> ((1 : Int32).toUInt32 &&& Int32.toUInt32 31)).toInt32) &&& (1431655765 : Int32))).toUInt32 >>> ((2 : Int32).toUInt32 &&& Int32.toUInt32 31)).toInt32) &&& (858993459 : Int32))).toUInt32 >>> ((4 : Int32).toUInt32 &&& Int32.toUInt32 31)).toInt32)) &&& (252645135 : Int32)) + (((((((x0 - (((x0.toUInt32 >>> ((1 : Int32).toUInt32 &&& Int32.toUInt32 31)).toInt32) &&& (1431655765 : Int32))) &&& (858993459 : Int32)) + ((((x0 - (((x0.toUInt32 >>> ((1 : Int32).toUInt32 &&& Int32.toUInt32 31)).toInt32) &&& (1431655765 : Int32))).toUInt32 >>> ((2 : Int32).toUInt32 &&& Int32.toUInt32 31)).toInt32) &&& (858993459 : Int32))) + (((((x0 - (((x0.toUInt32 >>> ((1 : Int32).toUInt32 &&& Int32.toUInt32 31)).toInt32) &&& (1431655765 : Int32))) &&& (858993459 : Int32)) + ((((x0 - (((x0.toUInt32 >>> ((1 : Int32).toUInt32 &&& Int32.toUInt32 31)).toInt32) &&& (1431655765 : Int32))).toUInt32 >>> ((2 : Int32).toUInt32 &&& Int32.toUInt32 31)).toInt32) &&& (858993459 : Int32))).toUInt32 >>> ((4 : Int32).toUInt32 &&& Int32.toUInt32 31)).toInt32)) &&& (252645135 : Int32)).toUInt32 >>> ((8 : Int32).toUInt32 &&& Int32.toUInt32 31)).toInt32)))]) C dJ6_bitCount_0f7a4_40 rfl rfl (by decide) rfl ?_
  refine g_iload_n (pc' := 42) C dJ6_bitCount_0f7a4_41 rfl rfl rfl ?_
  refine g_iload_n (pc' := 43) C dJ6_bitCount_0f7a4_42 rfl rfl rfl ?_
  refine g_bipush (pc' := 45) (v := (16 : Int32)) C dJ6_bitCount_0f7a4_43 rfl (by decide) ?_
  refine g_iushr (pc' := 46) C dJ6_bitCount_0f7a4_45 rfl ?_
  refine g_iadd (pc' := 47) C dJ6_bitCount_0f7a4_46 rfl ?_
  refine g_istore_n (pc' := 48) (lv' := [(0, .int (((((((x0 - (((x0.toUInt32 >>> ((1 : Int32).toUInt32 &&& Int32.toUInt32 31)).toInt32) &&& (1431655765 : Int32))) &&& (858993459 : Int32)) + ((((x0 - (((x0.toUInt32 >>> ((1 : Int32).toUInt32 &&& Int32.toUInt32 31)).toInt32) &&& (1431655765 : Int32))).toUInt32 >>> ((2 : Int32).toUInt32 &&& Int32.toUInt32 31)).toInt32) &&& (858993459 : Int32))) + (((((x0 - (((x0.toUInt32 >>> ((1 : Int32).toUInt32 &&& Int32.toUInt32 31)).toInt32) &&& (1431655765 : Int32))) &&& (858993459 : Int32)) + ((((x0 - (((x0.toUInt32 >>> ((1 : Int32).toUInt32 &&& Int32.toUInt32 31)).toInt32) &&& (1431655765 : Int32))).toUInt32 >>> ((2 : Int32).toUInt32 &&& Int32.toUInt32 31)).toInt32) &&& (858993459 : Int32))).toUInt32 >>> ((4 : Int32).toUInt32 &&& Int32.toUInt32 31)).toInt32)) &&& (252645135 : Int32)) + (((((((x0 - (((x0.toUInt32 >>> ((1 : Int32).toUInt32 &&& Int32.toUInt32 31)).toInt32) &&& (1431655765 : Int32))) &&& (858993459 : Int32)) + ((((x0 - (((x0.toUInt32 >>> ((1 : Int32).toUInt32 &&& Int32.toUInt32 31)).toInt32) &&& (1431655765 : Int32))).toUInt32 >>> ((2 : Int32).toUInt32 &&& Int32.toUInt32 31)).toInt32) &&& (858993459 : Int32))) + (((((x0 - (((x0.toUInt32 >>> ((1 : Int32).toUInt32 &&& Int32.toUInt32 31)).toInt32) &&& (1431655765 : Int32))) &&& (858993459 : Int32)) + ((((x0 - (((x0.toUInt32 >>> ((1 : Int32).toUInt32 &&& Int32.toUInt32 31)).toInt32) &&& (1431655765 : Int32))).toUInt32 >>> ((2 : Int32).toUInt32 &&& Int32.toUInt32 31)).toInt32) &&& (858993459 : Int32))).toUInt32 >>> ((4 : Int32).toUInt32 &&& Int32.toUInt32 31)).toInt32)) &&& (252645135 : Int32)).toUInt32 >>> ((8 : Int32).toUInt32 &&& Int32.toUInt32 31)).toInt32)) + ((((((((x0 - (((x0.toUInt32 >>> ((1 : Int32).toUInt32 &&& Int32.toUInt32 31)).toInt32) &&& (1431655765 : Int32))) &&& (858993459 : Int32)) + ((((x0 - (((x0.toUInt32 >>> ((1 : Int32).toUInt32 &&& Int32.toUInt32 31)).toInt32) &&& (1431655765 : Int32))).toUInt32 >>> ((2 : Int32).toUInt32 &&& Int32.toUInt32 31)).toInt32) &&& (858993459 : Int32))) + (((((x0 - (((x0.toUInt32 >>> ((1 : Int32).toUInt32 &&& Int32.toUInt32 31)).toInt32) &&& (1431655765 : Int32))) &&& (858993459 : Int32)) + ((((x0 - (((x0.toUInt32 >>> ((1 : Int32).toUInt32 &&& Int32.toUInt32 31)).toInt32) &&& (1431655765 : Int32))).toUInt32 >>> ((2 : Int32).toUInt32 &&& Int32.toUInt32 31)).toInt32) &&& (858993459 : Int32))).toUInt32 >>> ((4 : Int32).toUInt32 &&& Int32.toUInt32 31)).toInt32)) &&& (252645135 : Int32)) + (((((((x0 - (((x0.toUInt32 >>> ((1 : Int32).toUInt32 &&& Int32.toUInt32 31)).toInt32) &&& (1431655765 : Int32))) &&& (858993459 : Int32)) + ((((x0 - (((x0.toUInt32 >>> ((1 : Int32).toUInt32 &&& Int32.toUInt32 31)).toInt32) &&& (1431655765 : Int32))).toUInt32 >>> ((2 : Int32).toUInt32 &&& Int32.toUInt32 31)).toInt32) &&& (858993459 : Int32))) + (((((x0 - (((x0.toUInt32 >>> ((1 : Int32).toUInt32 &&& Int32.toUInt32 31)).toInt32) &&& (1431655765 : Int32))) &&& (858993459 : Int32)) + ((((x0 - (((x0.toUInt32 >>> ((1 : Int32).toUInt32 &&& Int32.toUInt32 31)).toInt32) &&& (1431655765 : Int32))).toUInt32 >>> ((2 : Int32).toUInt32 &&& Int32.toUInt32 31)).toInt32) &&& (858993459 : Int32))).toUInt32 >>> ((4 : Int32).toUInt32 &&& Int32.toUInt32 31)).toInt32)) &&& (252645135 : Int32)).toUInt32 >>> ((8 : Int32).toUInt32 &&& Int32.toUInt32 31)).toInt32)).toUInt32 >>> ((16 : Int32).toUInt32 &&& Int32.toUInt32 31)).toInt32)))]) C dJ6_bitCount_0f7a4_47 rfl rfl (by decide) rfl ?_
  refine g_iload_n (pc' := 49) C dJ6_bitCount_0f7a4_48 rfl rfl rfl ?_
  refine g_bipush (pc' := 51) (v := (63 : Int32)) C dJ6_bitCount_0f7a4_49 rfl (by decide) ?_
  refine g_iand (pc' := 52) C dJ6_bitCount_0f7a4_51 rfl ?_
  exact RT ((((((((x0 - (((x0.toUInt32 >>> ((1 : Int32).toUInt32 &&& Int32.toUInt32 31)).toInt32) &&& (1431655765 : Int32))) &&& (858993459 : Int32)) + ((((x0 - (((x0.toUInt32 >>> ((1 : Int32).toUInt32 &&& Int32.toUInt32 31)).toInt32) &&& (1431655765 : Int32))).toUInt32 >>> ((2 : Int32).toUInt32 &&& Int32.toUInt32 31)).toInt32) &&& (858993459 : Int32))) + (((((x0 - (((x0.toUInt32 >>> ((1 : Int32).toUInt32 &&& Int32.toUInt32 31)).toInt32) &&& (1431655765 : Int32))) &&& (858993459 : Int32)) + ((((x0 - (((x0.toUInt32 >>> ((1 : Int32).toUInt32 &&& Int32.toUInt32 31)).toInt32) &&& (1431655765 : Int32))).toUInt32 >>> ((2 : Int32).toUInt32 &&& Int32.toUInt32 31)).toInt32) &&& (858993459 : Int32))).toUInt32 >>> ((4 : Int32).toUInt32 &&& Int32.toUInt32 31)).toInt32)) &&& (252645135 : Int32)) + (((((((x0 - (((x0.toUInt32 >>> ((1 : Int32).toUInt32 &&& Int32.toUInt32 31)).toInt32) &&& (1431655765 : Int32))) &&& (858993459 : Int32)) + ((((x0 - (((x0.toUInt32 >>> ((1 : Int32).toUInt32 &&& Int32.toUInt32 31)).toInt32) &&& (1431655765 : Int32))).toUInt32 >>> ((2 : Int32).toUInt32 &&& Int32.toUInt32 31)).toInt32) &&& (858993459 : Int32))) + (((((x0 - (((x0.toUInt32 >>> ((1 : Int32).toUInt32 &&& Int32.toUInt32 31)).toInt32) &&& (1431655765 : Int32))) &&& (858993459 : Int32)) + ((((x0 - (((x0.toUInt32 >>> ((1 : Int32).toUInt32 &&& Int32.toUInt32 31)).toInt32) &&& (1431655765 : Int32))).toUInt32 >>> ((2 : Int32).toUInt32 &&& Int32.toUInt32 31)).toInt32) &&& (858993459 : Int32))).toUInt32 >>> ((4 : Int32).toUInt32 &&& Int32.toUInt32 31)).toInt32)) &&& (252645135 : Int32)).toUInt32 >>> ((8 : Int32).toUInt32 &&& Int32.toUInt32 31)).toInt32)) + ((((((((x0 - (((x0.toUInt32 >>> ((1 : Int32).toUInt32 &&& Int32.toUInt32 31)).toInt32) &&& (1431655765 : Int32))) &&& (858993459 : Int32)) + ((((x0 - (((x0.toUInt32 >>> ((1 : Int32).toUInt32 &&& Int32.toUInt32 31)).toInt32) &&& (1431655765 : Int32))).toUInt32 >>> ((2 : Int32).toUInt32 &&& Int32.toUInt32 31)).toInt32) &&& (858993459 : Int32))) + (((((x0 - (((x0.toUInt32 >>> ((1 : Int32).toUInt32 &&& Int32.toUInt32 31)).toInt32) &&& (1431655765 : Int32))) &&& (858993459 : Int32)) + ((((x0 - (((x0.toUInt32 >>> ((1 : Int32).toUInt32 &&& Int32.toUInt32 31)).toInt32) &&& (1431655765 : Int32))).toUInt32 >>> ((2 : Int32).toUInt32 &&& Int32.toUInt32 31)).toInt32) &&& (858993459 : Int32))).toUInt32 >>> ((4 : Int32).toUInt32 &&& Int32.toUInt32 31)).toInt32)) &&& (252645135 : Int32)) + (((((((x0 - (((x0.toUInt32 >>> ((1 : Int32).toUInt32 &&& Int32.toUInt32 31)).toInt32) &&& (1431655765 : Int32))) &&& (858993459 : Int32)) + ((((x0 - (((x0.toUInt32 >>> ((1 : Int32).toUInt32 &&& Int32.toUInt32 31)).toInt32) &&& (1431655765 : Int32))).toUInt32 >>> ((2 : Int32).toUInt32 &&& Int32.toUInt32 31)).toInt32) &&& (858993459 : Int32))) + (((((x0 - (((x0.toUInt32 >>> ((1 : Int32).toUInt32 &&& Int32.toUInt32 31)).toInt32) &&& (1431655765 : Int32))) &&& (858993459 : Int32)) + ((((x0 - (((x0.toUInt32 >>> ((1 : Int32).toUInt32 &&& Int32.toUInt32 31)).toInt32) &&& (1431655765 : Int32))).toUInt32 >>> ((2 : Int32).toUInt32 &&& Int32.toUInt32 31)).toInt32) &&& (858993459 : Int32))).toUInt32 >>> ((4 : Int32).toUInt32 &&& Int32.toUInt32 31)).toInt32)) &&& (252645135 : Int32)).toUInt32 >>> ((8 : Int32).toUInt32 &&& Int32.toUInt32 31)).toInt32)).toUInt32 >>> ((16 : Int32).toUInt32 &&& Int32.toUInt32 31)).toInt32)) &&& (63 : Int32)) () _ _ _ _ dJ6_bitCount_0f7a4_52 rfl (by decide) (by decide) hv)
def vX0_indexOf (x0 : Int32) (x1 : Int32) (x2 : Int32) (x3 : Int32) (Q : Int32 → Prop) : Prop := (Q ((((x0 * (360 : Int32)) + (x1 * (36 : Int32))) + (x2 * (12 : Int32))) + x3))
set_option maxHeartbeats 4000000 in
set_option maxRecDepth 100000 in
theorem mtX0_indexOf {l : Launch} {γ : Gm} {x0 : Int32} {x1 : Int32} {x2 : Int32} {x3 : Int32} {Q : Int32 → Prop} (hv : vX0_indexOf x0 x1 x2 x3 Q) : CtI l γ yX0_indexOf cX0_indexOf 4 .int 0 0 0 0 [.int x0, .int x1, .int x2, .int x3] ([]) (fun (r : Int32) (_ : Unit) => Q r) (fun _ => []) := startI (by decide +kernel) (Nat.le_of_ble_eq_true rfl) (fun κ C RT hR hnm => by
  show G l γ κ ([]) [(0, .int x0), (1, .int x1), (2, .int x2), (3, .int x3)] 0 0 [] 0
  refine g_iload_n (pc' := 1) C dX0_indexOf_0 rfl rfl rfl ?_
  refine g_sipush (pc' := 4) (v := (360 : Int32)) C dX0_indexOf_1 rfl (by decide) ?_
  refine g_imul (pc' := 5) C dX0_indexOf_4 rfl ?_
  refine g_iload_n (pc' := 6) C dX0_indexOf_5 rfl rfl rfl ?_
  refine g_bipush (pc' := 8) (v := (36 : Int32)) C dX0_indexOf_6 rfl (by decide) ?_
  refine g_imul (pc' := 9) C dX0_indexOf_8 rfl ?_
  refine g_iadd (pc' := 10) C dX0_indexOf_9 rfl ?_
  refine g_iload_n (pc' := 11) C dX0_indexOf_10 rfl rfl rfl ?_
  refine g_bipush (pc' := 13) (v := (12 : Int32)) C dX0_indexOf_11 rfl (by decide) ?_
  refine g_imul (pc' := 14) C dX0_indexOf_13 rfl ?_
  refine g_iadd (pc' := 15) C dX0_indexOf_14 rfl ?_
  refine g_iload_n (pc' := 16) C dX0_indexOf_15 rfl rfl rfl ?_
  refine g_iadd (pc' := 17) C dX0_indexOf_16 rfl ?_
  exact RT ((((x0 * (360 : Int32)) + (x1 * (36 : Int32))) + (x2 * (12 : Int32))) + x3) () _ _ _ _ dX0_indexOf_17 rfl (by decide) (by decide) hv)
def vX3_isIn (x0 : Int32) (x1 : Int32) (Q : Int32 → Prop) : Prop := ((((x0 >>> (x1 &&& 31)) &&& (1 : Int32)) = (0 : Int32) → (Q (0 : Int32))) ∧ (¬ ((x0 >>> (x1 &&& 31)) &&& (1 : Int32)) = (0 : Int32) → (Q (1 : Int32))))
set_option maxHeartbeats 4000000 in
set_option maxRecDepth 100000 in
theorem mtX3_isIn {l : Launch} {γ : Gm} {x0 : Int32} {x1 : Int32} {Q : Int32 → Prop} (hv : vX3_isIn x0 x1 Q) : CtI l γ yX3_isIn cX3_isIn 2 .boolean 0 0 0 0 [.int x0, .int x1] ([]) (fun (r : Int32) (_ : Unit) => Q r) (fun _ => []) := startI (by decide +kernel) (Nat.le_of_ble_eq_true rfl) (fun κ C RT hR hnm => by
  show G l γ κ ([]) [(0, .int x0), (1, .int x1)] 0 0 [] 0
  refine g_iload_n (pc' := 1) C dX3_isIn_0 rfl rfl rfl ?_
  refine g_iload_n (pc' := 2) C dX3_isIn_1 rfl rfl rfl ?_
  refine g_ishr (pc' := 3) C dX3_isIn_2 rfl ?_
  refine g_iconst (pc' := 4) (v := (1 : Int32)) C dX3_isIn_3 rfl (by decide) ?_
  refine g_iand (pc' := 5) C dX3_isIn_4 rfl ?_
  obtain ⟨hv1, hv2⟩ := hv
  refine g_if_eq (pc' := 8) (tgt := 12) C dX3_isIn_5 rfl (by decide) (fun c => ?_) (fun c => ?_)
  · have hv := hv1 c
    refine g_iconst (pc' := 13) (v := (0 : Int32)) C dX3_isIn_12 rfl (by decide) ?_
    exact RT (0 : Int32) () _ _ _ _ dX3_isIn_13 rfl (by decide) (by decide) hv
  · have hv := hv2 c
    refine g_iconst (pc' := 9) (v := (1 : Int32)) C dX3_isIn_8 rfl (by decide) ?_
    refine g_goto (tgt := 13) C dX3_isIn_9 (by decide) ?_
    exact RT (1 : Int32) () _ _ _ _ dX3_isIn_13 rfl (by decide) (by decide) hv)
def vX3_checkVersion_J9 (Q : Prop) : Prop := False
set_option maxHeartbeats 4000000 in
set_option maxRecDepth 100000 in
theorem wvX3_checkVersion_J9 {l : Launch} {γ : Gm} {κ : Kx} {Q : Prop} (C : Ok γ κ cX3_checkVersion 1 RX3 6 82) (RT : RtV l γ κ cX3_checkVersion 0 0 (fun (_ : Unit) => Q) (fun _ => []))  (hv : vX3_checkVersion_J9 Q) : G l γ κ ([]) [] 0 0 [] 9 := by
  exact hv.elim
def vX3_checkVersion (x0 : Int32) (Q : Prop) : Prop := ((x0 < (0 : Int32) → (vX3_checkVersion_J9 Q)) ∧ (¬ x0 < (0 : Int32) → ((x0 < (3 : Int32) → Q) ∧ (¬ x0 < (3 : Int32) → (vX3_checkVersion_J9 Q)))))
set_option maxHeartbeats 4000000 in
set_option maxRecDepth 100000 in
theorem mtX3_checkVersion {l : Launch} {γ : Gm} {x0 : Int32} {Q : Prop} (hv : vX3_checkVersion x0 Q) : CtV l γ yX3_checkVersion cX3_checkVersion 1 6 82 0 0 [.int x0] ([]) (fun (_ : Unit) => Q) (fun _ => []) := startV (by decide +kernel) (Nat.le_of_ble_eq_true rfl) (fun κ C RT hR hnm => by
  show G l γ κ ([]) [(0, .int x0)] 0 0 [] 0
  refine g_iload_n (pc' := 1) C dX3_checkVersion_0 rfl rfl rfl ?_
  obtain ⟨hv1, hv2⟩ := hv
  refine g_if_lt (pc' := 4) (tgt := 9) C dX3_checkVersion_1 rfl (by decide) (fun c => ?_) (fun c => ?_)
  · have hv := hv1 c
    refine g_sub (lv' := []) [] rfl ?_
    exact wvX3_checkVersion_J9 C RT  hv
  · have hv := hv2 c
    refine g_iload_n (pc' := 5) C dX3_checkVersion_4 rfl rfl rfl ?_
    refine g_iconst (pc' := 6) (v := (3 : Int32)) C dX3_checkVersion_5 rfl (by decide) ?_
    obtain ⟨hv1, hv2⟩ := hv
    refine g_icmp_lt (pc' := 9) (tgt := 19) C dX3_checkVersion_6 rfl (by decide) (fun c => ?_) (fun c => ?_)
    · have hv := hv1 c
      exact RT () _ _ _ _ dX3_checkVersion_19 (by decide) (by decide) hv
    · have hv := hv2 c
      refine g_sub (lv' := []) [] rfl ?_
      exact wvX3_checkVersion_J9 C RT  hv)
def zX3_checkVersion_J9 (X : String → Prop) : Prop := (X eIO)
set_option maxHeartbeats 4000000 in
set_option maxRecDepth 100000 in
theorem wzX3_checkVersion_J9 {l : Launch} {γ : Gm} {κ : Kx} {X : String → Prop} (hfl : l.stackTraces = false) (C : Ok γ κ cX3_checkVersion 1 RX3 6 82) (hX : XQ γ κ (fun (E : String) (_ : Unit) => X E) (fun _ => []))  (hv : zX3_checkVersion_J9 X) : G l γ κ ([]) [] 0 0 [] 9 := by
  exact g_throw hfl C hX () (th_eIO (List.mem_of_getElem? (i := 9) rfl)) (by decide) dX3_checkVersion_9 dX3_checkVersion_12 dX3_checkVersion_13 dX3_checkVersion_15 dX3_checkVersion_18 rfl hv
def zX3_checkVersion (x0 : Int32) (X : String → Prop) : Prop := ((x0 < (0 : Int32) → (zX3_checkVersion_J9 X)) ∧ (¬ x0 < (0 : Int32) → ((x0 < (3 : Int32) → False) ∧ (¬ x0 < (3 : Int32) → (zX3_checkVersion_J9 X)))))
set_option maxHeartbeats 4000000 in
set_option maxRecDepth 100000 in
theorem mtzX3_checkVersion {l : Launch} (hfl : l.stackTraces = false) {γ : Gm} {x0 : Int32} {X : String → Prop} (hv : zX3_checkVersion x0 X) : CtX l γ yX3_checkVersion cX3_checkVersion 1 none 6 82 [.int x0] ([]) (fun (E : String) (_ : Unit) => X E) (fun _ => []) := startX (by decide +kernel) (Nat.le_of_ble_eq_true rfl) (fun κ C hX => by
  show G l γ κ ([]) [(0, .int x0)] 0 0 [] 0
  refine g_iload_n (pc' := 1) C dX3_checkVersion_0 rfl rfl rfl ?_
  obtain ⟨hv1, hv2⟩ := hv
  refine g_if_lt (pc' := 4) (tgt := 9) C dX3_checkVersion_1 rfl (by decide) (fun c => ?_) (fun c => ?_)
  · have hv := hv1 c
    refine g_sub (lv' := []) [] rfl ?_
    exact wzX3_checkVersion_J9 hfl C hX  hv
  · have hv := hv2 c
    refine g_iload_n (pc' := 5) C dX3_checkVersion_4 rfl rfl rfl ?_
    refine g_iconst (pc' := 6) (v := (3 : Int32)) C dX3_checkVersion_5 rfl (by decide) ?_
    obtain ⟨hv1, hv2⟩ := hv
    refine g_icmp_lt (pc' := 9) (tgt := 19) C dX3_checkVersion_6 rfl (by decide) (fun c => ?_) (fun c => ?_)
    · have hv := hv1 c
      exact hv.elim
    · have hv := hv2 c
      refine g_sub (lv' := []) [] rfl ?_
      exact wzX3_checkVersion_J9 hfl C hX  hv)
def vX3_checkCellAccount_J9 (Q : Prop) : Prop := False
set_option maxHeartbeats 4000000 in
set_option maxRecDepth 100000 in
theorem wvX3_checkCellAccount_J9 {l : Launch} {γ : Gm} {κ : Kx} {Q : Prop} (C : Ok γ κ cX3_checkCellAccount 1 RX3 6 82) (RT : RtV l γ κ cX3_checkCellAccount 0 0 (fun (_ : Unit) => Q) (fun _ => []))  (hv : vX3_checkCellAccount_J9 Q) : G l γ κ ([]) [] 0 0 [] 9 := by
  exact hv.elim
def vX3_checkCellAccount (x0 : Int32) (Q : Prop) : Prop := ((x0 < (0 : Int32) → (vX3_checkCellAccount_J9 Q)) ∧ (¬ x0 < (0 : Int32) → ((x0 < (3 : Int32) → Q) ∧ (¬ x0 < (3 : Int32) → (vX3_checkCellAccount_J9 Q)))))
set_option maxHeartbeats 4000000 in
set_option maxRecDepth 100000 in
theorem mtX3_checkCellAccount {l : Launch} {γ : Gm} {x0 : Int32} {Q : Prop} (hv : vX3_checkCellAccount x0 Q) : CtV l γ yX3_checkCellAccount cX3_checkCellAccount 1 6 82 0 0 [.int x0] ([]) (fun (_ : Unit) => Q) (fun _ => []) := startV (by decide +kernel) (Nat.le_of_ble_eq_true rfl) (fun κ C RT hR hnm => by
  show G l γ κ ([]) [(0, .int x0)] 0 0 [] 0
  refine g_iload_n (pc' := 1) C dX3_checkCellAccount_0 rfl rfl rfl ?_
  obtain ⟨hv1, hv2⟩ := hv
  refine g_if_lt (pc' := 4) (tgt := 9) C dX3_checkCellAccount_1 rfl (by decide) (fun c => ?_) (fun c => ?_)
  · have hv := hv1 c
    refine g_sub (lv' := []) [] rfl ?_
    exact wvX3_checkCellAccount_J9 C RT  hv
  · have hv := hv2 c
    refine g_iload_n (pc' := 5) C dX3_checkCellAccount_4 rfl rfl rfl ?_
    refine g_iconst (pc' := 6) (v := (3 : Int32)) C dX3_checkCellAccount_5 rfl (by decide) ?_
    obtain ⟨hv1, hv2⟩ := hv
    refine g_icmp_lt (pc' := 9) (tgt := 19) C dX3_checkCellAccount_6 rfl (by decide) (fun c => ?_) (fun c => ?_)
    · have hv := hv1 c
      exact RT () _ _ _ _ dX3_checkCellAccount_19 (by decide) (by decide) hv
    · have hv := hv2 c
      refine g_sub (lv' := []) [] rfl ?_
      exact wvX3_checkCellAccount_J9 C RT  hv)
def zX3_checkCellAccount_J9 (X : String → Prop) : Prop := (X eIO)
set_option maxHeartbeats 4000000 in
set_option maxRecDepth 100000 in
theorem wzX3_checkCellAccount_J9 {l : Launch} {γ : Gm} {κ : Kx} {X : String → Prop} (hfl : l.stackTraces = false) (C : Ok γ κ cX3_checkCellAccount 1 RX3 6 82) (hX : XQ γ κ (fun (E : String) (_ : Unit) => X E) (fun _ => []))  (hv : zX3_checkCellAccount_J9 X) : G l γ κ ([]) [] 0 0 [] 9 := by
  exact g_throw hfl C hX () (th_eIO (List.mem_of_getElem? (i := 12) rfl)) (by decide) dX3_checkCellAccount_9 dX3_checkCellAccount_12 dX3_checkCellAccount_13 dX3_checkCellAccount_15 dX3_checkCellAccount_18 rfl hv
def zX3_checkCellAccount (x0 : Int32) (X : String → Prop) : Prop := ((x0 < (0 : Int32) → (zX3_checkCellAccount_J9 X)) ∧ (¬ x0 < (0 : Int32) → ((x0 < (3 : Int32) → False) ∧ (¬ x0 < (3 : Int32) → (zX3_checkCellAccount_J9 X)))))
set_option maxHeartbeats 4000000 in
set_option maxRecDepth 100000 in
theorem mtzX3_checkCellAccount {l : Launch} (hfl : l.stackTraces = false) {γ : Gm} {x0 : Int32} {X : String → Prop} (hv : zX3_checkCellAccount x0 X) : CtX l γ yX3_checkCellAccount cX3_checkCellAccount 1 none 6 82 [.int x0] ([]) (fun (E : String) (_ : Unit) => X E) (fun _ => []) := startX (by decide +kernel) (Nat.le_of_ble_eq_true rfl) (fun κ C hX => by
  show G l γ κ ([]) [(0, .int x0)] 0 0 [] 0
  refine g_iload_n (pc' := 1) C dX3_checkCellAccount_0 rfl rfl rfl ?_
  obtain ⟨hv1, hv2⟩ := hv
  refine g_if_lt (pc' := 4) (tgt := 9) C dX3_checkCellAccount_1 rfl (by decide) (fun c => ?_) (fun c => ?_)
  · have hv := hv1 c
    refine g_sub (lv' := []) [] rfl ?_
    exact wzX3_checkCellAccount_J9 hfl C hX  hv
  · have hv := hv2 c
    refine g_iload_n (pc' := 5) C dX3_checkCellAccount_4 rfl rfl rfl ?_
    refine g_iconst (pc' := 6) (v := (3 : Int32)) C dX3_checkCellAccount_5 rfl (by decide) ?_
    obtain ⟨hv1, hv2⟩ := hv
    refine g_icmp_lt (pc' := 9) (tgt := 19) C dX3_checkCellAccount_6 rfl (by decide) (fun c => ?_) (fun c => ?_)
    · have hv := hv1 c
      exact hv.elim
    · have hv := hv2 c
      refine g_sub (lv' := []) [] rfl ?_
      exact wzX3_checkCellAccount_J9 hfl C hX  hv)
def vX3_checkMonth_J10 (Q : Prop) : Prop := False
set_option maxHeartbeats 4000000 in
set_option maxRecDepth 100000 in
theorem wvX3_checkMonth_J10 {l : Launch} {γ : Gm} {κ : Kx} {Q : Prop} (C : Ok γ κ cX3_checkMonth 1 RX3 6 82) (RT : RtV l γ κ cX3_checkMonth 0 0 (fun (_ : Unit) => Q) (fun _ => []))  (hv : vX3_checkMonth_J10 Q) : G l γ κ ([]) [] 0 0 [] 10 := by
  exact hv.elim
def vX3_checkMonth (x0 : Int32) (Q : Prop) : Prop := ((x0 < (0 : Int32) → (vX3_checkMonth_J10 Q)) ∧ (¬ x0 < (0 : Int32) → ((x0 < (12 : Int32) → Q) ∧ (¬ x0 < (12 : Int32) → (vX3_checkMonth_J10 Q)))))
set_option maxHeartbeats 4000000 in
set_option maxRecDepth 100000 in
theorem mtX3_checkMonth {l : Launch} {γ : Gm} {x0 : Int32} {Q : Prop} (hv : vX3_checkMonth x0 Q) : CtV l γ yX3_checkMonth cX3_checkMonth 1 6 82 0 0 [.int x0] ([]) (fun (_ : Unit) => Q) (fun _ => []) := startV (by decide +kernel) (Nat.le_of_ble_eq_true rfl) (fun κ C RT hR hnm => by
  show G l γ κ ([]) [(0, .int x0)] 0 0 [] 0
  refine g_iload_n (pc' := 1) C dX3_checkMonth_0 rfl rfl rfl ?_
  obtain ⟨hv1, hv2⟩ := hv
  refine g_if_lt (pc' := 4) (tgt := 10) C dX3_checkMonth_1 rfl (by decide) (fun c => ?_) (fun c => ?_)
  · have hv := hv1 c
    refine g_sub (lv' := []) [] rfl ?_
    exact wvX3_checkMonth_J10 C RT  hv
  · have hv := hv2 c
    refine g_iload_n (pc' := 5) C dX3_checkMonth_4 rfl rfl rfl ?_
    refine g_bipush (pc' := 7) (v := (12 : Int32)) C dX3_checkMonth_5 rfl (by decide) ?_
    obtain ⟨hv1, hv2⟩ := hv
    refine g_icmp_lt (pc' := 10) (tgt := 20) C dX3_checkMonth_7 rfl (by decide) (fun c => ?_) (fun c => ?_)
    · have hv := hv1 c
      exact RT () _ _ _ _ dX3_checkMonth_20 (by decide) (by decide) hv
    · have hv := hv2 c
      refine g_sub (lv' := []) [] rfl ?_
      exact wvX3_checkMonth_J10 C RT  hv)
def zX3_checkMonth_J10 (X : String → Prop) : Prop := (X eIO)
set_option maxHeartbeats 4000000 in
set_option maxRecDepth 100000 in
theorem wzX3_checkMonth_J10 {l : Launch} {γ : Gm} {κ : Kx} {X : String → Prop} (hfl : l.stackTraces = false) (C : Ok γ κ cX3_checkMonth 1 RX3 6 82) (hX : XQ γ κ (fun (E : String) (_ : Unit) => X E) (fun _ => []))  (hv : zX3_checkMonth_J10 X) : G l γ κ ([]) [] 0 0 [] 10 := by
  exact g_throw hfl C hX () (th_eIO (List.mem_of_getElem? (i := 13) rfl)) (by decide) dX3_checkMonth_10 dX3_checkMonth_13 dX3_checkMonth_14 dX3_checkMonth_16 dX3_checkMonth_19 rfl hv
def zX3_checkMonth (x0 : Int32) (X : String → Prop) : Prop := ((x0 < (0 : Int32) → (zX3_checkMonth_J10 X)) ∧ (¬ x0 < (0 : Int32) → ((x0 < (12 : Int32) → False) ∧ (¬ x0 < (12 : Int32) → (zX3_checkMonth_J10 X)))))
set_option maxHeartbeats 4000000 in
set_option maxRecDepth 100000 in
theorem mtzX3_checkMonth {l : Launch} (hfl : l.stackTraces = false) {γ : Gm} {x0 : Int32} {X : String → Prop} (hv : zX3_checkMonth x0 X) : CtX l γ yX3_checkMonth cX3_checkMonth 1 none 6 82 [.int x0] ([]) (fun (E : String) (_ : Unit) => X E) (fun _ => []) := startX (by decide +kernel) (Nat.le_of_ble_eq_true rfl) (fun κ C hX => by
  show G l γ κ ([]) [(0, .int x0)] 0 0 [] 0
  refine g_iload_n (pc' := 1) C dX3_checkMonth_0 rfl rfl rfl ?_
  obtain ⟨hv1, hv2⟩ := hv
  refine g_if_lt (pc' := 4) (tgt := 10) C dX3_checkMonth_1 rfl (by decide) (fun c => ?_) (fun c => ?_)
  · have hv := hv1 c
    refine g_sub (lv' := []) [] rfl ?_
    exact wzX3_checkMonth_J10 hfl C hX  hv
  · have hv := hv2 c
    refine g_iload_n (pc' := 5) C dX3_checkMonth_4 rfl rfl rfl ?_
    refine g_bipush (pc' := 7) (v := (12 : Int32)) C dX3_checkMonth_5 rfl (by decide) ?_
    obtain ⟨hv1, hv2⟩ := hv
    refine g_icmp_lt (pc' := 10) (tgt := 20) C dX3_checkMonth_7 rfl (by decide) (fun c => ?_) (fun c => ?_)
    · have hv := hv1 c
      exact hv.elim
    · have hv := hv2 c
      refine g_sub (lv' := []) [] rfl ?_
      exact wzX3_checkMonth_J10 hfl C hX  hv)
def vX3_mostOf (x0 : Int32) (Q : Int32 → Prop) : Prop := ((¬ x0 = (2 : Int32) → (Q (1000 : Int32))) ∧ (x0 = (2 : Int32) → (Q (1000000 : Int32))))
set_option maxHeartbeats 4000000 in
set_option maxRecDepth 100000 in
theorem mtX3_mostOf {l : Launch} {γ : Gm} {x0 : Int32} {Q : Int32 → Prop} (hv : vX3_mostOf x0 Q) : CtI l γ yX3_mostOf cX3_mostOf 1 .int 0 0 0 0 [.int x0] ([]) (fun (r : Int32) (_ : Unit) => Q r) (fun _ => []) := startI (by decide +kernel) (Nat.le_of_ble_eq_true rfl) (fun κ C RT hR hnm => by
  show G l γ κ ([]) [(0, .int x0)] 0 0 [] 0
  refine g_iload_n (pc' := 1) C dX3_mostOf_0 rfl rfl rfl ?_
  refine g_iconst (pc' := 2) (v := (2 : Int32)) C dX3_mostOf_1 rfl (by decide) ?_
  obtain ⟨hv1, hv2⟩ := hv
  refine g_icmp_ne (pc' := 5) (tgt := 10) C dX3_mostOf_2 rfl (by decide) (fun c => ?_) (fun c => ?_)
  · have hv := hv1 c
    refine g_sipush (pc' := 13) (v := (1000 : Int32)) C dX3_mostOf_10 rfl (by decide) ?_
    exact RT (1000 : Int32) () _ _ _ _ dX3_mostOf_13 rfl (by decide) (by decide) hv
  · have hv := hv2 c
    refine g_ldc (pc' := 7) C k_X3_112 dX3_mostOf_5 rfl ?_
    refine g_goto (tgt := 13) C dX3_mostOf_7 (by decide) ?_
    exact RT (1000000 : Int32) () _ _ _ _ dX3_mostOf_13 rfl (by decide) (by decide) hv)
def vX3_checkUpTo_J9 (Q : Prop) : Prop := False
set_option maxHeartbeats 4000000 in
set_option maxRecDepth 100000 in
theorem wvX3_checkUpTo_J9 {l : Launch} {γ : Gm} {κ : Kx} {Q : Prop} (C : Ok γ κ cX3_checkUpTo 2 RX3 6 82) (RT : RtV l γ κ cX3_checkUpTo 0 0 (fun (_ : Unit) => Q) (fun _ => []))  (hv : vX3_checkUpTo_J9 Q) : G l γ κ ([]) [] 0 0 [] 9 := by
  exact hv.elim
def vX3_checkUpTo (x0 : Int32) (x1 : Int32) (Q : Prop) : Prop := ((x0 < (0 : Int32) → (vX3_checkUpTo_J9 Q)) ∧ (¬ x0 < (0 : Int32) → ((x0 ≤ x1 → Q) ∧ (¬ x0 ≤ x1 → (vX3_checkUpTo_J9 Q)))))
set_option maxHeartbeats 4000000 in
set_option maxRecDepth 100000 in
theorem mtX3_checkUpTo {l : Launch} {γ : Gm} {x0 : Int32} {x1 : Int32} {Q : Prop} (hv : vX3_checkUpTo x0 x1 Q) : CtV l γ yX3_checkUpTo cX3_checkUpTo 2 6 82 0 0 [.int x0, .int x1] ([]) (fun (_ : Unit) => Q) (fun _ => []) := startV (by decide +kernel) (Nat.le_of_ble_eq_true rfl) (fun κ C RT hR hnm => by
  show G l γ κ ([]) [(0, .int x0), (1, .int x1)] 0 0 [] 0
  refine g_iload_n (pc' := 1) C dX3_checkUpTo_0 rfl rfl rfl ?_
  obtain ⟨hv1, hv2⟩ := hv
  refine g_if_lt (pc' := 4) (tgt := 9) C dX3_checkUpTo_1 rfl (by decide) (fun c => ?_) (fun c => ?_)
  · have hv := hv1 c
    refine g_sub (lv' := []) [] rfl ?_
    exact wvX3_checkUpTo_J9 C RT  hv
  · have hv := hv2 c
    refine g_iload_n (pc' := 5) C dX3_checkUpTo_4 rfl rfl rfl ?_
    refine g_iload_n (pc' := 6) C dX3_checkUpTo_5 rfl rfl rfl ?_
    obtain ⟨hv1, hv2⟩ := hv
    refine g_icmp_le (pc' := 9) (tgt := 19) C dX3_checkUpTo_6 rfl (by decide) (fun c => ?_) (fun c => ?_)
    · have hv := hv1 c
      exact RT () _ _ _ _ dX3_checkUpTo_19 (by decide) (by decide) hv
    · have hv := hv2 c
      refine g_sub (lv' := []) [] rfl ?_
      exact wvX3_checkUpTo_J9 C RT  hv)
def zX3_checkUpTo_J9 (X : String → Prop) : Prop := (X eIA)
set_option maxHeartbeats 4000000 in
set_option maxRecDepth 100000 in
theorem wzX3_checkUpTo_J9 {l : Launch} {γ : Gm} {κ : Kx} {X : String → Prop} (hfl : l.stackTraces = false) (C : Ok γ κ cX3_checkUpTo 2 RX3 6 82) (hX : XQ γ κ (fun (E : String) (_ : Unit) => X E) (fun _ => []))  (hv : zX3_checkUpTo_J9 X) : G l γ κ ([]) [] 0 0 [] 9 := by
  exact g_throw hfl C hX () (th_eIA (List.mem_of_getElem? (i := 14) rfl)) (by decide) dX3_checkUpTo_9 dX3_checkUpTo_12 dX3_checkUpTo_13 dX3_checkUpTo_15 dX3_checkUpTo_18 rfl hv
def zX3_checkUpTo (x0 : Int32) (x1 : Int32) (X : String → Prop) : Prop := ((x0 < (0 : Int32) → (zX3_checkUpTo_J9 X)) ∧ (¬ x0 < (0 : Int32) → ((x0 ≤ x1 → False) ∧ (¬ x0 ≤ x1 → (zX3_checkUpTo_J9 X)))))
set_option maxHeartbeats 4000000 in
set_option maxRecDepth 100000 in
theorem mtzX3_checkUpTo {l : Launch} (hfl : l.stackTraces = false) {γ : Gm} {x0 : Int32} {x1 : Int32} {X : String → Prop} (hv : zX3_checkUpTo x0 x1 X) : CtX l γ yX3_checkUpTo cX3_checkUpTo 2 none 6 82 [.int x0, .int x1] ([]) (fun (E : String) (_ : Unit) => X E) (fun _ => []) := startX (by decide +kernel) (Nat.le_of_ble_eq_true rfl) (fun κ C hX => by
  show G l γ κ ([]) [(0, .int x0), (1, .int x1)] 0 0 [] 0
  refine g_iload_n (pc' := 1) C dX3_checkUpTo_0 rfl rfl rfl ?_
  obtain ⟨hv1, hv2⟩ := hv
  refine g_if_lt (pc' := 4) (tgt := 9) C dX3_checkUpTo_1 rfl (by decide) (fun c => ?_) (fun c => ?_)
  · have hv := hv1 c
    refine g_sub (lv' := []) [] rfl ?_
    exact wzX3_checkUpTo_J9 hfl C hX  hv
  · have hv := hv2 c
    refine g_iload_n (pc' := 5) C dX3_checkUpTo_4 rfl rfl rfl ?_
    refine g_iload_n (pc' := 6) C dX3_checkUpTo_5 rfl rfl rfl ?_
    obtain ⟨hv1, hv2⟩ := hv
    refine g_icmp_le (pc' := 9) (tgt := 19) C dX3_checkUpTo_6 rfl (by decide) (fun c => ?_) (fun c => ?_)
    · have hv := hv1 c
      exact hv.elim
    · have hv := hv2 c
      refine g_sub (lv' := []) [] rfl ?_
      exact wzX3_checkUpTo_J9 hfl C hX  hv)
def vX3_checkAccount_J9 (Q : Prop) : Prop := False
set_option maxHeartbeats 4000000 in
set_option maxRecDepth 100000 in
theorem wvX3_checkAccount_J9 {l : Launch} {γ : Gm} {κ : Kx} {Q : Prop} (C : Ok γ κ cX3_checkAccount 1 RX3 6 82) (RT : RtV l γ κ cX3_checkAccount 0 0 (fun (_ : Unit) => Q) (fun _ => []))  (hv : vX3_checkAccount_J9 Q) : G l γ κ ([]) [] 0 0 [] 9 := by
  exact hv.elim
def vX3_checkAccount (x0 : Int32) (Q : Prop) : Prop := ((x0 < (0 : Int32) → (vX3_checkAccount_J9 Q)) ∧ (¬ x0 < (0 : Int32) → ((x0 ≤ (3 : Int32) → Q) ∧ (¬ x0 ≤ (3 : Int32) → (vX3_checkAccount_J9 Q)))))
set_option maxHeartbeats 4000000 in
set_option maxRecDepth 100000 in
theorem mtX3_checkAccount {l : Launch} {γ : Gm} {x0 : Int32} {Q : Prop} (hv : vX3_checkAccount x0 Q) : CtV l γ yX3_checkAccount cX3_checkAccount 1 6 82 0 0 [.int x0] ([]) (fun (_ : Unit) => Q) (fun _ => []) := startV (by decide +kernel) (Nat.le_of_ble_eq_true rfl) (fun κ C RT hR hnm => by
  show G l γ κ ([]) [(0, .int x0)] 0 0 [] 0
  refine g_iload_n (pc' := 1) C dX3_checkAccount_0 rfl rfl rfl ?_
  obtain ⟨hv1, hv2⟩ := hv
  refine g_if_lt (pc' := 4) (tgt := 9) C dX3_checkAccount_1 rfl (by decide) (fun c => ?_) (fun c => ?_)
  · have hv := hv1 c
    refine g_sub (lv' := []) [] rfl ?_
    exact wvX3_checkAccount_J9 C RT  hv
  · have hv := hv2 c
    refine g_iload_n (pc' := 5) C dX3_checkAccount_4 rfl rfl rfl ?_
    refine g_iconst (pc' := 6) (v := (3 : Int32)) C dX3_checkAccount_5 rfl (by decide) ?_
    obtain ⟨hv1, hv2⟩ := hv
    refine g_icmp_le (pc' := 9) (tgt := 19) C dX3_checkAccount_6 rfl (by decide) (fun c => ?_) (fun c => ?_)
    · have hv := hv1 c
      exact RT () _ _ _ _ dX3_checkAccount_19 (by decide) (by decide) hv
    · have hv := hv2 c
      refine g_sub (lv' := []) [] rfl ?_
      exact wvX3_checkAccount_J9 C RT  hv)
def zX3_checkAccount_J9 (X : String → Prop) : Prop := (X eIO)
set_option maxHeartbeats 4000000 in
set_option maxRecDepth 100000 in
theorem wzX3_checkAccount_J9 {l : Launch} {γ : Gm} {κ : Kx} {X : String → Prop} (hfl : l.stackTraces = false) (C : Ok γ κ cX3_checkAccount 1 RX3 6 82) (hX : XQ γ κ (fun (E : String) (_ : Unit) => X E) (fun _ => []))  (hv : zX3_checkAccount_J9 X) : G l γ κ ([]) [] 0 0 [] 9 := by
  exact g_throw hfl C hX () (th_eIO (List.mem_of_getElem? (i := 11) rfl)) (by decide) dX3_checkAccount_9 dX3_checkAccount_12 dX3_checkAccount_13 dX3_checkAccount_15 dX3_checkAccount_18 rfl hv
def zX3_checkAccount (x0 : Int32) (X : String → Prop) : Prop := ((x0 < (0 : Int32) → (zX3_checkAccount_J9 X)) ∧ (¬ x0 < (0 : Int32) → ((x0 ≤ (3 : Int32) → False) ∧ (¬ x0 ≤ (3 : Int32) → (zX3_checkAccount_J9 X)))))
set_option maxHeartbeats 4000000 in
set_option maxRecDepth 100000 in
theorem mtzX3_checkAccount {l : Launch} (hfl : l.stackTraces = false) {γ : Gm} {x0 : Int32} {X : String → Prop} (hv : zX3_checkAccount x0 X) : CtX l γ yX3_checkAccount cX3_checkAccount 1 none 6 82 [.int x0] ([]) (fun (E : String) (_ : Unit) => X E) (fun _ => []) := startX (by decide +kernel) (Nat.le_of_ble_eq_true rfl) (fun κ C hX => by
  show G l γ κ ([]) [(0, .int x0)] 0 0 [] 0
  refine g_iload_n (pc' := 1) C dX3_checkAccount_0 rfl rfl rfl ?_
  obtain ⟨hv1, hv2⟩ := hv
  refine g_if_lt (pc' := 4) (tgt := 9) C dX3_checkAccount_1 rfl (by decide) (fun c => ?_) (fun c => ?_)
  · have hv := hv1 c
    refine g_sub (lv' := []) [] rfl ?_
    exact wzX3_checkAccount_J9 hfl C hX  hv
  · have hv := hv2 c
    refine g_iload_n (pc' := 5) C dX3_checkAccount_4 rfl rfl rfl ?_
    refine g_iconst (pc' := 6) (v := (3 : Int32)) C dX3_checkAccount_5 rfl (by decide) ?_
    obtain ⟨hv1, hv2⟩ := hv
    refine g_icmp_le (pc' := 9) (tgt := 19) C dX3_checkAccount_6 rfl (by decide) (fun c => ?_) (fun c => ?_)
    · have hv := hv1 c
      exact hv.elim
    · have hv := hv2 c
      refine g_sub (lv' := []) [] rfl ?_
      exact wzX3_checkAccount_J9 hfl C hX  hv)
def vX3_gapPart (x0 : Int32) (x1 : Int32) (x2 : Int32) (x3 : Int32) (x4 : Int32) (Q : Int32 → Prop) : Prop := (((x4).toInt < 0 ∨ 2 < (x4).toInt → (Q ((x2 - x0) * (x3 - x1)))) ∧ ((x4).toInt = 0 → (Q ((x2 * x3) - (x0 * x1)))) ∧ ((x4).toInt = 1 → (Q ((x2 - x0) * x1))) ∧ ((x4).toInt = 2 → (Q (x0 * (x3 - x1)))))
set_option maxHeartbeats 4000000 in
set_option maxRecDepth 100000 in
theorem mtX3_gapPart {l : Launch} {γ : Gm} {x0 : Int32} {x1 : Int32} {x2 : Int32} {x3 : Int32} {x4 : Int32} {Q : Int32 → Prop} (hv : vX3_gapPart x0 x1 x2 x3 x4 Q) : CtI l γ yX3_gapPart cX3_gapPart 5 .int 0 0 0 0 [.int x0, .int x1, .int x2, .int x3, .int x4] ([]) (fun (r : Int32) (_ : Unit) => Q r) (fun _ => []) := startI (by decide +kernel) (Nat.le_of_ble_eq_true rfl) (fun κ C RT hR hnm => by
  show G l γ κ ([]) [(0, .int x0), (1, .int x1), (2, .int x2), (3, .int x3), (4, .int x4)] 0 0 [] 0
  refine g_iload (pc' := 2) C dX3_gapPart_0 rfl rfl ?_
  by_cases c : (x4).toInt < 0 ∨ 2 < (x4).toInt
  · have hv := hv.1 c
    refine g_tabOut (tgt := 48) C dX3_gapPart_2 c (by decide) ?_
    refine g_iload_n (pc' := 49) C dX3_gapPart_48 rfl rfl rfl ?_
    refine g_iload_n (pc' := 50) C dX3_gapPart_49 rfl rfl rfl ?_
    refine g_isub (pc' := 51) C dX3_gapPart_50 rfl ?_
    refine g_iload_n (pc' := 52) C dX3_gapPart_51 rfl rfl rfl ?_
    refine g_iload_n (pc' := 53) C dX3_gapPart_52 rfl rfl rfl ?_
    refine g_isub (pc' := 54) C dX3_gapPart_53 rfl ?_
    refine g_imul (pc' := 55) C dX3_gapPart_54 rfl ?_
    exact RT ((x2 - x0) * (x3 - x1)) () _ _ _ _ dX3_gapPart_55 rfl (by decide) (by decide) hv
  · have hc : (x4).toInt = 0 ∨ (x4).toInt = 1 ∨ (x4).toInt = 2 := by omega
    rcases hc with e | e | e
    · have hv := hv.2.1 e
      refine g_tabIn (tgt := 28) (off := 26) C dX3_gapPart_2 (by omega) (by omega) (by rw [e]; rfl) (by decide) ?_
      refine g_iload_n (pc' := 29) C dX3_gapPart_28 rfl rfl rfl ?_
      refine g_iload_n (pc' := 30) C dX3_gapPart_29 rfl rfl rfl ?_
      refine g_imul (pc' := 31) C dX3_gapPart_30 rfl ?_
      refine g_iload_n (pc' := 32) C dX3_gapPart_31 rfl rfl rfl ?_
      refine g_iload_n (pc' := 33) C dX3_gapPart_32 rfl rfl rfl ?_
      refine g_imul (pc' := 34) C dX3_gapPart_33 rfl ?_
      refine g_isub (pc' := 35) C dX3_gapPart_34 rfl ?_
      exact RT ((x2 * x3) - (x0 * x1)) () _ _ _ _ dX3_gapPart_35 rfl (by decide) (by decide) hv
    · have hv := hv.2.2.1 e
      refine g_tabIn (tgt := 36) (off := 34) C dX3_gapPart_2 (by omega) (by omega) (by rw [e]; rfl) (by decide) ?_
      refine g_iload_n (pc' := 37) C dX3_gapPart_36 rfl rfl rfl ?_
      refine g_iload_n (pc' := 38) C dX3_gapPart_37 rfl rfl rfl ?_
      refine g_isub (pc' := 39) C dX3_gapPart_38 rfl ?_
      refine g_iload_n (pc' := 40) C dX3_gapPart_39 rfl rfl rfl ?_
      refine g_imul (pc' := 41) C dX3_gapPart_40 rfl ?_
      exact RT ((x2 - x0) * x1) () _ _ _ _ dX3_gapPart_41 rfl (by decide) (by decide) hv
    · have hv := hv.2.2.2 e
      refine g_tabIn (tgt := 42) (off := 40) C dX3_gapPart_2 (by omega) (by omega) (by rw [e]; rfl) (by decide) ?_
      refine g_iload_n (pc' := 43) C dX3_gapPart_42 rfl rfl rfl ?_
      refine g_iload_n (pc' := 44) C dX3_gapPart_43 rfl rfl rfl ?_
      refine g_iload_n (pc' := 45) C dX3_gapPart_44 rfl rfl rfl ?_
      refine g_isub (pc' := 46) C dX3_gapPart_45 rfl ?_
      refine g_imul (pc' := 47) C dX3_gapPart_46 rfl ?_
      exact RT (x0 * (x3 - x1)) () _ _ _ _ dX3_gapPart_47 rfl (by decide) (by decide) hv)
end
section
/-! formulas and walks, by program -/
def vX0_at (amt : Ar) (x1 : Int32) (x2 : Int32) (x3 : Int32) (x4 : Int32) (Q : Int32 → Prop) : Prop := (vX0_indexOf x1 x2 x3 x4 (fun r9 => (vp_in r9 1440 ∧ (Q (amt r9.toNatClampNeg)))))
set_option maxHeartbeats 4000000 in
set_option maxRecDepth 100000 in
theorem mtX0_at {l : Launch} {γ : Gm} {h0 : Nat} {h1 : Nat} {amt : Ar} {x1 : Int32} {x2 : Int32} {x3 : Int32} {x4 : Int32} {Q : Int32 → Prop} (hv : vX0_at amt x1 x2 x3 x4 Q) : CtI l γ yX0_at cX0_at 5 .int 1 23 0 0 [.ref h0, .int x1, .int x2, .int x3, .int x4] (wC γ h0 h1 amt) (fun (r : Int32) (_ : Unit) => Q r) (fun _ => wC γ h0 h1 amt) := startI (by decide +kernel) (Nat.le_of_ble_eq_true rfl) (fun κ C RT hR hnm => by
  show G l γ κ (wC γ h0 h1 amt) [(0, .ref h0), (1, .int x1), (2, .int x2), (3, .int x3), (4, .int x4)] 0 0 [] 0
  refine g_aload_n (pc' := 1) C dX0_at_0 rfl rfl rfl ?_
  refine gf_X0_11 (pc' := 4) C dX0_at_1 rfl 0 rfl rfl ?_
  refine g_iload_n (pc' := 5) C dX0_at_4 rfl rfl rfl ?_
  refine g_iload_n (pc' := 6) C dX0_at_5 rfl rfl rfl ?_
  refine g_iload_n (pc' := 7) C dX0_at_6 rfl rfl rfl ?_
  refine g_iload (pc' := 9) C dX0_at_7 rfl rfl ?_
  refine cnI (pc' := 12) C (run_SI (rest := [.ref h1]) C lk_X0_15 (mtX0_indexOf hv) ⟨by decide, by decide⟩ rfl rfl (Nat.le_of_ble_eq_true rfl) ⟨Nat.zero_le _, Nat.zero_le _⟩ dX0_at_9) rfl (fun r9 u9 hv => ?_)
  obtain ⟨hi, hv⟩ := hv
  refine g_iald (pc' := 13) C dX0_at_12 rfl 1 rfl hi ?_
  exact RT (amt r9.toNatClampNeg) () _ _ _ _ dX0_at_13 rfl (by decide) (by decide) hv)
def vX0_put (amt : Ar) (x1 : Int32) (x2 : Int32) (x3 : Int32) (x4 : Int32) (x5 : Int32) (Q : Int32 → (Ar) → Prop) : Prop := (vX0_indexOf x1 x2 x3 x4 (fun r5 => (vp_in r5 1440 ∧ (vp_in r5 1440 ∧ (Q (amt r5.toNatClampNeg) (upd amt r5.toNatClampNeg x5))))))
set_option maxHeartbeats 4000000 in
set_option maxRecDepth 100000 in
theorem mtX0_put {l : Launch} {γ : Gm} {h0 : Nat} {h1 : Nat} {amt : Ar} {x1 : Int32} {x2 : Int32} {x3 : Int32} {x4 : Int32} {x5 : Int32} {Q : Int32 → (Ar) → Prop} (hv : vX0_put amt x1 x2 x3 x4 x5 Q) : CtI l γ yX0_put cX0_put 8 .int 1 23 0 0 [.ref h0, .int x1, .int x2, .int x3, .int x4, .int x5] (wC γ h0 h1 amt) (fun (r : Int32) (u : Ar) => Q r u) (fun u => wC γ h0 h1 u) := startI (by decide +kernel) (Nat.le_of_ble_eq_true rfl) (fun κ C RT hR hnm => by
  show G l γ κ (wC γ h0 h1 amt) [(0, .ref h0), (1, .int x1), (2, .int x2), (3, .int x3), (4, .int x4), (5, .int x5)] 0 0 [] 0
  refine g_iload_n (pc' := 1) C dX0_put_0 rfl rfl rfl ?_
  refine g_iload_n (pc' := 2) C dX0_put_1 rfl rfl rfl ?_
  refine g_iload_n (pc' := 3) C dX0_put_2 rfl rfl rfl ?_
  refine g_iload (pc' := 5) C dX0_put_3 rfl rfl ?_
  refine cnI (pc' := 8) C (run_SI (rest := []) C lk_X0_15 (mtX0_indexOf hv) ⟨by decide, by decide⟩ rfl rfl (Nat.le_of_ble_eq_true rfl) ⟨Nat.zero_le _, Nat.zero_le _⟩ dX0_put_5) rfl (fun r5 u5 hv => ?_)
  refine g_istore (pc' := 10) (lv' := [(6, .int r5), (0, .ref h0), (1, .int x1), (2, .int x2), (3, .int x3), (4, .int x4), (5, .int x5)]) C dX0_put_8 rfl (by decide) rfl ?_
  refine g_aload_n (pc' := 11) C dX0_put_10 rfl rfl rfl ?_
  refine gf_X0_11 (pc' := 14) C dX0_put_11 rfl 0 rfl rfl ?_
  refine g_iload (pc' := 16) C dX0_put_14 rfl rfl ?_
  obtain ⟨hi, hv⟩ := hv
  refine g_iald (pc' := 17) C dX0_put_16 rfl 1 rfl hi ?_
  refine g_istore (pc' := 19) (lv' := [(7, .int (amt r5.toNatClampNeg)), (6, .int r5), (0, .ref h0), (1, .int x1), (2, .int x2), (3, .int x3), (4, .int x4), (5, .int x5)]) C dX0_put_17 rfl (by decide) rfl ?_
  refine g_aload_n (pc' := 20) C dX0_put_19 rfl rfl rfl ?_
  refine gf_X0_11 (pc' := 23) C dX0_put_20 rfl 0 rfl rfl ?_
  refine g_iload (pc' := 25) C dX0_put_23 rfl rfl ?_
  refine g_iload (pc' := 27) C dX0_put_25 rfl rfl ?_
  obtain ⟨hi, hv⟩ := hv
  refine g_iast (pc' := 28) (ws' := wC γ h0 h1 (upd amt r5.toNatClampNeg x5)) C dX0_put_27 rfl 1 rfl hi rfl ?_
  refine g_iload (pc' := 30) C dX0_put_28 rfl rfl ?_
  exact RT (amt r5.toNatClampNeg) (upd amt r5.toNatClampNeg x5) _ _ _ _ dX0_put_30 rfl (by decide) (by decide) hv)
def vX0_valueOf (amt : Ar) (x1 : Int32) (x2 : Int32) (x3 : Int32) (x4 : Int32) (Q : Int32 → Prop) : Prop := ((¬ x3 = (3 : Int32) → (vX0_at amt x1 x2 x3 x4 (fun r31 => (Q r31)))) ∧ (x3 = (3 : Int32) → (vX0_at amt x1 x2 (0 : Int32) x4 (fun r11 => (vX0_at amt x1 x2 (1 : Int32) x4 (fun r20 => (Q (r11 * r20))))))))
set_option maxHeartbeats 4000000 in
set_option maxRecDepth 100000 in
theorem mtX0_valueOf {l : Launch} {γ : Gm} {h0 : Nat} {h1 : Nat} {amt : Ar} {x1 : Int32} {x2 : Int32} {x3 : Int32} {x4 : Int32} {Q : Int32 → Prop} (hv : vX0_valueOf amt x1 x2 x3 x4 Q) : CtI l γ yX0_valueOf cX0_valueOf 5 .int 2 47 0 0 [.ref h0, .int x1, .int x2, .int x3, .int x4] (wC γ h0 h1 amt) (fun (r : Int32) (_ : Unit) => Q r) (fun _ => wC γ h0 h1 amt) := startI (by decide +kernel) (Nat.le_of_ble_eq_true rfl) (fun κ C RT hR hnm => by
  show G l γ κ (wC γ h0 h1 amt) [(0, .ref h0), (1, .int x1), (2, .int x2), (3, .int x3), (4, .int x4)] 0 0 [] 0
  refine g_iload_n (pc' := 1) C dX0_valueOf_0 rfl rfl rfl ?_
  refine g_iconst (pc' := 2) (v := (3 : Int32)) C dX0_valueOf_1 rfl (by decide) ?_
  obtain ⟨hv1, hv2⟩ := hv
  refine g_icmp_ne (pc' := 5) (tgt := 25) C dX0_valueOf_2 rfl (by decide) (fun c => ?_) (fun c => ?_)
  · have hv := hv1 c
    refine g_aload_n (pc' := 26) C dX0_valueOf_25 rfl rfl rfl ?_
    refine g_iload_n (pc' := 27) C dX0_valueOf_26 rfl rfl rfl ?_
    refine g_iload_n (pc' := 28) C dX0_valueOf_27 rfl rfl rfl ?_
    refine g_iload_n (pc' := 29) C dX0_valueOf_28 rfl rfl rfl ?_
    refine g_iload (pc' := 31) C dX0_valueOf_29 rfl rfl ?_
    refine csI (pc' := 34) C (run_VI (rest := []) C lk_X0_19 (mtX0_at hv) ⟨by decide, by decide⟩ rfl rfl rfl rfl (Nat.le_of_ble_eq_true rfl) ⟨Nat.zero_le _, Nat.zero_le _⟩ dX0_valueOf_31) rfl (fun r31 u31 hv => ?_)
    exact RT r31 () _ _ _ _ dX0_valueOf_34 rfl (by decide) (by decide) hv
  · have hv := hv2 c
    refine g_aload_n (pc' := 6) C dX0_valueOf_5 rfl rfl rfl ?_
    refine g_iload_n (pc' := 7) C dX0_valueOf_6 rfl rfl rfl ?_
    refine g_iload_n (pc' := 8) C dX0_valueOf_7 rfl rfl rfl ?_
    refine g_iconst (pc' := 9) (v := (0 : Int32)) C dX0_valueOf_8 rfl (by decide) ?_
    refine g_iload (pc' := 11) C dX0_valueOf_9 rfl rfl ?_
    refine csI (pc' := 14) C (run_VI (rest := []) C lk_X0_19 (mtX0_at hv) ⟨by decide, by decide⟩ rfl rfl rfl rfl (Nat.le_of_ble_eq_true rfl) ⟨Nat.zero_le _, Nat.zero_le _⟩ dX0_valueOf_11) rfl (fun r11 u11 hv => ?_)
    refine g_aload_n (pc' := 15) C dX0_valueOf_14 rfl rfl rfl ?_
    refine g_iload_n (pc' := 16) C dX0_valueOf_15 rfl rfl rfl ?_
    refine g_iload_n (pc' := 17) C dX0_valueOf_16 rfl rfl rfl ?_
    refine g_iconst (pc' := 18) (v := (1 : Int32)) C dX0_valueOf_17 rfl (by decide) ?_
    refine g_iload (pc' := 20) C dX0_valueOf_18 rfl rfl ?_
    refine csI (pc' := 23) C (run_VI (rest := [.int r11]) C lk_X0_19 (mtX0_at hv) ⟨by decide, by decide⟩ rfl rfl rfl rfl (Nat.le_of_ble_eq_true rfl) ⟨Nat.zero_le _, Nat.zero_le _⟩ dX0_valueOf_20) rfl (fun r20 u20 hv => ?_)
    refine g_imul (pc' := 24) C dX0_valueOf_23 rfl ?_
    exact RT (r11 * r20) () _ _ _ _ dX0_valueOf_24 rfl (by decide) (by decide) hv)
def vX0_sumOver_L6 (amt : Ar) (x1 : Int32) (x2 : Int32) (x3 : Int32) (x4 : Int32) (Q : Int32 → Prop) : Nat → Int32 → Int32 → Prop
  | 0, _, _ => False
  | n + 1, x5, x6 => (((10 : Int32) ≤ x6 → (Q x5)) ∧ (¬ (10 : Int32) ≤ x6 → (vX3_isIn x2 x6 (fun r16 => ((r16 = (0 : Int32) → (vX0_sumOver_L6 amt x1 x2 x3 x4 Q n x5 (x6 + (1 : Int32)))) ∧ (¬ r16 = (0 : Int32) → (vX0_valueOf amt x1 x6 x3 x4 (fun r31 => (vX0_sumOver_L6 amt x1 x2 x3 x4 Q n (x5 + r31) (x6 + (1 : Int32)))))))))))
set_option maxHeartbeats 4000000 in
set_option maxRecDepth 100000 in
theorem wvX0_sumOver_L6 {l : Launch} {γ : Gm} {κ : Kx} {h0 : Nat} {h1 : Nat} {amt : Ar} {x1 : Int32} {x2 : Int32} {x3 : Int32} {x4 : Int32} {Q : Int32 → Prop} (C : Ok γ κ cX0_sumOver 7 RX0 3 71) (RT : RtI l γ κ cX0_sumOver .int 0 0 (fun (r : Int32) (_ : Unit) => Q r) (fun _ => wC γ h0 h1 amt))  : ∀ (n : Nat) (x5 : Int32) (x6 : Int32), vX0_sumOver_L6 amt x1 x2 x3 x4 Q n x5 x6 → G l γ κ (wC γ h0 h1 amt) [(0, .ref h0), (1, .int x1), (2, .int x2), (3, .int x3), (4, .int x4), (5, .int x5), (6, .int x6)] 0 0 [] 6 := by
  intro n
  induction n with
  | zero => intro x5 x6 hv; exact False.elim hv
  | succ n ih =>
    intro x5 x6 hv
    refine g_iload (pc' := 8) C dX0_sumOver_6 rfl rfl ?_
    refine g_bipush (pc' := 10) (v := (10 : Int32)) C dX0_sumOver_8 rfl (by decide) ?_
    obtain ⟨hv1, hv2⟩ := hv
    refine g_icmp_ge (pc' := 13) (tgt := 43) C dX0_sumOver_10 rfl (by decide) (fun c => ?_) (fun c => ?_)
    · have hv := hv1 c
      refine g_iload (pc' := 45) C dX0_sumOver_43 rfl rfl ?_
      exact RT x5 () _ _ _ _ dX0_sumOver_45 rfl (by decide) (by decide) hv
    · have hv := hv2 c
      refine g_iload_n (pc' := 14) C dX0_sumOver_13 rfl rfl rfl ?_
      refine g_iload (pc' := 16) C dX0_sumOver_14 rfl rfl ?_
      refine cnI (pc' := 19) C (run_NI (rest := []) C lk_X0_22 (mtX3_isIn hv) ⟨by decide, by decide⟩ rfl rfl (Nat.le_of_ble_eq_true rfl) ⟨Nat.zero_le _, Nat.zero_le _⟩ dX0_sumOver_16) rfl (fun r16 u16 hv => ?_)
      obtain ⟨hv1, hv2⟩ := hv
      refine g_if_eq (pc' := 22) (tgt := 37) C dX0_sumOver_19 rfl (by decide) (fun c => ?_) (fun c => ?_)
      · have hv := hv1 c
        refine g_iinc (pc' := 40) (v := (x6 + (1 : Int32))) (lv' := [(6, .int (x6 + (1 : Int32))), (0, .ref h0), (1, .int x1), (2, .int x2), (3, .int x3), (4, .int x4), (5, .int x5)]) C dX0_sumOver_37 rfl rfl rfl (by decide) rfl ?_
        refine g_goto (tgt := 6) C dX0_sumOver_40 (by decide) ?_
        refine g_sub (lv' := [(0, .ref h0), (1, .int x1), (2, .int x2), (3, .int x3), (4, .int x4), (5, .int x5), (6, .int (x6 + (1 : Int32)))]) [1, 2, 3, 4, 5, 6, 0] rfl ?_
        exact ih _ _ hv
      · have hv := hv2 c
        refine g_iload (pc' := 24) C dX0_sumOver_22 rfl rfl ?_
        refine g_aload_n (pc' := 25) C dX0_sumOver_24 rfl rfl rfl ?_
        refine g_iload_n (pc' := 26) C dX0_sumOver_25 rfl rfl rfl ?_
        refine g_iload (pc' := 28) C dX0_sumOver_26 rfl rfl ?_
        refine g_iload_n (pc' := 29) C dX0_sumOver_28 rfl rfl rfl ?_
        refine g_iload (pc' := 31) C dX0_sumOver_29 rfl rfl ?_
        refine csI (pc' := 34) C (run_VI (rest := [.int x5]) C lk_X0_26 (mtX0_valueOf hv) ⟨by decide, by decide⟩ rfl rfl rfl rfl (Nat.le_of_ble_eq_true rfl) ⟨Nat.zero_le _, Nat.zero_le _⟩ dX0_sumOver_31) rfl (fun r31 u31 hv => ?_)
        refine g_iadd (pc' := 35) C dX0_sumOver_34 rfl ?_
        refine g_istore (pc' := 37) (lv' := [(5, .int (x5 + r31)), (0, .ref h0), (1, .int x1), (2, .int x2), (3, .int x3), (4, .int x4), (6, .int x6)]) C dX0_sumOver_35 rfl (by decide) rfl ?_
        refine g_iinc (pc' := 40) (v := (x6 + (1 : Int32))) (lv' := [(6, .int (x6 + (1 : Int32))), (5, .int (x5 + r31)), (0, .ref h0), (1, .int x1), (2, .int x2), (3, .int x3), (4, .int x4)]) C dX0_sumOver_37 rfl rfl rfl (by decide) rfl ?_
        refine g_goto (tgt := 6) C dX0_sumOver_40 (by decide) ?_
        refine g_sub (lv' := [(0, .ref h0), (1, .int x1), (2, .int x2), (3, .int x3), (4, .int x4), (5, .int (x5 + r31)), (6, .int (x6 + (1 : Int32)))]) [2, 3, 4, 5, 6, 1, 0] rfl ?_
        exact ih _ _ hv
def vX0_sumOver (amt : Ar) (x1 : Int32) (x2 : Int32) (x3 : Int32) (x4 : Int32) (Q : Int32 → Prop) : Prop := (∃ n6 : Nat, vX0_sumOver_L6 amt x1 x2 x3 x4 Q n6 (0 : Int32) (0 : Int32))
set_option maxHeartbeats 4000000 in
set_option maxRecDepth 100000 in
theorem mtX0_sumOver {l : Launch} {γ : Gm} {h0 : Nat} {h1 : Nat} {amt : Ar} {x1 : Int32} {x2 : Int32} {x3 : Int32} {x4 : Int32} {Q : Int32 → Prop} (hv : vX0_sumOver amt x1 x2 x3 x4 Q) : CtI l γ yX0_sumOver cX0_sumOver 7 .int 3 71 0 0 [.ref h0, .int x1, .int x2, .int x3, .int x4] (wC γ h0 h1 amt) (fun (r : Int32) (_ : Unit) => Q r) (fun _ => wC γ h0 h1 amt) := startI (by decide +kernel) (Nat.le_of_ble_eq_true rfl) (fun κ C RT hR hnm => by
  show G l γ κ (wC γ h0 h1 amt) [(0, .ref h0), (1, .int x1), (2, .int x2), (3, .int x3), (4, .int x4)] 0 0 [] 0
  refine g_iconst (pc' := 1) (v := (0 : Int32)) C dX0_sumOver_0 rfl (by decide) ?_
  refine g_istore (pc' := 3) (lv' := [(5, .int (0 : Int32)), (0, .ref h0), (1, .int x1), (2, .int x2), (3, .int x3), (4, .int x4)]) C dX0_sumOver_1 rfl (by decide) rfl ?_
  refine g_iconst (pc' := 4) (v := (0 : Int32)) C dX0_sumOver_3 rfl (by decide) ?_
  refine g_istore (pc' := 6) (lv' := [(6, .int (0 : Int32)), (5, .int (0 : Int32)), (0, .ref h0), (1, .int x1), (2, .int x2), (3, .int x3), (4, .int x4)]) C dX0_sumOver_4 rfl (by decide) rfl ?_
  refine g_sub (lv' := [(0, .ref h0), (1, .int x1), (2, .int x2), (3, .int x3), (4, .int x4), (5, .int (0 : Int32)), (6, .int (0 : Int32))]) [2, 3, 4, 5, 6, 1, 0] rfl ?_
  obtain ⟨n6, hv⟩ := hv
  exact wvX0_sumOver_L6 C RT  n6 _ _ hv)
def vX0_yearOf_L6 (amt : Ar) (x1 : Int32) (x2 : Int32) (x3 : Int32) (Q : Int32 → Prop) : Nat → Int32 → Int32 → Prop
  | 0, _, _ => False
  | n + 1, x4, x5 => (((12 : Int32) ≤ x5 → (Q x4)) ∧ (¬ (12 : Int32) ≤ x5 → (vX0_valueOf amt x1 x2 x3 x5 (fun r21 => (vX0_yearOf_L6 amt x1 x2 x3 Q n (x4 + r21) (x5 + (1 : Int32)))))))
set_option maxHeartbeats 4000000 in
set_option maxRecDepth 100000 in
theorem wvX0_yearOf_L6 {l : Launch} {γ : Gm} {κ : Kx} {h0 : Nat} {h1 : Nat} {amt : Ar} {x1 : Int32} {x2 : Int32} {x3 : Int32} {Q : Int32 → Prop} (C : Ok γ κ cX0_yearOf 6 RX0 3 71) (RT : RtI l γ κ cX0_yearOf .int 0 0 (fun (r : Int32) (_ : Unit) => Q r) (fun _ => wC γ h0 h1 amt))  : ∀ (n : Nat) (x4 : Int32) (x5 : Int32), vX0_yearOf_L6 amt x1 x2 x3 Q n x4 x5 → G l γ κ (wC γ h0 h1 amt) [(0, .ref h0), (1, .int x1), (2, .int x2), (3, .int x3), (4, .int x4), (5, .int x5)] 0 0 [] 6 := by
  intro n
  induction n with
  | zero => intro x4 x5 hv; exact False.elim hv
  | succ n ih =>
    intro x4 x5 hv
    refine g_iload (pc' := 8) C dX0_yearOf_6 rfl rfl ?_
    refine g_bipush (pc' := 10) (v := (12 : Int32)) C dX0_yearOf_8 rfl (by decide) ?_
    obtain ⟨hv1, hv2⟩ := hv
    refine g_icmp_ge (pc' := 13) (tgt := 33) C dX0_yearOf_10 rfl (by decide) (fun c => ?_) (fun c => ?_)
    · have hv := hv1 c
      refine g_iload (pc' := 35) C dX0_yearOf_33 rfl rfl ?_
      exact RT x4 () _ _ _ _ dX0_yearOf_35 rfl (by decide) (by decide) hv
    · have hv := hv2 c
      refine g_iload (pc' := 15) C dX0_yearOf_13 rfl rfl ?_
      refine g_aload_n (pc' := 16) C dX0_yearOf_15 rfl rfl rfl ?_
      refine g_iload_n (pc' := 17) C dX0_yearOf_16 rfl rfl rfl ?_
      refine g_iload_n (pc' := 18) C dX0_yearOf_17 rfl rfl rfl ?_
      refine g_iload_n (pc' := 19) C dX0_yearOf_18 rfl rfl rfl ?_
      refine g_iload (pc' := 21) C dX0_yearOf_19 rfl rfl ?_
      refine csI (pc' := 24) C (run_VI (rest := [.int x4]) C lk_X0_26 (mtX0_valueOf hv) ⟨by decide, by decide⟩ rfl rfl rfl rfl (Nat.le_of_ble_eq_true rfl) ⟨Nat.zero_le _, Nat.zero_le _⟩ dX0_yearOf_21) rfl (fun r21 u21 hv => ?_)
      refine g_iadd (pc' := 25) C dX0_yearOf_24 rfl ?_
      refine g_istore (pc' := 27) (lv' := [(4, .int (x4 + r21)), (0, .ref h0), (1, .int x1), (2, .int x2), (3, .int x3), (5, .int x5)]) C dX0_yearOf_25 rfl (by decide) rfl ?_
      refine g_iinc (pc' := 30) (v := (x5 + (1 : Int32))) (lv' := [(5, .int (x5 + (1 : Int32))), (4, .int (x4 + r21)), (0, .ref h0), (1, .int x1), (2, .int x2), (3, .int x3)]) C dX0_yearOf_27 rfl rfl rfl (by decide) rfl ?_
      refine g_goto (tgt := 6) C dX0_yearOf_30 (by decide) ?_
      refine g_sub (lv' := [(0, .ref h0), (1, .int x1), (2, .int x2), (3, .int x3), (4, .int (x4 + r21)), (5, .int (x5 + (1 : Int32)))]) [2, 3, 4, 5, 1, 0] rfl ?_
      exact ih _ _ hv
def vX0_yearOf (amt : Ar) (x1 : Int32) (x2 : Int32) (x3 : Int32) (Q : Int32 → Prop) : Prop := (∃ n6 : Nat, vX0_yearOf_L6 amt x1 x2 x3 Q n6 (0 : Int32) (0 : Int32))
set_option maxHeartbeats 4000000 in
set_option maxRecDepth 100000 in
theorem mtX0_yearOf {l : Launch} {γ : Gm} {h0 : Nat} {h1 : Nat} {amt : Ar} {x1 : Int32} {x2 : Int32} {x3 : Int32} {Q : Int32 → Prop} (hv : vX0_yearOf amt x1 x2 x3 Q) : CtI l γ yX0_yearOf cX0_yearOf 6 .int 3 71 0 0 [.ref h0, .int x1, .int x2, .int x3] (wC γ h0 h1 amt) (fun (r : Int32) (_ : Unit) => Q r) (fun _ => wC γ h0 h1 amt) := startI (by decide +kernel) (Nat.le_of_ble_eq_true rfl) (fun κ C RT hR hnm => by
  show G l γ κ (wC γ h0 h1 amt) [(0, .ref h0), (1, .int x1), (2, .int x2), (3, .int x3)] 0 0 [] 0
  refine g_iconst (pc' := 1) (v := (0 : Int32)) C dX0_yearOf_0 rfl (by decide) ?_
  refine g_istore (pc' := 3) (lv' := [(4, .int (0 : Int32)), (0, .ref h0), (1, .int x1), (2, .int x2), (3, .int x3)]) C dX0_yearOf_1 rfl (by decide) rfl ?_
  refine g_iconst (pc' := 4) (v := (0 : Int32)) C dX0_yearOf_3 rfl (by decide) ?_
  refine g_istore (pc' := 6) (lv' := [(5, .int (0 : Int32)), (4, .int (0 : Int32)), (0, .ref h0), (1, .int x1), (2, .int x2), (3, .int x3)]) C dX0_yearOf_4 rfl (by decide) rfl ?_
  refine g_sub (lv' := [(0, .ref h0), (1, .int x1), (2, .int x2), (3, .int x3), (4, .int (0 : Int32)), (5, .int (0 : Int32))]) [2, 3, 4, 5, 1, 0] rfl ?_
  obtain ⟨n6, hv⟩ := hv
  exact wvX0_yearOf_L6 C RT  n6 _ _ hv)
def vX0_copyLayer_J56 (amt : Ar) (x1 : Int32) (x2 : Int32) (x4 : Int32) (x5 : Int32) (x6 : Int32) (s0 : Int32) (s1 : Int32) (K5 : Int32 → Int32 → Ar → Prop) (Q : Int32 → (Ar) → Prop) : Prop := (vp_in x6 1440 ∧ (K5 (s1 + s0) (x4 + (1 : Int32)) (upd amt x6.toNatClampNeg x5)))
set_option maxHeartbeats 4000000 in
set_option maxRecDepth 100000 in
theorem wvX0_copyLayer_J56 {l : Launch} {γ : Gm} {κ : Kx} {h0 : Nat} {h1 : Nat} {amt : Ar} {x1 : Int32} {x2 : Int32} {x4 : Int32} {x5 : Int32} {x6 : Int32} {s0 : Int32} {s1 : Int32} {K5 : Int32 → Int32 → Ar → Prop} {Q : Int32 → (Ar) → Prop} (C : Ok γ κ cX0_copyLayer 7 RX0 0 0) (RT : RtI l γ κ cX0_copyLayer .int 0 0 (fun (r : Int32) (u : Ar) => Q r u) (fun u => wC γ h0 h1 u)) (hK5 : ∀ (x3 : Int32) (x4 : Int32) (amt : Ar), K5 x3 x4 amt → G l γ κ (wC γ h0 h1 amt) [(0, .ref h0), (1, .int x1), (2, .int x2), (3, .int x3), (4, .int x4)] 0 0 [] 5) (hv : vX0_copyLayer_J56 amt x1 x2 x4 x5 x6 s0 s1 K5 Q) : G l γ κ (wC γ h0 h1 amt) [(0, .ref h0), (1, .int x1), (2, .int x2), (4, .int x4), (5, .int x5), (6, .int x6)] 0 0 [.int s0, .int s1] 56 := by
  refine g_iadd (pc' := 57) C dX0_copyLayer_56 rfl ?_
  refine g_istore_n (pc' := 58) (lv' := [(3, .int (s1 + s0)), (0, .ref h0), (1, .int x1), (2, .int x2), (4, .int x4), (5, .int x5), (6, .int x6)]) C dX0_copyLayer_57 rfl rfl (by decide) rfl ?_
  refine g_aload_n (pc' := 59) C dX0_copyLayer_58 rfl rfl rfl ?_
  refine gf_X0_11 (pc' := 62) C dX0_copyLayer_59 rfl 0 rfl rfl ?_
  refine g_iload (pc' := 64) C dX0_copyLayer_62 rfl rfl ?_
  refine g_iload (pc' := 66) C dX0_copyLayer_64 rfl rfl ?_
  obtain ⟨hi, hv⟩ := hv
  refine g_iast (pc' := 67) (ws' := wC γ h0 h1 (upd amt x6.toNatClampNeg x5)) C dX0_copyLayer_66 rfl 1 rfl hi rfl ?_
  refine g_iinc (pc' := 70) (v := (x4 + (1 : Int32))) (lv' := [(4, .int (x4 + (1 : Int32))), (3, .int (s1 + s0)), (0, .ref h0), (1, .int x1), (2, .int x2), (5, .int x5), (6, .int x6)]) C dX0_copyLayer_67 rfl rfl rfl (by decide) rfl ?_
  refine g_goto (tgt := 5) C dX0_copyLayer_70 (by decide) ?_
  refine g_sub (lv' := [(0, .ref h0), (1, .int x1), (2, .int x2), (3, .int (s1 + s0)), (4, .int (x4 + (1 : Int32)))]) [2, 3, 4, 1, 0] rfl ?_
  exact hK5 _ _ _ hv
def vX0_copyLayer_L5 (x1 : Int32) (x2 : Int32) (Q : Int32 → (Ar) → Prop) : Nat → Int32 → Int32 → Ar → Prop
  | 0, _, _, _ => False
  | n + 1, x3, x4, amt => (((360 : Int32) ≤ x4 → (Q x3 amt)) ∧ (¬ (360 : Int32) ≤ x4 → (vp_in ((x1 * (360 : Int32)) + x4) 1440 ∧ (vp_in ((x2 * (360 : Int32)) + x4) 1440 ∧ (((amt ((x2 * (360 : Int32)) + x4).toNatClampNeg) = (amt ((x1 * (360 : Int32)) + x4).toNatClampNeg) → (vX0_copyLayer_J56 amt x1 x2 x4 (amt ((x1 * (360 : Int32)) + x4).toNatClampNeg) ((x2 * (360 : Int32)) + x4) (0 : Int32) x3 (vX0_copyLayer_L5 x1 x2 Q n) Q)) ∧ (¬ (amt ((x2 * (360 : Int32)) + x4).toNatClampNeg) = (amt ((x1 * (360 : Int32)) + x4).toNatClampNeg) → (vX0_copyLayer_J56 amt x1 x2 x4 (amt ((x1 * (360 : Int32)) + x4).toNatClampNeg) ((x2 * (360 : Int32)) + x4) (1 : Int32) x3 (vX0_copyLayer_L5 x1 x2 Q n) Q)))))))
set_option maxHeartbeats 4000000 in
set_option maxRecDepth 100000 in
theorem wvX0_copyLayer_L5 {l : Launch} {γ : Gm} {κ : Kx} {h0 : Nat} {h1 : Nat} {x1 : Int32} {x2 : Int32} {Q : Int32 → (Ar) → Prop} (C : Ok γ κ cX0_copyLayer 7 RX0 0 0) (RT : RtI l γ κ cX0_copyLayer .int 0 0 (fun (r : Int32) (u : Ar) => Q r u) (fun u => wC γ h0 h1 u))  : ∀ (n : Nat) (x3 : Int32) (x4 : Int32) (amt : Ar), vX0_copyLayer_L5 x1 x2 Q n x3 x4 amt → G l γ κ (wC γ h0 h1 amt) [(0, .ref h0), (1, .int x1), (2, .int x2), (3, .int x3), (4, .int x4)] 0 0 [] 5 := by
  intro n
  induction n with
  | zero => intro x3 x4 amt hv; exact False.elim hv
  | succ n ih =>
    intro x3 x4 amt hv
    refine g_iload (pc' := 7) C dX0_copyLayer_5 rfl rfl ?_
    refine g_sipush (pc' := 10) (v := (360 : Int32)) C dX0_copyLayer_7 rfl (by decide) ?_
    obtain ⟨hv1, hv2⟩ := hv
    refine g_icmp_ge (pc' := 13) (tgt := 73) C dX0_copyLayer_10 rfl (by decide) (fun c => ?_) (fun c => ?_)
    · have hv := hv1 c
      refine g_iload_n (pc' := 74) C dX0_copyLayer_73 rfl rfl rfl ?_
      exact RT x3 amt _ _ _ _ dX0_copyLayer_74 rfl (by decide) (by decide) hv
    · have hv := hv2 c
      refine g_aload_n (pc' := 14) C dX0_copyLayer_13 rfl rfl rfl ?_
      refine gf_X0_11 (pc' := 17) C dX0_copyLayer_14 rfl 0 rfl rfl ?_
      refine g_iload_n (pc' := 18) C dX0_copyLayer_17 rfl rfl rfl ?_
      refine g_sipush (pc' := 21) (v := (360 : Int32)) C dX0_copyLayer_18 rfl (by decide) ?_
      refine g_imul (pc' := 22) C dX0_copyLayer_21 rfl ?_
      refine g_iload (pc' := 24) C dX0_copyLayer_22 rfl rfl ?_
      refine g_iadd (pc' := 25) C dX0_copyLayer_24 rfl ?_
      obtain ⟨hi, hv⟩ := hv
      refine g_iald (pc' := 26) C dX0_copyLayer_25 rfl 1 rfl hi ?_
      refine g_istore (pc' := 28) (lv' := [(5, .int (amt ((x1 * (360 : Int32)) + x4).toNatClampNeg)), (0, .ref h0), (1, .int x1), (2, .int x2), (3, .int x3), (4, .int x4)]) C dX0_copyLayer_26 rfl (by decide) rfl ?_
      refine g_iload_n (pc' := 29) C dX0_copyLayer_28 rfl rfl rfl ?_
      refine g_sipush (pc' := 32) (v := (360 : Int32)) C dX0_copyLayer_29 rfl (by decide) ?_
      refine g_imul (pc' := 33) C dX0_copyLayer_32 rfl ?_
      refine g_iload (pc' := 35) C dX0_copyLayer_33 rfl rfl ?_
      refine g_iadd (pc' := 36) C dX0_copyLayer_35 rfl ?_
      refine g_istore (pc' := 38) (lv' := [(6, .int ((x2 * (360 : Int32)) + x4)), (5, .int (amt ((x1 * (360 : Int32)) + x4).toNatClampNeg)), (0, .ref h0), (1, .int x1), (2, .int x2), (3, .int x3), (4, .int x4)]) C dX0_copyLayer_36 rfl (by decide) rfl ?_
      refine g_iload_n (pc' := 39) C dX0_copyLayer_38 rfl rfl rfl ?_
      refine g_aload_n (pc' := 40) C dX0_copyLayer_39 rfl rfl rfl ?_
      refine gf_X0_11 (pc' := 43) C dX0_copyLayer_40 rfl 0 rfl rfl ?_
      refine g_iload (pc' := 45) C dX0_copyLayer_43 rfl rfl ?_
      obtain ⟨hi, hv⟩ := hv
      refine g_iald (pc' := 46) C dX0_copyLayer_45 rfl 1 rfl hi ?_
      refine g_iload (pc' := 48) C dX0_copyLayer_46 rfl rfl ?_
      obtain ⟨hv1, hv2⟩ := hv
      refine g_icmp_eq (pc' := 51) (tgt := 55) C dX0_copyLayer_48 rfl (by decide) (fun c => ?_) (fun c => ?_)
      · have hv := hv1 c
        refine g_iconst (pc' := 56) (v := (0 : Int32)) C dX0_copyLayer_55 rfl (by decide) ?_
        refine g_sub (lv' := [(0, .ref h0), (1, .int x1), (2, .int x2), (4, .int x4), (5, .int (amt ((x1 * (360 : Int32)) + x4).toNatClampNeg)), (6, .int ((x2 * (360 : Int32)) + x4))]) [2, 3, 4, 6, 1, 0] rfl ?_
        exact wvX0_copyLayer_J56 C RT ih hv
      · have hv := hv2 c
        refine g_iconst (pc' := 52) (v := (1 : Int32)) C dX0_copyLayer_51 rfl (by decide) ?_
        refine g_goto (tgt := 56) C dX0_copyLayer_52 (by decide) ?_
        refine g_sub (lv' := [(0, .ref h0), (1, .int x1), (2, .int x2), (4, .int x4), (5, .int (amt ((x1 * (360 : Int32)) + x4).toNatClampNeg)), (6, .int ((x2 * (360 : Int32)) + x4))]) [2, 3, 4, 6, 1, 0] rfl ?_
        exact wvX0_copyLayer_J56 C RT ih hv
def vX0_copyLayer (amt : Ar) (x1 : Int32) (x2 : Int32) (Q : Int32 → (Ar) → Prop) : Prop := (∃ n5 : Nat, vX0_copyLayer_L5 x1 x2 Q n5 (0 : Int32) (0 : Int32) amt)
set_option maxHeartbeats 4000000 in
set_option maxRecDepth 100000 in
theorem mtX0_copyLayer {l : Launch} {γ : Gm} {h0 : Nat} {h1 : Nat} {amt : Ar} {x1 : Int32} {x2 : Int32} {Q : Int32 → (Ar) → Prop} (hv : vX0_copyLayer amt x1 x2 Q) : CtI l γ yX0_copyLayer cX0_copyLayer 7 .int 0 0 0 0 [.ref h0, .int x1, .int x2] (wC γ h0 h1 amt) (fun (r : Int32) (u : Ar) => Q r u) (fun u => wC γ h0 h1 u) := startI (by decide +kernel) (Nat.le_of_ble_eq_true rfl) (fun κ C RT hR hnm => by
  show G l γ κ (wC γ h0 h1 amt) [(0, .ref h0), (1, .int x1), (2, .int x2)] 0 0 [] 0
  refine g_iconst (pc' := 1) (v := (0 : Int32)) C dX0_copyLayer_0 rfl (by decide) ?_
  refine g_istore_n (pc' := 2) (lv' := [(3, .int (0 : Int32)), (0, .ref h0), (1, .int x1), (2, .int x2)]) C dX0_copyLayer_1 rfl rfl (by decide) rfl ?_
  refine g_iconst (pc' := 3) (v := (0 : Int32)) C dX0_copyLayer_2 rfl (by decide) ?_
  refine g_istore (pc' := 5) (lv' := [(4, .int (0 : Int32)), (3, .int (0 : Int32)), (0, .ref h0), (1, .int x1), (2, .int x2)]) C dX0_copyLayer_3 rfl (by decide) rfl ?_
  refine g_sub (lv' := [(0, .ref h0), (1, .int x1), (2, .int x2), (3, .int (0 : Int32)), (4, .int (0 : Int32))]) [2, 3, 4, 1, 0] rfl ?_
  obtain ⟨n5, hv⟩ := hv
  exact wvX0_copyLayer_L5 C RT  n5 _ _ _ hv)
def vX0_isBlank_L9 (amt : Ar) (x1 : Int32) (x2 : Int32) (K2 : Int32 → Prop) (Q : Int32 → Prop) : Nat → Int32 → Prop
  | 0, _ => False
  | n + 1, x3 => (((36 : Int32) ≤ x3 → (K2 (x2 + (1 : Int32)))) ∧ (¬ (36 : Int32) ≤ x3 → (vp_in (((x2 * (360 : Int32)) + (x1 * (36 : Int32))) + x3) 1440 ∧ (((amt (((x2 * (360 : Int32)) + (x1 * (36 : Int32))) + x3).toNatClampNeg) = (0 : Int32) → (vX0_isBlank_L9 amt x1 x2 K2 Q n (x3 + (1 : Int32)))) ∧ (¬ (amt (((x2 * (360 : Int32)) + (x1 * (36 : Int32))) + x3).toNatClampNeg) = (0 : Int32) → (Q (0 : Int32)))))))
set_option maxHeartbeats 4000000 in
set_option maxRecDepth 100000 in
theorem wvX0_isBlank_L9 {l : Launch} {γ : Gm} {κ : Kx} {h0 : Nat} {h1 : Nat} {amt : Ar} {x1 : Int32} {x2 : Int32} {K2 : Int32 → Prop} {Q : Int32 → Prop} (C : Ok γ κ cX0_isBlank 4 RX0 0 0) (RT : RtI l γ κ cX0_isBlank .boolean 0 0 (fun (r : Int32) (_ : Unit) => Q r) (fun _ => wC γ h0 h1 amt)) (hK2 : ∀ (x2 : Int32), K2 x2 → G l γ κ (wC γ h0 h1 amt) [(0, .ref h0), (1, .int x1), (2, .int x2)] 0 0 [] 2) : ∀ (n : Nat) (x3 : Int32), vX0_isBlank_L9 amt x1 x2 K2 Q n x3 → G l γ κ (wC γ h0 h1 amt) [(0, .ref h0), (1, .int x1), (2, .int x2), (3, .int x3)] 0 0 [] 9 := by
  intro n
  induction n with
  | zero => intro x3 hv; exact False.elim hv
  | succ n ih =>
    intro x3 hv
    refine g_iload_n (pc' := 10) C dX0_isBlank_9 rfl rfl rfl ?_
    refine g_bipush (pc' := 12) (v := (36 : Int32)) C dX0_isBlank_10 rfl (by decide) ?_
    obtain ⟨hv1, hv2⟩ := hv
    refine g_icmp_ge (pc' := 15) (tgt := 43) C dX0_isBlank_12 rfl (by decide) (fun c => ?_) (fun c => ?_)
    · have hv := hv1 c
      refine g_iinc (pc' := 46) (v := (x2 + (1 : Int32))) (lv' := [(2, .int (x2 + (1 : Int32))), (0, .ref h0), (1, .int x1), (3, .int x3)]) C dX0_isBlank_43 rfl rfl rfl (by decide) rfl ?_
      refine g_goto (tgt := 2) C dX0_isBlank_46 (by decide) ?_
      refine g_sub (lv' := [(0, .ref h0), (1, .int x1), (2, .int (x2 + (1 : Int32)))]) [1, 2, 0] rfl ?_
      exact hK2 _ hv
    · have hv := hv2 c
      refine g_aload_n (pc' := 16) C dX0_isBlank_15 rfl rfl rfl ?_
      refine gf_X0_11 (pc' := 19) C dX0_isBlank_16 rfl 0 rfl rfl ?_
      refine g_iload_n (pc' := 20) C dX0_isBlank_19 rfl rfl rfl ?_
      refine g_sipush (pc' := 23) (v := (360 : Int32)) C dX0_isBlank_20 rfl (by decide) ?_
      refine g_imul (pc' := 24) C dX0_isBlank_23 rfl ?_
      refine g_iload_n (pc' := 25) C dX0_isBlank_24 rfl rfl rfl ?_
      refine g_bipush (pc' := 27) (v := (36 : Int32)) C dX0_isBlank_25 rfl (by decide) ?_
      refine g_imul (pc' := 28) C dX0_isBlank_27 rfl ?_
      refine g_iadd (pc' := 29) C dX0_isBlank_28 rfl ?_
      refine g_iload_n (pc' := 30) C dX0_isBlank_29 rfl rfl rfl ?_
      refine g_iadd (pc' := 31) C dX0_isBlank_30 rfl ?_
      obtain ⟨hi, hv⟩ := hv
      refine g_iald (pc' := 32) C dX0_isBlank_31 rfl 1 rfl hi ?_
      obtain ⟨hv1, hv2⟩ := hv
      refine g_if_eq (pc' := 35) (tgt := 37) C dX0_isBlank_32 rfl (by decide) (fun c => ?_) (fun c => ?_)
      · have hv := hv1 c
        refine g_iinc (pc' := 40) (v := (x3 + (1 : Int32))) (lv' := [(3, .int (x3 + (1 : Int32))), (0, .ref h0), (1, .int x1), (2, .int x2)]) C dX0_isBlank_37 rfl rfl rfl (by decide) rfl ?_
        refine g_goto (tgt := 9) C dX0_isBlank_40 (by decide) ?_
        refine g_sub (lv' := [(0, .ref h0), (1, .int x1), (2, .int x2), (3, .int (x3 + (1 : Int32)))]) [1, 2, 3, 0] rfl ?_
        exact ih _ hv
      · have hv := hv2 c
        refine g_iconst (pc' := 36) (v := (0 : Int32)) C dX0_isBlank_35 rfl (by decide) ?_
        exact RT (0 : Int32) () _ _ _ _ dX0_isBlank_36 rfl (by decide) (by decide) hv
def vX0_isBlank_L2 (amt : Ar) (x1 : Int32) (Q : Int32 → Prop) : Nat → Int32 → Prop
  | 0, _ => False
  | n + 1, x2 => (((4 : Int32) ≤ x2 → (Q (1 : Int32))) ∧ (¬ (4 : Int32) ≤ x2 → (∃ n9 : Nat, vX0_isBlank_L9 amt x1 x2 (vX0_isBlank_L2 amt x1 Q n) Q n9 (0 : Int32))))
set_option maxHeartbeats 4000000 in
set_option maxRecDepth 100000 in
theorem wvX0_isBlank_L2 {l : Launch} {γ : Gm} {κ : Kx} {h0 : Nat} {h1 : Nat} {amt : Ar} {x1 : Int32} {Q : Int32 → Prop} (C : Ok γ κ cX0_isBlank 4 RX0 0 0) (RT : RtI l γ κ cX0_isBlank .boolean 0 0 (fun (r : Int32) (_ : Unit) => Q r) (fun _ => wC γ h0 h1 amt))  : ∀ (n : Nat) (x2 : Int32), vX0_isBlank_L2 amt x1 Q n x2 → G l γ κ (wC γ h0 h1 amt) [(0, .ref h0), (1, .int x1), (2, .int x2)] 0 0 [] 2 := by
  intro n
  induction n with
  | zero => intro x2 hv; exact False.elim hv
  | succ n ih =>
    intro x2 hv
    refine g_iload_n (pc' := 3) C dX0_isBlank_2 rfl rfl rfl ?_
    refine g_iconst (pc' := 4) (v := (4 : Int32)) C dX0_isBlank_3 rfl (by decide) ?_
    obtain ⟨hv1, hv2⟩ := hv
    refine g_icmp_ge (pc' := 7) (tgt := 49) C dX0_isBlank_4 rfl (by decide) (fun c => ?_) (fun c => ?_)
    · have hv := hv1 c
      refine g_iconst (pc' := 50) (v := (1 : Int32)) C dX0_isBlank_49 rfl (by decide) ?_
      exact RT (1 : Int32) () _ _ _ _ dX0_isBlank_50 rfl (by decide) (by decide) hv
    · have hv := hv2 c
      refine g_iconst (pc' := 8) (v := (0 : Int32)) C dX0_isBlank_7 rfl (by decide) ?_
      refine g_istore_n (pc' := 9) (lv' := [(3, .int (0 : Int32)), (0, .ref h0), (1, .int x1), (2, .int x2)]) C dX0_isBlank_8 rfl rfl (by decide) rfl ?_
      refine g_sub (lv' := [(0, .ref h0), (1, .int x1), (2, .int x2), (3, .int (0 : Int32))]) [1, 2, 3, 0] rfl ?_
      obtain ⟨n9, hv⟩ := hv
      exact wvX0_isBlank_L9 C RT ih n9 _ hv
def vX0_isBlank (amt : Ar) (x1 : Int32) (Q : Int32 → Prop) : Prop := (∃ n2 : Nat, vX0_isBlank_L2 amt x1 Q n2 (0 : Int32))
set_option maxHeartbeats 4000000 in
set_option maxRecDepth 100000 in
theorem mtX0_isBlank {l : Launch} {γ : Gm} {h0 : Nat} {h1 : Nat} {amt : Ar} {x1 : Int32} {Q : Int32 → Prop} (hv : vX0_isBlank amt x1 Q) : CtI l γ yX0_isBlank cX0_isBlank 4 .boolean 0 0 0 0 [.ref h0, .int x1] (wC γ h0 h1 amt) (fun (r : Int32) (_ : Unit) => Q r) (fun _ => wC γ h0 h1 amt) := startI (by decide +kernel) (Nat.le_of_ble_eq_true rfl) (fun κ C RT hR hnm => by
  show G l γ κ (wC γ h0 h1 amt) [(0, .ref h0), (1, .int x1)] 0 0 [] 0
  refine g_iconst (pc' := 1) (v := (0 : Int32)) C dX0_isBlank_0 rfl (by decide) ?_
  refine g_istore_n (pc' := 2) (lv' := [(2, .int (0 : Int32)), (0, .ref h0), (1, .int x1)]) C dX0_isBlank_1 rfl rfl (by decide) rfl ?_
  refine g_sub (lv' := [(0, .ref h0), (1, .int x1), (2, .int (0 : Int32))]) [1, 2, 0] rfl ?_
  obtain ⟨n2, hv⟩ := hv
  exact wvX0_isBlank_L2 C RT  n2 _ hv)
def vX0_countFilled_L4 (amt : Ar) (Q : Int32 → Prop) : Nat → Int32 → Int32 → Prop
  | 0, _, _ => False
  | n + 1, x1, x2 => (((1440 : Int32) ≤ x2 → (Q x1)) ∧ (¬ (1440 : Int32) ≤ x2 → (vp_in x2 1440 ∧ (((amt x2.toNatClampNeg) = (0 : Int32) → (vX0_countFilled_L4 amt Q n (x1 + (0 : Int32)) (x2 + (1 : Int32)))) ∧ (¬ (amt x2.toNatClampNeg) = (0 : Int32) → (vX0_countFilled_L4 amt Q n (x1 + (1 : Int32)) (x2 + (1 : Int32))))))))
set_option maxHeartbeats 4000000 in
set_option maxRecDepth 100000 in
theorem wvX0_countFilled_L4 {l : Launch} {γ : Gm} {κ : Kx} {h0 : Nat} {h1 : Nat} {amt : Ar} {Q : Int32 → Prop} (C : Ok γ κ cX0_countFilled 3 RX0 0 0) (RT : RtI l γ κ cX0_countFilled .int 0 0 (fun (r : Int32) (_ : Unit) => Q r) (fun _ => wC γ h0 h1 amt))  : ∀ (n : Nat) (x1 : Int32) (x2 : Int32), vX0_countFilled_L4 amt Q n x1 x2 → G l γ κ (wC γ h0 h1 amt) [(0, .ref h0), (1, .int x1), (2, .int x2)] 0 0 [] 4 := by
  intro n
  induction n with
  | zero => intro x1 x2 hv; exact False.elim hv
  | succ n ih =>
    intro x1 x2 hv
    refine g_iload_n (pc' := 5) C dX0_countFilled_4 rfl rfl rfl ?_
    refine g_aload_n (pc' := 6) C dX0_countFilled_5 rfl rfl rfl ?_
    refine gf_X0_11 (pc' := 9) C dX0_countFilled_6 rfl 0 rfl rfl ?_
    refine g_alen (pc' := 10) (v := (1440 : Int32)) C dX0_countFilled_9 rfl 1 rfl (by decide) ?_
    obtain ⟨hv1, hv2⟩ := hv
    refine g_icmp_ge (pc' := 13) (tgt := 36) C dX0_countFilled_10 rfl (by decide) (fun c => ?_) (fun c => ?_)
    · have hv := hv1 c
      refine g_iload_n (pc' := 37) C dX0_countFilled_36 rfl rfl rfl ?_
      exact RT x1 () _ _ _ _ dX0_countFilled_37 rfl (by decide) (by decide) hv
    · have hv := hv2 c
      refine g_iload_n (pc' := 14) C dX0_countFilled_13 rfl rfl rfl ?_
      refine g_aload_n (pc' := 15) C dX0_countFilled_14 rfl rfl rfl ?_
      refine gf_X0_11 (pc' := 18) C dX0_countFilled_15 rfl 0 rfl rfl ?_
      refine g_iload_n (pc' := 19) C dX0_countFilled_18 rfl rfl rfl ?_
      obtain ⟨hi, hv⟩ := hv
      refine g_iald (pc' := 20) C dX0_countFilled_19 rfl 1 rfl hi ?_
      obtain ⟨hv1, hv2⟩ := hv
      refine g_if_eq (pc' := 23) (tgt := 27) C dX0_countFilled_20 rfl (by decide) (fun c => ?_) (fun c => ?_)
      · have hv := hv1 c
        refine g_iconst (pc' := 28) (v := (0 : Int32)) C dX0_countFilled_27 rfl (by decide) ?_
        refine g_iadd (pc' := 29) C dX0_countFilled_28 rfl ?_
        refine g_istore_n (pc' := 30) (lv' := [(1, .int (x1 + (0 : Int32))), (0, .ref h0), (2, .int x2)]) C dX0_countFilled_29 rfl rfl (by decide) rfl ?_
        refine g_iinc (pc' := 33) (v := (x2 + (1 : Int32))) (lv' := [(2, .int (x2 + (1 : Int32))), (1, .int (x1 + (0 : Int32))), (0, .ref h0)]) C dX0_countFilled_30 rfl rfl rfl (by decide) rfl ?_
        refine g_goto (tgt := 4) C dX0_countFilled_33 (by decide) ?_
        refine g_sub (lv' := [(0, .ref h0), (1, .int (x1 + (0 : Int32))), (2, .int (x2 + (1 : Int32)))]) [2, 1, 0] rfl ?_
        exact ih _ _ hv
      · have hv := hv2 c
        refine g_iconst (pc' := 24) (v := (1 : Int32)) C dX0_countFilled_23 rfl (by decide) ?_
        refine g_goto (tgt := 28) C dX0_countFilled_24 (by decide) ?_
        refine g_iadd (pc' := 29) C dX0_countFilled_28 rfl ?_
        refine g_istore_n (pc' := 30) (lv' := [(1, .int (x1 + (1 : Int32))), (0, .ref h0), (2, .int x2)]) C dX0_countFilled_29 rfl rfl (by decide) rfl ?_
        refine g_iinc (pc' := 33) (v := (x2 + (1 : Int32))) (lv' := [(2, .int (x2 + (1 : Int32))), (1, .int (x1 + (1 : Int32))), (0, .ref h0)]) C dX0_countFilled_30 rfl rfl rfl (by decide) rfl ?_
        refine g_goto (tgt := 4) C dX0_countFilled_33 (by decide) ?_
        refine g_sub (lv' := [(0, .ref h0), (1, .int (x1 + (1 : Int32))), (2, .int (x2 + (1 : Int32)))]) [2, 1, 0] rfl ?_
        exact ih _ _ hv
def vX0_countFilled (amt : Ar) (Q : Int32 → Prop) : Prop := (∃ n4 : Nat, vX0_countFilled_L4 amt Q n4 (0 : Int32) (0 : Int32))
set_option maxHeartbeats 4000000 in
set_option maxRecDepth 100000 in
theorem mtX0_countFilled {l : Launch} {γ : Gm} {h0 : Nat} {h1 : Nat} {amt : Ar} {Q : Int32 → Prop} (hv : vX0_countFilled amt Q) : CtI l γ yX0_countFilled cX0_countFilled 3 .int 0 0 0 0 [.ref h0] (wC γ h0 h1 amt) (fun (r : Int32) (_ : Unit) => Q r) (fun _ => wC γ h0 h1 amt) := startI (by decide +kernel) (Nat.le_of_ble_eq_true rfl) (fun κ C RT hR hnm => by
  show G l γ κ (wC γ h0 h1 amt) [(0, .ref h0)] 0 0 [] 0
  refine g_iconst (pc' := 1) (v := (0 : Int32)) C dX0_countFilled_0 rfl (by decide) ?_
  refine g_istore_n (pc' := 2) (lv' := [(1, .int (0 : Int32)), (0, .ref h0)]) C dX0_countFilled_1 rfl rfl (by decide) rfl ?_
  refine g_iconst (pc' := 3) (v := (0 : Int32)) C dX0_countFilled_2 rfl (by decide) ?_
  refine g_istore_n (pc' := 4) (lv' := [(2, .int (0 : Int32)), (1, .int (0 : Int32)), (0, .ref h0)]) C dX0_countFilled_3 rfl rfl (by decide) rfl ?_
  refine g_sub (lv' := [(0, .ref h0), (1, .int (0 : Int32)), (2, .int (0 : Int32))]) [2, 1, 0] rfl ?_
  obtain ⟨n4, hv⟩ := hv
  exact wvX0_countFilled_L4 C RT  n4 _ _ hv)
def vX1_weigh (wt : Ar) (x1 : Int32) (x2 : Int32) (Q : Int32 → (Ar) → Prop) : Prop := (vp_in x1 12 ∧ (vp_in x1 12 ∧ (Q (wt x1.toNatClampNeg) (upd wt x1.toNatClampNeg x2))))
set_option maxHeartbeats 4000000 in
set_option maxRecDepth 100000 in
theorem mtX1_weigh {l : Launch} {γ : Gm} {h0 : Nat} {h1 : Nat} {h2 : Nat} {wt : Ar} {sh : Ar} {x1 : Int32} {x2 : Int32} {Q : Int32 → (Ar) → Prop} (hv : vX1_weigh wt x1 x2 Q) : CtI l γ yX1_weigh cX1_weigh 4 .int 0 0 0 0 [.ref h0, .int x1, .int x2] (wS γ h0 h1 h2 wt sh) (fun (r : Int32) (u : Ar) => Q r u) (fun u => wS γ h0 h1 h2 u sh) := startI (by decide +kernel) (Nat.le_of_ble_eq_true rfl) (fun κ C RT hR hnm => by
  show G l γ κ (wS γ h0 h1 h2 wt sh) [(0, .ref h0), (1, .int x1), (2, .int x2)] 0 0 [] 0
  refine g_aload_n (pc' := 1) C dX1_weigh_0 rfl rfl rfl ?_
  refine gf_X1_9 (pc' := 4) C dX1_weigh_1 rfl 0 rfl rfl ?_
  refine g_iload_n (pc' := 5) C dX1_weigh_4 rfl rfl rfl ?_
  obtain ⟨hi, hv⟩ := hv
  refine g_iald (pc' := 6) C dX1_weigh_5 rfl 1 rfl hi ?_
  refine g_istore_n (pc' := 7) (lv' := [(3, .int (wt x1.toNatClampNeg)), (0, .ref h0), (1, .int x1), (2, .int x2)]) C dX1_weigh_6 rfl rfl (by decide) rfl ?_
  refine g_aload_n (pc' := 8) C dX1_weigh_7 rfl rfl rfl ?_
  refine gf_X1_9 (pc' := 11) C dX1_weigh_8 rfl 0 rfl rfl ?_
  refine g_iload_n (pc' := 12) C dX1_weigh_11 rfl rfl rfl ?_
  refine g_iload_n (pc' := 13) C dX1_weigh_12 rfl rfl rfl ?_
  obtain ⟨hi, hv⟩ := hv
  refine g_iast (pc' := 14) (ws' := wS γ h0 h1 h2 (upd wt x1.toNatClampNeg x2) sh) C dX1_weigh_13 rfl 1 rfl hi rfl ?_
  refine g_iload_n (pc' := 15) C dX1_weigh_14 rfl rfl rfl ?_
  exact RT (wt x1.toNatClampNeg) (upd wt x1.toNatClampNeg x2) _ _ _ _ dX1_weigh_15 rfl (by decide) (by decide) hv)
def vX1_shareOf (sh : Ar) (x1 : Int32) (Q : Int32 → Prop) : Prop := (vp_in x1 12 ∧ (Q (sh x1.toNatClampNeg)))
set_option maxHeartbeats 4000000 in
set_option maxRecDepth 100000 in
theorem mtX1_shareOf {l : Launch} {γ : Gm} {h0 : Nat} {h1 : Nat} {h2 : Nat} {wt : Ar} {sh : Ar} {x1 : Int32} {Q : Int32 → Prop} (hv : vX1_shareOf sh x1 Q) : CtI l γ yX1_shareOf cX1_shareOf 2 .int 0 0 0 0 [.ref h0, .int x1] (wS γ h0 h1 h2 wt sh) (fun (r : Int32) (_ : Unit) => Q r) (fun _ => wS γ h0 h1 h2 wt sh) := startI (by decide +kernel) (Nat.le_of_ble_eq_true rfl) (fun κ C RT hR hnm => by
  show G l γ κ (wS γ h0 h1 h2 wt sh) [(0, .ref h0), (1, .int x1)] 0 0 [] 0
  refine g_aload_n (pc' := 1) C dX1_shareOf_0 rfl rfl rfl ?_
  refine gf_X1_15 (pc' := 4) C dX1_shareOf_1 rfl 0 rfl rfl ?_
  refine g_iload_n (pc' := 5) C dX1_shareOf_4 rfl rfl rfl ?_
  obtain ⟨hi, hv⟩ := hv
  refine g_iald (pc' := 6) C dX1_shareOf_5 rfl 2 rfl hi ?_
  exact RT (sh x1.toNatClampNeg) () _ _ _ _ dX1_shareOf_6 rfl (by decide) (by decide) hv)
def vX1_totalWeight_L4 (wt : Ar) (Q : Int32 → Prop) : Nat → Int32 → Int32 → Prop
  | 0, _, _ => False
  | n + 1, x1, x2 => (((12 : Int32) ≤ x2 → (Q x1)) ∧ (¬ (12 : Int32) ≤ x2 → (vp_in x2 12 ∧ (vX1_totalWeight_L4 wt Q n (x1 + (wt x2.toNatClampNeg)) (x2 + (1 : Int32))))))
set_option maxHeartbeats 4000000 in
set_option maxRecDepth 100000 in
theorem wvX1_totalWeight_L4 {l : Launch} {γ : Gm} {κ : Kx} {h0 : Nat} {h1 : Nat} {h2 : Nat} {wt : Ar} {sh : Ar} {Q : Int32 → Prop} (C : Ok γ κ cX1_totalWeight 3 RX1 0 0) (RT : RtI l γ κ cX1_totalWeight .int 0 0 (fun (r : Int32) (_ : Unit) => Q r) (fun _ => wS γ h0 h1 h2 wt sh))  : ∀ (n : Nat) (x1 : Int32) (x2 : Int32), vX1_totalWeight_L4 wt Q n x1 x2 → G l γ κ (wS γ h0 h1 h2 wt sh) [(0, .ref h0), (1, .int x1), (2, .int x2)] 0 0 [] 4 := by
  intro n
  induction n with
  | zero => intro x1 x2 hv; exact False.elim hv
  | succ n ih =>
    intro x1 x2 hv
    refine g_iload_n (pc' := 5) C dX1_totalWeight_4 rfl rfl rfl ?_
    refine g_bipush (pc' := 7) (v := (12 : Int32)) C dX1_totalWeight_5 rfl (by decide) ?_
    obtain ⟨hv1, hv2⟩ := hv
    refine g_icmp_ge (pc' := 10) (tgt := 25) C dX1_totalWeight_7 rfl (by decide) (fun c => ?_) (fun c => ?_)
    · have hv := hv1 c
      refine g_iload_n (pc' := 26) C dX1_totalWeight_25 rfl rfl rfl ?_
      exact RT x1 () _ _ _ _ dX1_totalWeight_26 rfl (by decide) (by decide) hv
    · have hv := hv2 c
      refine g_iload_n (pc' := 11) C dX1_totalWeight_10 rfl rfl rfl ?_
      refine g_aload_n (pc' := 12) C dX1_totalWeight_11 rfl rfl rfl ?_
      refine gf_X1_9 (pc' := 15) C dX1_totalWeight_12 rfl 0 rfl rfl ?_
      refine g_iload_n (pc' := 16) C dX1_totalWeight_15 rfl rfl rfl ?_
      obtain ⟨hi, hv⟩ := hv
      refine g_iald (pc' := 17) C dX1_totalWeight_16 rfl 1 rfl hi ?_
      refine g_iadd (pc' := 18) C dX1_totalWeight_17 rfl ?_
      refine g_istore_n (pc' := 19) (lv' := [(1, .int (x1 + (wt x2.toNatClampNeg))), (0, .ref h0), (2, .int x2)]) C dX1_totalWeight_18 rfl rfl (by decide) rfl ?_
      refine g_iinc (pc' := 22) (v := (x2 + (1 : Int32))) (lv' := [(2, .int (x2 + (1 : Int32))), (1, .int (x1 + (wt x2.toNatClampNeg))), (0, .ref h0)]) C dX1_totalWeight_19 rfl rfl rfl (by decide) rfl ?_
      refine g_goto (tgt := 4) C dX1_totalWeight_22 (by decide) ?_
      refine g_sub (lv' := [(0, .ref h0), (1, .int (x1 + (wt x2.toNatClampNeg))), (2, .int (x2 + (1 : Int32)))]) [2, 1, 0] rfl ?_
      exact ih _ _ hv
def vX1_totalWeight (wt : Ar) (Q : Int32 → Prop) : Prop := (∃ n4 : Nat, vX1_totalWeight_L4 wt Q n4 (0 : Int32) (0 : Int32))
set_option maxHeartbeats 4000000 in
set_option maxRecDepth 100000 in
theorem mtX1_totalWeight {l : Launch} {γ : Gm} {h0 : Nat} {h1 : Nat} {h2 : Nat} {wt : Ar} {sh : Ar} {Q : Int32 → Prop} (hv : vX1_totalWeight wt Q) : CtI l γ yX1_totalWeight cX1_totalWeight 3 .int 0 0 0 0 [.ref h0] (wS γ h0 h1 h2 wt sh) (fun (r : Int32) (_ : Unit) => Q r) (fun _ => wS γ h0 h1 h2 wt sh) := startI (by decide +kernel) (Nat.le_of_ble_eq_true rfl) (fun κ C RT hR hnm => by
  show G l γ κ (wS γ h0 h1 h2 wt sh) [(0, .ref h0)] 0 0 [] 0
  refine g_iconst (pc' := 1) (v := (0 : Int32)) C dX1_totalWeight_0 rfl (by decide) ?_
  refine g_istore_n (pc' := 2) (lv' := [(1, .int (0 : Int32)), (0, .ref h0)]) C dX1_totalWeight_1 rfl rfl (by decide) rfl ?_
  refine g_iconst (pc' := 3) (v := (0 : Int32)) C dX1_totalWeight_2 rfl (by decide) ?_
  refine g_istore_n (pc' := 4) (lv' := [(2, .int (0 : Int32)), (1, .int (0 : Int32)), (0, .ref h0)]) C dX1_totalWeight_3 rfl rfl (by decide) rfl ?_
  refine g_sub (lv' := [(0, .ref h0), (1, .int (0 : Int32)), (2, .int (0 : Int32))]) [2, 1, 0] rfl ?_
  obtain ⟨n4, hv⟩ := hv
  exact wvX1_totalWeight_L4 C RT  n4 _ _ hv)
def vX1_divide_J46 (wt : Ar) (sh : Ar) (x1 : Int32) (x2 : Int32) (x3 : Int32) (x4 : Int32) (s0 : Int32) (s1 : Int32) (K10 : Int32 → Int32 → Ar → Prop) (Q : (Ar) → Prop) : Prop := (vp_in s1 12 ∧ (vp_in x4 12 ∧ (K10 (x3 - ((upd sh s1.toNatClampNeg s0) x4.toNatClampNeg)) (x4 + (1 : Int32)) (upd sh s1.toNatClampNeg s0))))
set_option maxHeartbeats 4000000 in
set_option maxRecDepth 100000 in
theorem wvX1_divide_J46 {l : Launch} {γ : Gm} {κ : Kx} {h0 : Nat} {h1 : Nat} {h2 : Nat} {wt : Ar} {sh : Ar} {x1 : Int32} {x2 : Int32} {x3 : Int32} {x4 : Int32} {s0 : Int32} {s1 : Int32} {K10 : Int32 → Int32 → Ar → Prop} {Q : (Ar) → Prop} (C : Ok γ κ cX1_divide 5 RX1 1 22) (RT : RtV l γ κ cX1_divide 0 0 (fun (u : Ar) => Q u) (fun u => wS γ h0 h1 h2 wt u)) (hK10 : ∀ (x3 : Int32) (x4 : Int32) (sh : Ar), K10 x3 x4 sh → G l γ κ (wS γ h0 h1 h2 wt sh) [(0, .ref h0), (1, .int x1), (2, .int x2), (3, .int x3), (4, .int x4)] 0 0 [] 10) (hv : vX1_divide_J46 wt sh x1 x2 x3 x4 s0 s1 K10 Q) : G l γ κ (wS γ h0 h1 h2 wt sh) [(0, .ref h0), (1, .int x1), (2, .int x2), (3, .int x3), (4, .int x4)] 0 0 [.int s0, .int s1, .ref h2] 46 := by
  obtain ⟨hi, hv⟩ := hv
  refine g_iast (pc' := 47) (ws' := wS γ h0 h1 h2 wt (upd sh s1.toNatClampNeg s0)) C dX1_divide_46 rfl 2 rfl hi rfl ?_
  refine g_iload_n (pc' := 48) C dX1_divide_47 rfl rfl rfl ?_
  refine g_aload_n (pc' := 49) C dX1_divide_48 rfl rfl rfl ?_
  refine gf_X1_15 (pc' := 52) C dX1_divide_49 rfl 0 rfl rfl ?_
  refine g_iload (pc' := 54) C dX1_divide_52 rfl rfl ?_
  obtain ⟨hi, hv⟩ := hv
  refine g_iald (pc' := 55) C dX1_divide_54 rfl 2 rfl hi ?_
  refine g_isub (pc' := 56) C dX1_divide_55 rfl ?_
  refine g_istore_n (pc' := 57) (lv' := [(3, .int (x3 - ((upd sh s1.toNatClampNeg s0) x4.toNatClampNeg))), (0, .ref h0), (1, .int x1), (2, .int x2), (4, .int x4)]) C dX1_divide_56 rfl rfl (by decide) rfl ?_
  refine g_iinc (pc' := 60) (v := (x4 + (1 : Int32))) (lv' := [(4, .int (x4 + (1 : Int32))), (3, .int (x3 - ((upd sh s1.toNatClampNeg s0) x4.toNatClampNeg))), (0, .ref h0), (1, .int x1), (2, .int x2)]) C dX1_divide_57 rfl rfl rfl (by decide) rfl ?_
  refine g_goto (tgt := 10) C dX1_divide_60 (by decide) ?_
  refine g_sub (lv' := [(0, .ref h0), (1, .int x1), (2, .int x2), (3, .int (x3 - ((upd sh s1.toNatClampNeg s0) x4.toNatClampNeg))), (4, .int (x4 + (1 : Int32)))]) [2, 3, 4, 1, 0] rfl ?_
  exact hK10 _ _ _ hv
def vX1_divide_L66 (wt : Ar) (Q : (Ar) → Prop) : Nat → Int32 → Int32 → Ar → Prop
  | 0, _, _, _ => False
  | n + 1, x3, x4, sh => (((12 : Int32) ≤ x4 → (Q sh)) ∧ (¬ (12 : Int32) ≤ x4 → ((x3 ≤ (0 : Int32) → (vX1_divide_L66 wt Q n x3 (x4 + (1 : Int32)) sh)) ∧ (¬ x3 ≤ (0 : Int32) → (vp_in x4 12 ∧ (((wt x4.toNatClampNeg) = (0 : Int32) → (vX1_divide_L66 wt Q n x3 (x4 + (1 : Int32)) sh)) ∧ (¬ (wt x4.toNatClampNeg) = (0 : Int32) → (vp_in x4 12 ∧ (vp_in x4 12 ∧ (vX1_divide_L66 wt Q n (x3 + (-1 : Int32)) (x4 + (1 : Int32)) (upd sh x4.toNatClampNeg ((sh x4.toNatClampNeg) + (1 : Int32)))))))))))))
set_option maxHeartbeats 4000000 in
set_option maxRecDepth 100000 in
theorem wvX1_divide_L66 {l : Launch} {γ : Gm} {κ : Kx} {h0 : Nat} {h1 : Nat} {h2 : Nat} {wt : Ar} {Q : (Ar) → Prop} (C : Ok γ κ cX1_divide 5 RX1 1 22) (RT : RtV l γ κ cX1_divide 0 0 (fun (u : Ar) => Q u) (fun u => wS γ h0 h1 h2 wt u))  : ∀ (n : Nat) (x3 : Int32) (x4 : Int32) (sh : Ar), vX1_divide_L66 wt Q n x3 x4 sh → G l γ κ (wS γ h0 h1 h2 wt sh) [(0, .ref h0), (3, .int x3), (4, .int x4)] 0 0 [] 66 := by
  intro n
  induction n with
  | zero => intro x3 x4 sh hv; exact False.elim hv
  | succ n ih =>
    intro x3 x4 sh hv
    refine g_iload (pc' := 68) C dX1_divide_66 rfl rfl ?_
    refine g_bipush (pc' := 70) (v := (12 : Int32)) C dX1_divide_68 rfl (by decide) ?_
    obtain ⟨hv1, hv2⟩ := hv
    refine g_icmp_ge (pc' := 73) (tgt := 107) C dX1_divide_70 rfl (by decide) (fun c => ?_) (fun c => ?_)
    · have hv := hv1 c
      exact RT sh _ _ _ _ dX1_divide_107 (by decide) (by decide) hv
    · have hv := hv2 c
      refine g_iload_n (pc' := 74) C dX1_divide_73 rfl rfl rfl ?_
      obtain ⟨hv1, hv2⟩ := hv
      refine g_if_le (pc' := 77) (tgt := 101) C dX1_divide_74 rfl (by decide) (fun c => ?_) (fun c => ?_)
      · have hv := hv1 c
        refine g_iinc (pc' := 104) (v := (x4 + (1 : Int32))) (lv' := [(4, .int (x4 + (1 : Int32))), (0, .ref h0), (3, .int x3)]) C dX1_divide_101 rfl rfl rfl (by decide) rfl ?_
        refine g_goto (tgt := 66) C dX1_divide_104 (by decide) ?_
        refine g_sub (lv' := [(0, .ref h0), (3, .int x3), (4, .int (x4 + (1 : Int32)))]) [1, 2, 0] rfl ?_
        exact ih _ _ _ hv
      · have hv := hv2 c
        refine g_aload_n (pc' := 78) C dX1_divide_77 rfl rfl rfl ?_
        refine gf_X1_9 (pc' := 81) C dX1_divide_78 rfl 0 rfl rfl ?_
        refine g_iload (pc' := 83) C dX1_divide_81 rfl rfl ?_
        obtain ⟨hi, hv⟩ := hv
        refine g_iald (pc' := 84) C dX1_divide_83 rfl 1 rfl hi ?_
        obtain ⟨hv1, hv2⟩ := hv
        refine g_if_eq (pc' := 87) (tgt := 101) C dX1_divide_84 rfl (by decide) (fun c => ?_) (fun c => ?_)
        · have hv := hv1 c
          refine g_iinc (pc' := 104) (v := (x4 + (1 : Int32))) (lv' := [(4, .int (x4 + (1 : Int32))), (0, .ref h0), (3, .int x3)]) C dX1_divide_101 rfl rfl rfl (by decide) rfl ?_
          refine g_goto (tgt := 66) C dX1_divide_104 (by decide) ?_
          refine g_sub (lv' := [(0, .ref h0), (3, .int x3), (4, .int (x4 + (1 : Int32)))]) [1, 2, 0] rfl ?_
          exact ih _ _ _ hv
        · have hv := hv2 c
          refine g_aload_n (pc' := 88) C dX1_divide_87 rfl rfl rfl ?_
          refine gf_X1_15 (pc' := 91) C dX1_divide_88 rfl 0 rfl rfl ?_
          refine g_iload (pc' := 93) C dX1_divide_91 rfl rfl ?_
          refine g_dup2 (pc' := 94) C dX1_divide_93 rfl rfl rfl ?_
          obtain ⟨hi, hv⟩ := hv
          refine g_iald (pc' := 95) C dX1_divide_94 rfl 2 rfl hi ?_
          refine g_iconst (pc' := 96) (v := (1 : Int32)) C dX1_divide_95 rfl (by decide) ?_
          refine g_iadd (pc' := 97) C dX1_divide_96 rfl ?_
          obtain ⟨hi, hv⟩ := hv
          refine g_iast (pc' := 98) (ws' := wS γ h0 h1 h2 wt (upd sh x4.toNatClampNeg ((sh x4.toNatClampNeg) + (1 : Int32)))) C dX1_divide_97 rfl 2 rfl hi rfl ?_
          refine g_iinc (pc' := 101) (v := (x3 + (-1 : Int32))) (lv' := [(3, .int (x3 + (-1 : Int32))), (0, .ref h0), (4, .int x4)]) C dX1_divide_98 rfl rfl rfl (by decide) rfl ?_
          refine g_iinc (pc' := 104) (v := (x4 + (1 : Int32))) (lv' := [(4, .int (x4 + (1 : Int32))), (3, .int (x3 + (-1 : Int32))), (0, .ref h0)]) C dX1_divide_101 rfl rfl rfl (by decide) rfl ?_
          refine g_goto (tgt := 66) C dX1_divide_104 (by decide) ?_
          refine g_sub (lv' := [(0, .ref h0), (3, .int (x3 + (-1 : Int32))), (4, .int (x4 + (1 : Int32)))]) [2, 1, 0] rfl ?_
          exact ih _ _ _ hv
def vX1_divide_L10 (wt : Ar) (x1 : Int32) (x2 : Int32) (Q : (Ar) → Prop) : Nat → Int32 → Int32 → Ar → Prop
  | 0, _, _, _ => False
  | n + 1, x3, x4, sh => (((12 : Int32) ≤ x4 → (∃ n66 : Nat, vX1_divide_L66 wt Q n66 x3 (0 : Int32) sh)) ∧ (¬ (12 : Int32) ≤ x4 → ((¬ x2 = (0 : Int32) → (vp_in x4 12 ∧ (¬ x2.toInt64 = 0 ∧ (vX1_divide_J46 wt sh x1 x2 x3 x4 ((x1.toInt64 * (wt x4.toNatClampNeg).toInt64) / x2.toInt64).toInt32 x4 (vX1_divide_L10 wt x1 x2 Q n) Q)))) ∧ (x2 = (0 : Int32) → (vX1_divide_J46 wt sh x1 x2 x3 x4 (0 : Int32) x4 (vX1_divide_L10 wt x1 x2 Q n) Q)))))
set_option maxHeartbeats 4000000 in
set_option maxRecDepth 100000 in
theorem wvX1_divide_L10 {l : Launch} {γ : Gm} {κ : Kx} {h0 : Nat} {h1 : Nat} {h2 : Nat} {wt : Ar} {x1 : Int32} {x2 : Int32} {Q : (Ar) → Prop} (C : Ok γ κ cX1_divide 5 RX1 1 22) (RT : RtV l γ κ cX1_divide 0 0 (fun (u : Ar) => Q u) (fun u => wS γ h0 h1 h2 wt u))  : ∀ (n : Nat) (x3 : Int32) (x4 : Int32) (sh : Ar), vX1_divide_L10 wt x1 x2 Q n x3 x4 sh → G l γ κ (wS γ h0 h1 h2 wt sh) [(0, .ref h0), (1, .int x1), (2, .int x2), (3, .int x3), (4, .int x4)] 0 0 [] 10 := by
  intro n
  induction n with
  | zero => intro x3 x4 sh hv; exact False.elim hv
  | succ n ih =>
    intro x3 x4 sh hv
    refine g_iload (pc' := 12) C dX1_divide_10 rfl rfl ?_
    refine g_bipush (pc' := 14) (v := (12 : Int32)) C dX1_divide_12 rfl (by decide) ?_
    obtain ⟨hv1, hv2⟩ := hv
    refine g_icmp_ge (pc' := 17) (tgt := 63) C dX1_divide_14 rfl (by decide) (fun c => ?_) (fun c => ?_)
    · have hv := hv1 c
      refine g_iconst (pc' := 64) (v := (0 : Int32)) C dX1_divide_63 rfl (by decide) ?_
      refine g_istore (pc' := 66) (lv' := [(4, .int (0 : Int32)), (0, .ref h0), (1, .int x1), (2, .int x2), (3, .int x3)]) C dX1_divide_64 rfl (by decide) rfl ?_
      refine g_sub (lv' := [(0, .ref h0), (3, .int x3), (4, .int (0 : Int32))]) [1, 4, 0] rfl ?_
      obtain ⟨n66, hv⟩ := hv
      exact wvX1_divide_L66 C RT  n66 _ _ _ hv
    · have hv := hv2 c
      refine g_aload_n (pc' := 18) C dX1_divide_17 rfl rfl rfl ?_
      refine gf_X1_15 (pc' := 21) C dX1_divide_18 rfl 0 rfl rfl ?_
      refine g_iload (pc' := 23) C dX1_divide_21 rfl rfl ?_
      refine g_iload_n (pc' := 24) C dX1_divide_23 rfl rfl rfl ?_
      obtain ⟨hv1, hv2⟩ := hv
      refine g_if_ne (pc' := 27) (tgt := 31) C dX1_divide_24 rfl (by decide) (fun c => ?_) (fun c => ?_)
      · have hv := hv1 c
        refine g_iload_n (pc' := 32) C dX1_divide_31 rfl rfl rfl ?_
        refine g_i2l (pc' := 33) C dX1_divide_32 rfl ?_
        refine g_aload_n (pc' := 34) C dX1_divide_33 rfl rfl rfl ?_
        refine gf_X1_9 (pc' := 37) C dX1_divide_34 rfl 0 rfl rfl ?_
        refine g_iload (pc' := 39) C dX1_divide_37 rfl rfl ?_
        obtain ⟨hi, hv⟩ := hv
        refine g_iald (pc' := 40) C dX1_divide_39 rfl 1 rfl hi ?_
        refine g_i2l (pc' := 41) C dX1_divide_40 rfl ?_
        refine g_lmul (pc' := 42) C dX1_divide_41 rfl ?_
        refine g_iload_n (pc' := 43) C dX1_divide_42 rfl rfl rfl ?_
        refine g_i2l (pc' := 44) C dX1_divide_43 rfl ?_
        obtain ⟨hd, hv⟩ := hv
        refine g_ldiv (pc' := 45) C dX1_divide_44 rfl hd ?_
        refine g_l2i (pc' := 46) C dX1_divide_45 rfl ?_
        exact wvX1_divide_J46 C RT ih hv
      · have hv := hv2 c
        refine g_iconst (pc' := 28) (v := (0 : Int32)) C dX1_divide_27 rfl (by decide) ?_
        refine g_goto (tgt := 46) C dX1_divide_28 (by decide) ?_
        exact wvX1_divide_J46 C RT ih hv
def vX1_divide (wt : Ar) (sh : Ar) (x1 : Int32) (Q : (Ar) → Prop) : Prop := (vX1_totalWeight wt (fun r1 => (∃ n10 : Nat, vX1_divide_L10 wt x1 r1 Q n10 x1 (0 : Int32) sh)))
set_option maxHeartbeats 4000000 in
set_option maxRecDepth 100000 in
theorem mtX1_divide {l : Launch} {γ : Gm} {h0 : Nat} {h1 : Nat} {h2 : Nat} {wt : Ar} {sh : Ar} {x1 : Int32} {Q : (Ar) → Prop} (hv : vX1_divide wt sh x1 Q) : CtV l γ yX1_divide cX1_divide 5 1 22 0 0 [.ref h0, .int x1] (wS γ h0 h1 h2 wt sh) (fun (u : Ar) => Q u) (fun u => wS γ h0 h1 h2 wt u) := startV (by decide +kernel) (Nat.le_of_ble_eq_true rfl) (fun κ C RT hR hnm => by
  show G l γ κ (wS γ h0 h1 h2 wt sh) [(0, .ref h0), (1, .int x1)] 0 0 [] 0
  refine g_aload_n (pc' := 1) C dX1_divide_0 rfl rfl rfl ?_
  refine csI (pc' := 4) C (run_VI (rest := []) C lk_X1_18 (mtX1_totalWeight hv) ⟨by decide, by decide⟩ rfl rfl rfl rfl (Nat.le_of_ble_eq_true rfl) ⟨Nat.zero_le _, Nat.zero_le _⟩ dX1_divide_1) rfl (fun r1 u1 hv => ?_)
  refine g_istore_n (pc' := 5) (lv' := [(2, .int r1), (0, .ref h0), (1, .int x1)]) C dX1_divide_4 rfl rfl (by decide) rfl ?_
  refine g_iload_n (pc' := 6) C dX1_divide_5 rfl rfl rfl ?_
  refine g_istore_n (pc' := 7) (lv' := [(3, .int x1), (2, .int r1), (0, .ref h0), (1, .int x1)]) C dX1_divide_6 rfl rfl (by decide) rfl ?_
  refine g_iconst (pc' := 8) (v := (0 : Int32)) C dX1_divide_7 rfl (by decide) ?_
  refine g_istore (pc' := 10) (lv' := [(4, .int (0 : Int32)), (3, .int x1), (2, .int r1), (0, .ref h0), (1, .int x1)]) C dX1_divide_8 rfl (by decide) rfl ?_
  refine g_sub (lv' := [(0, .ref h0), (1, .int x1), (2, .int r1), (3, .int x1), (4, .int (0 : Int32))]) [3, 4, 2, 1, 0] rfl ?_
  obtain ⟨n10, hv⟩ := hv
  exact wvX1_divide_L10 C RT  n10 _ _ _ hv)
def vX2_size (cnt : Int32) (Q : Int32 → Prop) : Prop := (Q cnt)
set_option maxHeartbeats 4000000 in
set_option maxRecDepth 100000 in
theorem mtX2_size {l : Launch} {γ : Gm} {h0 : Nat} {h1 : Nat} {cnt : Int32} {pwc : Int32} {par : Ar} {Q : Int32 → Prop} (hv : vX2_size cnt Q) : CtI l γ yX2_size cX2_size 1 .int 0 0 0 0 [.ref h0] (wT γ h0 h1 cnt pwc par) (fun (r : Int32) (_ : Unit) => Q r) (fun _ => wT γ h0 h1 cnt pwc par) := startI (by decide +kernel) (Nat.le_of_ble_eq_true rfl) (fun κ C RT hR hnm => by
  show G l γ κ (wT γ h0 h1 cnt pwc par) [(0, .ref h0)] 0 0 [] 0
  refine g_aload_n (pc' := 1) C dX2_size_0 rfl rfl rfl ?_
  refine gf_X2_15 (pc' := 4) C dX2_size_1 rfl 0 rfl rfl ?_
  exact RT cnt () _ _ _ _ dX2_size_4 rfl (by decide) (by decide) hv)
def vX2_has (cnt : Int32) (x1 : Int32) (Q : Int32 → Prop) : Prop := ((x1 < (0 : Int32) → (Q (0 : Int32))) ∧ (¬ x1 < (0 : Int32) → ((cnt ≤ x1 → (Q (0 : Int32))) ∧ (¬ cnt ≤ x1 → (Q (1 : Int32))))))
set_option maxHeartbeats 4000000 in
set_option maxRecDepth 100000 in
theorem mtX2_has {l : Launch} {γ : Gm} {h0 : Nat} {h1 : Nat} {cnt : Int32} {pwc : Int32} {par : Ar} {x1 : Int32} {Q : Int32 → Prop} (hv : vX2_has cnt x1 Q) : CtI l γ yX2_has cX2_has 2 .boolean 0 0 0 0 [.ref h0, .int x1] (wT γ h0 h1 cnt pwc par) (fun (r : Int32) (_ : Unit) => Q r) (fun _ => wT γ h0 h1 cnt pwc par) := startI (by decide +kernel) (Nat.le_of_ble_eq_true rfl) (fun κ C RT hR hnm => by
  show G l γ κ (wT γ h0 h1 cnt pwc par) [(0, .ref h0), (1, .int x1)] 0 0 [] 0
  refine g_iload_n (pc' := 1) C dX2_has_0 rfl rfl rfl ?_
  obtain ⟨hv1, hv2⟩ := hv
  refine g_if_lt (pc' := 4) (tgt := 16) C dX2_has_1 rfl (by decide) (fun c => ?_) (fun c => ?_)
  · have hv := hv1 c
    refine g_iconst (pc' := 17) (v := (0 : Int32)) C dX2_has_16 rfl (by decide) ?_
    exact RT (0 : Int32) () _ _ _ _ dX2_has_17 rfl (by decide) (by decide) hv
  · have hv := hv2 c
    refine g_iload_n (pc' := 5) C dX2_has_4 rfl rfl rfl ?_
    refine g_aload_n (pc' := 6) C dX2_has_5 rfl rfl rfl ?_
    refine gf_X2_15 (pc' := 9) C dX2_has_6 rfl 0 rfl rfl ?_
    obtain ⟨hv1, hv2⟩ := hv
    refine g_icmp_ge (pc' := 12) (tgt := 16) C dX2_has_9 rfl (by decide) (fun c => ?_) (fun c => ?_)
    · have hv := hv1 c
      refine g_iconst (pc' := 17) (v := (0 : Int32)) C dX2_has_16 rfl (by decide) ?_
      exact RT (0 : Int32) () _ _ _ _ dX2_has_17 rfl (by decide) (by decide) hv
    · have hv := hv2 c
      refine g_iconst (pc' := 13) (v := (1 : Int32)) C dX2_has_12 rfl (by decide) ?_
      refine g_goto (tgt := 17) C dX2_has_13 (by decide) ?_
      exact RT (1 : Int32) () _ _ _ _ dX2_has_17 rfl (by decide) (by decide) hv)
def vX2_isFull (cnt : Int32) (Q : Int32 → Prop) : Prop := ((cnt < (10 : Int32) → (Q (0 : Int32))) ∧ (¬ cnt < (10 : Int32) → (Q (1 : Int32))))
set_option maxHeartbeats 4000000 in
set_option maxRecDepth 100000 in
theorem mtX2_isFull {l : Launch} {γ : Gm} {h0 : Nat} {h1 : Nat} {cnt : Int32} {pwc : Int32} {par : Ar} {Q : Int32 → Prop} (hv : vX2_isFull cnt Q) : CtI l γ yX2_isFull cX2_isFull 1 .boolean 0 0 0 0 [.ref h0] (wT γ h0 h1 cnt pwc par) (fun (r : Int32) (_ : Unit) => Q r) (fun _ => wT γ h0 h1 cnt pwc par) := startI (by decide +kernel) (Nat.le_of_ble_eq_true rfl) (fun κ C RT hR hnm => by
  show G l γ κ (wT γ h0 h1 cnt pwc par) [(0, .ref h0)] 0 0 [] 0
  refine g_aload_n (pc' := 1) C dX2_isFull_0 rfl rfl rfl ?_
  refine gf_X2_15 (pc' := 4) C dX2_isFull_1 rfl 0 rfl rfl ?_
  refine g_bipush (pc' := 6) (v := (10 : Int32)) C dX2_isFull_4 rfl (by decide) ?_
  obtain ⟨hv1, hv2⟩ := hv
  refine g_icmp_lt (pc' := 9) (tgt := 13) C dX2_isFull_6 rfl (by decide) (fun c => ?_) (fun c => ?_)
  · have hv := hv1 c
    refine g_iconst (pc' := 14) (v := (0 : Int32)) C dX2_isFull_13 rfl (by decide) ?_
    exact RT (0 : Int32) () _ _ _ _ dX2_isFull_14 rfl (by decide) (by decide) hv
  · have hv := hv2 c
    refine g_iconst (pc' := 10) (v := (1 : Int32)) C dX2_isFull_9 rfl (by decide) ?_
    refine g_goto (tgt := 14) C dX2_isFull_10 (by decide) ?_
    exact RT (1 : Int32) () _ _ _ _ dX2_isFull_14 rfl (by decide) (by decide) hv)
def vX2_isLeaf (pwc : Int32) (x1 : Int32) (Q : Int32 → Prop) : Prop := (vX3_isIn pwc x1 (fun r5 => ((¬ r5 = (0 : Int32) → (Q (0 : Int32))) ∧ (r5 = (0 : Int32) → (Q (1 : Int32))))))
set_option maxHeartbeats 4000000 in
set_option maxRecDepth 100000 in
theorem mtX2_isLeaf {l : Launch} {γ : Gm} {h0 : Nat} {h1 : Nat} {cnt : Int32} {pwc : Int32} {par : Ar} {x1 : Int32} {Q : Int32 → Prop} (hv : vX2_isLeaf pwc x1 Q) : CtI l γ yX2_isLeaf cX2_isLeaf 2 .boolean 1 21 0 0 [.ref h0, .int x1] (wT γ h0 h1 cnt pwc par) (fun (r : Int32) (_ : Unit) => Q r) (fun _ => wT γ h0 h1 cnt pwc par) := startI (by decide +kernel) (Nat.le_of_ble_eq_true rfl) (fun κ C RT hR hnm => by
  show G l γ κ (wT γ h0 h1 cnt pwc par) [(0, .ref h0), (1, .int x1)] 0 0 [] 0
  refine g_aload_n (pc' := 1) C dX2_isLeaf_0 rfl rfl rfl ?_
  refine gf_X2_19 (pc' := 4) C dX2_isLeaf_1 rfl 0 rfl rfl ?_
  refine g_iload_n (pc' := 5) C dX2_isLeaf_4 rfl rfl rfl ?_
  refine cnI (pc' := 8) C (run_NI (rest := []) C lk_X2_22 (mtX3_isIn hv) ⟨by decide, by decide⟩ rfl rfl (Nat.le_of_ble_eq_true rfl) ⟨Nat.zero_le _, Nat.zero_le _⟩ dX2_isLeaf_5) rfl (fun r5 u5 hv => ?_)
  obtain ⟨hv1, hv2⟩ := hv
  refine g_if_ne (pc' := 11) (tgt := 15) C dX2_isLeaf_8 rfl (by decide) (fun c => ?_) (fun c => ?_)
  · have hv := hv1 c
    refine g_iconst (pc' := 16) (v := (0 : Int32)) C dX2_isLeaf_15 rfl (by decide) ?_
    exact RT (0 : Int32) () _ _ _ _ dX2_isLeaf_16 rfl (by decide) (by decide) hv
  · have hv := hv2 c
    refine g_iconst (pc' := 12) (v := (1 : Int32)) C dX2_isLeaf_11 rfl (by decide) ?_
    refine g_goto (tgt := 16) C dX2_isLeaf_12 (by decide) ?_
    exact RT (1 : Int32) () _ _ _ _ dX2_isLeaf_16 rfl (by decide) (by decide) hv)
def vX2_addBelow (cnt : Int32) (pwc : Int32) (par : Ar) (x1 : Int32) (Q : Int32 → (Int32 × Int32 × Ar) → Prop) : Prop := (vp_in cnt 10 ∧ (Q cnt ((cnt + (1 : Int32)), (pwc ||| ((1 : Int32) <<< (x1 &&& 31))), (upd par cnt.toNatClampNeg x1))))
set_option maxHeartbeats 4000000 in
set_option maxRecDepth 100000 in
theorem mtX2_addBelow {l : Launch} {γ : Gm} {h0 : Nat} {h1 : Nat} {cnt : Int32} {pwc : Int32} {par : Ar} {x1 : Int32} {Q : Int32 → (Int32 × Int32 × Ar) → Prop} (hv : vX2_addBelow cnt pwc par x1 Q) : CtI l γ yX2_addBelow cX2_addBelow 3 .int 0 0 0 0 [.ref h0, .int x1] (wT γ h0 h1 cnt pwc par) (fun (r : Int32) (u : Int32 × Int32 × Ar) => Q r u) (fun u => wT γ h0 h1 u.1 u.2.1 u.2.2) := startI (by decide +kernel) (Nat.le_of_ble_eq_true rfl) (fun κ C RT hR hnm => by
  show G l γ κ (wT γ h0 h1 cnt pwc par) [(0, .ref h0), (1, .int x1)] 0 0 [] 0
  refine g_aload_n (pc' := 1) C dX2_addBelow_0 rfl rfl rfl ?_
  refine gf_X2_15 (pc' := 4) C dX2_addBelow_1 rfl 0 rfl rfl ?_
  refine g_istore_n (pc' := 5) (lv' := [(2, .int cnt), (0, .ref h0), (1, .int x1)]) C dX2_addBelow_4 rfl rfl (by decide) rfl ?_
  refine g_aload_n (pc' := 6) C dX2_addBelow_5 rfl rfl rfl ?_
  refine gf_X2_9 (pc' := 9) C dX2_addBelow_6 rfl 0 rfl rfl ?_
  refine g_iload_n (pc' := 10) C dX2_addBelow_9 rfl rfl rfl ?_
  refine g_iload_n (pc' := 11) C dX2_addBelow_10 rfl rfl rfl ?_
  obtain ⟨hi, hv⟩ := hv
  refine g_iast (pc' := 12) (ws' := wT γ h0 h1 cnt pwc (upd par cnt.toNatClampNeg x1)) C dX2_addBelow_11 rfl 1 rfl hi rfl ?_
  refine g_aload_n (pc' := 13) C dX2_addBelow_12 rfl rfl rfl ?_
  refine g_dup (pc' := 14) C dX2_addBelow_13 rfl rfl ?_
  refine gf_X2_19 (pc' := 17) C dX2_addBelow_14 rfl 0 rfl rfl ?_
  refine g_iconst (pc' := 18) (v := (1 : Int32)) C dX2_addBelow_17 rfl (by decide) ?_
  refine g_iload_n (pc' := 19) C dX2_addBelow_18 rfl rfl rfl ?_
  refine g_ishl (pc' := 20) C dX2_addBelow_19 rfl ?_
  refine g_ior (pc' := 21) C dX2_addBelow_20 rfl ?_
  refine pf_X2_19 (pc' := 24) (ws' := wT γ h0 h1 cnt (pwc ||| ((1 : Int32) <<< (x1 &&& 31))) (upd par cnt.toNatClampNeg x1)) C dX2_addBelow_21 rfl 0 rfl rfl rfl (Nat.le_of_ble_eq_true rfl) rfl ?_
  refine g_aload_n (pc' := 25) C dX2_addBelow_24 rfl rfl rfl ?_
  refine g_dup (pc' := 26) C dX2_addBelow_25 rfl rfl ?_
  refine gf_X2_15 (pc' := 29) C dX2_addBelow_26 rfl 0 rfl rfl ?_
  refine g_iconst (pc' := 30) (v := (1 : Int32)) C dX2_addBelow_29 rfl (by decide) ?_
  refine g_iadd (pc' := 31) C dX2_addBelow_30 rfl ?_
  refine pf_X2_15 (pc' := 34) (ws' := wT γ h0 h1 (cnt + (1 : Int32)) (pwc ||| ((1 : Int32) <<< (x1 &&& 31))) (upd par cnt.toNatClampNeg x1)) C dX2_addBelow_31 rfl 0 rfl rfl rfl (Nat.le_of_ble_eq_true rfl) rfl ?_
  refine g_iload_n (pc' := 35) C dX2_addBelow_34 rfl rfl rfl ?_
  exact RT cnt ((cnt + (1 : Int32)), (pwc ||| ((1 : Int32) <<< (x1 &&& 31))), (upd par cnt.toNatClampNeg x1)) _ _ _ _ dX2_addBelow_35 rfl (by decide) (by decide) hv)
def vX2_leavesBelow_L8 (cnt : Int32) (pwc : Int32) (par : Ar) (Q : Int32 → Prop) : Nat → Int32 → Int32 → Prop
  | 0, _, _ => False
  | n + 1, x2, x3 => ((cnt ≤ x3 → (Q (x2 &&& (pwc ^^^ (-1 : Int32))))) ∧ (¬ cnt ≤ x3 → (vp_in x3 10 ∧ (vX3_isIn x2 (par x3.toNatClampNeg) (fun r23 => ((r23 = (0 : Int32) → (vX2_leavesBelow_L8 cnt pwc par Q n x2 (x3 + (1 : Int32)))) ∧ (¬ r23 = (0 : Int32) → (vX2_leavesBelow_L8 cnt pwc par Q n (x2 ||| ((1 : Int32) <<< (x3 &&& 31))) (x3 + (1 : Int32))))))))))
set_option maxHeartbeats 4000000 in
set_option maxRecDepth 100000 in
theorem wvX2_leavesBelow_L8 {l : Launch} {γ : Gm} {κ : Kx} {h0 : Nat} {h1 : Nat} {cnt : Int32} {pwc : Int32} {par : Ar} {Q : Int32 → Prop} (C : Ok γ κ cX2_leavesBelow 4 RX2 1 21) (RT : RtI l γ κ cX2_leavesBelow .int 0 0 (fun (r : Int32) (_ : Unit) => Q r) (fun _ => wT γ h0 h1 cnt pwc par))  : ∀ (n : Nat) (x2 : Int32) (x3 : Int32), vX2_leavesBelow_L8 cnt pwc par Q n x2 x3 → G l γ κ (wT γ h0 h1 cnt pwc par) [(0, .ref h0), (2, .int x2), (3, .int x3)] 0 0 [] 8 := by
  intro n
  induction n with
  | zero => intro x2 x3 hv; exact False.elim hv
  | succ n ih =>
    intro x2 x3 hv
    refine g_iload_n (pc' := 9) C dX2_leavesBelow_8 rfl rfl rfl ?_
    refine g_aload_n (pc' := 10) C dX2_leavesBelow_9 rfl rfl rfl ?_
    refine gf_X2_15 (pc' := 13) C dX2_leavesBelow_10 rfl 0 rfl rfl ?_
    obtain ⟨hv1, hv2⟩ := hv
    refine g_icmp_ge (pc' := 16) (tgt := 41) C dX2_leavesBelow_13 rfl (by decide) (fun c => ?_) (fun c => ?_)
    · have hv := hv1 c
      refine g_iload_n (pc' := 42) C dX2_leavesBelow_41 rfl rfl rfl ?_
      refine g_aload_n (pc' := 43) C dX2_leavesBelow_42 rfl rfl rfl ?_
      refine gf_X2_19 (pc' := 46) C dX2_leavesBelow_43 rfl 0 rfl rfl ?_
      refine g_iconst (pc' := 47) (v := (-1 : Int32)) C dX2_leavesBelow_46 rfl (by decide) ?_
      refine g_ixor (pc' := 48) C dX2_leavesBelow_47 rfl ?_
      refine g_iand (pc' := 49) C dX2_leavesBelow_48 rfl ?_
      exact RT (x2 &&& (pwc ^^^ (-1 : Int32))) () _ _ _ _ dX2_leavesBelow_49 rfl (by decide) (by decide) hv
    · have hv := hv2 c
      refine g_iload_n (pc' := 17) C dX2_leavesBelow_16 rfl rfl rfl ?_
      refine g_aload_n (pc' := 18) C dX2_leavesBelow_17 rfl rfl rfl ?_
      refine gf_X2_9 (pc' := 21) C dX2_leavesBelow_18 rfl 0 rfl rfl ?_
      refine g_iload_n (pc' := 22) C dX2_leavesBelow_21 rfl rfl rfl ?_
      obtain ⟨hi, hv⟩ := hv
      refine g_iald (pc' := 23) C dX2_leavesBelow_22 rfl 1 rfl hi ?_
      refine cnI (pc' := 26) C (run_NI (rest := []) C lk_X2_22 (mtX3_isIn hv) ⟨by decide, by decide⟩ rfl rfl (Nat.le_of_ble_eq_true rfl) ⟨Nat.zero_le _, Nat.zero_le _⟩ dX2_leavesBelow_23) rfl (fun r23 u23 hv => ?_)
      obtain ⟨hv1, hv2⟩ := hv
      refine g_if_eq (pc' := 29) (tgt := 35) C dX2_leavesBelow_26 rfl (by decide) (fun c => ?_) (fun c => ?_)
      · have hv := hv1 c
        refine g_iinc (pc' := 38) (v := (x3 + (1 : Int32))) (lv' := [(3, .int (x3 + (1 : Int32))), (0, .ref h0), (2, .int x2)]) C dX2_leavesBelow_35 rfl rfl rfl (by decide) rfl ?_
        refine g_goto (tgt := 8) C dX2_leavesBelow_38 (by decide) ?_
        refine g_sub (lv' := [(0, .ref h0), (2, .int x2), (3, .int (x3 + (1 : Int32)))]) [1, 2, 0] rfl ?_
        exact ih _ _ hv
      · have hv := hv2 c
        refine g_iload_n (pc' := 30) C dX2_leavesBelow_29 rfl rfl rfl ?_
        refine g_iconst (pc' := 31) (v := (1 : Int32)) C dX2_leavesBelow_30 rfl (by decide) ?_
        refine g_iload_n (pc' := 32) C dX2_leavesBelow_31 rfl rfl rfl ?_
        refine g_ishl (pc' := 33) C dX2_leavesBelow_32 rfl ?_
        refine g_ior (pc' := 34) C dX2_leavesBelow_33 rfl ?_
        refine g_istore_n (pc' := 35) (lv' := [(2, .int (x2 ||| ((1 : Int32) <<< (x3 &&& 31)))), (0, .ref h0), (3, .int x3)]) C dX2_leavesBelow_34 rfl rfl (by decide) rfl ?_
        refine g_iinc (pc' := 38) (v := (x3 + (1 : Int32))) (lv' := [(3, .int (x3 + (1 : Int32))), (2, .int (x2 ||| ((1 : Int32) <<< (x3 &&& 31)))), (0, .ref h0)]) C dX2_leavesBelow_35 rfl rfl rfl (by decide) rfl ?_
        refine g_goto (tgt := 8) C dX2_leavesBelow_38 (by decide) ?_
        refine g_sub (lv' := [(0, .ref h0), (2, .int (x2 ||| ((1 : Int32) <<< (x3 &&& 31)))), (3, .int (x3 + (1 : Int32)))]) [2, 1, 0] rfl ?_
        exact ih _ _ hv
def vX2_leavesBelow (cnt : Int32) (pwc : Int32) (par : Ar) (x1 : Int32) (Q : Int32 → Prop) : Prop := (∃ n8 : Nat, vX2_leavesBelow_L8 cnt pwc par Q n8 ((1 : Int32) <<< (x1 &&& 31)) (x1 + (1 : Int32)))
set_option maxHeartbeats 4000000 in
set_option maxRecDepth 100000 in
theorem mtX2_leavesBelow {l : Launch} {γ : Gm} {h0 : Nat} {h1 : Nat} {cnt : Int32} {pwc : Int32} {par : Ar} {x1 : Int32} {Q : Int32 → Prop} (hv : vX2_leavesBelow cnt pwc par x1 Q) : CtI l γ yX2_leavesBelow cX2_leavesBelow 4 .int 1 21 0 0 [.ref h0, .int x1] (wT γ h0 h1 cnt pwc par) (fun (r : Int32) (_ : Unit) => Q r) (fun _ => wT γ h0 h1 cnt pwc par) := startI (by decide +kernel) (Nat.le_of_ble_eq_true rfl) (fun κ C RT hR hnm => by
  show G l γ κ (wT γ h0 h1 cnt pwc par) [(0, .ref h0), (1, .int x1)] 0 0 [] 0
  refine g_iconst (pc' := 1) (v := (1 : Int32)) C dX2_leavesBelow_0 rfl (by decide) ?_
  refine g_iload_n (pc' := 2) C dX2_leavesBelow_1 rfl rfl rfl ?_
  refine g_ishl (pc' := 3) C dX2_leavesBelow_2 rfl ?_
  refine g_istore_n (pc' := 4) (lv' := [(2, .int ((1 : Int32) <<< (x1 &&& 31))), (0, .ref h0), (1, .int x1)]) C dX2_leavesBelow_3 rfl rfl (by decide) rfl ?_
  refine g_iload_n (pc' := 5) C dX2_leavesBelow_4 rfl rfl rfl ?_
  refine g_iconst (pc' := 6) (v := (1 : Int32)) C dX2_leavesBelow_5 rfl (by decide) ?_
  refine g_iadd (pc' := 7) C dX2_leavesBelow_6 rfl ?_
  refine g_istore_n (pc' := 8) (lv' := [(3, .int (x1 + (1 : Int32))), (2, .int ((1 : Int32) <<< (x1 &&& 31))), (0, .ref h0), (1, .int x1)]) C dX2_leavesBelow_7 rfl rfl (by decide) rfl ?_
  refine g_sub (lv' := [(0, .ref h0), (2, .int ((1 : Int32) <<< (x1 &&& 31))), (3, .int (x1 + (1 : Int32)))]) [2, 1, 0] rfl ?_
  obtain ⟨n8, hv⟩ := hv
  exact wvX2_leavesBelow_L8 C RT  n8 _ _ hv)
end
section
/-! formulas and walks, by program -/
def vX3_checkPlace (cnt : Int32) (x1 : Int32) (Q : Prop) : Prop := (vX2_has cnt x1 (fun r5 => ((¬ r5 = (0 : Int32) → Q) ∧ (r5 = (0 : Int32) → False))))
set_option maxHeartbeats 4000000 in
set_option maxRecDepth 100000 in
theorem mtX3_checkPlace {l : Launch} {γ : Gm} {ad : Nat → Nat} {seen : Int32} {cnt : Int32} {pwc : Int32} {par : Ar} {amt : Ar} {held : Ar} {clos : Ar} {seW : Ar} {seS : Ar} {leW : Ar} {leS : Ar} {x1 : Int32} {Q : Prop} (hv : vX3_checkPlace cnt x1 Q) : CtV l γ yX3_checkPlace cX3_checkPlace 2 6 82 0 0 [.ref (ad 0), .int x1] (wB γ ad seen cnt pwc par amt held clos seW seS leW leS) (fun (_ : Unit) => Q) (fun _ => wB γ ad seen cnt pwc par amt held clos seW seS leW leS) := startV (by decide +kernel) (Nat.le_of_ble_eq_true rfl) (fun κ C RT hR hnm => by
  show G l γ κ (wB γ ad seen cnt pwc par amt held clos seW seS leW leS) [(0, .ref (ad 0)), (1, .int x1)] 0 0 [] 0
  refine g_aload_n (pc' := 1) C dX3_checkPlace_0 rfl rfl rfl ?_
  refine gf_X3_12 (pc' := 4) C dX3_checkPlace_1 rfl 0 rfl rfl ?_
  refine g_iload_n (pc' := 5) C dX3_checkPlace_4 rfl rfl rfl ?_
  refine cfI (pc' := 8) C (run_VI (rest := []) C lk_X3_192 (mtX2_has hv) ⟨by decide, by decide⟩ rfl rfl rfl rfl (Nat.le_of_ble_eq_true rfl) ⟨Nat.zero_le _, Nat.zero_le _⟩ dX3_checkPlace_5) rfl [1, 7] [0, 2, 3, 4, 5, 6, 8, 9, 10, 11, 12] [0, 11, 1, 2, 3, 4, 5, 12, 6, 7, 8, 9, 10] nd_BT1 di_BT1 (fun u5 => wB γ ad seen cnt pwc par amt held clos seW seS leW leS) rfl rfl (fun _ => rfl) (fun r5 u5 hv => ?_)
  obtain ⟨hv1, hv2⟩ := hv
  refine g_if_ne (pc' := 11) (tgt := 21) C dX3_checkPlace_8 rfl (by decide) (fun c => ?_) (fun c => ?_)
  · have hv := hv1 c
    exact RT () _ _ _ _ dX3_checkPlace_21 (by decide) (by decide) hv
  · have hv := hv2 c
    exact hv.elim)
def zX3_checkPlace (cnt : Int32) (x1 : Int32) (X : String → Prop) : Prop := (vX2_has cnt x1 (fun r5 => ((¬ r5 = (0 : Int32) → False) ∧ (r5 = (0 : Int32) → (X eIO)))))
set_option maxHeartbeats 4000000 in
set_option maxRecDepth 100000 in
theorem mtzX3_checkPlace {l : Launch} (hfl : l.stackTraces = false) {γ : Gm} {ad : Nat → Nat} {seen : Int32} {cnt : Int32} {pwc : Int32} {par : Ar} {amt : Ar} {held : Ar} {clos : Ar} {seW : Ar} {seS : Ar} {leW : Ar} {leS : Ar} {x1 : Int32} {X : String → Prop} (hv : zX3_checkPlace cnt x1 X) : CtX l γ yX3_checkPlace cX3_checkPlace 2 none 6 82 [.ref (ad 0), .int x1] (wB γ ad seen cnt pwc par amt held clos seW seS leW leS) (fun (E : String) (_ : Unit) => X E) (fun _ => wB γ ad seen cnt pwc par amt held clos seW seS leW leS) := startX (by decide +kernel) (Nat.le_of_ble_eq_true rfl) (fun κ C hX => by
  show G l γ κ (wB γ ad seen cnt pwc par amt held clos seW seS leW leS) [(0, .ref (ad 0)), (1, .int x1)] 0 0 [] 0
  refine g_aload_n (pc' := 1) C dX3_checkPlace_0 rfl rfl rfl ?_
  refine gf_X3_12 (pc' := 4) C dX3_checkPlace_1 rfl 0 rfl rfl ?_
  refine g_iload_n (pc' := 5) C dX3_checkPlace_4 rfl rfl rfl ?_
  refine cfI (pc' := 8) C (run_VI (rest := []) C lk_X3_192 (mtX2_has hv) ⟨by decide, by decide⟩ rfl rfl rfl rfl (Nat.le_of_ble_eq_true rfl) ⟨Nat.zero_le _, Nat.zero_le _⟩ dX3_checkPlace_5) rfl [1, 7] [0, 2, 3, 4, 5, 6, 8, 9, 10, 11, 12] [0, 11, 1, 2, 3, 4, 5, 12, 6, 7, 8, 9, 10] nd_BT1 di_BT1 (fun u5 => wB γ ad seen cnt pwc par amt held clos seW seS leW leS) rfl rfl (fun _ => rfl) (fun r5 u5 hv => ?_)
  obtain ⟨hv1, hv2⟩ := hv
  refine g_if_ne (pc' := 11) (tgt := 21) C dX3_checkPlace_8 rfl (by decide) (fun c => ?_) (fun c => ?_)
  · have hv := hv1 c
    exact hv.elim
  · have hv := hv2 c
    exact g_throw hfl C hX () (th_eIO (List.mem_of_getElem? (i := 10) rfl)) (by decide) dX3_checkPlace_11 dX3_checkPlace_14 dX3_checkPlace_15 dX3_checkPlace_17 dX3_checkPlace_20 rfl hv)
def vX3_isInUse_L27 (amt : Ar) (held : Ar) (clos : Ar) (x1 : Int32) (Q : Int32 → Prop) : Nat → Int32 → Int32 → Prop
  | 0, _, _ => False
  | n + 1, x2, x3 => (((3 : Int32) ≤ x3 → (vX3_isIn x2 x1 (fun r49 => ((¬ r49 = (0 : Int32) → (Q (1 : Int32))) ∧ (r49 = (0 : Int32) → (vX0_isBlank amt x1 (fun r60 => ((¬ r60 = (0 : Int32) → (Q (0 : Int32))) ∧ (r60 = (0 : Int32) → (Q (1 : Int32))))))))))) ∧ (¬ (3 : Int32) ≤ x3 → (vp_in x3 3 ∧ (vX3_isInUse_L27 amt held clos x1 Q n (x2 ||| (clos x3.toNatClampNeg)) (x3 + (1 : Int32))))))
set_option maxHeartbeats 4000000 in
set_option maxRecDepth 100000 in
theorem wvX3_isInUse_L27 {l : Launch} {γ : Gm} {κ : Kx} {ad : Nat → Nat} {seen : Int32} {cnt : Int32} {pwc : Int32} {par : Ar} {amt : Ar} {held : Ar} {clos : Ar} {seW : Ar} {seS : Ar} {leW : Ar} {leS : Ar} {x1 : Int32} {Q : Int32 → Prop} (C : Ok γ κ cX3_isInUse 4 RX3 1 23) (RT : RtI l γ κ cX3_isInUse .boolean 0 0 (fun (r : Int32) (_ : Unit) => Q r) (fun _ => wB γ ad seen cnt pwc par amt held clos seW seS leW leS))  : ∀ (n : Nat) (x2 : Int32) (x3 : Int32), vX3_isInUse_L27 amt held clos x1 Q n x2 x3 → G l γ κ (wB γ ad seen cnt pwc par amt held clos seW seS leW leS) [(0, .ref (ad 0)), (1, .int x1), (2, .int x2), (3, .int x3)] 0 0 [] 27 := by
  intro n
  induction n with
  | zero => intro x2 x3 hv; exact False.elim hv
  | succ n ih =>
    intro x2 x3 hv
    refine g_iload_n (pc' := 28) C dX3_isInUse_27 rfl rfl rfl ?_
    refine g_iconst (pc' := 29) (v := (3 : Int32)) C dX3_isInUse_28 rfl (by decide) ?_
    obtain ⟨hv1, hv2⟩ := hv
    refine g_icmp_ge (pc' := 32) (tgt := 47) C dX3_isInUse_29 rfl (by decide) (fun c => ?_) (fun c => ?_)
    · have hv := hv1 c
      refine g_iload_n (pc' := 48) C dX3_isInUse_47 rfl rfl rfl ?_
      refine g_iload_n (pc' := 49) C dX3_isInUse_48 rfl rfl rfl ?_
      refine cnI (pc' := 52) C (run_SI (rest := []) C lk_X3_102 (mtX3_isIn hv) ⟨by decide, by decide⟩ rfl rfl (Nat.le_of_ble_eq_true rfl) ⟨Nat.zero_le _, Nat.zero_le _⟩ dX3_isInUse_49) rfl (fun r49 u49 hv => ?_)
      obtain ⟨hv1, hv2⟩ := hv
      refine g_if_ne (pc' := 55) (tgt := 66) C dX3_isInUse_52 rfl (by decide) (fun c => ?_) (fun c => ?_)
      · have hv := hv1 c
        refine g_iconst (pc' := 67) (v := (1 : Int32)) C dX3_isInUse_66 rfl (by decide) ?_
        refine g_goto (tgt := 71) C dX3_isInUse_67 (by decide) ?_
        exact RT (1 : Int32) () _ _ _ _ dX3_isInUse_71 rfl (by decide) (by decide) hv
      · have hv := hv2 c
        refine g_aload_n (pc' := 56) C dX3_isInUse_55 rfl rfl rfl ?_
        refine gf_X3_19 (pc' := 59) C dX3_isInUse_56 rfl 0 rfl rfl ?_
        refine g_iload_n (pc' := 60) C dX3_isInUse_59 rfl rfl rfl ?_
        refine cfI (pc' := 63) C (run_VI (rest := []) C lk_X3_171 (mtX0_isBlank hv) ⟨by decide, by decide⟩ rfl rfl rfl rfl (Nat.le_of_ble_eq_true rfl) ⟨Nat.zero_le _, Nat.zero_le _⟩ dX3_isInUse_60) rfl [2, 8] [0, 1, 3, 4, 5, 6, 7, 9, 10, 11, 12] [0, 1, 11, 2, 3, 4, 5, 6, 12, 7, 8, 9, 10] nd_BC2 di_BC2 (fun u60 => wB γ ad seen cnt pwc par amt held clos seW seS leW leS) rfl rfl (fun _ => rfl) (fun r60 u60 hv => ?_)
        obtain ⟨hv1, hv2⟩ := hv
        refine g_if_ne (pc' := 66) (tgt := 70) C dX3_isInUse_63 rfl (by decide) (fun c => ?_) (fun c => ?_)
        · have hv := hv1 c
          refine g_iconst (pc' := 71) (v := (0 : Int32)) C dX3_isInUse_70 rfl (by decide) ?_
          exact RT (0 : Int32) () _ _ _ _ dX3_isInUse_71 rfl (by decide) (by decide) hv
        · have hv := hv2 c
          refine g_iconst (pc' := 67) (v := (1 : Int32)) C dX3_isInUse_66 rfl (by decide) ?_
          refine g_goto (tgt := 71) C dX3_isInUse_67 (by decide) ?_
          exact RT (1 : Int32) () _ _ _ _ dX3_isInUse_71 rfl (by decide) (by decide) hv
    · have hv := hv2 c
      refine g_iload_n (pc' := 33) C dX3_isInUse_32 rfl rfl rfl ?_
      refine g_aload_n (pc' := 34) C dX3_isInUse_33 rfl rfl rfl ?_
      refine gf_X3_27 (pc' := 37) C dX3_isInUse_34 rfl 0 rfl rfl ?_
      refine g_iload_n (pc' := 38) C dX3_isInUse_37 rfl rfl rfl ?_
      obtain ⟨hi, hv⟩ := hv
      refine g_iald (pc' := 39) C dX3_isInUse_38 rfl 4 rfl hi ?_
      refine g_ior (pc' := 40) C dX3_isInUse_39 rfl ?_
      refine g_istore_n (pc' := 41) (lv' := [(2, .int (x2 ||| (clos x3.toNatClampNeg))), (0, .ref (ad 0)), (1, .int x1), (3, .int x3)]) C dX3_isInUse_40 rfl rfl (by decide) rfl ?_
      refine g_iinc (pc' := 44) (v := (x3 + (1 : Int32))) (lv' := [(3, .int (x3 + (1 : Int32))), (2, .int (x2 ||| (clos x3.toNatClampNeg))), (0, .ref (ad 0)), (1, .int x1)]) C dX3_isInUse_41 rfl rfl rfl (by decide) rfl ?_
      refine g_goto (tgt := 27) C dX3_isInUse_44 (by decide) ?_
      refine g_sub (lv' := [(0, .ref (ad 0)), (1, .int x1), (2, .int (x2 ||| (clos x3.toNatClampNeg))), (3, .int (x3 + (1 : Int32)))]) [2, 3, 1, 0] rfl ?_
      exact ih _ _ hv
def vX3_isInUse_L4 (amt : Ar) (held : Ar) (clos : Ar) (x1 : Int32) (Q : Int32 → Prop) : Nat → Int32 → Int32 → Prop
  | 0, _, _ => False
  | n + 1, x2, x3 => (((12 : Int32) ≤ x3 → (∃ n27 : Nat, vX3_isInUse_L27 amt held clos x1 Q n27 x2 (0 : Int32))) ∧ (¬ (12 : Int32) ≤ x3 → (vp_in x3 12 ∧ (vX3_isInUse_L4 amt held clos x1 Q n (x2 ||| (held x3.toNatClampNeg)) (x3 + (1 : Int32))))))
set_option maxHeartbeats 4000000 in
set_option maxRecDepth 100000 in
theorem wvX3_isInUse_L4 {l : Launch} {γ : Gm} {κ : Kx} {ad : Nat → Nat} {seen : Int32} {cnt : Int32} {pwc : Int32} {par : Ar} {amt : Ar} {held : Ar} {clos : Ar} {seW : Ar} {seS : Ar} {leW : Ar} {leS : Ar} {x1 : Int32} {Q : Int32 → Prop} (C : Ok γ κ cX3_isInUse 4 RX3 1 23) (RT : RtI l γ κ cX3_isInUse .boolean 0 0 (fun (r : Int32) (_ : Unit) => Q r) (fun _ => wB γ ad seen cnt pwc par amt held clos seW seS leW leS))  : ∀ (n : Nat) (x2 : Int32) (x3 : Int32), vX3_isInUse_L4 amt held clos x1 Q n x2 x3 → G l γ κ (wB γ ad seen cnt pwc par amt held clos seW seS leW leS) [(0, .ref (ad 0)), (1, .int x1), (2, .int x2), (3, .int x3)] 0 0 [] 4 := by
  intro n
  induction n with
  | zero => intro x2 x3 hv; exact False.elim hv
  | succ n ih =>
    intro x2 x3 hv
    refine g_iload_n (pc' := 5) C dX3_isInUse_4 rfl rfl rfl ?_
    refine g_bipush (pc' := 7) (v := (12 : Int32)) C dX3_isInUse_5 rfl (by decide) ?_
    obtain ⟨hv1, hv2⟩ := hv
    refine g_icmp_ge (pc' := 10) (tgt := 25) C dX3_isInUse_7 rfl (by decide) (fun c => ?_) (fun c => ?_)
    · have hv := hv1 c
      refine g_iconst (pc' := 26) (v := (0 : Int32)) C dX3_isInUse_25 rfl (by decide) ?_
      refine g_istore_n (pc' := 27) (lv' := [(3, .int (0 : Int32)), (0, .ref (ad 0)), (1, .int x1), (2, .int x2)]) C dX3_isInUse_26 rfl rfl (by decide) rfl ?_
      refine g_sub (lv' := [(0, .ref (ad 0)), (1, .int x1), (2, .int x2), (3, .int (0 : Int32))]) [1, 2, 3, 0] rfl ?_
      obtain ⟨n27, hv⟩ := hv
      exact wvX3_isInUse_L27 C RT  n27 _ _ hv
    · have hv := hv2 c
      refine g_iload_n (pc' := 11) C dX3_isInUse_10 rfl rfl rfl ?_
      refine g_aload_n (pc' := 12) C dX3_isInUse_11 rfl rfl rfl ?_
      refine gf_X3_23 (pc' := 15) C dX3_isInUse_12 rfl 0 rfl rfl ?_
      refine g_iload_n (pc' := 16) C dX3_isInUse_15 rfl rfl rfl ?_
      obtain ⟨hi, hv⟩ := hv
      refine g_iald (pc' := 17) C dX3_isInUse_16 rfl 3 rfl hi ?_
      refine g_ior (pc' := 18) C dX3_isInUse_17 rfl ?_
      refine g_istore_n (pc' := 19) (lv' := [(2, .int (x2 ||| (held x3.toNatClampNeg))), (0, .ref (ad 0)), (1, .int x1), (3, .int x3)]) C dX3_isInUse_18 rfl rfl (by decide) rfl ?_
      refine g_iinc (pc' := 22) (v := (x3 + (1 : Int32))) (lv' := [(3, .int (x3 + (1 : Int32))), (2, .int (x2 ||| (held x3.toNatClampNeg))), (0, .ref (ad 0)), (1, .int x1)]) C dX3_isInUse_19 rfl rfl rfl (by decide) rfl ?_
      refine g_goto (tgt := 4) C dX3_isInUse_22 (by decide) ?_
      refine g_sub (lv' := [(0, .ref (ad 0)), (1, .int x1), (2, .int (x2 ||| (held x3.toNatClampNeg))), (3, .int (x3 + (1 : Int32)))]) [2, 3, 1, 0] rfl ?_
      exact ih _ _ hv
def vX3_isInUse (amt : Ar) (held : Ar) (clos : Ar) (x1 : Int32) (Q : Int32 → Prop) : Prop := (∃ n4 : Nat, vX3_isInUse_L4 amt held clos x1 Q n4 (0 : Int32) (0 : Int32))
set_option maxHeartbeats 4000000 in
set_option maxRecDepth 100000 in
theorem mtX3_isInUse {l : Launch} {γ : Gm} {ad : Nat → Nat} {seen : Int32} {cnt : Int32} {pwc : Int32} {par : Ar} {amt : Ar} {held : Ar} {clos : Ar} {seW : Ar} {seS : Ar} {leW : Ar} {leS : Ar} {x1 : Int32} {Q : Int32 → Prop} (hv : vX3_isInUse amt held clos x1 Q) : CtI l γ yX3_isInUse cX3_isInUse 4 .boolean 1 23 0 0 [.ref (ad 0), .int x1] (wB γ ad seen cnt pwc par amt held clos seW seS leW leS) (fun (r : Int32) (_ : Unit) => Q r) (fun _ => wB γ ad seen cnt pwc par amt held clos seW seS leW leS) := startI (by decide +kernel) (Nat.le_of_ble_eq_true rfl) (fun κ C RT hR hnm => by
  show G l γ κ (wB γ ad seen cnt pwc par amt held clos seW seS leW leS) [(0, .ref (ad 0)), (1, .int x1)] 0 0 [] 0
  refine g_iconst (pc' := 1) (v := (0 : Int32)) C dX3_isInUse_0 rfl (by decide) ?_
  refine g_istore_n (pc' := 2) (lv' := [(2, .int (0 : Int32)), (0, .ref (ad 0)), (1, .int x1)]) C dX3_isInUse_1 rfl rfl (by decide) rfl ?_
  refine g_iconst (pc' := 3) (v := (0 : Int32)) C dX3_isInUse_2 rfl (by decide) ?_
  refine g_istore_n (pc' := 4) (lv' := [(3, .int (0 : Int32)), (2, .int (0 : Int32)), (0, .ref (ad 0)), (1, .int x1)]) C dX3_isInUse_3 rfl rfl (by decide) rfl ?_
  refine g_sub (lv' := [(0, .ref (ad 0)), (1, .int x1), (2, .int (0 : Int32)), (3, .int (0 : Int32))]) [2, 3, 1, 0] rfl ?_
  obtain ⟨n4, hv⟩ := hv
  exact wvX3_isInUse_L4 C RT  n4 _ _ hv)
def vX3_addPlace_J54 (cnt : Int32) (pwc : Int32) (par : Ar) (amt : Ar) (held : Ar) (clos : Ar) (x1 : Int32) (Q : Int32 → (Int32 × Int32 × Ar) → Prop) : Prop := (vX2_addBelow cnt pwc par x1 (fun r59 u59 => (Q r59 (u59.1, u59.2.1, u59.2.2))))
set_option maxHeartbeats 4000000 in
set_option maxRecDepth 100000 in
theorem wvX3_addPlace_J54 {l : Launch} {γ : Gm} {κ : Kx} {ad : Nat → Nat} {seen : Int32} {cnt : Int32} {pwc : Int32} {par : Ar} {amt : Ar} {held : Ar} {clos : Ar} {seW : Ar} {seS : Ar} {leW : Ar} {leS : Ar} {x1 : Int32} {Q : Int32 → (Int32 × Int32 × Ar) → Prop} (C : Ok γ κ cX3_addPlace 2 RX3 7 103) (RT : RtI l γ κ cX3_addPlace .int 0 0 (fun (r : Int32) (u : Int32 × Int32 × Ar) => Q r u) (fun u => wB γ ad seen u.1 u.2.1 u.2.2 amt held clos seW seS leW leS))  (hv : vX3_addPlace_J54 cnt pwc par amt held clos x1 Q) : G l γ κ (wB γ ad seen cnt pwc par amt held clos seW seS leW leS) [(0, .ref (ad 0)), (1, .int x1)] 0 0 [] 54 := by
  refine g_aload_n (pc' := 55) C dX3_addPlace_54 rfl rfl rfl ?_
  refine gf_X3_12 (pc' := 58) C dX3_addPlace_55 rfl 0 rfl rfl ?_
  refine g_iload_n (pc' := 59) C dX3_addPlace_58 rfl rfl rfl ?_
  refine cfI (pc' := 62) C (run_VI (rest := []) C lk_X3_72 (mtX2_addBelow hv) ⟨by decide, by decide⟩ rfl rfl rfl rfl (Nat.le_of_ble_eq_true rfl) ⟨Nat.zero_le _, Nat.zero_le _⟩ dX3_addPlace_59) rfl [1, 7] [0, 2, 3, 4, 5, 6, 8, 9, 10, 11, 12] [0, 11, 1, 2, 3, 4, 5, 12, 6, 7, 8, 9, 10] nd_BT1 di_BT1 (fun u59 => wB γ ad seen u59.1 u59.2.1 u59.2.2 amt held clos seW seS leW leS) rfl rfl (fun _ => rfl) (fun r59 u59 hv => ?_)
  exact RT r59 (u59.1, u59.2.1, u59.2.2) _ _ _ _ dX3_addPlace_62 rfl (by decide) (by decide) hv
def vX3_addPlace (cnt : Int32) (pwc : Int32) (par : Ar) (amt : Ar) (held : Ar) (clos : Ar) (x1 : Int32) (Q : Int32 → (Int32 × Int32 × Ar) → Prop) : Prop := (vX3_checkPlace cnt x1 ((vX2_isFull cnt (fun r9 => ((r9 = (0 : Int32) → (vX2_isLeaf pwc x1 (fun r30 => ((r30 = (0 : Int32) → (vX3_addPlace_J54 cnt pwc par amt held clos x1 Q)) ∧ (¬ r30 = (0 : Int32) → (vX3_isInUse amt held clos x1 (fun r38 => ((r38 = (0 : Int32) → (vX3_addPlace_J54 cnt pwc par amt held clos x1 Q)) ∧ (¬ r38 = (0 : Int32) → False))))))))) ∧ (¬ r9 = (0 : Int32) → False))))))
set_option maxHeartbeats 4000000 in
set_option maxRecDepth 100000 in
theorem mtX3_addPlace {l : Launch} {γ : Gm} {ad : Nat → Nat} {seen : Int32} {cnt : Int32} {pwc : Int32} {par : Ar} {amt : Ar} {held : Ar} {clos : Ar} {seW : Ar} {seS : Ar} {leW : Ar} {leS : Ar} {x1 : Int32} {Q : Int32 → (Int32 × Int32 × Ar) → Prop} (hv : vX3_addPlace cnt pwc par amt held clos x1 Q) : CtI l γ yX3_addPlace cX3_addPlace 2 .int 7 103 0 0 [.ref (ad 0), .int x1] (wB γ ad seen cnt pwc par amt held clos seW seS leW leS) (fun (r : Int32) (u : Int32 × Int32 × Ar) => Q r u) (fun u => wB γ ad seen u.1 u.2.1 u.2.2 amt held clos seW seS leW leS) := startI (by decide +kernel) (Nat.le_of_ble_eq_true rfl) (fun κ C RT hR hnm => by
  show G l γ κ (wB γ ad seen cnt pwc par amt held clos seW seS leW leS) [(0, .ref (ad 0)), (1, .int x1)] 0 0 [] 0
  refine g_aload_n (pc' := 1) C dX3_addPlace_0 rfl rfl rfl ?_
  refine g_iload_n (pc' := 2) C dX3_addPlace_1 rfl rfl rfl ?_
  refine csV (pc' := 5) C (run_VV (rest := []) C lk_X3_48 (mtX3_checkPlace hv) ⟨by decide, by decide⟩ rfl rfl rfl rfl (Nat.le_of_ble_eq_true rfl) ⟨Nat.zero_le _, Nat.zero_le _⟩ dX3_addPlace_2) rfl (fun u2 hv => ?_)
  refine g_aload_n (pc' := 6) C dX3_addPlace_5 rfl rfl rfl ?_
  refine gf_X3_12 (pc' := 9) C dX3_addPlace_6 rfl 0 rfl rfl ?_
  refine cfI (pc' := 12) C (run_VI (rest := []) C lk_X3_52 (mtX2_isFull hv) ⟨by decide, by decide⟩ rfl rfl rfl rfl (Nat.le_of_ble_eq_true rfl) ⟨Nat.zero_le _, Nat.zero_le _⟩ dX3_addPlace_9) rfl [1, 7] [0, 2, 3, 4, 5, 6, 8, 9, 10, 11, 12] [0, 11, 1, 2, 3, 4, 5, 12, 6, 7, 8, 9, 10] nd_BT1 di_BT1 (fun u9 => wB γ ad seen cnt pwc par amt held clos seW seS leW leS) rfl rfl (fun _ => rfl) (fun r9 u9 hv => ?_)
  obtain ⟨hv1, hv2⟩ := hv
  refine g_if_eq (pc' := 15) (tgt := 25) C dX3_addPlace_12 rfl (by decide) (fun c => ?_) (fun c => ?_)
  · have hv := hv1 c
    refine g_aload_n (pc' := 26) C dX3_addPlace_25 rfl rfl rfl ?_
    refine gf_X3_12 (pc' := 29) C dX3_addPlace_26 rfl 0 rfl rfl ?_
    refine g_iload_n (pc' := 30) C dX3_addPlace_29 rfl rfl rfl ?_
    refine cfI (pc' := 33) C (run_VI (rest := []) C lk_X3_63 (mtX2_isLeaf hv) ⟨by decide, by decide⟩ rfl rfl rfl rfl (Nat.le_of_ble_eq_true rfl) ⟨Nat.zero_le _, Nat.zero_le _⟩ dX3_addPlace_30) rfl [1, 7] [0, 2, 3, 4, 5, 6, 8, 9, 10, 11, 12] [0, 11, 1, 2, 3, 4, 5, 12, 6, 7, 8, 9, 10] nd_BT1 di_BT1 (fun u30 => wB γ ad seen cnt pwc par amt held clos seW seS leW leS) rfl rfl (fun _ => rfl) (fun r30 u30 hv => ?_)
    obtain ⟨hv1, hv2⟩ := hv
    refine g_if_eq (pc' := 36) (tgt := 54) C dX3_addPlace_33 rfl (by decide) (fun c => ?_) (fun c => ?_)
    · have hv := hv1 c
      exact wvX3_addPlace_J54 C RT  hv
    · have hv := hv2 c
      refine g_aload_n (pc' := 37) C dX3_addPlace_36 rfl rfl rfl ?_
      refine g_iload_n (pc' := 38) C dX3_addPlace_37 rfl rfl rfl ?_
      refine csI (pc' := 41) C (run_VI (rest := []) C lk_X3_67 (mtX3_isInUse hv) ⟨by decide, by decide⟩ rfl rfl rfl rfl (Nat.le_of_ble_eq_true rfl) ⟨Nat.zero_le _, Nat.zero_le _⟩ dX3_addPlace_38) rfl (fun r38 u38 hv => ?_)
      obtain ⟨hv1, hv2⟩ := hv
      refine g_if_eq (pc' := 44) (tgt := 54) C dX3_addPlace_41 rfl (by decide) (fun c => ?_) (fun c => ?_)
      · have hv := hv1 c
        exact wvX3_addPlace_J54 C RT  hv
      · have hv := hv2 c
        exact hv.elim
  · have hv := hv2 c
    exact hv.elim)
def zX3_addPlace (cnt : Int32) (pwc : Int32) (par : Ar) (amt : Ar) (held : Ar) (clos : Ar) (x1 : Int32) (X : String → (Int32 × Int32 × Ar) → Prop) : Prop := ((zX3_checkPlace cnt x1 (fun E => X E (cnt, pwc, par))) ∨ (vX3_checkPlace cnt x1 ((vX2_isFull cnt (fun r9 => ((r9 = (0 : Int32) → (vX2_isLeaf pwc x1 (fun r30 => ((r30 = (0 : Int32) → False) ∧ (¬ r30 = (0 : Int32) → (vX3_isInUse amt held clos x1 (fun r38 => ((r38 = (0 : Int32) → False) ∧ (¬ r38 = (0 : Int32) → (X eIS (cnt, pwc, par))))))))))) ∧ (¬ r9 = (0 : Int32) → (X eIS (cnt, pwc, par)))))))))
set_option maxHeartbeats 4000000 in
set_option maxRecDepth 100000 in
theorem mtzX3_addPlace {l : Launch} (hfl : l.stackTraces = false) {γ : Gm} {ad : Nat → Nat} {seen : Int32} {cnt : Int32} {pwc : Int32} {par : Ar} {amt : Ar} {held : Ar} {clos : Ar} {seW : Ar} {seS : Ar} {leW : Ar} {leS : Ar} {x1 : Int32} {X : String → (Int32 × Int32 × Ar) → Prop} (hv : zX3_addPlace cnt pwc par amt held clos x1 X) : CtX l γ yX3_addPlace cX3_addPlace 2 (some .int) 7 103 [.ref (ad 0), .int x1] (wB γ ad seen cnt pwc par amt held clos seW seS leW leS) (fun (E : String) (u : Int32 × Int32 × Ar) => X E u) (fun u => wB γ ad seen u.1 u.2.1 u.2.2 amt held clos seW seS leW leS) := startX (by decide +kernel) (Nat.le_of_ble_eq_true rfl) (fun κ C hX => by
  show G l γ κ (wB γ ad seen cnt pwc par amt held clos seW seS leW leS) [(0, .ref (ad 0)), (1, .int x1)] 0 0 [] 0
  refine g_aload_n (pc' := 1) C dX3_addPlace_0 rfl rfl rfl ?_
  refine g_iload_n (pc' := 2) C dX3_addPlace_1 rfl rfl rfl ?_
  rcases hv with hv | hv
  · exact sameX C hX (run_VX (rest := []) C lk_X3_48 (mtzX3_checkPlace hfl hv) ⟨by decide, by decide⟩ rfl rfl rfl rfl (Nat.le_of_ble_eq_true rfl) ⟨hX.2.2.1, hX.2.2.2⟩ dX3_addPlace_2) (fun E u2 hx => ⟨(cnt, pwc, par), hx, rfl⟩)
  · refine csV (pc' := 5) C (run_VV (rest := []) C lk_X3_48 (mtX3_checkPlace hv) ⟨by decide, by decide⟩ rfl rfl rfl rfl (Nat.le_of_ble_eq_true rfl) ⟨Nat.zero_le _, Nat.zero_le _⟩ dX3_addPlace_2) rfl (fun u2 hv => ?_)
    refine g_aload_n (pc' := 6) C dX3_addPlace_5 rfl rfl rfl ?_
    refine gf_X3_12 (pc' := 9) C dX3_addPlace_6 rfl 0 rfl rfl ?_
    refine cfI (pc' := 12) C (run_VI (rest := []) C lk_X3_52 (mtX2_isFull hv) ⟨by decide, by decide⟩ rfl rfl rfl rfl (Nat.le_of_ble_eq_true rfl) ⟨Nat.zero_le _, Nat.zero_le _⟩ dX3_addPlace_9) rfl [1, 7] [0, 2, 3, 4, 5, 6, 8, 9, 10, 11, 12] [0, 11, 1, 2, 3, 4, 5, 12, 6, 7, 8, 9, 10] nd_BT1 di_BT1 (fun u9 => wB γ ad seen cnt pwc par amt held clos seW seS leW leS) rfl rfl (fun _ => rfl) (fun r9 u9 hv => ?_)
    obtain ⟨hv1, hv2⟩ := hv
    refine g_if_eq (pc' := 15) (tgt := 25) C dX3_addPlace_12 rfl (by decide) (fun c => ?_) (fun c => ?_)
    · have hv := hv1 c
      refine g_aload_n (pc' := 26) C dX3_addPlace_25 rfl rfl rfl ?_
      refine gf_X3_12 (pc' := 29) C dX3_addPlace_26 rfl 0 rfl rfl ?_
      refine g_iload_n (pc' := 30) C dX3_addPlace_29 rfl rfl rfl ?_
      refine cfI (pc' := 33) C (run_VI (rest := []) C lk_X3_63 (mtX2_isLeaf hv) ⟨by decide, by decide⟩ rfl rfl rfl rfl (Nat.le_of_ble_eq_true rfl) ⟨Nat.zero_le _, Nat.zero_le _⟩ dX3_addPlace_30) rfl [1, 7] [0, 2, 3, 4, 5, 6, 8, 9, 10, 11, 12] [0, 11, 1, 2, 3, 4, 5, 12, 6, 7, 8, 9, 10] nd_BT1 di_BT1 (fun u30 => wB γ ad seen cnt pwc par amt held clos seW seS leW leS) rfl rfl (fun _ => rfl) (fun r30 u30 hv => ?_)
      obtain ⟨hv1, hv2⟩ := hv
      refine g_if_eq (pc' := 36) (tgt := 54) C dX3_addPlace_33 rfl (by decide) (fun c => ?_) (fun c => ?_)
      · have hv := hv1 c
        exact hv.elim
      · have hv := hv2 c
        refine g_aload_n (pc' := 37) C dX3_addPlace_36 rfl rfl rfl ?_
        refine g_iload_n (pc' := 38) C dX3_addPlace_37 rfl rfl rfl ?_
        refine csI (pc' := 41) C (run_VI (rest := []) C lk_X3_67 (mtX3_isInUse hv) ⟨by decide, by decide⟩ rfl rfl rfl rfl (Nat.le_of_ble_eq_true rfl) ⟨Nat.zero_le _, Nat.zero_le _⟩ dX3_addPlace_38) rfl (fun r38 u38 hv => ?_)
        obtain ⟨hv1, hv2⟩ := hv
        refine g_if_eq (pc' := 44) (tgt := 54) C dX3_addPlace_41 rfl (by decide) (fun c => ?_) (fun c => ?_)
        · have hv := hv1 c
          exact hv.elim
        · have hv := hv2 c
          exact g_throw hfl C hX (cnt, pwc, par) (th_eIS (List.mem_of_getElem? (i := 1) rfl)) (by decide) dX3_addPlace_44 dX3_addPlace_47 dX3_addPlace_48 dX3_addPlace_50 dX3_addPlace_53 rfl hv
    · have hv := hv2 c
      exact g_throw hfl C hX (cnt, pwc, par) (th_eIS (List.mem_of_getElem? (i := 0) rfl)) (by decide) dX3_addPlace_15 dX3_addPlace_18 dX3_addPlace_19 dX3_addPlace_21 dX3_addPlace_24 rfl hv)
def vX3_places (cnt : Int32) (Q : Int32 → Prop) : Prop := (vX2_size cnt (fun r4 => (Q r4)))
set_option maxHeartbeats 4000000 in
set_option maxRecDepth 100000 in
theorem mtX3_places {l : Launch} {γ : Gm} {ad : Nat → Nat} {seen : Int32} {cnt : Int32} {pwc : Int32} {par : Ar} {amt : Ar} {held : Ar} {clos : Ar} {seW : Ar} {seS : Ar} {leW : Ar} {leS : Ar} {Q : Int32 → Prop} (hv : vX3_places cnt Q) : CtI l γ yX3_places cX3_places 1 .int 1 20 0 0 [.ref (ad 0)] (wB γ ad seen cnt pwc par amt held clos seW seS leW leS) (fun (r : Int32) (_ : Unit) => Q r) (fun _ => wB γ ad seen cnt pwc par amt held clos seW seS leW leS) := startI (by decide +kernel) (Nat.le_of_ble_eq_true rfl) (fun κ C RT hR hnm => by
  show G l γ κ (wB γ ad seen cnt pwc par amt held clos seW seS leW leS) [(0, .ref (ad 0))] 0 0 [] 0
  refine g_aload_n (pc' := 1) C dX3_places_0 rfl rfl rfl ?_
  refine gf_X3_12 (pc' := 4) C dX3_places_1 rfl 0 rfl rfl ?_
  refine cfI (pc' := 7) C (run_VI (rest := []) C lk_X3_76 (mtX2_size hv) ⟨by decide, by decide⟩ rfl rfl rfl rfl (Nat.le_of_ble_eq_true rfl) ⟨Nat.zero_le _, Nat.zero_le _⟩ dX3_places_4) rfl [1, 7] [0, 2, 3, 4, 5, 6, 8, 9, 10, 11, 12] [0, 11, 1, 2, 3, 4, 5, 12, 6, 7, 8, 9, 10] nd_BT1 di_BT1 (fun u4 => wB γ ad seen cnt pwc par amt held clos seW seS leW leS) rfl rfl (fun _ => rfl) (fun r4 u4 hv => ?_)
  exact RT r4 () _ _ _ _ dX3_places_7 rfl (by decide) (by decide) hv)
def vX3_leaves (cnt : Int32) (pwc : Int32) (par : Ar) (x1 : Int32) (Q : Int32 → Prop) : Prop := (vX3_checkPlace cnt x1 ((vX2_leavesBelow cnt pwc par x1 (fun r10 => (Q r10)))))
set_option maxHeartbeats 4000000 in
set_option maxRecDepth 100000 in
theorem mtX3_leaves {l : Launch} {γ : Gm} {ad : Nat → Nat} {seen : Int32} {cnt : Int32} {pwc : Int32} {par : Ar} {amt : Ar} {held : Ar} {clos : Ar} {seW : Ar} {seS : Ar} {leW : Ar} {leS : Ar} {x1 : Int32} {Q : Int32 → Prop} (hv : vX3_leaves cnt pwc par x1 Q) : CtI l γ yX3_leaves cX3_leaves 2 .int 7 103 0 0 [.ref (ad 0), .int x1] (wB γ ad seen cnt pwc par amt held clos seW seS leW leS) (fun (r : Int32) (_ : Unit) => Q r) (fun _ => wB γ ad seen cnt pwc par amt held clos seW seS leW leS) := startI (by decide +kernel) (Nat.le_of_ble_eq_true rfl) (fun κ C RT hR hnm => by
  show G l γ κ (wB γ ad seen cnt pwc par amt held clos seW seS leW leS) [(0, .ref (ad 0)), (1, .int x1)] 0 0 [] 0
  refine g_aload_n (pc' := 1) C dX3_leaves_0 rfl rfl rfl ?_
  refine g_iload_n (pc' := 2) C dX3_leaves_1 rfl rfl rfl ?_
  refine csV (pc' := 5) C (run_VV (rest := []) C lk_X3_48 (mtX3_checkPlace hv) ⟨by decide, by decide⟩ rfl rfl rfl rfl (Nat.le_of_ble_eq_true rfl) ⟨Nat.zero_le _, Nat.zero_le _⟩ dX3_leaves_2) rfl (fun u2 hv => ?_)
  refine g_aload_n (pc' := 6) C dX3_leaves_5 rfl rfl rfl ?_
  refine gf_X3_12 (pc' := 9) C dX3_leaves_6 rfl 0 rfl rfl ?_
  refine g_iload_n (pc' := 10) C dX3_leaves_9 rfl rfl rfl ?_
  refine cfI (pc' := 13) C (run_VI (rest := []) C lk_X3_80 (mtX2_leavesBelow hv) ⟨by decide, by decide⟩ rfl rfl rfl rfl (Nat.le_of_ble_eq_true rfl) ⟨Nat.zero_le _, Nat.zero_le _⟩ dX3_leaves_10) rfl [1, 7] [0, 2, 3, 4, 5, 6, 8, 9, 10, 11, 12] [0, 11, 1, 2, 3, 4, 5, 12, 6, 7, 8, 9, 10] nd_BT1 di_BT1 (fun u10 => wB γ ad seen cnt pwc par amt held clos seW seS leW leS) rfl rfl (fun _ => rfl) (fun r10 u10 hv => ?_)
  exact RT r10 () _ _ _ _ dX3_leaves_13 rfl (by decide) (by decide) hv)
def zX3_leaves (cnt : Int32) (pwc : Int32) (par : Ar) (x1 : Int32) (X : String → Prop) : Prop := (zX3_checkPlace cnt x1 (fun E => X E))
set_option maxHeartbeats 4000000 in
set_option maxRecDepth 100000 in
theorem mtzX3_leaves {l : Launch} (hfl : l.stackTraces = false) {γ : Gm} {ad : Nat → Nat} {seen : Int32} {cnt : Int32} {pwc : Int32} {par : Ar} {amt : Ar} {held : Ar} {clos : Ar} {seW : Ar} {seS : Ar} {leW : Ar} {leS : Ar} {x1 : Int32} {X : String → Prop} (hv : zX3_leaves cnt pwc par x1 X) : CtX l γ yX3_leaves cX3_leaves 2 (some .int) 7 103 [.ref (ad 0), .int x1] (wB γ ad seen cnt pwc par amt held clos seW seS leW leS) (fun (E : String) (_ : Unit) => X E) (fun _ => wB γ ad seen cnt pwc par amt held clos seW seS leW leS) := startX (by decide +kernel) (Nat.le_of_ble_eq_true rfl) (fun κ C hX => by
  show G l γ κ (wB γ ad seen cnt pwc par amt held clos seW seS leW leS) [(0, .ref (ad 0)), (1, .int x1)] 0 0 [] 0
  refine g_aload_n (pc' := 1) C dX3_leaves_0 rfl rfl rfl ?_
  refine g_iload_n (pc' := 2) C dX3_leaves_1 rfl rfl rfl ?_
  exact sameX C hX (run_VX (rest := []) C lk_X3_48 (mtzX3_checkPlace hfl hv) ⟨by decide, by decide⟩ rfl rfl rfl rfl (Nat.le_of_ble_eq_true rfl) ⟨hX.2.2.1, hX.2.2.2⟩ dX3_leaves_2) (fun E u2 hx => ⟨(), hx, rfl⟩))
def vX3_checkLeaf (pwc : Int32) (x1 : Int32) (Q : Prop) : Prop := (vX2_isLeaf pwc x1 (fun r5 => ((¬ r5 = (0 : Int32) → Q) ∧ (r5 = (0 : Int32) → False))))
set_option maxHeartbeats 4000000 in
set_option maxRecDepth 100000 in
theorem mtX3_checkLeaf {l : Launch} {γ : Gm} {ad : Nat → Nat} {seen : Int32} {cnt : Int32} {pwc : Int32} {par : Ar} {amt : Ar} {held : Ar} {clos : Ar} {seW : Ar} {seS : Ar} {leW : Ar} {leS : Ar} {x1 : Int32} {Q : Prop} (hv : vX3_checkLeaf pwc x1 Q) : CtV l γ yX3_checkLeaf cX3_checkLeaf 2 6 82 0 0 [.ref (ad 0), .int x1] (wB γ ad seen cnt pwc par amt held clos seW seS leW leS) (fun (_ : Unit) => Q) (fun _ => wB γ ad seen cnt pwc par amt held clos seW seS leW leS) := startV (by decide +kernel) (Nat.le_of_ble_eq_true rfl) (fun κ C RT hR hnm => by
  show G l γ κ (wB γ ad seen cnt pwc par amt held clos seW seS leW leS) [(0, .ref (ad 0)), (1, .int x1)] 0 0 [] 0
  refine g_aload_n (pc' := 1) C dX3_checkLeaf_0 rfl rfl rfl ?_
  refine gf_X3_12 (pc' := 4) C dX3_checkLeaf_1 rfl 0 rfl rfl ?_
  refine g_iload_n (pc' := 5) C dX3_checkLeaf_4 rfl rfl rfl ?_
  refine cfI (pc' := 8) C (run_VI (rest := []) C lk_X3_63 (mtX2_isLeaf hv) ⟨by decide, by decide⟩ rfl rfl rfl rfl (Nat.le_of_ble_eq_true rfl) ⟨Nat.zero_le _, Nat.zero_le _⟩ dX3_checkLeaf_5) rfl [1, 7] [0, 2, 3, 4, 5, 6, 8, 9, 10, 11, 12] [0, 11, 1, 2, 3, 4, 5, 12, 6, 7, 8, 9, 10] nd_BT1 di_BT1 (fun u5 => wB γ ad seen cnt pwc par amt held clos seW seS leW leS) rfl rfl (fun _ => rfl) (fun r5 u5 hv => ?_)
  obtain ⟨hv1, hv2⟩ := hv
  refine g_if_ne (pc' := 11) (tgt := 21) C dX3_checkLeaf_8 rfl (by decide) (fun c => ?_) (fun c => ?_)
  · have hv := hv1 c
    exact RT () _ _ _ _ dX3_checkLeaf_21 (by decide) (by decide) hv
  · have hv := hv2 c
    exact hv.elim)
def zX3_checkLeaf (pwc : Int32) (x1 : Int32) (X : String → Prop) : Prop := (vX2_isLeaf pwc x1 (fun r5 => ((¬ r5 = (0 : Int32) → False) ∧ (r5 = (0 : Int32) → (X eIS)))))
set_option maxHeartbeats 4000000 in
set_option maxRecDepth 100000 in
theorem mtzX3_checkLeaf {l : Launch} (hfl : l.stackTraces = false) {γ : Gm} {ad : Nat → Nat} {seen : Int32} {cnt : Int32} {pwc : Int32} {par : Ar} {amt : Ar} {held : Ar} {clos : Ar} {seW : Ar} {seS : Ar} {leW : Ar} {leS : Ar} {x1 : Int32} {X : String → Prop} (hv : zX3_checkLeaf pwc x1 X) : CtX l γ yX3_checkLeaf cX3_checkLeaf 2 none 6 82 [.ref (ad 0), .int x1] (wB γ ad seen cnt pwc par amt held clos seW seS leW leS) (fun (E : String) (_ : Unit) => X E) (fun _ => wB γ ad seen cnt pwc par amt held clos seW seS leW leS) := startX (by decide +kernel) (Nat.le_of_ble_eq_true rfl) (fun κ C hX => by
  show G l γ κ (wB γ ad seen cnt pwc par amt held clos seW seS leW leS) [(0, .ref (ad 0)), (1, .int x1)] 0 0 [] 0
  refine g_aload_n (pc' := 1) C dX3_checkLeaf_0 rfl rfl rfl ?_
  refine gf_X3_12 (pc' := 4) C dX3_checkLeaf_1 rfl 0 rfl rfl ?_
  refine g_iload_n (pc' := 5) C dX3_checkLeaf_4 rfl rfl rfl ?_
  refine cfI (pc' := 8) C (run_VI (rest := []) C lk_X3_63 (mtX2_isLeaf hv) ⟨by decide, by decide⟩ rfl rfl rfl rfl (Nat.le_of_ble_eq_true rfl) ⟨Nat.zero_le _, Nat.zero_le _⟩ dX3_checkLeaf_5) rfl [1, 7] [0, 2, 3, 4, 5, 6, 8, 9, 10, 11, 12] [0, 11, 1, 2, 3, 4, 5, 12, 6, 7, 8, 9, 10] nd_BT1 di_BT1 (fun u5 => wB γ ad seen cnt pwc par amt held clos seW seS leW leS) rfl rfl (fun _ => rfl) (fun r5 u5 hv => ?_)
  obtain ⟨hv1, hv2⟩ := hv
  refine g_if_ne (pc' := 11) (tgt := 21) C dX3_checkLeaf_8 rfl (by decide) (fun c => ?_) (fun c => ?_)
  · have hv := hv1 c
    exact hv.elim
  · have hv := hv2 c
    exact g_throw hfl C hX () (th_eIS (List.mem_of_getElem? (i := 15) rfl)) (by decide) dX3_checkLeaf_11 dX3_checkLeaf_14 dX3_checkLeaf_15 dX3_checkLeaf_17 dX3_checkLeaf_20 rfl hv)
def vX3_set (cnt : Int32) (pwc : Int32) (amt : Ar) (clos : Ar) (x1 : Int32) (x2 : Int32) (x3 : Int32) (x4 : Int32) (x5 : Int32) (Q : Int32 → (Ar) → Prop) : Prop := (vX3_checkVersion x1 ((vX3_checkPlace cnt x2 ((vX3_checkCellAccount x3 ((vX3_checkMonth x4 ((vX3_mostOf x3 (fun r21 => (vX3_checkUpTo x5 r21 ((vX3_checkLeaf pwc x2 ((vp_in x1 3 ∧ (vX3_isIn (clos x1.toNatClampNeg) x2 (fun r39 => ((r39 = (0 : Int32) → (vX0_put amt x1 x2 x3 x4 x5 (fun r66 u66 => (Q r66 u66)))) ∧ (¬ r39 = (0 : Int32) → False)))))))))))))))))))
set_option maxHeartbeats 4000000 in
set_option maxRecDepth 100000 in
theorem mtX3_set {l : Launch} {γ : Gm} {ad : Nat → Nat} {seen : Int32} {cnt : Int32} {pwc : Int32} {par : Ar} {amt : Ar} {held : Ar} {clos : Ar} {seW : Ar} {seS : Ar} {leW : Ar} {leS : Ar} {x1 : Int32} {x2 : Int32} {x3 : Int32} {x4 : Int32} {x5 : Int32} {Q : Int32 → (Ar) → Prop} (hv : vX3_set cnt pwc amt clos x1 x2 x3 x4 x5 Q) : CtI l γ yX3_set cX3_set 6 .int 7 103 0 0 [.ref (ad 0), .int x1, .int x2, .int x3, .int x4, .int x5] (wB γ ad seen cnt pwc par amt held clos seW seS leW leS) (fun (r : Int32) (u : Ar) => Q r u) (fun u => wB γ ad seen cnt pwc par u held clos seW seS leW leS) := startI (by decide +kernel) (Nat.le_of_ble_eq_true rfl) (fun κ C RT hR hnm => by
  show G l γ κ (wB γ ad seen cnt pwc par amt held clos seW seS leW leS) [(0, .ref (ad 0)), (1, .int x1), (2, .int x2), (3, .int x3), (4, .int x4), (5, .int x5)] 0 0 [] 0
  refine g_iload_n (pc' := 1) C dX3_set_0 rfl rfl rfl ?_
  refine cnV (pc' := 4) C (run_SV (rest := []) C lk_X3_83 (mtX3_checkVersion hv) ⟨by decide, by decide⟩ rfl rfl (Nat.le_of_ble_eq_true rfl) ⟨Nat.zero_le _, Nat.zero_le _⟩ dX3_set_1) rfl (fun u1 hv => ?_)
  refine g_aload_n (pc' := 5) C dX3_set_4 rfl rfl rfl ?_
  refine g_iload_n (pc' := 6) C dX3_set_5 rfl rfl rfl ?_
  refine csV (pc' := 9) C (run_VV (rest := []) C lk_X3_48 (mtX3_checkPlace hv) ⟨by decide, by decide⟩ rfl rfl rfl rfl (Nat.le_of_ble_eq_true rfl) ⟨Nat.zero_le _, Nat.zero_le _⟩ dX3_set_6) rfl (fun u6 hv => ?_)
  refine g_iload_n (pc' := 10) C dX3_set_9 rfl rfl rfl ?_
  refine cnV (pc' := 13) C (run_SV (rest := []) C lk_X3_86 (mtX3_checkCellAccount hv) ⟨by decide, by decide⟩ rfl rfl (Nat.le_of_ble_eq_true rfl) ⟨Nat.zero_le _, Nat.zero_le _⟩ dX3_set_10) rfl (fun u10 hv => ?_)
  refine g_iload (pc' := 15) C dX3_set_13 rfl rfl ?_
  refine cnV (pc' := 18) C (run_SV (rest := []) C lk_X3_89 (mtX3_checkMonth hv) ⟨by decide, by decide⟩ rfl rfl (Nat.le_of_ble_eq_true rfl) ⟨Nat.zero_le _, Nat.zero_le _⟩ dX3_set_15) rfl (fun u15 hv => ?_)
  refine g_iload (pc' := 20) C dX3_set_18 rfl rfl ?_
  refine g_iload_n (pc' := 21) C dX3_set_20 rfl rfl rfl ?_
  refine cnI (pc' := 24) C (run_SI (rest := [.int x5]) C lk_X3_92 (mtX3_mostOf hv) ⟨by decide, by decide⟩ rfl rfl (Nat.le_of_ble_eq_true rfl) ⟨Nat.zero_le _, Nat.zero_le _⟩ dX3_set_21) rfl (fun r21 u21 hv => ?_)
  refine cnV (pc' := 27) C (run_SV (rest := []) C lk_X3_95 (mtX3_checkUpTo hv) ⟨by decide, by decide⟩ rfl rfl (Nat.le_of_ble_eq_true rfl) ⟨Nat.zero_le _, Nat.zero_le _⟩ dX3_set_24) rfl (fun u24 hv => ?_)
  refine g_aload_n (pc' := 28) C dX3_set_27 rfl rfl rfl ?_
  refine g_iload_n (pc' := 29) C dX3_set_28 rfl rfl rfl ?_
  refine csV (pc' := 32) C (run_VV (rest := []) C lk_X3_99 (mtX3_checkLeaf hv) ⟨by decide, by decide⟩ rfl rfl rfl rfl (Nat.le_of_ble_eq_true rfl) ⟨Nat.zero_le _, Nat.zero_le _⟩ dX3_set_29) rfl (fun u29 hv => ?_)
  refine g_aload_n (pc' := 33) C dX3_set_32 rfl rfl rfl ?_
  refine gf_X3_27 (pc' := 36) C dX3_set_33 rfl 0 rfl rfl ?_
  refine g_iload_n (pc' := 37) C dX3_set_36 rfl rfl rfl ?_
  obtain ⟨hi, hv⟩ := hv
  refine g_iald (pc' := 38) C dX3_set_37 rfl 4 rfl hi ?_
  refine g_iload_n (pc' := 39) C dX3_set_38 rfl rfl rfl ?_
  refine cnI (pc' := 42) C (run_SI (rest := []) C lk_X3_102 (mtX3_isIn hv) ⟨by decide, by decide⟩ rfl rfl (Nat.le_of_ble_eq_true rfl) ⟨Nat.zero_le _, Nat.zero_le _⟩ dX3_set_39) rfl (fun r39 u39 hv => ?_)
  obtain ⟨hv1, hv2⟩ := hv
  refine g_if_eq (pc' := 45) (tgt := 55) C dX3_set_42 rfl (by decide) (fun c => ?_) (fun c => ?_)
  · have hv := hv1 c
    refine g_aload_n (pc' := 56) C dX3_set_55 rfl rfl rfl ?_
    refine gf_X3_19 (pc' := 59) C dX3_set_56 rfl 0 rfl rfl ?_
    refine g_iload_n (pc' := 60) C dX3_set_59 rfl rfl rfl ?_
    refine g_iload_n (pc' := 61) C dX3_set_60 rfl rfl rfl ?_
    refine g_iload_n (pc' := 62) C dX3_set_61 rfl rfl rfl ?_
    refine g_iload (pc' := 64) C dX3_set_62 rfl rfl ?_
    refine g_iload (pc' := 66) C dX3_set_64 rfl rfl ?_
    refine cfI (pc' := 69) C (run_VI (rest := []) C lk_X3_108 (mtX0_put hv) ⟨by decide, by decide⟩ rfl rfl rfl rfl (Nat.le_of_ble_eq_true rfl) ⟨Nat.zero_le _, Nat.zero_le _⟩ dX3_set_66) rfl [2, 8] [0, 1, 3, 4, 5, 6, 7, 9, 10, 11, 12] [0, 1, 11, 2, 3, 4, 5, 6, 12, 7, 8, 9, 10] nd_BC2 di_BC2 (fun u66 => wB γ ad seen cnt pwc par u66 held clos seW seS leW leS) rfl rfl (fun _ => rfl) (fun r66 u66 hv => ?_)
    exact RT r66 u66 _ _ _ _ dX3_set_69 rfl (by decide) (by decide) hv
  · have hv := hv2 c
    exact hv.elim)
def zX3_set (cnt : Int32) (pwc : Int32) (amt : Ar) (clos : Ar) (x1 : Int32) (x2 : Int32) (x3 : Int32) (x4 : Int32) (x5 : Int32) (X : String → (Ar) → Prop) : Prop := ((zX3_checkVersion x1 (fun E => X E amt)) ∨ (vX3_checkVersion x1 (((zX3_checkPlace cnt x2 (fun E => X E amt)) ∨ (vX3_checkPlace cnt x2 (((zX3_checkCellAccount x3 (fun E => X E amt)) ∨ (vX3_checkCellAccount x3 (((zX3_checkMonth x4 (fun E => X E amt)) ∨ (vX3_checkMonth x4 ((vX3_mostOf x3 (fun r21 => ((zX3_checkUpTo x5 r21 (fun E => X E amt)) ∨ (vX3_checkUpTo x5 r21 (((zX3_checkLeaf pwc x2 (fun E => X E amt)) ∨ (vX3_checkLeaf pwc x2 ((vp_in x1 3 ∧ (vX3_isIn (clos x1.toNatClampNeg) x2 (fun r39 => ((r39 = (0 : Int32) → False) ∧ (¬ r39 = (0 : Int32) → (X eIS amt))))))))))))))))))))))))))
set_option maxHeartbeats 4000000 in
set_option maxRecDepth 100000 in
theorem mtzX3_set {l : Launch} (hfl : l.stackTraces = false) {γ : Gm} {ad : Nat → Nat} {seen : Int32} {cnt : Int32} {pwc : Int32} {par : Ar} {amt : Ar} {held : Ar} {clos : Ar} {seW : Ar} {seS : Ar} {leW : Ar} {leS : Ar} {x1 : Int32} {x2 : Int32} {x3 : Int32} {x4 : Int32} {x5 : Int32} {X : String → (Ar) → Prop} (hv : zX3_set cnt pwc amt clos x1 x2 x3 x4 x5 X) : CtX l γ yX3_set cX3_set 6 (some .int) 7 103 [.ref (ad 0), .int x1, .int x2, .int x3, .int x4, .int x5] (wB γ ad seen cnt pwc par amt held clos seW seS leW leS) (fun (E : String) (u : Ar) => X E u) (fun u => wB γ ad seen cnt pwc par u held clos seW seS leW leS) := startX (by decide +kernel) (Nat.le_of_ble_eq_true rfl) (fun κ C hX => by
  show G l γ κ (wB γ ad seen cnt pwc par amt held clos seW seS leW leS) [(0, .ref (ad 0)), (1, .int x1), (2, .int x2), (3, .int x3), (4, .int x4), (5, .int x5)] 0 0 [] 0
  refine g_iload_n (pc' := 1) C dX3_set_0 rfl rfl rfl ?_
  rcases hv with hv | hv
  · exact noneX C hX (run_SX (rest := []) C lk_X3_83 (mtzX3_checkVersion hfl hv) ⟨by decide, by decide⟩ rfl rfl (Nat.le_of_ble_eq_true rfl) ⟨hX.2.2.1, hX.2.2.2⟩ dX3_set_1) (fun E u1 hx => ⟨amt, hx, rfl⟩)
  · refine cnV (pc' := 4) C (run_SV (rest := []) C lk_X3_83 (mtX3_checkVersion hv) ⟨by decide, by decide⟩ rfl rfl (Nat.le_of_ble_eq_true rfl) ⟨Nat.zero_le _, Nat.zero_le _⟩ dX3_set_1) rfl (fun u1 hv => ?_)
    refine g_aload_n (pc' := 5) C dX3_set_4 rfl rfl rfl ?_
    refine g_iload_n (pc' := 6) C dX3_set_5 rfl rfl rfl ?_
    rcases hv with hv | hv
    · exact sameX C hX (run_VX (rest := []) C lk_X3_48 (mtzX3_checkPlace hfl hv) ⟨by decide, by decide⟩ rfl rfl rfl rfl (Nat.le_of_ble_eq_true rfl) ⟨hX.2.2.1, hX.2.2.2⟩ dX3_set_6) (fun E u6 hx => ⟨amt, hx, rfl⟩)
    · refine csV (pc' := 9) C (run_VV (rest := []) C lk_X3_48 (mtX3_checkPlace hv) ⟨by decide, by decide⟩ rfl rfl rfl rfl (Nat.le_of_ble_eq_true rfl) ⟨Nat.zero_le _, Nat.zero_le _⟩ dX3_set_6) rfl (fun u6 hv => ?_)
      refine g_iload_n (pc' := 10) C dX3_set_9 rfl rfl rfl ?_
      rcases hv with hv | hv
      · exact noneX C hX (run_SX (rest := []) C lk_X3_86 (mtzX3_checkCellAccount hfl hv) ⟨by decide, by decide⟩ rfl rfl (Nat.le_of_ble_eq_true rfl) ⟨hX.2.2.1, hX.2.2.2⟩ dX3_set_10) (fun E u10 hx => ⟨amt, hx, rfl⟩)
      · refine cnV (pc' := 13) C (run_SV (rest := []) C lk_X3_86 (mtX3_checkCellAccount hv) ⟨by decide, by decide⟩ rfl rfl (Nat.le_of_ble_eq_true rfl) ⟨Nat.zero_le _, Nat.zero_le _⟩ dX3_set_10) rfl (fun u10 hv => ?_)
        refine g_iload (pc' := 15) C dX3_set_13 rfl rfl ?_
        rcases hv with hv | hv
        · exact noneX C hX (run_SX (rest := []) C lk_X3_89 (mtzX3_checkMonth hfl hv) ⟨by decide, by decide⟩ rfl rfl (Nat.le_of_ble_eq_true rfl) ⟨hX.2.2.1, hX.2.2.2⟩ dX3_set_15) (fun E u15 hx => ⟨amt, hx, rfl⟩)
        · refine cnV (pc' := 18) C (run_SV (rest := []) C lk_X3_89 (mtX3_checkMonth hv) ⟨by decide, by decide⟩ rfl rfl (Nat.le_of_ble_eq_true rfl) ⟨Nat.zero_le _, Nat.zero_le _⟩ dX3_set_15) rfl (fun u15 hv => ?_)
          refine g_iload (pc' := 20) C dX3_set_18 rfl rfl ?_
          refine g_iload_n (pc' := 21) C dX3_set_20 rfl rfl rfl ?_
          refine cnI (pc' := 24) C (run_SI (rest := [.int x5]) C lk_X3_92 (mtX3_mostOf hv) ⟨by decide, by decide⟩ rfl rfl (Nat.le_of_ble_eq_true rfl) ⟨Nat.zero_le _, Nat.zero_le _⟩ dX3_set_21) rfl (fun r21 u21 hv => ?_)
          rcases hv with hv | hv
          · exact noneX C hX (run_SX (rest := []) C lk_X3_95 (mtzX3_checkUpTo hfl hv) ⟨by decide, by decide⟩ rfl rfl (Nat.le_of_ble_eq_true rfl) ⟨hX.2.2.1, hX.2.2.2⟩ dX3_set_24) (fun E u24 hx => ⟨amt, hx, rfl⟩)
          · refine cnV (pc' := 27) C (run_SV (rest := []) C lk_X3_95 (mtX3_checkUpTo hv) ⟨by decide, by decide⟩ rfl rfl (Nat.le_of_ble_eq_true rfl) ⟨Nat.zero_le _, Nat.zero_le _⟩ dX3_set_24) rfl (fun u24 hv => ?_)
            refine g_aload_n (pc' := 28) C dX3_set_27 rfl rfl rfl ?_
            refine g_iload_n (pc' := 29) C dX3_set_28 rfl rfl rfl ?_
            rcases hv with hv | hv
            · exact sameX C hX (run_VX (rest := []) C lk_X3_99 (mtzX3_checkLeaf hfl hv) ⟨by decide, by decide⟩ rfl rfl rfl rfl (Nat.le_of_ble_eq_true rfl) ⟨hX.2.2.1, hX.2.2.2⟩ dX3_set_29) (fun E u29 hx => ⟨amt, hx, rfl⟩)
            · refine csV (pc' := 32) C (run_VV (rest := []) C lk_X3_99 (mtX3_checkLeaf hv) ⟨by decide, by decide⟩ rfl rfl rfl rfl (Nat.le_of_ble_eq_true rfl) ⟨Nat.zero_le _, Nat.zero_le _⟩ dX3_set_29) rfl (fun u29 hv => ?_)
              refine g_aload_n (pc' := 33) C dX3_set_32 rfl rfl rfl ?_
              refine gf_X3_27 (pc' := 36) C dX3_set_33 rfl 0 rfl rfl ?_
              refine g_iload_n (pc' := 37) C dX3_set_36 rfl rfl rfl ?_
              obtain ⟨hi, hv⟩ := hv
              refine g_iald (pc' := 38) C dX3_set_37 rfl 4 rfl hi ?_
              refine g_iload_n (pc' := 39) C dX3_set_38 rfl rfl rfl ?_
              refine cnI (pc' := 42) C (run_SI (rest := []) C lk_X3_102 (mtX3_isIn hv) ⟨by decide, by decide⟩ rfl rfl (Nat.le_of_ble_eq_true rfl) ⟨Nat.zero_le _, Nat.zero_le _⟩ dX3_set_39) rfl (fun r39 u39 hv => ?_)
              obtain ⟨hv1, hv2⟩ := hv
              refine g_if_eq (pc' := 45) (tgt := 55) C dX3_set_42 rfl (by decide) (fun c => ?_) (fun c => ?_)
              · have hv := hv1 c
                exact hv.elim
              · have hv := hv2 c
                exact g_throw hfl C hX amt (th_eIS (List.mem_of_getElem? (i := 2) rfl)) (by decide) dX3_set_45 dX3_set_48 dX3_set_49 dX3_set_51 dX3_set_54 rfl hv)
def vX3_hold_J43 (cnt : Int32) (pwc : Int32) (held : Ar) (x2 : Int32) (x4 : Int32) (s0 : Int32) (Q : Int32 → (Ar) → Prop) : Prop := (vp_in x2 12 ∧ ((s0 = x4 → (Q (0 : Int32) (upd held x2.toNatClampNeg s0))) ∧ (¬ s0 = x4 → (Q (1 : Int32) (upd held x2.toNatClampNeg s0)))))
set_option maxHeartbeats 4000000 in
set_option maxRecDepth 100000 in
theorem wvX3_hold_J43 {l : Launch} {γ : Gm} {κ : Kx} {ad : Nat → Nat} {seen : Int32} {cnt : Int32} {pwc : Int32} {par : Ar} {amt : Ar} {held : Ar} {clos : Ar} {seW : Ar} {seS : Ar} {leW : Ar} {leS : Ar} {x2 : Int32} {x4 : Int32} {s0 : Int32} {Q : Int32 → (Ar) → Prop} (C : Ok γ κ cX3_hold 6 RX3 7 103) (RT : RtI l γ κ cX3_hold .boolean 0 0 (fun (r : Int32) (u : Ar) => Q r u) (fun u => wB γ ad seen cnt pwc par amt u clos seW seS leW leS))  (hv : vX3_hold_J43 cnt pwc held x2 x4 s0 Q) : G l γ κ (wB γ ad seen cnt pwc par amt held clos seW seS leW leS) [(0, .ref (ad 0)), (2, .int x2), (4, .int x4)] 0 0 [.int s0] 43 := by
  refine g_istore (pc' := 45) (lv' := [(5, .int s0), (0, .ref (ad 0)), (2, .int x2), (4, .int x4)]) C dX3_hold_43 rfl (by decide) rfl ?_
  refine g_aload_n (pc' := 46) C dX3_hold_45 rfl rfl rfl ?_
  refine gf_X3_23 (pc' := 49) C dX3_hold_46 rfl 0 rfl rfl ?_
  refine g_iload_n (pc' := 50) C dX3_hold_49 rfl rfl rfl ?_
  refine g_iload (pc' := 52) C dX3_hold_50 rfl rfl ?_
  obtain ⟨hi, hv⟩ := hv
  refine g_iast (pc' := 53) (ws' := wB γ ad seen cnt pwc par amt (upd held x2.toNatClampNeg s0) clos seW seS leW leS) C dX3_hold_52 rfl 3 rfl hi rfl ?_
  refine g_iload (pc' := 55) C dX3_hold_53 rfl rfl ?_
  refine g_iload (pc' := 57) C dX3_hold_55 rfl rfl ?_
  obtain ⟨hv1, hv2⟩ := hv
  refine g_icmp_eq (pc' := 60) (tgt := 64) C dX3_hold_57 rfl (by decide) (fun c => ?_) (fun c => ?_)
  · have hv := hv1 c
    refine g_iconst (pc' := 65) (v := (0 : Int32)) C dX3_hold_64 rfl (by decide) ?_
    exact RT (0 : Int32) (upd held x2.toNatClampNeg s0) _ _ _ _ dX3_hold_65 rfl (by decide) (by decide) hv
  · have hv := hv2 c
    refine g_iconst (pc' := 61) (v := (1 : Int32)) C dX3_hold_60 rfl (by decide) ?_
    refine g_goto (tgt := 65) C dX3_hold_61 (by decide) ?_
    exact RT (1 : Int32) (upd held x2.toNatClampNeg s0) _ _ _ _ dX3_hold_65 rfl (by decide) (by decide) hv
def vX3_hold (cnt : Int32) (pwc : Int32) (held : Ar) (x1 : Int32) (x2 : Int32) (x3 : Int32) (Q : Int32 → (Ar) → Prop) : Prop := (vX3_checkPlace cnt x1 ((vX3_checkMonth x2 ((vX3_checkLeaf pwc x1 ((vp_in x2 12 ∧ ((x3 = (0 : Int32) → (vX3_hold_J43 cnt pwc held x2 (held x2.toNatClampNeg) ((held x2.toNatClampNeg) &&& (((1 : Int32) <<< (x1 &&& 31)) ^^^ (-1 : Int32))) Q)) ∧ (¬ x3 = (0 : Int32) → (vX3_hold_J43 cnt pwc held x2 (held x2.toNatClampNeg) ((held x2.toNatClampNeg) ||| ((1 : Int32) <<< (x1 &&& 31))) Q))))))))))
set_option maxHeartbeats 4000000 in
set_option maxRecDepth 100000 in
theorem mtX3_hold {l : Launch} {γ : Gm} {ad : Nat → Nat} {seen : Int32} {cnt : Int32} {pwc : Int32} {par : Ar} {amt : Ar} {held : Ar} {clos : Ar} {seW : Ar} {seS : Ar} {leW : Ar} {leS : Ar} {x1 : Int32} {x2 : Int32} {x3 : Int32} {Q : Int32 → (Ar) → Prop} (hv : vX3_hold cnt pwc held x1 x2 x3 Q) : CtI l γ yX3_hold cX3_hold 6 .boolean 7 103 0 0 [.ref (ad 0), .int x1, .int x2, .int x3] (wB γ ad seen cnt pwc par amt held clos seW seS leW leS) (fun (r : Int32) (u : Ar) => Q r u) (fun u => wB γ ad seen cnt pwc par amt u clos seW seS leW leS) := startI (by decide +kernel) (Nat.le_of_ble_eq_true rfl) (fun κ C RT hR hnm => by
  show G l γ κ (wB γ ad seen cnt pwc par amt held clos seW seS leW leS) [(0, .ref (ad 0)), (1, .int x1), (2, .int x2), (3, .int x3)] 0 0 [] 0
  refine g_aload_n (pc' := 1) C dX3_hold_0 rfl rfl rfl ?_
  refine g_iload_n (pc' := 2) C dX3_hold_1 rfl rfl rfl ?_
  refine csV (pc' := 5) C (run_VV (rest := []) C lk_X3_48 (mtX3_checkPlace hv) ⟨by decide, by decide⟩ rfl rfl rfl rfl (Nat.le_of_ble_eq_true rfl) ⟨Nat.zero_le _, Nat.zero_le _⟩ dX3_hold_2) rfl (fun u2 hv => ?_)
  refine g_iload_n (pc' := 6) C dX3_hold_5 rfl rfl rfl ?_
  refine cnV (pc' := 9) C (run_SV (rest := []) C lk_X3_89 (mtX3_checkMonth hv) ⟨by decide, by decide⟩ rfl rfl (Nat.le_of_ble_eq_true rfl) ⟨Nat.zero_le _, Nat.zero_le _⟩ dX3_hold_6) rfl (fun u6 hv => ?_)
  refine g_aload_n (pc' := 10) C dX3_hold_9 rfl rfl rfl ?_
  refine g_iload_n (pc' := 11) C dX3_hold_10 rfl rfl rfl ?_
  refine csV (pc' := 14) C (run_VV (rest := []) C lk_X3_99 (mtX3_checkLeaf hv) ⟨by decide, by decide⟩ rfl rfl rfl rfl (Nat.le_of_ble_eq_true rfl) ⟨Nat.zero_le _, Nat.zero_le _⟩ dX3_hold_11) rfl (fun u11 hv => ?_)
  refine g_aload_n (pc' := 15) C dX3_hold_14 rfl rfl rfl ?_
  refine gf_X3_23 (pc' := 18) C dX3_hold_15 rfl 0 rfl rfl ?_
  refine g_iload_n (pc' := 19) C dX3_hold_18 rfl rfl rfl ?_
  obtain ⟨hi, hv⟩ := hv
  refine g_iald (pc' := 20) C dX3_hold_19 rfl 3 rfl hi ?_
  refine g_istore (pc' := 22) (lv' := [(4, .int (held x2.toNatClampNeg)), (0, .ref (ad 0)), (1, .int x1), (2, .int x2), (3, .int x3)]) C dX3_hold_20 rfl (by decide) rfl ?_
  refine g_iload_n (pc' := 23) C dX3_hold_22 rfl rfl rfl ?_
  obtain ⟨hv1, hv2⟩ := hv
  refine g_if_eq (pc' := 26) (tgt := 35) C dX3_hold_23 rfl (by decide) (fun c => ?_) (fun c => ?_)
  · have hv := hv1 c
    refine g_iload (pc' := 37) C dX3_hold_35 rfl rfl ?_
    refine g_iconst (pc' := 38) (v := (1 : Int32)) C dX3_hold_37 rfl (by decide) ?_
    refine g_iload_n (pc' := 39) C dX3_hold_38 rfl rfl rfl ?_
    refine g_ishl (pc' := 40) C dX3_hold_39 rfl ?_
    refine g_iconst (pc' := 41) (v := (-1 : Int32)) C dX3_hold_40 rfl (by decide) ?_
    refine g_ixor (pc' := 42) C dX3_hold_41 rfl ?_
    refine g_iand (pc' := 43) C dX3_hold_42 rfl ?_
    refine g_sub (lv' := [(0, .ref (ad 0)), (2, .int x2), (4, .int (held x2.toNatClampNeg))]) [1, 3, 0] rfl ?_
    exact wvX3_hold_J43 C RT  hv
  · have hv := hv2 c
    refine g_iload (pc' := 28) C dX3_hold_26 rfl rfl ?_
    refine g_iconst (pc' := 29) (v := (1 : Int32)) C dX3_hold_28 rfl (by decide) ?_
    refine g_iload_n (pc' := 30) C dX3_hold_29 rfl rfl rfl ?_
    refine g_ishl (pc' := 31) C dX3_hold_30 rfl ?_
    refine g_ior (pc' := 32) C dX3_hold_31 rfl ?_
    refine g_goto (tgt := 43) C dX3_hold_32 (by decide) ?_
    refine g_sub (lv' := [(0, .ref (ad 0)), (2, .int x2), (4, .int (held x2.toNatClampNeg))]) [1, 3, 0] rfl ?_
    exact wvX3_hold_J43 C RT  hv)
def zX3_hold (cnt : Int32) (pwc : Int32) (held : Ar) (x1 : Int32) (x2 : Int32) (x3 : Int32) (X : String → (Ar) → Prop) : Prop := ((zX3_checkPlace cnt x1 (fun E => X E held)) ∨ (vX3_checkPlace cnt x1 (((zX3_checkMonth x2 (fun E => X E held)) ∨ (vX3_checkMonth x2 ((zX3_checkLeaf pwc x1 (fun E => X E held))))))))
set_option maxHeartbeats 4000000 in
set_option maxRecDepth 100000 in
theorem mtzX3_hold {l : Launch} (hfl : l.stackTraces = false) {γ : Gm} {ad : Nat → Nat} {seen : Int32} {cnt : Int32} {pwc : Int32} {par : Ar} {amt : Ar} {held : Ar} {clos : Ar} {seW : Ar} {seS : Ar} {leW : Ar} {leS : Ar} {x1 : Int32} {x2 : Int32} {x3 : Int32} {X : String → (Ar) → Prop} (hv : zX3_hold cnt pwc held x1 x2 x3 X) : CtX l γ yX3_hold cX3_hold 6 (some .boolean) 7 103 [.ref (ad 0), .int x1, .int x2, .int x3] (wB γ ad seen cnt pwc par amt held clos seW seS leW leS) (fun (E : String) (u : Ar) => X E u) (fun u => wB γ ad seen cnt pwc par amt u clos seW seS leW leS) := startX (by decide +kernel) (Nat.le_of_ble_eq_true rfl) (fun κ C hX => by
  show G l γ κ (wB γ ad seen cnt pwc par amt held clos seW seS leW leS) [(0, .ref (ad 0)), (1, .int x1), (2, .int x2), (3, .int x3)] 0 0 [] 0
  refine g_aload_n (pc' := 1) C dX3_hold_0 rfl rfl rfl ?_
  refine g_iload_n (pc' := 2) C dX3_hold_1 rfl rfl rfl ?_
  rcases hv with hv | hv
  · exact sameX C hX (run_VX (rest := []) C lk_X3_48 (mtzX3_checkPlace hfl hv) ⟨by decide, by decide⟩ rfl rfl rfl rfl (Nat.le_of_ble_eq_true rfl) ⟨hX.2.2.1, hX.2.2.2⟩ dX3_hold_2) (fun E u2 hx => ⟨held, hx, rfl⟩)
  · refine csV (pc' := 5) C (run_VV (rest := []) C lk_X3_48 (mtX3_checkPlace hv) ⟨by decide, by decide⟩ rfl rfl rfl rfl (Nat.le_of_ble_eq_true rfl) ⟨Nat.zero_le _, Nat.zero_le _⟩ dX3_hold_2) rfl (fun u2 hv => ?_)
    refine g_iload_n (pc' := 6) C dX3_hold_5 rfl rfl rfl ?_
    rcases hv with hv | hv
    · exact noneX C hX (run_SX (rest := []) C lk_X3_89 (mtzX3_checkMonth hfl hv) ⟨by decide, by decide⟩ rfl rfl (Nat.le_of_ble_eq_true rfl) ⟨hX.2.2.1, hX.2.2.2⟩ dX3_hold_6) (fun E u6 hx => ⟨held, hx, rfl⟩)
    · refine cnV (pc' := 9) C (run_SV (rest := []) C lk_X3_89 (mtX3_checkMonth hv) ⟨by decide, by decide⟩ rfl rfl (Nat.le_of_ble_eq_true rfl) ⟨Nat.zero_le _, Nat.zero_le _⟩ dX3_hold_6) rfl (fun u6 hv => ?_)
      refine g_aload_n (pc' := 10) C dX3_hold_9 rfl rfl rfl ?_
      refine g_iload_n (pc' := 11) C dX3_hold_10 rfl rfl rfl ?_
      exact sameX C hX (run_VX (rest := []) C lk_X3_99 (mtzX3_checkLeaf hfl hv) ⟨by decide, by decide⟩ rfl rfl rfl rfl (Nat.le_of_ble_eq_true rfl) ⟨hX.2.2.1, hX.2.2.2⟩ dX3_hold_11) (fun E u11 hx => ⟨held, hx, rfl⟩))
def vX3_setSeason (seW : Ar) (x1 : Int32) (x2 : Int32) (Q : Int32 → (Ar) → Prop) : Prop := (vX3_checkMonth x1 ((vX3_checkUpTo x2 (100 : Int32) ((vX1_weigh seW x1 x2 (fun r16 u16 => (Q r16 u16)))))))
set_option maxHeartbeats 4000000 in
set_option maxRecDepth 100000 in
theorem mtX3_setSeason {l : Launch} {γ : Gm} {ad : Nat → Nat} {seen : Int32} {cnt : Int32} {pwc : Int32} {par : Ar} {amt : Ar} {held : Ar} {clos : Ar} {seW : Ar} {seS : Ar} {leW : Ar} {leS : Ar} {x1 : Int32} {x2 : Int32} {Q : Int32 → (Ar) → Prop} (hv : vX3_setSeason seW x1 x2 Q) : CtI l γ yX3_setSeason cX3_setSeason 3 .int 7 103 0 0 [.ref (ad 0), .int x1, .int x2] (wB γ ad seen cnt pwc par amt held clos seW seS leW leS) (fun (r : Int32) (u : Ar) => Q r u) (fun u => wB γ ad seen cnt pwc par amt held clos u seS leW leS) := startI (by decide +kernel) (Nat.le_of_ble_eq_true rfl) (fun κ C RT hR hnm => by
  show G l γ κ (wB γ ad seen cnt pwc par amt held clos seW seS leW leS) [(0, .ref (ad 0)), (1, .int x1), (2, .int x2)] 0 0 [] 0
  refine g_iload_n (pc' := 1) C dX3_setSeason_0 rfl rfl rfl ?_
  refine cnV (pc' := 4) C (run_SV (rest := []) C lk_X3_89 (mtX3_checkMonth hv) ⟨by decide, by decide⟩ rfl rfl (Nat.le_of_ble_eq_true rfl) ⟨Nat.zero_le _, Nat.zero_le _⟩ dX3_setSeason_1) rfl (fun u1 hv => ?_)
  refine g_iload_n (pc' := 5) C dX3_setSeason_4 rfl rfl rfl ?_
  refine g_bipush (pc' := 7) (v := (100 : Int32)) C dX3_setSeason_5 rfl (by decide) ?_
  refine cnV (pc' := 10) C (run_SV (rest := []) C lk_X3_95 (mtX3_checkUpTo hv) ⟨by decide, by decide⟩ rfl rfl (Nat.le_of_ble_eq_true rfl) ⟨Nat.zero_le _, Nat.zero_le _⟩ dX3_setSeason_7) rfl (fun u7 hv => ?_)
  refine g_aload_n (pc' := 11) C dX3_setSeason_10 rfl rfl rfl ?_
  refine gf_X3_33 (pc' := 14) C dX3_setSeason_11 rfl 0 rfl rfl ?_
  refine g_iload_n (pc' := 15) C dX3_setSeason_14 rfl rfl rfl ?_
  refine g_iload_n (pc' := 16) C dX3_setSeason_15 rfl rfl rfl ?_
  refine cfI (pc' := 19) C (run_VI (rest := []) C lk_X3_44 (mtX1_weigh hv) ⟨by decide, by decide⟩ rfl rfl rfl rfl (Nat.le_of_ble_eq_true rfl) ⟨Nat.zero_le _, Nat.zero_le _⟩ dX3_setSeason_16) rfl [5, 9, 10] [0, 1, 2, 3, 4, 6, 7, 8, 11, 12] [0, 1, 2, 3, 4, 10, 5, 6, 7, 11, 12, 8, 9] nd_BS5 di_BS5 (fun u16 => wB γ ad seen cnt pwc par amt held clos u16 seS leW leS) rfl rfl (fun _ => rfl) (fun r16 u16 hv => ?_)
  exact RT r16 u16 _ _ _ _ dX3_setSeason_19 rfl (by decide) (by decide) hv)
def zX3_setSeason (seW : Ar) (x1 : Int32) (x2 : Int32) (X : String → (Ar) → Prop) : Prop := ((zX3_checkMonth x1 (fun E => X E seW)) ∨ (vX3_checkMonth x1 ((zX3_checkUpTo x2 (100 : Int32) (fun E => X E seW)))))
set_option maxHeartbeats 4000000 in
set_option maxRecDepth 100000 in
theorem mtzX3_setSeason {l : Launch} (hfl : l.stackTraces = false) {γ : Gm} {ad : Nat → Nat} {seen : Int32} {cnt : Int32} {pwc : Int32} {par : Ar} {amt : Ar} {held : Ar} {clos : Ar} {seW : Ar} {seS : Ar} {leW : Ar} {leS : Ar} {x1 : Int32} {x2 : Int32} {X : String → (Ar) → Prop} (hv : zX3_setSeason seW x1 x2 X) : CtX l γ yX3_setSeason cX3_setSeason 3 (some .int) 7 103 [.ref (ad 0), .int x1, .int x2] (wB γ ad seen cnt pwc par amt held clos seW seS leW leS) (fun (E : String) (u : Ar) => X E u) (fun u => wB γ ad seen cnt pwc par amt held clos u seS leW leS) := startX (by decide +kernel) (Nat.le_of_ble_eq_true rfl) (fun κ C hX => by
  show G l γ κ (wB γ ad seen cnt pwc par amt held clos seW seS leW leS) [(0, .ref (ad 0)), (1, .int x1), (2, .int x2)] 0 0 [] 0
  refine g_iload_n (pc' := 1) C dX3_setSeason_0 rfl rfl rfl ?_
  rcases hv with hv | hv
  · exact noneX C hX (run_SX (rest := []) C lk_X3_89 (mtzX3_checkMonth hfl hv) ⟨by decide, by decide⟩ rfl rfl (Nat.le_of_ble_eq_true rfl) ⟨hX.2.2.1, hX.2.2.2⟩ dX3_setSeason_1) (fun E u1 hx => ⟨seW, hx, rfl⟩)
  · refine cnV (pc' := 4) C (run_SV (rest := []) C lk_X3_89 (mtX3_checkMonth hv) ⟨by decide, by decide⟩ rfl rfl (Nat.le_of_ble_eq_true rfl) ⟨Nat.zero_le _, Nat.zero_le _⟩ dX3_setSeason_1) rfl (fun u1 hv => ?_)
    refine g_iload_n (pc' := 5) C dX3_setSeason_4 rfl rfl rfl ?_
    refine g_bipush (pc' := 7) (v := (100 : Int32)) C dX3_setSeason_5 rfl (by decide) ?_
    exact noneX C hX (run_SX (rest := []) C lk_X3_95 (mtzX3_checkUpTo hfl hv) ⟨by decide, by decide⟩ rfl rfl (Nat.le_of_ble_eq_true rfl) ⟨hX.2.2.1, hX.2.2.2⟩ dX3_setSeason_7) (fun E u7 hx => ⟨seW, hx, rfl⟩))
def vX3_freeAmong (held : Ar) (clos : Ar) (x1 : Int32) (x2 : Int32) (x3 : Int32) (Q : Int32 → Prop) : Prop := (vp_in x3 12 ∧ (vp_in x2 3 ∧ (Q ((x1 &&& ((held x3.toNatClampNeg) ^^^ (-1 : Int32))) &&& ((clos x2.toNatClampNeg) ^^^ (-1 : Int32))))))
set_option maxHeartbeats 4000000 in
set_option maxRecDepth 100000 in
theorem mtX3_freeAmong {l : Launch} {γ : Gm} {ad : Nat → Nat} {seen : Int32} {cnt : Int32} {pwc : Int32} {par : Ar} {amt : Ar} {held : Ar} {clos : Ar} {seW : Ar} {seS : Ar} {leW : Ar} {leS : Ar} {x1 : Int32} {x2 : Int32} {x3 : Int32} {Q : Int32 → Prop} (hv : vX3_freeAmong held clos x1 x2 x3 Q) : CtI l γ yX3_freeAmong cX3_freeAmong 4 .int 0 0 0 0 [.ref (ad 0), .int x1, .int x2, .int x3] (wB γ ad seen cnt pwc par amt held clos seW seS leW leS) (fun (r : Int32) (_ : Unit) => Q r) (fun _ => wB γ ad seen cnt pwc par amt held clos seW seS leW leS) := startI (by decide +kernel) (Nat.le_of_ble_eq_true rfl) (fun κ C RT hR hnm => by
  show G l γ κ (wB γ ad seen cnt pwc par amt held clos seW seS leW leS) [(0, .ref (ad 0)), (1, .int x1), (2, .int x2), (3, .int x3)] 0 0 [] 0
  refine g_iload_n (pc' := 1) C dX3_freeAmong_0 rfl rfl rfl ?_
  refine g_aload_n (pc' := 2) C dX3_freeAmong_1 rfl rfl rfl ?_
  refine gf_X3_23 (pc' := 5) C dX3_freeAmong_2 rfl 0 rfl rfl ?_
  refine g_iload_n (pc' := 6) C dX3_freeAmong_5 rfl rfl rfl ?_
  obtain ⟨hi, hv⟩ := hv
  refine g_iald (pc' := 7) C dX3_freeAmong_6 rfl 3 rfl hi ?_
  refine g_iconst (pc' := 8) (v := (-1 : Int32)) C dX3_freeAmong_7 rfl (by decide) ?_
  refine g_ixor (pc' := 9) C dX3_freeAmong_8 rfl ?_
  refine g_iand (pc' := 10) C dX3_freeAmong_9 rfl ?_
  refine g_aload_n (pc' := 11) C dX3_freeAmong_10 rfl rfl rfl ?_
  refine gf_X3_27 (pc' := 14) C dX3_freeAmong_11 rfl 0 rfl rfl ?_
  refine g_iload_n (pc' := 15) C dX3_freeAmong_14 rfl rfl rfl ?_
  obtain ⟨hi, hv⟩ := hv
  refine g_iald (pc' := 16) C dX3_freeAmong_15 rfl 4 rfl hi ?_
  refine g_iconst (pc' := 17) (v := (-1 : Int32)) C dX3_freeAmong_16 rfl (by decide) ?_
  refine g_ixor (pc' := 18) C dX3_freeAmong_17 rfl ?_
  refine g_iand (pc' := 19) C dX3_freeAmong_18 rfl ?_
  exact RT ((x1 &&& ((held x3.toNatClampNeg) ^^^ (-1 : Int32))) &&& ((clos x2.toNatClampNeg) ^^^ (-1 : Int32))) () _ _ _ _ dX3_freeAmong_19 rfl (by decide) (by decide) hv)
def vX3_restOf (amt : Ar) (held : Ar) (clos : Ar) (x1 : Int32) (x2 : Int32) (x3 : Int32) (x4 : Int32) (Q : Int32 → Prop) : Prop := (vX3_freeAmong held clos x3 x2 x4 (fun r6 => (vX0_sumOver amt x2 (x3 &&& (r6 ^^^ (-1 : Int32))) (2 : Int32) x4 (fun r25 => (Q (x1 - r25))))))
set_option maxHeartbeats 4000000 in
set_option maxRecDepth 100000 in
theorem mtX3_restOf {l : Launch} {γ : Gm} {ad : Nat → Nat} {seen : Int32} {cnt : Int32} {pwc : Int32} {par : Ar} {amt : Ar} {held : Ar} {clos : Ar} {seW : Ar} {seS : Ar} {leW : Ar} {leS : Ar} {x1 : Int32} {x2 : Int32} {x3 : Int32} {x4 : Int32} {Q : Int32 → Prop} (hv : vX3_restOf amt held clos x1 x2 x3 x4 Q) : CtI l γ yX3_restOf cX3_restOf 6 .int 4 97 0 0 [.ref (ad 0), .int x1, .int x2, .int x3, .int x4] (wB γ ad seen cnt pwc par amt held clos seW seS leW leS) (fun (r : Int32) (_ : Unit) => Q r) (fun _ => wB γ ad seen cnt pwc par amt held clos seW seS leW leS) := startI (by decide +kernel) (Nat.le_of_ble_eq_true rfl) (fun κ C RT hR hnm => by
  show G l γ κ (wB γ ad seen cnt pwc par amt held clos seW seS leW leS) [(0, .ref (ad 0)), (1, .int x1), (2, .int x2), (3, .int x3), (4, .int x4)] 0 0 [] 0
  refine g_iload_n (pc' := 1) C dX3_restOf_0 rfl rfl rfl ?_
  refine g_aload_n (pc' := 2) C dX3_restOf_1 rfl rfl rfl ?_
  refine g_iload_n (pc' := 3) C dX3_restOf_2 rfl rfl rfl ?_
  refine g_iload_n (pc' := 4) C dX3_restOf_3 rfl rfl rfl ?_
  refine g_iload (pc' := 6) C dX3_restOf_4 rfl rfl ?_
  refine csI (pc' := 9) C (run_VI (rest := [.int x3]) C lk_X3_174 (mtX3_freeAmong hv) ⟨by decide, by decide⟩ rfl rfl rfl rfl (Nat.le_of_ble_eq_true rfl) ⟨Nat.zero_le _, Nat.zero_le _⟩ dX3_restOf_6) rfl (fun r6 u6 hv => ?_)
  refine g_iconst (pc' := 10) (v := (-1 : Int32)) C dX3_restOf_9 rfl (by decide) ?_
  refine g_ixor (pc' := 11) C dX3_restOf_10 rfl ?_
  refine g_iand (pc' := 12) C dX3_restOf_11 rfl ?_
  refine g_istore (pc' := 14) (lv' := [(5, .int (x3 &&& (r6 ^^^ (-1 : Int32)))), (0, .ref (ad 0)), (1, .int x1), (2, .int x2), (3, .int x3), (4, .int x4)]) C dX3_restOf_12 rfl (by decide) rfl ?_
  refine g_iload_n (pc' := 15) C dX3_restOf_14 rfl rfl rfl ?_
  refine g_aload_n (pc' := 16) C dX3_restOf_15 rfl rfl rfl ?_
  refine gf_X3_19 (pc' := 19) C dX3_restOf_16 rfl 0 rfl rfl ?_
  refine g_iload_n (pc' := 20) C dX3_restOf_19 rfl rfl rfl ?_
  refine g_iload (pc' := 22) C dX3_restOf_20 rfl rfl ?_
  refine g_iconst (pc' := 23) (v := (2 : Int32)) C dX3_restOf_22 rfl (by decide) ?_
  refine g_iload (pc' := 25) C dX3_restOf_23 rfl rfl ?_
  refine cfI (pc' := 28) C (run_VI (rest := [.int x1]) C lk_X3_151 (mtX0_sumOver hv) ⟨by decide, by decide⟩ rfl rfl rfl rfl (Nat.le_of_ble_eq_true rfl) ⟨Nat.zero_le _, Nat.zero_le _⟩ dX3_restOf_25) rfl [2, 8] [0, 1, 3, 4, 5, 6, 7, 9, 10, 11, 12] [0, 1, 11, 2, 3, 4, 5, 6, 12, 7, 8, 9, 10] nd_BC2 di_BC2 (fun u25 => wB γ ad seen cnt pwc par amt held clos seW seS leW leS) rfl rfl (fun _ => rfl) (fun r25 u25 hv => ?_)
  refine g_isub (pc' := 29) C dX3_restOf_28 rfl ?_
  exact RT (x1 - r25) () _ _ _ _ dX3_restOf_29 rfl (by decide) (by decide) hv)
def vX3_checkSpreadable (amt : Ar) (held : Ar) (clos : Ar) (x1 : Int32) (x2 : Int32) (x3 : Int32) (x4 : Int32) (Q : Prop) : Prop := (vX3_freeAmong held clos x2 x1 x3 (fun r4 => ((¬ r4 = (0 : Int32) → (vX3_restOf amt held clos x4 x1 x2 x3 (fun r26 => (((0 : Int32) ≤ r26 → Q) ∧ (¬ (0 : Int32) ≤ r26 → False))))) ∧ (r4 = (0 : Int32) → False))))
set_option maxHeartbeats 4000000 in
set_option maxRecDepth 100000 in
theorem mtX3_checkSpreadable {l : Launch} {γ : Gm} {ad : Nat → Nat} {seen : Int32} {cnt : Int32} {pwc : Int32} {par : Ar} {amt : Ar} {held : Ar} {clos : Ar} {seW : Ar} {seS : Ar} {leW : Ar} {leS : Ar} {x1 : Int32} {x2 : Int32} {x3 : Int32} {x4 : Int32} {Q : Prop} (hv : vX3_checkSpreadable amt held clos x1 x2 x3 x4 Q) : CtV l γ yX3_checkSpreadable cX3_checkSpreadable 5 6 122 0 0 [.ref (ad 0), .int x1, .int x2, .int x3, .int x4] (wB γ ad seen cnt pwc par amt held clos seW seS leW leS) (fun (_ : Unit) => Q) (fun _ => wB γ ad seen cnt pwc par amt held clos seW seS leW leS) := startV (by decide +kernel) (Nat.le_of_ble_eq_true rfl) (fun κ C RT hR hnm => by
  show G l γ κ (wB γ ad seen cnt pwc par amt held clos seW seS leW leS) [(0, .ref (ad 0)), (1, .int x1), (2, .int x2), (3, .int x3), (4, .int x4)] 0 0 [] 0
  refine g_aload_n (pc' := 1) C dX3_checkSpreadable_0 rfl rfl rfl ?_
  refine g_iload_n (pc' := 2) C dX3_checkSpreadable_1 rfl rfl rfl ?_
  refine g_iload_n (pc' := 3) C dX3_checkSpreadable_2 rfl rfl rfl ?_
  refine g_iload_n (pc' := 4) C dX3_checkSpreadable_3 rfl rfl rfl ?_
  refine csI (pc' := 7) C (run_VI (rest := []) C lk_X3_174 (mtX3_freeAmong hv) ⟨by decide, by decide⟩ rfl rfl rfl rfl (Nat.le_of_ble_eq_true rfl) ⟨Nat.zero_le _, Nat.zero_le _⟩ dX3_checkSpreadable_4) rfl (fun r4 u4 hv => ?_)
  obtain ⟨hv1, hv2⟩ := hv
  refine g_if_ne (pc' := 10) (tgt := 20) C dX3_checkSpreadable_7 rfl (by decide) (fun c => ?_) (fun c => ?_)
  · have hv := hv1 c
    refine g_aload_n (pc' := 21) C dX3_checkSpreadable_20 rfl rfl rfl ?_
    refine g_iload (pc' := 23) C dX3_checkSpreadable_21 rfl rfl ?_
    refine g_iload_n (pc' := 24) C dX3_checkSpreadable_23 rfl rfl rfl ?_
    refine g_iload_n (pc' := 25) C dX3_checkSpreadable_24 rfl rfl rfl ?_
    refine g_iload_n (pc' := 26) C dX3_checkSpreadable_25 rfl rfl rfl ?_
    refine csI (pc' := 29) C (run_VI (rest := []) C lk_X3_179 (mtX3_restOf hv) ⟨by decide, by decide⟩ rfl rfl rfl rfl (Nat.le_of_ble_eq_true rfl) ⟨Nat.zero_le _, Nat.zero_le _⟩ dX3_checkSpreadable_26) rfl (fun r26 u26 hv => ?_)
    obtain ⟨hv1, hv2⟩ := hv
    refine g_if_ge (pc' := 32) (tgt := 42) C dX3_checkSpreadable_29 rfl (by decide) (fun c => ?_) (fun c => ?_)
    · have hv := hv1 c
      exact RT () _ _ _ _ dX3_checkSpreadable_42 (by decide) (by decide) hv
    · have hv := hv2 c
      exact hv.elim
  · have hv := hv2 c
    exact hv.elim)
def zX3_checkSpreadable (amt : Ar) (held : Ar) (clos : Ar) (x1 : Int32) (x2 : Int32) (x3 : Int32) (x4 : Int32) (X : String → Prop) : Prop := (vX3_freeAmong held clos x2 x1 x3 (fun r4 => ((¬ r4 = (0 : Int32) → (vX3_restOf amt held clos x4 x1 x2 x3 (fun r26 => (((0 : Int32) ≤ r26 → False) ∧ (¬ (0 : Int32) ≤ r26 → (X eIS)))))) ∧ (r4 = (0 : Int32) → (X eIS)))))
set_option maxHeartbeats 4000000 in
set_option maxRecDepth 100000 in
theorem mtzX3_checkSpreadable {l : Launch} (hfl : l.stackTraces = false) {γ : Gm} {ad : Nat → Nat} {seen : Int32} {cnt : Int32} {pwc : Int32} {par : Ar} {amt : Ar} {held : Ar} {clos : Ar} {seW : Ar} {seS : Ar} {leW : Ar} {leS : Ar} {x1 : Int32} {x2 : Int32} {x3 : Int32} {x4 : Int32} {X : String → Prop} (hv : zX3_checkSpreadable amt held clos x1 x2 x3 x4 X) : CtX l γ yX3_checkSpreadable cX3_checkSpreadable 5 none 6 122 [.ref (ad 0), .int x1, .int x2, .int x3, .int x4] (wB γ ad seen cnt pwc par amt held clos seW seS leW leS) (fun (E : String) (_ : Unit) => X E) (fun _ => wB γ ad seen cnt pwc par amt held clos seW seS leW leS) := startX (by decide +kernel) (Nat.le_of_ble_eq_true rfl) (fun κ C hX => by
  show G l γ κ (wB γ ad seen cnt pwc par amt held clos seW seS leW leS) [(0, .ref (ad 0)), (1, .int x1), (2, .int x2), (3, .int x3), (4, .int x4)] 0 0 [] 0
  refine g_aload_n (pc' := 1) C dX3_checkSpreadable_0 rfl rfl rfl ?_
  refine g_iload_n (pc' := 2) C dX3_checkSpreadable_1 rfl rfl rfl ?_
  refine g_iload_n (pc' := 3) C dX3_checkSpreadable_2 rfl rfl rfl ?_
  refine g_iload_n (pc' := 4) C dX3_checkSpreadable_3 rfl rfl rfl ?_
  refine csI (pc' := 7) C (run_VI (rest := []) C lk_X3_174 (mtX3_freeAmong hv) ⟨by decide, by decide⟩ rfl rfl rfl rfl (Nat.le_of_ble_eq_true rfl) ⟨Nat.zero_le _, Nat.zero_le _⟩ dX3_checkSpreadable_4) rfl (fun r4 u4 hv => ?_)
  obtain ⟨hv1, hv2⟩ := hv
  refine g_if_ne (pc' := 10) (tgt := 20) C dX3_checkSpreadable_7 rfl (by decide) (fun c => ?_) (fun c => ?_)
  · have hv := hv1 c
    refine g_aload_n (pc' := 21) C dX3_checkSpreadable_20 rfl rfl rfl ?_
    refine g_iload (pc' := 23) C dX3_checkSpreadable_21 rfl rfl ?_
    refine g_iload_n (pc' := 24) C dX3_checkSpreadable_23 rfl rfl rfl ?_
    refine g_iload_n (pc' := 25) C dX3_checkSpreadable_24 rfl rfl rfl ?_
    refine g_iload_n (pc' := 26) C dX3_checkSpreadable_25 rfl rfl rfl ?_
    refine csI (pc' := 29) C (run_VI (rest := []) C lk_X3_179 (mtX3_restOf hv) ⟨by decide, by decide⟩ rfl rfl rfl rfl (Nat.le_of_ble_eq_true rfl) ⟨Nat.zero_le _, Nat.zero_le _⟩ dX3_checkSpreadable_26) rfl (fun r26 u26 hv => ?_)
    obtain ⟨hv1, hv2⟩ := hv
    refine g_if_ge (pc' := 32) (tgt := 42) C dX3_checkSpreadable_29 rfl (by decide) (fun c => ?_) (fun c => ?_)
    · have hv := hv1 c
      exact hv.elim
    · have hv := hv2 c
      exact g_throw hfl C hX () (th_eIS (List.mem_of_getElem? (i := 8) rfl)) (by decide) dX3_checkSpreadable_32 dX3_checkSpreadable_35 dX3_checkSpreadable_36 dX3_checkSpreadable_38 dX3_checkSpreadable_41 rfl hv
  · have hv := hv2 c
    exact g_throw hfl C hX () (th_eIS (List.mem_of_getElem? (i := 7) rfl)) (by decide) dX3_checkSpreadable_10 dX3_checkSpreadable_13 dX3_checkSpreadable_14 dX3_checkSpreadable_16 dX3_checkSpreadable_19 rfl hv)
def vX3_weighLeaves_J72 (amt : Ar) (leW : Ar) (x1 : Int32) (x2 : Int32) (x3 : Int32) (x5 : Int32) (x6 : Int32) (x7 : Int32) (K30 : Int32 → Ar → Prop) (Q : (Ar) → Prop) : Prop := (vX1_weigh leW x6 x7 (fun r80 u80 => (K30 (x6 + (1 : Int32)) u80)))
set_option maxHeartbeats 4000000 in
set_option maxRecDepth 100000 in
theorem wvX3_weighLeaves_J72 {l : Launch} {γ : Gm} {κ : Kx} {ad : Nat → Nat} {seen : Int32} {cnt : Int32} {pwc : Int32} {par : Ar} {amt : Ar} {held : Ar} {clos : Ar} {seW : Ar} {seS : Ar} {leW : Ar} {leS : Ar} {x1 : Int32} {x2 : Int32} {x3 : Int32} {x5 : Int32} {x6 : Int32} {x7 : Int32} {K30 : Int32 → Ar → Prop} {Q : (Ar) → Prop} (C : Ok γ κ cX3_weighLeaves 8 RX3 4 97) (RT : RtV l γ κ cX3_weighLeaves 0 0 (fun (u : Ar) => Q u) (fun u => wB γ ad seen cnt pwc par amt held clos seW seS u leS)) (hK30 : ∀ (x6 : Int32) (leW : Ar), K30 x6 leW → G l γ κ (wB γ ad seen cnt pwc par amt held clos seW seS leW leS) [(0, .ref (ad 0)), (1, .int x1), (2, .int x2), (3, .int x3), (5, .int x5), (6, .int x6)] 0 0 [] 30) (hv : vX3_weighLeaves_J72 amt leW x1 x2 x3 x5 x6 x7 K30 Q) : G l γ κ (wB γ ad seen cnt pwc par amt held clos seW seS leW leS) [(0, .ref (ad 0)), (1, .int x1), (2, .int x2), (3, .int x3), (5, .int x5), (6, .int x6), (7, .int x7)] 0 0 [] 72 := by
  refine g_aload_n (pc' := 73) C dX3_weighLeaves_72 rfl rfl rfl ?_
  refine gf_X3_37 (pc' := 76) C dX3_weighLeaves_73 rfl 0 rfl rfl ?_
  refine g_iload (pc' := 78) C dX3_weighLeaves_76 rfl rfl ?_
  refine g_iload (pc' := 80) C dX3_weighLeaves_78 rfl rfl ?_
  refine cfI (pc' := 83) C (run_VI (rest := []) C lk_X3_44 (mtX1_weigh hv) ⟨by decide, by decide⟩ rfl rfl rfl rfl (Nat.le_of_ble_eq_true rfl) ⟨Nat.zero_le _, Nat.zero_le _⟩ dX3_weighLeaves_80) rfl [6, 11, 12] [0, 1, 2, 3, 4, 5, 7, 8, 9, 10] [0, 1, 2, 3, 4, 5, 10, 6, 7, 8, 9, 11, 12] nd_BS6 di_BS6 (fun u80 => wB γ ad seen cnt pwc par amt held clos seW seS u80 leS) rfl rfl (fun _ => rfl) (fun r80 u80 hv => ?_)
  refine g_pop (pc' := 84) C dX3_weighLeaves_83 rfl rfl ?_
  refine g_iinc (pc' := 87) (v := (x6 + (1 : Int32))) (lv' := [(6, .int (x6 + (1 : Int32))), (0, .ref (ad 0)), (1, .int x1), (2, .int x2), (3, .int x3), (5, .int x5), (7, .int x7)]) C dX3_weighLeaves_84 rfl rfl rfl (by decide) rfl ?_
  refine g_goto (tgt := 30) C dX3_weighLeaves_87 (by decide) ?_
  refine g_sub (lv' := [(0, .ref (ad 0)), (1, .int x1), (2, .int x2), (3, .int x3), (5, .int x5), (6, .int (x6 + (1 : Int32)))]) [1, 2, 3, 4, 5, 0] rfl ?_
  exact hK30 _ _ hv
def vX3_weighLeaves_J70 (amt : Ar) (leW : Ar) (x1 : Int32) (x2 : Int32) (x3 : Int32) (x5 : Int32) (x6 : Int32) (s0 : Int32) (K30 : Int32 → Ar → Prop) (Q : (Ar) → Prop) : Prop := (vX3_weighLeaves_J72 amt leW x1 x2 x3 x5 x6 s0 K30 Q)
set_option maxHeartbeats 4000000 in
set_option maxRecDepth 100000 in
theorem wvX3_weighLeaves_J70 {l : Launch} {γ : Gm} {κ : Kx} {ad : Nat → Nat} {seen : Int32} {cnt : Int32} {pwc : Int32} {par : Ar} {amt : Ar} {held : Ar} {clos : Ar} {seW : Ar} {seS : Ar} {leW : Ar} {leS : Ar} {x1 : Int32} {x2 : Int32} {x3 : Int32} {x5 : Int32} {x6 : Int32} {s0 : Int32} {K30 : Int32 → Ar → Prop} {Q : (Ar) → Prop} (C : Ok γ κ cX3_weighLeaves 8 RX3 4 97) (RT : RtV l γ κ cX3_weighLeaves 0 0 (fun (u : Ar) => Q u) (fun u => wB γ ad seen cnt pwc par amt held clos seW seS u leS)) (hK30 : ∀ (x6 : Int32) (leW : Ar), K30 x6 leW → G l γ κ (wB γ ad seen cnt pwc par amt held clos seW seS leW leS) [(0, .ref (ad 0)), (1, .int x1), (2, .int x2), (3, .int x3), (5, .int x5), (6, .int x6)] 0 0 [] 30) (hv : vX3_weighLeaves_J70 amt leW x1 x2 x3 x5 x6 s0 K30 Q) : G l γ κ (wB γ ad seen cnt pwc par amt held clos seW seS leW leS) [(0, .ref (ad 0)), (1, .int x1), (2, .int x2), (3, .int x3), (5, .int x5), (6, .int x6)] 0 0 [.int s0] 70 := by
  refine g_istore (pc' := 72) (lv' := [(7, .int s0), (0, .ref (ad 0)), (1, .int x1), (2, .int x2), (3, .int x3), (5, .int x5), (6, .int x6)]) C dX3_weighLeaves_70 rfl (by decide) rfl ?_
  refine g_sub (lv' := [(0, .ref (ad 0)), (1, .int x1), (2, .int x2), (3, .int x3), (5, .int x5), (6, .int x6), (7, .int s0)]) [1, 2, 3, 4, 5, 6, 0] rfl ?_
  exact wvX3_weighLeaves_J72 C RT hK30 hv
def vX3_weighLeaves_L30 (amt : Ar) (x1 : Int32) (x2 : Int32) (x3 : Int32) (x5 : Int32) (Q : (Ar) → Prop) : Nat → Int32 → Ar → Prop
  | 0, _, _ => False
  | n + 1, x6, leW => (((10 : Int32) ≤ x6 → (Q leW)) ∧ (¬ (10 : Int32) ≤ x6 → (vX3_isIn x2 x6 (fun r43 => ((r43 = (0 : Int32) → (vX3_weighLeaves_J72 amt leW x1 x2 x3 x5 x6 (0 : Int32) (vX3_weighLeaves_L30 amt x1 x2 x3 x5 Q n) Q)) ∧ (¬ r43 = (0 : Int32) → ((x5 = (0 : Int32) → (vX0_at amt x1 x6 (2 : Int32) x3 (fun r67 => (vX3_weighLeaves_J70 amt leW x1 x2 x3 x5 x6 r67 (vX3_weighLeaves_L30 amt x1 x2 x3 x5 Q n) Q)))) ∧ (¬ x5 = (0 : Int32) → (vX3_weighLeaves_J70 amt leW x1 x2 x3 x5 x6 (1 : Int32) (vX3_weighLeaves_L30 amt x1 x2 x3 x5 Q n) Q)))))))))
set_option maxHeartbeats 4000000 in
set_option maxRecDepth 100000 in
theorem wvX3_weighLeaves_L30 {l : Launch} {γ : Gm} {κ : Kx} {ad : Nat → Nat} {seen : Int32} {cnt : Int32} {pwc : Int32} {par : Ar} {amt : Ar} {held : Ar} {clos : Ar} {seW : Ar} {seS : Ar} {leS : Ar} {x1 : Int32} {x2 : Int32} {x3 : Int32} {x5 : Int32} {Q : (Ar) → Prop} (C : Ok γ κ cX3_weighLeaves 8 RX3 4 97) (RT : RtV l γ κ cX3_weighLeaves 0 0 (fun (u : Ar) => Q u) (fun u => wB γ ad seen cnt pwc par amt held clos seW seS u leS))  : ∀ (n : Nat) (x6 : Int32) (leW : Ar), vX3_weighLeaves_L30 amt x1 x2 x3 x5 Q n x6 leW → G l γ κ (wB γ ad seen cnt pwc par amt held clos seW seS leW leS) [(0, .ref (ad 0)), (1, .int x1), (2, .int x2), (3, .int x3), (5, .int x5), (6, .int x6)] 0 0 [] 30 := by
  intro n
  induction n with
  | zero => intro x6 leW hv; exact False.elim hv
  | succ n ih =>
    intro x6 leW hv
    refine g_iload (pc' := 32) C dX3_weighLeaves_30 rfl rfl ?_
    refine g_bipush (pc' := 34) (v := (10 : Int32)) C dX3_weighLeaves_32 rfl (by decide) ?_
    obtain ⟨hv1, hv2⟩ := hv
    refine g_icmp_ge (pc' := 37) (tgt := 90) C dX3_weighLeaves_34 rfl (by decide) (fun c => ?_) (fun c => ?_)
    · have hv := hv1 c
      exact RT leW _ _ _ _ dX3_weighLeaves_90 (by decide) (by decide) hv
    · have hv := hv2 c
      refine g_iconst (pc' := 38) (v := (0 : Int32)) C dX3_weighLeaves_37 rfl (by decide) ?_
      refine g_istore (pc' := 40) (lv' := [(7, .int (0 : Int32)), (0, .ref (ad 0)), (1, .int x1), (2, .int x2), (3, .int x3), (5, .int x5), (6, .int x6)]) C dX3_weighLeaves_38 rfl (by decide) rfl ?_
      refine g_iload_n (pc' := 41) C dX3_weighLeaves_40 rfl rfl rfl ?_
      refine g_iload (pc' := 43) C dX3_weighLeaves_41 rfl rfl ?_
      refine cnI (pc' := 46) C (run_SI (rest := []) C lk_X3_102 (mtX3_isIn hv) ⟨by decide, by decide⟩ rfl rfl (Nat.le_of_ble_eq_true rfl) ⟨Nat.zero_le _, Nat.zero_le _⟩ dX3_weighLeaves_43) rfl (fun r43 u43 hv => ?_)
      obtain ⟨hv1, hv2⟩ := hv
      refine g_if_eq (pc' := 49) (tgt := 72) C dX3_weighLeaves_46 rfl (by decide) (fun c => ?_) (fun c => ?_)
      · have hv := hv1 c
        refine g_sub (lv' := [(0, .ref (ad 0)), (1, .int x1), (2, .int x2), (3, .int x3), (5, .int x5), (6, .int x6), (7, .int (0 : Int32))]) [1, 2, 3, 4, 5, 6, 0] rfl ?_
        exact wvX3_weighLeaves_J72 C RT ih hv
      · have hv := hv2 c
        refine g_iload (pc' := 51) C dX3_weighLeaves_49 rfl rfl ?_
        obtain ⟨hv1, hv2⟩ := hv
        refine g_if_eq (pc' := 54) (tgt := 58) C dX3_weighLeaves_51 rfl (by decide) (fun c => ?_) (fun c => ?_)
        · have hv := hv1 c
          refine g_aload_n (pc' := 59) C dX3_weighLeaves_58 rfl rfl rfl ?_
          refine gf_X3_19 (pc' := 62) C dX3_weighLeaves_59 rfl 0 rfl rfl ?_
          refine g_iload_n (pc' := 63) C dX3_weighLeaves_62 rfl rfl rfl ?_
          refine g_iload (pc' := 65) C dX3_weighLeaves_63 rfl rfl ?_
          refine g_iconst (pc' := 66) (v := (2 : Int32)) C dX3_weighLeaves_65 rfl (by decide) ?_
          refine g_iload_n (pc' := 67) C dX3_weighLeaves_66 rfl rfl rfl ?_
          refine cfI (pc' := 70) C (run_VI (rest := []) C lk_X3_165 (mtX0_at hv) ⟨by decide, by decide⟩ rfl rfl rfl rfl (Nat.le_of_ble_eq_true rfl) ⟨Nat.zero_le _, Nat.zero_le _⟩ dX3_weighLeaves_67) rfl [2, 8] [0, 1, 3, 4, 5, 6, 7, 9, 10, 11, 12] [0, 1, 11, 2, 3, 4, 5, 6, 12, 7, 8, 9, 10] nd_BC2 di_BC2 (fun u67 => wB γ ad seen cnt pwc par amt held clos seW seS leW leS) rfl rfl (fun _ => rfl) (fun r67 u67 hv => ?_)
          refine g_sub (lv' := [(0, .ref (ad 0)), (1, .int x1), (2, .int x2), (3, .int x3), (5, .int x5), (6, .int x6)]) [1, 2, 3, 4, 5, 6] rfl ?_
          exact wvX3_weighLeaves_J70 C RT ih hv
        · have hv := hv2 c
          refine g_iconst (pc' := 55) (v := (1 : Int32)) C dX3_weighLeaves_54 rfl (by decide) ?_
          refine g_goto (tgt := 70) C dX3_weighLeaves_55 (by decide) ?_
          refine g_sub (lv' := [(0, .ref (ad 0)), (1, .int x1), (2, .int x2), (3, .int x3), (5, .int x5), (6, .int x6)]) [1, 2, 3, 4, 5, 6] rfl ?_
          exact wvX3_weighLeaves_J70 C RT ih hv
def vX3_weighLeaves (amt : Ar) (leW : Ar) (x1 : Int32) (x2 : Int32) (x3 : Int32) (x4 : Int32) (Q : (Ar) → Prop) : Prop := ((x4 = (1 : Int32) → (∃ n30 : Nat, vX3_weighLeaves_L30 amt x1 x2 x3 (1 : Int32) Q n30 (0 : Int32) leW)) ∧ (¬ x4 = (1 : Int32) → (vX0_sumOver amt x1 x2 (2 : Int32) x3 (fun r14 => ((¬ r14 = (0 : Int32) → (∃ n30 : Nat, vX3_weighLeaves_L30 amt x1 x2 x3 (0 : Int32) Q n30 (0 : Int32) leW)) ∧ (r14 = (0 : Int32) → (∃ n30 : Nat, vX3_weighLeaves_L30 amt x1 x2 x3 (1 : Int32) Q n30 (0 : Int32) leW)))))))
set_option maxHeartbeats 4000000 in
set_option maxRecDepth 100000 in
theorem mtX3_weighLeaves {l : Launch} {γ : Gm} {ad : Nat → Nat} {seen : Int32} {cnt : Int32} {pwc : Int32} {par : Ar} {amt : Ar} {held : Ar} {clos : Ar} {seW : Ar} {seS : Ar} {leW : Ar} {leS : Ar} {x1 : Int32} {x2 : Int32} {x3 : Int32} {x4 : Int32} {Q : (Ar) → Prop} (hv : vX3_weighLeaves amt leW x1 x2 x3 x4 Q) : CtV l γ yX3_weighLeaves cX3_weighLeaves 8 4 97 0 0 [.ref (ad 0), .int x1, .int x2, .int x3, .int x4] (wB γ ad seen cnt pwc par amt held clos seW seS leW leS) (fun (u : Ar) => Q u) (fun u => wB γ ad seen cnt pwc par amt held clos seW seS u leS) := startV (by decide +kernel) (Nat.le_of_ble_eq_true rfl) (fun κ C RT hR hnm => by
  show G l γ κ (wB γ ad seen cnt pwc par amt held clos seW seS leW leS) [(0, .ref (ad 0)), (1, .int x1), (2, .int x2), (3, .int x3), (4, .int x4)] 0 0 [] 0
  refine g_iload (pc' := 2) C dX3_weighLeaves_0 rfl rfl ?_
  refine g_iconst (pc' := 3) (v := (1 : Int32)) C dX3_weighLeaves_2 rfl (by decide) ?_
  obtain ⟨hv1, hv2⟩ := hv
  refine g_icmp_eq (pc' := 6) (tgt := 20) C dX3_weighLeaves_3 rfl (by decide) (fun c => ?_) (fun c => ?_)
  · have hv := hv1 c
    refine g_iconst (pc' := 21) (v := (1 : Int32)) C dX3_weighLeaves_20 rfl (by decide) ?_
    refine g_goto (tgt := 25) C dX3_weighLeaves_21 (by decide) ?_
    refine g_istore (pc' := 27) (lv' := [(5, .int (1 : Int32)), (0, .ref (ad 0)), (1, .int x1), (2, .int x2), (3, .int x3), (4, .int x4)]) C dX3_weighLeaves_25 rfl (by decide) rfl ?_
    refine g_iconst (pc' := 28) (v := (0 : Int32)) C dX3_weighLeaves_27 rfl (by decide) ?_
    refine g_istore (pc' := 30) (lv' := [(6, .int (0 : Int32)), (5, .int (1 : Int32)), (0, .ref (ad 0)), (1, .int x1), (2, .int x2), (3, .int x3), (4, .int x4)]) C dX3_weighLeaves_28 rfl (by decide) rfl ?_
    refine g_sub (lv' := [(0, .ref (ad 0)), (1, .int x1), (2, .int x2), (3, .int x3), (5, .int (1 : Int32)), (6, .int (0 : Int32))]) [2, 3, 4, 5, 1, 0] rfl ?_
    obtain ⟨n30, hv⟩ := hv
    exact wvX3_weighLeaves_L30 C RT  n30 _ _ hv
  · have hv := hv2 c
    refine g_aload_n (pc' := 7) C dX3_weighLeaves_6 rfl rfl rfl ?_
    refine gf_X3_19 (pc' := 10) C dX3_weighLeaves_7 rfl 0 rfl rfl ?_
    refine g_iload_n (pc' := 11) C dX3_weighLeaves_10 rfl rfl rfl ?_
    refine g_iload_n (pc' := 12) C dX3_weighLeaves_11 rfl rfl rfl ?_
    refine g_iconst (pc' := 13) (v := (2 : Int32)) C dX3_weighLeaves_12 rfl (by decide) ?_
    refine g_iload_n (pc' := 14) C dX3_weighLeaves_13 rfl rfl rfl ?_
    refine cfI (pc' := 17) C (run_VI (rest := []) C lk_X3_151 (mtX0_sumOver hv) ⟨by decide, by decide⟩ rfl rfl rfl rfl (Nat.le_of_ble_eq_true rfl) ⟨Nat.zero_le _, Nat.zero_le _⟩ dX3_weighLeaves_14) rfl [2, 8] [0, 1, 3, 4, 5, 6, 7, 9, 10, 11, 12] [0, 1, 11, 2, 3, 4, 5, 6, 12, 7, 8, 9, 10] nd_BC2 di_BC2 (fun u14 => wB γ ad seen cnt pwc par amt held clos seW seS leW leS) rfl rfl (fun _ => rfl) (fun r14 u14 hv => ?_)
    obtain ⟨hv1, hv2⟩ := hv
    refine g_if_ne (pc' := 20) (tgt := 24) C dX3_weighLeaves_17 rfl (by decide) (fun c => ?_) (fun c => ?_)
    · have hv := hv1 c
      refine g_iconst (pc' := 25) (v := (0 : Int32)) C dX3_weighLeaves_24 rfl (by decide) ?_
      refine g_istore (pc' := 27) (lv' := [(5, .int (0 : Int32)), (0, .ref (ad 0)), (1, .int x1), (2, .int x2), (3, .int x3), (4, .int x4)]) C dX3_weighLeaves_25 rfl (by decide) rfl ?_
      refine g_iconst (pc' := 28) (v := (0 : Int32)) C dX3_weighLeaves_27 rfl (by decide) ?_
      refine g_istore (pc' := 30) (lv' := [(6, .int (0 : Int32)), (5, .int (0 : Int32)), (0, .ref (ad 0)), (1, .int x1), (2, .int x2), (3, .int x3), (4, .int x4)]) C dX3_weighLeaves_28 rfl (by decide) rfl ?_
      refine g_sub (lv' := [(0, .ref (ad 0)), (1, .int x1), (2, .int x2), (3, .int x3), (5, .int (0 : Int32)), (6, .int (0 : Int32))]) [2, 3, 4, 5, 1, 0] rfl ?_
      obtain ⟨n30, hv⟩ := hv
      exact wvX3_weighLeaves_L30 C RT  n30 _ _ hv
    · have hv := hv2 c
      refine g_iconst (pc' := 21) (v := (1 : Int32)) C dX3_weighLeaves_20 rfl (by decide) ?_
      refine g_goto (tgt := 25) C dX3_weighLeaves_21 (by decide) ?_
      refine g_istore (pc' := 27) (lv' := [(5, .int (1 : Int32)), (0, .ref (ad 0)), (1, .int x1), (2, .int x2), (3, .int x3), (4, .int x4)]) C dX3_weighLeaves_25 rfl (by decide) rfl ?_
      refine g_iconst (pc' := 28) (v := (0 : Int32)) C dX3_weighLeaves_27 rfl (by decide) ?_
      refine g_istore (pc' := 30) (lv' := [(6, .int (0 : Int32)), (5, .int (1 : Int32)), (0, .ref (ad 0)), (1, .int x1), (2, .int x2), (3, .int x3), (4, .int x4)]) C dX3_weighLeaves_28 rfl (by decide) rfl ?_
      refine g_sub (lv' := [(0, .ref (ad 0)), (1, .int x1), (2, .int x2), (3, .int x3), (5, .int (1 : Int32)), (6, .int (0 : Int32))]) [2, 3, 4, 5, 1, 0] rfl ?_
      obtain ⟨n30, hv⟩ := hv
      exact wvX3_weighLeaves_L30 C RT  n30 _ _ hv)
def vX3_spreadOver_L41 (held : Ar) (clos : Ar) (leW : Ar) (leS : Ar) (x1 : Int32) (x3 : Int32) (x6 : Int32) (Q : Int32 → (Ar × Ar × Ar) → Prop) : Nat → Int32 → Int32 → Ar → Prop
  | 0, _, _, _ => False
  | n + 1, x7, x8, amt => (((10 : Int32) ≤ x8 → (Q x7 (amt, leW, leS))) ∧ (¬ (10 : Int32) ≤ x8 → (vX3_isIn x6 x8 (fun r52 => ((r52 = (0 : Int32) → (vX3_spreadOver_L41 held clos leW leS x1 x3 x6 Q n x7 (x8 + (1 : Int32)) amt)) ∧ (¬ r52 = (0 : Int32) → (vX1_shareOf leS x8 (fun r64 => (vX0_put amt x1 x8 (2 : Int32) x3 r64 (fun r80 u80 => ((r64 = r80 → (vX3_spreadOver_L41 held clos leW leS x1 x3 x6 Q n (x7 + (0 : Int32)) (x8 + (1 : Int32)) u80)) ∧ (¬ r64 = r80 → (vX3_spreadOver_L41 held clos leW leS x1 x3 x6 Q n (x7 + (1 : Int32)) (x8 + (1 : Int32)) u80)))))))))))))
set_option maxHeartbeats 4000000 in
set_option maxRecDepth 100000 in
theorem wvX3_spreadOver_L41 {l : Launch} {γ : Gm} {κ : Kx} {ad : Nat → Nat} {seen : Int32} {cnt : Int32} {pwc : Int32} {par : Ar} {held : Ar} {clos : Ar} {seW : Ar} {seS : Ar} {leW : Ar} {leS : Ar} {x1 : Int32} {x3 : Int32} {x6 : Int32} {Q : Int32 → (Ar × Ar × Ar) → Prop} (C : Ok γ κ cX3_spreadOver 11 RX3 5 124) (RT : RtI l γ κ cX3_spreadOver .int 0 0 (fun (r : Int32) (u : Ar × Ar × Ar) => Q r u) (fun u => wB γ ad seen cnt pwc par u.1 held clos seW seS u.2.1 u.2.2))  : ∀ (n : Nat) (x7 : Int32) (x8 : Int32) (amt : Ar), vX3_spreadOver_L41 held clos leW leS x1 x3 x6 Q n x7 x8 amt → G l γ κ (wB γ ad seen cnt pwc par amt held clos seW seS leW leS) [(0, .ref (ad 0)), (1, .int x1), (3, .int x3), (6, .int x6), (7, .int x7), (8, .int x8)] 0 0 [] 41 := by
  intro n
  induction n with
  | zero => intro x7 x8 amt hv; exact False.elim hv
  | succ n ih =>
    intro x7 x8 amt hv
    refine g_iload (pc' := 43) C dX3_spreadOver_41 rfl rfl ?_
    refine g_bipush (pc' := 45) (v := (10 : Int32)) C dX3_spreadOver_43 rfl (by decide) ?_
    obtain ⟨hv1, hv2⟩ := hv
    refine g_icmp_ge (pc' := 48) (tgt := 108) C dX3_spreadOver_45 rfl (by decide) (fun c => ?_) (fun c => ?_)
    · have hv := hv1 c
      refine g_iload (pc' := 110) C dX3_spreadOver_108 rfl rfl ?_
      exact RT x7 (amt, leW, leS) _ _ _ _ dX3_spreadOver_110 rfl (by decide) (by decide) hv
    · have hv := hv2 c
      refine g_iload (pc' := 50) C dX3_spreadOver_48 rfl rfl ?_
      refine g_iload (pc' := 52) C dX3_spreadOver_50 rfl rfl ?_
      refine cnI (pc' := 55) C (run_SI (rest := []) C lk_X3_102 (mtX3_isIn hv) ⟨by decide, by decide⟩ rfl rfl (Nat.le_of_ble_eq_true rfl) ⟨Nat.zero_le _, Nat.zero_le _⟩ dX3_spreadOver_52) rfl (fun r52 u52 hv => ?_)
      obtain ⟨hv1, hv2⟩ := hv
      refine g_if_eq (pc' := 58) (tgt := 102) C dX3_spreadOver_55 rfl (by decide) (fun c => ?_) (fun c => ?_)
      · have hv := hv1 c
        refine g_iinc (pc' := 105) (v := (x8 + (1 : Int32))) (lv' := [(8, .int (x8 + (1 : Int32))), (0, .ref (ad 0)), (1, .int x1), (3, .int x3), (6, .int x6), (7, .int x7)]) C dX3_spreadOver_102 rfl rfl rfl (by decide) rfl ?_
        refine g_goto (tgt := 41) C dX3_spreadOver_105 (by decide) ?_
        refine g_sub (lv' := [(0, .ref (ad 0)), (1, .int x1), (3, .int x3), (6, .int x6), (7, .int x7), (8, .int (x8 + (1 : Int32)))]) [1, 2, 3, 4, 5, 0] rfl ?_
        exact ih _ _ _ hv
      · have hv := hv2 c
        refine g_aload_n (pc' := 59) C dX3_spreadOver_58 rfl rfl rfl ?_
        refine gf_X3_37 (pc' := 62) C dX3_spreadOver_59 rfl 0 rfl rfl ?_
        refine g_iload (pc' := 64) C dX3_spreadOver_62 rfl rfl ?_
        refine cfI (pc' := 67) C (run_VI (rest := []) C lk_X3_128 (mtX1_shareOf hv) ⟨by decide, by decide⟩ rfl rfl rfl rfl (Nat.le_of_ble_eq_true rfl) ⟨Nat.zero_le _, Nat.zero_le _⟩ dX3_spreadOver_64) rfl [6, 11, 12] [0, 1, 2, 3, 4, 5, 7, 8, 9, 10] [0, 1, 2, 3, 4, 5, 10, 6, 7, 8, 9, 11, 12] nd_BS6 di_BS6 (fun u64 => wB γ ad seen cnt pwc par amt held clos seW seS leW leS) rfl rfl (fun _ => rfl) (fun r64 u64 hv => ?_)
        refine g_istore (pc' := 69) (lv' := [(9, .int r64), (0, .ref (ad 0)), (1, .int x1), (3, .int x3), (6, .int x6), (7, .int x7), (8, .int x8)]) C dX3_spreadOver_67 rfl (by decide) rfl ?_
        refine g_aload_n (pc' := 70) C dX3_spreadOver_69 rfl rfl rfl ?_
        refine gf_X3_19 (pc' := 73) C dX3_spreadOver_70 rfl 0 rfl rfl ?_
        refine g_iload_n (pc' := 74) C dX3_spreadOver_73 rfl rfl rfl ?_
        refine g_iload (pc' := 76) C dX3_spreadOver_74 rfl rfl ?_
        refine g_iconst (pc' := 77) (v := (2 : Int32)) C dX3_spreadOver_76 rfl (by decide) ?_
        refine g_iload_n (pc' := 78) C dX3_spreadOver_77 rfl rfl rfl ?_
        refine g_iload (pc' := 80) C dX3_spreadOver_78 rfl rfl ?_
        refine cfI (pc' := 83) C (run_VI (rest := []) C lk_X3_108 (mtX0_put hv) ⟨by decide, by decide⟩ rfl rfl rfl rfl (Nat.le_of_ble_eq_true rfl) ⟨Nat.zero_le _, Nat.zero_le _⟩ dX3_spreadOver_80) rfl [2, 8] [0, 1, 3, 4, 5, 6, 7, 9, 10, 11, 12] [0, 1, 11, 2, 3, 4, 5, 6, 12, 7, 8, 9, 10] nd_BC2 di_BC2 (fun u80 => wB γ ad seen cnt pwc par u80 held clos seW seS leW leS) rfl rfl (fun _ => rfl) (fun r80 u80 hv => ?_)
        refine g_istore (pc' := 85) (lv' := [(10, .int r80), (9, .int r64), (0, .ref (ad 0)), (1, .int x1), (3, .int x3), (6, .int x6), (7, .int x7), (8, .int x8)]) C dX3_spreadOver_83 rfl (by decide) rfl ?_
        refine g_iload (pc' := 87) C dX3_spreadOver_85 rfl rfl ?_
        refine g_iload (pc' := 89) C dX3_spreadOver_87 rfl rfl ?_
        refine g_iload (pc' := 91) C dX3_spreadOver_89 rfl rfl ?_
        obtain ⟨hv1, hv2⟩ := hv
        refine g_icmp_eq (pc' := 94) (tgt := 98) C dX3_spreadOver_91 rfl (by decide) (fun c => ?_) (fun c => ?_)
        · have hv := hv1 c
          refine g_iconst (pc' := 99) (v := (0 : Int32)) C dX3_spreadOver_98 rfl (by decide) ?_
          refine g_iadd (pc' := 100) C dX3_spreadOver_99 rfl ?_
          refine g_istore (pc' := 102) (lv' := [(7, .int (x7 + (0 : Int32))), (10, .int r80), (9, .int r64), (0, .ref (ad 0)), (1, .int x1), (3, .int x3), (6, .int x6), (8, .int x8)]) C dX3_spreadOver_100 rfl (by decide) rfl ?_
          refine g_iinc (pc' := 105) (v := (x8 + (1 : Int32))) (lv' := [(8, .int (x8 + (1 : Int32))), (7, .int (x7 + (0 : Int32))), (10, .int r80), (9, .int r64), (0, .ref (ad 0)), (1, .int x1), (3, .int x3), (6, .int x6)]) C dX3_spreadOver_102 rfl rfl rfl (by decide) rfl ?_
          refine g_goto (tgt := 41) C dX3_spreadOver_105 (by decide) ?_
          refine g_sub (lv' := [(0, .ref (ad 0)), (1, .int x1), (3, .int x3), (6, .int x6), (7, .int (x7 + (0 : Int32))), (8, .int (x8 + (1 : Int32)))]) [4, 5, 6, 7, 1, 0] rfl ?_
          exact ih _ _ _ hv
        · have hv := hv2 c
          refine g_iconst (pc' := 95) (v := (1 : Int32)) C dX3_spreadOver_94 rfl (by decide) ?_
          refine g_goto (tgt := 99) C dX3_spreadOver_95 (by decide) ?_
          refine g_iadd (pc' := 100) C dX3_spreadOver_99 rfl ?_
          refine g_istore (pc' := 102) (lv' := [(7, .int (x7 + (1 : Int32))), (10, .int r80), (9, .int r64), (0, .ref (ad 0)), (1, .int x1), (3, .int x3), (6, .int x6), (8, .int x8)]) C dX3_spreadOver_100 rfl (by decide) rfl ?_
          refine g_iinc (pc' := 105) (v := (x8 + (1 : Int32))) (lv' := [(8, .int (x8 + (1 : Int32))), (7, .int (x7 + (1 : Int32))), (10, .int r80), (9, .int r64), (0, .ref (ad 0)), (1, .int x1), (3, .int x3), (6, .int x6)]) C dX3_spreadOver_102 rfl rfl rfl (by decide) rfl ?_
          refine g_goto (tgt := 41) C dX3_spreadOver_105 (by decide) ?_
          refine g_sub (lv' := [(0, .ref (ad 0)), (1, .int x1), (3, .int x3), (6, .int x6), (7, .int (x7 + (1 : Int32))), (8, .int (x8 + (1 : Int32)))]) [4, 5, 6, 7, 1, 0] rfl ?_
          exact ih _ _ _ hv
def vX3_spreadOver (amt : Ar) (held : Ar) (clos : Ar) (leW : Ar) (leS : Ar) (x1 : Int32) (x2 : Int32) (x3 : Int32) (x4 : Int32) (x5 : Int32) (Q : Int32 → (Ar × Ar × Ar) → Prop) : Prop := (vX3_freeAmong held clos x2 x1 x3 (fun r4 => (vX3_weighLeaves amt leW x1 r4 x3 x5 (fun u16 => (vX3_restOf amt held clos x4 x1 x2 x3 (fun r29 => (vX1_divide u16 leS r29 (fun u32 => (∃ n41 : Nat, vX3_spreadOver_L41 held clos u16 u32 x1 x3 r4 Q n41 (0 : Int32) (0 : Int32) amt)))))))))
set_option maxHeartbeats 4000000 in
set_option maxRecDepth 100000 in
theorem mtX3_spreadOver {l : Launch} {γ : Gm} {ad : Nat → Nat} {seen : Int32} {cnt : Int32} {pwc : Int32} {par : Ar} {amt : Ar} {held : Ar} {clos : Ar} {seW : Ar} {seS : Ar} {leW : Ar} {leS : Ar} {x1 : Int32} {x2 : Int32} {x3 : Int32} {x4 : Int32} {x5 : Int32} {Q : Int32 → (Ar × Ar × Ar) → Prop} (hv : vX3_spreadOver amt held clos leW leS x1 x2 x3 x4 x5 Q) : CtI l γ yX3_spreadOver cX3_spreadOver 11 .int 5 124 0 0 [.ref (ad 0), .int x1, .int x2, .int x3, .int x4, .int x5] (wB γ ad seen cnt pwc par amt held clos seW seS leW leS) (fun (r : Int32) (u : Ar × Ar × Ar) => Q r u) (fun u => wB γ ad seen cnt pwc par u.1 held clos seW seS u.2.1 u.2.2) := startI (by decide +kernel) (Nat.le_of_ble_eq_true rfl) (fun κ C RT hR hnm => by
  show G l γ κ (wB γ ad seen cnt pwc par amt held clos seW seS leW leS) [(0, .ref (ad 0)), (1, .int x1), (2, .int x2), (3, .int x3), (4, .int x4), (5, .int x5)] 0 0 [] 0
  refine g_aload_n (pc' := 1) C dX3_spreadOver_0 rfl rfl rfl ?_
  refine g_iload_n (pc' := 2) C dX3_spreadOver_1 rfl rfl rfl ?_
  refine g_iload_n (pc' := 3) C dX3_spreadOver_2 rfl rfl rfl ?_
  refine g_iload_n (pc' := 4) C dX3_spreadOver_3 rfl rfl rfl ?_
  refine csI (pc' := 7) C (run_VI (rest := []) C lk_X3_174 (mtX3_freeAmong hv) ⟨by decide, by decide⟩ rfl rfl rfl rfl (Nat.le_of_ble_eq_true rfl) ⟨Nat.zero_le _, Nat.zero_le _⟩ dX3_spreadOver_4) rfl (fun r4 u4 hv => ?_)
  refine g_istore (pc' := 9) (lv' := [(6, .int r4), (0, .ref (ad 0)), (1, .int x1), (2, .int x2), (3, .int x3), (4, .int x4), (5, .int x5)]) C dX3_spreadOver_7 rfl (by decide) rfl ?_
  refine g_aload_n (pc' := 10) C dX3_spreadOver_9 rfl rfl rfl ?_
  refine g_iload_n (pc' := 11) C dX3_spreadOver_10 rfl rfl rfl ?_
  refine g_iload (pc' := 13) C dX3_spreadOver_11 rfl rfl ?_
  refine g_iload_n (pc' := 14) C dX3_spreadOver_13 rfl rfl rfl ?_
  refine g_iload (pc' := 16) C dX3_spreadOver_14 rfl rfl ?_
  refine csV (pc' := 19) C (run_VV (rest := []) C lk_X3_184 (mtX3_weighLeaves hv) ⟨by decide, by decide⟩ rfl rfl rfl rfl (Nat.le_of_ble_eq_true rfl) ⟨Nat.zero_le _, Nat.zero_le _⟩ dX3_spreadOver_16) rfl (fun u16 hv => ?_)
  refine g_aload_n (pc' := 20) C dX3_spreadOver_19 rfl rfl rfl ?_
  refine gf_X3_37 (pc' := 23) C dX3_spreadOver_20 rfl 0 rfl rfl ?_
  refine g_aload_n (pc' := 24) C dX3_spreadOver_23 rfl rfl rfl ?_
  refine g_iload (pc' := 26) C dX3_spreadOver_24 rfl rfl ?_
  refine g_iload_n (pc' := 27) C dX3_spreadOver_26 rfl rfl rfl ?_
  refine g_iload_n (pc' := 28) C dX3_spreadOver_27 rfl rfl rfl ?_
  refine g_iload_n (pc' := 29) C dX3_spreadOver_28 rfl rfl rfl ?_
  refine csI (pc' := 32) C (run_VI (rest := [.ref (ad 6)]) C lk_X3_179 (mtX3_restOf hv) ⟨by decide, by decide⟩ rfl rfl rfl rfl (Nat.le_of_ble_eq_true rfl) ⟨Nat.zero_le _, Nat.zero_le _⟩ dX3_spreadOver_29) rfl (fun r29 u29 hv => ?_)
  refine cfV (pc' := 35) C (run_VV (rest := []) C lk_X3_125 (mtX1_divide hv) ⟨by decide, by decide⟩ rfl rfl rfl rfl (Nat.le_of_ble_eq_true rfl) ⟨Nat.zero_le _, Nat.zero_le _⟩ dX3_spreadOver_32) rfl [6, 11, 12] [0, 1, 2, 3, 4, 5, 7, 8, 9, 10] [0, 1, 2, 3, 4, 5, 10, 6, 7, 8, 9, 11, 12] nd_BS6 di_BS6 (fun u32 => wB γ ad seen cnt pwc par amt held clos seW seS u16 u32) rfl rfl (fun _ => rfl) (fun u32 hv => ?_)
  refine g_iconst (pc' := 36) (v := (0 : Int32)) C dX3_spreadOver_35 rfl (by decide) ?_
  refine g_istore (pc' := 38) (lv' := [(7, .int (0 : Int32)), (6, .int r4), (0, .ref (ad 0)), (1, .int x1), (2, .int x2), (3, .int x3), (4, .int x4), (5, .int x5)]) C dX3_spreadOver_36 rfl (by decide) rfl ?_
  refine g_iconst (pc' := 39) (v := (0 : Int32)) C dX3_spreadOver_38 rfl (by decide) ?_
  refine g_istore (pc' := 41) (lv' := [(8, .int (0 : Int32)), (7, .int (0 : Int32)), (6, .int r4), (0, .ref (ad 0)), (1, .int x1), (2, .int x2), (3, .int x3), (4, .int x4), (5, .int x5)]) C dX3_spreadOver_39 rfl (by decide) rfl ?_
  refine g_sub (lv' := [(0, .ref (ad 0)), (1, .int x1), (3, .int x3), (6, .int r4), (7, .int (0 : Int32)), (8, .int (0 : Int32))]) [3, 4, 6, 2, 1, 0] rfl ?_
  obtain ⟨n41, hv⟩ := hv
  exact wvX3_spreadOver_L41 C RT  n41 _ _ _ hv)
def vX3_spread (cnt : Int32) (pwc : Int32) (par : Ar) (amt : Ar) (held : Ar) (clos : Ar) (leW : Ar) (leS : Ar) (x1 : Int32) (x2 : Int32) (x3 : Int32) (x4 : Int32) (x5 : Int32) (Q : Int32 → (Ar × Ar × Ar) → Prop) : Prop := (vX3_checkVersion x1 ((vX3_checkPlace cnt x2 ((vX3_checkMonth x3 ((vX3_checkUpTo x4 (1000000 : Int32) ((vX3_checkUpTo x5 (1 : Int32) ((vX2_leavesBelow cnt pwc par x2 (fun r31 => (vX3_checkSpreadable amt held clos x1 r31 x3 x4 ((vX3_spreadOver amt held clos leW leS x1 r31 x3 x4 x5 (fun r55 u55 => (Q r55 (u55.1, u55.2.1, u55.2.2))))))))))))))))))
set_option maxHeartbeats 4000000 in
set_option maxRecDepth 100000 in
theorem mtX3_spread {l : Launch} {γ : Gm} {ad : Nat → Nat} {seen : Int32} {cnt : Int32} {pwc : Int32} {par : Ar} {amt : Ar} {held : Ar} {clos : Ar} {seW : Ar} {seS : Ar} {leW : Ar} {leS : Ar} {x1 : Int32} {x2 : Int32} {x3 : Int32} {x4 : Int32} {x5 : Int32} {Q : Int32 → (Ar × Ar × Ar) → Prop} (hv : vX3_spread cnt pwc par amt held clos leW leS x1 x2 x3 x4 x5 Q) : CtI l γ yX3_spread cX3_spread 7 .int 7 154 0 0 [.ref (ad 0), .int x1, .int x2, .int x3, .int x4, .int x5] (wB γ ad seen cnt pwc par amt held clos seW seS leW leS) (fun (r : Int32) (u : Ar × Ar × Ar) => Q r u) (fun u => wB γ ad seen cnt pwc par u.1 held clos seW seS u.2.1 u.2.2) := startI (by decide +kernel) (Nat.le_of_ble_eq_true rfl) (fun κ C RT hR hnm => by
  show G l γ κ (wB γ ad seen cnt pwc par amt held clos seW seS leW leS) [(0, .ref (ad 0)), (1, .int x1), (2, .int x2), (3, .int x3), (4, .int x4), (5, .int x5)] 0 0 [] 0
  refine g_iload_n (pc' := 1) C dX3_spread_0 rfl rfl rfl ?_
  refine cnV (pc' := 4) C (run_SV (rest := []) C lk_X3_83 (mtX3_checkVersion hv) ⟨by decide, by decide⟩ rfl rfl (Nat.le_of_ble_eq_true rfl) ⟨Nat.zero_le _, Nat.zero_le _⟩ dX3_spread_1) rfl (fun u1 hv => ?_)
  refine g_aload_n (pc' := 5) C dX3_spread_4 rfl rfl rfl ?_
  refine g_iload_n (pc' := 6) C dX3_spread_5 rfl rfl rfl ?_
  refine csV (pc' := 9) C (run_VV (rest := []) C lk_X3_48 (mtX3_checkPlace hv) ⟨by decide, by decide⟩ rfl rfl rfl rfl (Nat.le_of_ble_eq_true rfl) ⟨Nat.zero_le _, Nat.zero_le _⟩ dX3_spread_6) rfl (fun u6 hv => ?_)
  refine g_iload_n (pc' := 10) C dX3_spread_9 rfl rfl rfl ?_
  refine cnV (pc' := 13) C (run_SV (rest := []) C lk_X3_89 (mtX3_checkMonth hv) ⟨by decide, by decide⟩ rfl rfl (Nat.le_of_ble_eq_true rfl) ⟨Nat.zero_le _, Nat.zero_le _⟩ dX3_spread_10) rfl (fun u10 hv => ?_)
  refine g_iload (pc' := 15) C dX3_spread_13 rfl rfl ?_
  refine g_ldc (pc' := 17) C k_X3_112 dX3_spread_15 rfl ?_
  refine cnV (pc' := 20) C (run_SV (rest := []) C lk_X3_95 (mtX3_checkUpTo hv) ⟨by decide, by decide⟩ rfl rfl (Nat.le_of_ble_eq_true rfl) ⟨Nat.zero_le _, Nat.zero_le _⟩ dX3_spread_17) rfl (fun u17 hv => ?_)
  refine g_iload (pc' := 22) C dX3_spread_20 rfl rfl ?_
  refine g_iconst (pc' := 23) (v := (1 : Int32)) C dX3_spread_22 rfl (by decide) ?_
  refine cnV (pc' := 26) C (run_SV (rest := []) C lk_X3_95 (mtX3_checkUpTo hv) ⟨by decide, by decide⟩ rfl rfl (Nat.le_of_ble_eq_true rfl) ⟨Nat.zero_le _, Nat.zero_le _⟩ dX3_spread_23) rfl (fun u23 hv => ?_)
  refine g_aload_n (pc' := 27) C dX3_spread_26 rfl rfl rfl ?_
  refine gf_X3_12 (pc' := 30) C dX3_spread_27 rfl 0 rfl rfl ?_
  refine g_iload_n (pc' := 31) C dX3_spread_30 rfl rfl rfl ?_
  refine cfI (pc' := 34) C (run_VI (rest := []) C lk_X3_80 (mtX2_leavesBelow hv) ⟨by decide, by decide⟩ rfl rfl rfl rfl (Nat.le_of_ble_eq_true rfl) ⟨Nat.zero_le _, Nat.zero_le _⟩ dX3_spread_31) rfl [1, 7] [0, 2, 3, 4, 5, 6, 8, 9, 10, 11, 12] [0, 11, 1, 2, 3, 4, 5, 12, 6, 7, 8, 9, 10] nd_BT1 di_BT1 (fun u31 => wB γ ad seen cnt pwc par amt held clos seW seS leW leS) rfl rfl (fun _ => rfl) (fun r31 u31 hv => ?_)
  refine g_istore (pc' := 36) (lv' := [(6, .int r31), (0, .ref (ad 0)), (1, .int x1), (2, .int x2), (3, .int x3), (4, .int x4), (5, .int x5)]) C dX3_spread_34 rfl (by decide) rfl ?_
  refine g_aload_n (pc' := 37) C dX3_spread_36 rfl rfl rfl ?_
  refine g_iload_n (pc' := 38) C dX3_spread_37 rfl rfl rfl ?_
  refine g_iload (pc' := 40) C dX3_spread_38 rfl rfl ?_
  refine g_iload_n (pc' := 41) C dX3_spread_40 rfl rfl rfl ?_
  refine g_iload (pc' := 43) C dX3_spread_41 rfl rfl ?_
  refine csV (pc' := 46) C (run_VV (rest := []) C lk_X3_113 (mtX3_checkSpreadable hv) ⟨by decide, by decide⟩ rfl rfl rfl rfl (Nat.le_of_ble_eq_true rfl) ⟨Nat.zero_le _, Nat.zero_le _⟩ dX3_spread_43) rfl (fun u43 hv => ?_)
  refine g_aload_n (pc' := 47) C dX3_spread_46 rfl rfl rfl ?_
  refine g_iload_n (pc' := 48) C dX3_spread_47 rfl rfl rfl ?_
  refine g_iload (pc' := 50) C dX3_spread_48 rfl rfl ?_
  refine g_iload_n (pc' := 51) C dX3_spread_50 rfl rfl rfl ?_
  refine g_iload (pc' := 53) C dX3_spread_51 rfl rfl ?_
  refine g_iload (pc' := 55) C dX3_spread_53 rfl rfl ?_
  refine csI (pc' := 58) C (run_VI (rest := []) C lk_X3_117 (mtX3_spreadOver hv) ⟨by decide, by decide⟩ rfl rfl rfl rfl (Nat.le_of_ble_eq_true rfl) ⟨Nat.zero_le _, Nat.zero_le _⟩ dX3_spread_55) rfl (fun r55 u55 hv => ?_)
  exact RT r55 (u55.1, u55.2.1, u55.2.2) _ _ _ _ dX3_spread_58 rfl (by decide) (by decide) hv)
def zX3_spread (cnt : Int32) (pwc : Int32) (par : Ar) (amt : Ar) (held : Ar) (clos : Ar) (leW : Ar) (leS : Ar) (x1 : Int32) (x2 : Int32) (x3 : Int32) (x4 : Int32) (x5 : Int32) (X : String → (Ar × Ar × Ar) → Prop) : Prop := ((zX3_checkVersion x1 (fun E => X E (amt, leW, leS))) ∨ (vX3_checkVersion x1 (((zX3_checkPlace cnt x2 (fun E => X E (amt, leW, leS))) ∨ (vX3_checkPlace cnt x2 (((zX3_checkMonth x3 (fun E => X E (amt, leW, leS))) ∨ (vX3_checkMonth x3 (((zX3_checkUpTo x4 (1000000 : Int32) (fun E => X E (amt, leW, leS))) ∨ (vX3_checkUpTo x4 (1000000 : Int32) (((zX3_checkUpTo x5 (1 : Int32) (fun E => X E (amt, leW, leS))) ∨ (vX3_checkUpTo x5 (1 : Int32) ((vX2_leavesBelow cnt pwc par x2 (fun r31 => (zX3_checkSpreadable amt held clos x1 r31 x3 x4 (fun E => X E (amt, leW, leS))))))))))))))))))))
set_option maxHeartbeats 4000000 in
set_option maxRecDepth 100000 in
theorem mtzX3_spread {l : Launch} (hfl : l.stackTraces = false) {γ : Gm} {ad : Nat → Nat} {seen : Int32} {cnt : Int32} {pwc : Int32} {par : Ar} {amt : Ar} {held : Ar} {clos : Ar} {seW : Ar} {seS : Ar} {leW : Ar} {leS : Ar} {x1 : Int32} {x2 : Int32} {x3 : Int32} {x4 : Int32} {x5 : Int32} {X : String → (Ar × Ar × Ar) → Prop} (hv : zX3_spread cnt pwc par amt held clos leW leS x1 x2 x3 x4 x5 X) : CtX l γ yX3_spread cX3_spread 7 (some .int) 7 154 [.ref (ad 0), .int x1, .int x2, .int x3, .int x4, .int x5] (wB γ ad seen cnt pwc par amt held clos seW seS leW leS) (fun (E : String) (u : Ar × Ar × Ar) => X E u) (fun u => wB γ ad seen cnt pwc par u.1 held clos seW seS u.2.1 u.2.2) := startX (by decide +kernel) (Nat.le_of_ble_eq_true rfl) (fun κ C hX => by
  show G l γ κ (wB γ ad seen cnt pwc par amt held clos seW seS leW leS) [(0, .ref (ad 0)), (1, .int x1), (2, .int x2), (3, .int x3), (4, .int x4), (5, .int x5)] 0 0 [] 0
  refine g_iload_n (pc' := 1) C dX3_spread_0 rfl rfl rfl ?_
  rcases hv with hv | hv
  · exact noneX C hX (run_SX (rest := []) C lk_X3_83 (mtzX3_checkVersion hfl hv) ⟨by decide, by decide⟩ rfl rfl (Nat.le_of_ble_eq_true rfl) ⟨hX.2.2.1, hX.2.2.2⟩ dX3_spread_1) (fun E u1 hx => ⟨(amt, leW, leS), hx, rfl⟩)
  · refine cnV (pc' := 4) C (run_SV (rest := []) C lk_X3_83 (mtX3_checkVersion hv) ⟨by decide, by decide⟩ rfl rfl (Nat.le_of_ble_eq_true rfl) ⟨Nat.zero_le _, Nat.zero_le _⟩ dX3_spread_1) rfl (fun u1 hv => ?_)
    refine g_aload_n (pc' := 5) C dX3_spread_4 rfl rfl rfl ?_
    refine g_iload_n (pc' := 6) C dX3_spread_5 rfl rfl rfl ?_
    rcases hv with hv | hv
    · exact sameX C hX (run_VX (rest := []) C lk_X3_48 (mtzX3_checkPlace hfl hv) ⟨by decide, by decide⟩ rfl rfl rfl rfl (Nat.le_of_ble_eq_true rfl) ⟨hX.2.2.1, hX.2.2.2⟩ dX3_spread_6) (fun E u6 hx => ⟨(amt, leW, leS), hx, rfl⟩)
    · refine csV (pc' := 9) C (run_VV (rest := []) C lk_X3_48 (mtX3_checkPlace hv) ⟨by decide, by decide⟩ rfl rfl rfl rfl (Nat.le_of_ble_eq_true rfl) ⟨Nat.zero_le _, Nat.zero_le _⟩ dX3_spread_6) rfl (fun u6 hv => ?_)
      refine g_iload_n (pc' := 10) C dX3_spread_9 rfl rfl rfl ?_
      rcases hv with hv | hv
      · exact noneX C hX (run_SX (rest := []) C lk_X3_89 (mtzX3_checkMonth hfl hv) ⟨by decide, by decide⟩ rfl rfl (Nat.le_of_ble_eq_true rfl) ⟨hX.2.2.1, hX.2.2.2⟩ dX3_spread_10) (fun E u10 hx => ⟨(amt, leW, leS), hx, rfl⟩)
      · refine cnV (pc' := 13) C (run_SV (rest := []) C lk_X3_89 (mtX3_checkMonth hv) ⟨by decide, by decide⟩ rfl rfl (Nat.le_of_ble_eq_true rfl) ⟨Nat.zero_le _, Nat.zero_le _⟩ dX3_spread_10) rfl (fun u10 hv => ?_)
        refine g_iload (pc' := 15) C dX3_spread_13 rfl rfl ?_
        refine g_ldc (pc' := 17) C k_X3_112 dX3_spread_15 rfl ?_
        rcases hv with hv | hv
        · exact noneX C hX (run_SX (rest := []) C lk_X3_95 (mtzX3_checkUpTo hfl hv) ⟨by decide, by decide⟩ rfl rfl (Nat.le_of_ble_eq_true rfl) ⟨hX.2.2.1, hX.2.2.2⟩ dX3_spread_17) (fun E u17 hx => ⟨(amt, leW, leS), hx, rfl⟩)
        · refine cnV (pc' := 20) C (run_SV (rest := []) C lk_X3_95 (mtX3_checkUpTo hv) ⟨by decide, by decide⟩ rfl rfl (Nat.le_of_ble_eq_true rfl) ⟨Nat.zero_le _, Nat.zero_le _⟩ dX3_spread_17) rfl (fun u17 hv => ?_)
          refine g_iload (pc' := 22) C dX3_spread_20 rfl rfl ?_
          refine g_iconst (pc' := 23) (v := (1 : Int32)) C dX3_spread_22 rfl (by decide) ?_
          rcases hv with hv | hv
          · exact noneX C hX (run_SX (rest := []) C lk_X3_95 (mtzX3_checkUpTo hfl hv) ⟨by decide, by decide⟩ rfl rfl (Nat.le_of_ble_eq_true rfl) ⟨hX.2.2.1, hX.2.2.2⟩ dX3_spread_23) (fun E u23 hx => ⟨(amt, leW, leS), hx, rfl⟩)
          · refine cnV (pc' := 26) C (run_SV (rest := []) C lk_X3_95 (mtX3_checkUpTo hv) ⟨by decide, by decide⟩ rfl rfl (Nat.le_of_ble_eq_true rfl) ⟨Nat.zero_le _, Nat.zero_le _⟩ dX3_spread_23) rfl (fun u23 hv => ?_)
            refine g_aload_n (pc' := 27) C dX3_spread_26 rfl rfl rfl ?_
            refine gf_X3_12 (pc' := 30) C dX3_spread_27 rfl 0 rfl rfl ?_
            refine g_iload_n (pc' := 31) C dX3_spread_30 rfl rfl rfl ?_
            refine cfI (pc' := 34) C (run_VI (rest := []) C lk_X3_80 (mtX2_leavesBelow hv) ⟨by decide, by decide⟩ rfl rfl rfl rfl (Nat.le_of_ble_eq_true rfl) ⟨Nat.zero_le _, Nat.zero_le _⟩ dX3_spread_31) rfl [1, 7] [0, 2, 3, 4, 5, 6, 8, 9, 10, 11, 12] [0, 11, 1, 2, 3, 4, 5, 12, 6, 7, 8, 9, 10] nd_BT1 di_BT1 (fun u31 => wB γ ad seen cnt pwc par amt held clos seW seS leW leS) rfl rfl (fun _ => rfl) (fun r31 u31 hv => ?_)
            refine g_istore (pc' := 36) (lv' := [(6, .int r31), (0, .ref (ad 0)), (1, .int x1), (2, .int x2), (3, .int x3), (4, .int x4), (5, .int x5)]) C dX3_spread_34 rfl (by decide) rfl ?_
            refine g_aload_n (pc' := 37) C dX3_spread_36 rfl rfl rfl ?_
            refine g_iload_n (pc' := 38) C dX3_spread_37 rfl rfl rfl ?_
            refine g_iload (pc' := 40) C dX3_spread_38 rfl rfl ?_
            refine g_iload_n (pc' := 41) C dX3_spread_40 rfl rfl rfl ?_
            refine g_iload (pc' := 43) C dX3_spread_41 rfl rfl ?_
            exact sameX C hX (run_VX (rest := []) C lk_X3_113 (mtzX3_checkSpreadable hfl hv) ⟨by decide, by decide⟩ rfl rfl rfl rfl (Nat.le_of_ble_eq_true rfl) ⟨hX.2.2.1, hX.2.2.2⟩ dX3_spread_43) (fun E u43 hx => ⟨(amt, leW, leS), hx, rfl⟩))
def vX3_spreadYear_L93 (cnt : Int32) (pwc : Int32) (par : Ar) (held : Ar) (clos : Ar) (seW : Ar) (seS : Ar) (x1 : Int32) (x4 : Int32) (Q : Int32 → (Ar × Ar × Ar × Ar) → Prop) : Nat → Int32 → Int32 → Ar → Ar → Ar → Prop
  | 0, _, _, _, _, _ => False
  | n + 1, x5, x6, amt, leW, leS => (((12 : Int32) ≤ x6 → (Q x5 (amt, seS, leW, leS))) ∧ (¬ (12 : Int32) ≤ x6 → (vX1_shareOf seS x6 (fun r114 => (vX3_spreadOver amt held clos leW leS x1 x4 x6 r114 (0 : Int32) (fun r118 u118 => (vX3_spreadYear_L93 cnt pwc par held clos seW seS x1 x4 Q n (x5 + r118) (x6 + (1 : Int32)) u118.1 u118.2.1 u118.2.2)))))))
set_option maxHeartbeats 4000000 in
set_option maxRecDepth 100000 in
theorem wvX3_spreadYear_L93 {l : Launch} {γ : Gm} {κ : Kx} {ad : Nat → Nat} {seen : Int32} {cnt : Int32} {pwc : Int32} {par : Ar} {held : Ar} {clos : Ar} {seW : Ar} {seS : Ar} {x1 : Int32} {x4 : Int32} {Q : Int32 → (Ar × Ar × Ar × Ar) → Prop} (C : Ok γ κ cX3_spreadYear 7 RX3 7 154) (RT : RtI l γ κ cX3_spreadYear .int 0 0 (fun (r : Int32) (u : Ar × Ar × Ar × Ar) => Q r u) (fun u => wB γ ad seen cnt pwc par u.1 held clos seW u.2.1 u.2.2.1 u.2.2.2))  : ∀ (n : Nat) (x5 : Int32) (x6 : Int32) (amt : Ar) (leW : Ar) (leS : Ar), vX3_spreadYear_L93 cnt pwc par held clos seW seS x1 x4 Q n x5 x6 amt leW leS → G l γ κ (wB γ ad seen cnt pwc par amt held clos seW seS leW leS) [(0, .ref (ad 0)), (1, .int x1), (4, .int x4), (5, .int x5), (6, .int x6)] 0 0 [] 93 := by
  intro n
  induction n with
  | zero => intro x5 x6 amt leW leS hv; exact False.elim hv
  | succ n ih =>
    intro x5 x6 amt leW leS hv
    refine g_iload (pc' := 95) C dX3_spreadYear_93 rfl rfl ?_
    refine g_bipush (pc' := 97) (v := (12 : Int32)) C dX3_spreadYear_95 rfl (by decide) ?_
    obtain ⟨hv1, hv2⟩ := hv
    refine g_icmp_ge (pc' := 100) (tgt := 130) C dX3_spreadYear_97 rfl (by decide) (fun c => ?_) (fun c => ?_)
    · have hv := hv1 c
      refine g_iload (pc' := 132) C dX3_spreadYear_130 rfl rfl ?_
      exact RT x5 (amt, seS, leW, leS) _ _ _ _ dX3_spreadYear_132 rfl (by decide) (by decide) hv
    · have hv := hv2 c
      refine g_iload (pc' := 102) C dX3_spreadYear_100 rfl rfl ?_
      refine g_aload_n (pc' := 103) C dX3_spreadYear_102 rfl rfl rfl ?_
      refine g_iload_n (pc' := 104) C dX3_spreadYear_103 rfl rfl rfl ?_
      refine g_iload (pc' := 106) C dX3_spreadYear_104 rfl rfl ?_
      refine g_iload (pc' := 108) C dX3_spreadYear_106 rfl rfl ?_
      refine g_aload_n (pc' := 109) C dX3_spreadYear_108 rfl rfl rfl ?_
      refine gf_X3_33 (pc' := 112) C dX3_spreadYear_109 rfl 0 rfl rfl ?_
      refine g_iload (pc' := 114) C dX3_spreadYear_112 rfl rfl ?_
      refine cfI (pc' := 117) C (run_VI (rest := [.int x6, .int x4, .int x1, .ref (ad 0), .int x5]) C lk_X3_128 (mtX1_shareOf hv) ⟨by decide, by decide⟩ rfl rfl rfl rfl (Nat.le_of_ble_eq_true rfl) ⟨Nat.zero_le _, Nat.zero_le _⟩ dX3_spreadYear_114) rfl [5, 9, 10] [0, 1, 2, 3, 4, 6, 7, 8, 11, 12] [0, 1, 2, 3, 4, 10, 5, 6, 7, 11, 12, 8, 9] nd_BS5 di_BS5 (fun u114 => wB γ ad seen cnt pwc par amt held clos seW seS leW leS) rfl rfl (fun _ => rfl) (fun r114 u114 hv => ?_)
      refine g_iconst (pc' := 118) (v := (0 : Int32)) C dX3_spreadYear_117 rfl (by decide) ?_
      refine csI (pc' := 121) C (run_VI (rest := [.int x5]) C lk_X3_117 (mtX3_spreadOver hv) ⟨by decide, by decide⟩ rfl rfl rfl rfl (Nat.le_of_ble_eq_true rfl) ⟨Nat.zero_le _, Nat.zero_le _⟩ dX3_spreadYear_118) rfl (fun r118 u118 hv => ?_)
      refine g_iadd (pc' := 122) C dX3_spreadYear_121 rfl ?_
      refine g_istore (pc' := 124) (lv' := [(5, .int (x5 + r118)), (0, .ref (ad 0)), (1, .int x1), (4, .int x4), (6, .int x6)]) C dX3_spreadYear_122 rfl (by decide) rfl ?_
      refine g_iinc (pc' := 127) (v := (x6 + (1 : Int32))) (lv' := [(6, .int (x6 + (1 : Int32))), (5, .int (x5 + r118)), (0, .ref (ad 0)), (1, .int x1), (4, .int x4)]) C dX3_spreadYear_124 rfl rfl rfl (by decide) rfl ?_
      refine g_goto (tgt := 93) C dX3_spreadYear_127 (by decide) ?_
      refine g_sub (lv' := [(0, .ref (ad 0)), (1, .int x1), (4, .int x4), (5, .int (x5 + r118)), (6, .int (x6 + (1 : Int32)))]) [2, 3, 4, 1, 0] rfl ?_
      exact ih _ _ _ _ _ hv
def vX3_spreadYear_L56 (cnt : Int32) (pwc : Int32) (par : Ar) (amt : Ar) (held : Ar) (clos : Ar) (seW : Ar) (seS : Ar) (leW : Ar) (leS : Ar) (x1 : Int32) (x4 : Int32) (Q : Int32 → (Ar × Ar × Ar × Ar) → Prop) : Nat → Int32 → Prop
  | 0, _ => False
  | n + 1, x5 => (((12 : Int32) ≤ x5 → (∃ n93 : Nat, vX3_spreadYear_L93 cnt pwc par held clos seW seS x1 x4 Q n93 (0 : Int32) (0 : Int32) amt leW leS)) ∧ (¬ (12 : Int32) ≤ x5 → (vX1_shareOf seS x5 (fun r75 => (vX3_checkSpreadable amt held clos x1 x4 x5 r75 ((vX3_spreadYear_L56 cnt pwc par amt held clos seW seS leW leS x1 x4 Q n (x5 + (1 : Int32)))))))))
set_option maxHeartbeats 4000000 in
set_option maxRecDepth 100000 in
theorem wvX3_spreadYear_L56 {l : Launch} {γ : Gm} {κ : Kx} {ad : Nat → Nat} {seen : Int32} {cnt : Int32} {pwc : Int32} {par : Ar} {amt : Ar} {held : Ar} {clos : Ar} {seW : Ar} {seS : Ar} {leW : Ar} {leS : Ar} {x1 : Int32} {x4 : Int32} {Q : Int32 → (Ar × Ar × Ar × Ar) → Prop} (C : Ok γ κ cX3_spreadYear 7 RX3 7 154) (RT : RtI l γ κ cX3_spreadYear .int 0 0 (fun (r : Int32) (u : Ar × Ar × Ar × Ar) => Q r u) (fun u => wB γ ad seen cnt pwc par u.1 held clos seW u.2.1 u.2.2.1 u.2.2.2))  : ∀ (n : Nat) (x5 : Int32), vX3_spreadYear_L56 cnt pwc par amt held clos seW seS leW leS x1 x4 Q n x5 → G l γ κ (wB γ ad seen cnt pwc par amt held clos seW seS leW leS) [(0, .ref (ad 0)), (1, .int x1), (4, .int x4), (5, .int x5)] 0 0 [] 56 := by
  intro n
  induction n with
  | zero => intro x5 hv; exact False.elim hv
  | succ n ih =>
    intro x5 hv
    refine g_iload (pc' := 58) C dX3_spreadYear_56 rfl rfl ?_
    refine g_bipush (pc' := 60) (v := (12 : Int32)) C dX3_spreadYear_58 rfl (by decide) ?_
    obtain ⟨hv1, hv2⟩ := hv
    refine g_icmp_ge (pc' := 63) (tgt := 87) C dX3_spreadYear_60 rfl (by decide) (fun c => ?_) (fun c => ?_)
    · have hv := hv1 c
      refine g_iconst (pc' := 88) (v := (0 : Int32)) C dX3_spreadYear_87 rfl (by decide) ?_
      refine g_istore (pc' := 90) (lv' := [(5, .int (0 : Int32)), (0, .ref (ad 0)), (1, .int x1), (4, .int x4)]) C dX3_spreadYear_88 rfl (by decide) rfl ?_
      refine g_iconst (pc' := 91) (v := (0 : Int32)) C dX3_spreadYear_90 rfl (by decide) ?_
      refine g_istore (pc' := 93) (lv' := [(6, .int (0 : Int32)), (5, .int (0 : Int32)), (0, .ref (ad 0)), (1, .int x1), (4, .int x4)]) C dX3_spreadYear_91 rfl (by decide) rfl ?_
      refine g_sub (lv' := [(0, .ref (ad 0)), (1, .int x1), (4, .int x4), (5, .int (0 : Int32)), (6, .int (0 : Int32))]) [2, 3, 4, 1, 0] rfl ?_
      obtain ⟨n93, hv⟩ := hv
      exact wvX3_spreadYear_L93 C RT  n93 _ _ _ _ _ hv
    · have hv := hv2 c
      refine g_aload_n (pc' := 64) C dX3_spreadYear_63 rfl rfl rfl ?_
      refine g_iload_n (pc' := 65) C dX3_spreadYear_64 rfl rfl rfl ?_
      refine g_iload (pc' := 67) C dX3_spreadYear_65 rfl rfl ?_
      refine g_iload (pc' := 69) C dX3_spreadYear_67 rfl rfl ?_
      refine g_aload_n (pc' := 70) C dX3_spreadYear_69 rfl rfl rfl ?_
      refine gf_X3_33 (pc' := 73) C dX3_spreadYear_70 rfl 0 rfl rfl ?_
      refine g_iload (pc' := 75) C dX3_spreadYear_73 rfl rfl ?_
      refine cfI (pc' := 78) C (run_VI (rest := [.int x5, .int x4, .int x1, .ref (ad 0)]) C lk_X3_128 (mtX1_shareOf hv) ⟨by decide, by decide⟩ rfl rfl rfl rfl (Nat.le_of_ble_eq_true rfl) ⟨Nat.zero_le _, Nat.zero_le _⟩ dX3_spreadYear_75) rfl [5, 9, 10] [0, 1, 2, 3, 4, 6, 7, 8, 11, 12] [0, 1, 2, 3, 4, 10, 5, 6, 7, 11, 12, 8, 9] nd_BS5 di_BS5 (fun u75 => wB γ ad seen cnt pwc par amt held clos seW seS leW leS) rfl rfl (fun _ => rfl) (fun r75 u75 hv => ?_)
      refine csV (pc' := 81) C (run_VV (rest := []) C lk_X3_113 (mtX3_checkSpreadable hv) ⟨by decide, by decide⟩ rfl rfl rfl rfl (Nat.le_of_ble_eq_true rfl) ⟨Nat.zero_le _, Nat.zero_le _⟩ dX3_spreadYear_78) rfl (fun u78 hv => ?_)
      refine g_iinc (pc' := 84) (v := (x5 + (1 : Int32))) (lv' := [(5, .int (x5 + (1 : Int32))), (0, .ref (ad 0)), (1, .int x1), (4, .int x4)]) C dX3_spreadYear_81 rfl rfl rfl (by decide) rfl ?_
      refine g_goto (tgt := 56) C dX3_spreadYear_84 (by decide) ?_
      refine g_sub (lv' := [(0, .ref (ad 0)), (1, .int x1), (4, .int x4), (5, .int (x5 + (1 : Int32)))]) [1, 2, 3, 0] rfl ?_
      exact ih _ hv
def vX3_spreadYear (cnt : Int32) (pwc : Int32) (par : Ar) (amt : Ar) (held : Ar) (clos : Ar) (seW : Ar) (seS : Ar) (leW : Ar) (leS : Ar) (x1 : Int32) (x2 : Int32) (x3 : Int32) (Q : Int32 → (Ar × Ar × Ar × Ar) → Prop) : Prop := (vX3_checkVersion x1 ((vX3_checkPlace cnt x2 ((vX3_checkUpTo x3 (1000000 : Int32) ((vX1_totalWeight seW (fun r19 => ((¬ r19 = (0 : Int32) → (vX2_leavesBelow cnt pwc par x2 (fun r40 => (vX1_divide seW seS x3 (fun u50 => (∃ n56 : Nat, vX3_spreadYear_L56 cnt pwc par amt held clos seW u50 leW leS x1 r40 Q n56 (0 : Int32))))))) ∧ (r19 = (0 : Int32) → False))))))))))
set_option maxHeartbeats 4000000 in
set_option maxRecDepth 100000 in
theorem mtX3_spreadYear {l : Launch} {γ : Gm} {ad : Nat → Nat} {seen : Int32} {cnt : Int32} {pwc : Int32} {par : Ar} {amt : Ar} {held : Ar} {clos : Ar} {seW : Ar} {seS : Ar} {leW : Ar} {leS : Ar} {x1 : Int32} {x2 : Int32} {x3 : Int32} {Q : Int32 → (Ar × Ar × Ar × Ar) → Prop} (hv : vX3_spreadYear cnt pwc par amt held clos seW seS leW leS x1 x2 x3 Q) : CtI l γ yX3_spreadYear cX3_spreadYear 7 .int 7 154 0 0 [.ref (ad 0), .int x1, .int x2, .int x3] (wB γ ad seen cnt pwc par amt held clos seW seS leW leS) (fun (r : Int32) (u : Ar × Ar × Ar × Ar) => Q r u) (fun u => wB γ ad seen cnt pwc par u.1 held clos seW u.2.1 u.2.2.1 u.2.2.2) := startI (by decide +kernel) (Nat.le_of_ble_eq_true rfl) (fun κ C RT hR hnm => by
  show G l γ κ (wB γ ad seen cnt pwc par amt held clos seW seS leW leS) [(0, .ref (ad 0)), (1, .int x1), (2, .int x2), (3, .int x3)] 0 0 [] 0
  refine g_iload_n (pc' := 1) C dX3_spreadYear_0 rfl rfl rfl ?_
  refine cnV (pc' := 4) C (run_SV (rest := []) C lk_X3_83 (mtX3_checkVersion hv) ⟨by decide, by decide⟩ rfl rfl (Nat.le_of_ble_eq_true rfl) ⟨Nat.zero_le _, Nat.zero_le _⟩ dX3_spreadYear_1) rfl (fun u1 hv => ?_)
  refine g_aload_n (pc' := 5) C dX3_spreadYear_4 rfl rfl rfl ?_
  refine g_iload_n (pc' := 6) C dX3_spreadYear_5 rfl rfl rfl ?_
  refine csV (pc' := 9) C (run_VV (rest := []) C lk_X3_48 (mtX3_checkPlace hv) ⟨by decide, by decide⟩ rfl rfl rfl rfl (Nat.le_of_ble_eq_true rfl) ⟨Nat.zero_le _, Nat.zero_le _⟩ dX3_spreadYear_6) rfl (fun u6 hv => ?_)
  refine g_iload_n (pc' := 10) C dX3_spreadYear_9 rfl rfl rfl ?_
  refine g_ldc (pc' := 12) C k_X3_112 dX3_spreadYear_10 rfl ?_
  refine cnV (pc' := 15) C (run_SV (rest := []) C lk_X3_95 (mtX3_checkUpTo hv) ⟨by decide, by decide⟩ rfl rfl (Nat.le_of_ble_eq_true rfl) ⟨Nat.zero_le _, Nat.zero_le _⟩ dX3_spreadYear_12) rfl (fun u12 hv => ?_)
  refine g_aload_n (pc' := 16) C dX3_spreadYear_15 rfl rfl rfl ?_
  refine gf_X3_33 (pc' := 19) C dX3_spreadYear_16 rfl 0 rfl rfl ?_
  refine cfI (pc' := 22) C (run_VI (rest := []) C lk_X3_120 (mtX1_totalWeight hv) ⟨by decide, by decide⟩ rfl rfl rfl rfl (Nat.le_of_ble_eq_true rfl) ⟨Nat.zero_le _, Nat.zero_le _⟩ dX3_spreadYear_19) rfl [5, 9, 10] [0, 1, 2, 3, 4, 6, 7, 8, 11, 12] [0, 1, 2, 3, 4, 10, 5, 6, 7, 11, 12, 8, 9] nd_BS5 di_BS5 (fun u19 => wB γ ad seen cnt pwc par amt held clos seW seS leW leS) rfl rfl (fun _ => rfl) (fun r19 u19 hv => ?_)
  obtain ⟨hv1, hv2⟩ := hv
  refine g_if_ne (pc' := 25) (tgt := 35) C dX3_spreadYear_22 rfl (by decide) (fun c => ?_) (fun c => ?_)
  · have hv := hv1 c
    refine g_aload_n (pc' := 36) C dX3_spreadYear_35 rfl rfl rfl ?_
    refine gf_X3_12 (pc' := 39) C dX3_spreadYear_36 rfl 0 rfl rfl ?_
    refine g_iload_n (pc' := 40) C dX3_spreadYear_39 rfl rfl rfl ?_
    refine cfI (pc' := 43) C (run_VI (rest := []) C lk_X3_80 (mtX2_leavesBelow hv) ⟨by decide, by decide⟩ rfl rfl rfl rfl (Nat.le_of_ble_eq_true rfl) ⟨Nat.zero_le _, Nat.zero_le _⟩ dX3_spreadYear_40) rfl [1, 7] [0, 2, 3, 4, 5, 6, 8, 9, 10, 11, 12] [0, 11, 1, 2, 3, 4, 5, 12, 6, 7, 8, 9, 10] nd_BT1 di_BT1 (fun u40 => wB γ ad seen cnt pwc par amt held clos seW seS leW leS) rfl rfl (fun _ => rfl) (fun r40 u40 hv => ?_)
    refine g_istore (pc' := 45) (lv' := [(4, .int r40), (0, .ref (ad 0)), (1, .int x1), (2, .int x2), (3, .int x3)]) C dX3_spreadYear_43 rfl (by decide) rfl ?_
    refine g_aload_n (pc' := 46) C dX3_spreadYear_45 rfl rfl rfl ?_
    refine gf_X3_33 (pc' := 49) C dX3_spreadYear_46 rfl 0 rfl rfl ?_
    refine g_iload_n (pc' := 50) C dX3_spreadYear_49 rfl rfl rfl ?_
    refine cfV (pc' := 53) C (run_VV (rest := []) C lk_X3_125 (mtX1_divide hv) ⟨by decide, by decide⟩ rfl rfl rfl rfl (Nat.le_of_ble_eq_true rfl) ⟨Nat.zero_le _, Nat.zero_le _⟩ dX3_spreadYear_50) rfl [5, 9, 10] [0, 1, 2, 3, 4, 6, 7, 8, 11, 12] [0, 1, 2, 3, 4, 10, 5, 6, 7, 11, 12, 8, 9] nd_BS5 di_BS5 (fun u50 => wB γ ad seen cnt pwc par amt held clos seW u50 leW leS) rfl rfl (fun _ => rfl) (fun u50 hv => ?_)
    refine g_iconst (pc' := 54) (v := (0 : Int32)) C dX3_spreadYear_53 rfl (by decide) ?_
    refine g_istore (pc' := 56) (lv' := [(5, .int (0 : Int32)), (4, .int r40), (0, .ref (ad 0)), (1, .int x1), (2, .int x2), (3, .int x3)]) C dX3_spreadYear_54 rfl (by decide) rfl ?_
    refine g_sub (lv' := [(0, .ref (ad 0)), (1, .int x1), (4, .int r40), (5, .int (0 : Int32))]) [2, 3, 1, 0] rfl ?_
    obtain ⟨n56, hv⟩ := hv
    exact wvX3_spreadYear_L56 C RT  n56 _ hv
  · have hv := hv2 c
    exact hv.elim)
def zX3_spreadYear_L56 (cnt : Int32) (pwc : Int32) (par : Ar) (amt : Ar) (held : Ar) (clos : Ar) (seW : Ar) (seS : Ar) (leW : Ar) (leS : Ar) (x1 : Int32) (x4 : Int32) (X : String → (Ar × Ar × Ar × Ar) → Prop) : Nat → Int32 → Prop
  | 0, _ => False
  | n + 1, x5 => (((12 : Int32) ≤ x5 → False) ∧ (¬ (12 : Int32) ≤ x5 → (vX1_shareOf seS x5 (fun r75 => ((zX3_checkSpreadable amt held clos x1 x4 x5 r75 (fun E => X E (amt, seS, leW, leS))) ∨ (vX3_checkSpreadable amt held clos x1 x4 x5 r75 ((zX3_spreadYear_L56 cnt pwc par amt held clos seW seS leW leS x1 x4 X n (x5 + (1 : Int32))))))))))
set_option maxHeartbeats 4000000 in
set_option maxRecDepth 100000 in
theorem wzX3_spreadYear_L56 {l : Launch} {γ : Gm} {κ : Kx} {ad : Nat → Nat} {seen : Int32} {cnt : Int32} {pwc : Int32} {par : Ar} {amt : Ar} {held : Ar} {clos : Ar} {seW : Ar} {seS : Ar} {leW : Ar} {leS : Ar} {x1 : Int32} {x4 : Int32} {X : String → (Ar × Ar × Ar × Ar) → Prop} (hfl : l.stackTraces = false) (C : Ok γ κ cX3_spreadYear 7 RX3 7 154) (hX : XQ γ κ (fun (E : String) (u : Ar × Ar × Ar × Ar) => X E u) (fun u => wB γ ad seen cnt pwc par u.1 held clos seW u.2.1 u.2.2.1 u.2.2.2))  : ∀ (n : Nat) (x5 : Int32), zX3_spreadYear_L56 cnt pwc par amt held clos seW seS leW leS x1 x4 X n x5 → G l γ κ (wB γ ad seen cnt pwc par amt held clos seW seS leW leS) [(0, .ref (ad 0)), (1, .int x1), (4, .int x4), (5, .int x5)] 0 0 [] 56 := by
  intro n
  induction n with
  | zero => intro x5 hv; exact False.elim hv
  | succ n ih =>
    intro x5 hv
    refine g_iload (pc' := 58) C dX3_spreadYear_56 rfl rfl ?_
    refine g_bipush (pc' := 60) (v := (12 : Int32)) C dX3_spreadYear_58 rfl (by decide) ?_
    obtain ⟨hv1, hv2⟩ := hv
    refine g_icmp_ge (pc' := 63) (tgt := 87) C dX3_spreadYear_60 rfl (by decide) (fun c => ?_) (fun c => ?_)
    · have hv := hv1 c
      exact hv.elim
    · have hv := hv2 c
      refine g_aload_n (pc' := 64) C dX3_spreadYear_63 rfl rfl rfl ?_
      refine g_iload_n (pc' := 65) C dX3_spreadYear_64 rfl rfl rfl ?_
      refine g_iload (pc' := 67) C dX3_spreadYear_65 rfl rfl ?_
      refine g_iload (pc' := 69) C dX3_spreadYear_67 rfl rfl ?_
      refine g_aload_n (pc' := 70) C dX3_spreadYear_69 rfl rfl rfl ?_
      refine gf_X3_33 (pc' := 73) C dX3_spreadYear_70 rfl 0 rfl rfl ?_
      refine g_iload (pc' := 75) C dX3_spreadYear_73 rfl rfl ?_
      refine cfI (pc' := 78) C (run_VI (rest := [.int x5, .int x4, .int x1, .ref (ad 0)]) C lk_X3_128 (mtX1_shareOf hv) ⟨by decide, by decide⟩ rfl rfl rfl rfl (Nat.le_of_ble_eq_true rfl) ⟨Nat.zero_le _, Nat.zero_le _⟩ dX3_spreadYear_75) rfl [5, 9, 10] [0, 1, 2, 3, 4, 6, 7, 8, 11, 12] [0, 1, 2, 3, 4, 10, 5, 6, 7, 11, 12, 8, 9] nd_BS5 di_BS5 (fun u75 => wB γ ad seen cnt pwc par amt held clos seW seS leW leS) rfl rfl (fun _ => rfl) (fun r75 u75 hv => ?_)
      rcases hv with hv | hv
      · exact sameX C hX (run_VX (rest := []) C lk_X3_113 (mtzX3_checkSpreadable hfl hv) ⟨by decide, by decide⟩ rfl rfl rfl rfl (Nat.le_of_ble_eq_true rfl) ⟨hX.2.2.1, hX.2.2.2⟩ dX3_spreadYear_78) (fun E u78 hx => ⟨(amt, seS, leW, leS), hx, rfl⟩)
      · refine csV (pc' := 81) C (run_VV (rest := []) C lk_X3_113 (mtX3_checkSpreadable hv) ⟨by decide, by decide⟩ rfl rfl rfl rfl (Nat.le_of_ble_eq_true rfl) ⟨Nat.zero_le _, Nat.zero_le _⟩ dX3_spreadYear_78) rfl (fun u78 hv => ?_)
        refine g_iinc (pc' := 84) (v := (x5 + (1 : Int32))) (lv' := [(5, .int (x5 + (1 : Int32))), (0, .ref (ad 0)), (1, .int x1), (4, .int x4)]) C dX3_spreadYear_81 rfl rfl rfl (by decide) rfl ?_
        refine g_goto (tgt := 56) C dX3_spreadYear_84 (by decide) ?_
        refine g_sub (lv' := [(0, .ref (ad 0)), (1, .int x1), (4, .int x4), (5, .int (x5 + (1 : Int32)))]) [1, 2, 3, 0] rfl ?_
        exact ih _ hv
def zX3_spreadYear (cnt : Int32) (pwc : Int32) (par : Ar) (amt : Ar) (held : Ar) (clos : Ar) (seW : Ar) (seS : Ar) (leW : Ar) (leS : Ar) (x1 : Int32) (x2 : Int32) (x3 : Int32) (X : String → (Ar × Ar × Ar × Ar) → Prop) : Prop := ((zX3_checkVersion x1 (fun E => X E (amt, seS, leW, leS))) ∨ (vX3_checkVersion x1 (((zX3_checkPlace cnt x2 (fun E => X E (amt, seS, leW, leS))) ∨ (vX3_checkPlace cnt x2 (((zX3_checkUpTo x3 (1000000 : Int32) (fun E => X E (amt, seS, leW, leS))) ∨ (vX3_checkUpTo x3 (1000000 : Int32) ((vX1_totalWeight seW (fun r19 => ((¬ r19 = (0 : Int32) → (vX2_leavesBelow cnt pwc par x2 (fun r40 => (vX1_divide seW seS x3 (fun u50 => (∃ n56 : Nat, zX3_spreadYear_L56 cnt pwc par amt held clos seW u50 leW leS x1 r40 X n56 (0 : Int32))))))) ∧ (r19 = (0 : Int32) → (X eIS (amt, seS, leW, leS)))))))))))))))
set_option maxHeartbeats 4000000 in
set_option maxRecDepth 100000 in
theorem mtzX3_spreadYear {l : Launch} (hfl : l.stackTraces = false) {γ : Gm} {ad : Nat → Nat} {seen : Int32} {cnt : Int32} {pwc : Int32} {par : Ar} {amt : Ar} {held : Ar} {clos : Ar} {seW : Ar} {seS : Ar} {leW : Ar} {leS : Ar} {x1 : Int32} {x2 : Int32} {x3 : Int32} {X : String → (Ar × Ar × Ar × Ar) → Prop} (hv : zX3_spreadYear cnt pwc par amt held clos seW seS leW leS x1 x2 x3 X) : CtX l γ yX3_spreadYear cX3_spreadYear 7 (some .int) 7 154 [.ref (ad 0), .int x1, .int x2, .int x3] (wB γ ad seen cnt pwc par amt held clos seW seS leW leS) (fun (E : String) (u : Ar × Ar × Ar × Ar) => X E u) (fun u => wB γ ad seen cnt pwc par u.1 held clos seW u.2.1 u.2.2.1 u.2.2.2) := startX (by decide +kernel) (Nat.le_of_ble_eq_true rfl) (fun κ C hX => by
  show G l γ κ (wB γ ad seen cnt pwc par amt held clos seW seS leW leS) [(0, .ref (ad 0)), (1, .int x1), (2, .int x2), (3, .int x3)] 0 0 [] 0
  refine g_iload_n (pc' := 1) C dX3_spreadYear_0 rfl rfl rfl ?_
  rcases hv with hv | hv
  · exact noneX C hX (run_SX (rest := []) C lk_X3_83 (mtzX3_checkVersion hfl hv) ⟨by decide, by decide⟩ rfl rfl (Nat.le_of_ble_eq_true rfl) ⟨hX.2.2.1, hX.2.2.2⟩ dX3_spreadYear_1) (fun E u1 hx => ⟨(amt, seS, leW, leS), hx, rfl⟩)
  · refine cnV (pc' := 4) C (run_SV (rest := []) C lk_X3_83 (mtX3_checkVersion hv) ⟨by decide, by decide⟩ rfl rfl (Nat.le_of_ble_eq_true rfl) ⟨Nat.zero_le _, Nat.zero_le _⟩ dX3_spreadYear_1) rfl (fun u1 hv => ?_)
    refine g_aload_n (pc' := 5) C dX3_spreadYear_4 rfl rfl rfl ?_
    refine g_iload_n (pc' := 6) C dX3_spreadYear_5 rfl rfl rfl ?_
    rcases hv with hv | hv
    · exact sameX C hX (run_VX (rest := []) C lk_X3_48 (mtzX3_checkPlace hfl hv) ⟨by decide, by decide⟩ rfl rfl rfl rfl (Nat.le_of_ble_eq_true rfl) ⟨hX.2.2.1, hX.2.2.2⟩ dX3_spreadYear_6) (fun E u6 hx => ⟨(amt, seS, leW, leS), hx, rfl⟩)
    · refine csV (pc' := 9) C (run_VV (rest := []) C lk_X3_48 (mtX3_checkPlace hv) ⟨by decide, by decide⟩ rfl rfl rfl rfl (Nat.le_of_ble_eq_true rfl) ⟨Nat.zero_le _, Nat.zero_le _⟩ dX3_spreadYear_6) rfl (fun u6 hv => ?_)
      refine g_iload_n (pc' := 10) C dX3_spreadYear_9 rfl rfl rfl ?_
      refine g_ldc (pc' := 12) C k_X3_112 dX3_spreadYear_10 rfl ?_
      rcases hv with hv | hv
      · exact noneX C hX (run_SX (rest := []) C lk_X3_95 (mtzX3_checkUpTo hfl hv) ⟨by decide, by decide⟩ rfl rfl (Nat.le_of_ble_eq_true rfl) ⟨hX.2.2.1, hX.2.2.2⟩ dX3_spreadYear_12) (fun E u12 hx => ⟨(amt, seS, leW, leS), hx, rfl⟩)
      · refine cnV (pc' := 15) C (run_SV (rest := []) C lk_X3_95 (mtX3_checkUpTo hv) ⟨by decide, by decide⟩ rfl rfl (Nat.le_of_ble_eq_true rfl) ⟨Nat.zero_le _, Nat.zero_le _⟩ dX3_spreadYear_12) rfl (fun u12 hv => ?_)
        refine g_aload_n (pc' := 16) C dX3_spreadYear_15 rfl rfl rfl ?_
        refine gf_X3_33 (pc' := 19) C dX3_spreadYear_16 rfl 0 rfl rfl ?_
        refine cfI (pc' := 22) C (run_VI (rest := []) C lk_X3_120 (mtX1_totalWeight hv) ⟨by decide, by decide⟩ rfl rfl rfl rfl (Nat.le_of_ble_eq_true rfl) ⟨Nat.zero_le _, Nat.zero_le _⟩ dX3_spreadYear_19) rfl [5, 9, 10] [0, 1, 2, 3, 4, 6, 7, 8, 11, 12] [0, 1, 2, 3, 4, 10, 5, 6, 7, 11, 12, 8, 9] nd_BS5 di_BS5 (fun u19 => wB γ ad seen cnt pwc par amt held clos seW seS leW leS) rfl rfl (fun _ => rfl) (fun r19 u19 hv => ?_)
        obtain ⟨hv1, hv2⟩ := hv
        refine g_if_ne (pc' := 25) (tgt := 35) C dX3_spreadYear_22 rfl (by decide) (fun c => ?_) (fun c => ?_)
        · have hv := hv1 c
          refine g_aload_n (pc' := 36) C dX3_spreadYear_35 rfl rfl rfl ?_
          refine gf_X3_12 (pc' := 39) C dX3_spreadYear_36 rfl 0 rfl rfl ?_
          refine g_iload_n (pc' := 40) C dX3_spreadYear_39 rfl rfl rfl ?_
          refine cfI (pc' := 43) C (run_VI (rest := []) C lk_X3_80 (mtX2_leavesBelow hv) ⟨by decide, by decide⟩ rfl rfl rfl rfl (Nat.le_of_ble_eq_true rfl) ⟨Nat.zero_le _, Nat.zero_le _⟩ dX3_spreadYear_40) rfl [1, 7] [0, 2, 3, 4, 5, 6, 8, 9, 10, 11, 12] [0, 11, 1, 2, 3, 4, 5, 12, 6, 7, 8, 9, 10] nd_BT1 di_BT1 (fun u40 => wB γ ad seen cnt pwc par amt held clos seW seS leW leS) rfl rfl (fun _ => rfl) (fun r40 u40 hv => ?_)
          refine g_istore (pc' := 45) (lv' := [(4, .int r40), (0, .ref (ad 0)), (1, .int x1), (2, .int x2), (3, .int x3)]) C dX3_spreadYear_43 rfl (by decide) rfl ?_
          refine g_aload_n (pc' := 46) C dX3_spreadYear_45 rfl rfl rfl ?_
          refine gf_X3_33 (pc' := 49) C dX3_spreadYear_46 rfl 0 rfl rfl ?_
          refine g_iload_n (pc' := 50) C dX3_spreadYear_49 rfl rfl rfl ?_
          refine cfV (pc' := 53) C (run_VV (rest := []) C lk_X3_125 (mtX1_divide hv) ⟨by decide, by decide⟩ rfl rfl rfl rfl (Nat.le_of_ble_eq_true rfl) ⟨Nat.zero_le _, Nat.zero_le _⟩ dX3_spreadYear_50) rfl [5, 9, 10] [0, 1, 2, 3, 4, 6, 7, 8, 11, 12] [0, 1, 2, 3, 4, 10, 5, 6, 7, 11, 12, 8, 9] nd_BS5 di_BS5 (fun u50 => wB γ ad seen cnt pwc par amt held clos seW u50 leW leS) rfl rfl (fun _ => rfl) (fun u50 hv => ?_)
          refine g_iconst (pc' := 54) (v := (0 : Int32)) C dX3_spreadYear_53 rfl (by decide) ?_
          refine g_istore (pc' := 56) (lv' := [(5, .int (0 : Int32)), (4, .int r40), (0, .ref (ad 0)), (1, .int x1), (2, .int x2), (3, .int x3)]) C dX3_spreadYear_54 rfl (by decide) rfl ?_
          refine g_sub (lv' := [(0, .ref (ad 0)), (1, .int x1), (4, .int r40), (5, .int (0 : Int32))]) [2, 3, 1, 0] rfl ?_
          obtain ⟨n56, hv⟩ := hv
          exact wzX3_spreadYear_L56 hfl C hX  n56 _ hv
        · have hv := hv2 c
          exact g_throw hfl C hX (amt, seS, leW, leS) (th_eIS (List.mem_of_getElem? (i := 3) rfl)) (by decide) dX3_spreadYear_25 dX3_spreadYear_28 dX3_spreadYear_29 dX3_spreadYear_31 dX3_spreadYear_34 rfl hv)
def vX3_copy (amt : Ar) (clos : Ar) (x1 : Int32) (x2 : Int32) (Q : Int32 → (Ar) → Prop) : Prop := (vX3_checkVersion x1 ((vX3_checkVersion x2 (((¬ x1 = x2 → (vp_in x2 3 ∧ (((clos x2.toNatClampNeg) = (0 : Int32) → (vX0_copyLayer amt x1 x2 (fun r48 u48 => (Q r48 u48)))) ∧ (¬ (clos x2.toNatClampNeg) = (0 : Int32) → False)))) ∧ (x1 = x2 → False))))))
set_option maxHeartbeats 4000000 in
set_option maxRecDepth 100000 in
theorem mtX3_copy {l : Launch} {γ : Gm} {ad : Nat → Nat} {seen : Int32} {cnt : Int32} {pwc : Int32} {par : Ar} {amt : Ar} {held : Ar} {clos : Ar} {seW : Ar} {seS : Ar} {leW : Ar} {leS : Ar} {x1 : Int32} {x2 : Int32} {Q : Int32 → (Ar) → Prop} (hv : vX3_copy amt clos x1 x2 Q) : CtI l γ yX3_copy cX3_copy 3 .int 7 102 0 0 [.ref (ad 0), .int x1, .int x2] (wB γ ad seen cnt pwc par amt held clos seW seS leW leS) (fun (r : Int32) (u : Ar) => Q r u) (fun u => wB γ ad seen cnt pwc par u held clos seW seS leW leS) := startI (by decide +kernel) (Nat.le_of_ble_eq_true rfl) (fun κ C RT hR hnm => by
  show G l γ κ (wB γ ad seen cnt pwc par amt held clos seW seS leW leS) [(0, .ref (ad 0)), (1, .int x1), (2, .int x2)] 0 0 [] 0
  refine g_iload_n (pc' := 1) C dX3_copy_0 rfl rfl rfl ?_
  refine cnV (pc' := 4) C (run_SV (rest := []) C lk_X3_83 (mtX3_checkVersion hv) ⟨by decide, by decide⟩ rfl rfl (Nat.le_of_ble_eq_true rfl) ⟨Nat.zero_le _, Nat.zero_le _⟩ dX3_copy_1) rfl (fun u1 hv => ?_)
  refine g_iload_n (pc' := 5) C dX3_copy_4 rfl rfl rfl ?_
  refine cnV (pc' := 8) C (run_SV (rest := []) C lk_X3_83 (mtX3_checkVersion hv) ⟨by decide, by decide⟩ rfl rfl (Nat.le_of_ble_eq_true rfl) ⟨Nat.zero_le _, Nat.zero_le _⟩ dX3_copy_5) rfl (fun u5 hv => ?_)
  refine g_iload_n (pc' := 9) C dX3_copy_8 rfl rfl rfl ?_
  refine g_iload_n (pc' := 10) C dX3_copy_9 rfl rfl rfl ?_
  obtain ⟨hv1, hv2⟩ := hv
  refine g_icmp_ne (pc' := 13) (tgt := 23) C dX3_copy_10 rfl (by decide) (fun c => ?_) (fun c => ?_)
  · have hv := hv1 c
    refine g_aload_n (pc' := 24) C dX3_copy_23 rfl rfl rfl ?_
    refine gf_X3_27 (pc' := 27) C dX3_copy_24 rfl 0 rfl rfl ?_
    refine g_iload_n (pc' := 28) C dX3_copy_27 rfl rfl rfl ?_
    obtain ⟨hi, hv⟩ := hv
    refine g_iald (pc' := 29) C dX3_copy_28 rfl 4 rfl hi ?_
    obtain ⟨hv1, hv2⟩ := hv
    refine g_if_eq (pc' := 32) (tgt := 42) C dX3_copy_29 rfl (by decide) (fun c => ?_) (fun c => ?_)
    · have hv := hv1 c
      refine g_aload_n (pc' := 43) C dX3_copy_42 rfl rfl rfl ?_
      refine gf_X3_19 (pc' := 46) C dX3_copy_43 rfl 0 rfl rfl ?_
      refine g_iload_n (pc' := 47) C dX3_copy_46 rfl rfl rfl ?_
      refine g_iload_n (pc' := 48) C dX3_copy_47 rfl rfl rfl ?_
      refine cfI (pc' := 51) C (run_VI (rest := []) C lk_X3_138 (mtX0_copyLayer hv) ⟨by decide, by decide⟩ rfl rfl rfl rfl (Nat.le_of_ble_eq_true rfl) ⟨Nat.zero_le _, Nat.zero_le _⟩ dX3_copy_48) rfl [2, 8] [0, 1, 3, 4, 5, 6, 7, 9, 10, 11, 12] [0, 1, 11, 2, 3, 4, 5, 6, 12, 7, 8, 9, 10] nd_BC2 di_BC2 (fun u48 => wB γ ad seen cnt pwc par u48 held clos seW seS leW leS) rfl rfl (fun _ => rfl) (fun r48 u48 hv => ?_)
      exact RT r48 u48 _ _ _ _ dX3_copy_51 rfl (by decide) (by decide) hv
    · have hv := hv2 c
      exact hv.elim
  · have hv := hv2 c
    exact hv.elim)
def zX3_copy (amt : Ar) (clos : Ar) (x1 : Int32) (x2 : Int32) (X : String → (Ar) → Prop) : Prop := ((zX3_checkVersion x1 (fun E => X E amt)) ∨ (vX3_checkVersion x1 (((zX3_checkVersion x2 (fun E => X E amt)) ∨ (vX3_checkVersion x2 (((¬ x1 = x2 → (vp_in x2 3 ∧ (((clos x2.toNatClampNeg) = (0 : Int32) → False) ∧ (¬ (clos x2.toNatClampNeg) = (0 : Int32) → (X eIS amt))))) ∧ (x1 = x2 → (X eIA amt)))))))))
set_option maxHeartbeats 4000000 in
set_option maxRecDepth 100000 in
theorem mtzX3_copy {l : Launch} (hfl : l.stackTraces = false) {γ : Gm} {ad : Nat → Nat} {seen : Int32} {cnt : Int32} {pwc : Int32} {par : Ar} {amt : Ar} {held : Ar} {clos : Ar} {seW : Ar} {seS : Ar} {leW : Ar} {leS : Ar} {x1 : Int32} {x2 : Int32} {X : String → (Ar) → Prop} (hv : zX3_copy amt clos x1 x2 X) : CtX l γ yX3_copy cX3_copy 3 (some .int) 7 102 [.ref (ad 0), .int x1, .int x2] (wB γ ad seen cnt pwc par amt held clos seW seS leW leS) (fun (E : String) (u : Ar) => X E u) (fun u => wB γ ad seen cnt pwc par u held clos seW seS leW leS) := startX (by decide +kernel) (Nat.le_of_ble_eq_true rfl) (fun κ C hX => by
  show G l γ κ (wB γ ad seen cnt pwc par amt held clos seW seS leW leS) [(0, .ref (ad 0)), (1, .int x1), (2, .int x2)] 0 0 [] 0
  refine g_iload_n (pc' := 1) C dX3_copy_0 rfl rfl rfl ?_
  rcases hv with hv | hv
  · exact noneX C hX (run_SX (rest := []) C lk_X3_83 (mtzX3_checkVersion hfl hv) ⟨by decide, by decide⟩ rfl rfl (Nat.le_of_ble_eq_true rfl) ⟨hX.2.2.1, hX.2.2.2⟩ dX3_copy_1) (fun E u1 hx => ⟨amt, hx, rfl⟩)
  · refine cnV (pc' := 4) C (run_SV (rest := []) C lk_X3_83 (mtX3_checkVersion hv) ⟨by decide, by decide⟩ rfl rfl (Nat.le_of_ble_eq_true rfl) ⟨Nat.zero_le _, Nat.zero_le _⟩ dX3_copy_1) rfl (fun u1 hv => ?_)
    refine g_iload_n (pc' := 5) C dX3_copy_4 rfl rfl rfl ?_
    rcases hv with hv | hv
    · exact noneX C hX (run_SX (rest := []) C lk_X3_83 (mtzX3_checkVersion hfl hv) ⟨by decide, by decide⟩ rfl rfl (Nat.le_of_ble_eq_true rfl) ⟨hX.2.2.1, hX.2.2.2⟩ dX3_copy_5) (fun E u5 hx => ⟨amt, hx, rfl⟩)
    · refine cnV (pc' := 8) C (run_SV (rest := []) C lk_X3_83 (mtX3_checkVersion hv) ⟨by decide, by decide⟩ rfl rfl (Nat.le_of_ble_eq_true rfl) ⟨Nat.zero_le _, Nat.zero_le _⟩ dX3_copy_5) rfl (fun u5 hv => ?_)
      refine g_iload_n (pc' := 9) C dX3_copy_8 rfl rfl rfl ?_
      refine g_iload_n (pc' := 10) C dX3_copy_9 rfl rfl rfl ?_
      obtain ⟨hv1, hv2⟩ := hv
      refine g_icmp_ne (pc' := 13) (tgt := 23) C dX3_copy_10 rfl (by decide) (fun c => ?_) (fun c => ?_)
      · have hv := hv1 c
        refine g_aload_n (pc' := 24) C dX3_copy_23 rfl rfl rfl ?_
        refine gf_X3_27 (pc' := 27) C dX3_copy_24 rfl 0 rfl rfl ?_
        refine g_iload_n (pc' := 28) C dX3_copy_27 rfl rfl rfl ?_
        obtain ⟨hi, hv⟩ := hv
        refine g_iald (pc' := 29) C dX3_copy_28 rfl 4 rfl hi ?_
        obtain ⟨hv1, hv2⟩ := hv
        refine g_if_eq (pc' := 32) (tgt := 42) C dX3_copy_29 rfl (by decide) (fun c => ?_) (fun c => ?_)
        · have hv := hv1 c
          exact hv.elim
        · have hv := hv2 c
          exact g_throw hfl C hX amt (th_eIS (List.mem_of_getElem? (i := 5) rfl)) (by decide) dX3_copy_32 dX3_copy_35 dX3_copy_36 dX3_copy_38 dX3_copy_41 rfl hv
      · have hv := hv2 c
        exact g_throw hfl C hX amt (th_eIA (List.mem_of_getElem? (i := 4) rfl)) (by decide) dX3_copy_13 dX3_copy_16 dX3_copy_17 dX3_copy_19 dX3_copy_22 rfl hv)
def vX3_handIn (cnt : Int32) (pwc : Int32) (par : Ar) (clos : Ar) (x1 : Int32) (x2 : Int32) (Q : Int32 → (Ar) → Prop) : Prop := (vX3_checkVersion x1 ((vX3_checkPlace cnt x2 ((vX2_leavesBelow cnt pwc par x2 (fun r14 => (vp_in x1 3 ∧ (vp_in x1 3 ∧ (vp_in x1 3 ∧ (vJ6_bitCount_0f7a4 (r14 &&& ((clos x1.toNatClampNeg) ^^^ (-1 : Int32))) (fun r38 => (Q r38 (upd clos x1.toNatClampNeg ((clos x1.toNatClampNeg) ||| (r14 &&& ((clos x1.toNatClampNeg) ^^^ (-1 : Int32)))))))))))))))))
set_option maxHeartbeats 4000000 in
set_option maxRecDepth 100000 in
theorem mtX3_handIn {l : Launch} {γ : Gm} {ad : Nat → Nat} {seen : Int32} {cnt : Int32} {pwc : Int32} {par : Ar} {amt : Ar} {held : Ar} {clos : Ar} {seW : Ar} {seS : Ar} {leW : Ar} {leS : Ar} {x1 : Int32} {x2 : Int32} {Q : Int32 → (Ar) → Prop} (hv : vX3_handIn cnt pwc par clos x1 x2 Q) : CtI l γ yX3_handIn cX3_handIn 4 .int 7 103 0 0 [.ref (ad 0), .int x1, .int x2] (wB γ ad seen cnt pwc par amt held clos seW seS leW leS) (fun (r : Int32) (u : Ar) => Q r u) (fun u => wB γ ad seen cnt pwc par amt held u seW seS leW leS) := startI (by decide +kernel) (Nat.le_of_ble_eq_true rfl) (fun κ C RT hR hnm => by
  show G l γ κ (wB γ ad seen cnt pwc par amt held clos seW seS leW leS) [(0, .ref (ad 0)), (1, .int x1), (2, .int x2)] 0 0 [] 0
  refine g_iload_n (pc' := 1) C dX3_handIn_0 rfl rfl rfl ?_
  refine cnV (pc' := 4) C (run_SV (rest := []) C lk_X3_83 (mtX3_checkVersion hv) ⟨by decide, by decide⟩ rfl rfl (Nat.le_of_ble_eq_true rfl) ⟨Nat.zero_le _, Nat.zero_le _⟩ dX3_handIn_1) rfl (fun u1 hv => ?_)
  refine g_aload_n (pc' := 5) C dX3_handIn_4 rfl rfl rfl ?_
  refine g_iload_n (pc' := 6) C dX3_handIn_5 rfl rfl rfl ?_
  refine csV (pc' := 9) C (run_VV (rest := []) C lk_X3_48 (mtX3_checkPlace hv) ⟨by decide, by decide⟩ rfl rfl rfl rfl (Nat.le_of_ble_eq_true rfl) ⟨Nat.zero_le _, Nat.zero_le _⟩ dX3_handIn_6) rfl (fun u6 hv => ?_)
  refine g_aload_n (pc' := 10) C dX3_handIn_9 rfl rfl rfl ?_
  refine gf_X3_12 (pc' := 13) C dX3_handIn_10 rfl 0 rfl rfl ?_
  refine g_iload_n (pc' := 14) C dX3_handIn_13 rfl rfl rfl ?_
  refine cfI (pc' := 17) C (run_VI (rest := []) C lk_X3_80 (mtX2_leavesBelow hv) ⟨by decide, by decide⟩ rfl rfl rfl rfl (Nat.le_of_ble_eq_true rfl) ⟨Nat.zero_le _, Nat.zero_le _⟩ dX3_handIn_14) rfl [1, 7] [0, 2, 3, 4, 5, 6, 8, 9, 10, 11, 12] [0, 11, 1, 2, 3, 4, 5, 12, 6, 7, 8, 9, 10] nd_BT1 di_BT1 (fun u14 => wB γ ad seen cnt pwc par amt held clos seW seS leW leS) rfl rfl (fun _ => rfl) (fun r14 u14 hv => ?_)
  refine g_aload_n (pc' := 18) C dX3_handIn_17 rfl rfl rfl ?_
  refine gf_X3_27 (pc' := 21) C dX3_handIn_18 rfl 0 rfl rfl ?_
  refine g_iload_n (pc' := 22) C dX3_handIn_21 rfl rfl rfl ?_
  obtain ⟨hi, hv⟩ := hv
  refine g_iald (pc' := 23) C dX3_handIn_22 rfl 4 rfl hi ?_
  refine g_iconst (pc' := 24) (v := (-1 : Int32)) C dX3_handIn_23 rfl (by decide) ?_
  refine g_ixor (pc' := 25) C dX3_handIn_24 rfl ?_
  refine g_iand (pc' := 26) C dX3_handIn_25 rfl ?_
  refine g_istore_n (pc' := 27) (lv' := [(3, .int (r14 &&& ((clos x1.toNatClampNeg) ^^^ (-1 : Int32)))), (0, .ref (ad 0)), (1, .int x1), (2, .int x2)]) C dX3_handIn_26 rfl rfl (by decide) rfl ?_
  refine g_aload_n (pc' := 28) C dX3_handIn_27 rfl rfl rfl ?_
  refine gf_X3_27 (pc' := 31) C dX3_handIn_28 rfl 0 rfl rfl ?_
  refine g_iload_n (pc' := 32) C dX3_handIn_31 rfl rfl rfl ?_
  refine g_dup2 (pc' := 33) C dX3_handIn_32 rfl rfl rfl ?_
  obtain ⟨hi, hv⟩ := hv
  refine g_iald (pc' := 34) C dX3_handIn_33 rfl 4 rfl hi ?_
  refine g_iload_n (pc' := 35) C dX3_handIn_34 rfl rfl rfl ?_
  refine g_ior (pc' := 36) C dX3_handIn_35 rfl ?_
  obtain ⟨hi, hv⟩ := hv
  refine g_iast (pc' := 37) (ws' := wB γ ad seen cnt pwc par amt held (upd clos x1.toNatClampNeg ((clos x1.toNatClampNeg) ||| (r14 &&& ((clos x1.toNatClampNeg) ^^^ (-1 : Int32))))) seW seS leW leS) C dX3_handIn_36 rfl 4 rfl hi rfl ?_
  refine g_iload_n (pc' := 38) C dX3_handIn_37 rfl rfl rfl ?_
  refine cnI (pc' := 41) C (run_SI (rest := []) C lk_X3_141 (mtJ6_bitCount_0f7a4 hv) ⟨by decide, by decide⟩ rfl rfl (Nat.le_of_ble_eq_true rfl) ⟨Nat.zero_le _, Nat.zero_le _⟩ dX3_handIn_38) rfl (fun r38 u38 hv => ?_)
  exact RT r38 (upd clos x1.toNatClampNeg ((clos x1.toNatClampNeg) ||| (r14 &&& ((clos x1.toNatClampNeg) ^^^ (-1 : Int32))))) _ _ _ _ dX3_handIn_41 rfl (by decide) (by decide) hv)
def zX3_handIn (cnt : Int32) (pwc : Int32) (par : Ar) (clos : Ar) (x1 : Int32) (x2 : Int32) (X : String → (Ar) → Prop) : Prop := ((zX3_checkVersion x1 (fun E => X E clos)) ∨ (vX3_checkVersion x1 ((zX3_checkPlace cnt x2 (fun E => X E clos)))))
set_option maxHeartbeats 4000000 in
set_option maxRecDepth 100000 in
theorem mtzX3_handIn {l : Launch} (hfl : l.stackTraces = false) {γ : Gm} {ad : Nat → Nat} {seen : Int32} {cnt : Int32} {pwc : Int32} {par : Ar} {amt : Ar} {held : Ar} {clos : Ar} {seW : Ar} {seS : Ar} {leW : Ar} {leS : Ar} {x1 : Int32} {x2 : Int32} {X : String → (Ar) → Prop} (hv : zX3_handIn cnt pwc par clos x1 x2 X) : CtX l γ yX3_handIn cX3_handIn 4 (some .int) 7 103 [.ref (ad 0), .int x1, .int x2] (wB γ ad seen cnt pwc par amt held clos seW seS leW leS) (fun (E : String) (u : Ar) => X E u) (fun u => wB γ ad seen cnt pwc par amt held u seW seS leW leS) := startX (by decide +kernel) (Nat.le_of_ble_eq_true rfl) (fun κ C hX => by
  show G l γ κ (wB γ ad seen cnt pwc par amt held clos seW seS leW leS) [(0, .ref (ad 0)), (1, .int x1), (2, .int x2)] 0 0 [] 0
  refine g_iload_n (pc' := 1) C dX3_handIn_0 rfl rfl rfl ?_
  rcases hv with hv | hv
  · exact noneX C hX (run_SX (rest := []) C lk_X3_83 (mtzX3_checkVersion hfl hv) ⟨by decide, by decide⟩ rfl rfl (Nat.le_of_ble_eq_true rfl) ⟨hX.2.2.1, hX.2.2.2⟩ dX3_handIn_1) (fun E u1 hx => ⟨clos, hx, rfl⟩)
  · refine cnV (pc' := 4) C (run_SV (rest := []) C lk_X3_83 (mtX3_checkVersion hv) ⟨by decide, by decide⟩ rfl rfl (Nat.le_of_ble_eq_true rfl) ⟨Nat.zero_le _, Nat.zero_le _⟩ dX3_handIn_1) rfl (fun u1 hv => ?_)
    refine g_aload_n (pc' := 5) C dX3_handIn_4 rfl rfl rfl ?_
    refine g_iload_n (pc' := 6) C dX3_handIn_5 rfl rfl rfl ?_
    exact sameX C hX (run_VX (rest := []) C lk_X3_48 (mtzX3_checkPlace hfl hv) ⟨by decide, by decide⟩ rfl rfl rfl rfl (Nat.le_of_ble_eq_true rfl) ⟨hX.2.2.1, hX.2.2.2⟩ dX3_handIn_6) (fun E u6 hx => ⟨clos, hx, rfl⟩))
def vX3_takeBack (cnt : Int32) (pwc : Int32) (par : Ar) (clos : Ar) (x1 : Int32) (x2 : Int32) (Q : Int32 → (Ar) → Prop) : Prop := (vX3_checkVersion x1 ((vX3_checkPlace cnt x2 ((vX2_leavesBelow cnt pwc par x2 (fun r14 => (vp_in x1 3 ∧ (vp_in x1 3 ∧ (vp_in x1 3 ∧ (vJ6_bitCount_0f7a4 (r14 &&& (clos x1.toNatClampNeg)) (fun r38 => (Q r38 (upd clos x1.toNatClampNeg ((clos x1.toNatClampNeg) &&& ((r14 &&& (clos x1.toNatClampNeg)) ^^^ (-1 : Int32))))))))))))))))
set_option maxHeartbeats 4000000 in
set_option maxRecDepth 100000 in
theorem mtX3_takeBack {l : Launch} {γ : Gm} {ad : Nat → Nat} {seen : Int32} {cnt : Int32} {pwc : Int32} {par : Ar} {amt : Ar} {held : Ar} {clos : Ar} {seW : Ar} {seS : Ar} {leW : Ar} {leS : Ar} {x1 : Int32} {x2 : Int32} {Q : Int32 → (Ar) → Prop} (hv : vX3_takeBack cnt pwc par clos x1 x2 Q) : CtI l γ yX3_takeBack cX3_takeBack 4 .int 7 103 0 0 [.ref (ad 0), .int x1, .int x2] (wB γ ad seen cnt pwc par amt held clos seW seS leW leS) (fun (r : Int32) (u : Ar) => Q r u) (fun u => wB γ ad seen cnt pwc par amt held u seW seS leW leS) := startI (by decide +kernel) (Nat.le_of_ble_eq_true rfl) (fun κ C RT hR hnm => by
  show G l γ κ (wB γ ad seen cnt pwc par amt held clos seW seS leW leS) [(0, .ref (ad 0)), (1, .int x1), (2, .int x2)] 0 0 [] 0
  refine g_iload_n (pc' := 1) C dX3_takeBack_0 rfl rfl rfl ?_
  refine cnV (pc' := 4) C (run_SV (rest := []) C lk_X3_83 (mtX3_checkVersion hv) ⟨by decide, by decide⟩ rfl rfl (Nat.le_of_ble_eq_true rfl) ⟨Nat.zero_le _, Nat.zero_le _⟩ dX3_takeBack_1) rfl (fun u1 hv => ?_)
  refine g_aload_n (pc' := 5) C dX3_takeBack_4 rfl rfl rfl ?_
  refine g_iload_n (pc' := 6) C dX3_takeBack_5 rfl rfl rfl ?_
  refine csV (pc' := 9) C (run_VV (rest := []) C lk_X3_48 (mtX3_checkPlace hv) ⟨by decide, by decide⟩ rfl rfl rfl rfl (Nat.le_of_ble_eq_true rfl) ⟨Nat.zero_le _, Nat.zero_le _⟩ dX3_takeBack_6) rfl (fun u6 hv => ?_)
  refine g_aload_n (pc' := 10) C dX3_takeBack_9 rfl rfl rfl ?_
  refine gf_X3_12 (pc' := 13) C dX3_takeBack_10 rfl 0 rfl rfl ?_
  refine g_iload_n (pc' := 14) C dX3_takeBack_13 rfl rfl rfl ?_
  refine cfI (pc' := 17) C (run_VI (rest := []) C lk_X3_80 (mtX2_leavesBelow hv) ⟨by decide, by decide⟩ rfl rfl rfl rfl (Nat.le_of_ble_eq_true rfl) ⟨Nat.zero_le _, Nat.zero_le _⟩ dX3_takeBack_14) rfl [1, 7] [0, 2, 3, 4, 5, 6, 8, 9, 10, 11, 12] [0, 11, 1, 2, 3, 4, 5, 12, 6, 7, 8, 9, 10] nd_BT1 di_BT1 (fun u14 => wB γ ad seen cnt pwc par amt held clos seW seS leW leS) rfl rfl (fun _ => rfl) (fun r14 u14 hv => ?_)
  refine g_aload_n (pc' := 18) C dX3_takeBack_17 rfl rfl rfl ?_
  refine gf_X3_27 (pc' := 21) C dX3_takeBack_18 rfl 0 rfl rfl ?_
  refine g_iload_n (pc' := 22) C dX3_takeBack_21 rfl rfl rfl ?_
  obtain ⟨hi, hv⟩ := hv
  refine g_iald (pc' := 23) C dX3_takeBack_22 rfl 4 rfl hi ?_
  refine g_iand (pc' := 24) C dX3_takeBack_23 rfl ?_
  refine g_istore_n (pc' := 25) (lv' := [(3, .int (r14 &&& (clos x1.toNatClampNeg))), (0, .ref (ad 0)), (1, .int x1), (2, .int x2)]) C dX3_takeBack_24 rfl rfl (by decide) rfl ?_
  refine g_aload_n (pc' := 26) C dX3_takeBack_25 rfl rfl rfl ?_
  refine gf_X3_27 (pc' := 29) C dX3_takeBack_26 rfl 0 rfl rfl ?_
  refine g_iload_n (pc' := 30) C dX3_takeBack_29 rfl rfl rfl ?_
  refine g_dup2 (pc' := 31) C dX3_takeBack_30 rfl rfl rfl ?_
  obtain ⟨hi, hv⟩ := hv
  refine g_iald (pc' := 32) C dX3_takeBack_31 rfl 4 rfl hi ?_
  refine g_iload_n (pc' := 33) C dX3_takeBack_32 rfl rfl rfl ?_
  refine g_iconst (pc' := 34) (v := (-1 : Int32)) C dX3_takeBack_33 rfl (by decide) ?_
  refine g_ixor (pc' := 35) C dX3_takeBack_34 rfl ?_
  refine g_iand (pc' := 36) C dX3_takeBack_35 rfl ?_
  obtain ⟨hi, hv⟩ := hv
  refine g_iast (pc' := 37) (ws' := wB γ ad seen cnt pwc par amt held (upd clos x1.toNatClampNeg ((clos x1.toNatClampNeg) &&& ((r14 &&& (clos x1.toNatClampNeg)) ^^^ (-1 : Int32)))) seW seS leW leS) C dX3_takeBack_36 rfl 4 rfl hi rfl ?_
  refine g_iload_n (pc' := 38) C dX3_takeBack_37 rfl rfl rfl ?_
  refine cnI (pc' := 41) C (run_SI (rest := []) C lk_X3_141 (mtJ6_bitCount_0f7a4 hv) ⟨by decide, by decide⟩ rfl rfl (Nat.le_of_ble_eq_true rfl) ⟨Nat.zero_le _, Nat.zero_le _⟩ dX3_takeBack_38) rfl (fun r38 u38 hv => ?_)
  exact RT r38 (upd clos x1.toNatClampNeg ((clos x1.toNatClampNeg) &&& ((r14 &&& (clos x1.toNatClampNeg)) ^^^ (-1 : Int32)))) _ _ _ _ dX3_takeBack_41 rfl (by decide) (by decide) hv)
def zX3_takeBack (cnt : Int32) (pwc : Int32) (par : Ar) (clos : Ar) (x1 : Int32) (x2 : Int32) (X : String → (Ar) → Prop) : Prop := ((zX3_checkVersion x1 (fun E => X E clos)) ∨ (vX3_checkVersion x1 ((zX3_checkPlace cnt x2 (fun E => X E clos)))))
set_option maxHeartbeats 4000000 in
set_option maxRecDepth 100000 in
theorem mtzX3_takeBack {l : Launch} (hfl : l.stackTraces = false) {γ : Gm} {ad : Nat → Nat} {seen : Int32} {cnt : Int32} {pwc : Int32} {par : Ar} {amt : Ar} {held : Ar} {clos : Ar} {seW : Ar} {seS : Ar} {leW : Ar} {leS : Ar} {x1 : Int32} {x2 : Int32} {X : String → (Ar) → Prop} (hv : zX3_takeBack cnt pwc par clos x1 x2 X) : CtX l γ yX3_takeBack cX3_takeBack 4 (some .int) 7 103 [.ref (ad 0), .int x1, .int x2] (wB γ ad seen cnt pwc par amt held clos seW seS leW leS) (fun (E : String) (u : Ar) => X E u) (fun u => wB γ ad seen cnt pwc par amt held u seW seS leW leS) := startX (by decide +kernel) (Nat.le_of_ble_eq_true rfl) (fun κ C hX => by
  show G l γ κ (wB γ ad seen cnt pwc par amt held clos seW seS leW leS) [(0, .ref (ad 0)), (1, .int x1), (2, .int x2)] 0 0 [] 0
  refine g_iload_n (pc' := 1) C dX3_takeBack_0 rfl rfl rfl ?_
  rcases hv with hv | hv
  · exact noneX C hX (run_SX (rest := []) C lk_X3_83 (mtzX3_checkVersion hfl hv) ⟨by decide, by decide⟩ rfl rfl (Nat.le_of_ble_eq_true rfl) ⟨hX.2.2.1, hX.2.2.2⟩ dX3_takeBack_1) (fun E u1 hx => ⟨clos, hx, rfl⟩)
  · refine cnV (pc' := 4) C (run_SV (rest := []) C lk_X3_83 (mtX3_checkVersion hv) ⟨by decide, by decide⟩ rfl rfl (Nat.le_of_ble_eq_true rfl) ⟨Nat.zero_le _, Nat.zero_le _⟩ dX3_takeBack_1) rfl (fun u1 hv => ?_)
    refine g_aload_n (pc' := 5) C dX3_takeBack_4 rfl rfl rfl ?_
    refine g_iload_n (pc' := 6) C dX3_takeBack_5 rfl rfl rfl ?_
    exact sameX C hX (run_VX (rest := []) C lk_X3_48 (mtzX3_checkPlace hfl hv) ⟨by decide, by decide⟩ rfl rfl rfl rfl (Nat.le_of_ble_eq_true rfl) ⟨hX.2.2.1, hX.2.2.2⟩ dX3_takeBack_6) (fun E u6 hx => ⟨clos, hx, rfl⟩))
def vX3_see (cnt : Int32) (pwc : Int32) (amt : Ar) (x1 : Int32) (x2 : Int32) (x3 : Int32) (x4 : Int32) (Q : Int32 → (Ar) → Prop) : Prop := (vX3_checkPlace cnt x1 ((vX3_checkCellAccount x2 ((vX3_checkMonth x3 ((vX3_mostOf x2 (fun r16 => (vX3_checkUpTo x4 r16 ((vX3_checkLeaf pwc x1 ((vX0_put amt (3 : Int32) x1 x2 x3 x4 (fun r37 u37 => (Q r37 u37)))))))))))))))
set_option maxHeartbeats 4000000 in
set_option maxRecDepth 100000 in
theorem mtX3_see {l : Launch} {γ : Gm} {ad : Nat → Nat} {seen : Int32} {cnt : Int32} {pwc : Int32} {par : Ar} {amt : Ar} {held : Ar} {clos : Ar} {seW : Ar} {seS : Ar} {leW : Ar} {leS : Ar} {x1 : Int32} {x2 : Int32} {x3 : Int32} {x4 : Int32} {Q : Int32 → (Ar) → Prop} (hv : vX3_see cnt pwc amt x1 x2 x3 x4 Q) : CtI l γ yX3_see cX3_see 5 .int 7 103 0 0 [.ref (ad 0), .int x1, .int x2, .int x3, .int x4] (wB γ ad seen cnt pwc par amt held clos seW seS leW leS) (fun (r : Int32) (u : Ar) => Q r u) (fun u => wB γ ad seen cnt pwc par u held clos seW seS leW leS) := startI (by decide +kernel) (Nat.le_of_ble_eq_true rfl) (fun κ C RT hR hnm => by
  show G l γ κ (wB γ ad seen cnt pwc par amt held clos seW seS leW leS) [(0, .ref (ad 0)), (1, .int x1), (2, .int x2), (3, .int x3), (4, .int x4)] 0 0 [] 0
  refine g_aload_n (pc' := 1) C dX3_see_0 rfl rfl rfl ?_
  refine g_iload_n (pc' := 2) C dX3_see_1 rfl rfl rfl ?_
  refine csV (pc' := 5) C (run_VV (rest := []) C lk_X3_48 (mtX3_checkPlace hv) ⟨by decide, by decide⟩ rfl rfl rfl rfl (Nat.le_of_ble_eq_true rfl) ⟨Nat.zero_le _, Nat.zero_le _⟩ dX3_see_2) rfl (fun u2 hv => ?_)
  refine g_iload_n (pc' := 6) C dX3_see_5 rfl rfl rfl ?_
  refine cnV (pc' := 9) C (run_SV (rest := []) C lk_X3_86 (mtX3_checkCellAccount hv) ⟨by decide, by decide⟩ rfl rfl (Nat.le_of_ble_eq_true rfl) ⟨Nat.zero_le _, Nat.zero_le _⟩ dX3_see_6) rfl (fun u6 hv => ?_)
  refine g_iload_n (pc' := 10) C dX3_see_9 rfl rfl rfl ?_
  refine cnV (pc' := 13) C (run_SV (rest := []) C lk_X3_89 (mtX3_checkMonth hv) ⟨by decide, by decide⟩ rfl rfl (Nat.le_of_ble_eq_true rfl) ⟨Nat.zero_le _, Nat.zero_le _⟩ dX3_see_10) rfl (fun u10 hv => ?_)
  refine g_iload (pc' := 15) C dX3_see_13 rfl rfl ?_
  refine g_iload_n (pc' := 16) C dX3_see_15 rfl rfl rfl ?_
  refine cnI (pc' := 19) C (run_SI (rest := [.int x4]) C lk_X3_92 (mtX3_mostOf hv) ⟨by decide, by decide⟩ rfl rfl (Nat.le_of_ble_eq_true rfl) ⟨Nat.zero_le _, Nat.zero_le _⟩ dX3_see_16) rfl (fun r16 u16 hv => ?_)
  refine cnV (pc' := 22) C (run_SV (rest := []) C lk_X3_95 (mtX3_checkUpTo hv) ⟨by decide, by decide⟩ rfl rfl (Nat.le_of_ble_eq_true rfl) ⟨Nat.zero_le _, Nat.zero_le _⟩ dX3_see_19) rfl (fun u19 hv => ?_)
  refine g_aload_n (pc' := 23) C dX3_see_22 rfl rfl rfl ?_
  refine g_iload_n (pc' := 24) C dX3_see_23 rfl rfl rfl ?_
  refine csV (pc' := 27) C (run_VV (rest := []) C lk_X3_99 (mtX3_checkLeaf hv) ⟨by decide, by decide⟩ rfl rfl rfl rfl (Nat.le_of_ble_eq_true rfl) ⟨Nat.zero_le _, Nat.zero_le _⟩ dX3_see_24) rfl (fun u24 hv => ?_)
  refine g_aload_n (pc' := 28) C dX3_see_27 rfl rfl rfl ?_
  refine gf_X3_19 (pc' := 31) C dX3_see_28 rfl 0 rfl rfl ?_
  refine g_iconst (pc' := 32) (v := (3 : Int32)) C dX3_see_31 rfl (by decide) ?_
  refine g_iload_n (pc' := 33) C dX3_see_32 rfl rfl rfl ?_
  refine g_iload_n (pc' := 34) C dX3_see_33 rfl rfl rfl ?_
  refine g_iload_n (pc' := 35) C dX3_see_34 rfl rfl rfl ?_
  refine g_iload (pc' := 37) C dX3_see_35 rfl rfl ?_
  refine cfI (pc' := 40) C (run_VI (rest := []) C lk_X3_108 (mtX0_put hv) ⟨by decide, by decide⟩ rfl rfl rfl rfl (Nat.le_of_ble_eq_true rfl) ⟨Nat.zero_le _, Nat.zero_le _⟩ dX3_see_37) rfl [2, 8] [0, 1, 3, 4, 5, 6, 7, 9, 10, 11, 12] [0, 1, 11, 2, 3, 4, 5, 6, 12, 7, 8, 9, 10] nd_BC2 di_BC2 (fun u37 => wB γ ad seen cnt pwc par u37 held clos seW seS leW leS) rfl rfl (fun _ => rfl) (fun r37 u37 hv => ?_)
  exact RT r37 u37 _ _ _ _ dX3_see_40 rfl (by decide) (by decide) hv)
def zX3_see (cnt : Int32) (pwc : Int32) (amt : Ar) (x1 : Int32) (x2 : Int32) (x3 : Int32) (x4 : Int32) (X : String → (Ar) → Prop) : Prop := ((zX3_checkPlace cnt x1 (fun E => X E amt)) ∨ (vX3_checkPlace cnt x1 (((zX3_checkCellAccount x2 (fun E => X E amt)) ∨ (vX3_checkCellAccount x2 (((zX3_checkMonth x3 (fun E => X E amt)) ∨ (vX3_checkMonth x3 ((vX3_mostOf x2 (fun r16 => ((zX3_checkUpTo x4 r16 (fun E => X E amt)) ∨ (vX3_checkUpTo x4 r16 ((zX3_checkLeaf pwc x1 (fun E => X E amt))))))))))))))))
set_option maxHeartbeats 4000000 in
set_option maxRecDepth 100000 in
theorem mtzX3_see {l : Launch} (hfl : l.stackTraces = false) {γ : Gm} {ad : Nat → Nat} {seen : Int32} {cnt : Int32} {pwc : Int32} {par : Ar} {amt : Ar} {held : Ar} {clos : Ar} {seW : Ar} {seS : Ar} {leW : Ar} {leS : Ar} {x1 : Int32} {x2 : Int32} {x3 : Int32} {x4 : Int32} {X : String → (Ar) → Prop} (hv : zX3_see cnt pwc amt x1 x2 x3 x4 X) : CtX l γ yX3_see cX3_see 5 (some .int) 7 103 [.ref (ad 0), .int x1, .int x2, .int x3, .int x4] (wB γ ad seen cnt pwc par amt held clos seW seS leW leS) (fun (E : String) (u : Ar) => X E u) (fun u => wB γ ad seen cnt pwc par u held clos seW seS leW leS) := startX (by decide +kernel) (Nat.le_of_ble_eq_true rfl) (fun κ C hX => by
  show G l γ κ (wB γ ad seen cnt pwc par amt held clos seW seS leW leS) [(0, .ref (ad 0)), (1, .int x1), (2, .int x2), (3, .int x3), (4, .int x4)] 0 0 [] 0
  refine g_aload_n (pc' := 1) C dX3_see_0 rfl rfl rfl ?_
  refine g_iload_n (pc' := 2) C dX3_see_1 rfl rfl rfl ?_
  rcases hv with hv | hv
  · exact sameX C hX (run_VX (rest := []) C lk_X3_48 (mtzX3_checkPlace hfl hv) ⟨by decide, by decide⟩ rfl rfl rfl rfl (Nat.le_of_ble_eq_true rfl) ⟨hX.2.2.1, hX.2.2.2⟩ dX3_see_2) (fun E u2 hx => ⟨amt, hx, rfl⟩)
  · refine csV (pc' := 5) C (run_VV (rest := []) C lk_X3_48 (mtX3_checkPlace hv) ⟨by decide, by decide⟩ rfl rfl rfl rfl (Nat.le_of_ble_eq_true rfl) ⟨Nat.zero_le _, Nat.zero_le _⟩ dX3_see_2) rfl (fun u2 hv => ?_)
    refine g_iload_n (pc' := 6) C dX3_see_5 rfl rfl rfl ?_
    rcases hv with hv | hv
    · exact noneX C hX (run_SX (rest := []) C lk_X3_86 (mtzX3_checkCellAccount hfl hv) ⟨by decide, by decide⟩ rfl rfl (Nat.le_of_ble_eq_true rfl) ⟨hX.2.2.1, hX.2.2.2⟩ dX3_see_6) (fun E u6 hx => ⟨amt, hx, rfl⟩)
    · refine cnV (pc' := 9) C (run_SV (rest := []) C lk_X3_86 (mtX3_checkCellAccount hv) ⟨by decide, by decide⟩ rfl rfl (Nat.le_of_ble_eq_true rfl) ⟨Nat.zero_le _, Nat.zero_le _⟩ dX3_see_6) rfl (fun u6 hv => ?_)
      refine g_iload_n (pc' := 10) C dX3_see_9 rfl rfl rfl ?_
      rcases hv with hv | hv
      · exact noneX C hX (run_SX (rest := []) C lk_X3_89 (mtzX3_checkMonth hfl hv) ⟨by decide, by decide⟩ rfl rfl (Nat.le_of_ble_eq_true rfl) ⟨hX.2.2.1, hX.2.2.2⟩ dX3_see_10) (fun E u10 hx => ⟨amt, hx, rfl⟩)
      · refine cnV (pc' := 13) C (run_SV (rest := []) C lk_X3_89 (mtX3_checkMonth hv) ⟨by decide, by decide⟩ rfl rfl (Nat.le_of_ble_eq_true rfl) ⟨Nat.zero_le _, Nat.zero_le _⟩ dX3_see_10) rfl (fun u10 hv => ?_)
        refine g_iload (pc' := 15) C dX3_see_13 rfl rfl ?_
        refine g_iload_n (pc' := 16) C dX3_see_15 rfl rfl rfl ?_
        refine cnI (pc' := 19) C (run_SI (rest := [.int x4]) C lk_X3_92 (mtX3_mostOf hv) ⟨by decide, by decide⟩ rfl rfl (Nat.le_of_ble_eq_true rfl) ⟨Nat.zero_le _, Nat.zero_le _⟩ dX3_see_16) rfl (fun r16 u16 hv => ?_)
        rcases hv with hv | hv
        · exact noneX C hX (run_SX (rest := []) C lk_X3_95 (mtzX3_checkUpTo hfl hv) ⟨by decide, by decide⟩ rfl rfl (Nat.le_of_ble_eq_true rfl) ⟨hX.2.2.1, hX.2.2.2⟩ dX3_see_19) (fun E u19 hx => ⟨amt, hx, rfl⟩)
        · refine cnV (pc' := 22) C (run_SV (rest := []) C lk_X3_95 (mtX3_checkUpTo hv) ⟨by decide, by decide⟩ rfl rfl (Nat.le_of_ble_eq_true rfl) ⟨Nat.zero_le _, Nat.zero_le _⟩ dX3_see_19) rfl (fun u19 hv => ?_)
          refine g_aload_n (pc' := 23) C dX3_see_22 rfl rfl rfl ?_
          refine g_iload_n (pc' := 24) C dX3_see_23 rfl rfl rfl ?_
          exact sameX C hX (run_VX (rest := []) C lk_X3_99 (mtzX3_checkLeaf hfl hv) ⟨by decide, by decide⟩ rfl rfl rfl rfl (Nat.le_of_ble_eq_true rfl) ⟨hX.2.2.1, hX.2.2.2⟩ dX3_see_24) (fun E u24 hx => ⟨amt, hx, rfl⟩))
def vX3_closeMonth (seen : Int32) (Q : Int32 → (Int32) → Prop) : Prop := ((seen < (12 : Int32) → (Q (seen + (1 : Int32)) (seen + (1 : Int32)))) ∧ (¬ seen < (12 : Int32) → False))
set_option maxHeartbeats 4000000 in
set_option maxRecDepth 100000 in
theorem mtX3_closeMonth {l : Launch} {γ : Gm} {ad : Nat → Nat} {seen : Int32} {cnt : Int32} {pwc : Int32} {par : Ar} {amt : Ar} {held : Ar} {clos : Ar} {seW : Ar} {seS : Ar} {leW : Ar} {leS : Ar} {Q : Int32 → (Int32) → Prop} (hv : vX3_closeMonth seen Q) : CtI l γ yX3_closeMonth cX3_closeMonth 1 .int 6 82 0 0 [.ref (ad 0)] (wB γ ad seen cnt pwc par amt held clos seW seS leW leS) (fun (r : Int32) (u : Int32) => Q r u) (fun u => wB γ ad u cnt pwc par amt held clos seW seS leW leS) := startI (by decide +kernel) (Nat.le_of_ble_eq_true rfl) (fun κ C RT hR hnm => by
  show G l γ κ (wB γ ad seen cnt pwc par amt held clos seW seS leW leS) [(0, .ref (ad 0))] 0 0 [] 0
  refine g_aload_n (pc' := 1) C dX3_closeMonth_0 rfl rfl rfl ?_
  refine gf_X3_40 (pc' := 4) C dX3_closeMonth_1 rfl 0 rfl rfl ?_
  refine g_bipush (pc' := 6) (v := (12 : Int32)) C dX3_closeMonth_4 rfl (by decide) ?_
  obtain ⟨hv1, hv2⟩ := hv
  refine g_icmp_lt (pc' := 9) (tgt := 19) C dX3_closeMonth_6 rfl (by decide) (fun c => ?_) (fun c => ?_)
  · have hv := hv1 c
    refine g_aload_n (pc' := 20) C dX3_closeMonth_19 rfl rfl rfl ?_
    refine g_dup (pc' := 21) C dX3_closeMonth_20 rfl rfl ?_
    refine gf_X3_40 (pc' := 24) C dX3_closeMonth_21 rfl 0 rfl rfl ?_
    refine g_iconst (pc' := 25) (v := (1 : Int32)) C dX3_closeMonth_24 rfl (by decide) ?_
    refine g_iadd (pc' := 26) C dX3_closeMonth_25 rfl ?_
    refine pf_X3_40 (pc' := 29) (ws' := wB γ ad (seen + (1 : Int32)) cnt pwc par amt held clos seW seS leW leS) C dX3_closeMonth_26 rfl 0 rfl rfl rfl (Nat.le_of_ble_eq_true rfl) rfl ?_
    refine g_aload_n (pc' := 30) C dX3_closeMonth_29 rfl rfl rfl ?_
    refine gf_X3_40 (pc' := 33) C dX3_closeMonth_30 rfl 0 rfl rfl ?_
    exact RT (seen + (1 : Int32)) (seen + (1 : Int32)) _ _ _ _ dX3_closeMonth_33 rfl (by decide) (by decide) hv
  · have hv := hv2 c
    exact hv.elim)
def zX3_closeMonth (seen : Int32) (X : String → (Int32) → Prop) : Prop := ((seen < (12 : Int32) → False) ∧ (¬ seen < (12 : Int32) → (X eIS seen)))
set_option maxHeartbeats 4000000 in
set_option maxRecDepth 100000 in
theorem mtzX3_closeMonth {l : Launch} (hfl : l.stackTraces = false) {γ : Gm} {ad : Nat → Nat} {seen : Int32} {cnt : Int32} {pwc : Int32} {par : Ar} {amt : Ar} {held : Ar} {clos : Ar} {seW : Ar} {seS : Ar} {leW : Ar} {leS : Ar} {X : String → (Int32) → Prop} (hv : zX3_closeMonth seen X) : CtX l γ yX3_closeMonth cX3_closeMonth 1 (some .int) 6 82 [.ref (ad 0)] (wB γ ad seen cnt pwc par amt held clos seW seS leW leS) (fun (E : String) (u : Int32) => X E u) (fun u => wB γ ad u cnt pwc par amt held clos seW seS leW leS) := startX (by decide +kernel) (Nat.le_of_ble_eq_true rfl) (fun κ C hX => by
  show G l γ κ (wB γ ad seen cnt pwc par amt held clos seW seS leW leS) [(0, .ref (ad 0))] 0 0 [] 0
  refine g_aload_n (pc' := 1) C dX3_closeMonth_0 rfl rfl rfl ?_
  refine gf_X3_40 (pc' := 4) C dX3_closeMonth_1 rfl 0 rfl rfl ?_
  refine g_bipush (pc' := 6) (v := (12 : Int32)) C dX3_closeMonth_4 rfl (by decide) ?_
  obtain ⟨hv1, hv2⟩ := hv
  refine g_icmp_lt (pc' := 9) (tgt := 19) C dX3_closeMonth_6 rfl (by decide) (fun c => ?_) (fun c => ?_)
  · have hv := hv1 c
    exact hv.elim
  · have hv := hv2 c
    exact g_throw hfl C hX seen (th_eIS (List.mem_of_getElem? (i := 6) rfl)) (by decide) dX3_closeMonth_9 dX3_closeMonth_12 dX3_closeMonth_13 dX3_closeMonth_15 dX3_closeMonth_18 rfl hv)
def vX3_amount (cnt : Int32) (pwc : Int32) (par : Ar) (amt : Ar) (x1 : Int32) (x2 : Int32) (x3 : Int32) (x4 : Int32) (Q : Int32 → Prop) : Prop := (vX3_checkVersion x1 ((vX3_checkPlace cnt x2 ((vX3_checkAccount x3 ((vX3_checkMonth x4 ((vX2_leavesBelow cnt pwc par x2 (fun r28 => (vX0_sumOver amt x1 r28 x3 x4 (fun r34 => (Q r34)))))))))))))
set_option maxHeartbeats 4000000 in
set_option maxRecDepth 100000 in
theorem mtX3_amount {l : Launch} {γ : Gm} {ad : Nat → Nat} {seen : Int32} {cnt : Int32} {pwc : Int32} {par : Ar} {amt : Ar} {held : Ar} {clos : Ar} {seW : Ar} {seS : Ar} {leW : Ar} {leS : Ar} {x1 : Int32} {x2 : Int32} {x3 : Int32} {x4 : Int32} {Q : Int32 → Prop} (hv : vX3_amount cnt pwc par amt x1 x2 x3 x4 Q) : CtI l γ yX3_amount cX3_amount 5 .int 7 103 0 0 [.ref (ad 0), .int x1, .int x2, .int x3, .int x4] (wB γ ad seen cnt pwc par amt held clos seW seS leW leS) (fun (r : Int32) (_ : Unit) => Q r) (fun _ => wB γ ad seen cnt pwc par amt held clos seW seS leW leS) := startI (by decide +kernel) (Nat.le_of_ble_eq_true rfl) (fun κ C RT hR hnm => by
  show G l γ κ (wB γ ad seen cnt pwc par amt held clos seW seS leW leS) [(0, .ref (ad 0)), (1, .int x1), (2, .int x2), (3, .int x3), (4, .int x4)] 0 0 [] 0
  refine g_iload_n (pc' := 1) C dX3_amount_0 rfl rfl rfl ?_
  refine cnV (pc' := 4) C (run_SV (rest := []) C lk_X3_83 (mtX3_checkVersion hv) ⟨by decide, by decide⟩ rfl rfl (Nat.le_of_ble_eq_true rfl) ⟨Nat.zero_le _, Nat.zero_le _⟩ dX3_amount_1) rfl (fun u1 hv => ?_)
  refine g_aload_n (pc' := 5) C dX3_amount_4 rfl rfl rfl ?_
  refine g_iload_n (pc' := 6) C dX3_amount_5 rfl rfl rfl ?_
  refine csV (pc' := 9) C (run_VV (rest := []) C lk_X3_48 (mtX3_checkPlace hv) ⟨by decide, by decide⟩ rfl rfl rfl rfl (Nat.le_of_ble_eq_true rfl) ⟨Nat.zero_le _, Nat.zero_le _⟩ dX3_amount_6) rfl (fun u6 hv => ?_)
  refine g_iload_n (pc' := 10) C dX3_amount_9 rfl rfl rfl ?_
  refine cnV (pc' := 13) C (run_SV (rest := []) C lk_X3_148 (mtX3_checkAccount hv) ⟨by decide, by decide⟩ rfl rfl (Nat.le_of_ble_eq_true rfl) ⟨Nat.zero_le _, Nat.zero_le _⟩ dX3_amount_10) rfl (fun u10 hv => ?_)
  refine g_iload (pc' := 15) C dX3_amount_13 rfl rfl ?_
  refine cnV (pc' := 18) C (run_SV (rest := []) C lk_X3_89 (mtX3_checkMonth hv) ⟨by decide, by decide⟩ rfl rfl (Nat.le_of_ble_eq_true rfl) ⟨Nat.zero_le _, Nat.zero_le _⟩ dX3_amount_15) rfl (fun u15 hv => ?_)
  refine g_aload_n (pc' := 19) C dX3_amount_18 rfl rfl rfl ?_
  refine gf_X3_19 (pc' := 22) C dX3_amount_19 rfl 0 rfl rfl ?_
  refine g_iload_n (pc' := 23) C dX3_amount_22 rfl rfl rfl ?_
  refine g_aload_n (pc' := 24) C dX3_amount_23 rfl rfl rfl ?_
  refine gf_X3_12 (pc' := 27) C dX3_amount_24 rfl 0 rfl rfl ?_
  refine g_iload_n (pc' := 28) C dX3_amount_27 rfl rfl rfl ?_
  refine cfI (pc' := 31) C (run_VI (rest := [.int x1, .ref (ad 2)]) C lk_X3_80 (mtX2_leavesBelow hv) ⟨by decide, by decide⟩ rfl rfl rfl rfl (Nat.le_of_ble_eq_true rfl) ⟨Nat.zero_le _, Nat.zero_le _⟩ dX3_amount_28) rfl [1, 7] [0, 2, 3, 4, 5, 6, 8, 9, 10, 11, 12] [0, 11, 1, 2, 3, 4, 5, 12, 6, 7, 8, 9, 10] nd_BT1 di_BT1 (fun u28 => wB γ ad seen cnt pwc par amt held clos seW seS leW leS) rfl rfl (fun _ => rfl) (fun r28 u28 hv => ?_)
  refine g_iload_n (pc' := 32) C dX3_amount_31 rfl rfl rfl ?_
  refine g_iload (pc' := 34) C dX3_amount_32 rfl rfl ?_
  refine cfI (pc' := 37) C (run_VI (rest := []) C lk_X3_151 (mtX0_sumOver hv) ⟨by decide, by decide⟩ rfl rfl rfl rfl (Nat.le_of_ble_eq_true rfl) ⟨Nat.zero_le _, Nat.zero_le _⟩ dX3_amount_34) rfl [2, 8] [0, 1, 3, 4, 5, 6, 7, 9, 10, 11, 12] [0, 1, 11, 2, 3, 4, 5, 6, 12, 7, 8, 9, 10] nd_BC2 di_BC2 (fun u34 => wB γ ad seen cnt pwc par amt held clos seW seS leW leS) rfl rfl (fun _ => rfl) (fun r34 u34 hv => ?_)
  exact RT r34 () _ _ _ _ dX3_amount_37 rfl (by decide) (by decide) hv)
def zX3_amount (cnt : Int32) (pwc : Int32) (par : Ar) (amt : Ar) (x1 : Int32) (x2 : Int32) (x3 : Int32) (x4 : Int32) (X : String → Prop) : Prop := ((zX3_checkVersion x1 (fun E => X E)) ∨ (vX3_checkVersion x1 (((zX3_checkPlace cnt x2 (fun E => X E)) ∨ (vX3_checkPlace cnt x2 (((zX3_checkAccount x3 (fun E => X E)) ∨ (vX3_checkAccount x3 ((zX3_checkMonth x4 (fun E => X E)))))))))))
set_option maxHeartbeats 4000000 in
set_option maxRecDepth 100000 in
theorem mtzX3_amount {l : Launch} (hfl : l.stackTraces = false) {γ : Gm} {ad : Nat → Nat} {seen : Int32} {cnt : Int32} {pwc : Int32} {par : Ar} {amt : Ar} {held : Ar} {clos : Ar} {seW : Ar} {seS : Ar} {leW : Ar} {leS : Ar} {x1 : Int32} {x2 : Int32} {x3 : Int32} {x4 : Int32} {X : String → Prop} (hv : zX3_amount cnt pwc par amt x1 x2 x3 x4 X) : CtX l γ yX3_amount cX3_amount 5 (some .int) 7 103 [.ref (ad 0), .int x1, .int x2, .int x3, .int x4] (wB γ ad seen cnt pwc par amt held clos seW seS leW leS) (fun (E : String) (_ : Unit) => X E) (fun _ => wB γ ad seen cnt pwc par amt held clos seW seS leW leS) := startX (by decide +kernel) (Nat.le_of_ble_eq_true rfl) (fun κ C hX => by
  show G l γ κ (wB γ ad seen cnt pwc par amt held clos seW seS leW leS) [(0, .ref (ad 0)), (1, .int x1), (2, .int x2), (3, .int x3), (4, .int x4)] 0 0 [] 0
  refine g_iload_n (pc' := 1) C dX3_amount_0 rfl rfl rfl ?_
  rcases hv with hv | hv
  · exact noneX C hX (run_SX (rest := []) C lk_X3_83 (mtzX3_checkVersion hfl hv) ⟨by decide, by decide⟩ rfl rfl (Nat.le_of_ble_eq_true rfl) ⟨hX.2.2.1, hX.2.2.2⟩ dX3_amount_1) (fun E u1 hx => ⟨(), hx, rfl⟩)
  · refine cnV (pc' := 4) C (run_SV (rest := []) C lk_X3_83 (mtX3_checkVersion hv) ⟨by decide, by decide⟩ rfl rfl (Nat.le_of_ble_eq_true rfl) ⟨Nat.zero_le _, Nat.zero_le _⟩ dX3_amount_1) rfl (fun u1 hv => ?_)
    refine g_aload_n (pc' := 5) C dX3_amount_4 rfl rfl rfl ?_
    refine g_iload_n (pc' := 6) C dX3_amount_5 rfl rfl rfl ?_
    rcases hv with hv | hv
    · exact sameX C hX (run_VX (rest := []) C lk_X3_48 (mtzX3_checkPlace hfl hv) ⟨by decide, by decide⟩ rfl rfl rfl rfl (Nat.le_of_ble_eq_true rfl) ⟨hX.2.2.1, hX.2.2.2⟩ dX3_amount_6) (fun E u6 hx => ⟨(), hx, rfl⟩)
    · refine csV (pc' := 9) C (run_VV (rest := []) C lk_X3_48 (mtX3_checkPlace hv) ⟨by decide, by decide⟩ rfl rfl rfl rfl (Nat.le_of_ble_eq_true rfl) ⟨Nat.zero_le _, Nat.zero_le _⟩ dX3_amount_6) rfl (fun u6 hv => ?_)
      refine g_iload_n (pc' := 10) C dX3_amount_9 rfl rfl rfl ?_
      rcases hv with hv | hv
      · exact noneX C hX (run_SX (rest := []) C lk_X3_148 (mtzX3_checkAccount hfl hv) ⟨by decide, by decide⟩ rfl rfl (Nat.le_of_ble_eq_true rfl) ⟨hX.2.2.1, hX.2.2.2⟩ dX3_amount_10) (fun E u10 hx => ⟨(), hx, rfl⟩)
      · refine cnV (pc' := 13) C (run_SV (rest := []) C lk_X3_148 (mtX3_checkAccount hv) ⟨by decide, by decide⟩ rfl rfl (Nat.le_of_ble_eq_true rfl) ⟨Nat.zero_le _, Nat.zero_le _⟩ dX3_amount_10) rfl (fun u10 hv => ?_)
        refine g_iload (pc' := 15) C dX3_amount_13 rfl rfl ?_
        exact noneX C hX (run_SX (rest := []) C lk_X3_89 (mtzX3_checkMonth hfl hv) ⟨by decide, by decide⟩ rfl rfl (Nat.le_of_ble_eq_true rfl) ⟨hX.2.2.1, hX.2.2.2⟩ dX3_amount_15) (fun E u15 hx => ⟨(), hx, rfl⟩))
def vX3_outlook_J32 (seen : Int32) (cnt : Int32) (pwc : Int32) (par : Ar) (amt : Ar) (x2 : Int32) (x3 : Int32) (x4 : Int32) (s0 : Int32) (Q : Int32 → Prop) : Prop := (vX2_leavesBelow cnt pwc par x2 (fun r45 => (vX0_sumOver amt s0 r45 x3 x4 (fun r51 => (Q r51)))))
set_option maxHeartbeats 4000000 in
set_option maxRecDepth 100000 in
theorem wvX3_outlook_J32 {l : Launch} {γ : Gm} {κ : Kx} {ad : Nat → Nat} {seen : Int32} {cnt : Int32} {pwc : Int32} {par : Ar} {amt : Ar} {held : Ar} {clos : Ar} {seW : Ar} {seS : Ar} {leW : Ar} {leS : Ar} {x2 : Int32} {x3 : Int32} {x4 : Int32} {s0 : Int32} {Q : Int32 → Prop} (C : Ok γ κ cX3_outlook 6 RX3 7 103) (RT : RtI l γ κ cX3_outlook .int 0 0 (fun (r : Int32) (_ : Unit) => Q r) (fun _ => wB γ ad seen cnt pwc par amt held clos seW seS leW leS))  (hv : vX3_outlook_J32 seen cnt pwc par amt x2 x3 x4 s0 Q) : G l γ κ (wB γ ad seen cnt pwc par amt held clos seW seS leW leS) [(0, .ref (ad 0)), (2, .int x2), (3, .int x3), (4, .int x4)] 0 0 [.int s0] 32 := by
  refine g_istore (pc' := 34) (lv' := [(5, .int s0), (0, .ref (ad 0)), (2, .int x2), (3, .int x3), (4, .int x4)]) C dX3_outlook_32 rfl (by decide) rfl ?_
  refine g_aload_n (pc' := 35) C dX3_outlook_34 rfl rfl rfl ?_
  refine gf_X3_19 (pc' := 38) C dX3_outlook_35 rfl 0 rfl rfl ?_
  refine g_iload (pc' := 40) C dX3_outlook_38 rfl rfl ?_
  refine g_aload_n (pc' := 41) C dX3_outlook_40 rfl rfl rfl ?_
  refine gf_X3_12 (pc' := 44) C dX3_outlook_41 rfl 0 rfl rfl ?_
  refine g_iload_n (pc' := 45) C dX3_outlook_44 rfl rfl rfl ?_
  refine cfI (pc' := 48) C (run_VI (rest := [.int s0, .ref (ad 2)]) C lk_X3_80 (mtX2_leavesBelow hv) ⟨by decide, by decide⟩ rfl rfl rfl rfl (Nat.le_of_ble_eq_true rfl) ⟨Nat.zero_le _, Nat.zero_le _⟩ dX3_outlook_45) rfl [1, 7] [0, 2, 3, 4, 5, 6, 8, 9, 10, 11, 12] [0, 11, 1, 2, 3, 4, 5, 12, 6, 7, 8, 9, 10] nd_BT1 di_BT1 (fun u45 => wB γ ad seen cnt pwc par amt held clos seW seS leW leS) rfl rfl (fun _ => rfl) (fun r45 u45 hv => ?_)
  refine g_iload_n (pc' := 49) C dX3_outlook_48 rfl rfl rfl ?_
  refine g_iload (pc' := 51) C dX3_outlook_49 rfl rfl ?_
  refine cfI (pc' := 54) C (run_VI (rest := []) C lk_X3_151 (mtX0_sumOver hv) ⟨by decide, by decide⟩ rfl rfl rfl rfl (Nat.le_of_ble_eq_true rfl) ⟨Nat.zero_le _, Nat.zero_le _⟩ dX3_outlook_51) rfl [2, 8] [0, 1, 3, 4, 5, 6, 7, 9, 10, 11, 12] [0, 1, 11, 2, 3, 4, 5, 6, 12, 7, 8, 9, 10] nd_BC2 di_BC2 (fun u51 => wB γ ad seen cnt pwc par amt held clos seW seS leW leS) rfl rfl (fun _ => rfl) (fun r51 u51 hv => ?_)
  exact RT r51 () _ _ _ _ dX3_outlook_54 rfl (by decide) (by decide) hv
def vX3_outlook (seen : Int32) (cnt : Int32) (pwc : Int32) (par : Ar) (amt : Ar) (x1 : Int32) (x2 : Int32) (x3 : Int32) (x4 : Int32) (Q : Int32 → Prop) : Prop := (vX3_checkVersion x1 ((vX3_checkPlace cnt x2 ((vX3_checkAccount x3 ((vX3_checkMonth x4 (((seen ≤ x4 → (vX3_outlook_J32 seen cnt pwc par amt x2 x3 x4 x1 Q)) ∧ (¬ seen ≤ x4 → (vX3_outlook_J32 seen cnt pwc par amt x2 x3 x4 (3 : Int32) Q)))))))))))
set_option maxHeartbeats 4000000 in
set_option maxRecDepth 100000 in
theorem mtX3_outlook {l : Launch} {γ : Gm} {ad : Nat → Nat} {seen : Int32} {cnt : Int32} {pwc : Int32} {par : Ar} {amt : Ar} {held : Ar} {clos : Ar} {seW : Ar} {seS : Ar} {leW : Ar} {leS : Ar} {x1 : Int32} {x2 : Int32} {x3 : Int32} {x4 : Int32} {Q : Int32 → Prop} (hv : vX3_outlook seen cnt pwc par amt x1 x2 x3 x4 Q) : CtI l γ yX3_outlook cX3_outlook 6 .int 7 103 0 0 [.ref (ad 0), .int x1, .int x2, .int x3, .int x4] (wB γ ad seen cnt pwc par amt held clos seW seS leW leS) (fun (r : Int32) (_ : Unit) => Q r) (fun _ => wB γ ad seen cnt pwc par amt held clos seW seS leW leS) := startI (by decide +kernel) (Nat.le_of_ble_eq_true rfl) (fun κ C RT hR hnm => by
  show G l γ κ (wB γ ad seen cnt pwc par amt held clos seW seS leW leS) [(0, .ref (ad 0)), (1, .int x1), (2, .int x2), (3, .int x3), (4, .int x4)] 0 0 [] 0
  refine g_iload_n (pc' := 1) C dX3_outlook_0 rfl rfl rfl ?_
  refine cnV (pc' := 4) C (run_SV (rest := []) C lk_X3_83 (mtX3_checkVersion hv) ⟨by decide, by decide⟩ rfl rfl (Nat.le_of_ble_eq_true rfl) ⟨Nat.zero_le _, Nat.zero_le _⟩ dX3_outlook_1) rfl (fun u1 hv => ?_)
  refine g_aload_n (pc' := 5) C dX3_outlook_4 rfl rfl rfl ?_
  refine g_iload_n (pc' := 6) C dX3_outlook_5 rfl rfl rfl ?_
  refine csV (pc' := 9) C (run_VV (rest := []) C lk_X3_48 (mtX3_checkPlace hv) ⟨by decide, by decide⟩ rfl rfl rfl rfl (Nat.le_of_ble_eq_true rfl) ⟨Nat.zero_le _, Nat.zero_le _⟩ dX3_outlook_6) rfl (fun u6 hv => ?_)
  refine g_iload_n (pc' := 10) C dX3_outlook_9 rfl rfl rfl ?_
  refine cnV (pc' := 13) C (run_SV (rest := []) C lk_X3_148 (mtX3_checkAccount hv) ⟨by decide, by decide⟩ rfl rfl (Nat.le_of_ble_eq_true rfl) ⟨Nat.zero_le _, Nat.zero_le _⟩ dX3_outlook_10) rfl (fun u10 hv => ?_)
  refine g_iload (pc' := 15) C dX3_outlook_13 rfl rfl ?_
  refine cnV (pc' := 18) C (run_SV (rest := []) C lk_X3_89 (mtX3_checkMonth hv) ⟨by decide, by decide⟩ rfl rfl (Nat.le_of_ble_eq_true rfl) ⟨Nat.zero_le _, Nat.zero_le _⟩ dX3_outlook_15) rfl (fun u15 hv => ?_)
  refine g_iload (pc' := 20) C dX3_outlook_18 rfl rfl ?_
  refine g_aload_n (pc' := 21) C dX3_outlook_20 rfl rfl rfl ?_
  refine gf_X3_40 (pc' := 24) C dX3_outlook_21 rfl 0 rfl rfl ?_
  obtain ⟨hv1, hv2⟩ := hv
  refine g_icmp_ge (pc' := 27) (tgt := 31) C dX3_outlook_24 rfl (by decide) (fun c => ?_) (fun c => ?_)
  · have hv := hv1 c
    refine g_iload_n (pc' := 32) C dX3_outlook_31 rfl rfl rfl ?_
    refine g_sub (lv' := [(0, .ref (ad 0)), (2, .int x2), (3, .int x3), (4, .int x4)]) [0, 2, 3, 4] rfl ?_
    exact wvX3_outlook_J32 C RT  hv
  · have hv := hv2 c
    refine g_iconst (pc' := 28) (v := (3 : Int32)) C dX3_outlook_27 rfl (by decide) ?_
    refine g_goto (tgt := 32) C dX3_outlook_28 (by decide) ?_
    refine g_sub (lv' := [(0, .ref (ad 0)), (2, .int x2), (3, .int x3), (4, .int x4)]) [0, 2, 3, 4] rfl ?_
    exact wvX3_outlook_J32 C RT  hv)
def zX3_outlook (seen : Int32) (cnt : Int32) (pwc : Int32) (par : Ar) (amt : Ar) (x1 : Int32) (x2 : Int32) (x3 : Int32) (x4 : Int32) (X : String → Prop) : Prop := ((zX3_checkVersion x1 (fun E => X E)) ∨ (vX3_checkVersion x1 (((zX3_checkPlace cnt x2 (fun E => X E)) ∨ (vX3_checkPlace cnt x2 (((zX3_checkAccount x3 (fun E => X E)) ∨ (vX3_checkAccount x3 ((zX3_checkMonth x4 (fun E => X E)))))))))))
set_option maxHeartbeats 4000000 in
set_option maxRecDepth 100000 in
theorem mtzX3_outlook {l : Launch} (hfl : l.stackTraces = false) {γ : Gm} {ad : Nat → Nat} {seen : Int32} {cnt : Int32} {pwc : Int32} {par : Ar} {amt : Ar} {held : Ar} {clos : Ar} {seW : Ar} {seS : Ar} {leW : Ar} {leS : Ar} {x1 : Int32} {x2 : Int32} {x3 : Int32} {x4 : Int32} {X : String → Prop} (hv : zX3_outlook seen cnt pwc par amt x1 x2 x3 x4 X) : CtX l γ yX3_outlook cX3_outlook 6 (some .int) 7 103 [.ref (ad 0), .int x1, .int x2, .int x3, .int x4] (wB γ ad seen cnt pwc par amt held clos seW seS leW leS) (fun (E : String) (_ : Unit) => X E) (fun _ => wB γ ad seen cnt pwc par amt held clos seW seS leW leS) := startX (by decide +kernel) (Nat.le_of_ble_eq_true rfl) (fun κ C hX => by
  show G l γ κ (wB γ ad seen cnt pwc par amt held clos seW seS leW leS) [(0, .ref (ad 0)), (1, .int x1), (2, .int x2), (3, .int x3), (4, .int x4)] 0 0 [] 0
  refine g_iload_n (pc' := 1) C dX3_outlook_0 rfl rfl rfl ?_
  rcases hv with hv | hv
  · exact noneX C hX (run_SX (rest := []) C lk_X3_83 (mtzX3_checkVersion hfl hv) ⟨by decide, by decide⟩ rfl rfl (Nat.le_of_ble_eq_true rfl) ⟨hX.2.2.1, hX.2.2.2⟩ dX3_outlook_1) (fun E u1 hx => ⟨(), hx, rfl⟩)
  · refine cnV (pc' := 4) C (run_SV (rest := []) C lk_X3_83 (mtX3_checkVersion hv) ⟨by decide, by decide⟩ rfl rfl (Nat.le_of_ble_eq_true rfl) ⟨Nat.zero_le _, Nat.zero_le _⟩ dX3_outlook_1) rfl (fun u1 hv => ?_)
    refine g_aload_n (pc' := 5) C dX3_outlook_4 rfl rfl rfl ?_
    refine g_iload_n (pc' := 6) C dX3_outlook_5 rfl rfl rfl ?_
    rcases hv with hv | hv
    · exact sameX C hX (run_VX (rest := []) C lk_X3_48 (mtzX3_checkPlace hfl hv) ⟨by decide, by decide⟩ rfl rfl rfl rfl (Nat.le_of_ble_eq_true rfl) ⟨hX.2.2.1, hX.2.2.2⟩ dX3_outlook_6) (fun E u6 hx => ⟨(), hx, rfl⟩)
    · refine csV (pc' := 9) C (run_VV (rest := []) C lk_X3_48 (mtX3_checkPlace hv) ⟨by decide, by decide⟩ rfl rfl rfl rfl (Nat.le_of_ble_eq_true rfl) ⟨Nat.zero_le _, Nat.zero_le _⟩ dX3_outlook_6) rfl (fun u6 hv => ?_)
      refine g_iload_n (pc' := 10) C dX3_outlook_9 rfl rfl rfl ?_
      rcases hv with hv | hv
      · exact noneX C hX (run_SX (rest := []) C lk_X3_148 (mtzX3_checkAccount hfl hv) ⟨by decide, by decide⟩ rfl rfl (Nat.le_of_ble_eq_true rfl) ⟨hX.2.2.1, hX.2.2.2⟩ dX3_outlook_10) (fun E u10 hx => ⟨(), hx, rfl⟩)
      · refine cnV (pc' := 13) C (run_SV (rest := []) C lk_X3_148 (mtX3_checkAccount hv) ⟨by decide, by decide⟩ rfl rfl (Nat.le_of_ble_eq_true rfl) ⟨Nat.zero_le _, Nat.zero_le _⟩ dX3_outlook_10) rfl (fun u10 hv => ?_)
        refine g_iload (pc' := 15) C dX3_outlook_13 rfl rfl ?_
        exact noneX C hX (run_SX (rest := []) C lk_X3_89 (mtzX3_checkMonth hfl hv) ⟨by decide, by decide⟩ rfl rfl (Nat.le_of_ble_eq_true rfl) ⟨hX.2.2.1, hX.2.2.2⟩ dX3_outlook_15) (fun E u15 hx => ⟨(), hx, rfl⟩))
def vX3_year_L29 (cnt : Int32) (pwc : Int32) (par : Ar) (amt : Ar) (x1 : Int32) (x3 : Int32) (x4 : Int32) (Q : Int32 → Prop) : Nat → Int32 → Int32 → Prop
  | 0, _, _ => False
  | n + 1, x5, x6 => (((12 : Int32) ≤ x6 → (Q x5)) ∧ (¬ (12 : Int32) ≤ x6 → (vX0_sumOver amt x1 x4 x3 x6 (fun r48 => (vX3_year_L29 cnt pwc par amt x1 x3 x4 Q n (x5 + r48) (x6 + (1 : Int32)))))))
set_option maxHeartbeats 4000000 in
set_option maxRecDepth 100000 in
theorem wvX3_year_L29 {l : Launch} {γ : Gm} {κ : Kx} {ad : Nat → Nat} {seen : Int32} {cnt : Int32} {pwc : Int32} {par : Ar} {amt : Ar} {held : Ar} {clos : Ar} {seW : Ar} {seS : Ar} {leW : Ar} {leS : Ar} {x1 : Int32} {x3 : Int32} {x4 : Int32} {Q : Int32 → Prop} (C : Ok γ κ cX3_year 7 RX3 7 103) (RT : RtI l γ κ cX3_year .int 0 0 (fun (r : Int32) (_ : Unit) => Q r) (fun _ => wB γ ad seen cnt pwc par amt held clos seW seS leW leS))  : ∀ (n : Nat) (x5 : Int32) (x6 : Int32), vX3_year_L29 cnt pwc par amt x1 x3 x4 Q n x5 x6 → G l γ κ (wB γ ad seen cnt pwc par amt held clos seW seS leW leS) [(0, .ref (ad 0)), (1, .int x1), (3, .int x3), (4, .int x4), (5, .int x5), (6, .int x6)] 0 0 [] 29 := by
  intro n
  induction n with
  | zero => intro x5 x6 hv; exact False.elim hv
  | succ n ih =>
    intro x5 x6 hv
    refine g_iload (pc' := 31) C dX3_year_29 rfl rfl ?_
    refine g_bipush (pc' := 33) (v := (12 : Int32)) C dX3_year_31 rfl (by decide) ?_
    obtain ⟨hv1, hv2⟩ := hv
    refine g_icmp_ge (pc' := 36) (tgt := 60) C dX3_year_33 rfl (by decide) (fun c => ?_) (fun c => ?_)
    · have hv := hv1 c
      refine g_iload (pc' := 62) C dX3_year_60 rfl rfl ?_
      exact RT x5 () _ _ _ _ dX3_year_62 rfl (by decide) (by decide) hv
    · have hv := hv2 c
      refine g_iload (pc' := 38) C dX3_year_36 rfl rfl ?_
      refine g_aload_n (pc' := 39) C dX3_year_38 rfl rfl rfl ?_
      refine gf_X3_19 (pc' := 42) C dX3_year_39 rfl 0 rfl rfl ?_
      refine g_iload_n (pc' := 43) C dX3_year_42 rfl rfl rfl ?_
      refine g_iload (pc' := 45) C dX3_year_43 rfl rfl ?_
      refine g_iload_n (pc' := 46) C dX3_year_45 rfl rfl rfl ?_
      refine g_iload (pc' := 48) C dX3_year_46 rfl rfl ?_
      refine cfI (pc' := 51) C (run_VI (rest := [.int x5]) C lk_X3_151 (mtX0_sumOver hv) ⟨by decide, by decide⟩ rfl rfl rfl rfl (Nat.le_of_ble_eq_true rfl) ⟨Nat.zero_le _, Nat.zero_le _⟩ dX3_year_48) rfl [2, 8] [0, 1, 3, 4, 5, 6, 7, 9, 10, 11, 12] [0, 1, 11, 2, 3, 4, 5, 6, 12, 7, 8, 9, 10] nd_BC2 di_BC2 (fun u48 => wB γ ad seen cnt pwc par amt held clos seW seS leW leS) rfl rfl (fun _ => rfl) (fun r48 u48 hv => ?_)
      refine g_iadd (pc' := 52) C dX3_year_51 rfl ?_
      refine g_istore (pc' := 54) (lv' := [(5, .int (x5 + r48)), (0, .ref (ad 0)), (1, .int x1), (3, .int x3), (4, .int x4), (6, .int x6)]) C dX3_year_52 rfl (by decide) rfl ?_
      refine g_iinc (pc' := 57) (v := (x6 + (1 : Int32))) (lv' := [(6, .int (x6 + (1 : Int32))), (5, .int (x5 + r48)), (0, .ref (ad 0)), (1, .int x1), (3, .int x3), (4, .int x4)]) C dX3_year_54 rfl rfl rfl (by decide) rfl ?_
      refine g_goto (tgt := 29) C dX3_year_57 (by decide) ?_
      refine g_sub (lv' := [(0, .ref (ad 0)), (1, .int x1), (3, .int x3), (4, .int x4), (5, .int (x5 + r48)), (6, .int (x6 + (1 : Int32)))]) [2, 3, 4, 5, 1, 0] rfl ?_
      exact ih _ _ hv
def vX3_year (cnt : Int32) (pwc : Int32) (par : Ar) (amt : Ar) (x1 : Int32) (x2 : Int32) (x3 : Int32) (Q : Int32 → Prop) : Prop := (vX3_checkVersion x1 ((vX3_checkPlace cnt x2 ((vX3_checkAccount x3 ((vX2_leavesBelow cnt pwc par x2 (fun r18 => (∃ n29 : Nat, vX3_year_L29 cnt pwc par amt x1 x3 r18 Q n29 (0 : Int32) (0 : Int32))))))))))
set_option maxHeartbeats 4000000 in
set_option maxRecDepth 100000 in
theorem mtX3_year {l : Launch} {γ : Gm} {ad : Nat → Nat} {seen : Int32} {cnt : Int32} {pwc : Int32} {par : Ar} {amt : Ar} {held : Ar} {clos : Ar} {seW : Ar} {seS : Ar} {leW : Ar} {leS : Ar} {x1 : Int32} {x2 : Int32} {x3 : Int32} {Q : Int32 → Prop} (hv : vX3_year cnt pwc par amt x1 x2 x3 Q) : CtI l γ yX3_year cX3_year 7 .int 7 103 0 0 [.ref (ad 0), .int x1, .int x2, .int x3] (wB γ ad seen cnt pwc par amt held clos seW seS leW leS) (fun (r : Int32) (_ : Unit) => Q r) (fun _ => wB γ ad seen cnt pwc par amt held clos seW seS leW leS) := startI (by decide +kernel) (Nat.le_of_ble_eq_true rfl) (fun κ C RT hR hnm => by
  show G l γ κ (wB γ ad seen cnt pwc par amt held clos seW seS leW leS) [(0, .ref (ad 0)), (1, .int x1), (2, .int x2), (3, .int x3)] 0 0 [] 0
  refine g_iload_n (pc' := 1) C dX3_year_0 rfl rfl rfl ?_
  refine cnV (pc' := 4) C (run_SV (rest := []) C lk_X3_83 (mtX3_checkVersion hv) ⟨by decide, by decide⟩ rfl rfl (Nat.le_of_ble_eq_true rfl) ⟨Nat.zero_le _, Nat.zero_le _⟩ dX3_year_1) rfl (fun u1 hv => ?_)
  refine g_aload_n (pc' := 5) C dX3_year_4 rfl rfl rfl ?_
  refine g_iload_n (pc' := 6) C dX3_year_5 rfl rfl rfl ?_
  refine csV (pc' := 9) C (run_VV (rest := []) C lk_X3_48 (mtX3_checkPlace hv) ⟨by decide, by decide⟩ rfl rfl rfl rfl (Nat.le_of_ble_eq_true rfl) ⟨Nat.zero_le _, Nat.zero_le _⟩ dX3_year_6) rfl (fun u6 hv => ?_)
  refine g_iload_n (pc' := 10) C dX3_year_9 rfl rfl rfl ?_
  refine cnV (pc' := 13) C (run_SV (rest := []) C lk_X3_148 (mtX3_checkAccount hv) ⟨by decide, by decide⟩ rfl rfl (Nat.le_of_ble_eq_true rfl) ⟨Nat.zero_le _, Nat.zero_le _⟩ dX3_year_10) rfl (fun u10 hv => ?_)
  refine g_aload_n (pc' := 14) C dX3_year_13 rfl rfl rfl ?_
  refine gf_X3_12 (pc' := 17) C dX3_year_14 rfl 0 rfl rfl ?_
  refine g_iload_n (pc' := 18) C dX3_year_17 rfl rfl rfl ?_
  refine cfI (pc' := 21) C (run_VI (rest := []) C lk_X3_80 (mtX2_leavesBelow hv) ⟨by decide, by decide⟩ rfl rfl rfl rfl (Nat.le_of_ble_eq_true rfl) ⟨Nat.zero_le _, Nat.zero_le _⟩ dX3_year_18) rfl [1, 7] [0, 2, 3, 4, 5, 6, 8, 9, 10, 11, 12] [0, 11, 1, 2, 3, 4, 5, 12, 6, 7, 8, 9, 10] nd_BT1 di_BT1 (fun u18 => wB γ ad seen cnt pwc par amt held clos seW seS leW leS) rfl rfl (fun _ => rfl) (fun r18 u18 hv => ?_)
  refine g_istore (pc' := 23) (lv' := [(4, .int r18), (0, .ref (ad 0)), (1, .int x1), (2, .int x2), (3, .int x3)]) C dX3_year_21 rfl (by decide) rfl ?_
  refine g_iconst (pc' := 24) (v := (0 : Int32)) C dX3_year_23 rfl (by decide) ?_
  refine g_istore (pc' := 26) (lv' := [(5, .int (0 : Int32)), (4, .int r18), (0, .ref (ad 0)), (1, .int x1), (2, .int x2), (3, .int x3)]) C dX3_year_24 rfl (by decide) rfl ?_
  refine g_iconst (pc' := 27) (v := (0 : Int32)) C dX3_year_26 rfl (by decide) ?_
  refine g_istore (pc' := 29) (lv' := [(6, .int (0 : Int32)), (5, .int (0 : Int32)), (4, .int r18), (0, .ref (ad 0)), (1, .int x1), (2, .int x2), (3, .int x3)]) C dX3_year_27 rfl (by decide) rfl ?_
  refine g_sub (lv' := [(0, .ref (ad 0)), (1, .int x1), (3, .int x3), (4, .int r18), (5, .int (0 : Int32)), (6, .int (0 : Int32))]) [3, 4, 6, 2, 1, 0] rfl ?_
  obtain ⟨n29, hv⟩ := hv
  exact wvX3_year_L29 C RT  n29 _ _ hv)
def zX3_year (cnt : Int32) (pwc : Int32) (par : Ar) (amt : Ar) (x1 : Int32) (x2 : Int32) (x3 : Int32) (X : String → Prop) : Prop := ((zX3_checkVersion x1 (fun E => X E)) ∨ (vX3_checkVersion x1 (((zX3_checkPlace cnt x2 (fun E => X E)) ∨ (vX3_checkPlace cnt x2 ((zX3_checkAccount x3 (fun E => X E))))))))
set_option maxHeartbeats 4000000 in
set_option maxRecDepth 100000 in
theorem mtzX3_year {l : Launch} (hfl : l.stackTraces = false) {γ : Gm} {ad : Nat → Nat} {seen : Int32} {cnt : Int32} {pwc : Int32} {par : Ar} {amt : Ar} {held : Ar} {clos : Ar} {seW : Ar} {seS : Ar} {leW : Ar} {leS : Ar} {x1 : Int32} {x2 : Int32} {x3 : Int32} {X : String → Prop} (hv : zX3_year cnt pwc par amt x1 x2 x3 X) : CtX l γ yX3_year cX3_year 7 (some .int) 7 103 [.ref (ad 0), .int x1, .int x2, .int x3] (wB γ ad seen cnt pwc par amt held clos seW seS leW leS) (fun (E : String) (_ : Unit) => X E) (fun _ => wB γ ad seen cnt pwc par amt held clos seW seS leW leS) := startX (by decide +kernel) (Nat.le_of_ble_eq_true rfl) (fun κ C hX => by
  show G l γ κ (wB γ ad seen cnt pwc par amt held clos seW seS leW leS) [(0, .ref (ad 0)), (1, .int x1), (2, .int x2), (3, .int x3)] 0 0 [] 0
  refine g_iload_n (pc' := 1) C dX3_year_0 rfl rfl rfl ?_
  rcases hv with hv | hv
  · exact noneX C hX (run_SX (rest := []) C lk_X3_83 (mtzX3_checkVersion hfl hv) ⟨by decide, by decide⟩ rfl rfl (Nat.le_of_ble_eq_true rfl) ⟨hX.2.2.1, hX.2.2.2⟩ dX3_year_1) (fun E u1 hx => ⟨(), hx, rfl⟩)
  · refine cnV (pc' := 4) C (run_SV (rest := []) C lk_X3_83 (mtX3_checkVersion hv) ⟨by decide, by decide⟩ rfl rfl (Nat.le_of_ble_eq_true rfl) ⟨Nat.zero_le _, Nat.zero_le _⟩ dX3_year_1) rfl (fun u1 hv => ?_)
    refine g_aload_n (pc' := 5) C dX3_year_4 rfl rfl rfl ?_
    refine g_iload_n (pc' := 6) C dX3_year_5 rfl rfl rfl ?_
    rcases hv with hv | hv
    · exact sameX C hX (run_VX (rest := []) C lk_X3_48 (mtzX3_checkPlace hfl hv) ⟨by decide, by decide⟩ rfl rfl rfl rfl (Nat.le_of_ble_eq_true rfl) ⟨hX.2.2.1, hX.2.2.2⟩ dX3_year_6) (fun E u6 hx => ⟨(), hx, rfl⟩)
    · refine csV (pc' := 9) C (run_VV (rest := []) C lk_X3_48 (mtX3_checkPlace hv) ⟨by decide, by decide⟩ rfl rfl rfl rfl (Nat.le_of_ble_eq_true rfl) ⟨Nat.zero_le _, Nat.zero_le _⟩ dX3_year_6) rfl (fun u6 hv => ?_)
      refine g_iload_n (pc' := 10) C dX3_year_9 rfl rfl rfl ?_
      exact noneX C hX (run_SX (rest := []) C lk_X3_148 (mtzX3_checkAccount hfl hv) ⟨by decide, by decide⟩ rfl rfl (Nat.le_of_ble_eq_true rfl) ⟨hX.2.2.1, hX.2.2.2⟩ dX3_year_10) (fun E u10 hx => ⟨(), hx, rfl⟩))
def vX3_yearByLeaves_L29 (cnt : Int32) (pwc : Int32) (par : Ar) (amt : Ar) (x1 : Int32) (x3 : Int32) (x4 : Int32) (Q : Int32 → Prop) : Nat → Int32 → Int32 → Prop
  | 0, _, _ => False
  | n + 1, x5, x6 => (((10 : Int32) ≤ x6 → (Q x5)) ∧ (¬ (10 : Int32) ≤ x6 → (vX3_isIn x4 x6 (fun r40 => ((r40 = (0 : Int32) → (vX3_yearByLeaves_L29 cnt pwc par amt x1 x3 x4 Q n x5 (x6 + (1 : Int32)))) ∧ (¬ r40 = (0 : Int32) → (vX0_yearOf amt x1 x6 x3 (fun r56 => (vX3_yearByLeaves_L29 cnt pwc par amt x1 x3 x4 Q n (x5 + r56) (x6 + (1 : Int32)))))))))))
set_option maxHeartbeats 4000000 in
set_option maxRecDepth 100000 in
theorem wvX3_yearByLeaves_L29 {l : Launch} {γ : Gm} {κ : Kx} {ad : Nat → Nat} {seen : Int32} {cnt : Int32} {pwc : Int32} {par : Ar} {amt : Ar} {held : Ar} {clos : Ar} {seW : Ar} {seS : Ar} {leW : Ar} {leS : Ar} {x1 : Int32} {x3 : Int32} {x4 : Int32} {Q : Int32 → Prop} (C : Ok γ κ cX3_yearByLeaves 7 RX3 7 103) (RT : RtI l γ κ cX3_yearByLeaves .int 0 0 (fun (r : Int32) (_ : Unit) => Q r) (fun _ => wB γ ad seen cnt pwc par amt held clos seW seS leW leS))  : ∀ (n : Nat) (x5 : Int32) (x6 : Int32), vX3_yearByLeaves_L29 cnt pwc par amt x1 x3 x4 Q n x5 x6 → G l γ κ (wB γ ad seen cnt pwc par amt held clos seW seS leW leS) [(0, .ref (ad 0)), (1, .int x1), (3, .int x3), (4, .int x4), (5, .int x5), (6, .int x6)] 0 0 [] 29 := by
  intro n
  induction n with
  | zero => intro x5 x6 hv; exact False.elim hv
  | succ n ih =>
    intro x5 x6 hv
    refine g_iload (pc' := 31) C dX3_yearByLeaves_29 rfl rfl ?_
    refine g_bipush (pc' := 33) (v := (10 : Int32)) C dX3_yearByLeaves_31 rfl (by decide) ?_
    obtain ⟨hv1, hv2⟩ := hv
    refine g_icmp_ge (pc' := 36) (tgt := 68) C dX3_yearByLeaves_33 rfl (by decide) (fun c => ?_) (fun c => ?_)
    · have hv := hv1 c
      refine g_iload (pc' := 70) C dX3_yearByLeaves_68 rfl rfl ?_
      exact RT x5 () _ _ _ _ dX3_yearByLeaves_70 rfl (by decide) (by decide) hv
    · have hv := hv2 c
      refine g_iload (pc' := 38) C dX3_yearByLeaves_36 rfl rfl ?_
      refine g_iload (pc' := 40) C dX3_yearByLeaves_38 rfl rfl ?_
      refine cnI (pc' := 43) C (run_SI (rest := []) C lk_X3_102 (mtX3_isIn hv) ⟨by decide, by decide⟩ rfl rfl (Nat.le_of_ble_eq_true rfl) ⟨Nat.zero_le _, Nat.zero_le _⟩ dX3_yearByLeaves_40) rfl (fun r40 u40 hv => ?_)
      obtain ⟨hv1, hv2⟩ := hv
      refine g_if_eq (pc' := 46) (tgt := 62) C dX3_yearByLeaves_43 rfl (by decide) (fun c => ?_) (fun c => ?_)
      · have hv := hv1 c
        refine g_iinc (pc' := 65) (v := (x6 + (1 : Int32))) (lv' := [(6, .int (x6 + (1 : Int32))), (0, .ref (ad 0)), (1, .int x1), (3, .int x3), (4, .int x4), (5, .int x5)]) C dX3_yearByLeaves_62 rfl rfl rfl (by decide) rfl ?_
        refine g_goto (tgt := 29) C dX3_yearByLeaves_65 (by decide) ?_
        refine g_sub (lv' := [(0, .ref (ad 0)), (1, .int x1), (3, .int x3), (4, .int x4), (5, .int x5), (6, .int (x6 + (1 : Int32)))]) [1, 2, 3, 4, 5, 0] rfl ?_
        exact ih _ _ hv
      · have hv := hv2 c
        refine g_iload (pc' := 48) C dX3_yearByLeaves_46 rfl rfl ?_
        refine g_aload_n (pc' := 49) C dX3_yearByLeaves_48 rfl rfl rfl ?_
        refine gf_X3_19 (pc' := 52) C dX3_yearByLeaves_49 rfl 0 rfl rfl ?_
        refine g_iload_n (pc' := 53) C dX3_yearByLeaves_52 rfl rfl rfl ?_
        refine g_iload (pc' := 55) C dX3_yearByLeaves_53 rfl rfl ?_
        refine g_iload_n (pc' := 56) C dX3_yearByLeaves_55 rfl rfl rfl ?_
        refine cfI (pc' := 59) C (run_VI (rest := [.int x5]) C lk_X3_155 (mtX0_yearOf hv) ⟨by decide, by decide⟩ rfl rfl rfl rfl (Nat.le_of_ble_eq_true rfl) ⟨Nat.zero_le _, Nat.zero_le _⟩ dX3_yearByLeaves_56) rfl [2, 8] [0, 1, 3, 4, 5, 6, 7, 9, 10, 11, 12] [0, 1, 11, 2, 3, 4, 5, 6, 12, 7, 8, 9, 10] nd_BC2 di_BC2 (fun u56 => wB γ ad seen cnt pwc par amt held clos seW seS leW leS) rfl rfl (fun _ => rfl) (fun r56 u56 hv => ?_)
        refine g_iadd (pc' := 60) C dX3_yearByLeaves_59 rfl ?_
        refine g_istore (pc' := 62) (lv' := [(5, .int (x5 + r56)), (0, .ref (ad 0)), (1, .int x1), (3, .int x3), (4, .int x4), (6, .int x6)]) C dX3_yearByLeaves_60 rfl (by decide) rfl ?_
        refine g_iinc (pc' := 65) (v := (x6 + (1 : Int32))) (lv' := [(6, .int (x6 + (1 : Int32))), (5, .int (x5 + r56)), (0, .ref (ad 0)), (1, .int x1), (3, .int x3), (4, .int x4)]) C dX3_yearByLeaves_62 rfl rfl rfl (by decide) rfl ?_
        refine g_goto (tgt := 29) C dX3_yearByLeaves_65 (by decide) ?_
        refine g_sub (lv' := [(0, .ref (ad 0)), (1, .int x1), (3, .int x3), (4, .int x4), (5, .int (x5 + r56)), (6, .int (x6 + (1 : Int32)))]) [2, 3, 4, 5, 1, 0] rfl ?_
        exact ih _ _ hv
def vX3_yearByLeaves (cnt : Int32) (pwc : Int32) (par : Ar) (amt : Ar) (x1 : Int32) (x2 : Int32) (x3 : Int32) (Q : Int32 → Prop) : Prop := (vX3_checkVersion x1 ((vX3_checkPlace cnt x2 ((vX3_checkAccount x3 ((vX2_leavesBelow cnt pwc par x2 (fun r18 => (∃ n29 : Nat, vX3_yearByLeaves_L29 cnt pwc par amt x1 x3 r18 Q n29 (0 : Int32) (0 : Int32))))))))))
set_option maxHeartbeats 4000000 in
set_option maxRecDepth 100000 in
theorem mtX3_yearByLeaves {l : Launch} {γ : Gm} {ad : Nat → Nat} {seen : Int32} {cnt : Int32} {pwc : Int32} {par : Ar} {amt : Ar} {held : Ar} {clos : Ar} {seW : Ar} {seS : Ar} {leW : Ar} {leS : Ar} {x1 : Int32} {x2 : Int32} {x3 : Int32} {Q : Int32 → Prop} (hv : vX3_yearByLeaves cnt pwc par amt x1 x2 x3 Q) : CtI l γ yX3_yearByLeaves cX3_yearByLeaves 7 .int 7 103 0 0 [.ref (ad 0), .int x1, .int x2, .int x3] (wB γ ad seen cnt pwc par amt held clos seW seS leW leS) (fun (r : Int32) (_ : Unit) => Q r) (fun _ => wB γ ad seen cnt pwc par amt held clos seW seS leW leS) := startI (by decide +kernel) (Nat.le_of_ble_eq_true rfl) (fun κ C RT hR hnm => by
  show G l γ κ (wB γ ad seen cnt pwc par amt held clos seW seS leW leS) [(0, .ref (ad 0)), (1, .int x1), (2, .int x2), (3, .int x3)] 0 0 [] 0
  refine g_iload_n (pc' := 1) C dX3_yearByLeaves_0 rfl rfl rfl ?_
  refine cnV (pc' := 4) C (run_SV (rest := []) C lk_X3_83 (mtX3_checkVersion hv) ⟨by decide, by decide⟩ rfl rfl (Nat.le_of_ble_eq_true rfl) ⟨Nat.zero_le _, Nat.zero_le _⟩ dX3_yearByLeaves_1) rfl (fun u1 hv => ?_)
  refine g_aload_n (pc' := 5) C dX3_yearByLeaves_4 rfl rfl rfl ?_
  refine g_iload_n (pc' := 6) C dX3_yearByLeaves_5 rfl rfl rfl ?_
  refine csV (pc' := 9) C (run_VV (rest := []) C lk_X3_48 (mtX3_checkPlace hv) ⟨by decide, by decide⟩ rfl rfl rfl rfl (Nat.le_of_ble_eq_true rfl) ⟨Nat.zero_le _, Nat.zero_le _⟩ dX3_yearByLeaves_6) rfl (fun u6 hv => ?_)
  refine g_iload_n (pc' := 10) C dX3_yearByLeaves_9 rfl rfl rfl ?_
  refine cnV (pc' := 13) C (run_SV (rest := []) C lk_X3_148 (mtX3_checkAccount hv) ⟨by decide, by decide⟩ rfl rfl (Nat.le_of_ble_eq_true rfl) ⟨Nat.zero_le _, Nat.zero_le _⟩ dX3_yearByLeaves_10) rfl (fun u10 hv => ?_)
  refine g_aload_n (pc' := 14) C dX3_yearByLeaves_13 rfl rfl rfl ?_
  refine gf_X3_12 (pc' := 17) C dX3_yearByLeaves_14 rfl 0 rfl rfl ?_
  refine g_iload_n (pc' := 18) C dX3_yearByLeaves_17 rfl rfl rfl ?_
  refine cfI (pc' := 21) C (run_VI (rest := []) C lk_X3_80 (mtX2_leavesBelow hv) ⟨by decide, by decide⟩ rfl rfl rfl rfl (Nat.le_of_ble_eq_true rfl) ⟨Nat.zero_le _, Nat.zero_le _⟩ dX3_yearByLeaves_18) rfl [1, 7] [0, 2, 3, 4, 5, 6, 8, 9, 10, 11, 12] [0, 11, 1, 2, 3, 4, 5, 12, 6, 7, 8, 9, 10] nd_BT1 di_BT1 (fun u18 => wB γ ad seen cnt pwc par amt held clos seW seS leW leS) rfl rfl (fun _ => rfl) (fun r18 u18 hv => ?_)
  refine g_istore (pc' := 23) (lv' := [(4, .int r18), (0, .ref (ad 0)), (1, .int x1), (2, .int x2), (3, .int x3)]) C dX3_yearByLeaves_21 rfl (by decide) rfl ?_
  refine g_iconst (pc' := 24) (v := (0 : Int32)) C dX3_yearByLeaves_23 rfl (by decide) ?_
  refine g_istore (pc' := 26) (lv' := [(5, .int (0 : Int32)), (4, .int r18), (0, .ref (ad 0)), (1, .int x1), (2, .int x2), (3, .int x3)]) C dX3_yearByLeaves_24 rfl (by decide) rfl ?_
  refine g_iconst (pc' := 27) (v := (0 : Int32)) C dX3_yearByLeaves_26 rfl (by decide) ?_
  refine g_istore (pc' := 29) (lv' := [(6, .int (0 : Int32)), (5, .int (0 : Int32)), (4, .int r18), (0, .ref (ad 0)), (1, .int x1), (2, .int x2), (3, .int x3)]) C dX3_yearByLeaves_27 rfl (by decide) rfl ?_
  refine g_sub (lv' := [(0, .ref (ad 0)), (1, .int x1), (3, .int x3), (4, .int r18), (5, .int (0 : Int32)), (6, .int (0 : Int32))]) [3, 4, 6, 2, 1, 0] rfl ?_
  obtain ⟨n29, hv⟩ := hv
  exact wvX3_yearByLeaves_L29 C RT  n29 _ _ hv)
def zX3_yearByLeaves (cnt : Int32) (pwc : Int32) (par : Ar) (amt : Ar) (x1 : Int32) (x2 : Int32) (x3 : Int32) (X : String → Prop) : Prop := ((zX3_checkVersion x1 (fun E => X E)) ∨ (vX3_checkVersion x1 (((zX3_checkPlace cnt x2 (fun E => X E)) ∨ (vX3_checkPlace cnt x2 ((zX3_checkAccount x3 (fun E => X E))))))))
set_option maxHeartbeats 4000000 in
set_option maxRecDepth 100000 in
theorem mtzX3_yearByLeaves {l : Launch} (hfl : l.stackTraces = false) {γ : Gm} {ad : Nat → Nat} {seen : Int32} {cnt : Int32} {pwc : Int32} {par : Ar} {amt : Ar} {held : Ar} {clos : Ar} {seW : Ar} {seS : Ar} {leW : Ar} {leS : Ar} {x1 : Int32} {x2 : Int32} {x3 : Int32} {X : String → Prop} (hv : zX3_yearByLeaves cnt pwc par amt x1 x2 x3 X) : CtX l γ yX3_yearByLeaves cX3_yearByLeaves 7 (some .int) 7 103 [.ref (ad 0), .int x1, .int x2, .int x3] (wB γ ad seen cnt pwc par amt held clos seW seS leW leS) (fun (E : String) (_ : Unit) => X E) (fun _ => wB γ ad seen cnt pwc par amt held clos seW seS leW leS) := startX (by decide +kernel) (Nat.le_of_ble_eq_true rfl) (fun κ C hX => by
  show G l γ κ (wB γ ad seen cnt pwc par amt held clos seW seS leW leS) [(0, .ref (ad 0)), (1, .int x1), (2, .int x2), (3, .int x3)] 0 0 [] 0
  refine g_iload_n (pc' := 1) C dX3_yearByLeaves_0 rfl rfl rfl ?_
  rcases hv with hv | hv
  · exact noneX C hX (run_SX (rest := []) C lk_X3_83 (mtzX3_checkVersion hfl hv) ⟨by decide, by decide⟩ rfl rfl (Nat.le_of_ble_eq_true rfl) ⟨hX.2.2.1, hX.2.2.2⟩ dX3_yearByLeaves_1) (fun E u1 hx => ⟨(), hx, rfl⟩)
  · refine cnV (pc' := 4) C (run_SV (rest := []) C lk_X3_83 (mtX3_checkVersion hv) ⟨by decide, by decide⟩ rfl rfl (Nat.le_of_ble_eq_true rfl) ⟨Nat.zero_le _, Nat.zero_le _⟩ dX3_yearByLeaves_1) rfl (fun u1 hv => ?_)
    refine g_aload_n (pc' := 5) C dX3_yearByLeaves_4 rfl rfl rfl ?_
    refine g_iload_n (pc' := 6) C dX3_yearByLeaves_5 rfl rfl rfl ?_
    rcases hv with hv | hv
    · exact sameX C hX (run_VX (rest := []) C lk_X3_48 (mtzX3_checkPlace hfl hv) ⟨by decide, by decide⟩ rfl rfl rfl rfl (Nat.le_of_ble_eq_true rfl) ⟨hX.2.2.1, hX.2.2.2⟩ dX3_yearByLeaves_6) (fun E u6 hx => ⟨(), hx, rfl⟩)
    · refine csV (pc' := 9) C (run_VV (rest := []) C lk_X3_48 (mtX3_checkPlace hv) ⟨by decide, by decide⟩ rfl rfl rfl rfl (Nat.le_of_ble_eq_true rfl) ⟨Nat.zero_le _, Nat.zero_le _⟩ dX3_yearByLeaves_6) rfl (fun u6 hv => ?_)
      refine g_iload_n (pc' := 10) C dX3_yearByLeaves_9 rfl rfl rfl ?_
      exact noneX C hX (run_SX (rest := []) C lk_X3_148 (mtzX3_checkAccount hfl hv) ⟨by decide, by decide⟩ rfl rfl (Nat.le_of_ble_eq_true rfl) ⟨hX.2.2.1, hX.2.2.2⟩ dX3_yearByLeaves_10) (fun E u10 hx => ⟨(), hx, rfl⟩))
def vX3_filled (amt : Ar) (Q : Int32 → Prop) : Prop := (vX0_countFilled amt (fun r4 => (Q r4)))
set_option maxHeartbeats 4000000 in
set_option maxRecDepth 100000 in
theorem mtX3_filled {l : Launch} {γ : Gm} {ad : Nat → Nat} {seen : Int32} {cnt : Int32} {pwc : Int32} {par : Ar} {amt : Ar} {held : Ar} {clos : Ar} {seW : Ar} {seS : Ar} {leW : Ar} {leS : Ar} {Q : Int32 → Prop} (hv : vX3_filled amt Q) : CtI l γ yX3_filled cX3_filled 1 .int 1 22 0 0 [.ref (ad 0)] (wB γ ad seen cnt pwc par amt held clos seW seS leW leS) (fun (r : Int32) (_ : Unit) => Q r) (fun _ => wB γ ad seen cnt pwc par amt held clos seW seS leW leS) := startI (by decide +kernel) (Nat.le_of_ble_eq_true rfl) (fun κ C RT hR hnm => by
  show G l γ κ (wB γ ad seen cnt pwc par amt held clos seW seS leW leS) [(0, .ref (ad 0))] 0 0 [] 0
  refine g_aload_n (pc' := 1) C dX3_filled_0 rfl rfl rfl ?_
  refine gf_X3_19 (pc' := 4) C dX3_filled_1 rfl 0 rfl rfl ?_
  refine cfI (pc' := 7) C (run_VI (rest := []) C lk_X3_159 (mtX0_countFilled hv) ⟨by decide, by decide⟩ rfl rfl rfl rfl (Nat.le_of_ble_eq_true rfl) ⟨Nat.zero_le _, Nat.zero_le _⟩ dX3_filled_4) rfl [2, 8] [0, 1, 3, 4, 5, 6, 7, 9, 10, 11, 12] [0, 1, 11, 2, 3, 4, 5, 6, 12, 7, 8, 9, 10] nd_BC2 di_BC2 (fun u4 => wB γ ad seen cnt pwc par amt held clos seW seS leW leS) rfl rfl (fun _ => rfl) (fun r4 u4 hv => ?_)
  exact RT r4 () _ _ _ _ dX3_filled_7 rfl (by decide) (by decide) hv)
def vX3_gapOfLeaf_L6 (amt : Ar) (x1 : Int32) (x2 : Int32) (x3 : Int32) (x4 : Int32) (Q : Int32 → Prop) : Nat → Int32 → Int32 → Prop
  | 0, _, _ => False
  | n + 1, x5, x6 => (((12 : Int32) ≤ x6 → (Q x5)) ∧ (¬ (12 : Int32) ≤ x6 → (vX0_at amt x1 x3 (0 : Int32) x6 (fun r22 => (vX0_at amt x1 x3 (1 : Int32) x6 (fun r36 => (vX0_at amt x2 x3 (0 : Int32) x6 (fun r50 => (vX0_at amt x2 x3 (1 : Int32) x6 (fun r64 => (vX3_gapPart r22 r36 r50 r64 x4 (fun r81 => (vX3_gapOfLeaf_L6 amt x1 x2 x3 x4 Q n (x5 + r81) (x6 + (1 : Int32)))))))))))))))
set_option maxHeartbeats 4000000 in
set_option maxRecDepth 100000 in
theorem wvX3_gapOfLeaf_L6 {l : Launch} {γ : Gm} {κ : Kx} {ad : Nat → Nat} {seen : Int32} {cnt : Int32} {pwc : Int32} {par : Ar} {amt : Ar} {held : Ar} {clos : Ar} {seW : Ar} {seS : Ar} {leW : Ar} {leS : Ar} {x1 : Int32} {x2 : Int32} {x3 : Int32} {x4 : Int32} {Q : Int32 → Prop} (C : Ok γ κ cX3_gapOfLeaf 11 RX3 2 47) (RT : RtI l γ κ cX3_gapOfLeaf .int 0 0 (fun (r : Int32) (_ : Unit) => Q r) (fun _ => wB γ ad seen cnt pwc par amt held clos seW seS leW leS))  : ∀ (n : Nat) (x5 : Int32) (x6 : Int32), vX3_gapOfLeaf_L6 amt x1 x2 x3 x4 Q n x5 x6 → G l γ κ (wB γ ad seen cnt pwc par amt held clos seW seS leW leS) [(0, .ref (ad 0)), (1, .int x1), (2, .int x2), (3, .int x3), (4, .int x4), (5, .int x5), (6, .int x6)] 0 0 [] 6 := by
  intro n
  induction n with
  | zero => intro x5 x6 hv; exact False.elim hv
  | succ n ih =>
    intro x5 x6 hv
    refine g_iload (pc' := 8) C dX3_gapOfLeaf_6 rfl rfl ?_
    refine g_bipush (pc' := 10) (v := (12 : Int32)) C dX3_gapOfLeaf_8 rfl (by decide) ?_
    obtain ⟨hv1, hv2⟩ := hv
    refine g_icmp_ge (pc' := 13) (tgt := 93) C dX3_gapOfLeaf_10 rfl (by decide) (fun c => ?_) (fun c => ?_)
    · have hv := hv1 c
      refine g_iload (pc' := 95) C dX3_gapOfLeaf_93 rfl rfl ?_
      exact RT x5 () _ _ _ _ dX3_gapOfLeaf_95 rfl (by decide) (by decide) hv
    · have hv := hv2 c
      refine g_aload_n (pc' := 14) C dX3_gapOfLeaf_13 rfl rfl rfl ?_
      refine gf_X3_19 (pc' := 17) C dX3_gapOfLeaf_14 rfl 0 rfl rfl ?_
      refine g_iload_n (pc' := 18) C dX3_gapOfLeaf_17 rfl rfl rfl ?_
      refine g_iload_n (pc' := 19) C dX3_gapOfLeaf_18 rfl rfl rfl ?_
      refine g_iconst (pc' := 20) (v := (0 : Int32)) C dX3_gapOfLeaf_19 rfl (by decide) ?_
      refine g_iload (pc' := 22) C dX3_gapOfLeaf_20 rfl rfl ?_
      refine cfI (pc' := 25) C (run_VI (rest := []) C lk_X3_165 (mtX0_at hv) ⟨by decide, by decide⟩ rfl rfl rfl rfl (Nat.le_of_ble_eq_true rfl) ⟨Nat.zero_le _, Nat.zero_le _⟩ dX3_gapOfLeaf_22) rfl [2, 8] [0, 1, 3, 4, 5, 6, 7, 9, 10, 11, 12] [0, 1, 11, 2, 3, 4, 5, 6, 12, 7, 8, 9, 10] nd_BC2 di_BC2 (fun u22 => wB γ ad seen cnt pwc par amt held clos seW seS leW leS) rfl rfl (fun _ => rfl) (fun r22 u22 hv => ?_)
      refine g_istore (pc' := 27) (lv' := [(7, .int r22), (0, .ref (ad 0)), (1, .int x1), (2, .int x2), (3, .int x3), (4, .int x4), (5, .int x5), (6, .int x6)]) C dX3_gapOfLeaf_25 rfl (by decide) rfl ?_
      refine g_aload_n (pc' := 28) C dX3_gapOfLeaf_27 rfl rfl rfl ?_
      refine gf_X3_19 (pc' := 31) C dX3_gapOfLeaf_28 rfl 0 rfl rfl ?_
      refine g_iload_n (pc' := 32) C dX3_gapOfLeaf_31 rfl rfl rfl ?_
      refine g_iload_n (pc' := 33) C dX3_gapOfLeaf_32 rfl rfl rfl ?_
      refine g_iconst (pc' := 34) (v := (1 : Int32)) C dX3_gapOfLeaf_33 rfl (by decide) ?_
      refine g_iload (pc' := 36) C dX3_gapOfLeaf_34 rfl rfl ?_
      refine cfI (pc' := 39) C (run_VI (rest := []) C lk_X3_165 (mtX0_at hv) ⟨by decide, by decide⟩ rfl rfl rfl rfl (Nat.le_of_ble_eq_true rfl) ⟨Nat.zero_le _, Nat.zero_le _⟩ dX3_gapOfLeaf_36) rfl [2, 8] [0, 1, 3, 4, 5, 6, 7, 9, 10, 11, 12] [0, 1, 11, 2, 3, 4, 5, 6, 12, 7, 8, 9, 10] nd_BC2 di_BC2 (fun u36 => wB γ ad seen cnt pwc par amt held clos seW seS leW leS) rfl rfl (fun _ => rfl) (fun r36 u36 hv => ?_)
      refine g_istore (pc' := 41) (lv' := [(8, .int r36), (7, .int r22), (0, .ref (ad 0)), (1, .int x1), (2, .int x2), (3, .int x3), (4, .int x4), (5, .int x5), (6, .int x6)]) C dX3_gapOfLeaf_39 rfl (by decide) rfl ?_
      refine g_aload_n (pc' := 42) C dX3_gapOfLeaf_41 rfl rfl rfl ?_
      refine gf_X3_19 (pc' := 45) C dX3_gapOfLeaf_42 rfl 0 rfl rfl ?_
      refine g_iload_n (pc' := 46) C dX3_gapOfLeaf_45 rfl rfl rfl ?_
      refine g_iload_n (pc' := 47) C dX3_gapOfLeaf_46 rfl rfl rfl ?_
      refine g_iconst (pc' := 48) (v := (0 : Int32)) C dX3_gapOfLeaf_47 rfl (by decide) ?_
      refine g_iload (pc' := 50) C dX3_gapOfLeaf_48 rfl rfl ?_
      refine cfI (pc' := 53) C (run_VI (rest := []) C lk_X3_165 (mtX0_at hv) ⟨by decide, by decide⟩ rfl rfl rfl rfl (Nat.le_of_ble_eq_true rfl) ⟨Nat.zero_le _, Nat.zero_le _⟩ dX3_gapOfLeaf_50) rfl [2, 8] [0, 1, 3, 4, 5, 6, 7, 9, 10, 11, 12] [0, 1, 11, 2, 3, 4, 5, 6, 12, 7, 8, 9, 10] nd_BC2 di_BC2 (fun u50 => wB γ ad seen cnt pwc par amt held clos seW seS leW leS) rfl rfl (fun _ => rfl) (fun r50 u50 hv => ?_)
      refine g_istore (pc' := 55) (lv' := [(9, .int r50), (8, .int r36), (7, .int r22), (0, .ref (ad 0)), (1, .int x1), (2, .int x2), (3, .int x3), (4, .int x4), (5, .int x5), (6, .int x6)]) C dX3_gapOfLeaf_53 rfl (by decide) rfl ?_
      refine g_aload_n (pc' := 56) C dX3_gapOfLeaf_55 rfl rfl rfl ?_
      refine gf_X3_19 (pc' := 59) C dX3_gapOfLeaf_56 rfl 0 rfl rfl ?_
      refine g_iload_n (pc' := 60) C dX3_gapOfLeaf_59 rfl rfl rfl ?_
      refine g_iload_n (pc' := 61) C dX3_gapOfLeaf_60 rfl rfl rfl ?_
      refine g_iconst (pc' := 62) (v := (1 : Int32)) C dX3_gapOfLeaf_61 rfl (by decide) ?_
      refine g_iload (pc' := 64) C dX3_gapOfLeaf_62 rfl rfl ?_
      refine cfI (pc' := 67) C (run_VI (rest := []) C lk_X3_165 (mtX0_at hv) ⟨by decide, by decide⟩ rfl rfl rfl rfl (Nat.le_of_ble_eq_true rfl) ⟨Nat.zero_le _, Nat.zero_le _⟩ dX3_gapOfLeaf_64) rfl [2, 8] [0, 1, 3, 4, 5, 6, 7, 9, 10, 11, 12] [0, 1, 11, 2, 3, 4, 5, 6, 12, 7, 8, 9, 10] nd_BC2 di_BC2 (fun u64 => wB γ ad seen cnt pwc par amt held clos seW seS leW leS) rfl rfl (fun _ => rfl) (fun r64 u64 hv => ?_)
      refine g_istore (pc' := 69) (lv' := [(10, .int r64), (9, .int r50), (8, .int r36), (7, .int r22), (0, .ref (ad 0)), (1, .int x1), (2, .int x2), (3, .int x3), (4, .int x4), (5, .int x5), (6, .int x6)]) C dX3_gapOfLeaf_67 rfl (by decide) rfl ?_
      refine g_iload (pc' := 71) C dX3_gapOfLeaf_69 rfl rfl ?_
      refine g_iload (pc' := 73) C dX3_gapOfLeaf_71 rfl rfl ?_
      refine g_iload (pc' := 75) C dX3_gapOfLeaf_73 rfl rfl ?_
      refine g_iload (pc' := 77) C dX3_gapOfLeaf_75 rfl rfl ?_
      refine g_iload (pc' := 79) C dX3_gapOfLeaf_77 rfl rfl ?_
      refine g_iload (pc' := 81) C dX3_gapOfLeaf_79 rfl rfl ?_
      refine cnI (pc' := 84) C (run_SI (rest := [.int x5]) C lk_X3_168 (mtX3_gapPart hv) ⟨by decide, by decide⟩ rfl rfl (Nat.le_of_ble_eq_true rfl) ⟨Nat.zero_le _, Nat.zero_le _⟩ dX3_gapOfLeaf_81) rfl (fun r81 u81 hv => ?_)
      refine g_iadd (pc' := 85) C dX3_gapOfLeaf_84 rfl ?_
      refine g_istore (pc' := 87) (lv' := [(5, .int (x5 + r81)), (10, .int r64), (9, .int r50), (8, .int r36), (7, .int r22), (0, .ref (ad 0)), (1, .int x1), (2, .int x2), (3, .int x3), (4, .int x4), (6, .int x6)]) C dX3_gapOfLeaf_85 rfl (by decide) rfl ?_
      refine g_iinc (pc' := 90) (v := (x6 + (1 : Int32))) (lv' := [(6, .int (x6 + (1 : Int32))), (5, .int (x5 + r81)), (10, .int r64), (9, .int r50), (8, .int r36), (7, .int r22), (0, .ref (ad 0)), (1, .int x1), (2, .int x2), (3, .int x3), (4, .int x4)]) C dX3_gapOfLeaf_87 rfl rfl rfl (by decide) rfl ?_
      refine g_goto (tgt := 6) C dX3_gapOfLeaf_90 (by decide) ?_
      refine g_sub (lv' := [(0, .ref (ad 0)), (1, .int x1), (2, .int x2), (3, .int x3), (4, .int x4), (5, .int (x5 + r81)), (6, .int (x6 + (1 : Int32)))]) [6, 7, 8, 9, 10, 1, 0] rfl ?_
      exact ih _ _ hv
def vX3_gapOfLeaf (amt : Ar) (x1 : Int32) (x2 : Int32) (x3 : Int32) (x4 : Int32) (Q : Int32 → Prop) : Prop := (∃ n6 : Nat, vX3_gapOfLeaf_L6 amt x1 x2 x3 x4 Q n6 (0 : Int32) (0 : Int32))
set_option maxHeartbeats 4000000 in
set_option maxRecDepth 100000 in
theorem mtX3_gapOfLeaf {l : Launch} {γ : Gm} {ad : Nat → Nat} {seen : Int32} {cnt : Int32} {pwc : Int32} {par : Ar} {amt : Ar} {held : Ar} {clos : Ar} {seW : Ar} {seS : Ar} {leW : Ar} {leS : Ar} {x1 : Int32} {x2 : Int32} {x3 : Int32} {x4 : Int32} {Q : Int32 → Prop} (hv : vX3_gapOfLeaf amt x1 x2 x3 x4 Q) : CtI l γ yX3_gapOfLeaf cX3_gapOfLeaf 11 .int 2 47 0 0 [.ref (ad 0), .int x1, .int x2, .int x3, .int x4] (wB γ ad seen cnt pwc par amt held clos seW seS leW leS) (fun (r : Int32) (_ : Unit) => Q r) (fun _ => wB γ ad seen cnt pwc par amt held clos seW seS leW leS) := startI (by decide +kernel) (Nat.le_of_ble_eq_true rfl) (fun κ C RT hR hnm => by
  show G l γ κ (wB γ ad seen cnt pwc par amt held clos seW seS leW leS) [(0, .ref (ad 0)), (1, .int x1), (2, .int x2), (3, .int x3), (4, .int x4)] 0 0 [] 0
  refine g_iconst (pc' := 1) (v := (0 : Int32)) C dX3_gapOfLeaf_0 rfl (by decide) ?_
  refine g_istore (pc' := 3) (lv' := [(5, .int (0 : Int32)), (0, .ref (ad 0)), (1, .int x1), (2, .int x2), (3, .int x3), (4, .int x4)]) C dX3_gapOfLeaf_1 rfl (by decide) rfl ?_
  refine g_iconst (pc' := 4) (v := (0 : Int32)) C dX3_gapOfLeaf_3 rfl (by decide) ?_
  refine g_istore (pc' := 6) (lv' := [(6, .int (0 : Int32)), (5, .int (0 : Int32)), (0, .ref (ad 0)), (1, .int x1), (2, .int x2), (3, .int x3), (4, .int x4)]) C dX3_gapOfLeaf_4 rfl (by decide) rfl ?_
  refine g_sub (lv' := [(0, .ref (ad 0)), (1, .int x1), (2, .int x2), (3, .int x3), (4, .int x4), (5, .int (0 : Int32)), (6, .int (0 : Int32))]) [2, 3, 4, 5, 6, 1, 0] rfl ?_
  obtain ⟨n6, hv⟩ := hv
  exact wvX3_gapOfLeaf_L6 C RT  n6 _ _ hv)
def vX3_gap_L35 (cnt : Int32) (pwc : Int32) (par : Ar) (amt : Ar) (x1 : Int32) (x2 : Int32) (x4 : Int32) (x5 : Int32) (Q : Int32 → Prop) : Nat → Int32 → Int32 → Prop
  | 0, _, _ => False
  | n + 1, x6, x7 => (((10 : Int32) ≤ x7 → (Q x6)) ∧ (¬ (10 : Int32) ≤ x7 → (vX3_isIn x5 x7 (fun r46 => ((r46 = (0 : Int32) → (vX3_gap_L35 cnt pwc par amt x1 x2 x4 x5 Q n x6 (x7 + (1 : Int32)))) ∧ (¬ r46 = (0 : Int32) → (vX3_gapOfLeaf amt x1 x2 x7 x4 (fun r61 => (vX3_gap_L35 cnt pwc par amt x1 x2 x4 x5 Q n (x6 + r61) (x7 + (1 : Int32)))))))))))
set_option maxHeartbeats 4000000 in
set_option maxRecDepth 100000 in
theorem wvX3_gap_L35 {l : Launch} {γ : Gm} {κ : Kx} {ad : Nat → Nat} {seen : Int32} {cnt : Int32} {pwc : Int32} {par : Ar} {amt : Ar} {held : Ar} {clos : Ar} {seW : Ar} {seS : Ar} {leW : Ar} {leS : Ar} {x1 : Int32} {x2 : Int32} {x4 : Int32} {x5 : Int32} {Q : Int32 → Prop} (C : Ok γ κ cX3_gap 8 RX3 7 103) (RT : RtI l γ κ cX3_gap .int 0 0 (fun (r : Int32) (_ : Unit) => Q r) (fun _ => wB γ ad seen cnt pwc par amt held clos seW seS leW leS))  : ∀ (n : Nat) (x6 : Int32) (x7 : Int32), vX3_gap_L35 cnt pwc par amt x1 x2 x4 x5 Q n x6 x7 → G l γ κ (wB γ ad seen cnt pwc par amt held clos seW seS leW leS) [(0, .ref (ad 0)), (1, .int x1), (2, .int x2), (4, .int x4), (5, .int x5), (6, .int x6), (7, .int x7)] 0 0 [] 35 := by
  intro n
  induction n with
  | zero => intro x6 x7 hv; exact False.elim hv
  | succ n ih =>
    intro x6 x7 hv
    refine g_iload (pc' := 37) C dX3_gap_35 rfl rfl ?_
    refine g_bipush (pc' := 39) (v := (10 : Int32)) C dX3_gap_37 rfl (by decide) ?_
    obtain ⟨hv1, hv2⟩ := hv
    refine g_icmp_ge (pc' := 42) (tgt := 73) C dX3_gap_39 rfl (by decide) (fun c => ?_) (fun c => ?_)
    · have hv := hv1 c
      refine g_iload (pc' := 75) C dX3_gap_73 rfl rfl ?_
      exact RT x6 () _ _ _ _ dX3_gap_75 rfl (by decide) (by decide) hv
    · have hv := hv2 c
      refine g_iload (pc' := 44) C dX3_gap_42 rfl rfl ?_
      refine g_iload (pc' := 46) C dX3_gap_44 rfl rfl ?_
      refine cnI (pc' := 49) C (run_SI (rest := []) C lk_X3_102 (mtX3_isIn hv) ⟨by decide, by decide⟩ rfl rfl (Nat.le_of_ble_eq_true rfl) ⟨Nat.zero_le _, Nat.zero_le _⟩ dX3_gap_46) rfl (fun r46 u46 hv => ?_)
      obtain ⟨hv1, hv2⟩ := hv
      refine g_if_eq (pc' := 52) (tgt := 67) C dX3_gap_49 rfl (by decide) (fun c => ?_) (fun c => ?_)
      · have hv := hv1 c
        refine g_iinc (pc' := 70) (v := (x7 + (1 : Int32))) (lv' := [(7, .int (x7 + (1 : Int32))), (0, .ref (ad 0)), (1, .int x1), (2, .int x2), (4, .int x4), (5, .int x5), (6, .int x6)]) C dX3_gap_67 rfl rfl rfl (by decide) rfl ?_
        refine g_goto (tgt := 35) C dX3_gap_70 (by decide) ?_
        refine g_sub (lv' := [(0, .ref (ad 0)), (1, .int x1), (2, .int x2), (4, .int x4), (5, .int x5), (6, .int x6), (7, .int (x7 + (1 : Int32)))]) [1, 2, 3, 4, 5, 6, 0] rfl ?_
        exact ih _ _ hv
      · have hv := hv2 c
        refine g_iload (pc' := 54) C dX3_gap_52 rfl rfl ?_
        refine g_aload_n (pc' := 55) C dX3_gap_54 rfl rfl rfl ?_
        refine g_iload_n (pc' := 56) C dX3_gap_55 rfl rfl rfl ?_
        refine g_iload_n (pc' := 57) C dX3_gap_56 rfl rfl rfl ?_
        refine g_iload (pc' := 59) C dX3_gap_57 rfl rfl ?_
        refine g_iload (pc' := 61) C dX3_gap_59 rfl rfl ?_
        refine csI (pc' := 64) C (run_VI (rest := [.int x6]) C lk_X3_162 (mtX3_gapOfLeaf hv) ⟨by decide, by decide⟩ rfl rfl rfl rfl (Nat.le_of_ble_eq_true rfl) ⟨Nat.zero_le _, Nat.zero_le _⟩ dX3_gap_61) rfl (fun r61 u61 hv => ?_)
        refine g_iadd (pc' := 65) C dX3_gap_64 rfl ?_
        refine g_istore (pc' := 67) (lv' := [(6, .int (x6 + r61)), (0, .ref (ad 0)), (1, .int x1), (2, .int x2), (4, .int x4), (5, .int x5), (7, .int x7)]) C dX3_gap_65 rfl (by decide) rfl ?_
        refine g_iinc (pc' := 70) (v := (x7 + (1 : Int32))) (lv' := [(7, .int (x7 + (1 : Int32))), (6, .int (x6 + r61)), (0, .ref (ad 0)), (1, .int x1), (2, .int x2), (4, .int x4), (5, .int x5)]) C dX3_gap_67 rfl rfl rfl (by decide) rfl ?_
        refine g_goto (tgt := 35) C dX3_gap_70 (by decide) ?_
        refine g_sub (lv' := [(0, .ref (ad 0)), (1, .int x1), (2, .int x2), (4, .int x4), (5, .int x5), (6, .int (x6 + r61)), (7, .int (x7 + (1 : Int32)))]) [2, 3, 4, 5, 6, 1, 0] rfl ?_
        exact ih _ _ hv
def vX3_gap (cnt : Int32) (pwc : Int32) (par : Ar) (amt : Ar) (x1 : Int32) (x2 : Int32) (x3 : Int32) (x4 : Int32) (Q : Int32 → Prop) : Prop := (vX3_checkVersion x1 ((vX3_checkVersion x2 ((vX3_checkPlace cnt x3 ((vX3_checkUpTo x4 (3 : Int32) ((vX2_leavesBelow cnt pwc par x3 (fun r24 => (∃ n35 : Nat, vX3_gap_L35 cnt pwc par amt x1 x2 x4 r24 Q n35 (0 : Int32) (0 : Int32))))))))))))
set_option maxHeartbeats 4000000 in
set_option maxRecDepth 100000 in
theorem mtX3_gap {l : Launch} {γ : Gm} {ad : Nat → Nat} {seen : Int32} {cnt : Int32} {pwc : Int32} {par : Ar} {amt : Ar} {held : Ar} {clos : Ar} {seW : Ar} {seS : Ar} {leW : Ar} {leS : Ar} {x1 : Int32} {x2 : Int32} {x3 : Int32} {x4 : Int32} {Q : Int32 → Prop} (hv : vX3_gap cnt pwc par amt x1 x2 x3 x4 Q) : CtI l γ yX3_gap cX3_gap 8 .int 7 103 0 0 [.ref (ad 0), .int x1, .int x2, .int x3, .int x4] (wB γ ad seen cnt pwc par amt held clos seW seS leW leS) (fun (r : Int32) (_ : Unit) => Q r) (fun _ => wB γ ad seen cnt pwc par amt held clos seW seS leW leS) := startI (by decide +kernel) (Nat.le_of_ble_eq_true rfl) (fun κ C RT hR hnm => by
  show G l γ κ (wB γ ad seen cnt pwc par amt held clos seW seS leW leS) [(0, .ref (ad 0)), (1, .int x1), (2, .int x2), (3, .int x3), (4, .int x4)] 0 0 [] 0
  refine g_iload_n (pc' := 1) C dX3_gap_0 rfl rfl rfl ?_
  refine cnV (pc' := 4) C (run_SV (rest := []) C lk_X3_83 (mtX3_checkVersion hv) ⟨by decide, by decide⟩ rfl rfl (Nat.le_of_ble_eq_true rfl) ⟨Nat.zero_le _, Nat.zero_le _⟩ dX3_gap_1) rfl (fun u1 hv => ?_)
  refine g_iload_n (pc' := 5) C dX3_gap_4 rfl rfl rfl ?_
  refine cnV (pc' := 8) C (run_SV (rest := []) C lk_X3_83 (mtX3_checkVersion hv) ⟨by decide, by decide⟩ rfl rfl (Nat.le_of_ble_eq_true rfl) ⟨Nat.zero_le _, Nat.zero_le _⟩ dX3_gap_5) rfl (fun u5 hv => ?_)
  refine g_aload_n (pc' := 9) C dX3_gap_8 rfl rfl rfl ?_
  refine g_iload_n (pc' := 10) C dX3_gap_9 rfl rfl rfl ?_
  refine csV (pc' := 13) C (run_VV (rest := []) C lk_X3_48 (mtX3_checkPlace hv) ⟨by decide, by decide⟩ rfl rfl rfl rfl (Nat.le_of_ble_eq_true rfl) ⟨Nat.zero_le _, Nat.zero_le _⟩ dX3_gap_10) rfl (fun u10 hv => ?_)
  refine g_iload (pc' := 15) C dX3_gap_13 rfl rfl ?_
  refine g_iconst (pc' := 16) (v := (3 : Int32)) C dX3_gap_15 rfl (by decide) ?_
  refine cnV (pc' := 19) C (run_SV (rest := []) C lk_X3_95 (mtX3_checkUpTo hv) ⟨by decide, by decide⟩ rfl rfl (Nat.le_of_ble_eq_true rfl) ⟨Nat.zero_le _, Nat.zero_le _⟩ dX3_gap_16) rfl (fun u16 hv => ?_)
  refine g_aload_n (pc' := 20) C dX3_gap_19 rfl rfl rfl ?_
  refine gf_X3_12 (pc' := 23) C dX3_gap_20 rfl 0 rfl rfl ?_
  refine g_iload_n (pc' := 24) C dX3_gap_23 rfl rfl rfl ?_
  refine cfI (pc' := 27) C (run_VI (rest := []) C lk_X3_80 (mtX2_leavesBelow hv) ⟨by decide, by decide⟩ rfl rfl rfl rfl (Nat.le_of_ble_eq_true rfl) ⟨Nat.zero_le _, Nat.zero_le _⟩ dX3_gap_24) rfl [1, 7] [0, 2, 3, 4, 5, 6, 8, 9, 10, 11, 12] [0, 11, 1, 2, 3, 4, 5, 12, 6, 7, 8, 9, 10] nd_BT1 di_BT1 (fun u24 => wB γ ad seen cnt pwc par amt held clos seW seS leW leS) rfl rfl (fun _ => rfl) (fun r24 u24 hv => ?_)
  refine g_istore (pc' := 29) (lv' := [(5, .int r24), (0, .ref (ad 0)), (1, .int x1), (2, .int x2), (3, .int x3), (4, .int x4)]) C dX3_gap_27 rfl (by decide) rfl ?_
  refine g_iconst (pc' := 30) (v := (0 : Int32)) C dX3_gap_29 rfl (by decide) ?_
  refine g_istore (pc' := 32) (lv' := [(6, .int (0 : Int32)), (5, .int r24), (0, .ref (ad 0)), (1, .int x1), (2, .int x2), (3, .int x3), (4, .int x4)]) C dX3_gap_30 rfl (by decide) rfl ?_
  refine g_iconst (pc' := 33) (v := (0 : Int32)) C dX3_gap_32 rfl (by decide) ?_
  refine g_istore (pc' := 35) (lv' := [(7, .int (0 : Int32)), (6, .int (0 : Int32)), (5, .int r24), (0, .ref (ad 0)), (1, .int x1), (2, .int x2), (3, .int x3), (4, .int x4)]) C dX3_gap_33 rfl (by decide) rfl ?_
  refine g_sub (lv' := [(0, .ref (ad 0)), (1, .int x1), (2, .int x2), (4, .int x4), (5, .int r24), (6, .int (0 : Int32)), (7, .int (0 : Int32))]) [3, 4, 5, 7, 2, 1, 0] rfl ?_
  obtain ⟨n35, hv⟩ := hv
  exact wvX3_gap_L35 C RT  n35 _ _ hv)
def zX3_gap (cnt : Int32) (pwc : Int32) (par : Ar) (amt : Ar) (x1 : Int32) (x2 : Int32) (x3 : Int32) (x4 : Int32) (X : String → Prop) : Prop := ((zX3_checkVersion x1 (fun E => X E)) ∨ (vX3_checkVersion x1 (((zX3_checkVersion x2 (fun E => X E)) ∨ (vX3_checkVersion x2 (((zX3_checkPlace cnt x3 (fun E => X E)) ∨ (vX3_checkPlace cnt x3 ((zX3_checkUpTo x4 (3 : Int32) (fun E => X E)))))))))))
set_option maxHeartbeats 4000000 in
set_option maxRecDepth 100000 in
theorem mtzX3_gap {l : Launch} (hfl : l.stackTraces = false) {γ : Gm} {ad : Nat → Nat} {seen : Int32} {cnt : Int32} {pwc : Int32} {par : Ar} {amt : Ar} {held : Ar} {clos : Ar} {seW : Ar} {seS : Ar} {leW : Ar} {leS : Ar} {x1 : Int32} {x2 : Int32} {x3 : Int32} {x4 : Int32} {X : String → Prop} (hv : zX3_gap cnt pwc par amt x1 x2 x3 x4 X) : CtX l γ yX3_gap cX3_gap 8 (some .int) 7 103 [.ref (ad 0), .int x1, .int x2, .int x3, .int x4] (wB γ ad seen cnt pwc par amt held clos seW seS leW leS) (fun (E : String) (_ : Unit) => X E) (fun _ => wB γ ad seen cnt pwc par amt held clos seW seS leW leS) := startX (by decide +kernel) (Nat.le_of_ble_eq_true rfl) (fun κ C hX => by
  show G l γ κ (wB γ ad seen cnt pwc par amt held clos seW seS leW leS) [(0, .ref (ad 0)), (1, .int x1), (2, .int x2), (3, .int x3), (4, .int x4)] 0 0 [] 0
  refine g_iload_n (pc' := 1) C dX3_gap_0 rfl rfl rfl ?_
  rcases hv with hv | hv
  · exact noneX C hX (run_SX (rest := []) C lk_X3_83 (mtzX3_checkVersion hfl hv) ⟨by decide, by decide⟩ rfl rfl (Nat.le_of_ble_eq_true rfl) ⟨hX.2.2.1, hX.2.2.2⟩ dX3_gap_1) (fun E u1 hx => ⟨(), hx, rfl⟩)
  · refine cnV (pc' := 4) C (run_SV (rest := []) C lk_X3_83 (mtX3_checkVersion hv) ⟨by decide, by decide⟩ rfl rfl (Nat.le_of_ble_eq_true rfl) ⟨Nat.zero_le _, Nat.zero_le _⟩ dX3_gap_1) rfl (fun u1 hv => ?_)
    refine g_iload_n (pc' := 5) C dX3_gap_4 rfl rfl rfl ?_
    rcases hv with hv | hv
    · exact noneX C hX (run_SX (rest := []) C lk_X3_83 (mtzX3_checkVersion hfl hv) ⟨by decide, by decide⟩ rfl rfl (Nat.le_of_ble_eq_true rfl) ⟨hX.2.2.1, hX.2.2.2⟩ dX3_gap_5) (fun E u5 hx => ⟨(), hx, rfl⟩)
    · refine cnV (pc' := 8) C (run_SV (rest := []) C lk_X3_83 (mtX3_checkVersion hv) ⟨by decide, by decide⟩ rfl rfl (Nat.le_of_ble_eq_true rfl) ⟨Nat.zero_le _, Nat.zero_le _⟩ dX3_gap_5) rfl (fun u5 hv => ?_)
      refine g_aload_n (pc' := 9) C dX3_gap_8 rfl rfl rfl ?_
      refine g_iload_n (pc' := 10) C dX3_gap_9 rfl rfl rfl ?_
      rcases hv with hv | hv
      · exact sameX C hX (run_VX (rest := []) C lk_X3_48 (mtzX3_checkPlace hfl hv) ⟨by decide, by decide⟩ rfl rfl rfl rfl (Nat.le_of_ble_eq_true rfl) ⟨hX.2.2.1, hX.2.2.2⟩ dX3_gap_10) (fun E u10 hx => ⟨(), hx, rfl⟩)
      · refine csV (pc' := 13) C (run_VV (rest := []) C lk_X3_48 (mtX3_checkPlace hv) ⟨by decide, by decide⟩ rfl rfl rfl rfl (Nat.le_of_ble_eq_true rfl) ⟨Nat.zero_le _, Nat.zero_le _⟩ dX3_gap_10) rfl (fun u10 hv => ?_)
        refine g_iload (pc' := 15) C dX3_gap_13 rfl rfl ?_
        refine g_iconst (pc' := 16) (v := (3 : Int32)) C dX3_gap_15 rfl (by decide) ?_
        exact noneX C hX (run_SX (rest := []) C lk_X3_95 (mtzX3_checkUpTo hfl hv) ⟨by decide, by decide⟩ rfl rfl (Nat.le_of_ble_eq_true rfl) ⟨hX.2.2.1, hX.2.2.2⟩ dX3_gap_16) (fun E u16 hx => ⟨(), hx, rfl⟩))
end
section
/-! formulas and walks, by program -/
theorem ps0 {α : Type} {P : α → Prop} : ∀ z ∈ ([] : List α), P z := fun z hz => absurd hz List.not_mem_nil
theorem ps1 {α : Type} {P : α → Prop} {a : α} (h : P a) : ∀ z ∈ [a], P z := fun z hz => (List.mem_singleton.mp hz) ▸ h
theorem ps2 {α : Type} {P : α → Prop} {a b : α} (h1 : P a) (h2 : P b) : ∀ z ∈ [a, b], P z := fun z hz => (List.mem_cons.mp hz).elim (fun e => e ▸ h1) (fun e => (List.mem_singleton.mp e) ▸ h2)
def vL_low (x0 : Int32) (x1 : Int32) (Q : Int32 → Prop) : Prop := (¬ x1 = 0 ∧ (Q ((x0 &&& (2147483647 : Int32)) - (x0 &&& (2147483647 : Int32)) / x1 * x1)))
set_option maxHeartbeats 4000000 in
set_option maxRecDepth 100000 in
theorem mtL_low {l : Launch} {γ : Gm} {ad : Nat → Nat} {seen : Int32} {cnt : Int32} {pwc : Int32} {par : Ar} {amt : Ar} {held : Ar} {clos : Ar} {seW : Ar} {seS : Ar} {leW : Ar} {leS : Ar} {x0 : Int32} {x1 : Int32} {Q : Int32 → Prop} (hv : vL_low x0 x1 Q) : CtI l γ yL_low cL_low 2 .int 0 0 0 0 [.int x0, .int x1] (wB γ ad seen cnt pwc par amt held clos seW seS leW leS) (fun (r : Int32) (_ : Unit) => Q r) (fun _ => wB γ ad seen cnt pwc par amt held clos seW seS leW leS) := startI (by decide +kernel) (Nat.le_of_ble_eq_true rfl) (fun κ C RT hR hnm => by
  show G l γ κ (wB γ ad seen cnt pwc par amt held clos seW seS leW leS) [(0, .int x0), (1, .int x1)] 0 0 [] 0
  refine g_iload_n (pc' := 1) C dL_low_0 rfl rfl rfl ?_
  refine g_ldc (pc' := 3) C k_L_7 dL_low_1 rfl ?_
  refine g_iand (pc' := 4) C dL_low_3 rfl ?_
  refine g_iload_n (pc' := 5) C dL_low_4 rfl rfl rfl ?_
  obtain ⟨hd, hv⟩ := hv
  refine g_irem (pc' := 6) C dL_low_5 rfl hd ?_
  exact RT ((x0 &&& (2147483647 : Int32)) - (x0 &&& (2147483647 : Int32)) / x1 * x1) () _ _ _ _ dL_low_6 rfl (by decide) (by decide) hv)
def vL_add (cnt : Int32) (pwc : Int32) (par : Ar) (amt : Ar) (held : Ar) (clos : Ar) (x1 : Int32) (Q : Int32 → (Int32 × Int32 × Ar) → Prop) : Prop := ((zX3_addPlace cnt pwc par amt held clos x1 (fun E u2 => (E = eIS ∧ (Q (-3 : Int32) (u2.1, u2.2.1, u2.2.2))))) ∨ (vX3_addPlace cnt pwc par amt held clos x1 (fun r2 u2 => (Q r2 (u2.1, u2.2.1, u2.2.2)))))
set_option maxHeartbeats 4000000 in
set_option maxRecDepth 100000 in
theorem mtL_add {l : Launch} (hfl : l.stackTraces = false) {γ : Gm} {ad : Nat → Nat} {seen : Int32} {cnt : Int32} {pwc : Int32} {par : Ar} {amt : Ar} {held : Ar} {clos : Ar} {seW : Ar} {seS : Ar} {leW : Ar} {leS : Ar} {x1 : Int32} {Q : Int32 → (Int32 × Int32 × Ar) → Prop} (hv : vL_add cnt pwc par amt held clos x1 Q) : CtH l γ yL_add cL_add 3 .int [(0, 5, 6, 15)] 8 124 [.ref (ad 0), .int x1] (wB γ ad seen cnt pwc par amt held clos seW seS leW leS) (fun (r : Int32) (u : Int32 × Int32 × Ar) => Q r u) (fun u => wB γ ad seen u.1 u.2.1 u.2.2 amt held clos seW seS leW leS) := startH (by decide +kernel) (Nat.le_of_ble_eq_true rfl) (fun κ C RT hR hT => by
  show G l γ κ (wB γ ad seen cnt pwc par amt held clos seW seS leW leS) [(0, .ref (ad 0)), (1, .int x1)] 0 0 [] 0
  refine g_aload_n (pc' := 1) C dL_add_0 rfl rfl rfl ?_
  refine g_iload_n (pc' := 2) C dL_add_1 rfl rfl rfl ?_
  rcases hv with hv | hv
  · refine cfX C (run_VX (rest := []) C lk_L_9 (mtzX3_addPlace hfl hv) ⟨by decide, by decide⟩ rfl rfl rfl rfl (Nat.le_of_ble_eq_true rfl) ⟨hR.1, hR.2⟩ dL_add_2) [0, 1, 2, 3, 4, 5, 6, 7, 8, 9, 10, 11, 12] [] [0, 1, 2, 3, 4, 5, 6, 7, 8, 9, 10, 11, 12] nd_HB di_HB (fun u2 => wB γ ad seen u2.1 u2.2.1 u2.2.2 amt held clos seW seS leW leS) rfl rfl (fun _ => rfl) (fun E u2 hx => ?_)
    rcases hx with ⟨rfl, hv⟩
    · exact ⟨[], ⟨0, 5, 6, 15⟩, [], hT.trans rfl, ps0, rfl, by decide, cl_L_15, by simp [exW], fun q9 => by
        refine g_astore_n (pc' := 7) (lv' := [(2, .ref q9), (0, .ref (ad 0)), (1, .int x1)]) C dL_add_6 rfl rfl (by decide) rfl ?_
        refine g_bipush (pc' := 9) (v := (-3 : Int32)) C dL_add_7 rfl (by decide) ?_
        exact RT (-3 : Int32) (u2.1, u2.2.1, u2.2.2) _ _ _ _ dL_add_9 rfl (by decide) (by decide) hv⟩
  · refine cfI (pc' := 5) C (run_VI (rest := []) C lk_L_9 (mtX3_addPlace hv) ⟨by decide, by decide⟩ rfl rfl rfl rfl (Nat.le_of_ble_eq_true rfl) ⟨Nat.zero_le _, Nat.zero_le _⟩ dL_add_2) rfl [0, 1, 2, 3, 4, 5, 6, 7, 8, 9, 10, 11, 12] [] [0, 1, 2, 3, 4, 5, 6, 7, 8, 9, 10, 11, 12] nd_HB di_HB (fun u2 => wB γ ad seen u2.1 u2.2.1 u2.2.2 amt held clos seW seS leW leS) rfl rfl (fun _ => rfl) (fun r2 u2 hv => ?_)
    exact RT r2 (u2.1, u2.2.1, u2.2.2) _ _ _ _ dL_add_5 rfl (by decide) (by decide) hv)
def vL_set (cnt : Int32) (pwc : Int32) (amt : Ar) (clos : Ar) (x1 : Int32) (x2 : Int32) (x3 : Int32) (x4 : Int32) (x5 : Int32) (Q : Int32 → (Ar) → Prop) : Prop := ((zX3_set cnt pwc amt clos x1 x2 x3 x4 x5 (fun E u8 => (E = eIS ∧ (Q (-3 : Int32) u8)))) ∨ (vX3_set cnt pwc amt clos x1 x2 x3 x4 x5 (fun r8 u8 => (Q r8 u8))))
set_option maxHeartbeats 4000000 in
set_option maxRecDepth 100000 in
theorem mtL_set {l : Launch} (hfl : l.stackTraces = false) {γ : Gm} {ad : Nat → Nat} {seen : Int32} {cnt : Int32} {pwc : Int32} {par : Ar} {amt : Ar} {held : Ar} {clos : Ar} {seW : Ar} {seS : Ar} {leW : Ar} {leS : Ar} {x1 : Int32} {x2 : Int32} {x3 : Int32} {x4 : Int32} {x5 : Int32} {Q : Int32 → (Ar) → Prop} (hv : vL_set cnt pwc amt clos x1 x2 x3 x4 x5 Q) : CtH l γ yL_set cL_set 7 .int [(0, 11, 12, 15)] 8 128 [.ref (ad 0), .int x1, .int x2, .int x3, .int x4, .int x5] (wB γ ad seen cnt pwc par amt held clos seW seS leW leS) (fun (r : Int32) (u : Ar) => Q r u) (fun u => wB γ ad seen cnt pwc par u held clos seW seS leW leS) := startH (by decide +kernel) (Nat.le_of_ble_eq_true rfl) (fun κ C RT hR hT => by
  show G l γ κ (wB γ ad seen cnt pwc par amt held clos seW seS leW leS) [(0, .ref (ad 0)), (1, .int x1), (2, .int x2), (3, .int x3), (4, .int x4), (5, .int x5)] 0 0 [] 0
  refine g_aload_n (pc' := 1) C dL_set_0 rfl rfl rfl ?_
  refine g_iload_n (pc' := 2) C dL_set_1 rfl rfl rfl ?_
  refine g_iload_n (pc' := 3) C dL_set_2 rfl rfl rfl ?_
  refine g_iload_n (pc' := 4) C dL_set_3 rfl rfl rfl ?_
  refine g_iload (pc' := 6) C dL_set_4 rfl rfl ?_
  refine g_iload (pc' := 8) C dL_set_6 rfl rfl ?_
  rcases hv with hv | hv
  · refine cfX C (run_VX (rest := []) C lk_L_17 (mtzX3_set hfl hv) ⟨by decide, by decide⟩ rfl rfl rfl rfl (Nat.le_of_ble_eq_true rfl) ⟨hR.1, hR.2⟩ dL_set_8) [0, 1, 2, 3, 4, 5, 6, 7, 8, 9, 10, 11, 12] [] [0, 1, 2, 3, 4, 5, 6, 7, 8, 9, 10, 11, 12] nd_HB di_HB (fun u8 => wB γ ad seen cnt pwc par u8 held clos seW seS leW leS) rfl rfl (fun _ => rfl) (fun E u8 hx => ?_)
    rcases hx with ⟨rfl, hv⟩
    · exact ⟨[], ⟨0, 11, 12, 15⟩, [], hT.trans rfl, ps0, rfl, by decide, cl_L_15, by simp [exW], fun q9 => by
        refine g_astore (pc' := 14) (lv' := [(6, .ref q9), (0, .ref (ad 0)), (1, .int x1), (2, .int x2), (3, .int x3), (4, .int x4), (5, .int x5)]) C dL_set_12 rfl (by decide) rfl ?_
        refine g_bipush (pc' := 16) (v := (-3 : Int32)) C dL_set_14 rfl (by decide) ?_
        exact RT (-3 : Int32) u8 _ _ _ _ dL_set_16 rfl (by decide) (by decide) hv⟩
  · refine cfI (pc' := 11) C (run_VI (rest := []) C lk_L_17 (mtX3_set hv) ⟨by decide, by decide⟩ rfl rfl rfl rfl (Nat.le_of_ble_eq_true rfl) ⟨Nat.zero_le _, Nat.zero_le _⟩ dL_set_8) rfl [0, 1, 2, 3, 4, 5, 6, 7, 8, 9, 10, 11, 12] [] [0, 1, 2, 3, 4, 5, 6, 7, 8, 9, 10, 11, 12] nd_HB di_HB (fun u8 => wB γ ad seen cnt pwc par u8 held clos seW seS leW leS) rfl rfl (fun _ => rfl) (fun r8 u8 hv => ?_)
    exact RT r8 u8 _ _ _ _ dL_set_11 rfl (by decide) (by decide) hv)
def vL_spread (cnt : Int32) (pwc : Int32) (par : Ar) (amt : Ar) (held : Ar) (clos : Ar) (leW : Ar) (leS : Ar) (x1 : Int32) (x2 : Int32) (x3 : Int32) (x4 : Int32) (x5 : Int32) (Q : Int32 → (Ar × Ar × Ar) → Prop) : Prop := ((zX3_spread cnt pwc par amt held clos leW leS x1 x2 x3 x4 x5 (fun E u8 => (E = eIS ∧ (Q (-3 : Int32) (u8.1, u8.2.1, u8.2.2))))) ∨ (vX3_spread cnt pwc par amt held clos leW leS x1 x2 x3 x4 x5 (fun r8 u8 => (Q r8 (u8.1, u8.2.1, u8.2.2)))))
set_option maxHeartbeats 4000000 in
set_option maxRecDepth 100000 in
theorem mtL_spread {l : Launch} (hfl : l.stackTraces = false) {γ : Gm} {ad : Nat → Nat} {seen : Int32} {cnt : Int32} {pwc : Int32} {par : Ar} {amt : Ar} {held : Ar} {clos : Ar} {seW : Ar} {seS : Ar} {leW : Ar} {leS : Ar} {x1 : Int32} {x2 : Int32} {x3 : Int32} {x4 : Int32} {x5 : Int32} {Q : Int32 → (Ar × Ar × Ar) → Prop} (hv : vL_spread cnt pwc par amt held clos leW leS x1 x2 x3 x4 x5 Q) : CtH l γ yL_spread cL_spread 7 .int [(0, 11, 12, 15)] 8 180 [.ref (ad 0), .int x1, .int x2, .int x3, .int x4, .int x5] (wB γ ad seen cnt pwc par amt held clos seW seS leW leS) (fun (r : Int32) (u : Ar × Ar × Ar) => Q r u) (fun u => wB γ ad seen cnt pwc par u.1 held clos seW seS u.2.1 u.2.2) := startH (by decide +kernel) (Nat.le_of_ble_eq_true rfl) (fun κ C RT hR hT => by
  show G l γ κ (wB γ ad seen cnt pwc par amt held clos seW seS leW leS) [(0, .ref (ad 0)), (1, .int x1), (2, .int x2), (3, .int x3), (4, .int x4), (5, .int x5)] 0 0 [] 0
  refine g_aload_n (pc' := 1) C dL_spread_0 rfl rfl rfl ?_
  refine g_iload_n (pc' := 2) C dL_spread_1 rfl rfl rfl ?_
  refine g_iload_n (pc' := 3) C dL_spread_2 rfl rfl rfl ?_
  refine g_iload_n (pc' := 4) C dL_spread_3 rfl rfl rfl ?_
  refine g_iload (pc' := 6) C dL_spread_4 rfl rfl ?_
  refine g_iload (pc' := 8) C dL_spread_6 rfl rfl ?_
  rcases hv with hv | hv
  · refine cfX C (run_VX (rest := []) C lk_L_21 (mtzX3_spread hfl hv) ⟨by decide, by decide⟩ rfl rfl rfl rfl (Nat.le_of_ble_eq_true rfl) ⟨hR.1, hR.2⟩ dL_spread_8) [0, 1, 2, 3, 4, 5, 6, 7, 8, 9, 10, 11, 12] [] [0, 1, 2, 3, 4, 5, 6, 7, 8, 9, 10, 11, 12] nd_HB di_HB (fun u8 => wB γ ad seen cnt pwc par u8.1 held clos seW seS u8.2.1 u8.2.2) rfl rfl (fun _ => rfl) (fun E u8 hx => ?_)
    rcases hx with ⟨rfl, hv⟩
    · exact ⟨[], ⟨0, 11, 12, 15⟩, [], hT.trans rfl, ps0, rfl, by decide, cl_L_15, by simp [exW], fun q9 => by
        refine g_astore (pc' := 14) (lv' := [(6, .ref q9), (0, .ref (ad 0)), (1, .int x1), (2, .int x2), (3, .int x3), (4, .int x4), (5, .int x5)]) C dL_spread_12 rfl (by decide) rfl ?_
        refine g_bipush (pc' := 16) (v := (-3 : Int32)) C dL_spread_14 rfl (by decide) ?_
        exact RT (-3 : Int32) (u8.1, u8.2.1, u8.2.2) _ _ _ _ dL_spread_16 rfl (by decide) (by decide) hv⟩
  · refine cfI (pc' := 11) C (run_VI (rest := []) C lk_L_21 (mtX3_spread hv) ⟨by decide, by decide⟩ rfl rfl rfl rfl (Nat.le_of_ble_eq_true rfl) ⟨Nat.zero_le _, Nat.zero_le _⟩ dL_spread_8) rfl [0, 1, 2, 3, 4, 5, 6, 7, 8, 9, 10, 11, 12] [] [0, 1, 2, 3, 4, 5, 6, 7, 8, 9, 10, 11, 12] nd_HB di_HB (fun u8 => wB γ ad seen cnt pwc par u8.1 held clos seW seS u8.2.1 u8.2.2) rfl rfl (fun _ => rfl) (fun r8 u8 hv => ?_)
    exact RT r8 (u8.1, u8.2.1, u8.2.2) _ _ _ _ dL_spread_11 rfl (by decide) (by decide) hv)
def vL_spreadYear (cnt : Int32) (pwc : Int32) (par : Ar) (amt : Ar) (held : Ar) (clos : Ar) (seW : Ar) (seS : Ar) (leW : Ar) (leS : Ar) (x1 : Int32) (x2 : Int32) (x3 : Int32) (Q : Int32 → (Ar × Ar × Ar × Ar) → Prop) : Prop := ((zX3_spreadYear cnt pwc par amt held clos seW seS leW leS x1 x2 x3 (fun E u4 => (E = eIS ∧ (Q (-3 : Int32) (u4.1, u4.2.1, u4.2.2.1, u4.2.2.2))))) ∨ (vX3_spreadYear cnt pwc par amt held clos seW seS leW leS x1 x2 x3 (fun r4 u4 => (Q r4 (u4.1, u4.2.1, u4.2.2.1, u4.2.2.2)))))
set_option maxHeartbeats 4000000 in
set_option maxRecDepth 100000 in
theorem mtL_spreadYear {l : Launch} (hfl : l.stackTraces = false) {γ : Gm} {ad : Nat → Nat} {seen : Int32} {cnt : Int32} {pwc : Int32} {par : Ar} {amt : Ar} {held : Ar} {clos : Ar} {seW : Ar} {seS : Ar} {leW : Ar} {leS : Ar} {x1 : Int32} {x2 : Int32} {x3 : Int32} {Q : Int32 → (Ar × Ar × Ar × Ar) → Prop} (hv : vL_spreadYear cnt pwc par amt held clos seW seS leW leS x1 x2 x3 Q) : CtH l γ yL_spreadYear cL_spreadYear 5 .int [(0, 7, 8, 15)] 8 180 [.ref (ad 0), .int x1, .int x2, .int x3] (wB γ ad seen cnt pwc par amt held clos seW seS leW leS) (fun (r : Int32) (u : Ar × Ar × Ar × Ar) => Q r u) (fun u => wB γ ad seen cnt pwc par u.1 held clos seW u.2.1 u.2.2.1 u.2.2.2) := startH (by decide +kernel) (Nat.le_of_ble_eq_true rfl) (fun κ C RT hR hT => by
  show G l γ κ (wB γ ad seen cnt pwc par amt held clos seW seS leW leS) [(0, .ref (ad 0)), (1, .int x1), (2, .int x2), (3, .int x3)] 0 0 [] 0
  refine g_aload_n (pc' := 1) C dL_spreadYear_0 rfl rfl rfl ?_
  refine g_iload_n (pc' := 2) C dL_spreadYear_1 rfl rfl rfl ?_
  refine g_iload_n (pc' := 3) C dL_spreadYear_2 rfl rfl rfl ?_
  refine g_iload_n (pc' := 4) C dL_spreadYear_3 rfl rfl rfl ?_
  rcases hv with hv | hv
  · refine cfX C (run_VX (rest := []) C lk_L_24 (mtzX3_spreadYear hfl hv) ⟨by decide, by decide⟩ rfl rfl rfl rfl (Nat.le_of_ble_eq_true rfl) ⟨hR.1, hR.2⟩ dL_spreadYear_4) [0, 1, 2, 3, 4, 5, 6, 7, 8, 9, 10, 11, 12] [] [0, 1, 2, 3, 4, 5, 6, 7, 8, 9, 10, 11, 12] nd_HB di_HB (fun u4 => wB γ ad seen cnt pwc par u4.1 held clos seW u4.2.1 u4.2.2.1 u4.2.2.2) rfl rfl (fun _ => rfl) (fun E u4 hx => ?_)
    rcases hx with ⟨rfl, hv⟩
    · exact ⟨[], ⟨0, 7, 8, 15⟩, [], hT.trans rfl, ps0, rfl, by decide, cl_L_15, by simp [exW], fun q9 => by
        refine g_astore (pc' := 10) (lv' := [(4, .ref q9), (0, .ref (ad 0)), (1, .int x1), (2, .int x2), (3, .int x3)]) C dL_spreadYear_8 rfl (by decide) rfl ?_
        refine g_bipush (pc' := 12) (v := (-3 : Int32)) C dL_spreadYear_10 rfl (by decide) ?_
        exact RT (-3 : Int32) (u4.1, u4.2.1, u4.2.2.1, u4.2.2.2) _ _ _ _ dL_spreadYear_12 rfl (by decide) (by decide) hv⟩
  · refine cfI (pc' := 7) C (run_VI (rest := []) C lk_L_24 (mtX3_spreadYear hv) ⟨by decide, by decide⟩ rfl rfl rfl rfl (Nat.le_of_ble_eq_true rfl) ⟨Nat.zero_le _, Nat.zero_le _⟩ dL_spreadYear_4) rfl [0, 1, 2, 3, 4, 5, 6, 7, 8, 9, 10, 11, 12] [] [0, 1, 2, 3, 4, 5, 6, 7, 8, 9, 10, 11, 12] nd_HB di_HB (fun u4 => wB γ ad seen cnt pwc par u4.1 held clos seW u4.2.1 u4.2.2.1 u4.2.2.2) rfl rfl (fun _ => rfl) (fun r4 u4 hv => ?_)
    exact RT r4 (u4.1, u4.2.1, u4.2.2.1, u4.2.2.2) _ _ _ _ dL_spreadYear_7 rfl (by decide) (by decide) hv)
def vL_copy (amt : Ar) (clos : Ar) (x1 : Int32) (x2 : Int32) (Q : Int32 → (Ar) → Prop) : Prop := ((zX3_copy amt clos x1 x2 (fun E u3 => (E = eIS ∧ (Q (-3 : Int32) u3)))) ∨ (vX3_copy amt clos x1 x2 (fun r3 u3 => (Q r3 u3))))
set_option maxHeartbeats 4000000 in
set_option maxRecDepth 100000 in
theorem mtL_copy {l : Launch} (hfl : l.stackTraces = false) {γ : Gm} {ad : Nat → Nat} {seen : Int32} {cnt : Int32} {pwc : Int32} {par : Ar} {amt : Ar} {held : Ar} {clos : Ar} {seW : Ar} {seS : Ar} {leW : Ar} {leS : Ar} {x1 : Int32} {x2 : Int32} {Q : Int32 → (Ar) → Prop} (hv : vL_copy amt clos x1 x2 Q) : CtH l γ yL_copy cL_copy 4 .int [(0, 6, 7, 15)] 8 124 [.ref (ad 0), .int x1, .int x2] (wB γ ad seen cnt pwc par amt held clos seW seS leW leS) (fun (r : Int32) (u : Ar) => Q r u) (fun u => wB γ ad seen cnt pwc par u held clos seW seS leW leS) := startH (by decide +kernel) (Nat.le_of_ble_eq_true rfl) (fun κ C RT hR hT => by
  show G l γ κ (wB γ ad seen cnt pwc par amt held clos seW seS leW leS) [(0, .ref (ad 0)), (1, .int x1), (2, .int x2)] 0 0 [] 0
  refine g_aload_n (pc' := 1) C dL_copy_0 rfl rfl rfl ?_
  refine g_iload_n (pc' := 2) C dL_copy_1 rfl rfl rfl ?_
  refine g_iload_n (pc' := 3) C dL_copy_2 rfl rfl rfl ?_
  rcases hv with hv | hv
  · refine cfX C (run_VX (rest := []) C lk_L_28 (mtzX3_copy hfl hv) ⟨by decide, by decide⟩ rfl rfl rfl rfl (Nat.le_of_ble_eq_true rfl) ⟨hR.1, hR.2⟩ dL_copy_3) [0, 1, 2, 3, 4, 5, 6, 7, 8, 9, 10, 11, 12] [] [0, 1, 2, 3, 4, 5, 6, 7, 8, 9, 10, 11, 12] nd_HB di_HB (fun u3 => wB γ ad seen cnt pwc par u3 held clos seW seS leW leS) rfl rfl (fun _ => rfl) (fun E u3 hx => ?_)
    rcases hx with ⟨rfl, hv⟩
    · exact ⟨[], ⟨0, 6, 7, 15⟩, [], hT.trans rfl, ps0, rfl, by decide, cl_L_15, by simp [exW], fun q9 => by
        refine g_astore_n (pc' := 8) (lv' := [(3, .ref q9), (0, .ref (ad 0)), (1, .int x1), (2, .int x2)]) C dL_copy_7 rfl rfl (by decide) rfl ?_
        refine g_bipush (pc' := 10) (v := (-3 : Int32)) C dL_copy_8 rfl (by decide) ?_
        exact RT (-3 : Int32) u3 _ _ _ _ dL_copy_10 rfl (by decide) (by decide) hv⟩
  · refine cfI (pc' := 6) C (run_VI (rest := []) C lk_L_28 (mtX3_copy hv) ⟨by decide, by decide⟩ rfl rfl rfl rfl (Nat.le_of_ble_eq_true rfl) ⟨Nat.zero_le _, Nat.zero_le _⟩ dL_copy_3) rfl [0, 1, 2, 3, 4, 5, 6, 7, 8, 9, 10, 11, 12] [] [0, 1, 2, 3, 4, 5, 6, 7, 8, 9, 10, 11, 12] nd_HB di_HB (fun u3 => wB γ ad seen cnt pwc par u3 held clos seW seS leW leS) rfl rfl (fun _ => rfl) (fun r3 u3 hv => ?_)
    exact RT r3 u3 _ _ _ _ dL_copy_6 rfl (by decide) (by decide) hv)
def vL_see (cnt : Int32) (pwc : Int32) (amt : Ar) (x1 : Int32) (x2 : Int32) (x3 : Int32) (x4 : Int32) (Q : Int32 → (Ar) → Prop) : Prop := ((zX3_see cnt pwc amt x1 x2 x3 x4 (fun E u6 => (E = eIS ∧ (Q (-3 : Int32) u6)))) ∨ (vX3_see cnt pwc amt x1 x2 x3 x4 (fun r6 u6 => (Q r6 u6))))
set_option maxHeartbeats 4000000 in
set_option maxRecDepth 100000 in
theorem mtL_see {l : Launch} (hfl : l.stackTraces = false) {γ : Gm} {ad : Nat → Nat} {seen : Int32} {cnt : Int32} {pwc : Int32} {par : Ar} {amt : Ar} {held : Ar} {clos : Ar} {seW : Ar} {seS : Ar} {leW : Ar} {leS : Ar} {x1 : Int32} {x2 : Int32} {x3 : Int32} {x4 : Int32} {Q : Int32 → (Ar) → Prop} (hv : vL_see cnt pwc amt x1 x2 x3 x4 Q) : CtH l γ yL_see cL_see 6 .int [(0, 9, 10, 15)] 8 127 [.ref (ad 0), .int x1, .int x2, .int x3, .int x4] (wB γ ad seen cnt pwc par amt held clos seW seS leW leS) (fun (r : Int32) (u : Ar) => Q r u) (fun u => wB γ ad seen cnt pwc par u held clos seW seS leW leS) := startH (by decide +kernel) (Nat.le_of_ble_eq_true rfl) (fun κ C RT hR hT => by
  show G l γ κ (wB γ ad seen cnt pwc par amt held clos seW seS leW leS) [(0, .ref (ad 0)), (1, .int x1), (2, .int x2), (3, .int x3), (4, .int x4)] 0 0 [] 0
  refine g_aload_n (pc' := 1) C dL_see_0 rfl rfl rfl ?_
  refine g_iload_n (pc' := 2) C dL_see_1 rfl rfl rfl ?_
  refine g_iload_n (pc' := 3) C dL_see_2 rfl rfl rfl ?_
  refine g_iload_n (pc' := 4) C dL_see_3 rfl rfl rfl ?_
  refine g_iload (pc' := 6) C dL_see_4 rfl rfl ?_
  rcases hv with hv | hv
  · refine cfX C (run_VX (rest := []) C lk_L_32 (mtzX3_see hfl hv) ⟨by decide, by decide⟩ rfl rfl rfl rfl (Nat.le_of_ble_eq_true rfl) ⟨hR.1, hR.2⟩ dL_see_6) [0, 1, 2, 3, 4, 5, 6, 7, 8, 9, 10, 11, 12] [] [0, 1, 2, 3, 4, 5, 6, 7, 8, 9, 10, 11, 12] nd_HB di_HB (fun u6 => wB γ ad seen cnt pwc par u6 held clos seW seS leW leS) rfl rfl (fun _ => rfl) (fun E u6 hx => ?_)
    rcases hx with ⟨rfl, hv⟩
    · exact ⟨[], ⟨0, 9, 10, 15⟩, [], hT.trans rfl, ps0, rfl, by decide, cl_L_15, by simp [exW], fun q9 => by
        refine g_astore (pc' := 12) (lv' := [(5, .ref q9), (0, .ref (ad 0)), (1, .int x1), (2, .int x2), (3, .int x3), (4, .int x4)]) C dL_see_10 rfl (by decide) rfl ?_
        refine g_bipush (pc' := 14) (v := (-3 : Int32)) C dL_see_12 rfl (by decide) ?_
        exact RT (-3 : Int32) u6 _ _ _ _ dL_see_14 rfl (by decide) (by decide) hv⟩
  · refine cfI (pc' := 9) C (run_VI (rest := []) C lk_L_32 (mtX3_see hv) ⟨by decide, by decide⟩ rfl rfl rfl rfl (Nat.le_of_ble_eq_true rfl) ⟨Nat.zero_le _, Nat.zero_le _⟩ dL_see_6) rfl [0, 1, 2, 3, 4, 5, 6, 7, 8, 9, 10, 11, 12] [] [0, 1, 2, 3, 4, 5, 6, 7, 8, 9, 10, 11, 12] nd_HB di_HB (fun u6 => wB γ ad seen cnt pwc par u6 held clos seW seS leW leS) rfl rfl (fun _ => rfl) (fun r6 u6 hv => ?_)
    exact RT r6 u6 _ _ _ _ dL_see_9 rfl (by decide) (by decide) hv)
def vL_holds_J138 (cnt : Int32) (pwc : Int32) (par : Ar) (amt : Ar) (x1 : Int32) (x2 : Int32) (x3 : Int32) (x5 : Int32) (s0 : Int32) (Q : Int32 → Prop) : Prop := ((s0 = (0 : Int32) → (Q (0 : Int32))) ∧ (¬ s0 = (0 : Int32) → (vX3_year cnt pwc par amt x2 x3 (3 : Int32) (fun r151 => (vX3_year cnt pwc par amt x1 x3 (3 : Int32) (fun r158 => ((¬ x5 = (r151 - r158) → (Q (0 : Int32))) ∧ (x5 = (r151 - r158) → (vX3_gap cnt pwc par amt x1 x1 x3 (0 : Int32) (fun r170 => ((¬ r170 = (0 : Int32) → (Q (0 : Int32))) ∧ (r170 = (0 : Int32) → (Q (1 : Int32))))))))))))))
set_option maxHeartbeats 4000000 in
set_option maxRecDepth 100000 in
theorem wvL_holds_J138 {l : Launch} {γ : Gm} {κ : Kx} {ad : Nat → Nat} {seen : Int32} {cnt : Int32} {pwc : Int32} {par : Ar} {amt : Ar} {held : Ar} {clos : Ar} {seW : Ar} {seS : Ar} {leW : Ar} {leS : Ar} {x1 : Int32} {x2 : Int32} {x3 : Int32} {x5 : Int32} {s0 : Int32} {Q : Int32 → Prop} (C : Ok γ κ cL_holds 6 RL 8 130) (RT : RtI l γ κ cL_holds .boolean 0 0 (fun (r : Int32) (_ : Unit) => Q r) (fun _ => wB γ ad seen cnt pwc par amt held clos seW seS leW leS))  (hv : vL_holds_J138 cnt pwc par amt x1 x2 x3 x5 s0 Q) : G l γ κ (wB γ ad seen cnt pwc par amt held clos seW seS leW leS) [(0, .ref (ad 0)), (1, .int x1), (2, .int x2), (3, .int x3), (5, .int x5)] 0 0 [.int s0] 138 := by
  refine g_istore (pc' := 140) (lv' := [(4, .int s0), (0, .ref (ad 0)), (1, .int x1), (2, .int x2), (3, .int x3), (5, .int x5)]) C dL_holds_138 rfl (by decide) rfl ?_
  refine g_iload (pc' := 142) C dL_holds_140 rfl rfl ?_
  obtain ⟨hv1, hv2⟩ := hv
  refine g_if_eq (pc' := 145) (tgt := 180) C dL_holds_142 rfl (by decide) (fun c => ?_) (fun c => ?_)
  · have hv := hv1 c
    refine g_iconst (pc' := 181) (v := (0 : Int32)) C dL_holds_180 rfl (by decide) ?_
    exact RT (0 : Int32) () _ _ _ _ dL_holds_181 rfl (by decide) (by decide) hv
  · have hv := hv2 c
    refine g_iload (pc' := 147) C dL_holds_145 rfl rfl ?_
    refine g_aload_n (pc' := 148) C dL_holds_147 rfl rfl rfl ?_
    refine g_iload_n (pc' := 149) C dL_holds_148 rfl rfl rfl ?_
    refine g_iload_n (pc' := 150) C dL_holds_149 rfl rfl rfl ?_
    refine g_iconst (pc' := 151) (v := (3 : Int32)) C dL_holds_150 rfl (by decide) ?_
    refine cfI (pc' := 154) C (run_VI (rest := [.int x5]) C lk_L_43 (mtX3_year hv) ⟨by decide, by decide⟩ rfl rfl rfl rfl (Nat.le_of_ble_eq_true rfl) ⟨Nat.zero_le _, Nat.zero_le _⟩ dL_holds_151) rfl [0, 1, 2, 3, 4, 5, 6, 7, 8, 9, 10, 11, 12] [] [0, 1, 2, 3, 4, 5, 6, 7, 8, 9, 10, 11, 12] nd_HB di_HB (fun u151 => wB γ ad seen cnt pwc par amt held clos seW seS leW leS) rfl rfl (fun _ => rfl) (fun r151 u151 hv => ?_)
    refine g_aload_n (pc' := 155) C dL_holds_154 rfl rfl rfl ?_
    refine g_iload_n (pc' := 156) C dL_holds_155 rfl rfl rfl ?_
    refine g_iload_n (pc' := 157) C dL_holds_156 rfl rfl rfl ?_
    refine g_iconst (pc' := 158) (v := (3 : Int32)) C dL_holds_157 rfl (by decide) ?_
    refine cfI (pc' := 161) C (run_VI (rest := [.int r151, .int x5]) C lk_L_43 (mtX3_year hv) ⟨by decide, by decide⟩ rfl rfl rfl rfl (Nat.le_of_ble_eq_true rfl) ⟨Nat.zero_le _, Nat.zero_le _⟩ dL_holds_158) rfl [0, 1, 2, 3, 4, 5, 6, 7, 8, 9, 10, 11, 12] [] [0, 1, 2, 3, 4, 5, 6, 7, 8, 9, 10, 11, 12] nd_HB di_HB (fun u158 => wB γ ad seen cnt pwc par amt held clos seW seS leW leS) rfl rfl (fun _ => rfl) (fun r158 u158 hv => ?_)
    refine g_isub (pc' := 162) C dL_holds_161 rfl ?_
    obtain ⟨hv1, hv2⟩ := hv
    refine g_icmp_ne (pc' := 165) (tgt := 180) C dL_holds_162 rfl (by decide) (fun c => ?_) (fun c => ?_)
    · have hv := hv1 c
      refine g_iconst (pc' := 181) (v := (0 : Int32)) C dL_holds_180 rfl (by decide) ?_
      exact RT (0 : Int32) () _ _ _ _ dL_holds_181 rfl (by decide) (by decide) hv
    · have hv := hv2 c
      refine g_aload_n (pc' := 166) C dL_holds_165 rfl rfl rfl ?_
      refine g_iload_n (pc' := 167) C dL_holds_166 rfl rfl rfl ?_
      refine g_iload_n (pc' := 168) C dL_holds_167 rfl rfl rfl ?_
      refine g_iload_n (pc' := 169) C dL_holds_168 rfl rfl rfl ?_
      refine g_iconst (pc' := 170) (v := (0 : Int32)) C dL_holds_169 rfl (by decide) ?_
      refine cfI (pc' := 173) C (run_VI (rest := []) C lk_L_49 (mtX3_gap hv) ⟨by decide, by decide⟩ rfl rfl rfl rfl (Nat.le_of_ble_eq_true rfl) ⟨Nat.zero_le _, Nat.zero_le _⟩ dL_holds_170) rfl [0, 1, 2, 3, 4, 5, 6, 7, 8, 9, 10, 11, 12] [] [0, 1, 2, 3, 4, 5, 6, 7, 8, 9, 10, 11, 12] nd_HB di_HB (fun u170 => wB γ ad seen cnt pwc par amt held clos seW seS leW leS) rfl rfl (fun _ => rfl) (fun r170 u170 hv => ?_)
      obtain ⟨hv1, hv2⟩ := hv
      refine g_if_ne (pc' := 176) (tgt := 180) C dL_holds_173 rfl (by decide) (fun c => ?_) (fun c => ?_)
      · have hv := hv1 c
        refine g_iconst (pc' := 181) (v := (0 : Int32)) C dL_holds_180 rfl (by decide) ?_
        exact RT (0 : Int32) () _ _ _ _ dL_holds_181 rfl (by decide) (by decide) hv
      · have hv := hv2 c
        refine g_iconst (pc' := 177) (v := (1 : Int32)) C dL_holds_176 rfl (by decide) ?_
        refine g_goto (tgt := 181) C dL_holds_177 (by decide) ?_
        exact RT (1 : Int32) () _ _ _ _ dL_holds_181 rfl (by decide) (by decide) hv
def vL_holds_J137 (cnt : Int32) (pwc : Int32) (par : Ar) (amt : Ar) (x1 : Int32) (x2 : Int32) (x3 : Int32) (x5 : Int32) (Q : Int32 → Prop) : Prop := (vL_holds_J138 cnt pwc par amt x1 x2 x3 x5 (0 : Int32) Q)
set_option maxHeartbeats 4000000 in
set_option maxRecDepth 100000 in
theorem wvL_holds_J137 {l : Launch} {γ : Gm} {κ : Kx} {ad : Nat → Nat} {seen : Int32} {cnt : Int32} {pwc : Int32} {par : Ar} {amt : Ar} {held : Ar} {clos : Ar} {seW : Ar} {seS : Ar} {leW : Ar} {leS : Ar} {x1 : Int32} {x2 : Int32} {x3 : Int32} {x5 : Int32} {Q : Int32 → Prop} (C : Ok γ κ cL_holds 6 RL 8 130) (RT : RtI l γ κ cL_holds .boolean 0 0 (fun (r : Int32) (_ : Unit) => Q r) (fun _ => wB γ ad seen cnt pwc par amt held clos seW seS leW leS))  (hv : vL_holds_J137 cnt pwc par amt x1 x2 x3 x5 Q) : G l γ κ (wB γ ad seen cnt pwc par amt held clos seW seS leW leS) [(0, .ref (ad 0)), (1, .int x1), (2, .int x2), (3, .int x3), (5, .int x5)] 0 0 [] 137 := by
  refine g_iconst (pc' := 138) (v := (0 : Int32)) C dL_holds_137 rfl (by decide) ?_
  exact wvL_holds_J138 C RT  hv
def vL_holds_J87 (cnt : Int32) (pwc : Int32) (par : Ar) (amt : Ar) (x1 : Int32) (x2 : Int32) (x3 : Int32) (x4 : Int32) (Q : Int32 → Prop) : Prop := (vX3_gap cnt pwc par amt x1 x2 x3 (0 : Int32) (fun r92 => ((x4 = (0 : Int32) → (vL_holds_J137 cnt pwc par amt x1 x2 x3 r92 Q)) ∧ (¬ x4 = (0 : Int32) → (vX3_gap cnt pwc par amt x1 x2 x3 (1 : Int32) (fun r109 => (vX3_gap cnt pwc par amt x1 x2 x3 (2 : Int32) (fun r117 => (vX3_gap cnt pwc par amt x1 x2 x3 (3 : Int32) (fun r126 => ((¬ r92 = ((r109 + r117) + r126) → (vL_holds_J137 cnt pwc par amt x1 x2 x3 r92 Q)) ∧ (r92 = ((r109 + r117) + r126) → (vL_holds_J138 cnt pwc par amt x1 x2 x3 r92 (1 : Int32) Q)))))))))))))
set_option maxHeartbeats 4000000 in
set_option maxRecDepth 100000 in
theorem wvL_holds_J87 {l : Launch} {γ : Gm} {κ : Kx} {ad : Nat → Nat} {seen : Int32} {cnt : Int32} {pwc : Int32} {par : Ar} {amt : Ar} {held : Ar} {clos : Ar} {seW : Ar} {seS : Ar} {leW : Ar} {leS : Ar} {x1 : Int32} {x2 : Int32} {x3 : Int32} {x4 : Int32} {Q : Int32 → Prop} (C : Ok γ κ cL_holds 6 RL 8 130) (RT : RtI l γ κ cL_holds .boolean 0 0 (fun (r : Int32) (_ : Unit) => Q r) (fun _ => wB γ ad seen cnt pwc par amt held clos seW seS leW leS))  (hv : vL_holds_J87 cnt pwc par amt x1 x2 x3 x4 Q) : G l γ κ (wB γ ad seen cnt pwc par amt held clos seW seS leW leS) [(0, .ref (ad 0)), (1, .int x1), (2, .int x2), (3, .int x3), (4, .int x4)] 0 0 [] 87 := by
  refine g_aload_n (pc' := 88) C dL_holds_87 rfl rfl rfl ?_
  refine g_iload_n (pc' := 89) C dL_holds_88 rfl rfl rfl ?_
  refine g_iload_n (pc' := 90) C dL_holds_89 rfl rfl rfl ?_
  refine g_iload_n (pc' := 91) C dL_holds_90 rfl rfl rfl ?_
  refine g_iconst (pc' := 92) (v := (0 : Int32)) C dL_holds_91 rfl (by decide) ?_
  refine cfI (pc' := 95) C (run_VI (rest := []) C lk_L_49 (mtX3_gap hv) ⟨by decide, by decide⟩ rfl rfl rfl rfl (Nat.le_of_ble_eq_true rfl) ⟨Nat.zero_le _, Nat.zero_le _⟩ dL_holds_92) rfl [0, 1, 2, 3, 4, 5, 6, 7, 8, 9, 10, 11, 12] [] [0, 1, 2, 3, 4, 5, 6, 7, 8, 9, 10, 11, 12] nd_HB di_HB (fun u92 => wB γ ad seen cnt pwc par amt held clos seW seS leW leS) rfl rfl (fun _ => rfl) (fun r92 u92 hv => ?_)
  refine g_istore (pc' := 97) (lv' := [(5, .int r92), (0, .ref (ad 0)), (1, .int x1), (2, .int x2), (3, .int x3), (4, .int x4)]) C dL_holds_95 rfl (by decide) rfl ?_
  refine g_iload (pc' := 99) C dL_holds_97 rfl rfl ?_
  obtain ⟨hv1, hv2⟩ := hv
  refine g_if_eq (pc' := 102) (tgt := 137) C dL_holds_99 rfl (by decide) (fun c => ?_) (fun c => ?_)
  · have hv := hv1 c
    refine g_sub (lv' := [(0, .ref (ad 0)), (1, .int x1), (2, .int x2), (3, .int x3), (5, .int r92)]) [1, 2, 3, 4, 0] rfl ?_
    exact wvL_holds_J137 C RT  hv
  · have hv := hv2 c
    refine g_iload (pc' := 104) C dL_holds_102 rfl rfl ?_
    refine g_aload_n (pc' := 105) C dL_holds_104 rfl rfl rfl ?_
    refine g_iload_n (pc' := 106) C dL_holds_105 rfl rfl rfl ?_
    refine g_iload_n (pc' := 107) C dL_holds_106 rfl rfl rfl ?_
    refine g_iload_n (pc' := 108) C dL_holds_107 rfl rfl rfl ?_
    refine g_iconst (pc' := 109) (v := (1 : Int32)) C dL_holds_108 rfl (by decide) ?_
    refine cfI (pc' := 112) C (run_VI (rest := [.int r92]) C lk_L_49 (mtX3_gap hv) ⟨by decide, by decide⟩ rfl rfl rfl rfl (Nat.le_of_ble_eq_true rfl) ⟨Nat.zero_le _, Nat.zero_le _⟩ dL_holds_109) rfl [0, 1, 2, 3, 4, 5, 6, 7, 8, 9, 10, 11, 12] [] [0, 1, 2, 3, 4, 5, 6, 7, 8, 9, 10, 11, 12] nd_HB di_HB (fun u109 => wB γ ad seen cnt pwc par amt held clos seW seS leW leS) rfl rfl (fun _ => rfl) (fun r109 u109 hv => ?_)
    refine g_aload_n (pc' := 113) C dL_holds_112 rfl rfl rfl ?_
    refine g_iload_n (pc' := 114) C dL_holds_113 rfl rfl rfl ?_
    refine g_iload_n (pc' := 115) C dL_holds_114 rfl rfl rfl ?_
    refine g_iload_n (pc' := 116) C dL_holds_115 rfl rfl rfl ?_
    refine g_iconst (pc' := 117) (v := (2 : Int32)) C dL_holds_116 rfl (by decide) ?_
    refine cfI (pc' := 120) C (run_VI (rest := [.int r109, .int r92]) C lk_L_49 (mtX3_gap hv) ⟨by decide, by decide⟩ rfl rfl rfl rfl (Nat.le_of_ble_eq_true rfl) ⟨Nat.zero_le _, Nat.zero_le _⟩ dL_holds_117) rfl [0, 1, 2, 3, 4, 5, 6, 7, 8, 9, 10, 11, 12] [] [0, 1, 2, 3, 4, 5, 6, 7, 8, 9, 10, 11, 12] nd_HB di_HB (fun u117 => wB γ ad seen cnt pwc par amt held clos seW seS leW leS) rfl rfl (fun _ => rfl) (fun r117 u117 hv => ?_)
    refine g_iadd (pc' := 121) C dL_holds_120 rfl ?_
    refine g_aload_n (pc' := 122) C dL_holds_121 rfl rfl rfl ?_
    refine g_iload_n (pc' := 123) C dL_holds_122 rfl rfl rfl ?_
    refine g_iload_n (pc' := 124) C dL_holds_123 rfl rfl rfl ?_
    refine g_iload_n (pc' := 125) C dL_holds_124 rfl rfl rfl ?_
    refine g_iconst (pc' := 126) (v := (3 : Int32)) C dL_holds_125 rfl (by decide) ?_
    refine cfI (pc' := 129) C (run_VI (rest := [.int (r109 + r117), .int r92]) C lk_L_49 (mtX3_gap hv) ⟨by decide, by decide⟩ rfl rfl rfl rfl (Nat.le_of_ble_eq_true rfl) ⟨Nat.zero_le _, Nat.zero_le _⟩ dL_holds_126) rfl [0, 1, 2, 3, 4, 5, 6, 7, 8, 9, 10, 11, 12] [] [0, 1, 2, 3, 4, 5, 6, 7, 8, 9, 10, 11, 12] nd_HB di_HB (fun u126 => wB γ ad seen cnt pwc par amt held clos seW seS leW leS) rfl rfl (fun _ => rfl) (fun r126 u126 hv => ?_)
    refine g_iadd (pc' := 130) C dL_holds_129 rfl ?_
    obtain ⟨hv1, hv2⟩ := hv
    refine g_icmp_ne (pc' := 133) (tgt := 137) C dL_holds_130 rfl (by decide) (fun c => ?_) (fun c => ?_)
    · have hv := hv1 c
      refine g_sub (lv' := [(0, .ref (ad 0)), (1, .int x1), (2, .int x2), (3, .int x3), (5, .int r92)]) [1, 2, 3, 4, 0] rfl ?_
      exact wvL_holds_J137 C RT  hv
    · have hv := hv2 c
      refine g_iconst (pc' := 134) (v := (1 : Int32)) C dL_holds_133 rfl (by decide) ?_
      refine g_goto (tgt := 138) C dL_holds_134 (by decide) ?_
      refine g_sub (lv' := [(0, .ref (ad 0)), (1, .int x1), (2, .int x2), (3, .int x3), (5, .int r92)]) [1, 2, 3, 4, 0] rfl ?_
      exact wvL_holds_J138 C RT  hv
def vL_holds_L25 (cnt : Int32) (pwc : Int32) (par : Ar) (amt : Ar) (x1 : Int32) (x2 : Int32) (x3 : Int32) (Q : Int32 → Prop) : Nat → Int32 → Int32 → Prop
  | 0, _, _ => False
  | n + 1, x4, x5 => (((4 : Int32) ≤ x5 → (vL_holds_J87 cnt pwc par amt x1 x2 x3 x4 Q)) ∧ (¬ (4 : Int32) ≤ x5 → ((x4 = (0 : Int32) → (vL_holds_J87 cnt pwc par amt x1 x2 x3 x4 Q)) ∧ (¬ x4 = (0 : Int32) → (vX3_year cnt pwc par amt x1 x3 x5 (fun r41 => (vX3_yearByLeaves cnt pwc par amt x1 x3 x5 (fun r49 => ((¬ r41 = r49 → (vL_holds_L25 cnt pwc par amt x1 x2 x3 Q n (0 : Int32) (x5 + (1 : Int32)))) ∧ (r41 = r49 → (vX3_year cnt pwc par amt x1 x3 x5 (fun r60 => (vX3_year cnt pwc par amt x1 (0 : Int32) x5 (fun r68 => ((r68 < r60 → (vL_holds_L25 cnt pwc par amt x1 x2 x3 Q n (0 : Int32) (x5 + (1 : Int32)))) ∧ (¬ r68 < r60 → (vL_holds_L25 cnt pwc par amt x1 x2 x3 Q n (1 : Int32) (x5 + (1 : Int32)))))))))))))))))))
set_option maxHeartbeats 4000000 in
set_option maxRecDepth 100000 in
theorem wvL_holds_L25 {l : Launch} {γ : Gm} {κ : Kx} {ad : Nat → Nat} {seen : Int32} {cnt : Int32} {pwc : Int32} {par : Ar} {amt : Ar} {held : Ar} {clos : Ar} {seW : Ar} {seS : Ar} {leW : Ar} {leS : Ar} {x1 : Int32} {x2 : Int32} {x3 : Int32} {Q : Int32 → Prop} (C : Ok γ κ cL_holds 6 RL 8 130) (RT : RtI l γ κ cL_holds .boolean 0 0 (fun (r : Int32) (_ : Unit) => Q r) (fun _ => wB γ ad seen cnt pwc par amt held clos seW seS leW leS))  : ∀ (n : Nat) (x4 : Int32) (x5 : Int32), vL_holds_L25 cnt pwc par amt x1 x2 x3 Q n x4 x5 → G l γ κ (wB γ ad seen cnt pwc par amt held clos seW seS leW leS) [(0, .ref (ad 0)), (1, .int x1), (2, .int x2), (3, .int x3), (4, .int x4), (5, .int x5)] 0 0 [] 25 := by
  intro n
  induction n with
  | zero => intro x4 x5 hv; exact False.elim hv
  | succ n ih =>
    intro x4 x5 hv
    refine g_iload (pc' := 27) C dL_holds_25 rfl rfl ?_
    refine g_iconst (pc' := 28) (v := (4 : Int32)) C dL_holds_27 rfl (by decide) ?_
    obtain ⟨hv1, hv2⟩ := hv
    refine g_icmp_ge (pc' := 31) (tgt := 87) C dL_holds_28 rfl (by decide) (fun c => ?_) (fun c => ?_)
    · have hv := hv1 c
      refine g_sub (lv' := [(0, .ref (ad 0)), (1, .int x1), (2, .int x2), (3, .int x3), (4, .int x4)]) [0, 1, 2, 3, 4] rfl ?_
      exact wvL_holds_J87 C RT  hv
    · have hv := hv2 c
      refine g_iload (pc' := 33) C dL_holds_31 rfl rfl ?_
      obtain ⟨hv1, hv2⟩ := hv
      refine g_if_eq (pc' := 36) (tgt := 87) C dL_holds_33 rfl (by decide) (fun c => ?_) (fun c => ?_)
      · have hv := hv1 c
        refine g_sub (lv' := [(0, .ref (ad 0)), (1, .int x1), (2, .int x2), (3, .int x3), (4, .int x4)]) [0, 1, 2, 3, 4] rfl ?_
        exact wvL_holds_J87 C RT  hv
      · have hv := hv2 c
        refine g_aload_n (pc' := 37) C dL_holds_36 rfl rfl rfl ?_
        refine g_iload_n (pc' := 38) C dL_holds_37 rfl rfl rfl ?_
        refine g_iload_n (pc' := 39) C dL_holds_38 rfl rfl rfl ?_
        refine g_iload (pc' := 41) C dL_holds_39 rfl rfl ?_
        refine cfI (pc' := 44) C (run_VI (rest := []) C lk_L_43 (mtX3_year hv) ⟨by decide, by decide⟩ rfl rfl rfl rfl (Nat.le_of_ble_eq_true rfl) ⟨Nat.zero_le _, Nat.zero_le _⟩ dL_holds_41) rfl [0, 1, 2, 3, 4, 5, 6, 7, 8, 9, 10, 11, 12] [] [0, 1, 2, 3, 4, 5, 6, 7, 8, 9, 10, 11, 12] nd_HB di_HB (fun u41 => wB γ ad seen cnt pwc par amt held clos seW seS leW leS) rfl rfl (fun _ => rfl) (fun r41 u41 hv => ?_)
        refine g_aload_n (pc' := 45) C dL_holds_44 rfl rfl rfl ?_
        refine g_iload_n (pc' := 46) C dL_holds_45 rfl rfl rfl ?_
        refine g_iload_n (pc' := 47) C dL_holds_46 rfl rfl rfl ?_
        refine g_iload (pc' := 49) C dL_holds_47 rfl rfl ?_
        refine cfI (pc' := 52) C (run_VI (rest := [.int r41]) C lk_L_46 (mtX3_yearByLeaves hv) ⟨by decide, by decide⟩ rfl rfl rfl rfl (Nat.le_of_ble_eq_true rfl) ⟨Nat.zero_le _, Nat.zero_le _⟩ dL_holds_49) rfl [0, 1, 2, 3, 4, 5, 6, 7, 8, 9, 10, 11, 12] [] [0, 1, 2, 3, 4, 5, 6, 7, 8, 9, 10, 11, 12] nd_HB di_HB (fun u49 => wB γ ad seen cnt pwc par amt held clos seW seS leW leS) rfl rfl (fun _ => rfl) (fun r49 u49 hv => ?_)
        obtain ⟨hv1, hv2⟩ := hv
        refine g_icmp_ne (pc' := 55) (tgt := 78) C dL_holds_52 rfl (by decide) (fun c => ?_) (fun c => ?_)
        · have hv := hv1 c
          refine g_iconst (pc' := 79) (v := (0 : Int32)) C dL_holds_78 rfl (by decide) ?_
          refine g_istore (pc' := 81) (lv' := [(4, .int (0 : Int32)), (0, .ref (ad 0)), (1, .int x1), (2, .int x2), (3, .int x3), (5, .int x5)]) C dL_holds_79 rfl (by decide) rfl ?_
          refine g_iinc (pc' := 84) (v := (x5 + (1 : Int32))) (lv' := [(5, .int (x5 + (1 : Int32))), (4, .int (0 : Int32)), (0, .ref (ad 0)), (1, .int x1), (2, .int x2), (3, .int x3)]) C dL_holds_81 rfl rfl rfl (by decide) rfl ?_
          refine g_goto (tgt := 25) C dL_holds_84 (by decide) ?_
          refine g_sub (lv' := [(0, .ref (ad 0)), (1, .int x1), (2, .int x2), (3, .int x3), (4, .int (0 : Int32)), (5, .int (x5 + (1 : Int32)))]) [2, 3, 4, 5, 1, 0] rfl ?_
          exact ih _ _ hv
        · have hv := hv2 c
          refine g_aload_n (pc' := 56) C dL_holds_55 rfl rfl rfl ?_
          refine g_iload_n (pc' := 57) C dL_holds_56 rfl rfl rfl ?_
          refine g_iload_n (pc' := 58) C dL_holds_57 rfl rfl rfl ?_
          refine g_iload (pc' := 60) C dL_holds_58 rfl rfl ?_
          refine cfI (pc' := 63) C (run_VI (rest := []) C lk_L_43 (mtX3_year hv) ⟨by decide, by decide⟩ rfl rfl rfl rfl (Nat.le_of_ble_eq_true rfl) ⟨Nat.zero_le _, Nat.zero_le _⟩ dL_holds_60) rfl [0, 1, 2, 3, 4, 5, 6, 7, 8, 9, 10, 11, 12] [] [0, 1, 2, 3, 4, 5, 6, 7, 8, 9, 10, 11, 12] nd_HB di_HB (fun u60 => wB γ ad seen cnt pwc par amt held clos seW seS leW leS) rfl rfl (fun _ => rfl) (fun r60 u60 hv => ?_)
          refine g_aload_n (pc' := 64) C dL_holds_63 rfl rfl rfl ?_
          refine g_iload_n (pc' := 65) C dL_holds_64 rfl rfl rfl ?_
          refine g_iconst (pc' := 66) (v := (0 : Int32)) C dL_holds_65 rfl (by decide) ?_
          refine g_iload (pc' := 68) C dL_holds_66 rfl rfl ?_
          refine cfI (pc' := 71) C (run_VI (rest := [.int r60]) C lk_L_43 (mtX3_year hv) ⟨by decide, by decide⟩ rfl rfl rfl rfl (Nat.le_of_ble_eq_true rfl) ⟨Nat.zero_le _, Nat.zero_le _⟩ dL_holds_68) rfl [0, 1, 2, 3, 4, 5, 6, 7, 8, 9, 10, 11, 12] [] [0, 1, 2, 3, 4, 5, 6, 7, 8, 9, 10, 11, 12] nd_HB di_HB (fun u68 => wB γ ad seen cnt pwc par amt held clos seW seS leW leS) rfl rfl (fun _ => rfl) (fun r68 u68 hv => ?_)
          obtain ⟨hv1, hv2⟩ := hv
          refine g_icmp_gt (pc' := 74) (tgt := 78) C dL_holds_71 rfl (by decide) (fun c => ?_) (fun c => ?_)
          · have hv := hv1 c
            refine g_iconst (pc' := 79) (v := (0 : Int32)) C dL_holds_78 rfl (by decide) ?_
            refine g_istore (pc' := 81) (lv' := [(4, .int (0 : Int32)), (0, .ref (ad 0)), (1, .int x1), (2, .int x2), (3, .int x3), (5, .int x5)]) C dL_holds_79 rfl (by decide) rfl ?_
            refine g_iinc (pc' := 84) (v := (x5 + (1 : Int32))) (lv' := [(5, .int (x5 + (1 : Int32))), (4, .int (0 : Int32)), (0, .ref (ad 0)), (1, .int x1), (2, .int x2), (3, .int x3)]) C dL_holds_81 rfl rfl rfl (by decide) rfl ?_
            refine g_goto (tgt := 25) C dL_holds_84 (by decide) ?_
            refine g_sub (lv' := [(0, .ref (ad 0)), (1, .int x1), (2, .int x2), (3, .int x3), (4, .int (0 : Int32)), (5, .int (x5 + (1 : Int32)))]) [2, 3, 4, 5, 1, 0] rfl ?_
            exact ih _ _ hv
          · have hv := hv2 c
            refine g_iconst (pc' := 75) (v := (1 : Int32)) C dL_holds_74 rfl (by decide) ?_
            refine g_goto (tgt := 79) C dL_holds_75 (by decide) ?_
            refine g_istore (pc' := 81) (lv' := [(4, .int (1 : Int32)), (0, .ref (ad 0)), (1, .int x1), (2, .int x2), (3, .int x3), (5, .int x5)]) C dL_holds_79 rfl (by decide) rfl ?_
            refine g_iinc (pc' := 84) (v := (x5 + (1 : Int32))) (lv' := [(5, .int (x5 + (1 : Int32))), (4, .int (1 : Int32)), (0, .ref (ad 0)), (1, .int x1), (2, .int x2), (3, .int x3)]) C dL_holds_81 rfl rfl rfl (by decide) rfl ?_
            refine g_goto (tgt := 25) C dL_holds_84 (by decide) ?_
            refine g_sub (lv' := [(0, .ref (ad 0)), (1, .int x1), (2, .int x2), (3, .int x3), (4, .int (1 : Int32)), (5, .int (x5 + (1 : Int32)))]) [2, 3, 4, 5, 1, 0] rfl ?_
            exact ih _ _ hv
def vL_holds (cnt : Int32) (pwc : Int32) (par : Ar) (amt : Ar) (x1 : Int32) (x2 : Int32) (x3 : Int32) (Q : Int32 → Prop) : Prop := (vX3_filled amt (fun r1 => ((r1 < (0 : Int32) → (∃ n25 : Nat, vL_holds_L25 cnt pwc par amt x1 x2 x3 Q n25 (0 : Int32) (0 : Int32))) ∧ (¬ r1 < (0 : Int32) → (vX3_leaves cnt pwc par x3 (fun r9 => ((r9 = (0 : Int32) → (∃ n25 : Nat, vL_holds_L25 cnt pwc par amt x1 x2 x3 Q n25 (0 : Int32) (0 : Int32))) ∧ (¬ r9 = (0 : Int32) → (∃ n25 : Nat, vL_holds_L25 cnt pwc par amt x1 x2 x3 Q n25 (1 : Int32) (0 : Int32))))))))))
set_option maxHeartbeats 4000000 in
set_option maxRecDepth 100000 in
theorem mtL_holds {l : Launch} {γ : Gm} {ad : Nat → Nat} {seen : Int32} {cnt : Int32} {pwc : Int32} {par : Ar} {amt : Ar} {held : Ar} {clos : Ar} {seW : Ar} {seS : Ar} {leW : Ar} {leS : Ar} {x1 : Int32} {x2 : Int32} {x3 : Int32} {Q : Int32 → Prop} (hv : vL_holds cnt pwc par amt x1 x2 x3 Q) : CtI l γ yL_holds cL_holds 6 .boolean 8 130 0 0 [.ref (ad 0), .int x1, .int x2, .int x3] (wB γ ad seen cnt pwc par amt held clos seW seS leW leS) (fun (r : Int32) (_ : Unit) => Q r) (fun _ => wB γ ad seen cnt pwc par amt held clos seW seS leW leS) := startI (by decide +kernel) (Nat.le_of_ble_eq_true rfl) (fun κ C RT hR hnm => by
  show G l γ κ (wB γ ad seen cnt pwc par amt held clos seW seS leW leS) [(0, .ref (ad 0)), (1, .int x1), (2, .int x2), (3, .int x3)] 0 0 [] 0
  refine g_aload_n (pc' := 1) C dL_holds_0 rfl rfl rfl ?_
  refine cfI (pc' := 4) C (run_VI (rest := []) C lk_L_36 (mtX3_filled hv) ⟨by decide, by decide⟩ rfl rfl rfl rfl (Nat.le_of_ble_eq_true rfl) ⟨Nat.zero_le _, Nat.zero_le _⟩ dL_holds_1) rfl [0, 1, 2, 3, 4, 5, 6, 7, 8, 9, 10, 11, 12] [] [0, 1, 2, 3, 4, 5, 6, 7, 8, 9, 10, 11, 12] nd_HB di_HB (fun u1 => wB γ ad seen cnt pwc par amt held clos seW seS leW leS) rfl rfl (fun _ => rfl) (fun r1 u1 hv => ?_)
  obtain ⟨hv1, hv2⟩ := hv
  refine g_if_lt (pc' := 7) (tgt := 19) C dL_holds_4 rfl (by decide) (fun c => ?_) (fun c => ?_)
  · have hv := hv1 c
    refine g_iconst (pc' := 20) (v := (0 : Int32)) C dL_holds_19 rfl (by decide) ?_
    refine g_istore (pc' := 22) (lv' := [(4, .int (0 : Int32)), (0, .ref (ad 0)), (1, .int x1), (2, .int x2), (3, .int x3)]) C dL_holds_20 rfl (by decide) rfl ?_
    refine g_iconst (pc' := 23) (v := (0 : Int32)) C dL_holds_22 rfl (by decide) ?_
    refine g_istore (pc' := 25) (lv' := [(5, .int (0 : Int32)), (4, .int (0 : Int32)), (0, .ref (ad 0)), (1, .int x1), (2, .int x2), (3, .int x3)]) C dL_holds_23 rfl (by decide) rfl ?_
    refine g_sub (lv' := [(0, .ref (ad 0)), (1, .int x1), (2, .int x2), (3, .int x3), (4, .int (0 : Int32)), (5, .int (0 : Int32))]) [2, 3, 4, 5, 1, 0] rfl ?_
    obtain ⟨n25, hv⟩ := hv
    exact wvL_holds_L25 C RT  n25 _ _ hv
  · have hv := hv2 c
    refine g_aload_n (pc' := 8) C dL_holds_7 rfl rfl rfl ?_
    refine g_iload_n (pc' := 9) C dL_holds_8 rfl rfl rfl ?_
    refine cfI (pc' := 12) C (run_VI (rest := []) C lk_L_40 (mtX3_leaves hv) ⟨by decide, by decide⟩ rfl rfl rfl rfl (Nat.le_of_ble_eq_true rfl) ⟨Nat.zero_le _, Nat.zero_le _⟩ dL_holds_9) rfl [0, 1, 2, 3, 4, 5, 6, 7, 8, 9, 10, 11, 12] [] [0, 1, 2, 3, 4, 5, 6, 7, 8, 9, 10, 11, 12] nd_HB di_HB (fun u9 => wB γ ad seen cnt pwc par amt held clos seW seS leW leS) rfl rfl (fun _ => rfl) (fun r9 u9 hv => ?_)
    obtain ⟨hv1, hv2⟩ := hv
    refine g_if_eq (pc' := 15) (tgt := 19) C dL_holds_12 rfl (by decide) (fun c => ?_) (fun c => ?_)
    · have hv := hv1 c
      refine g_iconst (pc' := 20) (v := (0 : Int32)) C dL_holds_19 rfl (by decide) ?_
      refine g_istore (pc' := 22) (lv' := [(4, .int (0 : Int32)), (0, .ref (ad 0)), (1, .int x1), (2, .int x2), (3, .int x3)]) C dL_holds_20 rfl (by decide) rfl ?_
      refine g_iconst (pc' := 23) (v := (0 : Int32)) C dL_holds_22 rfl (by decide) ?_
      refine g_istore (pc' := 25) (lv' := [(5, .int (0 : Int32)), (4, .int (0 : Int32)), (0, .ref (ad 0)), (1, .int x1), (2, .int x2), (3, .int x3)]) C dL_holds_23 rfl (by decide) rfl ?_
      refine g_sub (lv' := [(0, .ref (ad 0)), (1, .int x1), (2, .int x2), (3, .int x3), (4, .int (0 : Int32)), (5, .int (0 : Int32))]) [2, 3, 4, 5, 1, 0] rfl ?_
      obtain ⟨n25, hv⟩ := hv
      exact wvL_holds_L25 C RT  n25 _ _ hv
    · have hv := hv2 c
      refine g_iconst (pc' := 16) (v := (1 : Int32)) C dL_holds_15 rfl (by decide) ?_
      refine g_goto (tgt := 20) C dL_holds_16 (by decide) ?_
      refine g_istore (pc' := 22) (lv' := [(4, .int (1 : Int32)), (0, .ref (ad 0)), (1, .int x1), (2, .int x2), (3, .int x3)]) C dL_holds_20 rfl (by decide) rfl ?_
      refine g_iconst (pc' := 23) (v := (0 : Int32)) C dL_holds_22 rfl (by decide) ?_
      refine g_istore (pc' := 25) (lv' := [(5, .int (0 : Int32)), (4, .int (1 : Int32)), (0, .ref (ad 0)), (1, .int x1), (2, .int x2), (3, .int x3)]) C dL_holds_23 rfl (by decide) rfl ?_
      refine g_sub (lv' := [(0, .ref (ad 0)), (1, .int x1), (2, .int x2), (3, .int x3), (4, .int (1 : Int32)), (5, .int (0 : Int32))]) [2, 3, 4, 5, 1, 0] rfl ?_
      obtain ⟨n25, hv⟩ := hv
      exact wvL_holds_L25 C RT  n25 _ _ hv)
def vL_isLeaf (cnt : Int32) (pwc : Int32) (par : Ar) (x1 : Int32) (Q : Int32 → Prop) : Prop := (vX3_leaves cnt pwc par x1 (fun r2 => ((¬ r2 = ((1 : Int32) <<< (x1 &&& 31)) → (Q (0 : Int32))) ∧ (r2 = ((1 : Int32) <<< (x1 &&& 31)) → (Q (1 : Int32))))))
set_option maxHeartbeats 4000000 in
set_option maxRecDepth 100000 in
theorem mtL_isLeaf {l : Launch} {γ : Gm} {ad : Nat → Nat} {seen : Int32} {cnt : Int32} {pwc : Int32} {par : Ar} {amt : Ar} {held : Ar} {clos : Ar} {seW : Ar} {seS : Ar} {leW : Ar} {leS : Ar} {x1 : Int32} {Q : Int32 → Prop} (hv : vL_isLeaf cnt pwc par x1 Q) : CtI l γ yL_isLeaf cL_isLeaf 2 .boolean 8 124 0 0 [.ref (ad 0), .int x1] (wB γ ad seen cnt pwc par amt held clos seW seS leW leS) (fun (r : Int32) (_ : Unit) => Q r) (fun _ => wB γ ad seen cnt pwc par amt held clos seW seS leW leS) := startI (by decide +kernel) (Nat.le_of_ble_eq_true rfl) (fun κ C RT hR hnm => by
  show G l γ κ (wB γ ad seen cnt pwc par amt held clos seW seS leW leS) [(0, .ref (ad 0)), (1, .int x1)] 0 0 [] 0
  refine g_aload_n (pc' := 1) C dL_isLeaf_0 rfl rfl rfl ?_
  refine g_iload_n (pc' := 2) C dL_isLeaf_1 rfl rfl rfl ?_
  refine cfI (pc' := 5) C (run_VI (rest := []) C lk_L_40 (mtX3_leaves hv) ⟨by decide, by decide⟩ rfl rfl rfl rfl (Nat.le_of_ble_eq_true rfl) ⟨Nat.zero_le _, Nat.zero_le _⟩ dL_isLeaf_2) rfl [0, 1, 2, 3, 4, 5, 6, 7, 8, 9, 10, 11, 12] [] [0, 1, 2, 3, 4, 5, 6, 7, 8, 9, 10, 11, 12] nd_HB di_HB (fun u2 => wB γ ad seen cnt pwc par amt held clos seW seS leW leS) rfl rfl (fun _ => rfl) (fun r2 u2 hv => ?_)
  refine g_iconst (pc' := 6) (v := (1 : Int32)) C dL_isLeaf_5 rfl (by decide) ?_
  refine g_iload_n (pc' := 7) C dL_isLeaf_6 rfl rfl rfl ?_
  refine g_ishl (pc' := 8) C dL_isLeaf_7 rfl ?_
  obtain ⟨hv1, hv2⟩ := hv
  refine g_icmp_ne (pc' := 11) (tgt := 15) C dL_isLeaf_8 rfl (by decide) (fun c => ?_) (fun c => ?_)
  · have hv := hv1 c
    refine g_iconst (pc' := 16) (v := (0 : Int32)) C dL_isLeaf_15 rfl (by decide) ?_
    exact RT (0 : Int32) () _ _ _ _ dL_isLeaf_16 rfl (by decide) (by decide) hv
  · have hv := hv2 c
    refine g_iconst (pc' := 12) (v := (1 : Int32)) C dL_isLeaf_11 rfl (by decide) ?_
    refine g_goto (tgt := 16) C dL_isLeaf_12 (by decide) ?_
    exact RT (1 : Int32) () _ _ _ _ dL_isLeaf_16 rfl (by decide) (by decide) hv)
end
