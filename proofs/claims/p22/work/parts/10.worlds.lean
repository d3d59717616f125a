/-! the worlds of the classes; calls that make nothing, in short -/
abbrev Ar : Type := Nat → Int32
abbrev wT (γ : Gm) (h0 h1 : Nat) (cnt pwc : Int32) (par : Ar) : va_W := [(h0, .inr (2, [.ref h1, .int cnt, .int pwc])), (h1, .inl (γ.2.1, 10, .inl par))]
abbrev wC (γ : Gm) (h0 h1 : Nat) (amt : Ar) : va_W := [(h0, .inr (0, [.ref h1])), (h1, .inl (γ.2.1, 1440, .inl amt))]
abbrev wS (γ : Gm) (h0 h1 h2 : Nat) (wt sh : Ar) : va_W := [(h0, .inr (1, [.ref h1, .ref h2])), (h1, .inl (γ.2.1, 12, .inl wt)), (h2, .inl (γ.2.1, 12, .inl sh))]
abbrev wB (γ : Gm) (ad : Nat → Nat) (seen cnt pwc : Int32) (par amt held clos seW seS leW leS : Ar) : va_W :=
  [(ad 0, .inr (3, [.ref (ad 1), .ref (ad 2), .ref (ad 3), .ref (ad 4), .ref (ad 5), .ref (ad 6), .int seen])), (ad 1, .inr (2, [.ref (ad 7), .int cnt, .int pwc])), (ad 2, .inr (0, [.ref (ad 8)])),
   (ad 3, .inl (γ.2.1, 12, .inl held)), (ad 4, .inl (γ.2.1, 3, .inl clos)), (ad 5, .inr (1, [.ref (ad 9), .ref (ad 10)])), (ad 6, .inr (1, [.ref (ad 11), .ref (ad 12)])),
   (ad 7, .inl (γ.2.1, 10, .inl par)), (ad 8, .inl (γ.2.1, 1440, .inl amt)), (ad 9, .inl (γ.2.1, 12, .inl seW)), (ad 10, .inl (γ.2.1, 12, .inl seS)), (ad 11, .inl (γ.2.1, 12, .inl leW)), (ad 12, .inl (γ.2.1, 12, .inl leS))]
abbrev rs (ws : va_W) (is : List Nat) : va_W := is.filterMap (fun i => ws[i]?)
section SHORT
variable {l : Launch} {γ : Gm} {κ : Kx} {cc : ByteArray} {nL f ll : Nat} {own : String} {k n pc pc' : Nat} {st rest : List Value} {lv : List (Nat × Value)} {ws w0 : va_W} {S : Type}
theorem cfI (C : Ok γ κ cc nL own f ll) {Q : Int32 → S → Prop} {w1 : S → va_W} (hr : RunI l γ κ w0 k n 0 0 st pc rest Q w1) (hp : pc' = pc + 3) (isC isR pm : List Nat) (hnd : va_nd isC = true ∧ va_nd isR = true ∧ va_nd pm = true) (hdis : ∀ i ∈ isR, i ∉ isC) (ws1 : S → va_W) (hC : isC.map (fun i => ws[i]?) = w0.map some) (hR : isR.map (fun i => ws[i]?) = (rs ws isR).map some)
    (hpm : ∀ u, pm.map (fun i => (rs ws isR ++ w1 u)[i]?) = (ws1 u).map some) (kk : ∀ (r : Int32) (u : S), Q r u → G l γ κ (ws1 u) lv k n (.int r :: rest) pc') : G l γ κ ws lv k n st pc := aftI C hr hp isC isR pm hC hR hnd hdis hpm kk
theorem cfV (C : Ok γ κ cc nL own f ll) {Q : S → Prop} {w1 : S → va_W} (hr : RunV l γ κ w0 k n 0 0 st pc rest Q w1) (hp : pc' = pc + 3) (isC isR pm : List Nat) (hnd : va_nd isC = true ∧ va_nd isR = true ∧ va_nd pm = true) (hdis : ∀ i ∈ isR, i ∉ isC) (ws1 : S → va_W) (hC : isC.map (fun i => ws[i]?) = w0.map some) (hR : isR.map (fun i => ws[i]?) = (rs ws isR).map some)
    (hpm : ∀ u, pm.map (fun i => (rs ws isR ++ w1 u)[i]?) = (ws1 u).map some) (kk : ∀ (u : S), Q u → G l γ κ (ws1 u) lv k n rest pc') : G l γ κ ws lv k n st pc := aftV C hr hp isC isR pm hC hR hnd hdis hpm kk
theorem cfH (C : Ok γ κ cc nL own f ll) {Q : Int32 → S → Prop} {w1 : S → va_W} (hr : RunH l γ κ w0 k n st pc rest Q w1) (hp : pc' = pc + 3) (isC isR pm : List Nat) (hnd : va_nd isC = true ∧ va_nd isR = true ∧ va_nd pm = true) (hdis : ∀ i ∈ isR, i ∉ isC) (ws1 : S → va_W) (hC : isC.map (fun i => ws[i]?) = w0.map some) (hR : isR.map (fun i => ws[i]?) = (rs ws isR).map some)
    (hpm : ∀ u, pm.map (fun i => (rs ws isR ++ w1 u)[i]?) = (ws1 u).map some) (kk : ∀ (r : Int32) (u : S), Q r u → G l γ κ (ws1 u) lv (k + 1) (n + 6) (.int r :: rest) pc') : G l γ κ ws lv k n st pc := aftH C hr hp isC isR pm hC hR hnd hdis hpm kk
theorem cfX (C : Ok γ κ cc nL own f ll) {X : String → S → Prop} {w1 : S → va_W} (hr : RunX l γ κ w0 0 0 st pc rest X w1) (isC isR pm : List Nat) (hnd : va_nd isC = true ∧ va_nd isR = true ∧ va_nd pm = true) (hdis : ∀ i ∈ isR, i ∉ isC) (ws1 : S → va_W) (hC : isC.map (fun i => ws[i]?) = w0.map some) (hR : isR.map (fun i => ws[i]?) = (rs ws isR).map some)
    (hpm : ∀ u, pm.map (fun i => (rs ws isR ++ w1 u)[i]?) = (ws1 u).map some)
    (kx : ∀ (E : String) (u : S), X E u → ∃ (pre : List ExceptionTableEntry) (x : ExceptionTableEntry) (suf : List ExceptionTableEntry), κ.c.exceptionTable.toList = pre ++ x :: suf ∧
      (∀ z ∈ pre, z.catchType ≠ 0 ∧ ∃ nm : String, Cond.classLink own z.catchType nm ∈ wsA ∧ (E, nm) ∈ exN) ∧ covers x pc = true ∧ x.catchType ≠ 0 ∧ Cond.classLink own x.catchType E ∈ wsA ∧ Cond.castable E E ∈ exW ∧
      ∀ q9 : Nat, G l γ κ (ws1 u) lv 1 6 [.ref q9] x.handlerPc) : G l γ κ ws lv 0 0 st pc := catchX C hr isC isR pm hC hR hnd hdis hpm kx
theorem csI (C : Ok γ κ cc nL own f ll) {Q : Int32 → S → Prop} {w1 : S → va_W} (hr : RunI l γ κ ws k n 0 0 st pc rest Q w1) (hp : pc' = pc + 3) (kk : ∀ (r : Int32) (u : S), Q r u → G l γ κ (w1 u) lv k n (.int r :: rest) pc') : G l γ κ ws lv k n st pc := sameI C hr hp kk
theorem csV (C : Ok γ κ cc nL own f ll) {Q : S → Prop} {w1 : S → va_W} (hr : RunV l γ κ ws k n 0 0 st pc rest Q w1) (hp : pc' = pc + 3) (kk : ∀ (u : S), Q u → G l γ κ (w1 u) lv k n rest pc') : G l γ κ ws lv k n st pc := sameV C hr hp kk
theorem cnI (C : Ok γ κ cc nL own f ll) {Q : Int32 → S → Prop} {w1 : S → va_W} (hr : RunI l γ κ [] k n 0 0 st pc rest Q w1) (hp : pc' = pc + 3) (kk : ∀ (r : Int32) (u : S), Q r u → G l γ κ ws lv k n (.int r :: rest) pc') : G l γ κ ws lv k n st pc := noneI C hr hp kk
theorem cnV (C : Ok γ κ cc nL own f ll) {Q : S → Prop} {w1 : S → va_W} (hr : RunV l γ κ [] k n 0 0 st pc rest Q w1) (hp : pc' = pc + 3) (kk : ∀ (u : S), Q u → G l γ κ ws lv k n rest pc') : G l γ κ ws lv k n st pc := noneV C hr hp kk
theorem g_tabOut (C : Ok γ κ cc nL own f ll) {dflt lo hi : Int} {offs : Array Int} {len : Nat} {x : Int32} {tgt : Nat} (d : decode cc pc = .ok (.tableswitch dflt lo hi offs, len)) (h : x.toInt < lo ∨ hi < x.toInt) (ht : (pc : Int) + dflt = (tgt : Int)) (kk : G l γ κ ws lv k n st tgt) : G l γ κ ws lv k n (.int x :: st) pc :=
  fun H locs ls hP hD hS hl => lv_tableOut C.1 C.2.1 d h ht (kk H locs ls hP hD hS hl)
theorem g_tabIn (C : Ok γ κ cc nL own f ll) {dflt lo hi : Int} {offs : Array Int} {len : Nat} {x : Int32} {off : Int} {tgt : Nat} (d : decode cc pc = .ok (.tableswitch dflt lo hi offs, len)) (h1 : ¬ x.toInt < lo) (h2 : ¬ hi < x.toInt) (ho : offs[(x.toInt - lo).toNat]? = some off) (ht : (pc : Int) + off = (tgt : Int)) (kk : G l γ κ ws lv k n st tgt) : G l γ κ ws lv k n (.int x :: st) pc :=
  fun H locs ls hP hD hS hl => lv_tableIn C.1 C.2.1 d h1 h2 ho ht (kk H locs ls hP hD hS hl)
/-- the script -/
theorem g_sld (C : Ok γ κ cc nL own f ll) {b L : Nat} {xs : Nat → Int32} (hX : va_X b L xs κ.s κ.s.heap) (hbl : b < κ.s.heap.size) (hbA : ¬ κ.A b) {i : Int32} (d : decode cc pc = .ok (.iaload, 1)) (hp : pc' = pc + 1) (hin : vp_in i L) (kk : G l γ κ ws lv k n (.int (xs i.toNatClampNeg) :: st) pc') : G l γ κ ws lv k n (.int i :: .ref b :: st) pc := by
  subst hp
  exact fun H locs ls hP hD hS hl => va_sld C.1 C.2.1 hX hbl hbA hS hin d (kk H locs ls hP hD hS hl)
theorem g_slen (C : Ok γ κ cc nL own f ll) {b L : Nat} {xs : Nat → Int32} (hX : va_X b L xs κ.s κ.s.heap) (hbl : b < κ.s.heap.size) (hbA : ¬ κ.A b) (d : decode cc pc = .ok (.arraylength, 1)) (hp : pc' = pc + 1) (kk : G l γ κ ws lv k n (.int (Int32.ofNat L) :: st) pc') : G l γ κ ws lv k n (.ref b :: st) pc := by
  subst hp
  exact fun H locs ls hP hD hS hl => va_slen C.1 C.2.1 hX hbl hbA hS d (kk H locs ls hP hD hS hl)
end SHORT
/-! a static method that reads the script -/
def PrZ (γ : Gm) (b L : Nat) (xs : Nat → Int32) (sz : Nat) : State → Prop := fun U => Pre γ [] sz U ∧ va_X b L xs U U.heap ∧ b < U.heap.size
theorem PrZ.blind {γ : Gm} {b L sz : Nat} {xs : Nat → Int32} {args : List Value} : FrameBlind (va_Pc args (PrZ γ b L xs sz)) := by
  intro a U g mk h
  obtain ⟨h0, ⟨h1, h2, h3, h4, h5⟩, h6, h7⟩ := h
  have hW : U.WarmedH (U.calling g mk a).vm := State.WarmedH.refl U
  exact ⟨h0, ⟨h1, h2, va_K.moved (u := U) (U := U.calling g mk a) (Vm.Alike.refl U.vm) h3, h4, Ex.warm hW h5⟩, va_X.moved (u := U) (U := U.calling g mk a) (Vm.Alike.refl U.vm) h6, h7⟩
def CtS (l : Launch) (γ : Gm) (y : MethodName) (cc : ByteArray) (mL : Nat) (rt : FieldType) (f ll : Nat) (args : List Value) (b L : Nat) (xs : Nat → Int32) (Q : Int32 → Prop) : Prop :=
  ∀ sz : Nat, Met l y (wM y cc mL (some rt)) ({ frames := f, cells := 0, slots := 0, locals := ll } : Room) (va_Pc args (PrZ γ b L xs sz)) (va_Qi (fun r (_ : Unit) => Q r) (PoB γ (va_A [] sz) (fun _ => [])) (va_A [] sz)) 0 0 (va_A [] sz)
section SCRIPT
variable {l : Launch} {γ : Gm} {κ : Kx} {y : MethodName} {cc bytes : ByteArray} {nL mL f ll fc lc ix nA : Nat} {own : String} {args As rest st : List Value} {b L k n pc pc' : Nat} {xs : Nat → Int32} {ws : va_W} {lv : List (Nat × Value)} {rt : FieldType} {Q : Int32 → Prop}
theorem startS (hy : plainName y.cls = true) (hsl : (lg_sl args).length ≤ mL)
    (body : ∀ κ : Kx, Ok γ κ cc mL y.cls f ll → va_X b L xs κ.s κ.s.heap → b < κ.s.heap.size → ¬ κ.A b → RtI l γ κ cc rt 0 0 (fun r (_ : Unit) => Q r) (fun _ => []) → G l γ κ [] (lv_args 0 args) 0 0 [] 0) : CtS l γ y cc mL rt f ll args b L xs Q := by
  intro sz
  refine Met.ofW (cc := cc) (maxL := mL) (ret := some rt) hy rfl ?_
  intro p e s m args' below meth c s₁ B hml hv
  obtain ⟨rfl, ⟨hsz, hP, hK, hD0, hE⟩, hX, hbl⟩ := hv
  subst hsz
  have hts : ∀ w ∈ wsA, w.before args.toArray s = true := fun w hw => atoms_spec (ws := wM y cc mL (some rt)) B.pre w (List.mem_cons_of_mem _ hw)
  have hl := lv_entry args (n := mL) hsl
  rw [lg_entry_eq]
  generalize ((lg_sl args) ++ List.replicate (mL - (lg_sl args).length) Slot.unset).toArray = ls at hl ⊢
  refine body (p, e, ({ frames := f, cells := 0, slots := 0, locals := ll } : Room), s, m, args.toArray, below, meth, c, MQ below (va_Qi (fun r (_ : Unit) => Q r) (PoB γ (va_A [] s.heap.size) (fun _ => [])) (va_A [] s.heap.size)) args.toArray s 0 0 (va_A [] s.heap.size), va_A [] s.heap.size)
    ⟨B.exec, B.bytes, hml, findClass_of_methodNamed B.named, hts, hK, fun q h => Or.inr h, hE, B.notSynchronized, Nat.le_refl _, Nat.le_refl _⟩ hX hbl (no_A hbl) ?_ s.heap [] ls hP hD0.self va_S.rf (by show lv_has ls c.maxLocals _; rw [hml]; exact hl)
  exact fun v u lv k n pc d hn hk hn' hq H locs ls hP hD hS h => W.widen hk hn' (W.zret B.exec B.bytes B.returns hn (fun t ht hW => ⟨⟨v, u, rfl, hq, by rw [ht]; exact hP, hD⟩, hS.F ht⟩) hS.2.2 d B.notSynchronized)
theorem csS (C : Ok γ κ cc nL own f ll) (hX : va_X b L xs κ.s κ.s.heap) (hbl : b < κ.s.heap.size) (hbA : ¬ κ.A b) (hw : LkS own ix y bytes mL (some rt) nA) (hM : CtS l γ y bytes mL rt fc lc As b L xs Q) (hf : fc + 1 ≤ f ∧ 8 + (mL + 11) + lc ≤ ll)
    (hst : st = As.reverse ++ rest) (hlen : As.length = nA) (hcat : (rest.map fun v => v.category).sum ≤ 8) (hk : k + 0 ≤ κ.R.cells ∧ n + 0 ≤ κ.R.slots)
    (d : decode cc pc = .ok (.invokestatic ix, 3)) (hp : pc' = pc + 3) (kk : ∀ r : Int32, Q r → G l γ κ ws lv k n (.int r :: rest) pc') : G l γ κ ws lv k n st pc := by
  subst hp
  intro H locs ls hP hD hS h
  obtain ⟨a1, a2, a3, hF⟩ := aft_pre (w0 := []) C hP hD hS [] rfl rfl
  have hXH : va_X b L xs κ.s H := hX.kept (hS.2.1 b hbl hbA)
  have hpre : ∀ U : State, U.heap = H → κ.s.WarmedH U.vm → va_Pc As (PrZ γ b L xs H.size) As.toArray U := fun U hU hW => by
    obtain ⟨p1, p2⟩ := preOf C a1 a2 a3 (args := As) U hU hW
    refine ⟨p1, p2, ?_, ?_⟩
    · rw [hU]
      exact hXH.moved hW.alike
    · rw [hU]
      exact Nat.lt_of_lt_of_le hbl hS.1
  refine va_calli (va_runS (As := As) (rest := rest) (n := nA) ⟨C.1, C.2.1, rfl, C.2.2.2.1, C.2.2.2.2.1⟩ (hM H.size) (va_cwS nA C.2.2.2.2.1 hw.good rfl rfl rfl ⟨hw.2.1, hw.2.2.1, hw.2.2.2⟩ ⟨Nat.le_trans hf.1 C.2.2.2.2.2.2.2.2.2.1, Nat.le_trans hf.2 C.2.2.2.2.2.2.2.2.2.2⟩)
    ⟨PrZ.blind, hpre⟩ rfl hlen h.1 hst (lv_room hcat) d hk) hS (fun q _ hq => hF q hq) hF (fun r u t H1 locs1 ht hvm hq hB hz hk1 hS1 => ?_)
  exact kk r hq H1 locs1 ls (hP.kept fun k2 q hk2 => hk1 q.1 (hP k2 q hk2).lt (no_A (hP k2 q hk2).lt)) hD hS1 h
end SCRIPT
/-- a number of the script, or what stands behind its end -/
def vL_cell (xs : Nat → Int32) (L : Nat) (x1 : Int32) (Q : Int32 → Prop) : Prop := (Int32.ofNat L ≤ x1 → Q ((40503 : Int32) * x1 + (977 : Int32))) ∧ (¬ Int32.ofNat L ≤ x1 → (vp_in x1 L ∧ Q (xs x1.toNatClampNeg)))
theorem mtL_cell {l : Launch} {γ : Gm} {b L : Nat} {xs : Nat → Int32} {x1 : Int32} {Q : Int32 → Prop} (hv : vL_cell xs L x1 Q) : CtS l γ yL_cell cL_cell 2 .int 0 0 [.ref b, .int x1] b L xs Q := startS (by decide +kernel) (Nat.le_of_ble_eq_true rfl) (fun κ C hX hbl hbA RT => by
  show G l γ κ [] [(0, .ref b), (1, .int x1)] 0 0 [] 0
  refine g_iload_n (pc' := 1) C dL_cell_0 rfl rfl rfl ?_
  refine g_aload_n (pc' := 2) C dL_cell_1 rfl rfl rfl ?_
  refine g_slen (pc' := 3) C hX hbl hbA dL_cell_2 rfl ?_
  refine g_icmp_ge (pc' := 6) (tgt := 12) C dL_cell_3 rfl (by decide) (fun c => ?_) (fun c => ?_)
  · have hv := hv.1 c
    refine g_ldc (pc' := 14) C k_L_8 dL_cell_12 rfl ?_
    refine g_iload_n (pc' := 15) C dL_cell_14 rfl rfl rfl ?_
    refine g_imul (pc' := 16) C dL_cell_15 rfl ?_
    refine g_sipush (pc' := 19) (v := (977 : Int32)) C dL_cell_16 rfl (by decide) ?_
    refine g_iadd (pc' := 20) C dL_cell_19 rfl ?_
    exact RT _ () _ _ _ _ dL_cell_20 rfl (by decide) (by decide) hv
  · obtain ⟨hi, hv⟩ := hv.2 c
    refine g_aload_n (pc' := 7) C dL_cell_6 rfl rfl rfl ?_
    refine g_iload_n (pc' := 8) C dL_cell_7 rfl rfl rfl ?_
    refine g_sld (pc' := 9) C hX hbl hbA dL_cell_8 rfl hi ?_
    refine g_goto (tgt := 20) C dL_cell_9 (by decide) ?_
    exact RT _ () _ _ _ _ dL_cell_20 rfl (by decide) (by decide) hv)
theorem nd_BT1 : va_nd [1, 7] = true ∧ va_nd [0, 2, 3, 4, 5, 6, 8, 9, 10, 11, 12] = true ∧ va_nd [0, 11, 1, 2, 3, 4, 5, 12, 6, 7, 8, 9, 10] = true := by decide
theorem di_BT1 : ∀ i ∈ ([0, 2, 3, 4, 5, 6, 8, 9, 10, 11, 12] : List Nat), i ∉ ([1, 7] : List Nat) := by decide
theorem nd_BC2 : va_nd [2, 8] = true ∧ va_nd [0, 1, 3, 4, 5, 6, 7, 9, 10, 11, 12] = true ∧ va_nd [0, 1, 11, 2, 3, 4, 5, 6, 12, 7, 8, 9, 10] = true := by decide
theorem di_BC2 : ∀ i ∈ ([0, 1, 3, 4, 5, 6, 7, 9, 10, 11, 12] : List Nat), i ∉ ([2, 8] : List Nat) := by decide
theorem nd_BS5 : va_nd [5, 9, 10] = true ∧ va_nd [0, 1, 2, 3, 4, 6, 7, 8, 11, 12] = true ∧ va_nd [0, 1, 2, 3, 4, 10, 5, 6, 7, 11, 12, 8, 9] = true := by decide
theorem di_BS5 : ∀ i ∈ ([0, 1, 2, 3, 4, 6, 7, 8, 11, 12] : List Nat), i ∉ ([5, 9, 10] : List Nat) := by decide
theorem nd_BS6 : va_nd [6, 11, 12] = true ∧ va_nd [0, 1, 2, 3, 4, 5, 7, 8, 9, 10] = true ∧ va_nd [0, 1, 2, 3, 4, 5, 10, 6, 7, 8, 9, 11, 12] = true := by decide
theorem di_BS6 : ∀ i ∈ ([0, 1, 2, 3, 4, 5, 7, 8, 9, 10] : List Nat), i ∉ ([6, 11, 12] : List Nat) := by decide
theorem nd_HB : va_nd [0, 1, 2, 3, 4, 5, 6, 7, 8, 9, 10, 11, 12] = true ∧ va_nd [] = true ∧ va_nd [0, 1, 2, 3, 4, 5, 6, 7, 8, 9, 10, 11, 12] = true := by decide
theorem di_HB : ∀ i ∈ ([] : List Nat), i ∉ ([0, 1, 2, 3, 4, 5, 6, 7, 8, 9, 10, 11, 12] : List Nat) := by decide
theorem nd_LB : va_nd [0, 1, 2, 3, 4, 5, 6, 7, 8, 9, 10, 11, 12] = true ∧ va_nd [] = true ∧ va_nd [0, 1, 2, 3, 4, 5, 6, 7, 8, 9, 10, 11, 12] = true := by decide
theorem di_LB : ∀ i ∈ ([] : List Nat), i ∉ ([0, 1, 2, 3, 4, 5, 6, 7, 8, 9, 10, 11, 12] : List Nat) := by decide
theorem nd_LH : va_nd [0, 1, 2, 3, 4, 5, 6, 7, 8, 9, 10, 11, 12] = true ∧ va_nd [] = true ∧ va_nd [0, 1, 2, 3, 4, 5, 6, 7, 8, 9, 10, 11, 12] = true := by decide
theorem di_LH : ∀ i ∈ ([] : List Nat), i ∉ ([0, 1, 2, 3, 4, 5, 6, 7, 8, 9, 10, 11, 12] : List Nat) := by decide
