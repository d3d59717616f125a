/-! what goes on behind a call; throws -/
section AFTER
variable {l : Launch} {γ : Gm} {κ : Kx} {cc : ByteArray} {nL f ll : Nat} {own : String} {k n mc ms pc pc' : Nat} {st rest : List Value} {lv : List (Nat × Value)} {ws w0 wr : va_W} {S : Type}
theorem aft_pre (C : Ok γ κ cc nL own f ll) {H : Heap} {locs : List Loc} (hP : va_P γ.1 vwCl ws H) (hD : va_D κ.A ws) (hS : va_S κ.A κ.s.heap H locs) (isC : List Nat) (hC : isC.map (fun i => ws[i]?) = w0.map some) (hn : va_nd isC = true) :
    va_P γ.1 vwCl w0 H ∧ va_D (fun _ => True) w0 ∧ Ex (va_A w0 H.size) κ.s H ∧ ∀ q, va_A w0 H.size q → κ.A q := by
  have hF := va_free (wc := w0) hD hS C.2.2.2.2.2.2.1 isC hC
  exact ⟨va_Psub hP isC hC, (hD.sub isC hn hC).weaken (fun _ _ _ _ => trivial), (C.2.2.2.2.2.2.2.1.kept hS.2.1).narrow hF, hF⟩
/-- a callee whose world is the places isC of ours; isR the other places; pm puts them in order again -/
theorem aftI (C : Ok γ κ cc nL own f ll) {Q : Int32 → S → Prop} {w1 : S → va_W} (hr : RunI l γ κ w0 k n mc ms st pc rest Q w1) (hp : pc' = pc + 3) (isC isR pm : List Nat) (hC : isC.map (fun i => ws[i]?) = w0.map some) (hR : isR.map (fun i => ws[i]?) = wr.map some)
    (hnd : va_nd isC = true ∧ va_nd isR = true ∧ va_nd pm = true) (hdis : ∀ i ∈ isR, i ∉ isC) {ws1 : S → va_W} (hpm : ∀ u, pm.map (fun i => (wr ++ w1 u)[i]?) = (ws1 u).map some)
    (kk : ∀ (r : Int32) (u : S), Q r u → G l γ κ (ws1 u) lv (k + mc) (n + ms) (.int r :: rest) pc') : G l γ κ ws lv k n st pc := by
  subst hp
  intro H locs ls hP hD hS h
  obtain ⟨a1, a2, a3, hF⟩ := aft_pre C hP hD hS isC hC hnd.1
  refine va_calli (hr H locs ls a1 a2 a3 h.1) hS (fun q _ hq => hF q hq) hF (fun r u t H1 locs1 ht hvm hq hB hz hk1 hS1 => ?_)
  obtain ⟨hP1, hD1⟩ := hB
  rw [ht] at hP1
  obtain ⟨hPj, hDj⟩ := va_join (wr := wr) (w1 := w1 u) hP hD isC isR hC hR hnd.2.1 hdis hk1 hF hP1 hD1
  exact kk r u hq H1 locs1 ls (va_Psub hPj pm (hpm u)) (hDj.sub pm hnd.2.2 (hpm u)) hS1 h
theorem aftV (C : Ok γ κ cc nL own f ll) {Q : S → Prop} {w1 : S → va_W} (hr : RunV l γ κ w0 k n mc ms st pc rest Q w1) (hp : pc' = pc + 3) (isC isR pm : List Nat) (hC : isC.map (fun i => ws[i]?) = w0.map some) (hR : isR.map (fun i => ws[i]?) = wr.map some)
    (hnd : va_nd isC = true ∧ va_nd isR = true ∧ va_nd pm = true) (hdis : ∀ i ∈ isR, i ∉ isC) {ws1 : S → va_W} (hpm : ∀ u, pm.map (fun i => (wr ++ w1 u)[i]?) = (ws1 u).map some)
    (kk : ∀ (u : S), Q u → G l γ κ (ws1 u) lv (k + mc) (n + ms) rest pc') : G l γ κ ws lv k n st pc := by
  subst hp
  intro H locs ls hP hD hS h
  obtain ⟨a1, a2, a3, hF⟩ := aft_pre C hP hD hS isC hC hnd.1
  refine va_callv (hr H locs ls a1 a2 a3 h.1) hS (fun q _ hq => hF q hq) hF (fun u t H1 locs1 ht hvm hq hB hz hk1 hS1 => ?_)
  obtain ⟨hP1, hD1⟩ := hB
  rw [ht] at hP1
  obtain ⟨hPj, hDj⟩ := va_join (wr := wr) (w1 := w1 u) hP hD isC isR hC hR hnd.2.1 hdis hk1 hF hP1 hD1
  exact kk u hq H1 locs1 ls (va_Psub hPj pm (hpm u)) (hDj.sub pm hnd.2.2 (hpm u)) hS1 h
/-- a callee with a table of its own -/
theorem aftH (C : Ok γ κ cc nL own f ll) {Q : Int32 → S → Prop} {w1 : S → va_W} (hr : RunH l γ κ w0 k n st pc rest Q w1) (hp : pc' = pc + 3) (isC isR pm : List Nat) (hC : isC.map (fun i => ws[i]?) = w0.map some) (hR : isR.map (fun i => ws[i]?) = wr.map some)
    (hnd : va_nd isC = true ∧ va_nd isR = true ∧ va_nd pm = true) (hdis : ∀ i ∈ isR, i ∉ isC) {ws1 : S → va_W} (hpm : ∀ u, pm.map (fun i => (wr ++ w1 u)[i]?) = (ws1 u).map some)
    (kk : ∀ (r : Int32) (u : S), Q r u → G l γ κ (ws1 u) lv (k + 1) (n + 6) (.int r :: rest) pc') : G l γ κ ws lv k n st pc := by
  subst hp
  intro H locs ls hP hD hS h
  obtain ⟨a1, a2, a3, hF⟩ := aft_pre C hP hD hS isC hC hnd.1
  intro T hT X
  rcases hr H locs ls a1 a2 a3 h.1 T hT X with ⟨v, st₀, t, T', L, h0, X', hL, e1, e2, ⟨⟨r, u, hv, hq, hB⟩, hFr⟩, stp⟩ | ⟨q, st₀, t, T', L, E, ce, h0, X', hL, e1, e2, hx, -⟩
  · cases hv
    obtain ⟨k1, k2, k3⟩ := vx_keep h0 e1 hS (fun q _ hq => hF q hq) hF hL hFr
    obtain ⟨hP1, hD1⟩ := hB
    rw [← e1] at hP1
    obtain ⟨hPj, hDj⟩ := va_join (wr := wr) (w1 := w1 u) hP hD isC isR hC hR hnd.2.1 hdis k2 hF hP1 hD1
    obtain ⟨t2, b1, b2⟩ := kk r u hq T'.heap (locs ++ L) ls (va_Psub hPj pm (hpm u)) (hDj.sub pm hnd.2.2 (hpm u)) k3 h T' rfl X'
    exact ⟨t2, stp t2 b1, b2⟩
  · exact hx.elim
/-- a callee whose world is all of ours -/
theorem sameI (C : Ok γ κ cc nL own f ll) {Q : Int32 → S → Prop} {w1 : S → va_W} (hr : RunI l γ κ ws k n mc ms st pc rest Q w1) (hp : pc' = pc + 3)
    (kk : ∀ (r : Int32) (u : S), Q r u → G l γ κ (w1 u) lv (k + mc) (n + ms) (.int r :: rest) pc') : G l γ κ ws lv k n st pc := by
  subst hp
  intro H locs ls hP hD hS h
  have hF : ∀ q, va_A ws H.size q → κ.A q := by
    intro q hq
    rcases hq with ⟨k2, e, hq⟩ | hq
    · exact hD.2 k2 _ hq
    · exact C.2.2.2.2.2.2.1 q (Nat.le_trans hS.1 hq)
  refine va_calli (hr H locs ls hP (hD.weaken (fun _ _ _ _ => trivial)) ((C.2.2.2.2.2.2.2.1.kept hS.2.1).narrow hF) h.1) hS (fun q _ hq => hF q hq) hF (fun r u t H1 locs1 ht hvm hq hB hz hk1 hS1 => ?_)
  obtain ⟨hP1, hD1⟩ := hB
  rw [ht] at hP1
  exact kk r u hq H1 locs1 ls hP1 (hD1.weaken (fun _ q _ hq => hF q.1 hq)) hS1 h
theorem sameV (C : Ok γ κ cc nL own f ll) {Q : S → Prop} {w1 : S → va_W} (hr : RunV l γ κ ws k n mc ms st pc rest Q w1) (hp : pc' = pc + 3)
    (kk : ∀ (u : S), Q u → G l γ κ (w1 u) lv (k + mc) (n + ms) rest pc') : G l γ κ ws lv k n st pc := by
  subst hp
  intro H locs ls hP hD hS h
  have hF : ∀ q, va_A ws H.size q → κ.A q := by
    intro q hq
    rcases hq with ⟨k2, e, hq⟩ | hq
    · exact hD.2 k2 _ hq
    · exact C.2.2.2.2.2.2.1 q (Nat.le_trans hS.1 hq)
  refine va_callv (hr H locs ls hP (hD.weaken (fun _ _ _ _ => trivial)) ((C.2.2.2.2.2.2.2.1.kept hS.2.1).narrow hF) h.1) hS (fun q _ hq => hF q hq) hF (fun u t H1 locs1 ht hvm hq hB hz hk1 hS1 => ?_)
  obtain ⟨hP1, hD1⟩ := hB
  rw [ht] at hP1
  exact kk u hq H1 locs1 ls hP1 (hD1.weaken (fun _ q _ hq => hF q.1 hq)) hS1 h
theorem no_A {H : Heap} {q : Nat} (h : q < H.size) : ¬ va_A [] H.size q := fun z => by
  rcases z with ⟨k2, e, hq⟩ | hq
  · simp at hq
  · omega
/-- a callee without a world -/
theorem noneI (C : Ok γ κ cc nL own f ll) {Q : Int32 → S → Prop} {w1 : S → va_W} (hr : RunI l γ κ [] k n mc ms st pc rest Q w1) (hp : pc' = pc + 3)
    (kk : ∀ (r : Int32) (u : S), Q r u → G l γ κ ws lv (k + mc) (n + ms) (.int r :: rest) pc') : G l γ κ ws lv k n st pc := by
  subst hp
  intro H locs ls hP hD hS h
  obtain ⟨a1, a2, a3, hF⟩ := aft_pre (w0 := []) C hP hD hS [] rfl rfl
  refine va_calli (hr H locs ls a1 a2 a3 h.1) hS (fun q _ hq => hF q hq) hF (fun r u t H1 locs1 ht hvm hq hB hz hk1 hS1 => ?_)
  exact kk r u hq H1 locs1 ls (hP.kept fun k2 q hk2 => hk1 q.1 (hP k2 q hk2).lt (no_A (hP k2 q hk2).lt)) hD hS1 h
theorem noneV (C : Ok γ κ cc nL own f ll) {Q : S → Prop} {w1 : S → va_W} (hr : RunV l γ κ [] k n mc ms st pc rest Q w1) (hp : pc' = pc + 3)
    (kk : ∀ (u : S), Q u → G l γ κ ws lv (k + mc) (n + ms) rest pc') : G l γ κ ws lv k n st pc := by
  subst hp
  intro H locs ls hP hD hS h
  obtain ⟨a1, a2, a3, hF⟩ := aft_pre (w0 := []) C hP hD hS [] rfl rfl
  refine va_callv (hr H locs ls a1 a2 a3 h.1) hS (fun q _ hq => hF q hq) hF (fun u t H1 locs1 ht hvm hq hB hz hk1 hS1 => ?_)
  exact kk u hq H1 locs1 ls (hP.kept fun k2 q hk2 => hk1 q.1 (hP k2 q hk2).lt (no_A (hP k2 q hk2).lt)) hD hS1 h
/-- a callee that throws, not caught here: its world is all of ours -/
theorem sameX (C : Ok γ κ cc nL own f ll) {S' : Type} {X : String → S → Prop} {w1 : S → va_W} {X' : String → S' → Prop} {w' : S' → va_W} (hX : XQ γ κ X' w') (hr : RunX l γ κ ws 0 0 st pc rest X w1)
    (kx : ∀ (E : String) (u : S), X E u → ∃ u', X' E u' ∧ w1 u = w' u') : G l γ κ ws lv 0 0 st pc := by
  intro H locs ls hP hD hS h
  have hF : ∀ q, va_A ws H.size q → κ.A q := by
    intro q hq
    rcases hq with ⟨k2, e, hq⟩ | hq
    · exact hD.2 k2 _ hq
    · exact C.2.2.2.2.2.2.1 q (Nat.le_trans hS.1 hq)
  rw [hX.1]
  refine vx_callv (hr H locs ls hP (hD.weaken (fun _ _ _ _ => trivial)) ((C.2.2.2.2.2.2.2.1.kept hS.2.1).narrow hF) h.1) hS (fun q _ hq => hF q hq) hF (fun q _ hq => hF q hq) (fun E ce q9 u t H1 locs1 ht hvm hpx hB hz hk1 hS1 hce hcv hcl => ?_) (fun u t H1 locs1 ht hvm hq => hq.elim)
  obtain ⟨rfl, hP1, hD1⟩ := hB
  obtain ⟨u', hx', hw'⟩ := kx _ _ hpx
  rw [ht, hw'] at hP1
  rw [hw'] at hD1
  exact vx_out (fun x hx => (hX.2.1 x hx).elim) C.2.2.2.2.2.2.2.2.1 hce hcv hcl (fun t' ht' _ => ⟨(u.1, u'), hx', ⟨rfl, by rw [ht']; exact hP1, hD1.weaken (fun _ q _ hq => hF q.1 hq)⟩, hS1.F ht'⟩) hS1.2.2 (Nat.le_refl _) (Nat.le_refl _)
/-- .. it has no world -/
theorem noneX (C : Ok γ κ cc nL own f ll) {S' : Type} {X : String → S → Prop} {w1 : S → va_W} {X' : String → S' → Prop} {w' : S' → va_W} (hX : XQ γ κ X' w') (hr : RunX l γ κ [] 0 0 st pc rest X w1)
    (kx : ∀ (E : String) (u : S), X E u → ∃ u', X' E u' ∧ ws = w' u') : G l γ κ ws lv 0 0 st pc := by
  intro H locs ls hP hD hS h
  obtain ⟨a1, a2, a3, hF⟩ := aft_pre (w0 := []) C hP hD hS [] rfl rfl
  rw [hX.1]
  refine vx_callv (hr H locs ls a1 a2 a3 h.1) hS (fun q _ hq => hF q hq) hF (fun q _ hq => hF q hq) (fun E ce q9 u t H1 locs1 ht hvm hpx hB hz hk1 hS1 hce hcv hcl => ?_) (fun u t H1 locs1 ht hvm hq => hq.elim)
  obtain ⟨rfl, -⟩ := hB
  obtain ⟨u', hx', hw'⟩ := kx _ _ hpx
  have hP1 := hP.kept (H1 := H1) fun k2 q hk2 => hk1 q.1 (hP k2 q hk2).lt (no_A (hP k2 q hk2).lt)
  rw [hw'] at hP1
  have hD1 := hD
  rw [hw'] at hD1
  exact vx_out (fun x hx => (hX.2.1 x hx).elim) C.2.2.2.2.2.2.2.2.1 hce hcv hcl (fun t' ht' _ => ⟨(u.1, u'), hx', ⟨rfl, by rw [ht']; exact hP1, hD1⟩, hS1.F ht'⟩) hS1.2.2 (Nat.le_refl _) (Nat.le_refl _)
/-- the words of a throw in BudgetBook -/
def ThW (E : String) (ik is ic : Nat) (text : String) : Prop := Bundle.fit E = true ∧ Cond.classLink RX3 ik E ∈ wsA ∧ Cond.initialized E ∈ wsA ∧ (∀ w ∈ (vx_atS RX3 ic E eUp).filter goodWord, w ∈ wsA) ∧
  (∀ w ∈ (vx_atS RX3 ic E eUp).filter (fun w => !goodWord w), w ∈ exW) ∧ (∀ w ∈ Cond.classLink RX3 ik E :: Cond.initialized E :: vx_atS RX3 ic E eUp, vx_ot w = true) ∧ (is, text) ∈ exS
theorem exW_on : ∀ w ∈ exW, w.onTables = true := by
  intro w hw
  simp only [exW, List.mem_cons, List.not_mem_nil, or_false] at hw
  rcases hw with rfl | rfl | rfl | rfl | rfl | rfl | rfl | rfl | rfl | rfl | rfl <;> rfl
theorem g_throw (hfl : l.stackTraces = false) (C : Ok γ κ cc nL RX3 f ll) {S' : Type} {X : String → S' → Prop} {w' : S' → va_W} (hX : XQ γ κ X w') (u : S') {E text : String} {ik is ic : Nat} (hT : ThW E ik is ic text) (hf : 6 ≤ f ∧ 82 ≤ ll)
    (d0 : decode cc pc = .ok (.new ik, 3)) (d3 : decode cc (pc + 3) = .ok (.dup, 1)) (d4 : decode cc (pc + 4) = .ok (.ldc is, 2)) (d6 : decode cc (pc + 6) = .ok (.invokespecial ic, 3)) (d9 : decode cc (pc + 9) = .ok (.athrow, 1))
    (hw : ws = w' u) (hx : X E u) : G l γ κ ws lv 0 0 [] pc := by
  subst hw
  obtain ⟨t1, t2, t3, t4, t5, t6, t7⟩ := hT
  have hts := C.2.2.2.2.1
  have hE := C.2.2.2.2.2.2.2.1
  obtain ⟨sa, hsa⟩ := hE.2.1 _ t7
  intro H locs ls hP hD hS h
  rw [hX.1]
  exact vx_throwS (names := eUp) C.1 C.2.1 hfl C.2.2.2.1 t1 (by decide +kernel) (hts _ t2) (hts _ t3) hsa (vx_hat (fun w hw => hts w (t4 w hw)) t5 (fun w hw => va_Nw.use (exW_on w hw) (hE.1 w hw))) t6 hE.2.2.2.1 hE.2.2.2.2 hS h.1 d0 d3 d4 d6 d9
    (fun x hx => (hX.2.1 x hx).elim) (show 2 + 3 < κ.R.frames from Nat.lt_of_lt_of_le (by omega) C.2.2.2.2.2.2.2.2.2.1) (show 0 + (13 * (2 + 1) + 43) ≤ κ.R.locals from Nat.le_trans hf.2 C.2.2.2.2.2.2.2.2.2.2) hX.2.2.1 hX.2.2.2 C.2.2.2.2.2.2.2.2.1
    (fun t hal hz hk => ⟨(E, u), hx, ⟨rfl, hP.kept (fun k2 q hk2 => hk q.1 (hP k2 q hk2).lt), hD⟩, Nat.le_trans hS.1 hz, fun q hq hnA => (hk q (Nat.lt_of_lt_of_le hq hS.1)).trans (hS.2.1 q hq hnA)⟩) hS.2.2 (Nat.le_refl _) (Nat.le_refl _)
/-- a callee that throws, caught here -/
theorem catchX (C : Ok γ κ cc nL own f ll) {X : String → S → Prop} {w1 : S → va_W} (hr : RunX l γ κ w0 0 0 st pc rest X w1) (isC isR pm : List Nat) (hC : isC.map (fun i => ws[i]?) = w0.map some) (hR : isR.map (fun i => ws[i]?) = wr.map some)
    (hnd : va_nd isC = true ∧ va_nd isR = true ∧ va_nd pm = true) (hdis : ∀ i ∈ isR, i ∉ isC) {ws1 : S → va_W} (hpm : ∀ u, pm.map (fun i => (wr ++ w1 u)[i]?) = (ws1 u).map some)
    (kx : ∀ (E : String) (u : S), X E u → ∃ (pre : List ExceptionTableEntry) (x : ExceptionTableEntry) (suf : List ExceptionTableEntry), κ.c.exceptionTable.toList = pre ++ x :: suf ∧
      (∀ z ∈ pre, z.catchType ≠ 0 ∧ ∃ nm : String, Cond.classLink own z.catchType nm ∈ wsA ∧ (E, nm) ∈ exN) ∧ covers x pc = true ∧ x.catchType ≠ 0 ∧ Cond.classLink own x.catchType E ∈ wsA ∧ Cond.castable E E ∈ exW ∧
      ∀ q9 : Nat, G l γ κ (ws1 u) lv 1 6 [.ref q9] x.handlerPc) : G l γ κ ws lv 0 0 st pc := by
  intro H locs ls hP hD hS h
  obtain ⟨a1, a2, a3, hF⟩ := aft_pre C hP hD hS isC hC hnd.1
  refine vx_callv (hr H locs ls a1 a2 a3 h.1) hS (fun q _ hq => hF q hq) hF (fun q _ hq => hF q hq) (fun E ce q9 u t H1 locs1 ht hvm hpx hB hz hk1 hS1 hce hcv hcl => ?_) (fun u t H1 locs1 ht hvm hq => hq.elim)
  obtain ⟨rfl, hP1, hD1⟩ := hB
  rw [ht] at hP1
  obtain ⟨hPj, hDj⟩ := va_join (wr := wr) (w1 := w1 u.2) hP hD isC isR hC hR hnd.2.1 hdis hk1 hF hP1 hD1
  obtain ⟨pre, x, suf, hsp, hpass, hcov, h0, hlk, hcast, kk⟩ := kx _ _ hpx
  have hE := C.2.2.2.2.2.2.2.1
  refine vx_catch (own := own) (name := u.1) C.2.2.2.1 pre x suf hsp (fun z hz => ?_) hcov h0 (C.2.2.2.2.1 _ hlk) (va_Nw.use rfl (hE.1 _ hcast)) hce hcv hcl (kk q9 H1 locs1 ls (va_Psub hPj pm (hpm u.2)) (hDj.sub pm hnd.2.2 (hpm u.2)) hS1 h)
  obtain ⟨z0, nm, z1, z2⟩ := hpass z hz
  exact Or.inr ⟨z0, nm, C.2.2.2.2.1 _ z1, hE.2.2.1 _ z2⟩
end AFTER
