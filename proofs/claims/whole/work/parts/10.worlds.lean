/-! the worlds of the classes; calls that make nothing, in short -/
abbrev Ar : Type := Nat → Int32
abbrev wT (γ : Gm) (h0 h1 : Nat) (cnt pwc : Int32) (par : Ar) : va_W := [(h0, .inr (2, [.ref h1, .int cnt, .int pwc])), (h1, .inl (γ.2.1, 10, .inl par))]
abbrev wC (γ : Gm) (h0 h1 : Nat) (amt : Ar) : va_W := [(h0, .inr (0, [.ref h1])), (h1, .inl (γ.2.1, 1440, .inl amt))]
abbrev wS (γ : Gm) (h0 h1 h2 : Nat) (wt sh : Ar) : va_W := [(h0, .inr (1, [.ref h1, .ref h2])), (h1, .inl (γ.2.1, 12, .inl wt)), (h2, .inl (γ.2.1, 12, .inl sh))]
abbrev wB (γ : Gm) (ad : Nat → Nat) (seen cnt pwc : Int32) (par amt held clos seW seS leW leS : Ar) : va_W :=
  [(ad 0, .inr (3, [.ref (ad 1), .ref (ad 2), .ref (ad 3), .ref (ad 4), .ref (ad 5), .ref (ad 6), .int seen])), (ad 1, .inr (2, [.ref (ad 7), .int cnt, .int pwc])), (ad 2, .inr (0, [.ref (ad 8)])),
   (ad 3, .inl (γ.2.1, 12, .inl held)), (ad 4, .inl (γ.2.1, 3, .inl clos)), (ad 5, .inr (1, [.ref (ad 9), .ref (ad 10)])), (ad 6, .inr (1, [.ref (ad 11), .ref (ad 12)])),
   (ad 7, .inl (γ.2.1, 10, .inl par)), (ad 8, .inl (γ.2.1, 1440, .inl amt)), (ad 9, .inl (γ.2.1, 12, .inl seW)), (ad 10, .inl (γ.2.1, 12, .inl seS)), (ad 11, .inl (γ.2.1, 12, .inl leW)), (ad 12, .inl (γ.2.1, 12, .inl leS))]
abbrev wN (γ : Gm) (bd : Nat → Nat) (pl msn thr : Int32) (mpar mcel mhel mclo msea mwei msha mmon : Ar) : va_W :=
  [(bd 0, .inr (4, [.int pl, .ref (bd 1), .ref (bd 2), .ref (bd 3), .ref (bd 4), .ref (bd 5), .int msn, .ref (bd 6), .ref (bd 7), .ref (bd 8), .int thr])), (bd 1, .inl (γ.2.1, 10, .inl mpar)), (bd 2, .inl (γ.2.1, 1440, .inl mcel)),
   (bd 3, .inl (γ.2.1, 120, .inl mhel)), (bd 4, .inl (γ.2.1, 30, .inl mclo)), (bd 5, .inl (γ.2.1, 12, .inl msea)), (bd 6, .inl (γ.2.1, 12, .inl mwei)), (bd 7, .inl (γ.2.1, 12, .inl msha)), (bd 8, .inl (γ.2.1, 12, .inl mmon))]
abbrev wO (γ : Gm) (o : Nat) (out : Nat → Int64) : va_W := [(o, .inl (γ.2.2, 1, .inr (.inl out)))]
abbrev wHB (γ : Gm) (ad : Nat → Nat) (o : Nat) (seen cnt pwc : Int32) (par amt held clos seW seS leW leS : Ar) (out : Nat → Int64) : va_W :=
  [(ad 0, .inr (3, [.ref (ad 1), .ref (ad 2), .ref (ad 3), .ref (ad 4), .ref (ad 5), .ref (ad 6), .int seen])), (ad 1, .inr (2, [.ref (ad 7), .int cnt, .int pwc])), (ad 2, .inr (0, [.ref (ad 8)])),
   (ad 3, .inl (γ.2.1, 12, .inl held)), (ad 4, .inl (γ.2.1, 3, .inl clos)), (ad 5, .inr (1, [.ref (ad 9), .ref (ad 10)])), (ad 6, .inr (1, [.ref (ad 11), .ref (ad 12)])),
   (ad 7, .inl (γ.2.1, 10, .inl par)), (ad 8, .inl (γ.2.1, 1440, .inl amt)), (ad 9, .inl (γ.2.1, 12, .inl seW)), (ad 10, .inl (γ.2.1, 12, .inl seS)), (ad 11, .inl (γ.2.1, 12, .inl leW)), (ad 12, .inl (γ.2.1, 12, .inl leS)), (o, .inl (γ.2.2, 1, .inr (.inl out)))]
abbrev wL (γ : Gm) (ad bd : Nat → Nat) (o : Nat) (seen cnt pwc : Int32) (par amt held clos seW seS leW leS : Ar) (pl msn thr : Int32) (mpar mcel mhel mclo msea mwei msha mmon : Ar) (out : Nat → Int64) : va_W :=
  [(ad 0, .inr (3, [.ref (ad 1), .ref (ad 2), .ref (ad 3), .ref (ad 4), .ref (ad 5), .ref (ad 6), .int seen])), (ad 1, .inr (2, [.ref (ad 7), .int cnt, .int pwc])), (ad 2, .inr (0, [.ref (ad 8)])),
   (ad 3, .inl (γ.2.1, 12, .inl held)), (ad 4, .inl (γ.2.1, 3, .inl clos)), (ad 5, .inr (1, [.ref (ad 9), .ref (ad 10)])), (ad 6, .inr (1, [.ref (ad 11), .ref (ad 12)])),
   (ad 7, .inl (γ.2.1, 10, .inl par)), (ad 8, .inl (γ.2.1, 1440, .inl amt)), (ad 9, .inl (γ.2.1, 12, .inl seW)), (ad 10, .inl (γ.2.1, 12, .inl seS)), (ad 11, .inl (γ.2.1, 12, .inl leW)), (ad 12, .inl (γ.2.1, 12, .inl leS)),
   (bd 0, .inr (4, [.int pl, .ref (bd 1), .ref (bd 2), .ref (bd 3), .ref (bd 4), .ref (bd 5), .int msn, .ref (bd 6), .ref (bd 7), .ref (bd 8), .int thr])), (bd 1, .inl (γ.2.1, 10, .inl mpar)), (bd 2, .inl (γ.2.1, 1440, .inl mcel)),
   (bd 3, .inl (γ.2.1, 120, .inl mhel)), (bd 4, .inl (γ.2.1, 30, .inl mclo)), (bd 5, .inl (γ.2.1, 12, .inl msea)), (bd 6, .inl (γ.2.1, 12, .inl mwei)), (bd 7, .inl (γ.2.1, 12, .inl msha)), (bd 8, .inl (γ.2.1, 12, .inl mmon)), (o, .inl (γ.2.2, 1, .inr (.inl out)))]
abbrev rs (ws : va_W) (is : List Nat) : va_W := is.filterMap (fun i => ws[i]?)
section SHORT
variable {l : Launch} {γ : Gm} {κ : Kx} {cc : ByteArray} {nL f ll : Nat} {own : String} {k n pc pc' : Nat} {st rest : List Value} {lv : List (Nat × Value)} {ws w0 : va_W} {S : Type}
theorem cfI (C : Ok γ κ cc nL own f ll) {Q : Int32 → S → Prop} {w1 : S → va_W} (hr : RunI l γ κ w0 k n 0 0 st pc rest Q w1) (hp : pc' = pc + 3) (isC isR pm : List Nat) (hnd : va_nd isC = true ∧ va_nd isR = true ∧ va_nd pm = true) (hdis : ∀ i ∈ isR, i ∉ isC) (ws1 : S → va_W) (hC : isC.map (fun i => ws[i]?) = w0.map some) (hR : isR.map (fun i => ws[i]?) = (rs ws isR).map some)
    (hpm : ∀ u, pm.map (fun i => (rs ws isR ++ w1 u)[i]?) = (ws1 u).map some) (kk : ∀ (r : Int32) (u : S), Q r u → G l γ κ (ws1 u) lv k n (.int r :: rest) pc') : G l γ κ ws lv k n st pc := aftI C hr hp isC isR pm hC hR hnd hdis hpm kk
theorem cfV (C : Ok γ κ cc nL own f ll) {Q : S → Prop} {w1 : S → va_W} (hr : RunV l γ κ w0 k n 0 0 st pc rest Q w1) (hp : pc' = pc + 3) (isC isR pm : List Nat) (hnd : va_nd isC = true ∧ va_nd isR = true ∧ va_nd pm = true) (hdis : ∀ i ∈ isR, i ∉ isC) (ws1 : S → va_W) (hC : isC.map (fun i => ws[i]?) = w0.map some) (hR : isR.map (fun i => ws[i]?) = (rs ws isR).map some)
    (hpm : ∀ u, pm.map (fun i => (rs ws isR ++ w1 u)[i]?) = (ws1 u).map some) (kk : ∀ (u : S), Q u → G l γ κ (ws1 u) lv k n rest pc') : G l γ κ ws lv k n st pc := aftV C hr hp isC isR pm hC hR hnd hdis hpm kk
theorem cfH (C : Ok γ κ cc nL own f ll) {Q : Int32 → S → Prop} {w1 : S → va_W} (hr : RunH l γ κ w0 k n st pc rest Q w1) (hp : pc' = pc + 3) (isC isR pm : List Nat) (hnd : va_nd isC = true ∧ va_nd isR = true ∧ va_nd pm = true) (hdis : ∀ i ∈ isR, i ∉ isC) (ws1 : S → va_W) (hC : isC.map (fun i => ws[i]?) = w0.map some) (hR : isR.map (fun i => ws[i]?) = (rs ws isR).map some)
    (hpm : ∀ u, pm.map (fun i => (rs ws isR ++ w1 u)[i]?) = (ws1 u).map some) (kk : ∀ (r : Int32) (u : S), Q r u → G l γ κ (ws1 u) lv (k + 1) (n + 6) (.int r :: rest) pc') : G l γ κ ws lv k n st pc := aftH C hr hp isC isR pm hC hR hnd hdis hpm kk
theorem cfX (C : Ok γ κ cc nL own f ll) {X : String → S → Prop} {w1 : S → va_W} (hr : RunX l γ κ w0 0 0 st pc rest X w1) (isC isR pm : List Nat) (hnd : va_nd isC = true ∧ va_nd isR = true ∧ va_nd pm = true) (hdis : ∀ i ∈ isR, i ∉ isC) (ws1 : S → va_W) (hC : isC.map (fun i => ws[i]?) = w0.map some) (hR : isR.map (fun i => ws[i]?) = (rs ws isR).map some)
    (hpm : ∀ u, pm.map (fun i => (rs ws isR ++ w1 u)[i]?) = (ws1 u).map some)
    (kx : ∀ (E : String) (u : S), X E u → ∃ (pre : List ExceptionTableEntry) (x : ExceptionTableEntry) (suf : List ExceptionTableEntry), κ.c.exceptionTable.toList = pre ++ x :: suf ∧
      (∀ z ∈ pre, z.catchType ≠ 0 ∧ ∃ nm : String, Cond.classLink own z.catchType nm ∈ wsA ∧ (E, nm) ∈ exN) ∧ covers x pc = true ∧ x.catchType ≠ 0 ∧ Cond.classLink own x.catchType E ∈ wsA ∧ Cond.castable E E ∈ exW ∧
      ∀ q9 : Nat, G l γ κ (ws1 u) lv 1 6 [.ref q9] x.handlerPc) : G l γ κ ws lv 0 0 st pc := catchX C hr isC isR pm hC hR hnd hdis hpm kx
theorem csI (C : Ok γ κ cc nL own f ll) {Q : Int32 → S → Prop} {w1 : S → va_W} (hr : RunI l γ κ ws k n 0 0 st pc rest Q w1) (hp : pc' = pc + 3) (kk : ∀ (r : Int32) (u : S), Q r u → G l γ κ (w1 u) lv k n (.int r :: rest) pc') : G l γ κ ws lv k n st pc := sameI C hr hp kk
theorem csV (C : Ok γ κ cc nL own f ll) {Q : S → Prop} {w1 : S → va_W} (hr : RunV l γ κ ws k n 0 0 st pc rest Q w1) (hp : pc' = pc + 3) (kk : ∀ (u : S), Q u → G l γ κ (w1 u) lv k n rest pc') : G l γ κ ws lv k n st pc := sameV C hr hp kk
theorem cnI (C : Ok γ κ cc nL own f ll) {Q : Int32 → S → Prop} {w1 : S → va_W} (hr : RunI l γ κ [] k n 0 0 st pc rest Q w1) (hp : pc' = pc + 3) (kk : ∀ (r : Int32) (u : S), Q r u → G l γ κ ws lv k n (.int r :: rest) pc') : G l γ κ ws lv k n st pc := noneI C hr hp kk
theorem cnV (C : Ok γ κ cc nL own f ll) {Q : S → Prop} {w1 : S → va_W} (hr : RunV l γ κ [] k n 0 0 st pc rest Q w1) (hp : pc' = pc + 3) (kk : ∀ (u : S), Q u → G l γ κ ws lv k n rest pc') : G l γ κ ws lv k n st pc := noneV C hr hp kk
theorem g_tabOut (C : Ok γ κ cc nL own f ll) {dflt lo hi : Int} {offs : Array Int} {len : Nat} {x : Int32} {tgt : Nat} (d : decode cc pc = .ok (.tableswitch dflt lo hi offs, len)) (h : x.toInt < lo ∨ hi < x.toInt) (ht : (pc : Int) + dflt = (tgt : Int)) (kk : G l γ κ ws lv k n st tgt) : G l γ κ ws lv k n (.int x :: st) pc :=
  fun H locs ls hP hD hS hl => lv_tableOut C.1 C.2.1 d h ht (kk H locs ls hP hD hS hl)
theorem g_tabIn (C : Ok γ κ cc nL own f ll) {dflt lo hi : Int} {offs : Array Int} {len : Nat} {x : Int32} {off : Int} {tgt : Nat} (d : decode cc pc = .ok (.tableswitch dflt lo hi offs, len)) (h1 : ¬ x.toInt < lo) (h2 : ¬ hi < x.toInt) (ho : offs[(x.toInt - lo).toNat]? = some off) (ht : (pc : Int) + off = (tgt : Int)) (kk : G l γ κ ws lv k n st tgt) : G l γ κ ws lv k n (.int x :: st) pc :=
  fun H locs ls hP hD hS hl => lv_tableIn C.1 C.2.1 d h1 h2 ho ht (kk H locs ls hP hD hS hl)
/-- the script -/
theorem g_sld (C : Ok γ κ cc nL own f ll) {b L : Nat} {xs : Nat → Int32} (hX : va_X b L xs κ.s κ.s.heap) (hbl : b < κ.s.heap.size) (hbA : ¬ κ.A b) {i : Int32} (d : decode cc pc = .ok (.iaload, 1)) (hp : pc' = pc + 1) (hin : vp_in i L) (kk : G l γ κ ws lv k n (.int (xs i.toNatClampNeg) :: st) pc') : G l γ κ ws lv k n (.int i :: .ref b :: st) pc := by
  subst hp
  exact fun H locs ls hP hD hS hl => va_sld C.1 C.2.1 hX hbl hbA hS hin d (kk H locs ls hP hD hS hl)
theorem g_slen (C : Ok γ κ cc nL own f ll) {b L : Nat} {xs : Nat → Int32} (hX : va_X b L xs κ.s κ.s.heap) (hbl : b < κ.s.heap.size) (hbA : ¬ κ.A b) (d : decode cc pc = .ok (.arraylength, 1)) (hp : pc' = pc + 1) (kk : G l γ κ ws lv k n (.int (Int32.ofNat L) :: st) pc') : G l γ κ ws lv k n (.ref b :: st) pc := by
  subst hp
  exact fun H locs ls hP hD hS hl => va_slen C.1 C.2.1 hX hbl hbA hS d (kk H locs ls hP hD hS hl)
end SHORT
theorem nd_BT1 : va_nd [1, 7] = true ∧ va_nd [0, 2, 3, 4, 5, 6, 8, 9, 10, 11, 12] = true ∧ va_nd [0, 11, 1, 2, 3, 4, 5, 12, 6, 7, 8, 9, 10] = true := by decide
theorem di_BT1 : ∀ i ∈ ([0, 2, 3, 4, 5, 6, 8, 9, 10, 11, 12] : List Nat), i ∉ ([1, 7] : List Nat) := by decide
theorem nd_BC2 : va_nd [2, 8] = true ∧ va_nd [0, 1, 3, 4, 5, 6, 7, 9, 10, 11, 12] = true ∧ va_nd [0, 1, 11, 2, 3, 4, 5, 6, 12, 7, 8, 9, 10] = true := by decide
theorem di_BC2 : ∀ i ∈ ([0, 1, 3, 4, 5, 6, 7, 9, 10, 11, 12] : List Nat), i ∉ ([2, 8] : List Nat) := by decide
theorem nd_BS5 : va_nd [5, 9, 10] = true ∧ va_nd [0, 1, 2, 3, 4, 6, 7, 8, 11, 12] = true ∧ va_nd [0, 1, 2, 3, 4, 10, 5, 6, 7, 11, 12, 8, 9] = true := by decide
theorem di_BS5 : ∀ i ∈ ([0, 1, 2, 3, 4, 6, 7, 8, 11, 12] : List Nat), i ∉ ([5, 9, 10] : List Nat) := by decide
theorem nd_BS6 : va_nd [6, 11, 12] = true ∧ va_nd [0, 1, 2, 3, 4, 5, 7, 8, 9, 10] = true ∧ va_nd [0, 1, 2, 3, 4, 5, 10, 6, 7, 8, 9, 11, 12] = true := by decide
theorem di_BS6 : ∀ i ∈ ([0, 1, 2, 3, 4, 5, 7, 8, 9, 10] : List Nat), i ∉ ([6, 11, 12] : List Nat) := by decide
theorem nd_HB : va_nd [0, 1, 2, 3, 4, 5, 6, 7, 8, 9, 10, 11, 12] = true ∧ va_nd [13] = true ∧ va_nd [1, 2, 3, 4, 5, 6, 7, 8, 9, 10, 11, 12, 13, 0] = true := by decide
theorem di_HB : ∀ i ∈ ([13] : List Nat), i ∉ ([0, 1, 2, 3, 4, 5, 6, 7, 8, 9, 10, 11, 12] : List Nat) := by decide
theorem nd_LB : va_nd [0, 1, 2, 3, 4, 5, 6, 7, 8, 9, 10, 11, 12] = true ∧ va_nd [13, 14, 15, 16, 17, 18, 19, 20, 21, 22] = true ∧ va_nd [10, 11, 12, 13, 14, 15, 16, 17, 18, 19, 20, 21, 22, 0, 1, 2, 3, 4, 5, 6, 7, 8, 9] = true := by decide
theorem di_LB : ∀ i ∈ ([13, 14, 15, 16, 17, 18, 19, 20, 21, 22] : List Nat), i ∉ ([0, 1, 2, 3, 4, 5, 6, 7, 8, 9, 10, 11, 12] : List Nat) := by decide
theorem nd_LM : va_nd [13, 14, 15, 16, 17, 18, 19, 20, 21] = true ∧ va_nd [0, 1, 2, 3, 4, 5, 6, 7, 8, 9, 10, 11, 12, 22] = true ∧ va_nd [0, 1, 2, 3, 4, 5, 6, 7, 8, 9, 10, 11, 12, 14, 15, 16, 17, 18, 19, 20, 21, 22, 13] = true := by decide
theorem di_LM : ∀ i ∈ ([0, 1, 2, 3, 4, 5, 6, 7, 8, 9, 10, 11, 12, 22] : List Nat), i ∉ ([13, 14, 15, 16, 17, 18, 19, 20, 21] : List Nat) := by decide
theorem nd_LH : va_nd [0, 1, 2, 3, 4, 5, 6, 7, 8, 9, 10, 11, 12, 22] = true ∧ va_nd [13, 14, 15, 16, 17, 18, 19, 20, 21] = true ∧ va_nd [9, 10, 11, 12, 13, 14, 15, 16, 17, 18, 19, 20, 21, 0, 1, 2, 3, 4, 5, 6, 7, 8, 22] = true := by decide
theorem di_LH : ∀ i ∈ ([13, 14, 15, 16, 17, 18, 19, 20, 21] : List Nat), i ∉ ([0, 1, 2, 3, 4, 5, 6, 7, 8, 9, 10, 11, 12, 22] : List Nat) := by decide
