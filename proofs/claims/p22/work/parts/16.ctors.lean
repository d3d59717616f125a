/-! constructors -/
section CROWS
variable {l : Launch} {γ : Gm} {κ : Kx} {cc : ByteArray} {nL f ll : Nat} {own : String} {k n pc pc' : Nat} {st : List Value} {lv : List (Nat × Value)} {ws ws' : va_W}
theorem g_obj (C : Ok γ κ cc nL own f ll) {ix a : Nat} (h1 : Cond.methodLink own ix objectInit ∈ wsA) (d : decode cc pc = .ok (.invokespecial ix, 3)) (hp : pc' = pc + 3) (hf : 1 ≤ f ∧ 12 ≤ ll) (kk : G l γ κ ws lv k n [] pc') : G l γ κ ws lv k n [.ref a] pc := by
  subst hp
  intro H locs ls hP hD hS h
  exact W.objInit C.1 C.2.1 C.2.2.2.1 (C.2.2.2.2.1 _ h1) (C.2.2.2.2.1 _ oi_1) (C.2.2.2.2.1 _ oi_2) rfl h.1 rfl d (Nat.le_trans hf.1 C.2.2.2.2.2.2.2.2.2.1) (show 2 * 0 + 0 + 12 ≤ κ.R.locals from Nat.le_trans hf.2 C.2.2.2.2.2.2.2.2.2.2) (kk H locs ls hP hD hS h)
theorem g_new (C : Ok γ κ cc nL own f ll) {cls : String} {T : u_T} {N ci ix : Nat} (ty : Nat → FieldType) (hty : ∀ k, k < N → parseFieldDescriptor (T k).2.2.1 = some (ty k)) (hin : ∀ w ∈ u_ws cls T N, w ∈ wsA) (hcl : Cond.classLink own ix cls ∈ wsA) (hinst : Cond.instantiable cls N ∈ wsA) (hini : Cond.initialized cls ∈ wsA)
    (hc : vwCl[ci]? = some (cls, T, N)) (fs : List Value) (hfs : ∀ j, j < N → defaultValue (ty j) = vp_V fs j) (hk : k + 1 ≤ κ.R.cells) (hn : n + N ≤ κ.R.slots) (d : decode cc pc = .ok (.new ix, 3)) (hp : pc' = pc + 3)
    (kk : ∀ q : Nat, G l γ κ (ws ++ [(q, .inr (ci, fs))]) lv (k + 1) (n + N) (.ref q :: st) pc') : G l γ κ ws lv k n st pc := by
  subst hp
  intro H locs ls hP hD hS h
  exact va_new C.1 C.2.1 C.2.2.2.2.1 hin ty hty C.2.2.2.1 (C.2.2.2.2.1 _ hcl) (C.2.2.2.2.1 _ hinst) (C.2.2.2.2.1 _ hini) C.2.2.2.2.2.1 hP hD hS C.2.2.2.2.2.2.1 hc hfs hk hn d (fun q H1 hP1 hD1 hS1 => kk q H1 locs ls hP1 hD1 hS1 h)
theorem g_newI (C : Ok γ κ cc nL own f ll) {v : Int32} (N : Nat) (hn0 : ¬ v < 0) (hN : v.toNatClampNeg = N) (hby : N * componentBytes .int ≤ 536870912) (hk : k + 1 ≤ κ.R.cells) (hn : n + N ≤ κ.R.slots) (d : decode cc pc = .ok (.newarray .int, 2)) (hp : pc' = pc + 2)
    (kk : ∀ q : Nat, G l γ κ (ws ++ [(q, .inl (γ.2.1, N, .inl (fun _ => 0)))]) lv (k + 1) (n + N) (.ref q :: st) pc') : G l γ κ ws lv k n (.int v :: st) pc := by
  subst hp
  intro H locs ls hP hD hS h
  refine va_newa (atype := .int) (ty := .int) (a0 := (N, .inl (fun _ => 0))) C.1 C.2.1 (C.2.2.2.2.1 _ ac_int) rfl C.2.2.2.2.2.1 hP hD hS C.2.2.2.2.2.2.1 (fun _ => rfl) hn0 hN hby hk hn d (fun q cA H1 hK1 hP1 hD1 hS1 => ?_)
  have e1 := (C.2.2.2.2.2.1.2 0 _ rfl).2
  have e2 := (hK1.2 1 _ rfl).2
  have e : cA = γ.2.1 := Option.some.inj (e2.symm.trans e1)
  subst e
  exact kk q H1 locs ls hP1 hD1 hS1 h
/-- the same world in another order -/
theorem g_world (is : List Nat) (hn : va_nd is = true) (hs : is.map (fun i => ws[i]?) = ws'.map some) (kk : G l γ κ ws' lv k n st pc) : G l γ κ ws lv k n st pc := fun H locs ls hP hD hS h => kk H locs ls (va_Psub hP is hs) (hD.sub is hn hs) hS h
end CROWS
set_option maxHeartbeats 4000000 in
set_option maxRecDepth 100000 in
theorem mtX2_init {l : Launch} {γ : Gm} {h0 : Nat} : CtV l γ yX2_init cX2_init 1 1 12 1 10 [.ref h0] [(h0, .inr (2, [.null, .int 0, .int 0]))] (S := Nat) (fun _ => True) (fun h1 => wT γ h0 h1 1 0 (fun _ => 0)) := startV (by decide +kernel) (Nat.le_of_ble_eq_true rfl) (fun κ C RT hR hnm => by
  show G l γ κ [(h0, .inr (2, [.null, .int 0, .int 0]))] [(0, .ref h0)] 0 0 [] 0
  refine g_aload_n (pc' := 1) C dX2_init_0 rfl rfl rfl ?_
  refine g_obj (pc' := 4) C oi_X2 dX2_init_1 rfl ⟨by decide, by decide⟩ ?_
  refine g_aload_n (pc' := 5) C dX2_init_4 rfl rfl rfl ?_
  refine g_bipush (pc' := 7) (v := (10 : Int32)) C dX2_init_5 rfl (by decide) ?_
  refine g_newI (pc' := 9) C 10 (by decide) (by decide) (by decide) (Nat.le_trans (Nat.le_of_ble_eq_true rfl) hR.1) (Nat.le_trans (Nat.le_of_ble_eq_true rfl) hR.2) dX2_init_7 rfl (fun q7 => ?_)
  show G l γ κ [(h0, .inr (2, [.null, .int 0, .int 0])), (q7, .inl (γ.2.1, 10, .inl (fun _ => 0)))] [(0, .ref h0)] 1 10 [.ref q7, .ref h0] 9
  refine pF_X2_9 (pc' := 12) (ws' := [(h0, .inr (2, [.ref q7, .int 0, .int 0])), (q7, .inl (γ.2.1, 10, .inl (fun _ => 0)))]) C dX2_init_9 rfl 0 rfl hnm rfl rfl (Nat.le_of_ble_eq_true rfl) rfl ?_
  refine g_aload_n (pc' := 13) C dX2_init_12 rfl rfl rfl ?_
  refine g_iconst (pc' := 14) (v := (1 : Int32)) C dX2_init_13 rfl (by decide) ?_
  refine pf_X2_15 (pc' := 17) (ws' := [(h0, .inr (2, [.ref q7, .int (1 : Int32), .int 0])), (q7, .inl (γ.2.1, 10, .inl (fun _ => 0)))]) C dX2_init_14 rfl 0 rfl rfl rfl (Nat.le_of_ble_eq_true rfl) rfl ?_
  refine g_aload_n (pc' := 18) C dX2_init_17 rfl rfl rfl ?_
  refine g_iconst (pc' := 19) (v := (0 : Int32)) C dX2_init_18 rfl (by decide) ?_
  refine pf_X2_19 (pc' := 22) (ws' := [(h0, .inr (2, [.ref q7, .int (1 : Int32), .int (0 : Int32)])), (q7, .inl (γ.2.1, 10, .inl (fun _ => 0)))]) C dX2_init_19 rfl 0 rfl rfl rfl (Nat.le_of_ble_eq_true rfl) rfl ?_
  exact RT q7 _ _ _ _ dX2_init_22 (Nat.le_of_ble_eq_true rfl) (Nat.le_of_ble_eq_true rfl) trivial)
set_option maxHeartbeats 4000000 in
set_option maxRecDepth 100000 in
theorem mtX0_init {l : Launch} {γ : Gm} {h0 : Nat} : CtV l γ yX0_init cX0_init 1 1 12 1 1440 [.ref h0] [(h0, .inr (0, [.null]))] (S := Nat) (fun _ => True) (fun h1 => wC γ h0 h1 (fun _ => 0)) := startV (by decide +kernel) (Nat.le_of_ble_eq_true rfl) (fun κ C RT hR hnm => by
  show G l γ κ [(h0, .inr (0, [.null]))] [(0, .ref h0)] 0 0 [] 0
  refine g_aload_n (pc' := 1) C dX0_init_0 rfl rfl rfl ?_
  refine g_obj (pc' := 4) C oi_X0 dX0_init_1 rfl ⟨by decide, by decide⟩ ?_
  refine g_aload_n (pc' := 5) C dX0_init_4 rfl rfl rfl ?_
  refine g_sipush (pc' := 8) (v := (1440 : Int32)) C dX0_init_5 rfl (by decide) ?_
  refine g_newI (pc' := 10) C 1440 (by decide) (by decide) (by decide) (Nat.le_trans (Nat.le_of_ble_eq_true rfl) hR.1) (Nat.le_trans (Nat.le_of_ble_eq_true rfl) hR.2) dX0_init_8 rfl (fun q8 => ?_)
  show G l γ κ [(h0, .inr (0, [.null])), (q8, .inl (γ.2.1, 1440, .inl (fun _ => 0)))] [(0, .ref h0)] 1 1440 [.ref q8, .ref h0] 10
  refine pF_X0_11 (pc' := 13) (ws' := [(h0, .inr (0, [.ref q8])), (q8, .inl (γ.2.1, 1440, .inl (fun _ => 0)))]) C dX0_init_10 rfl 0 rfl hnm rfl rfl (Nat.le_of_ble_eq_true rfl) rfl ?_
  exact RT q8 _ _ _ _ dX0_init_13 (Nat.le_of_ble_eq_true rfl) (Nat.le_of_ble_eq_true rfl) trivial)
set_option maxHeartbeats 4000000 in
set_option maxRecDepth 100000 in
theorem mtX1_init {l : Launch} {γ : Gm} {h0 : Nat} : CtV l γ yX1_init cX1_init 1 1 12 2 24 [.ref h0] [(h0, .inr (1, [.null, .null]))] (S := Nat × Nat) (fun _ => True) (fun u => wS γ h0 u.1 u.2 (fun _ => 0) (fun _ => 0)) := startV (by decide +kernel) (Nat.le_of_ble_eq_true rfl) (fun κ C RT hR hnm => by
  show G l γ κ [(h0, .inr (1, [.null, .null]))] [(0, .ref h0)] 0 0 [] 0
  refine g_aload_n (pc' := 1) C dX1_init_0 rfl rfl rfl ?_
  refine g_obj (pc' := 4) C oi_X1 dX1_init_1 rfl ⟨by decide, by decide⟩ ?_
  refine g_aload_n (pc' := 5) C dX1_init_4 rfl rfl rfl ?_
  refine g_bipush (pc' := 7) (v := (12 : Int32)) C dX1_init_5 rfl (by decide) ?_
  refine g_newI (pc' := 9) C 12 (by decide) (by decide) (by decide) (Nat.le_trans (Nat.le_of_ble_eq_true rfl) hR.1) (Nat.le_trans (Nat.le_of_ble_eq_true rfl) hR.2) dX1_init_7 rfl (fun q7 => ?_)
  show G l γ κ [(h0, .inr (1, [.null, .null])), (q7, .inl (γ.2.1, 12, .inl (fun _ => 0)))] [(0, .ref h0)] 1 12 [.ref q7, .ref h0] 9
  refine pF_X1_9 (pc' := 12) (ws' := [(h0, .inr (1, [.ref q7, .null])), (q7, .inl (γ.2.1, 12, .inl (fun _ => 0)))]) C dX1_init_9 rfl 0 rfl hnm rfl rfl (Nat.le_of_ble_eq_true rfl) rfl ?_
  refine g_aload_n (pc' := 13) C dX1_init_12 rfl rfl rfl ?_
  refine g_bipush (pc' := 15) (v := (12 : Int32)) C dX1_init_13 rfl (by decide) ?_
  refine g_newI (pc' := 17) C 12 (by decide) (by decide) (by decide) (Nat.le_trans (Nat.le_of_ble_eq_true rfl) hR.1) (Nat.le_trans (Nat.le_of_ble_eq_true rfl) hR.2) dX1_init_15 rfl (fun q15 => ?_)
  show G l γ κ [(h0, .inr (1, [.ref q7, .null])), (q7, .inl (γ.2.1, 12, .inl (fun _ => 0))), (q15, .inl (γ.2.1, 12, .inl (fun _ => 0)))] [(0, .ref h0)] 2 24 [.ref q15, .ref h0] 17
  refine pF_X1_15 (pc' := 20) (ws' := [(h0, .inr (1, [.ref q7, .ref q15])), (q7, .inl (γ.2.1, 12, .inl (fun _ => 0))), (q15, .inl (γ.2.1, 12, .inl (fun _ => 0)))]) C dX1_init_17 rfl 0 rfl hnm rfl rfl (Nat.le_of_ble_eq_true rfl) rfl ?_
  exact RT (q7, q15) _ _ _ _ dX1_init_20 (Nat.le_of_ble_eq_true rfl) (Nat.le_of_ble_eq_true rfl) trivial)
set_option maxHeartbeats 4000000 in
set_option maxRecDepth 100000 in
theorem mtX3_init {l : Launch} {γ : Gm} {h0 : Nat} : CtV l γ yX3_init cX3_init 2 2 32 12 1521 [.ref h0] [(h0, .inr (3, [.null, .null, .null, .null, .null, .null, .int 0]))] (S := (Nat → Nat) × Ar) (fun u => u.1 0 = h0 ∧ ∀ j : Nat, j < 12 → u.2 j = 1) (fun u => wB γ u.1 0 1 0 (fun _ => 0) (fun _ => 0) (fun _ => 0) (fun _ => 0) u.2 (fun _ => 0) (fun _ => 0) (fun _ => 0)) := startV (by decide +kernel) (Nat.le_of_ble_eq_true rfl) (fun κ C RT hR hnm => by
  show G l γ κ [(h0, .inr (3, [.null, .null, .null, .null, .null, .null, .int 0]))] [(0, .ref h0)] 0 0 [] 0
  refine g_aload_n (pc' := 1) C dX3_init_0 rfl rfl rfl ?_
  refine g_obj (pc' := 4) C oi_X3 dX3_init_1 rfl ⟨by decide, by decide⟩ ?_
  refine g_aload_n (pc' := 5) C dX3_init_4 rfl rfl rfl ?_
  refine g_new (pc' := 8) (ci := 2) C tyX2 tyX2_ok aX2 cl_X3_9 in_X2 ini_X2 rfl [.null, .int 0, .int 0] (fun j hj => by rcases (show j = 0 ∨ j = 1 ∨ j = 2 by omega) with rfl | rfl | rfl <;> rfl) (Nat.le_trans (Nat.le_of_ble_eq_true rfl) hR.1) (Nat.le_trans (Nat.le_of_ble_eq_true rfl) hR.2) dX3_init_5 rfl (fun q5 => ?_)
  show G l γ κ [(h0, .inr (3, [.null, .null, .null, .null, .null, .null, .int 0])), (q5, .inr (2, [.null, .int 0, .int 0]))] [(0, .ref h0)] 1 3 [.ref q5, .ref h0] 8
  refine g_dup (pc' := 9) C dX3_init_8 rfl rfl ?_
  refine aftV (pc' := 12) C (run_INV (rest := [.ref q5, .ref h0]) C lk_X3_11 rfl (mtX2_init) ⟨by decide, by decide⟩ rfl rfl (Nat.le_of_ble_eq_true rfl) ⟨(Nat.le_trans (Nat.le_of_ble_eq_true rfl) hR.1), (Nat.le_trans (Nat.le_of_ble_eq_true rfl) hR.2)⟩ dX3_init_9) rfl [1] [0] [0, 1, 2] rfl (wr := [(h0, .inr (3, [.null, .null, .null, .null, .null, .null, .int 0]))]) rfl (by decide) (by decide) (ws1 := fun u9 => [(h0, .inr (3, [.null, .null, .null, .null, .null, .null, .int 0])), (q5, .inr (2, [.ref u9, .int 1, .int 0])), (u9, .inl (γ.2.1, 10, .inl (fun _ => 0)))]) (fun _ => rfl) (fun u9 hq9 => ?_)
  show G l γ κ [(h0, .inr (3, [.null, .null, .null, .null, .null, .null, .int 0])), (q5, .inr (2, [.ref u9, .int 1, .int 0])), (u9, .inl (γ.2.1, 10, .inl (fun _ => 0)))] [(0, .ref h0)] 2 13 [.ref q5, .ref h0] 12
  refine pF_X3_12 (pc' := 15) (ws' := [(h0, .inr (3, [.ref q5, .null, .null, .null, .null, .null, .int 0])), (q5, .inr (2, [.ref u9, .int 1, .int 0])), (u9, .inl (γ.2.1, 10, .inl (fun _ => 0)))]) C dX3_init_12 rfl 0 rfl hnm rfl rfl (Nat.le_of_ble_eq_true rfl) rfl ?_
  refine g_aload_n (pc' := 16) C dX3_init_15 rfl rfl rfl ?_
  refine g_new (pc' := 19) (ci := 0) C tyX0 tyX0_ok aX0 cl_X3_16 in_X0 ini_X0 rfl [.null] (fun j hj => by rcases (show j = 0 by omega) with rfl <;> rfl) (Nat.le_trans (Nat.le_of_ble_eq_true rfl) hR.1) (Nat.le_trans (Nat.le_of_ble_eq_true rfl) hR.2) dX3_init_16 rfl (fun q16 => ?_)
  show G l γ κ [(h0, .inr (3, [.ref q5, .null, .null, .null, .null, .null, .int 0])), (q5, .inr (2, [.ref u9, .int 1, .int 0])), (u9, .inl (γ.2.1, 10, .inl (fun _ => 0))), (q16, .inr (0, [.null]))] [(0, .ref h0)] 3 14 [.ref q16, .ref h0] 19
  refine g_dup (pc' := 20) C dX3_init_19 rfl rfl ?_
  refine aftV (pc' := 23) C (run_INV (rest := [.ref q16, .ref h0]) C lk_X3_18 rfl (mtX0_init) ⟨by decide, by decide⟩ rfl rfl (Nat.le_of_ble_eq_true rfl) ⟨(Nat.le_trans (Nat.le_of_ble_eq_true rfl) hR.1), (Nat.le_trans (Nat.le_of_ble_eq_true rfl) hR.2)⟩ dX3_init_20) rfl [3] [0, 1, 2] [0, 1, 2, 3, 4] rfl (wr := [(h0, .inr (3, [.ref q5, .null, .null, .null, .null, .null, .int 0])), (q5, .inr (2, [.ref u9, .int 1, .int 0])), (u9, .inl (γ.2.1, 10, .inl (fun _ => 0)))]) rfl (by decide) (by decide) (ws1 := fun u20 => [(h0, .inr (3, [.ref q5, .null, .null, .null, .null, .null, .int 0])), (q5, .inr (2, [.ref u9, .int 1, .int 0])), (u9, .inl (γ.2.1, 10, .inl (fun _ => 0))), (q16, .inr (0, [.ref u20])), (u20, .inl (γ.2.1, 1440, .inl (fun _ => 0)))]) (fun _ => rfl) (fun u20 hq20 => ?_)
  show G l γ κ [(h0, .inr (3, [.ref q5, .null, .null, .null, .null, .null, .int 0])), (q5, .inr (2, [.ref u9, .int 1, .int 0])), (u9, .inl (γ.2.1, 10, .inl (fun _ => 0))), (q16, .inr (0, [.ref u20])), (u20, .inl (γ.2.1, 1440, .inl (fun _ => 0)))] [(0, .ref h0)] 4 1454 [.ref q16, .ref h0] 23
  refine pF_X3_19 (pc' := 26) (ws' := [(h0, .inr (3, [.ref q5, .ref q16, .null, .null, .null, .null, .int 0])), (q5, .inr (2, [.ref u9, .int 1, .int 0])), (u9, .inl (γ.2.1, 10, .inl (fun _ => 0))), (q16, .inr (0, [.ref u20])), (u20, .inl (γ.2.1, 1440, .inl (fun _ => 0)))]) C dX3_init_23 rfl 0 rfl hnm rfl rfl (Nat.le_of_ble_eq_true rfl) rfl ?_
  refine g_aload_n (pc' := 27) C dX3_init_26 rfl rfl rfl ?_
  refine g_bipush (pc' := 29) (v := (12 : Int32)) C dX3_init_27 rfl (by decide) ?_
  refine g_newI (pc' := 31) C 12 (by decide) (by decide) (by decide) (Nat.le_trans (Nat.le_of_ble_eq_true rfl) hR.1) (Nat.le_trans (Nat.le_of_ble_eq_true rfl) hR.2) dX3_init_29 rfl (fun q29 => ?_)
  show G l γ κ [(h0, .inr (3, [.ref q5, .ref q16, .null, .null, .null, .null, .int 0])), (q5, .inr (2, [.ref u9, .int 1, .int 0])), (u9, .inl (γ.2.1, 10, .inl (fun _ => 0))), (q16, .inr (0, [.ref u20])), (u20, .inl (γ.2.1, 1440, .inl (fun _ => 0))), (q29, .inl (γ.2.1, 12, .inl (fun _ => 0)))] [(0, .ref h0)] 5 1466 [.ref q29, .ref h0] 31
  refine pF_X3_23 (pc' := 34) (ws' := [(h0, .inr (3, [.ref q5, .ref q16, .ref q29, .null, .null, .null, .int 0])), (q5, .inr (2, [.ref u9, .int 1, .int 0])), (u9, .inl (γ.2.1, 10, .inl (fun _ => 0))), (q16, .inr (0, [.ref u20])), (u20, .inl (γ.2.1, 1440, .inl (fun _ => 0))), (q29, .inl (γ.2.1, 12, .inl (fun _ => 0)))]) C dX3_init_31 rfl 0 rfl hnm rfl rfl (Nat.le_of_ble_eq_true rfl) rfl ?_
  refine g_aload_n (pc' := 35) C dX3_init_34 rfl rfl rfl ?_
  refine g_iconst (pc' := 36) (v := (3 : Int32)) C dX3_init_35 rfl (by decide) ?_
  refine g_newI (pc' := 38) C 3 (by decide) (by decide) (by decide) (Nat.le_trans (Nat.le_of_ble_eq_true rfl) hR.1) (Nat.le_trans (Nat.le_of_ble_eq_true rfl) hR.2) dX3_init_36 rfl (fun q36 => ?_)
  show G l γ κ [(h0, .inr (3, [.ref q5, .ref q16, .ref q29, .null, .null, .null, .int 0])), (q5, .inr (2, [.ref u9, .int 1, .int 0])), (u9, .inl (γ.2.1, 10, .inl (fun _ => 0))), (q16, .inr (0, [.ref u20])), (u20, .inl (γ.2.1, 1440, .inl (fun _ => 0))), (q29, .inl (γ.2.1, 12, .inl (fun _ => 0))), (q36, .inl (γ.2.1, 3, .inl (fun _ => 0)))] [(0, .ref h0)] 6 1469 [.ref q36, .ref h0] 38
  refine pF_X3_27 (pc' := 41) (ws' := [(h0, .inr (3, [.ref q5, .ref q16, .ref q29, .ref q36, .null, .null, .int 0])), (q5, .inr (2, [.ref u9, .int 1, .int 0])), (u9, .inl (γ.2.1, 10, .inl (fun _ => 0))), (q16, .inr (0, [.ref u20])), (u20, .inl (γ.2.1, 1440, .inl (fun _ => 0))), (q29, .inl (γ.2.1, 12, .inl (fun _ => 0))), (q36, .inl (γ.2.1, 3, .inl (fun _ => 0)))]) C dX3_init_38 rfl 0 rfl hnm rfl rfl (Nat.le_of_ble_eq_true rfl) rfl ?_
  refine g_aload_n (pc' := 42) C dX3_init_41 rfl rfl rfl ?_
  refine g_new (pc' := 45) (ci := 1) C tyX1 tyX1_ok aX1 cl_X3_30 in_X1 ini_X1 rfl [.null, .null] (fun j hj => by rcases (show j = 0 ∨ j = 1 by omega) with rfl | rfl <;> rfl) (Nat.le_trans (Nat.le_of_ble_eq_true rfl) hR.1) (Nat.le_trans (Nat.le_of_ble_eq_true rfl) hR.2) dX3_init_42 rfl (fun q42 => ?_)
  show G l γ κ [(h0, .inr (3, [.ref q5, .ref q16, .ref q29, .ref q36, .null, .null, .int 0])), (q5, .inr (2, [.ref u9, .int 1, .int 0])), (u9, .inl (γ.2.1, 10, .inl (fun _ => 0))), (q16, .inr (0, [.ref u20])), (u20, .inl (γ.2.1, 1440, .inl (fun _ => 0))), (q29, .inl (γ.2.1, 12, .inl (fun _ => 0))), (q36, .inl (γ.2.1, 3, .inl (fun _ => 0))), (q42, .inr (1, [.null, .null]))] [(0, .ref h0)] 7 1471 [.ref q42, .ref h0] 45
  refine g_dup (pc' := 46) C dX3_init_45 rfl rfl ?_
  refine aftV (pc' := 49) C (run_INV (rest := [.ref q42, .ref h0]) C lk_X3_32 rfl (mtX1_init) ⟨by decide, by decide⟩ rfl rfl (Nat.le_of_ble_eq_true rfl) ⟨(Nat.le_trans (Nat.le_of_ble_eq_true rfl) hR.1), (Nat.le_trans (Nat.le_of_ble_eq_true rfl) hR.2)⟩ dX3_init_46) rfl [7] [0, 1, 2, 3, 4, 5, 6] [0, 1, 2, 3, 4, 5, 6, 7, 8, 9] rfl (wr := [(h0, .inr (3, [.ref q5, .ref q16, .ref q29, .ref q36, .null, .null, .int 0])), (q5, .inr (2, [.ref u9, .int 1, .int 0])), (u9, .inl (γ.2.1, 10, .inl (fun _ => 0))), (q16, .inr (0, [.ref u20])), (u20, .inl (γ.2.1, 1440, .inl (fun _ => 0))), (q29, .inl (γ.2.1, 12, .inl (fun _ => 0))), (q36, .inl (γ.2.1, 3, .inl (fun _ => 0)))]) rfl (by decide) (by decide) (ws1 := fun u46 => [(h0, .inr (3, [.ref q5, .ref q16, .ref q29, .ref q36, .null, .null, .int 0])), (q5, .inr (2, [.ref u9, .int 1, .int 0])), (u9, .inl (γ.2.1, 10, .inl (fun _ => 0))), (q16, .inr (0, [.ref u20])), (u20, .inl (γ.2.1, 1440, .inl (fun _ => 0))), (q29, .inl (γ.2.1, 12, .inl (fun _ => 0))), (q36, .inl (γ.2.1, 3, .inl (fun _ => 0))), (q42, .inr (1, [.ref u46.1, .ref u46.2])), (u46.1, .inl (γ.2.1, 12, .inl (fun _ => 0))), (u46.2, .inl (γ.2.1, 12, .inl (fun _ => 0)))]) (fun _ => rfl) (fun u46 hq46 => ?_)
  show G l γ κ [(h0, .inr (3, [.ref q5, .ref q16, .ref q29, .ref q36, .null, .null, .int 0])), (q5, .inr (2, [.ref u9, .int 1, .int 0])), (u9, .inl (γ.2.1, 10, .inl (fun _ => 0))), (q16, .inr (0, [.ref u20])), (u20, .inl (γ.2.1, 1440, .inl (fun _ => 0))), (q29, .inl (γ.2.1, 12, .inl (fun _ => 0))), (q36, .inl (γ.2.1, 3, .inl (fun _ => 0))), (q42, .inr (1, [.ref u46.1, .ref u46.2])), (u46.1, .inl (γ.2.1, 12, .inl (fun _ => 0))), (u46.2, .inl (γ.2.1, 12, .inl (fun _ => 0)))] [(0, .ref h0)] 9 1495 [.ref q42, .ref h0] 49
  refine pF_X3_33 (pc' := 52) (ws' := [(h0, .inr (3, [.ref q5, .ref q16, .ref q29, .ref q36, .ref q42, .null, .int 0])), (q5, .inr (2, [.ref u9, .int 1, .int 0])), (u9, .inl (γ.2.1, 10, .inl (fun _ => 0))), (q16, .inr (0, [.ref u20])), (u20, .inl (γ.2.1, 1440, .inl (fun _ => 0))), (q29, .inl (γ.2.1, 12, .inl (fun _ => 0))), (q36, .inl (γ.2.1, 3, .inl (fun _ => 0))), (q42, .inr (1, [.ref u46.1, .ref u46.2])), (u46.1, .inl (γ.2.1, 12, .inl (fun _ => 0))), (u46.2, .inl (γ.2.1, 12, .inl (fun _ => 0)))]) C dX3_init_49 rfl 0 rfl hnm rfl rfl (Nat.le_of_ble_eq_true rfl) rfl ?_
  refine g_aload_n (pc' := 53) C dX3_init_52 rfl rfl rfl ?_
  refine g_new (pc' := 56) (ci := 1) C tyX1 tyX1_ok aX1 cl_X3_30 in_X1 ini_X1 rfl [.null, .null] (fun j hj => by rcases (show j = 0 ∨ j = 1 by omega) with rfl | rfl <;> rfl) (Nat.le_trans (Nat.le_of_ble_eq_true rfl) hR.1) (Nat.le_trans (Nat.le_of_ble_eq_true rfl) hR.2) dX3_init_53 rfl (fun q53 => ?_)
  show G l γ κ [(h0, .inr (3, [.ref q5, .ref q16, .ref q29, .ref q36, .ref q42, .null, .int 0])), (q5, .inr (2, [.ref u9, .int 1, .int 0])), (u9, .inl (γ.2.1, 10, .inl (fun _ => 0))), (q16, .inr (0, [.ref u20])), (u20, .inl (γ.2.1, 1440, .inl (fun _ => 0))), (q29, .inl (γ.2.1, 12, .inl (fun _ => 0))), (q36, .inl (γ.2.1, 3, .inl (fun _ => 0))), (q42, .inr (1, [.ref u46.1, .ref u46.2])), (u46.1, .inl (γ.2.1, 12, .inl (fun _ => 0))), (u46.2, .inl (γ.2.1, 12, .inl (fun _ => 0))), (q53, .inr (1, [.null, .null]))] [(0, .ref h0)] 10 1497 [.ref q53, .ref h0] 56
  refine g_dup (pc' := 57) C dX3_init_56 rfl rfl ?_
  refine aftV (pc' := 60) C (run_INV (rest := [.ref q53, .ref h0]) C lk_X3_32 rfl (mtX1_init) ⟨by decide, by decide⟩ rfl rfl (Nat.le_of_ble_eq_true rfl) ⟨(Nat.le_trans (Nat.le_of_ble_eq_true rfl) hR.1), (Nat.le_trans (Nat.le_of_ble_eq_true rfl) hR.2)⟩ dX3_init_57) rfl [10] [0, 1, 2, 3, 4, 5, 6, 7, 8, 9] [0, 1, 2, 3, 4, 5, 6, 7, 8, 9, 10, 11, 12] rfl (wr := [(h0, .inr (3, [.ref q5, .ref q16, .ref q29, .ref q36, .ref q42, .null, .int 0])), (q5, .inr (2, [.ref u9, .int 1, .int 0])), (u9, .inl (γ.2.1, 10, .inl (fun _ => 0))), (q16, .inr (0, [.ref u20])), (u20, .inl (γ.2.1, 1440, .inl (fun _ => 0))), (q29, .inl (γ.2.1, 12, .inl (fun _ => 0))), (q36, .inl (γ.2.1, 3, .inl (fun _ => 0))), (q42, .inr (1, [.ref u46.1, .ref u46.2])), (u46.1, .inl (γ.2.1, 12, .inl (fun _ => 0))), (u46.2, .inl (γ.2.1, 12, .inl (fun _ => 0)))]) rfl (by decide) (by decide) (ws1 := fun u57 => [(h0, .inr (3, [.ref q5, .ref q16, .ref q29, .ref q36, .ref q42, .null, .int 0])), (q5, .inr (2, [.ref u9, .int 1, .int 0])), (u9, .inl (γ.2.1, 10, .inl (fun _ => 0))), (q16, .inr (0, [.ref u20])), (u20, .inl (γ.2.1, 1440, .inl (fun _ => 0))), (q29, .inl (γ.2.1, 12, .inl (fun _ => 0))), (q36, .inl (γ.2.1, 3, .inl (fun _ => 0))), (q42, .inr (1, [.ref u46.1, .ref u46.2])), (u46.1, .inl (γ.2.1, 12, .inl (fun _ => 0))), (u46.2, .inl (γ.2.1, 12, .inl (fun _ => 0))), (q53, .inr (1, [.ref u57.1, .ref u57.2])), (u57.1, .inl (γ.2.1, 12, .inl (fun _ => 0))), (u57.2, .inl (γ.2.1, 12, .inl (fun _ => 0)))]) (fun _ => rfl) (fun u57 hq57 => ?_)
  show G l γ κ [(h0, .inr (3, [.ref q5, .ref q16, .ref q29, .ref q36, .ref q42, .null, .int 0])), (q5, .inr (2, [.ref u9, .int 1, .int 0])), (u9, .inl (γ.2.1, 10, .inl (fun _ => 0))), (q16, .inr (0, [.ref u20])), (u20, .inl (γ.2.1, 1440, .inl (fun _ => 0))), (q29, .inl (γ.2.1, 12, .inl (fun _ => 0))), (q36, .inl (γ.2.1, 3, .inl (fun _ => 0))), (q42, .inr (1, [.ref u46.1, .ref u46.2])), (u46.1, .inl (γ.2.1, 12, .inl (fun _ => 0))), (u46.2, .inl (γ.2.1, 12, .inl (fun _ => 0))), (q53, .inr (1, [.ref u57.1, .ref u57.2])), (u57.1, .inl (γ.2.1, 12, .inl (fun _ => 0))), (u57.2, .inl (γ.2.1, 12, .inl (fun _ => 0)))] [(0, .ref h0)] 12 1521 [.ref q53, .ref h0] 60
  refine pF_X3_37 (pc' := 63) (ws' := [(h0, .inr (3, [.ref q5, .ref q16, .ref q29, .ref q36, .ref q42, .ref q53, .int 0])), (q5, .inr (2, [.ref u9, .int 1, .int 0])), (u9, .inl (γ.2.1, 10, .inl (fun _ => 0))), (q16, .inr (0, [.ref u20])), (u20, .inl (γ.2.1, 1440, .inl (fun _ => 0))), (q29, .inl (γ.2.1, 12, .inl (fun _ => 0))), (q36, .inl (γ.2.1, 3, .inl (fun _ => 0))), (q42, .inr (1, [.ref u46.1, .ref u46.2])), (u46.1, .inl (γ.2.1, 12, .inl (fun _ => 0))), (u46.2, .inl (γ.2.1, 12, .inl (fun _ => 0))), (q53, .inr (1, [.ref u57.1, .ref u57.2])), (u57.1, .inl (γ.2.1, 12, .inl (fun _ => 0))), (u57.2, .inl (γ.2.1, 12, .inl (fun _ => 0)))]) C dX3_init_60 rfl 0 rfl hnm rfl rfl (Nat.le_of_ble_eq_true rfl) rfl ?_
  refine g_aload_n (pc' := 64) C dX3_init_63 rfl rfl rfl ?_
  refine g_iconst (pc' := 65) (v := (0 : Int32)) C dX3_init_64 rfl (by decide) ?_
  refine pf_X3_40 (pc' := 68) (ws' := [(h0, .inr (3, [.ref q5, .ref q16, .ref q29, .ref q36, .ref q42, .ref q53, .int (0 : Int32)])), (q5, .inr (2, [.ref u9, .int 1, .int 0])), (u9, .inl (γ.2.1, 10, .inl (fun _ => 0))), (q16, .inr (0, [.ref u20])), (u20, .inl (γ.2.1, 1440, .inl (fun _ => 0))), (q29, .inl (γ.2.1, 12, .inl (fun _ => 0))), (q36, .inl (γ.2.1, 3, .inl (fun _ => 0))), (q42, .inr (1, [.ref u46.1, .ref u46.2])), (u46.1, .inl (γ.2.1, 12, .inl (fun _ => 0))), (u46.2, .inl (γ.2.1, 12, .inl (fun _ => 0))), (q53, .inr (1, [.ref u57.1, .ref u57.2])), (u57.1, .inl (γ.2.1, 12, .inl (fun _ => 0))), (u57.2, .inl (γ.2.1, 12, .inl (fun _ => 0)))]) C dX3_init_65 rfl 0 rfl rfl rfl (Nat.le_of_ble_eq_true rfl) rfl ?_
  refine g_iconst (pc' := 69) (v := (0 : Int32)) C dX3_init_68 rfl (by decide) ?_
  refine g_istore_n (pc' := 70) (lv' := [(1, .int (0 : Int32)), (0, .ref h0)]) C dX3_init_69 rfl rfl (by decide) rfl ?_
  refine g_iload_n (pc' := 71) C dX3_init_70 rfl rfl rfl ?_
  refine g_bipush (pc' := 73) (v := (12 : Int32)) C dX3_init_71 rfl (by decide) ?_
  refine g_icmp_ge (pc' := 76) (tgt := 92) C dX3_init_73 rfl (by decide) (fun c => absurd c (by decide)) (fun _ => ?_)
  refine g_aload_n (pc' := 77) C dX3_init_76 rfl rfl rfl ?_
  refine gf_X3_33 (pc' := 80) C dX3_init_77 rfl 0 rfl rfl ?_
  refine g_iload_n (pc' := 81) C dX3_init_80 rfl rfl rfl ?_
  refine g_iconst (pc' := 82) (v := (1 : Int32)) C dX3_init_81 rfl (by decide) ?_
  refine cfI (pc' := 85) (w0 := wS γ q42 u46.1 u46.2 (fun _ => 0) (fun _ => 0)) C (run_VI (rest := []) C lk_X3_44 (mtX1_weigh (Q := fun _ (v : Ar) => v = upd (fun _ => 0) (0 : Int32).toNatClampNeg (1 : Int32)) ⟨by unfold vp_in; decide, by unfold vp_in; decide, rfl⟩) ⟨by decide, by decide⟩ rfl rfl rfl rfl (Nat.le_of_ble_eq_true rfl) ⟨Nat.le_trans (Nat.le_of_ble_eq_true rfl) hR.1, Nat.le_trans (Nat.le_of_ble_eq_true rfl) hR.2⟩ dX3_init_82) rfl [7, 8, 9] [0, 1, 2, 3, 4, 5, 6, 10, 11, 12] [0, 1, 2, 3, 4, 5, 6, 10, 11, 12, 7, 8, 9] (by decide) (by decide) (fun u0_82 => [(h0, .inr (3, [.ref q5, .ref q16, .ref q29, .ref q36, .ref q42, .ref q53, .int (0 : Int32)])), (q5, .inr (2, [.ref u9, .int 1, .int 0])), (u9, .inl (γ.2.1, 10, .inl (fun _ => 0))), (q16, .inr (0, [.ref u20])), (u20, .inl (γ.2.1, 1440, .inl (fun _ => 0))), (q29, .inl (γ.2.1, 12, .inl (fun _ => 0))), (q36, .inl (γ.2.1, 3, .inl (fun _ => 0))), (q42, .inr (1, [.ref u46.1, .ref u46.2])), (u46.1, .inl (γ.2.1, 12, .inl u0_82)), (u46.2, .inl (γ.2.1, 12, .inl (fun _ => 0))), (q53, .inr (1, [.ref u57.1, .ref u57.2])), (u57.1, .inl (γ.2.1, 12, .inl (fun _ => 0))), (u57.2, .inl (γ.2.1, 12, .inl (fun _ => 0)))]) rfl rfl (fun _ => rfl) (fun r1_82 u0_82 hu1 => ?_)
  refine g_pop (pc' := 86) C dX3_init_85 rfl rfl ?_
  refine g_iinc (pc' := 89) (v := (1 : Int32)) (lv' := [(1, .int (1 : Int32)), (0, .ref h0)]) C dX3_init_86 rfl rfl (by decide) (by decide) rfl ?_
  refine g_goto (tgt := 70) C dX3_init_89 (by decide) ?_
  refine g_iload_n (pc' := 71) C dX3_init_70 rfl rfl rfl ?_
  refine g_bipush (pc' := 73) (v := (12 : Int32)) C dX3_init_71 rfl (by decide) ?_
  refine g_icmp_ge (pc' := 76) (tgt := 92) C dX3_init_73 rfl (by decide) (fun c => absurd c (by decide)) (fun _ => ?_)
  refine g_aload_n (pc' := 77) C dX3_init_76 rfl rfl rfl ?_
  refine gf_X3_33 (pc' := 80) C dX3_init_77 rfl 0 rfl rfl ?_
  refine g_iload_n (pc' := 81) C dX3_init_80 rfl rfl rfl ?_
  refine g_iconst (pc' := 82) (v := (1 : Int32)) C dX3_init_81 rfl (by decide) ?_
  refine cfI (pc' := 85) (w0 := wS γ q42 u46.1 u46.2 u0_82 (fun _ => 0)) C (run_VI (rest := []) C lk_X3_44 (mtX1_weigh (Q := fun _ (v : Ar) => v = upd u0_82 (1 : Int32).toNatClampNeg (1 : Int32)) ⟨by unfold vp_in; decide, by unfold vp_in; decide, rfl⟩) ⟨by decide, by decide⟩ rfl rfl rfl rfl (Nat.le_of_ble_eq_true rfl) ⟨Nat.le_trans (Nat.le_of_ble_eq_true rfl) hR.1, Nat.le_trans (Nat.le_of_ble_eq_true rfl) hR.2⟩ dX3_init_82) rfl [7, 8, 9] [0, 1, 2, 3, 4, 5, 6, 10, 11, 12] [0, 1, 2, 3, 4, 5, 6, 10, 11, 12, 7, 8, 9] (by decide) (by decide) (fun u1_82 => [(h0, .inr (3, [.ref q5, .ref q16, .ref q29, .ref q36, .ref q42, .ref q53, .int (0 : Int32)])), (q5, .inr (2, [.ref u9, .int 1, .int 0])), (u9, .inl (γ.2.1, 10, .inl (fun _ => 0))), (q16, .inr (0, [.ref u20])), (u20, .inl (γ.2.1, 1440, .inl (fun _ => 0))), (q29, .inl (γ.2.1, 12, .inl (fun _ => 0))), (q36, .inl (γ.2.1, 3, .inl (fun _ => 0))), (q42, .inr (1, [.ref u46.1, .ref u46.2])), (u46.1, .inl (γ.2.1, 12, .inl u1_82)), (u46.2, .inl (γ.2.1, 12, .inl (fun _ => 0))), (q53, .inr (1, [.ref u57.1, .ref u57.2])), (u57.1, .inl (γ.2.1, 12, .inl (fun _ => 0))), (u57.2, .inl (γ.2.1, 12, .inl (fun _ => 0)))]) rfl rfl (fun _ => rfl) (fun r2_82 u1_82 hu2 => ?_)
  refine g_pop (pc' := 86) C dX3_init_85 rfl rfl ?_
  refine g_iinc (pc' := 89) (v := (2 : Int32)) (lv' := [(1, .int (2 : Int32)), (0, .ref h0)]) C dX3_init_86 rfl rfl (by decide) (by decide) rfl ?_
  refine g_goto (tgt := 70) C dX3_init_89 (by decide) ?_
  refine g_iload_n (pc' := 71) C dX3_init_70 rfl rfl rfl ?_
  refine g_bipush (pc' := 73) (v := (12 : Int32)) C dX3_init_71 rfl (by decide) ?_
  refine g_icmp_ge (pc' := 76) (tgt := 92) C dX3_init_73 rfl (by decide) (fun c => absurd c (by decide)) (fun _ => ?_)
  refine g_aload_n (pc' := 77) C dX3_init_76 rfl rfl rfl ?_
  refine gf_X3_33 (pc' := 80) C dX3_init_77 rfl 0 rfl rfl ?_
  refine g_iload_n (pc' := 81) C dX3_init_80 rfl rfl rfl ?_
  refine g_iconst (pc' := 82) (v := (1 : Int32)) C dX3_init_81 rfl (by decide) ?_
  refine cfI (pc' := 85) (w0 := wS γ q42 u46.1 u46.2 u1_82 (fun _ => 0)) C (run_VI (rest := []) C lk_X3_44 (mtX1_weigh (Q := fun _ (v : Ar) => v = upd u1_82 (2 : Int32).toNatClampNeg (1 : Int32)) ⟨by unfold vp_in; decide, by unfold vp_in; decide, rfl⟩) ⟨by decide, by decide⟩ rfl rfl rfl rfl (Nat.le_of_ble_eq_true rfl) ⟨Nat.le_trans (Nat.le_of_ble_eq_true rfl) hR.1, Nat.le_trans (Nat.le_of_ble_eq_true rfl) hR.2⟩ dX3_init_82) rfl [7, 8, 9] [0, 1, 2, 3, 4, 5, 6, 10, 11, 12] [0, 1, 2, 3, 4, 5, 6, 10, 11, 12, 7, 8, 9] (by decide) (by decide) (fun u2_82 => [(h0, .inr (3, [.ref q5, .ref q16, .ref q29, .ref q36, .ref q42, .ref q53, .int (0 : Int32)])), (q5, .inr (2, [.ref u9, .int 1, .int 0])), (u9, .inl (γ.2.1, 10, .inl (fun _ => 0))), (q16, .inr (0, [.ref u20])), (u20, .inl (γ.2.1, 1440, .inl (fun _ => 0))), (q29, .inl (γ.2.1, 12, .inl (fun _ => 0))), (q36, .inl (γ.2.1, 3, .inl (fun _ => 0))), (q42, .inr (1, [.ref u46.1, .ref u46.2])), (u46.1, .inl (γ.2.1, 12, .inl u2_82)), (u46.2, .inl (γ.2.1, 12, .inl (fun _ => 0))), (q53, .inr (1, [.ref u57.1, .ref u57.2])), (u57.1, .inl (γ.2.1, 12, .inl (fun _ => 0))), (u57.2, .inl (γ.2.1, 12, .inl (fun _ => 0)))]) rfl rfl (fun _ => rfl) (fun r3_82 u2_82 hu3 => ?_)
  refine g_pop (pc' := 86) C dX3_init_85 rfl rfl ?_
  refine g_iinc (pc' := 89) (v := (3 : Int32)) (lv' := [(1, .int (3 : Int32)), (0, .ref h0)]) C dX3_init_86 rfl rfl (by decide) (by decide) rfl ?_
  refine g_goto (tgt := 70) C dX3_init_89 (by decide) ?_
  refine g_iload_n (pc' := 71) C dX3_init_70 rfl rfl rfl ?_
  refine g_bipush (pc' := 73) (v := (12 : Int32)) C dX3_init_71 rfl (by decide) ?_
  refine g_icmp_ge (pc' := 76) (tgt := 92) C dX3_init_73 rfl (by decide) (fun c => absurd c (by decide)) (fun _ => ?_)
  refine g_aload_n (pc' := 77) C dX3_init_76 rfl rfl rfl ?_
  refine gf_X3_33 (pc' := 80) C dX3_init_77 rfl 0 rfl rfl ?_
  refine g_iload_n (pc' := 81) C dX3_init_80 rfl rfl rfl ?_
  refine g_iconst (pc' := 82) (v := (1 : Int32)) C dX3_init_81 rfl (by decide) ?_
  refine cfI (pc' := 85) (w0 := wS γ q42 u46.1 u46.2 u2_82 (fun _ => 0)) C (run_VI (rest := []) C lk_X3_44 (mtX1_weigh (Q := fun _ (v : Ar) => v = upd u2_82 (3 : Int32).toNatClampNeg (1 : Int32)) ⟨by unfold vp_in; decide, by unfold vp_in; decide, rfl⟩) ⟨by decide, by decide⟩ rfl rfl rfl rfl (Nat.le_of_ble_eq_true rfl) ⟨Nat.le_trans (Nat.le_of_ble_eq_true rfl) hR.1, Nat.le_trans (Nat.le_of_ble_eq_true rfl) hR.2⟩ dX3_init_82) rfl [7, 8, 9] [0, 1, 2, 3, 4, 5, 6, 10, 11, 12] [0, 1, 2, 3, 4, 5, 6, 10, 11, 12, 7, 8, 9] (by decide) (by decide) (fun u3_82 => [(h0, .inr (3, [.ref q5, .ref q16, .ref q29, .ref q36, .ref q42, .ref q53, .int (0 : Int32)])), (q5, .inr (2, [.ref u9, .int 1, .int 0])), (u9, .inl (γ.2.1, 10, .inl (fun _ => 0))), (q16, .inr (0, [.ref u20])), (u20, .inl (γ.2.1, 1440, .inl (fun _ => 0))), (q29, .inl (γ.2.1, 12, .inl (fun _ => 0))), (q36, .inl (γ.2.1, 3, .inl (fun _ => 0))), (q42, .inr (1, [.ref u46.1, .ref u46.2])), (u46.1, .inl (γ.2.1, 12, .inl u3_82)), (u46.2, .inl (γ.2.1, 12, .inl (fun _ => 0))), (q53, .inr (1, [.ref u57.1, .ref u57.2])), (u57.1, .inl (γ.2.1, 12, .inl (fun _ => 0))), (u57.2, .inl (γ.2.1, 12, .inl (fun _ => 0)))]) rfl rfl (fun _ => rfl) (fun r4_82 u3_82 hu4 => ?_)
  refine g_pop (pc' := 86) C dX3_init_85 rfl rfl ?_
  refine g_iinc (pc' := 89) (v := (4 : Int32)) (lv' := [(1, .int (4 : Int32)), (0, .ref h0)]) C dX3_init_86 rfl rfl (by decide) (by decide) rfl ?_
  refine g_goto (tgt := 70) C dX3_init_89 (by decide) ?_
  refine g_iload_n (pc' := 71) C dX3_init_70 rfl rfl rfl ?_
  refine g_bipush (pc' := 73) (v := (12 : Int32)) C dX3_init_71 rfl (by decide) ?_
  refine g_icmp_ge (pc' := 76) (tgt := 92) C dX3_init_73 rfl (by decide) (fun c => absurd c (by decide)) (fun _ => ?_)
  refine g_aload_n (pc' := 77) C dX3_init_76 rfl rfl rfl ?_
  refine gf_X3_33 (pc' := 80) C dX3_init_77 rfl 0 rfl rfl ?_
  refine g_iload_n (pc' := 81) C dX3_init_80 rfl rfl rfl ?_
  refine g_iconst (pc' := 82) (v := (1 : Int32)) C dX3_init_81 rfl (by decide) ?_
  refine cfI (pc' := 85) (w0 := wS γ q42 u46.1 u46.2 u3_82 (fun _ => 0)) C (run_VI (rest := []) C lk_X3_44 (mtX1_weigh (Q := fun _ (v : Ar) => v = upd u3_82 (4 : Int32).toNatClampNeg (1 : Int32)) ⟨by unfold vp_in; decide, by unfold vp_in; decide, rfl⟩) ⟨by decide, by decide⟩ rfl rfl rfl rfl (Nat.le_of_ble_eq_true rfl) ⟨Nat.le_trans (Nat.le_of_ble_eq_true rfl) hR.1, Nat.le_trans (Nat.le_of_ble_eq_true rfl) hR.2⟩ dX3_init_82) rfl [7, 8, 9] [0, 1, 2, 3, 4, 5, 6, 10, 11, 12] [0, 1, 2, 3, 4, 5, 6, 10, 11, 12, 7, 8, 9] (by decide) (by decide) (fun u4_82 => [(h0, .inr (3, [.ref q5, .ref q16, .ref q29, .ref q36, .ref q42, .ref q53, .int (0 : Int32)])), (q5, .inr (2, [.ref u9, .int 1, .int 0])), (u9, .inl (γ.2.1, 10, .inl (fun _ => 0))), (q16, .inr (0, [.ref u20])), (u20, .inl (γ.2.1, 1440, .inl (fun _ => 0))), (q29, .inl (γ.2.1, 12, .inl (fun _ => 0))), (q36, .inl (γ.2.1, 3, .inl (fun _ => 0))), (q42, .inr (1, [.ref u46.1, .ref u46.2])), (u46.1, .inl (γ.2.1, 12, .inl u4_82)), (u46.2, .inl (γ.2.1, 12, .inl (fun _ => 0))), (q53, .inr (1, [.ref u57.1, .ref u57.2])), (u57.1, .inl (γ.2.1, 12, .inl (fun _ => 0))), (u57.2, .inl (γ.2.1, 12, .inl (fun _ => 0)))]) rfl rfl (fun _ => rfl) (fun r5_82 u4_82 hu5 => ?_)
  refine g_pop (pc' := 86) C dX3_init_85 rfl rfl ?_
  refine g_iinc (pc' := 89) (v := (5 : Int32)) (lv' := [(1, .int (5 : Int32)), (0, .ref h0)]) C dX3_init_86 rfl rfl (by decide) (by decide) rfl ?_
  refine g_goto (tgt := 70) C dX3_init_89 (by decide) ?_
  refine g_iload_n (pc' := 71) C dX3_init_70 rfl rfl rfl ?_
  refine g_bipush (pc' := 73) (v := (12 : Int32)) C dX3_init_71 rfl (by decide) ?_
  refine g_icmp_ge (pc' := 76) (tgt := 92) C dX3_init_73 rfl (by decide) (fun c => absurd c (by decide)) (fun _ => ?_)
  refine g_aload_n (pc' := 77) C dX3_init_76 rfl rfl rfl ?_
  refine gf_X3_33 (pc' := 80) C dX3_init_77 rfl 0 rfl rfl ?_
  refine g_iload_n (pc' := 81) C dX3_init_80 rfl rfl rfl ?_
  refine g_iconst (pc' := 82) (v := (1 : Int32)) C dX3_init_81 rfl (by decide) ?_
  refine cfI (pc' := 85) (w0 := wS γ q42 u46.1 u46.2 u4_82 (fun _ => 0)) C (run_VI (rest := []) C lk_X3_44 (mtX1_weigh (Q := fun _ (v : Ar) => v = upd u4_82 (5 : Int32).toNatClampNeg (1 : Int32)) ⟨by unfold vp_in; decide, by unfold vp_in; decide, rfl⟩) ⟨by decide, by decide⟩ rfl rfl rfl rfl (Nat.le_of_ble_eq_true rfl) ⟨Nat.le_trans (Nat.le_of_ble_eq_true rfl) hR.1, Nat.le_trans (Nat.le_of_ble_eq_true rfl) hR.2⟩ dX3_init_82) rfl [7, 8, 9] [0, 1, 2, 3, 4, 5, 6, 10, 11, 12] [0, 1, 2, 3, 4, 5, 6, 10, 11, 12, 7, 8, 9] (by decide) (by decide) (fun u5_82 => [(h0, .inr (3, [.ref q5, .ref q16, .ref q29, .ref q36, .ref q42, .ref q53, .int (0 : Int32)])), (q5, .inr (2, [.ref u9, .int 1, .int 0])), (u9, .inl (γ.2.1, 10, .inl (fun _ => 0))), (q16, .inr (0, [.ref u20])), (u20, .inl (γ.2.1, 1440, .inl (fun _ => 0))), (q29, .inl (γ.2.1, 12, .inl (fun _ => 0))), (q36, .inl (γ.2.1, 3, .inl (fun _ => 0))), (q42, .inr (1, [.ref u46.1, .ref u46.2])), (u46.1, .inl (γ.2.1, 12, .inl u5_82)), (u46.2, .inl (γ.2.1, 12, .inl (fun _ => 0))), (q53, .inr (1, [.ref u57.1, .ref u57.2])), (u57.1, .inl (γ.2.1, 12, .inl (fun _ => 0))), (u57.2, .inl (γ.2.1, 12, .inl (fun _ => 0)))]) rfl rfl (fun _ => rfl) (fun r6_82 u5_82 hu6 => ?_)
  refine g_pop (pc' := 86) C dX3_init_85 rfl rfl ?_
  refine g_iinc (pc' := 89) (v := (6 : Int32)) (lv' := [(1, .int (6 : Int32)), (0, .ref h0)]) C dX3_init_86 rfl rfl (by decide) (by decide) rfl ?_
  refine g_goto (tgt := 70) C dX3_init_89 (by decide) ?_
  refine g_iload_n (pc' := 71) C dX3_init_70 rfl rfl rfl ?_
  refine g_bipush (pc' := 73) (v := (12 : Int32)) C dX3_init_71 rfl (by decide) ?_
  refine g_icmp_ge (pc' := 76) (tgt := 92) C dX3_init_73 rfl (by decide) (fun c => absurd c (by decide)) (fun _ => ?_)
  refine g_aload_n (pc' := 77) C dX3_init_76 rfl rfl rfl ?_
  refine gf_X3_33 (pc' := 80) C dX3_init_77 rfl 0 rfl rfl ?_
  refine g_iload_n (pc' := 81) C dX3_init_80 rfl rfl rfl ?_
  refine g_iconst (pc' := 82) (v := (1 : Int32)) C dX3_init_81 rfl (by decide) ?_
  refine cfI (pc' := 85) (w0 := wS γ q42 u46.1 u46.2 u5_82 (fun _ => 0)) C (run_VI (rest := []) C lk_X3_44 (mtX1_weigh (Q := fun _ (v : Ar) => v = upd u5_82 (6 : Int32).toNatClampNeg (1 : Int32)) ⟨by unfold vp_in; decide, by unfold vp_in; decide, rfl⟩) ⟨by decide, by decide⟩ rfl rfl rfl rfl (Nat.le_of_ble_eq_true rfl) ⟨Nat.le_trans (Nat.le_of_ble_eq_true rfl) hR.1, Nat.le_trans (Nat.le_of_ble_eq_true rfl) hR.2⟩ dX3_init_82) rfl [7, 8, 9] [0, 1, 2, 3, 4, 5, 6, 10, 11, 12] [0, 1, 2, 3, 4, 5, 6, 10, 11, 12, 7, 8, 9] (by decide) (by decide) (fun u6_82 => [(h0, .inr (3, [.ref q5, .ref q16, .ref q29, .ref q36, .ref q42, .ref q53, .int (0 : Int32)])), (q5, .inr (2, [.ref u9, .int 1, .int 0])), (u9, .inl (γ.2.1, 10, .inl (fun _ => 0))), (q16, .inr (0, [.ref u20])), (u20, .inl (γ.2.1, 1440, .inl (fun _ => 0))), (q29, .inl (γ.2.1, 12, .inl (fun _ => 0))), (q36, .inl (γ.2.1, 3, .inl (fun _ => 0))), (q42, .inr (1, [.ref u46.1, .ref u46.2])), (u46.1, .inl (γ.2.1, 12, .inl u6_82)), (u46.2, .inl (γ.2.1, 12, .inl (fun _ => 0))), (q53, .inr (1, [.ref u57.1, .ref u57.2])), (u57.1, .inl (γ.2.1, 12, .inl (fun _ => 0))), (u57.2, .inl (γ.2.1, 12, .inl (fun _ => 0)))]) rfl rfl (fun _ => rfl) (fun r7_82 u6_82 hu7 => ?_)
  refine g_pop (pc' := 86) C dX3_init_85 rfl rfl ?_
  refine g_iinc (pc' := 89) (v := (7 : Int32)) (lv' := [(1, .int (7 : Int32)), (0, .ref h0)]) C dX3_init_86 rfl rfl (by decide) (by decide) rfl ?_
  refine g_goto (tgt := 70) C dX3_init_89 (by decide) ?_
  refine g_iload_n (pc' := 71) C dX3_init_70 rfl rfl rfl ?_
  refine g_bipush (pc' := 73) (v := (12 : Int32)) C dX3_init_71 rfl (by decide) ?_
  refine g_icmp_ge (pc' := 76) (tgt := 92) C dX3_init_73 rfl (by decide) (fun c => absurd c (by decide)) (fun _ => ?_)
  refine g_aload_n (pc' := 77) C dX3_init_76 rfl rfl rfl ?_
  refine gf_X3_33 (pc' := 80) C dX3_init_77 rfl 0 rfl rfl ?_
  refine g_iload_n (pc' := 81) C dX3_init_80 rfl rfl rfl ?_
  refine g_iconst (pc' := 82) (v := (1 : Int32)) C dX3_init_81 rfl (by decide) ?_
  refine cfI (pc' := 85) (w0 := wS γ q42 u46.1 u46.2 u6_82 (fun _ => 0)) C (run_VI (rest := []) C lk_X3_44 (mtX1_weigh (Q := fun _ (v : Ar) => v = upd u6_82 (7 : Int32).toNatClampNeg (1 : Int32)) ⟨by unfold vp_in; decide, by unfold vp_in; decide, rfl⟩) ⟨by decide, by decide⟩ rfl rfl rfl rfl (Nat.le_of_ble_eq_true rfl) ⟨Nat.le_trans (Nat.le_of_ble_eq_true rfl) hR.1, Nat.le_trans (Nat.le_of_ble_eq_true rfl) hR.2⟩ dX3_init_82) rfl [7, 8, 9] [0, 1, 2, 3, 4, 5, 6, 10, 11, 12] [0, 1, 2, 3, 4, 5, 6, 10, 11, 12, 7, 8, 9] (by decide) (by decide) (fun u7_82 => [(h0, .inr (3, [.ref q5, .ref q16, .ref q29, .ref q36, .ref q42, .ref q53, .int (0 : Int32)])), (q5, .inr (2, [.ref u9, .int 1, .int 0])), (u9, .inl (γ.2.1, 10, .inl (fun _ => 0))), (q16, .inr (0, [.ref u20])), (u20, .inl (γ.2.1, 1440, .inl (fun _ => 0))), (q29, .inl (γ.2.1, 12, .inl (fun _ => 0))), (q36, .inl (γ.2.1, 3, .inl (fun _ => 0))), (q42, .inr (1, [.ref u46.1, .ref u46.2])), (u46.1, .inl (γ.2.1, 12, .inl u7_82)), (u46.2, .inl (γ.2.1, 12, .inl (fun _ => 0))), (q53, .inr (1, [.ref u57.1, .ref u57.2])), (u57.1, .inl (γ.2.1, 12, .inl (fun _ => 0))), (u57.2, .inl (γ.2.1, 12, .inl (fun _ => 0)))]) rfl rfl (fun _ => rfl) (fun r8_82 u7_82 hu8 => ?_)
  refine g_pop (pc' := 86) C dX3_init_85 rfl rfl ?_
  refine g_iinc (pc' := 89) (v := (8 : Int32)) (lv' := [(1, .int (8 : Int32)), (0, .ref h0)]) C dX3_init_86 rfl rfl (by decide) (by decide) rfl ?_
  refine g_goto (tgt := 70) C dX3_init_89 (by decide) ?_
  refine g_iload_n (pc' := 71) C dX3_init_70 rfl rfl rfl ?_
  refine g_bipush (pc' := 73) (v := (12 : Int32)) C dX3_init_71 rfl (by decide) ?_
  refine g_icmp_ge (pc' := 76) (tgt := 92) C dX3_init_73 rfl (by decide) (fun c => absurd c (by decide)) (fun _ => ?_)
  refine g_aload_n (pc' := 77) C dX3_init_76 rfl rfl rfl ?_
  refine gf_X3_33 (pc' := 80) C dX3_init_77 rfl 0 rfl rfl ?_
  refine g_iload_n (pc' := 81) C dX3_init_80 rfl rfl rfl ?_
  refine g_iconst (pc' := 82) (v := (1 : Int32)) C dX3_init_81 rfl (by decide) ?_
  refine cfI (pc' := 85) (w0 := wS γ q42 u46.1 u46.2 u7_82 (fun _ => 0)) C (run_VI (rest := []) C lk_X3_44 (mtX1_weigh (Q := fun _ (v : Ar) => v = upd u7_82 (8 : Int32).toNatClampNeg (1 : Int32)) ⟨by unfold vp_in; decide, by unfold vp_in; decide, rfl⟩) ⟨by decide, by decide⟩ rfl rfl rfl rfl (Nat.le_of_ble_eq_true rfl) ⟨Nat.le_trans (Nat.le_of_ble_eq_true rfl) hR.1, Nat.le_trans (Nat.le_of_ble_eq_true rfl) hR.2⟩ dX3_init_82) rfl [7, 8, 9] [0, 1, 2, 3, 4, 5, 6, 10, 11, 12] [0, 1, 2, 3, 4, 5, 6, 10, 11, 12, 7, 8, 9] (by decide) (by decide) (fun u8_82 => [(h0, .inr (3, [.ref q5, .ref q16, .ref q29, .ref q36, .ref q42, .ref q53, .int (0 : Int32)])), (q5, .inr (2, [.ref u9, .int 1, .int 0])), (u9, .inl (γ.2.1, 10, .inl (fun _ => 0))), (q16, .inr (0, [.ref u20])), (u20, .inl (γ.2.1, 1440, .inl (fun _ => 0))), (q29, .inl (γ.2.1, 12, .inl (fun _ => 0))), (q36, .inl (γ.2.1, 3, .inl (fun _ => 0))), (q42, .inr (1, [.ref u46.1, .ref u46.2])), (u46.1, .inl (γ.2.1, 12, .inl u8_82)), (u46.2, .inl (γ.2.1, 12, .inl (fun _ => 0))), (q53, .inr (1, [.ref u57.1, .ref u57.2])), (u57.1, .inl (γ.2.1, 12, .inl (fun _ => 0))), (u57.2, .inl (γ.2.1, 12, .inl (fun _ => 0)))]) rfl rfl (fun _ => rfl) (fun r9_82 u8_82 hu9 => ?_)
  refine g_pop (pc' := 86) C dX3_init_85 rfl rfl ?_
  refine g_iinc (pc' := 89) (v := (9 : Int32)) (lv' := [(1, .int (9 : Int32)), (0, .ref h0)]) C dX3_init_86 rfl rfl (by decide) (by decide) rfl ?_
  refine g_goto (tgt := 70) C dX3_init_89 (by decide) ?_
  refine g_iload_n (pc' := 71) C dX3_init_70 rfl rfl rfl ?_
  refine g_bipush (pc' := 73) (v := (12 : Int32)) C dX3_init_71 rfl (by decide) ?_
  refine g_icmp_ge (pc' := 76) (tgt := 92) C dX3_init_73 rfl (by decide) (fun c => absurd c (by decide)) (fun _ => ?_)
  refine g_aload_n (pc' := 77) C dX3_init_76 rfl rfl rfl ?_
  refine gf_X3_33 (pc' := 80) C dX3_init_77 rfl 0 rfl rfl ?_
  refine g_iload_n (pc' := 81) C dX3_init_80 rfl rfl rfl ?_
  refine g_iconst (pc' := 82) (v := (1 : Int32)) C dX3_init_81 rfl (by decide) ?_
  refine cfI (pc' := 85) (w0 := wS γ q42 u46.1 u46.2 u8_82 (fun _ => 0)) C (run_VI (rest := []) C lk_X3_44 (mtX1_weigh (Q := fun _ (v : Ar) => v = upd u8_82 (9 : Int32).toNatClampNeg (1 : Int32)) ⟨by unfold vp_in; decide, by unfold vp_in; decide, rfl⟩) ⟨by decide, by decide⟩ rfl rfl rfl rfl (Nat.le_of_ble_eq_true rfl) ⟨Nat.le_trans (Nat.le_of_ble_eq_true rfl) hR.1, Nat.le_trans (Nat.le_of_ble_eq_true rfl) hR.2⟩ dX3_init_82) rfl [7, 8, 9] [0, 1, 2, 3, 4, 5, 6, 10, 11, 12] [0, 1, 2, 3, 4, 5, 6, 10, 11, 12, 7, 8, 9] (by decide) (by decide) (fun u9_82 => [(h0, .inr (3, [.ref q5, .ref q16, .ref q29, .ref q36, .ref q42, .ref q53, .int (0 : Int32)])), (q5, .inr (2, [.ref u9, .int 1, .int 0])), (u9, .inl (γ.2.1, 10, .inl (fun _ => 0))), (q16, .inr (0, [.ref u20])), (u20, .inl (γ.2.1, 1440, .inl (fun _ => 0))), (q29, .inl (γ.2.1, 12, .inl (fun _ => 0))), (q36, .inl (γ.2.1, 3, .inl (fun _ => 0))), (q42, .inr (1, [.ref u46.1, .ref u46.2])), (u46.1, .inl (γ.2.1, 12, .inl u9_82)), (u46.2, .inl (γ.2.1, 12, .inl (fun _ => 0))), (q53, .inr (1, [.ref u57.1, .ref u57.2])), (u57.1, .inl (γ.2.1, 12, .inl (fun _ => 0))), (u57.2, .inl (γ.2.1, 12, .inl (fun _ => 0)))]) rfl rfl (fun _ => rfl) (fun r10_82 u9_82 hu10 => ?_)
  refine g_pop (pc' := 86) C dX3_init_85 rfl rfl ?_
  refine g_iinc (pc' := 89) (v := (10 : Int32)) (lv' := [(1, .int (10 : Int32)), (0, .ref h0)]) C dX3_init_86 rfl rfl (by decide) (by decide) rfl ?_
  refine g_goto (tgt := 70) C dX3_init_89 (by decide) ?_
  refine g_iload_n (pc' := 71) C dX3_init_70 rfl rfl rfl ?_
  refine g_bipush (pc' := 73) (v := (12 : Int32)) C dX3_init_71 rfl (by decide) ?_
  refine g_icmp_ge (pc' := 76) (tgt := 92) C dX3_init_73 rfl (by decide) (fun c => absurd c (by decide)) (fun _ => ?_)
  refine g_aload_n (pc' := 77) C dX3_init_76 rfl rfl rfl ?_
  refine gf_X3_33 (pc' := 80) C dX3_init_77 rfl 0 rfl rfl ?_
  refine g_iload_n (pc' := 81) C dX3_init_80 rfl rfl rfl ?_
  refine g_iconst (pc' := 82) (v := (1 : Int32)) C dX3_init_81 rfl (by decide) ?_
  refine cfI (pc' := 85) (w0 := wS γ q42 u46.1 u46.2 u9_82 (fun _ => 0)) C (run_VI (rest := []) C lk_X3_44 (mtX1_weigh (Q := fun _ (v : Ar) => v = upd u9_82 (10 : Int32).toNatClampNeg (1 : Int32)) ⟨by unfold vp_in; decide, by unfold vp_in; decide, rfl⟩) ⟨by decide, by decide⟩ rfl rfl rfl rfl (Nat.le_of_ble_eq_true rfl) ⟨Nat.le_trans (Nat.le_of_ble_eq_true rfl) hR.1, Nat.le_trans (Nat.le_of_ble_eq_true rfl) hR.2⟩ dX3_init_82) rfl [7, 8, 9] [0, 1, 2, 3, 4, 5, 6, 10, 11, 12] [0, 1, 2, 3, 4, 5, 6, 10, 11, 12, 7, 8, 9] (by decide) (by decide) (fun u10_82 => [(h0, .inr (3, [.ref q5, .ref q16, .ref q29, .ref q36, .ref q42, .ref q53, .int (0 : Int32)])), (q5, .inr (2, [.ref u9, .int 1, .int 0])), (u9, .inl (γ.2.1, 10, .inl (fun _ => 0))), (q16, .inr (0, [.ref u20])), (u20, .inl (γ.2.1, 1440, .inl (fun _ => 0))), (q29, .inl (γ.2.1, 12, .inl (fun _ => 0))), (q36, .inl (γ.2.1, 3, .inl (fun _ => 0))), (q42, .inr (1, [.ref u46.1, .ref u46.2])), (u46.1, .inl (γ.2.1, 12, .inl u10_82)), (u46.2, .inl (γ.2.1, 12, .inl (fun _ => 0))), (q53, .inr (1, [.ref u57.1, .ref u57.2])), (u57.1, .inl (γ.2.1, 12, .inl (fun _ => 0))), (u57.2, .inl (γ.2.1, 12, .inl (fun _ => 0)))]) rfl rfl (fun _ => rfl) (fun r11_82 u10_82 hu11 => ?_)
  refine g_pop (pc' := 86) C dX3_init_85 rfl rfl ?_
  refine g_iinc (pc' := 89) (v := (11 : Int32)) (lv' := [(1, .int (11 : Int32)), (0, .ref h0)]) C dX3_init_86 rfl rfl (by decide) (by decide) rfl ?_
  refine g_goto (tgt := 70) C dX3_init_89 (by decide) ?_
  refine g_iload_n (pc' := 71) C dX3_init_70 rfl rfl rfl ?_
  refine g_bipush (pc' := 73) (v := (12 : Int32)) C dX3_init_71 rfl (by decide) ?_
  refine g_icmp_ge (pc' := 76) (tgt := 92) C dX3_init_73 rfl (by decide) (fun c => absurd c (by decide)) (fun _ => ?_)
  refine g_aload_n (pc' := 77) C dX3_init_76 rfl rfl rfl ?_
  refine gf_X3_33 (pc' := 80) C dX3_init_77 rfl 0 rfl rfl ?_
  refine g_iload_n (pc' := 81) C dX3_init_80 rfl rfl rfl ?_
  refine g_iconst (pc' := 82) (v := (1 : Int32)) C dX3_init_81 rfl (by decide) ?_
  refine cfI (pc' := 85) (w0 := wS γ q42 u46.1 u46.2 u10_82 (fun _ => 0)) C (run_VI (rest := []) C lk_X3_44 (mtX1_weigh (Q := fun _ (v : Ar) => v = upd u10_82 (11 : Int32).toNatClampNeg (1 : Int32)) ⟨by unfold vp_in; decide, by unfold vp_in; decide, rfl⟩) ⟨by decide, by decide⟩ rfl rfl rfl rfl (Nat.le_of_ble_eq_true rfl) ⟨Nat.le_trans (Nat.le_of_ble_eq_true rfl) hR.1, Nat.le_trans (Nat.le_of_ble_eq_true rfl) hR.2⟩ dX3_init_82) rfl [7, 8, 9] [0, 1, 2, 3, 4, 5, 6, 10, 11, 12] [0, 1, 2, 3, 4, 5, 6, 10, 11, 12, 7, 8, 9] (by decide) (by decide) (fun u11_82 => [(h0, .inr (3, [.ref q5, .ref q16, .ref q29, .ref q36, .ref q42, .ref q53, .int (0 : Int32)])), (q5, .inr (2, [.ref u9, .int 1, .int 0])), (u9, .inl (γ.2.1, 10, .inl (fun _ => 0))), (q16, .inr (0, [.ref u20])), (u20, .inl (γ.2.1, 1440, .inl (fun _ => 0))), (q29, .inl (γ.2.1, 12, .inl (fun _ => 0))), (q36, .inl (γ.2.1, 3, .inl (fun _ => 0))), (q42, .inr (1, [.ref u46.1, .ref u46.2])), (u46.1, .inl (γ.2.1, 12, .inl u11_82)), (u46.2, .inl (γ.2.1, 12, .inl (fun _ => 0))), (q53, .inr (1, [.ref u57.1, .ref u57.2])), (u57.1, .inl (γ.2.1, 12, .inl (fun _ => 0))), (u57.2, .inl (γ.2.1, 12, .inl (fun _ => 0)))]) rfl rfl (fun _ => rfl) (fun r12_82 u11_82 hu12 => ?_)
  refine g_pop (pc' := 86) C dX3_init_85 rfl rfl ?_
  refine g_iinc (pc' := 89) (v := (12 : Int32)) (lv' := [(1, .int (12 : Int32)), (0, .ref h0)]) C dX3_init_86 rfl rfl (by decide) (by decide) rfl ?_
  refine g_goto (tgt := 70) C dX3_init_89 (by decide) ?_
  refine g_iload_n (pc' := 71) C dX3_init_70 rfl rfl rfl ?_
  refine g_bipush (pc' := 73) (v := (12 : Int32)) C dX3_init_71 rfl (by decide) ?_
  refine g_icmp_ge (pc' := 76) (tgt := 92) C dX3_init_73 rfl (by decide) (fun _ => ?_) (fun c => absurd (by decide) c)
  have hse : ∀ j : Nat, j < 12 → u11_82 j = 1 := by
    intro j hj
    rcases (show j = 0 ∨ j = 1 ∨ j = 2 ∨ j = 3 ∨ j = 4 ∨ j = 5 ∨ j = 6 ∨ j = 7 ∨ j = 8 ∨ j = 9 ∨ j = 10 ∨ j = 11 by omega) with rfl | rfl | rfl | rfl | rfl | rfl | rfl | rfl | rfl | rfl | rfl | rfl <;> simp [hu12, hu11, hu10, hu9, hu8, hu7, hu6, hu5, hu4, hu3, hu2, hu1, upd, show (Int32.toNatClampNeg 0) = 0 from rfl, show (Int32.toNatClampNeg 1) = 1 from rfl, show (Int32.toNatClampNeg 2) = 2 from rfl, show (Int32.toNatClampNeg 3) = 3 from rfl, show (Int32.toNatClampNeg 4) = 4 from rfl, show (Int32.toNatClampNeg 5) = 5 from rfl, show (Int32.toNatClampNeg 6) = 6 from rfl, show (Int32.toNatClampNeg 7) = 7 from rfl, show (Int32.toNatClampNeg 8) = 8 from rfl, show (Int32.toNatClampNeg 9) = 9 from rfl, show (Int32.toNatClampNeg 10) = 10 from rfl, show (Int32.toNatClampNeg 11) = 11 from rfl]
  refine g_world (ws' := wB γ (fun i => ([h0, q5, q16, q29, q36, q42, q53, u9, u20, u46.1, u46.2, u57.1, u57.2] : List Nat).getD i 0) 0 1 0 (fun _ => 0) (fun _ => 0) (fun _ => 0) (fun _ => 0) u11_82 (fun _ => 0) (fun _ => 0) (fun _ => 0)) [0, 1, 3, 5, 6, 7, 10, 2, 4, 8, 9, 11, 12] (by decide) rfl ?_
  exact RT (fun i => ([h0, q5, q16, q29, q36, q42, q53, u9, u20, u46.1, u46.2, u57.1, u57.2] : List Nat).getD i 0, u11_82) _ _ _ _ dX3_init_92 (Nat.le_of_ble_eq_true rfl) (Nat.le_of_ble_eq_true rfl) ⟨rfl, hse⟩)
