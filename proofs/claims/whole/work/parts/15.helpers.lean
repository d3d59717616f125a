/-! formulas and walks, by program -/
theorem ps0 {α : Type} {P : α → Prop} : ∀ z ∈ ([] : List α), P z := fun z hz => absurd hz List.not_mem_nil
theorem ps1 {α : Type} {P : α → Prop} {a : α} (h : P a) : ∀ z ∈ [a], P z := fun z hz => (List.mem_singleton.mp hz) ▸ h
theorem ps2 {α : Type} {P : α → Prop} {a b : α} (h1 : P a) (h2 : P b) : ∀ z ∈ [a, b], P z := fun z hz => (List.mem_cons.mp hz).elim (fun e => e ▸ h1) (fun e => (List.mem_singleton.mp e) ▸ h2)
def vL_addPlace (cnt : Int32) (pwc : Int32) (par : Ar) (amt : Ar) (held : Ar) (clos : Ar) (out : (Nat → Int64)) (x1 : Int32) (Q : Int32 → (Int32 × Int32 × Ar × (Nat → Int64)) → Prop) : Prop := ((zX3_addPlace cnt pwc par amt held clos x1 (fun E u4 => (E = eIO ∧ (Q (1 : Int32) (u4.1, u4.2.1, u4.2.2, out))) ∨ (E = eIS ∧ (Q (2 : Int32) (u4.1, u4.2.1, u4.2.2, out))))) ∨ (vX3_addPlace cnt pwc par amt held clos x1 (fun r4 u4 => (vp_in (0 : Int32) 1 ∧ (Q (0 : Int32) (u4.1, u4.2.1, u4.2.2, (vp_updL out (0 : Int32).toNatClampNeg r4.toInt64)))))))
set_option maxHeartbeats 4000000 in
set_option maxRecDepth 100000 in
theorem mtL_addPlace {l : Launch} (hfl : l.stackTraces = false) {γ : Gm} {ad : Nat → Nat} {o : Nat} {seen : Int32} {cnt : Int32} {pwc : Int32} {par : Ar} {amt : Ar} {held : Ar} {clos : Ar} {seW : Ar} {seS : Ar} {leW : Ar} {leS : Ar} {out : (Nat → Int64)} {x1 : Int32} {Q : Int32 → (Int32 × Int32 × Ar × (Nat → Int64)) → Prop} (hv : vL_addPlace cnt pwc par amt held clos out x1 Q) : CtH l γ yL_addPlace cL_addPlace 4 .int [(0, 9, 12, 13), (0, 9, 15, 15)] 8 124 [.ref (ad 0), .int x1, .ref o] (wHB γ ad o seen cnt pwc par amt held clos seW seS leW leS out) (fun (r : Int32) (u : Int32 × Int32 × Ar × (Nat → Int64)) => Q r u) (fun u => wHB γ ad o seen u.1 u.2.1 u.2.2.1 amt held clos seW seS leW leS u.2.2.2) := startH (by decide +kernel) (Nat.le_of_ble_eq_true rfl) (fun κ C RT hR hT => by
  show G l γ κ (wHB γ ad o seen cnt pwc par amt held clos seW seS leW leS out) [(0, .ref (ad 0)), (1, .int x1), (2, .ref o)] 0 0 [] 0
  refine g_aload_n (pc' := 1) C dL_addPlace_0 rfl rfl rfl ?_
  refine g_iconst (pc' := 2) (v := (0 : Int32)) C dL_addPlace_1 rfl (by decide) ?_
  refine g_aload_n (pc' := 3) C dL_addPlace_2 rfl rfl rfl ?_
  refine g_iload_n (pc' := 4) C dL_addPlace_3 rfl rfl rfl ?_
  rcases hv with hv | hv
  · refine cfX C (run_VX (rest := [.int (0 : Int32), .ref o]) C lk_L_7 (mtzX3_addPlace hfl hv) ⟨by decide, by decide⟩ rfl rfl rfl rfl (Nat.le_of_ble_eq_true rfl) ⟨hR.1, hR.2⟩ dL_addPlace_4) [0, 1, 2, 3, 4, 5, 6, 7, 8, 9, 10, 11, 12] [13] [1, 2, 3, 4, 5, 6, 7, 8, 9, 10, 11, 12, 13, 0] nd_HB di_HB (fun u4 => wHB γ ad o seen u4.1 u4.2.1 u4.2.2 amt held clos seW seS leW leS out) rfl rfl (fun _ => rfl) (fun E u4 hx => ?_)
    rcases hx with ⟨rfl, hv⟩ | ⟨rfl, hv⟩
    · exact ⟨[], ⟨0, 9, 12, 13⟩, [⟨0, 9, 15, 15⟩], hT.trans rfl, ps0, rfl, by decide, cl_L_13, by simp [exW], fun q9 => by
        refine g_astore_n (pc' := 13) (lv' := [(3, .ref q9), (0, .ref (ad 0)), (1, .int x1), (2, .ref o)]) C dL_addPlace_12 rfl rfl (by decide) rfl ?_
        refine g_iconst (pc' := 14) (v := (1 : Int32)) C dL_addPlace_13 rfl (by decide) ?_
        exact RT (1 : Int32) (u4.1, u4.2.1, u4.2.2, out) _ _ _ _ dL_addPlace_14 rfl (by decide) (by decide) hv⟩
    · exact ⟨[⟨0, 9, 12, 13⟩], ⟨0, 9, 15, 15⟩, [], hT.trans rfl, (ps1 ⟨by decide, eIO, cl_L_13, by simp [exN]⟩), rfl, by decide, cl_L_15, by simp [exW], fun q9 => by
        refine g_astore_n (pc' := 16) (lv' := [(3, .ref q9), (0, .ref (ad 0)), (1, .int x1), (2, .ref o)]) C dL_addPlace_15 rfl rfl (by decide) rfl ?_
        refine g_iconst (pc' := 17) (v := (2 : Int32)) C dL_addPlace_16 rfl (by decide) ?_
        exact RT (2 : Int32) (u4.1, u4.2.1, u4.2.2, out) _ _ _ _ dL_addPlace_17 rfl (by decide) (by decide) hv⟩
  · refine cfI (pc' := 7) C (run_VI (rest := [.int (0 : Int32), .ref o]) C lk_L_7 (mtX3_addPlace hv) ⟨by decide, by decide⟩ rfl rfl rfl rfl (Nat.le_of_ble_eq_true rfl) ⟨Nat.zero_le _, Nat.zero_le _⟩ dL_addPlace_4) rfl [0, 1, 2, 3, 4, 5, 6, 7, 8, 9, 10, 11, 12] [13] [1, 2, 3, 4, 5, 6, 7, 8, 9, 10, 11, 12, 13, 0] nd_HB di_HB (fun u4 => wHB γ ad o seen u4.1 u4.2.1 u4.2.2 amt held clos seW seS leW leS out) rfl rfl (fun _ => rfl) (fun r4 u4 hv => ?_)
    refine g_i2l (pc' := 8) C dL_addPlace_7 rfl ?_
    obtain ⟨hi, hv⟩ := hv
    refine g_last (pc' := 9) (ws' := wHB γ ad o seen u4.1 u4.2.1 u4.2.2 amt held clos seW seS leW leS (vp_updL out (0 : Int32).toNatClampNeg r4.toInt64)) C dL_addPlace_8 rfl 13 rfl hi rfl ?_
    refine g_goto (tgt := 18) C dL_addPlace_9 (by decide) ?_
    refine g_iconst (pc' := 19) (v := (0 : Int32)) C dL_addPlace_18 rfl (by decide) ?_
    exact RT (0 : Int32) (u4.1, u4.2.1, u4.2.2, (vp_updL out (0 : Int32).toNatClampNeg r4.toInt64)) _ _ _ _ dL_addPlace_19 rfl (by decide) (by decide) hv)
def vL_leaves (cnt : Int32) (pwc : Int32) (par : Ar) (out : (Nat → Int64)) (x1 : Int32) (Q : Int32 → ((Nat → Int64)) → Prop) : Prop := ((zX3_leaves cnt pwc par x1 (fun E => (E = eIO ∧ (Q (1 : Int32) out)))) ∨ (vX3_leaves cnt pwc par x1 (fun r4 => (vp_in (0 : Int32) 1 ∧ (Q (0 : Int32) (vp_updL out (0 : Int32).toNatClampNeg r4.toInt64))))))
set_option maxHeartbeats 4000000 in
set_option maxRecDepth 100000 in
theorem mtL_leaves {l : Launch} (hfl : l.stackTraces = false) {γ : Gm} {ad : Nat → Nat} {o : Nat} {seen : Int32} {cnt : Int32} {pwc : Int32} {par : Ar} {amt : Ar} {held : Ar} {clos : Ar} {seW : Ar} {seS : Ar} {leW : Ar} {leS : Ar} {out : (Nat → Int64)} {x1 : Int32} {Q : Int32 → ((Nat → Int64)) → Prop} (hv : vL_leaves cnt pwc par out x1 Q) : CtH l γ yL_leaves cL_leaves 4 .int [(0, 9, 12, 13)] 8 124 [.ref (ad 0), .int x1, .ref o] (wHB γ ad o seen cnt pwc par amt held clos seW seS leW leS out) (fun (r : Int32) (u : (Nat → Int64)) => Q r u) (fun u => wHB γ ad o seen cnt pwc par amt held clos seW seS leW leS u) := startH (by decide +kernel) (Nat.le_of_ble_eq_true rfl) (fun κ C RT hR hT => by
  show G l γ κ (wHB γ ad o seen cnt pwc par amt held clos seW seS leW leS out) [(0, .ref (ad 0)), (1, .int x1), (2, .ref o)] 0 0 [] 0
  refine g_aload_n (pc' := 1) C dL_leaves_0 rfl rfl rfl ?_
  refine g_iconst (pc' := 2) (v := (0 : Int32)) C dL_leaves_1 rfl (by decide) ?_
  refine g_aload_n (pc' := 3) C dL_leaves_2 rfl rfl rfl ?_
  refine g_iload_n (pc' := 4) C dL_leaves_3 rfl rfl rfl ?_
  rcases hv with hv | hv
  · refine cfX C (run_VX (rest := [.int (0 : Int32), .ref o]) C lk_L_17 (mtzX3_leaves hfl hv) ⟨by decide, by decide⟩ rfl rfl rfl rfl (Nat.le_of_ble_eq_true rfl) ⟨hR.1, hR.2⟩ dL_leaves_4) [0, 1, 2, 3, 4, 5, 6, 7, 8, 9, 10, 11, 12] [13] [1, 2, 3, 4, 5, 6, 7, 8, 9, 10, 11, 12, 13, 0] nd_HB di_HB (fun u4 => wHB γ ad o seen cnt pwc par amt held clos seW seS leW leS out) rfl rfl (fun _ => rfl) (fun E u4 hx => ?_)
    rcases hx with ⟨rfl, hv⟩
    · exact ⟨[], ⟨0, 9, 12, 13⟩, [], hT.trans rfl, ps0, rfl, by decide, cl_L_13, by simp [exW], fun q9 => by
        refine g_astore_n (pc' := 13) (lv' := [(3, .ref q9), (0, .ref (ad 0)), (1, .int x1), (2, .ref o)]) C dL_leaves_12 rfl rfl (by decide) rfl ?_
        refine g_iconst (pc' := 14) (v := (1 : Int32)) C dL_leaves_13 rfl (by decide) ?_
        exact RT (1 : Int32) out _ _ _ _ dL_leaves_14 rfl (by decide) (by decide) hv⟩
  · refine cfI (pc' := 7) C (run_VI (rest := [.int (0 : Int32), .ref o]) C lk_L_17 (mtX3_leaves hv) ⟨by decide, by decide⟩ rfl rfl rfl rfl (Nat.le_of_ble_eq_true rfl) ⟨Nat.zero_le _, Nat.zero_le _⟩ dL_leaves_4) rfl [0, 1, 2, 3, 4, 5, 6, 7, 8, 9, 10, 11, 12] [13] [1, 2, 3, 4, 5, 6, 7, 8, 9, 10, 11, 12, 13, 0] nd_HB di_HB (fun u4 => wHB γ ad o seen cnt pwc par amt held clos seW seS leW leS out) rfl rfl (fun _ => rfl) (fun r4 u4 hv => ?_)
    refine g_i2l (pc' := 8) C dL_leaves_7 rfl ?_
    obtain ⟨hi, hv⟩ := hv
    refine g_last (pc' := 9) (ws' := wHB γ ad o seen cnt pwc par amt held clos seW seS leW leS (vp_updL out (0 : Int32).toNatClampNeg r4.toInt64)) C dL_leaves_8 rfl 13 rfl hi rfl ?_
    refine g_goto (tgt := 15) C dL_leaves_9 (by decide) ?_
    refine g_iconst (pc' := 16) (v := (0 : Int32)) C dL_leaves_15 rfl (by decide) ?_
    exact RT (0 : Int32) (vp_updL out (0 : Int32).toNatClampNeg r4.toInt64) _ _ _ _ dL_leaves_16 rfl (by decide) (by decide) hv)
def vL_set (cnt : Int32) (pwc : Int32) (amt : Ar) (clos : Ar) (out : (Nat → Int64)) (x1 : Int32) (x2 : Int32) (x3 : Int32) (x4 : Int32) (x5 : Int32) (Q : Int32 → (Ar × (Nat → Int64)) → Prop) : Prop := ((zX3_set cnt pwc amt clos x1 x2 x3 x4 x5 (fun E u11 => (E = eIO ∧ (Q (1 : Int32) (u11, out))) ∨ (E = eIA ∧ (Q (2 : Int32) (u11, out))) ∨ (E = eIS ∧ (Q (3 : Int32) (u11, out))))) ∨ (vX3_set cnt pwc amt clos x1 x2 x3 x4 x5 (fun r11 u11 => (vp_in (0 : Int32) 1 ∧ (Q (0 : Int32) (u11, (vp_updL out (0 : Int32).toNatClampNeg r11.toInt64)))))))
set_option maxHeartbeats 4000000 in
set_option maxRecDepth 100000 in
theorem mtL_set {l : Launch} (hfl : l.stackTraces = false) {γ : Gm} {ad : Nat → Nat} {o : Nat} {seen : Int32} {cnt : Int32} {pwc : Int32} {par : Ar} {amt : Ar} {held : Ar} {clos : Ar} {seW : Ar} {seS : Ar} {leW : Ar} {leS : Ar} {out : (Nat → Int64)} {x1 : Int32} {x2 : Int32} {x3 : Int32} {x4 : Int32} {x5 : Int32} {Q : Int32 → (Ar × (Nat → Int64)) → Prop} (hv : vL_set cnt pwc amt clos out x1 x2 x3 x4 x5 Q) : CtH l γ yL_set cL_set 8 .int [(0, 16, 19, 13), (0, 16, 23, 24), (0, 16, 27, 15)] 8 128 [.ref (ad 0), .int x1, .int x2, .int x3, .int x4, .int x5, .ref o] (wHB γ ad o seen cnt pwc par amt held clos seW seS leW leS out) (fun (r : Int32) (u : Ar × (Nat → Int64)) => Q r u) (fun u => wHB γ ad o seen cnt pwc par u.1 held clos seW seS leW leS u.2) := startH (by decide +kernel) (Nat.le_of_ble_eq_true rfl) (fun κ C RT hR hT => by
  show G l γ κ (wHB γ ad o seen cnt pwc par amt held clos seW seS leW leS out) [(0, .ref (ad 0)), (1, .int x1), (2, .int x2), (3, .int x3), (4, .int x4), (5, .int x5), (6, .ref o)] 0 0 [] 0
  refine g_aload (pc' := 2) C dL_set_0 rfl rfl ?_
  refine g_iconst (pc' := 3) (v := (0 : Int32)) C dL_set_2 rfl (by decide) ?_
  refine g_aload_n (pc' := 4) C dL_set_3 rfl rfl rfl ?_
  refine g_iload_n (pc' := 5) C dL_set_4 rfl rfl rfl ?_
  refine g_iload_n (pc' := 6) C dL_set_5 rfl rfl rfl ?_
  refine g_iload_n (pc' := 7) C dL_set_6 rfl rfl rfl ?_
  refine g_iload (pc' := 9) C dL_set_7 rfl rfl ?_
  refine g_iload (pc' := 11) C dL_set_9 rfl rfl ?_
  rcases hv with hv | hv
  · refine cfX C (run_VX (rest := [.int (0 : Int32), .ref o]) C lk_L_20 (mtzX3_set hfl hv) ⟨by decide, by decide⟩ rfl rfl rfl rfl (Nat.le_of_ble_eq_true rfl) ⟨hR.1, hR.2⟩ dL_set_11) [0, 1, 2, 3, 4, 5, 6, 7, 8, 9, 10, 11, 12] [13] [1, 2, 3, 4, 5, 6, 7, 8, 9, 10, 11, 12, 13, 0] nd_HB di_HB (fun u11 => wHB γ ad o seen cnt pwc par u11 held clos seW seS leW leS out) rfl rfl (fun _ => rfl) (fun E u11 hx => ?_)
    rcases hx with ⟨rfl, hv⟩ | ⟨rfl, hv⟩ | ⟨rfl, hv⟩
    · exact ⟨[], ⟨0, 16, 19, 13⟩, [⟨0, 16, 23, 24⟩, ⟨0, 16, 27, 15⟩], hT.trans rfl, ps0, rfl, by decide, cl_L_13, by simp [exW], fun q9 => by
        refine g_astore (pc' := 21) (lv' := [(7, .ref q9), (0, .ref (ad 0)), (1, .int x1), (2, .int x2), (3, .int x3), (4, .int x4), (5, .int x5), (6, .ref o)]) C dL_set_19 rfl (by decide) rfl ?_
        refine g_iconst (pc' := 22) (v := (1 : Int32)) C dL_set_21 rfl (by decide) ?_
        exact RT (1 : Int32) (u11, out) _ _ _ _ dL_set_22 rfl (by decide) (by decide) hv⟩
    · exact ⟨[⟨0, 16, 19, 13⟩], ⟨0, 16, 23, 24⟩, [⟨0, 16, 27, 15⟩], hT.trans rfl, (ps1 ⟨by decide, eIO, cl_L_13, by simp [exN]⟩), rfl, by decide, cl_L_24, by simp [exW], fun q9 => by
        refine g_astore (pc' := 25) (lv' := [(7, .ref q9), (0, .ref (ad 0)), (1, .int x1), (2, .int x2), (3, .int x3), (4, .int x4), (5, .int x5), (6, .ref o)]) C dL_set_23 rfl (by decide) rfl ?_
        refine g_iconst (pc' := 26) (v := (2 : Int32)) C dL_set_25 rfl (by decide) ?_
        exact RT (2 : Int32) (u11, out) _ _ _ _ dL_set_26 rfl (by decide) (by decide) hv⟩
    · exact ⟨[⟨0, 16, 19, 13⟩, ⟨0, 16, 23, 24⟩], ⟨0, 16, 27, 15⟩, [], hT.trans rfl, (ps2 ⟨by decide, eIO, cl_L_13, by simp [exN]⟩ ⟨by decide, eIA, cl_L_24, by simp [exN]⟩), rfl, by decide, cl_L_15, by simp [exW], fun q9 => by
        refine g_astore (pc' := 29) (lv' := [(7, .ref q9), (0, .ref (ad 0)), (1, .int x1), (2, .int x2), (3, .int x3), (4, .int x4), (5, .int x5), (6, .ref o)]) C dL_set_27 rfl (by decide) rfl ?_
        refine g_iconst (pc' := 30) (v := (3 : Int32)) C dL_set_29 rfl (by decide) ?_
        exact RT (3 : Int32) (u11, out) _ _ _ _ dL_set_30 rfl (by decide) (by decide) hv⟩
  · refine cfI (pc' := 14) C (run_VI (rest := [.int (0 : Int32), .ref o]) C lk_L_20 (mtX3_set hv) ⟨by decide, by decide⟩ rfl rfl rfl rfl (Nat.le_of_ble_eq_true rfl) ⟨Nat.zero_le _, Nat.zero_le _⟩ dL_set_11) rfl [0, 1, 2, 3, 4, 5, 6, 7, 8, 9, 10, 11, 12] [13] [1, 2, 3, 4, 5, 6, 7, 8, 9, 10, 11, 12, 13, 0] nd_HB di_HB (fun u11 => wHB γ ad o seen cnt pwc par u11 held clos seW seS leW leS out) rfl rfl (fun _ => rfl) (fun r11 u11 hv => ?_)
    refine g_i2l (pc' := 15) C dL_set_14 rfl ?_
    obtain ⟨hi, hv⟩ := hv
    refine g_last (pc' := 16) (ws' := wHB γ ad o seen cnt pwc par u11 held clos seW seS leW leS (vp_updL out (0 : Int32).toNatClampNeg r11.toInt64)) C dL_set_15 rfl 13 rfl hi rfl ?_
    refine g_goto (tgt := 31) C dL_set_16 (by decide) ?_
    refine g_iconst (pc' := 32) (v := (0 : Int32)) C dL_set_31 rfl (by decide) ?_
    exact RT (0 : Int32) (u11, (vp_updL out (0 : Int32).toNatClampNeg r11.toInt64)) _ _ _ _ dL_set_32 rfl (by decide) (by decide) hv)
def vL_hold (cnt : Int32) (pwc : Int32) (held : Ar) (out : (Nat → Int64)) (x1 : Int32) (x2 : Int32) (x3 : Int32) (Q : Int32 → (Ar × (Nat → Int64)) → Prop) : Prop := ((zX3_hold cnt pwc held x1 x2 x3 (fun E u7 => (E = eIO ∧ (Q (1 : Int32) (u7, out))) ∨ (E = eIS ∧ (Q (2 : Int32) (u7, out))))) ∨ (vX3_hold cnt pwc held x1 x2 x3 (fun r7 u7 => ((r7 = (0 : Int32) → (vp_in (0 : Int32) 1 ∧ (Q (0 : Int32) (u7, (vp_updL out (0 : Int32).toNatClampNeg (0 : Int64)))))) ∧ (¬ r7 = (0 : Int32) → (vp_in (0 : Int32) 1 ∧ (Q (0 : Int32) (u7, (vp_updL out (0 : Int32).toNatClampNeg (1 : Int64))))))))))
set_option maxHeartbeats 4000000 in
set_option maxRecDepth 100000 in
theorem mtL_hold {l : Launch} (hfl : l.stackTraces = false) {γ : Gm} {ad : Nat → Nat} {o : Nat} {seen : Int32} {cnt : Int32} {pwc : Int32} {par : Ar} {amt : Ar} {held : Ar} {clos : Ar} {seW : Ar} {seS : Ar} {leW : Ar} {leS : Ar} {out : (Nat → Int64)} {x1 : Int32} {x2 : Int32} {x3 : Int32} {Q : Int32 → (Ar × (Nat → Int64)) → Prop} (hv : vL_hold cnt pwc held out x1 x2 x3 Q) : CtH l γ yL_hold cL_hold 6 .int [(0, 19, 22, 13), (0, 19, 26, 15)] 8 128 [.ref (ad 0), .int x1, .int x2, .int x3, .ref o] (wHB γ ad o seen cnt pwc par amt held clos seW seS leW leS out) (fun (r : Int32) (u : Ar × (Nat → Int64)) => Q r u) (fun u => wHB γ ad o seen cnt pwc par amt u.1 clos seW seS leW leS u.2) := startH (by decide +kernel) (Nat.le_of_ble_eq_true rfl) (fun κ C RT hR hT => by
  show G l γ κ (wHB γ ad o seen cnt pwc par amt held clos seW seS leW leS out) [(0, .ref (ad 0)), (1, .int x1), (2, .int x2), (3, .int x3), (4, .ref o)] 0 0 [] 0
  refine g_aload (pc' := 2) C dL_hold_0 rfl rfl ?_
  refine g_iconst (pc' := 3) (v := (0 : Int32)) C dL_hold_2 rfl (by decide) ?_
  refine g_aload_n (pc' := 4) C dL_hold_3 rfl rfl rfl ?_
  refine g_iload_n (pc' := 5) C dL_hold_4 rfl rfl rfl ?_
  refine g_iload_n (pc' := 6) C dL_hold_5 rfl rfl rfl ?_
  refine g_iload_n (pc' := 7) C dL_hold_6 rfl rfl rfl ?_
  rcases hv with hv | hv
  · refine cfX C (run_VX (rest := [.int (0 : Int32), .ref o]) C lk_L_26 (mtzX3_hold hfl hv) ⟨by decide, by decide⟩ rfl rfl rfl rfl (Nat.le_of_ble_eq_true rfl) ⟨hR.1, hR.2⟩ dL_hold_7) [0, 1, 2, 3, 4, 5, 6, 7, 8, 9, 10, 11, 12] [13] [1, 2, 3, 4, 5, 6, 7, 8, 9, 10, 11, 12, 13, 0] nd_HB di_HB (fun u7 => wHB γ ad o seen cnt pwc par amt u7 clos seW seS leW leS out) rfl rfl (fun _ => rfl) (fun E u7 hx => ?_)
    rcases hx with ⟨rfl, hv⟩ | ⟨rfl, hv⟩
    · exact ⟨[], ⟨0, 19, 22, 13⟩, [⟨0, 19, 26, 15⟩], hT.trans rfl, ps0, rfl, by decide, cl_L_13, by simp [exW], fun q9 => by
        refine g_astore (pc' := 24) (lv' := [(5, .ref q9), (0, .ref (ad 0)), (1, .int x1), (2, .int x2), (3, .int x3), (4, .ref o)]) C dL_hold_22 rfl (by decide) rfl ?_
        refine g_iconst (pc' := 25) (v := (1 : Int32)) C dL_hold_24 rfl (by decide) ?_
        exact RT (1 : Int32) (u7, out) _ _ _ _ dL_hold_25 rfl (by decide) (by decide) hv⟩
    · exact ⟨[⟨0, 19, 22, 13⟩], ⟨0, 19, 26, 15⟩, [], hT.trans rfl, (ps1 ⟨by decide, eIO, cl_L_13, by simp [exN]⟩), rfl, by decide, cl_L_15, by simp [exW], fun q9 => by
        refine g_astore (pc' := 28) (lv' := [(5, .ref q9), (0, .ref (ad 0)), (1, .int x1), (2, .int x2), (3, .int x3), (4, .ref o)]) C dL_hold_26 rfl (by decide) rfl ?_
        refine g_iconst (pc' := 29) (v := (2 : Int32)) C dL_hold_28 rfl (by decide) ?_
        exact RT (2 : Int32) (u7, out) _ _ _ _ dL_hold_29 rfl (by decide) (by decide) hv⟩
  · refine cfI (pc' := 10) C (run_VI (rest := [.int (0 : Int32), .ref o]) C lk_L_26 (mtX3_hold hv) ⟨by decide, by decide⟩ rfl rfl rfl rfl (Nat.le_of_ble_eq_true rfl) ⟨Nat.zero_le _, Nat.zero_le _⟩ dL_hold_7) rfl [0, 1, 2, 3, 4, 5, 6, 7, 8, 9, 10, 11, 12] [13] [1, 2, 3, 4, 5, 6, 7, 8, 9, 10, 11, 12, 13, 0] nd_HB di_HB (fun u7 => wHB γ ad o seen cnt pwc par amt u7 clos seW seS leW leS out) rfl rfl (fun _ => rfl) (fun r7 u7 hv => ?_)
    obtain ⟨hv1, hv2⟩ := hv
    refine g_if_eq (pc' := 13) (tgt := 17) C dL_hold_10 rfl (by decide) (fun c => ?_) (fun c => ?_)
    · have hv := hv1 c
      refine g_lconst (pc' := 18) (v := (0 : Int64)) C dL_hold_17 rfl (by decide) ?_
      obtain ⟨hi, hv⟩ := hv
      refine g_last (pc' := 19) (ws' := wHB γ ad o seen cnt pwc par amt u7 clos seW seS leW leS (vp_updL out (0 : Int32).toNatClampNeg (0 : Int64))) C dL_hold_18 rfl 13 rfl hi rfl ?_
      refine g_goto (tgt := 30) C dL_hold_19 (by decide) ?_
      refine g_iconst (pc' := 31) (v := (0 : Int32)) C dL_hold_30 rfl (by decide) ?_
      exact RT (0 : Int32) (u7, (vp_updL out (0 : Int32).toNatClampNeg (0 : Int64))) _ _ _ _ dL_hold_31 rfl (by decide) (by decide) hv
    · have hv := hv2 c
      refine g_lconst (pc' := 14) (v := (1 : Int64)) C dL_hold_13 rfl (by decide) ?_
      refine g_goto (tgt := 18) C dL_hold_14 (by decide) ?_
      obtain ⟨hi, hv⟩ := hv
      refine g_last (pc' := 19) (ws' := wHB γ ad o seen cnt pwc par amt u7 clos seW seS leW leS (vp_updL out (0 : Int32).toNatClampNeg (1 : Int64))) C dL_hold_18 rfl 13 rfl hi rfl ?_
      refine g_goto (tgt := 30) C dL_hold_19 (by decide) ?_
      refine g_iconst (pc' := 31) (v := (0 : Int32)) C dL_hold_30 rfl (by decide) ?_
      exact RT (0 : Int32) (u7, (vp_updL out (0 : Int32).toNatClampNeg (1 : Int64))) _ _ _ _ dL_hold_31 rfl (by decide) (by decide) hv)
def vL_setSeason (seW : Ar) (out : (Nat → Int64)) (x1 : Int32) (x2 : Int32) (Q : Int32 → (Ar × (Nat → Int64)) → Prop) : Prop := ((zX3_setSeason seW x1 x2 (fun E u5 => (E = eIO ∧ (Q (1 : Int32) (u5, out))) ∨ (E = eIA ∧ (Q (2 : Int32) (u5, out))))) ∨ (vX3_setSeason seW x1 x2 (fun r5 u5 => (vp_in (0 : Int32) 1 ∧ (Q (0 : Int32) (u5, (vp_updL out (0 : Int32).toNatClampNeg r5.toInt64)))))))
set_option maxHeartbeats 4000000 in
set_option maxRecDepth 100000 in
theorem mtL_setSeason {l : Launch} (hfl : l.stackTraces = false) {γ : Gm} {ad : Nat → Nat} {o : Nat} {seen : Int32} {cnt : Int32} {pwc : Int32} {par : Ar} {amt : Ar} {held : Ar} {clos : Ar} {seW : Ar} {seS : Ar} {leW : Ar} {leS : Ar} {out : (Nat → Int64)} {x1 : Int32} {x2 : Int32} {Q : Int32 → (Ar × (Nat → Int64)) → Prop} (hv : vL_setSeason seW out x1 x2 Q) : CtH l γ yL_setSeason cL_setSeason 5 .int [(0, 10, 13, 13), (0, 10, 17, 24)] 8 125 [.ref (ad 0), .int x1, .int x2, .ref o] (wHB γ ad o seen cnt pwc par amt held clos seW seS leW leS out) (fun (r : Int32) (u : Ar × (Nat → Int64)) => Q r u) (fun u => wHB γ ad o seen cnt pwc par amt held clos u.1 seS leW leS u.2) := startH (by decide +kernel) (Nat.le_of_ble_eq_true rfl) (fun κ C RT hR hT => by
  show G l γ κ (wHB γ ad o seen cnt pwc par amt held clos seW seS leW leS out) [(0, .ref (ad 0)), (1, .int x1), (2, .int x2), (3, .ref o)] 0 0 [] 0
  refine g_aload_n (pc' := 1) C dL_setSeason_0 rfl rfl rfl ?_
  refine g_iconst (pc' := 2) (v := (0 : Int32)) C dL_setSeason_1 rfl (by decide) ?_
  refine g_aload_n (pc' := 3) C dL_setSeason_2 rfl rfl rfl ?_
  refine g_iload_n (pc' := 4) C dL_setSeason_3 rfl rfl rfl ?_
  refine g_iload_n (pc' := 5) C dL_setSeason_4 rfl rfl rfl ?_
  rcases hv with hv | hv
  · refine cfX C (run_VX (rest := [.int (0 : Int32), .ref o]) C lk_L_30 (mtzX3_setSeason hfl hv) ⟨by decide, by decide⟩ rfl rfl rfl rfl (Nat.le_of_ble_eq_true rfl) ⟨hR.1, hR.2⟩ dL_setSeason_5) [0, 1, 2, 3, 4, 5, 6, 7, 8, 9, 10, 11, 12] [13] [1, 2, 3, 4, 5, 6, 7, 8, 9, 10, 11, 12, 13, 0] nd_HB di_HB (fun u5 => wHB γ ad o seen cnt pwc par amt held clos u5 seS leW leS out) rfl rfl (fun _ => rfl) (fun E u5 hx => ?_)
    rcases hx with ⟨rfl, hv⟩ | ⟨rfl, hv⟩
    · exact ⟨[], ⟨0, 10, 13, 13⟩, [⟨0, 10, 17, 24⟩], hT.trans rfl, ps0, rfl, by decide, cl_L_13, by simp [exW], fun q9 => by
        refine g_astore (pc' := 15) (lv' := [(4, .ref q9), (0, .ref (ad 0)), (1, .int x1), (2, .int x2), (3, .ref o)]) C dL_setSeason_13 rfl (by decide) rfl ?_
        refine g_iconst (pc' := 16) (v := (1 : Int32)) C dL_setSeason_15 rfl (by decide) ?_
        exact RT (1 : Int32) (u5, out) _ _ _ _ dL_setSeason_16 rfl (by decide) (by decide) hv⟩
    · exact ⟨[⟨0, 10, 13, 13⟩], ⟨0, 10, 17, 24⟩, [], hT.trans rfl, (ps1 ⟨by decide, eIO, cl_L_13, by simp [exN]⟩), rfl, by decide, cl_L_24, by simp [exW], fun q9 => by
        refine g_astore (pc' := 19) (lv' := [(4, .ref q9), (0, .ref (ad 0)), (1, .int x1), (2, .int x2), (3, .ref o)]) C dL_setSeason_17 rfl (by decide) rfl ?_
        refine g_iconst (pc' := 20) (v := (2 : Int32)) C dL_setSeason_19 rfl (by decide) ?_
        exact RT (2 : Int32) (u5, out) _ _ _ _ dL_setSeason_20 rfl (by decide) (by decide) hv⟩
  · refine cfI (pc' := 8) C (run_VI (rest := [.int (0 : Int32), .ref o]) C lk_L_30 (mtX3_setSeason hv) ⟨by decide, by decide⟩ rfl rfl rfl rfl (Nat.le_of_ble_eq_true rfl) ⟨Nat.zero_le _, Nat.zero_le _⟩ dL_setSeason_5) rfl [0, 1, 2, 3, 4, 5, 6, 7, 8, 9, 10, 11, 12] [13] [1, 2, 3, 4, 5, 6, 7, 8, 9, 10, 11, 12, 13, 0] nd_HB di_HB (fun u5 => wHB γ ad o seen cnt pwc par amt held clos u5 seS leW leS out) rfl rfl (fun _ => rfl) (fun r5 u5 hv => ?_)
    refine g_i2l (pc' := 9) C dL_setSeason_8 rfl ?_
    obtain ⟨hi, hv⟩ := hv
    refine g_last (pc' := 10) (ws' := wHB γ ad o seen cnt pwc par amt held clos u5 seS leW leS (vp_updL out (0 : Int32).toNatClampNeg r5.toInt64)) C dL_setSeason_9 rfl 13 rfl hi rfl ?_
    refine g_goto (tgt := 21) C dL_setSeason_10 (by decide) ?_
    refine g_iconst (pc' := 22) (v := (0 : Int32)) C dL_setSeason_21 rfl (by decide) ?_
    exact RT (0 : Int32) (u5, (vp_updL out (0 : Int32).toNatClampNeg r5.toInt64)) _ _ _ _ dL_setSeason_22 rfl (by decide) (by decide) hv)
def vL_spread (cnt : Int32) (pwc : Int32) (par : Ar) (amt : Ar) (held : Ar) (clos : Ar) (leW : Ar) (leS : Ar) (out : (Nat → Int64)) (x1 : Int32) (x2 : Int32) (x3 : Int32) (x4 : Int32) (x5 : Int32) (Q : Int32 → (Ar × Ar × Ar × (Nat → Int64)) → Prop) : Prop := ((zX3_spread cnt pwc par amt held clos leW leS x1 x2 x3 x4 x5 (fun E u11 => (E = eIO ∧ (Q (1 : Int32) (u11.1, u11.2.1, u11.2.2, out))) ∨ (E = eIA ∧ (Q (2 : Int32) (u11.1, u11.2.1, u11.2.2, out))) ∨ (E = eIS ∧ (Q (3 : Int32) (u11.1, u11.2.1, u11.2.2, out))))) ∨ (vX3_spread cnt pwc par amt held clos leW leS x1 x2 x3 x4 x5 (fun r11 u11 => (vp_in (0 : Int32) 1 ∧ (Q (0 : Int32) (u11.1, u11.2.1, u11.2.2, (vp_updL out (0 : Int32).toNatClampNeg r11.toInt64)))))))
set_option maxHeartbeats 4000000 in
set_option maxRecDepth 100000 in
theorem mtL_spread {l : Launch} (hfl : l.stackTraces = false) {γ : Gm} {ad : Nat → Nat} {o : Nat} {seen : Int32} {cnt : Int32} {pwc : Int32} {par : Ar} {amt : Ar} {held : Ar} {clos : Ar} {seW : Ar} {seS : Ar} {leW : Ar} {leS : Ar} {out : (Nat → Int64)} {x1 : Int32} {x2 : Int32} {x3 : Int32} {x4 : Int32} {x5 : Int32} {Q : Int32 → (Ar × Ar × Ar × (Nat → Int64)) → Prop} (hv : vL_spread cnt pwc par amt held clos leW leS out x1 x2 x3 x4 x5 Q) : CtH l γ yL_spread cL_spread 8 .int [(0, 16, 19, 13), (0, 16, 23, 24), (0, 16, 27, 15)] 8 180 [.ref (ad 0), .int x1, .int x2, .int x3, .int x4, .int x5, .ref o] (wHB γ ad o seen cnt pwc par amt held clos seW seS leW leS out) (fun (r : Int32) (u : Ar × Ar × Ar × (Nat → Int64)) => Q r u) (fun u => wHB γ ad o seen cnt pwc par u.1 held clos seW seS u.2.1 u.2.2.1 u.2.2.2) := startH (by decide +kernel) (Nat.le_of_ble_eq_true rfl) (fun κ C RT hR hT => by
  show G l γ κ (wHB γ ad o seen cnt pwc par amt held clos seW seS leW leS out) [(0, .ref (ad 0)), (1, .int x1), (2, .int x2), (3, .int x3), (4, .int x4), (5, .int x5), (6, .ref o)] 0 0 [] 0
  refine g_aload (pc' := 2) C dL_spread_0 rfl rfl ?_
  refine g_iconst (pc' := 3) (v := (0 : Int32)) C dL_spread_2 rfl (by decide) ?_
  refine g_aload_n (pc' := 4) C dL_spread_3 rfl rfl rfl ?_
  refine g_iload_n (pc' := 5) C dL_spread_4 rfl rfl rfl ?_
  refine g_iload_n (pc' := 6) C dL_spread_5 rfl rfl rfl ?_
  refine g_iload_n (pc' := 7) C dL_spread_6 rfl rfl rfl ?_
  refine g_iload (pc' := 9) C dL_spread_7 rfl rfl ?_
  refine g_iload (pc' := 11) C dL_spread_9 rfl rfl ?_
  rcases hv with hv | hv
  · refine cfX C (run_VX (rest := [.int (0 : Int32), .ref o]) C lk_L_34 (mtzX3_spread hfl hv) ⟨by decide, by decide⟩ rfl rfl rfl rfl (Nat.le_of_ble_eq_true rfl) ⟨hR.1, hR.2⟩ dL_spread_11) [0, 1, 2, 3, 4, 5, 6, 7, 8, 9, 10, 11, 12] [13] [1, 2, 3, 4, 5, 6, 7, 8, 9, 10, 11, 12, 13, 0] nd_HB di_HB (fun u11 => wHB γ ad o seen cnt pwc par u11.1 held clos seW seS u11.2.1 u11.2.2 out) rfl rfl (fun _ => rfl) (fun E u11 hx => ?_)
    rcases hx with ⟨rfl, hv⟩ | ⟨rfl, hv⟩ | ⟨rfl, hv⟩
    · exact ⟨[], ⟨0, 16, 19, 13⟩, [⟨0, 16, 23, 24⟩, ⟨0, 16, 27, 15⟩], hT.trans rfl, ps0, rfl, by decide, cl_L_13, by simp [exW], fun q9 => by
        refine g_astore (pc' := 21) (lv' := [(7, .ref q9), (0, .ref (ad 0)), (1, .int x1), (2, .int x2), (3, .int x3), (4, .int x4), (5, .int x5), (6, .ref o)]) C dL_spread_19 rfl (by decide) rfl ?_
        refine g_iconst (pc' := 22) (v := (1 : Int32)) C dL_spread_21 rfl (by decide) ?_
        exact RT (1 : Int32) (u11.1, u11.2.1, u11.2.2, out) _ _ _ _ dL_spread_22 rfl (by decide) (by decide) hv⟩
    · exact ⟨[⟨0, 16, 19, 13⟩], ⟨0, 16, 23, 24⟩, [⟨0, 16, 27, 15⟩], hT.trans rfl, (ps1 ⟨by decide, eIO, cl_L_13, by simp [exN]⟩), rfl, by decide, cl_L_24, by simp [exW], fun q9 => by
        refine g_astore (pc' := 25) (lv' := [(7, .ref q9), (0, .ref (ad 0)), (1, .int x1), (2, .int x2), (3, .int x3), (4, .int x4), (5, .int x5), (6, .ref o)]) C dL_spread_23 rfl (by decide) rfl ?_
        refine g_iconst (pc' := 26) (v := (2 : Int32)) C dL_spread_25 rfl (by decide) ?_
        exact RT (2 : Int32) (u11.1, u11.2.1, u11.2.2, out) _ _ _ _ dL_spread_26 rfl (by decide) (by decide) hv⟩
    · exact ⟨[⟨0, 16, 19, 13⟩, ⟨0, 16, 23, 24⟩], ⟨0, 16, 27, 15⟩, [], hT.trans rfl, (ps2 ⟨by decide, eIO, cl_L_13, by simp [exN]⟩ ⟨by decide, eIA, cl_L_24, by simp [exN]⟩), rfl, by decide, cl_L_15, by simp [exW], fun q9 => by
        refine g_astore (pc' := 29) (lv' := [(7, .ref q9), (0, .ref (ad 0)), (1, .int x1), (2, .int x2), (3, .int x3), (4, .int x4), (5, .int x5), (6, .ref o)]) C dL_spread_27 rfl (by decide) rfl ?_
        refine g_iconst (pc' := 30) (v := (3 : Int32)) C dL_spread_29 rfl (by decide) ?_
        exact RT (3 : Int32) (u11.1, u11.2.1, u11.2.2, out) _ _ _ _ dL_spread_30 rfl (by decide) (by decide) hv⟩
  · refine cfI (pc' := 14) C (run_VI (rest := [.int (0 : Int32), .ref o]) C lk_L_34 (mtX3_spread hv) ⟨by decide, by decide⟩ rfl rfl rfl rfl (Nat.le_of_ble_eq_true rfl) ⟨Nat.zero_le _, Nat.zero_le _⟩ dL_spread_11) rfl [0, 1, 2, 3, 4, 5, 6, 7, 8, 9, 10, 11, 12] [13] [1, 2, 3, 4, 5, 6, 7, 8, 9, 10, 11, 12, 13, 0] nd_HB di_HB (fun u11 => wHB γ ad o seen cnt pwc par u11.1 held clos seW seS u11.2.1 u11.2.2 out) rfl rfl (fun _ => rfl) (fun r11 u11 hv => ?_)
    refine g_i2l (pc' := 15) C dL_spread_14 rfl ?_
    obtain ⟨hi, hv⟩ := hv
    refine g_last (pc' := 16) (ws' := wHB γ ad o seen cnt pwc par u11.1 held clos seW seS u11.2.1 u11.2.2 (vp_updL out (0 : Int32).toNatClampNeg r11.toInt64)) C dL_spread_15 rfl 13 rfl hi rfl ?_
    refine g_goto (tgt := 31) C dL_spread_16 (by decide) ?_
    refine g_iconst (pc' := 32) (v := (0 : Int32)) C dL_spread_31 rfl (by decide) ?_
    exact RT (0 : Int32) (u11.1, u11.2.1, u11.2.2, (vp_updL out (0 : Int32).toNatClampNeg r11.toInt64)) _ _ _ _ dL_spread_32 rfl (by decide) (by decide) hv)
def vL_spreadYear (cnt : Int32) (pwc : Int32) (par : Ar) (amt : Ar) (held : Ar) (clos : Ar) (seW : Ar) (seS : Ar) (leW : Ar) (leS : Ar) (out : (Nat → Int64)) (x1 : Int32) (x2 : Int32) (x3 : Int32) (Q : Int32 → (Ar × Ar × Ar × Ar × (Nat → Int64)) → Prop) : Prop := ((zX3_spreadYear cnt pwc par amt held clos seW seS leW leS x1 x2 x3 (fun E u7 => (E = eIO ∧ (Q (1 : Int32) (u7.1, u7.2.1, u7.2.2.1, u7.2.2.2, out))) ∨ (E = eIA ∧ (Q (2 : Int32) (u7.1, u7.2.1, u7.2.2.1, u7.2.2.2, out))) ∨ (E = eIS ∧ (Q (3 : Int32) (u7.1, u7.2.1, u7.2.2.1, u7.2.2.2, out))))) ∨ (vX3_spreadYear cnt pwc par amt held clos seW seS leW leS x1 x2 x3 (fun r7 u7 => (vp_in (0 : Int32) 1 ∧ (Q (0 : Int32) (u7.1, u7.2.1, u7.2.2.1, u7.2.2.2, (vp_updL out (0 : Int32).toNatClampNeg r7.toInt64)))))))
set_option maxHeartbeats 4000000 in
set_option maxRecDepth 100000 in
theorem mtL_spreadYear {l : Launch} (hfl : l.stackTraces = false) {γ : Gm} {ad : Nat → Nat} {o : Nat} {seen : Int32} {cnt : Int32} {pwc : Int32} {par : Ar} {amt : Ar} {held : Ar} {clos : Ar} {seW : Ar} {seS : Ar} {leW : Ar} {leS : Ar} {out : (Nat → Int64)} {x1 : Int32} {x2 : Int32} {x3 : Int32} {Q : Int32 → (Ar × Ar × Ar × Ar × (Nat → Int64)) → Prop} (hv : vL_spreadYear cnt pwc par amt held clos seW seS leW leS out x1 x2 x3 Q) : CtH l γ yL_spreadYear cL_spreadYear 6 .int [(0, 12, 15, 13), (0, 12, 19, 24), (0, 12, 23, 15)] 8 180 [.ref (ad 0), .int x1, .int x2, .int x3, .ref o] (wHB γ ad o seen cnt pwc par amt held clos seW seS leW leS out) (fun (r : Int32) (u : Ar × Ar × Ar × Ar × (Nat → Int64)) => Q r u) (fun u => wHB γ ad o seen cnt pwc par u.1 held clos seW u.2.1 u.2.2.1 u.2.2.2.1 u.2.2.2.2) := startH (by decide +kernel) (Nat.le_of_ble_eq_true rfl) (fun κ C RT hR hT => by
  show G l γ κ (wHB γ ad o seen cnt pwc par amt held clos seW seS leW leS out) [(0, .ref (ad 0)), (1, .int x1), (2, .int x2), (3, .int x3), (4, .ref o)] 0 0 [] 0
  refine g_aload (pc' := 2) C dL_spreadYear_0 rfl rfl ?_
  refine g_iconst (pc' := 3) (v := (0 : Int32)) C dL_spreadYear_2 rfl (by decide) ?_
  refine g_aload_n (pc' := 4) C dL_spreadYear_3 rfl rfl rfl ?_
  refine g_iload_n (pc' := 5) C dL_spreadYear_4 rfl rfl rfl ?_
  refine g_iload_n (pc' := 6) C dL_spreadYear_5 rfl rfl rfl ?_
  refine g_iload_n (pc' := 7) C dL_spreadYear_6 rfl rfl rfl ?_
  rcases hv with hv | hv
  · refine cfX C (run_VX (rest := [.int (0 : Int32), .ref o]) C lk_L_37 (mtzX3_spreadYear hfl hv) ⟨by decide, by decide⟩ rfl rfl rfl rfl (Nat.le_of_ble_eq_true rfl) ⟨hR.1, hR.2⟩ dL_spreadYear_7) [0, 1, 2, 3, 4, 5, 6, 7, 8, 9, 10, 11, 12] [13] [1, 2, 3, 4, 5, 6, 7, 8, 9, 10, 11, 12, 13, 0] nd_HB di_HB (fun u7 => wHB γ ad o seen cnt pwc par u7.1 held clos seW u7.2.1 u7.2.2.1 u7.2.2.2 out) rfl rfl (fun _ => rfl) (fun E u7 hx => ?_)
    rcases hx with ⟨rfl, hv⟩ | ⟨rfl, hv⟩ | ⟨rfl, hv⟩
    · exact ⟨[], ⟨0, 12, 15, 13⟩, [⟨0, 12, 19, 24⟩, ⟨0, 12, 23, 15⟩], hT.trans rfl, ps0, rfl, by decide, cl_L_13, by simp [exW], fun q9 => by
        refine g_astore (pc' := 17) (lv' := [(5, .ref q9), (0, .ref (ad 0)), (1, .int x1), (2, .int x2), (3, .int x3), (4, .ref o)]) C dL_spreadYear_15 rfl (by decide) rfl ?_
        refine g_iconst (pc' := 18) (v := (1 : Int32)) C dL_spreadYear_17 rfl (by decide) ?_
        exact RT (1 : Int32) (u7.1, u7.2.1, u7.2.2.1, u7.2.2.2, out) _ _ _ _ dL_spreadYear_18 rfl (by decide) (by decide) hv⟩
    · exact ⟨[⟨0, 12, 15, 13⟩], ⟨0, 12, 19, 24⟩, [⟨0, 12, 23, 15⟩], hT.trans rfl, (ps1 ⟨by decide, eIO, cl_L_13, by simp [exN]⟩), rfl, by decide, cl_L_24, by simp [exW], fun q9 => by
        refine g_astore (pc' := 21) (lv' := [(5, .ref q9), (0, .ref (ad 0)), (1, .int x1), (2, .int x2), (3, .int x3), (4, .ref o)]) C dL_spreadYear_19 rfl (by decide) rfl ?_
        refine g_iconst (pc' := 22) (v := (2 : Int32)) C dL_spreadYear_21 rfl (by decide) ?_
        exact RT (2 : Int32) (u7.1, u7.2.1, u7.2.2.1, u7.2.2.2, out) _ _ _ _ dL_spreadYear_22 rfl (by decide) (by decide) hv⟩
    · exact ⟨[⟨0, 12, 15, 13⟩, ⟨0, 12, 19, 24⟩], ⟨0, 12, 23, 15⟩, [], hT.trans rfl, (ps2 ⟨by decide, eIO, cl_L_13, by simp [exN]⟩ ⟨by decide, eIA, cl_L_24, by simp [exN]⟩), rfl, by decide, cl_L_15, by simp [exW], fun q9 => by
        refine g_astore (pc' := 25) (lv' := [(5, .ref q9), (0, .ref (ad 0)), (1, .int x1), (2, .int x2), (3, .int x3), (4, .ref o)]) C dL_spreadYear_23 rfl (by decide) rfl ?_
        refine g_iconst (pc' := 26) (v := (3 : Int32)) C dL_spreadYear_25 rfl (by decide) ?_
        exact RT (3 : Int32) (u7.1, u7.2.1, u7.2.2.1, u7.2.2.2, out) _ _ _ _ dL_spreadYear_26 rfl (by decide) (by decide) hv⟩
  · refine cfI (pc' := 10) C (run_VI (rest := [.int (0 : Int32), .ref o]) C lk_L_37 (mtX3_spreadYear hv) ⟨by decide, by decide⟩ rfl rfl rfl rfl (Nat.le_of_ble_eq_true rfl) ⟨Nat.zero_le _, Nat.zero_le _⟩ dL_spreadYear_7) rfl [0, 1, 2, 3, 4, 5, 6, 7, 8, 9, 10, 11, 12] [13] [1, 2, 3, 4, 5, 6, 7, 8, 9, 10, 11, 12, 13, 0] nd_HB di_HB (fun u7 => wHB γ ad o seen cnt pwc par u7.1 held clos seW u7.2.1 u7.2.2.1 u7.2.2.2 out) rfl rfl (fun _ => rfl) (fun r7 u7 hv => ?_)
    refine g_i2l (pc' := 11) C dL_spreadYear_10 rfl ?_
    obtain ⟨hi, hv⟩ := hv
    refine g_last (pc' := 12) (ws' := wHB γ ad o seen cnt pwc par u7.1 held clos seW u7.2.1 u7.2.2.1 u7.2.2.2 (vp_updL out (0 : Int32).toNatClampNeg r7.toInt64)) C dL_spreadYear_11 rfl 13 rfl hi rfl ?_
    refine g_goto (tgt := 27) C dL_spreadYear_12 (by decide) ?_
    refine g_iconst (pc' := 28) (v := (0 : Int32)) C dL_spreadYear_27 rfl (by decide) ?_
    exact RT (0 : Int32) (u7.1, u7.2.1, u7.2.2.1, u7.2.2.2, (vp_updL out (0 : Int32).toNatClampNeg r7.toInt64)) _ _ _ _ dL_spreadYear_28 rfl (by decide) (by decide) hv)
def vL_copy (amt : Ar) (clos : Ar) (out : (Nat → Int64)) (x1 : Int32) (x2 : Int32) (Q : Int32 → (Ar × (Nat → Int64)) → Prop) : Prop := ((zX3_copy amt clos x1 x2 (fun E u5 => (E = eIO ∧ (Q (1 : Int32) (u5, out))) ∨ (E = eIA ∧ (Q (2 : Int32) (u5, out))) ∨ (E = eIS ∧ (Q (3 : Int32) (u5, out))))) ∨ (vX3_copy amt clos x1 x2 (fun r5 u5 => (vp_in (0 : Int32) 1 ∧ (Q (0 : Int32) (u5, (vp_updL out (0 : Int32).toNatClampNeg r5.toInt64)))))))
set_option maxHeartbeats 4000000 in
set_option maxRecDepth 100000 in
theorem mtL_copy {l : Launch} (hfl : l.stackTraces = false) {γ : Gm} {ad : Nat → Nat} {o : Nat} {seen : Int32} {cnt : Int32} {pwc : Int32} {par : Ar} {amt : Ar} {held : Ar} {clos : Ar} {seW : Ar} {seS : Ar} {leW : Ar} {leS : Ar} {out : (Nat → Int64)} {x1 : Int32} {x2 : Int32} {Q : Int32 → (Ar × (Nat → Int64)) → Prop} (hv : vL_copy amt clos out x1 x2 Q) : CtH l γ yL_copy cL_copy 5 .int [(0, 10, 13, 13), (0, 10, 17, 24), (0, 10, 21, 15)] 8 124 [.ref (ad 0), .int x1, .int x2, .ref o] (wHB γ ad o seen cnt pwc par amt held clos seW seS leW leS out) (fun (r : Int32) (u : Ar × (Nat → Int64)) => Q r u) (fun u => wHB γ ad o seen cnt pwc par u.1 held clos seW seS leW leS u.2) := startH (by decide +kernel) (Nat.le_of_ble_eq_true rfl) (fun κ C RT hR hT => by
  show G l γ κ (wHB γ ad o seen cnt pwc par amt held clos seW seS leW leS out) [(0, .ref (ad 0)), (1, .int x1), (2, .int x2), (3, .ref o)] 0 0 [] 0
  refine g_aload_n (pc' := 1) C dL_copy_0 rfl rfl rfl ?_
  refine g_iconst (pc' := 2) (v := (0 : Int32)) C dL_copy_1 rfl (by decide) ?_
  refine g_aload_n (pc' := 3) C dL_copy_2 rfl rfl rfl ?_
  refine g_iload_n (pc' := 4) C dL_copy_3 rfl rfl rfl ?_
  refine g_iload_n (pc' := 5) C dL_copy_4 rfl rfl rfl ?_
  rcases hv with hv | hv
  · refine cfX C (run_VX (rest := [.int (0 : Int32), .ref o]) C lk_L_41 (mtzX3_copy hfl hv) ⟨by decide, by decide⟩ rfl rfl rfl rfl (Nat.le_of_ble_eq_true rfl) ⟨hR.1, hR.2⟩ dL_copy_5) [0, 1, 2, 3, 4, 5, 6, 7, 8, 9, 10, 11, 12] [13] [1, 2, 3, 4, 5, 6, 7, 8, 9, 10, 11, 12, 13, 0] nd_HB di_HB (fun u5 => wHB γ ad o seen cnt pwc par u5 held clos seW seS leW leS out) rfl rfl (fun _ => rfl) (fun E u5 hx => ?_)
    rcases hx with ⟨rfl, hv⟩ | ⟨rfl, hv⟩ | ⟨rfl, hv⟩
    · exact ⟨[], ⟨0, 10, 13, 13⟩, [⟨0, 10, 17, 24⟩, ⟨0, 10, 21, 15⟩], hT.trans rfl, ps0, rfl, by decide, cl_L_13, by simp [exW], fun q9 => by
        refine g_astore (pc' := 15) (lv' := [(4, .ref q9), (0, .ref (ad 0)), (1, .int x1), (2, .int x2), (3, .ref o)]) C dL_copy_13 rfl (by decide) rfl ?_
        refine g_iconst (pc' := 16) (v := (1 : Int32)) C dL_copy_15 rfl (by decide) ?_
        exact RT (1 : Int32) (u5, out) _ _ _ _ dL_copy_16 rfl (by decide) (by decide) hv⟩
    · exact ⟨[⟨0, 10, 13, 13⟩], ⟨0, 10, 17, 24⟩, [⟨0, 10, 21, 15⟩], hT.trans rfl, (ps1 ⟨by decide, eIO, cl_L_13, by simp [exN]⟩), rfl, by decide, cl_L_24, by simp [exW], fun q9 => by
        refine g_astore (pc' := 19) (lv' := [(4, .ref q9), (0, .ref (ad 0)), (1, .int x1), (2, .int x2), (3, .ref o)]) C dL_copy_17 rfl (by decide) rfl ?_
        refine g_iconst (pc' := 20) (v := (2 : Int32)) C dL_copy_19 rfl (by decide) ?_
        exact RT (2 : Int32) (u5, out) _ _ _ _ dL_copy_20 rfl (by decide) (by decide) hv⟩
    · exact ⟨[⟨0, 10, 13, 13⟩, ⟨0, 10, 17, 24⟩], ⟨0, 10, 21, 15⟩, [], hT.trans rfl, (ps2 ⟨by decide, eIO, cl_L_13, by simp [exN]⟩ ⟨by decide, eIA, cl_L_24, by simp [exN]⟩), rfl, by decide, cl_L_15, by simp [exW], fun q9 => by
        refine g_astore (pc' := 23) (lv' := [(4, .ref q9), (0, .ref (ad 0)), (1, .int x1), (2, .int x2), (3, .ref o)]) C dL_copy_21 rfl (by decide) rfl ?_
        refine g_iconst (pc' := 24) (v := (3 : Int32)) C dL_copy_23 rfl (by decide) ?_
        exact RT (3 : Int32) (u5, out) _ _ _ _ dL_copy_24 rfl (by decide) (by decide) hv⟩
  · refine cfI (pc' := 8) C (run_VI (rest := [.int (0 : Int32), .ref o]) C lk_L_41 (mtX3_copy hv) ⟨by decide, by decide⟩ rfl rfl rfl rfl (Nat.le_of_ble_eq_true rfl) ⟨Nat.zero_le _, Nat.zero_le _⟩ dL_copy_5) rfl [0, 1, 2, 3, 4, 5, 6, 7, 8, 9, 10, 11, 12] [13] [1, 2, 3, 4, 5, 6, 7, 8, 9, 10, 11, 12, 13, 0] nd_HB di_HB (fun u5 => wHB γ ad o seen cnt pwc par u5 held clos seW seS leW leS out) rfl rfl (fun _ => rfl) (fun r5 u5 hv => ?_)
    refine g_i2l (pc' := 9) C dL_copy_8 rfl ?_
    obtain ⟨hi, hv⟩ := hv
    refine g_last (pc' := 10) (ws' := wHB γ ad o seen cnt pwc par u5 held clos seW seS leW leS (vp_updL out (0 : Int32).toNatClampNeg r5.toInt64)) C dL_copy_9 rfl 13 rfl hi rfl ?_
    refine g_goto (tgt := 25) C dL_copy_10 (by decide) ?_
    refine g_iconst (pc' := 26) (v := (0 : Int32)) C dL_copy_25 rfl (by decide) ?_
    exact RT (0 : Int32) (u5, (vp_updL out (0 : Int32).toNatClampNeg r5.toInt64)) _ _ _ _ dL_copy_26 rfl (by decide) (by decide) hv)
def vL_handIn (cnt : Int32) (pwc : Int32) (par : Ar) (clos : Ar) (out : (Nat → Int64)) (x1 : Int32) (x2 : Int32) (Q : Int32 → (Ar × (Nat → Int64)) → Prop) : Prop := ((zX3_handIn cnt pwc par clos x1 x2 (fun E u5 => (E = eIO ∧ (Q (1 : Int32) (u5, out))))) ∨ (vX3_handIn cnt pwc par clos x1 x2 (fun r5 u5 => (vp_in (0 : Int32) 1 ∧ (Q (0 : Int32) (u5, (vp_updL out (0 : Int32).toNatClampNeg r5.toInt64)))))))
set_option maxHeartbeats 4000000 in
set_option maxRecDepth 100000 in
theorem mtL_handIn {l : Launch} (hfl : l.stackTraces = false) {γ : Gm} {ad : Nat → Nat} {o : Nat} {seen : Int32} {cnt : Int32} {pwc : Int32} {par : Ar} {amt : Ar} {held : Ar} {clos : Ar} {seW : Ar} {seS : Ar} {leW : Ar} {leS : Ar} {out : (Nat → Int64)} {x1 : Int32} {x2 : Int32} {Q : Int32 → (Ar × (Nat → Int64)) → Prop} (hv : vL_handIn cnt pwc par clos out x1 x2 Q) : CtH l γ yL_handIn cL_handIn 5 .int [(0, 10, 13, 13)] 8 126 [.ref (ad 0), .int x1, .int x2, .ref o] (wHB γ ad o seen cnt pwc par amt held clos seW seS leW leS out) (fun (r : Int32) (u : Ar × (Nat → Int64)) => Q r u) (fun u => wHB γ ad o seen cnt pwc par amt held u.1 seW seS leW leS u.2) := startH (by decide +kernel) (Nat.le_of_ble_eq_true rfl) (fun κ C RT hR hT => by
  show G l γ κ (wHB γ ad o seen cnt pwc par amt held clos seW seS leW leS out) [(0, .ref (ad 0)), (1, .int x1), (2, .int x2), (3, .ref o)] 0 0 [] 0
  refine g_aload_n (pc' := 1) C dL_handIn_0 rfl rfl rfl ?_
  refine g_iconst (pc' := 2) (v := (0 : Int32)) C dL_handIn_1 rfl (by decide) ?_
  refine g_aload_n (pc' := 3) C dL_handIn_2 rfl rfl rfl ?_
  refine g_iload_n (pc' := 4) C dL_handIn_3 rfl rfl rfl ?_
  refine g_iload_n (pc' := 5) C dL_handIn_4 rfl rfl rfl ?_
  rcases hv with hv | hv
  · refine cfX C (run_VX (rest := [.int (0 : Int32), .ref o]) C lk_L_44 (mtzX3_handIn hfl hv) ⟨by decide, by decide⟩ rfl rfl rfl rfl (Nat.le_of_ble_eq_true rfl) ⟨hR.1, hR.2⟩ dL_handIn_5) [0, 1, 2, 3, 4, 5, 6, 7, 8, 9, 10, 11, 12] [13] [1, 2, 3, 4, 5, 6, 7, 8, 9, 10, 11, 12, 13, 0] nd_HB di_HB (fun u5 => wHB γ ad o seen cnt pwc par amt held u5 seW seS leW leS out) rfl rfl (fun _ => rfl) (fun E u5 hx => ?_)
    rcases hx with ⟨rfl, hv⟩
    · exact ⟨[], ⟨0, 10, 13, 13⟩, [], hT.trans rfl, ps0, rfl, by decide, cl_L_13, by simp [exW], fun q9 => by
        refine g_astore (pc' := 15) (lv' := [(4, .ref q9), (0, .ref (ad 0)), (1, .int x1), (2, .int x2), (3, .ref o)]) C dL_handIn_13 rfl (by decide) rfl ?_
        refine g_iconst (pc' := 16) (v := (1 : Int32)) C dL_handIn_15 rfl (by decide) ?_
        exact RT (1 : Int32) (u5, out) _ _ _ _ dL_handIn_16 rfl (by decide) (by decide) hv⟩
  · refine cfI (pc' := 8) C (run_VI (rest := [.int (0 : Int32), .ref o]) C lk_L_44 (mtX3_handIn hv) ⟨by decide, by decide⟩ rfl rfl rfl rfl (Nat.le_of_ble_eq_true rfl) ⟨Nat.zero_le _, Nat.zero_le _⟩ dL_handIn_5) rfl [0, 1, 2, 3, 4, 5, 6, 7, 8, 9, 10, 11, 12] [13] [1, 2, 3, 4, 5, 6, 7, 8, 9, 10, 11, 12, 13, 0] nd_HB di_HB (fun u5 => wHB γ ad o seen cnt pwc par amt held u5 seW seS leW leS out) rfl rfl (fun _ => rfl) (fun r5 u5 hv => ?_)
    refine g_i2l (pc' := 9) C dL_handIn_8 rfl ?_
    obtain ⟨hi, hv⟩ := hv
    refine g_last (pc' := 10) (ws' := wHB γ ad o seen cnt pwc par amt held u5 seW seS leW leS (vp_updL out (0 : Int32).toNatClampNeg r5.toInt64)) C dL_handIn_9 rfl 13 rfl hi rfl ?_
    refine g_goto (tgt := 17) C dL_handIn_10 (by decide) ?_
    refine g_iconst (pc' := 18) (v := (0 : Int32)) C dL_handIn_17 rfl (by decide) ?_
    exact RT (0 : Int32) (u5, (vp_updL out (0 : Int32).toNatClampNeg r5.toInt64)) _ _ _ _ dL_handIn_18 rfl (by decide) (by decide) hv)
def vL_takeBack (cnt : Int32) (pwc : Int32) (par : Ar) (clos : Ar) (out : (Nat → Int64)) (x1 : Int32) (x2 : Int32) (Q : Int32 → (Ar × (Nat → Int64)) → Prop) : Prop := ((zX3_takeBack cnt pwc par clos x1 x2 (fun E u5 => (E = eIO ∧ (Q (1 : Int32) (u5, out))))) ∨ (vX3_takeBack cnt pwc par clos x1 x2 (fun r5 u5 => (vp_in (0 : Int32) 1 ∧ (Q (0 : Int32) (u5, (vp_updL out (0 : Int32).toNatClampNeg r5.toInt64)))))))
set_option maxHeartbeats 4000000 in
set_option maxRecDepth 100000 in
theorem mtL_takeBack {l : Launch} (hfl : l.stackTraces = false) {γ : Gm} {ad : Nat → Nat} {o : Nat} {seen : Int32} {cnt : Int32} {pwc : Int32} {par : Ar} {amt : Ar} {held : Ar} {clos : Ar} {seW : Ar} {seS : Ar} {leW : Ar} {leS : Ar} {out : (Nat → Int64)} {x1 : Int32} {x2 : Int32} {Q : Int32 → (Ar × (Nat → Int64)) → Prop} (hv : vL_takeBack cnt pwc par clos out x1 x2 Q) : CtH l γ yL_takeBack cL_takeBack 5 .int [(0, 10, 13, 13)] 8 126 [.ref (ad 0), .int x1, .int x2, .ref o] (wHB γ ad o seen cnt pwc par amt held clos seW seS leW leS out) (fun (r : Int32) (u : Ar × (Nat → Int64)) => Q r u) (fun u => wHB γ ad o seen cnt pwc par amt held u.1 seW seS leW leS u.2) := startH (by decide +kernel) (Nat.le_of_ble_eq_true rfl) (fun κ C RT hR hT => by
  show G l γ κ (wHB γ ad o seen cnt pwc par amt held clos seW seS leW leS out) [(0, .ref (ad 0)), (1, .int x1), (2, .int x2), (3, .ref o)] 0 0 [] 0
  refine g_aload_n (pc' := 1) C dL_takeBack_0 rfl rfl rfl ?_
  refine g_iconst (pc' := 2) (v := (0 : Int32)) C dL_takeBack_1 rfl (by decide) ?_
  refine g_aload_n (pc' := 3) C dL_takeBack_2 rfl rfl rfl ?_
  refine g_iload_n (pc' := 4) C dL_takeBack_3 rfl rfl rfl ?_
  refine g_iload_n (pc' := 5) C dL_takeBack_4 rfl rfl rfl ?_
  rcases hv with hv | hv
  · refine cfX C (run_VX (rest := [.int (0 : Int32), .ref o]) C lk_L_47 (mtzX3_takeBack hfl hv) ⟨by decide, by decide⟩ rfl rfl rfl rfl (Nat.le_of_ble_eq_true rfl) ⟨hR.1, hR.2⟩ dL_takeBack_5) [0, 1, 2, 3, 4, 5, 6, 7, 8, 9, 10, 11, 12] [13] [1, 2, 3, 4, 5, 6, 7, 8, 9, 10, 11, 12, 13, 0] nd_HB di_HB (fun u5 => wHB γ ad o seen cnt pwc par amt held u5 seW seS leW leS out) rfl rfl (fun _ => rfl) (fun E u5 hx => ?_)
    rcases hx with ⟨rfl, hv⟩
    · exact ⟨[], ⟨0, 10, 13, 13⟩, [], hT.trans rfl, ps0, rfl, by decide, cl_L_13, by simp [exW], fun q9 => by
        refine g_astore (pc' := 15) (lv' := [(4, .ref q9), (0, .ref (ad 0)), (1, .int x1), (2, .int x2), (3, .ref o)]) C dL_takeBack_13 rfl (by decide) rfl ?_
        refine g_iconst (pc' := 16) (v := (1 : Int32)) C dL_takeBack_15 rfl (by decide) ?_
        exact RT (1 : Int32) (u5, out) _ _ _ _ dL_takeBack_16 rfl (by decide) (by decide) hv⟩
  · refine cfI (pc' := 8) C (run_VI (rest := [.int (0 : Int32), .ref o]) C lk_L_47 (mtX3_takeBack hv) ⟨by decide, by decide⟩ rfl rfl rfl rfl (Nat.le_of_ble_eq_true rfl) ⟨Nat.zero_le _, Nat.zero_le _⟩ dL_takeBack_5) rfl [0, 1, 2, 3, 4, 5, 6, 7, 8, 9, 10, 11, 12] [13] [1, 2, 3, 4, 5, 6, 7, 8, 9, 10, 11, 12, 13, 0] nd_HB di_HB (fun u5 => wHB γ ad o seen cnt pwc par amt held u5 seW seS leW leS out) rfl rfl (fun _ => rfl) (fun r5 u5 hv => ?_)
    refine g_i2l (pc' := 9) C dL_takeBack_8 rfl ?_
    obtain ⟨hi, hv⟩ := hv
    refine g_last (pc' := 10) (ws' := wHB γ ad o seen cnt pwc par amt held u5 seW seS leW leS (vp_updL out (0 : Int32).toNatClampNeg r5.toInt64)) C dL_takeBack_9 rfl 13 rfl hi rfl ?_
    refine g_goto (tgt := 17) C dL_takeBack_10 (by decide) ?_
    refine g_iconst (pc' := 18) (v := (0 : Int32)) C dL_takeBack_17 rfl (by decide) ?_
    exact RT (0 : Int32) (u5, (vp_updL out (0 : Int32).toNatClampNeg r5.toInt64)) _ _ _ _ dL_takeBack_18 rfl (by decide) (by decide) hv)
def vL_see (cnt : Int32) (pwc : Int32) (amt : Ar) (out : (Nat → Int64)) (x1 : Int32) (x2 : Int32) (x3 : Int32) (x4 : Int32) (Q : Int32 → (Ar × (Nat → Int64)) → Prop) : Prop := ((zX3_see cnt pwc amt x1 x2 x3 x4 (fun E u9 => (E = eIO ∧ (Q (1 : Int32) (u9, out))) ∨ (E = eIA ∧ (Q (2 : Int32) (u9, out))) ∨ (E = eIS ∧ (Q (3 : Int32) (u9, out))))) ∨ (vX3_see cnt pwc amt x1 x2 x3 x4 (fun r9 u9 => (vp_in (0 : Int32) 1 ∧ (Q (0 : Int32) (u9, (vp_updL out (0 : Int32).toNatClampNeg r9.toInt64)))))))
set_option maxHeartbeats 4000000 in
set_option maxRecDepth 100000 in
theorem mtL_see {l : Launch} (hfl : l.stackTraces = false) {γ : Gm} {ad : Nat → Nat} {o : Nat} {seen : Int32} {cnt : Int32} {pwc : Int32} {par : Ar} {amt : Ar} {held : Ar} {clos : Ar} {seW : Ar} {seS : Ar} {leW : Ar} {leS : Ar} {out : (Nat → Int64)} {x1 : Int32} {x2 : Int32} {x3 : Int32} {x4 : Int32} {Q : Int32 → (Ar × (Nat → Int64)) → Prop} (hv : vL_see cnt pwc amt out x1 x2 x3 x4 Q) : CtH l γ yL_see cL_see 7 .int [(0, 14, 17, 13), (0, 14, 21, 24), (0, 14, 25, 15)] 8 127 [.ref (ad 0), .int x1, .int x2, .int x3, .int x4, .ref o] (wHB γ ad o seen cnt pwc par amt held clos seW seS leW leS out) (fun (r : Int32) (u : Ar × (Nat → Int64)) => Q r u) (fun u => wHB γ ad o seen cnt pwc par u.1 held clos seW seS leW leS u.2) := startH (by decide +kernel) (Nat.le_of_ble_eq_true rfl) (fun κ C RT hR hT => by
  show G l γ κ (wHB γ ad o seen cnt pwc par amt held clos seW seS leW leS out) [(0, .ref (ad 0)), (1, .int x1), (2, .int x2), (3, .int x3), (4, .int x4), (5, .ref o)] 0 0 [] 0
  refine g_aload (pc' := 2) C dL_see_0 rfl rfl ?_
  refine g_iconst (pc' := 3) (v := (0 : Int32)) C dL_see_2 rfl (by decide) ?_
  refine g_aload_n (pc' := 4) C dL_see_3 rfl rfl rfl ?_
  refine g_iload_n (pc' := 5) C dL_see_4 rfl rfl rfl ?_
  refine g_iload_n (pc' := 6) C dL_see_5 rfl rfl rfl ?_
  refine g_iload_n (pc' := 7) C dL_see_6 rfl rfl rfl ?_
  refine g_iload (pc' := 9) C dL_see_7 rfl rfl ?_
  rcases hv with hv | hv
  · refine cfX C (run_VX (rest := [.int (0 : Int32), .ref o]) C lk_L_50 (mtzX3_see hfl hv) ⟨by decide, by decide⟩ rfl rfl rfl rfl (Nat.le_of_ble_eq_true rfl) ⟨hR.1, hR.2⟩ dL_see_9) [0, 1, 2, 3, 4, 5, 6, 7, 8, 9, 10, 11, 12] [13] [1, 2, 3, 4, 5, 6, 7, 8, 9, 10, 11, 12, 13, 0] nd_HB di_HB (fun u9 => wHB γ ad o seen cnt pwc par u9 held clos seW seS leW leS out) rfl rfl (fun _ => rfl) (fun E u9 hx => ?_)
    rcases hx with ⟨rfl, hv⟩ | ⟨rfl, hv⟩ | ⟨rfl, hv⟩
    · exact ⟨[], ⟨0, 14, 17, 13⟩, [⟨0, 14, 21, 24⟩, ⟨0, 14, 25, 15⟩], hT.trans rfl, ps0, rfl, by decide, cl_L_13, by simp [exW], fun q9 => by
        refine g_astore (pc' := 19) (lv' := [(6, .ref q9), (0, .ref (ad 0)), (1, .int x1), (2, .int x2), (3, .int x3), (4, .int x4), (5, .ref o)]) C dL_see_17 rfl (by decide) rfl ?_
        refine g_iconst (pc' := 20) (v := (1 : Int32)) C dL_see_19 rfl (by decide) ?_
        exact RT (1 : Int32) (u9, out) _ _ _ _ dL_see_20 rfl (by decide) (by decide) hv⟩
    · exact ⟨[⟨0, 14, 17, 13⟩], ⟨0, 14, 21, 24⟩, [⟨0, 14, 25, 15⟩], hT.trans rfl, (ps1 ⟨by decide, eIO, cl_L_13, by simp [exN]⟩), rfl, by decide, cl_L_24, by simp [exW], fun q9 => by
        refine g_astore (pc' := 23) (lv' := [(6, .ref q9), (0, .ref (ad 0)), (1, .int x1), (2, .int x2), (3, .int x3), (4, .int x4), (5, .ref o)]) C dL_see_21 rfl (by decide) rfl ?_
        refine g_iconst (pc' := 24) (v := (2 : Int32)) C dL_see_23 rfl (by decide) ?_
        exact RT (2 : Int32) (u9, out) _ _ _ _ dL_see_24 rfl (by decide) (by decide) hv⟩
    · exact ⟨[⟨0, 14, 17, 13⟩, ⟨0, 14, 21, 24⟩], ⟨0, 14, 25, 15⟩, [], hT.trans rfl, (ps2 ⟨by decide, eIO, cl_L_13, by simp [exN]⟩ ⟨by decide, eIA, cl_L_24, by simp [exN]⟩), rfl, by decide, cl_L_15, by simp [exW], fun q9 => by
        refine g_astore (pc' := 27) (lv' := [(6, .ref q9), (0, .ref (ad 0)), (1, .int x1), (2, .int x2), (3, .int x3), (4, .int x4), (5, .ref o)]) C dL_see_25 rfl (by decide) rfl ?_
        refine g_iconst (pc' := 28) (v := (3 : Int32)) C dL_see_27 rfl (by decide) ?_
        exact RT (3 : Int32) (u9, out) _ _ _ _ dL_see_28 rfl (by decide) (by decide) hv⟩
  · refine cfI (pc' := 12) C (run_VI (rest := [.int (0 : Int32), .ref o]) C lk_L_50 (mtX3_see hv) ⟨by decide, by decide⟩ rfl rfl rfl rfl (Nat.le_of_ble_eq_true rfl) ⟨Nat.zero_le _, Nat.zero_le _⟩ dL_see_9) rfl [0, 1, 2, 3, 4, 5, 6, 7, 8, 9, 10, 11, 12] [13] [1, 2, 3, 4, 5, 6, 7, 8, 9, 10, 11, 12, 13, 0] nd_HB di_HB (fun u9 => wHB γ ad o seen cnt pwc par u9 held clos seW seS leW leS out) rfl rfl (fun _ => rfl) (fun r9 u9 hv => ?_)
    refine g_i2l (pc' := 13) C dL_see_12 rfl ?_
    obtain ⟨hi, hv⟩ := hv
    refine g_last (pc' := 14) (ws' := wHB γ ad o seen cnt pwc par u9 held clos seW seS leW leS (vp_updL out (0 : Int32).toNatClampNeg r9.toInt64)) C dL_see_13 rfl 13 rfl hi rfl ?_
    refine g_goto (tgt := 29) C dL_see_14 (by decide) ?_
    refine g_iconst (pc' := 30) (v := (0 : Int32)) C dL_see_29 rfl (by decide) ?_
    exact RT (0 : Int32) (u9, (vp_updL out (0 : Int32).toNatClampNeg r9.toInt64)) _ _ _ _ dL_see_30 rfl (by decide) (by decide) hv)
def vL_closeMonth (seen : Int32) (out : (Nat → Int64)) (Q : Int32 → (Int32 × (Nat → Int64)) → Prop) : Prop := ((zX3_closeMonth seen (fun E u3 => (E = eIS ∧ (Q (1 : Int32) (u3, out))))) ∨ (vX3_closeMonth seen (fun r3 u3 => (vp_in (0 : Int32) 1 ∧ (Q (0 : Int32) (u3, (vp_updL out (0 : Int32).toNatClampNeg r3.toInt64)))))))
set_option maxHeartbeats 4000000 in
set_option maxRecDepth 100000 in
theorem mtL_closeMonth {l : Launch} (hfl : l.stackTraces = false) {γ : Gm} {ad : Nat → Nat} {o : Nat} {seen : Int32} {cnt : Int32} {pwc : Int32} {par : Ar} {amt : Ar} {held : Ar} {clos : Ar} {seW : Ar} {seS : Ar} {leW : Ar} {leS : Ar} {out : (Nat → Int64)} {Q : Int32 → (Int32 × (Nat → Int64)) → Prop} (hv : vL_closeMonth seen out Q) : CtH l γ yL_closeMonth cL_closeMonth 3 .int [(0, 8, 11, 15)] 7 102 [.ref (ad 0), .ref o] (wHB γ ad o seen cnt pwc par amt held clos seW seS leW leS out) (fun (r : Int32) (u : Int32 × (Nat → Int64)) => Q r u) (fun u => wHB γ ad o u.1 cnt pwc par amt held clos seW seS leW leS u.2) := startH (by decide +kernel) (Nat.le_of_ble_eq_true rfl) (fun κ C RT hR hT => by
  show G l γ κ (wHB γ ad o seen cnt pwc par amt held clos seW seS leW leS out) [(0, .ref (ad 0)), (1, .ref o)] 0 0 [] 0
  refine g_aload_n (pc' := 1) C dL_closeMonth_0 rfl rfl rfl ?_
  refine g_iconst (pc' := 2) (v := (0 : Int32)) C dL_closeMonth_1 rfl (by decide) ?_
  refine g_aload_n (pc' := 3) C dL_closeMonth_2 rfl rfl rfl ?_
  rcases hv with hv | hv
  · refine cfX C (run_VX (rest := [.int (0 : Int32), .ref o]) C lk_L_54 (mtzX3_closeMonth hfl hv) ⟨by decide, by decide⟩ rfl rfl rfl rfl (Nat.le_of_ble_eq_true rfl) ⟨hR.1, hR.2⟩ dL_closeMonth_3) [0, 1, 2, 3, 4, 5, 6, 7, 8, 9, 10, 11, 12] [13] [1, 2, 3, 4, 5, 6, 7, 8, 9, 10, 11, 12, 13, 0] nd_HB di_HB (fun u3 => wHB γ ad o u3 cnt pwc par amt held clos seW seS leW leS out) rfl rfl (fun _ => rfl) (fun E u3 hx => ?_)
    rcases hx with ⟨rfl, hv⟩
    · exact ⟨[], ⟨0, 8, 11, 15⟩, [], hT.trans rfl, ps0, rfl, by decide, cl_L_15, by simp [exW], fun q9 => by
        refine g_astore_n (pc' := 12) (lv' := [(2, .ref q9), (0, .ref (ad 0)), (1, .ref o)]) C dL_closeMonth_11 rfl rfl (by decide) rfl ?_
        refine g_iconst (pc' := 13) (v := (1 : Int32)) C dL_closeMonth_12 rfl (by decide) ?_
        exact RT (1 : Int32) (u3, out) _ _ _ _ dL_closeMonth_13 rfl (by decide) (by decide) hv⟩
  · refine cfI (pc' := 6) C (run_VI (rest := [.int (0 : Int32), .ref o]) C lk_L_54 (mtX3_closeMonth hv) ⟨by decide, by decide⟩ rfl rfl rfl rfl (Nat.le_of_ble_eq_true rfl) ⟨Nat.zero_le _, Nat.zero_le _⟩ dL_closeMonth_3) rfl [0, 1, 2, 3, 4, 5, 6, 7, 8, 9, 10, 11, 12] [13] [1, 2, 3, 4, 5, 6, 7, 8, 9, 10, 11, 12, 13, 0] nd_HB di_HB (fun u3 => wHB γ ad o u3 cnt pwc par amt held clos seW seS leW leS out) rfl rfl (fun _ => rfl) (fun r3 u3 hv => ?_)
    refine g_i2l (pc' := 7) C dL_closeMonth_6 rfl ?_
    obtain ⟨hi, hv⟩ := hv
    refine g_last (pc' := 8) (ws' := wHB γ ad o u3 cnt pwc par amt held clos seW seS leW leS (vp_updL out (0 : Int32).toNatClampNeg r3.toInt64)) C dL_closeMonth_7 rfl 13 rfl hi rfl ?_
    refine g_goto (tgt := 14) C dL_closeMonth_8 (by decide) ?_
    refine g_iconst (pc' := 15) (v := (0 : Int32)) C dL_closeMonth_14 rfl (by decide) ?_
    exact RT (0 : Int32) (u3, (vp_updL out (0 : Int32).toNatClampNeg r3.toInt64)) _ _ _ _ dL_closeMonth_15 rfl (by decide) (by decide) hv)
def vL_amount (cnt : Int32) (pwc : Int32) (par : Ar) (amt : Ar) (out : (Nat → Int64)) (x1 : Int32) (x2 : Int32) (x3 : Int32) (x4 : Int32) (Q : Int32 → ((Nat → Int64)) → Prop) : Prop := ((zX3_amount cnt pwc par amt x1 x2 x3 x4 (fun E => (E = eIO ∧ (Q (1 : Int32) out)))) ∨ (vX3_amount cnt pwc par amt x1 x2 x3 x4 (fun r9 => (vp_in (0 : Int32) 1 ∧ (Q (0 : Int32) (vp_updL out (0 : Int32).toNatClampNeg r9.toInt64))))))
set_option maxHeartbeats 4000000 in
set_option maxRecDepth 100000 in
theorem mtL_amount {l : Launch} (hfl : l.stackTraces = false) {γ : Gm} {ad : Nat → Nat} {o : Nat} {seen : Int32} {cnt : Int32} {pwc : Int32} {par : Ar} {amt : Ar} {held : Ar} {clos : Ar} {seW : Ar} {seS : Ar} {leW : Ar} {leS : Ar} {out : (Nat → Int64)} {x1 : Int32} {x2 : Int32} {x3 : Int32} {x4 : Int32} {Q : Int32 → ((Nat → Int64)) → Prop} (hv : vL_amount cnt pwc par amt out x1 x2 x3 x4 Q) : CtH l γ yL_amount cL_amount 7 .int [(0, 14, 17, 13)] 8 127 [.ref (ad 0), .int x1, .int x2, .int x3, .int x4, .ref o] (wHB γ ad o seen cnt pwc par amt held clos seW seS leW leS out) (fun (r : Int32) (u : (Nat → Int64)) => Q r u) (fun u => wHB γ ad o seen cnt pwc par amt held clos seW seS leW leS u) := startH (by decide +kernel) (Nat.le_of_ble_eq_true rfl) (fun κ C RT hR hT => by
  show G l γ κ (wHB γ ad o seen cnt pwc par amt held clos seW seS leW leS out) [(0, .ref (ad 0)), (1, .int x1), (2, .int x2), (3, .int x3), (4, .int x4), (5, .ref o)] 0 0 [] 0
  refine g_aload (pc' := 2) C dL_amount_0 rfl rfl ?_
  refine g_iconst (pc' := 3) (v := (0 : Int32)) C dL_amount_2 rfl (by decide) ?_
  refine g_aload_n (pc' := 4) C dL_amount_3 rfl rfl rfl ?_
  refine g_iload_n (pc' := 5) C dL_amount_4 rfl rfl rfl ?_
  refine g_iload_n (pc' := 6) C dL_amount_5 rfl rfl rfl ?_
  refine g_iload_n (pc' := 7) C dL_amount_6 rfl rfl rfl ?_
  refine g_iload (pc' := 9) C dL_amount_7 rfl rfl ?_
  rcases hv with hv | hv
  · refine cfX C (run_VX (rest := [.int (0 : Int32), .ref o]) C lk_L_58 (mtzX3_amount hfl hv) ⟨by decide, by decide⟩ rfl rfl rfl rfl (Nat.le_of_ble_eq_true rfl) ⟨hR.1, hR.2⟩ dL_amount_9) [0, 1, 2, 3, 4, 5, 6, 7, 8, 9, 10, 11, 12] [13] [1, 2, 3, 4, 5, 6, 7, 8, 9, 10, 11, 12, 13, 0] nd_HB di_HB (fun u9 => wHB γ ad o seen cnt pwc par amt held clos seW seS leW leS out) rfl rfl (fun _ => rfl) (fun E u9 hx => ?_)
    rcases hx with ⟨rfl, hv⟩
    · exact ⟨[], ⟨0, 14, 17, 13⟩, [], hT.trans rfl, ps0, rfl, by decide, cl_L_13, by simp [exW], fun q9 => by
        refine g_astore (pc' := 19) (lv' := [(6, .ref q9), (0, .ref (ad 0)), (1, .int x1), (2, .int x2), (3, .int x3), (4, .int x4), (5, .ref o)]) C dL_amount_17 rfl (by decide) rfl ?_
        refine g_iconst (pc' := 20) (v := (1 : Int32)) C dL_amount_19 rfl (by decide) ?_
        exact RT (1 : Int32) out _ _ _ _ dL_amount_20 rfl (by decide) (by decide) hv⟩
  · refine cfI (pc' := 12) C (run_VI (rest := [.int (0 : Int32), .ref o]) C lk_L_58 (mtX3_amount hv) ⟨by decide, by decide⟩ rfl rfl rfl rfl (Nat.le_of_ble_eq_true rfl) ⟨Nat.zero_le _, Nat.zero_le _⟩ dL_amount_9) rfl [0, 1, 2, 3, 4, 5, 6, 7, 8, 9, 10, 11, 12] [13] [1, 2, 3, 4, 5, 6, 7, 8, 9, 10, 11, 12, 13, 0] nd_HB di_HB (fun u9 => wHB γ ad o seen cnt pwc par amt held clos seW seS leW leS out) rfl rfl (fun _ => rfl) (fun r9 u9 hv => ?_)
    refine g_i2l (pc' := 13) C dL_amount_12 rfl ?_
    obtain ⟨hi, hv⟩ := hv
    refine g_last (pc' := 14) (ws' := wHB γ ad o seen cnt pwc par amt held clos seW seS leW leS (vp_updL out (0 : Int32).toNatClampNeg r9.toInt64)) C dL_amount_13 rfl 13 rfl hi rfl ?_
    refine g_goto (tgt := 21) C dL_amount_14 (by decide) ?_
    refine g_iconst (pc' := 22) (v := (0 : Int32)) C dL_amount_21 rfl (by decide) ?_
    exact RT (0 : Int32) (vp_updL out (0 : Int32).toNatClampNeg r9.toInt64) _ _ _ _ dL_amount_22 rfl (by decide) (by decide) hv)
def vL_outlook (seen : Int32) (cnt : Int32) (pwc : Int32) (par : Ar) (amt : Ar) (out : (Nat → Int64)) (x1 : Int32) (x2 : Int32) (x3 : Int32) (x4 : Int32) (Q : Int32 → ((Nat → Int64)) → Prop) : Prop := ((zX3_outlook seen cnt pwc par amt x1 x2 x3 x4 (fun E => (E = eIO ∧ (Q (1 : Int32) out)))) ∨ (vX3_outlook seen cnt pwc par amt x1 x2 x3 x4 (fun r9 => (vp_in (0 : Int32) 1 ∧ (Q (0 : Int32) (vp_updL out (0 : Int32).toNatClampNeg r9.toInt64))))))
set_option maxHeartbeats 4000000 in
set_option maxRecDepth 100000 in
theorem mtL_outlook {l : Launch} (hfl : l.stackTraces = false) {γ : Gm} {ad : Nat → Nat} {o : Nat} {seen : Int32} {cnt : Int32} {pwc : Int32} {par : Ar} {amt : Ar} {held : Ar} {clos : Ar} {seW : Ar} {seS : Ar} {leW : Ar} {leS : Ar} {out : (Nat → Int64)} {x1 : Int32} {x2 : Int32} {x3 : Int32} {x4 : Int32} {Q : Int32 → ((Nat → Int64)) → Prop} (hv : vL_outlook seen cnt pwc par amt out x1 x2 x3 x4 Q) : CtH l γ yL_outlook cL_outlook 7 .int [(0, 14, 17, 13)] 8 128 [.ref (ad 0), .int x1, .int x2, .int x3, .int x4, .ref o] (wHB γ ad o seen cnt pwc par amt held clos seW seS leW leS out) (fun (r : Int32) (u : (Nat → Int64)) => Q r u) (fun u => wHB γ ad o seen cnt pwc par amt held clos seW seS leW leS u) := startH (by decide +kernel) (Nat.le_of_ble_eq_true rfl) (fun κ C RT hR hT => by
  show G l γ κ (wHB γ ad o seen cnt pwc par amt held clos seW seS leW leS out) [(0, .ref (ad 0)), (1, .int x1), (2, .int x2), (3, .int x3), (4, .int x4), (5, .ref o)] 0 0 [] 0
  refine g_aload (pc' := 2) C dL_outlook_0 rfl rfl ?_
  refine g_iconst (pc' := 3) (v := (0 : Int32)) C dL_outlook_2 rfl (by decide) ?_
  refine g_aload_n (pc' := 4) C dL_outlook_3 rfl rfl rfl ?_
  refine g_iload_n (pc' := 5) C dL_outlook_4 rfl rfl rfl ?_
  refine g_iload_n (pc' := 6) C dL_outlook_5 rfl rfl rfl ?_
  refine g_iload_n (pc' := 7) C dL_outlook_6 rfl rfl rfl ?_
  refine g_iload (pc' := 9) C dL_outlook_7 rfl rfl ?_
  rcases hv with hv | hv
  · refine cfX C (run_VX (rest := [.int (0 : Int32), .ref o]) C lk_L_61 (mtzX3_outlook hfl hv) ⟨by decide, by decide⟩ rfl rfl rfl rfl (Nat.le_of_ble_eq_true rfl) ⟨hR.1, hR.2⟩ dL_outlook_9) [0, 1, 2, 3, 4, 5, 6, 7, 8, 9, 10, 11, 12] [13] [1, 2, 3, 4, 5, 6, 7, 8, 9, 10, 11, 12, 13, 0] nd_HB di_HB (fun u9 => wHB γ ad o seen cnt pwc par amt held clos seW seS leW leS out) rfl rfl (fun _ => rfl) (fun E u9 hx => ?_)
    rcases hx with ⟨rfl, hv⟩
    · exact ⟨[], ⟨0, 14, 17, 13⟩, [], hT.trans rfl, ps0, rfl, by decide, cl_L_13, by simp [exW], fun q9 => by
        refine g_astore (pc' := 19) (lv' := [(6, .ref q9), (0, .ref (ad 0)), (1, .int x1), (2, .int x2), (3, .int x3), (4, .int x4), (5, .ref o)]) C dL_outlook_17 rfl (by decide) rfl ?_
        refine g_iconst (pc' := 20) (v := (1 : Int32)) C dL_outlook_19 rfl (by decide) ?_
        exact RT (1 : Int32) out _ _ _ _ dL_outlook_20 rfl (by decide) (by decide) hv⟩
  · refine cfI (pc' := 12) C (run_VI (rest := [.int (0 : Int32), .ref o]) C lk_L_61 (mtX3_outlook hv) ⟨by decide, by decide⟩ rfl rfl rfl rfl (Nat.le_of_ble_eq_true rfl) ⟨Nat.zero_le _, Nat.zero_le _⟩ dL_outlook_9) rfl [0, 1, 2, 3, 4, 5, 6, 7, 8, 9, 10, 11, 12] [13] [1, 2, 3, 4, 5, 6, 7, 8, 9, 10, 11, 12, 13, 0] nd_HB di_HB (fun u9 => wHB γ ad o seen cnt pwc par amt held clos seW seS leW leS out) rfl rfl (fun _ => rfl) (fun r9 u9 hv => ?_)
    refine g_i2l (pc' := 13) C dL_outlook_12 rfl ?_
    obtain ⟨hi, hv⟩ := hv
    refine g_last (pc' := 14) (ws' := wHB γ ad o seen cnt pwc par amt held clos seW seS leW leS (vp_updL out (0 : Int32).toNatClampNeg r9.toInt64)) C dL_outlook_13 rfl 13 rfl hi rfl ?_
    refine g_goto (tgt := 21) C dL_outlook_14 (by decide) ?_
    refine g_iconst (pc' := 22) (v := (0 : Int32)) C dL_outlook_21 rfl (by decide) ?_
    exact RT (0 : Int32) (vp_updL out (0 : Int32).toNatClampNeg r9.toInt64) _ _ _ _ dL_outlook_22 rfl (by decide) (by decide) hv)
def vL_year (cnt : Int32) (pwc : Int32) (par : Ar) (amt : Ar) (out : (Nat → Int64)) (x1 : Int32) (x2 : Int32) (x3 : Int32) (Q : Int32 → ((Nat → Int64)) → Prop) : Prop := ((zX3_year cnt pwc par amt x1 x2 x3 (fun E => (E = eIO ∧ (Q (1 : Int32) out)))) ∨ (vX3_year cnt pwc par amt x1 x2 x3 (fun r7 => (vp_in (0 : Int32) 1 ∧ (Q (0 : Int32) (vp_updL out (0 : Int32).toNatClampNeg r7.toInt64))))))
set_option maxHeartbeats 4000000 in
set_option maxRecDepth 100000 in
theorem mtL_year {l : Launch} (hfl : l.stackTraces = false) {γ : Gm} {ad : Nat → Nat} {o : Nat} {seen : Int32} {cnt : Int32} {pwc : Int32} {par : Ar} {amt : Ar} {held : Ar} {clos : Ar} {seW : Ar} {seS : Ar} {leW : Ar} {leS : Ar} {out : (Nat → Int64)} {x1 : Int32} {x2 : Int32} {x3 : Int32} {Q : Int32 → ((Nat → Int64)) → Prop} (hv : vL_year cnt pwc par amt out x1 x2 x3 Q) : CtH l γ yL_year cL_year 6 .int [(0, 12, 15, 13)] 8 129 [.ref (ad 0), .int x1, .int x2, .int x3, .ref o] (wHB γ ad o seen cnt pwc par amt held clos seW seS leW leS out) (fun (r : Int32) (u : (Nat → Int64)) => Q r u) (fun u => wHB γ ad o seen cnt pwc par amt held clos seW seS leW leS u) := startH (by decide +kernel) (Nat.le_of_ble_eq_true rfl) (fun κ C RT hR hT => by
  show G l γ κ (wHB γ ad o seen cnt pwc par amt held clos seW seS leW leS out) [(0, .ref (ad 0)), (1, .int x1), (2, .int x2), (3, .int x3), (4, .ref o)] 0 0 [] 0
  refine g_aload (pc' := 2) C dL_year_0 rfl rfl ?_
  refine g_iconst (pc' := 3) (v := (0 : Int32)) C dL_year_2 rfl (by decide) ?_
  refine g_aload_n (pc' := 4) C dL_year_3 rfl rfl rfl ?_
  refine g_iload_n (pc' := 5) C dL_year_4 rfl rfl rfl ?_
  refine g_iload_n (pc' := 6) C dL_year_5 rfl rfl rfl ?_
  refine g_iload_n (pc' := 7) C dL_year_6 rfl rfl rfl ?_
  rcases hv with hv | hv
  · refine cfX C (run_VX (rest := [.int (0 : Int32), .ref o]) C lk_L_64 (mtzX3_year hfl hv) ⟨by decide, by decide⟩ rfl rfl rfl rfl (Nat.le_of_ble_eq_true rfl) ⟨hR.1, hR.2⟩ dL_year_7) [0, 1, 2, 3, 4, 5, 6, 7, 8, 9, 10, 11, 12] [13] [1, 2, 3, 4, 5, 6, 7, 8, 9, 10, 11, 12, 13, 0] nd_HB di_HB (fun u7 => wHB γ ad o seen cnt pwc par amt held clos seW seS leW leS out) rfl rfl (fun _ => rfl) (fun E u7 hx => ?_)
    rcases hx with ⟨rfl, hv⟩
    · exact ⟨[], ⟨0, 12, 15, 13⟩, [], hT.trans rfl, ps0, rfl, by decide, cl_L_13, by simp [exW], fun q9 => by
        refine g_astore (pc' := 17) (lv' := [(5, .ref q9), (0, .ref (ad 0)), (1, .int x1), (2, .int x2), (3, .int x3), (4, .ref o)]) C dL_year_15 rfl (by decide) rfl ?_
        refine g_iconst (pc' := 18) (v := (1 : Int32)) C dL_year_17 rfl (by decide) ?_
        exact RT (1 : Int32) out _ _ _ _ dL_year_18 rfl (by decide) (by decide) hv⟩
  · refine cfI (pc' := 10) C (run_VI (rest := [.int (0 : Int32), .ref o]) C lk_L_64 (mtX3_year hv) ⟨by decide, by decide⟩ rfl rfl rfl rfl (Nat.le_of_ble_eq_true rfl) ⟨Nat.zero_le _, Nat.zero_le _⟩ dL_year_7) rfl [0, 1, 2, 3, 4, 5, 6, 7, 8, 9, 10, 11, 12] [13] [1, 2, 3, 4, 5, 6, 7, 8, 9, 10, 11, 12, 13, 0] nd_HB di_HB (fun u7 => wHB γ ad o seen cnt pwc par amt held clos seW seS leW leS out) rfl rfl (fun _ => rfl) (fun r7 u7 hv => ?_)
    refine g_i2l (pc' := 11) C dL_year_10 rfl ?_
    obtain ⟨hi, hv⟩ := hv
    refine g_last (pc' := 12) (ws' := wHB γ ad o seen cnt pwc par amt held clos seW seS leW leS (vp_updL out (0 : Int32).toNatClampNeg r7.toInt64)) C dL_year_11 rfl 13 rfl hi rfl ?_
    refine g_goto (tgt := 19) C dL_year_12 (by decide) ?_
    refine g_iconst (pc' := 20) (v := (0 : Int32)) C dL_year_19 rfl (by decide) ?_
    exact RT (0 : Int32) (vp_updL out (0 : Int32).toNatClampNeg r7.toInt64) _ _ _ _ dL_year_20 rfl (by decide) (by decide) hv)
def vL_yearByLeaves (cnt : Int32) (pwc : Int32) (par : Ar) (amt : Ar) (out : (Nat → Int64)) (x1 : Int32) (x2 : Int32) (x3 : Int32) (Q : Int32 → ((Nat → Int64)) → Prop) : Prop := ((zX3_yearByLeaves cnt pwc par amt x1 x2 x3 (fun E => (E = eIO ∧ (Q (1 : Int32) out)))) ∨ (vX3_yearByLeaves cnt pwc par amt x1 x2 x3 (fun r7 => (vp_in (0 : Int32) 1 ∧ (Q (0 : Int32) (vp_updL out (0 : Int32).toNatClampNeg r7.toInt64))))))
set_option maxHeartbeats 4000000 in
set_option maxRecDepth 100000 in
theorem mtL_yearByLeaves {l : Launch} (hfl : l.stackTraces = false) {γ : Gm} {ad : Nat → Nat} {o : Nat} {seen : Int32} {cnt : Int32} {pwc : Int32} {par : Ar} {amt : Ar} {held : Ar} {clos : Ar} {seW : Ar} {seS : Ar} {leW : Ar} {leS : Ar} {out : (Nat → Int64)} {x1 : Int32} {x2 : Int32} {x3 : Int32} {Q : Int32 → ((Nat → Int64)) → Prop} (hv : vL_yearByLeaves cnt pwc par amt out x1 x2 x3 Q) : CtH l γ yL_yearByLeaves cL_yearByLeaves 6 .int [(0, 12, 15, 13)] 8 129 [.ref (ad 0), .int x1, .int x2, .int x3, .ref o] (wHB γ ad o seen cnt pwc par amt held clos seW seS leW leS out) (fun (r : Int32) (u : (Nat → Int64)) => Q r u) (fun u => wHB γ ad o seen cnt pwc par amt held clos seW seS leW leS u) := startH (by decide +kernel) (Nat.le_of_ble_eq_true rfl) (fun κ C RT hR hT => by
  show G l γ κ (wHB γ ad o seen cnt pwc par amt held clos seW seS leW leS out) [(0, .ref (ad 0)), (1, .int x1), (2, .int x2), (3, .int x3), (4, .ref o)] 0 0 [] 0
  refine g_aload (pc' := 2) C dL_yearByLeaves_0 rfl rfl ?_
  refine g_iconst (pc' := 3) (v := (0 : Int32)) C dL_yearByLeaves_2 rfl (by decide) ?_
  refine g_aload_n (pc' := 4) C dL_yearByLeaves_3 rfl rfl rfl ?_
  refine g_iload_n (pc' := 5) C dL_yearByLeaves_4 rfl rfl rfl ?_
  refine g_iload_n (pc' := 6) C dL_yearByLeaves_5 rfl rfl rfl ?_
  refine g_iload_n (pc' := 7) C dL_yearByLeaves_6 rfl rfl rfl ?_
  rcases hv with hv | hv
  · refine cfX C (run_VX (rest := [.int (0 : Int32), .ref o]) C lk_L_67 (mtzX3_yearByLeaves hfl hv) ⟨by decide, by decide⟩ rfl rfl rfl rfl (Nat.le_of_ble_eq_true rfl) ⟨hR.1, hR.2⟩ dL_yearByLeaves_7) [0, 1, 2, 3, 4, 5, 6, 7, 8, 9, 10, 11, 12] [13] [1, 2, 3, 4, 5, 6, 7, 8, 9, 10, 11, 12, 13, 0] nd_HB di_HB (fun u7 => wHB γ ad o seen cnt pwc par amt held clos seW seS leW leS out) rfl rfl (fun _ => rfl) (fun E u7 hx => ?_)
    rcases hx with ⟨rfl, hv⟩
    · exact ⟨[], ⟨0, 12, 15, 13⟩, [], hT.trans rfl, ps0, rfl, by decide, cl_L_13, by simp [exW], fun q9 => by
        refine g_astore (pc' := 17) (lv' := [(5, .ref q9), (0, .ref (ad 0)), (1, .int x1), (2, .int x2), (3, .int x3), (4, .ref o)]) C dL_yearByLeaves_15 rfl (by decide) rfl ?_
        refine g_iconst (pc' := 18) (v := (1 : Int32)) C dL_yearByLeaves_17 rfl (by decide) ?_
        exact RT (1 : Int32) out _ _ _ _ dL_yearByLeaves_18 rfl (by decide) (by decide) hv⟩
  · refine cfI (pc' := 10) C (run_VI (rest := [.int (0 : Int32), .ref o]) C lk_L_67 (mtX3_yearByLeaves hv) ⟨by decide, by decide⟩ rfl rfl rfl rfl (Nat.le_of_ble_eq_true rfl) ⟨Nat.zero_le _, Nat.zero_le _⟩ dL_yearByLeaves_7) rfl [0, 1, 2, 3, 4, 5, 6, 7, 8, 9, 10, 11, 12] [13] [1, 2, 3, 4, 5, 6, 7, 8, 9, 10, 11, 12, 13, 0] nd_HB di_HB (fun u7 => wHB γ ad o seen cnt pwc par amt held clos seW seS leW leS out) rfl rfl (fun _ => rfl) (fun r7 u7 hv => ?_)
    refine g_i2l (pc' := 11) C dL_yearByLeaves_10 rfl ?_
    obtain ⟨hi, hv⟩ := hv
    refine g_last (pc' := 12) (ws' := wHB γ ad o seen cnt pwc par amt held clos seW seS leW leS (vp_updL out (0 : Int32).toNatClampNeg r7.toInt64)) C dL_yearByLeaves_11 rfl 13 rfl hi rfl ?_
    refine g_goto (tgt := 19) C dL_yearByLeaves_12 (by decide) ?_
    refine g_iconst (pc' := 20) (v := (0 : Int32)) C dL_yearByLeaves_19 rfl (by decide) ?_
    exact RT (0 : Int32) (vp_updL out (0 : Int32).toNatClampNeg r7.toInt64) _ _ _ _ dL_yearByLeaves_20 rfl (by decide) (by decide) hv)
def vL_gap (cnt : Int32) (pwc : Int32) (par : Ar) (amt : Ar) (out : (Nat → Int64)) (x1 : Int32) (x2 : Int32) (x3 : Int32) (x4 : Int32) (Q : Int32 → ((Nat → Int64)) → Prop) : Prop := ((zX3_gap cnt pwc par amt x1 x2 x3 x4 (fun E => (E = eIO ∧ (Q (1 : Int32) out)) ∨ (E = eIA ∧ (Q (2 : Int32) out)))) ∨ (vX3_gap cnt pwc par amt x1 x2 x3 x4 (fun r9 => (vp_in (0 : Int32) 1 ∧ (Q (0 : Int32) (vp_updL out (0 : Int32).toNatClampNeg r9.toInt64))))))
set_option maxHeartbeats 4000000 in
set_option maxRecDepth 100000 in
theorem mtL_gap {l : Launch} (hfl : l.stackTraces = false) {γ : Gm} {ad : Nat → Nat} {o : Nat} {seen : Int32} {cnt : Int32} {pwc : Int32} {par : Ar} {amt : Ar} {held : Ar} {clos : Ar} {seW : Ar} {seS : Ar} {leW : Ar} {leS : Ar} {out : (Nat → Int64)} {x1 : Int32} {x2 : Int32} {x3 : Int32} {x4 : Int32} {Q : Int32 → ((Nat → Int64)) → Prop} (hv : vL_gap cnt pwc par amt out x1 x2 x3 x4 Q) : CtH l γ yL_gap cL_gap 7 .int [(0, 14, 17, 13), (0, 14, 21, 24)] 8 130 [.ref (ad 0), .int x1, .int x2, .int x3, .int x4, .ref o] (wHB γ ad o seen cnt pwc par amt held clos seW seS leW leS out) (fun (r : Int32) (u : (Nat → Int64)) => Q r u) (fun u => wHB γ ad o seen cnt pwc par amt held clos seW seS leW leS u) := startH (by decide +kernel) (Nat.le_of_ble_eq_true rfl) (fun κ C RT hR hT => by
  show G l γ κ (wHB γ ad o seen cnt pwc par amt held clos seW seS leW leS out) [(0, .ref (ad 0)), (1, .int x1), (2, .int x2), (3, .int x3), (4, .int x4), (5, .ref o)] 0 0 [] 0
  refine g_aload (pc' := 2) C dL_gap_0 rfl rfl ?_
  refine g_iconst (pc' := 3) (v := (0 : Int32)) C dL_gap_2 rfl (by decide) ?_
  refine g_aload_n (pc' := 4) C dL_gap_3 rfl rfl rfl ?_
  refine g_iload_n (pc' := 5) C dL_gap_4 rfl rfl rfl ?_
  refine g_iload_n (pc' := 6) C dL_gap_5 rfl rfl rfl ?_
  refine g_iload_n (pc' := 7) C dL_gap_6 rfl rfl rfl ?_
  refine g_iload (pc' := 9) C dL_gap_7 rfl rfl ?_
  rcases hv with hv | hv
  · refine cfX C (run_VX (rest := [.int (0 : Int32), .ref o]) C lk_L_70 (mtzX3_gap hfl hv) ⟨by decide, by decide⟩ rfl rfl rfl rfl (Nat.le_of_ble_eq_true rfl) ⟨hR.1, hR.2⟩ dL_gap_9) [0, 1, 2, 3, 4, 5, 6, 7, 8, 9, 10, 11, 12] [13] [1, 2, 3, 4, 5, 6, 7, 8, 9, 10, 11, 12, 13, 0] nd_HB di_HB (fun u9 => wHB γ ad o seen cnt pwc par amt held clos seW seS leW leS out) rfl rfl (fun _ => rfl) (fun E u9 hx => ?_)
    rcases hx with ⟨rfl, hv⟩ | ⟨rfl, hv⟩
    · exact ⟨[], ⟨0, 14, 17, 13⟩, [⟨0, 14, 21, 24⟩], hT.trans rfl, ps0, rfl, by decide, cl_L_13, by simp [exW], fun q9 => by
        refine g_astore (pc' := 19) (lv' := [(6, .ref q9), (0, .ref (ad 0)), (1, .int x1), (2, .int x2), (3, .int x3), (4, .int x4), (5, .ref o)]) C dL_gap_17 rfl (by decide) rfl ?_
        refine g_iconst (pc' := 20) (v := (1 : Int32)) C dL_gap_19 rfl (by decide) ?_
        exact RT (1 : Int32) out _ _ _ _ dL_gap_20 rfl (by decide) (by decide) hv⟩
    · exact ⟨[⟨0, 14, 17, 13⟩], ⟨0, 14, 21, 24⟩, [], hT.trans rfl, (ps1 ⟨by decide, eIO, cl_L_13, by simp [exN]⟩), rfl, by decide, cl_L_24, by simp [exW], fun q9 => by
        refine g_astore (pc' := 23) (lv' := [(6, .ref q9), (0, .ref (ad 0)), (1, .int x1), (2, .int x2), (3, .int x3), (4, .int x4), (5, .ref o)]) C dL_gap_21 rfl (by decide) rfl ?_
        refine g_iconst (pc' := 24) (v := (2 : Int32)) C dL_gap_23 rfl (by decide) ?_
        exact RT (2 : Int32) out _ _ _ _ dL_gap_24 rfl (by decide) (by decide) hv⟩
  · refine cfI (pc' := 12) C (run_VI (rest := [.int (0 : Int32), .ref o]) C lk_L_70 (mtX3_gap hv) ⟨by decide, by decide⟩ rfl rfl rfl rfl (Nat.le_of_ble_eq_true rfl) ⟨Nat.zero_le _, Nat.zero_le _⟩ dL_gap_9) rfl [0, 1, 2, 3, 4, 5, 6, 7, 8, 9, 10, 11, 12] [13] [1, 2, 3, 4, 5, 6, 7, 8, 9, 10, 11, 12, 13, 0] nd_HB di_HB (fun u9 => wHB γ ad o seen cnt pwc par amt held clos seW seS leW leS out) rfl rfl (fun _ => rfl) (fun r9 u9 hv => ?_)
    refine g_i2l (pc' := 13) C dL_gap_12 rfl ?_
    obtain ⟨hi, hv⟩ := hv
    refine g_last (pc' := 14) (ws' := wHB γ ad o seen cnt pwc par amt held clos seW seS leW leS (vp_updL out (0 : Int32).toNatClampNeg r9.toInt64)) C dL_gap_13 rfl 13 rfl hi rfl ?_
    refine g_goto (tgt := 25) C dL_gap_14 (by decide) ?_
    refine g_iconst (pc' := 26) (v := (0 : Int32)) C dL_gap_25 rfl (by decide) ?_
    exact RT (0 : Int32) (vp_updL out (0 : Int32).toNatClampNeg r9.toInt64) _ _ _ _ dL_gap_26 rfl (by decide) (by decide) hv)
