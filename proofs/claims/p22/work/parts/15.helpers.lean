/-! formulas and walks, by program -/
theorem ps0 {α : Type} {P : α → Prop} : ∀ z ∈ ([] : List α), P z := fun z hz => absurd hz List.not_mem_nil
theorem ps1 {α : Type} {P : α → Prop} {a : α} (h : P a) : ∀ z ∈ [a], P z := fun z hz => (List.mem_singleton.mp hz) ▸ h
theorem ps2 {α : Type} {P : α → Prop} {a b : α} (h1 : P a) (h2 : P b) : ∀ z ∈ [a, b], P z := fun z hz => (List.mem_cons.mp hz).elim (fun e => e ▸ h1) (fun e => (List.mem_singleton.mp e) ▸ h2)
def vL_low (x0 : Int32) (x1 : Int32) (Q : Int32 → Prop) : Prop := (¬ x1 = 0 ∧ (Q ((x0 &&& (2147483647 : Int32)) - (x0 &&& (2147483647 : Int32)) / x1 * x1)))
set_option maxHeartbeats 4000000 in
set_option maxRecDepth 100000 in
theorem mtL_low {l : Launch} {γ : Gm} {ad : Nat → Nat} {seen : Int32} {cnt : Int32} {pwc : Int32} {par : Ar} {amt : Ar} {held : Ar} {clos : Ar} {seW : Ar} {seS : Ar} {leW : Ar} {leS : Ar} {x0 : Int32} {x1 : Int32} {Q : Int32 → Prop} (hv : vL_low x0 x1 Q) : CtI l γ yL_low cL_low 2 .int 0 0 0 0 [.int x0, .int x1] (wB γ ad seen cnt pwc par amt held clos seW seS leW leS) (fun (r : Int32) (_ : Unit) => Q r) (fun _ => wB γ ad seen cnt pwc par amt held clos seW seS leW leS) := startI (by decide +kernel) (Nat.le_of_ble_eq_true rfl) (fun κ C RT hR hnm => by
  show G l γ κ (wB γ ad seen cnt pwc par amt held clos seW seS leW leS) [(0, .int x0), (1, .int x1)] 0 0 [] 0
  refine g_iload_n (pc' := 1) C dL_low_0 rfl rfl rfl ?_
  refine g_ldc (pc' := 3) C k_L_7 dL_low_1 rfl ?_
  refine g_iand (pc' := 4) C dL_low_3 rfl ?_
  refine g_iload_n (pc' := 5) C dL_low_4 rfl rfl rfl ?_
  obtain ⟨hd, hv⟩ := hv
  refine g_irem (pc' := 6) C dL_low_5 rfl hd ?_
  exact RT ((x0 &&& (2147483647 : Int32)) - (x0 &&& (2147483647 : Int32)) / x1 * x1) () _ _ _ _ dL_low_6 rfl (by decide) (by decide) hv)
def vL_add (cnt : Int32) (pwc : Int32) (par : Ar) (amt : Ar) (held : Ar) (clos : Ar) (x1 : Int32) (Q : Int32 → (Int32 × Int32 × Ar) → Prop) : Prop := ((zX3_addPlace cnt pwc par amt held clos x1 (fun E u2 => (E = eIS ∧ (Q (-3 : Int32) (u2.1, u2.2.1, u2.2.2))))) ∨ (vX3_addPlace cnt pwc par amt held clos x1 (fun r2 u2 => (Q r2 (u2.1, u2.2.1, u2.2.2)))))
set_option maxHeartbeats 4000000 in
set_option maxRecDepth 100000 in
theorem mtL_add {l : Launch} (hfl : l.stackTraces = false) {γ : Gm} {ad : Nat → Nat} {seen : Int32} {cnt : Int32} {pwc : Int32} {par : Ar} {amt : Ar} {held : Ar} {clos : Ar} {seW : Ar} {seS : Ar} {leW : Ar} {leS : Ar} {x1 : Int32} {Q : Int32 → (Int32 × Int32 × Ar) → Prop} (hv : vL_add cnt pwc par amt held clos x1 Q) : CtH l γ yL_add cL_add 3 .int [(0, 5, 6, 15)] 8 124 [.ref (ad 0), .int x1] (wB γ ad seen cnt pwc par amt held clos seW seS leW leS) (fun (r : Int32) (u : Int32 × Int32 × Ar) => Q r u) (fun u => wB γ ad seen u.1 u.2.1 u.2.2 amt held clos seW seS leW leS) := startH (by decide +kernel) (Nat.le_of_ble_eq_true rfl) (fun κ C RT hR hT => by
  show G l γ κ (wB γ ad seen cnt pwc par amt held clos seW seS leW leS) [(0, .ref (ad 0)), (1, .int x1)] 0 0 [] 0
  refine g_aload_n (pc' := 1) C dL_add_0 rfl rfl rfl ?_
  refine g_iload_n (pc' := 2) C dL_add_1 rfl rfl rfl ?_
  rcases hv with hv | hv
  · refine cfX C (run_VX (rest := []) C lk_L_9 (mtzX3_addPlace hfl hv) ⟨by decide, by decide⟩ rfl rfl rfl rfl (Nat.le_of_ble_eq_true rfl) ⟨hR.1, hR.2⟩ dL_add_2) [0, 1, 2, 3, 4, 5, 6, 7, 8, 9, 10, 11, 12] [] [0, 1, 2, 3, 4, 5, 6, 7, 8, 9, 10, 11, 12] nd_HB di_HB (fun u2 => wB γ ad seen u2.1 u2.2.1 u2.2.2 amt held clos seW seS leW leS) rfl rfl (fun _ => rfl) (fun E u2 hx => ?_)
    rcases hx with ⟨rfl, hv⟩
    · exact ⟨[], ⟨0, 5, 6, 15⟩, [], hT.trans rfl, ps0, rfl, by decide, cl_L_15, by simp [exW], fun q9 => by
        refine g_astore_n (pc' := 7) (lv' := [(2, .ref q9), (0, .ref (ad 0)), (1, .int x1)]) C dL_add_6 rfl rfl (by decide) rfl ?_
        refine g_bipush (pc' := 9) (v := (-3 : Int32)) C dL_add_7 rfl (by decide) ?_
        exact RT (-3 : Int32) (u2.1, u2.2.1, u2.2.2) _ _ _ _ dL_add_9 rfl (by decide) (by decide) hv⟩
  · refine cfI (pc' := 5) C (run_VI (rest := []) C lk_L_9 (mtX3_addPlace hv) ⟨by decide, by decide⟩ rfl rfl rfl rfl (Nat.le_of_ble_eq_true rfl) ⟨Nat.zero_le _, Nat.zero_le _⟩ dL_add_2) rfl [0, 1, 2, 3, 4, 5, 6, 7, 8, 9, 10, 11, 12] [] [0, 1, 2, 3, 4, 5, 6, 7, 8, 9, 10, 11, 12] nd_HB di_HB (fun u2 => wB γ ad seen u2.1 u2.2.1 u2.2.2 amt held clos seW seS leW leS) rfl rfl (fun _ => rfl) (fun r2 u2 hv => ?_)
    exact RT r2 (u2.1, u2.2.1, u2.2.2) _ _ _ _ dL_add_5 rfl (by decide) (by decide) hv)
def vL_set (cnt : Int32) (pwc : Int32) (amt : Ar) (clos : Ar) (x1 : Int32) (x2 : Int32) (x3 : Int32) (x4 : Int32) (x5 : Int32) (Q : Int32 → (Ar) → Prop) : Prop := ((zX3_set cnt pwc amt clos x1 x2 x3 x4 x5 (fun E u8 => (E = eIS ∧ (Q (-3 : Int32) u8)))) ∨ (vX3_set cnt pwc amt clos x1 x2 x3 x4 x5 (fun r8 u8 => (Q r8 u8))))
set_option maxHeartbeats 4000000 in
set_option maxRecDepth 100000 in
theorem mtL_set {l : Launch} (hfl : l.stackTraces = false) {γ : Gm} {ad : Nat → Nat} {seen : Int32} {cnt : Int32} {pwc : Int32} {par : Ar} {amt : Ar} {held : Ar} {clos : Ar} {seW : Ar} {seS : Ar} {leW : Ar} {leS : Ar} {x1 : Int32} {x2 : Int32} {x3 : Int32} {x4 : Int32} {x5 : Int32} {Q : Int32 → (Ar) → Prop} (hv : vL_set cnt pwc amt clos x1 x2 x3 x4 x5 Q) : CtH l γ yL_set cL_set 7 .int [(0, 11, 12, 15)] 8 128 [.ref (ad 0), .int x1, .int x2, .int x3, .int x4, .int x5] (wB γ ad seen cnt pwc par amt held clos seW seS leW leS) (fun (r : Int32) (u : Ar) => Q r u) (fun u => wB γ ad seen cnt pwc par u held clos seW seS leW leS) := startH (by decide +kernel) (Nat.le_of_ble_eq_true rfl) (fun κ C RT hR hT => by
  show G l γ κ (wB γ ad seen cnt pwc par amt held clos seW seS leW leS) [(0, .ref (ad 0)), (1, .int x1), (2, .int x2), (3, .int x3), (4, .int x4), (5, .int x5)] 0 0 [] 0
  refine g_aload_n (pc' := 1) C dL_set_0 rfl rfl rfl ?_
  refine g_iload_n (pc' := 2) C dL_set_1 rfl rfl rfl ?_
  refine g_iload_n (pc' := 3) C dL_set_2 rfl rfl rfl ?_
  refine g_iload_n (pc' := 4) C dL_set_3 rfl rfl rfl ?_
  refine g_iload (pc' := 6) C dL_set_4 rfl rfl ?_
  refine g_iload (pc' := 8) C dL_set_6 rfl rfl ?_
  rcases hv with hv | hv
  · refine cfX C (run_VX (rest := []) C lk_L_17 (mtzX3_set hfl hv) ⟨by decide, by decide⟩ rfl rfl rfl rfl (Nat.le_of_ble_eq_true rfl) ⟨hR.1, hR.2⟩ dL_set_8) [0, 1, 2, 3, 4, 5, 6, 7, 8, 9, 10, 11, 12] [] [0, 1, 2, 3, 4, 5, 6, 7, 8, 9, 10, 11, 12] nd_HB di_HB (fun u8 => wB γ ad seen cnt pwc par u8 held clos seW seS leW leS) rfl rfl (fun _ => rfl) (fun E u8 hx => ?_)
    rcases hx with ⟨rfl, hv⟩
    · exact ⟨[], ⟨0, 11, 12, 15⟩, [], hT.trans rfl, ps0, rfl, by decide, cl_L_15, by simp [exW], fun q9 => by
        refine g_astore (pc' := 14) (lv' := [(6, .ref q9), (0, .ref (ad 0)), (1, .int x1), (2, .int x2), (3, .int x3), (4, .int x4), (5, .int x5)]) C dL_set_12 rfl (by decide) rfl ?_
        refine g_bipush (pc' := 16) (v := (-3 : Int32)) C dL_set_14 rfl (by decide) ?_
        exact RT (-3 : Int32) u8 _ _ _ _ dL_set_16 rfl (by decide) (by decide) hv⟩
  · refine cfI (pc' := 11) C (run_VI (rest := []) C lk_L_17 (mtX3_set hv) ⟨by decide, by decide⟩ rfl rfl rfl rfl (Nat.le_of_ble_eq_true rfl) ⟨Nat.zero_le _, Nat.zero_le _⟩ dL_set_8) rfl [0, 1, 2, 3, 4, 5, 6, 7, 8, 9, 10, 11, 12] [] [0, 1, 2, 3, 4, 5, 6, 7, 8, 9, 10, 11, 12] nd_HB di_HB (fun u8 => wB γ ad seen cnt pwc par u8 held clos seW seS leW leS) rfl rfl (fun _ => rfl) (fun r8 u8 hv => ?_)
    exact RT r8 u8 _ _ _ _ dL_set_11 rfl (by decide) (by decide) hv)
def vL_spread (cnt : Int32) (pwc : Int32) (par : Ar) (amt : Ar) (held : Ar) (clos : Ar) (leW : Ar) (leS : Ar) (x1 : Int32) (x2 : Int32) (x3 : Int32) (x4 : Int32) (x5 : Int32) (Q : Int32 → (Ar × Ar × Ar) → Prop) : Prop := ((zX3_spread cnt pwc par amt held clos leW leS x1 x2 x3 x4 x5 (fun E u8 => (E = eIS ∧ (Q (-3 : Int32) (u8.1, u8.2.1, u8.2.2))))) ∨ (vX3_spread cnt pwc par amt held clos leW leS x1 x2 x3 x4 x5 (fun r8 u8 => (Q r8 (u8.1, u8.2.1, u8.2.2)))))
set_option maxHeartbeats 4000000 in
set_option maxRecDepth 100000 in
theorem mtL_spread {l : Launch} (hfl : l.stackTraces = false) {γ : Gm} {ad : Nat → Nat} {seen : Int32} {cnt : Int32} {pwc : Int32} {par : Ar} {amt : Ar} {held : Ar} {clos : Ar} {seW : Ar} {seS : Ar} {leW : Ar} {leS : Ar} {x1 : Int32} {x2 : Int32} {x3 : Int32} {x4 : Int32} {x5 : Int32} {Q : Int32 → (Ar × Ar × Ar) → Prop} (hv : vL_spread cnt pwc par amt held clos leW leS x1 x2 x3 x4 x5 Q) : CtH l γ yL_spread cL_spread 7 .int [(0, 11, 12, 15)] 8 180 [.ref (ad 0), .int x1, .int x2, .int x3, .int x4, .int x5] (wB γ ad seen cnt pwc par amt held clos seW seS leW leS) (fun (r : Int32) (u : Ar × Ar × Ar) => Q r u) (fun u => wB γ ad seen cnt pwc par u.1 held clos seW seS u.2.1 u.2.2) := startH (by decide +kernel) (Nat.le_of_ble_eq_true rfl) (fun κ C RT hR hT => by
  show G l γ κ (wB γ ad seen cnt pwc par amt held clos seW seS leW leS) [(0, .ref (ad 0)), (1, .int x1), (2, .int x2), (3, .int x3), (4, .int x4), (5, .int x5)] 0 0 [] 0
  refine g_aload_n (pc' := 1) C dL_spread_0 rfl rfl rfl ?_
  refine g_iload_n (pc' := 2) C dL_spread_1 rfl rfl rfl ?_
  refine g_iload_n (pc' := 3) C dL_spread_2 rfl rfl rfl ?_
  refine g_iload_n (pc' := 4) C dL_spread_3 rfl rfl rfl ?_
  refine g_iload (pc' := 6) C dL_spread_4 rfl rfl ?_
  refine g_iload (pc' := 8) C dL_spread_6 rfl rfl ?_
  rcases hv with hv | hv
  · refine cfX C (run_VX (rest := []) C lk_L_21 (mtzX3_spread hfl hv) ⟨by decide, by decide⟩ rfl rfl rfl rfl (Nat.le_of_ble_eq_true rfl) ⟨hR.1, hR.2⟩ dL_spread_8) [0, 1, 2, 3, 4, 5, 6, 7, 8, 9, 10, 11, 12] [] [0, 1, 2, 3, 4, 5, 6, 7, 8, 9, 10, 11, 12] nd_HB di_HB (fun u8 => wB γ ad seen cnt pwc par u8.1 held clos seW seS u8.2.1 u8.2.2) rfl rfl (fun _ => rfl) (fun E u8 hx => ?_)
    rcases hx with ⟨rfl, hv⟩
    · exact ⟨[], ⟨0, 11, 12, 15⟩, [], hT.trans rfl, ps0, rfl, by decide, cl_L_15, by simp [exW], fun q9 => by
        refine g_astore (pc' := 14) (lv' := [(6, .ref q9), (0, .ref (ad 0)), (1, .int x1), (2, .int x2), (3, .int x3), (4, .int x4), (5, .int x5)]) C dL_spread_12 rfl (by decide) rfl ?_
        refine g_bipush (pc' := 16) (v := (-3 : Int32)) C dL_spread_14 rfl (by decide) ?_
        exact RT (-3 : Int32) (u8.1, u8.2.1, u8.2.2) _ _ _ _ dL_spread_16 rfl (by decide) (by decide) hv⟩
  · refine cfI (pc' := 11) C (run_VI (rest := []) C lk_L_21 (mtX3_spread hv) ⟨by decide, by decide⟩ rfl rfl rfl rfl (Nat.le_of_ble_eq_true rfl) ⟨Nat.zero_le _, Nat.zero_le _⟩ dL_spread_8) rfl [0, 1, 2, 3, 4, 5, 6, 7, 8, 9, 10, 11, 12] [] [0, 1, 2, 3, 4, 5, 6, 7, 8, 9, 10, 11, 12] nd_HB di_HB (fun u8 => wB γ ad seen cnt pwc par u8.1 held clos seW seS u8.2.1 u8.2.2) rfl rfl (fun _ => rfl) (fun r8 u8 hv => ?_)
    exact RT r8 (u8.1, u8.2.1, u8.2.2) _ _ _ _ dL_spread_11 rfl (by decide) (by decide) hv)
def vL_spreadYear (cnt : Int32) (pwc : Int32) (par : Ar) (amt : Ar) (held : Ar) (clos : Ar) (seW : Ar) (seS : Ar) (leW : Ar) (leS : Ar) (x1 : Int32) (x2 : Int32) (x3 : Int32) (Q : Int32 → (Ar × Ar × Ar × Ar) → Prop) : Prop := ((zX3_spreadYear cnt pwc par amt held clos seW seS leW leS x1 x2 x3 (fun E u4 => (E = eIS ∧ (Q (-3 : Int32) (u4.1, u4.2.1, u4.2.2.1, u4.2.2.2))))) ∨ (vX3_spreadYear cnt pwc par amt held clos seW seS leW leS x1 x2 x3 (fun r4 u4 => (Q r4 (u4.1, u4.2.1, u4.2.2.1, u4.2.2.2)))))
set_option maxHeartbeats 4000000 in
set_option maxRecDepth 100000 in
theorem mtL_spreadYear {l : Launch} (hfl : l.stackTraces = false) {γ : Gm} {ad : Nat → Nat} {seen : Int32} {cnt : Int32} {pwc : Int32} {par : Ar} {amt : Ar} {held : Ar} {clos : Ar} {seW : Ar} {seS : Ar} {leW : Ar} {leS : Ar} {x1 : Int32} {x2 : Int32} {x3 : Int32} {Q : Int32 → (Ar × Ar × Ar × Ar) → Prop} (hv : vL_spreadYear cnt pwc par amt held clos seW seS leW leS x1 x2 x3 Q) : CtH l γ yL_spreadYear cL_spreadYear 5 .int [(0, 7, 8, 15)] 8 180 [.ref (ad 0), .int x1, .int x2, .int x3] (wB γ ad seen cnt pwc par amt held clos seW seS leW leS) (fun (r : Int32) (u : Ar × Ar × Ar × Ar) => Q r u) (fun u => wB γ ad seen cnt pwc par u.1 held clos seW u.2.1 u.2.2.1 u.2.2.2) := startH (by decide +kernel) (Nat.le_of_ble_eq_true rfl) (fun κ C RT hR hT => by
  show G l γ κ (wB γ ad seen cnt pwc par amt held clos seW seS leW leS) [(0, .ref (ad 0)), (1, .int x1), (2, .int x2), (3, .int x3)] 0 0 [] 0
  refine g_aload_n (pc' := 1) C dL_spreadYear_0 rfl rfl rfl ?_
  refine g_iload_n (pc' := 2) C dL_spreadYear_1 rfl rfl rfl ?_
  refine g_iload_n (pc' := 3) C dL_spreadYear_2 rfl rfl rfl ?_
  refine g_iload_n (pc' := 4) C dL_spreadYear_3 rfl rfl rfl ?_
  rcases hv with hv | hv
  · refine cfX C (run_VX (rest := []) C lk_L_24 (mtzX3_spreadYear hfl hv) ⟨by decide, by decide⟩ rfl rfl rfl rfl (Nat.le_of_ble_eq_true rfl) ⟨hR.1, hR.2⟩ dL_spreadYear_4) [0, 1, 2, 3, 4, 5, 6, 7, 8, 9, 10, 11, 12] [] [0, 1, 2, 3, 4, 5, 6, 7, 8, 9, 10, 11, 12] nd_HB di_HB (fun u4 => wB γ ad seen cnt pwc par u4.1 held clos seW u4.2.1 u4.2.2.1 u4.2.2.2) rfl rfl (fun _ => rfl) (fun E u4 hx => ?_)
    rcases hx with ⟨rfl, hv⟩
    · exact ⟨[], ⟨0, 7, 8, 15⟩, [], hT.trans rfl, ps0, rfl, by decide, cl_L_15, by simp [exW], fun q9 => by
        refine g_astore (pc' := 10) (lv' := [(4, .ref q9), (0, .ref (ad 0)), (1, .int x1), (2, .int x2), (3, .int x3)]) C dL_spreadYear_8 rfl (by decide) rfl ?_
        refine g_bipush (pc' := 12) (v := (-3 : Int32)) C dL_spreadYear_10 rfl (by decide) ?_
        exact RT (-3 : Int32) (u4.1, u4.2.1, u4.2.2.1, u4.2.2.2) _ _ _ _ dL_spreadYear_12 rfl (by decide) (by decide) hv⟩
  · refine cfI (pc' := 7) C (run_VI (rest := []) C lk_L_24 (mtX3_spreadYear hv) ⟨by decide, by decide⟩ rfl rfl rfl rfl (Nat.le_of_ble_eq_true rfl) ⟨Nat.zero_le _, Nat.zero_le _⟩ dL_spreadYear_4) rfl [0, 1, 2, 3, 4, 5, 6, 7, 8, 9, 10, 11, 12] [] [0, 1, 2, 3, 4, 5, 6, 7, 8, 9, 10, 11, 12] nd_HB di_HB (fun u4 => wB γ ad seen cnt pwc par u4.1 held clos seW u4.2.1 u4.2.2.1 u4.2.2.2) rfl rfl (fun _ => rfl) (fun r4 u4 hv => ?_)
    exact RT r4 (u4.1, u4.2.1, u4.2.2.1, u4.2.2.2) _ _ _ _ dL_spreadYear_7 rfl (by decide) (by decide) hv)
def vL_copy (amt : Ar) (clos : Ar) (x1 : Int32) (x2 : Int32) (Q : Int32 → (Ar) → Prop) : Prop := ((zX3_copy amt clos x1 x2 (fun E u3 => (E = eIS ∧ (Q (-3 : Int32) u3)))) ∨ (vX3_copy amt clos x1 x2 (fun r3 u3 => (Q r3 u3))))
set_option maxHeartbeats 4000000 in
set_option maxRecDepth 100000 in
theorem mtL_copy {l : Launch} (hfl : l.stackTraces = false) {γ : Gm} {ad : Nat → Nat} {seen : Int32} {cnt : Int32} {pwc : Int32} {par : Ar} {amt : Ar} {held : Ar} {clos : Ar} {seW : Ar} {seS : Ar} {leW : Ar} {leS : Ar} {x1 : Int32} {x2 : Int32} {Q : Int32 → (Ar) → Prop} (hv : vL_copy amt clos x1 x2 Q) : CtH l γ yL_copy cL_copy 4 .int [(0, 6, 7, 15)] 8 124 [.ref (ad 0), .int x1, .int x2] (wB γ ad seen cnt pwc par amt held clos seW seS leW leS) (fun (r : Int32) (u : Ar) => Q r u) (fun u => wB γ ad seen cnt pwc par u held clos seW seS leW leS) := startH (by decide +kernel) (Nat.le_of_ble_eq_true rfl) (fun κ C RT hR hT => by
  show G l γ κ (wB γ ad seen cnt pwc par amt held clos seW seS leW leS) [(0, .ref (ad 0)), (1, .int x1), (2, .int x2)] 0 0 [] 0
  refine g_aload_n (pc' := 1) C dL_copy_0 rfl rfl rfl ?_
  refine g_iload_n (pc' := 2) C dL_copy_1 rfl rfl rfl ?_
  refine g_iload_n (pc' := 3) C dL_copy_2 rfl rfl rfl ?_
  rcases hv with hv | hv
  · refine cfX C (run_VX (rest := []) C lk_L_28 (mtzX3_copy hfl hv) ⟨by decide, by decide⟩ rfl rfl rfl rfl (Nat.le_of_ble_eq_true rfl) ⟨hR.1, hR.2⟩ dL_copy_3) [0, 1, 2, 3, 4, 5, 6, 7, 8, 9, 10, 11, 12] [] [0, 1, 2, 3, 4, 5, 6, 7, 8, 9, 10, 11, 12] nd_HB di_HB (fun u3 => wB γ ad seen cnt pwc par u3 held clos seW seS leW leS) rfl rfl (fun _ => rfl) (fun E u3 hx => ?_)
    rcases hx with ⟨rfl, hv⟩
    · exact ⟨[], ⟨0, 6, 7, 15⟩, [], hT.trans rfl, ps0, rfl, by decide, cl_L_15, by simp [exW], fun q9 => by
        refine g_astore_n (pc' := 8) (lv' := [(3, .ref q9), (0, .ref (ad 0)), (1, .int x1), (2, .int x2)]) C dL_copy_7 rfl rfl (by decide) rfl ?_
        refine g_bipush (pc' := 10) (v := (-3 : Int32)) C dL_copy_8 rfl (by decide) ?_
        exact RT (-3 : Int32) u3 _ _ _ _ dL_copy_10 rfl (by decide) (by decide) hv⟩
  · refine cfI (pc' := 6) C (run_VI (rest := []) C lk_L_28 (mtX3_copy hv) ⟨by decide, by decide⟩ rfl rfl rfl rfl (Nat.le_of_ble_eq_true rfl) ⟨Nat.zero_le _, Nat.zero_le _⟩ dL_copy_3) rfl [0, 1, 2, 3, 4, 5, 6, 7, 8, 9, 10, 11, 12] [] [0, 1, 2, 3, 4, 5, 6, 7, 8, 9, 10, 11, 12] nd_HB di_HB (fun u3 => wB γ ad seen cnt pwc par u3 held clos seW seS leW leS) rfl rfl (fun _ => rfl) (fun r3 u3 hv => ?_)
    exact RT r3 u3 _ _ _ _ dL_copy_6 rfl (by decide) (by decide) hv)
def vL_see (cnt : Int32) (pwc : Int32) (amt : Ar) (x1 : Int32) (x2 : Int32) (x3 : Int32) (x4 : Int32) (Q : Int32 → (Ar) → Prop) : Prop := ((zX3_see cnt pwc amt x1 x2 x3 x4 (fun E u6 => (E = eIS ∧ (Q (-3 : Int32) u6)))) ∨ (vX3_see cnt pwc amt x1 x2 x3 x4 (fun r6 u6 => (Q r6 u6))))
set_option maxHeartbeats 4000000 in
set_option maxRecDepth 100000 in
theorem mtL_see {l : Launch} (hfl : l.stackTraces = false) {γ : Gm} {ad : Nat → Nat} {seen : Int32} {cnt : Int32} {pwc : Int32} {par : Ar} {amt : Ar} {held : Ar} {clos : Ar} {seW : Ar} {seS : Ar} {leW : Ar} {leS : Ar} {x1 : Int32} {x2 : Int32} {x3 : Int32} {x4 : Int32} {Q : Int32 → (Ar) → Prop} (hv : vL_see cnt pwc amt x1 x2 x3 x4 Q) : CtH l γ yL_see cL_see 6 .int [(0, 9, 10, 15)] 8 127 [.ref (ad 0), .int x1, .int x2, .int x3, .int x4] (wB γ ad seen cnt pwc par amt held clos seW seS leW leS) (fun (r : Int32) (u : Ar) => Q r u) (fun u => wB γ ad seen cnt pwc par u held clos seW seS leW leS) := startH (by decide +kernel) (Nat.le_of_ble_eq_true rfl) (fun κ C RT hR hT => by
  show G l γ κ (wB γ ad seen cnt pwc par amt held clos seW seS leW leS) [(0, .ref (ad 0)), (1, .int x1), (2, .int x2), (3, .int x3), (4, .int x4)] 0 0 [] 0
  refine g_aload_n (pc' := 1) C dL_see_0 rfl rfl rfl ?_
  refine g_iload_n (pc' := 2) C dL_see_1 rfl rfl rfl ?_
  refine g_iload_n (pc' := 3) C dL_see_2 rfl rfl rfl ?_
  refine g_iload_n (pc' := 4) C dL_see_3 rfl rfl rfl ?_
  refine g_iload (pc' := 6) C dL_see_4 rfl rfl ?_
  rcases hv with hv | hv
  · refine cfX C (run_VX (rest := []) C lk_L_32 (mtzX3_see hfl hv) ⟨by decide, by decide⟩ rfl rfl rfl rfl (Nat.le_of_ble_eq_true rfl) ⟨hR.1, hR.2⟩ dL_see_6) [0, 1, 2, 3, 4, 5, 6, 7, 8, 9, 10, 11, 12] [] [0, 1, 2, 3, 4, 5, 6, 7, 8, 9, 10, 11, 12] nd_HB di_HB (fun u6 => wB γ ad seen cnt pwc par u6 held clos seW seS leW leS) rfl rfl (fun _ => rfl) (fun E u6 hx => ?_)
    rcases hx with ⟨rfl, hv⟩
    · exact ⟨[], ⟨0, 9, 10, 15⟩, [], hT.trans rfl, ps0, rfl, by decide, cl_L_15, by simp [exW], fun q9 => by
        refine g_astore (pc' := 12) (lv' := [(5, .ref q9), (0, .ref (ad 0)), (1, .int x1), (2, .int x2), (3, .int x3), (4, .int x4)]) C dL_see_10 rfl (by decide) rfl ?_
        refine g_bipush (pc' := 14) (v := (-3 : Int32)) C dL_see_12 rfl (by decide) ?_
        exact RT (-3 : Int32) u6 _ _ _ _ dL_see_14 rfl (by decide) (by decide) hv⟩
  · refine cfI (pc' := 9) C (run_VI (rest := []) C lk_L_32 (mtX3_see hv) ⟨by decide, by decide⟩ rfl rfl rfl rfl (Nat.le_of_ble_eq_true rfl) ⟨Nat.zero_le _, Nat.zero_le _⟩ dL_see_6) rfl [0, 1, 2, 3, 4, 5, 6, 7, 8, 9, 10, 11, 12] [] [0, 1, 2, 3, 4, 5, 6, 7, 8, 9, 10, 11, 12] nd_HB di_HB (fun u6 => wB γ ad seen cnt pwc par u6 held clos seW seS leW leS) rfl rfl (fun _ => rfl) (fun r6 u6 hv => ?_)
    exact RT r6 u6 _ _ _ _ dL_see_9 rfl (by decide) (by decide) hv)
def vL_holds_J138 (cnt : Int32) (pwc : Int32) (par : Ar) (amt : Ar) (x1 : Int32) (x2 : Int32) (x3 : Int32) (x5 : Int32) (s0 : Int32) (Q : Int32 → Prop) : Prop := ((s0 = (0 : Int32) → (Q (0 : Int32))) ∧ (¬ s0 = (0 : Int32) → (vX3_year cnt pwc par amt x2 x3 (3 : Int32) (fun r151 => (vX3_year cnt pwc par amt x1 x3 (3 : Int32) (fun r158 => ((¬ x5 = (r151 - r158) → (Q (0 : Int32))) ∧ (x5 = (r151 - r158) → (vX3_gap cnt pwc par amt x1 x1 x3 (0 : Int32) (fun r170 => ((¬ r170 = (0 : Int32) → (Q (0 : Int32))) ∧ (r170 = (0 : Int32) → (Q (1 : Int32))))))))))))))
set_option maxHeartbeats 4000000 in
set_option maxRecDepth 100000 in
theorem wvL_holds_J138 {l : Launch} {γ : Gm} {κ : Kx} {ad : Nat → Nat} {seen : Int32} {cnt : Int32} {pwc : Int32} {par : Ar} {amt : Ar} {held : Ar} {clos : Ar} {seW : Ar} {seS : Ar} {leW : Ar} {leS : Ar} {x1 : Int32} {x2 : Int32} {x3 : Int32} {x5 : Int32} {s0 : Int32} {Q : Int32 → Prop} (C : Ok γ κ cL_holds 6 RL 8 130) (RT : RtI l γ κ cL_holds .boolean 0 0 (fun (r : Int32) (_ : Unit) => Q r) (fun _ => wB γ ad seen cnt pwc par amt held clos seW seS leW leS))  (hv : vL_holds_J138 cnt pwc par amt x1 x2 x3 x5 s0 Q) : G l γ κ (wB γ ad seen cnt pwc par amt held clos seW seS leW leS) [(0, .ref (ad 0)), (1, .int x1), (2, .int x2), (3, .int x3), (5, .int x5)] 0 0 [.int s0] 138 := by
  refine g_istore (pc' := 140) (lv' := [(4, .int s0), (0, .ref (ad 0)), (1, .int x1), (2, .int x2), (3, .int x3), (5, .int x5)]) C dL_holds_138 rfl (by decide) rfl ?_
  refine g_iload (pc' := 142) C dL_holds_140 rfl rfl ?_
  obtain ⟨hv1, hv2⟩ := hv
  refine g_if_eq (pc' := 145) (tgt := 180) C dL_holds_142 rfl (by decide) (fun c => ?_) (fun c => ?_)
  · have hv := hv1 c
    refine g_iconst (pc' := 181) (v := (0 : Int32)) C dL_holds_180 rfl (by decide) ?_
    exact RT (0 : Int32) () _ _ _ _ dL_holds_181 rfl (by decide) (by decide) hv
  · have hv := hv2 c
    refine g_iload (pc' := 147) C dL_holds_145 rfl rfl ?_
    refine g_aload_n (pc' := 148) C dL_holds_147 rfl rfl rfl ?_
    refine g_iload_n (pc' := 149) C dL_holds_148 rfl rfl rfl ?_
    refine g_iload_n (pc' := 150) C dL_holds_149 rfl rfl rfl ?_
    refine g_iconst (pc' := 151) (v := (3 : Int32)) C dL_holds_150 rfl (by decide) ?_
    refine cfI (pc' := 154) C (run_VI (rest := [.int x5]) C lk_L_43 (mtX3_year hv) ⟨by decide, by decide⟩ rfl rfl rfl rfl (Nat.le_of_ble_eq_true rfl) ⟨Nat.zero_le _, Nat.zero_le _⟩ dL_holds_151) rfl [0, 1, 2, 3, 4, 5, 6, 7, 8, 9, 10, 11, 12] [] [0, 1, 2, 3, 4, 5, 6, 7, 8, 9, 10, 11, 12] nd_HB di_HB (fun u151 => wB γ ad seen cnt pwc par amt held clos seW seS leW leS) rfl rfl (fun _ => rfl) (fun r151 u151 hv => ?_)
    refine g_aload_n (pc' := 155) C dL_holds_154 rfl rfl rfl ?_
    refine g_iload_n (pc' := 156) C dL_holds_155 rfl rfl rfl ?_
    refine g_iload_n (pc' := 157) C dL_holds_156 rfl rfl rfl ?_
    refine g_iconst (pc' := 158) (v := (3 : Int32)) C dL_holds_157 rfl (by decide) ?_
    refine cfI (pc' := 161) C (run_VI (rest := [.int r151, .int x5]) C lk_L_43 (mtX3_year hv) ⟨by decide, by decide⟩ rfl rfl rfl rfl (Nat.le_of_ble_eq_true rfl) ⟨Nat.zero_le _, Nat.zero_le _⟩ dL_holds_158) rfl [0, 1, 2, 3, 4, 5, 6, 7, 8, 9, 10, 11, 12] [] [0, 1, 2, 3, 4, 5, 6, 7, 8, 9, 10, 11, 12] nd_HB di_HB (fun u158 => wB γ ad seen cnt pwc par amt held clos seW seS leW leS) rfl rfl (fun _ => rfl) (fun r158 u158 hv => ?_)
    refine g_isub (pc' := 162) C dL_holds_161 rfl ?_
    obtain ⟨hv1, hv2⟩ := hv
    refine g_icmp_ne (pc' := 165) (tgt := 180) C dL_holds_162 rfl (by decide) (fun c => ?_) (fun c => ?_)
    · have hv := hv1 c
      refine g_iconst (pc' := 181) (v := (0 : Int32)) C dL_holds_180 rfl (by decide) ?_
      exact RT (0 : Int32) () _ _ _ _ dL_holds_181 rfl (by decide) (by decide) hv
    · have hv := hv2 c
      refine g_aload_n (pc' := 166) C dL_holds_165 rfl rfl rfl ?_
      refine g_iload_n (pc' := 167) C dL_holds_166 rfl rfl rfl ?_
      refine g_iload_n (pc' := 168) C dL_holds_167 rfl rfl rfl ?_
      refine g_iload_n (pc' := 169) C dL_holds_168 rfl rfl rfl ?_
      refine g_iconst (pc' := 170) (v := (0 : Int32)) C dL_holds_169 rfl (by decide) ?_
      refine cfI (pc' := 173) C (run_VI (rest := []) C lk_L_49 (mtX3_gap hv) ⟨by decide, by decide⟩ rfl rfl rfl rfl (Nat.le_of_ble_eq_true rfl) ⟨Nat.zero_le _, Nat.zero_le _⟩ dL_holds_170) rfl [0, 1, 2, 3, 4, 5, 6, 7, 8, 9, 10, 11, 12] [] [0, 1, 2, 3, 4, 5, 6, 7, 8, 9, 10, 11, 12] nd_HB di_HB (fun u170 => wB γ ad seen cnt pwc par amt held clos seW seS leW leS) rfl rfl (fun _ => rfl) (fun r170 u170 hv => ?_)
      obtain ⟨hv1, hv2⟩ := hv
      refine g_if_ne (pc' := 176) (tgt := 180) C dL_holds_173 rfl (by decide) (fun c => ?_) (fun c => ?_)
      · have hv := hv1 c
        refine g_iconst (pc' := 181) (v := (0 : Int32)) C dL_holds_180 rfl (by decide) ?_
        exact RT (0 : Int32) () _ _ _ _ dL_holds_181 rfl (by decide) (by decide) hv
      · have hv := hv2 c
        refine g_iconst (pc' := 177) (v := (1 : Int32)) C dL_holds_176 rfl (by decide) ?_
        refine g_goto (tgt := 181) C dL_holds_177 (by decide) ?_
        exact RT (1 : Int32) () _ _ _ _ dL_holds_181 rfl (by decide) (by decide) hv
def vL_holds_J137 (cnt : Int32) (pwc : Int32) (par : Ar) (amt : Ar) (x1 : Int32) (x2 : Int32) (x3 : Int32) (x5 : Int32) (Q : Int32 → Prop) : Prop := (vL_holds_J138 cnt pwc par amt x1 x2 x3 x5 (0 : Int32) Q)
set_option maxHeartbeats 4000000 in
set_option maxRecDepth 100000 in
theorem wvL_holds_J137 {l : Launch} {γ : Gm} {κ : Kx} {ad : Nat → Nat} {seen : Int32} {cnt : Int32} {pwc : Int32} {par : Ar} {amt : Ar} {held : Ar} {clos : Ar} {seW : Ar} {seS : Ar} {leW : Ar} {leS : Ar} {x1 : Int32} {x2 : Int32} {x3 : Int32} {x5 : Int32} {Q : Int32 → Prop} (C : Ok γ κ cL_holds 6 RL 8 130) (RT : RtI l γ κ cL_holds .boolean 0 0 (fun (r : Int32) (_ : Unit) => Q r) (fun _ => wB γ ad seen cnt pwc par amt held clos seW seS leW leS))  (hv : vL_holds_J137 cnt pwc par amt x1 x2 x3 x5 Q) : G l γ κ (wB γ ad seen cnt pwc par amt held clos seW seS leW leS) [(0, .ref (ad 0)), (1, .int x1), (2, .int x2), (3, .int x3), (5, .int x5)] 0 0 [] 137 := by
  refine g_iconst (pc' := 138) (v := (0 : Int32)) C dL_holds_137 rfl (by decide) ?_
  exact wvL_holds_J138 C RT  hv
def vL_holds_J87 (cnt : Int32) (pwc : Int32) (par : Ar) (amt : Ar) (x1 : Int32) (x2 : Int32) (x3 : Int32) (x4 : Int32) (Q : Int32 → Prop) : Prop := (vX3_gap cnt pwc par amt x1 x2 x3 (0 : Int32) (fun r92 => ((x4 = (0 : Int32) → (vL_holds_J137 cnt pwc par amt x1 x2 x3 r92 Q)) ∧ (¬ x4 = (0 : Int32) → (vX3_gap cnt pwc par amt x1 x2 x3 (1 : Int32) (fun r109 => (vX3_gap cnt pwc par amt x1 x2 x3 (2 : Int32) (fun r117 => (vX3_gap cnt pwc par amt x1 x2 x3 (3 : Int32) (fun r126 => ((¬ r92 = ((r109 + r117) + r126) → (vL_holds_J137 cnt pwc par amt x1 x2 x3 r92 Q)) ∧ (r92 = ((r109 + r117) + r126) → (vL_holds_J138 cnt pwc par amt x1 x2 x3 r92 (1 : Int32) Q)))))))))))))
set_option maxHeartbeats 4000000 in
set_option maxRecDepth 100000 in
theorem wvL_holds_J87 {l : Launch} {γ : Gm} {κ : Kx} {ad : Nat → Nat} {seen : Int32} {cnt : Int32} {pwc : Int32} {par : Ar} {amt : Ar} {held : Ar} {clos : Ar} {seW : Ar} {seS : Ar} {leW : Ar} {leS : Ar} {x1 : Int32} {x2 : Int32} {x3 : Int32} {x4 : Int32} {Q : Int32 → Prop} (C : Ok γ κ cL_holds 6 RL 8 130) (RT : RtI l γ κ cL_holds .boolean 0 0 (fun (r : Int32) (_ : Unit) => Q r) (fun _ => wB γ ad seen cnt pwc par amt held clos seW seS leW leS))  (hv : vL_holds_J87 cnt pwc par amt x1 x2 x3 x4 Q) : G l γ κ (wB γ ad seen cnt pwc par amt held clos seW seS leW leS) [(0, .ref (ad 0)), (1, .int x1), (2, .int x2), (3, .int x3), (4, .int x4)] 0 0 [] 87 := by
  refine g_aload_n (pc' := 88) C dL_holds_87 rfl rfl rfl ?_
  refine g_iload_n (pc' := 89) C dL_holds_88 rfl rfl rfl ?_
  refine g_iload_n (pc' := 90) C dL_holds_89 rfl rfl rfl ?_
  refine g_iload_n (pc' := 91) C dL_holds_90 rfl rfl rfl ?_
  refine g_iconst (pc' := 92) (v := (0 : Int32)) C dL_holds_91 rfl (by decide) ?_
  refine cfI (pc' := 95) C (run_VI (rest := []) C lk_L_49 (mtX3_gap hv) ⟨by decide, by decide⟩ rfl rfl rfl rfl (Nat.le_of_ble_eq_true rfl) ⟨Nat.zero_le _, Nat.zero_le _⟩ dL_holds_92) rfl [0, 1, 2, 3, 4, 5, 6, 7, 8, 9, 10, 11, 12] [] [0, 1, 2, 3, 4, 5, 6, 7, 8, 9, 10, 11, 12] nd_HB di_HB (fun u92 => wB γ ad seen cnt pwc par amt held clos seW seS leW leS) rfl rfl (fun _ => rfl) (fun r92 u92 hv => ?_)
  refine g_istore (pc' := 97) (lv' := [(5, .int r92), (0, .ref (ad 0)), (1, .int x1), (2, .int x2), (3, .int x3), (4, .int x4)]) C dL_holds_95 rfl (by decide) rfl ?_
  refine g_iload (pc' := 99) C dL_holds_97 rfl rfl ?_
  obtain ⟨hv1, hv2⟩ := hv
  refine g_if_eq (pc' := 102) (tgt := 137) C dL_holds_99 rfl (by decide) (fun c => ?_) (fun c => ?_)
  · have hv := hv1 c
    refine g_sub (lv' := [(0, .ref (ad 0)), (1, .int x1), (2, .int x2), (3, .int x3), (5, .int r92)]) [1, 2, 3, 4, 0] rfl ?_
    exact wvL_holds_J137 C RT  hv
  · have hv := hv2 c
    refine g_iload (pc' := 104) C dL_holds_102 rfl rfl ?_
    refine g_aload_n (pc' := 105) C dL_holds_104 rfl rfl rfl ?_
    refine g_iload_n (pc' := 106) C dL_holds_105 rfl rfl rfl ?_
    refine g_iload_n (pc' := 107) C dL_holds_106 rfl rfl rfl ?_
    refine g_iload_n (pc' := 108) C dL_holds_107 rfl rfl rfl ?_
    refine g_iconst (pc' := 109) (v := (1 : Int32)) C dL_holds_108 rfl (by decide) ?_
    refine cfI (pc' := 112) C (run_VI (rest := [.int r92]) C lk_L_49 (mtX3_gap hv) ⟨by decide, by decide⟩ rfl rfl rfl rfl (Nat.le_of_ble_eq_true rfl) ⟨Nat.zero_le _, Nat.zero_le _⟩ dL_holds_109) rfl [0, 1, 2, 3, 4, 5, 6, 7, 8, 9, 10, 11, 12] [] [0, 1, 2, 3, 4, 5, 6, 7, 8, 9, 10, 11, 12] nd_HB di_HB (fun u109 => wB γ ad seen cnt pwc par amt held clos seW seS leW leS) rfl rfl (fun _ => rfl) (fun r109 u109 hv => ?_)
    refine g_aload_n (pc' := 113) C dL_holds_112 rfl rfl rfl ?_
    refine g_iload_n (pc' := 114) C dL_holds_113 rfl rfl rfl ?_
    refine g_iload_n (pc' := 115) C dL_holds_114 rfl rfl rfl ?_
    refine g_iload_n (pc' := 116) C dL_holds_115 rfl rfl rfl ?_
    refine g_iconst (pc' := 117) (v := (2 : Int32)) C dL_holds_116 rfl (by decide) ?_
    refine cfI (pc' := 120) C (run_VI (rest := [.int r109, .int r92]) C lk_L_49 (mtX3_gap hv) ⟨by decide, by decide⟩ rfl rfl rfl rfl (Nat.le_of_ble_eq_true rfl) ⟨Nat.zero_le _, Nat.zero_le _⟩ dL_holds_117) rfl [0, 1, 2, 3, 4, 5, 6, 7, 8, 9, 10, 11, 12] [] [0, 1, 2, 3, 4, 5, 6, 7, 8, 9, 10, 11, 12] nd_HB di_HB (fun u117 => wB γ ad seen cnt pwc par amt held clos seW seS leW leS) rfl rfl (fun _ => rfl) (fun r117 u117 hv => ?_)
    refine g_iadd (pc' := 121) C dL_holds_120 rfl ?_
    refine g_aload_n (pc' := 122) C dL_holds_121 rfl rfl rfl ?_
    refine g_iload_n (pc' := 123) C dL_holds_122 rfl rfl rfl ?_
    refine g_iload_n (pc' := 124) C dL_holds_123 rfl rfl rfl ?_
    refine g_iload_n (pc' := 125) C dL_holds_124 rfl rfl rfl ?_
    refine g_iconst (pc' := 126) (v := (3 : Int32)) C dL_holds_125 rfl (by decide) ?_
    refine cfI (pc' := 129) C (run_VI (rest := [.int (r109 + r117), .int r92]) C lk_L_49 (mtX3_gap hv) ⟨by decide, by decide⟩ rfl rfl rfl rfl (Nat.le_of_ble_eq_true rfl) ⟨Nat.zero_le _, Nat.zero_le _⟩ dL_holds_126) rfl [0, 1, 2, 3, 4, 5, 6, 7, 8, 9, 10, 11, 12] [] [0, 1, 2, 3, 4, 5, 6, 7, 8, 9, 10, 11, 12] nd_HB di_HB (fun u126 => wB γ ad seen cnt pwc par amt held clos seW seS leW leS) rfl rfl (fun _ => rfl) (fun r126 u126 hv => ?_)
    refine g_iadd (pc' := 130) C dL_holds_129 rfl ?_
    obtain ⟨hv1, hv2⟩ := hv
    refine g_icmp_ne (pc' := 133) (tgt := 137) C dL_holds_130 rfl (by decide) (fun c => ?_) (fun c => ?_)
    · have hv := hv1 c
      refine g_sub (lv' := [(0, .ref (ad 0)), (1, .int x1), (2, .int x2), (3, .int x3), (5, .int r92)]) [1, 2, 3, 4, 0] rfl ?_
      exact wvL_holds_J137 C RT  hv
    · have hv := hv2 c
      refine g_iconst (pc' := 134) (v := (1 : Int32)) C dL_holds_133 rfl (by decide) ?_
      refine g_goto (tgt := 138) C dL_holds_134 (by decide) ?_
      refine g_sub (lv' := [(0, .ref (ad 0)), (1, .int x1), (2, .int x2), (3, .int x3), (5, .int r92)]) [1, 2, 3, 4, 0] rfl ?_
      exact wvL_holds_J138 C RT  hv
def vL_holds_L25 (cnt : Int32) (pwc : Int32) (par : Ar) (amt : Ar) (x1 : Int32) (x2 : Int32) (x3 : Int32) (Q : Int32 → Prop) : Nat → Int32 → Int32 → Prop
  | 0, _, _ => False
  | n + 1, x4, x5 => (((4 : Int32) ≤ x5 → (vL_holds_J87 cnt pwc par amt x1 x2 x3 x4 Q)) ∧ (¬ (4 : Int32) ≤ x5 → ((x4 = (0 : Int32) → (vL_holds_J87 cnt pwc par amt x1 x2 x3 x4 Q)) ∧ (¬ x4 = (0 : Int32) → (vX3_year cnt pwc par amt x1 x3 x5 (fun r41 => (vX3_yearByLeaves cnt pwc par amt x1 x3 x5 (fun r49 => ((¬ r41 = r49 → (vL_holds_L25 cnt pwc par amt x1 x2 x3 Q n (0 : Int32) (x5 + (1 : Int32)))) ∧ (r41 = r49 → (vX3_year cnt pwc par amt x1 x3 x5 (fun r60 => (vX3_year cnt pwc par amt x1 (0 : Int32) x5 (fun r68 => ((r68 < r60 → (vL_holds_L25 cnt pwc par amt x1 x2 x3 Q n (0 : Int32) (x5 + (1 : Int32)))) ∧ (¬ r68 < r60 → (vL_holds_L25 cnt pwc par amt x1 x2 x3 Q n (1 : Int32) (x5 + (1 : Int32)))))))))))))))))))
set_option maxHeartbeats 4000000 in
set_option maxRecDepth 100000 in
theorem wvL_holds_L25 {l : Launch} {γ : Gm} {κ : Kx} {ad : Nat → Nat} {seen : Int32} {cnt : Int32} {pwc : Int32} {par : Ar} {amt : Ar} {held : Ar} {clos : Ar} {seW : Ar} {seS : Ar} {leW : Ar} {leS : Ar} {x1 : Int32} {x2 : Int32} {x3 : Int32} {Q : Int32 → Prop} (C : Ok γ κ cL_holds 6 RL 8 130) (RT : RtI l γ κ cL_holds .boolean 0 0 (fun (r : Int32) (_ : Unit) => Q r) (fun _ => wB γ ad seen cnt pwc par amt held clos seW seS leW leS))  : ∀ (n : Nat) (x4 : Int32) (x5 : Int32), vL_holds_L25 cnt pwc par amt x1 x2 x3 Q n x4 x5 → G l γ κ (wB γ ad seen cnt pwc par amt held clos seW seS leW leS) [(0, .ref (ad 0)), (1, .int x1), (2, .int x2), (3, .int x3), (4, .int x4), (5, .int x5)] 0 0 [] 25 := by
  intro n
  induction n with
  | zero => intro x4 x5 hv; exact False.elim hv
  | succ n ih =>
    intro x4 x5 hv
    refine g_iload (pc' := 27) C dL_holds_25 rfl rfl ?_
    refine g_iconst (pc' := 28) (v := (4 : Int32)) C dL_holds_27 rfl (by decide) ?_
    obtain ⟨hv1, hv2⟩ := hv
    refine g_icmp_ge (pc' := 31) (tgt := 87) C dL_holds_28 rfl (by decide) (fun c => ?_) (fun c => ?_)
    · have hv := hv1 c
      refine g_sub (lv' := [(0, .ref (ad 0)), (1, .int x1), (2, .int x2), (3, .int x3), (4, .int x4)]) [0, 1, 2, 3, 4] rfl ?_
      exact wvL_holds_J87 C RT  hv
    · have hv := hv2 c
      refine g_iload (pc' := 33) C dL_holds_31 rfl rfl ?_
      obtain ⟨hv1, hv2⟩ := hv
      refine g_if_eq (pc' := 36) (tgt := 87) C dL_holds_33 rfl (by decide) (fun c => ?_) (fun c => ?_)
      · have hv := hv1 c
        refine g_sub (lv' := [(0, .ref (ad 0)), (1, .int x1), (2, .int x2), (3, .int x3), (4, .int x4)]) [0, 1, 2, 3, 4] rfl ?_
        exact wvL_holds_J87 C RT  hv
      · have hv := hv2 c
        refine g_aload_n (pc' := 37) C dL_holds_36 rfl rfl rfl ?_
        refine g_iload_n (pc' := 38) C dL_holds_37 rfl rfl rfl ?_
        refine g_iload_n (pc' := 39) C dL_holds_38 rfl rfl rfl ?_
        refine g_iload (pc' := 41) C dL_holds_39 rfl rfl ?_
        refine cfI (pc' := 44) C (run_VI (rest := []) C lk_L_43 (mtX3_year hv) ⟨by decide, by decide⟩ rfl rfl rfl rfl (Nat.le_of_ble_eq_true rfl) ⟨Nat.zero_le _, Nat.zero_le _⟩ dL_holds_41) rfl [0, 1, 2, 3, 4, 5, 6, 7, 8, 9, 10, 11, 12] [] [0, 1, 2, 3, 4, 5, 6, 7, 8, 9, 10, 11, 12] nd_HB di_HB (fun u41 => wB γ ad seen cnt pwc par amt held clos seW seS leW leS) rfl rfl (fun _ => rfl) (fun r41 u41 hv => ?_)
        refine g_aload_n (pc' := 45) C dL_holds_44 rfl rfl rfl ?_
        refine g_iload_n (pc' := 46) C dL_holds_45 rfl rfl rfl ?_
        refine g_iload_n (pc' := 47) C dL_holds_46 rfl rfl rfl ?_
        refine g_iload (pc' := 49) C dL_holds_47 rfl rfl ?_
        refine cfI (pc' := 52) C (run_VI (rest := [.int r41]) C lk_L_46 (mtX3_yearByLeaves hv) ⟨by decide, by decide⟩ rfl rfl rfl rfl (Nat.le_of_ble_eq_true rfl) ⟨Nat.zero_le _, Nat.zero_le _⟩ dL_holds_49) rfl [0, 1, 2, 3, 4, 5, 6, 7, 8, 9, 10, 11, 12] [] [0, 1, 2, 3, 4, 5, 6, 7, 8, 9, 10, 11, 12] nd_HB di_HB (fun u49 => wB γ ad seen cnt pwc par amt held clos seW seS leW leS) rfl rfl (fun _ => rfl) (fun r49 u49 hv => ?_)
        obtain ⟨hv1, hv2⟩ := hv
        refine g_icmp_ne (pc' := 55) (tgt := 78) C dL_holds_52 rfl (by decide) (fun c => ?_) (fun c => ?_)
        · have hv := hv1 c
          refine g_iconst (pc' := 79) (v := (0 : Int32)) C dL_holds_78 rfl (by decide) ?_
          refine g_istore (pc' := 81) (lv' := [(4, .int (0 : Int32)), (0, .ref (ad 0)), (1, .int x1), (2, .int x2), (3, .int x3), (5, .int x5)]) C dL_holds_79 rfl (by decide) rfl ?_
          refine g_iinc (pc' := 84) (v := (x5 + (1 : Int32))) (lv' := [(5, .int (x5 + (1 : Int32))), (4, .int (0 : Int32)), (0, .ref (ad 0)), (1, .int x1), (2, .int x2), (3, .int x3)]) C dL_holds_81 rfl rfl rfl (by decide) rfl ?_
          refine g_goto (tgt := 25) C dL_holds_84 (by decide) ?_
          refine g_sub (lv' := [(0, .ref (ad 0)), (1, .int x1), (2, .int x2), (3, .int x3), (4, .int (0 : Int32)), (5, .int (x5 + (1 : Int32)))]) [2, 3, 4, 5, 1, 0] rfl ?_
          exact ih _ _ hv
        · have hv := hv2 c
          refine g_aload_n (pc' := 56) C dL_holds_55 rfl rfl rfl ?_
          refine g_iload_n (pc' := 57) C dL_holds_56 rfl rfl rfl ?_
          refine g_iload_n (pc' := 58) C dL_holds_57 rfl rfl rfl ?_
          refine g_iload (pc' := 60) C dL_holds_58 rfl rfl ?_
          refine cfI (pc' := 63) C (run_VI (rest := []) C lk_L_43 (mtX3_year hv) ⟨by decide, by decide⟩ rfl rfl rfl rfl (Nat.le_of_ble_eq_true rfl) ⟨Nat.zero_le _, Nat.zero_le _⟩ dL_holds_60) rfl [0, 1, 2, 3, 4, 5, 6, 7, 8, 9, 10, 11, 12] [] [0, 1, 2, 3, 4, 5, 6, 7, 8, 9, 10, 11, 12] nd_HB di_HB (fun u60 => wB γ ad seen cnt pwc par amt held clos seW seS leW leS) rfl rfl (fun _ => rfl) (fun r60 u60 hv => ?_)
          refine g_aload_n (pc' := 64) C dL_holds_63 rfl rfl rfl ?_
          refine g_iload_n (pc' := 65) C dL_holds_64 rfl rfl rfl ?_
          refine g_iconst (pc' := 66) (v := (0 : Int32)) C dL_holds_65 rfl (by decide) ?_
          refine g_iload (pc' := 68) C dL_holds_66 rfl rfl ?_
          refine cfI (pc' := 71) C (run_VI (rest := [.int r60]) C lk_L_43 (mtX3_year hv) ⟨by decide, by decide⟩ rfl rfl rfl rfl (Nat.le_of_ble_eq_true rfl) ⟨Nat.zero_le _, Nat.zero_le _⟩ dL_holds_68) rfl [0, 1, 2, 3, 4, 5, 6, 7, 8, 9, 10, 11, 12] [] [0, 1, 2, 3, 4, 5, 6, 7, 8, 9, 10, 11, 12] nd_HB di_HB (fun u68 => wB γ ad seen cnt pwc par amt held clos seW seS leW leS) rfl rfl (fun _ => rfl) (fun r68 u68 hv => ?_)
          obtain ⟨hv1, hv2⟩ := hv
          refine g_icmp_gt (pc' := 74) (tgt := 78) C dL_holds_71 rfl (by decide) (fun c => ?_) (fun c => ?_)
          · have hv := hv1 c
            refine g_iconst (pc' := 79) (v := (0 : Int32)) C dL_holds_78 rfl (by decide) ?_
            refine g_istore (pc' := 81) (lv' := [(4, .int (0 : Int32)), (0, .ref (ad 0)), (1, .int x1), (2, .int x2), (3, .int x3), (5, .int x5)]) C dL_holds_79 rfl (by decide) rfl ?_
            refine g_iinc (pc' := 84) (v := (x5 + (1 : Int32))) (lv' := [(5, .int (x5 + (1 : Int32))), (4, .int (0 : Int32)), (0, .ref (ad 0)), (1, .int x1), (2, .int x2), (3, .int x3)]) C dL_holds_81 rfl rfl rfl (by decide) rfl ?_
            refine g_goto (tgt := 25) C dL_holds_84 (by decide) ?_
            refine g_sub (lv' := [(0, .ref (ad 0)), (1, .int x1), (2, .int x2), (3, .int x3), (4, .int (0 : Int32)), (5, .int (x5 + (1 : Int32)))]) [2, 3, 4, 5, 1, 0] rfl ?_
            exact ih _ _ hv
          · have hv := hv2 c
            refine g_iconst (pc' := 75) (v := (1 : Int32)) C dL_holds_74 rfl (by decide) ?_
            refine g_goto (tgt := 79) C dL_holds_75 (by decide) ?_
            refine g_istore (pc' := 81) (lv' := [(4, .int (1 : Int32)), (0, .ref (ad 0)), (1, .int x1), (2, .int x2), (3, .int x3), (5, .int x5)]) C dL_holds_79 rfl (by decide) rfl ?_
            refine g_iinc (pc' := 84) (v := (x5 + (1 : Int32))) (lv' := [(5, .int (x5 + (1 : Int32))), (4, .int (1 : Int32)), (0, .ref (ad 0)), (1, .int x1), (2, .int x2), (3, .int x3)]) C dL_holds_81 rfl rfl rfl (by decide) rfl ?_
            refine g_goto (tgt := 25) C dL_holds_84 (by decide) ?_
            refine g_sub (lv' := [(0, .ref (ad 0)), (1, .int x1), (2, .int x2), (3, .int x3), (4, .int (1 : Int32)), (5, .int (x5 + (1 : Int32)))]) [2, 3, 4, 5, 1, 0] rfl ?_
            exact ih _ _ hv
def vL_holds (cnt : Int32) (pwc : Int32) (par : Ar) (amt : Ar) (x1 : Int32) (x2 : Int32) (x3 : Int32) (Q : Int32 → Prop) : Prop := (vX3_filled amt (fun r1 => ((r1 < (0 : Int32) → (∃ n25 : Nat, vL_holds_L25 cnt pwc par amt x1 x2 x3 Q n25 (0 : Int32) (0 : Int32))) ∧ (¬ r1 < (0 : Int32) → (vX3_leaves cnt pwc par x3 (fun r9 => ((r9 = (0 : Int32) → (∃ n25 : Nat, vL_holds_L25 cnt pwc par amt x1 x2 x3 Q n25 (0 : Int32) (0 : Int32))) ∧ (¬ r9 = (0 : Int32) → (∃ n25 : Nat, vL_holds_L25 cnt pwc par amt x1 x2 x3 Q n25 (1 : Int32) (0 : Int32))))))))))
set_option maxHeartbeats 4000000 in
set_option maxRecDepth 100000 in
theorem mtL_holds {l : Launch} {γ : Gm} {ad : Nat → Nat} {seen : Int32} {cnt : Int32} {pwc : Int32} {par : Ar} {amt : Ar} {held : Ar} {clos : Ar} {seW : Ar} {seS : Ar} {leW : Ar} {leS : Ar} {x1 : Int32} {x2 : Int32} {x3 : Int32} {Q : Int32 → Prop} (hv : vL_holds cnt pwc par amt x1 x2 x3 Q) : CtI l γ yL_holds cL_holds 6 .boolean 8 130 0 0 [.ref (ad 0), .int x1, .int x2, .int x3] (wB γ ad seen cnt pwc par amt held clos seW seS leW leS) (fun (r : Int32) (_ : Unit) => Q r) (fun _ => wB γ ad seen cnt pwc par amt held clos seW seS leW leS) := startI (by decide +kernel) (Nat.le_of_ble_eq_true rfl) (fun κ C RT hR hnm => by
  show G l γ κ (wB γ ad seen cnt pwc par amt held clos seW seS leW leS) [(0, .ref (ad 0)), (1, .int x1), (2, .int x2), (3, .int x3)] 0 0 [] 0
  refine g_aload_n (pc' := 1) C dL_holds_0 rfl rfl rfl ?_
  refine cfI (pc' := 4) C (run_VI (rest := []) C lk_L_36 (mtX3_filled hv) ⟨by decide, by decide⟩ rfl rfl rfl rfl (Nat.le_of_ble_eq_true rfl) ⟨Nat.zero_le _, Nat.zero_le _⟩ dL_holds_1) rfl [0, 1, 2, 3, 4, 5, 6, 7, 8, 9, 10, 11, 12] [] [0, 1, 2, 3, 4, 5, 6, 7, 8, 9, 10, 11, 12] nd_HB di_HB (fun u1 => wB γ ad seen cnt pwc par amt held clos seW seS leW leS) rfl rfl (fun _ => rfl) (fun r1 u1 hv => ?_)
  obtain ⟨hv1, hv2⟩ := hv
  refine g_if_lt (pc' := 7) (tgt := 19) C dL_holds_4 rfl (by decide) (fun c => ?_) (fun c => ?_)
  · have hv := hv1 c
    refine g_iconst (pc' := 20) (v := (0 : Int32)) C dL_holds_19 rfl (by decide) ?_
    refine g_istore (pc' := 22) (lv' := [(4, .int (0 : Int32)), (0, .ref (ad 0)), (1, .int x1), (2, .int x2), (3, .int x3)]) C dL_holds_20 rfl (by decide) rfl ?_
    refine g_iconst (pc' := 23) (v := (0 : Int32)) C dL_holds_22 rfl (by decide) ?_
    refine g_istore (pc' := 25) (lv' := [(5, .int (0 : Int32)), (4, .int (0 : Int32)), (0, .ref (ad 0)), (1, .int x1), (2, .int x2), (3, .int x3)]) C dL_holds_23 rfl (by decide) rfl ?_
    refine g_sub (lv' := [(0, .ref (ad 0)), (1, .int x1), (2, .int x2), (3, .int x3), (4, .int (0 : Int32)), (5, .int (0 : Int32))]) [2, 3, 4, 5, 1, 0] rfl ?_
    obtain ⟨n25, hv⟩ := hv
    exact wvL_holds_L25 C RT  n25 _ _ hv
  · have hv := hv2 c
    refine g_aload_n (pc' := 8) C dL_holds_7 rfl rfl rfl ?_
    refine g_iload_n (pc' := 9) C dL_holds_8 rfl rfl rfl ?_
    refine cfI (pc' := 12) C (run_VI (rest := []) C lk_L_40 (mtX3_leaves hv) ⟨by decide, by decide⟩ rfl rfl rfl rfl (Nat.le_of_ble_eq_true rfl) ⟨Nat.zero_le _, Nat.zero_le _⟩ dL_holds_9) rfl [0, 1, 2, 3, 4, 5, 6, 7, 8, 9, 10, 11, 12] [] [0, 1, 2, 3, 4, 5, 6, 7, 8, 9, 10, 11, 12] nd_HB di_HB (fun u9 => wB γ ad seen cnt pwc par amt held clos seW seS leW leS) rfl rfl (fun _ => rfl) (fun r9 u9 hv => ?_)
    obtain ⟨hv1, hv2⟩ := hv
    refine g_if_eq (pc' := 15) (tgt := 19) C dL_holds_12 rfl (by decide) (fun c => ?_) (fun c => ?_)
    · have hv := hv1 c
      refine g_iconst (pc' := 20) (v := (0 : Int32)) C dL_holds_19 rfl (by decide) ?_
      refine g_istore (pc' := 22) (lv' := [(4, .int (0 : Int32)), (0, .ref (ad 0)), (1, .int x1), (2, .int x2), (3, .int x3)]) C dL_holds_20 rfl (by decide) rfl ?_
      refine g_iconst (pc' := 23) (v := (0 : Int32)) C dL_holds_22 rfl (by decide) ?_
      refine g_istore (pc' := 25) (lv' := [(5, .int (0 : Int32)), (4, .int (0 : Int32)), (0, .ref (ad 0)), (1, .int x1), (2, .int x2), (3, .int x3)]) C dL_holds_23 rfl (by decide) rfl ?_
      refine g_sub (lv' := [(0, .ref (ad 0)), (1, .int x1), (2, .int x2), (3, .int x3), (4, .int (0 : Int32)), (5, .int (0 : Int32))]) [2, 3, 4, 5, 1, 0] rfl ?_
      obtain ⟨n25, hv⟩ := hv
      exact wvL_holds_L25 C RT  n25 _ _ hv
    · have hv := hv2 c
      refine g_iconst (pc' := 16) (v := (1 : Int32)) C dL_holds_15 rfl (by decide) ?_
      refine g_goto (tgt := 20) C dL_holds_16 (by decide) ?_
      refine g_istore (pc' := 22) (lv' := [(4, .int (1 : Int32)), (0, .ref (ad 0)), (1, .int x1), (2, .int x2), (3, .int x3)]) C dL_holds_20 rfl (by decide) rfl ?_
      refine g_iconst (pc' := 23) (v := (0 : Int32)) C dL_holds_22 rfl (by decide) ?_
      refine g_istore (pc' := 25) (lv' := [(5, .int (0 : Int32)), (4, .int (1 : Int32)), (0, .ref (ad 0)), (1, .int x1), (2, .int x2), (3, .int x3)]) C dL_holds_23 rfl (by decide) rfl ?_
      refine g_sub (lv' := [(0, .ref (ad 0)), (1, .int x1), (2, .int x2), (3, .int x3), (4, .int (1 : Int32)), (5, .int (0 : Int32))]) [2, 3, 4, 5, 1, 0] rfl ?_
      obtain ⟨n25, hv⟩ := hv
      exact wvL_holds_L25 C RT  n25 _ _ hv)
def vL_isLeaf (cnt : Int32) (pwc : Int32) (par : Ar) (x1 : Int32) (Q : Int32 → Prop) : Prop := (vX3_leaves cnt pwc par x1 (fun r2 => ((¬ r2 = ((1 : Int32) <<< (x1 &&& 31)) → (Q (0 : Int32))) ∧ (r2 = ((1 : Int32) <<< (x1 &&& 31)) → (Q (1 : Int32))))))
set_option maxHeartbeats 4000000 in
set_option maxRecDepth 100000 in
theorem mtL_isLeaf {l : Launch} {γ : Gm} {ad : Nat → Nat} {seen : Int32} {cnt : Int32} {pwc : Int32} {par : Ar} {amt : Ar} {held : Ar} {clos : Ar} {seW : Ar} {seS : Ar} {leW : Ar} {leS : Ar} {x1 : Int32} {Q : Int32 → Prop} (hv : vL_isLeaf cnt pwc par x1 Q) : CtI l γ yL_isLeaf cL_isLeaf 2 .boolean 8 124 0 0 [.ref (ad 0), .int x1] (wB γ ad seen cnt pwc par amt held clos seW seS leW leS) (fun (r : Int32) (_ : Unit) => Q r) (fun _ => wB γ ad seen cnt pwc par amt held clos seW seS leW leS) := startI (by decide +kernel) (Nat.le_of_ble_eq_true rfl) (fun κ C RT hR hnm => by
  show G l γ κ (wB γ ad seen cnt pwc par amt held clos seW seS leW leS) [(0, .ref (ad 0)), (1, .int x1)] 0 0 [] 0
  refine g_aload_n (pc' := 1) C dL_isLeaf_0 rfl rfl rfl ?_
  refine g_iload_n (pc' := 2) C dL_isLeaf_1 rfl rfl rfl ?_
  refine cfI (pc' := 5) C (run_VI (rest := []) C lk_L_40 (mtX3_leaves hv) ⟨by decide, by decide⟩ rfl rfl rfl rfl (Nat.le_of_ble_eq_true rfl) ⟨Nat.zero_le _, Nat.zero_le _⟩ dL_isLeaf_2) rfl [0, 1, 2, 3, 4, 5, 6, 7, 8, 9, 10, 11, 12] [] [0, 1, 2, 3, 4, 5, 6, 7, 8, 9, 10, 11, 12] nd_HB di_HB (fun u2 => wB γ ad seen cnt pwc par amt held clos seW seS leW leS) rfl rfl (fun _ => rfl) (fun r2 u2 hv => ?_)
  refine g_iconst (pc' := 6) (v := (1 : Int32)) C dL_isLeaf_5 rfl (by decide) ?_
  refine g_iload_n (pc' := 7) C dL_isLeaf_6 rfl rfl rfl ?_
  refine g_ishl (pc' := 8) C dL_isLeaf_7 rfl ?_
  obtain ⟨hv1, hv2⟩ := hv
  refine g_icmp_ne (pc' := 11) (tgt := 15) C dL_isLeaf_8 rfl (by decide) (fun c => ?_) (fun c => ?_)
  · have hv := hv1 c
    refine g_iconst (pc' := 16) (v := (0 : Int32)) C dL_isLeaf_15 rfl (by decide) ?_
    exact RT (0 : Int32) () _ _ _ _ dL_isLeaf_16 rfl (by decide) (by decide) hv
  · have hv := hv2 c
    refine g_iconst (pc' := 12) (v := (1 : Int32)) C dL_isLeaf_11 rfl (by decide) ?_
    refine g_goto (tgt := 16) C dL_isLeaf_12 (by decide) ?_
    exact RT (1 : Int32) () _ _ _ _ dL_isLeaf_16 rfl (by decide) (by decide) hv)
