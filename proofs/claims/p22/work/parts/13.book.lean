/-! formulas and walks, by program -/
def vX3_checkPlace (cnt : Int32) (x1 : Int32) (Q : Prop) : Prop := (vX2_has cnt x1 (fun r5 => ((¬ r5 = (0 : Int32) → Q) ∧ (r5 = (0 : Int32) → False))))
set_option maxHeartbeats 4000000 in
set_option maxRecDepth 100000 in
theorem mtX3_checkPlace {l : Launch} {γ : Gm} {ad : Nat → Nat} {seen : Int32} {cnt : Int32} {pwc : Int32} {par : Ar} {amt : Ar} {held : Ar} {clos : Ar} {seW : Ar} {seS : Ar} {leW : Ar} {leS : Ar} {x1 : Int32} {Q : Prop} (hv : vX3_checkPlace cnt x1 Q) : CtV l γ yX3_checkPlace cX3_checkPlace 2 6 82 0 0 [.ref (ad 0), .int x1] (wB γ ad seen cnt pwc par amt held clos seW seS leW leS) (fun (_ : Unit) => Q) (fun _ => wB γ ad seen cnt pwc par amt held clos seW seS leW leS) := startV (by decide +kernel) (Nat.le_of_ble_eq_true rfl) (fun κ C RT hR hnm => by
  show G l γ κ (wB γ ad seen cnt pwc par amt held clos seW seS leW leS) [(0, .ref (ad 0)), (1, .int x1)] 0 0 [] 0
  refine g_aload_n (pc' := 1) C dX3_checkPlace_0 rfl rfl rfl ?_
  refine gf_X3_12 (pc' := 4) C dX3_checkPlace_1 rfl 0 rfl rfl ?_
  refine g_iload_n (pc' := 5) C dX3_checkPlace_4 rfl rfl rfl ?_
  refine cfI (pc' := 8) C (run_VI (rest := []) C lk_X3_192 (mtX2_has hv) ⟨by decide, by decide⟩ rfl rfl rfl rfl (Nat.le_of_ble_eq_true rfl) ⟨Nat.zero_le _, Nat.zero_le _⟩ dX3_checkPlace_5) rfl [1, 7] [0, 2, 3, 4, 5, 6, 8, 9, 10, 11, 12] [0, 11, 1, 2, 3, 4, 5, 12, 6, 7, 8, 9, 10] nd_BT1 di_BT1 (fun u5 => wB γ ad seen cnt pwc par amt held clos seW seS leW leS) rfl rfl (fun _ => rfl) (fun r5 u5 hv => ?_)
  obtain ⟨hv1, hv2⟩ := hv
  refine g_if_ne (pc' := 11) (tgt := 21) C dX3_checkPlace_8 rfl (by decide) (fun c => ?_) (fun c => ?_)
  · have hv := hv1 c
    exact RT () _ _ _ _ dX3_checkPlace_21 (by decide) (by decide) hv
  · have hv := hv2 c
    exact hv.elim)
def zX3_checkPlace (cnt : Int32) (x1 : Int32) (X : String → Prop) : Prop := (vX2_has cnt x1 (fun r5 => ((¬ r5 = (0 : Int32) → False) ∧ (r5 = (0 : Int32) → (X eIO)))))
set_option maxHeartbeats 4000000 in
set_option maxRecDepth 100000 in
theorem mtzX3_checkPlace {l : Launch} (hfl : l.stackTraces = false) {γ : Gm} {ad : Nat → Nat} {seen : Int32} {cnt : Int32} {pwc : Int32} {par : Ar} {amt : Ar} {held : Ar} {clos : Ar} {seW : Ar} {seS : Ar} {leW : Ar} {leS : Ar} {x1 : Int32} {X : String → Prop} (hv : zX3_checkPlace cnt x1 X) : CtX l γ yX3_checkPlace cX3_checkPlace 2 none 6 82 [.ref (ad 0), .int x1] (wB γ ad seen cnt pwc par amt held clos seW seS leW leS) (fun (E : String) (_ : Unit) => X E) (fun _ => wB γ ad seen cnt pwc par amt held clos seW seS leW leS) := startX (by decide +kernel) (Nat.le_of_ble_eq_true rfl) (fun κ C hX => by
  show G l γ κ (wB γ ad seen cnt pwc par amt held clos seW seS leW leS) [(0, .ref (ad 0)), (1, .int x1)] 0 0 [] 0
  refine g_aload_n (pc' := 1) C dX3_checkPlace_0 rfl rfl rfl ?_
  refine gf_X3_12 (pc' := 4) C dX3_checkPlace_1 rfl 0 rfl rfl ?_
  refine g_iload_n (pc' := 5) C dX3_checkPlace_4 rfl rfl rfl ?_
  refine cfI (pc' := 8) C (run_VI (rest := []) C lk_X3_192 (mtX2_has hv) ⟨by decide, by decide⟩ rfl rfl rfl rfl (Nat.le_of_ble_eq_true rfl) ⟨Nat.zero_le _, Nat.zero_le _⟩ dX3_checkPlace_5) rfl [1, 7] [0, 2, 3, 4, 5, 6, 8, 9, 10, 11, 12] [0, 11, 1, 2, 3, 4, 5, 12, 6, 7, 8, 9, 10] nd_BT1 di_BT1 (fun u5 => wB γ ad seen cnt pwc par amt held clos seW seS leW leS) rfl rfl (fun _ => rfl) (fun r5 u5 hv => ?_)
  obtain ⟨hv1, hv2⟩ := hv
  refine g_if_ne (pc' := 11) (tgt := 21) C dX3_checkPlace_8 rfl (by decide) (fun c => ?_) (fun c => ?_)
  · have hv := hv1 c
    exact hv.elim
  · have hv := hv2 c
    exact g_throw hfl C hX () (th_eIO (List.mem_of_getElem? (i := 10) rfl)) (by decide) dX3_checkPlace_11 dX3_checkPlace_14 dX3_checkPlace_15 dX3_checkPlace_17 dX3_checkPlace_20 rfl hv)
def vX3_isInUse_L27 (amt : Ar) (held : Ar) (clos : Ar) (x1 : Int32) (Q : Int32 → Prop) : Nat → Int32 → Int32 → Prop
  | 0, _, _ => False
  | n + 1, x2, x3 => (((3 : Int32) ≤ x3 → (vX3_isIn x2 x1 (fun r49 => ((¬ r49 = (0 : Int32) → (Q (1 : Int32))) ∧ (r49 = (0 : Int32) → (vX0_isBlank amt x1 (fun r60 => ((¬ r60 = (0 : Int32) → (Q (0 : Int32))) ∧ (r60 = (0 : Int32) → (Q (1 : Int32))))))))))) ∧ (¬ (3 : Int32) ≤ x3 → (vp_in x3 3 ∧ (vX3_isInUse_L27 amt held clos x1 Q n (x2 ||| (clos x3.toNatClampNeg)) (x3 + (1 : Int32))))))
set_option maxHeartbeats 4000000 in
set_option maxRecDepth 100000 in
theorem wvX3_isInUse_L27 {l : Launch} {γ : Gm} {κ : Kx} {ad : Nat → Nat} {seen : Int32} {cnt : Int32} {pwc : Int32} {par : Ar} {amt : Ar} {held : Ar} {clos : Ar} {seW : Ar} {seS : Ar} {leW : Ar} {leS : Ar} {x1 : Int32} {Q : Int32 → Prop} (C : Ok γ κ cX3_isInUse 4 RX3 1 23) (RT : RtI l γ κ cX3_isInUse .boolean 0 0 (fun (r : Int32) (_ : Unit) => Q r) (fun _ => wB γ ad seen cnt pwc par amt held clos seW seS leW leS))  : ∀ (n : Nat) (x2 : Int32) (x3 : Int32), vX3_isInUse_L27 amt held clos x1 Q n x2 x3 → G l γ κ (wB γ ad seen cnt pwc par amt held clos seW seS leW leS) [(0, .ref (ad 0)), (1, .int x1), (2, .int x2), (3, .int x3)] 0 0 [] 27 := by
  intro n
  induction n with
  | zero => intro x2 x3 hv; exact False.elim hv
  | succ n ih =>
    intro x2 x3 hv
    refine g_iload_n (pc' := 28) C dX3_isInUse_27 rfl rfl rfl ?_
    refine g_iconst (pc' := 29) (v := (3 : Int32)) C dX3_isInUse_28 rfl (by decide) ?_
    obtain ⟨hv1, hv2⟩ := hv
    refine g_icmp_ge (pc' := 32) (tgt := 47) C dX3_isInUse_29 rfl (by decide) (fun c => ?_) (fun c => ?_)
    · have hv := hv1 c
      refine g_iload_n (pc' := 48) C dX3_isInUse_47 rfl rfl rfl ?_
      refine g_iload_n (pc' := 49) C dX3_isInUse_48 rfl rfl rfl ?_
      refine cnI (pc' := 52) C (run_SI (rest := []) C lk_X3_102 (mtX3_isIn hv) ⟨by decide, by decide⟩ rfl rfl (Nat.le_of_ble_eq_true rfl) ⟨Nat.zero_le _, Nat.zero_le _⟩ dX3_isInUse_49) rfl (fun r49 u49 hv => ?_)
      obtain ⟨hv1, hv2⟩ := hv
      refine g_if_ne (pc' := 55) (tgt := 66) C dX3_isInUse_52 rfl (by decide) (fun c => ?_) (fun c => ?_)
      · have hv := hv1 c
        refine g_iconst (pc' := 67) (v := (1 : Int32)) C dX3_isInUse_66 rfl (by decide) ?_
        refine g_goto (tgt := 71) C dX3_isInUse_67 (by decide) ?_
        exact RT (1 : Int32) () _ _ _ _ dX3_isInUse_71 rfl (by decide) (by decide) hv
      · have hv := hv2 c
        refine g_aload_n (pc' := 56) C dX3_isInUse_55 rfl rfl rfl ?_
        refine gf_X3_19 (pc' := 59) C dX3_isInUse_56 rfl 0 rfl rfl ?_
        refine g_iload_n (pc' := 60) C dX3_isInUse_59 rfl rfl rfl ?_
        refine cfI (pc' := 63) C (run_VI (rest := []) C lk_X3_171 (mtX0_isBlank hv) ⟨by decide, by decide⟩ rfl rfl rfl rfl (Nat.le_of_ble_eq_true rfl) ⟨Nat.zero_le _, Nat.zero_le _⟩ dX3_isInUse_60) rfl [2, 8] [0, 1, 3, 4, 5, 6, 7, 9, 10, 11, 12] [0, 1, 11, 2, 3, 4, 5, 6, 12, 7, 8, 9, 10] nd_BC2 di_BC2 (fun u60 => wB γ ad seen cnt pwc par amt held clos seW seS leW leS) rfl rfl (fun _ => rfl) (fun r60 u60 hv => ?_)
        obtain ⟨hv1, hv2⟩ := hv
        refine g_if_ne (pc' := 66) (tgt := 70) C dX3_isInUse_63 rfl (by decide) (fun c => ?_) (fun c => ?_)
        · have hv := hv1 c
          refine g_iconst (pc' := 71) (v := (0 : Int32)) C dX3_isInUse_70 rfl (by decide) ?_
          exact RT (0 : Int32) () _ _ _ _ dX3_isInUse_71 rfl (by decide) (by decide) hv
        · have hv := hv2 c
          refine g_iconst (pc' := 67) (v := (1 : Int32)) C dX3_isInUse_66 rfl (by decide) ?_
          refine g_goto (tgt := 71) C dX3_isInUse_67 (by decide) ?_
          exact RT (1 : Int32) () _ _ _ _ dX3_isInUse_71 rfl (by decide) (by decide) hv
    · have hv := hv2 c
      refine g_iload_n (pc' := 33) C dX3_isInUse_32 rfl rfl rfl ?_
      refine g_aload_n (pc' := 34) C dX3_isInUse_33 rfl rfl rfl ?_
      refine gf_X3_27 (pc' := 37) C dX3_isInUse_34 rfl 0 rfl rfl ?_
      refine g_iload_n (pc' := 38) C dX3_isInUse_37 rfl rfl rfl ?_
      obtain ⟨hi, hv⟩ := hv
      refine g_iald (pc' := 39) C dX3_isInUse_38 rfl 4 rfl hi ?_
      refine g_ior (pc' := 40) C dX3_isInUse_39 rfl ?_
      refine g_istore_n (pc' := 41) (lv' := [(2, .int (x2 ||| (clos x3.toNatClampNeg))), (0, .ref (ad 0)), (1, .int x1), (3, .int x3)]) C dX3_isInUse_40 rfl rfl (by decide) rfl ?_
      refine g_iinc (pc' := 44) (v := (x3 + (1 : Int32))) (lv' := [(3, .int (x3 + (1 : Int32))), (2, .int (x2 ||| (clos x3.toNatClampNeg))), (0, .ref (ad 0)), (1, .int x1)]) C dX3_isInUse_41 rfl rfl rfl (by decide) rfl ?_
      refine g_goto (tgt := 27) C dX3_isInUse_44 (by decide) ?_
      refine g_sub (lv' := [(0, .ref (ad 0)), (1, .int x1), (2, .int (x2 ||| (clos x3.toNatClampNeg))), (3, .int (x3 + (1 : Int32)))]) [2, 3, 1, 0] rfl ?_
      exact ih _ _ hv
def vX3_isInUse_L4 (amt : Ar) (held : Ar) (clos : Ar) (x1 : Int32) (Q : Int32 → Prop) : Nat → Int32 → Int32 → Prop
  | 0, _, _ => False
  | n + 1, x2, x3 => (((12 : Int32) ≤ x3 → (∃ n27 : Nat, vX3_isInUse_L27 amt held clos x1 Q n27 x2 (0 : Int32))) ∧ (¬ (12 : Int32) ≤ x3 → (vp_in x3 12 ∧ (vX3_isInUse_L4 amt held clos x1 Q n (x2 ||| (held x3.toNatClampNeg)) (x3 + (1 : Int32))))))
set_option maxHeartbeats 4000000 in
set_option maxRecDepth 100000 in
theorem wvX3_isInUse_L4 {l : Launch} {γ : Gm} {κ : Kx} {ad : Nat → Nat} {seen : Int32} {cnt : Int32} {pwc : Int32} {par : Ar} {amt : Ar} {held : Ar} {clos : Ar} {seW : Ar} {seS : Ar} {leW : Ar} {leS : Ar} {x1 : Int32} {Q : Int32 → Prop} (C : Ok γ κ cX3_isInUse 4 RX3 1 23) (RT : RtI l γ κ cX3_isInUse .boolean 0 0 (fun (r : Int32) (_ : Unit) => Q r) (fun _ => wB γ ad seen cnt pwc par amt held clos seW seS leW leS))  : ∀ (n : Nat) (x2 : Int32) (x3 : Int32), vX3_isInUse_L4 amt held clos x1 Q n x2 x3 → G l γ κ (wB γ ad seen cnt pwc par amt held clos seW seS leW leS) [(0, .ref (ad 0)), (1, .int x1), (2, .int x2), (3, .int x3)] 0 0 [] 4 := by
  intro n
  induction n with
  | zero => intro x2 x3 hv; exact False.elim hv
  | succ n ih =>
    intro x2 x3 hv
    refine g_iload_n (pc' := 5) C dX3_isInUse_4 rfl rfl rfl ?_
    refine g_bipush (pc' := 7) (v := (12 : Int32)) C dX3_isInUse_5 rfl (by decide) ?_
    obtain ⟨hv1, hv2⟩ := hv
    refine g_icmp_ge (pc' := 10) (tgt := 25) C dX3_isInUse_7 rfl (by decide) (fun c => ?_) (fun c => ?_)
    · have hv := hv1 c
      refine g_iconst (pc' := 26) (v := (0 : Int32)) C dX3_isInUse_25 rfl (by decide) ?_
      refine g_istore_n (pc' := 27) (lv' := [(3, .int (0 : Int32)), (0, .ref (ad 0)), (1, .int x1), (2, .int x2)]) C dX3_isInUse_26 rfl rfl (by decide) rfl ?_
      refine g_sub (lv' := [(0, .ref (ad 0)), (1, .int x1), (2, .int x2), (3, .int (0 : Int32))]) [1, 2, 3, 0] rfl ?_
      obtain ⟨n27, hv⟩ := hv
      exact wvX3_isInUse_L27 C RT  n27 _ _ hv
    · have hv := hv2 c
      refine g_iload_n (pc' := 11) C dX3_isInUse_10 rfl rfl rfl ?_
      refine g_aload_n (pc' := 12) C dX3_isInUse_11 rfl rfl rfl ?_
      refine gf_X3_23 (pc' := 15) C dX3_isInUse_12 rfl 0 rfl rfl ?_
      refine g_iload_n (pc' := 16) C dX3_isInUse_15 rfl rfl rfl ?_
      obtain ⟨hi, hv⟩ := hv
      refine g_iald (pc' := 17) C dX3_isInUse_16 rfl 3 rfl hi ?_
      refine g_ior (pc' := 18) C dX3_isInUse_17 rfl ?_
      refine g_istore_n (pc' := 19) (lv' := [(2, .int (x2 ||| (held x3.toNatClampNeg))), (0, .ref (ad 0)), (1, .int x1), (3, .int x3)]) C dX3_isInUse_18 rfl rfl (by decide) rfl ?_
      refine g_iinc (pc' := 22) (v := (x3 + (1 : Int32))) (lv' := [(3, .int (x3 + (1 : Int32))), (2, .int (x2 ||| (held x3.toNatClampNeg))), (0, .ref (ad 0)), (1, .int x1)]) C dX3_isInUse_19 rfl rfl rfl (by decide) rfl ?_
      refine g_goto (tgt := 4) C dX3_isInUse_22 (by decide) ?_
      refine g_sub (lv' := [(0, .ref (ad 0)), (1, .int x1), (2, .int (x2 ||| (held x3.toNatClampNeg))), (3, .int (x3 + (1 : Int32)))]) [2, 3, 1, 0] rfl ?_
      exact ih _ _ hv
def vX3_isInUse (amt : Ar) (held : Ar) (clos : Ar) (x1 : Int32) (Q : Int32 → Prop) : Prop := (∃ n4 : Nat, vX3_isInUse_L4 amt held clos x1 Q n4 (0 : Int32) (0 : Int32))
set_option maxHeartbeats 4000000 in
set_option maxRecDepth 100000 in
theorem mtX3_isInUse {l : Launch} {γ : Gm} {ad : Nat → Nat} {seen : Int32} {cnt : Int32} {pwc : Int32} {par : Ar} {amt : Ar} {held : Ar} {clos : Ar} {seW : Ar} {seS : Ar} {leW : Ar} {leS : Ar} {x1 : Int32} {Q : Int32 → Prop} (hv : vX3_isInUse amt held clos x1 Q) : CtI l γ yX3_isInUse cX3_isInUse 4 .boolean 1 23 0 0 [.ref (ad 0), .int x1] (wB γ ad seen cnt pwc par amt held clos seW seS leW leS) (fun (r : Int32) (_ : Unit) => Q r) (fun _ => wB γ ad seen cnt pwc par amt held clos seW seS leW leS) := startI (by decide +kernel) (Nat.le_of_ble_eq_true rfl) (fun κ C RT hR hnm => by
  show G l γ κ (wB γ ad seen cnt pwc par amt held clos seW seS leW leS) [(0, .ref (ad 0)), (1, .int x1)] 0 0 [] 0
  refine g_iconst (pc' := 1) (v := (0 : Int32)) C dX3_isInUse_0 rfl (by decide) ?_
  refine g_istore_n (pc' := 2) (lv' := [(2, .int (0 : Int32)), (0, .ref (ad 0)), (1, .int x1)]) C dX3_isInUse_1 rfl rfl (by decide) rfl ?_
  refine g_iconst (pc' := 3) (v := (0 : Int32)) C dX3_isInUse_2 rfl (by decide) ?_
  refine g_istore_n (pc' := 4) (lv' := [(3, .int (0 : Int32)), (2, .int (0 : Int32)), (0, .ref (ad 0)), (1, .int x1)]) C dX3_isInUse_3 rfl rfl (by decide) rfl ?_
  refine g_sub (lv' := [(0, .ref (ad 0)), (1, .int x1), (2, .int (0 : Int32)), (3, .int (0 : Int32))]) [2, 3, 1, 0] rfl ?_
  obtain ⟨n4, hv⟩ := hv
  exact wvX3_isInUse_L4 C RT  n4 _ _ hv)
def vX3_addPlace_J54 (cnt : Int32) (pwc : Int32) (par : Ar) (amt : Ar) (held : Ar) (clos : Ar) (x1 : Int32) (Q : Int32 → (Int32 × Int32 × Ar) → Prop) : Prop := (vX2_addBelow cnt pwc par x1 (fun r59 u59 => (Q r59 (u59.1, u59.2.1, u59.2.2))))
set_option maxHeartbeats 4000000 in
set_option maxRecDepth 100000 in
theorem wvX3_addPlace_J54 {l : Launch} {γ : Gm} {κ : Kx} {ad : Nat → Nat} {seen : Int32} {cnt : Int32} {pwc : Int32} {par : Ar} {amt : Ar} {held : Ar} {clos : Ar} {seW : Ar} {seS : Ar} {leW : Ar} {leS : Ar} {x1 : Int32} {Q : Int32 → (Int32 × Int32 × Ar) → Prop} (C : Ok γ κ cX3_addPlace 2 RX3 7 103) (RT : RtI l γ κ cX3_addPlace .int 0 0 (fun (r : Int32) (u : Int32 × Int32 × Ar) => Q r u) (fun u => wB γ ad seen u.1 u.2.1 u.2.2 amt held clos seW seS leW leS))  (hv : vX3_addPlace_J54 cnt pwc par amt held clos x1 Q) : G l γ κ (wB γ ad seen cnt pwc par amt held clos seW seS leW leS) [(0, .ref (ad 0)), (1, .int x1)] 0 0 [] 54 := by
  refine g_aload_n (pc' := 55) C dX3_addPlace_54 rfl rfl rfl ?_
  refine gf_X3_12 (pc' := 58) C dX3_addPlace_55 rfl 0 rfl rfl ?_
  refine g_iload_n (pc' := 59) C dX3_addPlace_58 rfl rfl rfl ?_
  refine cfI (pc' := 62) C (run_VI (rest := []) C lk_X3_72 (mtX2_addBelow hv) ⟨by decide, by decide⟩ rfl rfl rfl rfl (Nat.le_of_ble_eq_true rfl) ⟨Nat.zero_le _, Nat.zero_le _⟩ dX3_addPlace_59) rfl [1, 7] [0, 2, 3, 4, 5, 6, 8, 9, 10, 11, 12] [0, 11, 1, 2, 3, 4, 5, 12, 6, 7, 8, 9, 10] nd_BT1 di_BT1 (fun u59 => wB γ ad seen u59.1 u59.2.1 u59.2.2 amt held clos seW seS leW leS) rfl rfl (fun _ => rfl) (fun r59 u59 hv => ?_)
  exact RT r59 (u59.1, u59.2.1, u59.2.2) _ _ _ _ dX3_addPlace_62 rfl (by decide) (by decide) hv
def vX3_addPlace (cnt : Int32) (pwc : Int32) (par : Ar) (amt : Ar) (held : Ar) (clos : Ar) (x1 : Int32) (Q : Int32 → (Int32 × Int32 × Ar) → Prop) : Prop := (vX3_checkPlace cnt x1 ((vX2_isFull cnt (fun r9 => ((r9 = (0 : Int32) → (vX2_isLeaf pwc x1 (fun r30 => ((r30 = (0 : Int32) → (vX3_addPlace_J54 cnt pwc par amt held clos x1 Q)) ∧ (¬ r30 = (0 : Int32) → (vX3_isInUse amt held clos x1 (fun r38 => ((r38 = (0 : Int32) → (vX3_addPlace_J54 cnt pwc par amt held clos x1 Q)) ∧ (¬ r38 = (0 : Int32) → False))))))))) ∧ (¬ r9 = (0 : Int32) → False))))))
set_option maxHeartbeats 4000000 in
set_option maxRecDepth 100000 in
theorem mtX3_addPlace {l : Launch} {γ : Gm} {ad : Nat → Nat} {seen : Int32} {cnt : Int32} {pwc : Int32} {par : Ar} {amt : Ar} {held : Ar} {clos : Ar} {seW : Ar} {seS : Ar} {leW : Ar} {leS : Ar} {x1 : Int32} {Q : Int32 → (Int32 × Int32 × Ar) → Prop} (hv : vX3_addPlace cnt pwc par amt held clos x1 Q) : CtI l γ yX3_addPlace cX3_addPlace 2 .int 7 103 0 0 [.ref (ad 0), .int x1] (wB γ ad seen cnt pwc par amt held clos seW seS leW leS) (fun (r : Int32) (u : Int32 × Int32 × Ar) => Q r u) (fun u => wB γ ad seen u.1 u.2.1 u.2.2 amt held clos seW seS leW leS) := startI (by decide +kernel) (Nat.le_of_ble_eq_true rfl) (fun κ C RT hR hnm => by
  show G l γ κ (wB γ ad seen cnt pwc par amt held clos seW seS leW leS) [(0, .ref (ad 0)), (1, .int x1)] 0 0 [] 0
  refine g_aload_n (pc' := 1) C dX3_addPlace_0 rfl rfl rfl ?_
  refine g_iload_n (pc' := 2) C dX3_addPlace_1 rfl rfl rfl ?_
  refine csV (pc' := 5) C (run_VV (rest := []) C lk_X3_48 (mtX3_checkPlace hv) ⟨by decide, by decide⟩ rfl rfl rfl rfl (Nat.le_of_ble_eq_true rfl) ⟨Nat.zero_le _, Nat.zero_le _⟩ dX3_addPlace_2) rfl (fun u2 hv => ?_)
  refine g_aload_n (pc' := 6) C dX3_addPlace_5 rfl rfl rfl ?_
  refine gf_X3_12 (pc' := 9) C dX3_addPlace_6 rfl 0 rfl rfl ?_
  refine cfI (pc' := 12) C (run_VI (rest := []) C lk_X3_52 (mtX2_isFull hv) ⟨by decide, by decide⟩ rfl rfl rfl rfl (Nat.le_of_ble_eq_true rfl) ⟨Nat.zero_le _, Nat.zero_le _⟩ dX3_addPlace_9) rfl [1, 7] [0, 2, 3, 4, 5, 6, 8, 9, 10, 11, 12] [0, 11, 1, 2, 3, 4, 5, 12, 6, 7, 8, 9, 10] nd_BT1 di_BT1 (fun u9 => wB γ ad seen cnt pwc par amt held clos seW seS leW leS) rfl rfl (fun _ => rfl) (fun r9 u9 hv => ?_)
  obtain ⟨hv1, hv2⟩ := hv
  refine g_if_eq (pc' := 15) (tgt := 25) C dX3_addPlace_12 rfl (by decide) (fun c => ?_) (fun c => ?_)
  · have hv := hv1 c
    refine g_aload_n (pc' := 26) C dX3_addPlace_25 rfl rfl rfl ?_
    refine gf_X3_12 (pc' := 29) C dX3_addPlace_26 rfl 0 rfl rfl ?_
    refine g_iload_n (pc' := 30) C dX3_addPlace_29 rfl rfl rfl ?_
    refine cfI (pc' := 33) C (run_VI (rest := []) C lk_X3_63 (mtX2_isLeaf hv) ⟨by decide, by decide⟩ rfl rfl rfl rfl (Nat.le_of_ble_eq_true rfl) ⟨Nat.zero_le _, Nat.zero_le _⟩ dX3_addPlace_30) rfl [1, 7] [0, 2, 3, 4, 5, 6, 8, 9, 10, 11, 12] [0, 11, 1, 2, 3, 4, 5, 12, 6, 7, 8, 9, 10] nd_BT1 di_BT1 (fun u30 => wB γ ad seen cnt pwc par amt held clos seW seS leW leS) rfl rfl (fun _ => rfl) (fun r30 u30 hv => ?_)
    obtain ⟨hv1, hv2⟩ := hv
    refine g_if_eq (pc' := 36) (tgt := 54) C dX3_addPlace_33 rfl (by decide) (fun c => ?_) (fun c => ?_)
    · have hv := hv1 c
      exact wvX3_addPlace_J54 C RT  hv
    · have hv := hv2 c
      refine g_aload_n (pc' := 37) C dX3_addPlace_36 rfl rfl rfl ?_
      refine g_iload_n (pc' := 38) C dX3_addPlace_37 rfl rfl rfl ?_
      refine csI (pc' := 41) C (run_VI (rest := []) C lk_X3_67 (mtX3_isInUse hv) ⟨by decide, by decide⟩ rfl rfl rfl rfl (Nat.le_of_ble_eq_true rfl) ⟨Nat.zero_le _, Nat.zero_le _⟩ dX3_addPlace_38) rfl (fun r38 u38 hv => ?_)
      obtain ⟨hv1, hv2⟩ := hv
      refine g_if_eq (pc' := 44) (tgt := 54) C dX3_addPlace_41 rfl (by decide) (fun c => ?_) (fun c => ?_)
      · have hv := hv1 c
        exact wvX3_addPlace_J54 C RT  hv
      · have hv := hv2 c
        exact hv.elim
  · have hv := hv2 c
    exact hv.elim)
def zX3_addPlace (cnt : Int32) (pwc : Int32) (par : Ar) (amt : Ar) (held : Ar) (clos : Ar) (x1 : Int32) (X : String → (Int32 × Int32 × Ar) → Prop) : Prop := ((zX3_checkPlace cnt x1 (fun E => X E (cnt, pwc, par))) ∨ (vX3_checkPlace cnt x1 ((vX2_isFull cnt (fun r9 => ((r9 = (0 : Int32) → (vX2_isLeaf pwc x1 (fun r30 => ((r30 = (0 : Int32) → False) ∧ (¬ r30 = (0 : Int32) → (vX3_isInUse amt held clos x1 (fun r38 => ((r38 = (0 : Int32) → False) ∧ (¬ r38 = (0 : Int32) → (X eIS (cnt, pwc, par))))))))))) ∧ (¬ r9 = (0 : Int32) → (X eIS (cnt, pwc, par)))))))))
set_option maxHeartbeats 4000000 in
set_option maxRecDepth 100000 in
theorem mtzX3_addPlace {l : Launch} (hfl : l.stackTraces = false) {γ : Gm} {ad : Nat → Nat} {seen : Int32} {cnt : Int32} {pwc : Int32} {par : Ar} {amt : Ar} {held : Ar} {clos : Ar} {seW : Ar} {seS : Ar} {leW : Ar} {leS : Ar} {x1 : Int32} {X : String → (Int32 × Int32 × Ar) → Prop} (hv : zX3_addPlace cnt pwc par amt held clos x1 X) : CtX l γ yX3_addPlace cX3_addPlace 2 (some .int) 7 103 [.ref (ad 0), .int x1] (wB γ ad seen cnt pwc par amt held clos seW seS leW leS) (fun (E : String) (u : Int32 × Int32 × Ar) => X E u) (fun u => wB γ ad seen u.1 u.2.1 u.2.2 amt held clos seW seS leW leS) := startX (by decide +kernel) (Nat.le_of_ble_eq_true rfl) (fun κ C hX => by
  show G l γ κ (wB γ ad seen cnt pwc par amt held clos seW seS leW leS) [(0, .ref (ad 0)), (1, .int x1)] 0 0 [] 0
  refine g_aload_n (pc' := 1) C dX3_addPlace_0 rfl rfl rfl ?_
  refine g_iload_n (pc' := 2) C dX3_addPlace_1 rfl rfl rfl ?_
  rcases hv with hv | hv
  · exact sameX C hX (run_VX (rest := []) C lk_X3_48 (mtzX3_checkPlace hfl hv) ⟨by decide, by decide⟩ rfl rfl rfl rfl (Nat.le_of_ble_eq_true rfl) ⟨hX.2.2.1, hX.2.2.2⟩ dX3_addPlace_2) (fun E u2 hx => ⟨(cnt, pwc, par), hx, rfl⟩)
  · refine csV (pc' := 5) C (run_VV (rest := []) C lk_X3_48 (mtX3_checkPlace hv) ⟨by decide, by decide⟩ rfl rfl rfl rfl (Nat.le_of_ble_eq_true rfl) ⟨Nat.zero_le _, Nat.zero_le _⟩ dX3_addPlace_2) rfl (fun u2 hv => ?_)
    refine g_aload_n (pc' := 6) C dX3_addPlace_5 rfl rfl rfl ?_
    refine gf_X3_12 (pc' := 9) C dX3_addPlace_6 rfl 0 rfl rfl ?_
    refine cfI (pc' := 12) C (run_VI (rest := []) C lk_X3_52 (mtX2_isFull hv) ⟨by decide, by decide⟩ rfl rfl rfl rfl (Nat.le_of_ble_eq_true rfl) ⟨Nat.zero_le _, Nat.zero_le _⟩ dX3_addPlace_9) rfl [1, 7] [0, 2, 3, 4, 5, 6, 8, 9, 10, 11, 12] [0, 11, 1, 2, 3, 4, 5, 12, 6, 7, 8, 9, 10] nd_BT1 di_BT1 (fun u9 => wB γ ad seen cnt pwc par amt held clos seW seS leW leS) rfl rfl (fun _ => rfl) (fun r9 u9 hv => ?_)
    obtain ⟨hv1, hv2⟩ := hv
    refine g_if_eq (pc' := 15) (tgt := 25) C dX3_addPlace_12 rfl (by decide) (fun c => ?_) (fun c => ?_)
    · have hv := hv1 c
      refine g_aload_n (pc' := 26) C dX3_addPlace_25 rfl rfl rfl ?_
      refine gf_X3_12 (pc' := 29) C dX3_addPlace_26 rfl 0 rfl rfl ?_
      refine g_iload_n (pc' := 30) C dX3_addPlace_29 rfl rfl rfl ?_
      refine cfI (pc' := 33) C (run_VI (rest := []) C lk_X3_63 (mtX2_isLeaf hv) ⟨by decide, by decide⟩ rfl rfl rfl rfl (Nat.le_of_ble_eq_true rfl) ⟨Nat.zero_le _, Nat.zero_le _⟩ dX3_addPlace_30) rfl [1, 7] [0, 2, 3, 4, 5, 6, 8, 9, 10, 11, 12] [0, 11, 1, 2, 3, 4, 5, 12, 6, 7, 8, 9, 10] nd_BT1 di_BT1 (fun u30 => wB γ ad seen cnt pwc par amt held clos seW seS leW leS) rfl rfl (fun _ => rfl) (fun r30 u30 hv => ?_)
      obtain ⟨hv1, hv2⟩ := hv
      refine g_if_eq (pc' := 36) (tgt := 54) C dX3_addPlace_33 rfl (by decide) (fun c => ?_) (fun c => ?_)
      · have hv := hv1 c
        exact hv.elim
      · have hv := hv2 c
        refine g_aload_n (pc' := 37) C dX3_addPlace_36 rfl rfl rfl ?_
        refine g_iload_n (pc' := 38) C dX3_addPlace_37 rfl rfl rfl ?_
        refine csI (pc' := 41) C (run_VI (rest := []) C lk_X3_67 (mtX3_isInUse hv) ⟨by decide, by decide⟩ rfl rfl rfl rfl (Nat.le_of_ble_eq_true rfl) ⟨Nat.zero_le _, Nat.zero_le _⟩ dX3_addPlace_38) rfl (fun r38 u38 hv => ?_)
        obtain ⟨hv1, hv2⟩ := hv
        refine g_if_eq (pc' := 44) (tgt := 54) C dX3_addPlace_41 rfl (by decide) (fun c => ?_) (fun c => ?_)
        · have hv := hv1 c
          exact hv.elim
        · have hv := hv2 c
          exact g_throw hfl C hX (cnt, pwc, par) (th_eIS (List.mem_of_getElem? (i := 1) rfl)) (by decide) dX3_addPlace_44 dX3_addPlace_47 dX3_addPlace_48 dX3_addPlace_50 dX3_addPlace_53 rfl hv
    · have hv := hv2 c
      exact g_throw hfl C hX (cnt, pwc, par) (th_eIS (List.mem_of_getElem? (i := 0) rfl)) (by decide) dX3_addPlace_15 dX3_addPlace_18 dX3_addPlace_19 dX3_addPlace_21 dX3_addPlace_24 rfl hv)
def vX3_places (cnt : Int32) (Q : Int32 → Prop) : Prop := (vX2_size cnt (fun r4 => (Q r4)))
set_option maxHeartbeats 4000000 in
set_option maxRecDepth 100000 in
theorem mtX3_places {l : Launch} {γ : Gm} {ad : Nat → Nat} {seen : Int32} {cnt : Int32} {pwc : Int32} {par : Ar} {amt : Ar} {held : Ar} {clos : Ar} {seW : Ar} {seS : Ar} {leW : Ar} {leS : Ar} {Q : Int32 → Prop} (hv : vX3_places cnt Q) : CtI l γ yX3_places cX3_places 1 .int 1 20 0 0 [.ref (ad 0)] (wB γ ad seen cnt pwc par amt held clos seW seS leW leS) (fun (r : Int32) (_ : Unit) => Q r) (fun _ => wB γ ad seen cnt pwc par amt held clos seW seS leW leS) := startI (by decide +kernel) (Nat.le_of_ble_eq_true rfl) (fun κ C RT hR hnm => by
  show G l γ κ (wB γ ad seen cnt pwc par amt held clos seW seS leW leS) [(0, .ref (ad 0))] 0 0 [] 0
  refine g_aload_n (pc' := 1) C dX3_places_0 rfl rfl rfl ?_
  refine gf_X3_12 (pc' := 4) C dX3_places_1 rfl 0 rfl rfl ?_
  refine cfI (pc' := 7) C (run_VI (rest := []) C lk_X3_76 (mtX2_size hv) ⟨by decide, by decide⟩ rfl rfl rfl rfl (Nat.le_of_ble_eq_true rfl) ⟨Nat.zero_le _, Nat.zero_le _⟩ dX3_places_4) rfl [1, 7] [0, 2, 3, 4, 5, 6, 8, 9, 10, 11, 12] [0, 11, 1, 2, 3, 4, 5, 12, 6, 7, 8, 9, 10] nd_BT1 di_BT1 (fun u4 => wB γ ad seen cnt pwc par amt held clos seW seS leW leS) rfl rfl (fun _ => rfl) (fun r4 u4 hv => ?_)
  exact RT r4 () _ _ _ _ dX3_places_7 rfl (by decide) (by decide) hv)
def vX3_leaves (cnt : Int32) (pwc : Int32) (par : Ar) (x1 : Int32) (Q : Int32 → Prop) : Prop := (vX3_checkPlace cnt x1 ((vX2_leavesBelow cnt pwc par x1 (fun r10 => (Q r10)))))
set_option maxHeartbeats 4000000 in
set_option maxRecDepth 100000 in
theorem mtX3_leaves {l : Launch} {γ : Gm} {ad : Nat → Nat} {seen : Int32} {cnt : Int32} {pwc : Int32} {par : Ar} {amt : Ar} {held : Ar} {clos : Ar} {seW : Ar} {seS : Ar} {leW : Ar} {leS : Ar} {x1 : Int32} {Q : Int32 → Prop} (hv : vX3_leaves cnt pwc par x1 Q) : CtI l γ yX3_leaves cX3_leaves 2 .int 7 103 0 0 [.ref (ad 0), .int x1] (wB γ ad seen cnt pwc par amt held clos seW seS leW leS) (fun (r : Int32) (_ : Unit) => Q r) (fun _ => wB γ ad seen cnt pwc par amt held clos seW seS leW leS) := startI (by decide +kernel) (Nat.le_of_ble_eq_true rfl) (fun κ C RT hR hnm => by
  show G l γ κ (wB γ ad seen cnt pwc par amt held clos seW seS leW leS) [(0, .ref (ad 0)), (1, .int x1)] 0 0 [] 0
  refine g_aload_n (pc' := 1) C dX3_leaves_0 rfl rfl rfl ?_
  refine g_iload_n (pc' := 2) C dX3_leaves_1 rfl rfl rfl ?_
  refine csV (pc' := 5) C (run_VV (rest := []) C lk_X3_48 (mtX3_checkPlace hv) ⟨by decide, by decide⟩ rfl rfl rfl rfl (Nat.le_of_ble_eq_true rfl) ⟨Nat.zero_le _, Nat.zero_le _⟩ dX3_leaves_2) rfl (fun u2 hv => ?_)
  refine g_aload_n (pc' := 6) C dX3_leaves_5 rfl rfl rfl ?_
  refine gf_X3_12 (pc' := 9) C dX3_leaves_6 rfl 0 rfl rfl ?_
  refine g_iload_n (pc' := 10) C dX3_leaves_9 rfl rfl rfl ?_
  refine cfI (pc' := 13) C (run_VI (rest := []) C lk_X3_80 (mtX2_leavesBelow hv) ⟨by decide, by decide⟩ rfl rfl rfl rfl (Nat.le_of_ble_eq_true rfl) ⟨Nat.zero_le _, Nat.zero_le _⟩ dX3_leaves_10) rfl [1, 7] [0, 2, 3, 4, 5, 6, 8, 9, 10, 11, 12] [0, 11, 1, 2, 3, 4, 5, 12, 6, 7, 8, 9, 10] nd_BT1 di_BT1 (fun u10 => wB γ ad seen cnt pwc par amt held clos seW seS leW leS) rfl rfl (fun _ => rfl) (fun r10 u10 hv => ?_)
  exact RT r10 () _ _ _ _ dX3_leaves_13 rfl (by decide) (by decide) hv)
def zX3_leaves (cnt : Int32) (pwc : Int32) (par : Ar) (x1 : Int32) (X : String → Prop) : Prop := (zX3_checkPlace cnt x1 (fun E => X E))
set_option maxHeartbeats 4000000 in
set_option maxRecDepth 100000 in
theorem mtzX3_leaves {l : Launch} (hfl : l.stackTraces = false) {γ : Gm} {ad : Nat → Nat} {seen : Int32} {cnt : Int32} {pwc : Int32} {par : Ar} {amt : Ar} {held : Ar} {clos : Ar} {seW : Ar} {seS : Ar} {leW : Ar} {leS : Ar} {x1 : Int32} {X : String → Prop} (hv : zX3_leaves cnt pwc par x1 X) : CtX l γ yX3_leaves cX3_leaves 2 (some .int) 7 103 [.ref (ad 0), .int x1] (wB γ ad seen cnt pwc par amt held clos seW seS leW leS) (fun (E : String) (_ : Unit) => X E) (fun _ => wB γ ad seen cnt pwc par amt held clos seW seS leW leS) := startX (by decide +kernel) (Nat.le_of_ble_eq_true rfl) (fun κ C hX => by
  show G l γ κ (wB γ ad seen cnt pwc par amt held clos seW seS leW leS) [(0, .ref (ad 0)), (1, .int x1)] 0 0 [] 0
  refine g_aload_n (pc' := 1) C dX3_leaves_0 rfl rfl rfl ?_
  refine g_iload_n (pc' := 2) C dX3_leaves_1 rfl rfl rfl ?_
  exact sameX C hX (run_VX (rest := []) C lk_X3_48 (mtzX3_checkPlace hfl hv) ⟨by decide, by decide⟩ rfl rfl rfl rfl (Nat.le_of_ble_eq_true rfl) ⟨hX.2.2.1, hX.2.2.2⟩ dX3_leaves_2) (fun E u2 hx => ⟨(), hx, rfl⟩))
def vX3_checkLeaf (pwc : Int32) (x1 : Int32) (Q : Prop) : Prop := (vX2_isLeaf pwc x1 (fun r5 => ((¬ r5 = (0 : Int32) → Q) ∧ (r5 = (0 : Int32) → False))))
set_option maxHeartbeats 4000000 in
set_option maxRecDepth 100000 in
theorem mtX3_checkLeaf {l : Launch} {γ : Gm} {ad : Nat → Nat} {seen : Int32} {cnt : Int32} {pwc : Int32} {par : Ar} {amt : Ar} {held : Ar} {clos : Ar} {seW : Ar} {seS : Ar} {leW : Ar} {leS : Ar} {x1 : Int32} {Q : Prop} (hv : vX3_checkLeaf pwc x1 Q) : CtV l γ yX3_checkLeaf cX3_checkLeaf 2 6 82 0 0 [.ref (ad 0), .int x1] (wB γ ad seen cnt pwc par amt held clos seW seS leW leS) (fun (_ : Unit) => Q) (fun _ => wB γ ad seen cnt pwc par amt held clos seW seS leW leS) := startV (by decide +kernel) (Nat.le_of_ble_eq_true rfl) (fun κ C RT hR hnm => by
  show G l γ κ (wB γ ad seen cnt pwc par amt held clos seW seS leW leS) [(0, .ref (ad 0)), (1, .int x1)] 0 0 [] 0
  refine g_aload_n (pc' := 1) C dX3_checkLeaf_0 rfl rfl rfl ?_
  refine gf_X3_12 (pc' := 4) C dX3_checkLeaf_1 rfl 0 rfl rfl ?_
  refine g_iload_n (pc' := 5) C dX3_checkLeaf_4 rfl rfl rfl ?_
  refine cfI (pc' := 8) C (run_VI (rest := []) C lk_X3_63 (mtX2_isLeaf hv) ⟨by decide, by decide⟩ rfl rfl rfl rfl (Nat.le_of_ble_eq_true rfl) ⟨Nat.zero_le _, Nat.zero_le _⟩ dX3_checkLeaf_5) rfl [1, 7] [0, 2, 3, 4, 5, 6, 8, 9, 10, 11, 12] [0, 11, 1, 2, 3, 4, 5, 12, 6, 7, 8, 9, 10] nd_BT1 di_BT1 (fun u5 => wB γ ad seen cnt pwc par amt held clos seW seS leW leS) rfl rfl (fun _ => rfl) (fun r5 u5 hv => ?_)
  obtain ⟨hv1, hv2⟩ := hv
  refine g_if_ne (pc' := 11) (tgt := 21) C dX3_checkLeaf_8 rfl (by decide) (fun c => ?_) (fun c => ?_)
  · have hv := hv1 c
    exact RT () _ _ _ _ dX3_checkLeaf_21 (by decide) (by decide) hv
  · have hv := hv2 c
    exact hv.elim)
def zX3_checkLeaf (pwc : Int32) (x1 : Int32) (X : String → Prop) : Prop := (vX2_isLeaf pwc x1 (fun r5 => ((¬ r5 = (0 : Int32) → False) ∧ (r5 = (0 : Int32) → (X eIS)))))
set_option maxHeartbeats 4000000 in
set_option maxRecDepth 100000 in
theorem mtzX3_checkLeaf {l : Launch} (hfl : l.stackTraces = false) {γ : Gm} {ad : Nat → Nat} {seen : Int32} {cnt : Int32} {pwc : Int32} {par : Ar} {amt : Ar} {held : Ar} {clos : Ar} {seW : Ar} {seS : Ar} {leW : Ar} {leS : Ar} {x1 : Int32} {X : String → Prop} (hv : zX3_checkLeaf pwc x1 X) : CtX l γ yX3_checkLeaf cX3_checkLeaf 2 none 6 82 [.ref (ad 0), .int x1] (wB γ ad seen cnt pwc par amt held clos seW seS leW leS) (fun (E : String) (_ : Unit) => X E) (fun _ => wB γ ad seen cnt pwc par amt held clos seW seS leW leS) := startX (by decide +kernel) (Nat.le_of_ble_eq_true rfl) (fun κ C hX => by
  show G l γ κ (wB γ ad seen cnt pwc par amt held clos seW seS leW leS) [(0, .ref (ad 0)), (1, .int x1)] 0 0 [] 0
  refine g_aload_n (pc' := 1) C dX3_checkLeaf_0 rfl rfl rfl ?_
  refine gf_X3_12 (pc' := 4) C dX3_checkLeaf_1 rfl 0 rfl rfl ?_
  refine g_iload_n (pc' := 5) C dX3_checkLeaf_4 rfl rfl rfl ?_
  refine cfI (pc' := 8) C (run_VI (rest := []) C lk_X3_63 (mtX2_isLeaf hv) ⟨by decide, by decide⟩ rfl rfl rfl rfl (Nat.le_of_ble_eq_true rfl) ⟨Nat.zero_le _, Nat.zero_le _⟩ dX3_checkLeaf_5) rfl [1, 7] [0, 2, 3, 4, 5, 6, 8, 9, 10, 11, 12] [0, 11, 1, 2, 3, 4, 5, 12, 6, 7, 8, 9, 10] nd_BT1 di_BT1 (fun u5 => wB γ ad seen cnt pwc par amt held clos seW seS leW leS) rfl rfl (fun _ => rfl) (fun r5 u5 hv => ?_)
  obtain ⟨hv1, hv2⟩ := hv
  refine g_if_ne (pc' := 11) (tgt := 21) C dX3_checkLeaf_8 rfl (by decide) (fun c => ?_) (fun c => ?_)
  · have hv := hv1 c
    exact hv.elim
  · have hv := hv2 c
    exact g_throw hfl C hX () (th_eIS (List.mem_of_getElem? (i := 15) rfl)) (by decide) dX3_checkLeaf_11 dX3_checkLeaf_14 dX3_checkLeaf_15 dX3_checkLeaf_17 dX3_checkLeaf_20 rfl hv)
def vX3_set (cnt : Int32) (pwc : Int32) (amt : Ar) (clos : Ar) (x1 : Int32) (x2 : Int32) (x3 : Int32) (x4 : Int32) (x5 : Int32) (Q : Int32 → (Ar) → Prop) : Prop := (vX3_checkVersion x1 ((vX3_checkPlace cnt x2 ((vX3_checkCellAccount x3 ((vX3_checkMonth x4 ((vX3_mostOf x3 (fun r21 => (vX3_checkUpTo x5 r21 ((vX3_checkLeaf pwc x2 ((vp_in x1 3 ∧ (vX3_isIn (clos x1.toNatClampNeg) x2 (fun r39 => ((r39 = (0 : Int32) → (vX0_put amt x1 x2 x3 x4 x5 (fun r66 u66 => (Q r66 u66)))) ∧ (¬ r39 = (0 : Int32) → False)))))))))))))))))))
set_option maxHeartbeats 4000000 in
set_option maxRecDepth 100000 in
theorem mtX3_set {l : Launch} {γ : Gm} {ad : Nat → Nat} {seen : Int32} {cnt : Int32} {pwc : Int32} {par : Ar} {amt : Ar} {held : Ar} {clos : Ar} {seW : Ar} {seS : Ar} {leW : Ar} {leS : Ar} {x1 : Int32} {x2 : Int32} {x3 : Int32} {x4 : Int32} {x5 : Int32} {Q : Int32 → (Ar) → Prop} (hv : vX3_set cnt pwc amt clos x1 x2 x3 x4 x5 Q) : CtI l γ yX3_set cX3_set 6 .int 7 103 0 0 [.ref (ad 0), .int x1, .int x2, .int x3, .int x4, .int x5] (wB γ ad seen cnt pwc par amt held clos seW seS leW leS) (fun (r : Int32) (u : Ar) => Q r u) (fun u => wB γ ad seen cnt pwc par u held clos seW seS leW leS) := startI (by decide +kernel) (Nat.le_of_ble_eq_true rfl) (fun κ C RT hR hnm => by
  show G l γ κ (wB γ ad seen cnt pwc par amt held clos seW seS leW leS) [(0, .ref (ad 0)), (1, .int x1), (2, .int x2), (3, .int x3), (4, .int x4), (5, .int x5)] 0 0 [] 0
  refine g_iload_n (pc' := 1) C dX3_set_0 rfl rfl rfl ?_
  refine cnV (pc' := 4) C (run_SV (rest := []) C lk_X3_83 (mtX3_checkVersion hv) ⟨by decide, by decide⟩ rfl rfl (Nat.le_of_ble_eq_true rfl) ⟨Nat.zero_le _, Nat.zero_le _⟩ dX3_set_1) rfl (fun u1 hv => ?_)
  refine g_aload_n (pc' := 5) C dX3_set_4 rfl rfl rfl ?_
  refine g_iload_n (pc' := 6) C dX3_set_5 rfl rfl rfl ?_
  refine csV (pc' := 9) C (run_VV (rest := []) C lk_X3_48 (mtX3_checkPlace hv) ⟨by decide, by decide⟩ rfl rfl rfl rfl (Nat.le_of_ble_eq_true rfl) ⟨Nat.zero_le _, Nat.zero_le _⟩ dX3_set_6) rfl (fun u6 hv => ?_)
  refine g_iload_n (pc' := 10) C dX3_set_9 rfl rfl rfl ?_
  refine cnV (pc' := 13) C (run_SV (rest := []) C lk_X3_86 (mtX3_checkCellAccount hv) ⟨by decide, by decide⟩ rfl rfl (Nat.le_of_ble_eq_true rfl) ⟨Nat.zero_le _, Nat.zero_le _⟩ dX3_set_10) rfl (fun u10 hv => ?_)
  refine g_iload (pc' := 15) C dX3_set_13 rfl rfl ?_
  refine cnV (pc' := 18) C (run_SV (rest := []) C lk_X3_89 (mtX3_checkMonth hv) ⟨by decide, by decide⟩ rfl rfl (Nat.le_of_ble_eq_true rfl) ⟨Nat.zero_le _, Nat.zero_le _⟩ dX3_set_15) rfl (fun u15 hv => ?_)
  refine g_iload (pc' := 20) C dX3_set_18 rfl rfl ?_
  refine g_iload_n (pc' := 21) C dX3_set_20 rfl rfl rfl ?_
  refine cnI (pc' := 24) C (run_SI (rest := [.int x5]) C lk_X3_92 (mtX3_mostOf hv) ⟨by decide, by decide⟩ rfl rfl (Nat.le_of_ble_eq_true rfl) ⟨Nat.zero_le _, Nat.zero_le _⟩ dX3_set_21) rfl (fun r21 u21 hv => ?_)
  refine cnV (pc' := 27) C (run_SV (rest := []) C lk_X3_95 (mtX3_checkUpTo hv) ⟨by decide, by decide⟩ rfl rfl (Nat.le_of_ble_eq_true rfl) ⟨Nat.zero_le _, Nat.zero_le _⟩ dX3_set_24) rfl (fun u24 hv => ?_)
  refine g_aload_n (pc' := 28) C dX3_set_27 rfl rfl rfl ?_
  refine g_iload_n (pc' := 29) C dX3_set_28 rfl rfl rfl ?_
  refine csV (pc' := 32) C (run_VV (rest := []) C lk_X3_99 (mtX3_checkLeaf hv) ⟨by decide, by decide⟩ rfl rfl rfl rfl (Nat.le_of_ble_eq_true rfl) ⟨Nat.zero_le _, Nat.zero_le _⟩ dX3_set_29) rfl (fun u29 hv => ?_)
  refine g_aload_n (pc' := 33) C dX3_set_32 rfl rfl rfl ?_
  refine gf_X3_27 (pc' := 36) C dX3_set_33 rfl 0 rfl rfl ?_
  refine g_iload_n (pc' := 37) C dX3_set_36 rfl rfl rfl ?_
  obtain ⟨hi, hv⟩ := hv
  refine g_iald (pc' := 38) C dX3_set_37 rfl 4 rfl hi ?_
  refine g_iload_n (pc' := 39) C dX3_set_38 rfl rfl rfl ?_
  refine cnI (pc' := 42) C (run_SI (rest := []) C lk_X3_102 (mtX3_isIn hv) ⟨by decide, by decide⟩ rfl rfl (Nat.le_of_ble_eq_true rfl) ⟨Nat.zero_le _, Nat.zero_le _⟩ dX3_set_39) rfl (fun r39 u39 hv => ?_)
  obtain ⟨hv1, hv2⟩ := hv
  refine g_if_eq (pc' := 45) (tgt := 55) C dX3_set_42 rfl (by decide) (fun c => ?_) (fun c => ?_)
  · have hv := hv1 c
    refine g_aload_n (pc' := 56) C dX3_set_55 rfl rfl rfl ?_
    refine gf_X3_19 (pc' := 59) C dX3_set_56 rfl 0 rfl rfl ?_
    refine g_iload_n (pc' := 60) C dX3_set_59 rfl rfl rfl ?_
    refine g_iload_n (pc' := 61) C dX3_set_60 rfl rfl rfl ?_
    refine g_iload_n (pc' := 62) C dX3_set_61 rfl rfl rfl ?_
    refine g_iload (pc' := 64) C dX3_set_62 rfl rfl ?_
    refine g_iload (pc' := 66) C dX3_set_64 rfl rfl ?_
    refine cfI (pc' := 69) C (run_VI (rest := []) C lk_X3_108 (mtX0_put hv) ⟨by decide, by decide⟩ rfl rfl rfl rfl (Nat.le_of_ble_eq_true rfl) ⟨Nat.zero_le _, Nat.zero_le _⟩ dX3_set_66) rfl [2, 8] [0, 1, 3, 4, 5, 6, 7, 9, 10, 11, 12] [0, 1, 11, 2, 3, 4, 5, 6, 12, 7, 8, 9, 10] nd_BC2 di_BC2 (fun u66 => wB γ ad seen cnt pwc par u66 held clos seW seS leW leS) rfl rfl (fun _ => rfl) (fun r66 u66 hv => ?_)
    exact RT r66 u66 _ _ _ _ dX3_set_69 rfl (by decide) (by decide) hv
  · have hv := hv2 c
    exact hv.elim)
def zX3_set (cnt : Int32) (pwc : Int32) (amt : Ar) (clos : Ar) (x1 : Int32) (x2 : Int32) (x3 : Int32) (x4 : Int32) (x5 : Int32) (X : String → (Ar) → Prop) : Prop := ((zX3_checkVersion x1 (fun E => X E amt)) ∨ (vX3_checkVersion x1 (((zX3_checkPlace cnt x2 (fun E => X E amt)) ∨ (vX3_checkPlace cnt x2 (((zX3_checkCellAccount x3 (fun E => X E amt)) ∨ (vX3_checkCellAccount x3 (((zX3_checkMonth x4 (fun E => X E amt)) ∨ (vX3_checkMonth x4 ((vX3_mostOf x3 (fun r21 => ((zX3_checkUpTo x5 r21 (fun E => X E amt)) ∨ (vX3_checkUpTo x5 r21 (((zX3_checkLeaf pwc x2 (fun E => X E amt)) ∨ (vX3_checkLeaf pwc x2 ((vp_in x1 3 ∧ (vX3_isIn (clos x1.toNatClampNeg) x2 (fun r39 => ((r39 = (0 : Int32) → False) ∧ (¬ r39 = (0 : Int32) → (X eIS amt))))))))))))))))))))))))))
set_option maxHeartbeats 4000000 in
set_option maxRecDepth 100000 in
theorem mtzX3_set {l : Launch} (hfl : l.stackTraces = false) {γ : Gm} {ad : Nat → Nat} {seen : Int32} {cnt : Int32} {pwc : Int32} {par : Ar} {amt : Ar} {held : Ar} {clos : Ar} {seW : Ar} {seS : Ar} {leW : Ar} {leS : Ar} {x1 : Int32} {x2 : Int32} {x3 : Int32} {x4 : Int32} {x5 : Int32} {X : String → (Ar) → Prop} (hv : zX3_set cnt pwc amt clos x1 x2 x3 x4 x5 X) : CtX l γ yX3_set cX3_set 6 (some .int) 7 103 [.ref (ad 0), .int x1, .int x2, .int x3, .int x4, .int x5] (wB γ ad seen cnt pwc par amt held clos seW seS leW leS) (fun (E : String) (u : Ar) => X E u) (fun u => wB γ ad seen cnt pwc par u held clos seW seS leW leS) := startX (by decide +kernel) (Nat.le_of_ble_eq_true rfl) (fun κ C hX => by
  show G l γ κ (wB γ ad seen cnt pwc par amt held clos seW seS leW leS) [(0, .ref (ad 0)), (1, .int x1), (2, .int x2), (3, .int x3), (4, .int x4), (5, .int x5)] 0 0 [] 0
  refine g_iload_n (pc' := 1) C dX3_set_0 rfl rfl rfl ?_
  rcases hv with hv | hv
  · exact noneX C hX (run_SX (rest := []) C lk_X3_83 (mtzX3_checkVersion hfl hv) ⟨by decide, by decide⟩ rfl rfl (Nat.le_of_ble_eq_true rfl) ⟨hX.2.2.1, hX.2.2.2⟩ dX3_set_1) (fun E u1 hx => ⟨amt, hx, rfl⟩)
  · refine cnV (pc' := 4) C (run_SV (rest := []) C lk_X3_83 (mtX3_checkVersion hv) ⟨by decide, by decide⟩ rfl rfl (Nat.le_of_ble_eq_true rfl) ⟨Nat.zero_le _, Nat.zero_le _⟩ dX3_set_1) rfl (fun u1 hv => ?_)
    refine g_aload_n (pc' := 5) C dX3_set_4 rfl rfl rfl ?_
    refine g_iload_n (pc' := 6) C dX3_set_5 rfl rfl rfl ?_
    rcases hv with hv | hv
    · exact sameX C hX (run_VX (rest := []) C lk_X3_48 (mtzX3_checkPlace hfl hv) ⟨by decide, by decide⟩ rfl rfl rfl rfl (Nat.le_of_ble_eq_true rfl) ⟨hX.2.2.1, hX.2.2.2⟩ dX3_set_6) (fun E u6 hx => ⟨amt, hx, rfl⟩)
    · refine csV (pc' := 9) C (run_VV (rest := []) C lk_X3_48 (mtX3_checkPlace hv) ⟨by decide, by decide⟩ rfl rfl rfl rfl (Nat.le_of_ble_eq_true rfl) ⟨Nat.zero_le _, Nat.zero_le _⟩ dX3_set_6) rfl (fun u6 hv => ?_)
      refine g_iload_n (pc' := 10) C dX3_set_9 rfl rfl rfl ?_
      rcases hv with hv | hv
      · exact noneX C hX (run_SX (rest := []) C lk_X3_86 (mtzX3_checkCellAccount hfl hv) ⟨by decide, by decide⟩ rfl rfl (Nat.le_of_ble_eq_true rfl) ⟨hX.2.2.1, hX.2.2.2⟩ dX3_set_10) (fun E u10 hx => ⟨amt, hx, rfl⟩)
      · refine cnV (pc' := 13) C (run_SV (rest := []) C lk_X3_86 (mtX3_checkCellAccount hv) ⟨by decide, by decide⟩ rfl rfl (Nat.le_of_ble_eq_true rfl) ⟨Nat.zero_le _, Nat.zero_le _⟩ dX3_set_10) rfl (fun u10 hv => ?_)
        refine g_iload (pc' := 15) C dX3_set_13 rfl rfl ?_
        rcases hv with hv | hv
        · exact noneX C hX (run_SX (rest := []) C lk_X3_89 (mtzX3_checkMonth hfl hv) ⟨by decide, by decide⟩ rfl rfl (Nat.le_of_ble_eq_true rfl) ⟨hX.2.2.1, hX.2.2.2⟩ dX3_set_15) (fun E u15 hx => ⟨amt, hx, rfl⟩)
        · refine cnV (pc' := 18) C (run_SV (rest := []) C lk_X3_89 (mtX3_checkMonth hv) ⟨by decide, by decide⟩ rfl rfl (Nat.le_of_ble_eq_true rfl) ⟨Nat.zero_le _, Nat.zero_le _⟩ dX3_set_15) rfl (fun u15 hv => ?_)
          refine g_iload (pc' := 20) C dX3_set_18 rfl rfl ?_
          refine g_iload_n (pc' := 21) C dX3_set_20 rfl rfl rfl ?_
          refine cnI (pc' := 24) C (run_SI (rest := [.int x5]) C lk_X3_92 (mtX3_mostOf hv) ⟨by decide, by decide⟩ rfl rfl (Nat.le_of_ble_eq_true rfl) ⟨Nat.zero_le _, Nat.zero_le _⟩ dX3_set_21) rfl (fun r21 u21 hv => ?_)
          rcases hv with hv | hv
          · exact noneX C hX (run_SX (rest := []) C lk_X3_95 (mtzX3_checkUpTo hfl hv) ⟨by decide, by decide⟩ rfl rfl (Nat.le_of_ble_eq_true rfl) ⟨hX.2.2.1, hX.2.2.2⟩ dX3_set_24) (fun E u24 hx => ⟨amt, hx, rfl⟩)
          · refine cnV (pc' := 27) C (run_SV (rest := []) C lk_X3_95 (mtX3_checkUpTo hv) ⟨by decide, by decide⟩ rfl rfl (Nat.le_of_ble_eq_true rfl) ⟨Nat.zero_le _, Nat.zero_le _⟩ dX3_set_24) rfl (fun u24 hv => ?_)
            refine g_aload_n (pc' := 28) C dX3_set_27 rfl rfl rfl ?_
            refine g_iload_n (pc' := 29) C dX3_set_28 rfl rfl rfl ?_
            rcases hv with hv | hv
            · exact sameX C hX (run_VX (rest := []) C lk_X3_99 (mtzX3_checkLeaf hfl hv) ⟨by decide, by decide⟩ rfl rfl rfl rfl (Nat.le_of_ble_eq_true rfl) ⟨hX.2.2.1, hX.2.2.2⟩ dX3_set_29) (fun E u29 hx => ⟨amt, hx, rfl⟩)
            · refine csV (pc' := 32) C (run_VV (rest := []) C lk_X3_99 (mtX3_checkLeaf hv) ⟨by decide, by decide⟩ rfl rfl rfl rfl (Nat.le_of_ble_eq_true rfl) ⟨Nat.zero_le _, Nat.zero_le _⟩ dX3_set_29) rfl (fun u29 hv => ?_)
              refine g_aload_n (pc' := 33) C dX3_set_32 rfl rfl rfl ?_
              refine gf_X3_27 (pc' := 36) C dX3_set_33 rfl 0 rfl rfl ?_
              refine g_iload_n (pc' := 37) C dX3_set_36 rfl rfl rfl ?_
              obtain ⟨hi, hv⟩ := hv
              refine g_iald (pc' := 38) C dX3_set_37 rfl 4 rfl hi ?_
              refine g_iload_n (pc' := 39) C dX3_set_38 rfl rfl rfl ?_
              refine cnI (pc' := 42) C (run_SI (rest := []) C lk_X3_102 (mtX3_isIn hv) ⟨by decide, by decide⟩ rfl rfl (Nat.le_of_ble_eq_true rfl) ⟨Nat.zero_le _, Nat.zero_le _⟩ dX3_set_39) rfl (fun r39 u39 hv => ?_)
              obtain ⟨hv1, hv2⟩ := hv
              refine g_if_eq (pc' := 45) (tgt := 55) C dX3_set_42 rfl (by decide) (fun c => ?_) (fun c => ?_)
              · have hv := hv1 c
                exact hv.elim
              · have hv := hv2 c
                exact g_throw hfl C hX amt (th_eIS (List.mem_of_getElem? (i := 2) rfl)) (by decide) dX3_set_45 dX3_set_48 dX3_set_49 dX3_set_51 dX3_set_54 rfl hv)
def vX3_hold_J43 (cnt : Int32) (pwc : Int32) (held : Ar) (x2 : Int32) (x4 : Int32) (s0 : Int32) (Q : Int32 → (Ar) → Prop) : Prop := (vp_in x2 12 ∧ ((s0 = x4 → (Q (0 : Int32) (upd held x2.toNatClampNeg s0))) ∧ (¬ s0 = x4 → (Q (1 : Int32) (upd held x2.toNatClampNeg s0)))))
set_option maxHeartbeats 4000000 in
set_option maxRecDepth 100000 in
theorem wvX3_hold_J43 {l : Launch} {γ : Gm} {κ : Kx} {ad : Nat → Nat} {seen : Int32} {cnt : Int32} {pwc : Int32} {par : Ar} {amt : Ar} {held : Ar} {clos : Ar} {seW : Ar} {seS : Ar} {leW : Ar} {leS : Ar} {x2 : Int32} {x4 : Int32} {s0 : Int32} {Q : Int32 → (Ar) → Prop} (C : Ok γ κ cX3_hold 6 RX3 7 103) (RT : RtI l γ κ cX3_hold .boolean 0 0 (fun (r : Int32) (u : Ar) => Q r u) (fun u => wB γ ad seen cnt pwc par amt u clos seW seS leW leS))  (hv : vX3_hold_J43 cnt pwc held x2 x4 s0 Q) : G l γ κ (wB γ ad seen cnt pwc par amt held clos seW seS leW leS) [(0, .ref (ad 0)), (2, .int x2), (4, .int x4)] 0 0 [.int s0] 43 := by
  refine g_istore (pc' := 45) (lv' := [(5, .int s0), (0, .ref (ad 0)), (2, .int x2), (4, .int x4)]) C dX3_hold_43 rfl (by decide) rfl ?_
  refine g_aload_n (pc' := 46) C dX3_hold_45 rfl rfl rfl ?_
  refine gf_X3_23 (pc' := 49) C dX3_hold_46 rfl 0 rfl rfl ?_
  refine g_iload_n (pc' := 50) C dX3_hold_49 rfl rfl rfl ?_
  refine g_iload (pc' := 52) C dX3_hold_50 rfl rfl ?_
  obtain ⟨hi, hv⟩ := hv
  refine g_iast (pc' := 53) (ws' := wB γ ad seen cnt pwc par amt (upd held x2.toNatClampNeg s0) clos seW seS leW leS) C dX3_hold_52 rfl 3 rfl hi rfl ?_
  refine g_iload (pc' := 55) C dX3_hold_53 rfl rfl ?_
  refine g_iload (pc' := 57) C dX3_hold_55 rfl rfl ?_
  obtain ⟨hv1, hv2⟩ := hv
  refine g_icmp_eq (pc' := 60) (tgt := 64) C dX3_hold_57 rfl (by decide) (fun c => ?_) (fun c => ?_)
  · have hv := hv1 c
    refine g_iconst (pc' := 65) (v := (0 : Int32)) C dX3_hold_64 rfl (by decide) ?_
    exact RT (0 : Int32) (upd held x2.toNatClampNeg s0) _ _ _ _ dX3_hold_65 rfl (by decide) (by decide) hv
  · have hv := hv2 c
    refine g_iconst (pc' := 61) (v := (1 : Int32)) C dX3_hold_60 rfl (by decide) ?_
    refine g_goto (tgt := 65) C dX3_hold_61 (by decide) ?_
    exact RT (1 : Int32) (upd held x2.toNatClampNeg s0) _ _ _ _ dX3_hold_65 rfl (by decide) (by decide) hv
def vX3_hold (cnt : Int32) (pwc : Int32) (held : Ar) (x1 : Int32) (x2 : Int32) (x3 : Int32) (Q : Int32 → (Ar) → Prop) : Prop := (vX3_checkPlace cnt x1 ((vX3_checkMonth x2 ((vX3_checkLeaf pwc x1 ((vp_in x2 12 ∧ ((x3 = (0 : Int32) → (vX3_hold_J43 cnt pwc held x2 (held x2.toNatClampNeg) ((held x2.toNatClampNeg) &&& (((1 : Int32) <<< (x1 &&& 31)) ^^^ (-1 : Int32))) Q)) ∧ (¬ x3 = (0 : Int32) → (vX3_hold_J43 cnt pwc held x2 (held x2.toNatClampNeg) ((held x2.toNatClampNeg) ||| ((1 : Int32) <<< (x1 &&& 31))) Q))))))))))
set_option maxHeartbeats 4000000 in
set_option maxRecDepth 100000 in
theorem mtX3_hold {l : Launch} {γ : Gm} {ad : Nat → Nat} {seen : Int32} {cnt : Int32} {pwc : Int32} {par : Ar} {amt : Ar} {held : Ar} {clos : Ar} {seW : Ar} {seS : Ar} {leW : Ar} {leS : Ar} {x1 : Int32} {x2 : Int32} {x3 : Int32} {Q : Int32 → (Ar) → Prop} (hv : vX3_hold cnt pwc held x1 x2 x3 Q) : CtI l γ yX3_hold cX3_hold 6 .boolean 7 103 0 0 [.ref (ad 0), .int x1, .int x2, .int x3] (wB γ ad seen cnt pwc par amt held clos seW seS leW leS) (fun (r : Int32) (u : Ar) => Q r u) (fun u => wB γ ad seen cnt pwc par amt u clos seW seS leW leS) := startI (by decide +kernel) (Nat.le_of_ble_eq_true rfl) (fun κ C RT hR hnm => by
  show G l γ κ (wB γ ad seen cnt pwc par amt held clos seW seS leW leS) [(0, .ref (ad 0)), (1, .int x1), (2, .int x2), (3, .int x3)] 0 0 [] 0
  refine g_aload_n (pc' := 1) C dX3_hold_0 rfl rfl rfl ?_
  refine g_iload_n (pc' := 2) C dX3_hold_1 rfl rfl rfl ?_
  refine csV (pc' := 5) C (run_VV (rest := []) C lk_X3_48 (mtX3_checkPlace hv) ⟨by decide, by decide⟩ rfl rfl rfl rfl (Nat.le_of_ble_eq_true rfl) ⟨Nat.zero_le _, Nat.zero_le _⟩ dX3_hold_2) rfl (fun u2 hv => ?_)
  refine g_iload_n (pc' := 6) C dX3_hold_5 rfl rfl rfl ?_
  refine cnV (pc' := 9) C (run_SV (rest := []) C lk_X3_89 (mtX3_checkMonth hv) ⟨by decide, by decide⟩ rfl rfl (Nat.le_of_ble_eq_true rfl) ⟨Nat.zero_le _, Nat.zero_le _⟩ dX3_hold_6) rfl (fun u6 hv => ?_)
  refine g_aload_n (pc' := 10) C dX3_hold_9 rfl rfl rfl ?_
  refine g_iload_n (pc' := 11) C dX3_hold_10 rfl rfl rfl ?_
  refine csV (pc' := 14) C (run_VV (rest := []) C lk_X3_99 (mtX3_checkLeaf hv) ⟨by decide, by decide⟩ rfl rfl rfl rfl (Nat.le_of_ble_eq_true rfl) ⟨Nat.zero_le _, Nat.zero_le _⟩ dX3_hold_11) rfl (fun u11 hv => ?_)
  refine g_aload_n (pc' := 15) C dX3_hold_14 rfl rfl rfl ?_
  refine gf_X3_23 (pc' := 18) C dX3_hold_15 rfl 0 rfl rfl ?_
  refine g_iload_n (pc' := 19) C dX3_hold_18 rfl rfl rfl ?_
  obtain ⟨hi, hv⟩ := hv
  refine g_iald (pc' := 20) C dX3_hold_19 rfl 3 rfl hi ?_
  refine g_istore (pc' := 22) (lv' := [(4, .int (held x2.toNatClampNeg)), (0, .ref (ad 0)), (1, .int x1), (2, .int x2), (3, .int x3)]) C dX3_hold_20 rfl (by decide) rfl ?_
  refine g_iload_n (pc' := 23) C dX3_hold_22 rfl rfl rfl ?_
  obtain ⟨hv1, hv2⟩ := hv
  refine g_if_eq (pc' := 26) (tgt := 35) C dX3_hold_23 rfl (by decide) (fun c => ?_) (fun c => ?_)
  · have hv := hv1 c
    refine g_iload (pc' := 37) C dX3_hold_35 rfl rfl ?_
    refine g_iconst (pc' := 38) (v := (1 : Int32)) C dX3_hold_37 rfl (by decide) ?_
    refine g_iload_n (pc' := 39) C dX3_hold_38 rfl rfl rfl ?_
    refine g_ishl (pc' := 40) C dX3_hold_39 rfl ?_
    refine g_iconst (pc' := 41) (v := (-1 : Int32)) C dX3_hold_40 rfl (by decide) ?_
    refine g_ixor (pc' := 42) C dX3_hold_41 rfl ?_
    refine g_iand (pc' := 43) C dX3_hold_42 rfl ?_
    refine g_sub (lv' := [(0, .ref (ad 0)), (2, .int x2), (4, .int (held x2.toNatClampNeg))]) [1, 3, 0] rfl ?_
    exact wvX3_hold_J43 C RT  hv
  · have hv := hv2 c
    refine g_iload (pc' := 28) C dX3_hold_26 rfl rfl ?_
    refine g_iconst (pc' := 29) (v := (1 : Int32)) C dX3_hold_28 rfl (by decide) ?_
    refine g_iload_n (pc' := 30) C dX3_hold_29 rfl rfl rfl ?_
    refine g_ishl (pc' := 31) C dX3_hold_30 rfl ?_
    refine g_ior (pc' := 32) C dX3_hold_31 rfl ?_
    refine g_goto (tgt := 43) C dX3_hold_32 (by decide) ?_
    refine g_sub (lv' := [(0, .ref (ad 0)), (2, .int x2), (4, .int (held x2.toNatClampNeg))]) [1, 3, 0] rfl ?_
    exact wvX3_hold_J43 C RT  hv)
def zX3_hold (cnt : Int32) (pwc : Int32) (held : Ar) (x1 : Int32) (x2 : Int32) (x3 : Int32) (X : String → (Ar) → Prop) : Prop := ((zX3_checkPlace cnt x1 (fun E => X E held)) ∨ (vX3_checkPlace cnt x1 (((zX3_checkMonth x2 (fun E => X E held)) ∨ (vX3_checkMonth x2 ((zX3_checkLeaf pwc x1 (fun E => X E held))))))))
set_option maxHeartbeats 4000000 in
set_option maxRecDepth 100000 in
theorem mtzX3_hold {l : Launch} (hfl : l.stackTraces = false) {γ : Gm} {ad : Nat → Nat} {seen : Int32} {cnt : Int32} {pwc : Int32} {par : Ar} {amt : Ar} {held : Ar} {clos : Ar} {seW : Ar} {seS : Ar} {leW : Ar} {leS : Ar} {x1 : Int32} {x2 : Int32} {x3 : Int32} {X : String → (Ar) → Prop} (hv : zX3_hold cnt pwc held x1 x2 x3 X) : CtX l γ yX3_hold cX3_hold 6 (some .boolean) 7 103 [.ref (ad 0), .int x1, .int x2, .int x3] (wB γ ad seen cnt pwc par amt held clos seW seS leW leS) (fun (E : String) (u : Ar) => X E u) (fun u => wB γ ad seen cnt pwc par amt u clos seW seS leW leS) := startX (by decide +kernel) (Nat.le_of_ble_eq_true rfl) (fun κ C hX => by
  show G l γ κ (wB γ ad seen cnt pwc par amt held clos seW seS leW leS) [(0, .ref (ad 0)), (1, .int x1), (2, .int x2), (3, .int x3)] 0 0 [] 0
  refine g_aload_n (pc' := 1) C dX3_hold_0 rfl rfl rfl ?_
  refine g_iload_n (pc' := 2) C dX3_hold_1 rfl rfl rfl ?_
  rcases hv with hv | hv
  · exact sameX C hX (run_VX (rest := []) C lk_X3_48 (mtzX3_checkPlace hfl hv) ⟨by decide, by decide⟩ rfl rfl rfl rfl (Nat.le_of_ble_eq_true rfl) ⟨hX.2.2.1, hX.2.2.2⟩ dX3_hold_2) (fun E u2 hx => ⟨held, hx, rfl⟩)
  · refine csV (pc' := 5) C (run_VV (rest := []) C lk_X3_48 (mtX3_checkPlace hv) ⟨by decide, by decide⟩ rfl rfl rfl rfl (Nat.le_of_ble_eq_true rfl) ⟨Nat.zero_le _, Nat.zero_le _⟩ dX3_hold_2) rfl (fun u2 hv => ?_)
    refine g_iload_n (pc' := 6) C dX3_hold_5 rfl rfl rfl ?_
    rcases hv with hv | hv
    · exact noneX C hX (run_SX (rest := []) C lk_X3_89 (mtzX3_checkMonth hfl hv) ⟨by decide, by decide⟩ rfl rfl (Nat.le_of_ble_eq_true rfl) ⟨hX.2.2.1, hX.2.2.2⟩ dX3_hold_6) (fun E u6 hx => ⟨held, hx, rfl⟩)
    · refine cnV (pc' := 9) C (run_SV (rest := []) C lk_X3_89 (mtX3_checkMonth hv) ⟨by decide, by decide⟩ rfl rfl (Nat.le_of_ble_eq_true rfl) ⟨Nat.zero_le _, Nat.zero_le _⟩ dX3_hold_6) rfl (fun u6 hv => ?_)
      refine g_aload_n (pc' := 10) C dX3_hold_9 rfl rfl rfl ?_
      refine g_iload_n (pc' := 11) C dX3_hold_10 rfl rfl rfl ?_
      exact sameX C hX (run_VX (rest := []) C lk_X3_99 (mtzX3_checkLeaf hfl hv) ⟨by decide, by decide⟩ rfl rfl rfl rfl (Nat.le_of_ble_eq_true rfl) ⟨hX.2.2.1, hX.2.2.2⟩ dX3_hold_11) (fun E u11 hx => ⟨held, hx, rfl⟩))
def vX3_setSeason (seW : Ar) (x1 : Int32) (x2 : Int32) (Q : Int32 → (Ar) → Prop) : Prop := (vX3_checkMonth x1 ((vX3_checkUpTo x2 (100 : Int32) ((vX1_weigh seW x1 x2 (fun r16 u16 => (Q r16 u16)))))))
set_option maxHeartbeats 4000000 in
set_option maxRecDepth 100000 in
theorem mtX3_setSeason {l : Launch} {γ : Gm} {ad : Nat → Nat} {seen : Int32} {cnt : Int32} {pwc : Int32} {par : Ar} {amt : Ar} {held : Ar} {clos : Ar} {seW : Ar} {seS : Ar} {leW : Ar} {leS : Ar} {x1 : Int32} {x2 : Int32} {Q : Int32 → (Ar) → Prop} (hv : vX3_setSeason seW x1 x2 Q) : CtI l γ yX3_setSeason cX3_setSeason 3 .int 7 103 0 0 [.ref (ad 0), .int x1, .int x2] (wB γ ad seen cnt pwc par amt held clos seW seS leW leS) (fun (r : Int32) (u : Ar) => Q r u) (fun u => wB γ ad seen cnt pwc par amt held clos u seS leW leS) := startI (by decide +kernel) (Nat.le_of_ble_eq_true rfl) (fun κ C RT hR hnm => by
  show G l γ κ (wB γ ad seen cnt pwc par amt held clos seW seS leW leS) [(0, .ref (ad 0)), (1, .int x1), (2, .int x2)] 0 0 [] 0
  refine g_iload_n (pc' := 1) C dX3_setSeason_0 rfl rfl rfl ?_
  refine cnV (pc' := 4) C (run_SV (rest := []) C lk_X3_89 (mtX3_checkMonth hv) ⟨by decide, by decide⟩ rfl rfl (Nat.le_of_ble_eq_true rfl) ⟨Nat.zero_le _, Nat.zero_le _⟩ dX3_setSeason_1) rfl (fun u1 hv => ?_)
  refine g_iload_n (pc' := 5) C dX3_setSeason_4 rfl rfl rfl ?_
  refine g_bipush (pc' := 7) (v := (100 : Int32)) C dX3_setSeason_5 rfl (by decide) ?_
  refine cnV (pc' := 10) C (run_SV (rest := []) C lk_X3_95 (mtX3_checkUpTo hv) ⟨by decide, by decide⟩ rfl rfl (Nat.le_of_ble_eq_true rfl) ⟨Nat.zero_le _, Nat.zero_le _⟩ dX3_setSeason_7) rfl (fun u7 hv => ?_)
  refine g_aload_n (pc' := 11) C dX3_setSeason_10 rfl rfl rfl ?_
  refine gf_X3_33 (pc' := 14) C dX3_setSeason_11 rfl 0 rfl rfl ?_
  refine g_iload_n (pc' := 15) C dX3_setSeason_14 rfl rfl rfl ?_
  refine g_iload_n (pc' := 16) C dX3_setSeason_15 rfl rfl rfl ?_
  refine cfI (pc' := 19) C (run_VI (rest := []) C lk_X3_44 (mtX1_weigh hv) ⟨by decide, by decide⟩ rfl rfl rfl rfl (Nat.le_of_ble_eq_true rfl) ⟨Nat.zero_le _, Nat.zero_le _⟩ dX3_setSeason_16) rfl [5, 9, 10] [0, 1, 2, 3, 4, 6, 7, 8, 11, 12] [0, 1, 2, 3, 4, 10, 5, 6, 7, 11, 12, 8, 9] nd_BS5 di_BS5 (fun u16 => wB γ ad seen cnt pwc par amt held clos u16 seS leW leS) rfl rfl (fun _ => rfl) (fun r16 u16 hv => ?_)
  exact RT r16 u16 _ _ _ _ dX3_setSeason_19 rfl (by decide) (by decide) hv)
def zX3_setSeason (seW : Ar) (x1 : Int32) (x2 : Int32) (X : String → (Ar) → Prop) : Prop := ((zX3_checkMonth x1 (fun E => X E seW)) ∨ (vX3_checkMonth x1 ((zX3_checkUpTo x2 (100 : Int32) (fun E => X E seW)))))
set_option maxHeartbeats 4000000 in
set_option maxRecDepth 100000 in
theorem mtzX3_setSeason {l : Launch} (hfl : l.stackTraces = false) {γ : Gm} {ad : Nat → Nat} {seen : Int32} {cnt : Int32} {pwc : Int32} {par : Ar} {amt : Ar} {held : Ar} {clos : Ar} {seW : Ar} {seS : Ar} {leW : Ar} {leS : Ar} {x1 : Int32} {x2 : Int32} {X : String → (Ar) → Prop} (hv : zX3_setSeason seW x1 x2 X) : CtX l γ yX3_setSeason cX3_setSeason 3 (some .int) 7 103 [.ref (ad 0), .int x1, .int x2] (wB γ ad seen cnt pwc par amt held clos seW seS leW leS) (fun (E : String) (u : Ar) => X E u) (fun u => wB γ ad seen cnt pwc par amt held clos u seS leW leS) := startX (by decide +kernel) (Nat.le_of_ble_eq_true rfl) (fun κ C hX => by
  show G l γ κ (wB γ ad seen cnt pwc par amt held clos seW seS leW leS) [(0, .ref (ad 0)), (1, .int x1), (2, .int x2)] 0 0 [] 0
  refine g_iload_n (pc' := 1) C dX3_setSeason_0 rfl rfl rfl ?_
  rcases hv with hv | hv
  · exact noneX C hX (run_SX (rest := []) C lk_X3_89 (mtzX3_checkMonth hfl hv) ⟨by decide, by decide⟩ rfl rfl (Nat.le_of_ble_eq_true rfl) ⟨hX.2.2.1, hX.2.2.2⟩ dX3_setSeason_1) (fun E u1 hx => ⟨seW, hx, rfl⟩)
  · refine cnV (pc' := 4) C (run_SV (rest := []) C lk_X3_89 (mtX3_checkMonth hv) ⟨by decide, by decide⟩ rfl rfl (Nat.le_of_ble_eq_true rfl) ⟨Nat.zero_le _, Nat.zero_le _⟩ dX3_setSeason_1) rfl (fun u1 hv => ?_)
    refine g_iload_n (pc' := 5) C dX3_setSeason_4 rfl rfl rfl ?_
    refine g_bipush (pc' := 7) (v := (100 : Int32)) C dX3_setSeason_5 rfl (by decide) ?_
    exact noneX C hX (run_SX (rest := []) C lk_X3_95 (mtzX3_checkUpTo hfl hv) ⟨by decide, by decide⟩ rfl rfl (Nat.le_of_ble_eq_true rfl) ⟨hX.2.2.1, hX.2.2.2⟩ dX3_setSeason_7) (fun E u7 hx => ⟨seW, hx, rfl⟩))
def vX3_freeAmong (held : Ar) (clos : Ar) (x1 : Int32) (x2 : Int32) (x3 : Int32) (Q : Int32 → Prop) : Prop := (vp_in x3 12 ∧ (vp_in x2 3 ∧ (Q ((x1 &&& ((held x3.toNatClampNeg) ^^^ (-1 : Int32))) &&& ((clos x2.toNatClampNeg) ^^^ (-1 : Int32))))))
set_option maxHeartbeats 4000000 in
set_option maxRecDepth 100000 in
theorem mtX3_freeAmong {l : Launch} {γ : Gm} {ad : Nat → Nat} {seen : Int32} {cnt : Int32} {pwc : Int32} {par : Ar} {amt : Ar} {held : Ar} {clos : Ar} {seW : Ar} {seS : Ar} {leW : Ar} {leS : Ar} {x1 : Int32} {x2 : Int32} {x3 : Int32} {Q : Int32 → Prop} (hv : vX3_freeAmong held clos x1 x2 x3 Q) : CtI l γ yX3_freeAmong cX3_freeAmong 4 .int 0 0 0 0 [.ref (ad 0), .int x1, .int x2, .int x3] (wB γ ad seen cnt pwc par amt held clos seW seS leW leS) (fun (r : Int32) (_ : Unit) => Q r) (fun _ => wB γ ad seen cnt pwc par amt held clos seW seS leW leS) := startI (by decide +kernel) (Nat.le_of_ble_eq_true rfl) (fun κ C RT hR hnm => by
  show G l γ κ (wB γ ad seen cnt pwc par amt held clos seW seS leW leS) [(0, .ref (ad 0)), (1, .int x1), (2, .int x2), (3, .int x3)] 0 0 [] 0
  refine g_iload_n (pc' := 1) C dX3_freeAmong_0 rfl rfl rfl ?_
  refine g_aload_n (pc' := 2) C dX3_freeAmong_1 rfl rfl rfl ?_
  refine gf_X3_23 (pc' := 5) C dX3_freeAmong_2 rfl 0 rfl rfl ?_
  refine g_iload_n (pc' := 6) C dX3_freeAmong_5 rfl rfl rfl ?_
  obtain ⟨hi, hv⟩ := hv
  refine g_iald (pc' := 7) C dX3_freeAmong_6 rfl 3 rfl hi ?_
  refine g_iconst (pc' := 8) (v := (-1 : Int32)) C dX3_freeAmong_7 rfl (by decide) ?_
  refine g_ixor (pc' := 9) C dX3_freeAmong_8 rfl ?_
  refine g_iand (pc' := 10) C dX3_freeAmong_9 rfl ?_
  refine g_aload_n (pc' := 11) C dX3_freeAmong_10 rfl rfl rfl ?_
  refine gf_X3_27 (pc' := 14) C dX3_freeAmong_11 rfl 0 rfl rfl ?_
  refine g_iload_n (pc' := 15) C dX3_freeAmong_14 rfl rfl rfl ?_
  obtain ⟨hi, hv⟩ := hv
  refine g_iald (pc' := 16) C dX3_freeAmong_15 rfl 4 rfl hi ?_
  refine g_iconst (pc' := 17) (v := (-1 : Int32)) C dX3_freeAmong_16 rfl (by decide) ?_
  refine g_ixor (pc' := 18) C dX3_freeAmong_17 rfl ?_
  refine g_iand (pc' := 19) C dX3_freeAmong_18 rfl ?_
  exact RT ((x1 &&& ((held x3.toNatClampNeg) ^^^ (-1 : Int32))) &&& ((clos x2.toNatClampNeg) ^^^ (-1 : Int32))) () _ _ _ _ dX3_freeAmong_19 rfl (by decide) (by decide) hv)
def vX3_restOf (amt : Ar) (held : Ar) (clos : Ar) (x1 : Int32) (x2 : Int32) (x3 : Int32) (x4 : Int32) (Q : Int32 → Prop) : Prop := (vX3_freeAmong held clos x3 x2 x4 (fun r6 => (vX0_sumOver amt x2 (x3 &&& (r6 ^^^ (-1 : Int32))) (2 : Int32) x4 (fun r25 => (Q (x1 - r25))))))
set_option maxHeartbeats 4000000 in
set_option maxRecDepth 100000 in
theorem mtX3_restOf {l : Launch} {γ : Gm} {ad : Nat → Nat} {seen : Int32} {cnt : Int32} {pwc : Int32} {par : Ar} {amt : Ar} {held : Ar} {clos : Ar} {seW : Ar} {seS : Ar} {leW : Ar} {leS : Ar} {x1 : Int32} {x2 : Int32} {x3 : Int32} {x4 : Int32} {Q : Int32 → Prop} (hv : vX3_restOf amt held clos x1 x2 x3 x4 Q) : CtI l γ yX3_restOf cX3_restOf 6 .int 4 97 0 0 [.ref (ad 0), .int x1, .int x2, .int x3, .int x4] (wB γ ad seen cnt pwc par amt held clos seW seS leW leS) (fun (r : Int32) (_ : Unit) => Q r) (fun _ => wB γ ad seen cnt pwc par amt held clos seW seS leW leS) := startI (by decide +kernel) (Nat.le_of_ble_eq_true rfl) (fun κ C RT hR hnm => by
  show G l γ κ (wB γ ad seen cnt pwc par amt held clos seW seS leW leS) [(0, .ref (ad 0)), (1, .int x1), (2, .int x2), (3, .int x3), (4, .int x4)] 0 0 [] 0
  refine g_iload_n (pc' := 1) C dX3_restOf_0 rfl rfl rfl ?_
  refine g_aload_n (pc' := 2) C dX3_restOf_1 rfl rfl rfl ?_
  refine g_iload_n (pc' := 3) C dX3_restOf_2 rfl rfl rfl ?_
  refine g_iload_n (pc' := 4) C dX3_restOf_3 rfl rfl rfl ?_
  refine g_iload (pc' := 6) C dX3_restOf_4 rfl rfl ?_
  refine csI (pc' := 9) C (run_VI (rest := [.int x3]) C lk_X3_174 (mtX3_freeAmong hv) ⟨by decide, by decide⟩ rfl rfl rfl rfl (Nat.le_of_ble_eq_true rfl) ⟨Nat.zero_le _, Nat.zero_le _⟩ dX3_restOf_6) rfl (fun r6 u6 hv => ?_)
  refine g_iconst (pc' := 10) (v := (-1 : Int32)) C dX3_restOf_9 rfl (by decide) ?_
  refine g_ixor (pc' := 11) C dX3_restOf_10 rfl ?_
  refine g_iand (pc' := 12) C dX3_restOf_11 rfl ?_
  refine g_istore (pc' := 14) (lv' := [(5, .int (x3 &&& (r6 ^^^ (-1 : Int32)))), (0, .ref (ad 0)), (1, .int x1), (2, .int x2), (3, .int x3), (4, .int x4)]) C dX3_restOf_12 rfl (by decide) rfl ?_
  refine g_iload_n (pc' := 15) C dX3_restOf_14 rfl rfl rfl ?_
  refine g_aload_n (pc' := 16) C dX3_restOf_15 rfl rfl rfl ?_
  refine gf_X3_19 (pc' := 19) C dX3_restOf_16 rfl 0 rfl rfl ?_
  refine g_iload_n (pc' := 20) C dX3_restOf_19 rfl rfl rfl ?_
  refine g_iload (pc' := 22) C dX3_restOf_20 rfl rfl ?_
  refine g_iconst (pc' := 23) (v := (2 : Int32)) C dX3_restOf_22 rfl (by decide) ?_
  refine g_iload (pc' := 25) C dX3_restOf_23 rfl rfl ?_
  refine cfI (pc' := 28) C (run_VI (rest := [.int x1]) C lk_X3_151 (mtX0_sumOver hv) ⟨by decide, by decide⟩ rfl rfl rfl rfl (Nat.le_of_ble_eq_true rfl) ⟨Nat.zero_le _, Nat.zero_le _⟩ dX3_restOf_25) rfl [2, 8] [0, 1, 3, 4, 5, 6, 7, 9, 10, 11, 12] [0, 1, 11, 2, 3, 4, 5, 6, 12, 7, 8, 9, 10] nd_BC2 di_BC2 (fun u25 => wB γ ad seen cnt pwc par amt held clos seW seS leW leS) rfl rfl (fun _ => rfl) (fun r25 u25 hv => ?_)
  refine g_isub (pc' := 29) C dX3_restOf_28 rfl ?_
  exact RT (x1 - r25) () _ _ _ _ dX3_restOf_29 rfl (by decide) (by decide) hv)
def vX3_checkSpreadable (amt : Ar) (held : Ar) (clos : Ar) (x1 : Int32) (x2 : Int32) (x3 : Int32) (x4 : Int32) (Q : Prop) : Prop := (vX3_freeAmong held clos x2 x1 x3 (fun r4 => ((¬ r4 = (0 : Int32) → (vX3_restOf amt held clos x4 x1 x2 x3 (fun r26 => (((0 : Int32) ≤ r26 → Q) ∧ (¬ (0 : Int32) ≤ r26 → False))))) ∧ (r4 = (0 : Int32) → False))))
set_option maxHeartbeats 4000000 in
set_option maxRecDepth 100000 in
theorem mtX3_checkSpreadable {l : Launch} {γ : Gm} {ad : Nat → Nat} {seen : Int32} {cnt : Int32} {pwc : Int32} {par : Ar} {amt : Ar} {held : Ar} {clos : Ar} {seW : Ar} {seS : Ar} {leW : Ar} {leS : Ar} {x1 : Int32} {x2 : Int32} {x3 : Int32} {x4 : Int32} {Q : Prop} (hv : vX3_checkSpreadable amt held clos x1 x2 x3 x4 Q) : CtV l γ yX3_checkSpreadable cX3_checkSpreadable 5 6 122 0 0 [.ref (ad 0), .int x1, .int x2, .int x3, .int x4] (wB γ ad seen cnt pwc par amt held clos seW seS leW leS) (fun (_ : Unit) => Q) (fun _ => wB γ ad seen cnt pwc par amt held clos seW seS leW leS) := startV (by decide +kernel) (Nat.le_of_ble_eq_true rfl) (fun κ C RT hR hnm => by
  show G l γ κ (wB γ ad seen cnt pwc par amt held clos seW seS leW leS) [(0, .ref (ad 0)), (1, .int x1), (2, .int x2), (3, .int x3), (4, .int x4)] 0 0 [] 0
  refine g_aload_n (pc' := 1) C dX3_checkSpreadable_0 rfl rfl rfl ?_
  refine g_iload_n (pc' := 2) C dX3_checkSpreadable_1 rfl rfl rfl ?_
  refine g_iload_n (pc' := 3) C dX3_checkSpreadable_2 rfl rfl rfl ?_
  refine g_iload_n (pc' := 4) C dX3_checkSpreadable_3 rfl rfl rfl ?_
  refine csI (pc' := 7) C (run_VI (rest := []) C lk_X3_174 (mtX3_freeAmong hv) ⟨by decide, by decide⟩ rfl rfl rfl rfl (Nat.le_of_ble_eq_true rfl) ⟨Nat.zero_le _, Nat.zero_le _⟩ dX3_checkSpreadable_4) rfl (fun r4 u4 hv => ?_)
  obtain ⟨hv1, hv2⟩ := hv
  refine g_if_ne (pc' := 10) (tgt := 20) C dX3_checkSpreadable_7 rfl (by decide) (fun c => ?_) (fun c => ?_)
  · have hv := hv1 c
    refine g_aload_n (pc' := 21) C dX3_checkSpreadable_20 rfl rfl rfl ?_
    refine g_iload (pc' := 23) C dX3_checkSpreadable_21 rfl rfl ?_
    refine g_iload_n (pc' := 24) C dX3_checkSpreadable_23 rfl rfl rfl ?_
    refine g_iload_n (pc' := 25) C dX3_checkSpreadable_24 rfl rfl rfl ?_
    refine g_iload_n (pc' := 26) C dX3_checkSpreadable_25 rfl rfl rfl ?_
    refine csI (pc' := 29) C (run_VI (rest := []) C lk_X3_179 (mtX3_restOf hv) ⟨by decide, by decide⟩ rfl rfl rfl rfl (Nat.le_of_ble_eq_true rfl) ⟨Nat.zero_le _, Nat.zero_le _⟩ dX3_checkSpreadable_26) rfl (fun r26 u26 hv => ?_)
    obtain ⟨hv1, hv2⟩ := hv
    refine g_if_ge (pc' := 32) (tgt := 42) C dX3_checkSpreadable_29 rfl (by decide) (fun c => ?_) (fun c => ?_)
    · have hv := hv1 c
      exact RT () _ _ _ _ dX3_checkSpreadable_42 (by decide) (by decide) hv
    · have hv := hv2 c
      exact hv.elim
  · have hv := hv2 c
    exact hv.elim)
def zX3_checkSpreadable (amt : Ar) (held : Ar) (clos : Ar) (x1 : Int32) (x2 : Int32) (x3 : Int32) (x4 : Int32) (X : String → Prop) : Prop := (vX3_freeAmong held clos x2 x1 x3 (fun r4 => ((¬ r4 = (0 : Int32) → (vX3_restOf amt held clos x4 x1 x2 x3 (fun r26 => (((0 : Int32) ≤ r26 → False) ∧ (¬ (0 : Int32) ≤ r26 → (X eIS)))))) ∧ (r4 = (0 : Int32) → (X eIS)))))
set_option maxHeartbeats 4000000 in
set_option maxRecDepth 100000 in
theorem mtzX3_checkSpreadable {l : Launch} (hfl : l.stackTraces = false) {γ : Gm} {ad : Nat → Nat} {seen : Int32} {cnt : Int32} {pwc : Int32} {par : Ar} {amt : Ar} {held : Ar} {clos : Ar} {seW : Ar} {seS : Ar} {leW : Ar} {leS : Ar} {x1 : Int32} {x2 : Int32} {x3 : Int32} {x4 : Int32} {X : String → Prop} (hv : zX3_checkSpreadable amt held clos x1 x2 x3 x4 X) : CtX l γ yX3_checkSpreadable cX3_checkSpreadable 5 none 6 122 [.ref (ad 0), .int x1, .int x2, .int x3, .int x4] (wB γ ad seen cnt pwc par amt held clos seW seS leW leS) (fun (E : String) (_ : Unit) => X E) (fun _ => wB γ ad seen cnt pwc par amt held clos seW seS leW leS) := startX (by decide +kernel) (Nat.le_of_ble_eq_true rfl) (fun κ C hX => by
  show G l γ κ (wB γ ad seen cnt pwc par amt held clos seW seS leW leS) [(0, .ref (ad 0)), (1, .int x1), (2, .int x2), (3, .int x3), (4, .int x4)] 0 0 [] 0
  refine g_aload_n (pc' := 1) C dX3_checkSpreadable_0 rfl rfl rfl ?_
  refine g_iload_n (pc' := 2) C dX3_checkSpreadable_1 rfl rfl rfl ?_
  refine g_iload_n (pc' := 3) C dX3_checkSpreadable_2 rfl rfl rfl ?_
  refine g_iload_n (pc' := 4) C dX3_checkSpreadable_3 rfl rfl rfl ?_
  refine csI (pc' := 7) C (run_VI (rest := []) C lk_X3_174 (mtX3_freeAmong hv) ⟨by decide, by decide⟩ rfl rfl rfl rfl (Nat.le_of_ble_eq_true rfl) ⟨Nat.zero_le _, Nat.zero_le _⟩ dX3_checkSpreadable_4) rfl (fun r4 u4 hv => ?_)
  obtain ⟨hv1, hv2⟩ := hv
  refine g_if_ne (pc' := 10) (tgt := 20) C dX3_checkSpreadable_7 rfl (by decide) (fun c => ?_) (fun c => ?_)
  · have hv := hv1 c
    refine g_aload_n (pc' := 21) C dX3_checkSpreadable_20 rfl rfl rfl ?_
    refine g_iload (pc' := 23) C dX3_checkSpreadable_21 rfl rfl ?_
    refine g_iload_n (pc' := 24) C dX3_checkSpreadable_23 rfl rfl rfl ?_
    refine g_iload_n (pc' := 25) C dX3_checkSpreadable_24 rfl rfl rfl ?_
    refine g_iload_n (pc' := 26) C dX3_checkSpreadable_25 rfl rfl rfl ?_
    refine csI (pc' := 29) C (run_VI (rest := []) C lk_X3_179 (mtX3_restOf hv) ⟨by decide, by decide⟩ rfl rfl rfl rfl (Nat.le_of_ble_eq_true rfl) ⟨Nat.zero_le _, Nat.zero_le _⟩ dX3_checkSpreadable_26) rfl (fun r26 u26 hv => ?_)
    obtain ⟨hv1, hv2⟩ := hv
    refine g_if_ge (pc' := 32) (tgt := 42) C dX3_checkSpreadable_29 rfl (by decide) (fun c => ?_) (fun c => ?_)
    · have hv := hv1 c
      exact hv.elim
    · have hv := hv2 c
      exact g_throw hfl C hX () (th_eIS (List.mem_of_getElem? (i := 8) rfl)) (by decide) dX3_checkSpreadable_32 dX3_checkSpreadable_35 dX3_checkSpreadable_36 dX3_checkSpreadable_38 dX3_checkSpreadable_41 rfl hv
  · have hv := hv2 c
    exact g_throw hfl C hX () (th_eIS (List.mem_of_getElem? (i := 7) rfl)) (by decide) dX3_checkSpreadable_10 dX3_checkSpreadable_13 dX3_checkSpreadable_14 dX3_checkSpreadable_16 dX3_checkSpreadable_19 rfl hv)
def vX3_weighLeaves_J72 (amt : Ar) (leW : Ar) (x1 : Int32) (x2 : Int32) (x3 : Int32) (x5 : Int32) (x6 : Int32) (x7 : Int32) (K30 : Int32 → Ar → Prop) (Q : (Ar) → Prop) : Prop := (vX1_weigh leW x6 x7 (fun r80 u80 => (K30 (x6 + (1 : Int32)) u80)))
set_option maxHeartbeats 4000000 in
set_option maxRecDepth 100000 in
theorem wvX3_weighLeaves_J72 {l : Launch} {γ : Gm} {κ : Kx} {ad : Nat → Nat} {seen : Int32} {cnt : Int32} {pwc : Int32} {par : Ar} {amt : Ar} {held : Ar} {clos : Ar} {seW : Ar} {seS : Ar} {leW : Ar} {leS : Ar} {x1 : Int32} {x2 : Int32} {x3 : Int32} {x5 : Int32} {x6 : Int32} {x7 : Int32} {K30 : Int32 → Ar → Prop} {Q : (Ar) → Prop} (C : Ok γ κ cX3_weighLeaves 8 RX3 4 97) (RT : RtV l γ κ cX3_weighLeaves 0 0 (fun (u : Ar) => Q u) (fun u => wB γ ad seen cnt pwc par amt held clos seW seS u leS)) (hK30 : ∀ (x6 : Int32) (leW : Ar), K30 x6 leW → G l γ κ (wB γ ad seen cnt pwc par amt held clos seW seS leW leS) [(0, .ref (ad 0)), (1, .int x1), (2, .int x2), (3, .int x3), (5, .int x5), (6, .int x6)] 0 0 [] 30) (hv : vX3_weighLeaves_J72 amt leW x1 x2 x3 x5 x6 x7 K30 Q) : G l γ κ (wB γ ad seen cnt pwc par amt held clos seW seS leW leS) [(0, .ref (ad 0)), (1, .int x1), (2, .int x2), (3, .int x3), (5, .int x5), (6, .int x6), (7, .int x7)] 0 0 [] 72 := by
  refine g_aload_n (pc' := 73) C dX3_weighLeaves_72 rfl rfl rfl ?_
  refine gf_X3_37 (pc' := 76) C dX3_weighLeaves_73 rfl 0 rfl rfl ?_
  refine g_iload (pc' := 78) C dX3_weighLeaves_76 rfl rfl ?_
  refine g_iload (pc' := 80) C dX3_weighLeaves_78 rfl rfl ?_
  refine cfI (pc' := 83) C (run_VI (rest := []) C lk_X3_44 (mtX1_weigh hv) ⟨by decide, by decide⟩ rfl rfl rfl rfl (Nat.le_of_ble_eq_true rfl) ⟨Nat.zero_le _, Nat.zero_le _⟩ dX3_weighLeaves_80) rfl [6, 11, 12] [0, 1, 2, 3, 4, 5, 7, 8, 9, 10] [0, 1, 2, 3, 4, 5, 10, 6, 7, 8, 9, 11, 12] nd_BS6 di_BS6 (fun u80 => wB γ ad seen cnt pwc par amt held clos seW seS u80 leS) rfl rfl (fun _ => rfl) (fun r80 u80 hv => ?_)
  refine g_pop (pc' := 84) C dX3_weighLeaves_83 rfl rfl ?_
  refine g_iinc (pc' := 87) (v := (x6 + (1 : Int32))) (lv' := [(6, .int (x6 + (1 : Int32))), (0, .ref (ad 0)), (1, .int x1), (2, .int x2), (3, .int x3), (5, .int x5), (7, .int x7)]) C dX3_weighLeaves_84 rfl rfl rfl (by decide) rfl ?_
  refine g_goto (tgt := 30) C dX3_weighLeaves_87 (by decide) ?_
  refine g_sub (lv' := [(0, .ref (ad 0)), (1, .int x1), (2, .int x2), (3, .int x3), (5, .int x5), (6, .int (x6 + (1 : Int32)))]) [1, 2, 3, 4, 5, 0] rfl ?_
  exact hK30 _ _ hv
def vX3_weighLeaves_J70 (amt : Ar) (leW : Ar) (x1 : Int32) (x2 : Int32) (x3 : Int32) (x5 : Int32) (x6 : Int32) (s0 : Int32) (K30 : Int32 → Ar → Prop) (Q : (Ar) → Prop) : Prop := (vX3_weighLeaves_J72 amt leW x1 x2 x3 x5 x6 s0 K30 Q)
set_option maxHeartbeats 4000000 in
set_option maxRecDepth 100000 in
theorem wvX3_weighLeaves_J70 {l : Launch} {γ : Gm} {κ : Kx} {ad : Nat → Nat} {seen : Int32} {cnt : Int32} {pwc : Int32} {par : Ar} {amt : Ar} {held : Ar} {clos : Ar} {seW : Ar} {seS : Ar} {leW : Ar} {leS : Ar} {x1 : Int32} {x2 : Int32} {x3 : Int32} {x5 : Int32} {x6 : Int32} {s0 : Int32} {K30 : Int32 → Ar → Prop} {Q : (Ar) → Prop} (C : Ok γ κ cX3_weighLeaves 8 RX3 4 97) (RT : RtV l γ κ cX3_weighLeaves 0 0 (fun (u : Ar) => Q u) (fun u => wB γ ad seen cnt pwc par amt held clos seW seS u leS)) (hK30 : ∀ (x6 : Int32) (leW : Ar), K30 x6 leW → G l γ κ (wB γ ad seen cnt pwc par amt held clos seW seS leW leS) [(0, .ref (ad 0)), (1, .int x1), (2, .int x2), (3, .int x3), (5, .int x5), (6, .int x6)] 0 0 [] 30) (hv : vX3_weighLeaves_J70 amt leW x1 x2 x3 x5 x6 s0 K30 Q) : G l γ κ (wB γ ad seen cnt pwc par amt held clos seW seS leW leS) [(0, .ref (ad 0)), (1, .int x1), (2, .int x2), (3, .int x3), (5, .int x5), (6, .int x6)] 0 0 [.int s0] 70 := by
  refine g_istore (pc' := 72) (lv' := [(7, .int s0), (0, .ref (ad 0)), (1, .int x1), (2, .int x2), (3, .int x3), (5, .int x5), (6, .int x6)]) C dX3_weighLeaves_70 rfl (by decide) rfl ?_
  refine g_sub (lv' := [(0, .ref (ad 0)), (1, .int x1), (2, .int x2), (3, .int x3), (5, .int x5), (6, .int x6), (7, .int s0)]) [1, 2, 3, 4, 5, 6, 0] rfl ?_
  exact wvX3_weighLeaves_J72 C RT hK30 hv
def vX3_weighLeaves_L30 (amt : Ar) (x1 : Int32) (x2 : Int32) (x3 : Int32) (x5 : Int32) (Q : (Ar) → Prop) : Nat → Int32 → Ar → Prop
  | 0, _, _ => False
  | n + 1, x6, leW => (((10 : Int32) ≤ x6 → (Q leW)) ∧ (¬ (10 : Int32) ≤ x6 → (vX3_isIn x2 x6 (fun r43 => ((r43 = (0 : Int32) → (vX3_weighLeaves_J72 amt leW x1 x2 x3 x5 x6 (0 : Int32) (vX3_weighLeaves_L30 amt x1 x2 x3 x5 Q n) Q)) ∧ (¬ r43 = (0 : Int32) → ((x5 = (0 : Int32) → (vX0_at amt x1 x6 (2 : Int32) x3 (fun r67 => (vX3_weighLeaves_J70 amt leW x1 x2 x3 x5 x6 r67 (vX3_weighLeaves_L30 amt x1 x2 x3 x5 Q n) Q)))) ∧ (¬ x5 = (0 : Int32) → (vX3_weighLeaves_J70 amt leW x1 x2 x3 x5 x6 (1 : Int32) (vX3_weighLeaves_L30 amt x1 x2 x3 x5 Q n) Q)))))))))
set_option maxHeartbeats 4000000 in
set_option maxRecDepth 100000 in
theorem wvX3_weighLeaves_L30 {l : Launch} {γ : Gm} {κ : Kx} {ad : Nat → Nat} {seen : Int32} {cnt : Int32} {pwc : Int32} {par : Ar} {amt : Ar} {held : Ar} {clos : Ar} {seW : Ar} {seS : Ar} {leS : Ar} {x1 : Int32} {x2 : Int32} {x3 : Int32} {x5 : Int32} {Q : (Ar) → Prop} (C : Ok γ κ cX3_weighLeaves 8 RX3 4 97) (RT : RtV l γ κ cX3_weighLeaves 0 0 (fun (u : Ar) => Q u) (fun u => wB γ ad seen cnt pwc par amt held clos seW seS u leS))  : ∀ (n : Nat) (x6 : Int32) (leW : Ar), vX3_weighLeaves_L30 amt x1 x2 x3 x5 Q n x6 leW → G l γ κ (wB γ ad seen cnt pwc par amt held clos seW seS leW leS) [(0, .ref (ad 0)), (1, .int x1), (2, .int x2), (3, .int x3), (5, .int x5), (6, .int x6)] 0 0 [] 30 := by
  intro n
  induction n with
  | zero => intro x6 leW hv; exact False.elim hv
  | succ n ih =>
    intro x6 leW hv
    refine g_iload (pc' := 32) C dX3_weighLeaves_30 rfl rfl ?_
    refine g_bipush (pc' := 34) (v := (10 : Int32)) C dX3_weighLeaves_32 rfl (by decide) ?_
    obtain ⟨hv1, hv2⟩ := hv
    refine g_icmp_ge (pc' := 37) (tgt := 90) C dX3_weighLeaves_34 rfl (by decide) (fun c => ?_) (fun c => ?_)
    · have hv := hv1 c
      exact RT leW _ _ _ _ dX3_weighLeaves_90 (by decide) (by decide) hv
    · have hv := hv2 c
      refine g_iconst (pc' := 38) (v := (0 : Int32)) C dX3_weighLeaves_37 rfl (by decide) ?_
      refine g_istore (pc' := 40) (lv' := [(7, .int (0 : Int32)), (0, .ref (ad 0)), (1, .int x1), (2, .int x2), (3, .int x3), (5, .int x5), (6, .int x6)]) C dX3_weighLeaves_38 rfl (by decide) rfl ?_
      refine g_iload_n (pc' := 41) C dX3_weighLeaves_40 rfl rfl rfl ?_
      refine g_iload (pc' := 43) C dX3_weighLeaves_41 rfl rfl ?_
      refine cnI (pc' := 46) C (run_SI (rest := []) C lk_X3_102 (mtX3_isIn hv) ⟨by decide, by decide⟩ rfl rfl (Nat.le_of_ble_eq_true rfl) ⟨Nat.zero_le _, Nat.zero_le _⟩ dX3_weighLeaves_43) rfl (fun r43 u43 hv => ?_)
      obtain ⟨hv1, hv2⟩ := hv
      refine g_if_eq (pc' := 49) (tgt := 72) C dX3_weighLeaves_46 rfl (by decide) (fun c => ?_) (fun c => ?_)
      · have hv := hv1 c
        refine g_sub (lv' := [(0, .ref (ad 0)), (1, .int x1), (2, .int x2), (3, .int x3), (5, .int x5), (6, .int x6), (7, .int (0 : Int32))]) [1, 2, 3, 4, 5, 6, 0] rfl ?_
        exact wvX3_weighLeaves_J72 C RT ih hv
      · have hv := hv2 c
        refine g_iload (pc' := 51) C dX3_weighLeaves_49 rfl rfl ?_
        obtain ⟨hv1, hv2⟩ := hv
        refine g_if_eq (pc' := 54) (tgt := 58) C dX3_weighLeaves_51 rfl (by decide) (fun c => ?_) (fun c => ?_)
        · have hv := hv1 c
          refine g_aload_n (pc' := 59) C dX3_weighLeaves_58 rfl rfl rfl ?_
          refine gf_X3_19 (pc' := 62) C dX3_weighLeaves_59 rfl 0 rfl rfl ?_
          refine g_iload_n (pc' := 63) C dX3_weighLeaves_62 rfl rfl rfl ?_
          refine g_iload (pc' := 65) C dX3_weighLeaves_63 rfl rfl ?_
          refine g_iconst (pc' := 66) (v := (2 : Int32)) C dX3_weighLeaves_65 rfl (by decide) ?_
          refine g_iload_n (pc' := 67) C dX3_weighLeaves_66 rfl rfl rfl ?_
          refine cfI (pc' := 70) C (run_VI (rest := []) C lk_X3_165 (mtX0_at hv) ⟨by decide, by decide⟩ rfl rfl rfl rfl (Nat.le_of_ble_eq_true rfl) ⟨Nat.zero_le _, Nat.zero_le _⟩ dX3_weighLeaves_67) rfl [2, 8] [0, 1, 3, 4, 5, 6, 7, 9, 10, 11, 12] [0, 1, 11, 2, 3, 4, 5, 6, 12, 7, 8, 9, 10] nd_BC2 di_BC2 (fun u67 => wB γ ad seen cnt pwc par amt held clos seW seS leW leS) rfl rfl (fun _ => rfl) (fun r67 u67 hv => ?_)
          refine g_sub (lv' := [(0, .ref (ad 0)), (1, .int x1), (2, .int x2), (3, .int x3), (5, .int x5), (6, .int x6)]) [1, 2, 3, 4, 5, 6] rfl ?_
          exact wvX3_weighLeaves_J70 C RT ih hv
        · have hv := hv2 c
          refine g_iconst (pc' := 55) (v := (1 : Int32)) C dX3_weighLeaves_54 rfl (by decide) ?_
          refine g_goto (tgt := 70) C dX3_weighLeaves_55 (by decide) ?_
          refine g_sub (lv' := [(0, .ref (ad 0)), (1, .int x1), (2, .int x2), (3, .int x3), (5, .int x5), (6, .int x6)]) [1, 2, 3, 4, 5, 6] rfl ?_
          exact wvX3_weighLeaves_J70 C RT ih hv
def vX3_weighLeaves (amt : Ar) (leW : Ar) (x1 : Int32) (x2 : Int32) (x3 : Int32) (x4 : Int32) (Q : (Ar) → Prop) : Prop := ((x4 = (1 : Int32) → (∃ n30 : Nat, vX3_weighLeaves_L30 amt x1 x2 x3 (1 : Int32) Q n30 (0 : Int32) leW)) ∧ (¬ x4 = (1 : Int32) → (vX0_sumOver amt x1 x2 (2 : Int32) x3 (fun r14 => ((¬ r14 = (0 : Int32) → (∃ n30 : Nat, vX3_weighLeaves_L30 amt x1 x2 x3 (0 : Int32) Q n30 (0 : Int32) leW)) ∧ (r14 = (0 : Int32) → (∃ n30 : Nat, vX3_weighLeaves_L30 amt x1 x2 x3 (1 : Int32) Q n30 (0 : Int32) leW)))))))
set_option maxHeartbeats 4000000 in
set_option maxRecDepth 100000 in
theorem mtX3_weighLeaves {l : Launch} {γ : Gm} {ad : Nat → Nat} {seen : Int32} {cnt : Int32} {pwc : Int32} {par : Ar} {amt : Ar} {held : Ar} {clos : Ar} {seW : Ar} {seS : Ar} {leW : Ar} {leS : Ar} {x1 : Int32} {x2 : Int32} {x3 : Int32} {x4 : Int32} {Q : (Ar) → Prop} (hv : vX3_weighLeaves amt leW x1 x2 x3 x4 Q) : CtV l γ yX3_weighLeaves cX3_weighLeaves 8 4 97 0 0 [.ref (ad 0), .int x1, .int x2, .int x3, .int x4] (wB γ ad seen cnt pwc par amt held clos seW seS leW leS) (fun (u : Ar) => Q u) (fun u => wB γ ad seen cnt pwc par amt held clos seW seS u leS) := startV (by decide +kernel) (Nat.le_of_ble_eq_true rfl) (fun κ C RT hR hnm => by
  show G l γ κ (wB γ ad seen cnt pwc par amt held clos seW seS leW leS) [(0, .ref (ad 0)), (1, .int x1), (2, .int x2), (3, .int x3), (4, .int x4)] 0 0 [] 0
  refine g_iload (pc' := 2) C dX3_weighLeaves_0 rfl rfl ?_
  refine g_iconst (pc' := 3) (v := (1 : Int32)) C dX3_weighLeaves_2 rfl (by decide) ?_
  obtain ⟨hv1, hv2⟩ := hv
  refine g_icmp_eq (pc' := 6) (tgt := 20) C dX3_weighLeaves_3 rfl (by decide) (fun c => ?_) (fun c => ?_)
  · have hv := hv1 c
    refine g_iconst (pc' := 21) (v := (1 : Int32)) C dX3_weighLeaves_20 rfl (by decide) ?_
    refine g_goto (tgt := 25) C dX3_weighLeaves_21 (by decide) ?_
    refine g_istore (pc' := 27) (lv' := [(5, .int (1 : Int32)), (0, .ref (ad 0)), (1, .int x1), (2, .int x2), (3, .int x3), (4, .int x4)]) C dX3_weighLeaves_25 rfl (by decide) rfl ?_
    refine g_iconst (pc' := 28) (v := (0 : Int32)) C dX3_weighLeaves_27 rfl (by decide) ?_
    refine g_istore (pc' := 30) (lv' := [(6, .int (0 : Int32)), (5, .int (1 : Int32)), (0, .ref (ad 0)), (1, .int x1), (2, .int x2), (3, .int x3), (4, .int x4)]) C dX3_weighLeaves_28 rfl (by decide) rfl ?_
    refine g_sub (lv' := [(0, .ref (ad 0)), (1, .int x1), (2, .int x2), (3, .int x3), (5, .int (1 : Int32)), (6, .int (0 : Int32))]) [2, 3, 4, 5, 1, 0] rfl ?_
    obtain ⟨n30, hv⟩ := hv
    exact wvX3_weighLeaves_L30 C RT  n30 _ _ hv
  · have hv := hv2 c
    refine g_aload_n (pc' := 7) C dX3_weighLeaves_6 rfl rfl rfl ?_
    refine gf_X3_19 (pc' := 10) C dX3_weighLeaves_7 rfl 0 rfl rfl ?_
    refine g_iload_n (pc' := 11) C dX3_weighLeaves_10 rfl rfl rfl ?_
    refine g_iload_n (pc' := 12) C dX3_weighLeaves_11 rfl rfl rfl ?_
    refine g_iconst (pc' := 13) (v := (2 : Int32)) C dX3_weighLeaves_12 rfl (by decide) ?_
    refine g_iload_n (pc' := 14) C dX3_weighLeaves_13 rfl rfl rfl ?_
    refine cfI (pc' := 17) C (run_VI (rest := []) C lk_X3_151 (mtX0_sumOver hv) ⟨by decide, by decide⟩ rfl rfl rfl rfl (Nat.le_of_ble_eq_true rfl) ⟨Nat.zero_le _, Nat.zero_le _⟩ dX3_weighLeaves_14) rfl [2, 8] [0, 1, 3, 4, 5, 6, 7, 9, 10, 11, 12] [0, 1, 11, 2, 3, 4, 5, 6, 12, 7, 8, 9, 10] nd_BC2 di_BC2 (fun u14 => wB γ ad seen cnt pwc par amt held clos seW seS leW leS) rfl rfl (fun _ => rfl) (fun r14 u14 hv => ?_)
    obtain ⟨hv1, hv2⟩ := hv
    refine g_if_ne (pc' := 20) (tgt := 24) C dX3_weighLeaves_17 rfl (by decide) (fun c => ?_) (fun c => ?_)
    · have hv := hv1 c
      refine g_iconst (pc' := 25) (v := (0 : Int32)) C dX3_weighLeaves_24 rfl (by decide) ?_
      refine g_istore (pc' := 27) (lv' := [(5, .int (0 : Int32)), (0, .ref (ad 0)), (1, .int x1), (2, .int x2), (3, .int x3), (4, .int x4)]) C dX3_weighLeaves_25 rfl (by decide) rfl ?_
      refine g_iconst (pc' := 28) (v := (0 : Int32)) C dX3_weighLeaves_27 rfl (by decide) ?_
      refine g_istore (pc' := 30) (lv' := [(6, .int (0 : Int32)), (5, .int (0 : Int32)), (0, .ref (ad 0)), (1, .int x1), (2, .int x2), (3, .int x3), (4, .int x4)]) C dX3_weighLeaves_28 rfl (by decide) rfl ?_
      refine g_sub (lv' := [(0, .ref (ad 0)), (1, .int x1), (2, .int x2), (3, .int x3), (5, .int (0 : Int32)), (6, .int (0 : Int32))]) [2, 3, 4, 5, 1, 0] rfl ?_
      obtain ⟨n30, hv⟩ := hv
      exact wvX3_weighLeaves_L30 C RT  n30 _ _ hv
    · have hv := hv2 c
      refine g_iconst (pc' := 21) (v := (1 : Int32)) C dX3_weighLeaves_20 rfl (by decide) ?_
      refine g_goto (tgt := 25) C dX3_weighLeaves_21 (by decide) ?_
      refine g_istore (pc' := 27) (lv' := [(5, .int (1 : Int32)), (0, .ref (ad 0)), (1, .int x1), (2, .int x2), (3, .int x3), (4, .int x4)]) C dX3_weighLeaves_25 rfl (by decide) rfl ?_
      refine g_iconst (pc' := 28) (v := (0 : Int32)) C dX3_weighLeaves_27 rfl (by decide) ?_
      refine g_istore (pc' := 30) (lv' := [(6, .int (0 : Int32)), (5, .int (1 : Int32)), (0, .ref (ad 0)), (1, .int x1), (2, .int x2), (3, .int x3), (4, .int x4)]) C dX3_weighLeaves_28 rfl (by decide) rfl ?_
      refine g_sub (lv' := [(0, .ref (ad 0)), (1, .int x1), (2, .int x2), (3, .int x3), (5, .int (1 : Int32)), (6, .int (0 : Int32))]) [2, 3, 4, 5, 1, 0] rfl ?_
      obtain ⟨n30, hv⟩ := hv
      exact wvX3_weighLeaves_L30 C RT  n30 _ _ hv)
def vX3_spreadOver_L41 (held : Ar) (clos : Ar) (leW : Ar) (leS : Ar) (x1 : Int32) (x3 : Int32) (x6 : Int32) (Q : Int32 → (Ar × Ar × Ar) → Prop) : Nat → Int32 → Int32 → Ar → Prop
  | 0, _, _, _ => False
  | n + 1, x7, x8, amt => (((10 : Int32) ≤ x8 → (Q x7 (amt, leW, leS))) ∧ (¬ (10 : Int32) ≤ x8 → (vX3_isIn x6 x8 (fun r52 => ((r52 = (0 : Int32) → (vX3_spreadOver_L41 held clos leW leS x1 x3 x6 Q n x7 (x8 + (1 : Int32)) amt)) ∧ (¬ r52 = (0 : Int32) → (vX1_shareOf leS x8 (fun r64 => (vX0_put amt x1 x8 (2 : Int32) x3 r64 (fun r80 u80 => ((r64 = r80 → (vX3_spreadOver_L41 held clos leW leS x1 x3 x6 Q n (x7 + (0 : Int32)) (x8 + (1 : Int32)) u80)) ∧ (¬ r64 = r80 → (vX3_spreadOver_L41 held clos leW leS x1 x3 x6 Q n (x7 + (1 : Int32)) (x8 + (1 : Int32)) u80)))))))))))))
set_option maxHeartbeats 4000000 in
set_option maxRecDepth 100000 in
theorem wvX3_spreadOver_L41 {l : Launch} {γ : Gm} {κ : Kx} {ad : Nat → Nat} {seen : Int32} {cnt : Int32} {pwc : Int32} {par : Ar} {held : Ar} {clos : Ar} {seW : Ar} {seS : Ar} {leW : Ar} {leS : Ar} {x1 : Int32} {x3 : Int32} {x6 : Int32} {Q : Int32 → (Ar × Ar × Ar) → Prop} (C : Ok γ κ cX3_spreadOver 11 RX3 5 124) (RT : RtI l γ κ cX3_spreadOver .int 0 0 (fun (r : Int32) (u : Ar × Ar × Ar) => Q r u) (fun u => wB γ ad seen cnt pwc par u.1 held clos seW seS u.2.1 u.2.2))  : ∀ (n : Nat) (x7 : Int32) (x8 : Int32) (amt : Ar), vX3_spreadOver_L41 held clos leW leS x1 x3 x6 Q n x7 x8 amt → G l γ κ (wB γ ad seen cnt pwc par amt held clos seW seS leW leS) [(0, .ref (ad 0)), (1, .int x1), (3, .int x3), (6, .int x6), (7, .int x7), (8, .int x8)] 0 0 [] 41 := by
  intro n
  induction n with
  | zero => intro x7 x8 amt hv; exact False.elim hv
  | succ n ih =>
    intro x7 x8 amt hv
    refine g_iload (pc' := 43) C dX3_spreadOver_41 rfl rfl ?_
    refine g_bipush (pc' := 45) (v := (10 : Int32)) C dX3_spreadOver_43 rfl (by decide) ?_
    obtain ⟨hv1, hv2⟩ := hv
    refine g_icmp_ge (pc' := 48) (tgt := 108) C dX3_spreadOver_45 rfl (by decide) (fun c => ?_) (fun c => ?_)
    · have hv := hv1 c
      refine g_iload (pc' := 110) C dX3_spreadOver_108 rfl rfl ?_
      exact RT x7 (amt, leW, leS) _ _ _ _ dX3_spreadOver_110 rfl (by decide) (by decide) hv
    · have hv := hv2 c
      refine g_iload (pc' := 50) C dX3_spreadOver_48 rfl rfl ?_
      refine g_iload (pc' := 52) C dX3_spreadOver_50 rfl rfl ?_
      refine cnI (pc' := 55) C (run_SI (rest := []) C lk_X3_102 (mtX3_isIn hv) ⟨by decide, by decide⟩ rfl rfl (Nat.le_of_ble_eq_true rfl) ⟨Nat.zero_le _, Nat.zero_le _⟩ dX3_spreadOver_52) rfl (fun r52 u52 hv => ?_)
      obtain ⟨hv1, hv2⟩ := hv
      refine g_if_eq (pc' := 58) (tgt := 102) C dX3_spreadOver_55 rfl (by decide) (fun c => ?_) (fun c => ?_)
      · have hv := hv1 c
        refine g_iinc (pc' := 105) (v := (x8 + (1 : Int32))) (lv' := [(8, .int (x8 + (1 : Int32))), (0, .ref (ad 0)), (1, .int x1), (3, .int x3), (6, .int x6), (7, .int x7)]) C dX3_spreadOver_102 rfl rfl rfl (by decide) rfl ?_
        refine g_goto (tgt := 41) C dX3_spreadOver_105 (by decide) ?_
        refine g_sub (lv' := [(0, .ref (ad 0)), (1, .int x1), (3, .int x3), (6, .int x6), (7, .int x7), (8, .int (x8 + (1 : Int32)))]) [1, 2, 3, 4, 5, 0] rfl ?_
        exact ih _ _ _ hv
      · have hv := hv2 c
        refine g_aload_n (pc' := 59) C dX3_spreadOver_58 rfl rfl rfl ?_
        refine gf_X3_37 (pc' := 62) C dX3_spreadOver_59 rfl 0 rfl rfl ?_
        refine g_iload (pc' := 64) C dX3_spreadOver_62 rfl rfl ?_
        refine cfI (pc' := 67) C (run_VI (rest := []) C lk_X3_128 (mtX1_shareOf hv) ⟨by decide, by decide⟩ rfl rfl rfl rfl (Nat.le_of_ble_eq_true rfl) ⟨Nat.zero_le _, Nat.zero_le _⟩ dX3_spreadOver_64) rfl [6, 11, 12] [0, 1, 2, 3, 4, 5, 7, 8, 9, 10] [0, 1, 2, 3, 4, 5, 10, 6, 7, 8, 9, 11, 12] nd_BS6 di_BS6 (fun u64 => wB γ ad seen cnt pwc par amt held clos seW seS leW leS) rfl rfl (fun _ => rfl) (fun r64 u64 hv => ?_)
        refine g_istore (pc' := 69) (lv' := [(9, .int r64), (0, .ref (ad 0)), (1, .int x1), (3, .int x3), (6, .int x6), (7, .int x7), (8, .int x8)]) C dX3_spreadOver_67 rfl (by decide) rfl ?_
        refine g_aload_n (pc' := 70) C dX3_spreadOver_69 rfl rfl rfl ?_
        refine gf_X3_19 (pc' := 73) C dX3_spreadOver_70 rfl 0 rfl rfl ?_
        refine g_iload_n (pc' := 74) C dX3_spreadOver_73 rfl rfl rfl ?_
        refine g_iload (pc' := 76) C dX3_spreadOver_74 rfl rfl ?_
        refine g_iconst (pc' := 77) (v := (2 : Int32)) C dX3_spreadOver_76 rfl (by decide) ?_
        refine g_iload_n (pc' := 78) C dX3_spreadOver_77 rfl rfl rfl ?_
        refine g_iload (pc' := 80) C dX3_spreadOver_78 rfl rfl ?_
        refine cfI (pc' := 83) C (run_VI (rest := []) C lk_X3_108 (mtX0_put hv) ⟨by decide, by decide⟩ rfl rfl rfl rfl (Nat.le_of_ble_eq_true rfl) ⟨Nat.zero_le _, Nat.zero_le _⟩ dX3_spreadOver_80) rfl [2, 8] [0, 1, 3, 4, 5, 6, 7, 9, 10, 11, 12] [0, 1, 11, 2, 3, 4, 5, 6, 12, 7, 8, 9, 10] nd_BC2 di_BC2 (fun u80 => wB γ ad seen cnt pwc par u80 held clos seW seS leW leS) rfl rfl (fun _ => rfl) (fun r80 u80 hv => ?_)
        refine g_istore (pc' := 85) (lv' := [(10, .int r80), (9, .int r64), (0, .ref (ad 0)), (1, .int x1), (3, .int x3), (6, .int x6), (7, .int x7), (8, .int x8)]) C dX3_spreadOver_83 rfl (by decide) rfl ?_
        refine g_iload (pc' := 87) C dX3_spreadOver_85 rfl rfl ?_
        refine g_iload (pc' := 89) C dX3_spreadOver_87 rfl rfl ?_
        refine g_iload (pc' := 91) C dX3_spreadOver_89 rfl rfl ?_
        obtain ⟨hv1, hv2⟩ := hv
        refine g_icmp_eq (pc' := 94) (tgt := 98) C dX3_spreadOver_91 rfl (by decide) (fun c => ?_) (fun c => ?_)
        · have hv := hv1 c
          refine g_iconst (pc' := 99) (v := (0 : Int32)) C dX3_spreadOver_98 rfl (by decide) ?_
          refine g_iadd (pc' := 100) C dX3_spreadOver_99 rfl ?_
          refine g_istore (pc' := 102) (lv' := [(7, .int (x7 + (0 : Int32))), (10, .int r80), (9, .int r64), (0, .ref (ad 0)), (1, .int x1), (3, .int x3), (6, .int x6), (8, .int x8)]) C dX3_spreadOver_100 rfl (by decide) rfl ?_
          refine g_iinc (pc' := 105) (v := (x8 + (1 : Int32))) (lv' := [(8, .int (x8 + (1 : Int32))), (7, .int (x7 + (0 : Int32))), (10, .int r80), (9, .int r64), (0, .ref (ad 0)), (1, .int x1), (3, .int x3), (6, .int x6)]) C dX3_spreadOver_102 rfl rfl rfl (by decide) rfl ?_
          refine g_goto (tgt := 41) C dX3_spreadOver_105 (by decide) ?_
          refine g_sub (lv' := [(0, .ref (ad 0)), (1, .int x1), (3, .int x3), (6, .int x6), (7, .int (x7 + (0 : Int32))), (8, .int (x8 + (1 : Int32)))]) [4, 5, 6, 7, 1, 0] rfl ?_
          exact ih _ _ _ hv
        · have hv := hv2 c
          refine g_iconst (pc' := 95) (v := (1 : Int32)) C dX3_spreadOver_94 rfl (by decide) ?_
          refine g_goto (tgt := 99) C dX3_spreadOver_95 (by decide) ?_
          refine g_iadd (pc' := 100) C dX3_spreadOver_99 rfl ?_
          refine g_istore (pc' := 102) (lv' := [(7, .int (x7 + (1 : Int32))), (10, .int r80), (9, .int r64), (0, .ref (ad 0)), (1, .int x1), (3, .int x3), (6, .int x6), (8, .int x8)]) C dX3_spreadOver_100 rfl (by decide) rfl ?_
          refine g_iinc (pc' := 105) (v := (x8 + (1 : Int32))) (lv' := [(8, .int (x8 + (1 : Int32))), (7, .int (x7 + (1 : Int32))), (10, .int r80), (9, .int r64), (0, .ref (ad 0)), (1, .int x1), (3, .int x3), (6, .int x6)]) C dX3_spreadOver_102 rfl rfl rfl (by decide) rfl ?_
          refine g_goto (tgt := 41) C dX3_spreadOver_105 (by decide) ?_
          refine g_sub (lv' := [(0, .ref (ad 0)), (1, .int x1), (3, .int x3), (6, .int x6), (7, .int (x7 + (1 : Int32))), (8, .int (x8 + (1 : Int32)))]) [4, 5, 6, 7, 1, 0] rfl ?_
          exact ih _ _ _ hv
def vX3_spreadOver (amt : Ar) (held : Ar) (clos : Ar) (leW : Ar) (leS : Ar) (x1 : Int32) (x2 : Int32) (x3 : Int32) (x4 : Int32) (x5 : Int32) (Q : Int32 → (Ar × Ar × Ar) → Prop) : Prop := (vX3_freeAmong held clos x2 x1 x3 (fun r4 => (vX3_weighLeaves amt leW x1 r4 x3 x5 (fun u16 => (vX3_restOf amt held clos x4 x1 x2 x3 (fun r29 => (vX1_divide u16 leS r29 (fun u32 => (∃ n41 : Nat, vX3_spreadOver_L41 held clos u16 u32 x1 x3 r4 Q n41 (0 : Int32) (0 : Int32) amt)))))))))
set_option maxHeartbeats 4000000 in
set_option maxRecDepth 100000 in
theorem mtX3_spreadOver {l : Launch} {γ : Gm} {ad : Nat → Nat} {seen : Int32} {cnt : Int32} {pwc : Int32} {par : Ar} {amt : Ar} {held : Ar} {clos : Ar} {seW : Ar} {seS : Ar} {leW : Ar} {leS : Ar} {x1 : Int32} {x2 : Int32} {x3 : Int32} {x4 : Int32} {x5 : Int32} {Q : Int32 → (Ar × Ar × Ar) → Prop} (hv : vX3_spreadOver amt held clos leW leS x1 x2 x3 x4 x5 Q) : CtI l γ yX3_spreadOver cX3_spreadOver 11 .int 5 124 0 0 [.ref (ad 0), .int x1, .int x2, .int x3, .int x4, .int x5] (wB γ ad seen cnt pwc par amt held clos seW seS leW leS) (fun (r : Int32) (u : Ar × Ar × Ar) => Q r u) (fun u => wB γ ad seen cnt pwc par u.1 held clos seW seS u.2.1 u.2.2) := startI (by decide +kernel) (Nat.le_of_ble_eq_true rfl) (fun κ C RT hR hnm => by
  show G l γ κ (wB γ ad seen cnt pwc par amt held clos seW seS leW leS) [(0, .ref (ad 0)), (1, .int x1), (2, .int x2), (3, .int x3), (4, .int x4), (5, .int x5)] 0 0 [] 0
  refine g_aload_n (pc' := 1) C dX3_spreadOver_0 rfl rfl rfl ?_
  refine g_iload_n (pc' := 2) C dX3_spreadOver_1 rfl rfl rfl ?_
  refine g_iload_n (pc' := 3) C dX3_spreadOver_2 rfl rfl rfl ?_
  refine g_iload_n (pc' := 4) C dX3_spreadOver_3 rfl rfl rfl ?_
  refine csI (pc' := 7) C (run_VI (rest := []) C lk_X3_174 (mtX3_freeAmong hv) ⟨by decide, by decide⟩ rfl rfl rfl rfl (Nat.le_of_ble_eq_true rfl) ⟨Nat.zero_le _, Nat.zero_le _⟩ dX3_spreadOver_4) rfl (fun r4 u4 hv => ?_)
  refine g_istore (pc' := 9) (lv' := [(6, .int r4), (0, .ref (ad 0)), (1, .int x1), (2, .int x2), (3, .int x3), (4, .int x4), (5, .int x5)]) C dX3_spreadOver_7 rfl (by decide) rfl ?_
  refine g_aload_n (pc' := 10) C dX3_spreadOver_9 rfl rfl rfl ?_
  refine g_iload_n (pc' := 11) C dX3_spreadOver_10 rfl rfl rfl ?_
  refine g_iload (pc' := 13) C dX3_spreadOver_11 rfl rfl ?_
  refine g_iload_n (pc' := 14) C dX3_spreadOver_13 rfl rfl rfl ?_
  refine g_iload (pc' := 16) C dX3_spreadOver_14 rfl rfl ?_
  refine csV (pc' := 19) C (run_VV (rest := []) C lk_X3_184 (mtX3_weighLeaves hv) ⟨by decide, by decide⟩ rfl rfl rfl rfl (Nat.le_of_ble_eq_true rfl) ⟨Nat.zero_le _, Nat.zero_le _⟩ dX3_spreadOver_16) rfl (fun u16 hv => ?_)
  refine g_aload_n (pc' := 20) C dX3_spreadOver_19 rfl rfl rfl ?_
  refine gf_X3_37 (pc' := 23) C dX3_spreadOver_20 rfl 0 rfl rfl ?_
  refine g_aload_n (pc' := 24) C dX3_spreadOver_23 rfl rfl rfl ?_
  refine g_iload (pc' := 26) C dX3_spreadOver_24 rfl rfl ?_
  refine g_iload_n (pc' := 27) C dX3_spreadOver_26 rfl rfl rfl ?_
  refine g_iload_n (pc' := 28) C dX3_spreadOver_27 rfl rfl rfl ?_
  refine g_iload_n (pc' := 29) C dX3_spreadOver_28 rfl rfl rfl ?_
  refine csI (pc' := 32) C (run_VI (rest := [.ref (ad 6)]) C lk_X3_179 (mtX3_restOf hv) ⟨by decide, by decide⟩ rfl rfl rfl rfl (Nat.le_of_ble_eq_true rfl) ⟨Nat.zero_le _, Nat.zero_le _⟩ dX3_spreadOver_29) rfl (fun r29 u29 hv => ?_)
  refine cfV (pc' := 35) C (run_VV (rest := []) C lk_X3_125 (mtX1_divide hv) ⟨by decide, by decide⟩ rfl rfl rfl rfl (Nat.le_of_ble_eq_true rfl) ⟨Nat.zero_le _, Nat.zero_le _⟩ dX3_spreadOver_32) rfl [6, 11, 12] [0, 1, 2, 3, 4, 5, 7, 8, 9, 10] [0, 1, 2, 3, 4, 5, 10, 6, 7, 8, 9, 11, 12] nd_BS6 di_BS6 (fun u32 => wB γ ad seen cnt pwc par amt held clos seW seS u16 u32) rfl rfl (fun _ => rfl) (fun u32 hv => ?_)
  refine g_iconst (pc' := 36) (v := (0 : Int32)) C dX3_spreadOver_35 rfl (by decide) ?_
  refine g_istore (pc' := 38) (lv' := [(7, .int (0 : Int32)), (6, .int r4), (0, .ref (ad 0)), (1, .int x1), (2, .int x2), (3, .int x3), (4, .int x4), (5, .int x5)]) C dX3_spreadOver_36 rfl (by decide) rfl ?_
  refine g_iconst (pc' := 39) (v := (0 : Int32)) C dX3_spreadOver_38 rfl (by decide) ?_
  refine g_istore (pc' := 41) (lv' := [(8, .int (0 : Int32)), (7, .int (0 : Int32)), (6, .int r4), (0, .ref (ad 0)), (1, .int x1), (2, .int x2), (3, .int x3), (4, .int x4), (5, .int x5)]) C dX3_spreadOver_39 rfl (by decide) rfl ?_
  refine g_sub (lv' := [(0, .ref (ad 0)), (1, .int x1), (3, .int x3), (6, .int r4), (7, .int (0 : Int32)), (8, .int (0 : Int32))]) [3, 4, 6, 2, 1, 0] rfl ?_
  obtain ⟨n41, hv⟩ := hv
  exact wvX3_spreadOver_L41 C RT  n41 _ _ _ hv)
def vX3_spread (cnt : Int32) (pwc : Int32) (par : Ar) (amt : Ar) (held : Ar) (clos : Ar) (leW : Ar) (leS : Ar) (x1 : Int32) (x2 : Int32) (x3 : Int32) (x4 : Int32) (x5 : Int32) (Q : Int32 → (Ar × Ar × Ar) → Prop) : Prop := (vX3_checkVersion x1 ((vX3_checkPlace cnt x2 ((vX3_checkMonth x3 ((vX3_checkUpTo x4 (1000000 : Int32) ((vX3_checkUpTo x5 (1 : Int32) ((vX2_leavesBelow cnt pwc par x2 (fun r31 => (vX3_checkSpreadable amt held clos x1 r31 x3 x4 ((vX3_spreadOver amt held clos leW leS x1 r31 x3 x4 x5 (fun r55 u55 => (Q r55 (u55.1, u55.2.1, u55.2.2))))))))))))))))))
set_option maxHeartbeats 4000000 in
set_option maxRecDepth 100000 in
theorem mtX3_spread {l : Launch} {γ : Gm} {ad : Nat → Nat} {seen : Int32} {cnt : Int32} {pwc : Int32} {par : Ar} {amt : Ar} {held : Ar} {clos : Ar} {seW : Ar} {seS : Ar} {leW : Ar} {leS : Ar} {x1 : Int32} {x2 : Int32} {x3 : Int32} {x4 : Int32} {x5 : Int32} {Q : Int32 → (Ar × Ar × Ar) → Prop} (hv : vX3_spread cnt pwc par amt held clos leW leS x1 x2 x3 x4 x5 Q) : CtI l γ yX3_spread cX3_spread 7 .int 7 154 0 0 [.ref (ad 0), .int x1, .int x2, .int x3, .int x4, .int x5] (wB γ ad seen cnt pwc par amt held clos seW seS leW leS) (fun (r : Int32) (u : Ar × Ar × Ar) => Q r u) (fun u => wB γ ad seen cnt pwc par u.1 held clos seW seS u.2.1 u.2.2) := startI (by decide +kernel) (Nat.le_of_ble_eq_true rfl) (fun κ C RT hR hnm => by
  show G l γ κ (wB γ ad seen cnt pwc par amt held clos seW seS leW leS) [(0, .ref (ad 0)), (1, .int x1), (2, .int x2), (3, .int x3), (4, .int x4), (5, .int x5)] 0 0 [] 0
  refine g_iload_n (pc' := 1) C dX3_spread_0 rfl rfl rfl ?_
  refine cnV (pc' := 4) C (run_SV (rest := []) C lk_X3_83 (mtX3_checkVersion hv) ⟨by decide, by decide⟩ rfl rfl (Nat.le_of_ble_eq_true rfl) ⟨Nat.zero_le _, Nat.zero_le _⟩ dX3_spread_1) rfl (fun u1 hv => ?_)
  refine g_aload_n (pc' := 5) C dX3_spread_4 rfl rfl rfl ?_
  refine g_iload_n (pc' := 6) C dX3_spread_5 rfl rfl rfl ?_
  refine csV (pc' := 9) C (run_VV (rest := []) C lk_X3_48 (mtX3_checkPlace hv) ⟨by decide, by decide⟩ rfl rfl rfl rfl (Nat.le_of_ble_eq_true rfl) ⟨Nat.zero_le _, Nat.zero_le _⟩ dX3_spread_6) rfl (fun u6 hv => ?_)
  refine g_iload_n (pc' := 10) C dX3_spread_9 rfl rfl rfl ?_
  refine cnV (pc' := 13) C (run_SV (rest := []) C lk_X3_89 (mtX3_checkMonth hv) ⟨by decide, by decide⟩ rfl rfl (Nat.le_of_ble_eq_true rfl) ⟨Nat.zero_le _, Nat.zero_le _⟩ dX3_spread_10) rfl (fun u10 hv => ?_)
  refine g_iload (pc' := 15) C dX3_spread_13 rfl rfl ?_
  refine g_ldc (pc' := 17) C k_X3_112 dX3_spread_15 rfl ?_
  refine cnV (pc' := 20) C (run_SV (rest := []) C lk_X3_95 (mtX3_checkUpTo hv) ⟨by decide, by decide⟩ rfl rfl (Nat.le_of_ble_eq_true rfl) ⟨Nat.zero_le _, Nat.zero_le _⟩ dX3_spread_17) rfl (fun u17 hv => ?_)
  refine g_iload (pc' := 22) C dX3_spread_20 rfl rfl ?_
  refine g_iconst (pc' := 23) (v := (1 : Int32)) C dX3_spread_22 rfl (by decide) ?_
  refine cnV (pc' := 26) C (run_SV (rest := []) C lk_X3_95 (mtX3_checkUpTo hv) ⟨by decide, by decide⟩ rfl rfl (Nat.le_of_ble_eq_true rfl) ⟨Nat.zero_le _, Nat.zero_le _⟩ dX3_spread_23) rfl (fun u23 hv => ?_)
  refine g_aload_n (pc' := 27) C dX3_spread_26 rfl rfl rfl ?_
  refine gf_X3_12 (pc' := 30) C dX3_spread_27 rfl 0 rfl rfl ?_
  refine g_iload_n (pc' := 31) C dX3_spread_30 rfl rfl rfl ?_
  refine cfI (pc' := 34) C (run_VI (rest := []) C lk_X3_80 (mtX2_leavesBelow hv) ⟨by decide, by decide⟩ rfl rfl rfl rfl (Nat.le_of_ble_eq_true rfl) ⟨Nat.zero_le _, Nat.zero_le _⟩ dX3_spread_31) rfl [1, 7] [0, 2, 3, 4, 5, 6, 8, 9, 10, 11, 12] [0, 11, 1, 2, 3, 4, 5, 12, 6, 7, 8, 9, 10] nd_BT1 di_BT1 (fun u31 => wB γ ad seen cnt pwc par amt held clos seW seS leW leS) rfl rfl (fun _ => rfl) (fun r31 u31 hv => ?_)
  refine g_istore (pc' := 36) (lv' := [(6, .int r31), (0, .ref (ad 0)), (1, .int x1), (2, .int x2), (3, .int x3), (4, .int x4), (5, .int x5)]) C dX3_spread_34 rfl (by decide) rfl ?_
  refine g_aload_n (pc' := 37) C dX3_spread_36 rfl rfl rfl ?_
  refine g_iload_n (pc' := 38) C dX3_spread_37 rfl rfl rfl ?_
  refine g_iload (pc' := 40) C dX3_spread_38 rfl rfl ?_
  refine g_iload_n (pc' := 41) C dX3_spread_40 rfl rfl rfl ?_
  refine g_iload (pc' := 43) C dX3_spread_41 rfl rfl ?_
  refine csV (pc' := 46) C (run_VV (rest := []) C lk_X3_113 (mtX3_checkSpreadable hv) ⟨by decide, by decide⟩ rfl rfl rfl rfl (Nat.le_of_ble_eq_true rfl) ⟨Nat.zero_le _, Nat.zero_le _⟩ dX3_spread_43) rfl (fun u43 hv => ?_)
  refine g_aload_n (pc' := 47) C dX3_spread_46 rfl rfl rfl ?_
  refine g_iload_n (pc' := 48) C dX3_spread_47 rfl rfl rfl ?_
  refine g_iload (pc' := 50) C dX3_spread_48 rfl rfl ?_
  refine g_iload_n (pc' := 51) C dX3_spread_50 rfl rfl rfl ?_
  refine g_iload (pc' := 53) C dX3_spread_51 rfl rfl ?_
  refine g_iload (pc' := 55) C dX3_spread_53 rfl rfl ?_
  refine csI (pc' := 58) C (run_VI (rest := []) C lk_X3_117 (mtX3_spreadOver hv) ⟨by decide, by decide⟩ rfl rfl rfl rfl (Nat.le_of_ble_eq_true rfl) ⟨Nat.zero_le _, Nat.zero_le _⟩ dX3_spread_55) rfl (fun r55 u55 hv => ?_)
  exact RT r55 (u55.1, u55.2.1, u55.2.2) _ _ _ _ dX3_spread_58 rfl (by decide) (by decide) hv)
def zX3_spread (cnt : Int32) (pwc : Int32) (par : Ar) (amt : Ar) (held : Ar) (clos : Ar) (leW : Ar) (leS : Ar) (x1 : Int32) (x2 : Int32) (x3 : Int32) (x4 : Int32) (x5 : Int32) (X : String → (Ar × Ar × Ar) → Prop) : Prop := ((zX3_checkVersion x1 (fun E => X E (amt, leW, leS))) ∨ (vX3_checkVersion x1 (((zX3_checkPlace cnt x2 (fun E => X E (amt, leW, leS))) ∨ (vX3_checkPlace cnt x2 (((zX3_checkMonth x3 (fun E => X E (amt, leW, leS))) ∨ (vX3_checkMonth x3 (((zX3_checkUpTo x4 (1000000 : Int32) (fun E => X E (amt, leW, leS))) ∨ (vX3_checkUpTo x4 (1000000 : Int32) (((zX3_checkUpTo x5 (1 : Int32) (fun E => X E (amt, leW, leS))) ∨ (vX3_checkUpTo x5 (1 : Int32) ((vX2_leavesBelow cnt pwc par x2 (fun r31 => (zX3_checkSpreadable amt held clos x1 r31 x3 x4 (fun E => X E (amt, leW, leS))))))))))))))))))))
set_option maxHeartbeats 4000000 in
set_option maxRecDepth 100000 in
theorem mtzX3_spread {l : Launch} (hfl : l.stackTraces = false) {γ : Gm} {ad : Nat → Nat} {seen : Int32} {cnt : Int32} {pwc : Int32} {par : Ar} {amt : Ar} {held : Ar} {clos : Ar} {seW : Ar} {seS : Ar} {leW : Ar} {leS : Ar} {x1 : Int32} {x2 : Int32} {x3 : Int32} {x4 : Int32} {x5 : Int32} {X : String → (Ar × Ar × Ar) → Prop} (hv : zX3_spread cnt pwc par amt held clos leW leS x1 x2 x3 x4 x5 X) : CtX l γ yX3_spread cX3_spread 7 (some .int) 7 154 [.ref (ad 0), .int x1, .int x2, .int x3, .int x4, .int x5] (wB γ ad seen cnt pwc par amt held clos seW seS leW leS) (fun (E : String) (u : Ar × Ar × Ar) => X E u) (fun u => wB γ ad seen cnt pwc par u.1 held clos seW seS u.2.1 u.2.2) := startX (by decide +kernel) (Nat.le_of_ble_eq_true rfl) (fun κ C hX => by
  show G l γ κ (wB γ ad seen cnt pwc par amt held clos seW seS leW leS) [(0, .ref (ad 0)), (1, .int x1), (2, .int x2), (3, .int x3), (4, .int x4), (5, .int x5)] 0 0 [] 0
  refine g_iload_n (pc' := 1) C dX3_spread_0 rfl rfl rfl ?_
  rcases hv with hv | hv
  · exact noneX C hX (run_SX (rest := []) C lk_X3_83 (mtzX3_checkVersion hfl hv) ⟨by decide, by decide⟩ rfl rfl (Nat.le_of_ble_eq_true rfl) ⟨hX.2.2.1, hX.2.2.2⟩ dX3_spread_1) (fun E u1 hx => ⟨(amt, leW, leS), hx, rfl⟩)
  · refine cnV (pc' := 4) C (run_SV (rest := []) C lk_X3_83 (mtX3_checkVersion hv) ⟨by decide, by decide⟩ rfl rfl (Nat.le_of_ble_eq_true rfl) ⟨Nat.zero_le _, Nat.zero_le _⟩ dX3_spread_1) rfl (fun u1 hv => ?_)
    refine g_aload_n (pc' := 5) C dX3_spread_4 rfl rfl rfl ?_
    refine g_iload_n (pc' := 6) C dX3_spread_5 rfl rfl rfl ?_
    rcases hv with hv | hv
    · exact sameX C hX (run_VX (rest := []) C lk_X3_48 (mtzX3_checkPlace hfl hv) ⟨by decide, by decide⟩ rfl rfl rfl rfl (Nat.le_of_ble_eq_true rfl) ⟨hX.2.2.1, hX.2.2.2⟩ dX3_spread_6) (fun E u6 hx => ⟨(amt, leW, leS), hx, rfl⟩)
    · refine csV (pc' := 9) C (run_VV (rest := []) C lk_X3_48 (mtX3_checkPlace hv) ⟨by decide, by decide⟩ rfl rfl rfl rfl (Nat.le_of_ble_eq_true rfl) ⟨Nat.zero_le _, Nat.zero_le _⟩ dX3_spread_6) rfl (fun u6 hv => ?_)
      refine g_iload_n (pc' := 10) C dX3_spread_9 rfl rfl rfl ?_
      rcases hv with hv | hv
      · exact noneX C hX (run_SX (rest := []) C lk_X3_89 (mtzX3_checkMonth hfl hv) ⟨by decide, by decide⟩ rfl rfl (Nat.le_of_ble_eq_true rfl) ⟨hX.2.2.1, hX.2.2.2⟩ dX3_spread_10) (fun E u10 hx => ⟨(amt, leW, leS), hx, rfl⟩)
      · refine cnV (pc' := 13) C (run_SV (rest := []) C lk_X3_89 (mtX3_checkMonth hv) ⟨by decide, by decide⟩ rfl rfl (Nat.le_of_ble_eq_true rfl) ⟨Nat.zero_le _, Nat.zero_le _⟩ dX3_spread_10) rfl (fun u10 hv => ?_)
        refine g_iload (pc' := 15) C dX3_spread_13 rfl rfl ?_
        refine g_ldc (pc' := 17) C k_X3_112 dX3_spread_15 rfl ?_
        rcases hv with hv | hv
        · exact noneX C hX (run_SX (rest := []) C lk_X3_95 (mtzX3_checkUpTo hfl hv) ⟨by decide, by decide⟩ rfl rfl (Nat.le_of_ble_eq_true rfl) ⟨hX.2.2.1, hX.2.2.2⟩ dX3_spread_17) (fun E u17 hx => ⟨(amt, leW, leS), hx, rfl⟩)
        · refine cnV (pc' := 20) C (run_SV (rest := []) C lk_X3_95 (mtX3_checkUpTo hv) ⟨by decide, by decide⟩ rfl rfl (Nat.le_of_ble_eq_true rfl) ⟨Nat.zero_le _, Nat.zero_le _⟩ dX3_spread_17) rfl (fun u17 hv => ?_)
          refine g_iload (pc' := 22) C dX3_spread_20 rfl rfl ?_
          refine g_iconst (pc' := 23) (v := (1 : Int32)) C dX3_spread_22 rfl (by decide) ?_
          rcases hv with hv | hv
          · exact noneX C hX (run_SX (rest := []) C lk_X3_95 (mtzX3_checkUpTo hfl hv) ⟨by decide, by decide⟩ rfl rfl (Nat.le_of_ble_eq_true rfl) ⟨hX.2.2.1, hX.2.2.2⟩ dX3_spread_23) (fun E u23 hx => ⟨(amt, leW, leS), hx, rfl⟩)
          · refine cnV (pc' := 26) C (run_SV (rest := []) C lk_X3_95 (mtX3_checkUpTo hv) ⟨by decide, by decide⟩ rfl rfl (Nat.le_of_ble_eq_true rfl) ⟨Nat.zero_le _, Nat.zero_le _⟩ dX3_spread_23) rfl (fun u23 hv => ?_)
            refine g_aload_n (pc' := 27) C dX3_spread_26 rfl rfl rfl ?_
            refine gf_X3_12 (pc' := 30) C dX3_spread_27 rfl 0 rfl rfl ?_
            refine g_iload_n (pc' := 31) C dX3_spread_30 rfl rfl rfl ?_
            refine cfI (pc' := 34) C (run_VI (rest := []) C lk_X3_80 (mtX2_leavesBelow hv) ⟨by decide, by decide⟩ rfl rfl rfl rfl (Nat.le_of_ble_eq_true rfl) ⟨Nat.zero_le _, Nat.zero_le _⟩ dX3_spread_31) rfl [1, 7] [0, 2, 3, 4, 5, 6, 8, 9, 10, 11, 12] [0, 11, 1, 2, 3, 4, 5, 12, 6, 7, 8, 9, 10] nd_BT1 di_BT1 (fun u31 => wB γ ad seen cnt pwc par amt held clos seW seS leW leS) rfl rfl (fun _ => rfl) (fun r31 u31 hv => ?_)
            refine g_istore (pc' := 36) (lv' := [(6, .int r31), (0, .ref (ad 0)), (1, .int x1), (2, .int x2), (3, .int x3), (4, .int x4), (5, .int x5)]) C dX3_spread_34 rfl (by decide) rfl ?_
            refine g_aload_n (pc' := 37) C dX3_spread_36 rfl rfl rfl ?_
            refine g_iload_n (pc' := 38) C dX3_spread_37 rfl rfl rfl ?_
            refine g_iload (pc' := 40) C dX3_spread_38 rfl rfl ?_
            refine g_iload_n (pc' := 41) C dX3_spread_40 rfl rfl rfl ?_
            refine g_iload (pc' := 43) C dX3_spread_41 rfl rfl ?_
            exact sameX C hX (run_VX (rest := []) C lk_X3_113 (mtzX3_checkSpreadable hfl hv) ⟨by decide, by decide⟩ rfl rfl rfl rfl (Nat.le_of_ble_eq_true rfl) ⟨hX.2.2.1, hX.2.2.2⟩ dX3_spread_43) (fun E u43 hx => ⟨(amt, leW, leS), hx, rfl⟩))
def vX3_spreadYear_L93 (cnt : Int32) (pwc : Int32) (par : Ar) (held : Ar) (clos : Ar) (seW : Ar) (seS : Ar) (x1 : Int32) (x4 : Int32) (Q : Int32 → (Ar × Ar × Ar × Ar) → Prop) : Nat → Int32 → Int32 → Ar → Ar → Ar → Prop
  | 0, _, _, _, _, _ => False
  | n + 1, x5, x6, amt, leW, leS => (((12 : Int32) ≤ x6 → (Q x5 (amt, seS, leW, leS))) ∧ (¬ (12 : Int32) ≤ x6 → (vX1_shareOf seS x6 (fun r114 => (vX3_spreadOver amt held clos leW leS x1 x4 x6 r114 (0 : Int32) (fun r118 u118 => (vX3_spreadYear_L93 cnt pwc par held clos seW seS x1 x4 Q n (x5 + r118) (x6 + (1 : Int32)) u118.1 u118.2.1 u118.2.2)))))))
set_option maxHeartbeats 4000000 in
set_option maxRecDepth 100000 in
theorem wvX3_spreadYear_L93 {l : Launch} {γ : Gm} {κ : Kx} {ad : Nat → Nat} {seen : Int32} {cnt : Int32} {pwc : Int32} {par : Ar} {held : Ar} {clos : Ar} {seW : Ar} {seS : Ar} {x1 : Int32} {x4 : Int32} {Q : Int32 → (Ar × Ar × Ar × Ar) → Prop} (C : Ok γ κ cX3_spreadYear 7 RX3 7 154) (RT : RtI l γ κ cX3_spreadYear .int 0 0 (fun (r : Int32) (u : Ar × Ar × Ar × Ar) => Q r u) (fun u => wB γ ad seen cnt pwc par u.1 held clos seW u.2.1 u.2.2.1 u.2.2.2))  : ∀ (n : Nat) (x5 : Int32) (x6 : Int32) (amt : Ar) (leW : Ar) (leS : Ar), vX3_spreadYear_L93 cnt pwc par held clos seW seS x1 x4 Q n x5 x6 amt leW leS → G l γ κ (wB γ ad seen cnt pwc par amt held clos seW seS leW leS) [(0, .ref (ad 0)), (1, .int x1), (4, .int x4), (5, .int x5), (6, .int x6)] 0 0 [] 93 := by
  intro n
  induction n with
  | zero => intro x5 x6 amt leW leS hv; exact False.elim hv
  | succ n ih =>
    intro x5 x6 amt leW leS hv
    refine g_iload (pc' := 95) C dX3_spreadYear_93 rfl rfl ?_
    refine g_bipush (pc' := 97) (v := (12 : Int32)) C dX3_spreadYear_95 rfl (by decide) ?_
    obtain ⟨hv1, hv2⟩ := hv
    refine g_icmp_ge (pc' := 100) (tgt := 130) C dX3_spreadYear_97 rfl (by decide) (fun c => ?_) (fun c => ?_)
    · have hv := hv1 c
      refine g_iload (pc' := 132) C dX3_spreadYear_130 rfl rfl ?_
      exact RT x5 (amt, seS, leW, leS) _ _ _ _ dX3_spreadYear_132 rfl (by decide) (by decide) hv
    · have hv := hv2 c
      refine g_iload (pc' := 102) C dX3_spreadYear_100 rfl rfl ?_
      refine g_aload_n (pc' := 103) C dX3_spreadYear_102 rfl rfl rfl ?_
      refine g_iload_n (pc' := 104) C dX3_spreadYear_103 rfl rfl rfl ?_
      refine g_iload (pc' := 106) C dX3_spreadYear_104 rfl rfl ?_
      refine g_iload (pc' := 108) C dX3_spreadYear_106 rfl rfl ?_
      refine g_aload_n (pc' := 109) C dX3_spreadYear_108 rfl rfl rfl ?_
      refine gf_X3_33 (pc' := 112) C dX3_spreadYear_109 rfl 0 rfl rfl ?_
      refine g_iload (pc' := 114) C dX3_spreadYear_112 rfl rfl ?_
      refine cfI (pc' := 117) C (run_VI (rest := [.int x6, .int x4, .int x1, .ref (ad 0), .int x5]) C lk_X3_128 (mtX1_shareOf hv) ⟨by decide, by decide⟩ rfl rfl rfl rfl (Nat.le_of_ble_eq_true rfl) ⟨Nat.zero_le _, Nat.zero_le _⟩ dX3_spreadYear_114) rfl [5, 9, 10] [0, 1, 2, 3, 4, 6, 7, 8, 11, 12] [0, 1, 2, 3, 4, 10, 5, 6, 7, 11, 12, 8, 9] nd_BS5 di_BS5 (fun u114 => wB γ ad seen cnt pwc par amt held clos seW seS leW leS) rfl rfl (fun _ => rfl) (fun r114 u114 hv => ?_)
      refine g_iconst (pc' := 118) (v := (0 : Int32)) C dX3_spreadYear_117 rfl (by decide) ?_
      refine csI (pc' := 121) C (run_VI (rest := [.int x5]) C lk_X3_117 (mtX3_spreadOver hv) ⟨by decide, by decide⟩ rfl rfl rfl rfl (Nat.le_of_ble_eq_true rfl) ⟨Nat.zero_le _, Nat.zero_le _⟩ dX3_spreadYear_118) rfl (fun r118 u118 hv => ?_)
      refine g_iadd (pc' := 122) C dX3_spreadYear_121 rfl ?_
      refine g_istore (pc' := 124) (lv' := [(5, .int (x5 + r118)), (0, .ref (ad 0)), (1, .int x1), (4, .int x4), (6, .int x6)]) C dX3_spreadYear_122 rfl (by decide) rfl ?_
      refine g_iinc (pc' := 127) (v := (x6 + (1 : Int32))) (lv' := [(6, .int (x6 + (1 : Int32))), (5, .int (x5 + r118)), (0, .ref (ad 0)), (1, .int x1), (4, .int x4)]) C dX3_spreadYear_124 rfl rfl rfl (by decide) rfl ?_
      refine g_goto (tgt := 93) C dX3_spreadYear_127 (by decide) ?_
      refine g_sub (lv' := [(0, .ref (ad 0)), (1, .int x1), (4, .int x4), (5, .int (x5 + r118)), (6, .int (x6 + (1 : Int32)))]) [2, 3, 4, 1, 0] rfl ?_
      exact ih _ _ _ _ _ hv
def vX3_spreadYear_L56 (cnt : Int32) (pwc : Int32) (par : Ar) (amt : Ar) (held : Ar) (clos : Ar) (seW : Ar) (seS : Ar) (leW : Ar) (leS : Ar) (x1 : Int32) (x4 : Int32) (Q : Int32 → (Ar × Ar × Ar × Ar) → Prop) : Nat → Int32 → Prop
  | 0, _ => False
  | n + 1, x5 => (((12 : Int32) ≤ x5 → (∃ n93 : Nat, vX3_spreadYear_L93 cnt pwc par held clos seW seS x1 x4 Q n93 (0 : Int32) (0 : Int32) amt leW leS)) ∧ (¬ (12 : Int32) ≤ x5 → (vX1_shareOf seS x5 (fun r75 => (vX3_checkSpreadable amt held clos x1 x4 x5 r75 ((vX3_spreadYear_L56 cnt pwc par amt held clos seW seS leW leS x1 x4 Q n (x5 + (1 : Int32)))))))))
set_option maxHeartbeats 4000000 in
set_option maxRecDepth 100000 in
theorem wvX3_spreadYear_L56 {l : Launch} {γ : Gm} {κ : Kx} {ad : Nat → Nat} {seen : Int32} {cnt : Int32} {pwc : Int32} {par : Ar} {amt : Ar} {held : Ar} {clos : Ar} {seW : Ar} {seS : Ar} {leW : Ar} {leS : Ar} {x1 : Int32} {x4 : Int32} {Q : Int32 → (Ar × Ar × Ar × Ar) → Prop} (C : Ok γ κ cX3_spreadYear 7 RX3 7 154) (RT : RtI l γ κ cX3_spreadYear .int 0 0 (fun (r : Int32) (u : Ar × Ar × Ar × Ar) => Q r u) (fun u => wB γ ad seen cnt pwc par u.1 held clos seW u.2.1 u.2.2.1 u.2.2.2))  : ∀ (n : Nat) (x5 : Int32), vX3_spreadYear_L56 cnt pwc par amt held clos seW seS leW leS x1 x4 Q n x5 → G l γ κ (wB γ ad seen cnt pwc par amt held clos seW seS leW leS) [(0, .ref (ad 0)), (1, .int x1), (4, .int x4), (5, .int x5)] 0 0 [] 56 := by
  intro n
  induction n with
  | zero => intro x5 hv; exact False.elim hv
  | succ n ih =>
    intro x5 hv
    refine g_iload (pc' := 58) C dX3_spreadYear_56 rfl rfl ?_
    refine g_bipush (pc' := 60) (v := (12 : Int32)) C dX3_spreadYear_58 rfl (by decide) ?_
    obtain ⟨hv1, hv2⟩ := hv
    refine g_icmp_ge (pc' := 63) (tgt := 87) C dX3_spreadYear_60 rfl (by decide) (fun c => ?_) (fun c => ?_)
    · have hv := hv1 c
      refine g_iconst (pc' := 88) (v := (0 : Int32)) C dX3_spreadYear_87 rfl (by decide) ?_
      refine g_istore (pc' := 90) (lv' := [(5, .int (0 : Int32)), (0, .ref (ad 0)), (1, .int x1), (4, .int x4)]) C dX3_spreadYear_88 rfl (by decide) rfl ?_
      refine g_iconst (pc' := 91) (v := (0 : Int32)) C dX3_spreadYear_90 rfl (by decide) ?_
      refine g_istore (pc' := 93) (lv' := [(6, .int (0 : Int32)), (5, .int (0 : Int32)), (0, .ref (ad 0)), (1, .int x1), (4, .int x4)]) C dX3_spreadYear_91 rfl (by decide) rfl ?_
      refine g_sub (lv' := [(0, .ref (ad 0)), (1, .int x1), (4, .int x4), (5, .int (0 : Int32)), (6, .int (0 : Int32))]) [2, 3, 4, 1, 0] rfl ?_
      obtain ⟨n93, hv⟩ := hv
      exact wvX3_spreadYear_L93 C RT  n93 _ _ _ _ _ hv
    · have hv := hv2 c
      refine g_aload_n (pc' := 64) C dX3_spreadYear_63 rfl rfl rfl ?_
      refine g_iload_n (pc' := 65) C dX3_spreadYear_64 rfl rfl rfl ?_
      refine g_iload (pc' := 67) C dX3_spreadYear_65 rfl rfl ?_
      refine g_iload (pc' := 69) C dX3_spreadYear_67 rfl rfl ?_
      refine g_aload_n (pc' := 70) C dX3_spreadYear_69 rfl rfl rfl ?_
      refine gf_X3_33 (pc' := 73) C dX3_spreadYear_70 rfl 0 rfl rfl ?_
      refine g_iload (pc' := 75) C dX3_spreadYear_73 rfl rfl ?_
      refine cfI (pc' := 78) C (run_VI (rest := [.int x5, .int x4, .int x1, .ref (ad 0)]) C lk_X3_128 (mtX1_shareOf hv) ⟨by decide, by decide⟩ rfl rfl rfl rfl (Nat.le_of_ble_eq_true rfl) ⟨Nat.zero_le _, Nat.zero_le _⟩ dX3_spreadYear_75) rfl [5, 9, 10] [0, 1, 2, 3, 4, 6, 7, 8, 11, 12] [0, 1, 2, 3, 4, 10, 5, 6, 7, 11, 12, 8, 9] nd_BS5 di_BS5 (fun u75 => wB γ ad seen cnt pwc par amt held clos seW seS leW leS) rfl rfl (fun _ => rfl) (fun r75 u75 hv => ?_)
      refine csV (pc' := 81) C (run_VV (rest := []) C lk_X3_113 (mtX3_checkSpreadable hv) ⟨by decide, by decide⟩ rfl rfl rfl rfl (Nat.le_of_ble_eq_true rfl) ⟨Nat.zero_le _, Nat.zero_le _⟩ dX3_spreadYear_78) rfl (fun u78 hv => ?_)
      refine g_iinc (pc' := 84) (v := (x5 + (1 : Int32))) (lv' := [(5, .int (x5 + (1 : Int32))), (0, .ref (ad 0)), (1, .int x1), (4, .int x4)]) C dX3_spreadYear_81 rfl rfl rfl (by decide) rfl ?_
      refine g_goto (tgt := 56) C dX3_spreadYear_84 (by decide) ?_
      refine g_sub (lv' := [(0, .ref (ad 0)), (1, .int x1), (4, .int x4), (5, .int (x5 + (1 : Int32)))]) [1, 2, 3, 0] rfl ?_
      exact ih _ hv
def vX3_spreadYear (cnt : Int32) (pwc : Int32) (par : Ar) (amt : Ar) (held : Ar) (clos : Ar) (seW : Ar) (seS : Ar) (leW : Ar) (leS : Ar) (x1 : Int32) (x2 : Int32) (x3 : Int32) (Q : Int32 → (Ar × Ar × Ar × Ar) → Prop) : Prop := (vX3_checkVersion x1 ((vX3_checkPlace cnt x2 ((vX3_checkUpTo x3 (1000000 : Int32) ((vX1_totalWeight seW (fun r19 => ((¬ r19 = (0 : Int32) → (vX2_leavesBelow cnt pwc par x2 (fun r40 => (vX1_divide seW seS x3 (fun u50 => (∃ n56 : Nat, vX3_spreadYear_L56 cnt pwc par amt held clos seW u50 leW leS x1 r40 Q n56 (0 : Int32))))))) ∧ (r19 = (0 : Int32) → False))))))))))
set_option maxHeartbeats 4000000 in
set_option maxRecDepth 100000 in
theorem mtX3_spreadYear {l : Launch} {γ : Gm} {ad : Nat → Nat} {seen : Int32} {cnt : Int32} {pwc : Int32} {par : Ar} {amt : Ar} {held : Ar} {clos : Ar} {seW : Ar} {seS : Ar} {leW : Ar} {leS : Ar} {x1 : Int32} {x2 : Int32} {x3 : Int32} {Q : Int32 → (Ar × Ar × Ar × Ar) → Prop} (hv : vX3_spreadYear cnt pwc par amt held clos seW seS leW leS x1 x2 x3 Q) : CtI l γ yX3_spreadYear cX3_spreadYear 7 .int 7 154 0 0 [.ref (ad 0), .int x1, .int x2, .int x3] (wB γ ad seen cnt pwc par amt held clos seW seS leW leS) (fun (r : Int32) (u : Ar × Ar × Ar × Ar) => Q r u) (fun u => wB γ ad seen cnt pwc par u.1 held clos seW u.2.1 u.2.2.1 u.2.2.2) := startI (by decide +kernel) (Nat.le_of_ble_eq_true rfl) (fun κ C RT hR hnm => by
  show G l γ κ (wB γ ad seen cnt pwc par amt held clos seW seS leW leS) [(0, .ref (ad 0)), (1, .int x1), (2, .int x2), (3, .int x3)] 0 0 [] 0
  refine g_iload_n (pc' := 1) C dX3_spreadYear_0 rfl rfl rfl ?_
  refine cnV (pc' := 4) C (run_SV (rest := []) C lk_X3_83 (mtX3_checkVersion hv) ⟨by decide, by decide⟩ rfl rfl (Nat.le_of_ble_eq_true rfl) ⟨Nat.zero_le _, Nat.zero_le _⟩ dX3_spreadYear_1) rfl (fun u1 hv => ?_)
  refine g_aload_n (pc' := 5) C dX3_spreadYear_4 rfl rfl rfl ?_
  refine g_iload_n (pc' := 6) C dX3_spreadYear_5 rfl rfl rfl ?_
  refine csV (pc' := 9) C (run_VV (rest := []) C lk_X3_48 (mtX3_checkPlace hv) ⟨by decide, by decide⟩ rfl rfl rfl rfl (Nat.le_of_ble_eq_true rfl) ⟨Nat.zero_le _, Nat.zero_le _⟩ dX3_spreadYear_6) rfl (fun u6 hv => ?_)
  refine g_iload_n (pc' := 10) C dX3_spreadYear_9 rfl rfl rfl ?_
  refine g_ldc (pc' := 12) C k_X3_112 dX3_spreadYear_10 rfl ?_
  refine cnV (pc' := 15) C (run_SV (rest := []) C lk_X3_95 (mtX3_checkUpTo hv) ⟨by decide, by decide⟩ rfl rfl (Nat.le_of_ble_eq_true rfl) ⟨Nat.zero_le _, Nat.zero_le _⟩ dX3_spreadYear_12) rfl (fun u12 hv => ?_)
  refine g_aload_n (pc' := 16) C dX3_spreadYear_15 rfl rfl rfl ?_
  refine gf_X3_33 (pc' := 19) C dX3_spreadYear_16 rfl 0 rfl rfl ?_
  refine cfI (pc' := 22) C (run_VI (rest := []) C lk_X3_120 (mtX1_totalWeight hv) ⟨by decide, by decide⟩ rfl rfl rfl rfl (Nat.le_of_ble_eq_true rfl) ⟨Nat.zero_le _, Nat.zero_le _⟩ dX3_spreadYear_19) rfl [5, 9, 10] [0, 1, 2, 3, 4, 6, 7, 8, 11, 12] [0, 1, 2, 3, 4, 10, 5, 6, 7, 11, 12, 8, 9] nd_BS5 di_BS5 (fun u19 => wB γ ad seen cnt pwc par amt held clos seW seS leW leS) rfl rfl (fun _ => rfl) (fun r19 u19 hv => ?_)
  obtain ⟨hv1, hv2⟩ := hv
  refine g_if_ne (pc' := 25) (tgt := 35) C dX3_spreadYear_22 rfl (by decide) (fun c => ?_) (fun c => ?_)
  · have hv := hv1 c
    refine g_aload_n (pc' := 36) C dX3_spreadYear_35 rfl rfl rfl ?_
    refine gf_X3_12 (pc' := 39) C dX3_spreadYear_36 rfl 0 rfl rfl ?_
    refine g_iload_n (pc' := 40) C dX3_spreadYear_39 rfl rfl rfl ?_
    refine cfI (pc' := 43) C (run_VI (rest := []) C lk_X3_80 (mtX2_leavesBelow hv) ⟨by decide, by decide⟩ rfl rfl rfl rfl (Nat.le_of_ble_eq_true rfl) ⟨Nat.zero_le _, Nat.zero_le _⟩ dX3_spreadYear_40) rfl [1, 7] [0, 2, 3, 4, 5, 6, 8, 9, 10, 11, 12] [0, 11, 1, 2, 3, 4, 5, 12, 6, 7, 8, 9, 10] nd_BT1 di_BT1 (fun u40 => wB γ ad seen cnt pwc par amt held clos seW seS leW leS) rfl rfl (fun _ => rfl) (fun r40 u40 hv => ?_)
    refine g_istore (pc' := 45) (lv' := [(4, .int r40), (0, .ref (ad 0)), (1, .int x1), (2, .int x2), (3, .int x3)]) C dX3_spreadYear_43 rfl (by decide) rfl ?_
    refine g_aload_n (pc' := 46) C dX3_spreadYear_45 rfl rfl rfl ?_
    refine gf_X3_33 (pc' := 49) C dX3_spreadYear_46 rfl 0 rfl rfl ?_
    refine g_iload_n (pc' := 50) C dX3_spreadYear_49 rfl rfl rfl ?_
    refine cfV (pc' := 53) C (run_VV (rest := []) C lk_X3_125 (mtX1_divide hv) ⟨by decide, by decide⟩ rfl rfl rfl rfl (Nat.le_of_ble_eq_true rfl) ⟨Nat.zero_le _, Nat.zero_le _⟩ dX3_spreadYear_50) rfl [5, 9, 10] [0, 1, 2, 3, 4, 6, 7, 8, 11, 12] [0, 1, 2, 3, 4, 10, 5, 6, 7, 11, 12, 8, 9] nd_BS5 di_BS5 (fun u50 => wB γ ad seen cnt pwc par amt held clos seW u50 leW leS) rfl rfl (fun _ => rfl) (fun u50 hv => ?_)
    refine g_iconst (pc' := 54) (v := (0 : Int32)) C dX3_spreadYear_53 rfl (by decide) ?_
    refine g_istore (pc' := 56) (lv' := [(5, .int (0 : Int32)), (4, .int r40), (0, .ref (ad 0)), (1, .int x1), (2, .int x2), (3, .int x3)]) C dX3_spreadYear_54 rfl (by decide) rfl ?_
    refine g_sub (lv' := [(0, .ref (ad 0)), (1, .int x1), (4, .int r40), (5, .int (0 : Int32))]) [2, 3, 1, 0] rfl ?_
    obtain ⟨n56, hv⟩ := hv
    exact wvX3_spreadYear_L56 C RT  n56 _ hv
  · have hv := hv2 c
    exact hv.elim)
def zX3_spreadYear_L56 (cnt : Int32) (pwc : Int32) (par : Ar) (amt : Ar) (held : Ar) (clos : Ar) (seW : Ar) (seS : Ar) (leW : Ar) (leS : Ar) (x1 : Int32) (x4 : Int32) (X : String → (Ar × Ar × Ar × Ar) → Prop) : Nat → Int32 → Prop
  | 0, _ => False
  | n + 1, x5 => (((12 : Int32) ≤ x5 → False) ∧ (¬ (12 : Int32) ≤ x5 → (vX1_shareOf seS x5 (fun r75 => ((zX3_checkSpreadable amt held clos x1 x4 x5 r75 (fun E => X E (amt, seS, leW, leS))) ∨ (vX3_checkSpreadable amt held clos x1 x4 x5 r75 ((zX3_spreadYear_L56 cnt pwc par amt held clos seW seS leW leS x1 x4 X n (x5 + (1 : Int32))))))))))
set_option maxHeartbeats 4000000 in
set_option maxRecDepth 100000 in
theorem wzX3_spreadYear_L56 {l : Launch} {γ : Gm} {κ : Kx} {ad : Nat → Nat} {seen : Int32} {cnt : Int32} {pwc : Int32} {par : Ar} {amt : Ar} {held : Ar} {clos : Ar} {seW : Ar} {seS : Ar} {leW : Ar} {leS : Ar} {x1 : Int32} {x4 : Int32} {X : String → (Ar × Ar × Ar × Ar) → Prop} (hfl : l.stackTraces = false) (C : Ok γ κ cX3_spreadYear 7 RX3 7 154) (hX : XQ γ κ (fun (E : String) (u : Ar × Ar × Ar × Ar) => X E u) (fun u => wB γ ad seen cnt pwc par u.1 held clos seW u.2.1 u.2.2.1 u.2.2.2))  : ∀ (n : Nat) (x5 : Int32), zX3_spreadYear_L56 cnt pwc par amt held clos seW seS leW leS x1 x4 X n x5 → G l γ κ (wB γ ad seen cnt pwc par amt held clos seW seS leW leS) [(0, .ref (ad 0)), (1, .int x1), (4, .int x4), (5, .int x5)] 0 0 [] 56 := by
  intro n
  induction n with
  | zero => intro x5 hv; exact False.elim hv
  | succ n ih =>
    intro x5 hv
    refine g_iload (pc' := 58) C dX3_spreadYear_56 rfl rfl ?_
    refine g_bipush (pc' := 60) (v := (12 : Int32)) C dX3_spreadYear_58 rfl (by decide) ?_
    obtain ⟨hv1, hv2⟩ := hv
    refine g_icmp_ge (pc' := 63) (tgt := 87) C dX3_spreadYear_60 rfl (by decide) (fun c => ?_) (fun c => ?_)
    · have hv := hv1 c
      exact hv.elim
    · have hv := hv2 c
      refine g_aload_n (pc' := 64) C dX3_spreadYear_63 rfl rfl rfl ?_
      refine g_iload_n (pc' := 65) C dX3_spreadYear_64 rfl rfl rfl ?_
      refine g_iload (pc' := 67) C dX3_spreadYear_65 rfl rfl ?_
      refine g_iload (pc' := 69) C dX3_spreadYear_67 rfl rfl ?_
      refine g_aload_n (pc' := 70) C dX3_spreadYear_69 rfl rfl rfl ?_
      refine gf_X3_33 (pc' := 73) C dX3_spreadYear_70 rfl 0 rfl rfl ?_
      refine g_iload (pc' := 75) C dX3_spreadYear_73 rfl rfl ?_
      refine cfI (pc' := 78) C (run_VI (rest := [.int x5, .int x4, .int x1, .ref (ad 0)]) C lk_X3_128 (mtX1_shareOf hv) ⟨by decide, by decide⟩ rfl rfl rfl rfl (Nat.le_of_ble_eq_true rfl) ⟨Nat.zero_le _, Nat.zero_le _⟩ dX3_spreadYear_75) rfl [5, 9, 10] [0, 1, 2, 3, 4, 6, 7, 8, 11, 12] [0, 1, 2, 3, 4, 10, 5, 6, 7, 11, 12, 8, 9] nd_BS5 di_BS5 (fun u75 => wB γ ad seen cnt pwc par amt held clos seW seS leW leS) rfl rfl (fun _ => rfl) (fun r75 u75 hv => ?_)
      rcases hv with hv | hv
      · exact sameX C hX (run_VX (rest := []) C lk_X3_113 (mtzX3_checkSpreadable hfl hv) ⟨by decide, by decide⟩ rfl rfl rfl rfl (Nat.le_of_ble_eq_true rfl) ⟨hX.2.2.1, hX.2.2.2⟩ dX3_spreadYear_78) (fun E u78 hx => ⟨(amt, seS, leW, leS), hx, rfl⟩)
      · refine csV (pc' := 81) C (run_VV (rest := []) C lk_X3_113 (mtX3_checkSpreadable hv) ⟨by decide, by decide⟩ rfl rfl rfl rfl (Nat.le_of_ble_eq_true rfl) ⟨Nat.zero_le _, Nat.zero_le _⟩ dX3_spreadYear_78) rfl (fun u78 hv => ?_)
        refine g_iinc (pc' := 84) (v := (x5 + (1 : Int32))) (lv' := [(5, .int (x5 + (1 : Int32))), (0, .ref (ad 0)), (1, .int x1), (4, .int x4)]) C dX3_spreadYear_81 rfl rfl rfl (by decide) rfl ?_
        refine g_goto (tgt := 56) C dX3_spreadYear_84 (by decide) ?_
        refine g_sub (lv' := [(0, .ref (ad 0)), (1, .int x1), (4, .int x4), (5, .int (x5 + (1 : Int32)))]) [1, 2, 3, 0] rfl ?_
        exact ih _ hv
def zX3_spreadYear (cnt : Int32) (pwc : Int32) (par : Ar) (amt : Ar) (held : Ar) (clos : Ar) (seW : Ar) (seS : Ar) (leW : Ar) (leS : Ar) (x1 : Int32) (x2 : Int32) (x3 : Int32) (X : String → (Ar × Ar × Ar × Ar) → Prop) : Prop := ((zX3_checkVersion x1 (fun E => X E (amt, seS, leW, leS))) ∨ (vX3_checkVersion x1 (((zX3_checkPlace cnt x2 (fun E => X E (amt, seS, leW, leS))) ∨ (vX3_checkPlace cnt x2 (((zX3_checkUpTo x3 (1000000 : Int32) (fun E => X E (amt, seS, leW, leS))) ∨ (vX3_checkUpTo x3 (1000000 : Int32) ((vX1_totalWeight seW (fun r19 => ((¬ r19 = (0 : Int32) → (vX2_leavesBelow cnt pwc par x2 (fun r40 => (vX1_divide seW seS x3 (fun u50 => (∃ n56 : Nat, zX3_spreadYear_L56 cnt pwc par amt held clos seW u50 leW leS x1 r40 X n56 (0 : Int32))))))) ∧ (r19 = (0 : Int32) → (X eIS (amt, seS, leW, leS)))))))))))))))
set_option maxHeartbeats 4000000 in
set_option maxRecDepth 100000 in
theorem mtzX3_spreadYear {l : Launch} (hfl : l.stackTraces = false) {γ : Gm} {ad : Nat → Nat} {seen : Int32} {cnt : Int32} {pwc : Int32} {par : Ar} {amt : Ar} {held : Ar} {clos : Ar} {seW : Ar} {seS : Ar} {leW : Ar} {leS : Ar} {x1 : Int32} {x2 : Int32} {x3 : Int32} {X : String → (Ar × Ar × Ar × Ar) → Prop} (hv : zX3_spreadYear cnt pwc par amt held clos seW seS leW leS x1 x2 x3 X) : CtX l γ yX3_spreadYear cX3_spreadYear 7 (some .int) 7 154 [.ref (ad 0), .int x1, .int x2, .int x3] (wB γ ad seen cnt pwc par amt held clos seW seS leW leS) (fun (E : String) (u : Ar × Ar × Ar × Ar) => X E u) (fun u => wB γ ad seen cnt pwc par u.1 held clos seW u.2.1 u.2.2.1 u.2.2.2) := startX (by decide +kernel) (Nat.le_of_ble_eq_true rfl) (fun κ C hX => by
  show G l γ κ (wB γ ad seen cnt pwc par amt held clos seW seS leW leS) [(0, .ref (ad 0)), (1, .int x1), (2, .int x2), (3, .int x3)] 0 0 [] 0
  refine g_iload_n (pc' := 1) C dX3_spreadYear_0 rfl rfl rfl ?_
  rcases hv with hv | hv
  · exact noneX C hX (run_SX (rest := []) C lk_X3_83 (mtzX3_checkVersion hfl hv) ⟨by decide, by decide⟩ rfl rfl (Nat.le_of_ble_eq_true rfl) ⟨hX.2.2.1, hX.2.2.2⟩ dX3_spreadYear_1) (fun E u1 hx => ⟨(amt, seS, leW, leS), hx, rfl⟩)
  · refine cnV (pc' := 4) C (run_SV (rest := []) C lk_X3_83 (mtX3_checkVersion hv) ⟨by decide, by decide⟩ rfl rfl (Nat.le_of_ble_eq_true rfl) ⟨Nat.zero_le _, Nat.zero_le _⟩ dX3_spreadYear_1) rfl (fun u1 hv => ?_)
    refine g_aload_n (pc' := 5) C dX3_spreadYear_4 rfl rfl rfl ?_
    refine g_iload_n (pc' := 6) C dX3_spreadYear_5 rfl rfl rfl ?_
    rcases hv with hv | hv
    · exact sameX C hX (run_VX (rest := []) C lk_X3_48 (mtzX3_checkPlace hfl hv) ⟨by decide, by decide⟩ rfl rfl rfl rfl (Nat.le_of_ble_eq_true rfl) ⟨hX.2.2.1, hX.2.2.2⟩ dX3_spreadYear_6) (fun E u6 hx => ⟨(amt, seS, leW, leS), hx, rfl⟩)
    · refine csV (pc' := 9) C (run_VV (rest := []) C lk_X3_48 (mtX3_checkPlace hv) ⟨by decide, by decide⟩ rfl rfl rfl rfl (Nat.le_of_ble_eq_true rfl) ⟨Nat.zero_le _, Nat.zero_le _⟩ dX3_spreadYear_6) rfl (fun u6 hv => ?_)
      refine g_iload_n (pc' := 10) C dX3_spreadYear_9 rfl rfl rfl ?_
      refine g_ldc (pc' := 12) C k_X3_112 dX3_spreadYear_10 rfl ?_
      rcases hv with hv | hv
      · exact noneX C hX (run_SX (rest := []) C lk_X3_95 (mtzX3_checkUpTo hfl hv) ⟨by decide, by decide⟩ rfl rfl (Nat.le_of_ble_eq_true rfl) ⟨hX.2.2.1, hX.2.2.2⟩ dX3_spreadYear_12) (fun E u12 hx => ⟨(amt, seS, leW, leS), hx, rfl⟩)
      · refine cnV (pc' := 15) C (run_SV (rest := []) C lk_X3_95 (mtX3_checkUpTo hv) ⟨by decide, by decide⟩ rfl rfl (Nat.le_of_ble_eq_true rfl) ⟨Nat.zero_le _, Nat.zero_le _⟩ dX3_spreadYear_12) rfl (fun u12 hv => ?_)
        refine g_aload_n (pc' := 16) C dX3_spreadYear_15 rfl rfl rfl ?_
        refine gf_X3_33 (pc' := 19) C dX3_spreadYear_16 rfl 0 rfl rfl ?_
        refine cfI (pc' := 22) C (run_VI (rest := []) C lk_X3_120 (mtX1_totalWeight hv) ⟨by decide, by decide⟩ rfl rfl rfl rfl (Nat.le_of_ble_eq_true rfl) ⟨Nat.zero_le _, Nat.zero_le _⟩ dX3_spreadYear_19) rfl [5, 9, 10] [0, 1, 2, 3, 4, 6, 7, 8, 11, 12] [0, 1, 2, 3, 4, 10, 5, 6, 7, 11, 12, 8, 9] nd_BS5 di_BS5 (fun u19 => wB γ ad seen cnt pwc par amt held clos seW seS leW leS) rfl rfl (fun _ => rfl) (fun r19 u19 hv => ?_)
        obtain ⟨hv1, hv2⟩ := hv
        refine g_if_ne (pc' := 25) (tgt := 35) C dX3_spreadYear_22 rfl (by decide) (fun c => ?_) (fun c => ?_)
        · have hv := hv1 c
          refine g_aload_n (pc' := 36) C dX3_spreadYear_35 rfl rfl rfl ?_
          refine gf_X3_12 (pc' := 39) C dX3_spreadYear_36 rfl 0 rfl rfl ?_
          refine g_iload_n (pc' := 40) C dX3_spreadYear_39 rfl rfl rfl ?_
          refine cfI (pc' := 43) C (run_VI (rest := []) C lk_X3_80 (mtX2_leavesBelow hv) ⟨by decide, by decide⟩ rfl rfl rfl rfl (Nat.le_of_ble_eq_true rfl) ⟨Nat.zero_le _, Nat.zero_le _⟩ dX3_spreadYear_40) rfl [1, 7] [0, 2, 3, 4, 5, 6, 8, 9, 10, 11, 12] [0, 11, 1, 2, 3, 4, 5, 12, 6, 7, 8, 9, 10] nd_BT1 di_BT1 (fun u40 => wB γ ad seen cnt pwc par amt held clos seW seS leW leS) rfl rfl (fun _ => rfl) (fun r40 u40 hv => ?_)
          refine g_istore (pc' := 45) (lv' := [(4, .int r40), (0, .ref (ad 0)), (1, .int x1), (2, .int x2), (3, .int x3)]) C dX3_spreadYear_43 rfl (by decide) rfl ?_
          refine g_aload_n (pc' := 46) C dX3_spreadYear_45 rfl rfl rfl ?_
          refine gf_X3_33 (pc' := 49) C dX3_spreadYear_46 rfl 0 rfl rfl ?_
          refine g_iload_n (pc' := 50) C dX3_spreadYear_49 rfl rfl rfl ?_
          refine cfV (pc' := 53) C (run_VV (rest := []) C lk_X3_125 (mtX1_divide hv) ⟨by decide, by decide⟩ rfl rfl rfl rfl (Nat.le_of_ble_eq_true rfl) ⟨Nat.zero_le _, Nat.zero_le _⟩ dX3_spreadYear_50) rfl [5, 9, 10] [0, 1, 2, 3, 4, 6, 7, 8, 11, 12] [0, 1, 2, 3, 4, 10, 5, 6, 7, 11, 12, 8, 9] nd_BS5 di_BS5 (fun u50 => wB γ ad seen cnt pwc par amt held clos seW u50 leW leS) rfl rfl (fun _ => rfl) (fun u50 hv => ?_)
          refine g_iconst (pc' := 54) (v := (0 : Int32)) C dX3_spreadYear_53 rfl (by decide) ?_
          refine g_istore (pc' := 56) (lv' := [(5, .int (0 : Int32)), (4, .int r40), (0, .ref (ad 0)), (1, .int x1), (2, .int x2), (3, .int x3)]) C dX3_spreadYear_54 rfl (by decide) rfl ?_
          refine g_sub (lv' := [(0, .ref (ad 0)), (1, .int x1), (4, .int r40), (5, .int (0 : Int32))]) [2, 3, 1, 0] rfl ?_
          obtain ⟨n56, hv⟩ := hv
          exact wzX3_spreadYear_L56 hfl C hX  n56 _ hv
        · have hv := hv2 c
          exact g_throw hfl C hX (amt, seS, leW, leS) (th_eIS (List.mem_of_getElem? (i := 3) rfl)) (by decide) dX3_spreadYear_25 dX3_spreadYear_28 dX3_spreadYear_29 dX3_spreadYear_31 dX3_spreadYear_34 rfl hv)
def vX3_copy (amt : Ar) (clos : Ar) (x1 : Int32) (x2 : Int32) (Q : Int32 → (Ar) → Prop) : Prop := (vX3_checkVersion x1 ((vX3_checkVersion x2 (((¬ x1 = x2 → (vp_in x2 3 ∧ (((clos x2.toNatClampNeg) = (0 : Int32) → (vX0_copyLayer amt x1 x2 (fun r48 u48 => (Q r48 u48)))) ∧ (¬ (clos x2.toNatClampNeg) = (0 : Int32) → False)))) ∧ (x1 = x2 → False))))))
set_option maxHeartbeats 4000000 in
set_option maxRecDepth 100000 in
theorem mtX3_copy {l : Launch} {γ : Gm} {ad : Nat → Nat} {seen : Int32} {cnt : Int32} {pwc : Int32} {par : Ar} {amt : Ar} {held : Ar} {clos : Ar} {seW : Ar} {seS : Ar} {leW : Ar} {leS : Ar} {x1 : Int32} {x2 : Int32} {Q : Int32 → (Ar) → Prop} (hv : vX3_copy amt clos x1 x2 Q) : CtI l γ yX3_copy cX3_copy 3 .int 7 102 0 0 [.ref (ad 0), .int x1, .int x2] (wB γ ad seen cnt pwc par amt held clos seW seS leW leS) (fun (r : Int32) (u : Ar) => Q r u) (fun u => wB γ ad seen cnt pwc par u held clos seW seS leW leS) := startI (by decide +kernel) (Nat.le_of_ble_eq_true rfl) (fun κ C RT hR hnm => by
  show G l γ κ (wB γ ad seen cnt pwc par amt held clos seW seS leW leS) [(0, .ref (ad 0)), (1, .int x1), (2, .int x2)] 0 0 [] 0
  refine g_iload_n (pc' := 1) C dX3_copy_0 rfl rfl rfl ?_
  refine cnV (pc' := 4) C (run_SV (rest := []) C lk_X3_83 (mtX3_checkVersion hv) ⟨by decide, by decide⟩ rfl rfl (Nat.le_of_ble_eq_true rfl) ⟨Nat.zero_le _, Nat.zero_le _⟩ dX3_copy_1) rfl (fun u1 hv => ?_)
  refine g_iload_n (pc' := 5) C dX3_copy_4 rfl rfl rfl ?_
  refine cnV (pc' := 8) C (run_SV (rest := []) C lk_X3_83 (mtX3_checkVersion hv) ⟨by decide, by decide⟩ rfl rfl (Nat.le_of_ble_eq_true rfl) ⟨Nat.zero_le _, Nat.zero_le _⟩ dX3_copy_5) rfl (fun u5 hv => ?_)
  refine g_iload_n (pc' := 9) C dX3_copy_8 rfl rfl rfl ?_
  refine g_iload_n (pc' := 10) C dX3_copy_9 rfl rfl rfl ?_
  obtain ⟨hv1, hv2⟩ := hv
  refine g_icmp_ne (pc' := 13) (tgt := 23) C dX3_copy_10 rfl (by decide) (fun c => ?_) (fun c => ?_)
  · have hv := hv1 c
    refine g_aload_n (pc' := 24) C dX3_copy_23 rfl rfl rfl ?_
    refine gf_X3_27 (pc' := 27) C dX3_copy_24 rfl 0 rfl rfl ?_
    refine g_iload_n (pc' := 28) C dX3_copy_27 rfl rfl rfl ?_
    obtain ⟨hi, hv⟩ := hv
    refine g_iald (pc' := 29) C dX3_copy_28 rfl 4 rfl hi ?_
    obtain ⟨hv1, hv2⟩ := hv
    refine g_if_eq (pc' := 32) (tgt := 42) C dX3_copy_29 rfl (by decide) (fun c => ?_) (fun c => ?_)
    · have hv := hv1 c
      refine g_aload_n (pc' := 43) C dX3_copy_42 rfl rfl rfl ?_
      refine gf_X3_19 (pc' := 46) C dX3_copy_43 rfl 0 rfl rfl ?_
      refine g_iload_n (pc' := 47) C dX3_copy_46 rfl rfl rfl ?_
      refine g_iload_n (pc' := 48) C dX3_copy_47 rfl rfl rfl ?_
      refine cfI (pc' := 51) C (run_VI (rest := []) C lk_X3_138 (mtX0_copyLayer hv) ⟨by decide, by decide⟩ rfl rfl rfl rfl (Nat.le_of_ble_eq_true rfl) ⟨Nat.zero_le _, Nat.zero_le _⟩ dX3_copy_48) rfl [2, 8] [0, 1, 3, 4, 5, 6, 7, 9, 10, 11, 12] [0, 1, 11, 2, 3, 4, 5, 6, 12, 7, 8, 9, 10] nd_BC2 di_BC2 (fun u48 => wB γ ad seen cnt pwc par u48 held clos seW seS leW leS) rfl rfl (fun _ => rfl) (fun r48 u48 hv => ?_)
      exact RT r48 u48 _ _ _ _ dX3_copy_51 rfl (by decide) (by decide) hv
    · have hv := hv2 c
      exact hv.elim
  · have hv := hv2 c
    exact hv.elim)
def zX3_copy (amt : Ar) (clos : Ar) (x1 : Int32) (x2 : Int32) (X : String → (Ar) → Prop) : Prop := ((zX3_checkVersion x1 (fun E => X E amt)) ∨ (vX3_checkVersion x1 (((zX3_checkVersion x2 (fun E => X E amt)) ∨ (vX3_checkVersion x2 (((¬ x1 = x2 → (vp_in x2 3 ∧ (((clos x2.toNatClampNeg) = (0 : Int32) → False) ∧ (¬ (clos x2.toNatClampNeg) = (0 : Int32) → (X eIS amt))))) ∧ (x1 = x2 → (X eIA amt)))))))))
set_option maxHeartbeats 4000000 in
set_option maxRecDepth 100000 in
theorem mtzX3_copy {l : Launch} (hfl : l.stackTraces = false) {γ : Gm} {ad : Nat → Nat} {seen : Int32} {cnt : Int32} {pwc : Int32} {par : Ar} {amt : Ar} {held : Ar} {clos : Ar} {seW : Ar} {seS : Ar} {leW : Ar} {leS : Ar} {x1 : Int32} {x2 : Int32} {X : String → (Ar) → Prop} (hv : zX3_copy amt clos x1 x2 X) : CtX l γ yX3_copy cX3_copy 3 (some .int) 7 102 [.ref (ad 0), .int x1, .int x2] (wB γ ad seen cnt pwc par amt held clos seW seS leW leS) (fun (E : String) (u : Ar) => X E u) (fun u => wB γ ad seen cnt pwc par u held clos seW seS leW leS) := startX (by decide +kernel) (Nat.le_of_ble_eq_true rfl) (fun κ C hX => by
  show G l γ κ (wB γ ad seen cnt pwc par amt held clos seW seS leW leS) [(0, .ref (ad 0)), (1, .int x1), (2, .int x2)] 0 0 [] 0
  refine g_iload_n (pc' := 1) C dX3_copy_0 rfl rfl rfl ?_
  rcases hv with hv | hv
  · exact noneX C hX (run_SX (rest := []) C lk_X3_83 (mtzX3_checkVersion hfl hv) ⟨by decide, by decide⟩ rfl rfl (Nat.le_of_ble_eq_true rfl) ⟨hX.2.2.1, hX.2.2.2⟩ dX3_copy_1) (fun E u1 hx => ⟨amt, hx, rfl⟩)
  · refine cnV (pc' := 4) C (run_SV (rest := []) C lk_X3_83 (mtX3_checkVersion hv) ⟨by decide, by decide⟩ rfl rfl (Nat.le_of_ble_eq_true rfl) ⟨Nat.zero_le _, Nat.zero_le _⟩ dX3_copy_1) rfl (fun u1 hv => ?_)
    refine g_iload_n (pc' := 5) C dX3_copy_4 rfl rfl rfl ?_
    rcases hv with hv | hv
    · exact noneX C hX (run_SX (rest := []) C lk_X3_83 (mtzX3_checkVersion hfl hv) ⟨by decide, by decide⟩ rfl rfl (Nat.le_of_ble_eq_true rfl) ⟨hX.2.2.1, hX.2.2.2⟩ dX3_copy_5) (fun E u5 hx => ⟨amt, hx, rfl⟩)
    · refine cnV (pc' := 8) C (run_SV (rest := []) C lk_X3_83 (mtX3_checkVersion hv) ⟨by decide, by decide⟩ rfl rfl (Nat.le_of_ble_eq_true rfl) ⟨Nat.zero_le _, Nat.zero_le _⟩ dX3_copy_5) rfl (fun u5 hv => ?_)
      refine g_iload_n (pc' := 9) C dX3_copy_8 rfl rfl rfl ?_
      refine g_iload_n (pc' := 10) C dX3_copy_9 rfl rfl rfl ?_
      obtain ⟨hv1, hv2⟩ := hv
      refine g_icmp_ne (pc' := 13) (tgt := 23) C dX3_copy_10 rfl (by decide) (fun c => ?_) (fun c => ?_)
      · have hv := hv1 c
        refine g_aload_n (pc' := 24) C dX3_copy_23 rfl rfl rfl ?_
        refine gf_X3_27 (pc' := 27) C dX3_copy_24 rfl 0 rfl rfl ?_
        refine g_iload_n (pc' := 28) C dX3_copy_27 rfl rfl rfl ?_
        obtain ⟨hi, hv⟩ := hv
        refine g_iald (pc' := 29) C dX3_copy_28 rfl 4 rfl hi ?_
        obtain ⟨hv1, hv2⟩ := hv
        refine g_if_eq (pc' := 32) (tgt := 42) C dX3_copy_29 rfl (by decide) (fun c => ?_) (fun c => ?_)
        · have hv := hv1 c
          exact hv.elim
        · have hv := hv2 c
          exact g_throw hfl C hX amt (th_eIS (List.mem_of_getElem? (i := 5) rfl)) (by decide) dX3_copy_32 dX3_copy_35 dX3_copy_36 dX3_copy_38 dX3_copy_41 rfl hv
      · have hv := hv2 c
        exact g_throw hfl C hX amt (th_eIA (List.mem_of_getElem? (i := 4) rfl)) (by decide) dX3_copy_13 dX3_copy_16 dX3_copy_17 dX3_copy_19 dX3_copy_22 rfl hv)
def vX3_handIn (cnt : Int32) (pwc : Int32) (par : Ar) (clos : Ar) (x1 : Int32) (x2 : Int32) (Q : Int32 → (Ar) → Prop) : Prop := (vX3_checkVersion x1 ((vX3_checkPlace cnt x2 ((vX2_leavesBelow cnt pwc par x2 (fun r14 => (vp_in x1 3 ∧ (vp_in x1 3 ∧ (vp_in x1 3 ∧ (vJ6_bitCount_0f7a4 (r14 &&& ((clos x1.toNatClampNeg) ^^^ (-1 : Int32))) (fun r38 => (Q r38 (upd clos x1.toNatClampNeg ((clos x1.toNatClampNeg) ||| (r14 &&& ((clos x1.toNatClampNeg) ^^^ (-1 : Int32)))))))))))))))))
set_option maxHeartbeats 4000000 in
set_option maxRecDepth 100000 in
theorem mtX3_handIn {l : Launch} {γ : Gm} {ad : Nat → Nat} {seen : Int32} {cnt : Int32} {pwc : Int32} {par : Ar} {amt : Ar} {held : Ar} {clos : Ar} {seW : Ar} {seS : Ar} {leW : Ar} {leS : Ar} {x1 : Int32} {x2 : Int32} {Q : Int32 → (Ar) → Prop} (hv : vX3_handIn cnt pwc par clos x1 x2 Q) : CtI l γ yX3_handIn cX3_handIn 4 .int 7 103 0 0 [.ref (ad 0), .int x1, .int x2] (wB γ ad seen cnt pwc par amt held clos seW seS leW leS) (fun (r : Int32) (u : Ar) => Q r u) (fun u => wB γ ad seen cnt pwc par amt held u seW seS leW leS) := startI (by decide +kernel) (Nat.le_of_ble_eq_true rfl) (fun κ C RT hR hnm => by
  show G l γ κ (wB γ ad seen cnt pwc par amt held clos seW seS leW leS) [(0, .ref (ad 0)), (1, .int x1), (2, .int x2)] 0 0 [] 0
  refine g_iload_n (pc' := 1) C dX3_handIn_0 rfl rfl rfl ?_
  refine cnV (pc' := 4) C (run_SV (rest := []) C lk_X3_83 (mtX3_checkVersion hv) ⟨by decide, by decide⟩ rfl rfl (Nat.le_of_ble_eq_true rfl) ⟨Nat.zero_le _, Nat.zero_le _⟩ dX3_handIn_1) rfl (fun u1 hv => ?_)
  refine g_aload_n (pc' := 5) C dX3_handIn_4 rfl rfl rfl ?_
  refine g_iload_n (pc' := 6) C dX3_handIn_5 rfl rfl rfl ?_
  refine csV (pc' := 9) C (run_VV (rest := []) C lk_X3_48 (mtX3_checkPlace hv) ⟨by decide, by decide⟩ rfl rfl rfl rfl (Nat.le_of_ble_eq_true rfl) ⟨Nat.zero_le _, Nat.zero_le _⟩ dX3_handIn_6) rfl (fun u6 hv => ?_)
  refine g_aload_n (pc' := 10) C dX3_handIn_9 rfl rfl rfl ?_
  refine gf_X3_12 (pc' := 13) C dX3_handIn_10 rfl 0 rfl rfl ?_
  refine g_iload_n (pc' := 14) C dX3_handIn_13 rfl rfl rfl ?_
  refine cfI (pc' := 17) C (run_VI (rest := []) C lk_X3_80 (mtX2_leavesBelow hv) ⟨by decide, by decide⟩ rfl rfl rfl rfl (Nat.le_of_ble_eq_true rfl) ⟨Nat.zero_le _, Nat.zero_le _⟩ dX3_handIn_14) rfl [1, 7] [0, 2, 3, 4, 5, 6, 8, 9, 10, 11, 12] [0, 11, 1, 2, 3, 4, 5, 12, 6, 7, 8, 9, 10] nd_BT1 di_BT1 (fun u14 => wB γ ad seen cnt pwc par amt held clos seW seS leW leS) rfl rfl (fun _ => rfl) (fun r14 u14 hv => ?_)
  refine g_aload_n (pc' := 18) C dX3_handIn_17 rfl rfl rfl ?_
  refine gf_X3_27 (pc' := 21) C dX3_handIn_18 rfl 0 rfl rfl ?_
  refine g_iload_n (pc' := 22) C dX3_handIn_21 rfl rfl rfl ?_
  obtain ⟨hi, hv⟩ := hv
  refine g_iald (pc' := 23) C dX3_handIn_22 rfl 4 rfl hi ?_
  refine g_iconst (pc' := 24) (v := (-1 : Int32)) C dX3_handIn_23 rfl (by decide) ?_
  refine g_ixor (pc' := 25) C dX3_handIn_24 rfl ?_
  refine g_iand (pc' := 26) C dX3_handIn_25 rfl ?_
  refine g_istore_n (pc' := 27) (lv' := [(3, .int (r14 &&& ((clos x1.toNatClampNeg) ^^^ (-1 : Int32)))), (0, .ref (ad 0)), (1, .int x1), (2, .int x2)]) C dX3_handIn_26 rfl rfl (by decide) rfl ?_
  refine g_aload_n (pc' := 28) C dX3_handIn_27 rfl rfl rfl ?_
  refine gf_X3_27 (pc' := 31) C dX3_handIn_28 rfl 0 rfl rfl ?_
  refine g_iload_n (pc' := 32) C dX3_handIn_31 rfl rfl rfl ?_
  refine g_dup2 (pc' := 33) C dX3_handIn_32 rfl rfl rfl ?_
  obtain ⟨hi, hv⟩ := hv
  refine g_iald (pc' := 34) C dX3_handIn_33 rfl 4 rfl hi ?_
  refine g_iload_n (pc' := 35) C dX3_handIn_34 rfl rfl rfl ?_
  refine g_ior (pc' := 36) C dX3_handIn_35 rfl ?_
  obtain ⟨hi, hv⟩ := hv
  refine g_iast (pc' := 37) (ws' := wB γ ad seen cnt pwc par amt held (upd clos x1.toNatClampNeg ((clos x1.toNatClampNeg) ||| (r14 &&& ((clos x1.toNatClampNeg) ^^^ (-1 : Int32))))) seW seS leW leS) C dX3_handIn_36 rfl 4 rfl hi rfl ?_
  refine g_iload_n (pc' := 38) C dX3_handIn_37 rfl rfl rfl ?_
  refine cnI (pc' := 41) C (run_SI (rest := []) C lk_X3_141 (mtJ6_bitCount_0f7a4 hv) ⟨by decide, by decide⟩ rfl rfl (Nat.le_of_ble_eq_true rfl) ⟨Nat.zero_le _, Nat.zero_le _⟩ dX3_handIn_38) rfl (fun r38 u38 hv => ?_)
  exact RT r38 (upd clos x1.toNatClampNeg ((clos x1.toNatClampNeg) ||| (r14 &&& ((clos x1.toNatClampNeg) ^^^ (-1 : Int32))))) _ _ _ _ dX3_handIn_41 rfl (by decide) (by decide) hv)
def zX3_handIn (cnt : Int32) (pwc : Int32) (par : Ar) (clos : Ar) (x1 : Int32) (x2 : Int32) (X : String → (Ar) → Prop) : Prop := ((zX3_checkVersion x1 (fun E => X E clos)) ∨ (vX3_checkVersion x1 ((zX3_checkPlace cnt x2 (fun E => X E clos)))))
set_option maxHeartbeats 4000000 in
set_option maxRecDepth 100000 in
theorem mtzX3_handIn {l : Launch} (hfl : l.stackTraces = false) {γ : Gm} {ad : Nat → Nat} {seen : Int32} {cnt : Int32} {pwc : Int32} {par : Ar} {amt : Ar} {held : Ar} {clos : Ar} {seW : Ar} {seS : Ar} {leW : Ar} {leS : Ar} {x1 : Int32} {x2 : Int32} {X : String → (Ar) → Prop} (hv : zX3_handIn cnt pwc par clos x1 x2 X) : CtX l γ yX3_handIn cX3_handIn 4 (some .int) 7 103 [.ref (ad 0), .int x1, .int x2] (wB γ ad seen cnt pwc par amt held clos seW seS leW leS) (fun (E : String) (u : Ar) => X E u) (fun u => wB γ ad seen cnt pwc par amt held u seW seS leW leS) := startX (by decide +kernel) (Nat.le_of_ble_eq_true rfl) (fun κ C hX => by
  show G l γ κ (wB γ ad seen cnt pwc par amt held clos seW seS leW leS) [(0, .ref (ad 0)), (1, .int x1), (2, .int x2)] 0 0 [] 0
  refine g_iload_n (pc' := 1) C dX3_handIn_0 rfl rfl rfl ?_
  rcases hv with hv | hv
  · exact noneX C hX (run_SX (rest := []) C lk_X3_83 (mtzX3_checkVersion hfl hv) ⟨by decide, by decide⟩ rfl rfl (Nat.le_of_ble_eq_true rfl) ⟨hX.2.2.1, hX.2.2.2⟩ dX3_handIn_1) (fun E u1 hx => ⟨clos, hx, rfl⟩)
  · refine cnV (pc' := 4) C (run_SV (rest := []) C lk_X3_83 (mtX3_checkVersion hv) ⟨by decide, by decide⟩ rfl rfl (Nat.le_of_ble_eq_true rfl) ⟨Nat.zero_le _, Nat.zero_le _⟩ dX3_handIn_1) rfl (fun u1 hv => ?_)
    refine g_aload_n (pc' := 5) C dX3_handIn_4 rfl rfl rfl ?_
    refine g_iload_n (pc' := 6) C dX3_handIn_5 rfl rfl rfl ?_
    exact sameX C hX (run_VX (rest := []) C lk_X3_48 (mtzX3_checkPlace hfl hv) ⟨by decide, by decide⟩ rfl rfl rfl rfl (Nat.le_of_ble_eq_true rfl) ⟨hX.2.2.1, hX.2.2.2⟩ dX3_handIn_6) (fun E u6 hx => ⟨clos, hx, rfl⟩))
def vX3_takeBack (cnt : Int32) (pwc : Int32) (par : Ar) (clos : Ar) (x1 : Int32) (x2 : Int32) (Q : Int32 → (Ar) → Prop) : Prop := (vX3_checkVersion x1 ((vX3_checkPlace cnt x2 ((vX2_leavesBelow cnt pwc par x2 (fun r14 => (vp_in x1 3 ∧ (vp_in x1 3 ∧ (vp_in x1 3 ∧ (vJ6_bitCount_0f7a4 (r14 &&& (clos x1.toNatClampNeg)) (fun r38 => (Q r38 (upd clos x1.toNatClampNeg ((clos x1.toNatClampNeg) &&& ((r14 &&& (clos x1.toNatClampNeg)) ^^^ (-1 : Int32))))))))))))))))
set_option maxHeartbeats 4000000 in
set_option maxRecDepth 100000 in
theorem mtX3_takeBack {l : Launch} {γ : Gm} {ad : Nat → Nat} {seen : Int32} {cnt : Int32} {pwc : Int32} {par : Ar} {amt : Ar} {held : Ar} {clos : Ar} {seW : Ar} {seS : Ar} {leW : Ar} {leS : Ar} {x1 : Int32} {x2 : Int32} {Q : Int32 → (Ar) → Prop} (hv : vX3_takeBack cnt pwc par clos x1 x2 Q) : CtI l γ yX3_takeBack cX3_takeBack 4 .int 7 103 0 0 [.ref (ad 0), .int x1, .int x2] (wB γ ad seen cnt pwc par amt held clos seW seS leW leS) (fun (r : Int32) (u : Ar) => Q r u) (fun u => wB γ ad seen cnt pwc par amt held u seW seS leW leS) := startI (by decide +kernel) (Nat.le_of_ble_eq_true rfl) (fun κ C RT hR hnm => by
  show G l γ κ (wB γ ad seen cnt pwc par amt held clos seW seS leW leS) [(0, .ref (ad 0)), (1, .int x1), (2, .int x2)] 0 0 [] 0
  refine g_iload_n (pc' := 1) C dX3_takeBack_0 rfl rfl rfl ?_
  refine cnV (pc' := 4) C (run_SV (rest := []) C lk_X3_83 (mtX3_checkVersion hv) ⟨by decide, by decide⟩ rfl rfl (Nat.le_of_ble_eq_true rfl) ⟨Nat.zero_le _, Nat.zero_le _⟩ dX3_takeBack_1) rfl (fun u1 hv => ?_)
  refine g_aload_n (pc' := 5) C dX3_takeBack_4 rfl rfl rfl ?_
  refine g_iload_n (pc' := 6) C dX3_takeBack_5 rfl rfl rfl ?_
  refine csV (pc' := 9) C (run_VV (rest := []) C lk_X3_48 (mtX3_checkPlace hv) ⟨by decide, by decide⟩ rfl rfl rfl rfl (Nat.le_of_ble_eq_true rfl) ⟨Nat.zero_le _, Nat.zero_le _⟩ dX3_takeBack_6) rfl (fun u6 hv => ?_)
  refine g_aload_n (pc' := 10) C dX3_takeBack_9 rfl rfl rfl ?_
  refine gf_X3_12 (pc' := 13) C dX3_takeBack_10 rfl 0 rfl rfl ?_
  refine g_iload_n (pc' := 14) C dX3_takeBack_13 rfl rfl rfl ?_
  refine cfI (pc' := 17) C (run_VI (rest := []) C lk_X3_80 (mtX2_leavesBelow hv) ⟨by decide, by decide⟩ rfl rfl rfl rfl (Nat.le_of_ble_eq_true rfl) ⟨Nat.zero_le _, Nat.zero_le _⟩ dX3_takeBack_14) rfl [1, 7] [0, 2, 3, 4, 5, 6, 8, 9, 10, 11, 12] [0, 11, 1, 2, 3, 4, 5, 12, 6, 7, 8, 9, 10] nd_BT1 di_BT1 (fun u14 => wB γ ad seen cnt pwc par amt held clos seW seS leW leS) rfl rfl (fun _ => rfl) (fun r14 u14 hv => ?_)
  refine g_aload_n (pc' := 18) C dX3_takeBack_17 rfl rfl rfl ?_
  refine gf_X3_27 (pc' := 21) C dX3_takeBack_18 rfl 0 rfl rfl ?_
  refine g_iload_n (pc' := 22) C dX3_takeBack_21 rfl rfl rfl ?_
  obtain ⟨hi, hv⟩ := hv
  refine g_iald (pc' := 23) C dX3_takeBack_22 rfl 4 rfl hi ?_
  refine g_iand (pc' := 24) C dX3_takeBack_23 rfl ?_
  refine g_istore_n (pc' := 25) (lv' := [(3, .int (r14 &&& (clos x1.toNatClampNeg))), (0, .ref (ad 0)), (1, .int x1), (2, .int x2)]) C dX3_takeBack_24 rfl rfl (by decide) rfl ?_
  refine g_aload_n (pc' := 26) C dX3_takeBack_25 rfl rfl rfl ?_
  refine gf_X3_27 (pc' := 29) C dX3_takeBack_26 rfl 0 rfl rfl ?_
  refine g_iload_n (pc' := 30) C dX3_takeBack_29 rfl rfl rfl ?_
  refine g_dup2 (pc' := 31) C dX3_takeBack_30 rfl rfl rfl ?_
  obtain ⟨hi, hv⟩ := hv
  refine g_iald (pc' := 32) C dX3_takeBack_31 rfl 4 rfl hi ?_
  refine g_iload_n (pc' := 33) C dX3_takeBack_32 rfl rfl rfl ?_
  refine g_iconst (pc' := 34) (v := (-1 : Int32)) C dX3_takeBack_33 rfl (by decide) ?_
  refine g_ixor (pc' := 35) C dX3_takeBack_34 rfl ?_
  refine g_iand (pc' := 36) C dX3_takeBack_35 rfl ?_
  obtain ⟨hi, hv⟩ := hv
  refine g_iast (pc' := 37) (ws' := wB γ ad seen cnt pwc par amt held (upd clos x1.toNatClampNeg ((clos x1.toNatClampNeg) &&& ((r14 &&& (clos x1.toNatClampNeg)) ^^^ (-1 : Int32)))) seW seS leW leS) C dX3_takeBack_36 rfl 4 rfl hi rfl ?_
  refine g_iload_n (pc' := 38) C dX3_takeBack_37 rfl rfl rfl ?_
  refine cnI (pc' := 41) C (run_SI (rest := []) C lk_X3_141 (mtJ6_bitCount_0f7a4 hv) ⟨by decide, by decide⟩ rfl rfl (Nat.le_of_ble_eq_true rfl) ⟨Nat.zero_le _, Nat.zero_le _⟩ dX3_takeBack_38) rfl (fun r38 u38 hv => ?_)
  exact RT r38 (upd clos x1.toNatClampNeg ((clos x1.toNatClampNeg) &&& ((r14 &&& (clos x1.toNatClampNeg)) ^^^ (-1 : Int32)))) _ _ _ _ dX3_takeBack_41 rfl (by decide) (by decide) hv)
def zX3_takeBack (cnt : Int32) (pwc : Int32) (par : Ar) (clos : Ar) (x1 : Int32) (x2 : Int32) (X : String → (Ar) → Prop) : Prop := ((zX3_checkVersion x1 (fun E => X E clos)) ∨ (vX3_checkVersion x1 ((zX3_checkPlace cnt x2 (fun E => X E clos)))))
set_option maxHeartbeats 4000000 in
set_option maxRecDepth 100000 in
theorem mtzX3_takeBack {l : Launch} (hfl : l.stackTraces = false) {γ : Gm} {ad : Nat → Nat} {seen : Int32} {cnt : Int32} {pwc : Int32} {par : Ar} {amt : Ar} {held : Ar} {clos : Ar} {seW : Ar} {seS : Ar} {leW : Ar} {leS : Ar} {x1 : Int32} {x2 : Int32} {X : String → (Ar) → Prop} (hv : zX3_takeBack cnt pwc par clos x1 x2 X) : CtX l γ yX3_takeBack cX3_takeBack 4 (some .int) 7 103 [.ref (ad 0), .int x1, .int x2] (wB γ ad seen cnt pwc par amt held clos seW seS leW leS) (fun (E : String) (u : Ar) => X E u) (fun u => wB γ ad seen cnt pwc par amt held u seW seS leW leS) := startX (by decide +kernel) (Nat.le_of_ble_eq_true rfl) (fun κ C hX => by
  show G l γ κ (wB γ ad seen cnt pwc par amt held clos seW seS leW leS) [(0, .ref (ad 0)), (1, .int x1), (2, .int x2)] 0 0 [] 0
  refine g_iload_n (pc' := 1) C dX3_takeBack_0 rfl rfl rfl ?_
  rcases hv with hv | hv
  · exact noneX C hX (run_SX (rest := []) C lk_X3_83 (mtzX3_checkVersion hfl hv) ⟨by decide, by decide⟩ rfl rfl (Nat.le_of_ble_eq_true rfl) ⟨hX.2.2.1, hX.2.2.2⟩ dX3_takeBack_1) (fun E u1 hx => ⟨clos, hx, rfl⟩)
  · refine cnV (pc' := 4) C (run_SV (rest := []) C lk_X3_83 (mtX3_checkVersion hv) ⟨by decide, by decide⟩ rfl rfl (Nat.le_of_ble_eq_true rfl) ⟨Nat.zero_le _, Nat.zero_le _⟩ dX3_takeBack_1) rfl (fun u1 hv => ?_)
    refine g_aload_n (pc' := 5) C dX3_takeBack_4 rfl rfl rfl ?_
    refine g_iload_n (pc' := 6) C dX3_takeBack_5 rfl rfl rfl ?_
    exact sameX C hX (run_VX (rest := []) C lk_X3_48 (mtzX3_checkPlace hfl hv) ⟨by decide, by decide⟩ rfl rfl rfl rfl (Nat.le_of_ble_eq_true rfl) ⟨hX.2.2.1, hX.2.2.2⟩ dX3_takeBack_6) (fun E u6 hx => ⟨clos, hx, rfl⟩))
def vX3_see (cnt : Int32) (pwc : Int32) (amt : Ar) (x1 : Int32) (x2 : Int32) (x3 : Int32) (x4 : Int32) (Q : Int32 → (Ar) → Prop) : Prop := (vX3_checkPlace cnt x1 ((vX3_checkCellAccount x2 ((vX3_checkMonth x3 ((vX3_mostOf x2 (fun r16 => (vX3_checkUpTo x4 r16 ((vX3_checkLeaf pwc x1 ((vX0_put amt (3 : Int32) x1 x2 x3 x4 (fun r37 u37 => (Q r37 u37)))))))))))))))
set_option maxHeartbeats 4000000 in
set_option maxRecDepth 100000 in
theorem mtX3_see {l : Launch} {γ : Gm} {ad : Nat → Nat} {seen : Int32} {cnt : Int32} {pwc : Int32} {par : Ar} {amt : Ar} {held : Ar} {clos : Ar} {seW : Ar} {seS : Ar} {leW : Ar} {leS : Ar} {x1 : Int32} {x2 : Int32} {x3 : Int32} {x4 : Int32} {Q : Int32 → (Ar) → Prop} (hv : vX3_see cnt pwc amt x1 x2 x3 x4 Q) : CtI l γ yX3_see cX3_see 5 .int 7 103 0 0 [.ref (ad 0), .int x1, .int x2, .int x3, .int x4] (wB γ ad seen cnt pwc par amt held clos seW seS leW leS) (fun (r : Int32) (u : Ar) => Q r u) (fun u => wB γ ad seen cnt pwc par u held clos seW seS leW leS) := startI (by decide +kernel) (Nat.le_of_ble_eq_true rfl) (fun κ C RT hR hnm => by
  show G l γ κ (wB γ ad seen cnt pwc par amt held clos seW seS leW leS) [(0, .ref (ad 0)), (1, .int x1), (2, .int x2), (3, .int x3), (4, .int x4)] 0 0 [] 0
  refine g_aload_n (pc' := 1) C dX3_see_0 rfl rfl rfl ?_
  refine g_iload_n (pc' := 2) C dX3_see_1 rfl rfl rfl ?_
  refine csV (pc' := 5) C (run_VV (rest := []) C lk_X3_48 (mtX3_checkPlace hv) ⟨by decide, by decide⟩ rfl rfl rfl rfl (Nat.le_of_ble_eq_true rfl) ⟨Nat.zero_le _, Nat.zero_le _⟩ dX3_see_2) rfl (fun u2 hv => ?_)
  refine g_iload_n (pc' := 6) C dX3_see_5 rfl rfl rfl ?_
  refine cnV (pc' := 9) C (run_SV (rest := []) C lk_X3_86 (mtX3_checkCellAccount hv) ⟨by decide, by decide⟩ rfl rfl (Nat.le_of_ble_eq_true rfl) ⟨Nat.zero_le _, Nat.zero_le _⟩ dX3_see_6) rfl (fun u6 hv => ?_)
  refine g_iload_n (pc' := 10) C dX3_see_9 rfl rfl rfl ?_
  refine cnV (pc' := 13) C (run_SV (rest := []) C lk_X3_89 (mtX3_checkMonth hv) ⟨by decide, by decide⟩ rfl rfl (Nat.le_of_ble_eq_true rfl) ⟨Nat.zero_le _, Nat.zero_le _⟩ dX3_see_10) rfl (fun u10 hv => ?_)
  refine g_iload (pc' := 15) C dX3_see_13 rfl rfl ?_
  refine g_iload_n (pc' := 16) C dX3_see_15 rfl rfl rfl ?_
  refine cnI (pc' := 19) C (run_SI (rest := [.int x4]) C lk_X3_92 (mtX3_mostOf hv) ⟨by decide, by decide⟩ rfl rfl (Nat.le_of_ble_eq_true rfl) ⟨Nat.zero_le _, Nat.zero_le _⟩ dX3_see_16) rfl (fun r16 u16 hv => ?_)
  refine cnV (pc' := 22) C (run_SV (rest := []) C lk_X3_95 (mtX3_checkUpTo hv) ⟨by decide, by decide⟩ rfl rfl (Nat.le_of_ble_eq_true rfl) ⟨Nat.zero_le _, Nat.zero_le _⟩ dX3_see_19) rfl (fun u19 hv => ?_)
  refine g_aload_n (pc' := 23) C dX3_see_22 rfl rfl rfl ?_
  refine g_iload_n (pc' := 24) C dX3_see_23 rfl rfl rfl ?_
  refine csV (pc' := 27) C (run_VV (rest := []) C lk_X3_99 (mtX3_checkLeaf hv) ⟨by decide, by decide⟩ rfl rfl rfl rfl (Nat.le_of_ble_eq_true rfl) ⟨Nat.zero_le _, Nat.zero_le _⟩ dX3_see_24) rfl (fun u24 hv => ?_)
  refine g_aload_n (pc' := 28) C dX3_see_27 rfl rfl rfl ?_
  refine gf_X3_19 (pc' := 31) C dX3_see_28 rfl 0 rfl rfl ?_
  refine g_iconst (pc' := 32) (v := (3 : Int32)) C dX3_see_31 rfl (by decide) ?_
  refine g_iload_n (pc' := 33) C dX3_see_32 rfl rfl rfl ?_
  refine g_iload_n (pc' := 34) C dX3_see_33 rfl rfl rfl ?_
  refine g_iload_n (pc' := 35) C dX3_see_34 rfl rfl rfl ?_
  refine g_iload (pc' := 37) C dX3_see_35 rfl rfl ?_
  refine cfI (pc' := 40) C (run_VI (rest := []) C lk_X3_108 (mtX0_put hv) ⟨by decide, by decide⟩ rfl rfl rfl rfl (Nat.le_of_ble_eq_true rfl) ⟨Nat.zero_le _, Nat.zero_le _⟩ dX3_see_37) rfl [2, 8] [0, 1, 3, 4, 5, 6, 7, 9, 10, 11, 12] [0, 1, 11, 2, 3, 4, 5, 6, 12, 7, 8, 9, 10] nd_BC2 di_BC2 (fun u37 => wB γ ad seen cnt pwc par u37 held clos seW seS leW leS) rfl rfl (fun _ => rfl) (fun r37 u37 hv => ?_)
  exact RT r37 u37 _ _ _ _ dX3_see_40 rfl (by decide) (by decide) hv)
def zX3_see (cnt : Int32) (pwc : Int32) (amt : Ar) (x1 : Int32) (x2 : Int32) (x3 : Int32) (x4 : Int32) (X : String → (Ar) → Prop) : Prop := ((zX3_checkPlace cnt x1 (fun E => X E amt)) ∨ (vX3_checkPlace cnt x1 (((zX3_checkCellAccount x2 (fun E => X E amt)) ∨ (vX3_checkCellAccount x2 (((zX3_checkMonth x3 (fun E => X E amt)) ∨ (vX3_checkMonth x3 ((vX3_mostOf x2 (fun r16 => ((zX3_checkUpTo x4 r16 (fun E => X E amt)) ∨ (vX3_checkUpTo x4 r16 ((zX3_checkLeaf pwc x1 (fun E => X E amt))))))))))))))))
set_option maxHeartbeats 4000000 in
set_option maxRecDepth 100000 in
theorem mtzX3_see {l : Launch} (hfl : l.stackTraces = false) {γ : Gm} {ad : Nat → Nat} {seen : Int32} {cnt : Int32} {pwc : Int32} {par : Ar} {amt : Ar} {held : Ar} {clos : Ar} {seW : Ar} {seS : Ar} {leW : Ar} {leS : Ar} {x1 : Int32} {x2 : Int32} {x3 : Int32} {x4 : Int32} {X : String → (Ar) → Prop} (hv : zX3_see cnt pwc amt x1 x2 x3 x4 X) : CtX l γ yX3_see cX3_see 5 (some .int) 7 103 [.ref (ad 0), .int x1, .int x2, .int x3, .int x4] (wB γ ad seen cnt pwc par amt held clos seW seS leW leS) (fun (E : String) (u : Ar) => X E u) (fun u => wB γ ad seen cnt pwc par u held clos seW seS leW leS) := startX (by decide +kernel) (Nat.le_of_ble_eq_true rfl) (fun κ C hX => by
  show G l γ κ (wB γ ad seen cnt pwc par amt held clos seW seS leW leS) [(0, .ref (ad 0)), (1, .int x1), (2, .int x2), (3, .int x3), (4, .int x4)] 0 0 [] 0
  refine g_aload_n (pc' := 1) C dX3_see_0 rfl rfl rfl ?_
  refine g_iload_n (pc' := 2) C dX3_see_1 rfl rfl rfl ?_
  rcases hv with hv | hv
  · exact sameX C hX (run_VX (rest := []) C lk_X3_48 (mtzX3_checkPlace hfl hv) ⟨by decide, by decide⟩ rfl rfl rfl rfl (Nat.le_of_ble_eq_true rfl) ⟨hX.2.2.1, hX.2.2.2⟩ dX3_see_2) (fun E u2 hx => ⟨amt, hx, rfl⟩)
  · refine csV (pc' := 5) C (run_VV (rest := []) C lk_X3_48 (mtX3_checkPlace hv) ⟨by decide, by decide⟩ rfl rfl rfl rfl (Nat.le_of_ble_eq_true rfl) ⟨Nat.zero_le _, Nat.zero_le _⟩ dX3_see_2) rfl (fun u2 hv => ?_)
    refine g_iload_n (pc' := 6) C dX3_see_5 rfl rfl rfl ?_
    rcases hv with hv | hv
    · exact noneX C hX (run_SX (rest := []) C lk_X3_86 (mtzX3_checkCellAccount hfl hv) ⟨by decide, by decide⟩ rfl rfl (Nat.le_of_ble_eq_true rfl) ⟨hX.2.2.1, hX.2.2.2⟩ dX3_see_6) (fun E u6 hx => ⟨amt, hx, rfl⟩)
    · refine cnV (pc' := 9) C (run_SV (rest := []) C lk_X3_86 (mtX3_checkCellAccount hv) ⟨by decide, by decide⟩ rfl rfl (Nat.le_of_ble_eq_true rfl) ⟨Nat.zero_le _, Nat.zero_le _⟩ dX3_see_6) rfl (fun u6 hv => ?_)
      refine g_iload_n (pc' := 10) C dX3_see_9 rfl rfl rfl ?_
      rcases hv with hv | hv
      · exact noneX C hX (run_SX (rest := []) C lk_X3_89 (mtzX3_checkMonth hfl hv) ⟨by decide, by decide⟩ rfl rfl (Nat.le_of_ble_eq_true rfl) ⟨hX.2.2.1, hX.2.2.2⟩ dX3_see_10) (fun E u10 hx => ⟨amt, hx, rfl⟩)
      · refine cnV (pc' := 13) C (run_SV (rest := []) C lk_X3_89 (mtX3_checkMonth hv) ⟨by decide, by decide⟩ rfl rfl (Nat.le_of_ble_eq_true rfl) ⟨Nat.zero_le _, Nat.zero_le _⟩ dX3_see_10) rfl (fun u10 hv => ?_)
        refine g_iload (pc' := 15) C dX3_see_13 rfl rfl ?_
        refine g_iload_n (pc' := 16) C dX3_see_15 rfl rfl rfl ?_
        refine cnI (pc' := 19) C (run_SI (rest := [.int x4]) C lk_X3_92 (mtX3_mostOf hv) ⟨by decide, by decide⟩ rfl rfl (Nat.le_of_ble_eq_true rfl) ⟨Nat.zero_le _, Nat.zero_le _⟩ dX3_see_16) rfl (fun r16 u16 hv => ?_)
        rcases hv with hv | hv
        · exact noneX C hX (run_SX (rest := []) C lk_X3_95 (mtzX3_checkUpTo hfl hv) ⟨by decide, by decide⟩ rfl rfl (Nat.le_of_ble_eq_true rfl) ⟨hX.2.2.1, hX.2.2.2⟩ dX3_see_19) (fun E u19 hx => ⟨amt, hx, rfl⟩)
        · refine cnV (pc' := 22) C (run_SV (rest := []) C lk_X3_95 (mtX3_checkUpTo hv) ⟨by decide, by decide⟩ rfl rfl (Nat.le_of_ble_eq_true rfl) ⟨Nat.zero_le _, Nat.zero_le _⟩ dX3_see_19) rfl (fun u19 hv => ?_)
          refine g_aload_n (pc' := 23) C dX3_see_22 rfl rfl rfl ?_
          refine g_iload_n (pc' := 24) C dX3_see_23 rfl rfl rfl ?_
          exact sameX C hX (run_VX (rest := []) C lk_X3_99 (mtzX3_checkLeaf hfl hv) ⟨by decide, by decide⟩ rfl rfl rfl rfl (Nat.le_of_ble_eq_true rfl) ⟨hX.2.2.1, hX.2.2.2⟩ dX3_see_24) (fun E u24 hx => ⟨amt, hx, rfl⟩))
def vX3_closeMonth (seen : Int32) (Q : Int32 → (Int32) → Prop) : Prop := ((seen < (12 : Int32) → (Q (seen + (1 : Int32)) (seen + (1 : Int32)))) ∧ (¬ seen < (12 : Int32) → False))
set_option maxHeartbeats 4000000 in
set_option maxRecDepth 100000 in
theorem mtX3_closeMonth {l : Launch} {γ : Gm} {ad : Nat → Nat} {seen : Int32} {cnt : Int32} {pwc : Int32} {par : Ar} {amt : Ar} {held : Ar} {clos : Ar} {seW : Ar} {seS : Ar} {leW : Ar} {leS : Ar} {Q : Int32 → (Int32) → Prop} (hv : vX3_closeMonth seen Q) : CtI l γ yX3_closeMonth cX3_closeMonth 1 .int 6 82 0 0 [.ref (ad 0)] (wB γ ad seen cnt pwc par amt held clos seW seS leW leS) (fun (r : Int32) (u : Int32) => Q r u) (fun u => wB γ ad u cnt pwc par amt held clos seW seS leW leS) := startI (by decide +kernel) (Nat.le_of_ble_eq_true rfl) (fun κ C RT hR hnm => by
  show G l γ κ (wB γ ad seen cnt pwc par amt held clos seW seS leW leS) [(0, .ref (ad 0))] 0 0 [] 0
  refine g_aload_n (pc' := 1) C dX3_closeMonth_0 rfl rfl rfl ?_
  refine gf_X3_40 (pc' := 4) C dX3_closeMonth_1 rfl 0 rfl rfl ?_
  refine g_bipush (pc' := 6) (v := (12 : Int32)) C dX3_closeMonth_4 rfl (by decide) ?_
  obtain ⟨hv1, hv2⟩ := hv
  refine g_icmp_lt (pc' := 9) (tgt := 19) C dX3_closeMonth_6 rfl (by decide) (fun c => ?_) (fun c => ?_)
  · have hv := hv1 c
    refine g_aload_n (pc' := 20) C dX3_closeMonth_19 rfl rfl rfl ?_
    refine g_dup (pc' := 21) C dX3_closeMonth_20 rfl rfl ?_
    refine gf_X3_40 (pc' := 24) C dX3_closeMonth_21 rfl 0 rfl rfl ?_
    refine g_iconst (pc' := 25) (v := (1 : Int32)) C dX3_closeMonth_24 rfl (by decide) ?_
    refine g_iadd (pc' := 26) C dX3_closeMonth_25 rfl ?_
    refine pf_X3_40 (pc' := 29) (ws' := wB γ ad (seen + (1 : Int32)) cnt pwc par amt held clos seW seS leW leS) C dX3_closeMonth_26 rfl 0 rfl rfl rfl (Nat.le_of_ble_eq_true rfl) rfl ?_
    refine g_aload_n (pc' := 30) C dX3_closeMonth_29 rfl rfl rfl ?_
    refine gf_X3_40 (pc' := 33) C dX3_closeMonth_30 rfl 0 rfl rfl ?_
    exact RT (seen + (1 : Int32)) (seen + (1 : Int32)) _ _ _ _ dX3_closeMonth_33 rfl (by decide) (by decide) hv
  · have hv := hv2 c
    exact hv.elim)
def zX3_closeMonth (seen : Int32) (X : String → (Int32) → Prop) : Prop := ((seen < (12 : Int32) → False) ∧ (¬ seen < (12 : Int32) → (X eIS seen)))
set_option maxHeartbeats 4000000 in
set_option maxRecDepth 100000 in
theorem mtzX3_closeMonth {l : Launch} (hfl : l.stackTraces = false) {γ : Gm} {ad : Nat → Nat} {seen : Int32} {cnt : Int32} {pwc : Int32} {par : Ar} {amt : Ar} {held : Ar} {clos : Ar} {seW : Ar} {seS : Ar} {leW : Ar} {leS : Ar} {X : String → (Int32) → Prop} (hv : zX3_closeMonth seen X) : CtX l γ yX3_closeMonth cX3_closeMonth 1 (some .int) 6 82 [.ref (ad 0)] (wB γ ad seen cnt pwc par amt held clos seW seS leW leS) (fun (E : String) (u : Int32) => X E u) (fun u => wB γ ad u cnt pwc par amt held clos seW seS leW leS) := startX (by decide +kernel) (Nat.le_of_ble_eq_true rfl) (fun κ C hX => by
  show G l γ κ (wB γ ad seen cnt pwc par amt held clos seW seS leW leS) [(0, .ref (ad 0))] 0 0 [] 0
  refine g_aload_n (pc' := 1) C dX3_closeMonth_0 rfl rfl rfl ?_
  refine gf_X3_40 (pc' := 4) C dX3_closeMonth_1 rfl 0 rfl rfl ?_
  refine g_bipush (pc' := 6) (v := (12 : Int32)) C dX3_closeMonth_4 rfl (by decide) ?_
  obtain ⟨hv1, hv2⟩ := hv
  refine g_icmp_lt (pc' := 9) (tgt := 19) C dX3_closeMonth_6 rfl (by decide) (fun c => ?_) (fun c => ?_)
  · have hv := hv1 c
    exact hv.elim
  · have hv := hv2 c
    exact g_throw hfl C hX seen (th_eIS (List.mem_of_getElem? (i := 6) rfl)) (by decide) dX3_closeMonth_9 dX3_closeMonth_12 dX3_closeMonth_13 dX3_closeMonth_15 dX3_closeMonth_18 rfl hv)
def vX3_amount (cnt : Int32) (pwc : Int32) (par : Ar) (amt : Ar) (x1 : Int32) (x2 : Int32) (x3 : Int32) (x4 : Int32) (Q : Int32 → Prop) : Prop := (vX3_checkVersion x1 ((vX3_checkPlace cnt x2 ((vX3_checkAccount x3 ((vX3_checkMonth x4 ((vX2_leavesBelow cnt pwc par x2 (fun r28 => (vX0_sumOver amt x1 r28 x3 x4 (fun r34 => (Q r34)))))))))))))
set_option maxHeartbeats 4000000 in
set_option maxRecDepth 100000 in
theorem mtX3_amount {l : Launch} {γ : Gm} {ad : Nat → Nat} {seen : Int32} {cnt : Int32} {pwc : Int32} {par : Ar} {amt : Ar} {held : Ar} {clos : Ar} {seW : Ar} {seS : Ar} {leW : Ar} {leS : Ar} {x1 : Int32} {x2 : Int32} {x3 : Int32} {x4 : Int32} {Q : Int32 → Prop} (hv : vX3_amount cnt pwc par amt x1 x2 x3 x4 Q) : CtI l γ yX3_amount cX3_amount 5 .int 7 103 0 0 [.ref (ad 0), .int x1, .int x2, .int x3, .int x4] (wB γ ad seen cnt pwc par amt held clos seW seS leW leS) (fun (r : Int32) (_ : Unit) => Q r) (fun _ => wB γ ad seen cnt pwc par amt held clos seW seS leW leS) := startI (by decide +kernel) (Nat.le_of_ble_eq_true rfl) (fun κ C RT hR hnm => by
  show G l γ κ (wB γ ad seen cnt pwc par amt held clos seW seS leW leS) [(0, .ref (ad 0)), (1, .int x1), (2, .int x2), (3, .int x3), (4, .int x4)] 0 0 [] 0
  refine g_iload_n (pc' := 1) C dX3_amount_0 rfl rfl rfl ?_
  refine cnV (pc' := 4) C (run_SV (rest := []) C lk_X3_83 (mtX3_checkVersion hv) ⟨by decide, by decide⟩ rfl rfl (Nat.le_of_ble_eq_true rfl) ⟨Nat.zero_le _, Nat.zero_le _⟩ dX3_amount_1) rfl (fun u1 hv => ?_)
  refine g_aload_n (pc' := 5) C dX3_amount_4 rfl rfl rfl ?_
  refine g_iload_n (pc' := 6) C dX3_amount_5 rfl rfl rfl ?_
  refine csV (pc' := 9) C (run_VV (rest := []) C lk_X3_48 (mtX3_checkPlace hv) ⟨by decide, by decide⟩ rfl rfl rfl rfl (Nat.le_of_ble_eq_true rfl) ⟨Nat.zero_le _, Nat.zero_le _⟩ dX3_amount_6) rfl (fun u6 hv => ?_)
  refine g_iload_n (pc' := 10) C dX3_amount_9 rfl rfl rfl ?_
  refine cnV (pc' := 13) C (run_SV (rest := []) C lk_X3_148 (mtX3_checkAccount hv) ⟨by decide, by decide⟩ rfl rfl (Nat.le_of_ble_eq_true rfl) ⟨Nat.zero_le _, Nat.zero_le _⟩ dX3_amount_10) rfl (fun u10 hv => ?_)
  refine g_iload (pc' := 15) C dX3_amount_13 rfl rfl ?_
  refine cnV (pc' := 18) C (run_SV (rest := []) C lk_X3_89 (mtX3_checkMonth hv) ⟨by decide, by decide⟩ rfl rfl (Nat.le_of_ble_eq_true rfl) ⟨Nat.zero_le _, Nat.zero_le _⟩ dX3_amount_15) rfl (fun u15 hv => ?_)
  refine g_aload_n (pc' := 19) C dX3_amount_18 rfl rfl rfl ?_
  refine gf_X3_19 (pc' := 22) C dX3_amount_19 rfl 0 rfl rfl ?_
  refine g_iload_n (pc' := 23) C dX3_amount_22 rfl rfl rfl ?_
  refine g_aload_n (pc' := 24) C dX3_amount_23 rfl rfl rfl ?_
  refine gf_X3_12 (pc' := 27) C dX3_amount_24 rfl 0 rfl rfl ?_
  refine g_iload_n (pc' := 28) C dX3_amount_27 rfl rfl rfl ?_
  refine cfI (pc' := 31) C (run_VI (rest := [.int x1, .ref (ad 2)]) C lk_X3_80 (mtX2_leavesBelow hv) ⟨by decide, by decide⟩ rfl rfl rfl rfl (Nat.le_of_ble_eq_true rfl) ⟨Nat.zero_le _, Nat.zero_le _⟩ dX3_amount_28) rfl [1, 7] [0, 2, 3, 4, 5, 6, 8, 9, 10, 11, 12] [0, 11, 1, 2, 3, 4, 5, 12, 6, 7, 8, 9, 10] nd_BT1 di_BT1 (fun u28 => wB γ ad seen cnt pwc par amt held clos seW seS leW leS) rfl rfl (fun _ => rfl) (fun r28 u28 hv => ?_)
  refine g_iload_n (pc' := 32) C dX3_amount_31 rfl rfl rfl ?_
  refine g_iload (pc' := 34) C dX3_amount_32 rfl rfl ?_
  refine cfI (pc' := 37) C (run_VI (rest := []) C lk_X3_151 (mtX0_sumOver hv) ⟨by decide, by decide⟩ rfl rfl rfl rfl (Nat.le_of_ble_eq_true rfl) ⟨Nat.zero_le _, Nat.zero_le _⟩ dX3_amount_34) rfl [2, 8] [0, 1, 3, 4, 5, 6, 7, 9, 10, 11, 12] [0, 1, 11, 2, 3, 4, 5, 6, 12, 7, 8, 9, 10] nd_BC2 di_BC2 (fun u34 => wB γ ad seen cnt pwc par amt held clos seW seS leW leS) rfl rfl (fun _ => rfl) (fun r34 u34 hv => ?_)
  exact RT r34 () _ _ _ _ dX3_amount_37 rfl (by decide) (by decide) hv)
def zX3_amount (cnt : Int32) (pwc : Int32) (par : Ar) (amt : Ar) (x1 : Int32) (x2 : Int32) (x3 : Int32) (x4 : Int32) (X : String → Prop) : Prop := ((zX3_checkVersion x1 (fun E => X E)) ∨ (vX3_checkVersion x1 (((zX3_checkPlace cnt x2 (fun E => X E)) ∨ (vX3_checkPlace cnt x2 (((zX3_checkAccount x3 (fun E => X E)) ∨ (vX3_checkAccount x3 ((zX3_checkMonth x4 (fun E => X E)))))))))))
set_option maxHeartbeats 4000000 in
set_option maxRecDepth 100000 in
theorem mtzX3_amount {l : Launch} (hfl : l.stackTraces = false) {γ : Gm} {ad : Nat → Nat} {seen : Int32} {cnt : Int32} {pwc : Int32} {par : Ar} {amt : Ar} {held : Ar} {clos : Ar} {seW : Ar} {seS : Ar} {leW : Ar} {leS : Ar} {x1 : Int32} {x2 : Int32} {x3 : Int32} {x4 : Int32} {X : String → Prop} (hv : zX3_amount cnt pwc par amt x1 x2 x3 x4 X) : CtX l γ yX3_amount cX3_amount 5 (some .int) 7 103 [.ref (ad 0), .int x1, .int x2, .int x3, .int x4] (wB γ ad seen cnt pwc par amt held clos seW seS leW leS) (fun (E : String) (_ : Unit) => X E) (fun _ => wB γ ad seen cnt pwc par amt held clos seW seS leW leS) := startX (by decide +kernel) (Nat.le_of_ble_eq_true rfl) (fun κ C hX => by
  show G l γ κ (wB γ ad seen cnt pwc par amt held clos seW seS leW leS) [(0, .ref (ad 0)), (1, .int x1), (2, .int x2), (3, .int x3), (4, .int x4)] 0 0 [] 0
  refine g_iload_n (pc' := 1) C dX3_amount_0 rfl rfl rfl ?_
  rcases hv with hv | hv
  · exact noneX C hX (run_SX (rest := []) C lk_X3_83 (mtzX3_checkVersion hfl hv) ⟨by decide, by decide⟩ rfl rfl (Nat.le_of_ble_eq_true rfl) ⟨hX.2.2.1, hX.2.2.2⟩ dX3_amount_1) (fun E u1 hx => ⟨(), hx, rfl⟩)
  · refine cnV (pc' := 4) C (run_SV (rest := []) C lk_X3_83 (mtX3_checkVersion hv) ⟨by decide, by decide⟩ rfl rfl (Nat.le_of_ble_eq_true rfl) ⟨Nat.zero_le _, Nat.zero_le _⟩ dX3_amount_1) rfl (fun u1 hv => ?_)
    refine g_aload_n (pc' := 5) C dX3_amount_4 rfl rfl rfl ?_
    refine g_iload_n (pc' := 6) C dX3_amount_5 rfl rfl rfl ?_
    rcases hv with hv | hv
    · exact sameX C hX (run_VX (rest := []) C lk_X3_48 (mtzX3_checkPlace hfl hv) ⟨by decide, by decide⟩ rfl rfl rfl rfl (Nat.le_of_ble_eq_true rfl) ⟨hX.2.2.1, hX.2.2.2⟩ dX3_amount_6) (fun E u6 hx => ⟨(), hx, rfl⟩)
    · refine csV (pc' := 9) C (run_VV (rest := []) C lk_X3_48 (mtX3_checkPlace hv) ⟨by decide, by decide⟩ rfl rfl rfl rfl (Nat.le_of_ble_eq_true rfl) ⟨Nat.zero_le _, Nat.zero_le _⟩ dX3_amount_6) rfl (fun u6 hv => ?_)
      refine g_iload_n (pc' := 10) C dX3_amount_9 rfl rfl rfl ?_
      rcases hv with hv | hv
      · exact noneX C hX (run_SX (rest := []) C lk_X3_148 (mtzX3_checkAccount hfl hv) ⟨by decide, by decide⟩ rfl rfl (Nat.le_of_ble_eq_true rfl) ⟨hX.2.2.1, hX.2.2.2⟩ dX3_amount_10) (fun E u10 hx => ⟨(), hx, rfl⟩)
      · refine cnV (pc' := 13) C (run_SV (rest := []) C lk_X3_148 (mtX3_checkAccount hv) ⟨by decide, by decide⟩ rfl rfl (Nat.le_of_ble_eq_true rfl) ⟨Nat.zero_le _, Nat.zero_le _⟩ dX3_amount_10) rfl (fun u10 hv => ?_)
        refine g_iload (pc' := 15) C dX3_amount_13 rfl rfl ?_
        exact noneX C hX (run_SX (rest := []) C lk_X3_89 (mtzX3_checkMonth hfl hv) ⟨by decide, by decide⟩ rfl rfl (Nat.le_of_ble_eq_true rfl) ⟨hX.2.2.1, hX.2.2.2⟩ dX3_amount_15) (fun E u15 hx => ⟨(), hx, rfl⟩))
def vX3_outlook_J32 (seen : Int32) (cnt : Int32) (pwc : Int32) (par : Ar) (amt : Ar) (x2 : Int32) (x3 : Int32) (x4 : Int32) (s0 : Int32) (Q : Int32 → Prop) : Prop := (vX2_leavesBelow cnt pwc par x2 (fun r45 => (vX0_sumOver amt s0 r45 x3 x4 (fun r51 => (Q r51)))))
set_option maxHeartbeats 4000000 in
set_option maxRecDepth 100000 in
theorem wvX3_outlook_J32 {l : Launch} {γ : Gm} {κ : Kx} {ad : Nat → Nat} {seen : Int32} {cnt : Int32} {pwc : Int32} {par : Ar} {amt : Ar} {held : Ar} {clos : Ar} {seW : Ar} {seS : Ar} {leW : Ar} {leS : Ar} {x2 : Int32} {x3 : Int32} {x4 : Int32} {s0 : Int32} {Q : Int32 → Prop} (C : Ok γ κ cX3_outlook 6 RX3 7 103) (RT : RtI l γ κ cX3_outlook .int 0 0 (fun (r : Int32) (_ : Unit) => Q r) (fun _ => wB γ ad seen cnt pwc par amt held clos seW seS leW leS))  (hv : vX3_outlook_J32 seen cnt pwc par amt x2 x3 x4 s0 Q) : G l γ κ (wB γ ad seen cnt pwc par amt held clos seW seS leW leS) [(0, .ref (ad 0)), (2, .int x2), (3, .int x3), (4, .int x4)] 0 0 [.int s0] 32 := by
  refine g_istore (pc' := 34) (lv' := [(5, .int s0), (0, .ref (ad 0)), (2, .int x2), (3, .int x3), (4, .int x4)]) C dX3_outlook_32 rfl (by decide) rfl ?_
  refine g_aload_n (pc' := 35) C dX3_outlook_34 rfl rfl rfl ?_
  refine gf_X3_19 (pc' := 38) C dX3_outlook_35 rfl 0 rfl rfl ?_
  refine g_iload (pc' := 40) C dX3_outlook_38 rfl rfl ?_
  refine g_aload_n (pc' := 41) C dX3_outlook_40 rfl rfl rfl ?_
  refine gf_X3_12 (pc' := 44) C dX3_outlook_41 rfl 0 rfl rfl ?_
  refine g_iload_n (pc' := 45) C dX3_outlook_44 rfl rfl rfl ?_
  refine cfI (pc' := 48) C (run_VI (rest := [.int s0, .ref (ad 2)]) C lk_X3_80 (mtX2_leavesBelow hv) ⟨by decide, by decide⟩ rfl rfl rfl rfl (Nat.le_of_ble_eq_true rfl) ⟨Nat.zero_le _, Nat.zero_le _⟩ dX3_outlook_45) rfl [1, 7] [0, 2, 3, 4, 5, 6, 8, 9, 10, 11, 12] [0, 11, 1, 2, 3, 4, 5, 12, 6, 7, 8, 9, 10] nd_BT1 di_BT1 (fun u45 => wB γ ad seen cnt pwc par amt held clos seW seS leW leS) rfl rfl (fun _ => rfl) (fun r45 u45 hv => ?_)
  refine g_iload_n (pc' := 49) C dX3_outlook_48 rfl rfl rfl ?_
  refine g_iload (pc' := 51) C dX3_outlook_49 rfl rfl ?_
  refine cfI (pc' := 54) C (run_VI (rest := []) C lk_X3_151 (mtX0_sumOver hv) ⟨by decide, by decide⟩ rfl rfl rfl rfl (Nat.le_of_ble_eq_true rfl) ⟨Nat.zero_le _, Nat.zero_le _⟩ dX3_outlook_51) rfl [2, 8] [0, 1, 3, 4, 5, 6, 7, 9, 10, 11, 12] [0, 1, 11, 2, 3, 4, 5, 6, 12, 7, 8, 9, 10] nd_BC2 di_BC2 (fun u51 => wB γ ad seen cnt pwc par amt held clos seW seS leW leS) rfl rfl (fun _ => rfl) (fun r51 u51 hv => ?_)
  exact RT r51 () _ _ _ _ dX3_outlook_54 rfl (by decide) (by decide) hv
def vX3_outlook (seen : Int32) (cnt : Int32) (pwc : Int32) (par : Ar) (amt : Ar) (x1 : Int32) (x2 : Int32) (x3 : Int32) (x4 : Int32) (Q : Int32 → Prop) : Prop := (vX3_checkVersion x1 ((vX3_checkPlace cnt x2 ((vX3_checkAccount x3 ((vX3_checkMonth x4 (((seen ≤ x4 → (vX3_outlook_J32 seen cnt pwc par amt x2 x3 x4 x1 Q)) ∧ (¬ seen ≤ x4 → (vX3_outlook_J32 seen cnt pwc par amt x2 x3 x4 (3 : Int32) Q)))))))))))
set_option maxHeartbeats 4000000 in
set_option maxRecDepth 100000 in
theorem mtX3_outlook {l : Launch} {γ : Gm} {ad : Nat → Nat} {seen : Int32} {cnt : Int32} {pwc : Int32} {par : Ar} {amt : Ar} {held : Ar} {clos : Ar} {seW : Ar} {seS : Ar} {leW : Ar} {leS : Ar} {x1 : Int32} {x2 : Int32} {x3 : Int32} {x4 : Int32} {Q : Int32 → Prop} (hv : vX3_outlook seen cnt pwc par amt x1 x2 x3 x4 Q) : CtI l γ yX3_outlook cX3_outlook 6 .int 7 103 0 0 [.ref (ad 0), .int x1, .int x2, .int x3, .int x4] (wB γ ad seen cnt pwc par amt held clos seW seS leW leS) (fun (r : Int32) (_ : Unit) => Q r) (fun _ => wB γ ad seen cnt pwc par amt held clos seW seS leW leS) := startI (by decide +kernel) (Nat.le_of_ble_eq_true rfl) (fun κ C RT hR hnm => by
  show G l γ κ (wB γ ad seen cnt pwc par amt held clos seW seS leW leS) [(0, .ref (ad 0)), (1, .int x1), (2, .int x2), (3, .int x3), (4, .int x4)] 0 0 [] 0
  refine g_iload_n (pc' := 1) C dX3_outlook_0 rfl rfl rfl ?_
  refine cnV (pc' := 4) C (run_SV (rest := []) C lk_X3_83 (mtX3_checkVersion hv) ⟨by decide, by decide⟩ rfl rfl (Nat.le_of_ble_eq_true rfl) ⟨Nat.zero_le _, Nat.zero_le _⟩ dX3_outlook_1) rfl (fun u1 hv => ?_)
  refine g_aload_n (pc' := 5) C dX3_outlook_4 rfl rfl rfl ?_
  refine g_iload_n (pc' := 6) C dX3_outlook_5 rfl rfl rfl ?_
  refine csV (pc' := 9) C (run_VV (rest := []) C lk_X3_48 (mtX3_checkPlace hv) ⟨by decide, by decide⟩ rfl rfl rfl rfl (Nat.le_of_ble_eq_true rfl) ⟨Nat.zero_le _, Nat.zero_le _⟩ dX3_outlook_6) rfl (fun u6 hv => ?_)
  refine g_iload_n (pc' := 10) C dX3_outlook_9 rfl rfl rfl ?_
  refine cnV (pc' := 13) C (run_SV (rest := []) C lk_X3_148 (mtX3_checkAccount hv) ⟨by decide, by decide⟩ rfl rfl (Nat.le_of_ble_eq_true rfl) ⟨Nat.zero_le _, Nat.zero_le _⟩ dX3_outlook_10) rfl (fun u10 hv => ?_)
  refine g_iload (pc' := 15) C dX3_outlook_13 rfl rfl ?_
  refine cnV (pc' := 18) C (run_SV (rest := []) C lk_X3_89 (mtX3_checkMonth hv) ⟨by decide, by decide⟩ rfl rfl (Nat.le_of_ble_eq_true rfl) ⟨Nat.zero_le _, Nat.zero_le _⟩ dX3_outlook_15) rfl (fun u15 hv => ?_)
  refine g_iload (pc' := 20) C dX3_outlook_18 rfl rfl ?_
  refine g_aload_n (pc' := 21) C dX3_outlook_20 rfl rfl rfl ?_
  refine gf_X3_40 (pc' := 24) C dX3_outlook_21 rfl 0 rfl rfl ?_
  obtain ⟨hv1, hv2⟩ := hv
  refine g_icmp_ge (pc' := 27) (tgt := 31) C dX3_outlook_24 rfl (by decide) (fun c => ?_) (fun c => ?_)
  · have hv := hv1 c
    refine g_iload_n (pc' := 32) C dX3_outlook_31 rfl rfl rfl ?_
    refine g_sub (lv' := [(0, .ref (ad 0)), (2, .int x2), (3, .int x3), (4, .int x4)]) [0, 2, 3, 4] rfl ?_
    exact wvX3_outlook_J32 C RT  hv
  · have hv := hv2 c
    refine g_iconst (pc' := 28) (v := (3 : Int32)) C dX3_outlook_27 rfl (by decide) ?_
    refine g_goto (tgt := 32) C dX3_outlook_28 (by decide) ?_
    refine g_sub (lv' := [(0, .ref (ad 0)), (2, .int x2), (3, .int x3), (4, .int x4)]) [0, 2, 3, 4] rfl ?_
    exact wvX3_outlook_J32 C RT  hv)
def zX3_outlook (seen : Int32) (cnt : Int32) (pwc : Int32) (par : Ar) (amt : Ar) (x1 : Int32) (x2 : Int32) (x3 : Int32) (x4 : Int32) (X : String → Prop) : Prop := ((zX3_checkVersion x1 (fun E => X E)) ∨ (vX3_checkVersion x1 (((zX3_checkPlace cnt x2 (fun E => X E)) ∨ (vX3_checkPlace cnt x2 (((zX3_checkAccount x3 (fun E => X E)) ∨ (vX3_checkAccount x3 ((zX3_checkMonth x4 (fun E => X E)))))))))))
set_option maxHeartbeats 4000000 in
set_option maxRecDepth 100000 in
theorem mtzX3_outlook {l : Launch} (hfl : l.stackTraces = false) {γ : Gm} {ad : Nat → Nat} {seen : Int32} {cnt : Int32} {pwc : Int32} {par : Ar} {amt : Ar} {held : Ar} {clos : Ar} {seW : Ar} {seS : Ar} {leW : Ar} {leS : Ar} {x1 : Int32} {x2 : Int32} {x3 : Int32} {x4 : Int32} {X : String → Prop} (hv : zX3_outlook seen cnt pwc par amt x1 x2 x3 x4 X) : CtX l γ yX3_outlook cX3_outlook 6 (some .int) 7 103 [.ref (ad 0), .int x1, .int x2, .int x3, .int x4] (wB γ ad seen cnt pwc par amt held clos seW seS leW leS) (fun (E : String) (_ : Unit) => X E) (fun _ => wB γ ad seen cnt pwc par amt held clos seW seS leW leS) := startX (by decide +kernel) (Nat.le_of_ble_eq_true rfl) (fun κ C hX => by
  show G l γ κ (wB γ ad seen cnt pwc par amt held clos seW seS leW leS) [(0, .ref (ad 0)), (1, .int x1), (2, .int x2), (3, .int x3), (4, .int x4)] 0 0 [] 0
  refine g_iload_n (pc' := 1) C dX3_outlook_0 rfl rfl rfl ?_
  rcases hv with hv | hv
  · exact noneX C hX (run_SX (rest := []) C lk_X3_83 (mtzX3_checkVersion hfl hv) ⟨by decide, by decide⟩ rfl rfl (Nat.le_of_ble_eq_true rfl) ⟨hX.2.2.1, hX.2.2.2⟩ dX3_outlook_1) (fun E u1 hx => ⟨(), hx, rfl⟩)
  · refine cnV (pc' := 4) C (run_SV (rest := []) C lk_X3_83 (mtX3_checkVersion hv) ⟨by decide, by decide⟩ rfl rfl (Nat.le_of_ble_eq_true rfl) ⟨Nat.zero_le _, Nat.zero_le _⟩ dX3_outlook_1) rfl (fun u1 hv => ?_)
    refine g_aload_n (pc' := 5) C dX3_outlook_4 rfl rfl rfl ?_
    refine g_iload_n (pc' := 6) C dX3_outlook_5 rfl rfl rfl ?_
    rcases hv with hv | hv
    · exact sameX C hX (run_VX (rest := []) C lk_X3_48 (mtzX3_checkPlace hfl hv) ⟨by decide, by decide⟩ rfl rfl rfl rfl (Nat.le_of_ble_eq_true rfl) ⟨hX.2.2.1, hX.2.2.2⟩ dX3_outlook_6) (fun E u6 hx => ⟨(), hx, rfl⟩)
    · refine csV (pc' := 9) C (run_VV (rest := []) C lk_X3_48 (mtX3_checkPlace hv) ⟨by decide, by decide⟩ rfl rfl rfl rfl (Nat.le_of_ble_eq_true rfl) ⟨Nat.zero_le _, Nat.zero_le _⟩ dX3_outlook_6) rfl (fun u6 hv => ?_)
      refine g_iload_n (pc' := 10) C dX3_outlook_9 rfl rfl rfl ?_
      rcases hv with hv | hv
      · exact noneX C hX (run_SX (rest := []) C lk_X3_148 (mtzX3_checkAccount hfl hv) ⟨by decide, by decide⟩ rfl rfl (Nat.le_of_ble_eq_true rfl) ⟨hX.2.2.1, hX.2.2.2⟩ dX3_outlook_10) (fun E u10 hx => ⟨(), hx, rfl⟩)
      · refine cnV (pc' := 13) C (run_SV (rest := []) C lk_X3_148 (mtX3_checkAccount hv) ⟨by decide, by decide⟩ rfl rfl (Nat.le_of_ble_eq_true rfl) ⟨Nat.zero_le _, Nat.zero_le _⟩ dX3_outlook_10) rfl (fun u10 hv => ?_)
        refine g_iload (pc' := 15) C dX3_outlook_13 rfl rfl ?_
        exact noneX C hX (run_SX (rest := []) C lk_X3_89 (mtzX3_checkMonth hfl hv) ⟨by decide, by decide⟩ rfl rfl (Nat.le_of_ble_eq_true rfl) ⟨hX.2.2.1, hX.2.2.2⟩ dX3_outlook_15) (fun E u15 hx => ⟨(), hx, rfl⟩))
def vX3_year_L29 (cnt : Int32) (pwc : Int32) (par : Ar) (amt : Ar) (x1 : Int32) (x3 : Int32) (x4 : Int32) (Q : Int32 → Prop) : Nat → Int32 → Int32 → Prop
  | 0, _, _ => False
  | n + 1, x5, x6 => (((12 : Int32) ≤ x6 → (Q x5)) ∧ (¬ (12 : Int32) ≤ x6 → (vX0_sumOver amt x1 x4 x3 x6 (fun r48 => (vX3_year_L29 cnt pwc par amt x1 x3 x4 Q n (x5 + r48) (x6 + (1 : Int32)))))))
set_option maxHeartbeats 4000000 in
set_option maxRecDepth 100000 in
theorem wvX3_year_L29 {l : Launch} {γ : Gm} {κ : Kx} {ad : Nat → Nat} {seen : Int32} {cnt : Int32} {pwc : Int32} {par : Ar} {amt : Ar} {held : Ar} {clos : Ar} {seW : Ar} {seS : Ar} {leW : Ar} {leS : Ar} {x1 : Int32} {x3 : Int32} {x4 : Int32} {Q : Int32 → Prop} (C : Ok γ κ cX3_year 7 RX3 7 103) (RT : RtI l γ κ cX3_year .int 0 0 (fun (r : Int32) (_ : Unit) => Q r) (fun _ => wB γ ad seen cnt pwc par amt held clos seW seS leW leS))  : ∀ (n : Nat) (x5 : Int32) (x6 : Int32), vX3_year_L29 cnt pwc par amt x1 x3 x4 Q n x5 x6 → G l γ κ (wB γ ad seen cnt pwc par amt held clos seW seS leW leS) [(0, .ref (ad 0)), (1, .int x1), (3, .int x3), (4, .int x4), (5, .int x5), (6, .int x6)] 0 0 [] 29 := by
  intro n
  induction n with
  | zero => intro x5 x6 hv; exact False.elim hv
  | succ n ih =>
    intro x5 x6 hv
    refine g_iload (pc' := 31) C dX3_year_29 rfl rfl ?_
    refine g_bipush (pc' := 33) (v := (12 : Int32)) C dX3_year_31 rfl (by decide) ?_
    obtain ⟨hv1, hv2⟩ := hv
    refine g_icmp_ge (pc' := 36) (tgt := 60) C dX3_year_33 rfl (by decide) (fun c => ?_) (fun c => ?_)
    · have hv := hv1 c
      refine g_iload (pc' := 62) C dX3_year_60 rfl rfl ?_
      exact RT x5 () _ _ _ _ dX3_year_62 rfl (by decide) (by decide) hv
    · have hv := hv2 c
      refine g_iload (pc' := 38) C dX3_year_36 rfl rfl ?_
      refine g_aload_n (pc' := 39) C dX3_year_38 rfl rfl rfl ?_
      refine gf_X3_19 (pc' := 42) C dX3_year_39 rfl 0 rfl rfl ?_
      refine g_iload_n (pc' := 43) C dX3_year_42 rfl rfl rfl ?_
      refine g_iload (pc' := 45) C dX3_year_43 rfl rfl ?_
      refine g_iload_n (pc' := 46) C dX3_year_45 rfl rfl rfl ?_
      refine g_iload (pc' := 48) C dX3_year_46 rfl rfl ?_
      refine cfI (pc' := 51) C (run_VI (rest := [.int x5]) C lk_X3_151 (mtX0_sumOver hv) ⟨by decide, by decide⟩ rfl rfl rfl rfl (Nat.le_of_ble_eq_true rfl) ⟨Nat.zero_le _, Nat.zero_le _⟩ dX3_year_48) rfl [2, 8] [0, 1, 3, 4, 5, 6, 7, 9, 10, 11, 12] [0, 1, 11, 2, 3, 4, 5, 6, 12, 7, 8, 9, 10] nd_BC2 di_BC2 (fun u48 => wB γ ad seen cnt pwc par amt held clos seW seS leW leS) rfl rfl (fun _ => rfl) (fun r48 u48 hv => ?_)
      refine g_iadd (pc' := 52) C dX3_year_51 rfl ?_
      refine g_istore (pc' := 54) (lv' := [(5, .int (x5 + r48)), (0, .ref (ad 0)), (1, .int x1), (3, .int x3), (4, .int x4), (6, .int x6)]) C dX3_year_52 rfl (by decide) rfl ?_
      refine g_iinc (pc' := 57) (v := (x6 + (1 : Int32))) (lv' := [(6, .int (x6 + (1 : Int32))), (5, .int (x5 + r48)), (0, .ref (ad 0)), (1, .int x1), (3, .int x3), (4, .int x4)]) C dX3_year_54 rfl rfl rfl (by decide) rfl ?_
      refine g_goto (tgt := 29) C dX3_year_57 (by decide) ?_
      refine g_sub (lv' := [(0, .ref (ad 0)), (1, .int x1), (3, .int x3), (4, .int x4), (5, .int (x5 + r48)), (6, .int (x6 + (1 : Int32)))]) [2, 3, 4, 5, 1, 0] rfl ?_
      exact ih _ _ hv
def vX3_year (cnt : Int32) (pwc : Int32) (par : Ar) (amt : Ar) (x1 : Int32) (x2 : Int32) (x3 : Int32) (Q : Int32 → Prop) : Prop := (vX3_checkVersion x1 ((vX3_checkPlace cnt x2 ((vX3_checkAccount x3 ((vX2_leavesBelow cnt pwc par x2 (fun r18 => (∃ n29 : Nat, vX3_year_L29 cnt pwc par amt x1 x3 r18 Q n29 (0 : Int32) (0 : Int32))))))))))
set_option maxHeartbeats 4000000 in
set_option maxRecDepth 100000 in
theorem mtX3_year {l : Launch} {γ : Gm} {ad : Nat → Nat} {seen : Int32} {cnt : Int32} {pwc : Int32} {par : Ar} {amt : Ar} {held : Ar} {clos : Ar} {seW : Ar} {seS : Ar} {leW : Ar} {leS : Ar} {x1 : Int32} {x2 : Int32} {x3 : Int32} {Q : Int32 → Prop} (hv : vX3_year cnt pwc par amt x1 x2 x3 Q) : CtI l γ yX3_year cX3_year 7 .int 7 103 0 0 [.ref (ad 0), .int x1, .int x2, .int x3] (wB γ ad seen cnt pwc par amt held clos seW seS leW leS) (fun (r : Int32) (_ : Unit) => Q r) (fun _ => wB γ ad seen cnt pwc par amt held clos seW seS leW leS) := startI (by decide +kernel) (Nat.le_of_ble_eq_true rfl) (fun κ C RT hR hnm => by
  show G l γ κ (wB γ ad seen cnt pwc par amt held clos seW seS leW leS) [(0, .ref (ad 0)), (1, .int x1), (2, .int x2), (3, .int x3)] 0 0 [] 0
  refine g_iload_n (pc' := 1) C dX3_year_0 rfl rfl rfl ?_
  refine cnV (pc' := 4) C (run_SV (rest := []) C lk_X3_83 (mtX3_checkVersion hv) ⟨by decide, by decide⟩ rfl rfl (Nat.le_of_ble_eq_true rfl) ⟨Nat.zero_le _, Nat.zero_le _⟩ dX3_year_1) rfl (fun u1 hv => ?_)
  refine g_aload_n (pc' := 5) C dX3_year_4 rfl rfl rfl ?_
  refine g_iload_n (pc' := 6) C dX3_year_5 rfl rfl rfl ?_
  refine csV (pc' := 9) C (run_VV (rest := []) C lk_X3_48 (mtX3_checkPlace hv) ⟨by decide, by decide⟩ rfl rfl rfl rfl (Nat.le_of_ble_eq_true rfl) ⟨Nat.zero_le _, Nat.zero_le _⟩ dX3_year_6) rfl (fun u6 hv => ?_)
  refine g_iload_n (pc' := 10) C dX3_year_9 rfl rfl rfl ?_
  refine cnV (pc' := 13) C (run_SV (rest := []) C lk_X3_148 (mtX3_checkAccount hv) ⟨by decide, by decide⟩ rfl rfl (Nat.le_of_ble_eq_true rfl) ⟨Nat.zero_le _, Nat.zero_le _⟩ dX3_year_10) rfl (fun u10 hv => ?_)
  refine g_aload_n (pc' := 14) C dX3_year_13 rfl rfl rfl ?_
  refine gf_X3_12 (pc' := 17) C dX3_year_14 rfl 0 rfl rfl ?_
  refine g_iload_n (pc' := 18) C dX3_year_17 rfl rfl rfl ?_
  refine cfI (pc' := 21) C (run_VI (rest := []) C lk_X3_80 (mtX2_leavesBelow hv) ⟨by decide, by decide⟩ rfl rfl rfl rfl (Nat.le_of_ble_eq_true rfl) ⟨Nat.zero_le _, Nat.zero_le _⟩ dX3_year_18) rfl [1, 7] [0, 2, 3, 4, 5, 6, 8, 9, 10, 11, 12] [0, 11, 1, 2, 3, 4, 5, 12, 6, 7, 8, 9, 10] nd_BT1 di_BT1 (fun u18 => wB γ ad seen cnt pwc par amt held clos seW seS leW leS) rfl rfl (fun _ => rfl) (fun r18 u18 hv => ?_)
  refine g_istore (pc' := 23) (lv' := [(4, .int r18), (0, .ref (ad 0)), (1, .int x1), (2, .int x2), (3, .int x3)]) C dX3_year_21 rfl (by decide) rfl ?_
  refine g_iconst (pc' := 24) (v := (0 : Int32)) C dX3_year_23 rfl (by decide) ?_
  refine g_istore (pc' := 26) (lv' := [(5, .int (0 : Int32)), (4, .int r18), (0, .ref (ad 0)), (1, .int x1), (2, .int x2), (3, .int x3)]) C dX3_year_24 rfl (by decide) rfl ?_
  refine g_iconst (pc' := 27) (v := (0 : Int32)) C dX3_year_26 rfl (by decide) ?_
  refine g_istore (pc' := 29) (lv' := [(6, .int (0 : Int32)), (5, .int (0 : Int32)), (4, .int r18), (0, .ref (ad 0)), (1, .int x1), (2, .int x2), (3, .int x3)]) C dX3_year_27 rfl (by decide) rfl ?_
  refine g_sub (lv' := [(0, .ref (ad 0)), (1, .int x1), (3, .int x3), (4, .int r18), (5, .int (0 : Int32)), (6, .int (0 : Int32))]) [3, 4, 6, 2, 1, 0] rfl ?_
  obtain ⟨n29, hv⟩ := hv
  exact wvX3_year_L29 C RT  n29 _ _ hv)
def zX3_year (cnt : Int32) (pwc : Int32) (par : Ar) (amt : Ar) (x1 : Int32) (x2 : Int32) (x3 : Int32) (X : String → Prop) : Prop := ((zX3_checkVersion x1 (fun E => X E)) ∨ (vX3_checkVersion x1 (((zX3_checkPlace cnt x2 (fun E => X E)) ∨ (vX3_checkPlace cnt x2 ((zX3_checkAccount x3 (fun E => X E))))))))
set_option maxHeartbeats 4000000 in
set_option maxRecDepth 100000 in
theorem mtzX3_year {l : Launch} (hfl : l.stackTraces = false) {γ : Gm} {ad : Nat → Nat} {seen : Int32} {cnt : Int32} {pwc : Int32} {par : Ar} {amt : Ar} {held : Ar} {clos : Ar} {seW : Ar} {seS : Ar} {leW : Ar} {leS : Ar} {x1 : Int32} {x2 : Int32} {x3 : Int32} {X : String → Prop} (hv : zX3_year cnt pwc par amt x1 x2 x3 X) : CtX l γ yX3_year cX3_year 7 (some .int) 7 103 [.ref (ad 0), .int x1, .int x2, .int x3] (wB γ ad seen cnt pwc par amt held clos seW seS leW leS) (fun (E : String) (_ : Unit) => X E) (fun _ => wB γ ad seen cnt pwc par amt held clos seW seS leW leS) := startX (by decide +kernel) (Nat.le_of_ble_eq_true rfl) (fun κ C hX => by
  show G l γ κ (wB γ ad seen cnt pwc par amt held clos seW seS leW leS) [(0, .ref (ad 0)), (1, .int x1), (2, .int x2), (3, .int x3)] 0 0 [] 0
  refine g_iload_n (pc' := 1) C dX3_year_0 rfl rfl rfl ?_
  rcases hv with hv | hv
  · exact noneX C hX (run_SX (rest := []) C lk_X3_83 (mtzX3_checkVersion hfl hv) ⟨by decide, by decide⟩ rfl rfl (Nat.le_of_ble_eq_true rfl) ⟨hX.2.2.1, hX.2.2.2⟩ dX3_year_1) (fun E u1 hx => ⟨(), hx, rfl⟩)
  · refine cnV (pc' := 4) C (run_SV (rest := []) C lk_X3_83 (mtX3_checkVersion hv) ⟨by decide, by decide⟩ rfl rfl (Nat.le_of_ble_eq_true rfl) ⟨Nat.zero_le _, Nat.zero_le _⟩ dX3_year_1) rfl (fun u1 hv => ?_)
    refine g_aload_n (pc' := 5) C dX3_year_4 rfl rfl rfl ?_
    refine g_iload_n (pc' := 6) C dX3_year_5 rfl rfl rfl ?_
    rcases hv with hv | hv
    · exact sameX C hX (run_VX (rest := []) C lk_X3_48 (mtzX3_checkPlace hfl hv) ⟨by decide, by decide⟩ rfl rfl rfl rfl (Nat.le_of_ble_eq_true rfl) ⟨hX.2.2.1, hX.2.2.2⟩ dX3_year_6) (fun E u6 hx => ⟨(), hx, rfl⟩)
    · refine csV (pc' := 9) C (run_VV (rest := []) C lk_X3_48 (mtX3_checkPlace hv) ⟨by decide, by decide⟩ rfl rfl rfl rfl (Nat.le_of_ble_eq_true rfl) ⟨Nat.zero_le _, Nat.zero_le _⟩ dX3_year_6) rfl (fun u6 hv => ?_)
      refine g_iload_n (pc' := 10) C dX3_year_9 rfl rfl rfl ?_
      exact noneX C hX (run_SX (rest := []) C lk_X3_148 (mtzX3_checkAccount hfl hv) ⟨by decide, by decide⟩ rfl rfl (Nat.le_of_ble_eq_true rfl) ⟨hX.2.2.1, hX.2.2.2⟩ dX3_year_10) (fun E u10 hx => ⟨(), hx, rfl⟩))
def vX3_yearByLeaves_L29 (cnt : Int32) (pwc : Int32) (par : Ar) (amt : Ar) (x1 : Int32) (x3 : Int32) (x4 : Int32) (Q : Int32 → Prop) : Nat → Int32 → Int32 → Prop
  | 0, _, _ => False
  | n + 1, x5, x6 => (((10 : Int32) ≤ x6 → (Q x5)) ∧ (¬ (10 : Int32) ≤ x6 → (vX3_isIn x4 x6 (fun r40 => ((r40 = (0 : Int32) → (vX3_yearByLeaves_L29 cnt pwc par amt x1 x3 x4 Q n x5 (x6 + (1 : Int32)))) ∧ (¬ r40 = (0 : Int32) → (vX0_yearOf amt x1 x6 x3 (fun r56 => (vX3_yearByLeaves_L29 cnt pwc par amt x1 x3 x4 Q n (x5 + r56) (x6 + (1 : Int32)))))))))))
set_option maxHeartbeats 4000000 in
set_option maxRecDepth 100000 in
theorem wvX3_yearByLeaves_L29 {l : Launch} {γ : Gm} {κ : Kx} {ad : Nat → Nat} {seen : Int32} {cnt : Int32} {pwc : Int32} {par : Ar} {amt : Ar} {held : Ar} {clos : Ar} {seW : Ar} {seS : Ar} {leW : Ar} {leS : Ar} {x1 : Int32} {x3 : Int32} {x4 : Int32} {Q : Int32 → Prop} (C : Ok γ κ cX3_yearByLeaves 7 RX3 7 103) (RT : RtI l γ κ cX3_yearByLeaves .int 0 0 (fun (r : Int32) (_ : Unit) => Q r) (fun _ => wB γ ad seen cnt pwc par amt held clos seW seS leW leS))  : ∀ (n : Nat) (x5 : Int32) (x6 : Int32), vX3_yearByLeaves_L29 cnt pwc par amt x1 x3 x4 Q n x5 x6 → G l γ κ (wB γ ad seen cnt pwc par amt held clos seW seS leW leS) [(0, .ref (ad 0)), (1, .int x1), (3, .int x3), (4, .int x4), (5, .int x5), (6, .int x6)] 0 0 [] 29 := by
  intro n
  induction n with
  | zero => intro x5 x6 hv; exact False.elim hv
  | succ n ih =>
    intro x5 x6 hv
    refine g_iload (pc' := 31) C dX3_yearByLeaves_29 rfl rfl ?_
    refine g_bipush (pc' := 33) (v := (10 : Int32)) C dX3_yearByLeaves_31 rfl (by decide) ?_
    obtain ⟨hv1, hv2⟩ := hv
    refine g_icmp_ge (pc' := 36) (tgt := 68) C dX3_yearByLeaves_33 rfl (by decide) (fun c => ?_) (fun c => ?_)
    · have hv := hv1 c
      refine g_iload (pc' := 70) C dX3_yearByLeaves_68 rfl rfl ?_
      exact RT x5 () _ _ _ _ dX3_yearByLeaves_70 rfl (by decide) (by decide) hv
    · have hv := hv2 c
      refine g_iload (pc' := 38) C dX3_yearByLeaves_36 rfl rfl ?_
      refine g_iload (pc' := 40) C dX3_yearByLeaves_38 rfl rfl ?_
      refine cnI (pc' := 43) C (run_SI (rest := []) C lk_X3_102 (mtX3_isIn hv) ⟨by decide, by decide⟩ rfl rfl (Nat.le_of_ble_eq_true rfl) ⟨Nat.zero_le _, Nat.zero_le _⟩ dX3_yearByLeaves_40) rfl (fun r40 u40 hv => ?_)
      obtain ⟨hv1, hv2⟩ := hv
      refine g_if_eq (pc' := 46) (tgt := 62) C dX3_yearByLeaves_43 rfl (by decide) (fun c => ?_) (fun c => ?_)
      · have hv := hv1 c
        refine g_iinc (pc' := 65) (v := (x6 + (1 : Int32))) (lv' := [(6, .int (x6 + (1 : Int32))), (0, .ref (ad 0)), (1, .int x1), (3, .int x3), (4, .int x4), (5, .int x5)]) C dX3_yearByLeaves_62 rfl rfl rfl (by decide) rfl ?_
        refine g_goto (tgt := 29) C dX3_yearByLeaves_65 (by decide) ?_
        refine g_sub (lv' := [(0, .ref (ad 0)), (1, .int x1), (3, .int x3), (4, .int x4), (5, .int x5), (6, .int (x6 + (1 : Int32)))]) [1, 2, 3, 4, 5, 0] rfl ?_
        exact ih _ _ hv
      · have hv := hv2 c
        refine g_iload (pc' := 48) C dX3_yearByLeaves_46 rfl rfl ?_
        refine g_aload_n (pc' := 49) C dX3_yearByLeaves_48 rfl rfl rfl ?_
        refine gf_X3_19 (pc' := 52) C dX3_yearByLeaves_49 rfl 0 rfl rfl ?_
        refine g_iload_n (pc' := 53) C dX3_yearByLeaves_52 rfl rfl rfl ?_
        refine g_iload (pc' := 55) C dX3_yearByLeaves_53 rfl rfl ?_
        refine g_iload_n (pc' := 56) C dX3_yearByLeaves_55 rfl rfl rfl ?_
        refine cfI (pc' := 59) C (run_VI (rest := [.int x5]) C lk_X3_155 (mtX0_yearOf hv) ⟨by decide, by decide⟩ rfl rfl rfl rfl (Nat.le_of_ble_eq_true rfl) ⟨Nat.zero_le _, Nat.zero_le _⟩ dX3_yearByLeaves_56) rfl [2, 8] [0, 1, 3, 4, 5, 6, 7, 9, 10, 11, 12] [0, 1, 11, 2, 3, 4, 5, 6, 12, 7, 8, 9, 10] nd_BC2 di_BC2 (fun u56 => wB γ ad seen cnt pwc par amt held clos seW seS leW leS) rfl rfl (fun _ => rfl) (fun r56 u56 hv => ?_)
        refine g_iadd (pc' := 60) C dX3_yearByLeaves_59 rfl ?_
        refine g_istore (pc' := 62) (lv' := [(5, .int (x5 + r56)), (0, .ref (ad 0)), (1, .int x1), (3, .int x3), (4, .int x4), (6, .int x6)]) C dX3_yearByLeaves_60 rfl (by decide) rfl ?_
        refine g_iinc (pc' := 65) (v := (x6 + (1 : Int32))) (lv' := [(6, .int (x6 + (1 : Int32))), (5, .int (x5 + r56)), (0, .ref (ad 0)), (1, .int x1), (3, .int x3), (4, .int x4)]) C dX3_yearByLeaves_62 rfl rfl rfl (by decide) rfl ?_
        refine g_goto (tgt := 29) C dX3_yearByLeaves_65 (by decide) ?_
        refine g_sub (lv' := [(0, .ref (ad 0)), (1, .int x1), (3, .int x3), (4, .int x4), (5, .int (x5 + r56)), (6, .int (x6 + (1 : Int32)))]) [2, 3, 4, 5, 1, 0] rfl ?_
        exact ih _ _ hv
def vX3_yearByLeaves (cnt : Int32) (pwc : Int32) (par : Ar) (amt : Ar) (x1 : Int32) (x2 : Int32) (x3 : Int32) (Q : Int32 → Prop) : Prop := (vX3_checkVersion x1 ((vX3_checkPlace cnt x2 ((vX3_checkAccount x3 ((vX2_leavesBelow cnt pwc par x2 (fun r18 => (∃ n29 : Nat, vX3_yearByLeaves_L29 cnt pwc par amt x1 x3 r18 Q n29 (0 : Int32) (0 : Int32))))))))))
set_option maxHeartbeats 4000000 in
set_option maxRecDepth 100000 in
theorem mtX3_yearByLeaves {l : Launch} {γ : Gm} {ad : Nat → Nat} {seen : Int32} {cnt : Int32} {pwc : Int32} {par : Ar} {amt : Ar} {held : Ar} {clos : Ar} {seW : Ar} {seS : Ar} {leW : Ar} {leS : Ar} {x1 : Int32} {x2 : Int32} {x3 : Int32} {Q : Int32 → Prop} (hv : vX3_yearByLeaves cnt pwc par amt x1 x2 x3 Q) : CtI l γ yX3_yearByLeaves cX3_yearByLeaves 7 .int 7 103 0 0 [.ref (ad 0), .int x1, .int x2, .int x3] (wB γ ad seen cnt pwc par amt held clos seW seS leW leS) (fun (r : Int32) (_ : Unit) => Q r) (fun _ => wB γ ad seen cnt pwc par amt held clos seW seS leW leS) := startI (by decide +kernel) (Nat.le_of_ble_eq_true rfl) (fun κ C RT hR hnm => by
  show G l γ κ (wB γ ad seen cnt pwc par amt held clos seW seS leW leS) [(0, .ref (ad 0)), (1, .int x1), (2, .int x2), (3, .int x3)] 0 0 [] 0
  refine g_iload_n (pc' := 1) C dX3_yearByLeaves_0 rfl rfl rfl ?_
  refine cnV (pc' := 4) C (run_SV (rest := []) C lk_X3_83 (mtX3_checkVersion hv) ⟨by decide, by decide⟩ rfl rfl (Nat.le_of_ble_eq_true rfl) ⟨Nat.zero_le _, Nat.zero_le _⟩ dX3_yearByLeaves_1) rfl (fun u1 hv => ?_)
  refine g_aload_n (pc' := 5) C dX3_yearByLeaves_4 rfl rfl rfl ?_
  refine g_iload_n (pc' := 6) C dX3_yearByLeaves_5 rfl rfl rfl ?_
  refine csV (pc' := 9) C (run_VV (rest := []) C lk_X3_48 (mtX3_checkPlace hv) ⟨by decide, by decide⟩ rfl rfl rfl rfl (Nat.le_of_ble_eq_true rfl) ⟨Nat.zero_le _, Nat.zero_le _⟩ dX3_yearByLeaves_6) rfl (fun u6 hv => ?_)
  refine g_iload_n (pc' := 10) C dX3_yearByLeaves_9 rfl rfl rfl ?_
  refine cnV (pc' := 13) C (run_SV (rest := []) C lk_X3_148 (mtX3_checkAccount hv) ⟨by decide, by decide⟩ rfl rfl (Nat.le_of_ble_eq_true rfl) ⟨Nat.zero_le _, Nat.zero_le _⟩ dX3_yearByLeaves_10) rfl (fun u10 hv => ?_)
  refine g_aload_n (pc' := 14) C dX3_yearByLeaves_13 rfl rfl rfl ?_
  refine gf_X3_12 (pc' := 17) C dX3_yearByLeaves_14 rfl 0 rfl rfl ?_
  refine g_iload_n (pc' := 18) C dX3_yearByLeaves_17 rfl rfl rfl ?_
  refine cfI (pc' := 21) C (run_VI (rest := []) C lk_X3_80 (mtX2_leavesBelow hv) ⟨by decide, by decide⟩ rfl rfl rfl rfl (Nat.le_of_ble_eq_true rfl) ⟨Nat.zero_le _, Nat.zero_le _⟩ dX3_yearByLeaves_18) rfl [1, 7] [0, 2, 3, 4, 5, 6, 8, 9, 10, 11, 12] [0, 11, 1, 2, 3, 4, 5, 12, 6, 7, 8, 9, 10] nd_BT1 di_BT1 (fun u18 => wB γ ad seen cnt pwc par amt held clos seW seS leW leS) rfl rfl (fun _ => rfl) (fun r18 u18 hv => ?_)
  refine g_istore (pc' := 23) (lv' := [(4, .int r18), (0, .ref (ad 0)), (1, .int x1), (2, .int x2), (3, .int x3)]) C dX3_yearByLeaves_21 rfl (by decide) rfl ?_
  refine g_iconst (pc' := 24) (v := (0 : Int32)) C dX3_yearByLeaves_23 rfl (by decide) ?_
  refine g_istore (pc' := 26) (lv' := [(5, .int (0 : Int32)), (4, .int r18), (0, .ref (ad 0)), (1, .int x1), (2, .int x2), (3, .int x3)]) C dX3_yearByLeaves_24 rfl (by decide) rfl ?_
  refine g_iconst (pc' := 27) (v := (0 : Int32)) C dX3_yearByLeaves_26 rfl (by decide) ?_
  refine g_istore (pc' := 29) (lv' := [(6, .int (0 : Int32)), (5, .int (0 : Int32)), (4, .int r18), (0, .ref (ad 0)), (1, .int x1), (2, .int x2), (3, .int x3)]) C dX3_yearByLeaves_27 rfl (by decide) rfl ?_
  refine g_sub (lv' := [(0, .ref (ad 0)), (1, .int x1), (3, .int x3), (4, .int r18), (5, .int (0 : Int32)), (6, .int (0 : Int32))]) [3, 4, 6, 2, 1, 0] rfl ?_
  obtain ⟨n29, hv⟩ := hv
  exact wvX3_yearByLeaves_L29 C RT  n29 _ _ hv)
def zX3_yearByLeaves (cnt : Int32) (pwc : Int32) (par : Ar) (amt : Ar) (x1 : Int32) (x2 : Int32) (x3 : Int32) (X : String → Prop) : Prop := ((zX3_checkVersion x1 (fun E => X E)) ∨ (vX3_checkVersion x1 (((zX3_checkPlace cnt x2 (fun E => X E)) ∨ (vX3_checkPlace cnt x2 ((zX3_checkAccount x3 (fun E => X E))))))))
set_option maxHeartbeats 4000000 in
set_option maxRecDepth 100000 in
theorem mtzX3_yearByLeaves {l : Launch} (hfl : l.stackTraces = false) {γ : Gm} {ad : Nat → Nat} {seen : Int32} {cnt : Int32} {pwc : Int32} {par : Ar} {amt : Ar} {held : Ar} {clos : Ar} {seW : Ar} {seS : Ar} {leW : Ar} {leS : Ar} {x1 : Int32} {x2 : Int32} {x3 : Int32} {X : String → Prop} (hv : zX3_yearByLeaves cnt pwc par amt x1 x2 x3 X) : CtX l γ yX3_yearByLeaves cX3_yearByLeaves 7 (some .int) 7 103 [.ref (ad 0), .int x1, .int x2, .int x3] (wB γ ad seen cnt pwc par amt held clos seW seS leW leS) (fun (E : String) (_ : Unit) => X E) (fun _ => wB γ ad seen cnt pwc par amt held clos seW seS leW leS) := startX (by decide +kernel) (Nat.le_of_ble_eq_true rfl) (fun κ C hX => by
  show G l γ κ (wB γ ad seen cnt pwc par amt held clos seW seS leW leS) [(0, .ref (ad 0)), (1, .int x1), (2, .int x2), (3, .int x3)] 0 0 [] 0
  refine g_iload_n (pc' := 1) C dX3_yearByLeaves_0 rfl rfl rfl ?_
  rcases hv with hv | hv
  · exact noneX C hX (run_SX (rest := []) C lk_X3_83 (mtzX3_checkVersion hfl hv) ⟨by decide, by decide⟩ rfl rfl (Nat.le_of_ble_eq_true rfl) ⟨hX.2.2.1, hX.2.2.2⟩ dX3_yearByLeaves_1) (fun E u1 hx => ⟨(), hx, rfl⟩)
  · refine cnV (pc' := 4) C (run_SV (rest := []) C lk_X3_83 (mtX3_checkVersion hv) ⟨by decide, by decide⟩ rfl rfl (Nat.le_of_ble_eq_true rfl) ⟨Nat.zero_le _, Nat.zero_le _⟩ dX3_yearByLeaves_1) rfl (fun u1 hv => ?_)
    refine g_aload_n (pc' := 5) C dX3_yearByLeaves_4 rfl rfl rfl ?_
    refine g_iload_n (pc' := 6) C dX3_yearByLeaves_5 rfl rfl rfl ?_
    rcases hv with hv | hv
    · exact sameX C hX (run_VX (rest := []) C lk_X3_48 (mtzX3_checkPlace hfl hv) ⟨by decide, by decide⟩ rfl rfl rfl rfl (Nat.le_of_ble_eq_true rfl) ⟨hX.2.2.1, hX.2.2.2⟩ dX3_yearByLeaves_6) (fun E u6 hx => ⟨(), hx, rfl⟩)
    · refine csV (pc' := 9) C (run_VV (rest := []) C lk_X3_48 (mtX3_checkPlace hv) ⟨by decide, by decide⟩ rfl rfl rfl rfl (Nat.le_of_ble_eq_true rfl) ⟨Nat.zero_le _, Nat.zero_le _⟩ dX3_yearByLeaves_6) rfl (fun u6 hv => ?_)
      refine g_iload_n (pc' := 10) C dX3_yearByLeaves_9 rfl rfl rfl ?_
      exact noneX C hX (run_SX (rest := []) C lk_X3_148 (mtzX3_checkAccount hfl hv) ⟨by decide, by decide⟩ rfl rfl (Nat.le_of_ble_eq_true rfl) ⟨hX.2.2.1, hX.2.2.2⟩ dX3_yearByLeaves_10) (fun E u10 hx => ⟨(), hx, rfl⟩))
def vX3_filled (amt : Ar) (Q : Int32 → Prop) : Prop := (vX0_countFilled amt (fun r4 => (Q r4)))
set_option maxHeartbeats 4000000 in
set_option maxRecDepth 100000 in
theorem mtX3_filled {l : Launch} {γ : Gm} {ad : Nat → Nat} {seen : Int32} {cnt : Int32} {pwc : Int32} {par : Ar} {amt : Ar} {held : Ar} {clos : Ar} {seW : Ar} {seS : Ar} {leW : Ar} {leS : Ar} {Q : Int32 → Prop} (hv : vX3_filled amt Q) : CtI l γ yX3_filled cX3_filled 1 .int 1 22 0 0 [.ref (ad 0)] (wB γ ad seen cnt pwc par amt held clos seW seS leW leS) (fun (r : Int32) (_ : Unit) => Q r) (fun _ => wB γ ad seen cnt pwc par amt held clos seW seS leW leS) := startI (by decide +kernel) (Nat.le_of_ble_eq_true rfl) (fun κ C RT hR hnm => by
  show G l γ κ (wB γ ad seen cnt pwc par amt held clos seW seS leW leS) [(0, .ref (ad 0))] 0 0 [] 0
  refine g_aload_n (pc' := 1) C dX3_filled_0 rfl rfl rfl ?_
  refine gf_X3_19 (pc' := 4) C dX3_filled_1 rfl 0 rfl rfl ?_
  refine cfI (pc' := 7) C (run_VI (rest := []) C lk_X3_159 (mtX0_countFilled hv) ⟨by decide, by decide⟩ rfl rfl rfl rfl (Nat.le_of_ble_eq_true rfl) ⟨Nat.zero_le _, Nat.zero_le _⟩ dX3_filled_4) rfl [2, 8] [0, 1, 3, 4, 5, 6, 7, 9, 10, 11, 12] [0, 1, 11, 2, 3, 4, 5, 6, 12, 7, 8, 9, 10] nd_BC2 di_BC2 (fun u4 => wB γ ad seen cnt pwc par amt held clos seW seS leW leS) rfl rfl (fun _ => rfl) (fun r4 u4 hv => ?_)
  exact RT r4 () _ _ _ _ dX3_filled_7 rfl (by decide) (by decide) hv)
def vX3_gapOfLeaf_L6 (amt : Ar) (x1 : Int32) (x2 : Int32) (x3 : Int32) (x4 : Int32) (Q : Int32 → Prop) : Nat → Int32 → Int32 → Prop
  | 0, _, _ => False
  | n + 1, x5, x6 => (((12 : Int32) ≤ x6 → (Q x5)) ∧ (¬ (12 : Int32) ≤ x6 → (vX0_at amt x1 x3 (0 : Int32) x6 (fun r22 => (vX0_at amt x1 x3 (1 : Int32) x6 (fun r36 => (vX0_at amt x2 x3 (0 : Int32) x6 (fun r50 => (vX0_at amt x2 x3 (1 : Int32) x6 (fun r64 => (vX3_gapPart r22 r36 r50 r64 x4 (fun r81 => (vX3_gapOfLeaf_L6 amt x1 x2 x3 x4 Q n (x5 + r81) (x6 + (1 : Int32)))))))))))))))
set_option maxHeartbeats 4000000 in
set_option maxRecDepth 100000 in
theorem wvX3_gapOfLeaf_L6 {l : Launch} {γ : Gm} {κ : Kx} {ad : Nat → Nat} {seen : Int32} {cnt : Int32} {pwc : Int32} {par : Ar} {amt : Ar} {held : Ar} {clos : Ar} {seW : Ar} {seS : Ar} {leW : Ar} {leS : Ar} {x1 : Int32} {x2 : Int32} {x3 : Int32} {x4 : Int32} {Q : Int32 → Prop} (C : Ok γ κ cX3_gapOfLeaf 11 RX3 2 47) (RT : RtI l γ κ cX3_gapOfLeaf .int 0 0 (fun (r : Int32) (_ : Unit) => Q r) (fun _ => wB γ ad seen cnt pwc par amt held clos seW seS leW leS))  : ∀ (n : Nat) (x5 : Int32) (x6 : Int32), vX3_gapOfLeaf_L6 amt x1 x2 x3 x4 Q n x5 x6 → G l γ κ (wB γ ad seen cnt pwc par amt held clos seW seS leW leS) [(0, .ref (ad 0)), (1, .int x1), (2, .int x2), (3, .int x3), (4, .int x4), (5, .int x5), (6, .int x6)] 0 0 [] 6 := by
  intro n
  induction n with
  | zero => intro x5 x6 hv; exact False.elim hv
  | succ n ih =>
    intro x5 x6 hv
    refine g_iload (pc' := 8) C dX3_gapOfLeaf_6 rfl rfl ?_
    refine g_bipush (pc' := 10) (v := (12 : Int32)) C dX3_gapOfLeaf_8 rfl (by decide) ?_
    obtain ⟨hv1, hv2⟩ := hv
    refine g_icmp_ge (pc' := 13) (tgt := 93) C dX3_gapOfLeaf_10 rfl (by decide) (fun c => ?_) (fun c => ?_)
    · have hv := hv1 c
      refine g_iload (pc' := 95) C dX3_gapOfLeaf_93 rfl rfl ?_
      exact RT x5 () _ _ _ _ dX3_gapOfLeaf_95 rfl (by decide) (by decide) hv
    · have hv := hv2 c
      refine g_aload_n (pc' := 14) C dX3_gapOfLeaf_13 rfl rfl rfl ?_
      refine gf_X3_19 (pc' := 17) C dX3_gapOfLeaf_14 rfl 0 rfl rfl ?_
      refine g_iload_n (pc' := 18) C dX3_gapOfLeaf_17 rfl rfl rfl ?_
      refine g_iload_n (pc' := 19) C dX3_gapOfLeaf_18 rfl rfl rfl ?_
      refine g_iconst (pc' := 20) (v := (0 : Int32)) C dX3_gapOfLeaf_19 rfl (by decide) ?_
      refine g_iload (pc' := 22) C dX3_gapOfLeaf_20 rfl rfl ?_
      refine cfI (pc' := 25) C (run_VI (rest := []) C lk_X3_165 (mtX0_at hv) ⟨by decide, by decide⟩ rfl rfl rfl rfl (Nat.le_of_ble_eq_true rfl) ⟨Nat.zero_le _, Nat.zero_le _⟩ dX3_gapOfLeaf_22) rfl [2, 8] [0, 1, 3, 4, 5, 6, 7, 9, 10, 11, 12] [0, 1, 11, 2, 3, 4, 5, 6, 12, 7, 8, 9, 10] nd_BC2 di_BC2 (fun u22 => wB γ ad seen cnt pwc par amt held clos seW seS leW leS) rfl rfl (fun _ => rfl) (fun r22 u22 hv => ?_)
      refine g_istore (pc' := 27) (lv' := [(7, .int r22), (0, .ref (ad 0)), (1, .int x1), (2, .int x2), (3, .int x3), (4, .int x4), (5, .int x5), (6, .int x6)]) C dX3_gapOfLeaf_25 rfl (by decide) rfl ?_
      refine g_aload_n (pc' := 28) C dX3_gapOfLeaf_27 rfl rfl rfl ?_
      refine gf_X3_19 (pc' := 31) C dX3_gapOfLeaf_28 rfl 0 rfl rfl ?_
      refine g_iload_n (pc' := 32) C dX3_gapOfLeaf_31 rfl rfl rfl ?_
      refine g_iload_n (pc' := 33) C dX3_gapOfLeaf_32 rfl rfl rfl ?_
      refine g_iconst (pc' := 34) (v := (1 : Int32)) C dX3_gapOfLeaf_33 rfl (by decide) ?_
      refine g_iload (pc' := 36) C dX3_gapOfLeaf_34 rfl rfl ?_
      refine cfI (pc' := 39) C (run_VI (rest := []) C lk_X3_165 (mtX0_at hv) ⟨by decide, by decide⟩ rfl rfl rfl rfl (Nat.le_of_ble_eq_true rfl) ⟨Nat.zero_le _, Nat.zero_le _⟩ dX3_gapOfLeaf_36) rfl [2, 8] [0, 1, 3, 4, 5, 6, 7, 9, 10, 11, 12] [0, 1, 11, 2, 3, 4, 5, 6, 12, 7, 8, 9, 10] nd_BC2 di_BC2 (fun u36 => wB γ ad seen cnt pwc par amt held clos seW seS leW leS) rfl rfl (fun _ => rfl) (fun r36 u36 hv => ?_)
      refine g_istore (pc' := 41) (lv' := [(8, .int r36), (7, .int r22), (0, .ref (ad 0)), (1, .int x1), (2, .int x2), (3, .int x3), (4, .int x4), (5, .int x5), (6, .int x6)]) C dX3_gapOfLeaf_39 rfl (by decide) rfl ?_
      refine g_aload_n (pc' := 42) C dX3_gapOfLeaf_41 rfl rfl rfl ?_
      refine gf_X3_19 (pc' := 45) C dX3_gapOfLeaf_42 rfl 0 rfl rfl ?_
      refine g_iload_n (pc' := 46) C dX3_gapOfLeaf_45 rfl rfl rfl ?_
      refine g_iload_n (pc' := 47) C dX3_gapOfLeaf_46 rfl rfl rfl ?_
      refine g_iconst (pc' := 48) (v := (0 : Int32)) C dX3_gapOfLeaf_47 rfl (by decide) ?_
      refine g_iload (pc' := 50) C dX3_gapOfLeaf_48 rfl rfl ?_
      refine cfI (pc' := 53) C (run_VI (rest := []) C lk_X3_165 (mtX0_at hv) ⟨by decide, by decide⟩ rfl rfl rfl rfl (Nat.le_of_ble_eq_true rfl) ⟨Nat.zero_le _, Nat.zero_le _⟩ dX3_gapOfLeaf_50) rfl [2, 8] [0, 1, 3, 4, 5, 6, 7, 9, 10, 11, 12] [0, 1, 11, 2, 3, 4, 5, 6, 12, 7, 8, 9, 10] nd_BC2 di_BC2 (fun u50 => wB γ ad seen cnt pwc par amt held clos seW seS leW leS) rfl rfl (fun _ => rfl) (fun r50 u50 hv => ?_)
      refine g_istore (pc' := 55) (lv' := [(9, .int r50), (8, .int r36), (7, .int r22), (0, .ref (ad 0)), (1, .int x1), (2, .int x2), (3, .int x3), (4, .int x4), (5, .int x5), (6, .int x6)]) C dX3_gapOfLeaf_53 rfl (by decide) rfl ?_
      refine g_aload_n (pc' := 56) C dX3_gapOfLeaf_55 rfl rfl rfl ?_
      refine gf_X3_19 (pc' := 59) C dX3_gapOfLeaf_56 rfl 0 rfl rfl ?_
      refine g_iload_n (pc' := 60) C dX3_gapOfLeaf_59 rfl rfl rfl ?_
      refine g_iload_n (pc' := 61) C dX3_gapOfLeaf_60 rfl rfl rfl ?_
      refine g_iconst (pc' := 62) (v := (1 : Int32)) C dX3_gapOfLeaf_61 rfl (by decide) ?_
      refine g_iload (pc' := 64) C dX3_gapOfLeaf_62 rfl rfl ?_
      refine cfI (pc' := 67) C (run_VI (rest := []) C lk_X3_165 (mtX0_at hv) ⟨by decide, by decide⟩ rfl rfl rfl rfl (Nat.le_of_ble_eq_true rfl) ⟨Nat.zero_le _, Nat.zero_le _⟩ dX3_gapOfLeaf_64) rfl [2, 8] [0, 1, 3, 4, 5, 6, 7, 9, 10, 11, 12] [0, 1, 11, 2, 3, 4, 5, 6, 12, 7, 8, 9, 10] nd_BC2 di_BC2 (fun u64 => wB γ ad seen cnt pwc par amt held clos seW seS leW leS) rfl rfl (fun _ => rfl) (fun r64 u64 hv => ?_)
      refine g_istore (pc' := 69) (lv' := [(10, .int r64), (9, .int r50), (8, .int r36), (7, .int r22), (0, .ref (ad 0)), (1, .int x1), (2, .int x2), (3, .int x3), (4, .int x4), (5, .int x5), (6, .int x6)]) C dX3_gapOfLeaf_67 rfl (by decide) rfl ?_
      refine g_iload (pc' := 71) C dX3_gapOfLeaf_69 rfl rfl ?_
      refine g_iload (pc' := 73) C dX3_gapOfLeaf_71 rfl rfl ?_
      refine g_iload (pc' := 75) C dX3_gapOfLeaf_73 rfl rfl ?_
      refine g_iload (pc' := 77) C dX3_gapOfLeaf_75 rfl rfl ?_
      refine g_iload (pc' := 79) C dX3_gapOfLeaf_77 rfl rfl ?_
      refine g_iload (pc' := 81) C dX3_gapOfLeaf_79 rfl rfl ?_
      refine cnI (pc' := 84) C (run_SI (rest := [.int x5]) C lk_X3_168 (mtX3_gapPart hv) ⟨by decide, by decide⟩ rfl rfl (Nat.le_of_ble_eq_true rfl) ⟨Nat.zero_le _, Nat.zero_le _⟩ dX3_gapOfLeaf_81) rfl (fun r81 u81 hv => ?_)
      refine g_iadd (pc' := 85) C dX3_gapOfLeaf_84 rfl ?_
      refine g_istore (pc' := 87) (lv' := [(5, .int (x5 + r81)), (10, .int r64), (9, .int r50), (8, .int r36), (7, .int r22), (0, .ref (ad 0)), (1, .int x1), (2, .int x2), (3, .int x3), (4, .int x4), (6, .int x6)]) C dX3_gapOfLeaf_85 rfl (by decide) rfl ?_
      refine g_iinc (pc' := 90) (v := (x6 + (1 : Int32))) (lv' := [(6, .int (x6 + (1 : Int32))), (5, .int (x5 + r81)), (10, .int r64), (9, .int r50), (8, .int r36), (7, .int r22), (0, .ref (ad 0)), (1, .int x1), (2, .int x2), (3, .int x3), (4, .int x4)]) C dX3_gapOfLeaf_87 rfl rfl rfl (by decide) rfl ?_
      refine g_goto (tgt := 6) C dX3_gapOfLeaf_90 (by decide) ?_
      refine g_sub (lv' := [(0, .ref (ad 0)), (1, .int x1), (2, .int x2), (3, .int x3), (4, .int x4), (5, .int (x5 + r81)), (6, .int (x6 + (1 : Int32)))]) [6, 7, 8, 9, 10, 1, 0] rfl ?_
      exact ih _ _ hv
def vX3_gapOfLeaf (amt : Ar) (x1 : Int32) (x2 : Int32) (x3 : Int32) (x4 : Int32) (Q : Int32 → Prop) : Prop := (∃ n6 : Nat, vX3_gapOfLeaf_L6 amt x1 x2 x3 x4 Q n6 (0 : Int32) (0 : Int32))
set_option maxHeartbeats 4000000 in
set_option maxRecDepth 100000 in
theorem mtX3_gapOfLeaf {l : Launch} {γ : Gm} {ad : Nat → Nat} {seen : Int32} {cnt : Int32} {pwc : Int32} {par : Ar} {amt : Ar} {held : Ar} {clos : Ar} {seW : Ar} {seS : Ar} {leW : Ar} {leS : Ar} {x1 : Int32} {x2 : Int32} {x3 : Int32} {x4 : Int32} {Q : Int32 → Prop} (hv : vX3_gapOfLeaf amt x1 x2 x3 x4 Q) : CtI l γ yX3_gapOfLeaf cX3_gapOfLeaf 11 .int 2 47 0 0 [.ref (ad 0), .int x1, .int x2, .int x3, .int x4] (wB γ ad seen cnt pwc par amt held clos seW seS leW leS) (fun (r : Int32) (_ : Unit) => Q r) (fun _ => wB γ ad seen cnt pwc par amt held clos seW seS leW leS) := startI (by decide +kernel) (Nat.le_of_ble_eq_true rfl) (fun κ C RT hR hnm => by
  show G l γ κ (wB γ ad seen cnt pwc par amt held clos seW seS leW leS) [(0, .ref (ad 0)), (1, .int x1), (2, .int x2), (3, .int x3), (4, .int x4)] 0 0 [] 0
  refine g_iconst (pc' := 1) (v := (0 : Int32)) C dX3_gapOfLeaf_0 rfl (by decide) ?_
  refine g_istore (pc' := 3) (lv' := [(5, .int (0 : Int32)), (0, .ref (ad 0)), (1, .int x1), (2, .int x2), (3, .int x3), (4, .int x4)]) C dX3_gapOfLeaf_1 rfl (by decide) rfl ?_
  refine g_iconst (pc' := 4) (v := (0 : Int32)) C dX3_gapOfLeaf_3 rfl (by decide) ?_
  refine g_istore (pc' := 6) (lv' := [(6, .int (0 : Int32)), (5, .int (0 : Int32)), (0, .ref (ad 0)), (1, .int x1), (2, .int x2), (3, .int x3), (4, .int x4)]) C dX3_gapOfLeaf_4 rfl (by decide) rfl ?_
  refine g_sub (lv' := [(0, .ref (ad 0)), (1, .int x1), (2, .int x2), (3, .int x3), (4, .int x4), (5, .int (0 : Int32)), (6, .int (0 : Int32))]) [2, 3, 4, 5, 6, 1, 0] rfl ?_
  obtain ⟨n6, hv⟩ := hv
  exact wvX3_gapOfLeaf_L6 C RT  n6 _ _ hv)
def vX3_gap_L35 (cnt : Int32) (pwc : Int32) (par : Ar) (amt : Ar) (x1 : Int32) (x2 : Int32) (x4 : Int32) (x5 : Int32) (Q : Int32 → Prop) : Nat → Int32 → Int32 → Prop
  | 0, _, _ => False
  | n + 1, x6, x7 => (((10 : Int32) ≤ x7 → (Q x6)) ∧ (¬ (10 : Int32) ≤ x7 → (vX3_isIn x5 x7 (fun r46 => ((r46 = (0 : Int32) → (vX3_gap_L35 cnt pwc par amt x1 x2 x4 x5 Q n x6 (x7 + (1 : Int32)))) ∧ (¬ r46 = (0 : Int32) → (vX3_gapOfLeaf amt x1 x2 x7 x4 (fun r61 => (vX3_gap_L35 cnt pwc par amt x1 x2 x4 x5 Q n (x6 + r61) (x7 + (1 : Int32)))))))))))
set_option maxHeartbeats 4000000 in
set_option maxRecDepth 100000 in
theorem wvX3_gap_L35 {l : Launch} {γ : Gm} {κ : Kx} {ad : Nat → Nat} {seen : Int32} {cnt : Int32} {pwc : Int32} {par : Ar} {amt : Ar} {held : Ar} {clos : Ar} {seW : Ar} {seS : Ar} {leW : Ar} {leS : Ar} {x1 : Int32} {x2 : Int32} {x4 : Int32} {x5 : Int32} {Q : Int32 → Prop} (C : Ok γ κ cX3_gap 8 RX3 7 103) (RT : RtI l γ κ cX3_gap .int 0 0 (fun (r : Int32) (_ : Unit) => Q r) (fun _ => wB γ ad seen cnt pwc par amt held clos seW seS leW leS))  : ∀ (n : Nat) (x6 : Int32) (x7 : Int32), vX3_gap_L35 cnt pwc par amt x1 x2 x4 x5 Q n x6 x7 → G l γ κ (wB γ ad seen cnt pwc par amt held clos seW seS leW leS) [(0, .ref (ad 0)), (1, .int x1), (2, .int x2), (4, .int x4), (5, .int x5), (6, .int x6), (7, .int x7)] 0 0 [] 35 := by
  intro n
  induction n with
  | zero => intro x6 x7 hv; exact False.elim hv
  | succ n ih =>
    intro x6 x7 hv
    refine g_iload (pc' := 37) C dX3_gap_35 rfl rfl ?_
    refine g_bipush (pc' := 39) (v := (10 : Int32)) C dX3_gap_37 rfl (by decide) ?_
    obtain ⟨hv1, hv2⟩ := hv
    refine g_icmp_ge (pc' := 42) (tgt := 73) C dX3_gap_39 rfl (by decide) (fun c => ?_) (fun c => ?_)
    · have hv := hv1 c
      refine g_iload (pc' := 75) C dX3_gap_73 rfl rfl ?_
      exact RT x6 () _ _ _ _ dX3_gap_75 rfl (by decide) (by decide) hv
    · have hv := hv2 c
      refine g_iload (pc' := 44) C dX3_gap_42 rfl rfl ?_
      refine g_iload (pc' := 46) C dX3_gap_44 rfl rfl ?_
      refine cnI (pc' := 49) C (run_SI (rest := []) C lk_X3_102 (mtX3_isIn hv) ⟨by decide, by decide⟩ rfl rfl (Nat.le_of_ble_eq_true rfl) ⟨Nat.zero_le _, Nat.zero_le _⟩ dX3_gap_46) rfl (fun r46 u46 hv => ?_)
      obtain ⟨hv1, hv2⟩ := hv
      refine g_if_eq (pc' := 52) (tgt := 67) C dX3_gap_49 rfl (by decide) (fun c => ?_) (fun c => ?_)
      · have hv := hv1 c
        refine g_iinc (pc' := 70) (v := (x7 + (1 : Int32))) (lv' := [(7, .int (x7 + (1 : Int32))), (0, .ref (ad 0)), (1, .int x1), (2, .int x2), (4, .int x4), (5, .int x5), (6, .int x6)]) C dX3_gap_67 rfl rfl rfl (by decide) rfl ?_
        refine g_goto (tgt := 35) C dX3_gap_70 (by decide) ?_
        refine g_sub (lv' := [(0, .ref (ad 0)), (1, .int x1), (2, .int x2), (4, .int x4), (5, .int x5), (6, .int x6), (7, .int (x7 + (1 : Int32)))]) [1, 2, 3, 4, 5, 6, 0] rfl ?_
        exact ih _ _ hv
      · have hv := hv2 c
        refine g_iload (pc' := 54) C dX3_gap_52 rfl rfl ?_
        refine g_aload_n (pc' := 55) C dX3_gap_54 rfl rfl rfl ?_
        refine g_iload_n (pc' := 56) C dX3_gap_55 rfl rfl rfl ?_
        refine g_iload_n (pc' := 57) C dX3_gap_56 rfl rfl rfl ?_
        refine g_iload (pc' := 59) C dX3_gap_57 rfl rfl ?_
        refine g_iload (pc' := 61) C dX3_gap_59 rfl rfl ?_
        refine csI (pc' := 64) C (run_VI (rest := [.int x6]) C lk_X3_162 (mtX3_gapOfLeaf hv) ⟨by decide, by decide⟩ rfl rfl rfl rfl (Nat.le_of_ble_eq_true rfl) ⟨Nat.zero_le _, Nat.zero_le _⟩ dX3_gap_61) rfl (fun r61 u61 hv => ?_)
        refine g_iadd (pc' := 65) C dX3_gap_64 rfl ?_
        refine g_istore (pc' := 67) (lv' := [(6, .int (x6 + r61)), (0, .ref (ad 0)), (1, .int x1), (2, .int x2), (4, .int x4), (5, .int x5), (7, .int x7)]) C dX3_gap_65 rfl (by decide) rfl ?_
        refine g_iinc (pc' := 70) (v := (x7 + (1 : Int32))) (lv' := [(7, .int (x7 + (1 : Int32))), (6, .int (x6 + r61)), (0, .ref (ad 0)), (1, .int x1), (2, .int x2), (4, .int x4), (5, .int x5)]) C dX3_gap_67 rfl rfl rfl (by decide) rfl ?_
        refine g_goto (tgt := 35) C dX3_gap_70 (by decide) ?_
        refine g_sub (lv' := [(0, .ref (ad 0)), (1, .int x1), (2, .int x2), (4, .int x4), (5, .int x5), (6, .int (x6 + r61)), (7, .int (x7 + (1 : Int32)))]) [2, 3, 4, 5, 6, 1, 0] rfl ?_
        exact ih _ _ hv
def vX3_gap (cnt : Int32) (pwc : Int32) (par : Ar) (amt : Ar) (x1 : Int32) (x2 : Int32) (x3 : Int32) (x4 : Int32) (Q : Int32 → Prop) : Prop := (vX3_checkVersion x1 ((vX3_checkVersion x2 ((vX3_checkPlace cnt x3 ((vX3_checkUpTo x4 (3 : Int32) ((vX2_leavesBelow cnt pwc par x3 (fun r24 => (∃ n35 : Nat, vX3_gap_L35 cnt pwc par amt x1 x2 x4 r24 Q n35 (0 : Int32) (0 : Int32))))))))))))
set_option maxHeartbeats 4000000 in
set_option maxRecDepth 100000 in
theorem mtX3_gap {l : Launch} {γ : Gm} {ad : Nat → Nat} {seen : Int32} {cnt : Int32} {pwc : Int32} {par : Ar} {amt : Ar} {held : Ar} {clos : Ar} {seW : Ar} {seS : Ar} {leW : Ar} {leS : Ar} {x1 : Int32} {x2 : Int32} {x3 : Int32} {x4 : Int32} {Q : Int32 → Prop} (hv : vX3_gap cnt pwc par amt x1 x2 x3 x4 Q) : CtI l γ yX3_gap cX3_gap 8 .int 7 103 0 0 [.ref (ad 0), .int x1, .int x2, .int x3, .int x4] (wB γ ad seen cnt pwc par amt held clos seW seS leW leS) (fun (r : Int32) (_ : Unit) => Q r) (fun _ => wB γ ad seen cnt pwc par amt held clos seW seS leW leS) := startI (by decide +kernel) (Nat.le_of_ble_eq_true rfl) (fun κ C RT hR hnm => by
  show G l γ κ (wB γ ad seen cnt pwc par amt held clos seW seS leW leS) [(0, .ref (ad 0)), (1, .int x1), (2, .int x2), (3, .int x3), (4, .int x4)] 0 0 [] 0
  refine g_iload_n (pc' := 1) C dX3_gap_0 rfl rfl rfl ?_
  refine cnV (pc' := 4) C (run_SV (rest := []) C lk_X3_83 (mtX3_checkVersion hv) ⟨by decide, by decide⟩ rfl rfl (Nat.le_of_ble_eq_true rfl) ⟨Nat.zero_le _, Nat.zero_le _⟩ dX3_gap_1) rfl (fun u1 hv => ?_)
  refine g_iload_n (pc' := 5) C dX3_gap_4 rfl rfl rfl ?_
  refine cnV (pc' := 8) C (run_SV (rest := []) C lk_X3_83 (mtX3_checkVersion hv) ⟨by decide, by decide⟩ rfl rfl (Nat.le_of_ble_eq_true rfl) ⟨Nat.zero_le _, Nat.zero_le _⟩ dX3_gap_5) rfl (fun u5 hv => ?_)
  refine g_aload_n (pc' := 9) C dX3_gap_8 rfl rfl rfl ?_
  refine g_iload_n (pc' := 10) C dX3_gap_9 rfl rfl rfl ?_
  refine csV (pc' := 13) C (run_VV (rest := []) C lk_X3_48 (mtX3_checkPlace hv) ⟨by decide, by decide⟩ rfl rfl rfl rfl (Nat.le_of_ble_eq_true rfl) ⟨Nat.zero_le _, Nat.zero_le _⟩ dX3_gap_10) rfl (fun u10 hv => ?_)
  refine g_iload (pc' := 15) C dX3_gap_13 rfl rfl ?_
  refine g_iconst (pc' := 16) (v := (3 : Int32)) C dX3_gap_15 rfl (by decide) ?_
  refine cnV (pc' := 19) C (run_SV (rest := []) C lk_X3_95 (mtX3_checkUpTo hv) ⟨by decide, by decide⟩ rfl rfl (Nat.le_of_ble_eq_true rfl) ⟨Nat.zero_le _, Nat.zero_le _⟩ dX3_gap_16) rfl (fun u16 hv => ?_)
  refine g_aload_n (pc' := 20) C dX3_gap_19 rfl rfl rfl ?_
  refine gf_X3_12 (pc' := 23) C dX3_gap_20 rfl 0 rfl rfl ?_
  refine g_iload_n (pc' := 24) C dX3_gap_23 rfl rfl rfl ?_
  refine cfI (pc' := 27) C (run_VI (rest := []) C lk_X3_80 (mtX2_leavesBelow hv) ⟨by decide, by decide⟩ rfl rfl rfl rfl (Nat.le_of_ble_eq_true rfl) ⟨Nat.zero_le _, Nat.zero_le _⟩ dX3_gap_24) rfl [1, 7] [0, 2, 3, 4, 5, 6, 8, 9, 10, 11, 12] [0, 11, 1, 2, 3, 4, 5, 12, 6, 7, 8, 9, 10] nd_BT1 di_BT1 (fun u24 => wB γ ad seen cnt pwc par amt held clos seW seS leW leS) rfl rfl (fun _ => rfl) (fun r24 u24 hv => ?_)
  refine g_istore (pc' := 29) (lv' := [(5, .int r24), (0, .ref (ad 0)), (1, .int x1), (2, .int x2), (3, .int x3), (4, .int x4)]) C dX3_gap_27 rfl (by decide) rfl ?_
  refine g_iconst (pc' := 30) (v := (0 : Int32)) C dX3_gap_29 rfl (by decide) ?_
  refine g_istore (pc' := 32) (lv' := [(6, .int (0 : Int32)), (5, .int r24), (0, .ref (ad 0)), (1, .int x1), (2, .int x2), (3, .int x3), (4, .int x4)]) C dX3_gap_30 rfl (by decide) rfl ?_
  refine g_iconst (pc' := 33) (v := (0 : Int32)) C dX3_gap_32 rfl (by decide) ?_
  refine g_istore (pc' := 35) (lv' := [(7, .int (0 : Int32)), (6, .int (0 : Int32)), (5, .int r24), (0, .ref (ad 0)), (1, .int x1), (2, .int x2), (3, .int x3), (4, .int x4)]) C dX3_gap_33 rfl (by decide) rfl ?_
  refine g_sub (lv' := [(0, .ref (ad 0)), (1, .int x1), (2, .int x2), (4, .int x4), (5, .int r24), (6, .int (0 : Int32)), (7, .int (0 : Int32))]) [3, 4, 5, 7, 2, 1, 0] rfl ?_
  obtain ⟨n35, hv⟩ := hv
  exact wvX3_gap_L35 C RT  n35 _ _ hv)
def zX3_gap (cnt : Int32) (pwc : Int32) (par : Ar) (amt : Ar) (x1 : Int32) (x2 : Int32) (x3 : Int32) (x4 : Int32) (X : String → Prop) : Prop := ((zX3_checkVersion x1 (fun E => X E)) ∨ (vX3_checkVersion x1 (((zX3_checkVersion x2 (fun E => X E)) ∨ (vX3_checkVersion x2 (((zX3_checkPlace cnt x3 (fun E => X E)) ∨ (vX3_checkPlace cnt x3 ((zX3_checkUpTo x4 (3 : Int32) (fun E => X E)))))))))))
set_option maxHeartbeats 4000000 in
set_option maxRecDepth 100000 in
theorem mtzX3_gap {l : Launch} (hfl : l.stackTraces = false) {γ : Gm} {ad : Nat → Nat} {seen : Int32} {cnt : Int32} {pwc : Int32} {par : Ar} {amt : Ar} {held : Ar} {clos : Ar} {seW : Ar} {seS : Ar} {leW : Ar} {leS : Ar} {x1 : Int32} {x2 : Int32} {x3 : Int32} {x4 : Int32} {X : String → Prop} (hv : zX3_gap cnt pwc par amt x1 x2 x3 x4 X) : CtX l γ yX3_gap cX3_gap 8 (some .int) 7 103 [.ref (ad 0), .int x1, .int x2, .int x3, .int x4] (wB γ ad seen cnt pwc par amt held clos seW seS leW leS) (fun (E : String) (_ : Unit) => X E) (fun _ => wB γ ad seen cnt pwc par amt held clos seW seS leW leS) := startX (by decide +kernel) (Nat.le_of_ble_eq_true rfl) (fun κ C hX => by
  show G l γ κ (wB γ ad seen cnt pwc par amt held clos seW seS leW leS) [(0, .ref (ad 0)), (1, .int x1), (2, .int x2), (3, .int x3), (4, .int x4)] 0 0 [] 0
  refine g_iload_n (pc' := 1) C dX3_gap_0 rfl rfl rfl ?_
  rcases hv with hv | hv
  · exact noneX C hX (run_SX (rest := []) C lk_X3_83 (mtzX3_checkVersion hfl hv) ⟨by decide, by decide⟩ rfl rfl (Nat.le_of_ble_eq_true rfl) ⟨hX.2.2.1, hX.2.2.2⟩ dX3_gap_1) (fun E u1 hx => ⟨(), hx, rfl⟩)
  · refine cnV (pc' := 4) C (run_SV (rest := []) C lk_X3_83 (mtX3_checkVersion hv) ⟨by decide, by decide⟩ rfl rfl (Nat.le_of_ble_eq_true rfl) ⟨Nat.zero_le _, Nat.zero_le _⟩ dX3_gap_1) rfl (fun u1 hv => ?_)
    refine g_iload_n (pc' := 5) C dX3_gap_4 rfl rfl rfl ?_
    rcases hv with hv | hv
    · exact noneX C hX (run_SX (rest := []) C lk_X3_83 (mtzX3_checkVersion hfl hv) ⟨by decide, by decide⟩ rfl rfl (Nat.le_of_ble_eq_true rfl) ⟨hX.2.2.1, hX.2.2.2⟩ dX3_gap_5) (fun E u5 hx => ⟨(), hx, rfl⟩)
    · refine cnV (pc' := 8) C (run_SV (rest := []) C lk_X3_83 (mtX3_checkVersion hv) ⟨by decide, by decide⟩ rfl rfl (Nat.le_of_ble_eq_true rfl) ⟨Nat.zero_le _, Nat.zero_le _⟩ dX3_gap_5) rfl (fun u5 hv => ?_)
      refine g_aload_n (pc' := 9) C dX3_gap_8 rfl rfl rfl ?_
      refine g_iload_n (pc' := 10) C dX3_gap_9 rfl rfl rfl ?_
      rcases hv with hv | hv
      · exact sameX C hX (run_VX (rest := []) C lk_X3_48 (mtzX3_checkPlace hfl hv) ⟨by decide, by decide⟩ rfl rfl rfl rfl (Nat.le_of_ble_eq_true rfl) ⟨hX.2.2.1, hX.2.2.2⟩ dX3_gap_10) (fun E u10 hx => ⟨(), hx, rfl⟩)
      · refine csV (pc' := 13) C (run_VV (rest := []) C lk_X3_48 (mtX3_checkPlace hv) ⟨by decide, by decide⟩ rfl rfl rfl rfl (Nat.le_of_ble_eq_true rfl) ⟨Nat.zero_le _, Nat.zero_le _⟩ dX3_gap_10) rfl (fun u10 hv => ?_)
        refine g_iload (pc' := 15) C dX3_gap_13 rfl rfl ?_
        refine g_iconst (pc' := 16) (v := (3 : Int32)) C dX3_gap_15 rfl (by decide) ?_
        exact noneX C hX (run_SX (rest := []) C lk_X3_95 (mtzX3_checkUpTo hfl hv) ⟨by decide, by decide⟩ rfl rfl (Nat.le_of_ble_eq_true rfl) ⟨hX.2.2.1, hX.2.2.2⟩ dX3_gap_16) (fun E u16 hx => ⟨(), hx, rfl⟩))
