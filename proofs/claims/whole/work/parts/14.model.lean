/-! formulas and walks, by program -/
def vX4_thrown (thr : Int32) (Q : Int32 → Prop) : Prop := (Q thr)
set_option maxHeartbeats 4000000 in
set_option maxRecDepth 100000 in
theorem mtX4_thrown {l : Launch} {γ : Gm} {bd : Nat → Nat} {pl : Int32} {msn : Int32} {thr : Int32} {mpar : Ar} {mcel : Ar} {mhel : Ar} {mclo : Ar} {msea : Ar} {mwei : Ar} {msha : Ar} {mmon : Ar} {Q : Int32 → Prop} (hv : vX4_thrown thr Q) : CtI l γ yX4_thrown cX4_thrown 1 .int 0 0 0 0 [.ref (bd 0)] (wN γ bd pl msn thr mpar mcel mhel mclo msea mwei msha mmon) (fun (r : Int32) (_ : Unit) => Q r) (fun _ => wN γ bd pl msn thr mpar mcel mhel mclo msea mwei msha mmon) := startI (by decide +kernel) (Nat.le_of_ble_eq_true rfl) (fun κ C RT hR hnm => by
  show G l γ κ (wN γ bd pl msn thr mpar mcel mhel mclo msea mwei msha mmon) [(0, .ref (bd 0))] 0 0 [] 0
  refine g_aload_n (pc' := 1) C dX4_thrown_0 rfl rfl rfl ?_
  refine gf_X4_38 (pc' := 4) C dX4_thrown_1 rfl 0 rfl rfl ?_
  exact RT thr () _ _ _ _ dX4_thrown_4 rfl (by decide) (by decide) hv)
def vX4_fails (thr : Int32) (x1 : Int32) (Q : Int32 → (Int32) → Prop) : Prop := (Q (0 : Int32) x1)
set_option maxHeartbeats 4000000 in
set_option maxRecDepth 100000 in
theorem mtX4_fails {l : Launch} {γ : Gm} {bd : Nat → Nat} {pl : Int32} {msn : Int32} {thr : Int32} {mpar : Ar} {mcel : Ar} {mhel : Ar} {mclo : Ar} {msea : Ar} {mwei : Ar} {msha : Ar} {mmon : Ar} {x1 : Int32} {Q : Int32 → (Int32) → Prop} (hv : vX4_fails thr x1 Q) : CtI l γ yX4_fails cX4_fails 2 .int 0 0 0 0 [.ref (bd 0), .int x1] (wN γ bd pl msn thr mpar mcel mhel mclo msea mwei msha mmon) (fun (r : Int32) (u : Int32) => Q r u) (fun u => wN γ bd pl msn u mpar mcel mhel mclo msea mwei msha mmon) := startI (by decide +kernel) (Nat.le_of_ble_eq_true rfl) (fun κ C RT hR hnm => by
  show G l γ κ (wN γ bd pl msn thr mpar mcel mhel mclo msea mwei msha mmon) [(0, .ref (bd 0)), (1, .int x1)] 0 0 [] 0
  refine g_aload_n (pc' := 1) C dX4_fails_0 rfl rfl rfl ?_
  refine g_iload_n (pc' := 2) C dX4_fails_1 rfl rfl rfl ?_
  refine pf_X4_38 (pc' := 5) (ws' := wN γ bd pl msn x1 mpar mcel mhel mclo msea mwei msha mmon) C dX4_fails_2 rfl 0 rfl rfl rfl (Nat.le_of_ble_eq_true rfl) rfl ?_
  refine g_iconst (pc' := 6) (v := (0 : Int32)) C dX4_fails_5 rfl (by decide) ?_
  exact RT (0 : Int32) x1 _ _ _ _ dX4_fails_6 rfl (by decide) (by decide) hv)
def vX4_isPlace (pl : Int32) (x1 : Int32) (Q : Int32 → Prop) : Prop := (vX4_in x1 (0 : Int32) (pl - (1 : Int32)) (fun r8 => (narrow .boolean (.int r8) = .int r8 ∧ (Q r8))))
set_option maxHeartbeats 4000000 in
set_option maxRecDepth 100000 in
theorem mtX4_isPlace {l : Launch} {γ : Gm} {bd : Nat → Nat} {pl : Int32} {msn : Int32} {thr : Int32} {mpar : Ar} {mcel : Ar} {mhel : Ar} {mclo : Ar} {msea : Ar} {mwei : Ar} {msha : Ar} {mmon : Ar} {x1 : Int32} {Q : Int32 → Prop} (hv : vX4_isPlace pl x1 Q) : CtI l γ yX4_isPlace cX4_isPlace 2 .boolean 1 22 0 0 [.ref (bd 0), .int x1] (wN γ bd pl msn thr mpar mcel mhel mclo msea mwei msha mmon) (fun (r : Int32) (_ : Unit) => Q r) (fun _ => wN γ bd pl msn thr mpar mcel mhel mclo msea mwei msha mmon) := startI (by decide +kernel) (Nat.le_of_ble_eq_true rfl) (fun κ C RT hR hnm => by
  show G l γ κ (wN γ bd pl msn thr mpar mcel mhel mclo msea mwei msha mmon) [(0, .ref (bd 0)), (1, .int x1)] 0 0 [] 0
  refine g_iload_n (pc' := 1) C dX4_isPlace_0 rfl rfl rfl ?_
  refine g_iconst (pc' := 2) (v := (0 : Int32)) C dX4_isPlace_1 rfl (by decide) ?_
  refine g_aload_n (pc' := 3) C dX4_isPlace_2 rfl rfl rfl ?_
  refine gf_X4_7 (pc' := 6) C dX4_isPlace_3 rfl 0 rfl rfl ?_
  refine g_iconst (pc' := 7) (v := (1 : Int32)) C dX4_isPlace_6 rfl (by decide) ?_
  refine g_isub (pc' := 8) C dX4_isPlace_7 rfl ?_
  refine cnI (pc' := 11) C (run_SI (rest := []) C lk_X4_41 (mtX4_in hv) ⟨by decide, by decide⟩ rfl rfl (Nat.le_of_ble_eq_true rfl) ⟨Nat.zero_le _, Nat.zero_le _⟩ dX4_isPlace_8) rfl (fun r8 u8 hv => ?_)
  obtain ⟨hn, hv⟩ := hv
  exact RT r8 () _ _ _ _ dX4_isPlace_11 hn (by decide) (by decide) hv)
def vX4_isLeaf_L4 (pl : Int32) (mpar : Ar) (x1 : Int32) (Q : Int32 → Prop) : Nat → Int32 → Int32 → Prop
  | 0, _, _ => False
  | n + 1, x2, x3 => ((pl ≤ x3 → (narrow .boolean (.int x2) = .int x2 ∧ (Q x2))) ∧ (¬ pl ≤ x3 → ((x2 = (0 : Int32) → (vX4_isLeaf_L4 pl mpar x1 Q n (0 : Int32) (x3 + (1 : Int32)))) ∧ (¬ x2 = (0 : Int32) → (vp_in x3 10 ∧ (((mpar x3.toNatClampNeg) = x1 → (vX4_isLeaf_L4 pl mpar x1 Q n (0 : Int32) (x3 + (1 : Int32)))) ∧ (¬ (mpar x3.toNatClampNeg) = x1 → (vX4_isLeaf_L4 pl mpar x1 Q n (1 : Int32) (x3 + (1 : Int32))))))))))
set_option maxHeartbeats 4000000 in
set_option maxRecDepth 100000 in
theorem wvX4_isLeaf_L4 {l : Launch} {γ : Gm} {κ : Kx} {bd : Nat → Nat} {pl : Int32} {msn : Int32} {thr : Int32} {mpar : Ar} {mcel : Ar} {mhel : Ar} {mclo : Ar} {msea : Ar} {mwei : Ar} {msha : Ar} {mmon : Ar} {x1 : Int32} {Q : Int32 → Prop} (C : Ok γ κ cX4_isLeaf 4 RX4 0 0) (RT : RtI l γ κ cX4_isLeaf .boolean 0 0 (fun (r : Int32) (_ : Unit) => Q r) (fun _ => wN γ bd pl msn thr mpar mcel mhel mclo msea mwei msha mmon))  : ∀ (n : Nat) (x2 : Int32) (x3 : Int32), vX4_isLeaf_L4 pl mpar x1 Q n x2 x3 → G l γ κ (wN γ bd pl msn thr mpar mcel mhel mclo msea mwei msha mmon) [(0, .ref (bd 0)), (1, .int x1), (2, .int x2), (3, .int x3)] 0 0 [] 4 := by
  intro n
  induction n with
  | zero => intro x2 x3 hv; exact False.elim hv
  | succ n ih =>
    intro x2 x3 hv
    refine g_iload_n (pc' := 5) C dX4_isLeaf_4 rfl rfl rfl ?_
    refine g_aload_n (pc' := 6) C dX4_isLeaf_5 rfl rfl rfl ?_
    refine gf_X4_7 (pc' := 9) C dX4_isLeaf_6 rfl 0 rfl rfl ?_
    obtain ⟨hv1, hv2⟩ := hv
    refine g_icmp_ge (pc' := 12) (tgt := 38) C dX4_isLeaf_9 rfl (by decide) (fun c => ?_) (fun c => ?_)
    · have hv := hv1 c
      refine g_iload_n (pc' := 39) C dX4_isLeaf_38 rfl rfl rfl ?_
      obtain ⟨hn, hv⟩ := hv
      exact RT x2 () _ _ _ _ dX4_isLeaf_39 hn (by decide) (by decide) hv
    · have hv := hv2 c
      refine g_iload_n (pc' := 13) C dX4_isLeaf_12 rfl rfl rfl ?_
      obtain ⟨hv1, hv2⟩ := hv
      refine g_if_eq (pc' := 16) (tgt := 30) C dX4_isLeaf_13 rfl (by decide) (fun c => ?_) (fun c => ?_)
      · have hv := hv1 c
        refine g_iconst (pc' := 31) (v := (0 : Int32)) C dX4_isLeaf_30 rfl (by decide) ?_
        refine g_istore_n (pc' := 32) (lv' := [(2, .int (0 : Int32)), (0, .ref (bd 0)), (1, .int x1), (3, .int x3)]) C dX4_isLeaf_31 rfl rfl (by decide) rfl ?_
        refine g_iinc (pc' := 35) (v := (x3 + (1 : Int32))) (lv' := [(3, .int (x3 + (1 : Int32))), (2, .int (0 : Int32)), (0, .ref (bd 0)), (1, .int x1)]) C dX4_isLeaf_32 rfl rfl rfl (by decide) rfl ?_
        refine g_goto (tgt := 4) C dX4_isLeaf_35 (by decide) ?_
        refine g_sub (lv' := [(0, .ref (bd 0)), (1, .int x1), (2, .int (0 : Int32)), (3, .int (x3 + (1 : Int32)))]) [2, 3, 1, 0] rfl ?_
        exact ih _ _ hv
      · have hv := hv2 c
        refine g_aload_n (pc' := 17) C dX4_isLeaf_16 rfl rfl rfl ?_
        refine gf_X4_13 (pc' := 20) C dX4_isLeaf_17 rfl 0 rfl rfl ?_
        refine g_iload_n (pc' := 21) C dX4_isLeaf_20 rfl rfl rfl ?_
        obtain ⟨hi, hv⟩ := hv
        refine g_iald (pc' := 22) C dX4_isLeaf_21 rfl 1 rfl hi ?_
        refine g_iload_n (pc' := 23) C dX4_isLeaf_22 rfl rfl rfl ?_
        obtain ⟨hv1, hv2⟩ := hv
        refine g_icmp_eq (pc' := 26) (tgt := 30) C dX4_isLeaf_23 rfl (by decide) (fun c => ?_) (fun c => ?_)
        · have hv := hv1 c
          refine g_iconst (pc' := 31) (v := (0 : Int32)) C dX4_isLeaf_30 rfl (by decide) ?_
          refine g_istore_n (pc' := 32) (lv' := [(2, .int (0 : Int32)), (0, .ref (bd 0)), (1, .int x1), (3, .int x3)]) C dX4_isLeaf_31 rfl rfl (by decide) rfl ?_
          refine g_iinc (pc' := 35) (v := (x3 + (1 : Int32))) (lv' := [(3, .int (x3 + (1 : Int32))), (2, .int (0 : Int32)), (0, .ref (bd 0)), (1, .int x1)]) C dX4_isLeaf_32 rfl rfl rfl (by decide) rfl ?_
          refine g_goto (tgt := 4) C dX4_isLeaf_35 (by decide) ?_
          refine g_sub (lv' := [(0, .ref (bd 0)), (1, .int x1), (2, .int (0 : Int32)), (3, .int (x3 + (1 : Int32)))]) [2, 3, 1, 0] rfl ?_
          exact ih _ _ hv
        · have hv := hv2 c
          refine g_iconst (pc' := 27) (v := (1 : Int32)) C dX4_isLeaf_26 rfl (by decide) ?_
          refine g_goto (tgt := 31) C dX4_isLeaf_27 (by decide) ?_
          refine g_istore_n (pc' := 32) (lv' := [(2, .int (1 : Int32)), (0, .ref (bd 0)), (1, .int x1), (3, .int x3)]) C dX4_isLeaf_31 rfl rfl (by decide) rfl ?_
          refine g_iinc (pc' := 35) (v := (x3 + (1 : Int32))) (lv' := [(3, .int (x3 + (1 : Int32))), (2, .int (1 : Int32)), (0, .ref (bd 0)), (1, .int x1)]) C dX4_isLeaf_32 rfl rfl rfl (by decide) rfl ?_
          refine g_goto (tgt := 4) C dX4_isLeaf_35 (by decide) ?_
          refine g_sub (lv' := [(0, .ref (bd 0)), (1, .int x1), (2, .int (1 : Int32)), (3, .int (x3 + (1 : Int32)))]) [2, 3, 1, 0] rfl ?_
          exact ih _ _ hv
def vX4_isLeaf (pl : Int32) (mpar : Ar) (x1 : Int32) (Q : Int32 → Prop) : Prop := (∃ n4 : Nat, vX4_isLeaf_L4 pl mpar x1 Q n4 (1 : Int32) (0 : Int32))
set_option maxHeartbeats 4000000 in
set_option maxRecDepth 100000 in
theorem mtX4_isLeaf {l : Launch} {γ : Gm} {bd : Nat → Nat} {pl : Int32} {msn : Int32} {thr : Int32} {mpar : Ar} {mcel : Ar} {mhel : Ar} {mclo : Ar} {msea : Ar} {mwei : Ar} {msha : Ar} {mmon : Ar} {x1 : Int32} {Q : Int32 → Prop} (hv : vX4_isLeaf pl mpar x1 Q) : CtI l γ yX4_isLeaf cX4_isLeaf 4 .boolean 0 0 0 0 [.ref (bd 0), .int x1] (wN γ bd pl msn thr mpar mcel mhel mclo msea mwei msha mmon) (fun (r : Int32) (_ : Unit) => Q r) (fun _ => wN γ bd pl msn thr mpar mcel mhel mclo msea mwei msha mmon) := startI (by decide +kernel) (Nat.le_of_ble_eq_true rfl) (fun κ C RT hR hnm => by
  show G l γ κ (wN γ bd pl msn thr mpar mcel mhel mclo msea mwei msha mmon) [(0, .ref (bd 0)), (1, .int x1)] 0 0 [] 0
  refine g_iconst (pc' := 1) (v := (1 : Int32)) C dX4_isLeaf_0 rfl (by decide) ?_
  refine g_istore_n (pc' := 2) (lv' := [(2, .int (1 : Int32)), (0, .ref (bd 0)), (1, .int x1)]) C dX4_isLeaf_1 rfl rfl (by decide) rfl ?_
  refine g_iconst (pc' := 3) (v := (0 : Int32)) C dX4_isLeaf_2 rfl (by decide) ?_
  refine g_istore_n (pc' := 4) (lv' := [(3, .int (0 : Int32)), (2, .int (1 : Int32)), (0, .ref (bd 0)), (1, .int x1)]) C dX4_isLeaf_3 rfl rfl (by decide) rfl ?_
  refine g_sub (lv' := [(0, .ref (bd 0)), (1, .int x1), (2, .int (1 : Int32)), (3, .int (0 : Int32))]) [2, 3, 1, 0] rfl ?_
  obtain ⟨n4, hv⟩ := hv
  exact wvX4_isLeaf_L4 C RT  n4 _ _ hv)
def vX4_isBelow_J22 (mpar : Ar) (x2 : Int32) (x3 : Int32) (Q : Int32 → Prop) : Prop := ((¬ x3 = x2 → (Q (0 : Int32))) ∧ (x3 = x2 → (Q (1 : Int32))))
set_option maxHeartbeats 4000000 in
set_option maxRecDepth 100000 in
theorem wvX4_isBelow_J22 {l : Launch} {γ : Gm} {κ : Kx} {bd : Nat → Nat} {pl : Int32} {msn : Int32} {thr : Int32} {mpar : Ar} {mcel : Ar} {mhel : Ar} {mclo : Ar} {msea : Ar} {mwei : Ar} {msha : Ar} {mmon : Ar} {x2 : Int32} {x3 : Int32} {Q : Int32 → Prop} (C : Ok γ κ cX4_isBelow 4 RX4 0 0) (RT : RtI l γ κ cX4_isBelow .boolean 0 0 (fun (r : Int32) (_ : Unit) => Q r) (fun _ => wN γ bd pl msn thr mpar mcel mhel mclo msea mwei msha mmon))  (hv : vX4_isBelow_J22 mpar x2 x3 Q) : G l γ κ (wN γ bd pl msn thr mpar mcel mhel mclo msea mwei msha mmon) [(2, .int x2), (3, .int x3)] 0 0 [] 22 := by
  refine g_iload_n (pc' := 23) C dX4_isBelow_22 rfl rfl rfl ?_
  refine g_iload_n (pc' := 24) C dX4_isBelow_23 rfl rfl rfl ?_
  obtain ⟨hv1, hv2⟩ := hv
  refine g_icmp_ne (pc' := 27) (tgt := 31) C dX4_isBelow_24 rfl (by decide) (fun c => ?_) (fun c => ?_)
  · have hv := hv1 c
    refine g_iconst (pc' := 32) (v := (0 : Int32)) C dX4_isBelow_31 rfl (by decide) ?_
    exact RT (0 : Int32) () _ _ _ _ dX4_isBelow_32 rfl (by decide) (by decide) hv
  · have hv := hv2 c
    refine g_iconst (pc' := 28) (v := (1 : Int32)) C dX4_isBelow_27 rfl (by decide) ?_
    refine g_goto (tgt := 32) C dX4_isBelow_28 (by decide) ?_
    exact RT (1 : Int32) () _ _ _ _ dX4_isBelow_32 rfl (by decide) (by decide) hv
def vX4_isBelow_L2 (mpar : Ar) (x2 : Int32) (Q : Int32 → Prop) : Nat → Int32 → Prop
  | 0, _ => False
  | n + 1, x3 => ((x3 = x2 → (vX4_isBelow_J22 mpar x2 x3 Q)) ∧ (¬ x3 = x2 → ((x3 = (-1 : Int32) → (vX4_isBelow_J22 mpar x2 x3 Q)) ∧ (¬ x3 = (-1 : Int32) → (vp_in x3 10 ∧ (vX4_isBelow_L2 mpar x2 Q n (mpar x3.toNatClampNeg)))))))
set_option maxHeartbeats 4000000 in
set_option maxRecDepth 100000 in
theorem wvX4_isBelow_L2 {l : Launch} {γ : Gm} {κ : Kx} {bd : Nat → Nat} {pl : Int32} {msn : Int32} {thr : Int32} {mpar : Ar} {mcel : Ar} {mhel : Ar} {mclo : Ar} {msea : Ar} {mwei : Ar} {msha : Ar} {mmon : Ar} {x2 : Int32} {Q : Int32 → Prop} (C : Ok γ κ cX4_isBelow 4 RX4 0 0) (RT : RtI l γ κ cX4_isBelow .boolean 0 0 (fun (r : Int32) (_ : Unit) => Q r) (fun _ => wN γ bd pl msn thr mpar mcel mhel mclo msea mwei msha mmon))  : ∀ (n : Nat) (x3 : Int32), vX4_isBelow_L2 mpar x2 Q n x3 → G l γ κ (wN γ bd pl msn thr mpar mcel mhel mclo msea mwei msha mmon) [(0, .ref (bd 0)), (2, .int x2), (3, .int x3)] 0 0 [] 2 := by
  intro n
  induction n with
  | zero => intro x3 hv; exact False.elim hv
  | succ n ih =>
    intro x3 hv
    refine g_iload_n (pc' := 3) C dX4_isBelow_2 rfl rfl rfl ?_
    refine g_iload_n (pc' := 4) C dX4_isBelow_3 rfl rfl rfl ?_
    obtain ⟨hv1, hv2⟩ := hv
    refine g_icmp_eq (pc' := 7) (tgt := 22) C dX4_isBelow_4 rfl (by decide) (fun c => ?_) (fun c => ?_)
    · have hv := hv1 c
      refine g_sub (lv' := [(2, .int x2), (3, .int x3)]) [1, 2] rfl ?_
      exact wvX4_isBelow_J22 C RT  hv
    · have hv := hv2 c
      refine g_iload_n (pc' := 8) C dX4_isBelow_7 rfl rfl rfl ?_
      refine g_iconst (pc' := 9) (v := (-1 : Int32)) C dX4_isBelow_8 rfl (by decide) ?_
      obtain ⟨hv1, hv2⟩ := hv
      refine g_icmp_eq (pc' := 12) (tgt := 22) C dX4_isBelow_9 rfl (by decide) (fun c => ?_) (fun c => ?_)
      · have hv := hv1 c
        refine g_sub (lv' := [(2, .int x2), (3, .int x3)]) [1, 2] rfl ?_
        exact wvX4_isBelow_J22 C RT  hv
      · have hv := hv2 c
        refine g_aload_n (pc' := 13) C dX4_isBelow_12 rfl rfl rfl ?_
        refine gf_X4_13 (pc' := 16) C dX4_isBelow_13 rfl 0 rfl rfl ?_
        refine g_iload_n (pc' := 17) C dX4_isBelow_16 rfl rfl rfl ?_
        obtain ⟨hi, hv⟩ := hv
        refine g_iald (pc' := 18) C dX4_isBelow_17 rfl 1 rfl hi ?_
        refine g_istore_n (pc' := 19) (lv' := [(3, .int (mpar x3.toNatClampNeg)), (0, .ref (bd 0)), (2, .int x2)]) C dX4_isBelow_18 rfl rfl (by decide) rfl ?_
        refine g_goto (tgt := 2) C dX4_isBelow_19 (by decide) ?_
        refine g_sub (lv' := [(0, .ref (bd 0)), (2, .int x2), (3, .int (mpar x3.toNatClampNeg))]) [1, 2, 0] rfl ?_
        exact ih _ hv
def vX4_isBelow (mpar : Ar) (x1 : Int32) (x2 : Int32) (Q : Int32 → Prop) : Prop := (∃ n2 : Nat, vX4_isBelow_L2 mpar x2 Q n2 x1)
set_option maxHeartbeats 4000000 in
set_option maxRecDepth 100000 in
theorem mtX4_isBelow {l : Launch} {γ : Gm} {bd : Nat → Nat} {pl : Int32} {msn : Int32} {thr : Int32} {mpar : Ar} {mcel : Ar} {mhel : Ar} {mclo : Ar} {msea : Ar} {mwei : Ar} {msha : Ar} {mmon : Ar} {x1 : Int32} {x2 : Int32} {Q : Int32 → Prop} (hv : vX4_isBelow mpar x1 x2 Q) : CtI l γ yX4_isBelow cX4_isBelow 4 .boolean 0 0 0 0 [.ref (bd 0), .int x1, .int x2] (wN γ bd pl msn thr mpar mcel mhel mclo msea mwei msha mmon) (fun (r : Int32) (_ : Unit) => Q r) (fun _ => wN γ bd pl msn thr mpar mcel mhel mclo msea mwei msha mmon) := startI (by decide +kernel) (Nat.le_of_ble_eq_true rfl) (fun κ C RT hR hnm => by
  show G l γ κ (wN γ bd pl msn thr mpar mcel mhel mclo msea mwei msha mmon) [(0, .ref (bd 0)), (1, .int x1), (2, .int x2)] 0 0 [] 0
  refine g_iload_n (pc' := 1) C dX4_isBelow_0 rfl rfl rfl ?_
  refine g_istore_n (pc' := 2) (lv' := [(3, .int x1), (0, .ref (bd 0)), (1, .int x1), (2, .int x2)]) C dX4_isBelow_1 rfl rfl (by decide) rfl ?_
  refine g_sub (lv' := [(0, .ref (bd 0)), (2, .int x2), (3, .int x1)]) [1, 3, 0] rfl ?_
  obtain ⟨n2, hv⟩ := hv
  exact wvX4_isBelow_L2 C RT  n2 _ hv)
def vX4_isLeafOf (pl : Int32) (mpar : Ar) (x1 : Int32) (x2 : Int32) (Q : Int32 → Prop) : Prop := (vX4_isLeaf pl mpar x1 (fun r2 => ((r2 = (0 : Int32) → (Q (0 : Int32))) ∧ (¬ r2 = (0 : Int32) → (vX4_isBelow mpar x1 x2 (fun r11 => ((r11 = (0 : Int32) → (Q (0 : Int32))) ∧ (¬ r11 = (0 : Int32) → (Q (1 : Int32))))))))))
set_option maxHeartbeats 4000000 in
set_option maxRecDepth 100000 in
theorem mtX4_isLeafOf {l : Launch} {γ : Gm} {bd : Nat → Nat} {pl : Int32} {msn : Int32} {thr : Int32} {mpar : Ar} {mcel : Ar} {mhel : Ar} {mclo : Ar} {msea : Ar} {mwei : Ar} {msha : Ar} {mmon : Ar} {x1 : Int32} {x2 : Int32} {Q : Int32 → Prop} (hv : vX4_isLeafOf pl mpar x1 x2 Q) : CtI l γ yX4_isLeafOf cX4_isLeafOf 3 .boolean 1 23 0 0 [.ref (bd 0), .int x1, .int x2] (wN γ bd pl msn thr mpar mcel mhel mclo msea mwei msha mmon) (fun (r : Int32) (_ : Unit) => Q r) (fun _ => wN γ bd pl msn thr mpar mcel mhel mclo msea mwei msha mmon) := startI (by decide +kernel) (Nat.le_of_ble_eq_true rfl) (fun κ C RT hR hnm => by
  show G l γ κ (wN γ bd pl msn thr mpar mcel mhel mclo msea mwei msha mmon) [(0, .ref (bd 0)), (1, .int x1), (2, .int x2)] 0 0 [] 0
  refine g_aload_n (pc' := 1) C dX4_isLeafOf_0 rfl rfl rfl ?_
  refine g_iload_n (pc' := 2) C dX4_isLeafOf_1 rfl rfl rfl ?_
  refine csI (pc' := 5) C (run_VI (rest := []) C lk_X4_45 (mtX4_isLeaf hv) ⟨by decide, by decide⟩ rfl rfl rfl rfl (Nat.le_of_ble_eq_true rfl) ⟨Nat.zero_le _, Nat.zero_le _⟩ dX4_isLeafOf_2) rfl (fun r2 u2 hv => ?_)
  obtain ⟨hv1, hv2⟩ := hv
  refine g_if_eq (pc' := 8) (tgt := 21) C dX4_isLeafOf_5 rfl (by decide) (fun c => ?_) (fun c => ?_)
  · have hv := hv1 c
    refine g_iconst (pc' := 22) (v := (0 : Int32)) C dX4_isLeafOf_21 rfl (by decide) ?_
    exact RT (0 : Int32) () _ _ _ _ dX4_isLeafOf_22 rfl (by decide) (by decide) hv
  · have hv := hv2 c
    refine g_aload_n (pc' := 9) C dX4_isLeafOf_8 rfl rfl rfl ?_
    refine g_iload_n (pc' := 10) C dX4_isLeafOf_9 rfl rfl rfl ?_
    refine g_iload_n (pc' := 11) C dX4_isLeafOf_10 rfl rfl rfl ?_
    refine csI (pc' := 14) C (run_VI (rest := []) C lk_X4_49 (mtX4_isBelow hv) ⟨by decide, by decide⟩ rfl rfl rfl rfl (Nat.le_of_ble_eq_true rfl) ⟨Nat.zero_le _, Nat.zero_le _⟩ dX4_isLeafOf_11) rfl (fun r11 u11 hv => ?_)
    obtain ⟨hv1, hv2⟩ := hv
    refine g_if_eq (pc' := 17) (tgt := 21) C dX4_isLeafOf_14 rfl (by decide) (fun c => ?_) (fun c => ?_)
    · have hv := hv1 c
      refine g_iconst (pc' := 22) (v := (0 : Int32)) C dX4_isLeafOf_21 rfl (by decide) ?_
      exact RT (0 : Int32) () _ _ _ _ dX4_isLeafOf_22 rfl (by decide) (by decide) hv
    · have hv := hv2 c
      refine g_iconst (pc' := 18) (v := (1 : Int32)) C dX4_isLeafOf_17 rfl (by decide) ?_
      refine g_goto (tgt := 22) C dX4_isLeafOf_18 (by decide) ?_
      exact RT (1 : Int32) () _ _ _ _ dX4_isLeafOf_22 rfl (by decide) (by decide) hv)
def vX4_isUntouched_L12 (mcel : Ar) (mhel : Ar) (mclo : Ar) (x1 : Int32) (x3 : Int32) (K4 : Int32 → Int32 → Prop) (Q : Int32 → Prop) : Nat → Int32 → Int32 → Prop
  | 0, _, _ => False
  | n + 1, x2, x4 => (((36 : Int32) ≤ x4 → ((x2 = (0 : Int32) → (K4 (0 : Int32) (x3 + (1 : Int32)))) ∧ (¬ x2 = (0 : Int32) → ((x3 = (3 : Int32) → (K4 (1 : Int32) (x3 + (1 : Int32)))) ∧ (¬ x3 = (3 : Int32) → (vp_in (((10 : Int32) * x3) + x1) 30 ∧ ((¬ (mclo (((10 : Int32) * x3) + x1).toNatClampNeg) = (0 : Int32) → (K4 (0 : Int32) (x3 + (1 : Int32)))) ∧ ((mclo (((10 : Int32) * x3) + x1).toNatClampNeg) = (0 : Int32) → (K4 (1 : Int32) (x3 + (1 : Int32))))))))))) ∧ (¬ (36 : Int32) ≤ x4 → ((x2 = (0 : Int32) → (vX4_isUntouched_L12 mcel mhel mclo x1 x3 K4 Q n (0 : Int32) (x4 + (1 : Int32)))) ∧ (¬ x2 = (0 : Int32) → (vX4_at x3 x1 (0 : Int32) x4 (fun r32 => (vp_in r32 1440 ∧ ((¬ (mcel r32.toNatClampNeg) = (0 : Int32) → (vX4_isUntouched_L12 mcel mhel mclo x1 x3 K4 Q n (0 : Int32) (x4 + (1 : Int32)))) ∧ ((mcel r32.toNatClampNeg) = (0 : Int32) → (vX4_isUntouched_L12 mcel mhel mclo x1 x3 K4 Q n (1 : Int32) (x4 + (1 : Int32))))))))))))
set_option maxHeartbeats 4000000 in
set_option maxRecDepth 100000 in
theorem wvX4_isUntouched_L12 {l : Launch} {γ : Gm} {κ : Kx} {bd : Nat → Nat} {pl : Int32} {msn : Int32} {thr : Int32} {mpar : Ar} {mcel : Ar} {mhel : Ar} {mclo : Ar} {msea : Ar} {mwei : Ar} {msha : Ar} {mmon : Ar} {x1 : Int32} {x3 : Int32} {K4 : Int32 → Int32 → Prop} {Q : Int32 → Prop} (C : Ok γ κ cX4_isUntouched 5 RX4 1 23) (RT : RtI l γ κ cX4_isUntouched .boolean 0 0 (fun (r : Int32) (_ : Unit) => Q r) (fun _ => wN γ bd pl msn thr mpar mcel mhel mclo msea mwei msha mmon)) (hK4 : ∀ (x2 : Int32) (x3 : Int32), K4 x2 x3 → G l γ κ (wN γ bd pl msn thr mpar mcel mhel mclo msea mwei msha mmon) [(0, .ref (bd 0)), (1, .int x1), (2, .int x2), (3, .int x3)] 0 0 [] 4) : ∀ (n : Nat) (x2 : Int32) (x4 : Int32), vX4_isUntouched_L12 mcel mhel mclo x1 x3 K4 Q n x2 x4 → G l γ κ (wN γ bd pl msn thr mpar mcel mhel mclo msea mwei msha mmon) [(0, .ref (bd 0)), (1, .int x1), (2, .int x2), (3, .int x3), (4, .int x4)] 0 0 [] 12 := by
  intro n
  induction n with
  | zero => intro x2 x4 hv; exact False.elim hv
  | succ n ih =>
    intro x2 x4 hv
    refine g_iload (pc' := 14) C dX4_isUntouched_12 rfl rfl ?_
    refine g_bipush (pc' := 16) (v := (36 : Int32)) C dX4_isUntouched_14 rfl (by decide) ?_
    obtain ⟨hv1, hv2⟩ := hv
    refine g_icmp_ge (pc' := 19) (tgt := 51) C dX4_isUntouched_16 rfl (by decide) (fun c => ?_) (fun c => ?_)
    · have hv := hv1 c
      refine g_iload_n (pc' := 52) C dX4_isUntouched_51 rfl rfl rfl ?_
      obtain ⟨hv1, hv2⟩ := hv
      refine g_if_eq (pc' := 55) (tgt := 78) C dX4_isUntouched_52 rfl (by decide) (fun c => ?_) (fun c => ?_)
      · have hv := hv1 c
        refine g_iconst (pc' := 79) (v := (0 : Int32)) C dX4_isUntouched_78 rfl (by decide) ?_
        refine g_istore_n (pc' := 80) (lv' := [(2, .int (0 : Int32)), (0, .ref (bd 0)), (1, .int x1), (3, .int x3), (4, .int x4)]) C dX4_isUntouched_79 rfl rfl (by decide) rfl ?_
        refine g_iinc (pc' := 83) (v := (x3 + (1 : Int32))) (lv' := [(3, .int (x3 + (1 : Int32))), (2, .int (0 : Int32)), (0, .ref (bd 0)), (1, .int x1), (4, .int x4)]) C dX4_isUntouched_80 rfl rfl rfl (by decide) rfl ?_
        refine g_goto (tgt := 4) C dX4_isUntouched_83 (by decide) ?_
        refine g_sub (lv' := [(0, .ref (bd 0)), (1, .int x1), (2, .int (0 : Int32)), (3, .int (x3 + (1 : Int32)))]) [2, 3, 1, 0] rfl ?_
        exact hK4 _ _ hv
      · have hv := hv2 c
        refine g_iload_n (pc' := 56) C dX4_isUntouched_55 rfl rfl rfl ?_
        refine g_iconst (pc' := 57) (v := (3 : Int32)) C dX4_isUntouched_56 rfl (by decide) ?_
        obtain ⟨hv1, hv2⟩ := hv
        refine g_icmp_eq (pc' := 60) (tgt := 74) C dX4_isUntouched_57 rfl (by decide) (fun c => ?_) (fun c => ?_)
        · have hv := hv1 c
          refine g_iconst (pc' := 75) (v := (1 : Int32)) C dX4_isUntouched_74 rfl (by decide) ?_
          refine g_goto (tgt := 79) C dX4_isUntouched_75 (by decide) ?_
          refine g_istore_n (pc' := 80) (lv' := [(2, .int (1 : Int32)), (0, .ref (bd 0)), (1, .int x1), (3, .int x3), (4, .int x4)]) C dX4_isUntouched_79 rfl rfl (by decide) rfl ?_
          refine g_iinc (pc' := 83) (v := (x3 + (1 : Int32))) (lv' := [(3, .int (x3 + (1 : Int32))), (2, .int (1 : Int32)), (0, .ref (bd 0)), (1, .int x1), (4, .int x4)]) C dX4_isUntouched_80 rfl rfl rfl (by decide) rfl ?_
          refine g_goto (tgt := 4) C dX4_isUntouched_83 (by decide) ?_
          refine g_sub (lv' := [(0, .ref (bd 0)), (1, .int x1), (2, .int (1 : Int32)), (3, .int (x3 + (1 : Int32)))]) [2, 3, 1, 0] rfl ?_
          exact hK4 _ _ hv
        · have hv := hv2 c
          refine g_aload_n (pc' := 61) C dX4_isUntouched_60 rfl rfl rfl ?_
          refine gf_X4_23 (pc' := 64) C dX4_isUntouched_61 rfl 0 rfl rfl ?_
          refine g_bipush (pc' := 66) (v := (10 : Int32)) C dX4_isUntouched_64 rfl (by decide) ?_
          refine g_iload_n (pc' := 67) C dX4_isUntouched_66 rfl rfl rfl ?_
          refine g_imul (pc' := 68) C dX4_isUntouched_67 rfl ?_
          refine g_iload_n (pc' := 69) C dX4_isUntouched_68 rfl rfl rfl ?_
          refine g_iadd (pc' := 70) C dX4_isUntouched_69 rfl ?_
          obtain ⟨hi, hv⟩ := hv
          refine g_iald (pc' := 71) C dX4_isUntouched_70 rfl 4 rfl hi ?_
          obtain ⟨hv1, hv2⟩ := hv
          refine g_if_ne (pc' := 74) (tgt := 78) C dX4_isUntouched_71 rfl (by decide) (fun c => ?_) (fun c => ?_)
          · have hv := hv1 c
            refine g_iconst (pc' := 79) (v := (0 : Int32)) C dX4_isUntouched_78 rfl (by decide) ?_
            refine g_istore_n (pc' := 80) (lv' := [(2, .int (0 : Int32)), (0, .ref (bd 0)), (1, .int x1), (3, .int x3), (4, .int x4)]) C dX4_isUntouched_79 rfl rfl (by decide) rfl ?_
            refine g_iinc (pc' := 83) (v := (x3 + (1 : Int32))) (lv' := [(3, .int (x3 + (1 : Int32))), (2, .int (0 : Int32)), (0, .ref (bd 0)), (1, .int x1), (4, .int x4)]) C dX4_isUntouched_80 rfl rfl rfl (by decide) rfl ?_
            refine g_goto (tgt := 4) C dX4_isUntouched_83 (by decide) ?_
            refine g_sub (lv' := [(0, .ref (bd 0)), (1, .int x1), (2, .int (0 : Int32)), (3, .int (x3 + (1 : Int32)))]) [2, 3, 1, 0] rfl ?_
            exact hK4 _ _ hv
          · have hv := hv2 c
            refine g_iconst (pc' := 75) (v := (1 : Int32)) C dX4_isUntouched_74 rfl (by decide) ?_
            refine g_goto (tgt := 79) C dX4_isUntouched_75 (by decide) ?_
            refine g_istore_n (pc' := 80) (lv' := [(2, .int (1 : Int32)), (0, .ref (bd 0)), (1, .int x1), (3, .int x3), (4, .int x4)]) C dX4_isUntouched_79 rfl rfl (by decide) rfl ?_
            refine g_iinc (pc' := 83) (v := (x3 + (1 : Int32))) (lv' := [(3, .int (x3 + (1 : Int32))), (2, .int (1 : Int32)), (0, .ref (bd 0)), (1, .int x1), (4, .int x4)]) C dX4_isUntouched_80 rfl rfl rfl (by decide) rfl ?_
            refine g_goto (tgt := 4) C dX4_isUntouched_83 (by decide) ?_
            refine g_sub (lv' := [(0, .ref (bd 0)), (1, .int x1), (2, .int (1 : Int32)), (3, .int (x3 + (1 : Int32)))]) [2, 3, 1, 0] rfl ?_
            exact hK4 _ _ hv
    · have hv := hv2 c
      refine g_iload_n (pc' := 20) C dX4_isUntouched_19 rfl rfl rfl ?_
      obtain ⟨hv1, hv2⟩ := hv
      refine g_if_eq (pc' := 23) (tgt := 43) C dX4_isUntouched_20 rfl (by decide) (fun c => ?_) (fun c => ?_)
      · have hv := hv1 c
        refine g_iconst (pc' := 44) (v := (0 : Int32)) C dX4_isUntouched_43 rfl (by decide) ?_
        refine g_istore_n (pc' := 45) (lv' := [(2, .int (0 : Int32)), (0, .ref (bd 0)), (1, .int x1), (3, .int x3), (4, .int x4)]) C dX4_isUntouched_44 rfl rfl (by decide) rfl ?_
        refine g_iinc (pc' := 48) (v := (x4 + (1 : Int32))) (lv' := [(4, .int (x4 + (1 : Int32))), (2, .int (0 : Int32)), (0, .ref (bd 0)), (1, .int x1), (3, .int x3)]) C dX4_isUntouched_45 rfl rfl rfl (by decide) rfl ?_
        refine g_goto (tgt := 12) C dX4_isUntouched_48 (by decide) ?_
        refine g_sub (lv' := [(0, .ref (bd 0)), (1, .int x1), (2, .int (0 : Int32)), (3, .int x3), (4, .int (x4 + (1 : Int32)))]) [2, 3, 1, 4, 0] rfl ?_
        exact ih _ _ hv
      · have hv := hv2 c
        refine g_aload_n (pc' := 24) C dX4_isUntouched_23 rfl rfl rfl ?_
        refine gf_X4_17 (pc' := 27) C dX4_isUntouched_24 rfl 0 rfl rfl ?_
        refine g_iload_n (pc' := 28) C dX4_isUntouched_27 rfl rfl rfl ?_
        refine g_iload_n (pc' := 29) C dX4_isUntouched_28 rfl rfl rfl ?_
        refine g_iconst (pc' := 30) (v := (0 : Int32)) C dX4_isUntouched_29 rfl (by decide) ?_
        refine g_iload (pc' := 32) C dX4_isUntouched_30 rfl rfl ?_
        refine cnI (pc' := 35) C (run_SI (rest := [.ref (bd 2)]) C lk_X4_53 (mtX4_at hv) ⟨by decide, by decide⟩ rfl rfl (Nat.le_of_ble_eq_true rfl) ⟨Nat.zero_le _, Nat.zero_le _⟩ dX4_isUntouched_32) rfl (fun r32 u32 hv => ?_)
        obtain ⟨hi, hv⟩ := hv
        refine g_iald (pc' := 36) C dX4_isUntouched_35 rfl 2 rfl hi ?_
        obtain ⟨hv1, hv2⟩ := hv
        refine g_if_ne (pc' := 39) (tgt := 43) C dX4_isUntouched_36 rfl (by decide) (fun c => ?_) (fun c => ?_)
        · have hv := hv1 c
          refine g_iconst (pc' := 44) (v := (0 : Int32)) C dX4_isUntouched_43 rfl (by decide) ?_
          refine g_istore_n (pc' := 45) (lv' := [(2, .int (0 : Int32)), (0, .ref (bd 0)), (1, .int x1), (3, .int x3), (4, .int x4)]) C dX4_isUntouched_44 rfl rfl (by decide) rfl ?_
          refine g_iinc (pc' := 48) (v := (x4 + (1 : Int32))) (lv' := [(4, .int (x4 + (1 : Int32))), (2, .int (0 : Int32)), (0, .ref (bd 0)), (1, .int x1), (3, .int x3)]) C dX4_isUntouched_45 rfl rfl rfl (by decide) rfl ?_
          refine g_goto (tgt := 12) C dX4_isUntouched_48 (by decide) ?_
          refine g_sub (lv' := [(0, .ref (bd 0)), (1, .int x1), (2, .int (0 : Int32)), (3, .int x3), (4, .int (x4 + (1 : Int32)))]) [2, 3, 1, 4, 0] rfl ?_
          exact ih _ _ hv
        · have hv := hv2 c
          refine g_iconst (pc' := 40) (v := (1 : Int32)) C dX4_isUntouched_39 rfl (by decide) ?_
          refine g_goto (tgt := 44) C dX4_isUntouched_40 (by decide) ?_
          refine g_istore_n (pc' := 45) (lv' := [(2, .int (1 : Int32)), (0, .ref (bd 0)), (1, .int x1), (3, .int x3), (4, .int x4)]) C dX4_isUntouched_44 rfl rfl (by decide) rfl ?_
          refine g_iinc (pc' := 48) (v := (x4 + (1 : Int32))) (lv' := [(4, .int (x4 + (1 : Int32))), (2, .int (1 : Int32)), (0, .ref (bd 0)), (1, .int x1), (3, .int x3)]) C dX4_isUntouched_45 rfl rfl rfl (by decide) rfl ?_
          refine g_goto (tgt := 12) C dX4_isUntouched_48 (by decide) ?_
          refine g_sub (lv' := [(0, .ref (bd 0)), (1, .int x1), (2, .int (1 : Int32)), (3, .int x3), (4, .int (x4 + (1 : Int32)))]) [2, 3, 1, 4, 0] rfl ?_
          exact ih _ _ hv
def vX4_isUntouched_L88 (mcel : Ar) (mhel : Ar) (mclo : Ar) (x1 : Int32) (Q : Int32 → Prop) : Nat → Int32 → Int32 → Prop
  | 0, _, _ => False
  | n + 1, x2, x3 => (((12 : Int32) ≤ x3 → (narrow .boolean (.int x2) = .int x2 ∧ (Q x2))) ∧ (¬ (12 : Int32) ≤ x3 → ((x2 = (0 : Int32) → (vX4_isUntouched_L88 mcel mhel mclo x1 Q n (0 : Int32) (x3 + (1 : Int32)))) ∧ (¬ x2 = (0 : Int32) → (vp_in (((12 : Int32) * x1) + x3) 120 ∧ ((¬ (mhel (((12 : Int32) * x1) + x3).toNatClampNeg) = (0 : Int32) → (vX4_isUntouched_L88 mcel mhel mclo x1 Q n (0 : Int32) (x3 + (1 : Int32)))) ∧ ((mhel (((12 : Int32) * x1) + x3).toNatClampNeg) = (0 : Int32) → (vX4_isUntouched_L88 mcel mhel mclo x1 Q n (1 : Int32) (x3 + (1 : Int32))))))))))
set_option maxHeartbeats 4000000 in
set_option maxRecDepth 100000 in
theorem wvX4_isUntouched_L88 {l : Launch} {γ : Gm} {κ : Kx} {bd : Nat → Nat} {pl : Int32} {msn : Int32} {thr : Int32} {mpar : Ar} {mcel : Ar} {mhel : Ar} {mclo : Ar} {msea : Ar} {mwei : Ar} {msha : Ar} {mmon : Ar} {x1 : Int32} {Q : Int32 → Prop} (C : Ok γ κ cX4_isUntouched 5 RX4 1 23) (RT : RtI l γ κ cX4_isUntouched .boolean 0 0 (fun (r : Int32) (_ : Unit) => Q r) (fun _ => wN γ bd pl msn thr mpar mcel mhel mclo msea mwei msha mmon))  : ∀ (n : Nat) (x2 : Int32) (x3 : Int32), vX4_isUntouched_L88 mcel mhel mclo x1 Q n x2 x3 → G l γ κ (wN γ bd pl msn thr mpar mcel mhel mclo msea mwei msha mmon) [(0, .ref (bd 0)), (1, .int x1), (2, .int x2), (3, .int x3)] 0 0 [] 88 := by
  intro n
  induction n with
  | zero => intro x2 x3 hv; exact False.elim hv
  | succ n ih =>
    intro x2 x3 hv
    refine g_iload_n (pc' := 89) C dX4_isUntouched_88 rfl rfl rfl ?_
    refine g_bipush (pc' := 91) (v := (12 : Int32)) C dX4_isUntouched_89 rfl (by decide) ?_
    obtain ⟨hv1, hv2⟩ := hv
    refine g_icmp_ge (pc' := 94) (tgt := 124) C dX4_isUntouched_91 rfl (by decide) (fun c => ?_) (fun c => ?_)
    · have hv := hv1 c
      refine g_iload_n (pc' := 125) C dX4_isUntouched_124 rfl rfl rfl ?_
      obtain ⟨hn, hv⟩ := hv
      exact RT x2 () _ _ _ _ dX4_isUntouched_125 hn (by decide) (by decide) hv
    · have hv := hv2 c
      refine g_iload_n (pc' := 95) C dX4_isUntouched_94 rfl rfl rfl ?_
      obtain ⟨hv1, hv2⟩ := hv
      refine g_if_eq (pc' := 98) (tgt := 116) C dX4_isUntouched_95 rfl (by decide) (fun c => ?_) (fun c => ?_)
      · have hv := hv1 c
        refine g_iconst (pc' := 117) (v := (0 : Int32)) C dX4_isUntouched_116 rfl (by decide) ?_
        refine g_istore_n (pc' := 118) (lv' := [(2, .int (0 : Int32)), (0, .ref (bd 0)), (1, .int x1), (3, .int x3)]) C dX4_isUntouched_117 rfl rfl (by decide) rfl ?_
        refine g_iinc (pc' := 121) (v := (x3 + (1 : Int32))) (lv' := [(3, .int (x3 + (1 : Int32))), (2, .int (0 : Int32)), (0, .ref (bd 0)), (1, .int x1)]) C dX4_isUntouched_118 rfl rfl rfl (by decide) rfl ?_
        refine g_goto (tgt := 88) C dX4_isUntouched_121 (by decide) ?_
        refine g_sub (lv' := [(0, .ref (bd 0)), (1, .int x1), (2, .int (0 : Int32)), (3, .int (x3 + (1 : Int32)))]) [2, 3, 1, 0] rfl ?_
        exact ih _ _ hv
      · have hv := hv2 c
        refine g_aload_n (pc' := 99) C dX4_isUntouched_98 rfl rfl rfl ?_
        refine gf_X4_20 (pc' := 102) C dX4_isUntouched_99 rfl 0 rfl rfl ?_
        refine g_bipush (pc' := 104) (v := (12 : Int32)) C dX4_isUntouched_102 rfl (by decide) ?_
        refine g_iload_n (pc' := 105) C dX4_isUntouched_104 rfl rfl rfl ?_
        refine g_imul (pc' := 106) C dX4_isUntouched_105 rfl ?_
        refine g_iload_n (pc' := 107) C dX4_isUntouched_106 rfl rfl rfl ?_
        refine g_iadd (pc' := 108) C dX4_isUntouched_107 rfl ?_
        obtain ⟨hi, hv⟩ := hv
        refine g_iald (pc' := 109) C dX4_isUntouched_108 rfl 3 rfl hi ?_
        obtain ⟨hv1, hv2⟩ := hv
        refine g_if_ne (pc' := 112) (tgt := 116) C dX4_isUntouched_109 rfl (by decide) (fun c => ?_) (fun c => ?_)
        · have hv := hv1 c
          refine g_iconst (pc' := 117) (v := (0 : Int32)) C dX4_isUntouched_116 rfl (by decide) ?_
          refine g_istore_n (pc' := 118) (lv' := [(2, .int (0 : Int32)), (0, .ref (bd 0)), (1, .int x1), (3, .int x3)]) C dX4_isUntouched_117 rfl rfl (by decide) rfl ?_
          refine g_iinc (pc' := 121) (v := (x3 + (1 : Int32))) (lv' := [(3, .int (x3 + (1 : Int32))), (2, .int (0 : Int32)), (0, .ref (bd 0)), (1, .int x1)]) C dX4_isUntouched_118 rfl rfl rfl (by decide) rfl ?_
          refine g_goto (tgt := 88) C dX4_isUntouched_121 (by decide) ?_
          refine g_sub (lv' := [(0, .ref (bd 0)), (1, .int x1), (2, .int (0 : Int32)), (3, .int (x3 + (1 : Int32)))]) [2, 3, 1, 0] rfl ?_
          exact ih _ _ hv
        · have hv := hv2 c
          refine g_iconst (pc' := 113) (v := (1 : Int32)) C dX4_isUntouched_112 rfl (by decide) ?_
          refine g_goto (tgt := 117) C dX4_isUntouched_113 (by decide) ?_
          refine g_istore_n (pc' := 118) (lv' := [(2, .int (1 : Int32)), (0, .ref (bd 0)), (1, .int x1), (3, .int x3)]) C dX4_isUntouched_117 rfl rfl (by decide) rfl ?_
          refine g_iinc (pc' := 121) (v := (x3 + (1 : Int32))) (lv' := [(3, .int (x3 + (1 : Int32))), (2, .int (1 : Int32)), (0, .ref (bd 0)), (1, .int x1)]) C dX4_isUntouched_118 rfl rfl rfl (by decide) rfl ?_
          refine g_goto (tgt := 88) C dX4_isUntouched_121 (by decide) ?_
          refine g_sub (lv' := [(0, .ref (bd 0)), (1, .int x1), (2, .int (1 : Int32)), (3, .int (x3 + (1 : Int32)))]) [2, 3, 1, 0] rfl ?_
          exact ih _ _ hv
def vX4_isUntouched_L4 (mcel : Ar) (mhel : Ar) (mclo : Ar) (x1 : Int32) (Q : Int32 → Prop) : Nat → Int32 → Int32 → Prop
  | 0, _, _ => False
  | n + 1, x2, x3 => (((3 : Int32) < x3 → (∃ n88 : Nat, vX4_isUntouched_L88 mcel mhel mclo x1 Q n88 x2 (0 : Int32))) ∧ (¬ (3 : Int32) < x3 → (∃ n12 : Nat, vX4_isUntouched_L12 mcel mhel mclo x1 x3 (vX4_isUntouched_L4 mcel mhel mclo x1 Q n) Q n12 x2 (0 : Int32))))
set_option maxHeartbeats 4000000 in
set_option maxRecDepth 100000 in
theorem wvX4_isUntouched_L4 {l : Launch} {γ : Gm} {κ : Kx} {bd : Nat → Nat} {pl : Int32} {msn : Int32} {thr : Int32} {mpar : Ar} {mcel : Ar} {mhel : Ar} {mclo : Ar} {msea : Ar} {mwei : Ar} {msha : Ar} {mmon : Ar} {x1 : Int32} {Q : Int32 → Prop} (C : Ok γ κ cX4_isUntouched 5 RX4 1 23) (RT : RtI l γ κ cX4_isUntouched .boolean 0 0 (fun (r : Int32) (_ : Unit) => Q r) (fun _ => wN γ bd pl msn thr mpar mcel mhel mclo msea mwei msha mmon))  : ∀ (n : Nat) (x2 : Int32) (x3 : Int32), vX4_isUntouched_L4 mcel mhel mclo x1 Q n x2 x3 → G l γ κ (wN γ bd pl msn thr mpar mcel mhel mclo msea mwei msha mmon) [(0, .ref (bd 0)), (1, .int x1), (2, .int x2), (3, .int x3)] 0 0 [] 4 := by
  intro n
  induction n with
  | zero => intro x2 x3 hv; exact False.elim hv
  | succ n ih =>
    intro x2 x3 hv
    refine g_iload_n (pc' := 5) C dX4_isUntouched_4 rfl rfl rfl ?_
    refine g_iconst (pc' := 6) (v := (3 : Int32)) C dX4_isUntouched_5 rfl (by decide) ?_
    obtain ⟨hv1, hv2⟩ := hv
    refine g_icmp_gt (pc' := 9) (tgt := 86) C dX4_isUntouched_6 rfl (by decide) (fun c => ?_) (fun c => ?_)
    · have hv := hv1 c
      refine g_iconst (pc' := 87) (v := (0 : Int32)) C dX4_isUntouched_86 rfl (by decide) ?_
      refine g_istore_n (pc' := 88) (lv' := [(3, .int (0 : Int32)), (0, .ref (bd 0)), (1, .int x1), (2, .int x2)]) C dX4_isUntouched_87 rfl rfl (by decide) rfl ?_
      refine g_sub (lv' := [(0, .ref (bd 0)), (1, .int x1), (2, .int x2), (3, .int (0 : Int32))]) [1, 2, 3, 0] rfl ?_
      obtain ⟨n88, hv⟩ := hv
      exact wvX4_isUntouched_L88 C RT  n88 _ _ hv
    · have hv := hv2 c
      refine g_iconst (pc' := 10) (v := (0 : Int32)) C dX4_isUntouched_9 rfl (by decide) ?_
      refine g_istore (pc' := 12) (lv' := [(4, .int (0 : Int32)), (0, .ref (bd 0)), (1, .int x1), (2, .int x2), (3, .int x3)]) C dX4_isUntouched_10 rfl (by decide) rfl ?_
      refine g_sub (lv' := [(0, .ref (bd 0)), (1, .int x1), (2, .int x2), (3, .int x3), (4, .int (0 : Int32))]) [1, 2, 3, 4, 0] rfl ?_
      obtain ⟨n12, hv⟩ := hv
      exact wvX4_isUntouched_L12 C RT ih n12 _ _ hv
def vX4_isUntouched (mcel : Ar) (mhel : Ar) (mclo : Ar) (x1 : Int32) (Q : Int32 → Prop) : Prop := (∃ n4 : Nat, vX4_isUntouched_L4 mcel mhel mclo x1 Q n4 (1 : Int32) (0 : Int32))
set_option maxHeartbeats 4000000 in
set_option maxRecDepth 100000 in
theorem mtX4_isUntouched {l : Launch} {γ : Gm} {bd : Nat → Nat} {pl : Int32} {msn : Int32} {thr : Int32} {mpar : Ar} {mcel : Ar} {mhel : Ar} {mclo : Ar} {msea : Ar} {mwei : Ar} {msha : Ar} {mmon : Ar} {x1 : Int32} {Q : Int32 → Prop} (hv : vX4_isUntouched mcel mhel mclo x1 Q) : CtI l γ yX4_isUntouched cX4_isUntouched 5 .boolean 1 23 0 0 [.ref (bd 0), .int x1] (wN γ bd pl msn thr mpar mcel mhel mclo msea mwei msha mmon) (fun (r : Int32) (_ : Unit) => Q r) (fun _ => wN γ bd pl msn thr mpar mcel mhel mclo msea mwei msha mmon) := startI (by decide +kernel) (Nat.le_of_ble_eq_true rfl) (fun κ C RT hR hnm => by
  show G l γ κ (wN γ bd pl msn thr mpar mcel mhel mclo msea mwei msha mmon) [(0, .ref (bd 0)), (1, .int x1)] 0 0 [] 0
  refine g_iconst (pc' := 1) (v := (1 : Int32)) C dX4_isUntouched_0 rfl (by decide) ?_
  refine g_istore_n (pc' := 2) (lv' := [(2, .int (1 : Int32)), (0, .ref (bd 0)), (1, .int x1)]) C dX4_isUntouched_1 rfl rfl (by decide) rfl ?_
  refine g_iconst (pc' := 3) (v := (0 : Int32)) C dX4_isUntouched_2 rfl (by decide) ?_
  refine g_istore_n (pc' := 4) (lv' := [(3, .int (0 : Int32)), (2, .int (1 : Int32)), (0, .ref (bd 0)), (1, .int x1)]) C dX4_isUntouched_3 rfl rfl (by decide) rfl ?_
  refine g_sub (lv' := [(0, .ref (bd 0)), (1, .int x1), (2, .int (1 : Int32)), (3, .int (0 : Int32))]) [2, 3, 1, 0] rfl ?_
  obtain ⟨n4, hv⟩ := hv
  exact wvX4_isUntouched_L4 C RT  n4 _ _ hv)
def vX4_addPlace_J43 (pl : Int32) (thr : Int32) (mpar : Ar) (mcel : Ar) (mhel : Ar) (mclo : Ar) (x1 : Int32) (s0 : Int32) (Q : Int32 → (Int32 × Int32 × Ar) → Prop) : Prop := ((s0 ≤ (0 : Int32) → (vp_in pl 10 ∧ (Q ((pl + (1 : Int32)) - (1 : Int32)) ((pl + (1 : Int32)), s0, (upd mpar pl.toNatClampNeg x1))))) ∧ (¬ s0 ≤ (0 : Int32) → (Q (0 : Int32) (pl, s0, mpar))))
set_option maxHeartbeats 4000000 in
set_option maxRecDepth 100000 in
theorem wvX4_addPlace_J43 {l : Launch} {γ : Gm} {κ : Kx} {bd : Nat → Nat} {pl : Int32} {msn : Int32} {thr : Int32} {mpar : Ar} {mcel : Ar} {mhel : Ar} {mclo : Ar} {msea : Ar} {mwei : Ar} {msha : Ar} {mmon : Ar} {x1 : Int32} {s0 : Int32} {Q : Int32 → (Int32 × Int32 × Ar) → Prop} (C : Ok γ κ cX4_addPlace 2 RX4 2 47) (RT : RtI l γ κ cX4_addPlace .int 0 0 (fun (r : Int32) (u : Int32 × Int32 × Ar) => Q r u) (fun u => wN γ bd u.1 msn u.2.1 u.2.2 mcel mhel mclo msea mwei msha mmon))  (hv : vX4_addPlace_J43 pl thr mpar mcel mhel mclo x1 s0 Q) : G l γ κ (wN γ bd pl msn thr mpar mcel mhel mclo msea mwei msha mmon) [(0, .ref (bd 0)), (1, .int x1)] 0 0 [.int s0, .ref (bd 0)] 43 := by
  refine pf_X4_38 (pc' := 46) (ws' := wN γ bd pl msn s0 mpar mcel mhel mclo msea mwei msha mmon) C dX4_addPlace_43 rfl 0 rfl rfl rfl (Nat.le_of_ble_eq_true rfl) rfl ?_
  refine g_aload_n (pc' := 47) C dX4_addPlace_46 rfl rfl rfl ?_
  refine gf_X4_38 (pc' := 50) C dX4_addPlace_47 rfl 0 rfl rfl ?_
  obtain ⟨hv1, hv2⟩ := hv
  refine g_if_le (pc' := 53) (tgt := 55) C dX4_addPlace_50 rfl (by decide) (fun c => ?_) (fun c => ?_)
  · have hv := hv1 c
    refine g_aload_n (pc' := 56) C dX4_addPlace_55 rfl rfl rfl ?_
    refine gf_X4_13 (pc' := 59) C dX4_addPlace_56 rfl 0 rfl rfl ?_
    refine g_aload_n (pc' := 60) C dX4_addPlace_59 rfl rfl rfl ?_
    refine gf_X4_7 (pc' := 63) C dX4_addPlace_60 rfl 0 rfl rfl ?_
    refine g_iload_n (pc' := 64) C dX4_addPlace_63 rfl rfl rfl ?_
    obtain ⟨hi, hv⟩ := hv
    refine g_iast (pc' := 65) (ws' := wN γ bd pl msn s0 (upd mpar pl.toNatClampNeg x1) mcel mhel mclo msea mwei msha mmon) C dX4_addPlace_64 rfl 1 rfl hi rfl ?_
    refine g_aload_n (pc' := 66) C dX4_addPlace_65 rfl rfl rfl ?_
    refine g_dup (pc' := 67) C dX4_addPlace_66 rfl rfl ?_
    refine gf_X4_7 (pc' := 70) C dX4_addPlace_67 rfl 0 rfl rfl ?_
    refine g_iconst (pc' := 71) (v := (1 : Int32)) C dX4_addPlace_70 rfl (by decide) ?_
    refine g_iadd (pc' := 72) C dX4_addPlace_71 rfl ?_
    refine pf_X4_7 (pc' := 75) (ws' := wN γ bd (pl + (1 : Int32)) msn s0 (upd mpar pl.toNatClampNeg x1) mcel mhel mclo msea mwei msha mmon) C dX4_addPlace_72 rfl 0 rfl rfl rfl (Nat.le_of_ble_eq_true rfl) rfl ?_
    refine g_aload_n (pc' := 76) C dX4_addPlace_75 rfl rfl rfl ?_
    refine gf_X4_7 (pc' := 79) C dX4_addPlace_76 rfl 0 rfl rfl ?_
    refine g_iconst (pc' := 80) (v := (1 : Int32)) C dX4_addPlace_79 rfl (by decide) ?_
    refine g_isub (pc' := 81) C dX4_addPlace_80 rfl ?_
    exact RT ((pl + (1 : Int32)) - (1 : Int32)) ((pl + (1 : Int32)), s0, (upd mpar pl.toNatClampNeg x1)) _ _ _ _ dX4_addPlace_81 rfl (by decide) (by decide) hv
  · have hv := hv2 c
    refine g_iconst (pc' := 54) (v := (0 : Int32)) C dX4_addPlace_53 rfl (by decide) ?_
    exact RT (0 : Int32) (pl, s0, mpar) _ _ _ _ dX4_addPlace_54 rfl (by decide) (by decide) hv
def vX4_addPlace_J38 (pl : Int32) (thr : Int32) (mpar : Ar) (mcel : Ar) (mhel : Ar) (mclo : Ar) (x1 : Int32) (Q : Int32 → (Int32 × Int32 × Ar) → Prop) : Prop := (vX4_addPlace_J43 pl thr mpar mcel mhel mclo x1 (2 : Int32) Q)
set_option maxHeartbeats 4000000 in
set_option maxRecDepth 100000 in
theorem wvX4_addPlace_J38 {l : Launch} {γ : Gm} {κ : Kx} {bd : Nat → Nat} {pl : Int32} {msn : Int32} {thr : Int32} {mpar : Ar} {mcel : Ar} {mhel : Ar} {mclo : Ar} {msea : Ar} {mwei : Ar} {msha : Ar} {mmon : Ar} {x1 : Int32} {Q : Int32 → (Int32 × Int32 × Ar) → Prop} (C : Ok γ κ cX4_addPlace 2 RX4 2 47) (RT : RtI l γ κ cX4_addPlace .int 0 0 (fun (r : Int32) (u : Int32 × Int32 × Ar) => Q r u) (fun u => wN γ bd u.1 msn u.2.1 u.2.2 mcel mhel mclo msea mwei msha mmon))  (hv : vX4_addPlace_J38 pl thr mpar mcel mhel mclo x1 Q) : G l γ κ (wN γ bd pl msn thr mpar mcel mhel mclo msea mwei msha mmon) [(0, .ref (bd 0)), (1, .int x1)] 0 0 [.ref (bd 0)] 38 := by
  refine g_iconst (pc' := 39) (v := (2 : Int32)) C dX4_addPlace_38 rfl (by decide) ?_
  refine g_goto (tgt := 43) C dX4_addPlace_39 (by decide) ?_
  exact wvX4_addPlace_J43 C RT  hv
def vX4_addPlace_J42 (pl : Int32) (thr : Int32) (mpar : Ar) (mcel : Ar) (mhel : Ar) (mclo : Ar) (x1 : Int32) (Q : Int32 → (Int32 × Int32 × Ar) → Prop) : Prop := (vX4_addPlace_J43 pl thr mpar mcel mhel mclo x1 (0 : Int32) Q)
set_option maxHeartbeats 4000000 in
set_option maxRecDepth 100000 in
theorem wvX4_addPlace_J42 {l : Launch} {γ : Gm} {κ : Kx} {bd : Nat → Nat} {pl : Int32} {msn : Int32} {thr : Int32} {mpar : Ar} {mcel : Ar} {mhel : Ar} {mclo : Ar} {msea : Ar} {mwei : Ar} {msha : Ar} {mmon : Ar} {x1 : Int32} {Q : Int32 → (Int32 × Int32 × Ar) → Prop} (C : Ok γ κ cX4_addPlace 2 RX4 2 47) (RT : RtI l γ κ cX4_addPlace .int 0 0 (fun (r : Int32) (u : Int32 × Int32 × Ar) => Q r u) (fun u => wN γ bd u.1 msn u.2.1 u.2.2 mcel mhel mclo msea mwei msha mmon))  (hv : vX4_addPlace_J42 pl thr mpar mcel mhel mclo x1 Q) : G l γ κ (wN γ bd pl msn thr mpar mcel mhel mclo msea mwei msha mmon) [(0, .ref (bd 0)), (1, .int x1)] 0 0 [.ref (bd 0)] 42 := by
  refine g_iconst (pc' := 43) (v := (0 : Int32)) C dX4_addPlace_42 rfl (by decide) ?_
  exact wvX4_addPlace_J43 C RT  hv
def vX4_addPlace (pl : Int32) (thr : Int32) (mpar : Ar) (mcel : Ar) (mhel : Ar) (mclo : Ar) (x1 : Int32) (Q : Int32 → (Int32 × Int32 × Ar) → Prop) : Prop := (vX4_isPlace pl x1 (fun r3 => ((¬ r3 = (0 : Int32) → ((pl = (10 : Int32) → (vX4_addPlace_J38 pl thr mpar mcel mhel mclo x1 Q)) ∧ (¬ pl = (10 : Int32) → (vX4_isLeaf pl mpar x1 (fun r24 => ((r24 = (0 : Int32) → (vX4_addPlace_J42 pl thr mpar mcel mhel mclo x1 Q)) ∧ (¬ r24 = (0 : Int32) → (vX4_isUntouched mcel mhel mclo x1 (fun r32 => ((¬ r32 = (0 : Int32) → (vX4_addPlace_J42 pl thr mpar mcel mhel mclo x1 Q)) ∧ (r32 = (0 : Int32) → (vX4_addPlace_J38 pl thr mpar mcel mhel mclo x1 Q)))))))))))) ∧ (r3 = (0 : Int32) → (vX4_addPlace_J43 pl thr mpar mcel mhel mclo x1 (1 : Int32) Q)))))
set_option maxHeartbeats 4000000 in
set_option maxRecDepth 100000 in
theorem mtX4_addPlace {l : Launch} {γ : Gm} {bd : Nat → Nat} {pl : Int32} {msn : Int32} {thr : Int32} {mpar : Ar} {mcel : Ar} {mhel : Ar} {mclo : Ar} {msea : Ar} {mwei : Ar} {msha : Ar} {mmon : Ar} {x1 : Int32} {Q : Int32 → (Int32 × Int32 × Ar) → Prop} (hv : vX4_addPlace pl thr mpar mcel mhel mclo x1 Q) : CtI l γ yX4_addPlace cX4_addPlace 2 .int 2 47 0 0 [.ref (bd 0), .int x1] (wN γ bd pl msn thr mpar mcel mhel mclo msea mwei msha mmon) (fun (r : Int32) (u : Int32 × Int32 × Ar) => Q r u) (fun u => wN γ bd u.1 msn u.2.1 u.2.2 mcel mhel mclo msea mwei msha mmon) := startI (by decide +kernel) (Nat.le_of_ble_eq_true rfl) (fun κ C RT hR hnm => by
  show G l γ κ (wN γ bd pl msn thr mpar mcel mhel mclo msea mwei msha mmon) [(0, .ref (bd 0)), (1, .int x1)] 0 0 [] 0
  refine g_aload_n (pc' := 1) C dX4_addPlace_0 rfl rfl rfl ?_
  refine g_aload_n (pc' := 2) C dX4_addPlace_1 rfl rfl rfl ?_
  refine g_iload_n (pc' := 3) C dX4_addPlace_2 rfl rfl rfl ?_
  refine csI (pc' := 6) C (run_VI (rest := [.ref (bd 0)]) C lk_X4_57 (mtX4_isPlace hv) ⟨by decide, by decide⟩ rfl rfl rfl rfl (Nat.le_of_ble_eq_true rfl) ⟨Nat.zero_le _, Nat.zero_le _⟩ dX4_addPlace_3) rfl (fun r3 u3 hv => ?_)
  obtain ⟨hv1, hv2⟩ := hv
  refine g_if_ne (pc' := 9) (tgt := 13) C dX4_addPlace_6 rfl (by decide) (fun c => ?_) (fun c => ?_)
  · have hv := hv1 c
    refine g_aload_n (pc' := 14) C dX4_addPlace_13 rfl rfl rfl ?_
    refine gf_X4_7 (pc' := 17) C dX4_addPlace_14 rfl 0 rfl rfl ?_
    refine g_bipush (pc' := 19) (v := (10 : Int32)) C dX4_addPlace_17 rfl (by decide) ?_
    obtain ⟨hv1, hv2⟩ := hv
    refine g_icmp_eq (pc' := 22) (tgt := 38) C dX4_addPlace_19 rfl (by decide) (fun c => ?_) (fun c => ?_)
    · have hv := hv1 c
      exact wvX4_addPlace_J38 C RT  hv
    · have hv := hv2 c
      refine g_aload_n (pc' := 23) C dX4_addPlace_22 rfl rfl rfl ?_
      refine g_iload_n (pc' := 24) C dX4_addPlace_23 rfl rfl rfl ?_
      refine csI (pc' := 27) C (run_VI (rest := [.ref (bd 0)]) C lk_X4_45 (mtX4_isLeaf hv) ⟨by decide, by decide⟩ rfl rfl rfl rfl (Nat.le_of_ble_eq_true rfl) ⟨Nat.zero_le _, Nat.zero_le _⟩ dX4_addPlace_24) rfl (fun r24 u24 hv => ?_)
      obtain ⟨hv1, hv2⟩ := hv
      refine g_if_eq (pc' := 30) (tgt := 42) C dX4_addPlace_27 rfl (by decide) (fun c => ?_) (fun c => ?_)
      · have hv := hv1 c
        exact wvX4_addPlace_J42 C RT  hv
      · have hv := hv2 c
        refine g_aload_n (pc' := 31) C dX4_addPlace_30 rfl rfl rfl ?_
        refine g_iload_n (pc' := 32) C dX4_addPlace_31 rfl rfl rfl ?_
        refine csI (pc' := 35) C (run_VI (rest := [.ref (bd 0)]) C lk_X4_60 (mtX4_isUntouched hv) ⟨by decide, by decide⟩ rfl rfl rfl rfl (Nat.le_of_ble_eq_true rfl) ⟨Nat.zero_le _, Nat.zero_le _⟩ dX4_addPlace_32) rfl (fun r32 u32 hv => ?_)
        obtain ⟨hv1, hv2⟩ := hv
        refine g_if_ne (pc' := 38) (tgt := 42) C dX4_addPlace_35 rfl (by decide) (fun c => ?_) (fun c => ?_)
        · have hv := hv1 c
          exact wvX4_addPlace_J42 C RT  hv
        · have hv := hv2 c
          exact wvX4_addPlace_J38 C RT  hv
  · have hv := hv2 c
    refine g_iconst (pc' := 10) (v := (1 : Int32)) C dX4_addPlace_9 rfl (by decide) ?_
    refine g_goto (tgt := 43) C dX4_addPlace_10 (by decide) ?_
    exact wvX4_addPlace_J43 C RT  hv)
def vX4_places (pl : Int32) (thr : Int32) (Q : Int32 → (Int32) → Prop) : Prop := (Q pl (0 : Int32))
set_option maxHeartbeats 4000000 in
set_option maxRecDepth 100000 in
theorem mtX4_places {l : Launch} {γ : Gm} {bd : Nat → Nat} {pl : Int32} {msn : Int32} {thr : Int32} {mpar : Ar} {mcel : Ar} {mhel : Ar} {mclo : Ar} {msea : Ar} {mwei : Ar} {msha : Ar} {mmon : Ar} {Q : Int32 → (Int32) → Prop} (hv : vX4_places pl thr Q) : CtI l γ yX4_places cX4_places 1 .int 0 0 0 0 [.ref (bd 0)] (wN γ bd pl msn thr mpar mcel mhel mclo msea mwei msha mmon) (fun (r : Int32) (u : Int32) => Q r u) (fun u => wN γ bd pl msn u mpar mcel mhel mclo msea mwei msha mmon) := startI (by decide +kernel) (Nat.le_of_ble_eq_true rfl) (fun κ C RT hR hnm => by
  show G l γ κ (wN γ bd pl msn thr mpar mcel mhel mclo msea mwei msha mmon) [(0, .ref (bd 0))] 0 0 [] 0
  refine g_aload_n (pc' := 1) C dX4_places_0 rfl rfl rfl ?_
  refine g_iconst (pc' := 2) (v := (0 : Int32)) C dX4_places_1 rfl (by decide) ?_
  refine pf_X4_38 (pc' := 5) (ws' := wN γ bd pl msn (0 : Int32) mpar mcel mhel mclo msea mwei msha mmon) C dX4_places_2 rfl 0 rfl rfl rfl (Nat.le_of_ble_eq_true rfl) rfl ?_
  refine g_aload_n (pc' := 6) C dX4_places_5 rfl rfl rfl ?_
  refine gf_X4_7 (pc' := 9) C dX4_places_6 rfl 0 rfl rfl ?_
  exact RT pl (0 : Int32) _ _ _ _ dX4_places_9 rfl (by decide) (by decide) hv)
def vX4_leaves_L21 (pl : Int32) (thr : Int32) (mpar : Ar) (x1 : Int32) (Q : Int32 → (Int32) → Prop) : Nat → Int32 → Int32 → Prop
  | 0, _, _ => False
  | n + 1, x2, x3 => ((pl ≤ x3 → (Q x2 thr)) ∧ (¬ pl ≤ x3 → ((¬ thr = (0 : Int32) → (Q x2 thr)) ∧ (thr = (0 : Int32) → (vX4_isLeafOf pl mpar x3 x1 (fun r40 => ((r40 = (0 : Int32) → (vX4_leaves_L21 pl thr mpar x1 Q n (x2 ||| (0 : Int32)) (x3 + (1 : Int32)))) ∧ (¬ r40 = (0 : Int32) → (vX4_leaves_L21 pl thr mpar x1 Q n (x2 ||| ((1 : Int32) <<< (x3 &&& 31))) (x3 + (1 : Int32)))))))))))
set_option maxHeartbeats 4000000 in
set_option maxRecDepth 100000 in
theorem wvX4_leaves_L21 {l : Launch} {γ : Gm} {κ : Kx} {bd : Nat → Nat} {pl : Int32} {msn : Int32} {thr : Int32} {mpar : Ar} {mcel : Ar} {mhel : Ar} {mclo : Ar} {msea : Ar} {mwei : Ar} {msha : Ar} {mmon : Ar} {x1 : Int32} {Q : Int32 → (Int32) → Prop} (C : Ok γ κ cX4_leaves 4 RX4 2 45) (RT : RtI l γ κ cX4_leaves .int 0 0 (fun (r : Int32) (u : Int32) => Q r u) (fun u => wN γ bd pl msn u mpar mcel mhel mclo msea mwei msha mmon))  : ∀ (n : Nat) (x2 : Int32) (x3 : Int32), vX4_leaves_L21 pl thr mpar x1 Q n x2 x3 → G l γ κ (wN γ bd pl msn thr mpar mcel mhel mclo msea mwei msha mmon) [(0, .ref (bd 0)), (1, .int x1), (2, .int x2), (3, .int x3)] 0 0 [] 21 := by
  intro n
  induction n with
  | zero => intro x2 x3 hv; exact False.elim hv
  | succ n ih =>
    intro x2 x3 hv
    refine g_iload_n (pc' := 22) C dX4_leaves_21 rfl rfl rfl ?_
    refine g_aload_n (pc' := 23) C dX4_leaves_22 rfl rfl rfl ?_
    refine gf_X4_7 (pc' := 26) C dX4_leaves_23 rfl 0 rfl rfl ?_
    obtain ⟨hv1, hv2⟩ := hv
    refine g_icmp_ge (pc' := 29) (tgt := 61) C dX4_leaves_26 rfl (by decide) (fun c => ?_) (fun c => ?_)
    · have hv := hv1 c
      refine g_iload_n (pc' := 62) C dX4_leaves_61 rfl rfl rfl ?_
      exact RT x2 thr _ _ _ _ dX4_leaves_62 rfl (by decide) (by decide) hv
    · have hv := hv2 c
      refine g_aload_n (pc' := 30) C dX4_leaves_29 rfl rfl rfl ?_
      refine gf_X4_38 (pc' := 33) C dX4_leaves_30 rfl 0 rfl rfl ?_
      obtain ⟨hv1, hv2⟩ := hv
      refine g_if_ne (pc' := 36) (tgt := 61) C dX4_leaves_33 rfl (by decide) (fun c => ?_) (fun c => ?_)
      · have hv := hv1 c
        refine g_iload_n (pc' := 62) C dX4_leaves_61 rfl rfl rfl ?_
        exact RT x2 thr _ _ _ _ dX4_leaves_62 rfl (by decide) (by decide) hv
      · have hv := hv2 c
        refine g_iload_n (pc' := 37) C dX4_leaves_36 rfl rfl rfl ?_
        refine g_aload_n (pc' := 38) C dX4_leaves_37 rfl rfl rfl ?_
        refine g_iload_n (pc' := 39) C dX4_leaves_38 rfl rfl rfl ?_
        refine g_iload_n (pc' := 40) C dX4_leaves_39 rfl rfl rfl ?_
        refine csI (pc' := 43) C (run_VI (rest := [.int x2]) C lk_X4_63 (mtX4_isLeafOf hv) ⟨by decide, by decide⟩ rfl rfl rfl rfl (Nat.le_of_ble_eq_true rfl) ⟨Nat.zero_le _, Nat.zero_le _⟩ dX4_leaves_40) rfl (fun r40 u40 hv => ?_)
        obtain ⟨hv1, hv2⟩ := hv
        refine g_if_eq (pc' := 46) (tgt := 52) C dX4_leaves_43 rfl (by decide) (fun c => ?_) (fun c => ?_)
        · have hv := hv1 c
          refine g_iconst (pc' := 53) (v := (0 : Int32)) C dX4_leaves_52 rfl (by decide) ?_
          refine g_ior (pc' := 54) C dX4_leaves_53 rfl ?_
          refine g_istore_n (pc' := 55) (lv' := [(2, .int (x2 ||| (0 : Int32))), (0, .ref (bd 0)), (1, .int x1), (3, .int x3)]) C dX4_leaves_54 rfl rfl (by decide) rfl ?_
          refine g_iinc (pc' := 58) (v := (x3 + (1 : Int32))) (lv' := [(3, .int (x3 + (1 : Int32))), (2, .int (x2 ||| (0 : Int32))), (0, .ref (bd 0)), (1, .int x1)]) C dX4_leaves_55 rfl rfl rfl (by decide) rfl ?_
          refine g_goto (tgt := 21) C dX4_leaves_58 (by decide) ?_
          refine g_sub (lv' := [(0, .ref (bd 0)), (1, .int x1), (2, .int (x2 ||| (0 : Int32))), (3, .int (x3 + (1 : Int32)))]) [2, 3, 1, 0] rfl ?_
          exact ih _ _ hv
        · have hv := hv2 c
          refine g_iconst (pc' := 47) (v := (1 : Int32)) C dX4_leaves_46 rfl (by decide) ?_
          refine g_iload_n (pc' := 48) C dX4_leaves_47 rfl rfl rfl ?_
          refine g_ishl (pc' := 49) C dX4_leaves_48 rfl ?_
          refine g_goto (tgt := 53) C dX4_leaves_49 (by decide) ?_
          refine g_ior (pc' := 54) C dX4_leaves_53 rfl ?_
          refine g_istore_n (pc' := 55) (lv' := [(2, .int (x2 ||| ((1 : Int32) <<< (x3 &&& 31)))), (0, .ref (bd 0)), (1, .int x1), (3, .int x3)]) C dX4_leaves_54 rfl rfl (by decide) rfl ?_
          refine g_iinc (pc' := 58) (v := (x3 + (1 : Int32))) (lv' := [(3, .int (x3 + (1 : Int32))), (2, .int (x2 ||| ((1 : Int32) <<< (x3 &&& 31)))), (0, .ref (bd 0)), (1, .int x1)]) C dX4_leaves_55 rfl rfl rfl (by decide) rfl ?_
          refine g_goto (tgt := 21) C dX4_leaves_58 (by decide) ?_
          refine g_sub (lv' := [(0, .ref (bd 0)), (1, .int x1), (2, .int (x2 ||| ((1 : Int32) <<< (x3 &&& 31)))), (3, .int (x3 + (1 : Int32)))]) [2, 3, 1, 0] rfl ?_
          exact ih _ _ hv
def vX4_leaves (pl : Int32) (thr : Int32) (mpar : Ar) (x1 : Int32) (Q : Int32 → (Int32) → Prop) : Prop := (vX4_isPlace pl x1 (fun r3 => ((r3 = (0 : Int32) → (∃ n21 : Nat, vX4_leaves_L21 pl (1 : Int32) mpar x1 Q n21 (0 : Int32) (0 : Int32))) ∧ (¬ r3 = (0 : Int32) → (∃ n21 : Nat, vX4_leaves_L21 pl (0 : Int32) mpar x1 Q n21 (0 : Int32) (0 : Int32))))))
set_option maxHeartbeats 4000000 in
set_option maxRecDepth 100000 in
theorem mtX4_leaves {l : Launch} {γ : Gm} {bd : Nat → Nat} {pl : Int32} {msn : Int32} {thr : Int32} {mpar : Ar} {mcel : Ar} {mhel : Ar} {mclo : Ar} {msea : Ar} {mwei : Ar} {msha : Ar} {mmon : Ar} {x1 : Int32} {Q : Int32 → (Int32) → Prop} (hv : vX4_leaves pl thr mpar x1 Q) : CtI l γ yX4_leaves cX4_leaves 4 .int 2 45 0 0 [.ref (bd 0), .int x1] (wN γ bd pl msn thr mpar mcel mhel mclo msea mwei msha mmon) (fun (r : Int32) (u : Int32) => Q r u) (fun u => wN γ bd pl msn u mpar mcel mhel mclo msea mwei msha mmon) := startI (by decide +kernel) (Nat.le_of_ble_eq_true rfl) (fun κ C RT hR hnm => by
  show G l γ κ (wN γ bd pl msn thr mpar mcel mhel mclo msea mwei msha mmon) [(0, .ref (bd 0)), (1, .int x1)] 0 0 [] 0
  refine g_aload_n (pc' := 1) C dX4_leaves_0 rfl rfl rfl ?_
  refine g_aload_n (pc' := 2) C dX4_leaves_1 rfl rfl rfl ?_
  refine g_iload_n (pc' := 3) C dX4_leaves_2 rfl rfl rfl ?_
  refine csI (pc' := 6) C (run_VI (rest := [.ref (bd 0)]) C lk_X4_57 (mtX4_isPlace hv) ⟨by decide, by decide⟩ rfl rfl rfl rfl (Nat.le_of_ble_eq_true rfl) ⟨Nat.zero_le _, Nat.zero_le _⟩ dX4_leaves_3) rfl (fun r3 u3 hv => ?_)
  obtain ⟨hv1, hv2⟩ := hv
  refine g_if_eq (pc' := 9) (tgt := 13) C dX4_leaves_6 rfl (by decide) (fun c => ?_) (fun c => ?_)
  · have hv := hv1 c
    refine g_iconst (pc' := 14) (v := (1 : Int32)) C dX4_leaves_13 rfl (by decide) ?_
    refine pf_X4_38 (pc' := 17) (ws' := wN γ bd pl msn (1 : Int32) mpar mcel mhel mclo msea mwei msha mmon) C dX4_leaves_14 rfl 0 rfl rfl rfl (Nat.le_of_ble_eq_true rfl) rfl ?_
    refine g_iconst (pc' := 18) (v := (0 : Int32)) C dX4_leaves_17 rfl (by decide) ?_
    refine g_istore_n (pc' := 19) (lv' := [(2, .int (0 : Int32)), (0, .ref (bd 0)), (1, .int x1)]) C dX4_leaves_18 rfl rfl (by decide) rfl ?_
    refine g_iconst (pc' := 20) (v := (0 : Int32)) C dX4_leaves_19 rfl (by decide) ?_
    refine g_istore_n (pc' := 21) (lv' := [(3, .int (0 : Int32)), (2, .int (0 : Int32)), (0, .ref (bd 0)), (1, .int x1)]) C dX4_leaves_20 rfl rfl (by decide) rfl ?_
    refine g_sub (lv' := [(0, .ref (bd 0)), (1, .int x1), (2, .int (0 : Int32)), (3, .int (0 : Int32))]) [2, 3, 1, 0] rfl ?_
    obtain ⟨n21, hv⟩ := hv
    exact wvX4_leaves_L21 C RT  n21 _ _ hv
  · have hv := hv2 c
    refine g_iconst (pc' := 10) (v := (0 : Int32)) C dX4_leaves_9 rfl (by decide) ?_
    refine g_goto (tgt := 14) C dX4_leaves_10 (by decide) ?_
    refine pf_X4_38 (pc' := 17) (ws' := wN γ bd pl msn (0 : Int32) mpar mcel mhel mclo msea mwei msha mmon) C dX4_leaves_14 rfl 0 rfl rfl rfl (Nat.le_of_ble_eq_true rfl) rfl ?_
    refine g_iconst (pc' := 18) (v := (0 : Int32)) C dX4_leaves_17 rfl (by decide) ?_
    refine g_istore_n (pc' := 19) (lv' := [(2, .int (0 : Int32)), (0, .ref (bd 0)), (1, .int x1)]) C dX4_leaves_18 rfl rfl (by decide) rfl ?_
    refine g_iconst (pc' := 20) (v := (0 : Int32)) C dX4_leaves_19 rfl (by decide) ?_
    refine g_istore_n (pc' := 21) (lv' := [(3, .int (0 : Int32)), (2, .int (0 : Int32)), (0, .ref (bd 0)), (1, .int x1)]) C dX4_leaves_20 rfl rfl (by decide) rfl ?_
    refine g_sub (lv' := [(0, .ref (bd 0)), (1, .int x1), (2, .int (0 : Int32)), (3, .int (0 : Int32))]) [2, 3, 1, 0] rfl ?_
    obtain ⟨n21, hv⟩ := hv
    exact wvX4_leaves_L21 C RT  n21 _ _ hv)
def vX4_puts (mcel : Ar) (x1 : Int32) (x2 : Int32) (Q : Int32 → (Ar) → Prop) : Prop := (vp_in x1 1440 ∧ (vp_in x1 1440 ∧ (Q (mcel x1.toNatClampNeg) (upd mcel x1.toNatClampNeg x2))))
set_option maxHeartbeats 4000000 in
set_option maxRecDepth 100000 in
theorem mtX4_puts {l : Launch} {γ : Gm} {bd : Nat → Nat} {pl : Int32} {msn : Int32} {thr : Int32} {mpar : Ar} {mcel : Ar} {mhel : Ar} {mclo : Ar} {msea : Ar} {mwei : Ar} {msha : Ar} {mmon : Ar} {x1 : Int32} {x2 : Int32} {Q : Int32 → (Ar) → Prop} (hv : vX4_puts mcel x1 x2 Q) : CtI l γ yX4_puts cX4_puts 4 .int 0 0 0 0 [.ref (bd 0), .int x1, .int x2] (wN γ bd pl msn thr mpar mcel mhel mclo msea mwei msha mmon) (fun (r : Int32) (u : Ar) => Q r u) (fun u => wN γ bd pl msn thr mpar u mhel mclo msea mwei msha mmon) := startI (by decide +kernel) (Nat.le_of_ble_eq_true rfl) (fun κ C RT hR hnm => by
  show G l γ κ (wN γ bd pl msn thr mpar mcel mhel mclo msea mwei msha mmon) [(0, .ref (bd 0)), (1, .int x1), (2, .int x2)] 0 0 [] 0
  refine g_aload_n (pc' := 1) C dX4_puts_0 rfl rfl rfl ?_
  refine gf_X4_17 (pc' := 4) C dX4_puts_1 rfl 0 rfl rfl ?_
  refine g_iload_n (pc' := 5) C dX4_puts_4 rfl rfl rfl ?_
  obtain ⟨hi, hv⟩ := hv
  refine g_iald (pc' := 6) C dX4_puts_5 rfl 2 rfl hi ?_
  refine g_istore_n (pc' := 7) (lv' := [(3, .int (mcel x1.toNatClampNeg)), (0, .ref (bd 0)), (1, .int x1), (2, .int x2)]) C dX4_puts_6 rfl rfl (by decide) rfl ?_
  refine g_aload_n (pc' := 8) C dX4_puts_7 rfl rfl rfl ?_
  refine gf_X4_17 (pc' := 11) C dX4_puts_8 rfl 0 rfl rfl ?_
  refine g_iload_n (pc' := 12) C dX4_puts_11 rfl rfl rfl ?_
  refine g_iload_n (pc' := 13) C dX4_puts_12 rfl rfl rfl ?_
  obtain ⟨hi, hv⟩ := hv
  refine g_iast (pc' := 14) (ws' := wN γ bd pl msn thr mpar (upd mcel x1.toNatClampNeg x2) mhel mclo msea mwei msha mmon) C dX4_puts_13 rfl 2 rfl hi rfl ?_
  refine g_iload_n (pc' := 15) C dX4_puts_14 rfl rfl rfl ?_
  exact RT (mcel x1.toNatClampNeg) (upd mcel x1.toNatClampNeg x2) _ _ _ _ dX4_puts_15 rfl (by decide) (by decide) hv)
def vX4_set_J86 (pl : Int32) (thr : Int32) (mpar : Ar) (mcel : Ar) (mclo : Ar) (Q : Int32 → (Int32 × Ar) → Prop) : Prop := (vX4_fails thr (3 : Int32) (fun r88 u88 => (Q r88 (u88, mcel))))
set_option maxHeartbeats 4000000 in
set_option maxRecDepth 100000 in
theorem wvX4_set_J86 {l : Launch} {γ : Gm} {κ : Kx} {bd : Nat → Nat} {pl : Int32} {msn : Int32} {thr : Int32} {mpar : Ar} {mcel : Ar} {mhel : Ar} {mclo : Ar} {msea : Ar} {mwei : Ar} {msha : Ar} {mmon : Ar} {Q : Int32 → (Int32 × Ar) → Prop} (C : Ok γ κ cX4_set 6 RX4 2 43) (RT : RtI l γ κ cX4_set .int 0 0 (fun (r : Int32) (u : Int32 × Ar) => Q r u) (fun u => wN γ bd pl msn u.1 mpar u.2 mhel mclo msea mwei msha mmon))  (hv : vX4_set_J86 pl thr mpar mcel mclo Q) : G l γ κ (wN γ bd pl msn thr mpar mcel mhel mclo msea mwei msha mmon) [(0, .ref (bd 0))] 0 0 [] 86 := by
  refine g_aload_n (pc' := 87) C dX4_set_86 rfl rfl rfl ?_
  refine g_iconst (pc' := 88) (v := (3 : Int32)) C dX4_set_87 rfl (by decide) ?_
  refine csI (pc' := 91) C (run_VI (rest := []) C lk_X4_76 (mtX4_fails hv) ⟨by decide, by decide⟩ rfl rfl rfl rfl (Nat.le_of_ble_eq_true rfl) ⟨Nat.zero_le _, Nat.zero_le _⟩ dX4_set_88) rfl (fun r88 u88 hv => ?_)
  exact RT r88 (u88, mcel) _ _ _ _ dX4_set_91 rfl (by decide) (by decide) hv
def vX4_set_J51 (pl : Int32) (thr : Int32) (mpar : Ar) (mcel : Ar) (mclo : Ar) (x1 : Int32) (x2 : Int32) (x3 : Int32) (x4 : Int32) (x5 : Int32) (s0 : Int32) (Q : Int32 → (Int32 × Ar) → Prop) : Prop := ((s0 ≤ (0 : Int32) → (vX4_isLeaf pl mpar x2 (fun r65 => ((r65 = (0 : Int32) → (vX4_set_J86 pl s0 mpar mcel mclo Q)) ∧ (¬ r65 = (0 : Int32) → (vp_in (((10 : Int32) * x1) + x2) 30 ∧ ((¬ (mclo (((10 : Int32) * x1) + x2).toNatClampNeg) = (1 : Int32) → (vX4_at x1 x2 x3 x4 (fun r98 => (vX4_puts mcel r98 x5 (fun r103 u103 => (Q r103 (s0, u103))))))) ∧ ((mclo (((10 : Int32) * x1) + x2).toNatClampNeg) = (1 : Int32) → (vX4_set_J86 pl s0 mpar mcel mclo Q))))))))) ∧ (¬ s0 ≤ (0 : Int32) → (Q (0 : Int32) (s0, mcel))))
set_option maxHeartbeats 4000000 in
set_option maxRecDepth 100000 in
theorem wvX4_set_J51 {l : Launch} {γ : Gm} {κ : Kx} {bd : Nat → Nat} {pl : Int32} {msn : Int32} {thr : Int32} {mpar : Ar} {mcel : Ar} {mhel : Ar} {mclo : Ar} {msea : Ar} {mwei : Ar} {msha : Ar} {mmon : Ar} {x1 : Int32} {x2 : Int32} {x3 : Int32} {x4 : Int32} {x5 : Int32} {s0 : Int32} {Q : Int32 → (Int32 × Ar) → Prop} (C : Ok γ κ cX4_set 6 RX4 2 43) (RT : RtI l γ κ cX4_set .int 0 0 (fun (r : Int32) (u : Int32 × Ar) => Q r u) (fun u => wN γ bd pl msn u.1 mpar u.2 mhel mclo msea mwei msha mmon))  (hv : vX4_set_J51 pl thr mpar mcel mclo x1 x2 x3 x4 x5 s0 Q) : G l γ κ (wN γ bd pl msn thr mpar mcel mhel mclo msea mwei msha mmon) [(0, .ref (bd 0)), (1, .int x1), (2, .int x2), (3, .int x3), (4, .int x4), (5, .int x5)] 0 0 [.int s0, .ref (bd 0)] 51 := by
  refine pf_X4_38 (pc' := 54) (ws' := wN γ bd pl msn s0 mpar mcel mhel mclo msea mwei msha mmon) C dX4_set_51 rfl 0 rfl rfl rfl (Nat.le_of_ble_eq_true rfl) rfl ?_
  refine g_aload_n (pc' := 55) C dX4_set_54 rfl rfl rfl ?_
  refine gf_X4_38 (pc' := 58) C dX4_set_55 rfl 0 rfl rfl ?_
  obtain ⟨hv1, hv2⟩ := hv
  refine g_if_le (pc' := 61) (tgt := 63) C dX4_set_58 rfl (by decide) (fun c => ?_) (fun c => ?_)
  · have hv := hv1 c
    refine g_aload_n (pc' := 64) C dX4_set_63 rfl rfl rfl ?_
    refine g_iload_n (pc' := 65) C dX4_set_64 rfl rfl rfl ?_
    refine csI (pc' := 68) C (run_VI (rest := []) C lk_X4_45 (mtX4_isLeaf hv) ⟨by decide, by decide⟩ rfl rfl rfl rfl (Nat.le_of_ble_eq_true rfl) ⟨Nat.zero_le _, Nat.zero_le _⟩ dX4_set_65) rfl (fun r65 u65 hv => ?_)
    obtain ⟨hv1, hv2⟩ := hv
    refine g_if_eq (pc' := 71) (tgt := 86) C dX4_set_68 rfl (by decide) (fun c => ?_) (fun c => ?_)
    · have hv := hv1 c
      refine g_sub (lv' := [(0, .ref (bd 0))]) [0] rfl ?_
      exact wvX4_set_J86 C RT  hv
    · have hv := hv2 c
      refine g_aload_n (pc' := 72) C dX4_set_71 rfl rfl rfl ?_
      refine gf_X4_23 (pc' := 75) C dX4_set_72 rfl 0 rfl rfl ?_
      refine g_bipush (pc' := 77) (v := (10 : Int32)) C dX4_set_75 rfl (by decide) ?_
      refine g_iload_n (pc' := 78) C dX4_set_77 rfl rfl rfl ?_
      refine g_imul (pc' := 79) C dX4_set_78 rfl ?_
      refine g_iload_n (pc' := 80) C dX4_set_79 rfl rfl rfl ?_
      refine g_iadd (pc' := 81) C dX4_set_80 rfl ?_
      obtain ⟨hi, hv⟩ := hv
      refine g_iald (pc' := 82) C dX4_set_81 rfl 4 rfl hi ?_
      refine g_iconst (pc' := 83) (v := (1 : Int32)) C dX4_set_82 rfl (by decide) ?_
      obtain ⟨hv1, hv2⟩ := hv
      refine g_icmp_ne (pc' := 86) (tgt := 92) C dX4_set_83 rfl (by decide) (fun c => ?_) (fun c => ?_)
      · have hv := hv1 c
        refine g_aload_n (pc' := 93) C dX4_set_92 rfl rfl rfl ?_
        refine g_iload_n (pc' := 94) C dX4_set_93 rfl rfl rfl ?_
        refine g_iload_n (pc' := 95) C dX4_set_94 rfl rfl rfl ?_
        refine g_iload_n (pc' := 96) C dX4_set_95 rfl rfl rfl ?_
        refine g_iload (pc' := 98) C dX4_set_96 rfl rfl ?_
        refine cnI (pc' := 101) C (run_SI (rest := [.ref (bd 0)]) C lk_X4_53 (mtX4_at hv) ⟨by decide, by decide⟩ rfl rfl (Nat.le_of_ble_eq_true rfl) ⟨Nat.zero_le _, Nat.zero_le _⟩ dX4_set_98) rfl (fun r98 u98 hv => ?_)
        refine g_iload (pc' := 103) C dX4_set_101 rfl rfl ?_
        refine csI (pc' := 106) C (run_VI (rest := []) C lk_X4_80 (mtX4_puts hv) ⟨by decide, by decide⟩ rfl rfl rfl rfl (Nat.le_of_ble_eq_true rfl) ⟨Nat.zero_le _, Nat.zero_le _⟩ dX4_set_103) rfl (fun r103 u103 hv => ?_)
        exact RT r103 (s0, u103) _ _ _ _ dX4_set_106 rfl (by decide) (by decide) hv
      · have hv := hv2 c
        refine g_sub (lv' := [(0, .ref (bd 0))]) [0] rfl ?_
        exact wvX4_set_J86 C RT  hv
  · have hv := hv2 c
    refine g_iconst (pc' := 62) (v := (0 : Int32)) C dX4_set_61 rfl (by decide) ?_
    exact RT (0 : Int32) (s0, mcel) _ _ _ _ dX4_set_62 rfl (by decide) (by decide) hv
def vX4_set_J33 (pl : Int32) (thr : Int32) (mpar : Ar) (mcel : Ar) (mclo : Ar) (x1 : Int32) (x2 : Int32) (x3 : Int32) (x4 : Int32) (x5 : Int32) (Q : Int32 → (Int32 × Ar) → Prop) : Prop := (vX4_set_J51 pl thr mpar mcel mclo x1 x2 x3 x4 x5 (1 : Int32) Q)
set_option maxHeartbeats 4000000 in
set_option maxRecDepth 100000 in
theorem wvX4_set_J33 {l : Launch} {γ : Gm} {κ : Kx} {bd : Nat → Nat} {pl : Int32} {msn : Int32} {thr : Int32} {mpar : Ar} {mcel : Ar} {mhel : Ar} {mclo : Ar} {msea : Ar} {mwei : Ar} {msha : Ar} {mmon : Ar} {x1 : Int32} {x2 : Int32} {x3 : Int32} {x4 : Int32} {x5 : Int32} {Q : Int32 → (Int32 × Ar) → Prop} (C : Ok γ κ cX4_set 6 RX4 2 43) (RT : RtI l γ κ cX4_set .int 0 0 (fun (r : Int32) (u : Int32 × Ar) => Q r u) (fun u => wN γ bd pl msn u.1 mpar u.2 mhel mclo msea mwei msha mmon))  (hv : vX4_set_J33 pl thr mpar mcel mclo x1 x2 x3 x4 x5 Q) : G l γ κ (wN γ bd pl msn thr mpar mcel mhel mclo msea mwei msha mmon) [(0, .ref (bd 0)), (1, .int x1), (2, .int x2), (3, .int x3), (4, .int x4), (5, .int x5)] 0 0 [.ref (bd 0)] 33 := by
  refine g_iconst (pc' := 34) (v := (1 : Int32)) C dX4_set_33 rfl (by decide) ?_
  refine g_goto (tgt := 51) C dX4_set_34 (by decide) ?_
  exact wvX4_set_J51 C RT  hv
def vX4_set (pl : Int32) (thr : Int32) (mpar : Ar) (mcel : Ar) (mclo : Ar) (x1 : Int32) (x2 : Int32) (x3 : Int32) (x4 : Int32) (x5 : Int32) (Q : Int32 → (Int32 × Ar) → Prop) : Prop := (vX4_isVersion x1 (fun r2 => ((r2 = (0 : Int32) → (vX4_set_J33 pl thr mpar mcel mclo x1 x2 x3 x4 x5 Q)) ∧ (¬ r2 = (0 : Int32) → (vX4_isPlace pl x2 (fun r10 => ((r10 = (0 : Int32) → (vX4_set_J33 pl thr mpar mcel mclo x1 x2 x3 x4 x5 Q)) ∧ (¬ r10 = (0 : Int32) → (vX4_in x3 (0 : Int32) (2 : Int32) (fun r19 => ((r19 = (0 : Int32) → (vX4_set_J33 pl thr mpar mcel mclo x1 x2 x3 x4 x5 Q)) ∧ (¬ r19 = (0 : Int32) → (vX4_isMonth x4 (fun r27 => ((¬ r27 = (0 : Int32) → (vX4_isAmount x3 x5 (fun r40 => ((¬ r40 = (0 : Int32) → (vX4_set_J51 pl thr mpar mcel mclo x1 x2 x3 x4 x5 (0 : Int32) Q)) ∧ (r40 = (0 : Int32) → (vX4_set_J51 pl thr mpar mcel mclo x1 x2 x3 x4 x5 (2 : Int32) Q)))))) ∧ (r27 = (0 : Int32) → (vX4_set_J33 pl thr mpar mcel mclo x1 x2 x3 x4 x5 Q)))))))))))))))))
set_option maxHeartbeats 4000000 in
set_option maxRecDepth 100000 in
theorem mtX4_set {l : Launch} {γ : Gm} {bd : Nat → Nat} {pl : Int32} {msn : Int32} {thr : Int32} {mpar : Ar} {mcel : Ar} {mhel : Ar} {mclo : Ar} {msea : Ar} {mwei : Ar} {msha : Ar} {mmon : Ar} {x1 : Int32} {x2 : Int32} {x3 : Int32} {x4 : Int32} {x5 : Int32} {Q : Int32 → (Int32 × Ar) → Prop} (hv : vX4_set pl thr mpar mcel mclo x1 x2 x3 x4 x5 Q) : CtI l γ yX4_set cX4_set 6 .int 2 43 0 0 [.ref (bd 0), .int x1, .int x2, .int x3, .int x4, .int x5] (wN γ bd pl msn thr mpar mcel mhel mclo msea mwei msha mmon) (fun (r : Int32) (u : Int32 × Ar) => Q r u) (fun u => wN γ bd pl msn u.1 mpar u.2 mhel mclo msea mwei msha mmon) := startI (by decide +kernel) (Nat.le_of_ble_eq_true rfl) (fun κ C RT hR hnm => by
  show G l γ κ (wN γ bd pl msn thr mpar mcel mhel mclo msea mwei msha mmon) [(0, .ref (bd 0)), (1, .int x1), (2, .int x2), (3, .int x3), (4, .int x4), (5, .int x5)] 0 0 [] 0
  refine g_aload_n (pc' := 1) C dX4_set_0 rfl rfl rfl ?_
  refine g_iload_n (pc' := 2) C dX4_set_1 rfl rfl rfl ?_
  refine cnI (pc' := 5) C (run_SI (rest := [.ref (bd 0)]) C lk_X4_67 (mtX4_isVersion hv) ⟨by decide, by decide⟩ rfl rfl (Nat.le_of_ble_eq_true rfl) ⟨Nat.zero_le _, Nat.zero_le _⟩ dX4_set_2) rfl (fun r2 u2 hv => ?_)
  obtain ⟨hv1, hv2⟩ := hv
  refine g_if_eq (pc' := 8) (tgt := 33) C dX4_set_5 rfl (by decide) (fun c => ?_) (fun c => ?_)
  · have hv := hv1 c
    exact wvX4_set_J33 C RT  hv
  · have hv := hv2 c
    refine g_aload_n (pc' := 9) C dX4_set_8 rfl rfl rfl ?_
    refine g_iload_n (pc' := 10) C dX4_set_9 rfl rfl rfl ?_
    refine csI (pc' := 13) C (run_VI (rest := [.ref (bd 0)]) C lk_X4_57 (mtX4_isPlace hv) ⟨by decide, by decide⟩ rfl rfl rfl rfl (Nat.le_of_ble_eq_true rfl) ⟨Nat.zero_le _, Nat.zero_le _⟩ dX4_set_10) rfl (fun r10 u10 hv => ?_)
    obtain ⟨hv1, hv2⟩ := hv
    refine g_if_eq (pc' := 16) (tgt := 33) C dX4_set_13 rfl (by decide) (fun c => ?_) (fun c => ?_)
    · have hv := hv1 c
      exact wvX4_set_J33 C RT  hv
    · have hv := hv2 c
      refine g_iload_n (pc' := 17) C dX4_set_16 rfl rfl rfl ?_
      refine g_iconst (pc' := 18) (v := (0 : Int32)) C dX4_set_17 rfl (by decide) ?_
      refine g_iconst (pc' := 19) (v := (2 : Int32)) C dX4_set_18 rfl (by decide) ?_
      refine cnI (pc' := 22) C (run_SI (rest := [.ref (bd 0)]) C lk_X4_41 (mtX4_in hv) ⟨by decide, by decide⟩ rfl rfl (Nat.le_of_ble_eq_true rfl) ⟨Nat.zero_le _, Nat.zero_le _⟩ dX4_set_19) rfl (fun r19 u19 hv => ?_)
      obtain ⟨hv1, hv2⟩ := hv
      refine g_if_eq (pc' := 25) (tgt := 33) C dX4_set_22 rfl (by decide) (fun c => ?_) (fun c => ?_)
      · have hv := hv1 c
        exact wvX4_set_J33 C RT  hv
      · have hv := hv2 c
        refine g_iload (pc' := 27) C dX4_set_25 rfl rfl ?_
        refine cnI (pc' := 30) C (run_SI (rest := [.ref (bd 0)]) C lk_X4_70 (mtX4_isMonth hv) ⟨by decide, by decide⟩ rfl rfl (Nat.le_of_ble_eq_true rfl) ⟨Nat.zero_le _, Nat.zero_le _⟩ dX4_set_27) rfl (fun r27 u27 hv => ?_)
        obtain ⟨hv1, hv2⟩ := hv
        refine g_if_ne (pc' := 33) (tgt := 37) C dX4_set_30 rfl (by decide) (fun c => ?_) (fun c => ?_)
        · have hv := hv1 c
          refine g_iload_n (pc' := 38) C dX4_set_37 rfl rfl rfl ?_
          refine g_iload (pc' := 40) C dX4_set_38 rfl rfl ?_
          refine cnI (pc' := 43) C (run_SI (rest := [.ref (bd 0)]) C lk_X4_73 (mtX4_isAmount hv) ⟨by decide, by decide⟩ rfl rfl (Nat.le_of_ble_eq_true rfl) ⟨Nat.zero_le _, Nat.zero_le _⟩ dX4_set_40) rfl (fun r40 u40 hv => ?_)
          obtain ⟨hv1, hv2⟩ := hv
          refine g_if_ne (pc' := 46) (tgt := 50) C dX4_set_43 rfl (by decide) (fun c => ?_) (fun c => ?_)
          · have hv := hv1 c
            refine g_iconst (pc' := 51) (v := (0 : Int32)) C dX4_set_50 rfl (by decide) ?_
            exact wvX4_set_J51 C RT  hv
          · have hv := hv2 c
            refine g_iconst (pc' := 47) (v := (2 : Int32)) C dX4_set_46 rfl (by decide) ?_
            refine g_goto (tgt := 51) C dX4_set_47 (by decide) ?_
            exact wvX4_set_J51 C RT  hv
        · have hv := hv2 c
          exact wvX4_set_J33 C RT  hv)
def vX4_hold_J74 (pl : Int32) (thr : Int32) (mpar : Ar) (mhel : Ar) (x1 : Int32) (x2 : Int32) (x3 : Int32) (s0 : Int32) (Q : Int32 → (Int32 × Ar) → Prop) : Prop := ((x3 = (0 : Int32) → (vp_in (((12 : Int32) * x1) + x2) 120 ∧ (narrow .boolean (.int s0) = .int s0 ∧ (Q s0 (thr, (upd mhel (((12 : Int32) * x1) + x2).toNatClampNeg (0 : Int32))))))) ∧ (¬ x3 = (0 : Int32) → (vp_in (((12 : Int32) * x1) + x2) 120 ∧ (narrow .boolean (.int s0) = .int s0 ∧ (Q s0 (thr, (upd mhel (((12 : Int32) * x1) + x2).toNatClampNeg (1 : Int32))))))))
set_option maxHeartbeats 4000000 in
set_option maxRecDepth 100000 in
theorem wvX4_hold_J74 {l : Launch} {γ : Gm} {κ : Kx} {bd : Nat → Nat} {pl : Int32} {msn : Int32} {thr : Int32} {mpar : Ar} {mcel : Ar} {mhel : Ar} {mclo : Ar} {msea : Ar} {mwei : Ar} {msha : Ar} {mmon : Ar} {x1 : Int32} {x2 : Int32} {x3 : Int32} {s0 : Int32} {Q : Int32 → (Int32 × Ar) → Prop} (C : Ok γ κ cX4_hold 5 RX4 2 43) (RT : RtI l γ κ cX4_hold .boolean 0 0 (fun (r : Int32) (u : Int32 × Ar) => Q r u) (fun u => wN γ bd pl msn u.1 mpar mcel u.2 mclo msea mwei msha mmon))  (hv : vX4_hold_J74 pl thr mpar mhel x1 x2 x3 s0 Q) : G l γ κ (wN γ bd pl msn thr mpar mcel mhel mclo msea mwei msha mmon) [(0, .ref (bd 0)), (1, .int x1), (2, .int x2), (3, .int x3)] 0 0 [.int s0] 74 := by
  refine g_istore (pc' := 76) (lv' := [(4, .int s0), (0, .ref (bd 0)), (1, .int x1), (2, .int x2), (3, .int x3)]) C dX4_hold_74 rfl (by decide) rfl ?_
  refine g_aload_n (pc' := 77) C dX4_hold_76 rfl rfl rfl ?_
  refine gf_X4_20 (pc' := 80) C dX4_hold_77 rfl 0 rfl rfl ?_
  refine g_bipush (pc' := 82) (v := (12 : Int32)) C dX4_hold_80 rfl (by decide) ?_
  refine g_iload_n (pc' := 83) C dX4_hold_82 rfl rfl rfl ?_
  refine g_imul (pc' := 84) C dX4_hold_83 rfl ?_
  refine g_iload_n (pc' := 85) C dX4_hold_84 rfl rfl rfl ?_
  refine g_iadd (pc' := 86) C dX4_hold_85 rfl ?_
  refine g_iload_n (pc' := 87) C dX4_hold_86 rfl rfl rfl ?_
  obtain ⟨hv1, hv2⟩ := hv
  refine g_if_eq (pc' := 90) (tgt := 94) C dX4_hold_87 rfl (by decide) (fun c => ?_) (fun c => ?_)
  · have hv := hv1 c
    refine g_iconst (pc' := 95) (v := (0 : Int32)) C dX4_hold_94 rfl (by decide) ?_
    obtain ⟨hi, hv⟩ := hv
    refine g_iast (pc' := 96) (ws' := wN γ bd pl msn thr mpar mcel (upd mhel (((12 : Int32) * x1) + x2).toNatClampNeg (0 : Int32)) mclo msea mwei msha mmon) C dX4_hold_95 rfl 3 rfl hi rfl ?_
    refine g_iload (pc' := 98) C dX4_hold_96 rfl rfl ?_
    obtain ⟨hn, hv⟩ := hv
    exact RT s0 (thr, (upd mhel (((12 : Int32) * x1) + x2).toNatClampNeg (0 : Int32))) _ _ _ _ dX4_hold_98 hn (by decide) (by decide) hv
  · have hv := hv2 c
    refine g_iconst (pc' := 91) (v := (1 : Int32)) C dX4_hold_90 rfl (by decide) ?_
    refine g_goto (tgt := 95) C dX4_hold_91 (by decide) ?_
    obtain ⟨hi, hv⟩ := hv
    refine g_iast (pc' := 96) (ws' := wN γ bd pl msn thr mpar mcel (upd mhel (((12 : Int32) * x1) + x2).toNatClampNeg (1 : Int32)) mclo msea mwei msha mmon) C dX4_hold_95 rfl 3 rfl hi rfl ?_
    refine g_iload (pc' := 98) C dX4_hold_96 rfl rfl ?_
    obtain ⟨hn, hv⟩ := hv
    exact RT s0 (thr, (upd mhel (((12 : Int32) * x1) + x2).toNatClampNeg (1 : Int32))) _ _ _ _ dX4_hold_98 hn (by decide) (by decide) hv
def vX4_hold_J65 (pl : Int32) (thr : Int32) (mpar : Ar) (mhel : Ar) (x1 : Int32) (x2 : Int32) (x3 : Int32) (s0 : Int32) (Q : Int32 → (Int32 × Ar) → Prop) : Prop := ((s0 = x3 → (vX4_hold_J74 pl thr mpar mhel x1 x2 x3 (0 : Int32) Q)) ∧ (¬ s0 = x3 → (vX4_hold_J74 pl thr mpar mhel x1 x2 x3 (1 : Int32) Q)))
set_option maxHeartbeats 4000000 in
set_option maxRecDepth 100000 in
theorem wvX4_hold_J65 {l : Launch} {γ : Gm} {κ : Kx} {bd : Nat → Nat} {pl : Int32} {msn : Int32} {thr : Int32} {mpar : Ar} {mcel : Ar} {mhel : Ar} {mclo : Ar} {msea : Ar} {mwei : Ar} {msha : Ar} {mmon : Ar} {x1 : Int32} {x2 : Int32} {x3 : Int32} {s0 : Int32} {Q : Int32 → (Int32 × Ar) → Prop} (C : Ok γ κ cX4_hold 5 RX4 2 43) (RT : RtI l γ κ cX4_hold .boolean 0 0 (fun (r : Int32) (u : Int32 × Ar) => Q r u) (fun u => wN γ bd pl msn u.1 mpar mcel u.2 mclo msea mwei msha mmon))  (hv : vX4_hold_J65 pl thr mpar mhel x1 x2 x3 s0 Q) : G l γ κ (wN γ bd pl msn thr mpar mcel mhel mclo msea mwei msha mmon) [(0, .ref (bd 0)), (1, .int x1), (2, .int x2), (3, .int x3)] 0 0 [.int s0] 65 := by
  refine g_iload_n (pc' := 66) C dX4_hold_65 rfl rfl rfl ?_
  obtain ⟨hv1, hv2⟩ := hv
  refine g_icmp_eq (pc' := 69) (tgt := 73) C dX4_hold_66 rfl (by decide) (fun c => ?_) (fun c => ?_)
  · have hv := hv1 c
    refine g_iconst (pc' := 74) (v := (0 : Int32)) C dX4_hold_73 rfl (by decide) ?_
    exact wvX4_hold_J74 C RT  hv
  · have hv := hv2 c
    refine g_iconst (pc' := 70) (v := (1 : Int32)) C dX4_hold_69 rfl (by decide) ?_
    refine g_goto (tgt := 74) C dX4_hold_70 (by decide) ?_
    exact wvX4_hold_J74 C RT  hv
def vX4_hold_J33 (pl : Int32) (thr : Int32) (mpar : Ar) (mhel : Ar) (x1 : Int32) (x2 : Int32) (x3 : Int32) (s0 : Int32) (Q : Int32 → (Int32 × Ar) → Prop) : Prop := ((s0 ≤ (0 : Int32) → (vp_in (((12 : Int32) * x1) + x2) 120 ∧ ((¬ (mhel (((12 : Int32) * x1) + x2).toNatClampNeg) = (1 : Int32) → (vX4_hold_J65 pl s0 mpar mhel x1 x2 x3 (0 : Int32) Q)) ∧ ((mhel (((12 : Int32) * x1) + x2).toNatClampNeg) = (1 : Int32) → (vX4_hold_J65 pl s0 mpar mhel x1 x2 x3 (1 : Int32) Q))))) ∧ (¬ s0 ≤ (0 : Int32) → (Q (0 : Int32) (s0, mhel))))
set_option maxHeartbeats 4000000 in
set_option maxRecDepth 100000 in
theorem wvX4_hold_J33 {l : Launch} {γ : Gm} {κ : Kx} {bd : Nat → Nat} {pl : Int32} {msn : Int32} {thr : Int32} {mpar : Ar} {mcel : Ar} {mhel : Ar} {mclo : Ar} {msea : Ar} {mwei : Ar} {msha : Ar} {mmon : Ar} {x1 : Int32} {x2 : Int32} {x3 : Int32} {s0 : Int32} {Q : Int32 → (Int32 × Ar) → Prop} (C : Ok γ κ cX4_hold 5 RX4 2 43) (RT : RtI l γ κ cX4_hold .boolean 0 0 (fun (r : Int32) (u : Int32 × Ar) => Q r u) (fun u => wN γ bd pl msn u.1 mpar mcel u.2 mclo msea mwei msha mmon))  (hv : vX4_hold_J33 pl thr mpar mhel x1 x2 x3 s0 Q) : G l γ κ (wN γ bd pl msn thr mpar mcel mhel mclo msea mwei msha mmon) [(0, .ref (bd 0)), (1, .int x1), (2, .int x2), (3, .int x3)] 0 0 [.int s0, .ref (bd 0)] 33 := by
  refine pf_X4_38 (pc' := 36) (ws' := wN γ bd pl msn s0 mpar mcel mhel mclo msea mwei msha mmon) C dX4_hold_33 rfl 0 rfl rfl rfl (Nat.le_of_ble_eq_true rfl) rfl ?_
  refine g_aload_n (pc' := 37) C dX4_hold_36 rfl rfl rfl ?_
  refine gf_X4_38 (pc' := 40) C dX4_hold_37 rfl 0 rfl rfl ?_
  obtain ⟨hv1, hv2⟩ := hv
  refine g_if_le (pc' := 43) (tgt := 45) C dX4_hold_40 rfl (by decide) (fun c => ?_) (fun c => ?_)
  · have hv := hv1 c
    refine g_aload_n (pc' := 46) C dX4_hold_45 rfl rfl rfl ?_
    refine gf_X4_20 (pc' := 49) C dX4_hold_46 rfl 0 rfl rfl ?_
    refine g_bipush (pc' := 51) (v := (12 : Int32)) C dX4_hold_49 rfl (by decide) ?_
    refine g_iload_n (pc' := 52) C dX4_hold_51 rfl rfl rfl ?_
    refine g_imul (pc' := 53) C dX4_hold_52 rfl ?_
    refine g_iload_n (pc' := 54) C dX4_hold_53 rfl rfl rfl ?_
    refine g_iadd (pc' := 55) C dX4_hold_54 rfl ?_
    obtain ⟨hi, hv⟩ := hv
    refine g_iald (pc' := 56) C dX4_hold_55 rfl 3 rfl hi ?_
    refine g_iconst (pc' := 57) (v := (1 : Int32)) C dX4_hold_56 rfl (by decide) ?_
    obtain ⟨hv1, hv2⟩ := hv
    refine g_icmp_ne (pc' := 60) (tgt := 64) C dX4_hold_57 rfl (by decide) (fun c => ?_) (fun c => ?_)
    · have hv := hv1 c
      refine g_iconst (pc' := 65) (v := (0 : Int32)) C dX4_hold_64 rfl (by decide) ?_
      exact wvX4_hold_J65 C RT  hv
    · have hv := hv2 c
      refine g_iconst (pc' := 61) (v := (1 : Int32)) C dX4_hold_60 rfl (by decide) ?_
      refine g_goto (tgt := 65) C dX4_hold_61 (by decide) ?_
      exact wvX4_hold_J65 C RT  hv
  · have hv := hv2 c
    refine g_iconst (pc' := 44) (v := (0 : Int32)) C dX4_hold_43 rfl (by decide) ?_
    exact RT (0 : Int32) (s0, mhel) _ _ _ _ dX4_hold_44 rfl (by decide) (by decide) hv
def vX4_hold_J16 (pl : Int32) (thr : Int32) (mpar : Ar) (mhel : Ar) (x1 : Int32) (x2 : Int32) (x3 : Int32) (Q : Int32 → (Int32 × Ar) → Prop) : Prop := (vX4_hold_J33 pl thr mpar mhel x1 x2 x3 (1 : Int32) Q)
set_option maxHeartbeats 4000000 in
set_option maxRecDepth 100000 in
theorem wvX4_hold_J16 {l : Launch} {γ : Gm} {κ : Kx} {bd : Nat → Nat} {pl : Int32} {msn : Int32} {thr : Int32} {mpar : Ar} {mcel : Ar} {mhel : Ar} {mclo : Ar} {msea : Ar} {mwei : Ar} {msha : Ar} {mmon : Ar} {x1 : Int32} {x2 : Int32} {x3 : Int32} {Q : Int32 → (Int32 × Ar) → Prop} (C : Ok γ κ cX4_hold 5 RX4 2 43) (RT : RtI l γ κ cX4_hold .boolean 0 0 (fun (r : Int32) (u : Int32 × Ar) => Q r u) (fun u => wN γ bd pl msn u.1 mpar mcel u.2 mclo msea mwei msha mmon))  (hv : vX4_hold_J16 pl thr mpar mhel x1 x2 x3 Q) : G l γ κ (wN γ bd pl msn thr mpar mcel mhel mclo msea mwei msha mmon) [(0, .ref (bd 0)), (1, .int x1), (2, .int x2), (3, .int x3)] 0 0 [.ref (bd 0)] 16 := by
  refine g_iconst (pc' := 17) (v := (1 : Int32)) C dX4_hold_16 rfl (by decide) ?_
  refine g_goto (tgt := 33) C dX4_hold_17 (by decide) ?_
  exact wvX4_hold_J33 C RT  hv
def vX4_hold (pl : Int32) (thr : Int32) (mpar : Ar) (mhel : Ar) (x1 : Int32) (x2 : Int32) (x3 : Int32) (Q : Int32 → (Int32 × Ar) → Prop) : Prop := (vX4_isPlace pl x1 (fun r3 => ((r3 = (0 : Int32) → (vX4_hold_J16 pl thr mpar mhel x1 x2 x3 Q)) ∧ (¬ r3 = (0 : Int32) → (vX4_isMonth x2 (fun r10 => ((¬ r10 = (0 : Int32) → (vX4_isLeaf pl mpar x1 (fun r22 => ((¬ r22 = (0 : Int32) → (vX4_hold_J33 pl thr mpar mhel x1 x2 x3 (0 : Int32) Q)) ∧ (r22 = (0 : Int32) → (vX4_hold_J33 pl thr mpar mhel x1 x2 x3 (2 : Int32) Q)))))) ∧ (r10 = (0 : Int32) → (vX4_hold_J16 pl thr mpar mhel x1 x2 x3 Q)))))))))
set_option maxHeartbeats 4000000 in
set_option maxRecDepth 100000 in
theorem mtX4_hold {l : Launch} {γ : Gm} {bd : Nat → Nat} {pl : Int32} {msn : Int32} {thr : Int32} {mpar : Ar} {mcel : Ar} {mhel : Ar} {mclo : Ar} {msea : Ar} {mwei : Ar} {msha : Ar} {mmon : Ar} {x1 : Int32} {x2 : Int32} {x3 : Int32} {Q : Int32 → (Int32 × Ar) → Prop} (hv : vX4_hold pl thr mpar mhel x1 x2 x3 Q) : CtI l γ yX4_hold cX4_hold 5 .boolean 2 43 0 0 [.ref (bd 0), .int x1, .int x2, .int x3] (wN γ bd pl msn thr mpar mcel mhel mclo msea mwei msha mmon) (fun (r : Int32) (u : Int32 × Ar) => Q r u) (fun u => wN γ bd pl msn u.1 mpar mcel u.2 mclo msea mwei msha mmon) := startI (by decide +kernel) (Nat.le_of_ble_eq_true rfl) (fun κ C RT hR hnm => by
  show G l γ κ (wN γ bd pl msn thr mpar mcel mhel mclo msea mwei msha mmon) [(0, .ref (bd 0)), (1, .int x1), (2, .int x2), (3, .int x3)] 0 0 [] 0
  refine g_aload_n (pc' := 1) C dX4_hold_0 rfl rfl rfl ?_
  refine g_aload_n (pc' := 2) C dX4_hold_1 rfl rfl rfl ?_
  refine g_iload_n (pc' := 3) C dX4_hold_2 rfl rfl rfl ?_
  refine csI (pc' := 6) C (run_VI (rest := [.ref (bd 0)]) C lk_X4_57 (mtX4_isPlace hv) ⟨by decide, by decide⟩ rfl rfl rfl rfl (Nat.le_of_ble_eq_true rfl) ⟨Nat.zero_le _, Nat.zero_le _⟩ dX4_hold_3) rfl (fun r3 u3 hv => ?_)
  obtain ⟨hv1, hv2⟩ := hv
  refine g_if_eq (pc' := 9) (tgt := 16) C dX4_hold_6 rfl (by decide) (fun c => ?_) (fun c => ?_)
  · have hv := hv1 c
    exact wvX4_hold_J16 C RT  hv
  · have hv := hv2 c
    refine g_iload_n (pc' := 10) C dX4_hold_9 rfl rfl rfl ?_
    refine cnI (pc' := 13) C (run_SI (rest := [.ref (bd 0)]) C lk_X4_70 (mtX4_isMonth hv) ⟨by decide, by decide⟩ rfl rfl (Nat.le_of_ble_eq_true rfl) ⟨Nat.zero_le _, Nat.zero_le _⟩ dX4_hold_10) rfl (fun r10 u10 hv => ?_)
    obtain ⟨hv1, hv2⟩ := hv
    refine g_if_ne (pc' := 16) (tgt := 20) C dX4_hold_13 rfl (by decide) (fun c => ?_) (fun c => ?_)
    · have hv := hv1 c
      refine g_aload_n (pc' := 21) C dX4_hold_20 rfl rfl rfl ?_
      refine g_iload_n (pc' := 22) C dX4_hold_21 rfl rfl rfl ?_
      refine csI (pc' := 25) C (run_VI (rest := [.ref (bd 0)]) C lk_X4_45 (mtX4_isLeaf hv) ⟨by decide, by decide⟩ rfl rfl rfl rfl (Nat.le_of_ble_eq_true rfl) ⟨Nat.zero_le _, Nat.zero_le _⟩ dX4_hold_22) rfl (fun r22 u22 hv => ?_)
      obtain ⟨hv1, hv2⟩ := hv
      refine g_if_ne (pc' := 28) (tgt := 32) C dX4_hold_25 rfl (by decide) (fun c => ?_) (fun c => ?_)
      · have hv := hv1 c
        refine g_iconst (pc' := 33) (v := (0 : Int32)) C dX4_hold_32 rfl (by decide) ?_
        exact wvX4_hold_J33 C RT  hv
      · have hv := hv2 c
        refine g_iconst (pc' := 29) (v := (2 : Int32)) C dX4_hold_28 rfl (by decide) ?_
        refine g_goto (tgt := 33) C dX4_hold_29 (by decide) ?_
        exact wvX4_hold_J33 C RT  hv
    · have hv := hv2 c
      exact wvX4_hold_J16 C RT  hv)
def vX4_setSeason_J27 (thr : Int32) (msea : Ar) (x1 : Int32) (x2 : Int32) (s0 : Int32) (Q : Int32 → (Int32 × Ar) → Prop) : Prop := ((s0 ≤ (0 : Int32) → (vp_in x1 12 ∧ (vp_in x1 12 ∧ (Q (msea x1.toNatClampNeg) (s0, (upd msea x1.toNatClampNeg x2)))))) ∧ (¬ s0 ≤ (0 : Int32) → (Q (0 : Int32) (s0, msea))))
set_option maxHeartbeats 4000000 in
set_option maxRecDepth 100000 in
theorem wvX4_setSeason_J27 {l : Launch} {γ : Gm} {κ : Kx} {bd : Nat → Nat} {pl : Int32} {msn : Int32} {thr : Int32} {mpar : Ar} {mcel : Ar} {mhel : Ar} {mclo : Ar} {msea : Ar} {mwei : Ar} {msha : Ar} {mmon : Ar} {x1 : Int32} {x2 : Int32} {s0 : Int32} {Q : Int32 → (Int32 × Ar) → Prop} (C : Ok γ κ cX4_setSeason 4 RX4 2 42) (RT : RtI l γ κ cX4_setSeason .int 0 0 (fun (r : Int32) (u : Int32 × Ar) => Q r u) (fun u => wN γ bd pl msn u.1 mpar mcel mhel mclo u.2 mwei msha mmon))  (hv : vX4_setSeason_J27 thr msea x1 x2 s0 Q) : G l γ κ (wN γ bd pl msn thr mpar mcel mhel mclo msea mwei msha mmon) [(0, .ref (bd 0)), (1, .int x1), (2, .int x2)] 0 0 [.int s0, .ref (bd 0)] 27 := by
  refine pf_X4_38 (pc' := 30) (ws' := wN γ bd pl msn s0 mpar mcel mhel mclo msea mwei msha mmon) C dX4_setSeason_27 rfl 0 rfl rfl rfl (Nat.le_of_ble_eq_true rfl) rfl ?_
  refine g_aload_n (pc' := 31) C dX4_setSeason_30 rfl rfl rfl ?_
  refine gf_X4_38 (pc' := 34) C dX4_setSeason_31 rfl 0 rfl rfl ?_
  obtain ⟨hv1, hv2⟩ := hv
  refine g_if_le (pc' := 37) (tgt := 39) C dX4_setSeason_34 rfl (by decide) (fun c => ?_) (fun c => ?_)
  · have hv := hv1 c
    refine g_aload_n (pc' := 40) C dX4_setSeason_39 rfl rfl rfl ?_
    refine gf_X4_26 (pc' := 43) C dX4_setSeason_40 rfl 0 rfl rfl ?_
    refine g_iload_n (pc' := 44) C dX4_setSeason_43 rfl rfl rfl ?_
    obtain ⟨hi, hv⟩ := hv
    refine g_iald (pc' := 45) C dX4_setSeason_44 rfl 5 rfl hi ?_
    refine g_istore_n (pc' := 46) (lv' := [(3, .int (msea x1.toNatClampNeg)), (0, .ref (bd 0)), (1, .int x1), (2, .int x2)]) C dX4_setSeason_45 rfl rfl (by decide) rfl ?_
    refine g_aload_n (pc' := 47) C dX4_setSeason_46 rfl rfl rfl ?_
    refine gf_X4_26 (pc' := 50) C dX4_setSeason_47 rfl 0 rfl rfl ?_
    refine g_iload_n (pc' := 51) C dX4_setSeason_50 rfl rfl rfl ?_
    refine g_iload_n (pc' := 52) C dX4_setSeason_51 rfl rfl rfl ?_
    obtain ⟨hi, hv⟩ := hv
    refine g_iast (pc' := 53) (ws' := wN γ bd pl msn s0 mpar mcel mhel mclo (upd msea x1.toNatClampNeg x2) mwei msha mmon) C dX4_setSeason_52 rfl 5 rfl hi rfl ?_
    refine g_iload_n (pc' := 54) C dX4_setSeason_53 rfl rfl rfl ?_
    exact RT (msea x1.toNatClampNeg) (s0, (upd msea x1.toNatClampNeg x2)) _ _ _ _ dX4_setSeason_54 rfl (by decide) (by decide) hv
  · have hv := hv2 c
    refine g_iconst (pc' := 38) (v := (0 : Int32)) C dX4_setSeason_37 rfl (by decide) ?_
    exact RT (0 : Int32) (s0, msea) _ _ _ _ dX4_setSeason_38 rfl (by decide) (by decide) hv
def vX4_setSeason (thr : Int32) (msea : Ar) (x1 : Int32) (x2 : Int32) (Q : Int32 → (Int32 × Ar) → Prop) : Prop := (vX4_isMonth x1 (fun r2 => ((¬ r2 = (0 : Int32) → (vX4_in x2 (0 : Int32) (100 : Int32) (fun r16 => ((¬ r16 = (0 : Int32) → (vX4_setSeason_J27 thr msea x1 x2 (0 : Int32) Q)) ∧ (r16 = (0 : Int32) → (vX4_setSeason_J27 thr msea x1 x2 (2 : Int32) Q)))))) ∧ (r2 = (0 : Int32) → (vX4_setSeason_J27 thr msea x1 x2 (1 : Int32) Q)))))
set_option maxHeartbeats 4000000 in
set_option maxRecDepth 100000 in
theorem mtX4_setSeason {l : Launch} {γ : Gm} {bd : Nat → Nat} {pl : Int32} {msn : Int32} {thr : Int32} {mpar : Ar} {mcel : Ar} {mhel : Ar} {mclo : Ar} {msea : Ar} {mwei : Ar} {msha : Ar} {mmon : Ar} {x1 : Int32} {x2 : Int32} {Q : Int32 → (Int32 × Ar) → Prop} (hv : vX4_setSeason thr msea x1 x2 Q) : CtI l γ yX4_setSeason cX4_setSeason 4 .int 2 42 0 0 [.ref (bd 0), .int x1, .int x2] (wN γ bd pl msn thr mpar mcel mhel mclo msea mwei msha mmon) (fun (r : Int32) (u : Int32 × Ar) => Q r u) (fun u => wN γ bd pl msn u.1 mpar mcel mhel mclo u.2 mwei msha mmon) := startI (by decide +kernel) (Nat.le_of_ble_eq_true rfl) (fun κ C RT hR hnm => by
  show G l γ κ (wN γ bd pl msn thr mpar mcel mhel mclo msea mwei msha mmon) [(0, .ref (bd 0)), (1, .int x1), (2, .int x2)] 0 0 [] 0
  refine g_aload_n (pc' := 1) C dX4_setSeason_0 rfl rfl rfl ?_
  refine g_iload_n (pc' := 2) C dX4_setSeason_1 rfl rfl rfl ?_
  refine cnI (pc' := 5) C (run_SI (rest := [.ref (bd 0)]) C lk_X4_70 (mtX4_isMonth hv) ⟨by decide, by decide⟩ rfl rfl (Nat.le_of_ble_eq_true rfl) ⟨Nat.zero_le _, Nat.zero_le _⟩ dX4_setSeason_2) rfl (fun r2 u2 hv => ?_)
  obtain ⟨hv1, hv2⟩ := hv
  refine g_if_ne (pc' := 8) (tgt := 12) C dX4_setSeason_5 rfl (by decide) (fun c => ?_) (fun c => ?_)
  · have hv := hv1 c
    refine g_iload_n (pc' := 13) C dX4_setSeason_12 rfl rfl rfl ?_
    refine g_iconst (pc' := 14) (v := (0 : Int32)) C dX4_setSeason_13 rfl (by decide) ?_
    refine g_bipush (pc' := 16) (v := (100 : Int32)) C dX4_setSeason_14 rfl (by decide) ?_
    refine cnI (pc' := 19) C (run_SI (rest := [.ref (bd 0)]) C lk_X4_41 (mtX4_in hv) ⟨by decide, by decide⟩ rfl rfl (Nat.le_of_ble_eq_true rfl) ⟨Nat.zero_le _, Nat.zero_le _⟩ dX4_setSeason_16) rfl (fun r16 u16 hv => ?_)
    obtain ⟨hv1, hv2⟩ := hv
    refine g_if_ne (pc' := 22) (tgt := 26) C dX4_setSeason_19 rfl (by decide) (fun c => ?_) (fun c => ?_)
    · have hv := hv1 c
      refine g_iconst (pc' := 27) (v := (0 : Int32)) C dX4_setSeason_26 rfl (by decide) ?_
      exact wvX4_setSeason_J27 C RT  hv
    · have hv := hv2 c
      refine g_iconst (pc' := 23) (v := (2 : Int32)) C dX4_setSeason_22 rfl (by decide) ?_
      refine g_goto (tgt := 27) C dX4_setSeason_23 (by decide) ?_
      exact wvX4_setSeason_J27 C RT  hv
  · have hv := hv2 c
    refine g_iconst (pc' := 9) (v := (1 : Int32)) C dX4_setSeason_8 rfl (by decide) ?_
    refine g_goto (tgt := 27) C dX4_setSeason_9 (by decide) ?_
    exact wvX4_setSeason_J27 C RT  hv)
def vX4_shares_L82 (mwei : Ar) (x2 : Int32) (Q : (Ar) → Prop) : Nat → Int32 → Int32 → Ar → Prop
  | 0, _, _, _ => False
  | n + 1, x5, x6, msha => ((x2 ≤ x6 → (Q msha)) ∧ (¬ x2 ≤ x6 → (vp_in x6 12 ∧ (((mwei x6.toNatClampNeg) ≤ (0 : Int32) → (vX4_shares_L82 mwei x2 Q n x5 (x6 + (1 : Int32)) msha)) ∧ (¬ (mwei x6.toNatClampNeg) ≤ (0 : Int32) → ((x5 ≤ (0 : Int32) → (vX4_shares_L82 mwei x2 Q n x5 (x6 + (1 : Int32)) msha)) ∧ (¬ x5 ≤ (0 : Int32) → (vp_in x6 12 ∧ (vp_in x6 12 ∧ (vX4_shares_L82 mwei x2 Q n (x5 + (-1 : Int32)) (x6 + (1 : Int32)) (upd msha x6.toNatClampNeg ((msha x6.toNatClampNeg) + (1 : Int32)))))))))))))
set_option maxHeartbeats 4000000 in
set_option maxRecDepth 100000 in
theorem wvX4_shares_L82 {l : Launch} {γ : Gm} {κ : Kx} {bd : Nat → Nat} {pl : Int32} {msn : Int32} {thr : Int32} {mpar : Ar} {mcel : Ar} {mhel : Ar} {mclo : Ar} {msea : Ar} {mwei : Ar} {mmon : Ar} {x2 : Int32} {Q : (Ar) → Prop} (C : Ok γ κ cX4_shares 7 RX4 0 0) (RT : RtV l γ κ cX4_shares 0 0 (fun (u : Ar) => Q u) (fun u => wN γ bd pl msn thr mpar mcel mhel mclo msea mwei u mmon))  : ∀ (n : Nat) (x5 : Int32) (x6 : Int32) (msha : Ar), vX4_shares_L82 mwei x2 Q n x5 x6 msha → G l γ κ (wN γ bd pl msn thr mpar mcel mhel mclo msea mwei msha mmon) [(0, .ref (bd 0)), (2, .int x2), (5, .int x5), (6, .int x6)] 0 0 [] 82 := by
  intro n
  induction n with
  | zero => intro x5 x6 msha hv; exact False.elim hv
  | succ n ih =>
    intro x5 x6 msha hv
    refine g_iload (pc' := 84) C dX4_shares_82 rfl rfl ?_
    refine g_iload_n (pc' := 85) C dX4_shares_84 rfl rfl rfl ?_
    obtain ⟨hv1, hv2⟩ := hv
    refine g_icmp_ge (pc' := 88) (tgt := 123) C dX4_shares_85 rfl (by decide) (fun c => ?_) (fun c => ?_)
    · have hv := hv1 c
      exact RT msha _ _ _ _ dX4_shares_123 (by decide) (by decide) hv
    · have hv := hv2 c
      refine g_aload_n (pc' := 89) C dX4_shares_88 rfl rfl rfl ?_
      refine gf_X4_29 (pc' := 92) C dX4_shares_89 rfl 0 rfl rfl ?_
      refine g_iload (pc' := 94) C dX4_shares_92 rfl rfl ?_
      obtain ⟨hi, hv⟩ := hv
      refine g_iald (pc' := 95) C dX4_shares_94 rfl 6 rfl hi ?_
      obtain ⟨hv1, hv2⟩ := hv
      refine g_if_le (pc' := 98) (tgt := 117) C dX4_shares_95 rfl (by decide) (fun c => ?_) (fun c => ?_)
      · have hv := hv1 c
        refine g_iinc (pc' := 120) (v := (x6 + (1 : Int32))) (lv' := [(6, .int (x6 + (1 : Int32))), (0, .ref (bd 0)), (2, .int x2), (5, .int x5)]) C dX4_shares_117 rfl rfl rfl (by decide) rfl ?_
        refine g_goto (tgt := 82) C dX4_shares_120 (by decide) ?_
        refine g_sub (lv' := [(0, .ref (bd 0)), (2, .int x2), (5, .int x5), (6, .int (x6 + (1 : Int32)))]) [1, 2, 3, 0] rfl ?_
        exact ih _ _ _ hv
      · have hv := hv2 c
        refine g_iload (pc' := 100) C dX4_shares_98 rfl rfl ?_
        obtain ⟨hv1, hv2⟩ := hv
        refine g_if_le (pc' := 103) (tgt := 117) C dX4_shares_100 rfl (by decide) (fun c => ?_) (fun c => ?_)
        · have hv := hv1 c
          refine g_iinc (pc' := 120) (v := (x6 + (1 : Int32))) (lv' := [(6, .int (x6 + (1 : Int32))), (0, .ref (bd 0)), (2, .int x2), (5, .int x5)]) C dX4_shares_117 rfl rfl rfl (by decide) rfl ?_
          refine g_goto (tgt := 82) C dX4_shares_120 (by decide) ?_
          refine g_sub (lv' := [(0, .ref (bd 0)), (2, .int x2), (5, .int x5), (6, .int (x6 + (1 : Int32)))]) [1, 2, 3, 0] rfl ?_
          exact ih _ _ _ hv
        · have hv := hv2 c
          refine g_aload_n (pc' := 104) C dX4_shares_103 rfl rfl rfl ?_
          refine gf_X4_32 (pc' := 107) C dX4_shares_104 rfl 0 rfl rfl ?_
          refine g_iload (pc' := 109) C dX4_shares_107 rfl rfl ?_
          refine g_dup2 (pc' := 110) C dX4_shares_109 rfl rfl rfl ?_
          obtain ⟨hi, hv⟩ := hv
          refine g_iald (pc' := 111) C dX4_shares_110 rfl 7 rfl hi ?_
          refine g_iconst (pc' := 112) (v := (1 : Int32)) C dX4_shares_111 rfl (by decide) ?_
          refine g_iadd (pc' := 113) C dX4_shares_112 rfl ?_
          obtain ⟨hi, hv⟩ := hv
          refine g_iast (pc' := 114) (ws' := wN γ bd pl msn thr mpar mcel mhel mclo msea mwei (upd msha x6.toNatClampNeg ((msha x6.toNatClampNeg) + (1 : Int32))) mmon) C dX4_shares_113 rfl 7 rfl hi rfl ?_
          refine g_iinc (pc' := 117) (v := (x5 + (-1 : Int32))) (lv' := [(5, .int (x5 + (-1 : Int32))), (0, .ref (bd 0)), (2, .int x2), (6, .int x6)]) C dX4_shares_114 rfl rfl rfl (by decide) rfl ?_
          refine g_iinc (pc' := 120) (v := (x6 + (1 : Int32))) (lv' := [(6, .int (x6 + (1 : Int32))), (5, .int (x5 + (-1 : Int32))), (0, .ref (bd 0)), (2, .int x2)]) C dX4_shares_117 rfl rfl rfl (by decide) rfl ?_
          refine g_goto (tgt := 82) C dX4_shares_120 (by decide) ?_
          refine g_sub (lv' := [(0, .ref (bd 0)), (2, .int x2), (5, .int (x5 + (-1 : Int32))), (6, .int (x6 + (1 : Int32)))]) [2, 3, 1, 0] rfl ?_
          exact ih _ _ _ hv
def vX4_shares_L34 (mwei : Ar) (x1 : Int32) (x2 : Int32) (x3 : Int64) (Q : (Ar) → Prop) : Nat → Int32 → Int32 → Ar → Prop
  | 0, _, _, _ => False
  | n + 1, x5, x6, msha => ((x2 ≤ x6 → (∃ n82 : Nat, vX4_shares_L82 mwei x2 Q n82 x5 (0 : Int32) msha)) ∧ (¬ x2 ≤ x6 → (vp_in x6 12 ∧ (¬ x3 = 0 ∧ (vp_in x6 12 ∧ (vp_in x6 12 ∧ (vX4_shares_L34 mwei x1 x2 x3 Q n (x5 - ((upd msha x6.toNatClampNeg ((x1.toInt64 * (mwei x6.toNatClampNeg).toInt64) / x3).toInt32) x6.toNatClampNeg)) (x6 + (1 : Int32)) (upd msha x6.toNatClampNeg ((x1.toInt64 * (mwei x6.toNatClampNeg).toInt64) / x3).toInt32))))))))
set_option maxHeartbeats 4000000 in
set_option maxRecDepth 100000 in
theorem wvX4_shares_L34 {l : Launch} {γ : Gm} {κ : Kx} {bd : Nat → Nat} {pl : Int32} {msn : Int32} {thr : Int32} {mpar : Ar} {mcel : Ar} {mhel : Ar} {mclo : Ar} {msea : Ar} {mwei : Ar} {mmon : Ar} {x1 : Int32} {x2 : Int32} {x3 : Int64} {Q : (Ar) → Prop} (C : Ok γ κ cX4_shares 7 RX4 0 0) (RT : RtV l γ κ cX4_shares 0 0 (fun (u : Ar) => Q u) (fun u => wN γ bd pl msn thr mpar mcel mhel mclo msea mwei u mmon))  : ∀ (n : Nat) (x5 : Int32) (x6 : Int32) (msha : Ar), vX4_shares_L34 mwei x1 x2 x3 Q n x5 x6 msha → G l γ κ (wN γ bd pl msn thr mpar mcel mhel mclo msea mwei msha mmon) [(0, .ref (bd 0)), (1, .int x1), (2, .int x2), (3, .long x3), (5, .int x5), (6, .int x6)] 0 0 [] 34 := by
  intro n
  induction n with
  | zero => intro x5 x6 msha hv; exact False.elim hv
  | succ n ih =>
    intro x5 x6 msha hv
    refine g_iload (pc' := 36) C dX4_shares_34 rfl rfl ?_
    refine g_iload_n (pc' := 37) C dX4_shares_36 rfl rfl rfl ?_
    obtain ⟨hv1, hv2⟩ := hv
    refine g_icmp_ge (pc' := 40) (tgt := 79) C dX4_shares_37 rfl (by decide) (fun c => ?_) (fun c => ?_)
    · have hv := hv1 c
      refine g_iconst (pc' := 80) (v := (0 : Int32)) C dX4_shares_79 rfl (by decide) ?_
      refine g_istore (pc' := 82) (lv' := [(6, .int (0 : Int32)), (0, .ref (bd 0)), (1, .int x1), (2, .int x2), (3, .long x3), (5, .int x5)]) C dX4_shares_80 rfl (by decide) rfl ?_
      refine g_sub (lv' := [(0, .ref (bd 0)), (2, .int x2), (5, .int x5), (6, .int (0 : Int32))]) [1, 3, 5, 0] rfl ?_
      obtain ⟨n82, hv⟩ := hv
      exact wvX4_shares_L82 C RT  n82 _ _ _ hv
    · have hv := hv2 c
      refine g_aload_n (pc' := 41) C dX4_shares_40 rfl rfl rfl ?_
      refine gf_X4_32 (pc' := 44) C dX4_shares_41 rfl 0 rfl rfl ?_
      refine g_iload (pc' := 46) C dX4_shares_44 rfl rfl ?_
      refine g_iload_n (pc' := 47) C dX4_shares_46 rfl rfl rfl ?_
      refine g_i2l (pc' := 48) C dX4_shares_47 rfl ?_
      refine g_aload_n (pc' := 49) C dX4_shares_48 rfl rfl rfl ?_
      refine gf_X4_29 (pc' := 52) C dX4_shares_49 rfl 0 rfl rfl ?_
      refine g_iload (pc' := 54) C dX4_shares_52 rfl rfl ?_
      obtain ⟨hi, hv⟩ := hv
      refine g_iald (pc' := 55) C dX4_shares_54 rfl 6 rfl hi ?_
      refine g_i2l (pc' := 56) C dX4_shares_55 rfl ?_
      refine g_lmul (pc' := 57) C dX4_shares_56 rfl ?_
      refine g_lload_n (pc' := 58) C dX4_shares_57 rfl rfl rfl ?_
      obtain ⟨hd, hv⟩ := hv
      refine g_ldiv (pc' := 59) C dX4_shares_58 rfl hd ?_
      refine g_l2i (pc' := 60) C dX4_shares_59 rfl ?_
      obtain ⟨hi, hv⟩ := hv
      refine g_iast (pc' := 61) (ws' := wN γ bd pl msn thr mpar mcel mhel mclo msea mwei (upd msha x6.toNatClampNeg ((x1.toInt64 * (mwei x6.toNatClampNeg).toInt64) / x3).toInt32) mmon) C dX4_shares_60 rfl 7 rfl hi rfl ?_
      refine g_iload (pc' := 63) C dX4_shares_61 rfl rfl ?_
      refine g_aload_n (pc' := 64) C dX4_shares_63 rfl rfl rfl ?_
      refine gf_X4_32 (pc' := 67) C dX4_shares_64 rfl 0 rfl rfl ?_
      refine g_iload (pc' := 69) C dX4_shares_67 rfl rfl ?_
      obtain ⟨hi, hv⟩ := hv
      refine g_iald (pc' := 70) C dX4_shares_69 rfl 7 rfl hi ?_
      refine g_isub (pc' := 71) C dX4_shares_70 rfl ?_
      refine g_istore (pc' := 73) (lv' := [(5, .int (x5 - ((upd msha x6.toNatClampNeg ((x1.toInt64 * (mwei x6.toNatClampNeg).toInt64) / x3).toInt32) x6.toNatClampNeg))), (0, .ref (bd 0)), (1, .int x1), (2, .int x2), (3, .long x3), (6, .int x6)]) C dX4_shares_71 rfl (by decide) rfl ?_
      refine g_iinc (pc' := 76) (v := (x6 + (1 : Int32))) (lv' := [(6, .int (x6 + (1 : Int32))), (5, .int (x5 - ((upd msha x6.toNatClampNeg ((x1.toInt64 * (mwei x6.toNatClampNeg).toInt64) / x3).toInt32) x6.toNatClampNeg))), (0, .ref (bd 0)), (1, .int x1), (2, .int x2), (3, .long x3)]) C dX4_shares_73 rfl rfl rfl (by decide) rfl ?_
      refine g_goto (tgt := 34) C dX4_shares_76 (by decide) ?_
      refine g_sub (lv' := [(0, .ref (bd 0)), (1, .int x1), (2, .int x2), (3, .long x3), (5, .int (x5 - ((upd msha x6.toNatClampNeg ((x1.toInt64 * (mwei x6.toNatClampNeg).toInt64) / x3).toInt32) x6.toNatClampNeg))), (6, .int (x6 + (1 : Int32)))]) [2, 3, 4, 5, 1, 0] rfl ?_
      exact ih _ _ _ hv
def vX4_shares_L5 (mwei : Ar) (msha : Ar) (x1 : Int32) (x2 : Int32) (Q : (Ar) → Prop) : Nat → Int64 → Int32 → Prop
  | 0, _, _ => False
  | n + 1, x3, x5 => ((x2 ≤ x5 → (∃ n34 : Nat, vX4_shares_L34 mwei x1 x2 x3 Q n34 x1 (0 : Int32) msha)) ∧ (¬ x2 ≤ x5 → (vp_in x5 12 ∧ (vX4_shares_L5 mwei msha x1 x2 Q n (x3 + (mwei x5.toNatClampNeg).toInt64) (x5 + (1 : Int32))))))
set_option maxHeartbeats 4000000 in
set_option maxRecDepth 100000 in
theorem wvX4_shares_L5 {l : Launch} {γ : Gm} {κ : Kx} {bd : Nat → Nat} {pl : Int32} {msn : Int32} {thr : Int32} {mpar : Ar} {mcel : Ar} {mhel : Ar} {mclo : Ar} {msea : Ar} {mwei : Ar} {msha : Ar} {mmon : Ar} {x1 : Int32} {x2 : Int32} {Q : (Ar) → Prop} (C : Ok γ κ cX4_shares 7 RX4 0 0) (RT : RtV l γ κ cX4_shares 0 0 (fun (u : Ar) => Q u) (fun u => wN γ bd pl msn thr mpar mcel mhel mclo msea mwei u mmon))  : ∀ (n : Nat) (x3 : Int64) (x5 : Int32), vX4_shares_L5 mwei msha x1 x2 Q n x3 x5 → G l γ κ (wN γ bd pl msn thr mpar mcel mhel mclo msea mwei msha mmon) [(0, .ref (bd 0)), (1, .int x1), (2, .int x2), (3, .long x3), (5, .int x5)] 0 0 [] 5 := by
  intro n
  induction n with
  | zero => intro x3 x5 hv; exact False.elim hv
  | succ n ih =>
    intro x3 x5 hv
    refine g_iload (pc' := 7) C dX4_shares_5 rfl rfl ?_
    refine g_iload_n (pc' := 8) C dX4_shares_7 rfl rfl rfl ?_
    obtain ⟨hv1, hv2⟩ := hv
    refine g_icmp_ge (pc' := 11) (tgt := 28) C dX4_shares_8 rfl (by decide) (fun c => ?_) (fun c => ?_)
    · have hv := hv1 c
      refine g_iload_n (pc' := 29) C dX4_shares_28 rfl rfl rfl ?_
      refine g_istore (pc' := 31) (lv' := [(5, .int x1), (0, .ref (bd 0)), (1, .int x1), (2, .int x2), (3, .long x3)]) C dX4_shares_29 rfl (by decide) rfl ?_
      refine g_iconst (pc' := 32) (v := (0 : Int32)) C dX4_shares_31 rfl (by decide) ?_
      refine g_istore (pc' := 34) (lv' := [(6, .int (0 : Int32)), (5, .int x1), (0, .ref (bd 0)), (1, .int x1), (2, .int x2), (3, .long x3)]) C dX4_shares_32 rfl (by decide) rfl ?_
      refine g_sub (lv' := [(0, .ref (bd 0)), (1, .int x1), (2, .int x2), (3, .long x3), (5, .int x1), (6, .int (0 : Int32))]) [2, 3, 4, 5, 1, 0] rfl ?_
      obtain ⟨n34, hv⟩ := hv
      exact wvX4_shares_L34 C RT  n34 _ _ _ hv
    · have hv := hv2 c
      refine g_lload_n (pc' := 12) C dX4_shares_11 rfl rfl rfl ?_
      refine g_aload_n (pc' := 13) C dX4_shares_12 rfl rfl rfl ?_
      refine gf_X4_29 (pc' := 16) C dX4_shares_13 rfl 0 rfl rfl ?_
      refine g_iload (pc' := 18) C dX4_shares_16 rfl rfl ?_
      obtain ⟨hi, hv⟩ := hv
      refine g_iald (pc' := 19) C dX4_shares_18 rfl 6 rfl hi ?_
      refine g_i2l (pc' := 20) C dX4_shares_19 rfl ?_
      refine g_ladd (pc' := 21) C dX4_shares_20 rfl ?_
      refine g_lstore_n (pc' := 22) (lv' := [(3, .long (x3 + (mwei x5.toNatClampNeg).toInt64)), (0, .ref (bd 0)), (1, .int x1), (2, .int x2), (5, .int x5)]) C dX4_shares_21 rfl rfl (by decide) rfl ?_
      refine g_iinc (pc' := 25) (v := (x5 + (1 : Int32))) (lv' := [(5, .int (x5 + (1 : Int32))), (3, .long (x3 + (mwei x5.toNatClampNeg).toInt64)), (0, .ref (bd 0)), (1, .int x1), (2, .int x2)]) C dX4_shares_22 rfl rfl rfl (by decide) rfl ?_
      refine g_goto (tgt := 5) C dX4_shares_25 (by decide) ?_
      refine g_sub (lv' := [(0, .ref (bd 0)), (1, .int x1), (2, .int x2), (3, .long (x3 + (mwei x5.toNatClampNeg).toInt64)), (5, .int (x5 + (1 : Int32)))]) [2, 3, 4, 1, 0] rfl ?_
      exact ih _ _ hv
def vX4_shares (mwei : Ar) (msha : Ar) (x1 : Int32) (x2 : Int32) (Q : (Ar) → Prop) : Prop := (∃ n5 : Nat, vX4_shares_L5 mwei msha x1 x2 Q n5 (0 : Int64) (0 : Int32))
set_option maxHeartbeats 4000000 in
set_option maxRecDepth 100000 in
theorem mtX4_shares {l : Launch} {γ : Gm} {bd : Nat → Nat} {pl : Int32} {msn : Int32} {thr : Int32} {mpar : Ar} {mcel : Ar} {mhel : Ar} {mclo : Ar} {msea : Ar} {mwei : Ar} {msha : Ar} {mmon : Ar} {x1 : Int32} {x2 : Int32} {Q : (Ar) → Prop} (hv : vX4_shares mwei msha x1 x2 Q) : CtV l γ yX4_shares cX4_shares 7 0 0 0 0 [.ref (bd 0), .int x1, .int x2] (wN γ bd pl msn thr mpar mcel mhel mclo msea mwei msha mmon) (fun (u : Ar) => Q u) (fun u => wN γ bd pl msn thr mpar mcel mhel mclo msea mwei u mmon) := startV (by decide +kernel) (Nat.le_of_ble_eq_true rfl) (fun κ C RT hR hnm => by
  show G l γ κ (wN γ bd pl msn thr mpar mcel mhel mclo msea mwei msha mmon) [(0, .ref (bd 0)), (1, .int x1), (2, .int x2)] 0 0 [] 0
  refine g_lconst (pc' := 1) (v := (0 : Int64)) C dX4_shares_0 rfl (by decide) ?_
  refine g_lstore_n (pc' := 2) (lv' := [(3, .long (0 : Int64)), (0, .ref (bd 0)), (1, .int x1), (2, .int x2)]) C dX4_shares_1 rfl rfl (by decide) rfl ?_
  refine g_iconst (pc' := 3) (v := (0 : Int32)) C dX4_shares_2 rfl (by decide) ?_
  refine g_istore (pc' := 5) (lv' := [(5, .int (0 : Int32)), (3, .long (0 : Int64)), (0, .ref (bd 0)), (1, .int x1), (2, .int x2)]) C dX4_shares_3 rfl (by decide) rfl ?_
  refine g_sub (lv' := [(0, .ref (bd 0)), (1, .int x1), (2, .int x2), (3, .long (0 : Int64)), (5, .int (0 : Int32))]) [2, 3, 4, 1, 0] rfl ?_
  obtain ⟨n5, hv⟩ := hv
  exact wvX4_shares_L5 C RT  n5 _ _ hv)
def vX4_isFree (mhel : Ar) (mclo : Ar) (x1 : Int32) (x2 : Int32) (x3 : Int32) (Q : Int32 → Prop) : Prop := (vp_in (((12 : Int32) * x2) + x3) 120 ∧ ((¬ (mhel (((12 : Int32) * x2) + x3).toNatClampNeg) = (0 : Int32) → (Q (0 : Int32))) ∧ ((mhel (((12 : Int32) * x2) + x3).toNatClampNeg) = (0 : Int32) → (vp_in (((10 : Int32) * x1) + x2) 30 ∧ ((¬ (mclo (((10 : Int32) * x1) + x2).toNatClampNeg) = (0 : Int32) → (Q (0 : Int32))) ∧ ((mclo (((10 : Int32) * x1) + x2).toNatClampNeg) = (0 : Int32) → (Q (1 : Int32))))))))
set_option maxHeartbeats 4000000 in
set_option maxRecDepth 100000 in
theorem mtX4_isFree {l : Launch} {γ : Gm} {bd : Nat → Nat} {pl : Int32} {msn : Int32} {thr : Int32} {mpar : Ar} {mcel : Ar} {mhel : Ar} {mclo : Ar} {msea : Ar} {mwei : Ar} {msha : Ar} {mmon : Ar} {x1 : Int32} {x2 : Int32} {x3 : Int32} {Q : Int32 → Prop} (hv : vX4_isFree mhel mclo x1 x2 x3 Q) : CtI l γ yX4_isFree cX4_isFree 4 .boolean 0 0 0 0 [.ref (bd 0), .int x1, .int x2, .int x3] (wN γ bd pl msn thr mpar mcel mhel mclo msea mwei msha mmon) (fun (r : Int32) (_ : Unit) => Q r) (fun _ => wN γ bd pl msn thr mpar mcel mhel mclo msea mwei msha mmon) := startI (by decide +kernel) (Nat.le_of_ble_eq_true rfl) (fun κ C RT hR hnm => by
  show G l γ κ (wN γ bd pl msn thr mpar mcel mhel mclo msea mwei msha mmon) [(0, .ref (bd 0)), (1, .int x1), (2, .int x2), (3, .int x3)] 0 0 [] 0
  refine g_aload_n (pc' := 1) C dX4_isFree_0 rfl rfl rfl ?_
  refine gf_X4_20 (pc' := 4) C dX4_isFree_1 rfl 0 rfl rfl ?_
  refine g_bipush (pc' := 6) (v := (12 : Int32)) C dX4_isFree_4 rfl (by decide) ?_
  refine g_iload_n (pc' := 7) C dX4_isFree_6 rfl rfl rfl ?_
  refine g_imul (pc' := 8) C dX4_isFree_7 rfl ?_
  refine g_iload_n (pc' := 9) C dX4_isFree_8 rfl rfl rfl ?_
  refine g_iadd (pc' := 10) C dX4_isFree_9 rfl ?_
  obtain ⟨hi, hv⟩ := hv
  refine g_iald (pc' := 11) C dX4_isFree_10 rfl 3 rfl hi ?_
  obtain ⟨hv1, hv2⟩ := hv
  refine g_if_ne (pc' := 14) (tgt := 32) C dX4_isFree_11 rfl (by decide) (fun c => ?_) (fun c => ?_)
  · have hv := hv1 c
    refine g_iconst (pc' := 33) (v := (0 : Int32)) C dX4_isFree_32 rfl (by decide) ?_
    exact RT (0 : Int32) () _ _ _ _ dX4_isFree_33 rfl (by decide) (by decide) hv
  · have hv := hv2 c
    refine g_aload_n (pc' := 15) C dX4_isFree_14 rfl rfl rfl ?_
    refine gf_X4_23 (pc' := 18) C dX4_isFree_15 rfl 0 rfl rfl ?_
    refine g_bipush (pc' := 20) (v := (10 : Int32)) C dX4_isFree_18 rfl (by decide) ?_
    refine g_iload_n (pc' := 21) C dX4_isFree_20 rfl rfl rfl ?_
    refine g_imul (pc' := 22) C dX4_isFree_21 rfl ?_
    refine g_iload_n (pc' := 23) C dX4_isFree_22 rfl rfl rfl ?_
    refine g_iadd (pc' := 24) C dX4_isFree_23 rfl ?_
    obtain ⟨hi, hv⟩ := hv
    refine g_iald (pc' := 25) C dX4_isFree_24 rfl 4 rfl hi ?_
    obtain ⟨hv1, hv2⟩ := hv
    refine g_if_ne (pc' := 28) (tgt := 32) C dX4_isFree_25 rfl (by decide) (fun c => ?_) (fun c => ?_)
    · have hv := hv1 c
      refine g_iconst (pc' := 33) (v := (0 : Int32)) C dX4_isFree_32 rfl (by decide) ?_
      exact RT (0 : Int32) () _ _ _ _ dX4_isFree_33 rfl (by decide) (by decide) hv
    · have hv := hv2 c
      refine g_iconst (pc' := 29) (v := (1 : Int32)) C dX4_isFree_28 rfl (by decide) ?_
      refine g_goto (tgt := 33) C dX4_isFree_29 (by decide) ?_
      exact RT (1 : Int32) () _ _ _ _ dX4_isFree_33 rfl (by decide) (by decide) hv)
def vX4_restOf_J54 (pl : Int32) (mpar : Ar) (mcel : Ar) (mhel : Ar) (mclo : Ar) (x1 : Int32) (x2 : Int32) (x3 : Int32) (x5 : Int32) (x7 : Int32) (x8 : Int32) (s0 : Int32) (K10 : Int32 → Int32 → Int32 → Prop) (Q : Int32 → Prop) : Prop := ((x8 = (0 : Int32) → (vX4_at x1 x7 (2 : Int32) x3 (fun r76 => (vp_in r76 1440 ∧ (K10 (x5 - (mcel r76.toNatClampNeg)) s0 (x7 + (1 : Int32))))))) ∧ (¬ x8 = (0 : Int32) → (K10 (x5 - (0 : Int32)) s0 (x7 + (1 : Int32)))))
set_option maxHeartbeats 4000000 in
set_option maxRecDepth 100000 in
theorem wvX4_restOf_J54 {l : Launch} {γ : Gm} {κ : Kx} {bd : Nat → Nat} {pl : Int32} {msn : Int32} {thr : Int32} {mpar : Ar} {mcel : Ar} {mhel : Ar} {mclo : Ar} {msea : Ar} {mwei : Ar} {msha : Ar} {mmon : Ar} {x1 : Int32} {x2 : Int32} {x3 : Int32} {x5 : Int32} {x7 : Int32} {x8 : Int32} {s0 : Int32} {K10 : Int32 → Int32 → Int32 → Prop} {Q : Int32 → Prop} (C : Ok γ κ cX4_restOf 9 RX4 2 45) (RT : RtI l γ κ cX4_restOf .int 0 0 (fun (r : Int32) (_ : Unit) => Q r) (fun _ => wN γ bd pl msn thr mpar mcel mhel mclo msea mwei msha mmon)) (hK10 : ∀ (x5 : Int32) (x6 : Int32) (x7 : Int32), K10 x5 x6 x7 → G l γ κ (wN γ bd pl msn thr mpar mcel mhel mclo msea mwei msha mmon) [(0, .ref (bd 0)), (1, .int x1), (2, .int x2), (3, .int x3), (5, .int x5), (6, .int x6), (7, .int x7)] 0 0 [] 10) (hv : vX4_restOf_J54 pl mpar mcel mhel mclo x1 x2 x3 x5 x7 x8 s0 K10 Q) : G l γ κ (wN γ bd pl msn thr mpar mcel mhel mclo msea mwei msha mmon) [(0, .ref (bd 0)), (1, .int x1), (2, .int x2), (3, .int x3), (5, .int x5), (7, .int x7), (8, .int x8)] 0 0 [.int s0] 54 := by
  refine g_istore (pc' := 56) (lv' := [(6, .int s0), (0, .ref (bd 0)), (1, .int x1), (2, .int x2), (3, .int x3), (5, .int x5), (7, .int x7), (8, .int x8)]) C dX4_restOf_54 rfl (by decide) rfl ?_
  refine g_iload (pc' := 58) C dX4_restOf_56 rfl rfl ?_
  refine g_iload (pc' := 60) C dX4_restOf_58 rfl rfl ?_
  obtain ⟨hv1, hv2⟩ := hv
  refine g_if_eq (pc' := 63) (tgt := 67) C dX4_restOf_60 rfl (by decide) (fun c => ?_) (fun c => ?_)
  · have hv := hv1 c
    refine g_aload_n (pc' := 68) C dX4_restOf_67 rfl rfl rfl ?_
    refine gf_X4_17 (pc' := 71) C dX4_restOf_68 rfl 0 rfl rfl ?_
    refine g_iload_n (pc' := 72) C dX4_restOf_71 rfl rfl rfl ?_
    refine g_iload (pc' := 74) C dX4_restOf_72 rfl rfl ?_
    refine g_iconst (pc' := 75) (v := (2 : Int32)) C dX4_restOf_74 rfl (by decide) ?_
    refine g_iload_n (pc' := 76) C dX4_restOf_75 rfl rfl rfl ?_
    refine cnI (pc' := 79) C (run_SI (rest := [.ref (bd 2), .int x5]) C lk_X4_53 (mtX4_at hv) ⟨by decide, by decide⟩ rfl rfl (Nat.le_of_ble_eq_true rfl) ⟨Nat.zero_le _, Nat.zero_le _⟩ dX4_restOf_76) rfl (fun r76 u76 hv => ?_)
    obtain ⟨hi, hv⟩ := hv
    refine g_iald (pc' := 80) C dX4_restOf_79 rfl 2 rfl hi ?_
    refine g_isub (pc' := 81) C dX4_restOf_80 rfl ?_
    refine g_istore (pc' := 83) (lv' := [(5, .int (x5 - (mcel r76.toNatClampNeg))), (6, .int s0), (0, .ref (bd 0)), (1, .int x1), (2, .int x2), (3, .int x3), (7, .int x7), (8, .int x8)]) C dX4_restOf_81 rfl (by decide) rfl ?_
    refine g_iinc (pc' := 86) (v := (x7 + (1 : Int32))) (lv' := [(7, .int (x7 + (1 : Int32))), (5, .int (x5 - (mcel r76.toNatClampNeg))), (6, .int s0), (0, .ref (bd 0)), (1, .int x1), (2, .int x2), (3, .int x3), (8, .int x8)]) C dX4_restOf_83 rfl rfl rfl (by decide) rfl ?_
    refine g_goto (tgt := 10) C dX4_restOf_86 (by decide) ?_
    refine g_sub (lv' := [(0, .ref (bd 0)), (1, .int x1), (2, .int x2), (3, .int x3), (5, .int (x5 - (mcel r76.toNatClampNeg))), (6, .int s0), (7, .int (x7 + (1 : Int32)))]) [3, 4, 5, 6, 1, 2, 0] rfl ?_
    exact hK10 _ _ _ hv
  · have hv := hv2 c
    refine g_iconst (pc' := 64) (v := (0 : Int32)) C dX4_restOf_63 rfl (by decide) ?_
    refine g_goto (tgt := 80) C dX4_restOf_64 (by decide) ?_
    refine g_isub (pc' := 81) C dX4_restOf_80 rfl ?_
    refine g_istore (pc' := 83) (lv' := [(5, .int (x5 - (0 : Int32))), (6, .int s0), (0, .ref (bd 0)), (1, .int x1), (2, .int x2), (3, .int x3), (7, .int x7), (8, .int x8)]) C dX4_restOf_81 rfl (by decide) rfl ?_
    refine g_iinc (pc' := 86) (v := (x7 + (1 : Int32))) (lv' := [(7, .int (x7 + (1 : Int32))), (5, .int (x5 - (0 : Int32))), (6, .int s0), (0, .ref (bd 0)), (1, .int x1), (2, .int x2), (3, .int x3), (8, .int x8)]) C dX4_restOf_83 rfl rfl rfl (by decide) rfl ?_
    refine g_goto (tgt := 10) C dX4_restOf_86 (by decide) ?_
    refine g_sub (lv' := [(0, .ref (bd 0)), (1, .int x1), (2, .int x2), (3, .int x3), (5, .int (x5 - (0 : Int32))), (6, .int s0), (7, .int (x7 + (1 : Int32)))]) [3, 4, 5, 6, 1, 2, 0] rfl ?_
    exact hK10 _ _ _ hv
def vX4_restOf_J49 (pl : Int32) (mpar : Ar) (mcel : Ar) (mhel : Ar) (mclo : Ar) (x1 : Int32) (x2 : Int32) (x3 : Int32) (x5 : Int32) (x7 : Int32) (x8 : Int32) (K10 : Int32 → Int32 → Int32 → Prop) (Q : Int32 → Prop) : Prop := (vX4_restOf_J54 pl mpar mcel mhel mclo x1 x2 x3 x5 x7 x8 (1 : Int32) K10 Q)
set_option maxHeartbeats 4000000 in
set_option maxRecDepth 100000 in
theorem wvX4_restOf_J49 {l : Launch} {γ : Gm} {κ : Kx} {bd : Nat → Nat} {pl : Int32} {msn : Int32} {thr : Int32} {mpar : Ar} {mcel : Ar} {mhel : Ar} {mclo : Ar} {msea : Ar} {mwei : Ar} {msha : Ar} {mmon : Ar} {x1 : Int32} {x2 : Int32} {x3 : Int32} {x5 : Int32} {x7 : Int32} {x8 : Int32} {K10 : Int32 → Int32 → Int32 → Prop} {Q : Int32 → Prop} (C : Ok γ κ cX4_restOf 9 RX4 2 45) (RT : RtI l γ κ cX4_restOf .int 0 0 (fun (r : Int32) (_ : Unit) => Q r) (fun _ => wN γ bd pl msn thr mpar mcel mhel mclo msea mwei msha mmon)) (hK10 : ∀ (x5 : Int32) (x6 : Int32) (x7 : Int32), K10 x5 x6 x7 → G l γ κ (wN γ bd pl msn thr mpar mcel mhel mclo msea mwei msha mmon) [(0, .ref (bd 0)), (1, .int x1), (2, .int x2), (3, .int x3), (5, .int x5), (6, .int x6), (7, .int x7)] 0 0 [] 10) (hv : vX4_restOf_J49 pl mpar mcel mhel mclo x1 x2 x3 x5 x7 x8 K10 Q) : G l γ κ (wN γ bd pl msn thr mpar mcel mhel mclo msea mwei msha mmon) [(0, .ref (bd 0)), (1, .int x1), (2, .int x2), (3, .int x3), (5, .int x5), (7, .int x7), (8, .int x8)] 0 0 [] 49 := by
  refine g_iconst (pc' := 50) (v := (1 : Int32)) C dX4_restOf_49 rfl (by decide) ?_
  refine g_goto (tgt := 54) C dX4_restOf_50 (by decide) ?_
  exact wvX4_restOf_J54 C RT hK10 hv
def vX4_restOf_L10 (pl : Int32) (mpar : Ar) (mcel : Ar) (mhel : Ar) (mclo : Ar) (x1 : Int32) (x2 : Int32) (x3 : Int32) (Q : Int32 → Prop) : Nat → Int32 → Int32 → Int32 → Prop
  | 0, _, _, _ => False
  | n + 1, x5, x6, x7 => ((pl ≤ x7 → ((x6 = (0 : Int32) → (Q (-1 : Int32))) ∧ (¬ x6 = (0 : Int32) → ((x5 < (0 : Int32) → (Q (-1 : Int32))) ∧ (¬ x5 < (0 : Int32) → (Q x5)))))) ∧ (¬ pl ≤ x7 → (vX4_isLeafOf pl mpar x7 x2 (fun r23 => ((r23 = (0 : Int32) → (vX4_restOf_L10 pl mpar mcel mhel mclo x1 x2 x3 Q n x5 x6 (x7 + (1 : Int32)))) ∧ (¬ r23 = (0 : Int32) → (vX4_isFree mhel mclo x1 x7 x3 (fun r34 => ((¬ x6 = (0 : Int32) → (vX4_restOf_J49 pl mpar mcel mhel mclo x1 x2 x3 x5 x7 r34 (vX4_restOf_L10 pl mpar mcel mhel mclo x1 x2 x3 Q n) Q)) ∧ (x6 = (0 : Int32) → ((r34 = (0 : Int32) → (vX4_restOf_J54 pl mpar mcel mhel mclo x1 x2 x3 x5 x7 r34 (0 : Int32) (vX4_restOf_L10 pl mpar mcel mhel mclo x1 x2 x3 Q n) Q)) ∧ (¬ r34 = (0 : Int32) → (vX4_restOf_J49 pl mpar mcel mhel mclo x1 x2 x3 x5 x7 r34 (vX4_restOf_L10 pl mpar mcel mhel mclo x1 x2 x3 Q n) Q)))))))))))))
set_option maxHeartbeats 4000000 in
set_option maxRecDepth 100000 in
theorem wvX4_restOf_L10 {l : Launch} {γ : Gm} {κ : Kx} {bd : Nat → Nat} {pl : Int32} {msn : Int32} {thr : Int32} {mpar : Ar} {mcel : Ar} {mhel : Ar} {mclo : Ar} {msea : Ar} {mwei : Ar} {msha : Ar} {mmon : Ar} {x1 : Int32} {x2 : Int32} {x3 : Int32} {Q : Int32 → Prop} (C : Ok γ κ cX4_restOf 9 RX4 2 45) (RT : RtI l γ κ cX4_restOf .int 0 0 (fun (r : Int32) (_ : Unit) => Q r) (fun _ => wN γ bd pl msn thr mpar mcel mhel mclo msea mwei msha mmon))  : ∀ (n : Nat) (x5 : Int32) (x6 : Int32) (x7 : Int32), vX4_restOf_L10 pl mpar mcel mhel mclo x1 x2 x3 Q n x5 x6 x7 → G l γ κ (wN γ bd pl msn thr mpar mcel mhel mclo msea mwei msha mmon) [(0, .ref (bd 0)), (1, .int x1), (2, .int x2), (3, .int x3), (5, .int x5), (6, .int x6), (7, .int x7)] 0 0 [] 10 := by
  intro n
  induction n with
  | zero => intro x5 x6 x7 hv; exact False.elim hv
  | succ n ih =>
    intro x5 x6 x7 hv
    refine g_iload (pc' := 12) C dX4_restOf_10 rfl rfl ?_
    refine g_aload_n (pc' := 13) C dX4_restOf_12 rfl rfl rfl ?_
    refine gf_X4_7 (pc' := 16) C dX4_restOf_13 rfl 0 rfl rfl ?_
    obtain ⟨hv1, hv2⟩ := hv
    refine g_icmp_ge (pc' := 19) (tgt := 89) C dX4_restOf_16 rfl (by decide) (fun c => ?_) (fun c => ?_)
    · have hv := hv1 c
      refine g_iload (pc' := 91) C dX4_restOf_89 rfl rfl ?_
      obtain ⟨hv1, hv2⟩ := hv
      refine g_if_eq (pc' := 94) (tgt := 104) C dX4_restOf_91 rfl (by decide) (fun c => ?_) (fun c => ?_)
      · have hv := hv1 c
        refine g_iconst (pc' := 105) (v := (-1 : Int32)) C dX4_restOf_104 rfl (by decide) ?_
        exact RT (-1 : Int32) () _ _ _ _ dX4_restOf_105 rfl (by decide) (by decide) hv
      · have hv := hv2 c
        refine g_iload (pc' := 96) C dX4_restOf_94 rfl rfl ?_
        obtain ⟨hv1, hv2⟩ := hv
        refine g_if_lt (pc' := 99) (tgt := 104) C dX4_restOf_96 rfl (by decide) (fun c => ?_) (fun c => ?_)
        · have hv := hv1 c
          refine g_iconst (pc' := 105) (v := (-1 : Int32)) C dX4_restOf_104 rfl (by decide) ?_
          exact RT (-1 : Int32) () _ _ _ _ dX4_restOf_105 rfl (by decide) (by decide) hv
        · have hv := hv2 c
          refine g_iload (pc' := 101) C dX4_restOf_99 rfl rfl ?_
          refine g_goto (tgt := 105) C dX4_restOf_101 (by decide) ?_
          exact RT x5 () _ _ _ _ dX4_restOf_105 rfl (by decide) (by decide) hv
    · have hv := hv2 c
      refine g_aload_n (pc' := 20) C dX4_restOf_19 rfl rfl rfl ?_
      refine g_iload (pc' := 22) C dX4_restOf_20 rfl rfl ?_
      refine g_iload_n (pc' := 23) C dX4_restOf_22 rfl rfl rfl ?_
      refine csI (pc' := 26) C (run_VI (rest := []) C lk_X4_63 (mtX4_isLeafOf hv) ⟨by decide, by decide⟩ rfl rfl rfl rfl (Nat.le_of_ble_eq_true rfl) ⟨Nat.zero_le _, Nat.zero_le _⟩ dX4_restOf_23) rfl (fun r23 u23 hv => ?_)
      obtain ⟨hv1, hv2⟩ := hv
      refine g_if_eq (pc' := 29) (tgt := 83) C dX4_restOf_26 rfl (by decide) (fun c => ?_) (fun c => ?_)
      · have hv := hv1 c
        refine g_iinc (pc' := 86) (v := (x7 + (1 : Int32))) (lv' := [(7, .int (x7 + (1 : Int32))), (0, .ref (bd 0)), (1, .int x1), (2, .int x2), (3, .int x3), (5, .int x5), (6, .int x6)]) C dX4_restOf_83 rfl rfl rfl (by decide) rfl ?_
        refine g_goto (tgt := 10) C dX4_restOf_86 (by decide) ?_
        refine g_sub (lv' := [(0, .ref (bd 0)), (1, .int x1), (2, .int x2), (3, .int x3), (5, .int x5), (6, .int x6), (7, .int (x7 + (1 : Int32)))]) [1, 2, 3, 4, 5, 6, 0] rfl ?_
        exact ih _ _ _ hv
      · have hv := hv2 c
        refine g_aload_n (pc' := 30) C dX4_restOf_29 rfl rfl rfl ?_
        refine g_iload_n (pc' := 31) C dX4_restOf_30 rfl rfl rfl ?_
        refine g_iload (pc' := 33) C dX4_restOf_31 rfl rfl ?_
        refine g_iload_n (pc' := 34) C dX4_restOf_33 rfl rfl rfl ?_
        refine csI (pc' := 37) C (run_VI (rest := []) C lk_X4_84 (mtX4_isFree hv) ⟨by decide, by decide⟩ rfl rfl rfl rfl (Nat.le_of_ble_eq_true rfl) ⟨Nat.zero_le _, Nat.zero_le _⟩ dX4_restOf_34) rfl (fun r34 u34 hv => ?_)
        refine g_istore (pc' := 39) (lv' := [(8, .int r34), (0, .ref (bd 0)), (1, .int x1), (2, .int x2), (3, .int x3), (5, .int x5), (6, .int x6), (7, .int x7)]) C dX4_restOf_37 rfl (by decide) rfl ?_
        refine g_iload (pc' := 41) C dX4_restOf_39 rfl rfl ?_
        obtain ⟨hv1, hv2⟩ := hv
        refine g_if_ne (pc' := 44) (tgt := 49) C dX4_restOf_41 rfl (by decide) (fun c => ?_) (fun c => ?_)
        · have hv := hv1 c
          refine g_sub (lv' := [(0, .ref (bd 0)), (1, .int x1), (2, .int x2), (3, .int x3), (5, .int x5), (7, .int x7), (8, .int r34)]) [1, 2, 3, 4, 5, 7, 0] rfl ?_
          exact wvX4_restOf_J49 C RT ih hv
        · have hv := hv2 c
          refine g_iload (pc' := 46) C dX4_restOf_44 rfl rfl ?_
          obtain ⟨hv1, hv2⟩ := hv
          refine g_if_eq (pc' := 49) (tgt := 53) C dX4_restOf_46 rfl (by decide) (fun c => ?_) (fun c => ?_)
          · have hv := hv1 c
            refine g_iconst (pc' := 54) (v := (0 : Int32)) C dX4_restOf_53 rfl (by decide) ?_
            refine g_sub (lv' := [(0, .ref (bd 0)), (1, .int x1), (2, .int x2), (3, .int x3), (5, .int x5), (7, .int x7), (8, .int r34)]) [1, 2, 3, 4, 5, 7, 0] rfl ?_
            exact wvX4_restOf_J54 C RT ih hv
          · have hv := hv2 c
            refine g_sub (lv' := [(0, .ref (bd 0)), (1, .int x1), (2, .int x2), (3, .int x3), (5, .int x5), (7, .int x7), (8, .int r34)]) [1, 2, 3, 4, 5, 7, 0] rfl ?_
            exact wvX4_restOf_J49 C RT ih hv
def vX4_restOf (pl : Int32) (mpar : Ar) (mcel : Ar) (mhel : Ar) (mclo : Ar) (x1 : Int32) (x2 : Int32) (x3 : Int32) (x4 : Int32) (Q : Int32 → Prop) : Prop := (∃ n10 : Nat, vX4_restOf_L10 pl mpar mcel mhel mclo x1 x2 x3 Q n10 x4 (0 : Int32) (0 : Int32))
set_option maxHeartbeats 4000000 in
set_option maxRecDepth 100000 in
theorem mtX4_restOf {l : Launch} {γ : Gm} {bd : Nat → Nat} {pl : Int32} {msn : Int32} {thr : Int32} {mpar : Ar} {mcel : Ar} {mhel : Ar} {mclo : Ar} {msea : Ar} {mwei : Ar} {msha : Ar} {mmon : Ar} {x1 : Int32} {x2 : Int32} {x3 : Int32} {x4 : Int32} {Q : Int32 → Prop} (hv : vX4_restOf pl mpar mcel mhel mclo x1 x2 x3 x4 Q) : CtI l γ yX4_restOf cX4_restOf 9 .int 2 45 0 0 [.ref (bd 0), .int x1, .int x2, .int x3, .int x4] (wN γ bd pl msn thr mpar mcel mhel mclo msea mwei msha mmon) (fun (r : Int32) (_ : Unit) => Q r) (fun _ => wN γ bd pl msn thr mpar mcel mhel mclo msea mwei msha mmon) := startI (by decide +kernel) (Nat.le_of_ble_eq_true rfl) (fun κ C RT hR hnm => by
  show G l γ κ (wN γ bd pl msn thr mpar mcel mhel mclo msea mwei msha mmon) [(0, .ref (bd 0)), (1, .int x1), (2, .int x2), (3, .int x3), (4, .int x4)] 0 0 [] 0
  refine g_iload (pc' := 2) C dX4_restOf_0 rfl rfl ?_
  refine g_istore (pc' := 4) (lv' := [(5, .int x4), (0, .ref (bd 0)), (1, .int x1), (2, .int x2), (3, .int x3), (4, .int x4)]) C dX4_restOf_2 rfl (by decide) rfl ?_
  refine g_iconst (pc' := 5) (v := (0 : Int32)) C dX4_restOf_4 rfl (by decide) ?_
  refine g_istore (pc' := 7) (lv' := [(6, .int (0 : Int32)), (5, .int x4), (0, .ref (bd 0)), (1, .int x1), (2, .int x2), (3, .int x3), (4, .int x4)]) C dX4_restOf_5 rfl (by decide) rfl ?_
  refine g_iconst (pc' := 8) (v := (0 : Int32)) C dX4_restOf_7 rfl (by decide) ?_
  refine g_istore (pc' := 10) (lv' := [(7, .int (0 : Int32)), (6, .int (0 : Int32)), (5, .int x4), (0, .ref (bd 0)), (1, .int x1), (2, .int x2), (3, .int x3), (4, .int x4)]) C dX4_restOf_8 rfl (by decide) rfl ?_
  refine g_sub (lv' := [(0, .ref (bd 0)), (1, .int x1), (2, .int x2), (3, .int x3), (5, .int x4), (6, .int (0 : Int32)), (7, .int (0 : Int32))]) [3, 4, 5, 6, 2, 1, 0] rfl ?_
  obtain ⟨n10, hv⟩ := hv
  exact wvX4_restOf_L10 C RT  n10 _ _ _ hv)
def vX4_spreads_J71 (pl : Int32) (mpar : Ar) (mcel : Ar) (mhel : Ar) (mclo : Ar) (mwei : Ar) (msha : Ar) (x1 : Int32) (x2 : Int32) (x3 : Int32) (x4 : Int32) (x5 : Int32) (x6 : Int32) (x7 : Int32) (s0 : Int32) (s1 : Int32) (K6 : Int32 → Int32 → Ar → Prop) (Q : Int32 → (Ar × Ar × Ar) → Prop) : Prop := (vp_in s1 12 ∧ ((x6 = (0 : Int32) → (K6 (0 : Int32) (x7 + (1 : Int32)) (upd mwei s1.toNatClampNeg s0))) ∧ (¬ x6 = (0 : Int32) → (vp_in x7 12 ∧ ((¬ ((upd mwei s1.toNatClampNeg s0) x7.toNatClampNeg) = (0 : Int32) → (K6 (0 : Int32) (x7 + (1 : Int32)) (upd mwei s1.toNatClampNeg s0))) ∧ (((upd mwei s1.toNatClampNeg s0) x7.toNatClampNeg) = (0 : Int32) → (K6 (1 : Int32) (x7 + (1 : Int32)) (upd mwei s1.toNatClampNeg s0))))))))
set_option maxHeartbeats 4000000 in
set_option maxRecDepth 100000 in
theorem wvX4_spreads_J71 {l : Launch} {γ : Gm} {κ : Kx} {bd : Nat → Nat} {pl : Int32} {msn : Int32} {thr : Int32} {mpar : Ar} {mcel : Ar} {mhel : Ar} {mclo : Ar} {msea : Ar} {mwei : Ar} {msha : Ar} {mmon : Ar} {x1 : Int32} {x2 : Int32} {x3 : Int32} {x4 : Int32} {x5 : Int32} {x6 : Int32} {x7 : Int32} {s0 : Int32} {s1 : Int32} {K6 : Int32 → Int32 → Ar → Prop} {Q : Int32 → (Ar × Ar × Ar) → Prop} (C : Ok γ κ cX4_spreads 9 RX4 3 73) (RT : RtI l γ κ cX4_spreads .int 0 0 (fun (r : Int32) (u : Ar × Ar × Ar) => Q r u) (fun u => wN γ bd pl msn thr mpar u.1 mhel mclo msea u.2.1 u.2.2 mmon)) (hK6 : ∀ (x6 : Int32) (x7 : Int32) (mwei : Ar), K6 x6 x7 mwei → G l γ κ (wN γ bd pl msn thr mpar mcel mhel mclo msea mwei msha mmon) [(0, .ref (bd 0)), (1, .int x1), (2, .int x2), (3, .int x3), (4, .int x4), (5, .int x5), (6, .int x6), (7, .int x7)] 0 0 [] 6) (hv : vX4_spreads_J71 pl mpar mcel mhel mclo mwei msha x1 x2 x3 x4 x5 x6 x7 s0 s1 K6 Q) : G l γ κ (wN γ bd pl msn thr mpar mcel mhel mclo msea mwei msha mmon) [(0, .ref (bd 0)), (1, .int x1), (2, .int x2), (3, .int x3), (4, .int x4), (5, .int x5), (6, .int x6), (7, .int x7)] 0 0 [.int s0, .int s1, .ref (bd 6)] 71 := by
  obtain ⟨hi, hv⟩ := hv
  refine g_iast (pc' := 72) (ws' := wN γ bd pl msn thr mpar mcel mhel mclo msea (upd mwei s1.toNatClampNeg s0) msha mmon) C dX4_spreads_71 rfl 6 rfl hi rfl ?_
  refine g_iload (pc' := 74) C dX4_spreads_72 rfl rfl ?_
  obtain ⟨hv1, hv2⟩ := hv
  refine g_if_eq (pc' := 77) (tgt := 91) C dX4_spreads_74 rfl (by decide) (fun c => ?_) (fun c => ?_)
  · have hv := hv1 c
    refine g_iconst (pc' := 92) (v := (0 : Int32)) C dX4_spreads_91 rfl (by decide) ?_
    refine g_istore (pc' := 94) (lv' := [(6, .int (0 : Int32)), (0, .ref (bd 0)), (1, .int x1), (2, .int x2), (3, .int x3), (4, .int x4), (5, .int x5), (7, .int x7)]) C dX4_spreads_92 rfl (by decide) rfl ?_
    refine g_iinc (pc' := 97) (v := (x7 + (1 : Int32))) (lv' := [(7, .int (x7 + (1 : Int32))), (6, .int (0 : Int32)), (0, .ref (bd 0)), (1, .int x1), (2, .int x2), (3, .int x3), (4, .int x4), (5, .int x5)]) C dX4_spreads_94 rfl rfl rfl (by decide) rfl ?_
    refine g_goto (tgt := 6) C dX4_spreads_97 (by decide) ?_
    refine g_sub (lv' := [(0, .ref (bd 0)), (1, .int x1), (2, .int x2), (3, .int x3), (4, .int x4), (5, .int x5), (6, .int (0 : Int32)), (7, .int (x7 + (1 : Int32)))]) [2, 3, 4, 5, 6, 7, 1, 0] rfl ?_
    exact hK6 _ _ _ hv
  · have hv := hv2 c
    refine g_aload_n (pc' := 78) C dX4_spreads_77 rfl rfl rfl ?_
    refine gf_X4_29 (pc' := 81) C dX4_spreads_78 rfl 0 rfl rfl ?_
    refine g_iload (pc' := 83) C dX4_spreads_81 rfl rfl ?_
    obtain ⟨hi, hv⟩ := hv
    refine g_iald (pc' := 84) C dX4_spreads_83 rfl 6 rfl hi ?_
    obtain ⟨hv1, hv2⟩ := hv
    refine g_if_ne (pc' := 87) (tgt := 91) C dX4_spreads_84 rfl (by decide) (fun c => ?_) (fun c => ?_)
    · have hv := hv1 c
      refine g_iconst (pc' := 92) (v := (0 : Int32)) C dX4_spreads_91 rfl (by decide) ?_
      refine g_istore (pc' := 94) (lv' := [(6, .int (0 : Int32)), (0, .ref (bd 0)), (1, .int x1), (2, .int x2), (3, .int x3), (4, .int x4), (5, .int x5), (7, .int x7)]) C dX4_spreads_92 rfl (by decide) rfl ?_
      refine g_iinc (pc' := 97) (v := (x7 + (1 : Int32))) (lv' := [(7, .int (x7 + (1 : Int32))), (6, .int (0 : Int32)), (0, .ref (bd 0)), (1, .int x1), (2, .int x2), (3, .int x3), (4, .int x4), (5, .int x5)]) C dX4_spreads_94 rfl rfl rfl (by decide) rfl ?_
      refine g_goto (tgt := 6) C dX4_spreads_97 (by decide) ?_
      refine g_sub (lv' := [(0, .ref (bd 0)), (1, .int x1), (2, .int x2), (3, .int x3), (4, .int x4), (5, .int x5), (6, .int (0 : Int32)), (7, .int (x7 + (1 : Int32)))]) [2, 3, 4, 5, 6, 7, 1, 0] rfl ?_
      exact hK6 _ _ _ hv
    · have hv := hv2 c
      refine g_iconst (pc' := 88) (v := (1 : Int32)) C dX4_spreads_87 rfl (by decide) ?_
      refine g_goto (tgt := 92) C dX4_spreads_88 (by decide) ?_
      refine g_istore (pc' := 94) (lv' := [(6, .int (1 : Int32)), (0, .ref (bd 0)), (1, .int x1), (2, .int x2), (3, .int x3), (4, .int x4), (5, .int x5), (7, .int x7)]) C dX4_spreads_92 rfl (by decide) rfl ?_
      refine g_iinc (pc' := 97) (v := (x7 + (1 : Int32))) (lv' := [(7, .int (x7 + (1 : Int32))), (6, .int (1 : Int32)), (0, .ref (bd 0)), (1, .int x1), (2, .int x2), (3, .int x3), (4, .int x4), (5, .int x5)]) C dX4_spreads_94 rfl rfl rfl (by decide) rfl ?_
      refine g_goto (tgt := 6) C dX4_spreads_97 (by decide) ?_
      refine g_sub (lv' := [(0, .ref (bd 0)), (1, .int x1), (2, .int x2), (3, .int x3), (4, .int x4), (5, .int x5), (6, .int (1 : Int32)), (7, .int (x7 + (1 : Int32)))]) [2, 3, 4, 5, 6, 7, 1, 0] rfl ?_
      exact hK6 _ _ _ hv
def vX4_spreads_J41 (pl : Int32) (mpar : Ar) (mcel : Ar) (mhel : Ar) (mclo : Ar) (mwei : Ar) (msha : Ar) (x1 : Int32) (x2 : Int32) (x3 : Int32) (x4 : Int32) (x5 : Int32) (x6 : Int32) (x7 : Int32) (s0 : Int32) (K6 : Int32 → Int32 → Ar → Prop) (Q : Int32 → (Ar × Ar × Ar) → Prop) : Prop := ((s0 = (0 : Int32) → (vX4_spreads_J71 pl mpar mcel mhel mclo mwei msha x1 x2 x3 x4 x5 x6 x7 (0 : Int32) x7 K6 Q)) ∧ (¬ s0 = (0 : Int32) → (vX4_at x1 x7 (2 : Int32) x3 (fun r63 => (vp_in r63 1440 ∧ (vX4_spreads_J71 pl mpar mcel mhel mclo mwei msha x1 x2 x3 x4 x5 x6 x7 (mcel r63.toNatClampNeg) x7 K6 Q))))))
set_option maxHeartbeats 4000000 in
set_option maxRecDepth 100000 in
theorem wvX4_spreads_J41 {l : Launch} {γ : Gm} {κ : Kx} {bd : Nat → Nat} {pl : Int32} {msn : Int32} {thr : Int32} {mpar : Ar} {mcel : Ar} {mhel : Ar} {mclo : Ar} {msea : Ar} {mwei : Ar} {msha : Ar} {mmon : Ar} {x1 : Int32} {x2 : Int32} {x3 : Int32} {x4 : Int32} {x5 : Int32} {x6 : Int32} {x7 : Int32} {s0 : Int32} {K6 : Int32 → Int32 → Ar → Prop} {Q : Int32 → (Ar × Ar × Ar) → Prop} (C : Ok γ κ cX4_spreads 9 RX4 3 73) (RT : RtI l γ κ cX4_spreads .int 0 0 (fun (r : Int32) (u : Ar × Ar × Ar) => Q r u) (fun u => wN γ bd pl msn thr mpar u.1 mhel mclo msea u.2.1 u.2.2 mmon)) (hK6 : ∀ (x6 : Int32) (x7 : Int32) (mwei : Ar), K6 x6 x7 mwei → G l γ κ (wN γ bd pl msn thr mpar mcel mhel mclo msea mwei msha mmon) [(0, .ref (bd 0)), (1, .int x1), (2, .int x2), (3, .int x3), (4, .int x4), (5, .int x5), (6, .int x6), (7, .int x7)] 0 0 [] 6) (hv : vX4_spreads_J41 pl mpar mcel mhel mclo mwei msha x1 x2 x3 x4 x5 x6 x7 s0 K6 Q) : G l γ κ (wN γ bd pl msn thr mpar mcel mhel mclo msea mwei msha mmon) [(0, .ref (bd 0)), (1, .int x1), (2, .int x2), (3, .int x3), (4, .int x4), (5, .int x5), (6, .int x6), (7, .int x7)] 0 0 [.int s0] 41 := by
  refine g_istore (pc' := 43) (lv' := [(8, .int s0), (0, .ref (bd 0)), (1, .int x1), (2, .int x2), (3, .int x3), (4, .int x4), (5, .int x5), (6, .int x6), (7, .int x7)]) C dX4_spreads_41 rfl (by decide) rfl ?_
  refine g_aload_n (pc' := 44) C dX4_spreads_43 rfl rfl rfl ?_
  refine gf_X4_29 (pc' := 47) C dX4_spreads_44 rfl 0 rfl rfl ?_
  refine g_iload (pc' := 49) C dX4_spreads_47 rfl rfl ?_
  refine g_iload (pc' := 51) C dX4_spreads_49 rfl rfl ?_
  obtain ⟨hv1, hv2⟩ := hv
  refine g_if_eq (pc' := 54) (tgt := 70) C dX4_spreads_51 rfl (by decide) (fun c => ?_) (fun c => ?_)
  · have hv := hv1 c
    refine g_iconst (pc' := 71) (v := (0 : Int32)) C dX4_spreads_70 rfl (by decide) ?_
    refine g_sub (lv' := [(0, .ref (bd 0)), (1, .int x1), (2, .int x2), (3, .int x3), (4, .int x4), (5, .int x5), (6, .int x6), (7, .int x7)]) [1, 2, 3, 4, 5, 6, 7, 8] rfl ?_
    exact wvX4_spreads_J71 C RT hK6 hv
  · have hv := hv2 c
    refine g_aload_n (pc' := 55) C dX4_spreads_54 rfl rfl rfl ?_
    refine gf_X4_17 (pc' := 58) C dX4_spreads_55 rfl 0 rfl rfl ?_
    refine g_iload_n (pc' := 59) C dX4_spreads_58 rfl rfl rfl ?_
    refine g_iload (pc' := 61) C dX4_spreads_59 rfl rfl ?_
    refine g_iconst (pc' := 62) (v := (2 : Int32)) C dX4_spreads_61 rfl (by decide) ?_
    refine g_iload_n (pc' := 63) C dX4_spreads_62 rfl rfl rfl ?_
    refine cnI (pc' := 66) C (run_SI (rest := [.ref (bd 2), .int x7, .ref (bd 6)]) C lk_X4_53 (mtX4_at hv) ⟨by decide, by decide⟩ rfl rfl (Nat.le_of_ble_eq_true rfl) ⟨Nat.zero_le _, Nat.zero_le _⟩ dX4_spreads_63) rfl (fun r63 u63 hv => ?_)
    obtain ⟨hi, hv⟩ := hv
    refine g_iald (pc' := 67) C dX4_spreads_66 rfl 2 rfl hi ?_
    refine g_goto (tgt := 71) C dX4_spreads_67 (by decide) ?_
    refine g_sub (lv' := [(0, .ref (bd 0)), (1, .int x1), (2, .int x2), (3, .int x3), (4, .int x4), (5, .int x5), (6, .int x6), (7, .int x7)]) [1, 2, 3, 4, 5, 6, 7, 8] rfl ?_
    exact wvX4_spreads_J71 C RT hK6 hv
def vX4_spreads_J40 (pl : Int32) (mpar : Ar) (mcel : Ar) (mhel : Ar) (mclo : Ar) (mwei : Ar) (msha : Ar) (x1 : Int32) (x2 : Int32) (x3 : Int32) (x4 : Int32) (x5 : Int32) (x6 : Int32) (x7 : Int32) (K6 : Int32 → Int32 → Ar → Prop) (Q : Int32 → (Ar × Ar × Ar) → Prop) : Prop := (vX4_spreads_J41 pl mpar mcel mhel mclo mwei msha x1 x2 x3 x4 x5 x6 x7 (0 : Int32) K6 Q)
set_option maxHeartbeats 4000000 in
set_option maxRecDepth 100000 in
theorem wvX4_spreads_J40 {l : Launch} {γ : Gm} {κ : Kx} {bd : Nat → Nat} {pl : Int32} {msn : Int32} {thr : Int32} {mpar : Ar} {mcel : Ar} {mhel : Ar} {mclo : Ar} {msea : Ar} {mwei : Ar} {msha : Ar} {mmon : Ar} {x1 : Int32} {x2 : Int32} {x3 : Int32} {x4 : Int32} {x5 : Int32} {x6 : Int32} {x7 : Int32} {K6 : Int32 → Int32 → Ar → Prop} {Q : Int32 → (Ar × Ar × Ar) → Prop} (C : Ok γ κ cX4_spreads 9 RX4 3 73) (RT : RtI l γ κ cX4_spreads .int 0 0 (fun (r : Int32) (u : Ar × Ar × Ar) => Q r u) (fun u => wN γ bd pl msn thr mpar u.1 mhel mclo msea u.2.1 u.2.2 mmon)) (hK6 : ∀ (x6 : Int32) (x7 : Int32) (mwei : Ar), K6 x6 x7 mwei → G l γ κ (wN γ bd pl msn thr mpar mcel mhel mclo msea mwei msha mmon) [(0, .ref (bd 0)), (1, .int x1), (2, .int x2), (3, .int x3), (4, .int x4), (5, .int x5), (6, .int x6), (7, .int x7)] 0 0 [] 6) (hv : vX4_spreads_J40 pl mpar mcel mhel mclo mwei msha x1 x2 x3 x4 x5 x6 x7 K6 Q) : G l γ κ (wN γ bd pl msn thr mpar mcel mhel mclo msea mwei msha mmon) [(0, .ref (bd 0)), (1, .int x1), (2, .int x2), (3, .int x3), (4, .int x4), (5, .int x5), (6, .int x6), (7, .int x7)] 0 0 [] 40 := by
  refine g_iconst (pc' := 41) (v := (0 : Int32)) C dX4_spreads_40 rfl (by decide) ?_
  exact wvX4_spreads_J41 C RT hK6 hv
def vX4_spreads_J123 (pl : Int32) (mpar : Ar) (mcel : Ar) (mhel : Ar) (mclo : Ar) (mwei : Ar) (msha : Ar) (x1 : Int32) (x2 : Int32) (x3 : Int32) (x4 : Int32) (x5 : Int32) (x6 : Int32) (x7 : Int32) (K103 : Int32 → Ar → Prop) (Q : Int32 → (Ar × Ar × Ar) → Prop) : Prop := (vX4_isLeafOf pl mpar x7 x2 (fun r133 => ((r133 = (0 : Int32) → (vp_in x7 12 ∧ (K103 (x7 + (1 : Int32)) (upd mwei x7.toNatClampNeg (0 : Int32))))) ∧ (¬ r133 = (0 : Int32) → (vX4_isFree mhel mclo x1 x7 x3 (fun r144 => ((r144 = (0 : Int32) → (vp_in x7 12 ∧ (K103 (x7 + (1 : Int32)) (upd mwei x7.toNatClampNeg (0 : Int32))))) ∧ (¬ r144 = (0 : Int32) → (vp_in x7 12 ∧ (K103 (x7 + (1 : Int32)) (upd mwei x7.toNatClampNeg (1 : Int32))))))))))))
set_option maxHeartbeats 4000000 in
set_option maxRecDepth 100000 in
theorem wvX4_spreads_J123 {l : Launch} {γ : Gm} {κ : Kx} {bd : Nat → Nat} {pl : Int32} {msn : Int32} {thr : Int32} {mpar : Ar} {mcel : Ar} {mhel : Ar} {mclo : Ar} {msea : Ar} {mwei : Ar} {msha : Ar} {mmon : Ar} {x1 : Int32} {x2 : Int32} {x3 : Int32} {x4 : Int32} {x5 : Int32} {x6 : Int32} {x7 : Int32} {K103 : Int32 → Ar → Prop} {Q : Int32 → (Ar × Ar × Ar) → Prop} (C : Ok γ κ cX4_spreads 9 RX4 3 73) (RT : RtI l γ κ cX4_spreads .int 0 0 (fun (r : Int32) (u : Ar × Ar × Ar) => Q r u) (fun u => wN γ bd pl msn thr mpar u.1 mhel mclo msea u.2.1 u.2.2 mmon)) (hK103 : ∀ (x7 : Int32) (mwei : Ar), K103 x7 mwei → G l γ κ (wN γ bd pl msn thr mpar mcel mhel mclo msea mwei msha mmon) [(0, .ref (bd 0)), (1, .int x1), (2, .int x2), (3, .int x3), (4, .int x4), (5, .int x5), (6, .int x6), (7, .int x7)] 0 0 [] 103) (hv : vX4_spreads_J123 pl mpar mcel mhel mclo mwei msha x1 x2 x3 x4 x5 x6 x7 K103 Q) : G l γ κ (wN γ bd pl msn thr mpar mcel mhel mclo msea mwei msha mmon) [(0, .ref (bd 0)), (1, .int x1), (2, .int x2), (3, .int x3), (4, .int x4), (5, .int x5), (6, .int x6), (7, .int x7)] 0 0 [] 123 := by
  refine g_aload_n (pc' := 124) C dX4_spreads_123 rfl rfl rfl ?_
  refine gf_X4_29 (pc' := 127) C dX4_spreads_124 rfl 0 rfl rfl ?_
  refine g_iload (pc' := 129) C dX4_spreads_127 rfl rfl ?_
  refine g_aload_n (pc' := 130) C dX4_spreads_129 rfl rfl rfl ?_
  refine g_iload (pc' := 132) C dX4_spreads_130 rfl rfl ?_
  refine g_iload_n (pc' := 133) C dX4_spreads_132 rfl rfl rfl ?_
  refine csI (pc' := 136) C (run_VI (rest := [.int x7, .ref (bd 6)]) C lk_X4_63 (mtX4_isLeafOf hv) ⟨by decide, by decide⟩ rfl rfl rfl rfl (Nat.le_of_ble_eq_true rfl) ⟨Nat.zero_le _, Nat.zero_le _⟩ dX4_spreads_133) rfl (fun r133 u133 hv => ?_)
  obtain ⟨hv1, hv2⟩ := hv
  refine g_if_eq (pc' := 139) (tgt := 154) C dX4_spreads_136 rfl (by decide) (fun c => ?_) (fun c => ?_)
  · have hv := hv1 c
    refine g_iconst (pc' := 155) (v := (0 : Int32)) C dX4_spreads_154 rfl (by decide) ?_
    obtain ⟨hi, hv⟩ := hv
    refine g_iast (pc' := 156) (ws' := wN γ bd pl msn thr mpar mcel mhel mclo msea (upd mwei x7.toNatClampNeg (0 : Int32)) msha mmon) C dX4_spreads_155 rfl 6 rfl hi rfl ?_
    refine g_iinc (pc' := 159) (v := (x7 + (1 : Int32))) (lv' := [(7, .int (x7 + (1 : Int32))), (0, .ref (bd 0)), (1, .int x1), (2, .int x2), (3, .int x3), (4, .int x4), (5, .int x5), (6, .int x6)]) C dX4_spreads_156 rfl rfl rfl (by decide) rfl ?_
    refine g_goto (tgt := 103) C dX4_spreads_159 (by decide) ?_
    refine g_sub (lv' := [(0, .ref (bd 0)), (1, .int x1), (2, .int x2), (3, .int x3), (4, .int x4), (5, .int x5), (6, .int x6), (7, .int (x7 + (1 : Int32)))]) [1, 2, 3, 4, 5, 6, 7, 0] rfl ?_
    exact hK103 _ _ hv
  · have hv := hv2 c
    refine g_aload_n (pc' := 140) C dX4_spreads_139 rfl rfl rfl ?_
    refine g_iload_n (pc' := 141) C dX4_spreads_140 rfl rfl rfl ?_
    refine g_iload (pc' := 143) C dX4_spreads_141 rfl rfl ?_
    refine g_iload_n (pc' := 144) C dX4_spreads_143 rfl rfl rfl ?_
    refine csI (pc' := 147) C (run_VI (rest := [.int x7, .ref (bd 6)]) C lk_X4_84 (mtX4_isFree hv) ⟨by decide, by decide⟩ rfl rfl rfl rfl (Nat.le_of_ble_eq_true rfl) ⟨Nat.zero_le _, Nat.zero_le _⟩ dX4_spreads_144) rfl (fun r144 u144 hv => ?_)
    obtain ⟨hv1, hv2⟩ := hv
    refine g_if_eq (pc' := 150) (tgt := 154) C dX4_spreads_147 rfl (by decide) (fun c => ?_) (fun c => ?_)
    · have hv := hv1 c
      refine g_iconst (pc' := 155) (v := (0 : Int32)) C dX4_spreads_154 rfl (by decide) ?_
      obtain ⟨hi, hv⟩ := hv
      refine g_iast (pc' := 156) (ws' := wN γ bd pl msn thr mpar mcel mhel mclo msea (upd mwei x7.toNatClampNeg (0 : Int32)) msha mmon) C dX4_spreads_155 rfl 6 rfl hi rfl ?_
      refine g_iinc (pc' := 159) (v := (x7 + (1 : Int32))) (lv' := [(7, .int (x7 + (1 : Int32))), (0, .ref (bd 0)), (1, .int x1), (2, .int x2), (3, .int x3), (4, .int x4), (5, .int x5), (6, .int x6)]) C dX4_spreads_156 rfl rfl rfl (by decide) rfl ?_
      refine g_goto (tgt := 103) C dX4_spreads_159 (by decide) ?_
      refine g_sub (lv' := [(0, .ref (bd 0)), (1, .int x1), (2, .int x2), (3, .int x3), (4, .int x4), (5, .int x5), (6, .int x6), (7, .int (x7 + (1 : Int32)))]) [1, 2, 3, 4, 5, 6, 7, 0] rfl ?_
      exact hK103 _ _ hv
    · have hv := hv2 c
      refine g_iconst (pc' := 151) (v := (1 : Int32)) C dX4_spreads_150 rfl (by decide) ?_
      refine g_goto (tgt := 155) C dX4_spreads_151 (by decide) ?_
      obtain ⟨hi, hv⟩ := hv
      refine g_iast (pc' := 156) (ws' := wN γ bd pl msn thr mpar mcel mhel mclo msea (upd mwei x7.toNatClampNeg (1 : Int32)) msha mmon) C dX4_spreads_155 rfl 6 rfl hi rfl ?_
      refine g_iinc (pc' := 159) (v := (x7 + (1 : Int32))) (lv' := [(7, .int (x7 + (1 : Int32))), (0, .ref (bd 0)), (1, .int x1), (2, .int x2), (3, .int x3), (4, .int x4), (5, .int x5), (6, .int x6)]) C dX4_spreads_156 rfl rfl rfl (by decide) rfl ?_
      refine g_goto (tgt := 103) C dX4_spreads_159 (by decide) ?_
      refine g_sub (lv' := [(0, .ref (bd 0)), (1, .int x1), (2, .int x2), (3, .int x3), (4, .int x4), (5, .int x5), (6, .int x6), (7, .int (x7 + (1 : Int32)))]) [1, 2, 3, 4, 5, 6, 7, 0] rfl ?_
      exact hK103 _ _ hv
def vX4_spreads_L185 (pl : Int32) (mpar : Ar) (mhel : Ar) (mclo : Ar) (mwei : Ar) (msha : Ar) (x1 : Int32) (x2 : Int32) (x3 : Int32) (Q : Int32 → (Ar × Ar × Ar) → Prop) : Nat → Int32 → Int32 → Ar → Prop
  | 0, _, _, _ => False
  | n + 1, x7, x8, mcel => ((pl ≤ x8 → (Q x7 (mcel, mwei, msha))) ∧ (¬ pl ≤ x8 → (vX4_isLeafOf pl mpar x8 x2 (fun r198 => ((r198 = (0 : Int32) → (vX4_spreads_L185 pl mpar mhel mclo mwei msha x1 x2 x3 Q n x7 (x8 + (1 : Int32)) mcel)) ∧ (¬ r198 = (0 : Int32) → (vX4_isFree mhel mclo x1 x8 x3 (fun r209 => ((r209 = (0 : Int32) → (vX4_spreads_L185 pl mpar mhel mclo mwei msha x1 x2 x3 Q n x7 (x8 + (1 : Int32)) mcel)) ∧ (¬ r209 = (0 : Int32) → (vX4_at x1 x8 (2 : Int32) x3 (fun r223 => (vp_in x8 12 ∧ (vX4_puts mcel r223 (msha x8.toNatClampNeg) (fun r233 u233 => (vp_in x8 12 ∧ ((r233 = (msha x8.toNatClampNeg) → (vX4_spreads_L185 pl mpar mhel mclo mwei msha x1 x2 x3 Q n (x7 + (0 : Int32)) (x8 + (1 : Int32)) u233)) ∧ (¬ r233 = (msha x8.toNatClampNeg) → (vX4_spreads_L185 pl mpar mhel mclo mwei msha x1 x2 x3 Q n (x7 + (1 : Int32)) (x8 + (1 : Int32)) u233)))))))))))))))))))
set_option maxHeartbeats 4000000 in
set_option maxRecDepth 100000 in
theorem wvX4_spreads_L185 {l : Launch} {γ : Gm} {κ : Kx} {bd : Nat → Nat} {pl : Int32} {msn : Int32} {thr : Int32} {mpar : Ar} {mhel : Ar} {mclo : Ar} {msea : Ar} {mwei : Ar} {msha : Ar} {mmon : Ar} {x1 : Int32} {x2 : Int32} {x3 : Int32} {Q : Int32 → (Ar × Ar × Ar) → Prop} (C : Ok γ κ cX4_spreads 9 RX4 3 73) (RT : RtI l γ κ cX4_spreads .int 0 0 (fun (r : Int32) (u : Ar × Ar × Ar) => Q r u) (fun u => wN γ bd pl msn thr mpar u.1 mhel mclo msea u.2.1 u.2.2 mmon))  : ∀ (n : Nat) (x7 : Int32) (x8 : Int32) (mcel : Ar), vX4_spreads_L185 pl mpar mhel mclo mwei msha x1 x2 x3 Q n x7 x8 mcel → G l γ κ (wN γ bd pl msn thr mpar mcel mhel mclo msea mwei msha mmon) [(0, .ref (bd 0)), (1, .int x1), (2, .int x2), (3, .int x3), (7, .int x7), (8, .int x8)] 0 0 [] 185 := by
  intro n
  induction n with
  | zero => intro x7 x8 mcel hv; exact False.elim hv
  | succ n ih =>
    intro x7 x8 mcel hv
    refine g_iload (pc' := 187) C dX4_spreads_185 rfl rfl ?_
    refine g_aload_n (pc' := 188) C dX4_spreads_187 rfl rfl rfl ?_
    refine gf_X4_7 (pc' := 191) C dX4_spreads_188 rfl 0 rfl rfl ?_
    obtain ⟨hv1, hv2⟩ := hv
    refine g_icmp_ge (pc' := 194) (tgt := 260) C dX4_spreads_191 rfl (by decide) (fun c => ?_) (fun c => ?_)
    · have hv := hv1 c
      refine g_iload (pc' := 262) C dX4_spreads_260 rfl rfl ?_
      exact RT x7 (mcel, mwei, msha) _ _ _ _ dX4_spreads_262 rfl (by decide) (by decide) hv
    · have hv := hv2 c
      refine g_aload_n (pc' := 195) C dX4_spreads_194 rfl rfl rfl ?_
      refine g_iload (pc' := 197) C dX4_spreads_195 rfl rfl ?_
      refine g_iload_n (pc' := 198) C dX4_spreads_197 rfl rfl rfl ?_
      refine csI (pc' := 201) C (run_VI (rest := []) C lk_X4_63 (mtX4_isLeafOf hv) ⟨by decide, by decide⟩ rfl rfl rfl rfl (Nat.le_of_ble_eq_true rfl) ⟨Nat.zero_le _, Nat.zero_le _⟩ dX4_spreads_198) rfl (fun r198 u198 hv => ?_)
      obtain ⟨hv1, hv2⟩ := hv
      refine g_if_eq (pc' := 204) (tgt := 254) C dX4_spreads_201 rfl (by decide) (fun c => ?_) (fun c => ?_)
      · have hv := hv1 c
        refine g_iinc (pc' := 257) (v := (x8 + (1 : Int32))) (lv' := [(8, .int (x8 + (1 : Int32))), (0, .ref (bd 0)), (1, .int x1), (2, .int x2), (3, .int x3), (7, .int x7)]) C dX4_spreads_254 rfl rfl rfl (by decide) rfl ?_
        refine g_goto (tgt := 185) C dX4_spreads_257 (by decide) ?_
        refine g_sub (lv' := [(0, .ref (bd 0)), (1, .int x1), (2, .int x2), (3, .int x3), (7, .int x7), (8, .int (x8 + (1 : Int32)))]) [1, 2, 3, 4, 5, 0] rfl ?_
        exact ih _ _ _ hv
      · have hv := hv2 c
        refine g_aload_n (pc' := 205) C dX4_spreads_204 rfl rfl rfl ?_
        refine g_iload_n (pc' := 206) C dX4_spreads_205 rfl rfl rfl ?_
        refine g_iload (pc' := 208) C dX4_spreads_206 rfl rfl ?_
        refine g_iload_n (pc' := 209) C dX4_spreads_208 rfl rfl rfl ?_
        refine csI (pc' := 212) C (run_VI (rest := []) C lk_X4_84 (mtX4_isFree hv) ⟨by decide, by decide⟩ rfl rfl rfl rfl (Nat.le_of_ble_eq_true rfl) ⟨Nat.zero_le _, Nat.zero_le _⟩ dX4_spreads_209) rfl (fun r209 u209 hv => ?_)
        obtain ⟨hv1, hv2⟩ := hv
        refine g_if_eq (pc' := 215) (tgt := 254) C dX4_spreads_212 rfl (by decide) (fun c => ?_) (fun c => ?_)
        · have hv := hv1 c
          refine g_iinc (pc' := 257) (v := (x8 + (1 : Int32))) (lv' := [(8, .int (x8 + (1 : Int32))), (0, .ref (bd 0)), (1, .int x1), (2, .int x2), (3, .int x3), (7, .int x7)]) C dX4_spreads_254 rfl rfl rfl (by decide) rfl ?_
          refine g_goto (tgt := 185) C dX4_spreads_257 (by decide) ?_
          refine g_sub (lv' := [(0, .ref (bd 0)), (1, .int x1), (2, .int x2), (3, .int x3), (7, .int x7), (8, .int (x8 + (1 : Int32)))]) [1, 2, 3, 4, 5, 0] rfl ?_
          exact ih _ _ _ hv
        · have hv := hv2 c
          refine g_iload (pc' := 217) C dX4_spreads_215 rfl rfl ?_
          refine g_aload_n (pc' := 218) C dX4_spreads_217 rfl rfl rfl ?_
          refine g_iload_n (pc' := 219) C dX4_spreads_218 rfl rfl rfl ?_
          refine g_iload (pc' := 221) C dX4_spreads_219 rfl rfl ?_
          refine g_iconst (pc' := 222) (v := (2 : Int32)) C dX4_spreads_221 rfl (by decide) ?_
          refine g_iload_n (pc' := 223) C dX4_spreads_222 rfl rfl rfl ?_
          refine cnI (pc' := 226) C (run_SI (rest := [.ref (bd 0), .int x7]) C lk_X4_53 (mtX4_at hv) ⟨by decide, by decide⟩ rfl rfl (Nat.le_of_ble_eq_true rfl) ⟨Nat.zero_le _, Nat.zero_le _⟩ dX4_spreads_223) rfl (fun r223 u223 hv => ?_)
          refine g_aload_n (pc' := 227) C dX4_spreads_226 rfl rfl rfl ?_
          refine gf_X4_32 (pc' := 230) C dX4_spreads_227 rfl 0 rfl rfl ?_
          refine g_iload (pc' := 232) C dX4_spreads_230 rfl rfl ?_
          obtain ⟨hi, hv⟩ := hv
          refine g_iald (pc' := 233) C dX4_spreads_232 rfl 7 rfl hi ?_
          refine csI (pc' := 236) C (run_VI (rest := [.int x7]) C lk_X4_80 (mtX4_puts hv) ⟨by decide, by decide⟩ rfl rfl rfl rfl (Nat.le_of_ble_eq_true rfl) ⟨Nat.zero_le _, Nat.zero_le _⟩ dX4_spreads_233) rfl (fun r233 u233 hv => ?_)
          refine g_aload_n (pc' := 237) C dX4_spreads_236 rfl rfl rfl ?_
          refine gf_X4_32 (pc' := 240) C dX4_spreads_237 rfl 0 rfl rfl ?_
          refine g_iload (pc' := 242) C dX4_spreads_240 rfl rfl ?_
          obtain ⟨hi, hv⟩ := hv
          refine g_iald (pc' := 243) C dX4_spreads_242 rfl 7 rfl hi ?_
          obtain ⟨hv1, hv2⟩ := hv
          refine g_icmp_eq (pc' := 246) (tgt := 250) C dX4_spreads_243 rfl (by decide) (fun c => ?_) (fun c => ?_)
          · have hv := hv1 c
            refine g_iconst (pc' := 251) (v := (0 : Int32)) C dX4_spreads_250 rfl (by decide) ?_
            refine g_iadd (pc' := 252) C dX4_spreads_251 rfl ?_
            refine g_istore (pc' := 254) (lv' := [(7, .int (x7 + (0 : Int32))), (0, .ref (bd 0)), (1, .int x1), (2, .int x2), (3, .int x3), (8, .int x8)]) C dX4_spreads_252 rfl (by decide) rfl ?_
            refine g_iinc (pc' := 257) (v := (x8 + (1 : Int32))) (lv' := [(8, .int (x8 + (1 : Int32))), (7, .int (x7 + (0 : Int32))), (0, .ref (bd 0)), (1, .int x1), (2, .int x2), (3, .int x3)]) C dX4_spreads_254 rfl rfl rfl (by decide) rfl ?_
            refine g_goto (tgt := 185) C dX4_spreads_257 (by decide) ?_
            refine g_sub (lv' := [(0, .ref (bd 0)), (1, .int x1), (2, .int x2), (3, .int x3), (7, .int (x7 + (0 : Int32))), (8, .int (x8 + (1 : Int32)))]) [2, 3, 4, 5, 1, 0] rfl ?_
            exact ih _ _ _ hv
          · have hv := hv2 c
            refine g_iconst (pc' := 247) (v := (1 : Int32)) C dX4_spreads_246 rfl (by decide) ?_
            refine g_goto (tgt := 251) C dX4_spreads_247 (by decide) ?_
            refine g_iadd (pc' := 252) C dX4_spreads_251 rfl ?_
            refine g_istore (pc' := 254) (lv' := [(7, .int (x7 + (1 : Int32))), (0, .ref (bd 0)), (1, .int x1), (2, .int x2), (3, .int x3), (8, .int x8)]) C dX4_spreads_252 rfl (by decide) rfl ?_
            refine g_iinc (pc' := 257) (v := (x8 + (1 : Int32))) (lv' := [(8, .int (x8 + (1 : Int32))), (7, .int (x7 + (1 : Int32))), (0, .ref (bd 0)), (1, .int x1), (2, .int x2), (3, .int x3)]) C dX4_spreads_254 rfl rfl rfl (by decide) rfl ?_
            refine g_goto (tgt := 185) C dX4_spreads_257 (by decide) ?_
            refine g_sub (lv' := [(0, .ref (bd 0)), (1, .int x1), (2, .int x2), (3, .int x3), (7, .int (x7 + (1 : Int32))), (8, .int (x8 + (1 : Int32)))]) [2, 3, 4, 5, 1, 0] rfl ?_
            exact ih _ _ _ hv
def vX4_spreads_J162 (pl : Int32) (mpar : Ar) (mcel : Ar) (mhel : Ar) (mclo : Ar) (mwei : Ar) (msha : Ar) (x1 : Int32) (x2 : Int32) (x3 : Int32) (x4 : Int32) (Q : Int32 → (Ar × Ar × Ar) → Prop) : Prop := (vX4_restOf pl mpar mcel mhel mclo x1 x2 x3 x4 (fun r169 => (vX4_shares mwei msha r169 pl (fun u176 => (∃ n185 : Nat, vX4_spreads_L185 pl mpar mhel mclo mwei u176 x1 x2 x3 Q n185 (0 : Int32) (0 : Int32) mcel)))))
set_option maxHeartbeats 4000000 in
set_option maxRecDepth 100000 in
theorem wvX4_spreads_J162 {l : Launch} {γ : Gm} {κ : Kx} {bd : Nat → Nat} {pl : Int32} {msn : Int32} {thr : Int32} {mpar : Ar} {mcel : Ar} {mhel : Ar} {mclo : Ar} {msea : Ar} {mwei : Ar} {msha : Ar} {mmon : Ar} {x1 : Int32} {x2 : Int32} {x3 : Int32} {x4 : Int32} {Q : Int32 → (Ar × Ar × Ar) → Prop} (C : Ok γ κ cX4_spreads 9 RX4 3 73) (RT : RtI l γ κ cX4_spreads .int 0 0 (fun (r : Int32) (u : Ar × Ar × Ar) => Q r u) (fun u => wN γ bd pl msn thr mpar u.1 mhel mclo msea u.2.1 u.2.2 mmon))  (hv : vX4_spreads_J162 pl mpar mcel mhel mclo mwei msha x1 x2 x3 x4 Q) : G l γ κ (wN γ bd pl msn thr mpar mcel mhel mclo msea mwei msha mmon) [(0, .ref (bd 0)), (1, .int x1), (2, .int x2), (3, .int x3), (4, .int x4)] 0 0 [] 162 := by
  refine g_aload_n (pc' := 163) C dX4_spreads_162 rfl rfl rfl ?_
  refine g_aload_n (pc' := 164) C dX4_spreads_163 rfl rfl rfl ?_
  refine g_iload_n (pc' := 165) C dX4_spreads_164 rfl rfl rfl ?_
  refine g_iload_n (pc' := 166) C dX4_spreads_165 rfl rfl rfl ?_
  refine g_iload_n (pc' := 167) C dX4_spreads_166 rfl rfl rfl ?_
  refine g_iload (pc' := 169) C dX4_spreads_167 rfl rfl ?_
  refine csI (pc' := 172) C (run_VI (rest := [.ref (bd 0)]) C lk_X4_87 (mtX4_restOf hv) ⟨by decide, by decide⟩ rfl rfl rfl rfl (Nat.le_of_ble_eq_true rfl) ⟨Nat.zero_le _, Nat.zero_le _⟩ dX4_spreads_169) rfl (fun r169 u169 hv => ?_)
  refine g_aload_n (pc' := 173) C dX4_spreads_172 rfl rfl rfl ?_
  refine gf_X4_7 (pc' := 176) C dX4_spreads_173 rfl 0 rfl rfl ?_
  refine csV (pc' := 179) C (run_VV (rest := []) C lk_X4_90 (mtX4_shares hv) ⟨by decide, by decide⟩ rfl rfl rfl rfl (Nat.le_of_ble_eq_true rfl) ⟨Nat.zero_le _, Nat.zero_le _⟩ dX4_spreads_176) rfl (fun u176 hv => ?_)
  refine g_iconst (pc' := 180) (v := (0 : Int32)) C dX4_spreads_179 rfl (by decide) ?_
  refine g_istore (pc' := 182) (lv' := [(7, .int (0 : Int32)), (0, .ref (bd 0)), (1, .int x1), (2, .int x2), (3, .int x3), (4, .int x4)]) C dX4_spreads_180 rfl (by decide) rfl ?_
  refine g_iconst (pc' := 183) (v := (0 : Int32)) C dX4_spreads_182 rfl (by decide) ?_
  refine g_istore (pc' := 185) (lv' := [(8, .int (0 : Int32)), (7, .int (0 : Int32)), (0, .ref (bd 0)), (1, .int x1), (2, .int x2), (3, .int x3), (4, .int x4)]) C dX4_spreads_183 rfl (by decide) rfl ?_
  refine g_sub (lv' := [(0, .ref (bd 0)), (1, .int x1), (2, .int x2), (3, .int x3), (7, .int (0 : Int32)), (8, .int (0 : Int32))]) [2, 3, 4, 5, 1, 0] rfl ?_
  obtain ⟨n185, hv⟩ := hv
  exact wvX4_spreads_L185 C RT  n185 _ _ _ hv
def vX4_spreads_L103 (pl : Int32) (mpar : Ar) (mcel : Ar) (mhel : Ar) (mclo : Ar) (msha : Ar) (x1 : Int32) (x2 : Int32) (x3 : Int32) (x4 : Int32) (x5 : Int32) (x6 : Int32) (Q : Int32 → (Ar × Ar × Ar) → Prop) : Nat → Int32 → Ar → Prop
  | 0, _, _ => False
  | n + 1, x7, mwei => ((pl ≤ x7 → (vX4_spreads_J162 pl mpar mcel mhel mclo mwei msha x1 x2 x3 x4 Q)) ∧ (¬ pl ≤ x7 → ((¬ x6 = (0 : Int32) → (vX4_spreads_J123 pl mpar mcel mhel mclo mwei msha x1 x2 x3 x4 x5 x6 x7 (vX4_spreads_L103 pl mpar mcel mhel mclo msha x1 x2 x3 x4 x5 x6 Q n) Q)) ∧ (x6 = (0 : Int32) → ((¬ x5 = (1 : Int32) → (vX4_spreads_J162 pl mpar mcel mhel mclo mwei msha x1 x2 x3 x4 Q)) ∧ (x5 = (1 : Int32) → (vX4_spreads_J123 pl mpar mcel mhel mclo mwei msha x1 x2 x3 x4 x5 x6 x7 (vX4_spreads_L103 pl mpar mcel mhel mclo msha x1 x2 x3 x4 x5 x6 Q n) Q)))))))
set_option maxHeartbeats 4000000 in
set_option maxRecDepth 100000 in
theorem wvX4_spreads_L103 {l : Launch} {γ : Gm} {κ : Kx} {bd : Nat → Nat} {pl : Int32} {msn : Int32} {thr : Int32} {mpar : Ar} {mcel : Ar} {mhel : Ar} {mclo : Ar} {msea : Ar} {msha : Ar} {mmon : Ar} {x1 : Int32} {x2 : Int32} {x3 : Int32} {x4 : Int32} {x5 : Int32} {x6 : Int32} {Q : Int32 → (Ar × Ar × Ar) → Prop} (C : Ok γ κ cX4_spreads 9 RX4 3 73) (RT : RtI l γ κ cX4_spreads .int 0 0 (fun (r : Int32) (u : Ar × Ar × Ar) => Q r u) (fun u => wN γ bd pl msn thr mpar u.1 mhel mclo msea u.2.1 u.2.2 mmon))  : ∀ (n : Nat) (x7 : Int32) (mwei : Ar), vX4_spreads_L103 pl mpar mcel mhel mclo msha x1 x2 x3 x4 x5 x6 Q n x7 mwei → G l γ κ (wN γ bd pl msn thr mpar mcel mhel mclo msea mwei msha mmon) [(0, .ref (bd 0)), (1, .int x1), (2, .int x2), (3, .int x3), (4, .int x4), (5, .int x5), (6, .int x6), (7, .int x7)] 0 0 [] 103 := by
  intro n
  induction n with
  | zero => intro x7 mwei hv; exact False.elim hv
  | succ n ih =>
    intro x7 mwei hv
    refine g_iload (pc' := 105) C dX4_spreads_103 rfl rfl ?_
    refine g_aload_n (pc' := 106) C dX4_spreads_105 rfl rfl rfl ?_
    refine gf_X4_7 (pc' := 109) C dX4_spreads_106 rfl 0 rfl rfl ?_
    obtain ⟨hv1, hv2⟩ := hv
    refine g_icmp_ge (pc' := 112) (tgt := 162) C dX4_spreads_109 rfl (by decide) (fun c => ?_) (fun c => ?_)
    · have hv := hv1 c
      refine g_sub (lv' := [(0, .ref (bd 0)), (1, .int x1), (2, .int x2), (3, .int x3), (4, .int x4)]) [0, 1, 2, 3, 4] rfl ?_
      exact wvX4_spreads_J162 C RT  hv
    · have hv := hv2 c
      refine g_iload (pc' := 114) C dX4_spreads_112 rfl rfl ?_
      obtain ⟨hv1, hv2⟩ := hv
      refine g_if_ne (pc' := 117) (tgt := 123) C dX4_spreads_114 rfl (by decide) (fun c => ?_) (fun c => ?_)
      · have hv := hv1 c
        exact wvX4_spreads_J123 C RT ih hv
      · have hv := hv2 c
        refine g_iload (pc' := 119) C dX4_spreads_117 rfl rfl ?_
        refine g_iconst (pc' := 120) (v := (1 : Int32)) C dX4_spreads_119 rfl (by decide) ?_
        obtain ⟨hv1, hv2⟩ := hv
        refine g_icmp_ne (pc' := 123) (tgt := 162) C dX4_spreads_120 rfl (by decide) (fun c => ?_) (fun c => ?_)
        · have hv := hv1 c
          refine g_sub (lv' := [(0, .ref (bd 0)), (1, .int x1), (2, .int x2), (3, .int x3), (4, .int x4)]) [0, 1, 2, 3, 4] rfl ?_
          exact wvX4_spreads_J162 C RT  hv
        · have hv := hv2 c
          exact wvX4_spreads_J123 C RT ih hv
def vX4_spreads_L6 (pl : Int32) (mpar : Ar) (mcel : Ar) (mhel : Ar) (mclo : Ar) (msha : Ar) (x1 : Int32) (x2 : Int32) (x3 : Int32) (x4 : Int32) (x5 : Int32) (Q : Int32 → (Ar × Ar × Ar) → Prop) : Nat → Int32 → Int32 → Ar → Prop
  | 0, _, _, _ => False
  | n + 1, x6, x7, mwei => ((pl ≤ x7 → (∃ n103 : Nat, vX4_spreads_L103 pl mpar mcel mhel mclo msha x1 x2 x3 x4 x5 x6 Q n103 (0 : Int32) mwei)) ∧ (¬ pl ≤ x7 → (vX4_isLeafOf pl mpar x7 x2 (fun r19 => ((r19 = (0 : Int32) → (vX4_spreads_J40 pl mpar mcel mhel mclo mwei msha x1 x2 x3 x4 x5 x6 x7 (vX4_spreads_L6 pl mpar mcel mhel mclo msha x1 x2 x3 x4 x5 Q n) Q)) ∧ (¬ r19 = (0 : Int32) → (vX4_isFree mhel mclo x1 x7 x3 (fun r30 => ((r30 = (0 : Int32) → (vX4_spreads_J40 pl mpar mcel mhel mclo mwei msha x1 x2 x3 x4 x5 x6 x7 (vX4_spreads_L6 pl mpar mcel mhel mclo msha x1 x2 x3 x4 x5 Q n) Q)) ∧ (¬ r30 = (0 : Int32) → (vX4_spreads_J41 pl mpar mcel mhel mclo mwei msha x1 x2 x3 x4 x5 x6 x7 (1 : Int32) (vX4_spreads_L6 pl mpar mcel mhel mclo msha x1 x2 x3 x4 x5 Q n) Q)))))))))))
set_option maxHeartbeats 4000000 in
set_option maxRecDepth 100000 in
theorem wvX4_spreads_L6 {l : Launch} {γ : Gm} {κ : Kx} {bd : Nat → Nat} {pl : Int32} {msn : Int32} {thr : Int32} {mpar : Ar} {mcel : Ar} {mhel : Ar} {mclo : Ar} {msea : Ar} {msha : Ar} {mmon : Ar} {x1 : Int32} {x2 : Int32} {x3 : Int32} {x4 : Int32} {x5 : Int32} {Q : Int32 → (Ar × Ar × Ar) → Prop} (C : Ok γ κ cX4_spreads 9 RX4 3 73) (RT : RtI l γ κ cX4_spreads .int 0 0 (fun (r : Int32) (u : Ar × Ar × Ar) => Q r u) (fun u => wN γ bd pl msn thr mpar u.1 mhel mclo msea u.2.1 u.2.2 mmon))  : ∀ (n : Nat) (x6 : Int32) (x7 : Int32) (mwei : Ar), vX4_spreads_L6 pl mpar mcel mhel mclo msha x1 x2 x3 x4 x5 Q n x6 x7 mwei → G l γ κ (wN γ bd pl msn thr mpar mcel mhel mclo msea mwei msha mmon) [(0, .ref (bd 0)), (1, .int x1), (2, .int x2), (3, .int x3), (4, .int x4), (5, .int x5), (6, .int x6), (7, .int x7)] 0 0 [] 6 := by
  intro n
  induction n with
  | zero => intro x6 x7 mwei hv; exact False.elim hv
  | succ n ih =>
    intro x6 x7 mwei hv
    refine g_iload (pc' := 8) C dX4_spreads_6 rfl rfl ?_
    refine g_aload_n (pc' := 9) C dX4_spreads_8 rfl rfl rfl ?_
    refine gf_X4_7 (pc' := 12) C dX4_spreads_9 rfl 0 rfl rfl ?_
    obtain ⟨hv1, hv2⟩ := hv
    refine g_icmp_ge (pc' := 15) (tgt := 100) C dX4_spreads_12 rfl (by decide) (fun c => ?_) (fun c => ?_)
    · have hv := hv1 c
      refine g_iconst (pc' := 101) (v := (0 : Int32)) C dX4_spreads_100 rfl (by decide) ?_
      refine g_istore (pc' := 103) (lv' := [(7, .int (0 : Int32)), (0, .ref (bd 0)), (1, .int x1), (2, .int x2), (3, .int x3), (4, .int x4), (5, .int x5), (6, .int x6)]) C dX4_spreads_101 rfl (by decide) rfl ?_
      refine g_sub (lv' := [(0, .ref (bd 0)), (1, .int x1), (2, .int x2), (3, .int x3), (4, .int x4), (5, .int x5), (6, .int x6), (7, .int (0 : Int32))]) [1, 2, 3, 4, 5, 6, 7, 0] rfl ?_
      obtain ⟨n103, hv⟩ := hv
      exact wvX4_spreads_L103 C RT  n103 _ _ hv
    · have hv := hv2 c
      refine g_aload_n (pc' := 16) C dX4_spreads_15 rfl rfl rfl ?_
      refine g_iload (pc' := 18) C dX4_spreads_16 rfl rfl ?_
      refine g_iload_n (pc' := 19) C dX4_spreads_18 rfl rfl rfl ?_
      refine csI (pc' := 22) C (run_VI (rest := []) C lk_X4_63 (mtX4_isLeafOf hv) ⟨by decide, by decide⟩ rfl rfl rfl rfl (Nat.le_of_ble_eq_true rfl) ⟨Nat.zero_le _, Nat.zero_le _⟩ dX4_spreads_19) rfl (fun r19 u19 hv => ?_)
      obtain ⟨hv1, hv2⟩ := hv
      refine g_if_eq (pc' := 25) (tgt := 40) C dX4_spreads_22 rfl (by decide) (fun c => ?_) (fun c => ?_)
      · have hv := hv1 c
        exact wvX4_spreads_J40 C RT ih hv
      · have hv := hv2 c
        refine g_aload_n (pc' := 26) C dX4_spreads_25 rfl rfl rfl ?_
        refine g_iload_n (pc' := 27) C dX4_spreads_26 rfl rfl rfl ?_
        refine g_iload (pc' := 29) C dX4_spreads_27 rfl rfl ?_
        refine g_iload_n (pc' := 30) C dX4_spreads_29 rfl rfl rfl ?_
        refine csI (pc' := 33) C (run_VI (rest := []) C lk_X4_84 (mtX4_isFree hv) ⟨by decide, by decide⟩ rfl rfl rfl rfl (Nat.le_of_ble_eq_true rfl) ⟨Nat.zero_le _, Nat.zero_le _⟩ dX4_spreads_30) rfl (fun r30 u30 hv => ?_)
        obtain ⟨hv1, hv2⟩ := hv
        refine g_if_eq (pc' := 36) (tgt := 40) C dX4_spreads_33 rfl (by decide) (fun c => ?_) (fun c => ?_)
        · have hv := hv1 c
          exact wvX4_spreads_J40 C RT ih hv
        · have hv := hv2 c
          refine g_iconst (pc' := 37) (v := (1 : Int32)) C dX4_spreads_36 rfl (by decide) ?_
          refine g_goto (tgt := 41) C dX4_spreads_37 (by decide) ?_
          exact wvX4_spreads_J41 C RT ih hv
def vX4_spreads (pl : Int32) (mpar : Ar) (mcel : Ar) (mhel : Ar) (mclo : Ar) (mwei : Ar) (msha : Ar) (x1 : Int32) (x2 : Int32) (x3 : Int32) (x4 : Int32) (x5 : Int32) (Q : Int32 → (Ar × Ar × Ar) → Prop) : Prop := (∃ n6 : Nat, vX4_spreads_L6 pl mpar mcel mhel mclo msha x1 x2 x3 x4 x5 Q n6 (1 : Int32) (0 : Int32) mwei)
set_option maxHeartbeats 4000000 in
set_option maxRecDepth 100000 in
theorem mtX4_spreads {l : Launch} {γ : Gm} {bd : Nat → Nat} {pl : Int32} {msn : Int32} {thr : Int32} {mpar : Ar} {mcel : Ar} {mhel : Ar} {mclo : Ar} {msea : Ar} {mwei : Ar} {msha : Ar} {mmon : Ar} {x1 : Int32} {x2 : Int32} {x3 : Int32} {x4 : Int32} {x5 : Int32} {Q : Int32 → (Ar × Ar × Ar) → Prop} (hv : vX4_spreads pl mpar mcel mhel mclo mwei msha x1 x2 x3 x4 x5 Q) : CtI l γ yX4_spreads cX4_spreads 9 .int 3 73 0 0 [.ref (bd 0), .int x1, .int x2, .int x3, .int x4, .int x5] (wN γ bd pl msn thr mpar mcel mhel mclo msea mwei msha mmon) (fun (r : Int32) (u : Ar × Ar × Ar) => Q r u) (fun u => wN γ bd pl msn thr mpar u.1 mhel mclo msea u.2.1 u.2.2 mmon) := startI (by decide +kernel) (Nat.le_of_ble_eq_true rfl) (fun κ C RT hR hnm => by
  show G l γ κ (wN γ bd pl msn thr mpar mcel mhel mclo msea mwei msha mmon) [(0, .ref (bd 0)), (1, .int x1), (2, .int x2), (3, .int x3), (4, .int x4), (5, .int x5)] 0 0 [] 0
  refine g_iconst (pc' := 1) (v := (1 : Int32)) C dX4_spreads_0 rfl (by decide) ?_
  refine g_istore (pc' := 3) (lv' := [(6, .int (1 : Int32)), (0, .ref (bd 0)), (1, .int x1), (2, .int x2), (3, .int x3), (4, .int x4), (5, .int x5)]) C dX4_spreads_1 rfl (by decide) rfl ?_
  refine g_iconst (pc' := 4) (v := (0 : Int32)) C dX4_spreads_3 rfl (by decide) ?_
  refine g_istore (pc' := 6) (lv' := [(7, .int (0 : Int32)), (6, .int (1 : Int32)), (0, .ref (bd 0)), (1, .int x1), (2, .int x2), (3, .int x3), (4, .int x4), (5, .int x5)]) C dX4_spreads_4 rfl (by decide) rfl ?_
  refine g_sub (lv' := [(0, .ref (bd 0)), (1, .int x1), (2, .int x2), (3, .int x3), (4, .int x4), (5, .int x5), (6, .int (1 : Int32)), (7, .int (0 : Int32))]) [2, 3, 4, 5, 6, 7, 1, 0] rfl ?_
  obtain ⟨n6, hv⟩ := hv
  exact wvX4_spreads_L6 C RT  n6 _ _ _ hv)
def vX4_spread_J53 (pl : Int32) (thr : Int32) (mpar : Ar) (mcel : Ar) (mhel : Ar) (mclo : Ar) (mwei : Ar) (msha : Ar) (x1 : Int32) (x2 : Int32) (x3 : Int32) (x4 : Int32) (x5 : Int32) (s0 : Int32) (Q : Int32 → (Int32 × Ar × Ar × Ar) → Prop) : Prop := ((s0 ≤ (0 : Int32) → (vX4_restOf pl mpar mcel mhel mclo x1 x2 x3 x4 (fun r71 => ((¬ r71 = (-1 : Int32) → (vX4_spreads pl mpar mcel mhel mclo mwei msha x1 x2 x3 x4 x5 (fun r94 u94 => (Q r94 (s0, u94.1, u94.2.1, u94.2.2))))) ∧ (r71 = (-1 : Int32) → (vX4_fails s0 (3 : Int32) (fun r80 u80 => (Q r80 (u80, mcel, mwei, msha))))))))) ∧ (¬ s0 ≤ (0 : Int32) → (Q (0 : Int32) (s0, mcel, mwei, msha))))
set_option maxHeartbeats 4000000 in
set_option maxRecDepth 100000 in
theorem wvX4_spread_J53 {l : Launch} {γ : Gm} {κ : Kx} {bd : Nat → Nat} {pl : Int32} {msn : Int32} {thr : Int32} {mpar : Ar} {mcel : Ar} {mhel : Ar} {mclo : Ar} {msea : Ar} {mwei : Ar} {msha : Ar} {mmon : Ar} {x1 : Int32} {x2 : Int32} {x3 : Int32} {x4 : Int32} {x5 : Int32} {s0 : Int32} {Q : Int32 → (Int32 × Ar × Ar × Ar) → Prop} (C : Ok γ κ cX4_spread 6 RX4 4 101) (RT : RtI l γ κ cX4_spread .int 0 0 (fun (r : Int32) (u : Int32 × Ar × Ar × Ar) => Q r u) (fun u => wN γ bd pl msn u.1 mpar u.2.1 mhel mclo msea u.2.2.1 u.2.2.2 mmon))  (hv : vX4_spread_J53 pl thr mpar mcel mhel mclo mwei msha x1 x2 x3 x4 x5 s0 Q) : G l γ κ (wN γ bd pl msn thr mpar mcel mhel mclo msea mwei msha mmon) [(0, .ref (bd 0)), (1, .int x1), (2, .int x2), (3, .int x3), (4, .int x4), (5, .int x5)] 0 0 [.int s0, .ref (bd 0)] 53 := by
  refine pf_X4_38 (pc' := 56) (ws' := wN γ bd pl msn s0 mpar mcel mhel mclo msea mwei msha mmon) C dX4_spread_53 rfl 0 rfl rfl rfl (Nat.le_of_ble_eq_true rfl) rfl ?_
  refine g_aload_n (pc' := 57) C dX4_spread_56 rfl rfl rfl ?_
  refine gf_X4_38 (pc' := 60) C dX4_spread_57 rfl 0 rfl rfl ?_
  obtain ⟨hv1, hv2⟩ := hv
  refine g_if_le (pc' := 63) (tgt := 65) C dX4_spread_60 rfl (by decide) (fun c => ?_) (fun c => ?_)
  · have hv := hv1 c
    refine g_aload_n (pc' := 66) C dX4_spread_65 rfl rfl rfl ?_
    refine g_iload_n (pc' := 67) C dX4_spread_66 rfl rfl rfl ?_
    refine g_iload_n (pc' := 68) C dX4_spread_67 rfl rfl rfl ?_
    refine g_iload_n (pc' := 69) C dX4_spread_68 rfl rfl rfl ?_
    refine g_iload (pc' := 71) C dX4_spread_69 rfl rfl ?_
    refine csI (pc' := 74) C (run_VI (rest := []) C lk_X4_87 (mtX4_restOf hv) ⟨by decide, by decide⟩ rfl rfl rfl rfl (Nat.le_of_ble_eq_true rfl) ⟨Nat.zero_le _, Nat.zero_le _⟩ dX4_spread_71) rfl (fun r71 u71 hv => ?_)
    refine g_iconst (pc' := 75) (v := (-1 : Int32)) C dX4_spread_74 rfl (by decide) ?_
    obtain ⟨hv1, hv2⟩ := hv
    refine g_icmp_ne (pc' := 78) (tgt := 86) C dX4_spread_75 rfl (by decide) (fun c => ?_) (fun c => ?_)
    · have hv := hv1 c
      refine g_aload_n (pc' := 87) C dX4_spread_86 rfl rfl rfl ?_
      refine g_iload_n (pc' := 88) C dX4_spread_87 rfl rfl rfl ?_
      refine g_iload_n (pc' := 89) C dX4_spread_88 rfl rfl rfl ?_
      refine g_iload_n (pc' := 90) C dX4_spread_89 rfl rfl rfl ?_
      refine g_iload (pc' := 92) C dX4_spread_90 rfl rfl ?_
      refine g_iload (pc' := 94) C dX4_spread_92 rfl rfl ?_
      refine csI (pc' := 97) C (run_VI (rest := []) C lk_X4_93 (mtX4_spreads hv) ⟨by decide, by decide⟩ rfl rfl rfl rfl (Nat.le_of_ble_eq_true rfl) ⟨Nat.zero_le _, Nat.zero_le _⟩ dX4_spread_94) rfl (fun r94 u94 hv => ?_)
      exact RT r94 (s0, u94.1, u94.2.1, u94.2.2) _ _ _ _ dX4_spread_97 rfl (by decide) (by decide) hv
    · have hv := hv2 c
      refine g_aload_n (pc' := 79) C dX4_spread_78 rfl rfl rfl ?_
      refine g_iconst (pc' := 80) (v := (3 : Int32)) C dX4_spread_79 rfl (by decide) ?_
      refine csI (pc' := 83) C (run_VI (rest := []) C lk_X4_76 (mtX4_fails hv) ⟨by decide, by decide⟩ rfl rfl rfl rfl (Nat.le_of_ble_eq_true rfl) ⟨Nat.zero_le _, Nat.zero_le _⟩ dX4_spread_80) rfl (fun r80 u80 hv => ?_)
      refine g_goto (tgt := 97) C dX4_spread_83 (by decide) ?_
      exact RT r80 (u80, mcel, mwei, msha) _ _ _ _ dX4_spread_97 rfl (by decide) (by decide) hv
  · have hv := hv2 c
    refine g_iconst (pc' := 64) (v := (0 : Int32)) C dX4_spread_63 rfl (by decide) ?_
    exact RT (0 : Int32) (s0, mcel, mwei, msha) _ _ _ _ dX4_spread_64 rfl (by decide) (by decide) hv
def vX4_spread_J23 (pl : Int32) (thr : Int32) (mpar : Ar) (mcel : Ar) (mhel : Ar) (mclo : Ar) (mwei : Ar) (msha : Ar) (x1 : Int32) (x2 : Int32) (x3 : Int32) (x4 : Int32) (x5 : Int32) (Q : Int32 → (Int32 × Ar × Ar × Ar) → Prop) : Prop := (vX4_spread_J53 pl thr mpar mcel mhel mclo mwei msha x1 x2 x3 x4 x5 (1 : Int32) Q)
set_option maxHeartbeats 4000000 in
set_option maxRecDepth 100000 in
theorem wvX4_spread_J23 {l : Launch} {γ : Gm} {κ : Kx} {bd : Nat → Nat} {pl : Int32} {msn : Int32} {thr : Int32} {mpar : Ar} {mcel : Ar} {mhel : Ar} {mclo : Ar} {msea : Ar} {mwei : Ar} {msha : Ar} {mmon : Ar} {x1 : Int32} {x2 : Int32} {x3 : Int32} {x4 : Int32} {x5 : Int32} {Q : Int32 → (Int32 × Ar × Ar × Ar) → Prop} (C : Ok γ κ cX4_spread 6 RX4 4 101) (RT : RtI l γ κ cX4_spread .int 0 0 (fun (r : Int32) (u : Int32 × Ar × Ar × Ar) => Q r u) (fun u => wN γ bd pl msn u.1 mpar u.2.1 mhel mclo msea u.2.2.1 u.2.2.2 mmon))  (hv : vX4_spread_J23 pl thr mpar mcel mhel mclo mwei msha x1 x2 x3 x4 x5 Q) : G l γ κ (wN γ bd pl msn thr mpar mcel mhel mclo msea mwei msha mmon) [(0, .ref (bd 0)), (1, .int x1), (2, .int x2), (3, .int x3), (4, .int x4), (5, .int x5)] 0 0 [.ref (bd 0)] 23 := by
  refine g_iconst (pc' := 24) (v := (1 : Int32)) C dX4_spread_23 rfl (by decide) ?_
  refine g_goto (tgt := 53) C dX4_spread_24 (by decide) ?_
  exact wvX4_spread_J53 C RT  hv
def vX4_spread_J48 (pl : Int32) (thr : Int32) (mpar : Ar) (mcel : Ar) (mhel : Ar) (mclo : Ar) (mwei : Ar) (msha : Ar) (x1 : Int32) (x2 : Int32) (x3 : Int32) (x4 : Int32) (x5 : Int32) (Q : Int32 → (Int32 × Ar × Ar × Ar) → Prop) : Prop := (vX4_spread_J53 pl thr mpar mcel mhel mclo mwei msha x1 x2 x3 x4 x5 (2 : Int32) Q)
set_option maxHeartbeats 4000000 in
set_option maxRecDepth 100000 in
theorem wvX4_spread_J48 {l : Launch} {γ : Gm} {κ : Kx} {bd : Nat → Nat} {pl : Int32} {msn : Int32} {thr : Int32} {mpar : Ar} {mcel : Ar} {mhel : Ar} {mclo : Ar} {msea : Ar} {mwei : Ar} {msha : Ar} {mmon : Ar} {x1 : Int32} {x2 : Int32} {x3 : Int32} {x4 : Int32} {x5 : Int32} {Q : Int32 → (Int32 × Ar × Ar × Ar) → Prop} (C : Ok γ κ cX4_spread 6 RX4 4 101) (RT : RtI l γ κ cX4_spread .int 0 0 (fun (r : Int32) (u : Int32 × Ar × Ar × Ar) => Q r u) (fun u => wN γ bd pl msn u.1 mpar u.2.1 mhel mclo msea u.2.2.1 u.2.2.2 mmon))  (hv : vX4_spread_J48 pl thr mpar mcel mhel mclo mwei msha x1 x2 x3 x4 x5 Q) : G l γ κ (wN γ bd pl msn thr mpar mcel mhel mclo msea mwei msha mmon) [(0, .ref (bd 0)), (1, .int x1), (2, .int x2), (3, .int x3), (4, .int x4), (5, .int x5)] 0 0 [.ref (bd 0)] 48 := by
  refine g_iconst (pc' := 49) (v := (2 : Int32)) C dX4_spread_48 rfl (by decide) ?_
  refine g_goto (tgt := 53) C dX4_spread_49 (by decide) ?_
  exact wvX4_spread_J53 C RT  hv
def vX4_spread (pl : Int32) (thr : Int32) (mpar : Ar) (mcel : Ar) (mhel : Ar) (mclo : Ar) (mwei : Ar) (msha : Ar) (x1 : Int32) (x2 : Int32) (x3 : Int32) (x4 : Int32) (x5 : Int32) (Q : Int32 → (Int32 × Ar × Ar × Ar) → Prop) : Prop := (vX4_isVersion x1 (fun r2 => ((r2 = (0 : Int32) → (vX4_spread_J23 pl thr mpar mcel mhel mclo mwei msha x1 x2 x3 x4 x5 Q)) ∧ (¬ r2 = (0 : Int32) → (vX4_isPlace pl x2 (fun r10 => ((r10 = (0 : Int32) → (vX4_spread_J23 pl thr mpar mcel mhel mclo mwei msha x1 x2 x3 x4 x5 Q)) ∧ (¬ r10 = (0 : Int32) → (vX4_isMonth x3 (fun r17 => ((¬ r17 = (0 : Int32) → (vX4_in x4 (0 : Int32) (1000000 : Int32) (fun r32 => ((r32 = (0 : Int32) → (vX4_spread_J48 pl thr mpar mcel mhel mclo mwei msha x1 x2 x3 x4 x5 Q)) ∧ (¬ r32 = (0 : Int32) → (vX4_in x5 (0 : Int32) (1 : Int32) (fun r42 => ((¬ r42 = (0 : Int32) → (vX4_spread_J53 pl thr mpar mcel mhel mclo mwei msha x1 x2 x3 x4 x5 (0 : Int32) Q)) ∧ (r42 = (0 : Int32) → (vX4_spread_J48 pl thr mpar mcel mhel mclo mwei msha x1 x2 x3 x4 x5 Q)))))))))) ∧ (r17 = (0 : Int32) → (vX4_spread_J23 pl thr mpar mcel mhel mclo mwei msha x1 x2 x3 x4 x5 Q)))))))))))))
set_option maxHeartbeats 4000000 in
set_option maxRecDepth 100000 in
theorem mtX4_spread {l : Launch} {γ : Gm} {bd : Nat → Nat} {pl : Int32} {msn : Int32} {thr : Int32} {mpar : Ar} {mcel : Ar} {mhel : Ar} {mclo : Ar} {msea : Ar} {mwei : Ar} {msha : Ar} {mmon : Ar} {x1 : Int32} {x2 : Int32} {x3 : Int32} {x4 : Int32} {x5 : Int32} {Q : Int32 → (Int32 × Ar × Ar × Ar) → Prop} (hv : vX4_spread pl thr mpar mcel mhel mclo mwei msha x1 x2 x3 x4 x5 Q) : CtI l γ yX4_spread cX4_spread 6 .int 4 101 0 0 [.ref (bd 0), .int x1, .int x2, .int x3, .int x4, .int x5] (wN γ bd pl msn thr mpar mcel mhel mclo msea mwei msha mmon) (fun (r : Int32) (u : Int32 × Ar × Ar × Ar) => Q r u) (fun u => wN γ bd pl msn u.1 mpar u.2.1 mhel mclo msea u.2.2.1 u.2.2.2 mmon) := startI (by decide +kernel) (Nat.le_of_ble_eq_true rfl) (fun κ C RT hR hnm => by
  show G l γ κ (wN γ bd pl msn thr mpar mcel mhel mclo msea mwei msha mmon) [(0, .ref (bd 0)), (1, .int x1), (2, .int x2), (3, .int x3), (4, .int x4), (5, .int x5)] 0 0 [] 0
  refine g_aload_n (pc' := 1) C dX4_spread_0 rfl rfl rfl ?_
  refine g_iload_n (pc' := 2) C dX4_spread_1 rfl rfl rfl ?_
  refine cnI (pc' := 5) C (run_SI (rest := [.ref (bd 0)]) C lk_X4_67 (mtX4_isVersion hv) ⟨by decide, by decide⟩ rfl rfl (Nat.le_of_ble_eq_true rfl) ⟨Nat.zero_le _, Nat.zero_le _⟩ dX4_spread_2) rfl (fun r2 u2 hv => ?_)
  obtain ⟨hv1, hv2⟩ := hv
  refine g_if_eq (pc' := 8) (tgt := 23) C dX4_spread_5 rfl (by decide) (fun c => ?_) (fun c => ?_)
  · have hv := hv1 c
    exact wvX4_spread_J23 C RT  hv
  · have hv := hv2 c
    refine g_aload_n (pc' := 9) C dX4_spread_8 rfl rfl rfl ?_
    refine g_iload_n (pc' := 10) C dX4_spread_9 rfl rfl rfl ?_
    refine csI (pc' := 13) C (run_VI (rest := [.ref (bd 0)]) C lk_X4_57 (mtX4_isPlace hv) ⟨by decide, by decide⟩ rfl rfl rfl rfl (Nat.le_of_ble_eq_true rfl) ⟨Nat.zero_le _, Nat.zero_le _⟩ dX4_spread_10) rfl (fun r10 u10 hv => ?_)
    obtain ⟨hv1, hv2⟩ := hv
    refine g_if_eq (pc' := 16) (tgt := 23) C dX4_spread_13 rfl (by decide) (fun c => ?_) (fun c => ?_)
    · have hv := hv1 c
      exact wvX4_spread_J23 C RT  hv
    · have hv := hv2 c
      refine g_iload_n (pc' := 17) C dX4_spread_16 rfl rfl rfl ?_
      refine cnI (pc' := 20) C (run_SI (rest := [.ref (bd 0)]) C lk_X4_70 (mtX4_isMonth hv) ⟨by decide, by decide⟩ rfl rfl (Nat.le_of_ble_eq_true rfl) ⟨Nat.zero_le _, Nat.zero_le _⟩ dX4_spread_17) rfl (fun r17 u17 hv => ?_)
      obtain ⟨hv1, hv2⟩ := hv
      refine g_if_ne (pc' := 23) (tgt := 27) C dX4_spread_20 rfl (by decide) (fun c => ?_) (fun c => ?_)
      · have hv := hv1 c
        refine g_iload (pc' := 29) C dX4_spread_27 rfl rfl ?_
        refine g_iconst (pc' := 30) (v := (0 : Int32)) C dX4_spread_29 rfl (by decide) ?_
        refine g_ldc (pc' := 32) C k_X4_66 dX4_spread_30 rfl ?_
        refine cnI (pc' := 35) C (run_SI (rest := [.ref (bd 0)]) C lk_X4_41 (mtX4_in hv) ⟨by decide, by decide⟩ rfl rfl (Nat.le_of_ble_eq_true rfl) ⟨Nat.zero_le _, Nat.zero_le _⟩ dX4_spread_32) rfl (fun r32 u32 hv => ?_)
        obtain ⟨hv1, hv2⟩ := hv
        refine g_if_eq (pc' := 38) (tgt := 48) C dX4_spread_35 rfl (by decide) (fun c => ?_) (fun c => ?_)
        · have hv := hv1 c
          exact wvX4_spread_J48 C RT  hv
        · have hv := hv2 c
          refine g_iload (pc' := 40) C dX4_spread_38 rfl rfl ?_
          refine g_iconst (pc' := 41) (v := (0 : Int32)) C dX4_spread_40 rfl (by decide) ?_
          refine g_iconst (pc' := 42) (v := (1 : Int32)) C dX4_spread_41 rfl (by decide) ?_
          refine cnI (pc' := 45) C (run_SI (rest := [.ref (bd 0)]) C lk_X4_41 (mtX4_in hv) ⟨by decide, by decide⟩ rfl rfl (Nat.le_of_ble_eq_true rfl) ⟨Nat.zero_le _, Nat.zero_le _⟩ dX4_spread_42) rfl (fun r42 u42 hv => ?_)
          obtain ⟨hv1, hv2⟩ := hv
          refine g_if_ne (pc' := 48) (tgt := 52) C dX4_spread_45 rfl (by decide) (fun c => ?_) (fun c => ?_)
          · have hv := hv1 c
            refine g_iconst (pc' := 53) (v := (0 : Int32)) C dX4_spread_52 rfl (by decide) ?_
            exact wvX4_spread_J53 C RT  hv
          · have hv := hv2 c
            exact wvX4_spread_J48 C RT  hv
      · have hv := hv2 c
        exact wvX4_spread_J23 C RT  hv)
def vX4_spreadYear_L181 (pl : Int32) (thr : Int32) (mpar : Ar) (mhel : Ar) (mclo : Ar) (msea : Ar) (mmon : Ar) (x1 : Int32) (x2 : Int32) (Q : Int32 → (Int32 × Ar × Ar × Ar × Ar) → Prop) : Nat → Int32 → Int32 → Ar → Ar → Ar → Prop
  | 0, _, _, _, _, _ => False
  | n + 1, x4, x5, mcel, mwei, msha => (((12 : Int32) ≤ x5 → (Q x4 (thr, mcel, mwei, msha, mmon))) ∧ (¬ (12 : Int32) ≤ x5 → ((¬ thr = (0 : Int32) → (Q x4 (thr, mcel, mwei, msha, mmon))) ∧ (thr = (0 : Int32) → (vp_in x5 12 ∧ (vX4_spreads pl mpar mcel mhel mclo mwei msha x1 x2 x5 (mmon x5.toNatClampNeg) (0 : Int32) (fun r210 u210 => (vX4_spreadYear_L181 pl thr mpar mhel mclo msea mmon x1 x2 Q n (x4 + r210) (x5 + (1 : Int32)) u210.1 u210.2.1 u210.2.2))))))))
set_option maxHeartbeats 4000000 in
set_option maxRecDepth 100000 in
theorem wvX4_spreadYear_L181 {l : Launch} {γ : Gm} {κ : Kx} {bd : Nat → Nat} {pl : Int32} {msn : Int32} {thr : Int32} {mpar : Ar} {mhel : Ar} {mclo : Ar} {msea : Ar} {mmon : Ar} {x1 : Int32} {x2 : Int32} {Q : Int32 → (Int32 × Ar × Ar × Ar × Ar) → Prop} (C : Ok γ κ cX4_spreadYear 6 RX4 4 101) (RT : RtI l γ κ cX4_spreadYear .int 0 0 (fun (r : Int32) (u : Int32 × Ar × Ar × Ar × Ar) => Q r u) (fun u => wN γ bd pl msn u.1 mpar u.2.1 mhel mclo msea u.2.2.1 u.2.2.2.1 u.2.2.2.2))  : ∀ (n : Nat) (x4 : Int32) (x5 : Int32) (mcel : Ar) (mwei : Ar) (msha : Ar), vX4_spreadYear_L181 pl thr mpar mhel mclo msea mmon x1 x2 Q n x4 x5 mcel mwei msha → G l γ κ (wN γ bd pl msn thr mpar mcel mhel mclo msea mwei msha mmon) [(0, .ref (bd 0)), (1, .int x1), (2, .int x2), (4, .int x4), (5, .int x5)] 0 0 [] 181 := by
  intro n
  induction n with
  | zero => intro x4 x5 mcel mwei msha hv; exact False.elim hv
  | succ n ih =>
    intro x4 x5 mcel mwei msha hv
    refine g_iload (pc' := 183) C dX4_spreadYear_181 rfl rfl ?_
    refine g_bipush (pc' := 185) (v := (12 : Int32)) C dX4_spreadYear_183 rfl (by decide) ?_
    obtain ⟨hv1, hv2⟩ := hv
    refine g_icmp_ge (pc' := 188) (tgt := 222) C dX4_spreadYear_185 rfl (by decide) (fun c => ?_) (fun c => ?_)
    · have hv := hv1 c
      refine g_iload (pc' := 224) C dX4_spreadYear_222 rfl rfl ?_
      exact RT x4 (thr, mcel, mwei, msha, mmon) _ _ _ _ dX4_spreadYear_224 rfl (by decide) (by decide) hv
    · have hv := hv2 c
      refine g_aload_n (pc' := 189) C dX4_spreadYear_188 rfl rfl rfl ?_
      refine gf_X4_38 (pc' := 192) C dX4_spreadYear_189 rfl 0 rfl rfl ?_
      obtain ⟨hv1, hv2⟩ := hv
      refine g_if_ne (pc' := 195) (tgt := 222) C dX4_spreadYear_192 rfl (by decide) (fun c => ?_) (fun c => ?_)
      · have hv := hv1 c
        refine g_iload (pc' := 224) C dX4_spreadYear_222 rfl rfl ?_
        exact RT x4 (thr, mcel, mwei, msha, mmon) _ _ _ _ dX4_spreadYear_224 rfl (by decide) (by decide) hv
      · have hv := hv2 c
        refine g_iload (pc' := 197) C dX4_spreadYear_195 rfl rfl ?_
        refine g_aload_n (pc' := 198) C dX4_spreadYear_197 rfl rfl rfl ?_
        refine g_iload_n (pc' := 199) C dX4_spreadYear_198 rfl rfl rfl ?_
        refine g_iload_n (pc' := 200) C dX4_spreadYear_199 rfl rfl rfl ?_
        refine g_iload (pc' := 202) C dX4_spreadYear_200 rfl rfl ?_
        refine g_aload_n (pc' := 203) C dX4_spreadYear_202 rfl rfl rfl ?_
        refine gf_X4_35 (pc' := 206) C dX4_spreadYear_203 rfl 0 rfl rfl ?_
        refine g_iload (pc' := 208) C dX4_spreadYear_206 rfl rfl ?_
        obtain ⟨hi, hv⟩ := hv
        refine g_iald (pc' := 209) C dX4_spreadYear_208 rfl 8 rfl hi ?_
        refine g_iconst (pc' := 210) (v := (0 : Int32)) C dX4_spreadYear_209 rfl (by decide) ?_
        refine csI (pc' := 213) C (run_VI (rest := [.int x4]) C lk_X4_93 (mtX4_spreads hv) ⟨by decide, by decide⟩ rfl rfl rfl rfl (Nat.le_of_ble_eq_true rfl) ⟨Nat.zero_le _, Nat.zero_le _⟩ dX4_spreadYear_210) rfl (fun r210 u210 hv => ?_)
        refine g_iadd (pc' := 214) C dX4_spreadYear_213 rfl ?_
        refine g_istore (pc' := 216) (lv' := [(4, .int (x4 + r210)), (0, .ref (bd 0)), (1, .int x1), (2, .int x2), (5, .int x5)]) C dX4_spreadYear_214 rfl (by decide) rfl ?_
        refine g_iinc (pc' := 219) (v := (x5 + (1 : Int32))) (lv' := [(5, .int (x5 + (1 : Int32))), (4, .int (x4 + r210)), (0, .ref (bd 0)), (1, .int x1), (2, .int x2)]) C dX4_spreadYear_216 rfl rfl rfl (by decide) rfl ?_
        refine g_goto (tgt := 181) C dX4_spreadYear_219 (by decide) ?_
        refine g_sub (lv' := [(0, .ref (bd 0)), (1, .int x1), (2, .int x2), (4, .int (x4 + r210)), (5, .int (x5 + (1 : Int32)))]) [2, 3, 4, 1, 0] rfl ?_
        exact ih _ _ _ _ _ hv
def vX4_spreadYear_L117 (pl : Int32) (mpar : Ar) (mcel : Ar) (mhel : Ar) (mclo : Ar) (msea : Ar) (mwei : Ar) (msha : Ar) (x1 : Int32) (x2 : Int32) (Q : Int32 → (Int32 × Ar × Ar × Ar × Ar) → Prop) : Nat → Int32 → Int32 → Ar → Prop
  | 0, _, _, _ => False
  | n + 1, x4, thr, mmon => (((12 : Int32) ≤ x4 → (∃ n181 : Nat, vX4_spreadYear_L181 pl thr mpar mhel mclo msea mmon x1 x2 Q n181 (0 : Int32) (0 : Int32) mcel mwei msha)) ∧ (¬ (12 : Int32) ≤ x4 → (vp_in x4 12 ∧ (vp_in x4 12 ∧ (vp_in x4 12 ∧ (vX4_restOf pl mpar mcel mhel mclo x1 x2 x4 ((upd mmon x4.toNatClampNeg (msha x4.toNatClampNeg)) x4.toNatClampNeg) (fun r151 => ((¬ r151 = (-1 : Int32) → (vX4_spreadYear_L117 pl mpar mcel mhel mclo msea mwei msha x1 x2 Q n (x4 + (1 : Int32)) thr (upd mmon x4.toNatClampNeg (msha x4.toNatClampNeg)))) ∧ (r151 = (-1 : Int32) → (vX4_spreadYear_L117 pl mpar mcel mhel mclo msea mwei msha x1 x2 Q n (x4 + (1 : Int32)) (3 : Int32) (upd mmon x4.toNatClampNeg (msha x4.toNatClampNeg))))))))))))
set_option maxHeartbeats 4000000 in
set_option maxRecDepth 100000 in
theorem wvX4_spreadYear_L117 {l : Launch} {γ : Gm} {κ : Kx} {bd : Nat → Nat} {pl : Int32} {msn : Int32} {mpar : Ar} {mcel : Ar} {mhel : Ar} {mclo : Ar} {msea : Ar} {mwei : Ar} {msha : Ar} {x1 : Int32} {x2 : Int32} {Q : Int32 → (Int32 × Ar × Ar × Ar × Ar) → Prop} (C : Ok γ κ cX4_spreadYear 6 RX4 4 101) (RT : RtI l γ κ cX4_spreadYear .int 0 0 (fun (r : Int32) (u : Int32 × Ar × Ar × Ar × Ar) => Q r u) (fun u => wN γ bd pl msn u.1 mpar u.2.1 mhel mclo msea u.2.2.1 u.2.2.2.1 u.2.2.2.2))  : ∀ (n : Nat) (x4 : Int32) (thr : Int32) (mmon : Ar), vX4_spreadYear_L117 pl mpar mcel mhel mclo msea mwei msha x1 x2 Q n x4 thr mmon → G l γ κ (wN γ bd pl msn thr mpar mcel mhel mclo msea mwei msha mmon) [(0, .ref (bd 0)), (1, .int x1), (2, .int x2), (4, .int x4)] 0 0 [] 117 := by
  intro n
  induction n with
  | zero => intro x4 thr mmon hv; exact False.elim hv
  | succ n ih =>
    intro x4 thr mmon hv
    refine g_iload (pc' := 119) C dX4_spreadYear_117 rfl rfl ?_
    refine g_bipush (pc' := 121) (v := (12 : Int32)) C dX4_spreadYear_119 rfl (by decide) ?_
    obtain ⟨hv1, hv2⟩ := hv
    refine g_icmp_ge (pc' := 124) (tgt := 175) C dX4_spreadYear_121 rfl (by decide) (fun c => ?_) (fun c => ?_)
    · have hv := hv1 c
      refine g_iconst (pc' := 176) (v := (0 : Int32)) C dX4_spreadYear_175 rfl (by decide) ?_
      refine g_istore (pc' := 178) (lv' := [(4, .int (0 : Int32)), (0, .ref (bd 0)), (1, .int x1), (2, .int x2)]) C dX4_spreadYear_176 rfl (by decide) rfl ?_
      refine g_iconst (pc' := 179) (v := (0 : Int32)) C dX4_spreadYear_178 rfl (by decide) ?_
      refine g_istore (pc' := 181) (lv' := [(5, .int (0 : Int32)), (4, .int (0 : Int32)), (0, .ref (bd 0)), (1, .int x1), (2, .int x2)]) C dX4_spreadYear_179 rfl (by decide) rfl ?_
      refine g_sub (lv' := [(0, .ref (bd 0)), (1, .int x1), (2, .int x2), (4, .int (0 : Int32)), (5, .int (0 : Int32))]) [2, 3, 4, 1, 0] rfl ?_
      obtain ⟨n181, hv⟩ := hv
      exact wvX4_spreadYear_L181 C RT  n181 _ _ _ _ _ hv
    · have hv := hv2 c
      refine g_aload_n (pc' := 125) C dX4_spreadYear_124 rfl rfl rfl ?_
      refine gf_X4_35 (pc' := 128) C dX4_spreadYear_125 rfl 0 rfl rfl ?_
      refine g_iload (pc' := 130) C dX4_spreadYear_128 rfl rfl ?_
      refine g_aload_n (pc' := 131) C dX4_spreadYear_130 rfl rfl rfl ?_
      refine gf_X4_32 (pc' := 134) C dX4_spreadYear_131 rfl 0 rfl rfl ?_
      refine g_iload (pc' := 136) C dX4_spreadYear_134 rfl rfl ?_
      obtain ⟨hi, hv⟩ := hv
      refine g_iald (pc' := 137) C dX4_spreadYear_136 rfl 7 rfl hi ?_
      obtain ⟨hi, hv⟩ := hv
      refine g_iast (pc' := 138) (ws' := wN γ bd pl msn thr mpar mcel mhel mclo msea mwei msha (upd mmon x4.toNatClampNeg (msha x4.toNatClampNeg))) C dX4_spreadYear_137 rfl 8 rfl hi rfl ?_
      refine g_aload_n (pc' := 139) C dX4_spreadYear_138 rfl rfl rfl ?_
      refine g_aload_n (pc' := 140) C dX4_spreadYear_139 rfl rfl rfl ?_
      refine g_iload_n (pc' := 141) C dX4_spreadYear_140 rfl rfl rfl ?_
      refine g_iload_n (pc' := 142) C dX4_spreadYear_141 rfl rfl rfl ?_
      refine g_iload (pc' := 144) C dX4_spreadYear_142 rfl rfl ?_
      refine g_aload_n (pc' := 145) C dX4_spreadYear_144 rfl rfl rfl ?_
      refine gf_X4_35 (pc' := 148) C dX4_spreadYear_145 rfl 0 rfl rfl ?_
      refine g_iload (pc' := 150) C dX4_spreadYear_148 rfl rfl ?_
      obtain ⟨hi, hv⟩ := hv
      refine g_iald (pc' := 151) C dX4_spreadYear_150 rfl 8 rfl hi ?_
      refine csI (pc' := 154) C (run_VI (rest := [.ref (bd 0)]) C lk_X4_87 (mtX4_restOf hv) ⟨by decide, by decide⟩ rfl rfl rfl rfl (Nat.le_of_ble_eq_true rfl) ⟨Nat.zero_le _, Nat.zero_le _⟩ dX4_spreadYear_151) rfl (fun r151 u151 hv => ?_)
      refine g_iconst (pc' := 155) (v := (-1 : Int32)) C dX4_spreadYear_154 rfl (by decide) ?_
      obtain ⟨hv1, hv2⟩ := hv
      refine g_icmp_ne (pc' := 158) (tgt := 162) C dX4_spreadYear_155 rfl (by decide) (fun c => ?_) (fun c => ?_)
      · have hv := hv1 c
        refine g_aload_n (pc' := 163) C dX4_spreadYear_162 rfl rfl rfl ?_
        refine gf_X4_38 (pc' := 166) C dX4_spreadYear_163 rfl 0 rfl rfl ?_
        refine pf_X4_38 (pc' := 169) (ws' := wN γ bd pl msn thr mpar mcel mhel mclo msea mwei msha (upd mmon x4.toNatClampNeg (msha x4.toNatClampNeg))) C dX4_spreadYear_166 rfl 0 rfl rfl rfl (Nat.le_of_ble_eq_true rfl) rfl ?_
        refine g_iinc (pc' := 172) (v := (x4 + (1 : Int32))) (lv' := [(4, .int (x4 + (1 : Int32))), (0, .ref (bd 0)), (1, .int x1), (2, .int x2)]) C dX4_spreadYear_169 rfl rfl rfl (by decide) rfl ?_
        refine g_goto (tgt := 117) C dX4_spreadYear_172 (by decide) ?_
        refine g_sub (lv' := [(0, .ref (bd 0)), (1, .int x1), (2, .int x2), (4, .int (x4 + (1 : Int32)))]) [1, 2, 3, 0] rfl ?_
        exact ih _ _ _ hv
      · have hv := hv2 c
        refine g_iconst (pc' := 159) (v := (3 : Int32)) C dX4_spreadYear_158 rfl (by decide) ?_
        refine g_goto (tgt := 166) C dX4_spreadYear_159 (by decide) ?_
        refine pf_X4_38 (pc' := 169) (ws' := wN γ bd pl msn (3 : Int32) mpar mcel mhel mclo msea mwei msha (upd mmon x4.toNatClampNeg (msha x4.toNatClampNeg))) C dX4_spreadYear_166 rfl 0 rfl rfl rfl (Nat.le_of_ble_eq_true rfl) rfl ?_
        refine g_iinc (pc' := 172) (v := (x4 + (1 : Int32))) (lv' := [(4, .int (x4 + (1 : Int32))), (0, .ref (bd 0)), (1, .int x1), (2, .int x2)]) C dX4_spreadYear_169 rfl rfl rfl (by decide) rfl ?_
        refine g_goto (tgt := 117) C dX4_spreadYear_172 (by decide) ?_
        refine g_sub (lv' := [(0, .ref (bd 0)), (1, .int x1), (2, .int x2), (4, .int (x4 + (1 : Int32)))]) [1, 2, 3, 0] rfl ?_
        exact ih _ _ _ hv
def vX4_spreadYear_L41 (pl : Int32) (mpar : Ar) (mcel : Ar) (mhel : Ar) (mclo : Ar) (msea : Ar) (msha : Ar) (mmon : Ar) (x1 : Int32) (x2 : Int32) (x3 : Int32) (Q : Int32 → (Int32 × Ar × Ar × Ar × Ar) → Prop) : Nat → Int32 → Int32 → Ar → Prop
  | 0, _, _, _ => False
  | n + 1, x4, thr, mwei => (((12 : Int32) ≤ x4 → ((thr ≤ (0 : Int32) → (vX4_shares mwei msha x3 (12 : Int32) (fun u111 => (∃ n117 : Nat, vX4_spreadYear_L117 pl mpar mcel mhel mclo msea mwei u111 x1 x2 Q n117 (0 : Int32) thr mmon)))) ∧ (¬ thr ≤ (0 : Int32) → (Q (0 : Int32) (thr, mcel, mwei, msha, mmon))))) ∧ (¬ (12 : Int32) ≤ x4 → (vp_in x4 12 ∧ (vp_in x4 12 ∧ ((¬ thr = (3 : Int32) → (vX4_spreadYear_L41 pl mpar mcel mhel mclo msea msha mmon x1 x2 x3 Q n (x4 + (1 : Int32)) thr (upd mwei x4.toNatClampNeg (msea x4.toNatClampNeg)))) ∧ (thr = (3 : Int32) → (vp_in x4 12 ∧ (((msea x4.toNatClampNeg) ≤ (0 : Int32) → (vX4_spreadYear_L41 pl mpar mcel mhel mclo msea msha mmon x1 x2 x3 Q n (x4 + (1 : Int32)) thr (upd mwei x4.toNatClampNeg (msea x4.toNatClampNeg)))) ∧ (¬ (msea x4.toNatClampNeg) ≤ (0 : Int32) → (vX4_spreadYear_L41 pl mpar mcel mhel mclo msea msha mmon x1 x2 x3 Q n (x4 + (1 : Int32)) (0 : Int32) (upd mwei x4.toNatClampNeg (msea x4.toNatClampNeg))))))))))))
set_option maxHeartbeats 4000000 in
set_option maxRecDepth 100000 in
theorem wvX4_spreadYear_L41 {l : Launch} {γ : Gm} {κ : Kx} {bd : Nat → Nat} {pl : Int32} {msn : Int32} {mpar : Ar} {mcel : Ar} {mhel : Ar} {mclo : Ar} {msea : Ar} {msha : Ar} {mmon : Ar} {x1 : Int32} {x2 : Int32} {x3 : Int32} {Q : Int32 → (Int32 × Ar × Ar × Ar × Ar) → Prop} (C : Ok γ κ cX4_spreadYear 6 RX4 4 101) (RT : RtI l γ κ cX4_spreadYear .int 0 0 (fun (r : Int32) (u : Int32 × Ar × Ar × Ar × Ar) => Q r u) (fun u => wN γ bd pl msn u.1 mpar u.2.1 mhel mclo msea u.2.2.1 u.2.2.2.1 u.2.2.2.2))  : ∀ (n : Nat) (x4 : Int32) (thr : Int32) (mwei : Ar), vX4_spreadYear_L41 pl mpar mcel mhel mclo msea msha mmon x1 x2 x3 Q n x4 thr mwei → G l γ κ (wN γ bd pl msn thr mpar mcel mhel mclo msea mwei msha mmon) [(0, .ref (bd 0)), (1, .int x1), (2, .int x2), (3, .int x3), (4, .int x4)] 0 0 [] 41 := by
  intro n
  induction n with
  | zero => intro x4 thr mwei hv; exact False.elim hv
  | succ n ih =>
    intro x4 thr mwei hv
    refine g_iload (pc' := 43) C dX4_spreadYear_41 rfl rfl ?_
    refine g_bipush (pc' := 45) (v := (12 : Int32)) C dX4_spreadYear_43 rfl (by decide) ?_
    obtain ⟨hv1, hv2⟩ := hv
    refine g_icmp_ge (pc' := 48) (tgt := 98) C dX4_spreadYear_45 rfl (by decide) (fun c => ?_) (fun c => ?_)
    · have hv := hv1 c
      refine g_aload_n (pc' := 99) C dX4_spreadYear_98 rfl rfl rfl ?_
      refine gf_X4_38 (pc' := 102) C dX4_spreadYear_99 rfl 0 rfl rfl ?_
      obtain ⟨hv1, hv2⟩ := hv
      refine g_if_le (pc' := 105) (tgt := 107) C dX4_spreadYear_102 rfl (by decide) (fun c => ?_) (fun c => ?_)
      · have hv := hv1 c
        refine g_aload_n (pc' := 108) C dX4_spreadYear_107 rfl rfl rfl ?_
        refine g_iload_n (pc' := 109) C dX4_spreadYear_108 rfl rfl rfl ?_
        refine g_bipush (pc' := 111) (v := (12 : Int32)) C dX4_spreadYear_109 rfl (by decide) ?_
        refine csV (pc' := 114) C (run_VV (rest := []) C lk_X4_90 (mtX4_shares hv) ⟨by decide, by decide⟩ rfl rfl rfl rfl (Nat.le_of_ble_eq_true rfl) ⟨Nat.zero_le _, Nat.zero_le _⟩ dX4_spreadYear_111) rfl (fun u111 hv => ?_)
        refine g_iconst (pc' := 115) (v := (0 : Int32)) C dX4_spreadYear_114 rfl (by decide) ?_
        refine g_istore (pc' := 117) (lv' := [(4, .int (0 : Int32)), (0, .ref (bd 0)), (1, .int x1), (2, .int x2), (3, .int x3)]) C dX4_spreadYear_115 rfl (by decide) rfl ?_
        refine g_sub (lv' := [(0, .ref (bd 0)), (1, .int x1), (2, .int x2), (4, .int (0 : Int32))]) [1, 2, 3, 0] rfl ?_
        obtain ⟨n117, hv⟩ := hv
        exact wvX4_spreadYear_L117 C RT  n117 _ _ _ hv
      · have hv := hv2 c
        refine g_iconst (pc' := 106) (v := (0 : Int32)) C dX4_spreadYear_105 rfl (by decide) ?_
        exact RT (0 : Int32) (thr, mcel, mwei, msha, mmon) _ _ _ _ dX4_spreadYear_106 rfl (by decide) (by decide) hv
    · have hv := hv2 c
      refine g_aload_n (pc' := 49) C dX4_spreadYear_48 rfl rfl rfl ?_
      refine gf_X4_29 (pc' := 52) C dX4_spreadYear_49 rfl 0 rfl rfl ?_
      refine g_iload (pc' := 54) C dX4_spreadYear_52 rfl rfl ?_
      refine g_aload_n (pc' := 55) C dX4_spreadYear_54 rfl rfl rfl ?_
      refine gf_X4_26 (pc' := 58) C dX4_spreadYear_55 rfl 0 rfl rfl ?_
      refine g_iload (pc' := 60) C dX4_spreadYear_58 rfl rfl ?_
      obtain ⟨hi, hv⟩ := hv
      refine g_iald (pc' := 61) C dX4_spreadYear_60 rfl 5 rfl hi ?_
      obtain ⟨hi, hv⟩ := hv
      refine g_iast (pc' := 62) (ws' := wN γ bd pl msn thr mpar mcel mhel mclo msea (upd mwei x4.toNatClampNeg (msea x4.toNatClampNeg)) msha mmon) C dX4_spreadYear_61 rfl 6 rfl hi rfl ?_
      refine g_aload_n (pc' := 63) C dX4_spreadYear_62 rfl rfl rfl ?_
      refine g_aload_n (pc' := 64) C dX4_spreadYear_63 rfl rfl rfl ?_
      refine gf_X4_38 (pc' := 67) C dX4_spreadYear_64 rfl 0 rfl rfl ?_
      refine g_iconst (pc' := 68) (v := (3 : Int32)) C dX4_spreadYear_67 rfl (by decide) ?_
      obtain ⟨hv1, hv2⟩ := hv
      refine g_icmp_ne (pc' := 71) (tgt := 85) C dX4_spreadYear_68 rfl (by decide) (fun c => ?_) (fun c => ?_)
      · have hv := hv1 c
        refine g_aload_n (pc' := 86) C dX4_spreadYear_85 rfl rfl rfl ?_
        refine gf_X4_38 (pc' := 89) C dX4_spreadYear_86 rfl 0 rfl rfl ?_
        refine pf_X4_38 (pc' := 92) (ws' := wN γ bd pl msn thr mpar mcel mhel mclo msea (upd mwei x4.toNatClampNeg (msea x4.toNatClampNeg)) msha mmon) C dX4_spreadYear_89 rfl 0 rfl rfl rfl (Nat.le_of_ble_eq_true rfl) rfl ?_
        refine g_iinc (pc' := 95) (v := (x4 + (1 : Int32))) (lv' := [(4, .int (x4 + (1 : Int32))), (0, .ref (bd 0)), (1, .int x1), (2, .int x2), (3, .int x3)]) C dX4_spreadYear_92 rfl rfl rfl (by decide) rfl ?_
        refine g_goto (tgt := 41) C dX4_spreadYear_95 (by decide) ?_
        refine g_sub (lv' := [(0, .ref (bd 0)), (1, .int x1), (2, .int x2), (3, .int x3), (4, .int (x4 + (1 : Int32)))]) [1, 2, 3, 4, 0] rfl ?_
        exact ih _ _ _ hv
      · have hv := hv2 c
        refine g_aload_n (pc' := 72) C dX4_spreadYear_71 rfl rfl rfl ?_
        refine gf_X4_26 (pc' := 75) C dX4_spreadYear_72 rfl 0 rfl rfl ?_
        refine g_iload (pc' := 77) C dX4_spreadYear_75 rfl rfl ?_
        obtain ⟨hi, hv⟩ := hv
        refine g_iald (pc' := 78) C dX4_spreadYear_77 rfl 5 rfl hi ?_
        obtain ⟨hv1, hv2⟩ := hv
        refine g_if_le (pc' := 81) (tgt := 85) C dX4_spreadYear_78 rfl (by decide) (fun c => ?_) (fun c => ?_)
        · have hv := hv1 c
          refine g_aload_n (pc' := 86) C dX4_spreadYear_85 rfl rfl rfl ?_
          refine gf_X4_38 (pc' := 89) C dX4_spreadYear_86 rfl 0 rfl rfl ?_
          refine pf_X4_38 (pc' := 92) (ws' := wN γ bd pl msn thr mpar mcel mhel mclo msea (upd mwei x4.toNatClampNeg (msea x4.toNatClampNeg)) msha mmon) C dX4_spreadYear_89 rfl 0 rfl rfl rfl (Nat.le_of_ble_eq_true rfl) rfl ?_
          refine g_iinc (pc' := 95) (v := (x4 + (1 : Int32))) (lv' := [(4, .int (x4 + (1 : Int32))), (0, .ref (bd 0)), (1, .int x1), (2, .int x2), (3, .int x3)]) C dX4_spreadYear_92 rfl rfl rfl (by decide) rfl ?_
          refine g_goto (tgt := 41) C dX4_spreadYear_95 (by decide) ?_
          refine g_sub (lv' := [(0, .ref (bd 0)), (1, .int x1), (2, .int x2), (3, .int x3), (4, .int (x4 + (1 : Int32)))]) [1, 2, 3, 4, 0] rfl ?_
          exact ih _ _ _ hv
        · have hv := hv2 c
          refine g_iconst (pc' := 82) (v := (0 : Int32)) C dX4_spreadYear_81 rfl (by decide) ?_
          refine g_goto (tgt := 89) C dX4_spreadYear_82 (by decide) ?_
          refine pf_X4_38 (pc' := 92) (ws' := wN γ bd pl msn (0 : Int32) mpar mcel mhel mclo msea (upd mwei x4.toNatClampNeg (msea x4.toNatClampNeg)) msha mmon) C dX4_spreadYear_89 rfl 0 rfl rfl rfl (Nat.le_of_ble_eq_true rfl) rfl ?_
          refine g_iinc (pc' := 95) (v := (x4 + (1 : Int32))) (lv' := [(4, .int (x4 + (1 : Int32))), (0, .ref (bd 0)), (1, .int x1), (2, .int x2), (3, .int x3)]) C dX4_spreadYear_92 rfl rfl rfl (by decide) rfl ?_
          refine g_goto (tgt := 41) C dX4_spreadYear_95 (by decide) ?_
          refine g_sub (lv' := [(0, .ref (bd 0)), (1, .int x1), (2, .int x2), (3, .int x3), (4, .int (x4 + (1 : Int32)))]) [1, 2, 3, 4, 0] rfl ?_
          exact ih _ _ _ hv
def vX4_spreadYear (pl : Int32) (thr : Int32) (mpar : Ar) (mcel : Ar) (mhel : Ar) (mclo : Ar) (msea : Ar) (mwei : Ar) (msha : Ar) (mmon : Ar) (x1 : Int32) (x2 : Int32) (x3 : Int32) (Q : Int32 → (Int32 × Ar × Ar × Ar × Ar) → Prop) : Prop := (vX4_isVersion x1 (fun r2 => ((r2 = (0 : Int32) → (∃ n41 : Nat, vX4_spreadYear_L41 pl mpar mcel mhel mclo msea msha mmon x1 x2 x3 Q n41 (0 : Int32) (1 : Int32) mwei)) ∧ (¬ r2 = (0 : Int32) → (vX4_isPlace pl x2 (fun r10 => ((¬ r10 = (0 : Int32) → (vX4_in x3 (0 : Int32) (1000000 : Int32) (fun r24 => ((¬ r24 = (0 : Int32) → (∃ n41 : Nat, vX4_spreadYear_L41 pl mpar mcel mhel mclo msea msha mmon x1 x2 x3 Q n41 (0 : Int32) (3 : Int32) mwei)) ∧ (r24 = (0 : Int32) → (∃ n41 : Nat, vX4_spreadYear_L41 pl mpar mcel mhel mclo msea msha mmon x1 x2 x3 Q n41 (0 : Int32) (2 : Int32) mwei)))))) ∧ (r10 = (0 : Int32) → (∃ n41 : Nat, vX4_spreadYear_L41 pl mpar mcel mhel mclo msea msha mmon x1 x2 x3 Q n41 (0 : Int32) (1 : Int32) mwei)))))))))
set_option maxHeartbeats 4000000 in
set_option maxRecDepth 100000 in
theorem mtX4_spreadYear {l : Launch} {γ : Gm} {bd : Nat → Nat} {pl : Int32} {msn : Int32} {thr : Int32} {mpar : Ar} {mcel : Ar} {mhel : Ar} {mclo : Ar} {msea : Ar} {mwei : Ar} {msha : Ar} {mmon : Ar} {x1 : Int32} {x2 : Int32} {x3 : Int32} {Q : Int32 → (Int32 × Ar × Ar × Ar × Ar) → Prop} (hv : vX4_spreadYear pl thr mpar mcel mhel mclo msea mwei msha mmon x1 x2 x3 Q) : CtI l γ yX4_spreadYear cX4_spreadYear 6 .int 4 101 0 0 [.ref (bd 0), .int x1, .int x2, .int x3] (wN γ bd pl msn thr mpar mcel mhel mclo msea mwei msha mmon) (fun (r : Int32) (u : Int32 × Ar × Ar × Ar × Ar) => Q r u) (fun u => wN γ bd pl msn u.1 mpar u.2.1 mhel mclo msea u.2.2.1 u.2.2.2.1 u.2.2.2.2) := startI (by decide +kernel) (Nat.le_of_ble_eq_true rfl) (fun κ C RT hR hnm => by
  show G l γ κ (wN γ bd pl msn thr mpar mcel mhel mclo msea mwei msha mmon) [(0, .ref (bd 0)), (1, .int x1), (2, .int x2), (3, .int x3)] 0 0 [] 0
  refine g_aload_n (pc' := 1) C dX4_spreadYear_0 rfl rfl rfl ?_
  refine g_iload_n (pc' := 2) C dX4_spreadYear_1 rfl rfl rfl ?_
  refine cnI (pc' := 5) C (run_SI (rest := [.ref (bd 0)]) C lk_X4_67 (mtX4_isVersion hv) ⟨by decide, by decide⟩ rfl rfl (Nat.le_of_ble_eq_true rfl) ⟨Nat.zero_le _, Nat.zero_le _⟩ dX4_spreadYear_2) rfl (fun r2 u2 hv => ?_)
  obtain ⟨hv1, hv2⟩ := hv
  refine g_if_eq (pc' := 8) (tgt := 16) C dX4_spreadYear_5 rfl (by decide) (fun c => ?_) (fun c => ?_)
  · have hv := hv1 c
    refine g_iconst (pc' := 17) (v := (1 : Int32)) C dX4_spreadYear_16 rfl (by decide) ?_
    refine g_goto (tgt := 35) C dX4_spreadYear_17 (by decide) ?_
    refine pf_X4_38 (pc' := 38) (ws' := wN γ bd pl msn (1 : Int32) mpar mcel mhel mclo msea mwei msha mmon) C dX4_spreadYear_35 rfl 0 rfl rfl rfl (Nat.le_of_ble_eq_true rfl) rfl ?_
    refine g_iconst (pc' := 39) (v := (0 : Int32)) C dX4_spreadYear_38 rfl (by decide) ?_
    refine g_istore (pc' := 41) (lv' := [(4, .int (0 : Int32)), (0, .ref (bd 0)), (1, .int x1), (2, .int x2), (3, .int x3)]) C dX4_spreadYear_39 rfl (by decide) rfl ?_
    refine g_sub (lv' := [(0, .ref (bd 0)), (1, .int x1), (2, .int x2), (3, .int x3), (4, .int (0 : Int32))]) [1, 2, 3, 4, 0] rfl ?_
    obtain ⟨n41, hv⟩ := hv
    exact wvX4_spreadYear_L41 C RT  n41 _ _ _ hv
  · have hv := hv2 c
    refine g_aload_n (pc' := 9) C dX4_spreadYear_8 rfl rfl rfl ?_
    refine g_iload_n (pc' := 10) C dX4_spreadYear_9 rfl rfl rfl ?_
    refine csI (pc' := 13) C (run_VI (rest := [.ref (bd 0)]) C lk_X4_57 (mtX4_isPlace hv) ⟨by decide, by decide⟩ rfl rfl rfl rfl (Nat.le_of_ble_eq_true rfl) ⟨Nat.zero_le _, Nat.zero_le _⟩ dX4_spreadYear_10) rfl (fun r10 u10 hv => ?_)
    obtain ⟨hv1, hv2⟩ := hv
    refine g_if_ne (pc' := 16) (tgt := 20) C dX4_spreadYear_13 rfl (by decide) (fun c => ?_) (fun c => ?_)
    · have hv := hv1 c
      refine g_iload_n (pc' := 21) C dX4_spreadYear_20 rfl rfl rfl ?_
      refine g_iconst (pc' := 22) (v := (0 : Int32)) C dX4_spreadYear_21 rfl (by decide) ?_
      refine g_ldc (pc' := 24) C k_X4_66 dX4_spreadYear_22 rfl ?_
      refine cnI (pc' := 27) C (run_SI (rest := [.ref (bd 0)]) C lk_X4_41 (mtX4_in hv) ⟨by decide, by decide⟩ rfl rfl (Nat.le_of_ble_eq_true rfl) ⟨Nat.zero_le _, Nat.zero_le _⟩ dX4_spreadYear_24) rfl (fun r24 u24 hv => ?_)
      obtain ⟨hv1, hv2⟩ := hv
      refine g_if_ne (pc' := 30) (tgt := 34) C dX4_spreadYear_27 rfl (by decide) (fun c => ?_) (fun c => ?_)
      · have hv := hv1 c
        refine g_iconst (pc' := 35) (v := (3 : Int32)) C dX4_spreadYear_34 rfl (by decide) ?_
        refine pf_X4_38 (pc' := 38) (ws' := wN γ bd pl msn (3 : Int32) mpar mcel mhel mclo msea mwei msha mmon) C dX4_spreadYear_35 rfl 0 rfl rfl rfl (Nat.le_of_ble_eq_true rfl) rfl ?_
        refine g_iconst (pc' := 39) (v := (0 : Int32)) C dX4_spreadYear_38 rfl (by decide) ?_
        refine g_istore (pc' := 41) (lv' := [(4, .int (0 : Int32)), (0, .ref (bd 0)), (1, .int x1), (2, .int x2), (3, .int x3)]) C dX4_spreadYear_39 rfl (by decide) rfl ?_
        refine g_sub (lv' := [(0, .ref (bd 0)), (1, .int x1), (2, .int x2), (3, .int x3), (4, .int (0 : Int32))]) [1, 2, 3, 4, 0] rfl ?_
        obtain ⟨n41, hv⟩ := hv
        exact wvX4_spreadYear_L41 C RT  n41 _ _ _ hv
      · have hv := hv2 c
        refine g_iconst (pc' := 31) (v := (2 : Int32)) C dX4_spreadYear_30 rfl (by decide) ?_
        refine g_goto (tgt := 35) C dX4_spreadYear_31 (by decide) ?_
        refine pf_X4_38 (pc' := 38) (ws' := wN γ bd pl msn (2 : Int32) mpar mcel mhel mclo msea mwei msha mmon) C dX4_spreadYear_35 rfl 0 rfl rfl rfl (Nat.le_of_ble_eq_true rfl) rfl ?_
        refine g_iconst (pc' := 39) (v := (0 : Int32)) C dX4_spreadYear_38 rfl (by decide) ?_
        refine g_istore (pc' := 41) (lv' := [(4, .int (0 : Int32)), (0, .ref (bd 0)), (1, .int x1), (2, .int x2), (3, .int x3)]) C dX4_spreadYear_39 rfl (by decide) rfl ?_
        refine g_sub (lv' := [(0, .ref (bd 0)), (1, .int x1), (2, .int x2), (3, .int x3), (4, .int (0 : Int32))]) [1, 2, 3, 4, 0] rfl ?_
        obtain ⟨n41, hv⟩ := hv
        exact wvX4_spreadYear_L41 C RT  n41 _ _ _ hv
    · have hv := hv2 c
      refine g_iconst (pc' := 17) (v := (1 : Int32)) C dX4_spreadYear_16 rfl (by decide) ?_
      refine g_goto (tgt := 35) C dX4_spreadYear_17 (by decide) ?_
      refine pf_X4_38 (pc' := 38) (ws' := wN γ bd pl msn (1 : Int32) mpar mcel mhel mclo msea mwei msha mmon) C dX4_spreadYear_35 rfl 0 rfl rfl rfl (Nat.le_of_ble_eq_true rfl) rfl ?_
      refine g_iconst (pc' := 39) (v := (0 : Int32)) C dX4_spreadYear_38 rfl (by decide) ?_
      refine g_istore (pc' := 41) (lv' := [(4, .int (0 : Int32)), (0, .ref (bd 0)), (1, .int x1), (2, .int x2), (3, .int x3)]) C dX4_spreadYear_39 rfl (by decide) rfl ?_
      refine g_sub (lv' := [(0, .ref (bd 0)), (1, .int x1), (2, .int x2), (3, .int x3), (4, .int (0 : Int32))]) [1, 2, 3, 4, 0] rfl ?_
      obtain ⟨n41, hv⟩ := hv
      exact wvX4_spreadYear_L41 C RT  n41 _ _ _ hv)
def vX4_copy_L95 (pl : Int32) (thr : Int32) (mpar : Ar) (mclo : Ar) (x1 : Int32) (x2 : Int32) (Q : Int32 → (Int32 × Ar) → Prop) : Nat → Int32 → Int32 → Ar → Prop
  | 0, _, _, _ => False
  | n + 1, x3, x4, mcel => (((360 : Int32) ≤ x4 → (Q x3 (thr, mcel))) ∧ (¬ (360 : Int32) ≤ x4 → ((¬ thr = (0 : Int32) → (Q x3 (thr, mcel))) ∧ (thr = (0 : Int32) → (vp_in (((360 : Int32) * x1) + x4) 1440 ∧ (vX4_puts mcel (((360 : Int32) * x2) + x4) (mcel (((360 : Int32) * x1) + x4).toNatClampNeg) (fun r133 u133 => (vp_in (((360 : Int32) * x1) + x4) 1440 ∧ ((r133 = (u133 (((360 : Int32) * x1) + x4).toNatClampNeg) → (vX4_copy_L95 pl thr mpar mclo x1 x2 Q n (x3 + (0 : Int32)) (x4 + (1 : Int32)) u133)) ∧ (¬ r133 = (u133 (((360 : Int32) * x1) + x4).toNatClampNeg) → (vX4_copy_L95 pl thr mpar mclo x1 x2 Q n (x3 + (1 : Int32)) (x4 + (1 : Int32)) u133)))))))))))
set_option maxHeartbeats 4000000 in
set_option maxRecDepth 100000 in
theorem wvX4_copy_L95 {l : Launch} {γ : Gm} {κ : Kx} {bd : Nat → Nat} {pl : Int32} {msn : Int32} {thr : Int32} {mpar : Ar} {mhel : Ar} {mclo : Ar} {msea : Ar} {mwei : Ar} {msha : Ar} {mmon : Ar} {x1 : Int32} {x2 : Int32} {Q : Int32 → (Int32 × Ar) → Prop} (C : Ok γ κ cX4_copy 5 RX4 2 42) (RT : RtI l γ κ cX4_copy .int 0 0 (fun (r : Int32) (u : Int32 × Ar) => Q r u) (fun u => wN γ bd pl msn u.1 mpar u.2 mhel mclo msea mwei msha mmon))  : ∀ (n : Nat) (x3 : Int32) (x4 : Int32) (mcel : Ar), vX4_copy_L95 pl thr mpar mclo x1 x2 Q n x3 x4 mcel → G l γ κ (wN γ bd pl msn thr mpar mcel mhel mclo msea mwei msha mmon) [(0, .ref (bd 0)), (1, .int x1), (2, .int x2), (3, .int x3), (4, .int x4)] 0 0 [] 95 := by
  intro n
  induction n with
  | zero => intro x3 x4 mcel hv; exact False.elim hv
  | succ n ih =>
    intro x3 x4 mcel hv
    refine g_iload (pc' := 97) C dX4_copy_95 rfl rfl ?_
    refine g_sipush (pc' := 100) (v := (360 : Int32)) C dX4_copy_97 rfl (by decide) ?_
    obtain ⟨hv1, hv2⟩ := hv
    refine g_icmp_ge (pc' := 103) (tgt := 165) C dX4_copy_100 rfl (by decide) (fun c => ?_) (fun c => ?_)
    · have hv := hv1 c
      refine g_iload_n (pc' := 166) C dX4_copy_165 rfl rfl rfl ?_
      exact RT x3 (thr, mcel) _ _ _ _ dX4_copy_166 rfl (by decide) (by decide) hv
    · have hv := hv2 c
      refine g_aload_n (pc' := 104) C dX4_copy_103 rfl rfl rfl ?_
      refine gf_X4_38 (pc' := 107) C dX4_copy_104 rfl 0 rfl rfl ?_
      obtain ⟨hv1, hv2⟩ := hv
      refine g_if_ne (pc' := 110) (tgt := 165) C dX4_copy_107 rfl (by decide) (fun c => ?_) (fun c => ?_)
      · have hv := hv1 c
        refine g_iload_n (pc' := 166) C dX4_copy_165 rfl rfl rfl ?_
        exact RT x3 (thr, mcel) _ _ _ _ dX4_copy_166 rfl (by decide) (by decide) hv
      · have hv := hv2 c
        refine g_iload_n (pc' := 111) C dX4_copy_110 rfl rfl rfl ?_
        refine g_aload_n (pc' := 112) C dX4_copy_111 rfl rfl rfl ?_
        refine g_sipush (pc' := 115) (v := (360 : Int32)) C dX4_copy_112 rfl (by decide) ?_
        refine g_iload_n (pc' := 116) C dX4_copy_115 rfl rfl rfl ?_
        refine g_imul (pc' := 117) C dX4_copy_116 rfl ?_
        refine g_iload (pc' := 119) C dX4_copy_117 rfl rfl ?_
        refine g_iadd (pc' := 120) C dX4_copy_119 rfl ?_
        refine g_aload_n (pc' := 121) C dX4_copy_120 rfl rfl rfl ?_
        refine gf_X4_17 (pc' := 124) C dX4_copy_121 rfl 0 rfl rfl ?_
        refine g_sipush (pc' := 127) (v := (360 : Int32)) C dX4_copy_124 rfl (by decide) ?_
        refine g_iload_n (pc' := 128) C dX4_copy_127 rfl rfl rfl ?_
        refine g_imul (pc' := 129) C dX4_copy_128 rfl ?_
        refine g_iload (pc' := 131) C dX4_copy_129 rfl rfl ?_
        refine g_iadd (pc' := 132) C dX4_copy_131 rfl ?_
        obtain ⟨hi, hv⟩ := hv
        refine g_iald (pc' := 133) C dX4_copy_132 rfl 2 rfl hi ?_
        refine csI (pc' := 136) C (run_VI (rest := [.int x3]) C lk_X4_80 (mtX4_puts hv) ⟨by decide, by decide⟩ rfl rfl rfl rfl (Nat.le_of_ble_eq_true rfl) ⟨Nat.zero_le _, Nat.zero_le _⟩ dX4_copy_133) rfl (fun r133 u133 hv => ?_)
        refine g_aload_n (pc' := 137) C dX4_copy_136 rfl rfl rfl ?_
        refine gf_X4_17 (pc' := 140) C dX4_copy_137 rfl 0 rfl rfl ?_
        refine g_sipush (pc' := 143) (v := (360 : Int32)) C dX4_copy_140 rfl (by decide) ?_
        refine g_iload_n (pc' := 144) C dX4_copy_143 rfl rfl rfl ?_
        refine g_imul (pc' := 145) C dX4_copy_144 rfl ?_
        refine g_iload (pc' := 147) C dX4_copy_145 rfl rfl ?_
        refine g_iadd (pc' := 148) C dX4_copy_147 rfl ?_
        obtain ⟨hi, hv⟩ := hv
        refine g_iald (pc' := 149) C dX4_copy_148 rfl 2 rfl hi ?_
        obtain ⟨hv1, hv2⟩ := hv
        refine g_icmp_eq (pc' := 152) (tgt := 156) C dX4_copy_149 rfl (by decide) (fun c => ?_) (fun c => ?_)
        · have hv := hv1 c
          refine g_iconst (pc' := 157) (v := (0 : Int32)) C dX4_copy_156 rfl (by decide) ?_
          refine g_iadd (pc' := 158) C dX4_copy_157 rfl ?_
          refine g_istore_n (pc' := 159) (lv' := [(3, .int (x3 + (0 : Int32))), (0, .ref (bd 0)), (1, .int x1), (2, .int x2), (4, .int x4)]) C dX4_copy_158 rfl rfl (by decide) rfl ?_
          refine g_iinc (pc' := 162) (v := (x4 + (1 : Int32))) (lv' := [(4, .int (x4 + (1 : Int32))), (3, .int (x3 + (0 : Int32))), (0, .ref (bd 0)), (1, .int x1), (2, .int x2)]) C dX4_copy_159 rfl rfl rfl (by decide) rfl ?_
          refine g_goto (tgt := 95) C dX4_copy_162 (by decide) ?_
          refine g_sub (lv' := [(0, .ref (bd 0)), (1, .int x1), (2, .int x2), (3, .int (x3 + (0 : Int32))), (4, .int (x4 + (1 : Int32)))]) [2, 3, 4, 1, 0] rfl ?_
          exact ih _ _ _ hv
        · have hv := hv2 c
          refine g_iconst (pc' := 153) (v := (1 : Int32)) C dX4_copy_152 rfl (by decide) ?_
          refine g_goto (tgt := 157) C dX4_copy_153 (by decide) ?_
          refine g_iadd (pc' := 158) C dX4_copy_157 rfl ?_
          refine g_istore_n (pc' := 159) (lv' := [(3, .int (x3 + (1 : Int32))), (0, .ref (bd 0)), (1, .int x1), (2, .int x2), (4, .int x4)]) C dX4_copy_158 rfl rfl (by decide) rfl ?_
          refine g_iinc (pc' := 162) (v := (x4 + (1 : Int32))) (lv' := [(4, .int (x4 + (1 : Int32))), (3, .int (x3 + (1 : Int32))), (0, .ref (bd 0)), (1, .int x1), (2, .int x2)]) C dX4_copy_159 rfl rfl rfl (by decide) rfl ?_
          refine g_goto (tgt := 95) C dX4_copy_162 (by decide) ?_
          refine g_sub (lv' := [(0, .ref (bd 0)), (1, .int x1), (2, .int x2), (3, .int (x3 + (1 : Int32))), (4, .int (x4 + (1 : Int32)))]) [2, 3, 4, 1, 0] rfl ?_
          exact ih _ _ _ hv
def vX4_copy_L34 (pl : Int32) (mpar : Ar) (mcel : Ar) (mclo : Ar) (x1 : Int32) (x2 : Int32) (Q : Int32 → (Int32 × Ar) → Prop) : Nat → Int32 → Int32 → Prop
  | 0, _, _ => False
  | n + 1, x3, thr => ((pl ≤ x3 → (∃ n95 : Nat, vX4_copy_L95 pl thr mpar mclo x1 x2 Q n95 (0 : Int32) (0 : Int32) mcel)) ∧ (¬ pl ≤ x3 → ((¬ thr = (0 : Int32) → (vX4_copy_L34 pl mpar mcel mclo x1 x2 Q n (x3 + (1 : Int32)) thr)) ∧ (thr = (0 : Int32) → (vX4_isLeaf pl mpar x3 (fun r52 => ((r52 = (0 : Int32) → (vX4_copy_L34 pl mpar mcel mclo x1 x2 Q n (x3 + (1 : Int32)) thr)) ∧ (¬ r52 = (0 : Int32) → (vp_in (((10 : Int32) * x2) + x3) 30 ∧ ((¬ (mclo (((10 : Int32) * x2) + x3).toNatClampNeg) = (1 : Int32) → (vX4_copy_L34 pl mpar mcel mclo x1 x2 Q n (x3 + (1 : Int32)) thr)) ∧ ((mclo (((10 : Int32) * x2) + x3).toNatClampNeg) = (1 : Int32) → (vX4_copy_L34 pl mpar mcel mclo x1 x2 Q n (x3 + (1 : Int32)) (3 : Int32)))))))))))))
set_option maxHeartbeats 4000000 in
set_option maxRecDepth 100000 in
theorem wvX4_copy_L34 {l : Launch} {γ : Gm} {κ : Kx} {bd : Nat → Nat} {pl : Int32} {msn : Int32} {mpar : Ar} {mcel : Ar} {mhel : Ar} {mclo : Ar} {msea : Ar} {mwei : Ar} {msha : Ar} {mmon : Ar} {x1 : Int32} {x2 : Int32} {Q : Int32 → (Int32 × Ar) → Prop} (C : Ok γ κ cX4_copy 5 RX4 2 42) (RT : RtI l γ κ cX4_copy .int 0 0 (fun (r : Int32) (u : Int32 × Ar) => Q r u) (fun u => wN γ bd pl msn u.1 mpar u.2 mhel mclo msea mwei msha mmon))  : ∀ (n : Nat) (x3 : Int32) (thr : Int32), vX4_copy_L34 pl mpar mcel mclo x1 x2 Q n x3 thr → G l γ κ (wN γ bd pl msn thr mpar mcel mhel mclo msea mwei msha mmon) [(0, .ref (bd 0)), (1, .int x1), (2, .int x2), (3, .int x3)] 0 0 [] 34 := by
  intro n
  induction n with
  | zero => intro x3 thr hv; exact False.elim hv
  | succ n ih =>
    intro x3 thr hv
    refine g_iload_n (pc' := 35) C dX4_copy_34 rfl rfl rfl ?_
    refine g_aload_n (pc' := 36) C dX4_copy_35 rfl rfl rfl ?_
    refine gf_X4_7 (pc' := 39) C dX4_copy_36 rfl 0 rfl rfl ?_
    obtain ⟨hv1, hv2⟩ := hv
    refine g_icmp_ge (pc' := 42) (tgt := 90) C dX4_copy_39 rfl (by decide) (fun c => ?_) (fun c => ?_)
    · have hv := hv1 c
      refine g_iconst (pc' := 91) (v := (0 : Int32)) C dX4_copy_90 rfl (by decide) ?_
      refine g_istore_n (pc' := 92) (lv' := [(3, .int (0 : Int32)), (0, .ref (bd 0)), (1, .int x1), (2, .int x2)]) C dX4_copy_91 rfl rfl (by decide) rfl ?_
      refine g_iconst (pc' := 93) (v := (0 : Int32)) C dX4_copy_92 rfl (by decide) ?_
      refine g_istore (pc' := 95) (lv' := [(4, .int (0 : Int32)), (3, .int (0 : Int32)), (0, .ref (bd 0)), (1, .int x1), (2, .int x2)]) C dX4_copy_93 rfl (by decide) rfl ?_
      refine g_sub (lv' := [(0, .ref (bd 0)), (1, .int x1), (2, .int x2), (3, .int (0 : Int32)), (4, .int (0 : Int32))]) [2, 3, 4, 1, 0] rfl ?_
      obtain ⟨n95, hv⟩ := hv
      exact wvX4_copy_L95 C RT  n95 _ _ _ hv
    · have hv := hv2 c
      refine g_aload_n (pc' := 43) C dX4_copy_42 rfl rfl rfl ?_
      refine g_aload_n (pc' := 44) C dX4_copy_43 rfl rfl rfl ?_
      refine gf_X4_38 (pc' := 47) C dX4_copy_44 rfl 0 rfl rfl ?_
      obtain ⟨hv1, hv2⟩ := hv
      refine g_if_ne (pc' := 50) (tgt := 77) C dX4_copy_47 rfl (by decide) (fun c => ?_) (fun c => ?_)
      · have hv := hv1 c
        refine g_aload_n (pc' := 78) C dX4_copy_77 rfl rfl rfl ?_
        refine gf_X4_38 (pc' := 81) C dX4_copy_78 rfl 0 rfl rfl ?_
        refine pf_X4_38 (pc' := 84) (ws' := wN γ bd pl msn thr mpar mcel mhel mclo msea mwei msha mmon) C dX4_copy_81 rfl 0 rfl rfl rfl (Nat.le_of_ble_eq_true rfl) rfl ?_
        refine g_iinc (pc' := 87) (v := (x3 + (1 : Int32))) (lv' := [(3, .int (x3 + (1 : Int32))), (0, .ref (bd 0)), (1, .int x1), (2, .int x2)]) C dX4_copy_84 rfl rfl rfl (by decide) rfl ?_
        refine g_goto (tgt := 34) C dX4_copy_87 (by decide) ?_
        refine g_sub (lv' := [(0, .ref (bd 0)), (1, .int x1), (2, .int x2), (3, .int (x3 + (1 : Int32)))]) [1, 2, 3, 0] rfl ?_
        exact ih _ _ hv
      · have hv := hv2 c
        refine g_aload_n (pc' := 51) C dX4_copy_50 rfl rfl rfl ?_
        refine g_iload_n (pc' := 52) C dX4_copy_51 rfl rfl rfl ?_
        refine csI (pc' := 55) C (run_VI (rest := [.ref (bd 0)]) C lk_X4_45 (mtX4_isLeaf hv) ⟨by decide, by decide⟩ rfl rfl rfl rfl (Nat.le_of_ble_eq_true rfl) ⟨Nat.zero_le _, Nat.zero_le _⟩ dX4_copy_52) rfl (fun r52 u52 hv => ?_)
        obtain ⟨hv1, hv2⟩ := hv
        refine g_if_eq (pc' := 58) (tgt := 77) C dX4_copy_55 rfl (by decide) (fun c => ?_) (fun c => ?_)
        · have hv := hv1 c
          refine g_aload_n (pc' := 78) C dX4_copy_77 rfl rfl rfl ?_
          refine gf_X4_38 (pc' := 81) C dX4_copy_78 rfl 0 rfl rfl ?_
          refine pf_X4_38 (pc' := 84) (ws' := wN γ bd pl msn thr mpar mcel mhel mclo msea mwei msha mmon) C dX4_copy_81 rfl 0 rfl rfl rfl (Nat.le_of_ble_eq_true rfl) rfl ?_
          refine g_iinc (pc' := 87) (v := (x3 + (1 : Int32))) (lv' := [(3, .int (x3 + (1 : Int32))), (0, .ref (bd 0)), (1, .int x1), (2, .int x2)]) C dX4_copy_84 rfl rfl rfl (by decide) rfl ?_
          refine g_goto (tgt := 34) C dX4_copy_87 (by decide) ?_
          refine g_sub (lv' := [(0, .ref (bd 0)), (1, .int x1), (2, .int x2), (3, .int (x3 + (1 : Int32)))]) [1, 2, 3, 0] rfl ?_
          exact ih _ _ hv
        · have hv := hv2 c
          refine g_aload_n (pc' := 59) C dX4_copy_58 rfl rfl rfl ?_
          refine gf_X4_23 (pc' := 62) C dX4_copy_59 rfl 0 rfl rfl ?_
          refine g_bipush (pc' := 64) (v := (10 : Int32)) C dX4_copy_62 rfl (by decide) ?_
          refine g_iload_n (pc' := 65) C dX4_copy_64 rfl rfl rfl ?_
          refine g_imul (pc' := 66) C dX4_copy_65 rfl ?_
          refine g_iload_n (pc' := 67) C dX4_copy_66 rfl rfl rfl ?_
          refine g_iadd (pc' := 68) C dX4_copy_67 rfl ?_
          obtain ⟨hi, hv⟩ := hv
          refine g_iald (pc' := 69) C dX4_copy_68 rfl 4 rfl hi ?_
          refine g_iconst (pc' := 70) (v := (1 : Int32)) C dX4_copy_69 rfl (by decide) ?_
          obtain ⟨hv1, hv2⟩ := hv
          refine g_icmp_ne (pc' := 73) (tgt := 77) C dX4_copy_70 rfl (by decide) (fun c => ?_) (fun c => ?_)
          · have hv := hv1 c
            refine g_aload_n (pc' := 78) C dX4_copy_77 rfl rfl rfl ?_
            refine gf_X4_38 (pc' := 81) C dX4_copy_78 rfl 0 rfl rfl ?_
            refine pf_X4_38 (pc' := 84) (ws' := wN γ bd pl msn thr mpar mcel mhel mclo msea mwei msha mmon) C dX4_copy_81 rfl 0 rfl rfl rfl (Nat.le_of_ble_eq_true rfl) rfl ?_
            refine g_iinc (pc' := 87) (v := (x3 + (1 : Int32))) (lv' := [(3, .int (x3 + (1 : Int32))), (0, .ref (bd 0)), (1, .int x1), (2, .int x2)]) C dX4_copy_84 rfl rfl rfl (by decide) rfl ?_
            refine g_goto (tgt := 34) C dX4_copy_87 (by decide) ?_
            refine g_sub (lv' := [(0, .ref (bd 0)), (1, .int x1), (2, .int x2), (3, .int (x3 + (1 : Int32)))]) [1, 2, 3, 0] rfl ?_
            exact ih _ _ hv
          · have hv := hv2 c
            refine g_iconst (pc' := 74) (v := (3 : Int32)) C dX4_copy_73 rfl (by decide) ?_
            refine g_goto (tgt := 81) C dX4_copy_74 (by decide) ?_
            refine pf_X4_38 (pc' := 84) (ws' := wN γ bd pl msn (3 : Int32) mpar mcel mhel mclo msea mwei msha mmon) C dX4_copy_81 rfl 0 rfl rfl rfl (Nat.le_of_ble_eq_true rfl) rfl ?_
            refine g_iinc (pc' := 87) (v := (x3 + (1 : Int32))) (lv' := [(3, .int (x3 + (1 : Int32))), (0, .ref (bd 0)), (1, .int x1), (2, .int x2)]) C dX4_copy_84 rfl rfl rfl (by decide) rfl ?_
            refine g_goto (tgt := 34) C dX4_copy_87 (by decide) ?_
            refine g_sub (lv' := [(0, .ref (bd 0)), (1, .int x1), (2, .int x2), (3, .int (x3 + (1 : Int32)))]) [1, 2, 3, 0] rfl ?_
            exact ih _ _ hv
def vX4_copy (pl : Int32) (thr : Int32) (mpar : Ar) (mcel : Ar) (mclo : Ar) (x1 : Int32) (x2 : Int32) (Q : Int32 → (Int32 × Ar) → Prop) : Prop := (vX4_isVersion x1 (fun r2 => ((r2 = (0 : Int32) → (∃ n34 : Nat, vX4_copy_L34 pl mpar mcel mclo x1 x2 Q n34 (0 : Int32) (1 : Int32))) ∧ (¬ r2 = (0 : Int32) → (vX4_isVersion x2 (fun r9 => ((¬ r9 = (0 : Int32) → ((¬ x1 = x2 → (∃ n34 : Nat, vX4_copy_L34 pl mpar mcel mclo x1 x2 Q n34 (0 : Int32) (0 : Int32))) ∧ (x1 = x2 → (∃ n34 : Nat, vX4_copy_L34 pl mpar mcel mclo x1 x2 Q n34 (0 : Int32) (2 : Int32))))) ∧ (r9 = (0 : Int32) → (∃ n34 : Nat, vX4_copy_L34 pl mpar mcel mclo x1 x2 Q n34 (0 : Int32) (1 : Int32))))))))))
set_option maxHeartbeats 4000000 in
set_option maxRecDepth 100000 in
theorem mtX4_copy {l : Launch} {γ : Gm} {bd : Nat → Nat} {pl : Int32} {msn : Int32} {thr : Int32} {mpar : Ar} {mcel : Ar} {mhel : Ar} {mclo : Ar} {msea : Ar} {mwei : Ar} {msha : Ar} {mmon : Ar} {x1 : Int32} {x2 : Int32} {Q : Int32 → (Int32 × Ar) → Prop} (hv : vX4_copy pl thr mpar mcel mclo x1 x2 Q) : CtI l γ yX4_copy cX4_copy 5 .int 2 42 0 0 [.ref (bd 0), .int x1, .int x2] (wN γ bd pl msn thr mpar mcel mhel mclo msea mwei msha mmon) (fun (r : Int32) (u : Int32 × Ar) => Q r u) (fun u => wN γ bd pl msn u.1 mpar u.2 mhel mclo msea mwei msha mmon) := startI (by decide +kernel) (Nat.le_of_ble_eq_true rfl) (fun κ C RT hR hnm => by
  show G l γ κ (wN γ bd pl msn thr mpar mcel mhel mclo msea mwei msha mmon) [(0, .ref (bd 0)), (1, .int x1), (2, .int x2)] 0 0 [] 0
  refine g_aload_n (pc' := 1) C dX4_copy_0 rfl rfl rfl ?_
  refine g_iload_n (pc' := 2) C dX4_copy_1 rfl rfl rfl ?_
  refine cnI (pc' := 5) C (run_SI (rest := [.ref (bd 0)]) C lk_X4_67 (mtX4_isVersion hv) ⟨by decide, by decide⟩ rfl rfl (Nat.le_of_ble_eq_true rfl) ⟨Nat.zero_le _, Nat.zero_le _⟩ dX4_copy_2) rfl (fun r2 u2 hv => ?_)
  obtain ⟨hv1, hv2⟩ := hv
  refine g_if_eq (pc' := 8) (tgt := 15) C dX4_copy_5 rfl (by decide) (fun c => ?_) (fun c => ?_)
  · have hv := hv1 c
    refine g_iconst (pc' := 16) (v := (1 : Int32)) C dX4_copy_15 rfl (by decide) ?_
    refine g_goto (tgt := 29) C dX4_copy_16 (by decide) ?_
    refine pf_X4_38 (pc' := 32) (ws' := wN γ bd pl msn (1 : Int32) mpar mcel mhel mclo msea mwei msha mmon) C dX4_copy_29 rfl 0 rfl rfl rfl (Nat.le_of_ble_eq_true rfl) rfl ?_
    refine g_iconst (pc' := 33) (v := (0 : Int32)) C dX4_copy_32 rfl (by decide) ?_
    refine g_istore_n (pc' := 34) (lv' := [(3, .int (0 : Int32)), (0, .ref (bd 0)), (1, .int x1), (2, .int x2)]) C dX4_copy_33 rfl rfl (by decide) rfl ?_
    refine g_sub (lv' := [(0, .ref (bd 0)), (1, .int x1), (2, .int x2), (3, .int (0 : Int32))]) [1, 2, 3, 0] rfl ?_
    obtain ⟨n34, hv⟩ := hv
    exact wvX4_copy_L34 C RT  n34 _ _ hv
  · have hv := hv2 c
    refine g_iload_n (pc' := 9) C dX4_copy_8 rfl rfl rfl ?_
    refine cnI (pc' := 12) C (run_SI (rest := [.ref (bd 0)]) C lk_X4_67 (mtX4_isVersion hv) ⟨by decide, by decide⟩ rfl rfl (Nat.le_of_ble_eq_true rfl) ⟨Nat.zero_le _, Nat.zero_le _⟩ dX4_copy_9) rfl (fun r9 u9 hv => ?_)
    obtain ⟨hv1, hv2⟩ := hv
    refine g_if_ne (pc' := 15) (tgt := 19) C dX4_copy_12 rfl (by decide) (fun c => ?_) (fun c => ?_)
    · have hv := hv1 c
      refine g_iload_n (pc' := 20) C dX4_copy_19 rfl rfl rfl ?_
      refine g_iload_n (pc' := 21) C dX4_copy_20 rfl rfl rfl ?_
      obtain ⟨hv1, hv2⟩ := hv
      refine g_icmp_ne (pc' := 24) (tgt := 28) C dX4_copy_21 rfl (by decide) (fun c => ?_) (fun c => ?_)
      · have hv := hv1 c
        refine g_iconst (pc' := 29) (v := (0 : Int32)) C dX4_copy_28 rfl (by decide) ?_
        refine pf_X4_38 (pc' := 32) (ws' := wN γ bd pl msn (0 : Int32) mpar mcel mhel mclo msea mwei msha mmon) C dX4_copy_29 rfl 0 rfl rfl rfl (Nat.le_of_ble_eq_true rfl) rfl ?_
        refine g_iconst (pc' := 33) (v := (0 : Int32)) C dX4_copy_32 rfl (by decide) ?_
        refine g_istore_n (pc' := 34) (lv' := [(3, .int (0 : Int32)), (0, .ref (bd 0)), (1, .int x1), (2, .int x2)]) C dX4_copy_33 rfl rfl (by decide) rfl ?_
        refine g_sub (lv' := [(0, .ref (bd 0)), (1, .int x1), (2, .int x2), (3, .int (0 : Int32))]) [1, 2, 3, 0] rfl ?_
        obtain ⟨n34, hv⟩ := hv
        exact wvX4_copy_L34 C RT  n34 _ _ hv
      · have hv := hv2 c
        refine g_iconst (pc' := 25) (v := (2 : Int32)) C dX4_copy_24 rfl (by decide) ?_
        refine g_goto (tgt := 29) C dX4_copy_25 (by decide) ?_
        refine pf_X4_38 (pc' := 32) (ws' := wN γ bd pl msn (2 : Int32) mpar mcel mhel mclo msea mwei msha mmon) C dX4_copy_29 rfl 0 rfl rfl rfl (Nat.le_of_ble_eq_true rfl) rfl ?_
        refine g_iconst (pc' := 33) (v := (0 : Int32)) C dX4_copy_32 rfl (by decide) ?_
        refine g_istore_n (pc' := 34) (lv' := [(3, .int (0 : Int32)), (0, .ref (bd 0)), (1, .int x1), (2, .int x2)]) C dX4_copy_33 rfl rfl (by decide) rfl ?_
        refine g_sub (lv' := [(0, .ref (bd 0)), (1, .int x1), (2, .int x2), (3, .int (0 : Int32))]) [1, 2, 3, 0] rfl ?_
        obtain ⟨n34, hv⟩ := hv
        exact wvX4_copy_L34 C RT  n34 _ _ hv
    · have hv := hv2 c
      refine g_iconst (pc' := 16) (v := (1 : Int32)) C dX4_copy_15 rfl (by decide) ?_
      refine g_goto (tgt := 29) C dX4_copy_16 (by decide) ?_
      refine pf_X4_38 (pc' := 32) (ws' := wN γ bd pl msn (1 : Int32) mpar mcel mhel mclo msea mwei msha mmon) C dX4_copy_29 rfl 0 rfl rfl rfl (Nat.le_of_ble_eq_true rfl) rfl ?_
      refine g_iconst (pc' := 33) (v := (0 : Int32)) C dX4_copy_32 rfl (by decide) ?_
      refine g_istore_n (pc' := 34) (lv' := [(3, .int (0 : Int32)), (0, .ref (bd 0)), (1, .int x1), (2, .int x2)]) C dX4_copy_33 rfl rfl (by decide) rfl ?_
      refine g_sub (lv' := [(0, .ref (bd 0)), (1, .int x1), (2, .int x2), (3, .int (0 : Int32))]) [1, 2, 3, 0] rfl ?_
      obtain ⟨n34, hv⟩ := hv
      exact wvX4_copy_L34 C RT  n34 _ _ hv)
def vX4_closes_J79 (pl : Int32) (thr : Int32) (mpar : Ar) (mclo : Ar) (x1 : Int32) (x2 : Int32) (x3 : Int32) (x5 : Int32) (s0 : Int32) (s1 : Int32) (K30 : Int32 → Int32 → Ar → Prop) (Q : Int32 → (Int32 × Ar) → Prop) : Prop := (vp_in (((10 : Int32) * x1) + x5) 30 ∧ (K30 (s1 + s0) (x5 + (1 : Int32)) (upd mclo (((10 : Int32) * x1) + x5).toNatClampNeg x3)))
set_option maxHeartbeats 4000000 in
set_option maxRecDepth 100000 in
theorem wvX4_closes_J79 {l : Launch} {γ : Gm} {κ : Kx} {bd : Nat → Nat} {pl : Int32} {msn : Int32} {thr : Int32} {mpar : Ar} {mcel : Ar} {mhel : Ar} {mclo : Ar} {msea : Ar} {mwei : Ar} {msha : Ar} {mmon : Ar} {x1 : Int32} {x2 : Int32} {x3 : Int32} {x5 : Int32} {s0 : Int32} {s1 : Int32} {K30 : Int32 → Int32 → Ar → Prop} {Q : Int32 → (Int32 × Ar) → Prop} (C : Ok γ κ cX4_closes 6 RX4 2 45) (RT : RtI l γ κ cX4_closes .int 0 0 (fun (r : Int32) (u : Int32 × Ar) => Q r u) (fun u => wN γ bd pl msn u.1 mpar mcel mhel u.2 msea mwei msha mmon)) (hK30 : ∀ (x4 : Int32) (x5 : Int32) (mclo : Ar), K30 x4 x5 mclo → G l γ κ (wN γ bd pl msn thr mpar mcel mhel mclo msea mwei msha mmon) [(0, .ref (bd 0)), (1, .int x1), (2, .int x2), (3, .int x3), (4, .int x4), (5, .int x5)] 0 0 [] 30) (hv : vX4_closes_J79 pl thr mpar mclo x1 x2 x3 x5 s0 s1 K30 Q) : G l γ κ (wN γ bd pl msn thr mpar mcel mhel mclo msea mwei msha mmon) [(0, .ref (bd 0)), (1, .int x1), (2, .int x2), (3, .int x3), (5, .int x5)] 0 0 [.int s0, .int s1] 79 := by
  refine g_iadd (pc' := 80) C dX4_closes_79 rfl ?_
  refine g_istore (pc' := 82) (lv' := [(4, .int (s1 + s0)), (0, .ref (bd 0)), (1, .int x1), (2, .int x2), (3, .int x3), (5, .int x5)]) C dX4_closes_80 rfl (by decide) rfl ?_
  refine g_aload_n (pc' := 83) C dX4_closes_82 rfl rfl rfl ?_
  refine gf_X4_23 (pc' := 86) C dX4_closes_83 rfl 0 rfl rfl ?_
  refine g_bipush (pc' := 88) (v := (10 : Int32)) C dX4_closes_86 rfl (by decide) ?_
  refine g_iload_n (pc' := 89) C dX4_closes_88 rfl rfl rfl ?_
  refine g_imul (pc' := 90) C dX4_closes_89 rfl ?_
  refine g_iload (pc' := 92) C dX4_closes_90 rfl rfl ?_
  refine g_iadd (pc' := 93) C dX4_closes_92 rfl ?_
  refine g_iload_n (pc' := 94) C dX4_closes_93 rfl rfl rfl ?_
  obtain ⟨hi, hv⟩ := hv
  refine g_iast (pc' := 95) (ws' := wN γ bd pl msn thr mpar mcel mhel (upd mclo (((10 : Int32) * x1) + x5).toNatClampNeg x3) msea mwei msha mmon) C dX4_closes_94 rfl 4 rfl hi rfl ?_
  refine g_iinc (pc' := 98) (v := (x5 + (1 : Int32))) (lv' := [(5, .int (x5 + (1 : Int32))), (4, .int (s1 + s0)), (0, .ref (bd 0)), (1, .int x1), (2, .int x2), (3, .int x3)]) C dX4_closes_95 rfl rfl rfl (by decide) rfl ?_
  refine g_goto (tgt := 30) C dX4_closes_98 (by decide) ?_
  refine g_sub (lv' := [(0, .ref (bd 0)), (1, .int x1), (2, .int x2), (3, .int x3), (4, .int (s1 + s0)), (5, .int (x5 + (1 : Int32)))]) [2, 3, 4, 5, 1, 0] rfl ?_
  exact hK30 _ _ _ hv
def vX4_closes_L30 (pl : Int32) (thr : Int32) (mpar : Ar) (x1 : Int32) (x2 : Int32) (x3 : Int32) (Q : Int32 → (Int32 × Ar) → Prop) : Nat → Int32 → Int32 → Ar → Prop
  | 0, _, _, _ => False
  | n + 1, x4, x5, mclo => ((pl ≤ x5 → (Q x4 (thr, mclo))) ∧ (¬ pl ≤ x5 → ((¬ thr = (0 : Int32) → (Q x4 (thr, mclo))) ∧ (thr = (0 : Int32) → (vX4_isLeafOf pl mpar x5 x2 (fun r50 => ((r50 = (0 : Int32) → (vX4_closes_L30 pl thr mpar x1 x2 x3 Q n x4 (x5 + (1 : Int32)) mclo)) ∧ (¬ r50 = (0 : Int32) → (vp_in (((10 : Int32) * x1) + x5) 30 ∧ ((¬ (mclo (((10 : Int32) * x1) + x5).toNatClampNeg) = x3 → (vX4_closes_J79 pl thr mpar mclo x1 x2 x3 x5 (1 : Int32) x4 (vX4_closes_L30 pl thr mpar x1 x2 x3 Q n) Q)) ∧ ((mclo (((10 : Int32) * x1) + x5).toNatClampNeg) = x3 → (vX4_closes_J79 pl thr mpar mclo x1 x2 x3 x5 (0 : Int32) x4 (vX4_closes_L30 pl thr mpar x1 x2 x3 Q n) Q))))))))))))
set_option maxHeartbeats 4000000 in
set_option maxRecDepth 100000 in
theorem wvX4_closes_L30 {l : Launch} {γ : Gm} {κ : Kx} {bd : Nat → Nat} {pl : Int32} {msn : Int32} {thr : Int32} {mpar : Ar} {mcel : Ar} {mhel : Ar} {msea : Ar} {mwei : Ar} {msha : Ar} {mmon : Ar} {x1 : Int32} {x2 : Int32} {x3 : Int32} {Q : Int32 → (Int32 × Ar) → Prop} (C : Ok γ κ cX4_closes 6 RX4 2 45) (RT : RtI l γ κ cX4_closes .int 0 0 (fun (r : Int32) (u : Int32 × Ar) => Q r u) (fun u => wN γ bd pl msn u.1 mpar mcel mhel u.2 msea mwei msha mmon))  : ∀ (n : Nat) (x4 : Int32) (x5 : Int32) (mclo : Ar), vX4_closes_L30 pl thr mpar x1 x2 x3 Q n x4 x5 mclo → G l γ κ (wN γ bd pl msn thr mpar mcel mhel mclo msea mwei msha mmon) [(0, .ref (bd 0)), (1, .int x1), (2, .int x2), (3, .int x3), (4, .int x4), (5, .int x5)] 0 0 [] 30 := by
  intro n
  induction n with
  | zero => intro x4 x5 mclo hv; exact False.elim hv
  | succ n ih =>
    intro x4 x5 mclo hv
    refine g_iload (pc' := 32) C dX4_closes_30 rfl rfl ?_
    refine g_aload_n (pc' := 33) C dX4_closes_32 rfl rfl rfl ?_
    refine gf_X4_7 (pc' := 36) C dX4_closes_33 rfl 0 rfl rfl ?_
    obtain ⟨hv1, hv2⟩ := hv
    refine g_icmp_ge (pc' := 39) (tgt := 101) C dX4_closes_36 rfl (by decide) (fun c => ?_) (fun c => ?_)
    · have hv := hv1 c
      refine g_iload (pc' := 103) C dX4_closes_101 rfl rfl ?_
      exact RT x4 (thr, mclo) _ _ _ _ dX4_closes_103 rfl (by decide) (by decide) hv
    · have hv := hv2 c
      refine g_aload_n (pc' := 40) C dX4_closes_39 rfl rfl rfl ?_
      refine gf_X4_38 (pc' := 43) C dX4_closes_40 rfl 0 rfl rfl ?_
      obtain ⟨hv1, hv2⟩ := hv
      refine g_if_ne (pc' := 46) (tgt := 101) C dX4_closes_43 rfl (by decide) (fun c => ?_) (fun c => ?_)
      · have hv := hv1 c
        refine g_iload (pc' := 103) C dX4_closes_101 rfl rfl ?_
        exact RT x4 (thr, mclo) _ _ _ _ dX4_closes_103 rfl (by decide) (by decide) hv
      · have hv := hv2 c
        refine g_aload_n (pc' := 47) C dX4_closes_46 rfl rfl rfl ?_
        refine g_iload (pc' := 49) C dX4_closes_47 rfl rfl ?_
        refine g_iload_n (pc' := 50) C dX4_closes_49 rfl rfl rfl ?_
        refine csI (pc' := 53) C (run_VI (rest := []) C lk_X4_63 (mtX4_isLeafOf hv) ⟨by decide, by decide⟩ rfl rfl rfl rfl (Nat.le_of_ble_eq_true rfl) ⟨Nat.zero_le _, Nat.zero_le _⟩ dX4_closes_50) rfl (fun r50 u50 hv => ?_)
        obtain ⟨hv1, hv2⟩ := hv
        refine g_if_eq (pc' := 56) (tgt := 95) C dX4_closes_53 rfl (by decide) (fun c => ?_) (fun c => ?_)
        · have hv := hv1 c
          refine g_iinc (pc' := 98) (v := (x5 + (1 : Int32))) (lv' := [(5, .int (x5 + (1 : Int32))), (0, .ref (bd 0)), (1, .int x1), (2, .int x2), (3, .int x3), (4, .int x4)]) C dX4_closes_95 rfl rfl rfl (by decide) rfl ?_
          refine g_goto (tgt := 30) C dX4_closes_98 (by decide) ?_
          refine g_sub (lv' := [(0, .ref (bd 0)), (1, .int x1), (2, .int x2), (3, .int x3), (4, .int x4), (5, .int (x5 + (1 : Int32)))]) [1, 2, 3, 4, 5, 0] rfl ?_
          exact ih _ _ _ hv
        · have hv := hv2 c
          refine g_iload (pc' := 58) C dX4_closes_56 rfl rfl ?_
          refine g_aload_n (pc' := 59) C dX4_closes_58 rfl rfl rfl ?_
          refine gf_X4_23 (pc' := 62) C dX4_closes_59 rfl 0 rfl rfl ?_
          refine g_bipush (pc' := 64) (v := (10 : Int32)) C dX4_closes_62 rfl (by decide) ?_
          refine g_iload_n (pc' := 65) C dX4_closes_64 rfl rfl rfl ?_
          refine g_imul (pc' := 66) C dX4_closes_65 rfl ?_
          refine g_iload (pc' := 68) C dX4_closes_66 rfl rfl ?_
          refine g_iadd (pc' := 69) C dX4_closes_68 rfl ?_
          obtain ⟨hi, hv⟩ := hv
          refine g_iald (pc' := 70) C dX4_closes_69 rfl 4 rfl hi ?_
          refine g_iload_n (pc' := 71) C dX4_closes_70 rfl rfl rfl ?_
          obtain ⟨hv1, hv2⟩ := hv
          refine g_icmp_ne (pc' := 74) (tgt := 78) C dX4_closes_71 rfl (by decide) (fun c => ?_) (fun c => ?_)
          · have hv := hv1 c
            refine g_iconst (pc' := 79) (v := (1 : Int32)) C dX4_closes_78 rfl (by decide) ?_
            refine g_sub (lv' := [(0, .ref (bd 0)), (1, .int x1), (2, .int x2), (3, .int x3), (5, .int x5)]) [0, 1, 2, 3, 5] rfl ?_
            exact wvX4_closes_J79 C RT ih hv
          · have hv := hv2 c
            refine g_iconst (pc' := 75) (v := (0 : Int32)) C dX4_closes_74 rfl (by decide) ?_
            refine g_goto (tgt := 79) C dX4_closes_75 (by decide) ?_
            refine g_sub (lv' := [(0, .ref (bd 0)), (1, .int x1), (2, .int x2), (3, .int x3), (5, .int x5)]) [0, 1, 2, 3, 5] rfl ?_
            exact wvX4_closes_J79 C RT ih hv
def vX4_closes (pl : Int32) (thr : Int32) (mpar : Ar) (mclo : Ar) (x1 : Int32) (x2 : Int32) (x3 : Int32) (Q : Int32 → (Int32 × Ar) → Prop) : Prop := (vX4_isVersion x1 (fun r2 => ((r2 = (0 : Int32) → (∃ n30 : Nat, vX4_closes_L30 pl (1 : Int32) mpar x1 x2 x3 Q n30 (0 : Int32) (0 : Int32) mclo)) ∧ (¬ r2 = (0 : Int32) → (vX4_isPlace pl x2 (fun r10 => ((r10 = (0 : Int32) → (∃ n30 : Nat, vX4_closes_L30 pl (1 : Int32) mpar x1 x2 x3 Q n30 (0 : Int32) (0 : Int32) mclo)) ∧ (¬ r10 = (0 : Int32) → (∃ n30 : Nat, vX4_closes_L30 pl (0 : Int32) mpar x1 x2 x3 Q n30 (0 : Int32) (0 : Int32) mclo)))))))))
set_option maxHeartbeats 4000000 in
set_option maxRecDepth 100000 in
theorem mtX4_closes {l : Launch} {γ : Gm} {bd : Nat → Nat} {pl : Int32} {msn : Int32} {thr : Int32} {mpar : Ar} {mcel : Ar} {mhel : Ar} {mclo : Ar} {msea : Ar} {mwei : Ar} {msha : Ar} {mmon : Ar} {x1 : Int32} {x2 : Int32} {x3 : Int32} {Q : Int32 → (Int32 × Ar) → Prop} (hv : vX4_closes pl thr mpar mclo x1 x2 x3 Q) : CtI l γ yX4_closes cX4_closes 6 .int 2 45 0 0 [.ref (bd 0), .int x1, .int x2, .int x3] (wN γ bd pl msn thr mpar mcel mhel mclo msea mwei msha mmon) (fun (r : Int32) (u : Int32 × Ar) => Q r u) (fun u => wN γ bd pl msn u.1 mpar mcel mhel u.2 msea mwei msha mmon) := startI (by decide +kernel) (Nat.le_of_ble_eq_true rfl) (fun κ C RT hR hnm => by
  show G l γ κ (wN γ bd pl msn thr mpar mcel mhel mclo msea mwei msha mmon) [(0, .ref (bd 0)), (1, .int x1), (2, .int x2), (3, .int x3)] 0 0 [] 0
  refine g_aload_n (pc' := 1) C dX4_closes_0 rfl rfl rfl ?_
  refine g_iload_n (pc' := 2) C dX4_closes_1 rfl rfl rfl ?_
  refine cnI (pc' := 5) C (run_SI (rest := [.ref (bd 0)]) C lk_X4_67 (mtX4_isVersion hv) ⟨by decide, by decide⟩ rfl rfl (Nat.le_of_ble_eq_true rfl) ⟨Nat.zero_le _, Nat.zero_le _⟩ dX4_closes_2) rfl (fun r2 u2 hv => ?_)
  obtain ⟨hv1, hv2⟩ := hv
  refine g_if_eq (pc' := 8) (tgt := 20) C dX4_closes_5 rfl (by decide) (fun c => ?_) (fun c => ?_)
  · have hv := hv1 c
    refine g_iconst (pc' := 21) (v := (1 : Int32)) C dX4_closes_20 rfl (by decide) ?_
    refine pf_X4_38 (pc' := 24) (ws' := wN γ bd pl msn (1 : Int32) mpar mcel mhel mclo msea mwei msha mmon) C dX4_closes_21 rfl 0 rfl rfl rfl (Nat.le_of_ble_eq_true rfl) rfl ?_
    refine g_iconst (pc' := 25) (v := (0 : Int32)) C dX4_closes_24 rfl (by decide) ?_
    refine g_istore (pc' := 27) (lv' := [(4, .int (0 : Int32)), (0, .ref (bd 0)), (1, .int x1), (2, .int x2), (3, .int x3)]) C dX4_closes_25 rfl (by decide) rfl ?_
    refine g_iconst (pc' := 28) (v := (0 : Int32)) C dX4_closes_27 rfl (by decide) ?_
    refine g_istore (pc' := 30) (lv' := [(5, .int (0 : Int32)), (4, .int (0 : Int32)), (0, .ref (bd 0)), (1, .int x1), (2, .int x2), (3, .int x3)]) C dX4_closes_28 rfl (by decide) rfl ?_
    refine g_sub (lv' := [(0, .ref (bd 0)), (1, .int x1), (2, .int x2), (3, .int x3), (4, .int (0 : Int32)), (5, .int (0 : Int32))]) [2, 3, 4, 5, 1, 0] rfl ?_
    obtain ⟨n30, hv⟩ := hv
    exact wvX4_closes_L30 C RT  n30 _ _ _ hv
  · have hv := hv2 c
    refine g_aload_n (pc' := 9) C dX4_closes_8 rfl rfl rfl ?_
    refine g_iload_n (pc' := 10) C dX4_closes_9 rfl rfl rfl ?_
    refine csI (pc' := 13) C (run_VI (rest := [.ref (bd 0)]) C lk_X4_57 (mtX4_isPlace hv) ⟨by decide, by decide⟩ rfl rfl rfl rfl (Nat.le_of_ble_eq_true rfl) ⟨Nat.zero_le _, Nat.zero_le _⟩ dX4_closes_10) rfl (fun r10 u10 hv => ?_)
    obtain ⟨hv1, hv2⟩ := hv
    refine g_if_eq (pc' := 16) (tgt := 20) C dX4_closes_13 rfl (by decide) (fun c => ?_) (fun c => ?_)
    · have hv := hv1 c
      refine g_iconst (pc' := 21) (v := (1 : Int32)) C dX4_closes_20 rfl (by decide) ?_
      refine pf_X4_38 (pc' := 24) (ws' := wN γ bd pl msn (1 : Int32) mpar mcel mhel mclo msea mwei msha mmon) C dX4_closes_21 rfl 0 rfl rfl rfl (Nat.le_of_ble_eq_true rfl) rfl ?_
      refine g_iconst (pc' := 25) (v := (0 : Int32)) C dX4_closes_24 rfl (by decide) ?_
      refine g_istore (pc' := 27) (lv' := [(4, .int (0 : Int32)), (0, .ref (bd 0)), (1, .int x1), (2, .int x2), (3, .int x3)]) C dX4_closes_25 rfl (by decide) rfl ?_
      refine g_iconst (pc' := 28) (v := (0 : Int32)) C dX4_closes_27 rfl (by decide) ?_
      refine g_istore (pc' := 30) (lv' := [(5, .int (0 : Int32)), (4, .int (0 : Int32)), (0, .ref (bd 0)), (1, .int x1), (2, .int x2), (3, .int x3)]) C dX4_closes_28 rfl (by decide) rfl ?_
      refine g_sub (lv' := [(0, .ref (bd 0)), (1, .int x1), (2, .int x2), (3, .int x3), (4, .int (0 : Int32)), (5, .int (0 : Int32))]) [2, 3, 4, 5, 1, 0] rfl ?_
      obtain ⟨n30, hv⟩ := hv
      exact wvX4_closes_L30 C RT  n30 _ _ _ hv
    · have hv := hv2 c
      refine g_iconst (pc' := 17) (v := (0 : Int32)) C dX4_closes_16 rfl (by decide) ?_
      refine g_goto (tgt := 21) C dX4_closes_17 (by decide) ?_
      refine pf_X4_38 (pc' := 24) (ws' := wN γ bd pl msn (0 : Int32) mpar mcel mhel mclo msea mwei msha mmon) C dX4_closes_21 rfl 0 rfl rfl rfl (Nat.le_of_ble_eq_true rfl) rfl ?_
      refine g_iconst (pc' := 25) (v := (0 : Int32)) C dX4_closes_24 rfl (by decide) ?_
      refine g_istore (pc' := 27) (lv' := [(4, .int (0 : Int32)), (0, .ref (bd 0)), (1, .int x1), (2, .int x2), (3, .int x3)]) C dX4_closes_25 rfl (by decide) rfl ?_
      refine g_iconst (pc' := 28) (v := (0 : Int32)) C dX4_closes_27 rfl (by decide) ?_
      refine g_istore (pc' := 30) (lv' := [(5, .int (0 : Int32)), (4, .int (0 : Int32)), (0, .ref (bd 0)), (1, .int x1), (2, .int x2), (3, .int x3)]) C dX4_closes_28 rfl (by decide) rfl ?_
      refine g_sub (lv' := [(0, .ref (bd 0)), (1, .int x1), (2, .int x2), (3, .int x3), (4, .int (0 : Int32)), (5, .int (0 : Int32))]) [2, 3, 4, 5, 1, 0] rfl ?_
      obtain ⟨n30, hv⟩ := hv
      exact wvX4_closes_L30 C RT  n30 _ _ _ hv)
def vX4_handIn (pl : Int32) (thr : Int32) (mpar : Ar) (mclo : Ar) (x1 : Int32) (x2 : Int32) (Q : Int32 → (Int32 × Ar) → Prop) : Prop := (vX4_closes pl thr mpar mclo x1 x2 (1 : Int32) (fun r4 u4 => (Q r4 (u4.1, u4.2))))
set_option maxHeartbeats 4000000 in
set_option maxRecDepth 100000 in
theorem mtX4_handIn {l : Launch} {γ : Gm} {bd : Nat → Nat} {pl : Int32} {msn : Int32} {thr : Int32} {mpar : Ar} {mcel : Ar} {mhel : Ar} {mclo : Ar} {msea : Ar} {mwei : Ar} {msha : Ar} {mmon : Ar} {x1 : Int32} {x2 : Int32} {Q : Int32 → (Int32 × Ar) → Prop} (hv : vX4_handIn pl thr mpar mclo x1 x2 Q) : CtI l γ yX4_handIn cX4_handIn 3 .int 3 70 0 0 [.ref (bd 0), .int x1, .int x2] (wN γ bd pl msn thr mpar mcel mhel mclo msea mwei msha mmon) (fun (r : Int32) (u : Int32 × Ar) => Q r u) (fun u => wN γ bd pl msn u.1 mpar mcel mhel u.2 msea mwei msha mmon) := startI (by decide +kernel) (Nat.le_of_ble_eq_true rfl) (fun κ C RT hR hnm => by
  show G l γ κ (wN γ bd pl msn thr mpar mcel mhel mclo msea mwei msha mmon) [(0, .ref (bd 0)), (1, .int x1), (2, .int x2)] 0 0 [] 0
  refine g_aload_n (pc' := 1) C dX4_handIn_0 rfl rfl rfl ?_
  refine g_iload_n (pc' := 2) C dX4_handIn_1 rfl rfl rfl ?_
  refine g_iload_n (pc' := 3) C dX4_handIn_2 rfl rfl rfl ?_
  refine g_iconst (pc' := 4) (v := (1 : Int32)) C dX4_handIn_3 rfl (by decide) ?_
  refine csI (pc' := 7) C (run_VI (rest := []) C lk_X4_97 (mtX4_closes hv) ⟨by decide, by decide⟩ rfl rfl rfl rfl (Nat.le_of_ble_eq_true rfl) ⟨Nat.zero_le _, Nat.zero_le _⟩ dX4_handIn_4) rfl (fun r4 u4 hv => ?_)
  exact RT r4 (u4.1, u4.2) _ _ _ _ dX4_handIn_7 rfl (by decide) (by decide) hv)
def vX4_takeBack (pl : Int32) (thr : Int32) (mpar : Ar) (mclo : Ar) (x1 : Int32) (x2 : Int32) (Q : Int32 → (Int32 × Ar) → Prop) : Prop := (vX4_closes pl thr mpar mclo x1 x2 (0 : Int32) (fun r4 u4 => (Q r4 (u4.1, u4.2))))
set_option maxHeartbeats 4000000 in
set_option maxRecDepth 100000 in
theorem mtX4_takeBack {l : Launch} {γ : Gm} {bd : Nat → Nat} {pl : Int32} {msn : Int32} {thr : Int32} {mpar : Ar} {mcel : Ar} {mhel : Ar} {mclo : Ar} {msea : Ar} {mwei : Ar} {msha : Ar} {mmon : Ar} {x1 : Int32} {x2 : Int32} {Q : Int32 → (Int32 × Ar) → Prop} (hv : vX4_takeBack pl thr mpar mclo x1 x2 Q) : CtI l γ yX4_takeBack cX4_takeBack 3 .int 3 70 0 0 [.ref (bd 0), .int x1, .int x2] (wN γ bd pl msn thr mpar mcel mhel mclo msea mwei msha mmon) (fun (r : Int32) (u : Int32 × Ar) => Q r u) (fun u => wN γ bd pl msn u.1 mpar mcel mhel u.2 msea mwei msha mmon) := startI (by decide +kernel) (Nat.le_of_ble_eq_true rfl) (fun κ C RT hR hnm => by
  show G l γ κ (wN γ bd pl msn thr mpar mcel mhel mclo msea mwei msha mmon) [(0, .ref (bd 0)), (1, .int x1), (2, .int x2)] 0 0 [] 0
  refine g_aload_n (pc' := 1) C dX4_takeBack_0 rfl rfl rfl ?_
  refine g_iload_n (pc' := 2) C dX4_takeBack_1 rfl rfl rfl ?_
  refine g_iload_n (pc' := 3) C dX4_takeBack_2 rfl rfl rfl ?_
  refine g_iconst (pc' := 4) (v := (0 : Int32)) C dX4_takeBack_3 rfl (by decide) ?_
  refine csI (pc' := 7) C (run_VI (rest := []) C lk_X4_97 (mtX4_closes hv) ⟨by decide, by decide⟩ rfl rfl rfl rfl (Nat.le_of_ble_eq_true rfl) ⟨Nat.zero_le _, Nat.zero_le _⟩ dX4_takeBack_4) rfl (fun r4 u4 hv => ?_)
  exact RT r4 (u4.1, u4.2) _ _ _ _ dX4_takeBack_7 rfl (by decide) (by decide) hv)
def vX4_see_J55 (pl : Int32) (thr : Int32) (mpar : Ar) (mcel : Ar) (x1 : Int32) (x2 : Int32) (x3 : Int32) (x4 : Int32) (s0 : Int32) (Q : Int32 → (Int32 × Ar) → Prop) : Prop := ((¬ s0 = (0 : Int32) → (Q (0 : Int32) (s0, mcel))) ∧ (s0 = (0 : Int32) → (vX4_at (3 : Int32) x1 x2 x3 (fun r70 => (vX4_puts mcel r70 x4 (fun r75 u75 => (Q r75 (s0, u75))))))))
set_option maxHeartbeats 4000000 in
set_option maxRecDepth 100000 in
theorem wvX4_see_J55 {l : Launch} {γ : Gm} {κ : Kx} {bd : Nat → Nat} {pl : Int32} {msn : Int32} {thr : Int32} {mpar : Ar} {mcel : Ar} {mhel : Ar} {mclo : Ar} {msea : Ar} {mwei : Ar} {msha : Ar} {mmon : Ar} {x1 : Int32} {x2 : Int32} {x3 : Int32} {x4 : Int32} {s0 : Int32} {Q : Int32 → (Int32 × Ar) → Prop} (C : Ok γ κ cX4_see 5 RX4 2 43) (RT : RtI l γ κ cX4_see .int 0 0 (fun (r : Int32) (u : Int32 × Ar) => Q r u) (fun u => wN γ bd pl msn u.1 mpar u.2 mhel mclo msea mwei msha mmon))  (hv : vX4_see_J55 pl thr mpar mcel x1 x2 x3 x4 s0 Q) : G l γ κ (wN γ bd pl msn thr mpar mcel mhel mclo msea mwei msha mmon) [(0, .ref (bd 0)), (1, .int x1), (2, .int x2), (3, .int x3), (4, .int x4)] 0 0 [.int s0, .ref (bd 0)] 55 := by
  refine pf_X4_38 (pc' := 58) (ws' := wN γ bd pl msn s0 mpar mcel mhel mclo msea mwei msha mmon) C dX4_see_55 rfl 0 rfl rfl rfl (Nat.le_of_ble_eq_true rfl) rfl ?_
  refine g_aload_n (pc' := 59) C dX4_see_58 rfl rfl rfl ?_
  refine gf_X4_38 (pc' := 62) C dX4_see_59 rfl 0 rfl rfl ?_
  obtain ⟨hv1, hv2⟩ := hv
  refine g_if_ne (pc' := 65) (tgt := 81) C dX4_see_62 rfl (by decide) (fun c => ?_) (fun c => ?_)
  · have hv := hv1 c
    refine g_iconst (pc' := 82) (v := (0 : Int32)) C dX4_see_81 rfl (by decide) ?_
    exact RT (0 : Int32) (s0, mcel) _ _ _ _ dX4_see_82 rfl (by decide) (by decide) hv
  · have hv := hv2 c
    refine g_aload_n (pc' := 66) C dX4_see_65 rfl rfl rfl ?_
    refine g_iconst (pc' := 67) (v := (3 : Int32)) C dX4_see_66 rfl (by decide) ?_
    refine g_iload_n (pc' := 68) C dX4_see_67 rfl rfl rfl ?_
    refine g_iload_n (pc' := 69) C dX4_see_68 rfl rfl rfl ?_
    refine g_iload_n (pc' := 70) C dX4_see_69 rfl rfl rfl ?_
    refine cnI (pc' := 73) C (run_SI (rest := [.ref (bd 0)]) C lk_X4_53 (mtX4_at hv) ⟨by decide, by decide⟩ rfl rfl (Nat.le_of_ble_eq_true rfl) ⟨Nat.zero_le _, Nat.zero_le _⟩ dX4_see_70) rfl (fun r70 u70 hv => ?_)
    refine g_iload (pc' := 75) C dX4_see_73 rfl rfl ?_
    refine csI (pc' := 78) C (run_VI (rest := []) C lk_X4_80 (mtX4_puts hv) ⟨by decide, by decide⟩ rfl rfl rfl rfl (Nat.le_of_ble_eq_true rfl) ⟨Nat.zero_le _, Nat.zero_le _⟩ dX4_see_75) rfl (fun r75 u75 hv => ?_)
    refine g_goto (tgt := 82) C dX4_see_78 (by decide) ?_
    exact RT r75 (s0, u75) _ _ _ _ dX4_see_82 rfl (by decide) (by decide) hv
def vX4_see_J25 (pl : Int32) (thr : Int32) (mpar : Ar) (mcel : Ar) (x1 : Int32) (x2 : Int32) (x3 : Int32) (x4 : Int32) (Q : Int32 → (Int32 × Ar) → Prop) : Prop := (vX4_see_J55 pl thr mpar mcel x1 x2 x3 x4 (1 : Int32) Q)
set_option maxHeartbeats 4000000 in
set_option maxRecDepth 100000 in
theorem wvX4_see_J25 {l : Launch} {γ : Gm} {κ : Kx} {bd : Nat → Nat} {pl : Int32} {msn : Int32} {thr : Int32} {mpar : Ar} {mcel : Ar} {mhel : Ar} {mclo : Ar} {msea : Ar} {mwei : Ar} {msha : Ar} {mmon : Ar} {x1 : Int32} {x2 : Int32} {x3 : Int32} {x4 : Int32} {Q : Int32 → (Int32 × Ar) → Prop} (C : Ok γ κ cX4_see 5 RX4 2 43) (RT : RtI l γ κ cX4_see .int 0 0 (fun (r : Int32) (u : Int32 × Ar) => Q r u) (fun u => wN γ bd pl msn u.1 mpar u.2 mhel mclo msea mwei msha mmon))  (hv : vX4_see_J25 pl thr mpar mcel x1 x2 x3 x4 Q) : G l γ κ (wN γ bd pl msn thr mpar mcel mhel mclo msea mwei msha mmon) [(0, .ref (bd 0)), (1, .int x1), (2, .int x2), (3, .int x3), (4, .int x4)] 0 0 [.ref (bd 0)] 25 := by
  refine g_iconst (pc' := 26) (v := (1 : Int32)) C dX4_see_25 rfl (by decide) ?_
  refine g_goto (tgt := 55) C dX4_see_26 (by decide) ?_
  exact wvX4_see_J55 C RT  hv
def vX4_see (pl : Int32) (thr : Int32) (mpar : Ar) (mcel : Ar) (x1 : Int32) (x2 : Int32) (x3 : Int32) (x4 : Int32) (Q : Int32 → (Int32 × Ar) → Prop) : Prop := (vX4_isPlace pl x1 (fun r3 => ((r3 = (0 : Int32) → (vX4_see_J25 pl thr mpar mcel x1 x2 x3 x4 Q)) ∧ (¬ r3 = (0 : Int32) → (vX4_in x2 (0 : Int32) (2 : Int32) (fun r12 => ((r12 = (0 : Int32) → (vX4_see_J25 pl thr mpar mcel x1 x2 x3 x4 Q)) ∧ (¬ r12 = (0 : Int32) → (vX4_isMonth x3 (fun r19 => ((¬ r19 = (0 : Int32) → (vX4_isAmount x2 x4 (fun r32 => ((¬ r32 = (0 : Int32) → (vX4_isLeaf pl mpar x1 (fun r44 => ((¬ r44 = (0 : Int32) → (vX4_see_J55 pl thr mpar mcel x1 x2 x3 x4 (0 : Int32) Q)) ∧ (r44 = (0 : Int32) → (vX4_see_J55 pl thr mpar mcel x1 x2 x3 x4 (3 : Int32) Q)))))) ∧ (r32 = (0 : Int32) → (vX4_see_J55 pl thr mpar mcel x1 x2 x3 x4 (2 : Int32) Q)))))) ∧ (r19 = (0 : Int32) → (vX4_see_J25 pl thr mpar mcel x1 x2 x3 x4 Q)))))))))))))
set_option maxHeartbeats 4000000 in
set_option maxRecDepth 100000 in
theorem mtX4_see {l : Launch} {γ : Gm} {bd : Nat → Nat} {pl : Int32} {msn : Int32} {thr : Int32} {mpar : Ar} {mcel : Ar} {mhel : Ar} {mclo : Ar} {msea : Ar} {mwei : Ar} {msha : Ar} {mmon : Ar} {x1 : Int32} {x2 : Int32} {x3 : Int32} {x4 : Int32} {Q : Int32 → (Int32 × Ar) → Prop} (hv : vX4_see pl thr mpar mcel x1 x2 x3 x4 Q) : CtI l γ yX4_see cX4_see 5 .int 2 43 0 0 [.ref (bd 0), .int x1, .int x2, .int x3, .int x4] (wN γ bd pl msn thr mpar mcel mhel mclo msea mwei msha mmon) (fun (r : Int32) (u : Int32 × Ar) => Q r u) (fun u => wN γ bd pl msn u.1 mpar u.2 mhel mclo msea mwei msha mmon) := startI (by decide +kernel) (Nat.le_of_ble_eq_true rfl) (fun κ C RT hR hnm => by
  show G l γ κ (wN γ bd pl msn thr mpar mcel mhel mclo msea mwei msha mmon) [(0, .ref (bd 0)), (1, .int x1), (2, .int x2), (3, .int x3), (4, .int x4)] 0 0 [] 0
  refine g_aload_n (pc' := 1) C dX4_see_0 rfl rfl rfl ?_
  refine g_aload_n (pc' := 2) C dX4_see_1 rfl rfl rfl ?_
  refine g_iload_n (pc' := 3) C dX4_see_2 rfl rfl rfl ?_
  refine csI (pc' := 6) C (run_VI (rest := [.ref (bd 0)]) C lk_X4_57 (mtX4_isPlace hv) ⟨by decide, by decide⟩ rfl rfl rfl rfl (Nat.le_of_ble_eq_true rfl) ⟨Nat.zero_le _, Nat.zero_le _⟩ dX4_see_3) rfl (fun r3 u3 hv => ?_)
  obtain ⟨hv1, hv2⟩ := hv
  refine g_if_eq (pc' := 9) (tgt := 25) C dX4_see_6 rfl (by decide) (fun c => ?_) (fun c => ?_)
  · have hv := hv1 c
    exact wvX4_see_J25 C RT  hv
  · have hv := hv2 c
    refine g_iload_n (pc' := 10) C dX4_see_9 rfl rfl rfl ?_
    refine g_iconst (pc' := 11) (v := (0 : Int32)) C dX4_see_10 rfl (by decide) ?_
    refine g_iconst (pc' := 12) (v := (2 : Int32)) C dX4_see_11 rfl (by decide) ?_
    refine cnI (pc' := 15) C (run_SI (rest := [.ref (bd 0)]) C lk_X4_41 (mtX4_in hv) ⟨by decide, by decide⟩ rfl rfl (Nat.le_of_ble_eq_true rfl) ⟨Nat.zero_le _, Nat.zero_le _⟩ dX4_see_12) rfl (fun r12 u12 hv => ?_)
    obtain ⟨hv1, hv2⟩ := hv
    refine g_if_eq (pc' := 18) (tgt := 25) C dX4_see_15 rfl (by decide) (fun c => ?_) (fun c => ?_)
    · have hv := hv1 c
      exact wvX4_see_J25 C RT  hv
    · have hv := hv2 c
      refine g_iload_n (pc' := 19) C dX4_see_18 rfl rfl rfl ?_
      refine cnI (pc' := 22) C (run_SI (rest := [.ref (bd 0)]) C lk_X4_70 (mtX4_isMonth hv) ⟨by decide, by decide⟩ rfl rfl (Nat.le_of_ble_eq_true rfl) ⟨Nat.zero_le _, Nat.zero_le _⟩ dX4_see_19) rfl (fun r19 u19 hv => ?_)
      obtain ⟨hv1, hv2⟩ := hv
      refine g_if_ne (pc' := 25) (tgt := 29) C dX4_see_22 rfl (by decide) (fun c => ?_) (fun c => ?_)
      · have hv := hv1 c
        refine g_iload_n (pc' := 30) C dX4_see_29 rfl rfl rfl ?_
        refine g_iload (pc' := 32) C dX4_see_30 rfl rfl ?_
        refine cnI (pc' := 35) C (run_SI (rest := [.ref (bd 0)]) C lk_X4_73 (mtX4_isAmount hv) ⟨by decide, by decide⟩ rfl rfl (Nat.le_of_ble_eq_true rfl) ⟨Nat.zero_le _, Nat.zero_le _⟩ dX4_see_32) rfl (fun r32 u32 hv => ?_)
        obtain ⟨hv1, hv2⟩ := hv
        refine g_if_ne (pc' := 38) (tgt := 42) C dX4_see_35 rfl (by decide) (fun c => ?_) (fun c => ?_)
        · have hv := hv1 c
          refine g_aload_n (pc' := 43) C dX4_see_42 rfl rfl rfl ?_
          refine g_iload_n (pc' := 44) C dX4_see_43 rfl rfl rfl ?_
          refine csI (pc' := 47) C (run_VI (rest := [.ref (bd 0)]) C lk_X4_45 (mtX4_isLeaf hv) ⟨by decide, by decide⟩ rfl rfl rfl rfl (Nat.le_of_ble_eq_true rfl) ⟨Nat.zero_le _, Nat.zero_le _⟩ dX4_see_44) rfl (fun r44 u44 hv => ?_)
          obtain ⟨hv1, hv2⟩ := hv
          refine g_if_ne (pc' := 50) (tgt := 54) C dX4_see_47 rfl (by decide) (fun c => ?_) (fun c => ?_)
          · have hv := hv1 c
            refine g_iconst (pc' := 55) (v := (0 : Int32)) C dX4_see_54 rfl (by decide) ?_
            exact wvX4_see_J55 C RT  hv
          · have hv := hv2 c
            refine g_iconst (pc' := 51) (v := (3 : Int32)) C dX4_see_50 rfl (by decide) ?_
            refine g_goto (tgt := 55) C dX4_see_51 (by decide) ?_
            exact wvX4_see_J55 C RT  hv
        · have hv := hv2 c
          refine g_iconst (pc' := 39) (v := (2 : Int32)) C dX4_see_38 rfl (by decide) ?_
          refine g_goto (tgt := 55) C dX4_see_39 (by decide) ?_
          exact wvX4_see_J55 C RT  hv
      · have hv := hv2 c
        exact wvX4_see_J25 C RT  hv)
def vX4_closeMonth_J35 (msn : Int32) (thr : Int32) (s0 : Int32) (s1 : Int32) (Q : Int32 → (Int32 × Int32) → Prop) : Prop := ((¬ thr = (0 : Int32) → (Q (0 : Int32) ((s1 + s0), thr))) ∧ (thr = (0 : Int32) → (Q (s1 + s0) ((s1 + s0), thr))))
set_option maxHeartbeats 4000000 in
set_option maxRecDepth 100000 in
theorem wvX4_closeMonth_J35 {l : Launch} {γ : Gm} {κ : Kx} {bd : Nat → Nat} {pl : Int32} {msn : Int32} {thr : Int32} {mpar : Ar} {mcel : Ar} {mhel : Ar} {mclo : Ar} {msea : Ar} {mwei : Ar} {msha : Ar} {mmon : Ar} {s0 : Int32} {s1 : Int32} {Q : Int32 → (Int32 × Int32) → Prop} (C : Ok γ κ cX4_closeMonth 1 RX4 0 0) (RT : RtI l γ κ cX4_closeMonth .int 0 0 (fun (r : Int32) (u : Int32 × Int32) => Q r u) (fun u => wN γ bd pl u.1 u.2 mpar mcel mhel mclo msea mwei msha mmon))  (hv : vX4_closeMonth_J35 msn thr s0 s1 Q) : G l γ κ (wN γ bd pl msn thr mpar mcel mhel mclo msea mwei msha mmon) [(0, .ref (bd 0))] 0 0 [.int s0, .int s1, .ref (bd 0)] 35 := by
  refine g_iadd (pc' := 36) C dX4_closeMonth_35 rfl ?_
  refine pf_X4_101 (pc' := 39) (ws' := wN γ bd pl (s1 + s0) thr mpar mcel mhel mclo msea mwei msha mmon) C dX4_closeMonth_36 rfl 0 rfl rfl rfl (Nat.le_of_ble_eq_true rfl) rfl ?_
  refine g_aload_n (pc' := 40) C dX4_closeMonth_39 rfl rfl rfl ?_
  refine gf_X4_38 (pc' := 43) C dX4_closeMonth_40 rfl 0 rfl rfl ?_
  obtain ⟨hv1, hv2⟩ := hv
  refine g_if_ne (pc' := 46) (tgt := 53) C dX4_closeMonth_43 rfl (by decide) (fun c => ?_) (fun c => ?_)
  · have hv := hv1 c
    refine g_iconst (pc' := 54) (v := (0 : Int32)) C dX4_closeMonth_53 rfl (by decide) ?_
    exact RT (0 : Int32) ((s1 + s0), thr) _ _ _ _ dX4_closeMonth_54 rfl (by decide) (by decide) hv
  · have hv := hv2 c
    refine g_aload_n (pc' := 47) C dX4_closeMonth_46 rfl rfl rfl ?_
    refine gf_X4_101 (pc' := 50) C dX4_closeMonth_47 rfl 0 rfl rfl ?_
    refine g_goto (tgt := 54) C dX4_closeMonth_50 (by decide) ?_
    exact RT (s1 + s0) ((s1 + s0), thr) _ _ _ _ dX4_closeMonth_54 rfl (by decide) (by decide) hv
def vX4_closeMonth_J15 (msn : Int32) (thr : Int32) (s0 : Int32) (Q : Int32 → (Int32 × Int32) → Prop) : Prop := ((¬ s0 = (0 : Int32) → (vX4_closeMonth_J35 msn s0 (0 : Int32) msn Q)) ∧ (s0 = (0 : Int32) → (vX4_closeMonth_J35 msn s0 (1 : Int32) msn Q)))
set_option maxHeartbeats 4000000 in
set_option maxRecDepth 100000 in
theorem wvX4_closeMonth_J15 {l : Launch} {γ : Gm} {κ : Kx} {bd : Nat → Nat} {pl : Int32} {msn : Int32} {thr : Int32} {mpar : Ar} {mcel : Ar} {mhel : Ar} {mclo : Ar} {msea : Ar} {mwei : Ar} {msha : Ar} {mmon : Ar} {s0 : Int32} {Q : Int32 → (Int32 × Int32) → Prop} (C : Ok γ κ cX4_closeMonth 1 RX4 0 0) (RT : RtI l γ κ cX4_closeMonth .int 0 0 (fun (r : Int32) (u : Int32 × Int32) => Q r u) (fun u => wN γ bd pl u.1 u.2 mpar mcel mhel mclo msea mwei msha mmon))  (hv : vX4_closeMonth_J15 msn thr s0 Q) : G l γ κ (wN γ bd pl msn thr mpar mcel mhel mclo msea mwei msha mmon) [(0, .ref (bd 0))] 0 0 [.int s0, .ref (bd 0)] 15 := by
  refine pf_X4_38 (pc' := 18) (ws' := wN γ bd pl msn s0 mpar mcel mhel mclo msea mwei msha mmon) C dX4_closeMonth_15 rfl 0 rfl rfl rfl (Nat.le_of_ble_eq_true rfl) rfl ?_
  refine g_aload_n (pc' := 19) C dX4_closeMonth_18 rfl rfl rfl ?_
  refine g_dup (pc' := 20) C dX4_closeMonth_19 rfl rfl ?_
  refine gf_X4_101 (pc' := 23) C dX4_closeMonth_20 rfl 0 rfl rfl ?_
  refine g_aload_n (pc' := 24) C dX4_closeMonth_23 rfl rfl rfl ?_
  refine gf_X4_38 (pc' := 27) C dX4_closeMonth_24 rfl 0 rfl rfl ?_
  obtain ⟨hv1, hv2⟩ := hv
  refine g_if_ne (pc' := 30) (tgt := 34) C dX4_closeMonth_27 rfl (by decide) (fun c => ?_) (fun c => ?_)
  · have hv := hv1 c
    refine g_iconst (pc' := 35) (v := (0 : Int32)) C dX4_closeMonth_34 rfl (by decide) ?_
    exact wvX4_closeMonth_J35 C RT  hv
  · have hv := hv2 c
    refine g_iconst (pc' := 31) (v := (1 : Int32)) C dX4_closeMonth_30 rfl (by decide) ?_
    refine g_goto (tgt := 35) C dX4_closeMonth_31 (by decide) ?_
    exact wvX4_closeMonth_J35 C RT  hv
def vX4_closeMonth (msn : Int32) (thr : Int32) (Q : Int32 → (Int32 × Int32) → Prop) : Prop := ((¬ msn = (12 : Int32) → (vX4_closeMonth_J15 msn thr (0 : Int32) Q)) ∧ (msn = (12 : Int32) → (vX4_closeMonth_J15 msn thr (1 : Int32) Q)))
set_option maxHeartbeats 4000000 in
set_option maxRecDepth 100000 in
theorem mtX4_closeMonth {l : Launch} {γ : Gm} {bd : Nat → Nat} {pl : Int32} {msn : Int32} {thr : Int32} {mpar : Ar} {mcel : Ar} {mhel : Ar} {mclo : Ar} {msea : Ar} {mwei : Ar} {msha : Ar} {mmon : Ar} {Q : Int32 → (Int32 × Int32) → Prop} (hv : vX4_closeMonth msn thr Q) : CtI l γ yX4_closeMonth cX4_closeMonth 1 .int 0 0 0 0 [.ref (bd 0)] (wN γ bd pl msn thr mpar mcel mhel mclo msea mwei msha mmon) (fun (r : Int32) (u : Int32 × Int32) => Q r u) (fun u => wN γ bd pl u.1 u.2 mpar mcel mhel mclo msea mwei msha mmon) := startI (by decide +kernel) (Nat.le_of_ble_eq_true rfl) (fun κ C RT hR hnm => by
  show G l γ κ (wN γ bd pl msn thr mpar mcel mhel mclo msea mwei msha mmon) [(0, .ref (bd 0))] 0 0 [] 0
  refine g_aload_n (pc' := 1) C dX4_closeMonth_0 rfl rfl rfl ?_
  refine g_aload_n (pc' := 2) C dX4_closeMonth_1 rfl rfl rfl ?_
  refine gf_X4_101 (pc' := 5) C dX4_closeMonth_2 rfl 0 rfl rfl ?_
  refine g_bipush (pc' := 7) (v := (12 : Int32)) C dX4_closeMonth_5 rfl (by decide) ?_
  obtain ⟨hv1, hv2⟩ := hv
  refine g_icmp_ne (pc' := 10) (tgt := 14) C dX4_closeMonth_7 rfl (by decide) (fun c => ?_) (fun c => ?_)
  · have hv := hv1 c
    refine g_iconst (pc' := 15) (v := (0 : Int32)) C dX4_closeMonth_14 rfl (by decide) ?_
    exact wvX4_closeMonth_J15 C RT  hv
  · have hv := hv2 c
    refine g_iconst (pc' := 11) (v := (1 : Int32)) C dX4_closeMonth_10 rfl (by decide) ?_
    refine g_goto (tgt := 15) C dX4_closeMonth_11 (by decide) ?_
    exact wvX4_closeMonth_J15 C RT  hv)
def vX4_ofLeaf (mcel : Ar) (x1 : Int32) (x2 : Int32) (x3 : Int32) (x4 : Int32) (Q : Int32 → Prop) : Prop := (((3 : Int32) ≤ x3 → (vX4_at x1 x2 (0 : Int32) x4 (fun r28 => (vp_in r28 1440 ∧ (vX4_at x1 x2 (1 : Int32) x4 (fun r41 => (vp_in r41 1440 ∧ (Q ((mcel r28.toNatClampNeg) * (mcel r41.toNatClampNeg)))))))))) ∧ (¬ (3 : Int32) ≤ x3 → (vX4_at x1 x2 x3 x4 (fun r14 => (vp_in r14 1440 ∧ (Q (mcel r14.toNatClampNeg)))))))
set_option maxHeartbeats 4000000 in
set_option maxRecDepth 100000 in
theorem mtX4_ofLeaf {l : Launch} {γ : Gm} {bd : Nat → Nat} {pl : Int32} {msn : Int32} {thr : Int32} {mpar : Ar} {mcel : Ar} {mhel : Ar} {mclo : Ar} {msea : Ar} {mwei : Ar} {msha : Ar} {mmon : Ar} {x1 : Int32} {x2 : Int32} {x3 : Int32} {x4 : Int32} {Q : Int32 → Prop} (hv : vX4_ofLeaf mcel x1 x2 x3 x4 Q) : CtI l γ yX4_ofLeaf cX4_ofLeaf 5 .int 1 23 0 0 [.ref (bd 0), .int x1, .int x2, .int x3, .int x4] (wN γ bd pl msn thr mpar mcel mhel mclo msea mwei msha mmon) (fun (r : Int32) (_ : Unit) => Q r) (fun _ => wN γ bd pl msn thr mpar mcel mhel mclo msea mwei msha mmon) := startI (by decide +kernel) (Nat.le_of_ble_eq_true rfl) (fun κ C RT hR hnm => by
  show G l γ κ (wN γ bd pl msn thr mpar mcel mhel mclo msea mwei msha mmon) [(0, .ref (bd 0)), (1, .int x1), (2, .int x2), (3, .int x3), (4, .int x4)] 0 0 [] 0
  refine g_iload_n (pc' := 1) C dX4_ofLeaf_0 rfl rfl rfl ?_
  refine g_iconst (pc' := 2) (v := (3 : Int32)) C dX4_ofLeaf_1 rfl (by decide) ?_
  obtain ⟨hv1, hv2⟩ := hv
  refine g_icmp_ge (pc' := 5) (tgt := 19) C dX4_ofLeaf_2 rfl (by decide) (fun c => ?_) (fun c => ?_)
  · have hv := hv1 c
    refine g_aload_n (pc' := 20) C dX4_ofLeaf_19 rfl rfl rfl ?_
    refine gf_X4_17 (pc' := 23) C dX4_ofLeaf_20 rfl 0 rfl rfl ?_
    refine g_iload_n (pc' := 24) C dX4_ofLeaf_23 rfl rfl rfl ?_
    refine g_iload_n (pc' := 25) C dX4_ofLeaf_24 rfl rfl rfl ?_
    refine g_iconst (pc' := 26) (v := (0 : Int32)) C dX4_ofLeaf_25 rfl (by decide) ?_
    refine g_iload (pc' := 28) C dX4_ofLeaf_26 rfl rfl ?_
    refine cnI (pc' := 31) C (run_SI (rest := [.ref (bd 2)]) C lk_X4_53 (mtX4_at hv) ⟨by decide, by decide⟩ rfl rfl (Nat.le_of_ble_eq_true rfl) ⟨Nat.zero_le _, Nat.zero_le _⟩ dX4_ofLeaf_28) rfl (fun r28 u28 hv => ?_)
    obtain ⟨hi, hv⟩ := hv
    refine g_iald (pc' := 32) C dX4_ofLeaf_31 rfl 2 rfl hi ?_
    refine g_aload_n (pc' := 33) C dX4_ofLeaf_32 rfl rfl rfl ?_
    refine gf_X4_17 (pc' := 36) C dX4_ofLeaf_33 rfl 0 rfl rfl ?_
    refine g_iload_n (pc' := 37) C dX4_ofLeaf_36 rfl rfl rfl ?_
    refine g_iload_n (pc' := 38) C dX4_ofLeaf_37 rfl rfl rfl ?_
    refine g_iconst (pc' := 39) (v := (1 : Int32)) C dX4_ofLeaf_38 rfl (by decide) ?_
    refine g_iload (pc' := 41) C dX4_ofLeaf_39 rfl rfl ?_
    refine cnI (pc' := 44) C (run_SI (rest := [.ref (bd 2), .int (mcel r28.toNatClampNeg)]) C lk_X4_53 (mtX4_at hv) ⟨by decide, by decide⟩ rfl rfl (Nat.le_of_ble_eq_true rfl) ⟨Nat.zero_le _, Nat.zero_le _⟩ dX4_ofLeaf_41) rfl (fun r41 u41 hv => ?_)
    obtain ⟨hi, hv⟩ := hv
    refine g_iald (pc' := 45) C dX4_ofLeaf_44 rfl 2 rfl hi ?_
    refine g_imul (pc' := 46) C dX4_ofLeaf_45 rfl ?_
    exact RT ((mcel r28.toNatClampNeg) * (mcel r41.toNatClampNeg)) () _ _ _ _ dX4_ofLeaf_46 rfl (by decide) (by decide) hv
  · have hv := hv2 c
    refine g_aload_n (pc' := 6) C dX4_ofLeaf_5 rfl rfl rfl ?_
    refine gf_X4_17 (pc' := 9) C dX4_ofLeaf_6 rfl 0 rfl rfl ?_
    refine g_iload_n (pc' := 10) C dX4_ofLeaf_9 rfl rfl rfl ?_
    refine g_iload_n (pc' := 11) C dX4_ofLeaf_10 rfl rfl rfl ?_
    refine g_iload_n (pc' := 12) C dX4_ofLeaf_11 rfl rfl rfl ?_
    refine g_iload (pc' := 14) C dX4_ofLeaf_12 rfl rfl ?_
    refine cnI (pc' := 17) C (run_SI (rest := [.ref (bd 2)]) C lk_X4_53 (mtX4_at hv) ⟨by decide, by decide⟩ rfl rfl (Nat.le_of_ble_eq_true rfl) ⟨Nat.zero_le _, Nat.zero_le _⟩ dX4_ofLeaf_14) rfl (fun r14 u14 hv => ?_)
    obtain ⟨hi, hv⟩ := hv
    refine g_iald (pc' := 18) C dX4_ofLeaf_17 rfl 2 rfl hi ?_
    exact RT (mcel r14.toNatClampNeg) () _ _ _ _ dX4_ofLeaf_18 rfl (by decide) (by decide) hv)
def vX4_sumOf_L6 (pl : Int32) (mpar : Ar) (mcel : Ar) (x1 : Int32) (x2 : Int32) (x3 : Int32) (x4 : Int32) (Q : Int32 → Prop) : Nat → Int32 → Int32 → Prop
  | 0, _, _ => False
  | n + 1, x5, x6 => ((pl ≤ x6 → (Q x5)) ∧ (¬ pl ≤ x6 → (vX4_isLeafOf pl mpar x6 x2 (fun r21 => ((r21 = (0 : Int32) → (vX4_sumOf_L6 pl mpar mcel x1 x2 x3 x4 Q n (x5 + (0 : Int32)) (x6 + (1 : Int32)))) ∧ (¬ r21 = (0 : Int32) → (vX4_ofLeaf mcel x1 x6 x3 x4 (fun r34 => (vX4_sumOf_L6 pl mpar mcel x1 x2 x3 x4 Q n (x5 + r34) (x6 + (1 : Int32)))))))))))
set_option maxHeartbeats 4000000 in
set_option maxRecDepth 100000 in
theorem wvX4_sumOf_L6 {l : Launch} {γ : Gm} {κ : Kx} {bd : Nat → Nat} {pl : Int32} {msn : Int32} {thr : Int32} {mpar : Ar} {mcel : Ar} {mhel : Ar} {mclo : Ar} {msea : Ar} {mwei : Ar} {msha : Ar} {mmon : Ar} {x1 : Int32} {x2 : Int32} {x3 : Int32} {x4 : Int32} {Q : Int32 → Prop} (C : Ok γ κ cX4_sumOf 7 RX4 2 47) (RT : RtI l γ κ cX4_sumOf .int 0 0 (fun (r : Int32) (_ : Unit) => Q r) (fun _ => wN γ bd pl msn thr mpar mcel mhel mclo msea mwei msha mmon))  : ∀ (n : Nat) (x5 : Int32) (x6 : Int32), vX4_sumOf_L6 pl mpar mcel x1 x2 x3 x4 Q n x5 x6 → G l γ κ (wN γ bd pl msn thr mpar mcel mhel mclo msea mwei msha mmon) [(0, .ref (bd 0)), (1, .int x1), (2, .int x2), (3, .int x3), (4, .int x4), (5, .int x5), (6, .int x6)] 0 0 [] 6 := by
  intro n
  induction n with
  | zero => intro x5 x6 hv; exact False.elim hv
  | succ n ih =>
    intro x5 x6 hv
    refine g_iload (pc' := 8) C dX4_sumOf_6 rfl rfl ?_
    refine g_aload_n (pc' := 9) C dX4_sumOf_8 rfl rfl rfl ?_
    refine gf_X4_7 (pc' := 12) C dX4_sumOf_9 rfl 0 rfl rfl ?_
    obtain ⟨hv1, hv2⟩ := hv
    refine g_icmp_ge (pc' := 15) (tgt := 50) C dX4_sumOf_12 rfl (by decide) (fun c => ?_) (fun c => ?_)
    · have hv := hv1 c
      refine g_iload (pc' := 52) C dX4_sumOf_50 rfl rfl ?_
      exact RT x5 () _ _ _ _ dX4_sumOf_52 rfl (by decide) (by decide) hv
    · have hv := hv2 c
      refine g_iload (pc' := 17) C dX4_sumOf_15 rfl rfl ?_
      refine g_aload_n (pc' := 18) C dX4_sumOf_17 rfl rfl rfl ?_
      refine g_iload (pc' := 20) C dX4_sumOf_18 rfl rfl ?_
      refine g_iload_n (pc' := 21) C dX4_sumOf_20 rfl rfl rfl ?_
      refine csI (pc' := 24) C (run_VI (rest := [.int x5]) C lk_X4_63 (mtX4_isLeafOf hv) ⟨by decide, by decide⟩ rfl rfl rfl rfl (Nat.le_of_ble_eq_true rfl) ⟨Nat.zero_le _, Nat.zero_le _⟩ dX4_sumOf_21) rfl (fun r21 u21 hv => ?_)
      obtain ⟨hv1, hv2⟩ := hv
      refine g_if_eq (pc' := 27) (tgt := 40) C dX4_sumOf_24 rfl (by decide) (fun c => ?_) (fun c => ?_)
      · have hv := hv1 c
        refine g_iconst (pc' := 41) (v := (0 : Int32)) C dX4_sumOf_40 rfl (by decide) ?_
        refine g_iadd (pc' := 42) C dX4_sumOf_41 rfl ?_
        refine g_istore (pc' := 44) (lv' := [(5, .int (x5 + (0 : Int32))), (0, .ref (bd 0)), (1, .int x1), (2, .int x2), (3, .int x3), (4, .int x4), (6, .int x6)]) C dX4_sumOf_42 rfl (by decide) rfl ?_
        refine g_iinc (pc' := 47) (v := (x6 + (1 : Int32))) (lv' := [(6, .int (x6 + (1 : Int32))), (5, .int (x5 + (0 : Int32))), (0, .ref (bd 0)), (1, .int x1), (2, .int x2), (3, .int x3), (4, .int x4)]) C dX4_sumOf_44 rfl rfl rfl (by decide) rfl ?_
        refine g_goto (tgt := 6) C dX4_sumOf_47 (by decide) ?_
        refine g_sub (lv' := [(0, .ref (bd 0)), (1, .int x1), (2, .int x2), (3, .int x3), (4, .int x4), (5, .int (x5 + (0 : Int32))), (6, .int (x6 + (1 : Int32)))]) [2, 3, 4, 5, 6, 1, 0] rfl ?_
        exact ih _ _ hv
      · have hv := hv2 c
        refine g_aload_n (pc' := 28) C dX4_sumOf_27 rfl rfl rfl ?_
        refine g_iload_n (pc' := 29) C dX4_sumOf_28 rfl rfl rfl ?_
        refine g_iload (pc' := 31) C dX4_sumOf_29 rfl rfl ?_
        refine g_iload_n (pc' := 32) C dX4_sumOf_31 rfl rfl rfl ?_
        refine g_iload (pc' := 34) C dX4_sumOf_32 rfl rfl ?_
        refine csI (pc' := 37) C (run_VI (rest := [.int x5]) C lk_X4_104 (mtX4_ofLeaf hv) ⟨by decide, by decide⟩ rfl rfl rfl rfl (Nat.le_of_ble_eq_true rfl) ⟨Nat.zero_le _, Nat.zero_le _⟩ dX4_sumOf_34) rfl (fun r34 u34 hv => ?_)
        refine g_goto (tgt := 41) C dX4_sumOf_37 (by decide) ?_
        refine g_iadd (pc' := 42) C dX4_sumOf_41 rfl ?_
        refine g_istore (pc' := 44) (lv' := [(5, .int (x5 + r34)), (0, .ref (bd 0)), (1, .int x1), (2, .int x2), (3, .int x3), (4, .int x4), (6, .int x6)]) C dX4_sumOf_42 rfl (by decide) rfl ?_
        refine g_iinc (pc' := 47) (v := (x6 + (1 : Int32))) (lv' := [(6, .int (x6 + (1 : Int32))), (5, .int (x5 + r34)), (0, .ref (bd 0)), (1, .int x1), (2, .int x2), (3, .int x3), (4, .int x4)]) C dX4_sumOf_44 rfl rfl rfl (by decide) rfl ?_
        refine g_goto (tgt := 6) C dX4_sumOf_47 (by decide) ?_
        refine g_sub (lv' := [(0, .ref (bd 0)), (1, .int x1), (2, .int x2), (3, .int x3), (4, .int x4), (5, .int (x5 + r34)), (6, .int (x6 + (1 : Int32)))]) [2, 3, 4, 5, 6, 1, 0] rfl ?_
        exact ih _ _ hv
def vX4_sumOf (pl : Int32) (mpar : Ar) (mcel : Ar) (x1 : Int32) (x2 : Int32) (x3 : Int32) (x4 : Int32) (Q : Int32 → Prop) : Prop := (∃ n6 : Nat, vX4_sumOf_L6 pl mpar mcel x1 x2 x3 x4 Q n6 (0 : Int32) (0 : Int32))
set_option maxHeartbeats 4000000 in
set_option maxRecDepth 100000 in
theorem mtX4_sumOf {l : Launch} {γ : Gm} {bd : Nat → Nat} {pl : Int32} {msn : Int32} {thr : Int32} {mpar : Ar} {mcel : Ar} {mhel : Ar} {mclo : Ar} {msea : Ar} {mwei : Ar} {msha : Ar} {mmon : Ar} {x1 : Int32} {x2 : Int32} {x3 : Int32} {x4 : Int32} {Q : Int32 → Prop} (hv : vX4_sumOf pl mpar mcel x1 x2 x3 x4 Q) : CtI l γ yX4_sumOf cX4_sumOf 7 .int 2 47 0 0 [.ref (bd 0), .int x1, .int x2, .int x3, .int x4] (wN γ bd pl msn thr mpar mcel mhel mclo msea mwei msha mmon) (fun (r : Int32) (_ : Unit) => Q r) (fun _ => wN γ bd pl msn thr mpar mcel mhel mclo msea mwei msha mmon) := startI (by decide +kernel) (Nat.le_of_ble_eq_true rfl) (fun κ C RT hR hnm => by
  show G l γ κ (wN γ bd pl msn thr mpar mcel mhel mclo msea mwei msha mmon) [(0, .ref (bd 0)), (1, .int x1), (2, .int x2), (3, .int x3), (4, .int x4)] 0 0 [] 0
  refine g_iconst (pc' := 1) (v := (0 : Int32)) C dX4_sumOf_0 rfl (by decide) ?_
  refine g_istore (pc' := 3) (lv' := [(5, .int (0 : Int32)), (0, .ref (bd 0)), (1, .int x1), (2, .int x2), (3, .int x3), (4, .int x4)]) C dX4_sumOf_1 rfl (by decide) rfl ?_
  refine g_iconst (pc' := 4) (v := (0 : Int32)) C dX4_sumOf_3 rfl (by decide) ?_
  refine g_istore (pc' := 6) (lv' := [(6, .int (0 : Int32)), (5, .int (0 : Int32)), (0, .ref (bd 0)), (1, .int x1), (2, .int x2), (3, .int x3), (4, .int x4)]) C dX4_sumOf_4 rfl (by decide) rfl ?_
  refine g_sub (lv' := [(0, .ref (bd 0)), (1, .int x1), (2, .int x2), (3, .int x3), (4, .int x4), (5, .int (0 : Int32)), (6, .int (0 : Int32))]) [2, 3, 4, 5, 6, 1, 0] rfl ?_
  obtain ⟨n6, hv⟩ := hv
  exact wvX4_sumOf_L6 C RT  n6 _ _ hv)
def vX4_isAsked_J38 (pl : Int32) (thr : Int32) (s0 : Int32) (Q : Int32 → (Int32) → Prop) : Prop := ((¬ s0 = (0 : Int32) → (Q (0 : Int32) s0)) ∧ (s0 = (0 : Int32) → (Q (1 : Int32) s0)))
set_option maxHeartbeats 4000000 in
set_option maxRecDepth 100000 in
theorem wvX4_isAsked_J38 {l : Launch} {γ : Gm} {κ : Kx} {bd : Nat → Nat} {pl : Int32} {msn : Int32} {thr : Int32} {mpar : Ar} {mcel : Ar} {mhel : Ar} {mclo : Ar} {msea : Ar} {mwei : Ar} {msha : Ar} {mmon : Ar} {s0 : Int32} {Q : Int32 → (Int32) → Prop} (C : Ok γ κ cX4_isAsked 5 RX4 2 43) (RT : RtI l γ κ cX4_isAsked .boolean 0 0 (fun (r : Int32) (u : Int32) => Q r u) (fun u => wN γ bd pl msn u mpar mcel mhel mclo msea mwei msha mmon))  (hv : vX4_isAsked_J38 pl thr s0 Q) : G l γ κ (wN γ bd pl msn thr mpar mcel mhel mclo msea mwei msha mmon) [(0, .ref (bd 0))] 0 0 [.int s0, .ref (bd 0)] 38 := by
  refine pf_X4_38 (pc' := 41) (ws' := wN γ bd pl msn s0 mpar mcel mhel mclo msea mwei msha mmon) C dX4_isAsked_38 rfl 0 rfl rfl rfl (Nat.le_of_ble_eq_true rfl) rfl ?_
  refine g_aload_n (pc' := 42) C dX4_isAsked_41 rfl rfl rfl ?_
  refine gf_X4_38 (pc' := 45) C dX4_isAsked_42 rfl 0 rfl rfl ?_
  obtain ⟨hv1, hv2⟩ := hv
  refine g_if_ne (pc' := 48) (tgt := 52) C dX4_isAsked_45 rfl (by decide) (fun c => ?_) (fun c => ?_)
  · have hv := hv1 c
    refine g_iconst (pc' := 53) (v := (0 : Int32)) C dX4_isAsked_52 rfl (by decide) ?_
    exact RT (0 : Int32) s0 _ _ _ _ dX4_isAsked_53 rfl (by decide) (by decide) hv
  · have hv := hv2 c
    refine g_iconst (pc' := 49) (v := (1 : Int32)) C dX4_isAsked_48 rfl (by decide) ?_
    refine g_goto (tgt := 53) C dX4_isAsked_49 (by decide) ?_
    exact RT (1 : Int32) s0 _ _ _ _ dX4_isAsked_53 rfl (by decide) (by decide) hv
def vX4_isAsked_J37 (pl : Int32) (thr : Int32) (Q : Int32 → (Int32) → Prop) : Prop := (vX4_isAsked_J38 pl thr (1 : Int32) Q)
set_option maxHeartbeats 4000000 in
set_option maxRecDepth 100000 in
theorem wvX4_isAsked_J37 {l : Launch} {γ : Gm} {κ : Kx} {bd : Nat → Nat} {pl : Int32} {msn : Int32} {thr : Int32} {mpar : Ar} {mcel : Ar} {mhel : Ar} {mclo : Ar} {msea : Ar} {mwei : Ar} {msha : Ar} {mmon : Ar} {Q : Int32 → (Int32) → Prop} (C : Ok γ κ cX4_isAsked 5 RX4 2 43) (RT : RtI l γ κ cX4_isAsked .boolean 0 0 (fun (r : Int32) (u : Int32) => Q r u) (fun u => wN γ bd pl msn u mpar mcel mhel mclo msea mwei msha mmon))  (hv : vX4_isAsked_J37 pl thr Q) : G l γ κ (wN γ bd pl msn thr mpar mcel mhel mclo msea mwei msha mmon) [(0, .ref (bd 0))] 0 0 [.ref (bd 0)] 37 := by
  refine g_iconst (pc' := 38) (v := (1 : Int32)) C dX4_isAsked_37 rfl (by decide) ?_
  exact wvX4_isAsked_J38 C RT  hv
def vX4_isAsked (pl : Int32) (thr : Int32) (x1 : Int32) (x2 : Int32) (x3 : Int32) (x4 : Int32) (Q : Int32 → (Int32) → Prop) : Prop := (vX4_isVersion x1 (fun r2 => ((r2 = (0 : Int32) → (vX4_isAsked_J37 pl thr Q)) ∧ (¬ r2 = (0 : Int32) → (vX4_isPlace pl x2 (fun r10 => ((r10 = (0 : Int32) → (vX4_isAsked_J37 pl thr Q)) ∧ (¬ r10 = (0 : Int32) → (vX4_in x3 (0 : Int32) (3 : Int32) (fun r19 => ((r19 = (0 : Int32) → (vX4_isAsked_J37 pl thr Q)) ∧ (¬ r19 = (0 : Int32) → (vX4_isMonth x4 (fun r27 => ((r27 = (0 : Int32) → (vX4_isAsked_J37 pl thr Q)) ∧ (¬ r27 = (0 : Int32) → (vX4_isAsked_J38 pl thr (0 : Int32) Q)))))))))))))))))
set_option maxHeartbeats 4000000 in
set_option maxRecDepth 100000 in
theorem mtX4_isAsked {l : Launch} {γ : Gm} {bd : Nat → Nat} {pl : Int32} {msn : Int32} {thr : Int32} {mpar : Ar} {mcel : Ar} {mhel : Ar} {mclo : Ar} {msea : Ar} {mwei : Ar} {msha : Ar} {mmon : Ar} {x1 : Int32} {x2 : Int32} {x3 : Int32} {x4 : Int32} {Q : Int32 → (Int32) → Prop} (hv : vX4_isAsked pl thr x1 x2 x3 x4 Q) : CtI l γ yX4_isAsked cX4_isAsked 5 .boolean 2 43 0 0 [.ref (bd 0), .int x1, .int x2, .int x3, .int x4] (wN γ bd pl msn thr mpar mcel mhel mclo msea mwei msha mmon) (fun (r : Int32) (u : Int32) => Q r u) (fun u => wN γ bd pl msn u mpar mcel mhel mclo msea mwei msha mmon) := startI (by decide +kernel) (Nat.le_of_ble_eq_true rfl) (fun κ C RT hR hnm => by
  show G l γ κ (wN γ bd pl msn thr mpar mcel mhel mclo msea mwei msha mmon) [(0, .ref (bd 0)), (1, .int x1), (2, .int x2), (3, .int x3), (4, .int x4)] 0 0 [] 0
  refine g_aload_n (pc' := 1) C dX4_isAsked_0 rfl rfl rfl ?_
  refine g_iload_n (pc' := 2) C dX4_isAsked_1 rfl rfl rfl ?_
  refine cnI (pc' := 5) C (run_SI (rest := [.ref (bd 0)]) C lk_X4_67 (mtX4_isVersion hv) ⟨by decide, by decide⟩ rfl rfl (Nat.le_of_ble_eq_true rfl) ⟨Nat.zero_le _, Nat.zero_le _⟩ dX4_isAsked_2) rfl (fun r2 u2 hv => ?_)
  obtain ⟨hv1, hv2⟩ := hv
  refine g_if_eq (pc' := 8) (tgt := 37) C dX4_isAsked_5 rfl (by decide) (fun c => ?_) (fun c => ?_)
  · have hv := hv1 c
    refine g_sub (lv' := [(0, .ref (bd 0))]) [0] rfl ?_
    exact wvX4_isAsked_J37 C RT  hv
  · have hv := hv2 c
    refine g_aload_n (pc' := 9) C dX4_isAsked_8 rfl rfl rfl ?_
    refine g_iload_n (pc' := 10) C dX4_isAsked_9 rfl rfl rfl ?_
    refine csI (pc' := 13) C (run_VI (rest := [.ref (bd 0)]) C lk_X4_57 (mtX4_isPlace hv) ⟨by decide, by decide⟩ rfl rfl rfl rfl (Nat.le_of_ble_eq_true rfl) ⟨Nat.zero_le _, Nat.zero_le _⟩ dX4_isAsked_10) rfl (fun r10 u10 hv => ?_)
    obtain ⟨hv1, hv2⟩ := hv
    refine g_if_eq (pc' := 16) (tgt := 37) C dX4_isAsked_13 rfl (by decide) (fun c => ?_) (fun c => ?_)
    · have hv := hv1 c
      refine g_sub (lv' := [(0, .ref (bd 0))]) [0] rfl ?_
      exact wvX4_isAsked_J37 C RT  hv
    · have hv := hv2 c
      refine g_iload_n (pc' := 17) C dX4_isAsked_16 rfl rfl rfl ?_
      refine g_iconst (pc' := 18) (v := (0 : Int32)) C dX4_isAsked_17 rfl (by decide) ?_
      refine g_iconst (pc' := 19) (v := (3 : Int32)) C dX4_isAsked_18 rfl (by decide) ?_
      refine cnI (pc' := 22) C (run_SI (rest := [.ref (bd 0)]) C lk_X4_41 (mtX4_in hv) ⟨by decide, by decide⟩ rfl rfl (Nat.le_of_ble_eq_true rfl) ⟨Nat.zero_le _, Nat.zero_le _⟩ dX4_isAsked_19) rfl (fun r19 u19 hv => ?_)
      obtain ⟨hv1, hv2⟩ := hv
      refine g_if_eq (pc' := 25) (tgt := 37) C dX4_isAsked_22 rfl (by decide) (fun c => ?_) (fun c => ?_)
      · have hv := hv1 c
        refine g_sub (lv' := [(0, .ref (bd 0))]) [0] rfl ?_
        exact wvX4_isAsked_J37 C RT  hv
      · have hv := hv2 c
        refine g_iload (pc' := 27) C dX4_isAsked_25 rfl rfl ?_
        refine cnI (pc' := 30) C (run_SI (rest := [.ref (bd 0)]) C lk_X4_70 (mtX4_isMonth hv) ⟨by decide, by decide⟩ rfl rfl (Nat.le_of_ble_eq_true rfl) ⟨Nat.zero_le _, Nat.zero_le _⟩ dX4_isAsked_27) rfl (fun r27 u27 hv => ?_)
        obtain ⟨hv1, hv2⟩ := hv
        refine g_if_eq (pc' := 33) (tgt := 37) C dX4_isAsked_30 rfl (by decide) (fun c => ?_) (fun c => ?_)
        · have hv := hv1 c
          refine g_sub (lv' := [(0, .ref (bd 0))]) [0] rfl ?_
          exact wvX4_isAsked_J37 C RT  hv
        · have hv := hv2 c
          refine g_iconst (pc' := 34) (v := (0 : Int32)) C dX4_isAsked_33 rfl (by decide) ?_
          refine g_goto (tgt := 38) C dX4_isAsked_34 (by decide) ?_
          refine g_sub (lv' := [(0, .ref (bd 0))]) [0] rfl ?_
          exact wvX4_isAsked_J38 C RT  hv)
def vX4_amount (pl : Int32) (thr : Int32) (mpar : Ar) (mcel : Ar) (x1 : Int32) (x2 : Int32) (x3 : Int32) (x4 : Int32) (Q : Int32 → (Int32) → Prop) : Prop := (vX4_isAsked pl thr x1 x2 x3 x4 (fun r6 u6 => ((r6 = (0 : Int32) → (Q (0 : Int32) u6)) ∧ (¬ r6 = (0 : Int32) → (vX4_sumOf pl mpar mcel x1 x2 x3 x4 (fun r18 => (Q r18 u6)))))))
set_option maxHeartbeats 4000000 in
set_option maxRecDepth 100000 in
theorem mtX4_amount {l : Launch} {γ : Gm} {bd : Nat → Nat} {pl : Int32} {msn : Int32} {thr : Int32} {mpar : Ar} {mcel : Ar} {mhel : Ar} {mclo : Ar} {msea : Ar} {mwei : Ar} {msha : Ar} {mmon : Ar} {x1 : Int32} {x2 : Int32} {x3 : Int32} {x4 : Int32} {Q : Int32 → (Int32) → Prop} (hv : vX4_amount pl thr mpar mcel x1 x2 x3 x4 Q) : CtI l γ yX4_amount cX4_amount 5 .int 3 73 0 0 [.ref (bd 0), .int x1, .int x2, .int x3, .int x4] (wN γ bd pl msn thr mpar mcel mhel mclo msea mwei msha mmon) (fun (r : Int32) (u : Int32) => Q r u) (fun u => wN γ bd pl msn u mpar mcel mhel mclo msea mwei msha mmon) := startI (by decide +kernel) (Nat.le_of_ble_eq_true rfl) (fun κ C RT hR hnm => by
  show G l γ κ (wN γ bd pl msn thr mpar mcel mhel mclo msea mwei msha mmon) [(0, .ref (bd 0)), (1, .int x1), (2, .int x2), (3, .int x3), (4, .int x4)] 0 0 [] 0
  refine g_aload_n (pc' := 1) C dX4_amount_0 rfl rfl rfl ?_
  refine g_iload_n (pc' := 2) C dX4_amount_1 rfl rfl rfl ?_
  refine g_iload_n (pc' := 3) C dX4_amount_2 rfl rfl rfl ?_
  refine g_iload_n (pc' := 4) C dX4_amount_3 rfl rfl rfl ?_
  refine g_iload (pc' := 6) C dX4_amount_4 rfl rfl ?_
  refine csI (pc' := 9) C (run_VI (rest := []) C lk_X4_107 (mtX4_isAsked hv) ⟨by decide, by decide⟩ rfl rfl rfl rfl (Nat.le_of_ble_eq_true rfl) ⟨Nat.zero_le _, Nat.zero_le _⟩ dX4_amount_6) rfl (fun r6 u6 hv => ?_)
  obtain ⟨hv1, hv2⟩ := hv
  refine g_if_eq (pc' := 12) (tgt := 24) C dX4_amount_9 rfl (by decide) (fun c => ?_) (fun c => ?_)
  · have hv := hv1 c
    refine g_iconst (pc' := 25) (v := (0 : Int32)) C dX4_amount_24 rfl (by decide) ?_
    exact RT (0 : Int32) u6 _ _ _ _ dX4_amount_25 rfl (by decide) (by decide) hv
  · have hv := hv2 c
    refine g_aload_n (pc' := 13) C dX4_amount_12 rfl rfl rfl ?_
    refine g_iload_n (pc' := 14) C dX4_amount_13 rfl rfl rfl ?_
    refine g_iload_n (pc' := 15) C dX4_amount_14 rfl rfl rfl ?_
    refine g_iload_n (pc' := 16) C dX4_amount_15 rfl rfl rfl ?_
    refine g_iload (pc' := 18) C dX4_amount_16 rfl rfl ?_
    refine csI (pc' := 21) C (run_VI (rest := []) C lk_X4_111 (mtX4_sumOf hv) ⟨by decide, by decide⟩ rfl rfl rfl rfl (Nat.le_of_ble_eq_true rfl) ⟨Nat.zero_le _, Nat.zero_le _⟩ dX4_amount_18) rfl (fun r18 u18 hv => ?_)
    refine g_goto (tgt := 25) C dX4_amount_21 (by decide) ?_
    exact RT r18 u6 _ _ _ _ dX4_amount_25 rfl (by decide) (by decide) hv)
def vX4_outlook_J27 (pl : Int32) (msn : Int32) (thr : Int32) (mpar : Ar) (mcel : Ar) (x2 : Int32) (x3 : Int32) (x4 : Int32) (s0 : Int32) (Q : Int32 → (Int32) → Prop) : Prop := (vX4_sumOf pl mpar mcel s0 x2 x3 x4 (fun r31 => (Q r31 thr)))
set_option maxHeartbeats 4000000 in
set_option maxRecDepth 100000 in
theorem wvX4_outlook_J27 {l : Launch} {γ : Gm} {κ : Kx} {bd : Nat → Nat} {pl : Int32} {msn : Int32} {thr : Int32} {mpar : Ar} {mcel : Ar} {mhel : Ar} {mclo : Ar} {msea : Ar} {mwei : Ar} {msha : Ar} {mmon : Ar} {x2 : Int32} {x3 : Int32} {x4 : Int32} {s0 : Int32} {Q : Int32 → (Int32) → Prop} (C : Ok γ κ cX4_outlook 5 RX4 3 73) (RT : RtI l γ κ cX4_outlook .int 0 0 (fun (r : Int32) (u : Int32) => Q r u) (fun u => wN γ bd pl msn u mpar mcel mhel mclo msea mwei msha mmon))  (hv : vX4_outlook_J27 pl msn thr mpar mcel x2 x3 x4 s0 Q) : G l γ κ (wN γ bd pl msn thr mpar mcel mhel mclo msea mwei msha mmon) [(2, .int x2), (3, .int x3), (4, .int x4)] 0 0 [.int s0, .ref (bd 0)] 27 := by
  refine g_iload_n (pc' := 28) C dX4_outlook_27 rfl rfl rfl ?_
  refine g_iload_n (pc' := 29) C dX4_outlook_28 rfl rfl rfl ?_
  refine g_iload (pc' := 31) C dX4_outlook_29 rfl rfl ?_
  refine csI (pc' := 34) C (run_VI (rest := []) C lk_X4_111 (mtX4_sumOf hv) ⟨by decide, by decide⟩ rfl rfl rfl rfl (Nat.le_of_ble_eq_true rfl) ⟨Nat.zero_le _, Nat.zero_le _⟩ dX4_outlook_31) rfl (fun r31 u31 hv => ?_)
  refine g_goto (tgt := 38) C dX4_outlook_34 (by decide) ?_
  exact RT r31 thr _ _ _ _ dX4_outlook_38 rfl (by decide) (by decide) hv
def vX4_outlook (pl : Int32) (msn : Int32) (thr : Int32) (mpar : Ar) (mcel : Ar) (x1 : Int32) (x2 : Int32) (x3 : Int32) (x4 : Int32) (Q : Int32 → (Int32) → Prop) : Prop := (vX4_isAsked pl thr x1 x2 x3 x4 (fun r6 u6 => ((r6 = (0 : Int32) → (Q (0 : Int32) u6)) ∧ (¬ r6 = (0 : Int32) → ((msn ≤ x4 → (vX4_outlook_J27 pl msn u6 mpar mcel x2 x3 x4 x1 Q)) ∧ (¬ msn ≤ x4 → (vX4_outlook_J27 pl msn u6 mpar mcel x2 x3 x4 (3 : Int32) Q)))))))
set_option maxHeartbeats 4000000 in
set_option maxRecDepth 100000 in
theorem mtX4_outlook {l : Launch} {γ : Gm} {bd : Nat → Nat} {pl : Int32} {msn : Int32} {thr : Int32} {mpar : Ar} {mcel : Ar} {mhel : Ar} {mclo : Ar} {msea : Ar} {mwei : Ar} {msha : Ar} {mmon : Ar} {x1 : Int32} {x2 : Int32} {x3 : Int32} {x4 : Int32} {Q : Int32 → (Int32) → Prop} (hv : vX4_outlook pl msn thr mpar mcel x1 x2 x3 x4 Q) : CtI l γ yX4_outlook cX4_outlook 5 .int 3 73 0 0 [.ref (bd 0), .int x1, .int x2, .int x3, .int x4] (wN γ bd pl msn thr mpar mcel mhel mclo msea mwei msha mmon) (fun (r : Int32) (u : Int32) => Q r u) (fun u => wN γ bd pl msn u mpar mcel mhel mclo msea mwei msha mmon) := startI (by decide +kernel) (Nat.le_of_ble_eq_true rfl) (fun κ C RT hR hnm => by
  show G l γ κ (wN γ bd pl msn thr mpar mcel mhel mclo msea mwei msha mmon) [(0, .ref (bd 0)), (1, .int x1), (2, .int x2), (3, .int x3), (4, .int x4)] 0 0 [] 0
  refine g_aload_n (pc' := 1) C dX4_outlook_0 rfl rfl rfl ?_
  refine g_iload_n (pc' := 2) C dX4_outlook_1 rfl rfl rfl ?_
  refine g_iload_n (pc' := 3) C dX4_outlook_2 rfl rfl rfl ?_
  refine g_iload_n (pc' := 4) C dX4_outlook_3 rfl rfl rfl ?_
  refine g_iload (pc' := 6) C dX4_outlook_4 rfl rfl ?_
  refine csI (pc' := 9) C (run_VI (rest := []) C lk_X4_107 (mtX4_isAsked hv) ⟨by decide, by decide⟩ rfl rfl rfl rfl (Nat.le_of_ble_eq_true rfl) ⟨Nat.zero_le _, Nat.zero_le _⟩ dX4_outlook_6) rfl (fun r6 u6 hv => ?_)
  obtain ⟨hv1, hv2⟩ := hv
  refine g_if_eq (pc' := 12) (tgt := 37) C dX4_outlook_9 rfl (by decide) (fun c => ?_) (fun c => ?_)
  · have hv := hv1 c
    refine g_iconst (pc' := 38) (v := (0 : Int32)) C dX4_outlook_37 rfl (by decide) ?_
    exact RT (0 : Int32) u6 _ _ _ _ dX4_outlook_38 rfl (by decide) (by decide) hv
  · have hv := hv2 c
    refine g_aload_n (pc' := 13) C dX4_outlook_12 rfl rfl rfl ?_
    refine g_iload (pc' := 15) C dX4_outlook_13 rfl rfl ?_
    refine g_aload_n (pc' := 16) C dX4_outlook_15 rfl rfl rfl ?_
    refine gf_X4_101 (pc' := 19) C dX4_outlook_16 rfl 0 rfl rfl ?_
    obtain ⟨hv1, hv2⟩ := hv
    refine g_icmp_ge (pc' := 22) (tgt := 26) C dX4_outlook_19 rfl (by decide) (fun c => ?_) (fun c => ?_)
    · have hv := hv1 c
      refine g_iload_n (pc' := 27) C dX4_outlook_26 rfl rfl rfl ?_
      refine g_sub (lv' := [(2, .int x2), (3, .int x3), (4, .int x4)]) [2, 3, 4] rfl ?_
      exact wvX4_outlook_J27 C RT  hv
    · have hv := hv2 c
      refine g_iconst (pc' := 23) (v := (3 : Int32)) C dX4_outlook_22 rfl (by decide) ?_
      refine g_goto (tgt := 27) C dX4_outlook_23 (by decide) ?_
      refine g_sub (lv' := [(2, .int x2), (3, .int x3), (4, .int x4)]) [2, 3, 4] rfl ?_
      exact wvX4_outlook_J27 C RT  hv)
def vX4_year_L6 (pl : Int32) (mpar : Ar) (mcel : Ar) (x1 : Int32) (x2 : Int32) (x3 : Int32) (Q : Int32 → (Int32) → Prop) : Nat → Int32 → Int32 → Int32 → Prop
  | 0, _, _, _ => False
  | n + 1, x4, x5, thr => (vX4_isAsked pl thr x1 x2 x3 (0 : Int32) (fun r11 u11 => ((r11 = (0 : Int32) → (Q x4 u11)) ∧ (¬ r11 = (0 : Int32) → (((12 : Int32) ≤ x5 → (Q x4 u11)) ∧ (¬ (12 : Int32) ≤ x5 → (vX4_sumOf pl mpar mcel x1 x2 x3 x5 (fun r32 => (vX4_year_L6 pl mpar mcel x1 x2 x3 Q n (x4 + r32) (x5 + (1 : Int32)) u11)))))))))
set_option maxHeartbeats 4000000 in
set_option maxRecDepth 100000 in
theorem wvX4_year_L6 {l : Launch} {γ : Gm} {κ : Kx} {bd : Nat → Nat} {pl : Int32} {msn : Int32} {mpar : Ar} {mcel : Ar} {mhel : Ar} {mclo : Ar} {msea : Ar} {mwei : Ar} {msha : Ar} {mmon : Ar} {x1 : Int32} {x2 : Int32} {x3 : Int32} {Q : Int32 → (Int32) → Prop} (C : Ok γ κ cX4_year 6 RX4 3 73) (RT : RtI l γ κ cX4_year .int 0 0 (fun (r : Int32) (u : Int32) => Q r u) (fun u => wN γ bd pl msn u mpar mcel mhel mclo msea mwei msha mmon))  : ∀ (n : Nat) (x4 : Int32) (x5 : Int32) (thr : Int32), vX4_year_L6 pl mpar mcel x1 x2 x3 Q n x4 x5 thr → G l γ κ (wN γ bd pl msn thr mpar mcel mhel mclo msea mwei msha mmon) [(0, .ref (bd 0)), (1, .int x1), (2, .int x2), (3, .int x3), (4, .int x4), (5, .int x5)] 0 0 [] 6 := by
  intro n
  induction n with
  | zero => intro x4 x5 thr hv; exact False.elim hv
  | succ n ih =>
    intro x4 x5 thr hv
    refine g_aload_n (pc' := 7) C dX4_year_6 rfl rfl rfl ?_
    refine g_iload_n (pc' := 8) C dX4_year_7 rfl rfl rfl ?_
    refine g_iload_n (pc' := 9) C dX4_year_8 rfl rfl rfl ?_
    refine g_iload_n (pc' := 10) C dX4_year_9 rfl rfl rfl ?_
    refine g_iconst (pc' := 11) (v := (0 : Int32)) C dX4_year_10 rfl (by decide) ?_
    refine csI (pc' := 14) C (run_VI (rest := []) C lk_X4_107 (mtX4_isAsked hv) ⟨by decide, by decide⟩ rfl rfl rfl rfl (Nat.le_of_ble_eq_true rfl) ⟨Nat.zero_le _, Nat.zero_le _⟩ dX4_year_11) rfl (fun r11 u11 hv => ?_)
    obtain ⟨hv1, hv2⟩ := hv
    refine g_if_eq (pc' := 17) (tgt := 44) C dX4_year_14 rfl (by decide) (fun c => ?_) (fun c => ?_)
    · have hv := hv1 c
      refine g_iload (pc' := 46) C dX4_year_44 rfl rfl ?_
      exact RT x4 u11 _ _ _ _ dX4_year_46 rfl (by decide) (by decide) hv
    · have hv := hv2 c
      refine g_iload (pc' := 19) C dX4_year_17 rfl rfl ?_
      refine g_bipush (pc' := 21) (v := (12 : Int32)) C dX4_year_19 rfl (by decide) ?_
      obtain ⟨hv1, hv2⟩ := hv
      refine g_icmp_ge (pc' := 24) (tgt := 44) C dX4_year_21 rfl (by decide) (fun c => ?_) (fun c => ?_)
      · have hv := hv1 c
        refine g_iload (pc' := 46) C dX4_year_44 rfl rfl ?_
        exact RT x4 u11 _ _ _ _ dX4_year_46 rfl (by decide) (by decide) hv
      · have hv := hv2 c
        refine g_iload (pc' := 26) C dX4_year_24 rfl rfl ?_
        refine g_aload_n (pc' := 27) C dX4_year_26 rfl rfl rfl ?_
        refine g_iload_n (pc' := 28) C dX4_year_27 rfl rfl rfl ?_
        refine g_iload_n (pc' := 29) C dX4_year_28 rfl rfl rfl ?_
        refine g_iload_n (pc' := 30) C dX4_year_29 rfl rfl rfl ?_
        refine g_iload (pc' := 32) C dX4_year_30 rfl rfl ?_
        refine csI (pc' := 35) C (run_VI (rest := [.int x4]) C lk_X4_111 (mtX4_sumOf hv) ⟨by decide, by decide⟩ rfl rfl rfl rfl (Nat.le_of_ble_eq_true rfl) ⟨Nat.zero_le _, Nat.zero_le _⟩ dX4_year_32) rfl (fun r32 u32 hv => ?_)
        refine g_iadd (pc' := 36) C dX4_year_35 rfl ?_
        refine g_istore (pc' := 38) (lv' := [(4, .int (x4 + r32)), (0, .ref (bd 0)), (1, .int x1), (2, .int x2), (3, .int x3), (5, .int x5)]) C dX4_year_36 rfl (by decide) rfl ?_
        refine g_iinc (pc' := 41) (v := (x5 + (1 : Int32))) (lv' := [(5, .int (x5 + (1 : Int32))), (4, .int (x4 + r32)), (0, .ref (bd 0)), (1, .int x1), (2, .int x2), (3, .int x3)]) C dX4_year_38 rfl rfl rfl (by decide) rfl ?_
        refine g_goto (tgt := 6) C dX4_year_41 (by decide) ?_
        refine g_sub (lv' := [(0, .ref (bd 0)), (1, .int x1), (2, .int x2), (3, .int x3), (4, .int (x4 + r32)), (5, .int (x5 + (1 : Int32)))]) [2, 3, 4, 5, 1, 0] rfl ?_
        exact ih _ _ _ hv
def vX4_year (pl : Int32) (thr : Int32) (mpar : Ar) (mcel : Ar) (x1 : Int32) (x2 : Int32) (x3 : Int32) (Q : Int32 → (Int32) → Prop) : Prop := (∃ n6 : Nat, vX4_year_L6 pl mpar mcel x1 x2 x3 Q n6 (0 : Int32) (0 : Int32) thr)
set_option maxHeartbeats 4000000 in
set_option maxRecDepth 100000 in
theorem mtX4_year {l : Launch} {γ : Gm} {bd : Nat → Nat} {pl : Int32} {msn : Int32} {thr : Int32} {mpar : Ar} {mcel : Ar} {mhel : Ar} {mclo : Ar} {msea : Ar} {mwei : Ar} {msha : Ar} {mmon : Ar} {x1 : Int32} {x2 : Int32} {x3 : Int32} {Q : Int32 → (Int32) → Prop} (hv : vX4_year pl thr mpar mcel x1 x2 x3 Q) : CtI l γ yX4_year cX4_year 6 .int 3 73 0 0 [.ref (bd 0), .int x1, .int x2, .int x3] (wN γ bd pl msn thr mpar mcel mhel mclo msea mwei msha mmon) (fun (r : Int32) (u : Int32) => Q r u) (fun u => wN γ bd pl msn u mpar mcel mhel mclo msea mwei msha mmon) := startI (by decide +kernel) (Nat.le_of_ble_eq_true rfl) (fun κ C RT hR hnm => by
  show G l γ κ (wN γ bd pl msn thr mpar mcel mhel mclo msea mwei msha mmon) [(0, .ref (bd 0)), (1, .int x1), (2, .int x2), (3, .int x3)] 0 0 [] 0
  refine g_iconst (pc' := 1) (v := (0 : Int32)) C dX4_year_0 rfl (by decide) ?_
  refine g_istore (pc' := 3) (lv' := [(4, .int (0 : Int32)), (0, .ref (bd 0)), (1, .int x1), (2, .int x2), (3, .int x3)]) C dX4_year_1 rfl (by decide) rfl ?_
  refine g_iconst (pc' := 4) (v := (0 : Int32)) C dX4_year_3 rfl (by decide) ?_
  refine g_istore (pc' := 6) (lv' := [(5, .int (0 : Int32)), (4, .int (0 : Int32)), (0, .ref (bd 0)), (1, .int x1), (2, .int x2), (3, .int x3)]) C dX4_year_4 rfl (by decide) rfl ?_
  refine g_sub (lv' := [(0, .ref (bd 0)), (1, .int x1), (2, .int x2), (3, .int x3), (4, .int (0 : Int32)), (5, .int (0 : Int32))]) [2, 3, 4, 5, 1, 0] rfl ?_
  obtain ⟨n6, hv⟩ := hv
  exact wvX4_year_L6 C RT  n6 _ _ _ hv)
def vX4_yearByLeaves (pl : Int32) (thr : Int32) (mpar : Ar) (mcel : Ar) (x1 : Int32) (x2 : Int32) (x3 : Int32) (Q : Int32 → (Int32) → Prop) : Prop := (vX4_year pl thr mpar mcel x1 x2 x3 (fun r4 u4 => (Q r4 u4)))
set_option maxHeartbeats 4000000 in
set_option maxRecDepth 100000 in
theorem mtX4_yearByLeaves {l : Launch} {γ : Gm} {bd : Nat → Nat} {pl : Int32} {msn : Int32} {thr : Int32} {mpar : Ar} {mcel : Ar} {mhel : Ar} {mclo : Ar} {msea : Ar} {mwei : Ar} {msha : Ar} {mmon : Ar} {x1 : Int32} {x2 : Int32} {x3 : Int32} {Q : Int32 → (Int32) → Prop} (hv : vX4_yearByLeaves pl thr mpar mcel x1 x2 x3 Q) : CtI l γ yX4_yearByLeaves cX4_yearByLeaves 4 .int 4 98 0 0 [.ref (bd 0), .int x1, .int x2, .int x3] (wN γ bd pl msn thr mpar mcel mhel mclo msea mwei msha mmon) (fun (r : Int32) (u : Int32) => Q r u) (fun u => wN γ bd pl msn u mpar mcel mhel mclo msea mwei msha mmon) := startI (by decide +kernel) (Nat.le_of_ble_eq_true rfl) (fun κ C RT hR hnm => by
  show G l γ κ (wN γ bd pl msn thr mpar mcel mhel mclo msea mwei msha mmon) [(0, .ref (bd 0)), (1, .int x1), (2, .int x2), (3, .int x3)] 0 0 [] 0
  refine g_aload_n (pc' := 1) C dX4_yearByLeaves_0 rfl rfl rfl ?_
  refine g_iload_n (pc' := 2) C dX4_yearByLeaves_1 rfl rfl rfl ?_
  refine g_iload_n (pc' := 3) C dX4_yearByLeaves_2 rfl rfl rfl ?_
  refine g_iload_n (pc' := 4) C dX4_yearByLeaves_3 rfl rfl rfl ?_
  refine csI (pc' := 7) C (run_VI (rest := []) C lk_X4_114 (mtX4_year hv) ⟨by decide, by decide⟩ rfl rfl rfl rfl (Nat.le_of_ble_eq_true rfl) ⟨Nat.zero_le _, Nat.zero_le _⟩ dX4_yearByLeaves_4) rfl (fun r4 u4 hv => ?_)
  exact RT r4 u4 _ _ _ _ dX4_yearByLeaves_7 rfl (by decide) (by decide) hv)
def vX4_filled_L9 (thr : Int32) (mcel : Ar) (Q : Int32 → (Int32) → Prop) : Nat → Int32 → Int32 → Prop
  | 0, _, _ => False
  | n + 1, x1, x2 => (((1440 : Int32) ≤ x2 → (Q x1 thr)) ∧ (¬ (1440 : Int32) ≤ x2 → (vp_in x2 1440 ∧ ((¬ (mcel x2.toNatClampNeg) = (0 : Int32) → (vX4_filled_L9 thr mcel Q n (x1 + (1 : Int32)) (x2 + (1 : Int32)))) ∧ ((mcel x2.toNatClampNeg) = (0 : Int32) → (vX4_filled_L9 thr mcel Q n (x1 + (0 : Int32)) (x2 + (1 : Int32))))))))
set_option maxHeartbeats 4000000 in
set_option maxRecDepth 100000 in
theorem wvX4_filled_L9 {l : Launch} {γ : Gm} {κ : Kx} {bd : Nat → Nat} {pl : Int32} {msn : Int32} {thr : Int32} {mpar : Ar} {mcel : Ar} {mhel : Ar} {mclo : Ar} {msea : Ar} {mwei : Ar} {msha : Ar} {mmon : Ar} {Q : Int32 → (Int32) → Prop} (C : Ok γ κ cX4_filled 3 RX4 0 0) (RT : RtI l γ κ cX4_filled .int 0 0 (fun (r : Int32) (u : Int32) => Q r u) (fun u => wN γ bd pl msn u mpar mcel mhel mclo msea mwei msha mmon))  : ∀ (n : Nat) (x1 : Int32) (x2 : Int32), vX4_filled_L9 thr mcel Q n x1 x2 → G l γ κ (wN γ bd pl msn thr mpar mcel mhel mclo msea mwei msha mmon) [(0, .ref (bd 0)), (1, .int x1), (2, .int x2)] 0 0 [] 9 := by
  intro n
  induction n with
  | zero => intro x1 x2 hv; exact False.elim hv
  | succ n ih =>
    intro x1 x2 hv
    refine g_iload_n (pc' := 10) C dX4_filled_9 rfl rfl rfl ?_
    refine g_sipush (pc' := 13) (v := (1440 : Int32)) C dX4_filled_10 rfl (by decide) ?_
    obtain ⟨hv1, hv2⟩ := hv
    refine g_icmp_ge (pc' := 16) (tgt := 39) C dX4_filled_13 rfl (by decide) (fun c => ?_) (fun c => ?_)
    · have hv := hv1 c
      refine g_iload_n (pc' := 40) C dX4_filled_39 rfl rfl rfl ?_
      exact RT x1 thr _ _ _ _ dX4_filled_40 rfl (by decide) (by decide) hv
    · have hv := hv2 c
      refine g_iload_n (pc' := 17) C dX4_filled_16 rfl rfl rfl ?_
      refine g_aload_n (pc' := 18) C dX4_filled_17 rfl rfl rfl ?_
      refine gf_X4_17 (pc' := 21) C dX4_filled_18 rfl 0 rfl rfl ?_
      refine g_iload_n (pc' := 22) C dX4_filled_21 rfl rfl rfl ?_
      obtain ⟨hi, hv⟩ := hv
      refine g_iald (pc' := 23) C dX4_filled_22 rfl 2 rfl hi ?_
      obtain ⟨hv1, hv2⟩ := hv
      refine g_if_ne (pc' := 26) (tgt := 30) C dX4_filled_23 rfl (by decide) (fun c => ?_) (fun c => ?_)
      · have hv := hv1 c
        refine g_iconst (pc' := 31) (v := (1 : Int32)) C dX4_filled_30 rfl (by decide) ?_
        refine g_iadd (pc' := 32) C dX4_filled_31 rfl ?_
        refine g_istore_n (pc' := 33) (lv' := [(1, .int (x1 + (1 : Int32))), (0, .ref (bd 0)), (2, .int x2)]) C dX4_filled_32 rfl rfl (by decide) rfl ?_
        refine g_iinc (pc' := 36) (v := (x2 + (1 : Int32))) (lv' := [(2, .int (x2 + (1 : Int32))), (1, .int (x1 + (1 : Int32))), (0, .ref (bd 0))]) C dX4_filled_33 rfl rfl rfl (by decide) rfl ?_
        refine g_goto (tgt := 9) C dX4_filled_36 (by decide) ?_
        refine g_sub (lv' := [(0, .ref (bd 0)), (1, .int (x1 + (1 : Int32))), (2, .int (x2 + (1 : Int32)))]) [2, 1, 0] rfl ?_
        exact ih _ _ hv
      · have hv := hv2 c
        refine g_iconst (pc' := 27) (v := (0 : Int32)) C dX4_filled_26 rfl (by decide) ?_
        refine g_goto (tgt := 31) C dX4_filled_27 (by decide) ?_
        refine g_iadd (pc' := 32) C dX4_filled_31 rfl ?_
        refine g_istore_n (pc' := 33) (lv' := [(1, .int (x1 + (0 : Int32))), (0, .ref (bd 0)), (2, .int x2)]) C dX4_filled_32 rfl rfl (by decide) rfl ?_
        refine g_iinc (pc' := 36) (v := (x2 + (1 : Int32))) (lv' := [(2, .int (x2 + (1 : Int32))), (1, .int (x1 + (0 : Int32))), (0, .ref (bd 0))]) C dX4_filled_33 rfl rfl rfl (by decide) rfl ?_
        refine g_goto (tgt := 9) C dX4_filled_36 (by decide) ?_
        refine g_sub (lv' := [(0, .ref (bd 0)), (1, .int (x1 + (0 : Int32))), (2, .int (x2 + (1 : Int32)))]) [2, 1, 0] rfl ?_
        exact ih _ _ hv
def vX4_filled (thr : Int32) (mcel : Ar) (Q : Int32 → (Int32) → Prop) : Prop := (∃ n9 : Nat, vX4_filled_L9 (0 : Int32) mcel Q n9 (0 : Int32) (0 : Int32))
set_option maxHeartbeats 4000000 in
set_option maxRecDepth 100000 in
theorem mtX4_filled {l : Launch} {γ : Gm} {bd : Nat → Nat} {pl : Int32} {msn : Int32} {thr : Int32} {mpar : Ar} {mcel : Ar} {mhel : Ar} {mclo : Ar} {msea : Ar} {mwei : Ar} {msha : Ar} {mmon : Ar} {Q : Int32 → (Int32) → Prop} (hv : vX4_filled thr mcel Q) : CtI l γ yX4_filled cX4_filled 3 .int 0 0 0 0 [.ref (bd 0)] (wN γ bd pl msn thr mpar mcel mhel mclo msea mwei msha mmon) (fun (r : Int32) (u : Int32) => Q r u) (fun u => wN γ bd pl msn u mpar mcel mhel mclo msea mwei msha mmon) := startI (by decide +kernel) (Nat.le_of_ble_eq_true rfl) (fun κ C RT hR hnm => by
  show G l γ κ (wN γ bd pl msn thr mpar mcel mhel mclo msea mwei msha mmon) [(0, .ref (bd 0))] 0 0 [] 0
  refine g_aload_n (pc' := 1) C dX4_filled_0 rfl rfl rfl ?_
  refine g_iconst (pc' := 2) (v := (0 : Int32)) C dX4_filled_1 rfl (by decide) ?_
  refine pf_X4_38 (pc' := 5) (ws' := wN γ bd pl msn (0 : Int32) mpar mcel mhel mclo msea mwei msha mmon) C dX4_filled_2 rfl 0 rfl rfl rfl (Nat.le_of_ble_eq_true rfl) rfl ?_
  refine g_iconst (pc' := 6) (v := (0 : Int32)) C dX4_filled_5 rfl (by decide) ?_
  refine g_istore_n (pc' := 7) (lv' := [(1, .int (0 : Int32)), (0, .ref (bd 0))]) C dX4_filled_6 rfl rfl (by decide) rfl ?_
  refine g_iconst (pc' := 8) (v := (0 : Int32)) C dX4_filled_7 rfl (by decide) ?_
  refine g_istore_n (pc' := 9) (lv' := [(2, .int (0 : Int32)), (1, .int (0 : Int32)), (0, .ref (bd 0))]) C dX4_filled_8 rfl rfl (by decide) rfl ?_
  refine g_sub (lv' := [(0, .ref (bd 0)), (1, .int (0 : Int32)), (2, .int (0 : Int32))]) [2, 1, 0] rfl ?_
  obtain ⟨n9, hv⟩ := hv
  exact wvX4_filled_L9 C RT  n9 _ _ hv)
def vX4_gap_L70 (pl : Int32) (thr : Int32) (mpar : Ar) (mcel : Ar) (x1 : Int32) (x2 : Int32) (x3 : Int32) (x4 : Int32) (x6 : Int32) (K51 : Int32 → Int32 → Prop) (Q : Int32 → (Int32) → Prop) : Nat → Int32 → Int32 → Prop
  | 0, _, _ => False
  | n + 1, x5, x7 => (((12 : Int32) ≤ x7 → (K51 x5 (x6 + (1 : Int32)))) ∧ (¬ (12 : Int32) ≤ x7 → (vX4_isLeafOf pl mpar x6 x3 (fun r81 => ((r81 = (0 : Int32) → (K51 x5 (x6 + (1 : Int32)))) ∧ (¬ r81 = (0 : Int32) → (vX4_ofLeaf mcel x1 x6 (0 : Int32) x7 (fun r96 => (vX4_ofLeaf mcel x1 x6 (1 : Int32) x7 (fun r106 => (vX4_ofLeaf mcel x2 x6 (0 : Int32) x7 (fun r116 => (vX4_ofLeaf mcel x2 x6 (1 : Int32) x7 (fun r126 => (vX4_partOf r96 r106 r116 r126 x4 (fun r131 => (vX4_gap_L70 pl thr mpar mcel x1 x2 x3 x4 x6 K51 Q n (x5 + r131) (x7 + (1 : Int32)))))))))))))))))))
set_option maxHeartbeats 4000000 in
set_option maxRecDepth 100000 in
theorem wvX4_gap_L70 {l : Launch} {γ : Gm} {κ : Kx} {bd : Nat → Nat} {pl : Int32} {msn : Int32} {thr : Int32} {mpar : Ar} {mcel : Ar} {mhel : Ar} {mclo : Ar} {msea : Ar} {mwei : Ar} {msha : Ar} {mmon : Ar} {x1 : Int32} {x2 : Int32} {x3 : Int32} {x4 : Int32} {x6 : Int32} {K51 : Int32 → Int32 → Prop} {Q : Int32 → (Int32) → Prop} (C : Ok γ κ cX4_gap 8 RX4 2 47) (RT : RtI l γ κ cX4_gap .int 0 0 (fun (r : Int32) (u : Int32) => Q r u) (fun u => wN γ bd pl msn u mpar mcel mhel mclo msea mwei msha mmon)) (hK51 : ∀ (x5 : Int32) (x6 : Int32), K51 x5 x6 → G l γ κ (wN γ bd pl msn thr mpar mcel mhel mclo msea mwei msha mmon) [(0, .ref (bd 0)), (1, .int x1), (2, .int x2), (3, .int x3), (4, .int x4), (5, .int x5), (6, .int x6)] 0 0 [] 51) : ∀ (n : Nat) (x5 : Int32) (x7 : Int32), vX4_gap_L70 pl thr mpar mcel x1 x2 x3 x4 x6 K51 Q n x5 x7 → G l γ κ (wN γ bd pl msn thr mpar mcel mhel mclo msea mwei msha mmon) [(0, .ref (bd 0)), (1, .int x1), (2, .int x2), (3, .int x3), (4, .int x4), (5, .int x5), (6, .int x6), (7, .int x7)] 0 0 [] 70 := by
  intro n
  induction n with
  | zero => intro x5 x7 hv; exact False.elim hv
  | succ n ih =>
    intro x5 x7 hv
    refine g_iload (pc' := 72) C dX4_gap_70 rfl rfl ?_
    refine g_bipush (pc' := 74) (v := (12 : Int32)) C dX4_gap_72 rfl (by decide) ?_
    obtain ⟨hv1, hv2⟩ := hv
    refine g_icmp_ge (pc' := 77) (tgt := 143) C dX4_gap_74 rfl (by decide) (fun c => ?_) (fun c => ?_)
    · have hv := hv1 c
      refine g_iinc (pc' := 146) (v := (x6 + (1 : Int32))) (lv' := [(6, .int (x6 + (1 : Int32))), (0, .ref (bd 0)), (1, .int x1), (2, .int x2), (3, .int x3), (4, .int x4), (5, .int x5), (7, .int x7)]) C dX4_gap_143 rfl rfl rfl (by decide) rfl ?_
      refine g_goto (tgt := 51) C dX4_gap_146 (by decide) ?_
      refine g_sub (lv' := [(0, .ref (bd 0)), (1, .int x1), (2, .int x2), (3, .int x3), (4, .int x4), (5, .int x5), (6, .int (x6 + (1 : Int32)))]) [1, 2, 3, 4, 5, 6, 0] rfl ?_
      exact hK51 _ _ hv
    · have hv := hv2 c
      refine g_aload_n (pc' := 78) C dX4_gap_77 rfl rfl rfl ?_
      refine g_iload (pc' := 80) C dX4_gap_78 rfl rfl ?_
      refine g_iload_n (pc' := 81) C dX4_gap_80 rfl rfl rfl ?_
      refine csI (pc' := 84) C (run_VI (rest := []) C lk_X4_63 (mtX4_isLeafOf hv) ⟨by decide, by decide⟩ rfl rfl rfl rfl (Nat.le_of_ble_eq_true rfl) ⟨Nat.zero_le _, Nat.zero_le _⟩ dX4_gap_81) rfl (fun r81 u81 hv => ?_)
      obtain ⟨hv1, hv2⟩ := hv
      refine g_if_eq (pc' := 87) (tgt := 143) C dX4_gap_84 rfl (by decide) (fun c => ?_) (fun c => ?_)
      · have hv := hv1 c
        refine g_iinc (pc' := 146) (v := (x6 + (1 : Int32))) (lv' := [(6, .int (x6 + (1 : Int32))), (0, .ref (bd 0)), (1, .int x1), (2, .int x2), (3, .int x3), (4, .int x4), (5, .int x5), (7, .int x7)]) C dX4_gap_143 rfl rfl rfl (by decide) rfl ?_
        refine g_goto (tgt := 51) C dX4_gap_146 (by decide) ?_
        refine g_sub (lv' := [(0, .ref (bd 0)), (1, .int x1), (2, .int x2), (3, .int x3), (4, .int x4), (5, .int x5), (6, .int (x6 + (1 : Int32)))]) [1, 2, 3, 4, 5, 6, 0] rfl ?_
        exact hK51 _ _ hv
      · have hv := hv2 c
        refine g_iload (pc' := 89) C dX4_gap_87 rfl rfl ?_
        refine g_aload_n (pc' := 90) C dX4_gap_89 rfl rfl rfl ?_
        refine g_iload_n (pc' := 91) C dX4_gap_90 rfl rfl rfl ?_
        refine g_iload (pc' := 93) C dX4_gap_91 rfl rfl ?_
        refine g_iconst (pc' := 94) (v := (0 : Int32)) C dX4_gap_93 rfl (by decide) ?_
        refine g_iload (pc' := 96) C dX4_gap_94 rfl rfl ?_
        refine csI (pc' := 99) C (run_VI (rest := [.int x5]) C lk_X4_104 (mtX4_ofLeaf hv) ⟨by decide, by decide⟩ rfl rfl rfl rfl (Nat.le_of_ble_eq_true rfl) ⟨Nat.zero_le _, Nat.zero_le _⟩ dX4_gap_96) rfl (fun r96 u96 hv => ?_)
        refine g_aload_n (pc' := 100) C dX4_gap_99 rfl rfl rfl ?_
        refine g_iload_n (pc' := 101) C dX4_gap_100 rfl rfl rfl ?_
        refine g_iload (pc' := 103) C dX4_gap_101 rfl rfl ?_
        refine g_iconst (pc' := 104) (v := (1 : Int32)) C dX4_gap_103 rfl (by decide) ?_
        refine g_iload (pc' := 106) C dX4_gap_104 rfl rfl ?_
        refine csI (pc' := 109) C (run_VI (rest := [.int r96, .int x5]) C lk_X4_104 (mtX4_ofLeaf hv) ⟨by decide, by decide⟩ rfl rfl rfl rfl (Nat.le_of_ble_eq_true rfl) ⟨Nat.zero_le _, Nat.zero_le _⟩ dX4_gap_106) rfl (fun r106 u106 hv => ?_)
        refine g_aload_n (pc' := 110) C dX4_gap_109 rfl rfl rfl ?_
        refine g_iload_n (pc' := 111) C dX4_gap_110 rfl rfl rfl ?_
        refine g_iload (pc' := 113) C dX4_gap_111 rfl rfl ?_
        refine g_iconst (pc' := 114) (v := (0 : Int32)) C dX4_gap_113 rfl (by decide) ?_
        refine g_iload (pc' := 116) C dX4_gap_114 rfl rfl ?_
        refine csI (pc' := 119) C (run_VI (rest := [.int r106, .int r96, .int x5]) C lk_X4_104 (mtX4_ofLeaf hv) ⟨by decide, by decide⟩ rfl rfl rfl rfl (Nat.le_of_ble_eq_true rfl) ⟨Nat.zero_le _, Nat.zero_le _⟩ dX4_gap_116) rfl (fun r116 u116 hv => ?_)
        refine g_aload_n (pc' := 120) C dX4_gap_119 rfl rfl rfl ?_
        refine g_iload_n (pc' := 121) C dX4_gap_120 rfl rfl rfl ?_
        refine g_iload (pc' := 123) C dX4_gap_121 rfl rfl ?_
        refine g_iconst (pc' := 124) (v := (1 : Int32)) C dX4_gap_123 rfl (by decide) ?_
        refine g_iload (pc' := 126) C dX4_gap_124 rfl rfl ?_
        refine csI (pc' := 129) C (run_VI (rest := [.int r116, .int r106, .int r96, .int x5]) C lk_X4_104 (mtX4_ofLeaf hv) ⟨by decide, by decide⟩ rfl rfl rfl rfl (Nat.le_of_ble_eq_true rfl) ⟨Nat.zero_le _, Nat.zero_le _⟩ dX4_gap_126) rfl (fun r126 u126 hv => ?_)
        refine g_iload (pc' := 131) C dX4_gap_129 rfl rfl ?_
        refine cnI (pc' := 134) C (run_SI (rest := [.int x5]) C lk_X4_117 (mtX4_partOf hv) ⟨by decide, by decide⟩ rfl rfl (Nat.le_of_ble_eq_true rfl) ⟨Nat.zero_le _, Nat.zero_le _⟩ dX4_gap_131) rfl (fun r131 u131 hv => ?_)
        refine g_iadd (pc' := 135) C dX4_gap_134 rfl ?_
        refine g_istore (pc' := 137) (lv' := [(5, .int (x5 + r131)), (0, .ref (bd 0)), (1, .int x1), (2, .int x2), (3, .int x3), (4, .int x4), (6, .int x6), (7, .int x7)]) C dX4_gap_135 rfl (by decide) rfl ?_
        refine g_iinc (pc' := 140) (v := (x7 + (1 : Int32))) (lv' := [(7, .int (x7 + (1 : Int32))), (5, .int (x5 + r131)), (0, .ref (bd 0)), (1, .int x1), (2, .int x2), (3, .int x3), (4, .int x4), (6, .int x6)]) C dX4_gap_137 rfl rfl rfl (by decide) rfl ?_
        refine g_goto (tgt := 70) C dX4_gap_140 (by decide) ?_
        refine g_sub (lv' := [(0, .ref (bd 0)), (1, .int x1), (2, .int x2), (3, .int x3), (4, .int x4), (5, .int (x5 + r131)), (6, .int x6), (7, .int (x7 + (1 : Int32)))]) [2, 3, 4, 5, 6, 1, 7, 0] rfl ?_
        exact ih _ _ hv
def vX4_gap_L51 (pl : Int32) (thr : Int32) (mpar : Ar) (mcel : Ar) (x1 : Int32) (x2 : Int32) (x3 : Int32) (x4 : Int32) (Q : Int32 → (Int32) → Prop) : Nat → Int32 → Int32 → Prop
  | 0, _, _ => False
  | n + 1, x5, x6 => ((pl ≤ x6 → (Q x5 thr)) ∧ (¬ pl ≤ x6 → ((¬ thr = (0 : Int32) → (Q x5 thr)) ∧ (thr = (0 : Int32) → (∃ n70 : Nat, vX4_gap_L70 pl thr mpar mcel x1 x2 x3 x4 x6 (vX4_gap_L51 pl thr mpar mcel x1 x2 x3 x4 Q n) Q n70 x5 (0 : Int32))))))
set_option maxHeartbeats 4000000 in
set_option maxRecDepth 100000 in
theorem wvX4_gap_L51 {l : Launch} {γ : Gm} {κ : Kx} {bd : Nat → Nat} {pl : Int32} {msn : Int32} {thr : Int32} {mpar : Ar} {mcel : Ar} {mhel : Ar} {mclo : Ar} {msea : Ar} {mwei : Ar} {msha : Ar} {mmon : Ar} {x1 : Int32} {x2 : Int32} {x3 : Int32} {x4 : Int32} {Q : Int32 → (Int32) → Prop} (C : Ok γ κ cX4_gap 8 RX4 2 47) (RT : RtI l γ κ cX4_gap .int 0 0 (fun (r : Int32) (u : Int32) => Q r u) (fun u => wN γ bd pl msn u mpar mcel mhel mclo msea mwei msha mmon))  : ∀ (n : Nat) (x5 : Int32) (x6 : Int32), vX4_gap_L51 pl thr mpar mcel x1 x2 x3 x4 Q n x5 x6 → G l γ κ (wN γ bd pl msn thr mpar mcel mhel mclo msea mwei msha mmon) [(0, .ref (bd 0)), (1, .int x1), (2, .int x2), (3, .int x3), (4, .int x4), (5, .int x5), (6, .int x6)] 0 0 [] 51 := by
  intro n
  induction n with
  | zero => intro x5 x6 hv; exact False.elim hv
  | succ n ih =>
    intro x5 x6 hv
    refine g_iload (pc' := 53) C dX4_gap_51 rfl rfl ?_
    refine g_aload_n (pc' := 54) C dX4_gap_53 rfl rfl rfl ?_
    refine gf_X4_7 (pc' := 57) C dX4_gap_54 rfl 0 rfl rfl ?_
    obtain ⟨hv1, hv2⟩ := hv
    refine g_icmp_ge (pc' := 60) (tgt := 149) C dX4_gap_57 rfl (by decide) (fun c => ?_) (fun c => ?_)
    · have hv := hv1 c
      refine g_iload (pc' := 151) C dX4_gap_149 rfl rfl ?_
      exact RT x5 thr _ _ _ _ dX4_gap_151 rfl (by decide) (by decide) hv
    · have hv := hv2 c
      refine g_aload_n (pc' := 61) C dX4_gap_60 rfl rfl rfl ?_
      refine gf_X4_38 (pc' := 64) C dX4_gap_61 rfl 0 rfl rfl ?_
      obtain ⟨hv1, hv2⟩ := hv
      refine g_if_ne (pc' := 67) (tgt := 149) C dX4_gap_64 rfl (by decide) (fun c => ?_) (fun c => ?_)
      · have hv := hv1 c
        refine g_iload (pc' := 151) C dX4_gap_149 rfl rfl ?_
        exact RT x5 thr _ _ _ _ dX4_gap_151 rfl (by decide) (by decide) hv
      · have hv := hv2 c
        refine g_iconst (pc' := 68) (v := (0 : Int32)) C dX4_gap_67 rfl (by decide) ?_
        refine g_istore (pc' := 70) (lv' := [(7, .int (0 : Int32)), (0, .ref (bd 0)), (1, .int x1), (2, .int x2), (3, .int x3), (4, .int x4), (5, .int x5), (6, .int x6)]) C dX4_gap_68 rfl (by decide) rfl ?_
        refine g_sub (lv' := [(0, .ref (bd 0)), (1, .int x1), (2, .int x2), (3, .int x3), (4, .int x4), (5, .int x5), (6, .int x6), (7, .int (0 : Int32))]) [1, 2, 3, 4, 5, 6, 7, 0] rfl ?_
        obtain ⟨n70, hv⟩ := hv
        exact wvX4_gap_L70 C RT ih n70 _ _ hv
def vX4_gap (pl : Int32) (thr : Int32) (mpar : Ar) (mcel : Ar) (x1 : Int32) (x2 : Int32) (x3 : Int32) (x4 : Int32) (Q : Int32 → (Int32) → Prop) : Prop := (vX4_isVersion x1 (fun r2 => ((r2 = (0 : Int32) → (∃ n51 : Nat, vX4_gap_L51 pl (1 : Int32) mpar mcel x1 x2 x3 x4 Q n51 (0 : Int32) (0 : Int32))) ∧ (¬ r2 = (0 : Int32) → (vX4_isVersion x2 (fun r9 => ((r9 = (0 : Int32) → (∃ n51 : Nat, vX4_gap_L51 pl (1 : Int32) mpar mcel x1 x2 x3 x4 Q n51 (0 : Int32) (0 : Int32))) ∧ (¬ r9 = (0 : Int32) → (vX4_isPlace pl x3 (fun r17 => ((¬ r17 = (0 : Int32) → (vX4_in x4 (0 : Int32) (3 : Int32) (fun r31 => ((¬ r31 = (0 : Int32) → (∃ n51 : Nat, vX4_gap_L51 pl (0 : Int32) mpar mcel x1 x2 x3 x4 Q n51 (0 : Int32) (0 : Int32))) ∧ (r31 = (0 : Int32) → (∃ n51 : Nat, vX4_gap_L51 pl (2 : Int32) mpar mcel x1 x2 x3 x4 Q n51 (0 : Int32) (0 : Int32))))))) ∧ (r17 = (0 : Int32) → (∃ n51 : Nat, vX4_gap_L51 pl (1 : Int32) mpar mcel x1 x2 x3 x4 Q n51 (0 : Int32) (0 : Int32))))))))))))))
set_option maxHeartbeats 4000000 in
set_option maxRecDepth 100000 in
theorem mtX4_gap {l : Launch} {γ : Gm} {bd : Nat → Nat} {pl : Int32} {msn : Int32} {thr : Int32} {mpar : Ar} {mcel : Ar} {mhel : Ar} {mclo : Ar} {msea : Ar} {mwei : Ar} {msha : Ar} {mmon : Ar} {x1 : Int32} {x2 : Int32} {x3 : Int32} {x4 : Int32} {Q : Int32 → (Int32) → Prop} (hv : vX4_gap pl thr mpar mcel x1 x2 x3 x4 Q) : CtI l γ yX4_gap cX4_gap 8 .int 2 47 0 0 [.ref (bd 0), .int x1, .int x2, .int x3, .int x4] (wN γ bd pl msn thr mpar mcel mhel mclo msea mwei msha mmon) (fun (r : Int32) (u : Int32) => Q r u) (fun u => wN γ bd pl msn u mpar mcel mhel mclo msea mwei msha mmon) := startI (by decide +kernel) (Nat.le_of_ble_eq_true rfl) (fun κ C RT hR hnm => by
  show G l γ κ (wN γ bd pl msn thr mpar mcel mhel mclo msea mwei msha mmon) [(0, .ref (bd 0)), (1, .int x1), (2, .int x2), (3, .int x3), (4, .int x4)] 0 0 [] 0
  refine g_aload_n (pc' := 1) C dX4_gap_0 rfl rfl rfl ?_
  refine g_iload_n (pc' := 2) C dX4_gap_1 rfl rfl rfl ?_
  refine cnI (pc' := 5) C (run_SI (rest := [.ref (bd 0)]) C lk_X4_67 (mtX4_isVersion hv) ⟨by decide, by decide⟩ rfl rfl (Nat.le_of_ble_eq_true rfl) ⟨Nat.zero_le _, Nat.zero_le _⟩ dX4_gap_2) rfl (fun r2 u2 hv => ?_)
  obtain ⟨hv1, hv2⟩ := hv
  refine g_if_eq (pc' := 8) (tgt := 23) C dX4_gap_5 rfl (by decide) (fun c => ?_) (fun c => ?_)
  · have hv := hv1 c
    refine g_iconst (pc' := 24) (v := (1 : Int32)) C dX4_gap_23 rfl (by decide) ?_
    refine g_goto (tgt := 42) C dX4_gap_24 (by decide) ?_
    refine pf_X4_38 (pc' := 45) (ws' := wN γ bd pl msn (1 : Int32) mpar mcel mhel mclo msea mwei msha mmon) C dX4_gap_42 rfl 0 rfl rfl rfl (Nat.le_of_ble_eq_true rfl) rfl ?_
    refine g_iconst (pc' := 46) (v := (0 : Int32)) C dX4_gap_45 rfl (by decide) ?_
    refine g_istore (pc' := 48) (lv' := [(5, .int (0 : Int32)), (0, .ref (bd 0)), (1, .int x1), (2, .int x2), (3, .int x3), (4, .int x4)]) C dX4_gap_46 rfl (by decide) rfl ?_
    refine g_iconst (pc' := 49) (v := (0 : Int32)) C dX4_gap_48 rfl (by decide) ?_
    refine g_istore (pc' := 51) (lv' := [(6, .int (0 : Int32)), (5, .int (0 : Int32)), (0, .ref (bd 0)), (1, .int x1), (2, .int x2), (3, .int x3), (4, .int x4)]) C dX4_gap_49 rfl (by decide) rfl ?_
    refine g_sub (lv' := [(0, .ref (bd 0)), (1, .int x1), (2, .int x2), (3, .int x3), (4, .int x4), (5, .int (0 : Int32)), (6, .int (0 : Int32))]) [2, 3, 4, 5, 6, 1, 0] rfl ?_
    obtain ⟨n51, hv⟩ := hv
    exact wvX4_gap_L51 C RT  n51 _ _ hv
  · have hv := hv2 c
    refine g_iload_n (pc' := 9) C dX4_gap_8 rfl rfl rfl ?_
    refine cnI (pc' := 12) C (run_SI (rest := [.ref (bd 0)]) C lk_X4_67 (mtX4_isVersion hv) ⟨by decide, by decide⟩ rfl rfl (Nat.le_of_ble_eq_true rfl) ⟨Nat.zero_le _, Nat.zero_le _⟩ dX4_gap_9) rfl (fun r9 u9 hv => ?_)
    obtain ⟨hv1, hv2⟩ := hv
    refine g_if_eq (pc' := 15) (tgt := 23) C dX4_gap_12 rfl (by decide) (fun c => ?_) (fun c => ?_)
    · have hv := hv1 c
      refine g_iconst (pc' := 24) (v := (1 : Int32)) C dX4_gap_23 rfl (by decide) ?_
      refine g_goto (tgt := 42) C dX4_gap_24 (by decide) ?_
      refine pf_X4_38 (pc' := 45) (ws' := wN γ bd pl msn (1 : Int32) mpar mcel mhel mclo msea mwei msha mmon) C dX4_gap_42 rfl 0 rfl rfl rfl (Nat.le_of_ble_eq_true rfl) rfl ?_
      refine g_iconst (pc' := 46) (v := (0 : Int32)) C dX4_gap_45 rfl (by decide) ?_
      refine g_istore (pc' := 48) (lv' := [(5, .int (0 : Int32)), (0, .ref (bd 0)), (1, .int x1), (2, .int x2), (3, .int x3), (4, .int x4)]) C dX4_gap_46 rfl (by decide) rfl ?_
      refine g_iconst (pc' := 49) (v := (0 : Int32)) C dX4_gap_48 rfl (by decide) ?_
      refine g_istore (pc' := 51) (lv' := [(6, .int (0 : Int32)), (5, .int (0 : Int32)), (0, .ref (bd 0)), (1, .int x1), (2, .int x2), (3, .int x3), (4, .int x4)]) C dX4_gap_49 rfl (by decide) rfl ?_
      refine g_sub (lv' := [(0, .ref (bd 0)), (1, .int x1), (2, .int x2), (3, .int x3), (4, .int x4), (5, .int (0 : Int32)), (6, .int (0 : Int32))]) [2, 3, 4, 5, 6, 1, 0] rfl ?_
      obtain ⟨n51, hv⟩ := hv
      exact wvX4_gap_L51 C RT  n51 _ _ hv
    · have hv := hv2 c
      refine g_aload_n (pc' := 16) C dX4_gap_15 rfl rfl rfl ?_
      refine g_iload_n (pc' := 17) C dX4_gap_16 rfl rfl rfl ?_
      refine csI (pc' := 20) C (run_VI (rest := [.ref (bd 0)]) C lk_X4_57 (mtX4_isPlace hv) ⟨by decide, by decide⟩ rfl rfl rfl rfl (Nat.le_of_ble_eq_true rfl) ⟨Nat.zero_le _, Nat.zero_le _⟩ dX4_gap_17) rfl (fun r17 u17 hv => ?_)
      obtain ⟨hv1, hv2⟩ := hv
      refine g_if_ne (pc' := 23) (tgt := 27) C dX4_gap_20 rfl (by decide) (fun c => ?_) (fun c => ?_)
      · have hv := hv1 c
        refine g_iload (pc' := 29) C dX4_gap_27 rfl rfl ?_
        refine g_iconst (pc' := 30) (v := (0 : Int32)) C dX4_gap_29 rfl (by decide) ?_
        refine g_iconst (pc' := 31) (v := (3 : Int32)) C dX4_gap_30 rfl (by decide) ?_
        refine cnI (pc' := 34) C (run_SI (rest := [.ref (bd 0)]) C lk_X4_41 (mtX4_in hv) ⟨by decide, by decide⟩ rfl rfl (Nat.le_of_ble_eq_true rfl) ⟨Nat.zero_le _, Nat.zero_le _⟩ dX4_gap_31) rfl (fun r31 u31 hv => ?_)
        obtain ⟨hv1, hv2⟩ := hv
        refine g_if_ne (pc' := 37) (tgt := 41) C dX4_gap_34 rfl (by decide) (fun c => ?_) (fun c => ?_)
        · have hv := hv1 c
          refine g_iconst (pc' := 42) (v := (0 : Int32)) C dX4_gap_41 rfl (by decide) ?_
          refine pf_X4_38 (pc' := 45) (ws' := wN γ bd pl msn (0 : Int32) mpar mcel mhel mclo msea mwei msha mmon) C dX4_gap_42 rfl 0 rfl rfl rfl (Nat.le_of_ble_eq_true rfl) rfl ?_
          refine g_iconst (pc' := 46) (v := (0 : Int32)) C dX4_gap_45 rfl (by decide) ?_
          refine g_istore (pc' := 48) (lv' := [(5, .int (0 : Int32)), (0, .ref (bd 0)), (1, .int x1), (2, .int x2), (3, .int x3), (4, .int x4)]) C dX4_gap_46 rfl (by decide) rfl ?_
          refine g_iconst (pc' := 49) (v := (0 : Int32)) C dX4_gap_48 rfl (by decide) ?_
          refine g_istore (pc' := 51) (lv' := [(6, .int (0 : Int32)), (5, .int (0 : Int32)), (0, .ref (bd 0)), (1, .int x1), (2, .int x2), (3, .int x3), (4, .int x4)]) C dX4_gap_49 rfl (by decide) rfl ?_
          refine g_sub (lv' := [(0, .ref (bd 0)), (1, .int x1), (2, .int x2), (3, .int x3), (4, .int x4), (5, .int (0 : Int32)), (6, .int (0 : Int32))]) [2, 3, 4, 5, 6, 1, 0] rfl ?_
          obtain ⟨n51, hv⟩ := hv
          exact wvX4_gap_L51 C RT  n51 _ _ hv
        · have hv := hv2 c
          refine g_iconst (pc' := 38) (v := (2 : Int32)) C dX4_gap_37 rfl (by decide) ?_
          refine g_goto (tgt := 42) C dX4_gap_38 (by decide) ?_
          refine pf_X4_38 (pc' := 45) (ws' := wN γ bd pl msn (2 : Int32) mpar mcel mhel mclo msea mwei msha mmon) C dX4_gap_42 rfl 0 rfl rfl rfl (Nat.le_of_ble_eq_true rfl) rfl ?_
          refine g_iconst (pc' := 46) (v := (0 : Int32)) C dX4_gap_45 rfl (by decide) ?_
          refine g_istore (pc' := 48) (lv' := [(5, .int (0 : Int32)), (0, .ref (bd 0)), (1, .int x1), (2, .int x2), (3, .int x3), (4, .int x4)]) C dX4_gap_46 rfl (by decide) rfl ?_
          refine g_iconst (pc' := 49) (v := (0 : Int32)) C dX4_gap_48 rfl (by decide) ?_
          refine g_istore (pc' := 51) (lv' := [(6, .int (0 : Int32)), (5, .int (0 : Int32)), (0, .ref (bd 0)), (1, .int x1), (2, .int x2), (3, .int x3), (4, .int x4)]) C dX4_gap_49 rfl (by decide) rfl ?_
          refine g_sub (lv' := [(0, .ref (bd 0)), (1, .int x1), (2, .int x2), (3, .int x3), (4, .int x4), (5, .int (0 : Int32)), (6, .int (0 : Int32))]) [2, 3, 4, 5, 6, 1, 0] rfl ?_
          obtain ⟨n51, hv⟩ := hv
          exact wvX4_gap_L51 C RT  n51 _ _ hv
      · have hv := hv2 c
        refine g_iconst (pc' := 24) (v := (1 : Int32)) C dX4_gap_23 rfl (by decide) ?_
        refine g_goto (tgt := 42) C dX4_gap_24 (by decide) ?_
        refine pf_X4_38 (pc' := 45) (ws' := wN γ bd pl msn (1 : Int32) mpar mcel mhel mclo msea mwei msha mmon) C dX4_gap_42 rfl 0 rfl rfl rfl (Nat.le_of_ble_eq_true rfl) rfl ?_
        refine g_iconst (pc' := 46) (v := (0 : Int32)) C dX4_gap_45 rfl (by decide) ?_
        refine g_istore (pc' := 48) (lv' := [(5, .int (0 : Int32)), (0, .ref (bd 0)), (1, .int x1), (2, .int x2), (3, .int x3), (4, .int x4)]) C dX4_gap_46 rfl (by decide) rfl ?_
        refine g_iconst (pc' := 49) (v := (0 : Int32)) C dX4_gap_48 rfl (by decide) ?_
        refine g_istore (pc' := 51) (lv' := [(6, .int (0 : Int32)), (5, .int (0 : Int32)), (0, .ref (bd 0)), (1, .int x1), (2, .int x2), (3, .int x3), (4, .int x4)]) C dX4_gap_49 rfl (by decide) rfl ?_
        refine g_sub (lv' := [(0, .ref (bd 0)), (1, .int x1), (2, .int x2), (3, .int x3), (4, .int x4), (5, .int (0 : Int32)), (6, .int (0 : Int32))]) [2, 3, 4, 5, 6, 1, 0] rfl ?_
        obtain ⟨n51, hv⟩ := hv
        exact wvX4_gap_L51 C RT  n51 _ _ hv)
