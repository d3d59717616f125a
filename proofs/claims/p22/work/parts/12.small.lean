/-! formulas and walks, by program -/
def vX0_at (amt : Ar) (x1 : Int32) (x2 : Int32) (x3 : Int32) (x4 : Int32) (Q : Int32 → Prop) : Prop := (vX0_indexOf x1 x2 x3 x4 (fun r9 => (vp_in r9 1440 ∧ (Q (amt r9.toNatClampNeg)))))
set_option maxHeartbeats 4000000 in
set_option maxRecDepth 100000 in
theorem mtX0_at {l : Launch} {γ : Gm} {h0 : Nat} {h1 : Nat} {amt : Ar} {x1 : Int32} {x2 : Int32} {x3 : Int32} {x4 : Int32} {Q : Int32 → Prop} (hv : vX0_at amt x1 x2 x3 x4 Q) : CtI l γ yX0_at cX0_at 5 .int 1 23 0 0 [.ref h0, .int x1, .int x2, .int x3, .int x4] (wC γ h0 h1 amt) (fun (r : Int32) (_ : Unit) => Q r) (fun _ => wC γ h0 h1 amt) := startI (by decide +kernel) (Nat.le_of_ble_eq_true rfl) (fun κ C RT hR hnm => by
  show G l γ κ (wC γ h0 h1 amt) [(0, .ref h0), (1, .int x1), (2, .int x2), (3, .int x3), (4, .int x4)] 0 0 [] 0
  refine g_aload_n (pc' := 1) C dX0_at_0 rfl rfl rfl ?_
  refine gf_X0_11 (pc' := 4) C dX0_at_1 rfl 0 rfl rfl ?_
  refine g_iload_n (pc' := 5) C dX0_at_4 rfl rfl rfl ?_
  refine g_iload_n (pc' := 6) C dX0_at_5 rfl rfl rfl ?_
  refine g_iload_n (pc' := 7) C dX0_at_6 rfl rfl rfl ?_
  refine g_iload (pc' := 9) C dX0_at_7 rfl rfl ?_
  refine cnI (pc' := 12) C (run_SI (rest := [.ref h1]) C lk_X0_15 (mtX0_indexOf hv) ⟨by decide, by decide⟩ rfl rfl (Nat.le_of_ble_eq_true rfl) ⟨Nat.zero_le _, Nat.zero_le _⟩ dX0_at_9) rfl (fun r9 u9 hv => ?_)
  obtain ⟨hi, hv⟩ := hv
  refine g_iald (pc' := 13) C dX0_at_12 rfl 1 rfl hi ?_
  exact RT (amt r9.toNatClampNeg) () _ _ _ _ dX0_at_13 rfl (by decide) (by decide) hv)
def vX0_put (amt : Ar) (x1 : Int32) (x2 : Int32) (x3 : Int32) (x4 : Int32) (x5 : Int32) (Q : Int32 → (Ar) → Prop) : Prop := (vX0_indexOf x1 x2 x3 x4 (fun r5 => (vp_in r5 1440 ∧ (vp_in r5 1440 ∧ (Q (amt r5.toNatClampNeg) (upd amt r5.toNatClampNeg x5))))))
set_option maxHeartbeats 4000000 in
set_option maxRecDepth 100000 in
theorem mtX0_put {l : Launch} {γ : Gm} {h0 : Nat} {h1 : Nat} {amt : Ar} {x1 : Int32} {x2 : Int32} {x3 : Int32} {x4 : Int32} {x5 : Int32} {Q : Int32 → (Ar) → Prop} (hv : vX0_put amt x1 x2 x3 x4 x5 Q) : CtI l γ yX0_put cX0_put 8 .int 1 23 0 0 [.ref h0, .int x1, .int x2, .int x3, .int x4, .int x5] (wC γ h0 h1 amt) (fun (r : Int32) (u : Ar) => Q r u) (fun u => wC γ h0 h1 u) := startI (by decide +kernel) (Nat.le_of_ble_eq_true rfl) (fun κ C RT hR hnm => by
  show G l γ κ (wC γ h0 h1 amt) [(0, .ref h0), (1, .int x1), (2, .int x2), (3, .int x3), (4, .int x4), (5, .int x5)] 0 0 [] 0
  refine g_iload_n (pc' := 1) C dX0_put_0 rfl rfl rfl ?_
  refine g_iload_n (pc' := 2) C dX0_put_1 rfl rfl rfl ?_
  refine g_iload_n (pc' := 3) C dX0_put_2 rfl rfl rfl ?_
  refine g_iload (pc' := 5) C dX0_put_3 rfl rfl ?_
  refine cnI (pc' := 8) C (run_SI (rest := []) C lk_X0_15 (mtX0_indexOf hv) ⟨by decide, by decide⟩ rfl rfl (Nat.le_of_ble_eq_true rfl) ⟨Nat.zero_le _, Nat.zero_le _⟩ dX0_put_5) rfl (fun r5 u5 hv => ?_)
  refine g_istore (pc' := 10) (lv' := [(6, .int r5), (0, .ref h0), (1, .int x1), (2, .int x2), (3, .int x3), (4, .int x4), (5, .int x5)]) C dX0_put_8 rfl (by decide) rfl ?_
  refine g_aload_n (pc' := 11) C dX0_put_10 rfl rfl rfl ?_
  refine gf_X0_11 (pc' := 14) C dX0_put_11 rfl 0 rfl rfl ?_
  refine g_iload (pc' := 16) C dX0_put_14 rfl rfl ?_
  obtain ⟨hi, hv⟩ := hv
  refine g_iald (pc' := 17) C dX0_put_16 rfl 1 rfl hi ?_
  refine g_istore (pc' := 19) (lv' := [(7, .int (amt r5.toNatClampNeg)), (6, .int r5), (0, .ref h0), (1, .int x1), (2, .int x2), (3, .int x3), (4, .int x4), (5, .int x5)]) C dX0_put_17 rfl (by decide) rfl ?_
  refine g_aload_n (pc' := 20) C dX0_put_19 rfl rfl rfl ?_
  refine gf_X0_11 (pc' := 23) C dX0_put_20 rfl 0 rfl rfl ?_
  refine g_iload (pc' := 25) C dX0_put_23 rfl rfl ?_
  refine g_iload (pc' := 27) C dX0_put_25 rfl rfl ?_
  obtain ⟨hi, hv⟩ := hv
  refine g_iast (pc' := 28) (ws' := wC γ h0 h1 (upd amt r5.toNatClampNeg x5)) C dX0_put_27 rfl 1 rfl hi rfl ?_
  refine g_iload (pc' := 30) C dX0_put_28 rfl rfl ?_
  exact RT (amt r5.toNatClampNeg) (upd amt r5.toNatClampNeg x5) _ _ _ _ dX0_put_30 rfl (by decide) (by decide) hv)
def vX0_valueOf (amt : Ar) (x1 : Int32) (x2 : Int32) (x3 : Int32) (x4 : Int32) (Q : Int32 → Prop) : Prop := ((¬ x3 = (3 : Int32) → (vX0_at amt x1 x2 x3 x4 (fun r31 => (Q r31)))) ∧ (x3 = (3 : Int32) → (vX0_at amt x1 x2 (0 : Int32) x4 (fun r11 => (vX0_at amt x1 x2 (1 : Int32) x4 (fun r20 => (Q (r11 * r20))))))))
set_option maxHeartbeats 4000000 in
set_option maxRecDepth 100000 in
theorem mtX0_valueOf {l : Launch} {γ : Gm} {h0 : Nat} {h1 : Nat} {amt : Ar} {x1 : Int32} {x2 : Int32} {x3 : Int32} {x4 : Int32} {Q : Int32 → Prop} (hv : vX0_valueOf amt x1 x2 x3 x4 Q) : CtI l γ yX0_valueOf cX0_valueOf 5 .int 2 47 0 0 [.ref h0, .int x1, .int x2, .int x3, .int x4] (wC γ h0 h1 amt) (fun (r : Int32) (_ : Unit) => Q r) (fun _ => wC γ h0 h1 amt) := startI (by decide +kernel) (Nat.le_of_ble_eq_true rfl) (fun κ C RT hR hnm => by
  show G l γ κ (wC γ h0 h1 amt) [(0, .ref h0), (1, .int x1), (2, .int x2), (3, .int x3), (4, .int x4)] 0 0 [] 0
  refine g_iload_n (pc' := 1) C dX0_valueOf_0 rfl rfl rfl ?_
  refine g_iconst (pc' := 2) (v := (3 : Int32)) C dX0_valueOf_1 rfl (by decide) ?_
  obtain ⟨hv1, hv2⟩ := hv
  refine g_icmp_ne (pc' := 5) (tgt := 25) C dX0_valueOf_2 rfl (by decide) (fun c => ?_) (fun c => ?_)
  · have hv := hv1 c
    refine g_aload_n (pc' := 26) C dX0_valueOf_25 rfl rfl rfl ?_
    refine g_iload_n (pc' := 27) C dX0_valueOf_26 rfl rfl rfl ?_
    refine g_iload_n (pc' := 28) C dX0_valueOf_27 rfl rfl rfl ?_
    refine g_iload_n (pc' := 29) C dX0_valueOf_28 rfl rfl rfl ?_
    refine g_iload (pc' := 31) C dX0_valueOf_29 rfl rfl ?_
    refine csI (pc' := 34) C (run_VI (rest := []) C lk_X0_19 (mtX0_at hv) ⟨by decide, by decide⟩ rfl rfl rfl rfl (Nat.le_of_ble_eq_true rfl) ⟨Nat.zero_le _, Nat.zero_le _⟩ dX0_valueOf_31) rfl (fun r31 u31 hv => ?_)
    exact RT r31 () _ _ _ _ dX0_valueOf_34 rfl (by decide) (by decide) hv
  · have hv := hv2 c
    refine g_aload_n (pc' := 6) C dX0_valueOf_5 rfl rfl rfl ?_
    refine g_iload_n (pc' := 7) C dX0_valueOf_6 rfl rfl rfl ?_
    refine g_iload_n (pc' := 8) C dX0_valueOf_7 rfl rfl rfl ?_
    refine g_iconst (pc' := 9) (v := (0 : Int32)) C dX0_valueOf_8 rfl (by decide) ?_
    refine g_iload (pc' := 11) C dX0_valueOf_9 rfl rfl ?_
    refine csI (pc' := 14) C (run_VI (rest := []) C lk_X0_19 (mtX0_at hv) ⟨by decide, by decide⟩ rfl rfl rfl rfl (Nat.le_of_ble_eq_true rfl) ⟨Nat.zero_le _, Nat.zero_le _⟩ dX0_valueOf_11) rfl (fun r11 u11 hv => ?_)
    refine g_aload_n (pc' := 15) C dX0_valueOf_14 rfl rfl rfl ?_
    refine g_iload_n (pc' := 16) C dX0_valueOf_15 rfl rfl rfl ?_
    refine g_iload_n (pc' := 17) C dX0_valueOf_16 rfl rfl rfl ?_
    refine g_iconst (pc' := 18) (v := (1 : Int32)) C dX0_valueOf_17 rfl (by decide) ?_
    refine g_iload (pc' := 20) C dX0_valueOf_18 rfl rfl ?_
    refine csI (pc' := 23) C (run_VI (rest := [.int r11]) C lk_X0_19 (mtX0_at hv) ⟨by decide, by decide⟩ rfl rfl rfl rfl (Nat.le_of_ble_eq_true rfl) ⟨Nat.zero_le _, Nat.zero_le _⟩ dX0_valueOf_20) rfl (fun r20 u20 hv => ?_)
    refine g_imul (pc' := 24) C dX0_valueOf_23 rfl ?_
    exact RT (r11 * r20) () _ _ _ _ dX0_valueOf_24 rfl (by decide) (by decide) hv)
def vX0_sumOver_L6 (amt : Ar) (x1 : Int32) (x2 : Int32) (x3 : Int32) (x4 : Int32) (Q : Int32 → Prop) : Nat → Int32 → Int32 → Prop
  | 0, _, _ => False
  | n + 1, x5, x6 => (((10 : Int32) ≤ x6 → (Q x5)) ∧ (¬ (10 : Int32) ≤ x6 → (vX3_isIn x2 x6 (fun r16 => ((r16 = (0 : Int32) → (vX0_sumOver_L6 amt x1 x2 x3 x4 Q n x5 (x6 + (1 : Int32)))) ∧ (¬ r16 = (0 : Int32) → (vX0_valueOf amt x1 x6 x3 x4 (fun r31 => (vX0_sumOver_L6 amt x1 x2 x3 x4 Q n (x5 + r31) (x6 + (1 : Int32)))))))))))
set_option maxHeartbeats 4000000 in
set_option maxRecDepth 100000 in
theorem wvX0_sumOver_L6 {l : Launch} {γ : Gm} {κ : Kx} {h0 : Nat} {h1 : Nat} {amt : Ar} {x1 : Int32} {x2 : Int32} {x3 : Int32} {x4 : Int32} {Q : Int32 → Prop} (C : Ok γ κ cX0_sumOver 7 RX0 3 71) (RT : RtI l γ κ cX0_sumOver .int 0 0 (fun (r : Int32) (_ : Unit) => Q r) (fun _ => wC γ h0 h1 amt))  : ∀ (n : Nat) (x5 : Int32) (x6 : Int32), vX0_sumOver_L6 amt x1 x2 x3 x4 Q n x5 x6 → G l γ κ (wC γ h0 h1 amt) [(0, .ref h0), (1, .int x1), (2, .int x2), (3, .int x3), (4, .int x4), (5, .int x5), (6, .int x6)] 0 0 [] 6 := by
  intro n
  induction n with
  | zero => intro x5 x6 hv; exact False.elim hv
  | succ n ih =>
    intro x5 x6 hv
    refine g_iload (pc' := 8) C dX0_sumOver_6 rfl rfl ?_
    refine g_bipush (pc' := 10) (v := (10 : Int32)) C dX0_sumOver_8 rfl (by decide) ?_
    obtain ⟨hv1, hv2⟩ := hv
    refine g_icmp_ge (pc' := 13) (tgt := 43) C dX0_sumOver_10 rfl (by decide) (fun c => ?_) (fun c => ?_)
    · have hv := hv1 c
      refine g_iload (pc' := 45) C dX0_sumOver_43 rfl rfl ?_
      exact RT x5 () _ _ _ _ dX0_sumOver_45 rfl (by decide) (by decide) hv
    · have hv := hv2 c
      refine g_iload_n (pc' := 14) C dX0_sumOver_13 rfl rfl rfl ?_
      refine g_iload (pc' := 16) C dX0_sumOver_14 rfl rfl ?_
      refine cnI (pc' := 19) C (run_NI (rest := []) C lk_X0_22 (mtX3_isIn hv) ⟨by decide, by decide⟩ rfl rfl (Nat.le_of_ble_eq_true rfl) ⟨Nat.zero_le _, Nat.zero_le _⟩ dX0_sumOver_16) rfl (fun r16 u16 hv => ?_)
      obtain ⟨hv1, hv2⟩ := hv
      refine g_if_eq (pc' := 22) (tgt := 37) C dX0_sumOver_19 rfl (by decide) (fun c => ?_) (fun c => ?_)
      · have hv := hv1 c
        refine g_iinc (pc' := 40) (v := (x6 + (1 : Int32))) (lv' := [(6, .int (x6 + (1 : Int32))), (0, .ref h0), (1, .int x1), (2, .int x2), (3, .int x3), (4, .int x4), (5, .int x5)]) C dX0_sumOver_37 rfl rfl rfl (by decide) rfl ?_
        refine g_goto (tgt := 6) C dX0_sumOver_40 (by decide) ?_
        refine g_sub (lv' := [(0, .ref h0), (1, .int x1), (2, .int x2), (3, .int x3), (4, .int x4), (5, .int x5), (6, .int (x6 + (1 : Int32)))]) [1, 2, 3, 4, 5, 6, 0] rfl ?_
        exact ih _ _ hv
      · have hv := hv2 c
        refine g_iload (pc' := 24) C dX0_sumOver_22 rfl rfl ?_
        refine g_aload_n (pc' := 25) C dX0_sumOver_24 rfl rfl rfl ?_
        refine g_iload_n (pc' := 26) C dX0_sumOver_25 rfl rfl rfl ?_
        refine g_iload (pc' := 28) C dX0_sumOver_26 rfl rfl ?_
        refine g_iload_n (pc' := 29) C dX0_sumOver_28 rfl rfl rfl ?_
        refine g_iload (pc' := 31) C dX0_sumOver_29 rfl rfl ?_
        refine csI (pc' := 34) C (run_VI (rest := [.int x5]) C lk_X0_26 (mtX0_valueOf hv) ⟨by decide, by decide⟩ rfl rfl rfl rfl (Nat.le_of_ble_eq_true rfl) ⟨Nat.zero_le _, Nat.zero_le _⟩ dX0_sumOver_31) rfl (fun r31 u31 hv => ?_)
        refine g_iadd (pc' := 35) C dX0_sumOver_34 rfl ?_
        refine g_istore (pc' := 37) (lv' := [(5, .int (x5 + r31)), (0, .ref h0), (1, .int x1), (2, .int x2), (3, .int x3), (4, .int x4), (6, .int x6)]) C dX0_sumOver_35 rfl (by decide) rfl ?_
        refine g_iinc (pc' := 40) (v := (x6 + (1 : Int32))) (lv' := [(6, .int (x6 + (1 : Int32))), (5, .int (x5 + r31)), (0, .ref h0), (1, .int x1), (2, .int x2), (3, .int x3), (4, .int x4)]) C dX0_sumOver_37 rfl rfl rfl (by decide) rfl ?_
        refine g_goto (tgt := 6) C dX0_sumOver_40 (by decide) ?_
        refine g_sub (lv' := [(0, .ref h0), (1, .int x1), (2, .int x2), (3, .int x3), (4, .int x4), (5, .int (x5 + r31)), (6, .int (x6 + (1 : Int32)))]) [2, 3, 4, 5, 6, 1, 0] rfl ?_
        exact ih _ _ hv
def vX0_sumOver (amt : Ar) (x1 : Int32) (x2 : Int32) (x3 : Int32) (x4 : Int32) (Q : Int32 → Prop) : Prop := (∃ n6 : Nat, vX0_sumOver_L6 amt x1 x2 x3 x4 Q n6 (0 : Int32) (0 : Int32))
set_option maxHeartbeats 4000000 in
set_option maxRecDepth 100000 in
theorem mtX0_sumOver {l : Launch} {γ : Gm} {h0 : Nat} {h1 : Nat} {amt : Ar} {x1 : Int32} {x2 : Int32} {x3 : Int32} {x4 : Int32} {Q : Int32 → Prop} (hv : vX0_sumOver amt x1 x2 x3 x4 Q) : CtI l γ yX0_sumOver cX0_sumOver 7 .int 3 71 0 0 [.ref h0, .int x1, .int x2, .int x3, .int x4] (wC γ h0 h1 amt) (fun (r : Int32) (_ : Unit) => Q r) (fun _ => wC γ h0 h1 amt) := startI (by decide +kernel) (Nat.le_of_ble_eq_true rfl) (fun κ C RT hR hnm => by
  show G l γ κ (wC γ h0 h1 amt) [(0, .ref h0), (1, .int x1), (2, .int x2), (3, .int x3), (4, .int x4)] 0 0 [] 0
  refine g_iconst (pc' := 1) (v := (0 : Int32)) C dX0_sumOver_0 rfl (by decide) ?_
  refine g_istore (pc' := 3) (lv' := [(5, .int (0 : Int32)), (0, .ref h0), (1, .int x1), (2, .int x2), (3, .int x3), (4, .int x4)]) C dX0_sumOver_1 rfl (by decide) rfl ?_
  refine g_iconst (pc' := 4) (v := (0 : Int32)) C dX0_sumOver_3 rfl (by decide) ?_
  refine g_istore (pc' := 6) (lv' := [(6, .int (0 : Int32)), (5, .int (0 : Int32)), (0, .ref h0), (1, .int x1), (2, .int x2), (3, .int x3), (4, .int x4)]) C dX0_sumOver_4 rfl (by decide) rfl ?_
  refine g_sub (lv' := [(0, .ref h0), (1, .int x1), (2, .int x2), (3, .int x3), (4, .int x4), (5, .int (0 : Int32)), (6, .int (0 : Int32))]) [2, 3, 4, 5, 6, 1, 0] rfl ?_
  obtain ⟨n6, hv⟩ := hv
  exact wvX0_sumOver_L6 C RT  n6 _ _ hv)
def vX0_yearOf_L6 (amt : Ar) (x1 : Int32) (x2 : Int32) (x3 : Int32) (Q : Int32 → Prop) : Nat → Int32 → Int32 → Prop
  | 0, _, _ => False
  | n + 1, x4, x5 => (((12 : Int32) ≤ x5 → (Q x4)) ∧ (¬ (12 : Int32) ≤ x5 → (vX0_valueOf amt x1 x2 x3 x5 (fun r21 => (vX0_yearOf_L6 amt x1 x2 x3 Q n (x4 + r21) (x5 + (1 : Int32)))))))
set_option maxHeartbeats 4000000 in
set_option maxRecDepth 100000 in
theorem wvX0_yearOf_L6 {l : Launch} {γ : Gm} {κ : Kx} {h0 : Nat} {h1 : Nat} {amt : Ar} {x1 : Int32} {x2 : Int32} {x3 : Int32} {Q : Int32 → Prop} (C : Ok γ κ cX0_yearOf 6 RX0 3 71) (RT : RtI l γ κ cX0_yearOf .int 0 0 (fun (r : Int32) (_ : Unit) => Q r) (fun _ => wC γ h0 h1 amt))  : ∀ (n : Nat) (x4 : Int32) (x5 : Int32), vX0_yearOf_L6 amt x1 x2 x3 Q n x4 x5 → G l γ κ (wC γ h0 h1 amt) [(0, .ref h0), (1, .int x1), (2, .int x2), (3, .int x3), (4, .int x4), (5, .int x5)] 0 0 [] 6 := by
  intro n
  induction n with
  | zero => intro x4 x5 hv; exact False.elim hv
  | succ n ih =>
    intro x4 x5 hv
    refine g_iload (pc' := 8) C dX0_yearOf_6 rfl rfl ?_
    refine g_bipush (pc' := 10) (v := (12 : Int32)) C dX0_yearOf_8 rfl (by decide) ?_
    obtain ⟨hv1, hv2⟩ := hv
    refine g_icmp_ge (pc' := 13) (tgt := 33) C dX0_yearOf_10 rfl (by decide) (fun c => ?_) (fun c => ?_)
    · have hv := hv1 c
      refine g_iload (pc' := 35) C dX0_yearOf_33 rfl rfl ?_
      exact RT x4 () _ _ _ _ dX0_yearOf_35 rfl (by decide) (by decide) hv
    · have hv := hv2 c
      refine g_iload (pc' := 15) C dX0_yearOf_13 rfl rfl ?_
      refine g_aload_n (pc' := 16) C dX0_yearOf_15 rfl rfl rfl ?_
      refine g_iload_n (pc' := 17) C dX0_yearOf_16 rfl rfl rfl ?_
      refine g_iload_n (pc' := 18) C dX0_yearOf_17 rfl rfl rfl ?_
      refine g_iload_n (pc' := 19) C dX0_yearOf_18 rfl rfl rfl ?_
      refine g_iload (pc' := 21) C dX0_yearOf_19 rfl rfl ?_
      refine csI (pc' := 24) C (run_VI (rest := [.int x4]) C lk_X0_26 (mtX0_valueOf hv) ⟨by decide, by decide⟩ rfl rfl rfl rfl (Nat.le_of_ble_eq_true rfl) ⟨Nat.zero_le _, Nat.zero_le _⟩ dX0_yearOf_21) rfl (fun r21 u21 hv => ?_)
      refine g_iadd (pc' := 25) C dX0_yearOf_24 rfl ?_
      refine g_istore (pc' := 27) (lv' := [(4, .int (x4 + r21)), (0, .ref h0), (1, .int x1), (2, .int x2), (3, .int x3), (5, .int x5)]) C dX0_yearOf_25 rfl (by decide) rfl ?_
      refine g_iinc (pc' := 30) (v := (x5 + (1 : Int32))) (lv' := [(5, .int (x5 + (1 : Int32))), (4, .int (x4 + r21)), (0, .ref h0), (1, .int x1), (2, .int x2), (3, .int x3)]) C dX0_yearOf_27 rfl rfl rfl (by decide) rfl ?_
      refine g_goto (tgt := 6) C dX0_yearOf_30 (by decide) ?_
      refine g_sub (lv' := [(0, .ref h0), (1, .int x1), (2, .int x2), (3, .int x3), (4, .int (x4 + r21)), (5, .int (x5 + (1 : Int32)))]) [2, 3, 4, 5, 1, 0] rfl ?_
      exact ih _ _ hv
def vX0_yearOf (amt : Ar) (x1 : Int32) (x2 : Int32) (x3 : Int32) (Q : Int32 → Prop) : Prop := (∃ n6 : Nat, vX0_yearOf_L6 amt x1 x2 x3 Q n6 (0 : Int32) (0 : Int32))
set_option maxHeartbeats 4000000 in
set_option maxRecDepth 100000 in
theorem mtX0_yearOf {l : Launch} {γ : Gm} {h0 : Nat} {h1 : Nat} {amt : Ar} {x1 : Int32} {x2 : Int32} {x3 : Int32} {Q : Int32 → Prop} (hv : vX0_yearOf amt x1 x2 x3 Q) : CtI l γ yX0_yearOf cX0_yearOf 6 .int 3 71 0 0 [.ref h0, .int x1, .int x2, .int x3] (wC γ h0 h1 amt) (fun (r : Int32) (_ : Unit) => Q r) (fun _ => wC γ h0 h1 amt) := startI (by decide +kernel) (Nat.le_of_ble_eq_true rfl) (fun κ C RT hR hnm => by
  show G l γ κ (wC γ h0 h1 amt) [(0, .ref h0), (1, .int x1), (2, .int x2), (3, .int x3)] 0 0 [] 0
  refine g_iconst (pc' := 1) (v := (0 : Int32)) C dX0_yearOf_0 rfl (by decide) ?_
  refine g_istore (pc' := 3) (lv' := [(4, .int (0 : Int32)), (0, .ref h0), (1, .int x1), (2, .int x2), (3, .int x3)]) C dX0_yearOf_1 rfl (by decide) rfl ?_
  refine g_iconst (pc' := 4) (v := (0 : Int32)) C dX0_yearOf_3 rfl (by decide) ?_
  refine g_istore (pc' := 6) (lv' := [(5, .int (0 : Int32)), (4, .int (0 : Int32)), (0, .ref h0), (1, .int x1), (2, .int x2), (3, .int x3)]) C dX0_yearOf_4 rfl (by decide) rfl ?_
  refine g_sub (lv' := [(0, .ref h0), (1, .int x1), (2, .int x2), (3, .int x3), (4, .int (0 : Int32)), (5, .int (0 : Int32))]) [2, 3, 4, 5, 1, 0] rfl ?_
  obtain ⟨n6, hv⟩ := hv
  exact wvX0_yearOf_L6 C RT  n6 _ _ hv)
def vX0_copyLayer_J56 (amt : Ar) (x1 : Int32) (x2 : Int32) (x4 : Int32) (x5 : Int32) (x6 : Int32) (s0 : Int32) (s1 : Int32) (K5 : Int32 → Int32 → Ar → Prop) (Q : Int32 → (Ar) → Prop) : Prop := (vp_in x6 1440 ∧ (K5 (s1 + s0) (x4 + (1 : Int32)) (upd amt x6.toNatClampNeg x5)))
set_option maxHeartbeats 4000000 in
set_option maxRecDepth 100000 in
theorem wvX0_copyLayer_J56 {l : Launch} {γ : Gm} {κ : Kx} {h0 : Nat} {h1 : Nat} {amt : Ar} {x1 : Int32} {x2 : Int32} {x4 : Int32} {x5 : Int32} {x6 : Int32} {s0 : Int32} {s1 : Int32} {K5 : Int32 → Int32 → Ar → Prop} {Q : Int32 → (Ar) → Prop} (C : Ok γ κ cX0_copyLayer 7 RX0 0 0) (RT : RtI l γ κ cX0_copyLayer .int 0 0 (fun (r : Int32) (u : Ar) => Q r u) (fun u => wC γ h0 h1 u)) (hK5 : ∀ (x3 : Int32) (x4 : Int32) (amt : Ar), K5 x3 x4 amt → G l γ κ (wC γ h0 h1 amt) [(0, .ref h0), (1, .int x1), (2, .int x2), (3, .int x3), (4, .int x4)] 0 0 [] 5) (hv : vX0_copyLayer_J56 amt x1 x2 x4 x5 x6 s0 s1 K5 Q) : G l γ κ (wC γ h0 h1 amt) [(0, .ref h0), (1, .int x1), (2, .int x2), (4, .int x4), (5, .int x5), (6, .int x6)] 0 0 [.int s0, .int s1] 56 := by
  refine g_iadd (pc' := 57) C dX0_copyLayer_56 rfl ?_
  refine g_istore_n (pc' := 58) (lv' := [(3, .int (s1 + s0)), (0, .ref h0), (1, .int x1), (2, .int x2), (4, .int x4), (5, .int x5), (6, .int x6)]) C dX0_copyLayer_57 rfl rfl (by decide) rfl ?_
  refine g_aload_n (pc' := 59) C dX0_copyLayer_58 rfl rfl rfl ?_
  refine gf_X0_11 (pc' := 62) C dX0_copyLayer_59 rfl 0 rfl rfl ?_
  refine g_iload (pc' := 64) C dX0_copyLayer_62 rfl rfl ?_
  refine g_iload (pc' := 66) C dX0_copyLayer_64 rfl rfl ?_
  obtain ⟨hi, hv⟩ := hv
  refine g_iast (pc' := 67) (ws' := wC γ h0 h1 (upd amt x6.toNatClampNeg x5)) C dX0_copyLayer_66 rfl 1 rfl hi rfl ?_
  refine g_iinc (pc' := 70) (v := (x4 + (1 : Int32))) (lv' := [(4, .int (x4 + (1 : Int32))), (3, .int (s1 + s0)), (0, .ref h0), (1, .int x1), (2, .int x2), (5, .int x5), (6, .int x6)]) C dX0_copyLayer_67 rfl rfl rfl (by decide) rfl ?_
  refine g_goto (tgt := 5) C dX0_copyLayer_70 (by decide) ?_
  refine g_sub (lv' := [(0, .ref h0), (1, .int x1), (2, .int x2), (3, .int (s1 + s0)), (4, .int (x4 + (1 : Int32)))]) [2, 3, 4, 1, 0] rfl ?_
  exact hK5 _ _ _ hv
def vX0_copyLayer_L5 (x1 : Int32) (x2 : Int32) (Q : Int32 → (Ar) → Prop) : Nat → Int32 → Int32 → Ar → Prop
  | 0, _, _, _ => False
  | n + 1, x3, x4, amt => (((360 : Int32) ≤ x4 → (Q x3 amt)) ∧ (¬ (360 : Int32) ≤ x4 → (vp_in ((x1 * (360 : Int32)) + x4) 1440 ∧ (vp_in ((x2 * (360 : Int32)) + x4) 1440 ∧ (((amt ((x2 * (360 : Int32)) + x4).toNatClampNeg) = (amt ((x1 * (360 : Int32)) + x4).toNatClampNeg) → (vX0_copyLayer_J56 amt x1 x2 x4 (amt ((x1 * (360 : Int32)) + x4).toNatClampNeg) ((x2 * (360 : Int32)) + x4) (0 : Int32) x3 (vX0_copyLayer_L5 x1 x2 Q n) Q)) ∧ (¬ (amt ((x2 * (360 : Int32)) + x4).toNatClampNeg) = (amt ((x1 * (360 : Int32)) + x4).toNatClampNeg) → (vX0_copyLayer_J56 amt x1 x2 x4 (amt ((x1 * (360 : Int32)) + x4).toNatClampNeg) ((x2 * (360 : Int32)) + x4) (1 : Int32) x3 (vX0_copyLayer_L5 x1 x2 Q n) Q)))))))
set_option maxHeartbeats 4000000 in
set_option maxRecDepth 100000 in
theorem wvX0_copyLayer_L5 {l : Launch} {γ : Gm} {κ : Kx} {h0 : Nat} {h1 : Nat} {x1 : Int32} {x2 : Int32} {Q : Int32 → (Ar) → Prop} (C : Ok γ κ cX0_copyLayer 7 RX0 0 0) (RT : RtI l γ κ cX0_copyLayer .int 0 0 (fun (r : Int32) (u : Ar) => Q r u) (fun u => wC γ h0 h1 u))  : ∀ (n : Nat) (x3 : Int32) (x4 : Int32) (amt : Ar), vX0_copyLayer_L5 x1 x2 Q n x3 x4 amt → G l γ κ (wC γ h0 h1 amt) [(0, .ref h0), (1, .int x1), (2, .int x2), (3, .int x3), (4, .int x4)] 0 0 [] 5 := by
  intro n
  induction n with
  | zero => intro x3 x4 amt hv; exact False.elim hv
  | succ n ih =>
    intro x3 x4 amt hv
    refine g_iload (pc' := 7) C dX0_copyLayer_5 rfl rfl ?_
    refine g_sipush (pc' := 10) (v := (360 : Int32)) C dX0_copyLayer_7 rfl (by decide) ?_
    obtain ⟨hv1, hv2⟩ := hv
    refine g_icmp_ge (pc' := 13) (tgt := 73) C dX0_copyLayer_10 rfl (by decide) (fun c => ?_) (fun c => ?_)
    · have hv := hv1 c
      refine g_iload_n (pc' := 74) C dX0_copyLayer_73 rfl rfl rfl ?_
      exact RT x3 amt _ _ _ _ dX0_copyLayer_74 rfl (by decide) (by decide) hv
    · have hv := hv2 c
      refine g_aload_n (pc' := 14) C dX0_copyLayer_13 rfl rfl rfl ?_
      refine gf_X0_11 (pc' := 17) C dX0_copyLayer_14 rfl 0 rfl rfl ?_
      refine g_iload_n (pc' := 18) C dX0_copyLayer_17 rfl rfl rfl ?_
      refine g_sipush (pc' := 21) (v := (360 : Int32)) C dX0_copyLayer_18 rfl (by decide) ?_
      refine g_imul (pc' := 22) C dX0_copyLayer_21 rfl ?_
      refine g_iload (pc' := 24) C dX0_copyLayer_22 rfl rfl ?_
      refine g_iadd (pc' := 25) C dX0_copyLayer_24 rfl ?_
      obtain ⟨hi, hv⟩ := hv
      refine g_iald (pc' := 26) C dX0_copyLayer_25 rfl 1 rfl hi ?_
      refine g_istore (pc' := 28) (lv' := [(5, .int (amt ((x1 * (360 : Int32)) + x4).toNatClampNeg)), (0, .ref h0), (1, .int x1), (2, .int x2), (3, .int x3), (4, .int x4)]) C dX0_copyLayer_26 rfl (by decide) rfl ?_
      refine g_iload_n (pc' := 29) C dX0_copyLayer_28 rfl rfl rfl ?_
      refine g_sipush (pc' := 32) (v := (360 : Int32)) C dX0_copyLayer_29 rfl (by decide) ?_
      refine g_imul (pc' := 33) C dX0_copyLayer_32 rfl ?_
      refine g_iload (pc' := 35) C dX0_copyLayer_33 rfl rfl ?_
      refine g_iadd (pc' := 36) C dX0_copyLayer_35 rfl ?_
      refine g_istore (pc' := 38) (lv' := [(6, .int ((x2 * (360 : Int32)) + x4)), (5, .int (amt ((x1 * (360 : Int32)) + x4).toNatClampNeg)), (0, .ref h0), (1, .int x1), (2, .int x2), (3, .int x3), (4, .int x4)]) C dX0_copyLayer_36 rfl (by decide) rfl ?_
      refine g_iload_n (pc' := 39) C dX0_copyLayer_38 rfl rfl rfl ?_
      refine g_aload_n (pc' := 40) C dX0_copyLayer_39 rfl rfl rfl ?_
      refine gf_X0_11 (pc' := 43) C dX0_copyLayer_40 rfl 0 rfl rfl ?_
      refine g_iload (pc' := 45) C dX0_copyLayer_43 rfl rfl ?_
      obtain ⟨hi, hv⟩ := hv
      refine g_iald (pc' := 46) C dX0_copyLayer_45 rfl 1 rfl hi ?_
      refine g_iload (pc' := 48) C dX0_copyLayer_46 rfl rfl ?_
      obtain ⟨hv1, hv2⟩ := hv
      refine g_icmp_eq (pc' := 51) (tgt := 55) C dX0_copyLayer_48 rfl (by decide) (fun c => ?_) (fun c => ?_)
      · have hv := hv1 c
        refine g_iconst (pc' := 56) (v := (0 : Int32)) C dX0_copyLayer_55 rfl (by decide) ?_
        refine g_sub (lv' := [(0, .ref h0), (1, .int x1), (2, .int x2), (4, .int x4), (5, .int (amt ((x1 * (360 : Int32)) + x4).toNatClampNeg)), (6, .int ((x2 * (360 : Int32)) + x4))]) [2, 3, 4, 6, 1, 0] rfl ?_
        exact wvX0_copyLayer_J56 C RT ih hv
      · have hv := hv2 c
        refine g_iconst (pc' := 52) (v := (1 : Int32)) C dX0_copyLayer_51 rfl (by decide) ?_
        refine g_goto (tgt := 56) C dX0_copyLayer_52 (by decide) ?_
        refine g_sub (lv' := [(0, .ref h0), (1, .int x1), (2, .int x2), (4, .int x4), (5, .int (amt ((x1 * (360 : Int32)) + x4).toNatClampNeg)), (6, .int ((x2 * (360 : Int32)) + x4))]) [2, 3, 4, 6, 1, 0] rfl ?_
        exact wvX0_copyLayer_J56 C RT ih hv
def vX0_copyLayer (amt : Ar) (x1 : Int32) (x2 : Int32) (Q : Int32 → (Ar) → Prop) : Prop := (∃ n5 : Nat, vX0_copyLayer_L5 x1 x2 Q n5 (0 : Int32) (0 : Int32) amt)
set_option maxHeartbeats 4000000 in
set_option maxRecDepth 100000 in
theorem mtX0_copyLayer {l : Launch} {γ : Gm} {h0 : Nat} {h1 : Nat} {amt : Ar} {x1 : Int32} {x2 : Int32} {Q : Int32 → (Ar) → Prop} (hv : vX0_copyLayer amt x1 x2 Q) : CtI l γ yX0_copyLayer cX0_copyLayer 7 .int 0 0 0 0 [.ref h0, .int x1, .int x2] (wC γ h0 h1 amt) (fun (r : Int32) (u : Ar) => Q r u) (fun u => wC γ h0 h1 u) := startI (by decide +kernel) (Nat.le_of_ble_eq_true rfl) (fun κ C RT hR hnm => by
  show G l γ κ (wC γ h0 h1 amt) [(0, .ref h0), (1, .int x1), (2, .int x2)] 0 0 [] 0
  refine g_iconst (pc' := 1) (v := (0 : Int32)) C dX0_copyLayer_0 rfl (by decide) ?_
  refine g_istore_n (pc' := 2) (lv' := [(3, .int (0 : Int32)), (0, .ref h0), (1, .int x1), (2, .int x2)]) C dX0_copyLayer_1 rfl rfl (by decide) rfl ?_
  refine g_iconst (pc' := 3) (v := (0 : Int32)) C dX0_copyLayer_2 rfl (by decide) ?_
  refine g_istore (pc' := 5) (lv' := [(4, .int (0 : Int32)), (3, .int (0 : Int32)), (0, .ref h0), (1, .int x1), (2, .int x2)]) C dX0_copyLayer_3 rfl (by decide) rfl ?_
  refine g_sub (lv' := [(0, .ref h0), (1, .int x1), (2, .int x2), (3, .int (0 : Int32)), (4, .int (0 : Int32))]) [2, 3, 4, 1, 0] rfl ?_
  obtain ⟨n5, hv⟩ := hv
  exact wvX0_copyLayer_L5 C RT  n5 _ _ _ hv)
def vX0_isBlank_L9 (amt : Ar) (x1 : Int32) (x2 : Int32) (K2 : Int32 → Prop) (Q : Int32 → Prop) : Nat → Int32 → Prop
  | 0, _ => False
  | n + 1, x3 => (((36 : Int32) ≤ x3 → (K2 (x2 + (1 : Int32)))) ∧ (¬ (36 : Int32) ≤ x3 → (vp_in (((x2 * (360 : Int32)) + (x1 * (36 : Int32))) + x3) 1440 ∧ (((amt (((x2 * (360 : Int32)) + (x1 * (36 : Int32))) + x3).toNatClampNeg) = (0 : Int32) → (vX0_isBlank_L9 amt x1 x2 K2 Q n (x3 + (1 : Int32)))) ∧ (¬ (amt (((x2 * (360 : Int32)) + (x1 * (36 : Int32))) + x3).toNatClampNeg) = (0 : Int32) → (Q (0 : Int32)))))))
set_option maxHeartbeats 4000000 in
set_option maxRecDepth 100000 in
theorem wvX0_isBlank_L9 {l : Launch} {γ : Gm} {κ : Kx} {h0 : Nat} {h1 : Nat} {amt : Ar} {x1 : Int32} {x2 : Int32} {K2 : Int32 → Prop} {Q : Int32 → Prop} (C : Ok γ κ cX0_isBlank 4 RX0 0 0) (RT : RtI l γ κ cX0_isBlank .boolean 0 0 (fun (r : Int32) (_ : Unit) => Q r) (fun _ => wC γ h0 h1 amt)) (hK2 : ∀ (x2 : Int32), K2 x2 → G l γ κ (wC γ h0 h1 amt) [(0, .ref h0), (1, .int x1), (2, .int x2)] 0 0 [] 2) : ∀ (n : Nat) (x3 : Int32), vX0_isBlank_L9 amt x1 x2 K2 Q n x3 → G l γ κ (wC γ h0 h1 amt) [(0, .ref h0), (1, .int x1), (2, .int x2), (3, .int x3)] 0 0 [] 9 := by
  intro n
  induction n with
  | zero => intro x3 hv; exact False.elim hv
  | succ n ih =>
    intro x3 hv
    refine g_iload_n (pc' := 10) C dX0_isBlank_9 rfl rfl rfl ?_
    refine g_bipush (pc' := 12) (v := (36 : Int32)) C dX0_isBlank_10 rfl (by decide) ?_
    obtain ⟨hv1, hv2⟩ := hv
    refine g_icmp_ge (pc' := 15) (tgt := 43) C dX0_isBlank_12 rfl (by decide) (fun c => ?_) (fun c => ?_)
    · have hv := hv1 c
      refine g_iinc (pc' := 46) (v := (x2 + (1 : Int32))) (lv' := [(2, .int (x2 + (1 : Int32))), (0, .ref h0), (1, .int x1), (3, .int x3)]) C dX0_isBlank_43 rfl rfl rfl (by decide) rfl ?_
      refine g_goto (tgt := 2) C dX0_isBlank_46 (by decide) ?_
      refine g_sub (lv' := [(0, .ref h0), (1, .int x1), (2, .int (x2 + (1 : Int32)))]) [1, 2, 0] rfl ?_
      exact hK2 _ hv
    · have hv := hv2 c
      refine g_aload_n (pc' := 16) C dX0_isBlank_15 rfl rfl rfl ?_
      refine gf_X0_11 (pc' := 19) C dX0_isBlank_16 rfl 0 rfl rfl ?_
      refine g_iload_n (pc' := 20) C dX0_isBlank_19 rfl rfl rfl ?_
      refine g_sipush (pc' := 23) (v := (360 : Int32)) C dX0_isBlank_20 rfl (by decide) ?_
      refine g_imul (pc' := 24) C dX0_isBlank_23 rfl ?_
      refine g_iload_n (pc' := 25) C dX0_isBlank_24 rfl rfl rfl ?_
      refine g_bipush (pc' := 27) (v := (36 : Int32)) C dX0_isBlank_25 rfl (by decide) ?_
      refine g_imul (pc' := 28) C dX0_isBlank_27 rfl ?_
      refine g_iadd (pc' := 29) C dX0_isBlank_28 rfl ?_
      refine g_iload_n (pc' := 30) C dX0_isBlank_29 rfl rfl rfl ?_
      refine g_iadd (pc' := 31) C dX0_isBlank_30 rfl ?_
      obtain ⟨hi, hv⟩ := hv
      refine g_iald (pc' := 32) C dX0_isBlank_31 rfl 1 rfl hi ?_
      obtain ⟨hv1, hv2⟩ := hv
      refine g_if_eq (pc' := 35) (tgt := 37) C dX0_isBlank_32 rfl (by decide) (fun c => ?_) (fun c => ?_)
      · have hv := hv1 c
        refine g_iinc (pc' := 40) (v := (x3 + (1 : Int32))) (lv' := [(3, .int (x3 + (1 : Int32))), (0, .ref h0), (1, .int x1), (2, .int x2)]) C dX0_isBlank_37 rfl rfl rfl (by decide) rfl ?_
        refine g_goto (tgt := 9) C dX0_isBlank_40 (by decide) ?_
        refine g_sub (lv' := [(0, .ref h0), (1, .int x1), (2, .int x2), (3, .int (x3 + (1 : Int32)))]) [1, 2, 3, 0] rfl ?_
        exact ih _ hv
      · have hv := hv2 c
        refine g_iconst (pc' := 36) (v := (0 : Int32)) C dX0_isBlank_35 rfl (by decide) ?_
        exact RT (0 : Int32) () _ _ _ _ dX0_isBlank_36 rfl (by decide) (by decide) hv
def vX0_isBlank_L2 (amt : Ar) (x1 : Int32) (Q : Int32 → Prop) : Nat → Int32 → Prop
  | 0, _ => False
  | n + 1, x2 => (((4 : Int32) ≤ x2 → (Q (1 : Int32))) ∧ (¬ (4 : Int32) ≤ x2 → (∃ n9 : Nat, vX0_isBlank_L9 amt x1 x2 (vX0_isBlank_L2 amt x1 Q n) Q n9 (0 : Int32))))
set_option maxHeartbeats 4000000 in
set_option maxRecDepth 100000 in
theorem wvX0_isBlank_L2 {l : Launch} {γ : Gm} {κ : Kx} {h0 : Nat} {h1 : Nat} {amt : Ar} {x1 : Int32} {Q : Int32 → Prop} (C : Ok γ κ cX0_isBlank 4 RX0 0 0) (RT : RtI l γ κ cX0_isBlank .boolean 0 0 (fun (r : Int32) (_ : Unit) => Q r) (fun _ => wC γ h0 h1 amt))  : ∀ (n : Nat) (x2 : Int32), vX0_isBlank_L2 amt x1 Q n x2 → G l γ κ (wC γ h0 h1 amt) [(0, .ref h0), (1, .int x1), (2, .int x2)] 0 0 [] 2 := by
  intro n
  induction n with
  | zero => intro x2 hv; exact False.elim hv
  | succ n ih =>
    intro x2 hv
    refine g_iload_n (pc' := 3) C dX0_isBlank_2 rfl rfl rfl ?_
    refine g_iconst (pc' := 4) (v := (4 : Int32)) C dX0_isBlank_3 rfl (by decide) ?_
    obtain ⟨hv1, hv2⟩ := hv
    refine g_icmp_ge (pc' := 7) (tgt := 49) C dX0_isBlank_4 rfl (by decide) (fun c => ?_) (fun c => ?_)
    · have hv := hv1 c
      refine g_iconst (pc' := 50) (v := (1 : Int32)) C dX0_isBlank_49 rfl (by decide) ?_
      exact RT (1 : Int32) () _ _ _ _ dX0_isBlank_50 rfl (by decide) (by decide) hv
    · have hv := hv2 c
      refine g_iconst (pc' := 8) (v := (0 : Int32)) C dX0_isBlank_7 rfl (by decide) ?_
      refine g_istore_n (pc' := 9) (lv' := [(3, .int (0 : Int32)), (0, .ref h0), (1, .int x1), (2, .int x2)]) C dX0_isBlank_8 rfl rfl (by decide) rfl ?_
      refine g_sub (lv' := [(0, .ref h0), (1, .int x1), (2, .int x2), (3, .int (0 : Int32))]) [1, 2, 3, 0] rfl ?_
      obtain ⟨n9, hv⟩ := hv
      exact wvX0_isBlank_L9 C RT ih n9 _ hv
def vX0_isBlank (amt : Ar) (x1 : Int32) (Q : Int32 → Prop) : Prop := (∃ n2 : Nat, vX0_isBlank_L2 amt x1 Q n2 (0 : Int32))
set_option maxHeartbeats 4000000 in
set_option maxRecDepth 100000 in
theorem mtX0_isBlank {l : Launch} {γ : Gm} {h0 : Nat} {h1 : Nat} {amt : Ar} {x1 : Int32} {Q : Int32 → Prop} (hv : vX0_isBlank amt x1 Q) : CtI l γ yX0_isBlank cX0_isBlank 4 .boolean 0 0 0 0 [.ref h0, .int x1] (wC γ h0 h1 amt) (fun (r : Int32) (_ : Unit) => Q r) (fun _ => wC γ h0 h1 amt) := startI (by decide +kernel) (Nat.le_of_ble_eq_true rfl) (fun κ C RT hR hnm => by
  show G l γ κ (wC γ h0 h1 amt) [(0, .ref h0), (1, .int x1)] 0 0 [] 0
  refine g_iconst (pc' := 1) (v := (0 : Int32)) C dX0_isBlank_0 rfl (by decide) ?_
  refine g_istore_n (pc' := 2) (lv' := [(2, .int (0 : Int32)), (0, .ref h0), (1, .int x1)]) C dX0_isBlank_1 rfl rfl (by decide) rfl ?_
  refine g_sub (lv' := [(0, .ref h0), (1, .int x1), (2, .int (0 : Int32))]) [1, 2, 0] rfl ?_
  obtain ⟨n2, hv⟩ := hv
  exact wvX0_isBlank_L2 C RT  n2 _ hv)
def vX0_countFilled_L4 (amt : Ar) (Q : Int32 → Prop) : Nat → Int32 → Int32 → Prop
  | 0, _, _ => False
  | n + 1, x1, x2 => (((1440 : Int32) ≤ x2 → (Q x1)) ∧ (¬ (1440 : Int32) ≤ x2 → (vp_in x2 1440 ∧ (((amt x2.toNatClampNeg) = (0 : Int32) → (vX0_countFilled_L4 amt Q n (x1 + (0 : Int32)) (x2 + (1 : Int32)))) ∧ (¬ (amt x2.toNatClampNeg) = (0 : Int32) → (vX0_countFilled_L4 amt Q n (x1 + (1 : Int32)) (x2 + (1 : Int32))))))))
set_option maxHeartbeats 4000000 in
set_option maxRecDepth 100000 in
theorem wvX0_countFilled_L4 {l : Launch} {γ : Gm} {κ : Kx} {h0 : Nat} {h1 : Nat} {amt : Ar} {Q : Int32 → Prop} (C : Ok γ κ cX0_countFilled 3 RX0 0 0) (RT : RtI l γ κ cX0_countFilled .int 0 0 (fun (r : Int32) (_ : Unit) => Q r) (fun _ => wC γ h0 h1 amt))  : ∀ (n : Nat) (x1 : Int32) (x2 : Int32), vX0_countFilled_L4 amt Q n x1 x2 → G l γ κ (wC γ h0 h1 amt) [(0, .ref h0), (1, .int x1), (2, .int x2)] 0 0 [] 4 := by
  intro n
  induction n with
  | zero => intro x1 x2 hv; exact False.elim hv
  | succ n ih =>
    intro x1 x2 hv
    refine g_iload_n (pc' := 5) C dX0_countFilled_4 rfl rfl rfl ?_
    refine g_aload_n (pc' := 6) C dX0_countFilled_5 rfl rfl rfl ?_
    refine gf_X0_11 (pc' := 9) C dX0_countFilled_6 rfl 0 rfl rfl ?_
    refine g_alen (pc' := 10) (v := (1440 : Int32)) C dX0_countFilled_9 rfl 1 rfl (by decide) ?_
    obtain ⟨hv1, hv2⟩ := hv
    refine g_icmp_ge (pc' := 13) (tgt := 36) C dX0_countFilled_10 rfl (by decide) (fun c => ?_) (fun c => ?_)
    · have hv := hv1 c
      refine g_iload_n (pc' := 37) C dX0_countFilled_36 rfl rfl rfl ?_
      exact RT x1 () _ _ _ _ dX0_countFilled_37 rfl (by decide) (by decide) hv
    · have hv := hv2 c
      refine g_iload_n (pc' := 14) C dX0_countFilled_13 rfl rfl rfl ?_
      refine g_aload_n (pc' := 15) C dX0_countFilled_14 rfl rfl rfl ?_
      refine gf_X0_11 (pc' := 18) C dX0_countFilled_15 rfl 0 rfl rfl ?_
      refine g_iload_n (pc' := 19) C dX0_countFilled_18 rfl rfl rfl ?_
      obtain ⟨hi, hv⟩ := hv
      refine g_iald (pc' := 20) C dX0_countFilled_19 rfl 1 rfl hi ?_
      obtain ⟨hv1, hv2⟩ := hv
      refine g_if_eq (pc' := 23) (tgt := 27) C dX0_countFilled_20 rfl (by decide) (fun c => ?_) (fun c => ?_)
      · have hv := hv1 c
        refine g_iconst (pc' := 28) (v := (0 : Int32)) C dX0_countFilled_27 rfl (by decide) ?_
        refine g_iadd (pc' := 29) C dX0_countFilled_28 rfl ?_
        refine g_istore_n (pc' := 30) (lv' := [(1, .int (x1 + (0 : Int32))), (0, .ref h0), (2, .int x2)]) C dX0_countFilled_29 rfl rfl (by decide) rfl ?_
        refine g_iinc (pc' := 33) (v := (x2 + (1 : Int32))) (lv' := [(2, .int (x2 + (1 : Int32))), (1, .int (x1 + (0 : Int32))), (0, .ref h0)]) C dX0_countFilled_30 rfl rfl rfl (by decide) rfl ?_
        refine g_goto (tgt := 4) C dX0_countFilled_33 (by decide) ?_
        refine g_sub (lv' := [(0, .ref h0), (1, .int (x1 + (0 : Int32))), (2, .int (x2 + (1 : Int32)))]) [2, 1, 0] rfl ?_
        exact ih _ _ hv
      · have hv := hv2 c
        refine g_iconst (pc' := 24) (v := (1 : Int32)) C dX0_countFilled_23 rfl (by decide) ?_
        refine g_goto (tgt := 28) C dX0_countFilled_24 (by decide) ?_
        refine g_iadd (pc' := 29) C dX0_countFilled_28 rfl ?_
        refine g_istore_n (pc' := 30) (lv' := [(1, .int (x1 + (1 : Int32))), (0, .ref h0), (2, .int x2)]) C dX0_countFilled_29 rfl rfl (by decide) rfl ?_
        refine g_iinc (pc' := 33) (v := (x2 + (1 : Int32))) (lv' := [(2, .int (x2 + (1 : Int32))), (1, .int (x1 + (1 : Int32))), (0, .ref h0)]) C dX0_countFilled_30 rfl rfl rfl (by decide) rfl ?_
        refine g_goto (tgt := 4) C dX0_countFilled_33 (by decide) ?_
        refine g_sub (lv' := [(0, .ref h0), (1, .int (x1 + (1 : Int32))), (2, .int (x2 + (1 : Int32)))]) [2, 1, 0] rfl ?_
        exact ih _ _ hv
def vX0_countFilled (amt : Ar) (Q : Int32 → Prop) : Prop := (∃ n4 : Nat, vX0_countFilled_L4 amt Q n4 (0 : Int32) (0 : Int32))
set_option maxHeartbeats 4000000 in
set_option maxRecDepth 100000 in
theorem mtX0_countFilled {l : Launch} {γ : Gm} {h0 : Nat} {h1 : Nat} {amt : Ar} {Q : Int32 → Prop} (hv : vX0_countFilled amt Q) : CtI l γ yX0_countFilled cX0_countFilled 3 .int 0 0 0 0 [.ref h0] (wC γ h0 h1 amt) (fun (r : Int32) (_ : Unit) => Q r) (fun _ => wC γ h0 h1 amt) := startI (by decide +kernel) (Nat.le_of_ble_eq_true rfl) (fun κ C RT hR hnm => by
  show G l γ κ (wC γ h0 h1 amt) [(0, .ref h0)] 0 0 [] 0
  refine g_iconst (pc' := 1) (v := (0 : Int32)) C dX0_countFilled_0 rfl (by decide) ?_
  refine g_istore_n (pc' := 2) (lv' := [(1, .int (0 : Int32)), (0, .ref h0)]) C dX0_countFilled_1 rfl rfl (by decide) rfl ?_
  refine g_iconst (pc' := 3) (v := (0 : Int32)) C dX0_countFilled_2 rfl (by decide) ?_
  refine g_istore_n (pc' := 4) (lv' := [(2, .int (0 : Int32)), (1, .int (0 : Int32)), (0, .ref h0)]) C dX0_countFilled_3 rfl rfl (by decide) rfl ?_
  refine g_sub (lv' := [(0, .ref h0), (1, .int (0 : Int32)), (2, .int (0 : Int32))]) [2, 1, 0] rfl ?_
  obtain ⟨n4, hv⟩ := hv
  exact wvX0_countFilled_L4 C RT  n4 _ _ hv)
def vX1_weigh (wt : Ar) (x1 : Int32) (x2 : Int32) (Q : Int32 → (Ar) → Prop) : Prop := (vp_in x1 12 ∧ (vp_in x1 12 ∧ (Q (wt x1.toNatClampNeg) (upd wt x1.toNatClampNeg x2))))
set_option maxHeartbeats 4000000 in
set_option maxRecDepth 100000 in
theorem mtX1_weigh {l : Launch} {γ : Gm} {h0 : Nat} {h1 : Nat} {h2 : Nat} {wt : Ar} {sh : Ar} {x1 : Int32} {x2 : Int32} {Q : Int32 → (Ar) → Prop} (hv : vX1_weigh wt x1 x2 Q) : CtI l γ yX1_weigh cX1_weigh 4 .int 0 0 0 0 [.ref h0, .int x1, .int x2] (wS γ h0 h1 h2 wt sh) (fun (r : Int32) (u : Ar) => Q r u) (fun u => wS γ h0 h1 h2 u sh) := startI (by decide +kernel) (Nat.le_of_ble_eq_true rfl) (fun κ C RT hR hnm => by
  show G l γ κ (wS γ h0 h1 h2 wt sh) [(0, .ref h0), (1, .int x1), (2, .int x2)] 0 0 [] 0
  refine g_aload_n (pc' := 1) C dX1_weigh_0 rfl rfl rfl ?_
  refine gf_X1_9 (pc' := 4) C dX1_weigh_1 rfl 0 rfl rfl ?_
  refine g_iload_n (pc' := 5) C dX1_weigh_4 rfl rfl rfl ?_
  obtain ⟨hi, hv⟩ := hv
  refine g_iald (pc' := 6) C dX1_weigh_5 rfl 1 rfl hi ?_
  refine g_istore_n (pc' := 7) (lv' := [(3, .int (wt x1.toNatClampNeg)), (0, .ref h0), (1, .int x1), (2, .int x2)]) C dX1_weigh_6 rfl rfl (by decide) rfl ?_
  refine g_aload_n (pc' := 8) C dX1_weigh_7 rfl rfl rfl ?_
  refine gf_X1_9 (pc' := 11) C dX1_weigh_8 rfl 0 rfl rfl ?_
  refine g_iload_n (pc' := 12) C dX1_weigh_11 rfl rfl rfl ?_
  refine g_iload_n (pc' := 13) C dX1_weigh_12 rfl rfl rfl ?_
  obtain ⟨hi, hv⟩ := hv
  refine g_iast (pc' := 14) (ws' := wS γ h0 h1 h2 (upd wt x1.toNatClampNeg x2) sh) C dX1_weigh_13 rfl 1 rfl hi rfl ?_
  refine g_iload_n (pc' := 15) C dX1_weigh_14 rfl rfl rfl ?_
  exact RT (wt x1.toNatClampNeg) (upd wt x1.toNatClampNeg x2) _ _ _ _ dX1_weigh_15 rfl (by decide) (by decide) hv)
def vX1_shareOf (sh : Ar) (x1 : Int32) (Q : Int32 → Prop) : Prop := (vp_in x1 12 ∧ (Q (sh x1.toNatClampNeg)))
set_option maxHeartbeats 4000000 in
set_option maxRecDepth 100000 in
theorem mtX1_shareOf {l : Launch} {γ : Gm} {h0 : Nat} {h1 : Nat} {h2 : Nat} {wt : Ar} {sh : Ar} {x1 : Int32} {Q : Int32 → Prop} (hv : vX1_shareOf sh x1 Q) : CtI l γ yX1_shareOf cX1_shareOf 2 .int 0 0 0 0 [.ref h0, .int x1] (wS γ h0 h1 h2 wt sh) (fun (r : Int32) (_ : Unit) => Q r) (fun _ => wS γ h0 h1 h2 wt sh) := startI (by decide +kernel) (Nat.le_of_ble_eq_true rfl) (fun κ C RT hR hnm => by
  show G l γ κ (wS γ h0 h1 h2 wt sh) [(0, .ref h0), (1, .int x1)] 0 0 [] 0
  refine g_aload_n (pc' := 1) C dX1_shareOf_0 rfl rfl rfl ?_
  refine gf_X1_15 (pc' := 4) C dX1_shareOf_1 rfl 0 rfl rfl ?_
  refine g_iload_n (pc' := 5) C dX1_shareOf_4 rfl rfl rfl ?_
  obtain ⟨hi, hv⟩ := hv
  refine g_iald (pc' := 6) C dX1_shareOf_5 rfl 2 rfl hi ?_
  exact RT (sh x1.toNatClampNeg) () _ _ _ _ dX1_shareOf_6 rfl (by decide) (by decide) hv)
def vX1_totalWeight_L4 (wt : Ar) (Q : Int32 → Prop) : Nat → Int32 → Int32 → Prop
  | 0, _, _ => False
  | n + 1, x1, x2 => (((12 : Int32) ≤ x2 → (Q x1)) ∧ (¬ (12 : Int32) ≤ x2 → (vp_in x2 12 ∧ (vX1_totalWeight_L4 wt Q n (x1 + (wt x2.toNatClampNeg)) (x2 + (1 : Int32))))))
set_option maxHeartbeats 4000000 in
set_option maxRecDepth 100000 in
theorem wvX1_totalWeight_L4 {l : Launch} {γ : Gm} {κ : Kx} {h0 : Nat} {h1 : Nat} {h2 : Nat} {wt : Ar} {sh : Ar} {Q : Int32 → Prop} (C : Ok γ κ cX1_totalWeight 3 RX1 0 0) (RT : RtI l γ κ cX1_totalWeight .int 0 0 (fun (r : Int32) (_ : Unit) => Q r) (fun _ => wS γ h0 h1 h2 wt sh))  : ∀ (n : Nat) (x1 : Int32) (x2 : Int32), vX1_totalWeight_L4 wt Q n x1 x2 → G l γ κ (wS γ h0 h1 h2 wt sh) [(0, .ref h0), (1, .int x1), (2, .int x2)] 0 0 [] 4 := by
  intro n
  induction n with
  | zero => intro x1 x2 hv; exact False.elim hv
  | succ n ih =>
    intro x1 x2 hv
    refine g_iload_n (pc' := 5) C dX1_totalWeight_4 rfl rfl rfl ?_
    refine g_bipush (pc' := 7) (v := (12 : Int32)) C dX1_totalWeight_5 rfl (by decide) ?_
    obtain ⟨hv1, hv2⟩ := hv
    refine g_icmp_ge (pc' := 10) (tgt := 25) C dX1_totalWeight_7 rfl (by decide) (fun c => ?_) (fun c => ?_)
    · have hv := hv1 c
      refine g_iload_n (pc' := 26) C dX1_totalWeight_25 rfl rfl rfl ?_
      exact RT x1 () _ _ _ _ dX1_totalWeight_26 rfl (by decide) (by decide) hv
    · have hv := hv2 c
      refine g_iload_n (pc' := 11) C dX1_totalWeight_10 rfl rfl rfl ?_
      refine g_aload_n (pc' := 12) C dX1_totalWeight_11 rfl rfl rfl ?_
      refine gf_X1_9 (pc' := 15) C dX1_totalWeight_12 rfl 0 rfl rfl ?_
      refine g_iload_n (pc' := 16) C dX1_totalWeight_15 rfl rfl rfl ?_
      obtain ⟨hi, hv⟩ := hv
      refine g_iald (pc' := 17) C dX1_totalWeight_16 rfl 1 rfl hi ?_
      refine g_iadd (pc' := 18) C dX1_totalWeight_17 rfl ?_
      refine g_istore_n (pc' := 19) (lv' := [(1, .int (x1 + (wt x2.toNatClampNeg))), (0, .ref h0), (2, .int x2)]) C dX1_totalWeight_18 rfl rfl (by decide) rfl ?_
      refine g_iinc (pc' := 22) (v := (x2 + (1 : Int32))) (lv' := [(2, .int (x2 + (1 : Int32))), (1, .int (x1 + (wt x2.toNatClampNeg))), (0, .ref h0)]) C dX1_totalWeight_19 rfl rfl rfl (by decide) rfl ?_
      refine g_goto (tgt := 4) C dX1_totalWeight_22 (by decide) ?_
      refine g_sub (lv' := [(0, .ref h0), (1, .int (x1 + (wt x2.toNatClampNeg))), (2, .int (x2 + (1 : Int32)))]) [2, 1, 0] rfl ?_
      exact ih _ _ hv
def vX1_totalWeight (wt : Ar) (Q : Int32 → Prop) : Prop := (∃ n4 : Nat, vX1_totalWeight_L4 wt Q n4 (0 : Int32) (0 : Int32))
set_option maxHeartbeats 4000000 in
set_option maxRecDepth 100000 in
theorem mtX1_totalWeight {l : Launch} {γ : Gm} {h0 : Nat} {h1 : Nat} {h2 : Nat} {wt : Ar} {sh : Ar} {Q : Int32 → Prop} (hv : vX1_totalWeight wt Q) : CtI l γ yX1_totalWeight cX1_totalWeight 3 .int 0 0 0 0 [.ref h0] (wS γ h0 h1 h2 wt sh) (fun (r : Int32) (_ : Unit) => Q r) (fun _ => wS γ h0 h1 h2 wt sh) := startI (by decide +kernel) (Nat.le_of_ble_eq_true rfl) (fun κ C RT hR hnm => by
  show G l γ κ (wS γ h0 h1 h2 wt sh) [(0, .ref h0)] 0 0 [] 0
  refine g_iconst (pc' := 1) (v := (0 : Int32)) C dX1_totalWeight_0 rfl (by decide) ?_
  refine g_istore_n (pc' := 2) (lv' := [(1, .int (0 : Int32)), (0, .ref h0)]) C dX1_totalWeight_1 rfl rfl (by decide) rfl ?_
  refine g_iconst (pc' := 3) (v := (0 : Int32)) C dX1_totalWeight_2 rfl (by decide) ?_
  refine g_istore_n (pc' := 4) (lv' := [(2, .int (0 : Int32)), (1, .int (0 : Int32)), (0, .ref h0)]) C dX1_totalWeight_3 rfl rfl (by decide) rfl ?_
  refine g_sub (lv' := [(0, .ref h0), (1, .int (0 : Int32)), (2, .int (0 : Int32))]) [2, 1, 0] rfl ?_
  obtain ⟨n4, hv⟩ := hv
  exact wvX1_totalWeight_L4 C RT  n4 _ _ hv)
def vX1_divide_J46 (wt : Ar) (sh : Ar) (x1 : Int32) (x2 : Int32) (x3 : Int32) (x4 : Int32) (s0 : Int32) (s1 : Int32) (K10 : Int32 → Int32 → Ar → Prop) (Q : (Ar) → Prop) : Prop := (vp_in s1 12 ∧ (vp_in x4 12 ∧ (K10 (x3 - ((upd sh s1.toNatClampNeg s0) x4.toNatClampNeg)) (x4 + (1 : Int32)) (upd sh s1.toNatClampNeg s0))))
set_option maxHeartbeats 4000000 in
set_option maxRecDepth 100000 in
theorem wvX1_divide_J46 {l : Launch} {γ : Gm} {κ : Kx} {h0 : Nat} {h1 : Nat} {h2 : Nat} {wt : Ar} {sh : Ar} {x1 : Int32} {x2 : Int32} {x3 : Int32} {x4 : Int32} {s0 : Int32} {s1 : Int32} {K10 : Int32 → Int32 → Ar → Prop} {Q : (Ar) → Prop} (C : Ok γ κ cX1_divide 5 RX1 1 22) (RT : RtV l γ κ cX1_divide 0 0 (fun (u : Ar) => Q u) (fun u => wS γ h0 h1 h2 wt u)) (hK10 : ∀ (x3 : Int32) (x4 : Int32) (sh : Ar), K10 x3 x4 sh → G l γ κ (wS γ h0 h1 h2 wt sh) [(0, .ref h0), (1, .int x1), (2, .int x2), (3, .int x3), (4, .int x4)] 0 0 [] 10) (hv : vX1_divide_J46 wt sh x1 x2 x3 x4 s0 s1 K10 Q) : G l γ κ (wS γ h0 h1 h2 wt sh) [(0, .ref h0), (1, .int x1), (2, .int x2), (3, .int x3), (4, .int x4)] 0 0 [.int s0, .int s1, .ref h2] 46 := by
  obtain ⟨hi, hv⟩ := hv
  refine g_iast (pc' := 47) (ws' := wS γ h0 h1 h2 wt (upd sh s1.toNatClampNeg s0)) C dX1_divide_46 rfl 2 rfl hi rfl ?_
  refine g_iload_n (pc' := 48) C dX1_divide_47 rfl rfl rfl ?_
  refine g_aload_n (pc' := 49) C dX1_divide_48 rfl rfl rfl ?_
  refine gf_X1_15 (pc' := 52) C dX1_divide_49 rfl 0 rfl rfl ?_
  refine g_iload (pc' := 54) C dX1_divide_52 rfl rfl ?_
  obtain ⟨hi, hv⟩ := hv
  refine g_iald (pc' := 55) C dX1_divide_54 rfl 2 rfl hi ?_
  refine g_isub (pc' := 56) C dX1_divide_55 rfl ?_
  refine g_istore_n (pc' := 57) (lv' := [(3, .int (x3 - ((upd sh s1.toNatClampNeg s0) x4.toNatClampNeg))), (0, .ref h0), (1, .int x1), (2, .int x2), (4, .int x4)]) C dX1_divide_56 rfl rfl (by decide) rfl ?_
  refine g_iinc (pc' := 60) (v := (x4 + (1 : Int32))) (lv' := [(4, .int (x4 + (1 : Int32))), (3, .int (x3 - ((upd sh s1.toNatClampNeg s0) x4.toNatClampNeg))), (0, .ref h0), (1, .int x1), (2, .int x2)]) C dX1_divide_57 rfl rfl rfl (by decide) rfl ?_
  refine g_goto (tgt := 10) C dX1_divide_60 (by decide) ?_
  refine g_sub (lv' := [(0, .ref h0), (1, .int x1), (2, .int x2), (3, .int (x3 - ((upd sh s1.toNatClampNeg s0) x4.toNatClampNeg))), (4, .int (x4 + (1 : Int32)))]) [2, 3, 4, 1, 0] rfl ?_
  exact hK10 _ _ _ hv
def vX1_divide_L66 (wt : Ar) (Q : (Ar) → Prop) : Nat → Int32 → Int32 → Ar → Prop
  | 0, _, _, _ => False
  | n + 1, x3, x4, sh => (((12 : Int32) ≤ x4 → (Q sh)) ∧ (¬ (12 : Int32) ≤ x4 → ((x3 ≤ (0 : Int32) → (vX1_divide_L66 wt Q n x3 (x4 + (1 : Int32)) sh)) ∧ (¬ x3 ≤ (0 : Int32) → (vp_in x4 12 ∧ (((wt x4.toNatClampNeg) = (0 : Int32) → (vX1_divide_L66 wt Q n x3 (x4 + (1 : Int32)) sh)) ∧ (¬ (wt x4.toNatClampNeg) = (0 : Int32) → (vp_in x4 12 ∧ (vp_in x4 12 ∧ (vX1_divide_L66 wt Q n (x3 + (-1 : Int32)) (x4 + (1 : Int32)) (upd sh x4.toNatClampNeg ((sh x4.toNatClampNeg) + (1 : Int32)))))))))))))
set_option maxHeartbeats 4000000 in
set_option maxRecDepth 100000 in
theorem wvX1_divide_L66 {l : Launch} {γ : Gm} {κ : Kx} {h0 : Nat} {h1 : Nat} {h2 : Nat} {wt : Ar} {Q : (Ar) → Prop} (C : Ok γ κ cX1_divide 5 RX1 1 22) (RT : RtV l γ κ cX1_divide 0 0 (fun (u : Ar) => Q u) (fun u => wS γ h0 h1 h2 wt u))  : ∀ (n : Nat) (x3 : Int32) (x4 : Int32) (sh : Ar), vX1_divide_L66 wt Q n x3 x4 sh → G l γ κ (wS γ h0 h1 h2 wt sh) [(0, .ref h0), (3, .int x3), (4, .int x4)] 0 0 [] 66 := by
  intro n
  induction n with
  | zero => intro x3 x4 sh hv; exact False.elim hv
  | succ n ih =>
    intro x3 x4 sh hv
    refine g_iload (pc' := 68) C dX1_divide_66 rfl rfl ?_
    refine g_bipush (pc' := 70) (v := (12 : Int32)) C dX1_divide_68 rfl (by decide) ?_
    obtain ⟨hv1, hv2⟩ := hv
    refine g_icmp_ge (pc' := 73) (tgt := 107) C dX1_divide_70 rfl (by decide) (fun c => ?_) (fun c => ?_)
    · have hv := hv1 c
      exact RT sh _ _ _ _ dX1_divide_107 (by decide) (by decide) hv
    · have hv := hv2 c
      refine g_iload_n (pc' := 74) C dX1_divide_73 rfl rfl rfl ?_
      obtain ⟨hv1, hv2⟩ := hv
      refine g_if_le (pc' := 77) (tgt := 101) C dX1_divide_74 rfl (by decide) (fun c => ?_) (fun c => ?_)
      · have hv := hv1 c
        refine g_iinc (pc' := 104) (v := (x4 + (1 : Int32))) (lv' := [(4, .int (x4 + (1 : Int32))), (0, .ref h0), (3, .int x3)]) C dX1_divide_101 rfl rfl rfl (by decide) rfl ?_
        refine g_goto (tgt := 66) C dX1_divide_104 (by decide) ?_
        refine g_sub (lv' := [(0, .ref h0), (3, .int x3), (4, .int (x4 + (1 : Int32)))]) [1, 2, 0] rfl ?_
        exact ih _ _ _ hv
      · have hv := hv2 c
        refine g_aload_n (pc' := 78) C dX1_divide_77 rfl rfl rfl ?_
        refine gf_X1_9 (pc' := 81) C dX1_divide_78 rfl 0 rfl rfl ?_
        refine g_iload (pc' := 83) C dX1_divide_81 rfl rfl ?_
        obtain ⟨hi, hv⟩ := hv
        refine g_iald (pc' := 84) C dX1_divide_83 rfl 1 rfl hi ?_
        obtain ⟨hv1, hv2⟩ := hv
        refine g_if_eq (pc' := 87) (tgt := 101) C dX1_divide_84 rfl (by decide) (fun c => ?_) (fun c => ?_)
        · have hv := hv1 c
          refine g_iinc (pc' := 104) (v := (x4 + (1 : Int32))) (lv' := [(4, .int (x4 + (1 : Int32))), (0, .ref h0), (3, .int x3)]) C dX1_divide_101 rfl rfl rfl (by decide) rfl ?_
          refine g_goto (tgt := 66) C dX1_divide_104 (by decide) ?_
          refine g_sub (lv' := [(0, .ref h0), (3, .int x3), (4, .int (x4 + (1 : Int32)))]) [1, 2, 0] rfl ?_
          exact ih _ _ _ hv
        · have hv := hv2 c
          refine g_aload_n (pc' := 88) C dX1_divide_87 rfl rfl rfl ?_
          refine gf_X1_15 (pc' := 91) C dX1_divide_88 rfl 0 rfl rfl ?_
          refine g_iload (pc' := 93) C dX1_divide_91 rfl rfl ?_
          refine g_dup2 (pc' := 94) C dX1_divide_93 rfl rfl rfl ?_
          obtain ⟨hi, hv⟩ := hv
          refine g_iald (pc' := 95) C dX1_divide_94 rfl 2 rfl hi ?_
          refine g_iconst (pc' := 96) (v := (1 : Int32)) C dX1_divide_95 rfl (by decide) ?_
          refine g_iadd (pc' := 97) C dX1_divide_96 rfl ?_
          obtain ⟨hi, hv⟩ := hv
          refine g_iast (pc' := 98) (ws' := wS γ h0 h1 h2 wt (upd sh x4.toNatClampNeg ((sh x4.toNatClampNeg) + (1 : Int32)))) C dX1_divide_97 rfl 2 rfl hi rfl ?_
          refine g_iinc (pc' := 101) (v := (x3 + (-1 : Int32))) (lv' := [(3, .int (x3 + (-1 : Int32))), (0, .ref h0), (4, .int x4)]) C dX1_divide_98 rfl rfl rfl (by decide) rfl ?_
          refine g_iinc (pc' := 104) (v := (x4 + (1 : Int32))) (lv' := [(4, .int (x4 + (1 : Int32))), (3, .int (x3 + (-1 : Int32))), (0, .ref h0)]) C dX1_divide_101 rfl rfl rfl (by decide) rfl ?_
          refine g_goto (tgt := 66) C dX1_divide_104 (by decide) ?_
          refine g_sub (lv' := [(0, .ref h0), (3, .int (x3 + (-1 : Int32))), (4, .int (x4 + (1 : Int32)))]) [2, 1, 0] rfl ?_
          exact ih _ _ _ hv
def vX1_divide_L10 (wt : Ar) (x1 : Int32) (x2 : Int32) (Q : (Ar) → Prop) : Nat → Int32 → Int32 → Ar → Prop
  | 0, _, _, _ => False
  | n + 1, x3, x4, sh => (((12 : Int32) ≤ x4 → (∃ n66 : Nat, vX1_divide_L66 wt Q n66 x3 (0 : Int32) sh)) ∧ (¬ (12 : Int32) ≤ x4 → ((¬ x2 = (0 : Int32) → (vp_in x4 12 ∧ (¬ x2.toInt64 = 0 ∧ (vX1_divide_J46 wt sh x1 x2 x3 x4 ((x1.toInt64 * (wt x4.toNatClampNeg).toInt64) / x2.toInt64).toInt32 x4 (vX1_divide_L10 wt x1 x2 Q n) Q)))) ∧ (x2 = (0 : Int32) → (vX1_divide_J46 wt sh x1 x2 x3 x4 (0 : Int32) x4 (vX1_divide_L10 wt x1 x2 Q n) Q)))))
set_option maxHeartbeats 4000000 in
set_option maxRecDepth 100000 in
theorem wvX1_divide_L10 {l : Launch} {γ : Gm} {κ : Kx} {h0 : Nat} {h1 : Nat} {h2 : Nat} {wt : Ar} {x1 : Int32} {x2 : Int32} {Q : (Ar) → Prop} (C : Ok γ κ cX1_divide 5 RX1 1 22) (RT : RtV l γ κ cX1_divide 0 0 (fun (u : Ar) => Q u) (fun u => wS γ h0 h1 h2 wt u))  : ∀ (n : Nat) (x3 : Int32) (x4 : Int32) (sh : Ar), vX1_divide_L10 wt x1 x2 Q n x3 x4 sh → G l γ κ (wS γ h0 h1 h2 wt sh) [(0, .ref h0), (1, .int x1), (2, .int x2), (3, .int x3), (4, .int x4)] 0 0 [] 10 := by
  intro n
  induction n with
  | zero => intro x3 x4 sh hv; exact False.elim hv
  | succ n ih =>
    intro x3 x4 sh hv
    refine g_iload (pc' := 12) C dX1_divide_10 rfl rfl ?_
    refine g_bipush (pc' := 14) (v := (12 : Int32)) C dX1_divide_12 rfl (by decide) ?_
    obtain ⟨hv1, hv2⟩ := hv
    refine g_icmp_ge (pc' := 17) (tgt := 63) C dX1_divide_14 rfl (by decide) (fun c => ?_) (fun c => ?_)
    · have hv := hv1 c
      refine g_iconst (pc' := 64) (v := (0 : Int32)) C dX1_divide_63 rfl (by decide) ?_
      refine g_istore (pc' := 66) (lv' := [(4, .int (0 : Int32)), (0, .ref h0), (1, .int x1), (2, .int x2), (3, .int x3)]) C dX1_divide_64 rfl (by decide) rfl ?_
      refine g_sub (lv' := [(0, .ref h0), (3, .int x3), (4, .int (0 : Int32))]) [1, 4, 0] rfl ?_
      obtain ⟨n66, hv⟩ := hv
      exact wvX1_divide_L66 C RT  n66 _ _ _ hv
    · have hv := hv2 c
      refine g_aload_n (pc' := 18) C dX1_divide_17 rfl rfl rfl ?_
      refine gf_X1_15 (pc' := 21) C dX1_divide_18 rfl 0 rfl rfl ?_
      refine g_iload (pc' := 23) C dX1_divide_21 rfl rfl ?_
      refine g_iload_n (pc' := 24) C dX1_divide_23 rfl rfl rfl ?_
      obtain ⟨hv1, hv2⟩ := hv
      refine g_if_ne (pc' := 27) (tgt := 31) C dX1_divide_24 rfl (by decide) (fun c => ?_) (fun c => ?_)
      · have hv := hv1 c
        refine g_iload_n (pc' := 32) C dX1_divide_31 rfl rfl rfl ?_
        refine g_i2l (pc' := 33) C dX1_divide_32 rfl ?_
        refine g_aload_n (pc' := 34) C dX1_divide_33 rfl rfl rfl ?_
        refine gf_X1_9 (pc' := 37) C dX1_divide_34 rfl 0 rfl rfl ?_
        refine g_iload (pc' := 39) C dX1_divide_37 rfl rfl ?_
        obtain ⟨hi, hv⟩ := hv
        refine g_iald (pc' := 40) C dX1_divide_39 rfl 1 rfl hi ?_
        refine g_i2l (pc' := 41) C dX1_divide_40 rfl ?_
        refine g_lmul (pc' := 42) C dX1_divide_41 rfl ?_
        refine g_iload_n (pc' := 43) C dX1_divide_42 rfl rfl rfl ?_
        refine g_i2l (pc' := 44) C dX1_divide_43 rfl ?_
        obtain ⟨hd, hv⟩ := hv
        refine g_ldiv (pc' := 45) C dX1_divide_44 rfl hd ?_
        refine g_l2i (pc' := 46) C dX1_divide_45 rfl ?_
        exact wvX1_divide_J46 C RT ih hv
      · have hv := hv2 c
        refine g_iconst (pc' := 28) (v := (0 : Int32)) C dX1_divide_27 rfl (by decide) ?_
        refine g_goto (tgt := 46) C dX1_divide_28 (by decide) ?_
        exact wvX1_divide_J46 C RT ih hv
def vX1_divide (wt : Ar) (sh : Ar) (x1 : Int32) (Q : (Ar) → Prop) : Prop := (vX1_totalWeight wt (fun r1 => (∃ n10 : Nat, vX1_divide_L10 wt x1 r1 Q n10 x1 (0 : Int32) sh)))
set_option maxHeartbeats 4000000 in
set_option maxRecDepth 100000 in
theorem mtX1_divide {l : Launch} {γ : Gm} {h0 : Nat} {h1 : Nat} {h2 : Nat} {wt : Ar} {sh : Ar} {x1 : Int32} {Q : (Ar) → Prop} (hv : vX1_divide wt sh x1 Q) : CtV l γ yX1_divide cX1_divide 5 1 22 0 0 [.ref h0, .int x1] (wS γ h0 h1 h2 wt sh) (fun (u : Ar) => Q u) (fun u => wS γ h0 h1 h2 wt u) := startV (by decide +kernel) (Nat.le_of_ble_eq_true rfl) (fun κ C RT hR hnm => by
  show G l γ κ (wS γ h0 h1 h2 wt sh) [(0, .ref h0), (1, .int x1)] 0 0 [] 0
  refine g_aload_n (pc' := 1) C dX1_divide_0 rfl rfl rfl ?_
  refine csI (pc' := 4) C (run_VI (rest := []) C lk_X1_18 (mtX1_totalWeight hv) ⟨by decide, by decide⟩ rfl rfl rfl rfl (Nat.le_of_ble_eq_true rfl) ⟨Nat.zero_le _, Nat.zero_le _⟩ dX1_divide_1) rfl (fun r1 u1 hv => ?_)
  refine g_istore_n (pc' := 5) (lv' := [(2, .int r1), (0, .ref h0), (1, .int x1)]) C dX1_divide_4 rfl rfl (by decide) rfl ?_
  refine g_iload_n (pc' := 6) C dX1_divide_5 rfl rfl rfl ?_
  refine g_istore_n (pc' := 7) (lv' := [(3, .int x1), (2, .int r1), (0, .ref h0), (1, .int x1)]) C dX1_divide_6 rfl rfl (by decide) rfl ?_
  refine g_iconst (pc' := 8) (v := (0 : Int32)) C dX1_divide_7 rfl (by decide) ?_
  refine g_istore (pc' := 10) (lv' := [(4, .int (0 : Int32)), (3, .int x1), (2, .int r1), (0, .ref h0), (1, .int x1)]) C dX1_divide_8 rfl (by decide) rfl ?_
  refine g_sub (lv' := [(0, .ref h0), (1, .int x1), (2, .int r1), (3, .int x1), (4, .int (0 : Int32))]) [3, 4, 2, 1, 0] rfl ?_
  obtain ⟨n10, hv⟩ := hv
  exact wvX1_divide_L10 C RT  n10 _ _ _ hv)
def vX2_size (cnt : Int32) (Q : Int32 → Prop) : Prop := (Q cnt)
set_option maxHeartbeats 4000000 in
set_option maxRecDepth 100000 in
theorem mtX2_size {l : Launch} {γ : Gm} {h0 : Nat} {h1 : Nat} {cnt : Int32} {pwc : Int32} {par : Ar} {Q : Int32 → Prop} (hv : vX2_size cnt Q) : CtI l γ yX2_size cX2_size 1 .int 0 0 0 0 [.ref h0] (wT γ h0 h1 cnt pwc par) (fun (r : Int32) (_ : Unit) => Q r) (fun _ => wT γ h0 h1 cnt pwc par) := startI (by decide +kernel) (Nat.le_of_ble_eq_true rfl) (fun κ C RT hR hnm => by
  show G l γ κ (wT γ h0 h1 cnt pwc par) [(0, .ref h0)] 0 0 [] 0
  refine g_aload_n (pc' := 1) C dX2_size_0 rfl rfl rfl ?_
  refine gf_X2_15 (pc' := 4) C dX2_size_1 rfl 0 rfl rfl ?_
  exact RT cnt () _ _ _ _ dX2_size_4 rfl (by decide) (by decide) hv)
def vX2_has (cnt : Int32) (x1 : Int32) (Q : Int32 → Prop) : Prop := ((x1 < (0 : Int32) → (Q (0 : Int32))) ∧ (¬ x1 < (0 : Int32) → ((cnt ≤ x1 → (Q (0 : Int32))) ∧ (¬ cnt ≤ x1 → (Q (1 : Int32))))))
set_option maxHeartbeats 4000000 in
set_option maxRecDepth 100000 in
theorem mtX2_has {l : Launch} {γ : Gm} {h0 : Nat} {h1 : Nat} {cnt : Int32} {pwc : Int32} {par : Ar} {x1 : Int32} {Q : Int32 → Prop} (hv : vX2_has cnt x1 Q) : CtI l γ yX2_has cX2_has 2 .boolean 0 0 0 0 [.ref h0, .int x1] (wT γ h0 h1 cnt pwc par) (fun (r : Int32) (_ : Unit) => Q r) (fun _ => wT γ h0 h1 cnt pwc par) := startI (by decide +kernel) (Nat.le_of_ble_eq_true rfl) (fun κ C RT hR hnm => by
  show G l γ κ (wT γ h0 h1 cnt pwc par) [(0, .ref h0), (1, .int x1)] 0 0 [] 0
  refine g_iload_n (pc' := 1) C dX2_has_0 rfl rfl rfl ?_
  obtain ⟨hv1, hv2⟩ := hv
  refine g_if_lt (pc' := 4) (tgt := 16) C dX2_has_1 rfl (by decide) (fun c => ?_) (fun c => ?_)
  · have hv := hv1 c
    refine g_iconst (pc' := 17) (v := (0 : Int32)) C dX2_has_16 rfl (by decide) ?_
    exact RT (0 : Int32) () _ _ _ _ dX2_has_17 rfl (by decide) (by decide) hv
  · have hv := hv2 c
    refine g_iload_n (pc' := 5) C dX2_has_4 rfl rfl rfl ?_
    refine g_aload_n (pc' := 6) C dX2_has_5 rfl rfl rfl ?_
    refine gf_X2_15 (pc' := 9) C dX2_has_6 rfl 0 rfl rfl ?_
    obtain ⟨hv1, hv2⟩ := hv
    refine g_icmp_ge (pc' := 12) (tgt := 16) C dX2_has_9 rfl (by decide) (fun c => ?_) (fun c => ?_)
    · have hv := hv1 c
      refine g_iconst (pc' := 17) (v := (0 : Int32)) C dX2_has_16 rfl (by decide) ?_
      exact RT (0 : Int32) () _ _ _ _ dX2_has_17 rfl (by decide) (by decide) hv
    · have hv := hv2 c
      refine g_iconst (pc' := 13) (v := (1 : Int32)) C dX2_has_12 rfl (by decide) ?_
      refine g_goto (tgt := 17) C dX2_has_13 (by decide) ?_
      exact RT (1 : Int32) () _ _ _ _ dX2_has_17 rfl (by decide) (by decide) hv)
def vX2_isFull (cnt : Int32) (Q : Int32 → Prop) : Prop := ((cnt < (10 : Int32) → (Q (0 : Int32))) ∧ (¬ cnt < (10 : Int32) → (Q (1 : Int32))))
set_option maxHeartbeats 4000000 in
set_option maxRecDepth 100000 in
theorem mtX2_isFull {l : Launch} {γ : Gm} {h0 : Nat} {h1 : Nat} {cnt : Int32} {pwc : Int32} {par : Ar} {Q : Int32 → Prop} (hv : vX2_isFull cnt Q) : CtI l γ yX2_isFull cX2_isFull 1 .boolean 0 0 0 0 [.ref h0] (wT γ h0 h1 cnt pwc par) (fun (r : Int32) (_ : Unit) => Q r) (fun _ => wT γ h0 h1 cnt pwc par) := startI (by decide +kernel) (Nat.le_of_ble_eq_true rfl) (fun κ C RT hR hnm => by
  show G l γ κ (wT γ h0 h1 cnt pwc par) [(0, .ref h0)] 0 0 [] 0
  refine g_aload_n (pc' := 1) C dX2_isFull_0 rfl rfl rfl ?_
  refine gf_X2_15 (pc' := 4) C dX2_isFull_1 rfl 0 rfl rfl ?_
  refine g_bipush (pc' := 6) (v := (10 : Int32)) C dX2_isFull_4 rfl (by decide) ?_
  obtain ⟨hv1, hv2⟩ := hv
  refine g_icmp_lt (pc' := 9) (tgt := 13) C dX2_isFull_6 rfl (by decide) (fun c => ?_) (fun c => ?_)
  · have hv := hv1 c
    refine g_iconst (pc' := 14) (v := (0 : Int32)) C dX2_isFull_13 rfl (by decide) ?_
    exact RT (0 : Int32) () _ _ _ _ dX2_isFull_14 rfl (by decide) (by decide) hv
  · have hv := hv2 c
    refine g_iconst (pc' := 10) (v := (1 : Int32)) C dX2_isFull_9 rfl (by decide) ?_
    refine g_goto (tgt := 14) C dX2_isFull_10 (by decide) ?_
    exact RT (1 : Int32) () _ _ _ _ dX2_isFull_14 rfl (by decide) (by decide) hv)
def vX2_isLeaf (pwc : Int32) (x1 : Int32) (Q : Int32 → Prop) : Prop := (vX3_isIn pwc x1 (fun r5 => ((¬ r5 = (0 : Int32) → (Q (0 : Int32))) ∧ (r5 = (0 : Int32) → (Q (1 : Int32))))))
set_option maxHeartbeats 4000000 in
set_option maxRecDepth 100000 in
theorem mtX2_isLeaf {l : Launch} {γ : Gm} {h0 : Nat} {h1 : Nat} {cnt : Int32} {pwc : Int32} {par : Ar} {x1 : Int32} {Q : Int32 → Prop} (hv : vX2_isLeaf pwc x1 Q) : CtI l γ yX2_isLeaf cX2_isLeaf 2 .boolean 1 21 0 0 [.ref h0, .int x1] (wT γ h0 h1 cnt pwc par) (fun (r : Int32) (_ : Unit) => Q r) (fun _ => wT γ h0 h1 cnt pwc par) := startI (by decide +kernel) (Nat.le_of_ble_eq_true rfl) (fun κ C RT hR hnm => by
  show G l γ κ (wT γ h0 h1 cnt pwc par) [(0, .ref h0), (1, .int x1)] 0 0 [] 0
  refine g_aload_n (pc' := 1) C dX2_isLeaf_0 rfl rfl rfl ?_
  refine gf_X2_19 (pc' := 4) C dX2_isLeaf_1 rfl 0 rfl rfl ?_
  refine g_iload_n (pc' := 5) C dX2_isLeaf_4 rfl rfl rfl ?_
  refine cnI (pc' := 8) C (run_NI (rest := []) C lk_X2_22 (mtX3_isIn hv) ⟨by decide, by decide⟩ rfl rfl (Nat.le_of_ble_eq_true rfl) ⟨Nat.zero_le _, Nat.zero_le _⟩ dX2_isLeaf_5) rfl (fun r5 u5 hv => ?_)
  obtain ⟨hv1, hv2⟩ := hv
  refine g_if_ne (pc' := 11) (tgt := 15) C dX2_isLeaf_8 rfl (by decide) (fun c => ?_) (fun c => ?_)
  · have hv := hv1 c
    refine g_iconst (pc' := 16) (v := (0 : Int32)) C dX2_isLeaf_15 rfl (by decide) ?_
    exact RT (0 : Int32) () _ _ _ _ dX2_isLeaf_16 rfl (by decide) (by decide) hv
  · have hv := hv2 c
    refine g_iconst (pc' := 12) (v := (1 : Int32)) C dX2_isLeaf_11 rfl (by decide) ?_
    refine g_goto (tgt := 16) C dX2_isLeaf_12 (by decide) ?_
    exact RT (1 : Int32) () _ _ _ _ dX2_isLeaf_16 rfl (by decide) (by decide) hv)
def vX2_addBelow (cnt : Int32) (pwc : Int32) (par : Ar) (x1 : Int32) (Q : Int32 → (Int32 × Int32 × Ar) → Prop) : Prop := (vp_in cnt 10 ∧ (Q cnt ((cnt + (1 : Int32)), (pwc ||| ((1 : Int32) <<< (x1 &&& 31))), (upd par cnt.toNatClampNeg x1))))
set_option maxHeartbeats 4000000 in
set_option maxRecDepth 100000 in
theorem mtX2_addBelow {l : Launch} {γ : Gm} {h0 : Nat} {h1 : Nat} {cnt : Int32} {pwc : Int32} {par : Ar} {x1 : Int32} {Q : Int32 → (Int32 × Int32 × Ar) → Prop} (hv : vX2_addBelow cnt pwc par x1 Q) : CtI l γ yX2_addBelow cX2_addBelow 3 .int 0 0 0 0 [.ref h0, .int x1] (wT γ h0 h1 cnt pwc par) (fun (r : Int32) (u : Int32 × Int32 × Ar) => Q r u) (fun u => wT γ h0 h1 u.1 u.2.1 u.2.2) := startI (by decide +kernel) (Nat.le_of_ble_eq_true rfl) (fun κ C RT hR hnm => by
  show G l γ κ (wT γ h0 h1 cnt pwc par) [(0, .ref h0), (1, .int x1)] 0 0 [] 0
  refine g_aload_n (pc' := 1) C dX2_addBelow_0 rfl rfl rfl ?_
  refine gf_X2_15 (pc' := 4) C dX2_addBelow_1 rfl 0 rfl rfl ?_
  refine g_istore_n (pc' := 5) (lv' := [(2, .int cnt), (0, .ref h0), (1, .int x1)]) C dX2_addBelow_4 rfl rfl (by decide) rfl ?_
  refine g_aload_n (pc' := 6) C dX2_addBelow_5 rfl rfl rfl ?_
  refine gf_X2_9 (pc' := 9) C dX2_addBelow_6 rfl 0 rfl rfl ?_
  refine g_iload_n (pc' := 10) C dX2_addBelow_9 rfl rfl rfl ?_
  refine g_iload_n (pc' := 11) C dX2_addBelow_10 rfl rfl rfl ?_
  obtain ⟨hi, hv⟩ := hv
  refine g_iast (pc' := 12) (ws' := wT γ h0 h1 cnt pwc (upd par cnt.toNatClampNeg x1)) C dX2_addBelow_11 rfl 1 rfl hi rfl ?_
  refine g_aload_n (pc' := 13) C dX2_addBelow_12 rfl rfl rfl ?_
  refine g_dup (pc' := 14) C dX2_addBelow_13 rfl rfl ?_
  refine gf_X2_19 (pc' := 17) C dX2_addBelow_14 rfl 0 rfl rfl ?_
  refine g_iconst (pc' := 18) (v := (1 : Int32)) C dX2_addBelow_17 rfl (by decide) ?_
  refine g_iload_n (pc' := 19) C dX2_addBelow_18 rfl rfl rfl ?_
  refine g_ishl (pc' := 20) C dX2_addBelow_19 rfl ?_
  refine g_ior (pc' := 21) C dX2_addBelow_20 rfl ?_
  refine pf_X2_19 (pc' := 24) (ws' := wT γ h0 h1 cnt (pwc ||| ((1 : Int32) <<< (x1 &&& 31))) (upd par cnt.toNatClampNeg x1)) C dX2_addBelow_21 rfl 0 rfl rfl rfl (Nat.le_of_ble_eq_true rfl) rfl ?_
  refine g_aload_n (pc' := 25) C dX2_addBelow_24 rfl rfl rfl ?_
  refine g_dup (pc' := 26) C dX2_addBelow_25 rfl rfl ?_
  refine gf_X2_15 (pc' := 29) C dX2_addBelow_26 rfl 0 rfl rfl ?_
  refine g_iconst (pc' := 30) (v := (1 : Int32)) C dX2_addBelow_29 rfl (by decide) ?_
  refine g_iadd (pc' := 31) C dX2_addBelow_30 rfl ?_
  refine pf_X2_15 (pc' := 34) (ws' := wT γ h0 h1 (cnt + (1 : Int32)) (pwc ||| ((1 : Int32) <<< (x1 &&& 31))) (upd par cnt.toNatClampNeg x1)) C dX2_addBelow_31 rfl 0 rfl rfl rfl (Nat.le_of_ble_eq_true rfl) rfl ?_
  refine g_iload_n (pc' := 35) C dX2_addBelow_34 rfl rfl rfl ?_
  exact RT cnt ((cnt + (1 : Int32)), (pwc ||| ((1 : Int32) <<< (x1 &&& 31))), (upd par cnt.toNatClampNeg x1)) _ _ _ _ dX2_addBelow_35 rfl (by decide) (by decide) hv)
def vX2_leavesBelow_L8 (cnt : Int32) (pwc : Int32) (par : Ar) (Q : Int32 → Prop) : Nat → Int32 → Int32 → Prop
  | 0, _, _ => False
  | n + 1, x2, x3 => ((cnt ≤ x3 → (Q (x2 &&& (pwc ^^^ (-1 : Int32))))) ∧ (¬ cnt ≤ x3 → (vp_in x3 10 ∧ (vX3_isIn x2 (par x3.toNatClampNeg) (fun r23 => ((r23 = (0 : Int32) → (vX2_leavesBelow_L8 cnt pwc par Q n x2 (x3 + (1 : Int32)))) ∧ (¬ r23 = (0 : Int32) → (vX2_leavesBelow_L8 cnt pwc par Q n (x2 ||| ((1 : Int32) <<< (x3 &&& 31))) (x3 + (1 : Int32))))))))))
set_option maxHeartbeats 4000000 in
set_option maxRecDepth 100000 in
theorem wvX2_leavesBelow_L8 {l : Launch} {γ : Gm} {κ : Kx} {h0 : Nat} {h1 : Nat} {cnt : Int32} {pwc : Int32} {par : Ar} {Q : Int32 → Prop} (C : Ok γ κ cX2_leavesBelow 4 RX2 1 21) (RT : RtI l γ κ cX2_leavesBelow .int 0 0 (fun (r : Int32) (_ : Unit) => Q r) (fun _ => wT γ h0 h1 cnt pwc par))  : ∀ (n : Nat) (x2 : Int32) (x3 : Int32), vX2_leavesBelow_L8 cnt pwc par Q n x2 x3 → G l γ κ (wT γ h0 h1 cnt pwc par) [(0, .ref h0), (2, .int x2), (3, .int x3)] 0 0 [] 8 := by
  intro n
  induction n with
  | zero => intro x2 x3 hv; exact False.elim hv
  | succ n ih =>
    intro x2 x3 hv
    refine g_iload_n (pc' := 9) C dX2_leavesBelow_8 rfl rfl rfl ?_
    refine g_aload_n (pc' := 10) C dX2_leavesBelow_9 rfl rfl rfl ?_
    refine gf_X2_15 (pc' := 13) C dX2_leavesBelow_10 rfl 0 rfl rfl ?_
    obtain ⟨hv1, hv2⟩ := hv
    refine g_icmp_ge (pc' := 16) (tgt := 41) C dX2_leavesBelow_13 rfl (by decide) (fun c => ?_) (fun c => ?_)
    · have hv := hv1 c
      refine g_iload_n (pc' := 42) C dX2_leavesBelow_41 rfl rfl rfl ?_
      refine g_aload_n (pc' := 43) C dX2_leavesBelow_42 rfl rfl rfl ?_
      refine gf_X2_19 (pc' := 46) C dX2_leavesBelow_43 rfl 0 rfl rfl ?_
      refine g_iconst (pc' := 47) (v := (-1 : Int32)) C dX2_leavesBelow_46 rfl (by decide) ?_
      refine g_ixor (pc' := 48) C dX2_leavesBelow_47 rfl ?_
      refine g_iand (pc' := 49) C dX2_leavesBelow_48 rfl ?_
      exact RT (x2 &&& (pwc ^^^ (-1 : Int32))) () _ _ _ _ dX2_leavesBelow_49 rfl (by decide) (by decide) hv
    · have hv := hv2 c
      refine g_iload_n (pc' := 17) C dX2_leavesBelow_16 rfl rfl rfl ?_
      refine g_aload_n (pc' := 18) C dX2_leavesBelow_17 rfl rfl rfl ?_
      refine gf_X2_9 (pc' := 21) C dX2_leavesBelow_18 rfl 0 rfl rfl ?_
      refine g_iload_n (pc' := 22) C dX2_leavesBelow_21 rfl rfl rfl ?_
      obtain ⟨hi, hv⟩ := hv
      refine g_iald (pc' := 23) C dX2_leavesBelow_22 rfl 1 rfl hi ?_
      refine cnI (pc' := 26) C (run_NI (rest := []) C lk_X2_22 (mtX3_isIn hv) ⟨by decide, by decide⟩ rfl rfl (Nat.le_of_ble_eq_true rfl) ⟨Nat.zero_le _, Nat.zero_le _⟩ dX2_leavesBelow_23) rfl (fun r23 u23 hv => ?_)
      obtain ⟨hv1, hv2⟩ := hv
      refine g_if_eq (pc' := 29) (tgt := 35) C dX2_leavesBelow_26 rfl (by decide) (fun c => ?_) (fun c => ?_)
      · have hv := hv1 c
        refine g_iinc (pc' := 38) (v := (x3 + (1 : Int32))) (lv' := [(3, .int (x3 + (1 : Int32))), (0, .ref h0), (2, .int x2)]) C dX2_leavesBelow_35 rfl rfl rfl (by decide) rfl ?_
        refine g_goto (tgt := 8) C dX2_leavesBelow_38 (by decide) ?_
        refine g_sub (lv' := [(0, .ref h0), (2, .int x2), (3, .int (x3 + (1 : Int32)))]) [1, 2, 0] rfl ?_
        exact ih _ _ hv
      · have hv := hv2 c
        refine g_iload_n (pc' := 30) C dX2_leavesBelow_29 rfl rfl rfl ?_
        refine g_iconst (pc' := 31) (v := (1 : Int32)) C dX2_leavesBelow_30 rfl (by decide) ?_
        refine g_iload_n (pc' := 32) C dX2_leavesBelow_31 rfl rfl rfl ?_
        refine g_ishl (pc' := 33) C dX2_leavesBelow_32 rfl ?_
        refine g_ior (pc' := 34) C dX2_leavesBelow_33 rfl ?_
        refine g_istore_n (pc' := 35) (lv' := [(2, .int (x2 ||| ((1 : Int32) <<< (x3 &&& 31)))), (0, .ref h0), (3, .int x3)]) C dX2_leavesBelow_34 rfl rfl (by decide) rfl ?_
        refine g_iinc (pc' := 38) (v := (x3 + (1 : Int32))) (lv' := [(3, .int (x3 + (1 : Int32))), (2, .int (x2 ||| ((1 : Int32) <<< (x3 &&& 31)))), (0, .ref h0)]) C dX2_leavesBelow_35 rfl rfl rfl (by decide) rfl ?_
        refine g_goto (tgt := 8) C dX2_leavesBelow_38 (by decide) ?_
        refine g_sub (lv' := [(0, .ref h0), (2, .int (x2 ||| ((1 : Int32) <<< (x3 &&& 31)))), (3, .int (x3 + (1 : Int32)))]) [2, 1, 0] rfl ?_
        exact ih _ _ hv
def vX2_leavesBelow (cnt : Int32) (pwc : Int32) (par : Ar) (x1 : Int32) (Q : Int32 → Prop) : Prop := (∃ n8 : Nat, vX2_leavesBelow_L8 cnt pwc par Q n8 ((1 : Int32) <<< (x1 &&& 31)) (x1 + (1 : Int32)))
set_option maxHeartbeats 4000000 in
set_option maxRecDepth 100000 in
theorem mtX2_leavesBelow {l : Launch} {γ : Gm} {h0 : Nat} {h1 : Nat} {cnt : Int32} {pwc : Int32} {par : Ar} {x1 : Int32} {Q : Int32 → Prop} (hv : vX2_leavesBelow cnt pwc par x1 Q) : CtI l γ yX2_leavesBelow cX2_leavesBelow 4 .int 1 21 0 0 [.ref h0, .int x1] (wT γ h0 h1 cnt pwc par) (fun (r : Int32) (_ : Unit) => Q r) (fun _ => wT γ h0 h1 cnt pwc par) := startI (by decide +kernel) (Nat.le_of_ble_eq_true rfl) (fun κ C RT hR hnm => by
  show G l γ κ (wT γ h0 h1 cnt pwc par) [(0, .ref h0), (1, .int x1)] 0 0 [] 0
  refine g_iconst (pc' := 1) (v := (1 : Int32)) C dX2_leavesBelow_0 rfl (by decide) ?_
  refine g_iload_n (pc' := 2) C dX2_leavesBelow_1 rfl rfl rfl ?_
  refine g_ishl (pc' := 3) C dX2_leavesBelow_2 rfl ?_
  refine g_istore_n (pc' := 4) (lv' := [(2, .int ((1 : Int32) <<< (x1 &&& 31))), (0, .ref h0), (1, .int x1)]) C dX2_leavesBelow_3 rfl rfl (by decide) rfl ?_
  refine g_iload_n (pc' := 5) C dX2_leavesBelow_4 rfl rfl rfl ?_
  refine g_iconst (pc' := 6) (v := (1 : Int32)) C dX2_leavesBelow_5 rfl (by decide) ?_
  refine g_iadd (pc' := 7) C dX2_leavesBelow_6 rfl ?_
  refine g_istore_n (pc' := 8) (lv' := [(3, .int (x1 + (1 : Int32))), (2, .int ((1 : Int32) <<< (x1 &&& 31))), (0, .ref h0), (1, .int x1)]) C dX2_leavesBelow_7 rfl rfl (by decide) rfl ?_
  refine g_sub (lv' := [(0, .ref h0), (2, .int ((1 : Int32) <<< (x1 &&& 31))), (3, .int (x1 + (1 : Int32)))]) [2, 1, 0] rfl ?_
  obtain ⟨n8, hv⟩ := hv
  exact wvX2_leavesBelow_L8 C RT  n8 _ _ hv)
