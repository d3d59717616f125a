/-! formulas and walks, by program -/
def vJ6_bitCount_0f7a4 (x0 : Int32) (Q : Int32 → Prop) : Prop := (Q ((((((((x0 - (((x0.toUInt32 >>> ((1 : Int32).toUInt32 &&& Int32.toUInt32 31)).toInt32) &&& (1431655765 : Int32))) &&& (858993459 : Int32)) + ((((x0 - (((x0.toUInt32 >>> ((1 : Int32).toUInt32 &&& Int32.toUInt32 31)).toInt32) &&& (1431655765 : Int32))).toUInt32 >>> ((2 : Int32).toUInt32 &&& Int32.toUInt32 31)).toInt32) &&& (858993459 : Int32))) + (((((x0 - (((x0.toUInt32 >>> ((1 : Int32).toUInt32 &&& Int32.toUInt32 31)).toInt32) &&& (1431655765 : Int32))) &&& (858993459 : Int32)) + ((((x0 - (((x0.toUInt32 >>> ((1 : Int32).toUInt32 &&& Int32.toUInt32 31)).toInt32) &&& (1431655765 : Int32))).toUInt32 >>> ((2 : Int32).toUInt32 &&& Int32.toUInt32 31)).toInt32) &&& (858993459 : Int32))).toUInt32 >>> ((4 : Int32).toUInt32 &&& Int32.toUInt32 31)).toInt32)) &&& (252645135 : Int32)) + (((((((x0 - (((x0.toUInt32 >>> ((1 : Int32).toUInt32 &&& Int32.toUInt32 31)).toInt32) &&& (1431655765 : Int32))) &&& (858993459 : Int32)) + ((((x0 - (((x0.toUInt32 >>> ((1 : Int32).toUInt32 &&& Int32.toUInt32 31)).toInt32) &&& (1431655765 : Int32))).toUInt32 >>> ((2 : Int32).toUInt32 &&& Int32.toUInt32 31)).toInt32) &&& (858993459 : Int32))) + (((((x0 - (((x0.toUInt32 >>> ((1 : Int32).toUInt32 &&& Int32.toUInt32 31)).toInt32) &&& (1431655765 : Int32))) &&& (858993459 : Int32)) + ((((x0 - (((x0.toUInt32 >>> ((1 : Int32).toUInt32 &&& Int32.toUInt32 31)).toInt32) &&& (1431655765 : Int32))).toUInt32 >>> ((2 : Int32).toUInt32 &&& Int32.toUInt32 31)).toInt32) &&& (858993459 : Int32))).toUInt32 >>> ((4 : Int32).toUInt32 &&& Int32.toUInt32 31)).toInt32)) &&& (252645135 : Int32)).toUInt32 >>> ((8 : Int32).toUInt32 &&& Int32.toUInt32 31)).toInt32)) + ((((((((x0 - (((x0.toUInt32 >>> ((1 : Int32).toUInt32 &&& Int32.toUInt32 31)).toInt32) &&& (1431655765 : Int32))) &&& (858993459 : Int32)) + ((((x0 - (((x0.toUInt32 >>> ((1 : Int32).toUInt32 &&& Int32.toUInt32 31)).toInt32) &&& (1431655765 : Int32))).toUInt32 >>> ((2 : Int32).toUInt32 &&& Int32.toUInt32 31)).toInt32) &&& (858993459 : Int32))) + (((((x0 - (((x0.toUInt32 >>> ((1 : Int32).toUInt32 &&& Int32.toUInt32 31)).toInt32) &&& (1431655765 : Int32))) &&& (858993459 : Int32)) + ((((x0 - (((x0.toUInt32 >>> ((1 : Int32).toUInt32 &&& Int32.toUInt32 31)).toInt32) &&& (1431655765 : Int32))).toUInt32 >>> ((2 : Int32).toUInt32 &&& Int32.toUInt32 31)).toInt32) &&& (858993459 : Int32))).toUInt32 >>> ((4 : Int32).toUInt32 &&& Int32.toUInt32 31)).toInt32)) &&& (252645135 : Int32)) + (((((((x0 - (((x0.toUInt32 >>> ((1 : Int32).toUInt32 &&& Int32.toUInt32 31)).toInt32) &&& (1431655765 : Int32))) &&& (858993459 : Int32)) + ((((x0 - (((x0.toUInt32 >>> ((1 : Int32).toUInt32 &&& Int32.toUInt32 31)).toInt32) &&& (1431655765 : Int32))).toUInt32 >>> ((2 : Int32).toUInt32 &&& Int32.toUInt32 31)).toInt32) &&& (858993459 : Int32))) + (((((x0 - (((x0.toUInt32 >>> ((1 : Int32).toUInt32 &&& Int32.toUInt32 31)).toInt32) &&& (1431655765 : Int32))) &&& (858993459 : Int32)) + ((((x0 - (((x0.toUInt32 >>> ((1 : Int32).toUInt32 &&& Int32.toUInt32 31)).toInt32) &&& (1431655765 : Int32))).toUInt32 >>> ((2 : Int32).toUInt32 &&& Int32.toUInt32 31)).toInt32) &&& (858993459 : Int32))).toUInt32 >>> ((4 : Int32).toUInt32 &&& Int32.toUInt32 31)).toInt32)) &&& (252645135 : Int32)).toUInt32 >>> ((8 : Int32).toUInt32 &&& Int32.toUInt32 31)).toInt32)).toUInt32 >>> ((16 : Int32).toUInt32 &&& Int32.toUInt32 31)).toInt32)) &&& (63 : Int32)))
set_option maxHeartbeats 4000000 in
set_option maxRecDepth 100000 in
theorem mtJ6_bitCount_0f7a4 {l : Launch} {γ : Gm} {x0 : Int32} {Q : Int32 → Prop} (hv : vJ6_bitCount_0f7a4 x0 Q) : CtI l γ yJ6_bitCount_0f7a4 cJ6_bitCount_0f7a4 1 .int 0 0 0 0 [.int x0] ([]) (fun (r : Int32) (_ : Unit) => Q r) (fun _ => []) := startI (by decide +kernel) (Nat.le_of_ble_eq_true rfl) (fun κ C RT hR hnm => by
  show G l γ κ ([]) [(0, .int x0)] 0 0 [] 0
  refine g_iload_n (pc' := 1) C dJ6_bitCount_0f7a4_0 rfl rfl rfl ?_
  refine g_iload_n (pc' := 2) C dJ6_bitCount_0f7a4_1 rfl rfl rfl ?_
  refine g_iconst (pc' := 3) (v := (1 : Int32)) C dJ6_bitCount_0f7a4_2 rfl (by decide) ?_
  refine g_iushr (pc' := 4) C dJ6_bitCount_0f7a4_3 rfl ?_
  refine g_ldcw (pc' := 7) C k_J6_265 dJ6_bitCount_0f7a4_4 rfl ?_
  refine g_iand (pc' := 8) C dJ6_bitCount_0f7a4_7 rfl ?_
  refine g_isub (pc' := 9) C dJ6_bitCount_0f7a4_8 rfl ?_
  refine g_istore_n (pc' := 10) (lv' := [(0, .int (x0 - (((x0.toUInt32 >>> ((1 : Int32).toUInt32 &&& Int32.toUInt32 31)).toInt32) &&& (1431655765 : Int32))))]) C dJ6_bitCount_0f7a4_9 rfl rfl (by decide) rfl ?_
  refine g_iload_n (pc' := 11) C dJ6_bitCount_0f7a4_10 rfl rfl rfl ?_
  refine g_ldcw (pc' := 14) C k_J6_266 dJ6_bitCount_0f7a4_11 rfl ?_
  refine g_iand (pc' := 15) C dJ6_bitCount_0f7a4_14 rfl ?_
  refine g_iload_n (pc' := 16) C dJ6_bitCount_0f7a4_15 rfl rfl rfl ?_
  refine g_iconst (pc' := 17) (v := (2 : Int32)) C dJ6_bitCount_0f7a4_16 rfl (by decide) ?_
  refine g_iushr (pc' := 18) C dJ6_bitCount_0f7a4_17 rfl ?_
  refine g_ldcw (pc' := 21) C k_J6_266 dJ6_bitCount_0f7a4_18 rfl ?_
  refine g_iand (pc' := 22) C dJ6_bitCount_0f7a4_21 rfl ?_
  refine g_iadd (pc' := 23) C dJ6_bitCount_0f7a4_22 rfl ?_
  refine g_istore_n (pc' := 24) (lv' := [(0, .int (((x0 - (((x0.toUInt32 >>> ((1 : Int32).toUInt32 &&& Int32.toUInt32 31)).toInt32) &&& (1431655765 : Int32))) &&& (858993459 : Int32)) + ((((x0 - (((x0.toUInt32 >>> ((1 : Int32).toUInt32 &&& Int32.toUInt32 31)).toInt32) &&& (1431655765 : Int32))).toUInt32 >>> ((2 : Int32).toUInt32 &&& Int32.toUInt32 31)).toInt32) &&& (858993459 : Int32))))]) C dJ6_bitCount_0f7a4_23 rfl rfl (by decide) rfl ?_
  refine g_iload_n (pc' := 25) C dJ6_bitCount_0f7a4_24 rfl rfl rfl ?_
  refine g_iload_n (pc' := 26) C dJ6_bitCount_0f7a4_25 rfl rfl rfl ?_
  refine g_iconst (pc' := 27) (v := (4 : Int32)) C dJ6_bitCount_0f7a4_26 rfl (by decide) ?_
  refine g_iushr (pc' := 28) C dJ6_bitCount_0f7a4_27 rfl ?_
  refine g_iadd (pc' := 29) C dJ6_bitCount_0f7a4_28 rfl ?_
  refine g_ldcw (pc' := 32) C k_J6_267 dJ6_bitCount_0f7a4_29 rfl ?_
  refine g_iand (pc' := 33) C dJ6_bitCount_0f7a4_32 rfl ?_
  refine g_istore_n (pc' := 34) (lv' := [(0, .int (((((x0 - (((x0.toUInt32 >>> ((1 : Int32).toUInt32 &&& Int32.toUInt32 31)).toInt32) &&& (1431655765 : Int32))) &&& (858993459 : Int32)) + ((((x0 - (((x0.toUInt32 >>> ((1 : Int32).toUInt32 &&& Int32.toUInt32 31)).toInt32) &&& (1431655765 : Int32))).toUInt32 >>> ((2 : Int32).toUInt32 &&& Int32.toUInt32 31)).toInt32) &&& (858993459 : Int32))) + (((((x0 - (((x0.toUInt32 >>> ((1 : Int32).toUInt32 &&& Int32.toUInt32 31)).toInt32) &&& (1431655765 : Int32))) &&& (858993459 : Int32)) + ((((x0 - (((x0.toUInt32 >>> ((1 : Int32).toUInt32 &&& Int32.toUInt32 31)).toInt32) &&& (1431655765 : Int32))).toUInt32 >>> ((2 : Int32).toUInt32 &&& Int32.toUInt32 31)).toInt32) &&& (858993459 : Int32))).toUInt32 >>> ((4 : Int32).toUInt32 &&& Int32.toUInt32 31)).toInt32)) &&& (252645135 : Int32)))]) C dJ6_bitCount_0f7a4_33 rfl rfl (by decide) rfl ?_
  refine g_iload_n (pc' := 35) C dJ6_bitCount_0f7a4_34 rfl rfl rfl ?_
  refine g_iload_n (pc' := 36) C dJ6_bitCount_0f7a4_35 rfl rfl rfl ?_
  refine g_bipush (pc' := 38) (v := (8 : Int32)) C dJ6_bitCount_0f7a4_36 rfl (by decide) ?_
  refine g_iushr (pc' := 39) C dJ6_bitCount_0f7a4_38 rfl ?_
  refine g_iadd (pc' := 40) C dJ6_bitCount_0f7a4_39 rfl ?_
  refine g_istore_n (pc' := 41) (lv' := [(0, .int ((((((x0 - (((x0.toUInt32 >>> ((1 : Int32).toUInt32 &&& Int32.toUInt32 31)).toInt32) &&& (1431655765 : Int32))) &&& (858993459 : Int32)) + ((((x0 - (((x0.toUInt32 >>> ((1 : Int32).toUInt32 &&& Int32.toUInt32 31)).toInt32) &&& (1431655765 : Int32))).toUInt32 >>> ((2 : Int32).toUInt32 &&& Int32.toUInt32 31)).toInt32) &&& (858993459 : Int32))) + (((((x0 - (((x0.toUInt32 >>> ((1 : Int32).toUInt32 &&& Int32.toUInt32 31)).toInt32) &&& (1431655765 : Int32))) &&& (858993459 : Int32)) + ((((x0 - (((x0.toUInt32 >>> ((1 : Int32).toUInt32 &&& Int32.toUInt32 31)).toInt32) &&& (1431655765 : Int32))).toUInt32 >>> ((2 : Int32).toUInt32 &&& Int32.toUInt32 31)).toInt32) &&& (858993459 : Int32))).toUInt32 >>> ((4 : Int32).toUInt32 &&& Int32.toUInt32 31)).toInt32)) &&& (252645135 : Int32)) + (((((((x0 - (((x0.toUInt32 >>> ((1 : Int32).toUInt32 &&& Int32.toUInt32 31)).toInt32) &&& (1431655765 : Int32))) &&& (858993459 : Int32)) + ((((x0 - (((x0.toUInt32 >>> ((1 : Int32).toUInt32 &&& Int32.toUInt32 31)).toInt32) &&& (1431655765 : Int32))).toUInt32 >>> ((2 : Int32).toUInt32 &&& Int32.toUInt32 31)).toInt32) &&& (858993459 : Int32))) + (((((x0 - (((x0.toUInt32 >>> ((1 : Int32).toUInt32 &&& Int32.toUInt32 31)).toInt32) &&& (1431655765 : Int32))) &&& (858993459 : Int32)) + ((((x0 - (((x0.toUInt32 >>> ((1 : Int32).toUInt32 &&& Int32.toUInt32 31)).toInt32) &&& (1431655765 : Int32))).toUInt32 >>> ((2 : Int32).toUInt32 &&& Int32.toUInt32 31)).toInt32) &&& (858993459 : Int32))).toUInt32 >>> ((4 : Int32).toUInt32 &&& Int32.toUInt32 31)).toInt32)) &&& (252645135 : Int32)).toUInt32 >>> ((8 : Int32).toUInt32 &&& Int32.toUInt32 31)).toInt32)))]) C dJ6_bitCount_0f7a4_40 rfl rfl (by decide) rfl ?_
  refine g_iload_n (pc' := 42) C dJ6_bitCount_0f7a4_41 rfl rfl rfl ?_
  refine g_iload_n (pc' := 43) C dJ6_bitCount_0f7a4_42 rfl rfl rfl ?_
  refine g_bipush (pc' := 45) (v := (16 : Int32)) C dJ6_bitCount_0f7a4_43 rfl (by decide) ?_
  refine g_iushr (pc' := 46) C dJ6_bitCount_0f7a4_45 rfl ?_
  refine g_iadd (pc' := 47) C dJ6_bitCount_0f7a4_46 rfl ?_
  refine g_istore_n (pc' := 48) (lv' := [(0, .int (((((((x0 - (((x0.toUInt32 >>> ((1 : Int32).toUInt32 &&& Int32.toUInt32 31)).toInt32) &&& (1431655765 : Int32))) &&& (858993459 : Int32)) + ((((x0 - (((x0.toUInt32 >>> ((1 : Int32).toUInt32 &&& Int32.toUInt32 31)).toInt32) &&& (1431655765 : Int32))).toUInt32 >>> ((2 : Int32).toUInt32 &&& Int32.toUInt32 31)).toInt32) &&& (858993459 : Int32))) + (((((x0 - (((x0.toUInt32 >>> ((1 : Int32).toUInt32 &&& Int32.toUInt32 31)).toInt32) &&& (1431655765 : Int32))) &&& (858993459 : Int32)) + ((((x0 - (((x0.toUInt32 >>> ((1 : Int32).toUInt32 &&& Int32.toUInt32 31)).toInt32) &&& (1431655765 : Int32))).toUInt32 >>> ((2 : Int32).toUInt32 &&& Int32.toUInt32 31)).toInt32) &&& (858993459 : Int32))).toUInt32 >>> ((4 : Int32).toUInt32 &&& Int32.toUInt32 31)).toInt32)) &&& (252645135 : Int32)) + (((((((x0 - (((x0.toUInt32 >>> ((1 : Int32).toUInt32 &&& Int32.toUInt32 31)).toInt32) &&& (1431655765 : Int32))) &&& (858993459 : Int32)) + ((((x0 - (((x0.toUInt32 >>> ((1 : Int32).toUInt32 &&& Int32.toUInt32 31)).toInt32) &&& (1431655765 : Int32))).toUInt32 >>> ((2 : Int32).toUInt32 &&& Int32.toUInt32 31)).toInt32) &&& (858993459 : Int32))) + (((((x0 - (((x0.toUInt32 >>> ((1 : Int32).toUInt32 &&& Int32.toUInt32 31)).toInt32) &&& (1431655765 : Int32))) &&& (858993459 : Int32)) + ((((x0 - (((x0.toUInt32 >>> ((1 : Int32).toUInt32 &&& Int32.toUInt32 31)).toInt32) &&& (1431655765 : Int32))).toUInt32 >>> ((2 : Int32).toUInt32 &&& Int32.toUInt32 31)).toInt32) &&& (858993459 : Int32))).toUInt32 >>> ((4 : Int32).toUInt32 &&& Int32.toUInt32 31)).toInt32)) &&& (252645135 : Int32)).toUInt32 >>> ((8 : Int32).toUInt32 &&& Int32.toUInt32 31)).toInt32)) + ((((((((x0 - (((x0.toUInt32 >>> ((1 : Int32).toUInt32 &&& Int32.toUInt32 31)).toInt32) &&& (1431655765 : Int32))) &&& (858993459 : Int32)) + ((((x0 - (((x0.toUInt32 >>> ((1 : Int32).toUInt32 &&& Int32.toUInt32 31)).toInt32) &&& (1431655765 : Int32))).toUInt32 >>> ((2 : Int32).toUInt32 &&& Int32.toUInt32 31)).toInt32) &&& (858993459 : Int32))) + (((((x0 - (((x0.toUInt32 >>> ((1 : Int32).toUInt32 &&& Int32.toUInt32 31)).toInt32) &&& (1431655765 : Int32))) &&& (858993459 : Int32)) + ((((x0 - (((x0.toUInt32 >>> ((1 : Int32).toUInt32 &&& Int32.toUInt32 31)).toInt32) &&& (1431655765 : Int32))).toUInt32 >>> ((2 : Int32).toUInt32 &&& Int32.toUInt32 31)).toInt32) &&& (858993459 : Int32))).toUInt32 >>> ((4 : Int32).toUInt32 &&& Int32.toUInt32 31)).toInt32)) &&& (252645135 : Int32)) + (((((((x0 - (((x0.toUInt32 >>> ((1 : Int32).toUInt32 &&& Int32.toUInt32 31)).toInt32) &&& (1431655765 : Int32))) &&& (858993459 : Int32)) + ((((x0 - (((x0.toUInt32 >>> ((1 : Int32).toUInt32 &&& Int32.toUInt32 31)).toInt32) &&& (1431655765 : Int32))).toUInt32 >>> ((2 : Int32).toUInt32 &&& Int32.toUInt32 31)).toInt32) &&& (858993459 : Int32))) + (((((x0 - (((x0.toUInt32 >>> ((1 : Int32).toUInt32 &&& Int32.toUInt32 31)).toInt32) &&& (1431655765 : Int32))) &&& (858993459 : Int32)) + ((((x0 - (((x0.toUInt32 >>> ((1 : Int32).toUInt32 &&& Int32.toUInt32 31)).toInt32) &&& (1431655765 : Int32))).toUInt32 >>> ((2 : Int32).toUInt32 &&& Int32.toUInt32 31)).toInt32) &&& (858993459 : Int32))).toUInt32 >>> ((4 : Int32).toUInt32 &&& Int32.toUInt32 31)).toInt32)) &&& (252645135 : Int32)).toUInt32 >>> ((8 : Int32).toUInt32 &&& Int32.toUInt32 31)).toInt32)).toUInt32 >>> ((16 : Int32).toUInt32 &&& Int32.toUInt32 31)).toInt32)))]) C dJ6_bitCount_0f7a4_47 rfl rfl (by decide) rfl ?_
  refine g_iload_n (pc' := 49) C dJ6_bitCount_0f7a4_48 rfl rfl rfl ?_
  refine g_bipush (pc' := 51) (v := (63 : Int32)) C dJ6_bitCount_0f7a4_49 rfl (by decide) ?_
  refine g_iand (pc' := 52) C dJ6_bitCount_0f7a4_51 rfl ?_
  exact RT ((((((((x0 - (((x0.toUInt32 >>> ((1 : Int32).toUInt32 &&& Int32.toUInt32 31)).toInt32) &&& (1431655765 : Int32))) &&& (858993459 : Int32)) + ((((x0 - (((x0.toUInt32 >>> ((1 : Int32).toUInt32 &&& Int32.toUInt32 31)).toInt32) &&& (1431655765 : Int32))).toUInt32 >>> ((2 : Int32).toUInt32 &&& Int32.toUInt32 31)).toInt32) &&& (858993459 : Int32))) + (((((x0 - (((x0.toUInt32 >>> ((1 : Int32).toUInt32 &&& Int32.toUInt32 31)).toInt32) &&& (1431655765 : Int32))) &&& (858993459 : Int32)) + ((((x0 - (((x0.toUInt32 >>> ((1 : Int32).toUInt32 &&& Int32.toUInt32 31)).toInt32) &&& (1431655765 : Int32))).toUInt32 >>> ((2 : Int32).toUInt32 &&& Int32.toUInt32 31)).toInt32) &&& (858993459 : Int32))).toUInt32 >>> ((4 : Int32).toUInt32 &&& Int32.toUInt32 31)).toInt32)) &&& (252645135 : Int32)) + (((((((x0 - (((x0.toUInt32 >>> ((1 : Int32).toUInt32 &&& Int32.toUInt32 31)).toInt32) &&& (1431655765 : Int32))) &&& (858993459 : Int32)) + ((((x0 - (((x0.toUInt32 >>> ((1 : Int32).toUInt32 &&& Int32.toUInt32 31)).toInt32) &&& (1431655765 : Int32))).toUInt32 >>> ((2 : Int32).toUInt32 &&& Int32.toUInt32 31)).toInt32) &&& (858993459 : Int32))) + (((((x0 - (((x0.toUInt32 >>> ((1 : Int32).toUInt32 &&& Int32.toUInt32 31)).toInt32) &&& (1431655765 : Int32))) &&& (858993459 : Int32)) + ((((x0 - (((x0.toUInt32 >>> ((1 : Int32).toUInt32 &&& Int32.toUInt32 31)).toInt32) &&& (1431655765 : Int32))).toUInt32 >>> ((2 : Int32).toUInt32 &&& Int32.toUInt32 31)).toInt32) &&& (858993459 : Int32))).toUInt32 >>> ((4 : Int32).toUInt32 &&& Int32.toUInt32 31)).toInt32)) &&& (252645135 : Int32)).toUInt32 >>> ((8 : Int32).toUInt32 &&& Int32.toUInt32 31)).toInt32)) + ((((((((x0 - (((x0.toUInt32 >>> ((1 : Int32).toUInt32 &&& Int32.toUInt32 31)).toInt32) &&& (1431655765 : Int32))) &&& (858993459 : Int32)) + ((((x0 - (((x0.toUInt32 >>> ((1 : Int32).toUInt32 &&& Int32.toUInt32 31)).toInt32) &&& (1431655765 : Int32))).toUInt32 >>> ((2 : Int32).toUInt32 &&& Int32.toUInt32 31)).toInt32) &&& (858993459 : Int32))) + (((((x0 - (((x0.toUInt32 >>> ((1 : Int32).toUInt32 &&& Int32.toUInt32 31)).toInt32) &&& (1431655765 : Int32))) &&& (858993459 : Int32)) + ((((x0 - (((x0.toUInt32 >>> ((1 : Int32).toUInt32 &&& Int32.toUInt32 31)).toInt32) &&& (1431655765 : Int32))).toUInt32 >>> ((2 : Int32).toUInt32 &&& Int32.toUInt32 31)).toInt32) &&& (858993459 : Int32))).toUInt32 >>> ((4 : Int32).toUInt32 &&& Int32.toUInt32 31)).toInt32)) &&& (252645135 : Int32)) + (((((((x0 - (((x0.toUInt32 >>> ((1 : Int32).toUInt32 &&& Int32.toUInt32 31)).toInt32) &&& (1431655765 : Int32))) &&& (858993459 : Int32)) + ((((x0 - (((x0.toUInt32 >>> ((1 : Int32).toUInt32 &&& Int32.toUInt32 31)).toInt32) &&& (1431655765 : Int32))).toUInt32 >>> ((2 : Int32).toUInt32 &&& Int32.toUInt32 31)).toInt32) &&& (858993459 : Int32))) + (((((x0 - (((x0.toUInt32 >>> ((1 : Int32).toUInt32 &&& Int32.toUInt32 31)).toInt32) &&& (1431655765 : Int32))) &&& (858993459 : Int32)) + ((((x0 - (((x0.toUInt32 >>> ((1 : Int32).toUInt32 &&& Int32.toUInt32 31)).toInt32) &&& (1431655765 : Int32))).toUInt32 >>> ((2 : Int32).toUInt32 &&& Int32.toUInt32 31)).toInt32) &&& (858993459 : Int32))).toUInt32 >>> ((4 : Int32).toUInt32 &&& Int32.toUInt32 31)).toInt32)) &&& (252645135 : Int32)).toUInt32 >>> ((8 : Int32).toUInt32 &&& Int32.toUInt32 31)).toInt32)).toUInt32 >>> ((16 : Int32).toUInt32 &&& Int32.toUInt32 31)).toInt32)) &&& (63 : Int32)) () _ _ _ _ dJ6_bitCount_0f7a4_52 rfl (by decide) (by decide) hv)
def vX0_indexOf (x0 : Int32) (x1 : Int32) (x2 : Int32) (x3 : Int32) (Q : Int32 → Prop) : Prop := (Q ((((x0 * (360 : Int32)) + (x1 * (36 : Int32))) + (x2 * (12 : Int32))) + x3))
set_option maxHeartbeats 4000000 in
set_option maxRecDepth 100000 in
theorem mtX0_indexOf {l : Launch} {γ : Gm} {x0 : Int32} {x1 : Int32} {x2 : Int32} {x3 : Int32} {Q : Int32 → Prop} (hv : vX0_indexOf x0 x1 x2 x3 Q) : CtI l γ yX0_indexOf cX0_indexOf 4 .int 0 0 0 0 [.int x0, .int x1, .int x2, .int x3] ([]) (fun (r : Int32) (_ : Unit) => Q r) (fun _ => []) := startI (by decide +kernel) (Nat.le_of_ble_eq_true rfl) (fun κ C RT hR hnm => by
  show G l γ κ ([]) [(0, .int x0), (1, .int x1), (2, .int x2), (3, .int x3)] 0 0 [] 0
  refine g_iload_n (pc' := 1) C dX0_indexOf_0 rfl rfl rfl ?_
  refine g_sipush (pc' := 4) (v := (360 : Int32)) C dX0_indexOf_1 rfl (by decide) ?_
  refine g_imul (pc' := 5) C dX0_indexOf_4 rfl ?_
  refine g_iload_n (pc' := 6) C dX0_indexOf_5 rfl rfl rfl ?_
  refine g_bipush (pc' := 8) (v := (36 : Int32)) C dX0_indexOf_6 rfl (by decide) ?_
  refine g_imul (pc' := 9) C dX0_indexOf_8 rfl ?_
  refine g_iadd (pc' := 10) C dX0_indexOf_9 rfl ?_
  refine g_iload_n (pc' := 11) C dX0_indexOf_10 rfl rfl rfl ?_
  refine g_bipush (pc' := 13) (v := (12 : Int32)) C dX0_indexOf_11 rfl (by decide) ?_
  refine g_imul (pc' := 14) C dX0_indexOf_13 rfl ?_
  refine g_iadd (pc' := 15) C dX0_indexOf_14 rfl ?_
  refine g_iload_n (pc' := 16) C dX0_indexOf_15 rfl rfl rfl ?_
  refine g_iadd (pc' := 17) C dX0_indexOf_16 rfl ?_
  exact RT ((((x0 * (360 : Int32)) + (x1 * (36 : Int32))) + (x2 * (12 : Int32))) + x3) () _ _ _ _ dX0_indexOf_17 rfl (by decide) (by decide) hv)
def vX3_isIn (x0 : Int32) (x1 : Int32) (Q : Int32 → Prop) : Prop := ((((x0 >>> (x1 &&& 31)) &&& (1 : Int32)) = (0 : Int32) → (Q (0 : Int32))) ∧ (¬ ((x0 >>> (x1 &&& 31)) &&& (1 : Int32)) = (0 : Int32) → (Q (1 : Int32))))
set_option maxHeartbeats 4000000 in
set_option maxRecDepth 100000 in
theorem mtX3_isIn {l : Launch} {γ : Gm} {x0 : Int32} {x1 : Int32} {Q : Int32 → Prop} (hv : vX3_isIn x0 x1 Q) : CtI l γ yX3_isIn cX3_isIn 2 .boolean 0 0 0 0 [.int x0, .int x1] ([]) (fun (r : Int32) (_ : Unit) => Q r) (fun _ => []) := startI (by decide +kernel) (Nat.le_of_ble_eq_true rfl) (fun κ C RT hR hnm => by
  show G l γ κ ([]) [(0, .int x0), (1, .int x1)] 0 0 [] 0
  refine g_iload_n (pc' := 1) C dX3_isIn_0 rfl rfl rfl ?_
  refine g_iload_n (pc' := 2) C dX3_isIn_1 rfl rfl rfl ?_
  refine g_ishr (pc' := 3) C dX3_isIn_2 rfl ?_
  refine g_iconst (pc' := 4) (v := (1 : Int32)) C dX3_isIn_3 rfl (by decide) ?_
  refine g_iand (pc' := 5) C dX3_isIn_4 rfl ?_
  obtain ⟨hv1, hv2⟩ := hv
  refine g_if_eq (pc' := 8) (tgt := 12) C dX3_isIn_5 rfl (by decide) (fun c => ?_) (fun c => ?_)
  · have hv := hv1 c
    refine g_iconst (pc' := 13) (v := (0 : Int32)) C dX3_isIn_12 rfl (by decide) ?_
    exact RT (0 : Int32) () _ _ _ _ dX3_isIn_13 rfl (by decide) (by decide) hv
  · have hv := hv2 c
    refine g_iconst (pc' := 9) (v := (1 : Int32)) C dX3_isIn_8 rfl (by decide) ?_
    refine g_goto (tgt := 13) C dX3_isIn_9 (by decide) ?_
    exact RT (1 : Int32) () _ _ _ _ dX3_isIn_13 rfl (by decide) (by decide) hv)
def vX3_checkVersion_J9 (Q : Prop) : Prop := False
set_option maxHeartbeats 4000000 in
set_option maxRecDepth 100000 in
theorem wvX3_checkVersion_J9 {l : Launch} {γ : Gm} {κ : Kx} {Q : Prop} (C : Ok γ κ cX3_checkVersion 1 RX3 6 82) (RT : RtV l γ κ cX3_checkVersion 0 0 (fun (_ : Unit) => Q) (fun _ => []))  (hv : vX3_checkVersion_J9 Q) : G l γ κ ([]) [] 0 0 [] 9 := by
  exact hv.elim
def vX3_checkVersion (x0 : Int32) (Q : Prop) : Prop := ((x0 < (0 : Int32) → (vX3_checkVersion_J9 Q)) ∧ (¬ x0 < (0 : Int32) → ((x0 < (3 : Int32) → Q) ∧ (¬ x0 < (3 : Int32) → (vX3_checkVersion_J9 Q)))))
set_option maxHeartbeats 4000000 in
set_option maxRecDepth 100000 in
theorem mtX3_checkVersion {l : Launch} {γ : Gm} {x0 : Int32} {Q : Prop} (hv : vX3_checkVersion x0 Q) : CtV l γ yX3_checkVersion cX3_checkVersion 1 6 82 0 0 [.int x0] ([]) (fun (_ : Unit) => Q) (fun _ => []) := startV (by decide +kernel) (Nat.le_of_ble_eq_true rfl) (fun κ C RT hR hnm => by
  show G l γ κ ([]) [(0, .int x0)] 0 0 [] 0
  refine g_iload_n (pc' := 1) C dX3_checkVersion_0 rfl rfl rfl ?_
  obtain ⟨hv1, hv2⟩ := hv
  refine g_if_lt (pc' := 4) (tgt := 9) C dX3_checkVersion_1 rfl (by decide) (fun c => ?_) (fun c => ?_)
  · have hv := hv1 c
    refine g_sub (lv' := []) [] rfl ?_
    exact wvX3_checkVersion_J9 C RT  hv
  · have hv := hv2 c
    refine g_iload_n (pc' := 5) C dX3_checkVersion_4 rfl rfl rfl ?_
    refine g_iconst (pc' := 6) (v := (3 : Int32)) C dX3_checkVersion_5 rfl (by decide) ?_
    obtain ⟨hv1, hv2⟩ := hv
    refine g_icmp_lt (pc' := 9) (tgt := 19) C dX3_checkVersion_6 rfl (by decide) (fun c => ?_) (fun c => ?_)
    · have hv := hv1 c
      exact RT () _ _ _ _ dX3_checkVersion_19 (by decide) (by decide) hv
    · have hv := hv2 c
      refine g_sub (lv' := []) [] rfl ?_
      exact wvX3_checkVersion_J9 C RT  hv)
def zX3_checkVersion_J9 (X : String → Prop) : Prop := (X eIO)
set_option maxHeartbeats 4000000 in
set_option maxRecDepth 100000 in
theorem wzX3_checkVersion_J9 {l : Launch} {γ : Gm} {κ : Kx} {X : String → Prop} (hfl : l.stackTraces = false) (C : Ok γ κ cX3_checkVersion 1 RX3 6 82) (hX : XQ γ κ (fun (E : String) (_ : Unit) => X E) (fun _ => []))  (hv : zX3_checkVersion_J9 X) : G l γ κ ([]) [] 0 0 [] 9 := by
  exact g_throw hfl C hX () (th_eIO (List.mem_of_getElem? (i := 9) rfl)) (by decide) dX3_checkVersion_9 dX3_checkVersion_12 dX3_checkVersion_13 dX3_checkVersion_15 dX3_checkVersion_18 rfl hv
def zX3_checkVersion (x0 : Int32) (X : String → Prop) : Prop := ((x0 < (0 : Int32) → (zX3_checkVersion_J9 X)) ∧ (¬ x0 < (0 : Int32) → ((x0 < (3 : Int32) → False) ∧ (¬ x0 < (3 : Int32) → (zX3_checkVersion_J9 X)))))
set_option maxHeartbeats 4000000 in
set_option maxRecDepth 100000 in
theorem mtzX3_checkVersion {l : Launch} (hfl : l.stackTraces = false) {γ : Gm} {x0 : Int32} {X : String → Prop} (hv : zX3_checkVersion x0 X) : CtX l γ yX3_checkVersion cX3_checkVersion 1 none 6 82 [.int x0] ([]) (fun (E : String) (_ : Unit) => X E) (fun _ => []) := startX (by decide +kernel) (Nat.le_of_ble_eq_true rfl) (fun κ C hX => by
  show G l γ κ ([]) [(0, .int x0)] 0 0 [] 0
  refine g_iload_n (pc' := 1) C dX3_checkVersion_0 rfl rfl rfl ?_
  obtain ⟨hv1, hv2⟩ := hv
  refine g_if_lt (pc' := 4) (tgt := 9) C dX3_checkVersion_1 rfl (by decide) (fun c => ?_) (fun c => ?_)
  · have hv := hv1 c
    refine g_sub (lv' := []) [] rfl ?_
    exact wzX3_checkVersion_J9 hfl C hX  hv
  · have hv := hv2 c
    refine g_iload_n (pc' := 5) C dX3_checkVersion_4 rfl rfl rfl ?_
    refine g_iconst (pc' := 6) (v := (3 : Int32)) C dX3_checkVersion_5 rfl (by decide) ?_
    obtain ⟨hv1, hv2⟩ := hv
    refine g_icmp_lt (pc' := 9) (tgt := 19) C dX3_checkVersion_6 rfl (by decide) (fun c => ?_) (fun c => ?_)
    · have hv := hv1 c
      exact hv.elim
    · have hv := hv2 c
      refine g_sub (lv' := []) [] rfl ?_
      exact wzX3_checkVersion_J9 hfl C hX  hv)
def vX3_checkCellAccount_J9 (Q : Prop) : Prop := False
set_option maxHeartbeats 4000000 in
set_option maxRecDepth 100000 in
theorem wvX3_checkCellAccount_J9 {l : Launch} {γ : Gm} {κ : Kx} {Q : Prop} (C : Ok γ κ cX3_checkCellAccount 1 RX3 6 82) (RT : RtV l γ κ cX3_checkCellAccount 0 0 (fun (_ : Unit) => Q) (fun _ => []))  (hv : vX3_checkCellAccount_J9 Q) : G l γ κ ([]) [] 0 0 [] 9 := by
  exact hv.elim
def vX3_checkCellAccount (x0 : Int32) (Q : Prop) : Prop := ((x0 < (0 : Int32) → (vX3_checkCellAccount_J9 Q)) ∧ (¬ x0 < (0 : Int32) → ((x0 < (3 : Int32) → Q) ∧ (¬ x0 < (3 : Int32) → (vX3_checkCellAccount_J9 Q)))))
set_option maxHeartbeats 4000000 in
set_option maxRecDepth 100000 in
theorem mtX3_checkCellAccount {l : Launch} {γ : Gm} {x0 : Int32} {Q : Prop} (hv : vX3_checkCellAccount x0 Q) : CtV l γ yX3_checkCellAccount cX3_checkCellAccount 1 6 82 0 0 [.int x0] ([]) (fun (_ : Unit) => Q) (fun _ => []) := startV (by decide +kernel) (Nat.le_of_ble_eq_true rfl) (fun κ C RT hR hnm => by
  show G l γ κ ([]) [(0, .int x0)] 0 0 [] 0
  refine g_iload_n (pc' := 1) C dX3_checkCellAccount_0 rfl rfl rfl ?_
  obtain ⟨hv1, hv2⟩ := hv
  refine g_if_lt (pc' := 4) (tgt := 9) C dX3_checkCellAccount_1 rfl (by decide) (fun c => ?_) (fun c => ?_)
  · have hv := hv1 c
    refine g_sub (lv' := []) [] rfl ?_
    exact wvX3_checkCellAccount_J9 C RT  hv
  · have hv := hv2 c
    refine g_iload_n (pc' := 5) C dX3_checkCellAccount_4 rfl rfl rfl ?_
    refine g_iconst (pc' := 6) (v := (3 : Int32)) C dX3_checkCellAccount_5 rfl (by decide) ?_
    obtain ⟨hv1, hv2⟩ := hv
    refine g_icmp_lt (pc' := 9) (tgt := 19) C dX3_checkCellAccount_6 rfl (by decide) (fun c => ?_) (fun c => ?_)
    · have hv := hv1 c
      exact RT () _ _ _ _ dX3_checkCellAccount_19 (by decide) (by decide) hv
    · have hv := hv2 c
      refine g_sub (lv' := []) [] rfl ?_
      exact wvX3_checkCellAccount_J9 C RT  hv)
def zX3_checkCellAccount_J9 (X : String → Prop) : Prop := (X eIO)
set_option maxHeartbeats 4000000 in
set_option maxRecDepth 100000 in
theorem wzX3_checkCellAccount_J9 {l : Launch} {γ : Gm} {κ : Kx} {X : String → Prop} (hfl : l.stackTraces = false) (C : Ok γ κ cX3_checkCellAccount 1 RX3 6 82) (hX : XQ γ κ (fun (E : String) (_ : Unit) => X E) (fun _ => []))  (hv : zX3_checkCellAccount_J9 X) : G l γ κ ([]) [] 0 0 [] 9 := by
  exact g_throw hfl C hX () (th_eIO (List.mem_of_getElem? (i := 12) rfl)) (by decide) dX3_checkCellAccount_9 dX3_checkCellAccount_12 dX3_checkCellAccount_13 dX3_checkCellAccount_15 dX3_checkCellAccount_18 rfl hv
def zX3_checkCellAccount (x0 : Int32) (X : String → Prop) : Prop := ((x0 < (0 : Int32) → (zX3_checkCellAccount_J9 X)) ∧ (¬ x0 < (0 : Int32) → ((x0 < (3 : Int32) → False) ∧ (¬ x0 < (3 : Int32) → (zX3_checkCellAccount_J9 X)))))
set_option maxHeartbeats 4000000 in
set_option maxRecDepth 100000 in
theorem mtzX3_checkCellAccount {l : Launch} (hfl : l.stackTraces = false) {γ : Gm} {x0 : Int32} {X : String → Prop} (hv : zX3_checkCellAccount x0 X) : CtX l γ yX3_checkCellAccount cX3_checkCellAccount 1 none 6 82 [.int x0] ([]) (fun (E : String) (_ : Unit) => X E) (fun _ => []) := startX (by decide +kernel) (Nat.le_of_ble_eq_true rfl) (fun κ C hX => by
  show G l γ κ ([]) [(0, .int x0)] 0 0 [] 0
  refine g_iload_n (pc' := 1) C dX3_checkCellAccount_0 rfl rfl rfl ?_
  obtain ⟨hv1, hv2⟩ := hv
  refine g_if_lt (pc' := 4) (tgt := 9) C dX3_checkCellAccount_1 rfl (by decide) (fun c => ?_) (fun c => ?_)
  · have hv := hv1 c
    refine g_sub (lv' := []) [] rfl ?_
    exact wzX3_checkCellAccount_J9 hfl C hX  hv
  · have hv := hv2 c
    refine g_iload_n (pc' := 5) C dX3_checkCellAccount_4 rfl rfl rfl ?_
    refine g_iconst (pc' := 6) (v := (3 : Int32)) C dX3_checkCellAccount_5 rfl (by decide) ?_
    obtain ⟨hv1, hv2⟩ := hv
    refine g_icmp_lt (pc' := 9) (tgt := 19) C dX3_checkCellAccount_6 rfl (by decide) (fun c => ?_) (fun c => ?_)
    · have hv := hv1 c
      exact hv.elim
    · have hv := hv2 c
      refine g_sub (lv' := []) [] rfl ?_
      exact wzX3_checkCellAccount_J9 hfl C hX  hv)
def vX3_checkMonth_J10 (Q : Prop) : Prop := False
set_option maxHeartbeats 4000000 in
set_option maxRecDepth 100000 in
theorem wvX3_checkMonth_J10 {l : Launch} {γ : Gm} {κ : Kx} {Q : Prop} (C : Ok γ κ cX3_checkMonth 1 RX3 6 82) (RT : RtV l γ κ cX3_checkMonth 0 0 (fun (_ : Unit) => Q) (fun _ => []))  (hv : vX3_checkMonth_J10 Q) : G l γ κ ([]) [] 0 0 [] 10 := by
  exact hv.elim
def vX3_checkMonth (x0 : Int32) (Q : Prop) : Prop := ((x0 < (0 : Int32) → (vX3_checkMonth_J10 Q)) ∧ (¬ x0 < (0 : Int32) → ((x0 < (12 : Int32) → Q) ∧ (¬ x0 < (12 : Int32) → (vX3_checkMonth_J10 Q)))))
set_option maxHeartbeats 4000000 in
set_option maxRecDepth 100000 in
theorem mtX3_checkMonth {l : Launch} {γ : Gm} {x0 : Int32} {Q : Prop} (hv : vX3_checkMonth x0 Q) : CtV l γ yX3_checkMonth cX3_checkMonth 1 6 82 0 0 [.int x0] ([]) (fun (_ : Unit) => Q) (fun _ => []) := startV (by decide +kernel) (Nat.le_of_ble_eq_true rfl) (fun κ C RT hR hnm => by
  show G l γ κ ([]) [(0, .int x0)] 0 0 [] 0
  refine g_iload_n (pc' := 1) C dX3_checkMonth_0 rfl rfl rfl ?_
  obtain ⟨hv1, hv2⟩ := hv
  refine g_if_lt (pc' := 4) (tgt := 10) C dX3_checkMonth_1 rfl (by decide) (fun c => ?_) (fun c => ?_)
  · have hv := hv1 c
    refine g_sub (lv' := []) [] rfl ?_
    exact wvX3_checkMonth_J10 C RT  hv
  · have hv := hv2 c
    refine g_iload_n (pc' := 5) C dX3_checkMonth_4 rfl rfl rfl ?_
    refine g_bipush (pc' := 7) (v := (12 : Int32)) C dX3_checkMonth_5 rfl (by decide) ?_
    obtain ⟨hv1, hv2⟩ := hv
    refine g_icmp_lt (pc' := 10) (tgt := 20) C dX3_checkMonth_7 rfl (by decide) (fun c => ?_) (fun c => ?_)
    · have hv := hv1 c
      exact RT () _ _ _ _ dX3_checkMonth_20 (by decide) (by decide) hv
    · have hv := hv2 c
      refine g_sub (lv' := []) [] rfl ?_
      exact wvX3_checkMonth_J10 C RT  hv)
def zX3_checkMonth_J10 (X : String → Prop) : Prop := (X eIO)
set_option maxHeartbeats 4000000 in
set_option maxRecDepth 100000 in
theorem wzX3_checkMonth_J10 {l : Launch} {γ : Gm} {κ : Kx} {X : String → Prop} (hfl : l.stackTraces = false) (C : Ok γ κ cX3_checkMonth 1 RX3 6 82) (hX : XQ γ κ (fun (E : String) (_ : Unit) => X E) (fun _ => []))  (hv : zX3_checkMonth_J10 X) : G l γ κ ([]) [] 0 0 [] 10 := by
  exact g_throw hfl C hX () (th_eIO (List.mem_of_getElem? (i := 13) rfl)) (by decide) dX3_checkMonth_10 dX3_checkMonth_13 dX3_checkMonth_14 dX3_checkMonth_16 dX3_checkMonth_19 rfl hv
def zX3_checkMonth (x0 : Int32) (X : String → Prop) : Prop := ((x0 < (0 : Int32) → (zX3_checkMonth_J10 X)) ∧ (¬ x0 < (0 : Int32) → ((x0 < (12 : Int32) → False) ∧ (¬ x0 < (12 : Int32) → (zX3_checkMonth_J10 X)))))
set_option maxHeartbeats 4000000 in
set_option maxRecDepth 100000 in
theorem mtzX3_checkMonth {l : Launch} (hfl : l.stackTraces = false) {γ : Gm} {x0 : Int32} {X : String → Prop} (hv : zX3_checkMonth x0 X) : CtX l γ yX3_checkMonth cX3_checkMonth 1 none 6 82 [.int x0] ([]) (fun (E : String) (_ : Unit) => X E) (fun _ => []) := startX (by decide +kernel) (Nat.le_of_ble_eq_true rfl) (fun κ C hX => by
  show G l γ κ ([]) [(0, .int x0)] 0 0 [] 0
  refine g_iload_n (pc' := 1) C dX3_checkMonth_0 rfl rfl rfl ?_
  obtain ⟨hv1, hv2⟩ := hv
  refine g_if_lt (pc' := 4) (tgt := 10) C dX3_checkMonth_1 rfl (by decide) (fun c => ?_) (fun c => ?_)
  · have hv := hv1 c
    refine g_sub (lv' := []) [] rfl ?_
    exact wzX3_checkMonth_J10 hfl C hX  hv
  · have hv := hv2 c
    refine g_iload_n (pc' := 5) C dX3_checkMonth_4 rfl rfl rfl ?_
    refine g_bipush (pc' := 7) (v := (12 : Int32)) C dX3_checkMonth_5 rfl (by decide) ?_
    obtain ⟨hv1, hv2⟩ := hv
    refine g_icmp_lt (pc' := 10) (tgt := 20) C dX3_checkMonth_7 rfl (by decide) (fun c => ?_) (fun c => ?_)
    · have hv := hv1 c
      exact hv.elim
    · have hv := hv2 c
      refine g_sub (lv' := []) [] rfl ?_
      exact wzX3_checkMonth_J10 hfl C hX  hv)
def vX3_mostOf (x0 : Int32) (Q : Int32 → Prop) : Prop := ((¬ x0 = (2 : Int32) → (Q (1000 : Int32))) ∧ (x0 = (2 : Int32) → (Q (1000000 : Int32))))
set_option maxHeartbeats 4000000 in
set_option maxRecDepth 100000 in
theorem mtX3_mostOf {l : Launch} {γ : Gm} {x0 : Int32} {Q : Int32 → Prop} (hv : vX3_mostOf x0 Q) : CtI l γ yX3_mostOf cX3_mostOf 1 .int 0 0 0 0 [.int x0] ([]) (fun (r : Int32) (_ : Unit) => Q r) (fun _ => []) := startI (by decide +kernel) (Nat.le_of_ble_eq_true rfl) (fun κ C RT hR hnm => by
  show G l γ κ ([]) [(0, .int x0)] 0 0 [] 0
  refine g_iload_n (pc' := 1) C dX3_mostOf_0 rfl rfl rfl ?_
  refine g_iconst (pc' := 2) (v := (2 : Int32)) C dX3_mostOf_1 rfl (by decide) ?_
  obtain ⟨hv1, hv2⟩ := hv
  refine g_icmp_ne (pc' := 5) (tgt := 10) C dX3_mostOf_2 rfl (by decide) (fun c => ?_) (fun c => ?_)
  · have hv := hv1 c
    refine g_sipush (pc' := 13) (v := (1000 : Int32)) C dX3_mostOf_10 rfl (by decide) ?_
    exact RT (1000 : Int32) () _ _ _ _ dX3_mostOf_13 rfl (by decide) (by decide) hv
  · have hv := hv2 c
    refine g_ldc (pc' := 7) C k_X3_112 dX3_mostOf_5 rfl ?_
    refine g_goto (tgt := 13) C dX3_mostOf_7 (by decide) ?_
    exact RT (1000000 : Int32) () _ _ _ _ dX3_mostOf_13 rfl (by decide) (by decide) hv)
def vX3_checkUpTo_J9 (Q : Prop) : Prop := False
set_option maxHeartbeats 4000000 in
set_option maxRecDepth 100000 in
theorem wvX3_checkUpTo_J9 {l : Launch} {γ : Gm} {κ : Kx} {Q : Prop} (C : Ok γ κ cX3_checkUpTo 2 RX3 6 82) (RT : RtV l γ κ cX3_checkUpTo 0 0 (fun (_ : Unit) => Q) (fun _ => []))  (hv : vX3_checkUpTo_J9 Q) : G l γ κ ([]) [] 0 0 [] 9 := by
  exact hv.elim
def vX3_checkUpTo (x0 : Int32) (x1 : Int32) (Q : Prop) : Prop := ((x0 < (0 : Int32) → (vX3_checkUpTo_J9 Q)) ∧ (¬ x0 < (0 : Int32) → ((x0 ≤ x1 → Q) ∧ (¬ x0 ≤ x1 → (vX3_checkUpTo_J9 Q)))))
set_option maxHeartbeats 4000000 in
set_option maxRecDepth 100000 in
theorem mtX3_checkUpTo {l : Launch} {γ : Gm} {x0 : Int32} {x1 : Int32} {Q : Prop} (hv : vX3_checkUpTo x0 x1 Q) : CtV l γ yX3_checkUpTo cX3_checkUpTo 2 6 82 0 0 [.int x0, .int x1] ([]) (fun (_ : Unit) => Q) (fun _ => []) := startV (by decide +kernel) (Nat.le_of_ble_eq_true rfl) (fun κ C RT hR hnm => by
  show G l γ κ ([]) [(0, .int x0), (1, .int x1)] 0 0 [] 0
  refine g_iload_n (pc' := 1) C dX3_checkUpTo_0 rfl rfl rfl ?_
  obtain ⟨hv1, hv2⟩ := hv
  refine g_if_lt (pc' := 4) (tgt := 9) C dX3_checkUpTo_1 rfl (by decide) (fun c => ?_) (fun c => ?_)
  · have hv := hv1 c
    refine g_sub (lv' := []) [] rfl ?_
    exact wvX3_checkUpTo_J9 C RT  hv
  · have hv := hv2 c
    refine g_iload_n (pc' := 5) C dX3_checkUpTo_4 rfl rfl rfl ?_
    refine g_iload_n (pc' := 6) C dX3_checkUpTo_5 rfl rfl rfl ?_
    obtain ⟨hv1, hv2⟩ := hv
    refine g_icmp_le (pc' := 9) (tgt := 19) C dX3_checkUpTo_6 rfl (by decide) (fun c => ?_) (fun c => ?_)
    · have hv := hv1 c
      exact RT () _ _ _ _ dX3_checkUpTo_19 (by decide) (by decide) hv
    · have hv := hv2 c
      refine g_sub (lv' := []) [] rfl ?_
      exact wvX3_checkUpTo_J9 C RT  hv)
def zX3_checkUpTo_J9 (X : String → Prop) : Prop := (X eIA)
set_option maxHeartbeats 4000000 in
set_option maxRecDepth 100000 in
theorem wzX3_checkUpTo_J9 {l : Launch} {γ : Gm} {κ : Kx} {X : String → Prop} (hfl : l.stackTraces = false) (C : Ok γ κ cX3_checkUpTo 2 RX3 6 82) (hX : XQ γ κ (fun (E : String) (_ : Unit) => X E) (fun _ => []))  (hv : zX3_checkUpTo_J9 X) : G l γ κ ([]) [] 0 0 [] 9 := by
  exact g_throw hfl C hX () (th_eIA (List.mem_of_getElem? (i := 14) rfl)) (by decide) dX3_checkUpTo_9 dX3_checkUpTo_12 dX3_checkUpTo_13 dX3_checkUpTo_15 dX3_checkUpTo_18 rfl hv
def zX3_checkUpTo (x0 : Int32) (x1 : Int32) (X : String → Prop) : Prop := ((x0 < (0 : Int32) → (zX3_checkUpTo_J9 X)) ∧ (¬ x0 < (0 : Int32) → ((x0 ≤ x1 → False) ∧ (¬ x0 ≤ x1 → (zX3_checkUpTo_J9 X)))))
set_option maxHeartbeats 4000000 in
set_option maxRecDepth 100000 in
theorem mtzX3_checkUpTo {l : Launch} (hfl : l.stackTraces = false) {γ : Gm} {x0 : Int32} {x1 : Int32} {X : String → Prop} (hv : zX3_checkUpTo x0 x1 X) : CtX l γ yX3_checkUpTo cX3_checkUpTo 2 none 6 82 [.int x0, .int x1] ([]) (fun (E : String) (_ : Unit) => X E) (fun _ => []) := startX (by decide +kernel) (Nat.le_of_ble_eq_true rfl) (fun κ C hX => by
  show G l γ κ ([]) [(0, .int x0), (1, .int x1)] 0 0 [] 0
  refine g_iload_n (pc' := 1) C dX3_checkUpTo_0 rfl rfl rfl ?_
  obtain ⟨hv1, hv2⟩ := hv
  refine g_if_lt (pc' := 4) (tgt := 9) C dX3_checkUpTo_1 rfl (by decide) (fun c => ?_) (fun c => ?_)
  · have hv := hv1 c
    refine g_sub (lv' := []) [] rfl ?_
    exact wzX3_checkUpTo_J9 hfl C hX  hv
  · have hv := hv2 c
    refine g_iload_n (pc' := 5) C dX3_checkUpTo_4 rfl rfl rfl ?_
    refine g_iload_n (pc' := 6) C dX3_checkUpTo_5 rfl rfl rfl ?_
    obtain ⟨hv1, hv2⟩ := hv
    refine g_icmp_le (pc' := 9) (tgt := 19) C dX3_checkUpTo_6 rfl (by decide) (fun c => ?_) (fun c => ?_)
    · have hv := hv1 c
      exact hv.elim
    · have hv := hv2 c
      refine g_sub (lv' := []) [] rfl ?_
      exact wzX3_checkUpTo_J9 hfl C hX  hv)
def vX3_checkAccount_J9 (Q : Prop) : Prop := False
set_option maxHeartbeats 4000000 in
set_option maxRecDepth 100000 in
theorem wvX3_checkAccount_J9 {l : Launch} {γ : Gm} {κ : Kx} {Q : Prop} (C : Ok γ κ cX3_checkAccount 1 RX3 6 82) (RT : RtV l γ κ cX3_checkAccount 0 0 (fun (_ : Unit) => Q) (fun _ => []))  (hv : vX3_checkAccount_J9 Q) : G l γ κ ([]) [] 0 0 [] 9 := by
  exact hv.elim
def vX3_checkAccount (x0 : Int32) (Q : Prop) : Prop := ((x0 < (0 : Int32) → (vX3_checkAccount_J9 Q)) ∧ (¬ x0 < (0 : Int32) → ((x0 ≤ (3 : Int32) → Q) ∧ (¬ x0 ≤ (3 : Int32) → (vX3_checkAccount_J9 Q)))))
set_option maxHeartbeats 4000000 in
set_option maxRecDepth 100000 in
theorem mtX3_checkAccount {l : Launch} {γ : Gm} {x0 : Int32} {Q : Prop} (hv : vX3_checkAccount x0 Q) : CtV l γ yX3_checkAccount cX3_checkAccount 1 6 82 0 0 [.int x0] ([]) (fun (_ : Unit) => Q) (fun _ => []) := startV (by decide +kernel) (Nat.le_of_ble_eq_true rfl) (fun κ C RT hR hnm => by
  show G l γ κ ([]) [(0, .int x0)] 0 0 [] 0
  refine g_iload_n (pc' := 1) C dX3_checkAccount_0 rfl rfl rfl ?_
  obtain ⟨hv1, hv2⟩ := hv
  refine g_if_lt (pc' := 4) (tgt := 9) C dX3_checkAccount_1 rfl (by decide) (fun c => ?_) (fun c => ?_)
  · have hv := hv1 c
    refine g_sub (lv' := []) [] rfl ?_
    exact wvX3_checkAccount_J9 C RT  hv
  · have hv := hv2 c
    refine g_iload_n (pc' := 5) C dX3_checkAccount_4 rfl rfl rfl ?_
    refine g_iconst (pc' := 6) (v := (3 : Int32)) C dX3_checkAccount_5 rfl (by decide) ?_
    obtain ⟨hv1, hv2⟩ := hv
    refine g_icmp_le (pc' := 9) (tgt := 19) C dX3_checkAccount_6 rfl (by decide) (fun c => ?_) (fun c => ?_)
    · have hv := hv1 c
      exact RT () _ _ _ _ dX3_checkAccount_19 (by decide) (by decide) hv
    · have hv := hv2 c
      refine g_sub (lv' := []) [] rfl ?_
      exact wvX3_checkAccount_J9 C RT  hv)
def zX3_checkAccount_J9 (X : String → Prop) : Prop := (X eIO)
set_option maxHeartbeats 4000000 in
set_option maxRecDepth 100000 in
theorem wzX3_checkAccount_J9 {l : Launch} {γ : Gm} {κ : Kx} {X : String → Prop} (hfl : l.stackTraces = false) (C : Ok γ κ cX3_checkAccount 1 RX3 6 82) (hX : XQ γ κ (fun (E : String) (_ : Unit) => X E) (fun _ => []))  (hv : zX3_checkAccount_J9 X) : G l γ κ ([]) [] 0 0 [] 9 := by
  exact g_throw hfl C hX () (th_eIO (List.mem_of_getElem? (i := 11) rfl)) (by decide) dX3_checkAccount_9 dX3_checkAccount_12 dX3_checkAccount_13 dX3_checkAccount_15 dX3_checkAccount_18 rfl hv
def zX3_checkAccount (x0 : Int32) (X : String → Prop) : Prop := ((x0 < (0 : Int32) → (zX3_checkAccount_J9 X)) ∧ (¬ x0 < (0 : Int32) → ((x0 ≤ (3 : Int32) → False) ∧ (¬ x0 ≤ (3 : Int32) → (zX3_checkAccount_J9 X)))))
set_option maxHeartbeats 4000000 in
set_option maxRecDepth 100000 in
theorem mtzX3_checkAccount {l : Launch} (hfl : l.stackTraces = false) {γ : Gm} {x0 : Int32} {X : String → Prop} (hv : zX3_checkAccount x0 X) : CtX l γ yX3_checkAccount cX3_checkAccount 1 none 6 82 [.int x0] ([]) (fun (E : String) (_ : Unit) => X E) (fun _ => []) := startX (by decide +kernel) (Nat.le_of_ble_eq_true rfl) (fun κ C hX => by
  show G l γ κ ([]) [(0, .int x0)] 0 0 [] 0
  refine g_iload_n (pc' := 1) C dX3_checkAccount_0 rfl rfl rfl ?_
  obtain ⟨hv1, hv2⟩ := hv
  refine g_if_lt (pc' := 4) (tgt := 9) C dX3_checkAccount_1 rfl (by decide) (fun c => ?_) (fun c => ?_)
  · have hv := hv1 c
    refine g_sub (lv' := []) [] rfl ?_
    exact wzX3_checkAccount_J9 hfl C hX  hv
  · have hv := hv2 c
    refine g_iload_n (pc' := 5) C dX3_checkAccount_4 rfl rfl rfl ?_
    refine g_iconst (pc' := 6) (v := (3 : Int32)) C dX3_checkAccount_5 rfl (by decide) ?_
    obtain ⟨hv1, hv2⟩ := hv
    refine g_icmp_le (pc' := 9) (tgt := 19) C dX3_checkAccount_6 rfl (by decide) (fun c => ?_) (fun c => ?_)
    · have hv := hv1 c
      exact hv.elim
    · have hv := hv2 c
      refine g_sub (lv' := []) [] rfl ?_
      exact wzX3_checkAccount_J9 hfl C hX  hv)
def vX3_gapPart (x0 : Int32) (x1 : Int32) (x2 : Int32) (x3 : Int32) (x4 : Int32) (Q : Int32 → Prop) : Prop := (((x4).toInt < 0 ∨ 2 < (x4).toInt → (Q ((x2 - x0) * (x3 - x1)))) ∧ ((x4).toInt = 0 → (Q ((x2 * x3) - (x0 * x1)))) ∧ ((x4).toInt = 1 → (Q ((x2 - x0) * x1))) ∧ ((x4).toInt = 2 → (Q (x0 * (x3 - x1)))))
set_option maxHeartbeats 4000000 in
set_option maxRecDepth 100000 in
theorem mtX3_gapPart {l : Launch} {γ : Gm} {x0 : Int32} {x1 : Int32} {x2 : Int32} {x3 : Int32} {x4 : Int32} {Q : Int32 → Prop} (hv : vX3_gapPart x0 x1 x2 x3 x4 Q) : CtI l γ yX3_gapPart cX3_gapPart 5 .int 0 0 0 0 [.int x0, .int x1, .int x2, .int x3, .int x4] ([]) (fun (r : Int32) (_ : Unit) => Q r) (fun _ => []) := startI (by decide +kernel) (Nat.le_of_ble_eq_true rfl) (fun κ C RT hR hnm => by
  show G l γ κ ([]) [(0, .int x0), (1, .int x1), (2, .int x2), (3, .int x3), (4, .int x4)] 0 0 [] 0
  refine g_iload (pc' := 2) C dX3_gapPart_0 rfl rfl ?_
  by_cases c : (x4).toInt < 0 ∨ 2 < (x4).toInt
  · have hv := hv.1 c
    refine g_tabOut (tgt := 48) C dX3_gapPart_2 c (by decide) ?_
    refine g_iload_n (pc' := 49) C dX3_gapPart_48 rfl rfl rfl ?_
    refine g_iload_n (pc' := 50) C dX3_gapPart_49 rfl rfl rfl ?_
    refine g_isub (pc' := 51) C dX3_gapPart_50 rfl ?_
    refine g_iload_n (pc' := 52) C dX3_gapPart_51 rfl rfl rfl ?_
    refine g_iload_n (pc' := 53) C dX3_gapPart_52 rfl rfl rfl ?_
    refine g_isub (pc' := 54) C dX3_gapPart_53 rfl ?_
    refine g_imul (pc' := 55) C dX3_gapPart_54 rfl ?_
    exact RT ((x2 - x0) * (x3 - x1)) () _ _ _ _ dX3_gapPart_55 rfl (by decide) (by decide) hv
  · have hc : (x4).toInt = 0 ∨ (x4).toInt = 1 ∨ (x4).toInt = 2 := by omega
    rcases hc with e | e | e
    · have hv := hv.2.1 e
      refine g_tabIn (tgt := 28) (off := 26) C dX3_gapPart_2 (by omega) (by omega) (by rw [e]; rfl) (by decide) ?_
      refine g_iload_n (pc' := 29) C dX3_gapPart_28 rfl rfl rfl ?_
      refine g_iload_n (pc' := 30) C dX3_gapPart_29 rfl rfl rfl ?_
      refine g_imul (pc' := 31) C dX3_gapPart_30 rfl ?_
      refine g_iload_n (pc' := 32) C dX3_gapPart_31 rfl rfl rfl ?_
      refine g_iload_n (pc' := 33) C dX3_gapPart_32 rfl rfl rfl ?_
      refine g_imul (pc' := 34) C dX3_gapPart_33 rfl ?_
      refine g_isub (pc' := 35) C dX3_gapPart_34 rfl ?_
      exact RT ((x2 * x3) - (x0 * x1)) () _ _ _ _ dX3_gapPart_35 rfl (by decide) (by decide) hv
    · have hv := hv.2.2.1 e
      refine g_tabIn (tgt := 36) (off := 34) C dX3_gapPart_2 (by omega) (by omega) (by rw [e]; rfl) (by decide) ?_
      refine g_iload_n (pc' := 37) C dX3_gapPart_36 rfl rfl rfl ?_
      refine g_iload_n (pc' := 38) C dX3_gapPart_37 rfl rfl rfl ?_
      refine g_isub (pc' := 39) C dX3_gapPart_38 rfl ?_
      refine g_iload_n (pc' := 40) C dX3_gapPart_39 rfl rfl rfl ?_
      refine g_imul (pc' := 41) C dX3_gapPart_40 rfl ?_
      exact RT ((x2 - x0) * x1) () _ _ _ _ dX3_gapPart_41 rfl (by decide) (by decide) hv
    · have hv := hv.2.2.2 e
      refine g_tabIn (tgt := 42) (off := 40) C dX3_gapPart_2 (by omega) (by omega) (by rw [e]; rfl) (by decide) ?_
      refine g_iload_n (pc' := 43) C dX3_gapPart_42 rfl rfl rfl ?_
      refine g_iload_n (pc' := 44) C dX3_gapPart_43 rfl rfl rfl ?_
      refine g_iload_n (pc' := 45) C dX3_gapPart_44 rfl rfl rfl ?_
      refine g_isub (pc' := 46) C dX3_gapPart_45 rfl ?_
      refine g_imul (pc' := 47) C dX3_gapPart_46 rfl ?_
      exact RT (x0 * (x3 - x1)) () _ _ _ _ dX3_gapPart_47 rfl (by decide) (by decide) hv)
