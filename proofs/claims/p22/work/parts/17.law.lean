/-! the law, by program -/
def RtL (l : Launch) (γ : Gm) (κ : Kx) : Prop := ∀ (ws : va_W) (lv : List (Nat × Value)) (k n pc : Nat), decode cL_law pc = .ok (.ireturn, 1) → k ≤ 115 → n ≤ 2312 → G l γ κ ws lv k n [.int 1] pc
def vL_law_J969 (seen : Int32) (cnt : Int32) (pwc : Int32) (par : Ar) (amt : Ar) (held : Ar) (clos : Ar) (seW : Ar) (seS : Ar) (leW : Ar) (leS : Ar) (x2 : Int32) (x3 : Int32) (x4 : Int32) (x5 : Int32) (x7 : Int32) (x8 : Int32) (x9 : Int32) (x10 : Int32) (K68 : Int32 → Int32 → Int32 → Int32 → Int32 → Int32 → Ar → Ar → Ar → Ar → Ar → Ar → Ar → Ar → Prop) (xs : Nat → Int32) (L : Nat) : Prop := ((x3 = (0 : Int32) → (K68 x2 (0 : Int32) (x5 + (1 : Int32)) seen cnt pwc par amt held clos seW seS leW leS)) ∧ (¬ x3 = (0 : Int32) → (vL_holds cnt pwc par amt x7 x8 x9 (fun r980 => ((r980 = (0 : Int32) → (K68 x2 (0 : Int32) (x5 + (1 : Int32)) seen cnt pwc par amt held clos seW seS leW leS)) ∧ (¬ r980 = (0 : Int32) → ((x10 < x2 → (K68 x2 (1 : Int32) (x5 + (1 : Int32)) seen cnt pwc par amt held clos seW seS leW leS)) ∧ (¬ x10 < x2 → (vX3_outlook seen cnt pwc par amt x7 x9 (3 : Int32) x10 (fun r1000 => (vX3_amount cnt pwc par amt x7 x9 (3 : Int32) x10 (fun r1011 => ((¬ r1000 = r1011 → (K68 x2 (0 : Int32) (x5 + (1 : Int32)) seen cnt pwc par amt held clos seW seS leW leS)) ∧ (r1000 = r1011 → (K68 x2 (1 : Int32) (x5 + (1 : Int32)) seen cnt pwc par amt held clos seW seS leW leS)))))))))))))))
set_option maxHeartbeats 4000000 in
set_option maxRecDepth 100000 in
theorem wvL_law_J969 {l : Launch} {γ : Gm} {κ : Kx} {ad : Nat → Nat} {seen : Int32} {cnt : Int32} {pwc : Int32} {par : Ar} {amt : Ar} {held : Ar} {clos : Ar} {seW : Ar} {seS : Ar} {leW : Ar} {leS : Ar} {x2 : Int32} {x3 : Int32} {x4 : Int32} {x5 : Int32} {x7 : Int32} {x8 : Int32} {x9 : Int32} {x10 : Int32} {K68 : Int32 → Int32 → Int32 → Int32 → Int32 → Int32 → Ar → Ar → Ar → Ar → Ar → Ar → Ar → Ar → Prop} {xs : Nat → Int32} {b L : Nat} (hfl : l.stackTraces = false) (C : Ok γ κ cL_law 15 RL 11 412) (hX : va_X b L xs κ.s κ.s.heap) (hbl : b < κ.s.heap.size) (hbA : ¬ κ.A b) (hR : κ.R = room_1) (RT : RtL l γ κ) {kb sb : Nat} (hK68 : ∀ (x2 : Int32) (x3 : Int32) (x5 : Int32) (seen : Int32) (cnt : Int32) (pwc : Int32) (par : Ar) (amt : Ar) (held : Ar) (clos : Ar) (seW : Ar) (seS : Ar) (leW : Ar) (leS : Ar) (k9 s9 : Nat), k9 ≤ kb → s9 ≤ sb → K68 x2 x3 x5 seen cnt pwc par amt held clos seW seS leW leS → G l γ κ (wB γ ad seen cnt pwc par amt held clos seW seS leW leS) [(0, .ref b), (1, .ref (ad 0)), (2, .int x2), (3, .int x3), (4, .int x4), (5, .int x5)] k9 s9 [] 68) {k9 s9 : Nat} (hkb : kb ≤ 115) (hsb : sb ≤ 2312) (hk : k9 + 0 ≤ kb) (hs : s9 + 0 ≤ sb) (hv : vL_law_J969 seen cnt pwc par amt held clos seW seS leW leS x2 x3 x4 x5 x7 x8 x9 x10 K68 xs L) : G l γ κ (wB γ ad seen cnt pwc par amt held clos seW seS leW leS) [(0, .ref b), (1, .ref (ad 0)), (2, .int x2), (3, .int x3), (4, .int x4), (5, .int x5), (7, .int x7), (8, .int x8), (9, .int x9), (10, .int x10)] k9 s9 [] 969 := by
  refine g_iload_n (pc' := 970) C dL_law_969 rfl rfl rfl ?_
  obtain ⟨hv1, hv2⟩ := hv
  refine g_if_eq (pc' := 973) (tgt := 1021) C dL_law_970 rfl (by decide) (fun c => ?_) (fun c => ?_)
  · have hv := hv1 c
    refine g_iconst (pc' := 1022) (v := (0 : Int32)) C dL_law_1021 rfl (by decide) ?_
    refine g_istore_n (pc' := 1023) (lv' := [(3, .int (0 : Int32)), (0, .ref b), (1, .ref (ad 0)), (2, .int x2), (4, .int x4), (5, .int x5), (7, .int x7), (8, .int x8), (9, .int x9), (10, .int x10)]) C dL_law_1022 rfl rfl (by decide) rfl ?_
    refine g_iinc (pc' := 1026) (v := (x5 + (1 : Int32))) (lv' := [(5, .int (x5 + (1 : Int32))), (3, .int (0 : Int32)), (0, .ref b), (1, .ref (ad 0)), (2, .int x2), (4, .int x4), (7, .int x7), (8, .int x8), (9, .int x9), (10, .int x10)]) C dL_law_1023 rfl rfl rfl (by decide) rfl ?_
    refine g_goto (tgt := 68) C dL_law_1026 (by decide) ?_
    refine g_sub (lv' := [(0, .ref b), (1, .ref (ad 0)), (2, .int x2), (3, .int (0 : Int32)), (4, .int x4), (5, .int (x5 + (1 : Int32)))]) [2, 3, 4, 1, 5, 0] rfl ?_
    exact hK68 _ _ _ _ _ _ _ _ _ _ _ _ _ _ _ _ (by omega) (by omega) hv
  · have hv := hv2 c
    refine g_aload_n (pc' := 974) C dL_law_973 rfl rfl rfl ?_
    refine g_iload (pc' := 976) C dL_law_974 rfl rfl ?_
    refine g_iload (pc' := 978) C dL_law_976 rfl rfl ?_
    refine g_iload (pc' := 980) C dL_law_978 rfl rfl ?_
    refine cfI (pc' := 983) C (run_SI (rest := []) C lk_L_56 (mtL_holds hv) ⟨by decide, by decide⟩ rfl rfl (Nat.le_of_ble_eq_true rfl) ⟨by rw [hR]; show _ ≤ 115; omega, by rw [hR]; show _ ≤ 2312; omega⟩ dL_law_980) rfl [0, 1, 2, 3, 4, 5, 6, 7, 8, 9, 10, 11, 12] [] [0, 1, 2, 3, 4, 5, 6, 7, 8, 9, 10, 11, 12] nd_LH di_LH (fun u980 => wB γ ad seen cnt pwc par amt held clos seW seS leW leS) rfl rfl (fun _ => rfl) (fun r980 u980 hv => ?_)
    obtain ⟨hv1, hv2⟩ := hv
    refine g_if_eq (pc' := 986) (tgt := 1021) C dL_law_983 rfl (by decide) (fun c => ?_) (fun c => ?_)
    · have hv := hv1 c
      refine g_iconst (pc' := 1022) (v := (0 : Int32)) C dL_law_1021 rfl (by decide) ?_
      refine g_istore_n (pc' := 1023) (lv' := [(3, .int (0 : Int32)), (0, .ref b), (1, .ref (ad 0)), (2, .int x2), (4, .int x4), (5, .int x5), (7, .int x7), (8, .int x8), (9, .int x9), (10, .int x10)]) C dL_law_1022 rfl rfl (by decide) rfl ?_
      refine g_iinc (pc' := 1026) (v := (x5 + (1 : Int32))) (lv' := [(5, .int (x5 + (1 : Int32))), (3, .int (0 : Int32)), (0, .ref b), (1, .ref (ad 0)), (2, .int x2), (4, .int x4), (7, .int x7), (8, .int x8), (9, .int x9), (10, .int x10)]) C dL_law_1023 rfl rfl rfl (by decide) rfl ?_
      refine g_goto (tgt := 68) C dL_law_1026 (by decide) ?_
      refine g_sub (lv' := [(0, .ref b), (1, .ref (ad 0)), (2, .int x2), (3, .int (0 : Int32)), (4, .int x4), (5, .int (x5 + (1 : Int32)))]) [2, 3, 4, 1, 5, 0] rfl ?_
      exact hK68 _ _ _ _ _ _ _ _ _ _ _ _ _ _ _ _ (by omega) (by omega) hv
    · have hv := hv2 c
      refine g_iload (pc' := 988) C dL_law_986 rfl rfl ?_
      refine g_iload_n (pc' := 989) C dL_law_988 rfl rfl rfl ?_
      obtain ⟨hv1, hv2⟩ := hv
      refine g_icmp_lt (pc' := 992) (tgt := 1017) C dL_law_989 rfl (by decide) (fun c => ?_) (fun c => ?_)
      · have hv := hv1 c
        refine g_iconst (pc' := 1018) (v := (1 : Int32)) C dL_law_1017 rfl (by decide) ?_
        refine g_goto (tgt := 1022) C dL_law_1018 (by decide) ?_
        refine g_istore_n (pc' := 1023) (lv' := [(3, .int (1 : Int32)), (0, .ref b), (1, .ref (ad 0)), (2, .int x2), (4, .int x4), (5, .int x5), (7, .int x7), (8, .int x8), (9, .int x9), (10, .int x10)]) C dL_law_1022 rfl rfl (by decide) rfl ?_
        refine g_iinc (pc' := 1026) (v := (x5 + (1 : Int32))) (lv' := [(5, .int (x5 + (1 : Int32))), (3, .int (1 : Int32)), (0, .ref b), (1, .ref (ad 0)), (2, .int x2), (4, .int x4), (7, .int x7), (8, .int x8), (9, .int x9), (10, .int x10)]) C dL_law_1023 rfl rfl rfl (by decide) rfl ?_
        refine g_goto (tgt := 68) C dL_law_1026 (by decide) ?_
        refine g_sub (lv' := [(0, .ref b), (1, .ref (ad 0)), (2, .int x2), (3, .int (1 : Int32)), (4, .int x4), (5, .int (x5 + (1 : Int32)))]) [2, 3, 4, 1, 5, 0] rfl ?_
        exact hK68 _ _ _ _ _ _ _ _ _ _ _ _ _ _ _ _ (by omega) (by omega) hv
      · have hv := hv2 c
        refine g_aload_n (pc' := 993) C dL_law_992 rfl rfl rfl ?_
        refine g_iload (pc' := 995) C dL_law_993 rfl rfl ?_
        refine g_iload (pc' := 997) C dL_law_995 rfl rfl ?_
        refine g_iconst (pc' := 998) (v := (3 : Int32)) C dL_law_997 rfl (by decide) ?_
        refine g_iload (pc' := 1000) C dL_law_998 rfl rfl ?_
        refine cfI (pc' := 1003) C (run_VI (rest := []) C lk_L_108 (mtX3_outlook hv) ⟨by decide, by decide⟩ rfl rfl rfl rfl (Nat.le_of_ble_eq_true rfl) ⟨by rw [hR]; show _ ≤ 115; omega, by rw [hR]; show _ ≤ 2312; omega⟩ dL_law_1000) rfl [0, 1, 2, 3, 4, 5, 6, 7, 8, 9, 10, 11, 12] [] [0, 1, 2, 3, 4, 5, 6, 7, 8, 9, 10, 11, 12] nd_LB di_LB (fun u1000 => wB γ ad seen cnt pwc par amt held clos seW seS leW leS) rfl rfl (fun _ => rfl) (fun r1000 u1000 hv => ?_)
        refine g_aload_n (pc' := 1004) C dL_law_1003 rfl rfl rfl ?_
        refine g_iload (pc' := 1006) C dL_law_1004 rfl rfl ?_
        refine g_iload (pc' := 1008) C dL_law_1006 rfl rfl ?_
        refine g_iconst (pc' := 1009) (v := (3 : Int32)) C dL_law_1008 rfl (by decide) ?_
        refine g_iload (pc' := 1011) C dL_law_1009 rfl rfl ?_
        refine cfI (pc' := 1014) C (run_VI (rest := [.int r1000]) C lk_L_77 (mtX3_amount hv) ⟨by decide, by decide⟩ rfl rfl rfl rfl (Nat.le_of_ble_eq_true rfl) ⟨by rw [hR]; show _ ≤ 115; omega, by rw [hR]; show _ ≤ 2312; omega⟩ dL_law_1011) rfl [0, 1, 2, 3, 4, 5, 6, 7, 8, 9, 10, 11, 12] [] [0, 1, 2, 3, 4, 5, 6, 7, 8, 9, 10, 11, 12] nd_LB di_LB (fun u1011 => wB γ ad seen cnt pwc par amt held clos seW seS leW leS) rfl rfl (fun _ => rfl) (fun r1011 u1011 hv => ?_)
        obtain ⟨hv1, hv2⟩ := hv
        refine g_icmp_ne (pc' := 1017) (tgt := 1021) C dL_law_1014 rfl (by decide) (fun c => ?_) (fun c => ?_)
        · have hv := hv1 c
          refine g_iconst (pc' := 1022) (v := (0 : Int32)) C dL_law_1021 rfl (by decide) ?_
          refine g_istore_n (pc' := 1023) (lv' := [(3, .int (0 : Int32)), (0, .ref b), (1, .ref (ad 0)), (2, .int x2), (4, .int x4), (5, .int x5), (7, .int x7), (8, .int x8), (9, .int x9), (10, .int x10)]) C dL_law_1022 rfl rfl (by decide) rfl ?_
          refine g_iinc (pc' := 1026) (v := (x5 + (1 : Int32))) (lv' := [(5, .int (x5 + (1 : Int32))), (3, .int (0 : Int32)), (0, .ref b), (1, .ref (ad 0)), (2, .int x2), (4, .int x4), (7, .int x7), (8, .int x8), (9, .int x9), (10, .int x10)]) C dL_law_1023 rfl rfl rfl (by decide) rfl ?_
          refine g_goto (tgt := 68) C dL_law_1026 (by decide) ?_
          refine g_sub (lv' := [(0, .ref b), (1, .ref (ad 0)), (2, .int x2), (3, .int (0 : Int32)), (4, .int x4), (5, .int (x5 + (1 : Int32)))]) [2, 3, 4, 1, 5, 0] rfl ?_
          exact hK68 _ _ _ _ _ _ _ _ _ _ _ _ _ _ _ _ (by omega) (by omega) hv
        · have hv := hv2 c
          refine g_iconst (pc' := 1018) (v := (1 : Int32)) C dL_law_1017 rfl (by decide) ?_
          refine g_goto (tgt := 1022) C dL_law_1018 (by decide) ?_
          refine g_istore_n (pc' := 1023) (lv' := [(3, .int (1 : Int32)), (0, .ref b), (1, .ref (ad 0)), (2, .int x2), (4, .int x4), (5, .int x5), (7, .int x7), (8, .int x8), (9, .int x9), (10, .int x10)]) C dL_law_1022 rfl rfl (by decide) rfl ?_
          refine g_iinc (pc' := 1026) (v := (x5 + (1 : Int32))) (lv' := [(5, .int (x5 + (1 : Int32))), (3, .int (1 : Int32)), (0, .ref b), (1, .ref (ad 0)), (2, .int x2), (4, .int x4), (7, .int x7), (8, .int x8), (9, .int x9), (10, .int x10)]) C dL_law_1023 rfl rfl rfl (by decide) rfl ?_
          refine g_goto (tgt := 68) C dL_law_1026 (by decide) ?_
          refine g_sub (lv' := [(0, .ref b), (1, .ref (ad 0)), (2, .int x2), (3, .int (1 : Int32)), (4, .int x4), (5, .int (x5 + (1 : Int32)))]) [2, 3, 4, 1, 5, 0] rfl ?_
          exact hK68 _ _ _ _ _ _ _ _ _ _ _ _ _ _ _ _ (by omega) (by omega) hv
def vL_law_J246 (seen : Int32) (cnt : Int32) (pwc : Int32) (par : Ar) (amt : Ar) (held : Ar) (clos : Ar) (seW : Ar) (seS : Ar) (leW : Ar) (leS : Ar) (x2 : Int32) (x4 : Int32) (x5 : Int32) (x7 : Int32) (x8 : Int32) (x9 : Int32) (x10 : Int32) (s0 : Int32) (K68 : Int32 → Int32 → Int32 → Int32 → Int32 → Int32 → Ar → Ar → Ar → Ar → Ar → Ar → Ar → Ar → Prop) (xs : Nat → Int32) (L : Nat) : Prop := (vL_law_J969 seen cnt pwc par amt held clos seW seS leW leS x2 s0 x4 x5 x7 x8 x9 x10 K68 xs L)
set_option maxHeartbeats 4000000 in
set_option maxRecDepth 100000 in
theorem wvL_law_J246 {l : Launch} {γ : Gm} {κ : Kx} {ad : Nat → Nat} {seen : Int32} {cnt : Int32} {pwc : Int32} {par : Ar} {amt : Ar} {held : Ar} {clos : Ar} {seW : Ar} {seS : Ar} {leW : Ar} {leS : Ar} {x2 : Int32} {x4 : Int32} {x5 : Int32} {x7 : Int32} {x8 : Int32} {x9 : Int32} {x10 : Int32} {s0 : Int32} {K68 : Int32 → Int32 → Int32 → Int32 → Int32 → Int32 → Ar → Ar → Ar → Ar → Ar → Ar → Ar → Ar → Prop} {xs : Nat → Int32} {b L : Nat} (hfl : l.stackTraces = false) (C : Ok γ κ cL_law 15 RL 11 412) (hX : va_X b L xs κ.s κ.s.heap) (hbl : b < κ.s.heap.size) (hbA : ¬ κ.A b) (hR : κ.R = room_1) (RT : RtL l γ κ) {kb sb : Nat} (hK68 : ∀ (x2 : Int32) (x3 : Int32) (x5 : Int32) (seen : Int32) (cnt : Int32) (pwc : Int32) (par : Ar) (amt : Ar) (held : Ar) (clos : Ar) (seW : Ar) (seS : Ar) (leW : Ar) (leS : Ar) (k9 s9 : Nat), k9 ≤ kb → s9 ≤ sb → K68 x2 x3 x5 seen cnt pwc par amt held clos seW seS leW leS → G l γ κ (wB γ ad seen cnt pwc par amt held clos seW seS leW leS) [(0, .ref b), (1, .ref (ad 0)), (2, .int x2), (3, .int x3), (4, .int x4), (5, .int x5)] k9 s9 [] 68) {k9 s9 : Nat} (hkb : kb ≤ 115) (hsb : sb ≤ 2312) (hk : k9 + 0 ≤ kb) (hs : s9 + 0 ≤ sb) (hv : vL_law_J246 seen cnt pwc par amt held clos seW seS leW leS x2 x4 x5 x7 x8 x9 x10 s0 K68 xs L) : G l γ κ (wB γ ad seen cnt pwc par amt held clos seW seS leW leS) [(0, .ref b), (1, .ref (ad 0)), (2, .int x2), (4, .int x4), (5, .int x5), (7, .int x7), (8, .int x8), (9, .int x9), (10, .int x10)] k9 s9 [.int s0] 246 := by
  refine g_istore_n (pc' := 247) (lv' := [(3, .int s0), (0, .ref b), (1, .ref (ad 0)), (2, .int x2), (4, .int x4), (5, .int x5), (7, .int x7), (8, .int x8), (9, .int x9), (10, .int x10)]) C dL_law_246 rfl rfl (by decide) rfl ?_
  refine g_goto (tgt := 969) C dL_law_247 (by decide) ?_
  refine g_sub (lv' := [(0, .ref b), (1, .ref (ad 0)), (2, .int x2), (3, .int s0), (4, .int x4), (5, .int x5), (7, .int x7), (8, .int x8), (9, .int x9), (10, .int x10)]) [1, 2, 3, 0, 4, 5, 6, 7, 8, 9] rfl ?_
  exact wvL_law_J969 hfl C hX hbl hbA hR RT hK68 hkb hsb (by omega) (by omega) hv
def vL_law_J194 (seen : Int32) (cnt : Int32) (pwc : Int32) (par : Ar) (amt : Ar) (held : Ar) (clos : Ar) (seW : Ar) (seS : Ar) (leW : Ar) (leS : Ar) (x2 : Int32) (x4 : Int32) (x5 : Int32) (x7 : Int32) (x8 : Int32) (x9 : Int32) (x10 : Int32) (K68 : Int32 → Int32 → Int32 → Int32 → Int32 → Int32 → Ar → Ar → Ar → Ar → Ar → Ar → Ar → Ar → Prop) (xs : Nat → Int32) (L : Nat) : Prop := (vL_law_J246 seen cnt pwc par amt held clos seW seS leW leS x2 x4 x5 x7 x8 x9 x10 (1 : Int32) K68 xs L)
set_option maxHeartbeats 4000000 in
set_option maxRecDepth 100000 in
theorem wvL_law_J194 {l : Launch} {γ : Gm} {κ : Kx} {ad : Nat → Nat} {seen : Int32} {cnt : Int32} {pwc : Int32} {par : Ar} {amt : Ar} {held : Ar} {clos : Ar} {seW : Ar} {seS : Ar} {leW : Ar} {leS : Ar} {x2 : Int32} {x4 : Int32} {x5 : Int32} {x7 : Int32} {x8 : Int32} {x9 : Int32} {x10 : Int32} {K68 : Int32 → Int32 → Int32 → Int32 → Int32 → Int32 → Ar → Ar → Ar → Ar → Ar → Ar → Ar → Ar → Prop} {xs : Nat → Int32} {b L : Nat} (hfl : l.stackTraces = false) (C : Ok γ κ cL_law 15 RL 11 412) (hX : va_X b L xs κ.s κ.s.heap) (hbl : b < κ.s.heap.size) (hbA : ¬ κ.A b) (hR : κ.R = room_1) (RT : RtL l γ κ) {kb sb : Nat} (hK68 : ∀ (x2 : Int32) (x3 : Int32) (x5 : Int32) (seen : Int32) (cnt : Int32) (pwc : Int32) (par : Ar) (amt : Ar) (held : Ar) (clos : Ar) (seW : Ar) (seS : Ar) (leW : Ar) (leS : Ar) (k9 s9 : Nat), k9 ≤ kb → s9 ≤ sb → K68 x2 x3 x5 seen cnt pwc par amt held clos seW seS leW leS → G l γ κ (wB γ ad seen cnt pwc par amt held clos seW seS leW leS) [(0, .ref b), (1, .ref (ad 0)), (2, .int x2), (3, .int x3), (4, .int x4), (5, .int x5)] k9 s9 [] 68) {k9 s9 : Nat} (hkb : kb ≤ 115) (hsb : sb ≤ 2312) (hk : k9 + 0 ≤ kb) (hs : s9 + 0 ≤ sb) (hv : vL_law_J194 seen cnt pwc par amt held clos seW seS leW leS x2 x4 x5 x7 x8 x9 x10 K68 xs L) : G l γ κ (wB γ ad seen cnt pwc par amt held clos seW seS leW leS) [(0, .ref b), (1, .ref (ad 0)), (2, .int x2), (4, .int x4), (5, .int x5), (7, .int x7), (8, .int x8), (9, .int x9), (10, .int x10)] k9 s9 [] 194 := by
  refine g_iconst (pc' := 195) (v := (1 : Int32)) C dL_law_194 rfl (by decide) ?_
  refine g_goto (tgt := 246) C dL_law_195 (by decide) ?_
  exact wvL_law_J246 hfl C hX hbl hbA hR RT hK68 hkb hsb (by omega) (by omega) hv
def vL_law_J245 (seen : Int32) (cnt : Int32) (pwc : Int32) (par : Ar) (amt : Ar) (held : Ar) (clos : Ar) (seW : Ar) (seS : Ar) (leW : Ar) (leS : Ar) (x2 : Int32) (x4 : Int32) (x5 : Int32) (x7 : Int32) (x8 : Int32) (x9 : Int32) (x10 : Int32) (K68 : Int32 → Int32 → Int32 → Int32 → Int32 → Int32 → Ar → Ar → Ar → Ar → Ar → Ar → Ar → Ar → Prop) (xs : Nat → Int32) (L : Nat) : Prop := (vL_law_J246 seen cnt pwc par amt held clos seW seS leW leS x2 x4 x5 x7 x8 x9 x10 (0 : Int32) K68 xs L)
set_option maxHeartbeats 4000000 in
set_option maxRecDepth 100000 in
theorem wvL_law_J245 {l : Launch} {γ : Gm} {κ : Kx} {ad : Nat → Nat} {seen : Int32} {cnt : Int32} {pwc : Int32} {par : Ar} {amt : Ar} {held : Ar} {clos : Ar} {seW : Ar} {seS : Ar} {leW : Ar} {leS : Ar} {x2 : Int32} {x4 : Int32} {x5 : Int32} {x7 : Int32} {x8 : Int32} {x9 : Int32} {x10 : Int32} {K68 : Int32 → Int32 → Int32 → Int32 → Int32 → Int32 → Ar → Ar → Ar → Ar → Ar → Ar → Ar → Ar → Prop} {xs : Nat → Int32} {b L : Nat} (hfl : l.stackTraces = false) (C : Ok γ κ cL_law 15 RL 11 412) (hX : va_X b L xs κ.s κ.s.heap) (hbl : b < κ.s.heap.size) (hbA : ¬ κ.A b) (hR : κ.R = room_1) (RT : RtL l γ κ) {kb sb : Nat} (hK68 : ∀ (x2 : Int32) (x3 : Int32) (x5 : Int32) (seen : Int32) (cnt : Int32) (pwc : Int32) (par : Ar) (amt : Ar) (held : Ar) (clos : Ar) (seW : Ar) (seS : Ar) (leW : Ar) (leS : Ar) (k9 s9 : Nat), k9 ≤ kb → s9 ≤ sb → K68 x2 x3 x5 seen cnt pwc par amt held clos seW seS leW leS → G l γ κ (wB γ ad seen cnt pwc par amt held clos seW seS leW leS) [(0, .ref b), (1, .ref (ad 0)), (2, .int x2), (3, .int x3), (4, .int x4), (5, .int x5)] k9 s9 [] 68) {k9 s9 : Nat} (hkb : kb ≤ 115) (hsb : sb ≤ 2312) (hk : k9 + 0 ≤ kb) (hs : s9 + 0 ≤ sb) (hv : vL_law_J245 seen cnt pwc par amt held clos seW seS leW leS x2 x4 x5 x7 x8 x9 x10 K68 xs L) : G l γ κ (wB γ ad seen cnt pwc par amt held clos seW seS leW leS) [(0, .ref b), (1, .ref (ad 0)), (2, .int x2), (4, .int x4), (5, .int x5), (7, .int x7), (8, .int x8), (9, .int x9), (10, .int x10)] k9 s9 [] 245 := by
  refine g_iconst (pc' := 246) (v := (0 : Int32)) C dL_law_245 rfl (by decide) ?_
  exact wvL_law_J246 hfl C hX hbl hbA hR RT hK68 hkb hsb (by omega) (by omega) hv
def vL_law_J342 (seen : Int32) (cnt : Int32) (pwc : Int32) (par : Ar) (amt : Ar) (held : Ar) (clos : Ar) (seW : Ar) (seS : Ar) (leW : Ar) (leS : Ar) (x2 : Int32) (x4 : Int32) (x5 : Int32) (x7 : Int32) (x8 : Int32) (x9 : Int32) (x10 : Int32) (s0 : Int32) (K68 : Int32 → Int32 → Int32 → Int32 → Int32 → Int32 → Ar → Ar → Ar → Ar → Ar → Ar → Ar → Ar → Prop) (xs : Nat → Int32) (L : Nat) : Prop := (vL_law_J969 seen cnt pwc par amt held clos seW seS leW leS x2 s0 x4 x5 x7 x8 x9 x10 K68 xs L)
set_option maxHeartbeats 4000000 in
set_option maxRecDepth 100000 in
theorem wvL_law_J342 {l : Launch} {γ : Gm} {κ : Kx} {ad : Nat → Nat} {seen : Int32} {cnt : Int32} {pwc : Int32} {par : Ar} {amt : Ar} {held : Ar} {clos : Ar} {seW : Ar} {seS : Ar} {leW : Ar} {leS : Ar} {x2 : Int32} {x4 : Int32} {x5 : Int32} {x7 : Int32} {x8 : Int32} {x9 : Int32} {x10 : Int32} {s0 : Int32} {K68 : Int32 → Int32 → Int32 → Int32 → Int32 → Int32 → Ar → Ar → Ar → Ar → Ar → Ar → Ar → Ar → Prop} {xs : Nat → Int32} {b L : Nat} (hfl : l.stackTraces = false) (C : Ok γ κ cL_law 15 RL 11 412) (hX : va_X b L xs κ.s κ.s.heap) (hbl : b < κ.s.heap.size) (hbA : ¬ κ.A b) (hR : κ.R = room_1) (RT : RtL l γ κ) {kb sb : Nat} (hK68 : ∀ (x2 : Int32) (x3 : Int32) (x5 : Int32) (seen : Int32) (cnt : Int32) (pwc : Int32) (par : Ar) (amt : Ar) (held : Ar) (clos : Ar) (seW : Ar) (seS : Ar) (leW : Ar) (leS : Ar) (k9 s9 : Nat), k9 ≤ kb → s9 ≤ sb → K68 x2 x3 x5 seen cnt pwc par amt held clos seW seS leW leS → G l γ κ (wB γ ad seen cnt pwc par amt held clos seW seS leW leS) [(0, .ref b), (1, .ref (ad 0)), (2, .int x2), (3, .int x3), (4, .int x4), (5, .int x5)] k9 s9 [] 68) {k9 s9 : Nat} (hkb : kb ≤ 115) (hsb : sb ≤ 2312) (hk : k9 + 0 ≤ kb) (hs : s9 + 0 ≤ sb) (hv : vL_law_J342 seen cnt pwc par amt held clos seW seS leW leS x2 x4 x5 x7 x8 x9 x10 s0 K68 xs L) : G l γ κ (wB γ ad seen cnt pwc par amt held clos seW seS leW leS) [(0, .ref b), (1, .ref (ad 0)), (2, .int x2), (4, .int x4), (5, .int x5), (7, .int x7), (8, .int x8), (9, .int x9), (10, .int x10)] k9 s9 [.int s0] 342 := by
  refine g_istore_n (pc' := 343) (lv' := [(3, .int s0), (0, .ref b), (1, .ref (ad 0)), (2, .int x2), (4, .int x4), (5, .int x5), (7, .int x7), (8, .int x8), (9, .int x9), (10, .int x10)]) C dL_law_342 rfl rfl (by decide) rfl ?_
  refine g_goto (tgt := 969) C dL_law_343 (by decide) ?_
  refine g_sub (lv' := [(0, .ref b), (1, .ref (ad 0)), (2, .int x2), (3, .int s0), (4, .int x4), (5, .int x5), (7, .int x7), (8, .int x8), (9, .int x9), (10, .int x10)]) [1, 2, 3, 0, 4, 5, 6, 7, 8, 9] rfl ?_
  exact wvL_law_J969 hfl C hX hbl hbA hR RT hK68 hkb hsb (by omega) (by omega) hv
def vL_law_J337 (seen : Int32) (cnt : Int32) (pwc : Int32) (par : Ar) (amt : Ar) (held : Ar) (clos : Ar) (seW : Ar) (seS : Ar) (leW : Ar) (leS : Ar) (x2 : Int32) (x4 : Int32) (x5 : Int32) (x7 : Int32) (x8 : Int32) (x9 : Int32) (x10 : Int32) (K68 : Int32 → Int32 → Int32 → Int32 → Int32 → Int32 → Ar → Ar → Ar → Ar → Ar → Ar → Ar → Ar → Prop) (xs : Nat → Int32) (L : Nat) : Prop := (vL_law_J342 seen cnt pwc par amt held clos seW seS leW leS x2 x4 x5 x7 x8 x9 x10 (1 : Int32) K68 xs L)
set_option maxHeartbeats 4000000 in
set_option maxRecDepth 100000 in
theorem wvL_law_J337 {l : Launch} {γ : Gm} {κ : Kx} {ad : Nat → Nat} {seen : Int32} {cnt : Int32} {pwc : Int32} {par : Ar} {amt : Ar} {held : Ar} {clos : Ar} {seW : Ar} {seS : Ar} {leW : Ar} {leS : Ar} {x2 : Int32} {x4 : Int32} {x5 : Int32} {x7 : Int32} {x8 : Int32} {x9 : Int32} {x10 : Int32} {K68 : Int32 → Int32 → Int32 → Int32 → Int32 → Int32 → Ar → Ar → Ar → Ar → Ar → Ar → Ar → Ar → Prop} {xs : Nat → Int32} {b L : Nat} (hfl : l.stackTraces = false) (C : Ok γ κ cL_law 15 RL 11 412) (hX : va_X b L xs κ.s κ.s.heap) (hbl : b < κ.s.heap.size) (hbA : ¬ κ.A b) (hR : κ.R = room_1) (RT : RtL l γ κ) {kb sb : Nat} (hK68 : ∀ (x2 : Int32) (x3 : Int32) (x5 : Int32) (seen : Int32) (cnt : Int32) (pwc : Int32) (par : Ar) (amt : Ar) (held : Ar) (clos : Ar) (seW : Ar) (seS : Ar) (leW : Ar) (leS : Ar) (k9 s9 : Nat), k9 ≤ kb → s9 ≤ sb → K68 x2 x3 x5 seen cnt pwc par amt held clos seW seS leW leS → G l γ κ (wB γ ad seen cnt pwc par amt held clos seW seS leW leS) [(0, .ref b), (1, .ref (ad 0)), (2, .int x2), (3, .int x3), (4, .int x4), (5, .int x5)] k9 s9 [] 68) {k9 s9 : Nat} (hkb : kb ≤ 115) (hsb : sb ≤ 2312) (hk : k9 + 0 ≤ kb) (hs : s9 + 0 ≤ sb) (hv : vL_law_J337 seen cnt pwc par amt held clos seW seS leW leS x2 x4 x5 x7 x8 x9 x10 K68 xs L) : G l γ κ (wB γ ad seen cnt pwc par amt held clos seW seS leW leS) [(0, .ref b), (1, .ref (ad 0)), (2, .int x2), (4, .int x4), (5, .int x5), (7, .int x7), (8, .int x8), (9, .int x9), (10, .int x10)] k9 s9 [] 337 := by
  refine g_iconst (pc' := 338) (v := (1 : Int32)) C dL_law_337 rfl (by decide) ?_
  refine g_goto (tgt := 342) C dL_law_338 (by decide) ?_
  exact wvL_law_J342 hfl C hX hbl hbA hR RT hK68 hkb hsb (by omega) (by omega) hv
def vL_law_J341 (seen : Int32) (cnt : Int32) (pwc : Int32) (par : Ar) (amt : Ar) (held : Ar) (clos : Ar) (seW : Ar) (seS : Ar) (leW : Ar) (leS : Ar) (x2 : Int32) (x4 : Int32) (x5 : Int32) (x7 : Int32) (x8 : Int32) (x9 : Int32) (x10 : Int32) (K68 : Int32 → Int32 → Int32 → Int32 → Int32 → Int32 → Ar → Ar → Ar → Ar → Ar → Ar → Ar → Ar → Prop) (xs : Nat → Int32) (L : Nat) : Prop := (vL_law_J342 seen cnt pwc par amt held clos seW seS leW leS x2 x4 x5 x7 x8 x9 x10 (0 : Int32) K68 xs L)
set_option maxHeartbeats 4000000 in
set_option maxRecDepth 100000 in
theorem wvL_law_J341 {l : Launch} {γ : Gm} {κ : Kx} {ad : Nat → Nat} {seen : Int32} {cnt : Int32} {pwc : Int32} {par : Ar} {amt : Ar} {held : Ar} {clos : Ar} {seW : Ar} {seS : Ar} {leW : Ar} {leS : Ar} {x2 : Int32} {x4 : Int32} {x5 : Int32} {x7 : Int32} {x8 : Int32} {x9 : Int32} {x10 : Int32} {K68 : Int32 → Int32 → Int32 → Int32 → Int32 → Int32 → Ar → Ar → Ar → Ar → Ar → Ar → Ar → Ar → Prop} {xs : Nat → Int32} {b L : Nat} (hfl : l.stackTraces = false) (C : Ok γ κ cL_law 15 RL 11 412) (hX : va_X b L xs κ.s κ.s.heap) (hbl : b < κ.s.heap.size) (hbA : ¬ κ.A b) (hR : κ.R = room_1) (RT : RtL l γ κ) {kb sb : Nat} (hK68 : ∀ (x2 : Int32) (x3 : Int32) (x5 : Int32) (seen : Int32) (cnt : Int32) (pwc : Int32) (par : Ar) (amt : Ar) (held : Ar) (clos : Ar) (seW : Ar) (seS : Ar) (leW : Ar) (leS : Ar) (k9 s9 : Nat), k9 ≤ kb → s9 ≤ sb → K68 x2 x3 x5 seen cnt pwc par amt held clos seW seS leW leS → G l γ κ (wB γ ad seen cnt pwc par amt held clos seW seS leW leS) [(0, .ref b), (1, .ref (ad 0)), (2, .int x2), (3, .int x3), (4, .int x4), (5, .int x5)] k9 s9 [] 68) {k9 s9 : Nat} (hkb : kb ≤ 115) (hsb : sb ≤ 2312) (hk : k9 + 0 ≤ kb) (hs : s9 + 0 ≤ sb) (hv : vL_law_J341 seen cnt pwc par amt held clos seW seS leW leS x2 x4 x5 x7 x8 x9 x10 K68 xs L) : G l γ κ (wB γ ad seen cnt pwc par amt held clos seW seS leW leS) [(0, .ref b), (1, .ref (ad 0)), (2, .int x2), (4, .int x4), (5, .int x5), (7, .int x7), (8, .int x8), (9, .int x9), (10, .int x10)] k9 s9 [] 341 := by
  refine g_iconst (pc' := 342) (v := (0 : Int32)) C dL_law_341 rfl (by decide) ?_
  exact wvL_law_J342 hfl C hX hbl hbA hR RT hK68 hkb hsb (by omega) (by omega) hv
def vL_law_J283 (seen : Int32) (cnt : Int32) (pwc : Int32) (par : Ar) (amt : Ar) (held : Ar) (clos : Ar) (seW : Ar) (seS : Ar) (leW : Ar) (leS : Ar) (x2 : Int32) (x4 : Int32) (x5 : Int32) (x7 : Int32) (x8 : Int32) (x9 : Int32) (x10 : Int32) (x12 : Int32) (s0 : Int32) (s1 : Int32) (K68 : Int32 → Int32 → Int32 → Int32 → Int32 → Int32 → Ar → Ar → Ar → Ar → Ar → Ar → Ar → Ar → Prop) (xs : Nat → Int32) (L : Nat) : Prop := (vL_low s1 s0 (fun r283 => (vL_set cnt pwc amt clos x7 x9 x12 x10 r283 (fun r299 u299 => ((r299 = (-3 : Int32) → (vL_law_J337 seen cnt pwc par u299 held clos seW seS leW leS x2 x4 x5 x7 x8 x9 x10 K68 xs L)) ∧ (¬ r299 = (-3 : Int32) → (vL_isLeaf cnt pwc par x9 (fun r314 => ((r314 = (0 : Int32) → (vL_law_J341 seen cnt pwc par u299 held clos seW seS leW leS x2 x4 x5 x7 x8 x9 x10 K68 xs L)) ∧ (¬ r314 = (0 : Int32) → (vX3_amount cnt pwc par u299 x7 x9 x12 x10 (fun r329 => ((¬ r329 = r283 → (vL_law_J341 seen cnt pwc par u299 held clos seW seS leW leS x2 x4 x5 x7 x8 x9 x10 K68 xs L)) ∧ (r329 = r283 → (vL_law_J337 seen cnt pwc par u299 held clos seW seS leW leS x2 x4 x5 x7 x8 x9 x10 K68 xs L)))))))))))))))
set_option maxHeartbeats 4000000 in
set_option maxRecDepth 100000 in
theorem wvL_law_J283 {l : Launch} {γ : Gm} {κ : Kx} {ad : Nat → Nat} {seen : Int32} {cnt : Int32} {pwc : Int32} {par : Ar} {amt : Ar} {held : Ar} {clos : Ar} {seW : Ar} {seS : Ar} {leW : Ar} {leS : Ar} {x2 : Int32} {x4 : Int32} {x5 : Int32} {x7 : Int32} {x8 : Int32} {x9 : Int32} {x10 : Int32} {x12 : Int32} {s0 : Int32} {s1 : Int32} {K68 : Int32 → Int32 → Int32 → Int32 → Int32 → Int32 → Ar → Ar → Ar → Ar → Ar → Ar → Ar → Ar → Prop} {xs : Nat → Int32} {b L : Nat} (hfl : l.stackTraces = false) (C : Ok γ κ cL_law 15 RL 11 412) (hX : va_X b L xs κ.s κ.s.heap) (hbl : b < κ.s.heap.size) (hbA : ¬ κ.A b) (hR : κ.R = room_1) (RT : RtL l γ κ) {kb sb : Nat} (hK68 : ∀ (x2 : Int32) (x3 : Int32) (x5 : Int32) (seen : Int32) (cnt : Int32) (pwc : Int32) (par : Ar) (amt : Ar) (held : Ar) (clos : Ar) (seW : Ar) (seS : Ar) (leW : Ar) (leS : Ar) (k9 s9 : Nat), k9 ≤ kb → s9 ≤ sb → K68 x2 x3 x5 seen cnt pwc par amt held clos seW seS leW leS → G l γ κ (wB γ ad seen cnt pwc par amt held clos seW seS leW leS) [(0, .ref b), (1, .ref (ad 0)), (2, .int x2), (3, .int x3), (4, .int x4), (5, .int x5)] k9 s9 [] 68) {k9 s9 : Nat} (hkb : kb ≤ 115) (hsb : sb ≤ 2312) (hk : k9 + 1 ≤ kb) (hs : s9 + 6 ≤ sb) (hv : vL_law_J283 seen cnt pwc par amt held clos seW seS leW leS x2 x4 x5 x7 x8 x9 x10 x12 s0 s1 K68 xs L) : G l γ κ (wB γ ad seen cnt pwc par amt held clos seW seS leW leS) [(0, .ref b), (1, .ref (ad 0)), (2, .int x2), (4, .int x4), (5, .int x5), (7, .int x7), (8, .int x8), (9, .int x9), (10, .int x10), (12, .int x12)] k9 s9 [.int s0, .int s1] 283 := by
  refine cfI (pc' := 286) C (run_SI (rest := []) C lk_L_66 (mtL_low hv) ⟨by decide, by decide⟩ rfl rfl (Nat.le_of_ble_eq_true rfl) ⟨by rw [hR]; show _ ≤ 115; omega, by rw [hR]; show _ ≤ 2312; omega⟩ dL_law_283) rfl [0, 1, 2, 3, 4, 5, 6, 7, 8, 9, 10, 11, 12] [] [0, 1, 2, 3, 4, 5, 6, 7, 8, 9, 10, 11, 12] nd_LH di_LH (fun u283 => wB γ ad seen cnt pwc par amt held clos seW seS leW leS) rfl rfl (fun _ => rfl) (fun r283 u283 hv => ?_)
  refine g_istore (pc' := 288) (lv' := [(13, .int r283), (0, .ref b), (1, .ref (ad 0)), (2, .int x2), (4, .int x4), (5, .int x5), (7, .int x7), (8, .int x8), (9, .int x9), (10, .int x10), (12, .int x12)]) C dL_law_286 rfl (by decide) rfl ?_
  refine g_aload_n (pc' := 289) C dL_law_288 rfl rfl rfl ?_
  refine g_iload (pc' := 291) C dL_law_289 rfl rfl ?_
  refine g_iload (pc' := 293) C dL_law_291 rfl rfl ?_
  refine g_iload (pc' := 295) C dL_law_293 rfl rfl ?_
  refine g_iload (pc' := 297) C dL_law_295 rfl rfl ?_
  refine g_iload (pc' := 299) C dL_law_297 rfl rfl ?_
  refine cfH (pc' := 302) C (run_SH (rest := []) C lk_L_81 (mtL_set hfl hv) ⟨by decide, by decide⟩ rfl rfl (Nat.le_of_ble_eq_true rfl) ⟨by rw [hR]; show _ ≤ 115; omega, by rw [hR]; show _ ≤ 2312; omega⟩ dL_law_299) rfl [0, 1, 2, 3, 4, 5, 6, 7, 8, 9, 10, 11, 12] [] [0, 1, 2, 3, 4, 5, 6, 7, 8, 9, 10, 11, 12] nd_LH di_LH (fun u299 => wB γ ad seen cnt pwc par u299 held clos seW seS leW leS) rfl rfl (fun _ => rfl) (fun r299 u299 hv => ?_)
  refine g_istore (pc' := 304) (lv' := [(14, .int r299), (13, .int r283), (0, .ref b), (1, .ref (ad 0)), (2, .int x2), (4, .int x4), (5, .int x5), (7, .int x7), (8, .int x8), (9, .int x9), (10, .int x10), (12, .int x12)]) C dL_law_302 rfl (by decide) rfl ?_
  refine g_iload (pc' := 306) C dL_law_304 rfl rfl ?_
  refine g_bipush (pc' := 308) (v := (-3 : Int32)) C dL_law_306 rfl (by decide) ?_
  obtain ⟨hv1, hv2⟩ := hv
  refine g_icmp_eq (pc' := 311) (tgt := 337) C dL_law_308 rfl (by decide) (fun c => ?_) (fun c => ?_)
  · have hv := hv1 c
    refine g_sub (lv' := [(0, .ref b), (1, .ref (ad 0)), (2, .int x2), (4, .int x4), (5, .int x5), (7, .int x7), (8, .int x8), (9, .int x9), (10, .int x10)]) [2, 3, 4, 5, 6, 7, 8, 9, 10] rfl ?_
    exact wvL_law_J337 hfl C hX hbl hbA hR RT hK68 hkb hsb (by omega) (by omega) hv
  · have hv := hv2 c
    refine g_aload_n (pc' := 312) C dL_law_311 rfl rfl rfl ?_
    refine g_iload (pc' := 314) C dL_law_312 rfl rfl ?_
    refine cfI (pc' := 317) C (run_SI (rest := []) C lk_L_69 (mtL_isLeaf hv) ⟨by decide, by decide⟩ rfl rfl (Nat.le_of_ble_eq_true rfl) ⟨by rw [hR]; show _ ≤ 115; omega, by rw [hR]; show _ ≤ 2312; omega⟩ dL_law_314) rfl [0, 1, 2, 3, 4, 5, 6, 7, 8, 9, 10, 11, 12] [] [0, 1, 2, 3, 4, 5, 6, 7, 8, 9, 10, 11, 12] nd_LH di_LH (fun u314 => wB γ ad seen cnt pwc par u299 held clos seW seS leW leS) rfl rfl (fun _ => rfl) (fun r314 u314 hv => ?_)
    obtain ⟨hv1, hv2⟩ := hv
    refine g_if_eq (pc' := 320) (tgt := 341) C dL_law_317 rfl (by decide) (fun c => ?_) (fun c => ?_)
    · have hv := hv1 c
      refine g_sub (lv' := [(0, .ref b), (1, .ref (ad 0)), (2, .int x2), (4, .int x4), (5, .int x5), (7, .int x7), (8, .int x8), (9, .int x9), (10, .int x10)]) [2, 3, 4, 5, 6, 7, 8, 9, 10] rfl ?_
      exact wvL_law_J341 hfl C hX hbl hbA hR RT hK68 hkb hsb (by omega) (by omega) hv
    · have hv := hv2 c
      refine g_aload_n (pc' := 321) C dL_law_320 rfl rfl rfl ?_
      refine g_iload (pc' := 323) C dL_law_321 rfl rfl ?_
      refine g_iload (pc' := 325) C dL_law_323 rfl rfl ?_
      refine g_iload (pc' := 327) C dL_law_325 rfl rfl ?_
      refine g_iload (pc' := 329) C dL_law_327 rfl rfl ?_
      refine cfI (pc' := 332) C (run_VI (rest := []) C lk_L_77 (mtX3_amount hv) ⟨by decide, by decide⟩ rfl rfl rfl rfl (Nat.le_of_ble_eq_true rfl) ⟨by rw [hR]; show _ ≤ 115; omega, by rw [hR]; show _ ≤ 2312; omega⟩ dL_law_329) rfl [0, 1, 2, 3, 4, 5, 6, 7, 8, 9, 10, 11, 12] [] [0, 1, 2, 3, 4, 5, 6, 7, 8, 9, 10, 11, 12] nd_LB di_LB (fun u329 => wB γ ad seen cnt pwc par u299 held clos seW seS leW leS) rfl rfl (fun _ => rfl) (fun r329 u329 hv => ?_)
      refine g_iload (pc' := 334) C dL_law_332 rfl rfl ?_
      obtain ⟨hv1, hv2⟩ := hv
      refine g_icmp_ne (pc' := 337) (tgt := 341) C dL_law_334 rfl (by decide) (fun c => ?_) (fun c => ?_)
      · have hv := hv1 c
        refine g_sub (lv' := [(0, .ref b), (1, .ref (ad 0)), (2, .int x2), (4, .int x4), (5, .int x5), (7, .int x7), (8, .int x8), (9, .int x9), (10, .int x10)]) [2, 3, 4, 5, 6, 7, 8, 9, 10] rfl ?_
        exact wvL_law_J341 hfl C hX hbl hbA hR RT hK68 hkb hsb (by omega) (by omega) hv
      · have hv := hv2 c
        refine g_sub (lv' := [(0, .ref b), (1, .ref (ad 0)), (2, .int x2), (4, .int x4), (5, .int x5), (7, .int x7), (8, .int x8), (9, .int x9), (10, .int x10)]) [2, 3, 4, 5, 6, 7, 8, 9, 10] rfl ?_
        exact wvL_law_J337 hfl C hX hbl hbA hR RT hK68 hkb hsb (by omega) (by omega) hv
def vL_law_J407 (seen : Int32) (cnt : Int32) (pwc : Int32) (par : Ar) (amt : Ar) (held : Ar) (clos : Ar) (seW : Ar) (seS : Ar) (leW : Ar) (leS : Ar) (x2 : Int32) (x4 : Int32) (x5 : Int32) (x7 : Int32) (x8 : Int32) (x9 : Int32) (x10 : Int32) (s0 : Int32) (K68 : Int32 → Int32 → Int32 → Int32 → Int32 → Int32 → Ar → Ar → Ar → Ar → Ar → Ar → Ar → Ar → Prop) (xs : Nat → Int32) (L : Nat) : Prop := (vL_law_J969 seen cnt pwc par amt held clos seW seS leW leS x2 s0 x4 x5 x7 x8 x9 x10 K68 xs L)
set_option maxHeartbeats 4000000 in
set_option maxRecDepth 100000 in
theorem wvL_law_J407 {l : Launch} {γ : Gm} {κ : Kx} {ad : Nat → Nat} {seen : Int32} {cnt : Int32} {pwc : Int32} {par : Ar} {amt : Ar} {held : Ar} {clos : Ar} {seW : Ar} {seS : Ar} {leW : Ar} {leS : Ar} {x2 : Int32} {x4 : Int32} {x5 : Int32} {x7 : Int32} {x8 : Int32} {x9 : Int32} {x10 : Int32} {s0 : Int32} {K68 : Int32 → Int32 → Int32 → Int32 → Int32 → Int32 → Ar → Ar → Ar → Ar → Ar → Ar → Ar → Ar → Prop} {xs : Nat → Int32} {b L : Nat} (hfl : l.stackTraces = false) (C : Ok γ κ cL_law 15 RL 11 412) (hX : va_X b L xs κ.s κ.s.heap) (hbl : b < κ.s.heap.size) (hbA : ¬ κ.A b) (hR : κ.R = room_1) (RT : RtL l γ κ) {kb sb : Nat} (hK68 : ∀ (x2 : Int32) (x3 : Int32) (x5 : Int32) (seen : Int32) (cnt : Int32) (pwc : Int32) (par : Ar) (amt : Ar) (held : Ar) (clos : Ar) (seW : Ar) (seS : Ar) (leW : Ar) (leS : Ar) (k9 s9 : Nat), k9 ≤ kb → s9 ≤ sb → K68 x2 x3 x5 seen cnt pwc par amt held clos seW seS leW leS → G l γ κ (wB γ ad seen cnt pwc par amt held clos seW seS leW leS) [(0, .ref b), (1, .ref (ad 0)), (2, .int x2), (3, .int x3), (4, .int x4), (5, .int x5)] k9 s9 [] 68) {k9 s9 : Nat} (hkb : kb ≤ 115) (hsb : sb ≤ 2312) (hk : k9 + 0 ≤ kb) (hs : s9 + 0 ≤ sb) (hv : vL_law_J407 seen cnt pwc par amt held clos seW seS leW leS x2 x4 x5 x7 x8 x9 x10 s0 K68 xs L) : G l γ κ (wB γ ad seen cnt pwc par amt held clos seW seS leW leS) [(0, .ref b), (1, .ref (ad 0)), (2, .int x2), (4, .int x4), (5, .int x5), (7, .int x7), (8, .int x8), (9, .int x9), (10, .int x10)] k9 s9 [.int s0] 407 := by
  refine g_istore_n (pc' := 408) (lv' := [(3, .int s0), (0, .ref b), (1, .ref (ad 0)), (2, .int x2), (4, .int x4), (5, .int x5), (7, .int x7), (8, .int x8), (9, .int x9), (10, .int x10)]) C dL_law_407 rfl rfl (by decide) rfl ?_
  refine g_goto (tgt := 969) C dL_law_408 (by decide) ?_
  refine g_sub (lv' := [(0, .ref b), (1, .ref (ad 0)), (2, .int x2), (3, .int s0), (4, .int x4), (5, .int x5), (7, .int x7), (8, .int x8), (9, .int x9), (10, .int x10)]) [1, 2, 3, 0, 4, 5, 6, 7, 8, 9] rfl ?_
  exact wvL_law_J969 hfl C hX hbl hbA hR RT hK68 hkb hsb (by omega) (by omega) hv
def vL_law_J376 (seen : Int32) (cnt : Int32) (pwc : Int32) (par : Ar) (amt : Ar) (held : Ar) (clos : Ar) (seW : Ar) (seS : Ar) (leW : Ar) (leS : Ar) (x2 : Int32) (x4 : Int32) (x5 : Int32) (x7 : Int32) (x8 : Int32) (x9 : Int32) (x10 : Int32) (s0 : Int32) (K68 : Int32 → Int32 → Int32 → Int32 → Int32 → Int32 → Ar → Ar → Ar → Ar → Ar → Ar → Ar → Ar → Prop) (xs : Nat → Int32) (L : Nat) : Prop := (vX3_hold cnt pwc held x9 x10 s0 (fun r385 u385 => (vX3_hold cnt pwc u385 x9 x10 s0 (fun r396 u396 => ((¬ r396 = (0 : Int32) → (vL_law_J407 seen cnt pwc par amt u396 clos seW seS leW leS x2 x4 x5 x7 x8 x9 x10 (0 : Int32) K68 xs L)) ∧ (r396 = (0 : Int32) → (vL_law_J407 seen cnt pwc par amt u396 clos seW seS leW leS x2 x4 x5 x7 x8 x9 x10 (1 : Int32) K68 xs L)))))))
set_option maxHeartbeats 4000000 in
set_option maxRecDepth 100000 in
theorem wvL_law_J376 {l : Launch} {γ : Gm} {κ : Kx} {ad : Nat → Nat} {seen : Int32} {cnt : Int32} {pwc : Int32} {par : Ar} {amt : Ar} {held : Ar} {clos : Ar} {seW : Ar} {seS : Ar} {leW : Ar} {leS : Ar} {x2 : Int32} {x4 : Int32} {x5 : Int32} {x7 : Int32} {x8 : Int32} {x9 : Int32} {x10 : Int32} {s0 : Int32} {K68 : Int32 → Int32 → Int32 → Int32 → Int32 → Int32 → Ar → Ar → Ar → Ar → Ar → Ar → Ar → Ar → Prop} {xs : Nat → Int32} {b L : Nat} (hfl : l.stackTraces = false) (C : Ok γ κ cL_law 15 RL 11 412) (hX : va_X b L xs κ.s κ.s.heap) (hbl : b < κ.s.heap.size) (hbA : ¬ κ.A b) (hR : κ.R = room_1) (RT : RtL l γ κ) {kb sb : Nat} (hK68 : ∀ (x2 : Int32) (x3 : Int32) (x5 : Int32) (seen : Int32) (cnt : Int32) (pwc : Int32) (par : Ar) (amt : Ar) (held : Ar) (clos : Ar) (seW : Ar) (seS : Ar) (leW : Ar) (leS : Ar) (k9 s9 : Nat), k9 ≤ kb → s9 ≤ sb → K68 x2 x3 x5 seen cnt pwc par amt held clos seW seS leW leS → G l γ κ (wB γ ad seen cnt pwc par amt held clos seW seS leW leS) [(0, .ref b), (1, .ref (ad 0)), (2, .int x2), (3, .int x3), (4, .int x4), (5, .int x5)] k9 s9 [] 68) {k9 s9 : Nat} (hkb : kb ≤ 115) (hsb : sb ≤ 2312) (hk : k9 + 0 ≤ kb) (hs : s9 + 0 ≤ sb) (hv : vL_law_J376 seen cnt pwc par amt held clos seW seS leW leS x2 x4 x5 x7 x8 x9 x10 s0 K68 xs L) : G l γ κ (wB γ ad seen cnt pwc par amt held clos seW seS leW leS) [(0, .ref b), (1, .ref (ad 0)), (2, .int x2), (4, .int x4), (5, .int x5), (7, .int x7), (8, .int x8), (9, .int x9), (10, .int x10)] k9 s9 [.int s0] 376 := by
  refine g_istore (pc' := 378) (lv' := [(12, .int s0), (0, .ref b), (1, .ref (ad 0)), (2, .int x2), (4, .int x4), (5, .int x5), (7, .int x7), (8, .int x8), (9, .int x9), (10, .int x10)]) C dL_law_376 rfl (by decide) rfl ?_
  refine g_aload_n (pc' := 379) C dL_law_378 rfl rfl rfl ?_
  refine g_iload (pc' := 381) C dL_law_379 rfl rfl ?_
  refine g_iload (pc' := 383) C dL_law_381 rfl rfl ?_
  refine g_iload (pc' := 385) C dL_law_383 rfl rfl ?_
  refine cfI (pc' := 388) C (run_VI (rest := []) C lk_L_84 (mtX3_hold hv) ⟨by decide, by decide⟩ rfl rfl rfl rfl (Nat.le_of_ble_eq_true rfl) ⟨by rw [hR]; show _ ≤ 115; omega, by rw [hR]; show _ ≤ 2312; omega⟩ dL_law_385) rfl [0, 1, 2, 3, 4, 5, 6, 7, 8, 9, 10, 11, 12] [] [0, 1, 2, 3, 4, 5, 6, 7, 8, 9, 10, 11, 12] nd_LB di_LB (fun u385 => wB γ ad seen cnt pwc par amt u385 clos seW seS leW leS) rfl rfl (fun _ => rfl) (fun r385 u385 hv => ?_)
  refine g_pop (pc' := 389) C dL_law_388 rfl rfl ?_
  refine g_aload_n (pc' := 390) C dL_law_389 rfl rfl rfl ?_
  refine g_iload (pc' := 392) C dL_law_390 rfl rfl ?_
  refine g_iload (pc' := 394) C dL_law_392 rfl rfl ?_
  refine g_iload (pc' := 396) C dL_law_394 rfl rfl ?_
  refine cfI (pc' := 399) C (run_VI (rest := []) C lk_L_84 (mtX3_hold hv) ⟨by decide, by decide⟩ rfl rfl rfl rfl (Nat.le_of_ble_eq_true rfl) ⟨by rw [hR]; show _ ≤ 115; omega, by rw [hR]; show _ ≤ 2312; omega⟩ dL_law_396) rfl [0, 1, 2, 3, 4, 5, 6, 7, 8, 9, 10, 11, 12] [] [0, 1, 2, 3, 4, 5, 6, 7, 8, 9, 10, 11, 12] nd_LB di_LB (fun u396 => wB γ ad seen cnt pwc par amt u396 clos seW seS leW leS) rfl rfl (fun _ => rfl) (fun r396 u396 hv => ?_)
  obtain ⟨hv1, hv2⟩ := hv
  refine g_if_ne (pc' := 402) (tgt := 406) C dL_law_399 rfl (by decide) (fun c => ?_) (fun c => ?_)
  · have hv := hv1 c
    refine g_iconst (pc' := 407) (v := (0 : Int32)) C dL_law_406 rfl (by decide) ?_
    refine g_sub (lv' := [(0, .ref b), (1, .ref (ad 0)), (2, .int x2), (4, .int x4), (5, .int x5), (7, .int x7), (8, .int x8), (9, .int x9), (10, .int x10)]) [1, 2, 3, 4, 5, 6, 7, 8, 9] rfl ?_
    exact wvL_law_J407 hfl C hX hbl hbA hR RT hK68 hkb hsb (by omega) (by omega) hv
  · have hv := hv2 c
    refine g_iconst (pc' := 403) (v := (1 : Int32)) C dL_law_402 rfl (by decide) ?_
    refine g_goto (tgt := 407) C dL_law_403 (by decide) ?_
    refine g_sub (lv' := [(0, .ref b), (1, .ref (ad 0)), (2, .int x2), (4, .int x4), (5, .int x5), (7, .int x7), (8, .int x8), (9, .int x9), (10, .int x10)]) [1, 2, 3, 4, 5, 6, 7, 8, 9] rfl ?_
    exact wvL_law_J407 hfl C hX hbl hbA hR RT hK68 hkb hsb (by omega) (by omega) hv
def vL_law_J555 (seen : Int32) (cnt : Int32) (pwc : Int32) (par : Ar) (amt : Ar) (held : Ar) (clos : Ar) (seW : Ar) (seS : Ar) (leW : Ar) (leS : Ar) (x2 : Int32) (x4 : Int32) (x5 : Int32) (x7 : Int32) (x8 : Int32) (x9 : Int32) (x10 : Int32) (s0 : Int32) (K68 : Int32 → Int32 → Int32 → Int32 → Int32 → Int32 → Ar → Ar → Ar → Ar → Ar → Ar → Ar → Ar → Prop) (xs : Nat → Int32) (L : Nat) : Prop := (vL_law_J969 seen cnt pwc par amt held clos seW seS leW leS x2 s0 x4 x5 x7 x8 x9 x10 K68 xs L)
set_option maxHeartbeats 4000000 in
set_option maxRecDepth 100000 in
theorem wvL_law_J555 {l : Launch} {γ : Gm} {κ : Kx} {ad : Nat → Nat} {seen : Int32} {cnt : Int32} {pwc : Int32} {par : Ar} {amt : Ar} {held : Ar} {clos : Ar} {seW : Ar} {seS : Ar} {leW : Ar} {leS : Ar} {x2 : Int32} {x4 : Int32} {x5 : Int32} {x7 : Int32} {x8 : Int32} {x9 : Int32} {x10 : Int32} {s0 : Int32} {K68 : Int32 → Int32 → Int32 → Int32 → Int32 → Int32 → Ar → Ar → Ar → Ar → Ar → Ar → Ar → Ar → Prop} {xs : Nat → Int32} {b L : Nat} (hfl : l.stackTraces = false) (C : Ok γ κ cL_law 15 RL 11 412) (hX : va_X b L xs κ.s κ.s.heap) (hbl : b < κ.s.heap.size) (hbA : ¬ κ.A b) (hR : κ.R = room_1) (RT : RtL l γ κ) {kb sb : Nat} (hK68 : ∀ (x2 : Int32) (x3 : Int32) (x5 : Int32) (seen : Int32) (cnt : Int32) (pwc : Int32) (par : Ar) (amt : Ar) (held : Ar) (clos : Ar) (seW : Ar) (seS : Ar) (leW : Ar) (leS : Ar) (k9 s9 : Nat), k9 ≤ kb → s9 ≤ sb → K68 x2 x3 x5 seen cnt pwc par amt held clos seW seS leW leS → G l γ κ (wB γ ad seen cnt pwc par amt held clos seW seS leW leS) [(0, .ref b), (1, .ref (ad 0)), (2, .int x2), (3, .int x3), (4, .int x4), (5, .int x5)] k9 s9 [] 68) {k9 s9 : Nat} (hkb : kb ≤ 115) (hsb : sb ≤ 2312) (hk : k9 + 0 ≤ kb) (hs : s9 + 0 ≤ sb) (hv : vL_law_J555 seen cnt pwc par amt held clos seW seS leW leS x2 x4 x5 x7 x8 x9 x10 s0 K68 xs L) : G l γ κ (wB γ ad seen cnt pwc par amt held clos seW seS leW leS) [(0, .ref b), (1, .ref (ad 0)), (2, .int x2), (4, .int x4), (5, .int x5), (7, .int x7), (8, .int x8), (9, .int x9), (10, .int x10)] k9 s9 [.int s0] 555 := by
  refine g_istore_n (pc' := 556) (lv' := [(3, .int s0), (0, .ref b), (1, .ref (ad 0)), (2, .int x2), (4, .int x4), (5, .int x5), (7, .int x7), (8, .int x8), (9, .int x9), (10, .int x10)]) C dL_law_555 rfl rfl (by decide) rfl ?_
  refine g_goto (tgt := 969) C dL_law_556 (by decide) ?_
  refine g_sub (lv' := [(0, .ref b), (1, .ref (ad 0)), (2, .int x2), (3, .int s0), (4, .int x4), (5, .int x5), (7, .int x7), (8, .int x8), (9, .int x9), (10, .int x10)]) [1, 2, 3, 0, 4, 5, 6, 7, 8, 9] rfl ?_
  exact wvL_law_J969 hfl C hX hbl hbA hR RT hK68 hkb hsb (by omega) (by omega) hv
def vL_law_J554 (seen : Int32) (cnt : Int32) (pwc : Int32) (par : Ar) (amt : Ar) (held : Ar) (clos : Ar) (seW : Ar) (seS : Ar) (leW : Ar) (leS : Ar) (x2 : Int32) (x4 : Int32) (x5 : Int32) (x7 : Int32) (x8 : Int32) (x9 : Int32) (x10 : Int32) (K68 : Int32 → Int32 → Int32 → Int32 → Int32 → Int32 → Ar → Ar → Ar → Ar → Ar → Ar → Ar → Ar → Prop) (xs : Nat → Int32) (L : Nat) : Prop := (vL_law_J555 seen cnt pwc par amt held clos seW seS leW leS x2 x4 x5 x7 x8 x9 x10 (0 : Int32) K68 xs L)
set_option maxHeartbeats 4000000 in
set_option maxRecDepth 100000 in
theorem wvL_law_J554 {l : Launch} {γ : Gm} {κ : Kx} {ad : Nat → Nat} {seen : Int32} {cnt : Int32} {pwc : Int32} {par : Ar} {amt : Ar} {held : Ar} {clos : Ar} {seW : Ar} {seS : Ar} {leW : Ar} {leS : Ar} {x2 : Int32} {x4 : Int32} {x5 : Int32} {x7 : Int32} {x8 : Int32} {x9 : Int32} {x10 : Int32} {K68 : Int32 → Int32 → Int32 → Int32 → Int32 → Int32 → Ar → Ar → Ar → Ar → Ar → Ar → Ar → Ar → Prop} {xs : Nat → Int32} {b L : Nat} (hfl : l.stackTraces = false) (C : Ok γ κ cL_law 15 RL 11 412) (hX : va_X b L xs κ.s κ.s.heap) (hbl : b < κ.s.heap.size) (hbA : ¬ κ.A b) (hR : κ.R = room_1) (RT : RtL l γ κ) {kb sb : Nat} (hK68 : ∀ (x2 : Int32) (x3 : Int32) (x5 : Int32) (seen : Int32) (cnt : Int32) (pwc : Int32) (par : Ar) (amt : Ar) (held : Ar) (clos : Ar) (seW : Ar) (seS : Ar) (leW : Ar) (leS : Ar) (k9 s9 : Nat), k9 ≤ kb → s9 ≤ sb → K68 x2 x3 x5 seen cnt pwc par amt held clos seW seS leW leS → G l γ κ (wB γ ad seen cnt pwc par amt held clos seW seS leW leS) [(0, .ref b), (1, .ref (ad 0)), (2, .int x2), (3, .int x3), (4, .int x4), (5, .int x5)] k9 s9 [] 68) {k9 s9 : Nat} (hkb : kb ≤ 115) (hsb : sb ≤ 2312) (hk : k9 + 0 ≤ kb) (hs : s9 + 0 ≤ sb) (hv : vL_law_J554 seen cnt pwc par amt held clos seW seS leW leS x2 x4 x5 x7 x8 x9 x10 K68 xs L) : G l γ κ (wB γ ad seen cnt pwc par amt held clos seW seS leW leS) [(0, .ref b), (1, .ref (ad 0)), (2, .int x2), (4, .int x4), (5, .int x5), (7, .int x7), (8, .int x8), (9, .int x9), (10, .int x10)] k9 s9 [] 554 := by
  refine g_iconst (pc' := 555) (v := (0 : Int32)) C dL_law_554 rfl (by decide) ?_
  exact wvL_law_J555 hfl C hX hbl hbA hR RT hK68 hkb hsb (by omega) (by omega) hv
def vL_law_J440 (seen : Int32) (cnt : Int32) (pwc : Int32) (par : Ar) (amt : Ar) (held : Ar) (clos : Ar) (seW : Ar) (seS : Ar) (leW : Ar) (leS : Ar) (x2 : Int32) (x4 : Int32) (x5 : Int32) (x6 : Int32) (x7 : Int32) (x8 : Int32) (x9 : Int32) (x10 : Int32) (s0 : Int32) (s1 : Int32) (K68 : Int32 → Int32 → Int32 → Int32 → Int32 → Int32 → Ar → Ar → Ar → Ar → Ar → Ar → Ar → Ar → Prop) (xs : Nat → Int32) (L : Nat) : Prop := (vL_low s1 s0 (fun r440 => (vX3_amount cnt pwc par amt x7 x9 (2 : Int32) x10 (fun r453 => (vL_low (x6 >>> ((2 : Int32) &&& 31)) (2 : Int32) (fun r472 => (vL_spread cnt pwc par amt held clos leW leS x7 x9 x10 r440 r472 (fun r475 u475 => ((¬ r475 = (-3 : Int32) → (vX3_amount cnt pwc par u475.1 x7 x9 (2 : Int32) x10 (fun r519 => ((¬ r519 = r440 → (vL_law_J554 seen cnt pwc par u475.1 held clos seW seS u475.2.1 u475.2.2 x2 x4 x5 x7 x8 x9 x10 K68 xs L)) ∧ (r519 = r440 → (((10 : Int32) < r475 → (vL_law_J554 seen cnt pwc par u475.1 held clos seW seS u475.2.1 u475.2.2 x2 x4 x5 x7 x8 x9 x10 K68 xs L)) ∧ (¬ (10 : Int32) < r475 → (vL_spread cnt pwc par u475.1 held clos u475.2.1 u475.2.2 x7 x9 x10 r440 (0 : Int32) (fun r544 u544 => ((¬ r544 = (0 : Int32) → (vL_law_J554 seen cnt pwc par u544.1 held clos seW seS u544.2.1 u544.2.2 x2 x4 x5 x7 x8 x9 x10 K68 xs L)) ∧ (r544 = (0 : Int32) → (vL_law_J555 seen cnt pwc par u544.1 held clos seW seS u544.2.1 u544.2.2 x2 x4 x5 x7 x8 x9 x10 (1 : Int32) K68 xs L)))))))))))) ∧ (r475 = (-3 : Int32) → (vX3_amount cnt pwc par u475.1 x7 x9 (2 : Int32) x10 (fun r495 => ((¬ r495 = r453 → (vL_law_J555 seen cnt pwc par u475.1 held clos seW seS u475.2.1 u475.2.2 x2 x4 x5 x7 x8 x9 x10 (0 : Int32) K68 xs L)) ∧ (r495 = r453 → (vL_law_J555 seen cnt pwc par u475.1 held clos seW seS u475.2.1 u475.2.2 x2 x4 x5 x7 x8 x9 x10 (1 : Int32) K68 xs L)))))))))))))))
set_option maxHeartbeats 4000000 in
set_option maxRecDepth 100000 in
theorem wvL_law_J440 {l : Launch} {γ : Gm} {κ : Kx} {ad : Nat → Nat} {seen : Int32} {cnt : Int32} {pwc : Int32} {par : Ar} {amt : Ar} {held : Ar} {clos : Ar} {seW : Ar} {seS : Ar} {leW : Ar} {leS : Ar} {x2 : Int32} {x4 : Int32} {x5 : Int32} {x6 : Int32} {x7 : Int32} {x8 : Int32} {x9 : Int32} {x10 : Int32} {s0 : Int32} {s1 : Int32} {K68 : Int32 → Int32 → Int32 → Int32 → Int32 → Int32 → Ar → Ar → Ar → Ar → Ar → Ar → Ar → Ar → Prop} {xs : Nat → Int32} {b L : Nat} (hfl : l.stackTraces = false) (C : Ok γ κ cL_law 15 RL 11 412) (hX : va_X b L xs κ.s κ.s.heap) (hbl : b < κ.s.heap.size) (hbA : ¬ κ.A b) (hR : κ.R = room_1) (RT : RtL l γ κ) {kb sb : Nat} (hK68 : ∀ (x2 : Int32) (x3 : Int32) (x5 : Int32) (seen : Int32) (cnt : Int32) (pwc : Int32) (par : Ar) (amt : Ar) (held : Ar) (clos : Ar) (seW : Ar) (seS : Ar) (leW : Ar) (leS : Ar) (k9 s9 : Nat), k9 ≤ kb → s9 ≤ sb → K68 x2 x3 x5 seen cnt pwc par amt held clos seW seS leW leS → G l γ κ (wB γ ad seen cnt pwc par amt held clos seW seS leW leS) [(0, .ref b), (1, .ref (ad 0)), (2, .int x2), (3, .int x3), (4, .int x4), (5, .int x5)] k9 s9 [] 68) {k9 s9 : Nat} (hkb : kb ≤ 115) (hsb : sb ≤ 2312) (hk : k9 + 2 ≤ kb) (hs : s9 + 12 ≤ sb) (hv : vL_law_J440 seen cnt pwc par amt held clos seW seS leW leS x2 x4 x5 x6 x7 x8 x9 x10 s0 s1 K68 xs L) : G l γ κ (wB γ ad seen cnt pwc par amt held clos seW seS leW leS) [(0, .ref b), (1, .ref (ad 0)), (2, .int x2), (4, .int x4), (5, .int x5), (6, .int x6), (7, .int x7), (8, .int x8), (9, .int x9), (10, .int x10)] k9 s9 [.int s0, .int s1] 440 := by
  refine cfI (pc' := 443) C (run_SI (rest := []) C lk_L_66 (mtL_low hv) ⟨by decide, by decide⟩ rfl rfl (Nat.le_of_ble_eq_true rfl) ⟨by rw [hR]; show _ ≤ 115; omega, by rw [hR]; show _ ≤ 2312; omega⟩ dL_law_440) rfl [0, 1, 2, 3, 4, 5, 6, 7, 8, 9, 10, 11, 12] [] [0, 1, 2, 3, 4, 5, 6, 7, 8, 9, 10, 11, 12] nd_LH di_LH (fun u440 => wB γ ad seen cnt pwc par amt held clos seW seS leW leS) rfl rfl (fun _ => rfl) (fun r440 u440 hv => ?_)
  refine g_istore (pc' := 445) (lv' := [(12, .int r440), (0, .ref b), (1, .ref (ad 0)), (2, .int x2), (4, .int x4), (5, .int x5), (6, .int x6), (7, .int x7), (8, .int x8), (9, .int x9), (10, .int x10)]) C dL_law_443 rfl (by decide) rfl ?_
  refine g_aload_n (pc' := 446) C dL_law_445 rfl rfl rfl ?_
  refine g_iload (pc' := 448) C dL_law_446 rfl rfl ?_
  refine g_iload (pc' := 450) C dL_law_448 rfl rfl ?_
  refine g_iconst (pc' := 451) (v := (2 : Int32)) C dL_law_450 rfl (by decide) ?_
  refine g_iload (pc' := 453) C dL_law_451 rfl rfl ?_
  refine cfI (pc' := 456) C (run_VI (rest := []) C lk_L_77 (mtX3_amount hv) ⟨by decide, by decide⟩ rfl rfl rfl rfl (Nat.le_of_ble_eq_true rfl) ⟨by rw [hR]; show _ ≤ 115; omega, by rw [hR]; show _ ≤ 2312; omega⟩ dL_law_453) rfl [0, 1, 2, 3, 4, 5, 6, 7, 8, 9, 10, 11, 12] [] [0, 1, 2, 3, 4, 5, 6, 7, 8, 9, 10, 11, 12] nd_LB di_LB (fun u453 => wB γ ad seen cnt pwc par amt held clos seW seS leW leS) rfl rfl (fun _ => rfl) (fun r453 u453 hv => ?_)
  refine g_istore (pc' := 458) (lv' := [(13, .int r453), (12, .int r440), (0, .ref b), (1, .ref (ad 0)), (2, .int x2), (4, .int x4), (5, .int x5), (6, .int x6), (7, .int x7), (8, .int x8), (9, .int x9), (10, .int x10)]) C dL_law_456 rfl (by decide) rfl ?_
  refine g_aload_n (pc' := 459) C dL_law_458 rfl rfl rfl ?_
  refine g_iload (pc' := 461) C dL_law_459 rfl rfl ?_
  refine g_iload (pc' := 463) C dL_law_461 rfl rfl ?_
  refine g_iload (pc' := 465) C dL_law_463 rfl rfl ?_
  refine g_iload (pc' := 467) C dL_law_465 rfl rfl ?_
  refine g_iload (pc' := 469) C dL_law_467 rfl rfl ?_
  refine g_iconst (pc' := 470) (v := (2 : Int32)) C dL_law_469 rfl (by decide) ?_
  refine g_ishr (pc' := 471) C dL_law_470 rfl ?_
  refine g_iconst (pc' := 472) (v := (2 : Int32)) C dL_law_471 rfl (by decide) ?_
  refine cfI (pc' := 475) C (run_SI (rest := [.int r440, .int x10, .int x9, .int x7, .ref (ad 0)]) C lk_L_66 (mtL_low hv) ⟨by decide, by decide⟩ rfl rfl (Nat.le_of_ble_eq_true rfl) ⟨by rw [hR]; show _ ≤ 115; omega, by rw [hR]; show _ ≤ 2312; omega⟩ dL_law_472) rfl [0, 1, 2, 3, 4, 5, 6, 7, 8, 9, 10, 11, 12] [] [0, 1, 2, 3, 4, 5, 6, 7, 8, 9, 10, 11, 12] nd_LH di_LH (fun u472 => wB γ ad seen cnt pwc par amt held clos seW seS leW leS) rfl rfl (fun _ => rfl) (fun r472 u472 hv => ?_)
  refine cfH (pc' := 478) C (run_SH (rest := []) C lk_L_88 (mtL_spread hfl hv) ⟨by decide, by decide⟩ rfl rfl (Nat.le_of_ble_eq_true rfl) ⟨by rw [hR]; show _ ≤ 115; omega, by rw [hR]; show _ ≤ 2312; omega⟩ dL_law_475) rfl [0, 1, 2, 3, 4, 5, 6, 7, 8, 9, 10, 11, 12] [] [0, 1, 2, 3, 4, 5, 6, 7, 8, 9, 10, 11, 12] nd_LH di_LH (fun u475 => wB γ ad seen cnt pwc par u475.1 held clos seW seS u475.2.1 u475.2.2) rfl rfl (fun _ => rfl) (fun r475 u475 hv => ?_)
  refine g_istore (pc' := 480) (lv' := [(14, .int r475), (13, .int r453), (12, .int r440), (0, .ref b), (1, .ref (ad 0)), (2, .int x2), (4, .int x4), (5, .int x5), (6, .int x6), (7, .int x7), (8, .int x8), (9, .int x9), (10, .int x10)]) C dL_law_478 rfl (by decide) rfl ?_
  refine g_iload (pc' := 482) C dL_law_480 rfl rfl ?_
  refine g_bipush (pc' := 484) (v := (-3 : Int32)) C dL_law_482 rfl (by decide) ?_
  obtain ⟨hv1, hv2⟩ := hv
  refine g_icmp_ne (pc' := 487) (tgt := 511) C dL_law_484 rfl (by decide) (fun c => ?_) (fun c => ?_)
  · have hv := hv1 c
    refine g_aload_n (pc' := 512) C dL_law_511 rfl rfl rfl ?_
    refine g_iload (pc' := 514) C dL_law_512 rfl rfl ?_
    refine g_iload (pc' := 516) C dL_law_514 rfl rfl ?_
    refine g_iconst (pc' := 517) (v := (2 : Int32)) C dL_law_516 rfl (by decide) ?_
    refine g_iload (pc' := 519) C dL_law_517 rfl rfl ?_
    refine cfI (pc' := 522) C (run_VI (rest := []) C lk_L_77 (mtX3_amount hv) ⟨by decide, by decide⟩ rfl rfl rfl rfl (Nat.le_of_ble_eq_true rfl) ⟨by rw [hR]; show _ ≤ 115; omega, by rw [hR]; show _ ≤ 2312; omega⟩ dL_law_519) rfl [0, 1, 2, 3, 4, 5, 6, 7, 8, 9, 10, 11, 12] [] [0, 1, 2, 3, 4, 5, 6, 7, 8, 9, 10, 11, 12] nd_LB di_LB (fun u519 => wB γ ad seen cnt pwc par u475.1 held clos seW seS u475.2.1 u475.2.2) rfl rfl (fun _ => rfl) (fun r519 u519 hv => ?_)
    refine g_iload (pc' := 524) C dL_law_522 rfl rfl ?_
    obtain ⟨hv1, hv2⟩ := hv
    refine g_icmp_ne (pc' := 527) (tgt := 554) C dL_law_524 rfl (by decide) (fun c => ?_) (fun c => ?_)
    · have hv := hv1 c
      refine g_sub (lv' := [(0, .ref b), (1, .ref (ad 0)), (2, .int x2), (4, .int x4), (5, .int x5), (7, .int x7), (8, .int x8), (9, .int x9), (10, .int x10)]) [3, 4, 5, 6, 7, 9, 10, 11, 12] rfl ?_
      exact wvL_law_J554 hfl C hX hbl hbA hR RT hK68 hkb hsb (by omega) (by omega) hv
    · have hv := hv2 c
      refine g_iload (pc' := 529) C dL_law_527 rfl rfl ?_
      refine g_bipush (pc' := 531) (v := (10 : Int32)) C dL_law_529 rfl (by decide) ?_
      obtain ⟨hv1, hv2⟩ := hv
      refine g_icmp_gt (pc' := 534) (tgt := 554) C dL_law_531 rfl (by decide) (fun c => ?_) (fun c => ?_)
      · have hv := hv1 c
        refine g_sub (lv' := [(0, .ref b), (1, .ref (ad 0)), (2, .int x2), (4, .int x4), (5, .int x5), (7, .int x7), (8, .int x8), (9, .int x9), (10, .int x10)]) [3, 4, 5, 6, 7, 9, 10, 11, 12] rfl ?_
        exact wvL_law_J554 hfl C hX hbl hbA hR RT hK68 hkb hsb (by omega) (by omega) hv
      · have hv := hv2 c
        refine g_aload_n (pc' := 535) C dL_law_534 rfl rfl rfl ?_
        refine g_iload (pc' := 537) C dL_law_535 rfl rfl ?_
        refine g_iload (pc' := 539) C dL_law_537 rfl rfl ?_
        refine g_iload (pc' := 541) C dL_law_539 rfl rfl ?_
        refine g_iload (pc' := 543) C dL_law_541 rfl rfl ?_
        refine g_iconst (pc' := 544) (v := (0 : Int32)) C dL_law_543 rfl (by decide) ?_
        refine cfH (pc' := 547) C (run_SH (rest := []) C lk_L_88 (mtL_spread hfl hv) ⟨by decide, by decide⟩ rfl rfl (Nat.le_of_ble_eq_true rfl) ⟨by rw [hR]; show _ ≤ 115; omega, by rw [hR]; show _ ≤ 2312; omega⟩ dL_law_544) rfl [0, 1, 2, 3, 4, 5, 6, 7, 8, 9, 10, 11, 12] [] [0, 1, 2, 3, 4, 5, 6, 7, 8, 9, 10, 11, 12] nd_LH di_LH (fun u544 => wB γ ad seen cnt pwc par u544.1 held clos seW seS u544.2.1 u544.2.2) rfl rfl (fun _ => rfl) (fun r544 u544 hv => ?_)
        obtain ⟨hv1, hv2⟩ := hv
        refine g_if_ne (pc' := 550) (tgt := 554) C dL_law_547 rfl (by decide) (fun c => ?_) (fun c => ?_)
        · have hv := hv1 c
          refine g_sub (lv' := [(0, .ref b), (1, .ref (ad 0)), (2, .int x2), (4, .int x4), (5, .int x5), (7, .int x7), (8, .int x8), (9, .int x9), (10, .int x10)]) [3, 4, 5, 6, 7, 9, 10, 11, 12] rfl ?_
          exact wvL_law_J554 hfl C hX hbl hbA hR RT hK68 hkb hsb (by omega) (by omega) hv
        · have hv := hv2 c
          refine g_iconst (pc' := 551) (v := (1 : Int32)) C dL_law_550 rfl (by decide) ?_
          refine g_goto (tgt := 555) C dL_law_551 (by decide) ?_
          refine g_sub (lv' := [(0, .ref b), (1, .ref (ad 0)), (2, .int x2), (4, .int x4), (5, .int x5), (7, .int x7), (8, .int x8), (9, .int x9), (10, .int x10)]) [3, 4, 5, 6, 7, 9, 10, 11, 12] rfl ?_
          exact wvL_law_J555 hfl C hX hbl hbA hR RT hK68 hkb hsb (by omega) (by omega) hv
  · have hv := hv2 c
    refine g_aload_n (pc' := 488) C dL_law_487 rfl rfl rfl ?_
    refine g_iload (pc' := 490) C dL_law_488 rfl rfl ?_
    refine g_iload (pc' := 492) C dL_law_490 rfl rfl ?_
    refine g_iconst (pc' := 493) (v := (2 : Int32)) C dL_law_492 rfl (by decide) ?_
    refine g_iload (pc' := 495) C dL_law_493 rfl rfl ?_
    refine cfI (pc' := 498) C (run_VI (rest := []) C lk_L_77 (mtX3_amount hv) ⟨by decide, by decide⟩ rfl rfl rfl rfl (Nat.le_of_ble_eq_true rfl) ⟨by rw [hR]; show _ ≤ 115; omega, by rw [hR]; show _ ≤ 2312; omega⟩ dL_law_495) rfl [0, 1, 2, 3, 4, 5, 6, 7, 8, 9, 10, 11, 12] [] [0, 1, 2, 3, 4, 5, 6, 7, 8, 9, 10, 11, 12] nd_LB di_LB (fun u495 => wB γ ad seen cnt pwc par u475.1 held clos seW seS u475.2.1 u475.2.2) rfl rfl (fun _ => rfl) (fun r495 u495 hv => ?_)
    refine g_iload (pc' := 500) C dL_law_498 rfl rfl ?_
    obtain ⟨hv1, hv2⟩ := hv
    refine g_icmp_ne (pc' := 503) (tgt := 507) C dL_law_500 rfl (by decide) (fun c => ?_) (fun c => ?_)
    · have hv := hv1 c
      refine g_iconst (pc' := 508) (v := (0 : Int32)) C dL_law_507 rfl (by decide) ?_
      refine g_goto (tgt := 555) C dL_law_508 (by decide) ?_
      refine g_sub (lv' := [(0, .ref b), (1, .ref (ad 0)), (2, .int x2), (4, .int x4), (5, .int x5), (7, .int x7), (8, .int x8), (9, .int x9), (10, .int x10)]) [3, 4, 5, 6, 7, 9, 10, 11, 12] rfl ?_
      exact wvL_law_J555 hfl C hX hbl hbA hR RT hK68 hkb hsb (by omega) (by omega) hv
    · have hv := hv2 c
      refine g_iconst (pc' := 504) (v := (1 : Int32)) C dL_law_503 rfl (by decide) ?_
      refine g_goto (tgt := 555) C dL_law_504 (by decide) ?_
      refine g_sub (lv' := [(0, .ref b), (1, .ref (ad 0)), (2, .int x2), (4, .int x4), (5, .int x5), (7, .int x7), (8, .int x8), (9, .int x9), (10, .int x10)]) [3, 4, 5, 6, 7, 9, 10, 11, 12] rfl ?_
      exact wvL_law_J555 hfl C hX hbl hbA hR RT hK68 hkb hsb (by omega) (by omega) hv
def vL_law_J629 (seen : Int32) (cnt : Int32) (pwc : Int32) (par : Ar) (amt : Ar) (held : Ar) (clos : Ar) (seW : Ar) (seS : Ar) (leW : Ar) (leS : Ar) (x2 : Int32) (x4 : Int32) (x5 : Int32) (x7 : Int32) (x8 : Int32) (x9 : Int32) (x10 : Int32) (s0 : Int32) (K68 : Int32 → Int32 → Int32 → Int32 → Int32 → Int32 → Ar → Ar → Ar → Ar → Ar → Ar → Ar → Ar → Prop) (xs : Nat → Int32) (L : Nat) : Prop := (vL_law_J969 seen cnt pwc par amt held clos seW seS leW leS x2 s0 x4 x5 x7 x8 x9 x10 K68 xs L)
set_option maxHeartbeats 4000000 in
set_option maxRecDepth 100000 in
theorem wvL_law_J629 {l : Launch} {γ : Gm} {κ : Kx} {ad : Nat → Nat} {seen : Int32} {cnt : Int32} {pwc : Int32} {par : Ar} {amt : Ar} {held : Ar} {clos : Ar} {seW : Ar} {seS : Ar} {leW : Ar} {leS : Ar} {x2 : Int32} {x4 : Int32} {x5 : Int32} {x7 : Int32} {x8 : Int32} {x9 : Int32} {x10 : Int32} {s0 : Int32} {K68 : Int32 → Int32 → Int32 → Int32 → Int32 → Int32 → Ar → Ar → Ar → Ar → Ar → Ar → Ar → Ar → Prop} {xs : Nat → Int32} {b L : Nat} (hfl : l.stackTraces = false) (C : Ok γ κ cL_law 15 RL 11 412) (hX : va_X b L xs κ.s κ.s.heap) (hbl : b < κ.s.heap.size) (hbA : ¬ κ.A b) (hR : κ.R = room_1) (RT : RtL l γ κ) {kb sb : Nat} (hK68 : ∀ (x2 : Int32) (x3 : Int32) (x5 : Int32) (seen : Int32) (cnt : Int32) (pwc : Int32) (par : Ar) (amt : Ar) (held : Ar) (clos : Ar) (seW : Ar) (seS : Ar) (leW : Ar) (leS : Ar) (k9 s9 : Nat), k9 ≤ kb → s9 ≤ sb → K68 x2 x3 x5 seen cnt pwc par amt held clos seW seS leW leS → G l γ κ (wB γ ad seen cnt pwc par amt held clos seW seS leW leS) [(0, .ref b), (1, .ref (ad 0)), (2, .int x2), (3, .int x3), (4, .int x4), (5, .int x5)] k9 s9 [] 68) {k9 s9 : Nat} (hkb : kb ≤ 115) (hsb : sb ≤ 2312) (hk : k9 + 0 ≤ kb) (hs : s9 + 0 ≤ sb) (hv : vL_law_J629 seen cnt pwc par amt held clos seW seS leW leS x2 x4 x5 x7 x8 x9 x10 s0 K68 xs L) : G l γ κ (wB γ ad seen cnt pwc par amt held clos seW seS leW leS) [(0, .ref b), (1, .ref (ad 0)), (2, .int x2), (4, .int x4), (5, .int x5), (7, .int x7), (8, .int x8), (9, .int x9), (10, .int x10)] k9 s9 [.int s0] 629 := by
  refine g_istore_n (pc' := 630) (lv' := [(3, .int s0), (0, .ref b), (1, .ref (ad 0)), (2, .int x2), (4, .int x4), (5, .int x5), (7, .int x7), (8, .int x8), (9, .int x9), (10, .int x10)]) C dL_law_629 rfl rfl (by decide) rfl ?_
  refine g_goto (tgt := 969) C dL_law_630 (by decide) ?_
  refine g_sub (lv' := [(0, .ref b), (1, .ref (ad 0)), (2, .int x2), (3, .int s0), (4, .int x4), (5, .int x5), (7, .int x7), (8, .int x8), (9, .int x9), (10, .int x10)]) [1, 2, 3, 0, 4, 5, 6, 7, 8, 9] rfl ?_
  exact wvL_law_J969 hfl C hX hbl hbA hR RT hK68 hkb hsb (by omega) (by omega) hv
def vL_law_J621 (seen : Int32) (cnt : Int32) (pwc : Int32) (par : Ar) (amt : Ar) (held : Ar) (clos : Ar) (seW : Ar) (seS : Ar) (leW : Ar) (leS : Ar) (x2 : Int32) (x4 : Int32) (x5 : Int32) (x7 : Int32) (x8 : Int32) (x9 : Int32) (x10 : Int32) (s0 : Int32) (s1 : Int32) (K68 : Int32 → Int32 → Int32 → Int32 → Int32 → Int32 → Ar → Ar → Ar → Ar → Ar → Ar → Ar → Ar → Prop) (xs : Nat → Int32) (L : Nat) : Prop := ((¬ s1 = s0 → (vL_law_J629 seen cnt pwc par amt held clos seW seS leW leS x2 x4 x5 x7 x8 x9 x10 (0 : Int32) K68 xs L)) ∧ (s1 = s0 → (vL_law_J629 seen cnt pwc par amt held clos seW seS leW leS x2 x4 x5 x7 x8 x9 x10 (1 : Int32) K68 xs L)))
set_option maxHeartbeats 4000000 in
set_option maxRecDepth 100000 in
theorem wvL_law_J621 {l : Launch} {γ : Gm} {κ : Kx} {ad : Nat → Nat} {seen : Int32} {cnt : Int32} {pwc : Int32} {par : Ar} {amt : Ar} {held : Ar} {clos : Ar} {seW : Ar} {seS : Ar} {leW : Ar} {leS : Ar} {x2 : Int32} {x4 : Int32} {x5 : Int32} {x7 : Int32} {x8 : Int32} {x9 : Int32} {x10 : Int32} {s0 : Int32} {s1 : Int32} {K68 : Int32 → Int32 → Int32 → Int32 → Int32 → Int32 → Ar → Ar → Ar → Ar → Ar → Ar → Ar → Ar → Prop} {xs : Nat → Int32} {b L : Nat} (hfl : l.stackTraces = false) (C : Ok γ κ cL_law 15 RL 11 412) (hX : va_X b L xs κ.s κ.s.heap) (hbl : b < κ.s.heap.size) (hbA : ¬ κ.A b) (hR : κ.R = room_1) (RT : RtL l γ κ) {kb sb : Nat} (hK68 : ∀ (x2 : Int32) (x3 : Int32) (x5 : Int32) (seen : Int32) (cnt : Int32) (pwc : Int32) (par : Ar) (amt : Ar) (held : Ar) (clos : Ar) (seW : Ar) (seS : Ar) (leW : Ar) (leS : Ar) (k9 s9 : Nat), k9 ≤ kb → s9 ≤ sb → K68 x2 x3 x5 seen cnt pwc par amt held clos seW seS leW leS → G l γ κ (wB γ ad seen cnt pwc par amt held clos seW seS leW leS) [(0, .ref b), (1, .ref (ad 0)), (2, .int x2), (3, .int x3), (4, .int x4), (5, .int x5)] k9 s9 [] 68) {k9 s9 : Nat} (hkb : kb ≤ 115) (hsb : sb ≤ 2312) (hk : k9 + 0 ≤ kb) (hs : s9 + 0 ≤ sb) (hv : vL_law_J621 seen cnt pwc par amt held clos seW seS leW leS x2 x4 x5 x7 x8 x9 x10 s0 s1 K68 xs L) : G l γ κ (wB γ ad seen cnt pwc par amt held clos seW seS leW leS) [(0, .ref b), (1, .ref (ad 0)), (2, .int x2), (4, .int x4), (5, .int x5), (7, .int x7), (8, .int x8), (9, .int x9), (10, .int x10)] k9 s9 [.int s0, .int s1] 621 := by
  obtain ⟨hv1, hv2⟩ := hv
  refine g_icmp_ne (pc' := 624) (tgt := 628) C dL_law_621 rfl (by decide) (fun c => ?_) (fun c => ?_)
  · have hv := hv1 c
    refine g_iconst (pc' := 629) (v := (0 : Int32)) C dL_law_628 rfl (by decide) ?_
    exact wvL_law_J629 hfl C hX hbl hbA hR RT hK68 hkb hsb (by omega) (by omega) hv
  · have hv := hv2 c
    refine g_iconst (pc' := 625) (v := (1 : Int32)) C dL_law_624 rfl (by decide) ?_
    refine g_goto (tgt := 629) C dL_law_625 (by decide) ?_
    exact wvL_law_J629 hfl C hX hbl hbA hR RT hK68 hkb hsb (by omega) (by omega) hv
def vL_law_J682 (seen : Int32) (cnt : Int32) (pwc : Int32) (par : Ar) (amt : Ar) (held : Ar) (clos : Ar) (seW : Ar) (seS : Ar) (leW : Ar) (leS : Ar) (x2 : Int32) (x4 : Int32) (x5 : Int32) (x7 : Int32) (x8 : Int32) (x9 : Int32) (x10 : Int32) (s0 : Int32) (K68 : Int32 → Int32 → Int32 → Int32 → Int32 → Int32 → Ar → Ar → Ar → Ar → Ar → Ar → Ar → Ar → Prop) (xs : Nat → Int32) (L : Nat) : Prop := (vL_law_J969 seen cnt pwc par amt held clos seW seS leW leS x2 s0 x4 x5 x7 x8 x9 x10 K68 xs L)
set_option maxHeartbeats 4000000 in
set_option maxRecDepth 100000 in
theorem wvL_law_J682 {l : Launch} {γ : Gm} {κ : Kx} {ad : Nat → Nat} {seen : Int32} {cnt : Int32} {pwc : Int32} {par : Ar} {amt : Ar} {held : Ar} {clos : Ar} {seW : Ar} {seS : Ar} {leW : Ar} {leS : Ar} {x2 : Int32} {x4 : Int32} {x5 : Int32} {x7 : Int32} {x8 : Int32} {x9 : Int32} {x10 : Int32} {s0 : Int32} {K68 : Int32 → Int32 → Int32 → Int32 → Int32 → Int32 → Ar → Ar → Ar → Ar → Ar → Ar → Ar → Ar → Prop} {xs : Nat → Int32} {b L : Nat} (hfl : l.stackTraces = false) (C : Ok γ κ cL_law 15 RL 11 412) (hX : va_X b L xs κ.s κ.s.heap) (hbl : b < κ.s.heap.size) (hbA : ¬ κ.A b) (hR : κ.R = room_1) (RT : RtL l γ κ) {kb sb : Nat} (hK68 : ∀ (x2 : Int32) (x3 : Int32) (x5 : Int32) (seen : Int32) (cnt : Int32) (pwc : Int32) (par : Ar) (amt : Ar) (held : Ar) (clos : Ar) (seW : Ar) (seS : Ar) (leW : Ar) (leS : Ar) (k9 s9 : Nat), k9 ≤ kb → s9 ≤ sb → K68 x2 x3 x5 seen cnt pwc par amt held clos seW seS leW leS → G l γ κ (wB γ ad seen cnt pwc par amt held clos seW seS leW leS) [(0, .ref b), (1, .ref (ad 0)), (2, .int x2), (3, .int x3), (4, .int x4), (5, .int x5)] k9 s9 [] 68) {k9 s9 : Nat} (hkb : kb ≤ 115) (hsb : sb ≤ 2312) (hk : k9 + 0 ≤ kb) (hs : s9 + 0 ≤ sb) (hv : vL_law_J682 seen cnt pwc par amt held clos seW seS leW leS x2 x4 x5 x7 x8 x9 x10 s0 K68 xs L) : G l γ κ (wB γ ad seen cnt pwc par amt held clos seW seS leW leS) [(0, .ref b), (1, .ref (ad 0)), (2, .int x2), (4, .int x4), (5, .int x5), (7, .int x7), (8, .int x8), (9, .int x9), (10, .int x10)] k9 s9 [.int s0] 682 := by
  refine g_istore_n (pc' := 683) (lv' := [(3, .int s0), (0, .ref b), (1, .ref (ad 0)), (2, .int x2), (4, .int x4), (5, .int x5), (7, .int x7), (8, .int x8), (9, .int x9), (10, .int x10)]) C dL_law_682 rfl rfl (by decide) rfl ?_
  refine g_goto (tgt := 969) C dL_law_683 (by decide) ?_
  refine g_sub (lv' := [(0, .ref b), (1, .ref (ad 0)), (2, .int x2), (3, .int s0), (4, .int x4), (5, .int x5), (7, .int x7), (8, .int x8), (9, .int x9), (10, .int x10)]) [1, 2, 3, 0, 4, 5, 6, 7, 8, 9] rfl ?_
  exact wvL_law_J969 hfl C hX hbl hbA hR RT hK68 hkb hsb (by omega) (by omega) hv
def vL_law_J765 (seen : Int32) (cnt : Int32) (pwc : Int32) (par : Ar) (amt : Ar) (held : Ar) (clos : Ar) (seW : Ar) (seS : Ar) (leW : Ar) (leS : Ar) (x2 : Int32) (x4 : Int32) (x5 : Int32) (x7 : Int32) (x8 : Int32) (x9 : Int32) (x10 : Int32) (s0 : Int32) (K68 : Int32 → Int32 → Int32 → Int32 → Int32 → Int32 → Ar → Ar → Ar → Ar → Ar → Ar → Ar → Ar → Prop) (xs : Nat → Int32) (L : Nat) : Prop := (vL_law_J969 seen cnt pwc par amt held clos seW seS leW leS x2 s0 x4 x5 x7 x8 x9 x10 K68 xs L)
set_option maxHeartbeats 4000000 in
set_option maxRecDepth 100000 in
theorem wvL_law_J765 {l : Launch} {γ : Gm} {κ : Kx} {ad : Nat → Nat} {seen : Int32} {cnt : Int32} {pwc : Int32} {par : Ar} {amt : Ar} {held : Ar} {clos : Ar} {seW : Ar} {seS : Ar} {leW : Ar} {leS : Ar} {x2 : Int32} {x4 : Int32} {x5 : Int32} {x7 : Int32} {x8 : Int32} {x9 : Int32} {x10 : Int32} {s0 : Int32} {K68 : Int32 → Int32 → Int32 → Int32 → Int32 → Int32 → Ar → Ar → Ar → Ar → Ar → Ar → Ar → Ar → Prop} {xs : Nat → Int32} {b L : Nat} (hfl : l.stackTraces = false) (C : Ok γ κ cL_law 15 RL 11 412) (hX : va_X b L xs κ.s κ.s.heap) (hbl : b < κ.s.heap.size) (hbA : ¬ κ.A b) (hR : κ.R = room_1) (RT : RtL l γ κ) {kb sb : Nat} (hK68 : ∀ (x2 : Int32) (x3 : Int32) (x5 : Int32) (seen : Int32) (cnt : Int32) (pwc : Int32) (par : Ar) (amt : Ar) (held : Ar) (clos : Ar) (seW : Ar) (seS : Ar) (leW : Ar) (leS : Ar) (k9 s9 : Nat), k9 ≤ kb → s9 ≤ sb → K68 x2 x3 x5 seen cnt pwc par amt held clos seW seS leW leS → G l γ κ (wB γ ad seen cnt pwc par amt held clos seW seS leW leS) [(0, .ref b), (1, .ref (ad 0)), (2, .int x2), (3, .int x3), (4, .int x4), (5, .int x5)] k9 s9 [] 68) {k9 s9 : Nat} (hkb : kb ≤ 115) (hsb : sb ≤ 2312) (hk : k9 + 0 ≤ kb) (hs : s9 + 0 ≤ sb) (hv : vL_law_J765 seen cnt pwc par amt held clos seW seS leW leS x2 x4 x5 x7 x8 x9 x10 s0 K68 xs L) : G l γ κ (wB γ ad seen cnt pwc par amt held clos seW seS leW leS) [(0, .ref b), (1, .ref (ad 0)), (2, .int x2), (4, .int x4), (5, .int x5), (7, .int x7), (8, .int x8), (9, .int x9), (10, .int x10)] k9 s9 [.int s0] 765 := by
  refine g_istore_n (pc' := 766) (lv' := [(3, .int s0), (0, .ref b), (1, .ref (ad 0)), (2, .int x2), (4, .int x4), (5, .int x5), (7, .int x7), (8, .int x8), (9, .int x9), (10, .int x10)]) C dL_law_765 rfl rfl (by decide) rfl ?_
  refine g_goto (tgt := 969) C dL_law_766 (by decide) ?_
  refine g_sub (lv' := [(0, .ref b), (1, .ref (ad 0)), (2, .int x2), (3, .int s0), (4, .int x4), (5, .int x5), (7, .int x7), (8, .int x8), (9, .int x9), (10, .int x10)]) [1, 2, 3, 0, 4, 5, 6, 7, 8, 9] rfl ?_
  exact wvL_law_J969 hfl C hX hbl hbA hR RT hK68 hkb hsb (by omega) (by omega) hv
def vL_law_J760 (seen : Int32) (cnt : Int32) (pwc : Int32) (par : Ar) (amt : Ar) (held : Ar) (clos : Ar) (seW : Ar) (seS : Ar) (leW : Ar) (leS : Ar) (x2 : Int32) (x4 : Int32) (x5 : Int32) (x7 : Int32) (x8 : Int32) (x9 : Int32) (x10 : Int32) (K68 : Int32 → Int32 → Int32 → Int32 → Int32 → Int32 → Ar → Ar → Ar → Ar → Ar → Ar → Ar → Ar → Prop) (xs : Nat → Int32) (L : Nat) : Prop := (vL_law_J765 seen cnt pwc par amt held clos seW seS leW leS x2 x4 x5 x7 x8 x9 x10 (1 : Int32) K68 xs L)
set_option maxHeartbeats 4000000 in
set_option maxRecDepth 100000 in
theorem wvL_law_J760 {l : Launch} {γ : Gm} {κ : Kx} {ad : Nat → Nat} {seen : Int32} {cnt : Int32} {pwc : Int32} {par : Ar} {amt : Ar} {held : Ar} {clos : Ar} {seW : Ar} {seS : Ar} {leW : Ar} {leS : Ar} {x2 : Int32} {x4 : Int32} {x5 : Int32} {x7 : Int32} {x8 : Int32} {x9 : Int32} {x10 : Int32} {K68 : Int32 → Int32 → Int32 → Int32 → Int32 → Int32 → Ar → Ar → Ar → Ar → Ar → Ar → Ar → Ar → Prop} {xs : Nat → Int32} {b L : Nat} (hfl : l.stackTraces = false) (C : Ok γ κ cL_law 15 RL 11 412) (hX : va_X b L xs κ.s κ.s.heap) (hbl : b < κ.s.heap.size) (hbA : ¬ κ.A b) (hR : κ.R = room_1) (RT : RtL l γ κ) {kb sb : Nat} (hK68 : ∀ (x2 : Int32) (x3 : Int32) (x5 : Int32) (seen : Int32) (cnt : Int32) (pwc : Int32) (par : Ar) (amt : Ar) (held : Ar) (clos : Ar) (seW : Ar) (seS : Ar) (leW : Ar) (leS : Ar) (k9 s9 : Nat), k9 ≤ kb → s9 ≤ sb → K68 x2 x3 x5 seen cnt pwc par amt held clos seW seS leW leS → G l γ κ (wB γ ad seen cnt pwc par amt held clos seW seS leW leS) [(0, .ref b), (1, .ref (ad 0)), (2, .int x2), (3, .int x3), (4, .int x4), (5, .int x5)] k9 s9 [] 68) {k9 s9 : Nat} (hkb : kb ≤ 115) (hsb : sb ≤ 2312) (hk : k9 + 0 ≤ kb) (hs : s9 + 0 ≤ sb) (hv : vL_law_J760 seen cnt pwc par amt held clos seW seS leW leS x2 x4 x5 x7 x8 x9 x10 K68 xs L) : G l γ κ (wB γ ad seen cnt pwc par amt held clos seW seS leW leS) [(0, .ref b), (1, .ref (ad 0)), (2, .int x2), (4, .int x4), (5, .int x5), (7, .int x7), (8, .int x8), (9, .int x9), (10, .int x10)] k9 s9 [] 760 := by
  refine g_iconst (pc' := 761) (v := (1 : Int32)) C dL_law_760 rfl (by decide) ?_
  refine g_goto (tgt := 765) C dL_law_761 (by decide) ?_
  exact wvL_law_J765 hfl C hX hbl hbA hR RT hK68 hkb hsb (by omega) (by omega) hv
def vL_law_J764 (seen : Int32) (cnt : Int32) (pwc : Int32) (par : Ar) (amt : Ar) (held : Ar) (clos : Ar) (seW : Ar) (seS : Ar) (leW : Ar) (leS : Ar) (x2 : Int32) (x4 : Int32) (x5 : Int32) (x7 : Int32) (x8 : Int32) (x9 : Int32) (x10 : Int32) (K68 : Int32 → Int32 → Int32 → Int32 → Int32 → Int32 → Ar → Ar → Ar → Ar → Ar → Ar → Ar → Ar → Prop) (xs : Nat → Int32) (L : Nat) : Prop := (vL_law_J765 seen cnt pwc par amt held clos seW seS leW leS x2 x4 x5 x7 x8 x9 x10 (0 : Int32) K68 xs L)
set_option maxHeartbeats 4000000 in
set_option maxRecDepth 100000 in
theorem wvL_law_J764 {l : Launch} {γ : Gm} {κ : Kx} {ad : Nat → Nat} {seen : Int32} {cnt : Int32} {pwc : Int32} {par : Ar} {amt : Ar} {held : Ar} {clos : Ar} {seW : Ar} {seS : Ar} {leW : Ar} {leS : Ar} {x2 : Int32} {x4 : Int32} {x5 : Int32} {x7 : Int32} {x8 : Int32} {x9 : Int32} {x10 : Int32} {K68 : Int32 → Int32 → Int32 → Int32 → Int32 → Int32 → Ar → Ar → Ar → Ar → Ar → Ar → Ar → Ar → Prop} {xs : Nat → Int32} {b L : Nat} (hfl : l.stackTraces = false) (C : Ok γ κ cL_law 15 RL 11 412) (hX : va_X b L xs κ.s κ.s.heap) (hbl : b < κ.s.heap.size) (hbA : ¬ κ.A b) (hR : κ.R = room_1) (RT : RtL l γ κ) {kb sb : Nat} (hK68 : ∀ (x2 : Int32) (x3 : Int32) (x5 : Int32) (seen : Int32) (cnt : Int32) (pwc : Int32) (par : Ar) (amt : Ar) (held : Ar) (clos : Ar) (seW : Ar) (seS : Ar) (leW : Ar) (leS : Ar) (k9 s9 : Nat), k9 ≤ kb → s9 ≤ sb → K68 x2 x3 x5 seen cnt pwc par amt held clos seW seS leW leS → G l γ κ (wB γ ad seen cnt pwc par amt held clos seW seS leW leS) [(0, .ref b), (1, .ref (ad 0)), (2, .int x2), (3, .int x3), (4, .int x4), (5, .int x5)] k9 s9 [] 68) {k9 s9 : Nat} (hkb : kb ≤ 115) (hsb : sb ≤ 2312) (hk : k9 + 0 ≤ kb) (hs : s9 + 0 ≤ sb) (hv : vL_law_J764 seen cnt pwc par amt held clos seW seS leW leS x2 x4 x5 x7 x8 x9 x10 K68 xs L) : G l γ κ (wB γ ad seen cnt pwc par amt held clos seW seS leW leS) [(0, .ref b), (1, .ref (ad 0)), (2, .int x2), (4, .int x4), (5, .int x5), (7, .int x7), (8, .int x8), (9, .int x9), (10, .int x10)] k9 s9 [] 764 := by
  refine g_iconst (pc' := 765) (v := (0 : Int32)) C dL_law_764 rfl (by decide) ?_
  exact wvL_law_J765 hfl C hX hbl hbA hR RT hK68 hkb hsb (by omega) (by omega) hv
def vL_law_J820 (seen : Int32) (cnt : Int32) (pwc : Int32) (par : Ar) (amt : Ar) (held : Ar) (clos : Ar) (seW : Ar) (seS : Ar) (leW : Ar) (leS : Ar) (x2 : Int32) (x4 : Int32) (x5 : Int32) (x7 : Int32) (x8 : Int32) (x9 : Int32) (x10 : Int32) (s0 : Int32) (K68 : Int32 → Int32 → Int32 → Int32 → Int32 → Int32 → Ar → Ar → Ar → Ar → Ar → Ar → Ar → Ar → Prop) (xs : Nat → Int32) (L : Nat) : Prop := (vL_law_J969 seen cnt pwc par amt held clos seW seS leW leS x2 s0 x4 x5 x7 x8 x9 x10 K68 xs L)
set_option maxHeartbeats 4000000 in
set_option maxRecDepth 100000 in
theorem wvL_law_J820 {l : Launch} {γ : Gm} {κ : Kx} {ad : Nat → Nat} {seen : Int32} {cnt : Int32} {pwc : Int32} {par : Ar} {amt : Ar} {held : Ar} {clos : Ar} {seW : Ar} {seS : Ar} {leW : Ar} {leS : Ar} {x2 : Int32} {x4 : Int32} {x5 : Int32} {x7 : Int32} {x8 : Int32} {x9 : Int32} {x10 : Int32} {s0 : Int32} {K68 : Int32 → Int32 → Int32 → Int32 → Int32 → Int32 → Ar → Ar → Ar → Ar → Ar → Ar → Ar → Ar → Prop} {xs : Nat → Int32} {b L : Nat} (hfl : l.stackTraces = false) (C : Ok γ κ cL_law 15 RL 11 412) (hX : va_X b L xs κ.s κ.s.heap) (hbl : b < κ.s.heap.size) (hbA : ¬ κ.A b) (hR : κ.R = room_1) (RT : RtL l γ κ) {kb sb : Nat} (hK68 : ∀ (x2 : Int32) (x3 : Int32) (x5 : Int32) (seen : Int32) (cnt : Int32) (pwc : Int32) (par : Ar) (amt : Ar) (held : Ar) (clos : Ar) (seW : Ar) (seS : Ar) (leW : Ar) (leS : Ar) (k9 s9 : Nat), k9 ≤ kb → s9 ≤ sb → K68 x2 x3 x5 seen cnt pwc par amt held clos seW seS leW leS → G l γ κ (wB γ ad seen cnt pwc par amt held clos seW seS leW leS) [(0, .ref b), (1, .ref (ad 0)), (2, .int x2), (3, .int x3), (4, .int x4), (5, .int x5)] k9 s9 [] 68) {k9 s9 : Nat} (hkb : kb ≤ 115) (hsb : sb ≤ 2312) (hk : k9 + 0 ≤ kb) (hs : s9 + 0 ≤ sb) (hv : vL_law_J820 seen cnt pwc par amt held clos seW seS leW leS x2 x4 x5 x7 x8 x9 x10 s0 K68 xs L) : G l γ κ (wB γ ad seen cnt pwc par amt held clos seW seS leW leS) [(0, .ref b), (1, .ref (ad 0)), (2, .int x2), (4, .int x4), (5, .int x5), (7, .int x7), (8, .int x8), (9, .int x9), (10, .int x10)] k9 s9 [.int s0] 820 := by
  refine g_istore_n (pc' := 821) (lv' := [(3, .int s0), (0, .ref b), (1, .ref (ad 0)), (2, .int x2), (4, .int x4), (5, .int x5), (7, .int x7), (8, .int x8), (9, .int x9), (10, .int x10)]) C dL_law_820 rfl rfl (by decide) rfl ?_
  refine g_goto (tgt := 969) C dL_law_821 (by decide) ?_
  refine g_sub (lv' := [(0, .ref b), (1, .ref (ad 0)), (2, .int x2), (3, .int s0), (4, .int x4), (5, .int x5), (7, .int x7), (8, .int x8), (9, .int x9), (10, .int x10)]) [1, 2, 3, 0, 4, 5, 6, 7, 8, 9] rfl ?_
  exact wvL_law_J969 hfl C hX hbl hbA hR RT hK68 hkb hsb (by omega) (by omega) hv
def vL_law_J819 (seen : Int32) (cnt : Int32) (pwc : Int32) (par : Ar) (amt : Ar) (held : Ar) (clos : Ar) (seW : Ar) (seS : Ar) (leW : Ar) (leS : Ar) (x2 : Int32) (x4 : Int32) (x5 : Int32) (x7 : Int32) (x8 : Int32) (x9 : Int32) (x10 : Int32) (K68 : Int32 → Int32 → Int32 → Int32 → Int32 → Int32 → Ar → Ar → Ar → Ar → Ar → Ar → Ar → Ar → Prop) (xs : Nat → Int32) (L : Nat) : Prop := (vL_law_J820 seen cnt pwc par amt held clos seW seS leW leS x2 x4 x5 x7 x8 x9 x10 (0 : Int32) K68 xs L)
set_option maxHeartbeats 4000000 in
set_option maxRecDepth 100000 in
theorem wvL_law_J819 {l : Launch} {γ : Gm} {κ : Kx} {ad : Nat → Nat} {seen : Int32} {cnt : Int32} {pwc : Int32} {par : Ar} {amt : Ar} {held : Ar} {clos : Ar} {seW : Ar} {seS : Ar} {leW : Ar} {leS : Ar} {x2 : Int32} {x4 : Int32} {x5 : Int32} {x7 : Int32} {x8 : Int32} {x9 : Int32} {x10 : Int32} {K68 : Int32 → Int32 → Int32 → Int32 → Int32 → Int32 → Ar → Ar → Ar → Ar → Ar → Ar → Ar → Ar → Prop} {xs : Nat → Int32} {b L : Nat} (hfl : l.stackTraces = false) (C : Ok γ κ cL_law 15 RL 11 412) (hX : va_X b L xs κ.s κ.s.heap) (hbl : b < κ.s.heap.size) (hbA : ¬ κ.A b) (hR : κ.R = room_1) (RT : RtL l γ κ) {kb sb : Nat} (hK68 : ∀ (x2 : Int32) (x3 : Int32) (x5 : Int32) (seen : Int32) (cnt : Int32) (pwc : Int32) (par : Ar) (amt : Ar) (held : Ar) (clos : Ar) (seW : Ar) (seS : Ar) (leW : Ar) (leS : Ar) (k9 s9 : Nat), k9 ≤ kb → s9 ≤ sb → K68 x2 x3 x5 seen cnt pwc par amt held clos seW seS leW leS → G l γ κ (wB γ ad seen cnt pwc par amt held clos seW seS leW leS) [(0, .ref b), (1, .ref (ad 0)), (2, .int x2), (3, .int x3), (4, .int x4), (5, .int x5)] k9 s9 [] 68) {k9 s9 : Nat} (hkb : kb ≤ 115) (hsb : sb ≤ 2312) (hk : k9 + 0 ≤ kb) (hs : s9 + 0 ≤ sb) (hv : vL_law_J819 seen cnt pwc par amt held clos seW seS leW leS x2 x4 x5 x7 x8 x9 x10 K68 xs L) : G l γ κ (wB γ ad seen cnt pwc par amt held clos seW seS leW leS) [(0, .ref b), (1, .ref (ad 0)), (2, .int x2), (4, .int x4), (5, .int x5), (7, .int x7), (8, .int x8), (9, .int x9), (10, .int x10)] k9 s9 [] 819 := by
  refine g_iconst (pc' := 820) (v := (0 : Int32)) C dL_law_819 rfl (by decide) ?_
  exact wvL_law_J820 hfl C hX hbl hbA hR RT hK68 hkb hsb (by omega) (by omega) hv
def vL_law_J858 (seen : Int32) (cnt : Int32) (pwc : Int32) (par : Ar) (amt : Ar) (held : Ar) (clos : Ar) (seW : Ar) (seS : Ar) (leW : Ar) (leS : Ar) (x2 : Int32) (x4 : Int32) (x5 : Int32) (x7 : Int32) (x8 : Int32) (x9 : Int32) (x10 : Int32) (s0 : Int32) (K68 : Int32 → Int32 → Int32 → Int32 → Int32 → Int32 → Ar → Ar → Ar → Ar → Ar → Ar → Ar → Ar → Prop) (xs : Nat → Int32) (L : Nat) : Prop := (vL_law_J969 seen cnt pwc par amt held clos seW seS leW leS x2 s0 x4 x5 x7 x8 x9 x10 K68 xs L)
set_option maxHeartbeats 4000000 in
set_option maxRecDepth 100000 in
theorem wvL_law_J858 {l : Launch} {γ : Gm} {κ : Kx} {ad : Nat → Nat} {seen : Int32} {cnt : Int32} {pwc : Int32} {par : Ar} {amt : Ar} {held : Ar} {clos : Ar} {seW : Ar} {seS : Ar} {leW : Ar} {leS : Ar} {x2 : Int32} {x4 : Int32} {x5 : Int32} {x7 : Int32} {x8 : Int32} {x9 : Int32} {x10 : Int32} {s0 : Int32} {K68 : Int32 → Int32 → Int32 → Int32 → Int32 → Int32 → Ar → Ar → Ar → Ar → Ar → Ar → Ar → Ar → Prop} {xs : Nat → Int32} {b L : Nat} (hfl : l.stackTraces = false) (C : Ok γ κ cL_law 15 RL 11 412) (hX : va_X b L xs κ.s κ.s.heap) (hbl : b < κ.s.heap.size) (hbA : ¬ κ.A b) (hR : κ.R = room_1) (RT : RtL l γ κ) {kb sb : Nat} (hK68 : ∀ (x2 : Int32) (x3 : Int32) (x5 : Int32) (seen : Int32) (cnt : Int32) (pwc : Int32) (par : Ar) (amt : Ar) (held : Ar) (clos : Ar) (seW : Ar) (seS : Ar) (leW : Ar) (leS : Ar) (k9 s9 : Nat), k9 ≤ kb → s9 ≤ sb → K68 x2 x3 x5 seen cnt pwc par amt held clos seW seS leW leS → G l γ κ (wB γ ad seen cnt pwc par amt held clos seW seS leW leS) [(0, .ref b), (1, .ref (ad 0)), (2, .int x2), (3, .int x3), (4, .int x4), (5, .int x5)] k9 s9 [] 68) {k9 s9 : Nat} (hkb : kb ≤ 115) (hsb : sb ≤ 2312) (hk : k9 + 0 ≤ kb) (hs : s9 + 0 ≤ sb) (hv : vL_law_J858 seen cnt pwc par amt held clos seW seS leW leS x2 x4 x5 x7 x8 x9 x10 s0 K68 xs L) : G l γ κ (wB γ ad seen cnt pwc par amt held clos seW seS leW leS) [(0, .ref b), (1, .ref (ad 0)), (2, .int x2), (4, .int x4), (5, .int x5), (7, .int x7), (8, .int x8), (9, .int x9), (10, .int x10)] k9 s9 [.int s0] 858 := by
  refine g_istore_n (pc' := 859) (lv' := [(3, .int s0), (0, .ref b), (1, .ref (ad 0)), (2, .int x2), (4, .int x4), (5, .int x5), (7, .int x7), (8, .int x8), (9, .int x9), (10, .int x10)]) C dL_law_858 rfl rfl (by decide) rfl ?_
  refine g_goto (tgt := 969) C dL_law_859 (by decide) ?_
  refine g_sub (lv' := [(0, .ref b), (1, .ref (ad 0)), (2, .int x2), (3, .int s0), (4, .int x4), (5, .int x5), (7, .int x7), (8, .int x8), (9, .int x9), (10, .int x10)]) [1, 2, 3, 0, 4, 5, 6, 7, 8, 9] rfl ?_
  exact wvL_law_J969 hfl C hX hbl hbA hR RT hK68 hkb hsb (by omega) (by omega) hv
def vL_law_J857 (seen : Int32) (cnt : Int32) (pwc : Int32) (par : Ar) (amt : Ar) (held : Ar) (clos : Ar) (seW : Ar) (seS : Ar) (leW : Ar) (leS : Ar) (x2 : Int32) (x4 : Int32) (x5 : Int32) (x7 : Int32) (x8 : Int32) (x9 : Int32) (x10 : Int32) (K68 : Int32 → Int32 → Int32 → Int32 → Int32 → Int32 → Ar → Ar → Ar → Ar → Ar → Ar → Ar → Ar → Prop) (xs : Nat → Int32) (L : Nat) : Prop := (vL_law_J858 seen cnt pwc par amt held clos seW seS leW leS x2 x4 x5 x7 x8 x9 x10 (0 : Int32) K68 xs L)
set_option maxHeartbeats 4000000 in
set_option maxRecDepth 100000 in
theorem wvL_law_J857 {l : Launch} {γ : Gm} {κ : Kx} {ad : Nat → Nat} {seen : Int32} {cnt : Int32} {pwc : Int32} {par : Ar} {amt : Ar} {held : Ar} {clos : Ar} {seW : Ar} {seS : Ar} {leW : Ar} {leS : Ar} {x2 : Int32} {x4 : Int32} {x5 : Int32} {x7 : Int32} {x8 : Int32} {x9 : Int32} {x10 : Int32} {K68 : Int32 → Int32 → Int32 → Int32 → Int32 → Int32 → Ar → Ar → Ar → Ar → Ar → Ar → Ar → Ar → Prop} {xs : Nat → Int32} {b L : Nat} (hfl : l.stackTraces = false) (C : Ok γ κ cL_law 15 RL 11 412) (hX : va_X b L xs κ.s κ.s.heap) (hbl : b < κ.s.heap.size) (hbA : ¬ κ.A b) (hR : κ.R = room_1) (RT : RtL l γ κ) {kb sb : Nat} (hK68 : ∀ (x2 : Int32) (x3 : Int32) (x5 : Int32) (seen : Int32) (cnt : Int32) (pwc : Int32) (par : Ar) (amt : Ar) (held : Ar) (clos : Ar) (seW : Ar) (seS : Ar) (leW : Ar) (leS : Ar) (k9 s9 : Nat), k9 ≤ kb → s9 ≤ sb → K68 x2 x3 x5 seen cnt pwc par amt held clos seW seS leW leS → G l γ κ (wB γ ad seen cnt pwc par amt held clos seW seS leW leS) [(0, .ref b), (1, .ref (ad 0)), (2, .int x2), (3, .int x3), (4, .int x4), (5, .int x5)] k9 s9 [] 68) {k9 s9 : Nat} (hkb : kb ≤ 115) (hsb : sb ≤ 2312) (hk : k9 + 0 ≤ kb) (hs : s9 + 0 ≤ sb) (hv : vL_law_J857 seen cnt pwc par amt held clos seW seS leW leS x2 x4 x5 x7 x8 x9 x10 K68 xs L) : G l γ κ (wB γ ad seen cnt pwc par amt held clos seW seS leW leS) [(0, .ref b), (1, .ref (ad 0)), (2, .int x2), (4, .int x4), (5, .int x5), (7, .int x7), (8, .int x8), (9, .int x9), (10, .int x10)] k9 s9 [] 857 := by
  refine g_iconst (pc' := 858) (v := (0 : Int32)) C dL_law_857 rfl (by decide) ?_
  exact wvL_law_J858 hfl C hX hbl hbA hR RT hK68 hkb hsb (by omega) (by omega) hv
def vL_law_J942 (seen : Int32) (cnt : Int32) (pwc : Int32) (par : Ar) (amt : Ar) (held : Ar) (clos : Ar) (seW : Ar) (seS : Ar) (leW : Ar) (leS : Ar) (x2 : Int32) (x4 : Int32) (x5 : Int32) (x7 : Int32) (x8 : Int32) (x9 : Int32) (x10 : Int32) (s0 : Int32) (K68 : Int32 → Int32 → Int32 → Int32 → Int32 → Int32 → Ar → Ar → Ar → Ar → Ar → Ar → Ar → Ar → Prop) (xs : Nat → Int32) (L : Nat) : Prop := (vL_law_J969 seen cnt pwc par amt held clos seW seS leW leS x2 s0 x4 x5 x7 x8 x9 x10 K68 xs L)
set_option maxHeartbeats 4000000 in
set_option maxRecDepth 100000 in
theorem wvL_law_J942 {l : Launch} {γ : Gm} {κ : Kx} {ad : Nat → Nat} {seen : Int32} {cnt : Int32} {pwc : Int32} {par : Ar} {amt : Ar} {held : Ar} {clos : Ar} {seW : Ar} {seS : Ar} {leW : Ar} {leS : Ar} {x2 : Int32} {x4 : Int32} {x5 : Int32} {x7 : Int32} {x8 : Int32} {x9 : Int32} {x10 : Int32} {s0 : Int32} {K68 : Int32 → Int32 → Int32 → Int32 → Int32 → Int32 → Ar → Ar → Ar → Ar → Ar → Ar → Ar → Ar → Prop} {xs : Nat → Int32} {b L : Nat} (hfl : l.stackTraces = false) (C : Ok γ κ cL_law 15 RL 11 412) (hX : va_X b L xs κ.s κ.s.heap) (hbl : b < κ.s.heap.size) (hbA : ¬ κ.A b) (hR : κ.R = room_1) (RT : RtL l γ κ) {kb sb : Nat} (hK68 : ∀ (x2 : Int32) (x3 : Int32) (x5 : Int32) (seen : Int32) (cnt : Int32) (pwc : Int32) (par : Ar) (amt : Ar) (held : Ar) (clos : Ar) (seW : Ar) (seS : Ar) (leW : Ar) (leS : Ar) (k9 s9 : Nat), k9 ≤ kb → s9 ≤ sb → K68 x2 x3 x5 seen cnt pwc par amt held clos seW seS leW leS → G l γ κ (wB γ ad seen cnt pwc par amt held clos seW seS leW leS) [(0, .ref b), (1, .ref (ad 0)), (2, .int x2), (3, .int x3), (4, .int x4), (5, .int x5)] k9 s9 [] 68) {k9 s9 : Nat} (hkb : kb ≤ 115) (hsb : sb ≤ 2312) (hk : k9 + 0 ≤ kb) (hs : s9 + 0 ≤ sb) (hv : vL_law_J942 seen cnt pwc par amt held clos seW seS leW leS x2 x4 x5 x7 x8 x9 x10 s0 K68 xs L) : G l γ κ (wB γ ad seen cnt pwc par amt held clos seW seS leW leS) [(0, .ref b), (1, .ref (ad 0)), (2, .int x2), (4, .int x4), (5, .int x5), (7, .int x7), (8, .int x8), (9, .int x9), (10, .int x10)] k9 s9 [.int s0] 942 := by
  refine g_istore_n (pc' := 943) (lv' := [(3, .int s0), (0, .ref b), (1, .ref (ad 0)), (2, .int x2), (4, .int x4), (5, .int x5), (7, .int x7), (8, .int x8), (9, .int x9), (10, .int x10)]) C dL_law_942 rfl rfl (by decide) rfl ?_
  refine g_goto (tgt := 969) C dL_law_943 (by decide) ?_
  refine g_sub (lv' := [(0, .ref b), (1, .ref (ad 0)), (2, .int x2), (3, .int s0), (4, .int x4), (5, .int x5), (7, .int x7), (8, .int x8), (9, .int x9), (10, .int x10)]) [1, 2, 3, 0, 4, 5, 6, 7, 8, 9] rfl ?_
  exact wvL_law_J969 hfl C hX hbl hbA hR RT hK68 hkb hsb (by omega) (by omega) hv
def vL_law_J937 (seen : Int32) (cnt : Int32) (pwc : Int32) (par : Ar) (amt : Ar) (held : Ar) (clos : Ar) (seW : Ar) (seS : Ar) (leW : Ar) (leS : Ar) (x2 : Int32) (x4 : Int32) (x5 : Int32) (x7 : Int32) (x8 : Int32) (x9 : Int32) (x10 : Int32) (K68 : Int32 → Int32 → Int32 → Int32 → Int32 → Int32 → Ar → Ar → Ar → Ar → Ar → Ar → Ar → Ar → Prop) (xs : Nat → Int32) (L : Nat) : Prop := (vL_law_J942 seen cnt pwc par amt held clos seW seS leW leS x2 x4 x5 x7 x8 x9 x10 (1 : Int32) K68 xs L)
set_option maxHeartbeats 4000000 in
set_option maxRecDepth 100000 in
theorem wvL_law_J937 {l : Launch} {γ : Gm} {κ : Kx} {ad : Nat → Nat} {seen : Int32} {cnt : Int32} {pwc : Int32} {par : Ar} {amt : Ar} {held : Ar} {clos : Ar} {seW : Ar} {seS : Ar} {leW : Ar} {leS : Ar} {x2 : Int32} {x4 : Int32} {x5 : Int32} {x7 : Int32} {x8 : Int32} {x9 : Int32} {x10 : Int32} {K68 : Int32 → Int32 → Int32 → Int32 → Int32 → Int32 → Ar → Ar → Ar → Ar → Ar → Ar → Ar → Ar → Prop} {xs : Nat → Int32} {b L : Nat} (hfl : l.stackTraces = false) (C : Ok γ κ cL_law 15 RL 11 412) (hX : va_X b L xs κ.s κ.s.heap) (hbl : b < κ.s.heap.size) (hbA : ¬ κ.A b) (hR : κ.R = room_1) (RT : RtL l γ κ) {kb sb : Nat} (hK68 : ∀ (x2 : Int32) (x3 : Int32) (x5 : Int32) (seen : Int32) (cnt : Int32) (pwc : Int32) (par : Ar) (amt : Ar) (held : Ar) (clos : Ar) (seW : Ar) (seS : Ar) (leW : Ar) (leS : Ar) (k9 s9 : Nat), k9 ≤ kb → s9 ≤ sb → K68 x2 x3 x5 seen cnt pwc par amt held clos seW seS leW leS → G l γ κ (wB γ ad seen cnt pwc par amt held clos seW seS leW leS) [(0, .ref b), (1, .ref (ad 0)), (2, .int x2), (3, .int x3), (4, .int x4), (5, .int x5)] k9 s9 [] 68) {k9 s9 : Nat} (hkb : kb ≤ 115) (hsb : sb ≤ 2312) (hk : k9 + 0 ≤ kb) (hs : s9 + 0 ≤ sb) (hv : vL_law_J937 seen cnt pwc par amt held clos seW seS leW leS x2 x4 x5 x7 x8 x9 x10 K68 xs L) : G l γ κ (wB γ ad seen cnt pwc par amt held clos seW seS leW leS) [(0, .ref b), (1, .ref (ad 0)), (2, .int x2), (4, .int x4), (5, .int x5), (7, .int x7), (8, .int x8), (9, .int x9), (10, .int x10)] k9 s9 [] 937 := by
  refine g_iconst (pc' := 938) (v := (1 : Int32)) C dL_law_937 rfl (by decide) ?_
  refine g_goto (tgt := 942) C dL_law_938 (by decide) ?_
  exact wvL_law_J942 hfl C hX hbl hbA hR RT hK68 hkb hsb (by omega) (by omega) hv
def vL_law_J968 (seen : Int32) (cnt : Int32) (pwc : Int32) (par : Ar) (amt : Ar) (held : Ar) (clos : Ar) (seW : Ar) (seS : Ar) (leW : Ar) (leS : Ar) (x2 : Int32) (x4 : Int32) (x5 : Int32) (x7 : Int32) (x8 : Int32) (x9 : Int32) (x10 : Int32) (s0 : Int32) (K68 : Int32 → Int32 → Int32 → Int32 → Int32 → Int32 → Ar → Ar → Ar → Ar → Ar → Ar → Ar → Ar → Prop) (xs : Nat → Int32) (L : Nat) : Prop := (vL_law_J969 seen cnt pwc par amt held clos seW seS leW leS x2 s0 x4 x5 x7 x8 x9 x10 K68 xs L)
set_option maxHeartbeats 4000000 in
set_option maxRecDepth 100000 in
theorem wvL_law_J968 {l : Launch} {γ : Gm} {κ : Kx} {ad : Nat → Nat} {seen : Int32} {cnt : Int32} {pwc : Int32} {par : Ar} {amt : Ar} {held : Ar} {clos : Ar} {seW : Ar} {seS : Ar} {leW : Ar} {leS : Ar} {x2 : Int32} {x4 : Int32} {x5 : Int32} {x7 : Int32} {x8 : Int32} {x9 : Int32} {x10 : Int32} {s0 : Int32} {K68 : Int32 → Int32 → Int32 → Int32 → Int32 → Int32 → Ar → Ar → Ar → Ar → Ar → Ar → Ar → Ar → Prop} {xs : Nat → Int32} {b L : Nat} (hfl : l.stackTraces = false) (C : Ok γ κ cL_law 15 RL 11 412) (hX : va_X b L xs κ.s κ.s.heap) (hbl : b < κ.s.heap.size) (hbA : ¬ κ.A b) (hR : κ.R = room_1) (RT : RtL l γ κ) {kb sb : Nat} (hK68 : ∀ (x2 : Int32) (x3 : Int32) (x5 : Int32) (seen : Int32) (cnt : Int32) (pwc : Int32) (par : Ar) (amt : Ar) (held : Ar) (clos : Ar) (seW : Ar) (seS : Ar) (leW : Ar) (leS : Ar) (k9 s9 : Nat), k9 ≤ kb → s9 ≤ sb → K68 x2 x3 x5 seen cnt pwc par amt held clos seW seS leW leS → G l γ κ (wB γ ad seen cnt pwc par amt held clos seW seS leW leS) [(0, .ref b), (1, .ref (ad 0)), (2, .int x2), (3, .int x3), (4, .int x4), (5, .int x5)] k9 s9 [] 68) {k9 s9 : Nat} (hkb : kb ≤ 115) (hsb : sb ≤ 2312) (hk : k9 + 0 ≤ kb) (hs : s9 + 0 ≤ sb) (hv : vL_law_J968 seen cnt pwc par amt held clos seW seS leW leS x2 x4 x5 x7 x8 x9 x10 s0 K68 xs L) : G l γ κ (wB γ ad seen cnt pwc par amt held clos seW seS leW leS) [(0, .ref b), (1, .ref (ad 0)), (2, .int x2), (4, .int x4), (5, .int x5), (7, .int x7), (8, .int x8), (9, .int x9), (10, .int x10)] k9 s9 [.int s0] 968 := by
  refine g_istore_n (pc' := 969) (lv' := [(3, .int s0), (0, .ref b), (1, .ref (ad 0)), (2, .int x2), (4, .int x4), (5, .int x5), (7, .int x7), (8, .int x8), (9, .int x9), (10, .int x10)]) C dL_law_968 rfl rfl (by decide) rfl ?_
  refine g_sub (lv' := [(0, .ref b), (1, .ref (ad 0)), (2, .int x2), (3, .int s0), (4, .int x4), (5, .int x5), (7, .int x7), (8, .int x8), (9, .int x9), (10, .int x10)]) [1, 2, 3, 0, 4, 5, 6, 7, 8, 9] rfl ?_
  exact wvL_law_J969 hfl C hX hbl hbA hR RT hK68 hkb hsb (by omega) (by omega) hv
def vL_law_J769 (seen : Int32) (cnt : Int32) (pwc : Int32) (par : Ar) (amt : Ar) (held : Ar) (clos : Ar) (seW : Ar) (seS : Ar) (leW : Ar) (leS : Ar) (x2 : Int32) (x3 : Int32) (x4 : Int32) (x5 : Int32) (x6 : Int32) (x7 : Int32) (x8 : Int32) (x9 : Int32) (x10 : Int32) (x11 : Int32) (K68 : Int32 → Int32 → Int32 → Int32 → Int32 → Int32 → Ar → Ar → Ar → Ar → Ar → Ar → Ar → Ar → Prop) (xs : Nat → Int32) (L : Nat) : Prop := (((17 : Int32) ≤ x11 → (((18 : Int32) ≤ x11 → (((19 : Int32) ≤ x11 → (((12 : Int32) ≤ x2 → (vL_law_J969 seen cnt pwc par amt held clos seW seS leW leS x2 x3 x4 x5 x7 x8 x9 x10 K68 xs L)) ∧ (¬ (12 : Int32) ≤ x2 → (vX3_closeMonth seen (fun r956 u956 => ((¬ r956 = (x2 + (1 : Int32)) → (vL_law_J968 u956 cnt pwc par amt held clos seW seS leW leS (x2 + (1 : Int32)) x4 x5 x7 x8 x9 x10 (0 : Int32) K68 xs L)) ∧ (r956 = (x2 + (1 : Int32)) → (vL_law_J968 u956 cnt pwc par amt held clos seW seS leW leS (x2 + (1 : Int32)) x4 x5 x7 x8 x9 x10 (1 : Int32) K68 xs L)))))))) ∧ (¬ (19 : Int32) ≤ x11 → (vL_low x6 (3 : Int32) (fun r875 => (vL_low (x6 >>> ((2 : Int32) &&& 31)) (1001 : Int32) (fun r887 => (vL_see cnt pwc amt x9 r875 x10 r887 (fun r890 u890 => ((r890 = (-3 : Int32) → (vL_law_J937 seen cnt pwc par u890 held clos seW seS leW leS x2 x4 x5 x7 x8 x9 x10 K68 xs L)) ∧ (¬ r890 = (-3 : Int32) → ((x2 ≤ x10 → (vL_law_J937 seen cnt pwc par u890 held clos seW seS leW leS x2 x4 x5 x7 x8 x9 x10 K68 xs L)) ∧ (¬ x2 ≤ x10 → (vL_low x6 (3 : Int32) (fun r916 => (vX3_outlook seen cnt pwc par u890 x7 x9 r916 x10 (fun r921 => (vL_low (x6 >>> ((2 : Int32) &&& 31)) (1001 : Int32) (fun r931 => ((¬ r921 = r931 → (vL_law_J942 seen cnt pwc par u890 held clos seW seS leW leS x2 x4 x5 x7 x8 x9 x10 (0 : Int32) K68 xs L)) ∧ (r921 = r931 → (vL_law_J937 seen cnt pwc par u890 held clos seW seS leW leS x2 x4 x5 x7 x8 x9 x10 K68 xs L)))))))))))))))))))))) ∧ (¬ (18 : Int32) ≤ x11 → (vX3_takeBack cnt pwc par clos x7 x9 (fun r836 u836 => ((r836 < (0 : Int32) → (vL_law_J857 seen cnt pwc par amt held u836 seW seS leW leS x2 x4 x5 x7 x8 x9 x10 K68 xs L)) ∧ (¬ r836 < (0 : Int32) → (vX3_takeBack cnt pwc par u836 x7 x9 (fun r847 u847 => ((¬ r847 = (0 : Int32) → (vL_law_J857 seen cnt pwc par amt held u847 seW seS leW leS x2 x4 x5 x7 x8 x9 x10 K68 xs L)) ∧ (r847 = (0 : Int32) → (vL_law_J858 seen cnt pwc par amt held u847 seW seS leW leS x2 x4 x5 x7 x8 x9 x10 (1 : Int32) K68 xs L)))))))))))) ∧ (¬ (17 : Int32) ≤ x11 → (vX3_handIn cnt pwc par clos x7 x9 (fun r781 u781 => ((r781 < (0 : Int32) → (vL_law_J819 seen cnt pwc par amt held u781 seW seS leW leS x2 x4 x5 x7 x8 x9 x10 K68 xs L)) ∧ (¬ r781 < (0 : Int32) → (vX3_handIn cnt pwc par u781 x7 x9 (fun r792 u792 => ((¬ r792 = (0 : Int32) → (vL_law_J819 seen cnt pwc par amt held u792 seW seS leW leS x2 x4 x5 x7 x8 x9 x10 K68 xs L)) ∧ (r792 = (0 : Int32) → (vL_set cnt pwc amt u792 x7 x9 (0 : Int32) x10 (1 : Int32) (fun r807 u807 => ((¬ r807 = (-3 : Int32) → (vL_law_J819 seen cnt pwc par u807 held u792 seW seS leW leS x2 x4 x5 x7 x8 x9 x10 K68 xs L)) ∧ (r807 = (-3 : Int32) → (vL_law_J820 seen cnt pwc par u807 held u792 seW seS leW leS x2 x4 x5 x7 x8 x9 x10 (1 : Int32) K68 xs L)))))))))))))))
set_option maxHeartbeats 4000000 in
set_option maxRecDepth 100000 in
theorem wvL_law_J769 {l : Launch} {γ : Gm} {κ : Kx} {ad : Nat → Nat} {seen : Int32} {cnt : Int32} {pwc : Int32} {par : Ar} {amt : Ar} {held : Ar} {clos : Ar} {seW : Ar} {seS : Ar} {leW : Ar} {leS : Ar} {x2 : Int32} {x3 : Int32} {x4 : Int32} {x5 : Int32} {x6 : Int32} {x7 : Int32} {x8 : Int32} {x9 : Int32} {x10 : Int32} {x11 : Int32} {K68 : Int32 → Int32 → Int32 → Int32 → Int32 → Int32 → Ar → Ar → Ar → Ar → Ar → Ar → Ar → Ar → Prop} {xs : Nat → Int32} {b L : Nat} (hfl : l.stackTraces = false) (C : Ok γ κ cL_law 15 RL 11 412) (hX : va_X b L xs κ.s κ.s.heap) (hbl : b < κ.s.heap.size) (hbA : ¬ κ.A b) (hR : κ.R = room_1) (RT : RtL l γ κ) {kb sb : Nat} (hK68 : ∀ (x2 : Int32) (x3 : Int32) (x5 : Int32) (seen : Int32) (cnt : Int32) (pwc : Int32) (par : Ar) (amt : Ar) (held : Ar) (clos : Ar) (seW : Ar) (seS : Ar) (leW : Ar) (leS : Ar) (k9 s9 : Nat), k9 ≤ kb → s9 ≤ sb → K68 x2 x3 x5 seen cnt pwc par amt held clos seW seS leW leS → G l γ κ (wB γ ad seen cnt pwc par amt held clos seW seS leW leS) [(0, .ref b), (1, .ref (ad 0)), (2, .int x2), (3, .int x3), (4, .int x4), (5, .int x5)] k9 s9 [] 68) {k9 s9 : Nat} (hkb : kb ≤ 115) (hsb : sb ≤ 2312) (hk : k9 + 1 ≤ kb) (hs : s9 + 6 ≤ sb) (hv : vL_law_J769 seen cnt pwc par amt held clos seW seS leW leS x2 x3 x4 x5 x6 x7 x8 x9 x10 x11 K68 xs L) : G l γ κ (wB γ ad seen cnt pwc par amt held clos seW seS leW leS) [(0, .ref b), (1, .ref (ad 0)), (2, .int x2), (3, .int x3), (4, .int x4), (5, .int x5), (6, .int x6), (7, .int x7), (8, .int x8), (9, .int x9), (10, .int x10), (11, .int x11)] k9 s9 [] 769 := by
  refine g_iload (pc' := 771) C dL_law_769 rfl rfl ?_
  refine g_bipush (pc' := 773) (v := (17 : Int32)) C dL_law_771 rfl (by decide) ?_
  obtain ⟨hv1, hv2⟩ := hv
  refine g_icmp_ge (pc' := 776) (tgt := 824) C dL_law_773 rfl (by decide) (fun c => ?_) (fun c => ?_)
  · have hv := hv1 c
    refine g_iload (pc' := 826) C dL_law_824 rfl rfl ?_
    refine g_bipush (pc' := 828) (v := (18 : Int32)) C dL_law_826 rfl (by decide) ?_
    obtain ⟨hv1, hv2⟩ := hv
    refine g_icmp_ge (pc' := 831) (tgt := 862) C dL_law_828 rfl (by decide) (fun c => ?_) (fun c => ?_)
    · have hv := hv1 c
      refine g_iload (pc' := 864) C dL_law_862 rfl rfl ?_
      refine g_bipush (pc' := 866) (v := (19 : Int32)) C dL_law_864 rfl (by decide) ?_
      obtain ⟨hv1, hv2⟩ := hv
      refine g_icmp_ge (pc' := 869) (tgt := 946) C dL_law_866 rfl (by decide) (fun c => ?_) (fun c => ?_)
      · have hv := hv1 c
        refine g_iload_n (pc' := 947) C dL_law_946 rfl rfl rfl ?_
        refine g_bipush (pc' := 949) (v := (12 : Int32)) C dL_law_947 rfl (by decide) ?_
        obtain ⟨hv1, hv2⟩ := hv
        refine g_icmp_ge (pc' := 952) (tgt := 969) C dL_law_949 rfl (by decide) (fun c => ?_) (fun c => ?_)
        · have hv := hv1 c
          refine g_sub (lv' := [(0, .ref b), (1, .ref (ad 0)), (2, .int x2), (3, .int x3), (4, .int x4), (5, .int x5), (7, .int x7), (8, .int x8), (9, .int x9), (10, .int x10)]) [0, 1, 2, 3, 4, 5, 7, 8, 9, 10] rfl ?_
          exact wvL_law_J969 hfl C hX hbl hbA hR RT hK68 hkb hsb (by omega) (by omega) hv
        · have hv := hv2 c
          refine g_iinc (pc' := 955) (v := (x2 + (1 : Int32))) (lv' := [(2, .int (x2 + (1 : Int32))), (0, .ref b), (1, .ref (ad 0)), (3, .int x3), (4, .int x4), (5, .int x5), (6, .int x6), (7, .int x7), (8, .int x8), (9, .int x9), (10, .int x10), (11, .int x11)]) C dL_law_952 rfl rfl rfl (by decide) rfl ?_
          refine g_aload_n (pc' := 956) C dL_law_955 rfl rfl rfl ?_
          refine cfI (pc' := 959) C (run_VI (rest := []) C lk_L_111 (mtX3_closeMonth hv) ⟨by decide, by decide⟩ rfl rfl rfl rfl (Nat.le_of_ble_eq_true rfl) ⟨by rw [hR]; show _ ≤ 115; omega, by rw [hR]; show _ ≤ 2312; omega⟩ dL_law_956) rfl [0, 1, 2, 3, 4, 5, 6, 7, 8, 9, 10, 11, 12] [] [0, 1, 2, 3, 4, 5, 6, 7, 8, 9, 10, 11, 12] nd_LB di_LB (fun u956 => wB γ ad u956 cnt pwc par amt held clos seW seS leW leS) rfl rfl (fun _ => rfl) (fun r956 u956 hv => ?_)
          refine g_iload_n (pc' := 960) C dL_law_959 rfl rfl rfl ?_
          obtain ⟨hv1, hv2⟩ := hv
          refine g_icmp_ne (pc' := 963) (tgt := 967) C dL_law_960 rfl (by decide) (fun c => ?_) (fun c => ?_)
          · have hv := hv1 c
            refine g_iconst (pc' := 968) (v := (0 : Int32)) C dL_law_967 rfl (by decide) ?_
            refine g_sub (lv' := [(0, .ref b), (1, .ref (ad 0)), (2, .int (x2 + (1 : Int32))), (4, .int x4), (5, .int x5), (7, .int x7), (8, .int x8), (9, .int x9), (10, .int x10)]) [1, 2, 0, 4, 5, 7, 8, 9, 10] rfl ?_
            exact wvL_law_J968 hfl C hX hbl hbA hR RT hK68 hkb hsb (by omega) (by omega) hv
          · have hv := hv2 c
            refine g_iconst (pc' := 964) (v := (1 : Int32)) C dL_law_963 rfl (by decide) ?_
            refine g_goto (tgt := 968) C dL_law_964 (by decide) ?_
            refine g_sub (lv' := [(0, .ref b), (1, .ref (ad 0)), (2, .int (x2 + (1 : Int32))), (4, .int x4), (5, .int x5), (7, .int x7), (8, .int x8), (9, .int x9), (10, .int x10)]) [1, 2, 0, 4, 5, 7, 8, 9, 10] rfl ?_
            exact wvL_law_J968 hfl C hX hbl hbA hR RT hK68 hkb hsb (by omega) (by omega) hv
      · have hv := hv2 c
        refine g_aload_n (pc' := 870) C dL_law_869 rfl rfl rfl ?_
        refine g_iload (pc' := 872) C dL_law_870 rfl rfl ?_
        refine g_iload (pc' := 874) C dL_law_872 rfl rfl ?_
        refine g_iconst (pc' := 875) (v := (3 : Int32)) C dL_law_874 rfl (by decide) ?_
        refine cfI (pc' := 878) C (run_SI (rest := [.int x9, .ref (ad 0)]) C lk_L_66 (mtL_low hv) ⟨by decide, by decide⟩ rfl rfl (Nat.le_of_ble_eq_true rfl) ⟨by rw [hR]; show _ ≤ 115; omega, by rw [hR]; show _ ≤ 2312; omega⟩ dL_law_875) rfl [0, 1, 2, 3, 4, 5, 6, 7, 8, 9, 10, 11, 12] [] [0, 1, 2, 3, 4, 5, 6, 7, 8, 9, 10, 11, 12] nd_LH di_LH (fun u875 => wB γ ad seen cnt pwc par amt held clos seW seS leW leS) rfl rfl (fun _ => rfl) (fun r875 u875 hv => ?_)
        refine g_iload (pc' := 880) C dL_law_878 rfl rfl ?_
        refine g_iload (pc' := 882) C dL_law_880 rfl rfl ?_
        refine g_iconst (pc' := 883) (v := (2 : Int32)) C dL_law_882 rfl (by decide) ?_
        refine g_ishr (pc' := 884) C dL_law_883 rfl ?_
        refine g_sipush (pc' := 887) (v := (1001 : Int32)) C dL_law_884 rfl (by decide) ?_
        refine cfI (pc' := 890) C (run_SI (rest := [.int x10, .int r875, .int x9, .ref (ad 0)]) C lk_L_66 (mtL_low hv) ⟨by decide, by decide⟩ rfl rfl (Nat.le_of_ble_eq_true rfl) ⟨by rw [hR]; show _ ≤ 115; omega, by rw [hR]; show _ ≤ 2312; omega⟩ dL_law_887) rfl [0, 1, 2, 3, 4, 5, 6, 7, 8, 9, 10, 11, 12] [] [0, 1, 2, 3, 4, 5, 6, 7, 8, 9, 10, 11, 12] nd_LH di_LH (fun u887 => wB γ ad seen cnt pwc par amt held clos seW seS leW leS) rfl rfl (fun _ => rfl) (fun r887 u887 hv => ?_)
        refine cfH (pc' := 893) C (run_SH (rest := []) C lk_L_105 (mtL_see hfl hv) ⟨by decide, by decide⟩ rfl rfl (Nat.le_of_ble_eq_true rfl) ⟨by rw [hR]; show _ ≤ 115; omega, by rw [hR]; show _ ≤ 2312; omega⟩ dL_law_890) rfl [0, 1, 2, 3, 4, 5, 6, 7, 8, 9, 10, 11, 12] [] [0, 1, 2, 3, 4, 5, 6, 7, 8, 9, 10, 11, 12] nd_LH di_LH (fun u890 => wB γ ad seen cnt pwc par u890 held clos seW seS leW leS) rfl rfl (fun _ => rfl) (fun r890 u890 hv => ?_)
        refine g_istore (pc' := 895) (lv' := [(12, .int r890), (0, .ref b), (1, .ref (ad 0)), (2, .int x2), (3, .int x3), (4, .int x4), (5, .int x5), (6, .int x6), (7, .int x7), (8, .int x8), (9, .int x9), (10, .int x10), (11, .int x11)]) C dL_law_893 rfl (by decide) rfl ?_
        refine g_iload (pc' := 897) C dL_law_895 rfl rfl ?_
        refine g_bipush (pc' := 899) (v := (-3 : Int32)) C dL_law_897 rfl (by decide) ?_
        obtain ⟨hv1, hv2⟩ := hv
        refine g_icmp_eq (pc' := 902) (tgt := 937) C dL_law_899 rfl (by decide) (fun c => ?_) (fun c => ?_)
        · have hv := hv1 c
          refine g_sub (lv' := [(0, .ref b), (1, .ref (ad 0)), (2, .int x2), (4, .int x4), (5, .int x5), (7, .int x7), (8, .int x8), (9, .int x9), (10, .int x10)]) [1, 2, 3, 5, 6, 8, 9, 10, 11] rfl ?_
          exact wvL_law_J937 hfl C hX hbl hbA hR RT hK68 hkb hsb (by omega) (by omega) hv
        · have hv := hv2 c
          refine g_iload (pc' := 904) C dL_law_902 rfl rfl ?_
          refine g_iload_n (pc' := 905) C dL_law_904 rfl rfl rfl ?_
          obtain ⟨hv1, hv2⟩ := hv
          refine g_icmp_ge (pc' := 908) (tgt := 937) C dL_law_905 rfl (by decide) (fun c => ?_) (fun c => ?_)
          · have hv := hv1 c
            refine g_sub (lv' := [(0, .ref b), (1, .ref (ad 0)), (2, .int x2), (4, .int x4), (5, .int x5), (7, .int x7), (8, .int x8), (9, .int x9), (10, .int x10)]) [1, 2, 3, 5, 6, 8, 9, 10, 11] rfl ?_
            exact wvL_law_J937 hfl C hX hbl hbA hR RT hK68 hkb hsb (by omega) (by omega) hv
          · have hv := hv2 c
            refine g_aload_n (pc' := 909) C dL_law_908 rfl rfl rfl ?_
            refine g_iload (pc' := 911) C dL_law_909 rfl rfl ?_
            refine g_iload (pc' := 913) C dL_law_911 rfl rfl ?_
            refine g_iload (pc' := 915) C dL_law_913 rfl rfl ?_
            refine g_iconst (pc' := 916) (v := (3 : Int32)) C dL_law_915 rfl (by decide) ?_
            refine cfI (pc' := 919) C (run_SI (rest := [.int x9, .int x7, .ref (ad 0)]) C lk_L_66 (mtL_low hv) ⟨by decide, by decide⟩ rfl rfl (Nat.le_of_ble_eq_true rfl) ⟨by rw [hR]; show _ ≤ 115; omega, by rw [hR]; show _ ≤ 2312; omega⟩ dL_law_916) rfl [0, 1, 2, 3, 4, 5, 6, 7, 8, 9, 10, 11, 12] [] [0, 1, 2, 3, 4, 5, 6, 7, 8, 9, 10, 11, 12] nd_LH di_LH (fun u916 => wB γ ad seen cnt pwc par u890 held clos seW seS leW leS) rfl rfl (fun _ => rfl) (fun r916 u916 hv => ?_)
            refine g_iload (pc' := 921) C dL_law_919 rfl rfl ?_
            refine cfI (pc' := 924) C (run_VI (rest := []) C lk_L_108 (mtX3_outlook hv) ⟨by decide, by decide⟩ rfl rfl rfl rfl (Nat.le_of_ble_eq_true rfl) ⟨by rw [hR]; show _ ≤ 115; omega, by rw [hR]; show _ ≤ 2312; omega⟩ dL_law_921) rfl [0, 1, 2, 3, 4, 5, 6, 7, 8, 9, 10, 11, 12] [] [0, 1, 2, 3, 4, 5, 6, 7, 8, 9, 10, 11, 12] nd_LB di_LB (fun u921 => wB γ ad seen cnt pwc par u890 held clos seW seS leW leS) rfl rfl (fun _ => rfl) (fun r921 u921 hv => ?_)
            refine g_iload (pc' := 926) C dL_law_924 rfl rfl ?_
            refine g_iconst (pc' := 927) (v := (2 : Int32)) C dL_law_926 rfl (by decide) ?_
            refine g_ishr (pc' := 928) C dL_law_927 rfl ?_
            refine g_sipush (pc' := 931) (v := (1001 : Int32)) C dL_law_928 rfl (by decide) ?_
            refine cfI (pc' := 934) C (run_SI (rest := [.int r921]) C lk_L_66 (mtL_low hv) ⟨by decide, by decide⟩ rfl rfl (Nat.le_of_ble_eq_true rfl) ⟨by rw [hR]; show _ ≤ 115; omega, by rw [hR]; show _ ≤ 2312; omega⟩ dL_law_931) rfl [0, 1, 2, 3, 4, 5, 6, 7, 8, 9, 10, 11, 12] [] [0, 1, 2, 3, 4, 5, 6, 7, 8, 9, 10, 11, 12] nd_LH di_LH (fun u931 => wB γ ad seen cnt pwc par u890 held clos seW seS leW leS) rfl rfl (fun _ => rfl) (fun r931 u931 hv => ?_)
            obtain ⟨hv1, hv2⟩ := hv
            refine g_icmp_ne (pc' := 937) (tgt := 941) C dL_law_934 rfl (by decide) (fun c => ?_) (fun c => ?_)
            · have hv := hv1 c
              refine g_iconst (pc' := 942) (v := (0 : Int32)) C dL_law_941 rfl (by decide) ?_
              refine g_sub (lv' := [(0, .ref b), (1, .ref (ad 0)), (2, .int x2), (4, .int x4), (5, .int x5), (7, .int x7), (8, .int x8), (9, .int x9), (10, .int x10)]) [1, 2, 3, 5, 6, 8, 9, 10, 11] rfl ?_
              exact wvL_law_J942 hfl C hX hbl hbA hR RT hK68 hkb hsb (by omega) (by omega) hv
            · have hv := hv2 c
              refine g_sub (lv' := [(0, .ref b), (1, .ref (ad 0)), (2, .int x2), (4, .int x4), (5, .int x5), (7, .int x7), (8, .int x8), (9, .int x9), (10, .int x10)]) [1, 2, 3, 5, 6, 8, 9, 10, 11] rfl ?_
              exact wvL_law_J937 hfl C hX hbl hbA hR RT hK68 hkb hsb (by omega) (by omega) hv
    · have hv := hv2 c
      refine g_aload_n (pc' := 832) C dL_law_831 rfl rfl rfl ?_
      refine g_iload (pc' := 834) C dL_law_832 rfl rfl ?_
      refine g_iload (pc' := 836) C dL_law_834 rfl rfl ?_
      refine cfI (pc' := 839) C (run_VI (rest := []) C lk_L_102 (mtX3_takeBack hv) ⟨by decide, by decide⟩ rfl rfl rfl rfl (Nat.le_of_ble_eq_true rfl) ⟨by rw [hR]; show _ ≤ 115; omega, by rw [hR]; show _ ≤ 2312; omega⟩ dL_law_836) rfl [0, 1, 2, 3, 4, 5, 6, 7, 8, 9, 10, 11, 12] [] [0, 1, 2, 3, 4, 5, 6, 7, 8, 9, 10, 11, 12] nd_LB di_LB (fun u836 => wB γ ad seen cnt pwc par amt held u836 seW seS leW leS) rfl rfl (fun _ => rfl) (fun r836 u836 hv => ?_)
      obtain ⟨hv1, hv2⟩ := hv
      refine g_if_lt (pc' := 842) (tgt := 857) C dL_law_839 rfl (by decide) (fun c => ?_) (fun c => ?_)
      · have hv := hv1 c
        refine g_sub (lv' := [(0, .ref b), (1, .ref (ad 0)), (2, .int x2), (4, .int x4), (5, .int x5), (7, .int x7), (8, .int x8), (9, .int x9), (10, .int x10)]) [0, 1, 2, 4, 5, 7, 8, 9, 10] rfl ?_
        exact wvL_law_J857 hfl C hX hbl hbA hR RT hK68 hkb hsb (by omega) (by omega) hv
      · have hv := hv2 c
        refine g_aload_n (pc' := 843) C dL_law_842 rfl rfl rfl ?_
        refine g_iload (pc' := 845) C dL_law_843 rfl rfl ?_
        refine g_iload (pc' := 847) C dL_law_845 rfl rfl ?_
        refine cfI (pc' := 850) C (run_VI (rest := []) C lk_L_102 (mtX3_takeBack hv) ⟨by decide, by decide⟩ rfl rfl rfl rfl (Nat.le_of_ble_eq_true rfl) ⟨by rw [hR]; show _ ≤ 115; omega, by rw [hR]; show _ ≤ 2312; omega⟩ dL_law_847) rfl [0, 1, 2, 3, 4, 5, 6, 7, 8, 9, 10, 11, 12] [] [0, 1, 2, 3, 4, 5, 6, 7, 8, 9, 10, 11, 12] nd_LB di_LB (fun u847 => wB γ ad seen cnt pwc par amt held u847 seW seS leW leS) rfl rfl (fun _ => rfl) (fun r847 u847 hv => ?_)
        obtain ⟨hv1, hv2⟩ := hv
        refine g_if_ne (pc' := 853) (tgt := 857) C dL_law_850 rfl (by decide) (fun c => ?_) (fun c => ?_)
        · have hv := hv1 c
          refine g_sub (lv' := [(0, .ref b), (1, .ref (ad 0)), (2, .int x2), (4, .int x4), (5, .int x5), (7, .int x7), (8, .int x8), (9, .int x9), (10, .int x10)]) [0, 1, 2, 4, 5, 7, 8, 9, 10] rfl ?_
          exact wvL_law_J857 hfl C hX hbl hbA hR RT hK68 hkb hsb (by omega) (by omega) hv
        · have hv := hv2 c
          refine g_iconst (pc' := 854) (v := (1 : Int32)) C dL_law_853 rfl (by decide) ?_
          refine g_goto (tgt := 858) C dL_law_854 (by decide) ?_
          refine g_sub (lv' := [(0, .ref b), (1, .ref (ad 0)), (2, .int x2), (4, .int x4), (5, .int x5), (7, .int x7), (8, .int x8), (9, .int x9), (10, .int x10)]) [0, 1, 2, 4, 5, 7, 8, 9, 10] rfl ?_
          exact wvL_law_J858 hfl C hX hbl hbA hR RT hK68 hkb hsb (by omega) (by omega) hv
  · have hv := hv2 c
    refine g_aload_n (pc' := 777) C dL_law_776 rfl rfl rfl ?_
    refine g_iload (pc' := 779) C dL_law_777 rfl rfl ?_
    refine g_iload (pc' := 781) C dL_law_779 rfl rfl ?_
    refine cfI (pc' := 784) C (run_VI (rest := []) C lk_L_99 (mtX3_handIn hv) ⟨by decide, by decide⟩ rfl rfl rfl rfl (Nat.le_of_ble_eq_true rfl) ⟨by rw [hR]; show _ ≤ 115; omega, by rw [hR]; show _ ≤ 2312; omega⟩ dL_law_781) rfl [0, 1, 2, 3, 4, 5, 6, 7, 8, 9, 10, 11, 12] [] [0, 1, 2, 3, 4, 5, 6, 7, 8, 9, 10, 11, 12] nd_LB di_LB (fun u781 => wB γ ad seen cnt pwc par amt held u781 seW seS leW leS) rfl rfl (fun _ => rfl) (fun r781 u781 hv => ?_)
    obtain ⟨hv1, hv2⟩ := hv
    refine g_if_lt (pc' := 787) (tgt := 819) C dL_law_784 rfl (by decide) (fun c => ?_) (fun c => ?_)
    · have hv := hv1 c
      refine g_sub (lv' := [(0, .ref b), (1, .ref (ad 0)), (2, .int x2), (4, .int x4), (5, .int x5), (7, .int x7), (8, .int x8), (9, .int x9), (10, .int x10)]) [0, 1, 2, 4, 5, 7, 8, 9, 10] rfl ?_
      exact wvL_law_J819 hfl C hX hbl hbA hR RT hK68 hkb hsb (by omega) (by omega) hv
    · have hv := hv2 c
      refine g_aload_n (pc' := 788) C dL_law_787 rfl rfl rfl ?_
      refine g_iload (pc' := 790) C dL_law_788 rfl rfl ?_
      refine g_iload (pc' := 792) C dL_law_790 rfl rfl ?_
      refine cfI (pc' := 795) C (run_VI (rest := []) C lk_L_99 (mtX3_handIn hv) ⟨by decide, by decide⟩ rfl rfl rfl rfl (Nat.le_of_ble_eq_true rfl) ⟨by rw [hR]; show _ ≤ 115; omega, by rw [hR]; show _ ≤ 2312; omega⟩ dL_law_792) rfl [0, 1, 2, 3, 4, 5, 6, 7, 8, 9, 10, 11, 12] [] [0, 1, 2, 3, 4, 5, 6, 7, 8, 9, 10, 11, 12] nd_LB di_LB (fun u792 => wB γ ad seen cnt pwc par amt held u792 seW seS leW leS) rfl rfl (fun _ => rfl) (fun r792 u792 hv => ?_)
      obtain ⟨hv1, hv2⟩ := hv
      refine g_if_ne (pc' := 798) (tgt := 819) C dL_law_795 rfl (by decide) (fun c => ?_) (fun c => ?_)
      · have hv := hv1 c
        refine g_sub (lv' := [(0, .ref b), (1, .ref (ad 0)), (2, .int x2), (4, .int x4), (5, .int x5), (7, .int x7), (8, .int x8), (9, .int x9), (10, .int x10)]) [0, 1, 2, 4, 5, 7, 8, 9, 10] rfl ?_
        exact wvL_law_J819 hfl C hX hbl hbA hR RT hK68 hkb hsb (by omega) (by omega) hv
      · have hv := hv2 c
        refine g_aload_n (pc' := 799) C dL_law_798 rfl rfl rfl ?_
        refine g_iload (pc' := 801) C dL_law_799 rfl rfl ?_
        refine g_iload (pc' := 803) C dL_law_801 rfl rfl ?_
        refine g_iconst (pc' := 804) (v := (0 : Int32)) C dL_law_803 rfl (by decide) ?_
        refine g_iload (pc' := 806) C dL_law_804 rfl rfl ?_
        refine g_iconst (pc' := 807) (v := (1 : Int32)) C dL_law_806 rfl (by decide) ?_
        refine cfH (pc' := 810) C (run_SH (rest := []) C lk_L_81 (mtL_set hfl hv) ⟨by decide, by decide⟩ rfl rfl (Nat.le_of_ble_eq_true rfl) ⟨by rw [hR]; show _ ≤ 115; omega, by rw [hR]; show _ ≤ 2312; omega⟩ dL_law_807) rfl [0, 1, 2, 3, 4, 5, 6, 7, 8, 9, 10, 11, 12] [] [0, 1, 2, 3, 4, 5, 6, 7, 8, 9, 10, 11, 12] nd_LH di_LH (fun u807 => wB γ ad seen cnt pwc par u807 held u792 seW seS leW leS) rfl rfl (fun _ => rfl) (fun r807 u807 hv => ?_)
        refine g_bipush (pc' := 812) (v := (-3 : Int32)) C dL_law_810 rfl (by decide) ?_
        obtain ⟨hv1, hv2⟩ := hv
        refine g_icmp_ne (pc' := 815) (tgt := 819) C dL_law_812 rfl (by decide) (fun c => ?_) (fun c => ?_)
        · have hv := hv1 c
          refine g_sub (lv' := [(0, .ref b), (1, .ref (ad 0)), (2, .int x2), (4, .int x4), (5, .int x5), (7, .int x7), (8, .int x8), (9, .int x9), (10, .int x10)]) [0, 1, 2, 4, 5, 7, 8, 9, 10] rfl ?_
          exact wvL_law_J819 hfl C hX hbl hbA hR RT hK68 hkb hsb (by omega) (by omega) hv
        · have hv := hv2 c
          refine g_iconst (pc' := 816) (v := (1 : Int32)) C dL_law_815 rfl (by decide) ?_
          refine g_goto (tgt := 820) C dL_law_816 (by decide) ?_
          refine g_sub (lv' := [(0, .ref b), (1, .ref (ad 0)), (2, .int x2), (4, .int x4), (5, .int x5), (7, .int x7), (8, .int x8), (9, .int x9), (10, .int x10)]) [0, 1, 2, 4, 5, 7, 8, 9, 10] rfl ?_
          exact wvL_law_J820 hfl C hX hbl hbA hR RT hK68 hkb hsb (by omega) (by omega) hv
def vL_law_L68 (x4 : Int32) (xs : Nat → Int32) (L : Nat) : Nat → Int32 → Int32 → Int32 → Int32 → Int32 → Int32 → Ar → Ar → Ar → Ar → Ar → Ar → Ar → Ar → Prop
  | 0, _, _, _, _, _, _, _, _, _, _, _, _, _, _ => False
  | n + 1, x2, x3, x5, seen, cnt, pwc, par, amt, held, clos, seW, seS, leW, leS => ((x4 ≤ x5 → (x3 = 1)) ∧ (¬ x4 ≤ x5 → ((x3 = (0 : Int32) → (x3 = 1)) ∧ (¬ x3 = (0 : Int32) → (vL_cell xs L ((1 : Int32) + x5) (fun r84 => (vL_low (r84 >>> ((3 : Int32) &&& 31)) (3 : Int32) (fun r94 => (vL_low (r84 >>> ((5 : Int32) &&& 31)) (3 : Int32) (fun r104 => (vX3_places cnt (fun r115 => (vL_low (r84 >>> ((7 : Int32) &&& 31)) r115 (fun r118 => (vL_low (r84 >>> ((10 : Int32) &&& 31)) (12 : Int32) (fun r130 => (vL_low (r84 >>> ((20 : Int32) &&& 31)) (20 : Int32) (fun r142 => (((4 : Int32) ≤ r142 → (((8 : Int32) ≤ r142 → (((10 : Int32) ≤ r142 → (((13 : Int32) ≤ r142 → (((14 : Int32) ≤ r142 → (((15 : Int32) ≤ r142 → (((16 : Int32) ≤ r142 → (vL_law_J769 seen cnt pwc par amt held clos seW seS leW leS x2 x3 x4 x5 r84 r94 r104 r118 r130 r142 (vL_law_L68 x4 xs L n) xs L)) ∧ (¬ (16 : Int32) ≤ r142 → ((r94 = r104 → (vL_law_J769 seen cnt pwc par amt held clos seW seS leW leS x2 x3 x4 x5 r84 r94 r104 r118 r130 r142 (vL_law_L68 x4 xs L n) xs L)) ∧ (¬ r94 = r104 → (vL_copy amt clos r94 r104 (fun r705 u705 => ((r705 = (-3 : Int32) → (vL_law_J760 seen cnt pwc par u705 held clos seW seS leW leS x2 x4 x5 r94 r104 r118 r130 (vL_law_L68 x4 xs L n) xs L)) ∧ (¬ r705 = (-3 : Int32) → (vX3_gap cnt pwc par u705 r94 r104 (0 : Int32) (0 : Int32) (fun r724 => ((¬ r724 = (0 : Int32) → (vL_law_J764 seen cnt pwc par u705 held clos seW seS leW leS x2 x4 x5 r94 r104 r118 r130 (vL_law_L68 x4 xs L n) xs L)) ∧ (r724 = (0 : Int32) → (vX3_year cnt pwc par u705 r94 (0 : Int32) (2 : Int32) (fun r735 => (vX3_year cnt pwc par u705 r104 (0 : Int32) (2 : Int32) (fun r743 => ((¬ r735 = r743 → (vL_law_J764 seen cnt pwc par u705 held clos seW seS leW leS x2 x4 x5 r94 r104 r118 r130 (vL_law_L68 x4 xs L n) xs L)) ∧ (r735 = r743 → (vL_copy u705 clos r94 r104 (fun r754 u754 => ((¬ r754 = (0 : Int32) → (vL_law_J764 seen cnt pwc par u754 held clos seW seS leW leS x2 x4 x5 r94 r104 r118 r130 (vL_law_L68 x4 xs L n) xs L)) ∧ (r754 = (0 : Int32) → (vL_law_J760 seen cnt pwc par u754 held clos seW seS leW leS x2 x4 x5 r94 r104 r118 r130 (vL_law_L68 x4 xs L n) xs L)))))))))))))))))))))))) ∧ (¬ (15 : Int32) ≤ r142 → (vL_low r84 (101 : Int32) (fun r647 => (vX3_setSeason seW r130 r647 (fun r650 u650 => (vL_low r84 (101 : Int32) (fun r661 => (vX3_setSeason u650 r130 r661 (fun r664 u664 => (vL_low r84 (101 : Int32) (fun r671 => ((¬ r664 = r671 → (vL_law_J682 seen cnt pwc par amt held clos u664 seS leW leS x2 x4 x5 r94 r104 r118 r130 (0 : Int32) (vL_law_L68 x4 xs L n) xs L)) ∧ (r664 = r671 → (vL_law_J682 seen cnt pwc par amt held clos u664 seS leW leS x2 x4 x5 r94 r104 r118 r130 (1 : Int32) (vL_law_L68 x4 xs L n) xs L)))))))))))))))) ∧ (¬ (14 : Int32) ≤ r142 → (vL_low r84 (1000001 : Int32) (fun r570 => (vX3_year cnt pwc par amt r94 r118 (2 : Int32) (fun r581 => (vL_spreadYear cnt pwc par amt held clos seW seS leW leS r94 r118 r570 (fun r593 u593 => (vX3_year cnt pwc par u593.1 r94 r118 (2 : Int32) (fun r604 => ((¬ r593 = (-3 : Int32) → (vL_law_J621 seen cnt pwc par u593.1 held clos seW u593.2.1 u593.2.2.1 u593.2.2.2 x2 x4 x5 r94 r104 r118 r130 r570 r604 (vL_law_L68 x4 xs L n) xs L)) ∧ (r593 = (-3 : Int32) → (vL_law_J621 seen cnt pwc par u593.1 held clos seW u593.2.1 u593.2.2.1 u593.2.2.2 x2 x4 x5 r94 r104 r118 r130 r581 r604 (vL_law_L68 x4 xs L n) xs L)))))))))))))) ∧ (¬ (13 : Int32) ≤ r142 → (vL_low (r84 >>> ((17 : Int32) &&& 31)) (2 : Int32) (fun r426 => ((¬ r426 = (0 : Int32) → (vL_law_J440 seen cnt pwc par amt held clos seW seS leW leS x2 x4 x5 r84 r94 r104 r118 r130 (900 : Int32) r84 (vL_law_L68 x4 xs L n) xs L)) ∧ (r426 = (0 : Int32) → (vL_law_J440 seen cnt pwc par amt held clos seW seS leW leS x2 x4 x5 r84 r94 r104 r118 r130 (1000001 : Int32) r84 (vL_law_L68 x4 xs L n) xs L)))))))) ∧ (¬ (10 : Int32) ≤ r142 → (vL_isLeaf cnt pwc par r118 (fun r356 => ((r356 = (0 : Int32) → (vL_law_J969 seen cnt pwc par amt held clos seW seS leW leS x2 x3 x4 x5 r94 r104 r118 r130 (vL_law_L68 x4 xs L n) xs L)) ∧ (¬ r356 = (0 : Int32) → (vL_low r84 (2 : Int32) (fun r365 => ((¬ r365 = (0 : Int32) → (vL_law_J376 seen cnt pwc par amt held clos seW seS leW leS x2 x4 x5 r94 r104 r118 r130 (0 : Int32) (vL_law_L68 x4 xs L n) xs L)) ∧ (r365 = (0 : Int32) → (vL_law_J376 seen cnt pwc par amt held clos seW seS leW leS x2 x4 x5 r94 r104 r118 r130 (1 : Int32) (vL_law_L68 x4 xs L n) xs L)))))))))))) ∧ (¬ (8 : Int32) ≤ r142 → (vL_low r84 (3 : Int32) (fun r260 => ((¬ r260 = (2 : Int32) → (vL_law_J283 seen cnt pwc par amt held clos seW seS leW leS x2 x4 x5 r94 r104 r118 r130 r260 (1001 : Int32) (r84 >>> ((2 : Int32) &&& 31)) (vL_law_L68 x4 xs L n) xs L)) ∧ (r260 = (2 : Int32) → (vL_law_J283 seen cnt pwc par amt held clos seW seS leW leS x2 x4 x5 r94 r104 r118 r130 r260 (1000001 : Int32) (r84 >>> ((2 : Int32) &&& 31)) (vL_law_L68 x4 xs L n) xs L)))))))) ∧ (¬ (4 : Int32) ≤ r142 → (vX3_places cnt (fun r154 => (vL_isLeaf cnt pwc par r118 (fun r162 => (vL_add cnt pwc par amt held clos r118 (fun r170 u170 => ((¬ r170 = (-3 : Int32) → ((¬ r170 = r154 → (vL_law_J245 seen u170.1 u170.2.1 u170.2.2 amt held clos seW seS leW leS x2 x4 x5 r94 r104 r118 r130 (vL_law_L68 x4 xs L n) xs L)) ∧ (r170 = r154 → (vL_isLeaf u170.1 u170.2.1 u170.2.2 r170 (fun r212 => ((r212 = (0 : Int32) → (vL_law_J245 seen u170.1 u170.2.1 u170.2.2 amt held clos seW seS leW leS x2 x4 x5 r94 r104 r118 r130 (vL_law_L68 x4 xs L n) xs L)) ∧ (¬ r212 = (0 : Int32) → (vL_isLeaf u170.1 u170.2.1 u170.2.2 r118 (fun r221 => ((¬ r221 = (0 : Int32) → (vL_law_J245 seen u170.1 u170.2.1 u170.2.2 amt held clos seW seS leW leS x2 x4 x5 r94 r104 r118 r130 (vL_law_L68 x4 xs L n) xs L)) ∧ (r221 = (0 : Int32) → (vX3_amount u170.1 u170.2.1 u170.2.2 amt r94 r170 (2 : Int32) r130 (fun r235 => ((¬ r235 = (0 : Int32) → (vL_law_J245 seen u170.1 u170.2.1 u170.2.2 amt held clos seW seS leW leS x2 x4 x5 r94 r104 r118 r130 (vL_law_L68 x4 xs L n) xs L)) ∧ (r235 = (0 : Int32) → (vL_law_J246 seen u170.1 u170.2.1 u170.2.2 amt held clos seW seS leW leS x2 x4 x5 r94 r104 r118 r130 (1 : Int32) (vL_law_L68 x4 xs L n) xs L)))))))))))))))) ∧ (r170 = (-3 : Int32) → ((r154 = (10 : Int32) → (vL_law_J194 seen u170.1 u170.2.1 u170.2.2 amt held clos seW seS leW leS x2 x4 x5 r94 r104 r118 r130 (vL_law_L68 x4 xs L n) xs L)) ∧ (¬ r154 = (10 : Int32) → ((r162 = (0 : Int32) → (vL_law_J246 seen u170.1 u170.2.1 u170.2.2 amt held clos seW seS leW leS x2 x4 x5 r94 r104 r118 r130 (0 : Int32) (vL_law_L68 x4 xs L n) xs L)) ∧ (¬ r162 = (0 : Int32) → (vL_law_J194 seen u170.1 u170.2.1 u170.2.2 amt held clos seW seS leW leS x2 x4 x5 r94 r104 r118 r130 (vL_law_L68 x4 xs L n) xs L)))))))))))))))))))))))))))))))))
set_option maxHeartbeats 4000000 in
set_option maxRecDepth 100000 in
theorem wvL_law_L68 {l : Launch} {γ : Gm} {κ : Kx} {ad : Nat → Nat} {x4 : Int32} {xs : Nat → Int32} {b L : Nat} (hfl : l.stackTraces = false) (C : Ok γ κ cL_law 15 RL 11 412) (hX : va_X b L xs κ.s κ.s.heap) (hbl : b < κ.s.heap.size) (hbA : ¬ κ.A b) (hR : κ.R = room_1) (RT : RtL l γ κ) : ∀ (n : Nat) (x2 : Int32) (x3 : Int32) (x5 : Int32) (seen : Int32) (cnt : Int32) (pwc : Int32) (par : Ar) (amt : Ar) (held : Ar) (clos : Ar) (seW : Ar) (seS : Ar) (leW : Ar) (leS : Ar) (k9 s9 : Nat), k9 + 2 * n ≤ 115 → s9 + 12 * n ≤ 2312 → vL_law_L68 x4 xs L n x2 x3 x5 seen cnt pwc par amt held clos seW seS leW leS → G l γ κ (wB γ ad seen cnt pwc par amt held clos seW seS leW leS) [(0, .ref b), (1, .ref (ad 0)), (2, .int x2), (3, .int x3), (4, .int x4), (5, .int x5)] k9 s9 [] 68 := by
  intro n
  induction n with
  | zero => intro x2 x3 x5 seen cnt pwc par amt held clos seW seS leW leS k9 s9 hk hs hv; exact False.elim hv
  | succ n ih =>
    intro x2 x3 x5 seen cnt pwc par amt held clos seW seS leW leS k9 s9 hk hs hv
    refine g_iload (pc' := 70) C dL_law_68 rfl rfl ?_
    refine g_iload (pc' := 72) C dL_law_70 rfl rfl ?_
    obtain ⟨hv1, hv2⟩ := hv
    refine g_icmp_ge (pc' := 75) (tgt := 1029) C dL_law_72 rfl (by decide) (fun c => ?_) (fun c => ?_)
    · have hv := hv1 c
      refine g_iload_n (pc' := 1030) C dL_law_1029 rfl rfl rfl ?_
      subst hv
      exact RT _ _ _ _ _ dL_law_1030 (by omega) (by omega)
    · have hv := hv2 c
      refine g_iload_n (pc' := 76) C dL_law_75 rfl rfl rfl ?_
      obtain ⟨hv1, hv2⟩ := hv
      refine g_if_eq (pc' := 79) (tgt := 1029) C dL_law_76 rfl (by decide) (fun c => ?_) (fun c => ?_)
      · have hv := hv1 c
        refine g_iload_n (pc' := 1030) C dL_law_1029 rfl rfl rfl ?_
        subst hv
        exact RT _ _ _ _ _ dL_law_1030 (by omega) (by omega)
      · have hv := hv2 c
        refine g_aload_n (pc' := 80) C dL_law_79 rfl rfl rfl ?_
        refine g_iconst (pc' := 81) (v := (1 : Int32)) C dL_law_80 rfl (by decide) ?_
        refine g_iload (pc' := 83) C dL_law_81 rfl rfl ?_
        refine g_iadd (pc' := 84) C dL_law_83 rfl ?_
        refine csS (pc' := 87) (rest := []) C hX hbl hbA lk_L_62 (mtL_cell hv) ⟨by decide, by decide⟩ rfl rfl (Nat.le_of_ble_eq_true rfl) ⟨by rw [hR]; show _ ≤ 115; omega, by rw [hR]; show _ ≤ 2312; omega⟩ dL_law_84 rfl (fun r84 hv => ?_)
        refine g_istore (pc' := 89) (lv' := [(6, .int r84), (0, .ref b), (1, .ref (ad 0)), (2, .int x2), (3, .int x3), (4, .int x4), (5, .int x5)]) C dL_law_87 rfl (by decide) rfl ?_
        refine g_iload (pc' := 91) C dL_law_89 rfl rfl ?_
        refine g_iconst (pc' := 92) (v := (3 : Int32)) C dL_law_91 rfl (by decide) ?_
        refine g_ishr (pc' := 93) C dL_law_92 rfl ?_
        refine g_iconst (pc' := 94) (v := (3 : Int32)) C dL_law_93 rfl (by decide) ?_
        refine cfI (pc' := 97) C (run_SI (rest := []) C lk_L_66 (mtL_low hv) ⟨by decide, by decide⟩ rfl rfl (Nat.le_of_ble_eq_true rfl) ⟨by rw [hR]; show _ ≤ 115; omega, by rw [hR]; show _ ≤ 2312; omega⟩ dL_law_94) rfl [0, 1, 2, 3, 4, 5, 6, 7, 8, 9, 10, 11, 12] [] [0, 1, 2, 3, 4, 5, 6, 7, 8, 9, 10, 11, 12] nd_LH di_LH (fun u94 => wB γ ad seen cnt pwc par amt held clos seW seS leW leS) rfl rfl (fun _ => rfl) (fun r94 u94 hv => ?_)
        refine g_istore (pc' := 99) (lv' := [(7, .int r94), (6, .int r84), (0, .ref b), (1, .ref (ad 0)), (2, .int x2), (3, .int x3), (4, .int x4), (5, .int x5)]) C dL_law_97 rfl (by decide) rfl ?_
        refine g_iload (pc' := 101) C dL_law_99 rfl rfl ?_
        refine g_iconst (pc' := 102) (v := (5 : Int32)) C dL_law_101 rfl (by decide) ?_
        refine g_ishr (pc' := 103) C dL_law_102 rfl ?_
        refine g_iconst (pc' := 104) (v := (3 : Int32)) C dL_law_103 rfl (by decide) ?_
        refine cfI (pc' := 107) C (run_SI (rest := []) C lk_L_66 (mtL_low hv) ⟨by decide, by decide⟩ rfl rfl (Nat.le_of_ble_eq_true rfl) ⟨by rw [hR]; show _ ≤ 115; omega, by rw [hR]; show _ ≤ 2312; omega⟩ dL_law_104) rfl [0, 1, 2, 3, 4, 5, 6, 7, 8, 9, 10, 11, 12] [] [0, 1, 2, 3, 4, 5, 6, 7, 8, 9, 10, 11, 12] nd_LH di_LH (fun u104 => wB γ ad seen cnt pwc par amt held clos seW seS leW leS) rfl rfl (fun _ => rfl) (fun r104 u104 hv => ?_)
        refine g_istore (pc' := 109) (lv' := [(8, .int r104), (7, .int r94), (6, .int r84), (0, .ref b), (1, .ref (ad 0)), (2, .int x2), (3, .int x3), (4, .int x4), (5, .int x5)]) C dL_law_107 rfl (by decide) rfl ?_
        refine g_iload (pc' := 111) C dL_law_109 rfl rfl ?_
        refine g_bipush (pc' := 113) (v := (7 : Int32)) C dL_law_111 rfl (by decide) ?_
        refine g_ishr (pc' := 114) C dL_law_113 rfl ?_
        refine g_aload_n (pc' := 115) C dL_law_114 rfl rfl rfl ?_
        refine cfI (pc' := 118) C (run_VI (rest := [.int (r84 >>> ((7 : Int32) &&& 31))]) C lk_L_53 (mtX3_places hv) ⟨by decide, by decide⟩ rfl rfl rfl rfl (Nat.le_of_ble_eq_true rfl) ⟨by rw [hR]; show _ ≤ 115; omega, by rw [hR]; show _ ≤ 2312; omega⟩ dL_law_115) rfl [0, 1, 2, 3, 4, 5, 6, 7, 8, 9, 10, 11, 12] [] [0, 1, 2, 3, 4, 5, 6, 7, 8, 9, 10, 11, 12] nd_LB di_LB (fun u115 => wB γ ad seen cnt pwc par amt held clos seW seS leW leS) rfl rfl (fun _ => rfl) (fun r115 u115 hv => ?_)
        refine cfI (pc' := 121) C (run_SI (rest := []) C lk_L_66 (mtL_low hv) ⟨by decide, by decide⟩ rfl rfl (Nat.le_of_ble_eq_true rfl) ⟨by rw [hR]; show _ ≤ 115; omega, by rw [hR]; show _ ≤ 2312; omega⟩ dL_law_118) rfl [0, 1, 2, 3, 4, 5, 6, 7, 8, 9, 10, 11, 12] [] [0, 1, 2, 3, 4, 5, 6, 7, 8, 9, 10, 11, 12] nd_LH di_LH (fun u118 => wB γ ad seen cnt pwc par amt held clos seW seS leW leS) rfl rfl (fun _ => rfl) (fun r118 u118 hv => ?_)
        refine g_istore (pc' := 123) (lv' := [(9, .int r118), (8, .int r104), (7, .int r94), (6, .int r84), (0, .ref b), (1, .ref (ad 0)), (2, .int x2), (3, .int x3), (4, .int x4), (5, .int x5)]) C dL_law_121 rfl (by decide) rfl ?_
        refine g_iload (pc' := 125) C dL_law_123 rfl rfl ?_
        refine g_bipush (pc' := 127) (v := (10 : Int32)) C dL_law_125 rfl (by decide) ?_
        refine g_ishr (pc' := 128) C dL_law_127 rfl ?_
        refine g_bipush (pc' := 130) (v := (12 : Int32)) C dL_law_128 rfl (by decide) ?_
        refine cfI (pc' := 133) C (run_SI (rest := []) C lk_L_66 (mtL_low hv) ⟨by decide, by decide⟩ rfl rfl (Nat.le_of_ble_eq_true rfl) ⟨by rw [hR]; show _ ≤ 115; omega, by rw [hR]; show _ ≤ 2312; omega⟩ dL_law_130) rfl [0, 1, 2, 3, 4, 5, 6, 7, 8, 9, 10, 11, 12] [] [0, 1, 2, 3, 4, 5, 6, 7, 8, 9, 10, 11, 12] nd_LH di_LH (fun u130 => wB γ ad seen cnt pwc par amt held clos seW seS leW leS) rfl rfl (fun _ => rfl) (fun r130 u130 hv => ?_)
        refine g_istore (pc' := 135) (lv' := [(10, .int r130), (9, .int r118), (8, .int r104), (7, .int r94), (6, .int r84), (0, .ref b), (1, .ref (ad 0)), (2, .int x2), (3, .int x3), (4, .int x4), (5, .int x5)]) C dL_law_133 rfl (by decide) rfl ?_
        refine g_iload (pc' := 137) C dL_law_135 rfl rfl ?_
        refine g_bipush (pc' := 139) (v := (20 : Int32)) C dL_law_137 rfl (by decide) ?_
        refine g_ishr (pc' := 140) C dL_law_139 rfl ?_
        refine g_bipush (pc' := 142) (v := (20 : Int32)) C dL_law_140 rfl (by decide) ?_
        refine cfI (pc' := 145) C (run_SI (rest := []) C lk_L_66 (mtL_low hv) ⟨by decide, by decide⟩ rfl rfl (Nat.le_of_ble_eq_true rfl) ⟨by rw [hR]; show _ ≤ 115; omega, by rw [hR]; show _ ≤ 2312; omega⟩ dL_law_142) rfl [0, 1, 2, 3, 4, 5, 6, 7, 8, 9, 10, 11, 12] [] [0, 1, 2, 3, 4, 5, 6, 7, 8, 9, 10, 11, 12] nd_LH di_LH (fun u142 => wB γ ad seen cnt pwc par amt held clos seW seS leW leS) rfl rfl (fun _ => rfl) (fun r142 u142 hv => ?_)
        refine g_istore (pc' := 147) (lv' := [(11, .int r142), (10, .int r130), (9, .int r118), (8, .int r104), (7, .int r94), (6, .int r84), (0, .ref b), (1, .ref (ad 0)), (2, .int x2), (3, .int x3), (4, .int x4), (5, .int x5)]) C dL_law_145 rfl (by decide) rfl ?_
        refine g_iload (pc' := 149) C dL_law_147 rfl rfl ?_
        refine g_iconst (pc' := 150) (v := (4 : Int32)) C dL_law_149 rfl (by decide) ?_
        obtain ⟨hv1, hv2⟩ := hv
        refine g_icmp_ge (pc' := 153) (tgt := 250) C dL_law_150 rfl (by decide) (fun c => ?_) (fun c => ?_)
        · have hv := hv1 c
          refine g_iload (pc' := 252) C dL_law_250 rfl rfl ?_
          refine g_bipush (pc' := 254) (v := (8 : Int32)) C dL_law_252 rfl (by decide) ?_
          obtain ⟨hv1, hv2⟩ := hv
          refine g_icmp_ge (pc' := 257) (tgt := 346) C dL_law_254 rfl (by decide) (fun c => ?_) (fun c => ?_)
          · have hv := hv1 c
            refine g_iload (pc' := 348) C dL_law_346 rfl rfl ?_
            refine g_bipush (pc' := 350) (v := (10 : Int32)) C dL_law_348 rfl (by decide) ?_
            obtain ⟨hv1, hv2⟩ := hv
            refine g_icmp_ge (pc' := 353) (tgt := 411) C dL_law_350 rfl (by decide) (fun c => ?_) (fun c => ?_)
            · have hv := hv1 c
              refine g_iload (pc' := 413) C dL_law_411 rfl rfl ?_
              refine g_bipush (pc' := 415) (v := (13 : Int32)) C dL_law_413 rfl (by decide) ?_
              obtain ⟨hv1, hv2⟩ := hv
              refine g_icmp_ge (pc' := 418) (tgt := 559) C dL_law_415 rfl (by decide) (fun c => ?_) (fun c => ?_)
              · have hv := hv1 c
                refine g_iload (pc' := 561) C dL_law_559 rfl rfl ?_
                refine g_bipush (pc' := 563) (v := (14 : Int32)) C dL_law_561 rfl (by decide) ?_
                obtain ⟨hv1, hv2⟩ := hv
                refine g_icmp_ge (pc' := 566) (tgt := 633) C dL_law_563 rfl (by decide) (fun c => ?_) (fun c => ?_)
                · have hv := hv1 c
                  refine g_iload (pc' := 635) C dL_law_633 rfl rfl ?_
                  refine g_bipush (pc' := 637) (v := (15 : Int32)) C dL_law_635 rfl (by decide) ?_
                  obtain ⟨hv1, hv2⟩ := hv
                  refine g_icmp_ge (pc' := 640) (tgt := 686) C dL_law_637 rfl (by decide) (fun c => ?_) (fun c => ?_)
                  · have hv := hv1 c
                    refine g_iload (pc' := 688) C dL_law_686 rfl rfl ?_
                    refine g_bipush (pc' := 690) (v := (16 : Int32)) C dL_law_688 rfl (by decide) ?_
                    obtain ⟨hv1, hv2⟩ := hv
                    refine g_icmp_ge (pc' := 693) (tgt := 769) C dL_law_690 rfl (by decide) (fun c => ?_) (fun c => ?_)
                    · have hv := hv1 c
                      refine g_sub (lv' := [(0, .ref b), (1, .ref (ad 0)), (2, .int x2), (3, .int x3), (4, .int x4), (5, .int x5), (6, .int r84), (7, .int r94), (8, .int r104), (9, .int r118), (10, .int r130), (11, .int r142)]) [6, 7, 8, 9, 10, 11, 5, 4, 3, 2, 1, 0] rfl ?_
                      exact wvL_law_J769 hfl C hX hbl hbA hR RT (kb := 115 - 2 * n) (sb := 2312 - 12 * n) (fun x2 x3 x5 seen cnt pwc par amt held clos seW seS leW leS k1 s1 h1 h2 hv => ih x2 x3 x5 seen cnt pwc par amt held clos seW seS leW leS k1 s1 (by omega) (by omega) hv) (by omega) (by omega) (by omega) (by omega) hv
                    · have hv := hv2 c
                      refine g_iload (pc' := 695) C dL_law_693 rfl rfl ?_
                      refine g_iload (pc' := 697) C dL_law_695 rfl rfl ?_
                      obtain ⟨hv1, hv2⟩ := hv
                      refine g_icmp_eq (pc' := 700) (tgt := 769) C dL_law_697 rfl (by decide) (fun c => ?_) (fun c => ?_)
                      · have hv := hv1 c
                        refine g_sub (lv' := [(0, .ref b), (1, .ref (ad 0)), (2, .int x2), (3, .int x3), (4, .int x4), (5, .int x5), (6, .int r84), (7, .int r94), (8, .int r104), (9, .int r118), (10, .int r130), (11, .int r142)]) [6, 7, 8, 9, 10, 11, 5, 4, 3, 2, 1, 0] rfl ?_
                        exact wvL_law_J769 hfl C hX hbl hbA hR RT (kb := 115 - 2 * n) (sb := 2312 - 12 * n) (fun x2 x3 x5 seen cnt pwc par amt held clos seW seS leW leS k1 s1 h1 h2 hv => ih x2 x3 x5 seen cnt pwc par amt held clos seW seS leW leS k1 s1 (by omega) (by omega) hv) (by omega) (by omega) (by omega) (by omega) hv
                      · have hv := hv2 c
                        refine g_aload_n (pc' := 701) C dL_law_700 rfl rfl rfl ?_
                        refine g_iload (pc' := 703) C dL_law_701 rfl rfl ?_
                        refine g_iload (pc' := 705) C dL_law_703 rfl rfl ?_
                        refine cfH (pc' := 708) C (run_SH (rest := []) C lk_L_96 (mtL_copy hfl hv) ⟨by decide, by decide⟩ rfl rfl (Nat.le_of_ble_eq_true rfl) ⟨by rw [hR]; show _ ≤ 115; omega, by rw [hR]; show _ ≤ 2312; omega⟩ dL_law_705) rfl [0, 1, 2, 3, 4, 5, 6, 7, 8, 9, 10, 11, 12] [] [0, 1, 2, 3, 4, 5, 6, 7, 8, 9, 10, 11, 12] nd_LH di_LH (fun u705 => wB γ ad seen cnt pwc par u705 held clos seW seS leW leS) rfl rfl (fun _ => rfl) (fun r705 u705 hv => ?_)
                        refine g_istore (pc' := 710) (lv' := [(12, .int r705), (11, .int r142), (10, .int r130), (9, .int r118), (8, .int r104), (7, .int r94), (6, .int r84), (0, .ref b), (1, .ref (ad 0)), (2, .int x2), (3, .int x3), (4, .int x4), (5, .int x5)]) C dL_law_708 rfl (by decide) rfl ?_
                        refine g_iload (pc' := 712) C dL_law_710 rfl rfl ?_
                        refine g_bipush (pc' := 714) (v := (-3 : Int32)) C dL_law_712 rfl (by decide) ?_
                        obtain ⟨hv1, hv2⟩ := hv
                        refine g_icmp_eq (pc' := 717) (tgt := 760) C dL_law_714 rfl (by decide) (fun c => ?_) (fun c => ?_)
                        · have hv := hv1 c
                          refine g_sub (lv' := [(0, .ref b), (1, .ref (ad 0)), (2, .int x2), (4, .int x4), (5, .int x5), (7, .int r94), (8, .int r104), (9, .int r118), (10, .int r130)]) [7, 8, 9, 11, 12, 5, 4, 3, 2] rfl ?_
                          exact wvL_law_J760 hfl C hX hbl hbA hR RT (kb := 115 - 2 * n) (sb := 2312 - 12 * n) (fun x2 x3 x5 seen cnt pwc par amt held clos seW seS leW leS k1 s1 h1 h2 hv => ih x2 x3 x5 seen cnt pwc par amt held clos seW seS leW leS k1 s1 (by omega) (by omega) hv) (by omega) (by omega) (by omega) (by omega) hv
                        · have hv := hv2 c
                          refine g_aload_n (pc' := 718) C dL_law_717 rfl rfl rfl ?_
                          refine g_iload (pc' := 720) C dL_law_718 rfl rfl ?_
                          refine g_iload (pc' := 722) C dL_law_720 rfl rfl ?_
                          refine g_iconst (pc' := 723) (v := (0 : Int32)) C dL_law_722 rfl (by decide) ?_
                          refine g_iconst (pc' := 724) (v := (0 : Int32)) C dL_law_723 rfl (by decide) ?_
                          refine cfI (pc' := 727) C (run_VI (rest := []) C lk_L_49 (mtX3_gap hv) ⟨by decide, by decide⟩ rfl rfl rfl rfl (Nat.le_of_ble_eq_true rfl) ⟨by rw [hR]; show _ ≤ 115; omega, by rw [hR]; show _ ≤ 2312; omega⟩ dL_law_724) rfl [0, 1, 2, 3, 4, 5, 6, 7, 8, 9, 10, 11, 12] [] [0, 1, 2, 3, 4, 5, 6, 7, 8, 9, 10, 11, 12] nd_LB di_LB (fun u724 => wB γ ad seen cnt pwc par u705 held clos seW seS leW leS) rfl rfl (fun _ => rfl) (fun r724 u724 hv => ?_)
                          obtain ⟨hv1, hv2⟩ := hv
                          refine g_if_ne (pc' := 730) (tgt := 764) C dL_law_727 rfl (by decide) (fun c => ?_) (fun c => ?_)
                          · have hv := hv1 c
                            refine g_sub (lv' := [(0, .ref b), (1, .ref (ad 0)), (2, .int x2), (4, .int x4), (5, .int x5), (7, .int r94), (8, .int r104), (9, .int r118), (10, .int r130)]) [7, 8, 9, 11, 12, 5, 4, 3, 2] rfl ?_
                            exact wvL_law_J764 hfl C hX hbl hbA hR RT (kb := 115 - 2 * n) (sb := 2312 - 12 * n) (fun x2 x3 x5 seen cnt pwc par amt held clos seW seS leW leS k1 s1 h1 h2 hv => ih x2 x3 x5 seen cnt pwc par amt held clos seW seS leW leS k1 s1 (by omega) (by omega) hv) (by omega) (by omega) (by omega) (by omega) hv
                          · have hv := hv2 c
                            refine g_aload_n (pc' := 731) C dL_law_730 rfl rfl rfl ?_
                            refine g_iload (pc' := 733) C dL_law_731 rfl rfl ?_
                            refine g_iconst (pc' := 734) (v := (0 : Int32)) C dL_law_733 rfl (by decide) ?_
                            refine g_iconst (pc' := 735) (v := (2 : Int32)) C dL_law_734 rfl (by decide) ?_
                            refine cfI (pc' := 738) C (run_VI (rest := []) C lk_L_43 (mtX3_year hv) ⟨by decide, by decide⟩ rfl rfl rfl rfl (Nat.le_of_ble_eq_true rfl) ⟨by rw [hR]; show _ ≤ 115; omega, by rw [hR]; show _ ≤ 2312; omega⟩ dL_law_735) rfl [0, 1, 2, 3, 4, 5, 6, 7, 8, 9, 10, 11, 12] [] [0, 1, 2, 3, 4, 5, 6, 7, 8, 9, 10, 11, 12] nd_LB di_LB (fun u735 => wB γ ad seen cnt pwc par u705 held clos seW seS leW leS) rfl rfl (fun _ => rfl) (fun r735 u735 hv => ?_)
                            refine g_aload_n (pc' := 739) C dL_law_738 rfl rfl rfl ?_
                            refine g_iload (pc' := 741) C dL_law_739 rfl rfl ?_
                            refine g_iconst (pc' := 742) (v := (0 : Int32)) C dL_law_741 rfl (by decide) ?_
                            refine g_iconst (pc' := 743) (v := (2 : Int32)) C dL_law_742 rfl (by decide) ?_
                            refine cfI (pc' := 746) C (run_VI (rest := [.int r735]) C lk_L_43 (mtX3_year hv) ⟨by decide, by decide⟩ rfl rfl rfl rfl (Nat.le_of_ble_eq_true rfl) ⟨by rw [hR]; show _ ≤ 115; omega, by rw [hR]; show _ ≤ 2312; omega⟩ dL_law_743) rfl [0, 1, 2, 3, 4, 5, 6, 7, 8, 9, 10, 11, 12] [] [0, 1, 2, 3, 4, 5, 6, 7, 8, 9, 10, 11, 12] nd_LB di_LB (fun u743 => wB γ ad seen cnt pwc par u705 held clos seW seS leW leS) rfl rfl (fun _ => rfl) (fun r743 u743 hv => ?_)
                            obtain ⟨hv1, hv2⟩ := hv
                            refine g_icmp_ne (pc' := 749) (tgt := 764) C dL_law_746 rfl (by decide) (fun c => ?_) (fun c => ?_)
                            · have hv := hv1 c
                              refine g_sub (lv' := [(0, .ref b), (1, .ref (ad 0)), (2, .int x2), (4, .int x4), (5, .int x5), (7, .int r94), (8, .int r104), (9, .int r118), (10, .int r130)]) [7, 8, 9, 11, 12, 5, 4, 3, 2] rfl ?_
                              exact wvL_law_J764 hfl C hX hbl hbA hR RT (kb := 115 - 2 * n) (sb := 2312 - 12 * n) (fun x2 x3 x5 seen cnt pwc par amt held clos seW seS leW leS k1 s1 h1 h2 hv => ih x2 x3 x5 seen cnt pwc par amt held clos seW seS leW leS k1 s1 (by omega) (by omega) hv) (by omega) (by omega) (by omega) (by omega) hv
                            · have hv := hv2 c
                              refine g_aload_n (pc' := 750) C dL_law_749 rfl rfl rfl ?_
                              refine g_iload (pc' := 752) C dL_law_750 rfl rfl ?_
                              refine g_iload (pc' := 754) C dL_law_752 rfl rfl ?_
                              refine cfH (pc' := 757) C (run_SH (rest := []) C lk_L_96 (mtL_copy hfl hv) ⟨by decide, by decide⟩ rfl rfl (Nat.le_of_ble_eq_true rfl) ⟨by rw [hR]; show _ ≤ 115; omega, by rw [hR]; show _ ≤ 2312; omega⟩ dL_law_754) rfl [0, 1, 2, 3, 4, 5, 6, 7, 8, 9, 10, 11, 12] [] [0, 1, 2, 3, 4, 5, 6, 7, 8, 9, 10, 11, 12] nd_LH di_LH (fun u754 => wB γ ad seen cnt pwc par u754 held clos seW seS leW leS) rfl rfl (fun _ => rfl) (fun r754 u754 hv => ?_)
                              obtain ⟨hv1, hv2⟩ := hv
                              refine g_if_ne (pc' := 760) (tgt := 764) C dL_law_757 rfl (by decide) (fun c => ?_) (fun c => ?_)
                              · have hv := hv1 c
                                refine g_sub (lv' := [(0, .ref b), (1, .ref (ad 0)), (2, .int x2), (4, .int x4), (5, .int x5), (7, .int r94), (8, .int r104), (9, .int r118), (10, .int r130)]) [7, 8, 9, 11, 12, 5, 4, 3, 2] rfl ?_
                                exact wvL_law_J764 hfl C hX hbl hbA hR RT (kb := 115 - 2 * n) (sb := 2312 - 12 * n) (fun x2 x3 x5 seen cnt pwc par amt held clos seW seS leW leS k1 s1 h1 h2 hv => ih x2 x3 x5 seen cnt pwc par amt held clos seW seS leW leS k1 s1 (by omega) (by omega) hv) (by omega) (by omega) (by omega) (by omega) hv
                              · have hv := hv2 c
                                refine g_sub (lv' := [(0, .ref b), (1, .ref (ad 0)), (2, .int x2), (4, .int x4), (5, .int x5), (7, .int r94), (8, .int r104), (9, .int r118), (10, .int r130)]) [7, 8, 9, 11, 12, 5, 4, 3, 2] rfl ?_
                                exact wvL_law_J760 hfl C hX hbl hbA hR RT (kb := 115 - 2 * n) (sb := 2312 - 12 * n) (fun x2 x3 x5 seen cnt pwc par amt held clos seW seS leW leS k1 s1 h1 h2 hv => ih x2 x3 x5 seen cnt pwc par amt held clos seW seS leW leS k1 s1 (by omega) (by omega) hv) (by omega) (by omega) (by omega) (by omega) hv
                  · have hv := hv2 c
                    refine g_aload_n (pc' := 641) C dL_law_640 rfl rfl rfl ?_
                    refine g_iload (pc' := 643) C dL_law_641 rfl rfl ?_
                    refine g_iload (pc' := 645) C dL_law_643 rfl rfl ?_
                    refine g_bipush (pc' := 647) (v := (101 : Int32)) C dL_law_645 rfl (by decide) ?_
                    refine cfI (pc' := 650) C (run_SI (rest := [.int r130, .ref (ad 0)]) C lk_L_66 (mtL_low hv) ⟨by decide, by decide⟩ rfl rfl (Nat.le_of_ble_eq_true rfl) ⟨by rw [hR]; show _ ≤ 115; omega, by rw [hR]; show _ ≤ 2312; omega⟩ dL_law_647) rfl [0, 1, 2, 3, 4, 5, 6, 7, 8, 9, 10, 11, 12] [] [0, 1, 2, 3, 4, 5, 6, 7, 8, 9, 10, 11, 12] nd_LH di_LH (fun u647 => wB γ ad seen cnt pwc par amt held clos seW seS leW leS) rfl rfl (fun _ => rfl) (fun r647 u647 hv => ?_)
                    refine cfI (pc' := 653) C (run_VI (rest := []) C lk_L_93 (mtX3_setSeason hv) ⟨by decide, by decide⟩ rfl rfl rfl rfl (Nat.le_of_ble_eq_true rfl) ⟨by rw [hR]; show _ ≤ 115; omega, by rw [hR]; show _ ≤ 2312; omega⟩ dL_law_650) rfl [0, 1, 2, 3, 4, 5, 6, 7, 8, 9, 10, 11, 12] [] [0, 1, 2, 3, 4, 5, 6, 7, 8, 9, 10, 11, 12] nd_LB di_LB (fun u650 => wB γ ad seen cnt pwc par amt held clos u650 seS leW leS) rfl rfl (fun _ => rfl) (fun r650 u650 hv => ?_)
                    refine g_pop (pc' := 654) C dL_law_653 rfl rfl ?_
                    refine g_aload_n (pc' := 655) C dL_law_654 rfl rfl rfl ?_
                    refine g_iload (pc' := 657) C dL_law_655 rfl rfl ?_
                    refine g_iload (pc' := 659) C dL_law_657 rfl rfl ?_
                    refine g_bipush (pc' := 661) (v := (101 : Int32)) C dL_law_659 rfl (by decide) ?_
                    refine cfI (pc' := 664) C (run_SI (rest := [.int r130, .ref (ad 0)]) C lk_L_66 (mtL_low hv) ⟨by decide, by decide⟩ rfl rfl (Nat.le_of_ble_eq_true rfl) ⟨by rw [hR]; show _ ≤ 115; omega, by rw [hR]; show _ ≤ 2312; omega⟩ dL_law_661) rfl [0, 1, 2, 3, 4, 5, 6, 7, 8, 9, 10, 11, 12] [] [0, 1, 2, 3, 4, 5, 6, 7, 8, 9, 10, 11, 12] nd_LH di_LH (fun u661 => wB γ ad seen cnt pwc par amt held clos u650 seS leW leS) rfl rfl (fun _ => rfl) (fun r661 u661 hv => ?_)
                    refine cfI (pc' := 667) C (run_VI (rest := []) C lk_L_93 (mtX3_setSeason hv) ⟨by decide, by decide⟩ rfl rfl rfl rfl (Nat.le_of_ble_eq_true rfl) ⟨by rw [hR]; show _ ≤ 115; omega, by rw [hR]; show _ ≤ 2312; omega⟩ dL_law_664) rfl [0, 1, 2, 3, 4, 5, 6, 7, 8, 9, 10, 11, 12] [] [0, 1, 2, 3, 4, 5, 6, 7, 8, 9, 10, 11, 12] nd_LB di_LB (fun u664 => wB γ ad seen cnt pwc par amt held clos u664 seS leW leS) rfl rfl (fun _ => rfl) (fun r664 u664 hv => ?_)
                    refine g_iload (pc' := 669) C dL_law_667 rfl rfl ?_
                    refine g_bipush (pc' := 671) (v := (101 : Int32)) C dL_law_669 rfl (by decide) ?_
                    refine cfI (pc' := 674) C (run_SI (rest := [.int r664]) C lk_L_66 (mtL_low hv) ⟨by decide, by decide⟩ rfl rfl (Nat.le_of_ble_eq_true rfl) ⟨by rw [hR]; show _ ≤ 115; omega, by rw [hR]; show _ ≤ 2312; omega⟩ dL_law_671) rfl [0, 1, 2, 3, 4, 5, 6, 7, 8, 9, 10, 11, 12] [] [0, 1, 2, 3, 4, 5, 6, 7, 8, 9, 10, 11, 12] nd_LH di_LH (fun u671 => wB γ ad seen cnt pwc par amt held clos u664 seS leW leS) rfl rfl (fun _ => rfl) (fun r671 u671 hv => ?_)
                    obtain ⟨hv1, hv2⟩ := hv
                    refine g_icmp_ne (pc' := 677) (tgt := 681) C dL_law_674 rfl (by decide) (fun c => ?_) (fun c => ?_)
                    · have hv := hv1 c
                      refine g_iconst (pc' := 682) (v := (0 : Int32)) C dL_law_681 rfl (by decide) ?_
                      refine g_sub (lv' := [(0, .ref b), (1, .ref (ad 0)), (2, .int x2), (4, .int x4), (5, .int x5), (7, .int r94), (8, .int r104), (9, .int r118), (10, .int r130)]) [6, 7, 8, 10, 11, 4, 3, 2, 1] rfl ?_
                      exact wvL_law_J682 hfl C hX hbl hbA hR RT (kb := 115 - 2 * n) (sb := 2312 - 12 * n) (fun x2 x3 x5 seen cnt pwc par amt held clos seW seS leW leS k1 s1 h1 h2 hv => ih x2 x3 x5 seen cnt pwc par amt held clos seW seS leW leS k1 s1 (by omega) (by omega) hv) (by omega) (by omega) (by omega) (by omega) hv
                    · have hv := hv2 c
                      refine g_iconst (pc' := 678) (v := (1 : Int32)) C dL_law_677 rfl (by decide) ?_
                      refine g_goto (tgt := 682) C dL_law_678 (by decide) ?_
                      refine g_sub (lv' := [(0, .ref b), (1, .ref (ad 0)), (2, .int x2), (4, .int x4), (5, .int x5), (7, .int r94), (8, .int r104), (9, .int r118), (10, .int r130)]) [6, 7, 8, 10, 11, 4, 3, 2, 1] rfl ?_
                      exact wvL_law_J682 hfl C hX hbl hbA hR RT (kb := 115 - 2 * n) (sb := 2312 - 12 * n) (fun x2 x3 x5 seen cnt pwc par amt held clos seW seS leW leS k1 s1 h1 h2 hv => ih x2 x3 x5 seen cnt pwc par amt held clos seW seS leW leS k1 s1 (by omega) (by omega) hv) (by omega) (by omega) (by omega) (by omega) hv
                · have hv := hv2 c
                  refine g_iload (pc' := 568) C dL_law_566 rfl rfl ?_
                  refine g_ldc (pc' := 570) C k_L_80 dL_law_568 rfl ?_
                  refine cfI (pc' := 573) C (run_SI (rest := []) C lk_L_66 (mtL_low hv) ⟨by decide, by decide⟩ rfl rfl (Nat.le_of_ble_eq_true rfl) ⟨by rw [hR]; show _ ≤ 115; omega, by rw [hR]; show _ ≤ 2312; omega⟩ dL_law_570) rfl [0, 1, 2, 3, 4, 5, 6, 7, 8, 9, 10, 11, 12] [] [0, 1, 2, 3, 4, 5, 6, 7, 8, 9, 10, 11, 12] nd_LH di_LH (fun u570 => wB γ ad seen cnt pwc par amt held clos seW seS leW leS) rfl rfl (fun _ => rfl) (fun r570 u570 hv => ?_)
                  refine g_istore (pc' := 575) (lv' := [(12, .int r570), (11, .int r142), (10, .int r130), (9, .int r118), (8, .int r104), (7, .int r94), (6, .int r84), (0, .ref b), (1, .ref (ad 0)), (2, .int x2), (3, .int x3), (4, .int x4), (5, .int x5)]) C dL_law_573 rfl (by decide) rfl ?_
                  refine g_aload_n (pc' := 576) C dL_law_575 rfl rfl rfl ?_
                  refine g_iload (pc' := 578) C dL_law_576 rfl rfl ?_
                  refine g_iload (pc' := 580) C dL_law_578 rfl rfl ?_
                  refine g_iconst (pc' := 581) (v := (2 : Int32)) C dL_law_580 rfl (by decide) ?_
                  refine cfI (pc' := 584) C (run_VI (rest := []) C lk_L_43 (mtX3_year hv) ⟨by decide, by decide⟩ rfl rfl rfl rfl (Nat.le_of_ble_eq_true rfl) ⟨by rw [hR]; show _ ≤ 115; omega, by rw [hR]; show _ ≤ 2312; omega⟩ dL_law_581) rfl [0, 1, 2, 3, 4, 5, 6, 7, 8, 9, 10, 11, 12] [] [0, 1, 2, 3, 4, 5, 6, 7, 8, 9, 10, 11, 12] nd_LB di_LB (fun u581 => wB γ ad seen cnt pwc par amt held clos seW seS leW leS) rfl rfl (fun _ => rfl) (fun r581 u581 hv => ?_)
                  refine g_istore (pc' := 586) (lv' := [(13, .int r581), (12, .int r570), (11, .int r142), (10, .int r130), (9, .int r118), (8, .int r104), (7, .int r94), (6, .int r84), (0, .ref b), (1, .ref (ad 0)), (2, .int x2), (3, .int x3), (4, .int x4), (5, .int x5)]) C dL_law_584 rfl (by decide) rfl ?_
                  refine g_aload_n (pc' := 587) C dL_law_586 rfl rfl rfl ?_
                  refine g_iload (pc' := 589) C dL_law_587 rfl rfl ?_
                  refine g_iload (pc' := 591) C dL_law_589 rfl rfl ?_
                  refine g_iload (pc' := 593) C dL_law_591 rfl rfl ?_
                  refine cfH (pc' := 596) C (run_SH (rest := []) C lk_L_90 (mtL_spreadYear hfl hv) ⟨by decide, by decide⟩ rfl rfl (Nat.le_of_ble_eq_true rfl) ⟨by rw [hR]; show _ ≤ 115; omega, by rw [hR]; show _ ≤ 2312; omega⟩ dL_law_593) rfl [0, 1, 2, 3, 4, 5, 6, 7, 8, 9, 10, 11, 12] [] [0, 1, 2, 3, 4, 5, 6, 7, 8, 9, 10, 11, 12] nd_LH di_LH (fun u593 => wB γ ad seen cnt pwc par u593.1 held clos seW u593.2.1 u593.2.2.1 u593.2.2.2) rfl rfl (fun _ => rfl) (fun r593 u593 hv => ?_)
                  refine g_istore (pc' := 598) (lv' := [(14, .int r593), (13, .int r581), (12, .int r570), (11, .int r142), (10, .int r130), (9, .int r118), (8, .int r104), (7, .int r94), (6, .int r84), (0, .ref b), (1, .ref (ad 0)), (2, .int x2), (3, .int x3), (4, .int x4), (5, .int x5)]) C dL_law_596 rfl (by decide) rfl ?_
                  refine g_aload_n (pc' := 599) C dL_law_598 rfl rfl rfl ?_
                  refine g_iload (pc' := 601) C dL_law_599 rfl rfl ?_
                  refine g_iload (pc' := 603) C dL_law_601 rfl rfl ?_
                  refine g_iconst (pc' := 604) (v := (2 : Int32)) C dL_law_603 rfl (by decide) ?_
                  refine cfI (pc' := 607) C (run_VI (rest := []) C lk_L_43 (mtX3_year hv) ⟨by decide, by decide⟩ rfl rfl rfl rfl (Nat.le_of_ble_eq_true rfl) ⟨by rw [hR]; show _ ≤ 115; omega, by rw [hR]; show _ ≤ 2312; omega⟩ dL_law_604) rfl [0, 1, 2, 3, 4, 5, 6, 7, 8, 9, 10, 11, 12] [] [0, 1, 2, 3, 4, 5, 6, 7, 8, 9, 10, 11, 12] nd_LB di_LB (fun u604 => wB γ ad seen cnt pwc par u593.1 held clos seW u593.2.1 u593.2.2.1 u593.2.2.2) rfl rfl (fun _ => rfl) (fun r604 u604 hv => ?_)
                  refine g_iload (pc' := 609) C dL_law_607 rfl rfl ?_
                  refine g_bipush (pc' := 611) (v := (-3 : Int32)) C dL_law_609 rfl (by decide) ?_
                  obtain ⟨hv1, hv2⟩ := hv
                  refine g_icmp_ne (pc' := 614) (tgt := 619) C dL_law_611 rfl (by decide) (fun c => ?_) (fun c => ?_)
                  · have hv := hv1 c
                    refine g_iload (pc' := 621) C dL_law_619 rfl rfl ?_
                    refine g_sub (lv' := [(0, .ref b), (1, .ref (ad 0)), (2, .int x2), (4, .int x4), (5, .int x5), (7, .int r94), (8, .int r104), (9, .int r118), (10, .int r130)]) [9, 10, 11, 13, 14, 7, 6, 5, 4] rfl ?_
                    exact wvL_law_J621 hfl C hX hbl hbA hR RT (kb := 115 - 2 * n) (sb := 2312 - 12 * n) (fun x2 x3 x5 seen cnt pwc par amt held clos seW seS leW leS k1 s1 h1 h2 hv => ih x2 x3 x5 seen cnt pwc par amt held clos seW seS leW leS k1 s1 (by omega) (by omega) hv) (by omega) (by omega) (by omega) (by omega) hv
                  · have hv := hv2 c
                    refine g_iload (pc' := 616) C dL_law_614 rfl rfl ?_
                    refine g_goto (tgt := 621) C dL_law_616 (by decide) ?_
                    refine g_sub (lv' := [(0, .ref b), (1, .ref (ad 0)), (2, .int x2), (4, .int x4), (5, .int x5), (7, .int r94), (8, .int r104), (9, .int r118), (10, .int r130)]) [9, 10, 11, 13, 14, 7, 6, 5, 4] rfl ?_
                    exact wvL_law_J621 hfl C hX hbl hbA hR RT (kb := 115 - 2 * n) (sb := 2312 - 12 * n) (fun x2 x3 x5 seen cnt pwc par amt held clos seW seS leW leS k1 s1 h1 h2 hv => ih x2 x3 x5 seen cnt pwc par amt held clos seW seS leW leS k1 s1 (by omega) (by omega) hv) (by omega) (by omega) (by omega) (by omega) hv
              · have hv := hv2 c
                refine g_iload (pc' := 420) C dL_law_418 rfl rfl ?_
                refine g_iload (pc' := 422) C dL_law_420 rfl rfl ?_
                refine g_bipush (pc' := 424) (v := (17 : Int32)) C dL_law_422 rfl (by decide) ?_
                refine g_ishr (pc' := 425) C dL_law_424 rfl ?_
                refine g_iconst (pc' := 426) (v := (2 : Int32)) C dL_law_425 rfl (by decide) ?_
                refine cfI (pc' := 429) C (run_SI (rest := [.int r84]) C lk_L_66 (mtL_low hv) ⟨by decide, by decide⟩ rfl rfl (Nat.le_of_ble_eq_true rfl) ⟨by rw [hR]; show _ ≤ 115; omega, by rw [hR]; show _ ≤ 2312; omega⟩ dL_law_426) rfl [0, 1, 2, 3, 4, 5, 6, 7, 8, 9, 10, 11, 12] [] [0, 1, 2, 3, 4, 5, 6, 7, 8, 9, 10, 11, 12] nd_LH di_LH (fun u426 => wB γ ad seen cnt pwc par amt held clos seW seS leW leS) rfl rfl (fun _ => rfl) (fun r426 u426 hv => ?_)
                obtain ⟨hv1, hv2⟩ := hv
                refine g_if_ne (pc' := 432) (tgt := 437) C dL_law_429 rfl (by decide) (fun c => ?_) (fun c => ?_)
                · have hv := hv1 c
                  refine g_sipush (pc' := 440) (v := (900 : Int32)) C dL_law_437 rfl (by decide) ?_
                  refine g_sub (lv' := [(0, .ref b), (1, .ref (ad 0)), (2, .int x2), (4, .int x4), (5, .int x5), (6, .int r84), (7, .int r94), (8, .int r104), (9, .int r118), (10, .int r130)]) [6, 7, 8, 10, 11, 5, 4, 3, 2, 1] rfl ?_
                  exact wvL_law_J440 hfl C hX hbl hbA hR RT (kb := 115 - 2 * n) (sb := 2312 - 12 * n) (fun x2 x3 x5 seen cnt pwc par amt held clos seW seS leW leS k1 s1 h1 h2 hv => ih x2 x3 x5 seen cnt pwc par amt held clos seW seS leW leS k1 s1 (by omega) (by omega) hv) (by omega) (by omega) (by omega) (by omega) hv
                · have hv := hv2 c
                  refine g_ldc (pc' := 434) C k_L_80 dL_law_432 rfl ?_
                  refine g_goto (tgt := 440) C dL_law_434 (by decide) ?_
                  refine g_sub (lv' := [(0, .ref b), (1, .ref (ad 0)), (2, .int x2), (4, .int x4), (5, .int x5), (6, .int r84), (7, .int r94), (8, .int r104), (9, .int r118), (10, .int r130)]) [6, 7, 8, 10, 11, 5, 4, 3, 2, 1] rfl ?_
                  exact wvL_law_J440 hfl C hX hbl hbA hR RT (kb := 115 - 2 * n) (sb := 2312 - 12 * n) (fun x2 x3 x5 seen cnt pwc par amt held clos seW seS leW leS k1 s1 h1 h2 hv => ih x2 x3 x5 seen cnt pwc par amt held clos seW seS leW leS k1 s1 (by omega) (by omega) hv) (by omega) (by omega) (by omega) (by omega) hv
            · have hv := hv2 c
              refine g_aload_n (pc' := 354) C dL_law_353 rfl rfl rfl ?_
              refine g_iload (pc' := 356) C dL_law_354 rfl rfl ?_
              refine cfI (pc' := 359) C (run_SI (rest := []) C lk_L_69 (mtL_isLeaf hv) ⟨by decide, by decide⟩ rfl rfl (Nat.le_of_ble_eq_true rfl) ⟨by rw [hR]; show _ ≤ 115; omega, by rw [hR]; show _ ≤ 2312; omega⟩ dL_law_356) rfl [0, 1, 2, 3, 4, 5, 6, 7, 8, 9, 10, 11, 12] [] [0, 1, 2, 3, 4, 5, 6, 7, 8, 9, 10, 11, 12] nd_LH di_LH (fun u356 => wB γ ad seen cnt pwc par amt held clos seW seS leW leS) rfl rfl (fun _ => rfl) (fun r356 u356 hv => ?_)
              obtain ⟨hv1, hv2⟩ := hv
              refine g_if_eq (pc' := 362) (tgt := 969) C dL_law_359 rfl (by decide) (fun c => ?_) (fun c => ?_)
              · have hv := hv1 c
                refine g_sub (lv' := [(0, .ref b), (1, .ref (ad 0)), (2, .int x2), (3, .int x3), (4, .int x4), (5, .int x5), (7, .int r94), (8, .int r104), (9, .int r118), (10, .int r130)]) [6, 7, 8, 9, 10, 11, 4, 3, 2, 1] rfl ?_
                exact wvL_law_J969 hfl C hX hbl hbA hR RT (kb := 115 - 2 * n) (sb := 2312 - 12 * n) (fun x2 x3 x5 seen cnt pwc par amt held clos seW seS leW leS k1 s1 h1 h2 hv => ih x2 x3 x5 seen cnt pwc par amt held clos seW seS leW leS k1 s1 (by omega) (by omega) hv) (by omega) (by omega) (by omega) (by omega) hv
              · have hv := hv2 c
                refine g_iload (pc' := 364) C dL_law_362 rfl rfl ?_
                refine g_iconst (pc' := 365) (v := (2 : Int32)) C dL_law_364 rfl (by decide) ?_
                refine cfI (pc' := 368) C (run_SI (rest := []) C lk_L_66 (mtL_low hv) ⟨by decide, by decide⟩ rfl rfl (Nat.le_of_ble_eq_true rfl) ⟨by rw [hR]; show _ ≤ 115; omega, by rw [hR]; show _ ≤ 2312; omega⟩ dL_law_365) rfl [0, 1, 2, 3, 4, 5, 6, 7, 8, 9, 10, 11, 12] [] [0, 1, 2, 3, 4, 5, 6, 7, 8, 9, 10, 11, 12] nd_LH di_LH (fun u365 => wB γ ad seen cnt pwc par amt held clos seW seS leW leS) rfl rfl (fun _ => rfl) (fun r365 u365 hv => ?_)
                obtain ⟨hv1, hv2⟩ := hv
                refine g_if_ne (pc' := 371) (tgt := 375) C dL_law_368 rfl (by decide) (fun c => ?_) (fun c => ?_)
                · have hv := hv1 c
                  refine g_iconst (pc' := 376) (v := (0 : Int32)) C dL_law_375 rfl (by decide) ?_
                  refine g_sub (lv' := [(0, .ref b), (1, .ref (ad 0)), (2, .int x2), (4, .int x4), (5, .int x5), (7, .int r94), (8, .int r104), (9, .int r118), (10, .int r130)]) [6, 7, 8, 10, 11, 4, 3, 2, 1] rfl ?_
                  exact wvL_law_J376 hfl C hX hbl hbA hR RT (kb := 115 - 2 * n) (sb := 2312 - 12 * n) (fun x2 x3 x5 seen cnt pwc par amt held clos seW seS leW leS k1 s1 h1 h2 hv => ih x2 x3 x5 seen cnt pwc par amt held clos seW seS leW leS k1 s1 (by omega) (by omega) hv) (by omega) (by omega) (by omega) (by omega) hv
                · have hv := hv2 c
                  refine g_iconst (pc' := 372) (v := (1 : Int32)) C dL_law_371 rfl (by decide) ?_
                  refine g_goto (tgt := 376) C dL_law_372 (by decide) ?_
                  refine g_sub (lv' := [(0, .ref b), (1, .ref (ad 0)), (2, .int x2), (4, .int x4), (5, .int x5), (7, .int r94), (8, .int r104), (9, .int r118), (10, .int r130)]) [6, 7, 8, 10, 11, 4, 3, 2, 1] rfl ?_
                  exact wvL_law_J376 hfl C hX hbl hbA hR RT (kb := 115 - 2 * n) (sb := 2312 - 12 * n) (fun x2 x3 x5 seen cnt pwc par amt held clos seW seS leW leS k1 s1 h1 h2 hv => ih x2 x3 x5 seen cnt pwc par amt held clos seW seS leW leS k1 s1 (by omega) (by omega) hv) (by omega) (by omega) (by omega) (by omega) hv
          · have hv := hv2 c
            refine g_iload (pc' := 259) C dL_law_257 rfl rfl ?_
            refine g_iconst (pc' := 260) (v := (3 : Int32)) C dL_law_259 rfl (by decide) ?_
            refine cfI (pc' := 263) C (run_SI (rest := []) C lk_L_66 (mtL_low hv) ⟨by decide, by decide⟩ rfl rfl (Nat.le_of_ble_eq_true rfl) ⟨by rw [hR]; show _ ≤ 115; omega, by rw [hR]; show _ ≤ 2312; omega⟩ dL_law_260) rfl [0, 1, 2, 3, 4, 5, 6, 7, 8, 9, 10, 11, 12] [] [0, 1, 2, 3, 4, 5, 6, 7, 8, 9, 10, 11, 12] nd_LH di_LH (fun u260 => wB γ ad seen cnt pwc par amt held clos seW seS leW leS) rfl rfl (fun _ => rfl) (fun r260 u260 hv => ?_)
            refine g_istore (pc' := 265) (lv' := [(12, .int r260), (11, .int r142), (10, .int r130), (9, .int r118), (8, .int r104), (7, .int r94), (6, .int r84), (0, .ref b), (1, .ref (ad 0)), (2, .int x2), (3, .int x3), (4, .int x4), (5, .int x5)]) C dL_law_263 rfl (by decide) rfl ?_
            refine g_iload (pc' := 267) C dL_law_265 rfl rfl ?_
            refine g_iconst (pc' := 268) (v := (2 : Int32)) C dL_law_267 rfl (by decide) ?_
            refine g_ishr (pc' := 269) C dL_law_268 rfl ?_
            refine g_iload (pc' := 271) C dL_law_269 rfl rfl ?_
            refine g_iconst (pc' := 272) (v := (2 : Int32)) C dL_law_271 rfl (by decide) ?_
            obtain ⟨hv1, hv2⟩ := hv
            refine g_icmp_ne (pc' := 275) (tgt := 280) C dL_law_272 rfl (by decide) (fun c => ?_) (fun c => ?_)
            · have hv := hv1 c
              refine g_sipush (pc' := 283) (v := (1001 : Int32)) C dL_law_280 rfl (by decide) ?_
              refine g_sub (lv' := [(0, .ref b), (1, .ref (ad 0)), (2, .int x2), (4, .int x4), (5, .int x5), (7, .int r94), (8, .int r104), (9, .int r118), (10, .int r130), (12, .int r260)]) [7, 8, 9, 11, 12, 5, 4, 3, 2, 0] rfl ?_
              exact wvL_law_J283 hfl C hX hbl hbA hR RT (kb := 115 - 2 * n) (sb := 2312 - 12 * n) (fun x2 x3 x5 seen cnt pwc par amt held clos seW seS leW leS k1 s1 h1 h2 hv => ih x2 x3 x5 seen cnt pwc par amt held clos seW seS leW leS k1 s1 (by omega) (by omega) hv) (by omega) (by omega) (by omega) (by omega) hv
            · have hv := hv2 c
              refine g_ldc (pc' := 277) C k_L_80 dL_law_275 rfl ?_
              refine g_goto (tgt := 283) C dL_law_277 (by decide) ?_
              refine g_sub (lv' := [(0, .ref b), (1, .ref (ad 0)), (2, .int x2), (4, .int x4), (5, .int x5), (7, .int r94), (8, .int r104), (9, .int r118), (10, .int r130), (12, .int r260)]) [7, 8, 9, 11, 12, 5, 4, 3, 2, 0] rfl ?_
              exact wvL_law_J283 hfl C hX hbl hbA hR RT (kb := 115 - 2 * n) (sb := 2312 - 12 * n) (fun x2 x3 x5 seen cnt pwc par amt held clos seW seS leW leS k1 s1 h1 h2 hv => ih x2 x3 x5 seen cnt pwc par amt held clos seW seS leW leS k1 s1 (by omega) (by omega) hv) (by omega) (by omega) (by omega) (by omega) hv
        · have hv := hv2 c
          refine g_aload_n (pc' := 154) C dL_law_153 rfl rfl rfl ?_
          refine cfI (pc' := 157) C (run_VI (rest := []) C lk_L_53 (mtX3_places hv) ⟨by decide, by decide⟩ rfl rfl rfl rfl (Nat.le_of_ble_eq_true rfl) ⟨by rw [hR]; show _ ≤ 115; omega, by rw [hR]; show _ ≤ 2312; omega⟩ dL_law_154) rfl [0, 1, 2, 3, 4, 5, 6, 7, 8, 9, 10, 11, 12] [] [0, 1, 2, 3, 4, 5, 6, 7, 8, 9, 10, 11, 12] nd_LB di_LB (fun u154 => wB γ ad seen cnt pwc par amt held clos seW seS leW leS) rfl rfl (fun _ => rfl) (fun r154 u154 hv => ?_)
          refine g_istore (pc' := 159) (lv' := [(12, .int r154), (11, .int r142), (10, .int r130), (9, .int r118), (8, .int r104), (7, .int r94), (6, .int r84), (0, .ref b), (1, .ref (ad 0)), (2, .int x2), (3, .int x3), (4, .int x4), (5, .int x5)]) C dL_law_157 rfl (by decide) rfl ?_
          refine g_aload_n (pc' := 160) C dL_law_159 rfl rfl rfl ?_
          refine g_iload (pc' := 162) C dL_law_160 rfl rfl ?_
          refine cfI (pc' := 165) C (run_SI (rest := []) C lk_L_69 (mtL_isLeaf hv) ⟨by decide, by decide⟩ rfl rfl (Nat.le_of_ble_eq_true rfl) ⟨by rw [hR]; show _ ≤ 115; omega, by rw [hR]; show _ ≤ 2312; omega⟩ dL_law_162) rfl [0, 1, 2, 3, 4, 5, 6, 7, 8, 9, 10, 11, 12] [] [0, 1, 2, 3, 4, 5, 6, 7, 8, 9, 10, 11, 12] nd_LH di_LH (fun u162 => wB γ ad seen cnt pwc par amt held clos seW seS leW leS) rfl rfl (fun _ => rfl) (fun r162 u162 hv => ?_)
          refine g_istore (pc' := 167) (lv' := [(13, .int r162), (12, .int r154), (11, .int r142), (10, .int r130), (9, .int r118), (8, .int r104), (7, .int r94), (6, .int r84), (0, .ref b), (1, .ref (ad 0)), (2, .int x2), (3, .int x3), (4, .int x4), (5, .int x5)]) C dL_law_165 rfl (by decide) rfl ?_
          refine g_aload_n (pc' := 168) C dL_law_167 rfl rfl rfl ?_
          refine g_iload (pc' := 170) C dL_law_168 rfl rfl ?_
          refine cfH (pc' := 173) C (run_SH (rest := []) C lk_L_73 (mtL_add hfl hv) ⟨by decide, by decide⟩ rfl rfl (Nat.le_of_ble_eq_true rfl) ⟨by rw [hR]; show _ ≤ 115; omega, by rw [hR]; show _ ≤ 2312; omega⟩ dL_law_170) rfl [0, 1, 2, 3, 4, 5, 6, 7, 8, 9, 10, 11, 12] [] [0, 1, 2, 3, 4, 5, 6, 7, 8, 9, 10, 11, 12] nd_LH di_LH (fun u170 => wB γ ad seen u170.1 u170.2.1 u170.2.2 amt held clos seW seS leW leS) rfl rfl (fun _ => rfl) (fun r170 u170 hv => ?_)
          refine g_istore (pc' := 175) (lv' := [(14, .int r170), (13, .int r162), (12, .int r154), (11, .int r142), (10, .int r130), (9, .int r118), (8, .int r104), (7, .int r94), (6, .int r84), (0, .ref b), (1, .ref (ad 0)), (2, .int x2), (3, .int x3), (4, .int x4), (5, .int x5)]) C dL_law_173 rfl (by decide) rfl ?_
          refine g_iload (pc' := 177) C dL_law_175 rfl rfl ?_
          refine g_bipush (pc' := 179) (v := (-3 : Int32)) C dL_law_177 rfl (by decide) ?_
          obtain ⟨hv1, hv2⟩ := hv
          refine g_icmp_ne (pc' := 182) (tgt := 202) C dL_law_179 rfl (by decide) (fun c => ?_) (fun c => ?_)
          · have hv := hv1 c
            refine g_iload (pc' := 204) C dL_law_202 rfl rfl ?_
            refine g_iload (pc' := 206) C dL_law_204 rfl rfl ?_
            obtain ⟨hv1, hv2⟩ := hv
            refine g_icmp_ne (pc' := 209) (tgt := 245) C dL_law_206 rfl (by decide) (fun c => ?_) (fun c => ?_)
            · have hv := hv1 c
              refine g_sub (lv' := [(0, .ref b), (1, .ref (ad 0)), (2, .int x2), (4, .int x4), (5, .int x5), (7, .int r94), (8, .int r104), (9, .int r118), (10, .int r130)]) [9, 10, 11, 13, 14, 7, 6, 5, 4] rfl ?_
              exact wvL_law_J245 hfl C hX hbl hbA hR RT (kb := 115 - 2 * n) (sb := 2312 - 12 * n) (fun x2 x3 x5 seen cnt pwc par amt held clos seW seS leW leS k1 s1 h1 h2 hv => ih x2 x3 x5 seen cnt pwc par amt held clos seW seS leW leS k1 s1 (by omega) (by omega) hv) (by omega) (by omega) (by omega) (by omega) hv
            · have hv := hv2 c
              refine g_aload_n (pc' := 210) C dL_law_209 rfl rfl rfl ?_
              refine g_iload (pc' := 212) C dL_law_210 rfl rfl ?_
              refine cfI (pc' := 215) C (run_SI (rest := []) C lk_L_69 (mtL_isLeaf hv) ⟨by decide, by decide⟩ rfl rfl (Nat.le_of_ble_eq_true rfl) ⟨by rw [hR]; show _ ≤ 115; omega, by rw [hR]; show _ ≤ 2312; omega⟩ dL_law_212) rfl [0, 1, 2, 3, 4, 5, 6, 7, 8, 9, 10, 11, 12] [] [0, 1, 2, 3, 4, 5, 6, 7, 8, 9, 10, 11, 12] nd_LH di_LH (fun u212 => wB γ ad seen u170.1 u170.2.1 u170.2.2 amt held clos seW seS leW leS) rfl rfl (fun _ => rfl) (fun r212 u212 hv => ?_)
              obtain ⟨hv1, hv2⟩ := hv
              refine g_if_eq (pc' := 218) (tgt := 245) C dL_law_215 rfl (by decide) (fun c => ?_) (fun c => ?_)
              · have hv := hv1 c
                refine g_sub (lv' := [(0, .ref b), (1, .ref (ad 0)), (2, .int x2), (4, .int x4), (5, .int x5), (7, .int r94), (8, .int r104), (9, .int r118), (10, .int r130)]) [9, 10, 11, 13, 14, 7, 6, 5, 4] rfl ?_
                exact wvL_law_J245 hfl C hX hbl hbA hR RT (kb := 115 - 2 * n) (sb := 2312 - 12 * n) (fun x2 x3 x5 seen cnt pwc par amt held clos seW seS leW leS k1 s1 h1 h2 hv => ih x2 x3 x5 seen cnt pwc par amt held clos seW seS leW leS k1 s1 (by omega) (by omega) hv) (by omega) (by omega) (by omega) (by omega) hv
              · have hv := hv2 c
                refine g_aload_n (pc' := 219) C dL_law_218 rfl rfl rfl ?_
                refine g_iload (pc' := 221) C dL_law_219 rfl rfl ?_
                refine cfI (pc' := 224) C (run_SI (rest := []) C lk_L_69 (mtL_isLeaf hv) ⟨by decide, by decide⟩ rfl rfl (Nat.le_of_ble_eq_true rfl) ⟨by rw [hR]; show _ ≤ 115; omega, by rw [hR]; show _ ≤ 2312; omega⟩ dL_law_221) rfl [0, 1, 2, 3, 4, 5, 6, 7, 8, 9, 10, 11, 12] [] [0, 1, 2, 3, 4, 5, 6, 7, 8, 9, 10, 11, 12] nd_LH di_LH (fun u221 => wB γ ad seen u170.1 u170.2.1 u170.2.2 amt held clos seW seS leW leS) rfl rfl (fun _ => rfl) (fun r221 u221 hv => ?_)
                obtain ⟨hv1, hv2⟩ := hv
                refine g_if_ne (pc' := 227) (tgt := 245) C dL_law_224 rfl (by decide) (fun c => ?_) (fun c => ?_)
                · have hv := hv1 c
                  refine g_sub (lv' := [(0, .ref b), (1, .ref (ad 0)), (2, .int x2), (4, .int x4), (5, .int x5), (7, .int r94), (8, .int r104), (9, .int r118), (10, .int r130)]) [9, 10, 11, 13, 14, 7, 6, 5, 4] rfl ?_
                  exact wvL_law_J245 hfl C hX hbl hbA hR RT (kb := 115 - 2 * n) (sb := 2312 - 12 * n) (fun x2 x3 x5 seen cnt pwc par amt held clos seW seS leW leS k1 s1 h1 h2 hv => ih x2 x3 x5 seen cnt pwc par amt held clos seW seS leW leS k1 s1 (by omega) (by omega) hv) (by omega) (by omega) (by omega) (by omega) hv
                · have hv := hv2 c
                  refine g_aload_n (pc' := 228) C dL_law_227 rfl rfl rfl ?_
                  refine g_iload (pc' := 230) C dL_law_228 rfl rfl ?_
                  refine g_iload (pc' := 232) C dL_law_230 rfl rfl ?_
                  refine g_iconst (pc' := 233) (v := (2 : Int32)) C dL_law_232 rfl (by decide) ?_
                  refine g_iload (pc' := 235) C dL_law_233 rfl rfl ?_
                  refine cfI (pc' := 238) C (run_VI (rest := []) C lk_L_77 (mtX3_amount hv) ⟨by decide, by decide⟩ rfl rfl rfl rfl (Nat.le_of_ble_eq_true rfl) ⟨by rw [hR]; show _ ≤ 115; omega, by rw [hR]; show _ ≤ 2312; omega⟩ dL_law_235) rfl [0, 1, 2, 3, 4, 5, 6, 7, 8, 9, 10, 11, 12] [] [0, 1, 2, 3, 4, 5, 6, 7, 8, 9, 10, 11, 12] nd_LB di_LB (fun u235 => wB γ ad seen u170.1 u170.2.1 u170.2.2 amt held clos seW seS leW leS) rfl rfl (fun _ => rfl) (fun r235 u235 hv => ?_)
                  obtain ⟨hv1, hv2⟩ := hv
                  refine g_if_ne (pc' := 241) (tgt := 245) C dL_law_238 rfl (by decide) (fun c => ?_) (fun c => ?_)
                  · have hv := hv1 c
                    refine g_sub (lv' := [(0, .ref b), (1, .ref (ad 0)), (2, .int x2), (4, .int x4), (5, .int x5), (7, .int r94), (8, .int r104), (9, .int r118), (10, .int r130)]) [9, 10, 11, 13, 14, 7, 6, 5, 4] rfl ?_
                    exact wvL_law_J245 hfl C hX hbl hbA hR RT (kb := 115 - 2 * n) (sb := 2312 - 12 * n) (fun x2 x3 x5 seen cnt pwc par amt held clos seW seS leW leS k1 s1 h1 h2 hv => ih x2 x3 x5 seen cnt pwc par amt held clos seW seS leW leS k1 s1 (by omega) (by omega) hv) (by omega) (by omega) (by omega) (by omega) hv
                  · have hv := hv2 c
                    refine g_iconst (pc' := 242) (v := (1 : Int32)) C dL_law_241 rfl (by decide) ?_
                    refine g_goto (tgt := 246) C dL_law_242 (by decide) ?_
                    refine g_sub (lv' := [(0, .ref b), (1, .ref (ad 0)), (2, .int x2), (4, .int x4), (5, .int x5), (7, .int r94), (8, .int r104), (9, .int r118), (10, .int r130)]) [9, 10, 11, 13, 14, 7, 6, 5, 4] rfl ?_
                    exact wvL_law_J246 hfl C hX hbl hbA hR RT (kb := 115 - 2 * n) (sb := 2312 - 12 * n) (fun x2 x3 x5 seen cnt pwc par amt held clos seW seS leW leS k1 s1 h1 h2 hv => ih x2 x3 x5 seen cnt pwc par amt held clos seW seS leW leS k1 s1 (by omega) (by omega) hv) (by omega) (by omega) (by omega) (by omega) hv
          · have hv := hv2 c
            refine g_iload (pc' := 184) C dL_law_182 rfl rfl ?_
            refine g_bipush (pc' := 186) (v := (10 : Int32)) C dL_law_184 rfl (by decide) ?_
            obtain ⟨hv1, hv2⟩ := hv
            refine g_icmp_eq (pc' := 189) (tgt := 194) C dL_law_186 rfl (by decide) (fun c => ?_) (fun c => ?_)
            · have hv := hv1 c
              refine g_sub (lv' := [(0, .ref b), (1, .ref (ad 0)), (2, .int x2), (4, .int x4), (5, .int x5), (7, .int r94), (8, .int r104), (9, .int r118), (10, .int r130)]) [9, 10, 11, 13, 14, 7, 6, 5, 4] rfl ?_
              exact wvL_law_J194 hfl C hX hbl hbA hR RT (kb := 115 - 2 * n) (sb := 2312 - 12 * n) (fun x2 x3 x5 seen cnt pwc par amt held clos seW seS leW leS k1 s1 h1 h2 hv => ih x2 x3 x5 seen cnt pwc par amt held clos seW seS leW leS k1 s1 (by omega) (by omega) hv) (by omega) (by omega) (by omega) (by omega) hv
            · have hv := hv2 c
              refine g_iload (pc' := 191) C dL_law_189 rfl rfl ?_
              obtain ⟨hv1, hv2⟩ := hv
              refine g_if_eq (pc' := 194) (tgt := 198) C dL_law_191 rfl (by decide) (fun c => ?_) (fun c => ?_)
              · have hv := hv1 c
                refine g_iconst (pc' := 199) (v := (0 : Int32)) C dL_law_198 rfl (by decide) ?_
                refine g_goto (tgt := 246) C dL_law_199 (by decide) ?_
                refine g_sub (lv' := [(0, .ref b), (1, .ref (ad 0)), (2, .int x2), (4, .int x4), (5, .int x5), (7, .int r94), (8, .int r104), (9, .int r118), (10, .int r130)]) [9, 10, 11, 13, 14, 7, 6, 5, 4] rfl ?_
                exact wvL_law_J246 hfl C hX hbl hbA hR RT (kb := 115 - 2 * n) (sb := 2312 - 12 * n) (fun x2 x3 x5 seen cnt pwc par amt held clos seW seS leW leS k1 s1 h1 h2 hv => ih x2 x3 x5 seen cnt pwc par amt held clos seW seS leW leS k1 s1 (by omega) (by omega) hv) (by omega) (by omega) (by omega) (by omega) hv
              · have hv := hv2 c
                refine g_sub (lv' := [(0, .ref b), (1, .ref (ad 0)), (2, .int x2), (4, .int x4), (5, .int x5), (7, .int r94), (8, .int r104), (9, .int r118), (10, .int r130)]) [9, 10, 11, 13, 14, 7, 6, 5, 4] rfl ?_
                exact wvL_law_J194 hfl C hX hbl hbA hR RT (kb := 115 - 2 * n) (sb := 2312 - 12 * n) (fun x2 x3 x5 seen cnt pwc par amt held clos seW seS leW leS k1 s1 h1 h2 hv => ih x2 x3 x5 seen cnt pwc par amt held clos seW seS leW leS k1 s1 (by omega) (by omega) hv) (by omega) (by omega) (by omega) (by omega) hv
def vL_law_J49 (seen : Int32) (cnt : Int32) (pwc : Int32) (par : Ar) (amt : Ar) (held : Ar) (clos : Ar) (seW : Ar) (seS : Ar) (leW : Ar) (leS : Ar) (x2 : Int32) (s0 : Int32) (xs : Nat → Int32) (L : Nat) : Prop := (vL_cell xs L (0 : Int32) (fun r54 => (vL_low r54 (45 : Int32) (fun r59 => (vL_law_L68 ((6 : Int32) + r59) xs L 51 x2 s0 (0 : Int32) seen cnt pwc par amt held clos seW seS leW leS)))))
set_option maxHeartbeats 4000000 in
set_option maxRecDepth 100000 in
theorem wvL_law_J49 {l : Launch} {γ : Gm} {κ : Kx} {ad : Nat → Nat} {seen : Int32} {cnt : Int32} {pwc : Int32} {par : Ar} {amt : Ar} {held : Ar} {clos : Ar} {seW : Ar} {seS : Ar} {leW : Ar} {leS : Ar} {x2 : Int32} {s0 : Int32} {xs : Nat → Int32} {b L : Nat} (hfl : l.stackTraces = false) (C : Ok γ κ cL_law 15 RL 11 412) (hX : va_X b L xs κ.s κ.s.heap) (hbl : b < κ.s.heap.size) (hbA : ¬ κ.A b) (hR : κ.R = room_1) (RT : RtL l γ κ) {k9 s9 : Nat} (hk : k9 + 0 ≤ 13) (hs : s9 + 0 ≤ 1528) (hv : vL_law_J49 seen cnt pwc par amt held clos seW seS leW leS x2 s0 xs L) : G l γ κ (wB γ ad seen cnt pwc par amt held clos seW seS leW leS) [(0, .ref b), (1, .ref (ad 0)), (2, .int x2)] k9 s9 [.int s0] 49 := by
  refine g_istore_n (pc' := 50) (lv' := [(3, .int s0), (0, .ref b), (1, .ref (ad 0)), (2, .int x2)]) C dL_law_49 rfl rfl (by decide) rfl ?_
  refine g_bipush (pc' := 52) (v := (6 : Int32)) C dL_law_50 rfl (by decide) ?_
  refine g_aload_n (pc' := 53) C dL_law_52 rfl rfl rfl ?_
  refine g_iconst (pc' := 54) (v := (0 : Int32)) C dL_law_53 rfl (by decide) ?_
  refine csS (pc' := 57) (rest := [.int (6 : Int32)]) C hX hbl hbA lk_L_62 (mtL_cell hv) ⟨by decide, by decide⟩ rfl rfl (Nat.le_of_ble_eq_true rfl) ⟨by rw [hR]; show _ ≤ 115; omega, by rw [hR]; show _ ≤ 2312; omega⟩ dL_law_54 rfl (fun r54 hv => ?_)
  refine g_bipush (pc' := 59) (v := (45 : Int32)) C dL_law_57 rfl (by decide) ?_
  refine cfI (pc' := 62) C (run_SI (rest := [.int (6 : Int32)]) C lk_L_66 (mtL_low hv) ⟨by decide, by decide⟩ rfl rfl (Nat.le_of_ble_eq_true rfl) ⟨by rw [hR]; show _ ≤ 115; omega, by rw [hR]; show _ ≤ 2312; omega⟩ dL_law_59) rfl [0, 1, 2, 3, 4, 5, 6, 7, 8, 9, 10, 11, 12] [] [0, 1, 2, 3, 4, 5, 6, 7, 8, 9, 10, 11, 12] nd_LH di_LH (fun u59 => wB γ ad seen cnt pwc par amt held clos seW seS leW leS) rfl rfl (fun _ => rfl) (fun r59 u59 hv => ?_)
  refine g_iadd (pc' := 63) C dL_law_62 rfl ?_
  refine g_istore (pc' := 65) (lv' := [(4, .int ((6 : Int32) + r59)), (3, .int s0), (0, .ref b), (1, .ref (ad 0)), (2, .int x2)]) C dL_law_63 rfl (by decide) rfl ?_
  refine g_iconst (pc' := 66) (v := (0 : Int32)) C dL_law_65 rfl (by decide) ?_
  refine g_istore (pc' := 68) (lv' := [(5, .int (0 : Int32)), (4, .int ((6 : Int32) + r59)), (3, .int s0), (0, .ref b), (1, .ref (ad 0)), (2, .int x2)]) C dL_law_66 rfl (by decide) rfl ?_
  refine g_sub (lv' := [(0, .ref b), (1, .ref (ad 0)), (2, .int x2), (3, .int s0), (4, .int ((6 : Int32) + r59)), (5, .int (0 : Int32))]) [3, 4, 5, 2, 1, 0] rfl ?_
  exact wvL_law_L68 hfl C hX hbl hbA hR RT  51 _ _ _ _ _ _ _ _ _ _ _ _ _ _ _ _ (by omega) (by omega) hv
def vL_law_J48 (seen : Int32) (cnt : Int32) (pwc : Int32) (par : Ar) (amt : Ar) (held : Ar) (clos : Ar) (seW : Ar) (seS : Ar) (leW : Ar) (leS : Ar) (x2 : Int32) (xs : Nat → Int32) (L : Nat) : Prop := (vL_law_J49 seen cnt pwc par amt held clos seW seS leW leS x2 (0 : Int32) xs L)
set_option maxHeartbeats 4000000 in
set_option maxRecDepth 100000 in
theorem wvL_law_J48 {l : Launch} {γ : Gm} {κ : Kx} {ad : Nat → Nat} {seen : Int32} {cnt : Int32} {pwc : Int32} {par : Ar} {amt : Ar} {held : Ar} {clos : Ar} {seW : Ar} {seS : Ar} {leW : Ar} {leS : Ar} {x2 : Int32} {xs : Nat → Int32} {b L : Nat} (hfl : l.stackTraces = false) (C : Ok γ κ cL_law 15 RL 11 412) (hX : va_X b L xs κ.s κ.s.heap) (hbl : b < κ.s.heap.size) (hbA : ¬ κ.A b) (hR : κ.R = room_1) (RT : RtL l γ κ) {k9 s9 : Nat} (hk : k9 + 0 ≤ 13) (hs : s9 + 0 ≤ 1528) (hv : vL_law_J48 seen cnt pwc par amt held clos seW seS leW leS x2 xs L) : G l γ κ (wB γ ad seen cnt pwc par amt held clos seW seS leW leS) [(0, .ref b), (1, .ref (ad 0)), (2, .int x2)] k9 s9 [] 48 := by
  refine g_iconst (pc' := 49) (v := (0 : Int32)) C dL_law_48 rfl (by decide) ?_
  exact wvL_law_J49 hfl C hX hbl hbA hR RT (by omega) (by omega) hv
def vL_law_J8 (seen : Int32) (cnt : Int32) (pwc : Int32) (par : Ar) (amt : Ar) (held : Ar) (clos : Ar) (seW : Ar) (seS : Ar) (leW : Ar) (leS : Ar) (xs : Nat → Int32) (L : Nat) : Prop := (vX3_places cnt (fun r11 => ((¬ r11 = (1 : Int32) → (vL_law_J48 seen cnt pwc par amt held clos seW seS leW leS (0 : Int32) xs L)) ∧ (r11 = (1 : Int32) → (vX3_leaves cnt pwc par (0 : Int32) (fun r20 => ((¬ r20 = (1 : Int32) → (vL_law_J48 seen cnt pwc par amt held clos seW seS leW leS (0 : Int32) xs L)) ∧ (r20 = (1 : Int32) → (vX3_filled amt (fun r28 => ((¬ r28 = (0 : Int32) → (vL_law_J48 seen cnt pwc par amt held clos seW seS leW leS (0 : Int32) xs L)) ∧ (r28 = (0 : Int32) → (vL_holds cnt pwc par amt (0 : Int32) (1 : Int32) (0 : Int32) (fun r38 => ((r38 = (0 : Int32) → (vL_law_J48 seen cnt pwc par amt held clos seW seS leW leS (0 : Int32) xs L)) ∧ (¬ r38 = (0 : Int32) → (vL_law_J49 seen cnt pwc par amt held clos seW seS leW leS (0 : Int32) (1 : Int32) xs L)))))))))))))))))
set_option maxHeartbeats 4000000 in
set_option maxRecDepth 100000 in
theorem wvL_law_J8 {l : Launch} {γ : Gm} {κ : Kx} {ad : Nat → Nat} {seen : Int32} {cnt : Int32} {pwc : Int32} {par : Ar} {amt : Ar} {held : Ar} {clos : Ar} {seW : Ar} {seS : Ar} {leW : Ar} {leS : Ar} {xs : Nat → Int32} {b L : Nat} (hfl : l.stackTraces = false) (C : Ok γ κ cL_law 15 RL 11 412) (hX : va_X b L xs κ.s κ.s.heap) (hbl : b < κ.s.heap.size) (hbA : ¬ κ.A b) (hR : κ.R = room_1) (RT : RtL l γ κ) {k9 s9 : Nat} (hk : k9 + 0 ≤ 13) (hs : s9 + 0 ≤ 1528) (hv : vL_law_J8 seen cnt pwc par amt held clos seW seS leW leS xs L) : G l γ κ (wB γ ad seen cnt pwc par amt held clos seW seS leW leS) [(0, .ref b), (1, .ref (ad 0))] k9 s9 [] 8 := by
  refine g_iconst (pc' := 9) (v := (0 : Int32)) C dL_law_8 rfl (by decide) ?_
  refine g_istore_n (pc' := 10) (lv' := [(2, .int (0 : Int32)), (0, .ref b), (1, .ref (ad 0))]) C dL_law_9 rfl rfl (by decide) rfl ?_
  refine g_aload_n (pc' := 11) C dL_law_10 rfl rfl rfl ?_
  refine cfI (pc' := 14) C (run_VI (rest := []) C lk_L_53 (mtX3_places hv) ⟨by decide, by decide⟩ rfl rfl rfl rfl (Nat.le_of_ble_eq_true rfl) ⟨by rw [hR]; show _ ≤ 115; omega, by rw [hR]; show _ ≤ 2312; omega⟩ dL_law_11) rfl [0, 1, 2, 3, 4, 5, 6, 7, 8, 9, 10, 11, 12] [] [0, 1, 2, 3, 4, 5, 6, 7, 8, 9, 10, 11, 12] nd_LB di_LB (fun u11 => wB γ ad seen cnt pwc par amt held clos seW seS leW leS) rfl rfl (fun _ => rfl) (fun r11 u11 hv => ?_)
  refine g_iconst (pc' := 15) (v := (1 : Int32)) C dL_law_14 rfl (by decide) ?_
  obtain ⟨hv1, hv2⟩ := hv
  refine g_icmp_ne (pc' := 18) (tgt := 48) C dL_law_15 rfl (by decide) (fun c => ?_) (fun c => ?_)
  · have hv := hv1 c
    refine g_sub (lv' := [(0, .ref b), (1, .ref (ad 0)), (2, .int (0 : Int32))]) [1, 2, 0] rfl ?_
    exact wvL_law_J48 hfl C hX hbl hbA hR RT (by omega) (by omega) hv
  · have hv := hv2 c
    refine g_aload_n (pc' := 19) C dL_law_18 rfl rfl rfl ?_
    refine g_iconst (pc' := 20) (v := (0 : Int32)) C dL_law_19 rfl (by decide) ?_
    refine cfI (pc' := 23) C (run_VI (rest := []) C lk_L_40 (mtX3_leaves hv) ⟨by decide, by decide⟩ rfl rfl rfl rfl (Nat.le_of_ble_eq_true rfl) ⟨by rw [hR]; show _ ≤ 115; omega, by rw [hR]; show _ ≤ 2312; omega⟩ dL_law_20) rfl [0, 1, 2, 3, 4, 5, 6, 7, 8, 9, 10, 11, 12] [] [0, 1, 2, 3, 4, 5, 6, 7, 8, 9, 10, 11, 12] nd_LB di_LB (fun u20 => wB γ ad seen cnt pwc par amt held clos seW seS leW leS) rfl rfl (fun _ => rfl) (fun r20 u20 hv => ?_)
    refine g_iconst (pc' := 24) (v := (1 : Int32)) C dL_law_23 rfl (by decide) ?_
    obtain ⟨hv1, hv2⟩ := hv
    refine g_icmp_ne (pc' := 27) (tgt := 48) C dL_law_24 rfl (by decide) (fun c => ?_) (fun c => ?_)
    · have hv := hv1 c
      refine g_sub (lv' := [(0, .ref b), (1, .ref (ad 0)), (2, .int (0 : Int32))]) [1, 2, 0] rfl ?_
      exact wvL_law_J48 hfl C hX hbl hbA hR RT (by omega) (by omega) hv
    · have hv := hv2 c
      refine g_aload_n (pc' := 28) C dL_law_27 rfl rfl rfl ?_
      refine cfI (pc' := 31) C (run_VI (rest := []) C lk_L_36 (mtX3_filled hv) ⟨by decide, by decide⟩ rfl rfl rfl rfl (Nat.le_of_ble_eq_true rfl) ⟨by rw [hR]; show _ ≤ 115; omega, by rw [hR]; show _ ≤ 2312; omega⟩ dL_law_28) rfl [0, 1, 2, 3, 4, 5, 6, 7, 8, 9, 10, 11, 12] [] [0, 1, 2, 3, 4, 5, 6, 7, 8, 9, 10, 11, 12] nd_LB di_LB (fun u28 => wB γ ad seen cnt pwc par amt held clos seW seS leW leS) rfl rfl (fun _ => rfl) (fun r28 u28 hv => ?_)
      obtain ⟨hv1, hv2⟩ := hv
      refine g_if_ne (pc' := 34) (tgt := 48) C dL_law_31 rfl (by decide) (fun c => ?_) (fun c => ?_)
      · have hv := hv1 c
        refine g_sub (lv' := [(0, .ref b), (1, .ref (ad 0)), (2, .int (0 : Int32))]) [1, 2, 0] rfl ?_
        exact wvL_law_J48 hfl C hX hbl hbA hR RT (by omega) (by omega) hv
      · have hv := hv2 c
        refine g_aload_n (pc' := 35) C dL_law_34 rfl rfl rfl ?_
        refine g_iconst (pc' := 36) (v := (0 : Int32)) C dL_law_35 rfl (by decide) ?_
        refine g_iconst (pc' := 37) (v := (1 : Int32)) C dL_law_36 rfl (by decide) ?_
        refine g_iconst (pc' := 38) (v := (0 : Int32)) C dL_law_37 rfl (by decide) ?_
        refine cfI (pc' := 41) C (run_SI (rest := []) C lk_L_56 (mtL_holds hv) ⟨by decide, by decide⟩ rfl rfl (Nat.le_of_ble_eq_true rfl) ⟨by rw [hR]; show _ ≤ 115; omega, by rw [hR]; show _ ≤ 2312; omega⟩ dL_law_38) rfl [0, 1, 2, 3, 4, 5, 6, 7, 8, 9, 10, 11, 12] [] [0, 1, 2, 3, 4, 5, 6, 7, 8, 9, 10, 11, 12] nd_LH di_LH (fun u38 => wB γ ad seen cnt pwc par amt held clos seW seS leW leS) rfl rfl (fun _ => rfl) (fun r38 u38 hv => ?_)
        obtain ⟨hv1, hv2⟩ := hv
        refine g_if_eq (pc' := 44) (tgt := 48) C dL_law_41 rfl (by decide) (fun c => ?_) (fun c => ?_)
        · have hv := hv1 c
          refine g_sub (lv' := [(0, .ref b), (1, .ref (ad 0)), (2, .int (0 : Int32))]) [1, 2, 0] rfl ?_
          exact wvL_law_J48 hfl C hX hbl hbA hR RT (by omega) (by omega) hv
        · have hv := hv2 c
          refine g_iconst (pc' := 45) (v := (1 : Int32)) C dL_law_44 rfl (by decide) ?_
          refine g_goto (tgt := 49) C dL_law_45 (by decide) ?_
          refine g_sub (lv' := [(0, .ref b), (1, .ref (ad 0)), (2, .int (0 : Int32))]) [1, 2, 0] rfl ?_
          exact wvL_law_J49 hfl C hX hbl hbA hR RT (by omega) (by omega) hv
