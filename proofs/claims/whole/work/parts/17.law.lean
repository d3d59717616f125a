/-! the law, by program -/
def RtL (l : Launch) (γ : Gm) (κ : Kx) : Prop := ∀ (ws : va_W) (lv : List (Nat × Value)) (k n pc : Nat), decode cL_law pc = .ok (.ireturn, 1) → k ≤ 1063 → n ≤ 11476 → G l γ κ ws lv k n [.int 1] pc
def vL_law_J455 (seen : Int32) (cnt : Int32) (pwc : Int32) (par : Ar) (amt : Ar) (held : Ar) (clos : Ar) (seW : Ar) (seS : Ar) (leW : Ar) (leS : Ar) (pl : Int32) (msn : Int32) (thr : Int32) (mpar : Ar) (mcel : Ar) (mhel : Ar) (mclo : Ar) (msea : Ar) (mwei : Ar) (msha : Ar) (mmon : Ar) (out : (Nat → Int64)) (x4 : Int32) (s0 : Int64) (s1 : Int64) (K23 : Int32 → Int32 → Int32 → Int32 → Ar → Ar → Ar → Ar → Ar → Ar → Ar → Ar → Int32 → Int32 → Int32 → Ar → Ar → Ar → Ar → Ar → Ar → Ar → Ar → (Nat → Int64) → Prop) (xs : Nat → Int32) (L : Nat) : Prop := (((lg_cmp s1 s0) = (0 : Int32) → (K23 (x4 + (6 : Int32)) seen cnt pwc par amt held clos seW seS leW leS pl msn thr mpar mcel mhel mclo msea mwei msha mmon out)) ∧ (¬ (lg_cmp s1 s0) = (0 : Int32) → False))
set_option maxHeartbeats 4000000 in
set_option maxRecDepth 100000 in
theorem wvL_law_J455 {l : Launch} {γ : Gm} {κ : Kx} {ad : Nat → Nat} {bd : Nat → Nat} {o : Nat} {seen : Int32} {cnt : Int32} {pwc : Int32} {par : Ar} {amt : Ar} {held : Ar} {clos : Ar} {seW : Ar} {seS : Ar} {leW : Ar} {leS : Ar} {pl : Int32} {msn : Int32} {thr : Int32} {mpar : Ar} {mcel : Ar} {mhel : Ar} {mclo : Ar} {msea : Ar} {mwei : Ar} {msha : Ar} {mmon : Ar} {out : (Nat → Int64)} {x4 : Int32} {s0 : Int64} {s1 : Int64} {K23 : Int32 → Int32 → Int32 → Int32 → Ar → Ar → Ar → Ar → Ar → Ar → Ar → Ar → Int32 → Int32 → Int32 → Ar → Ar → Ar → Ar → Ar → Ar → Ar → Ar → (Nat → Int64) → Prop} {xs : Nat → Int32} {b L : Nat} (hfl : l.stackTraces = false) (C : Ok γ κ cL_law 7 RL 11 414) (hX : va_X b L xs κ.s κ.s.heap) (hbl : b < κ.s.heap.size) (hbA : ¬ κ.A b) (hR : κ.R = room_1) (RT : RtL l γ κ) {kb sb : Nat} (hK23 : ∀ (x4 : Int32) (seen : Int32) (cnt : Int32) (pwc : Int32) (par : Ar) (amt : Ar) (held : Ar) (clos : Ar) (seW : Ar) (seS : Ar) (leW : Ar) (leS : Ar) (pl : Int32) (msn : Int32) (thr : Int32) (mpar : Ar) (mcel : Ar) (mhel : Ar) (mclo : Ar) (msea : Ar) (mwei : Ar) (msha : Ar) (mmon : Ar) (out : (Nat → Int64)) (k9 s9 : Nat), k9 ≤ kb → s9 ≤ sb → K23 x4 seen cnt pwc par amt held clos seW seS leW leS pl msn thr mpar mcel mhel mclo msea mwei msha mmon out → G l γ κ (wL γ ad bd o seen cnt pwc par amt held clos seW seS leW leS pl msn thr mpar mcel mhel mclo msea mwei msha mmon out) [(0, .ref b), (1, .ref (ad 0)), (2, .ref (bd 0)), (3, .ref o), (4, .int x4)] k9 s9 [] 23) {k9 s9 : Nat} (hkb : kb ≤ 1063) (hsb : sb ≤ 11476) (hk : k9 + 0 ≤ kb) (hs : s9 + 0 ≤ sb) (hv : vL_law_J455 seen cnt pwc par amt held clos seW seS leW leS pl msn thr mpar mcel mhel mclo msea mwei msha mmon out x4 s0 s1 K23 xs L) : G l γ κ (wL γ ad bd o seen cnt pwc par amt held clos seW seS leW leS pl msn thr mpar mcel mhel mclo msea mwei msha mmon out) [(0, .ref b), (1, .ref (ad 0)), (2, .ref (bd 0)), (3, .ref o), (4, .int x4)] k9 s9 [.long s0, .long s1] 455 := by
  refine g_lcmp (pc' := 456) C dL_law_455 rfl ?_
  obtain ⟨hv1, hv2⟩ := hv
  refine g_if_eq (pc' := 459) (tgt := 461) C dL_law_456 rfl (by decide) (fun c => ?_) (fun c => ?_)
  · have hv := hv1 c
    refine g_goto (tgt := 1505) C dL_law_461 (by decide) ?_
    refine g_iinc (pc' := 1508) (v := (x4 + (6 : Int32))) (lv' := [(4, .int (x4 + (6 : Int32))), (0, .ref b), (1, .ref (ad 0)), (2, .ref (bd 0)), (3, .ref o)]) C dL_law_1505 rfl rfl rfl (by decide) rfl ?_
    refine g_goto (tgt := 23) C dL_law_1508 (by decide) ?_
    refine g_sub (lv' := [(0, .ref b), (1, .ref (ad 0)), (2, .ref (bd 0)), (3, .ref o), (4, .int (x4 + (6 : Int32)))]) [1, 2, 3, 4, 0] rfl ?_
    exact hK23 _ _ _ _ _ _ _ _ _ _ _ _ _ _ _ _ _ _ _ _ _ _ _ _ _ _ (by omega) (by omega) hv
  · have hv := hv2 c
    refine g_iconst (pc' := 460) (v := (0 : Int32)) C dL_law_459 rfl (by decide) ?_
    exact hv.elim
def vL_law_J421 (seen : Int32) (cnt : Int32) (pwc : Int32) (par : Ar) (amt : Ar) (held : Ar) (clos : Ar) (seW : Ar) (seS : Ar) (leW : Ar) (leS : Ar) (pl : Int32) (msn : Int32) (thr : Int32) (mpar : Ar) (mcel : Ar) (mhel : Ar) (mclo : Ar) (msea : Ar) (mwei : Ar) (msha : Ar) (mmon : Ar) (out : (Nat → Int64)) (x4 : Int32) (x5 : Int32) (s0 : Int32) (s1 : Int32) (s2 : Int32) (K23 : Int32 → Int32 → Int32 → Int32 → Ar → Ar → Ar → Ar → Ar → Ar → Ar → Ar → Int32 → Int32 → Int32 → Ar → Ar → Ar → Ar → Ar → Ar → Ar → Ar → (Nat → Int64) → Prop) (xs : Nat → Int32) (L : Nat) : Prop := (vX4_hold pl thr mpar mhel s2 s1 s0 (fun r421 u421 => (vX4_thrown u421.1 (fun r427 => ((r427 = x5 → ((¬ x5 = (0 : Int32) → (K23 (x4 + (6 : Int32)) seen cnt pwc par amt held clos seW seS leW leS pl msn u421.1 mpar mcel u421.2 mclo msea mwei msha mmon out)) ∧ (x5 = (0 : Int32) → (vp_in (0 : Int32) 1 ∧ ((r421 = (0 : Int32) → (vL_law_J455 seen cnt pwc par amt held clos seW seS leW leS pl msn u421.1 mpar mcel u421.2 mclo msea mwei msha mmon out x4 (0 : Int64) (out (0 : Int32).toNatClampNeg) K23 xs L)) ∧ (¬ r421 = (0 : Int32) → (vL_law_J455 seen cnt pwc par amt held clos seW seS leW leS pl msn u421.1 mpar mcel u421.2 mclo msea mwei msha mmon out x4 (1 : Int64) (out (0 : Int32).toNatClampNeg) K23 xs L))))))) ∧ (¬ r427 = x5 → False))))))
set_option maxHeartbeats 4000000 in
set_option maxRecDepth 100000 in
theorem wvL_law_J421 {l : Launch} {γ : Gm} {κ : Kx} {ad : Nat → Nat} {bd : Nat → Nat} {o : Nat} {seen : Int32} {cnt : Int32} {pwc : Int32} {par : Ar} {amt : Ar} {held : Ar} {clos : Ar} {seW : Ar} {seS : Ar} {leW : Ar} {leS : Ar} {pl : Int32} {msn : Int32} {thr : Int32} {mpar : Ar} {mcel : Ar} {mhel : Ar} {mclo : Ar} {msea : Ar} {mwei : Ar} {msha : Ar} {mmon : Ar} {out : (Nat → Int64)} {x4 : Int32} {x5 : Int32} {s0 : Int32} {s1 : Int32} {s2 : Int32} {K23 : Int32 → Int32 → Int32 → Int32 → Ar → Ar → Ar → Ar → Ar → Ar → Ar → Ar → Int32 → Int32 → Int32 → Ar → Ar → Ar → Ar → Ar → Ar → Ar → Ar → (Nat → Int64) → Prop} {xs : Nat → Int32} {b L : Nat} (hfl : l.stackTraces = false) (C : Ok γ κ cL_law 7 RL 11 414) (hX : va_X b L xs κ.s κ.s.heap) (hbl : b < κ.s.heap.size) (hbA : ¬ κ.A b) (hR : κ.R = room_1) (RT : RtL l γ κ) {kb sb : Nat} (hK23 : ∀ (x4 : Int32) (seen : Int32) (cnt : Int32) (pwc : Int32) (par : Ar) (amt : Ar) (held : Ar) (clos : Ar) (seW : Ar) (seS : Ar) (leW : Ar) (leS : Ar) (pl : Int32) (msn : Int32) (thr : Int32) (mpar : Ar) (mcel : Ar) (mhel : Ar) (mclo : Ar) (msea : Ar) (mwei : Ar) (msha : Ar) (mmon : Ar) (out : (Nat → Int64)) (k9 s9 : Nat), k9 ≤ kb → s9 ≤ sb → K23 x4 seen cnt pwc par amt held clos seW seS leW leS pl msn thr mpar mcel mhel mclo msea mwei msha mmon out → G l γ κ (wL γ ad bd o seen cnt pwc par amt held clos seW seS leW leS pl msn thr mpar mcel mhel mclo msea mwei msha mmon out) [(0, .ref b), (1, .ref (ad 0)), (2, .ref (bd 0)), (3, .ref o), (4, .int x4)] k9 s9 [] 23) {k9 s9 : Nat} (hkb : kb ≤ 1063) (hsb : sb ≤ 11476) (hk : k9 + 0 ≤ kb) (hs : s9 + 0 ≤ sb) (hv : vL_law_J421 seen cnt pwc par amt held clos seW seS leW leS pl msn thr mpar mcel mhel mclo msea mwei msha mmon out x4 x5 s0 s1 s2 K23 xs L) : G l γ κ (wL γ ad bd o seen cnt pwc par amt held clos seW seS leW leS pl msn thr mpar mcel mhel mclo msea mwei msha mmon out) [(0, .ref b), (1, .ref (ad 0)), (2, .ref (bd 0)), (3, .ref o), (4, .int x4), (5, .int x5)] k9 s9 [.int s0, .int s1, .int s2, .ref (bd 0)] 421 := by
  refine cfI (pc' := 424) C (run_VI (rest := []) C lk_L_100 (mtX4_hold hv) ⟨by decide, by decide⟩ rfl rfl rfl rfl (Nat.le_of_ble_eq_true rfl) ⟨by rw [hR]; show _ ≤ 1063; omega, by rw [hR]; show _ ≤ 11476; omega⟩ dL_law_421) rfl [13, 14, 15, 16, 17, 18, 19, 20, 21] [0, 1, 2, 3, 4, 5, 6, 7, 8, 9, 10, 11, 12, 22] [0, 1, 2, 3, 4, 5, 6, 7, 8, 9, 10, 11, 12, 14, 15, 16, 17, 18, 19, 20, 21, 22, 13] nd_LM di_LM (fun u421 => wL γ ad bd o seen cnt pwc par amt held clos seW seS leW leS pl msn u421.1 mpar mcel u421.2 mclo msea mwei msha mmon out) rfl rfl (fun _ => rfl) (fun r421 u421 hv => ?_)
  refine g_istore (pc' := 426) (lv' := [(6, .int r421), (0, .ref b), (1, .ref (ad 0)), (2, .ref (bd 0)), (3, .ref o), (4, .int x4), (5, .int x5)]) C dL_law_424 rfl (by decide) rfl ?_
  refine g_aload_n (pc' := 427) C dL_law_426 rfl rfl rfl ?_
  refine cfI (pc' := 430) C (run_VI (rest := []) C lk_L_83 (mtX4_thrown hv) ⟨by decide, by decide⟩ rfl rfl rfl rfl (Nat.le_of_ble_eq_true rfl) ⟨by rw [hR]; show _ ≤ 1063; omega, by rw [hR]; show _ ≤ 11476; omega⟩ dL_law_427) rfl [13, 14, 15, 16, 17, 18, 19, 20, 21] [0, 1, 2, 3, 4, 5, 6, 7, 8, 9, 10, 11, 12, 22] [0, 1, 2, 3, 4, 5, 6, 7, 8, 9, 10, 11, 12, 14, 15, 16, 17, 18, 19, 20, 21, 22, 13] nd_LM di_LM (fun u427 => wL γ ad bd o seen cnt pwc par amt held clos seW seS leW leS pl msn u421.1 mpar mcel u421.2 mclo msea mwei msha mmon out) rfl rfl (fun _ => rfl) (fun r427 u427 hv => ?_)
  refine g_iload (pc' := 432) C dL_law_430 rfl rfl ?_
  obtain ⟨hv1, hv2⟩ := hv
  refine g_icmp_eq (pc' := 435) (tgt := 437) C dL_law_432 rfl (by decide) (fun c => ?_) (fun c => ?_)
  · have hv := hv1 c
    refine g_iload (pc' := 439) C dL_law_437 rfl rfl ?_
    obtain ⟨hv1, hv2⟩ := hv
    refine g_if_ne (pc' := 442) (tgt := 461) C dL_law_439 rfl (by decide) (fun c => ?_) (fun c => ?_)
    · have hv := hv1 c
      refine g_goto (tgt := 1505) C dL_law_461 (by decide) ?_
      refine g_iinc (pc' := 1508) (v := (x4 + (6 : Int32))) (lv' := [(4, .int (x4 + (6 : Int32))), (6, .int r421), (0, .ref b), (1, .ref (ad 0)), (2, .ref (bd 0)), (3, .ref o), (5, .int x5)]) C dL_law_1505 rfl rfl rfl (by decide) rfl ?_
      refine g_goto (tgt := 23) C dL_law_1508 (by decide) ?_
      refine g_sub (lv' := [(0, .ref b), (1, .ref (ad 0)), (2, .ref (bd 0)), (3, .ref o), (4, .int (x4 + (6 : Int32)))]) [2, 3, 4, 5, 0] rfl ?_
      exact hK23 _ _ _ _ _ _ _ _ _ _ _ _ _ _ _ _ _ _ _ _ _ _ _ _ _ _ (by omega) (by omega) hv
    · have hv := hv2 c
      refine g_aload_n (pc' := 443) C dL_law_442 rfl rfl rfl ?_
      refine g_iconst (pc' := 444) (v := (0 : Int32)) C dL_law_443 rfl (by decide) ?_
      obtain ⟨hi, hv⟩ := hv
      refine g_lald (pc' := 445) C dL_law_444 rfl 22 rfl hi ?_
      refine g_iload (pc' := 447) C dL_law_445 rfl rfl ?_
      obtain ⟨hv1, hv2⟩ := hv
      refine g_if_eq (pc' := 450) (tgt := 454) C dL_law_447 rfl (by decide) (fun c => ?_) (fun c => ?_)
      · have hv := hv1 c
        refine g_lconst (pc' := 455) (v := (0 : Int64)) C dL_law_454 rfl (by decide) ?_
        refine g_sub (lv' := [(0, .ref b), (1, .ref (ad 0)), (2, .ref (bd 0)), (3, .ref o), (4, .int x4)]) [1, 2, 3, 4, 5] rfl ?_
        exact wvL_law_J455 hfl C hX hbl hbA hR RT hK23 hkb hsb (by omega) (by omega) hv
      · have hv := hv2 c
        refine g_lconst (pc' := 451) (v := (1 : Int64)) C dL_law_450 rfl (by decide) ?_
        refine g_goto (tgt := 455) C dL_law_451 (by decide) ?_
        refine g_sub (lv' := [(0, .ref b), (1, .ref (ad 0)), (2, .ref (bd 0)), (3, .ref o), (4, .int x4)]) [1, 2, 3, 4, 5] rfl ?_
        exact wvL_law_J455 hfl C hX hbl hbA hR RT hK23 hkb hsb (by omega) (by omega) hv
  · have hv := hv2 c
    refine g_iconst (pc' := 436) (v := (0 : Int32)) C dL_law_435 rfl (by decide) ?_
    exact hv.elim
def vL_law_J388 (seen : Int32) (cnt : Int32) (pwc : Int32) (par : Ar) (amt : Ar) (held : Ar) (clos : Ar) (seW : Ar) (seS : Ar) (leW : Ar) (leS : Ar) (pl : Int32) (msn : Int32) (thr : Int32) (mpar : Ar) (mcel : Ar) (mhel : Ar) (mclo : Ar) (msea : Ar) (mwei : Ar) (msha : Ar) (mmon : Ar) (out : (Nat → Int64)) (x4 : Int32) (s0 : Int32) (s1 : Int32) (s2 : Int32) (K23 : Int32 → Int32 → Int32 → Int32 → Ar → Ar → Ar → Ar → Ar → Ar → Ar → Ar → Int32 → Int32 → Int32 → Ar → Ar → Ar → Ar → Ar → Ar → Ar → Ar → (Nat → Int64) → Prop) (xs : Nat → Int32) (L : Nat) : Prop := (vL_hold cnt pwc held out s2 s1 s0 (fun r389 u389 => (vp_in (x4 + (1 : Int32)) L ∧ (vp_in (x4 + (2 : Int32)) L ∧ (vp_in (x4 + (3 : Int32)) L ∧ (((xs (x4 + (3 : Int32)).toNatClampNeg) = (0 : Int32) → (vL_law_J421 seen cnt pwc par amt u389.1 clos seW seS leW leS pl msn thr mpar mcel mhel mclo msea mwei msha mmon u389.2 x4 r389 (0 : Int32) (xs (x4 + (2 : Int32)).toNatClampNeg) (xs (x4 + (1 : Int32)).toNatClampNeg) K23 xs L)) ∧ (¬ (xs (x4 + (3 : Int32)).toNatClampNeg) = (0 : Int32) → (vL_law_J421 seen cnt pwc par amt u389.1 clos seW seS leW leS pl msn thr mpar mcel mhel mclo msea mwei msha mmon u389.2 x4 r389 (1 : Int32) (xs (x4 + (2 : Int32)).toNatClampNeg) (xs (x4 + (1 : Int32)).toNatClampNeg) K23 xs L))))))))
set_option maxHeartbeats 4000000 in
set_option maxRecDepth 100000 in
theorem wvL_law_J388 {l : Launch} {γ : Gm} {κ : Kx} {ad : Nat → Nat} {bd : Nat → Nat} {o : Nat} {seen : Int32} {cnt : Int32} {pwc : Int32} {par : Ar} {amt : Ar} {held : Ar} {clos : Ar} {seW : Ar} {seS : Ar} {leW : Ar} {leS : Ar} {pl : Int32} {msn : Int32} {thr : Int32} {mpar : Ar} {mcel : Ar} {mhel : Ar} {mclo : Ar} {msea : Ar} {mwei : Ar} {msha : Ar} {mmon : Ar} {out : (Nat → Int64)} {x4 : Int32} {s0 : Int32} {s1 : Int32} {s2 : Int32} {K23 : Int32 → Int32 → Int32 → Int32 → Ar → Ar → Ar → Ar → Ar → Ar → Ar → Ar → Int32 → Int32 → Int32 → Ar → Ar → Ar → Ar → Ar → Ar → Ar → Ar → (Nat → Int64) → Prop} {xs : Nat → Int32} {b L : Nat} (hfl : l.stackTraces = false) (C : Ok γ κ cL_law 7 RL 11 414) (hX : va_X b L xs κ.s κ.s.heap) (hbl : b < κ.s.heap.size) (hbA : ¬ κ.A b) (hR : κ.R = room_1) (RT : RtL l γ κ) {kb sb : Nat} (hK23 : ∀ (x4 : Int32) (seen : Int32) (cnt : Int32) (pwc : Int32) (par : Ar) (amt : Ar) (held : Ar) (clos : Ar) (seW : Ar) (seS : Ar) (leW : Ar) (leS : Ar) (pl : Int32) (msn : Int32) (thr : Int32) (mpar : Ar) (mcel : Ar) (mhel : Ar) (mclo : Ar) (msea : Ar) (mwei : Ar) (msha : Ar) (mmon : Ar) (out : (Nat → Int64)) (k9 s9 : Nat), k9 ≤ kb → s9 ≤ sb → K23 x4 seen cnt pwc par amt held clos seW seS leW leS pl msn thr mpar mcel mhel mclo msea mwei msha mmon out → G l γ κ (wL γ ad bd o seen cnt pwc par amt held clos seW seS leW leS pl msn thr mpar mcel mhel mclo msea mwei msha mmon out) [(0, .ref b), (1, .ref (ad 0)), (2, .ref (bd 0)), (3, .ref o), (4, .int x4)] k9 s9 [] 23) {k9 s9 : Nat} (hkb : kb ≤ 1063) (hsb : sb ≤ 11476) (hk : k9 + 1 ≤ kb) (hs : s9 + 6 ≤ sb) (hv : vL_law_J388 seen cnt pwc par amt held clos seW seS leW leS pl msn thr mpar mcel mhel mclo msea mwei msha mmon out x4 s0 s1 s2 K23 xs L) : G l γ κ (wL γ ad bd o seen cnt pwc par amt held clos seW seS leW leS pl msn thr mpar mcel mhel mclo msea mwei msha mmon out) [(0, .ref b), (1, .ref (ad 0)), (2, .ref (bd 0)), (3, .ref o), (4, .int x4)] k9 s9 [.int s0, .int s1, .int s2, .ref (ad 0)] 388 := by
  refine g_aload_n (pc' := 389) C dL_law_388 rfl rfl rfl ?_
  refine cfH (pc' := 392) C (run_SH (rest := []) C lk_L_97 (mtL_hold hfl hv) ⟨by decide, by decide⟩ rfl rfl (Nat.le_of_ble_eq_true rfl) ⟨by rw [hR]; show _ ≤ 1063; omega, by rw [hR]; show _ ≤ 11476; omega⟩ dL_law_389) rfl [0, 1, 2, 3, 4, 5, 6, 7, 8, 9, 10, 11, 12, 22] [13, 14, 15, 16, 17, 18, 19, 20, 21] [9, 10, 11, 12, 13, 14, 15, 16, 17, 18, 19, 20, 21, 0, 1, 2, 3, 4, 5, 6, 7, 8, 22] nd_LH di_LH (fun u389 => wL γ ad bd o seen cnt pwc par amt u389.1 clos seW seS leW leS pl msn thr mpar mcel mhel mclo msea mwei msha mmon u389.2) rfl rfl (fun _ => rfl) (fun r389 u389 hv => ?_)
  refine g_istore (pc' := 394) (lv' := [(5, .int r389), (0, .ref b), (1, .ref (ad 0)), (2, .ref (bd 0)), (3, .ref o), (4, .int x4)]) C dL_law_392 rfl (by decide) rfl ?_
  refine g_aload_n (pc' := 395) C dL_law_394 rfl rfl rfl ?_
  refine g_aload_n (pc' := 396) C dL_law_395 rfl rfl rfl ?_
  refine g_iload (pc' := 398) C dL_law_396 rfl rfl ?_
  refine g_iconst (pc' := 399) (v := (1 : Int32)) C dL_law_398 rfl (by decide) ?_
  refine g_iadd (pc' := 400) C dL_law_399 rfl ?_
  obtain ⟨hi, hv⟩ := hv
  refine g_sld (pc' := 401) C hX hbl hbA dL_law_400 rfl hi ?_
  refine g_aload_n (pc' := 402) C dL_law_401 rfl rfl rfl ?_
  refine g_iload (pc' := 404) C dL_law_402 rfl rfl ?_
  refine g_iconst (pc' := 405) (v := (2 : Int32)) C dL_law_404 rfl (by decide) ?_
  refine g_iadd (pc' := 406) C dL_law_405 rfl ?_
  obtain ⟨hi, hv⟩ := hv
  refine g_sld (pc' := 407) C hX hbl hbA dL_law_406 rfl hi ?_
  refine g_aload_n (pc' := 408) C dL_law_407 rfl rfl rfl ?_
  refine g_iload (pc' := 410) C dL_law_408 rfl rfl ?_
  refine g_iconst (pc' := 411) (v := (3 : Int32)) C dL_law_410 rfl (by decide) ?_
  refine g_iadd (pc' := 412) C dL_law_411 rfl ?_
  obtain ⟨hi, hv⟩ := hv
  refine g_sld (pc' := 413) C hX hbl hbA dL_law_412 rfl hi ?_
  obtain ⟨hv1, hv2⟩ := hv
  refine g_if_eq (pc' := 416) (tgt := 420) C dL_law_413 rfl (by decide) (fun c => ?_) (fun c => ?_)
  · have hv := hv1 c
    refine g_iconst (pc' := 421) (v := (0 : Int32)) C dL_law_420 rfl (by decide) ?_
    refine g_sub (lv' := [(0, .ref b), (1, .ref (ad 0)), (2, .ref (bd 0)), (3, .ref o), (4, .int x4), (5, .int r389)]) [1, 2, 3, 4, 5, 0] rfl ?_
    exact wvL_law_J421 hfl C hX hbl hbA hR RT hK23 hkb hsb (by omega) (by omega) hv
  · have hv := hv2 c
    refine g_iconst (pc' := 417) (v := (1 : Int32)) C dL_law_416 rfl (by decide) ?_
    refine g_goto (tgt := 421) C dL_law_417 (by decide) ?_
    refine g_sub (lv' := [(0, .ref b), (1, .ref (ad 0)), (2, .ref (bd 0)), (3, .ref o), (4, .int x4), (5, .int r389)]) [1, 2, 3, 4, 5, 0] rfl ?_
    exact wvL_law_J421 hfl C hX hbl hbA hR RT hK23 hkb hsb (by omega) (by omega) hv
def vL_law_L23 (xs : Nat → Int32) (L : Nat) : Nat → Int32 → Int32 → Int32 → Int32 → Ar → Ar → Ar → Ar → Ar → Ar → Ar → Ar → Int32 → Int32 → Int32 → Ar → Ar → Ar → Ar → Ar → Ar → Ar → Ar → (Nat → Int64) → Prop
  | 0, _, _, _, _, _, _, _, _, _, _, _, _, _, _, _, _, _, _, _, _, _, _, _, _ => False
  | n + 1, x4, seen, cnt, pwc, par, amt, held, clos, seW, seS, leW, leS, pl, msn, thr, mpar, mcel, mhel, mclo, msea, mwei, msha, mmon, out => ((((Int32.ofNat L) - (6 : Int32)) < x4 → True) ∧ (¬ ((Int32.ofNat L) - (6 : Int32)) < x4 → (vp_in x4 L ∧ (((((xs x4.toNatClampNeg) &&& (31 : Int32))).toInt < 0 ∨ 18 < (((xs x4.toNatClampNeg) &&& (31 : Int32))).toInt → (vL_law_L23 xs L n (x4 + (6 : Int32)) seen cnt pwc par amt held clos seW seS leW leS pl msn thr mpar mcel mhel mclo msea mwei msha mmon out)) ∧ ((((xs x4.toNatClampNeg) &&& (31 : Int32))).toInt = 0 → (vp_in (x4 + (1 : Int32)) L ∧ (vL_addPlace cnt pwc par amt held clos out (xs (x4 + (1 : Int32)).toNatClampNeg) (fun r140 u140 => (vp_in (x4 + (1 : Int32)) L ∧ (vX4_addPlace pl thr mpar mcel mhel mclo (xs (x4 + (1 : Int32)).toNatClampNeg) (fun r152 u152 => (vX4_thrown u152.2.1 (fun r158 => ((r158 = r140 → ((¬ r140 = (0 : Int32) → (vL_law_L23 xs L n (x4 + (6 : Int32)) seen u140.1 u140.2.1 u140.2.2.1 amt held clos seW seS leW leS u152.1 msn u152.2.1 u152.2.2 mcel mhel mclo msea mwei msha mmon u140.2.2.2)) ∧ (r140 = (0 : Int32) → (vp_in (0 : Int32) 1 ∧ (((lg_cmp (u140.2.2.2 (0 : Int32).toNatClampNeg) r152.toInt64) = (0 : Int32) → (vL_law_L23 xs L n (x4 + (6 : Int32)) seen u140.1 u140.2.1 u140.2.2.1 amt held clos seW seS leW leS u152.1 msn u152.2.1 u152.2.2 mcel mhel mclo msea mwei msha mmon u140.2.2.2)) ∧ (¬ (lg_cmp (u140.2.2.2 (0 : Int32).toNatClampNeg) r152.toInt64) = (0 : Int32) → False)))))) ∧ (¬ r158 = r140 → False))))))))))) ∧ ((((xs x4.toNatClampNeg) &&& (31 : Int32))).toInt = 1 → (vX3_places cnt (fun r189 => (vX4_places pl thr (fun r193 u193 => ((r189 = r193 → (vL_law_L23 xs L n (x4 + (6 : Int32)) seen cnt pwc par amt held clos seW seS leW leS pl msn u193 mpar mcel mhel mclo msea mwei msha mmon out)) ∧ (¬ r189 = r193 → False))))))) ∧ ((((xs x4.toNatClampNeg) &&& (31 : Int32))).toInt = 2 → (vp_in (x4 + (1 : Int32)) L ∧ (vL_leaves cnt pwc par out (xs (x4 + (1 : Int32)).toNatClampNeg) (fun r209 u209 => (vp_in (x4 + (1 : Int32)) L ∧ (vX4_leaves pl thr mpar (xs (x4 + (1 : Int32)).toNatClampNeg) (fun r221 u221 => (vX4_thrown u221 (fun r227 => ((r227 = r209 → ((¬ r209 = (0 : Int32) → (vL_law_L23 xs L n (x4 + (6 : Int32)) seen cnt pwc par amt held clos seW seS leW leS pl msn u221 mpar mcel mhel mclo msea mwei msha mmon u209)) ∧ (r209 = (0 : Int32) → (vp_in (0 : Int32) 1 ∧ (((lg_cmp (u209 (0 : Int32).toNatClampNeg) r221.toInt64) = (0 : Int32) → (vL_law_L23 xs L n (x4 + (6 : Int32)) seen cnt pwc par amt held clos seW seS leW leS pl msn u221 mpar mcel mhel mclo msea mwei msha mmon u209)) ∧ (¬ (lg_cmp (u209 (0 : Int32).toNatClampNeg) r221.toInt64) = (0 : Int32) → False)))))) ∧ (¬ r227 = r209 → False))))))))))) ∧ ((((xs x4.toNatClampNeg) &&& (31 : Int32))).toInt = 3 → (vp_in (x4 + (1 : Int32)) L ∧ (vp_in (x4 + (2 : Int32)) L ∧ (vp_in (x4 + (3 : Int32)) L ∧ (vp_in (x4 + (4 : Int32)) L ∧ (vp_in (x4 + (5 : Int32)) L ∧ (vL_set cnt pwc amt clos out (xs (x4 + (1 : Int32)).toNatClampNeg) (xs (x4 + (2 : Int32)).toNatClampNeg) (xs (x4 + (3 : Int32)).toNatClampNeg) (xs (x4 + (4 : Int32)).toNatClampNeg) (xs (x4 + (5 : Int32)).toNatClampNeg) (fun r289 u289 => (vp_in (x4 + (1 : Int32)) L ∧ (vp_in (x4 + (2 : Int32)) L ∧ (vp_in (x4 + (3 : Int32)) L ∧ (vp_in (x4 + (4 : Int32)) L ∧ (vp_in (x4 + (5 : Int32)) L ∧ (vX4_set pl thr mpar mcel mclo (xs (x4 + (1 : Int32)).toNatClampNeg) (xs (x4 + (2 : Int32)).toNatClampNeg) (xs (x4 + (3 : Int32)).toNatClampNeg) (xs (x4 + (4 : Int32)).toNatClampNeg) (xs (x4 + (5 : Int32)).toNatClampNeg) (fun r325 u325 => (vX4_thrown u325.1 (fun r331 => ((r331 = r289 → ((¬ r289 = (0 : Int32) → (vL_law_L23 xs L n (x4 + (6 : Int32)) seen cnt pwc par u289.1 held clos seW seS leW leS pl msn u325.1 mpar u325.2 mhel mclo msea mwei msha mmon u289.2)) ∧ (r289 = (0 : Int32) → (vp_in (0 : Int32) 1 ∧ (((lg_cmp (u289.2 (0 : Int32).toNatClampNeg) r325.toInt64) = (0 : Int32) → (vL_law_L23 xs L n (x4 + (6 : Int32)) seen cnt pwc par u289.1 held clos seW seS leW leS pl msn u325.1 mpar u325.2 mhel mclo msea mwei msha mmon u289.2)) ∧ (¬ (lg_cmp (u289.2 (0 : Int32).toNatClampNeg) r325.toInt64) = (0 : Int32) → False)))))) ∧ (¬ r331 = r289 → False))))))))))))))))))) ∧ ((((xs x4.toNatClampNeg) &&& (31 : Int32))).toInt = 4 → (vp_in (x4 + (1 : Int32)) L ∧ (vp_in (x4 + (2 : Int32)) L ∧ (vp_in (x4 + (3 : Int32)) L ∧ (((xs (x4 + (3 : Int32)).toNatClampNeg) = (0 : Int32) → (vL_law_J388 seen cnt pwc par amt held clos seW seS leW leS pl msn thr mpar mcel mhel mclo msea mwei msha mmon out x4 (0 : Int32) (xs (x4 + (2 : Int32)).toNatClampNeg) (xs (x4 + (1 : Int32)).toNatClampNeg) (vL_law_L23 xs L n) xs L)) ∧ (¬ (xs (x4 + (3 : Int32)).toNatClampNeg) = (0 : Int32) → (vL_law_J388 seen cnt pwc par amt held clos seW seS leW leS pl msn thr mpar mcel mhel mclo msea mwei msha mmon out x4 (1 : Int32) (xs (x4 + (2 : Int32)).toNatClampNeg) (xs (x4 + (1 : Int32)).toNatClampNeg) (vL_law_L23 xs L n) xs L))))))) ∧ ((((xs x4.toNatClampNeg) &&& (31 : Int32))).toInt = 5 → (vp_in (x4 + (1 : Int32)) L ∧ (vp_in (x4 + (2 : Int32)) L ∧ (vL_setSeason seW out (xs (x4 + (1 : Int32)).toNatClampNeg) (xs (x4 + (2 : Int32)).toNatClampNeg) (fun r478 u478 => (vp_in (x4 + (1 : Int32)) L ∧ (vp_in (x4 + (2 : Int32)) L ∧ (vX4_setSeason thr msea (xs (x4 + (1 : Int32)).toNatClampNeg) (xs (x4 + (2 : Int32)).toNatClampNeg) (fun r496 u496 => (vX4_thrown u496.1 (fun r502 => ((r502 = r478 → ((¬ r478 = (0 : Int32) → (vL_law_L23 xs L n (x4 + (6 : Int32)) seen cnt pwc par amt held clos u478.1 seS leW leS pl msn u496.1 mpar mcel mhel mclo u496.2 mwei msha mmon u478.2)) ∧ (r478 = (0 : Int32) → (vp_in (0 : Int32) 1 ∧ (((lg_cmp (u478.2 (0 : Int32).toNatClampNeg) r496.toInt64) = (0 : Int32) → (vL_law_L23 xs L n (x4 + (6 : Int32)) seen cnt pwc par amt held clos u478.1 seS leW leS pl msn u496.1 mpar mcel mhel mclo u496.2 mwei msha mmon u478.2)) ∧ (¬ (lg_cmp (u478.2 (0 : Int32).toNatClampNeg) r496.toInt64) = (0 : Int32) → False)))))) ∧ (¬ r502 = r478 → False))))))))))))) ∧ ((((xs x4.toNatClampNeg) &&& (31 : Int32))).toInt = 6 → (vp_in (x4 + (1 : Int32)) L ∧ (vp_in (x4 + (2 : Int32)) L ∧ (vp_in (x4 + (3 : Int32)) L ∧ (vp_in (x4 + (4 : Int32)) L ∧ (vp_in (x4 + (5 : Int32)) L ∧ (vL_spread cnt pwc par amt held clos leW leS out (xs (x4 + (1 : Int32)).toNatClampNeg) (xs (x4 + (2 : Int32)).toNatClampNeg) (xs (x4 + (3 : Int32)).toNatClampNeg) (xs (x4 + (4 : Int32)).toNatClampNeg) (xs (x4 + (5 : Int32)).toNatClampNeg) (fun r564 u564 => (vp_in (x4 + (1 : Int32)) L ∧ (vp_in (x4 + (2 : Int32)) L ∧ (vp_in (x4 + (3 : Int32)) L ∧ (vp_in (x4 + (4 : Int32)) L ∧ (vp_in (x4 + (5 : Int32)) L ∧ (vX4_spread pl thr mpar mcel mhel mclo mwei msha (xs (x4 + (1 : Int32)).toNatClampNeg) (xs (x4 + (2 : Int32)).toNatClampNeg) (xs (x4 + (3 : Int32)).toNatClampNeg) (xs (x4 + (4 : Int32)).toNatClampNeg) (xs (x4 + (5 : Int32)).toNatClampNeg) (fun r600 u600 => (vX4_thrown u600.1 (fun r606 => ((r606 = r564 → ((¬ r564 = (0 : Int32) → (vL_law_L23 xs L n (x4 + (6 : Int32)) seen cnt pwc par u564.1 held clos seW seS u564.2.1 u564.2.2.1 pl msn u600.1 mpar u600.2.1 mhel mclo msea u600.2.2.1 u600.2.2.2 mmon u564.2.2.2)) ∧ (r564 = (0 : Int32) → (vp_in (0 : Int32) 1 ∧ (((lg_cmp (u564.2.2.2 (0 : Int32).toNatClampNeg) r600.toInt64) = (0 : Int32) → (vL_law_L23 xs L n (x4 + (6 : Int32)) seen cnt pwc par u564.1 held clos seW seS u564.2.1 u564.2.2.1 pl msn u600.1 mpar u600.2.1 mhel mclo msea u600.2.2.1 u600.2.2.2 mmon u564.2.2.2)) ∧ (¬ (lg_cmp (u564.2.2.2 (0 : Int32).toNatClampNeg) r600.toInt64) = (0 : Int32) → False)))))) ∧ (¬ r606 = r564 → False))))))))))))))))))) ∧ ((((xs x4.toNatClampNeg) &&& (31 : Int32))).toInt = 7 → (vp_in (x4 + (1 : Int32)) L ∧ (vp_in (x4 + (2 : Int32)) L ∧ (vp_in (x4 + (3 : Int32)) L ∧ (vL_spreadYear cnt pwc par amt held clos seW seS leW leS out (xs (x4 + (1 : Int32)).toNatClampNeg) (xs (x4 + (2 : Int32)).toNatClampNeg) (xs (x4 + (3 : Int32)).toNatClampNeg) (fun r656 u656 => (vp_in (x4 + (1 : Int32)) L ∧ (vp_in (x4 + (2 : Int32)) L ∧ (vp_in (x4 + (3 : Int32)) L ∧ (vX4_spreadYear pl thr mpar mcel mhel mclo msea mwei msha mmon (xs (x4 + (1 : Int32)).toNatClampNeg) (xs (x4 + (2 : Int32)).toNatClampNeg) (xs (x4 + (3 : Int32)).toNatClampNeg) (fun r680 u680 => (vX4_thrown u680.1 (fun r686 => ((r686 = r656 → ((¬ r656 = (0 : Int32) → (vL_law_L23 xs L n (x4 + (6 : Int32)) seen cnt pwc par u656.1 held clos seW u656.2.1 u656.2.2.1 u656.2.2.2.1 pl msn u680.1 mpar u680.2.1 mhel mclo msea u680.2.2.1 u680.2.2.2.1 u680.2.2.2.2 u656.2.2.2.2)) ∧ (r656 = (0 : Int32) → (vp_in (0 : Int32) 1 ∧ (((lg_cmp (u656.2.2.2.2 (0 : Int32).toNatClampNeg) r680.toInt64) = (0 : Int32) → (vL_law_L23 xs L n (x4 + (6 : Int32)) seen cnt pwc par u656.1 held clos seW u656.2.1 u656.2.2.1 u656.2.2.2.1 pl msn u680.1 mpar u680.2.1 mhel mclo msea u680.2.2.1 u680.2.2.2.1 u680.2.2.2.2 u656.2.2.2.2)) ∧ (¬ (lg_cmp (u656.2.2.2.2 (0 : Int32).toNatClampNeg) r680.toInt64) = (0 : Int32) → False)))))) ∧ (¬ r686 = r656 → False))))))))))))))) ∧ ((((xs x4.toNatClampNeg) &&& (31 : Int32))).toInt = 8 → (vp_in (x4 + (1 : Int32)) L ∧ (vp_in (x4 + (2 : Int32)) L ∧ (vL_copy amt clos out (xs (x4 + (1 : Int32)).toNatClampNeg) (xs (x4 + (2 : Int32)).toNatClampNeg) (fun r730 u730 => (vp_in (x4 + (1 : Int32)) L ∧ (vp_in (x4 + (2 : Int32)) L ∧ (vX4_copy pl thr mpar mcel mclo (xs (x4 + (1 : Int32)).toNatClampNeg) (xs (x4 + (2 : Int32)).toNatClampNeg) (fun r748 u748 => (vX4_thrown u748.1 (fun r754 => ((r754 = r730 → ((¬ r730 = (0 : Int32) → (vL_law_L23 xs L n (x4 + (6 : Int32)) seen cnt pwc par u730.1 held clos seW seS leW leS pl msn u748.1 mpar u748.2 mhel mclo msea mwei msha mmon u730.2)) ∧ (r730 = (0 : Int32) → (vp_in (0 : Int32) 1 ∧ (((lg_cmp (u730.2 (0 : Int32).toNatClampNeg) r748.toInt64) = (0 : Int32) → (vL_law_L23 xs L n (x4 + (6 : Int32)) seen cnt pwc par u730.1 held clos seW seS leW leS pl msn u748.1 mpar u748.2 mhel mclo msea mwei msha mmon u730.2)) ∧ (¬ (lg_cmp (u730.2 (0 : Int32).toNatClampNeg) r748.toInt64) = (0 : Int32) → False)))))) ∧ (¬ r754 = r730 → False))))))))))))) ∧ ((((xs x4.toNatClampNeg) &&& (31 : Int32))).toInt = 9 → (vp_in (x4 + (1 : Int32)) L ∧ (vp_in (x4 + (2 : Int32)) L ∧ (vL_handIn cnt pwc par clos out (xs (x4 + (1 : Int32)).toNatClampNeg) (xs (x4 + (2 : Int32)).toNatClampNeg) (fun r798 u798 => (vp_in (x4 + (1 : Int32)) L ∧ (vp_in (x4 + (2 : Int32)) L ∧ (vX4_handIn pl thr mpar mclo (xs (x4 + (1 : Int32)).toNatClampNeg) (xs (x4 + (2 : Int32)).toNatClampNeg) (fun r816 u816 => (vX4_thrown u816.1 (fun r822 => ((r822 = r798 → ((¬ r798 = (0 : Int32) → (vL_law_L23 xs L n (x4 + (6 : Int32)) seen cnt pwc par amt held u798.1 seW seS leW leS pl msn u816.1 mpar mcel mhel u816.2 msea mwei msha mmon u798.2)) ∧ (r798 = (0 : Int32) → (vp_in (0 : Int32) 1 ∧ (((lg_cmp (u798.2 (0 : Int32).toNatClampNeg) r816.toInt64) = (0 : Int32) → (vL_law_L23 xs L n (x4 + (6 : Int32)) seen cnt pwc par amt held u798.1 seW seS leW leS pl msn u816.1 mpar mcel mhel u816.2 msea mwei msha mmon u798.2)) ∧ (¬ (lg_cmp (u798.2 (0 : Int32).toNatClampNeg) r816.toInt64) = (0 : Int32) → False)))))) ∧ (¬ r822 = r798 → False))))))))))))) ∧ ((((xs x4.toNatClampNeg) &&& (31 : Int32))).toInt = 10 → (vp_in (x4 + (1 : Int32)) L ∧ (vp_in (x4 + (2 : Int32)) L ∧ (vL_takeBack cnt pwc par clos out (xs (x4 + (1 : Int32)).toNatClampNeg) (xs (x4 + (2 : Int32)).toNatClampNeg) (fun r866 u866 => (vp_in (x4 + (1 : Int32)) L ∧ (vp_in (x4 + (2 : Int32)) L ∧ (vX4_takeBack pl thr mpar mclo (xs (x4 + (1 : Int32)).toNatClampNeg) (xs (x4 + (2 : Int32)).toNatClampNeg) (fun r884 u884 => (vX4_thrown u884.1 (fun r890 => ((r890 = r866 → ((¬ r866 = (0 : Int32) → (vL_law_L23 xs L n (x4 + (6 : Int32)) seen cnt pwc par amt held u866.1 seW seS leW leS pl msn u884.1 mpar mcel mhel u884.2 msea mwei msha mmon u866.2)) ∧ (r866 = (0 : Int32) → (vp_in (0 : Int32) 1 ∧ (((lg_cmp (u866.2 (0 : Int32).toNatClampNeg) r884.toInt64) = (0 : Int32) → (vL_law_L23 xs L n (x4 + (6 : Int32)) seen cnt pwc par amt held u866.1 seW seS leW leS pl msn u884.1 mpar mcel mhel u884.2 msea mwei msha mmon u866.2)) ∧ (¬ (lg_cmp (u866.2 (0 : Int32).toNatClampNeg) r884.toInt64) = (0 : Int32) → False)))))) ∧ (¬ r890 = r866 → False))))))))))))) ∧ ((((xs x4.toNatClampNeg) &&& (31 : Int32))).toInt = 11 → (vp_in (x4 + (1 : Int32)) L ∧ (vp_in (x4 + (2 : Int32)) L ∧ (vp_in (x4 + (3 : Int32)) L ∧ (vp_in (x4 + (4 : Int32)) L ∧ (vL_see cnt pwc amt out (xs (x4 + (1 : Int32)).toNatClampNeg) (xs (x4 + (2 : Int32)).toNatClampNeg) (xs (x4 + (3 : Int32)).toNatClampNeg) (xs (x4 + (4 : Int32)).toNatClampNeg) (fun r946 u946 => (vp_in (x4 + (1 : Int32)) L ∧ (vp_in (x4 + (2 : Int32)) L ∧ (vp_in (x4 + (3 : Int32)) L ∧ (vp_in (x4 + (4 : Int32)) L ∧ (vX4_see pl thr mpar mcel (xs (x4 + (1 : Int32)).toNatClampNeg) (xs (x4 + (2 : Int32)).toNatClampNeg) (xs (x4 + (3 : Int32)).toNatClampNeg) (xs (x4 + (4 : Int32)).toNatClampNeg) (fun r976 u976 => (vX4_thrown u976.1 (fun r982 => ((r982 = r946 → ((¬ r946 = (0 : Int32) → (vL_law_L23 xs L n (x4 + (6 : Int32)) seen cnt pwc par u946.1 held clos seW seS leW leS pl msn u976.1 mpar u976.2 mhel mclo msea mwei msha mmon u946.2)) ∧ (r946 = (0 : Int32) → (vp_in (0 : Int32) 1 ∧ (((lg_cmp (u946.2 (0 : Int32).toNatClampNeg) r976.toInt64) = (0 : Int32) → (vL_law_L23 xs L n (x4 + (6 : Int32)) seen cnt pwc par u946.1 held clos seW seS leW leS pl msn u976.1 mpar u976.2 mhel mclo msea mwei msha mmon u946.2)) ∧ (¬ (lg_cmp (u946.2 (0 : Int32).toNatClampNeg) r976.toInt64) = (0 : Int32) → False)))))) ∧ (¬ r982 = r946 → False))))))))))))))))) ∧ ((((xs x4.toNatClampNeg) &&& (31 : Int32))).toInt = 12 → (vL_closeMonth seen out (fun r1014 u1014 => (vX4_closeMonth msn thr (fun r1020 u1020 => (vX4_thrown u1020.2 (fun r1026 => ((r1026 = r1014 → ((¬ r1014 = (0 : Int32) → (vL_law_L23 xs L n (x4 + (6 : Int32)) u1014.1 cnt pwc par amt held clos seW seS leW leS pl u1020.1 u1020.2 mpar mcel mhel mclo msea mwei msha mmon u1014.2)) ∧ (r1014 = (0 : Int32) → (vp_in (0 : Int32) 1 ∧ (((lg_cmp (u1014.2 (0 : Int32).toNatClampNeg) r1020.toInt64) = (0 : Int32) → (vL_law_L23 xs L n (x4 + (6 : Int32)) u1014.1 cnt pwc par amt held clos seW seS leW leS pl u1020.1 u1020.2 mpar mcel mhel mclo msea mwei msha mmon u1014.2)) ∧ (¬ (lg_cmp (u1014.2 (0 : Int32).toNatClampNeg) r1020.toInt64) = (0 : Int32) → False)))))) ∧ (¬ r1026 = r1014 → False))))))))) ∧ ((((xs x4.toNatClampNeg) &&& (31 : Int32))).toInt = 13 → (vp_in (x4 + (1 : Int32)) L ∧ (vp_in (x4 + (2 : Int32)) L ∧ (vp_in (x4 + (3 : Int32)) L ∧ (vp_in (x4 + (4 : Int32)) L ∧ (vL_amount cnt pwc par amt out (xs (x4 + (1 : Int32)).toNatClampNeg) (xs (x4 + (2 : Int32)).toNatClampNeg) (xs (x4 + (3 : Int32)).toNatClampNeg) (xs (x4 + (4 : Int32)).toNatClampNeg) (fun r1082 u1082 => (vp_in (x4 + (1 : Int32)) L ∧ (vp_in (x4 + (2 : Int32)) L ∧ (vp_in (x4 + (3 : Int32)) L ∧ (vp_in (x4 + (4 : Int32)) L ∧ (vX4_amount pl thr mpar mcel (xs (x4 + (1 : Int32)).toNatClampNeg) (xs (x4 + (2 : Int32)).toNatClampNeg) (xs (x4 + (3 : Int32)).toNatClampNeg) (xs (x4 + (4 : Int32)).toNatClampNeg) (fun r1112 u1112 => (vX4_thrown u1112 (fun r1118 => ((r1118 = r1082 → ((¬ r1082 = (0 : Int32) → (vL_law_L23 xs L n (x4 + (6 : Int32)) seen cnt pwc par amt held clos seW seS leW leS pl msn u1112 mpar mcel mhel mclo msea mwei msha mmon u1082)) ∧ (r1082 = (0 : Int32) → (vp_in (0 : Int32) 1 ∧ (((lg_cmp (u1082 (0 : Int32).toNatClampNeg) r1112.toInt64) = (0 : Int32) → (vL_law_L23 xs L n (x4 + (6 : Int32)) seen cnt pwc par amt held clos seW seS leW leS pl msn u1112 mpar mcel mhel mclo msea mwei msha mmon u1082)) ∧ (¬ (lg_cmp (u1082 (0 : Int32).toNatClampNeg) r1112.toInt64) = (0 : Int32) → False)))))) ∧ (¬ r1118 = r1082 → False))))))))))))))))) ∧ ((((xs x4.toNatClampNeg) &&& (31 : Int32))).toInt = 14 → (vp_in (x4 + (1 : Int32)) L ∧ (vp_in (x4 + (2 : Int32)) L ∧ (vp_in (x4 + (3 : Int32)) L ∧ (vp_in (x4 + (4 : Int32)) L ∧ (vL_outlook seen cnt pwc par amt out (xs (x4 + (1 : Int32)).toNatClampNeg) (xs (x4 + (2 : Int32)).toNatClampNeg) (xs (x4 + (3 : Int32)).toNatClampNeg) (xs (x4 + (4 : Int32)).toNatClampNeg) (fun r1174 u1174 => (vp_in (x4 + (1 : Int32)) L ∧ (vp_in (x4 + (2 : Int32)) L ∧ (vp_in (x4 + (3 : Int32)) L ∧ (vp_in (x4 + (4 : Int32)) L ∧ (vX4_outlook pl msn thr mpar mcel (xs (x4 + (1 : Int32)).toNatClampNeg) (xs (x4 + (2 : Int32)).toNatClampNeg) (xs (x4 + (3 : Int32)).toNatClampNeg) (xs (x4 + (4 : Int32)).toNatClampNeg) (fun r1204 u1204 => (vX4_thrown u1204 (fun r1210 => ((r1210 = r1174 → ((¬ r1174 = (0 : Int32) → (vL_law_L23 xs L n (x4 + (6 : Int32)) seen cnt pwc par amt held clos seW seS leW leS pl msn u1204 mpar mcel mhel mclo msea mwei msha mmon u1174)) ∧ (r1174 = (0 : Int32) → (vp_in (0 : Int32) 1 ∧ (((lg_cmp (u1174 (0 : Int32).toNatClampNeg) r1204.toInt64) = (0 : Int32) → (vL_law_L23 xs L n (x4 + (6 : Int32)) seen cnt pwc par amt held clos seW seS leW leS pl msn u1204 mpar mcel mhel mclo msea mwei msha mmon u1174)) ∧ (¬ (lg_cmp (u1174 (0 : Int32).toNatClampNeg) r1204.toInt64) = (0 : Int32) → False)))))) ∧ (¬ r1210 = r1174 → False))))))))))))))))) ∧ ((((xs x4.toNatClampNeg) &&& (31 : Int32))).toInt = 15 → (vp_in (x4 + (1 : Int32)) L ∧ (vp_in (x4 + (2 : Int32)) L ∧ (vp_in (x4 + (3 : Int32)) L ∧ (vL_year cnt pwc par amt out (xs (x4 + (1 : Int32)).toNatClampNeg) (xs (x4 + (2 : Int32)).toNatClampNeg) (xs (x4 + (3 : Int32)).toNatClampNeg) (fun r1260 u1260 => (vp_in (x4 + (1 : Int32)) L ∧ (vp_in (x4 + (2 : Int32)) L ∧ (vp_in (x4 + (3 : Int32)) L ∧ (vX4_year pl thr mpar mcel (xs (x4 + (1 : Int32)).toNatClampNeg) (xs (x4 + (2 : Int32)).toNatClampNeg) (xs (x4 + (3 : Int32)).toNatClampNeg) (fun r1284 u1284 => (vX4_thrown u1284 (fun r1290 => ((r1290 = r1260 → ((¬ r1260 = (0 : Int32) → (vL_law_L23 xs L n (x4 + (6 : Int32)) seen cnt pwc par amt held clos seW seS leW leS pl msn u1284 mpar mcel mhel mclo msea mwei msha mmon u1260)) ∧ (r1260 = (0 : Int32) → (vp_in (0 : Int32) 1 ∧ (((lg_cmp (u1260 (0 : Int32).toNatClampNeg) r1284.toInt64) = (0 : Int32) → (vL_law_L23 xs L n (x4 + (6 : Int32)) seen cnt pwc par amt held clos seW seS leW leS pl msn u1284 mpar mcel mhel mclo msea mwei msha mmon u1260)) ∧ (¬ (lg_cmp (u1260 (0 : Int32).toNatClampNeg) r1284.toInt64) = (0 : Int32) → False)))))) ∧ (¬ r1290 = r1260 → False))))))))))))))) ∧ ((((xs x4.toNatClampNeg) &&& (31 : Int32))).toInt = 16 → (vp_in (x4 + (1 : Int32)) L ∧ (vp_in (x4 + (2 : Int32)) L ∧ (vp_in (x4 + (3 : Int32)) L ∧ (vL_yearByLeaves cnt pwc par amt out (xs (x4 + (1 : Int32)).toNatClampNeg) (xs (x4 + (2 : Int32)).toNatClampNeg) (xs (x4 + (3 : Int32)).toNatClampNeg) (fun r1340 u1340 => (vp_in (x4 + (1 : Int32)) L ∧ (vp_in (x4 + (2 : Int32)) L ∧ (vp_in (x4 + (3 : Int32)) L ∧ (vX4_yearByLeaves pl thr mpar mcel (xs (x4 + (1 : Int32)).toNatClampNeg) (xs (x4 + (2 : Int32)).toNatClampNeg) (xs (x4 + (3 : Int32)).toNatClampNeg) (fun r1364 u1364 => (vX4_thrown u1364 (fun r1370 => ((r1370 = r1340 → ((¬ r1340 = (0 : Int32) → (vL_law_L23 xs L n (x4 + (6 : Int32)) seen cnt pwc par amt held clos seW seS leW leS pl msn u1364 mpar mcel mhel mclo msea mwei msha mmon u1340)) ∧ (r1340 = (0 : Int32) → (vp_in (0 : Int32) 1 ∧ (((lg_cmp (u1340 (0 : Int32).toNatClampNeg) r1364.toInt64) = (0 : Int32) → (vL_law_L23 xs L n (x4 + (6 : Int32)) seen cnt pwc par amt held clos seW seS leW leS pl msn u1364 mpar mcel mhel mclo msea mwei msha mmon u1340)) ∧ (¬ (lg_cmp (u1340 (0 : Int32).toNatClampNeg) r1364.toInt64) = (0 : Int32) → False)))))) ∧ (¬ r1370 = r1340 → False))))))))))))))) ∧ ((((xs x4.toNatClampNeg) &&& (31 : Int32))).toInt = 17 → (vX3_filled amt (fun r1401 => (vX4_filled thr mcel (fun r1405 u1405 => ((r1401 = r1405 → (vL_law_L23 xs L n (x4 + (6 : Int32)) seen cnt pwc par amt held clos seW seS leW leS pl msn u1405 mpar mcel mhel mclo msea mwei msha mmon out)) ∧ (¬ r1401 = r1405 → False))))))) ∧ ((((xs x4.toNatClampNeg) &&& (31 : Int32))).toInt = 18 → (vp_in (x4 + (1 : Int32)) L ∧ (vp_in (x4 + (2 : Int32)) L ∧ (vp_in (x4 + (3 : Int32)) L ∧ (vp_in (x4 + (4 : Int32)) L ∧ (vL_gap cnt pwc par amt out (xs (x4 + (1 : Int32)).toNatClampNeg) (xs (x4 + (2 : Int32)).toNatClampNeg) (xs (x4 + (3 : Int32)).toNatClampNeg) (xs (x4 + (4 : Int32)).toNatClampNeg) (fun r1439 u1439 => (vp_in (x4 + (1 : Int32)) L ∧ (vp_in (x4 + (2 : Int32)) L ∧ (vp_in (x4 + (3 : Int32)) L ∧ (vp_in (x4 + (4 : Int32)) L ∧ (vX4_gap pl thr mpar mcel (xs (x4 + (1 : Int32)).toNatClampNeg) (xs (x4 + (2 : Int32)).toNatClampNeg) (xs (x4 + (3 : Int32)).toNatClampNeg) (xs (x4 + (4 : Int32)).toNatClampNeg) (fun r1469 u1469 => (vX4_thrown u1469 (fun r1475 => ((r1475 = r1439 → ((¬ r1439 = (0 : Int32) → (vL_law_L23 xs L n (x4 + (6 : Int32)) seen cnt pwc par amt held clos seW seS leW leS pl msn u1469 mpar mcel mhel mclo msea mwei msha mmon u1439)) ∧ (r1439 = (0 : Int32) → (vp_in (0 : Int32) 1 ∧ (((lg_cmp (u1439 (0 : Int32).toNatClampNeg) r1469.toInt64) = (0 : Int32) → (vL_law_L23 xs L n (x4 + (6 : Int32)) seen cnt pwc par amt held clos seW seS leW leS pl msn u1469 mpar mcel mhel mclo msea mwei msha mmon u1439)) ∧ (¬ (lg_cmp (u1439 (0 : Int32).toNatClampNeg) r1469.toInt64) = (0 : Int32) → False)))))) ∧ (¬ r1475 = r1439 → False)))))))))))))))))))))
set_option maxHeartbeats 4000000 in
set_option maxRecDepth 100000 in
theorem wvL_law_L23 {l : Launch} {γ : Gm} {κ : Kx} {ad : Nat → Nat} {bd : Nat → Nat} {o : Nat} {xs : Nat → Int32} {b L : Nat} (hfl : l.stackTraces = false) (C : Ok γ κ cL_law 7 RL 11 414) (hX : va_X b L xs κ.s κ.s.heap) (hbl : b < κ.s.heap.size) (hbA : ¬ κ.A b) (hR : κ.R = room_1) (RT : RtL l γ κ) : ∀ (n : Nat) (x4 : Int32) (seen : Int32) (cnt : Int32) (pwc : Int32) (par : Ar) (amt : Ar) (held : Ar) (clos : Ar) (seW : Ar) (seS : Ar) (leW : Ar) (leS : Ar) (pl : Int32) (msn : Int32) (thr : Int32) (mpar : Ar) (mcel : Ar) (mhel : Ar) (mclo : Ar) (msea : Ar) (mwei : Ar) (msha : Ar) (mmon : Ar) (out : (Nat → Int64)) (k9 s9 : Nat), k9 + n ≤ 1063 → s9 + 6 * n ≤ 11476 → vL_law_L23 xs L n x4 seen cnt pwc par amt held clos seW seS leW leS pl msn thr mpar mcel mhel mclo msea mwei msha mmon out → G l γ κ (wL γ ad bd o seen cnt pwc par amt held clos seW seS leW leS pl msn thr mpar mcel mhel mclo msea mwei msha mmon out) [(0, .ref b), (1, .ref (ad 0)), (2, .ref (bd 0)), (3, .ref o), (4, .int x4)] k9 s9 [] 23 := by
  intro n
  induction n with
  | zero => intro x4 seen cnt pwc par amt held clos seW seS leW leS pl msn thr mpar mcel mhel mclo msea mwei msha mmon out k9 s9 hk hs hv; exact False.elim hv
  | succ n ih =>
    intro x4 seen cnt pwc par amt held clos seW seS leW leS pl msn thr mpar mcel mhel mclo msea mwei msha mmon out k9 s9 hk hs hv
    refine g_iload (pc' := 25) C dL_law_23 rfl rfl ?_
    refine g_aload_n (pc' := 26) C dL_law_25 rfl rfl rfl ?_
    refine g_slen (pc' := 27) C hX hbl hbA dL_law_26 rfl ?_
    refine g_bipush (pc' := 29) (v := (6 : Int32)) C dL_law_27 rfl (by decide) ?_
    refine g_isub (pc' := 30) C dL_law_29 rfl ?_
    obtain ⟨hv1, hv2⟩ := hv
    refine g_icmp_gt (pc' := 33) (tgt := 1511) C dL_law_30 rfl (by decide) (fun c => ?_) (fun c => ?_)
    · have hv := hv1 c
      refine g_iconst (pc' := 1512) (v := (1 : Int32)) C dL_law_1511 rfl (by decide) ?_
      exact RT _ _ _ _ _ dL_law_1512 (by omega) (by omega)
    · have hv := hv2 c
      refine g_aload_n (pc' := 34) C dL_law_33 rfl rfl rfl ?_
      refine g_iload (pc' := 36) C dL_law_34 rfl rfl ?_
      obtain ⟨hi, hv⟩ := hv
      refine g_sld (pc' := 37) C hX hbl hbA dL_law_36 rfl hi ?_
      refine g_bipush (pc' := 39) (v := (31 : Int32)) C dL_law_37 rfl (by decide) ?_
      refine g_iand (pc' := 40) C dL_law_39 rfl ?_
      by_cases c : (((xs x4.toNatClampNeg) &&& (31 : Int32))).toInt < 0 ∨ 18 < (((xs x4.toNatClampNeg) &&& (31 : Int32))).toInt
      · have hv := hv.1 c
        refine g_tabOut (tgt := 1505) C dL_law_40 c (by decide) ?_
        refine g_iinc (pc' := 1508) (v := (x4 + (6 : Int32))) (lv' := [(4, .int (x4 + (6 : Int32))), (0, .ref b), (1, .ref (ad 0)), (2, .ref (bd 0)), (3, .ref o)]) C dL_law_1505 rfl rfl rfl (by decide) rfl ?_
        refine g_goto (tgt := 23) C dL_law_1508 (by decide) ?_
        refine g_sub (lv' := [(0, .ref b), (1, .ref (ad 0)), (2, .ref (bd 0)), (3, .ref o), (4, .int (x4 + (6 : Int32)))]) [1, 2, 3, 4, 0] rfl ?_
        exact ih _ _ _ _ _ _ _ _ _ _ _ _ _ _ _ _ _ _ _ _ _ _ _ _ _ _ (by omega) (by omega) hv
      · have hc : (((xs x4.toNatClampNeg) &&& (31 : Int32))).toInt = 0 ∨ (((xs x4.toNatClampNeg) &&& (31 : Int32))).toInt = 1 ∨ (((xs x4.toNatClampNeg) &&& (31 : Int32))).toInt = 2 ∨ (((xs x4.toNatClampNeg) &&& (31 : Int32))).toInt = 3 ∨ (((xs x4.toNatClampNeg) &&& (31 : Int32))).toInt = 4 ∨ (((xs x4.toNatClampNeg) &&& (31 : Int32))).toInt = 5 ∨ (((xs x4.toNatClampNeg) &&& (31 : Int32))).toInt = 6 ∨ (((xs x4.toNatClampNeg) &&& (31 : Int32))).toInt = 7 ∨ (((xs x4.toNatClampNeg) &&& (31 : Int32))).toInt = 8 ∨ (((xs x4.toNatClampNeg) &&& (31 : Int32))).toInt = 9 ∨ (((xs x4.toNatClampNeg) &&& (31 : Int32))).toInt = 10 ∨ (((xs x4.toNatClampNeg) &&& (31 : Int32))).toInt = 11 ∨ (((xs x4.toNatClampNeg) &&& (31 : Int32))).toInt = 12 ∨ (((xs x4.toNatClampNeg) &&& (31 : Int32))).toInt = 13 ∨ (((xs x4.toNatClampNeg) &&& (31 : Int32))).toInt = 14 ∨ (((xs x4.toNatClampNeg) &&& (31 : Int32))).toInt = 15 ∨ (((xs x4.toNatClampNeg) &&& (31 : Int32))).toInt = 16 ∨ (((xs x4.toNatClampNeg) &&& (31 : Int32))).toInt = 17 ∨ (((xs x4.toNatClampNeg) &&& (31 : Int32))).toInt = 18 := by omega
        rcases hc with e | e | e | e | e | e | e | e | e | e | e | e | e | e | e | e | e | e | e
        · have hv := hv.2.1 e
          refine g_tabIn (tgt := 132) (off := 92) C dL_law_40 (by omega) (by omega) (by rw [e]; rfl) (by decide) ?_
          refine g_aload_n (pc' := 133) C dL_law_132 rfl rfl rfl ?_
          refine g_aload_n (pc' := 134) C dL_law_133 rfl rfl rfl ?_
          refine g_iload (pc' := 136) C dL_law_134 rfl rfl ?_
          refine g_iconst (pc' := 137) (v := (1 : Int32)) C dL_law_136 rfl (by decide) ?_
          refine g_iadd (pc' := 138) C dL_law_137 rfl ?_
          obtain ⟨hi, hv⟩ := hv
          refine g_sld (pc' := 139) C hX hbl hbA dL_law_138 rfl hi ?_
          refine g_aload_n (pc' := 140) C dL_law_139 rfl rfl rfl ?_
          refine cfH (pc' := 143) C (run_SH (rest := []) C lk_L_77 (mtL_addPlace hfl hv) ⟨by decide, by decide⟩ rfl rfl (Nat.le_of_ble_eq_true rfl) ⟨by rw [hR]; show _ ≤ 1063; omega, by rw [hR]; show _ ≤ 11476; omega⟩ dL_law_140) rfl [0, 1, 2, 3, 4, 5, 6, 7, 8, 9, 10, 11, 12, 22] [13, 14, 15, 16, 17, 18, 19, 20, 21] [9, 10, 11, 12, 13, 14, 15, 16, 17, 18, 19, 20, 21, 0, 1, 2, 3, 4, 5, 6, 7, 8, 22] nd_LH di_LH (fun u140 => wL γ ad bd o seen u140.1 u140.2.1 u140.2.2.1 amt held clos seW seS leW leS pl msn thr mpar mcel mhel mclo msea mwei msha mmon u140.2.2.2) rfl rfl (fun _ => rfl) (fun r140 u140 hv => ?_)
          refine g_istore (pc' := 145) (lv' := [(5, .int r140), (0, .ref b), (1, .ref (ad 0)), (2, .ref (bd 0)), (3, .ref o), (4, .int x4)]) C dL_law_143 rfl (by decide) rfl ?_
          refine g_aload_n (pc' := 146) C dL_law_145 rfl rfl rfl ?_
          refine g_aload_n (pc' := 147) C dL_law_146 rfl rfl rfl ?_
          refine g_iload (pc' := 149) C dL_law_147 rfl rfl ?_
          refine g_iconst (pc' := 150) (v := (1 : Int32)) C dL_law_149 rfl (by decide) ?_
          refine g_iadd (pc' := 151) C dL_law_150 rfl ?_
          obtain ⟨hi, hv⟩ := hv
          refine g_sld (pc' := 152) C hX hbl hbA dL_law_151 rfl hi ?_
          refine cfI (pc' := 155) C (run_VI (rest := []) C lk_L_82 (mtX4_addPlace hv) ⟨by decide, by decide⟩ rfl rfl rfl rfl (Nat.le_of_ble_eq_true rfl) ⟨by rw [hR]; show _ ≤ 1063; omega, by rw [hR]; show _ ≤ 11476; omega⟩ dL_law_152) rfl [13, 14, 15, 16, 17, 18, 19, 20, 21] [0, 1, 2, 3, 4, 5, 6, 7, 8, 9, 10, 11, 12, 22] [0, 1, 2, 3, 4, 5, 6, 7, 8, 9, 10, 11, 12, 14, 15, 16, 17, 18, 19, 20, 21, 22, 13] nd_LM di_LM (fun u152 => wL γ ad bd o seen u140.1 u140.2.1 u140.2.2.1 amt held clos seW seS leW leS u152.1 msn u152.2.1 u152.2.2 mcel mhel mclo msea mwei msha mmon u140.2.2.2) rfl rfl (fun _ => rfl) (fun r152 u152 hv => ?_)
          refine g_istore (pc' := 157) (lv' := [(6, .int r152), (5, .int r140), (0, .ref b), (1, .ref (ad 0)), (2, .ref (bd 0)), (3, .ref o), (4, .int x4)]) C dL_law_155 rfl (by decide) rfl ?_
          refine g_aload_n (pc' := 158) C dL_law_157 rfl rfl rfl ?_
          refine cfI (pc' := 161) C (run_VI (rest := []) C lk_L_83 (mtX4_thrown hv) ⟨by decide, by decide⟩ rfl rfl rfl rfl (Nat.le_of_ble_eq_true rfl) ⟨by rw [hR]; show _ ≤ 1063; omega, by rw [hR]; show _ ≤ 11476; omega⟩ dL_law_158) rfl [13, 14, 15, 16, 17, 18, 19, 20, 21] [0, 1, 2, 3, 4, 5, 6, 7, 8, 9, 10, 11, 12, 22] [0, 1, 2, 3, 4, 5, 6, 7, 8, 9, 10, 11, 12, 14, 15, 16, 17, 18, 19, 20, 21, 22, 13] nd_LM di_LM (fun u158 => wL γ ad bd o seen u140.1 u140.2.1 u140.2.2.1 amt held clos seW seS leW leS u152.1 msn u152.2.1 u152.2.2 mcel mhel mclo msea mwei msha mmon u140.2.2.2) rfl rfl (fun _ => rfl) (fun r158 u158 hv => ?_)
          refine g_iload (pc' := 163) C dL_law_161 rfl rfl ?_
          obtain ⟨hv1, hv2⟩ := hv
          refine g_icmp_eq (pc' := 166) (tgt := 168) C dL_law_163 rfl (by decide) (fun c => ?_) (fun c => ?_)
          · have hv := hv1 c
            refine g_iload (pc' := 170) C dL_law_168 rfl rfl ?_
            obtain ⟨hv1, hv2⟩ := hv
            refine g_if_ne (pc' := 173) (tgt := 185) C dL_law_170 rfl (by decide) (fun c => ?_) (fun c => ?_)
            · have hv := hv1 c
              refine g_goto (tgt := 1505) C dL_law_185 (by decide) ?_
              refine g_iinc (pc' := 1508) (v := (x4 + (6 : Int32))) (lv' := [(4, .int (x4 + (6 : Int32))), (6, .int r152), (5, .int r140), (0, .ref b), (1, .ref (ad 0)), (2, .ref (bd 0)), (3, .ref o)]) C dL_law_1505 rfl rfl rfl (by decide) rfl ?_
              refine g_goto (tgt := 23) C dL_law_1508 (by decide) ?_
              refine g_sub (lv' := [(0, .ref b), (1, .ref (ad 0)), (2, .ref (bd 0)), (3, .ref o), (4, .int (x4 + (6 : Int32)))]) [3, 4, 5, 6, 0] rfl ?_
              exact ih _ _ _ _ _ _ _ _ _ _ _ _ _ _ _ _ _ _ _ _ _ _ _ _ _ _ (by omega) (by omega) hv
            · have hv := hv2 c
              refine g_aload_n (pc' := 174) C dL_law_173 rfl rfl rfl ?_
              refine g_iconst (pc' := 175) (v := (0 : Int32)) C dL_law_174 rfl (by decide) ?_
              obtain ⟨hi, hv⟩ := hv
              refine g_lald (pc' := 176) C dL_law_175 rfl 22 rfl hi ?_
              refine g_iload (pc' := 178) C dL_law_176 rfl rfl ?_
              refine g_i2l (pc' := 179) C dL_law_178 rfl ?_
              refine g_lcmp (pc' := 180) C dL_law_179 rfl ?_
              obtain ⟨hv1, hv2⟩ := hv
              refine g_if_eq (pc' := 183) (tgt := 185) C dL_law_180 rfl (by decide) (fun c => ?_) (fun c => ?_)
              · have hv := hv1 c
                refine g_goto (tgt := 1505) C dL_law_185 (by decide) ?_
                refine g_iinc (pc' := 1508) (v := (x4 + (6 : Int32))) (lv' := [(4, .int (x4 + (6 : Int32))), (6, .int r152), (5, .int r140), (0, .ref b), (1, .ref (ad 0)), (2, .ref (bd 0)), (3, .ref o)]) C dL_law_1505 rfl rfl rfl (by decide) rfl ?_
                refine g_goto (tgt := 23) C dL_law_1508 (by decide) ?_
                refine g_sub (lv' := [(0, .ref b), (1, .ref (ad 0)), (2, .ref (bd 0)), (3, .ref o), (4, .int (x4 + (6 : Int32)))]) [3, 4, 5, 6, 0] rfl ?_
                exact ih _ _ _ _ _ _ _ _ _ _ _ _ _ _ _ _ _ _ _ _ _ _ _ _ _ _ (by omega) (by omega) hv
              · have hv := hv2 c
                refine g_iconst (pc' := 184) (v := (0 : Int32)) C dL_law_183 rfl (by decide) ?_
                exact hv.elim
          · have hv := hv2 c
            refine g_iconst (pc' := 167) (v := (0 : Int32)) C dL_law_166 rfl (by decide) ?_
            exact hv.elim
        · have hv := hv.2.2.1 e
          refine g_tabIn (tgt := 188) (off := 148) C dL_law_40 (by omega) (by omega) (by rw [e]; rfl) (by decide) ?_
          refine g_aload_n (pc' := 189) C dL_law_188 rfl rfl rfl ?_
          refine cfI (pc' := 192) C (run_VI (rest := []) C lk_L_86 (mtX3_places hv) ⟨by decide, by decide⟩ rfl rfl rfl rfl (Nat.le_of_ble_eq_true rfl) ⟨by rw [hR]; show _ ≤ 1063; omega, by rw [hR]; show _ ≤ 11476; omega⟩ dL_law_189) rfl [0, 1, 2, 3, 4, 5, 6, 7, 8, 9, 10, 11, 12] [13, 14, 15, 16, 17, 18, 19, 20, 21, 22] [10, 11, 12, 13, 14, 15, 16, 17, 18, 19, 20, 21, 22, 0, 1, 2, 3, 4, 5, 6, 7, 8, 9] nd_LB di_LB (fun u189 => wL γ ad bd o seen cnt pwc par amt held clos seW seS leW leS pl msn thr mpar mcel mhel mclo msea mwei msha mmon out) rfl rfl (fun _ => rfl) (fun r189 u189 hv => ?_)
          refine g_aload_n (pc' := 193) C dL_law_192 rfl rfl rfl ?_
          refine cfI (pc' := 196) C (run_VI (rest := [.int r189]) C lk_L_89 (mtX4_places hv) ⟨by decide, by decide⟩ rfl rfl rfl rfl (Nat.le_of_ble_eq_true rfl) ⟨by rw [hR]; show _ ≤ 1063; omega, by rw [hR]; show _ ≤ 11476; omega⟩ dL_law_193) rfl [13, 14, 15, 16, 17, 18, 19, 20, 21] [0, 1, 2, 3, 4, 5, 6, 7, 8, 9, 10, 11, 12, 22] [0, 1, 2, 3, 4, 5, 6, 7, 8, 9, 10, 11, 12, 14, 15, 16, 17, 18, 19, 20, 21, 22, 13] nd_LM di_LM (fun u193 => wL γ ad bd o seen cnt pwc par amt held clos seW seS leW leS pl msn u193 mpar mcel mhel mclo msea mwei msha mmon out) rfl rfl (fun _ => rfl) (fun r193 u193 hv => ?_)
          obtain ⟨hv1, hv2⟩ := hv
          refine g_icmp_eq (pc' := 199) (tgt := 1505) C dL_law_196 rfl (by decide) (fun c => ?_) (fun c => ?_)
          · have hv := hv1 c
            refine g_iinc (pc' := 1508) (v := (x4 + (6 : Int32))) (lv' := [(4, .int (x4 + (6 : Int32))), (0, .ref b), (1, .ref (ad 0)), (2, .ref (bd 0)), (3, .ref o)]) C dL_law_1505 rfl rfl rfl (by decide) rfl ?_
            refine g_goto (tgt := 23) C dL_law_1508 (by decide) ?_
            refine g_sub (lv' := [(0, .ref b), (1, .ref (ad 0)), (2, .ref (bd 0)), (3, .ref o), (4, .int (x4 + (6 : Int32)))]) [1, 2, 3, 4, 0] rfl ?_
            exact ih _ _ _ _ _ _ _ _ _ _ _ _ _ _ _ _ _ _ _ _ _ _ _ _ _ _ (by omega) (by omega) hv
          · have hv := hv2 c
            refine g_iconst (pc' := 200) (v := (0 : Int32)) C dL_law_199 rfl (by decide) ?_
            exact hv.elim
        · have hv := hv.2.2.2.1 e
          refine g_tabIn (tgt := 201) (off := 161) C dL_law_40 (by omega) (by omega) (by rw [e]; rfl) (by decide) ?_
          refine g_aload_n (pc' := 202) C dL_law_201 rfl rfl rfl ?_
          refine g_aload_n (pc' := 203) C dL_law_202 rfl rfl rfl ?_
          refine g_iload (pc' := 205) C dL_law_203 rfl rfl ?_
          refine g_iconst (pc' := 206) (v := (1 : Int32)) C dL_law_205 rfl (by decide) ?_
          refine g_iadd (pc' := 207) C dL_law_206 rfl ?_
          obtain ⟨hi, hv⟩ := hv
          refine g_sld (pc' := 208) C hX hbl hbA dL_law_207 rfl hi ?_
          refine g_aload_n (pc' := 209) C dL_law_208 rfl rfl rfl ?_
          refine cfH (pc' := 212) C (run_SH (rest := []) C lk_L_90 (mtL_leaves hfl hv) ⟨by decide, by decide⟩ rfl rfl (Nat.le_of_ble_eq_true rfl) ⟨by rw [hR]; show _ ≤ 1063; omega, by rw [hR]; show _ ≤ 11476; omega⟩ dL_law_209) rfl [0, 1, 2, 3, 4, 5, 6, 7, 8, 9, 10, 11, 12, 22] [13, 14, 15, 16, 17, 18, 19, 20, 21] [9, 10, 11, 12, 13, 14, 15, 16, 17, 18, 19, 20, 21, 0, 1, 2, 3, 4, 5, 6, 7, 8, 22] nd_LH di_LH (fun u209 => wL γ ad bd o seen cnt pwc par amt held clos seW seS leW leS pl msn thr mpar mcel mhel mclo msea mwei msha mmon u209) rfl rfl (fun _ => rfl) (fun r209 u209 hv => ?_)
          refine g_istore (pc' := 214) (lv' := [(5, .int r209), (0, .ref b), (1, .ref (ad 0)), (2, .ref (bd 0)), (3, .ref o), (4, .int x4)]) C dL_law_212 rfl (by decide) rfl ?_
          refine g_aload_n (pc' := 215) C dL_law_214 rfl rfl rfl ?_
          refine g_aload_n (pc' := 216) C dL_law_215 rfl rfl rfl ?_
          refine g_iload (pc' := 218) C dL_law_216 rfl rfl ?_
          refine g_iconst (pc' := 219) (v := (1 : Int32)) C dL_law_218 rfl (by decide) ?_
          refine g_iadd (pc' := 220) C dL_law_219 rfl ?_
          obtain ⟨hi, hv⟩ := hv
          refine g_sld (pc' := 221) C hX hbl hbA dL_law_220 rfl hi ?_
          refine cfI (pc' := 224) C (run_VI (rest := []) C lk_L_92 (mtX4_leaves hv) ⟨by decide, by decide⟩ rfl rfl rfl rfl (Nat.le_of_ble_eq_true rfl) ⟨by rw [hR]; show _ ≤ 1063; omega, by rw [hR]; show _ ≤ 11476; omega⟩ dL_law_221) rfl [13, 14, 15, 16, 17, 18, 19, 20, 21] [0, 1, 2, 3, 4, 5, 6, 7, 8, 9, 10, 11, 12, 22] [0, 1, 2, 3, 4, 5, 6, 7, 8, 9, 10, 11, 12, 14, 15, 16, 17, 18, 19, 20, 21, 22, 13] nd_LM di_LM (fun u221 => wL γ ad bd o seen cnt pwc par amt held clos seW seS leW leS pl msn u221 mpar mcel mhel mclo msea mwei msha mmon u209) rfl rfl (fun _ => rfl) (fun r221 u221 hv => ?_)
          refine g_istore (pc' := 226) (lv' := [(6, .int r221), (5, .int r209), (0, .ref b), (1, .ref (ad 0)), (2, .ref (bd 0)), (3, .ref o), (4, .int x4)]) C dL_law_224 rfl (by decide) rfl ?_
          refine g_aload_n (pc' := 227) C dL_law_226 rfl rfl rfl ?_
          refine cfI (pc' := 230) C (run_VI (rest := []) C lk_L_83 (mtX4_thrown hv) ⟨by decide, by decide⟩ rfl rfl rfl rfl (Nat.le_of_ble_eq_true rfl) ⟨by rw [hR]; show _ ≤ 1063; omega, by rw [hR]; show _ ≤ 11476; omega⟩ dL_law_227) rfl [13, 14, 15, 16, 17, 18, 19, 20, 21] [0, 1, 2, 3, 4, 5, 6, 7, 8, 9, 10, 11, 12, 22] [0, 1, 2, 3, 4, 5, 6, 7, 8, 9, 10, 11, 12, 14, 15, 16, 17, 18, 19, 20, 21, 22, 13] nd_LM di_LM (fun u227 => wL γ ad bd o seen cnt pwc par amt held clos seW seS leW leS pl msn u221 mpar mcel mhel mclo msea mwei msha mmon u209) rfl rfl (fun _ => rfl) (fun r227 u227 hv => ?_)
          refine g_iload (pc' := 232) C dL_law_230 rfl rfl ?_
          obtain ⟨hv1, hv2⟩ := hv
          refine g_icmp_eq (pc' := 235) (tgt := 237) C dL_law_232 rfl (by decide) (fun c => ?_) (fun c => ?_)
          · have hv := hv1 c
            refine g_iload (pc' := 239) C dL_law_237 rfl rfl ?_
            obtain ⟨hv1, hv2⟩ := hv
            refine g_if_ne (pc' := 242) (tgt := 254) C dL_law_239 rfl (by decide) (fun c => ?_) (fun c => ?_)
            · have hv := hv1 c
              refine g_goto (tgt := 1505) C dL_law_254 (by decide) ?_
              refine g_iinc (pc' := 1508) (v := (x4 + (6 : Int32))) (lv' := [(4, .int (x4 + (6 : Int32))), (6, .int r221), (5, .int r209), (0, .ref b), (1, .ref (ad 0)), (2, .ref (bd 0)), (3, .ref o)]) C dL_law_1505 rfl rfl rfl (by decide) rfl ?_
              refine g_goto (tgt := 23) C dL_law_1508 (by decide) ?_
              refine g_sub (lv' := [(0, .ref b), (1, .ref (ad 0)), (2, .ref (bd 0)), (3, .ref o), (4, .int (x4 + (6 : Int32)))]) [3, 4, 5, 6, 0] rfl ?_
              exact ih _ _ _ _ _ _ _ _ _ _ _ _ _ _ _ _ _ _ _ _ _ _ _ _ _ _ (by omega) (by omega) hv
            · have hv := hv2 c
              refine g_aload_n (pc' := 243) C dL_law_242 rfl rfl rfl ?_
              refine g_iconst (pc' := 244) (v := (0 : Int32)) C dL_law_243 rfl (by decide) ?_
              obtain ⟨hi, hv⟩ := hv
              refine g_lald (pc' := 245) C dL_law_244 rfl 22 rfl hi ?_
              refine g_iload (pc' := 247) C dL_law_245 rfl rfl ?_
              refine g_i2l (pc' := 248) C dL_law_247 rfl ?_
              refine g_lcmp (pc' := 249) C dL_law_248 rfl ?_
              obtain ⟨hv1, hv2⟩ := hv
              refine g_if_eq (pc' := 252) (tgt := 254) C dL_law_249 rfl (by decide) (fun c => ?_) (fun c => ?_)
              · have hv := hv1 c
                refine g_goto (tgt := 1505) C dL_law_254 (by decide) ?_
                refine g_iinc (pc' := 1508) (v := (x4 + (6 : Int32))) (lv' := [(4, .int (x4 + (6 : Int32))), (6, .int r221), (5, .int r209), (0, .ref b), (1, .ref (ad 0)), (2, .ref (bd 0)), (3, .ref o)]) C dL_law_1505 rfl rfl rfl (by decide) rfl ?_
                refine g_goto (tgt := 23) C dL_law_1508 (by decide) ?_
                refine g_sub (lv' := [(0, .ref b), (1, .ref (ad 0)), (2, .ref (bd 0)), (3, .ref o), (4, .int (x4 + (6 : Int32)))]) [3, 4, 5, 6, 0] rfl ?_
                exact ih _ _ _ _ _ _ _ _ _ _ _ _ _ _ _ _ _ _ _ _ _ _ _ _ _ _ (by omega) (by omega) hv
              · have hv := hv2 c
                refine g_iconst (pc' := 253) (v := (0 : Int32)) C dL_law_252 rfl (by decide) ?_
                exact hv.elim
          · have hv := hv2 c
            refine g_iconst (pc' := 236) (v := (0 : Int32)) C dL_law_235 rfl (by decide) ?_
            exact hv.elim
        · have hv := hv.2.2.2.2.1 e
          refine g_tabIn (tgt := 257) (off := 217) C dL_law_40 (by omega) (by omega) (by rw [e]; rfl) (by decide) ?_
          refine g_aload_n (pc' := 258) C dL_law_257 rfl rfl rfl ?_
          refine g_aload_n (pc' := 259) C dL_law_258 rfl rfl rfl ?_
          refine g_iload (pc' := 261) C dL_law_259 rfl rfl ?_
          refine g_iconst (pc' := 262) (v := (1 : Int32)) C dL_law_261 rfl (by decide) ?_
          refine g_iadd (pc' := 263) C dL_law_262 rfl ?_
          obtain ⟨hi, hv⟩ := hv
          refine g_sld (pc' := 264) C hX hbl hbA dL_law_263 rfl hi ?_
          refine g_aload_n (pc' := 265) C dL_law_264 rfl rfl rfl ?_
          refine g_iload (pc' := 267) C dL_law_265 rfl rfl ?_
          refine g_iconst (pc' := 268) (v := (2 : Int32)) C dL_law_267 rfl (by decide) ?_
          refine g_iadd (pc' := 269) C dL_law_268 rfl ?_
          obtain ⟨hi, hv⟩ := hv
          refine g_sld (pc' := 270) C hX hbl hbA dL_law_269 rfl hi ?_
          refine g_aload_n (pc' := 271) C dL_law_270 rfl rfl rfl ?_
          refine g_iload (pc' := 273) C dL_law_271 rfl rfl ?_
          refine g_iconst (pc' := 274) (v := (3 : Int32)) C dL_law_273 rfl (by decide) ?_
          refine g_iadd (pc' := 275) C dL_law_274 rfl ?_
          obtain ⟨hi, hv⟩ := hv
          refine g_sld (pc' := 276) C hX hbl hbA dL_law_275 rfl hi ?_
          refine g_aload_n (pc' := 277) C dL_law_276 rfl rfl rfl ?_
          refine g_iload (pc' := 279) C dL_law_277 rfl rfl ?_
          refine g_iconst (pc' := 280) (v := (4 : Int32)) C dL_law_279 rfl (by decide) ?_
          refine g_iadd (pc' := 281) C dL_law_280 rfl ?_
          obtain ⟨hi, hv⟩ := hv
          refine g_sld (pc' := 282) C hX hbl hbA dL_law_281 rfl hi ?_
          refine g_aload_n (pc' := 283) C dL_law_282 rfl rfl rfl ?_
          refine g_iload (pc' := 285) C dL_law_283 rfl rfl ?_
          refine g_iconst (pc' := 286) (v := (5 : Int32)) C dL_law_285 rfl (by decide) ?_
          refine g_iadd (pc' := 287) C dL_law_286 rfl ?_
          obtain ⟨hi, hv⟩ := hv
          refine g_sld (pc' := 288) C hX hbl hbA dL_law_287 rfl hi ?_
          refine g_aload_n (pc' := 289) C dL_law_288 rfl rfl rfl ?_
          refine cfH (pc' := 292) C (run_SH (rest := []) C lk_L_93 (mtL_set hfl hv) ⟨by decide, by decide⟩ rfl rfl (Nat.le_of_ble_eq_true rfl) ⟨by rw [hR]; show _ ≤ 1063; omega, by rw [hR]; show _ ≤ 11476; omega⟩ dL_law_289) rfl [0, 1, 2, 3, 4, 5, 6, 7, 8, 9, 10, 11, 12, 22] [13, 14, 15, 16, 17, 18, 19, 20, 21] [9, 10, 11, 12, 13, 14, 15, 16, 17, 18, 19, 20, 21, 0, 1, 2, 3, 4, 5, 6, 7, 8, 22] nd_LH di_LH (fun u289 => wL γ ad bd o seen cnt pwc par u289.1 held clos seW seS leW leS pl msn thr mpar mcel mhel mclo msea mwei msha mmon u289.2) rfl rfl (fun _ => rfl) (fun r289 u289 hv => ?_)
          refine g_istore (pc' := 294) (lv' := [(5, .int r289), (0, .ref b), (1, .ref (ad 0)), (2, .ref (bd 0)), (3, .ref o), (4, .int x4)]) C dL_law_292 rfl (by decide) rfl ?_
          refine g_aload_n (pc' := 295) C dL_law_294 rfl rfl rfl ?_
          refine g_aload_n (pc' := 296) C dL_law_295 rfl rfl rfl ?_
          refine g_iload (pc' := 298) C dL_law_296 rfl rfl ?_
          refine g_iconst (pc' := 299) (v := (1 : Int32)) C dL_law_298 rfl (by decide) ?_
          refine g_iadd (pc' := 300) C dL_law_299 rfl ?_
          obtain ⟨hi, hv⟩ := hv
          refine g_sld (pc' := 301) C hX hbl hbA dL_law_300 rfl hi ?_
          refine g_aload_n (pc' := 302) C dL_law_301 rfl rfl rfl ?_
          refine g_iload (pc' := 304) C dL_law_302 rfl rfl ?_
          refine g_iconst (pc' := 305) (v := (2 : Int32)) C dL_law_304 rfl (by decide) ?_
          refine g_iadd (pc' := 306) C dL_law_305 rfl ?_
          obtain ⟨hi, hv⟩ := hv
          refine g_sld (pc' := 307) C hX hbl hbA dL_law_306 rfl hi ?_
          refine g_aload_n (pc' := 308) C dL_law_307 rfl rfl rfl ?_
          refine g_iload (pc' := 310) C dL_law_308 rfl rfl ?_
          refine g_iconst (pc' := 311) (v := (3 : Int32)) C dL_law_310 rfl (by decide) ?_
          refine g_iadd (pc' := 312) C dL_law_311 rfl ?_
          obtain ⟨hi, hv⟩ := hv
          refine g_sld (pc' := 313) C hX hbl hbA dL_law_312 rfl hi ?_
          refine g_aload_n (pc' := 314) C dL_law_313 rfl rfl rfl ?_
          refine g_iload (pc' := 316) C dL_law_314 rfl rfl ?_
          refine g_iconst (pc' := 317) (v := (4 : Int32)) C dL_law_316 rfl (by decide) ?_
          refine g_iadd (pc' := 318) C dL_law_317 rfl ?_
          obtain ⟨hi, hv⟩ := hv
          refine g_sld (pc' := 319) C hX hbl hbA dL_law_318 rfl hi ?_
          refine g_aload_n (pc' := 320) C dL_law_319 rfl rfl rfl ?_
          refine g_iload (pc' := 322) C dL_law_320 rfl rfl ?_
          refine g_iconst (pc' := 323) (v := (5 : Int32)) C dL_law_322 rfl (by decide) ?_
          refine g_iadd (pc' := 324) C dL_law_323 rfl ?_
          obtain ⟨hi, hv⟩ := hv
          refine g_sld (pc' := 325) C hX hbl hbA dL_law_324 rfl hi ?_
          refine cfI (pc' := 328) C (run_VI (rest := []) C lk_L_96 (mtX4_set hv) ⟨by decide, by decide⟩ rfl rfl rfl rfl (Nat.le_of_ble_eq_true rfl) ⟨by rw [hR]; show _ ≤ 1063; omega, by rw [hR]; show _ ≤ 11476; omega⟩ dL_law_325) rfl [13, 14, 15, 16, 17, 18, 19, 20, 21] [0, 1, 2, 3, 4, 5, 6, 7, 8, 9, 10, 11, 12, 22] [0, 1, 2, 3, 4, 5, 6, 7, 8, 9, 10, 11, 12, 14, 15, 16, 17, 18, 19, 20, 21, 22, 13] nd_LM di_LM (fun u325 => wL γ ad bd o seen cnt pwc par u289.1 held clos seW seS leW leS pl msn u325.1 mpar u325.2 mhel mclo msea mwei msha mmon u289.2) rfl rfl (fun _ => rfl) (fun r325 u325 hv => ?_)
          refine g_istore (pc' := 330) (lv' := [(6, .int r325), (5, .int r289), (0, .ref b), (1, .ref (ad 0)), (2, .ref (bd 0)), (3, .ref o), (4, .int x4)]) C dL_law_328 rfl (by decide) rfl ?_
          refine g_aload_n (pc' := 331) C dL_law_330 rfl rfl rfl ?_
          refine cfI (pc' := 334) C (run_VI (rest := []) C lk_L_83 (mtX4_thrown hv) ⟨by decide, by decide⟩ rfl rfl rfl rfl (Nat.le_of_ble_eq_true rfl) ⟨by rw [hR]; show _ ≤ 1063; omega, by rw [hR]; show _ ≤ 11476; omega⟩ dL_law_331) rfl [13, 14, 15, 16, 17, 18, 19, 20, 21] [0, 1, 2, 3, 4, 5, 6, 7, 8, 9, 10, 11, 12, 22] [0, 1, 2, 3, 4, 5, 6, 7, 8, 9, 10, 11, 12, 14, 15, 16, 17, 18, 19, 20, 21, 22, 13] nd_LM di_LM (fun u331 => wL γ ad bd o seen cnt pwc par u289.1 held clos seW seS leW leS pl msn u325.1 mpar u325.2 mhel mclo msea mwei msha mmon u289.2) rfl rfl (fun _ => rfl) (fun r331 u331 hv => ?_)
          refine g_iload (pc' := 336) C dL_law_334 rfl rfl ?_
          obtain ⟨hv1, hv2⟩ := hv
          refine g_icmp_eq (pc' := 339) (tgt := 341) C dL_law_336 rfl (by decide) (fun c => ?_) (fun c => ?_)
          · have hv := hv1 c
            refine g_iload (pc' := 343) C dL_law_341 rfl rfl ?_
            obtain ⟨hv1, hv2⟩ := hv
            refine g_if_ne (pc' := 346) (tgt := 358) C dL_law_343 rfl (by decide) (fun c => ?_) (fun c => ?_)
            · have hv := hv1 c
              refine g_goto (tgt := 1505) C dL_law_358 (by decide) ?_
              refine g_iinc (pc' := 1508) (v := (x4 + (6 : Int32))) (lv' := [(4, .int (x4 + (6 : Int32))), (6, .int r325), (5, .int r289), (0, .ref b), (1, .ref (ad 0)), (2, .ref (bd 0)), (3, .ref o)]) C dL_law_1505 rfl rfl rfl (by decide) rfl ?_
              refine g_goto (tgt := 23) C dL_law_1508 (by decide) ?_
              refine g_sub (lv' := [(0, .ref b), (1, .ref (ad 0)), (2, .ref (bd 0)), (3, .ref o), (4, .int (x4 + (6 : Int32)))]) [3, 4, 5, 6, 0] rfl ?_
              exact ih _ _ _ _ _ _ _ _ _ _ _ _ _ _ _ _ _ _ _ _ _ _ _ _ _ _ (by omega) (by omega) hv
            · have hv := hv2 c
              refine g_aload_n (pc' := 347) C dL_law_346 rfl rfl rfl ?_
              refine g_iconst (pc' := 348) (v := (0 : Int32)) C dL_law_347 rfl (by decide) ?_
              obtain ⟨hi, hv⟩ := hv
              refine g_lald (pc' := 349) C dL_law_348 rfl 22 rfl hi ?_
              refine g_iload (pc' := 351) C dL_law_349 rfl rfl ?_
              refine g_i2l (pc' := 352) C dL_law_351 rfl ?_
              refine g_lcmp (pc' := 353) C dL_law_352 rfl ?_
              obtain ⟨hv1, hv2⟩ := hv
              refine g_if_eq (pc' := 356) (tgt := 358) C dL_law_353 rfl (by decide) (fun c => ?_) (fun c => ?_)
              · have hv := hv1 c
                refine g_goto (tgt := 1505) C dL_law_358 (by decide) ?_
                refine g_iinc (pc' := 1508) (v := (x4 + (6 : Int32))) (lv' := [(4, .int (x4 + (6 : Int32))), (6, .int r325), (5, .int r289), (0, .ref b), (1, .ref (ad 0)), (2, .ref (bd 0)), (3, .ref o)]) C dL_law_1505 rfl rfl rfl (by decide) rfl ?_
                refine g_goto (tgt := 23) C dL_law_1508 (by decide) ?_
                refine g_sub (lv' := [(0, .ref b), (1, .ref (ad 0)), (2, .ref (bd 0)), (3, .ref o), (4, .int (x4 + (6 : Int32)))]) [3, 4, 5, 6, 0] rfl ?_
                exact ih _ _ _ _ _ _ _ _ _ _ _ _ _ _ _ _ _ _ _ _ _ _ _ _ _ _ (by omega) (by omega) hv
              · have hv := hv2 c
                refine g_iconst (pc' := 357) (v := (0 : Int32)) C dL_law_356 rfl (by decide) ?_
                exact hv.elim
          · have hv := hv2 c
            refine g_iconst (pc' := 340) (v := (0 : Int32)) C dL_law_339 rfl (by decide) ?_
            exact hv.elim
        · have hv := hv.2.2.2.2.2.1 e
          refine g_tabIn (tgt := 361) (off := 321) C dL_law_40 (by omega) (by omega) (by rw [e]; rfl) (by decide) ?_
          refine g_aload_n (pc' := 362) C dL_law_361 rfl rfl rfl ?_
          refine g_aload_n (pc' := 363) C dL_law_362 rfl rfl rfl ?_
          refine g_iload (pc' := 365) C dL_law_363 rfl rfl ?_
          refine g_iconst (pc' := 366) (v := (1 : Int32)) C dL_law_365 rfl (by decide) ?_
          refine g_iadd (pc' := 367) C dL_law_366 rfl ?_
          obtain ⟨hi, hv⟩ := hv
          refine g_sld (pc' := 368) C hX hbl hbA dL_law_367 rfl hi ?_
          refine g_aload_n (pc' := 369) C dL_law_368 rfl rfl rfl ?_
          refine g_iload (pc' := 371) C dL_law_369 rfl rfl ?_
          refine g_iconst (pc' := 372) (v := (2 : Int32)) C dL_law_371 rfl (by decide) ?_
          refine g_iadd (pc' := 373) C dL_law_372 rfl ?_
          obtain ⟨hi, hv⟩ := hv
          refine g_sld (pc' := 374) C hX hbl hbA dL_law_373 rfl hi ?_
          refine g_aload_n (pc' := 375) C dL_law_374 rfl rfl rfl ?_
          refine g_iload (pc' := 377) C dL_law_375 rfl rfl ?_
          refine g_iconst (pc' := 378) (v := (3 : Int32)) C dL_law_377 rfl (by decide) ?_
          refine g_iadd (pc' := 379) C dL_law_378 rfl ?_
          obtain ⟨hi, hv⟩ := hv
          refine g_sld (pc' := 380) C hX hbl hbA dL_law_379 rfl hi ?_
          obtain ⟨hv1, hv2⟩ := hv
          refine g_if_eq (pc' := 383) (tgt := 387) C dL_law_380 rfl (by decide) (fun c => ?_) (fun c => ?_)
          · have hv := hv1 c
            refine g_iconst (pc' := 388) (v := (0 : Int32)) C dL_law_387 rfl (by decide) ?_
            exact wvL_law_J388 hfl C hX hbl hbA hR RT (kb := 1063 - n) (sb := 11476 - 6 * n) (fun x4 seen cnt pwc par amt held clos seW seS leW leS pl msn thr mpar mcel mhel mclo msea mwei msha mmon out k1 s1 h1 h2 hv => ih x4 seen cnt pwc par amt held clos seW seS leW leS pl msn thr mpar mcel mhel mclo msea mwei msha mmon out k1 s1 (by omega) (by omega) hv) (by omega) (by omega) (by omega) (by omega) hv
          · have hv := hv2 c
            refine g_iconst (pc' := 384) (v := (1 : Int32)) C dL_law_383 rfl (by decide) ?_
            refine g_goto (tgt := 388) C dL_law_384 (by decide) ?_
            exact wvL_law_J388 hfl C hX hbl hbA hR RT (kb := 1063 - n) (sb := 11476 - 6 * n) (fun x4 seen cnt pwc par amt held clos seW seS leW leS pl msn thr mpar mcel mhel mclo msea mwei msha mmon out k1 s1 h1 h2 hv => ih x4 seen cnt pwc par amt held clos seW seS leW leS pl msn thr mpar mcel mhel mclo msea mwei msha mmon out k1 s1 (by omega) (by omega) hv) (by omega) (by omega) (by omega) (by omega) hv
        · have hv := hv.2.2.2.2.2.2.1 e
          refine g_tabIn (tgt := 464) (off := 424) C dL_law_40 (by omega) (by omega) (by rw [e]; rfl) (by decide) ?_
          refine g_aload_n (pc' := 465) C dL_law_464 rfl rfl rfl ?_
          refine g_aload_n (pc' := 466) C dL_law_465 rfl rfl rfl ?_
          refine g_iload (pc' := 468) C dL_law_466 rfl rfl ?_
          refine g_iconst (pc' := 469) (v := (1 : Int32)) C dL_law_468 rfl (by decide) ?_
          refine g_iadd (pc' := 470) C dL_law_469 rfl ?_
          obtain ⟨hi, hv⟩ := hv
          refine g_sld (pc' := 471) C hX hbl hbA dL_law_470 rfl hi ?_
          refine g_aload_n (pc' := 472) C dL_law_471 rfl rfl rfl ?_
          refine g_iload (pc' := 474) C dL_law_472 rfl rfl ?_
          refine g_iconst (pc' := 475) (v := (2 : Int32)) C dL_law_474 rfl (by decide) ?_
          refine g_iadd (pc' := 476) C dL_law_475 rfl ?_
          obtain ⟨hi, hv⟩ := hv
          refine g_sld (pc' := 477) C hX hbl hbA dL_law_476 rfl hi ?_
          refine g_aload_n (pc' := 478) C dL_law_477 rfl rfl rfl ?_
          refine cfH (pc' := 481) C (run_SH (rest := []) C lk_L_101 (mtL_setSeason hfl hv) ⟨by decide, by decide⟩ rfl rfl (Nat.le_of_ble_eq_true rfl) ⟨by rw [hR]; show _ ≤ 1063; omega, by rw [hR]; show _ ≤ 11476; omega⟩ dL_law_478) rfl [0, 1, 2, 3, 4, 5, 6, 7, 8, 9, 10, 11, 12, 22] [13, 14, 15, 16, 17, 18, 19, 20, 21] [9, 10, 11, 12, 13, 14, 15, 16, 17, 18, 19, 20, 21, 0, 1, 2, 3, 4, 5, 6, 7, 8, 22] nd_LH di_LH (fun u478 => wL γ ad bd o seen cnt pwc par amt held clos u478.1 seS leW leS pl msn thr mpar mcel mhel mclo msea mwei msha mmon u478.2) rfl rfl (fun _ => rfl) (fun r478 u478 hv => ?_)
          refine g_istore (pc' := 483) (lv' := [(5, .int r478), (0, .ref b), (1, .ref (ad 0)), (2, .ref (bd 0)), (3, .ref o), (4, .int x4)]) C dL_law_481 rfl (by decide) rfl ?_
          refine g_aload_n (pc' := 484) C dL_law_483 rfl rfl rfl ?_
          refine g_aload_n (pc' := 485) C dL_law_484 rfl rfl rfl ?_
          refine g_iload (pc' := 487) C dL_law_485 rfl rfl ?_
          refine g_iconst (pc' := 488) (v := (1 : Int32)) C dL_law_487 rfl (by decide) ?_
          refine g_iadd (pc' := 489) C dL_law_488 rfl ?_
          obtain ⟨hi, hv⟩ := hv
          refine g_sld (pc' := 490) C hX hbl hbA dL_law_489 rfl hi ?_
          refine g_aload_n (pc' := 491) C dL_law_490 rfl rfl rfl ?_
          refine g_iload (pc' := 493) C dL_law_491 rfl rfl ?_
          refine g_iconst (pc' := 494) (v := (2 : Int32)) C dL_law_493 rfl (by decide) ?_
          refine g_iadd (pc' := 495) C dL_law_494 rfl ?_
          obtain ⟨hi, hv⟩ := hv
          refine g_sld (pc' := 496) C hX hbl hbA dL_law_495 rfl hi ?_
          refine cfI (pc' := 499) C (run_VI (rest := []) C lk_L_104 (mtX4_setSeason hv) ⟨by decide, by decide⟩ rfl rfl rfl rfl (Nat.le_of_ble_eq_true rfl) ⟨by rw [hR]; show _ ≤ 1063; omega, by rw [hR]; show _ ≤ 11476; omega⟩ dL_law_496) rfl [13, 14, 15, 16, 17, 18, 19, 20, 21] [0, 1, 2, 3, 4, 5, 6, 7, 8, 9, 10, 11, 12, 22] [0, 1, 2, 3, 4, 5, 6, 7, 8, 9, 10, 11, 12, 14, 15, 16, 17, 18, 19, 20, 21, 22, 13] nd_LM di_LM (fun u496 => wL γ ad bd o seen cnt pwc par amt held clos u478.1 seS leW leS pl msn u496.1 mpar mcel mhel mclo u496.2 mwei msha mmon u478.2) rfl rfl (fun _ => rfl) (fun r496 u496 hv => ?_)
          refine g_istore (pc' := 501) (lv' := [(6, .int r496), (5, .int r478), (0, .ref b), (1, .ref (ad 0)), (2, .ref (bd 0)), (3, .ref o), (4, .int x4)]) C dL_law_499 rfl (by decide) rfl ?_
          refine g_aload_n (pc' := 502) C dL_law_501 rfl rfl rfl ?_
          refine cfI (pc' := 505) C (run_VI (rest := []) C lk_L_83 (mtX4_thrown hv) ⟨by decide, by decide⟩ rfl rfl rfl rfl (Nat.le_of_ble_eq_true rfl) ⟨by rw [hR]; show _ ≤ 1063; omega, by rw [hR]; show _ ≤ 11476; omega⟩ dL_law_502) rfl [13, 14, 15, 16, 17, 18, 19, 20, 21] [0, 1, 2, 3, 4, 5, 6, 7, 8, 9, 10, 11, 12, 22] [0, 1, 2, 3, 4, 5, 6, 7, 8, 9, 10, 11, 12, 14, 15, 16, 17, 18, 19, 20, 21, 22, 13] nd_LM di_LM (fun u502 => wL γ ad bd o seen cnt pwc par amt held clos u478.1 seS leW leS pl msn u496.1 mpar mcel mhel mclo u496.2 mwei msha mmon u478.2) rfl rfl (fun _ => rfl) (fun r502 u502 hv => ?_)
          refine g_iload (pc' := 507) C dL_law_505 rfl rfl ?_
          obtain ⟨hv1, hv2⟩ := hv
          refine g_icmp_eq (pc' := 510) (tgt := 512) C dL_law_507 rfl (by decide) (fun c => ?_) (fun c => ?_)
          · have hv := hv1 c
            refine g_iload (pc' := 514) C dL_law_512 rfl rfl ?_
            obtain ⟨hv1, hv2⟩ := hv
            refine g_if_ne (pc' := 517) (tgt := 529) C dL_law_514 rfl (by decide) (fun c => ?_) (fun c => ?_)
            · have hv := hv1 c
              refine g_goto (tgt := 1505) C dL_law_529 (by decide) ?_
              refine g_iinc (pc' := 1508) (v := (x4 + (6 : Int32))) (lv' := [(4, .int (x4 + (6 : Int32))), (6, .int r496), (5, .int r478), (0, .ref b), (1, .ref (ad 0)), (2, .ref (bd 0)), (3, .ref o)]) C dL_law_1505 rfl rfl rfl (by decide) rfl ?_
              refine g_goto (tgt := 23) C dL_law_1508 (by decide) ?_
              refine g_sub (lv' := [(0, .ref b), (1, .ref (ad 0)), (2, .ref (bd 0)), (3, .ref o), (4, .int (x4 + (6 : Int32)))]) [3, 4, 5, 6, 0] rfl ?_
              exact ih _ _ _ _ _ _ _ _ _ _ _ _ _ _ _ _ _ _ _ _ _ _ _ _ _ _ (by omega) (by omega) hv
            · have hv := hv2 c
              refine g_aload_n (pc' := 518) C dL_law_517 rfl rfl rfl ?_
              refine g_iconst (pc' := 519) (v := (0 : Int32)) C dL_law_518 rfl (by decide) ?_
              obtain ⟨hi, hv⟩ := hv
              refine g_lald (pc' := 520) C dL_law_519 rfl 22 rfl hi ?_
              refine g_iload (pc' := 522) C dL_law_520 rfl rfl ?_
              refine g_i2l (pc' := 523) C dL_law_522 rfl ?_
              refine g_lcmp (pc' := 524) C dL_law_523 rfl ?_
              obtain ⟨hv1, hv2⟩ := hv
              refine g_if_eq (pc' := 527) (tgt := 529) C dL_law_524 rfl (by decide) (fun c => ?_) (fun c => ?_)
              · have hv := hv1 c
                refine g_goto (tgt := 1505) C dL_law_529 (by decide) ?_
                refine g_iinc (pc' := 1508) (v := (x4 + (6 : Int32))) (lv' := [(4, .int (x4 + (6 : Int32))), (6, .int r496), (5, .int r478), (0, .ref b), (1, .ref (ad 0)), (2, .ref (bd 0)), (3, .ref o)]) C dL_law_1505 rfl rfl rfl (by decide) rfl ?_
                refine g_goto (tgt := 23) C dL_law_1508 (by decide) ?_
                refine g_sub (lv' := [(0, .ref b), (1, .ref (ad 0)), (2, .ref (bd 0)), (3, .ref o), (4, .int (x4 + (6 : Int32)))]) [3, 4, 5, 6, 0] rfl ?_
                exact ih _ _ _ _ _ _ _ _ _ _ _ _ _ _ _ _ _ _ _ _ _ _ _ _ _ _ (by omega) (by omega) hv
              · have hv := hv2 c
                refine g_iconst (pc' := 528) (v := (0 : Int32)) C dL_law_527 rfl (by decide) ?_
                exact hv.elim
          · have hv := hv2 c
            refine g_iconst (pc' := 511) (v := (0 : Int32)) C dL_law_510 rfl (by decide) ?_
            exact hv.elim
        · have hv := hv.2.2.2.2.2.2.2.1 e
          refine g_tabIn (tgt := 532) (off := 492) C dL_law_40 (by omega) (by omega) (by rw [e]; rfl) (by decide) ?_
          refine g_aload_n (pc' := 533) C dL_law_532 rfl rfl rfl ?_
          refine g_aload_n (pc' := 534) C dL_law_533 rfl rfl rfl ?_
          refine g_iload (pc' := 536) C dL_law_534 rfl rfl ?_
          refine g_iconst (pc' := 537) (v := (1 : Int32)) C dL_law_536 rfl (by decide) ?_
          refine g_iadd (pc' := 538) C dL_law_537 rfl ?_
          obtain ⟨hi, hv⟩ := hv
          refine g_sld (pc' := 539) C hX hbl hbA dL_law_538 rfl hi ?_
          refine g_aload_n (pc' := 540) C dL_law_539 rfl rfl rfl ?_
          refine g_iload (pc' := 542) C dL_law_540 rfl rfl ?_
          refine g_iconst (pc' := 543) (v := (2 : Int32)) C dL_law_542 rfl (by decide) ?_
          refine g_iadd (pc' := 544) C dL_law_543 rfl ?_
          obtain ⟨hi, hv⟩ := hv
          refine g_sld (pc' := 545) C hX hbl hbA dL_law_544 rfl hi ?_
          refine g_aload_n (pc' := 546) C dL_law_545 rfl rfl rfl ?_
          refine g_iload (pc' := 548) C dL_law_546 rfl rfl ?_
          refine g_iconst (pc' := 549) (v := (3 : Int32)) C dL_law_548 rfl (by decide) ?_
          refine g_iadd (pc' := 550) C dL_law_549 rfl ?_
          obtain ⟨hi, hv⟩ := hv
          refine g_sld (pc' := 551) C hX hbl hbA dL_law_550 rfl hi ?_
          refine g_aload_n (pc' := 552) C dL_law_551 rfl rfl rfl ?_
          refine g_iload (pc' := 554) C dL_law_552 rfl rfl ?_
          refine g_iconst (pc' := 555) (v := (4 : Int32)) C dL_law_554 rfl (by decide) ?_
          refine g_iadd (pc' := 556) C dL_law_555 rfl ?_
          obtain ⟨hi, hv⟩ := hv
          refine g_sld (pc' := 557) C hX hbl hbA dL_law_556 rfl hi ?_
          refine g_aload_n (pc' := 558) C dL_law_557 rfl rfl rfl ?_
          refine g_iload (pc' := 560) C dL_law_558 rfl rfl ?_
          refine g_iconst (pc' := 561) (v := (5 : Int32)) C dL_law_560 rfl (by decide) ?_
          refine g_iadd (pc' := 562) C dL_law_561 rfl ?_
          obtain ⟨hi, hv⟩ := hv
          refine g_sld (pc' := 563) C hX hbl hbA dL_law_562 rfl hi ?_
          refine g_aload_n (pc' := 564) C dL_law_563 rfl rfl rfl ?_
          refine cfH (pc' := 567) C (run_SH (rest := []) C lk_L_105 (mtL_spread hfl hv) ⟨by decide, by decide⟩ rfl rfl (Nat.le_of_ble_eq_true rfl) ⟨by rw [hR]; show _ ≤ 1063; omega, by rw [hR]; show _ ≤ 11476; omega⟩ dL_law_564) rfl [0, 1, 2, 3, 4, 5, 6, 7, 8, 9, 10, 11, 12, 22] [13, 14, 15, 16, 17, 18, 19, 20, 21] [9, 10, 11, 12, 13, 14, 15, 16, 17, 18, 19, 20, 21, 0, 1, 2, 3, 4, 5, 6, 7, 8, 22] nd_LH di_LH (fun u564 => wL γ ad bd o seen cnt pwc par u564.1 held clos seW seS u564.2.1 u564.2.2.1 pl msn thr mpar mcel mhel mclo msea mwei msha mmon u564.2.2.2) rfl rfl (fun _ => rfl) (fun r564 u564 hv => ?_)
          refine g_istore (pc' := 569) (lv' := [(5, .int r564), (0, .ref b), (1, .ref (ad 0)), (2, .ref (bd 0)), (3, .ref o), (4, .int x4)]) C dL_law_567 rfl (by decide) rfl ?_
          refine g_aload_n (pc' := 570) C dL_law_569 rfl rfl rfl ?_
          refine g_aload_n (pc' := 571) C dL_law_570 rfl rfl rfl ?_
          refine g_iload (pc' := 573) C dL_law_571 rfl rfl ?_
          refine g_iconst (pc' := 574) (v := (1 : Int32)) C dL_law_573 rfl (by decide) ?_
          refine g_iadd (pc' := 575) C dL_law_574 rfl ?_
          obtain ⟨hi, hv⟩ := hv
          refine g_sld (pc' := 576) C hX hbl hbA dL_law_575 rfl hi ?_
          refine g_aload_n (pc' := 577) C dL_law_576 rfl rfl rfl ?_
          refine g_iload (pc' := 579) C dL_law_577 rfl rfl ?_
          refine g_iconst (pc' := 580) (v := (2 : Int32)) C dL_law_579 rfl (by decide) ?_
          refine g_iadd (pc' := 581) C dL_law_580 rfl ?_
          obtain ⟨hi, hv⟩ := hv
          refine g_sld (pc' := 582) C hX hbl hbA dL_law_581 rfl hi ?_
          refine g_aload_n (pc' := 583) C dL_law_582 rfl rfl rfl ?_
          refine g_iload (pc' := 585) C dL_law_583 rfl rfl ?_
          refine g_iconst (pc' := 586) (v := (3 : Int32)) C dL_law_585 rfl (by decide) ?_
          refine g_iadd (pc' := 587) C dL_law_586 rfl ?_
          obtain ⟨hi, hv⟩ := hv
          refine g_sld (pc' := 588) C hX hbl hbA dL_law_587 rfl hi ?_
          refine g_aload_n (pc' := 589) C dL_law_588 rfl rfl rfl ?_
          refine g_iload (pc' := 591) C dL_law_589 rfl rfl ?_
          refine g_iconst (pc' := 592) (v := (4 : Int32)) C dL_law_591 rfl (by decide) ?_
          refine g_iadd (pc' := 593) C dL_law_592 rfl ?_
          obtain ⟨hi, hv⟩ := hv
          refine g_sld (pc' := 594) C hX hbl hbA dL_law_593 rfl hi ?_
          refine g_aload_n (pc' := 595) C dL_law_594 rfl rfl rfl ?_
          refine g_iload (pc' := 597) C dL_law_595 rfl rfl ?_
          refine g_iconst (pc' := 598) (v := (5 : Int32)) C dL_law_597 rfl (by decide) ?_
          refine g_iadd (pc' := 599) C dL_law_598 rfl ?_
          obtain ⟨hi, hv⟩ := hv
          refine g_sld (pc' := 600) C hX hbl hbA dL_law_599 rfl hi ?_
          refine cfI (pc' := 603) C (run_VI (rest := []) C lk_L_107 (mtX4_spread hv) ⟨by decide, by decide⟩ rfl rfl rfl rfl (Nat.le_of_ble_eq_true rfl) ⟨by rw [hR]; show _ ≤ 1063; omega, by rw [hR]; show _ ≤ 11476; omega⟩ dL_law_600) rfl [13, 14, 15, 16, 17, 18, 19, 20, 21] [0, 1, 2, 3, 4, 5, 6, 7, 8, 9, 10, 11, 12, 22] [0, 1, 2, 3, 4, 5, 6, 7, 8, 9, 10, 11, 12, 14, 15, 16, 17, 18, 19, 20, 21, 22, 13] nd_LM di_LM (fun u600 => wL γ ad bd o seen cnt pwc par u564.1 held clos seW seS u564.2.1 u564.2.2.1 pl msn u600.1 mpar u600.2.1 mhel mclo msea u600.2.2.1 u600.2.2.2 mmon u564.2.2.2) rfl rfl (fun _ => rfl) (fun r600 u600 hv => ?_)
          refine g_istore (pc' := 605) (lv' := [(6, .int r600), (5, .int r564), (0, .ref b), (1, .ref (ad 0)), (2, .ref (bd 0)), (3, .ref o), (4, .int x4)]) C dL_law_603 rfl (by decide) rfl ?_
          refine g_aload_n (pc' := 606) C dL_law_605 rfl rfl rfl ?_
          refine cfI (pc' := 609) C (run_VI (rest := []) C lk_L_83 (mtX4_thrown hv) ⟨by decide, by decide⟩ rfl rfl rfl rfl (Nat.le_of_ble_eq_true rfl) ⟨by rw [hR]; show _ ≤ 1063; omega, by rw [hR]; show _ ≤ 11476; omega⟩ dL_law_606) rfl [13, 14, 15, 16, 17, 18, 19, 20, 21] [0, 1, 2, 3, 4, 5, 6, 7, 8, 9, 10, 11, 12, 22] [0, 1, 2, 3, 4, 5, 6, 7, 8, 9, 10, 11, 12, 14, 15, 16, 17, 18, 19, 20, 21, 22, 13] nd_LM di_LM (fun u606 => wL γ ad bd o seen cnt pwc par u564.1 held clos seW seS u564.2.1 u564.2.2.1 pl msn u600.1 mpar u600.2.1 mhel mclo msea u600.2.2.1 u600.2.2.2 mmon u564.2.2.2) rfl rfl (fun _ => rfl) (fun r606 u606 hv => ?_)
          refine g_iload (pc' := 611) C dL_law_609 rfl rfl ?_
          obtain ⟨hv1, hv2⟩ := hv
          refine g_icmp_eq (pc' := 614) (tgt := 616) C dL_law_611 rfl (by decide) (fun c => ?_) (fun c => ?_)
          · have hv := hv1 c
            refine g_iload (pc' := 618) C dL_law_616 rfl rfl ?_
            obtain ⟨hv1, hv2⟩ := hv
            refine g_if_ne (pc' := 621) (tgt := 633) C dL_law_618 rfl (by decide) (fun c => ?_) (fun c => ?_)
            · have hv := hv1 c
              refine g_goto (tgt := 1505) C dL_law_633 (by decide) ?_
              refine g_iinc (pc' := 1508) (v := (x4 + (6 : Int32))) (lv' := [(4, .int (x4 + (6 : Int32))), (6, .int r600), (5, .int r564), (0, .ref b), (1, .ref (ad 0)), (2, .ref (bd 0)), (3, .ref o)]) C dL_law_1505 rfl rfl rfl (by decide) rfl ?_
              refine g_goto (tgt := 23) C dL_law_1508 (by decide) ?_
              refine g_sub (lv' := [(0, .ref b), (1, .ref (ad 0)), (2, .ref (bd 0)), (3, .ref o), (4, .int (x4 + (6 : Int32)))]) [3, 4, 5, 6, 0] rfl ?_
              exact ih _ _ _ _ _ _ _ _ _ _ _ _ _ _ _ _ _ _ _ _ _ _ _ _ _ _ (by omega) (by omega) hv
            · have hv := hv2 c
              refine g_aload_n (pc' := 622) C dL_law_621 rfl rfl rfl ?_
              refine g_iconst (pc' := 623) (v := (0 : Int32)) C dL_law_622 rfl (by decide) ?_
              obtain ⟨hi, hv⟩ := hv
              refine g_lald (pc' := 624) C dL_law_623 rfl 22 rfl hi ?_
              refine g_iload (pc' := 626) C dL_law_624 rfl rfl ?_
              refine g_i2l (pc' := 627) C dL_law_626 rfl ?_
              refine g_lcmp (pc' := 628) C dL_law_627 rfl ?_
              obtain ⟨hv1, hv2⟩ := hv
              refine g_if_eq (pc' := 631) (tgt := 633) C dL_law_628 rfl (by decide) (fun c => ?_) (fun c => ?_)
              · have hv := hv1 c
                refine g_goto (tgt := 1505) C dL_law_633 (by decide) ?_
                refine g_iinc (pc' := 1508) (v := (x4 + (6 : Int32))) (lv' := [(4, .int (x4 + (6 : Int32))), (6, .int r600), (5, .int r564), (0, .ref b), (1, .ref (ad 0)), (2, .ref (bd 0)), (3, .ref o)]) C dL_law_1505 rfl rfl rfl (by decide) rfl ?_
                refine g_goto (tgt := 23) C dL_law_1508 (by decide) ?_
                refine g_sub (lv' := [(0, .ref b), (1, .ref (ad 0)), (2, .ref (bd 0)), (3, .ref o), (4, .int (x4 + (6 : Int32)))]) [3, 4, 5, 6, 0] rfl ?_
                exact ih _ _ _ _ _ _ _ _ _ _ _ _ _ _ _ _ _ _ _ _ _ _ _ _ _ _ (by omega) (by omega) hv
              · have hv := hv2 c
                refine g_iconst (pc' := 632) (v := (0 : Int32)) C dL_law_631 rfl (by decide) ?_
                exact hv.elim
          · have hv := hv2 c
            refine g_iconst (pc' := 615) (v := (0 : Int32)) C dL_law_614 rfl (by decide) ?_
            exact hv.elim
        · have hv := hv.2.2.2.2.2.2.2.2.1 e
          refine g_tabIn (tgt := 636) (off := 596) C dL_law_40 (by omega) (by omega) (by rw [e]; rfl) (by decide) ?_
          refine g_aload_n (pc' := 637) C dL_law_636 rfl rfl rfl ?_
          refine g_aload_n (pc' := 638) C dL_law_637 rfl rfl rfl ?_
          refine g_iload (pc' := 640) C dL_law_638 rfl rfl ?_
          refine g_iconst (pc' := 641) (v := (1 : Int32)) C dL_law_640 rfl (by decide) ?_
          refine g_iadd (pc' := 642) C dL_law_641 rfl ?_
          obtain ⟨hi, hv⟩ := hv
          refine g_sld (pc' := 643) C hX hbl hbA dL_law_642 rfl hi ?_
          refine g_aload_n (pc' := 644) C dL_law_643 rfl rfl rfl ?_
          refine g_iload (pc' := 646) C dL_law_644 rfl rfl ?_
          refine g_iconst (pc' := 647) (v := (2 : Int32)) C dL_law_646 rfl (by decide) ?_
          refine g_iadd (pc' := 648) C dL_law_647 rfl ?_
          obtain ⟨hi, hv⟩ := hv
          refine g_sld (pc' := 649) C hX hbl hbA dL_law_648 rfl hi ?_
          refine g_aload_n (pc' := 650) C dL_law_649 rfl rfl rfl ?_
          refine g_iload (pc' := 652) C dL_law_650 rfl rfl ?_
          refine g_iconst (pc' := 653) (v := (3 : Int32)) C dL_law_652 rfl (by decide) ?_
          refine g_iadd (pc' := 654) C dL_law_653 rfl ?_
          obtain ⟨hi, hv⟩ := hv
          refine g_sld (pc' := 655) C hX hbl hbA dL_law_654 rfl hi ?_
          refine g_aload_n (pc' := 656) C dL_law_655 rfl rfl rfl ?_
          refine cfH (pc' := 659) C (run_SH (rest := []) C lk_L_108 (mtL_spreadYear hfl hv) ⟨by decide, by decide⟩ rfl rfl (Nat.le_of_ble_eq_true rfl) ⟨by rw [hR]; show _ ≤ 1063; omega, by rw [hR]; show _ ≤ 11476; omega⟩ dL_law_656) rfl [0, 1, 2, 3, 4, 5, 6, 7, 8, 9, 10, 11, 12, 22] [13, 14, 15, 16, 17, 18, 19, 20, 21] [9, 10, 11, 12, 13, 14, 15, 16, 17, 18, 19, 20, 21, 0, 1, 2, 3, 4, 5, 6, 7, 8, 22] nd_LH di_LH (fun u656 => wL γ ad bd o seen cnt pwc par u656.1 held clos seW u656.2.1 u656.2.2.1 u656.2.2.2.1 pl msn thr mpar mcel mhel mclo msea mwei msha mmon u656.2.2.2.2) rfl rfl (fun _ => rfl) (fun r656 u656 hv => ?_)
          refine g_istore (pc' := 661) (lv' := [(5, .int r656), (0, .ref b), (1, .ref (ad 0)), (2, .ref (bd 0)), (3, .ref o), (4, .int x4)]) C dL_law_659 rfl (by decide) rfl ?_
          refine g_aload_n (pc' := 662) C dL_law_661 rfl rfl rfl ?_
          refine g_aload_n (pc' := 663) C dL_law_662 rfl rfl rfl ?_
          refine g_iload (pc' := 665) C dL_law_663 rfl rfl ?_
          refine g_iconst (pc' := 666) (v := (1 : Int32)) C dL_law_665 rfl (by decide) ?_
          refine g_iadd (pc' := 667) C dL_law_666 rfl ?_
          obtain ⟨hi, hv⟩ := hv
          refine g_sld (pc' := 668) C hX hbl hbA dL_law_667 rfl hi ?_
          refine g_aload_n (pc' := 669) C dL_law_668 rfl rfl rfl ?_
          refine g_iload (pc' := 671) C dL_law_669 rfl rfl ?_
          refine g_iconst (pc' := 672) (v := (2 : Int32)) C dL_law_671 rfl (by decide) ?_
          refine g_iadd (pc' := 673) C dL_law_672 rfl ?_
          obtain ⟨hi, hv⟩ := hv
          refine g_sld (pc' := 674) C hX hbl hbA dL_law_673 rfl hi ?_
          refine g_aload_n (pc' := 675) C dL_law_674 rfl rfl rfl ?_
          refine g_iload (pc' := 677) C dL_law_675 rfl rfl ?_
          refine g_iconst (pc' := 678) (v := (3 : Int32)) C dL_law_677 rfl (by decide) ?_
          refine g_iadd (pc' := 679) C dL_law_678 rfl ?_
          obtain ⟨hi, hv⟩ := hv
          refine g_sld (pc' := 680) C hX hbl hbA dL_law_679 rfl hi ?_
          refine cfI (pc' := 683) C (run_VI (rest := []) C lk_L_111 (mtX4_spreadYear hv) ⟨by decide, by decide⟩ rfl rfl rfl rfl (Nat.le_of_ble_eq_true rfl) ⟨by rw [hR]; show _ ≤ 1063; omega, by rw [hR]; show _ ≤ 11476; omega⟩ dL_law_680) rfl [13, 14, 15, 16, 17, 18, 19, 20, 21] [0, 1, 2, 3, 4, 5, 6, 7, 8, 9, 10, 11, 12, 22] [0, 1, 2, 3, 4, 5, 6, 7, 8, 9, 10, 11, 12, 14, 15, 16, 17, 18, 19, 20, 21, 22, 13] nd_LM di_LM (fun u680 => wL γ ad bd o seen cnt pwc par u656.1 held clos seW u656.2.1 u656.2.2.1 u656.2.2.2.1 pl msn u680.1 mpar u680.2.1 mhel mclo msea u680.2.2.1 u680.2.2.2.1 u680.2.2.2.2 u656.2.2.2.2) rfl rfl (fun _ => rfl) (fun r680 u680 hv => ?_)
          refine g_istore (pc' := 685) (lv' := [(6, .int r680), (5, .int r656), (0, .ref b), (1, .ref (ad 0)), (2, .ref (bd 0)), (3, .ref o), (4, .int x4)]) C dL_law_683 rfl (by decide) rfl ?_
          refine g_aload_n (pc' := 686) C dL_law_685 rfl rfl rfl ?_
          refine cfI (pc' := 689) C (run_VI (rest := []) C lk_L_83 (mtX4_thrown hv) ⟨by decide, by decide⟩ rfl rfl rfl rfl (Nat.le_of_ble_eq_true rfl) ⟨by rw [hR]; show _ ≤ 1063; omega, by rw [hR]; show _ ≤ 11476; omega⟩ dL_law_686) rfl [13, 14, 15, 16, 17, 18, 19, 20, 21] [0, 1, 2, 3, 4, 5, 6, 7, 8, 9, 10, 11, 12, 22] [0, 1, 2, 3, 4, 5, 6, 7, 8, 9, 10, 11, 12, 14, 15, 16, 17, 18, 19, 20, 21, 22, 13] nd_LM di_LM (fun u686 => wL γ ad bd o seen cnt pwc par u656.1 held clos seW u656.2.1 u656.2.2.1 u656.2.2.2.1 pl msn u680.1 mpar u680.2.1 mhel mclo msea u680.2.2.1 u680.2.2.2.1 u680.2.2.2.2 u656.2.2.2.2) rfl rfl (fun _ => rfl) (fun r686 u686 hv => ?_)
          refine g_iload (pc' := 691) C dL_law_689 rfl rfl ?_
          obtain ⟨hv1, hv2⟩ := hv
          refine g_icmp_eq (pc' := 694) (tgt := 696) C dL_law_691 rfl (by decide) (fun c => ?_) (fun c => ?_)
          · have hv := hv1 c
            refine g_iload (pc' := 698) C dL_law_696 rfl rfl ?_
            obtain ⟨hv1, hv2⟩ := hv
            refine g_if_ne (pc' := 701) (tgt := 713) C dL_law_698 rfl (by decide) (fun c => ?_) (fun c => ?_)
            · have hv := hv1 c
              refine g_goto (tgt := 1505) C dL_law_713 (by decide) ?_
              refine g_iinc (pc' := 1508) (v := (x4 + (6 : Int32))) (lv' := [(4, .int (x4 + (6 : Int32))), (6, .int r680), (5, .int r656), (0, .ref b), (1, .ref (ad 0)), (2, .ref (bd 0)), (3, .ref o)]) C dL_law_1505 rfl rfl rfl (by decide) rfl ?_
              refine g_goto (tgt := 23) C dL_law_1508 (by decide) ?_
              refine g_sub (lv' := [(0, .ref b), (1, .ref (ad 0)), (2, .ref (bd 0)), (3, .ref o), (4, .int (x4 + (6 : Int32)))]) [3, 4, 5, 6, 0] rfl ?_
              exact ih _ _ _ _ _ _ _ _ _ _ _ _ _ _ _ _ _ _ _ _ _ _ _ _ _ _ (by omega) (by omega) hv
            · have hv := hv2 c
              refine g_aload_n (pc' := 702) C dL_law_701 rfl rfl rfl ?_
              refine g_iconst (pc' := 703) (v := (0 : Int32)) C dL_law_702 rfl (by decide) ?_
              obtain ⟨hi, hv⟩ := hv
              refine g_lald (pc' := 704) C dL_law_703 rfl 22 rfl hi ?_
              refine g_iload (pc' := 706) C dL_law_704 rfl rfl ?_
              refine g_i2l (pc' := 707) C dL_law_706 rfl ?_
              refine g_lcmp (pc' := 708) C dL_law_707 rfl ?_
              obtain ⟨hv1, hv2⟩ := hv
              refine g_if_eq (pc' := 711) (tgt := 713) C dL_law_708 rfl (by decide) (fun c => ?_) (fun c => ?_)
              · have hv := hv1 c
                refine g_goto (tgt := 1505) C dL_law_713 (by decide) ?_
                refine g_iinc (pc' := 1508) (v := (x4 + (6 : Int32))) (lv' := [(4, .int (x4 + (6 : Int32))), (6, .int r680), (5, .int r656), (0, .ref b), (1, .ref (ad 0)), (2, .ref (bd 0)), (3, .ref o)]) C dL_law_1505 rfl rfl rfl (by decide) rfl ?_
                refine g_goto (tgt := 23) C dL_law_1508 (by decide) ?_
                refine g_sub (lv' := [(0, .ref b), (1, .ref (ad 0)), (2, .ref (bd 0)), (3, .ref o), (4, .int (x4 + (6 : Int32)))]) [3, 4, 5, 6, 0] rfl ?_
                exact ih _ _ _ _ _ _ _ _ _ _ _ _ _ _ _ _ _ _ _ _ _ _ _ _ _ _ (by omega) (by omega) hv
              · have hv := hv2 c
                refine g_iconst (pc' := 712) (v := (0 : Int32)) C dL_law_711 rfl (by decide) ?_
                exact hv.elim
          · have hv := hv2 c
            refine g_iconst (pc' := 695) (v := (0 : Int32)) C dL_law_694 rfl (by decide) ?_
            exact hv.elim
        · have hv := hv.2.2.2.2.2.2.2.2.2.1 e
          refine g_tabIn (tgt := 716) (off := 676) C dL_law_40 (by omega) (by omega) (by rw [e]; rfl) (by decide) ?_
          refine g_aload_n (pc' := 717) C dL_law_716 rfl rfl rfl ?_
          refine g_aload_n (pc' := 718) C dL_law_717 rfl rfl rfl ?_
          refine g_iload (pc' := 720) C dL_law_718 rfl rfl ?_
          refine g_iconst (pc' := 721) (v := (1 : Int32)) C dL_law_720 rfl (by decide) ?_
          refine g_iadd (pc' := 722) C dL_law_721 rfl ?_
          obtain ⟨hi, hv⟩ := hv
          refine g_sld (pc' := 723) C hX hbl hbA dL_law_722 rfl hi ?_
          refine g_aload_n (pc' := 724) C dL_law_723 rfl rfl rfl ?_
          refine g_iload (pc' := 726) C dL_law_724 rfl rfl ?_
          refine g_iconst (pc' := 727) (v := (2 : Int32)) C dL_law_726 rfl (by decide) ?_
          refine g_iadd (pc' := 728) C dL_law_727 rfl ?_
          obtain ⟨hi, hv⟩ := hv
          refine g_sld (pc' := 729) C hX hbl hbA dL_law_728 rfl hi ?_
          refine g_aload_n (pc' := 730) C dL_law_729 rfl rfl rfl ?_
          refine cfH (pc' := 733) C (run_SH (rest := []) C lk_L_112 (mtL_copy hfl hv) ⟨by decide, by decide⟩ rfl rfl (Nat.le_of_ble_eq_true rfl) ⟨by rw [hR]; show _ ≤ 1063; omega, by rw [hR]; show _ ≤ 11476; omega⟩ dL_law_730) rfl [0, 1, 2, 3, 4, 5, 6, 7, 8, 9, 10, 11, 12, 22] [13, 14, 15, 16, 17, 18, 19, 20, 21] [9, 10, 11, 12, 13, 14, 15, 16, 17, 18, 19, 20, 21, 0, 1, 2, 3, 4, 5, 6, 7, 8, 22] nd_LH di_LH (fun u730 => wL γ ad bd o seen cnt pwc par u730.1 held clos seW seS leW leS pl msn thr mpar mcel mhel mclo msea mwei msha mmon u730.2) rfl rfl (fun _ => rfl) (fun r730 u730 hv => ?_)
          refine g_istore (pc' := 735) (lv' := [(5, .int r730), (0, .ref b), (1, .ref (ad 0)), (2, .ref (bd 0)), (3, .ref o), (4, .int x4)]) C dL_law_733 rfl (by decide) rfl ?_
          refine g_aload_n (pc' := 736) C dL_law_735 rfl rfl rfl ?_
          refine g_aload_n (pc' := 737) C dL_law_736 rfl rfl rfl ?_
          refine g_iload (pc' := 739) C dL_law_737 rfl rfl ?_
          refine g_iconst (pc' := 740) (v := (1 : Int32)) C dL_law_739 rfl (by decide) ?_
          refine g_iadd (pc' := 741) C dL_law_740 rfl ?_
          obtain ⟨hi, hv⟩ := hv
          refine g_sld (pc' := 742) C hX hbl hbA dL_law_741 rfl hi ?_
          refine g_aload_n (pc' := 743) C dL_law_742 rfl rfl rfl ?_
          refine g_iload (pc' := 745) C dL_law_743 rfl rfl ?_
          refine g_iconst (pc' := 746) (v := (2 : Int32)) C dL_law_745 rfl (by decide) ?_
          refine g_iadd (pc' := 747) C dL_law_746 rfl ?_
          obtain ⟨hi, hv⟩ := hv
          refine g_sld (pc' := 748) C hX hbl hbA dL_law_747 rfl hi ?_
          refine cfI (pc' := 751) C (run_VI (rest := []) C lk_L_114 (mtX4_copy hv) ⟨by decide, by decide⟩ rfl rfl rfl rfl (Nat.le_of_ble_eq_true rfl) ⟨by rw [hR]; show _ ≤ 1063; omega, by rw [hR]; show _ ≤ 11476; omega⟩ dL_law_748) rfl [13, 14, 15, 16, 17, 18, 19, 20, 21] [0, 1, 2, 3, 4, 5, 6, 7, 8, 9, 10, 11, 12, 22] [0, 1, 2, 3, 4, 5, 6, 7, 8, 9, 10, 11, 12, 14, 15, 16, 17, 18, 19, 20, 21, 22, 13] nd_LM di_LM (fun u748 => wL γ ad bd o seen cnt pwc par u730.1 held clos seW seS leW leS pl msn u748.1 mpar u748.2 mhel mclo msea mwei msha mmon u730.2) rfl rfl (fun _ => rfl) (fun r748 u748 hv => ?_)
          refine g_istore (pc' := 753) (lv' := [(6, .int r748), (5, .int r730), (0, .ref b), (1, .ref (ad 0)), (2, .ref (bd 0)), (3, .ref o), (4, .int x4)]) C dL_law_751 rfl (by decide) rfl ?_
          refine g_aload_n (pc' := 754) C dL_law_753 rfl rfl rfl ?_
          refine cfI (pc' := 757) C (run_VI (rest := []) C lk_L_83 (mtX4_thrown hv) ⟨by decide, by decide⟩ rfl rfl rfl rfl (Nat.le_of_ble_eq_true rfl) ⟨by rw [hR]; show _ ≤ 1063; omega, by rw [hR]; show _ ≤ 11476; omega⟩ dL_law_754) rfl [13, 14, 15, 16, 17, 18, 19, 20, 21] [0, 1, 2, 3, 4, 5, 6, 7, 8, 9, 10, 11, 12, 22] [0, 1, 2, 3, 4, 5, 6, 7, 8, 9, 10, 11, 12, 14, 15, 16, 17, 18, 19, 20, 21, 22, 13] nd_LM di_LM (fun u754 => wL γ ad bd o seen cnt pwc par u730.1 held clos seW seS leW leS pl msn u748.1 mpar u748.2 mhel mclo msea mwei msha mmon u730.2) rfl rfl (fun _ => rfl) (fun r754 u754 hv => ?_)
          refine g_iload (pc' := 759) C dL_law_757 rfl rfl ?_
          obtain ⟨hv1, hv2⟩ := hv
          refine g_icmp_eq (pc' := 762) (tgt := 764) C dL_law_759 rfl (by decide) (fun c => ?_) (fun c => ?_)
          · have hv := hv1 c
            refine g_iload (pc' := 766) C dL_law_764 rfl rfl ?_
            obtain ⟨hv1, hv2⟩ := hv
            refine g_if_ne (pc' := 769) (tgt := 781) C dL_law_766 rfl (by decide) (fun c => ?_) (fun c => ?_)
            · have hv := hv1 c
              refine g_goto (tgt := 1505) C dL_law_781 (by decide) ?_
              refine g_iinc (pc' := 1508) (v := (x4 + (6 : Int32))) (lv' := [(4, .int (x4 + (6 : Int32))), (6, .int r748), (5, .int r730), (0, .ref b), (1, .ref (ad 0)), (2, .ref (bd 0)), (3, .ref o)]) C dL_law_1505 rfl rfl rfl (by decide) rfl ?_
              refine g_goto (tgt := 23) C dL_law_1508 (by decide) ?_
              refine g_sub (lv' := [(0, .ref b), (1, .ref (ad 0)), (2, .ref (bd 0)), (3, .ref o), (4, .int (x4 + (6 : Int32)))]) [3, 4, 5, 6, 0] rfl ?_
              exact ih _ _ _ _ _ _ _ _ _ _ _ _ _ _ _ _ _ _ _ _ _ _ _ _ _ _ (by omega) (by omega) hv
            · have hv := hv2 c
              refine g_aload_n (pc' := 770) C dL_law_769 rfl rfl rfl ?_
              refine g_iconst (pc' := 771) (v := (0 : Int32)) C dL_law_770 rfl (by decide) ?_
              obtain ⟨hi, hv⟩ := hv
              refine g_lald (pc' := 772) C dL_law_771 rfl 22 rfl hi ?_
              refine g_iload (pc' := 774) C dL_law_772 rfl rfl ?_
              refine g_i2l (pc' := 775) C dL_law_774 rfl ?_
              refine g_lcmp (pc' := 776) C dL_law_775 rfl ?_
              obtain ⟨hv1, hv2⟩ := hv
              refine g_if_eq (pc' := 779) (tgt := 781) C dL_law_776 rfl (by decide) (fun c => ?_) (fun c => ?_)
              · have hv := hv1 c
                refine g_goto (tgt := 1505) C dL_law_781 (by decide) ?_
                refine g_iinc (pc' := 1508) (v := (x4 + (6 : Int32))) (lv' := [(4, .int (x4 + (6 : Int32))), (6, .int r748), (5, .int r730), (0, .ref b), (1, .ref (ad 0)), (2, .ref (bd 0)), (3, .ref o)]) C dL_law_1505 rfl rfl rfl (by decide) rfl ?_
                refine g_goto (tgt := 23) C dL_law_1508 (by decide) ?_
                refine g_sub (lv' := [(0, .ref b), (1, .ref (ad 0)), (2, .ref (bd 0)), (3, .ref o), (4, .int (x4 + (6 : Int32)))]) [3, 4, 5, 6, 0] rfl ?_
                exact ih _ _ _ _ _ _ _ _ _ _ _ _ _ _ _ _ _ _ _ _ _ _ _ _ _ _ (by omega) (by omega) hv
              · have hv := hv2 c
                refine g_iconst (pc' := 780) (v := (0 : Int32)) C dL_law_779 rfl (by decide) ?_
                exact hv.elim
          · have hv := hv2 c
            refine g_iconst (pc' := 763) (v := (0 : Int32)) C dL_law_762 rfl (by decide) ?_
            exact hv.elim
        · have hv := hv.2.2.2.2.2.2.2.2.2.2.1 e
          refine g_tabIn (tgt := 784) (off := 744) C dL_law_40 (by omega) (by omega) (by rw [e]; rfl) (by decide) ?_
          refine g_aload_n (pc' := 785) C dL_law_784 rfl rfl rfl ?_
          refine g_aload_n (pc' := 786) C dL_law_785 rfl rfl rfl ?_
          refine g_iload (pc' := 788) C dL_law_786 rfl rfl ?_
          refine g_iconst (pc' := 789) (v := (1 : Int32)) C dL_law_788 rfl (by decide) ?_
          refine g_iadd (pc' := 790) C dL_law_789 rfl ?_
          obtain ⟨hi, hv⟩ := hv
          refine g_sld (pc' := 791) C hX hbl hbA dL_law_790 rfl hi ?_
          refine g_aload_n (pc' := 792) C dL_law_791 rfl rfl rfl ?_
          refine g_iload (pc' := 794) C dL_law_792 rfl rfl ?_
          refine g_iconst (pc' := 795) (v := (2 : Int32)) C dL_law_794 rfl (by decide) ?_
          refine g_iadd (pc' := 796) C dL_law_795 rfl ?_
          obtain ⟨hi, hv⟩ := hv
          refine g_sld (pc' := 797) C hX hbl hbA dL_law_796 rfl hi ?_
          refine g_aload_n (pc' := 798) C dL_law_797 rfl rfl rfl ?_
          refine cfH (pc' := 801) C (run_SH (rest := []) C lk_L_115 (mtL_handIn hfl hv) ⟨by decide, by decide⟩ rfl rfl (Nat.le_of_ble_eq_true rfl) ⟨by rw [hR]; show _ ≤ 1063; omega, by rw [hR]; show _ ≤ 11476; omega⟩ dL_law_798) rfl [0, 1, 2, 3, 4, 5, 6, 7, 8, 9, 10, 11, 12, 22] [13, 14, 15, 16, 17, 18, 19, 20, 21] [9, 10, 11, 12, 13, 14, 15, 16, 17, 18, 19, 20, 21, 0, 1, 2, 3, 4, 5, 6, 7, 8, 22] nd_LH di_LH (fun u798 => wL γ ad bd o seen cnt pwc par amt held u798.1 seW seS leW leS pl msn thr mpar mcel mhel mclo msea mwei msha mmon u798.2) rfl rfl (fun _ => rfl) (fun r798 u798 hv => ?_)
          refine g_istore (pc' := 803) (lv' := [(5, .int r798), (0, .ref b), (1, .ref (ad 0)), (2, .ref (bd 0)), (3, .ref o), (4, .int x4)]) C dL_law_801 rfl (by decide) rfl ?_
          refine g_aload_n (pc' := 804) C dL_law_803 rfl rfl rfl ?_
          refine g_aload_n (pc' := 805) C dL_law_804 rfl rfl rfl ?_
          refine g_iload (pc' := 807) C dL_law_805 rfl rfl ?_
          refine g_iconst (pc' := 808) (v := (1 : Int32)) C dL_law_807 rfl (by decide) ?_
          refine g_iadd (pc' := 809) C dL_law_808 rfl ?_
          obtain ⟨hi, hv⟩ := hv
          refine g_sld (pc' := 810) C hX hbl hbA dL_law_809 rfl hi ?_
          refine g_aload_n (pc' := 811) C dL_law_810 rfl rfl rfl ?_
          refine g_iload (pc' := 813) C dL_law_811 rfl rfl ?_
          refine g_iconst (pc' := 814) (v := (2 : Int32)) C dL_law_813 rfl (by decide) ?_
          refine g_iadd (pc' := 815) C dL_law_814 rfl ?_
          obtain ⟨hi, hv⟩ := hv
          refine g_sld (pc' := 816) C hX hbl hbA dL_law_815 rfl hi ?_
          refine cfI (pc' := 819) C (run_VI (rest := []) C lk_L_117 (mtX4_handIn hv) ⟨by decide, by decide⟩ rfl rfl rfl rfl (Nat.le_of_ble_eq_true rfl) ⟨by rw [hR]; show _ ≤ 1063; omega, by rw [hR]; show _ ≤ 11476; omega⟩ dL_law_816) rfl [13, 14, 15, 16, 17, 18, 19, 20, 21] [0, 1, 2, 3, 4, 5, 6, 7, 8, 9, 10, 11, 12, 22] [0, 1, 2, 3, 4, 5, 6, 7, 8, 9, 10, 11, 12, 14, 15, 16, 17, 18, 19, 20, 21, 22, 13] nd_LM di_LM (fun u816 => wL γ ad bd o seen cnt pwc par amt held u798.1 seW seS leW leS pl msn u816.1 mpar mcel mhel u816.2 msea mwei msha mmon u798.2) rfl rfl (fun _ => rfl) (fun r816 u816 hv => ?_)
          refine g_istore (pc' := 821) (lv' := [(6, .int r816), (5, .int r798), (0, .ref b), (1, .ref (ad 0)), (2, .ref (bd 0)), (3, .ref o), (4, .int x4)]) C dL_law_819 rfl (by decide) rfl ?_
          refine g_aload_n (pc' := 822) C dL_law_821 rfl rfl rfl ?_
          refine cfI (pc' := 825) C (run_VI (rest := []) C lk_L_83 (mtX4_thrown hv) ⟨by decide, by decide⟩ rfl rfl rfl rfl (Nat.le_of_ble_eq_true rfl) ⟨by rw [hR]; show _ ≤ 1063; omega, by rw [hR]; show _ ≤ 11476; omega⟩ dL_law_822) rfl [13, 14, 15, 16, 17, 18, 19, 20, 21] [0, 1, 2, 3, 4, 5, 6, 7, 8, 9, 10, 11, 12, 22] [0, 1, 2, 3, 4, 5, 6, 7, 8, 9, 10, 11, 12, 14, 15, 16, 17, 18, 19, 20, 21, 22, 13] nd_LM di_LM (fun u822 => wL γ ad bd o seen cnt pwc par amt held u798.1 seW seS leW leS pl msn u816.1 mpar mcel mhel u816.2 msea mwei msha mmon u798.2) rfl rfl (fun _ => rfl) (fun r822 u822 hv => ?_)
          refine g_iload (pc' := 827) C dL_law_825 rfl rfl ?_
          obtain ⟨hv1, hv2⟩ := hv
          refine g_icmp_eq (pc' := 830) (tgt := 832) C dL_law_827 rfl (by decide) (fun c => ?_) (fun c => ?_)
          · have hv := hv1 c
            refine g_iload (pc' := 834) C dL_law_832 rfl rfl ?_
            obtain ⟨hv1, hv2⟩ := hv
            refine g_if_ne (pc' := 837) (tgt := 849) C dL_law_834 rfl (by decide) (fun c => ?_) (fun c => ?_)
            · have hv := hv1 c
              refine g_goto (tgt := 1505) C dL_law_849 (by decide) ?_
              refine g_iinc (pc' := 1508) (v := (x4 + (6 : Int32))) (lv' := [(4, .int (x4 + (6 : Int32))), (6, .int r816), (5, .int r798), (0, .ref b), (1, .ref (ad 0)), (2, .ref (bd 0)), (3, .ref o)]) C dL_law_1505 rfl rfl rfl (by decide) rfl ?_
              refine g_goto (tgt := 23) C dL_law_1508 (by decide) ?_
              refine g_sub (lv' := [(0, .ref b), (1, .ref (ad 0)), (2, .ref (bd 0)), (3, .ref o), (4, .int (x4 + (6 : Int32)))]) [3, 4, 5, 6, 0] rfl ?_
              exact ih _ _ _ _ _ _ _ _ _ _ _ _ _ _ _ _ _ _ _ _ _ _ _ _ _ _ (by omega) (by omega) hv
            · have hv := hv2 c
              refine g_aload_n (pc' := 838) C dL_law_837 rfl rfl rfl ?_
              refine g_iconst (pc' := 839) (v := (0 : Int32)) C dL_law_838 rfl (by decide) ?_
              obtain ⟨hi, hv⟩ := hv
              refine g_lald (pc' := 840) C dL_law_839 rfl 22 rfl hi ?_
              refine g_iload (pc' := 842) C dL_law_840 rfl rfl ?_
              refine g_i2l (pc' := 843) C dL_law_842 rfl ?_
              refine g_lcmp (pc' := 844) C dL_law_843 rfl ?_
              obtain ⟨hv1, hv2⟩ := hv
              refine g_if_eq (pc' := 847) (tgt := 849) C dL_law_844 rfl (by decide) (fun c => ?_) (fun c => ?_)
              · have hv := hv1 c
                refine g_goto (tgt := 1505) C dL_law_849 (by decide) ?_
                refine g_iinc (pc' := 1508) (v := (x4 + (6 : Int32))) (lv' := [(4, .int (x4 + (6 : Int32))), (6, .int r816), (5, .int r798), (0, .ref b), (1, .ref (ad 0)), (2, .ref (bd 0)), (3, .ref o)]) C dL_law_1505 rfl rfl rfl (by decide) rfl ?_
                refine g_goto (tgt := 23) C dL_law_1508 (by decide) ?_
                refine g_sub (lv' := [(0, .ref b), (1, .ref (ad 0)), (2, .ref (bd 0)), (3, .ref o), (4, .int (x4 + (6 : Int32)))]) [3, 4, 5, 6, 0] rfl ?_
                exact ih _ _ _ _ _ _ _ _ _ _ _ _ _ _ _ _ _ _ _ _ _ _ _ _ _ _ (by omega) (by omega) hv
              · have hv := hv2 c
                refine g_iconst (pc' := 848) (v := (0 : Int32)) C dL_law_847 rfl (by decide) ?_
                exact hv.elim
          · have hv := hv2 c
            refine g_iconst (pc' := 831) (v := (0 : Int32)) C dL_law_830 rfl (by decide) ?_
            exact hv.elim
        · have hv := hv.2.2.2.2.2.2.2.2.2.2.2.1 e
          refine g_tabIn (tgt := 852) (off := 812) C dL_law_40 (by omega) (by omega) (by rw [e]; rfl) (by decide) ?_
          refine g_aload_n (pc' := 853) C dL_law_852 rfl rfl rfl ?_
          refine g_aload_n (pc' := 854) C dL_law_853 rfl rfl rfl ?_
          refine g_iload (pc' := 856) C dL_law_854 rfl rfl ?_
          refine g_iconst (pc' := 857) (v := (1 : Int32)) C dL_law_856 rfl (by decide) ?_
          refine g_iadd (pc' := 858) C dL_law_857 rfl ?_
          obtain ⟨hi, hv⟩ := hv
          refine g_sld (pc' := 859) C hX hbl hbA dL_law_858 rfl hi ?_
          refine g_aload_n (pc' := 860) C dL_law_859 rfl rfl rfl ?_
          refine g_iload (pc' := 862) C dL_law_860 rfl rfl ?_
          refine g_iconst (pc' := 863) (v := (2 : Int32)) C dL_law_862 rfl (by decide) ?_
          refine g_iadd (pc' := 864) C dL_law_863 rfl ?_
          obtain ⟨hi, hv⟩ := hv
          refine g_sld (pc' := 865) C hX hbl hbA dL_law_864 rfl hi ?_
          refine g_aload_n (pc' := 866) C dL_law_865 rfl rfl rfl ?_
          refine cfH (pc' := 869) C (run_SH (rest := []) C lk_L_118 (mtL_takeBack hfl hv) ⟨by decide, by decide⟩ rfl rfl (Nat.le_of_ble_eq_true rfl) ⟨by rw [hR]; show _ ≤ 1063; omega, by rw [hR]; show _ ≤ 11476; omega⟩ dL_law_866) rfl [0, 1, 2, 3, 4, 5, 6, 7, 8, 9, 10, 11, 12, 22] [13, 14, 15, 16, 17, 18, 19, 20, 21] [9, 10, 11, 12, 13, 14, 15, 16, 17, 18, 19, 20, 21, 0, 1, 2, 3, 4, 5, 6, 7, 8, 22] nd_LH di_LH (fun u866 => wL γ ad bd o seen cnt pwc par amt held u866.1 seW seS leW leS pl msn thr mpar mcel mhel mclo msea mwei msha mmon u866.2) rfl rfl (fun _ => rfl) (fun r866 u866 hv => ?_)
          refine g_istore (pc' := 871) (lv' := [(5, .int r866), (0, .ref b), (1, .ref (ad 0)), (2, .ref (bd 0)), (3, .ref o), (4, .int x4)]) C dL_law_869 rfl (by decide) rfl ?_
          refine g_aload_n (pc' := 872) C dL_law_871 rfl rfl rfl ?_
          refine g_aload_n (pc' := 873) C dL_law_872 rfl rfl rfl ?_
          refine g_iload (pc' := 875) C dL_law_873 rfl rfl ?_
          refine g_iconst (pc' := 876) (v := (1 : Int32)) C dL_law_875 rfl (by decide) ?_
          refine g_iadd (pc' := 877) C dL_law_876 rfl ?_
          obtain ⟨hi, hv⟩ := hv
          refine g_sld (pc' := 878) C hX hbl hbA dL_law_877 rfl hi ?_
          refine g_aload_n (pc' := 879) C dL_law_878 rfl rfl rfl ?_
          refine g_iload (pc' := 881) C dL_law_879 rfl rfl ?_
          refine g_iconst (pc' := 882) (v := (2 : Int32)) C dL_law_881 rfl (by decide) ?_
          refine g_iadd (pc' := 883) C dL_law_882 rfl ?_
          obtain ⟨hi, hv⟩ := hv
          refine g_sld (pc' := 884) C hX hbl hbA dL_law_883 rfl hi ?_
          refine cfI (pc' := 887) C (run_VI (rest := []) C lk_L_120 (mtX4_takeBack hv) ⟨by decide, by decide⟩ rfl rfl rfl rfl (Nat.le_of_ble_eq_true rfl) ⟨by rw [hR]; show _ ≤ 1063; omega, by rw [hR]; show _ ≤ 11476; omega⟩ dL_law_884) rfl [13, 14, 15, 16, 17, 18, 19, 20, 21] [0, 1, 2, 3, 4, 5, 6, 7, 8, 9, 10, 11, 12, 22] [0, 1, 2, 3, 4, 5, 6, 7, 8, 9, 10, 11, 12, 14, 15, 16, 17, 18, 19, 20, 21, 22, 13] nd_LM di_LM (fun u884 => wL γ ad bd o seen cnt pwc par amt held u866.1 seW seS leW leS pl msn u884.1 mpar mcel mhel u884.2 msea mwei msha mmon u866.2) rfl rfl (fun _ => rfl) (fun r884 u884 hv => ?_)
          refine g_istore (pc' := 889) (lv' := [(6, .int r884), (5, .int r866), (0, .ref b), (1, .ref (ad 0)), (2, .ref (bd 0)), (3, .ref o), (4, .int x4)]) C dL_law_887 rfl (by decide) rfl ?_
          refine g_aload_n (pc' := 890) C dL_law_889 rfl rfl rfl ?_
          refine cfI (pc' := 893) C (run_VI (rest := []) C lk_L_83 (mtX4_thrown hv) ⟨by decide, by decide⟩ rfl rfl rfl rfl (Nat.le_of_ble_eq_true rfl) ⟨by rw [hR]; show _ ≤ 1063; omega, by rw [hR]; show _ ≤ 11476; omega⟩ dL_law_890) rfl [13, 14, 15, 16, 17, 18, 19, 20, 21] [0, 1, 2, 3, 4, 5, 6, 7, 8, 9, 10, 11, 12, 22] [0, 1, 2, 3, 4, 5, 6, 7, 8, 9, 10, 11, 12, 14, 15, 16, 17, 18, 19, 20, 21, 22, 13] nd_LM di_LM (fun u890 => wL γ ad bd o seen cnt pwc par amt held u866.1 seW seS leW leS pl msn u884.1 mpar mcel mhel u884.2 msea mwei msha mmon u866.2) rfl rfl (fun _ => rfl) (fun r890 u890 hv => ?_)
          refine g_iload (pc' := 895) C dL_law_893 rfl rfl ?_
          obtain ⟨hv1, hv2⟩ := hv
          refine g_icmp_eq (pc' := 898) (tgt := 900) C dL_law_895 rfl (by decide) (fun c => ?_) (fun c => ?_)
          · have hv := hv1 c
            refine g_iload (pc' := 902) C dL_law_900 rfl rfl ?_
            obtain ⟨hv1, hv2⟩ := hv
            refine g_if_ne (pc' := 905) (tgt := 917) C dL_law_902 rfl (by decide) (fun c => ?_) (fun c => ?_)
            · have hv := hv1 c
              refine g_goto (tgt := 1505) C dL_law_917 (by decide) ?_
              refine g_iinc (pc' := 1508) (v := (x4 + (6 : Int32))) (lv' := [(4, .int (x4 + (6 : Int32))), (6, .int r884), (5, .int r866), (0, .ref b), (1, .ref (ad 0)), (2, .ref (bd 0)), (3, .ref o)]) C dL_law_1505 rfl rfl rfl (by decide) rfl ?_
              refine g_goto (tgt := 23) C dL_law_1508 (by decide) ?_
              refine g_sub (lv' := [(0, .ref b), (1, .ref (ad 0)), (2, .ref (bd 0)), (3, .ref o), (4, .int (x4 + (6 : Int32)))]) [3, 4, 5, 6, 0] rfl ?_
              exact ih _ _ _ _ _ _ _ _ _ _ _ _ _ _ _ _ _ _ _ _ _ _ _ _ _ _ (by omega) (by omega) hv
            · have hv := hv2 c
              refine g_aload_n (pc' := 906) C dL_law_905 rfl rfl rfl ?_
              refine g_iconst (pc' := 907) (v := (0 : Int32)) C dL_law_906 rfl (by decide) ?_
              obtain ⟨hi, hv⟩ := hv
              refine g_lald (pc' := 908) C dL_law_907 rfl 22 rfl hi ?_
              refine g_iload (pc' := 910) C dL_law_908 rfl rfl ?_
              refine g_i2l (pc' := 911) C dL_law_910 rfl ?_
              refine g_lcmp (pc' := 912) C dL_law_911 rfl ?_
              obtain ⟨hv1, hv2⟩ := hv
              refine g_if_eq (pc' := 915) (tgt := 917) C dL_law_912 rfl (by decide) (fun c => ?_) (fun c => ?_)
              · have hv := hv1 c
                refine g_goto (tgt := 1505) C dL_law_917 (by decide) ?_
                refine g_iinc (pc' := 1508) (v := (x4 + (6 : Int32))) (lv' := [(4, .int (x4 + (6 : Int32))), (6, .int r884), (5, .int r866), (0, .ref b), (1, .ref (ad 0)), (2, .ref (bd 0)), (3, .ref o)]) C dL_law_1505 rfl rfl rfl (by decide) rfl ?_
                refine g_goto (tgt := 23) C dL_law_1508 (by decide) ?_
                refine g_sub (lv' := [(0, .ref b), (1, .ref (ad 0)), (2, .ref (bd 0)), (3, .ref o), (4, .int (x4 + (6 : Int32)))]) [3, 4, 5, 6, 0] rfl ?_
                exact ih _ _ _ _ _ _ _ _ _ _ _ _ _ _ _ _ _ _ _ _ _ _ _ _ _ _ (by omega) (by omega) hv
              · have hv := hv2 c
                refine g_iconst (pc' := 916) (v := (0 : Int32)) C dL_law_915 rfl (by decide) ?_
                exact hv.elim
          · have hv := hv2 c
            refine g_iconst (pc' := 899) (v := (0 : Int32)) C dL_law_898 rfl (by decide) ?_
            exact hv.elim
        · have hv := hv.2.2.2.2.2.2.2.2.2.2.2.2.1 e
          refine g_tabIn (tgt := 920) (off := 880) C dL_law_40 (by omega) (by omega) (by rw [e]; rfl) (by decide) ?_
          refine g_aload_n (pc' := 921) C dL_law_920 rfl rfl rfl ?_
          refine g_aload_n (pc' := 922) C dL_law_921 rfl rfl rfl ?_
          refine g_iload (pc' := 924) C dL_law_922 rfl rfl ?_
          refine g_iconst (pc' := 925) (v := (1 : Int32)) C dL_law_924 rfl (by decide) ?_
          refine g_iadd (pc' := 926) C dL_law_925 rfl ?_
          obtain ⟨hi, hv⟩ := hv
          refine g_sld (pc' := 927) C hX hbl hbA dL_law_926 rfl hi ?_
          refine g_aload_n (pc' := 928) C dL_law_927 rfl rfl rfl ?_
          refine g_iload (pc' := 930) C dL_law_928 rfl rfl ?_
          refine g_iconst (pc' := 931) (v := (2 : Int32)) C dL_law_930 rfl (by decide) ?_
          refine g_iadd (pc' := 932) C dL_law_931 rfl ?_
          obtain ⟨hi, hv⟩ := hv
          refine g_sld (pc' := 933) C hX hbl hbA dL_law_932 rfl hi ?_
          refine g_aload_n (pc' := 934) C dL_law_933 rfl rfl rfl ?_
          refine g_iload (pc' := 936) C dL_law_934 rfl rfl ?_
          refine g_iconst (pc' := 937) (v := (3 : Int32)) C dL_law_936 rfl (by decide) ?_
          refine g_iadd (pc' := 938) C dL_law_937 rfl ?_
          obtain ⟨hi, hv⟩ := hv
          refine g_sld (pc' := 939) C hX hbl hbA dL_law_938 rfl hi ?_
          refine g_aload_n (pc' := 940) C dL_law_939 rfl rfl rfl ?_
          refine g_iload (pc' := 942) C dL_law_940 rfl rfl ?_
          refine g_iconst (pc' := 943) (v := (4 : Int32)) C dL_law_942 rfl (by decide) ?_
          refine g_iadd (pc' := 944) C dL_law_943 rfl ?_
          obtain ⟨hi, hv⟩ := hv
          refine g_sld (pc' := 945) C hX hbl hbA dL_law_944 rfl hi ?_
          refine g_aload_n (pc' := 946) C dL_law_945 rfl rfl rfl ?_
          refine cfH (pc' := 949) C (run_SH (rest := []) C lk_L_121 (mtL_see hfl hv) ⟨by decide, by decide⟩ rfl rfl (Nat.le_of_ble_eq_true rfl) ⟨by rw [hR]; show _ ≤ 1063; omega, by rw [hR]; show _ ≤ 11476; omega⟩ dL_law_946) rfl [0, 1, 2, 3, 4, 5, 6, 7, 8, 9, 10, 11, 12, 22] [13, 14, 15, 16, 17, 18, 19, 20, 21] [9, 10, 11, 12, 13, 14, 15, 16, 17, 18, 19, 20, 21, 0, 1, 2, 3, 4, 5, 6, 7, 8, 22] nd_LH di_LH (fun u946 => wL γ ad bd o seen cnt pwc par u946.1 held clos seW seS leW leS pl msn thr mpar mcel mhel mclo msea mwei msha mmon u946.2) rfl rfl (fun _ => rfl) (fun r946 u946 hv => ?_)
          refine g_istore (pc' := 951) (lv' := [(5, .int r946), (0, .ref b), (1, .ref (ad 0)), (2, .ref (bd 0)), (3, .ref o), (4, .int x4)]) C dL_law_949 rfl (by decide) rfl ?_
          refine g_aload_n (pc' := 952) C dL_law_951 rfl rfl rfl ?_
          refine g_aload_n (pc' := 953) C dL_law_952 rfl rfl rfl ?_
          refine g_iload (pc' := 955) C dL_law_953 rfl rfl ?_
          refine g_iconst (pc' := 956) (v := (1 : Int32)) C dL_law_955 rfl (by decide) ?_
          refine g_iadd (pc' := 957) C dL_law_956 rfl ?_
          obtain ⟨hi, hv⟩ := hv
          refine g_sld (pc' := 958) C hX hbl hbA dL_law_957 rfl hi ?_
          refine g_aload_n (pc' := 959) C dL_law_958 rfl rfl rfl ?_
          refine g_iload (pc' := 961) C dL_law_959 rfl rfl ?_
          refine g_iconst (pc' := 962) (v := (2 : Int32)) C dL_law_961 rfl (by decide) ?_
          refine g_iadd (pc' := 963) C dL_law_962 rfl ?_
          obtain ⟨hi, hv⟩ := hv
          refine g_sld (pc' := 964) C hX hbl hbA dL_law_963 rfl hi ?_
          refine g_aload_n (pc' := 965) C dL_law_964 rfl rfl rfl ?_
          refine g_iload (pc' := 967) C dL_law_965 rfl rfl ?_
          refine g_iconst (pc' := 968) (v := (3 : Int32)) C dL_law_967 rfl (by decide) ?_
          refine g_iadd (pc' := 969) C dL_law_968 rfl ?_
          obtain ⟨hi, hv⟩ := hv
          refine g_sld (pc' := 970) C hX hbl hbA dL_law_969 rfl hi ?_
          refine g_aload_n (pc' := 971) C dL_law_970 rfl rfl rfl ?_
          refine g_iload (pc' := 973) C dL_law_971 rfl rfl ?_
          refine g_iconst (pc' := 974) (v := (4 : Int32)) C dL_law_973 rfl (by decide) ?_
          refine g_iadd (pc' := 975) C dL_law_974 rfl ?_
          obtain ⟨hi, hv⟩ := hv
          refine g_sld (pc' := 976) C hX hbl hbA dL_law_975 rfl hi ?_
          refine cfI (pc' := 979) C (run_VI (rest := []) C lk_L_124 (mtX4_see hv) ⟨by decide, by decide⟩ rfl rfl rfl rfl (Nat.le_of_ble_eq_true rfl) ⟨by rw [hR]; show _ ≤ 1063; omega, by rw [hR]; show _ ≤ 11476; omega⟩ dL_law_976) rfl [13, 14, 15, 16, 17, 18, 19, 20, 21] [0, 1, 2, 3, 4, 5, 6, 7, 8, 9, 10, 11, 12, 22] [0, 1, 2, 3, 4, 5, 6, 7, 8, 9, 10, 11, 12, 14, 15, 16, 17, 18, 19, 20, 21, 22, 13] nd_LM di_LM (fun u976 => wL γ ad bd o seen cnt pwc par u946.1 held clos seW seS leW leS pl msn u976.1 mpar u976.2 mhel mclo msea mwei msha mmon u946.2) rfl rfl (fun _ => rfl) (fun r976 u976 hv => ?_)
          refine g_istore (pc' := 981) (lv' := [(6, .int r976), (5, .int r946), (0, .ref b), (1, .ref (ad 0)), (2, .ref (bd 0)), (3, .ref o), (4, .int x4)]) C dL_law_979 rfl (by decide) rfl ?_
          refine g_aload_n (pc' := 982) C dL_law_981 rfl rfl rfl ?_
          refine cfI (pc' := 985) C (run_VI (rest := []) C lk_L_83 (mtX4_thrown hv) ⟨by decide, by decide⟩ rfl rfl rfl rfl (Nat.le_of_ble_eq_true rfl) ⟨by rw [hR]; show _ ≤ 1063; omega, by rw [hR]; show _ ≤ 11476; omega⟩ dL_law_982) rfl [13, 14, 15, 16, 17, 18, 19, 20, 21] [0, 1, 2, 3, 4, 5, 6, 7, 8, 9, 10, 11, 12, 22] [0, 1, 2, 3, 4, 5, 6, 7, 8, 9, 10, 11, 12, 14, 15, 16, 17, 18, 19, 20, 21, 22, 13] nd_LM di_LM (fun u982 => wL γ ad bd o seen cnt pwc par u946.1 held clos seW seS leW leS pl msn u976.1 mpar u976.2 mhel mclo msea mwei msha mmon u946.2) rfl rfl (fun _ => rfl) (fun r982 u982 hv => ?_)
          refine g_iload (pc' := 987) C dL_law_985 rfl rfl ?_
          obtain ⟨hv1, hv2⟩ := hv
          refine g_icmp_eq (pc' := 990) (tgt := 992) C dL_law_987 rfl (by decide) (fun c => ?_) (fun c => ?_)
          · have hv := hv1 c
            refine g_iload (pc' := 994) C dL_law_992 rfl rfl ?_
            obtain ⟨hv1, hv2⟩ := hv
            refine g_if_ne (pc' := 997) (tgt := 1009) C dL_law_994 rfl (by decide) (fun c => ?_) (fun c => ?_)
            · have hv := hv1 c
              refine g_goto (tgt := 1505) C dL_law_1009 (by decide) ?_
              refine g_iinc (pc' := 1508) (v := (x4 + (6 : Int32))) (lv' := [(4, .int (x4 + (6 : Int32))), (6, .int r976), (5, .int r946), (0, .ref b), (1, .ref (ad 0)), (2, .ref (bd 0)), (3, .ref o)]) C dL_law_1505 rfl rfl rfl (by decide) rfl ?_
              refine g_goto (tgt := 23) C dL_law_1508 (by decide) ?_
              refine g_sub (lv' := [(0, .ref b), (1, .ref (ad 0)), (2, .ref (bd 0)), (3, .ref o), (4, .int (x4 + (6 : Int32)))]) [3, 4, 5, 6, 0] rfl ?_
              exact ih _ _ _ _ _ _ _ _ _ _ _ _ _ _ _ _ _ _ _ _ _ _ _ _ _ _ (by omega) (by omega) hv
            · have hv := hv2 c
              refine g_aload_n (pc' := 998) C dL_law_997 rfl rfl rfl ?_
              refine g_iconst (pc' := 999) (v := (0 : Int32)) C dL_law_998 rfl (by decide) ?_
              obtain ⟨hi, hv⟩ := hv
              refine g_lald (pc' := 1000) C dL_law_999 rfl 22 rfl hi ?_
              refine g_iload (pc' := 1002) C dL_law_1000 rfl rfl ?_
              refine g_i2l (pc' := 1003) C dL_law_1002 rfl ?_
              refine g_lcmp (pc' := 1004) C dL_law_1003 rfl ?_
              obtain ⟨hv1, hv2⟩ := hv
              refine g_if_eq (pc' := 1007) (tgt := 1009) C dL_law_1004 rfl (by decide) (fun c => ?_) (fun c => ?_)
              · have hv := hv1 c
                refine g_goto (tgt := 1505) C dL_law_1009 (by decide) ?_
                refine g_iinc (pc' := 1508) (v := (x4 + (6 : Int32))) (lv' := [(4, .int (x4 + (6 : Int32))), (6, .int r976), (5, .int r946), (0, .ref b), (1, .ref (ad 0)), (2, .ref (bd 0)), (3, .ref o)]) C dL_law_1505 rfl rfl rfl (by decide) rfl ?_
                refine g_goto (tgt := 23) C dL_law_1508 (by decide) ?_
                refine g_sub (lv' := [(0, .ref b), (1, .ref (ad 0)), (2, .ref (bd 0)), (3, .ref o), (4, .int (x4 + (6 : Int32)))]) [3, 4, 5, 6, 0] rfl ?_
                exact ih _ _ _ _ _ _ _ _ _ _ _ _ _ _ _ _ _ _ _ _ _ _ _ _ _ _ (by omega) (by omega) hv
              · have hv := hv2 c
                refine g_iconst (pc' := 1008) (v := (0 : Int32)) C dL_law_1007 rfl (by decide) ?_
                exact hv.elim
          · have hv := hv2 c
            refine g_iconst (pc' := 991) (v := (0 : Int32)) C dL_law_990 rfl (by decide) ?_
            exact hv.elim
        · have hv := hv.2.2.2.2.2.2.2.2.2.2.2.2.2.1 e
          refine g_tabIn (tgt := 1012) (off := 972) C dL_law_40 (by omega) (by omega) (by rw [e]; rfl) (by decide) ?_
          refine g_aload_n (pc' := 1013) C dL_law_1012 rfl rfl rfl ?_
          refine g_aload_n (pc' := 1014) C dL_law_1013 rfl rfl rfl ?_
          refine cfH (pc' := 1017) C (run_SH (rest := []) C lk_L_125 (mtL_closeMonth hfl hv) ⟨by decide, by decide⟩ rfl rfl (Nat.le_of_ble_eq_true rfl) ⟨by rw [hR]; show _ ≤ 1063; omega, by rw [hR]; show _ ≤ 11476; omega⟩ dL_law_1014) rfl [0, 1, 2, 3, 4, 5, 6, 7, 8, 9, 10, 11, 12, 22] [13, 14, 15, 16, 17, 18, 19, 20, 21] [9, 10, 11, 12, 13, 14, 15, 16, 17, 18, 19, 20, 21, 0, 1, 2, 3, 4, 5, 6, 7, 8, 22] nd_LH di_LH (fun u1014 => wL γ ad bd o u1014.1 cnt pwc par amt held clos seW seS leW leS pl msn thr mpar mcel mhel mclo msea mwei msha mmon u1014.2) rfl rfl (fun _ => rfl) (fun r1014 u1014 hv => ?_)
          refine g_istore (pc' := 1019) (lv' := [(5, .int r1014), (0, .ref b), (1, .ref (ad 0)), (2, .ref (bd 0)), (3, .ref o), (4, .int x4)]) C dL_law_1017 rfl (by decide) rfl ?_
          refine g_aload_n (pc' := 1020) C dL_law_1019 rfl rfl rfl ?_
          refine cfI (pc' := 1023) C (run_VI (rest := []) C lk_L_128 (mtX4_closeMonth hv) ⟨by decide, by decide⟩ rfl rfl rfl rfl (Nat.le_of_ble_eq_true rfl) ⟨by rw [hR]; show _ ≤ 1063; omega, by rw [hR]; show _ ≤ 11476; omega⟩ dL_law_1020) rfl [13, 14, 15, 16, 17, 18, 19, 20, 21] [0, 1, 2, 3, 4, 5, 6, 7, 8, 9, 10, 11, 12, 22] [0, 1, 2, 3, 4, 5, 6, 7, 8, 9, 10, 11, 12, 14, 15, 16, 17, 18, 19, 20, 21, 22, 13] nd_LM di_LM (fun u1020 => wL γ ad bd o u1014.1 cnt pwc par amt held clos seW seS leW leS pl u1020.1 u1020.2 mpar mcel mhel mclo msea mwei msha mmon u1014.2) rfl rfl (fun _ => rfl) (fun r1020 u1020 hv => ?_)
          refine g_istore (pc' := 1025) (lv' := [(6, .int r1020), (5, .int r1014), (0, .ref b), (1, .ref (ad 0)), (2, .ref (bd 0)), (3, .ref o), (4, .int x4)]) C dL_law_1023 rfl (by decide) rfl ?_
          refine g_aload_n (pc' := 1026) C dL_law_1025 rfl rfl rfl ?_
          refine cfI (pc' := 1029) C (run_VI (rest := []) C lk_L_83 (mtX4_thrown hv) ⟨by decide, by decide⟩ rfl rfl rfl rfl (Nat.le_of_ble_eq_true rfl) ⟨by rw [hR]; show _ ≤ 1063; omega, by rw [hR]; show _ ≤ 11476; omega⟩ dL_law_1026) rfl [13, 14, 15, 16, 17, 18, 19, 20, 21] [0, 1, 2, 3, 4, 5, 6, 7, 8, 9, 10, 11, 12, 22] [0, 1, 2, 3, 4, 5, 6, 7, 8, 9, 10, 11, 12, 14, 15, 16, 17, 18, 19, 20, 21, 22, 13] nd_LM di_LM (fun u1026 => wL γ ad bd o u1014.1 cnt pwc par amt held clos seW seS leW leS pl u1020.1 u1020.2 mpar mcel mhel mclo msea mwei msha mmon u1014.2) rfl rfl (fun _ => rfl) (fun r1026 u1026 hv => ?_)
          refine g_iload (pc' := 1031) C dL_law_1029 rfl rfl ?_
          obtain ⟨hv1, hv2⟩ := hv
          refine g_icmp_eq (pc' := 1034) (tgt := 1036) C dL_law_1031 rfl (by decide) (fun c => ?_) (fun c => ?_)
          · have hv := hv1 c
            refine g_iload (pc' := 1038) C dL_law_1036 rfl rfl ?_
            obtain ⟨hv1, hv2⟩ := hv
            refine g_if_ne (pc' := 1041) (tgt := 1053) C dL_law_1038 rfl (by decide) (fun c => ?_) (fun c => ?_)
            · have hv := hv1 c
              refine g_goto (tgt := 1505) C dL_law_1053 (by decide) ?_
              refine g_iinc (pc' := 1508) (v := (x4 + (6 : Int32))) (lv' := [(4, .int (x4 + (6 : Int32))), (6, .int r1020), (5, .int r1014), (0, .ref b), (1, .ref (ad 0)), (2, .ref (bd 0)), (3, .ref o)]) C dL_law_1505 rfl rfl rfl (by decide) rfl ?_
              refine g_goto (tgt := 23) C dL_law_1508 (by decide) ?_
              refine g_sub (lv' := [(0, .ref b), (1, .ref (ad 0)), (2, .ref (bd 0)), (3, .ref o), (4, .int (x4 + (6 : Int32)))]) [3, 4, 5, 6, 0] rfl ?_
              exact ih _ _ _ _ _ _ _ _ _ _ _ _ _ _ _ _ _ _ _ _ _ _ _ _ _ _ (by omega) (by omega) hv
            · have hv := hv2 c
              refine g_aload_n (pc' := 1042) C dL_law_1041 rfl rfl rfl ?_
              refine g_iconst (pc' := 1043) (v := (0 : Int32)) C dL_law_1042 rfl (by decide) ?_
              obtain ⟨hi, hv⟩ := hv
              refine g_lald (pc' := 1044) C dL_law_1043 rfl 22 rfl hi ?_
              refine g_iload (pc' := 1046) C dL_law_1044 rfl rfl ?_
              refine g_i2l (pc' := 1047) C dL_law_1046 rfl ?_
              refine g_lcmp (pc' := 1048) C dL_law_1047 rfl ?_
              obtain ⟨hv1, hv2⟩ := hv
              refine g_if_eq (pc' := 1051) (tgt := 1053) C dL_law_1048 rfl (by decide) (fun c => ?_) (fun c => ?_)
              · have hv := hv1 c
                refine g_goto (tgt := 1505) C dL_law_1053 (by decide) ?_
                refine g_iinc (pc' := 1508) (v := (x4 + (6 : Int32))) (lv' := [(4, .int (x4 + (6 : Int32))), (6, .int r1020), (5, .int r1014), (0, .ref b), (1, .ref (ad 0)), (2, .ref (bd 0)), (3, .ref o)]) C dL_law_1505 rfl rfl rfl (by decide) rfl ?_
                refine g_goto (tgt := 23) C dL_law_1508 (by decide) ?_
                refine g_sub (lv' := [(0, .ref b), (1, .ref (ad 0)), (2, .ref (bd 0)), (3, .ref o), (4, .int (x4 + (6 : Int32)))]) [3, 4, 5, 6, 0] rfl ?_
                exact ih _ _ _ _ _ _ _ _ _ _ _ _ _ _ _ _ _ _ _ _ _ _ _ _ _ _ (by omega) (by omega) hv
              · have hv := hv2 c
                refine g_iconst (pc' := 1052) (v := (0 : Int32)) C dL_law_1051 rfl (by decide) ?_
                exact hv.elim
          · have hv := hv2 c
            refine g_iconst (pc' := 1035) (v := (0 : Int32)) C dL_law_1034 rfl (by decide) ?_
            exact hv.elim
        · have hv := hv.2.2.2.2.2.2.2.2.2.2.2.2.2.2.1 e
          refine g_tabIn (tgt := 1056) (off := 1016) C dL_law_40 (by omega) (by omega) (by rw [e]; rfl) (by decide) ?_
          refine g_aload_n (pc' := 1057) C dL_law_1056 rfl rfl rfl ?_
          refine g_aload_n (pc' := 1058) C dL_law_1057 rfl rfl rfl ?_
          refine g_iload (pc' := 1060) C dL_law_1058 rfl rfl ?_
          refine g_iconst (pc' := 1061) (v := (1 : Int32)) C dL_law_1060 rfl (by decide) ?_
          refine g_iadd (pc' := 1062) C dL_law_1061 rfl ?_
          obtain ⟨hi, hv⟩ := hv
          refine g_sld (pc' := 1063) C hX hbl hbA dL_law_1062 rfl hi ?_
          refine g_aload_n (pc' := 1064) C dL_law_1063 rfl rfl rfl ?_
          refine g_iload (pc' := 1066) C dL_law_1064 rfl rfl ?_
          refine g_iconst (pc' := 1067) (v := (2 : Int32)) C dL_law_1066 rfl (by decide) ?_
          refine g_iadd (pc' := 1068) C dL_law_1067 rfl ?_
          obtain ⟨hi, hv⟩ := hv
          refine g_sld (pc' := 1069) C hX hbl hbA dL_law_1068 rfl hi ?_
          refine g_aload_n (pc' := 1070) C dL_law_1069 rfl rfl rfl ?_
          refine g_iload (pc' := 1072) C dL_law_1070 rfl rfl ?_
          refine g_iconst (pc' := 1073) (v := (3 : Int32)) C dL_law_1072 rfl (by decide) ?_
          refine g_iadd (pc' := 1074) C dL_law_1073 rfl ?_
          obtain ⟨hi, hv⟩ := hv
          refine g_sld (pc' := 1075) C hX hbl hbA dL_law_1074 rfl hi ?_
          refine g_aload_n (pc' := 1076) C dL_law_1075 rfl rfl rfl ?_
          refine g_iload (pc' := 1078) C dL_law_1076 rfl rfl ?_
          refine g_iconst (pc' := 1079) (v := (4 : Int32)) C dL_law_1078 rfl (by decide) ?_
          refine g_iadd (pc' := 1080) C dL_law_1079 rfl ?_
          obtain ⟨hi, hv⟩ := hv
          refine g_sld (pc' := 1081) C hX hbl hbA dL_law_1080 rfl hi ?_
          refine g_aload_n (pc' := 1082) C dL_law_1081 rfl rfl rfl ?_
          refine cfH (pc' := 1085) C (run_SH (rest := []) C lk_L_129 (mtL_amount hfl hv) ⟨by decide, by decide⟩ rfl rfl (Nat.le_of_ble_eq_true rfl) ⟨by rw [hR]; show _ ≤ 1063; omega, by rw [hR]; show _ ≤ 11476; omega⟩ dL_law_1082) rfl [0, 1, 2, 3, 4, 5, 6, 7, 8, 9, 10, 11, 12, 22] [13, 14, 15, 16, 17, 18, 19, 20, 21] [9, 10, 11, 12, 13, 14, 15, 16, 17, 18, 19, 20, 21, 0, 1, 2, 3, 4, 5, 6, 7, 8, 22] nd_LH di_LH (fun u1082 => wL γ ad bd o seen cnt pwc par amt held clos seW seS leW leS pl msn thr mpar mcel mhel mclo msea mwei msha mmon u1082) rfl rfl (fun _ => rfl) (fun r1082 u1082 hv => ?_)
          refine g_istore (pc' := 1087) (lv' := [(5, .int r1082), (0, .ref b), (1, .ref (ad 0)), (2, .ref (bd 0)), (3, .ref o), (4, .int x4)]) C dL_law_1085 rfl (by decide) rfl ?_
          refine g_aload_n (pc' := 1088) C dL_law_1087 rfl rfl rfl ?_
          refine g_aload_n (pc' := 1089) C dL_law_1088 rfl rfl rfl ?_
          refine g_iload (pc' := 1091) C dL_law_1089 rfl rfl ?_
          refine g_iconst (pc' := 1092) (v := (1 : Int32)) C dL_law_1091 rfl (by decide) ?_
          refine g_iadd (pc' := 1093) C dL_law_1092 rfl ?_
          obtain ⟨hi, hv⟩ := hv
          refine g_sld (pc' := 1094) C hX hbl hbA dL_law_1093 rfl hi ?_
          refine g_aload_n (pc' := 1095) C dL_law_1094 rfl rfl rfl ?_
          refine g_iload (pc' := 1097) C dL_law_1095 rfl rfl ?_
          refine g_iconst (pc' := 1098) (v := (2 : Int32)) C dL_law_1097 rfl (by decide) ?_
          refine g_iadd (pc' := 1099) C dL_law_1098 rfl ?_
          obtain ⟨hi, hv⟩ := hv
          refine g_sld (pc' := 1100) C hX hbl hbA dL_law_1099 rfl hi ?_
          refine g_aload_n (pc' := 1101) C dL_law_1100 rfl rfl rfl ?_
          refine g_iload (pc' := 1103) C dL_law_1101 rfl rfl ?_
          refine g_iconst (pc' := 1104) (v := (3 : Int32)) C dL_law_1103 rfl (by decide) ?_
          refine g_iadd (pc' := 1105) C dL_law_1104 rfl ?_
          obtain ⟨hi, hv⟩ := hv
          refine g_sld (pc' := 1106) C hX hbl hbA dL_law_1105 rfl hi ?_
          refine g_aload_n (pc' := 1107) C dL_law_1106 rfl rfl rfl ?_
          refine g_iload (pc' := 1109) C dL_law_1107 rfl rfl ?_
          refine g_iconst (pc' := 1110) (v := (4 : Int32)) C dL_law_1109 rfl (by decide) ?_
          refine g_iadd (pc' := 1111) C dL_law_1110 rfl ?_
          obtain ⟨hi, hv⟩ := hv
          refine g_sld (pc' := 1112) C hX hbl hbA dL_law_1111 rfl hi ?_
          refine cfI (pc' := 1115) C (run_VI (rest := []) C lk_L_131 (mtX4_amount hv) ⟨by decide, by decide⟩ rfl rfl rfl rfl (Nat.le_of_ble_eq_true rfl) ⟨by rw [hR]; show _ ≤ 1063; omega, by rw [hR]; show _ ≤ 11476; omega⟩ dL_law_1112) rfl [13, 14, 15, 16, 17, 18, 19, 20, 21] [0, 1, 2, 3, 4, 5, 6, 7, 8, 9, 10, 11, 12, 22] [0, 1, 2, 3, 4, 5, 6, 7, 8, 9, 10, 11, 12, 14, 15, 16, 17, 18, 19, 20, 21, 22, 13] nd_LM di_LM (fun u1112 => wL γ ad bd o seen cnt pwc par amt held clos seW seS leW leS pl msn u1112 mpar mcel mhel mclo msea mwei msha mmon u1082) rfl rfl (fun _ => rfl) (fun r1112 u1112 hv => ?_)
          refine g_istore (pc' := 1117) (lv' := [(6, .int r1112), (5, .int r1082), (0, .ref b), (1, .ref (ad 0)), (2, .ref (bd 0)), (3, .ref o), (4, .int x4)]) C dL_law_1115 rfl (by decide) rfl ?_
          refine g_aload_n (pc' := 1118) C dL_law_1117 rfl rfl rfl ?_
          refine cfI (pc' := 1121) C (run_VI (rest := []) C lk_L_83 (mtX4_thrown hv) ⟨by decide, by decide⟩ rfl rfl rfl rfl (Nat.le_of_ble_eq_true rfl) ⟨by rw [hR]; show _ ≤ 1063; omega, by rw [hR]; show _ ≤ 11476; omega⟩ dL_law_1118) rfl [13, 14, 15, 16, 17, 18, 19, 20, 21] [0, 1, 2, 3, 4, 5, 6, 7, 8, 9, 10, 11, 12, 22] [0, 1, 2, 3, 4, 5, 6, 7, 8, 9, 10, 11, 12, 14, 15, 16, 17, 18, 19, 20, 21, 22, 13] nd_LM di_LM (fun u1118 => wL γ ad bd o seen cnt pwc par amt held clos seW seS leW leS pl msn u1112 mpar mcel mhel mclo msea mwei msha mmon u1082) rfl rfl (fun _ => rfl) (fun r1118 u1118 hv => ?_)
          refine g_iload (pc' := 1123) C dL_law_1121 rfl rfl ?_
          obtain ⟨hv1, hv2⟩ := hv
          refine g_icmp_eq (pc' := 1126) (tgt := 1128) C dL_law_1123 rfl (by decide) (fun c => ?_) (fun c => ?_)
          · have hv := hv1 c
            refine g_iload (pc' := 1130) C dL_law_1128 rfl rfl ?_
            obtain ⟨hv1, hv2⟩ := hv
            refine g_if_ne (pc' := 1133) (tgt := 1145) C dL_law_1130 rfl (by decide) (fun c => ?_) (fun c => ?_)
            · have hv := hv1 c
              refine g_goto (tgt := 1505) C dL_law_1145 (by decide) ?_
              refine g_iinc (pc' := 1508) (v := (x4 + (6 : Int32))) (lv' := [(4, .int (x4 + (6 : Int32))), (6, .int r1112), (5, .int r1082), (0, .ref b), (1, .ref (ad 0)), (2, .ref (bd 0)), (3, .ref o)]) C dL_law_1505 rfl rfl rfl (by decide) rfl ?_
              refine g_goto (tgt := 23) C dL_law_1508 (by decide) ?_
              refine g_sub (lv' := [(0, .ref b), (1, .ref (ad 0)), (2, .ref (bd 0)), (3, .ref o), (4, .int (x4 + (6 : Int32)))]) [3, 4, 5, 6, 0] rfl ?_
              exact ih _ _ _ _ _ _ _ _ _ _ _ _ _ _ _ _ _ _ _ _ _ _ _ _ _ _ (by omega) (by omega) hv
            · have hv := hv2 c
              refine g_aload_n (pc' := 1134) C dL_law_1133 rfl rfl rfl ?_
              refine g_iconst (pc' := 1135) (v := (0 : Int32)) C dL_law_1134 rfl (by decide) ?_
              obtain ⟨hi, hv⟩ := hv
              refine g_lald (pc' := 1136) C dL_law_1135 rfl 22 rfl hi ?_
              refine g_iload (pc' := 1138) C dL_law_1136 rfl rfl ?_
              refine g_i2l (pc' := 1139) C dL_law_1138 rfl ?_
              refine g_lcmp (pc' := 1140) C dL_law_1139 rfl ?_
              obtain ⟨hv1, hv2⟩ := hv
              refine g_if_eq (pc' := 1143) (tgt := 1145) C dL_law_1140 rfl (by decide) (fun c => ?_) (fun c => ?_)
              · have hv := hv1 c
                refine g_goto (tgt := 1505) C dL_law_1145 (by decide) ?_
                refine g_iinc (pc' := 1508) (v := (x4 + (6 : Int32))) (lv' := [(4, .int (x4 + (6 : Int32))), (6, .int r1112), (5, .int r1082), (0, .ref b), (1, .ref (ad 0)), (2, .ref (bd 0)), (3, .ref o)]) C dL_law_1505 rfl rfl rfl (by decide) rfl ?_
                refine g_goto (tgt := 23) C dL_law_1508 (by decide) ?_
                refine g_sub (lv' := [(0, .ref b), (1, .ref (ad 0)), (2, .ref (bd 0)), (3, .ref o), (4, .int (x4 + (6 : Int32)))]) [3, 4, 5, 6, 0] rfl ?_
                exact ih _ _ _ _ _ _ _ _ _ _ _ _ _ _ _ _ _ _ _ _ _ _ _ _ _ _ (by omega) (by omega) hv
              · have hv := hv2 c
                refine g_iconst (pc' := 1144) (v := (0 : Int32)) C dL_law_1143 rfl (by decide) ?_
                exact hv.elim
          · have hv := hv2 c
            refine g_iconst (pc' := 1127) (v := (0 : Int32)) C dL_law_1126 rfl (by decide) ?_
            exact hv.elim
        · have hv := hv.2.2.2.2.2.2.2.2.2.2.2.2.2.2.2.1 e
          refine g_tabIn (tgt := 1148) (off := 1108) C dL_law_40 (by omega) (by omega) (by rw [e]; rfl) (by decide) ?_
          refine g_aload_n (pc' := 1149) C dL_law_1148 rfl rfl rfl ?_
          refine g_aload_n (pc' := 1150) C dL_law_1149 rfl rfl rfl ?_
          refine g_iload (pc' := 1152) C dL_law_1150 rfl rfl ?_
          refine g_iconst (pc' := 1153) (v := (1 : Int32)) C dL_law_1152 rfl (by decide) ?_
          refine g_iadd (pc' := 1154) C dL_law_1153 rfl ?_
          obtain ⟨hi, hv⟩ := hv
          refine g_sld (pc' := 1155) C hX hbl hbA dL_law_1154 rfl hi ?_
          refine g_aload_n (pc' := 1156) C dL_law_1155 rfl rfl rfl ?_
          refine g_iload (pc' := 1158) C dL_law_1156 rfl rfl ?_
          refine g_iconst (pc' := 1159) (v := (2 : Int32)) C dL_law_1158 rfl (by decide) ?_
          refine g_iadd (pc' := 1160) C dL_law_1159 rfl ?_
          obtain ⟨hi, hv⟩ := hv
          refine g_sld (pc' := 1161) C hX hbl hbA dL_law_1160 rfl hi ?_
          refine g_aload_n (pc' := 1162) C dL_law_1161 rfl rfl rfl ?_
          refine g_iload (pc' := 1164) C dL_law_1162 rfl rfl ?_
          refine g_iconst (pc' := 1165) (v := (3 : Int32)) C dL_law_1164 rfl (by decide) ?_
          refine g_iadd (pc' := 1166) C dL_law_1165 rfl ?_
          obtain ⟨hi, hv⟩ := hv
          refine g_sld (pc' := 1167) C hX hbl hbA dL_law_1166 rfl hi ?_
          refine g_aload_n (pc' := 1168) C dL_law_1167 rfl rfl rfl ?_
          refine g_iload (pc' := 1170) C dL_law_1168 rfl rfl ?_
          refine g_iconst (pc' := 1171) (v := (4 : Int32)) C dL_law_1170 rfl (by decide) ?_
          refine g_iadd (pc' := 1172) C dL_law_1171 rfl ?_
          obtain ⟨hi, hv⟩ := hv
          refine g_sld (pc' := 1173) C hX hbl hbA dL_law_1172 rfl hi ?_
          refine g_aload_n (pc' := 1174) C dL_law_1173 rfl rfl rfl ?_
          refine cfH (pc' := 1177) C (run_SH (rest := []) C lk_L_132 (mtL_outlook hfl hv) ⟨by decide, by decide⟩ rfl rfl (Nat.le_of_ble_eq_true rfl) ⟨by rw [hR]; show _ ≤ 1063; omega, by rw [hR]; show _ ≤ 11476; omega⟩ dL_law_1174) rfl [0, 1, 2, 3, 4, 5, 6, 7, 8, 9, 10, 11, 12, 22] [13, 14, 15, 16, 17, 18, 19, 20, 21] [9, 10, 11, 12, 13, 14, 15, 16, 17, 18, 19, 20, 21, 0, 1, 2, 3, 4, 5, 6, 7, 8, 22] nd_LH di_LH (fun u1174 => wL γ ad bd o seen cnt pwc par amt held clos seW seS leW leS pl msn thr mpar mcel mhel mclo msea mwei msha mmon u1174) rfl rfl (fun _ => rfl) (fun r1174 u1174 hv => ?_)
          refine g_istore (pc' := 1179) (lv' := [(5, .int r1174), (0, .ref b), (1, .ref (ad 0)), (2, .ref (bd 0)), (3, .ref o), (4, .int x4)]) C dL_law_1177 rfl (by decide) rfl ?_
          refine g_aload_n (pc' := 1180) C dL_law_1179 rfl rfl rfl ?_
          refine g_aload_n (pc' := 1181) C dL_law_1180 rfl rfl rfl ?_
          refine g_iload (pc' := 1183) C dL_law_1181 rfl rfl ?_
          refine g_iconst (pc' := 1184) (v := (1 : Int32)) C dL_law_1183 rfl (by decide) ?_
          refine g_iadd (pc' := 1185) C dL_law_1184 rfl ?_
          obtain ⟨hi, hv⟩ := hv
          refine g_sld (pc' := 1186) C hX hbl hbA dL_law_1185 rfl hi ?_
          refine g_aload_n (pc' := 1187) C dL_law_1186 rfl rfl rfl ?_
          refine g_iload (pc' := 1189) C dL_law_1187 rfl rfl ?_
          refine g_iconst (pc' := 1190) (v := (2 : Int32)) C dL_law_1189 rfl (by decide) ?_
          refine g_iadd (pc' := 1191) C dL_law_1190 rfl ?_
          obtain ⟨hi, hv⟩ := hv
          refine g_sld (pc' := 1192) C hX hbl hbA dL_law_1191 rfl hi ?_
          refine g_aload_n (pc' := 1193) C dL_law_1192 rfl rfl rfl ?_
          refine g_iload (pc' := 1195) C dL_law_1193 rfl rfl ?_
          refine g_iconst (pc' := 1196) (v := (3 : Int32)) C dL_law_1195 rfl (by decide) ?_
          refine g_iadd (pc' := 1197) C dL_law_1196 rfl ?_
          obtain ⟨hi, hv⟩ := hv
          refine g_sld (pc' := 1198) C hX hbl hbA dL_law_1197 rfl hi ?_
          refine g_aload_n (pc' := 1199) C dL_law_1198 rfl rfl rfl ?_
          refine g_iload (pc' := 1201) C dL_law_1199 rfl rfl ?_
          refine g_iconst (pc' := 1202) (v := (4 : Int32)) C dL_law_1201 rfl (by decide) ?_
          refine g_iadd (pc' := 1203) C dL_law_1202 rfl ?_
          obtain ⟨hi, hv⟩ := hv
          refine g_sld (pc' := 1204) C hX hbl hbA dL_law_1203 rfl hi ?_
          refine cfI (pc' := 1207) C (run_VI (rest := []) C lk_L_134 (mtX4_outlook hv) ⟨by decide, by decide⟩ rfl rfl rfl rfl (Nat.le_of_ble_eq_true rfl) ⟨by rw [hR]; show _ ≤ 1063; omega, by rw [hR]; show _ ≤ 11476; omega⟩ dL_law_1204) rfl [13, 14, 15, 16, 17, 18, 19, 20, 21] [0, 1, 2, 3, 4, 5, 6, 7, 8, 9, 10, 11, 12, 22] [0, 1, 2, 3, 4, 5, 6, 7, 8, 9, 10, 11, 12, 14, 15, 16, 17, 18, 19, 20, 21, 22, 13] nd_LM di_LM (fun u1204 => wL γ ad bd o seen cnt pwc par amt held clos seW seS leW leS pl msn u1204 mpar mcel mhel mclo msea mwei msha mmon u1174) rfl rfl (fun _ => rfl) (fun r1204 u1204 hv => ?_)
          refine g_istore (pc' := 1209) (lv' := [(6, .int r1204), (5, .int r1174), (0, .ref b), (1, .ref (ad 0)), (2, .ref (bd 0)), (3, .ref o), (4, .int x4)]) C dL_law_1207 rfl (by decide) rfl ?_
          refine g_aload_n (pc' := 1210) C dL_law_1209 rfl rfl rfl ?_
          refine cfI (pc' := 1213) C (run_VI (rest := []) C lk_L_83 (mtX4_thrown hv) ⟨by decide, by decide⟩ rfl rfl rfl rfl (Nat.le_of_ble_eq_true rfl) ⟨by rw [hR]; show _ ≤ 1063; omega, by rw [hR]; show _ ≤ 11476; omega⟩ dL_law_1210) rfl [13, 14, 15, 16, 17, 18, 19, 20, 21] [0, 1, 2, 3, 4, 5, 6, 7, 8, 9, 10, 11, 12, 22] [0, 1, 2, 3, 4, 5, 6, 7, 8, 9, 10, 11, 12, 14, 15, 16, 17, 18, 19, 20, 21, 22, 13] nd_LM di_LM (fun u1210 => wL γ ad bd o seen cnt pwc par amt held clos seW seS leW leS pl msn u1204 mpar mcel mhel mclo msea mwei msha mmon u1174) rfl rfl (fun _ => rfl) (fun r1210 u1210 hv => ?_)
          refine g_iload (pc' := 1215) C dL_law_1213 rfl rfl ?_
          obtain ⟨hv1, hv2⟩ := hv
          refine g_icmp_eq (pc' := 1218) (tgt := 1220) C dL_law_1215 rfl (by decide) (fun c => ?_) (fun c => ?_)
          · have hv := hv1 c
            refine g_iload (pc' := 1222) C dL_law_1220 rfl rfl ?_
            obtain ⟨hv1, hv2⟩ := hv
            refine g_if_ne (pc' := 1225) (tgt := 1237) C dL_law_1222 rfl (by decide) (fun c => ?_) (fun c => ?_)
            · have hv := hv1 c
              refine g_goto (tgt := 1505) C dL_law_1237 (by decide) ?_
              refine g_iinc (pc' := 1508) (v := (x4 + (6 : Int32))) (lv' := [(4, .int (x4 + (6 : Int32))), (6, .int r1204), (5, .int r1174), (0, .ref b), (1, .ref (ad 0)), (2, .ref (bd 0)), (3, .ref o)]) C dL_law_1505 rfl rfl rfl (by decide) rfl ?_
              refine g_goto (tgt := 23) C dL_law_1508 (by decide) ?_
              refine g_sub (lv' := [(0, .ref b), (1, .ref (ad 0)), (2, .ref (bd 0)), (3, .ref o), (4, .int (x4 + (6 : Int32)))]) [3, 4, 5, 6, 0] rfl ?_
              exact ih _ _ _ _ _ _ _ _ _ _ _ _ _ _ _ _ _ _ _ _ _ _ _ _ _ _ (by omega) (by omega) hv
            · have hv := hv2 c
              refine g_aload_n (pc' := 1226) C dL_law_1225 rfl rfl rfl ?_
              refine g_iconst (pc' := 1227) (v := (0 : Int32)) C dL_law_1226 rfl (by decide) ?_
              obtain ⟨hi, hv⟩ := hv
              refine g_lald (pc' := 1228) C dL_law_1227 rfl 22 rfl hi ?_
              refine g_iload (pc' := 1230) C dL_law_1228 rfl rfl ?_
              refine g_i2l (pc' := 1231) C dL_law_1230 rfl ?_
              refine g_lcmp (pc' := 1232) C dL_law_1231 rfl ?_
              obtain ⟨hv1, hv2⟩ := hv
              refine g_if_eq (pc' := 1235) (tgt := 1237) C dL_law_1232 rfl (by decide) (fun c => ?_) (fun c => ?_)
              · have hv := hv1 c
                refine g_goto (tgt := 1505) C dL_law_1237 (by decide) ?_
                refine g_iinc (pc' := 1508) (v := (x4 + (6 : Int32))) (lv' := [(4, .int (x4 + (6 : Int32))), (6, .int r1204), (5, .int r1174), (0, .ref b), (1, .ref (ad 0)), (2, .ref (bd 0)), (3, .ref o)]) C dL_law_1505 rfl rfl rfl (by decide) rfl ?_
                refine g_goto (tgt := 23) C dL_law_1508 (by decide) ?_
                refine g_sub (lv' := [(0, .ref b), (1, .ref (ad 0)), (2, .ref (bd 0)), (3, .ref o), (4, .int (x4 + (6 : Int32)))]) [3, 4, 5, 6, 0] rfl ?_
                exact ih _ _ _ _ _ _ _ _ _ _ _ _ _ _ _ _ _ _ _ _ _ _ _ _ _ _ (by omega) (by omega) hv
              · have hv := hv2 c
                refine g_iconst (pc' := 1236) (v := (0 : Int32)) C dL_law_1235 rfl (by decide) ?_
                exact hv.elim
          · have hv := hv2 c
            refine g_iconst (pc' := 1219) (v := (0 : Int32)) C dL_law_1218 rfl (by decide) ?_
            exact hv.elim
        · have hv := hv.2.2.2.2.2.2.2.2.2.2.2.2.2.2.2.2.1 e
          refine g_tabIn (tgt := 1240) (off := 1200) C dL_law_40 (by omega) (by omega) (by rw [e]; rfl) (by decide) ?_
          refine g_aload_n (pc' := 1241) C dL_law_1240 rfl rfl rfl ?_
          refine g_aload_n (pc' := 1242) C dL_law_1241 rfl rfl rfl ?_
          refine g_iload (pc' := 1244) C dL_law_1242 rfl rfl ?_
          refine g_iconst (pc' := 1245) (v := (1 : Int32)) C dL_law_1244 rfl (by decide) ?_
          refine g_iadd (pc' := 1246) C dL_law_1245 rfl ?_
          obtain ⟨hi, hv⟩ := hv
          refine g_sld (pc' := 1247) C hX hbl hbA dL_law_1246 rfl hi ?_
          refine g_aload_n (pc' := 1248) C dL_law_1247 rfl rfl rfl ?_
          refine g_iload (pc' := 1250) C dL_law_1248 rfl rfl ?_
          refine g_iconst (pc' := 1251) (v := (2 : Int32)) C dL_law_1250 rfl (by decide) ?_
          refine g_iadd (pc' := 1252) C dL_law_1251 rfl ?_
          obtain ⟨hi, hv⟩ := hv
          refine g_sld (pc' := 1253) C hX hbl hbA dL_law_1252 rfl hi ?_
          refine g_aload_n (pc' := 1254) C dL_law_1253 rfl rfl rfl ?_
          refine g_iload (pc' := 1256) C dL_law_1254 rfl rfl ?_
          refine g_iconst (pc' := 1257) (v := (3 : Int32)) C dL_law_1256 rfl (by decide) ?_
          refine g_iadd (pc' := 1258) C dL_law_1257 rfl ?_
          obtain ⟨hi, hv⟩ := hv
          refine g_sld (pc' := 1259) C hX hbl hbA dL_law_1258 rfl hi ?_
          refine g_aload_n (pc' := 1260) C dL_law_1259 rfl rfl rfl ?_
          refine cfH (pc' := 1263) C (run_SH (rest := []) C lk_L_135 (mtL_year hfl hv) ⟨by decide, by decide⟩ rfl rfl (Nat.le_of_ble_eq_true rfl) ⟨by rw [hR]; show _ ≤ 1063; omega, by rw [hR]; show _ ≤ 11476; omega⟩ dL_law_1260) rfl [0, 1, 2, 3, 4, 5, 6, 7, 8, 9, 10, 11, 12, 22] [13, 14, 15, 16, 17, 18, 19, 20, 21] [9, 10, 11, 12, 13, 14, 15, 16, 17, 18, 19, 20, 21, 0, 1, 2, 3, 4, 5, 6, 7, 8, 22] nd_LH di_LH (fun u1260 => wL γ ad bd o seen cnt pwc par amt held clos seW seS leW leS pl msn thr mpar mcel mhel mclo msea mwei msha mmon u1260) rfl rfl (fun _ => rfl) (fun r1260 u1260 hv => ?_)
          refine g_istore (pc' := 1265) (lv' := [(5, .int r1260), (0, .ref b), (1, .ref (ad 0)), (2, .ref (bd 0)), (3, .ref o), (4, .int x4)]) C dL_law_1263 rfl (by decide) rfl ?_
          refine g_aload_n (pc' := 1266) C dL_law_1265 rfl rfl rfl ?_
          refine g_aload_n (pc' := 1267) C dL_law_1266 rfl rfl rfl ?_
          refine g_iload (pc' := 1269) C dL_law_1267 rfl rfl ?_
          refine g_iconst (pc' := 1270) (v := (1 : Int32)) C dL_law_1269 rfl (by decide) ?_
          refine g_iadd (pc' := 1271) C dL_law_1270 rfl ?_
          obtain ⟨hi, hv⟩ := hv
          refine g_sld (pc' := 1272) C hX hbl hbA dL_law_1271 rfl hi ?_
          refine g_aload_n (pc' := 1273) C dL_law_1272 rfl rfl rfl ?_
          refine g_iload (pc' := 1275) C dL_law_1273 rfl rfl ?_
          refine g_iconst (pc' := 1276) (v := (2 : Int32)) C dL_law_1275 rfl (by decide) ?_
          refine g_iadd (pc' := 1277) C dL_law_1276 rfl ?_
          obtain ⟨hi, hv⟩ := hv
          refine g_sld (pc' := 1278) C hX hbl hbA dL_law_1277 rfl hi ?_
          refine g_aload_n (pc' := 1279) C dL_law_1278 rfl rfl rfl ?_
          refine g_iload (pc' := 1281) C dL_law_1279 rfl rfl ?_
          refine g_iconst (pc' := 1282) (v := (3 : Int32)) C dL_law_1281 rfl (by decide) ?_
          refine g_iadd (pc' := 1283) C dL_law_1282 rfl ?_
          obtain ⟨hi, hv⟩ := hv
          refine g_sld (pc' := 1284) C hX hbl hbA dL_law_1283 rfl hi ?_
          refine cfI (pc' := 1287) C (run_VI (rest := []) C lk_L_137 (mtX4_year hv) ⟨by decide, by decide⟩ rfl rfl rfl rfl (Nat.le_of_ble_eq_true rfl) ⟨by rw [hR]; show _ ≤ 1063; omega, by rw [hR]; show _ ≤ 11476; omega⟩ dL_law_1284) rfl [13, 14, 15, 16, 17, 18, 19, 20, 21] [0, 1, 2, 3, 4, 5, 6, 7, 8, 9, 10, 11, 12, 22] [0, 1, 2, 3, 4, 5, 6, 7, 8, 9, 10, 11, 12, 14, 15, 16, 17, 18, 19, 20, 21, 22, 13] nd_LM di_LM (fun u1284 => wL γ ad bd o seen cnt pwc par amt held clos seW seS leW leS pl msn u1284 mpar mcel mhel mclo msea mwei msha mmon u1260) rfl rfl (fun _ => rfl) (fun r1284 u1284 hv => ?_)
          refine g_istore (pc' := 1289) (lv' := [(6, .int r1284), (5, .int r1260), (0, .ref b), (1, .ref (ad 0)), (2, .ref (bd 0)), (3, .ref o), (4, .int x4)]) C dL_law_1287 rfl (by decide) rfl ?_
          refine g_aload_n (pc' := 1290) C dL_law_1289 rfl rfl rfl ?_
          refine cfI (pc' := 1293) C (run_VI (rest := []) C lk_L_83 (mtX4_thrown hv) ⟨by decide, by decide⟩ rfl rfl rfl rfl (Nat.le_of_ble_eq_true rfl) ⟨by rw [hR]; show _ ≤ 1063; omega, by rw [hR]; show _ ≤ 11476; omega⟩ dL_law_1290) rfl [13, 14, 15, 16, 17, 18, 19, 20, 21] [0, 1, 2, 3, 4, 5, 6, 7, 8, 9, 10, 11, 12, 22] [0, 1, 2, 3, 4, 5, 6, 7, 8, 9, 10, 11, 12, 14, 15, 16, 17, 18, 19, 20, 21, 22, 13] nd_LM di_LM (fun u1290 => wL γ ad bd o seen cnt pwc par amt held clos seW seS leW leS pl msn u1284 mpar mcel mhel mclo msea mwei msha mmon u1260) rfl rfl (fun _ => rfl) (fun r1290 u1290 hv => ?_)
          refine g_iload (pc' := 1295) C dL_law_1293 rfl rfl ?_
          obtain ⟨hv1, hv2⟩ := hv
          refine g_icmp_eq (pc' := 1298) (tgt := 1300) C dL_law_1295 rfl (by decide) (fun c => ?_) (fun c => ?_)
          · have hv := hv1 c
            refine g_iload (pc' := 1302) C dL_law_1300 rfl rfl ?_
            obtain ⟨hv1, hv2⟩ := hv
            refine g_if_ne (pc' := 1305) (tgt := 1317) C dL_law_1302 rfl (by decide) (fun c => ?_) (fun c => ?_)
            · have hv := hv1 c
              refine g_goto (tgt := 1505) C dL_law_1317 (by decide) ?_
              refine g_iinc (pc' := 1508) (v := (x4 + (6 : Int32))) (lv' := [(4, .int (x4 + (6 : Int32))), (6, .int r1284), (5, .int r1260), (0, .ref b), (1, .ref (ad 0)), (2, .ref (bd 0)), (3, .ref o)]) C dL_law_1505 rfl rfl rfl (by decide) rfl ?_
              refine g_goto (tgt := 23) C dL_law_1508 (by decide) ?_
              refine g_sub (lv' := [(0, .ref b), (1, .ref (ad 0)), (2, .ref (bd 0)), (3, .ref o), (4, .int (x4 + (6 : Int32)))]) [3, 4, 5, 6, 0] rfl ?_
              exact ih _ _ _ _ _ _ _ _ _ _ _ _ _ _ _ _ _ _ _ _ _ _ _ _ _ _ (by omega) (by omega) hv
            · have hv := hv2 c
              refine g_aload_n (pc' := 1306) C dL_law_1305 rfl rfl rfl ?_
              refine g_iconst (pc' := 1307) (v := (0 : Int32)) C dL_law_1306 rfl (by decide) ?_
              obtain ⟨hi, hv⟩ := hv
              refine g_lald (pc' := 1308) C dL_law_1307 rfl 22 rfl hi ?_
              refine g_iload (pc' := 1310) C dL_law_1308 rfl rfl ?_
              refine g_i2l (pc' := 1311) C dL_law_1310 rfl ?_
              refine g_lcmp (pc' := 1312) C dL_law_1311 rfl ?_
              obtain ⟨hv1, hv2⟩ := hv
              refine g_if_eq (pc' := 1315) (tgt := 1317) C dL_law_1312 rfl (by decide) (fun c => ?_) (fun c => ?_)
              · have hv := hv1 c
                refine g_goto (tgt := 1505) C dL_law_1317 (by decide) ?_
                refine g_iinc (pc' := 1508) (v := (x4 + (6 : Int32))) (lv' := [(4, .int (x4 + (6 : Int32))), (6, .int r1284), (5, .int r1260), (0, .ref b), (1, .ref (ad 0)), (2, .ref (bd 0)), (3, .ref o)]) C dL_law_1505 rfl rfl rfl (by decide) rfl ?_
                refine g_goto (tgt := 23) C dL_law_1508 (by decide) ?_
                refine g_sub (lv' := [(0, .ref b), (1, .ref (ad 0)), (2, .ref (bd 0)), (3, .ref o), (4, .int (x4 + (6 : Int32)))]) [3, 4, 5, 6, 0] rfl ?_
                exact ih _ _ _ _ _ _ _ _ _ _ _ _ _ _ _ _ _ _ _ _ _ _ _ _ _ _ (by omega) (by omega) hv
              · have hv := hv2 c
                refine g_iconst (pc' := 1316) (v := (0 : Int32)) C dL_law_1315 rfl (by decide) ?_
                exact hv.elim
          · have hv := hv2 c
            refine g_iconst (pc' := 1299) (v := (0 : Int32)) C dL_law_1298 rfl (by decide) ?_
            exact hv.elim
        · have hv := hv.2.2.2.2.2.2.2.2.2.2.2.2.2.2.2.2.2.1 e
          refine g_tabIn (tgt := 1320) (off := 1280) C dL_law_40 (by omega) (by omega) (by rw [e]; rfl) (by decide) ?_
          refine g_aload_n (pc' := 1321) C dL_law_1320 rfl rfl rfl ?_
          refine g_aload_n (pc' := 1322) C dL_law_1321 rfl rfl rfl ?_
          refine g_iload (pc' := 1324) C dL_law_1322 rfl rfl ?_
          refine g_iconst (pc' := 1325) (v := (1 : Int32)) C dL_law_1324 rfl (by decide) ?_
          refine g_iadd (pc' := 1326) C dL_law_1325 rfl ?_
          obtain ⟨hi, hv⟩ := hv
          refine g_sld (pc' := 1327) C hX hbl hbA dL_law_1326 rfl hi ?_
          refine g_aload_n (pc' := 1328) C dL_law_1327 rfl rfl rfl ?_
          refine g_iload (pc' := 1330) C dL_law_1328 rfl rfl ?_
          refine g_iconst (pc' := 1331) (v := (2 : Int32)) C dL_law_1330 rfl (by decide) ?_
          refine g_iadd (pc' := 1332) C dL_law_1331 rfl ?_
          obtain ⟨hi, hv⟩ := hv
          refine g_sld (pc' := 1333) C hX hbl hbA dL_law_1332 rfl hi ?_
          refine g_aload_n (pc' := 1334) C dL_law_1333 rfl rfl rfl ?_
          refine g_iload (pc' := 1336) C dL_law_1334 rfl rfl ?_
          refine g_iconst (pc' := 1337) (v := (3 : Int32)) C dL_law_1336 rfl (by decide) ?_
          refine g_iadd (pc' := 1338) C dL_law_1337 rfl ?_
          obtain ⟨hi, hv⟩ := hv
          refine g_sld (pc' := 1339) C hX hbl hbA dL_law_1338 rfl hi ?_
          refine g_aload_n (pc' := 1340) C dL_law_1339 rfl rfl rfl ?_
          refine cfH (pc' := 1343) C (run_SH (rest := []) C lk_L_138 (mtL_yearByLeaves hfl hv) ⟨by decide, by decide⟩ rfl rfl (Nat.le_of_ble_eq_true rfl) ⟨by rw [hR]; show _ ≤ 1063; omega, by rw [hR]; show _ ≤ 11476; omega⟩ dL_law_1340) rfl [0, 1, 2, 3, 4, 5, 6, 7, 8, 9, 10, 11, 12, 22] [13, 14, 15, 16, 17, 18, 19, 20, 21] [9, 10, 11, 12, 13, 14, 15, 16, 17, 18, 19, 20, 21, 0, 1, 2, 3, 4, 5, 6, 7, 8, 22] nd_LH di_LH (fun u1340 => wL γ ad bd o seen cnt pwc par amt held clos seW seS leW leS pl msn thr mpar mcel mhel mclo msea mwei msha mmon u1340) rfl rfl (fun _ => rfl) (fun r1340 u1340 hv => ?_)
          refine g_istore (pc' := 1345) (lv' := [(5, .int r1340), (0, .ref b), (1, .ref (ad 0)), (2, .ref (bd 0)), (3, .ref o), (4, .int x4)]) C dL_law_1343 rfl (by decide) rfl ?_
          refine g_aload_n (pc' := 1346) C dL_law_1345 rfl rfl rfl ?_
          refine g_aload_n (pc' := 1347) C dL_law_1346 rfl rfl rfl ?_
          refine g_iload (pc' := 1349) C dL_law_1347 rfl rfl ?_
          refine g_iconst (pc' := 1350) (v := (1 : Int32)) C dL_law_1349 rfl (by decide) ?_
          refine g_iadd (pc' := 1351) C dL_law_1350 rfl ?_
          obtain ⟨hi, hv⟩ := hv
          refine g_sld (pc' := 1352) C hX hbl hbA dL_law_1351 rfl hi ?_
          refine g_aload_n (pc' := 1353) C dL_law_1352 rfl rfl rfl ?_
          refine g_iload (pc' := 1355) C dL_law_1353 rfl rfl ?_
          refine g_iconst (pc' := 1356) (v := (2 : Int32)) C dL_law_1355 rfl (by decide) ?_
          refine g_iadd (pc' := 1357) C dL_law_1356 rfl ?_
          obtain ⟨hi, hv⟩ := hv
          refine g_sld (pc' := 1358) C hX hbl hbA dL_law_1357 rfl hi ?_
          refine g_aload_n (pc' := 1359) C dL_law_1358 rfl rfl rfl ?_
          refine g_iload (pc' := 1361) C dL_law_1359 rfl rfl ?_
          refine g_iconst (pc' := 1362) (v := (3 : Int32)) C dL_law_1361 rfl (by decide) ?_
          refine g_iadd (pc' := 1363) C dL_law_1362 rfl ?_
          obtain ⟨hi, hv⟩ := hv
          refine g_sld (pc' := 1364) C hX hbl hbA dL_law_1363 rfl hi ?_
          refine cfI (pc' := 1367) C (run_VI (rest := []) C lk_L_140 (mtX4_yearByLeaves hv) ⟨by decide, by decide⟩ rfl rfl rfl rfl (Nat.le_of_ble_eq_true rfl) ⟨by rw [hR]; show _ ≤ 1063; omega, by rw [hR]; show _ ≤ 11476; omega⟩ dL_law_1364) rfl [13, 14, 15, 16, 17, 18, 19, 20, 21] [0, 1, 2, 3, 4, 5, 6, 7, 8, 9, 10, 11, 12, 22] [0, 1, 2, 3, 4, 5, 6, 7, 8, 9, 10, 11, 12, 14, 15, 16, 17, 18, 19, 20, 21, 22, 13] nd_LM di_LM (fun u1364 => wL γ ad bd o seen cnt pwc par amt held clos seW seS leW leS pl msn u1364 mpar mcel mhel mclo msea mwei msha mmon u1340) rfl rfl (fun _ => rfl) (fun r1364 u1364 hv => ?_)
          refine g_istore (pc' := 1369) (lv' := [(6, .int r1364), (5, .int r1340), (0, .ref b), (1, .ref (ad 0)), (2, .ref (bd 0)), (3, .ref o), (4, .int x4)]) C dL_law_1367 rfl (by decide) rfl ?_
          refine g_aload_n (pc' := 1370) C dL_law_1369 rfl rfl rfl ?_
          refine cfI (pc' := 1373) C (run_VI (rest := []) C lk_L_83 (mtX4_thrown hv) ⟨by decide, by decide⟩ rfl rfl rfl rfl (Nat.le_of_ble_eq_true rfl) ⟨by rw [hR]; show _ ≤ 1063; omega, by rw [hR]; show _ ≤ 11476; omega⟩ dL_law_1370) rfl [13, 14, 15, 16, 17, 18, 19, 20, 21] [0, 1, 2, 3, 4, 5, 6, 7, 8, 9, 10, 11, 12, 22] [0, 1, 2, 3, 4, 5, 6, 7, 8, 9, 10, 11, 12, 14, 15, 16, 17, 18, 19, 20, 21, 22, 13] nd_LM di_LM (fun u1370 => wL γ ad bd o seen cnt pwc par amt held clos seW seS leW leS pl msn u1364 mpar mcel mhel mclo msea mwei msha mmon u1340) rfl rfl (fun _ => rfl) (fun r1370 u1370 hv => ?_)
          refine g_iload (pc' := 1375) C dL_law_1373 rfl rfl ?_
          obtain ⟨hv1, hv2⟩ := hv
          refine g_icmp_eq (pc' := 1378) (tgt := 1380) C dL_law_1375 rfl (by decide) (fun c => ?_) (fun c => ?_)
          · have hv := hv1 c
            refine g_iload (pc' := 1382) C dL_law_1380 rfl rfl ?_
            obtain ⟨hv1, hv2⟩ := hv
            refine g_if_ne (pc' := 1385) (tgt := 1397) C dL_law_1382 rfl (by decide) (fun c => ?_) (fun c => ?_)
            · have hv := hv1 c
              refine g_goto (tgt := 1505) C dL_law_1397 (by decide) ?_
              refine g_iinc (pc' := 1508) (v := (x4 + (6 : Int32))) (lv' := [(4, .int (x4 + (6 : Int32))), (6, .int r1364), (5, .int r1340), (0, .ref b), (1, .ref (ad 0)), (2, .ref (bd 0)), (3, .ref o)]) C dL_law_1505 rfl rfl rfl (by decide) rfl ?_
              refine g_goto (tgt := 23) C dL_law_1508 (by decide) ?_
              refine g_sub (lv' := [(0, .ref b), (1, .ref (ad 0)), (2, .ref (bd 0)), (3, .ref o), (4, .int (x4 + (6 : Int32)))]) [3, 4, 5, 6, 0] rfl ?_
              exact ih _ _ _ _ _ _ _ _ _ _ _ _ _ _ _ _ _ _ _ _ _ _ _ _ _ _ (by omega) (by omega) hv
            · have hv := hv2 c
              refine g_aload_n (pc' := 1386) C dL_law_1385 rfl rfl rfl ?_
              refine g_iconst (pc' := 1387) (v := (0 : Int32)) C dL_law_1386 rfl (by decide) ?_
              obtain ⟨hi, hv⟩ := hv
              refine g_lald (pc' := 1388) C dL_law_1387 rfl 22 rfl hi ?_
              refine g_iload (pc' := 1390) C dL_law_1388 rfl rfl ?_
              refine g_i2l (pc' := 1391) C dL_law_1390 rfl ?_
              refine g_lcmp (pc' := 1392) C dL_law_1391 rfl ?_
              obtain ⟨hv1, hv2⟩ := hv
              refine g_if_eq (pc' := 1395) (tgt := 1397) C dL_law_1392 rfl (by decide) (fun c => ?_) (fun c => ?_)
              · have hv := hv1 c
                refine g_goto (tgt := 1505) C dL_law_1397 (by decide) ?_
                refine g_iinc (pc' := 1508) (v := (x4 + (6 : Int32))) (lv' := [(4, .int (x4 + (6 : Int32))), (6, .int r1364), (5, .int r1340), (0, .ref b), (1, .ref (ad 0)), (2, .ref (bd 0)), (3, .ref o)]) C dL_law_1505 rfl rfl rfl (by decide) rfl ?_
                refine g_goto (tgt := 23) C dL_law_1508 (by decide) ?_
                refine g_sub (lv' := [(0, .ref b), (1, .ref (ad 0)), (2, .ref (bd 0)), (3, .ref o), (4, .int (x4 + (6 : Int32)))]) [3, 4, 5, 6, 0] rfl ?_
                exact ih _ _ _ _ _ _ _ _ _ _ _ _ _ _ _ _ _ _ _ _ _ _ _ _ _ _ (by omega) (by omega) hv
              · have hv := hv2 c
                refine g_iconst (pc' := 1396) (v := (0 : Int32)) C dL_law_1395 rfl (by decide) ?_
                exact hv.elim
          · have hv := hv2 c
            refine g_iconst (pc' := 1379) (v := (0 : Int32)) C dL_law_1378 rfl (by decide) ?_
            exact hv.elim
        · have hv := hv.2.2.2.2.2.2.2.2.2.2.2.2.2.2.2.2.2.2.1 e
          refine g_tabIn (tgt := 1400) (off := 1360) C dL_law_40 (by omega) (by omega) (by rw [e]; rfl) (by decide) ?_
          refine g_aload_n (pc' := 1401) C dL_law_1400 rfl rfl rfl ?_
          refine cfI (pc' := 1404) C (run_VI (rest := []) C lk_L_141 (mtX3_filled hv) ⟨by decide, by decide⟩ rfl rfl rfl rfl (Nat.le_of_ble_eq_true rfl) ⟨by rw [hR]; show _ ≤ 1063; omega, by rw [hR]; show _ ≤ 11476; omega⟩ dL_law_1401) rfl [0, 1, 2, 3, 4, 5, 6, 7, 8, 9, 10, 11, 12] [13, 14, 15, 16, 17, 18, 19, 20, 21, 22] [10, 11, 12, 13, 14, 15, 16, 17, 18, 19, 20, 21, 22, 0, 1, 2, 3, 4, 5, 6, 7, 8, 9] nd_LB di_LB (fun u1401 => wL γ ad bd o seen cnt pwc par amt held clos seW seS leW leS pl msn thr mpar mcel mhel mclo msea mwei msha mmon out) rfl rfl (fun _ => rfl) (fun r1401 u1401 hv => ?_)
          refine g_aload_n (pc' := 1405) C dL_law_1404 rfl rfl rfl ?_
          refine cfI (pc' := 1408) C (run_VI (rest := [.int r1401]) C lk_L_144 (mtX4_filled hv) ⟨by decide, by decide⟩ rfl rfl rfl rfl (Nat.le_of_ble_eq_true rfl) ⟨by rw [hR]; show _ ≤ 1063; omega, by rw [hR]; show _ ≤ 11476; omega⟩ dL_law_1405) rfl [13, 14, 15, 16, 17, 18, 19, 20, 21] [0, 1, 2, 3, 4, 5, 6, 7, 8, 9, 10, 11, 12, 22] [0, 1, 2, 3, 4, 5, 6, 7, 8, 9, 10, 11, 12, 14, 15, 16, 17, 18, 19, 20, 21, 22, 13] nd_LM di_LM (fun u1405 => wL γ ad bd o seen cnt pwc par amt held clos seW seS leW leS pl msn u1405 mpar mcel mhel mclo msea mwei msha mmon out) rfl rfl (fun _ => rfl) (fun r1405 u1405 hv => ?_)
          obtain ⟨hv1, hv2⟩ := hv
          refine g_icmp_eq (pc' := 1411) (tgt := 1505) C dL_law_1408 rfl (by decide) (fun c => ?_) (fun c => ?_)
          · have hv := hv1 c
            refine g_iinc (pc' := 1508) (v := (x4 + (6 : Int32))) (lv' := [(4, .int (x4 + (6 : Int32))), (0, .ref b), (1, .ref (ad 0)), (2, .ref (bd 0)), (3, .ref o)]) C dL_law_1505 rfl rfl rfl (by decide) rfl ?_
            refine g_goto (tgt := 23) C dL_law_1508 (by decide) ?_
            refine g_sub (lv' := [(0, .ref b), (1, .ref (ad 0)), (2, .ref (bd 0)), (3, .ref o), (4, .int (x4 + (6 : Int32)))]) [1, 2, 3, 4, 0] rfl ?_
            exact ih _ _ _ _ _ _ _ _ _ _ _ _ _ _ _ _ _ _ _ _ _ _ _ _ _ _ (by omega) (by omega) hv
          · have hv := hv2 c
            refine g_iconst (pc' := 1412) (v := (0 : Int32)) C dL_law_1411 rfl (by decide) ?_
            exact hv.elim
        · have hv := hv.2.2.2.2.2.2.2.2.2.2.2.2.2.2.2.2.2.2.2 e
          refine g_tabIn (tgt := 1413) (off := 1373) C dL_law_40 (by omega) (by omega) (by rw [e]; rfl) (by decide) ?_
          refine g_aload_n (pc' := 1414) C dL_law_1413 rfl rfl rfl ?_
          refine g_aload_n (pc' := 1415) C dL_law_1414 rfl rfl rfl ?_
          refine g_iload (pc' := 1417) C dL_law_1415 rfl rfl ?_
          refine g_iconst (pc' := 1418) (v := (1 : Int32)) C dL_law_1417 rfl (by decide) ?_
          refine g_iadd (pc' := 1419) C dL_law_1418 rfl ?_
          obtain ⟨hi, hv⟩ := hv
          refine g_sld (pc' := 1420) C hX hbl hbA dL_law_1419 rfl hi ?_
          refine g_aload_n (pc' := 1421) C dL_law_1420 rfl rfl rfl ?_
          refine g_iload (pc' := 1423) C dL_law_1421 rfl rfl ?_
          refine g_iconst (pc' := 1424) (v := (2 : Int32)) C dL_law_1423 rfl (by decide) ?_
          refine g_iadd (pc' := 1425) C dL_law_1424 rfl ?_
          obtain ⟨hi, hv⟩ := hv
          refine g_sld (pc' := 1426) C hX hbl hbA dL_law_1425 rfl hi ?_
          refine g_aload_n (pc' := 1427) C dL_law_1426 rfl rfl rfl ?_
          refine g_iload (pc' := 1429) C dL_law_1427 rfl rfl ?_
          refine g_iconst (pc' := 1430) (v := (3 : Int32)) C dL_law_1429 rfl (by decide) ?_
          refine g_iadd (pc' := 1431) C dL_law_1430 rfl ?_
          obtain ⟨hi, hv⟩ := hv
          refine g_sld (pc' := 1432) C hX hbl hbA dL_law_1431 rfl hi ?_
          refine g_aload_n (pc' := 1433) C dL_law_1432 rfl rfl rfl ?_
          refine g_iload (pc' := 1435) C dL_law_1433 rfl rfl ?_
          refine g_iconst (pc' := 1436) (v := (4 : Int32)) C dL_law_1435 rfl (by decide) ?_
          refine g_iadd (pc' := 1437) C dL_law_1436 rfl ?_
          obtain ⟨hi, hv⟩ := hv
          refine g_sld (pc' := 1438) C hX hbl hbA dL_law_1437 rfl hi ?_
          refine g_aload_n (pc' := 1439) C dL_law_1438 rfl rfl rfl ?_
          refine cfH (pc' := 1442) C (run_SH (rest := []) C lk_L_145 (mtL_gap hfl hv) ⟨by decide, by decide⟩ rfl rfl (Nat.le_of_ble_eq_true rfl) ⟨by rw [hR]; show _ ≤ 1063; omega, by rw [hR]; show _ ≤ 11476; omega⟩ dL_law_1439) rfl [0, 1, 2, 3, 4, 5, 6, 7, 8, 9, 10, 11, 12, 22] [13, 14, 15, 16, 17, 18, 19, 20, 21] [9, 10, 11, 12, 13, 14, 15, 16, 17, 18, 19, 20, 21, 0, 1, 2, 3, 4, 5, 6, 7, 8, 22] nd_LH di_LH (fun u1439 => wL γ ad bd o seen cnt pwc par amt held clos seW seS leW leS pl msn thr mpar mcel mhel mclo msea mwei msha mmon u1439) rfl rfl (fun _ => rfl) (fun r1439 u1439 hv => ?_)
          refine g_istore (pc' := 1444) (lv' := [(5, .int r1439), (0, .ref b), (1, .ref (ad 0)), (2, .ref (bd 0)), (3, .ref o), (4, .int x4)]) C dL_law_1442 rfl (by decide) rfl ?_
          refine g_aload_n (pc' := 1445) C dL_law_1444 rfl rfl rfl ?_
          refine g_aload_n (pc' := 1446) C dL_law_1445 rfl rfl rfl ?_
          refine g_iload (pc' := 1448) C dL_law_1446 rfl rfl ?_
          refine g_iconst (pc' := 1449) (v := (1 : Int32)) C dL_law_1448 rfl (by decide) ?_
          refine g_iadd (pc' := 1450) C dL_law_1449 rfl ?_
          obtain ⟨hi, hv⟩ := hv
          refine g_sld (pc' := 1451) C hX hbl hbA dL_law_1450 rfl hi ?_
          refine g_aload_n (pc' := 1452) C dL_law_1451 rfl rfl rfl ?_
          refine g_iload (pc' := 1454) C dL_law_1452 rfl rfl ?_
          refine g_iconst (pc' := 1455) (v := (2 : Int32)) C dL_law_1454 rfl (by decide) ?_
          refine g_iadd (pc' := 1456) C dL_law_1455 rfl ?_
          obtain ⟨hi, hv⟩ := hv
          refine g_sld (pc' := 1457) C hX hbl hbA dL_law_1456 rfl hi ?_
          refine g_aload_n (pc' := 1458) C dL_law_1457 rfl rfl rfl ?_
          refine g_iload (pc' := 1460) C dL_law_1458 rfl rfl ?_
          refine g_iconst (pc' := 1461) (v := (3 : Int32)) C dL_law_1460 rfl (by decide) ?_
          refine g_iadd (pc' := 1462) C dL_law_1461 rfl ?_
          obtain ⟨hi, hv⟩ := hv
          refine g_sld (pc' := 1463) C hX hbl hbA dL_law_1462 rfl hi ?_
          refine g_aload_n (pc' := 1464) C dL_law_1463 rfl rfl rfl ?_
          refine g_iload (pc' := 1466) C dL_law_1464 rfl rfl ?_
          refine g_iconst (pc' := 1467) (v := (4 : Int32)) C dL_law_1466 rfl (by decide) ?_
          refine g_iadd (pc' := 1468) C dL_law_1467 rfl ?_
          obtain ⟨hi, hv⟩ := hv
          refine g_sld (pc' := 1469) C hX hbl hbA dL_law_1468 rfl hi ?_
          refine cfI (pc' := 1472) C (run_VI (rest := []) C lk_L_147 (mtX4_gap hv) ⟨by decide, by decide⟩ rfl rfl rfl rfl (Nat.le_of_ble_eq_true rfl) ⟨by rw [hR]; show _ ≤ 1063; omega, by rw [hR]; show _ ≤ 11476; omega⟩ dL_law_1469) rfl [13, 14, 15, 16, 17, 18, 19, 20, 21] [0, 1, 2, 3, 4, 5, 6, 7, 8, 9, 10, 11, 12, 22] [0, 1, 2, 3, 4, 5, 6, 7, 8, 9, 10, 11, 12, 14, 15, 16, 17, 18, 19, 20, 21, 22, 13] nd_LM di_LM (fun u1469 => wL γ ad bd o seen cnt pwc par amt held clos seW seS leW leS pl msn u1469 mpar mcel mhel mclo msea mwei msha mmon u1439) rfl rfl (fun _ => rfl) (fun r1469 u1469 hv => ?_)
          refine g_istore (pc' := 1474) (lv' := [(6, .int r1469), (5, .int r1439), (0, .ref b), (1, .ref (ad 0)), (2, .ref (bd 0)), (3, .ref o), (4, .int x4)]) C dL_law_1472 rfl (by decide) rfl ?_
          refine g_aload_n (pc' := 1475) C dL_law_1474 rfl rfl rfl ?_
          refine cfI (pc' := 1478) C (run_VI (rest := []) C lk_L_83 (mtX4_thrown hv) ⟨by decide, by decide⟩ rfl rfl rfl rfl (Nat.le_of_ble_eq_true rfl) ⟨by rw [hR]; show _ ≤ 1063; omega, by rw [hR]; show _ ≤ 11476; omega⟩ dL_law_1475) rfl [13, 14, 15, 16, 17, 18, 19, 20, 21] [0, 1, 2, 3, 4, 5, 6, 7, 8, 9, 10, 11, 12, 22] [0, 1, 2, 3, 4, 5, 6, 7, 8, 9, 10, 11, 12, 14, 15, 16, 17, 18, 19, 20, 21, 22, 13] nd_LM di_LM (fun u1475 => wL γ ad bd o seen cnt pwc par amt held clos seW seS leW leS pl msn u1469 mpar mcel mhel mclo msea mwei msha mmon u1439) rfl rfl (fun _ => rfl) (fun r1475 u1475 hv => ?_)
          refine g_iload (pc' := 1480) C dL_law_1478 rfl rfl ?_
          obtain ⟨hv1, hv2⟩ := hv
          refine g_icmp_eq (pc' := 1483) (tgt := 1485) C dL_law_1480 rfl (by decide) (fun c => ?_) (fun c => ?_)
          · have hv := hv1 c
            refine g_iload (pc' := 1487) C dL_law_1485 rfl rfl ?_
            obtain ⟨hv1, hv2⟩ := hv
            refine g_if_ne (pc' := 1490) (tgt := 1502) C dL_law_1487 rfl (by decide) (fun c => ?_) (fun c => ?_)
            · have hv := hv1 c
              refine g_goto (tgt := 1505) C dL_law_1502 (by decide) ?_
              refine g_iinc (pc' := 1508) (v := (x4 + (6 : Int32))) (lv' := [(4, .int (x4 + (6 : Int32))), (6, .int r1469), (5, .int r1439), (0, .ref b), (1, .ref (ad 0)), (2, .ref (bd 0)), (3, .ref o)]) C dL_law_1505 rfl rfl rfl (by decide) rfl ?_
              refine g_goto (tgt := 23) C dL_law_1508 (by decide) ?_
              refine g_sub (lv' := [(0, .ref b), (1, .ref (ad 0)), (2, .ref (bd 0)), (3, .ref o), (4, .int (x4 + (6 : Int32)))]) [3, 4, 5, 6, 0] rfl ?_
              exact ih _ _ _ _ _ _ _ _ _ _ _ _ _ _ _ _ _ _ _ _ _ _ _ _ _ _ (by omega) (by omega) hv
            · have hv := hv2 c
              refine g_aload_n (pc' := 1491) C dL_law_1490 rfl rfl rfl ?_
              refine g_iconst (pc' := 1492) (v := (0 : Int32)) C dL_law_1491 rfl (by decide) ?_
              obtain ⟨hi, hv⟩ := hv
              refine g_lald (pc' := 1493) C dL_law_1492 rfl 22 rfl hi ?_
              refine g_iload (pc' := 1495) C dL_law_1493 rfl rfl ?_
              refine g_i2l (pc' := 1496) C dL_law_1495 rfl ?_
              refine g_lcmp (pc' := 1497) C dL_law_1496 rfl ?_
              obtain ⟨hv1, hv2⟩ := hv
              refine g_if_eq (pc' := 1500) (tgt := 1502) C dL_law_1497 rfl (by decide) (fun c => ?_) (fun c => ?_)
              · have hv := hv1 c
                refine g_goto (tgt := 1505) C dL_law_1502 (by decide) ?_
                refine g_iinc (pc' := 1508) (v := (x4 + (6 : Int32))) (lv' := [(4, .int (x4 + (6 : Int32))), (6, .int r1469), (5, .int r1439), (0, .ref b), (1, .ref (ad 0)), (2, .ref (bd 0)), (3, .ref o)]) C dL_law_1505 rfl rfl rfl (by decide) rfl ?_
                refine g_goto (tgt := 23) C dL_law_1508 (by decide) ?_
                refine g_sub (lv' := [(0, .ref b), (1, .ref (ad 0)), (2, .ref (bd 0)), (3, .ref o), (4, .int (x4 + (6 : Int32)))]) [3, 4, 5, 6, 0] rfl ?_
                exact ih _ _ _ _ _ _ _ _ _ _ _ _ _ _ _ _ _ _ _ _ _ _ _ _ _ _ (by omega) (by omega) hv
              · have hv := hv2 c
                refine g_iconst (pc' := 1501) (v := (0 : Int32)) C dL_law_1500 rfl (by decide) ?_
                exact hv.elim
          · have hv := hv2 c
            refine g_iconst (pc' := 1484) (v := (0 : Int32)) C dL_law_1483 rfl (by decide) ?_
            exact hv.elim
