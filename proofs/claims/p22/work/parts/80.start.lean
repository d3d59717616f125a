/-! the law from its entry -/
set_option maxRecDepth 50000 in
theorem xw_all : ∀ w ∈ exW, w ∈ lw_tbl := by
  intro w hw
  simp only [exW, List.mem_cons, List.not_mem_nil, or_false] at hw
  rcases hw with rfl | rfl | rfl | rfl | rfl | rfl | rfl | rfl | rfl | rfl | rfl
  · exact List.mem_of_getElem? (i := 32) rfl
  · exact List.mem_of_getElem? (i := 49) rfl
  · exact List.mem_of_getElem? (i := 59) rfl
  · exact List.mem_of_getElem? (i := 281) rfl
  · exact List.mem_of_getElem? (i := 188) rfl
  · exact List.mem_of_getElem? (i := 120) rfl
  · exact List.mem_of_getElem? (i := 122) rfl
  · exact List.mem_of_getElem? (i := 124) rfl
  · exact List.mem_of_getElem? (i := 118) rfl
  · exact List.mem_of_getElem? (i := 232) rfl
  · exact List.mem_of_getElem? (i := 209) rfl
set_option maxRecDepth 50000 in
theorem xs_all : ∀ q ∈ exS, Cond.stringRef RX3 q.1 q.2 ∈ lw_tbl := by
  intro q hq
  simp only [exS, List.mem_cons, List.not_mem_nil, or_false] at hq
  rcases hq with rfl | rfl | rfl | rfl | rfl | rfl | rfl | rfl | rfl | rfl | rfl | rfl | rfl | rfl | rfl | rfl
  · exact List.mem_of_getElem? (i := 342) rfl
  · exact List.mem_of_getElem? (i := 351) rfl
  · exact List.mem_of_getElem? (i := 371) rfl
  · exact List.mem_of_getElem? (i := 425) rfl
  · exact List.mem_of_getElem? (i := 433) rfl
  · exact List.mem_of_getElem? (i := 434) rfl
  · exact List.mem_of_getElem? (i := 268) rfl
  · exact List.mem_of_getElem? (i := 391) rfl
  · exact List.mem_of_getElem? (i := 396) rfl
  · exact List.mem_of_getElem? (i := 253) rfl
  · exact List.mem_of_getElem? (i := 157) rfl
  · exact List.mem_of_getElem? (i := 276) rfl
  · exact List.mem_of_getElem? (i := 366) rfl
  · exact List.mem_of_getElem? (i := 198) rfl
  · exact List.mem_of_getElem? (i := 239) rfl
  · exact List.mem_of_getElem? (i := 216) rfl
set_option maxRecDepth 50000 in
theorem xl_UNASSIGNED_STACK : Cond.laysStatic Bundle.tN "UNASSIGNED_STACK" Bundle.steD ∈ lw_tbl := List.mem_of_getElem? (i := 143) rfl
set_option maxRecDepth 50000 in
theorem xn_UNASSIGNED_STACK : Cond.isRef (.static Bundle.tN "UNASSIGNED_STACK" Bundle.steD) ∈ flatC (Jvm.Cond.and given_1 narrow_1) := by decide +kernel
set_option maxRecDepth 50000 in
theorem xl_SUPPRESSED_SENTINEL : Cond.laysStatic Bundle.tN "SUPPRESSED_SENTINEL" Bundle.listD ∈ lw_tbl := List.mem_of_getElem? (i := 145) rfl
set_option maxRecDepth 50000 in
theorem xn_SUPPRESSED_SENTINEL : Cond.isRef (.static Bundle.tN "SUPPRESSED_SENTINEL" Bundle.listD) ∈ flatC (Jvm.Cond.and given_1 narrow_1) := by decide +kernel
set_option maxRecDepth 50000 in
theorem xi_T : Cond.initialized Bundle.tN ∈ lw_tbl := List.mem_of_getElem? (i := 15) rfl
set_option maxRecDepth 50000 in
theorem xc_all : ∀ q ∈ exN, Cond.not (.castable q.1 q.2) ∈ flatC (Jvm.Cond.and given_1 narrow_1) := by decide +kernel
set_option maxRecDepth 50000 in
theorem xt_0 : Cond.instantiable RX0 1 ∈ lw_tbl := (List.mem_filter.mp in_X0).1
set_option maxRecDepth 50000 in
theorem xt_1 : Cond.instantiable RX1 2 ∈ lw_tbl := (List.mem_filter.mp in_X1).1
set_option maxRecDepth 50000 in
theorem xt_2 : Cond.instantiable RX2 3 ∈ lw_tbl := (List.mem_filter.mp in_X2).1
set_option maxRecDepth 50000 in
theorem xt_3 : Cond.instantiable RX3 7 ∈ lw_tbl := (List.mem_filter.mp in_X3).1
set_option maxHeartbeats 4000000 in
set_option maxRecDepth 100000 in
theorem law_start {l : Launch} {γ : Gm} {κ : Kx} {xs : Nat → Int32} {b L : Nat} (hL : L ≤ 260) (hfl : l.stackTraces = false) (C : Ok γ κ cL_law 15 RL 11 412) (hX : va_X b L xs κ.s κ.s.heap) (hbl : b < κ.s.heap.size) (hbA : ¬ κ.A b) (hR : κ.R = room_1) (RT : RtL l γ κ) : G l γ κ [] [(0, .ref b)] 0 0 [] 0 := by
  refine g_new (pc' := 3) (ci := 3) C tyX3 tyX3_ok aX3 cl_L_10 in_X3 ini_X3 rfl [.null, .null, .null, .null, .null, .null, .int 0] (fun j hj => by rcases (show j = 0 ∨ j = 1 ∨ j = 2 ∨ j = 3 ∨ j = 4 ∨ j = 5 ∨ j = 6 by omega) with rfl | rfl | rfl | rfl | rfl | rfl | rfl <;> rfl) (by rw [hR]; exact Nat.le_of_ble_eq_true rfl) (by rw [hR]; exact Nat.le_of_ble_eq_true rfl) dL_law_0 rfl (fun q0 => ?_)
  show G l γ κ [(q0, .inr (3, [.null, .null, .null, .null, .null, .null, .int 0]))] [(0, .ref b)] 1 7 [.ref q0] 3
  refine g_dup (pc' := 4) C dL_law_3 rfl rfl ?_
  refine aftV (pc' := 7) C (run_IV (rest := [.ref q0]) C lk_L_52 rfl (mtX3_init) ⟨by decide, by decide⟩ rfl rfl (Nat.le_of_ble_eq_true rfl) ⟨(by rw [hR]; exact Nat.le_of_ble_eq_true rfl), (by rw [hR]; exact Nat.le_of_ble_eq_true rfl)⟩ dL_law_4) rfl [0] [] [0, 1, 2, 3, 4, 5, 6, 7, 8, 9, 10, 11, 12] rfl (wr := []) rfl (by decide) (by decide) (ws1 := fun u4 => [((u4.1 0), .inr (3, [.ref (u4.1 1), .ref (u4.1 2), .ref (u4.1 3), .ref (u4.1 4), .ref (u4.1 5), .ref (u4.1 6), .int 0])), ((u4.1 1), .inr (2, [.ref (u4.1 7), .int 1, .int 0])), ((u4.1 2), .inr (0, [.ref (u4.1 8)])), ((u4.1 3), .inl (γ.2.1, 12, .inl (fun _ => 0))), ((u4.1 4), .inl (γ.2.1, 3, .inl (fun _ => 0))), ((u4.1 5), .inr (1, [.ref (u4.1 9), .ref (u4.1 10)])), ((u4.1 6), .inr (1, [.ref (u4.1 11), .ref (u4.1 12)])), ((u4.1 7), .inl (γ.2.1, 10, .inl (fun _ => 0))), ((u4.1 8), .inl (γ.2.1, 1440, .inl (fun _ => 0))), ((u4.1 9), .inl (γ.2.1, 12, .inl u4.2)), ((u4.1 10), .inl (γ.2.1, 12, .inl (fun _ => 0))), ((u4.1 11), .inl (γ.2.1, 12, .inl (fun _ => 0))), ((u4.1 12), .inl (γ.2.1, 12, .inl (fun _ => 0)))]) (fun _ => rfl) (fun u4 hq4 => ?_)
  show G l γ κ [((u4.1 0), .inr (3, [.ref (u4.1 1), .ref (u4.1 2), .ref (u4.1 3), .ref (u4.1 4), .ref (u4.1 5), .ref (u4.1 6), .int 0])), ((u4.1 1), .inr (2, [.ref (u4.1 7), .int 1, .int 0])), ((u4.1 2), .inr (0, [.ref (u4.1 8)])), ((u4.1 3), .inl (γ.2.1, 12, .inl (fun _ => 0))), ((u4.1 4), .inl (γ.2.1, 3, .inl (fun _ => 0))), ((u4.1 5), .inr (1, [.ref (u4.1 9), .ref (u4.1 10)])), ((u4.1 6), .inr (1, [.ref (u4.1 11), .ref (u4.1 12)])), ((u4.1 7), .inl (γ.2.1, 10, .inl (fun _ => 0))), ((u4.1 8), .inl (γ.2.1, 1440, .inl (fun _ => 0))), ((u4.1 9), .inl (γ.2.1, 12, .inl u4.2)), ((u4.1 10), .inl (γ.2.1, 12, .inl (fun _ => 0))), ((u4.1 11), .inl (γ.2.1, 12, .inl (fun _ => 0))), ((u4.1 12), .inl (γ.2.1, 12, .inl (fun _ => 0)))] [(0, .ref b)] 13 1528 [.ref q0] 7
  obtain ⟨e7, hs7⟩ := hq4
  subst e7
  refine g_astore_n (pc' := 8) (lv' := [(1, .ref (u4.1 0)), (0, .ref b)]) C dL_law_7 rfl rfl (by decide) rfl ?_
  refine g_sub (lv' := [(0, .ref b), (1, .ref (u4.1 0))]) [1, 0] rfl ?_
  show G l γ κ (wB γ u4.1 0 1 0 (fun _ => 0) (fun _ => 0) (fun _ => 0) (fun _ => 0) u4.2 (fun _ => 0) (fun _ => 0) (fun _ => 0)) _ 13 1528 [] 8
  exact wvL_law_J8 hfl C hX hbl hbA hR RT (Nat.le_of_ble_eq_true rfl) (Nat.le_of_ble_eq_true rfl) (pure_main xs L hL u4.2 hs7)
set_option maxHeartbeats 4000000 in
set_option maxRecDepth 100000 in
theorem whole_start {p : Program} {e : Env} {s : State} {m : MethodId} {below : List Frame} {meth : Method} {c : Code} (l : Launch) (hflags : l.flags = flags0) {b L : Nat} {xs : Nat → Int32} (hL : L ≤ 260) (C0 : lw_At p s m meth c b L xs) : W p l e room_1 s m #[Value.ref b] below meth c s.heap [] 0 0 (lw_Z below #[Value.ref b] s) (entryFrame m ([Value.ref b] : List Value).toArray 15) := by
  obtain ⟨hx, hb, hr, hml, hown, hts, hX, hbl, hlocks, hgv⟩ := C0
  have hfl : l.stackTraces = false := by
    simp only [Launch.stackTraces, hflags]
    decide +kernel
  have htA : ∀ w ∈ wsA, w.before #[Value.ref b] s = true := fun w hw => hts w (List.mem_filter.mp hw).1
  obtain ⟨c0, i0, K0⟩ := u_known (C := RX0) (T := TX0) (N := 1) (n := 1) htA aX0 (hts _ xt_0)
  obtain ⟨c1, i1, K1⟩ := u_known (C := RX1) (T := TX1) (N := 2) (n := 2) htA aX1 (hts _ xt_1)
  obtain ⟨c2, i2, K2⟩ := u_known (C := RX2) (T := TX2) (N := 3) (n := 3) htA aX2 (hts _ xt_2)
  obtain ⟨c3, i3, K3⟩ := u_known (C := RX3) (T := TX3) (N := 7) (n := 7) htA aX3 (hts _ xt_3)
  obtain ⟨cI, kI, compI, n1, n2, n3⟩ := Cond.arrayClass_spec (htA _ ac_int)
  obtain ⟨γ, hγ⟩ : ∃ γ : Gm, γ = ((fun k => if k = 0 then c0 else if k = 1 then c1 else if k = 2 then c2 else c3, fun k => if k = 0 then i0 else if k = 1 then i1 else if k = 2 then i2 else i3), cI, cI) := ⟨_, rfl⟩
  have hK : va_K γ.1 vwCl (tyIL γ) s := by
    subst hγ
    refine ⟨fun k q hq => ?_, fun k q hq => ?_⟩
    · match k, hq with
      | 0, hq => cases hq; exact K0
      | 1, hq => cases hq; exact K1
      | 2, hq => cases hq; exact K2
      | 3, hq => cases hq; exact K3
      | k + 4, hq => simp [vwCl] at hq
    · match k, hq with
      | 0, hq => cases hq; exact ⟨fun n z => ⟨fun k h => (by cases h), kI, n2, compI, n3⟩, n1⟩
      | k + 1, hq => simp at hq
  have hn := flat_of_before _ hgv
  have hA0 : ∀ a : Nat, a < s.heap.size → ¬ (fun q : Nat => s.heap.size ≤ q) a := fun a ha => Nat.not_le.mpr ha
  have hE : Ex (fun q : Nat => s.heap.size ≤ q) s s.heap := by
    refine ⟨fun w hw => va_Nw.of (exW_on w hw) (hts _ (xw_all w hw)), fun q hq => ?_, fun q hq => va_Nc.of (hn _ (xc_all q hq)), vx_Zqof (hts _ xl_UNASSIGNED_STACK) (hts _ xi_T) (hn _ xn_UNASSIGNED_STACK) hA0, vx_Zqof (hts _ xl_SUPPRESSED_SENTINEL) (hts _ xi_T) (hn _ xn_SUPPRESSED_SENTINEL) hA0⟩
    have h1 := hts _ (xs_all q hq)
    obtain ⟨cur, _, hcur, -⟩ := Cond.instantiable_spec (hts _ xt_3)
    obtain ⟨_, _, _, sa, -, -, -, -, -, h2⟩ := Cond.stringRef_spec hcur h1
    have h1' : (Cond.stringRef RX3 q.1 q.2).before #[] s = true := h1
    have h2' : (Term.string RX3 q.1).eval #[] s none [] s = some (.ref sa) := h2
    exact ⟨sa, h1', h2'⟩
  obtain ⟨κ, hκ⟩ : ∃ κ : Kx, κ = (p, e, room_1, s, m, #[Value.ref b], below, meth, c, lw_Z below #[Value.ref b] s, fun q => s.heap.size ≤ q) := ⟨_, rfl⟩
  have C : Ok γ κ cL_law 15 RL 11 412 := by
    subst hκ
    exact ⟨hx, hb, hml, hown, htA, hK, fun q h => h, hE, hlocks, Nat.le_refl _, Nat.le_refl _⟩
  have RT : RtL l γ κ := by
    subst hκ
    exact fun ws lv k n pc d hk hn' H locs ls hP hD hS h => va_forget (fun q hq => hS.2.2 q hq) (W.widen hk hn' (lw_ret hx hb hr hlocks d))
  have hl := lv_entry ([.ref b]) (n := 15) (Nat.le_of_ble_eq_true rfl)
  rw [lg_entry_eq]
  generalize (lg_sl ([.ref b]) ++ List.replicate (15 - (lg_sl ([.ref b])).length) Slot.unset).toArray = ls at hl ⊢
  have g := law_start (l := l) (γ := γ) (κ := κ) (xs := xs) (b := b) (L := L) hL hfl C (by subst hκ; exact hX) (by subst hκ; exact hbl) (by subst hκ; exact Nat.not_le.mpr hbl) (by subst hκ; rfl) RT
  subst hκ
  exact g s.heap [] ls (fun k q h => by simp at h) ⟨fun i j p q h => by simp at h, fun k q h => by simp at h⟩ va_S.rf (by show lv_has ls c.maxLocals _; rw [hml]; exact hl)
