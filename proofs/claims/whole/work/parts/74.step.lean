/-! one step of the law -/
def St (c : Nat) (p : Nat → Nat) (h cl : Nat → Nat → Bool) (seen cnt pwc : Int32) (par amt held clos seW leW : Ar) (pl msn : Int32) (mpar mcel mhel mclo msea : Ar) : Prop :=
  RT3 c p cnt pwc par pl mpar ∧ RH h held mhel ∧ RC c p cl clos mclo ∧ RA amt ∧ mcel = amt ∧ RS seW msea ∧ (leW 10 = 0 ∧ leW 11 = 0) ∧ (∃ sn, sn ≤ 12 ∧ seen = nI sn ∧ msn = nI sn)
theorem p_closeMonth {sn : Nat} {thr : Int32} {out : Nat → Int64} {Q : Int32 → (Int32 × (Nat → Int64)) → Prop} {Z : Int32 → (Int32 × (Nat → Int64)) → Int32 → (Int32 × Int32) → Prop} (hs : sn ≤ 12) (hQ : ∀ r u, vX4_closeMonth (nI sn) thr (Z r u) → Q r u) (hZ : ∀ r o r' sn', sn' ≤ 12 → (r = 0 → o 0 = Int32.toInt64 r') → Z r (nI sn', o) r' (nI sn', r)) : vL_closeMonth (nI sn) out Q := by
  by_cases hl : sn < 12
  · have n12 : ¬ nI sn = 12 := fun z => by
      have := (nI_eq (b := 12) (by omega) (by omega)).mp z
      omega
    refine Or.inr (And.intro (fun _ => ⟨in01, hQ _ _ ?_⟩) (fun z => absurd (nI_lt (b := 12) hl (by omega)) z))
    refine And.intro (fun _ => i0' (i0' ?_)) (fun z => absurd z n12)
    rw [nI_1]
    exact hZ _ _ _ _ (by omega) (fun _ => oN)
  · have e : sn = 12 := by omega
    subst e
    refine Or.inl (And.intro (fun z => absurd z (nI_nlt (a := 12) (b := 12) (by omega) (by omega))) (fun _ => ⟨rfl, hQ _ _ ?_⟩))
    refine And.intro (fun z => absurd rfl z) (fun _ => i1' (i1' ?_))
    rw [Int32.add_zero]
    exact hZ _ _ _ _ (by omega) (fun z => absurd z (by decide))
theorem hfin {r r' : Int32} {o : Nat → Int64} {K : Prop} (h : r = 0 → ∃ d : Bool, r' = bi d ∧ o 0 = if d = true then 1 else 0) (hK : K) :
    (r = r → ((¬ r = 0 → K) ∧ (r = 0 → (vp_in 0 1 ∧ ((r' = 0 → ((lg_cmp (o (0 : Int32).toNatClampNeg) 0 = 0 → K) ∧ (¬ lg_cmp (o (0 : Int32).toNatClampNeg) 0 = 0 → False))) ∧ (¬ r' = 0 → ((lg_cmp (o (0 : Int32).toNatClampNeg) 1 = 0 → K) ∧ (¬ lg_cmp (o (0 : Int32).toNatClampNeg) 1 = 0 → False)))))))) ∧ (¬ r = r → False) := by
  have e : (0 : Int32).toNatClampNeg = 0 := by decide
  rw [e]
  refine ⟨fun _ => ⟨fun _ => hK, fun z => ⟨in01, fun w => ⟨fun _ => hK, fun q => q ?_⟩, fun w => ⟨fun _ => hK, fun q => q ?_⟩⟩⟩, fun z => z rfl⟩
  · obtain ⟨d, h1, h2⟩ := h z
    rw [h1] at w
    have := bi0.mp w
    subst this
    rw [h2]
    exact lg_same _
  · obtain ⟨d, h1, h2⟩ := h z
    cases d
    · exact absurd (by rw [h1]; rfl) w
    · rw [h2]
      exact lg_same _
set_option maxHeartbeats 1600000 in
theorem law_L (xs : Nat → Int32) (L : Nat) (hL : L ≤ 3072) : ∀ (n i : Nat), i + n = 513 → 6 * i ≤ L → ∀ (c : Nat) (p : Nat → Nat) (h cl : Nat → Nat → Bool) (seen cnt pwc : Int32) (par amt held clos seW seS leW leS : Ar) (pl msn thr : Int32) (mpar mcel mhel mclo msea mwei msha mmon : Ar) (out : Nat → Int64),
    St c p h cl seen cnt pwc par amt held clos seW leW pl msn mpar mcel mhel mclo msea → vL_law_L23 xs L n (nI (6 * i)) seen cnt pwc par amt held clos seW seS leW leS pl msn thr mpar mcel mhel mclo msea mwei msha mmon out := by
  intro n
  induction n with
  | zero =>
    intro i h1 h2
    omega
  | succ n ih =>
    intro i h1 h2 c p h cl seen cnt pwc par amt held clos seW seS leW leS pl msn thr mpar mcel mhel mclo msea mwei msha mmon out st
    refine And.intro (fun _ => trivial) (fun hg => ?_)
    have h6 : 6 * i + 6 ≤ L := by
      have e : (nI L - nI 6).toInt = (L : Int) - 6 := pk_sub_toInt (by omega) (by omega)
      have e2 := nI_toInt (n := 6 * i) (by omega)
      have hg : ¬ (nI L - nI 6) < nI (6 * i) := hg
      rw [Int32.lt_iff_toInt_lt, e, e2] at hg
      omega
    have v0 : vp_in (nI (6 * i)) L := vp_in_nI (by omega) (by omega)
    have v1 : vp_in (nI (6 * i) + 1) L := by
      show vp_in (nI (6 * i) + nI 1) L
      rw [nI_add]
      exact vp_in_nI (by omega) (by omega)
    have v2 : vp_in (nI (6 * i) + 2) L := by
      show vp_in (nI (6 * i) + nI 2) L
      rw [nI_add]
      exact vp_in_nI (by omega) (by omega)
    have v3 : vp_in (nI (6 * i) + 3) L := by
      show vp_in (nI (6 * i) + nI 3) L
      rw [nI_add]
      exact vp_in_nI (by omega) (by omega)
    have v4 : vp_in (nI (6 * i) + 4) L := by
      show vp_in (nI (6 * i) + nI 4) L
      rw [nI_add]
      exact vp_in_nI (by omega) (by omega)
    have v5 : vp_in (nI (6 * i) + 5) L := by
      show vp_in (nI (6 * i) + nI 5) L
      rw [nI_add]
      exact vp_in_nI (by omega) (by omega)
    have e6 : nI (6 * i) + 6 = nI (6 * (i + 1)) := by
      show nI (6 * i) + nI 6 = _
      rw [nI_add]
      rfl
    have K : ∀ {c : Nat} {p : Nat → Nat} {h cl : Nat → Nat → Bool} {seen cnt pwc : Int32} {par amt held clos seW seS leW leS : Ar} {pl msn thr : Int32} {mpar mcel mhel mclo msea mwei msha mmon : Ar} {out : Nat → Int64},
        St c p h cl seen cnt pwc par amt held clos seW leW pl msn mpar mcel mhel mclo msea → vL_law_L23 xs L n (nI (6 * i) + 6) seen cnt pwc par amt held clos seW seS leW leS pl msn thr mpar mcel mhel mclo msea mwei msha mmon out := by
      intro c p h cl seen cnt pwc par amt held clos seW seS leW leS pl msn thr mpar mcel mhel mclo msea mwei msha mmon out st
      rw [e6]
      exact ih (i + 1) (by omega) (by omega) c p h cl seen cnt pwc par amt held clos seW seS leW leS pl msn thr mpar mcel mhel mclo msea mwei msha mmon out st
    clear ih
    have st0 := st
    obtain ⟨R, H, C, A, em, S, l, sn, hsn, es1, es2⟩ := st
    subst em
    subst es1
    subst es2
    have T : ∃ z, z ≤ 12 ∧ nI sn = nI z ∧ nI sn = nI z := ⟨sn, hsn, rfl, rfl⟩
    refine And.intro v0 (And.intro (fun _ => K st0) (And.intro (fun _ => ?_) (And.intro (fun _ => ?_) (And.intro (fun _ => ?_) (And.intro (fun _ => ?_) (And.intro (fun _ => ?_) (And.intro (fun _ => ?_) (And.intro (fun _ => ?_) (And.intro (fun _ => ?_) (And.intro (fun _ => ?_) (And.intro (fun _ => ?_) (And.intro (fun _ => ?_) (And.intro (fun _ => ?_) (And.intro (fun _ => ?_) (And.intro (fun _ => ?_) (And.intro (fun _ => ?_) (And.intro (fun _ => ?_) (And.intro (fun _ => ?_) (And.intro (fun _ => ?_) (fun _ => ?_))))))))))))))))))))
    · refine And.intro v1 (p_addPlace R H C (fun r u hh => And.intro v1 hh) (fun r hr => ?_) (fun c' p' cnt' pwc' par' pl' mpar' o r' R' C' ho => ?_))
      · exact fin (fun z => (hr z).elim) (K st0)
      · exact fin (fun _ => ho) (K ⟨R', H, C', A, rfl, S, l, T⟩)
    · exact ⟨fun _ => K st0, fun z => z (R.2.1.trans R.2.2.1.symm)⟩
    · refine And.intro v1 (p_leaves R (fun r u hh => And.intro v1 hh) (fun r o r' ho => ?_))
      exact fin ho (K st0)
    · refine And.intro v1 (And.intro v2 (And.intro v3 (And.intro v4 (And.intro v5 (p_set R C A (fun r u hh => And.intro v1 (And.intro v2 (And.intro v3 (And.intro v4 (And.intro v5 hh))))) (fun r g o r' ho A' => ?_))))))
      exact fin ho (K ⟨R, H, C, A', rfl, S, l, T⟩)
    · refine And.intro v1 (And.intro v2 (And.intro v3 (And.intro (fun z => ?_) (fun z => ?_))))
      · refine p_hold (b := false) R H rfl (fun r u hh => And.intro v1 (And.intro v2 (And.intro v3 (And.intro (fun _ => hh) (fun y => absurd z y))))) (fun r g g' h' o r' ho H' => ?_)
        exact hfin ho (K ⟨R, H', C, A, rfl, S, l, T⟩)
      · refine p_hold (b := true) R H rfl (fun r u hh => And.intro v1 (And.intro v2 (And.intro v3 (And.intro (fun y => absurd y z) (fun _ => hh))))) (fun r g g' h' o r' ho H' => ?_)
        exact hfin ho (K ⟨R, H', C, A, rfl, S, l, T⟩)
    · refine And.intro v1 (And.intro v2 (p_setSeason S (fun r u hh => And.intro v1 (And.intro v2 hh)) (fun r g g' o r' ho S' => ?_)))
      exact fin ho (K ⟨R, H, C, A, rfl, S', l, T⟩)
    · refine And.intro v1 (And.intro v2 (And.intro v3 (And.intro v4 (And.intro v5 (p_spread R H C A l.1 l.2 (fun r u hh => And.intro v1 (And.intro v2 (And.intro v3 (And.intro v4 (And.intro v5 hh))))) (fun r g lw ls o r' mw ms ho A' e1 e2 => ?_))))))
      exact fin ho (K ⟨R, H, C, A', rfl, S, ⟨e1, e2⟩, T⟩)
    · refine And.intro v1 (And.intro v2 (And.intro v3 (p_spreadYear R H C A S l.1 l.2 (fun r u hh => And.intro v1 (And.intro v2 (And.intro v3 hh))) (fun r g ss lw ls o r' mw ms mm ho A' e1 e2 => ?_))))
      exact fin ho (K ⟨R, H, C, A', rfl, S, ⟨e1, e2⟩, T⟩)
    · refine And.intro v1 (And.intro v2 (p_copy R C A (fun r u hh => And.intro v1 (And.intro v2 hh)) (fun r g o r' ho A' => ?_)))
      exact fin ho (K ⟨R, H, C, A', rfl, S, l, T⟩)
    · refine And.intro v1 (And.intro v2 (p_handIn R C (fun r u hh => And.intro v1 (And.intro v2 hh)) (fun r g g' cl' o r' ho C' => ?_)))
      exact fin ho (K ⟨R, H, C', A, rfl, S, l, T⟩)
    · refine And.intro v1 (And.intro v2 (p_takeBack R C (fun r u hh => And.intro v1 (And.intro v2 hh)) (fun r g g' cl' o r' ho C' => ?_)))
      exact fin ho (K ⟨R, H, C', A, rfl, S, l, T⟩)
    · refine And.intro v1 (And.intro v2 (And.intro v3 (And.intro v4 (p_see R A (fun r u hh => And.intro v1 (And.intro v2 (And.intro v3 (And.intro v4 hh)))) (fun r g o r' ho A' => ?_)))))
      exact fin ho (K ⟨R, H, C, A', rfl, S, l, T⟩)
    · refine p_closeMonth hsn (fun r u hh => hh) (fun r o r' sn' hs' ho => ?_)
      exact fin ho (K ⟨R, H, C, A, rfl, S, l, sn', hs', rfl, rfl⟩)
    · refine And.intro v1 (And.intro v2 (And.intro v3 (And.intro v4 (p_amount R (fun r u hh => And.intro v1 (And.intro v2 (And.intro v3 (And.intro v4 hh)))) (fun r o r' ho => ?_)))))
      exact fin ho (K st0)
    · refine And.intro v1 (And.intro v2 (And.intro v3 (And.intro v4 (p_outlook R T (fun r u hh => And.intro v1 (And.intro v2 (And.intro v3 (And.intro v4 hh)))) (fun r o r' ho => ?_)))))
      exact fin ho (K st0)
    · refine And.intro v1 (And.intro v2 (And.intro v3 (p_year R (fun r u hh => And.intro v1 (And.intro v2 (And.intro v3 hh))) (fun r o r' ho => ?_))))
      exact fin ho (K st0)
    · refine And.intro v1 (And.intro v2 (And.intro v3 (p_yearByLeaves R (fun r u hh => And.intro v1 (And.intro v2 (And.intro v3 hh))) (fun r o r' ho => ?_))))
      exact fin ho (K st0)
    · refine s_countFilled (m_filled (And.intro (fun _ => K st0) (fun z => z rfl)))
    · refine And.intro v1 (And.intro v2 (And.intro v3 (And.intro v4 (p_gap R (fun r u hh => And.intro v1 (And.intro v2 (And.intro v3 (And.intro v4 hh)))) (fun r o r' ho => ?_)))))
      exact fin ho (K st0)
