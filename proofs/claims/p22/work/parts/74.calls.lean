/-! what the reading methods answer, at good arguments -/
def lowN (x : Int32) (n : Nat) : Nat := (x.toBitVec.toNat % 2 ^ 31) % n
theorem lowN_lt (x : Int32) {n : Nat} (h : 0 < n) : lowN x n < n := Nat.mod_lt _ h
theorem g_low {x : Int32} {n : Nat} {Q : Int32 → Prop} (h0 : 0 < n) (hn : n < 2 ^ 31) (q : Q (nI (lowN x n))) : vL_low x (nI n) Q := by
  refine And.intro (nI_ne0 h0 hn) ?_
  rw [pk_and x (m := (2147483647 : Int32)) 31 (by decide), pk_rem (Nat.mod_lt _ (by omega)) h0 hn]
  exact q
section CALLS
variable {c : Nat} {p : Nat → Nat} {cnt pwc pl seen : Int32} {par mpar f : Ar} {v u t a m : Nat} {Q : Int32 → Prop}
theorem g_places (R : RT3 c p cnt pwc par pl mpar) (q : Q (nI c)) : vX3_places cnt Q := by
  obtain rfl := R.2.1
  exact q
theorem g_leaves (R : RT3 c p cnt pwc par pl mpar) (ht : t < c) (q : ∀ x, Bs x (lf p c t) → Q x) : vX3_leaves cnt pwc par (nI t) Q := by
  have hc2 := R.1
  obtain rfl := R.2.1
  exact v_plc hc2.2 ht (s_leavesBelow R ht q)
theorem g_amount (R : RT3 c p cnt pwc par pl mpar) (hv : v < 3) (ht : t < c) (ha : a < 4) (hm : m < 12) (q : Q (am f p c v t a m)) : vX3_amount cnt pwc par f (nI v) (nI t) (nI a) (nI m) Q := by
  have hc2 := R.1
  obtain rfl := R.2.1
  exact v_ver hv (v_plc hc2.2 ht (v_acc ha (v_mon hm (s_leavesBelow R ht (fun x hx => s_sumOver (by omega) ha hm hx q)))))
theorem g_outlook {sn : Nat} (R : RT3 c p cnt pwc par pl mpar) (hs : sn ≤ 12) (hv : v < 3) (ht : t < c) (ha : a < 4) (hm : m < 12) (q1 : m < sn → Q (am f p c 3 t a m)) (q2 : ¬ m < sn → Q (am f p c v t a m)) : vX3_outlook (nI sn) cnt pwc par f (nI v) (nI t) (nI a) (nI m) Q := by
  have hc2 := R.1
  obtain rfl := R.2.1
  by_cases z : m < sn
  · exact v_ver hv (v_plc hc2.2 ht (v_acc ha (v_mon hm (And.intro (fun w => absurd w (nI_ge z (by omega))) (fun _ => s_leavesBelow R ht (fun x hx => s_sumOver (l := 3) (by omega) ha hm hx (q1 z)))))))
  · exact v_ver hv (v_plc hc2.2 ht (v_acc ha (v_mon hm (And.intro (fun _ => s_leavesBelow R ht (fun x hx => s_sumOver (by omega) ha hm hx (q2 z))) (fun w => absurd (nI_le (by omega) (by omega)) w)))))
theorem g_year (R : RT3 c p cnt pwc par pl mpar) (hv : v < 3) (ht : t < c) (ha : a < 4) (q : Q (yr f p c v t a)) : vX3_year cnt pwc par f (nI v) (nI t) (nI a) Q := by
  have hc2 := R.1
  obtain rfl := R.2.1
  exact v_ver hv (v_plc hc2.2 ht (v_acc ha (s_leavesBelow R ht (fun x hx => s_year_L (by omega) ha hx q))))
theorem g_yearBy (R : RT3 c p cnt pwc par pl mpar) (hv : v < 3) (ht : t < c) (ha : a < 4) (q : Q (yr f p c v t a)) : vX3_yearByLeaves cnt pwc par f (nI v) (nI t) (nI a) Q := by
  have hc2 := R.1
  obtain rfl := R.2.1
  exact v_ver hv (v_plc hc2.2 ht (v_acc ha (s_leavesBelow R ht (fun x hx => s_yearBy_L (by omega) ha hx q))))
theorem g_gap {k : Nat} (R : RT3 c p cnt pwc par pl mpar) (hv : v < 3) (hu : u < 3) (ht : t < c) (hk : k < 4) (q : Q (gs f p c v u t k)) : vX3_gap cnt pwc par f (nI v) (nI u) (nI t) (nI k) Q := by
  have hc2 := R.1
  obtain rfl := R.2.1
  exact v_ver hv (v_ver hu (v_plc hc2.2 ht (v_upto (M := 3) (by omega) hk (s_leavesBelow R ht (fun x hx => s_gap_L (by omega) (by omega) hk hx q)))))
theorem g_isLeaf (R : RT3 c p cnt pwc par pl mpar) (ht : t < c) (q0 : hc p c t = true → Q 0) (q1 : hc p c t = false → Q 1) : vL_isLeaf cnt pwc par (nI t) Q := by
  have hc2 := R.1
  have h10 : t < 10 := by omega
  refine g_leaves R ht (fun x hx => ?_)
  cases hl : hc p c t
  · have e : x = (1 : Int32) <<< (nI t &&& 31) := hx.inj (Bs.one h10) (fun k _ => lf_self R.low hc2.2 ht hl k)
    exact And.intro (fun z => absurd e z) (fun _ => q1 hl)
  · have e : ¬ x = (1 : Int32) <<< (nI t &&& 31) := by
      intro e
      subst e
      have h1 := hx.at h10
      rw [(Bs.one h10).at h10, decide_eq_true rfl] at h1
      unfold lf at h1
      rw [hl] at h1
      simp at h1
    exact And.intro (fun _ => q0 hl) (fun z => absurd z e)
theorem g_leaves0 (R : RT3 c p cnt pwc par pl mpar) (ht : t < c) (q : ∀ x : Int32, ¬ x = 0 → Q x) : vX3_leaves cnt pwc par (nI t) Q := by
  have hc2 := R.1
  refine g_leaves R ht (fun x hx => q x (fun e => ?_))
  obtain ⟨k, hk, hl⟩ := lf_ex R.low hc2.2 c t (by omega) ht
  have := hx.eq0.mp e k (by omega)
  rw [hl] at this
  cases this
theorem g_filled (q : ∀ n, n ≤ 1440 → Q (nI n)) : vX3_filled f Q := by
  obtain ⟨n, h1, h2⟩ := sm_01 f 1440
  refine s_countFilled ?_
  rw [h2]
  exact q n h1
theorem g_holds (R : RT3 c p cnt pwc par pl mpar) (A : RA f) (B : RB f) (hv : v < 3) (hu : u < 3) (ht : t < c) (q : Q 1) : vL_holds cnt pwc par f (nI v) (nI u) (nI t) Q := by
  have hc2 := R.1
  have J138 : ∀ x5, x5 = gs f p c v u t 0 → vL_holds_J138 cnt pwc par f (nI v) (nI u) (nI t) x5 1 Q := by
    intro x5 e
    refine i1 (g_year (a := 3) R hu ht (by omega) (g_year (a := 3) R hv ht (by omega) ?_))
    refine And.intro (fun z => absurd (by rw [e, gs_diff]) z) (fun _ => ?_)
    refine g_gap (k := 0) R hv hv ht (by omega) ?_
    rw [gs_same (fun _ _ _ _ _ _ => rfl)]
    exact i0' q
  have J87 : vL_holds_J87 cnt pwc par f (nI v) (nI u) (nI t) 1 Q := by
    refine g_gap (k := 0) R hv hu ht (by omega) (i1 ?_)
    refine g_gap (k := 1) R hv hu ht (by omega) (g_gap (k := 2) R hv hu ht (by omega) (g_gap (k := 3) R hv hu ht (by omega) ?_))
    exact And.intro (fun z => absurd gs_whole z) (fun _ => J138 _ rfl)
  have L : ∃ n, vL_holds_L25 cnt pwc par f (nI v) (nI u) (nI t) Q n 1 0 := by
    refine pk_loop (fun n i (_ : Unit) => vL_holds_L25 cnt pwc par f (nI v) (nI u) (nI t) Q n 1 (nI i)) (fun _ _ => True) 4 0 () (by omega) trivial (fun n _ _ => ?_) (fun n i _ hi _ ih => ?_)
    · exact And.intro (fun _ => J87) (fun z => absurd (Int32.le_refl _) z)
    · refine And.intro (fun z => absurd z (nI_ge (b := 4) hi (by omega))) (fun _ => i1 ?_)
      refine g_year R hv ht hi (g_yearBy R hv ht hi (And.intro (fun z => absurd rfl z) (fun _ => ?_)))
      refine g_year R hv ht hi (g_year (t := 0) R hv (by omega) hi ?_)
      have y1 := yr_eq (p := p) (c := c) (t := t) A B hv hi
      have y2 := yr_eq (p := p) (c := c) (t := 0) A B hv hi
      have y3 := ny_le (f := f) (v := v) (a := i) R.low hc2.2 (t := t)
      rw [y1.1, y2.1]
      refine And.intro (fun z => absurd z (nI_nlt y3 (by omega))) (fun _ => ?_)
      rw [nI_1]
      exact ih () trivial
  refine g_filled (fun n hn => And.intro (fun z => absurd z (nI_pos (by omega))) (fun _ => ?_))
  exact g_leaves0 R ht (fun x hx => And.intro (fun z => absurd z hx) (fun _ => L))
end CALLS
