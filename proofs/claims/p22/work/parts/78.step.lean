/-! one step of the law -/
theorem nI_nm3 {n : Nat} (h : n < 2 ^ 31) : ¬ nI n = -3 := fun z => by
  have := congrArg Int32.toInt z
  rw [nI_toInt h] at this
  have h1 : (-3 : Int32).toInt = -3 := by decide
  omega
theorem g_lowA {x : Int32} {n : Nat} {Q : Int32 → Prop} (h0 : 0 < n) (hn : n < 2 ^ 31) (q : ∀ j, j < n → Q (nI j)) : vL_low x (nI n) Q := g_low h0 hn (q _ (lowN_lt x h0))
theorem g_cell {xs : Nat → Int32} {L j : Nat} {x1 : Int32} {Q : Int32 → Prop} (e : x1 = nI j) (hj : j < 2 ^ 31) (hL : L < 2 ^ 31) (q : ∀ x, Q x) : vL_cell xs L x1 Q := by
  subst e
  refine And.intro (fun _ => q _) (fun z => ⟨?_, q _⟩)
  have : j < L := by
    rcases Nat.lt_or_ge j L with w | w
    · exact w
    · exact absurd (nI_le w hj) z
  exact vp_in_nI this hL
/-! what copying and putting keep -/
theorem cpy_cell {f : Ar} {s t v k a m : Nat} (hk : k < 10) (ha : a < 3) (hm : m < 12) : cpy f s t 360 (v * 360 + k * 36 + a * 12 + m) = f ((if v = t then s else v) * 360 + k * 36 + a * 12 + m) := by
  unfold cpy
  by_cases e : v = t
  · subst e
    have ex : s * 360 + (v * 360 + k * 36 + a * 12 + m - v * 360) = s * 360 + k * 36 + a * 12 + m := by omega
    rw [if_pos (by omega), if_pos rfl, ex]
  · rw [if_neg (by rcases Nat.lt_or_ge v t with q | q <;> omega), if_neg e]
theorem RB.copied {f : Ar} {s t : Nat} (B : RB f) (hs : s < 3) (ht : t < 3) : RB (cpy f s t 360) := by
  intro v k m hv hk hm
  rw [cpy_cell hk (by omega) hm, cpy_cell hk (by omega) hm]
  exact B _ k m (by split <;> omega) hk hm
theorem RZ.copied {f : Ar} {c s t : Nat} (Z : RZ c f) (hs : s < 3) (ht : t < 3) : RZ c (cpy f s t 360) := by
  intro v k m hv hc hk hm
  rw [cpy_cell hk (by omega) hm]
  exact Z _ k m (by split <;> omega) hc hk hm
theorem vl_cpy {f : Ar} {s t k a m : Nat} (hne : s ≠ t) (hk : k < 10) (ha : a < 3) (hm : m < 12) : vl (cpy f s t 360) t k a m = vl (cpy f s t 360) s k a m := by
  unfold vl
  rw [if_neg (by omega), if_neg (by omega), cpy_cell hk ha hm, cpy_cell hk ha hm, if_pos rfl, if_neg hne]
theorem cpyN_again {f : Ar} {s t : Nat} (hne : s ≠ t) : sm (cpyN (cpy f s t 360) s t) 360 = 0 := by
  have e : sm (cpyN (cpy f s t 360) s t) 360 = sm (fun _ => 0) 360 := by
    refine sm_ext (fun j hj => ?_)
    have e1 : cpy f s t 360 (t * 360 + j) = f (s * 360 + j) := by
      have ex : s * 360 + (t * 360 + j - t * 360) = s * 360 + j := by omega
      unfold cpy
      rw [if_pos (by omega), ex]
    have e2 : cpy f s t 360 (s * 360 + j) = f (s * 360 + j) := by
      unfold cpy
      rw [if_neg (by rcases Nat.lt_or_ge s t with q | q <;> omega)]
    show (if cpy f s t 360 (t * 360 + j) = cpy f s t 360 (s * 360 + j) then (0 : Int32) else 1) = 0
    rw [e1, e2, if_pos rfl]
  rw [e, sm_zero]
theorem RB.put {f : Ar} {v t a m w : Nat} (B : RB f) (ht : t < 10) (ha : a < 3) (hm : m < 12) (hw : w ≤ mst a) : RB (upd f (v * 360 + t * 36 + a * 12 + m) (nI w)) := by
  intro v' k' m' hv' hk' hm'
  obtain ⟨b0, b1⟩ := B v' k' m' hv' hk' hm'
  constructor
  · by_cases e : v' * 360 + k' * 36 + 0 * 12 + m' = v * 360 + t * 36 + a * 12 + m
    · have a0 : a = 0 := by
        have e2 := e
        rw [Nat.zero_mul, Nat.add_zero] at e2
        clear e b0 b1
        omega
      refine ⟨w, ?_, by rw [e]; exact pk_us⟩
      rw [a0] at hw
      exact hw
    · rw [pk_un e]
      exact b0
  · by_cases e : v' * 360 + k' * 36 + 1 * 12 + m' = v * 360 + t * 36 + a * 12 + m
    · have a0 : a = 1 := by
        have e2 := e
        rw [Nat.one_mul] at e2
        clear e b0 b1
        omega
      refine ⟨w, ?_, by rw [e]; exact pk_us⟩
      rw [a0] at hw
      exact hw
    · rw [pk_un e]
      exact b1
theorem RZ.put {f : Ar} {c v t a m w : Nat} (Z : RZ c f) (ht : t < c) (hc : c ≤ 10) (ha : a < 3) (hm : m < 12) : RZ c (upd f (v * 360 + t * 36 + a * 12 + m) (nI w)) := by
  intro v' k' m' hv' hc' hk' hm'
  rw [pk_un (by omega)]
  exact Z v' k' m' hv' hc' hk' hm'
theorem vl_put {f : Ar} {v t a m w : Nat} (ha : a < 3) : vl (upd f (v * 360 + t * 36 + a * 12 + m) (nI w)) v t a m = nI w := by
  unfold vl
  rw [if_neg (by omega), pk_us]
theorem na_cn {f : Ar} {p : Nat → Nat} {c v t m : Nat} : na f p c v t 2 m = ns (fun k => if lf p c t k = true then cn f v m k else 0) 10 := by
  refine ns_ext (fun k _ => ?_)
  show (if lf p c t k = true then nv f v k 2 m else 0) = _
  unfold nv cn
  rw [vl2]
/-! the state between two turns -/
def Sv (c : Nat) (p : Nat → Nat) (h cl : Nat → Nat → Bool) (sn : Nat) (cnt pwc : Int32) (par f held clos seW leW : Ar) (pl : Int32) (mpar mhel mclo msea : Ar) : Prop :=
  RT3 c p cnt pwc par pl mpar ∧ RH h held mhel ∧ RC c p cl clos mclo ∧ RA f ∧ RB f ∧ RZ c f ∧ RS seW msea ∧ (leW 10 = 0 ∧ leW 11 = 0) ∧ sn ≤ 12
abbrev KT : Type := Int32 → Int32 → Int32 → Int32 → Int32 → Int32 → Ar → Ar → Ar → Ar → Ar → Ar → Ar → Ar → Prop
def Nx (K : KT) (y : Int32) : Prop := ∀ {c : Nat} {p : Nat → Nat} {h cl : Nat → Nat → Bool} {sn : Nat} {cnt pwc : Int32} {par f held clos seW seS leW leS : Ar} {pl : Int32} {mpar mhel mclo msea : Ar},
  Sv c p h cl sn cnt pwc par f held clos seW leW pl mpar mhel mclo msea → K (nI sn) 1 y (nI sn) cnt pwc par f held clos seW seS leW leS
section STEP
variable {K : KT} {x4 x5 : Int32} {xs : Nat → Int32} {L c : Nat} {p : Nat → Nat} {h cl : Nat → Nat → Bool} {sn : Nat} {cnt pwc pl : Int32} {par f held clos seW seS leW leS mpar mhel mclo msea : Ar} {v u t m : Nat}
theorem j969 (x4 : Int32) (xs : Nat → Int32) (L : Nat) (N : Nx K (x5 + 1)) (hv : v < 3) (hu : u < 3) (hm : m < 12) (ht : t < c) (st : Sv c p h cl sn cnt pwc par f held clos seW leW pl mpar mhel mclo msea) : vL_law_J969 (nI sn) cnt pwc par f held clos seW seS leW leS (nI sn) 1 x4 x5 (nI v) (nI u) (nI t) (nI m) K xs L := by
  have nx := N (seS := seS) (leS := leS) st
  obtain ⟨R, H, C, A, B, Z, S, l, hs⟩ := st
  refine i1 (g_holds R A B hv hu ht (i1 (And.intro (fun _ => nx) (fun z => ?_))))
  exact g_outlook (a := 3) R hs hv ht (by omega) hm (fun w => absurd (nI_lt w (by omega)) z) (fun _ => g_amount (a := 3) R hv ht (by omega) hm (And.intro (fun y => absurd rfl y) (fun _ => nx)))
/-- a cell is set -/
theorem st_283 {a M : Nat} {y : Int32} (N : Nx K (x5 + 1)) (hv : v < 3) (hu : u < 3) (hm : m < 12) (ht : t < c) (st : Sv c p h cl sn cnt pwc par f held clos seW leW pl mpar mhel mclo msea) (ha : a < 3) (hM : 0 < M) (hM2 : M ≤ mst a + 1) : vL_law_J283 (nI sn) cnt pwc par f held clos seW seS leW leS (nI sn) x4 x5 (nI v) (nI u) (nI t) (nI m) (nI a) (nI M) y K xs L := by
  have st0 := st
  obtain ⟨R, H, C, A, B, Z, S, l, hs⟩ := st
  have hM3 := mst_le a
  refine g_lowA hM (by omega) (fun w hw => g_set R C hv ht ha hm (by omega) (fun _ => ?_) (fun hl hcl => ?_))
  · exact And.intro (fun _ => j969 x4 xs L N hv hu hm ht st0) (fun z => absurd rfl z)
  · have st1 : Sv c p h cl sn cnt pwc par (upd f (v * 360 + t * 36 + a * 12 + m) (nI w)) held clos seW leW pl mpar mhel mclo msea := ⟨R, H, C, A.put (by omega), B.put (by have := R.1; omega) ha hm (by omega), Z.put ht R.1.2 ha hm, S, l, hs⟩
    refine And.intro (fun _ => j969 x4 xs L N hv hu hm ht st1) (fun _ => g_isLeaf R ht (fun hl' => absurd (hl.symm.trans hl') (by decide)) (fun _ => i1 (g_amount R hv ht (by omega) hm ?_)))
    rw [am_leaf R.low R.1.2 ht hl, vl_put ha]
    exact And.intro (fun z => absurd rfl z) (fun _ => j969 x4 xs L N hv hu hm ht st1)
/-- a cell is held or left -/
theorem st_376 {x : Int32} (b : Bool) (hb : x = bi b) (N : Nx K (x5 + 1)) (hv : v < 3) (hu : u < 3) (hm : m < 12) (ht : t < c) (st : Sv c p h cl sn cnt pwc par f held clos seW leW pl mpar mhel mclo msea) (hl : hc p c t = false) : vL_law_J376 (nI sn) cnt pwc par f held clos seW seS leW leS (nI sn) x4 x5 (nI v) (nI u) (nI t) (nI m) x K xs L := by
  obtain ⟨R, H, C, A, B, Z, S, l, hs⟩ := st
  refine g_hold R H ht hm hl hb (fun y hy => ?_)
  have H1 := H.set (by have := R.1; omega) hm hy
  refine g_hold R H1 ht hm hl hb (fun y' hy' => ?_)
  have H2 := H1.set (by have := R.1; omega) hm hy'
  have e : (hset h t m b m t != b) = false := by
    unfold hset
    rw [if_pos ⟨rfl, rfl⟩]
    cases b <;> rfl
  rw [e]
  exact i0' (j969 x4 xs L N hv hu hm ht ⟨R, H2, C, A, B, Z, S, l, hs⟩)
/-- a sum is spread -/
theorem st_440 {M : Nat} {x6 y : Int32} (N : Nx K (x5 + 1)) (hv : v < 3) (hu : u < 3) (hm : m < 12) (ht : t < c) (st : Sv c p h cl sn cnt pwc par f held clos seW leW pl mpar mhel mclo msea) (hM : 0 < M) (hM2 : M ≤ 1000001) : vL_law_J440 (nI sn) cnt pwc par f held clos seW seS leW leS (nI sn) x4 x5 x6 (nI v) (nI u) (nI t) (nI m) (nI M) y K xs L := by
  have st0 := st
  obtain ⟨R, H, C, A, B, Z, S, l, hs⟩ := st
  have hL : ∀ k, 10 ≤ k → lf p c t k = false := fun k hk => lf_ge (by have := R.1; omega)
  refine g_lowA hM (by omega) (fun s hs1 => g_amount (a := 2) R hv ht (by omega) hm (g_lowA (n := 2) (by omega) (by omega) (fun w hw => g_spread R H C A l.1 l.2 hv ht hm (by omega) hw (fun _ => ?_) (fun k lw ls e1 e2 => ?_))))
  · refine And.intro (fun z => absurd rfl z) (fun _ => g_amount (a := 2) R hv ht (by omega) hm ?_)
    exact And.intro (fun z => absurd rfl z) (fun _ => j969 x4 xs L N hv hu hm ht st0)
  · have A1 : RA (sR f (lf p c t) (Fr (lf p c t) h cl v m) v m s w) := sR_RA A (by omega)
    have B1 : RB (sR f (lf p c t) (Fr (lf p c t) h cl v m) v m s w) := sR_RB B hv hm
    have Z1 : RZ c (sR f (lf p c t) (Fr (lf p c t) h cl v m) v m s w) := sR_RZ Z (fun k hk => lf_ge hk) hv hm
    obtain ⟨r, hr1, hr2⟩ := spC_le (f := f) (F := Fr (lf p c t) h cl v m) (v := v) (m := m) (sh := shq f (lf p c t) (Fr (lf p c t) h cl v m) v m s w) 10
    have hr2 : sK f (lf p c t) (Fr (lf p c t) h cl v m) v m s w = nI r := hr2
    rw [hr2]
    refine And.intro (fun _ => g_amount (a := 2) R hv ht (by omega) hm ?_) (fun z => absurd z (nI_nm3 (by omega)))
    have ea : am (sR f (lf p c t) (Fr (lf p c t) h cl v m) v m s w) p c v t 2 m = nI s := by
      rw [(am_eq A1 B1 hv (by omega) hm).1, na_cn, after_sum (by omega) hL k]
    refine And.intro (fun z => absurd ea z) (fun _ => And.intro (fun z => absurd z (nI_nlt (a := 10) (b := r) hr1 (by omega))) (fun _ => ?_))
    refine g_spread (w := 0) R H C A1 e1 e2 hv ht hm (by omega) (by omega) (fun nk => absurd (can_again (by omega) k) nk) (fun k1 lw' ls' e1' e2' => ?_)
    rw [sK_again (by omega) hL k]
    exact i0' (j969 x4 xs L N hv hu hm ht ⟨R, H, C, sR_RA A1 (by omega), sR_RB B1 hv hm, sR_RZ Z1 (fun k hk => lf_ge hk) hv hm, S, ⟨e1', e2'⟩, hs⟩)
/-- handing in, taking back, seeing, closing a month -/
theorem ccnt_le (L' : Nat → Bool) (b : Bool) : ∃ r, r ≤ 10 ∧ ccnt cl v L' b = nI r := sm_bi _ 10
theorem ccnt_again (L' : Nat → Bool) (b : Bool) : ccnt (cset cl v L' b) v L' b = 0 := by
  have e : ccnt (cset cl v L' b) v L' b = sm (fun _ => 0) 10 := by
    refine sm_ext (fun k _ => ?_)
    show bi (L' k && (cset cl v L' b v k != b)) = 0
    unfold cset
    cases z : L' k
    · rfl
    · rw [if_pos ⟨rfl, rfl⟩]
      cases b <;> rfl
  rw [e, sm_zero]
theorem cl_all {L' : Nat → Bool} {b : Bool} {k : Nat} (z : L' k = true) : cset cl v L' b v k = b := by
  unfold cset
  rw [if_pos ⟨rfl, z⟩]
def gst (cl : Nat → Nat → Bool) (v : Nat) (L' : Nat → Bool) (b : Bool) : Ar := fun j => bi (cset cl v L' b (j / 10) (j % 10))
theorem ghost (L' : Nat → Bool) (b : Bool) : ∀ v', v' < 3 → ∀ k', k' < 10 → gst cl v L' b (10 * v' + k') = bi (cset cl v L' b v' k') := by
  intro v' _ k' hk'
  have e1 : (10 * v' + k') / 10 = v' := by omega
  have e2 : (10 * v' + k') % 10 = k' := by omega
  show bi (cset cl v L' b ((10 * v' + k') / 10) ((10 * v' + k') % 10)) = _
  rw [e1, e2]
theorem st_769 {x6 x11 : Int32} (N : Nx K (x5 + 1)) (hv : v < 3) (hu : u < 3) (hm : m < 12) (ht : t < c) (st : Sv c p h cl sn cnt pwc par f held clos seW leW pl mpar mhel mclo msea) : vL_law_J769 (nI sn) cnt pwc par f held clos seW seS leW leS (nI sn) 1 x4 x5 x6 (nI v) (nI u) (nI t) (nI m) x11 K xs L := by
  have st0 := st
  obtain ⟨R, H, C, A, B, Z, S, l, hs⟩ := st
  refine And.intro (fun _ => And.intro (fun _ => And.intro (fun _ => ?_) (fun _ => ?_)) (fun _ => ?_)) (fun _ => ?_)
  · refine And.intro (fun _ => j969 x4 xs L N hv hu hm ht st0) (fun z => ?_)
    have hs2 : sn < 12 := by
      rcases Nat.lt_or_ge sn 12 with w | w
      · exact w
      · exact absurd (nI_le (a := 12) w (by omega)) z
    refine g_closeMonth hs2 ?_
    rw [nI_1]
    exact And.intro (fun z => absurd rfl z) (fun _ => j969 x4 xs L N hv hu hm ht ⟨R, H, C, A, B, Z, S, l, by omega⟩)
  · refine g_low (n := 3) (by omega) (by omega) (g_low (n := 1001) (by omega) (by omega) ?_)
    obtain ⟨a, ea⟩ : ∃ a, a = lowN x6 3 := ⟨_, rfl⟩
    obtain ⟨w, ew⟩ : ∃ w, w = lowN (x6 >>> (2 &&& 31)) 1001 := ⟨_, rfl⟩
    have ha : a < 3 := by rw [ea]; exact lowN_lt _ (by omega)
    have hw : w < 1001 := by rw [ew]; exact lowN_lt _ (by omega)
    have hm3 : w < mst a + 1 := by unfold mst; split <;> omega
    rw [← ea, ← ew]
    refine g_see R ht ha hm hm3 (fun _ => ?_) (fun hl => ?_)
    · exact And.intro (fun _ => j969 x4 xs L N hv hu hm ht st0) (fun z => absurd rfl z)
    · have hM3 := mst_le a
      have st1 : Sv c p h cl sn cnt pwc par (upd f (3 * 360 + t * 36 + a * 12 + m) (nI w)) held clos seW leW pl mpar mhel mclo msea := ⟨R, H, C, A.put (by omega), B.put (by have := R.1; omega) ha hm (by omega), Z.put ht R.1.2 ha hm, S, l, hs⟩
      refine And.intro (fun _ => j969 x4 xs L N hv hu hm ht st1) (fun _ => And.intro (fun _ => j969 x4 xs L N hv hu hm ht st1) (fun z => ?_))
      have hms : m < sn := by
        rcases Nat.lt_or_ge m sn with y | y
        · exact y
        · exact absurd (nI_le y (by omega)) z
      refine g_low (n := 3) (by omega) (by omega) ?_
      rw [← ea]
      refine g_outlook R hs hv ht (by omega) hm (fun _ => ?_) (fun y => absurd hms y)
      refine g_low (n := 1001) (by omega) (by omega) ?_
      rw [← ew, am_leaf R.low R.1.2 ht hl, vl_put ha]
      exact And.intro (fun z => absurd rfl z) (fun _ => j969 x4 xs L N hv hu hm ht st1)
  · refine g_takeBack R C hv ht (fun y hy => ?_)
    obtain ⟨r, hr1, hr2⟩ := ccnt_le (cl := cl) (v := v) (lf p c t) false
    rw [hr2]
    have C1 := C.set hy (ghost (cl := cl) (v := v) (lf p c t) false)
    refine And.intro (fun z => absurd z (nI_pos (by omega))) (fun _ => g_takeBack R C1 hv ht (fun y' hy' => ?_))
    have C2 := C1.set hy' (ghost (cl := cset cl v (lf p c t) false) (v := v) (lf p c t) false)
    rw [ccnt_again]
    exact i0' (j969 x4 xs L N hv hu hm ht ⟨R, H, C2, A, B, Z, S, l, hs⟩)
  · refine g_handIn R C hv ht (fun y hy => ?_)
    obtain ⟨r, hr1, hr2⟩ := ccnt_le (cl := cl) (v := v) (lf p c t) true
    rw [hr2]
    have C1 := C.set hy (ghost (cl := cl) (v := v) (lf p c t) true)
    refine And.intro (fun z => absurd z (nI_pos (by omega))) (fun _ => g_handIn R C1 hv ht (fun y' hy' => ?_))
    have C2 := C1.set hy' (ghost (cl := cset cl v (lf p c t) true) (v := v) (lf p c t) true)
    rw [ccnt_again]
    refine i0' (g_set (a := 0) (w := 1) R C2 hv ht (by omega) hm (by unfold mst; split <;> omega) (fun _ => ?_) (fun hl hcl => ?_))
    · exact And.intro (fun z => absurd rfl z) (fun _ => j969 x4 xs L N hv hu hm ht ⟨R, H, C2, A, B, Z, S, l, hs⟩)
    · rw [cl_all (by rw [lf_self R.low R.1.2 ht hl, decide_eq_true rfl])] at hcl
      cases hcl
end STEP
