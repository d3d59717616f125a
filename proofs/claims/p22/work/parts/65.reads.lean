/-! the methods that only read -/
theorem lg_same (x : Int64) : lg_cmp x x = 0 := by
  unfold lg_cmp
  simp
theorem fin {r r' : Int32} {o : Nat → Int64} {K : Prop} (h : r = 0 → o 0 = r'.toInt64) (hK : K) :
    (r = r → ((¬ r = 0 → K) ∧ (r = 0 → (vp_in 0 1 ∧ ((lg_cmp (o (0 : Int32).toNatClampNeg) r'.toInt64 = 0 → K) ∧ (¬ lg_cmp (o (0 : Int32).toNatClampNeg) r'.toInt64 = 0 → False)))))) ∧ (¬ r = r → False) := by
  refine ⟨fun _ => ⟨fun _ => hK, fun z => ⟨vp_in_nI (n := 0) (by omega) (by omega), fun _ => hK, fun q => q ?_⟩⟩, fun z => z rfl⟩
  have e : (0 : Int32).toNatClampNeg = 0 := by decide
  rw [e, h z]
  exact lg_same _
theorem oN {o : Nat → Int64} {x : Int64} : vp_updL o (0 : Int32).toNatClampNeg x 0 = x := by
  have e : (0 : Int32).toNatClampNeg = 0 := by decide
  rw [e]
  exact pk_uLs
theorem in01 : vp_in 0 1 := vp_in_nI (n := 0) (by omega) (by omega)
section READS
variable {c : Nat} {p : Nat → Nat} {cnt pwc pl : Int32} {par mpar : Ar}
/-- a year's sum -/
def yr (f : Ar) (p : Nat → Nat) (c l t a : Nat) : Int32 := sm (fun m => sm (fun k => if lf p c t k = true then vl f l k a m else 0) 10) 12
theorem s_year_L {f : Ar} {l t a : Nat} {x : Int32} {Q : Int32 → Prop} (hl : l < 4) (ha : a < 4) (hx : Bs x (lf p c t)) (h : Q (yr f p c l t a)) : ∃ n, vX3_year_L29 cnt pwc par f (nI l) (nI a) x Q n 0 0 := by
  refine pk_loop (fun n i (s : Int32) => vX3_year_L29 cnt pwc par f (nI l) (nI a) x Q n s (nI i)) (fun i s => s = sm (fun m => sm (fun k => if lf p c t k = true then vl f l k a m else 0) 10) i) 12 0 0 (by omega) rfl (fun n s e => ?_) (fun n i s hi e ih => ?_)
  · refine And.intro (fun _ => by rw [e]; exact h) (fun c => absurd (Int32.le_refl _) c)
  · refine And.intro (fun c => absurd c (nI_ge (b := 12) hi (by omega))) (fun _ => ?_)
    refine s_sumOver hl ha hi hx ?_
    rw [nI_1]
    refine ih _ ?_
    show _ = sm _ i + _
    rw [← e]
theorem s_yearBy_L {f : Ar} {l t a : Nat} {x : Int32} {Q : Int32 → Prop} (hl : l < 4) (ha : a < 4) (hx : Bs x (lf p c t)) (h : Q (yr f p c l t a)) : ∃ n, vX3_yearByLeaves_L29 cnt pwc par f (nI l) (nI a) x Q n 0 0 := by
  have e0 : yr f p c l t a = sm (fun k => if lf p c t k = true then sm (fun m => vl f l k a m) 12 else 0) 10 := by
    unfold yr
    rw [← sm_swap]
    exact sm_ext (fun k _ => sm_if _ _)
  rw [e0] at h
  refine pk_loop (fun n i (s : Int32) => vX3_yearByLeaves_L29 cnt pwc par f (nI l) (nI a) x Q n s (nI i)) (fun i s => s = sm (fun k => if lf p c t k = true then sm (fun m => vl f l k a m) 12 else 0) i) 10 0 0 (by omega) rfl (fun n s e => ?_) (fun n i s hi e ih => ?_)
  · refine And.intro (fun _ => by rw [e]; exact h) (fun c => absurd (Int32.le_refl _) c)
  · refine And.intro (fun c => absurd c (nI_ge (b := 10) hi (by omega))) (fun _ => ?_)
    refine s_isIn hx hi ?_
    rw [nI_1]
    cases hb : lf p c t i
    · refine i0 (ih _ ?_)
      show s = sm _ i + (if lf p c t i = true then _ else 0)
      rw [e, hb]
      simp
    · refine i1 (s_yearOf hl hi ha (ih _ ?_))
      show _ = sm _ i + (if lf p c t i = true then _ else 0)
      rw [e, hb]
      rfl
/-- a gap's part -/
def gp (h0 p0 h1 p1 : Int32) (q : Nat) : Int32 := if q = 0 then h1 * p1 - h0 * p0 else if q = 1 then (h1 - h0) * p0 else if q = 2 then h0 * (p1 - p0) else (h1 - h0) * (p1 - p0)
theorem s_gapPart {h0 p0 h1 p1 : Int32} {q : Nat} {Q : Int32 → Prop} (hq : q < 4) (h : Q (gp h0 p0 h1 p1 q)) : vX3_gapPart h0 p0 h1 p1 (nI q) Q := by
  have e := nI_toInt (n := q) (by omega)
  unfold gp at h
  refine ⟨fun z => ?_, fun z => ?_, fun z => ?_, fun z => ?_⟩
  · rw [e] at z
    have : q = 3 := by omega
    subst this
    exact h
  · rw [e] at z
    have : q = 0 := by omega
    subst this
    exact h
  · rw [e] at z
    have : q = 1 := by omega
    subst this
    exact h
  · rw [e] at z
    have : q = 2 := by omega
    subst this
    exact h
def gl (f : Ar) (v u k q m : Nat) : Int32 := gp (vl f v k 0 m) (vl f v k 1 m) (vl f u k 0 m) (vl f u k 1 m) q
theorem s_gap_L {f : Ar} {v u t q : Nat} {x : Int32} {Q : Int32 → Prop} (hv : v < 4) (hu : u < 4) (hq : q < 4) (hx : Bs x (lf p c t)) (h : Q (sm (fun k => if lf p c t k = true then sm (gl f v u k q) 12 else 0) 10)) : ∃ n, vX3_gap_L35 cnt pwc par f (nI v) (nI u) (nI q) x Q n 0 0 := by
  refine pk_loop (fun n i (s : Int32) => vX3_gap_L35 cnt pwc par f (nI v) (nI u) (nI q) x Q n s (nI i)) (fun i s => s = sm (fun k => if lf p c t k = true then sm (gl f v u k q) 12 else 0) i) 10 0 0 (by omega) rfl (fun n s e => ?_) (fun n i s hi e ih => ?_)
  · refine And.intro (fun _ => by rw [e]; exact h) (fun c => absurd (Int32.le_refl _) c)
  · refine And.intro (fun c => absurd c (nI_ge (b := 10) hi (by omega))) (fun _ => ?_)
    refine s_isIn hx hi ?_
    rw [nI_1]
    cases hb : lf p c t i
    · refine i0 (ih _ ?_)
      show s = sm _ i + (if lf p c t i = true then _ else 0)
      rw [e, hb]
      simp
    · refine i1 ?_
      have nx := ih (s + sm (gl f v u i q) 12) (by
        show _ = sm _ i + (if lf p c t i = true then _ else 0)
        rw [e, hb]
        rfl)
      refine pk_loop (fun n' j (z : Int32) => vX3_gapOfLeaf_L6 f (nI v) (nI u) (nI i) (nI q) _ n' z (nI j)) (fun j z => z = sm (gl f v u i q) j) 12 0 0 (by omega) rfl (fun n' z e' => ?_) (fun n' j z hj e' ih' => ?_)
      · refine And.intro (fun _ => ?_) (fun c => absurd (Int32.le_refl _) c)
        rw [e']
        exact nx
      · refine And.intro (fun c => absurd c (nI_ge (b := 12) hj (by omega))) (fun _ => ?_)
        refine s_at (a := 0) hv hi (by omega) hj (s_at (a := 1) hv hi (by omega) hj (s_at (a := 0) hu hi (by omega) hj (s_at (a := 1) hu hi (by omega) hj (s_gapPart hq ?_))))
        rw [nI_1]
        refine ih' _ ?_
        show _ = sm _ j + gl f v u i q j
        rw [e']
        rfl
end READS
