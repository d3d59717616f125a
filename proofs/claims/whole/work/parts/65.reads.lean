/-! the methods that only read -/
theorem lg_same (x : Int64) : lg_cmp x x = 0 := by
  unfold lg_cmp
  simp
theorem fin {r r' : Int32} {o : Nat → Int64} {K : Prop} (h : r = 0 → o 0 = r'.toInt64) (hK : K) :
    (r = r → ((¬ r = 0 → K) ∧ (r = 0 → (vp_in 0 1 ∧ ((lg_cmp (o (0 : Int32).toNatClampNeg) r'.toInt64 = 0 → K) ∧ (¬ lg_cmp (o (0 : Int32).toNatClampNeg) r'.toInt64 = 0 → False)))))) ∧ (¬ r = r → False) := by
  refine ⟨fun _ => ⟨fun _ => hK, fun z => ⟨vp_in_nI (n := 0) (by omega) (by omega), fun _ => hK, fun q => q ?_⟩⟩, fun z => z rfl⟩
  have e : (0 : Int32).toNatClampNeg = 0 := by decide
  rw [e, h z]
  exact lg_same _
theorem oN {o : Nat → Int64} {x : Int64} : vp_updL o (0 : Int32).toNatClampNeg x 0 = x := by
  have e : (0 : Int32).toNatClampNeg = 0 := by decide
  rw [e]
  exact pk_uLs
theorem in01 : vp_in 0 1 := vp_in_nI (n := 0) (by omega) (by omega)
section READS
variable {c : Nat} {p : Nat → Nat} {cnt pwc pl : Int32} {par mpar : Ar}
theorem m_leaves_L {t : Nat} {Q : Int32 → Int32 → Prop} (R : RT3 c p cnt pwc par pl mpar) (ht : t < c) (h : ∀ x, Bs x (lf p c t) → Q x 0) : ∃ n, vX4_leaves_L21 pl 0 mpar (nI t) Q n 0 0 := by
  have hc := R.1.2
  have hpl := R.2.2.1
  refine pk_loop (fun n i (s : Int32) => vX4_leaves_L21 pl 0 mpar (nI t) Q n s (nI i)) (fun i s => Bs s (fun k => decide (k < i) && lf p c t k)) c 0 0 (by omega) (Bs.zero.of (fun k _ => by simp)) (fun n s e => ?_) (fun n i s hi e ih => ?_)
  · rw [hpl]
    refine And.intro (fun _ => h s (e.of (fun k _ => ?_))) (fun c => absurd (Int32.le_refl _) c)
    by_cases q : k < c
    · simp [q]
    · rw [lf_ge (by omega), Bool.and_false]
  · rw [hpl] at ih ⊢
    refine And.intro (fun q => absurd q (nI_ge (b := c) hi (by omega))) (fun _ => i0' ?_)
    rw [← hpl] at ih ⊢
    refine m_isLeafOf R hi ht ?_
    rw [nI_1]
    have st : ∀ b : Bool, lf p c t i = b → ∀ k, k < 10 → ((decide (k < i) && lf p c t k) || (decide (k = i) && b)) = (decide (k < i + 1) && lf p c t k) := by
      intro b hb k _
      by_cases q : k = i
      · subst q
        simp [hb]
      · by_cases q2 : k < i
        · simp [q, q2, show k < i + 1 by omega]
        · simp [q, q2, show ¬ k < i + 1 by omega]
    cases hb : lf p c t i
    · refine i0 (ih _ ?_)
      have e0 : s ||| 0 = s := b_ext fun j hj => by rw [b_or, b_0, Bool.or_false]
      rw [e0]
      exact e.of (fun k hk => by rw [← st false hb k hk, Bool.and_false, Bool.or_false])
    · refine i1 (ih _ ?_)
      exact (e.or (Bs.one (by omega))).of (fun k hk => by rw [← st true hb k hk, Bool.and_true])
/-- a year's sum -/
def yr (f : Ar) (p : Nat → Nat) (c l t a : Nat) : Int32 := sm (fun m => sm (fun k => if lf p c t k = true then vl f l k a m else 0) 10) 12
theorem s_year_L {f : Ar} {l t a : Nat} {x : Int32} {Q : Int32 → Prop} (hl : l < 4) (ha : a < 4) (hx : Bs x (lf p c t)) (h : Q (yr f p c l t a)) : ∃ n, vX3_year_L29 cnt pwc par f (nI l) (nI a) x Q n 0 0 := by
  refine pk_loop (fun n i (s : Int32) => vX3_year_L29 cnt pwc par f (nI l) (nI a) x Q n s (nI i)) (fun i s => s = sm (fun m => sm (fun k => if lf p c t k = true then vl f l k a m else 0) 10) i) 12 0 0 (by omega) rfl (fun n s e => ?_) (fun n i s hi e ih => ?_)
  · refine And.intro (fun _ => by rw [e]; exact h) (fun c => absurd (Int32.le_refl _) c)
  · refine And.intro (fun c => absurd c (nI_ge (b := 12) hi (by omega))) (fun _ => ?_)
    refine s_sumOver hl ha hi hx ?_
    rw [nI_1]
    refine ih _ ?_
    show _ = sm _ i + _
    rw [← e]
theorem s_yearBy_L {f : Ar} {l t a : Nat} {x : Int32} {Q : Int32 → Prop} (hl : l < 4) (ha : a < 4) (hx : Bs x (lf p c t)) (h : Q (yr f p c l t a)) : ∃ n, vX3_yearByLeaves_L29 cnt pwc par f (nI l) (nI a) x Q n 0 0 := by
  have e0 : yr f p c l t a = sm (fun k => if lf p c t k = true then sm (fun m => vl f l k a m) 12 else 0) 10 := by
    unfold yr
    rw [← sm_swap]
    exact sm_ext (fun k _ => sm_if _ _)
  rw [e0] at h
  refine pk_loop (fun n i (s : Int32) => vX3_yearByLeaves_L29 cnt pwc par f (nI l) (nI a) x Q n s (nI i)) (fun i s => s = sm (fun k => if lf p c t k = true then sm (fun m => vl f l k a m) 12 else 0) i) 10 0 0 (by omega) rfl (fun n s e => ?_) (fun n i s hi e ih => ?_)
  · refine And.intro (fun _ => by rw [e]; exact h) (fun c => absurd (Int32.le_refl _) c)
  · refine And.intro (fun c => absurd c (nI_ge (b := 10) hi (by omega))) (fun _ => ?_)
    refine s_isIn hx hi ?_
    rw [nI_1]
    cases hb : lf p c t i
    · refine i0 (ih _ ?_)
      show s = sm _ i + (if lf p c t i = true then _ else 0)
      rw [e, hb]
      simp
    · refine i1 (s_yearOf hl hi ha (ih _ ?_))
      show _ = sm _ i + (if lf p c t i = true then _ else 0)
      rw [e, hb]
      rfl
theorem m_asked {l t a m : Nat} {thr : Int32} {Q : Int32 → Int32 → Prop} (R : RT3 c p cnt pwc par pl mpar) (hl : l < 3) (ht : t < c) (ha : a < 4) (hm : m < 12) (q : Q 1 0) : vX4_isAsked pl thr (nI l) (nI t) (nI a) (nI m) Q := by
  have hpl := R.2.2.1
  rw [hpl]
  exact m_ver hl (i1 (m_plc R.1 ht (i1 (m_in (n := 3) (by omega) ha (i1 (m_mon hm (i1 (i0' q))))))))
theorem m_year_L {f : Ar} {l t a : Nat} {thr : Int32} {Q : Int32 → Int32 → Prop} (R : RT3 c p cnt pwc par pl mpar) (hl : l < 3) (ht : t < c) (ha : a < 4) (h : Q (yr f p c l t a) 0) : vX4_year pl thr mpar f (nI l) (nI t) (nI a) Q := by
  refine pk_loop (fun n i (s : Int32 × Int32) => vX4_year_L6 pl mpar f (nI l) (nI t) (nI a) Q n s.1 (nI i) s.2) (fun i s => s.1 = sm (fun m => sm (fun k => if lf p c t k = true then vl f l k a m else 0) 10) i) 12 0 (0, thr) (by omega) rfl (fun n s e => ?_) (fun n i s hi e ih => ?_)
  · obtain ⟨s, th⟩ := s
    dsimp only at e ⊢
    refine m_asked (m := 0) R hl ht ha (by omega) (i1 ?_)
    refine And.intro (fun _ => by rw [e]; exact h) (fun c => absurd (Int32.le_refl _) c)
  · obtain ⟨s, th⟩ := s
    dsimp only at e ⊢
    refine m_asked (m := 0) R hl ht ha (by omega) (i1 ?_)
    refine And.intro (fun c => absurd c (nI_ge (b := 12) hi (by omega))) (fun _ => ?_)
    refine m_sumOf R (by omega) ht ha hi ?_
    rw [nI_1]
    refine ih (_, _) ?_
    show _ = sm _ i + _
    rw [← e]
theorem m_filled {f : Ar} {thr : Int32} {Q : Int32 → Int32 → Prop} (h : Q (sm (fun j => if f j = 0 then 0 else 1) 1440) 0) : vX4_filled thr f Q := by
  refine pk_loop (fun n i (s : Int32) => vX4_filled_L9 0 f Q n s (nI i)) (fun i s => s = sm (fun j => if f j = 0 then 0 else 1) i) 1440 0 0 (by omega) rfl (fun n s e => ?_) (fun n i s hi e ih => ?_)
  · refine And.intro (fun _ => by rw [e]; exact h) (fun c => absurd (Int32.le_refl _) c)
  · refine And.intro (fun c => absurd c (nI_ge (b := 1440) hi (by omega))) (fun _ => ?_)
    rw [nI_clamp (by omega), nI_1]
    refine ⟨vp_in_nI hi (by omega), fun c => ih _ ?_, fun c => ih _ ?_⟩
    · show s + 1 = sm _ i + (if f i = 0 then 0 else 1)
      rw [← e, if_neg c]
    · show s + 0 = sm _ i + (if f i = 0 then 0 else 1)
      rw [← e, if_pos c]
/-- a gap's part -/
def gp (h0 p0 h1 p1 : Int32) (q : Nat) : Int32 := if q = 0 then h1 * p1 - h0 * p0 else if q = 1 then (h1 - h0) * p0 else if q = 2 then h0 * (p1 - p0) else (h1 - h0) * (p1 - p0)
theorem s_gapPart {h0 p0 h1 p1 : Int32} {q : Nat} {Q : Int32 → Prop} (hq : q < 4) (h : Q (gp h0 p0 h1 p1 q)) : vX3_gapPart h0 p0 h1 p1 (nI q) Q := by
  have e := nI_toInt (n := q) (by omega)
  unfold gp at h
  refine ⟨fun z => ?_, fun z => ?_, fun z => ?_, fun z => ?_⟩
  · rw [e] at z
    have : q = 3 := by omega
    subst this
    exact h
  · rw [e] at z
    have : q = 0 := by omega
    subst this
    exact h
  · rw [e] at z
    have : q = 1 := by omega
    subst this
    exact h
  · rw [e] at z
    have : q = 2 := by omega
    subst this
    exact h
theorem m_partOf {h0 p0 h1 p1 : Int32} {q : Nat} {Q : Int32 → Prop} (hq : q < 4) (h : Q (gp h0 p0 h1 p1 q)) : vX4_partOf h0 p0 h1 p1 (nI q) Q := by
  unfold gp at h
  refine ⟨fun z0 => ⟨fun z1 => ⟨fun z2 => ?_, fun z => ?_⟩, fun z => ?_⟩, fun z => ?_⟩
  · have y0 : q ≠ 0 := fun e => z0 (by rw [e]; rfl)
    have y1 : q ≠ 1 := fun e => z1 (by rw [e]; rfl)
    have y2 : q ≠ 2 := fun e => z2 (by rw [e]; rfl)
    rw [if_neg y0, if_neg y1, if_neg y2] at h
    exact h
  · have := (nI_eq (b := 2) (by omega) (by omega)).mp z
    subst this
    exact h
  · have := (nI_eq (b := 1) (by omega) (by omega)).mp z
    subst this
    exact h
  · have := (nI_eq (b := 0) (by omega) (by omega)).mp z
    subst this
    exact h
def gl (f : Ar) (v u k q m : Nat) : Int32 := gp (vl f v k 0 m) (vl f v k 1 m) (vl f u k 0 m) (vl f u k 1 m) q
theorem s_gap_L {f : Ar} {v u t q : Nat} {x : Int32} {Q : Int32 → Prop} (hv : v < 4) (hu : u < 4) (hq : q < 4) (hx : Bs x (lf p c t)) (h : Q (sm (fun k => if lf p c t k = true then sm (gl f v u k q) 12 else 0) 10)) : ∃ n, vX3_gap_L35 cnt pwc par f (nI v) (nI u) (nI q) x Q n 0 0 := by
  refine pk_loop (fun n i (s : Int32) => vX3_gap_L35 cnt pwc par f (nI v) (nI u) (nI q) x Q n s (nI i)) (fun i s => s = sm (fun k => if lf p c t k = true then sm (gl f v u k q) 12 else 0) i) 10 0 0 (by omega) rfl (fun n s e => ?_) (fun n i s hi e ih => ?_)
  · refine And.intro (fun _ => by rw [e]; exact h) (fun c => absurd (Int32.le_refl _) c)
  · refine And.intro (fun c => absurd c (nI_ge (b := 10) hi (by omega))) (fun _ => ?_)
    refine s_isIn hx hi ?_
    rw [nI_1]
    cases hb : lf p c t i
    · refine i0 (ih _ ?_)
      show s = sm _ i + (if lf p c t i = true then _ else 0)
      rw [e, hb]
      simp
    · refine i1 ?_
      have nx := ih (s + sm (gl f v u i q) 12) (by
        show _ = sm _ i + (if lf p c t i = true then _ else 0)
        rw [e, hb]
        rfl)
      refine pk_loop (fun n' j (z : Int32) => vX3_gapOfLeaf_L6 f (nI v) (nI u) (nI i) (nI q) _ n' z (nI j)) (fun j z => z = sm (gl f v u i q) j) 12 0 0 (by omega) rfl (fun n' z e' => ?_) (fun n' j z hj e' ih' => ?_)
      · refine And.intro (fun _ => ?_) (fun c => absurd (Int32.le_refl _) c)
        rw [e']
        exact nx
      · refine And.intro (fun c => absurd c (nI_ge (b := 12) hj (by omega))) (fun _ => ?_)
        refine s_at (a := 0) hv hi (by omega) hj (s_at (a := 1) hv hi (by omega) hj (s_at (a := 0) hu hi (by omega) hj (s_at (a := 1) hu hi (by omega) hj (s_gapPart hq ?_))))
        rw [nI_1]
        refine ih' _ ?_
        show _ = sm _ j + gl f v u i q j
        rw [e']
        rfl
theorem m_gap_L {f : Ar} {v u t q : Nat} {Q : Int32 → Int32 → Prop} (R : RT3 c p cnt pwc par pl mpar) (hv : v < 4) (hu : u < 4) (ht : t < c) (hq : q < 4) (h : Q (sm (fun k => if lf p c t k = true then sm (gl f v u k q) 12 else 0) 10) 0) : ∃ n, vX4_gap_L51 pl 0 mpar f (nI v) (nI u) (nI t) (nI q) Q n 0 0 := by
  have hc := R.1.2
  have hpl := R.2.2.1
  rw [sm_lf _ hc] at h
  refine pk_loop (fun n i (s : Int32) => vX4_gap_L51 pl 0 mpar f (nI v) (nI u) (nI t) (nI q) Q n s (nI i)) (fun i s => s = sm (fun k => if lf p c t k = true then sm (gl f v u k q) 12 else 0) i) c 0 0 (by omega) rfl (fun n s e => ?_) (fun n i s hi e ih => ?_)
  · rw [hpl]
    refine And.intro (fun _ => by rw [e]; exact h) (fun c => absurd (Int32.le_refl _) c)
  · rw [hpl] at ih ⊢
    refine And.intro (fun q => absurd q (nI_ge (b := c) hi (by omega))) (fun _ => i0' ?_)
    rw [← hpl] at ih ⊢
    have nx := fun z => ih z
    rw [← nI_1] at nx
    cases hb : lf p c t i
    · refine ⟨1, And.intro (fun q => absurd q (by decide)) (fun _ => m_isLeafOf R hi ht ?_)⟩
      rw [hb]
      refine i0 (nx _ ?_)
      show s = sm _ i + (if lf p c t i = true then _ else 0)
      rw [e, hb]
      simp
    · refine pk_loop (fun n' j (z : Int32) => vX4_gap_L70 pl 0 mpar f (nI v) (nI u) (nI t) (nI q) (nI i) _ Q n' z (nI j)) (fun j z => z = s + sm (gl f v u i q) j) 12 0 s (by omega) (by show s = s + 0; simp) (fun n' z e' => ?_) (fun n' j z hj e' ih' => ?_)
      · refine And.intro (fun _ => nx _ ?_) (fun c => absurd (Int32.le_refl _) c)
        show z = sm _ i + (if lf p c t i = true then _ else 0)
        rw [e', e, hb]
        rfl
      · refine And.intro (fun c => absurd c (nI_ge (b := 12) hj (by omega))) (fun _ => ?_)
        refine m_isLeafOf R hi ht ?_
        rw [hb]
        refine i1 (m_ofLeaf (a := 0) hv (by omega) (by omega) hj (m_ofLeaf (a := 1) hv (by omega) (by omega) hj (m_ofLeaf (a := 0) hu (by omega) (by omega) hj (m_ofLeaf (a := 1) hu (by omega) (by omega) hj (m_partOf hq ?_)))))
        rw [nI_1 j]
        refine ih' _ ?_
        show z + gl f v u i q j = s + (sm _ j + gl f v u i q j)
        rw [e', Int32.add_assoc]
end READS
