/-! the cells: what their methods answer -/
theorem ixN (l k a m : Nat) : (((nI l * 360) + (nI k * 36)) + (nI a * 12)) + nI m = nI (l * 360 + k * 36 + a * 12 + m) := by
  show (((nI l * nI 360) + (nI k * nI 36)) + (nI a * nI 12)) + nI m = _
  rw [pk_mul, pk_mul, pk_mul, nI_add, nI_add, nI_add]
/-- a value of a leaf: account 3 is heads times price -/
def vl (f : Ar) (l k a m : Nat) : Int32 := if a = 3 then f (l * 360 + k * 36 + 0 * 12 + m) * f (l * 360 + k * 36 + 1 * 12 + m) else f (l * 360 + k * 36 + a * 12 + m)
theorem s_at {f : Ar} {l k a m : Nat} {Q : Int32 → Prop} (hl : l < 4) (hk : k < 10) (ha : a < 3) (hm : m < 12) (h : Q (f (l * 360 + k * 36 + a * 12 + m))) : vX0_at f (nI l) (nI k) (nI a) (nI m) Q := by
  show vp_in ((((nI l * 360) + (nI k * 36)) + (nI a * 12)) + nI m) 1440 ∧ Q (f ((((nI l * 360) + (nI k * 36)) + (nI a * 12)) + nI m).toNatClampNeg)
  rw [ixN, nI_clamp (by omega)]
  exact ⟨vp_in_nI (by omega) (by omega), h⟩
theorem s_put {f : Ar} {l k a m : Nat} {x : Int32} {Q : Int32 → Ar → Prop} (hl : l < 4) (hk : k < 10) (ha : a < 3) (hm : m < 12) (h : Q (f (l * 360 + k * 36 + a * 12 + m)) (upd f (l * 360 + k * 36 + a * 12 + m) x)) : vX0_put f (nI l) (nI k) (nI a) (nI m) x Q := by
  show vp_in ((((nI l * 360) + (nI k * 36)) + (nI a * 12)) + nI m) 1440 ∧ vp_in ((((nI l * 360) + (nI k * 36)) + (nI a * 12)) + nI m) 1440 ∧ Q (f ((((nI l * 360) + (nI k * 36)) + (nI a * 12)) + nI m).toNatClampNeg) (upd f ((((nI l * 360) + (nI k * 36)) + (nI a * 12)) + nI m).toNatClampNeg x)
  rw [ixN, nI_clamp (by omega)]
  exact ⟨vp_in_nI (by omega) (by omega), vp_in_nI (by omega) (by omega), h⟩
theorem s_valueOf {f : Ar} {l k a m : Nat} {Q : Int32 → Prop} (hl : l < 4) (hk : k < 10) (ha : a < 4) (hm : m < 12) (h : Q (vl f l k a m)) : vX0_valueOf f (nI l) (nI k) (nI a) (nI m) Q := by
  refine And.intro (fun c => ?_) (fun c => ?_)
  · have h3 : a ≠ 3 := fun e => c (by rw [e]; rfl)
    refine s_at hl hk (by omega) hm ?_
    rw [vl, if_neg h3] at h
    exact h
  · have h3 : a = 3 := (nI_eq (by omega) (by omega)).mp (show nI a = nI 3 from c)
    rw [vl, if_pos h3] at h
    exact s_at (a := 0) hl hk (by omega) hm (s_at (a := 1) hl hk (by omega) hm h)
theorem s_sumOver {f : Ar} {l a m : Nat} {x : Int32} {S : Nat → Bool} {Q : Int32 → Prop} (hl : l < 4) (ha : a < 4) (hm : m < 12) (hx : Bs x S) (h : Q (sm (fun k => if S k = true then vl f l k a m else 0) 10)) : vX0_sumOver f (nI l) x (nI a) (nI m) Q := by
  refine pk_loop (fun n i (s : Int32) => vX0_sumOver_L6 f (nI l) x (nI a) (nI m) Q n s (nI i)) (fun i s => s = sm (fun k => if S k = true then vl f l k a m else 0) i) 10 0 0 (by omega) rfl (fun n s e => ?_) (fun n i s hi e ih => ?_)
  · refine And.intro (fun _ => by rw [e]; exact h) (fun c => absurd (Int32.le_refl _) c)
  · refine And.intro (fun c => absurd c (nI_ge (b := 10) hi (by omega))) (fun _ => ?_)
    refine s_isIn hx hi ?_
    refine And.intro (fun c => ?_) (fun c => ?_)
    · rw [nI_1]
      refine ih s ?_
      show s = sm _ i + (if S i = true then vl f l i a m else 0)
      rw [← e, bi0.mp c]
      simp
    · refine s_valueOf hl hi ha hm ?_
      rw [nI_1]
      refine ih _ ?_
      have hs : S i = true := by
        cases q : S i
        · exact absurd (bi0.mpr q) c
        · rfl
      show _ = sm _ i + (if S i = true then vl f l i a m else 0)
      rw [← e, hs]
      simp
theorem s_yearOf {f : Ar} {l k a : Nat} {Q : Int32 → Prop} (hl : l < 4) (hk : k < 10) (ha : a < 4) (h : Q (sm (fun m => vl f l k a m) 12)) : vX0_yearOf f (nI l) (nI k) (nI a) Q := by
  refine pk_loop (fun n i (s : Int32) => vX0_yearOf_L6 f (nI l) (nI k) (nI a) Q n s (nI i)) (fun i s => s = sm (fun m => vl f l k a m) i) 12 0 0 (by omega) rfl (fun n s e => ?_) (fun n i s hi e ih => ?_)
  · refine And.intro (fun _ => by rw [e]; exact h) (fun c => absurd (Int32.le_refl _) c)
  · refine And.intro (fun c => absurd c (nI_ge (b := 12) hi (by omega))) (fun _ => ?_)
    refine s_valueOf hl hk ha hi ?_
    rw [nI_1]
    refine ih _ ?_
    show _ = sm _ i + _
    rw [← e]
/-- the version t is a copy of s, as far as n cells -/
def cpy (f : Ar) (s t n : Nat) : Ar := fun j => if t * 360 ≤ j ∧ j < t * 360 + n then f (s * 360 + (j - t * 360)) else f j
def cpyN (f : Ar) (s t : Nat) : Nat → Int32 := fun j => if f (t * 360 + j) = f (s * 360 + j) then 0 else 1
theorem s_copyLayer {f : Ar} {s t : Nat} {Q : Int32 → Ar → Prop} (hs : s < 4) (ht : t < 4) (hne : s ≠ t) (h : Q (sm (cpyN f s t) 360) (cpy f s t 360)) : vX0_copyLayer f (nI s) (nI t) Q := by
  have e0 : f = cpy f s t 0 := by
    funext j
    rw [cpy, if_neg (by omega)]
  refine pk_loop (fun n i (z : Int32 × Ar) => vX0_copyLayer_L5 (nI s) (nI t) Q n z.1 (nI i) z.2) (fun i z => z.1 = sm (cpyN f s t) i ∧ z.2 = cpy f s t i) 360 0 (0, f) (by omega) ⟨rfl, e0⟩ (fun n z e => ?_) (fun n i z hi e ih => ?_)
  · refine And.intro (fun _ => by rw [e.1, e.2]; exact h) (fun c => absurd (Int32.le_refl _) c)
  · refine And.intro (fun c => absurd c (nI_ge (b := 360) hi (by omega))) (fun _ => ?_)
    obtain ⟨z1, z2⟩ := z
    obtain ⟨e1, e2⟩ := e
    dsimp only at e1 e2 ⊢
    have i1 : nI s * 360 + nI i = nI (s * 360 + i) := by show nI s * nI 360 + nI i = _; rw [pk_mul, nI_add]
    have i2 : nI t * 360 + nI i = nI (t * 360 + i) := by show nI t * nI 360 + nI i = _; rw [pk_mul, nI_add]
    rw [i1, i2, nI_clamp (by omega), nI_clamp (by omega)]
    have v1 : z2 (s * 360 + i) = f (s * 360 + i) := by
      rw [e2, cpy, if_neg]
      intro q
      rcases Nat.lt_or_ge s t with z | z <;> omega
    have v2 : z2 (t * 360 + i) = f (t * 360 + i) := by
      rw [e2, cpy, if_neg (by omega)]
    have nx : upd z2 (t * 360 + i) (z2 (s * 360 + i)) = cpy f s t (i + 1) := by
      funext j
      by_cases hj : j = t * 360 + i
      · subst hj
        rw [pk_us, v1, cpy, if_pos (by omega)]
        congr 1
        omega
      · rw [pk_un hj, e2, cpy, cpy]
        by_cases q : t * 360 ≤ j ∧ j < t * 360 + i
        · rw [if_pos q, if_pos (by omega)]
        · rw [if_neg q, if_neg (by omega)]
    refine ⟨vp_in_nI (by omega) (by omega), vp_in_nI (by omega) (by omega), fun c => ?_, fun c => ?_⟩
    · refine ⟨vp_in_nI (by omega) (by omega), ?_⟩
      rw [nI_1, nI_clamp (by omega)]
      refine ih (_, _) ⟨?_, nx⟩
      show z1 + 0 = sm _ i + cpyN f s t i
      rw [cpyN, if_pos (by rw [← v1, ← v2]; exact c), e1]
    · refine ⟨vp_in_nI (by omega) (by omega), ?_⟩
      rw [nI_1, nI_clamp (by omega)]
      refine ih (_, _) ⟨?_, nx⟩
      show z1 + 1 = sm _ i + cpyN f s t i
      rw [cpyN, if_neg (by rw [← v1, ← v2]; exact c), e1]
/-- no cell of the leaf is set -/
def blk (f : Ar) (k : Nat) : Prop := ∀ l, l < 4 → ∀ o, o < 36 → f (l * 360 + k * 36 + o) = 0
theorem s_isBlank {f : Ar} {k : Nat} {Q : Int32 → Prop} (hk : k < 10) (h1 : blk f k → Q 1) (h0 : ¬ blk f k → Q 0) : vX0_isBlank f (nI k) Q := by
  refine pk_loop (fun n i (_ : Unit) => vX0_isBlank_L2 f (nI k) Q n (nI i)) (fun i _ => ∀ l, l < i → ∀ o, o < 36 → f (l * 360 + k * 36 + o) = 0) 4 0 () (by omega) (fun _ h => absurd h (Nat.not_lt_zero _)) (fun n _ e => ?_) (fun n i _ hi e ih => ?_)
  · refine And.intro (fun _ => h1 e) (fun c => absurd (Int32.le_refl _) c)
  · refine And.intro (fun c => absurd c (nI_ge (b := 4) hi (by omega))) (fun _ => ?_)
    refine pk_loop (fun n' o (_ : Unit) => vX0_isBlank_L9 f (nI k) (nI i) (vX0_isBlank_L2 f (nI k) Q n) Q n' (nI o)) (fun o _ => ∀ o', o' < o → f (i * 360 + k * 36 + o') = 0) 36 0 () (by omega) (fun _ h => absurd h (Nat.not_lt_zero _)) (fun n' _ e' => ?_) (fun n' o _ ho e' ih' => ?_)
    · refine And.intro (fun _ => ?_) (fun c => absurd (Int32.le_refl _) c)
      rw [nI_1]
      refine ih () (fun l hl o ho => ?_)
      rcases Nat.lt_or_ge l i with q | q
      · exact e l q o ho
      · have : l = i := by omega
        subst this
        exact e' o ho
    · refine And.intro (fun c => absurd c (nI_ge (b := 36) ho (by omega))) (fun _ => ?_)
      have i1 : nI i * 360 + nI k * 36 + nI o = nI (i * 360 + k * 36 + o) := by show nI i * nI 360 + nI k * nI 36 + nI o = _; rw [pk_mul, pk_mul, nI_add, nI_add]
      rw [i1, nI_clamp (by omega)]
      refine ⟨vp_in_nI (by omega) (by omega), fun c => ?_, fun c => h0 (fun z => c (z i hi o ho))⟩
      rw [nI_1]
      refine ih' () (fun o' ho' => ?_)
      rcases Nat.lt_or_ge o' o with q | q
      · exact e' o' q
      · have : o' = o := by omega
        subst this
        exact c
theorem s_countFilled {f : Ar} {Q : Int32 → Prop} (h : Q (sm (fun j => if f j = 0 then 0 else 1) 1440)) : vX0_countFilled f Q := by
  refine pk_loop (fun n i (s : Int32) => vX0_countFilled_L4 f Q n s (nI i)) (fun i s => s = sm (fun j => if f j = 0 then 0 else 1) i) 1440 0 0 (by omega) rfl (fun n s e => ?_) (fun n i s hi e ih => ?_)
  · refine And.intro (fun _ => by rw [e]; exact h) (fun c => absurd (Int32.le_refl _) c)
  · refine And.intro (fun c => absurd c (nI_ge (b := 1440) hi (by omega))) (fun _ => ?_)
    rw [nI_clamp (by omega), nI_1]
    refine ⟨vp_in_nI hi (by omega), fun c => ih _ ?_, fun c => ih _ ?_⟩
    · show s + 0 = sm _ i + (if f i = 0 then 0 else 1)
      rw [← e, if_pos c]
    · show s + 1 = sm _ i + (if f i = 0 then 0 else 1)
      rw [← e, if_neg c]
