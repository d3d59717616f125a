/-! a year's spread -/
def RS (seW msea : Ar) : Prop := ∀ j, j < 12 → seW j = msea j ∧ ∃ w, w ≤ 100 ∧ seW j = nI w
def wn (seW : Ar) (j : Nat) : Nat := (seW j).toNatClampNeg
theorem wn_eq {seW msea : Ar} (S : RS seW msea) {j : Nat} (hj : j < 12) : seW j = nI (wn seW j) ∧ msea j = nI (wn seW j) ∧ wn seW j ≤ 100 := by
  obtain ⟨e, w, h1, h2⟩ := S j hj
  unfold wn
  rw [← e, h2, nI_clamp (by omega)]
  exact ⟨rfl, rfl, h1⟩
theorem ns_ext {w w' : Nat → Nat} : ∀ {n : Nat}, (∀ j, j < n → w j = w' j) → ns w n = ns w' n
  | 0, _ => rfl
  | n + 1, e => by
    show ns w n + w n = ns w' n + w' n
    rw [ns_ext (fun j hj => e j (by omega)), e n (by omega)]
def sS (seW : Ar) (sum j : Nat) : Nat := shr sum (ns (wn seW) 12) (wn seW) (lf0 (qs sum (ns (wn seW) 12) (wn seW)) sum 12) j
theorem sS_le {seW : Ar} {sum j : Nat} (hs : sum ≤ 1000000) (hj : j < 12) : sS seW sum j ≤ 1000001 := by
  have := shr_le (am := sum) (T := ns (wn seW) 12) (w := wn seW) (L0 := lf0 (qs sum (ns (wn seW) 12) (wn seW)) sum 12) (k := j) (ns_in hj)
  unfold sS
  omega
def yF (f : Ar) (L : Nat → Bool) (h cl : Nat → Nat → Bool) (v : Nat) (g : Nat → Nat) : Nat → Ar
  | 0 => f
  | i + 1 => sR (yF f L h cl v g i) L (Fr L h cl v i) v i (g i) 0
def yC (f : Ar) (L : Nat → Bool) (h cl : Nat → Nat → Bool) (v : Nat) (g : Nat → Nat) : Nat → Int32
  | 0 => 0
  | i + 1 => yC f L h cl v g i + sK (yF f L h cl v g i) L (Fr L h cl v i) v i (g i) 0
theorem yF_RA {f : Ar} {L : Nat → Bool} {h cl : Nat → Nat → Bool} {v : Nat} {g : Nat → Nat} (A : RA f) (hg : ∀ j, j < 12 → g j ≤ 1000001) : ∀ {i : Nat}, i ≤ 12 → RA (yF f L h cl v g i)
  | 0, _ => A
  | i + 1, hi => sR_RA (yF_RA A hg (i := i) (by omega)) (hg i (by omega))
theorem yF_far {f : Ar} {L : Nat → Bool} {h cl : Nat → Nat → Bool} {v m k : Nat} {g : Nat → Nat} (hm : m < 12) (hk : k < 10) : ∀ {i : Nat}, i ≤ m → yF f L h cl v g i (v * 360 + k * 36 + 2 * 12 + m) = f (v * 360 + k * 36 + 2 * 12 + m)
  | 0, _ => rfl
  | i + 1, hi => by
    show spF (yF f L h cl v g i) _ v i _ 10 _ = _
    rw [spF_far (fun k' hk' => by omega)]
    exact yF_far hm hk (by omega)
theorem can_far {f : Ar} {L : Nat → Bool} {h cl : Nat → Nat → Bool} {v i s : Nat} {g : Nat → Nat} (hi : i < 12) (k : can f L (Fr L h cl v i) v i s) : can (yF f L h cl v g i) L (Fr L h cl v i) v i s := by
  refine ⟨k.1, ?_⟩
  have e : hsum (yF f L h cl v g i) L (Fr L h cl v i) v i = hsum f L (Fr L h cl v i) v i := by
    unfold hsum
    refine ns_ext (fun j hj => ?_)
    have : cn (yF f L h cl v g i) v i j = cn f v i j := by
      unfold cn
      rw [yF_far hi hj (Nat.le_refl _)]
    rw [this]
  rw [e]
  exact k.2
/-- the year can be spread -/
def canY (f : Ar) (L : Nat → Bool) (h cl : Nat → Nat → Bool) (v : Nat) (g : Nat → Nat) : Prop := ∀ m, m < 12 → can f L (Fr L h cl v m) v m (g m)
section YEAR
variable {c : Nat} {p : Nat → Nat} {cnt pwc pl thr : Int32} {par mpar : Ar} {h cl : Nat → Nat → Bool} {held mhel clos mclo : Ar} {f seW seS msea leW leS mwei msha mmon : Ar} {t v : Nat} {g : Nat → Nat}
theorem s_sY93 {x : Int32} {L : Nat → Bool} {Q : Int32 → (Ar × Ar × Ar × Ar) → Prop} (H : RH h held mhel) (C : RC c p cl clos mclo) (A : RA f) (hv : v < 3) (hx : Bs x L) (l10 : leW 10 = 0) (l11 : leW 11 = 0) (hL : ∀ k, 10 ≤ k → L k = false) (hg : ∀ j, j < 12 → g j ≤ 1000001) (hS : ∀ j, j < 12 → seS j = nI (g j))
    (k : canY f L h cl v g) (q : ∀ lw ls : Ar, lw 10 = 0 → lw 11 = 0 → Q (yC f L h cl v g 12) (yF f L h cl v g 12, seS, lw, ls)) : ∃ n, vX3_spreadYear_L93 cnt pwc par held clos seW seS (nI v) x Q n 0 0 f leW leS := by
  refine pk_loop (fun n i (s : Int32 × Ar × Ar × Ar) => vX3_spreadYear_L93 cnt pwc par held clos seW seS (nI v) x Q n s.1 (nI i) s.2.1 s.2.2.1 s.2.2.2) (fun i s => s.1 = yC f L h cl v g i ∧ s.2.1 = yF f L h cl v g i ∧ s.2.2.1 10 = 0 ∧ s.2.2.1 11 = 0) 12 0 (0, f, leW, leS) (by omega) ⟨rfl, rfl, l10, l11⟩ (fun n s e => ?_) (fun n i s hi e ih => ?_)
  · refine And.intro (fun _ => ?_) (fun c => absurd (Int32.le_refl _) c)
    rw [e.1, e.2.1]
    exact q _ _ e.2.2.1 e.2.2.2
  · obtain ⟨s, b, lw, ls⟩ := s
    obtain ⟨e1, e2, e3, e4⟩ := e
    dsimp only at e1 e2 e3 e4 ih ⊢
    refine And.intro (fun c => absurd c (nI_ge (b := 12) hi (by omega))) (fun _ => ?_)
    unfold vX1_shareOf
    rw [nI_clamp (n := i) (by omega), hS i hi]
    refine ⟨vp_in_nI hi (by omega), ?_⟩
    subst e2
    refine s_spreadOver (way := 0) H C (yF_RA A hg (by omega)) hv hi (hg i hi) (by omega) hx e3 e4 hL (can_far hi (k i hi)) (fun lw ls y1 y2 => ?_)
    rw [nI_1]
    refine ih (_, _, _, _) ⟨?_, rfl, y1, y2⟩
    show s + _ = yC f L h cl v g i + _
    rw [e1]
theorem s_sY56 {x : Int32} {L : Nat → Bool} {Q : Int32 → (Ar × Ar × Ar × Ar) → Prop} (H : RH h held mhel) (C : RC c p cl clos mclo) (A : RA f) (hv : v < 3) (hx : Bs x L) (l10 : leW 10 = 0) (l11 : leW 11 = 0) (hL : ∀ k, 10 ≤ k → L k = false) (hg : ∀ j, j < 12 → g j ≤ 1000001) (hS : ∀ j, j < 12 → seS j = nI (g j))
    (k : canY f L h cl v g) (q : ∀ lw ls : Ar, lw 10 = 0 → lw 11 = 0 → Q (yC f L h cl v g 12) (yF f L h cl v g 12, seS, lw, ls)) : ∃ n, vX3_spreadYear_L56 cnt pwc par f held clos seW seS leW leS (nI v) x Q n 0 := by
  refine pk_loop (fun n i (_ : Unit) => vX3_spreadYear_L56 cnt pwc par f held clos seW seS leW leS (nI v) x Q n (nI i)) (fun _ _ => True) 12 0 () (by omega) trivial (fun n _ _ => ?_) (fun n i _ hi _ ih => ?_)
  · exact And.intro (fun _ => s_sY93 H C A hv hx l10 l11 hL hg hS k q) (fun c => absurd (Int32.le_refl _) c)
  · refine And.intro (fun c => absurd c (nI_ge (b := 12) hi (by omega))) (fun _ => ?_)
    unfold vX1_shareOf
    rw [nI_clamp (n := i) (by omega), hS i hi, nI_1]
    exact ⟨vp_in_nI hi (by omega), v_spr H C A hv hi (hg i hi) hx (k i hi) (ih () trivial)⟩
theorem z_sY56 {x : Int32} {L : Nat → Bool} {X : String → (Ar × Ar × Ar × Ar) → Prop} (H : RH h held mhel) (C : RC c p cl clos mclo) (A : RA f) (hv : v < 3) (hx : Bs x L) (hg : ∀ j, j < 12 → g j ≤ 1000001) (hS : ∀ j, j < 12 → seS j = nI (g j))
    (k : ¬ canY f L h cl v g) (q : X eIS (f, seS, leW, leS)) : ∃ n, zX3_spreadYear_L56 cnt pwc par f held clos seW seS leW leS (nI v) x X n 0 := by
  have ex : ∃ m, m < 12 ∧ ¬ can f L (Fr L h cl v m) v m (g m) := by
    apply Classical.byContradiction
    intro no
    refine k (fun m hm => ?_)
    apply Classical.byContradiction
    intro w
    exact no ⟨m, hm, w⟩
  obtain ⟨m0, ⟨hm, hn⟩, hl⟩ := pk_least _ ex
  refine pk_loop (fun n i (_ : Unit) => zX3_spreadYear_L56 cnt pwc par f held clos seW seS leW leS (nI v) x X n (nI i)) (fun _ _ => True) m0 0 () (by omega) trivial (fun n _ _ => ?_) (fun n i _ hi _ ih => ?_)
  · refine And.intro (fun c => absurd c (nI_ge (b := 12) hm (by omega))) (fun _ => ?_)
    unfold vX1_shareOf
    rw [nI_clamp (n := m0) (by omega), hS m0 hm]
    exact ⟨vp_in_nI hm (by omega), Or.inl (z_spr H C A hv hm (hg m0 hm) hx hn q)⟩
  · have hi12 : i < 12 := by omega
    refine And.intro (fun c => absurd c (nI_ge (b := 12) hi12 (by omega))) (fun _ => ?_)
    have ki : can f L (Fr L h cl v i) v i (g i) := by
      apply Classical.byContradiction
      intro w
      exact hl i hi ⟨hi12, w⟩
    unfold vX1_shareOf
    rw [nI_clamp (n := i) (by omega), hS i hi12, nI_1]
    exact ⟨vp_in_nI hi12 (by omega), Or.inr (v_spr H C A hv hi12 (hg i hi12) hx ki (ih () trivial))⟩
end YEAR
