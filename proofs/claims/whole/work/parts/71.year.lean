/-! a year's spread -/
def RS (seW msea : Ar) : Prop := ∀ j, j < 12 → seW j = msea j ∧ ∃ w, w ≤ 100 ∧ seW j = nI w
def wn (seW : Ar) (j : Nat) : Nat := (seW j).toNatClampNeg
theorem wn_eq {seW msea : Ar} (S : RS seW msea) {j : Nat} (hj : j < 12) : seW j = nI (wn seW j) ∧ msea j = nI (wn seW j) ∧ wn seW j ≤ 100 := by
  obtain ⟨e, w, h1, h2⟩ := S j hj
  unfold wn
  rw [← e, h2, nI_clamp (by omega)]
  exact ⟨rfl, rfl, h1⟩
theorem ns_ext {w w' : Nat → Nat} : ∀ {n : Nat}, (∀ j, j < n → w j = w' j) → ns w n = ns w' n
  | 0, _ => rfl
  | n + 1, e => by
    show ns w n + w n = ns w' n + w' n
    rw [ns_ext (fun j hj => e j (by omega)), e n (by omega)]
def sS (seW : Ar) (sum j : Nat) : Nat := shr sum (ns (wn seW) 12) (wn seW) (lf0 (qs sum (ns (wn seW) 12) (wn seW)) sum 12) j
theorem sS_le {seW : Ar} {sum j : Nat} (hs : sum ≤ 1000000) (hj : j < 12) : sS seW sum j ≤ 1000001 := by
  have := shr_le (am := sum) (T := ns (wn seW) 12) (w := wn seW) (L0 := lf0 (qs sum (ns (wn seW) 12) (wn seW)) sum 12) (k := j) (ns_in hj)
  unfold sS
  omega
def yF (f : Ar) (L : Nat → Bool) (h cl : Nat → Nat → Bool) (v : Nat) (g : Nat → Nat) : Nat → Ar
  | 0 => f
  | i + 1 => sR (yF f L h cl v g i) L (Fr L h cl v i) v i (g i) 0
def yC (f : Ar) (L : Nat → Bool) (h cl : Nat → Nat → Bool) (v : Nat) (g : Nat → Nat) : Nat → Int32
  | 0 => 0
  | i + 1 => yC f L h cl v g i + sK (yF f L h cl v g i) L (Fr L h cl v i) v i (g i) 0
theorem yF_RA {f : Ar} {L : Nat → Bool} {h cl : Nat → Nat → Bool} {v : Nat} {g : Nat → Nat} (A : RA f) (hg : ∀ j, j < 12 → g j ≤ 1000001) : ∀ {i : Nat}, i ≤ 12 → RA (yF f L h cl v g i)
  | 0, _ => A
  | i + 1, hi => sR_RA (yF_RA A hg (i := i) (by omega)) (hg i (by omega))
theorem yF_far {f : Ar} {L : Nat → Bool} {h cl : Nat → Nat → Bool} {v m k : Nat} {g : Nat → Nat} (hm : m < 12) (hk : k < 10) : ∀ {i : Nat}, i ≤ m → yF f L h cl v g i (v * 360 + k * 36 + 2 * 12 + m) = f (v * 360 + k * 36 + 2 * 12 + m)
  | 0, _ => rfl
  | i + 1, hi => by
    show spF (yF f L h cl v g i) _ v i _ 10 _ = _
    rw [spF_far (fun k' hk' => by omega)]
    exact yF_far hm hk (by omega)
theorem can_far {f : Ar} {L : Nat → Bool} {h cl : Nat → Nat → Bool} {v i s : Nat} {g : Nat → Nat} (hi : i < 12) (k : can f L (Fr L h cl v i) v i s) : can (yF f L h cl v g i) L (Fr L h cl v i) v i s := by
  refine ⟨k.1, ?_⟩
  have e : hsum (yF f L h cl v g i) L (Fr L h cl v i) v i = hsum f L (Fr L h cl v i) v i := by
    unfold hsum
    refine ns_ext (fun j hj => ?_)
    have : cn (yF f L h cl v g i) v i j = cn f v i j := by
      unfold cn
      rw [yF_far hi hj (Nat.le_refl _)]
    rw [this]
  rw [e]
  exact k.2
/-- the year can be spread -/
def canY (f : Ar) (L : Nat → Bool) (h cl : Nat → Nat → Bool) (v : Nat) (g : Nat → Nat) : Prop := ∀ m, m < 12 → can f L (Fr L h cl v m) v m (g m)
section YEAR
variable {c : Nat} {p : Nat → Nat} {cnt pwc pl thr : Int32} {par mpar : Ar} {h cl : Nat → Nat → Bool} {held mhel clos mclo : Ar} {f seW seS msea leW leS mwei msha mmon : Ar} {t v : Nat} {g : Nat → Nat}
theorem s_sY93 {x : Int32} {L : Nat → Bool} {Q : Int32 → (Ar × Ar × Ar × Ar) → Prop} (H : RH h held mhel) (C : RC c p cl clos mclo) (A : RA f) (hv : v < 3) (hx : Bs x L) (l10 : leW 10 = 0) (l11 : leW 11 = 0) (hL : ∀ k, 10 ≤ k → L k = false) (hg : ∀ j, j < 12 → g j ≤ 1000001) (hS : ∀ j, j < 12 → seS j = nI (g j))
    (k : canY f L h cl v g) (q : ∀ lw ls : Ar, lw 10 = 0 → lw 11 = 0 → Q (yC f L h cl v g 12) (yF f L h cl v g 12, seS, lw, ls)) : ∃ n, vX3_spreadYear_L93 cnt pwc par held clos seW seS (nI v) x Q n 0 0 f leW leS := by
  refine pk_loop (fun n i (s : Int32 × Ar × Ar × Ar) => vX3_spreadYear_L93 cnt pwc par held clos seW seS (nI v) x Q n s.1 (nI i) s.2.1 s.2.2.1 s.2.2.2) (fun i s => s.1 = yC f L h cl v g i ∧ s.2.1 = yF f L h cl v g i ∧ s.2.2.1 10 = 0 ∧ s.2.2.1 11 = 0) 12 0 (0, f, leW, leS) (by omega) ⟨rfl, rfl, l10, l11⟩ (fun n s e => ?_) (fun n i s hi e ih => ?_)
  · refine And.intro (fun _ => ?_) (fun c => absurd (Int32.le_refl _) c)
    rw [e.1, e.2.1]
    exact q _ _ e.2.2.1 e.2.2.2
  · obtain ⟨s, b, lw, ls⟩ := s
    obtain ⟨e1, e2, e3, e4⟩ := e
    dsimp only at e1 e2 e3 e4 ih ⊢
    refine And.intro (fun c => absurd c (nI_ge (b := 12) hi (by omega))) (fun _ => ?_)
    unfold vX1_shareOf
    rw [nI_clamp (n := i) (by omega), hS i hi]
    refine ⟨vp_in_nI hi (by omega), ?_⟩
    subst e2
    refine s_spreadOver (way := 0) H C (yF_RA A hg (by omega)) hv hi (hg i hi) (by omega) hx e3 e4 hL (can_far hi (k i hi)) (fun lw ls y1 y2 => ?_)
    rw [nI_1]
    refine ih (_, _, _, _) ⟨?_, rfl, y1, y2⟩
    show s + _ = yC f L h cl v g i + _
    rw [e1]
theorem s_sY56 {x : Int32} {L : Nat → Bool} {Q : Int32 → (Ar × Ar × Ar × Ar) → Prop} (H : RH h held mhel) (C : RC c p cl clos mclo) (A : RA f) (hv : v < 3) (hx : Bs x L) (l10 : leW 10 = 0) (l11 : leW 11 = 0) (hL : ∀ k, 10 ≤ k → L k = false) (hg : ∀ j, j < 12 → g j ≤ 1000001) (hS : ∀ j, j < 12 → seS j = nI (g j))
    (k : canY f L h cl v g) (q : ∀ lw ls : Ar, lw 10 = 0 → lw 11 = 0 → Q (yC f L h cl v g 12) (yF f L h cl v g 12, seS, lw, ls)) : ∃ n, vX3_spreadYear_L56 cnt pwc par f held clos seW seS leW leS (nI v) x Q n 0 := by
  refine pk_loop (fun n i (_ : Unit) => vX3_spreadYear_L56 cnt pwc par f held clos seW seS leW leS (nI v) x Q n (nI i)) (fun _ _ => True) 12 0 () (by omega) trivial (fun n _ _ => ?_) (fun n i _ hi _ ih => ?_)
  · exact And.intro (fun _ => s_sY93 H C A hv hx l10 l11 hL hg hS k q) (fun c => absurd (Int32.le_refl _) c)
  · refine And.intro (fun c => absurd c (nI_ge (b := 12) hi (by omega))) (fun _ => ?_)
    unfold vX1_shareOf
    rw [nI_clamp (n := i) (by omega), hS i hi, nI_1]
    exact ⟨vp_in_nI hi (by omega), v_spr H C A hv hi (hg i hi) hx (k i hi) (ih () trivial)⟩
theorem z_sY56 {x : Int32} {L : Nat → Bool} {X : String → (Ar × Ar × Ar × Ar) → Prop} (H : RH h held mhel) (C : RC c p cl clos mclo) (A : RA f) (hv : v < 3) (hx : Bs x L) (hg : ∀ j, j < 12 → g j ≤ 1000001) (hS : ∀ j, j < 12 → seS j = nI (g j))
    (k : ¬ canY f L h cl v g) (q : X eIS (f, seS, leW, leS)) : ∃ n, zX3_spreadYear_L56 cnt pwc par f held clos seW seS leW leS (nI v) x X n 0 := by
  have ex : ∃ m, m < 12 ∧ ¬ can f L (Fr L h cl v m) v m (g m) := by
    apply Classical.byContradiction
    intro no
    refine k (fun m hm => ?_)
    apply Classical.byContradiction
    intro w
    exact no ⟨m, hm, w⟩
  obtain ⟨m0, ⟨hm, hn⟩, hl⟩ := pk_least _ ex
  refine pk_loop (fun n i (_ : Unit) => zX3_spreadYear_L56 cnt pwc par f held clos seW seS leW leS (nI v) x X n (nI i)) (fun _ _ => True) m0 0 () (by omega) trivial (fun n _ _ => ?_) (fun n i _ hi _ ih => ?_)
  · refine And.intro (fun c => absurd c (nI_ge (b := 12) hm (by omega))) (fun _ => ?_)
    unfold vX1_shareOf
    rw [nI_clamp (n := m0) (by omega), hS m0 hm]
    exact ⟨vp_in_nI hm (by omega), Or.inl (z_spr H C A hv hm (hg m0 hm) hx hn q)⟩
  · have hi12 : i < 12 := by omega
    refine And.intro (fun c => absurd c (nI_ge (b := 12) hi12 (by omega))) (fun _ => ?_)
    have ki : can f L (Fr L h cl v i) v i (g i) := by
      apply Classical.byContradiction
      intro w
      exact hl i hi ⟨hi12, w⟩
    unfold vX1_shareOf
    rw [nI_clamp (n := i) (by omega), hS i hi12, nI_1]
    exact ⟨vp_in_nI hi12 (by omega), Or.inr (v_spr H C A hv hi12 (hg i hi12) hx ki (ih () trivial))⟩
theorem m_sy_bad {x1 x2 x3 : Int32} {Q : Int32 → (Int32 × Ar × Ar × Ar × Ar) → Prop} (h3 : ¬ thr = 3) (h0 : ¬ thr ≤ 0) (q : ∀ mw, Q 0 (thr, f, mw, msha, mmon)) : ∃ n, vX4_spreadYear_L41 pl mpar f mhel mclo msea msha mmon x1 x2 x3 Q n 0 thr mwei := by
  refine pk_loop (fun n i (mw : Ar) => vX4_spreadYear_L41 pl mpar f mhel mclo msea msha mmon x1 x2 x3 Q n (nI i) thr mw) (fun _ _ => True) 12 0 mwei (by omega) trivial (fun n mw _ => ?_) (fun n i mw hi _ ih => ?_)
  · exact And.intro (fun _ => ⟨fun z => absurd z h0, fun _ => q mw⟩) (fun c => absurd (Int32.le_refl _) c)
  · refine And.intro (fun c => absurd c (nI_ge (b := 12) hi (by omega))) (fun _ => ?_)
    rw [nI_1]
    exact ⟨vp_in_nI hi (by omega), vp_in_nI hi (by omega), fun _ => ih _ trivial, fun z => absurd z h3⟩
theorem m_sy181 {Q : Int32 → (Int32 × Ar × Ar × Ar × Ar) → Prop} (R : RT3 c p cnt pwc par pl mpar) (H : RH h held mhel) (C : RC c p cl clos mclo) (A : RA f) (ht : t < c) (hv : v < 3) (hg : ∀ j, j < 12 → g j ≤ 1000001) (hM : ∀ j, j < 12 → mmon j = nI (g j))
    (k : canY f (lf p c t) h cl v g) (q : ∀ mw ms : Ar, Q (yC f (lf p c t) h cl v g 12) (0, yF f (lf p c t) h cl v g 12, mw, ms, mmon)) : ∃ n, vX4_spreadYear_L181 pl 0 mpar mhel mclo msea mmon (nI v) (nI t) Q n 0 0 f mwei msha := by
  refine pk_loop (fun n i (s : Int32 × Ar × Ar × Ar) => vX4_spreadYear_L181 pl 0 mpar mhel mclo msea mmon (nI v) (nI t) Q n s.1 (nI i) s.2.1 s.2.2.1 s.2.2.2) (fun i s => s.1 = yC f (lf p c t) h cl v g i ∧ s.2.1 = yF f (lf p c t) h cl v g i) 12 0 (0, f, mwei, msha) (by omega) ⟨rfl, rfl⟩ (fun n s e => ?_) (fun n i s hi e ih => ?_)
  · refine And.intro (fun _ => ?_) (fun c => absurd (Int32.le_refl _) c)
    rw [e.1, e.2]
    exact q _ _
  · obtain ⟨s, b, lw, ls⟩ := s
    obtain ⟨e1, e2⟩ := e
    dsimp only at e1 e2 ih ⊢
    refine And.intro (fun c => absurd c (nI_ge (b := 12) hi (by omega))) (fun _ => i0' ?_)
    rw [nI_clamp (n := i) (by omega), hM i hi]
    refine ⟨vp_in_nI hi (by omega), ?_⟩
    subst e2
    refine m_spreads (way := 0) R H C (yF_RA A hg (by omega)) ht hv hi (hg i hi) (by omega) (can_far hi (k i hi)) (fun mw ms => ?_)
    rw [nI_1]
    refine ih (_, _, _, _) ⟨?_, rfl⟩
    show s + _ = yC f (lf p c t) h cl v g i + _
    rw [e1]
theorem m_sy117 {Q : Int32 → (Int32 × Ar × Ar × Ar × Ar) → Prop} (R : RT3 c p cnt pwc par pl mpar) (H : RH h held mhel) (C : RC c p cl clos mclo) (A : RA f) (ht : t < c) (hv : v < 3) (hg : ∀ j, j < 12 → g j ≤ 1000001) (hS : ∀ j, j < 12 → msha j = nI (g j))
    (q : canY f (lf p c t) h cl v g → ∀ mw ms mm : Ar, Q (yC f (lf p c t) h cl v g 12) (0, yF f (lf p c t) h cl v g 12, mw, ms, mm)) (q' : ¬ canY f (lf p c t) h cl v g → ∀ mw ms mm : Ar, Q 0 (3, f, mw, ms, mm)) : ∃ n, vX4_spreadYear_L117 pl mpar f mhel mclo msea mwei msha (nI v) (nI t) Q n 0 0 mmon := by
  refine pk_loop (fun n i (s : Int32 × Ar) => vX4_spreadYear_L117 pl mpar f mhel mclo msea mwei msha (nI v) (nI t) Q n (nI i) s.1 s.2) (fun i s => ((s.1 = 0 ∧ ∀ j, j < i → can f (lf p c t) (Fr (lf p c t) h cl v j) v j (g j)) ∨ (s.1 = 3 ∧ ¬ canY f (lf p c t) h cl v g)) ∧ ∀ j, j < i → s.2 j = nI (g j)) 12 0 (0, mmon) (by omega) ⟨Or.inl ⟨rfl, fun _ z => absurd z (Nat.not_lt_zero _)⟩, fun _ z => absurd z (Nat.not_lt_zero _)⟩ (fun n s e => ?_) (fun n i s hi e ih => ?_)
  · obtain ⟨th, mm⟩ := s
    obtain ⟨e1, e2⟩ := e
    dsimp only at e1 e2 ⊢
    refine And.intro (fun _ => ?_) (fun c => absurd (Int32.le_refl _) c)
    rcases e1 with ⟨rfl, e1⟩ | ⟨rfl, e1⟩
    · exact m_sy181 R H C A ht hv hg e2 e1 (fun mw ms => q e1 mw ms mm)
    · exact ⟨1, And.intro (fun z => absurd z (by decide)) (fun _ => ⟨fun _ => q' e1 _ _ _, fun z => absurd z (by decide)⟩)⟩
  · obtain ⟨th, mm⟩ := s
    obtain ⟨e1, e2⟩ := e
    dsimp only at e1 e2 ih ⊢
    refine And.intro (fun c => absurd c (nI_ge (b := 12) hi (by omega))) (fun _ => ?_)
    rw [nI_clamp (n := i) (by omega), nI_1, pk_us, hS i hi]
    have i12 : vp_in (nI i) 12 := vp_in_nI hi (by omega)
    have st : ∀ j, j < i + 1 → upd mm i (nI (g i)) j = nI (g j) := by
      intro j hj
      by_cases z : j = i
      · subst z
        rw [pk_us]
      · rw [pk_un z]
        exact e2 j (by omega)
    refine ⟨i12, i12, i12, m_rest R H C A ht hv hi (hg i hi) (fun k => ?_) (fun k => ?_)⟩
    · refine ⟨fun _ => ih (_, _) ⟨?_, st⟩, fun z => absurd z (nI_nm1 (by have := hg i hi; omega))⟩
      rcases e1 with ⟨rfl, e1⟩ | e1
      · refine Or.inl ⟨rfl, fun j hj => ?_⟩
        rcases Nat.lt_or_ge j i with y | y
        · exact e1 j y
        · have : j = i := by omega
          subst this
          exact k
      · exact Or.inr e1
    · exact ⟨fun z => absurd rfl z, fun _ => ih (_, _) ⟨Or.inr ⟨rfl, fun w => k (w i hi)⟩, st⟩⟩
theorem m_sy {sum : Nat} {Q : Int32 → (Int32 × Ar × Ar × Ar × Ar) → Prop} (R : RT3 c p cnt pwc par pl mpar) (H : RH h held mhel) (C : RC c p cl clos mclo) (A : RA f) (S : RS seW msea) (ht : t < c) (hv : v < 3) (hs : sum ≤ 1000000)
    (q : ns (wn seW) 12 ≠ 0 → canY f (lf p c t) h cl v (sS seW sum) → ∀ mw ms mm : Ar, Q (yC f (lf p c t) h cl v (sS seW sum) 12) (0, yF f (lf p c t) h cl v (sS seW sum) 12, mw, ms, mm)) (q' : (ns (wn seW) 12 = 0 ∨ ¬ canY f (lf p c t) h cl v (sS seW sum)) → ∀ mw ms mm : Ar, Q 0 (3, f, mw, ms, mm)) : ∃ n, vX4_spreadYear_L41 pl mpar f mhel mclo msea msha mmon (nI v) (nI t) (nI sum) Q n 0 3 mwei := by
  refine pk_loop (fun n i (s : Int32 × Ar) => vX4_spreadYear_L41 pl mpar f mhel mclo msea msha mmon (nI v) (nI t) (nI sum) Q n (nI i) s.1 s.2) (fun i s => s.1 = (if ns (wn seW) i = 0 then 3 else 0) ∧ ∀ j, j < i → s.2 j = nI (wn seW j)) 12 0 (3, mwei) (by omega) ⟨rfl, fun _ z => absurd z (Nat.not_lt_zero _)⟩ (fun n s e => ?_) (fun n i s hi e ih => ?_)
  · obtain ⟨th, mw⟩ := s
    obtain ⟨e1, e2⟩ := e
    dsimp only at e1 e2 ⊢
    refine And.intro (fun _ => ?_) (fun c => absurd (Int32.le_refl _) c)
    by_cases z : ns (wn seW) 12 = 0
    · rw [e1, if_pos z]
      exact ⟨fun w => absurd w (by decide), fun _ => q' (Or.inl z) _ _ _⟩
    · rw [e1, if_neg z]
      refine ⟨fun _ => ?_, fun w => absurd (Int32.le_refl _) w⟩
      refine m_shares (c := 12) (w := wn seW) (Nat.le_refl _) e2 (fun j hj => ?_) (by omega) (by omega) (fun sh hsh => ?_)
      · have := (wn_eq S hj).2.2
        omega
      · exact m_sy117 R H C A ht hv (fun j hj => sS_le hs hj) hsh (fun k => q z k) (fun k => q' (Or.inr k))
  · obtain ⟨th, mw⟩ := s
    obtain ⟨e1, e2⟩ := e
    dsimp only at e1 e2 ih ⊢
    refine And.intro (fun c => absurd c (nI_ge (b := 12) hi (by omega))) (fun _ => ?_)
    have hw := wn_eq S hi
    rw [nI_clamp (n := i) (by omega), nI_1, hw.2.1]
    have i12 : vp_in (nI i) 12 := vp_in_nI hi (by omega)
    have st : ∀ j, j < i + 1 → upd mw i (nI (wn seW i)) j = nI (wn seW j) := by
      intro j hj
      by_cases z : j = i
      · subst z
        rw [pk_us]
      · rw [pk_un z]
        exact e2 j (by omega)
    have es : ns (wn seW) (i + 1) = ns (wn seW) i + wn seW i := rfl
    refine ⟨i12, i12, fun z => ih (_, _) ⟨?_, st⟩, fun z => ⟨i12, fun y => ih (_, _) ⟨?_, st⟩, fun y => ih (_, _) ⟨?_, st⟩⟩⟩
    · show th = _
      have w : ns (wn seW) i ≠ 0 := fun w => z (by rw [e1, if_pos w])
      rw [e1, if_neg w, if_neg (by omega)]
    · show th = _
      have y := (nI_leI (b := 0) (by omega) (by omega)).mp y
      have w : ns (wn seW) i = 0 := by
        apply Classical.byContradiction
        intro w
        rw [e1, if_neg w] at z
        exact absurd z (by decide)
      rw [e1, if_pos w, if_pos (by omega)]
    · show (0 : Int32) = _
      have y : wn seW i ≠ 0 := fun w => y (by rw [w]; exact Int32.le_refl _)
      rw [if_neg (by omega)]
end YEAR
