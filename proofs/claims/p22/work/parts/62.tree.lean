/-! the tree: who has children, who lies below -/
def hc (p : Nat → Nat) : Nat → Nat → Bool
  | 0, _ => false
  | i + 1, k => hc p i k || (decide (0 < i) && decide (p i = k))
theorem hc_iff {p : Nat → Nat} {k : Nat} : ∀ {n : Nat}, hc p n k = true ↔ ∃ i, 0 < i ∧ i < n ∧ p i = k
  | 0 => by
    constructor
    · intro h; cases h
    · rintro ⟨i, -, h, -⟩; omega
  | n + 1 => by
    show (hc p n k || (decide (0 < n) && decide (p n = k))) = true ↔ _
    rw [Bool.or_eq_true, hc_iff, Bool.and_eq_true, decide_eq_true_iff, decide_eq_true_iff]
    constructor
    · rintro (⟨i, h1, h2, h3⟩ | ⟨h1, h2⟩)
      · exact ⟨i, h1, by omega, h3⟩
      · exact ⟨n, h1, by omega, h2⟩
    · rintro ⟨i, h1, h2, h3⟩
      by_cases e : i = n
      · subst e
        exact Or.inr ⟨h1, h3⟩
      · exact Or.inl ⟨i, h1, by omega, h3⟩
def bel (p : Nat → Nat) (t : Nat) : Nat → Nat → Bool
  | 0, k => decide (k = t)
  | n + 1, k => decide (k = t) || (decide (0 < k) && bel p t n (p k))
theorem bel_0 {p : Nat → Nat} {t : Nat} : ∀ (n : Nat), bel p t n 0 = decide (0 = t)
  | 0 => rfl
  | n + 1 => by
    show (decide (0 = t) || (decide (0 < 0) && bel p t n (p 0))) = _
    simp
theorem bel_any {p : Nat → Nat} {t c : Nat} (hp : ∀ i, 0 < i → i < c → p i < i) : ∀ (n m k : Nat), k < c → k ≤ n → k ≤ m → bel p t n k = bel p t m k := by
  intro n
  induction n with
  | zero =>
    intro m k hc h1 h2
    have : k = 0 := by omega
    subst this
    rw [bel_0, bel_0]
  | succ n ih =>
    intro m k hc h1 h2
    cases m with
    | zero =>
      have : k = 0 := by omega
      subst this
      rw [bel_0, bel_0]
    | succ m =>
      show (decide (k = t) || (decide (0 < k) && bel p t n (p k))) = (decide (k = t) || (decide (0 < k) && bel p t m (p k)))
      by_cases h0 : 0 < k
      · have h3 := hp k h0 hc
        rw [ih m (p k) (by omega) (by omega) (by omega)]
      · rw [decide_eq_false h0, Bool.false_and, Bool.false_and]
def belw (p : Nat → Nat) (t k : Nat) : Bool := bel p t 10 k
theorem belw_eq {p : Nat → Nat} {t c k : Nat} (hp : ∀ i, 0 < i → i < c → p i < i) (hc : c ≤ 10) (hk : k < c) : belw p t k = (decide (k = t) || (decide (0 < k) && belw p t (p k))) := by
  show (decide (k = t) || (decide (0 < k) && bel p t 9 (p k))) = _
  by_cases h0 : 0 < k
  · have h3 := hp k h0 hk
    rw [bel_any hp 9 10 (p k) (by omega) (by omega) (by omega)]
    rfl
  · rw [decide_eq_false h0, Bool.false_and, Bool.false_and]
theorem belw_le {p : Nat → Nat} {t c : Nat} (hp : ∀ i, 0 < i → i < c → p i < i) (hc : c ≤ 10) : ∀ (k : Nat), k < c → belw p t k = true → t ≤ k := by
  intro k
  induction k using Nat.strongRecOn with
  | _ k ih =>
    intro hk h
    rw [belw_eq hp hc hk, Bool.or_eq_true, Bool.and_eq_true, decide_eq_true_iff, decide_eq_true_iff] at h
    rcases h with h | ⟨h0, h⟩
    · omega
    · have h3 := hp k h0 hk
      have h4 := ih (p k) h3 (by omega) h
      omega
/-- k is a leaf of t -/
def lf (p : Nat → Nat) (c t k : Nat) : Bool := decide (k < c) && (!hc p c k && belw p t k)
theorem lf_lt {p : Nat → Nat} {c t k : Nat} (h : lf p c t k = true) : k < c := by
  unfold lf at h
  rw [Bool.and_eq_true, decide_eq_true_iff] at h
  exact h.1
theorem lf_ge {p : Nat → Nat} {c t k : Nat} (h : c ≤ k) : lf p c t k = false := by
  unfold lf
  rw [decide_eq_false (by omega), Bool.false_and]
/-- the trees of both sides agree -/
def RT3 (c : Nat) (p : Nat → Nat) (cnt pwc : Int32) (par : Ar) (pl : Int32) (mpar : Ar) : Prop :=
  (1 ≤ c ∧ c ≤ 10) ∧ cnt = nI c ∧ pl = nI c ∧ mpar 0 = -1 ∧ (∀ i, 0 < i → i < c → p i < i ∧ par i = nI (p i) ∧ mpar i = nI (p i)) ∧ Bs pwc (hc p c)
section TREE
variable {c : Nat} {p : Nat → Nat} {cnt pwc pl : Int32} {par mpar : Ar}
theorem RT3.low (R : RT3 c p cnt pwc par pl mpar) : ∀ i, 0 < i → i < c → p i < i := fun i h1 h2 => (R.2.2.2.2.1 i h1 h2).1
theorem s_leavesBelow {t : Nat} {Q : Int32 → Prop} (R : RT3 c p cnt pwc par pl mpar) (ht : t < c) (h : ∀ x, Bs x (lf p c t) → Q x) : vX2_leavesBelow cnt pwc par (nI t) Q := by
  have hp := R.low
  obtain ⟨⟨c1, c2⟩, rfl, -, -, hpar, hpw⟩ := R
  unfold vX2_leavesBelow
  rw [nI_1]
  refine pk_loop (fun n i (x : Int32) => vX2_leavesBelow_L8 (nI c) pwc par Q n x (nI i)) (fun i x => t < i ∧ Bs x (fun k => decide (k < i) && belw p t k)) c (t + 1) _ (by omega) ⟨Nat.lt_succ_self t, ?_⟩ (fun n x e => ?_) (fun n i x hi e ih => ?_)
  · refine (Bs.one (by omega)).of (fun k hk => ?_)
    by_cases q : k = t
    · subst q
      rw [belw_eq hp c2 ht]
      simp
    · rw [decide_eq_false q]
      by_cases q2 : k < t + 1
      · have : belw p t k = false := by
          cases hb : belw p t k
          · rfl
          · have := belw_le hp c2 k (by omega) hb
            omega
        rw [this, Bool.and_false]
      · rw [decide_eq_false q2, Bool.false_and]
  · refine And.intro (fun _ => h _ ?_) (fun c => absurd (Int32.le_refl _) c)
    refine (e.2.andn hpw).of (fun k hk => ?_)
    unfold lf
    cases decide (k < c) <;> cases belw p t k <;> cases hc p c k <;> rfl
  · refine And.intro (fun q => absurd q (nI_ge (b := c) hi (by omega))) (fun _ => ?_)
    obtain ⟨e1, e2⟩ := e
    obtain ⟨g1, g2, -⟩ := hpar i (by omega) hi
    rw [nI_clamp (by omega), g2]
    refine ⟨vp_in_nI (by omega) (by omega), ?_⟩
    refine s_isIn e2 (by omega) ?_
    have hb : belw p t i = belw p t (p i) := by
      rw [belw_eq hp c2 hi, decide_eq_false (by omega), Bool.false_or, decide_eq_true (by omega), Bool.true_and]
    rw [decide_eq_true (by omega), Bool.true_and, nI_1]
    refine And.intro (fun q => ih _ ⟨by omega, e2.of (fun k hk => ?_)⟩) (fun q => ih _ ⟨by omega, (e2.or (Bs.one (by omega))).of (fun k hk => ?_)⟩)
    · by_cases q2 : k = i
      · subst q2
        rw [hb, bi0.mp q, Bool.and_false, Bool.and_false]
      · by_cases q3 : k < i
        · rw [decide_eq_true q3, decide_eq_true (by omega)]
        · rw [decide_eq_false q3, decide_eq_false (by omega)]
    · have q : belw p t (p i) = true := by
        cases z : belw p t (p i)
        · exact absurd (bi0.mpr z) q
        · rfl
      by_cases q2 : k = i
      · subst q2
        rw [hb, q]
        simp
      · rw [decide_eq_false q2, Bool.or_false]
        by_cases q3 : k < i
        · rw [decide_eq_true q3, decide_eq_true (by omega)]
        · rw [decide_eq_false q3, decide_eq_false (by omega)]
theorem s_isLeaf {k : Nat} {Q : Int32 → Prop} (R : RT3 c p cnt pwc par pl mpar) (hk : k < 10) (h : Q (bi (!hc p c k))) : vX2_isLeaf pwc (nI k) Q := by
  refine s_isIn R.2.2.2.2.2 hk ?_
  cases q : hc p c k
  · rw [q] at h
    exact ⟨fun z => absurd rfl z, fun _ => h⟩
  · rw [q] at h
    exact ⟨fun _ => h, fun z => absurd z (by decide)⟩
end TREE
