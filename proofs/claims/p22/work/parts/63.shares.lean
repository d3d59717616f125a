/-! shares by weights -/
def ns (w : Nat → Nat) : Nat → Nat
  | 0 => 0
  | n + 1 => ns w n + w n
theorem ns_in {w : Nat → Nat} : ∀ {n k : Nat}, k < n → w k ≤ ns w n
  | 0, k, h => absurd h (Nat.not_lt_zero _)
  | n + 1, k, h => by
    show w k ≤ ns w n + w n
    by_cases e : k = n
    · subst e; omega
    · have := ns_in (w := w) (n := n) (k := k) (by omega)
      omega
theorem ns_le {w : Nat → Nat} {B : Nat} : ∀ {n : Nat}, (∀ j, j < n → w j ≤ B) → ns w n ≤ n * B
  | 0, _ => Nat.zero_le _
  | n + 1, h => by
    show ns w n + w n ≤ (n + 1) * B
    have h1 := ns_le (w := w) (B := B) (n := n) (fun j hj => h j (by omega))
    have h2 := h n (by omega)
    rw [Nat.succ_mul]
    omega
theorem ns_ge {w : Nat → Nat} {n : Nat} : ∀ (d : Nat), (∀ j, n ≤ j → j < n + d → w j = 0) → ns w (n + d) = ns w n
  | 0, _ => rfl
  | d + 1, h => by
    show ns w (n + d) + w (n + d) = ns w n
    rw [ns_ge d (fun j h1 h2 => h j h1 (by omega)), h (n + d) (by omega) (by omega), Nat.add_zero]
def qs (am T : Nat) (w : Nat → Nat) (k : Nat) : Nat := am * w k / T
def lf0 (q : Nat → Nat) (am : Nat) : Nat → Int32
  | 0 => nI am
  | i + 1 => lf0 q am i - nI (q i)
theorem lf0_ge {q : Nat → Nat} {am n : Nat} : ∀ (d : Nat), (∀ j, n ≤ j → j < n + d → q j = 0) → lf0 q am (n + d) = lf0 q am n
  | 0, _ => rfl
  | d + 1, h => by
    show lf0 q am (n + d) - nI (q (n + d)) = lf0 q am n
    rw [lf0_ge d (fun j h1 h2 => h j h1 (by omega)), h (n + d) (by omega) (by omega), nI_0, Int32.sub_zero]
def dlc (w : Nat → Nat) (x : Int32) (i : Nat) : Bool := decide (0 < x) && decide (w i ≠ 0)
def dl (w : Nat → Nat) (L0 : Int32) : Nat → Int32
  | 0 => L0
  | i + 1 => if dlc w (dl w L0 i) i = true then dl w L0 i + (-1) else dl w L0 i
def shr (am T : Nat) (w : Nat → Nat) (L0 : Int32) (k : Nat) : Nat := qs am T w k + (if dlc w (dl w L0 k) k = true then 1 else 0)
theorem qs_le {am T : Nat} {w : Nat → Nat} {k : Nat} (h : w k ≤ T) : qs am T w k ≤ am := by
  unfold qs
  refine Nat.div_le_of_le_mul ?_
  rw [Nat.mul_comm T am]
  exact Nat.mul_le_mul_left am h
theorem shr_le {am T : Nat} {w : Nat → Nat} {L0 : Int32} {k : Nat} (h : w k ≤ T) : shr am T w L0 k ≤ am + 1 := by
  have := qs_le (am := am) h
  unfold shr
  split <;> omega
theorem i_pos {x : Int32} (h : ¬ x ≤ 0) : decide (0 < x) = true := decide_eq_true (Int32.not_le.mp h)
theorem i_npos {x : Int32} (h : x ≤ 0) : decide (0 < x) = false := decide_eq_false (Int32.not_lt.mpr h)
theorem one_share {am T wk : Nat} (ha : am ≤ 1000001) (hw : wk ≤ 2000000) (h0 : 0 < T) (hT : T < 2 ^ 31) : (((nI am).toInt64 * (nI wk).toInt64) / (lN T)).toInt32 = nI (am * wk / T) := by
  have h1 : am * wk ≤ 1000001 * 2000000 := Nat.mul_le_mul ha hw
  rw [nI_l (by omega), nI_l (by omega), lN_mul, pk_lDiv (by omega) h0 (by omega), lN_i]
theorem s_totalWeight {wt : Ar} {w : Nat → Nat} {Q : Int32 → Prop} (hw : ∀ j, j < 12 → wt j = nI (w j)) (h : Q (nI (ns w 12))) : vX1_totalWeight wt Q := by
  refine pk_loop (fun n i (s : Int32) => vX1_totalWeight_L4 wt Q n s (nI i)) (fun i s => s = nI (ns w i)) 12 0 0 (by omega) rfl (fun n s e => ?_) (fun n i s hi e ih => ?_)
  · refine And.intro (fun _ => by rw [e]; exact h) (fun c => absurd (Int32.le_refl _) c)
  · refine And.intro (fun c => absurd c (nI_ge (b := 12) hi (by omega))) (fun _ => ?_)
    rw [nI_clamp (by omega), nI_1]
    refine ⟨vp_in_nI hi (by omega), ih _ ?_⟩
    show s + wt i = nI (ns w i + w i)
    rw [e, hw i hi, nI_add]
theorem s_divide {wt sh : Ar} {w : Nat → Nat} {am : Nat} {Q : Ar → Prop} (hw : ∀ j, j < 12 → wt j = nI (w j)) (hB : ∀ j, j < 12 → w j ≤ 2000000) (ha : am ≤ 1000001) (h0 : 0 < ns w 12)
    (h : ∀ sh' : Ar, (∀ j, j < 12 → sh' j = nI (shr am (ns w 12) w (lf0 (qs am (ns w 12) w) am 12) j)) → Q sh') : vX1_divide wt sh (nI am) Q := by
  have hT : ns w 12 ≤ 12 * 2000000 := ns_le hB
  refine s_totalWeight hw ?_
  obtain ⟨T, hTe⟩ : ∃ T, T = ns w 12 := ⟨_, rfl⟩
  rw [← hTe] at h h0 hT ⊢
  refine pk_loop (fun n i (s : Int32 × Ar) => vX1_divide_L10 wt (nI am) (nI T) Q n s.1 (nI i) s.2) (fun i s => s.1 = lf0 (qs am T w) am i ∧ ∀ j, j < i → s.2 j = nI (qs am T w j)) 12 0 (nI am, sh) (by omega) ⟨rfl, fun j hj => absurd hj (Nat.not_lt_zero _)⟩ (fun n s e => ?_) (fun n i s hi e ih => ?_)
  · obtain ⟨x3, sh⟩ := s
    obtain ⟨e1, e2⟩ := e
    dsimp only at e1 e2 ⊢
    refine And.intro (fun _ => ?_) (fun c => absurd (Int32.le_refl _) c)
    obtain ⟨L0, hL0⟩ : ∃ L0, L0 = lf0 (qs am T w) am 12 := ⟨_, rfl⟩
    rw [← hL0] at h e1
    refine pk_loop (fun n i (s : Int32 × Ar) => vX1_divide_L66 wt Q n s.1 (nI i) s.2) (fun i s => s.1 = dl w L0 i ∧ ∀ j, j < 12 → s.2 j = nI (if j < i then shr am T w L0 j else qs am T w j)) 12 0 (x3, sh) (by omega) ⟨e1, fun j hj => by rw [if_neg (Nat.not_lt_zero _)]; exact e2 j hj⟩ (fun n s e => ?_) (fun n i s hi e ih => ?_)
    · refine And.intro (fun _ => h _ (fun j hj => ?_)) (fun c => absurd (Int32.le_refl _) c)
      rw [e.2 j hj, if_pos hj]
    · obtain ⟨y3, sg⟩ := s
      obtain ⟨g1, g2⟩ := e
      dsimp only at g1 g2 ⊢
      have keep : dlc w y3 i = false → y3 = dl w L0 (i + 1) ∧ ∀ j, j < 12 → sg j = nI (if j < i + 1 then shr am T w L0 j else qs am T w j) := by
        intro hc
        rw [g1] at hc
        refine ⟨?_, fun j hj => ?_⟩
        · show y3 = if dlc w (dl w L0 i) i = true then _ else _
          rw [hc, g1]; rfl
        · rw [g2 j hj]
          by_cases q : j = i
          · subst q
            rw [if_neg (Nat.lt_irrefl _), if_pos (Nat.lt_succ_self _)]
            unfold shr
            rw [hc]; rfl
          · by_cases q2 : j < i
            · rw [if_pos q2, if_pos (by omega)]
            · rw [if_neg q2, if_neg (by omega)]
      refine And.intro (fun c => absurd c (nI_ge (b := 12) hi (by omega))) (fun _ => ?_)
      rw [nI_1, nI_clamp (by omega)]
      refine And.intro (fun c => ih (_, _) (keep ?_)) (fun c => ⟨vp_in_nI hi (by omega), fun z => ih (_, _) (keep ?_), fun z => ⟨vp_in_nI hi (by omega), vp_in_nI hi (by omega), ih (_, _) ?_⟩⟩)
      · unfold dlc
        rw [i_npos c, Bool.false_and]
      · rw [hw i hi] at z
        have z := (nI_eq (b := 0) (by have := hB i hi; omega) (by omega)).mp z
        unfold dlc
        rw [z]
        simp
      · have hc : dlc w (dl w L0 i) i = true := by
          rw [hw i hi] at z
          have z : w i ≠ 0 := fun e => z (by rw [e]; rfl)
          unfold dlc
          rw [← g1, i_pos c, decide_eq_true z]
          rfl
        refine ⟨?_, fun j hj => ?_⟩
        · show y3 + (-1) = if dlc w (dl w L0 i) i = true then _ else _
          rw [hc, g1]; rfl
        · show upd sg i (sg i + 1) j = _
          by_cases q : j = i
          · subst q
            rw [pk_us, g2 j hj, if_neg (Nat.lt_irrefl _), if_pos (Nat.lt_succ_self _), nI_1]
            unfold shr
            rw [hc]; rfl
          · rw [pk_un q, g2 j hj]
            by_cases q2 : j < i
            · rw [if_pos q2, if_pos (by omega)]
            · rw [if_neg q2, if_neg (by omega)]
  · obtain ⟨x3, sh⟩ := s
    obtain ⟨e1, e2⟩ := e
    dsimp only at e1 e2 ⊢
    refine And.intro (fun c => absurd c (nI_ge (b := 12) hi (by omega))) (fun _ => ?_)
    have nT : ¬ nI T = 0 := fun z => by
      have := (nI_eq (b := 0) (by omega) (by omega)).mp z
      omega
    refine And.intro (fun _ => ?_) (fun c => absurd c nT)
    rw [nI_clamp (by omega), hw i hi, nI_l (n := T) (by omega), one_share ha (hB i hi) h0 (by omega)]
    refine ⟨vp_in_nI hi (by omega), fun z => ?_, ?_⟩
    · have := (lN_eq (b := 0) (by omega) (by omega)).mp z
      omega
    · refine ⟨vp_in_nI hi (by omega), vp_in_nI hi (by omega), ?_⟩
      rw [nI_clamp (by omega), nI_1, pk_us]
      refine ih (_, _) ⟨?_, fun j hj => ?_⟩
      · show x3 - nI (am * w i / T) = lf0 _ am i - nI (qs am T w i)
        rw [e1]; rfl
      · show upd sh i (nI (am * w i / T)) j = _
        by_cases q : j = i
        · subst q
          rw [pk_us]; rfl
        · rw [pk_un q, e2 j (by omega)]
