/-! the shares make the whole -/
theorem lf0_eq {q : Nat → Nat} {am : Nat} : ∀ {n : Nat}, ns q n ≤ am → lf0 q am n = nI (am - ns q n)
  | 0, _ => rfl
  | n + 1, h => by
    have h : ns q n + q n ≤ am := h
    show lf0 q am n - nI (q n) = nI (am - (ns q n + q n))
    rw [lf0_eq (n := n) (by omega), pk_sub (by omega)]
    congr 1
    omega
/-- how many weights aren't 0 -/
def cz (w : Nat → Nat) : Nat → Nat := ns (fun k => if w k = 0 then 0 else 1)
theorem cz_s (w : Nat → Nat) (n : Nat) : cz w (n + 1) = cz w n + (if w n = 0 then 0 else 1) := rfl
theorem dlc_eq {w : Nat → Nat} {D i : Nat} (hD : D < 2 ^ 31) : dlc w (nI D) i = (decide (0 < D) && decide (w i ≠ 0)) := by
  unfold dlc
  have : (0 < nI D) ↔ 0 < D := nI_ltI (a := 0) (by omega) hD
  rw [decide_eq_decide.mpr this]
theorem dl_eq {w : Nat → Nat} {R : Nat} (hR : R < 2 ^ 31) : ∀ (i : Nat), dl w (nI R) i = nI (R - cz w i)
  | 0 => rfl
  | i + 1 => by
    show (if dlc w (dl w (nI R) i) i = true then dl w (nI R) i + (-1) else dl w (nI R) i) = _
    rw [dl_eq hR i, dlc_eq (by omega), cz_s]
    by_cases h0 : w i = 0
    · rw [if_pos h0, if_neg (by simp [h0]), Nat.add_zero]
    · rw [if_neg h0]
      by_cases h1 : 0 < R - cz w i
      · rw [if_pos (by simp [h0, h1])]
        obtain ⟨d, hd⟩ : ∃ d, R - cz w i = d + 1 := ⟨R - cz w i - 1, by omega⟩
        rw [hd, pk_m1]
        congr 1
        omega
      · rw [if_neg (by simp [h1])]
        congr 1
        omega
theorem ex_eq {w : Nat → Nat} {R : Nat} (hR : R < 2 ^ 31) : ∀ (n : Nat), ns (fun k => if dlc w (dl w (nI R) k) k = true then 1 else 0) n = min R (cz w n)
  | 0 => (Nat.min_zero R).symm
  | n + 1 => by
    show ns (fun k => if dlc w (dl w (nI R) k) k = true then 1 else 0) n + (if dlc w (dl w (nI R) n) n = true then 1 else 0) = _
    rw [ex_eq hR n, dl_eq hR n, dlc_eq (by omega), cz_s]
    by_cases h0 : w n = 0
    · rw [if_pos h0, if_neg (by simp [h0]), Nat.add_zero, Nat.add_zero]
    · rw [if_neg h0]
      by_cases h1 : 0 < R - cz w n
      · rw [if_pos (by simp [h0, h1])]
        omega
      · rw [if_neg (by simp [h1])]
        omega
theorem qs_sum {am T : Nat} {w : Nat → Nat} {n : Nat} (h0 : 0 < T) (hT : ns w n = T) : ns (qs am T w) n ≤ am ∧ am ≤ ns (qs am T w) n + cz w n := by
  have e1 : ns (fun k => am * w k) n = am * T := by rw [ns_mul, hT]
  constructor
  · have h1 : ns (fun k => T * qs am T w k) n ≤ ns (fun k => am * w k) n := ns_mono (fun k _ => Nat.mul_div_le _ _)
    rw [ns_mul, e1, Nat.mul_comm am T] at h1
    exact Nat.le_of_mul_le_mul_left h1 h0
  · have h1 : ns (fun k => am * w k) n ≤ ns (fun k => T * (qs am T w k + (if w k = 0 then 0 else 1))) n := ns_mono (fun k _ => by
      by_cases z : w k = 0
      · rw [z, Nat.mul_zero]
        exact Nat.zero_le _
      · rw [if_neg z]
        exact Nat.le_of_lt (Nat.lt_mul_div_succ _ h0))
    rw [e1, ns_mul, ns_add, Nat.mul_comm am T] at h1
    exact Nat.le_of_mul_le_mul_left h1 h0
theorem ns_shr {am T : Nat} {w : Nat → Nat} {n : Nat} (ha : am < 2 ^ 31) (h0 : 0 < T) (hT : ns w n = T) : ns (shr am T w (lf0 (qs am T w) am n)) n = am := by
  obtain ⟨h1, h2⟩ := qs_sum (am := am) h0 hT
  rw [lf0_eq h1]
  have e : ns (shr am T w (nI (am - ns (qs am T w) n))) n = ns (qs am T w) n + ns (fun k => if dlc w (dl w (nI (am - ns (qs am T w) n)) k) k = true then 1 else 0) n := ns_add _ _ _
  rw [e, ex_eq (by omega)]
  omega
theorem shr_out {am T : Nat} {w : Nat → Nat} {L0 : Int32} {k : Nat} (h : w k = 0) : shr am T w L0 k = 0 := by
  unfold shr qs dlc
  rw [h]
  simp
/-- weights that make the sum itself are the shares -/
theorem shr_same {am : Nat} {w : Nat → Nat} {n k : Nat} (h0 : 0 < am) (hT : ns w n = am) (hk : k < n) : shr am am w (lf0 (qs am am w) am n) k = w k := by
  have e : ∀ j, qs am am w j = w j := fun j => by
    unfold qs
    rw [Nat.mul_comm, Nat.mul_div_cancel _ h0]
  have e2 : ns (qs am am w) n = am := by rw [← hT]; exact ns_ext (fun j _ => by rw [hT]; exact e j)
  have e3 : lf0 (qs am am w) am n = nI 0 := by
    rw [lf0_eq (by omega), e2, Nat.sub_self]
  rw [e3]
  unfold shr
  rw [e, dl_eq (by omega), Nat.zero_sub, dlc_eq (by omega)]
  simp
theorem shr_zero {T : Nat} {w : Nat → Nat} {n k : Nat} (hk : k < n) : shr 0 T w (lf0 (qs 0 T w) 0 n) k = 0 := by
  have e : ∀ j, qs 0 T w j = 0 := fun j => by
    unfold qs
    rw [Nat.zero_mul, Nat.zero_div]
  have e2 : ns (qs 0 T w) n = 0 := (ns_ext (w' := fun _ => 0) (fun j _ => e j)).trans (ns_0 n)
  have e3 : lf0 (qs 0 T w) 0 n = nI 0 := by rw [lf0_eq (by omega), e2]
  rw [e3]
  unfold shr
  rw [e, dl_eq (by omega), Nat.zero_sub, dlc_eq (by omega)]
  simp
