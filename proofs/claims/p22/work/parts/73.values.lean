/-! values as numbers; sums of them; leaves -/
def RB (f : Ar) : Prop := ∀ v k m, v < 3 → k < 10 → m < 12 → (∃ a, a ≤ 1000 ∧ f (v * 360 + k * 36 + 0 * 12 + m) = nI a) ∧ ∃ a, a ≤ 1000 ∧ f (v * 360 + k * 36 + 1 * 12 + m) = nI a
def nv (f : Ar) (v k a m : Nat) : Nat := (vl f v k a m).toNatClampNeg
theorem nv_eq {f : Ar} {v k a m : Nat} (A : RA f) (B : RB f) (hv : v < 3) (hk : k < 10) (ha : a < 4) (hm : m < 12) : vl f v k a m = nI (nv f v k a m) ∧ nv f v k a m ≤ 2000000 := by
  have key : ∃ b, b ≤ 2000000 ∧ vl f v k a m = nI b := by
    obtain ⟨⟨x0, h0, e0⟩, ⟨x1, h1, e1⟩⟩ := B v k m hv hk hm
    obtain ⟨x2, h2, e2⟩ := A v k m hv hk hm
    rcases (show a = 0 ∨ a = 1 ∨ a = 2 ∨ a = 3 by omega) with rfl | rfl | rfl | rfl
    · refine ⟨x0, by omega, ?_⟩
      unfold vl
      rw [if_neg (by omega)]
      exact e0
    · refine ⟨x1, by omega, ?_⟩
      unfold vl
      rw [if_neg (by omega)]
      exact e1
    · refine ⟨x2, h2, ?_⟩
      unfold vl
      rw [if_neg (by omega)]
      exact e2
    · have hb : x0 * x1 ≤ 1000 * 1000 := Nat.mul_le_mul h0 h1
      refine ⟨x0 * x1, by omega, ?_⟩
      unfold vl
      rw [if_pos rfl, e0, e1, pk_mul]
  obtain ⟨b, hb, e⟩ := key
  unfold nv
  rw [e, nI_clamp (by omega)]
  exact ⟨rfl, hb⟩
theorem ns_mono {w w' : Nat → Nat} : ∀ {n : Nat}, (∀ j, j < n → w j ≤ w' j) → ns w n ≤ ns w' n
  | 0, _ => Nat.le_refl _
  | n + 1, e => by
    show ns w n + w n ≤ ns w' n + w' n
    have h1 := ns_mono (w := w) (w' := w') (n := n) (fun j hj => e j (by omega))
    have h2 := e n (by omega)
    omega
theorem ns_add (w w' : Nat → Nat) : ∀ (n : Nat), ns (fun j => w j + w' j) n = ns w n + ns w' n
  | 0 => rfl
  | n + 1 => by
    show ns (fun j => w j + w' j) n + (w n + w' n) = (ns w n + w n) + (ns w' n + w' n)
    rw [ns_add w w' n]
    omega
theorem ns_mul (w : Nat → Nat) (a : Nat) : ∀ (n : Nat), ns (fun j => a * w j) n = a * ns w n
  | 0 => rfl
  | n + 1 => by
    show ns (fun j => a * w j) n + a * w n = a * (ns w n + w n)
    rw [ns_mul w a n, Nat.mul_add]
theorem ns_0 : ∀ (n : Nat), ns (fun _ => 0) n = 0
  | 0 => rfl
  | n + 1 => by
    show ns (fun _ => 0) n + 0 = 0
    rw [ns_0 n]
theorem sm_sub (f g : Nat → Int32) : ∀ (n : Nat), sm (fun i => f i - g i) n = sm f n - sm g n
  | 0 => by
    show (0 : Int32) = 0 - 0
    rw [Int32.sub_self]
  | n + 1 => by
    show sm (fun i => f i - g i) n + (f n - g n) = (sm f n + f n) - (sm g n + g n)
    rw [sm_sub f g n]
    grind
theorem sm_one {t : Nat} (g : Nat → Int32) : ∀ (n : Nat), sm (fun k => if decide (k = t) = true then g k else 0) n = if t < n then g t else 0
  | 0 => by rw [if_neg (Nat.not_lt_zero _)]; rfl
  | n + 1 => by
    show sm (fun k => if decide (k = t) = true then g k else 0) n + (if decide (n = t) = true then g n else 0) = _
    rw [sm_one g n]
    by_cases e : n = t
    · subst e
      rw [if_neg (Nat.lt_irrefl _), if_pos (decide_eq_true rfl), if_pos (Nat.lt_succ_self _), Int32.zero_add]
    · have hz : (if decide (n = t) = true then g n else 0) = 0 := by
        rw [decide_eq_false e]
        rfl
      rw [hz, Int32.add_zero]
      by_cases q : t < n
      · rw [if_pos q, if_pos (by omega)]
      · rw [if_neg q, if_neg (by omega)]
theorem sm_01 (P : Nat → Int32) : ∀ (n : Nat), ∃ m, m ≤ n ∧ sm (fun j => if P j = 0 then 0 else 1) n = nI m
  | 0 => ⟨0, Nat.le_refl _, rfl⟩
  | n + 1 => by
    obtain ⟨m, h1, h2⟩ := sm_01 P n
    by_cases e : P n = 0
    · refine ⟨m, by omega, ?_⟩
      show sm (fun j => if P j = 0 then 0 else 1) n + (if P n = 0 then 0 else 1) = _
      rw [h2, if_pos e, Int32.add_zero]
    · refine ⟨m + 1, by omega, ?_⟩
      show sm (fun j => if P j = 0 then 0 else 1) n + (if P n = 0 then 0 else 1) = _
      rw [h2, if_neg e, nI_1]
theorem sm_bi (P : Nat → Bool) : ∀ (n : Nat), ∃ m, m ≤ n ∧ sm (fun j => bi (P j)) n = nI m
  | 0 => ⟨0, Nat.le_refl _, rfl⟩
  | n + 1 => by
    obtain ⟨m, h1, h2⟩ := sm_bi P n
    cases e : P n
    · refine ⟨m, by omega, ?_⟩
      show sm (fun j => bi (P j)) n + bi (P n) = _
      rw [h2, e, biF, Int32.add_zero]
    · refine ⟨m + 1, by omega, ?_⟩
      show sm (fun j => bi (P j)) n + bi (P n) = _
      rw [h2, e, biT, nI_1]
/-! leaves -/
section LEAVES
variable {c : Nat} {p : Nat → Nat} {cnt pwc pl : Int32} {par mpar : Ar}
theorem belw_0 (hp : ∀ i, 0 < i → i < c → p i < i) (hc10 : c ≤ 10) : ∀ (k : Nat), k < c → belw p 0 k = true := by
  intro k
  induction k using Nat.strongRecOn with
  | _ k ih =>
    intro hk
    rw [belw_eq hp hc10 hk]
    rcases Nat.eq_zero_or_pos k with e | e
    · rw [decide_eq_true e, Bool.true_or]
    · have h3 := hp k e hk
      rw [ih (p k) h3 (by omega), decide_eq_true e]
      simp
theorem belw_self (hp : ∀ i, 0 < i → i < c → p i < i) (hc10 : c ≤ 10) {t : Nat} (ht : t < c) : belw p t t = true := by
  rw [belw_eq hp hc10 ht, decide_eq_true rfl, Bool.true_or]
theorem belw_child (hp : ∀ i, 0 < i → i < c → p i < i) (hc10 : c ≤ 10) {t : Nat} : ∀ (k : Nat), k < c → belw p t k = true → k ≠ t → hc p c t = true := by
  intro k
  induction k using Nat.strongRecOn with
  | _ k ih =>
    intro hk hb hne
    rw [belw_eq hp hc10 hk, decide_eq_false hne, Bool.false_or, Bool.and_eq_true, decide_eq_true_iff] at hb
    obtain ⟨h0, hb⟩ := hb
    have h3 := hp k h0 hk
    by_cases e : p k = t
    · exact hc_iff.mpr ⟨k, h0, hk, e⟩
    · exact ih (p k) h3 (by omega) hb e
theorem belw_up (hp : ∀ i, 0 < i → i < c → p i < i) (hc10 : c ≤ 10) {i t : Nat} (h0 : 0 < i) (hi : i < c) (e : p i = t) : ∀ (k : Nat), k < c → belw p i k = true → belw p t k = true := by
  have ht : t < c := by have := hp i h0 hi; omega
  intro k
  induction k using Nat.strongRecOn with
  | _ k ih =>
    intro hk hb
    rw [belw_eq hp hc10 hk, Bool.or_eq_true, decide_eq_true_iff, Bool.and_eq_true, decide_eq_true_iff] at hb
    rw [belw_eq hp hc10 hk]
    rcases hb with hb | ⟨h1, hb⟩
    · subst hb
      rw [e, belw_self hp hc10 ht, decide_eq_true h0]
      simp
    · have h3 := hp k h1 hk
      rw [ih (p k) h3 (by omega) hb, decide_eq_true h1]
      simp
theorem lf_self (hp : ∀ i, 0 < i → i < c → p i < i) (hc10 : c ≤ 10) {t : Nat} (ht : t < c) (hl : hc p c t = false) (k : Nat) : lf p c t k = decide (k = t) := by
  by_cases e : k = t
  · subst e
    unfold lf
    rw [decide_eq_true ht, hl, belw_self hp hc10 ht, decide_eq_true rfl]
    rfl
  · rw [decide_eq_false e]
    cases q : lf p c t k
    · rfl
    · have hk := lf_lt q
      unfold lf at q
      rw [Bool.and_eq_true, Bool.and_eq_true] at q
      have := belw_child hp hc10 k hk q.2.2 e
      rw [hl] at this
      cases this
theorem lf_ex (hp : ∀ i, 0 < i → i < c → p i < i) (hc10 : c ≤ 10) : ∀ (d t : Nat), c - t ≤ d → t < c → ∃ k, k < c ∧ lf p c t k = true := by
  intro d
  induction d with
  | zero => intro t h1 h2; omega
  | succ d ih =>
    intro t h1 h2
    cases hl : hc p c t
    · exact ⟨t, h2, by rw [lf_self hp hc10 h2 hl, decide_eq_true rfl]⟩
    · obtain ⟨i, i0, i1, e⟩ := hc_iff.mp hl
      have h3 := hp i i0 i1
      obtain ⟨k, hk, hq⟩ := ih i (by omega) i1
      refine ⟨k, hk, ?_⟩
      unfold lf at hq ⊢
      rw [Bool.and_eq_true, Bool.and_eq_true] at hq ⊢
      exact ⟨hq.1, hq.2.1, belw_up hp hc10 i0 i1 e k hk hq.2.2⟩
theorem lf_root (hp : ∀ i, 0 < i → i < c → p i < i) (hc10 : c ≤ 10) {t k : Nat} (h : lf p c t k = true) : lf p c 0 k = true := by
  have hk := lf_lt h
  unfold lf at h ⊢
  rw [Bool.and_eq_true, Bool.and_eq_true] at h ⊢
  exact ⟨h.1, h.2.1, belw_0 hp hc10 k hk⟩
/-! amounts and years -/
def am (f : Ar) (p : Nat → Nat) (c v t a m : Nat) : Int32 := sm (fun k => if lf p c t k = true then vl f v k a m else 0) 10
def na (f : Ar) (p : Nat → Nat) (c v t a m : Nat) : Nat := ns (fun k => if lf p c t k = true then nv f v k a m else 0) 10
def ny (f : Ar) (p : Nat → Nat) (c v t a : Nat) : Nat := ns (fun m => na f p c v t a m) 12
theorem am_eq {f : Ar} {v t a m : Nat} (A : RA f) (B : RB f) (hv : v < 3) (ha : a < 4) (hm : m < 12) : am f p c v t a m = nI (na f p c v t a m) ∧ na f p c v t a m ≤ 20000000 := by
  constructor
  · refine sm_ns (fun k hk => ?_)
    split
    · exact (nv_eq A B hv hk ha hm).1
    · rfl
  · have := ns_le (w := fun k => if lf p c t k = true then nv f v k a m else 0) (B := 2000000) (n := 10) (fun k hk => by
      have := (nv_eq A B hv hk ha hm).2
      split <;> omega)
    unfold na
    omega
theorem yr_eq {f : Ar} {v t a : Nat} (A : RA f) (B : RB f) (hv : v < 3) (ha : a < 4) : yr f p c v t a = nI (ny f p c v t a) ∧ ny f p c v t a ≤ 240000000 := by
  constructor
  · exact sm_ns (fun m hm => (am_eq A B hv ha hm).1)
  · have := ns_le (w := fun m => na f p c v t a m) (B := 20000000) (n := 12) (fun m hm => (am_eq A B hv ha hm).2)
    unfold ny
    omega
theorem ny_le (hp : ∀ i, 0 < i → i < c → p i < i) (hc10 : c ≤ 10) {f : Ar} {v t a : Nat} : ny f p c v t a ≤ ny f p c v 0 a := by
  refine ns_mono (fun m _ => ns_mono (fun k _ => ?_))
  by_cases q : lf p c t k = true
  · rw [if_pos q, if_pos (lf_root hp hc10 q)]
    exact Nat.le_refl _
  · rw [if_neg q]
    exact Nat.zero_le _
theorem am_leaf (hp : ∀ i, 0 < i → i < c → p i < i) (hc10 : c ≤ 10) {f : Ar} {v t a m : Nat} (ht : t < c) (hl : hc p c t = false) : am f p c v t a m = vl f v t a m := by
  have e : am f p c v t a m = sm (fun k => if decide (k = t) = true then vl f v k a m else 0) 10 := sm_ext (fun k _ => by rw [lf_self hp hc10 ht hl])
  rw [e, sm_one, if_pos (by omega)]
/-! gaps -/
def gs (f : Ar) (p : Nat → Nat) (c v u t q : Nat) : Int32 := sm (fun k => if lf p c t k = true then sm (gl f v u k q) 12 else 0) 10
theorem gp_sum (a b d e : Int32) : gp a b d e 0 = gp a b d e 1 + gp a b d e 2 + gp a b d e 3 := by
  show d * e - a * b = (d - a) * b + a * (e - b) + (d - a) * (e - b)
  grind
theorem gs_whole {f : Ar} {v u t : Nat} : gs f p c v u t 0 = gs f p c v u t 1 + gs f p c v u t 2 + gs f p c v u t 3 := by
  unfold gs
  rw [← sm_add, ← sm_add]
  refine sm_ext (fun k _ => ?_)
  have e : sm (gl f v u k 0) 12 = sm (gl f v u k 1) 12 + sm (gl f v u k 2) 12 + sm (gl f v u k 3) 12 := by
    rw [← sm_add, ← sm_add]
    exact sm_ext (fun m _ => gp_sum _ _ _ _)
  split
  · exact e
  · rfl
theorem vl3 {f : Ar} {l k m : Nat} : vl f l k 3 m = vl f l k 0 m * vl f l k 1 m := by
  unfold vl
  rw [if_pos rfl, if_neg (by omega), if_neg (by omega)]
theorem yr_by {f : Ar} {l t a : Nat} : yr f p c l t a = sm (fun k => if lf p c t k = true then sm (fun m => vl f l k a m) 12 else 0) 10 := by
  unfold yr
  rw [← sm_swap]
  exact sm_ext (fun k _ => sm_if _ _)
theorem gs_diff {f : Ar} {v u t : Nat} : gs f p c v u t 0 = yr f p c u t 3 - yr f p c v t 3 := by
  rw [yr_by, yr_by, ← sm_sub]
  refine sm_ext (fun k _ => ?_)
  have e : sm (gl f v u k 0) 12 = sm (fun m => vl f u k 3 m) 12 - sm (fun m => vl f v k 3 m) 12 := by
    rw [← sm_sub]
    refine sm_ext (fun m _ => ?_)
    rw [vl3, vl3]
    rfl
  split
  · exact e
  · rfl
theorem gs_same {f : Ar} {v u t : Nat} (e : ∀ k a m, k < 10 → a < 2 → m < 12 → vl f u k a m = vl f v k a m) : gs f p c v u t 0 = 0 := by
  have z : gs f p c v u t 0 = sm (fun _ => 0) 10 := by
    refine sm_ext (fun k hk => ?_)
    have z : sm (gl f v u k 0) 12 = sm (fun _ => 0) 12 := sm_ext (fun m hm => by
      show vl f u k 0 m * vl f u k 1 m - vl f v k 0 m * vl f v k 1 m = 0
      rw [e k 0 m hk (by omega) hm, e k 1 m hk (by omega) hm, Int32.sub_self])
    rw [z, sm_zero]
    split <;> rfl
  rw [z, sm_zero]
end LEAVES
