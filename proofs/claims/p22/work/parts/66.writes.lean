/-! the methods that write -/
theorem bi1 {b : Bool} : bi b = 1 ↔ b = true := by cases b <;> decide
theorem bi_inj {a b : Bool} : bi a = bi b ↔ a = b := by cases a <;> cases b <;> decide
theorem bi_or (a b : Bool) : bi a ||| bi b = bi (a || b) := by cases a <;> cases b <;> decide
def RH (h : Nat → Nat → Bool) (held mhel : Ar) : Prop := ∀ m, m < 12 → Bs (held m) (h m) ∧ ∀ k, k < 10 → mhel (12 * k + m) = bi (h m k)
def RC (c : Nat) (p : Nat → Nat) (cl : Nat → Nat → Bool) (clos mclo : Ar) : Prop := ∀ v, v < 3 → Bs (clos v) (cl v) ∧ (∀ k, k < 10 → mclo (10 * v + k) = bi (cl v k)) ∧ ∀ k, k < 10 → cl v k = true → k < c ∧ hc p c k = false
def RA (f : Ar) : Prop := ∀ v k m, v < 3 → k < 10 → m < 12 → ∃ a, a ≤ 2000000 ∧ f (v * 360 + k * 36 + 2 * 12 + m) = nI a
theorem RA.put {f : Ar} {i n : Nat} (h : RA f) (hn : n ≤ 2000000) : RA (upd f i (nI n)) := fun v k m hv hk hm => by
  by_cases e : v * 360 + k * 36 + 2 * 12 + m = i
  · exact ⟨n, hn, by rw [e]; exact pk_us⟩
  · rw [pk_un e]
    exact h v k m hv hk hm
theorem RA.copied {f : Ar} {s t : Nat} (h : RA f) (hs : s < 3) (ht : t < 3) : RA (cpy f s t 360) := fun v k m hv hk hm => by
  unfold cpy
  by_cases e : v = t
  · subst e
    rw [if_pos (by omega)]
    obtain ⟨a, h1, h2⟩ := h s k m hs hk hm
    refine ⟨a, h1, ?_⟩
    have ex : s * 360 + (v * 360 + k * 36 + 2 * 12 + m - v * 360) = s * 360 + k * 36 + 2 * 12 + m := by omega
    rw [ex]
    exact h2
  · rw [if_neg (by rcases Nat.lt_or_ge v t with q | q <;> omega)]
    exact h v k m hv hk hm
theorem i10 (v k : Nat) : (10 : Int32) * nI v + nI k = nI (10 * v + k) := by
  show nI 10 * nI v + nI k = _
  rw [pk_mul, nI_add]
theorem i12 (k m : Nat) : (12 : Int32) * nI k + nI m = nI (12 * k + m) := by
  show nI 12 * nI k + nI m = _
  rw [pk_mul, nI_add]
section WRITES
variable {c : Nat} {p : Nat → Nat} {cnt pwc pl : Int32} {par mpar : Ar} {h cl : Nat → Nat → Bool} {held mhel clos mclo : Ar}
/-- one held cell -/
def hset (h : Nat → Nat → Bool) (k m : Nat) (b : Bool) : Nat → Nat → Bool := fun m' k' => if m' = m ∧ k' = k then b else h m' k'
theorem s_holdJ {k m : Nat} {b : Bool} {x3 : Int32} {Q : Int32 → Ar → Prop} (H : RH h held mhel) (hk : k < 10) (hm : m < 12) (hb : x3 = bi b)
    (q : ∀ y, Bs y (hset h k m b m) → Q (bi (h m k != b)) (upd held m y)) :
    vp_in (nI m) 12 ∧ ((x3 = 0 → vX3_hold_J43 cnt pwc held (nI m) (held (nI m).toNatClampNeg) ((held (nI m).toNatClampNeg) &&& (((1 : Int32) <<< (nI k &&& 31)) ^^^ (-1))) Q) ∧ (¬ x3 = 0 → vX3_hold_J43 cnt pwc held (nI m) (held (nI m).toNatClampNeg) ((held (nI m).toNatClampNeg) ||| ((1 : Int32) <<< (nI k &&& 31))) Q)) := by
  have key : ∀ y, Bs y (hset h k m b m) → vX3_hold_J43 cnt pwc held (nI m) (held m) y Q := by
    intro y hy
    unfold vX3_hold_J43
    rw [nI_clamp (by omega)]
    have e : y = held m ↔ h m k = b := by
      constructor
      · intro e
        have h1 := hy.at hk
        rw [e, (H m hm).1.at hk] at h1
        rw [h1, hset, if_pos ⟨rfl, rfl⟩]
      · intro e
        refine hy.inj (H m hm).1 (fun k' _ => ?_)
        unfold hset
        by_cases z : k' = k
        · subst z
          rw [if_pos ⟨rfl, rfl⟩, e]
        · rw [if_neg (fun w => z w.2)]
    refine ⟨vp_in_nI (by omega) (by omega), fun z => ?_, fun z => ?_⟩
    · have := q y hy
      rw [e.mp z] at this
      have e2 : bi (b != b) = 0 := by cases b <;> rfl
      rw [e2] at this
      exact this
    · have := q y hy
      have e2 : bi (h m k != b) = 1 := by
        have w : ¬ h m k = b := fun w => z (e.mpr w)
        cases h1 : h m k <;> cases h2 : b <;> simp_all <;> rfl
      rw [e2] at this
      exact this
  rw [nI_clamp (by omega)]
  refine ⟨vp_in_nI (by omega) (by omega), fun z => ?_, fun z => ?_⟩
  · have hb0 : b = false := bi0.mp (by rw [← hb]; exact z)
    subst hb0
    refine key _ (((H m hm).1.andn (Bs.one hk)).of (fun k' _ => ?_))
    unfold hset
    by_cases w : k' = k <;> simp [w]
  · have hb1 : b = true := by
      cases b
      · exact absurd hb z
      · rfl
    subst hb1
    refine key _ (((H m hm).1.or (Bs.one hk)).of (fun k' _ => ?_))
    unfold hset
    by_cases w : k' = k <;> simp [w]
theorem RH.set {k m : Nat} {b : Bool} {y : Int32} (H : RH h held mhel) (hk : k < 10) (hm : m < 12) (hy : Bs y (hset h k m b m)) : RH (hset h k m b) (upd held m y) (upd mhel (12 * k + m) (bi b)) := by
  intro m' hm'
  constructor
  · by_cases e : m' = m
    · subst e
      rw [pk_us]
      exact hy
    · rw [pk_un e]
      refine (H m' hm').1.of (fun k' _ => ?_)
      unfold hset
      rw [if_neg (fun w => e w.1)]
  · intro k' hk'
    by_cases e : 12 * k' + m' = 12 * k + m
    · have e1 : m' = m := by omega
      have e2 : k' = k := by omega
      subst e1
      subst e2
      rw [pk_us, hset, if_pos ⟨rfl, rfl⟩]
    · rw [pk_un e, (H m' hm').2 k' hk', hset, if_neg]
      rintro ⟨rfl, rfl⟩
      exact e rfl
/-! handing in, taking back -/
theorem b_1023 : ∀ i, i < 32 → bt 1023 i = decide (i < 10) := by decide +kernel
theorem Bs.nat {x : Int32} {S : Nat → Bool} (h : Bs x S) : ∃ n, n < 1024 ∧ x = nI n := by
  obtain ⟨j, h1, h2⟩ := pk_andE x (m := 1023) 10 rfl
  refine ⟨j, h1, ?_⟩
  rw [← h2]
  refine b_ext (fun i hi => ?_)
  rw [b_and, b_1023 i hi, h i hi]
  cases decide (i < 10) <;> cases S i <;> rfl
def bcnt (x0 : Int32) : Int32 := sm (fun k => bi (bt x0 k)) 10
theorem bc_all : ∀ n, n < 1024 → vJ6_bitCount_0f7a4 (nI n) (fun r => r = bcnt (nI n)) := by
  unfold vJ6_bitCount_0f7a4
  decide +kernel
theorem s_bitCount {x : Int32} {S : Nat → Bool} {Q : Int32 → Prop} (hx : Bs x S) (q : Q (sm (fun k => bi (S k)) 10)) : vJ6_bitCount_0f7a4 x Q := by
  obtain ⟨n, hn, rfl⟩ := hx.nat
  have h1 := bc_all n hn
  have e : bcnt (nI n) = sm (fun k => bi (S k)) 10 := sm_ext (fun k hk => by rw [hx.at hk])
  unfold vJ6_bitCount_0f7a4 at h1 ⊢
  rw [h1, e]
  exact q
/-- the leaves L of a version get the mark b -/
def cset (cl : Nat → Nat → Bool) (v : Nat) (L : Nat → Bool) (b : Bool) : Nat → Nat → Bool := fun v' k' => if v' = v ∧ L k' = true then b else cl v' k'
def ccnt (cl : Nat → Nat → Bool) (v : Nat) (L : Nat → Bool) (b : Bool) : Int32 := sm (fun k => bi (L k && (cl v k != b))) 10
theorem s_handIn {v t : Nat} {x : Int32} {Q : Int32 → Ar → Prop} (C : RC c p cl clos mclo) (hv : v < 3) (hx : Bs x (lf p c t))
    (q : ∀ y, Bs y (cset cl v (lf p c t) true v) → Q (ccnt cl v (lf p c t) true) (upd clos v y)) :
    vp_in (nI v) 3 ∧ vp_in (nI v) 3 ∧ vp_in (nI v) 3 ∧ vJ6_bitCount_0f7a4 (x &&& ((clos (nI v).toNatClampNeg) ^^^ (-1))) (fun r38 => (Q r38 (upd clos (nI v).toNatClampNeg ((clos (nI v).toNatClampNeg) ||| (x &&& ((clos (nI v).toNatClampNeg) ^^^ (-1))))))) := by
  rw [nI_clamp (by omega)]
  have i3 : vp_in (nI v) 3 := vp_in_nI (by omega) (by omega)
  refine ⟨i3, i3, i3, s_bitCount (hx.andn (C v hv).1) ?_⟩
  have e : sm (fun k => bi (lf p c t k && !cl v k)) 10 = ccnt cl v (lf p c t) true := sm_ext (fun k _ => by cases lf p c t k <;> cases cl v k <;> rfl)
  rw [e]
  refine q _ (((C v hv).1.or (hx.andn (C v hv).1)).of (fun k _ => ?_))
  unfold cset
  cases lf p c t k <;> cases cl v k <;> simp
theorem s_takeBack {v t : Nat} {x : Int32} {Q : Int32 → Ar → Prop} (C : RC c p cl clos mclo) (hv : v < 3) (hx : Bs x (lf p c t))
    (q : ∀ y, Bs y (cset cl v (lf p c t) false v) → Q (ccnt cl v (lf p c t) false) (upd clos v y)) :
    vp_in (nI v) 3 ∧ vp_in (nI v) 3 ∧ vp_in (nI v) 3 ∧ vJ6_bitCount_0f7a4 (x &&& (clos (nI v).toNatClampNeg)) (fun r38 => (Q r38 (upd clos (nI v).toNatClampNeg ((clos (nI v).toNatClampNeg) &&& ((x &&& (clos (nI v).toNatClampNeg)) ^^^ (-1)))))) := by
  rw [nI_clamp (by omega)]
  have i3 : vp_in (nI v) 3 := vp_in_nI (by omega) (by omega)
  refine ⟨i3, i3, i3, s_bitCount (hx.and (C v hv).1) ?_⟩
  have e : sm (fun k => bi (lf p c t k && cl v k)) 10 = ccnt cl v (lf p c t) false := sm_ext (fun k _ => by cases lf p c t k <;> cases cl v k <;> rfl)
  rw [e]
  refine q _ (((C v hv).1.andn (hx.and (C v hv).1)).of (fun k _ => ?_))
  unfold cset
  cases lf p c t k <;> cases cl v k <;> simp
theorem RC.set {v t : Nat} {b : Bool} {y : Int32} {g : Ar} (C : RC c p cl clos mclo) (hy : Bs y (cset cl v (lf p c t) b v)) (hg : ∀ v', v' < 3 → ∀ k', k' < 10 → g (10 * v' + k') = bi (cset cl v (lf p c t) b v' k')) : RC c p (cset cl v (lf p c t) b) (upd clos v y) g := by
  intro v' hv'
  refine ⟨?_, hg v' hv', fun k hk z => ?_⟩
  · by_cases e : v' = v
    · subst e
      rw [pk_us]
      exact hy
    · rw [pk_un e]
      refine (C v' hv').1.of (fun k' _ => ?_)
      unfold cset
      rw [if_neg (fun w => e w.1)]
  · unfold cset at z
    by_cases w : v' = v ∧ lf p c t k = true
    · refine ⟨lf_lt w.2, ?_⟩
      have := w.2
      unfold lf at this
      cases q : hc p c k
      · rfl
      · rw [q] at this
        simp at this
    · rw [if_neg w] at z
      exact (C v' hv').2.2 k hk z
/-! copying -/
/-! adding a place -/
def orb (S : Nat → Bool) : Nat → Bool
  | 0 => false
  | n + 1 => orb S n || S n
theorem orb_f {S : Nat → Bool} : ∀ {n : Nat}, orb S n = false ↔ ∀ i, i < n → S i = false
  | 0 => ⟨fun _ i hi => absurd hi (Nat.not_lt_zero _), fun _ => rfl⟩
  | n + 1 => by
    show (orb S n || S n) = false ↔ _
    rw [Bool.or_eq_false_iff, orb_f]
    constructor
    · rintro ⟨a, b⟩ i hi
      rcases Nat.lt_or_ge i n with q | q
      · exact a i q
      · have : i = n := by omega
        subst this
        exact b
    · intro a
      exact ⟨fun i hi => a i (by omega), a n (by omega)⟩
/-- a leaf that nothing has touched -/
def unt (f : Ar) (h cl : Nat → Nat → Bool) (k : Nat) : Prop := blk f k ∧ (∀ m, m < 12 → h m k = false) ∧ ∀ v, v < 3 → cl v k = false
theorem s_isInUse {f : Ar} {k : Nat} {Q : Int32 → Prop} (H : RH h held mhel) (C : RC c p cl clos mclo) (hk : k < 10) (q0 : unt f h cl k → Q 0) (q1 : ¬ unt f h cl k → Q 1) : vX3_isInUse f held clos (nI k) Q := by
  refine pk_loop (fun n i (s : Int32) => vX3_isInUse_L4 f held clos (nI k) Q n s (nI i)) (fun i s => Bs s (fun k => orb (fun m => h m k) i)) 12 0 0 (by omega) Bs.zero (fun n s e => ?_) (fun n i s hi e ih => ?_)
  · refine And.intro (fun _ => ?_) (fun c => absurd (Int32.le_refl _) c)
    refine pk_loop (fun n i (s : Int32) => vX3_isInUse_L27 f held clos (nI k) Q n s (nI i)) (fun i s => Bs s (fun k => orb (fun m => h m k) 12 || orb (fun v => cl v k) i)) 3 0 s (by omega) (e.of (fun k _ => (Bool.or_false _).symm)) (fun n s e => ?_) (fun n i s hi e ih => ?_)
    · refine And.intro (fun _ => ?_) (fun c => absurd (Int32.le_refl _) c)
      refine s_isIn e hk ?_
      cases w : (orb (fun m => h m k) 12 || orb (fun v => cl v k) 3)
      · rw [Bool.or_eq_false_iff] at w
        exact i0' (s_isBlank hk (fun hb => i1' (q0 ⟨hb, orb_f.mp w.1, orb_f.mp w.2⟩)) (fun hb => i0' (q1 (fun u => hb u.1))))
      · refine i1' (q1 (fun u => ?_))
        rw [orb_f.mpr u.2.1, orb_f.mpr u.2.2] at w
        cases w
    · refine And.intro (fun c => absurd c (nI_ge (b := 3) hi (by omega))) (fun _ => ?_)
      rw [nI_clamp (by omega), nI_1]
      refine ⟨vp_in_nI hi (by omega), ih _ ((e.or (C i hi).1).of (fun k _ => ?_))⟩
      show ((orb (fun m => h m k) 12 || orb (fun v => cl v k) i) || cl i k) = (orb (fun m => h m k) 12 || (orb (fun v => cl v k) i || cl i k))
      rw [Bool.or_assoc]
  · refine And.intro (fun c => absurd c (nI_ge (b := 12) hi (by omega))) (fun _ => ?_)
    rw [nI_clamp (by omega), nI_1]
    exact ⟨vp_in_nI hi (by omega), ih _ (e.or (H i hi).1)⟩
def pset (p : Nat → Nat) (c k : Nat) : Nat → Nat := fun i => if i = c then k else p i
theorem hc_ext {p p' : Nat → Nat} {j : Nat} : ∀ {n : Nat}, (∀ i, i < n → p i = p' i) → hc p n j = hc p' n j
  | 0, _ => rfl
  | n + 1, e => by
    show (hc p n j || (decide (0 < n) && decide (p n = j))) = (hc p' n j || (decide (0 < n) && decide (p' n = j)))
    rw [hc_ext (fun i hi => e i (by omega)), e n (by omega)]
theorem hc_pset {k j : Nat} (h1 : 1 ≤ c) : hc (pset p c k) (c + 1) j = (hc p c j || decide (j = k)) := by
  show (hc (pset p c k) c j || (decide (0 < c) && decide (pset p c k c = j))) = _
  have e : hc (pset p c k) c j = hc p c j := hc_ext (fun i hi => by rw [pset, if_neg (by omega)])
  have e2 : pset p c k c = k := if_pos rfl
  rw [e, e2, decide_eq_true (by omega), Bool.true_and]
  by_cases z : j = k
  · rw [decide_eq_true z, decide_eq_true z.symm]
  · rw [decide_eq_false z, decide_eq_false (fun w => z w.symm)]
theorem RT3.add {k : Nat} (R : RT3 c p cnt pwc par pl mpar) (hk : k < c) (hc10 : c < 10) : RT3 (c + 1) (pset p c k) (cnt + 1) (pwc ||| ((1 : Int32) <<< (nI k &&& 31))) (upd par c (nI k)) (pl + 1) (upd mpar c (nI k)) := by
  obtain ⟨⟨c1, c2⟩, rfl, rfl, hm0, hpar, hpw⟩ := R
  refine ⟨⟨by omega, by omega⟩, nI_1 c, nI_1 c, ?_, fun i h0 hi => ?_, (hpw.or (Bs.one (by omega))).of (fun j _ => (hc_pset c1).symm)⟩
  · rw [pk_un (by omega)]
    exact hm0
  · by_cases e : i = c
    · subst e
      rw [pk_us, pk_us, pset, if_pos rfl]
      exact ⟨hk, rfl, rfl⟩
    · rw [pk_un e, pk_un e, pset, if_neg e]
      exact hpar i h0 (by omega)
theorem RC.add {k : Nat} (C : RC c p cl clos mclo) (h1 : 1 ≤ c) (hn : hc p c k = true ∨ ∀ v, v < 3 → cl v k = false) : RC (c + 1) (pset p c k) cl clos mclo := by
  intro v hv
  obtain ⟨a1, a2, a3⟩ := C v hv
  refine ⟨a1, a2, fun j hj z => ?_⟩
  obtain ⟨b1, b2⟩ := a3 j hj z
  refine ⟨by omega, ?_⟩
  rw [hc_pset h1, b2, Bool.false_or]
  refine decide_eq_false (fun e => ?_)
  subst e
  rcases hn with hn | hn
  · rw [hn] at b2
    cases b2
  · rw [hn v hv] at z
    cases z
end WRITES
