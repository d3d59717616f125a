/-! bits: rows of kit/laws/BITS.to-paste, and a set of places as an int -/
def bt (x : Int32) (i : Nat) : Bool := x.toBitVec.getLsbD i
theorem b_ext {x y : Int32} (h : ∀ i, i < 32 → bt x i = bt y i) : x = y := Int32.toBitVec_inj.mp (BitVec.eq_of_getLsbD_eq (fun i hi => h i hi))
theorem b_or (x y : Int32) (i : Nat) : bt (x ||| y) i = (bt x i || bt y i) := by unfold bt; rw [Int32.toBitVec_or, BitVec.getLsbD_or]
theorem b_and (x y : Int32) (i : Nat) : bt (x &&& y) i = (bt x i && bt y i) := by unfold bt; rw [Int32.toBitVec_and, BitVec.getLsbD_and]
theorem b_xor (x y : Int32) (i : Nat) : bt (x ^^^ y) i = (bt x i ^^ bt y i) := by unfold bt; rw [Int32.toBitVec_xor, BitVec.getLsbD_xor]
theorem b_big {x : Int32} {i : Nat} (h : 32 ≤ i) : bt x i = false := BitVec.getLsbD_of_ge _ _ h
theorem b_m1 : ∀ i, i < 32 → bt (-1) i = true := by decide +kernel
theorem b_0 (i : Nat) : bt 0 i = false := BitVec.getLsbD_zero
theorem s_l : ∀ n, n < 32 → ((nI n &&& 31).toBitVec.smod 32).toNat = n := by decide +kernel
theorem s_u : ∀ n, n < 32 → (((nI n).toUInt32 &&& Int32.toUInt32 31).toBitVec % 32).toNat = n := by decide +kernel
theorem b_shl (n : Nat) (hn : n < 32) (x : Int32) {i : Nat} (hi : i < 32) : bt (x <<< (nI n &&& 31)) i = (decide (n ≤ i) && bt x (i - n)) := by
  unfold bt
  rw [Int32.toBitVec_shiftLeft]
  show (x.toBitVec <<< ((nI n &&& 31).toBitVec.smod 32).toNat).getLsbD i = _
  rw [s_l n hn, BitVec.getLsbD_shiftLeft]
  rcases Nat.lt_or_ge i n with h | h
  · simp [h, Nat.not_le.mpr h]
  · simp [hi, h, Nat.not_lt.mpr h]
theorem b_ushr (n : Nat) (hn : n < 32) (x : Int32) (i : Nat) : bt ((x.toUInt32 >>> ((nI n).toUInt32 &&& Int32.toUInt32 31)).toInt32) i = bt x (n + i) := by
  show (x.toUInt32 >>> ((nI n).toUInt32 &&& Int32.toUInt32 31)).toBitVec.getLsbD i = x.toUInt32.toBitVec.getLsbD (n + i)
  rw [UInt32.toBitVec_shiftRight]
  show (x.toUInt32.toBitVec >>> (((nI n).toUInt32 &&& Int32.toUInt32 31).toBitVec % 32).toNat).getLsbD i = _
  rw [s_u n hn, BitVec.getLsbD_ushiftRight]
theorem b_sshr (n : Nat) (hn : n < 32) (x : Int32) {i : Nat} (hi : i < 32) : bt (x >>> (nI n &&& 31)) i = if n + i < 32 then bt x (n + i) else bt x 31 := by
  unfold bt
  rw [Int32.toBitVec_shiftRight]
  show (x.toBitVec.sshiftRight ((nI n &&& 31).toBitVec.smod 32).toNat).getLsbD i = _
  rw [s_l n hn, BitVec.getLsbD_sshiftRight, BitVec.msb_eq_getLsbD_last]
  simp [hi]

def bi (b : Bool) : Int32 := if b = true then 1 else 0
theorem bi0 {b : Bool} : bi b = 0 ↔ b = false := by cases b <;> decide
theorem biT : bi true = 1 := rfl
theorem biF : bi false = 0 := rfl
theorem bi_nar (b : Bool) : narrow .boolean (.int (bi b)) = .int (bi b) := by cases b <;> rfl
theorem b_1 : ∀ i, i < 32 → i ≠ 0 → bt 1 i = false := by decide +kernel
theorem b_10 : bt 1 0 = true := by decide
theorem and1 (y : Int32) : (y &&& 1) = 0 ↔ bt y 0 = false := by
  constructor
  · intro h
    have h1 : bt (y &&& 1) 0 = false := by rw [h]; exact b_0 0
    rw [b_and, b_10, Bool.and_true] at h1
    exact h1
  · intro h
    refine b_ext (fun i hi => ?_)
    rw [b_and, b_0]
    by_cases h0 : i = 0
    · subst h0
      rw [h]; rfl
    · rw [b_1 i hi h0, Bool.and_false]
/-- the int x is the set S of places -/
def Bs (x : Int32) (S : Nat → Bool) : Prop := ∀ i, i < 32 → bt x i = (decide (i < 10) && S i)
theorem Bs.at {x : Int32} {S : Nat → Bool} (h : Bs x S) {k : Nat} (hk : k < 10) : bt x k = S k := by
  rw [h k (by omega), decide_eq_true hk, Bool.true_and]
theorem Bs.of {x : Int32} {S T : Nat → Bool} (h : Bs x S) (e : ∀ k, k < 10 → S k = T k) : Bs x T := fun i hi => by
  rw [h i hi]
  by_cases q : i < 10
  · rw [e i q]
  · rw [decide_eq_false q, Bool.false_and, Bool.false_and]
theorem Bs.inj {x y : Int32} {S T : Nat → Bool} (h : Bs x S) (h2 : Bs y T) (e : ∀ k, k < 10 → S k = T k) : x = y := b_ext fun i hi => by rw [h.of e i hi, h2 i hi]
theorem Bs.zero : Bs 0 (fun _ => false) := fun i hi => by rw [b_0, Bool.and_false]
theorem Bs.eq0 {x : Int32} {S : Nat → Bool} (h : Bs x S) : x = 0 ↔ ∀ k, k < 10 → S k = false :=
  ⟨fun e k hk => by rw [← h.at hk, e]; exact b_0 k, fun e => h.inj Bs.zero e⟩
theorem Bs.and {x y : Int32} {S T : Nat → Bool} (h : Bs x S) (h2 : Bs y T) : Bs (x &&& y) (fun k => S k && T k) := fun i hi => by
  rw [b_and, h i hi, h2 i hi]
  show _ = (decide (i < 10) && (S i && T i))
  cases decide (i < 10) <;> cases S i <;> cases T i <;> rfl
theorem Bs.or {x y : Int32} {S T : Nat → Bool} (h : Bs x S) (h2 : Bs y T) : Bs (x ||| y) (fun k => S k || T k) := fun i hi => by
  rw [b_or, h i hi, h2 i hi]
  show _ = (decide (i < 10) && (S i || T i))
  cases decide (i < 10) <;> cases S i <;> cases T i <;> rfl
theorem Bs.andn {x y : Int32} {S T : Nat → Bool} (h : Bs x S) (h2 : Bs y T) : Bs (x &&& (y ^^^ (-1))) (fun k => S k && !T k) := fun i hi => by
  rw [b_and, b_xor, h i hi, h2 i hi, b_m1 i hi]
  show _ = (decide (i < 10) && (S i && !T i))
  cases decide (i < 10) <;> cases S i <;> cases T i <;> rfl
theorem Bs.one {k : Nat} (hk : k < 10) : Bs ((1 : Int32) <<< (nI k &&& 31)) (fun i => decide (i = k)) := fun i hi => by
  rw [b_shl k (by omega) 1 hi]
  by_cases e : i = k
  · subst e
    rw [Nat.sub_self, b_10]
    simp [hk]
  · by_cases q : k ≤ i
    · rw [b_1 (i - k) (by omega) (by omega)]
      simp [e]
    · simp [e, q]
theorem s_isIn {x : Int32} {S : Nat → Bool} {k : Nat} {Q : Int32 → Prop} (hx : Bs x S) (hk : k < 10) (h : Q (bi (S k))) : vX3_isIn x (nI k) Q := by
  have e : (((x >>> (nI k &&& 31)) &&& 1) = 0) ↔ S k = false := by
    rw [and1, b_sshr k (by omega) x (by omega), if_pos (by omega), Nat.add_zero, hx.at hk]
  refine And.intro (fun c => ?_) (fun c => ?_)
  · rw [e.mp c] at h
    exact h
  · cases hs : S k
    · exact absurd (e.mpr hs) c
    · rw [hs] at h
      exact h
/-! sums -/
def sm (f : Nat → Int32) : Nat → Int32
  | 0 => 0
  | n + 1 => sm f n + f n
theorem sm_ext {f g : Nat → Int32} : ∀ {n : Nat}, (∀ i, i < n → f i = g i) → sm f n = sm g n
  | 0, _ => rfl
  | n + 1, h => by
    show sm f n + f n = sm g n + g n
    rw [sm_ext (fun i hi => h i (by omega)), h n (by omega)]
theorem sm_ge {f : Nat → Int32} {n : Nat} : ∀ (d : Nat), (∀ i, n ≤ i → i < n + d → f i = 0) → sm f (n + d) = sm f n
  | 0, _ => rfl
  | d + 1, h => by
    show sm f (n + d) + f (n + d) = sm f n
    rw [sm_ge d (fun i h1 h2 => h i h1 (by omega)), h (n + d) (by omega) (by omega), Int32.add_zero]
theorem sm_cut {f : Nat → Int32} {n N : Nat} (hn : n ≤ N) (h : ∀ i, n ≤ i → i < N → f i = 0) : sm f N = sm f n := by
  have e : N = n + (N - n) := by omega
  rw [e]
  exact sm_ge (N - n) (fun i h1 h2 => h i h1 (by omega))
theorem sm_zero : ∀ (n : Nat), sm (fun _ => 0) n = 0
  | 0 => rfl
  | n + 1 => by
    show sm (fun _ => 0) n + 0 = 0
    rw [sm_zero n]; rfl
theorem sm_add (f g : Nat → Int32) : ∀ (n : Nat), sm (fun i => f i + g i) n = sm f n + sm g n
  | 0 => rfl
  | n + 1 => by
    show sm (fun i => f i + g i) n + (f n + g n) = (sm f n + f n) + (sm g n + g n)
    rw [sm_add f g n, Int32.add_assoc, Int32.add_assoc, ← Int32.add_assoc (sm g n), Int32.add_comm (sm g n), Int32.add_assoc]
theorem sm_swap (f : Nat → Nat → Int32) (M : Nat) : ∀ (N : Nat), sm (fun k => sm (fun m => f k m) M) N = sm (fun m => sm (fun k => f k m) N) M
  | 0 => (sm_zero M).symm
  | N + 1 => by
    show sm (fun k => sm (fun m => f k m) M) N + sm (fun m => f N m) M = sm (fun m => sm (fun k => f k m) N + f N m) M
    rw [sm_add, sm_swap f M N]
theorem sm_if {b : Bool} (f : Nat → Int32) (n : Nat) : sm (fun m => if b = true then f m else 0) n = if b = true then sm f n else 0 := by
  cases b
  · simpa using sm_zero n
  · rfl
