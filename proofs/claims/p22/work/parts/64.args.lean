/-! arguments, good and bad -/
def bad (x : Int32) (n : Nat) : Prop := x < 0 ∨ (¬ x < 0 ∧ nI n ≤ x)
theorem arg (x : Int32) (n : Nat) (hn : n < 2 ^ 31) : (∃ j, j < n ∧ x = nI j) ∨ bad x n := by
  rcases pk_ix x hn with h | h | h
  · exact Or.inr (Or.inl h)
  · by_cases q : x < 0
    · exact Or.inr (Or.inl q)
    · exact Or.inr (Or.inr ⟨q, h⟩)
  · exact Or.inl h
theorem i1 {A B : Prop} (h : B) : ((1 : Int32) = 0 → A) ∧ (¬ (1 : Int32) = 0 → B) := ⟨fun z => absurd z (by decide), fun _ => h⟩
theorem i1' {A B : Prop} (h : B) : (¬ (1 : Int32) = 0 → B) ∧ ((1 : Int32) = 0 → A) := ⟨fun _ => h, fun z => absurd z (by decide)⟩
theorem i0 {A B : Prop} (h : A) : ((0 : Int32) = 0 → A) ∧ (¬ (0 : Int32) = 0 → B) := ⟨fun _ => h, fun z => absurd rfl z⟩
theorem i0' {A B : Prop} (h : A) : (¬ (0 : Int32) = 0 → B) ∧ ((0 : Int32) = 0 → A) := ⟨fun z => absurd rfl z, fun _ => h⟩
theorem ge_nlt {x y : Int32} (h : x ≤ y) : ¬ y < x := Int32.not_lt.mpr h
theorem shA_ok {j n : Nat} {Q F : Prop} (hj : j < n) (hn : n < 2 ^ 31) (q : Q) : (nI j < 0 → F) ∧ (¬ nI j < 0 → ((nI j < nI n → Q) ∧ (¬ nI j < nI n → F))) :=
  ⟨fun z => absurd z (nI_pos (by omega)), fun _ => ⟨fun _ => q, fun z => absurd (nI_lt hj hn) z⟩⟩
theorem shA_no {x : Int32} {n : Nat} {Q F : Prop} (b : bad x n) (f : F) : (x < 0 → F) ∧ (¬ x < 0 → ((x < nI n → Q) ∧ (¬ x < nI n → F))) :=
  ⟨fun _ => f, fun z => ⟨fun y => by rcases b with b | b; exact absurd b z; exact absurd y (ge_nlt b.2), fun _ => f⟩⟩
theorem nI_up {x : Int32} {n : Nat} (hn : n + 1 < 2 ^ 31) (h : nI (n + 1) ≤ x) : nI n < x :=
  Int32.lt_of_lt_of_le (nI_lt (Nat.lt_succ_self n) hn) h
theorem shB_ok {j n : Nat} {Q F : Prop} (hj : j ≤ n) (hn : n < 2 ^ 31) (q : Q) : (nI j < 0 → F) ∧ (¬ nI j < 0 → ((nI j ≤ nI n → Q) ∧ (¬ nI j ≤ nI n → F))) :=
  ⟨fun z => absurd z (nI_pos (by omega)), fun _ => ⟨fun _ => q, fun z => absurd (nI_le hj hn) z⟩⟩
theorem shB_no {x : Int32} {n : Nat} {Q F : Prop} (hn : n + 1 < 2 ^ 31) (b : bad x (n + 1)) (f : F) : (x < 0 → F) ∧ (¬ x < 0 → ((x ≤ nI n → Q) ∧ (¬ x ≤ nI n → F))) :=
  ⟨fun _ => f, fun z => ⟨fun y => by rcases b with b | b; exact absurd b z; exact absurd (nI_up hn b.2) (ge_nlt y), fun _ => f⟩⟩
theorem v_ver {j : Nat} {Q : Prop} (h : j < 3) (q : Q) : vX3_checkVersion (nI j) Q := shA_ok (n := 3) h (by omega) q
theorem z_ver {x : Int32} {X : String → Prop} (b : bad x 3) (q : X eIO) : zX3_checkVersion x X := shA_no (n := 3) b q
theorem v_cac {j : Nat} {Q : Prop} (h : j < 3) (q : Q) : vX3_checkCellAccount (nI j) Q := shA_ok (n := 3) h (by omega) q
theorem z_cac {x : Int32} {X : String → Prop} (b : bad x 3) (q : X eIO) : zX3_checkCellAccount x X := shA_no (n := 3) b q
theorem v_mon {j : Nat} {Q : Prop} (h : j < 12) (q : Q) : vX3_checkMonth (nI j) Q := shA_ok (n := 12) h (by omega) q
theorem z_mon {x : Int32} {X : String → Prop} (b : bad x 12) (q : X eIO) : zX3_checkMonth x X := shA_no (n := 12) b q
theorem v_acc {j : Nat} {Q : Prop} (h : j < 4) (q : Q) : vX3_checkAccount (nI j) Q := shB_ok (n := 3) (Nat.lt_succ_iff.mp h) (by omega) q
theorem z_acc {x : Int32} {X : String → Prop} (b : bad x 4) (q : X eIO) : zX3_checkAccount x X := shB_no (n := 3) (by omega) b q
theorem v_upto {j M : Nat} {Q : Prop} (hM : M < 2 ^ 31) (h : j < M + 1) (q : Q) : vX3_checkUpTo (nI j) (nI M) Q := shB_ok (Nat.lt_succ_iff.mp h) hM q
theorem z_upto {x : Int32} {M : Nat} {X : String → Prop} (hM : M + 1 < 2 ^ 31) (b : bad x (M + 1)) (q : X eIA) : zX3_checkUpTo x (nI M) X := shB_no hM b q
theorem h_ok {j c : Nat} {Q : Int32 → Prop} (h : j < c) (hc : c ≤ 10) (q : Q 1) : vX2_has (nI c) (nI j) Q :=
  ⟨fun z => absurd z (nI_pos (by omega)), fun _ => ⟨fun z => absurd z (nI_ge h (by omega)), fun _ => q⟩⟩
theorem h_no {x : Int32} {c : Nat} {Q : Int32 → Prop} (b : bad x c) (q : Q 0) : vX2_has (nI c) x Q :=
  ⟨fun _ => q, fun z => ⟨fun _ => q, fun y => by rcases b with b | b; exact absurd b z; exact absurd b.2 y⟩⟩
theorem v_plc {j c : Nat} {Q : Prop} (hc : c ≤ 10) (h : j < c) (q : Q) : vX3_checkPlace (nI c) (nI j) Q := h_ok h hc (i1' q)
theorem z_plc {x : Int32} {c : Nat} {X : String → Prop} (b : bad x c) (q : X eIO) : zX3_checkPlace (nI c) x X := h_no b (i0' q)
theorem nI_dn {c : Nat} (h : 1 ≤ c) : nI c - 1 = nI (c - 1) := by
  obtain ⟨d, rfl⟩ : ∃ d, c = d + 1 := ⟨c - 1, by omega⟩
  exact nI_pred d
def mst (a : Nat) : Nat := if a = 2 then 1000000 else 1000
theorem mst_le (a : Nat) : mst a ≤ 1000000 := by unfold mst; split <;> omega
theorem s_most {a : Nat} {Q : Int32 → Prop} (ha : a < 3) (q : Q (nI (mst a))) : vX3_mostOf (nI a) Q := by
  refine And.intro (fun c => ?_) (fun c => ?_)
  · rw [mst, if_neg (fun e => c (by rw [e]; rfl))] at q
    exact q
  · have c := (nI_eq (b := 2) (by omega) (by omega)).mp c
    rw [mst, if_pos c] at q
    exact q
theorem m_rd {f : Ar} {i N : Nat} {Q : Int32 → Prop} (hi : i < N) (hN : N < 2 ^ 31) (q : Q (f i)) : vp_in (nI i) N ∧ Q (f (nI i).toNatClampNeg) := by
  rw [nI_clamp (by omega)]
  exact ⟨vp_in_nI hi hN, q⟩
section ARGS
variable {c : Nat} {p : Nat → Nat} {cnt pwc pl : Int32} {par mpar : Ar}
theorem v_leaf {k : Nat} {Q : Prop} (R : RT3 c p cnt pwc par pl mpar) (hk : k < c) (h : hc p c k = false) (q : Q) : vX3_checkLeaf pwc (nI k) Q := by
  refine s_isLeaf R (by have := R.1; omega) ?_
  rw [h]
  exact i1' q
theorem z_leaf {k : Nat} {X : String → Prop} (R : RT3 c p cnt pwc par pl mpar) (hk : k < c) (h : hc p c k = true) (q : X eIS) : zX3_checkLeaf pwc (nI k) X := by
  refine s_isLeaf R (by have := R.1; omega) ?_
  rw [h]
  exact i0' q
theorem sm_lf {t : Nat} (f : Nat → Int32) (hc : c ≤ 10) : sm (fun k => if lf p c t k = true then f k else 0) 10 = sm (fun k => if lf p c t k = true then f k else 0) c :=
  sm_cut hc (fun i h _ => by rw [lf_ge h]; rfl)
end ARGS
