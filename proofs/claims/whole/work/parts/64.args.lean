/-! arguments, good and bad -/
def bad (x : Int32) (n : Nat) : Prop := x < 0 ∨ (¬ x < 0 ∧ nI n ≤ x)
theorem arg (x : Int32) (n : Nat) (hn : n < 2 ^ 31) : (∃ j, j < n ∧ x = nI j) ∨ bad x n := by
  rcases pk_ix x hn with h | h | h
  · exact Or.inr (Or.inl h)
  · by_cases q : x < 0
    · exact Or.inr (Or.inl q)
    · exact Or.inr (Or.inr ⟨q, h⟩)
  · exact Or.inl h
theorem i1 {A B : Prop} (h : B) : ((1 : Int32) = 0 → A) ∧ (¬ (1 : Int32) = 0 → B) := ⟨fun z => absurd z (by decide), fun _ => h⟩
theorem i1' {A B : Prop} (h : B) : (¬ (1 : Int32) = 0 → B) ∧ ((1 : Int32) = 0 → A) := ⟨fun _ => h, fun z => absurd z (by decide)⟩
theorem i0 {A B : Prop} (h : A) : ((0 : Int32) = 0 → A) ∧ (¬ (0 : Int32) = 0 → B) := ⟨fun _ => h, fun z => absurd rfl z⟩
theorem i0' {A B : Prop} (h : A) : (¬ (0 : Int32) = 0 → B) ∧ ((0 : Int32) = 0 → A) := ⟨fun z => absurd rfl z, fun _ => h⟩
theorem ge_nlt {x y : Int32} (h : x ≤ y) : ¬ y < x := Int32.not_lt.mpr h
theorem shA_ok {j n : Nat} {Q F : Prop} (hj : j < n) (hn : n < 2 ^ 31) (q : Q) : (nI j < 0 → F) ∧ (¬ nI j < 0 → ((nI j < nI n → Q) ∧ (¬ nI j < nI n → F))) :=
  ⟨fun z => absurd z (nI_pos (by omega)), fun _ => ⟨fun _ => q, fun z => absurd (nI_lt hj hn) z⟩⟩
theorem shA_no {x : Int32} {n : Nat} {Q F : Prop} (b : bad x n) (f : F) : (x < 0 → F) ∧ (¬ x < 0 → ((x < nI n → Q) ∧ (¬ x < nI n → F))) :=
  ⟨fun _ => f, fun z => ⟨fun y => by rcases b with b | b; exact absurd b z; exact absurd y (ge_nlt b.2), fun _ => f⟩⟩
theorem nI_up {x : Int32} {n : Nat} (hn : n + 1 < 2 ^ 31) (h : nI (n + 1) ≤ x) : nI n < x :=
  Int32.lt_of_lt_of_le (nI_lt (Nat.lt_succ_self n) hn) h
theorem shB_ok {j n : Nat} {Q F : Prop} (hj : j ≤ n) (hn : n < 2 ^ 31) (q : Q) : (nI j < 0 → F) ∧ (¬ nI j < 0 → ((nI j ≤ nI n → Q) ∧ (¬ nI j ≤ nI n → F))) :=
  ⟨fun z => absurd z (nI_pos (by omega)), fun _ => ⟨fun _ => q, fun z => absurd (nI_le hj hn) z⟩⟩
theorem shB_no {x : Int32} {n : Nat} {Q F : Prop} (hn : n + 1 < 2 ^ 31) (b : bad x (n + 1)) (f : F) : (x < 0 → F) ∧ (¬ x < 0 → ((x ≤ nI n → Q) ∧ (¬ x ≤ nI n → F))) :=
  ⟨fun _ => f, fun z => ⟨fun y => by rcases b with b | b; exact absurd b z; exact absurd (nI_up hn b.2) (ge_nlt y), fun _ => f⟩⟩
theorem v_ver {j : Nat} {Q : Prop} (h : j < 3) (q : Q) : vX3_checkVersion (nI j) Q := shA_ok (n := 3) h (by omega) q
theorem z_ver {x : Int32} {X : String → Prop} (b : bad x 3) (q : X eIO) : zX3_checkVersion x X := shA_no (n := 3) b q
theorem v_cac {j : Nat} {Q : Prop} (h : j < 3) (q : Q) : vX3_checkCellAccount (nI j) Q := shA_ok (n := 3) h (by omega) q
theorem z_cac {x : Int32} {X : String → Prop} (b : bad x 3) (q : X eIO) : zX3_checkCellAccount x X := shA_no (n := 3) b q
theorem v_mon {j : Nat} {Q : Prop} (h : j < 12) (q : Q) : vX3_checkMonth (nI j) Q := shA_ok (n := 12) h (by omega) q
theorem z_mon {x : Int32} {X : String → Prop} (b : bad x 12) (q : X eIO) : zX3_checkMonth x X := shA_no (n := 12) b q
theorem v_acc {j : Nat} {Q : Prop} (h : j < 4) (q : Q) : vX3_checkAccount (nI j) Q := shB_ok (n := 3) (Nat.lt_succ_iff.mp h) (by omega) q
theorem z_acc {x : Int32} {X : String → Prop} (b : bad x 4) (q : X eIO) : zX3_checkAccount x X := shB_no (n := 3) (by omega) b q
theorem v_upto {j M : Nat} {Q : Prop} (hM : M < 2 ^ 31) (h : j < M + 1) (q : Q) : vX3_checkUpTo (nI j) (nI M) Q := shB_ok (Nat.lt_succ_iff.mp h) hM q
theorem z_upto {x : Int32} {M : Nat} {X : String → Prop} (hM : M + 1 < 2 ^ 31) (b : bad x (M + 1)) (q : X eIA) : zX3_checkUpTo x (nI M) X := shB_no hM b q
theorem h_ok {j c : Nat} {Q : Int32 → Prop} (h : j < c) (hc : c ≤ 10) (q : Q 1) : vX2_has (nI c) (nI j) Q :=
  ⟨fun z => absurd z (nI_pos (by omega)), fun _ => ⟨fun z => absurd z (nI_ge h (by omega)), fun _ => q⟩⟩
theorem h_no {x : Int32} {c : Nat} {Q : Int32 → Prop} (b : bad x c) (q : Q 0) : vX2_has (nI c) x Q :=
  ⟨fun _ => q, fun z => ⟨fun _ => q, fun y => by rcases b with b | b; exact absurd b z; exact absurd b.2 y⟩⟩
theorem v_plc {j c : Nat} {Q : Prop} (hc : c ≤ 10) (h : j < c) (q : Q) : vX3_checkPlace (nI c) (nI j) Q := h_ok h hc (i1' q)
theorem z_plc {x : Int32} {c : Nat} {X : String → Prop} (b : bad x c) (q : X eIO) : zX3_checkPlace (nI c) x X := h_no b (i0' q)
theorem m_in {j n : Nat} {Q : Int32 → Prop} (hn : n < 2 ^ 31) (h : j < n + 1) (q : Q 1) : vX4_in (nI j) 0 (nI n) Q :=
  ⟨fun z => absurd z (nI_pos (by omega)), fun _ => ⟨fun z => absurd z (nI_nlt (by omega) (by omega)), fun _ => q⟩⟩
theorem n_in {x : Int32} {n : Nat} {Q : Int32 → Prop} (hn : n + 1 < 2 ^ 31) (b : bad x (n + 1)) (q : Q 0) : vX4_in x 0 (nI n) Q :=
  ⟨fun _ => q, fun z => ⟨fun _ => q, fun y => by rcases b with b | b; exact absurd b z; exact absurd (nI_up hn b.2) y⟩⟩
theorem m_ver {j : Nat} {Q : Int32 → Prop} (h : j < 3) (q : Q 1) : vX4_isVersion (nI j) Q := m_in (n := 2) (by omega) h ⟨rfl, q⟩
theorem n_ver {x : Int32} {Q : Int32 → Prop} (b : bad x 3) (q : Q 0) : vX4_isVersion x Q := n_in (n := 2) (by omega) b ⟨rfl, q⟩
theorem m_mon {j : Nat} {Q : Int32 → Prop} (h : j < 12) (q : Q 1) : vX4_isMonth (nI j) Q := m_in (n := 11) (by omega) h ⟨rfl, q⟩
theorem n_mon {x : Int32} {Q : Int32 → Prop} (b : bad x 12) (q : Q 0) : vX4_isMonth x Q := n_in (n := 11) (by omega) b ⟨rfl, q⟩
theorem nI_dn {c : Nat} (h : 1 ≤ c) : nI c - 1 = nI (c - 1) := by
  obtain ⟨d, rfl⟩ : ∃ d, c = d + 1 := ⟨c - 1, by omega⟩
  exact nI_pred d
theorem m_plc {j c : Nat} {Q : Int32 → Prop} (hc : 1 ≤ c ∧ c ≤ 10) (h : j < c) (q : Q 1) : vX4_isPlace (nI c) (nI j) Q := by
  unfold vX4_isPlace
  rw [nI_dn hc.1]
  exact m_in (by omega) (by omega) ⟨rfl, q⟩
theorem n_plc {x : Int32} {c : Nat} {Q : Int32 → Prop} (hc : 1 ≤ c ∧ c ≤ 10) (b : bad x c) (q : Q 0) : vX4_isPlace (nI c) x Q := by
  unfold vX4_isPlace
  rw [nI_dn hc.1]
  refine n_in (by omega) ?_ ⟨rfl, q⟩
  rw [Nat.sub_add_cancel hc.1]
  exact b
def mst (a : Nat) : Nat := if a = 2 then 1000000 else 1000
theorem mst_le (a : Nat) : mst a ≤ 1000000 := by unfold mst; split <;> omega
theorem s_most {a : Nat} {Q : Int32 → Prop} (ha : a < 3) (q : Q (nI (mst a))) : vX3_mostOf (nI a) Q := by
  refine And.intro (fun c => ?_) (fun c => ?_)
  · rw [mst, if_neg (fun e => c (by rw [e]; rfl))] at q
    exact q
  · have c := (nI_eq (b := 2) (by omega) (by omega)).mp c
    rw [mst, if_pos c] at q
    exact q
theorem m_amt_sh {a : Nat} {x : Int32} {Q : Int32 → Prop} (ha : a < 3) (q : vX4_isAmount_J15 (nI (mst a)) 0 x Q) : vX4_isAmount (nI a) x Q := by
  refine And.intro (fun c => ?_) (fun c => ?_)
  · rw [mst, if_neg (fun e => c (by rw [e]; rfl))] at q
    exact q
  · have c := (nI_eq (b := 2) (by omega) (by omega)).mp c
    rw [mst, if_pos c] at q
    exact q
theorem m_amt {a j : Nat} {Q : Int32 → Prop} (ha : a < 3) (h : j < mst a + 1) (q : Q 1) : vX4_isAmount (nI a) (nI j) Q :=
  m_amt_sh ha (m_in (by have := mst_le a; omega) h ⟨rfl, q⟩)
theorem n_amt {a : Nat} {x : Int32} {Q : Int32 → Prop} (ha : a < 3) (b : bad x (mst a + 1)) (q : Q 0) : vX4_isAmount (nI a) x Q :=
  m_amt_sh ha (n_in (by have := mst_le a; omega) b ⟨rfl, q⟩)
theorem m_at {v k a m : Nat} {Q : Int32 → Prop} (q : Q (nI (v * 360 + k * 36 + a * 12 + m))) : vX4_at (nI v) (nI k) (nI a) (nI m) Q := by
  have e : ((((360 : Int32) * nI v) + ((36 : Int32) * nI k)) + ((12 : Int32) * nI a)) + nI m = nI (v * 360 + k * 36 + a * 12 + m) := by
    show (((nI 360 * nI v) + (nI 36 * nI k)) + (nI 12 * nI a)) + nI m = _
    rw [pk_mul, pk_mul, pk_mul, nI_add, nI_add, nI_add, Nat.mul_comm 360, Nat.mul_comm 36, Nat.mul_comm 12]
  show Q (((((360 : Int32) * nI v) + ((36 : Int32) * nI k)) + ((12 : Int32) * nI a)) + nI m)
  rw [e]
  exact q
theorem m_puts {f : Ar} {i : Nat} {x : Int32} {Q : Int32 → Ar → Prop} (hi : i < 1440) (q : Q (f i) (upd f i x)) : vX4_puts f (nI i) x Q := by
  show vp_in (nI i) 1440 ∧ vp_in (nI i) 1440 ∧ Q (f (nI i).toNatClampNeg) (upd f (nI i).toNatClampNeg x)
  rw [nI_clamp (by omega)]
  exact ⟨vp_in_nI hi (by omega), vp_in_nI hi (by omega), q⟩
theorem m_rd {f : Ar} {i N : Nat} {Q : Int32 → Prop} (hi : i < N) (hN : N < 2 ^ 31) (q : Q (f i)) : vp_in (nI i) N ∧ Q (f (nI i).toNatClampNeg) := by
  rw [nI_clamp (by omega)]
  exact ⟨vp_in_nI hi hN, q⟩
theorem m_ofLeaf {f : Ar} {l k a m : Nat} {Q : Int32 → Prop} (hl : l < 4) (hk : k < 10) (ha : a < 4) (hm : m < 12) (h : Q (vl f l k a m)) : vX4_ofLeaf f (nI l) (nI k) (nI a) (nI m) Q := by
  refine And.intro (fun c => ?_) (fun c => ?_)
  · have h3 : a = 3 := by
      have := (nI_leI (a := 3) (by omega) (by omega)).mp (show nI 3 ≤ nI a from c)
      omega
    rw [vl, if_pos h3] at h
    refine m_at (a := 0) (m_rd (Q := fun z => vX4_at (nI l) (nI k) 1 (nI m) (fun r41 => vp_in r41 1440 ∧ Q (z * f r41.toNatClampNeg))) (by omega) (by omega) (m_at (a := 1) (m_rd (Q := fun z => Q (_ * z)) (by omega) (by omega) h)))
  · have h3 : a ≠ 3 := fun e => c (by rw [e]; exact Int32.le_refl _)
    rw [vl, if_neg h3] at h
    exact m_at (m_rd (by omega) (by omega) h)
section ARGS
variable {c : Nat} {p : Nat → Nat} {cnt pwc pl : Int32} {par mpar : Ar}
theorem v_leaf {k : Nat} {Q : Prop} (R : RT3 c p cnt pwc par pl mpar) (hk : k < c) (h : hc p c k = false) (q : Q) : vX3_checkLeaf pwc (nI k) Q := by
  refine s_isLeaf R (by have := R.1; omega) ?_
  rw [h]
  exact i1' q
theorem z_leaf {k : Nat} {X : String → Prop} (R : RT3 c p cnt pwc par pl mpar) (hk : k < c) (h : hc p c k = true) (q : X eIS) : zX3_checkLeaf pwc (nI k) X := by
  refine s_isLeaf R (by have := R.1; omega) ?_
  rw [h]
  exact i0' q
theorem m_leaf {k : Nat} {Q : Int32 → Prop} (R : RT3 c p cnt pwc par pl mpar) (hk : k < c) (h : hc p c k = false) (q : Q 1) : vX4_isLeaf pl mpar (nI k) Q := by
  refine m_isLeaf R (by have := R.1; omega) ?_
  rw [h]
  exact q
theorem n_leaf {k : Nat} {Q : Int32 → Prop} (R : RT3 c p cnt pwc par pl mpar) (hk : k < c) (h : hc p c k = true) (q : Q 0) : vX4_isLeaf pl mpar (nI k) Q := by
  refine m_isLeaf R (by have := R.1; omega) ?_
  rw [h]
  exact q
theorem sm_lf {t : Nat} (f : Nat → Int32) (hc : c ≤ 10) : sm (fun k => if lf p c t k = true then f k else 0) 10 = sm (fun k => if lf p c t k = true then f k else 0) c :=
  sm_cut hc (fun i h _ => by rw [lf_ge h]; rfl)
theorem m_sumOf {f : Ar} {l t a m : Nat} {Q : Int32 → Prop} (R : RT3 c p cnt pwc par pl mpar) (hl : l < 4) (ht : t < c) (ha : a < 4) (hm : m < 12) (h : Q (sm (fun k => if lf p c t k = true then vl f l k a m else 0) 10)) : vX4_sumOf pl mpar f (nI l) (nI t) (nI a) (nI m) Q := by
  have hc := R.1.2
  have hpl := R.2.2.1
  rw [sm_lf _ hc] at h
  refine pk_loop (fun n i (s : Int32) => vX4_sumOf_L6 pl mpar f (nI l) (nI t) (nI a) (nI m) Q n s (nI i)) (fun i s => s = sm (fun k => if lf p c t k = true then vl f l k a m else 0) i) c 0 0 (by omega) rfl (fun n s e => ?_) (fun n i s hi e ih => ?_)
  · rw [hpl]
    refine And.intro (fun _ => by rw [e]; exact h) (fun c => absurd (Int32.le_refl _) c)
  · rw [hpl] at ih ⊢
    refine And.intro (fun q => absurd q (nI_ge (b := c) hi (by omega))) (fun _ => ?_)
    rw [← hpl] at ih ⊢
    refine m_isLeafOf R hi ht ?_
    rw [nI_1]
    cases hb : lf p c t i
    · refine i0 (ih _ ?_)
      show s + 0 = sm _ i + (if lf p c t i = true then _ else 0)
      rw [e, hb]
      rfl
    · refine i1 (m_ofLeaf hl (by omega) ha hm (ih _ ?_))
      show _ = sm _ i + (if lf p c t i = true then _ else 0)
      rw [e, hb]
      rfl
end ARGS
