/-! the methods of the law, one by one (written by wip/whole/ops.py) -/
section OPS
variable {c : Nat} {p : Nat → Nat} {cnt pwc pl seen msn thr : Int32} {par mpar : Ar} {h cl : Nat → Nat → Bool} {held mhel clos mclo : Ar} {f seW seS msea leW leS mwei msha mmon : Ar}
theorem RS.put {j w : Nat} (S : RS seW msea) (hw : w ≤ 100) : RS (upd seW j (nI w)) (upd msea j (nI w)) := fun i hi => by
  by_cases e : i = j
  · subst e
    rw [pk_us, pk_us]
    exact ⟨rfl, w, hw, rfl⟩
  · rw [pk_un e, pk_un e]
    exact S i hi
theorem p_leaves {x1 : Int32} {out : Nat → Int64} {Q : Int32 → (Nat → Int64) → Prop} {Z : Int32 → (Nat → Int64) → Int32 → Int32 → Prop} (R : RT3 c p cnt pwc par pl mpar) (hQ : ∀ r o, vX4_leaves pl thr mpar x1 (Z r o) → Q r o) (hZ : ∀ r o r', (r = 0 → o 0 = Int32.toInt64 r') → Z r o r' r) :
    vL_leaves cnt pwc par out x1 Q := by
  have hc2 := R.1
  obtain rfl := R.2.1
  obtain rfl := R.2.2.1
  rcases arg x1 c (by omega) with ⟨j1, h1, rfl⟩ | b1
  case inr =>
    refine Or.inl (z_plc b1 (⟨rfl, hQ _ _ ?_⟩))
    refine n_plc hc2 b1 ?_
    first | refine i0 ?_ | refine i0' ?_
    exact ⟨1, And.intro (fun _ => hZ _ _ _ (fun z => absurd z (by decide))) (fun _ => ⟨fun _ => hZ _ _ _ (fun z => absurd z (by decide)), fun z => absurd z (by decide)⟩)⟩
  refine Or.inr (v_plc hc2.2 h1 ( s_leavesBelow R h1 (fun x hx => ⟨in01, hQ _ _ ?_⟩) ))
  refine m_plc hc2 h1 ?_
  first | refine i1 ?_ | refine i1' ?_
  refine m_leaves_L R h1 (fun y hy => ?_)
  rw [hx.inj hy (fun _ _ => rfl)]
  exact hZ _ _ _ (fun _ => oN)
theorem p_amount {x1 x2 x3 x4 : Int32} {out : Nat → Int64} {Q : Int32 → (Nat → Int64) → Prop} {Z : Int32 → (Nat → Int64) → Int32 → Int32 → Prop} (R : RT3 c p cnt pwc par pl mpar) (hQ : ∀ r o, vX4_amount pl thr mpar f x1 x2 x3 x4 (Z r o) → Q r o) (hZ : ∀ r o r', (r = 0 → o 0 = Int32.toInt64 r') → Z r o r' r) :
    vL_amount cnt pwc par f out x1 x2 x3 x4 Q := by
  have hc2 := R.1
  obtain rfl := R.2.1
  obtain rfl := R.2.2.1
  rcases arg x1 3 (by omega) with ⟨j1, h1, rfl⟩ | b1
  case inr =>
    refine Or.inl (Or.inl (z_ver b1 (⟨rfl, hQ _ _ ?_⟩)))
    unfold vX4_amount vX4_isAsked
    refine n_ver b1 ?_
    first | refine i0 ?_ | refine i0' ?_
    exact And.intro (fun _ => i0 (hZ _ _ _ (fun z => absurd z (by decide)))) (fun z => absurd z (by decide))
  rcases arg x2 c (by omega) with ⟨j2, h2, rfl⟩ | b2
  case inr =>
    refine Or.inl (Or.inr (v_ver h1 ((Or.inl (z_plc b2 (⟨rfl, hQ _ _ ?_⟩))))))
    unfold vX4_amount vX4_isAsked
    refine m_ver h1 ?_
    first | refine i1 ?_ | refine i1' ?_
    refine n_plc hc2 b2 ?_
    first | refine i0 ?_ | refine i0' ?_
    exact And.intro (fun _ => i0 (hZ _ _ _ (fun z => absurd z (by decide)))) (fun z => absurd z (by decide))
  rcases arg x3 4 (by omega) with ⟨j3, h3, rfl⟩ | b3
  case inr =>
    refine Or.inl (Or.inr (v_ver h1 ((Or.inr (v_plc hc2.2 h2 ((Or.inl (z_acc b3 (⟨rfl, hQ _ _ ?_⟩)))))))))
    unfold vX4_amount vX4_isAsked
    refine m_ver h1 ?_
    first | refine i1 ?_ | refine i1' ?_
    refine m_plc hc2 h2 ?_
    first | refine i1 ?_ | refine i1' ?_
    refine n_in (n := 3) (by omega) b3 ?_
    first | refine i0 ?_ | refine i0' ?_
    exact And.intro (fun _ => i0 (hZ _ _ _ (fun z => absurd z (by decide)))) (fun z => absurd z (by decide))
  rcases arg x4 12 (by omega) with ⟨j4, h4, rfl⟩ | b4
  case inr =>
    refine Or.inl (Or.inr (v_ver h1 ((Or.inr (v_plc hc2.2 h2 ((Or.inr (v_acc h3 ((z_mon b4 (⟨rfl, hQ _ _ ?_⟩)))))))))))
    unfold vX4_amount vX4_isAsked
    refine m_ver h1 ?_
    first | refine i1 ?_ | refine i1' ?_
    refine m_plc hc2 h2 ?_
    first | refine i1 ?_ | refine i1' ?_
    refine m_in (n := 3) (by omega) h3 ?_
    first | refine i1 ?_ | refine i1' ?_
    refine n_mon b4 ?_
    first | refine i0 ?_ | refine i0' ?_
    exact And.intro (fun _ => i0 (hZ _ _ _ (fun z => absurd z (by decide)))) (fun z => absurd z (by decide))
  refine Or.inr (v_ver h1 (v_plc hc2.2 h2 (v_acc h3 (v_mon h4 ( s_leavesBelow R h2 (fun x hx => s_sumOver (by omega) h3 h4 hx ⟨in01, hQ _ _ ?_⟩) )))))
  refine m_asked R h1 h2 h3 h4 (i1 (m_sumOf R (by omega) h2 h3 h4 ?_))
  exact hZ _ _ _ (fun _ => oN)
theorem p_outlook {x1 x2 x3 x4 : Int32} {out : Nat → Int64} {Q : Int32 → (Nat → Int64) → Prop} {Z : Int32 → (Nat → Int64) → Int32 → Int32 → Prop} (R : RT3 c p cnt pwc par pl mpar) (hsn : ∃ sn, sn ≤ 12 ∧ seen = nI sn ∧ msn = nI sn) (hQ : ∀ r o, vX4_outlook pl msn thr mpar f x1 x2 x3 x4 (Z r o) → Q r o) (hZ : ∀ r o r', (r = 0 → o 0 = Int32.toInt64 r') → Z r o r' r) :
    vL_outlook seen cnt pwc par f out x1 x2 x3 x4 Q := by
  have hc2 := R.1
  obtain rfl := R.2.1
  obtain rfl := R.2.2.1
  obtain ⟨sn, hsn12, rfl, rfl⟩ := hsn
  rcases arg x1 3 (by omega) with ⟨j1, h1, rfl⟩ | b1
  case inr =>
    refine Or.inl (Or.inl (z_ver b1 (⟨rfl, hQ _ _ ?_⟩)))
    unfold vX4_outlook vX4_isAsked
    refine n_ver b1 ?_
    first | refine i0 ?_ | refine i0' ?_
    exact And.intro (fun _ => i0 (hZ _ _ _ (fun z => absurd z (by decide)))) (fun z => absurd z (by decide))
  rcases arg x2 c (by omega) with ⟨j2, h2, rfl⟩ | b2
  case inr =>
    refine Or.inl (Or.inr (v_ver h1 ((Or.inl (z_plc b2 (⟨rfl, hQ _ _ ?_⟩))))))
    unfold vX4_outlook vX4_isAsked
    refine m_ver h1 ?_
    first | refine i1 ?_ | refine i1' ?_
    refine n_plc hc2 b2 ?_
    first | refine i0 ?_ | refine i0' ?_
    exact And.intro (fun _ => i0 (hZ _ _ _ (fun z => absurd z (by decide)))) (fun z => absurd z (by decide))
  rcases arg x3 4 (by omega) with ⟨j3, h3, rfl⟩ | b3
  case inr =>
    refine Or.inl (Or.inr (v_ver h1 ((Or.inr (v_plc hc2.2 h2 ((Or.inl (z_acc b3 (⟨rfl, hQ _ _ ?_⟩)))))))))
    unfold vX4_outlook vX4_isAsked
    refine m_ver h1 ?_
    first | refine i1 ?_ | refine i1' ?_
    refine m_plc hc2 h2 ?_
    first | refine i1 ?_ | refine i1' ?_
    refine n_in (n := 3) (by omega) b3 ?_
    first | refine i0 ?_ | refine i0' ?_
    exact And.intro (fun _ => i0 (hZ _ _ _ (fun z => absurd z (by decide)))) (fun z => absurd z (by decide))
  rcases arg x4 12 (by omega) with ⟨j4, h4, rfl⟩ | b4
  case inr =>
    refine Or.inl (Or.inr (v_ver h1 ((Or.inr (v_plc hc2.2 h2 ((Or.inr (v_acc h3 ((z_mon b4 (⟨rfl, hQ _ _ ?_⟩)))))))))))
    unfold vX4_outlook vX4_isAsked
    refine m_ver h1 ?_
    first | refine i1 ?_ | refine i1' ?_
    refine m_plc hc2 h2 ?_
    first | refine i1 ?_ | refine i1' ?_
    refine m_in (n := 3) (by omega) h3 ?_
    first | refine i1 ?_ | refine i1' ?_
    refine n_mon b4 ?_
    first | refine i0 ?_ | refine i0' ?_
    exact And.intro (fun _ => i0 (hZ _ _ _ (fun z => absurd z (by decide)))) (fun z => absurd z (by decide))
  by_cases hm : j4 < sn
  · refine Or.inr (v_ver h1 (v_plc hc2.2 h2 (v_acc h3 (v_mon h4 ( And.intro (fun z => absurd z (nI_ge hm (by omega))) (fun _ => s_leavesBelow R h2 (fun x hx => s_sumOver (l := 3) (by omega) h3 h4 hx ⟨in01, hQ _ _ ?_⟩)) )))))
    refine m_asked R h1 h2 h3 h4 (i1 (And.intro (fun z => absurd z (nI_ge hm (by omega))) (fun _ => m_sumOf (l := 3) R (by omega) h2 h3 h4 ?_)))
    exact hZ _ _ _ (fun _ => oN)
  · refine Or.inr (v_ver h1 (v_plc hc2.2 h2 (v_acc h3 (v_mon h4 ( And.intro (fun _ => s_leavesBelow R h2 (fun x hx => s_sumOver (by omega) h3 h4 hx ⟨in01, hQ _ _ ?_⟩)) (fun z => absurd (nI_le (by omega) (by omega)) z) )))))
    refine m_asked R h1 h2 h3 h4 (i1 (And.intro (fun _ => m_sumOf R (by omega) h2 h3 h4 ?_) (fun z => absurd (nI_le (by omega) (by omega)) z)))
    exact hZ _ _ _ (fun _ => oN)
theorem p_year {x1 x2 x3 : Int32} {out : Nat → Int64} {Q : Int32 → (Nat → Int64) → Prop} {Z : Int32 → (Nat → Int64) → Int32 → Int32 → Prop} (R : RT3 c p cnt pwc par pl mpar) (hQ : ∀ r o, vX4_year pl thr mpar f x1 x2 x3 (Z r o) → Q r o) (hZ : ∀ r o r', (r = 0 → o 0 = Int32.toInt64 r') → Z r o r' r) :
    vL_year cnt pwc par f out x1 x2 x3 Q := by
  have hc2 := R.1
  obtain rfl := R.2.1
  obtain rfl := R.2.2.1
  rcases arg x1 3 (by omega) with ⟨j1, h1, rfl⟩ | b1
  case inr =>
    refine Or.inl (Or.inl (z_ver b1 (⟨rfl, hQ _ _ ?_⟩)))
    refine ⟨1, ?_⟩
    show vX4_isAsked _ _ _ _ _ _ _
    refine n_ver b1 ?_
    first | refine i0 ?_ | refine i0' ?_
    exact And.intro (fun _ => i0 (hZ _ _ _ (fun z => absurd z (by decide)))) (fun z => absurd z (by decide))
  rcases arg x2 c (by omega) with ⟨j2, h2, rfl⟩ | b2
  case inr =>
    refine Or.inl (Or.inr (v_ver h1 ((Or.inl (z_plc b2 (⟨rfl, hQ _ _ ?_⟩))))))
    refine ⟨1, ?_⟩
    show vX4_isAsked _ _ _ _ _ _ _
    refine m_ver h1 ?_
    first | refine i1 ?_ | refine i1' ?_
    refine n_plc hc2 b2 ?_
    first | refine i0 ?_ | refine i0' ?_
    exact And.intro (fun _ => i0 (hZ _ _ _ (fun z => absurd z (by decide)))) (fun z => absurd z (by decide))
  rcases arg x3 4 (by omega) with ⟨j3, h3, rfl⟩ | b3
  case inr =>
    refine Or.inl (Or.inr (v_ver h1 ((Or.inr (v_plc hc2.2 h2 ((z_acc b3 (⟨rfl, hQ _ _ ?_⟩))))))))
    refine ⟨1, ?_⟩
    show vX4_isAsked _ _ _ _ _ _ _
    refine m_ver h1 ?_
    first | refine i1 ?_ | refine i1' ?_
    refine m_plc hc2 h2 ?_
    first | refine i1 ?_ | refine i1' ?_
    refine n_in (n := 3) (by omega) b3 ?_
    first | refine i0 ?_ | refine i0' ?_
    exact And.intro (fun _ => i0 (hZ _ _ _ (fun z => absurd z (by decide)))) (fun z => absurd z (by decide))
  refine Or.inr (v_ver h1 (v_plc hc2.2 h2 (v_acc h3 ( s_leavesBelow R h2 (fun x hx => s_year_L (by omega) h3 hx ⟨in01, hQ _ _ ?_⟩) ))))
  refine m_year_L R h1 h2 h3 ?_
  exact hZ _ _ _ (fun _ => oN)
theorem p_yearByLeaves {x1 x2 x3 : Int32} {out : Nat → Int64} {Q : Int32 → (Nat → Int64) → Prop} {Z : Int32 → (Nat → Int64) → Int32 → Int32 → Prop} (R : RT3 c p cnt pwc par pl mpar) (hQ : ∀ r o, vX4_yearByLeaves pl thr mpar f x1 x2 x3 (Z r o) → Q r o) (hZ : ∀ r o r', (r = 0 → o 0 = Int32.toInt64 r') → Z r o r' r) :
    vL_yearByLeaves cnt pwc par f out x1 x2 x3 Q := by
  have hc2 := R.1
  obtain rfl := R.2.1
  obtain rfl := R.2.2.1
  rcases arg x1 3 (by omega) with ⟨j1, h1, rfl⟩ | b1
  case inr =>
    refine Or.inl (Or.inl (z_ver b1 (⟨rfl, hQ _ _ ?_⟩)))
    refine ⟨1, ?_⟩
    show vX4_isAsked _ _ _ _ _ _ _
    refine n_ver b1 ?_
    first | refine i0 ?_ | refine i0' ?_
    exact And.intro (fun _ => i0 (hZ _ _ _ (fun z => absurd z (by decide)))) (fun z => absurd z (by decide))
  rcases arg x2 c (by omega) with ⟨j2, h2, rfl⟩ | b2
  case inr =>
    refine Or.inl (Or.inr (v_ver h1 ((Or.inl (z_plc b2 (⟨rfl, hQ _ _ ?_⟩))))))
    refine ⟨1, ?_⟩
    show vX4_isAsked _ _ _ _ _ _ _
    refine m_ver h1 ?_
    first | refine i1 ?_ | refine i1' ?_
    refine n_plc hc2 b2 ?_
    first | refine i0 ?_ | refine i0' ?_
    exact And.intro (fun _ => i0 (hZ _ _ _ (fun z => absurd z (by decide)))) (fun z => absurd z (by decide))
  rcases arg x3 4 (by omega) with ⟨j3, h3, rfl⟩ | b3
  case inr =>
    refine Or.inl (Or.inr (v_ver h1 ((Or.inr (v_plc hc2.2 h2 ((z_acc b3 (⟨rfl, hQ _ _ ?_⟩))))))))
    refine ⟨1, ?_⟩
    show vX4_isAsked _ _ _ _ _ _ _
    refine m_ver h1 ?_
    first | refine i1 ?_ | refine i1' ?_
    refine m_plc hc2 h2 ?_
    first | refine i1 ?_ | refine i1' ?_
    refine n_in (n := 3) (by omega) b3 ?_
    first | refine i0 ?_ | refine i0' ?_
    exact And.intro (fun _ => i0 (hZ _ _ _ (fun z => absurd z (by decide)))) (fun z => absurd z (by decide))
  refine Or.inr (v_ver h1 (v_plc hc2.2 h2 (v_acc h3 ( s_leavesBelow R h2 (fun x hx => s_yearBy_L (by omega) h3 hx ⟨in01, hQ _ _ ?_⟩) ))))
  refine m_year_L R h1 h2 h3 ?_
  exact hZ _ _ _ (fun _ => oN)
theorem p_gap {x1 x2 x3 x4 : Int32} {out : Nat → Int64} {Q : Int32 → (Nat → Int64) → Prop} {Z : Int32 → (Nat → Int64) → Int32 → Int32 → Prop} (R : RT3 c p cnt pwc par pl mpar) (hQ : ∀ r o, vX4_gap pl thr mpar f x1 x2 x3 x4 (Z r o) → Q r o) (hZ : ∀ r o r', (r = 0 → o 0 = Int32.toInt64 r') → Z r o r' r) :
    vL_gap cnt pwc par f out x1 x2 x3 x4 Q := by
  have hc2 := R.1
  obtain rfl := R.2.1
  obtain rfl := R.2.2.1
  rcases arg x1 3 (by omega) with ⟨j1, h1, rfl⟩ | b1
  case inr =>
    refine Or.inl (Or.inl (z_ver b1 (Or.inl ⟨rfl, hQ _ _ ?_⟩)))
    refine n_ver b1 ?_
    first | refine i0 ?_ | refine i0' ?_
    exact ⟨1, And.intro (fun _ => hZ _ _ _ (fun z => absurd z (by decide))) (fun _ => ⟨fun _ => hZ _ _ _ (fun z => absurd z (by decide)), fun z => absurd z (by decide)⟩)⟩
  rcases arg x2 3 (by omega) with ⟨j2, h2, rfl⟩ | b2
  case inr =>
    refine Or.inl (Or.inr (v_ver h1 ((Or.inl (z_ver b2 (Or.inl ⟨rfl, hQ _ _ ?_⟩))))))
    refine m_ver h1 ?_
    first | refine i1 ?_ | refine i1' ?_
    refine n_ver b2 ?_
    first | refine i0 ?_ | refine i0' ?_
    exact ⟨1, And.intro (fun _ => hZ _ _ _ (fun z => absurd z (by decide))) (fun _ => ⟨fun _ => hZ _ _ _ (fun z => absurd z (by decide)), fun z => absurd z (by decide)⟩)⟩
  rcases arg x3 c (by omega) with ⟨j3, h3, rfl⟩ | b3
  case inr =>
    refine Or.inl (Or.inr (v_ver h1 ((Or.inr (v_ver h2 ((Or.inl (z_plc b3 (Or.inl ⟨rfl, hQ _ _ ?_⟩)))))))))
    refine m_ver h1 ?_
    first | refine i1 ?_ | refine i1' ?_
    refine m_ver h2 ?_
    first | refine i1 ?_ | refine i1' ?_
    refine n_plc hc2 b3 ?_
    first | refine i0 ?_ | refine i0' ?_
    exact ⟨1, And.intro (fun _ => hZ _ _ _ (fun z => absurd z (by decide))) (fun _ => ⟨fun _ => hZ _ _ _ (fun z => absurd z (by decide)), fun z => absurd z (by decide)⟩)⟩
  rcases arg x4 (3 + 1) (by omega) with ⟨j4, h4, rfl⟩ | b4
  case inr =>
    refine Or.inl (Or.inr (v_ver h1 ((Or.inr (v_ver h2 ((Or.inr (v_plc hc2.2 h3 ((z_upto (M := 3) (by omega) b4 (Or.inr (⟨rfl, hQ _ _ ?_⟩))))))))))))
    refine m_ver h1 ?_
    first | refine i1 ?_ | refine i1' ?_
    refine m_ver h2 ?_
    first | refine i1 ?_ | refine i1' ?_
    refine m_plc hc2 h3 ?_
    first | refine i1 ?_ | refine i1' ?_
    refine n_in (n := 3) (by omega) b4 ?_
    first | refine i0 ?_ | refine i0' ?_
    exact ⟨1, And.intro (fun _ => hZ _ _ _ (fun z => absurd z (by decide))) (fun _ => ⟨fun _ => hZ _ _ _ (fun z => absurd z (by decide)), fun z => absurd z (by decide)⟩)⟩
  refine Or.inr (v_ver h1 (v_ver h2 (v_plc hc2.2 h3 (v_upto (M := 3) (by omega) h4 ( s_leavesBelow R h3 (fun x hx => s_gap_L (by omega) (by omega) h4 hx ⟨in01, hQ _ _ ?_⟩) )))))
  refine m_ver h1 ?_
  first | refine i1 ?_ | refine i1' ?_
  refine m_ver h2 ?_
  first | refine i1 ?_ | refine i1' ?_
  refine m_plc hc2 h3 ?_
  first | refine i1 ?_ | refine i1' ?_
  refine m_in (n := 3) (by omega) h4 ?_
  first | refine i1 ?_ | refine i1' ?_
  refine m_gap_L R (by omega) (by omega) h3 h4 ?_
  exact hZ _ _ _ (fun _ => oN)
theorem p_set {x1 x2 x3 x4 x5 : Int32} {out : Nat → Int64} {Q : Int32 → (Ar × (Nat → Int64)) → Prop} {Z : Int32 → (Ar × (Nat → Int64)) → Int32 → (Int32 × Ar) → Prop} (R : RT3 c p cnt pwc par pl mpar) (C : RC c p cl clos mclo) (A : RA f) (hQ : ∀ r u, vX4_set pl thr mpar f mclo x1 x2 x3 x4 x5 (Z r u) → Q r u) (hZ : ∀ r g o r', (r = 0 → o 0 = Int32.toInt64 r') → RA g → Z r (g, o) r' (r, g)) :
    vL_set cnt pwc f clos out x1 x2 x3 x4 x5 Q := by
  have hc2 := R.1
  obtain rfl := R.2.1
  obtain rfl := R.2.2.1
  rcases arg x1 3 (by omega) with ⟨j1, h1, rfl⟩ | b1
  case inr =>
    refine Or.inl (Or.inl (z_ver b1 (Or.inl ⟨rfl, hQ _ _ ?_⟩)))
    refine n_ver b1 ?_
    first | refine i0 ?_ | refine i0' ?_
    exact And.intro (fun z => absurd z (by decide)) (fun _ => hZ _ _ _ _ (fun z => absurd z (by decide)) A)
  rcases arg x2 c (by omega) with ⟨j2, h2, rfl⟩ | b2
  case inr =>
    refine Or.inl (Or.inr (v_ver h1 ((Or.inl (z_plc b2 (Or.inl ⟨rfl, hQ _ _ ?_⟩))))))
    refine m_ver h1 ?_
    first | refine i1 ?_ | refine i1' ?_
    refine n_plc hc2 b2 ?_
    first | refine i0 ?_ | refine i0' ?_
    exact And.intro (fun z => absurd z (by decide)) (fun _ => hZ _ _ _ _ (fun z => absurd z (by decide)) A)
  rcases arg x3 3 (by omega) with ⟨j3, h3, rfl⟩ | b3
  case inr =>
    refine Or.inl (Or.inr (v_ver h1 ((Or.inr (v_plc hc2.2 h2 ((Or.inl (z_cac b3 (Or.inl ⟨rfl, hQ _ _ ?_⟩)))))))))
    refine m_ver h1 ?_
    first | refine i1 ?_ | refine i1' ?_
    refine m_plc hc2 h2 ?_
    first | refine i1 ?_ | refine i1' ?_
    refine n_in (n := 2) (by omega) b3 ?_
    first | refine i0 ?_ | refine i0' ?_
    exact And.intro (fun z => absurd z (by decide)) (fun _ => hZ _ _ _ _ (fun z => absurd z (by decide)) A)
  rcases arg x4 12 (by omega) with ⟨j4, h4, rfl⟩ | b4
  case inr =>
    refine Or.inl (Or.inr (v_ver h1 ((Or.inr (v_plc hc2.2 h2 ((Or.inr (v_cac h3 ((Or.inl (z_mon b4 (Or.inl ⟨rfl, hQ _ _ ?_⟩))))))))))))
    refine m_ver h1 ?_
    first | refine i1 ?_ | refine i1' ?_
    refine m_plc hc2 h2 ?_
    first | refine i1 ?_ | refine i1' ?_
    refine m_in (n := 2) (by omega) h3 ?_
    first | refine i1 ?_ | refine i1' ?_
    refine n_mon b4 ?_
    first | refine i0 ?_ | refine i0' ?_
    exact And.intro (fun z => absurd z (by decide)) (fun _ => hZ _ _ _ _ (fun z => absurd z (by decide)) A)
  rcases arg x5 (mst j3 + 1) (by have := mst_le j3; omega) with ⟨j5, h5, rfl⟩ | b5
  case inr =>
    refine Or.inl (Or.inr (v_ver h1 ((Or.inr (v_plc hc2.2 h2 ((Or.inr (v_cac h3 ((Or.inr (v_mon h4 ((s_most h3 (Or.inl (z_upto (by have := mst_le j3; omega) b5 (Or.inr (Or.inl ⟨rfl, hQ _ _ ?_⟩)))))))))))))))))
    refine m_ver h1 ?_
    first | refine i1 ?_ | refine i1' ?_
    refine m_plc hc2 h2 ?_
    first | refine i1 ?_ | refine i1' ?_
    refine m_in (n := 2) (by omega) h3 ?_
    first | refine i1 ?_ | refine i1' ?_
    refine m_mon h4 ?_
    first | refine i1 ?_ | refine i1' ?_
    refine n_amt h3 b5 ?_
    first | refine i0 ?_ | refine i0' ?_
    exact And.intro (fun z => absurd z (by decide)) (fun _ => hZ _ _ _ _ (fun z => absurd z (by decide)) A)
  cases hl : hc p c j2
  case true =>
    refine Or.inl (Or.inr (v_ver h1 ((Or.inr (v_plc hc2.2 h2 ((Or.inr (v_cac h3 ((Or.inr (v_mon h4 ((s_most h3 (Or.inr (v_upto (by have := mst_le j3; omega) h5 ((Or.inl (z_leaf R h2 hl (Or.inr (Or.inr (⟨rfl, hQ _ _ ?_⟩)))))))))))))))))))))
    refine m_ver h1 ?_
    first | refine i1 ?_ | refine i1' ?_
    refine m_plc hc2 h2 ?_
    first | refine i1 ?_ | refine i1' ?_
    refine m_in (n := 2) (by omega) h3 ?_
    first | refine i1 ?_ | refine i1' ?_
    refine m_mon h4 ?_
    first | refine i1 ?_ | refine i1' ?_
    refine m_amt h3 h5 ?_
    first | refine i1 ?_ | refine i1' ?_
    refine And.intro (fun _ => ?_) (fun z => absurd (Int32.le_refl _) z)
    refine n_leaf R h2 hl ?_
    first | refine i0 ?_ | refine i0' ?_
    exact hZ _ _ _ _ (fun z => absurd z (by decide)) A
  have e1 : (nI j1).toNatClampNeg = j1 := nI_clamp (by omega)
  have i3 : vp_in (nI j1) 3 := vp_in_nI (by omega) (by omega)
  have hx := (C j1 h1).1
  have hm := (C j1 h1).2.1 j2 (by omega)
  have mst5 := mst_le j3
  have run : ∀ P : Int32 → (Int32 × Ar) → Prop, (cl j1 j2 = true → P 0 (3, f)) → (cl j1 j2 = false → P (f (j1 * 360 + j2 * 36 + j3 * 12 + j4)) (0, upd f (j1 * 360 + j2 * 36 + j3 * 12 + j4) (nI j5))) → vX4_set (nI c) thr mpar f mclo (nI j1) (nI j2) (nI j3) (nI j4) (nI j5) P := by
    intro P a b
    refine m_ver h1 ?_
    first | refine i1 ?_ | refine i1' ?_
    refine m_plc hc2 h2 ?_
    first | refine i1 ?_ | refine i1' ?_
    refine m_in (n := 2) (by omega) h3 ?_
    first | refine i1 ?_ | refine i1' ?_
    refine m_mon h4 ?_
    first | refine i1 ?_ | refine i1' ?_
    refine m_amt h3 h5 ?_
    first | refine i1 ?_ | refine i1' ?_
    refine And.intro (fun _ => ?_) (fun z => absurd (Int32.le_refl _) z)
    refine m_leaf R h2 hl ?_
    first | refine i1 ?_ | refine i1' ?_
    rw [i10, nI_clamp (by omega), hm]
    refine ⟨vp_in_nI (by omega) (by omega), fun z => m_at (m_puts (by omega) (b ?_)), fun z => a (bi1.mp z)⟩
    cases q : cl j1 j2
    · rfl
    · exact absurd (by rw [q]; rfl) z
  rw [← e1] at hx
  cases hcl : cl j1 j2
  · refine Or.inr (v_ver h1 (v_plc hc2.2 h2 (v_cac h3 (v_mon h4 (s_most h3 (v_upto (by have := mst_le j3; omega) h5 (v_leaf R h2 hl ( And.intro i3 (s_isIn hx (by omega) ?_) ))))))))
    rw [e1, hcl]
    refine i0 (s_put (by omega) (by omega) h3 h4 ⟨in01, hQ _ _ (run _ (fun z => by rw [hcl] at z; cases z) (fun _ => ?_))⟩)
    exact hZ _ _ _ _ (fun _ => oN) (A.put (by omega))
  · refine Or.inl ((Or.inr (v_ver h1 ((Or.inr (v_plc hc2.2 h2 ((Or.inr (v_cac h3 ((Or.inr (v_mon h4 ((s_most h3 (Or.inr (v_upto (by have := mst_le j3; omega) h5 ((Or.inr (v_leaf R h2 hl ( And.intro i3 (s_isIn hx (by omega) ?_) ))))))))))))))))))))
    rw [e1, hcl]
    refine i1 (Or.inr (Or.inr ⟨rfl, hQ _ _ (run _ (fun _ => ?_) (fun z => by rw [hcl] at z; cases z))⟩))
    exact hZ _ _ _ _ (fun z => absurd z (by decide)) A
theorem p_see {x1 x2 x3 x4 : Int32} {out : Nat → Int64} {Q : Int32 → (Ar × (Nat → Int64)) → Prop} {Z : Int32 → (Ar × (Nat → Int64)) → Int32 → (Int32 × Ar) → Prop} (R : RT3 c p cnt pwc par pl mpar) (A : RA f) (hQ : ∀ r u, vX4_see pl thr mpar f x1 x2 x3 x4 (Z r u) → Q r u) (hZ : ∀ r g o r', (r = 0 → o 0 = Int32.toInt64 r') → RA g → Z r (g, o) r' (r, g)) :
    vL_see cnt pwc f out x1 x2 x3 x4 Q := by
  have hc2 := R.1
  obtain rfl := R.2.1
  obtain rfl := R.2.2.1
  rcases arg x1 c (by omega) with ⟨j1, h1, rfl⟩ | b1
  case inr =>
    refine Or.inl (Or.inl (z_plc b1 (Or.inl ⟨rfl, hQ _ _ ?_⟩)))
    refine n_plc hc2 b1 ?_
    first | refine i0 ?_ | refine i0' ?_
    exact And.intro (fun _ => hZ _ _ _ _ (fun z => absurd z (by decide)) A) (fun z => absurd z (by decide))
  rcases arg x2 3 (by omega) with ⟨j2, h2, rfl⟩ | b2
  case inr =>
    refine Or.inl (Or.inr (v_plc hc2.2 h1 ((Or.inl (z_cac b2 (Or.inl ⟨rfl, hQ _ _ ?_⟩))))))
    refine m_plc hc2 h1 ?_
    first | refine i1 ?_ | refine i1' ?_
    refine n_in (n := 2) (by omega) b2 ?_
    first | refine i0 ?_ | refine i0' ?_
    exact And.intro (fun _ => hZ _ _ _ _ (fun z => absurd z (by decide)) A) (fun z => absurd z (by decide))
  rcases arg x3 12 (by omega) with ⟨j3, h3, rfl⟩ | b3
  case inr =>
    refine Or.inl (Or.inr (v_plc hc2.2 h1 ((Or.inr (v_cac h2 ((Or.inl (z_mon b3 (Or.inl ⟨rfl, hQ _ _ ?_⟩)))))))))
    refine m_plc hc2 h1 ?_
    first | refine i1 ?_ | refine i1' ?_
    refine m_in (n := 2) (by omega) h2 ?_
    first | refine i1 ?_ | refine i1' ?_
    refine n_mon b3 ?_
    first | refine i0 ?_ | refine i0' ?_
    exact And.intro (fun _ => hZ _ _ _ _ (fun z => absurd z (by decide)) A) (fun z => absurd z (by decide))
  rcases arg x4 (mst j2 + 1) (by have := mst_le j2; omega) with ⟨j4, h4, rfl⟩ | b4
  case inr =>
    refine Or.inl (Or.inr (v_plc hc2.2 h1 ((Or.inr (v_cac h2 ((Or.inr (v_mon h3 ((s_most h2 (Or.inl (z_upto (by have := mst_le j2; omega) b4 (Or.inr (Or.inl ⟨rfl, hQ _ _ ?_⟩))))))))))))))
    refine m_plc hc2 h1 ?_
    first | refine i1 ?_ | refine i1' ?_
    refine m_in (n := 2) (by omega) h2 ?_
    first | refine i1 ?_ | refine i1' ?_
    refine m_mon h3 ?_
    first | refine i1 ?_ | refine i1' ?_
    refine n_amt h2 b4 ?_
    first | refine i0 ?_ | refine i0' ?_
    exact And.intro (fun _ => hZ _ _ _ _ (fun z => absurd z (by decide)) A) (fun z => absurd z (by decide))
  cases hl : hc p c j1
  case true =>
    refine Or.inl (Or.inr (v_plc hc2.2 h1 ((Or.inr (v_cac h2 ((Or.inr (v_mon h3 ((s_most h2 (Or.inr (v_upto (by have := mst_le j2; omega) h4 ((z_leaf R h1 hl (Or.inr (Or.inr (⟨rfl, hQ _ _ ?_⟩)))))))))))))))))
    refine m_plc hc2 h1 ?_
    first | refine i1 ?_ | refine i1' ?_
    refine m_in (n := 2) (by omega) h2 ?_
    first | refine i1 ?_ | refine i1' ?_
    refine m_mon h3 ?_
    first | refine i1 ?_ | refine i1' ?_
    refine m_amt h2 h4 ?_
    first | refine i1 ?_ | refine i1' ?_
    refine n_leaf R h1 hl ?_
    first | refine i0 ?_ | refine i0' ?_
    exact And.intro (fun _ => hZ _ _ _ _ (fun z => absurd z (by decide)) A) (fun z => absurd z (by decide))
  have mst5 := mst_le j2
  refine Or.inr (v_plc hc2.2 h1 (v_cac h2 (v_mon h3 (s_most h2 (v_upto (by have := mst_le j2; omega) h4 (v_leaf R h1 hl ( s_put (l := 3) (by omega) (by omega) h2 h3 ⟨in01, hQ _ _ ?_⟩ )))))))
  refine m_plc hc2 h1 ?_
  first | refine i1 ?_ | refine i1' ?_
  refine m_in (n := 2) (by omega) h2 ?_
  first | refine i1 ?_ | refine i1' ?_
  refine m_mon h3 ?_
  first | refine i1 ?_ | refine i1' ?_
  refine m_amt h2 h4 ?_
  first | refine i1 ?_ | refine i1' ?_
  refine m_leaf R h1 hl ?_
  first | refine i1 ?_ | refine i1' ?_
  refine And.intro (fun z => absurd rfl z) (fun _ => m_at (v := 3) (m_puts (by omega) ?_))
  exact hZ _ _ _ _ (fun _ => oN) (A.put (by omega))
theorem p_setSeason {x1 x2 : Int32} {out : Nat → Int64} {Q : Int32 → (Ar × (Nat → Int64)) → Prop} {Z : Int32 → (Ar × (Nat → Int64)) → Int32 → (Int32 × Ar) → Prop} (S : RS seW msea) (hQ : ∀ r u, vX4_setSeason thr msea x1 x2 (Z r u) → Q r u) (hZ : ∀ r g g' o r', (r = 0 → o 0 = Int32.toInt64 r') → RS g g' → Z r (g, o) r' (r, g')) :
    vL_setSeason seW out x1 x2 Q := by
  
  rcases arg x1 12 (by omega) with ⟨j1, h1, rfl⟩ | b1
  case inr =>
    refine Or.inl (Or.inl (z_mon b1 (Or.inl ⟨rfl, hQ _ _ ?_⟩)))
    refine n_mon b1 ?_
    first | refine i0 ?_ | refine i0' ?_
    exact And.intro (fun z => absurd z (by decide)) (fun _ => hZ _ _ _ _ _ (fun z => absurd z (by decide)) S)
  rcases arg x2 (100 + 1) (by omega) with ⟨j2, h2, rfl⟩ | b2
  case inr =>
    refine Or.inl (Or.inr (v_mon h1 ((z_upto (M := 100) (by omega) b2 (Or.inr (⟨rfl, hQ _ _ ?_⟩))))))
    refine m_mon h1 ?_
    first | refine i1 ?_ | refine i1' ?_
    refine n_in (n := 100) (by omega) b2 ?_
    first | refine i0 ?_ | refine i0' ?_
    exact And.intro (fun z => absurd z (by decide)) (fun _ => hZ _ _ _ _ _ (fun z => absurd z (by decide)) S)
  unfold vL_setSeason
  refine Or.inr (v_mon h1 (v_upto (M := 100) (by omega) h2 ( ?_ )))
  unfold vX1_weigh
  rw [nI_clamp (n := j1) (by omega)]
  have i12 : vp_in (nI j1) 12 := vp_in_nI (by omega) (by omega)
  refine ⟨i12, i12, in01, hQ _ _ ?_⟩
  refine m_mon h1 ?_
  first | refine i1 ?_ | refine i1' ?_
  refine m_in (n := 100) (by omega) h2 ?_
  first | refine i1 ?_ | refine i1' ?_
  refine And.intro (fun _ => ?_) (fun z => absurd (Int32.le_refl _) z)
  rw [nI_clamp (n := j1) (by omega), ← (S j1 h1).1]
  exact ⟨i12, i12, hZ _ _ _ _ _ (fun _ => oN) (S.put (by omega))⟩
theorem p_hold {x1 x2 x3 : Int32} {b : Bool} {out : Nat → Int64} {Q : Int32 → (Ar × (Nat → Int64)) → Prop} {Z : Int32 → (Ar × (Nat → Int64)) → Int32 → (Int32 × Ar) → Prop} (R : RT3 c p cnt pwc par pl mpar) (H : RH h held mhel) (hb : x3 = bi b) (hQ : ∀ r u, vX4_hold pl thr mpar mhel x1 x2 x3 (Z r u) → Q r u) (hZ : ∀ r g g' h' o r', (r = 0 → ∃ d, r' = bi d ∧ o 0 = if d = true then 1 else 0) → RH h' g g' → Z r (g, o) r' (r, g')) :
    vL_hold cnt pwc held out x1 x2 x3 Q := by
  have hc2 := R.1
  obtain rfl := R.2.1
  obtain rfl := R.2.2.1
  rcases arg x1 c (by omega) with ⟨j1, h1, rfl⟩ | b1
  case inr =>
    refine Or.inl (Or.inl (z_plc b1 (Or.inl ⟨rfl, hQ _ _ ?_⟩)))
    refine n_plc hc2 b1 ?_
    first | refine i0 ?_ | refine i0' ?_
    exact And.intro (fun z => absurd z (by decide)) (fun _ => hZ _ _ _ _ _ _ (fun z => absurd z (by decide)) H)
  rcases arg x2 12 (by omega) with ⟨j2, h2, rfl⟩ | b2
  case inr =>
    refine Or.inl (Or.inr (v_plc hc2.2 h1 ((Or.inl (z_mon b2 (Or.inl ⟨rfl, hQ _ _ ?_⟩))))))
    refine m_plc hc2 h1 ?_
    first | refine i1 ?_ | refine i1' ?_
    refine n_mon b2 ?_
    first | refine i0 ?_ | refine i0' ?_
    exact And.intro (fun z => absurd z (by decide)) (fun _ => hZ _ _ _ _ _ _ (fun z => absurd z (by decide)) H)
  cases hl : hc p c j1
  case true =>
    refine Or.inl (Or.inr (v_plc hc2.2 h1 ((Or.inr (v_mon h2 ((z_leaf R h1 hl (Or.inr (⟨rfl, hQ _ _ ?_⟩)))))))))
    refine m_plc hc2 h1 ?_
    first | refine i1 ?_ | refine i1' ?_
    refine m_mon h2 ?_
    first | refine i1 ?_ | refine i1' ?_
    refine n_leaf R h1 hl ?_
    first | refine i0 ?_ | refine i0' ?_
    exact And.intro (fun z => absurd z (by decide)) (fun _ => hZ _ _ _ _ _ _ (fun z => absurd z (by decide)) H)
  refine Or.inr (v_plc hc2.2 h1 (v_mon h2 (v_leaf R h1 hl ( s_holdJ H (by omega) h2 hb (fun y hy => ?_) ))))
  have run : ∀ P : Int32 → (Int32 × Ar) → Prop, P (bi (h j2 j1 != b)) (0, upd mhel (12 * j1 + j2) (bi b)) → vX4_hold (nI c) thr mpar mhel (nI j1) (nI j2) x3 P := by
    intro P a
    refine m_plc hc2 h1 ?_
    first | refine i1 ?_ | refine i1' ?_
    refine m_mon h2 ?_
    first | refine i1 ?_ | refine i1' ?_
    refine m_leaf R h1 hl ?_
    first | refine i1 ?_ | refine i1' ?_
    exact m_holdJ H (by omega) h2 hb a
  have H' := H.set (by omega) h2 hy
  cases hd : (h j2 j1 != b)
  · refine i0 ⟨in01, hQ _ _ (run _ ?_)⟩
    rw [hd]
    exact hZ _ _ _ _ _ _ (fun _ => ⟨false, rfl, by rw [oN]; rfl⟩) H'
  · refine i1 ⟨in01, hQ _ _ (run _ ?_)⟩
    rw [hd]
    exact hZ _ _ _ _ _ _ (fun _ => ⟨true, rfl, by rw [oN]; rfl⟩) H'
theorem p_handIn {x1 x2 : Int32} {out : Nat → Int64} {Q : Int32 → (Ar × (Nat → Int64)) → Prop} {Z : Int32 → (Ar × (Nat → Int64)) → Int32 → (Int32 × Ar) → Prop} (R : RT3 c p cnt pwc par pl mpar) (C : RC c p cl clos mclo) (hQ : ∀ r u, vX4_handIn pl thr mpar mclo x1 x2 (Z r u) → Q r u) (hZ : ∀ r g g' cl' o r', (r = 0 → o 0 = Int32.toInt64 r') → RC c p cl' g g' → Z r (g, o) r' (r, g')) :
    vL_handIn cnt pwc par clos out x1 x2 Q := by
  have hc2 := R.1
  obtain rfl := R.2.1
  obtain rfl := R.2.2.1
  rcases arg x1 3 (by omega) with ⟨j1, h1, rfl⟩ | b1
  case inr =>
    refine Or.inl (Or.inl (z_ver b1 (⟨rfl, hQ _ _ ?_⟩)))
    unfold vX4_handIn vX4_closes
    refine n_ver b1 ?_
    first | refine i0 ?_ | refine i0' ?_
    exact ⟨1, And.intro (fun _ => hZ _ _ _ _ _ _ (fun z => absurd z (by decide)) C) (fun _ => ⟨fun _ => hZ _ _ _ _ _ _ (fun z => absurd z (by decide)) C, fun z => absurd z (by decide)⟩)⟩
  rcases arg x2 c (by omega) with ⟨j2, h2, rfl⟩ | b2
  case inr =>
    refine Or.inl (Or.inr (v_ver h1 ((z_plc b2 (⟨rfl, hQ _ _ ?_⟩)))))
    unfold vX4_handIn vX4_closes
    refine m_ver h1 ?_
    first | refine i1 ?_ | refine i1' ?_
    refine n_plc hc2 b2 ?_
    first | refine i0 ?_ | refine i0' ?_
    exact ⟨1, And.intro (fun _ => hZ _ _ _ _ _ _ (fun z => absurd z (by decide)) C) (fun _ => ⟨fun _ => hZ _ _ _ _ _ _ (fun z => absurd z (by decide)) C, fun z => absurd z (by decide)⟩)⟩
  refine Or.inr (v_ver h1 (v_plc hc2.2 h2 ( s_leavesBelow R h2 (fun x hx => s_handIn (Q := fun r5 u5 => vp_in 0 1 ∧ Q 0 (u5, vp_updL out (0 : Int32).toNatClampNeg r5.toInt64)) C h1 hx (fun y hy => ⟨in01, hQ _ _ ?_⟩)) )))
  unfold vX4_handIn vX4_closes
  refine m_ver h1 ?_
  first | refine i1 ?_ | refine i1' ?_
  refine m_plc hc2 h2 ?_
  first | refine i1 ?_ | refine i1' ?_
  refine m_closes (b := true) R C h1 h2 (fun g hg => ?_)
  exact hZ _ _ _ _ _ _ (fun _ => oN) (C.set hy hg)
theorem p_takeBack {x1 x2 : Int32} {out : Nat → Int64} {Q : Int32 → (Ar × (Nat → Int64)) → Prop} {Z : Int32 → (Ar × (Nat → Int64)) → Int32 → (Int32 × Ar) → Prop} (R : RT3 c p cnt pwc par pl mpar) (C : RC c p cl clos mclo) (hQ : ∀ r u, vX4_takeBack pl thr mpar mclo x1 x2 (Z r u) → Q r u) (hZ : ∀ r g g' cl' o r', (r = 0 → o 0 = Int32.toInt64 r') → RC c p cl' g g' → Z r (g, o) r' (r, g')) :
    vL_takeBack cnt pwc par clos out x1 x2 Q := by
  have hc2 := R.1
  obtain rfl := R.2.1
  obtain rfl := R.2.2.1
  rcases arg x1 3 (by omega) with ⟨j1, h1, rfl⟩ | b1
  case inr =>
    refine Or.inl (Or.inl (z_ver b1 (⟨rfl, hQ _ _ ?_⟩)))
    unfold vX4_takeBack vX4_closes
    refine n_ver b1 ?_
    first | refine i0 ?_ | refine i0' ?_
    exact ⟨1, And.intro (fun _ => hZ _ _ _ _ _ _ (fun z => absurd z (by decide)) C) (fun _ => ⟨fun _ => hZ _ _ _ _ _ _ (fun z => absurd z (by decide)) C, fun z => absurd z (by decide)⟩)⟩
  rcases arg x2 c (by omega) with ⟨j2, h2, rfl⟩ | b2
  case inr =>
    refine Or.inl (Or.inr (v_ver h1 ((z_plc b2 (⟨rfl, hQ _ _ ?_⟩)))))
    unfold vX4_takeBack vX4_closes
    refine m_ver h1 ?_
    first | refine i1 ?_ | refine i1' ?_
    refine n_plc hc2 b2 ?_
    first | refine i0 ?_ | refine i0' ?_
    exact ⟨1, And.intro (fun _ => hZ _ _ _ _ _ _ (fun z => absurd z (by decide)) C) (fun _ => ⟨fun _ => hZ _ _ _ _ _ _ (fun z => absurd z (by decide)) C, fun z => absurd z (by decide)⟩)⟩
  refine Or.inr (v_ver h1 (v_plc hc2.2 h2 ( s_leavesBelow R h2 (fun x hx => s_takeBack (Q := fun r5 u5 => vp_in 0 1 ∧ Q 0 (u5, vp_updL out (0 : Int32).toNatClampNeg r5.toInt64)) C h1 hx (fun y hy => ⟨in01, hQ _ _ ?_⟩)) )))
  unfold vX4_takeBack vX4_closes
  refine m_ver h1 ?_
  first | refine i1 ?_ | refine i1' ?_
  refine m_plc hc2 h2 ?_
  first | refine i1 ?_ | refine i1' ?_
  refine m_closes (b := false) R C h1 h2 (fun g hg => ?_)
  exact hZ _ _ _ _ _ _ (fun _ => oN) (C.set hy hg)
theorem p_copy {x1 x2 : Int32} {out : Nat → Int64} {Q : Int32 → (Ar × (Nat → Int64)) → Prop} {Z : Int32 → (Ar × (Nat → Int64)) → Int32 → (Int32 × Ar) → Prop} (R : RT3 c p cnt pwc par pl mpar) (C : RC c p cl clos mclo) (A : RA f) (hQ : ∀ r u, vX4_copy pl thr mpar f mclo x1 x2 (Z r u) → Q r u) (hZ : ∀ r g o r', (r = 0 → o 0 = Int32.toInt64 r') → RA g → Z r (g, o) r' (r, g)) :
    vL_copy f clos out x1 x2 Q := by
  
  rcases arg x1 3 (by omega) with ⟨j1, h1, rfl⟩ | b1
  case inr =>
    refine Or.inl (Or.inl (z_ver b1 (Or.inl ⟨rfl, hQ _ _ ?_⟩)))
    refine n_ver b1 ?_
    first | refine i0 ?_ | refine i0' ?_
    exact m_copy_bad R (by decide) (hZ _ _ _ _ (fun z => absurd z (by decide)) A)
  rcases arg x2 3 (by omega) with ⟨j2, h2, rfl⟩ | b2
  case inr =>
    refine Or.inl (Or.inr (v_ver h1 ((Or.inl (z_ver b2 (Or.inl ⟨rfl, hQ _ _ ?_⟩))))))
    refine m_ver h1 ?_
    first | refine i1 ?_ | refine i1' ?_
    refine n_ver b2 ?_
    first | refine i0 ?_ | refine i0' ?_
    exact m_copy_bad R (by decide) (hZ _ _ _ _ (fun z => absurd z (by decide)) A)
  have i3 : vp_in (nI j2) 3 := vp_in_nI (by omega) (by omega)
  have e2 : (nI j2).toNatClampNeg = j2 := nI_clamp (by omega)
  by_cases he : j1 = j2
  · subst he
    refine Or.inl ((Or.inr (v_ver h1 ((Or.inr (v_ver h2 ( And.intro (fun z => absurd rfl z) (fun _ => Or.inr (Or.inl ⟨rfl, hQ _ _ ?_⟩)) )))))))
    refine m_ver h1 ?_
    first | refine i1 ?_ | refine i1' ?_
    refine m_ver h2 ?_
    first | refine i1 ?_ | refine i1' ?_
    exact And.intro (fun z => absurd rfl z) (fun _ => m_copy_bad R (by decide) (hZ _ _ _ _ (fun z => absurd z (by decide)) A))
  · have ne : ¬ nI j1 = nI j2 := fun z => he ((nI_eq (by omega) (by omega)).mp z)
    by_cases hcl : clos j2 = 0
    · refine Or.inr (v_ver h1 (v_ver h2 ( And.intro (fun _ => And.intro i3 (And.intro (fun _ => s_copyLayer (by omega) (by omega) he ⟨in01, hQ _ _ ?_⟩) (fun z => absurd (by rw [e2]; exact hcl) z))) (fun z => absurd z ne) )))
      refine m_ver h1 ?_
      first | refine i1 ?_ | refine i1' ?_
      refine m_ver h2 ?_
      first | refine i1 ?_ | refine i1' ?_
      refine And.intro (fun _ => m_copy_L R C h1 h2 he (fun _ => ?_) (fun z => absurd hcl z)) (fun z => absurd z ne)
      exact hZ _ _ _ _ (fun _ => oN) (A.copied h1 h2)
    · refine Or.inl ((Or.inr (v_ver h1 ((Or.inr (v_ver h2 ( And.intro (fun _ => And.intro i3 (And.intro (fun z => absurd (by rw [e2] at z; exact z) hcl) (fun _ => Or.inr (Or.inr ⟨rfl, hQ _ _ ?_⟩)))) (fun z => absurd z ne) )))))))
      refine m_ver h1 ?_
      first | refine i1 ?_ | refine i1' ?_
      refine m_ver h2 ?_
      first | refine i1 ?_ | refine i1' ?_
      refine And.intro (fun _ => m_copy_L R C h1 h2 he (fun z => absurd z hcl) (fun _ => ?_)) (fun z => absurd z ne)
      exact hZ _ _ _ _ (fun z => absurd z (by decide)) A
theorem p_addPlace {x1 : Int32} {out : Nat → Int64} {Q : Int32 → (Int32 × Int32 × Ar × (Nat → Int64)) → Prop} {Z : Int32 → (Int32 × Int32 × Ar × (Nat → Int64)) → Int32 → (Int32 × Int32 × Ar) → Prop} (R : RT3 c p cnt pwc par pl mpar) (H : RH h held mhel) (C : RC c p cl clos mclo) (hQ : ∀ r u, vX4_addPlace pl thr mpar f mhel mclo x1 (Z r u) → Q r u) (hZ0 : ∀ r, (r = 0 → False) → Z r (cnt, pwc, par, out) 0 (pl, r, mpar)) (hZ : ∀ c' p' cnt' pwc' par' pl' mpar' o r', RT3 c' p' cnt' pwc' par' pl' mpar' → RC c' p' cl clos mclo → o 0 = Int32.toInt64 r' → Z 0 (cnt', pwc', par', o) r' (pl', 0, mpar')) :
    vL_addPlace cnt pwc par f held clos out x1 Q := by
  have hc2 := R.1
  obtain rfl := R.2.1
  obtain rfl := R.2.2.1
  rcases arg x1 c (by omega) with ⟨j1, h1, rfl⟩ | b1
  case inr =>
    refine Or.inl (Or.inl (z_plc b1 (Or.inl ⟨rfl, hQ _ _ ?_⟩)))
    refine n_plc hc2 b1 ?_
    first | refine i0 ?_ | refine i0' ?_
    exact And.intro (fun z => absurd z (by decide)) (fun _ => hZ0 _ (fun z => absurd z (by decide)))
  have h10 : j1 < 10 := by omega
  have full : ∀ P : Int32 → Prop, (c < 10 → P 0) → (¬ c < 10 → P 1) → vX2_isFull (nI c) P := fun P a b => And.intro (fun z => a ((nI_ltI (b := 10) (by omega) (by omega)).mp z)) (fun z => b (fun w => z (nI_lt (b := 10) w (by omega))))
  have run : ∀ P : Int32 → (Int32 × Int32 × Ar) → Prop, (c < 10 → (hc p c j1 = true ∨ unt f h cl j1) → P (nI c) (nI c + 1, 0, upd mpar c (nI j1))) → ((¬ c < 10 ∨ (hc p c j1 = false ∧ ¬ unt f h cl j1)) → P 0 (nI c, 2, mpar)) → vX4_addPlace (nI c) thr mpar f mhel mclo (nI j1) P := by
    intro P a b
    have j38 : (¬ c < 10 ∨ (hc p c j1 = false ∧ ¬ unt f h cl j1)) → vX4_addPlace_J38 (nI c) thr mpar f mhel mclo (nI j1) P := fun w => And.intro (fun z => absurd z (by decide)) (fun _ => b w)
    have j42 : c < 10 → (hc p c j1 = true ∨ unt f h cl j1) → vX4_addPlace_J42 (nI c) thr mpar f mhel mclo (nI j1) P := by
      intro w1 w2
      refine And.intro (fun _ => ?_) (fun z => absurd (Int32.le_refl _) z)
      have e : nI c + 1 - 1 = nI c := by rw [nI_1]; exact nI_pred c
      rw [nI_clamp (by omega), e]
      exact ⟨vp_in_nI w1 (by omega), a w1 w2⟩
    refine m_plc hc2 h1 ?_
    first | refine i1 ?_ | refine i1' ?_
    refine And.intro (fun z => j38 (Or.inl ?_)) (fun z => ?_)
    · have := (nI_eq (b := 10) (by omega) (by omega)).mp z
      omega
    · have w1 : c < 10 := by
        have : c ≠ 10 := fun e => z (by rw [e]; rfl)
        omega
      refine m_isLeaf R h10 ?_
      cases hl : hc p c j1
      · refine i1 (m_isUntouched H C h10 (fun u => i0' (j38 (Or.inr ⟨hl, u⟩))) (fun u => i1' (j42 w1 (Or.inr u))))
      · exact i0 (j42 w1 (Or.inl hl))
  by_cases w1 : c < 10
  · have good : (hc p c j1 = true ∨ unt f h cl j1) → vX3_addPlace_J54 (nI c) pwc par f held clos (nI j1) (fun r4 u4 => vp_in 0 1 ∧ Q 0 (u4.1, u4.2.1, u4.2.2, vp_updL out (0 : Int32).toNatClampNeg r4.toInt64)) := by
      intro w2
      unfold vX3_addPlace_J54 vX2_addBelow
      rw [nI_clamp (n := c) (by omega)]
      refine ⟨vp_in_nI w1 (by omega), in01, hQ _ _ (run _ (fun _ _ => ?_) (fun w => ?_))⟩
      · exact hZ _ _ _ _ _ _ _ _ _ (R.add h1 w1) (C.add hc2.1 (w2.imp_right (fun u => u.2.2))) oN
      · rcases w with w | w
        · exact absurd w1 w
        · rcases w2 with w2 | w2
          · rw [w.1] at w2
            cases w2
          · exact absurd w2 w.2
    cases hl : hc p c j1
    · by_cases u : unt f h cl j1
      · refine Or.inr (v_plc hc2.2 h1 ( full _ (fun _ => i0 (s_isLeaf R h10 ?_)) (fun w => absurd w1 w) ))
        rw [hl]
        exact i1 (s_isInUse H C h10 (fun _ => i0 (good (Or.inr u))) (fun w => absurd u w))
      · refine Or.inl ((Or.inr (v_plc hc2.2 h1 ( full _ (fun _ => i0 (s_isLeaf R h10 ?_)) (fun w => absurd w1 w) ))))
        rw [hl]
        refine i1 (s_isInUse H C h10 (fun w => absurd w u) (fun _ => i1 (Or.inr ⟨rfl, hQ _ _ (run _ (fun _ w => ?_) (fun _ => hZ0 _ (fun z => absurd z (by decide))))⟩)))
        rcases w with w | w
        · rw [hl] at w
          cases w
        · exact absurd w u
    · refine Or.inr (v_plc hc2.2 h1 ( full _ (fun _ => i0 (s_isLeaf R h10 ?_)) (fun w => absurd w1 w) ))
      rw [hl]
      exact i0 (good (Or.inl hl))
  · refine Or.inl ((Or.inr (v_plc hc2.2 h1 ( full _ (fun w => absurd w w1) (fun _ => i1 (Or.inr ⟨rfl, hQ _ _ (run _ (fun w _ => absurd w w1) (fun _ => hZ0 _ (fun z => absurd z (by decide))))⟩)) ))))
theorem p_spread {x1 x2 x3 x4 x5 : Int32} {out : Nat → Int64} {Q : Int32 → (Ar × Ar × Ar × (Nat → Int64)) → Prop} {Z : Int32 → (Ar × Ar × Ar × (Nat → Int64)) → Int32 → (Int32 × Ar × Ar × Ar) → Prop} (R : RT3 c p cnt pwc par pl mpar) (H : RH h held mhel) (C : RC c p cl clos mclo) (A : RA f) (l10 : leW 10 = 0) (l11 : leW 11 = 0) (hQ : ∀ r u, vX4_spread pl thr mpar f mhel mclo mwei msha x1 x2 x3 x4 x5 (Z r u) → Q r u) (hZ : ∀ r g lw ls o r' mw ms, (r = 0 → o 0 = Int32.toInt64 r') → RA g → lw 10 = 0 → lw 11 = 0 → Z r (g, lw, ls, o) r' (r, g, mw, ms)) :
    vL_spread cnt pwc par f held clos leW leS out x1 x2 x3 x4 x5 Q := by
  have hc2 := R.1
  obtain rfl := R.2.1
  obtain rfl := R.2.2.1
  rcases arg x1 3 (by omega) with ⟨j1, h1, rfl⟩ | b1
  case inr =>
    refine Or.inl (Or.inl (z_ver b1 (Or.inl ⟨rfl, hQ _ _ ?_⟩)))
    refine n_ver b1 ?_
    first | refine i0 ?_ | refine i0' ?_
    exact And.intro (fun z => absurd z (by decide)) (fun _ => hZ _ _ _ _ _ _ _ _ (fun z => absurd z (by decide)) A l10 l11)
  rcases arg x2 c (by omega) with ⟨j2, h2, rfl⟩ | b2
  case inr =>
    refine Or.inl (Or.inr (v_ver h1 ((Or.inl (z_plc b2 (Or.inl ⟨rfl, hQ _ _ ?_⟩))))))
    refine m_ver h1 ?_
    first | refine i1 ?_ | refine i1' ?_
    refine n_plc hc2 b2 ?_
    first | refine i0 ?_ | refine i0' ?_
    exact And.intro (fun z => absurd z (by decide)) (fun _ => hZ _ _ _ _ _ _ _ _ (fun z => absurd z (by decide)) A l10 l11)
  rcases arg x3 12 (by omega) with ⟨j3, h3, rfl⟩ | b3
  case inr =>
    refine Or.inl (Or.inr (v_ver h1 ((Or.inr (v_plc hc2.2 h2 ((Or.inl (z_mon b3 (Or.inl ⟨rfl, hQ _ _ ?_⟩)))))))))
    refine m_ver h1 ?_
    first | refine i1 ?_ | refine i1' ?_
    refine m_plc hc2 h2 ?_
    first | refine i1 ?_ | refine i1' ?_
    refine n_mon b3 ?_
    first | refine i0 ?_ | refine i0' ?_
    exact And.intro (fun z => absurd z (by decide)) (fun _ => hZ _ _ _ _ _ _ _ _ (fun z => absurd z (by decide)) A l10 l11)
  rcases arg x4 (1000000 + 1) (by omega) with ⟨j4, h4, rfl⟩ | b4
  case inr =>
    refine Or.inl (Or.inr (v_ver h1 ((Or.inr (v_plc hc2.2 h2 ((Or.inr (v_mon h3 ((Or.inl (z_upto (M := 1000000) (by omega) b4 (Or.inr (Or.inl ⟨rfl, hQ _ _ ?_⟩)))))))))))))
    refine m_ver h1 ?_
    first | refine i1 ?_ | refine i1' ?_
    refine m_plc hc2 h2 ?_
    first | refine i1 ?_ | refine i1' ?_
    refine m_mon h3 ?_
    first | refine i1 ?_ | refine i1' ?_
    refine n_in (n := 1000000) (by omega) b4 ?_
    first | refine i0 ?_ | refine i0' ?_
    exact And.intro (fun z => absurd z (by decide)) (fun _ => hZ _ _ _ _ _ _ _ _ (fun z => absurd z (by decide)) A l10 l11)
  rcases arg x5 (1 + 1) (by omega) with ⟨j5, h5, rfl⟩ | b5
  case inr =>
    refine Or.inl (Or.inr (v_ver h1 ((Or.inr (v_plc hc2.2 h2 ((Or.inr (v_mon h3 ((Or.inr (v_upto (M := 1000000) (by omega) h4 ((Or.inl (z_upto (M := 1) (by omega) b5 (Or.inr (Or.inl ⟨rfl, hQ _ _ ?_⟩))))))))))))))))
    refine m_ver h1 ?_
    first | refine i1 ?_ | refine i1' ?_
    refine m_plc hc2 h2 ?_
    first | refine i1 ?_ | refine i1' ?_
    refine m_mon h3 ?_
    first | refine i1 ?_ | refine i1' ?_
    refine m_in (n := 1000000) (by omega) h4 ?_
    first | refine i1 ?_ | refine i1' ?_
    refine n_in (n := 1) (by omega) b5 ?_
    first | refine i0 ?_ | refine i0' ?_
    exact And.intro (fun z => absurd z (by decide)) (fun _ => hZ _ _ _ _ _ _ _ _ (fun z => absurd z (by decide)) A l10 l11)
  have run : ∀ P : Int32 → (Int32 × Ar × Ar × Ar) → Prop, (can f (lf p c j2) (Fr (lf p c j2) h cl j1 j3) j1 j3 j4 → ∀ mw ms, P (sK f (lf p c j2) (Fr (lf p c j2) h cl j1 j3) j1 j3 j4 j5) (0, sR f (lf p c j2) (Fr (lf p c j2) h cl j1 j3) j1 j3 j4 j5, mw, ms)) → (¬ can f (lf p c j2) (Fr (lf p c j2) h cl j1 j3) j1 j3 j4 → P 0 (3, f, mwei, msha)) → vX4_spread (nI c) thr mpar f mhel mclo mwei msha (nI j1) (nI j2) (nI j3) (nI j4) (nI j5) P := by
    intro P a b
    refine m_ver h1 ?_
    first | refine i1 ?_ | refine i1' ?_
    refine m_plc hc2 h2 ?_
    first | refine i1 ?_ | refine i1' ?_
    refine m_mon h3 ?_
    first | refine i1 ?_ | refine i1' ?_
    refine m_in (n := 1000000) (by omega) h4 ?_
    first | refine i1 ?_ | refine i1' ?_
    refine m_in (n := 1) (by omega) h5 ?_
    first | refine i1 ?_ | refine i1' ?_
    refine And.intro (fun _ => m_rest R H C A h2 h1 h3 (by omega) (fun k => ?_) (fun k => ?_)) (fun z => absurd (Int32.le_refl _) z)
    · exact And.intro (fun _ => m_spreads R H C A h2 h1 h3 (by omega) h5 k (fun mw ms => a k mw ms)) (fun z => absurd z (nI_nm1 (by omega)))
    · exact And.intro (fun z => absurd rfl z) (fun _ => b k)
  by_cases k : can f (lf p c j2) (Fr (lf p c j2) h cl j1 j3) j1 j3 j4
  · refine Or.inr (v_ver h1 (v_plc hc2.2 h2 (v_mon h3 (v_upto (M := 1000000) (by omega) h4 (v_upto (M := 1) (by omega) h5 ( s_leavesBelow R h2 (fun x hx => v_spr H C A h1 h3 (by omega) hx k (s_spreadOver H C A h1 h3 (by omega) h5 hx l10 l11 (fun i hi => lf_ge (by omega)) k (fun lw ls e1 e2 => ⟨in01, hQ _ _ (run _ (fun _ mw ms => ?_) (fun w => absurd k w))⟩))) ))))))
    exact hZ _ _ _ _ _ _ _ _ (fun _ => oN) (sR_RA A (by omega)) e1 e2
  · refine Or.inl ((Or.inr (v_ver h1 ((Or.inr (v_plc hc2.2 h2 ((Or.inr (v_mon h3 ((Or.inr (v_upto (M := 1000000) (by omega) h4 ((Or.inr (v_upto (M := 1) (by omega) h5 ( s_leavesBelow R h2 (fun x hx => z_spr H C A h1 h3 (by omega) hx k (Or.inr (Or.inr ⟨rfl, hQ _ _ (run _ (fun w => absurd w k) (fun _ => ?_))⟩))) ))))))))))))))))
    exact hZ _ _ _ _ _ _ _ _ (fun z => absurd z (by decide)) A l10 l11
theorem p_spreadYear {x1 x2 x3 : Int32} {out : Nat → Int64} {Q : Int32 → (Ar × Ar × Ar × Ar × (Nat → Int64)) → Prop} {Z : Int32 → (Ar × Ar × Ar × Ar × (Nat → Int64)) → Int32 → (Int32 × Ar × Ar × Ar × Ar) → Prop} (R : RT3 c p cnt pwc par pl mpar) (H : RH h held mhel) (C : RC c p cl clos mclo) (A : RA f) (S : RS seW msea) (l10 : leW 10 = 0) (l11 : leW 11 = 0) (hQ : ∀ r u, vX4_spreadYear pl thr mpar f mhel mclo msea mwei msha mmon x1 x2 x3 (Z r u) → Q r u) (hZ : ∀ r g ss lw ls o r' mw ms mm, (r = 0 → o 0 = Int32.toInt64 r') → RA g → lw 10 = 0 → lw 11 = 0 → Z r (g, ss, lw, ls, o) r' (r, g, mw, ms, mm)) :
    vL_spreadYear cnt pwc par f held clos seW seS leW leS out x1 x2 x3 Q := by
  have hc2 := R.1
  obtain rfl := R.2.1
  obtain rfl := R.2.2.1
  rcases arg x1 3 (by omega) with ⟨j1, h1, rfl⟩ | b1
  case inr =>
    refine Or.inl (Or.inl (z_ver b1 (Or.inl ⟨rfl, hQ _ _ ?_⟩)))
    refine n_ver b1 ?_
    first | refine i0 ?_ | refine i0' ?_
    exact m_sy_bad (by decide) (by decide) (fun mw => hZ _ _ _ _ _ _ _ _ _ _ (fun z => absurd z (by decide)) A l10 l11)
  rcases arg x2 c (by omega) with ⟨j2, h2, rfl⟩ | b2
  case inr =>
    refine Or.inl (Or.inr (v_ver h1 ((Or.inl (z_plc b2 (Or.inl ⟨rfl, hQ _ _ ?_⟩))))))
    refine m_ver h1 ?_
    first | refine i1 ?_ | refine i1' ?_
    refine n_plc hc2 b2 ?_
    first | refine i0 ?_ | refine i0' ?_
    exact m_sy_bad (by decide) (by decide) (fun mw => hZ _ _ _ _ _ _ _ _ _ _ (fun z => absurd z (by decide)) A l10 l11)
  rcases arg x3 (1000000 + 1) (by omega) with ⟨j3, h3, rfl⟩ | b3
  case inr =>
    refine Or.inl (Or.inr (v_ver h1 ((Or.inr (v_plc hc2.2 h2 ((Or.inl (z_upto (M := 1000000) (by omega) b3 (Or.inr (Or.inl ⟨rfl, hQ _ _ ?_⟩))))))))))
    refine m_ver h1 ?_
    first | refine i1 ?_ | refine i1' ?_
    refine m_plc hc2 h2 ?_
    first | refine i1 ?_ | refine i1' ?_
    refine n_in (n := 1000000) (by omega) b3 ?_
    first | refine i0 ?_ | refine i0' ?_
    exact m_sy_bad (by decide) (by decide) (fun mw => hZ _ _ _ _ _ _ _ _ _ _ (fun z => absurd z (by decide)) A l10 l11)
  have run : ∀ P : Int32 → (Int32 × Ar × Ar × Ar × Ar) → Prop, (ns (wn seW) 12 ≠ 0 → canY f (lf p c j2) h cl j1 (sS seW j3) → ∀ mw ms mm : Ar, P (yC f (lf p c j2) h cl j1 (sS seW j3) 12) (0, yF f (lf p c j2) h cl j1 (sS seW j3) 12, mw, ms, mm)) → ((ns (wn seW) 12 = 0 ∨ ¬ canY f (lf p c j2) h cl j1 (sS seW j3)) → ∀ mw ms mm : Ar, P 0 (3, f, mw, ms, mm)) → vX4_spreadYear (nI c) thr mpar f mhel mclo msea mwei msha mmon (nI j1) (nI j2) (nI j3) P := by
    intro P a b
    refine m_ver h1 ?_
    first | refine i1 ?_ | refine i1' ?_
    refine m_plc hc2 h2 ?_
    first | refine i1 ?_ | refine i1' ?_
    refine m_in (n := 1000000) (by omega) h3 ?_
    first | refine i1 ?_ | refine i1' ?_
    exact m_sy R H C A S h2 h1 (by omega) a b
  have hw : ∀ j, j < 12 → seW j = nI (wn seW j) := fun j hj => (wn_eq S hj).1
  have hB : ∀ j, j < 12 → wn seW j ≤ 2000000 := fun j hj => by have := (wn_eq S hj).2.2; omega
  have hT : ns (wn seW) 12 ≤ 12 * 2000000 := ns_le hB
  by_cases z : ns (wn seW) 12 = 0
  · refine Or.inl ((Or.inr (v_ver h1 ((Or.inr (v_plc hc2.2 h2 ((Or.inr (v_upto (M := 1000000) (by omega) h3 ( s_totalWeight hw (And.intro (fun w => absurd (by rw [z]; rfl) w) (fun _ => Or.inr (Or.inr ⟨rfl, hQ _ _ (run _ (fun w => absurd z w) (fun _ mw ms mm => ?_))⟩))) ))))))))))
    exact hZ _ _ _ _ _ _ _ _ _ _ (fun z => absurd z (by decide)) A l10 l11
  · have nz : ¬ nI (ns (wn seW) 12) = 0 := nI_ne0 (by omega) (by omega)
    have hg : ∀ j, j < 12 → sS seW j3 j ≤ 1000001 := fun j hj => sS_le (by omega) hj
    by_cases k : canY f (lf p c j2) h cl j1 (sS seW j3)
    · refine Or.inr (v_ver h1 (v_plc hc2.2 h2 (v_upto (M := 1000000) (by omega) h3 ( s_totalWeight hw (And.intro (fun _ => s_leavesBelow R h2 (fun x hx => s_divide (w := wn seW) hw hB (by omega) (by omega) (fun sh hsh => s_sY56 (g := sS seW j3) H C A h1 hx l10 l11 (fun i hi => lf_ge (by omega)) hg hsh k (fun lw ls e1 e2 => ⟨in01, hQ _ _ (run _ (fun _ _ mw ms mm => ?_) (fun w => ?_))⟩)))) (fun w => absurd w nz)) ))))
      · exact hZ _ _ _ _ _ _ _ _ _ _ (fun _ => oN) (yF_RA A hg (Nat.le_refl _)) e1 e2
      · rcases w with w | w
        · exact absurd w z
        · exact absurd k w
    · refine Or.inl ((Or.inr (v_ver h1 ((Or.inr (v_plc hc2.2 h2 ((Or.inr (v_upto (M := 1000000) (by omega) h3 ( s_totalWeight hw (And.intro (fun _ => s_leavesBelow R h2 (fun x hx => s_divide (w := wn seW) hw hB (by omega) (by omega) (fun sh hsh => z_sY56 (g := sS seW j3) H C A h1 hx hg hsh k (Or.inr (Or.inr ⟨rfl, hQ _ _ (run _ (fun _ w => absurd w k) (fun _ mw ms mm => ?_))⟩))))) (fun w => absurd w nz)) ))))))))))
      exact hZ _ _ _ _ _ _ _ _ _ _ (fun z => absurd z (by decide)) A l10 l11
end OPS
