/-! spreading: the model -/
theorem orb_cut {S : Nat → Bool} {c : Nat} : ∀ (d : Nat), (∀ k, c ≤ k → S k = false) → orb S (c + d) = orb S c
  | 0, _ => rfl
  | d + 1, e => by
    show (orb S (c + d) || S (c + d)) = orb S c
    rw [orb_cut d e, e (c + d) (by omega), Bool.or_false]
theorem Fr_out {p : Nat → Nat} {h cl : Nat → Nat → Bool} {v m c t k : Nat} (hk : c ≤ k) : Fr (lf p c t) h cl v m k = false := by
  unfold Fr
  rw [lf_ge hk]
  rfl
theorem Fr_no {p : Nat → Nat} {h cl : Nat → Nat → Bool} {v m c t k : Nat} (hk : lf p c t k = false) : Fr (lf p c t) h cl v m k = false := by
  unfold Fr
  rw [hk]
  rfl
theorem Fr_yes {p : Nat → Nat} {h cl : Nat → Nat → Bool} {v m c t k : Nat} (hk : lf p c t k = true) : Fr (lf p c t) h cl v m k = (!h m k && !cl v k) := by
  unfold Fr
  rw [hk]
  rfl
section MSPREAD
variable {c : Nat} {p : Nat → Nat} {cnt pwc pl : Int32} {par mpar : Ar} {h cl : Nat → Nat → Bool} {held mhel clos mclo : Ar} {f : Ar} {t v m : Nat}
theorem m_rest {sum : Nat} {Q : Int32 → Prop} (R : RT3 c p cnt pwc par pl mpar) (H : RH h held mhel) (C : RC c p cl clos mclo) (A : RA f) (ht : t < c) (hv : v < 3) (hm : m < 12) (hs : sum ≤ 1000001)
    (q : can f (lf p c t) (Fr (lf p c t) h cl v m) v m sum → Q (nI (sum - hsum f (lf p c t) (Fr (lf p c t) h cl v m) v m))) (q' : ¬ can f (lf p c t) (Fr (lf p c t) h cl v m) v m sum → Q (-1)) : vX4_restOf pl mpar f mhel mclo (nI v) (nI t) (nI m) (nI sum) Q := by
  have hc10 := R.1.2
  have hpl := R.2.2.1
  obtain ⟨F, hF⟩ : ∃ F, F = Fr (lf p c t) h cl v m := ⟨_, rfl⟩
  obtain ⟨g, hg⟩ : ∃ g : Nat → Int32, g = fun k => if (lf p c t k && !F k) = true then vl f v k 2 m else 0 := ⟨_, rfl⟩
  have eo : orb F 10 = orb F c := by
    have := orb_cut (S := F) (c := c) (10 - c) (fun k hk => by rw [hF]; exact Fr_out hk)
    rw [← this]
    congr 1
    omega
  have es : sm g c = nI (hsum f (lf p c t) F v m) := by
    have e1 : sm g 10 = sm g c := sm_cut hc10 (fun i h1 _ => by rw [hg]; dsimp only; rw [lf_ge h1]; rfl)
    rw [← e1, hg]
    exact sm_cost (S := fun k => lf p c t k && !F k) A hv hm (Nat.le_refl _)
  rw [← hF] at q q'
  refine pk_loop (fun n i (s : Int32 × Int32) => vX4_restOf_L10 pl mpar f mhel mclo (nI v) (nI t) (nI m) Q n s.1 s.2 (nI i)) (fun i s => s.1 = nI sum - sm g i ∧ s.2 = bi (orb F i)) c 0 (nI sum, 0) (by omega) ⟨by show nI sum = nI sum - 0; rw [Int32.sub_zero], rfl⟩ (fun n s e => ?_) (fun n i s hi e ih => ?_)
  · obtain ⟨x5, x6⟩ := s
    obtain ⟨e1, e2⟩ := e
    dsimp only at e1 e2 ⊢
    rw [hpl]
    refine And.intro (fun _ => ?_) (fun c => absurd (Int32.le_refl _) c)
    rw [e1, e2, es, ← eo]
    have hr := rest_pos (f := f) (L := lf p c t) (F := F) (sum := sum) A hv hm hs
    refine ⟨fun z => q' (fun k => ?_), fun z => ⟨fun w => q' (fun k => ?_), fun w => ?_⟩⟩
    · have k1 := k.1
      rw [bi0.mp z] at k1
      cases k1
    · rw [hr.1 k.2] at w
      exact absurd w (nI_pos (by omega))
    · by_cases y : hsum f (lf p c t) F v m ≤ sum
      · rw [hr.1 y]
        refine q ⟨?_, y⟩
        cases o : orb F 10
        · rw [o] at z
          exact absurd rfl z
        · rfl
      · exact absurd (hr.2 y) w
  · obtain ⟨x5, x6⟩ := s
    obtain ⟨e1, e2⟩ := e
    dsimp only at e1 e2 ih ⊢
    rw [hpl] at ih ⊢
    refine And.intro (fun q => absurd q (nI_ge (b := c) hi (by omega))) (fun _ => ?_)
    rw [← hpl] at ih ⊢
    refine m_isLeafOf R hi ht ?_
    cases hb : lf p c t i
    · refine i0 ?_
      rw [nI_1]
      refine ih (_, _) ⟨?_, ?_⟩
      · show x5 = nI sum - (sm g i + g i)
        have : g i = 0 := by rw [hg]; dsimp only; rw [hb]; rfl
        rw [this, e1]
        simp
      · show x6 = bi (orb F i || F i)
        rw [e2, hF, Fr_no hb, Bool.or_false]
    · have hFi : F i = (!h m i && !cl v i) := by rw [hF]; exact Fr_yes hb
      refine i1 (m_isFree H C hv (by omega) hm ?_)
      rw [← hFi]
      have key : ∀ s0, s0 = bi (orb F i || F i) → vX4_restOf_J54 pl mpar f mhel mclo (nI v) (nI t) (nI m) x5 (nI i) (bi (F i)) s0 (vX4_restOf_L10 pl mpar f mhel mclo (nI v) (nI t) (nI m) Q n) Q := by
        intro s0 h0
        have gi : g i = if F i = true then 0 else vl f v i 2 m := by
          rw [hg]
          dsimp only
          rw [hb]
          cases F i <;> rfl
        refine And.intro (fun z => ?_) (fun z => ?_)
        · refine m_at (a := 2) (m_rd (Q := fun w => vX4_restOf_L10 pl mpar f mhel mclo (nI v) (nI t) (nI m) Q n (x5 - w) s0 (nI i + 1)) (by omega) (by omega) ?_)
          rw [nI_1]
          refine ih (_, _) ⟨?_, h0⟩
          show x5 - _ = nI sum - (sm g i + g i)
          rw [gi, bi0.mp z, e1, vl2, Int32.sub_sub]
          rfl
        · rw [nI_1]
          refine ih (_, _) ⟨?_, h0⟩
          have w : F i = true := by
            cases y : F i
            · exact absurd (by rw [y]; rfl) z
            · rfl
          show x5 - 0 = nI sum - (sm g i + g i)
          rw [gi, w, e1]
          simp
      rw [e2]
      refine ⟨fun z => key 1 ?_, fun z => ⟨fun w => key 0 ?_, fun w => key 1 ?_⟩⟩
      · cases y : orb F i
        · rw [y] at z
          exact absurd rfl z
        · rfl
      · rw [bi0.mp z, bi0.mp w]
        rfl
      · cases y : F i
        · rw [y] at w
          exact absurd rfl w
        · rw [Bool.or_true]
          rfl
theorem nI_nm1 {n : Nat} (hn : n < 2 ^ 31) : ¬ nI n = -1 := fun z => by
  have := congrArg Int32.toInt z
  rw [nI_toInt hn] at this
  have h1 : (-1 : Int32).toInt = -1 := by decide
  omega
theorem ns_zero {w : Nat → Nat} {i : Nat} : decide (ns w (i + 1) = 0) = (decide (ns w i = 0) && decide (w i = 0)) := by
  show decide (ns w i + w i = 0) = _
  by_cases a : ns w i = 0
  · by_cases b : w i = 0
    · simp [a, b]
    · rw [decide_eq_true a, decide_eq_false b, Bool.true_and]
      exact decide_eq_false (by omega)
  · rw [decide_eq_false a, Bool.false_and]
    exact decide_eq_false (by omega)
theorem m_spreads {mwei msha : Ar} {sum way : Nat} {Q : Int32 → (Ar × Ar × Ar) → Prop} (R : RT3 c p cnt pwc par pl mpar) (H : RH h held mhel) (C : RC c p cl clos mclo) (A : RA f) (ht : t < c) (hv : v < 3) (hm : m < 12) (hs : sum ≤ 1000001) (hw : way < 2)
    (k : can f (lf p c t) (Fr (lf p c t) h cl v m) v m sum) (q : ∀ mw ms : Ar, Q (sK f (lf p c t) (Fr (lf p c t) h cl v m) v m sum way) (sR f (lf p c t) (Fr (lf p c t) h cl v m) v m sum way, mw, ms)) : vX4_spreads pl mpar f mhel mclo mwei msha (nI v) (nI t) (nI m) (nI sum) (nI way) Q := by
  have hc10 := R.1.2
  have hpl := R.2.2.1
  subst hpl
  have hwp := wf_pos (way := way) k
  have hrest : ∀ {P : Int32 → Prop}, P (nI (sum - hsum f (lf p c t) (Fr (lf p c t) h cl v m) v m)) → vX4_restOf (nI c) mpar f mhel mclo (nI v) (nI t) (nI m) (nI sum) P := fun {P} hP => m_rest R H C A ht hv hm hs (fun _ => hP) (fun z => absurd k z)
  have hfree : ∀ {i : Nat} {P : Int32 → Prop}, i < 10 → lf p c t i = true → P (bi (Fr (lf p c t) h cl v m i)) → vX4_isFree mhel mclo (nI v) (nI i) (nI m) P := fun {i P} hi hb hP => m_isFree H C hv hi hm (by rw [← Fr_yes hb]; exact hP)
  have hFn : ∀ {i : Nat}, lf p c t i = false → Fr (lf p c t) h cl v m i = false := fun {i} hb => Fr_no hb
  have hFo : ∀ k, c ≤ k → Fr (lf p c t) h cl v m k = false := fun k hk => Fr_out hk
  obtain ⟨F, hF⟩ : ∃ F, F = Fr (lf p c t) h cl v m := ⟨_, rfl⟩
  rw [← hF] at hFo k hwp q
  simp only [← hF] at hFn hfree hrest
  have hW : ns (wf f F v m way) 12 = ns (wf f F v m way) c := wf_sum (by omega) hFo
  have run : ∀ (mw sh : Ar), (∀ j, j < c → sh j = nI (shq f (lf p c t) F v m sum way j)) → ∃ n, vX4_spreads_L185 (nI c) mpar mhel mclo mw sh (nI v) (nI t) (nI m) Q n 0 0 f := by
    intro mw sh hsh
    have cut := sp_cut (f := f) (v := v) (m := m) (sh := shq f (lf p c t) F v m sum way) (10 - c) hFo
    have e10 : c + (10 - c) = 10 := by omega
    rw [e10] at cut
    refine pk_loop (fun n i (s : Int32 × Ar) => vX4_spreads_L185 (nI c) mpar mhel mclo mw sh (nI v) (nI t) (nI m) Q n s.1 (nI i) s.2) (fun i s => s.1 = spC f F v m (shq f (lf p c t) F v m sum way) i ∧ s.2 = spF f F v m (shq f (lf p c t) F v m sum way) i) c 0 (0, f) (by omega) ⟨rfl, rfl⟩ (fun n s e => ?_) (fun n i s hi e ih => ?_)
    · refine And.intro (fun _ => ?_) (fun c => absurd (Int32.le_refl _) c)
      rw [e.1, e.2, ← cut.1, ← cut.2]
      exact q mw sh
    · obtain ⟨s, g⟩ := s
      obtain ⟨e1, e2⟩ := e
      dsimp only at e1 e2 ih ⊢
      refine And.intro (fun q => absurd q (nI_ge (b := c) hi (by omega))) (fun _ => ?_)
      refine m_isLeafOf R hi ht ?_
      have skip : F i = false → vX4_spreads_L185 (nI c) mpar mhel mclo mw sh (nI v) (nI t) (nI m) Q n s (nI i + 1) g := by
        intro hb
        rw [nI_1]
        refine ih (_, _) ⟨?_, ?_⟩
        · show s = if F i = true then _ else spC f F v m _ i
          rw [hb]
          exact e1
        · show g = if F i = true then _ else spF f F v m _ i
          rw [hb]
          exact e2
      cases hb : lf p c t i
      · exact i0 (skip (hFn hb))
      · refine i1 (hfree (by omega) hb ?_)
        cases hb2 : F i
        · exact i0 (skip hb2)
        · rw [nI_clamp (n := i) (by omega), nI_1]
          have i12 : vp_in (nI i) 12 := vp_in_nI (by omega) (by omega)
          have hsi := hsh i hi
          refine i1 (m_at (a := 2) ⟨i12, m_puts (by omega) ⟨i12, fun z => ih (_, _) ⟨?_, ?_⟩, fun z => ih (_, _) ⟨?_, ?_⟩⟩⟩)
          · show s + 0 = if F i = true then _ + (if _ then 0 else 1) else _
            rw [hb2, if_pos rfl, ← e1, ← e2, ← hsi, if_pos z.symm]
          · show upd g _ _ = if F i = true then upd (spF f F v m _ i) _ _ else _
            rw [hb2, if_pos rfl, ← e2, ← hsi]
          · show s + 1 = if F i = true then _ + (if _ then 0 else 1) else _
            rw [hb2, if_pos rfl, ← e1, ← e2, ← hsi, if_neg (fun w => z w.symm)]
          · show upd g _ _ = if F i = true then upd (spF f F v m _ i) _ _ else _
            rw [hb2, if_pos rfl, ← e2, ← hsi]
  have j162 : ∀ mw : Ar, (∀ j, j < c → mw j = nI (wf f F v m way j)) → vX4_spreads_J162 (nI c) mpar f mhel mclo mw msha (nI v) (nI t) (nI m) (nI sum) Q := by
    intro mw hmw
    refine hrest ?_
    refine m_shares (w := wf f F v m way) (by omega) hmw (fun j hj => wf_le A hv hm (by omega)) (by omega) (by rw [← hW]; exact hwp) (fun sh hsh => run mw sh (fun j hj => ?_))
    rw [hsh j hj]
    unfold shq
    rw [hW]
    obtain ⟨d, hd⟩ : ∃ d, 12 = c + d := ⟨12 - c, by omega⟩
    rw [hd, lf0_ge d (fun j h1 _ => by unfold qs; rw [wf_out (hFo j h1), Nat.mul_zero, Nat.zero_div])]
  have all : ∀ (x6 : Int32) (mw : Ar), (¬ x6 = 0 ∨ way = 1) → evn f F v m way = true → ∃ n, vX4_spreads_L103 (nI c) mpar f mhel mclo msha (nI v) (nI t) (nI m) (nI sum) (nI way) x6 Q n 0 mw := by
    intro x6 mw hx hev
    refine pk_loop (fun n i (mw : Ar) => vX4_spreads_L103 (nI c) mpar f mhel mclo msha (nI v) (nI t) (nI m) (nI sum) (nI way) x6 Q n (nI i) mw) (fun i mw => ∀ j, j < i → mw j = nI (wf f F v m way j)) c 0 mw (by omega) (fun _ z => absurd z (Nat.not_lt_zero _)) (fun n mw e => ?_) (fun n i mw hi e ih => ?_)
    · exact And.intro (fun _ => j162 mw e) (fun c => absurd (Int32.le_refl _) c)
    · refine And.intro (fun q => absurd q (nI_ge (b := c) hi (by omega))) (fun _ => ?_)
      have put : ∀ w, w = nI (wf f F v m way i) → vp_in (nI i) 12 ∧ vX4_spreads_L103 (nI c) mpar f mhel mclo msha (nI v) (nI t) (nI m) (nI sum) (nI way) x6 Q n (nI i + 1) (upd mw (nI i).toNatClampNeg w) := by
        intro w hw
        rw [nI_clamp (n := i) (by omega), nI_1]
        refine ⟨vp_in_nI (by omega) (by omega), ih _ (fun j hj => ?_)⟩
        by_cases z : j = i
        · subst z
          rw [pk_us, hw]
        · rw [pk_un z]
          exact e j (by omega)
      have j123 : vX4_spreads_J123 (nI c) mpar f mhel mclo mw msha (nI v) (nI t) (nI m) (nI sum) (nI way) x6 (nI i) (vX4_spreads_L103 (nI c) mpar f mhel mclo msha (nI v) (nI t) (nI m) (nI sum) (nI way) x6 Q n) Q := by
        refine m_isLeafOf R hi ht ?_
        cases hb : lf p c t i
        · exact i0 (put 0 (by rw [wf_out (hFn hb)]; rfl))
        · refine i1 (hfree (by omega) hb ?_)
          cases hb2 : F i
          · exact i0 (put 0 (by rw [wf_out hb2]; rfl))
          · refine i1 (put 1 ?_)
            unfold wf
            rw [hb2, hev]
            rfl
      refine ⟨fun _ => j123, fun z => ⟨fun w => ?_, fun _ => j123⟩⟩
      rcases hx with hx | hx
      · exact absurd z hx
      · exact absurd (by rw [hx]; rfl) w
  obtain ⟨w0, hw0⟩ : ∃ w0 : Nat → Nat, w0 = fun k => if F k = true then cn f v m k else 0 := ⟨_, rfl⟩
  have c0 : ns w0 10 = ns w0 c := by
    obtain ⟨d, hd⟩ : ∃ d, 10 = c + d := ⟨10 - c, by omega⟩
    rw [hd]
    exact ns_ge d (fun j h1 _ => by rw [hw0]; dsimp only; rw [hFo j h1]; rfl)
  have hev : evn f F v m way = (decide (way = 1) || decide (ns w0 c = 0)) := by
    rw [← c0, hw0]
    rfl
  refine pk_loop (fun n i (s : Int32 × Ar) => vX4_spreads_L6 (nI c) mpar f mhel mclo msha (nI v) (nI t) (nI m) (nI sum) (nI way) Q n s.1 (nI i) s.2) (fun i s => s.1 = bi (decide (ns w0 i = 0)) ∧ ∀ j, j < i → s.2 j = nI (w0 j)) c 0 (1, mwei) (by omega) ⟨rfl, fun _ z => absurd z (Nat.not_lt_zero _)⟩ (fun n s e => ?_) (fun n i s hi e ih => ?_)
  · obtain ⟨x6, mw⟩ := s
    obtain ⟨e1, e2⟩ := e
    dsimp only at e1 e2 ⊢
    refine And.intro (fun _ => ?_) (fun c => absurd (Int32.le_refl _) c)
    cases ev : evn f F v m way
    · rw [ev] at hev
      have hev := Bool.or_eq_false_iff.mp hev.symm
      refine ⟨1, ?_⟩
      have j := j162 mw (fun j hj => by
        rw [e2 j hj, hw0]
        unfold wf
        rw [ev]
        rfl)
      rw [e1, hev.2]
      refine And.intro (fun _ => j) (fun _ => ⟨fun z => absurd rfl z, fun _ => ⟨fun _ => j, fun z => ?_⟩⟩)
      have := (nI_eq (b := 1) (by omega) (by omega)).mp z
      exact absurd this (of_decide_eq_false hev.1)
    · refine all x6 mw ?_ ev
      rw [ev] at hev
      by_cases w1 : way = 1
      · exact Or.inr w1
      · left
        rw [decide_eq_false w1, Bool.false_or] at hev
        rw [e1, ← hev]
        decide
  · obtain ⟨x6, mw⟩ := s
    obtain ⟨e1, e2⟩ := e
    dsimp only at e1 e2 ih ⊢
    refine And.intro (fun q => absurd q (nI_ge (b := c) hi (by omega))) (fun _ => ?_)
    have key : ∀ w, w = nI (w0 i) → vX4_spreads_J71 (nI c) mpar f mhel mclo mw msha (nI v) (nI t) (nI m) (nI sum) (nI way) x6 (nI i) w (nI i) (vX4_spreads_L6 (nI c) mpar f mhel mclo msha (nI v) (nI t) (nI m) (nI sum) (nI way) Q n) Q := by
      intro w hw
      have wb : w0 i < 2 ^ 31 := by
        rw [hw0]
        dsimp only
        have := (cn_eq A hv (k := i) (by omega) hm).2
        split <;> omega
      have st : ∀ j, j < i + 1 → upd mw i w j = nI (w0 j) := by
        intro j hj
        by_cases z : j = i
        · subst z
          rw [pk_us, hw]
        · rw [pk_un z]
          exact e2 j (by omega)
      unfold vX4_spreads_J71
      rw [nI_clamp (n := i) (by omega), nI_1, pk_us]
      have i12 : vp_in (nI i) 12 := vp_in_nI (by omega) (by omega)
      refine ⟨i12, fun z => ih (_, _) ⟨?_, st⟩, fun z => ⟨i12, fun y => ih (_, _) ⟨?_, st⟩, fun y => ih (_, _) ⟨?_, st⟩⟩⟩
      · show 0 = bi _
        rw [e1] at z
        rw [ns_zero, bi0.mp z]
        rfl
      · show 0 = bi _
        have : w0 i ≠ 0 := fun a => y (by rw [hw, a]; rfl)
        rw [ns_zero, decide_eq_false this, Bool.and_false]
        rfl
      · show 1 = bi _
        rw [hw] at y
        have y := (nI_eq (b := 0) wb (by omega)).mp y
        have x : decide (ns w0 i = 0) = true := by
          cases a : decide (ns w0 i = 0)
          · rw [e1, a] at z
            exact absurd rfl z
          · rfl
        rw [ns_zero, x, decide_eq_true y]
        rfl
    have k0 : F i = false → vX4_spreads_J40 (nI c) mpar f mhel mclo mw msha (nI v) (nI t) (nI m) (nI sum) (nI way) x6 (nI i) (vX4_spreads_L6 (nI c) mpar f mhel mclo msha (nI v) (nI t) (nI m) (nI sum) (nI way) Q n) Q := by
      intro hb
      exact i0 (key 0 (by rw [hw0]; dsimp only; rw [hb]; rfl))
    refine m_isLeafOf R hi ht ?_
    cases hb : lf p c t i
    · exact i0 (k0 (hFn hb))
    · refine i1 (hfree (by omega) hb ?_)
      cases hb2 : F i
      · exact i0 (k0 hb2)
      · refine i1 (i1 (m_at (a := 2) (m_rd (Q := fun w => vX4_spreads_J71 (nI c) mpar f mhel mclo mw msha (nI v) (nI t) (nI m) (nI sum) (nI way) x6 (nI i) w (nI i) (vX4_spreads_L6 (nI c) mpar f mhel mclo msha (nI v) (nI t) (nI m) (nI sum) (nI way) Q n) Q) (by omega) (by omega) (key _ ?_))))
        rw [hw0]
        dsimp only
        rw [hb2]
        exact (cn_eq A hv (by omega) hm).1
end MSPREAD
