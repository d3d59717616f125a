/-! spreading -/
def Fr (L : Nat → Bool) (h cl : Nat → Nat → Bool) (v m : Nat) : Nat → Bool := fun k => (L k && !h m k) && !cl v k
def cn (f : Ar) (v m k : Nat) : Nat := (f (v * 360 + k * 36 + 2 * 12 + m)).toNatClampNeg
theorem cn_eq {f : Ar} {v m k : Nat} (A : RA f) (hv : v < 3) (hk : k < 10) (hm : m < 12) : f (v * 360 + k * 36 + 2 * 12 + m) = nI (cn f v m k) ∧ cn f v m k ≤ 2000000 := by
  obtain ⟨a, h1, h2⟩ := A v k m hv hk hm
  unfold cn
  rw [h2, nI_clamp (by omega)]
  exact ⟨rfl, h1⟩
theorem vl2 {f : Ar} {v k m : Nat} : vl f v k 2 m = f (v * 360 + k * 36 + 2 * 12 + m) := by
  unfold vl
  rw [if_neg (by omega)]
theorem sm_ns {g : Nat → Int32} {w : Nat → Nat} : ∀ {n : Nat}, (∀ j, j < n → g j = nI (w j)) → sm g n = nI (ns w n)
  | 0, _ => rfl
  | n + 1, e => by
    show sm g n + g n = nI (ns w n + w n)
    rw [sm_ns (fun j hj => e j (by omega)), e n (by omega), nI_add]
def hsum (f : Ar) (L F : Nat → Bool) (v m : Nat) : Nat := ns (fun k => if (L k && !F k) = true then cn f v m k else 0) 10
theorem sm_cost {f : Ar} {S : Nat → Bool} {v m n : Nat} (A : RA f) (hv : v < 3) (hm : m < 12) (hn : n ≤ 10) : sm (fun k => if S k = true then vl f v k 2 m else 0) n = nI (ns (fun k => if S k = true then cn f v m k else 0) n) :=
  sm_ns (fun k hk => by
    rw [vl2, (cn_eq A hv (by omega) hm).1]
    cases S k <;> rfl)
theorem ns_cost {f : Ar} {S : Nat → Bool} {v m n : Nat} (A : RA f) (hv : v < 3) (hm : m < 12) (hn : n ≤ 10) : ns (fun k => if S k = true then cn f v m k else 0) n ≤ 20000000 := by
  have h1 := ns_le (w := fun k => if S k = true then cn f v m k else 0) (B := 2000000) (n := n) (fun j hj => by
    have := (cn_eq A hv (k := j) (by omega) hm).2
    split <;> omega)
  have h2 := Nat.mul_le_mul_right 2000000 hn
  omega
/-- it can be spread -/
def can (f : Ar) (L F : Nat → Bool) (v m sum : Nat) : Prop := orb F 10 = true ∧ hsum f L F v m ≤ sum
def evn (f : Ar) (F : Nat → Bool) (v m way : Nat) : Bool := decide (way = 1) || decide (ns (fun k => if F k = true then cn f v m k else 0) 10 = 0)
def wf (f : Ar) (F : Nat → Bool) (v m way k : Nat) : Nat := if F k = true then (if evn f F v m way = true then 1 else cn f v m k) else 0
def shq (f : Ar) (L F : Nat → Bool) (v m sum way k : Nat) : Nat := shr (sum - hsum f L F v m) (ns (wf f F v m way) 12) (wf f F v m way) (lf0 (qs (sum - hsum f L F v m) (ns (wf f F v m way) 12) (wf f F v m way)) (sum - hsum f L F v m) 12) k
def spF (f : Ar) (F : Nat → Bool) (v m : Nat) (sh : Nat → Nat) : Nat → Ar
  | 0 => f
  | n + 1 => if F n = true then upd (spF f F v m sh n) (v * 360 + n * 36 + 2 * 12 + m) (nI (sh n)) else spF f F v m sh n
def spC (f : Ar) (F : Nat → Bool) (v m : Nat) (sh : Nat → Nat) : Nat → Int32
  | 0 => 0
  | n + 1 => if F n = true then spC f F v m sh n + (if nI (sh n) = spF f F v m sh n (v * 360 + n * 36 + 2 * 12 + m) then 0 else 1) else spC f F v m sh n
theorem sp_cut {f : Ar} {F : Nat → Bool} {v m c : Nat} {sh : Nat → Nat} : ∀ (d : Nat), (∀ k, c ≤ k → F k = false) → spF f F v m sh (c + d) = spF f F v m sh c ∧ spC f F v m sh (c + d) = spC f F v m sh c
  | 0, _ => ⟨rfl, rfl⟩
  | d + 1, e => by
    have h1 := e (c + d) (by omega)
    have h2 := sp_cut (f := f) (v := v) (m := m) (sh := sh) d e
    constructor
    · show (if F (c + d) = true then _ else spF f F v m sh (c + d)) = _
      rw [h1]
      exact h2.1
    · show (if F (c + d) = true then _ else spC f F v m sh (c + d)) = _
      rw [h1]
      exact h2.2
theorem spF_RA {f : Ar} {F : Nat → Bool} {v m : Nat} {sh : Nat → Nat} (A : RA f) (hs : ∀ k, k < 10 → sh k ≤ 2000000) : ∀ {n : Nat}, n ≤ 10 → RA (spF f F v m sh n)
  | 0, _ => A
  | n + 1, hn => by
    show RA (if F n = true then _ else _)
    have ih := spF_RA (F := F) (v := v) (m := m) A hs (n := n) (by omega)
    split
    · exact ih.put (hs n (by omega))
    · exact ih
theorem spF_far {f : Ar} {F : Nat → Bool} {v m : Nat} {sh : Nat → Nat} {j : Nat} : ∀ {n : Nat}, (∀ k, k < n → j ≠ v * 360 + k * 36 + 2 * 12 + m) → spF f F v m sh n j = f j
  | 0, _ => rfl
  | n + 1, e => by
    show (if F n = true then upd (spF f F v m sh n) (v * 360 + n * 36 + 2 * 12 + m) (nI (sh n)) else spF f F v m sh n) j = f j
    have ih := spF_far (f := f) (F := F) (sh := sh) (n := n) (fun k hk => e k (by omega))
    split
    · rw [pk_un (e n (by omega))]
      exact ih
    · exact ih
section SPREAD
variable {c : Nat} {p : Nat → Nat} {cnt pwc pl : Int32} {par mpar : Ar} {h cl : Nat → Nat → Bool} {held mhel clos mclo : Ar} {f : Ar} {t v m : Nat}
theorem s_free {x : Int32} {L : Nat → Bool} {Q : Int32 → Prop} (H : RH h held mhel) (C : RC c p cl clos mclo) (hv : v < 3) (hm : m < 12) (hx : Bs x L) (q : ∀ y, Bs y (Fr L h cl v m) → Q y) : vX3_freeAmong held clos x (nI v) (nI m) Q := by
  unfold vX3_freeAmong
  rw [nI_clamp (by omega), nI_clamp (by omega)]
  exact ⟨vp_in_nI (by omega) (by omega), vp_in_nI (by omega) (by omega), q _ ((hx.andn (H m hm).1).andn (C v hv).1)⟩
theorem s_rest {x : Int32} {L : Nat → Bool} {sum : Nat} {Q : Int32 → Prop} (H : RH h held mhel) (C : RC c p cl clos mclo) (A : RA f) (hv : v < 3) (hm : m < 12) (hx : Bs x L) (q : Q (nI sum - nI (hsum f L (Fr L h cl v m) v m))) : vX3_restOf f held clos (nI sum) (nI v) x (nI m) Q := by
  refine s_free H C hv hm hx (fun y hy => ?_)
  refine s_sumOver (a := 2) (by omega) (by omega) hm (hx.andn hy) ?_
  rw [sm_cost (S := fun k => L k && !Fr L h cl v m k) A hv hm (Nat.le_refl _)]
  exact q
theorem rest_pos {L F : Nat → Bool} {sum : Nat} (A : RA f) (hv : v < 3) (hm : m < 12) (hs : sum ≤ 1000001) : (hsum f L F v m ≤ sum → nI sum - nI (hsum f L F v m) = nI (sum - hsum f L F v m)) ∧ (¬ hsum f L F v m ≤ sum → nI sum - nI (hsum f L F v m) < 0) := by
  have hb : hsum f L F v m ≤ 20000000 := ns_cost (S := fun k => L k && !F k) A hv hm (Nat.le_refl _)
  exact ⟨fun z => pk_sub z, fun z => pk_sneg (by omega) (by omega)⟩
theorem Fr_0 {L : Nat → Bool} {y : Int32} (hy : Bs y (Fr L h cl v m)) : y = 0 ↔ ¬ orb (Fr L h cl v m) 10 = true := by
  rw [hy.eq0, ← orb_f, Bool.not_eq_true]
theorem v_spr {x : Int32} {L : Nat → Bool} {sum : Nat} {Q : Prop} (H : RH h held mhel) (C : RC c p cl clos mclo) (A : RA f) (hv : v < 3) (hm : m < 12) (hs : sum ≤ 1000001) (hx : Bs x L) (k : can f L (Fr L h cl v m) v m sum) (q : Q) : vX3_checkSpreadable f held clos (nI v) x (nI m) (nI sum) Q := by
  refine s_free H C hv hm hx (fun y hy => ⟨fun _ => s_rest H C A hv hm hx ?_, fun z => absurd k.1 ((Fr_0 hy).mp z)⟩)
  rw [(rest_pos A hv hm hs).1 k.2]
  exact ⟨fun _ => q, fun z => absurd (nI_pos' (by omega)) z⟩
theorem z_spr {x : Int32} {L : Nat → Bool} {sum : Nat} {X : String → Prop} (H : RH h held mhel) (C : RC c p cl clos mclo) (A : RA f) (hv : v < 3) (hm : m < 12) (hs : sum ≤ 1000001) (hx : Bs x L) (k : ¬ can f L (Fr L h cl v m) v m sum) (q : X eIS) : zX3_checkSpreadable f held clos (nI v) x (nI m) (nI sum) X := by
  refine s_free H C hv hm hx (fun y hy => ⟨fun z => s_rest H C A hv hm hx ⟨fun w => ?_, fun _ => q⟩, fun _ => q⟩)
  have z1 : orb (Fr L h cl v m) 10 = true := by
    cases o : orb (Fr L h cl v m) 10
    · exact absurd ((Fr_0 hy).mpr (by rw [o]; decide)) z
    · rfl
  have z2 : ¬ hsum f L (Fr L h cl v m) v m ≤ sum := fun w => k ⟨z1, w⟩
  exact absurd ((rest_pos A hv hm hs).2 z2) (ge_nlt w)
theorem wf_le {F : Nat → Bool} {way k : Nat} (A : RA f) (hv : v < 3) (hm : m < 12) (hk : k < 10) : wf f F v m way k ≤ 2000000 := by
  have := (cn_eq A hv hk hm).2
  unfold wf
  split
  · split <;> omega
  · omega
theorem wf_out {F : Nat → Bool} {way k : Nat} (e : F k = false) : wf f F v m way k = 0 := by
  unfold wf
  rw [e]
  rfl
theorem wf_sum {F : Nat → Bool} {way n : Nat} (hn : n ≤ 12) (hF : ∀ k, n ≤ k → F k = false) : ns (wf f F v m way) 12 = ns (wf f F v m way) n := by
  obtain ⟨d, hd⟩ : ∃ d, 12 = n + d := ⟨12 - n, by omega⟩
  rw [hd]
  exact ns_ge d (fun j h1 _ => wf_out (hF j h1))
theorem wf_pos {L : Nat → Bool} {way sum : Nat} (k : can f L (Fr L h cl v m) v m sum) : 0 < ns (wf f (Fr L h cl v m) v m way) 12 := by
  have e : ns (wf f (Fr L h cl v m) v m way) 10 ≤ ns (wf f (Fr L h cl v m) v m way) 12 := by
    show _ ≤ ns (wf f (Fr L h cl v m) v m way) 10 + _ + _
    omega
  refine Nat.lt_of_lt_of_le ?_ e
  cases ev : evn f (Fr L h cl v m) v m way
  · have e2 : ns (wf f (Fr L h cl v m) v m way) 10 = ns (fun k => if Fr L h cl v m k = true then cn f v m k else 0) 10 := by
      congr 1
      funext k
      unfold wf
      rw [ev]
      rfl
    rw [e2]
    unfold evn at ev
    rw [Bool.or_eq_false_iff] at ev
    have := of_decide_eq_false ev.2
    omega
  · have : ∃ i, i < 10 ∧ Fr L h cl v m i = true := by
      have h1 := k.1
      apply Classical.byContradiction
      intro no
      have : orb (Fr L h cl v m) 10 = false := orb_f.mpr (fun i hi => by
        cases z : Fr L h cl v m i
        · rfl
        · exact absurd ⟨i, hi, z⟩ no)
      rw [this] at h1
      cases h1
    obtain ⟨i, hi, hF⟩ := this
    have h1 := ns_in (w := wf f (Fr L h cl v m) v m way) hi
    have h2 : wf f (Fr L h cl v m) v m way i = 1 := by
      unfold wf
      rw [hF, ev]
      rfl
    omega
theorem shq_le {L F : Nat → Bool} {sum way k : Nat} (hs : sum ≤ 1000001) (hk : k < 12) : shq f L F v m sum way k ≤ 2000000 := by
  have h1 := shr_le (am := sum - hsum f L F v m) (T := ns (wf f F v m way) 12) (w := wf f F v m way) (L0 := lf0 (qs (sum - hsum f L F v m) (ns (wf f F v m way) 12) (wf f F v m way)) (sum - hsum f L F v m) 12) (k := k) (ns_in hk)
  unfold shq
  omega
/-- what a spread makes of the cells, and its count -/
def sR (f : Ar) (L F : Nat → Bool) (v m sum way : Nat) : Ar := spF f F v m (shq f L F v m sum way) 10
def sK (f : Ar) (L F : Nat → Bool) (v m sum way : Nat) : Int32 := spC f F v m (shq f L F v m sum way) 10
theorem sR_RA {L F : Nat → Bool} {sum way : Nat} (A : RA f) (hs : sum ≤ 1000001) : RA (sR f L F v m sum way) := spF_RA A (fun k hk => shq_le hs (by omega)) (Nat.le_refl _)
theorem s_weigh {leW : Ar} {x : Int32} {F : Nat → Bool} {way : Nat} {Q : Ar → Prop} (A : RA f) (hv : v < 3) (hm : m < 12) (hw : way < 2) (hx : Bs x F) (l10 : leW 10 = 0) (l11 : leW 11 = 0)
    (q : ∀ u : Ar, (∀ k, k < 10 → u k = nI (wf f F v m way k)) → u 10 = 0 → u 11 = 0 → Q u) : vX3_weighLeaves f leW (nI v) x (nI m) (nI way) Q := by
  have key : ∀ x5 : Int32, x5 = bi (evn f F v m way) → ∃ n, vX3_weighLeaves_L30 f (nI v) x (nI m) x5 Q n 0 leW := by
    intro x5 hx5
    refine pk_loop (fun n i (u : Ar) => vX3_weighLeaves_L30 f (nI v) x (nI m) x5 Q n (nI i) u) (fun i u => (∀ k, k < i → u k = nI (wf f F v m way k)) ∧ u 10 = 0 ∧ u 11 = 0) 10 0 leW (by omega) ⟨fun _ z => absurd z (Nat.not_lt_zero _), l10, l11⟩ (fun n u e => ?_) (fun n i u hi e ih => ?_)
    · exact And.intro (fun _ => q u e.1 e.2.1 e.2.2) (fun c => absurd (Int32.le_refl _) c)
    · refine And.intro (fun c => absurd c (nI_ge (b := 10) hi (by omega))) (fun _ => ?_)
      refine s_isIn hx hi ?_
      have nx : ∀ w, w = nI (wf f F v m way i) → vX1_weigh u (nI i) w (fun _ u80 => vX3_weighLeaves_L30 f (nI v) x (nI m) x5 Q n (nI i + 1) u80) := by
        intro w hw'
        unfold vX1_weigh
        rw [nI_clamp (by omega), nI_1]
        refine ⟨vp_in_nI (by omega) (by omega), vp_in_nI (by omega) (by omega), ih _ ⟨fun k hk => ?_, ?_, ?_⟩⟩
        · by_cases z : k = i
          · subst z
            rw [pk_us, hw']
          · rw [pk_un z]
            exact e.1 k (by omega)
        · rw [pk_un (by omega)]
          exact e.2.1
        · rw [pk_un (by omega)]
          exact e.2.2
      cases hF : F i
      · exact i0 (nx 0 (by rw [wf_out hF]; rfl))
      · refine i1 ?_
        rw [hx5]
        rw [hx5] at nx
        cases ev : evn f F v m way
        · refine i0 (s_at (a := 2) (by omega) hi (by omega) hm ?_)
          rw [ev] at nx
          refine nx _ ?_
          rw [(cn_eq A hv hi hm).1]
          unfold wf
          rw [hF, ev]
          rfl
        · rw [ev] at nx
          refine i1 (nx 1 ?_)
          unfold wf
          rw [hF, ev]
          rfl
  refine And.intro (fun z => key 1 ?_) (fun z => s_sumOver (a := 2) (by omega) (by omega) hm hx ?_)
  · have := (nI_eq (b := 1) (by omega) (by omega)).mp z
    unfold evn
    rw [decide_eq_true this]
    rfl
  · have w0 : way ≠ 1 := fun e => z (by rw [e]; rfl)
    have hb := ns_cost (S := F) A hv hm (Nat.le_refl 10)
    rw [sm_cost (S := F) A hv hm (Nat.le_refl _)]
    refine And.intro (fun y => key 0 ?_) (fun y => key 1 ?_)
    · have y : ns (fun k => if F k = true then cn f v m k else 0) 10 ≠ 0 := fun e => y (by rw [e]; rfl)
      unfold evn
      rw [decide_eq_false w0, decide_eq_false y]
      rfl
    · have y := (nI_eq (b := 0) (by omega) (by omega)).mp y
      unfold evn
      rw [decide_eq_false w0, decide_eq_true y]
      rfl
theorem s_spreadOver {leW leS : Ar} {x : Int32} {L : Nat → Bool} {sum way : Nat} {Q : Int32 → (Ar × Ar × Ar) → Prop} (H : RH h held mhel) (C : RC c p cl clos mclo) (A : RA f) (hv : v < 3) (hm : m < 12) (hs : sum ≤ 1000001) (hw : way < 2) (hx : Bs x L) (l10 : leW 10 = 0) (l11 : leW 11 = 0) (hL : ∀ k, 10 ≤ k → L k = false)
    (k : can f L (Fr L h cl v m) v m sum) (q : ∀ lw ls : Ar, lw 10 = 0 → lw 11 = 0 → Q (sK f L (Fr L h cl v m) v m sum way) (sR f L (Fr L h cl v m) v m sum way, lw, ls)) : vX3_spreadOver f held clos leW leS (nI v) x (nI m) (nI sum) (nI way) Q := by
  refine s_free H C hv hm hx (fun y hy => s_weigh A hv hm hw hy l10 l11 (fun u h1 h2 h3 => s_rest H C A hv hm hx ?_))
  rw [(rest_pos A hv hm hs).1 k.2]
  have hF : ∀ k, 10 ≤ k → Fr L h cl v m k = false := fun k hk => by unfold Fr; rw [hL k hk]; rfl
  refine s_divide (w := wf f (Fr L h cl v m) v m way) (fun j hj => ?_) (fun j hj => ?_) (by omega) (wf_pos k) (fun sh hsh => ?_)
  · rcases Nat.lt_or_ge j 10 with z | z
    · exact h1 j z
    · rw [wf_out (hF j z)]
      have : j = 10 ∨ j = 11 := by omega
      rcases this with rfl | rfl
      · exact h2
      · exact h3
  · rcases Nat.lt_or_ge j 10 with z | z
    · exact wf_le A hv hm z
    · rw [wf_out (hF j z)]
      omega
  · have hsh : ∀ j, j < 12 → sh j = nI (shq f L (Fr L h cl v m) v m sum way j) := hsh
    refine pk_loop (fun n i (s : Int32 × Ar) => vX3_spreadOver_L41 held clos u sh (nI v) (nI m) y Q n s.1 (nI i) s.2) (fun i s => s.1 = spC f (Fr L h cl v m) v m (shq f L (Fr L h cl v m) v m sum way) i ∧ s.2 = spF f (Fr L h cl v m) v m (shq f L (Fr L h cl v m) v m sum way) i) 10 0 (0, f) (by omega) ⟨rfl, rfl⟩ (fun n s e => ?_) (fun n i s hi e ih => ?_)
    · refine And.intro (fun _ => ?_) (fun c => absurd (Int32.le_refl _) c)
      rw [e.1, e.2]
      exact q u sh h2 h3
    · obtain ⟨s, g⟩ := s
      obtain ⟨e1, e2⟩ := e
      dsimp only at e1 e2 ih ⊢
      refine And.intro (fun c => absurd c (nI_ge (b := 10) hi (by omega))) (fun _ => ?_)
      refine s_isIn hy hi ?_
      rw [nI_1]
      cases hb : Fr L h cl v m i
      · refine i0 (ih (_, _) ⟨?_, ?_⟩)
        · show s = if Fr L h cl v m i = true then _ else spC f (Fr L h cl v m) v m _ i
          rw [hb]
          exact e1
        · show g = if Fr L h cl v m i = true then _ else spF f (Fr L h cl v m) v m _ i
          rw [hb]
          exact e2
      · refine i1 ?_
        unfold vX1_shareOf
        rw [nI_clamp (by omega), hsh i (by omega)]
        refine ⟨vp_in_nI (by omega) (by omega), s_put (a := 2) (by omega) hi (by omega) hm ⟨fun z => ih (_, _) ⟨?_, ?_⟩, fun z => ih (_, _) ⟨?_, ?_⟩⟩⟩
        · show s + 0 = if Fr L h cl v m i = true then _ + (if _ then 0 else 1) else _
          rw [hb, if_pos rfl, ← e1, ← e2, if_pos z]
        · show upd g _ _ = if Fr L h cl v m i = true then upd (spF f (Fr L h cl v m) v m _ i) _ _ else _
          rw [hb, if_pos rfl, ← e2]
        · show s + 1 = if Fr L h cl v m i = true then _ + (if _ then 0 else 1) else _
          rw [hb, if_pos rfl, ← e1, ← e2, if_neg z]
        · show upd g _ _ = if Fr L h cl v m i = true then upd (spF f (Fr L h cl v m) v m _ i) _ _ else _
          rw [hb, if_pos rfl, ← e2]
end SPREAD
