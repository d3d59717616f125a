/-! after a spread -/
def RZ (c : Nat) (f : Ar) : Prop := ∀ v k m, v < 3 → c ≤ k → k < 10 → m < 12 → f (v * 360 + k * 36 + 2 * 12 + m) = 0
theorem spF_keep {f : Ar} {F : Nat → Bool} {v m : Nat} {sh : Nat → Nat} {j : Nat} : ∀ {n : Nat}, (∀ k, k < n → F k = true → j ≠ v * 360 + k * 36 + 2 * 12 + m) → spF f F v m sh n j = f j
  | 0, _ => rfl
  | n + 1, e => by
    show (if F n = true then upd (spF f F v m sh n) (v * 360 + n * 36 + 2 * 12 + m) (nI (sh n)) else spF f F v m sh n) j = f j
    have ih := spF_keep (f := f) (F := F) (sh := sh) (n := n) (fun k hk => e k (by omega))
    by_cases z : F n = true
    · rw [if_pos z, pk_un (e n (by omega) z)]
      exact ih
    · rw [if_neg z]
      exact ih
theorem spF_at {f : Ar} {F : Nat → Bool} {v m k : Nat} {sh : Nat → Nat} : ∀ {n : Nat}, k < n → spF f F v m sh n (v * 360 + k * 36 + 2 * 12 + m) = if F k = true then nI (sh k) else f (v * 360 + k * 36 + 2 * 12 + m)
  | 0, h => absurd h (Nat.not_lt_zero _)
  | n + 1, h => by
    show (if F n = true then upd (spF f F v m sh n) (v * 360 + n * 36 + 2 * 12 + m) (nI (sh n)) else spF f F v m sh n) (v * 360 + k * 36 + 2 * 12 + m) = _
    by_cases e : k = n
    · subst e
      by_cases z : F k = true
      · rw [if_pos z, if_pos z, pk_us]
      · rw [if_neg z, if_neg z]
        exact spF_far (fun k' hk' => by omega)
    · have ih := spF_at (f := f) (F := F) (v := v) (m := m) (k := k) (sh := sh) (n := n) (by omega)
      by_cases z : F n = true
      · rw [if_pos z, pk_un (by omega)]
        exact ih
      · rw [if_neg z]
        exact ih
theorem spC_0 {f : Ar} {F : Nat → Bool} {v m : Nat} {sh : Nat → Nat} : ∀ {n : Nat}, (∀ k, k < n → F k = true → f (v * 360 + k * 36 + 2 * 12 + m) = nI (sh k)) → spC f F v m sh n = 0
  | 0, _ => rfl
  | n + 1, e => by
    show (if F n = true then spC f F v m sh n + (if nI (sh n) = spF f F v m sh n (v * 360 + n * 36 + 2 * 12 + m) then 0 else 1) else spC f F v m sh n) = 0
    have ih := spC_0 (f := f) (F := F) (v := v) (m := m) (sh := sh) (n := n) (fun k hk => e k (by omega))
    by_cases z : F n = true
    · have h1 : spF f F v m sh n (v * 360 + n * 36 + 2 * 12 + m) = f (v * 360 + n * 36 + 2 * 12 + m) := spF_far (fun k' hk' => by omega)
      rw [if_pos z, ih, h1, e n (by omega) z, if_pos rfl, Int32.add_zero]
    · rw [if_neg z]
      exact ih
theorem spC_le {f : Ar} {F : Nat → Bool} {v m : Nat} {sh : Nat → Nat} : ∀ (n : Nat), ∃ r, r ≤ n ∧ spC f F v m sh n = nI r
  | 0 => ⟨0, Nat.le_refl _, rfl⟩
  | n + 1 => by
    obtain ⟨r, h1, h2⟩ := spC_le (f := f) (F := F) (v := v) (m := m) (sh := sh) n
    have e : spC f F v m sh (n + 1) = (if F n = true then spC f F v m sh n + (if nI (sh n) = spF f F v m sh n (v * 360 + n * 36 + 2 * 12 + m) then 0 else 1) else spC f F v m sh n) := rfl
    by_cases z : F n = true
    · rw [if_pos z] at e
      by_cases z2 : nI (sh n) = spF f F v m sh n (v * 360 + n * 36 + 2 * 12 + m)
      · rw [if_pos z2, h2, Int32.add_zero] at e
        exact ⟨r, by omega, e⟩
      · rw [if_neg z2, h2, nI_1] at e
        exact ⟨r + 1, by omega, e⟩
    · rw [if_neg z, h2] at e
      exact ⟨r, by omega, e⟩
section AFTERS
variable {c : Nat} {p : Nat → Nat} {h cl : Nat → Nat → Bool} {f : Ar} {L : Nat → Bool} {v m sum way : Nat}
theorem Fr_L {k : Nat} (z : Fr L h cl v m k = true) : L k = true := by
  unfold Fr at z
  rw [Bool.and_eq_true, Bool.and_eq_true] at z
  exact z.1.1
theorem Fr_no {k : Nat} (z : L k = false) : Fr L h cl v m k = false := by
  unfold Fr
  rw [z]
  rfl
theorem shq_out {F : Nat → Bool} {k : Nat} (z : F k = false) : shq f L F v m sum way k = 0 := shr_out (wf_out z)
theorem cn_after {F : Nat → Bool} {k : Nat} (hs : sum ≤ 1000001) (hk : k < 10) : cn (sR f L F v m sum way) v m k = if F k = true then shq f L F v m sum way k else cn f v m k := by
  unfold cn sR
  rw [spF_at hk]
  by_cases z : F k = true
  · rw [if_pos z, if_pos z, nI_clamp]
    have := shq_le (f := f) (L := L) (F := F) (v := v) (m := m) (sum := sum) (way := way) (k := k) hs (by omega)
    omega
  · rw [if_neg z, if_neg z]
theorem hsum_after {F : Nat → Bool} (hs : sum ≤ 1000001) : hsum (sR f L F v m sum way) L F v m = hsum f L F v m := by
  refine ns_ext (fun k hk => ?_)
  show (if (L k && !F k) = true then cn (sR f L F v m sum way) v m k else 0) = (if (L k && !F k) = true then cn f v m k else 0)
  by_cases z : (L k && !F k) = true
  · rw [if_pos z, if_pos z, cn_after hs hk, if_neg]
    intro q
    rw [q] at z
    simp at z
  · rw [if_neg z, if_neg z]
theorem shq_12 {F : Nat → Bool} (hF : ∀ k, 10 ≤ k → F k = false) : ns (shq f L F v m sum way) 12 = ns (shq f L F v m sum way) 10 := by
  show ns (shq f L F v m sum way) 10 + shq f L F v m sum way 10 + shq f L F v m sum way 11 = _
  rw [shq_out (hF 10 (by omega)), shq_out (hF 11 (by omega)), Nat.add_zero]
theorem shq_sum (hs : sum ≤ 1000001) (hL : ∀ k, 10 ≤ k → L k = false) (K : can f L (Fr L h cl v m) v m sum) : ns (shq f L (Fr L h cl v m) v m sum way) 10 = sum - hsum f L (Fr L h cl v m) v m := by
  rw [← shq_12 (fun k hk => Fr_no (hL k hk))]
  exact ns_shr (by omega) (wf_pos K) rfl
theorem after_sum (hs : sum ≤ 1000001) (hL : ∀ k, 10 ≤ k → L k = false) (K : can f L (Fr L h cl v m) v m sum) : ns (fun k => if L k = true then cn (sR f L (Fr L h cl v m) v m sum way) v m k else 0) 10 = sum := by
  have e : ns (fun k => if L k = true then cn (sR f L (Fr L h cl v m) v m sum way) v m k else 0) 10 = ns (fun k => (if (L k && !Fr L h cl v m k) = true then cn f v m k else 0) + shq f L (Fr L h cl v m) v m sum way k) 10 := by
    refine ns_ext (fun k hk => ?_)
    show (if L k = true then cn (sR f L (Fr L h cl v m) v m sum way) v m k else 0) = (if (L k && !Fr L h cl v m k) = true then cn f v m k else 0) + shq f L (Fr L h cl v m) v m sum way k
    rw [cn_after hs hk]
    cases z : Fr L h cl v m k
    · rw [shq_out z]
      cases L k <;> simp
    · rw [Fr_L z]
      simp
  rw [e, ns_add, shq_sum hs hL K]
  have := K.2
  unfold hsum at this ⊢
  omega
theorem can_again (hs : sum ≤ 1000001) (K : can f L (Fr L h cl v m) v m sum) : can (sR f L (Fr L h cl v m) v m sum way) L (Fr L h cl v m) v m sum := ⟨K.1, by rw [hsum_after hs]; exact K.2⟩
theorem shq_again {k : Nat} (hs : sum ≤ 1000001) (hL : ∀ k, 10 ≤ k → L k = false) (K : can f L (Fr L h cl v m) v m sum) (hk : k < 10) : shq (sR f L (Fr L h cl v m) v m sum way) L (Fr L h cl v m) v m sum 0 k = shq f L (Fr L h cl v m) v m sum way k := by
  obtain ⟨F, hFe⟩ : ∃ F, F = Fr L h cl v m := ⟨_, rfl⟩
  have hF : ∀ k, 10 ≤ k → F k = false := fun k hk => by rw [hFe]; exact Fr_no (hL k hk)
  have hsm := shq_sum (way := way) hs hL K
  have hha := hsum_after (f := f) (L := L) (F := F) (v := v) (m := m) (way := way) hs
  rw [← hFe] at hsm ⊢
  obtain ⟨s, hse⟩ : ∃ s, s = shq f L F v m sum way := ⟨_, rfl⟩
  obtain ⟨g, hge⟩ : ∃ g, g = sR f L F v m sum way := ⟨_, rfl⟩
  have hcn : ∀ k, k < 10 → cn g v m k = if F k = true then s k else cn f v m k := fun k hk => by rw [hge, hse]; exact cn_after hs hk
  have hout : ∀ k, F k = false → s k = 0 := fun k z => by rw [hse]; exact shq_out z
  rw [← hse] at hsm ⊢
  rw [← hge] at hha ⊢
  unfold shq
  rw [hha]
  obtain ⟨am, hame⟩ : ∃ am, am = sum - hsum f L F v m := ⟨_, rfl⟩
  rw [← hame] at hsm ⊢
  rcases Nat.eq_zero_or_pos am with z | z
  · subst z
    rw [shr_zero (by omega)]
    have := ns_in (w := s) hk
    omega
  · have e1 : ns (fun k => if F k = true then cn g v m k else 0) 10 = am := by
      rw [← hsm]
      refine ns_ext (fun k hk => ?_)
      show (if F k = true then cn g v m k else 0) = s k
      cases q : F k
      · rw [hout k q]
        rfl
      · rw [if_pos rfl, hcn k hk, q, if_pos rfl]
    have e2 : evn g F v m 0 = false := by
      unfold evn
      rw [e1, decide_eq_false (by omega), decide_eq_false (by omega)]
      rfl
    have e3 : wf g F v m 0 = s := by
      funext k
      unfold wf
      rw [e2]
      cases q : F k
      · rw [hout k q]
        rfl
      · have hk : k < 10 := by
          rcases Nat.lt_or_ge k 10 with w | w
          · exact w
          · rw [hF k w] at q
            cases q
        rw [if_pos rfl, hcn k hk, q, if_pos rfl]
        rfl
    have e4 : ns s 12 = am := by
      show ns s 10 + s 10 + s 11 = am
      rw [hout 10 (hF 10 (by omega)), hout 11 (hF 11 (by omega)), hsm, Nat.add_zero]
    rw [e3, e4]
    exact shr_same z e4 (by omega)
theorem sK_again (hs : sum ≤ 1000001) (hL : ∀ k, 10 ≤ k → L k = false) (K : can f L (Fr L h cl v m) v m sum) : sK (sR f L (Fr L h cl v m) v m sum way) L (Fr L h cl v m) v m sum 0 = 0 := by
  refine spC_0 (fun k hk z => ?_)
  rw [shq_again hs hL K hk]
  unfold sR
  rw [spF_at hk, if_pos z]
theorem sR_RB {F : Nat → Bool} (B : RB f) (hv : v < 3) (hm : m < 12) : RB (sR f L F v m sum way) := by
  intro v' k' m' hv' hk' hm'
  unfold sR
  rw [spF_keep (fun k hk _ => by omega), spF_keep (fun k hk _ => by omega)]
  exact B v' k' m' hv' hk' hm'
theorem sR_RZ (Z : RZ c f) (hL : ∀ k, c ≤ k → L k = false) (hv : v < 3) (hm : m < 12) : RZ c (sR f L (Fr L h cl v m) v m sum way) := by
  intro v' k' m' hv' hc' hk' hm'
  unfold sR
  rw [spF_keep (fun k hk z => ?_)]
  · exact Z v' k' m' hv' hc' hk' hm'
  · have : k < c := by
      rcases Nat.lt_or_ge k c with w | w
      · exact w
      · rw [Fr_no (hL k w)] at z
        cases z
    omega
/-! .. of a year -/
variable {g : Nat → Nat}
theorem yF_late {k : Nat} (hm : m < 12) (hk : k < 10) : ∀ {i : Nat}, m < i → i ≤ 12 → yF f L h cl v g i (v * 360 + k * 36 + 2 * 12 + m) = yF f L h cl v g (m + 1) (v * 360 + k * 36 + 2 * 12 + m)
  | 0, h1, _ => absurd h1 (Nat.not_lt_zero _)
  | i + 1, h1, h2 => by
    by_cases e : i = m
    · rw [e]
    · have ih := yF_late (k := k) hm hk (i := i) (by omega) (by omega)
      rw [← ih]
      show spF (yF f L h cl v g i) _ v i _ 10 _ = _
      exact spF_far (fun k' hk' => by omega)
theorem year_sum (hm : m < 12) (hg : ∀ j, j < 12 → g j ≤ 1000001) (hL : ∀ k, 10 ≤ k → L k = false) (K : canY f L h cl v g) : ns (fun k => if L k = true then cn (yF f L h cl v g 12) v m k else 0) 10 = g m := by
  have e : ns (fun k => if L k = true then cn (yF f L h cl v g 12) v m k else 0) 10 = ns (fun k => if L k = true then cn (sR (yF f L h cl v g m) L (Fr L h cl v m) v m (g m) 0) v m k else 0) 10 := by
    refine ns_ext (fun k hk => ?_)
    have : cn (yF f L h cl v g 12) v m k = cn (sR (yF f L h cl v g m) L (Fr L h cl v m) v m (g m) 0) v m k := by
      unfold cn
      rw [yF_late hm hk hm (Nat.le_refl _)]
      rfl
    show (if L k = true then cn (yF f L h cl v g 12) v m k else 0) = _
    rw [this]
  rw [e]
  exact after_sum (hg m hm) hL (can_far hm (K m hm))
theorem yC_le : ∀ (i : Nat), ∃ r, r ≤ 10 * i ∧ yC f L h cl v g i = nI r
  | 0 => ⟨0, Nat.le_refl _, rfl⟩
  | i + 1 => by
    obtain ⟨r, h1, h2⟩ := yC_le i
    obtain ⟨q, h3, h4⟩ := spC_le (f := yF f L h cl v g i) (F := Fr L h cl v i) (v := v) (m := i) (sh := shq (yF f L h cl v g i) L (Fr L h cl v i) v i (g i) 0) 10
    refine ⟨r + q, by omega, ?_⟩
    show yC f L h cl v g i + spC _ _ _ _ _ 10 = _
    rw [h2, h4, nI_add]
theorem yF_RB (B : RB f) (hv : v < 3) : ∀ {i : Nat}, i ≤ 12 → RB (yF f L h cl v g i)
  | 0, _ => B
  | i + 1, hi => sR_RB (yF_RB B hv (i := i) (by omega)) hv (by omega)
theorem yF_RZ (Z : RZ c f) (hL : ∀ k, c ≤ k → L k = false) (hv : v < 3) : ∀ {i : Nat}, i ≤ 12 → RZ c (yF f L h cl v g i)
  | 0, _ => Z
  | i + 1, hi => sR_RZ (yF_RZ Z hL hv (i := i) (by omega)) hL hv (by omega)
end AFTERS
