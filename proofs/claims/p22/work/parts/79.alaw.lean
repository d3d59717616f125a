/-! the law's loop -/
theorem RS.put2 {seW msea : Ar} {m w : Nat} (S : RS seW msea) (hw : w ≤ 100) : RS (upd seW m (nI w)) (upd seW m (nI w)) := fun j hj => by
  refine ⟨rfl, ?_⟩
  by_cases e : j = m
  · subst e
    exact ⟨w, hw, pk_us⟩
  · rw [pk_un e]
    exact (S j hj).2
set_option maxHeartbeats 1600000 in
theorem law_L (xs : Nat → Int32) (L : Nat) (hL : L ≤ 260) (T : Nat) (hT : T ≤ 50) : ∀ (n i : Nat), i + n = 51 → i ≤ T → ∀ {c : Nat} {p : Nat → Nat} {h cl : Nat → Nat → Bool} {sn : Nat} {cnt pwc : Int32} {par f held clos seW seS leW leS : Ar} {pl : Int32} {mpar mhel mclo msea : Ar},
    Sv c p h cl sn cnt pwc par f held clos seW leW pl mpar mhel mclo msea → vL_law_L68 (nI T) xs L n (nI sn) 1 (nI i) (nI sn) cnt pwc par f held clos seW seS leW leS := by
  intro n
  induction n with
  | zero =>
    intro i h1 h2
    omega
  | succ n ih =>
    intro i h1 h2 c p h cl sn cnt pwc par f held clos seW seS leW leS pl mpar mhel mclo msea st
    refine And.intro (fun _ => rfl) (fun hg => i1 ?_)
    have hi : i < T := by
      rcases Nat.lt_or_ge i T with w | w
      · exact w
      · exact absurd (nI_le w (by omega)) hg
    have N : Nx (vL_law_L68 (nI T) xs L n) (nI i + 1) := by
      intro c p h cl sn cnt pwc par f held clos seW seS leW leS pl mpar mhel mclo msea st
      rw [nI_1]
      exact ih (i + 1) (by omega) (by omega) st
    clear ih
    have st0 := st
    obtain ⟨R, H, C, A, B, Z, S, l, hs⟩ := st
    have hc10 := R.1
    refine g_cell (j := 1 + i) (nI_add 1 i) (by omega) (by omega) (fun x => ?_)
    refine g_lowA (n := 3) (by omega) (by omega) (fun v hv => g_lowA (n := 3) (by omega) (by omega) (fun u hu => g_places R (g_lowA (n := c) (by omega) (by omega) (fun t ht => g_lowA (n := 12) (by omega) (by omega) (fun m hm => g_lowA (n := 20) (by omega) (by omega) (fun so _ => ?_))))))
    refine And.intro (fun _ => And.intro (fun _ => And.intro (fun _ => And.intro (fun _ => And.intro (fun _ => And.intro (fun _ => And.intro (fun _ => ?_) (fun _ => ?_)) (fun _ => ?_)) (fun _ => ?_)) (fun _ => ?_)) (fun _ => ?_)) (fun _ => ?_)) (fun _ => ?_)
    · exact st_769 N hv hu hm ht st0
    · refine And.intro (fun _ => st_769 N hv hu hm ht st0) (fun z => ?_)
      have hne : v ≠ u := fun e => z (by rw [e])
      refine g_copy hv hu hne (fun _ => ?_) (fun hcl => ?_)
      · exact And.intro (fun _ => j969 (nI T) xs L N hv hu hm ht st0) (fun z => absurd rfl z)
      · have st1 : Sv c p h cl sn cnt pwc par (cpy f v u 360) held clos seW leW pl mpar mhel mclo msea := ⟨R, H, C, A.copied hv hu, B.copied hv hu, Z.copied hv hu, S, l, hs⟩
        refine And.intro (fun _ => j969 (nI T) xs L N hv hu hm ht st1) (fun _ => g_gap (k := 0) (t := 0) R hv hu (by omega) (by omega) ?_)
        rw [gs_same (fun k a m hk ha hm => vl_cpy hne hk (by omega) hm)]
        refine i0' (g_year (t := 0) (a := 2) R hv (by omega) (by omega) (g_year (t := 0) (a := 2) R hu (by omega) (by omega) ?_))
        have ey : yr (cpy f v u 360) p c v 0 2 = yr (cpy f v u 360) p c u 0 2 := sm_ext (fun m hm => sm_ext (fun k hk => by rw [vl_cpy hne hk (by omega) hm]))
        refine And.intro (fun z => absurd ey z) (fun _ => g_copy hv hu hne (fun z => absurd hcl z) (fun _ => ?_))
        rw [cpyN_again hne]
        exact i0' (j969 (nI T) xs L N hv hu hm ht ⟨R, H, C, (A.copied hv hu).copied hv hu, (B.copied hv hu).copied hv hu, (Z.copied hv hu).copied hv hu, S, l, hs⟩)
    · have hw : lowN x 101 < 101 := lowN_lt _ (by omega)
      refine g_low (n := 101) (by omega) (by omega) (g_setSeason hm hw (g_low (n := 101) (by omega) (by omega) (g_setSeason hm hw (g_low (n := 101) (by omega) (by omega) ?_))))
      rw [pk_us]
      exact And.intro (fun z => absurd rfl z) (fun _ => j969 (nI T) xs L N hv hu hm ht ⟨R, H, C, A, B, Z, (S.put2 (by omega)).put2 (by omega), l, hs⟩)
    · refine g_lowA (n := 1000001) (by omega) (by omega) (fun s hs1 => g_year (a := 2) R hv ht (by omega) (g_spreadYear R H C A S l.1 l.2 hv ht hs1 (fun ss => ?_) (fun nz k ss lw ls e1 e2 => ?_)))
      · refine g_year (a := 2) R hv ht (by omega) (And.intro (fun z => absurd rfl z) (fun _ => ?_))
        exact And.intro (fun z => absurd rfl z) (fun _ => j969 (nI T) xs L N hv hu hm ht st0)
      · have hg : ∀ j, j < 12 → sS seW s j ≤ 1000001 := fun j hj => sS_le (by omega) hj
        have A1 : RA (yF f (lf p c t) h cl v (sS seW s) 12) := yF_RA A hg (Nat.le_refl _)
        have B1 : RB (yF f (lf p c t) h cl v (sS seW s) 12) := yF_RB B hv (Nat.le_refl _)
        have Z1 : RZ c (yF f (lf p c t) h cl v (sS seW s) 12) := yF_RZ Z (fun k hk => lf_ge hk) hv (Nat.le_refl _)
        obtain ⟨r, hr1, hr2⟩ := yC_le (f := f) (L := lf p c t) (h := h) (cl := cl) (v := v) (g := sS seW s) 12
        have e3 : ny (yF f (lf p c t) h cl v (sS seW s) 12) p c v t 2 = ns (sS seW s) 12 := ns_ext (fun m hm => by
          rw [na_cn]
          exact year_sum hm hg (fun k hk => lf_ge (by omega)) k)
        have e4 : ns (sS seW s) 12 = s := ns_shr (by omega) (by omega) rfl
        have ey : yr (yF f (lf p c t) h cl v (sS seW s) 12) p c v t 2 = nI s := by rw [(yr_eq A1 B1 hv (by omega)).1, e3, e4]
        rw [hr2]
        refine g_year (a := 2) R hv ht (by omega) (And.intro (fun _ => ?_) (fun z => absurd z (nI_nm3 (by omega))))
        exact And.intro (fun z => absurd ey z) (fun _ => j969 (nI T) xs L N hv hu hm ht ⟨R, H, C, A1, B1, Z1, S, ⟨e1, e2⟩, hs⟩)
    · exact g_lowA (n := 2) (by omega) (by omega) (fun j _ => And.intro (fun _ => st_440 (M := 900) N hv hu hm ht st0 (by omega) (by omega)) (fun _ => st_440 (M := 1000001) N hv hu hm ht st0 (by omega) (by omega)))
    · exact g_isLeaf R ht (fun _ => i0 (j969 (nI T) xs L N hv hu hm ht st0)) (fun hl => i1 (g_lowA (n := 2) (by omega) (by omega) (fun j _ => And.intro (fun _ => st_376 false rfl N hv hu hm ht st0 hl) (fun _ => st_376 true rfl N hv hu hm ht st0 hl))))
    · refine g_lowA (n := 3) (by omega) (by omega) (fun a ha => And.intro (fun _ => st_283 (M := 1001) N hv hu hm ht st0 ha (by omega) (by unfold mst; split <;> omega)) (fun z => st_283 (M := 1000001) N hv hu hm ht st0 ha (by omega) ?_))
      have z := (nI_eq (b := 2) (by omega) (by omega)).mp z
      unfold mst
      rw [if_pos z]
      omega
    · refine g_places R (g_isLeaf R ht (fun hl => g_add R H C ht (fun w => ?_) (fun w1 w2 => ?_)) (fun hl => g_add R H C ht (fun _ => And.intro (fun z => absurd rfl z) (fun _ => And.intro (fun _ => j969 (nI T) xs L N hv hu hm ht st0) (fun _ => i1 (j969 (nI T) xs L N hv hu hm ht st0)))) (fun w1 w2 => ?_)))
      · refine And.intro (fun z => absurd rfl z) (fun _ => And.intro (fun _ => j969 (nI T) xs L N hv hu hm ht st0) (fun z10 => absurd ?_ z10))
        have : c = 10 := by
          rcases w with w | w
          · omega
          · rw [hl] at w
            cases w
        rw [this]
        rfl
      all_goals
        have R1 := R.add ht w1
        have hcc : hc (pset p c t) (c + 1) c = false := by
          rw [hc_pset hc10.1, decide_eq_false (by omega), Bool.or_false]
          cases q : hc p c c
          · rfl
          · obtain ⟨i, i0, i1, e⟩ := hc_iff.mp q
            have := R.low i i0 i1
            omega
        have hct : hc (pset p c t) (c + 1) t = true := by
          rw [hc_pset hc10.1, decide_eq_true rfl, Bool.or_true]
        have ea : am f (pset p c t) (c + 1) v c 2 m = 0 := by
          rw [am_leaf R1.low R1.1.2 (by omega) hcc, vl2]
          exact Z v c m hv (Nat.le_refl _) w1 hm
        have st1 : Sv (c + 1) (pset p c t) h cl sn (cnt + 1) (pwc ||| ((1 : Int32) <<< (nI t &&& 31))) (upd par c (nI t)) f held clos seW leW (pl + 1) (upd mpar c (nI t)) mhel mclo msea := ⟨R1, H, C.add hc10.1 (w2.imp_right (fun u => u.2.2)), A, B, fun v k m a b c d => Z v k m a (by omega) c d, S, l, hs⟩
        refine And.intro (fun _ => And.intro (fun z => absurd rfl z) (fun _ => ?_)) (fun z => absurd z (nI_nm3 (by omega)))
        refine g_isLeaf (t := c) R1 (by omega) (fun y => absurd (hcc.symm.trans y) (by decide)) (fun _ => i1 (g_isLeaf (t := t) R1 (by omega) (fun _ => i0' (g_amount (t := c) (a := 2) R1 hv (by omega) (by omega) hm ?_)) (fun y => absurd (hct.symm.trans y) (by decide))))
        rw [ea]
        exact i0' (j969 (nI T) xs L N hv hu hm (by omega) st1)
/-! what the law needs of numbers alone -/
theorem pure_main (xs : Nat → Int32) (L : Nat) (hL : L ≤ 260) (seW : Ar) (h1 : ∀ j : Nat, j < 12 → seW j = 1) :
  vL_law_J8 0 1 0 (fun _ => 0) (fun _ => 0) (fun _ => 0) (fun _ => 0) seW (fun _ => 0) (fun _ => 0) (fun _ => 0) xs L := by
  have R : RT3 1 (fun _ => 0) 1 0 (fun _ => 0) 1 (fun _ => -1) := ⟨⟨Nat.le_refl _, by omega⟩, rfl, rfl, rfl, fun i a b => by omega, Bs.zero.of (fun k _ => by simp [hc])⟩
  have A : RA (fun _ => 0) := fun v k m _ _ _ => ⟨0, Nat.zero_le _, rfl⟩
  have B : RB (fun _ => 0) := fun v k m _ _ _ => ⟨⟨0, Nat.zero_le _, rfl⟩, ⟨0, Nat.zero_le _, rfl⟩⟩
  have st : Sv 1 (fun _ => 0) (fun _ _ => false) (fun _ _ => false) 0 1 0 (fun _ => 0) (fun _ => 0) (fun _ => 0) (fun _ => 0) seW (fun _ => 0) 1 (fun _ => -1) (fun _ => 0) (fun _ => 0) seW :=
    ⟨R, fun m _ => ⟨Bs.zero, fun k _ => rfl⟩, fun v _ => ⟨Bs.zero, fun k _ => rfl, fun k _ z => by cases z⟩, A, B, fun v k m _ _ _ _ => rfl, fun j hj => ⟨rfl, 1, by omega, h1 j hj⟩, ⟨rfl, rfl⟩, Nat.zero_le _⟩
  refine g_places R (And.intro (fun z => absurd rfl z) (fun _ => g_leaves (t := 0) R (by omega) (fun x hx => ?_)))
  have ex : x = 1 := by
    have e0 : x = (1 : Int32) <<< (nI 0 &&& 31) := hx.inj (Bs.one (by omega)) (fun k _ => lf_self R.low (by omega) (by omega) (by simp [hc]) k)
    rw [e0]
    decide
  refine And.intro (fun z => absurd ex z) (fun _ => s_countFilled ?_)
  have ef : sm (fun j => if (fun _ => (0 : Int32)) j = 0 then (0 : Int32) else 1) 1440 = 0 := (sm_ext (g := fun _ => 0) (fun _ _ => rfl)).trans (sm_zero 1440)
  refine And.intro (fun z => absurd ef z) (fun _ => g_holds (v := 0) (u := 1) (t := 0) R A B (by omega) (by omega) (by omega) (i1 ?_))
  refine g_cell (j := 0) rfl (by omega) (by omega) (fun x => g_lowA (n := 45) (by omega) (by omega) (fun j hj => ?_))
  have e6 : (6 : Int32) + nI j = nI (6 + j) := nI_add 6 j
  rw [e6]
  exact law_L xs L hL (6 + j) (by omega) 51 0 rfl (Nat.zero_le _) st
