/-! the writing methods, at good arguments -/
section OPS
variable {c : Nat} {p : Nat → Nat} {cnt pwc pl : Int32} {par mpar : Ar} {h cl : Nat → Nat → Bool} {held mhel clos mclo : Ar} {f seW seS msea leW leS : Ar} {v u t a m : Nat}
theorem g_set {w : Nat} {Q : Int32 → Ar → Prop} (R : RT3 c p cnt pwc par pl mpar) (C : RC c p cl clos mclo) (hv : v < 3) (ht : t < c) (ha : a < 3) (hm : m < 12) (hw : w < mst a + 1)
    (q0 : hc p c t = true ∨ cl v t = true → Q (-3) f) (q1 : hc p c t = false → cl v t = false → Q (f (v * 360 + t * 36 + a * 12 + m)) (upd f (v * 360 + t * 36 + a * 12 + m) (nI w))) : vL_set cnt pwc f clos (nI v) (nI t) (nI a) (nI m) (nI w) Q := by
  have hc2 := R.1
  obtain rfl := R.2.1
  have hM : mst a < 2 ^ 31 := by have := mst_le a; omega
  cases hl : hc p c t
  · have i3 : vp_in (nI v) 3 := vp_in_nI (by omega) (by omega)
    have hx : Bs (clos (nI v).toNatClampNeg) (cl v) := by rw [nI_clamp (by omega)]; exact (C v hv).1
    cases hcl : cl v t
    · refine Or.inr (v_ver hv (v_plc hc2.2 ht (v_cac ha (v_mon hm (s_most ha (v_upto hM hw (v_leaf R ht hl (And.intro i3 (s_isIn hx (by omega) ?_)))))))))
      rw [hcl]
      exact i0 (s_put (by omega) (by omega) ha hm (q1 hl hcl))
    · refine Or.inl (Or.inr (v_ver hv (Or.inr (v_plc hc2.2 ht (Or.inr (v_cac ha (Or.inr (v_mon hm (s_most ha (Or.inr (v_upto hM hw (Or.inr (v_leaf R ht hl (And.intro i3 (s_isIn hx (by omega) ?_)))))))))))))))
      rw [hcl]
      exact i1 ⟨rfl, q0 (Or.inr hcl)⟩
  · exact Or.inl (Or.inr (v_ver hv (Or.inr (v_plc hc2.2 ht (Or.inr (v_cac ha (Or.inr (v_mon hm (s_most ha (Or.inr (v_upto hM hw (Or.inl (z_leaf R ht hl ⟨rfl, q0 (Or.inl hl)⟩))))))))))))) 
theorem g_see {w : Nat} {Q : Int32 → Ar → Prop} (R : RT3 c p cnt pwc par pl mpar) (ht : t < c) (ha : a < 3) (hm : m < 12) (hw : w < mst a + 1)
    (q0 : hc p c t = true → Q (-3) f) (q1 : hc p c t = false → Q (f (3 * 360 + t * 36 + a * 12 + m)) (upd f (3 * 360 + t * 36 + a * 12 + m) (nI w))) : vL_see cnt pwc f (nI t) (nI a) (nI m) (nI w) Q := by
  have hc2 := R.1
  obtain rfl := R.2.1
  have hM : mst a < 2 ^ 31 := by have := mst_le a; omega
  cases hl : hc p c t
  · exact Or.inr (v_plc hc2.2 ht (v_cac ha (v_mon hm (s_most ha (v_upto hM hw (v_leaf R ht hl (s_put (l := 3) (by omega) (by omega) ha hm (q1 hl))))))))
  · exact Or.inl (Or.inr (v_plc hc2.2 ht (Or.inr (v_cac ha (Or.inr (v_mon hm (s_most ha (Or.inr (v_upto hM hw (z_leaf R ht hl ⟨rfl, q0 hl⟩)))))))))) 
theorem g_hold {b : Bool} {x : Int32} {Q : Int32 → Ar → Prop} (R : RT3 c p cnt pwc par pl mpar) (H : RH h held mhel) (ht : t < c) (hm : m < 12) (hl : hc p c t = false) (hb : x = bi b)
    (q : ∀ y, Bs y (hset h t m b m) → Q (bi (h m t != b)) (upd held m y)) : vX3_hold cnt pwc held (nI t) (nI m) x Q := by
  have hc2 := R.1
  obtain rfl := R.2.1
  exact v_plc hc2.2 ht (v_mon hm (v_leaf R ht hl (s_holdJ H (by omega) hm hb q)))
theorem g_setSeason {w : Nat} {Q : Int32 → Ar → Prop} (hm : m < 12) (hw : w < 101) (q : Q (seW m) (upd seW m (nI w))) : vX3_setSeason seW (nI m) (nI w) Q := by
  refine v_mon hm (v_upto (M := 100) (by omega) hw ?_)
  unfold vX1_weigh
  rw [nI_clamp (by omega)]
  have i12 : vp_in (nI m) 12 := vp_in_nI (by omega) (by omega)
  exact ⟨i12, i12, q⟩
theorem g_spread {s w : Nat} {Q : Int32 → (Ar × Ar × Ar) → Prop} (R : RT3 c p cnt pwc par pl mpar) (H : RH h held mhel) (C : RC c p cl clos mclo) (A : RA f) (l10 : leW 10 = 0) (l11 : leW 11 = 0) (hv : v < 3) (ht : t < c) (hm : m < 12) (hs : s < 1000001) (hw : w < 2)
    (q0 : ¬ can f (lf p c t) (Fr (lf p c t) h cl v m) v m s → Q (-3) (f, leW, leS)) (q1 : can f (lf p c t) (Fr (lf p c t) h cl v m) v m s → ∀ lw ls : Ar, lw 10 = 0 → lw 11 = 0 → Q (sK f (lf p c t) (Fr (lf p c t) h cl v m) v m s w) (sR f (lf p c t) (Fr (lf p c t) h cl v m) v m s w, lw, ls)) : vL_spread cnt pwc par f held clos leW leS (nI v) (nI t) (nI m) (nI s) (nI w) Q := by
  have hc2 := R.1
  obtain rfl := R.2.1
  by_cases k : can f (lf p c t) (Fr (lf p c t) h cl v m) v m s
  · exact Or.inr (v_ver hv (v_plc hc2.2 ht (v_mon hm (v_upto (M := 1000000) (by omega) hs (v_upto (M := 1) (by omega) hw (s_leavesBelow R ht (fun x hx => v_spr H C A hv hm (by omega) hx k (s_spreadOver H C A hv hm (by omega) hw hx l10 l11 (fun i hi => lf_ge (by omega)) k (fun lw ls e1 e2 => q1 k lw ls e1 e2)))))))))
  · exact Or.inl (Or.inr (v_ver hv (Or.inr (v_plc hc2.2 ht (Or.inr (v_mon hm (Or.inr (v_upto (M := 1000000) (by omega) hs (Or.inr (v_upto (M := 1) (by omega) hw (s_leavesBelow R ht (fun x hx => z_spr H C A hv hm (by omega) hx k ⟨rfl, q0 k⟩)))))))))))) 
theorem g_spreadYear {s : Nat} {Q : Int32 → (Ar × Ar × Ar × Ar) → Prop} (R : RT3 c p cnt pwc par pl mpar) (H : RH h held mhel) (C : RC c p cl clos mclo) (A : RA f) (S : RS seW msea) (l10 : leW 10 = 0) (l11 : leW 11 = 0) (hv : v < 3) (ht : t < c) (hs : s < 1000001)
    (q0 : ∀ ss : Ar, Q (-3) (f, ss, leW, leS)) (q1 : ns (wn seW) 12 ≠ 0 → canY f (lf p c t) h cl v (sS seW s) → ∀ ss lw ls : Ar, lw 10 = 0 → lw 11 = 0 → Q (yC f (lf p c t) h cl v (sS seW s) 12) (yF f (lf p c t) h cl v (sS seW s) 12, ss, lw, ls)) : vL_spreadYear cnt pwc par f held clos seW seS leW leS (nI v) (nI t) (nI s) Q := by
  have hc2 := R.1
  obtain rfl := R.2.1
  have hw : ∀ j, j < 12 → seW j = nI (wn seW j) := fun j hj => (wn_eq S hj).1
  have hB : ∀ j, j < 12 → wn seW j ≤ 2000000 := fun j hj => by have := (wn_eq S hj).2.2; omega
  have hT : ns (wn seW) 12 ≤ 12 * 2000000 := ns_le hB
  by_cases z : ns (wn seW) 12 = 0
  · exact Or.inl (Or.inr (v_ver hv (Or.inr (v_plc hc2.2 ht (Or.inr (v_upto (M := 1000000) (by omega) hs (s_totalWeight hw (And.intro (fun w => absurd (by rw [z]; rfl) w) (fun _ => ⟨rfl, q0 _⟩))))))))) 
  · have nz : ¬ nI (ns (wn seW) 12) = 0 := nI_ne0 (by omega) (by omega)
    have hg : ∀ j, j < 12 → sS seW s j ≤ 1000001 := fun j hj => sS_le (by omega) hj
    by_cases k : canY f (lf p c t) h cl v (sS seW s)
    · exact Or.inr (v_ver hv (v_plc hc2.2 ht (v_upto (M := 1000000) (by omega) hs (s_totalWeight hw (And.intro (fun _ => s_leavesBelow R ht (fun x hx => s_divide (w := wn seW) hw hB (by omega) (by omega) (fun sh hsh => s_sY56 (g := sS seW s) H C A hv hx l10 l11 (fun i hi => lf_ge (by omega)) hg hsh k (fun lw ls e1 e2 => q1 z k sh lw ls e1 e2)))) (fun w => absurd w nz))))))
    · exact Or.inl (Or.inr (v_ver hv (Or.inr (v_plc hc2.2 ht (Or.inr (v_upto (M := 1000000) (by omega) hs (s_totalWeight hw (And.intro (fun _ => s_leavesBelow R ht (fun x hx => s_divide (w := wn seW) hw hB (by omega) (by omega) (fun sh hsh => z_sY56 (g := sS seW s) H C A hv hx hg hsh k ⟨rfl, q0 sh⟩))) (fun w => absurd w nz))))))))) 
theorem g_copy {Q : Int32 → Ar → Prop} (hv : v < 3) (hu : u < 3) (hne : v ≠ u) (q0 : ¬ clos u = 0 → Q (-3) f) (q1 : clos u = 0 → Q (sm (cpyN f v u) 360) (cpy f v u 360)) : vL_copy f clos (nI v) (nI u) Q := by
  have i3 : vp_in (nI u) 3 := vp_in_nI (by omega) (by omega)
  have e2 : (nI u).toNatClampNeg = u := nI_clamp (by omega)
  have ne : ¬ nI v = nI u := fun z => hne ((nI_eq (by omega) (by omega)).mp z)
  by_cases hcl : clos u = 0
  · exact Or.inr (v_ver hv (v_ver hu (And.intro (fun _ => And.intro i3 (And.intro (fun _ => s_copyLayer (by omega) (by omega) hne (q1 hcl)) (fun z => absurd (by rw [e2]; exact hcl) z))) (fun z => absurd z ne))))
  · exact Or.inl (Or.inr (v_ver hv (Or.inr (v_ver hu (And.intro (fun _ => And.intro i3 (And.intro (fun z => absurd (by rw [e2] at z; exact z) hcl) (fun _ => ⟨rfl, q0 hcl⟩))) (fun z => absurd z ne)))))) 
theorem g_handIn {Q : Int32 → Ar → Prop} (R : RT3 c p cnt pwc par pl mpar) (C : RC c p cl clos mclo) (hv : v < 3) (ht : t < c)
    (q : ∀ y, Bs y (cset cl v (lf p c t) true v) → Q (ccnt cl v (lf p c t) true) (upd clos v y)) : vX3_handIn cnt pwc par clos (nI v) (nI t) Q := by
  have hc2 := R.1
  obtain rfl := R.2.1
  exact v_ver hv (v_plc hc2.2 ht (s_leavesBelow R ht (fun x hx => s_handIn C hv hx q)))
theorem g_takeBack {Q : Int32 → Ar → Prop} (R : RT3 c p cnt pwc par pl mpar) (C : RC c p cl clos mclo) (hv : v < 3) (ht : t < c)
    (q : ∀ y, Bs y (cset cl v (lf p c t) false v) → Q (ccnt cl v (lf p c t) false) (upd clos v y)) : vX3_takeBack cnt pwc par clos (nI v) (nI t) Q := by
  have hc2 := R.1
  obtain rfl := R.2.1
  exact v_ver hv (v_plc hc2.2 ht (s_leavesBelow R ht (fun x hx => s_takeBack C hv hx q)))
theorem g_add {Q : Int32 → (Int32 × Int32 × Ar) → Prop} (R : RT3 c p cnt pwc par pl mpar) (H : RH h held mhel) (C : RC c p cl clos mclo) (ht : t < c)
    (q0 : (¬ c < 10 ∨ hc p c t = false) → Q (-3) (cnt, pwc, par)) (q1 : c < 10 → (hc p c t = true ∨ unt f h cl t) → Q (nI c) (cnt + 1, pwc ||| ((1 : Int32) <<< (nI t &&& 31)), upd par c (nI t))) : vL_add cnt pwc par f held clos (nI t) Q := by
  have hc2 := R.1
  obtain rfl := R.2.1
  have h10 : t < 10 := by omega
  have full : ∀ P : Int32 → Prop, (c < 10 → P 0) → (¬ c < 10 → P 1) → vX2_isFull (nI c) P := fun P a b => And.intro (fun z => a ((nI_ltI (b := 10) (by omega) (by omega)).mp z)) (fun z => b (fun w => z (nI_lt (b := 10) w (by omega))))
  by_cases w1 : c < 10
  · have good : (hc p c t = true ∨ unt f h cl t) → vX3_addPlace_J54 (nI c) pwc par f held clos (nI t) (fun r2 u2 => Q r2 (u2.1, u2.2.1, u2.2.2)) := by
      intro w2
      unfold vX3_addPlace_J54 vX2_addBelow
      rw [nI_clamp (n := c) (by omega)]
      exact ⟨vp_in_nI w1 (by omega), q1 w1 w2⟩
    cases hl : hc p c t
    · by_cases z : unt f h cl t
      · refine Or.inr (v_plc hc2.2 ht (full _ (fun _ => i0 (s_isLeaf R h10 ?_)) (fun w => absurd w1 w)))
        rw [hl]
        exact i1 (s_isInUse H C h10 (fun _ => i0 (good (Or.inr z))) (fun w => absurd z w))
      · refine Or.inl (Or.inr (v_plc hc2.2 ht (full _ (fun _ => i0 (s_isLeaf R h10 ?_)) (fun w => absurd w1 w))))
        rw [hl]
        exact i1 (s_isInUse H C h10 (fun w => absurd w z) (fun _ => i1 ⟨rfl, q0 (Or.inr hl)⟩))
    · refine Or.inr (v_plc hc2.2 ht (full _ (fun _ => i0 (s_isLeaf R h10 ?_)) (fun w => absurd w1 w)))
      rw [hl]
      exact i0 (good (Or.inl hl))
  · exact Or.inl (Or.inr (v_plc hc2.2 ht (full _ (fun w => absurd w w1) (fun _ => i1 ⟨rfl, q0 (Or.inl w1)⟩))))
theorem g_closeMonth {sn : Nat} {Q : Int32 → Int32 → Prop} (hs : sn < 12) (q : Q (nI (sn + 1)) (nI (sn + 1))) : vX3_closeMonth (nI sn) Q := by
  rw [← nI_1] at q
  exact And.intro (fun _ => q) (fun z => absurd (nI_lt (b := 12) hs (by omega)) z)
end OPS
