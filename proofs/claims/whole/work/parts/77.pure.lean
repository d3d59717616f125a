/-! what the law's loop needs of numbers alone -/
theorem pure_main (xs : Nat → Int32) (L : Nat) (hL : L ≤ 3072) (seW mpar msea : Ar) (h1 : ∀ j : Nat, j < 12 → seW j = 1) (h2 : mpar = upd (fun _ => 0) 0 (-1)) (h3 : ∀ j : Nat, j < 12 → msea j = 1) :
  vL_law_L23 xs L 513 0 0 1 0 (fun _ => 0) (fun _ => 0) (fun _ => 0) (fun _ => 0) seW (fun _ => 0) (fun _ => 0) (fun _ => 0) 1 0 0 mpar (fun _ => 0) (fun _ => 0) (fun _ => 0) msea (fun _ => 0) (fun _ => 0) (fun _ => 0) (fun _ => 0) := by
  have key := law_L xs L hL 513 0 rfl (Nat.zero_le _) 1 (fun _ => 0) (fun _ _ => false) (fun _ _ => false) 0 1 0 (fun _ => 0) (fun _ => 0) (fun _ => 0) (fun _ => 0) seW (fun _ => 0) (fun _ => 0) (fun _ => 0) 1 0 0 mpar (fun _ => 0) (fun _ => 0) (fun _ => 0) msea (fun _ => 0) (fun _ => 0) (fun _ => 0) (fun _ => 0)
  refine key ⟨⟨⟨Nat.le_refl _, by omega⟩, rfl, rfl, ?_, fun i a b => by omega, Bs.zero.of (fun k _ => ?_)⟩, fun m _ => ⟨Bs.zero, fun k _ => rfl⟩, fun v _ => ⟨Bs.zero, fun k _ => rfl, fun k _ z => by cases z⟩, fun v k m _ _ _ => ⟨0, Nat.zero_le _, rfl⟩, rfl, fun j hj => ⟨by rw [h1 j hj, h3 j hj], 1, by omega, h1 j hj⟩, ⟨rfl, rfl⟩, 0, Nat.zero_le _, rfl, rfl⟩
  · rw [h2]
    exact pk_us
  · simp [hc]
