/-! what the law's loop needs of numbers alone -/
theorem pure_main (xs : Nat → Int32) (L : Nat) (hL : L ≤ 3072) (seW mpar msea : Ar) (h1 : ∀ j : Nat, j < 12 → seW j = 1) (h2 : mpar = upd (fun _ => 0) 0 (-1)) (h3 : ∀ j : Nat, j < 12 → msea j = 1) :
  vL_law_L23 xs L 513 0 0 1 0 (fun _ => 0) (fun _ => 0) (fun _ => 0) (fun _ => 0) seW (fun _ => 0) (fun _ => 0) (fun _ => 0) 1 0 0 mpar (fun _ => 0) (fun _ => 0) (fun _ => 0) msea (fun _ => 0) (fun _ => 0) (fun _ => 0) (fun _ => 0) := sorry
