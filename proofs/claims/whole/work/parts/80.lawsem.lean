def M00 : Mm := ([], fun _ _ => 0, fun _ _ => none)
def rho0 : En := fun i => if i = 0 then .inr (some 1000003) else if i = 1000 then .inl 600000 else if i = 1001 then .inl 7302249 else .inr none
theorem law_sem {L : Nat} (hL : L ≤ 3072) (xs : Nat → Int) (hx : ∀ j, inR (xs j)) : B_law L xs (fun _ _ => False) (fun x _ => x = 1) rho0 M00 := by
  sorry
