section INI6
variable {K : Int → Mm → Prop} {M : Mm}
/-- the empty song -/
def sg0 : Sg := (0, (fun _ _ => 0), stV 0, fun _ => -1)
def A0 : Ab := (sg0, 0, (fun _ => sg0), 0, sg0, 0, fun _ => 0)
theorem sg0_V : sg0.V := ⟨VD_0 _, (by decide : (2 ≤ stV 0 0 ∧ stV 0 0 ≤ 64) ∧ (0 ≤ stV 0 1 ∧ stV 0 1 ≤ 6) ∧ (0 ≤ stV 0 2 ∧ stV 0 2 ≤ 8) ∧ (0 ≤ stV 0 3 ∧ stV 0 3 ≤ 1) ∧ 1 ≤ stV 0 4 ∧ stV 0 4 ≤ 100), fun t _ => (by decide : -1 ≤ (-1 : Int) ∧ (-1 : Int) ≤ 60)⟩
theorem A0_V : A0.V := Ab.V.mk sg0_V (Nat.zero_le 4) (fun i hi => absurd hi (Nat.not_lt_zero i)) (.inl rfl) (fun e => absurd (show (0 : Int) = 1 from e) (by decide)) (Nat.zero_le 60) (fun i hi => absurd hi (Nat.not_lt_zero i))
theorem SongP_s {M : Mm} {k : Nat} (h : M.1 = XP7) (h0 : XP7[k]? = some (3, 0)) (h1 : ∀ j, j < 5 → XP7[k + 1 + j]? = some (20, 40)) (h2 : ∀ j, j < 5 → M.2.2 k j = some (k + 1 + j)) : SongP M k := ⟨by rw [h]; exact h0, fun j hj => by rw [h]; exact h1 j hj, h2⟩
theorem StP_s {M : Mm} {s : Nat} (h : M.1 = XP7) (h0 : XP7[s]? = some (4, 0)) (h1 : XP7[s + 1]? = some (3, 0)) (h2 : ∀ j, j < 5 → XP7[s + 1 + 1 + j]? = some (20, 40)) (h3 : XP7[s + 7]? = some (20, 5)) (h4 : XP7[s + 8]? = some (20, 600)) (hR : StR M s) : StP M s := ⟨by rw [h]; exact h0, hR.1.1, hR.1.2.1, hR.1.2.2, by rw [h]; exact h3, by rw [h]; exact h4, SongP_s h h1 h2 hR.2⟩
theorem st_sh {j : Nat} (h : j < 5) {s : Nat} (h0 : XP7[s + 0]? = some (20, 40)) (h1 : XP7[s + 1]? = some (20, 40)) (h2 : XP7[s + 2]? = some (20, 40)) (h3 : XP7[s + 3]? = some (20, 40)) (h4 : XP7[s + 4]? = some (20, 40)) : XP7[s + j]? = some (20, 40) := by
  rcases lt5 h with rfl | rfl | rfl | rfl | rfl <;> assumption
end INI6
