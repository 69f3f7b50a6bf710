def dg (tl : Nat) (tc : Nat → Int) (p : Nat) : Int := if p < tl ∧ 48 ≤ tc p ∧ tc p ≤ 57 then tc p - 48 else -1
theorem dg_b (tl : Nat) (tc : Nat → Int) (p : Nat) : -1 ≤ dg tl tc p ∧ dg tl tc p ≤ 9 ∧ (0 ≤ dg tl tc p → p < tl) := by
  unfold dg
  split <;> omega
/-- a number at p: what, where behind it -/
def num (tl : Nat) (tc : Nat → Int) (p : Nat) (lo hi : Int) : Int × Nat := if dg tl tc p < lo then (-1, p) else if dg tl tc p = 0 ∨ dg tl tc (p + 1) = -1 ∨ hi < dg tl tc p * 10 + dg tl tc (p + 1) then (dg tl tc p, p + 1) else (dg tl tc p * 10 + dg tl tc (p + 1), p + 2)
theorem num_b (tl : Nat) (tc : Nat → Int) (p : Nat) {lo hi : Int} (hl : lo = 0 ∨ lo = 1) (hh : 9 ≤ hi) : ((num tl tc p lo hi).1 = -1 ∧ (num tl tc p lo hi).2 = p) ∨ (lo ≤ (num tl tc p lo hi).1 ∧ (num tl tc p lo hi).1 ≤ hi ∧ p + 1 ≤ (num tl tc p lo hi).2 ∧ (num tl tc p lo hi).2 ≤ p + 2 ∧ (num tl tc p lo hi).2 ≤ tl) := by
  have h1 := dg_b tl tc p
  have h2 := dg_b tl tc (p + 1)
  unfold num
  by_cases c1 : dg tl tc p < lo
  · rw [if_pos c1]
    exact .inl ⟨rfl, rfl⟩
  · rw [if_neg c1]
    by_cases c2 : dg tl tc p = 0 ∨ dg tl tc (p + 1) = -1 ∨ hi < dg tl tc p * 10 + dg tl tc (p + 1)
    · rw [if_pos c2]
      refine .inr ⟨?_, ?_, ?_, ?_, ?_⟩ <;> simp only <;> omega
    · rw [if_neg c2]
      refine .inr ⟨?_, ?_, ?_, ?_, ?_⟩ <;> simp only <;> omega
def sy0 (tl : Nat) (tc : Nat → Int) (p : Nat) : Int × Nat := if p < tl ∧ tc p = 46 then num tl tc (p + 1) 1 32 else (0, p)
def sy1 (tl : Nat) (tc : Nat → Int) (p : Nat) : Int × Nat := num tl tc (sy0 tl tc p).2 0 60
def sy2 (tl : Nat) (tc : Nat → Int) (p : Nat) : Int × Nat := if (sy1 tl tc p).2 < tl ∧ tc (sy1 tl tc p).2 = 45 then num tl tc ((sy1 tl tc p).2 + 1) 0 60 else sy1 tl tc p
def sy3 (tl : Nat) (tc : Nat → Int) (p : Nat) : Int × Nat := if (sy2 tl tc p).2 < tl ∧ tc (sy2 tl tc p).2 = 58 then num tl tc ((sy2 tl tc p).2 + 1) 1 32 else (-1, (sy2 tl tc p).2)
/-- a syllable at p: 1 or 0, where behind it or where the fault is -/
def sy (tl : Nat) (tc : Nat → Int) (p : Nat) : Int × Nat := if (sy0 tl tc p).1 = -1 then (0, (sy0 tl tc p).2) else if (sy1 tl tc p).1 = -1 then (0, (sy1 tl tc p).2) else if (sy2 tl tc p).1 = -1 then (0, (sy2 tl tc p).2) else if (sy3 tl tc p).1 = -1 then (0, (sy3 tl tc p).2) else (1, (sy3 tl tc p).2)
/-- what a good syllable is -/
theorem sy_b {tl : Nat} {tc : Nat → Int} {p : Nat} (h : (sy tl tc p).1 = 1) : (0 ≤ (sy0 tl tc p).1 ∧ (sy0 tl tc p).1 ≤ 32) ∧ (0 ≤ (sy1 tl tc p).1 ∧ (sy1 tl tc p).1 ≤ 60) ∧ (0 ≤ (sy2 tl tc p).1 ∧ (sy2 tl tc p).1 ≤ 60) ∧ (1 ≤ (sy3 tl tc p).1 ∧ (sy3 tl tc p).1 ≤ 32) ∧ p + 3 ≤ (sy tl tc p).2 ∧ (sy tl tc p).2 ≤ tl ∧ (sy tl tc p).2 = (sy3 tl tc p).2 := by
  unfold sy at h ⊢
  by_cases c0 : (sy0 tl tc p).1 = -1
  · rw [if_pos c0] at h; exact absurd (show (0 : Int) = 1 from h) (by decide)
  rw [if_neg c0] at h ⊢
  by_cases c1 : (sy1 tl tc p).1 = -1
  · rw [if_pos c1] at h; exact absurd (show (0 : Int) = 1 from h) (by decide)
  rw [if_neg c1] at h ⊢
  by_cases c2 : (sy2 tl tc p).1 = -1
  · rw [if_pos c2] at h; exact absurd (show (0 : Int) = 1 from h) (by decide)
  rw [if_neg c2] at h ⊢
  by_cases c3 : (sy3 tl tc p).1 = -1
  · rw [if_pos c3] at h; exact absurd (show (0 : Int) = 1 from h) (by decide)
  rw [if_neg c3] at h ⊢
  have b0 : (0 ≤ (sy0 tl tc p).1 ∧ (sy0 tl tc p).1 ≤ 32) ∧ p ≤ (sy0 tl tc p).2 := by
    unfold sy0 at c0 ⊢
    by_cases c : p < tl ∧ tc p = 46
    · rw [if_pos c] at c0 ⊢
      have := num_b tl tc (p + 1) (lo := 1) (hi := 32) (.inr rfl) (by decide)
      omega
    · rw [if_neg c]
      exact ⟨⟨Int.le_refl 0, show (0 : Int) ≤ 32 by decide⟩, Nat.le_refl _⟩
  have b1 := num_b tl tc (sy0 tl tc p).2 (lo := 0) (hi := 60) (.inl rfl) (by decide)
  rw [show num tl tc (sy0 tl tc p).2 0 60 = sy1 tl tc p from rfl] at b1
  have b2 : (0 ≤ (sy2 tl tc p).1 ∧ (sy2 tl tc p).1 ≤ 60) ∧ (sy1 tl tc p).2 ≤ (sy2 tl tc p).2 := by
    unfold sy2 at c2 ⊢
    by_cases c : (sy1 tl tc p).2 < tl ∧ tc (sy1 tl tc p).2 = 45
    · rw [if_pos c] at c2 ⊢
      have := num_b tl tc ((sy1 tl tc p).2 + 1) (lo := 0) (hi := 60) (.inl rfl) (by decide)
      omega
    · rw [if_neg c]
      omega
  have b3 : (1 ≤ (sy3 tl tc p).1 ∧ (sy3 tl tc p).1 ≤ 32) ∧ (sy2 tl tc p).2 + 2 ≤ (sy3 tl tc p).2 ∧ (sy3 tl tc p).2 ≤ tl := by
    unfold sy3 at c3 ⊢
    by_cases c : (sy2 tl tc p).2 < tl ∧ tc (sy2 tl tc p).2 = 58
    · rw [if_pos c] at c3 ⊢
      have := num_b tl tc ((sy2 tl tc p).2 + 1) (lo := 1) (hi := 32) (.inr rfl) (by decide)
      omega
    · rw [if_neg c] at c3
      exact absurd rfl c3
  refine ⟨b0.1, ?_, b2.1, b3.1, ?_, b3.2.2, rfl⟩
  · omega
  · show p + 3 ≤ (sy3 tl tc p).2
    omega
