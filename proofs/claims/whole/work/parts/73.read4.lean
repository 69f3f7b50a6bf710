theorem VD_0 (D : Nat → Nat → Int) : VD 0 D := ⟨by decide, fun k hk => absurd hk (Nat.not_lt_zero k), fun h => absurd h (by decide), fun k hk => absurd hk (Nat.not_lt_zero _)⟩
theorem VD_add {n : Nat} {D : Nat → Nat → Int} {r l a e f : Int} (hv : VD n D) (hn : n < 40) (hr : 0 ≤ r ∧ r ≤ 32) (hl : 1 ≤ l ∧ l ≤ 32) (ha : 0 ≤ a ∧ a ≤ 60) (he : 0 ≤ e ∧ e ≤ 60) (hf : f = 0 ∨ f = 1) (ht : tk n D + r + l ≤ 600) : VD (n + 1) (addD n D (tk n D + r) l a e (if n = 0 then 1 else f)) ∧ tk (n + 1) (addD n D (tk n D + r) l a e (if n = 0 then 1 else f)) = tk n D + r + l := by
  have htk := tk_b hv
  have eN : ∀ w, addD n D (tk n D + r) l a e (if n = 0 then 1 else f) n w = if w = 0 then tk n D + r else if w = 1 then l else if w = 2 then a else if w = 3 then e else (if n = 0 then 1 else f) := fun w => if_pos rfl
  have eO : ∀ k w, k ≠ n → addD n D (tk n D + r) l a e (if n = 0 then 1 else f) k w = D k w := fun k w h => if_neg h
  have e0 : addD n D (tk n D + r) l a e (if n = 0 then 1 else f) n 0 = tk n D + r := eN 0
  have e1 : addD n D (tk n D + r) l a e (if n = 0 then 1 else f) n 1 = l := eN 1
  have e2 : addD n D (tk n D + r) l a e (if n = 0 then 1 else f) n 2 = a := eN 2
  have e3 : addD n D (tk n D + r) l a e (if n = 0 then 1 else f) n 3 = e := eN 3
  have e4 : addD n D (tk n D + r) l a e (if n = 0 then 1 else f) n 4 = (if n = 0 then 1 else f) := eN 4
  refine ⟨⟨hn, fun k hk => ?_, fun _ => ?_, fun k hk => ?_⟩, ?_⟩
  · by_cases c : k = n
    · subst c
      rw [e0, e1, e2, e3, e4]
      refine ⟨by omega, by omega, by omega, by omega, by omega, by omega, by omega, by omega, ?_⟩
      split
      · exact .inr rfl
      · exact hf
    · simp only [eO k _ c]
      exact hv.2.1 k (by omega)
  · by_cases c : n = 0
    · subst c
      rw [e4, if_pos rfl]
    · rw [eO 0 4 (by omega)]
      exact hv.2.2.1 (by omega)
  · by_cases c : k + 1 = n
    · rw [eO k 0 (by omega), eO k 1 (by omega), c, e0]
      have : tk n D = D (n - 1) 0 + D (n - 1) 1 := if_neg (by omega)
      have e5 : n - 1 = k := by omega
      rw [this, e5]
      omega
    · rw [eO k 0 (by omega), eO k 1 (by omega), eO (k + 1) 0 (by omega)]
      exact hv.2.2.2 k (by omega)
  · show (if n + 1 = 0 then 0 else addD n D (tk n D + r) l a e (if n = 0 then 1 else f) (n + 1 - 1) 0 + addD n D (tk n D + r) l a e (if n = 0 then 1 else f) (n + 1 - 1) 1) = _
    rw [if_neg (by omega), Nat.add_sub_cancel, e0, e1]
theorem addS_V {S : Sg} {r a e l f : Int} (h : S.V) (hn : S.n < 40) (hr : 0 ≤ r ∧ r ≤ 32) (hl : 1 ≤ l ∧ l ≤ 32) (ha : 0 ≤ a ∧ a ≤ 60) (he : 0 ≤ e ∧ e ≤ 60) (hf : f = 0 ∨ f = 1) (ht : tk S.n S.D + r + l ≤ 600) : (addS S r a e l f).V := ⟨(VD_add h.1 hn hr hl ha he hf ht).1, h.2.1, h.2.2⟩
abbrev RS : Type := Int × Nat × Nat × (Nat → Nat → Int) × Int
def RS.s (q : RS) : Int := q.1
def RS.p (q : RS) : Nat := q.2.1
def RS.n (q : RS) : Nat := q.2.2.1
def RS.D (q : RS) : Nat → Nat → Int := q.2.2.2.1
def RS.T (q : RS) : Int := q.2.2.2.2
/-- a syllable at p read behind q -/
def rst (tl : Nat) (tc : Nat → Int) (q : RS) (p : Nat) (f : Int) : RS := if (sy tl tc p).1 = 1 then (0, (sy tl tc p).2, q.n + 1, addD q.n q.D (q.T + (sy0 tl tc p).1) (sy3 tl tc p).1 (sy1 tl tc p).1 (sy2 tl tc p).1 (if q.n = 0 then 1 else f), q.T + (sy0 tl tc p).1 + (sy3 tl tc p).1) else (2, (sy tl tc p).2, q.n, q.D, q.T)
def rdn (tl : Nat) (tc : Nat → Int) (q : RS) : RS := if q.s = 0 ∧ q.p < tl then (if tc q.p = 47 then rst tl tc q (q.p + 1) 1 else if tc q.p = 44 then rst tl tc q (q.p + 1) 0 else (2, q.p, q.n, q.D, q.T)) else q
def rd (tl : Nat) (tc : Nat → Int) : Nat → RS
  | 0 => rst tl tc (0, 0, 0, (fun _ _ => 0), 0) 0 1
  | k + 1 => rdn tl tc (rd tl tc k)
def RI (tl : Nat) (q : RS) : Prop := (q.s = 0 ∨ q.s = 2) ∧ (q.s = 0 → 1 ≤ q.n ∧ 4 * q.n ≤ q.p + 1 ∧ q.p ≤ tl) ∧ q.n ≤ 15 ∧ 0 ≤ q.T ∧ (q.T ≤ 600 → VD q.n q.D ∧ tk q.n q.D = q.T)
theorem rst_I {tl : Nat} {tc : Nat → Int} {q : RS} {p : Nat} {f : Int} (htl : tl ≤ 60) (hf : f = 0 ∨ f = 1) (h1 : 4 * q.n ≤ p) (h3 : q.n ≤ 15) (h4 : 0 ≤ q.T) (h5 : q.T ≤ 600 → VD q.n q.D ∧ tk q.n q.D = q.T) : RI tl (rst tl tc q p f) := by
  unfold rst
  by_cases c : (sy tl tc p).1 = 1
  · obtain ⟨b0, b1, b2, b3, b4, b5, b6⟩ := sy_b c
    rw [if_pos c]
    refine ⟨.inl rfl, fun _ => ⟨?_, ?_, b5⟩, ?_, ?_, fun ht => ?_⟩
    · show 1 ≤ q.n + 1
      omega
    · show 4 * (q.n + 1) ≤ (sy tl tc p).2 + 1
      omega
    · show q.n + 1 ≤ 15
      omega
    · show 0 ≤ q.T + (sy0 tl tc p).1 + (sy3 tl tc p).1
      omega
    · have ht2 : q.T + (sy0 tl tc p).1 + (sy3 tl tc p).1 ≤ 600 := ht
      obtain ⟨v1, v2⟩ := h5 (by omega)
      rw [← v2] at ht2
      have := VD_add v1 (by omega) b0 b3 b1 b2 hf ht2
      rw [v2] at this
      exact this
  · rw [if_neg c]
    exact ⟨.inr rfl, fun h => absurd (show (2 : Int) = 0 from h) (by decide), h3, h4, h5⟩
theorem rd_I {tl : Nat} {tc : Nat → Int} (htl : tl ≤ 60) : ∀ k, RI tl (rd tl tc k)
  | 0 => rst_I htl (.inr rfl) (Nat.le_refl 0) (by show 0 ≤ 15; omega) (Int.le_refl 0) (fun _ => ⟨VD_0 _, rfl⟩)
  | k + 1 => by
    have ih := rd_I htl (tc := tc) k
    show RI tl (rdn tl tc (rd tl tc k))
    generalize rd tl tc k = q at ih ⊢
    unfold rdn
    by_cases c : q.s = 0 ∧ q.p < tl
    · rw [if_pos c]
      have i2 := ih.2.1 c.1
      by_cases c1 : tc q.p = 47
      · rw [if_pos c1]
        exact rst_I htl (.inr rfl) i2.2.1 ih.2.2.1 ih.2.2.2.1 ih.2.2.2.2
      · rw [if_neg c1]
        by_cases c2 : tc q.p = 44
        · rw [if_pos c2]
          exact rst_I htl (.inl rfl) i2.2.1 ih.2.2.1 ih.2.2.2.1 ih.2.2.2.2
        · rw [if_neg c2]
          exact ⟨.inr rfl, fun h => absurd (show (2 : Int) = 0 from h) (by decide), ih.2.2.1, ih.2.2.2.1, ih.2.2.2.2⟩
    · rw [if_neg c]
      exact ih
