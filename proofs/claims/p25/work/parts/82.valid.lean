theorem VD_0 (D : Nat → Nat → Int) : VD 0 D := ⟨by decide, fun k hk => absurd hk (Nat.not_lt_zero k), fun h => absurd h (by decide), fun k hk => absurd hk (Nat.not_lt_zero _)⟩
theorem VD_add {n : Nat} {D : Nat → Nat → Int} {r l a e f : Int} (hv : VD n D) (hn : n < 40) (hr : 0 ≤ r ∧ r ≤ 32) (hl : 1 ≤ l ∧ l ≤ 32) (ha : 0 ≤ a ∧ a ≤ 60) (he : 0 ≤ e ∧ e ≤ 60) (hf : f = 0 ∨ f = 1) (ht : tk n D + r + l ≤ 600) : VD (n + 1) (addD n D (tk n D + r) l a e (if n = 0 then 1 else f)) ∧ tk (n + 1) (addD n D (tk n D + r) l a e (if n = 0 then 1 else f)) = tk n D + r + l := by
  have htk := tk_b hv
  have eN : ∀ w, addD n D (tk n D + r) l a e (if n = 0 then 1 else f) n w = if w = 0 then tk n D + r else if w = 1 then l else if w = 2 then a else if w = 3 then e else (if n = 0 then 1 else f) := fun w => if_pos rfl
  have eO : ∀ k w, k ≠ n → addD n D (tk n D + r) l a e (if n = 0 then 1 else f) k w = D k w := fun k w h => if_neg h
  have e0 : addD n D (tk n D + r) l a e (if n = 0 then 1 else f) n 0 = tk n D + r := eN 0
  have e1 : addD n D (tk n D + r) l a e (if n = 0 then 1 else f) n 1 = l := eN 1
  have e2 : addD n D (tk n D + r) l a e (if n = 0 then 1 else f) n 2 = a := eN 2
  have e3 : addD n D (tk n D + r) l a e (if n = 0 then 1 else f) n 3 = e := eN 3
  have e4 : addD n D (tk n D + r) l a e (if n = 0 then 1 else f) n 4 = (if n = 0 then 1 else f) := eN 4
  refine ⟨⟨hn, fun k hk => ?_, fun _ => ?_, fun k hk => ?_⟩, ?_⟩
  · by_cases c : k = n
    · subst c
      rw [e0, e1, e2, e3, e4]
      refine ⟨by omega, by omega, by omega, by omega, by omega, by omega, by omega, by omega, ?_⟩
      split
      · exact .inr rfl
      · exact hf
    · simp only [eO k _ c]
      exact hv.2.1 k (by omega)
  · by_cases c : n = 0
    · subst c
      rw [e4, if_pos rfl]
    · rw [eO 0 4 (by omega)]
      exact hv.2.2.1 (by omega)
  · by_cases c : k + 1 = n
    · rw [eO k 0 (by omega), eO k 1 (by omega), c, e0]
      have : tk n D = D (n - 1) 0 + D (n - 1) 1 := if_neg (by omega)
      have e5 : n - 1 = k := by omega
      rw [this, e5]
      omega
    · rw [eO k 0 (by omega), eO k 1 (by omega), eO (k + 1) 0 (by omega)]
      exact hv.2.2.2 k (by omega)
  · show (if n + 1 = 0 then 0 else addD n D (tk n D + r) l a e (if n = 0 then 1 else f) (n + 1 - 1) 0 + addD n D (tk n D + r) l a e (if n = 0 then 1 else f) (n + 1 - 1) 1) = _
    rw [if_neg (by omega), Nat.add_sub_cancel, e0, e1]
theorem addS_V {S : Sg} {r a e l f : Int} (h : S.V) (hn : S.n < 40) (hr : 0 ≤ r ∧ r ≤ 32) (hl : 1 ≤ l ∧ l ≤ 32) (ha : 0 ≤ a ∧ a ≤ 60) (he : 0 ≤ e ∧ e ≤ 60) (hf : f = 0 ∨ f = 1) (ht : tk S.n S.D + r + l ≤ 600) : (addS S r a e l f).V := ⟨(VD_add h.1 hn hr hl ha he hf ht).1, h.2.1, h.2.2⟩
section VAL
variable {A : Ab}
theorem setN_V {S : Sg} (h : A.V) (hS : S.V) : (setN A S).V := Ab.V.mk hS h.c4 h.hs h.f2 h.sn h.tl h.tc
theorem addR_V {r a e l f : Int} (h : A.V) (hf : f = 0 ∨ f = 1) : (addR A r a e l f).2.V := by
  unfold addR
  split
  · next c =>
    split
    · next c2 => exact setN_V (recA_V h) (addS_V h.nw c2.1 c.1 c.2.1 c.2.2.1 c.2.2.2 hf c2.2)
    · exact h
  · exact h
theorem dropR_V (h : A.V) : (dropR A).2.V := by
  unfold dropR
  split
  · exact h
  · obtain ⟨⟨v1, v2, v3, v4⟩, hT, hG⟩ := h.nw
    exact setN_V (recA_V h) ⟨⟨show A.now.n - 1 ≤ 40 by omega, fun k hk => v2 k (Nat.lt_of_lt_of_le hk (Nat.sub_le _ _)), fun hk => v3 (Nat.lt_of_lt_of_le hk (Nat.sub_le _ _)), fun k hk => v4 k (Nat.lt_of_lt_of_le hk (Nat.sub_le _ _))⟩, hT, hG⟩
theorem setR_V {j v : Int} (h : A.V) : (setR A j v).2.V := by
  unfold setR
  split
  · next c =>
    split
    · next c2 =>
      split
      · exact h
      · exact setN_V (recA_V h) (setS_V h.nw c c2)
    · exact h
  · exact h
theorem singR_V {t c p : Int} (h : A.V) : (singR A t c p).2.V := by
  unfold singR
  split
  · exact setN_V (recA_V h) (vcS_V h.nw _ _ _)
  · exact h
theorem silR_V {t c : Int} (h : A.V) : (silR A t c).2.V := by
  unfold silR
  split
  · exact setN_V (recA_V h) (vcS_V h.nw _ _ _)
  · exact h
theorem salR_V {f l y : Int} (h : A.V) : (salR A f l y).2.V := by
  unfold salR
  split
  · split
    · exact setN_V (recA_V h) (vwS_V h.nw _ _ _)
    · exact h
  · exact h
theorem undR_V (h : A.V) : (undR A).2.V := by
  unfold undR
  split
  · exact h
  · next c =>
    have := h.c4
    exact Ab.V.mk (h.hs (A.c - 1) (by omega)) (show A.c - 1 ≤ 4 by omega) (fun i hi => h.hs i (Nat.lt_of_lt_of_le hi (Nat.sub_le _ _))) h.f2 h.sn h.tl h.tc
end VAL
