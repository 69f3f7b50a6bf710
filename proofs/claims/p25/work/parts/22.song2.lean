/-- the tick behind the last one -/
def tk (n : Nat) (D : Nat → Nat → Int) : Int := if n = 0 then 0 else D (n - 1) 0 + D (n - 1) 1
theorem tk_b {n : Nat} {D : Nat → Nat → Int} (h : VD n D) : 0 ≤ tk n D ∧ tk n D ≤ 600 := by
  unfold tk
  split
  · omega
  · have := h.2.1 (n - 1) (by omega)
    omega
/-- the wanted pitch -/
def wn (D : Nat → Nat → Int) (i : Nat) (j : Int) : Int := if D i 1 = 1 then D i 2 else D i 2 + ((D i 3 - D i 2) * j).tdiv (D i 1 - 1)
theorem tdiv_b {a b : Int} (hb : 1 ≤ b) {c : Int} (h1 : -c ≤ a) (h2 : a ≤ c) : -c ≤ a.tdiv b ∧ a.tdiv b ≤ c := by
  have h3 : (a.tdiv b).natAbs = a.natAbs / b.natAbs := Int.natAbs_tdiv a b
  have h4 : a.natAbs / b.natAbs ≤ a.natAbs := Nat.div_le_self _ _
  omega
theorem mul_b {x y : Int} {a b : Nat} (h1 : -a ≤ x) (h2 : x ≤ a) (h3 : 0 ≤ y) (h4 : y ≤ b) : -((a * b : Nat) : Int) ≤ x * y ∧ x * y ≤ ((a * b : Nat) : Int) := by
  have h5 : (x * y).natAbs = x.natAbs * y.natAbs := Int.natAbs_mul x y
  have h6 : x.natAbs * y.natAbs ≤ a * b := Nat.mul_le_mul (by omega) (by omega)
  omega
section SONG2
variable {K : Int → Mm → Prop} {M : Mm} {k n : Nat} {D : Nat → Nat → Int}
theorem e_ticks (h : CS M k n D) (hv : VD n D) : m_X3_ticks [.inr (some k)] K M ↔ K (tk n D) M := by
  have h40 := h.2.1
  simp only [m_X3_ticks, mk0, B_X3_ticks, iC, iL, iF, iA, iAc, iLen, iT, iAdd, iSub, iMul, iDiv, iRem, iNeg, iCh, iAnd31, iQ, iMax, iMin, iAbs, iCallS, iCallV, aN, aI, aR, rL, rF, rA, cEq, cNe, cLt, cGe, cGt, cLe, cAnd, cOr, cNot, cNull, sSkip, sSeq, sLoc, sLocR, sInc, sPut, sPutR, sPutAdd, sPutSub, sAst, sCst, sRst, sAstAdd, sAstSub, sIf1, sIf, sRet, sRetV, sCallV, sCallS, sPop, sCopy, sCopyT, sObj, sSw, iAddW, iMulW, iAndM, iShr, cQ, ent_0, ent_1, ent_2, ent_3, ent_4, ent_5, ent_6, va_up_self, va_up_ne, ne_eq, Nat.reduceEqDiff, not_false_eq_true, not_true_eq_false, si_1, si_2, si_g, sr_1, sr_2, cp_1, cp_2, List.length_cons, List.length_nil, Nat.reduceAdd, true_and, and_true, and_self, eq_self, true_implies, forall_const, Bool.false_eq_true, false_implies, or_true, true_or, Option.some.injEq, Prod.mk.injEq, exists_eq_left', exists_eq', exists_and_left, reduceIte, Int.reduceEq, Int.reduceNe, h.1.o, h.2.2.1, e_beginningOf h, e_lengthOf h]
  have hi : inR ((n : Int) - 1) := inR_s (by omega) (by omega)
  simp only [hi, true_and]
  by_cases h0 : n = 0
  · subst h0
    have a0 : ∀ w, at0 0 D w (((0 : Nat) : Int) - 1) = 0 := fun w => by
      unfold at0
      rw [if_neg (by omega)]
    have : inR ((0 : Int) + 0) := inR_0
    simp only [a0, this, true_and]
    rfl
  · obtain ⟨m, rfl⟩ : ∃ m, n = m + 1 := ⟨n - 1, by omega⟩
    have e : (((m + 1 : Nat) : Int) - 1) = (m : Nat) := by omega
    rw [e, at0_in (Nat.lt_succ_self m), at0_in (Nat.lt_succ_self m)]
    have := hv.2.1 m (Nat.lt_succ_self m)
    have hr : inR (D m 0 + D m 1) := inR_s (by omega) (by omega)
    simp only [hr, true_and]
    unfold tk
    rw [if_neg h0]
    rfl
theorem e_phraseCount (h : CS M k n D) (hv : VD n D) : m_X3_phraseCount [.inr (some k)] K M ↔ K (cnt1 D n) M := by
  have h40 := h.2.1
  simp only [m_X3_phraseCount, mk0, B_X3_phraseCount, iC, iL, iF, iA, iAc, iLen, iT, iAdd, iSub, iMul, iDiv, iRem, iNeg, iCh, iAnd31, iQ, iMax, iMin, iAbs, iCallS, iCallV, aN, aI, aR, rL, rF, rA, cEq, cNe, cLt, cGe, cGt, cLe, cAnd, cOr, cNot, cNull, sSkip, sSeq, sLoc, sLocR, sInc, sPut, sPutR, sPutAdd, sPutSub, sAst, sCst, sRst, sAstAdd, sAstSub, sIf1, sIf, sRet, sRetV, sCallV, sCallS, sPop, sCopy, sCopyT, sObj, sSw, iAddW, iMulW, iAndM, iShr, cQ, ent_0, ent_1, ent_2, ent_3, ent_4, ent_5, ent_6, va_up_self, va_up_ne, ne_eq, Nat.reduceEqDiff, not_false_eq_true, not_true_eq_false, si_1, si_2, si_g, sr_1, sr_2, cp_1, cp_2, List.length_cons, List.length_nil, Nat.reduceAdd, true_and, and_true, and_self, eq_self, true_implies, forall_const, Bool.false_eq_true, false_implies, or_true, true_or, Option.some.injEq, Prod.mk.injEq, exists_eq_left', exists_eq', exists_and_left, reduceIte, Int.reduceEq, Int.reduceNe, h.1.o, h.2.2.1, e_phraseOf h]
  by_cases h0 : n = 0
  · subst h0
    rw [if_pos (by rfl)]
    rfl
  · obtain ⟨m, rfl⟩ : ∃ m, n = m + 1 := ⟨n - 1, by omega⟩
    have e : (((m + 1 : Nat) : Int) - 1) = (m : Nat) := by omega
    have hne : ¬ (((m + 1 : Nat) : Int) = 0) := by omega
    have hb := ph_b hv (Nat.lt_succ_self m)
    have hi : inR (m : Int) := inR_s (by omega) (by omega)
    have hr : inR (ph D m + 1) := inR_s (by omega) (by omega)
    have e2 : ph D m + 1 = cnt1 D (m + 1) := by unfold ph; omega
    rw [if_neg hne, e, phA_in (Nat.lt_succ_self m)]
    rw [e2] at hr
    simp only [hi, true_and, e2, hr]
theorem e_hasRoomFor {r l : Int} (h : CS M k n D) (hv : VD n D) (hr : 0 ≤ r ∧ r ≤ 32) (hl : 0 ≤ l ∧ l ≤ 32) : m_X3_hasRoomFor [.inr (some k), .inl r, .inl l] K M ↔ K (if n < 40 ∧ tk n D + r + l ≤ 600 then 1 else 0) M := by
  have h40 := h.2.1
  have hb := tk_b hv
  have h1 : inR (tk n D + r) := inR_s (by omega) (by omega)
  have h2 : inR (tk n D + r + l) := inR_s (by omega) (by omega)
  simp only [m_X3_hasRoomFor, mk0, B_X3_hasRoomFor, iC, iL, iF, iA, iAc, iLen, iT, iAdd, iSub, iMul, iDiv, iRem, iNeg, iCh, iAnd31, iQ, iMax, iMin, iAbs, iCallS, iCallV, aN, aI, aR, rL, rF, rA, cEq, cNe, cLt, cGe, cGt, cLe, cAnd, cOr, cNot, cNull, sSkip, sSeq, sLoc, sLocR, sInc, sPut, sPutR, sPutAdd, sPutSub, sAst, sCst, sRst, sAstAdd, sAstSub, sIf1, sIf, sRet, sRetV, sCallV, sCallS, sPop, sCopy, sCopyT, sObj, sSw, iAddW, iMulW, iAndM, iShr, cQ, ent_0, ent_1, ent_2, ent_3, ent_4, ent_5, ent_6, va_up_self, va_up_ne, ne_eq, Nat.reduceEqDiff, not_false_eq_true, not_true_eq_false, si_1, si_2, si_g, sr_1, sr_2, cp_1, cp_2, List.length_cons, List.length_nil, Nat.reduceAdd, true_and, and_true, and_self, eq_self, true_implies, forall_const, Bool.false_eq_true, false_implies, or_true, true_or, Option.some.injEq, Prod.mk.injEq, exists_eq_left', exists_eq', exists_and_left, reduceIte, Int.reduceEq, Int.reduceNe, h.1.o, h.2.2.1, e_ticks h hv, h1, h2]
  (repeat' split) <;> first | rfl | (exfalso; omega)
theorem e_beginsPhrase {i : Nat} (h : CS M k n D) (hv : VD n D) (hi : i < n) : m_X3_beginsPhrase [.inr (some k), .inl i] K M ↔ K (if D i 4 = 1 then 1 else 0) M := by
  have h40 := h.2.1
  have h3 : inR ((i : Int) - 1) := inR_s (by omega) (by omega)
  simp only [m_X3_beginsPhrase, mk0, B_X3_beginsPhrase, iC, iL, iF, iA, iAc, iLen, iT, iAdd, iSub, iMul, iDiv, iRem, iNeg, iCh, iAnd31, iQ, iMax, iMin, iAbs, iCallS, iCallV, aN, aI, aR, rL, rF, rA, cEq, cNe, cLt, cGe, cGt, cLe, cAnd, cOr, cNot, cNull, sSkip, sSeq, sLoc, sLocR, sInc, sPut, sPutR, sPutAdd, sPutSub, sAst, sCst, sRst, sAstAdd, sAstSub, sIf1, sIf, sRet, sRetV, sCallV, sCallS, sPop, sCopy, sCopyT, sObj, sSw, iAddW, iMulW, iAndM, iShr, cQ, ent_0, ent_1, ent_2, ent_3, ent_4, ent_5, ent_6, va_up_self, va_up_ne, ne_eq, Nat.reduceEqDiff, not_false_eq_true, not_true_eq_false, si_1, si_2, si_g, sr_1, sr_2, cp_1, cp_2, List.length_cons, List.length_nil, Nat.reduceAdd, true_and, and_true, and_self, eq_self, true_implies, forall_const, Bool.false_eq_true, false_implies, or_true, true_or, Option.some.injEq, Prod.mk.injEq, exists_eq_left', exists_eq', exists_and_left, reduceIte, Int.reduceEq, Int.reduceNe, h.1.o, h.2.2.1, e_phraseOf h, h3]
  by_cases h0 : i = 0
  · subst h0
    have := hv.2.2.1 hi
    simp [this]
  · obtain ⟨m, rfl⟩ : ∃ m, i = m + 1 := ⟨i - 1, by omega⟩
    have e : (((m + 1 : Nat) : Int) - 1) = (m : Nat) := by omega
    have hne : ¬ (((m + 1 : Nat) : Int) = 0) := by omega
    rw [e, phA_in hi, phA_in (by omega : m < n), ph_s, if_neg hne]
    have h4 := (hv.2.1 (m + 1) hi).2.2.2.2.2.2.2.2
    have h5 : ¬ ph D m + 1 = ph D m := by omega
    rcases h4 with h4 | h4 <;> simp [h4, h5]
theorem wn_b {i : Nat} {j : Int} (hv : VD n D) (hi : i < n) (hj : 0 ≤ j ∧ j ≤ 32) : -2000 ≤ wn D i j ∧ wn D i j ≤ 2000 ∧ -1920 ≤ (D i 3 - D i 2) * j ∧ (D i 3 - D i 2) * j ≤ 1920 ∧ (2 ≤ D i 1 → -1920 ≤ ((D i 3 - D i 2) * j).tdiv (D i 1 - 1) ∧ ((D i 3 - D i 2) * j).tdiv (D i 1 - 1) ≤ 1920) := by
  have h1 := hv.2.1 i hi
  have h2 := mul_b (x := D i 3 - D i 2) (y := j) (a := 60) (b := 32) (by omega) (by omega) hj.1 (by omega)
  have h3 : 2 ≤ D i 1 → -1920 ≤ ((D i 3 - D i 2) * j).tdiv (D i 1 - 1) ∧ ((D i 3 - D i 2) * j).tdiv (D i 1 - 1) ≤ 1920 := fun h => tdiv_b (by omega) (by omega) (by omega)
  refine ⟨?_, ?_, by omega, by omega, h3⟩ <;> unfold wn <;> split <;> omega
theorem e_wantedOf {i : Nat} {j : Int} (h : CS M k n D) (hv : VD n D) (hi : i < n) (hj : 0 ≤ j ∧ j ≤ 32) : m_X3_wantedOf [.inr (some k), .inl i, .inl j] K M ↔ K (wn D i j) M := by
  have h40 := h.2.1
  have h1 := hv.2.1 i hi
  obtain ⟨b1, b2, b3, b4, b5⟩ := wn_b hv hi hj
  have r1 : inR (D i 1 - 1) := inR_s (by omega) (by omega)
  have r2 : inR (D i 3 - D i 2) := inR_s (by omega) (by omega)
  have r3 : inR ((D i 3 - D i 2) * j) := inR_s (by omega) (by omega)
  simp only [m_X3_wantedOf, mk0, B_X3_wantedOf, iC, iL, iF, iA, iAc, iLen, iT, iAdd, iSub, iMul, iDiv, iRem, iNeg, iCh, iAnd31, iQ, iMax, iMin, iAbs, iCallS, iCallV, aN, aI, aR, rL, rF, rA, cEq, cNe, cLt, cGe, cGt, cLe, cAnd, cOr, cNot, cNull, sSkip, sSeq, sLoc, sLocR, sInc, sPut, sPutR, sPutAdd, sPutSub, sAst, sCst, sRst, sAstAdd, sAstSub, sIf1, sIf, sRet, sRetV, sCallV, sCallS, sPop, sCopy, sCopyT, sObj, sSw, iAddW, iMulW, iAndM, iShr, cQ, ent_0, ent_1, ent_2, ent_3, ent_4, ent_5, ent_6, va_up_self, va_up_ne, ne_eq, Nat.reduceEqDiff, not_false_eq_true, not_true_eq_false, si_1, si_2, si_g, sr_1, sr_2, cp_1, cp_2, List.length_cons, List.length_nil, Nat.reduceAdd, true_and, and_true, and_self, eq_self, true_implies, forall_const, Bool.false_eq_true, false_implies, or_true, true_or, Option.some.injEq, Prod.mk.injEq, exists_eq_left', exists_eq', exists_and_left, reduceIte, Int.reduceEq, Int.reduceNe, h.1.o, h.2.2.1, e_lengthOf h, e_pitchOf h, e_endPitchOf h, at0_in hi, r1, r2, r3]
  unfold wn at b1 b2 ⊢
  by_cases hl : D i 1 = 1
  · have : D i 1 - 1 < 1 := by omega
    simp only [hl, this, if_true]
    simp
  · have h5 := b5 (by omega)
    rw [if_neg hl] at b1 b2 ⊢
    have n1 : ¬ (D i 1 - 1 < 1) := by omega
    have n2 : ¬ (D i 1 - 1 = 0) := by omega
    have r4 : inR (((D i 3 - D i 2) * j).tdiv (D i 1 - 1)) := inR_s (by omega) (by omega)
    have r5 : inR (D i 2 + ((D i 3 - D i 2) * j).tdiv (D i 1 - 1)) := inR_s (by omega) (by omega)
    simp only [n1, n2, r4, r5, if_false, true_and, not_false_eq_true]
/-- the bar lines over which it is held -/
def bl (D : Nat → Nat → Int) (i : Nat) (b : Int) : Int := (D i 0 + D i 1 - 1).tdiv b - (D i 0).tdiv b
theorem tdiv_nn {a b : Int} (ha : 0 ≤ a) (hb : 1 ≤ b) : 0 ≤ a.tdiv b ∧ a.tdiv b ≤ a := by
  rw [Int.tdiv_eq_ediv_of_nonneg ha]
  exact ⟨Int.ediv_nonneg ha (by omega), Int.ediv_le_self _ ha⟩
theorem e_barLinesOf {i : Nat} {b : Int} (h : CS M k n D) (hv : VD n D) (hi : i < n) (hb : 1 ≤ b) : m_X3_barLinesOf [.inr (some k), .inl i, .inl b] K M ↔ K (bl D i b) M := by
  have h40 := h.2.1
  have h1 := hv.2.1 i hi
  have d1 := tdiv_nn (a := D i 0 + D i 1 - 1) (b := b) (by omega) hb
  have d2 := tdiv_nn (a := D i 0) (b := b) (by omega) hb
  have n0 : ¬ b = 0 := by omega
  have n1 : ¬ b < 1 := by omega
  have r1 : inR (D i 0 + D i 1) := inR_s (by omega) (by omega)
  have r2 : inR (D i 0 + D i 1 - 1) := inR_s (by omega) (by omega)
  have r3 : inR ((D i 0 + D i 1 - 1).tdiv b) := inR_s (by omega) (by omega)
  have r4 : inR ((D i 0).tdiv b) := inR_s (by omega) (by omega)
  have r5 : inR ((D i 0 + D i 1 - 1).tdiv b - (D i 0).tdiv b) := inR_s (by omega) (by omega)
  simp only [m_X3_barLinesOf, mk0, B_X3_barLinesOf, iC, iL, iF, iA, iAc, iLen, iT, iAdd, iSub, iMul, iDiv, iRem, iNeg, iCh, iAnd31, iQ, iMax, iMin, iAbs, iCallS, iCallV, aN, aI, aR, rL, rF, rA, cEq, cNe, cLt, cGe, cGt, cLe, cAnd, cOr, cNot, cNull, sSkip, sSeq, sLoc, sLocR, sInc, sPut, sPutR, sPutAdd, sPutSub, sAst, sCst, sRst, sAstAdd, sAstSub, sIf1, sIf, sRet, sRetV, sCallV, sCallS, sPop, sCopy, sCopyT, sObj, sSw, iAddW, iMulW, iAndM, iShr, cQ, ent_0, ent_1, ent_2, ent_3, ent_4, ent_5, ent_6, va_up_self, va_up_ne, ne_eq, Nat.reduceEqDiff, not_false_eq_true, not_true_eq_false, si_1, si_2, si_g, sr_1, sr_2, cp_1, cp_2, List.length_cons, List.length_nil, Nat.reduceAdd, true_and, and_true, and_self, eq_self, true_implies, forall_const, Bool.false_eq_true, false_implies, or_true, true_or, Option.some.injEq, Prod.mk.injEq, exists_eq_left', exists_eq', exists_and_left, reduceIte, Int.reduceEq, Int.reduceNe, h.1.o, h.2.2.1, e_lengthOf h, e_beginningOf h, at0_in hi, r1, r2, r3, r4, r5, n0, n1, if_false]
  rfl
end SONG2
