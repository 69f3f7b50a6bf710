/-- the Judge -/
def JdP (M : Mm) : Prop := M.1[69]? = some (1, 0) ∧ (M.1[70]? = some (20, 40) ∧ M.1[71]? = some (20, 40) ∧ M.1[72]? = some (20, 40) ∧ M.1[73]? = some (20, 40) ∧ M.1[74]? = some (20, 40) ∧ M.1[75]? = some (20, 40) ∧ M.1[76]? = some (20, 40) ∧ M.1[77]? = some (20, 40) ∧ M.1[78]? = some (20, 40) ∧ M.1[79]? = some (20, 40)) ∧ M.2.2 69 0 = some 70 ∧ M.2.2 69 1 = some 71 ∧ M.2.2 69 2 = some 72 ∧ M.2.2 69 3 = some 73 ∧ M.2.2 69 4 = some 74 ∧ M.2.2 69 5 = some 75 ∧ M.2.2 69 6 = some 76 ∧ M.2.2 69 7 = some 77 ∧ M.2.2 69 8 = some 78 ∧ M.2.2 69 9 = some 79
theorem JdP_fr {M M2 : Mm} (h : JdP M) (h1 : M2.1 = M.1) (h2 : M2.2.2 = M.2.2) : JdP M2 := by
  unfold JdP at *
  rw [h1, h2]
  exact h
def barB (b t : Int) : Bool := decide (0 < b ∧ 0 < t ∧ t.tmod b = 0)
theorem e_isBarLine {K : Int → Mm → Prop} {M : Mm} {t b : Int} (ht : 0 ≤ t ∧ t ≤ 1000) (hb : 1 ≤ b ∧ b ≤ 100) : m_X1_isBarLine [.inl t, .inl b] K M ↔ K (if barB b t = true then 1 else 0) M := by
  have n0 : ¬ b = 0 := by omega
  have h1 : 0 ≤ t.tmod b ∧ t.tmod b < b := by
    rw [Int.tmod_eq_emod_of_nonneg ht.1]
    exact ⟨Int.emod_nonneg _ n0, Int.emod_lt_of_pos _ (by omega)⟩
  have r1 : inR (t.tmod b) := inR_s (by omega) (by omega)
  simp only [m_X1_isBarLine, mk0, B_X1_isBarLine, iC, iL, iF, iA, iAc, iLen, iT, iAdd, iSub, iMul, iDiv, iRem, iNeg, iCh, iAnd31, iQ, iMax, iMin, iAbs, iCallS, iCallV, aN, aI, aR, rL, rF, rA, cEq, cNe, cLt, cGe, cGt, cLe, cAnd, cOr, cNot, cNull, sSkip, sSeq, sLoc, sLocR, sInc, sPut, sPutR, sPutAdd, sPutSub, sAst, sCst, sRst, sAstAdd, sAstSub, sIf1, sIf, sRet, sRetV, sCallV, sCallS, sPop, sCopy, sCopyT, sObj, sSw, iAddW, iMulW, iAndM, iShr, cQ, ent_0, ent_1, ent_2, ent_3, ent_4, ent_5, ent_6, va_up_self, va_up_ne, ne_eq, Nat.reduceEqDiff, not_false_eq_true, not_true_eq_false, si_1, si_2, si_g, sr_1, sr_2, cp_1, cp_2, List.length_cons, List.length_nil, Nat.reduceAdd, true_and, and_true, and_self, eq_self, true_implies, forall_const, Bool.false_eq_true, false_implies, or_true, true_or, Option.some.injEq, Prod.mk.injEq, exists_eq_left', exists_eq', exists_and_left, reduceIte, Int.reduceEq, Int.reduceNe, r1, n0]
  unfold barB
  have hb0 : 0 < b := by omega
  by_cases c1 : 0 < t <;> by_cases c2 : t.tmod b = 0 <;> simp [c1, c2, hb0]
theorem e_valueIn {K : Int → Mm → Prop} {M : Mm} {q : Nat} {i : Nat} (hq : M.1[q]? = some (20, 40)) (hi : i < 40) : m_X1_valueIn [.inr (some q), .inl i] K M ↔ K (M.2.1 q i) M := by
  have c1 : (0 : Int) ≤ i := by omega
  have c2 : (i : Int) < (40 : Nat) := by omega
  simp only [m_X1_valueIn, mk0, B_X1_valueIn, iC, iL, iF, iA, iAc, iLen, iT, iAdd, iSub, iMul, iDiv, iRem, iNeg, iCh, iAnd31, iQ, iMax, iMin, iAbs, iCallS, iCallV, aN, aI, aR, rL, rF, rA, cEq, cNe, cLt, cGe, cGt, cLe, cAnd, cOr, cNot, cNull, sSkip, sSeq, sLoc, sLocR, sInc, sPut, sPutR, sPutAdd, sPutSub, sAst, sCst, sRst, sAstAdd, sAstSub, sIf1, sIf, sRet, sRetV, sCallV, sCallS, sPop, sCopy, sCopyT, sObj, sSw, iAddW, iMulW, iAndM, iShr, cQ, ent_0, ent_1, ent_2, ent_3, ent_4, ent_5, ent_6, va_up_self, va_up_ne, ne_eq, Nat.reduceEqDiff, not_false_eq_true, not_true_eq_false, si_1, si_2, si_g, sr_1, sr_2, cp_1, cp_2, List.length_cons, List.length_nil, Nat.reduceAdd, true_and, and_true, and_self, eq_self, true_implies, forall_const, Bool.false_eq_true, false_implies, or_true, true_or, Option.some.injEq, Prod.mk.injEq, exists_eq_left', exists_eq', exists_and_left, reduceIte, Int.reduceEq, Int.reduceNe, hq, c1, c2]
  simp
section ACC
variable {K : Int → Mm → Prop} {M : Mm} {i : Nat}
theorem e_matchesOf (h : JdP M) (hi : i < 40) : m_X1_matchesOf [.inr (some 69), .inl i] K M ↔ K (M.2.1 70 i) M := by
  obtain ⟨h0, hA, hR⟩ := h
  have hq : M.1[70]? = some (20, 40) := by simp only [hA]
  simp only [m_X1_matchesOf, mk0, B_X1_matchesOf, iC, iL, iF, iA, iAc, iLen, iT, iAdd, iSub, iMul, iDiv, iRem, iNeg, iCh, iAnd31, iQ, iMax, iMin, iAbs, iCallS, iCallV, aN, aI, aR, rL, rF, rA, cEq, cNe, cLt, cGe, cGt, cLe, cAnd, cOr, cNot, cNull, sSkip, sSeq, sLoc, sLocR, sInc, sPut, sPutR, sPutAdd, sPutSub, sAst, sCst, sRst, sAstAdd, sAstSub, sIf1, sIf, sRet, sRetV, sCallV, sCallS, sPop, sCopy, sCopyT, sObj, sSw, iAddW, iMulW, iAndM, iShr, cQ, ent_0, ent_1, ent_2, ent_3, ent_4, ent_5, ent_6, va_up_self, va_up_ne, ne_eq, Nat.reduceEqDiff, not_false_eq_true, not_true_eq_false, si_1, si_2, si_g, sr_1, sr_2, cp_1, cp_2, List.length_cons, List.length_nil, Nat.reduceAdd, true_and, and_true, and_self, eq_self, true_implies, forall_const, Bool.false_eq_true, false_implies, or_true, true_or, Option.some.injEq, Prod.mk.injEq, exists_eq_left', exists_eq', exists_and_left, reduceIte, Int.reduceEq, Int.reduceNe, h0, hR, e_valueIn hq hi]
theorem e_shareOf (h : JdP M) (hi : i < 40) : m_X1_shareOf [.inr (some 69), .inl i] K M ↔ K (M.2.1 71 i) M := by
  obtain ⟨h0, hA, hR⟩ := h
  have hq : M.1[71]? = some (20, 40) := by simp only [hA]
  simp only [m_X1_shareOf, mk0, B_X1_shareOf, iC, iL, iF, iA, iAc, iLen, iT, iAdd, iSub, iMul, iDiv, iRem, iNeg, iCh, iAnd31, iQ, iMax, iMin, iAbs, iCallS, iCallV, aN, aI, aR, rL, rF, rA, cEq, cNe, cLt, cGe, cGt, cLe, cAnd, cOr, cNot, cNull, sSkip, sSeq, sLoc, sLocR, sInc, sPut, sPutR, sPutAdd, sPutSub, sAst, sCst, sRst, sAstAdd, sAstSub, sIf1, sIf, sRet, sRetV, sCallV, sCallS, sPop, sCopy, sCopyT, sObj, sSw, iAddW, iMulW, iAndM, iShr, cQ, ent_0, ent_1, ent_2, ent_3, ent_4, ent_5, ent_6, va_up_self, va_up_ne, ne_eq, Nat.reduceEqDiff, not_false_eq_true, not_true_eq_false, si_1, si_2, si_g, sr_1, sr_2, cp_1, cp_2, List.length_cons, List.length_nil, Nat.reduceAdd, true_and, and_true, and_self, eq_self, true_implies, forall_const, Bool.false_eq_true, false_implies, or_true, true_or, Option.some.injEq, Prod.mk.injEq, exists_eq_left', exists_eq', exists_and_left, reduceIte, Int.reduceEq, Int.reduceNe, h0, hR, e_valueIn hq hi]
theorem e_onsetOf (h : JdP M) (hi : i < 40) : m_X1_onsetOf [.inr (some 69), .inl i] K M ↔ K (M.2.1 73 i) M := by
  obtain ⟨h0, hA, hR⟩ := h
  have hq : M.1[73]? = some (20, 40) := by simp only [hA]
  simp only [m_X1_onsetOf, mk0, B_X1_onsetOf, iC, iL, iF, iA, iAc, iLen, iT, iAdd, iSub, iMul, iDiv, iRem, iNeg, iCh, iAnd31, iQ, iMax, iMin, iAbs, iCallS, iCallV, aN, aI, aR, rL, rF, rA, cEq, cNe, cLt, cGe, cGt, cLe, cAnd, cOr, cNot, cNull, sSkip, sSeq, sLoc, sLocR, sInc, sPut, sPutR, sPutAdd, sPutSub, sAst, sCst, sRst, sAstAdd, sAstSub, sIf1, sIf, sRet, sRetV, sCallV, sCallS, sPop, sCopy, sCopyT, sObj, sSw, iAddW, iMulW, iAndM, iShr, cQ, ent_0, ent_1, ent_2, ent_3, ent_4, ent_5, ent_6, va_up_self, va_up_ne, ne_eq, Nat.reduceEqDiff, not_false_eq_true, not_true_eq_false, si_1, si_2, si_g, sr_1, sr_2, cp_1, cp_2, List.length_cons, List.length_nil, Nat.reduceAdd, true_and, and_true, and_self, eq_self, true_implies, forall_const, Bool.false_eq_true, false_implies, or_true, true_or, Option.some.injEq, Prod.mk.injEq, exists_eq_left', exists_eq', exists_and_left, reduceIte, Int.reduceEq, Int.reduceNe, h0, hR, e_valueIn hq hi]
theorem e_reasonOf (h : JdP M) (hi : i < 40) : m_X1_reasonOf [.inr (some 69), .inl i] K M ↔ K (M.2.1 74 i) M := by
  obtain ⟨h0, hA, hR⟩ := h
  have hq : M.1[74]? = some (20, 40) := by simp only [hA]
  simp only [m_X1_reasonOf, mk0, B_X1_reasonOf, iC, iL, iF, iA, iAc, iLen, iT, iAdd, iSub, iMul, iDiv, iRem, iNeg, iCh, iAnd31, iQ, iMax, iMin, iAbs, iCallS, iCallV, aN, aI, aR, rL, rF, rA, cEq, cNe, cLt, cGe, cGt, cLe, cAnd, cOr, cNot, cNull, sSkip, sSeq, sLoc, sLocR, sInc, sPut, sPutR, sPutAdd, sPutSub, sAst, sCst, sRst, sAstAdd, sAstSub, sIf1, sIf, sRet, sRetV, sCallV, sCallS, sPop, sCopy, sCopyT, sObj, sSw, iAddW, iMulW, iAndM, iShr, cQ, ent_0, ent_1, ent_2, ent_3, ent_4, ent_5, ent_6, va_up_self, va_up_ne, ne_eq, Nat.reduceEqDiff, not_false_eq_true, not_true_eq_false, si_1, si_2, si_g, sr_1, sr_2, cp_1, cp_2, List.length_cons, List.length_nil, Nat.reduceAdd, true_and, and_true, and_self, eq_self, true_implies, forall_const, Bool.false_eq_true, false_implies, or_true, true_or, Option.some.injEq, Prod.mk.injEq, exists_eq_left', exists_eq', exists_and_left, reduceIte, Int.reduceEq, Int.reduceNe, h0, hR, e_valueIn hq hi]
theorem e_pointsOf (h : JdP M) (hi : i < 40) : m_X1_pointsOf [.inr (some 69), .inl i] K M ↔ K (M.2.1 76 i) M := by
  obtain ⟨h0, hA, hR⟩ := h
  have hq : M.1[76]? = some (20, 40) := by simp only [hA]
  simp only [m_X1_pointsOf, mk0, B_X1_pointsOf, iC, iL, iF, iA, iAc, iLen, iT, iAdd, iSub, iMul, iDiv, iRem, iNeg, iCh, iAnd31, iQ, iMax, iMin, iAbs, iCallS, iCallV, aN, aI, aR, rL, rF, rA, cEq, cNe, cLt, cGe, cGt, cLe, cAnd, cOr, cNot, cNull, sSkip, sSeq, sLoc, sLocR, sInc, sPut, sPutR, sPutAdd, sPutSub, sAst, sCst, sRst, sAstAdd, sAstSub, sIf1, sIf, sRet, sRetV, sCallV, sCallS, sPop, sCopy, sCopyT, sObj, sSw, iAddW, iMulW, iAndM, iShr, cQ, ent_0, ent_1, ent_2, ent_3, ent_4, ent_5, ent_6, va_up_self, va_up_ne, ne_eq, Nat.reduceEqDiff, not_false_eq_true, not_true_eq_false, si_1, si_2, si_g, sr_1, sr_2, cp_1, cp_2, List.length_cons, List.length_nil, Nat.reduceAdd, true_and, and_true, and_self, eq_self, true_implies, forall_const, Bool.false_eq_true, false_implies, or_true, true_or, Option.some.injEq, Prod.mk.injEq, exists_eq_left', exists_eq', exists_and_left, reduceIte, Int.reduceEq, Int.reduceNe, h0, hR, e_valueIn hq hi]
theorem e_rowAheadOf (h : JdP M) (hi : i < 40) : m_X1_rowAheadOf [.inr (some 69), .inl i] K M ↔ K (M.2.1 75 i) M := by
  obtain ⟨h0, hA, hR⟩ := h
  have hq : M.1[75]? = some (20, 40) := by simp only [hA]
  simp only [m_X1_rowAheadOf, mk0, B_X1_rowAheadOf, iC, iL, iF, iA, iAc, iLen, iT, iAdd, iSub, iMul, iDiv, iRem, iNeg, iCh, iAnd31, iQ, iMax, iMin, iAbs, iCallS, iCallV, aN, aI, aR, rL, rF, rA, cEq, cNe, cLt, cGe, cGt, cLe, cAnd, cOr, cNot, cNull, sSkip, sSeq, sLoc, sLocR, sInc, sPut, sPutR, sPutAdd, sPutSub, sAst, sCst, sRst, sAstAdd, sAstSub, sIf1, sIf, sRet, sRetV, sCallV, sCallS, sPop, sCopy, sCopyT, sObj, sSw, iAddW, iMulW, iAndM, iShr, cQ, ent_0, ent_1, ent_2, ent_3, ent_4, ent_5, ent_6, va_up_self, va_up_ne, ne_eq, Nat.reduceEqDiff, not_false_eq_true, not_true_eq_false, si_1, si_2, si_g, sr_1, sr_2, cp_1, cp_2, List.length_cons, List.length_nil, Nat.reduceAdd, true_and, and_true, and_self, eq_self, true_implies, forall_const, Bool.false_eq_true, false_implies, or_true, true_or, Option.some.injEq, Prod.mk.injEq, exists_eq_left', exists_eq', exists_and_left, reduceIte, Int.reduceEq, Int.reduceNe, h0, hR, e_valueIn hq hi]
theorem e_phraseHitsOf (h : JdP M) (hi : i < 40) : m_X1_phraseHitsOf [.inr (some 69), .inl i] K M ↔ K (M.2.1 77 i) M := by
  obtain ⟨h0, hA, hR⟩ := h
  have hq : M.1[77]? = some (20, 40) := by simp only [hA]
  simp only [m_X1_phraseHitsOf, mk0, B_X1_phraseHitsOf, iC, iL, iF, iA, iAc, iLen, iT, iAdd, iSub, iMul, iDiv, iRem, iNeg, iCh, iAnd31, iQ, iMax, iMin, iAbs, iCallS, iCallV, aN, aI, aR, rL, rF, rA, cEq, cNe, cLt, cGe, cGt, cLe, cAnd, cOr, cNot, cNull, sSkip, sSeq, sLoc, sLocR, sInc, sPut, sPutR, sPutAdd, sPutSub, sAst, sCst, sRst, sAstAdd, sAstSub, sIf1, sIf, sRet, sRetV, sCallV, sCallS, sPop, sCopy, sCopyT, sObj, sSw, iAddW, iMulW, iAndM, iShr, cQ, ent_0, ent_1, ent_2, ent_3, ent_4, ent_5, ent_6, va_up_self, va_up_ne, ne_eq, Nat.reduceEqDiff, not_false_eq_true, not_true_eq_false, si_1, si_2, si_g, sr_1, sr_2, cp_1, cp_2, List.length_cons, List.length_nil, Nat.reduceAdd, true_and, and_true, and_self, eq_self, true_implies, forall_const, Bool.false_eq_true, false_implies, or_true, true_or, Option.some.injEq, Prod.mk.injEq, exists_eq_left', exists_eq', exists_and_left, reduceIte, Int.reduceEq, Int.reduceNe, h0, hR, e_valueIn hq hi]
theorem e_phrasePointsOf (h : JdP M) (hi : i < 40) : m_X1_phrasePointsOf [.inr (some 69), .inl i] K M ↔ K (M.2.1 78 i) M := by
  obtain ⟨h0, hA, hR⟩ := h
  have hq : M.1[78]? = some (20, 40) := by simp only [hA]
  simp only [m_X1_phrasePointsOf, mk0, B_X1_phrasePointsOf, iC, iL, iF, iA, iAc, iLen, iT, iAdd, iSub, iMul, iDiv, iRem, iNeg, iCh, iAnd31, iQ, iMax, iMin, iAbs, iCallS, iCallV, aN, aI, aR, rL, rF, rA, cEq, cNe, cLt, cGe, cGt, cLe, cAnd, cOr, cNot, cNull, sSkip, sSeq, sLoc, sLocR, sInc, sPut, sPutR, sPutAdd, sPutSub, sAst, sCst, sRst, sAstAdd, sAstSub, sIf1, sIf, sRet, sRetV, sCallV, sCallS, sPop, sCopy, sCopyT, sObj, sSw, iAddW, iMulW, iAndM, iShr, cQ, ent_0, ent_1, ent_2, ent_3, ent_4, ent_5, ent_6, va_up_self, va_up_ne, ne_eq, Nat.reduceEqDiff, not_false_eq_true, not_true_eq_false, si_1, si_2, si_g, sr_1, sr_2, cp_1, cp_2, List.length_cons, List.length_nil, Nat.reduceAdd, true_and, and_true, and_self, eq_self, true_implies, forall_const, Bool.false_eq_true, false_implies, or_true, true_or, Option.some.injEq, Prod.mk.injEq, exists_eq_left', exists_eq', exists_and_left, reduceIte, Int.reduceEq, Int.reduceNe, h0, hR, e_valueIn hq hi]
theorem e_longestRowOf (h : JdP M) (hi : i < 40) : m_X1_longestRowOf [.inr (some 69), .inl i] K M ↔ K (M.2.1 79 i) M := by
  obtain ⟨h0, hA, hR⟩ := h
  have hq : M.1[79]? = some (20, 40) := by simp only [hA]
  simp only [m_X1_longestRowOf, mk0, B_X1_longestRowOf, iC, iL, iF, iA, iAc, iLen, iT, iAdd, iSub, iMul, iDiv, iRem, iNeg, iCh, iAnd31, iQ, iMax, iMin, iAbs, iCallS, iCallV, aN, aI, aR, rL, rF, rA, cEq, cNe, cLt, cGe, cGt, cLe, cAnd, cOr, cNot, cNull, sSkip, sSeq, sLoc, sLocR, sInc, sPut, sPutR, sPutAdd, sPutSub, sAst, sCst, sRst, sAstAdd, sAstSub, sIf1, sIf, sRet, sRetV, sCallV, sCallS, sPop, sCopy, sCopyT, sObj, sSw, iAddW, iMulW, iAndM, iShr, cQ, ent_0, ent_1, ent_2, ent_3, ent_4, ent_5, ent_6, va_up_self, va_up_ne, ne_eq, Nat.reduceEqDiff, not_false_eq_true, not_true_eq_false, si_1, si_2, si_g, sr_1, sr_2, cp_1, cp_2, List.length_cons, List.length_nil, Nat.reduceAdd, true_and, and_true, and_self, eq_self, true_implies, forall_const, Bool.false_eq_true, false_implies, or_true, true_or, Option.some.injEq, Prod.mk.injEq, exists_eq_left', exists_eq', exists_and_left, reduceIte, Int.reduceEq, Int.reduceNe, h0, hR, e_valueIn hq hi]
end ACC
theorem e_reasonFor {K : Int → Mm → Prop} {M : Mm} {i : Nat} {sc ns : Int} (h : JdP M) (hi : i < 40) : m_X1_reasonFor [.inr (some 69), .inl i, .inl sc, .inl ns] K M ↔ K (if sc = 0 then 1 else if M.2.1 70 i = 0 then 2 else if M.2.1 73 i = -5 then 3 else if M.2.1 71 i < ns then 4 else 0) M := by
  simp only [m_X1_reasonFor, mk0, B_X1_reasonFor, iC, iL, iF, iA, iAc, iLen, iT, iAdd, iSub, iMul, iDiv, iRem, iNeg, iCh, iAnd31, iQ, iMax, iMin, iAbs, iCallS, iCallV, aN, aI, aR, rL, rF, rA, cEq, cNe, cLt, cGe, cGt, cLe, cAnd, cOr, cNot, cNull, sSkip, sSeq, sLoc, sLocR, sInc, sPut, sPutR, sPutAdd, sPutSub, sAst, sCst, sRst, sAstAdd, sAstSub, sIf1, sIf, sRet, sRetV, sCallV, sCallS, sPop, sCopy, sCopyT, sObj, sSw, iAddW, iMulW, iAndM, iShr, cQ, ent_0, ent_1, ent_2, ent_3, ent_4, ent_5, ent_6, va_up_self, va_up_ne, ne_eq, Nat.reduceEqDiff, not_false_eq_true, not_true_eq_false, si_1, si_2, si_g, sr_1, sr_2, cp_1, cp_2, List.length_cons, List.length_nil, Nat.reduceAdd, true_and, and_true, and_self, eq_self, true_implies, forall_const, Bool.false_eq_true, false_implies, or_true, true_or, Option.some.injEq, Prod.mk.injEq, exists_eq_left', exists_eq', exists_and_left, reduceIte, Int.reduceEq, Int.reduceNe, h.1, e_matchesOf h hi, e_onsetOf h hi, e_shareOf h hi]
  (repeat' split) <;> first | rfl | simp_all
/-- what is sung at the tick number j of the syllable k, and whether it matches -/
def pj (D : Nat → Nat → Int) (sg : Nat → Int) (k j : Nat) : Int := sgA sg (D k 0 + j)
def mB (D : Nat → Nat → Int) (st sg : Nat → Int) (k j : Nat) : Bool := mt? st (pj D sg k j) (wn D k j)
def ahd (D : Nat → Nat → Int) (st sg : Nat → Int) (k : Nat) : Nat → Bool
  | 0 => false
  | j + 1 => mB D st sg k j
def scS (D : Nat → Nat → Int) (sg : Nat → Int) (k j : Nat) : Int := sm (fun i => if pj D sg k i = -1 then 0 else 1) j
def mcS (D : Nat → Nat → Int) (st sg : Nat → Int) (k j : Nat) : Int := sm (fun i => if mB D st sg k i = true then 1 else 0) j
def hlS (D : Nat → Nat → Int) (st sg : Nat → Int) (k j : Nat) : Int := sm (fun i => if mB D st sg k i = true ∧ ahd D st sg k i = true ∧ barB (st 0) (D k 0 + i) = true then 1 else 0) j
theorem scS_b (D : Nat → Nat → Int) (sg : Nat → Int) (k j : Nat) : 0 ≤ scS D sg k j ∧ scS D sg k j ≤ j := sm_01 (fun i _ => by split <;> omega)
theorem mcS_b (D : Nat → Nat → Int) (st sg : Nat → Int) (k j : Nat) : 0 ≤ mcS D st sg k j ∧ mcS D st sg k j ≤ j := sm_01 (fun i _ => by split <;> omega)
theorem hlS_b (D : Nat → Nat → Int) (st sg : Nat → Int) (k j : Nat) : 0 ≤ hlS D st sg k j ∧ hlS D st sg k j ≤ j := sm_01 (fun i _ => by split <;> omega)
def len (D : Nat → Nat → Int) (k : Nat) : Nat := (D k 1).toNat
def shV (D : Nat → Nat → Int) (st sg : Nat → Int) (k : Nat) : Int := (mcS D st sg k (len D k) * 100).tdiv (D k 1)
def rsV (D : Nat → Nat → Int) (st sg : Nat → Int) (k : Nat) : Int := if scS D sg k (len D k) = 0 then 1 else if mcS D st sg k (len D k) = 0 then 2 else if nrO st sg (D k 0) = -5 then 3 else if shV D st sg k < st 4 then 4 else 0
def hearM (M : Mm) (D : Nat → Nat → Int) (st sg : Nat → Int) (k : Nat) : Mm := si (si (si (si (si M 70 k (mcS D st sg k (len D k))) 71 k (shV D st sg k)) 72 k (hlS D st sg k (len D k))) 73 k (nrO st sg (D k 0))) 74 k (rsV D st sg k)
theorem shV_b {n : Nat} {D : Nat → Nat → Int} {st sg : Nat → Int} {k : Nat} (hv : VD n D) (hk : k < n) : 0 ≤ shV D st sg k ∧ shV D st sg k ≤ 3200 := by
  have h1 := hv.2.1 k hk
  have h2 := mcS_b D st sg k (len D k)
  have h3 : len D k ≤ 32 := by unfold len; omega
  have h4 := tdiv_nn (a := mcS D st sg k (len D k) * 100) (b := D k 1) (by omega) (by omega)
  unfold shV
  omega
section HEAR
variable {K : Int → Mm → Prop} {M : Mm} {s n : Nat} {D : Nat → Nat → Int} {st sg : Nat → Int}
set_option maxRecDepth 20000 in
set_option maxHeartbeats 1000000 in
theorem e_hear {k : Nat} (hj : JdP M) (h : SS M s n D st sg) (hs : s + 8 < 69) (hv : VD n D) (hst : VT st) (hg : VG sg) (hk : k < n) (hK : K 0 (hearM M D st sg k)) : m_X1_hear [.inr (some 69), .inr (some s), .inl k] K M := by
  have h40 := h.2.1.2.1
  have hb := hv.2.1 k hk
  have hlen : (len D k : Int) = D k 1 := by unfold len; omega
  have e0 : Int.toNat 0 = 0 := rfl
  have e4 : Int.toNat 4 = 4 := rfl
  obtain ⟨a1, a2, a3, a4, a5, a6, a7⟩ := h.1
  have c39 : (0 : Int) ≤ k ∧ (k : Int) ≤ 39 := by omega
  simp only [m_X1_hear, mk0, B_X1_hear, iC, iL, iF, iA, iAc, iLen, iT, iAdd, iSub, iMul, iDiv, iRem, iNeg, iCh, iAnd31, iQ, iMax, iMin, iAbs, iCallS, iCallV, aN, aI, aR, rL, rF, rA, cEq, cNe, cLt, cGe, cGt, cLe, cAnd, cOr, cNot, cNull, sSkip, sSeq, sLoc, sLocR, sInc, sPut, sPutR, sPutAdd, sPutSub, sAst, sCst, sRst, sAstAdd, sAstSub, sIf1, sIf, sRet, sRetV, sCallV, sCallS, sPop, sCopy, sCopyT, sObj, sSw, iAddW, iMulW, iAndM, iShr, cQ, ent_0, ent_1, ent_2, ent_3, ent_4, ent_5, ent_6, va_up_self, va_up_ne, ne_eq, Nat.reduceEqDiff, not_false_eq_true, not_true_eq_false, si_1, si_2, si_g, sr_1, sr_2, cp_1, cp_2, List.length_cons, List.length_nil, Nat.reduceAdd, true_and, and_true, and_self, eq_self, true_implies, forall_const, Bool.false_eq_true, false_implies, or_true, true_or, Option.some.injEq, Prod.mk.injEq, exists_eq_left', exists_eq', exists_and_left, reduceIte, Int.reduceEq, Int.reduceNe, e_isWithin, if_pos c39, a1, a2, a7.1, e_lengthOf h.2.1, e_beginningOf h.2.1, at0_in hk, e_setting h (j := 0) ⟨by decide, by decide⟩, e0, reduceIte, Int.reduceNe]
  refine while_n (n := len D k) (fun r ρ M2 => M2 = M ∧ ∃ j : Nat, j + r = len D k ∧ ρ 0 = .inr (some 69) ∧ ρ 1 = .inr (some s) ∧ ρ 2 = .inl (k : Int) ∧ ρ 3 = .inr (some (s + 1)) ∧ ρ 4 = .inl (D k 1) ∧ ρ 5 = .inl (D k 0) ∧ ρ 6 = .inl (st 0) ∧ ρ 7 = .inl (scS D sg k j) ∧ ρ 8 = .inl (mcS D st sg k j) ∧ ρ 9 = .inl (hlS D st sg k j) ∧ ρ 10 = .inl (if ahd D st sg k j = true then 1 else 0) ∧ ρ 11 = .inl (j : Int)) ?_ ⟨rfl, 0, by omega, rfl, rfl, rfl, rfl, rfl, rfl, rfl, rfl, rfl, rfl, rfl, rfl⟩
  rintro r W hW ρ M2 ⟨rfl, j, hr, h0, h1, h2, h3, h4, h5, h6, h7, h8, h9, h10, h11⟩
  simp only [h0, h1, h2, h3, h4, h5, h6, h7, h8, h9, h10, h11, iC, iL, iF, iA, iAc, iLen, iT, iAdd, iSub, iMul, iDiv, iRem, iNeg, iCh, iAnd31, iQ, iMax, iMin, iAbs, iCallS, iCallV, aN, aI, aR, rL, rF, rA, cEq, cNe, cLt, cGe, cGt, cLe, cAnd, cOr, cNot, cNull, sSkip, sSeq, sLoc, sLocR, sInc, sPut, sPutR, sPutAdd, sPutSub, sAst, sCst, sRst, sAstAdd, sAstSub, sIf1, sIf, sRet, sRetV, sCallV, sCallS, sPop, sCopy, sCopyT, sObj, sSw, iAddW, iMulW, iAndM, iShr, cQ, ent_0, ent_1, ent_2, ent_3, ent_4, ent_5, ent_6, va_up_self, va_up_ne, ne_eq, Nat.reduceEqDiff, not_false_eq_true, not_true_eq_false, si_1, si_2, si_g, sr_1, sr_2, cp_1, cp_2, List.length_cons, List.length_nil, Nat.reduceAdd, true_and, and_true, and_self, eq_self, true_implies, forall_const, Bool.false_eq_true, false_implies, or_true, true_or, Option.some.injEq, Prod.mk.injEq, exists_eq_left', exists_eq', exists_and_left, reduceIte, Int.reduceEq, Int.reduceNe]
  by_cases hjl : (j : Int) < D k 1
  · have b1 := scS_b D sg k j
    have b2 := mcS_b D st sg k j
    have b3 := hlS_b D st sg k j
    have r1 : inR (D k 0 + (j : Int)) := inR_s (by omega) (by omega)
    have r2 : inR ((j : Int) + 1) := inR_s (by omega) (by omega)
    have r3 : inR (scS D sg k j + 0) := inR_s (by omega) (by omega)
    have r4 : inR (scS D sg k j + 1) := inR_s (by omega) (by omega)
    have r5 : inR (mcS D st sg k j + 0) := inR_s (by omega) (by omega)
    have r6 : inR (mcS D st sg k j + 1) := inR_s (by omega) (by omega)
    have r7 : inR (hlS D st sg k j + 0) := inR_s (by omega) (by omega)
    have r8 : inR (hlS D st sg k j + 1) := inR_s (by omega) (by omega)
    have hw := wn_b hv hk (j := (j : Int)) ⟨by omega, by omega⟩
    have hp := sgA_b hg (D k 0 + (j : Int))
    rw [if_pos hjl]
    simp only [r1, r2, r3, r4, r5, r6, r7, r8, a1, a7.1, e_sungAt h, e_wantedOf h.2.1 hv hk (j := (j : Int)) ⟨by omega, by omega⟩, e_isMatch h hst hp ⟨hw.1, hw.2.1⟩, e_isBarLine (t := D k 0 + (j : Int)) (b := st 0) ⟨by omega, by omega⟩ ⟨by have := hst.1; omega, by have := hst.1; omega⟩, ent_0, ent_1, ent_2, ent_3, ent_4, ent_5, ent_6, va_up_self, va_up_ne, ne_eq, Nat.reduceEqDiff, not_false_eq_true, not_true_eq_false, si_1, si_2, si_g, sr_1, sr_2, cp_1, cp_2, List.length_cons, List.length_nil, Nat.reduceAdd, true_and, and_true, and_self, eq_self, true_implies, forall_const, Bool.false_eq_true, false_implies, or_true, true_or, Option.some.injEq, Prod.mk.injEq, exists_eq_left', exists_eq', exists_and_left, reduceIte, Int.reduceEq, Int.reduceNe]
    have g1 : scS D sg k (j + 1) = scS D sg k j + (if pj D sg k j = -1 then 0 else 1) := rfl
    have g2 : mcS D st sg k (j + 1) = mcS D st sg k j + (if mB D st sg k j = true then 1 else 0) := rfl
    have g3 : hlS D st sg k (j + 1) = hlS D st sg k j + (if mB D st sg k j = true ∧ ahd D st sg k j = true ∧ barB (st 0) (D k 0 + j) = true then 1 else 0) := rfl
    have g4 : sgA sg (D k 0 + (j : Int)) = pj D sg k j := rfl
    have g5 : mt? st (pj D sg k j) (wn D k (j : Int)) = mB D st sg k j := rfl
    have g6 : ahd D st sg k (j + 1) = mB D st sg k j := rfl
    rw [g4, g5]
    have key : ∀ x7 x8 x9 x10 x12 x13 : Int, x7 = scS D sg k (j + 1) → x8 = mcS D st sg k (j + 1) → x9 = hlS D st sg k (j + 1) → x10 = (if ahd D st sg k (j + 1) = true then 1 else 0) → W (va_up (va_up (va_up (va_up (va_up (va_up (va_up ρ 12 (.inl x12)) 13 (.inl x13)) 7 (.inl x7)) 8 (.inl x8)) 9 (.inl x9)) 10 (.inl x10)) 11 (.inl ((j : Int) + 1))) M2 := by
      intro x7 x8 x9 x10 x12 x13 q7 q8 q9 q10
      refine hW _ _ (by omega) ⟨rfl, j + 1, by omega, ?_⟩
      simp [va_up, h0, h1, h2, h3, h4, h5, h6, q7, q8, q9, q10]
    by_cases c1 : pj D sg k j = -1 <;> by_cases c2 : mB D st sg k j = true <;> by_cases c3 : ahd D st sg k j = true <;> by_cases c4 : barB (st 0) (D k 0 + (j : Int)) = true <;>
      (simp only [c1, c2, c3, c4, if_true, if_false, Int.reduceEq, Int.reduceNe, reduceIte, reduceCtorEq, Bool.false_eq_true]
       simp only [c1, c2, c3, c4, if_true, if_false, and_true, true_and, and_false, false_and, reduceIte] at g1 g2 g3
       exact key _ _ _ _ _ _ g1.symm g2.symm g3.symm (by rw [g6]; simp [c2]))
  · obtain rfl : j = len D k := by omega
    rw [if_neg hjl]
    have m1 := mcS_b D st sg k (len D k)
    have hl32 : len D k ≤ 32 := by unfold len; omega
    have n0 : ¬ D k 1 = 0 := by omega
    have n1 : ¬ D k 1 < 1 := by omega
    have r1 : inR (mcS D st sg k (len D k) * 100) := inR_s (by omega) (by omega)
    have sb := shV_b (st := st) (sg := sg) hv hk
    have r2 : inR ((mcS D st sg k (len D k) * 100).tdiv (D k 1)) := inR_s (by unfold shV at sb; omega) (by unfold shV at sb; omega)
    obtain ⟨j0, hA, hR⟩ := hj
    have c0 : (0 : Int) ≤ k := by omega
    have c1 : (k : Int) < (40 : Nat) := by omega
    simp only [j0, hA, hR, a1, c0, c1, n0, n1, r1, r2, Int.toNat_natCast, if_false, ent_0, ent_1, ent_2, ent_3, ent_4, ent_5, ent_6, va_up_self, va_up_ne, ne_eq, Nat.reduceEqDiff, not_false_eq_true, not_true_eq_false, si_1, si_2, si_g, sr_1, sr_2, cp_1, cp_2, List.length_cons, List.length_nil, Nat.reduceAdd, true_and, and_true, and_self, eq_self, true_implies, forall_const, Bool.false_eq_true, false_implies, or_true, true_or, Option.some.injEq, Prod.mk.injEq, exists_eq_left', exists_eq', exists_and_left, reduceIte, Int.reduceEq, Int.reduceNe]
    refine e_onsetNear (SS_fr h rfl rfl (fun q j x1 x2 => ?_)) hst ⟨by omega, by omega⟩ ?_
    · simp only [si_g]
      rw [if_neg (by omega), if_neg (by omega), if_neg (by omega)]
    · have hS2 : ∀ z, SS (si (si (si (si M2 70 k (mcS D st sg k (len D k))) 71 k ((mcS D st sg k (len D k) * 100).tdiv (D k 1))) 72 k (hlS D st sg k (len D k))) 73 k z) s n D st sg := fun z => SS_fr h rfl rfl (fun q j x1 x2 => by
        simp only [si_g]
        rw [if_neg (by omega), if_neg (by omega), if_neg (by omega), if_neg (by omega)])
      have hJ2 : ∀ z, JdP (si (si (si (si M2 70 k (mcS D st sg k (len D k))) 71 k ((mcS D st sg k (len D k) * 100).tdiv (D k 1))) 72 k (hlS D st sg k (len D k))) 73 k z) := fun z => ⟨j0, hA, hR⟩
      simp only [hA, hR, c0, c1, j0, a1, e_setting (hS2 _) (j := 4) ⟨by decide, by decide⟩, e4, e_reasonFor (hJ2 _) (by omega : k < 40), Int.toNat_natCast, ent_0, ent_1, ent_2, ent_3, ent_4, ent_5, ent_6, va_up_self, va_up_ne, ne_eq, Nat.reduceEqDiff, not_false_eq_true, not_true_eq_false, si_1, si_2, si_g, sr_1, sr_2, cp_1, cp_2, List.length_cons, List.length_nil, Nat.reduceAdd, true_and, and_true, and_self, eq_self, true_implies, forall_const, Bool.false_eq_true, false_implies, or_true, true_or, Option.some.injEq, Prod.mk.injEq, exists_eq_left', exists_eq', exists_and_left, reduceIte, Int.reduceEq, Int.reduceNe]
      exact hK
end HEAR
