theorem si_self {M : Mm} {q k : Nat} {z : Int} (h : M.2.1 q k = z) : si M q k z = M := by
  obtain ⟨a, b, c⟩ := M
  unfold si
  congr 2
  funext q2 k2
  show (if q2 = q ∧ k2 = k then z else b q2 k2) = b q2 k2
  split
  · next e => rw [e.1, e.2]; exact h.symm
  · rfl
/-- the class's text -/
def TX (M : Mm) (tl : Nat) (tc : Nat → Int) : Prop := M.1[66]? = some (5, 0) ∧ M.2.2 66 0 = some 67 ∧ M.1[67]? = some (21, 60) ∧ M.1[68]? = some (2, 0) ∧ tl ≤ 60 ∧ M.2.1 66 1 = tl ∧ ∀ i, i < tl → M.2.1 67 i = tc i ∧ 0 ≤ tc i ∧ tc i < 65536
section RD2
variable {K : Int → Mm → Prop} {M : Mm} {tl : Nat} {tc : Nat → Int}
theorem e_hasAt {p : Nat} {ch : Int} (h : TX M tl tc) (hp : p ≤ 1000) : m_X5_hasAt [.inr (some 66), .inl (p : Int), .inl ch] K M ↔ K (if p < tl ∧ tc p = ch then 1 else 0) M := by
  obtain ⟨h1, h2, h3, _, h4, h5, h6⟩ := h
  have r : inR ((tl : Int) - 1) := inR_s (by omega) (by omega)
  simp only [m_X5_hasAt, mk0, B_X5_hasAt, iC, iL, iF, iA, iAc, iLen, iT, iAdd, iSub, iMul, iDiv, iRem, iNeg, iCh, iAnd31, iQ, iMax, iMin, iAbs, iCallS, iCallV, aN, aI, aR, rL, rF, rA, cEq, cNe, cLt, cGe, cGt, cLe, cAnd, cOr, cNot, cNull, sSkip, sSeq, sLoc, sLocR, sInc, sPut, sPutR, sPutAdd, sPutSub, sAst, sCst, sRst, sAstAdd, sAstSub, sIf1, sIf, sRet, sRetV, sCallV, sCallS, sPop, sCopy, sCopyT, sObj, sSw, ent_0, ent_1, ent_2, ent_3, ent_4, ent_5, ent_6, va_up_self, va_up_ne, ne_eq, Nat.reduceEqDiff, not_false_eq_true, not_true_eq_false, si_1, si_2, si_g, sr_1, sr_2, cp_1, cp_2, List.length_cons, List.length_nil, Nat.reduceAdd, true_and, and_true, and_self, eq_self, true_implies, forall_const, Bool.false_eq_true, false_implies, or_true, true_or, Option.some.injEq, Prod.mk.injEq, exists_eq_left', exists_eq', exists_and_left, reduceIte, Int.reduceEq, Int.reduceNe, h1, h2, h3, h5, r, e_isWithin]
  by_cases c : p < tl
  · have c0 : (0 : Int) ≤ p ∧ (p : Int) ≤ (tl : Int) - 1 := by omega
    have c1 : (p : Int) < 60 := by omega
    have c2 : (p : Int) < (60 : Nat) := by omega
    have e := (h6 p c).1
    simp only [c, c0, c1, c2, e, Int.toNat_natCast, and_self, true_and, if_true, if_false, ent_0, ent_1, ent_2, ent_3, ent_4, ent_5, ent_6, va_up_self, va_up_ne, ne_eq, Nat.reduceEqDiff, not_false_eq_true, not_true_eq_false, si_1, si_2, si_g, sr_1, sr_2, cp_1, cp_2, List.length_cons, List.length_nil, Nat.reduceAdd, true_and, and_true, and_self, eq_self, true_implies, forall_const, Bool.false_eq_true, false_implies, or_true, true_or, Option.some.injEq, Prod.mk.injEq, exists_eq_left', exists_eq', exists_and_left, reduceIte, Int.reduceEq, Int.reduceNe]
    by_cases d : tc p = ch
    · simp only [d, if_true]
    · simp only [d, if_false]
  · have c0 : ¬ ((0 : Int) ≤ p ∧ (p : Int) ≤ (tl : Int) - 1) := by omega
    simp only [c, c0, false_and, if_true, if_false, ent_0, ent_1, ent_2, ent_3, ent_4, ent_5, ent_6, va_up_self, va_up_ne, ne_eq, Nat.reduceEqDiff, not_false_eq_true, not_true_eq_false, si_1, si_2, si_g, sr_1, sr_2, cp_1, cp_2, List.length_cons, List.length_nil, Nat.reduceAdd, true_and, and_true, and_self, eq_self, true_implies, forall_const, Bool.false_eq_true, false_implies, or_true, true_or, Option.some.injEq, Prod.mk.injEq, exists_eq_left', exists_eq', exists_and_left, reduceIte, Int.reduceEq, Int.reduceNe]
theorem e_digitAt {p : Nat} (h : TX M tl tc) (hp : p ≤ 1000) : m_X5_digitAt [.inr (some 66), .inl (p : Int)] K M ↔ K (dg tl tc p) M := by
  obtain ⟨h1, h2, h3, _, h4, h5, h6⟩ := h
  have r : inR ((tl : Int) - 1) := inR_s (by omega) (by omega)
  simp only [m_X5_digitAt, mk0, B_X5_digitAt, iC, iL, iF, iA, iAc, iLen, iT, iAdd, iSub, iMul, iDiv, iRem, iNeg, iCh, iAnd31, iQ, iMax, iMin, iAbs, iCallS, iCallV, aN, aI, aR, rL, rF, rA, cEq, cNe, cLt, cGe, cGt, cLe, cAnd, cOr, cNot, cNull, sSkip, sSeq, sLoc, sLocR, sInc, sPut, sPutR, sPutAdd, sPutSub, sAst, sCst, sRst, sAstAdd, sAstSub, sIf1, sIf, sRet, sRetV, sCallV, sCallS, sPop, sCopy, sCopyT, sObj, sSw, ent_0, ent_1, ent_2, ent_3, ent_4, ent_5, ent_6, va_up_self, va_up_ne, ne_eq, Nat.reduceEqDiff, not_false_eq_true, not_true_eq_false, si_1, si_2, si_g, sr_1, sr_2, cp_1, cp_2, List.length_cons, List.length_nil, Nat.reduceAdd, true_and, and_true, and_self, eq_self, true_implies, forall_const, Bool.false_eq_true, false_implies, or_true, true_or, Option.some.injEq, Prod.mk.injEq, exists_eq_left', exists_eq', exists_and_left, reduceIte, Int.reduceEq, Int.reduceNe, h1, h2, h3, h5, r, e_isWithin]
  unfold dg
  by_cases c : p < tl
  · have c0 : (0 : Int) ≤ p ∧ (p : Int) ≤ (tl : Int) - 1 := by omega
    have c1 : ¬ ((60 : Int) ≤ p) := by omega
    have c2 : (p : Int) < (60 : Nat) := by omega
    obtain ⟨e, b1, b2⟩ := h6 p c
    have r2 : inR (tc p - 48) := inR_s (by omega) (by omega)
    simp only [c, c0, c1, c2, e, r2, Int.toNat_natCast, and_self, true_and, if_true, if_false, ent_0, ent_1, ent_2, ent_3, ent_4, ent_5, ent_6, va_up_self, va_up_ne, ne_eq, Nat.reduceEqDiff, not_false_eq_true, not_true_eq_false, si_1, si_2, si_g, sr_1, sr_2, cp_1, cp_2, List.length_cons, List.length_nil, Nat.reduceAdd, true_and, and_true, and_self, eq_self, true_implies, forall_const, Bool.false_eq_true, false_implies, or_true, true_or, Option.some.injEq, Prod.mk.injEq, exists_eq_left', exists_eq', exists_and_left, reduceIte, Int.reduceEq, Int.reduceNe]
    by_cases d : 48 ≤ tc p
    · by_cases d2 : tc p ≤ 57
      · simp only [d, d2, and_self, if_true]
      · simp only [d, d2, and_false, if_true, if_false]
    · simp only [d, false_and, if_false]
  · have c0 : ¬ ((0 : Int) ≤ p ∧ (p : Int) ≤ (tl : Int) - 1) := by omega
    simp only [c, c0, false_and, if_true, if_false, ent_0, ent_1, ent_2, ent_3, ent_4, ent_5, ent_6, va_up_self, va_up_ne, ne_eq, Nat.reduceEqDiff, not_false_eq_true, not_true_eq_false, si_1, si_2, si_g, sr_1, sr_2, cp_1, cp_2, List.length_cons, List.length_nil, Nat.reduceAdd, true_and, and_true, and_self, eq_self, true_implies, forall_const, Bool.false_eq_true, false_implies, or_true, true_or, Option.some.injEq, Prod.mk.injEq, exists_eq_left', exists_eq', exists_and_left, reduceIte, Int.reduceEq, Int.reduceNe]
theorem TX.si68 {j : Nat} {z : Int} (h : TX M tl tc) : TX (si M 68 j z) tl tc := by
  obtain ⟨h1, h2, h3, h7, h4, h5, h6⟩ := h
  refine ⟨h1, h2, h3, h7, h4, ?_, fun i hi => ?_⟩
  · rw [si_g, if_neg (by omega)]; exact h5
  · rw [si_g, if_neg (by omega)]; exact h6 i hi
theorem e_skip {p : Nat} {ch : Int} (h : TX M tl tc) (hp : p ≤ 900) (h68 : M.2.1 68 0 = p) : m_X2_skip [.inr (some 68), .inr (some 66), .inl ch] K M ↔ (if p < tl ∧ tc p = ch then K 1 (si M 68 0 ((p + 1 : Nat) : Int)) else K 0 M) := by
  have r : inR ((p : Int) + 1) := inR_s (by omega) (by omega)
  simp only [m_X2_skip, mk0, B_X2_skip, iC, iL, iF, iA, iAc, iLen, iT, iAdd, iSub, iMul, iDiv, iRem, iNeg, iCh, iAnd31, iQ, iMax, iMin, iAbs, iCallS, iCallV, aN, aI, aR, rL, rF, rA, cEq, cNe, cLt, cGe, cGt, cLe, cAnd, cOr, cNot, cNull, sSkip, sSeq, sLoc, sLocR, sInc, sPut, sPutR, sPutAdd, sPutSub, sAst, sCst, sRst, sAstAdd, sAstSub, sIf1, sIf, sRet, sRetV, sCallV, sCallS, sPop, sCopy, sCopyT, sObj, sSw, ent_0, ent_1, ent_2, ent_3, ent_4, ent_5, ent_6, va_up_self, va_up_ne, ne_eq, Nat.reduceEqDiff, not_false_eq_true, not_true_eq_false, si_1, si_2, si_g, sr_1, sr_2, cp_1, cp_2, List.length_cons, List.length_nil, Nat.reduceAdd, true_and, and_true, and_self, eq_self, true_implies, forall_const, Bool.false_eq_true, false_implies, or_true, true_or, Option.some.injEq, Prod.mk.injEq, exists_eq_left', exists_eq', exists_and_left, reduceIte, Int.reduceEq, Int.reduceNe, h.1, h.2.2.2.1, h68, r, e_hasAt h (by omega : p ≤ 1000)]
  by_cases c : p < tl ∧ tc p = ch
  · simp only [c, and_self, if_true, if_false, ent_0, ent_1, ent_2, ent_3, ent_4, ent_5, ent_6, va_up_self, va_up_ne, ne_eq, Nat.reduceEqDiff, not_false_eq_true, not_true_eq_false, si_1, si_2, si_g, sr_1, sr_2, cp_1, cp_2, List.length_cons, List.length_nil, Nat.reduceAdd, true_and, and_true, and_self, eq_self, true_implies, forall_const, Bool.false_eq_true, false_implies, or_true, true_or, Option.some.injEq, Prod.mk.injEq, exists_eq_left', exists_eq', exists_and_left, reduceIte, Int.reduceEq, Int.reduceNe]
    rfl
  · simp only [c, if_true, if_false, ent_0, ent_1, ent_2, ent_3, ent_4, ent_5, ent_6, va_up_self, va_up_ne, ne_eq, Nat.reduceEqDiff, not_false_eq_true, not_true_eq_false, si_1, si_2, si_g, sr_1, sr_2, cp_1, cp_2, List.length_cons, List.length_nil, Nat.reduceAdd, true_and, and_true, and_self, eq_self, true_implies, forall_const, Bool.false_eq_true, false_implies, or_true, true_or, Option.some.injEq, Prod.mk.injEq, exists_eq_left', exists_eq', exists_and_left, reduceIte, Int.reduceEq, Int.reduceNe]
set_option maxRecDepth 20000 in
theorem e_readNumber {p : Nat} {lo hi : Int} (h : TX M tl tc) (hp : p ≤ 900) (hl : lo = 0 ∨ lo = 1) (hh : 9 ≤ hi) (h68 : M.2.1 68 0 = p) (hK : K (num tl tc p lo hi).1 (si M 68 0 ((num tl tc p lo hi).2 : Nat))) : m_X2_readNumber [.inr (some 68), .inr (some 66), .inl lo, .inl hi] K M := by
  have b1 := dg_b tl tc p
  have b2 := dg_b tl tc (p + 1)
  have r1 : inR ((p : Int) + 1) := inR_s (by omega) (by omega)
  simp only [m_X2_readNumber, mk0, B_X2_readNumber, iC, iL, iF, iA, iAc, iLen, iT, iAdd, iSub, iMul, iDiv, iRem, iNeg, iCh, iAnd31, iQ, iMax, iMin, iAbs, iCallS, iCallV, aN, aI, aR, rL, rF, rA, cEq, cNe, cLt, cGe, cGt, cLe, cAnd, cOr, cNot, cNull, sSkip, sSeq, sLoc, sLocR, sInc, sPut, sPutR, sPutAdd, sPutSub, sAst, sCst, sRst, sAstAdd, sAstSub, sIf1, sIf, sRet, sRetV, sCallV, sCallS, sPop, sCopy, sCopyT, sObj, sSw, ent_0, ent_1, ent_2, ent_3, ent_4, ent_5, ent_6, va_up_self, va_up_ne, ne_eq, Nat.reduceEqDiff, not_false_eq_true, not_true_eq_false, si_1, si_2, si_g, sr_1, sr_2, cp_1, cp_2, List.length_cons, List.length_nil, Nat.reduceAdd, true_and, and_true, and_self, eq_self, true_implies, forall_const, Bool.false_eq_true, false_implies, or_true, true_or, Option.some.injEq, Prod.mk.injEq, exists_eq_left', exists_eq', exists_and_left, reduceIte, Int.reduceEq, Int.reduceNe, h.1, h.2.2.2.1, h68, e_digitAt h (by omega : p ≤ 1000), r1]
  unfold num at hK
  by_cases c1 : dg tl tc p < lo
  · rw [if_pos c1] at hK ⊢
    rw [si_self h68] at hK
    exact hK
  · rw [if_neg c1] at hK ⊢
    have h2 : TX (si M 68 0 ((p : Int) + 1)) tl tc := h.si68
    have e1 : (p : Int) + 1 = ((p + 1 : Nat) : Int) := by omega
    rw [e1] at h2 ⊢
    refine (e_digitAt h2 (by omega)).mpr ?_
    have g1 : (si M 68 0 ((p + 1 : Nat) : Int)).1 = M.1 := rfl
    have g2 : (si M 68 0 ((p + 1 : Nat) : Int)).2.1 68 0 = ((p + 1 : Nat) : Int) := by rw [si_g, if_pos ⟨rfl, rfl⟩]
    have r3 : inR (dg tl tc p * 10) := inR_s (by omega) (by omega)
    have r4 : inR (dg tl tc p * 10 + dg tl tc (p + 1)) := inR_s (by omega) (by omega)
    by_cases c2 : dg tl tc p = 0 ∨ dg tl tc (p + 1) = -1 ∨ hi < dg tl tc p * 10 + dg tl tc (p + 1)
    · rw [if_pos c2] at hK
      by_cases d1 : dg tl tc p = 0
      · rw [if_pos d1]
        exact ⟨g1, hK⟩
      · rw [if_neg d1]
        by_cases d2 : dg tl tc (p + 1) = -1
        · rw [if_pos d2]
          exact ⟨g1, hK⟩
        · rw [if_neg d2]
          refine ⟨r3, r4, ?_⟩
          rw [if_pos (by omega)]
          exact ⟨g1, hK⟩
    · rw [if_neg c2] at hK
      rw [if_neg (by omega), if_neg (by omega)]
      refine ⟨r3, r4, ?_⟩
      rw [if_neg (by omega)]
      refine ⟨⟨0, h.2.2.2.1⟩, ⟨0, h.2.2.2.1⟩, by rw [g2]; exact inR_s (by omega) (by omega), r3, r4, g1, ?_⟩
      rw [g2, si_si]
      exact hK
end RD2
