section MOPS9
variable {K : Int → Mm → Prop} {M : Mm} {A : Ab} {n : Nat} {D : Nat → Nat → Int} {st sg : Nat → Int}
set_option maxRecDepth 20000 in
theorem e_totS7 {W : En → Mm → Prop} {Rt : Int → Mm → Prop} {ρ : En} {M0 : Mm} {w : Int} (h : MI M A) (hV : A.now.V) (p : JS M0 M A.now.n A.now.D A.now.st A.now.sg) (h0 : ρ 0 = .inr (some 80)) (h1 : ρ 1 = .inl w) (hR : Rt (totV A w) M) : totS7 W Rt ρ M := by
  obtain ⟨m0, mA, mR⟩ := h.fx.md
  obtain ⟨hm, hG⟩ := h.r
  have hn := hV.1.1
  unfold totV at hR
  simp only [totS7, sSw, h1, iL]
  by_cases hw : 6 ≤ w ∧ w ≤ 14
  · have hw2 : w = 6 ∨ w = 7 ∨ w = 8 ∨ w = 9 ∨ w = 10 ∨ w = 11 ∨ w = 12 ∨ w = 13 ∨ w = 14 := by omega
    rcases hw2 with e | e | e | e | e | e | e | e | e <;> simp only [e, Int.reduceEq, reduceIte, Int.reduceLE, and_self, and_false, and_true, true_and] at hR
    · refine swg 0 (by omega) (by decide) ?_
      simp only [List.getD_cons_zero, h0, h1, m0, iC, iL, iF, iA, iAc, iLen, iT, iAdd, iSub, iMul, iDiv, iRem, iNeg, iCh, iAnd31, iQ, iMax, iMin, iAbs, iCallS, iCallV, aN, aI, aR, rL, rF, rA, cEq, cNe, cLt, cGe, cGt, cLe, cAnd, cOr, cNot, cNull, sSkip, sSeq, sLoc, sLocR, sInc, sPut, sPutR, sPutAdd, sPutSub, sAst, sCst, sRst, sAstAdd, sAstSub, sIf1, sIf, sRet, sRetV, sCallV, sCallS, sPop, sCopy, sCopyT, sObj, sSw, ent_0, ent_1, ent_2, ent_3, ent_4, ent_5, ent_6, va_up_self, va_up_ne, ne_eq, Nat.reduceEqDiff, not_false_eq_true, not_true_eq_false, si_1, si_2, si_g, sr_1, sr_2, cp_1, cp_2, List.length_cons, List.length_nil, Nat.reduceAdd, true_and, and_true, and_self, eq_self, true_implies, forall_const, Bool.false_eq_true, false_implies, or_true, true_or, Option.some.injEq, Prod.mk.injEq, exists_eq_left', exists_eq', exists_and_left, reduceIte, Int.reduceEq, Int.reduceNe]
      exact e_phrases hm hV.1 hR
    · refine swg 1 (by omega) (by decide) ?_
      simp only [List.getD_cons_zero, List.getD_cons_succ, h0, h1, m0, e_endOfSong hm hV.1, iC, iL, iF, iA, iAc, iLen, iT, iAdd, iSub, iMul, iDiv, iRem, iNeg, iCh, iAnd31, iQ, iMax, iMin, iAbs, iCallS, iCallV, aN, aI, aR, rL, rF, rA, cEq, cNe, cLt, cGe, cGt, cLe, cAnd, cOr, cNot, cNull, sSkip, sSeq, sLoc, sLocR, sInc, sPut, sPutR, sPutAdd, sPutSub, sAst, sCst, sRst, sAstAdd, sAstSub, sIf1, sIf, sRet, sRetV, sCallV, sCallS, sPop, sCopy, sCopyT, sObj, sSw, ent_0, ent_1, ent_2, ent_3, ent_4, ent_5, ent_6, va_up_self, va_up_ne, ne_eq, Nat.reduceEqDiff, not_false_eq_true, not_true_eq_false, si_1, si_2, si_g, sr_1, sr_2, cp_1, cp_2, List.length_cons, List.length_nil, Nat.reduceAdd, true_and, and_true, and_self, eq_self, true_implies, forall_const, Bool.false_eq_true, false_implies, or_true, true_or, Option.some.injEq, Prod.mk.injEq, exists_eq_left', exists_eq', exists_and_left, reduceIte, Int.reduceEq, Int.reduceNe]
      exact hR
    · refine swg 2 (by omega) (by decide) ?_
      simp only [List.getD_cons_zero, List.getD_cons_succ, h0, h1, m0, iC, iL, iF, iA, iAc, iLen, iT, iAdd, iSub, iMul, iDiv, iRem, iNeg, iCh, iAnd31, iQ, iMax, iMin, iAbs, iCallS, iCallV, aN, aI, aR, rL, rF, rA, cEq, cNe, cLt, cGe, cGt, cLe, cAnd, cOr, cNot, cNull, sSkip, sSeq, sLoc, sLocR, sInc, sPut, sPutR, sPutAdd, sPutSub, sAst, sCst, sRst, sAstAdd, sAstSub, sIf1, sIf, sRet, sRetV, sCallV, sCallS, sPop, sCopy, sCopyT, sObj, sSw, ent_0, ent_1, ent_2, ent_3, ent_4, ent_5, ent_6, va_up_self, va_up_ne, ne_eq, Nat.reduceEqDiff, not_false_eq_true, not_true_eq_false, si_1, si_2, si_g, sr_1, sr_2, cp_1, cp_2, List.length_cons, List.length_nil, Nat.reduceAdd, true_and, and_true, and_self, eq_self, true_implies, forall_const, Bool.false_eq_true, false_implies, or_true, true_or, Option.some.injEq, Prod.mk.injEq, exists_eq_left', exists_eq', exists_and_left, reduceIte, Int.reduceEq, Int.reduceNe]
      exact e_sungTicks7 h.fx.md p.2.1 hV.2.2 hR
    · refine swg 3 (by omega) (by decide) ?_
      simp only [List.getD_cons_zero, List.getD_cons_succ, h0, h1, m0, iC, iL, iF, iA, iAc, iLen, iT, iAdd, iSub, iMul, iDiv, iRem, iNeg, iCh, iAnd31, iQ, iMax, iMin, iAbs, iCallS, iCallV, aN, aI, aR, rL, rF, rA, cEq, cNe, cLt, cGe, cGt, cLe, cAnd, cOr, cNot, cNull, sSkip, sSeq, sLoc, sLocR, sInc, sPut, sPutR, sPutAdd, sPutSub, sAst, sCst, sRst, sAstAdd, sAstSub, sIf1, sIf, sRet, sRetV, sCallV, sCallS, sPop, sCopy, sCopyT, sObj, sSw, ent_0, ent_1, ent_2, ent_3, ent_4, ent_5, ent_6, va_up_self, va_up_ne, ne_eq, Nat.reduceEqDiff, not_false_eq_true, not_true_eq_false, si_1, si_2, si_g, sr_1, sr_2, cp_1, cp_2, List.length_cons, List.length_nil, Nat.reduceAdd, true_and, and_true, and_self, eq_self, true_implies, forall_const, Bool.false_eq_true, false_implies, or_true, true_or, Option.some.injEq, Prod.mk.injEq, exists_eq_left', exists_eq', exists_and_left, reduceIte, Int.reduceEq, Int.reduceNe]
      exact e_onsets7 h.fx.md p.2.1 hV.2.2 hR
    · refine swg 4 (by omega) (by decide) ?_
      simp only [List.getD_cons_zero, List.getD_cons_succ, h0, h1, m0, iC, iL, iF, iA, iAc, iLen, iT, iAdd, iSub, iMul, iDiv, iRem, iNeg, iCh, iAnd31, iQ, iMax, iMin, iAbs, iCallS, iCallV, aN, aI, aR, rL, rF, rA, cEq, cNe, cLt, cGe, cGt, cLe, cAnd, cOr, cNot, cNull, sSkip, sSeq, sLoc, sLocR, sInc, sPut, sPutR, sPutAdd, sPutSub, sAst, sCst, sRst, sAstAdd, sAstSub, sIf1, sIf, sRet, sRetV, sCallV, sCallS, sPop, sCopy, sCopyT, sObj, sSw, ent_0, ent_1, ent_2, ent_3, ent_4, ent_5, ent_6, va_up_self, va_up_ne, ne_eq, Nat.reduceEqDiff, not_false_eq_true, not_true_eq_false, si_1, si_2, si_g, sr_1, sr_2, cp_1, cp_2, List.length_cons, List.length_nil, Nat.reduceAdd, true_and, and_true, and_self, eq_self, true_implies, forall_const, Bool.false_eq_true, false_implies, or_true, true_or, Option.some.injEq, Prod.mk.injEq, exists_eq_left', exists_eq', exists_and_left, reduceIte, Int.reduceEq, Int.reduceNe]
      exact e_hits7 hm (fun i hi => (p.2.2 i hi).2.2.1) hR
    · refine swg 5 (by omega) (by decide) ?_
      simp only [List.getD_cons_zero, List.getD_cons_succ, h0, h1, m0, iC, iL, iF, iA, iAc, iLen, iT, iAdd, iSub, iMul, iDiv, iRem, iNeg, iCh, iAnd31, iQ, iMax, iMin, iAbs, iCallS, iCallV, aN, aI, aR, rL, rF, rA, cEq, cNe, cLt, cGe, cGt, cLe, cAnd, cOr, cNot, cNull, sSkip, sSeq, sLoc, sLocR, sInc, sPut, sPutR, sPutAdd, sPutSub, sAst, sCst, sRst, sAstAdd, sAstSub, sIf1, sIf, sRet, sRetV, sCallV, sCallS, sPop, sCopy, sCopyT, sObj, sSw, ent_0, ent_1, ent_2, ent_3, ent_4, ent_5, ent_6, va_up_self, va_up_ne, ne_eq, Nat.reduceEqDiff, not_false_eq_true, not_true_eq_false, si_1, si_2, si_g, sr_1, sr_2, cp_1, cp_2, List.length_cons, List.length_nil, Nat.reduceAdd, true_and, and_true, and_self, eq_self, true_implies, forall_const, Bool.false_eq_true, false_implies, or_true, true_or, Option.some.injEq, Prod.mk.injEq, exists_eq_left', exists_eq', exists_and_left, reduceIte, Int.reduceEq, Int.reduceNe]
      exact e_allPoints7 hm hV.1 (p.g hV.1) hR
    · refine swg 6 (by omega) (by decide) ?_
      simp only [List.getD_cons_zero, List.getD_cons_succ, h0, h1, m0, iC, iL, iF, iA, iAc, iLen, iT, iAdd, iSub, iMul, iDiv, iRem, iNeg, iCh, iAnd31, iQ, iMax, iMin, iAbs, iCallS, iCallV, aN, aI, aR, rL, rF, rA, cEq, cNe, cLt, cGe, cGt, cLe, cAnd, cOr, cNot, cNull, sSkip, sSeq, sLoc, sLocR, sInc, sPut, sPutR, sPutAdd, sPutSub, sAst, sCst, sRst, sAstAdd, sAstSub, sIf1, sIf, sRet, sRetV, sCallV, sCallS, sPop, sCopy, sCopyT, sObj, sSw, ent_0, ent_1, ent_2, ent_3, ent_4, ent_5, ent_6, va_up_self, va_up_ne, ne_eq, Nat.reduceEqDiff, not_false_eq_true, not_true_eq_false, si_1, si_2, si_g, sr_1, sr_2, cp_1, cp_2, List.length_cons, List.length_nil, Nat.reduceAdd, true_and, and_true, and_self, eq_self, true_implies, forall_const, Bool.false_eq_true, false_implies, or_true, true_or, Option.some.injEq, Prod.mk.injEq, exists_eq_left', exists_eq', exists_and_left, reduceIte, Int.reduceEq, Int.reduceNe]
      exact e_mostPoints7 hm hV.1 hV.2.1 hR
    · refine swg 7 (by omega) (by decide) ?_
      simp only [List.getD_cons_zero, List.getD_cons_succ, h0, h1, m0, h.cn, iC, iL, iF, iA, iAc, iLen, iT, iAdd, iSub, iMul, iDiv, iRem, iNeg, iCh, iAnd31, iQ, iMax, iMin, iAbs, iCallS, iCallV, aN, aI, aR, rL, rF, rA, cEq, cNe, cLt, cGe, cGt, cLe, cAnd, cOr, cNot, cNull, sSkip, sSeq, sLoc, sLocR, sInc, sPut, sPutR, sPutAdd, sPutSub, sAst, sCst, sRst, sAstAdd, sAstSub, sIf1, sIf, sRet, sRetV, sCallV, sCallS, sPop, sCopy, sCopyT, sObj, sSw, ent_0, ent_1, ent_2, ent_3, ent_4, ent_5, ent_6, va_up_self, va_up_ne, ne_eq, Nat.reduceEqDiff, not_false_eq_true, not_true_eq_false, si_1, si_2, si_g, sr_1, sr_2, cp_1, cp_2, List.length_cons, List.length_nil, Nat.reduceAdd, true_and, and_true, and_self, eq_self, true_implies, forall_const, Bool.false_eq_true, false_implies, or_true, true_or, Option.some.injEq, Prod.mk.injEq, exists_eq_left', exists_eq', exists_and_left, reduceIte, Int.reduceEq, Int.reduceNe]
      exact hR
    · refine swg 8 (by omega) (by decide) ?_
      simp only [List.getD_cons_zero, List.getD_cons_succ, h0, h1, m0, h.tl, iC, iL, iF, iA, iAc, iLen, iT, iAdd, iSub, iMul, iDiv, iRem, iNeg, iCh, iAnd31, iQ, iMax, iMin, iAbs, iCallS, iCallV, aN, aI, aR, rL, rF, rA, cEq, cNe, cLt, cGe, cGt, cLe, cAnd, cOr, cNot, cNull, sSkip, sSeq, sLoc, sLocR, sInc, sPut, sPutR, sPutAdd, sPutSub, sAst, sCst, sRst, sAstAdd, sAstSub, sIf1, sIf, sRet, sRetV, sCallV, sCallS, sPop, sCopy, sCopyT, sObj, sSw, ent_0, ent_1, ent_2, ent_3, ent_4, ent_5, ent_6, va_up_self, va_up_ne, ne_eq, Nat.reduceEqDiff, not_false_eq_true, not_true_eq_false, si_1, si_2, si_g, sr_1, sr_2, cp_1, cp_2, List.length_cons, List.length_nil, Nat.reduceAdd, true_and, and_true, and_self, eq_self, true_implies, forall_const, Bool.false_eq_true, false_implies, or_true, true_or, Option.some.injEq, Prod.mk.injEq, exists_eq_left', exists_eq', exists_and_left, reduceIte, Int.reduceEq, Int.reduceNe]
      exact hR
  · refine swd (fun h => hw ⟨h.1, by have h2 := h.2; simp only [List.length_cons, List.length_nil] at h2; omega⟩) ?_
    simp only [h0, h1, e_in, m0, mR, mA, iC, iL, iF, iA, iAc, iLen, iT, iAdd, iSub, iMul, iDiv, iRem, iNeg, iCh, iAnd31, iQ, iMax, iMin, iAbs, iCallS, iCallV, aN, aI, aR, rL, rF, rA, cEq, cNe, cLt, cGe, cGt, cLe, cAnd, cOr, cNot, cNull, sSkip, sSeq, sLoc, sLocR, sInc, sPut, sPutR, sPutAdd, sPutSub, sAst, sCst, sRst, sAstAdd, sAstSub, sIf1, sIf, sRet, sRetV, sCallV, sCallS, sPop, sCopy, sCopyT, sObj, sSw, ent_0, ent_1, ent_2, ent_3, ent_4, ent_5, ent_6, va_up_self, va_up_ne, ne_eq, Nat.reduceEqDiff, not_false_eq_true, not_true_eq_false, si_1, si_2, si_g, sr_1, sr_2, cp_1, cp_2, List.length_cons, List.length_nil, Nat.reduceAdd, true_and, and_true, and_self, eq_self, true_implies, forall_const, Bool.false_eq_true, false_implies, or_true, true_or, Option.some.injEq, Prod.mk.injEq, exists_eq_left', exists_eq', exists_and_left, reduceIte, Int.reduceEq, Int.reduceNe]
    by_cases c : 0 ≤ w ∧ w ≤ 5
    · rw [if_pos c, if_pos (by decide)]
      rw [if_pos (by omega : 0 ≤ w ∧ w ≤ 14)] at hR
      refine ⟨by omega, by omega, ?_⟩
      by_cases c4 : 0 ≤ w ∧ w ≤ 4
      · rw [if_pos c4] at hR
        rw [hm.2.2.2.2 w.toNat (by omega)]
        exact hR
      · have e : w = 5 := by omega
        rw [if_neg c4, if_pos e] at hR
        rw [e]
        rw [show M.2.1 81 (Int.toNat 5) = A.now.n from hm.2.2.1]
        exact hR
    · rw [if_neg c, if_neg (by decide)]
      rw [if_neg (by omega : ¬ (0 ≤ w ∧ w ≤ 14))] at hR
      exact hR
set_option maxRecDepth 20000 in
theorem d_total {w : Int} (h : MI M A) (hV : A.now.V) (hK : ∀ M2, MN M M2 A → K (totV A w) M2) : m_X7_total [.inr (some 80), .inl w] K M := by
  obtain ⟨m0, mA, mR⟩ := h.fx.md
  simp only [m0, m_X7_total, mk0, B_tot7, iC, iL, iF, iA, iAc, iLen, iT, iAdd, iSub, iMul, iDiv, iRem, iNeg, iCh, iAnd31, iQ, iMax, iMin, iAbs, iCallS, iCallV, aN, aI, aR, rL, rF, rA, cEq, cNe, cLt, cGe, cGt, cLe, cAnd, cOr, cNot, cNull, sSkip, sSeq, sLoc, sLocR, sInc, sPut, sPutR, sPutAdd, sPutSub, sAst, sCst, sRst, sAstAdd, sAstSub, sIf1, sIf, sRet, sRetV, sCallV, sCallS, sPop, sCopy, sCopyT, sObj, sSw, ent_0, ent_1, ent_2, ent_3, ent_4, ent_5, ent_6, va_up_self, va_up_ne, ne_eq, Nat.reduceEqDiff, not_false_eq_true, not_true_eq_false, si_1, si_2, si_g, sr_1, sr_2, cp_1, cp_2, List.length_cons, List.length_nil, Nat.reduceAdd, true_and, and_true, and_self, eq_self, true_implies, forall_const, Bool.false_eq_true, false_implies, or_true, true_or, Option.some.injEq, Prod.mk.injEq, exists_eq_left', exists_eq', exists_and_left, reduceIte, Int.reduceEq, Int.reduceNe]
  refine e_jS h hV (fun M2 n2 j => ?_)
  exact e_totS7 (w := w) n2.1 hV j rfl rfl ⟨n2.2.1, hK M2 n2⟩
/-- what would be: with what is heard as h -/
theorem e_pSh {tt y : Int} {h : Nat → Int} {S : Sg} (hm : MR M S.n S.D S.st) (hG : MG M S.sg) (hV : S.V) (ht : -32 ≤ tt ∧ tt ≤ 32) (hy : -60 ≤ y ∧ y ≤ 60) (hh : VG h) (he : ∀ t, t < 600 → shF S.sg tt y t = h t) (hK : ∀ M2, M2.1 = M.1 → M2.2.2 = M.2.2 → (∀ q j, q < 85 ∨ 90 < q → M2.2.1 q j = M.2.1 q j) → K (ptsV S.n S.D S.st h) M2) : m_X7_pointsShifted [.inr (some 80), .inl tt, .inl y] K M := by
  obtain ⟨m0, mA, mR⟩ := hm.1
  simp only [m_X7_pointsShifted, mk0, B_X7_pointsShifted, iC, iL, iF, iA, iAc, iLen, iT, iAdd, iSub, iMul, iDiv, iRem, iNeg, iCh, iAnd31, iQ, iMax, iMin, iAbs, iCallS, iCallV, aN, aI, aR, rL, rF, rA, cEq, cNe, cLt, cGe, cGt, cLe, cAnd, cOr, cNot, cNull, sSkip, sSeq, sLoc, sLocR, sInc, sPut, sPutR, sPutAdd, sPutSub, sAst, sCst, sRst, sAstAdd, sAstSub, sIf1, sIf, sRet, sRetV, sCallV, sCallS, sPop, sCopy, sCopyT, sObj, sSw, ent_0, ent_1, ent_2, ent_3, ent_4, ent_5, ent_6, va_up_self, va_up_ne, ne_eq, Nat.reduceEqDiff, not_false_eq_true, not_true_eq_false, si_1, si_2, si_g, sr_1, sr_2, cp_1, cp_2, List.length_cons, List.length_nil, Nat.reduceAdd, true_and, and_true, and_self, eq_self, true_implies, forall_const, Bool.false_eq_true, false_implies, or_true, true_or, Option.some.injEq, Prod.mk.injEq, exists_eq_left', exists_eq', exists_and_left, reduceIte, Int.reduceEq, Int.reduceNe, m0]
  refine e_hearJudge hm hG hV.2.2 hV.1 hV.2.1 ht hy hh he (fun M2 h1 hJ => ⟨⟨0, by rw [h1]; exact m0⟩, hJ _ (fun M3 h3 => ⟨⟨0, by rw [h3.1.1]; exact m0⟩, ?_⟩)⟩)
  exact e_allPoints7 (h3.m hm) hV.1 (h3.g hV.1) ⟨h3.1.1, hK M3 h3.1.1 h3.1.2.1 h3.1.2.2⟩
theorem MI.q {M M2 : Mm} {A : Ab} (h : MI M A) (h1 : M2.1 = M.1) (h2 : M2.2.2 = M.2.2) (h3 : ∀ q j, q < 85 ∨ 90 < q → M2.2.1 q j = M.2.1 q j) : MN M M2 A := ⟨h.fr (h.fx.fr' h1 h2) (fun q i h1 h2 => h3 q i (by omega)), h1, h2, fun q i hq => h3 q i (by omega)⟩
set_option maxRecDepth 20000 in
theorem d_ifShifted {t y : Int} (h : MI M A) (hV : A.now.V) (hK : ∀ M2, MN M M2 A → K (ifhV A.now t y) M2) : m_X7_ifShifted [.inr (some 80), .inl t, .inl y] K M := by
  obtain ⟨m0, mA, mR⟩ := h.fx.md
  obtain ⟨hm, hG⟩ := h.r
  unfold ifhV at hK
  simp only [m0, e_in, m_X7_ifShifted, mk0, B_X7_ifShifted, iC, iL, iF, iA, iAc, iLen, iT, iAdd, iSub, iMul, iDiv, iRem, iNeg, iCh, iAnd31, iQ, iMax, iMin, iAbs, iCallS, iCallV, aN, aI, aR, rL, rF, rA, cEq, cNe, cLt, cGe, cGt, cLe, cAnd, cOr, cNot, cNull, sSkip, sSeq, sLoc, sLocR, sInc, sPut, sPutR, sPutAdd, sPutSub, sAst, sCst, sRst, sAstAdd, sAstSub, sIf1, sIf, sRet, sRetV, sCallV, sCallS, sPop, sCopy, sCopyT, sObj, sSw, ent_0, ent_1, ent_2, ent_3, ent_4, ent_5, ent_6, va_up_self, va_up_ne, ne_eq, Nat.reduceEqDiff, not_false_eq_true, not_true_eq_false, si_1, si_2, si_g, sr_1, sr_2, cp_1, cp_2, List.length_cons, List.length_nil, Nat.reduceAdd, true_and, and_true, and_self, eq_self, true_implies, forall_const, Bool.false_eq_true, false_implies, or_true, true_or, Option.some.injEq, Prod.mk.injEq, exists_eq_left', exists_eq', exists_and_left, reduceIte, Int.reduceEq, Int.reduceNe]
  by_cases c1 : -32 ≤ t ∧ t ≤ 32
  · by_cases c2 : -60 ≤ y ∧ y ≤ 60
    · simp only [c1, c2, m0, and_self, if_true, if_false, ent_0, ent_1, ent_2, ent_3, ent_4, ent_5, ent_6, va_up_self, va_up_ne, ne_eq, Nat.reduceEqDiff, not_false_eq_true, not_true_eq_false, si_1, si_2, si_g, sr_1, sr_2, cp_1, cp_2, List.length_cons, List.length_nil, Nat.reduceAdd, true_and, and_true, and_self, eq_self, true_implies, forall_const, Bool.false_eq_true, false_implies, or_true, true_or, Option.some.injEq, Prod.mk.injEq, exists_eq_left', exists_eq', exists_and_left, reduceIte, Int.reduceEq, Int.reduceNe] at hK ⊢
      exact e_pSh hm hG hV c1 c2 (VG_sh _ _ _) (fun _ _ => rfl) (fun M2 q1 q2 q3 => ⟨q1, hK M2 (h.q q1 q2 q3)⟩)
    · simp only [c1, c2, and_self, and_false, if_true, if_false, ent_0, ent_1, ent_2, ent_3, ent_4, ent_5, ent_6, va_up_self, va_up_ne, ne_eq, Nat.reduceEqDiff, not_false_eq_true, not_true_eq_false, si_1, si_2, si_g, sr_1, sr_2, cp_1, cp_2, List.length_cons, List.length_nil, Nat.reduceAdd, true_and, and_true, and_self, eq_self, true_implies, forall_const, Bool.false_eq_true, false_implies, or_true, true_or, Option.some.injEq, Prod.mk.injEq, exists_eq_left', exists_eq', exists_and_left, reduceIte, Int.reduceEq, Int.reduceNe] at hK ⊢
      exact hK M h.rf
  · simp only [c1, false_and, if_true, if_false, ent_0, ent_1, ent_2, ent_3, ent_4, ent_5, ent_6, va_up_self, va_up_ne, ne_eq, Nat.reduceEqDiff, not_false_eq_true, not_true_eq_false, si_1, si_2, si_g, sr_1, sr_2, cp_1, cp_2, List.length_cons, List.length_nil, Nat.reduceAdd, true_and, and_true, and_self, eq_self, true_implies, forall_const, Bool.false_eq_true, false_implies, or_true, true_or, Option.some.injEq, Prod.mk.injEq, exists_eq_left', exists_eq', exists_and_left, reduceIte, Int.reduceEq, Int.reduceNe] at hK ⊢
    exact hK M h.rf
set_option maxRecDepth 20000 in
theorem d_bestShift (h : MI M A) (hV : A.now.V) (hK : ∀ M2, MN M M2 A → K (besV A.now) M2) : m_X7_bestShift [.inr (some 80)] K M := by
  obtain ⟨m0, mA, mR⟩ := h.fx.md
  obtain ⟨hm, hG⟩ := h.r
  unfold besV at hK
  generalize hP : (fun t => ptsV A.now.n A.now.D A.now.st (shF A.now.sg t 0)) = P at hK
  have hp : ∀ t, ptsV A.now.n A.now.D A.now.st (shF A.now.sg t 0) = P t := fun t => by rw [← hP]
  simp only [m0, m_X7_bestShift, mk0, B_X7_bestShift, iC, iL, iF, iA, iAc, iLen, iT, iAdd, iSub, iMul, iDiv, iRem, iNeg, iCh, iAnd31, iQ, iMax, iMin, iAbs, iCallS, iCallV, aN, aI, aR, rL, rF, rA, cEq, cNe, cLt, cGe, cGt, cLe, cAnd, cOr, cNot, cNull, sSkip, sSeq, sLoc, sLocR, sInc, sPut, sPutR, sPutAdd, sPutSub, sAst, sCst, sRst, sAstAdd, sAstSub, sIf1, sIf, sRet, sRetV, sCallV, sCallS, sPop, sCopy, sCopyT, sObj, sSw, ent_0, ent_1, ent_2, ent_3, ent_4, ent_5, ent_6, va_up_self, va_up_ne, ne_eq, Nat.reduceEqDiff, not_false_eq_true, not_true_eq_false, si_1, si_2, si_g, sr_1, sr_2, cp_1, cp_2, List.length_cons, List.length_nil, Nat.reduceAdd, true_and, and_true, and_self, eq_self, true_implies, forall_const, Bool.false_eq_true, false_implies, or_true, true_or, Option.some.injEq, Prod.mk.injEq, exists_eq_left', exists_eq', exists_and_left, reduceIte, Int.reduceEq, Int.reduceNe]
  refine e_pSh hm hG hV (by omega) (by omega) (VG_sh _ _ _) (fun _ _ => rfl) (fun M2 q1 q2 q3 => ?_)
  have n2 := h.q q1 q2 q3
  rw [hp]
  refine while_n (n := 64) (fun r ρ M3 => ∃ d : Nat, d + r = 64 ∧ ρ 0 = .inr (some 80) ∧ ρ 1 = .inl (bsF P d).1 ∧ ρ 2 = .inl (bsF P d).2 ∧ ρ 3 = .inl ((d : Int) + 2) ∧ MN M M3 A) ?_ ⟨0, by omega, by simp [va_up, ent_0], by simp [va_up]; rfl, by simp [va_up]; rfl, by simp [va_up], n2⟩
  rintro r W hW ρ M3 ⟨d, hr, h0, h1, h2, h3, n3⟩
  obtain ⟨k0, kA, kR⟩ := n3.1.fx.md
  obtain ⟨hm3, hG3⟩ := n3.1.r
  simp only [h0, h1, h2, h3, k0, iC, iL, iF, iA, iAc, iLen, iT, iAdd, iSub, iMul, iDiv, iRem, iNeg, iCh, iAnd31, iQ, iMax, iMin, iAbs, iCallS, iCallV, aN, aI, aR, rL, rF, rA, cEq, cNe, cLt, cGe, cGt, cLe, cAnd, cOr, cNot, cNull, sSkip, sSeq, sLoc, sLocR, sInc, sPut, sPutR, sPutAdd, sPutSub, sAst, sCst, sRst, sAstAdd, sAstSub, sIf1, sIf, sRet, sRetV, sCallV, sCallS, sPop, sCopy, sCopyT, sObj, sSw, ent_0, ent_1, ent_2, ent_3, ent_4, ent_5, ent_6, va_up_self, va_up_ne, ne_eq, Nat.reduceEqDiff, not_false_eq_true, not_true_eq_false, si_1, si_2, si_g, sr_1, sr_2, cp_1, cp_2, List.length_cons, List.length_nil, Nat.reduceAdd, true_and, and_true, and_self, eq_self, true_implies, forall_const, Bool.false_eq_true, false_implies, or_true, true_or, Option.some.injEq, Prod.mk.injEq, exists_eq_left', exists_eq', exists_and_left, reduceIte, Int.reduceEq, Int.reduceNe]
  by_cases hd : d < 64
  · rw [if_pos (by omega)]
    have t1 : ((d : Int) + 2).tmod 2 = ((d % 2 : Nat) : Int) := by
      rw [Int.tmod_eq_emod_of_nonneg (by omega)]
      omega
    have t2 : ((d : Int) + 2).tdiv 2 = ((d / 2 : Nat) : Int) + 1 := by
      rw [Int.tdiv_eq_ediv_of_nonneg (by omega)]
      omega
    have r1 : inR (((d / 2 : Nat) : Int) + 1) := inR_s (by omega) (by omega)
    have r2 : inR (-(((d / 2 : Nat) : Int) + 1)) := inR_s (by omega) (by omega)
    have r3 : inR ((d : Int) + 2 + 1) := inR_s (by omega) (by omega)
    have r4 : inR ((d % 2 : Nat) : Int) := inR_s (by omega) (by omega)
    have s1 : bsF P (d + 1) = if (bsF P d).2 < P (bsD d) then (bsD d, P (bsD d)) else bsF P d := rfl
    simp only [t1, t2, r1, r2, r3, r4, ent_0, ent_1, ent_2, ent_3, ent_4, ent_5, ent_6, va_up_self, va_up_ne, ne_eq, Nat.reduceEqDiff, not_false_eq_true, not_true_eq_false, si_1, si_2, si_g, sr_1, sr_2, cp_1, cp_2, List.length_cons, List.length_nil, Nat.reduceAdd, true_and, and_true, and_self, eq_self, true_implies, forall_const, Bool.false_eq_true, false_implies, or_true, true_or, Option.some.injEq, Prod.mk.injEq, exists_eq_left', exists_eq', exists_and_left, reduceIte, Int.reduceEq, Int.reduceNe]
    by_cases ce : d % 2 = 0
    · rw [if_pos (by omega)]
      have eD : bsD d = -(((d / 2 : Nat) : Int) + 1) := by unfold bsD; rw [if_pos ce]
      rw [eD] at s1
      refine e_pSh hm3 hG3 hV (by omega) (by omega) (VG_sh _ _ _) (fun _ _ => rfl) (fun M4 p1 p2 p3 => ?_)
      have n4 := n3.tr (n3.1.q p1 p2 p3)
      rw [hp]
      by_cases c : (bsF P d).2 < P (-(((d / 2 : Nat) : Int) + 1))
      · rw [if_pos c] at s1
        rw [if_pos c, if_pos c]
        exact hW _ _ (by omega) ⟨d + 1, by omega, by simp [va_up, h0], by simp [va_up, s1], by simp [va_up, s1], by simp [va_up]; omega, n4⟩
      · rw [if_neg c] at s1
        rw [if_neg c, if_neg c]
        exact hW _ _ (by omega) ⟨d + 1, by omega, by simp [va_up, h0], by simp [va_up, s1], by simp [va_up, s1], by simp [va_up]; omega, n4⟩
    · rw [if_neg (by omega)]
      have eD : bsD d = ((d / 2 : Nat) : Int) + 1 := by unfold bsD; rw [if_neg ce]
      rw [eD] at s1
      refine e_pSh hm3 hG3 hV (by omega) (by omega) (VG_sh _ _ _) (fun _ _ => rfl) (fun M4 p1 p2 p3 => ?_)
      have n4 := n3.tr (n3.1.q p1 p2 p3)
      rw [hp]
      by_cases c : (bsF P d).2 < P (((d / 2 : Nat) : Int) + 1)
      · rw [if_pos c] at s1
        rw [if_pos c, if_pos c]
        exact hW _ _ (by omega) ⟨d + 1, by omega, by simp [va_up, h0], by simp [va_up, s1], by simp [va_up, s1], by simp [va_up]; omega, n4⟩
      · rw [if_neg c] at s1
        rw [if_neg c, if_neg c]
        exact hW _ _ (by omega) ⟨d + 1, by omega, by simp [va_up, h0], by simp [va_up, s1], by simp [va_up, s1], by simp [va_up]; omega, n4⟩
  · rw [if_neg (by omega)]
    obtain rfl : d = 64 := by omega
    have hb := bsF_b (P := P) 64 (Nat.le_refl _)
    exact ⟨inR_s (show -1000000 ≤ (bsF P 64).1 + 32 by omega) (show (bsF P 64).1 + 32 ≤ 1000000 by omega), n3.2.1, hK M3 n3⟩
set_option maxRecDepth 20000 in
theorem d_ifSet {j v : Int} (h : MI M A) (hV : A.now.V) (hK : ∀ M2, MN M M2 A → K (ifsV A.now j v) M2) : m_X7_ifSet [.inr (some 80), .inl j, .inl v] K M := by
  obtain ⟨m0, mA, mR⟩ := h.fx.md
  obtain ⟨hm, hG⟩ := h.r
  unfold ifsV at hK
  simp only [m0, m_X7_ifSet, mk0, B_X7_ifSet, iC, iL, iF, iA, iAc, iLen, iT, iAdd, iSub, iMul, iDiv, iRem, iNeg, iCh, iAnd31, iQ, iMax, iMin, iAbs, iCallS, iCallV, aN, aI, aR, rL, rF, rA, cEq, cNe, cLt, cGe, cGt, cLe, cAnd, cOr, cNot, cNull, sSkip, sSeq, sLoc, sLocR, sInc, sPut, sPutR, sPutAdd, sPutSub, sAst, sCst, sRst, sAstAdd, sAstSub, sIf1, sIf, sRet, sRetV, sCallV, sCallS, sPop, sCopy, sCopyT, sObj, sSw, ent_0, ent_1, ent_2, ent_3, ent_4, ent_5, ent_6, va_up_self, va_up_ne, ne_eq, Nat.reduceEqDiff, not_false_eq_true, not_true_eq_false, si_1, si_2, si_g, sr_1, sr_2, cp_1, cp_2, List.length_cons, List.length_nil, Nat.reduceAdd, true_and, and_true, and_self, eq_self, true_implies, forall_const, Bool.false_eq_true, false_implies, or_true, true_or, Option.some.injEq, Prod.mk.injEq, exists_eq_left', exists_eq', exists_and_left, reduceIte, Int.reduceEq, Int.reduceNe]
  refine e_settingError ?_
  by_cases c1 : 0 ≤ j ∧ j ≤ 4
  · by_cases c2 : lo j ≤ v ∧ v ≤ hi j
    · have d : j < (806 : Nat) := by omega
      have es := hm.2.2.2.2 j.toNat (by omega)
      simp only [c1, c2, d, es, and_self, if_true, if_false, Int.reduceLT, m0, mA, mR, ent_0, ent_1, ent_2, ent_3, ent_4, ent_5, ent_6, va_up_self, va_up_ne, ne_eq, Nat.reduceEqDiff, not_false_eq_true, not_true_eq_false, si_1, si_2, si_g, sr_1, sr_2, cp_1, cp_2, List.length_cons, List.length_nil, Nat.reduceAdd, true_and, and_true, and_self, eq_self, true_implies, forall_const, Bool.false_eq_true, false_implies, or_true, true_or, Option.some.injEq, Prod.mk.injEq, exists_eq_left', exists_eq', exists_and_left, reduceIte, Int.reduceEq, Int.reduceNe] at hK ⊢
      have n1 : MN M (si M 81 j.toNat v) (setN A (setS A.now j v)) := MN_set h rfl c1
      have e1 : ∀ q i, ¬ (q = 81 ∧ i = j.toNat) → (si M 81 j.toNat v).2.1 q i = M.2.1 q i := fun q i hq => by rw [si_g, if_neg hq]
      have q1 : (si M 81 j.toNat v).1 = M.1 := rfl
      have q2 : (si M 81 j.toNat v).2.2 = M.2.2 := rfl
      generalize si M 81 j.toNat v = M1 at n1 e1 q1 q2 ⊢
      obtain ⟨hm1, hG1⟩ : MR M1 (setS A.now j v).n (setS A.now j v).D (setS A.now j v).st ∧ MG M1 (setS A.now j v).sg := n1.1.r
      refine e_pSh hm1 hG1 (setS_V hV c1 c2) (by omega) (by omega) hV.2.2 (fun t ht => sh_00 hV.2.2 ht) (fun M2 p1 p2 p3 => ?_)
      have n2 := n1.tr (n1.1.q p1 p2 p3)
      obtain ⟨k0, kA, kR⟩ := n2.1.fx.md
      simp only [c1, d, k0, kA, kR, ent_0, ent_1, ent_2, ent_3, ent_4, ent_5, ent_6, va_up_self, va_up_ne, ne_eq, Nat.reduceEqDiff, not_false_eq_true, not_true_eq_false, si_1, si_2, si_g, sr_1, sr_2, cp_1, cp_2, List.length_cons, List.length_nil, Nat.reduceAdd, true_and, and_true, and_self, eq_self, true_implies, forall_const, Bool.false_eq_true, false_implies, or_true, true_or, Option.some.injEq, Prod.mk.injEq, exists_eq_left', exists_eq', exists_and_left, reduceIte, Int.reduceEq, Int.reduceNe]
      have n3 := MN_set (v := A.now.st j.toNat) n2.1 (S := setS A.now j v) rfl c1
      refine ⟨n2.2.1, hK _ ⟨?_, n2.2.1, n2.2.2.1, fun q i hq => by rw [si_g, if_neg (by omega)]; exact n2.2.2.2 q i hq⟩⟩
      refine h.fr n3.1.fx (fun q i h1 h2 => ?_)
      rw [si_g]
      by_cases c : q = 81 ∧ i = j.toNat
      · rw [if_pos c, c.1, c.2]
        exact es.symm
      · rw [if_neg c, p3 q i (by omega), e1 q i c]
    · simp only [c1, c2, and_self, if_true, if_false, Int.reduceLT, ent_0, ent_1, ent_2, ent_3, ent_4, ent_5, ent_6, va_up_self, va_up_ne, ne_eq, Nat.reduceEqDiff, not_false_eq_true, not_true_eq_false, si_1, si_2, si_g, sr_1, sr_2, cp_1, cp_2, List.length_cons, List.length_nil, Nat.reduceAdd, true_and, and_true, and_self, eq_self, true_implies, forall_const, Bool.false_eq_true, false_implies, or_true, true_or, Option.some.injEq, Prod.mk.injEq, exists_eq_left', exists_eq', exists_and_left, reduceIte, Int.reduceEq, Int.reduceNe] at hK ⊢
      exact hK M h.rf
  · simp only [c1, if_true, if_false, Int.reduceLT, ent_0, ent_1, ent_2, ent_3, ent_4, ent_5, ent_6, va_up_self, va_up_ne, ne_eq, Nat.reduceEqDiff, not_false_eq_true, not_true_eq_false, si_1, si_2, si_g, sr_1, sr_2, cp_1, cp_2, List.length_cons, List.length_nil, Nat.reduceAdd, true_and, and_true, and_self, eq_self, true_implies, forall_const, Bool.false_eq_true, false_implies, or_true, true_or, Option.some.injEq, Prod.mk.injEq, exists_eq_left', exists_eq', exists_and_left, reduceIte, Int.reduceEq, Int.reduceNe] at hK ⊢
    exact hK M h.rf
set_option maxRecDepth 20000 in
theorem d_worst (h : MI M A) (hV : A.now.V) (hK : ∀ M2, MN M M2 A → K (worV A.now) M2) : m_X7_worst [.inr (some 80)] K M := by
  obtain ⟨m0, mA, mR⟩ := h.fx.md
  have hn := hV.1.1
  obtain ⟨pb1, pb2⟩ := pcN_b hV.1
  unfold worV at hK
  simp only [m0, m_X7_worst, mk0, B_X7_worst, iC, iL, iF, iA, iAc, iLen, iT, iAdd, iSub, iMul, iDiv, iRem, iNeg, iCh, iAnd31, iQ, iMax, iMin, iAbs, iCallS, iCallV, aN, aI, aR, rL, rF, rA, cEq, cNe, cLt, cGe, cGt, cLe, cAnd, cOr, cNot, cNull, sSkip, sSeq, sLoc, sLocR, sInc, sPut, sPutR, sPutAdd, sPutSub, sAst, sCst, sRst, sAstAdd, sAstSub, sIf1, sIf, sRet, sRetV, sCallV, sCallS, sPop, sCopy, sCopyT, sObj, sSw, ent_0, ent_1, ent_2, ent_3, ent_4, ent_5, ent_6, va_up_self, va_up_ne, ne_eq, Nat.reduceEqDiff, not_false_eq_true, not_true_eq_false, si_1, si_2, si_g, sr_1, sr_2, cp_1, cp_2, List.length_cons, List.length_nil, Nat.reduceAdd, true_and, and_true, and_self, eq_self, true_implies, forall_const, Bool.false_eq_true, false_implies, or_true, true_or, Option.some.injEq, Prod.mk.injEq, exists_eq_left', exists_eq', exists_and_left, reduceIte, Int.reduceEq, Int.reduceNe]
  refine e_jS h hV (fun M2 n2 j => ?_)
  obtain ⟨hm, hG⟩ := n2.1.r
  have k0 := n2.1.fx.md.1
  generalize hpp : (fun q : Nat => ofS A.now q 3) = pp at hK
  have hp : ∀ q : Nat, ofV A.now.n A.now.D (rsV A.now.D A.now.st A.now.sg) (ptW A.now.D (shV A.now.D A.now.st A.now.sg) (hlF A.now.D A.now.st A.now.sg) (onF A.now.D A.now.st A.now.sg) (rsV A.now.D A.now.st A.now.sg)) (q : Int) 3 = pp q := fun q => by
    rw [← hpp]
    rfl
  refine while_n (n := pcN A.now.n A.now.D) (fun r ρ M3 => M3 = M2 ∧ ∃ i : Nat, i + r = pcN A.now.n A.now.D ∧ ρ 0 = .inr (some 80) ∧ ρ 1 = .inl (wsF pp i) ∧ ρ 2 = .inl (i : Int)) ?_ ⟨rfl, 0, by omega, by simp [va_up, ent_0], by simp [va_up]; rfl, by simp [va_up]⟩
  rintro r W hW ρ M3 ⟨rfl, i, hr, h0, h1, h2⟩
  simp only [h0, h1, h2, k0, iC, iL, iF, iA, iAc, iLen, iT, iAdd, iSub, iMul, iDiv, iRem, iNeg, iCh, iAnd31, iQ, iMax, iMin, iAbs, iCallS, iCallV, aN, aI, aR, rL, rF, rA, cEq, cNe, cLt, cGe, cGt, cLe, cAnd, cOr, cNot, cNull, sSkip, sSeq, sLoc, sLocR, sInc, sPut, sPutR, sPutAdd, sPutSub, sAst, sCst, sRst, sAstAdd, sAstSub, sIf1, sIf, sRet, sRetV, sCallV, sCallS, sPop, sCopy, sCopyT, sObj, sSw, ent_0, ent_1, ent_2, ent_3, ent_4, ent_5, ent_6, va_up_self, va_up_ne, ne_eq, Nat.reduceEqDiff, not_false_eq_true, not_true_eq_false, si_1, si_2, si_g, sr_1, sr_2, cp_1, cp_2, List.length_cons, List.length_nil, Nat.reduceAdd, true_and, and_true, and_self, eq_self, true_implies, forall_const, Bool.false_eq_true, false_implies, or_true, true_or, Option.some.injEq, Prod.mk.injEq, exists_eq_left', exists_eq', exists_and_left, reduceIte, Int.reduceEq, Int.reduceNe]
  refine e_phrases hm hV.1 ?_
  by_cases hi : i < pcN A.now.n A.now.D
  · rw [if_pos (by omega)]
    have hb := wsF_b pp i
    have s1 : wsF pp (i + 1) = if wsF pp i = -5 ∨ pp i < pp (wsF pp i).toNat then (i : Int) else wsF pp i := rfl
    have r2 : inR ((i : Int) + 1) := inR_s (by omega) (by omega)
    by_cases c5 : wsF pp i = -5
    · rw [if_pos (.inl c5)] at s1
      rw [if_pos c5]
      exact ⟨r2, hW _ _ (by omega) ⟨rfl, i + 1, by omega, by simp [va_up, h0], by simp [va_up, s1], by simp [va_up]⟩⟩
    · rw [if_neg c5]
      have ew : wsF pp i = (((wsF pp i).toNat : Nat) : Int) := by omega
      refine ⟨⟨0, k0⟩, e_ofPhrase hm hV.1 (j.g hV.1) ⟨⟨0, k0⟩, ?_⟩⟩
      rw [ew]
      refine e_ofPhrase hm hV.1 (j.g hV.1) ?_
      rw [hp, hp, ← ew]
      by_cases c : pp i < pp (wsF pp i).toNat
      · rw [if_pos (.inr c)] at s1
        rw [if_pos c]
        exact ⟨r2, hW _ _ (by omega) ⟨rfl, i + 1, by omega, by simp [va_up, h0], by simp [va_up, s1], by simp [va_up]⟩⟩
      · rw [if_neg (by omega)] at s1
        rw [if_neg c]
        exact ⟨r2, hW _ _ (by omega) ⟨rfl, i + 1, by omega, by simp [va_up, h0], by simp [va_up, s1], by simp [va_up]⟩⟩
  · rw [if_neg (by omega)]
    obtain rfl : i = pcN A.now.n A.now.D := by omega
    exact ⟨n2.2.1, hK _ n2⟩
end MOPS9
