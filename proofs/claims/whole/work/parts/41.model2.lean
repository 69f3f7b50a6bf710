def HH (M : Mm) (h : Nat → Int) : Prop := ∀ t, t < 600 → M.2.1 85 t = h t + 1
theorem HH_at {M : Mm} {h : Nat → Int} (H : HH M h) {t : Int} (ht : 0 ≤ t ∧ t < 600) : M.2.1 85 t.toNat = sgA h t + 1 := by
  unfold sgA
  rw [if_pos ht]
  exact H _ (by omega)
section MHEAR
variable {K : Int → Mm → Prop} {M : Mm} {n : Nat} {D : Nat → Nat → Int} {st sg h : Nat → Int}
set_option maxRecDepth 20000 in
theorem e_hear7 {tt y : Int} (hm : MdP M) (hG : MG M sg) (hg : VG sg) (ht : -32 ≤ tt ∧ tt ≤ 32) (hy : -60 ≤ y ∧ y ≤ 60) (hK : K 0 (sa M 85 (fun t => if t < 600 then shF sg tt y t + 1 else M.2.1 85 t))) : m_X7_hear [.inr (some 80), .inl tt, .inl y] K M := by
  obtain ⟨m0, mA, mR⟩ := hm
  obtain ⟨N, hN⟩ : ∃ N, N = 600 := ⟨600, rfl⟩
  rw [← hN] at hK
  simp only [m_X7_hear, mk0, B_X7_hear, iC, iL, iF, iA, iAc, iLen, iT, iAdd, iSub, iMul, iDiv, iRem, iNeg, iCh, iAnd31, iQ, iMax, iMin, iAbs, iCallS, iCallV, aN, aI, aR, rL, rF, rA, cEq, cNe, cLt, cGe, cGt, cLe, cAnd, cOr, cNot, cNull, sSkip, sSeq, sLoc, sLocR, sInc, sPut, sPutR, sPutAdd, sPutSub, sAst, sCst, sRst, sAstAdd, sAstSub, sIf1, sIf, sRet, sRetV, sCallV, sCallS, sPop, sCopy, sCopyT, sObj, sSw, ent_0, ent_1, ent_2, ent_3, ent_4, ent_5, ent_6, va_up_self, va_up_ne, ne_eq, Nat.reduceEqDiff, not_false_eq_true, not_true_eq_false, si_1, si_2, si_g, sr_1, sr_2, cp_1, cp_2, List.length_cons, List.length_nil, Nat.reduceAdd, true_and, and_true, and_self, eq_self, true_implies, forall_const, Bool.false_eq_true, false_implies, or_true, true_or, Option.some.injEq, Prod.mk.injEq, exists_eq_left', exists_eq', exists_and_left, reduceIte, Int.reduceEq, Int.reduceNe]
  refine while_n (n := N) (fun r ρ M2 => ∃ j : Nat, j + r = N ∧ ρ 0 = .inr (some 80) ∧ ρ 1 = .inl tt ∧ ρ 2 = .inl y ∧ ρ 3 = .inl (j : Int) ∧ M2 = sa M 85 (fun t => if t < j then shF sg tt y t + 1 else M.2.1 85 t)) ?_ ⟨0, by omega, rfl, rfl, rfl, rfl, (sa_self (fun b => if_neg (by omega))).symm⟩
  rintro r W hW ρ M2 ⟨j, hr, h0, h1, h2, h3, rfl⟩
  simp only [h0, h1, h2, h3, m0, mA, mR, sa_1, sa_2, iC, iL, iF, iA, iAc, iLen, iT, iAdd, iSub, iMul, iDiv, iRem, iNeg, iCh, iAnd31, iQ, iMax, iMin, iAbs, iCallS, iCallV, aN, aI, aR, rL, rF, rA, cEq, cNe, cLt, cGe, cGt, cLe, cAnd, cOr, cNot, cNull, sSkip, sSeq, sLoc, sLocR, sInc, sPut, sPutR, sPutAdd, sPutSub, sAst, sCst, sRst, sAstAdd, sAstSub, sIf1, sIf, sRet, sRetV, sCallV, sCallS, sPop, sCopy, sCopyT, sObj, sSw, ent_0, ent_1, ent_2, ent_3, ent_4, ent_5, ent_6, va_up_self, va_up_ne, ne_eq, Nat.reduceEqDiff, not_false_eq_true, not_true_eq_false, si_1, si_2, si_g, sr_1, sr_2, cp_1, cp_2, List.length_cons, List.length_nil, Nat.reduceAdd, true_and, and_true, and_self, eq_self, true_implies, forall_const, Bool.false_eq_true, false_implies, or_true, true_or, Option.some.injEq, Prod.mk.injEq, exists_eq_left', exists_eq', exists_and_left, reduceIte, Int.reduceEq, Int.reduceNe]
  by_cases hj : j < N
  · have r1 : inR ((j : Int) - tt) := inR_s (by omega) (by omega)
    have r2 : inR ((j : Int) + 1) := inR_s (by omega) (by omega)
    have r3 : inR (206 + (j : Int)) := inR_s (by omega) (by omega)
    have r4 : inR (206 + (j : Int) - tt) := inR_s (by omega) (by omega)
    have hb := sgA_b hg ((j : Int) - tt)
    have d0 : (0 : Int) ≤ j := by omega
    have d1 : (j : Int) < (600 : Nat) := by omega
    have key : ∀ v, v = shF sg tt y j + 1 → ∀ z, W (va_up (va_up ρ 4 (.inl z)) 3 (.inl ((j : Int) + 1))) (si (sa M 85 (fun t => if t < j then shF sg tt y t + 1 else M.2.1 85 t)) 85 j v) := by
      intro v hv z
      refine hW _ _ (by omega) ⟨j + 1, by omega, by simp [va_up, h0], by simp [va_up, h1], by simp [va_up, h2], by simp [va_up], ?_⟩
      rw [si_sa]
      refine sa_cong (fun t => ?_)
      by_cases htj : t = j
      · subst htj
        rw [if_pos rfl, if_pos (by omega), hv]
      · rw [if_neg htj]
        by_cases ht2 : t < j
        · rw [if_pos ht2, if_pos (by omega)]
        · rw [if_neg ht2, if_neg (by omega)]
    rw [if_pos (by omega)]
    refine ⟨r1, e_isTick.mpr ?_⟩
    by_cases hq : 0 ≤ (j : Int) - tt ∧ (j : Int) - tt ≤ 599
    · have e1 : (206 + (j : Int) - tt).toNat = 206 + ((j : Int) - tt).toNat := by omega
      have e2 := hG ((j : Int) - tt).toNat (by omega)
      have e3 : sgA sg ((j : Int) - tt) = sg ((j : Int) - tt).toNat := by unfold sgA; rw [if_pos (by omega)]
      have c0 : 0 ≤ 206 + (j : Int) - tt := by omega
      have c1 : 206 + (j : Int) - tt < (806 : Nat) := by omega
      rw [if_pos hq]
      simp only [Int.reduceNe, if_true, not_false_eq_true, r3, r4, c0, c1, e1, sa_g, sa_1, sa_2, m0, mA, mR, e2, h0, h1, h2, h3, iC, iL, iF, iA, iAc, iLen, iT, iAdd, iSub, iMul, iDiv, iRem, iNeg, iCh, iAnd31, iQ, iMax, iMin, iAbs, iCallS, iCallV, aN, aI, aR, rL, rF, rA, cEq, cNe, cLt, cGe, cGt, cLe, cAnd, cOr, cNot, cNull, sSkip, sSeq, sLoc, sLocR, sInc, sPut, sPutR, sPutAdd, sPutSub, sAst, sCst, sRst, sAstAdd, sAstSub, sIf1, sIf, sRet, sRetV, sCallV, sCallS, sPop, sCopy, sCopyT, sObj, sSw, ent_0, ent_1, ent_2, ent_3, ent_4, ent_5, ent_6, va_up_self, va_up_ne, ne_eq, Nat.reduceEqDiff, not_false_eq_true, not_true_eq_false, si_1, si_2, si_g, sr_1, sr_2, cp_1, cp_2, List.length_cons, List.length_nil, Nat.reduceAdd, true_and, and_true, and_self, eq_self, true_implies, forall_const, Bool.false_eq_true, false_implies, or_true, true_or, Option.some.injEq, Prod.mk.injEq, exists_eq_left', exists_eq', exists_and_left, reduceIte, Int.reduceEq, Int.reduceNe]
      rw [e3] at hb
      by_cases hs : sg ((j : Int) - tt).toNat = -1
      · have c2 : ¬ (0 < sg ((j : Int) - tt).toNat + 1) := by omega
        have hv : (0 : Int) = shF sg tt y j + 1 := by unfold shF; rw [if_pos (by rw [e3]; exact hs)]; rfl
        simp only [c2, if_false, d0, d1, r2, Int.toNat_natCast, sa_1, sa_2, mA, mR, h0, h3, iC, iL, iF, iA, iAc, iLen, iT, iAdd, iSub, iMul, iDiv, iRem, iNeg, iCh, iAnd31, iQ, iMax, iMin, iAbs, iCallS, iCallV, aN, aI, aR, rL, rF, rA, cEq, cNe, cLt, cGe, cGt, cLe, cAnd, cOr, cNot, cNull, sSkip, sSeq, sLoc, sLocR, sInc, sPut, sPutR, sPutAdd, sPutSub, sAst, sCst, sRst, sAstAdd, sAstSub, sIf1, sIf, sRet, sRetV, sCallV, sCallS, sPop, sCopy, sCopyT, sObj, sSw, ent_0, ent_1, ent_2, ent_3, ent_4, ent_5, ent_6, va_up_self, va_up_ne, ne_eq, Nat.reduceEqDiff, not_false_eq_true, not_true_eq_false, si_1, si_2, si_g, sr_1, sr_2, cp_1, cp_2, List.length_cons, List.length_nil, Nat.reduceAdd, true_and, and_true, and_self, eq_self, true_implies, forall_const, Bool.false_eq_true, false_implies, or_true, true_or, Option.some.injEq, Prod.mk.injEq, exists_eq_left', exists_eq', exists_and_left, reduceIte, Int.reduceEq, Int.reduceNe]
        exact key _ hv _
      · have c2 : 0 < sg ((j : Int) - tt).toNat + 1 := by omega
        have r5 : inR (sg ((j : Int) - tt).toNat + 1 - 1) := inR_s (by omega) (by omega)
        have r6 : inR (sg ((j : Int) - tt).toNat + 1 - 1 + y) := inR_s (by omega) (by omega)
        have r7 : inR (sg ((j : Int) - tt).toNat + 1 + y) := inR_s (by omega) (by omega)
        simp only [c2, if_true, r5, r6, r7, e_isPitch, sa_1, sa_2, ent_0, ent_1, ent_2, ent_3, ent_4, ent_5, ent_6, va_up_self, va_up_ne, ne_eq, Nat.reduceEqDiff, not_false_eq_true, not_true_eq_false, si_1, si_2, si_g, sr_1, sr_2, cp_1, cp_2, List.length_cons, List.length_nil, Nat.reduceAdd, true_and, and_true, and_self, eq_self, true_implies, forall_const, Bool.false_eq_true, false_implies, or_true, true_or, Option.some.injEq, Prod.mk.injEq, exists_eq_left', exists_eq', exists_and_left, reduceIte, Int.reduceEq, Int.reduceNe]
        by_cases hp : 0 ≤ sg ((j : Int) - tt).toNat + 1 - 1 + y ∧ sg ((j : Int) - tt).toNat + 1 - 1 + y ≤ 60
        · have hv : sg ((j : Int) - tt).toNat + 1 + y = shF sg tt y j + 1 := by
            unfold shF clp
            rw [if_neg (by rw [e3]; exact hs), e3, if_pos (by omega)]
            omega
          rw [if_pos hp]
          simp only [Int.reduceNe, not_false_eq_true, if_true, d0, d1, r2, Int.toNat_natCast, sa_1, sa_2, mA, mR, h0, h3, iC, iL, iF, iA, iAc, iLen, iT, iAdd, iSub, iMul, iDiv, iRem, iNeg, iCh, iAnd31, iQ, iMax, iMin, iAbs, iCallS, iCallV, aN, aI, aR, rL, rF, rA, cEq, cNe, cLt, cGe, cGt, cLe, cAnd, cOr, cNot, cNull, sSkip, sSeq, sLoc, sLocR, sInc, sPut, sPutR, sPutAdd, sPutSub, sAst, sCst, sRst, sAstAdd, sAstSub, sIf1, sIf, sRet, sRetV, sCallV, sCallS, sPop, sCopy, sCopyT, sObj, sSw, ent_0, ent_1, ent_2, ent_3, ent_4, ent_5, ent_6, va_up_self, va_up_ne, ne_eq, Nat.reduceEqDiff, not_false_eq_true, not_true_eq_false, si_1, si_2, si_g, sr_1, sr_2, cp_1, cp_2, List.length_cons, List.length_nil, Nat.reduceAdd, true_and, and_true, and_self, eq_self, true_implies, forall_const, Bool.false_eq_true, false_implies, or_true, true_or, Option.some.injEq, Prod.mk.injEq, exists_eq_left', exists_eq', exists_and_left, reduceIte, Int.reduceEq, Int.reduceNe]
          exact key _ hv _
        · have hv : (0 : Int) = shF sg tt y j + 1 := by
            unfold shF clp
            rw [if_neg (by rw [e3]; exact hs), e3, if_neg (by omega)]
            rfl
          rw [if_neg hp]
          simp only [Int.reduceNe, not_true_eq_false, if_false, d0, d1, r2, Int.toNat_natCast, sa_1, sa_2, mA, mR, h0, h3, iC, iL, iF, iA, iAc, iLen, iT, iAdd, iSub, iMul, iDiv, iRem, iNeg, iCh, iAnd31, iQ, iMax, iMin, iAbs, iCallS, iCallV, aN, aI, aR, rL, rF, rA, cEq, cNe, cLt, cGe, cGt, cLe, cAnd, cOr, cNot, cNull, sSkip, sSeq, sLoc, sLocR, sInc, sPut, sPutR, sPutAdd, sPutSub, sAst, sCst, sRst, sAstAdd, sAstSub, sIf1, sIf, sRet, sRetV, sCallV, sCallS, sPop, sCopy, sCopyT, sObj, sSw, ent_0, ent_1, ent_2, ent_3, ent_4, ent_5, ent_6, va_up_self, va_up_ne, ne_eq, Nat.reduceEqDiff, not_false_eq_true, not_true_eq_false, si_1, si_2, si_g, sr_1, sr_2, cp_1, cp_2, List.length_cons, List.length_nil, Nat.reduceAdd, true_and, and_true, and_self, eq_self, true_implies, forall_const, Bool.false_eq_true, false_implies, or_true, true_or, Option.some.injEq, Prod.mk.injEq, exists_eq_left', exists_eq', exists_and_left, reduceIte, Int.reduceEq, Int.reduceNe]
          exact key _ hv _
    · have hv : (0 : Int) = shF sg tt y j + 1 := by
        have e3 : sgA sg ((j : Int) - tt) = -1 := by unfold sgA; rw [if_neg (by omega)]
        unfold shF
        rw [if_pos e3]
        rfl
      rw [if_neg hq]
      simp only [Int.reduceNe, not_true_eq_false, if_false, Int.reduceLT, d0, d1, r2, Int.toNat_natCast, sa_1, sa_2, m0, mA, mR, h0, h3, iC, iL, iF, iA, iAc, iLen, iT, iAdd, iSub, iMul, iDiv, iRem, iNeg, iCh, iAnd31, iQ, iMax, iMin, iAbs, iCallS, iCallV, aN, aI, aR, rL, rF, rA, cEq, cNe, cLt, cGe, cGt, cLe, cAnd, cOr, cNot, cNull, sSkip, sSeq, sLoc, sLocR, sInc, sPut, sPutR, sPutAdd, sPutSub, sAst, sCst, sRst, sAstAdd, sAstSub, sIf1, sIf, sRet, sRetV, sCallV, sCallS, sPop, sCopy, sCopyT, sObj, sSw, ent_0, ent_1, ent_2, ent_3, ent_4, ent_5, ent_6, va_up_self, va_up_ne, ne_eq, Nat.reduceEqDiff, not_false_eq_true, not_true_eq_false, si_1, si_2, si_g, sr_1, sr_2, cp_1, cp_2, List.length_cons, List.length_nil, Nat.reduceAdd, true_and, and_true, and_self, eq_self, true_implies, forall_const, Bool.false_eq_true, false_implies, or_true, true_or, Option.some.injEq, Prod.mk.injEq, exists_eq_left', exists_eq', exists_and_left, reduceIte, Int.reduceEq, Int.reduceNe]
      exact key _ hv _
  · rw [if_neg (by omega)]
    obtain rfl : j = N := by omega
    exact hK
theorem e_isOnset7 {t : Int} (hm : MdP M) (H : HH M h) (hg : VG h) (ht : 0 ≤ t ∧ t < 600) : m_X7_isOnset [.inr (some 80), .inl t] K M ↔ K (if on? h t = true then 1 else 0) M := by
  obtain ⟨m0, mA, mR⟩ := hm
  have r1 : inR (t - 1) := inR_s (by omega) (by omega)
  have c1 : t < (600 : Nat) := by omega
  have e1 := HH_at H ht
  have hb := sgA_b hg t
  simp only [m_X7_isOnset, mk0, B_X7_isOnset, iC, iL, iF, iA, iAc, iLen, iT, iAdd, iSub, iMul, iDiv, iRem, iNeg, iCh, iAnd31, iQ, iMax, iMin, iAbs, iCallS, iCallV, aN, aI, aR, rL, rF, rA, cEq, cNe, cLt, cGe, cGt, cLe, cAnd, cOr, cNot, cNull, sSkip, sSeq, sLoc, sLocR, sInc, sPut, sPutR, sPutAdd, sPutSub, sAst, sCst, sRst, sAstAdd, sAstSub, sIf1, sIf, sRet, sRetV, sCallV, sCallS, sPop, sCopy, sCopyT, sObj, sSw, ent_0, ent_1, ent_2, ent_3, ent_4, ent_5, ent_6, va_up_self, va_up_ne, ne_eq, Nat.reduceEqDiff, not_false_eq_true, not_true_eq_false, si_1, si_2, si_g, sr_1, sr_2, cp_1, cp_2, List.length_cons, List.length_nil, Nat.reduceAdd, true_and, and_true, and_self, eq_self, true_implies, forall_const, Bool.false_eq_true, false_implies, or_true, true_or, Option.some.injEq, Prod.mk.injEq, exists_eq_left', exists_eq', exists_and_left, reduceIte, Int.reduceEq, Int.reduceNe, m0, mA, mR, ht.1, c1, e1, r1]
  unfold on?
  by_cases h0 : t = 0
  · subst h0
    have e2 : sgA h (0 - 1) = -1 := by unfold sgA; rw [if_neg (by omega)]
    rw [e2]
    by_cases c : sgA h 0 = -1
    · simp [c]
    · have c2 : 0 < sgA h 0 + 1 := by omega
      simp [c, c2]
  · have e2 := HH_at H (t := t - 1) ⟨by omega, by omega⟩
    have c3 : 0 ≤ t - 1 := by omega
    have c4 : t - 1 < (600 : Nat) := by omega
    simp only [h0, c3, c4, e2, if_false, true_and]
    by_cases c : sgA h t = -1
    · simp [c]
    · have c2 : 0 < sgA h t + 1 := by omega
      by_cases c5 : sgA h t = sgA h (t - 1)
      · simp [c, c5]
      · have c6 : ¬ sgA h (t - 1) + 1 = sgA h t + 1 := by omega
        simp [c, c2, c5, c6]
theorem e_matches7 {k : Nat} {t : Int} (hm : MR M n D st) (hv : VD n D) (hst : VT st) (H : HH M h) (hg : VG h) (hk : k < n) (ht : D k 0 ≤ t ∧ t < D k 0 + D k 1) : m_X7_matches [.inr (some 80), .inl k, .inl t] K M ↔ K (if mt? st (sgA h t) (wn D k (t - D k 0)) = true then 1 else 0) M := by
  obtain ⟨m0, mA, mR⟩ := hm.1
  have hb := hv.2.1 k hk
  have e1 := HH_at H (t := t) ⟨by omega, by omega⟩
  have hp := sgA_b hg t
  have hw := wn_b hv hk (j := t - D k 0) ⟨by omega, by omega⟩
  have c0 : 0 ≤ t := by omega
  have c1 : t < (600 : Nat) := by omega
  have r1 : inR (t - D k 0) := inR_s (by omega) (by omega)
  have r2 : inR (sgA h t + 1 - 1) := inR_s (by omega) (by omega)
  have r3 : inR (sgA h t + 1 - 1 - wn D k (t - D k 0)) := inR_s (by omega) (by omega)
  have e3 : Int.toNat 3 = 3 := rfl
  have e11 : Int.toNat 1 = 1 := rfl
  have d3 : (0 : Int) ≤ 3 ∧ (3 : Int) < (806 : Nat) := by decide
  have d1 : (0 : Int) ≤ 1 ∧ (1 : Int) < (806 : Nat) := by decide
  have s3 := hm.2.2.2.2 3 (by decide)
  have s1 := hm.2.2.2.2 1 (by decide)
  have ha := absI_b (x := sgA h t + 1 - 1 - wn D k (t - D k 0)) (c := 3000) (by omega) (by omega)
  have hmm := tmod_b ha.1
  have r4 : inR ((absI (sgA h t + 1 - 1 - wn D k (t - D k 0))).tmod 12) := inR_s (by omega) (by omega)
  have r5 : inR (12 - (absI (sgA h t + 1 - 1 - wn D k (t - D k 0))).tmod 12) := inR_s (by omega) (by omega)
  simp only [m_X7_matches, mk0, B_X7_matches, iC, iL, iF, iA, iAc, iLen, iT, iAdd, iSub, iMul, iDiv, iRem, iNeg, iCh, iAnd31, iQ, iMax, iMin, iAbs, iCallS, iCallV, aN, aI, aR, rL, rF, rA, cEq, cNe, cLt, cGe, cGt, cLe, cAnd, cOr, cNot, cNull, sSkip, sSeq, sLoc, sLocR, sInc, sPut, sPutR, sPutAdd, sPutSub, sAst, sCst, sRst, sAstAdd, sAstSub, sIf1, sIf, sRet, sRetV, sCallV, sCallS, sPop, sCopy, sCopyT, sObj, sSw, ent_0, ent_1, ent_2, ent_3, ent_4, ent_5, ent_6, va_up_self, va_up_ne, ne_eq, Nat.reduceEqDiff, not_false_eq_true, not_true_eq_false, si_1, si_2, si_g, sr_1, sr_2, cp_1, cp_2, List.length_cons, List.length_nil, Nat.reduceAdd, true_and, and_true, and_self, eq_self, true_implies, forall_const, Bool.false_eq_true, false_implies, or_true, true_or, Option.some.injEq, Prod.mk.injEq, exists_eq_left', exists_eq', exists_and_left, reduceIte, Int.reduceEq, Int.reduceNe, m0, mA, mR, c0, c1, e1, e_of0 hm hk, r1, r2, e_wantedIn hm hv hk (j := t - D k 0) ⟨by omega, by omega⟩, r3, e_sizeI (v := sgA h t + 1 - 1 - wn D k (t - D k 0)) ⟨by omega, by omega⟩, e3, e11, d3.1, d3.2, d1.1, d1.2, s3, s1, r4, r5]
  have ee : sgA h t + 1 - 1 = sgA h t := by omega
  rw [ee]
  unfold mt? far
  by_cases q1 : sgA h t = -1
  · simp [q1]
  · have q2 : ¬ (sgA h t + 1 = 0) := by omega
    by_cases c2 : st 3 = 1
    · simp only [q1, q2, c2, if_true, if_false, decide_eq_true_eq, ne_eq, not_false_eq_true, true_and]
      (repeat' split) <;> simp_all
    · simp only [q1, q2, c2, if_true, if_false, decide_eq_true_eq, ne_eq, not_false_eq_true, true_and]
      (repeat' split) <;> simp_all
end MHEAR
