def scTail : ST := sSeq (sAst (rF 1 5 (rL 0)) (iL 3) (iMin (iL 2) (iC 10))) (sSeq (sAst (rF 1 6 (rL 0)) (iL 3) (iCallV 1 m_X1_scoreOf (rL 0) (aR (rL 1) (aI (iL 3) (aN))))) (sSeq (sAstAdd (rF 1 8 (rL 0)) (iL 4) (iA (rF 1 6 (rL 0)) (iL 3))) (sSeq (sLoc 2 (iQ (cEq (iA (rF 1 4 (rL 0)) (iL 3)) (iC 0)) (iAdd (iL 2) (iC 1)) (iC 0))) (sSeq (sAstAdd (rF 1 7 (rL 0)) (iL 4) (iQ (cEq (iA (rF 1 4 (rL 0)) (iL 3)) (iC 0)) (iC 1) (iC 0))) (sAst (rF 1 9 (rL 0)) (iL 4) (iMax (iA (rF 1 9 (rL 0)) (iL 4)) (iL 2)))))))
def scBody : ST := sSeq (sSeq (sLoc 4 (iCallV 3 m_X3_phraseOf (rL 1) (aI (iL 3) (aN)))) (sSeq (sIf1 (cNot (cNe (iCallS m_X6_isWithin (aI (iL 4) (aI (iC 0) (aI (iC 39) (aN))))) (iC 0))) (sRetV)) (sSeq (sIf1 (cNe (iCallV 3 m_X3_beginsPhrase (rL 1) (aI (iL 3) (aN))) (iC 0)) (sSeq (sCallV 1 m_X1_beginPhrase (rL 0) (aI (iL 4) (aN))) (sLoc 2 (iC 0)))) scTail))) (sInc 3 1)
def scLoop2 : ST := sWhile (cAnd (cLt (iL 3) (iCallV 3 m_X3_phraseCount (rL 1) (aN))) (cLt (iL 3) (iC 40))) (sSeq (sSeq (sAstAdd (rF 1 8 (rL 0)) (iL 3) (iCallS m_X1_extraOf (aI (iA (rF 1 7 (rL 0)) (iL 3)) (aI (iCallV 3 m_X3_sizeOfPhrase (rL 1) (aI (iL 3) (aN))) (aN))))) (sSeq (sPutAdd 1 10 (rL 0) (iA (rF 1 7 (rL 0)) (iL 3))) (sPutAdd 1 11 (rL 0) (iA (rF 1 8 (rL 0)) (iL 3))))) (sInc 3 1))
def pcN (n : Nat) (D : Nat → Nat → Int) : Nat := (cnt1 D n).toNat
def ptW (D : Nat → Nat → Int) (sh hd on' rs : Nat → Int) (i : Nat) : Int := ptV (D i 0) (sh i) (hd i) (on' i) (rs i) (mn10 (rwA D rs i))
def exP (n : Nat) (D : Nat → Nat → Int) (rs : Nat → Int) (p : Int) : Int := if 2 ≤ szP D p n ∧ hP D rs p n = szP D p n then 50 else 0
/-- what the judge holds of the syllables before it scores -/
def SIn (M : Mm) (n : Nat) (sh hd on' rs : Nat → Int) : Prop := ∀ i, i < n → M.2.1 71 i = sh i ∧ M.2.1 72 i = hd i ∧ M.2.1 73 i = on' i ∧ M.2.1 74 i = rs i ∧ (0 ≤ sh i ∧ sh i ≤ 3200) ∧ (0 ≤ hd i ∧ hd i ≤ 40) ∧ (-5 ≤ on' i ∧ on' i ≤ 700)
/-- what is kept while it scores -/
def SKp (M M2 : Mm) : Prop := M2.1 = M.1 ∧ M2.2.2 = M.2.2 ∧ ∀ q j, q < 69 ∨ (70 ≤ q ∧ q ≤ 74) ∨ 79 < q → M2.2.1 q j = M.2.1 q j
def SI1 (M M2 : Mm) (D : Nat → Nat → Int) (sh hd on' rs : Nat → Int) (i : Nat) : Prop := SKp M M2 ∧ (M2.2.1 69 10 = 0 ∧ M2.2.1 69 11 = 0) ∧ (∀ j, j < i → M2.2.1 75 j = mn10 (rwA D rs j) ∧ M2.2.1 76 j = ptW D sh hd on' rs j) ∧ ∀ p : Nat, (p : Int) < cnt1 D i → M2.2.1 77 p = hP D rs p i ∧ M2.2.1 78 p = pP D (ptW D sh hd on' rs) p i ∧ M2.2.1 79 p = lP D rs p i
theorem mn10_b {x : Int} (h : 0 ≤ x) : 0 ≤ mn10 x ∧ mn10 x ≤ 10 := by unfold mn10; split <;> omega
theorem ptW_b {D : Nat → Nat → Int} {sh hd on' rs : Nat → Int} {i : Nat} (h1 : 0 ≤ sh i ∧ sh i ≤ 3200) (h2 : 0 ≤ hd i ∧ hd i ≤ 40) : 0 ≤ ptW D sh hd on' rs i ∧ ptW D sh hd on' rs i ≤ 6800 := pt_b h1 h2 (mn10_b (rwA_b D rs i).1)
def tlM (M : Mm) (D : Nat → Nat → Int) (sh hd on' rs : Nat → Int) (i p : Nat) : Mm :=
  si (si (si (si (si M 75 i (mn10 (rwA D rs i))) 76 i (ptW D sh hd on' rs i)) 78 p (M.2.1 78 p + ptW D sh hd on' rs i)) 77 p (M.2.1 77 p + (if rs i = 0 then 1 else 0))) 79 p (if M.2.1 79 p < re D rs (i + 1) then re D rs (i + 1) else M.2.1 79 p)
section TAIL
variable {M : Mm} {k n : Nat} {D : Nat → Nat → Int} {sh hd on' rs : Nat → Int}
set_option maxRecDepth 20000 in
theorem e_scTail {W : En → Mm → Prop} {Rt : Int → Mm → Prop} {ρ : En} {i p : Nat} (hj : JdP M) (h : CS M k n D) (hk : k + 5 < 69) (hv : VD n D) (hi : i < n) (hs : SIn M n sh hd on' rs) (hp : p < 40)
    (h0 : ρ 0 = .inr (some 69)) (h1 : ρ 1 = .inr (some k)) (h2 : ρ 2 = .inl (rwA D rs i)) (h3 : ρ 3 = .inl (i : Int)) (h4 : ρ 4 = .inl (p : Int))
    (b1 : 0 ≤ M.2.1 77 p ∧ M.2.1 77 p ≤ 40) (b2 : 0 ≤ M.2.1 78 p ∧ M.2.1 78 p ≤ 300000) 
    (hW : W (va_up ρ 2 (.inl (re D rs (i + 1)))) (tlM M D sh hd on' rs i p)) : scTail W Rt ρ M := by
  have h40 := h.2.1
  obtain ⟨q1, q2, q3, q4, q5, q6, q7⟩ := hs i hi
  have hb := rwA_b D rs i
  have hm := mn10_b hb.1
  have hpt := ptW_b (D := D) (on' := on') (rs := rs) q5 q6
  have hmn : (if 10 < rwA D rs i then 10 else rwA D rs i) = mn10 (rwA D rs i) := rfl
  have c0 : (0 : Int) ≤ i := by omega
  have c1 : (i : Int) < (40 : Nat) := by omega
  have d0 : (0 : Int) ≤ p := by omega
  have d1 : (p : Int) < (40 : Nat) := by omega
  have r1 : inR (M.2.1 78 p + ptW D sh hd on' rs i) := inR_s (by omega) (by omega)
  have r2 : inR (rwA D rs i + 1) := inR_s (by omega) (by omega)
  have r3 : inR (M.2.1 77 p + 1) := inR_s (by omega) (by omega)
  have r4 : inR (M.2.1 77 p + 0) := inR_s (by omega) (by omega)
  obtain ⟨j0, hA, hR⟩ := hj
  have hJ : JdP (si M 75 i (mn10 (rwA D rs i))) := ⟨j0, hA, hR⟩
  have hC : CS (si M 75 i (mn10 (rwA D rs i))) k n D := CS_fr h rfl rfl (fun q j x1 x2 => by rw [si_g, if_neg (by omega)])
  have hpe : ptV (D i 0) (sh i) (hd i) (on' i) (rs i) (mn10 (rwA D rs i)) = ptW D sh hd on' rs i := rfl
  unfold scTail
  simp only [h0, h1, h2, h3, h4, j0, hA, hR, hmn, c0, c1, d0, d1, Int.toNat_natCast, iC, iL, iF, iA, iAc, iLen, iT, iAdd, iSub, iMul, iDiv, iRem, iNeg, iCh, iAnd31, iQ, iMax, iMin, iAbs, iCallS, iCallV, aN, aI, aR, rL, rF, rA, cEq, cNe, cLt, cGe, cGt, cLe, cAnd, cOr, cNot, cNull, sSkip, sSeq, sLoc, sLocR, sInc, sPut, sPutR, sPutAdd, sPutSub, sAst, sCst, sRst, sAstAdd, sAstSub, sIf1, sIf, sRet, sRetV, sCallV, sCallS, sPop, sCopy, sCopyT, sObj, sSw, iAddW, iMulW, iAndM, iShr, cQ, ent_0, ent_1, ent_2, ent_3, ent_4, ent_5, ent_6, va_up_self, va_up_ne, ne_eq, Nat.reduceEqDiff, not_false_eq_true, not_true_eq_false, si_1, si_2, si_g, sr_1, sr_2, cp_1, cp_2, List.length_cons, List.length_nil, Nat.reduceAdd, true_and, and_true, and_self, eq_self, true_implies, forall_const, Bool.false_eq_true, false_implies, or_true, true_or, Option.some.injEq, Prod.mk.injEq, exists_eq_left', exists_eq', exists_and_left, reduceIte, Int.reduceEq, Int.reduceNe]
  refine (e_scoreOf hJ hC hv hi ?_ ?_ ?_ ?_).mpr ?_
  · simp [si_g]; omega
  · simp [si_g]; omega
  · simp [si_g]; omega
  · simp [si_g]; omega
  · simp only [si_g, Nat.reduceEqDiff, false_and, true_and, and_self, if_true, if_false, q1, q2, q3, q4, hpe, j0, hA, hR, h0, h1, h2, h3, h4, c0, c1, d0, d1, Int.toNat_natCast, r1, r2, iC, iL, iF, iA, iAc, iLen, iT, iAdd, iSub, iMul, iDiv, iRem, iNeg, iCh, iAnd31, iQ, iMax, iMin, iAbs, iCallS, iCallV, aN, aI, aR, rL, rF, rA, cEq, cNe, cLt, cGe, cGt, cLe, cAnd, cOr, cNot, cNull, sSkip, sSeq, sLoc, sLocR, sInc, sPut, sPutR, sPutAdd, sPutSub, sAst, sCst, sRst, sAstAdd, sAstSub, sIf1, sIf, sRet, sRetV, sCallV, sCallS, sPop, sCopy, sCopyT, sObj, sSw, iAddW, iMulW, iAndM, iShr, cQ, ent_0, ent_1, ent_2, ent_3, ent_4, ent_5, ent_6, va_up_self, va_up_ne, ne_eq, Nat.reduceEqDiff, not_false_eq_true, not_true_eq_false, si_1, si_2, si_g, sr_1, sr_2, cp_1, cp_2, List.length_cons, List.length_nil, Nat.reduceAdd, true_and, and_true, and_self, eq_self, true_implies, forall_const, Bool.false_eq_true, false_implies, or_true, true_or, Option.some.injEq, Prod.mk.injEq, exists_eq_left', exists_eq', exists_and_left, reduceIte, Int.reduceEq, Int.reduceNe]
    unfold tlM at hW
    rw [re_s] at hW
    by_cases c : rs i = 0
    · simp only [c, r3, if_true, reduceIte] at hW ⊢
      exact ⟨trivial, hW⟩
    · simp only [c, r4, if_false, reduceIte] at hW ⊢
      exact ⟨trivial, hW⟩
end TAIL
