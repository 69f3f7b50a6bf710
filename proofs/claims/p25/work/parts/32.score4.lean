section SC2
variable {M : Mm} {k n : Nat} {D : Nat → Nat → Int} {sh hd on' rs : Nat → Int}
theorem pcN_b (hv : VD n D) : (pcN n D : Int) = cnt1 D n ∧ pcN n D ≤ n := by
  have := cnt1_b hv n (Nat.le_refl n)
  unfold pcN
  omega
/-- while the phrases are summed up -/
def SI2 (M M2 : Mm) (n : Nat) (D : Nat → Nat → Int) (sh hd on' rs : Nat → Int) (q : Nat) : Prop := SKp M M2 ∧ (M2.2.1 69 10 = sm (fun p => hP D rs p n) q ∧ M2.2.1 69 11 = sm (fun p => pP D (ptW D sh hd on' rs) p n + exP n D rs p) q) ∧ (∀ j, j < n → M2.2.1 75 j = mn10 (rwA D rs j) ∧ M2.2.1 76 j = ptW D sh hd on' rs j) ∧
  ∀ p : Nat, p < pcN n D → M2.2.1 77 p = hP D rs p n ∧ M2.2.1 78 p = pP D (ptW D sh hd on' rs) p n + (if p < q then exP n D rs p else 0) ∧ M2.2.1 79 p = lP D rs p n
theorem exP_b (p : Int) : 0 ≤ exP n D rs p ∧ exP n D rs p ≤ 50 := by unfold exP; split <;> omega
set_option maxRecDepth 20000 in
theorem e_score {K : Int → Mm → Prop} (hj : JdP M) (h : CS M k n D) (hk : k + 5 < 69) (hv : VD n D) (hs : SIn M n sh hd on' rs) (hK : ∀ M2, ScPost M M2 n D sh hd on' rs → K 0 M2) : m_X1_score [.inr (some 69), .inr (some k)] K M := by
  have h40 := h.2.1
  have hpts : ∀ j, j < n → 0 ≤ ptW D sh hd on' rs j ∧ ptW D sh hd on' rs j ≤ 6800 := fun j hji => by
    obtain ⟨-, -, -, -, q5, q6, -⟩ := hs j (by omega)
    exact ptW_b q5 q6
  have bP := fun q => pP_b (D := D) (p := q) hpts
  have bH := fun q => hP_b D rs q n
  have hpc := pcN_b hv
  refine ⟨rfl, ?_⟩
  show sSeq (sSeq (sPut false 1 10 (rL 0) (iC 0)) (sSeq (sPut false 1 11 (rL 0) (iC 0)) (sSeq (sLoc 2 (iC 0)) (sSeq (sSeq (sLoc 3 (iC 0)) (sWhile (cAnd (cLt (iL 3) (iCallV 3 m_X3_size (rL 1) (aN))) (cLt (iL 3) (iC 40))) scBody)) (sSeq (sLoc 3 (iC 0)) scLoop2))))) sRetV _ _ _ _
  simp only [hj.1, iC, iL, iF, iA, iAc, iLen, iT, iAdd, iSub, iMul, iDiv, iRem, iNeg, iCh, iAnd31, iQ, iMax, iMin, iAbs, iCallS, iCallV, aN, aI, aR, rL, rF, rA, cEq, cNe, cLt, cGe, cGt, cLe, cAnd, cOr, cNot, cNull, sSkip, sSeq, sLoc, sLocR, sInc, sPut, sPutR, sPutAdd, sPutSub, sAst, sCst, sRst, sAstAdd, sAstSub, sIf1, sIf, sRet, sRetV, sCallV, sCallS, sPop, sCopy, sCopyT, sObj, sSw, iAddW, iMulW, iAndM, iShr, cQ, ent_0, ent_1, ent_2, ent_3, ent_4, ent_5, ent_6, va_up_self, va_up_ne, ne_eq, Nat.reduceEqDiff, not_false_eq_true, not_true_eq_false, si_1, si_2, si_g, sr_1, sr_2, cp_1, cp_2, List.length_cons, List.length_nil, Nat.reduceAdd, true_and, and_true, and_self, eq_self, true_implies, forall_const, Bool.false_eq_true, false_implies, or_true, true_or, Option.some.injEq, Prod.mk.injEq, exists_eq_left', exists_eq', exists_and_left, reduceIte, Int.reduceEq, Int.reduceNe]
  refine while_n (n := n) (fun r ρ M2 => ∃ i : Nat, i + r = n ∧ ρ 0 = .inr (some 69) ∧ ρ 1 = .inr (some k) ∧ ρ 2 = .inl (re D rs i) ∧ ρ 3 = .inl (i : Int) ∧ SI1 M M2 D sh hd on' rs i) ?_ ⟨0, by omega, rfl, rfl, rfl, rfl, SKp_si (SKp_si (SKp_rf M) (by omega)) (by omega), ⟨by simp [si_g], by simp [si_g]⟩, fun j hj => by omega, fun p hp => by have : (p : Int) < 0 := hp; omega⟩
  rintro r W hW ρ M2 ⟨i, hr, h0, h1, h2, h3, hI⟩
  have hC2 : CS M2 k n D := CS_fr h hI.1.1 hI.1.2.1 (fun q j x1 x2 => hI.1.2.2 q j (Or.inl (by omega)))
  have hJ2 : JdP M2 := JdP_fr hj hI.1.1 hI.1.2.1
  simp only [h0, h1, h2, h3, hC2.1.o, e_size hC2, iC, iL, iF, iA, iAc, iLen, iT, iAdd, iSub, iMul, iDiv, iRem, iNeg, iCh, iAnd31, iQ, iMax, iMin, iAbs, iCallS, iCallV, aN, aI, aR, rL, rF, rA, cEq, cNe, cLt, cGe, cGt, cLe, cAnd, cOr, cNot, cNull, sSkip, sSeq, sLoc, sLocR, sInc, sPut, sPutR, sPutAdd, sPutSub, sAst, sCst, sRst, sAstAdd, sAstSub, sIf1, sIf, sRet, sRetV, sCallV, sCallS, sPop, sCopy, sCopyT, sObj, sSw, iAddW, iMulW, iAndM, iShr, cQ, ent_0, ent_1, ent_2, ent_3, ent_4, ent_5, ent_6, va_up_self, va_up_ne, ne_eq, Nat.reduceEqDiff, not_false_eq_true, not_true_eq_false, si_1, si_2, si_g, sr_1, sr_2, cp_1, cp_2, List.length_cons, List.length_nil, Nat.reduceAdd, true_and, and_true, and_self, eq_self, true_implies, forall_const, Bool.false_eq_true, false_implies, or_true, true_or, Option.some.injEq, Prod.mk.injEq, exists_eq_left', exists_eq', exists_and_left, reduceIte, Int.reduceEq, Int.reduceNe]
  by_cases hi : i < n
  · rw [if_pos (by omega), if_pos (by omega)]
    exact sc_round hj h hk hv hs hi h0 h1 h2 h3 hI (fun ρ2 M4 x0 x1 x2 x3 hI2 => hW _ _ (by omega) ⟨i + 1, by omega, x0, x1, x2, by rw [x3]; rfl, hI2⟩)
  · rw [if_neg (by omega)]
    obtain rfl : i = n := by omega
    unfold scLoop2
    refine while_n (n := pcN i D) (fun r ρ M3 => ∃ q : Nat, q + r = pcN i D ∧ ρ 0 = .inr (some 69) ∧ ρ 1 = .inr (some k) ∧ ρ 3 = .inl (q : Int) ∧ SI2 M M3 i D sh hd on' rs q) ?_ ⟨0, by omega, by simp [va_up, h0], by simp [va_up, h1], by simp [va_up], hI.1, ⟨hI.2.1.1, hI.2.1.2⟩, hI.2.2.1, fun p hp => by
      have := hI.2.2.2 p (by omega)
      refine ⟨this.1, ?_, this.2.2⟩
      rw [this.2.1, if_neg (by omega)]
      omega⟩
    clear hW hI h0 h1 h2 h3 hC2 hJ2 hi hr
    rintro r W hW ρ M3 ⟨q, hr, h0, h1, h3, hI⟩
    obtain ⟨⟨g1, g2, g3⟩, ⟨f1, f2⟩, hA, hPp⟩ := id hI
    have hC3 : CS M3 k i D := CS_fr h g1 g2 (fun q j x1 x2 => g3 q j (Or.inl (by omega)))
    have hJ3 : JdP M3 := JdP_fr hj g1 g2
    simp only [h0, h1, h3, hC3.1.o, e_phraseCount hC3 hv, iC, iL, iF, iA, iAc, iLen, iT, iAdd, iSub, iMul, iDiv, iRem, iNeg, iCh, iAnd31, iQ, iMax, iMin, iAbs, iCallS, iCallV, aN, aI, aR, rL, rF, rA, cEq, cNe, cLt, cGe, cGt, cLe, cAnd, cOr, cNot, cNull, sSkip, sSeq, sLoc, sLocR, sInc, sPut, sPutR, sPutAdd, sPutSub, sAst, sCst, sRst, sAstAdd, sAstSub, sIf1, sIf, sRet, sRetV, sCallV, sCallS, sPop, sCopy, sCopyT, sObj, sSw, iAddW, iMulW, iAndM, iShr, cQ, ent_0, ent_1, ent_2, ent_3, ent_4, ent_5, ent_6, va_up_self, va_up_ne, ne_eq, Nat.reduceEqDiff, not_false_eq_true, not_true_eq_false, si_1, si_2, si_g, sr_1, sr_2, cp_1, cp_2, List.length_cons, List.length_nil, Nat.reduceAdd, true_and, and_true, and_self, eq_self, true_implies, forall_const, Bool.false_eq_true, false_implies, or_true, true_or, Option.some.injEq, Prod.mk.injEq, exists_eq_left', exists_eq', exists_and_left, reduceIte, Int.reduceEq, Int.reduceNe]
    by_cases hq : q < pcN i D
    · obtain ⟨u1, u2, u3⟩ := hPp q hq
      rw [if_neg (by omega)] at u2
      obtain ⟨j0, hAA, hR⟩ := hJ3
      have d0 : (0 : Int) ≤ q := by omega
      have d1 : (q : Int) < (40 : Nat) := by omega
      rw [if_pos (by omega), if_pos (by omega)]
      simp only [j0, hAA, hR, hC3.1.o, d0, d1, u1, u2, Int.toNat_natCast, ent_0, ent_1, ent_2, ent_3, ent_4, ent_5, ent_6, va_up_self, va_up_ne, ne_eq, Nat.reduceEqDiff, not_false_eq_true, not_true_eq_false, si_1, si_2, si_g, sr_1, sr_2, cp_1, cp_2, List.length_cons, List.length_nil, Nat.reduceAdd, true_and, and_true, and_self, eq_self, true_implies, forall_const, Bool.false_eq_true, false_implies, or_true, true_or, Option.some.injEq, Prod.mk.injEq, exists_eq_left', exists_eq', exists_and_left, reduceIte, Int.reduceEq, Int.reduceNe]
      refine e_sizeOfPhrase hC3 ?_
      have b1 := bH q
      have b2 := bP q
      have b3 := exP_b (n := i) (D := D) (rs := rs) q
      have s1 := sm_b (f := fun p => hP D rs p i) (n := q) (a := 0) (b := 40) (fun j _ => by have := bH j; omega)
      have s2 := sm_b (f := fun p => pP D (ptW D sh hd on' rs) p i + exP i D rs p) (n := q) (a := 0) (b := 300000) (fun j _ => by have := bP j; have := exP_b (n := i) (D := D) (rs := rs) j; omega)
      have hex : (if 2 ≤ szP D q i ∧ hP D rs q i = szP D q i then (50 : Int) else 0) = exP i D rs q := rfl
      have r1 : inR (pP D (ptW D sh hd on' rs) q i + 0 + exP i D rs q) := inR_s (by omega) (by omega)
      have r2 : inR (sm (fun p => hP D rs p i) q + hP D rs q i) := inR_s (by omega) (by omega)
      have r3 : inR (sm (fun p => pP D (ptW D sh hd on' rs) p i + exP i D rs p) q + (pP D (ptW D sh hd on' rs) q i + 0 + exP i D rs q)) := ⟨by omega, by omega⟩
      have r4 : inR ((q : Int) + 1) := inR_s (by omega) (by omega)
      simp only [e_extraOf, hex, j0, hAA, hR, d0, d1, u1, u2, f1, f2, r1, r2, r3, r4, h0, h1, h3, Int.toNat_natCast, false_and, iC, iL, iF, iA, iAc, iLen, iT, iAdd, iSub, iMul, iDiv, iRem, iNeg, iCh, iAnd31, iQ, iMax, iMin, iAbs, iCallS, iCallV, aN, aI, aR, rL, rF, rA, cEq, cNe, cLt, cGe, cGt, cLe, cAnd, cOr, cNot, cNull, sSkip, sSeq, sLoc, sLocR, sInc, sPut, sPutR, sPutAdd, sPutSub, sAst, sCst, sRst, sAstAdd, sAstSub, sIf1, sIf, sRet, sRetV, sCallV, sCallS, sPop, sCopy, sCopyT, sObj, sSw, iAddW, iMulW, iAndM, iShr, cQ, ent_0, ent_1, ent_2, ent_3, ent_4, ent_5, ent_6, va_up_self, va_up_ne, ne_eq, Nat.reduceEqDiff, not_false_eq_true, not_true_eq_false, si_1, si_2, si_g, sr_1, sr_2, cp_1, cp_2, List.length_cons, List.length_nil, Nat.reduceAdd, true_and, and_true, and_self, eq_self, true_implies, forall_const, Bool.false_eq_true, false_implies, or_true, true_or, Option.some.injEq, Prod.mk.injEq, exists_eq_left', exists_eq', exists_and_left, reduceIte, Int.reduceEq, Int.reduceNe]
      refine hW _ _ (by omega) ⟨q + 1, by omega, by simp [va_up, h0], by simp [va_up, h1], by simp [va_up], SKp_si (SKp_si (SKp_si ⟨g1, g2, g3⟩ (by omega)) (by omega)) (by omega), ⟨?_, ?_⟩, fun j hj => ?_, fun p hp => ?_⟩
      · simp [si_g]
        rfl
      · simp [si_g]
        have e9 : sm (fun p => pP D (ptW D sh hd on' rs) p i + exP i D rs p) (q + 1) = sm (fun p => pP D (ptW D sh hd on' rs) p i + exP i D rs p) q + (pP D (ptW D sh hd on' rs) q i + exP i D rs q) := rfl
        rw [e9]
      · have := hA j hj
        simp [si_g, this]
      · obtain ⟨v1, v2, v3⟩ := hPp p hp
        by_cases hpq : p = q
        · subst hpq
          simp [si_g, v1, v3]
        · have : (p < q + 1) = (p < q) := by apply propext; omega
          simp only [si_g, hpq, this]
          simp [v1, v2, v3]
    · rw [if_neg (by omega)]
      obtain rfl : q = pcN i D := by omega
      refine ⟨g1, hK _ ⟨⟨g1, g2, g3⟩, hA, fun p hp => ?_, f1, f2⟩⟩
      obtain ⟨v1, v2, v3⟩ := hPp p hp
      rw [if_pos hp] at v2
      exact ⟨v1, v2, v3⟩
end SC2
