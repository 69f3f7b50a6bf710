/-- what the reference's judge holds behind it -/
def JM (M M2 : Mm) (n : Nat) (D : Nat → Nat → Int) (st h : Nat → Int) : Prop := (M2.1 = M.1 ∧ M2.2.2 = M.2.2 ∧ ∀ q j, q < 86 ∨ 90 < q → M2.2.1 q j = M.2.1 q j) ∧
  ∀ j, j < n → M2.2.1 86 j = mcF D st h j ∧ M2.2.1 87 j = onF D st h j ∧ M2.2.1 88 j = rsV D st h j ∧ M2.2.1 89 j = mn10 (rwA D (rsV D st h) j) ∧ M2.2.1 90 j = ptW D (shV D st h) (hlF D st h) (onF D st h) (rsV D st h) j
section MJ3
variable {K : Int → Mm → Prop} {M : Mm} {n : Nat} {D : Nat → Nat → Int} {st h : Nat → Int}
set_option maxRecDepth 20000 in
set_option maxHeartbeats 2000000 in
theorem e_judge7 (hm : MR M n D st) (hv : VD n D) (hst : VT st) (H : HH M h) (hg : VG h) (hK : ∀ M2, JM M M2 n D st h → K 0 M2) : m_X7_judge [.inr (some 80)] K M := by
  obtain ⟨m0, mA, mR⟩ := hm.1
  have hn := hm.2.1
  have e5 : Int.toNat 5 = 5 := rfl
  have d5 : (0 : Int) ≤ 5 ∧ (5 : Int) < (806 : Nat) := by decide
  simp only [m_X7_judge, mk0, B_X7_judge, iC, iL, iF, iA, iAc, iLen, iT, iAdd, iSub, iMul, iDiv, iRem, iNeg, iCh, iAnd31, iQ, iMax, iMin, iAbs, iCallS, iCallV, aN, aI, aR, rL, rF, rA, cEq, cNe, cLt, cGe, cGt, cLe, cAnd, cOr, cNot, cNull, sSkip, sSeq, sLoc, sLocR, sInc, sPut, sPutR, sPutAdd, sPutSub, sAst, sCst, sRst, sAstAdd, sAstSub, sIf1, sIf, sRet, sRetV, sCallV, sCallS, sPop, sCopy, sCopyT, sObj, sSw, ent_0, ent_1, ent_2, ent_3, ent_4, ent_5, ent_6, va_up_self, va_up_ne, ne_eq, Nat.reduceEqDiff, not_false_eq_true, not_true_eq_false, si_1, si_2, si_g, sr_1, sr_2, cp_1, cp_2, List.length_cons, List.length_nil, Nat.reduceAdd, true_and, and_true, and_self, eq_self, true_implies, forall_const, Bool.false_eq_true, false_implies, or_true, true_or, Option.some.injEq, Prod.mk.injEq, exists_eq_left', exists_eq', exists_and_left, reduceIte, Int.reduceEq, Int.reduceNe]
  refine while_n (n := n) (fun r ρ M2 => ∃ i : Nat, i + r = n ∧ ρ 0 = .inr (some 80) ∧ ρ 1 = .inl (re D (rsV D st h) i) ∧ ρ 2 = .inl (i : Int) ∧ JM M M2 i D st h) ?_ ⟨0, by omega, rfl, rfl, rfl, ⟨rfl, rfl, fun _ _ _ => rfl⟩, fun j hj => by omega⟩
  rintro r W hW ρ M2 ⟨i, hr, h0, h1, h2, ⟨g1, g2, g3⟩, hI⟩
  have hm2 : MR M2 n D st := MR_fr hm g1 g2 (fun j hj => g3 81 j (by omega))
  have n0 := hm2.1.1
  have nA := hm2.1.2.1
  have nR := hm2.1.2.2
  simp only [h0, h1, h2, n0, nA, nR, e5, d5.1, d5.2, hm2.2.2.1, iC, iL, iF, iA, iAc, iLen, iT, iAdd, iSub, iMul, iDiv, iRem, iNeg, iCh, iAnd31, iQ, iMax, iMin, iAbs, iCallS, iCallV, aN, aI, aR, rL, rF, rA, cEq, cNe, cLt, cGe, cGt, cLe, cAnd, cOr, cNot, cNull, sSkip, sSeq, sLoc, sLocR, sInc, sPut, sPutR, sPutAdd, sPutSub, sAst, sCst, sRst, sAstAdd, sAstSub, sIf1, sIf, sRet, sRetV, sCallV, sCallS, sPop, sCopy, sCopyT, sObj, sSw, ent_0, ent_1, ent_2, ent_3, ent_4, ent_5, ent_6, va_up_self, va_up_ne, ne_eq, Nat.reduceEqDiff, not_false_eq_true, not_true_eq_false, si_1, si_2, si_g, sr_1, sr_2, cp_1, cp_2, List.length_cons, List.length_nil, Nat.reduceAdd, true_and, and_true, and_self, eq_self, true_implies, forall_const, Bool.false_eq_true, false_implies, or_true, true_or, Option.some.injEq, Prod.mk.injEq, exists_eq_left', exists_eq', exists_and_left, reduceIte, Int.reduceEq, Int.reduceNe]
  by_cases hi : i < n
  · have c0 : (0 : Int) ≤ i := by omega
    have c1 : (i : Int) < (40 : Nat) := by omega
    have hb := hv.2.1 i hi
    have hlen : (len D i : Int) = D i 1 := by unfold len; omega
    have hm3 : ∀ z, MR (si M2 86 i z) n D st := fun z => MR_fr hm2 rfl rfl (fun j hj => by rw [si_g, if_neg (by omega)])
    have H3 : ∀ z, HH (si M2 86 i z) h := fun z => HH_fr (HH_fr H (fun j => g3 85 j (by omega))) (fun j => by rw [si_g, if_neg (by omega)])
    rw [if_pos (by omega)]
    simp only [c0, c1, Int.toNat_natCast, n0, nA, nR, e_of0 (hm3 _) hi, h0, h1, h2, iC, iL, iF, iA, iAc, iLen, iT, iAdd, iSub, iMul, iDiv, iRem, iNeg, iCh, iAnd31, iQ, iMax, iMin, iAbs, iCallS, iCallV, aN, aI, aR, rL, rF, rA, cEq, cNe, cLt, cGe, cGt, cLe, cAnd, cOr, cNot, cNull, sSkip, sSeq, sLoc, sLocR, sInc, sPut, sPutR, sPutAdd, sPutSub, sAst, sCst, sRst, sAstAdd, sAstSub, sIf1, sIf, sRet, sRetV, sCallV, sCallS, sPop, sCopy, sCopyT, sObj, sSw, ent_0, ent_1, ent_2, ent_3, ent_4, ent_5, ent_6, va_up_self, va_up_ne, ne_eq, Nat.reduceEqDiff, not_false_eq_true, not_true_eq_false, si_1, si_2, si_g, sr_1, sr_2, cp_1, cp_2, List.length_cons, List.length_nil, Nat.reduceAdd, true_and, and_true, and_self, eq_self, true_implies, forall_const, Bool.false_eq_true, false_implies, or_true, true_or, Option.some.injEq, Prod.mk.injEq, exists_eq_left', exists_eq', exists_and_left, reduceIte, Int.reduceEq, Int.reduceNe]
    refine while_n (n := len D i) (fun r ρ2 M3 => ∃ j : Nat, j + r = len D i ∧ ρ2 0 = .inr (some 80) ∧ ρ2 1 = .inl (re D (rsV D st h) i) ∧ ρ2 2 = .inl (i : Int) ∧ ρ2 3 = .inl (D i 0 + (j : Int)) ∧ M3 = si M2 86 i (mcS D st h i j)) ?_ ⟨0, by omega, by simp [va_up, h0], by simp [va_up, h1], by simp [va_up, h2], by simp [va_up], rfl⟩
    rintro r2 W2 hW2 ρ2 M3 ⟨j, hr2, k0, k1, k2, k3, rfl⟩
    simp only [k0, k1, k2, k3, n0, e_behind (hm3 _) hv hi, iC, iL, iF, iA, iAc, iLen, iT, iAdd, iSub, iMul, iDiv, iRem, iNeg, iCh, iAnd31, iQ, iMax, iMin, iAbs, iCallS, iCallV, aN, aI, aR, rL, rF, rA, cEq, cNe, cLt, cGe, cGt, cLe, cAnd, cOr, cNot, cNull, sSkip, sSeq, sLoc, sLocR, sInc, sPut, sPutR, sPutAdd, sPutSub, sAst, sCst, sRst, sAstAdd, sAstSub, sIf1, sIf, sRet, sRetV, sCallV, sCallS, sPop, sCopy, sCopyT, sObj, sSw, ent_0, ent_1, ent_2, ent_3, ent_4, ent_5, ent_6, va_up_self, va_up_ne, ne_eq, Nat.reduceEqDiff, not_false_eq_true, not_true_eq_false, si_1, si_2, si_g, sr_1, sr_2, cp_1, cp_2, List.length_cons, List.length_nil, Nat.reduceAdd, true_and, and_true, and_self, eq_self, true_implies, forall_const, Bool.false_eq_true, false_implies, or_true, true_or, Option.some.injEq, Prod.mk.injEq, exists_eq_left', exists_eq', exists_and_left, reduceIte, Int.reduceEq, Int.reduceNe]
    by_cases hj : j < len D i
    · have bs := mcS_b D st h i j
      have r1 : inR (mcS D st h i j + 1) := inR_s (by omega) (by omega)
      have r2' : inR (mcS D st h i j + 0) := inR_s (by omega) (by omega)
      have r3 : inR (D i 0 + (j : Int) + 1) := inR_s (by omega) (by omega)
      have g1' : mcS D st h i (j + 1) = mcS D st h i j + (if mB D st h i j = true then 1 else 0) := rfl
      have q1 : mt? st (sgA h (D i 0 + (j : Int))) (wn D i (D i 0 + (j : Int) - D i 0)) = mB D st h i j := by
        unfold mB pj
        rw [show D i 0 + (j : Int) - D i 0 = (j : Int) by omega]
      rw [if_pos (by omega)]
      simp only [nA, nR, c0, c1, Int.toNat_natCast, ent_0, ent_1, ent_2, ent_3, ent_4, ent_5, ent_6, va_up_self, va_up_ne, ne_eq, Nat.reduceEqDiff, not_false_eq_true, not_true_eq_false, si_1, si_2, si_g, sr_1, sr_2, cp_1, cp_2, List.length_cons, List.length_nil, Nat.reduceAdd, true_and, and_true, and_self, eq_self, true_implies, forall_const, Bool.false_eq_true, false_implies, or_true, true_or, Option.some.injEq, Prod.mk.injEq, exists_eq_left', exists_eq', exists_and_left, reduceIte, Int.reduceEq, Int.reduceNe]
      refine (e_matches7 (hm3 _) hv hst (H3 _) hg hi (t := D i 0 + (j : Int)) ⟨by omega, by omega⟩).mpr ?_
      rw [q1]
      by_cases c : mB D st h i j = true
      · rw [if_pos c] at g1'
        rw [if_pos c, if_pos (by decide)]
        simp only [nA, nR, c1, r1, r3, ent_0, ent_1, ent_2, ent_3, ent_4, ent_5, ent_6, va_up_self, va_up_ne, ne_eq, Nat.reduceEqDiff, not_false_eq_true, not_true_eq_false, si_1, si_2, si_g, sr_1, sr_2, cp_1, cp_2, List.length_cons, List.length_nil, Nat.reduceAdd, true_and, and_true, and_self, eq_self, true_implies, forall_const, Bool.false_eq_true, false_implies, or_true, true_or, Option.some.injEq, Prod.mk.injEq, exists_eq_left', exists_eq', exists_and_left, reduceIte, Int.reduceEq, Int.reduceNe]
        refine hW2 _ _ (by omega) ⟨j + 1, by omega, by simp [va_up, k0], by simp [va_up, k1], by simp [va_up, k2], by simp [va_up]; omega, by rw [si_si, g1']⟩
      · rw [if_neg c] at g1'
        rw [if_neg c, if_neg (by decide)]
        simp only [nA, nR, c1, r2', r3, ent_0, ent_1, ent_2, ent_3, ent_4, ent_5, ent_6, va_up_self, va_up_ne, ne_eq, Nat.reduceEqDiff, not_false_eq_true, not_true_eq_false, si_1, si_2, si_g, sr_1, sr_2, cp_1, cp_2, List.length_cons, List.length_nil, Nat.reduceAdd, true_and, and_true, and_self, eq_self, true_implies, forall_const, Bool.false_eq_true, false_implies, or_true, true_or, Option.some.injEq, Prod.mk.injEq, exists_eq_left', exists_eq', exists_and_left, reduceIte, Int.reduceEq, Int.reduceNe]
        refine hW2 _ _ (by omega) ⟨j + 1, by omega, by simp [va_up, k0], by simp [va_up, k1], by simp [va_up, k2], by simp [va_up]; omega, by rw [si_si, g1']⟩
    · rw [if_neg (by omega)]
      obtain rfl : j = len D i := by omega
      simp only [nA, nR, c0, c1, Int.toNat_natCast, n0, ent_0, ent_1, ent_2, ent_3, ent_4, ent_5, ent_6, va_up_self, va_up_ne, ne_eq, Nat.reduceEqDiff, not_false_eq_true, not_true_eq_false, si_1, si_2, si_g, sr_1, sr_2, cp_1, cp_2, List.length_cons, List.length_nil, Nat.reduceAdd, true_and, and_true, and_self, eq_self, true_implies, forall_const, Bool.false_eq_true, false_implies, or_true, true_or, Option.some.injEq, Prod.mk.injEq, exists_eq_left', exists_eq', exists_and_left, reduceIte, Int.reduceEq, Int.reduceNe]
      refine e_near7 (hm3 _) hv hst (H3 _) hg hi ?_
      simp only [nA, nR, c1, n0, ent_0, ent_1, ent_2, ent_3, ent_4, ent_5, ent_6, va_up_self, va_up_ne, ne_eq, Nat.reduceEqDiff, not_false_eq_true, not_true_eq_false, si_1, si_2, si_g, sr_1, sr_2, cp_1, cp_2, List.length_cons, List.length_nil, Nat.reduceAdd, true_and, and_true, and_self, eq_self, true_implies, forall_const, Bool.false_eq_true, false_implies, or_true, true_or, Option.some.injEq, Prod.mk.injEq, exists_eq_left', exists_eq', exists_and_left, reduceIte, Int.reduceEq, Int.reduceNe]
      have hm4 : MR (si (si M2 86 i (mcS D st h i (len D i))) 87 i (onF D st h i)) n D st := MR_fr (hm3 _) rfl rfl (fun j hj => by rw [si_g, if_neg (by omega)])
      have H4 : HH (si (si M2 86 i (mcS D st h i (len D i))) 87 i (onF D st h i)) h := HH_fr (H3 _) (fun j => by rw [si_g, if_neg (by omega)])
      refine e_reasonOf7 hm4 hv H4 hg hi (by simp [si_g, mcF]) (by simp [si_g]) ?_
      have hm5 : MR (si (si (si M2 86 i (mcS D st h i (len D i))) 87 i (onF D st h i)) 88 i (rsV D st h i)) n D st := MR_fr hm4 rfl rfl (fun j hj => by rw [si_g, if_neg (by omega)])
      simp only [nA, nR, c1, n0, e_of4 hm5 hi, k0, k1, k2, iC, iL, iF, iA, iAc, iLen, iT, iAdd, iSub, iMul, iDiv, iRem, iNeg, iCh, iAnd31, iQ, iMax, iMin, iAbs, iCallS, iCallV, aN, aI, aR, rL, rF, rA, cEq, cNe, cLt, cGe, cGt, cLe, cAnd, cOr, cNot, cNull, sSkip, sSeq, sLoc, sLocR, sInc, sPut, sPutR, sPutAdd, sPutSub, sAst, sCst, sRst, sAstAdd, sAstSub, sIf1, sIf, sRet, sRetV, sCallV, sCallS, sPop, sCopy, sCopyT, sObj, sSw, ent_0, ent_1, ent_2, ent_3, ent_4, ent_5, ent_6, va_up_self, va_up_ne, ne_eq, Nat.reduceEqDiff, not_false_eq_true, not_true_eq_false, si_1, si_2, si_g, sr_1, sr_2, cp_1, cp_2, List.length_cons, List.length_nil, Nat.reduceAdd, true_and, and_true, and_self, eq_self, true_implies, forall_const, Bool.false_eq_true, false_implies, or_true, true_or, Option.some.injEq, Prod.mk.injEq, exists_eq_left', exists_eq', exists_and_left, reduceIte, Int.reduceEq, Int.reduceNe]
      have hrb := rwA_b D (rsV D st h) i
      have ere : re D (rsV D st h) (i + 1) = if rsV D st h i = 0 then rwA D (rsV D st h) i + 1 else 0 := rfl
      have rA : inR (rwA D (rsV D st h) i + 1) := inR_s (by omega) (by omega)
      have r5 : inR ((i : Int) + 1) := inR_s (by omega) (by omega)
      have tail : ∀ x ρ3, ρ3 0 = .inr (some 80) → ρ3 2 = .inl (i : Int) → x = mn10 (rwA D (rsV D st h) i) → ρ3 1 = .inl (re D (rsV D st h) (i + 1)) →
          m_X7_pointsOf [.inr (some 80), .inl i] (fun z M4 => ∃ n2 : Nat, M4.1[90]? = some (20, n2) ∧ (i : Int) < (n2 : Int) ∧ inR ((i : Int) + 1) ∧ W (va_up ρ3 2 (.inl ((i : Int) + 1))) (si M4 90 i z)) (si (si (si (si M2 86 i (mcS D st h i (len D i))) 87 i (onF D st h i)) 88 i (rsV D st h i)) 89 i x) := by
        intro x ρ3 y0 y2 hx y1
        have hm6 : MR (si (si (si (si M2 86 i (mcS D st h i (len D i))) 87 i (onF D st h i)) 88 i (rsV D st h i)) 89 i x) n D st := MR_fr hm5 rfl rfl (fun j hj => by rw [si_g, if_neg (by omega)])
        refine e_pointsOf7 hm6 hv hst (HH_fr H4 (fun j => by simp only [si_g]; rw [if_neg (by omega), if_neg (by omega), if_neg (by omega), if_neg (by omega)])) hg hi (by simp [si_g, mcF]) (by simp [si_g]) (by simp [si_g]) (by simp [si_g, hx]) ?_
        refine ⟨40, nA.2.2.2.2.2.2.2.2.2.1, c1, r5, hW _ _ (by omega) ⟨i + 1, by omega, by simp [va_up, y0], by simp [va_up, y1], by simp [va_up], ⟨g1, g2, fun q j hq => ?_⟩, fun j hj => ?_⟩⟩
        · simp only [si_g]
          rw [if_neg (by omega), if_neg (by omega), if_neg (by omega), if_neg (by omega), if_neg (by omega)]
          exact g3 q j hq
        · by_cases hji : j = i
          · subst hji
            simp [si_g, mcF, hx]
          · have := hI j (by omega)
            simp [si_g, hji, this]
      by_cases c4 : D i 4 = 1
      · have erw : rwA D (rsV D st h) i = 0 := if_pos c4
        rw [erw] at ere
        rw [if_pos c4, if_pos (by decide)]
        by_cases cr : rsV D st h i = 0
        · rw [if_pos cr] at ere ⊢
          exact ⟨⟨by decide, by decide⟩, tail 0 _ (by simp [va_up, k0]) (by simp [va_up, k2]) (by rw [erw]; rfl) (by rw [ere]; simp [va_up])⟩
        · rw [if_neg cr] at ere ⊢
          exact tail 0 _ (by simp [va_up, k0]) (by simp [va_up, k2]) (by rw [erw]; rfl) (by rw [ere]; simp [va_up])
      · have erw : rwA D (rsV D st h) i = re D (rsV D st h) i := if_neg c4
        have hx : (if re D (rsV D st h) i < 10 then re D (rsV D st h) i else 10) = mn10 (rwA D (rsV D st h) i) := by
          rw [erw]
          unfold mn10
          (repeat' split) <;> omega
        rw [erw] at ere rA
        rw [if_neg c4]
        by_cases c10 : re D (rsV D st h) i < 10
        · rw [if_pos c10] at hx ⊢
          by_cases cr : rsV D st h i = 0
          · rw [if_pos cr] at ere ⊢
            exact ⟨rA, tail _ _ (by simp [va_up, k0]) (by simp [va_up, k2]) hx (by rw [ere]; simp [va_up])⟩
          · rw [if_neg cr] at ere ⊢
            exact tail _ _ (by simp [va_up, k0]) (by simp [va_up, k2]) hx (by rw [ere]; simp [va_up])
        · rw [if_neg c10] at hx ⊢
          by_cases cr : rsV D st h i = 0
          · rw [if_pos cr] at ere ⊢
            exact ⟨rA, tail _ _ (by simp [va_up, k0]) (by simp [va_up, k2]) hx (by rw [ere]; simp [va_up])⟩
          · rw [if_neg cr] at ere ⊢
            exact tail _ _ (by simp [va_up, k0]) (by simp [va_up, k2]) hx (by rw [ere]; simp [va_up])
  · rw [if_neg (by omega)]
    obtain rfl : i = n := by omega
    exact ⟨g1, hK _ ⟨⟨g1, g2, g3⟩, hI⟩⟩
end MJ3
