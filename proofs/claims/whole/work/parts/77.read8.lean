/-- the reference's text -/
def TM (M : Mm) (tl : Nat) (tc : Nat → Int) : Prop := MdP M ∧ tl ≤ 60 ∧ M.2.1 80 6 = tl ∧ ∀ i, i < tl → M.2.1 84 i = tc i ∧ 0 ≤ tc i ∧ tc i < 65536
section RD8
variable {K : Int → Mm → Prop} {M : Mm} {tl : Nat} {tc : Nat → Int}
theorem TM.si13 {z : Int} (h : TM M tl tc) : TM (si M 80 13 z) tl tc := by
  refine ⟨h.1, h.2.1, ?_, fun i hi => ?_⟩
  · rw [si_g, if_neg (by omega)]; exact h.2.2.1
  · rw [si_g, if_neg (by omega)]; exact h.2.2.2 i hi
theorem TM.si91 {j : Nat} {z : Int} (h : TM M tl tc) : TM (si M 91 j z) tl tc := by
  refine ⟨h.1, h.2.1, ?_, fun i hi => ?_⟩
  · rw [si_g, if_neg (by omega)]; exact h.2.2.1
  · rw [si_g, if_neg (by omega)]; exact h.2.2.2 i hi
theorem s13 (M : Mm) (x : Int) : (si M 80 13 x).2.1 80 13 = x := by rw [si_g, if_pos ⟨rfl, rfl⟩]
theorem e_isNext {p : Nat} {lo hi : Int} (h : TM M tl tc) (hp : M.2.1 80 13 = p) : m_X7_isNext [.inr (some 80), .inl lo, .inl hi] K M ↔ K (if p < tl ∧ lo ≤ tc p ∧ tc p ≤ hi then 1 else 0) M := by
  obtain ⟨⟨m0, mA, mR⟩, h4, h5, h6⟩ := h
  simp only [m0, mA, mR, hp, h5, e_in, m_X7_isNext, mk0, B_X7_isNext, iC, iL, iF, iA, iAc, iLen, iT, iAdd, iSub, iMul, iDiv, iRem, iNeg, iCh, iAnd31, iQ, iMax, iMin, iAbs, iCallS, iCallV, aN, aI, aR, rL, rF, rA, cEq, cNe, cLt, cGe, cGt, cLe, cAnd, cOr, cNot, cNull, sSkip, sSeq, sLoc, sLocR, sInc, sPut, sPutR, sPutAdd, sPutSub, sAst, sCst, sRst, sAstAdd, sAstSub, sIf1, sIf, sRet, sRetV, sCallV, sCallS, sPop, sCopy, sCopyT, sObj, sSw, ent_0, ent_1, ent_2, ent_3, ent_4, ent_5, ent_6, va_up_self, va_up_ne, ne_eq, Nat.reduceEqDiff, not_false_eq_true, not_true_eq_false, si_1, si_2, si_g, sr_1, sr_2, cp_1, cp_2, List.length_cons, List.length_nil, Nat.reduceAdd, true_and, and_true, and_self, eq_self, true_implies, forall_const, Bool.false_eq_true, false_implies, or_true, true_or, Option.some.injEq, Prod.mk.injEq, exists_eq_left', exists_eq', exists_and_left, reduceIte, Int.reduceEq, Int.reduceNe]
  by_cases c : p < tl
  · have c1 : (p : Int) < tl := by omega
    have c2 : (0 : Int) ≤ p := by omega
    have c3 : (p : Int) < (60 : Nat) := by omega
    have e := (h6 p c).1
    simp only [c, c1, c2, c3, e, Int.toNat_natCast, true_and, if_true, ent_0, ent_1, ent_2, ent_3, ent_4, ent_5, ent_6, va_up_self, va_up_ne, ne_eq, Nat.reduceEqDiff, not_false_eq_true, not_true_eq_false, si_1, si_2, si_g, sr_1, sr_2, cp_1, cp_2, List.length_cons, List.length_nil, Nat.reduceAdd, true_and, and_true, and_self, eq_self, true_implies, forall_const, Bool.false_eq_true, false_implies, or_true, true_or, Option.some.injEq, Prod.mk.injEq, exists_eq_left', exists_eq', exists_and_left, reduceIte, Int.reduceEq, Int.reduceNe]
    by_cases d : lo ≤ tc p ∧ tc p ≤ hi
    · simp only [d, and_self, if_true, ent_0, ent_1, ent_2, ent_3, ent_4, ent_5, ent_6, va_up_self, va_up_ne, ne_eq, Nat.reduceEqDiff, not_false_eq_true, not_true_eq_false, si_1, si_2, si_g, sr_1, sr_2, cp_1, cp_2, List.length_cons, List.length_nil, Nat.reduceAdd, true_and, and_true, and_self, eq_self, true_implies, forall_const, Bool.false_eq_true, false_implies, or_true, true_or, Option.some.injEq, Prod.mk.injEq, exists_eq_left', exists_eq', exists_and_left, reduceIte, Int.reduceEq, Int.reduceNe]
    · simp only [d, if_false, ent_0, ent_1, ent_2, ent_3, ent_4, ent_5, ent_6, va_up_self, va_up_ne, ne_eq, Nat.reduceEqDiff, not_false_eq_true, not_true_eq_false, si_1, si_2, si_g, sr_1, sr_2, cp_1, cp_2, List.length_cons, List.length_nil, Nat.reduceAdd, true_and, and_true, and_self, eq_self, true_implies, forall_const, Bool.false_eq_true, false_implies, or_true, true_or, Option.some.injEq, Prod.mk.injEq, exists_eq_left', exists_eq', exists_and_left, reduceIte, Int.reduceEq, Int.reduceNe]
  · have c1 : ¬ ((p : Int) < tl) := by omega
    simp only [c, c1, false_and, if_false, ent_0, ent_1, ent_2, ent_3, ent_4, ent_5, ent_6, va_up_self, va_up_ne, ne_eq, Nat.reduceEqDiff, not_false_eq_true, not_true_eq_false, si_1, si_2, si_g, sr_1, sr_2, cp_1, cp_2, List.length_cons, List.length_nil, Nat.reduceAdd, true_and, and_true, and_self, eq_self, true_implies, forall_const, Bool.false_eq_true, false_implies, or_true, true_or, Option.some.injEq, Prod.mk.injEq, exists_eq_left', exists_eq', exists_and_left, reduceIte, Int.reduceEq, Int.reduceNe]
theorem e_takes {p : Nat} {ch : Int} (h : TM M tl tc) (hp : M.2.1 80 13 = p) (hp2 : p ≤ 1000) (hK : K (if p < tl ∧ tc p = ch then 1 else 0) (si M 80 13 ((if p < tl ∧ tc p = ch then p + 1 else p : Nat) : Int))) : m_X7_takes [.inr (some 80), .inl ch] K M := by
  have m0 := h.1.1
  simp only [m0, hp, e_isNext h hp, m_X7_takes, mk0, B_X7_takes, iC, iL, iF, iA, iAc, iLen, iT, iAdd, iSub, iMul, iDiv, iRem, iNeg, iCh, iAnd31, iQ, iMax, iMin, iAbs, iCallS, iCallV, aN, aI, aR, rL, rF, rA, cEq, cNe, cLt, cGe, cGt, cLe, cAnd, cOr, cNot, cNull, sSkip, sSeq, sLoc, sLocR, sInc, sPut, sPutR, sPutAdd, sPutSub, sAst, sCst, sRst, sAstAdd, sAstSub, sIf1, sIf, sRet, sRetV, sCallV, sCallS, sPop, sCopy, sCopyT, sObj, sSw, ent_0, ent_1, ent_2, ent_3, ent_4, ent_5, ent_6, va_up_self, va_up_ne, ne_eq, Nat.reduceEqDiff, not_false_eq_true, not_true_eq_false, si_1, si_2, si_g, sr_1, sr_2, cp_1, cp_2, List.length_cons, List.length_nil, Nat.reduceAdd, true_and, and_true, and_self, eq_self, true_implies, forall_const, Bool.false_eq_true, false_implies, or_true, true_or, Option.some.injEq, Prod.mk.injEq, exists_eq_left', exists_eq', exists_and_left, reduceIte, Int.reduceEq, Int.reduceNe]
  by_cases c : p < tl ∧ tc p = ch
  · have c2 : p < tl ∧ ch ≤ tc p ∧ tc p ≤ ch := ⟨c.1, by omega, by omega⟩
    rw [if_pos c, if_pos c] at hK
    simp only [c2, and_self, if_true, m0, hp, ent_0, ent_1, ent_2, ent_3, ent_4, ent_5, ent_6, va_up_self, va_up_ne, ne_eq, Nat.reduceEqDiff, not_false_eq_true, not_true_eq_false, si_1, si_2, si_g, sr_1, sr_2, cp_1, cp_2, List.length_cons, List.length_nil, Nat.reduceAdd, true_and, and_true, and_self, eq_self, true_implies, forall_const, Bool.false_eq_true, false_implies, or_true, true_or, Option.some.injEq, Prod.mk.injEq, exists_eq_left', exists_eq', exists_and_left, reduceIte, Int.reduceEq, Int.reduceNe]
    exact ⟨inR_s (by omega) (by omega), hK⟩
  · rw [if_neg c, if_neg c] at hK
    have c2 : ¬ (p < tl ∧ ch ≤ tc p ∧ tc p ≤ ch) := by omega
    simp only [c2, if_false, m0, hp, ent_0, ent_1, ent_2, ent_3, ent_4, ent_5, ent_6, va_up_self, va_up_ne, ne_eq, Nat.reduceEqDiff, not_false_eq_true, not_true_eq_false, si_1, si_2, si_g, sr_1, sr_2, cp_1, cp_2, List.length_cons, List.length_nil, Nat.reduceAdd, true_and, and_true, and_self, eq_self, true_implies, forall_const, Bool.false_eq_true, false_implies, or_true, true_or, Option.some.injEq, Prod.mk.injEq, exists_eq_left', exists_eq', exists_and_left, reduceIte, Int.reduceEq, Int.reduceNe]
    refine ⟨inR_s (by omega) (by omega), ?_⟩
    rw [Int.add_zero]
    exact hK
set_option maxRecDepth 20000 in
theorem e_readNum7 {p w : Nat} {lo hi : Int} (h : TM M tl tc) (hp : M.2.1 80 13 = p) (hp2 : p ≤ 1000) (hw : w < 4) (hl : lo = 0 ∨ lo = 1) (hh : 9 ≤ hi) (hh2 : hi ≤ 99) (h0 : (num tl tc p lo hi).1 = -1 → K 0 (si M 80 13 ((num tl tc p lo hi).2 : Nat))) (h1 : (num tl tc p lo hi).1 ≠ -1 → K 1 (si (si M 80 13 ((num tl tc p lo hi).2 : Nat)) 91 w (num tl tc p lo hi).1)) : m_X7_readNumber [.inr (some 80), .inl (w : Int), .inl lo, .inl hi] K M := by
  obtain ⟨m0, mA, mR⟩ := h.1
  have b1 := dg_b tl tc p
  have b2 := dg_b tl tc (p + 1)
  have r0 : inR (48 + lo) := inR_s (by omega) (by omega)
  simp only [m0, mA, mR, hp, r0, e_isNext h hp, m_X7_readNumber, mk0, B_X7_readNumber, iC, iL, iF, iA, iAc, iLen, iT, iAdd, iSub, iMul, iDiv, iRem, iNeg, iCh, iAnd31, iQ, iMax, iMin, iAbs, iCallS, iCallV, aN, aI, aR, rL, rF, rA, cEq, cNe, cLt, cGe, cGt, cLe, cAnd, cOr, cNot, cNull, sSkip, sSeq, sLoc, sLocR, sInc, sPut, sPutR, sPutAdd, sPutSub, sAst, sCst, sRst, sAstAdd, sAstSub, sIf1, sIf, sRet, sRetV, sCallV, sCallS, sPop, sCopy, sCopyT, sObj, sSw, ent_0, ent_1, ent_2, ent_3, ent_4, ent_5, ent_6, va_up_self, va_up_ne, ne_eq, Nat.reduceEqDiff, not_false_eq_true, not_true_eq_false, si_1, si_2, si_g, sr_1, sr_2, cp_1, cp_2, List.length_cons, List.length_nil, Nat.reduceAdd, true_and, and_true, and_self, eq_self, true_implies, forall_const, Bool.false_eq_true, false_implies, or_true, true_or, Option.some.injEq, Prod.mk.injEq, exists_eq_left', exists_eq', exists_and_left, reduceIte, Int.reduceEq, Int.reduceNe]
  by_cases c : dg tl tc p < lo
  · have c2 : ¬ (p < tl ∧ 48 + lo ≤ tc p ∧ tc p ≤ 57) := by
      unfold dg at c
      split at c <;> omega
    have e : num tl tc p lo hi = (-1, p) := if_pos c
    rw [e] at h0
    have h0 := h0 rfl
    rw [si_self hp] at h0
    simp only [c2, if_false, ent_0, ent_1, ent_2, ent_3, ent_4, ent_5, ent_6, va_up_self, va_up_ne, ne_eq, Nat.reduceEqDiff, not_false_eq_true, not_true_eq_false, si_1, si_2, si_g, sr_1, sr_2, cp_1, cp_2, List.length_cons, List.length_nil, Nat.reduceAdd, true_and, and_true, and_self, eq_self, true_implies, forall_const, Bool.false_eq_true, false_implies, or_true, true_or, Option.some.injEq, Prod.mk.injEq, exists_eq_left', exists_eq', exists_and_left, reduceIte, Int.reduceEq, Int.reduceNe]
    exact h0
  · have c2 : p < tl ∧ 48 + lo ≤ tc p ∧ tc p ≤ 57 := by
      unfold dg at c
      split at c <;> omega
    have ed : dg tl tc p = tc p - 48 := if_pos ⟨c2.1, by omega, c2.2.2⟩
    have et := (h.2.2.2 p c2.1).1
    simp only [c2, and_self, if_true, Int.toNat_natCast, et, ent_0, ent_1, ent_2, ent_3, ent_4, ent_5, ent_6, va_up_self, va_up_ne, ne_eq, Nat.reduceEqDiff, not_false_eq_true, not_true_eq_false, si_1, si_2, si_g, sr_1, sr_2, cp_1, cp_2, List.length_cons, List.length_nil, Nat.reduceAdd, true_and, and_true, and_self, eq_self, true_implies, forall_const, Bool.false_eq_true, false_implies, or_true, true_or, Option.some.injEq, Prod.mk.injEq, exists_eq_left', exists_eq', exists_and_left, reduceIte, Int.reduceEq, Int.reduceNe]
    have c3 : (p : Int) < (60 : Nat) := by have := h.2.1; omega
    have hn : num tl tc p lo hi = if dg tl tc p = 0 ∨ dg tl tc (p + 1) = -1 ∨ hi < dg tl tc p * 10 + dg tl tc (p + 1) then (dg tl tc p, p + 1) else (dg tl tc p * 10 + dg tl tc (p + 1), p + 2) := if_neg c
    refine ⟨by omega, c3, inR_s (by omega) (by omega), inR_s (by omega) (by omega), ?_⟩
    refine while_n (n := 1) (fun r ρ M2 => ∃ (v : Int) (q : Nat), ρ 0 = .inr (some 80) ∧ ρ 1 = .inl (w : Int) ∧ ρ 3 = .inl hi ∧ ρ 4 = .inl v ∧ M2 = si M 80 13 (q : Int) ∧ q ≤ p + 2 ∧ ((r = 1 ∧ v = dg tl tc p ∧ q = p + 1) ∨ (r = 0 ∧ 10 ≤ v ∧ v ≤ 99 ∧ (num tl tc p lo hi) = (v, q)))) ?_ ⟨tc p - 48, p + 1, rfl, rfl, rfl, rfl, by congr 1, by omega, .inl ⟨rfl, ed.symm, rfl⟩⟩
    rintro r W hW ρ M2 ⟨v, q, k0, k1, k3, k4, rfl, hq, hr⟩
    have h2 : TM (si M 80 13 (q : Int)) tl tc := h.si13
    have p2 := s13 M q
    have fin : num tl tc p lo hi = (v, q) → 0 ≤ v → (0 ≤ (w : Int) ∧ (w : Int) < (4 : Nat) ∧ K 1 (si (si M 80 13 (q : Int)) 91 w v)) := by
      intro e hv
      rw [e] at h1
      exact ⟨by omega, by omega, h1 (show v ≠ -1 by omega)⟩
    simp only [k0, k1, k3, k4, m0, mA, mR, p2, e_isNext h2 p2, false_and, if_false, Int.toNat_natCast, iC, iL, iF, iA, iAc, iLen, iT, iAdd, iSub, iMul, iDiv, iRem, iNeg, iCh, iAnd31, iQ, iMax, iMin, iAbs, iCallS, iCallV, aN, aI, aR, rL, rF, rA, cEq, cNe, cLt, cGe, cGt, cLe, cAnd, cOr, cNot, cNull, sSkip, sSeq, sLoc, sLocR, sInc, sPut, sPutR, sPutAdd, sPutSub, sAst, sCst, sRst, sAstAdd, sAstSub, sIf1, sIf, sRet, sRetV, sCallV, sCallS, sPop, sCopy, sCopyT, sObj, sSw, ent_0, ent_1, ent_2, ent_3, ent_4, ent_5, ent_6, va_up_self, va_up_ne, ne_eq, Nat.reduceEqDiff, not_false_eq_true, not_true_eq_false, si_1, si_2, si_g, sr_1, sr_2, cp_1, cp_2, List.length_cons, List.length_nil, Nat.reduceAdd, true_and, and_true, and_self, eq_self, true_implies, forall_const, Bool.false_eq_true, false_implies, or_true, true_or, Option.some.injEq, Prod.mk.injEq, exists_eq_left', exists_eq', exists_and_left, reduceIte, Int.reduceEq, Int.reduceNe]
    have hv0 : 0 ≤ v ∧ v ≤ 99 := by omega
    by_cases cv : 0 < v
    · rw [if_pos cv]
      by_cases d : q < tl ∧ 48 ≤ tc q ∧ tc q ≤ 57
      · have eq1 : dg tl tc q = tc q - 48 := if_pos d
        have et2 := (h.2.2.2 q d.1).1
        have c4 : (q : Int) < (60 : Nat) := by have := h.2.1; omega
        have rr1 : inR (10 * v) := inR_s (by omega) (by omega)
        have rr2 : inR (10 * v + tc q) := inR_s (by omega) (by omega)
        have rr3 : inR (10 * v + tc q - 48) := inR_s (by omega) (by omega)
        have rr4 : inR ((q : Int) + 1) := inR_s (by omega) (by omega)
        have c5 : (0 : Int) ≤ q := by omega
        simp only [d, and_self, if_true, et2, rr1, rr2, rr3, rr4, c4, c5, ent_0, ent_1, ent_2, ent_3, ent_4, ent_5, ent_6, va_up_self, va_up_ne, ne_eq, Nat.reduceEqDiff, not_false_eq_true, not_true_eq_false, si_1, si_2, si_g, sr_1, sr_2, cp_1, cp_2, List.length_cons, List.length_nil, Nat.reduceAdd, true_and, and_true, and_self, eq_self, true_implies, forall_const, Bool.false_eq_true, false_implies, or_true, true_or, Option.some.injEq, Prod.mk.injEq, exists_eq_left', exists_eq', exists_and_left, reduceIte, Int.reduceEq, Int.reduceNe]
        by_cases g : 10 * v + tc q - 48 ≤ hi
        · rw [if_pos g]
          rcases hr with ⟨rfl, g1, g2⟩ | ⟨rfl, g1, g2, g3⟩
          · subst g2
            rw [si_si]
            have e2 : num tl tc p lo hi = (10 * v + tc (p + 1) - 48, p + 2) := by
              rw [hn, if_neg (by omega)]
              exact congrArg (·, p + 2) (by omega)
            refine hW _ _ (by decide) ⟨10 * v + tc (p + 1) - 48, p + 2, by simp [va_up, k0], by simp [va_up, k1], by simp [va_up, k3], by simp [va_up], by congr 1, by omega, .inr ⟨rfl, by omega, by omega, e2⟩⟩
          · omega
        · rw [if_neg g]
          rcases hr with ⟨rfl, g1, g2⟩ | ⟨rfl, g1, g2, g3⟩
          · subst g2
            exact fin (by rw [hn, if_pos (by omega), g1]) hv0.1
          · exact fin g3 hv0.1
      · have eq1 : dg tl tc q = -1 := if_neg d
        simp only [d, if_false, ent_0, ent_1, ent_2, ent_3, ent_4, ent_5, ent_6, va_up_self, va_up_ne, ne_eq, Nat.reduceEqDiff, not_false_eq_true, not_true_eq_false, si_1, si_2, si_g, sr_1, sr_2, cp_1, cp_2, List.length_cons, List.length_nil, Nat.reduceAdd, true_and, and_true, and_self, eq_self, true_implies, forall_const, Bool.false_eq_true, false_implies, or_true, true_or, Option.some.injEq, Prod.mk.injEq, exists_eq_left', exists_eq', exists_and_left, reduceIte, Int.reduceEq, Int.reduceNe]
        rcases hr with ⟨rfl, g1, g2⟩ | ⟨rfl, g1, g2, g3⟩
        · subst g2
          exact fin (by rw [hn, if_pos (by omega), g1]) hv0.1
        · exact fin g3 hv0.1
    · rw [if_neg cv]
      rcases hr with ⟨rfl, g1, g2⟩ | ⟨rfl, g1, g2, g3⟩
      · subst g2
        exact fin (by rw [hn, if_pos (by omega), g1]) hv0.1
      · exact fin g3 hv0.1
end RD8
