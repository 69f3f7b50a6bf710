/-- what the reference's reading leaves -/
def FrY (M M2 : Mm) : Prop := M2.1 = M.1 ∧ M2.2.2 = M.2.2 ∧ ∀ q j, ¬ (q = 80 ∧ j = 13) → q ≠ 91 → M2.2.1 q j = M.2.1 q j
theorem FrY.rf (M : Mm) : FrY M M := ⟨rfl, rfl, fun _ _ _ _ => rfl⟩
theorem FrY.a {M M2 : Mm} {z : Int} (h : FrY M M2) : FrY M (si M2 80 13 z) := ⟨h.1, h.2.1, fun q j h1 h2 => by rw [si_g, if_neg h1]; exact h.2.2 q j h1 h2⟩
theorem FrY.b {M M2 : Mm} {i : Nat} {z : Int} (h : FrY M M2) : FrY M (si M2 91 i z) := ⟨h.1, h.2.1, fun q j h1 h2 => by rw [si_g, if_neg (fun e => h2 e.1)]; exact h.2.2 q j h1 h2⟩
theorem FrY.tm {M M2 : Mm} {tl : Nat} {tc : Nat → Int} (h : FrY M M2) (ht : TM M tl tc) : TM M2 tl tc := by
  refine ⟨MdP_fr ht.1 h.1 h.2.1, ht.2.1, ?_, fun i hi => ?_⟩
  · rw [h.2.2 _ _ (by decide) (by decide)]; exact ht.2.2.1
  · rw [h.2.2 _ _ (by omega) (by decide)]; exact ht.2.2.2 i hi
def tld (M : Mm) (tl : Nat) (tc : Nat → Int) (p : Nat) : Prop := M.2.1 91 0 = (sy0 tl tc p).1 ∧ M.2.1 91 1 = (sy1 tl tc p).1 ∧ M.2.1 91 2 = (sy2 tl tc p).1 ∧ M.2.1 91 3 = (sy3 tl tc p).1
def ysD : ST := (sRet true (iQ (cAnd (cNe (iCallV 7 m_X7_takes (rL 0) (aI (iC 58) (aN))) (iC 0)) (cNe (iCallV 7 m_X7_readNumber (rL 0) (aI (iC 3) (aI (iC 1) (aI (iC 32) (aN))))) (iC 0))) (iC 1) (iC 0)))
def ysC : ST := (sSeq (sIf1 (cAnd (cNe (iCallV 7 m_X7_takes (rL 0) (aI (iC 45) (aN))) (iC 0)) (cNot (cNe (iCallV 7 m_X7_readNumber (rL 0) (aI (iC 2) (aI (iC 0) (aI (iC 60) (aN))))) (iC 0)))) (sRet true (iC 0))) (sRet true (iQ (cAnd (cNe (iCallV 7 m_X7_takes (rL 0) (aI (iC 58) (aN))) (iC 0)) (cNe (iCallV 7 m_X7_readNumber (rL 0) (aI (iC 3) (aI (iC 1) (aI (iC 32) (aN))))) (iC 0))) (iC 1) (iC 0))))
def ysB : ST := (sSeq (sAst (rF 7 14 (rL 0)) (iC 2) (iA (rF 7 14 (rL 0)) (iC 1))) (sSeq (sIf1 (cAnd (cNe (iCallV 7 m_X7_takes (rL 0) (aI (iC 45) (aN))) (iC 0)) (cNot (cNe (iCallV 7 m_X7_readNumber (rL 0) (aI (iC 2) (aI (iC 0) (aI (iC 60) (aN))))) (iC 0)))) (sRet true (iC 0))) (sRet true (iQ (cAnd (cNe (iCallV 7 m_X7_takes (rL 0) (aI (iC 58) (aN))) (iC 0)) (cNe (iCallV 7 m_X7_readNumber (rL 0) (aI (iC 3) (aI (iC 1) (aI (iC 32) (aN))))) (iC 0))) (iC 1) (iC 0)))))
def ysA : ST := (sSeq (sIf1 (cOr (cAnd (cNe (iCallV 7 m_X7_takes (rL 0) (aI (iC 46) (aN))) (iC 0)) (cNot (cNe (iCallV 7 m_X7_readNumber (rL 0) (aI (iC 0) (aI (iC 1) (aI (iC 32) (aN))))) (iC 0)))) (cNot (cNe (iCallV 7 m_X7_readNumber (rL 0) (aI (iC 1) (aI (iC 0) (aI (iC 60) (aN))))) (iC 0)))) (sRet true (iC 0))) (sSeq (sAst (rF 7 14 (rL 0)) (iC 2) (iA (rF 7 14 (rL 0)) (iC 1))) (sSeq (sIf1 (cAnd (cNe (iCallV 7 m_X7_takes (rL 0) (aI (iC 45) (aN))) (iC 0)) (cNot (cNe (iCallV 7 m_X7_readNumber (rL 0) (aI (iC 2) (aI (iC 0) (aI (iC 60) (aN))))) (iC 0)))) (sRet true (iC 0))) (sRet true (iQ (cAnd (cNe (iCallV 7 m_X7_takes (rL 0) (aI (iC 58) (aN))) (iC 0)) (cNe (iCallV 7 m_X7_readNumber (rL 0) (aI (iC 3) (aI (iC 1) (aI (iC 32) (aN))))) (iC 0))) (iC 1) (iC 0))))))
theorem B_ys : B_X7_readSyllable = sSeq (sAst (rF 7 14 (rL 0)) (iC 0) (iC 0)) ysA := rfl
theorem ysA_e : ysA = sSeq (sIf1 (cOr (cAnd (cNe (iCallV 7 m_X7_takes (rL 0) (aI (iC 46) (aN))) (iC 0)) (cNot (cNe (iCallV 7 m_X7_readNumber (rL 0) (aI (iC 0) (aI (iC 1) (aI (iC 32) (aN))))) (iC 0)))) (cNot (cNe (iCallV 7 m_X7_readNumber (rL 0) (aI (iC 1) (aI (iC 0) (aI (iC 60) (aN))))) (iC 0)))) (sRet true (iC 0))) ysB := rfl
theorem ysB_e : ysB = sSeq (sAst (rF 7 14 (rL 0)) (iC 2) (iA (rF 7 14 (rL 0)) (iC 1))) ysC := rfl
theorem ysC_e : ysC = sSeq (sIf1 (cAnd (cNe (iCallV 7 m_X7_takes (rL 0) (aI (iC 45) (aN))) (iC 0)) (cNot (cNe (iCallV 7 m_X7_readNumber (rL 0) (aI (iC 2) (aI (iC 0) (aI (iC 60) (aN))))) (iC 0)))) (sRet true (iC 0))) ysD := rfl
theorem s_self (M : Mm) (q k : Nat) (x : Int) : (si M q k x).2.1 q k = x := by rw [si_g, if_pos ⟨rfl, rfl⟩]
section RD9
variable {K : Int → Mm → Prop} {M : Mm} {tl : Nat} {tc : Nat → Int} {W : En → Mm → Prop} {Rt : Int → Mm → Prop} {ρ : En}
set_option maxRecDepth 20000 in
theorem e_ysD {q : Nat} (h : TM M tl tc) (hp : M.2.1 80 13 = q) (hq : q ≤ 900) (g0 : ρ 0 = .inr (some 80)) (h0 : (s3f tl tc q).1 = -1 → Rt 0 (si M 80 13 ((s3f tl tc q).2 : Nat))) (h1 : (s3f tl tc q).1 ≠ -1 → Rt 1 (si (si M 80 13 ((s3f tl tc q).2 : Nat)) 91 3 (s3f tl tc q).1)) : ysD W Rt ρ M := by
  have m0 := h.1.1
  unfold s3f at h0 h1
  simp only [ysD, g0, m0, iC, iL, iF, iA, iAc, iLen, iT, iAdd, iSub, iMul, iDiv, iRem, iNeg, iCh, iAnd31, iQ, iMax, iMin, iAbs, iCallS, iCallV, aN, aI, aR, rL, rF, rA, cEq, cNe, cLt, cGe, cGt, cLe, cAnd, cOr, cNot, cNull, sSkip, sSeq, sLoc, sLocR, sInc, sPut, sPutR, sPutAdd, sPutSub, sAst, sCst, sRst, sAstAdd, sAstSub, sIf1, sIf, sRet, sRetV, sCallV, sCallS, sPop, sCopy, sCopyT, sObj, sSw, ent_0, ent_1, ent_2, ent_3, ent_4, ent_5, ent_6, va_up_self, va_up_ne, ne_eq, Nat.reduceEqDiff, not_false_eq_true, not_true_eq_false, si_1, si_2, si_g, sr_1, sr_2, cp_1, cp_2, List.length_cons, List.length_nil, Nat.reduceAdd, true_and, and_true, and_self, eq_self, true_implies, forall_const, Bool.false_eq_true, false_implies, or_true, true_or, Option.some.injEq, Prod.mk.injEq, exists_eq_left', exists_eq', exists_and_left, reduceIte, Int.reduceEq, Int.reduceNe]
  refine e_takes h hp (by omega) ?_
  by_cases c : q < tl ∧ tc q = 58
  · rw [if_pos c] at h0 h1
    rw [if_pos c, if_pos c, if_pos (by decide)]
    refine ⟨⟨0, m0⟩, e_readNum7 (w := 3) h.si13 (s13 M _) (by omega) (by decide) (.inr rfl) (by decide) (by decide) (fun e => ?_) (fun e => ?_)⟩
    · rw [if_neg (by decide), si_si]
      exact h0 e
    · rw [if_pos (by decide), si_si]
      exact h1 e
  · rw [if_neg c] at h0 h1
    rw [if_neg c, if_neg c, if_neg (by decide)]
    exact h0 rfl
set_option maxRecDepth 20000 in
theorem e_ysC {q : Nat} {a : Int} (h : TM M tl tc) (hp : M.2.1 80 13 = q) (hq : q ≤ 900) (ha : M.2.1 91 2 = a) (g0 : ρ 0 = .inr (some 80)) (hn : a ≠ -1) (h0 : (s2f tl tc a q).1 = -1 → Rt 0 (si M 80 13 ((s2f tl tc a q).2 : Nat))) (h1 : (s2f tl tc a q).1 ≠ -1 → ysD W Rt ρ (si (si M 80 13 ((s2f tl tc a q).2 : Nat)) 91 2 (s2f tl tc a q).1)) : ysC W Rt ρ M := by
  have m0 := h.1.1
  unfold s2f at h0 h1
  simp only [ysC_e, g0, m0, iC, iL, iF, iA, iAc, iLen, iT, iAdd, iSub, iMul, iDiv, iRem, iNeg, iCh, iAnd31, iQ, iMax, iMin, iAbs, iCallS, iCallV, aN, aI, aR, rL, rF, rA, cEq, cNe, cLt, cGe, cGt, cLe, cAnd, cOr, cNot, cNull, sSkip, sSeq, sLoc, sLocR, sInc, sPut, sPutR, sPutAdd, sPutSub, sAst, sCst, sRst, sAstAdd, sAstSub, sIf1, sIf, sRet, sRetV, sCallV, sCallS, sPop, sCopy, sCopyT, sObj, sSw, ent_0, ent_1, ent_2, ent_3, ent_4, ent_5, ent_6, va_up_self, va_up_ne, ne_eq, Nat.reduceEqDiff, not_false_eq_true, not_true_eq_false, si_1, si_2, si_g, sr_1, sr_2, cp_1, cp_2, List.length_cons, List.length_nil, Nat.reduceAdd, true_and, and_true, and_self, eq_self, true_implies, forall_const, Bool.false_eq_true, false_implies, or_true, true_or, Option.some.injEq, Prod.mk.injEq, exists_eq_left', exists_eq', exists_and_left, reduceIte, Int.reduceEq, Int.reduceNe]
  refine e_takes h hp (by omega) ?_
  by_cases c : q < tl ∧ tc q = 45
  · rw [if_pos c] at h0 h1
    rw [if_pos c, if_pos c, if_pos (by decide)]
    refine ⟨⟨0, m0⟩, e_readNum7 (w := 2) h.si13 (s13 M _) (by omega) (by decide) (.inl rfl) (by decide) (by decide) (fun e => ?_) (fun e => ?_)⟩
    · rw [if_neg (by decide), si_si]
      exact h0 e
    · rw [if_pos (by decide), si_si]
      exact h1 e
  · rw [if_neg c] at h0 h1
    rw [if_neg c, if_neg c, if_neg (by decide)]
    have := h1 hn
    rw [si_self (M := si M 80 13 (q : Int)) (q := 91) (k := 2) (z := a) (by rw [si_g, if_neg (by decide)]; exact ha)] at this
    exact this
set_option maxRecDepth 20000 in
theorem e_ysB {p : Nat} (h : TM M tl tc) (hp : M.2.1 80 13 = (sy1 tl tc p).2) (hq : p ≤ 300) (c0 : M.2.1 91 0 = (sy0 tl tc p).1) (c1 : M.2.1 91 1 = (sy1 tl tc p).1) (n0 : (sy0 tl tc p).1 ≠ -1) (n1 : (sy1 tl tc p).1 ≠ -1) (g0 : ρ 0 = .inr (some 80)) (hK : ∀ M2, FrY M M2 → M2.2.1 80 13 = ((sy tl tc p).2 : Nat) → ((sy tl tc p).1 = 1 → tld M2 tl tc p) → Rt (sy tl tc p).1 M2) : ysB W Rt ρ M := by
  obtain ⟨m0, mA, mR⟩ := h.1
  have e2 : s2f tl tc (sy1 tl tc p).1 (sy1 tl tc p).2 = sy2 tl tc p := rfl
  have e3 : s3f tl tc (sy2 tl tc p).2 = sy3 tl tc p := rfl
  have b0 : (sy1 tl tc p).2 ≤ p + 5 := by
    have := num_p tl tc (sy0 tl tc p).2 0 60
    have : (sy0 tl tc p).2 ≤ p + 3 := by
      unfold sy0
      split
      · have := num_p tl tc (p + 1) 1 32
        omega
      · show p ≤ p + 3
        omega
    unfold sy1
    omega
  have b2 : (sy2 tl tc p).2 ≤ p + 8 := by
    unfold sy2
    split
    · have := num_p tl tc ((sy1 tl tc p).2 + 1) 0 60
      omega
    · omega
  simp only [ysB_e, g0, m0, mA, mR, c1, iC, iL, iF, iA, iAc, iLen, iT, iAdd, iSub, iMul, iDiv, iRem, iNeg, iCh, iAnd31, iQ, iMax, iMin, iAbs, iCallS, iCallV, aN, aI, aR, rL, rF, rA, cEq, cNe, cLt, cGe, cGt, cLe, cAnd, cOr, cNot, cNull, sSkip, sSeq, sLoc, sLocR, sInc, sPut, sPutR, sPutAdd, sPutSub, sAst, sCst, sRst, sAstAdd, sAstSub, sIf1, sIf, sRet, sRetV, sCallV, sCallS, sPop, sCopy, sCopyT, sObj, sSw, ent_0, ent_1, ent_2, ent_3, ent_4, ent_5, ent_6, va_up_self, va_up_ne, ne_eq, Nat.reduceEqDiff, not_false_eq_true, not_true_eq_false, si_1, si_2, si_g, sr_1, sr_2, cp_1, cp_2, List.length_cons, List.length_nil, Nat.reduceAdd, true_and, and_true, and_self, eq_self, true_implies, forall_const, Bool.false_eq_true, false_implies, or_true, true_or, Option.some.injEq, Prod.mk.injEq, exists_eq_left', exists_eq', exists_and_left, reduceIte, Int.reduceEq, Int.reduceNe]
  refine ⟨by decide, by decide, by decide, by decide, ?_⟩
  refine e_ysC (q := (sy1 tl tc p).2) (a := (sy1 tl tc p).1) h.si91 (by rw [si_g, if_neg (by decide)]; exact hp) (by omega) ((s_self M 91 2 _).trans c1) g0 n1 (fun e => ?_) (fun e => ?_)
  · rw [e2] at e ⊢
    have es : sy tl tc p = (0, (sy2 tl tc p).2) := by
      unfold sy
      rw [if_neg n0, if_neg n1, if_pos e]
    rw [es] at hK
    exact hK _ (FrY.rf M).b.a (s13 _ _) (fun x => absurd (show (0 : Int) = 1 from x) (by decide))
  · rw [e2] at e ⊢
    refine e_ysD (q := (sy2 tl tc p).2) h.si91.si13.si91 (by rw [si_g, if_neg (by decide)]; exact s13 _ _) (by omega) g0 (fun e4 => ?_) (fun e4 => ?_)
    · rw [e3] at e4 ⊢
      have es : sy tl tc p = (0, (sy3 tl tc p).2) := by
        unfold sy
        rw [if_neg n0, if_neg n1, if_neg e, if_pos e4]
      rw [es] at hK
      exact hK _ (FrY.rf M).b.a.b.a (s13 _ _) (fun x => absurd (show (0 : Int) = 1 from x) (by decide))
    · rw [e3] at e4 ⊢
      have es : sy tl tc p = (1, (sy3 tl tc p).2) := by
        unfold sy
        rw [if_neg n0, if_neg n1, if_neg e, if_neg e4]
      rw [es] at hK
      refine hK _ (FrY.rf M).b.a.b.a.b (by rw [si_g, if_neg (by decide)]; exact s13 _ _) (fun _ => ?_)
      refine ⟨?_, ?_, ?_, ?_⟩ <;> simp only [si_g, ent_0, ent_1, ent_2, ent_3, ent_4, ent_5, ent_6, va_up_self, va_up_ne, ne_eq, Nat.reduceEqDiff, not_false_eq_true, not_true_eq_false, si_1, si_2, si_g, sr_1, sr_2, cp_1, cp_2, List.length_cons, List.length_nil, Nat.reduceAdd, true_and, and_true, and_self, eq_self, true_implies, forall_const, Bool.false_eq_true, false_implies, or_true, true_or, Option.some.injEq, Prod.mk.injEq, exists_eq_left', exists_eq', exists_and_left, reduceIte, Int.reduceEq, Int.reduceNe]
      · exact c0
      · exact c1
set_option maxRecDepth 20000 in
theorem e_ysN {p : Nat} (h : TM M tl tc) (hp : M.2.1 80 13 = (sy0 tl tc p).2) (hq : p ≤ 300) (c0 : M.2.1 91 0 = (sy0 tl tc p).1) (n0 : (sy0 tl tc p).1 ≠ -1) (g0 : ρ 0 = .inr (some 80)) (hK : ∀ M2, FrY M M2 → M2.2.1 80 13 = ((sy tl tc p).2 : Nat) → ((sy tl tc p).1 = 1 → tld M2 tl tc p) → Rt (sy tl tc p).1 M2) : m_X7_readNumber [.inr (some 80), .inl 1, .inl 0, .inl 60] (fun x M2 => if x ≠ 0 then ysB W Rt ρ M2 else Rt 0 M2) M := by
  have b0 : (sy0 tl tc p).2 ≤ p + 3 := by
    unfold sy0
    split
    · have := num_p tl tc (p + 1) 1 32
      omega
    · show p ≤ p + 3
      omega
  refine e_readNum7 (w := 1) h hp (by omega) (by decide) (.inl rfl) (by decide) (by decide) (fun e => ?_) (fun e => ?_)
  · have e1 : (sy1 tl tc p).1 = -1 := e
    have es : sy tl tc p = (0, (sy1 tl tc p).2) := by
      unfold sy
      rw [if_neg n0, if_pos e1]
    rw [es] at hK
    rw [if_neg (by decide)]
    exact hK _ (FrY.rf M).a (s13 _ _) (fun x => absurd (show (0 : Int) = 1 from x) (by decide))
  · have e1 : (sy1 tl tc p).1 ≠ -1 := e
    rw [if_pos (by decide)]
    refine e_ysB (p := p) h.si13.si91 (by rw [si_g, if_neg (by decide)]; exact s13 _ _) hq (by rw [si_g, if_neg (by decide), si_g, if_neg (by decide)]; exact c0) (s_self _ _ _ _) n0 e1 g0 (fun M2 f2 => hK M2 ?_)
    have := (FrY.rf M).a (z := ((num tl tc (sy0 tl tc p).2 0 60).2 : Nat)) |>.b (i := 1) (z := (num tl tc (sy0 tl tc p).2 0 60).1)
    exact ⟨f2.1, f2.2.1, fun q j h1 h2 => (f2.2.2 q j h1 h2).trans (this.2.2 q j h1 h2)⟩
set_option maxRecDepth 20000 in
theorem e_readSyl7 {p : Nat} (h : TM M tl tc) (hp : M.2.1 80 13 = p) (hq : p ≤ 300) (hK : ∀ M2, FrY M M2 → M2.2.1 80 13 = ((sy tl tc p).2 : Nat) → ((sy tl tc p).1 = 1 → tld M2 tl tc p) → K (sy tl tc p).1 M2) : m_X7_readSyllable [.inr (some 80)] K M := by
  obtain ⟨m0, mA, mR⟩ := h.1
  simp only [m_X7_readSyllable, mk0, B_ys, ysA_e, m0, mA, mR, iC, iL, iF, iA, iAc, iLen, iT, iAdd, iSub, iMul, iDiv, iRem, iNeg, iCh, iAnd31, iQ, iMax, iMin, iAbs, iCallS, iCallV, aN, aI, aR, rL, rF, rA, cEq, cNe, cLt, cGe, cGt, cLe, cAnd, cOr, cNot, cNull, sSkip, sSeq, sLoc, sLocR, sInc, sPut, sPutR, sPutAdd, sPutSub, sAst, sCst, sRst, sAstAdd, sAstSub, sIf1, sIf, sRet, sRetV, sCallV, sCallS, sPop, sCopy, sCopyT, sObj, sSw, ent_0, ent_1, ent_2, ent_3, ent_4, ent_5, ent_6, va_up_self, va_up_ne, ne_eq, Nat.reduceEqDiff, not_false_eq_true, not_true_eq_false, si_1, si_2, si_g, sr_1, sr_2, cp_1, cp_2, List.length_cons, List.length_nil, Nat.reduceAdd, true_and, and_true, and_self, eq_self, true_implies, forall_const, Bool.false_eq_true, false_implies, or_true, true_or, Option.some.injEq, Prod.mk.injEq, exists_eq_left', exists_eq', exists_and_left, reduceIte, Int.reduceEq, Int.reduceNe]
  refine ⟨by decide, by decide, e_takes (p := p) h.si91 (by rw [si_g, if_neg (by decide)]; exact hp) (by omega) ?_⟩
  have nb := num_b tl tc (p + 1) (lo := 1) (hi := 32) (.inr rfl) (by decide)
  have fin : ∀ M2, FrY M M2 → M2.2.1 80 13 = ((sy0 tl tc p).2 : Nat) → M2.2.1 91 0 = (sy0 tl tc p).1 → (sy0 tl tc p).1 ≠ -1 → (∃ w, M2.1[80]? = some (7, w)) ∧ m_X7_readNumber [.inr (some 80), .inl 1, .inl 0, .inl 60] (fun x M2 => if x ≠ 0 then ysB (fun x x_1 => False) (fun r M2 => M2.1 = M.1 ∧ K r M2) (ent [.inr (some 80)] 0 0) M2 else M2.1 = M.1 ∧ K 0 M2) M2 := by
    intro M2 f p2 t0 n0
    refine ⟨⟨0, by rw [f.1]; exact m0⟩, ?_⟩
    exact e_ysN (p := p) (Rt := fun r M2 => M2.1 = M.1 ∧ K r M2) (f.tm h) p2 hq t0 n0 rfl (fun M3 f3 p3 t3 => ⟨by rw [f3.1, f.1], hK M3 ⟨by rw [f3.1, f.1], by rw [f3.2.1, f.2.1], fun q j h1 h2 => (f3.2.2 q j h1 h2).trans (f.2.2 q j h1 h2)⟩ p3 t3⟩)
  by_cases c : p < tl ∧ tc p = 46
  · have e0 : sy0 tl tc p = num tl tc (p + 1) 1 32 := if_pos c
    rw [if_pos c, if_pos c, if_pos (by decide)]
    refine ⟨⟨0, m0⟩, e_readNum7 (w := 0) h.si91.si13 (s13 _ _) (by omega) (by decide) (.inr rfl) (by decide) (by decide) (fun e => ?_) (fun e => ?_)⟩
    · rw [← e0] at e ⊢
      have es : sy tl tc p = (0, (sy0 tl tc p).2) := by
        unfold sy
        rw [if_pos e]
      rw [es] at hK
      rw [if_neg (by decide)]
      exact ⟨rfl, hK _ (FrY.rf M).b.a.a (s13 _ _) (fun x => absurd (show (0 : Int) = 1 from x) (by decide))⟩
    · rw [← e0] at e ⊢
      rw [if_pos (by decide)]
      exact fin _ (FrY.rf M).b.a.a.b (by rw [si_g, if_neg (by decide)]; exact s13 _ _) (by simp only [si_g, ent_0, ent_1, ent_2, ent_3, ent_4, ent_5, ent_6, va_up_self, va_up_ne, ne_eq, Nat.reduceEqDiff, not_false_eq_true, not_true_eq_false, si_1, si_2, si_g, sr_1, sr_2, cp_1, cp_2, List.length_cons, List.length_nil, Nat.reduceAdd, true_and, and_true, and_self, eq_self, true_implies, forall_const, Bool.false_eq_true, false_implies, or_true, true_or, Option.some.injEq, Prod.mk.injEq, exists_eq_left', exists_eq', exists_and_left, reduceIte, Int.reduceEq, Int.reduceNe]) e
  · have e0 : sy0 tl tc p = (0, p) := if_neg c
    rw [if_neg c, if_neg c, if_neg (by decide)]
    exact fin _ (FrY.rf M).b.a (by rw [e0]; exact s13 _ _) (by rw [e0, si_g, if_neg (by decide), si_g]; exact if_pos ⟨rfl, rfl⟩) (by rw [e0]; exact show ¬ ((0 : Int) = -1) by decide)
end RD9
