section RD7
variable {K : Int → Mm → Prop} {M : Mm} {A : Ab}
theorem CI.tx {M : Mm} {A : Ab} (h : CI M A) (hV : A.V) : TX M A.tl A.tc := ⟨h.fx.x66, h.fx.r66, h.fx.x67, h.fx.x68, hV.tl, h.tl, fun i hi => ⟨h.tc i hi, hV.tc i hi⟩⟩
set_option maxRecDepth 20000 in
theorem c_read (h : CI M A) (hV : A.V) (hK : ∀ M2, CN M M2 (readR A).2 → K (readR A).1 M2) : m_X6_read [.inr (some 0)] K M := by
  have hf := h.fx
  have hI := rd_I hV.tl (tc := A.tc) 59
  unfold readR at hK
  simp only [hf.x0, hf.r0, hf.r1, hf.r2, hf.r4, hf.r5, hf.r6, hf.r7, hf.s1.1, hf.s1.2.1, hf.s1.2.2.2.2.2.2.1, hf.s10.1, hf.s10.2.1, hf.s10.2.2.2.2.2.2.1, hf.s19.1, hf.x28, hf.x66, hf.r66, hf.x67, hf.x68, hf.jd.1, m_X6_read, mk0, B_X6_read, iC, iL, iF, iA, iAc, iLen, iT, iAdd, iSub, iMul, iDiv, iRem, iNeg, iCh, iAnd31, iQ, iMax, iMin, iAbs, iCallS, iCallV, aN, aI, aR, rL, rF, rA, cEq, cNe, cLt, cGe, cGt, cLe, cAnd, cOr, cNot, cNull, sSkip, sSeq, sLoc, sLocR, sInc, sPut, sPutR, sPutAdd, sPutSub, sAst, sCst, sRst, sAstAdd, sAstSub, sIf1, sIf, sRet, sRetV, sCallV, sCallS, sPop, sCopy, sCopyT, sObj, sSw, ent_0, ent_1, ent_2, ent_3, ent_4, ent_5, ent_6, va_up_self, va_up_ne, ne_eq, Nat.reduceEqDiff, not_false_eq_true, not_true_eq_false, si_1, si_2, si_g, sr_1, sr_2, cp_1, cp_2, List.length_cons, List.length_nil, Nat.reduceAdd, true_and, and_true, and_self, eq_self, true_implies, forall_const, Bool.false_eq_true, false_implies, or_true, true_or, Option.some.injEq, Prod.mk.injEq, exists_eq_left', exists_eq', exists_and_left, reduceIte, Int.reduceEq, Int.reduceNe]
  refine e_readInto (h.tx hV) hf.s10.2.2.2.2.2.2 (fun M2 F P Q C => ?_)
  have hf2 : Fx M2 := hf.fr' F.1 F.2.1
  have n2 : CN M M2 A := ⟨h.fr hf2 (fun k => by rw [F.2.1]) (fun q j hq => F.2.2 q j (by omega)), F.1, fun q j hq => F.2.2 q j (by omega)⟩
  simp only [hf2.x0, hf2.r0, hf2.r1, hf2.r2, hf2.r4, hf2.r5, hf2.r6, hf2.r7, hf2.s1.1, hf2.s1.2.1, hf2.s1.2.2.2.2.2.2.1, hf2.s10.1, hf2.s10.2.1, hf2.s10.2.2.2.2.2.2.1, hf2.s19.1, hf2.x28, hf2.x66, hf2.r66, hf2.x67, hf2.x68, hf2.jd.1, P, Q, ent_0, ent_1, ent_2, ent_3, ent_4, ent_5, ent_6, va_up_self, va_up_ne, ne_eq, Nat.reduceEqDiff, not_false_eq_true, not_true_eq_false, si_1, si_2, si_g, sr_1, sr_2, cp_1, cp_2, List.length_cons, List.length_nil, Nat.reduceAdd, true_and, and_true, and_self, eq_self, true_implies, forall_const, Bool.false_eq_true, false_implies, or_true, true_or, Option.some.injEq, Prod.mk.injEq, exists_eq_left', exists_eq', exists_and_left, reduceIte, Int.reduceEq, Int.reduceNe]
  exact (0 : Nat)
end RD7
