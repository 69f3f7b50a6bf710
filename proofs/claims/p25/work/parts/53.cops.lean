def addS (S : Sg) (r a e l f : Int) : Sg := (S.n + 1, addD S.n S.D (tk S.n S.D + r) l a e (if S.n = 0 then 1 else f), S.st, S.sg)
def addR (A : Ab) (r a e l f : Int) : Int × Ab := if (0 ≤ r ∧ r ≤ 32) ∧ (1 ≤ l ∧ l ≤ 32) ∧ (0 ≤ a ∧ a ≤ 60) ∧ (0 ≤ e ∧ e ≤ 60) then (if A.now.n < 40 ∧ tk A.now.n A.now.D + r + l ≤ 600 then (tk A.now.n A.now.D + r, setN (recA A) (addS A.now r a e l f)) else (-3, A)) else (-2, A)
theorem CI.song {M M2 : Mm} {A : Ab} {n : Nat} {D : Nat → Nat → Int} (h : CI M A) (h1 : M2.1 = M.1) (h2 : M2.2.2 = M.2.2) (h3 : ∀ q j, q < 2 ∨ 7 < q → M2.2.1 q j = M.2.1 q j) (hc : CS M2 2 n D) : CN M M2 (setN A (n, D, A.now.st, A.now.sg)) := by
  have hf : Fx M2 := h.fx.fr' h1 h2
  refine ⟨CI_setN h hf (fun k => by rw [h2]) (fun q j hq => h3 q j (by omega)) ⟨hf.s1, hc, fun j hj => ?_, fun t ht => ?_⟩, h1, fun q j hq => h3 q j (by omega)⟩
  · rw [h3 _ _ (by omega)]; exact h.nw.2.2.1 j hj
  · rw [h3 _ _ (by omega)]; exact h.nw.2.2.2 t ht
section COPS
variable {K : Int → Mm → Prop} {M : Mm} {A : Ab}
set_option maxRecDepth 20000 in
theorem c_add {r a e l f : Int} (h : CI M A) (hV : A.now.V) (hf1 : f = 0 ∨ f = 1) (hK : ∀ M2, CN M M2 (addR A r a e l f).2 → K (addR A r a e l f).1 M2) : m_X6_add [.inr (some 0), .inl r, .inl a, .inl e, .inl l, .inl f] K M := by
  have hf := h.fx
  unfold addR at hK
  simp only [hf.x0, hf.r0, hf.r1, hf.r2, hf.r4, hf.r5, hf.r6, hf.r7, hf.s1.1, hf.s1.2.1, hf.s1.2.2.2.2.2.2.1, hf.s10.1, hf.s10.2.1, hf.s10.2.2.2.2.2.2.1, hf.s19.1, hf.x28, hf.x66, hf.r66, hf.x67, hf.x68, hf.jd.1, e_isWithin, m_X6_add, mk0, B_X6_add, iC, iL, iF, iA, iAc, iLen, iT, iAdd, iSub, iMul, iDiv, iRem, iNeg, iCh, iAnd31, iQ, iMax, iMin, iAbs, iCallS, iCallV, aN, aI, aR, rL, rF, rA, cEq, cNe, cLt, cGe, cGt, cLe, cAnd, cOr, cNot, cNull, sSkip, sSeq, sLoc, sLocR, sInc, sPut, sPutR, sPutAdd, sPutSub, sAst, sCst, sRst, sAstAdd, sAstSub, sIf1, sIf, sRet, sRetV, sCallV, sCallS, sPop, sCopy, sCopyT, sObj, sSw, iAddW, iMulW, iAndM, iShr, cQ, ent_0, ent_1, ent_2, ent_3, ent_4, ent_5, ent_6, va_up_self, va_up_ne, ne_eq, Nat.reduceEqDiff, not_false_eq_true, not_true_eq_false, si_1, si_2, si_g, sr_1, sr_2, cp_1, cp_2, List.length_cons, List.length_nil, Nat.reduceAdd, true_and, and_true, and_self, eq_self, true_implies, forall_const, Bool.false_eq_true, false_implies, or_true, true_or, Option.some.injEq, Prod.mk.injEq, exists_eq_left', exists_eq', exists_and_left, reduceIte, Int.reduceEq, Int.reduceNe]
  by_cases c1 : 0 ≤ r ∧ r ≤ 32
  · by_cases c2 : 1 ≤ l ∧ l ≤ 32
    · by_cases c3 : 0 ≤ a ∧ a ≤ 60
      · by_cases c4 : 0 ≤ e ∧ e ≤ 60
        · simp only [c1, c2, c3, c4, and_self, true_and, if_true, e_hasRoomFor h.nw.2.1 hV.1 c1 ⟨by omega, c2.2⟩, ent_0, ent_1, ent_2, ent_3, ent_4, ent_5, ent_6, va_up_self, va_up_ne, ne_eq, Nat.reduceEqDiff, not_false_eq_true, not_true_eq_false, si_1, si_2, si_g, sr_1, sr_2, cp_1, cp_2, List.length_cons, List.length_nil, Nat.reduceAdd, true_and, and_true, and_self, eq_self, true_implies, forall_const, Bool.false_eq_true, false_implies, or_true, true_or, Option.some.injEq, Prod.mk.injEq, exists_eq_left', exists_eq', exists_and_left, reduceIte, Int.reduceEq, Int.reduceNe] at hK ⊢
          by_cases c5 : A.now.n < 40 ∧ tk A.now.n A.now.D + r + l ≤ 600
          · simp only [c5, and_self, if_true, if_false, hf.x0, hf.r0, hf.r1, hf.r2, hf.r4, hf.r5, hf.r6, hf.r7, hf.s1.1, hf.s1.2.1, hf.s1.2.2.2.2.2.2.1, hf.s10.1, hf.s10.2.1, hf.s10.2.2.2.2.2.2.1, hf.s19.1, hf.x28, hf.x66, hf.r66, hf.x67, hf.x68, hf.jd.1, ent_0, ent_1, ent_2, ent_3, ent_4, ent_5, ent_6, va_up_self, va_up_ne, ne_eq, Nat.reduceEqDiff, not_false_eq_true, not_true_eq_false, si_1, si_2, si_g, sr_1, sr_2, cp_1, cp_2, List.length_cons, List.length_nil, Nat.reduceAdd, true_and, and_true, and_self, eq_self, true_implies, forall_const, Bool.false_eq_true, false_implies, or_true, true_or, Option.some.injEq, Prod.mk.injEq, exists_eq_left', exists_eq', exists_and_left, reduceIte, Int.reduceEq, Int.reduceNe] at hK ⊢
            refine e_record h (fun M2 h2 q2 u2 => ?_)
            have hf2 := h2.fx
            simp only [hf2.x0, hf2.r0, hf2.r1, hf2.r2, hf2.r4, hf2.r5, hf2.r6, hf2.r7, hf2.s1.1, hf2.s1.2.1, hf2.s1.2.2.2.2.2.2.1, hf2.s10.1, hf2.s10.2.1, hf2.s10.2.2.2.2.2.2.1, hf2.s19.1, hf2.x28, hf2.x66, hf2.r66, hf2.x67, hf2.x68, hf2.jd.1, ent_0, ent_1, ent_2, ent_3, ent_4, ent_5, ent_6, va_up_self, va_up_ne, ne_eq, Nat.reduceEqDiff, not_false_eq_true, not_true_eq_false, si_1, si_2, si_g, sr_1, sr_2, cp_1, cp_2, List.length_cons, List.length_nil, Nat.reduceAdd, true_and, and_true, and_self, eq_self, true_implies, forall_const, Bool.false_eq_true, false_implies, or_true, true_or, Option.some.injEq, Prod.mk.injEq, exists_eq_left', exists_eq', exists_and_left, reduceIte, Int.reduceEq, Int.reduceNe]
            have hc2 : CS M2 2 A.now.n A.now.D := h2.nw.2.1
            refine e_append hc2 hV.1 c5.1 c1 hf1 ⟨q2, hK _ ?_⟩
            refine (CN.tr ⟨h2, q2, u2⟩ (h2.song rfl rfl (fun q j hq => app_o (by omega)) (CS_app hc2 c5.1 rfl)))
          · simp only [c5, if_false, ent_0, ent_1, ent_2, ent_3, ent_4, ent_5, ent_6, va_up_self, va_up_ne, ne_eq, Nat.reduceEqDiff, not_false_eq_true, not_true_eq_false, si_1, si_2, si_g, sr_1, sr_2, cp_1, cp_2, List.length_cons, List.length_nil, Nat.reduceAdd, true_and, and_true, and_self, eq_self, true_implies, forall_const, Bool.false_eq_true, false_implies, or_true, true_or, Option.some.injEq, Prod.mk.injEq, exists_eq_left', exists_eq', exists_and_left, reduceIte, Int.reduceEq, Int.reduceNe] at hK ⊢
            exact hK M h.rf
        · simp only [c1, c2, c3, c4, and_false, if_true, if_false, ent_0, ent_1, ent_2, ent_3, ent_4, ent_5, ent_6, va_up_self, va_up_ne, ne_eq, Nat.reduceEqDiff, not_false_eq_true, not_true_eq_false, si_1, si_2, si_g, sr_1, sr_2, cp_1, cp_2, List.length_cons, List.length_nil, Nat.reduceAdd, true_and, and_true, and_self, eq_self, true_implies, forall_const, Bool.false_eq_true, false_implies, or_true, true_or, Option.some.injEq, Prod.mk.injEq, exists_eq_left', exists_eq', exists_and_left, reduceIte, Int.reduceEq, Int.reduceNe] at hK ⊢
          exact hK M h.rf
      · simp only [c1, c2, c3, and_false, false_and, if_true, if_false, ent_0, ent_1, ent_2, ent_3, ent_4, ent_5, ent_6, va_up_self, va_up_ne, ne_eq, Nat.reduceEqDiff, not_false_eq_true, not_true_eq_false, si_1, si_2, si_g, sr_1, sr_2, cp_1, cp_2, List.length_cons, List.length_nil, Nat.reduceAdd, true_and, and_true, and_self, eq_self, true_implies, forall_const, Bool.false_eq_true, false_implies, or_true, true_or, Option.some.injEq, Prod.mk.injEq, exists_eq_left', exists_eq', exists_and_left, reduceIte, Int.reduceEq, Int.reduceNe] at hK ⊢
        exact hK M h.rf
    · simp only [c1, c2, and_false, false_and, if_true, if_false, ent_0, ent_1, ent_2, ent_3, ent_4, ent_5, ent_6, va_up_self, va_up_ne, ne_eq, Nat.reduceEqDiff, not_false_eq_true, not_true_eq_false, si_1, si_2, si_g, sr_1, sr_2, cp_1, cp_2, List.length_cons, List.length_nil, Nat.reduceAdd, true_and, and_true, and_self, eq_self, true_implies, forall_const, Bool.false_eq_true, false_implies, or_true, true_or, Option.some.injEq, Prod.mk.injEq, exists_eq_left', exists_eq', exists_and_left, reduceIte, Int.reduceEq, Int.reduceNe] at hK ⊢
      exact hK M h.rf
  · simp only [c1, false_and, if_true, if_false, ent_0, ent_1, ent_2, ent_3, ent_4, ent_5, ent_6, va_up_self, va_up_ne, ne_eq, Nat.reduceEqDiff, not_false_eq_true, not_true_eq_false, si_1, si_2, si_g, sr_1, sr_2, cp_1, cp_2, List.length_cons, List.length_nil, Nat.reduceAdd, true_and, and_true, and_self, eq_self, true_implies, forall_const, Bool.false_eq_true, false_implies, or_true, true_or, Option.some.injEq, Prod.mk.injEq, exists_eq_left', exists_eq', exists_and_left, reduceIte, Int.reduceEq, Int.reduceNe] at hK ⊢
    exact hK M h.rf
def dropR (A : Ab) : Int × Ab := if A.now.n = 0 then (-5, A) else ((A.now.n : Int) - 1, setN (recA A) (A.now.n - 1, A.now.D, A.now.st, A.now.sg))
set_option maxRecDepth 20000 in
theorem c_drop (h : CI M A) (hK : ∀ M2, CN M M2 (dropR A).2 → K (dropR A).1 M2) : m_X6_drop [.inr (some 0)] K M := by
  have hf := h.fx
  unfold dropR at hK
  simp only [hf.x0, hf.r0, hf.r1, hf.r2, hf.r4, hf.r5, hf.r6, hf.r7, hf.s1.1, hf.s1.2.1, hf.s1.2.2.2.2.2.2.1, hf.s10.1, hf.s10.2.1, hf.s10.2.2.2.2.2.2.1, hf.s19.1, hf.x28, hf.x66, hf.r66, hf.x67, hf.x68, hf.jd.1, e_size h.nw.2.1, m_X6_drop, mk0, B_X6_drop, iC, iL, iF, iA, iAc, iLen, iT, iAdd, iSub, iMul, iDiv, iRem, iNeg, iCh, iAnd31, iQ, iMax, iMin, iAbs, iCallS, iCallV, aN, aI, aR, rL, rF, rA, cEq, cNe, cLt, cGe, cGt, cLe, cAnd, cOr, cNot, cNull, sSkip, sSeq, sLoc, sLocR, sInc, sPut, sPutR, sPutAdd, sPutSub, sAst, sCst, sRst, sAstAdd, sAstSub, sIf1, sIf, sRet, sRetV, sCallV, sCallS, sPop, sCopy, sCopyT, sObj, sSw, iAddW, iMulW, iAndM, iShr, cQ, ent_0, ent_1, ent_2, ent_3, ent_4, ent_5, ent_6, va_up_self, va_up_ne, ne_eq, Nat.reduceEqDiff, not_false_eq_true, not_true_eq_false, si_1, si_2, si_g, sr_1, sr_2, cp_1, cp_2, List.length_cons, List.length_nil, Nat.reduceAdd, true_and, and_true, and_self, eq_self, true_implies, forall_const, Bool.false_eq_true, false_implies, or_true, true_or, Option.some.injEq, Prod.mk.injEq, exists_eq_left', exists_eq', exists_and_left, reduceIte, Int.reduceEq, Int.reduceNe]
  by_cases c : A.now.n = 0
  · simp only [c, if_true] at hK
    rw [if_pos (by omega)]
    exact hK M h.rf
  · simp only [c, if_false] at hK
    rw [if_neg (by omega)]
    refine e_record h (fun M2 h2 q2 u2 => ?_)
    have hf2 := h2.fx
    simp only [hf2.x0, hf2.r0, hf2.r1, hf2.r2, hf2.r4, hf2.r5, hf2.r6, hf2.r7, hf2.s1.1, hf2.s1.2.1, hf2.s1.2.2.2.2.2.2.1, hf2.s10.1, hf2.s10.2.1, hf2.s10.2.2.2.2.2.2.1, hf2.s19.1, hf2.x28, hf2.x66, hf2.r66, hf2.x67, hf2.x68, hf2.jd.1, ent_0, ent_1, ent_2, ent_3, ent_4, ent_5, ent_6, va_up_self, va_up_ne, ne_eq, Nat.reduceEqDiff, not_false_eq_true, not_true_eq_false, si_1, si_2, si_g, sr_1, sr_2, cp_1, cp_2, List.length_cons, List.length_nil, Nat.reduceAdd, true_and, and_true, and_self, eq_self, true_implies, forall_const, Bool.false_eq_true, false_implies, or_true, true_or, Option.some.injEq, Prod.mk.injEq, exists_eq_left', exists_eq', exists_and_left, reduceIte, Int.reduceEq, Int.reduceNe]
    have hc2 : CS M2 2 A.now.n A.now.D := h2.nw.2.1
    refine e_removeLast hc2 (by omega) ⟨q2, hK _ ?_⟩
    refine (CN.tr ⟨h2, q2, u2⟩ (h2.song rfl rfl (fun q j hq => by rw [si_g, if_neg (by omega)]) ⟨hc2.1, ?_, ?_, fun i hi => ?_⟩))
    · have := hc2.2.1
      omega
    · rw [si_g, if_pos ⟨rfl, rfl⟩]
      omega
    · have := hc2.2.2.2 i (by omega)
      simp only [si_g]
      rw [if_neg (by omega), if_neg (by omega), if_neg (by omega), if_neg (by omega), if_neg (by omega)]
      exact this
def setR (A : Ab) (j v : Int) : Int × Ab := if 0 ≤ j ∧ j ≤ 4 then (if lo j ≤ v ∧ v ≤ hi j then (if A.now.st j.toNat = v then (-5, A) else (A.now.st j.toNat, setN (recA A) (A.now.n, A.now.D, (fun i => if i = j.toNat then v else A.now.st i), A.now.sg))) else (-2, A)) else (-1, A)
set_option maxRecDepth 20000 in
theorem c_set {j v : Int} (h : CI M A) (hK : ∀ M2, CN M M2 (setR A j v).2 → K (setR A j v).1 M2) : m_X6_set [.inr (some 0), .inl j, .inl v] K M := by
  have hf := h.fx
  unfold setR at hK
  simp only [hf.x0, hf.r0, hf.r1, hf.r2, hf.r4, hf.r5, hf.r6, hf.r7, hf.s1.1, hf.s1.2.1, hf.s1.2.2.2.2.2.2.1, hf.s10.1, hf.s10.2.1, hf.s10.2.2.2.2.2.2.1, hf.s19.1, hf.x28, hf.x66, hf.r66, hf.x67, hf.x68, hf.jd.1, e_isSetting, e_isValueOf, m_X6_set, mk0, B_X6_set, iC, iL, iF, iA, iAc, iLen, iT, iAdd, iSub, iMul, iDiv, iRem, iNeg, iCh, iAnd31, iQ, iMax, iMin, iAbs, iCallS, iCallV, aN, aI, aR, rL, rF, rA, cEq, cNe, cLt, cGe, cGt, cLe, cAnd, cOr, cNot, cNull, sSkip, sSeq, sLoc, sLocR, sInc, sPut, sPutR, sPutAdd, sPutSub, sAst, sCst, sRst, sAstAdd, sAstSub, sIf1, sIf, sRet, sRetV, sCallV, sCallS, sPop, sCopy, sCopyT, sObj, sSw, iAddW, iMulW, iAndM, iShr, cQ, ent_0, ent_1, ent_2, ent_3, ent_4, ent_5, ent_6, va_up_self, va_up_ne, ne_eq, Nat.reduceEqDiff, not_false_eq_true, not_true_eq_false, si_1, si_2, si_g, sr_1, sr_2, cp_1, cp_2, List.length_cons, List.length_nil, Nat.reduceAdd, true_and, and_true, and_self, eq_self, true_implies, forall_const, Bool.false_eq_true, false_implies, or_true, true_or, Option.some.injEq, Prod.mk.injEq, exists_eq_left', exists_eq', exists_and_left, reduceIte, Int.reduceEq, Int.reduceNe]
  by_cases c1 : 0 ≤ j ∧ j ≤ 4
  · by_cases c2 : lo j ≤ v ∧ v ≤ hi j
    · simp only [c1, c2, and_self, true_and, if_true, if_false, e_setting h.nw ⟨c1.1, by omega⟩, ent_0, ent_1, ent_2, ent_3, ent_4, ent_5, ent_6, va_up_self, va_up_ne, ne_eq, Nat.reduceEqDiff, not_false_eq_true, not_true_eq_false, si_1, si_2, si_g, sr_1, sr_2, cp_1, cp_2, List.length_cons, List.length_nil, Nat.reduceAdd, true_and, and_true, and_self, eq_self, true_implies, forall_const, Bool.false_eq_true, false_implies, or_true, true_or, Option.some.injEq, Prod.mk.injEq, exists_eq_left', exists_eq', exists_and_left, reduceIte, Int.reduceEq, Int.reduceNe] at hK ⊢
      by_cases c3 : A.now.st j.toNat = v
      · simp only [c3, if_true] at hK ⊢
        exact hK M h.rf
      · simp only [c3, if_false, hf.x0, hf.r0, hf.r1, hf.r2, hf.r4, hf.r5, hf.r6, hf.r7, hf.s1.1, hf.s1.2.1, hf.s1.2.2.2.2.2.2.1, hf.s10.1, hf.s10.2.1, hf.s10.2.2.2.2.2.2.1, hf.s19.1, hf.x28, hf.x66, hf.r66, hf.x67, hf.x68, hf.jd.1, ent_0, ent_1, ent_2, ent_3, ent_4, ent_5, ent_6, va_up_self, va_up_ne, ne_eq, Nat.reduceEqDiff, not_false_eq_true, not_true_eq_false, si_1, si_2, si_g, sr_1, sr_2, cp_1, cp_2, List.length_cons, List.length_nil, Nat.reduceAdd, true_and, and_true, and_self, eq_self, true_implies, forall_const, Bool.false_eq_true, false_implies, or_true, true_or, Option.some.injEq, Prod.mk.injEq, exists_eq_left', exists_eq', exists_and_left, reduceIte, Int.reduceEq, Int.reduceNe] at hK ⊢
        refine e_record h (fun M2 h2 q2 u2 => ?_)
        have hf2 := h2.fx
        simp only [hf2.x0, hf2.r0, hf2.r1, hf2.r2, hf2.r4, hf2.r5, hf2.r6, hf2.r7, hf2.s1.1, hf2.s1.2.1, hf2.s1.2.2.2.2.2.2.1, hf2.s10.1, hf2.s10.2.1, hf2.s10.2.2.2.2.2.2.1, hf2.s19.1, hf2.x28, hf2.x66, hf2.r66, hf2.x67, hf2.x68, hf2.jd.1, e_change hf2.s1 ⟨c1.1, by omega⟩, ent_0, ent_1, ent_2, ent_3, ent_4, ent_5, ent_6, va_up_self, va_up_ne, ne_eq, Nat.reduceEqDiff, not_false_eq_true, not_true_eq_false, si_1, si_2, si_g, sr_1, sr_2, cp_1, cp_2, List.length_cons, List.length_nil, Nat.reduceAdd, true_and, and_true, and_self, eq_self, true_implies, forall_const, Bool.false_eq_true, false_implies, or_true, true_or, Option.some.injEq, Prod.mk.injEq, exists_eq_left', exists_eq', exists_and_left, reduceIte, Int.reduceEq, Int.reduceNe]
        refine ⟨q2, hK _ ?_⟩
        have hf3 : Fx (si M2 (1 + 7) j.toNat v) := hf2.fr' rfl rfl
        refine CN.tr ⟨h2, q2, u2⟩ ⟨CI_setN h2 hf3 (fun k => rfl) (fun q j hq => by rw [si_g, if_neg (by omega)]) ⟨hf3.s1, CS_fr h2.nw.2.1 rfl rfl (fun q j h1 h2 => by rw [si_g, if_neg (by omega)]), fun i hi => ?_, fun t ht => ?_⟩, rfl, fun q j hq => by rw [si_g, if_neg (by omega)]⟩
        · rw [si_g]
          show _ = if i = j.toNat then v else A.now.st i
          by_cases e : i = j.toNat
          · rw [if_pos ⟨rfl, e⟩, if_pos e]
          · rw [if_neg (by omega), if_neg e]
            exact h2.nw.2.2.1 i hi
        · rw [si_g, if_neg (by omega)]
          exact h2.nw.2.2.2 t ht
    · simp only [c1, c2, and_self, and_false, if_true, if_false, ent_0, ent_1, ent_2, ent_3, ent_4, ent_5, ent_6, va_up_self, va_up_ne, ne_eq, Nat.reduceEqDiff, not_false_eq_true, not_true_eq_false, si_1, si_2, si_g, sr_1, sr_2, cp_1, cp_2, List.length_cons, List.length_nil, Nat.reduceAdd, true_and, and_true, and_self, eq_self, true_implies, forall_const, Bool.false_eq_true, false_implies, or_true, true_or, Option.some.injEq, Prod.mk.injEq, exists_eq_left', exists_eq', exists_and_left, reduceIte, Int.reduceEq, Int.reduceNe] at hK ⊢
      exact hK M h.rf
  · simp only [c1, if_true, if_false, ent_0, ent_1, ent_2, ent_3, ent_4, ent_5, ent_6, va_up_self, va_up_ne, ne_eq, Nat.reduceEqDiff, not_false_eq_true, not_true_eq_false, si_1, si_2, si_g, sr_1, sr_2, cp_1, cp_2, List.length_cons, List.length_nil, Nat.reduceAdd, true_and, and_true, and_self, eq_self, true_implies, forall_const, Bool.false_eq_true, false_implies, or_true, true_or, Option.some.injEq, Prod.mk.injEq, exists_eq_left', exists_eq', exists_and_left, reduceIte, Int.reduceEq, Int.reduceNe] at hK ⊢
    exact hK M h.rf
def vcS (S : Sg) (t c p : Int) : Sg := (S.n, S.D, S.st, fun u => if t ≤ (u : Nat) ∧ (u : Nat) < t + c then clp p else S.sg u)
theorem vcS_V {S : Sg} (h : S.V) (t c p : Int) : (vcS S t c p).V := ⟨h.1, h.2.1, fun u hu => by
  show -1 ≤ (if t ≤ (u : Nat) ∧ (u : Nat) < t + c then clp p else S.sg u) ∧ (if t ≤ (u : Nat) ∧ (u : Nat) < t + c then clp p else S.sg u) ≤ 60
  have h1 := h.2.2 u hu
  have h2 := clp_b p
  split <;> assumption⟩
theorem CI.sung {M : Mm} {A : Ab} {g g2 : Nat → Int} (h : CI M A) (hg : ∀ t, t < 600 → g t = g2 t) : CN M (sa M (1 + 8) g) (setN A (A.now.n, A.now.D, A.now.st, g2)) := by
  have hf : Fx (sa M (1 + 8) g) := h.fx.fr' rfl rfl
  exact ⟨CI_setN h hf (fun k => rfl) (fun q j hq => by rw [sa_g, if_neg (by omega)]) (SS_sg h.nw hg), rfl, fun q j hq => by rw [sa_g, if_neg (by omega)]⟩
def singR (A : Ab) (t c p : Int) : Int × Ab := if ((0 ≤ t ∧ t ≤ 599) ∧ (1 ≤ c ∧ c ≤ 64) ∧ t + c ≤ 600) ∧ (0 ≤ p ∧ p ≤ 60) then (hitsA (vcS A.now t c p), setN (recA A) (vcS A.now t c p)) else (-2, A)
set_option maxRecDepth 20000 in
theorem c_sing {t c p : Int} (h : CI M A) (hV : A.now.V) (hK : ∀ M2, CN M M2 (singR A t c p).2 → K (singR A t c p).1 M2) : m_X6_sing [.inr (some 0), .inl t, .inl c, .inl p] K M := by
  have hf := h.fx
  unfold singR at hK
  simp only [hf.x0, hf.r0, hf.r1, hf.r2, hf.r4, hf.r5, hf.r6, hf.r7, hf.s1.1, hf.s1.2.1, hf.s1.2.2.2.2.2.2.1, hf.s10.1, hf.s10.2.1, hf.s10.2.2.2.2.2.2.1, hf.s19.1, hf.x28, hf.x66, hf.r66, hf.x67, hf.x68, hf.jd.1, e_areTicks (show (64 : Int) ≤ 600 by decide), e_isWithin, m_X6_sing, mk0, B_X6_sing, iC, iL, iF, iA, iAc, iLen, iT, iAdd, iSub, iMul, iDiv, iRem, iNeg, iCh, iAnd31, iQ, iMax, iMin, iAbs, iCallS, iCallV, aN, aI, aR, rL, rF, rA, cEq, cNe, cLt, cGe, cGt, cLe, cAnd, cOr, cNot, cNull, sSkip, sSeq, sLoc, sLocR, sInc, sPut, sPutR, sPutAdd, sPutSub, sAst, sCst, sRst, sAstAdd, sAstSub, sIf1, sIf, sRet, sRetV, sCallV, sCallS, sPop, sCopy, sCopyT, sObj, sSw, iAddW, iMulW, iAndM, iShr, cQ, ent_0, ent_1, ent_2, ent_3, ent_4, ent_5, ent_6, va_up_self, va_up_ne, ne_eq, Nat.reduceEqDiff, not_false_eq_true, not_true_eq_false, si_1, si_2, si_g, sr_1, sr_2, cp_1, cp_2, List.length_cons, List.length_nil, Nat.reduceAdd, true_and, and_true, and_self, eq_self, true_implies, forall_const, Bool.false_eq_true, false_implies, or_true, true_or, Option.some.injEq, Prod.mk.injEq, exists_eq_left', exists_eq', exists_and_left, reduceIte, Int.reduceEq, Int.reduceNe]
  by_cases c1 : (0 ≤ t ∧ t ≤ 599) ∧ (1 ≤ c ∧ c ≤ 64) ∧ t + c ≤ 600
  · by_cases c2 : 0 ≤ p ∧ p ≤ 60
    · simp only [c1, c2, and_self, true_and, if_true, if_false, hf.x0, hf.r0, hf.r1, hf.r2, hf.r4, hf.r5, hf.r6, hf.r7, hf.s1.1, hf.s1.2.1, hf.s1.2.2.2.2.2.2.1, hf.s10.1, hf.s10.2.1, hf.s10.2.2.2.2.2.2.1, hf.s19.1, hf.x28, hf.x66, hf.r66, hf.x67, hf.x68, hf.jd.1, ent_0, ent_1, ent_2, ent_3, ent_4, ent_5, ent_6, va_up_self, va_up_ne, ne_eq, Nat.reduceEqDiff, not_false_eq_true, not_true_eq_false, si_1, si_2, si_g, sr_1, sr_2, cp_1, cp_2, List.length_cons, List.length_nil, Nat.reduceAdd, true_and, and_true, and_self, eq_self, true_implies, forall_const, Bool.false_eq_true, false_implies, or_true, true_or, Option.some.injEq, Prod.mk.injEq, exists_eq_left', exists_eq', exists_and_left, reduceIte, Int.reduceEq, Int.reduceNe] at hK ⊢
      refine e_record h (fun M2 h2 q2 u2 => ?_)
      have hf2 := h2.fx
      simp only [hf2.x0, hf2.r0, hf2.r1, hf2.r2, hf2.r4, hf2.r5, hf2.r6, hf2.r7, hf2.s1.1, hf2.s1.2.1, hf2.s1.2.2.2.2.2.2.1, hf2.s10.1, hf2.s10.2.1, hf2.s10.2.2.2.2.2.2.1, hf2.s19.1, hf2.x28, hf2.x66, hf2.r66, hf2.x67, hf2.x68, hf2.jd.1, ent_0, ent_1, ent_2, ent_3, ent_4, ent_5, ent_6, va_up_self, va_up_ne, ne_eq, Nat.reduceEqDiff, not_false_eq_true, not_true_eq_false, si_1, si_2, si_g, sr_1, sr_2, cp_1, cp_2, List.length_cons, List.length_nil, Nat.reduceAdd, true_and, and_true, and_self, eq_self, true_implies, forall_const, Bool.false_eq_true, false_implies, or_true, true_or, Option.some.injEq, Prod.mk.injEq, exists_eq_left', exists_eq', exists_and_left, reduceIte, Int.reduceEq, Int.reduceNe]
      refine e_voice hf2.s1 c1.1.1 (by omega) c1.2.2 ?_
      have n3 := h2.sung (g := fun u => if t ≤ (u : Int) ∧ (u : Int) < t + c then clp p else M2.2.1 (1 + 8) u) (g2 := (vcS A.now t c p).sg) (fun u hu => by
        show (if _ then clp p else _) = if _ then clp p else A.now.sg u
        rw [h2.nw.2.2.2 u hu]
        rfl)
      generalize sa M2 (1 + 8) (fun u => if t ≤ (u : Int) ∧ (u : Int) < t + c then clp p else M2.2.1 (1 + 8) u) = M3 at n3 ⊢
      simp only [n3.1.fx.x0, ent_0, ent_1, ent_2, ent_3, ent_4, ent_5, ent_6, va_up_self, va_up_ne, ne_eq, Nat.reduceEqDiff, not_false_eq_true, not_true_eq_false, si_1, si_2, si_g, sr_1, sr_2, cp_1, cp_2, List.length_cons, List.length_nil, Nat.reduceAdd, true_and, and_true, and_self, eq_self, true_implies, forall_const, Bool.false_eq_true, false_implies, or_true, true_or, Option.some.injEq, Prod.mk.injEq, exists_eq_left', exists_eq', exists_and_left, reduceIte, Int.reduceEq, Int.reduceNe]
      refine e_hitsNow n3.1 (vcS_V hV t c p) (fun M4 n4 => ⟨by rw [n4.2.1, n3.2.1, q2], hK M4 (CN.tr ⟨h2, q2, u2⟩ (n3.tr n4))⟩)
    · simp only [c1, c2, and_self, and_false, if_true, if_false, ent_0, ent_1, ent_2, ent_3, ent_4, ent_5, ent_6, va_up_self, va_up_ne, ne_eq, Nat.reduceEqDiff, not_false_eq_true, not_true_eq_false, si_1, si_2, si_g, sr_1, sr_2, cp_1, cp_2, List.length_cons, List.length_nil, Nat.reduceAdd, true_and, and_true, and_self, eq_self, true_implies, forall_const, Bool.false_eq_true, false_implies, or_true, true_or, Option.some.injEq, Prod.mk.injEq, exists_eq_left', exists_eq', exists_and_left, reduceIte, Int.reduceEq, Int.reduceNe] at hK ⊢
      exact hK M h.rf
  · simp only [c1, false_and, if_true, if_false, ent_0, ent_1, ent_2, ent_3, ent_4, ent_5, ent_6, va_up_self, va_up_ne, ne_eq, Nat.reduceEqDiff, not_false_eq_true, not_true_eq_false, si_1, si_2, si_g, sr_1, sr_2, cp_1, cp_2, List.length_cons, List.length_nil, Nat.reduceAdd, true_and, and_true, and_self, eq_self, true_implies, forall_const, Bool.false_eq_true, false_implies, or_true, true_or, Option.some.injEq, Prod.mk.injEq, exists_eq_left', exists_eq', exists_and_left, reduceIte, Int.reduceEq, Int.reduceNe] at hK ⊢
    exact hK M h.rf
end COPS
