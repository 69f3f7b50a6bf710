def ifhV (S : Sg) (t y : Int) : Int := if (-32 ≤ t ∧ t ≤ 32) ∧ (-60 ≤ y ∧ y ≤ 60) then ptsV S.n S.D S.st (shF S.sg t y) else -2
/-- the k-th distance that is tried: -1, 1, -2, 2, .. -/
def bsD (k : Nat) : Int := if k % 2 = 0 then -((k / 2 : Nat) + 1 : Int) else ((k / 2 : Nat) + 1 : Int)
def bsF (P : Int → Int) : Nat → Int × Int
  | 0 => (0, P 0)
  | k + 1 => if (bsF P k).2 < P (bsD k) then (bsD k, P (bsD k)) else bsF P k
def besV (S : Sg) : Int := (bsF (fun t => ptsV S.n S.D S.st (shF S.sg t 0)) 64).1 + 32
def setS (S : Sg) (j v : Int) : Sg := (S.n, S.D, (fun i => if i = j.toNat then v else S.st i), S.sg)
def ifsV (S : Sg) (j v : Int) : Int := if 0 ≤ j ∧ j ≤ 4 then (if lo j ≤ v ∧ v ≤ hi j then ptsV S.n S.D (setS S j v).st S.sg else -2) else -1
def wsF (pp : Nat → Int) : Nat → Int
  | 0 => -5
  | i + 1 => if wsF pp i = -5 ∨ pp i < pp (wsF pp i).toNat then i else wsF pp i
def worV (S : Sg) : Int := wsF (fun p => ofS S p 3) (pcN S.n S.D)
theorem setS_V {S : Sg} (h : S.V) {j v : Int} (hj : 0 ≤ j ∧ j ≤ 4) (hv : lo j ≤ v ∧ v ≤ hi j) : (setS S j v).V := by
  refine ⟨h.1, ?_, h.2.2⟩
  have h1 := h.2.1
  unfold lo hi at hv
  have hj2 : j = 0 ∨ j = 1 ∨ j = 2 ∨ j = 3 ∨ j = 4 := by omega
  unfold VT at h1 ⊢
  have e0 : ∀ i, (setS S j v).st i = if i = j.toNat then v else S.st i := fun _ => rfl
  simp only [e0]
  rcases hj2 with e | e | e | e | e <;> simp [e] at hv ⊢ <;> omega
theorem wsF_b (pp : Nat → Int) : ∀ n, (n = 0 ∧ wsF pp n = -5) ∨ (0 ≤ wsF pp n ∧ wsF pp n < n)
  | 0 => .inl ⟨rfl, rfl⟩
  | n + 1 => by
    refine .inr ?_
    have ih := wsF_b pp n
    show 0 ≤ (if wsF pp n = -5 ∨ pp n < pp (wsF pp n).toNat then (n : Int) else wsF pp n) ∧ (if wsF pp n = -5 ∨ pp n < pp (wsF pp n).toNat then (n : Int) else wsF pp n) < ((n + 1 : Nat) : Int)
    by_cases c : wsF pp n = -5 ∨ pp n < pp (wsF pp n).toNat
    · rw [if_pos c]; omega
    · rw [if_neg c]; omega
section CQRY4
variable {K : Int → Mm → Prop} {M : Mm} {A : Ab}
theorem would_now (h : CI M A) : CN M (cpT M 10 1) A ∧ SS (cpT M 10 1) 10 A.now.n A.now.D A.now.st A.now.sg := by
  have hf : Fx (cpT M 10 1) := h.fx.fr' rfl rfl
  exact ⟨⟨h.fr hf (fun k => rfl) (fun q j hq => cpT_o (by omega)), rfl, fun q j hq => cpT_o (by omega)⟩, SS_cpT h.fx.s10 h.nw (by decide)⟩
set_option maxRecDepth 20000 in
theorem c_ifShifted {t y : Int} (h : CI M A) (hV : A.now.V) (hK : ∀ M2, CN M M2 A → K (ifhV A.now t y) M2) : m_X6_ifShifted [.inr (some 0), .inl t, .inl y] K M := by
  have hf := h.fx
  unfold ifhV at hK
  simp only [hf.x0, hf.r0, hf.r1, hf.r2, hf.r4, hf.r5, hf.r6, hf.r7, hf.s1.1, hf.s1.2.1, hf.s1.2.2.2.2.2.2.1, hf.s10.1, hf.s10.2.1, hf.s10.2.2.2.2.2.2.1, hf.s19.1, hf.x28, hf.x66, hf.r66, hf.x67, hf.x68, hf.jd.1, e_isWithin, m_X6_ifShifted, mk0, B_X6_ifShifted, iC, iL, iF, iA, iAc, iLen, iT, iAdd, iSub, iMul, iDiv, iRem, iNeg, iCh, iAnd31, iQ, iMax, iMin, iAbs, iCallS, iCallV, aN, aI, aR, rL, rF, rA, cEq, cNe, cLt, cGe, cGt, cLe, cAnd, cOr, cNot, cNull, sSkip, sSeq, sLoc, sLocR, sInc, sPut, sPutR, sPutAdd, sPutSub, sAst, sCst, sRst, sAstAdd, sAstSub, sIf1, sIf, sRet, sRetV, sCallV, sCallS, sPop, sCopy, sCopyT, sObj, sSw, iAddW, iMulW, iAndM, iShr, cQ, ent_0, ent_1, ent_2, ent_3, ent_4, ent_5, ent_6, va_up_self, va_up_ne, ne_eq, Nat.reduceEqDiff, not_false_eq_true, not_true_eq_false, si_1, si_2, si_g, sr_1, sr_2, cp_1, cp_2, List.length_cons, List.length_nil, Nat.reduceAdd, true_and, and_true, and_self, eq_self, true_implies, forall_const, Bool.false_eq_true, false_implies, or_true, true_or, Option.some.injEq, Prod.mk.injEq, exists_eq_left', exists_eq', exists_and_left, reduceIte, Int.reduceEq, Int.reduceNe]
  by_cases c1 : -32 ≤ t ∧ t ≤ 32
  · by_cases c2 : -60 ≤ y ∧ y ≤ 60
    · simp only [c1, c2, and_self, if_true, if_false, hf.x0, hf.r0, hf.r1, hf.r2, hf.r4, hf.r5, hf.r6, hf.r7, hf.s1.1, hf.s1.2.1, hf.s1.2.2.2.2.2.2.1, hf.s10.1, hf.s10.2.1, hf.s10.2.2.2.2.2.2.1, hf.s19.1, hf.x28, hf.x66, hf.r66, hf.x67, hf.x68, hf.jd.1, ent_0, ent_1, ent_2, ent_3, ent_4, ent_5, ent_6, va_up_self, va_up_ne, ne_eq, Nat.reduceEqDiff, not_false_eq_true, not_true_eq_false, si_1, si_2, si_g, sr_1, sr_2, cp_1, cp_2, List.length_cons, List.length_nil, Nat.reduceAdd, true_and, and_true, and_self, eq_self, true_implies, forall_const, Bool.false_eq_true, false_implies, or_true, true_or, Option.some.injEq, Prod.mk.injEq, exists_eq_left', exists_eq', exists_and_left, reduceIte, Int.reduceEq, Int.reduceNe] at hK ⊢
      refine e_copyState hf.s10 hf.s1 (by decide) ?_
      obtain ⟨n1, w1⟩ := would_now h
      have hf1 := n1.1.fx
      generalize cpT M 10 1 = M1 at n1 w1 hf1 ⊢
      simp only [hf1.x0, hf1.r0, hf1.r1, hf1.r2, hf1.r4, hf1.r5, hf1.r6, hf1.r7, hf1.s1.1, hf1.s1.2.1, hf1.s1.2.2.2.2.2.2.1, hf1.s10.1, hf1.s10.2.1, hf1.s10.2.2.2.2.2.2.1, hf1.s19.1, hf1.x28, hf1.x66, hf1.r66, hf1.x67, hf1.x68, hf1.jd.1, ent_0, ent_1, ent_2, ent_3, ent_4, ent_5, ent_6, va_up_self, va_up_ne, ne_eq, Nat.reduceEqDiff, not_false_eq_true, not_true_eq_false, si_1, si_2, si_g, sr_1, sr_2, cp_1, cp_2, List.length_cons, List.length_nil, Nat.reduceAdd, true_and, and_true, and_self, eq_self, true_implies, forall_const, Bool.false_eq_true, false_implies, or_true, true_or, Option.some.injEq, Prod.mk.injEq, exists_eq_left', exists_eq', exists_and_left, reduceIte, Int.reduceEq, Int.reduceNe]
      refine e_pointsIfShifted n1.1 ⟨_, w1⟩ hV c1 c2 (fun M2 n2 _ => ⟨by rw [n2.2.1, n1.2.1], hK M2 (n1.tr n2)⟩)
    · simp only [c1, c2, and_self, and_false, if_true, if_false, ent_0, ent_1, ent_2, ent_3, ent_4, ent_5, ent_6, va_up_self, va_up_ne, ne_eq, Nat.reduceEqDiff, not_false_eq_true, not_true_eq_false, si_1, si_2, si_g, sr_1, sr_2, cp_1, cp_2, List.length_cons, List.length_nil, Nat.reduceAdd, true_and, and_true, and_self, eq_self, true_implies, forall_const, Bool.false_eq_true, false_implies, or_true, true_or, Option.some.injEq, Prod.mk.injEq, exists_eq_left', exists_eq', exists_and_left, reduceIte, Int.reduceEq, Int.reduceNe] at hK ⊢
      exact hK M h.rf
  · simp only [c1, false_and, if_true, if_false, ent_0, ent_1, ent_2, ent_3, ent_4, ent_5, ent_6, va_up_self, va_up_ne, ne_eq, Nat.reduceEqDiff, not_false_eq_true, not_true_eq_false, si_1, si_2, si_g, sr_1, sr_2, cp_1, cp_2, List.length_cons, List.length_nil, Nat.reduceAdd, true_and, and_true, and_self, eq_self, true_implies, forall_const, Bool.false_eq_true, false_implies, or_true, true_or, Option.some.injEq, Prod.mk.injEq, exists_eq_left', exists_eq', exists_and_left, reduceIte, Int.reduceEq, Int.reduceNe] at hK ⊢
    exact hK M h.rf
set_option maxRecDepth 20000 in
theorem c_ifSet {j v : Int} (h : CI M A) (hV : A.now.V) (hK : ∀ M2, CN M M2 A → K (ifsV A.now j v) M2) : m_X6_ifSet [.inr (some 0), .inl j, .inl v] K M := by
  have hf := h.fx
  unfold ifsV at hK
  simp only [hf.x0, hf.r0, hf.r1, hf.r2, hf.r4, hf.r5, hf.r6, hf.r7, hf.s1.1, hf.s1.2.1, hf.s1.2.2.2.2.2.2.1, hf.s10.1, hf.s10.2.1, hf.s10.2.2.2.2.2.2.1, hf.s19.1, hf.x28, hf.x66, hf.r66, hf.x67, hf.x68, hf.jd.1, e_isSetting, e_isValueOf, m_X6_ifSet, mk0, B_X6_ifSet, iC, iL, iF, iA, iAc, iLen, iT, iAdd, iSub, iMul, iDiv, iRem, iNeg, iCh, iAnd31, iQ, iMax, iMin, iAbs, iCallS, iCallV, aN, aI, aR, rL, rF, rA, cEq, cNe, cLt, cGe, cGt, cLe, cAnd, cOr, cNot, cNull, sSkip, sSeq, sLoc, sLocR, sInc, sPut, sPutR, sPutAdd, sPutSub, sAst, sCst, sRst, sAstAdd, sAstSub, sIf1, sIf, sRet, sRetV, sCallV, sCallS, sPop, sCopy, sCopyT, sObj, sSw, iAddW, iMulW, iAndM, iShr, cQ, ent_0, ent_1, ent_2, ent_3, ent_4, ent_5, ent_6, va_up_self, va_up_ne, ne_eq, Nat.reduceEqDiff, not_false_eq_true, not_true_eq_false, si_1, si_2, si_g, sr_1, sr_2, cp_1, cp_2, List.length_cons, List.length_nil, Nat.reduceAdd, true_and, and_true, and_self, eq_self, true_implies, forall_const, Bool.false_eq_true, false_implies, or_true, true_or, Option.some.injEq, Prod.mk.injEq, exists_eq_left', exists_eq', exists_and_left, reduceIte, Int.reduceEq, Int.reduceNe]
  by_cases c1 : 0 ≤ j ∧ j ≤ 4
  · by_cases c2 : lo j ≤ v ∧ v ≤ hi j
    · simp only [c1, c2, and_self, true_and, if_true, if_false, hf.x0, hf.r0, hf.r1, hf.r2, hf.r4, hf.r5, hf.r6, hf.r7, hf.s1.1, hf.s1.2.1, hf.s1.2.2.2.2.2.2.1, hf.s10.1, hf.s10.2.1, hf.s10.2.2.2.2.2.2.1, hf.s19.1, hf.x28, hf.x66, hf.r66, hf.x67, hf.x68, hf.jd.1, ent_0, ent_1, ent_2, ent_3, ent_4, ent_5, ent_6, va_up_self, va_up_ne, ne_eq, Nat.reduceEqDiff, not_false_eq_true, not_true_eq_false, si_1, si_2, si_g, sr_1, sr_2, cp_1, cp_2, List.length_cons, List.length_nil, Nat.reduceAdd, true_and, and_true, and_self, eq_self, true_implies, forall_const, Bool.false_eq_true, false_implies, or_true, true_or, Option.some.injEq, Prod.mk.injEq, exists_eq_left', exists_eq', exists_and_left, reduceIte, Int.reduceEq, Int.reduceNe] at hK ⊢
      refine e_copyState hf.s10 hf.s1 (by decide) ?_
      obtain ⟨n1, w1⟩ := would_now h
      have hf1 := n1.1.fx
      generalize cpT M 10 1 = M1 at n1 w1 hf1 ⊢
      simp only [hf1.x0, hf1.r0, hf1.r1, hf1.r2, hf1.r4, hf1.r5, hf1.r6, hf1.r7, hf1.s1.1, hf1.s1.2.1, hf1.s1.2.2.2.2.2.2.1, hf1.s10.1, hf1.s10.2.1, hf1.s10.2.2.2.2.2.2.1, hf1.s19.1, hf1.x28, hf1.x66, hf1.r66, hf1.x67, hf1.x68, hf1.jd.1, e_change hf1.s10 (⟨c1.1, by omega⟩ : 0 ≤ j ∧ j < 5), ent_0, ent_1, ent_2, ent_3, ent_4, ent_5, ent_6, va_up_self, va_up_ne, ne_eq, Nat.reduceEqDiff, not_false_eq_true, not_true_eq_false, si_1, si_2, si_g, sr_1, sr_2, cp_1, cp_2, List.length_cons, List.length_nil, Nat.reduceAdd, true_and, and_true, and_self, eq_self, true_implies, forall_const, Bool.false_eq_true, false_implies, or_true, true_or, Option.some.injEq, Prod.mk.injEq, exists_eq_left', exists_eq', exists_and_left, reduceIte, Int.reduceEq, Int.reduceNe]
      have hf2 : Fx (si M1 (10 + 7) j.toNat v) := hf1.fr' rfl rfl
      have n2 : CN M1 (si M1 (10 + 7) j.toNat v) A := ⟨n1.1.fr hf2 (fun k => rfl) (fun q i hq => by rw [si_g, if_neg (by omega)]), rfl, fun q i hq => by rw [si_g, if_neg (by omega)]⟩
      have w2 : SSg (si M1 (10 + 7) j.toNat v) 10 (setS A.now j v) := by
        refine ⟨hf2.s10, CS_fr w1.2.1 rfl rfl (fun q i h1 h2 => by rw [si_g, if_neg (by omega)]), fun i hi => ?_, fun t ht => ?_⟩
        · rw [si_g]
          show _ = if i = j.toNat then v else A.now.st i
          by_cases e : i = j.toNat
          · rw [if_pos ⟨rfl, e⟩, if_pos e]
          · rw [if_neg (by omega), if_neg e]
            exact w1.2.2.1 i hi
        · rw [si_g, if_neg (by omega)]
          exact w1.2.2.2 t ht
      generalize si M1 (10 + 7) j.toNat v = M2 at n2 w2 hf2 ⊢
      exact e_pointsOfS n2.1 w2 (by decide) (setS_V hV c1 c2) (fun M3 n3 _ => ⟨by rw [n3.2.1, n2.2.1, n1.2.1], hK M3 ((n1.tr n2).tr n3)⟩)
    · simp only [c1, c2, and_self, and_false, if_true, if_false, ent_0, ent_1, ent_2, ent_3, ent_4, ent_5, ent_6, va_up_self, va_up_ne, ne_eq, Nat.reduceEqDiff, not_false_eq_true, not_true_eq_false, si_1, si_2, si_g, sr_1, sr_2, cp_1, cp_2, List.length_cons, List.length_nil, Nat.reduceAdd, true_and, and_true, and_self, eq_self, true_implies, forall_const, Bool.false_eq_true, false_implies, or_true, true_or, Option.some.injEq, Prod.mk.injEq, exists_eq_left', exists_eq', exists_and_left, reduceIte, Int.reduceEq, Int.reduceNe] at hK ⊢
      exact hK M h.rf
  · simp only [c1, if_true, if_false, ent_0, ent_1, ent_2, ent_3, ent_4, ent_5, ent_6, va_up_self, va_up_ne, ne_eq, Nat.reduceEqDiff, not_false_eq_true, not_true_eq_false, si_1, si_2, si_g, sr_1, sr_2, cp_1, cp_2, List.length_cons, List.length_nil, Nat.reduceAdd, true_and, and_true, and_self, eq_self, true_implies, forall_const, Bool.false_eq_true, false_implies, or_true, true_or, Option.some.injEq, Prod.mk.injEq, exists_eq_left', exists_eq', exists_and_left, reduceIte, Int.reduceEq, Int.reduceNe] at hK ⊢
    exact hK M h.rf
theorem bsF_b {P : Int → Int} : ∀ k, k ≤ 64 → -32 ≤ (bsF P k).1 ∧ (bsF P k).1 ≤ 32
  | 0, _ => by
    show (-32 : Int) ≤ 0 ∧ (0 : Int) ≤ 32
    decide
  | k + 1, h => by
    have ih := bsF_b (P := P) k (by omega)
    show -32 ≤ (if (bsF P k).2 < P (bsD k) then (bsD k, P (bsD k)) else bsF P k).1 ∧ (if (bsF P k).2 < P (bsD k) then (bsD k, P (bsD k)) else bsF P k).1 ≤ 32
    split
    · show -32 ≤ bsD k ∧ bsD k ≤ 32
      unfold bsD
      split <;> omega
    · exact ih
set_option maxRecDepth 20000 in
theorem c_bestShift (h : CI M A) (hV : A.now.V) (hK : ∀ M2, CN M M2 A → K (besV A.now) M2) : m_X6_bestShift [.inr (some 0)] K M := by
  have hf := h.fx
  unfold besV at hK
  generalize hP : (fun t => ptsV A.now.n A.now.D A.now.st (shF A.now.sg t 0)) = P at hK
  have hp : ∀ t, ptsV A.now.n A.now.D A.now.st (shF A.now.sg t 0) = P t := fun t => by rw [← hP]
  simp only [hf.x0, hf.r0, hf.r1, hf.r2, hf.r4, hf.r5, hf.r6, hf.r7, hf.s1.1, hf.s1.2.1, hf.s1.2.2.2.2.2.2.1, hf.s10.1, hf.s10.2.1, hf.s10.2.2.2.2.2.2.1, hf.s19.1, hf.x28, hf.x66, hf.r66, hf.x67, hf.x68, hf.jd.1, m_X6_bestShift, mk0, B_X6_bestShift, iC, iL, iF, iA, iAc, iLen, iT, iAdd, iSub, iMul, iDiv, iRem, iNeg, iCh, iAnd31, iQ, iMax, iMin, iAbs, iCallS, iCallV, aN, aI, aR, rL, rF, rA, cEq, cNe, cLt, cGe, cGt, cLe, cAnd, cOr, cNot, cNull, sSkip, sSeq, sLoc, sLocR, sInc, sPut, sPutR, sPutAdd, sPutSub, sAst, sCst, sRst, sAstAdd, sAstSub, sIf1, sIf, sRet, sRetV, sCallV, sCallS, sPop, sCopy, sCopyT, sObj, sSw, iAddW, iMulW, iAndM, iShr, cQ, ent_0, ent_1, ent_2, ent_3, ent_4, ent_5, ent_6, va_up_self, va_up_ne, ne_eq, Nat.reduceEqDiff, not_false_eq_true, not_true_eq_false, si_1, si_2, si_g, sr_1, sr_2, cp_1, cp_2, List.length_cons, List.length_nil, Nat.reduceAdd, true_and, and_true, and_self, eq_self, true_implies, forall_const, Bool.false_eq_true, false_implies, or_true, true_or, Option.some.injEq, Prod.mk.injEq, exists_eq_left', exists_eq', exists_and_left, reduceIte, Int.reduceEq, Int.reduceNe]
  refine e_copyState hf.s10 hf.s1 (by decide) ?_
  obtain ⟨n1, w1⟩ := would_now h
  have hf1 := n1.1.fx
  have w1 : WI (cpT M 10 1) A := ⟨_, w1⟩
  generalize cpT M 10 1 = M1 at n1 w1 hf1 ⊢
  simp only [hf1.x0, hf1.r0, hf1.r1, hf1.r2, hf1.r4, hf1.r5, hf1.r6, hf1.r7, hf1.s1.1, hf1.s1.2.1, hf1.s1.2.2.2.2.2.2.1, hf1.s10.1, hf1.s10.2.1, hf1.s10.2.2.2.2.2.2.1, hf1.s19.1, hf1.x28, hf1.x66, hf1.r66, hf1.x67, hf1.x68, hf1.jd.1, ent_0, ent_1, ent_2, ent_3, ent_4, ent_5, ent_6, va_up_self, va_up_ne, ne_eq, Nat.reduceEqDiff, not_false_eq_true, not_true_eq_false, si_1, si_2, si_g, sr_1, sr_2, cp_1, cp_2, List.length_cons, List.length_nil, Nat.reduceAdd, true_and, and_true, and_self, eq_self, true_implies, forall_const, Bool.false_eq_true, false_implies, or_true, true_or, Option.some.injEq, Prod.mk.injEq, exists_eq_left', exists_eq', exists_and_left, reduceIte, Int.reduceEq, Int.reduceNe]
  refine e_pointsIfShifted n1.1 w1 hV (by omega) (by omega) (fun M2 n2 w2 => ?_)
  rw [hp]
  refine while_n (n := 32) (fun r ρ M3 => ∃ d : Nat, d + r = 32 ∧ ρ 0 = .inr (some 0) ∧ ρ 1 = .inl (bsF P (2 * d)).1 ∧ ρ 2 = .inl (bsF P (2 * d)).2 ∧ ρ 3 = .inl ((d : Int) + 1) ∧ CN M M3 A ∧ WI M3 A) ?_ ⟨0, by omega, by simp [va_up, ent_0], by simp [va_up]; rfl, by simp [va_up]; rfl, by simp [va_up], n1.tr n2, w2⟩
  rintro r W hW ρ M3 ⟨d, hr, h0, h1, h2, h3, n3, w3⟩
  have hf3 := n3.1.fx
  simp only [h0, h1, h2, h3, hf3.x0, hf3.r0, hf3.r1, hf3.r2, hf3.r4, hf3.r5, hf3.r6, hf3.r7, hf3.s1.1, hf3.s1.2.1, hf3.s1.2.2.2.2.2.2.1, hf3.s10.1, hf3.s10.2.1, hf3.s10.2.2.2.2.2.2.1, hf3.s19.1, hf3.x28, hf3.x66, hf3.r66, hf3.x67, hf3.x68, hf3.jd.1, iC, iL, iF, iA, iAc, iLen, iT, iAdd, iSub, iMul, iDiv, iRem, iNeg, iCh, iAnd31, iQ, iMax, iMin, iAbs, iCallS, iCallV, aN, aI, aR, rL, rF, rA, cEq, cNe, cLt, cGe, cGt, cLe, cAnd, cOr, cNot, cNull, sSkip, sSeq, sLoc, sLocR, sInc, sPut, sPutR, sPutAdd, sPutSub, sAst, sCst, sRst, sAstAdd, sAstSub, sIf1, sIf, sRet, sRetV, sCallV, sCallS, sPop, sCopy, sCopyT, sObj, sSw, iAddW, iMulW, iAndM, iShr, cQ, ent_0, ent_1, ent_2, ent_3, ent_4, ent_5, ent_6, va_up_self, va_up_ne, ne_eq, Nat.reduceEqDiff, not_false_eq_true, not_true_eq_false, si_1, si_2, si_g, sr_1, sr_2, cp_1, cp_2, List.length_cons, List.length_nil, Nat.reduceAdd, true_and, and_true, and_self, eq_self, true_implies, forall_const, Bool.false_eq_true, false_implies, or_true, true_or, Option.some.injEq, Prod.mk.injEq, exists_eq_left', exists_eq', exists_and_left, reduceIte, Int.reduceEq, Int.reduceNe]
  by_cases hd : d < 32
  · have r1 : inR (-((d : Int) + 1)) := inR_s (by omega) (by omega)
    have r2 : inR ((d : Int) + 1 + 1) := inR_s (by omega) (by omega)
    rw [if_pos (by omega)]
    have eD1 : bsD (2 * d) = -((d : Int) + 1) := by
      unfold bsD
      rw [if_pos (by omega)]
      omega
    have eD2 : bsD (2 * d + 1) = (d : Int) + 1 := by
      unfold bsD
      rw [if_neg (by omega)]
      omega
    have s1 : bsF P (2 * d + 1) = if (bsF P (2 * d)).2 < P (-((d : Int) + 1)) then (-((d : Int) + 1), P (-((d : Int) + 1))) else bsF P (2 * d) := by
      rw [← eD1]
      rfl
    have s2 : bsF P (2 * (d + 1)) = if (bsF P (2 * d + 1)).2 < P ((d : Int) + 1) then ((d : Int) + 1, P ((d : Int) + 1)) else bsF P (2 * d + 1) := by
      rw [← eD2]
      rfl
    refine ⟨r1, e_pointsIfShifted n3.1 w3 hV (by omega) (by omega) (fun M4 n4 w4 => ?_)⟩
    have hf4 := n4.1.fx
    have n4' := n3.tr n4
    rw [hp]
    by_cases c1 : (bsF P (2 * d)).2 < P (-((d : Int) + 1))
    · rw [if_pos c1] at s1 ⊢
      refine ⟨r1, ⟨0, hf4.x0⟩, e_pointsIfShifted n4.1 w4 hV (by omega) (by omega) (fun M5 n5 w5 => ?_)⟩
      have n5' := n4'.tr n5
      rw [s1] at s2
      rw [hp]
      by_cases c2 : P (-((d : Int) + 1)) < P ((d : Int) + 1)
      · rw [if_pos c2] at s2 ⊢
        exact ⟨r2, hW _ _ (by omega) ⟨d + 1, by omega, by simp [va_up, h0], by simp [va_up, s2], by simp [va_up, s2], by simp [va_up], n5', w5⟩⟩
      · rw [if_neg c2] at s2 ⊢
        exact ⟨r2, hW _ _ (by omega) ⟨d + 1, by omega, by simp [va_up, h0], by simp [va_up, s2], by simp [va_up, s2], by simp [va_up], n5', w5⟩⟩
    · rw [if_neg c1] at s1 ⊢
      refine ⟨⟨0, hf4.x0⟩, e_pointsIfShifted n4.1 w4 hV (by omega) (by omega) (fun M5 n5 w5 => ?_)⟩
      have n5' := n4'.tr n5
      rw [s1] at s2
      rw [hp]
      by_cases c2 : (bsF P (2 * d)).2 < P ((d : Int) + 1)
      · rw [if_pos c2] at s2 ⊢
        exact ⟨r2, hW _ _ (by omega) ⟨d + 1, by omega, by simp [va_up, h0], by simp [va_up, s2], by simp [va_up, s2], by simp [va_up], n5', w5⟩⟩
      · rw [if_neg c2] at s2 ⊢
        exact ⟨r2, hW _ _ (by omega) ⟨d + 1, by omega, by simp [va_up, h0], by simp [va_up, h1, s2], by simp [va_up, h2, s2], by simp [va_up], n5', w5⟩⟩
  · rw [if_neg (by omega)]
    obtain rfl : d = 32 := by omega
    have hb := bsF_b (P := P) 64 (Nat.le_refl _)
    exact ⟨inR_s (show -1000000 ≤ (bsF P 64).1 + 32 by omega) (show (bsF P 64).1 + 32 ≤ 1000000 by omega), n3.2.1, hK M3 n3⟩
set_option maxRecDepth 20000 in
theorem c_worst (h : CI M A) (hV : A.now.V) (hK : ∀ M2, CN M M2 A → K (worV A.now) M2) : m_X6_worst [.inr (some 0)] K M := by
  have hf := h.fx
  have hn := hV.1.1
  obtain ⟨pb1, pb2⟩ := pcN_b hV.1
  unfold worV at hK
  have hc := cnt1_b hV.1 A.now.n (Nat.le_refl _)
  simp only [hf.x0, hf.r0, hf.r1, hf.r2, hf.r4, hf.r5, hf.r6, hf.r7, hf.s1.1, hf.s1.2.1, hf.s1.2.2.2.2.2.2.1, hf.s10.1, hf.s10.2.1, hf.s10.2.2.2.2.2.2.1, hf.s19.1, hf.x28, hf.x66, hf.r66, hf.x67, hf.x68, hf.jd.1, e_phraseCount h.nw.2.1 hV.1, m_X6_worst, mk0, B_X6_worst, iC, iL, iF, iA, iAc, iLen, iT, iAdd, iSub, iMul, iDiv, iRem, iNeg, iCh, iAnd31, iQ, iMax, iMin, iAbs, iCallS, iCallV, aN, aI, aR, rL, rF, rA, cEq, cNe, cLt, cGe, cGt, cLe, cAnd, cOr, cNot, cNull, sSkip, sSeq, sLoc, sLocR, sInc, sPut, sPutR, sPutAdd, sPutSub, sAst, sCst, sRst, sAstAdd, sAstSub, sIf1, sIf, sRet, sRetV, sCallV, sCallS, sPop, sCopy, sCopyT, sObj, sSw, iAddW, iMulW, iAndM, iShr, cQ, ent_0, ent_1, ent_2, ent_3, ent_4, ent_5, ent_6, va_up_self, va_up_ne, ne_eq, Nat.reduceEqDiff, not_false_eq_true, not_true_eq_false, si_1, si_2, si_g, sr_1, sr_2, cp_1, cp_2, List.length_cons, List.length_nil, Nat.reduceAdd, true_and, and_true, and_self, eq_self, true_implies, forall_const, Bool.false_eq_true, false_implies, or_true, true_or, Option.some.injEq, Prod.mk.injEq, exists_eq_left', exists_eq', exists_and_left, reduceIte, Int.reduceEq, Int.reduceNe]
  by_cases c0 : cnt1 A.now.D A.now.n = 0
  · rw [if_pos c0]
    have : pcN A.now.n A.now.D = 0 := by omega
    rw [this] at hK
    exact hK M h.rf
  · rw [if_neg c0]
    refine e_judge hf.jd h.nw (by decide) hV.1 hV.2.1 hV.2.2 (fun M2 p => ?_)
    have n2 := h.jd p.1
    have hf2 := n2.1.fx
    generalize hpp : (fun q : Nat => ofS A.now q 3) = pp at hK
    have hp : ∀ q : Nat, q < pcN A.now.n A.now.D → M2.2.1 78 q = pp q := fun q hq => by
      rw [← hpp]
      exact (p.2.2.1 q hq).2.1
    have w0 : wsF pp 1 = 0 := rfl
    refine while_n (n := pcN A.now.n A.now.D - 1) (fun r ρ M3 => M3 = M2 ∧ ∃ i : Nat, i + r = pcN A.now.n A.now.D ∧ 1 ≤ i ∧ ρ 0 = .inr (some 0) ∧ ρ 1 = .inl (cnt1 A.now.D A.now.n) ∧ ρ 2 = .inl (wsF pp i) ∧ ρ 3 = .inl (i : Int)) ?_ ⟨rfl, 1, by omega, by omega, by simp [va_up, ent_0], by simp [va_up], by simp [va_up, w0], by simp [va_up]⟩
    rintro r W hW ρ M3 ⟨rfl, i, hr, hi1, h0, h1, h2, h3⟩
    simp only [h0, h1, h2, h3, hf2.x0, hf2.r0, hf2.r1, hf2.r2, hf2.r4, hf2.r5, hf2.r6, hf2.r7, hf2.s1.1, hf2.s1.2.1, hf2.s1.2.2.2.2.2.2.1, hf2.s10.1, hf2.s10.2.1, hf2.s10.2.2.2.2.2.2.1, hf2.s19.1, hf2.x28, hf2.x66, hf2.r66, hf2.x67, hf2.x68, hf2.jd.1, iC, iL, iF, iA, iAc, iLen, iT, iAdd, iSub, iMul, iDiv, iRem, iNeg, iCh, iAnd31, iQ, iMax, iMin, iAbs, iCallS, iCallV, aN, aI, aR, rL, rF, rA, cEq, cNe, cLt, cGe, cGt, cLe, cAnd, cOr, cNot, cNull, sSkip, sSeq, sLoc, sLocR, sInc, sPut, sPutR, sPutAdd, sPutSub, sAst, sCst, sRst, sAstAdd, sAstSub, sIf1, sIf, sRet, sRetV, sCallV, sCallS, sPop, sCopy, sCopyT, sObj, sSw, iAddW, iMulW, iAndM, iShr, cQ, ent_0, ent_1, ent_2, ent_3, ent_4, ent_5, ent_6, va_up_self, va_up_ne, ne_eq, Nat.reduceEqDiff, not_false_eq_true, not_true_eq_false, si_1, si_2, si_g, sr_1, sr_2, cp_1, cp_2, List.length_cons, List.length_nil, Nat.reduceAdd, true_and, and_true, and_self, eq_self, true_implies, forall_const, Bool.false_eq_true, false_implies, or_true, true_or, Option.some.injEq, Prod.mk.injEq, exists_eq_left', exists_eq', exists_and_left, reduceIte, Int.reduceEq, Int.reduceNe]
    by_cases hi : i < pcN A.now.n A.now.D
    · rw [if_pos (by omega)]
      have hb := wsF_b pp i
      have ew : wsF pp i = (((wsF pp i).toNat : Nat) : Int) := by omega
      have r2 : inR ((i : Int) + 1) := inR_s (by omega) (by omega)
      have s1 : wsF pp (i + 1) = if wsF pp i = -5 ∨ pp i < pp (wsF pp i).toNat then (i : Int) else wsF pp i := rfl
      refine (e_phrasePointsOf hf2.jd (by omega : i < 40)).mpr ?_
      simp only [hf2.x0, hf2.r0, hf2.r1, hf2.r2, hf2.r4, hf2.r5, hf2.r6, hf2.r7, hf2.s1.1, hf2.s1.2.1, hf2.s1.2.2.2.2.2.2.1, hf2.s10.1, hf2.s10.2.1, hf2.s10.2.2.2.2.2.2.1, hf2.s19.1, hf2.x28, hf2.x66, hf2.r66, hf2.x67, hf2.x68, hf2.jd.1, ent_0, ent_1, ent_2, ent_3, ent_4, ent_5, ent_6, va_up_self, va_up_ne, ne_eq, Nat.reduceEqDiff, not_false_eq_true, not_true_eq_false, si_1, si_2, si_g, sr_1, sr_2, cp_1, cp_2, List.length_cons, List.length_nil, Nat.reduceAdd, true_and, and_true, and_self, eq_self, true_implies, forall_const, Bool.false_eq_true, false_implies, or_true, true_or, Option.some.injEq, Prod.mk.injEq, exists_eq_left', exists_eq', exists_and_left, reduceIte, Int.reduceEq, Int.reduceNe]
      rw [ew]
      refine (e_phrasePointsOf hf2.jd (by omega : (wsF pp i).toNat < 40)).mpr ?_
      rw [hp i hi, hp _ (by omega)]
      by_cases c : pp i < pp (wsF pp i).toNat
      · rw [if_pos c]
        rw [if_pos (.inr c)] at s1
        exact ⟨r2, hW _ _ (by omega) ⟨rfl, i + 1, by omega, by omega, by simp [va_up, h0], by simp [va_up, h1], by simp [va_up, s1], by simp [va_up]⟩⟩
      · rw [if_neg c]
        rw [if_neg (by omega)] at s1
        exact ⟨r2, hW _ _ (by omega) ⟨rfl, i + 1, by omega, by omega, by simp [va_up, h0], by simp [va_up, h1], by simp [va_up, h2, s1], by simp [va_up]⟩⟩
    · rw [if_neg (by omega)]
      obtain rfl : i = pcN A.now.n A.now.D := by omega
      exact ⟨n2.2.1, hK _ n2⟩
end CQRY4
