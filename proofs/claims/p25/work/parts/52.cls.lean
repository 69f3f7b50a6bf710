def setN (A : Ab) (S : Sg) : Ab := (S, A.2)
def CN (M M2 : Mm) (A : Ab) : Prop := CI M2 A ∧ M2.1 = M.1 ∧ Ux M M2
theorem Ux.rf (M : Mm) : Ux M M := fun _ _ _ => rfl
theorem CN.tr {M M2 M3 : Mm} {A B : Ab} (h : CN M M2 A) (h2 : CN M2 M3 B) : CN M M3 B := ⟨h2.1, by rw [h2.2.1, h.2.1], h.2.2.tr h2.2.2⟩
theorem CI.rf {M : Mm} {A : Ab} (h : CI M A) : CN M M A := ⟨h, rfl, Ux.rf M⟩
theorem CI_setN {M M2 : Mm} {A : Ab} {S : Sg} (h : CI M A) (hf : Fx M2) (h2 : ∀ k, M2.2.2 29 k = M.2.2 29 k) (h1 : ∀ q j, q ≤ 1 ∨ (19 ≤ q ∧ q ≤ 67) → M2.2.1 q j = M.2.1 q j) (hs : SSg M2 1 S) : CI M2 (setN A S) := by
  apply CI.mk
  case fx => exact hf
  case c4 => exact h.c4
  case nw => exact hs
  case cn => rw [h1 _ _ (by decide)]; exact h.cn
  case hs =>
    obtain ⟨b, hb, h3, h4⟩ := h.hs
    refine ⟨b, hb, fun i hi => by rw [h2]; exact h3 i hi, fun i hi => ?_⟩
    have hi2 : i < A.c := hi
    obtain ⟨h6, h7⟩ := hf.b hb (by have := h.c4; omega : i < 4)
    exact SSg_fr (h4 i hi) h6 (fun q j _ _ => h1 q j (by omega))
  case fl => rw [h1 _ _ (by decide)]; exact h.fl
  case sn => exact fun e => SSg_fr (h.sn e) hf.s19 (fun q j _ _ => h1 q j (by omega))
  case tl => rw [h1 _ _ (by decide)]; exact h.tl
  case tc => exact fun i hi => by rw [h1 _ _ (by decide)]; exact h.tc i hi
def hitsA (S : Sg) : Int := sm (fun k => if rsV S.D S.st S.sg k = 0 then 1 else 0) S.n
def ptsV (n : Nat) (D : Nat → Nat → Int) (st sg : Nat → Int) : Int := sm (fun p => pP D (ptW D (shV D st sg) (hlF D st sg) (onF D st sg) (rsV D st sg)) (p : Nat) n + exP n D (rsV D st sg) (p : Nat)) (pcN n D)
section CLS
variable {K : Int → Mm → Prop} {M : Mm} {A : Ab}
theorem e_isSetting {v : Int} : m_X6_isSetting [.inl v] K M ↔ K (if 0 ≤ v ∧ v ≤ 4 then 1 else 0) M := by
  by_cases c : 0 ≤ v ∧ v ≤ 4 <;> simp [m_X6_isSetting, mk0, B_X6_isSetting, iC, iL, iF, iA, iAc, iLen, iT, iAdd, iSub, iMul, iDiv, iRem, iNeg, iCh, iAnd31, iQ, iMax, iMin, iAbs, iCallS, iCallV, aN, aI, aR, rL, rF, rA, cEq, cNe, cLt, cGe, cGt, cLe, cAnd, cOr, cNot, cNull, sSkip, sSeq, sLoc, sLocR, sInc, sPut, sPutR, sPutAdd, sPutSub, sAst, sCst, sRst, sAstAdd, sAstSub, sIf1, sIf, sRet, sRetV, sCallV, sCallS, sPop, sCopy, sCopyT, sObj, sSw, iAddW, iMulW, iAndM, iShr, cQ, ent, va_up, si_1, si_2, si_g, sr_1, sr_2, cp_1, cp_2, e_isWithin, c]
def lo (j : Int) : Int := if j = 0 then 2 else if j = 4 then 1 else 0
def hi (j : Int) : Int := if j = 0 then 64 else if j = 1 then 6 else if j = 2 then 8 else if j = 3 then 1 else 100
theorem e_isValueOf {j v : Int} : m_X6_isValueOf [.inl j, .inl v] K M ↔ K (if (0 ≤ j ∧ j ≤ 4) ∧ lo j ≤ v ∧ v ≤ hi j then 1 else 0) M := by
  have l1 : tLn 0 1 = 5 := rfl
  have l2 : tLn 0 2 = 5 := rfl
  simp only [m_X6_isValueOf, mk0, B_X6_isValueOf, iC, iL, iF, iA, iAc, iLen, iT, iAdd, iSub, iMul, iDiv, iRem, iNeg, iCh, iAnd31, iQ, iMax, iMin, iAbs, iCallS, iCallV, aN, aI, aR, rL, rF, rA, cEq, cNe, cLt, cGe, cGt, cLe, cAnd, cOr, cNot, cNull, sSkip, sSeq, sLoc, sLocR, sInc, sPut, sPutR, sPutAdd, sPutSub, sAst, sCst, sRst, sAstAdd, sAstSub, sIf1, sIf, sRet, sRetV, sCallV, sCallS, sPop, sCopy, sCopyT, sObj, sSw, iAddW, iMulW, iAndM, iShr, cQ, ent_0, ent_1, ent_2, ent_3, ent_4, ent_5, ent_6, va_up_self, va_up_ne, ne_eq, Nat.reduceEqDiff, not_false_eq_true, not_true_eq_false, si_1, si_2, si_g, sr_1, sr_2, cp_1, cp_2, List.length_cons, List.length_nil, Nat.reduceAdd, true_and, and_true, and_self, eq_self, true_implies, forall_const, Bool.false_eq_true, false_implies, or_true, true_or, Option.some.injEq, Prod.mk.injEq, exists_eq_left', exists_eq', exists_and_left, reduceIte, Int.reduceEq, Int.reduceNe, e_isSetting, e_isWithin, l1, l2]
  by_cases c : 0 ≤ j ∧ j ≤ 4
  · have c5 : j < (5 : Nat) := by omega
    have v1 : tVl (fun _ => 0) 1 j.toNat = lo j := by
      have : j = 0 ∨ j = 1 ∨ j = 2 ∨ j = 3 ∨ j = 4 := by omega
      rcases this with e | e | e | e | e <;> subst e <;> rfl
    have v2 : tVl (fun _ => 0) 2 j.toNat = hi j := by
      have : j = 0 ∨ j = 1 ∨ j = 2 ∨ j = 3 ∨ j = 4 := by omega
      rcases this with e | e | e | e | e <;> subst e <;> rfl
    rw [v1, v2]
    by_cases d : lo j ≤ v ∧ v ≤ hi j <;> simp [c, c5, d] <;> exact fun _ => by omega
  · simp [c]
theorem e_areTicks {t c m : Int} (hm : m ≤ 600) : m_X6_areTicks [.inl t, .inl c, .inl m] K M ↔ K (if (0 ≤ t ∧ t ≤ 599) ∧ (1 ≤ c ∧ c ≤ m) ∧ t + c ≤ 600 then 1 else 0) M := by
  simp only [m_X6_areTicks, mk0, B_X6_areTicks, iC, iL, iF, iA, iAc, iLen, iT, iAdd, iSub, iMul, iDiv, iRem, iNeg, iCh, iAnd31, iQ, iMax, iMin, iAbs, iCallS, iCallV, aN, aI, aR, rL, rF, rA, cEq, cNe, cLt, cGe, cGt, cLe, cAnd, cOr, cNot, cNull, sSkip, sSeq, sLoc, sLocR, sInc, sPut, sPutR, sPutAdd, sPutSub, sAst, sCst, sRst, sAstAdd, sAstSub, sIf1, sIf, sRet, sRetV, sCallV, sCallS, sPop, sCopy, sCopyT, sObj, sSw, iAddW, iMulW, iAndM, iShr, cQ, ent_0, ent_1, ent_2, ent_3, ent_4, ent_5, ent_6, va_up_self, va_up_ne, ne_eq, Nat.reduceEqDiff, not_false_eq_true, not_true_eq_false, si_1, si_2, si_g, sr_1, sr_2, cp_1, cp_2, List.length_cons, List.length_nil, Nat.reduceAdd, true_and, and_true, and_self, eq_self, true_implies, forall_const, Bool.false_eq_true, false_implies, or_true, true_or, Option.some.injEq, Prod.mk.injEq, exists_eq_left', exists_eq', exists_and_left, reduceIte, Int.reduceEq, Int.reduceNe, e_isWithin]
  by_cases c1 : 0 ≤ t ∧ t ≤ 599
  · by_cases c2 : 1 ≤ c ∧ c ≤ m
    · have r : inR (t + c) := inR_s (by omega) (by omega)
      by_cases c3 : t + c ≤ 600
      · simp [c1, c2, c3, r]
      · simp [c1, c2, c3, r]
    · simp only [c1, c2, if_true, if_false, ent_0, ent_1, ent_2, ent_3, ent_4, ent_5, ent_6, va_up_self, va_up_ne, ne_eq, Nat.reduceEqDiff, not_false_eq_true, not_true_eq_false, si_1, si_2, si_g, sr_1, sr_2, cp_1, cp_2, List.length_cons, List.length_nil, Nat.reduceAdd, true_and, and_true, and_self, eq_self, true_implies, forall_const, Bool.false_eq_true, false_implies, or_true, true_or, Option.some.injEq, Prod.mk.injEq, exists_eq_left', exists_eq', exists_and_left, reduceIte, Int.reduceEq, Int.reduceNe]
      simp
  · simp only [c1, if_true, if_false, ent_0, ent_1, ent_2, ent_3, ent_4, ent_5, ent_6, va_up_self, va_up_ne, ne_eq, Nat.reduceEqDiff, not_false_eq_true, not_true_eq_false, si_1, si_2, si_g, sr_1, sr_2, cp_1, cp_2, List.length_cons, List.length_nil, Nat.reduceAdd, true_and, and_true, and_self, eq_self, true_implies, forall_const, Bool.false_eq_true, false_implies, or_true, true_or, Option.some.injEq, Prod.mk.injEq, exists_eq_left', exists_eq', exists_and_left, reduceIte, Int.reduceEq, Int.reduceNe]
    simp
set_option maxRecDepth 20000 in
theorem e_hitsNow (h : CI M A) (hV : A.now.V) (hK : ∀ M2, CN M M2 A → K (hitsA A.now) M2) : m_X6_hitsNow [.inr (some 0)] K M := by
  have hf := h.fx
  simp only [hf.x0, hf.r0, hf.r7, hf.jd.1, m_X6_hitsNow, mk0, B_X6_hitsNow, iC, iL, iF, iA, iAc, iLen, iT, iAdd, iSub, iMul, iDiv, iRem, iNeg, iCh, iAnd31, iQ, iMax, iMin, iAbs, iCallS, iCallV, aN, aI, aR, rL, rF, rA, cEq, cNe, cLt, cGe, cGt, cLe, cAnd, cOr, cNot, cNull, sSkip, sSeq, sLoc, sLocR, sInc, sPut, sPutR, sPutAdd, sPutSub, sAst, sCst, sRst, sAstAdd, sAstSub, sIf1, sIf, sRet, sRetV, sCallV, sCallS, sPop, sCopy, sCopyT, sObj, sSw, iAddW, iMulW, iAndM, iShr, cQ, ent_0, ent_1, ent_2, ent_3, ent_4, ent_5, ent_6, va_up_self, va_up_ne, ne_eq, Nat.reduceEqDiff, not_false_eq_true, not_true_eq_false, si_1, si_2, si_g, sr_1, sr_2, cp_1, cp_2, List.length_cons, List.length_nil, Nat.reduceAdd, true_and, and_true, and_self, eq_self, true_implies, forall_const, Bool.false_eq_true, false_implies, or_true, true_or, Option.some.injEq, Prod.mk.injEq, exists_eq_left', exists_eq', exists_and_left, reduceIte, Int.reduceEq, Int.reduceNe]
  refine e_judge hf.jd h.nw (by decide) hV.1 hV.2.1 hV.2.2 (fun M2 p => ?_)
  have hf2 : Fx M2 := hf.fr' p.1.1 p.1.2.1
  simp only [hf2.x0, hf2.r7, hf2.jd.1, ent_0, ent_1, ent_2, ent_3, ent_4, ent_5, ent_6, va_up_self, va_up_ne, ne_eq, Nat.reduceEqDiff, not_false_eq_true, not_true_eq_false, si_1, si_2, si_g, sr_1, sr_2, cp_1, cp_2, List.length_cons, List.length_nil, Nat.reduceAdd, true_and, and_true, and_self, eq_self, true_implies, forall_const, Bool.false_eq_true, false_implies, or_true, true_or, Option.some.injEq, Prod.mk.injEq, exists_eq_left', exists_eq', exists_and_left, reduceIte, Int.reduceEq, Int.reduceNe]
  refine ⟨p.1.1, ?_⟩
  rw [p.2.2.2.1, hits_sum hV.1]
  exact hK M2 ⟨h.fr hf2 (fun k => by rw [p.1.2.1]) (fun q j hq => p.1.2.2 q j (by omega)), p.1.1, fun q j hq => p.1.2.2 q j (by omega)⟩
set_option maxRecDepth 20000 in
theorem e_pointsOfS {s : Nat} {S : Sg} (h : CI M A) (hs : SSg M s S) (hs2 : s + 8 < 69) (hV : S.V) (hK : ∀ M2, CN M M2 A → (∀ q j, q < 69 ∨ 79 < q → M2.2.1 q j = M.2.1 q j) → K (ptsV S.n S.D S.st S.sg) M2) : m_X6_pointsOf [.inr (some 0), .inr (some s)] K M := by
  have hf := h.fx
  simp only [hf.x0, hf.r0, hf.r7, hf.jd.1, m_X6_pointsOf, mk0, B_X6_pointsOf, iC, iL, iF, iA, iAc, iLen, iT, iAdd, iSub, iMul, iDiv, iRem, iNeg, iCh, iAnd31, iQ, iMax, iMin, iAbs, iCallS, iCallV, aN, aI, aR, rL, rF, rA, cEq, cNe, cLt, cGe, cGt, cLe, cAnd, cOr, cNot, cNull, sSkip, sSeq, sLoc, sLocR, sInc, sPut, sPutR, sPutAdd, sPutSub, sAst, sCst, sRst, sAstAdd, sAstSub, sIf1, sIf, sRet, sRetV, sCallV, sCallS, sPop, sCopy, sCopyT, sObj, sSw, iAddW, iMulW, iAndM, iShr, cQ, ent_0, ent_1, ent_2, ent_3, ent_4, ent_5, ent_6, va_up_self, va_up_ne, ne_eq, Nat.reduceEqDiff, not_false_eq_true, not_true_eq_false, si_1, si_2, si_g, sr_1, sr_2, cp_1, cp_2, List.length_cons, List.length_nil, Nat.reduceAdd, true_and, and_true, and_self, eq_self, true_implies, forall_const, Bool.false_eq_true, false_implies, or_true, true_or, Option.some.injEq, Prod.mk.injEq, exists_eq_left', exists_eq', exists_and_left, reduceIte, Int.reduceEq, Int.reduceNe]
  refine e_judge hf.jd hs hs2 hV.1 hV.2.1 hV.2.2 (fun M2 p => ?_)
  have hf2 : Fx M2 := hf.fr' p.1.1 p.1.2.1
  simp only [hf2.x0, hf2.r7, hf2.jd.1, ent_0, ent_1, ent_2, ent_3, ent_4, ent_5, ent_6, va_up_self, va_up_ne, ne_eq, Nat.reduceEqDiff, not_false_eq_true, not_true_eq_false, si_1, si_2, si_g, sr_1, sr_2, cp_1, cp_2, List.length_cons, List.length_nil, Nat.reduceAdd, true_and, and_true, and_self, eq_self, true_implies, forall_const, Bool.false_eq_true, false_implies, or_true, true_or, Option.some.injEq, Prod.mk.injEq, exists_eq_left', exists_eq', exists_and_left, reduceIte, Int.reduceEq, Int.reduceNe]
  refine ⟨p.1.1, ?_⟩
  rw [p.2.2.2.2]
  exact hK M2 ⟨h.fr hf2 (fun k => by rw [p.1.2.1]) (fun q j hq => p.1.2.2 q j (by omega)), p.1.1, fun q j hq => p.1.2.2 q j (by omega)⟩ p.1.2.2
set_option maxRecDepth 20000 in
theorem e_mostPoints (h : CI M A) (hV : A.now.V) (hK : ∀ M2, CN M M2 A → K (perfPts A.now.n A.now.D (A.now.st 0)) M2) : m_X6_mostPoints [.inr (some 0)] K M := by
  have hf := h.fx
  simp only [hf.x0, hf.r0, hf.r7, hf.jd.1, m_X6_mostPoints, mk0, B_X6_mostPoints, iC, iL, iF, iA, iAc, iLen, iT, iAdd, iSub, iMul, iDiv, iRem, iNeg, iCh, iAnd31, iQ, iMax, iMin, iAbs, iCallS, iCallV, aN, aI, aR, rL, rF, rA, cEq, cNe, cLt, cGe, cGt, cLe, cAnd, cOr, cNot, cNull, sSkip, sSeq, sLoc, sLocR, sInc, sPut, sPutR, sPutAdd, sPutSub, sAst, sCst, sRst, sAstAdd, sAstSub, sIf1, sIf, sRet, sRetV, sCallV, sCallS, sPop, sCopy, sCopyT, sObj, sSw, iAddW, iMulW, iAndM, iShr, cQ, ent_0, ent_1, ent_2, ent_3, ent_4, ent_5, ent_6, va_up_self, va_up_ne, ne_eq, Nat.reduceEqDiff, not_false_eq_true, not_true_eq_false, si_1, si_2, si_g, sr_1, sr_2, cp_1, cp_2, List.length_cons, List.length_nil, Nat.reduceAdd, true_and, and_true, and_self, eq_self, true_implies, forall_const, Bool.false_eq_true, false_implies, or_true, true_or, Option.some.injEq, Prod.mk.injEq, exists_eq_left', exists_eq', exists_and_left, reduceIte, Int.reduceEq, Int.reduceNe]
  refine e_judgePerfect hf.jd h.nw (by decide) hV.1 hV.2.1 (fun M2 p1 p2 => ?_)
  have hf2 : Fx M2 := hf.fr' p1.1 p1.2.1
  simp only [hf2.x0, hf2.r7, hf2.jd.1, ent_0, ent_1, ent_2, ent_3, ent_4, ent_5, ent_6, va_up_self, va_up_ne, ne_eq, Nat.reduceEqDiff, not_false_eq_true, not_true_eq_false, si_1, si_2, si_g, sr_1, sr_2, cp_1, cp_2, List.length_cons, List.length_nil, Nat.reduceAdd, true_and, and_true, and_self, eq_self, true_implies, forall_const, Bool.false_eq_true, false_implies, or_true, true_or, Option.some.injEq, Prod.mk.injEq, exists_eq_left', exists_eq', exists_and_left, reduceIte, Int.reduceEq, Int.reduceNe]
  refine ⟨p1.1, ?_⟩
  rw [p2]
  exact hK M2 ⟨h.fr hf2 (fun k => by rw [p1.2.1]) (fun q j hq => p1.2.2 q j (by omega)), p1.1, fun q j hq => p1.2.2 q j (by omega)⟩
/-- would holds the song and the settings of now -/
def WI (M : Mm) (A : Ab) : Prop := ∃ sg, SS M 10 A.now.n A.now.D A.now.st sg
set_option maxRecDepth 20000 in
theorem e_pointsIfShifted {tt y : Int} (h : CI M A) (hw : WI M A) (hV : A.now.V) (ht : -32 ≤ tt ∧ tt ≤ 32) (hy : -60 ≤ y ∧ y ≤ 60) (hK : ∀ M2, CN M M2 A → WI M2 A → K (ptsV A.now.n A.now.D A.now.st (shF A.now.sg tt y)) M2) : m_X6_pointsIfShifted [.inr (some 0), .inl tt, .inl y] K M := by
  have hf := h.fx
  obtain ⟨sg0, hw⟩ := hw
  simp only [hf.x0, hf.r0, hf.r1, hf.r7, hf.s10.1, m_X6_pointsIfShifted, mk0, B_X6_pointsIfShifted, iC, iL, iF, iA, iAc, iLen, iT, iAdd, iSub, iMul, iDiv, iRem, iNeg, iCh, iAnd31, iQ, iMax, iMin, iAbs, iCallS, iCallV, aN, aI, aR, rL, rF, rA, cEq, cNe, cLt, cGe, cGt, cLe, cAnd, cOr, cNot, cNull, sSkip, sSeq, sLoc, sLocR, sInc, sPut, sPutR, sPutAdd, sPutSub, sAst, sCst, sRst, sAstAdd, sAstSub, sIf1, sIf, sRet, sRetV, sCallV, sCallS, sPop, sCopy, sCopyT, sObj, sSw, iAddW, iMulW, iAndM, iShr, cQ, ent_0, ent_1, ent_2, ent_3, ent_4, ent_5, ent_6, va_up_self, va_up_ne, ne_eq, Nat.reduceEqDiff, not_false_eq_true, not_true_eq_false, si_1, si_2, si_g, sr_1, sr_2, cp_1, cp_2, List.length_cons, List.length_nil, Nat.reduceAdd, true_and, and_true, and_self, eq_self, true_implies, forall_const, Bool.false_eq_true, false_implies, or_true, true_or, Option.some.injEq, Prod.mk.injEq, exists_eq_left', exists_eq', exists_and_left, reduceIte, Int.reduceEq, Int.reduceNe]
  refine e_voiceShifted hf.s10 h.nw hV.2.2 (by decide) ht hy ?_
  have hs2 : SS (sa M (10 + 8) (fun t => if t < 600 then shF A.now.sg tt y t else M.2.1 (10 + 8) t)) 10 A.now.n A.now.D A.now.st (shF A.now.sg tt y) := SS_sg hw (fun t ht => if_pos ht)
  have hf1 : Fx (sa M (10 + 8) (fun t => if t < 600 then shF A.now.sg tt y t else M.2.1 (10 + 8) t)) := hf.fr' rfl rfl
  have h1 : CI (sa M (10 + 8) (fun t => if t < 600 then shF A.now.sg tt y t else M.2.1 (10 + 8) t)) A := h.fr hf1 (fun k => rfl) (fun q j hq => by rw [sa_g, if_neg (by omega)])
  have u1 : Ux M (sa M (10 + 8) (fun t => if t < 600 then shF A.now.sg tt y t else M.2.1 (10 + 8) t)) := fun q j hq => by rw [sa_g, if_neg (by omega)]
  have q1 : (sa M (10 + 8) (fun t => if t < 600 then shF A.now.sg tt y t else M.2.1 (10 + 8) t)).1 = M.1 := rfl
  generalize sa M (10 + 8) (fun t => if t < 600 then shF A.now.sg tt y t else M.2.1 (10 + 8) t) = M1 at hs2 hf1 h1 u1 q1 ⊢
  simp only [hf1.x0, hf1.r1, hf1.r7, hf1.jd.1, ent_0, ent_1, ent_2, ent_3, ent_4, ent_5, ent_6, va_up_self, va_up_ne, ne_eq, Nat.reduceEqDiff, not_false_eq_true, not_true_eq_false, si_1, si_2, si_g, sr_1, sr_2, cp_1, cp_2, List.length_cons, List.length_nil, Nat.reduceAdd, true_and, and_true, and_self, eq_self, true_implies, forall_const, Bool.false_eq_true, false_implies, or_true, true_or, Option.some.injEq, Prod.mk.injEq, exists_eq_left', exists_eq', exists_and_left, reduceIte, Int.reduceEq, Int.reduceNe]
  refine e_judge hf1.jd hs2 (by decide) hV.1 hV.2.1 (VG_sh _ _ _) (fun M2 p => ?_)
  have hf2 : Fx M2 := hf1.fr' p.1.1 p.1.2.1
  simp only [hf2.x0, hf2.r7, hf2.jd.1, ent_0, ent_1, ent_2, ent_3, ent_4, ent_5, ent_6, va_up_self, va_up_ne, ne_eq, Nat.reduceEqDiff, not_false_eq_true, not_true_eq_false, si_1, si_2, si_g, sr_1, sr_2, cp_1, cp_2, List.length_cons, List.length_nil, Nat.reduceAdd, true_and, and_true, and_self, eq_self, true_implies, forall_const, Bool.false_eq_true, false_implies, or_true, true_or, Option.some.injEq, Prod.mk.injEq, exists_eq_left', exists_eq', exists_and_left, reduceIte, Int.reduceEq, Int.reduceNe]
  refine ⟨by rw [p.1.1, q1], ?_⟩
  rw [p.2.2.2.2]
  exact hK M2 ⟨h1.fr hf2 (fun k => by rw [p.1.2.1]) (fun q j hq => p.1.2.2 q j (by omega)), by rw [p.1.1, q1], u1.tr (fun q j hq => p.1.2.2 q j (by omega))⟩ ⟨_, SS_fr hs2 p.1.1 p.1.2.1 (fun q j _ _ => p.1.2.2 q j (by omega))⟩
end CLS
