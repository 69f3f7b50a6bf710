def undR (A : Ab) : Int × Ab := if A.c = 0 then (-5, A) else ((A.c : Int) - 1, (A.hs (A.c - 1), A.c - 1, A.hs, A.f, A.sn, A.tl, A.tc))
section COPS3
variable {K : Int → Mm → Prop} {M : Mm} {A : Ab}
theorem cpT_now {M : Mm} {A : Ab} {o : Nat} {S : Sg} (h : CI M A) (ho : SSg M o S) (hos : 9 < o) : CN M (cpT M 1 o) (setN A S) := by
  have hf : Fx (cpT M 1 o) := h.fx.fr' rfl rfl
  exact ⟨CI_setN h hf (fun k => rfl) (fun q j hq => cpT_o (by omega)) (SS_cpT h.fx.s1 ho (by omega)), rfl, fun q j hq => cpT_o (by omega)⟩
theorem CI.count {M : Mm} {A : Ab} {k : Nat} (h : CI M A) (hk : k ≤ A.c) : CN M (si M 28 1 k) (A.now, k, A.hs, A.f, A.sn, A.tl, A.tc) := by
  have hf : Fx (si M 28 1 k) := h.fx.fr' rfl rfl
  have o2 : ∀ q j, ¬ (q = 28 ∧ j = 1) → (si M 28 1 k).2.1 q j = M.2.1 q j := fun q j hq2 => by rw [si_g, if_neg hq2]
  refine ⟨?_, rfl, fun q j hq => o2 q j (by omega)⟩
  apply CI.mk
  case fx => exact hf
  case c4 => exact Nat.le_trans hk h.c4
  case nw => exact SSg_fr h.nw hf.s1 (fun q j _ _ => o2 q j (by omega))
  case cn => rw [si_g, if_pos ⟨rfl, rfl⟩]; rfl
  case hs =>
    obtain ⟨b, hb, h6, h4⟩ := h.hs
    refine ⟨b, hb, h6, fun i hi => ?_⟩
    have hi2 : i < k := hi
    obtain ⟨h6, h7⟩ := hf.b hb (by have := h.c4; omega : i < 4)
    exact SSg_fr (h4 i (by omega)) h6 (fun q j _ _ => o2 q j (by omega))
  case fl => rw [o2 _ _ (by decide)]; exact h.fl
  case sn => exact fun e => SSg_fr (h.sn e) hf.s19 (fun q j _ _ => o2 q j (by omega))
  case tl => rw [o2 _ _ (by decide)]; exact h.tl
  case tc => exact fun i hi => by rw [o2 _ _ (by omega)]; exact h.tc i hi
set_option maxRecDepth 20000 in
theorem c_undo (h : CI M A) (hK : ∀ M2, CN M M2 (undR A).2 → K (undR A).1 M2) : m_X6_undo [.inr (some 0)] K M := by
  have hf := h.fx
  have h4 := h.c4
  unfold undR at hK
  simp only [hf.x0, hf.r0, hf.r1, hf.r2, hf.r4, hf.r5, hf.r6, hf.r7, hf.s1.1, hf.s1.2.1, hf.s1.2.2.2.2.2.2.1, hf.s10.1, hf.s10.2.1, hf.s10.2.2.2.2.2.2.1, hf.s19.1, hf.x28, hf.x66, hf.r66, hf.x67, hf.x68, hf.jd.1, h.cn, m_X6_undo, mk0, B_X6_undo, iC, iL, iF, iA, iAc, iLen, iT, iAdd, iSub, iMul, iDiv, iRem, iNeg, iCh, iAnd31, iQ, iMax, iMin, iAbs, iCallS, iCallV, aN, aI, aR, rL, rF, rA, cEq, cNe, cLt, cGe, cGt, cLe, cAnd, cOr, cNot, cNull, sSkip, sSeq, sLoc, sLocR, sInc, sPut, sPutR, sPutAdd, sPutSub, sAst, sCst, sRst, sAstAdd, sAstSub, sIf1, sIf, sRet, sRetV, sCallV, sCallS, sPop, sCopy, sCopyT, sObj, sSw, iAddW, iMulW, iAndM, iShr, cQ, ent_0, ent_1, ent_2, ent_3, ent_4, ent_5, ent_6, va_up_self, va_up_ne, ne_eq, Nat.reduceEqDiff, not_false_eq_true, not_true_eq_false, si_1, si_2, si_g, sr_1, sr_2, cp_1, cp_2, List.length_cons, List.length_nil, Nat.reduceAdd, true_and, and_true, and_self, eq_self, true_implies, forall_const, Bool.false_eq_true, false_implies, or_true, true_or, Option.some.injEq, Prod.mk.injEq, exists_eq_left', exists_eq', exists_and_left, reduceIte, Int.reduceEq, Int.reduceNe, m_X0_size, B_X0_size]
  by_cases c : A.c = 0
  · simp only [c, if_true] at hK
    rw [if_pos (by omega)]
    exact hK M h.rf
  · simp only [c, if_false] at hK
    rw [if_neg (by omega)]
    obtain ⟨b, hb, h29, h6⟩ := h.hs
    have c0 : (1 : Int) ≤ A.c ∧ (A.c : Int) ≤ 4 := by omega
    have e1 : (A.c : Int) - 1 = ((A.c - 1 : Nat) : Int) := by omega
    have c1 : (0 : Int) ≤ ((A.c - 1 : Nat) : Int) := by omega
    have c2 : ((A.c - 1 : Nat) : Int) < (4 : Nat) := by omega
    have r1 : inR ((A.c - 1 : Nat) : Int) := inR_s (by omega) (by omega)
    have p1 := (hf.b hb (by omega : A.c - 1 < 4)).1.1
    simp only [hf.x0, hf.r0, hf.r1, hf.r2, hf.r4, hf.r5, hf.r6, hf.r7, hf.s1.1, hf.s1.2.1, hf.s1.2.2.2.2.2.2.1, hf.s10.1, hf.s10.2.1, hf.s10.2.2.2.2.2.2.1, hf.s19.1, hf.x28, hf.x66, hf.r66, hf.x67, hf.x68, hf.jd.1, h.cn, hf.x29, hf.r28, e_isWithin, c0, c1, c2, e1, r1, Int.toNat_natCast, h29 (A.c - 1) (by omega), m_X0_takeBackInto, mk0, B_X0_takeBackInto, iC, iL, iF, iA, iAc, iLen, iT, iAdd, iSub, iMul, iDiv, iRem, iNeg, iCh, iAnd31, iQ, iMax, iMin, iAbs, iCallS, iCallV, aN, aI, aR, rL, rF, rA, cEq, cNe, cLt, cGe, cGt, cLe, cAnd, cOr, cNot, cNull, sSkip, sSeq, sLoc, sLocR, sInc, sPut, sPutR, sPutAdd, sPutSub, sAst, sCst, sRst, sAstAdd, sAstSub, sIf1, sIf, sRet, sRetV, sCallV, sCallS, sPop, sCopy, sCopyT, sObj, sSw, iAddW, iMulW, iAndM, iShr, cQ, ent_0, ent_1, ent_2, ent_3, ent_4, ent_5, ent_6, va_up_self, va_up_ne, ne_eq, Nat.reduceEqDiff, not_false_eq_true, not_true_eq_false, si_1, si_2, si_g, sr_1, sr_2, cp_1, cp_2, List.length_cons, List.length_nil, Nat.reduceAdd, true_and, and_true, and_self, eq_self, true_implies, forall_const, Bool.false_eq_true, false_implies, or_true, true_or, Option.some.injEq, Prod.mk.injEq, exists_eq_left', exists_eq', exists_and_left, reduceIte, Int.reduceEq, Int.reduceNe]
    have n1 := h.count (k := A.c - 1) (by omega)
    have hf1 := n1.1.fx
    have hs1 : SSg (si M 28 1 ((A.c - 1 : Nat) : Int)) (b (A.c - 1)) (A.hs (A.c - 1)) := SSg_fr (h6 _ (by omega)) (hf1.b hb (by omega)).1 (fun q j _ _ => by
      have := hb.1 (A.c - 1) (by omega)
      rw [si_g, if_neg (by omega)])
    refine e_copyState hf1.s1 (hf1.b hb (by omega : A.c - 1 < 4)).1 (by have := hb.1 (A.c - 1) (by omega); omega) ?_
    have n2 := cpT_now n1.1 hs1 (by have := hb.1 (A.c - 1) (by omega); omega)
    have hf2 := n2.1.fx
    generalize cpT (si M 28 1 ((A.c - 1 : Nat) : Int)) 1 (b (A.c - 1)) = M3 at n2 hf2 ⊢
    have ecn : M3.2.1 28 1 = ((A.c - 1 : Nat) : Int) := n2.1.cn
    simp only [hf2.x0, hf2.r0, hf2.r1, hf2.r2, hf2.r4, hf2.r5, hf2.r6, hf2.r7, hf2.s1.1, hf2.s1.2.1, hf2.s1.2.2.2.2.2.2.1, hf2.s10.1, hf2.s10.2.1, hf2.s10.2.2.2.2.2.2.1, hf2.s19.1, hf2.x28, hf2.x66, hf2.r66, hf2.x67, hf2.x68, hf2.jd.1, ecn, ent_0, ent_1, ent_2, ent_3, ent_4, ent_5, ent_6, va_up_self, va_up_ne, ne_eq, Nat.reduceEqDiff, not_false_eq_true, not_true_eq_false, si_1, si_2, si_g, sr_1, sr_2, cp_1, cp_2, List.length_cons, List.length_nil, Nat.reduceAdd, true_and, and_true, and_self, eq_self, true_implies, forall_const, Bool.false_eq_true, false_implies, or_true, true_or, Option.some.injEq, Prod.mk.injEq, exists_eq_left', exists_eq', exists_and_left, reduceIte, Int.reduceEq, Int.reduceNe]
    refine ⟨by rw [n2.2.1, n1.2.1], by rw [n2.2.1, n1.2.1], ?_⟩
    have := hK _ (n1.tr n2)
    rw [e1] at this
    exact this
end COPS3
