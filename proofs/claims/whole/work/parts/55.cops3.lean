def typR (A : Ab) (ch : Int) : Int × Ab := if A.tl = 60 then (-3, A) else ((A.tl : Int) + 1, (A.now, A.c, A.hs, A.f, A.sn, A.tl + 1, fun i => if i = A.tl then ch else A.tc i))
def clrR (A : Ab) : Int × Ab := (A.tl, (A.now, A.c, A.hs, A.f, A.sn, 0, A.tc))
def undR (A : Ab) : Int × Ab := if A.c = 0 then (-5, A) else ((A.c : Int) - 1, (A.hs (A.c - 1), A.c - 1, A.hs, A.f, A.sn, A.tl, A.tc))
def keeR (A : Ab) : Int × Ab := (A.now.n, (A.now, A.c, A.hs, 1, A.now, A.tl, A.tc))
def resR (A : Ab) : Int × Ab := if A.f = 0 then (-5, A) else (A.sn.n, setN (recA A) A.sn)
section COPS3
variable {K : Int → Mm → Prop} {M : Mm} {A : Ab}
/-- when only the text's cells change -/
theorem CI.text {M M2 : Mm} {A : Ab} {n : Nat} {g : Nat → Int} (h : CI M A) (h1 : M2.1 = M.1) (h2 : M2.2.2 = M.2.2) (h3 : ∀ q j, q < 66 → M2.2.1 q j = M.2.1 q j) (h5 : ∀ q j, 80 ≤ q → M2.2.1 q j = M.2.1 q j) (hl : M2.2.1 66 1 = n) (hc : ∀ i, i < n → M2.2.1 67 i = g i) : CN M M2 (A.now, A.c, A.hs, A.f, A.sn, n, g) := by
  have hf := h.fx.fr' h1 h2
  refine ⟨?_, h1, h5⟩
  apply CI.mk
  case fx => exact hf
  case c4 => exact h.c4
  case nw => exact SSg_fr h.nw hf.s1 (fun q j _ _ => h3 q j (by omega))
  case cn => rw [h3 _ _ (by decide)]; exact h.cn
  case hs =>
    obtain ⟨b, hb, h6, h4⟩ := h.hs
    refine ⟨b, hb, fun i hi => by rw [h2]; exact h6 i hi, fun i hi => ?_⟩
    have hi2 : i < A.c := hi
    obtain ⟨h6, h7⟩ := hf.b hb (by have := h.c4; omega : i < 4)
    exact SSg_fr (h4 i hi) h6 (fun q j _ _ => h3 q j (by omega))
  case fl => rw [h3 _ _ (by decide)]; exact h.fl
  case sn => exact fun e => SSg_fr (h.sn e) hf.s19 (fun q j _ _ => h3 q j (by omega))
  case tl => exact hl
  case tc => exact hc
set_option maxRecDepth 20000 in
theorem c_type {ch : Int} (h : CI M A) (htl : A.tl ≤ 60) (hch : 0 ≤ ch ∧ ch < 65536) (hK : ∀ M2, CN M M2 (typR A ch).2 → K (typR A ch).1 M2) : m_X6_type [.inr (some 0), .inl ch] K M := by
  have hf := h.fx
  unfold typR at hK
  simp only [hf.x0, hf.r0, hf.r1, hf.r2, hf.r4, hf.r5, hf.r6, hf.r7, hf.s1.1, hf.s1.2.1, hf.s1.2.2.2.2.2.2.1, hf.s10.1, hf.s10.2.1, hf.s10.2.2.2.2.2.2.1, hf.s19.1, hf.x28, hf.x66, hf.r66, hf.x67, hf.x68, hf.jd.1, h.tl, m_X6_type, mk0, B_X6_type, iC, iL, iF, iA, iAc, iLen, iT, iAdd, iSub, iMul, iDiv, iRem, iNeg, iCh, iAnd31, iQ, iMax, iMin, iAbs, iCallS, iCallV, aN, aI, aR, rL, rF, rA, cEq, cNe, cLt, cGe, cGt, cLe, cAnd, cOr, cNot, cNull, sSkip, sSeq, sLoc, sLocR, sInc, sPut, sPutR, sPutAdd, sPutSub, sAst, sCst, sRst, sAstAdd, sAstSub, sIf1, sIf, sRet, sRetV, sCallV, sCallS, sPop, sCopy, sCopyT, sObj, sSw, ent_0, ent_1, ent_2, ent_3, ent_4, ent_5, ent_6, va_up_self, va_up_ne, ne_eq, Nat.reduceEqDiff, not_false_eq_true, not_true_eq_false, si_1, si_2, si_g, sr_1, sr_2, cp_1, cp_2, List.length_cons, List.length_nil, Nat.reduceAdd, true_and, and_true, and_self, eq_self, true_implies, forall_const, Bool.false_eq_true, false_implies, or_true, true_or, Option.some.injEq, Prod.mk.injEq, exists_eq_left', exists_eq', exists_and_left, reduceIte, Int.reduceEq, Int.reduceNe, m_X5_isFull, B_X5_isFull, m_X5_append, B_X5_append]
  by_cases c : A.tl = 60
  · simp only [c, if_true] at hK
    rw [if_pos (by omega)]
    exact hK M h.rf
  · simp only [c, if_false] at hK
    rw [if_neg (by omega)]
    have c0 : (0 : Int) ≤ A.tl ∧ (A.tl : Int) ≤ 59 := by omega
    have c1 : (A.tl : Int) < (60 : Nat) := by omega
    have r1 : inR ((A.tl : Int) + 1) := inR_s (by omega) (by omega)
    simp only [hf.x0, hf.r0, hf.r1, hf.r2, hf.r4, hf.r5, hf.r6, hf.r7, hf.s1.1, hf.s1.2.1, hf.s1.2.2.2.2.2.2.1, hf.s10.1, hf.s10.2.1, hf.s10.2.2.2.2.2.2.1, hf.s19.1, hf.x28, hf.x66, hf.r66, hf.x67, hf.x68, hf.jd.1, h.tl, e_isWithin, c0, c1, hch.1, hch.2, r1, Int.toNat_natCast, and_false, false_and, if_false, ent_0, ent_1, ent_2, ent_3, ent_4, ent_5, ent_6, va_up_self, va_up_ne, ne_eq, Nat.reduceEqDiff, not_false_eq_true, not_true_eq_false, si_1, si_2, si_g, sr_1, sr_2, cp_1, cp_2, List.length_cons, List.length_nil, Nat.reduceAdd, true_and, and_true, and_self, eq_self, true_implies, forall_const, Bool.false_eq_true, false_implies, or_true, true_or, Option.some.injEq, Prod.mk.injEq, exists_eq_left', exists_eq', exists_and_left, reduceIte, Int.reduceEq, Int.reduceNe]
    refine hK _ (h.text rfl rfl (fun q j hq => ?_) (fun q j hq => ?_) ?_ (fun i hi => ?_))
    · rw [si_g, if_neg (by omega), si_g, if_neg (by omega)]
    · rw [si_g, if_neg (by omega), si_g, if_neg (by omega)]
    · rw [si_g, if_pos ⟨rfl, rfl⟩]
      omega
    · rw [si_g, if_neg (by omega), si_g]
      by_cases e : i = A.tl
      · rw [if_pos ⟨rfl, e⟩, if_pos e]
      · rw [if_neg (by omega), if_neg e]
        exact h.tc i (by omega)
set_option maxRecDepth 20000 in
theorem c_clearText (h : CI M A) (hK : ∀ M2, CN M M2 (clrR A).2 → K (clrR A).1 M2) : m_X6_clearText [.inr (some 0)] K M := by
  have hf := h.fx
  unfold clrR at hK
  simp only [hf.x0, hf.r0, hf.r1, hf.r2, hf.r4, hf.r5, hf.r6, hf.r7, hf.s1.1, hf.s1.2.1, hf.s1.2.2.2.2.2.2.1, hf.s10.1, hf.s10.2.1, hf.s10.2.2.2.2.2.2.1, hf.s19.1, hf.x28, hf.x66, hf.r66, hf.x67, hf.x68, hf.jd.1, h.tl, m_X6_clearText, mk0, B_X6_clearText, iC, iL, iF, iA, iAc, iLen, iT, iAdd, iSub, iMul, iDiv, iRem, iNeg, iCh, iAnd31, iQ, iMax, iMin, iAbs, iCallS, iCallV, aN, aI, aR, rL, rF, rA, cEq, cNe, cLt, cGe, cGt, cLe, cAnd, cOr, cNot, cNull, sSkip, sSeq, sLoc, sLocR, sInc, sPut, sPutR, sPutAdd, sPutSub, sAst, sCst, sRst, sAstAdd, sAstSub, sIf1, sIf, sRet, sRetV, sCallV, sCallS, sPop, sCopy, sCopyT, sObj, sSw, ent_0, ent_1, ent_2, ent_3, ent_4, ent_5, ent_6, va_up_self, va_up_ne, ne_eq, Nat.reduceEqDiff, not_false_eq_true, not_true_eq_false, si_1, si_2, si_g, sr_1, sr_2, cp_1, cp_2, List.length_cons, List.length_nil, Nat.reduceAdd, true_and, and_true, and_self, eq_self, true_implies, forall_const, Bool.false_eq_true, false_implies, or_true, true_or, Option.some.injEq, Prod.mk.injEq, exists_eq_left', exists_eq', exists_and_left, reduceIte, Int.reduceEq, Int.reduceNe, m_X5_empty, B_X5_empty]
  refine hK _ (h.text rfl rfl (fun q j hq => ?_) (fun q j hq => ?_) ?_ (fun i hi => absurd hi (Nat.not_lt_zero i)))
  · rw [si_g, if_neg (by omega)]
  · rw [si_g, if_neg (by omega)]
  · rw [si_g, if_pos ⟨rfl, rfl⟩]
    rfl
set_option maxRecDepth 20000 in
theorem c_keep (h : CI M A) (hK : ∀ M2, CN M M2 (keeR A).2 → K (keeR A).1 M2) : m_X6_keep [.inr (some 0)] K M := by
  have hf := h.fx
  unfold keeR at hK
  simp only [hf.x0, hf.r0, hf.r1, hf.r2, hf.r4, hf.r5, hf.r6, hf.r7, hf.s1.1, hf.s1.2.1, hf.s1.2.2.2.2.2.2.1, hf.s10.1, hf.s10.2.1, hf.s10.2.2.2.2.2.2.1, hf.s19.1, hf.x28, hf.x66, hf.r66, hf.x67, hf.x68, hf.jd.1, m_X6_keep, mk0, B_X6_keep, iC, iL, iF, iA, iAc, iLen, iT, iAdd, iSub, iMul, iDiv, iRem, iNeg, iCh, iAnd31, iQ, iMax, iMin, iAbs, iCallS, iCallV, aN, aI, aR, rL, rF, rA, cEq, cNe, cLt, cGe, cGt, cLe, cAnd, cOr, cNot, cNull, sSkip, sSeq, sLoc, sLocR, sInc, sPut, sPutR, sPutAdd, sPutSub, sAst, sCst, sRst, sAstAdd, sAstSub, sIf1, sIf, sRet, sRetV, sCallV, sCallS, sPop, sCopy, sCopyT, sObj, sSw, ent_0, ent_1, ent_2, ent_3, ent_4, ent_5, ent_6, va_up_self, va_up_ne, ne_eq, Nat.reduceEqDiff, not_false_eq_true, not_true_eq_false, si_1, si_2, si_g, sr_1, sr_2, cp_1, cp_2, List.length_cons, List.length_nil, Nat.reduceAdd, true_and, and_true, and_self, eq_self, true_implies, forall_const, Bool.false_eq_true, false_implies, or_true, true_or, Option.some.injEq, Prod.mk.injEq, exists_eq_left', exists_eq', exists_and_left, reduceIte, Int.reduceEq, Int.reduceNe]
  refine e_copyState hf.s19 hf.s1 (by decide) ?_
  have hs := SS_cpT hf.s19 h.nw (by decide)
  have o : ∀ q j, (q ≤ 19 ∨ 27 < q) → (cpT M 19 1).2.1 q j = M.2.1 q j := fun q j hq => cpT_o (by omega)
  have hf1 : Fx (cpT M 19 1) := hf.fr' rfl rfl
  have e1 : (cpT M 19 1).1 = M.1 := rfl
  have e2 : (cpT M 19 1).2.2 = M.2.2 := rfl
  generalize cpT M 19 1 = M1 at hs o hf1 e1 e2 ⊢
  have hf2 : Fx (si M1 0 3 1) := hf1.fr' rfl rfl
  have o2 : ∀ q j, (q ≤ 18 ∨ 27 < q) → ¬ (q = 0 ∧ j = 3) → (si M1 0 3 1).2.1 q j = M.2.1 q j := fun q j hq hq2 => by
    rw [si_g, if_neg hq2, o q j (by omega)]
  simp only [hf1.x0, hf1.r0, hf1.r1, hf1.r2, hf1.r4, hf1.r5, hf1.r6, hf1.r7, hf1.s1.1, hf1.s1.2.1, hf1.s1.2.2.2.2.2.2.1, hf1.s10.1, hf1.s10.2.1, hf1.s10.2.2.2.2.2.2.1, hf1.s19.1, hf1.x28, hf1.x66, hf1.r66, hf1.x67, hf1.x68, hf1.jd.1, ent_0, ent_1, ent_2, ent_3, ent_4, ent_5, ent_6, va_up_self, va_up_ne, ne_eq, Nat.reduceEqDiff, not_false_eq_true, not_true_eq_false, si_1, si_2, si_g, sr_1, sr_2, cp_1, cp_2, List.length_cons, List.length_nil, Nat.reduceAdd, true_and, and_true, and_self, eq_self, true_implies, forall_const, Bool.false_eq_true, false_implies, or_true, true_or, Option.some.injEq, Prod.mk.injEq, exists_eq_left', exists_eq', exists_and_left, reduceIte, Int.reduceEq, Int.reduceNe]
  have hc2 : CS (si M1 0 3 1) 2 A.now.n A.now.D := CS_fr h.nw.2.1 e1 e2 (fun q j h1 h2 => o2 q j (by omega) (by omega))
  simp only [e_size hc2]
  refine ⟨e1, hK _ ⟨?_, e1, fun q j hq => o2 q j (by omega) (by omega)⟩⟩
  apply CI.mk
  case fx => exact hf2
  case c4 => exact h.c4
  case nw => exact SSg_fr h.nw hf2.s1 (fun q j _ _ => o2 q j (by omega) (by omega))
  case cn => rw [o2 _ _ (by decide) (by decide)]; exact h.cn
  case hs =>
    obtain ⟨b, hb, h6, h4⟩ := h.hs
    refine ⟨b, hb, fun i hi => by rw [si_2, e2]; exact h6 i hi, fun i hi => ?_⟩
    have hi2 : i < A.c := hi
    obtain ⟨h6, h7⟩ := hf2.b hb (by have := h.c4; omega : i < 4)
    exact SSg_fr (h4 i hi) h6 (fun q j _ _ => o2 q j (by omega) (by omega))
  case fl => rw [si_g, if_pos ⟨rfl, rfl⟩]; rfl
  case sn => exact fun _ => SSg_fr hs hf2.s19 (fun q j _ _ => by rw [si_g, if_neg (by omega)])
  case tl => rw [o2 _ _ (by decide) (by decide)]; exact h.tl
  case tc => exact fun i hi => by rw [o2 _ _ (by omega) (by omega)]; exact h.tc i hi
theorem cpT_now {M : Mm} {A : Ab} {o : Nat} {S : Sg} (h : CI M A) (ho : SSg M o S) (hos : 9 < o) : CN M (cpT M 1 o) (setN A S) := by
  have hf : Fx (cpT M 1 o) := h.fx.fr' rfl rfl
  exact ⟨CI_setN h hf (fun k => rfl) (fun q j hq => cpT_o (by omega)) (SS_cpT h.fx.s1 ho (by omega)), rfl, fun q j hq => cpT_o (by omega)⟩
set_option maxRecDepth 20000 in
theorem c_restore (h : CI M A) (hf2 : A.f = 0 ∨ A.f = 1) (hK : ∀ M2, CN M M2 (resR A).2 → K (resR A).1 M2) : m_X6_restore [.inr (some 0)] K M := by
  have hf := h.fx
  unfold resR at hK
  simp only [hf.x0, hf.r0, hf.r1, hf.r2, hf.r4, hf.r5, hf.r6, hf.r7, hf.s1.1, hf.s1.2.1, hf.s1.2.2.2.2.2.2.1, hf.s10.1, hf.s10.2.1, hf.s10.2.2.2.2.2.2.1, hf.s19.1, hf.x28, hf.x66, hf.r66, hf.x67, hf.x68, hf.jd.1, h.fl, m_X6_restore, mk0, B_X6_restore, iC, iL, iF, iA, iAc, iLen, iT, iAdd, iSub, iMul, iDiv, iRem, iNeg, iCh, iAnd31, iQ, iMax, iMin, iAbs, iCallS, iCallV, aN, aI, aR, rL, rF, rA, cEq, cNe, cLt, cGe, cGt, cLe, cAnd, cOr, cNot, cNull, sSkip, sSeq, sLoc, sLocR, sInc, sPut, sPutR, sPutAdd, sPutSub, sAst, sCst, sRst, sAstAdd, sAstSub, sIf1, sIf, sRet, sRetV, sCallV, sCallS, sPop, sCopy, sCopyT, sObj, sSw, ent_0, ent_1, ent_2, ent_3, ent_4, ent_5, ent_6, va_up_self, va_up_ne, ne_eq, Nat.reduceEqDiff, not_false_eq_true, not_true_eq_false, si_1, si_2, si_g, sr_1, sr_2, cp_1, cp_2, List.length_cons, List.length_nil, Nat.reduceAdd, true_and, and_true, and_self, eq_self, true_implies, forall_const, Bool.false_eq_true, false_implies, or_true, true_or, Option.some.injEq, Prod.mk.injEq, exists_eq_left', exists_eq', exists_and_left, reduceIte, Int.reduceEq, Int.reduceNe]
  by_cases c : A.f = 0
  · simp only [c, if_true, if_false, ent_0, ent_1, ent_2, ent_3, ent_4, ent_5, ent_6, va_up_self, va_up_ne, ne_eq, Nat.reduceEqDiff, not_false_eq_true, not_true_eq_false, si_1, si_2, si_g, sr_1, sr_2, cp_1, cp_2, List.length_cons, List.length_nil, Nat.reduceAdd, true_and, and_true, and_self, eq_self, true_implies, forall_const, Bool.false_eq_true, false_implies, or_true, true_or, Option.some.injEq, Prod.mk.injEq, exists_eq_left', exists_eq', exists_and_left, reduceIte, Int.reduceEq, Int.reduceNe] at hK ⊢
    exact hK M h.rf
  · simp only [c, if_true, if_false, ent_0, ent_1, ent_2, ent_3, ent_4, ent_5, ent_6, va_up_self, va_up_ne, ne_eq, Nat.reduceEqDiff, not_false_eq_true, not_true_eq_false, si_1, si_2, si_g, sr_1, sr_2, cp_1, cp_2, List.length_cons, List.length_nil, Nat.reduceAdd, true_and, and_true, and_self, eq_self, true_implies, forall_const, Bool.false_eq_true, false_implies, or_true, true_or, Option.some.injEq, Prod.mk.injEq, exists_eq_left', exists_eq', exists_and_left, reduceIte, Int.reduceEq, Int.reduceNe] at hK ⊢
    refine e_record h (fun M2 h2 q2 u2 => ?_)
    have hf22 := h2.fx
    have n2 : CN M M2 (recA A) := ⟨h2, q2, u2⟩
    simp only [hf22.x0, hf22.r0, hf22.r1, hf22.r2, hf22.r4, hf22.r5, hf22.r6, hf22.r7, hf22.s1.1, hf22.s1.2.1, hf22.s1.2.2.2.2.2.2.1, hf22.s10.1, hf22.s10.2.1, hf22.s10.2.2.2.2.2.2.1, hf22.s19.1, hf22.x28, hf22.x66, hf22.r66, hf22.x67, hf22.x68, hf22.jd.1, ent_0, ent_1, ent_2, ent_3, ent_4, ent_5, ent_6, va_up_self, va_up_ne, ne_eq, Nat.reduceEqDiff, not_false_eq_true, not_true_eq_false, si_1, si_2, si_g, sr_1, sr_2, cp_1, cp_2, List.length_cons, List.length_nil, Nat.reduceAdd, true_and, and_true, and_self, eq_self, true_implies, forall_const, Bool.false_eq_true, false_implies, or_true, true_or, Option.some.injEq, Prod.mk.injEq, exists_eq_left', exists_eq', exists_and_left, reduceIte, Int.reduceEq, Int.reduceNe]
    have hsn : SSg M2 19 A.sn := h2.sn (by show A.f = 1; omega)
    refine e_copyState hf22.s1 hf22.s19 (by decide) ?_
    have n3 := cpT_now h2 hsn (by decide)
    have hf3 := n3.1.fx
    generalize cpT M2 1 19 = M3 at n3 hf3 ⊢
    simp only [hf3.x0, hf3.r0, hf3.r1, hf3.r2, hf3.r4, hf3.r5, hf3.r6, hf3.r7, hf3.s1.1, hf3.s1.2.1, hf3.s1.2.2.2.2.2.2.1, hf3.s10.1, hf3.s10.2.1, hf3.s10.2.2.2.2.2.2.1, hf3.s19.1, hf3.x28, hf3.x66, hf3.r66, hf3.x67, hf3.x68, hf3.jd.1, e_size n3.1.nw.2.1, ent_0, ent_1, ent_2, ent_3, ent_4, ent_5, ent_6, va_up_self, va_up_ne, ne_eq, Nat.reduceEqDiff, not_false_eq_true, not_true_eq_false, si_1, si_2, si_g, sr_1, sr_2, cp_1, cp_2, List.length_cons, List.length_nil, Nat.reduceAdd, true_and, and_true, and_self, eq_self, true_implies, forall_const, Bool.false_eq_true, false_implies, or_true, true_or, Option.some.injEq, Prod.mk.injEq, exists_eq_left', exists_eq', exists_and_left, reduceIte, Int.reduceEq, Int.reduceNe]
    exact ⟨by rw [n3.2.1, q2], hK _ (n2.tr n3)⟩
theorem CI.count {M : Mm} {A : Ab} {k : Nat} (h : CI M A) (hk : k ≤ A.c) : CN M (si M 28 1 k) (A.now, k, A.hs, A.f, A.sn, A.tl, A.tc) := by
  have hf : Fx (si M 28 1 k) := h.fx.fr' rfl rfl
  have o2 : ∀ q j, ¬ (q = 28 ∧ j = 1) → (si M 28 1 k).2.1 q j = M.2.1 q j := fun q j hq2 => by rw [si_g, if_neg hq2]
  refine ⟨?_, rfl, fun q j hq => o2 q j (by omega)⟩
  apply CI.mk
  case fx => exact hf
  case c4 => exact Nat.le_trans hk h.c4
  case nw => exact SSg_fr h.nw hf.s1 (fun q j _ _ => o2 q j (by omega))
  case cn => rw [si_g, if_pos ⟨rfl, rfl⟩]; rfl
  case hs =>
    obtain ⟨b, hb, h6, h4⟩ := h.hs
    refine ⟨b, hb, h6, fun i hi => ?_⟩
    have hi2 : i < k := hi
    obtain ⟨h6, h7⟩ := hf.b hb (by have := h.c4; omega : i < 4)
    exact SSg_fr (h4 i (by omega)) h6 (fun q j _ _ => o2 q j (by omega))
  case fl => rw [o2 _ _ (by decide)]; exact h.fl
  case sn => exact fun e => SSg_fr (h.sn e) hf.s19 (fun q j _ _ => o2 q j (by omega))
  case tl => rw [o2 _ _ (by decide)]; exact h.tl
  case tc => exact fun i hi => by rw [o2 _ _ (by omega)]; exact h.tc i hi
set_option maxRecDepth 20000 in
theorem c_undo (h : CI M A) (hK : ∀ M2, CN M M2 (undR A).2 → K (undR A).1 M2) : m_X6_undo [.inr (some 0)] K M := by
  have hf := h.fx
  have h4 := h.c4
  unfold undR at hK
  simp only [hf.x0, hf.r0, hf.r1, hf.r2, hf.r4, hf.r5, hf.r6, hf.r7, hf.s1.1, hf.s1.2.1, hf.s1.2.2.2.2.2.2.1, hf.s10.1, hf.s10.2.1, hf.s10.2.2.2.2.2.2.1, hf.s19.1, hf.x28, hf.x66, hf.r66, hf.x67, hf.x68, hf.jd.1, h.cn, m_X6_undo, mk0, B_X6_undo, iC, iL, iF, iA, iAc, iLen, iT, iAdd, iSub, iMul, iDiv, iRem, iNeg, iCh, iAnd31, iQ, iMax, iMin, iAbs, iCallS, iCallV, aN, aI, aR, rL, rF, rA, cEq, cNe, cLt, cGe, cGt, cLe, cAnd, cOr, cNot, cNull, sSkip, sSeq, sLoc, sLocR, sInc, sPut, sPutR, sPutAdd, sPutSub, sAst, sCst, sRst, sAstAdd, sAstSub, sIf1, sIf, sRet, sRetV, sCallV, sCallS, sPop, sCopy, sCopyT, sObj, sSw, ent_0, ent_1, ent_2, ent_3, ent_4, ent_5, ent_6, va_up_self, va_up_ne, ne_eq, Nat.reduceEqDiff, not_false_eq_true, not_true_eq_false, si_1, si_2, si_g, sr_1, sr_2, cp_1, cp_2, List.length_cons, List.length_nil, Nat.reduceAdd, true_and, and_true, and_self, eq_self, true_implies, forall_const, Bool.false_eq_true, false_implies, or_true, true_or, Option.some.injEq, Prod.mk.injEq, exists_eq_left', exists_eq', exists_and_left, reduceIte, Int.reduceEq, Int.reduceNe, m_X0_size, B_X0_size]
  by_cases c : A.c = 0
  · simp only [c, if_true] at hK
    rw [if_pos (by omega)]
    exact hK M h.rf
  · simp only [c, if_false] at hK
    rw [if_neg (by omega)]
    obtain ⟨b, hb, h29, h6⟩ := h.hs
    have c0 : (1 : Int) ≤ A.c ∧ (A.c : Int) ≤ 4 := by omega
    have e1 : (A.c : Int) - 1 = ((A.c - 1 : Nat) : Int) := by omega
    have c1 : (0 : Int) ≤ ((A.c - 1 : Nat) : Int) := by omega
    have c2 : ((A.c - 1 : Nat) : Int) < (4 : Nat) := by omega
    have r1 : inR ((A.c - 1 : Nat) : Int) := inR_s (by omega) (by omega)
    have p1 := (hf.b hb (by omega : A.c - 1 < 4)).1.1
    simp only [hf.x0, hf.r0, hf.r1, hf.r2, hf.r4, hf.r5, hf.r6, hf.r7, hf.s1.1, hf.s1.2.1, hf.s1.2.2.2.2.2.2.1, hf.s10.1, hf.s10.2.1, hf.s10.2.2.2.2.2.2.1, hf.s19.1, hf.x28, hf.x66, hf.r66, hf.x67, hf.x68, hf.jd.1, h.cn, hf.x29, hf.r28, e_isWithin, c0, c1, c2, e1, r1, Int.toNat_natCast, h29 (A.c - 1) (by omega), m_X0_takeBackInto, mk0, B_X0_takeBackInto, iC, iL, iF, iA, iAc, iLen, iT, iAdd, iSub, iMul, iDiv, iRem, iNeg, iCh, iAnd31, iQ, iMax, iMin, iAbs, iCallS, iCallV, aN, aI, aR, rL, rF, rA, cEq, cNe, cLt, cGe, cGt, cLe, cAnd, cOr, cNot, cNull, sSkip, sSeq, sLoc, sLocR, sInc, sPut, sPutR, sPutAdd, sPutSub, sAst, sCst, sRst, sAstAdd, sAstSub, sIf1, sIf, sRet, sRetV, sCallV, sCallS, sPop, sCopy, sCopyT, sObj, sSw, ent_0, ent_1, ent_2, ent_3, ent_4, ent_5, ent_6, va_up_self, va_up_ne, ne_eq, Nat.reduceEqDiff, not_false_eq_true, not_true_eq_false, si_1, si_2, si_g, sr_1, sr_2, cp_1, cp_2, List.length_cons, List.length_nil, Nat.reduceAdd, true_and, and_true, and_self, eq_self, true_implies, forall_const, Bool.false_eq_true, false_implies, or_true, true_or, Option.some.injEq, Prod.mk.injEq, exists_eq_left', exists_eq', exists_and_left, reduceIte, Int.reduceEq, Int.reduceNe]
    have n1 := h.count (k := A.c - 1) (by omega)
    have hf1 := n1.1.fx
    have hs1 : SSg (si M 28 1 ((A.c - 1 : Nat) : Int)) (b (A.c - 1)) (A.hs (A.c - 1)) := SSg_fr (h6 _ (by omega)) (hf1.b hb (by omega)).1 (fun q j _ _ => by
      have := hb.1 (A.c - 1) (by omega)
      rw [si_g, if_neg (by omega)])
    refine e_copyState hf1.s1 (hf1.b hb (by omega : A.c - 1 < 4)).1 (by have := hb.1 (A.c - 1) (by omega); omega) ?_
    have n2 := cpT_now n1.1 hs1 (by have := hb.1 (A.c - 1) (by omega); omega)
    have hf2 := n2.1.fx
    generalize cpT (si M 28 1 ((A.c - 1 : Nat) : Int)) 1 (b (A.c - 1)) = M3 at n2 hf2 ⊢
    have ecn : M3.2.1 28 1 = ((A.c - 1 : Nat) : Int) := n2.1.cn
    simp only [hf2.x0, hf2.r0, hf2.r1, hf2.r2, hf2.r4, hf2.r5, hf2.r6, hf2.r7, hf2.s1.1, hf2.s1.2.1, hf2.s1.2.2.2.2.2.2.1, hf2.s10.1, hf2.s10.2.1, hf2.s10.2.2.2.2.2.2.1, hf2.s19.1, hf2.x28, hf2.x66, hf2.r66, hf2.x67, hf2.x68, hf2.jd.1, ecn, ent_0, ent_1, ent_2, ent_3, ent_4, ent_5, ent_6, va_up_self, va_up_ne, ne_eq, Nat.reduceEqDiff, not_false_eq_true, not_true_eq_false, si_1, si_2, si_g, sr_1, sr_2, cp_1, cp_2, List.length_cons, List.length_nil, Nat.reduceAdd, true_and, and_true, and_self, eq_self, true_implies, forall_const, Bool.false_eq_true, false_implies, or_true, true_or, Option.some.injEq, Prod.mk.injEq, exists_eq_left', exists_eq', exists_and_left, reduceIte, Int.reduceEq, Int.reduceNe]
    refine ⟨by rw [n2.2.1, n1.2.1], by rw [n2.2.1, n1.2.1], ?_⟩
    have := hK _ (n1.tr n2)
    rw [e1] at this
    exact this
end COPS3
