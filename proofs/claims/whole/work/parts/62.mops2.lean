section MOPS2
variable {K : Int → Mm → Prop} {M : Mm} {A : Ab} {n : Nat} {D : Nat → Nat → Int} {st sg : Nat → Int}
set_option maxRecDepth 20000 in
theorem e_addError {r p l : Int} (hm : MR M n D st) (hv : VD n D) : m_X7_addError [.inr (some 80), .inl r, .inl p, .inl l] K M ↔ K (if (0 ≤ r ∧ r ≤ 32) ∧ 0 ≤ p ∧ (1 ≤ l ∧ l ≤ 32) then (if n < 40 ∧ tk n D + r + l ≤ 600 then 0 else -3) else -2) M := by
  obtain ⟨m0, mA, mR⟩ := hm.1
  have hn := hm.2.1
  have e5 : Int.toNat 5 = 5 := rfl
  have d5 : (0 : Int) ≤ 5 ∧ (5 : Int) < (806 : Nat) := by decide
  have htk := tk_b hv
  simp only [m0, mA, mR, e5, d5.1, d5.2, hm.2.2.1, e_in, e_endOfSong hm hv, m_X7_addError, mk0, B_X7_addError, iC, iL, iF, iA, iAc, iLen, iT, iAdd, iSub, iMul, iDiv, iRem, iNeg, iCh, iAnd31, iQ, iMax, iMin, iAbs, iCallS, iCallV, aN, aI, aR, rL, rF, rA, cEq, cNe, cLt, cGe, cGt, cLe, cAnd, cOr, cNot, cNull, sSkip, sSeq, sLoc, sLocR, sInc, sPut, sPutR, sPutAdd, sPutSub, sAst, sCst, sRst, sAstAdd, sAstSub, sIf1, sIf, sRet, sRetV, sCallV, sCallS, sPop, sCopy, sCopyT, sObj, sSw, ent_0, ent_1, ent_2, ent_3, ent_4, ent_5, ent_6, va_up_self, va_up_ne, ne_eq, Nat.reduceEqDiff, not_false_eq_true, not_true_eq_false, si_1, si_2, si_g, sr_1, sr_2, cp_1, cp_2, List.length_cons, List.length_nil, Nat.reduceAdd, true_and, and_true, and_self, eq_self, true_implies, forall_const, Bool.false_eq_true, false_implies, or_true, true_or, Option.some.injEq, Prod.mk.injEq, exists_eq_left', exists_eq', exists_and_left, reduceIte, Int.reduceEq, Int.reduceNe]
  by_cases c1 : 0 ≤ r ∧ r ≤ 32
  · by_cases c2 : 0 ≤ p
    · by_cases c3 : 1 ≤ l ∧ l ≤ 32
      · have c2' : ¬ p < 0 := by omega
        have r1 : inR (tk n D + r) := inR_s (by omega) (by omega)
        have r2 : inR (tk n D + r + l) := inR_s (by omega) (by omega)
        simp only [c1, c2, c2', c3, r1, r2, and_self, if_true, if_false, ent_0, ent_1, ent_2, ent_3, ent_4, ent_5, ent_6, va_up_self, va_up_ne, ne_eq, Nat.reduceEqDiff, not_false_eq_true, not_true_eq_false, si_1, si_2, si_g, sr_1, sr_2, cp_1, cp_2, List.length_cons, List.length_nil, Nat.reduceAdd, true_and, and_true, and_self, eq_self, true_implies, forall_const, Bool.false_eq_true, false_implies, or_true, true_or, Option.some.injEq, Prod.mk.injEq, exists_eq_left', exists_eq', exists_and_left, reduceIte, Int.reduceEq, Int.reduceNe]
        by_cases c4 : n = 40
        · rw [if_pos (by omega), if_neg (by omega)]
        · rw [if_neg (by omega)]
          by_cases c5 : tk n D + r + l ≤ 600
          · rw [if_neg (by omega), if_pos (by omega)]
          · rw [if_pos (by omega), if_neg (by omega)]
      · have c2' : ¬ p < 0 := by omega
        simp only [c1, c2, c2', c3, and_self, and_false, if_true, if_false, ent_0, ent_1, ent_2, ent_3, ent_4, ent_5, ent_6, va_up_self, va_up_ne, ne_eq, Nat.reduceEqDiff, not_false_eq_true, not_true_eq_false, si_1, si_2, si_g, sr_1, sr_2, cp_1, cp_2, List.length_cons, List.length_nil, Nat.reduceAdd, true_and, and_true, and_self, eq_self, true_implies, forall_const, Bool.false_eq_true, false_implies, or_true, true_or, Option.some.injEq, Prod.mk.injEq, exists_eq_left', exists_eq', exists_and_left, reduceIte, Int.reduceEq, Int.reduceNe]
    · have c2' : p < 0 := by omega
      simp only [c1, c2, c2', false_and, and_false, if_true, if_false, ent_0, ent_1, ent_2, ent_3, ent_4, ent_5, ent_6, va_up_self, va_up_ne, ne_eq, Nat.reduceEqDiff, not_false_eq_true, not_true_eq_false, si_1, si_2, si_g, sr_1, sr_2, cp_1, cp_2, List.length_cons, List.length_nil, Nat.reduceAdd, true_and, and_true, and_self, eq_self, true_implies, forall_const, Bool.false_eq_true, false_implies, or_true, true_or, Option.some.injEq, Prod.mk.injEq, exists_eq_left', exists_eq', exists_and_left, reduceIte, Int.reduceEq, Int.reduceNe]
  · simp only [c1, false_and, if_true, if_false, ent_0, ent_1, ent_2, ent_3, ent_4, ent_5, ent_6, va_up_self, va_up_ne, ne_eq, Nat.reduceEqDiff, not_false_eq_true, not_true_eq_false, si_1, si_2, si_g, sr_1, sr_2, cp_1, cp_2, List.length_cons, List.length_nil, Nat.reduceAdd, true_and, and_true, and_self, eq_self, true_implies, forall_const, Bool.false_eq_true, false_implies, or_true, true_or, Option.some.injEq, Prod.mk.injEq, exists_eq_left', exists_eq', exists_and_left, reduceIte, Int.reduceEq, Int.reduceNe]
theorem MI.r {M : Mm} {A : Ab} (h : MI M A) : MR M A.now.n A.now.D A.now.st ∧ MG M A.now.sg := h.nw.o0 h.fx.md
theorem d_addErr {r a e l p : Int} (h : MI M A) (hV : A.V) (hp : 0 ≤ p ↔ ((0 ≤ a ∧ a ≤ 60) ∧ (0 ≤ e ∧ e ≤ 60))) (hQ : K (if (0 ≤ r ∧ r ≤ 32) ∧ (1 ≤ l ∧ l ≤ 32) ∧ (0 ≤ a ∧ a ≤ 60) ∧ (0 ≤ e ∧ e ≤ 60) then (if A.now.n < 40 ∧ tk A.now.n A.now.D + r + l ≤ 600 then 0 else -3) else -2) M) : m_X7_addError [.inr (some 80), .inl r, .inl p, .inl l] K M := by
  obtain ⟨hm, hG⟩ := h.r
  refine (e_addError hm hV.nw.1).mpr ?_
  by_cases hY : (0 ≤ r ∧ r ≤ 32) ∧ (1 ≤ l ∧ l ≤ 32) ∧ (0 ≤ a ∧ a ≤ 60) ∧ (0 ≤ e ∧ e ≤ 60)
  · rw [if_pos hY] at hQ
    rw [if_pos ⟨hY.1, hp.mpr hY.2.2, hY.2.1⟩]
    exact hQ
  · rw [if_neg hY] at hQ
    rw [if_neg (fun h => hY ⟨h.1, h.2.2, hp.mp h.2.1⟩)]
    exact hQ
theorem d_addFin {r a e l f : Int} {M1 : Mm} (hV : A.V) (hA : A.now.n < 40) (c3 : 0 ≤ r ∧ r ≤ 32) {Q : Int → Mm → Prop} (n2 : MN M1 M (recA A)) (hK : ∀ M2, MN M1 M2 (setN (recA A) (addS A.now r a e l f)) → Q (tk A.now.n A.now.D + r) M2) : m_X7_doAdd [.inr (some 80), .inl r, .inl a, .inl e, .inl l, .inl f] Q M := by
  obtain ⟨hm2, hG2⟩ : MR M A.now.n A.now.D A.now.st ∧ MG M A.now.sg := n2.1.r
  have n3 : MN M (dA M A.now.n (tk A.now.n A.now.D + r) l a e (if A.now.n = 0 then 1 else f)) (setN (recA A) (addS A.now r a e l f)) := MN_dA n2.1 (show (recA A).now = A.now from rfl) hA
  have n4 := n2.tr n3
  generalize hB : setN (recA A) (addS A.now r a e l f) = B at hK n4
  exact e_doAdd hm2 hV.nw.1 hA c3 (hK _ n4)
def addTl : ST := (sSeq (sIf1 (cLt (iL 6) (iC 0)) (sRet false (iL 6))) (sSeq (sCallV 7 m_X7_record (rL 0) (aN)) (sRet false (iCallV 7 m_X7_doAdd (rL 0) (aI (iL 1) (aI (iL 2) (aI (iL 3) (aI (iL 4) (aI (iQ (cNe (iL 5) (iC 0)) (iC 1) (iC 0)) (aN))))))))))
theorem B_add7 : B_X7_add = sSeq (sLoc 6 (iCallV 7 m_X7_addError (rL 0) (aI (iL 1) (aI (iQ (cAnd (cNe (iCallS m_X7_isPitch (aI (iL 2) (aN))) (iC 0)) (cNe (iCallS m_X7_isPitch (aI (iL 3) (aN))) (iC 0))) (iC 0) (iC (-1))) (aI (iL 4) (aN)))))) addTl := rfl
set_option maxRecDepth 20000 in
theorem e_addTl {r a e l f v : Int} {W : En → Mm → Prop} {Rt : Int → Mm → Prop} {ρ : En} (h : MI M A) (hV : A.V) (hf1 : f = 0 ∨ f = 1) (h0 : ρ 0 = .inr (some 80)) (h1 : ρ 1 = .inl r) (h2 : ρ 2 = .inl a) (h3 : ρ 3 = .inl e) (h4 : ρ 4 = .inl l) (h5 : ρ 5 = .inl f) (h6 : ρ 6 = .inl v) (hv : v = (if (0 ≤ r ∧ r ≤ 32) ∧ (1 ≤ l ∧ l ≤ 32) ∧ (0 ≤ a ∧ a ≤ 60) ∧ (0 ≤ e ∧ e ≤ 60) then (if A.now.n < 40 ∧ tk A.now.n A.now.D + r + l ≤ 600 then 0 else -3) else -2)) (hK : ∀ M2, MN M M2 (addR A r a e l f).2 → Rt (addR A r a e l f).1 M2) : addTl W Rt ρ M := by
  obtain ⟨m0, mA, mR⟩ := h.fx.md
  unfold addR at hK
  simp only [addTl, h0, h1, h2, h3, h4, h5, h6, m0, iC, iL, iF, iA, iAc, iLen, iT, iAdd, iSub, iMul, iDiv, iRem, iNeg, iCh, iAnd31, iQ, iMax, iMin, iAbs, iCallS, iCallV, aN, aI, aR, rL, rF, rA, cEq, cNe, cLt, cGe, cGt, cLe, cAnd, cOr, cNot, cNull, sSkip, sSeq, sLoc, sLocR, sInc, sPut, sPutR, sPutAdd, sPutSub, sAst, sCst, sRst, sAstAdd, sAstSub, sIf1, sIf, sRet, sRetV, sCallV, sCallS, sPop, sCopy, sCopyT, sObj, sSw, ent_0, ent_1, ent_2, ent_3, ent_4, ent_5, ent_6, va_up_self, va_up_ne, ne_eq, Nat.reduceEqDiff, not_false_eq_true, not_true_eq_false, si_1, si_2, si_g, sr_1, sr_2, cp_1, cp_2, List.length_cons, List.length_nil, Nat.reduceAdd, true_and, and_true, and_self, eq_self, true_implies, forall_const, Bool.false_eq_true, false_implies, or_true, true_or, Option.some.injEq, Prod.mk.injEq, exists_eq_left', exists_eq', exists_and_left, reduceIte, Int.reduceEq, Int.reduceNe]
  by_cases c3 : (0 ≤ r ∧ r ≤ 32) ∧ (1 ≤ l ∧ l ≤ 32) ∧ (0 ≤ a ∧ a ≤ 60) ∧ (0 ≤ e ∧ e ≤ 60)
  · rw [if_pos c3] at hK hv
    by_cases c4 : A.now.n < 40 ∧ tk A.now.n A.now.D + r + l ≤ 600
    · rw [if_pos c4] at hK hv
      rw [if_neg (by omega)]
      simp only at hK
      refine e_record7 h hV.c4 (fun M2 n2 => ?_)
      have n0 := n2.1.fx.md.1
      have fin : ∀ f2, f2 = f → m_X7_doAdd [.inr (some 80), .inl r, .inl a, .inl e, .inl l, .inl f2] Rt M2 := by
        intro f2 e2
        rw [e2]
        exact d_addFin hV c4.1 c3.1 n2 (fun M3 n3 => hK M3 n3)
      by_cases cf : f = 0
      · rw [if_neg (by omega)]
        exact ⟨⟨0, n0⟩, fin 0 cf.symm⟩
      · rw [if_pos cf]
        exact ⟨⟨0, n0⟩, fin 1 (by omega)⟩
    · rw [if_neg c4] at hK hv
      rw [if_pos (by omega), hv]
      exact hK M h.rf
  · rw [if_neg c3] at hK hv
    rw [if_pos (by omega), hv]
    exact hK M h.rf
set_option maxRecDepth 20000 in
theorem d_add {r a e l f : Int} (h : MI M A) (hV : A.V) (hf1 : f = 0 ∨ f = 1) (hK : ∀ M2, MN M M2 (addR A r a e l f).2 → K (addR A r a e l f).1 M2) : m_X7_add [.inr (some 80), .inl r, .inl a, .inl e, .inl l, .inl f] K M := by
  obtain ⟨m0, mA, mR⟩ := h.fx.md
  have key : ∀ p : Int, (0 ≤ p ↔ ((0 ≤ a ∧ a ≤ 60) ∧ (0 ≤ e ∧ e ≤ 60))) → m_X7_addError [.inr (some 80), .inl r, .inl p, .inl l] (fun x M1 => addTl (fun _ _ => False) (fun x M2 => M2.1 = M.1 ∧ K x M2) (va_up (ent [.inr (some 80), .inl r, .inl a, .inl e, .inl l, .inl f] 0 0) 6 (.inl x)) M1) M := fun p hp => d_addErr h hV hp (e_addTl h hV hf1 rfl rfl rfl rfl rfl rfl rfl rfl (fun M2 n2 => ⟨n2.2.1, hK M2 n2⟩))
  rw [m_X7_add, B_add7]
  simp only [m0, e_isPitch, mk0, iC, iL, iF, iA, iAc, iLen, iT, iAdd, iSub, iMul, iDiv, iRem, iNeg, iCh, iAnd31, iQ, iMax, iMin, iAbs, iCallS, iCallV, aN, aI, aR, rL, rF, rA, cEq, cNe, cLt, cGe, cGt, cLe, cAnd, cOr, cNot, cNull, sSkip, sSeq, sLoc, sLocR, sInc, sPut, sPutR, sPutAdd, sPutSub, sAst, sCst, sRst, sAstAdd, sAstSub, sIf1, sIf, sRet, sRetV, sCallV, sCallS, sPop, sCopy, sCopyT, sObj, sSw, ent_0, ent_1, ent_2, ent_3, ent_4, ent_5, ent_6, va_up_self, va_up_ne, ne_eq, Nat.reduceEqDiff, not_false_eq_true, not_true_eq_false, si_1, si_2, si_g, sr_1, sr_2, cp_1, cp_2, List.length_cons, List.length_nil, Nat.reduceAdd, true_and, and_true, and_self, eq_self, true_implies, forall_const, Bool.false_eq_true, false_implies, or_true, true_or, Option.some.injEq, Prod.mk.injEq, exists_eq_left', exists_eq', exists_and_left, reduceIte, Int.reduceEq, Int.reduceNe]
  by_cases c1 : 0 ≤ a ∧ a ≤ 60
  · rw [if_pos c1, if_pos (by decide)]
    by_cases c2 : 0 ≤ e ∧ e ≤ 60
    · rw [if_pos c2, if_pos (by decide)]
      exact key 0 ⟨fun _ => ⟨c1, c2⟩, fun _ => Int.le_refl 0⟩
    · rw [if_neg c2, if_neg (by decide)]
      exact key (-1) ⟨fun h => absurd h (by decide), fun h => absurd h.2 c2⟩
  · rw [if_neg c1, if_neg (by decide)]
    exact key (-1) ⟨fun h => absurd h (by decide), fun h => absurd h.1 c1⟩
set_option maxRecDepth 20000 in
theorem d_drop (h : MI M A) (hV : A.V) (hK : ∀ M2, MN M M2 (dropR A).2 → K (dropR A).1 M2) : m_X7_drop [.inr (some 80)] K M := by
  obtain ⟨m0, mA, mR⟩ := h.fx.md
  obtain ⟨hm, hG⟩ := h.r
  have hn := hV.nw.1.1
  have e5 : Int.toNat 5 = 5 := rfl
  have d5 : (0 : Int) ≤ 5 ∧ (5 : Int) < (806 : Nat) := by decide
  unfold dropR at hK
  simp only [m0, mA, mR, e5, d5.1, d5.2, hm.2.2.1, m_X7_drop, mk0, B_X7_drop, iC, iL, iF, iA, iAc, iLen, iT, iAdd, iSub, iMul, iDiv, iRem, iNeg, iCh, iAnd31, iQ, iMax, iMin, iAbs, iCallS, iCallV, aN, aI, aR, rL, rF, rA, cEq, cNe, cLt, cGe, cGt, cLe, cAnd, cOr, cNot, cNull, sSkip, sSeq, sLoc, sLocR, sInc, sPut, sPutR, sPutAdd, sPutSub, sAst, sCst, sRst, sAstAdd, sAstSub, sIf1, sIf, sRet, sRetV, sCallV, sCallS, sPop, sCopy, sCopyT, sObj, sSw, ent_0, ent_1, ent_2, ent_3, ent_4, ent_5, ent_6, va_up_self, va_up_ne, ne_eq, Nat.reduceEqDiff, not_false_eq_true, not_true_eq_false, si_1, si_2, si_g, sr_1, sr_2, cp_1, cp_2, List.length_cons, List.length_nil, Nat.reduceAdd, true_and, and_true, and_self, eq_self, true_implies, forall_const, Bool.false_eq_true, false_implies, or_true, true_or, Option.some.injEq, Prod.mk.injEq, exists_eq_left', exists_eq', exists_and_left, reduceIte, Int.reduceEq, Int.reduceNe]
  by_cases c : A.now.n = 0
  · simp only [c, if_true] at hK
    rw [if_pos (by omega)]
    exact hK M h.rf
  · simp only [c, if_false] at hK
    rw [if_neg (by omega)]
    refine e_record7 h hV.c4 (fun M2 n2 => ?_)
    obtain ⟨k0, kA, kR⟩ := n2.1.fx.md
    obtain ⟨hm2, hG2⟩ : MR M2 A.now.n A.now.D A.now.st ∧ MG M2 A.now.sg := n2.1.r
    have ec : M2.2.1 81 5 = A.now.n := hm2.2.2.1
    have r1 : inR ((A.now.n : Int) - 1) := inR_s (by omega) (by omega)
    simp only [k0, kA, kR, e5, d5.1, d5.2, ec, r1, ent_0, ent_1, ent_2, ent_3, ent_4, ent_5, ent_6, va_up_self, va_up_ne, ne_eq, Nat.reduceEqDiff, not_false_eq_true, not_true_eq_false, si_1, si_2, si_g, sr_1, sr_2, cp_1, cp_2, List.length_cons, List.length_nil, Nat.reduceAdd, true_and, and_true, and_self, eq_self, true_implies, forall_const, Bool.false_eq_true, false_implies, or_true, true_or, Option.some.injEq, Prod.mk.injEq, exists_eq_left', exists_eq', exists_and_left, reduceIte, Int.reduceEq, Int.reduceNe]
    refine ⟨n2.2.1, hK _ (n2.tr ⟨MI_setN n2.1 (n2.1.fx.fr' rfl rfl) (fun q j h1 h2 h3 => by rw [si_g, if_neg (by omega)]) ?_, rfl, rfl, fun q j hq => by rw [si_g, if_neg (by omega)]⟩)⟩
    have hr := n2.1.nw
    refine ⟨show A.now.n - 1 ≤ 40 by omega, ?_, fun k hk w hw => ?_, fun j hj => ?_, fun t ht => ?_⟩
    · show (si M2 81 5 ((A.now.n : Int) - 1)).2.1 81 (0 + 5) = ((A.now.n - 1 : Nat) : Int)
      rw [si_g, if_pos ⟨rfl, rfl⟩]
      omega
    · have hk2 : k < A.now.n - 1 := hk
      rw [si_g, if_neg (by omega)]
      exact hr.2.2.1 k (show k < A.now.n by omega) w hw
    · rw [si_g, if_neg (by omega)]
      exact hr.2.2.2.1 j hj
    · rw [si_g, if_neg (by omega)]
      exact hr.2.2.2.2 t ht
end MOPS2
