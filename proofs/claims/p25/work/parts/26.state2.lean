def on? (sg : Nat → Int) (t : Int) : Bool := decide (sgA sg t ≠ -1 ∧ sgA sg t ≠ sgA sg (t - 1))
/-- the nearest onset: d is tried, then farther ones, r of them -/
def nr (sg : Nat → Int) (b : Int) (d : Int) : Nat → Int
  | 0 => -5
  | r + 1 => if on? sg (b - d) = true then b - d else if on? sg (b + d) = true then b + d else nr sg b (d + 1) r
def nrO (st sg : Nat → Int) (b : Int) : Int := nr sg b 0 (st 2 + 1).toNat
/-- how far a pitch is from the wanted one -/
def far (st : Nat → Int) (x : Int) : Int := if st 3 = 1 then (if 12 - x.tmod 12 < x.tmod 12 then 12 - x.tmod 12 else x.tmod 12) else x
def absI (x : Int) : Int := if 0 ≤ x then x else 0 - x
def mt? (st : Nat → Int) (p w : Int) : Bool := decide (p ≠ -1 ∧ far st (absI (p - w)) ≤ st 1)
theorem bit_b (b : Bool) : 0 ≤ (if b = true then (1 : Int) else 0) ∧ (if b = true then (1 : Int) else 0) ≤ 1 := by split <;> omega
theorem tmod_b {x : Int} (h : 0 ≤ x) : 0 ≤ x.tmod 12 ∧ x.tmod 12 < 12 := by
  rw [Int.tmod_eq_emod_of_nonneg h]
  omega
section STATE2
variable {K : Int → Mm → Prop} {M : Mm} {s n : Nat} {D : Nat → Nat → Int} {st sg : Nat → Int}
theorem e_isOnset {t : Int} (h : SS M s n D st sg) (ht : -1000 ≤ t ∧ t ≤ 1000) : m_X4_isOnset [.inr (some s), .inl t] K M ↔ K (if on? sg t = true then 1 else 0) M := by
  have r1 : inR (t - 1) := inR_s (by omega) (by omega)
  simp only [m_X4_isOnset, mk0, B_X4_isOnset, iC, iL, iF, iA, iAc, iLen, iT, iAdd, iSub, iMul, iDiv, iRem, iNeg, iCh, iAnd31, iQ, iMax, iMin, iAbs, iCallS, iCallV, aN, aI, aR, rL, rF, rA, cEq, cNe, cLt, cGe, cGt, cLe, cAnd, cOr, cNot, cNull, sSkip, sSeq, sLoc, sLocR, sInc, sPut, sPutR, sPutAdd, sPutSub, sAst, sCst, sRst, sAstAdd, sAstSub, sIf1, sIf, sRet, sRetV, sCallV, sCallS, sPop, sCopy, sCopyT, sObj, sSw, iAddW, iMulW, iAndM, iShr, cQ, ent_0, ent_1, ent_2, ent_3, ent_4, ent_5, ent_6, va_up_self, va_up_ne, ne_eq, Nat.reduceEqDiff, not_false_eq_true, not_true_eq_false, si_1, si_2, si_g, sr_1, sr_2, cp_1, cp_2, List.length_cons, List.length_nil, Nat.reduceAdd, true_and, and_true, and_self, eq_self, true_implies, forall_const, Bool.false_eq_true, false_implies, or_true, true_or, Option.some.injEq, Prod.mk.injEq, exists_eq_left', exists_eq', exists_and_left, reduceIte, Int.reduceEq, Int.reduceNe, h.1.1, e_sungAt h, r1]
  unfold on?
  by_cases h1 : sgA sg t = -1 <;> by_cases h2 : sgA sg t = sgA sg (t - 1) <;> simp [h1, h2]
theorem e_onsetNear {b : Int} (h : SS M s n D st sg) (hst : VT st) (hb : 0 ≤ b ∧ b ≤ 600) (hK : K (nrO st sg b) M) : m_X4_onsetNear [.inr (some s), .inl b] K M := by
  simp only [m_X4_onsetNear, mk0, B_X4_onsetNear, iC, iL, iF, iA, iAc, iLen, iT, iAdd, iSub, iMul, iDiv, iRem, iNeg, iCh, iAnd31, iQ, iMax, iMin, iAbs, iCallS, iCallV, aN, aI, aR, rL, rF, rA, cEq, cNe, cLt, cGe, cGt, cLe, cAnd, cOr, cNot, cNull, sSkip, sSeq, sLoc, sLocR, sInc, sPut, sPutR, sPutAdd, sPutSub, sAst, sCst, sRst, sAstAdd, sAstSub, sIf1, sIf, sRet, sRetV, sCallV, sCallS, sPop, sCopy, sCopyT, sObj, sSw, iAddW, iMulW, iAndM, iShr, cQ, ent_0, ent_1, ent_2, ent_3, ent_4, ent_5, ent_6, va_up_self, va_up_ne, ne_eq, Nat.reduceEqDiff, not_false_eq_true, not_true_eq_false, si_1, si_2, si_g, sr_1, sr_2, cp_1, cp_2, List.length_cons, List.length_nil, Nat.reduceAdd, true_and, and_true, and_self, eq_self, true_implies, forall_const, Bool.false_eq_true, false_implies, or_true, true_or, Option.some.injEq, Prod.mk.injEq, exists_eq_left', exists_eq', exists_and_left, reduceIte, Int.reduceEq, Int.reduceNe, h.1.1, e_setting h (j := 2) ⟨by decide, by decide⟩]
  have e2 : Int.toNat 2 = 2 := rfl
  rw [e2]
  have h8 := hst.2.2.1
  refine while_n (n := (st 2 + 1).toNat) (fun r ρ M2 => M2 = M ∧ ∃ i : Nat, i + r = (st 2 + 1).toNat ∧ ρ 0 = .inr (some s) ∧ ρ 1 = .inl b ∧ ρ 2 = .inl (st 2) ∧ ρ 3 = .inl (i : Int) ∧ nrO st sg b = nr sg b i r) ?_ ⟨rfl, 0, by omega, rfl, rfl, rfl, rfl, rfl⟩
  rintro r W hW ρ M2 ⟨rfl, i, hr, h0, h1, h2, h3, h4⟩
  simp only [h0, h1, h2, h3, h.1.1, iC, iL, iF, iA, iAc, iLen, iT, iAdd, iSub, iMul, iDiv, iRem, iNeg, iCh, iAnd31, iQ, iMax, iMin, iAbs, iCallS, iCallV, aN, aI, aR, rL, rF, rA, cEq, cNe, cLt, cGe, cGt, cLe, cAnd, cOr, cNot, cNull, sSkip, sSeq, sLoc, sLocR, sInc, sPut, sPutR, sPutAdd, sPutSub, sAst, sCst, sRst, sAstAdd, sAstSub, sIf1, sIf, sRet, sRetV, sCallV, sCallS, sPop, sCopy, sCopyT, sObj, sSw, iAddW, iMulW, iAndM, iShr, cQ, ent_0, ent_1, ent_2, ent_3, ent_4, ent_5, ent_6, va_up_self, va_up_ne, ne_eq, Nat.reduceEqDiff, not_false_eq_true, not_true_eq_false, si_1, si_2, si_g, sr_1, sr_2, cp_1, cp_2, List.length_cons, List.length_nil, Nat.reduceAdd, true_and, and_true, and_self, eq_self, true_implies, forall_const, Bool.false_eq_true, false_implies, or_true, true_or, Option.some.injEq, Prod.mk.injEq, exists_eq_left', exists_eq', exists_and_left, reduceIte, Int.reduceEq, Int.reduceNe]
  by_cases hi : (i : Int) ≤ st 2
  · have r1 : inR (b - (i : Int)) := inR_s (by omega) (by omega)
    have r2 : inR (b + (i : Int)) := inR_s (by omega) (by omega)
    have r3 : inR ((i : Int) + 1) := inR_s (by omega) (by omega)
    obtain ⟨r', rfl⟩ : ∃ r', r = r' + 1 := ⟨r - 1, by omega⟩
    simp only [hi, r1, r2, r3, e_isOnset h (t := b - (i : Int)) ⟨by omega, by omega⟩, e_isOnset h (t := b + (i : Int)) ⟨by omega, by omega⟩, if_true, h.1.1, ent_0, ent_1, ent_2, ent_3, ent_4, ent_5, ent_6, va_up_self, va_up_ne, ne_eq, Nat.reduceEqDiff, not_false_eq_true, not_true_eq_false, si_1, si_2, si_g, sr_1, sr_2, cp_1, cp_2, List.length_cons, List.length_nil, Nat.reduceAdd, true_and, and_true, and_self, eq_self, true_implies, forall_const, Bool.false_eq_true, false_implies, or_true, true_or, Option.some.injEq, Prod.mk.injEq, exists_eq_left', exists_eq', exists_and_left, reduceIte, Int.reduceEq, Int.reduceNe]
    rw [h4] at hK
    unfold nr at hK h4
    by_cases c1 : on? sg (b - (i : Int)) = true
    · simp only [c1, if_true] at hK ⊢
      simpa using hK
    · rw [if_neg c1] at hK h4 ⊢
      rw [if_neg (by decide)]
      by_cases c2 : on? sg (b + (i : Int)) = true
      · simp only [c2, if_true] at hK ⊢
        simpa using hK
      · rw [if_neg c2] at h4 ⊢
        rw [if_neg (by decide)]
        refine hW _ _ (by omega) ⟨rfl, i + 1, by omega, ?_⟩
        refine ⟨by simp [va_up, h0], by simp [va_up, h1], by simp [va_up, h2], by simp [va_up], ?_⟩
        rw [h4]
        rfl
  · rw [if_neg hi]
    obtain rfl : r = 0 := by omega
    rw [h4] at hK
    exact hK
theorem e_isMatch {p w : Int} (h : SS M s n D st sg) (hst : VT st) (hp : -1 ≤ p ∧ p ≤ 60) (hw : -2000 ≤ w ∧ w ≤ 2000) : m_X4_isMatch [.inr (some s), .inl p, .inl w] K M ↔ K (if mt? st p w = true then 1 else 0) M := by
  have e3 : Int.toNat 3 = 3 := rfl
  have e1 : Int.toNat 1 = 1 := rfl
  have r1 : inR (p - w) := inR_s (by omega) (by omega)
  have ha : 0 ≤ absI (p - w) ∧ absI (p - w) ≤ 3000 := by unfold absI; split <;> omega
  have r2 : inR (absI (p - w)) := inR_s (by omega) (by omega)
  have hm := tmod_b ha.1
  have r3 : inR ((absI (p - w)).tmod 12) := inR_s (by omega) (by omega)
  have r4 : inR (12 - (absI (p - w)).tmod 12) := inR_s (by omega) (by omega)
  have hab : (if 0 ≤ p - w then p - w else 0 - (p - w)) = absI (p - w) := rfl
  simp only [m_X4_isMatch, mk0, B_X4_isMatch, iC, iL, iF, iA, iAc, iLen, iT, iAdd, iSub, iMul, iDiv, iRem, iNeg, iCh, iAnd31, iQ, iMax, iMin, iAbs, iCallS, iCallV, aN, aI, aR, rL, rF, rA, cEq, cNe, cLt, cGe, cGt, cLe, cAnd, cOr, cNot, cNull, sSkip, sSeq, sLoc, sLocR, sInc, sPut, sPutR, sPutAdd, sPutSub, sAst, sCst, sRst, sAstAdd, sAstSub, sIf1, sIf, sRet, sRetV, sCallV, sCallS, sPop, sCopy, sCopyT, sObj, sSw, iAddW, iMulW, iAndM, iShr, cQ, ent_0, ent_1, ent_2, ent_3, ent_4, ent_5, ent_6, va_up_self, va_up_ne, ne_eq, Nat.reduceEqDiff, not_false_eq_true, not_true_eq_false, si_1, si_2, si_g, sr_1, sr_2, cp_1, cp_2, List.length_cons, List.length_nil, Nat.reduceAdd, true_and, and_true, and_self, eq_self, true_implies, forall_const, Bool.false_eq_true, false_implies, or_true, true_or, Option.some.injEq, Prod.mk.injEq, exists_eq_left', exists_eq', exists_and_left, reduceIte, Int.reduceEq, Int.reduceNe, h.1.1, e_setting h (j := 3) ⟨by decide, by decide⟩, e_setting h (j := 1) ⟨by decide, by decide⟩, r1, hab, r2, r3, r4, e1, e3]
  unfold mt? far
  by_cases c1 : p = -1
  · simp [c1]
  · by_cases c2 : st 3 = 1
    · simp only [c1, c2, if_true, if_false, decide_eq_true_eq, ne_eq, not_false_eq_true, true_and]
      (repeat' split) <;> simp_all
    · simp only [c1, c2, if_true, if_false, decide_eq_true_eq, ne_eq, not_false_eq_true, true_and]
      (repeat' split) <;> simp_all
set_option maxRecDepth 20000 in
theorem e_soundingTicks (h : SS M s n D st sg) (hK : K (sm (fun t => if sg t = -1 then 0 else 1) 600) M) : m_X4_soundingTicks [.inr (some s)] K M := by
  simp only [m_X4_soundingTicks, mk0, B_X4_soundingTicks, iC, iL, iF, iA, iAc, iLen, iT, iAdd, iSub, iMul, iDiv, iRem, iNeg, iCh, iAnd31, iQ, iMax, iMin, iAbs, iCallS, iCallV, aN, aI, aR, rL, rF, rA, cEq, cNe, cLt, cGe, cGt, cLe, cAnd, cOr, cNot, cNull, sSkip, sSeq, sLoc, sLocR, sInc, sPut, sPutR, sPutAdd, sPutSub, sAst, sCst, sRst, sAstAdd, sAstSub, sIf1, sIf, sRet, sRetV, sCallV, sCallS, sPop, sCopy, sCopyT, sObj, sSw, iAddW, iMulW, iAndM, iShr, cQ, ent_0, ent_1, ent_2, ent_3, ent_4, ent_5, ent_6, va_up_self, va_up_ne, ne_eq, Nat.reduceEqDiff, not_false_eq_true, not_true_eq_false, si_1, si_2, si_g, sr_1, sr_2, cp_1, cp_2, List.length_cons, List.length_nil, Nat.reduceAdd, true_and, and_true, and_self, eq_self, true_implies, forall_const, Bool.false_eq_true, false_implies, or_true, true_or, Option.some.injEq, Prod.mk.injEq, exists_eq_left', exists_eq', exists_and_left, reduceIte, Int.reduceEq, Int.reduceNe, h.1.1]
  obtain ⟨N, hN⟩ : ∃ N, N = 600 := ⟨600, rfl⟩
  rw [← hN] at hK
  refine while_n (n := N) (fun r ρ M2 => M2 = M ∧ ∃ i : Nat, i + r = N ∧ ρ 0 = .inr (some s) ∧ ρ 1 = .inl (sm (fun t => if sg t = -1 then 0 else 1) i) ∧ ρ 2 = .inl (i : Int)) ?_ ⟨rfl, 0, by omega, rfl, rfl, rfl⟩
  rintro r W hW ρ M2 ⟨rfl, i, hr, h0, h1, h2⟩
  simp only [h0, h1, h2, h.1.1, iC, iL, iF, iA, iAc, iLen, iT, iAdd, iSub, iMul, iDiv, iRem, iNeg, iCh, iAnd31, iQ, iMax, iMin, iAbs, iCallS, iCallV, aN, aI, aR, rL, rF, rA, cEq, cNe, cLt, cGe, cGt, cLe, cAnd, cOr, cNot, cNull, sSkip, sSeq, sLoc, sLocR, sInc, sPut, sPutR, sPutAdd, sPutSub, sAst, sCst, sRst, sAstAdd, sAstSub, sIf1, sIf, sRet, sRetV, sCallV, sCallS, sPop, sCopy, sCopyT, sObj, sSw, iAddW, iMulW, iAndM, iShr, cQ, ent_0, ent_1, ent_2, ent_3, ent_4, ent_5, ent_6, va_up_self, va_up_ne, ne_eq, Nat.reduceEqDiff, not_false_eq_true, not_true_eq_false, si_1, si_2, si_g, sr_1, sr_2, cp_1, cp_2, List.length_cons, List.length_nil, Nat.reduceAdd, true_and, and_true, and_self, eq_self, true_implies, forall_const, Bool.false_eq_true, false_implies, or_true, true_or, Option.some.injEq, Prod.mk.injEq, exists_eq_left', exists_eq', exists_and_left, reduceIte, Int.reduceEq, Int.reduceNe, e_sungAt h]
  have hb := sm_01 (f := fun t => if sg t = -1 then 0 else 1) (n := i) (fun j _ => by split <;> omega)
  by_cases hi : i < N
  · have r1 : inR (sm (fun t => if sg t = -1 then 0 else 1) i + 1) := inR_s (by omega) (by omega)
    have r2 : inR ((i : Int) + 1) := inR_s (by omega) (by omega)
    have e1 : sm (fun t => if sg t = -1 then 0 else 1) (i + 1) = sm (fun t => if sg t = -1 then 0 else 1) i + (if sg i = -1 then 0 else 1) := rfl
    have e2 : sgA sg (i : Int) = sg i := by unfold sgA; rw [if_pos (by omega)]; simp
    rw [if_pos (by omega), e2]
    by_cases c : sg i = -1
    · rw [if_pos c] at e1
      rw [if_neg (by simp [c])]
      refine ⟨r2, hW _ _ (by omega) ⟨rfl, i + 1, by omega, by simp [va_up, h0], by simp [va_up, h1, e1], by simp [va_up]⟩⟩
    · rw [if_neg c] at e1
      rw [if_pos c]
      refine ⟨r1, r2, hW _ _ (by omega) ⟨rfl, i + 1, by omega, by simp [va_up, h0], by simp [va_up, e1], by simp [va_up]⟩⟩
  · rw [if_neg (by omega)]
    obtain rfl : i = N := by omega
    exact hK
set_option maxRecDepth 20000 in
theorem e_onsets (h : SS M s n D st sg) (hK : K (sm (fun t => if on? sg t = true then 1 else 0) 600) M) : m_X4_onsets [.inr (some s)] K M := by
  simp only [m_X4_onsets, mk0, B_X4_onsets, iC, iL, iF, iA, iAc, iLen, iT, iAdd, iSub, iMul, iDiv, iRem, iNeg, iCh, iAnd31, iQ, iMax, iMin, iAbs, iCallS, iCallV, aN, aI, aR, rL, rF, rA, cEq, cNe, cLt, cGe, cGt, cLe, cAnd, cOr, cNot, cNull, sSkip, sSeq, sLoc, sLocR, sInc, sPut, sPutR, sPutAdd, sPutSub, sAst, sCst, sRst, sAstAdd, sAstSub, sIf1, sIf, sRet, sRetV, sCallV, sCallS, sPop, sCopy, sCopyT, sObj, sSw, iAddW, iMulW, iAndM, iShr, cQ, ent_0, ent_1, ent_2, ent_3, ent_4, ent_5, ent_6, va_up_self, va_up_ne, ne_eq, Nat.reduceEqDiff, not_false_eq_true, not_true_eq_false, si_1, si_2, si_g, sr_1, sr_2, cp_1, cp_2, List.length_cons, List.length_nil, Nat.reduceAdd, true_and, and_true, and_self, eq_self, true_implies, forall_const, Bool.false_eq_true, false_implies, or_true, true_or, Option.some.injEq, Prod.mk.injEq, exists_eq_left', exists_eq', exists_and_left, reduceIte, Int.reduceEq, Int.reduceNe, h.1.1]
  obtain ⟨N, hN⟩ : ∃ N, N = 600 := ⟨600, rfl⟩
  rw [← hN] at hK
  refine while_n (n := N) (fun r ρ M2 => M2 = M ∧ ∃ i : Nat, i + r = N ∧ ρ 0 = .inr (some s) ∧ ρ 1 = .inl (sm (fun t => if on? sg t = true then 1 else 0) i) ∧ ρ 2 = .inl (i : Int)) ?_ ⟨rfl, 0, by omega, rfl, rfl, rfl⟩
  rintro r W hW ρ M2 ⟨rfl, i, hr, h0, h1, h2⟩
  simp only [h0, h1, h2, h.1.1, iC, iL, iF, iA, iAc, iLen, iT, iAdd, iSub, iMul, iDiv, iRem, iNeg, iCh, iAnd31, iQ, iMax, iMin, iAbs, iCallS, iCallV, aN, aI, aR, rL, rF, rA, cEq, cNe, cLt, cGe, cGt, cLe, cAnd, cOr, cNot, cNull, sSkip, sSeq, sLoc, sLocR, sInc, sPut, sPutR, sPutAdd, sPutSub, sAst, sCst, sRst, sAstAdd, sAstSub, sIf1, sIf, sRet, sRetV, sCallV, sCallS, sPop, sCopy, sCopyT, sObj, sSw, iAddW, iMulW, iAndM, iShr, cQ, ent_0, ent_1, ent_2, ent_3, ent_4, ent_5, ent_6, va_up_self, va_up_ne, ne_eq, Nat.reduceEqDiff, not_false_eq_true, not_true_eq_false, si_1, si_2, si_g, sr_1, sr_2, cp_1, cp_2, List.length_cons, List.length_nil, Nat.reduceAdd, true_and, and_true, and_self, eq_self, true_implies, forall_const, Bool.false_eq_true, false_implies, or_true, true_or, Option.some.injEq, Prod.mk.injEq, exists_eq_left', exists_eq', exists_and_left, reduceIte, Int.reduceEq, Int.reduceNe]
  have hb := sm_01 (f := fun t => if on? sg t = true then 1 else 0) (n := i) (fun j _ => by split <;> omega)
  by_cases hi : i < N
  · have r1 : inR (sm (fun t => if on? sg t = true then 1 else 0) i + 1) := inR_s (by omega) (by omega)
    have r2 : inR ((i : Int) + 1) := inR_s (by omega) (by omega)
    have e1 : sm (fun t => if on? sg t = true then 1 else 0) (i + 1) = sm (fun t => if on? sg t = true then 1 else 0) i + (if on? sg i = true then 1 else 0) := rfl
    rw [if_pos (by omega), e_isOnset h ⟨by omega, by omega⟩]
    by_cases c : on? sg i = true
    · rw [if_pos c] at e1 ⊢
      rw [if_pos (by decide)]
      refine ⟨r1, r2, hW _ _ (by omega) ⟨rfl, i + 1, by omega, by simp [va_up, h0], by simp [va_up, e1], by simp [va_up]⟩⟩
    · rw [if_neg c] at e1 ⊢
      rw [if_neg (by decide)]
      refine ⟨r2, hW _ _ (by omega) ⟨rfl, i + 1, by omega, by simp [va_up, h0], by simp [va_up, h1, e1], by simp [va_up]⟩⟩
  · rw [if_neg (by omega)]
    obtain rfl : i = N := by omega
    exact hK
end STATE2
