/-! ===== the reference ===== -/
def MdP (M : Mm) : Prop := M.1[80]? = some (7, 0) ∧ (M.1[81]? = some (20, 806) ∧ M.1[82]? = some (20, 3224) ∧ M.1[83]? = some (20, 806) ∧ M.1[84]? = some (21, 60) ∧ M.1[85]? = some (20, 600) ∧ M.1[86]? = some (20, 40) ∧ M.1[87]? = some (20, 40) ∧ M.1[88]? = some (20, 40) ∧ M.1[89]? = some (20, 40) ∧ M.1[90]? = some (20, 40) ∧ M.1[91]? = some (20, 4)) ∧ M.2.2 80 0 = some 81 ∧ M.2.2 80 1 = some 82 ∧ M.2.2 80 3 = some 83 ∧ M.2.2 80 5 = some 84 ∧ M.2.2 80 7 = some 85 ∧ M.2.2 80 8 = some 86 ∧ M.2.2 80 9 = some 87 ∧ M.2.2 80 10 = some 88 ∧ M.2.2 80 11 = some 89 ∧ M.2.2 80 12 = some 90 ∧ M.2.2 80 14 = some 91
theorem MdP_fr {M M2 : Mm} (h : MdP M) (h1 : M2.1 = M.1) (h2 : M2.2.2 = M.2.2) : MdP M2 := by
  unfold MdP at *
  rw [h1, h2]
  exact h
/-- the row of the reference's state -/
def MR (M : Mm) (n : Nat) (D : Nat → Nat → Int) (st : Nat → Int) : Prop := MdP M ∧ n ≤ 40 ∧ M.2.1 81 5 = n ∧ (∀ k, k < n → ∀ w, w < 5 → M.2.1 81 (6 + 5 * k + w) = D k w) ∧ ∀ j, j < 5 → M.2.1 81 j = st j
def MG (M : Mm) (sg : Nat → Int) : Prop := ∀ t, t < 600 → M.2.1 81 (206 + t) = sg t + 1
theorem MR_fr {M M2 : Mm} {n : Nat} {D : Nat → Nat → Int} {st : Nat → Int} (h : MR M n D st) (h1 : M2.1 = M.1) (h2 : M2.2.2 = M.2.2) (h3 : ∀ j, j < 206 → M2.2.1 81 j = M.2.1 81 j) : MR M2 n D st := by
  obtain ⟨a, b, c, d, e⟩ := h
  refine ⟨MdP_fr a h1 h2, b, by rw [h3 5 (by omega)]; exact c, fun k hk w hw => by rw [h3 _ (by omega)]; exact d k hk w hw, fun j hj => by rw [h3 j (by omega)]; exact e j hj⟩
section MLEAF
variable {K : Int → Mm → Prop} {M : Mm} {n : Nat} {D : Nat → Nat → Int} {st sg : Nat → Int}
theorem e_in {v a b : Int} : m_X7_in [.inl v, .inl a, .inl b] K M ↔ K (if a ≤ v ∧ v ≤ b then 1 else 0) M := by
  simp only [m_X7_in, mk0, B_X7_in, iC, iL, iF, iA, iAc, iLen, iT, iAdd, iSub, iMul, iDiv, iRem, iNeg, iCh, iAnd31, iQ, iMax, iMin, iAbs, iCallS, iCallV, aN, aI, aR, rL, rF, rA, cEq, cNe, cLt, cGe, cGt, cLe, cAnd, cOr, cNot, cNull, sSkip, sSeq, sLoc, sLocR, sInc, sPut, sPutR, sPutAdd, sPutSub, sAst, sCst, sRst, sAstAdd, sAstSub, sIf1, sIf, sRet, sRetV, sCallV, sCallS, sPop, sCopy, sCopyT, sObj, sSw, ent_0, ent_1, ent_2, ent_3, ent_4, ent_5, ent_6, va_up_self, va_up_ne, ne_eq, Nat.reduceEqDiff, not_false_eq_true, not_true_eq_false, si_1, si_2, si_g, sr_1, sr_2, cp_1, cp_2, List.length_cons, List.length_nil, Nat.reduceAdd, true_and, and_true, and_self, eq_self, true_implies, forall_const, Bool.false_eq_true, false_implies, or_true, true_or, Option.some.injEq, Prod.mk.injEq, exists_eq_left', exists_eq', exists_and_left, reduceIte, Int.reduceEq, Int.reduceNe]
  (repeat' split) <;> first | rfl | (exfalso; omega)
theorem e_sizeI {v : Int} (h : -1000000 ≤ v ∧ v ≤ 1000000) : m_X7_size [.inl v] K M ↔ K (absI v) M := by
  have r1 : inR (-v) := inR_s (by omega) (by omega)
  simp only [m_X7_size, mk0, B_X7_size, iC, iL, iF, iA, iAc, iLen, iT, iAdd, iSub, iMul, iDiv, iRem, iNeg, iCh, iAnd31, iQ, iMax, iMin, iAbs, iCallS, iCallV, aN, aI, aR, rL, rF, rA, cEq, cNe, cLt, cGe, cGt, cLe, cAnd, cOr, cNot, cNull, sSkip, sSeq, sLoc, sLocR, sInc, sPut, sPutR, sPutAdd, sPutSub, sAst, sCst, sRst, sAstAdd, sAstSub, sIf1, sIf, sRet, sRetV, sCallV, sCallS, sPop, sCopy, sCopyT, sObj, sSw, ent_0, ent_1, ent_2, ent_3, ent_4, ent_5, ent_6, va_up_self, va_up_ne, ne_eq, Nat.reduceEqDiff, not_false_eq_true, not_true_eq_false, si_1, si_2, si_g, sr_1, sr_2, cp_1, cp_2, List.length_cons, List.length_nil, Nat.reduceAdd, true_and, and_true, and_self, eq_self, true_implies, forall_const, Bool.false_eq_true, false_implies, or_true, true_or, Option.some.injEq, Prod.mk.injEq, exists_eq_left', exists_eq', exists_and_left, reduceIte, Int.reduceEq, Int.reduceNe, r1]
  unfold absI
  by_cases c : v < 0
  · rw [if_pos c, if_neg (by omega), show -v = 0 - v by omega]
  · rw [if_neg c, if_pos (by omega)]
theorem b01 (p : Prop) [Decidable p] : ((if p then (1 : Int) else 0) = 0 ∨ (if p then (1 : Int) else 0) = 1) = True := by
  split <;> simp
theorem e_isPitch {v : Int} : m_X7_isPitch [.inl v] K M ↔ K (if 0 ≤ v ∧ v ≤ 60 then 1 else 0) M := by
  simp only [m_X7_isPitch, mk0, B_X7_isPitch, iC, iL, iF, iA, iAc, iLen, iT, iAdd, iSub, iMul, iDiv, iRem, iNeg, iCh, iAnd31, iQ, iMax, iMin, iAbs, iCallS, iCallV, aN, aI, aR, rL, rF, rA, cEq, cNe, cLt, cGe, cGt, cLe, cAnd, cOr, cNot, cNull, sSkip, sSeq, sLoc, sLocR, sInc, sPut, sPutR, sPutAdd, sPutSub, sAst, sCst, sRst, sAstAdd, sAstSub, sIf1, sIf, sRet, sRetV, sCallV, sCallS, sPop, sCopy, sCopyT, sObj, sSw, ent_0, ent_1, ent_2, ent_3, ent_4, ent_5, ent_6, va_up_self, va_up_ne, ne_eq, Nat.reduceEqDiff, not_false_eq_true, not_true_eq_false, si_1, si_2, si_g, sr_1, sr_2, cp_1, cp_2, List.length_cons, List.length_nil, Nat.reduceAdd, true_and, and_true, and_self, eq_self, true_implies, forall_const, Bool.false_eq_true, false_implies, or_true, true_or, Option.some.injEq, Prod.mk.injEq, exists_eq_left', exists_eq', exists_and_left, reduceIte, Int.reduceEq, Int.reduceNe, e_in, b01]
theorem e_isTick {v : Int} : m_X7_isTick [.inl v] K M ↔ K (if 0 ≤ v ∧ v ≤ 599 then 1 else 0) M := by
  simp only [m_X7_isTick, mk0, B_X7_isTick, iC, iL, iF, iA, iAc, iLen, iT, iAdd, iSub, iMul, iDiv, iRem, iNeg, iCh, iAnd31, iQ, iMax, iMin, iAbs, iCallS, iCallV, aN, aI, aR, rL, rF, rA, cEq, cNe, cLt, cGe, cGt, cLe, cAnd, cOr, cNot, cNull, sSkip, sSeq, sLoc, sLocR, sInc, sPut, sPutR, sPutAdd, sPutSub, sAst, sCst, sRst, sAstAdd, sAstSub, sIf1, sIf, sRet, sRetV, sCallV, sCallS, sPop, sCopy, sCopyT, sObj, sSw, ent_0, ent_1, ent_2, ent_3, ent_4, ent_5, ent_6, va_up_self, va_up_ne, ne_eq, Nat.reduceEqDiff, not_false_eq_true, not_true_eq_false, si_1, si_2, si_g, sr_1, sr_2, cp_1, cp_2, List.length_cons, List.length_nil, Nat.reduceAdd, true_and, and_true, and_self, eq_self, true_implies, forall_const, Bool.false_eq_true, false_implies, or_true, true_or, Option.some.injEq, Prod.mk.injEq, exists_eq_left', exists_eq', exists_and_left, reduceIte, Int.reduceEq, Int.reduceNe, e_in, b01]
theorem e_isSyllable {v : Int} (h : MR M n D st) : m_X7_isSyllable [.inr (some 80), .inl v] K M ↔ K (if 0 ≤ v ∧ v < n then 1 else 0) M := by
  obtain ⟨⟨m0, mA, mR⟩, hn, h5, hD, hs⟩ := h
  have r1 : inR ((n : Int) - 1) := inR_s (by omega) (by omega)
  have e5 : Int.toNat 5 = 5 := rfl
  have c : (0 : Int) ≤ 5 ∧ (5 : Int) < (806 : Nat) := by decide
  simp only [m_X7_isSyllable, mk0, B_X7_isSyllable, iC, iL, iF, iA, iAc, iLen, iT, iAdd, iSub, iMul, iDiv, iRem, iNeg, iCh, iAnd31, iQ, iMax, iMin, iAbs, iCallS, iCallV, aN, aI, aR, rL, rF, rA, cEq, cNe, cLt, cGe, cGt, cLe, cAnd, cOr, cNot, cNull, sSkip, sSeq, sLoc, sLocR, sInc, sPut, sPutR, sPutAdd, sPutSub, sAst, sCst, sRst, sAstAdd, sAstSub, sIf1, sIf, sRet, sRetV, sCallV, sCallS, sPop, sCopy, sCopyT, sObj, sSw, ent_0, ent_1, ent_2, ent_3, ent_4, ent_5, ent_6, va_up_self, va_up_ne, ne_eq, Nat.reduceEqDiff, not_false_eq_true, not_true_eq_false, si_1, si_2, si_g, sr_1, sr_2, cp_1, cp_2, List.length_cons, List.length_nil, Nat.reduceAdd, true_and, and_true, and_self, eq_self, true_implies, forall_const, Bool.false_eq_true, false_implies, or_true, true_or, Option.some.injEq, Prod.mk.injEq, exists_eq_left', exists_eq', exists_and_left, reduceIte, Int.reduceEq, Int.reduceNe, m0, mA, mR, e5, h5, c.1, c.2, r1, e_in, b01]
  have : (0 ≤ v ∧ v ≤ (n : Int) - 1) = (0 ≤ v ∧ v < (n : Int)) := by apply propext; omega
  simp only [this]
theorem e_ofM {k w : Nat} (h : MdP M) (hk : k < 40) (hw : w < 5) : m_X7_of [.inr (some 80), .inl k, .inl w] K M ↔ K (M.2.1 81 (6 + 5 * k + w)) M := by
  obtain ⟨m0, mA, mR⟩ := h
  have r1 : inR (5 * (k : Int)) := inR_s (by omega) (by omega)
  have r2 : inR (6 + 5 * (k : Int)) := inR_s (by omega) (by omega)
  have r3 : inR (6 + 5 * (k : Int) + (w : Int)) := inR_s (by omega) (by omega)
  have e : (6 + 5 * (k : Int) + (w : Int)).toNat = 6 + 5 * k + w := by omega
  have c1 : 0 ≤ 6 + 5 * (k : Int) + (w : Int) := by omega
  have c2 : 6 + 5 * (k : Int) + (w : Int) < (806 : Nat) := by omega
  simp only [m_X7_of, mk0, B_X7_of, iC, iL, iF, iA, iAc, iLen, iT, iAdd, iSub, iMul, iDiv, iRem, iNeg, iCh, iAnd31, iQ, iMax, iMin, iAbs, iCallS, iCallV, aN, aI, aR, rL, rF, rA, cEq, cNe, cLt, cGe, cGt, cLe, cAnd, cOr, cNot, cNull, sSkip, sSeq, sLoc, sLocR, sInc, sPut, sPutR, sPutAdd, sPutSub, sAst, sCst, sRst, sAstAdd, sAstSub, sIf1, sIf, sRet, sRetV, sCallV, sCallS, sPop, sCopy, sCopyT, sObj, sSw, ent_0, ent_1, ent_2, ent_3, ent_4, ent_5, ent_6, va_up_self, va_up_ne, ne_eq, Nat.reduceEqDiff, not_false_eq_true, not_true_eq_false, si_1, si_2, si_g, sr_1, sr_2, cp_1, cp_2, List.length_cons, List.length_nil, Nat.reduceAdd, true_and, and_true, and_self, eq_self, true_implies, forall_const, Bool.false_eq_true, false_implies, or_true, true_or, Option.some.injEq, Prod.mk.injEq, exists_eq_left', exists_eq', exists_and_left, reduceIte, Int.reduceEq, Int.reduceNe, m0, mA, mR, r1, r2, r3, c1, c2, e]
theorem e_of {k w : Nat} (h : MR M n D st) (hk : k < n) (hw : w < 5) : m_X7_of [.inr (some 80), .inl k, .inl w] K M ↔ K (D k w) M := by
  have h40 := h.2.1
  rw [e_ofM h.1 (by omega) hw, h.2.2.2.1 k hk w hw]
theorem e_of0 {k : Nat} (h : MR M n D st) (hk : k < n) : m_X7_of [.inr (some 80), .inl k, .inl 0] K M ↔ K (D k 0) M := e_of (w := 0) h hk (by decide)
theorem e_of1 {k : Nat} (h : MR M n D st) (hk : k < n) : m_X7_of [.inr (some 80), .inl k, .inl 1] K M ↔ K (D k 1) M := e_of (w := 1) h hk (by decide)
theorem e_of2 {k : Nat} (h : MR M n D st) (hk : k < n) : m_X7_of [.inr (some 80), .inl k, .inl 2] K M ↔ K (D k 2) M := e_of (w := 2) h hk (by decide)
theorem e_of3 {k : Nat} (h : MR M n D st) (hk : k < n) : m_X7_of [.inr (some 80), .inl k, .inl 3] K M ↔ K (D k 3) M := e_of (w := 3) h hk (by decide)
theorem e_of4 {k : Nat} (h : MR M n D st) (hk : k < n) : m_X7_of [.inr (some 80), .inl k, .inl 4] K M ↔ K (D k 4) M := e_of (w := 4) h hk (by decide)
theorem e_behind {k : Nat} (h : MR M n D st) (hv : VD n D) (hk : k < n) : m_X7_behind [.inr (some 80), .inl k] K M ↔ K (D k 0 + D k 1) M := by
  have hb := hv.2.1 k hk
  have r1 : inR (D k 0 + D k 1) := inR_s (by omega) (by omega)
  have c : ¬ ((k : Int) < 0) := by omega
  simp only [m_X7_behind, mk0, B_X7_behind, iC, iL, iF, iA, iAc, iLen, iT, iAdd, iSub, iMul, iDiv, iRem, iNeg, iCh, iAnd31, iQ, iMax, iMin, iAbs, iCallS, iCallV, aN, aI, aR, rL, rF, rA, cEq, cNe, cLt, cGe, cGt, cLe, cAnd, cOr, cNot, cNull, sSkip, sSeq, sLoc, sLocR, sInc, sPut, sPutR, sPutAdd, sPutSub, sAst, sCst, sRst, sAstAdd, sAstSub, sIf1, sIf, sRet, sRetV, sCallV, sCallS, sPop, sCopy, sCopyT, sObj, sSw, ent_0, ent_1, ent_2, ent_3, ent_4, ent_5, ent_6, va_up_self, va_up_ne, ne_eq, Nat.reduceEqDiff, not_false_eq_true, not_true_eq_false, si_1, si_2, si_g, sr_1, sr_2, cp_1, cp_2, List.length_cons, List.length_nil, Nat.reduceAdd, true_and, and_true, and_self, eq_self, true_implies, forall_const, Bool.false_eq_true, false_implies, or_true, true_or, Option.some.injEq, Prod.mk.injEq, exists_eq_left', exists_eq', exists_and_left, reduceIte, Int.reduceEq, Int.reduceNe, h.1.1, e_of0 h hk, e_of1 h hk, r1, c, if_false]
theorem e_endOfSong (h : MR M n D st) (hv : VD n D) : m_X7_endOfSong [.inr (some 80)] K M ↔ K (tk n D) M := by
  obtain ⟨m0, mA, mR⟩ := h.1
  have hn := h.2.1
  have r1 : inR ((n : Int) - 1) := inR_s (by omega) (by omega)
  have e5 : Int.toNat 5 = 5 := rfl
  have c : (0 : Int) ≤ 5 ∧ (5 : Int) < (806 : Nat) := by decide
  simp only [m_X7_endOfSong, mk0, B_X7_endOfSong, iC, iL, iF, iA, iAc, iLen, iT, iAdd, iSub, iMul, iDiv, iRem, iNeg, iCh, iAnd31, iQ, iMax, iMin, iAbs, iCallS, iCallV, aN, aI, aR, rL, rF, rA, cEq, cNe, cLt, cGe, cGt, cLe, cAnd, cOr, cNot, cNull, sSkip, sSeq, sLoc, sLocR, sInc, sPut, sPutR, sPutAdd, sPutSub, sAst, sCst, sRst, sAstAdd, sAstSub, sIf1, sIf, sRet, sRetV, sCallV, sCallS, sPop, sCopy, sCopyT, sObj, sSw, ent_0, ent_1, ent_2, ent_3, ent_4, ent_5, ent_6, va_up_self, va_up_ne, ne_eq, Nat.reduceEqDiff, not_false_eq_true, not_true_eq_false, si_1, si_2, si_g, sr_1, sr_2, cp_1, cp_2, List.length_cons, List.length_nil, Nat.reduceAdd, true_and, and_true, and_self, eq_self, true_implies, forall_const, Bool.false_eq_true, false_implies, or_true, true_or, Option.some.injEq, Prod.mk.injEq, exists_eq_left', exists_eq', exists_and_left, reduceIte, Int.reduceEq, Int.reduceNe, m0, mA, mR, e5, h.2.2.1, c.1, c.2, r1]
  unfold tk
  by_cases h0 : n = 0
  · subst h0
    have c : (((0 : Nat) : Int) - 1) < 0 := by omega
    simp only [m_X7_behind, mk0, B_X7_behind, iC, iL, iF, iA, iAc, iLen, iT, iAdd, iSub, iMul, iDiv, iRem, iNeg, iCh, iAnd31, iQ, iMax, iMin, iAbs, iCallS, iCallV, aN, aI, aR, rL, rF, rA, cEq, cNe, cLt, cGe, cGt, cLe, cAnd, cOr, cNot, cNull, sSkip, sSeq, sLoc, sLocR, sInc, sPut, sPutR, sPutAdd, sPutSub, sAst, sCst, sRst, sAstAdd, sAstSub, sIf1, sIf, sRet, sRetV, sCallV, sCallS, sPop, sCopy, sCopyT, sObj, sSw, ent_0, ent_1, ent_2, ent_3, ent_4, ent_5, ent_6, va_up_self, va_up_ne, ne_eq, Nat.reduceEqDiff, not_false_eq_true, not_true_eq_false, si_1, si_2, si_g, sr_1, sr_2, cp_1, cp_2, List.length_cons, List.length_nil, Nat.reduceAdd, true_and, and_true, and_self, eq_self, true_implies, forall_const, Bool.false_eq_true, false_implies, or_true, true_or, Option.some.injEq, Prod.mk.injEq, exists_eq_left', exists_eq', exists_and_left, reduceIte, Int.reduceEq, Int.reduceNe, m0, c, if_true]
  · obtain ⟨m, rfl⟩ : ∃ m, n = m + 1 := ⟨n - 1, by omega⟩
    have e : (((m + 1 : Nat) : Int) - 1) = (m : Nat) := by omega
    rw [e, e_behind h hv (Nat.lt_succ_self m), if_neg h0]
    simp only [ent_0, ent_1, ent_2, ent_3, ent_4, ent_5, ent_6, va_up_self, va_up_ne, ne_eq, Nat.reduceEqDiff, not_false_eq_true, not_true_eq_false, si_1, si_2, si_g, sr_1, sr_2, cp_1, cp_2, List.length_cons, List.length_nil, Nat.reduceAdd, true_and, and_true, and_self, eq_self, true_implies, forall_const, Bool.false_eq_true, false_implies, or_true, true_or, Option.some.injEq, Prod.mk.injEq, exists_eq_left', exists_eq', exists_and_left, reduceIte, Int.reduceEq, Int.reduceNe]
    rfl
theorem e_wantedIn {k : Nat} {j : Int} (h : MR M n D st) (hv : VD n D) (hk : k < n) (hj : 0 ≤ j ∧ j ≤ 32) : m_X7_wantedIn [.inr (some 80), .inl k, .inl j] K M ↔ K (wn D k j) M := by
  have h1 := hv.2.1 k hk
  obtain ⟨b1, b2, b3, b4, b5⟩ := wn_b hv hk hj
  have r1 : inR (D k 1 - 1) := inR_s (by omega) (by omega)
  have r2 : inR (D k 3 - D k 2) := inR_s (by omega) (by omega)
  have r3 : inR ((D k 3 - D k 2) * j) := inR_s (by omega) (by omega)
  simp only [m_X7_wantedIn, mk0, B_X7_wantedIn, iC, iL, iF, iA, iAc, iLen, iT, iAdd, iSub, iMul, iDiv, iRem, iNeg, iCh, iAnd31, iQ, iMax, iMin, iAbs, iCallS, iCallV, aN, aI, aR, rL, rF, rA, cEq, cNe, cLt, cGe, cGt, cLe, cAnd, cOr, cNot, cNull, sSkip, sSeq, sLoc, sLocR, sInc, sPut, sPutR, sPutAdd, sPutSub, sAst, sCst, sRst, sAstAdd, sAstSub, sIf1, sIf, sRet, sRetV, sCallV, sCallS, sPop, sCopy, sCopyT, sObj, sSw, ent_0, ent_1, ent_2, ent_3, ent_4, ent_5, ent_6, va_up_self, va_up_ne, ne_eq, Nat.reduceEqDiff, not_false_eq_true, not_true_eq_false, si_1, si_2, si_g, sr_1, sr_2, cp_1, cp_2, List.length_cons, List.length_nil, Nat.reduceAdd, true_and, and_true, and_self, eq_self, true_implies, forall_const, Bool.false_eq_true, false_implies, or_true, true_or, Option.some.injEq, Prod.mk.injEq, exists_eq_left', exists_eq', exists_and_left, reduceIte, Int.reduceEq, Int.reduceNe, h.1.1, e_of1 h hk, e_of2 h hk, e_of3 h hk, r1, r2, r3]
  unfold wn at b1 b2 ⊢
  by_cases hl : D k 1 = 1
  · simp only [hl, if_true]
  · have h5 := b5 (by omega)
    rw [if_neg hl] at b1 b2 ⊢
    have n2 : ¬ (D k 1 - 1 = 0) := by omega
    have r4 : inR (((D k 3 - D k 2) * j).tdiv (D k 1 - 1)) := inR_s (by omega) (by omega)
    have r5 : inR (D k 2 + ((D k 3 - D k 2) * j).tdiv (D k 1 - 1)) := inR_s (by omega) (by omega)
    simp only [hl, n2, r4, r5, if_false, true_and, not_false_eq_true]
set_option maxRecDepth 20000 in
theorem e_phraseOf7 {k : Nat} (h : MR M n D st) (hv : VD n D) (hk : k < n) (hK : K (ph D k) M) : m_X7_phraseOf [.inr (some 80), .inl k] K M := by
  have hn := h.2.1
  simp only [m_X7_phraseOf, mk0, B_X7_phraseOf, iC, iL, iF, iA, iAc, iLen, iT, iAdd, iSub, iMul, iDiv, iRem, iNeg, iCh, iAnd31, iQ, iMax, iMin, iAbs, iCallS, iCallV, aN, aI, aR, rL, rF, rA, cEq, cNe, cLt, cGe, cGt, cLe, cAnd, cOr, cNot, cNull, sSkip, sSeq, sLoc, sLocR, sInc, sPut, sPutR, sPutAdd, sPutSub, sAst, sCst, sRst, sAstAdd, sAstSub, sIf1, sIf, sRet, sRetV, sCallV, sCallS, sPop, sCopy, sCopyT, sObj, sSw, ent_0, ent_1, ent_2, ent_3, ent_4, ent_5, ent_6, va_up_self, va_up_ne, ne_eq, Nat.reduceEqDiff, not_false_eq_true, not_true_eq_false, si_1, si_2, si_g, sr_1, sr_2, cp_1, cp_2, List.length_cons, List.length_nil, Nat.reduceAdd, true_and, and_true, and_self, eq_self, true_implies, forall_const, Bool.false_eq_true, false_implies, or_true, true_or, Option.some.injEq, Prod.mk.injEq, exists_eq_left', exists_eq', exists_and_left, reduceIte, Int.reduceEq, Int.reduceNe]
  refine while_n (n := k + 1) (fun r ρ M2 => M2 = M ∧ ∃ i : Nat, i + r = k + 1 ∧ ρ 0 = .inr (some 80) ∧ ρ 1 = .inl (k : Int) ∧ ρ 2 = .inl (cnt1 D i - 1) ∧ ρ 3 = .inl (i : Int)) ?_ ⟨rfl, 0, by omega, rfl, rfl, rfl, rfl⟩
  rintro r W hW ρ M2 ⟨rfl, i, hr, h0, h1, h2, h3⟩
  simp only [h0, h1, h2, h3, h.1.1, iC, iL, iF, iA, iAc, iLen, iT, iAdd, iSub, iMul, iDiv, iRem, iNeg, iCh, iAnd31, iQ, iMax, iMin, iAbs, iCallS, iCallV, aN, aI, aR, rL, rF, rA, cEq, cNe, cLt, cGe, cGt, cLe, cAnd, cOr, cNot, cNull, sSkip, sSeq, sLoc, sLocR, sInc, sPut, sPutR, sPutAdd, sPutSub, sAst, sCst, sRst, sAstAdd, sAstSub, sIf1, sIf, sRet, sRetV, sCallV, sCallS, sPop, sCopy, sCopyT, sObj, sSw, ent_0, ent_1, ent_2, ent_3, ent_4, ent_5, ent_6, va_up_self, va_up_ne, ne_eq, Nat.reduceEqDiff, not_false_eq_true, not_true_eq_false, si_1, si_2, si_g, sr_1, sr_2, cp_1, cp_2, List.length_cons, List.length_nil, Nat.reduceAdd, true_and, and_true, and_self, eq_self, true_implies, forall_const, Bool.false_eq_true, false_implies, or_true, true_or, Option.some.injEq, Prod.mk.injEq, exists_eq_left', exists_eq', exists_and_left, reduceIte, Int.reduceEq, Int.reduceNe]
  by_cases hi : i ≤ k
  · have hc := cnt1_b hv (i + 1) (by omega)
    have hs : cnt1 D (i + 1) = cnt1 D i + D i 4 := rfl
    have r1 : inR (cnt1 D i - 1 + D i 4) := inR_s (by omega) (by omega)
    have r2 : inR ((i : Int) + 1) := inR_s (by omega) (by omega)
    rw [if_pos (by omega), e_of4 h (by omega)]
    refine ⟨r1, r2, hW _ _ (by omega) ⟨rfl, i + 1, by omega, by simp [va_up, h0], by simp [va_up, h1], ?_, by simp [va_up]⟩⟩
    simp [va_up]
    omega
  · rw [if_neg (by omega)]
    obtain rfl : i = k + 1 := by omega
    exact hK
theorem e_phrases (h : MR M n D st) (hv : VD n D) (hK : K (cnt1 D n) M) : m_X7_phrases [.inr (some 80)] K M := by
  obtain ⟨m0, mA, mR⟩ := h.1
  have hn := h.2.1
  have r1 : inR ((n : Int) - 1) := inR_s (by omega) (by omega)
  have e5 : Int.toNat 5 = 5 := rfl
  have c : (0 : Int) ≤ 5 ∧ (5 : Int) < (806 : Nat) := by decide
  simp only [m_X7_phrases, mk0, B_X7_phrases, iC, iL, iF, iA, iAc, iLen, iT, iAdd, iSub, iMul, iDiv, iRem, iNeg, iCh, iAnd31, iQ, iMax, iMin, iAbs, iCallS, iCallV, aN, aI, aR, rL, rF, rA, cEq, cNe, cLt, cGe, cGt, cLe, cAnd, cOr, cNot, cNull, sSkip, sSeq, sLoc, sLocR, sInc, sPut, sPutR, sPutAdd, sPutSub, sAst, sCst, sRst, sAstAdd, sAstSub, sIf1, sIf, sRet, sRetV, sCallV, sCallS, sPop, sCopy, sCopyT, sObj, sSw, ent_0, ent_1, ent_2, ent_3, ent_4, ent_5, ent_6, va_up_self, va_up_ne, ne_eq, Nat.reduceEqDiff, not_false_eq_true, not_true_eq_false, si_1, si_2, si_g, sr_1, sr_2, cp_1, cp_2, List.length_cons, List.length_nil, Nat.reduceAdd, true_and, and_true, and_self, eq_self, true_implies, forall_const, Bool.false_eq_true, false_implies, or_true, true_or, Option.some.injEq, Prod.mk.injEq, exists_eq_left', exists_eq', exists_and_left, reduceIte, Int.reduceEq, Int.reduceNe, m0, mA, mR, e5, h.2.2.1, c.1, c.2, r1]
  by_cases h0 : n = 0
  · subst h0
    rw [if_pos (by rfl)]
    exact hK
  · obtain ⟨m, rfl⟩ : ∃ m, n = m + 1 := ⟨n - 1, by omega⟩
    have e : (((m + 1 : Nat) : Int) - 1) = (m : Nat) := by omega
    have hb := ph_b hv (Nat.lt_succ_self m)
    have hne : ¬ (((m + 1 : Nat) : Int) = 0) := by omega
    have e2 : ph D m + 1 = cnt1 D (m + 1) := by unfold ph; omega
    rw [if_neg hne, e]
    refine e_phraseOf7 h hv (Nat.lt_succ_self m) ⟨inR_s (by omega) (by omega), ?_⟩
    rw [e2]
    exact ⟨rfl, hK⟩
end MLEAF
