/-! ===== the song: n syllables, D k 0 .. 4: beginning, length, pitch, end pitch, whether it begins a phrase ===== -/
def cnt1 (D : Nat → Nat → Int) : Nat → Int
  | 0 => 0
  | n + 1 => cnt1 D n + D n 4
def ph (D : Nat → Nat → Int) (k : Nat) : Int := cnt1 D (k + 1) - 1
def VD (n : Nat) (D : Nat → Nat → Int) : Prop := n ≤ 40 ∧ (∀ k, k < n → 0 ≤ D k 0 ∧ 1 ≤ D k 1 ∧ D k 1 ≤ 32 ∧ D k 0 + D k 1 ≤ 600 ∧ 0 ≤ D k 2 ∧ D k 2 ≤ 60 ∧ 0 ≤ D k 3 ∧ D k 3 ≤ 60 ∧ (D k 4 = 0 ∨ D k 4 = 1)) ∧ (0 < n → D 0 4 = 1) ∧ ∀ k, k + 1 < n → D k 0 + D k 1 ≤ D (k + 1) 0
/-- the song at the place k -/
def CS (M : Mm) (k n : Nat) (D : Nat → Nat → Int) : Prop := SongP M k ∧ n ≤ 40 ∧ M.2.1 k 5 = n ∧ ∀ i, i < n → M.2.1 (k + 1) i = D i 0 ∧ M.2.1 (k + 2) i = D i 1 ∧ M.2.1 (k + 3) i = D i 2 ∧ M.2.1 (k + 4) i = D i 3 ∧ M.2.1 (k + 5) i = ph D i
def at0 (n : Nat) (D : Nat → Nat → Int) (w : Nat) (i : Int) : Int := if 0 ≤ i ∧ i < n then D i.toNat w else 0
def phA (n : Nat) (D : Nat → Nat → Int) (i : Int) : Int := if 0 ≤ i ∧ i < n then ph D i.toNat else -5
theorem at0_in {n : Nat} {D : Nat → Nat → Int} {w i : Nat} (h : i < n) : at0 n D w i = D i w := by
  unfold at0
  rw [if_pos (by omega)]
  simp
theorem phA_in {n : Nat} {D : Nat → Nat → Int} {i : Nat} (h : i < n) : phA n D i = ph D i := by
  unfold phA
  rw [if_pos (by omega)]
  simp
theorem cnt1_b {n : Nat} {D : Nat → Nat → Int} (h : VD n D) : ∀ k, k ≤ n → 0 ≤ cnt1 D k ∧ cnt1 D k ≤ k := by
  intro k
  induction k with
  | zero => intro _; exact ⟨Int.le_refl 0, Int.le_refl 0⟩
  | succ k ih =>
    intro hk
    have h1 := ih (by omega)
    have h2 := (h.2.1 k (by omega)).2.2.2.2.2.2.2.2
    show 0 ≤ cnt1 D k + D k 4 ∧ cnt1 D k + D k 4 ≤ ((k + 1 : Nat) : Int)
    omega
theorem ph_b {n : Nat} {D : Nat → Nat → Int} (h : VD n D) {k : Nat} (hk : k < n) : 0 ≤ ph D k ∧ ph D k ≤ k := by
  have h1 := cnt1_b h (k + 1) (by omega)
  refine ⟨?_, by unfold ph; omega⟩
  have : ∀ j, j < n → 1 ≤ cnt1 D (j + 1) := by
    intro j
    induction j with
    | zero =>
      intro hj
      have := h.2.2.1 (by omega)
      show 1 ≤ 0 + D 0 4
      omega
    | succ j ih =>
      intro hj
      have h3 := ih (by omega)
      have h4 := (h.2.1 (j + 1) hj).2.2.2.2.2.2.2.2
      show 1 ≤ cnt1 D (j + 1) + D (j + 1) 4
      omega
  have := this k hk
  unfold ph
  omega
theorem ph_s {D : Nat → Nat → Int} (k : Nat) : ph D (k + 1) = ph D k + D (k + 1) 4 := by
  show cnt1 D (k + 1) + D (k + 1) 4 - 1 = cnt1 D (k + 1) - 1 + D (k + 1) 4
  omega
section SONG
variable {K : Int → Mm → Prop} {M : Mm} {k n : Nat} {D : Nat → Nat → Int}
theorem e_size (h : CS M k n D) : m_X3_size [.inr (some k)] K M ↔ K n M := by
  simp only [m_X3_size, mk0, B_X3_size, iC, iL, iF, iA, iAc, iLen, iT, iAdd, iSub, iMul, iDiv, iRem, iNeg, iCh, iAnd31, iQ, iMax, iMin, iAbs, iCallS, iCallV, aN, aI, aR, rL, rF, rA, cEq, cNe, cLt, cGe, cGt, cLe, cAnd, cOr, cNot, cNull, sSkip, sSeq, sLoc, sLocR, sInc, sPut, sPutR, sPutAdd, sPutSub, sAst, sCst, sRst, sAstAdd, sAstSub, sIf1, sIf, sRet, sRetV, sCallV, sCallS, sPop, sCopy, sCopyT, sObj, sSw, iAddW, iMulW, iAndM, iShr, cQ, ent_0, ent_1, ent_2, ent_3, ent_4, ent_5, ent_6, va_up_self, va_up_ne, ne_eq, Nat.reduceEqDiff, not_false_eq_true, not_true_eq_false, si_1, si_2, si_g, sr_1, sr_2, cp_1, cp_2, List.length_cons, List.length_nil, Nat.reduceAdd, true_and, and_true, and_self, eq_self, true_implies, forall_const, Bool.false_eq_true, false_implies, or_true, true_or, Option.some.injEq, Prod.mk.injEq, exists_eq_left', exists_eq', exists_and_left, reduceIte, Int.reduceEq, Int.reduceNe, h.1.o.1, h.2.2.1]
theorem e_has {i : Int} (h : CS M k n D) : m_X3_has [.inr (some k), .inl i] K M ↔ K (if 0 ≤ i ∧ i < n then 1 else 0) M := by
  have h40 := h.2.1
  simp only [m_X3_has, mk0, B_X3_has, iC, iL, iF, iA, iAc, iLen, iT, iAdd, iSub, iMul, iDiv, iRem, iNeg, iCh, iAnd31, iQ, iMax, iMin, iAbs, iCallS, iCallV, aN, aI, aR, rL, rF, rA, cEq, cNe, cLt, cGe, cGt, cLe, cAnd, cOr, cNot, cNull, sSkip, sSeq, sLoc, sLocR, sInc, sPut, sPutR, sPutAdd, sPutSub, sAst, sCst, sRst, sAstAdd, sAstSub, sIf1, sIf, sRet, sRetV, sCallV, sCallS, sPop, sCopy, sCopyT, sObj, sSw, iAddW, iMulW, iAndM, iShr, cQ, ent_0, ent_1, ent_2, ent_3, ent_4, ent_5, ent_6, va_up_self, va_up_ne, ne_eq, Nat.reduceEqDiff, not_false_eq_true, not_true_eq_false, si_1, si_2, si_g, sr_1, sr_2, cp_1, cp_2, List.length_cons, List.length_nil, Nat.reduceAdd, true_and, and_true, and_self, eq_self, true_implies, forall_const, Bool.false_eq_true, false_implies, or_true, true_or, Option.some.injEq, Prod.mk.injEq, exists_eq_left', exists_eq', exists_and_left, reduceIte, Int.reduceEq, Int.reduceNe, h.1.o.1, h.2.2.1]
  (repeat' split) <;> first | rfl | (exfalso; omega)
theorem e_beginningOf {i : Int} (h : CS M k n D) : m_X3_beginningOf [.inr (some k), .inl i] K M ↔ K (at0 n D 0 i) M := by
  have h40 := h.2.1
  simp only [m_X3_beginningOf, mk0, B_X3_beginningOf, iC, iL, iF, iA, iAc, iLen, iT, iAdd, iSub, iMul, iDiv, iRem, iNeg, iCh, iAnd31, iQ, iMax, iMin, iAbs, iCallS, iCallV, aN, aI, aR, rL, rF, rA, cEq, cNe, cLt, cGe, cGt, cLe, cAnd, cOr, cNot, cNull, sSkip, sSeq, sLoc, sLocR, sInc, sPut, sPutR, sPutAdd, sPutSub, sAst, sCst, sRst, sAstAdd, sAstSub, sIf1, sIf, sRet, sRetV, sCallV, sCallS, sPop, sCopy, sCopyT, sObj, sSw, iAddW, iMulW, iAndM, iShr, cQ, ent_0, ent_1, ent_2, ent_3, ent_4, ent_5, ent_6, va_up_self, va_up_ne, ne_eq, Nat.reduceEqDiff, not_false_eq_true, not_true_eq_false, si_1, si_2, si_g, sr_1, sr_2, cp_1, cp_2, List.length_cons, List.length_nil, Nat.reduceAdd, true_and, and_true, and_self, eq_self, true_implies, forall_const, Bool.false_eq_true, false_implies, or_true, true_or, Option.some.injEq, Prod.mk.injEq, exists_eq_left', exists_eq', exists_and_left, reduceIte, Int.reduceEq, Int.reduceNe, h.1.o, e_has h]
  unfold at0
  by_cases hi : 0 ≤ i ∧ i < n
  · have h1 := h.2.2.2 i.toNat (by omega)
    simp only [if_pos hi, h1]
    simp
    exact ⟨fun q => q.2.2, fun q => ⟨by omega, by omega, q⟩⟩
  · simp only [if_neg hi]
    simp
theorem e_lengthOf {i : Int} (h : CS M k n D) : m_X3_lengthOf [.inr (some k), .inl i] K M ↔ K (at0 n D 1 i) M := by
  have h40 := h.2.1
  simp only [m_X3_lengthOf, mk0, B_X3_lengthOf, iC, iL, iF, iA, iAc, iLen, iT, iAdd, iSub, iMul, iDiv, iRem, iNeg, iCh, iAnd31, iQ, iMax, iMin, iAbs, iCallS, iCallV, aN, aI, aR, rL, rF, rA, cEq, cNe, cLt, cGe, cGt, cLe, cAnd, cOr, cNot, cNull, sSkip, sSeq, sLoc, sLocR, sInc, sPut, sPutR, sPutAdd, sPutSub, sAst, sCst, sRst, sAstAdd, sAstSub, sIf1, sIf, sRet, sRetV, sCallV, sCallS, sPop, sCopy, sCopyT, sObj, sSw, iAddW, iMulW, iAndM, iShr, cQ, ent_0, ent_1, ent_2, ent_3, ent_4, ent_5, ent_6, va_up_self, va_up_ne, ne_eq, Nat.reduceEqDiff, not_false_eq_true, not_true_eq_false, si_1, si_2, si_g, sr_1, sr_2, cp_1, cp_2, List.length_cons, List.length_nil, Nat.reduceAdd, true_and, and_true, and_self, eq_self, true_implies, forall_const, Bool.false_eq_true, false_implies, or_true, true_or, Option.some.injEq, Prod.mk.injEq, exists_eq_left', exists_eq', exists_and_left, reduceIte, Int.reduceEq, Int.reduceNe, h.1.o, e_has h]
  unfold at0
  by_cases hi : 0 ≤ i ∧ i < n
  · have h1 := h.2.2.2 i.toNat (by omega)
    simp only [if_pos hi, h1]
    simp
    exact ⟨fun q => q.2.2, fun q => ⟨by omega, by omega, q⟩⟩
  · simp only [if_neg hi]
    simp
theorem e_pitchOf {i : Int} (h : CS M k n D) : m_X3_pitchOf [.inr (some k), .inl i] K M ↔ K (at0 n D 2 i) M := by
  have h40 := h.2.1
  simp only [m_X3_pitchOf, mk0, B_X3_pitchOf, iC, iL, iF, iA, iAc, iLen, iT, iAdd, iSub, iMul, iDiv, iRem, iNeg, iCh, iAnd31, iQ, iMax, iMin, iAbs, iCallS, iCallV, aN, aI, aR, rL, rF, rA, cEq, cNe, cLt, cGe, cGt, cLe, cAnd, cOr, cNot, cNull, sSkip, sSeq, sLoc, sLocR, sInc, sPut, sPutR, sPutAdd, sPutSub, sAst, sCst, sRst, sAstAdd, sAstSub, sIf1, sIf, sRet, sRetV, sCallV, sCallS, sPop, sCopy, sCopyT, sObj, sSw, iAddW, iMulW, iAndM, iShr, cQ, ent_0, ent_1, ent_2, ent_3, ent_4, ent_5, ent_6, va_up_self, va_up_ne, ne_eq, Nat.reduceEqDiff, not_false_eq_true, not_true_eq_false, si_1, si_2, si_g, sr_1, sr_2, cp_1, cp_2, List.length_cons, List.length_nil, Nat.reduceAdd, true_and, and_true, and_self, eq_self, true_implies, forall_const, Bool.false_eq_true, false_implies, or_true, true_or, Option.some.injEq, Prod.mk.injEq, exists_eq_left', exists_eq', exists_and_left, reduceIte, Int.reduceEq, Int.reduceNe, h.1.o, e_has h]
  unfold at0
  by_cases hi : 0 ≤ i ∧ i < n
  · have h1 := h.2.2.2 i.toNat (by omega)
    simp only [if_pos hi, h1]
    simp
    exact ⟨fun q => q.2.2, fun q => ⟨by omega, by omega, q⟩⟩
  · simp only [if_neg hi]
    simp
theorem e_endPitchOf {i : Int} (h : CS M k n D) : m_X3_endPitchOf [.inr (some k), .inl i] K M ↔ K (at0 n D 3 i) M := by
  have h40 := h.2.1
  simp only [m_X3_endPitchOf, mk0, B_X3_endPitchOf, iC, iL, iF, iA, iAc, iLen, iT, iAdd, iSub, iMul, iDiv, iRem, iNeg, iCh, iAnd31, iQ, iMax, iMin, iAbs, iCallS, iCallV, aN, aI, aR, rL, rF, rA, cEq, cNe, cLt, cGe, cGt, cLe, cAnd, cOr, cNot, cNull, sSkip, sSeq, sLoc, sLocR, sInc, sPut, sPutR, sPutAdd, sPutSub, sAst, sCst, sRst, sAstAdd, sAstSub, sIf1, sIf, sRet, sRetV, sCallV, sCallS, sPop, sCopy, sCopyT, sObj, sSw, iAddW, iMulW, iAndM, iShr, cQ, ent_0, ent_1, ent_2, ent_3, ent_4, ent_5, ent_6, va_up_self, va_up_ne, ne_eq, Nat.reduceEqDiff, not_false_eq_true, not_true_eq_false, si_1, si_2, si_g, sr_1, sr_2, cp_1, cp_2, List.length_cons, List.length_nil, Nat.reduceAdd, true_and, and_true, and_self, eq_self, true_implies, forall_const, Bool.false_eq_true, false_implies, or_true, true_or, Option.some.injEq, Prod.mk.injEq, exists_eq_left', exists_eq', exists_and_left, reduceIte, Int.reduceEq, Int.reduceNe, h.1.o, e_has h]
  unfold at0
  by_cases hi : 0 ≤ i ∧ i < n
  · have h1 := h.2.2.2 i.toNat (by omega)
    simp only [if_pos hi, h1]
    simp
    exact ⟨fun q => q.2.2, fun q => ⟨by omega, by omega, q⟩⟩
  · simp only [if_neg hi]
    simp
theorem e_phraseOf {i : Int} (h : CS M k n D) : m_X3_phraseOf [.inr (some k), .inl i] K M ↔ K (phA n D i) M := by
  have h40 := h.2.1
  simp only [m_X3_phraseOf, mk0, B_X3_phraseOf, iC, iL, iF, iA, iAc, iLen, iT, iAdd, iSub, iMul, iDiv, iRem, iNeg, iCh, iAnd31, iQ, iMax, iMin, iAbs, iCallS, iCallV, aN, aI, aR, rL, rF, rA, cEq, cNe, cLt, cGe, cGt, cLe, cAnd, cOr, cNot, cNull, sSkip, sSeq, sLoc, sLocR, sInc, sPut, sPutR, sPutAdd, sPutSub, sAst, sCst, sRst, sAstAdd, sAstSub, sIf1, sIf, sRet, sRetV, sCallV, sCallS, sPop, sCopy, sCopyT, sObj, sSw, iAddW, iMulW, iAndM, iShr, cQ, ent_0, ent_1, ent_2, ent_3, ent_4, ent_5, ent_6, va_up_self, va_up_ne, ne_eq, Nat.reduceEqDiff, not_false_eq_true, not_true_eq_false, si_1, si_2, si_g, sr_1, sr_2, cp_1, cp_2, List.length_cons, List.length_nil, Nat.reduceAdd, true_and, and_true, and_self, eq_self, true_implies, forall_const, Bool.false_eq_true, false_implies, or_true, true_or, Option.some.injEq, Prod.mk.injEq, exists_eq_left', exists_eq', exists_and_left, reduceIte, Int.reduceEq, Int.reduceNe, h.1.o, e_has h]
  unfold phA
  by_cases hi : 0 ≤ i ∧ i < n
  · have h1 := h.2.2.2 i.toNat (by omega)
    simp only [if_pos hi, h1]
    simp
    exact ⟨fun q => q.2.2, fun q => ⟨by omega, by omega, q⟩⟩
  · simp only [if_neg hi]
    simp
end SONG
