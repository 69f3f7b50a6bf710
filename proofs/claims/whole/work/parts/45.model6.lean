def JVg (M : Mm) (n : Nat) (rs pt : Nat → Int) : Prop := ∀ j, j < n → M.2.1 88 j = rs j ∧ M.2.1 90 j = pt j ∧ 0 ≤ pt j ∧ pt j ≤ 6800
def nwP (D : Nat → Nat → Int) (rs : Nat → Int) (p : Int) : Nat → Int
  | 0 => 0
  | i + 1 => if ph D i = p then (if rs i = 0 then nwP D rs p i + 1 else 0) else nwP D rs p i
theorem nwP_new {D : Nat → Nat → Int} {rs : Nat → Int} {p : Int} : ∀ {i : Nat}, (∀ j, j < i → ph D j ≠ p) → nwP D rs p i = 0
  | 0, _ => rfl
  | i + 1, h => by
    show (if ph D i = p then _ else nwP D rs p i) = 0
    rw [if_neg (h i (by omega)), nwP_new (fun j hj => h j (by omega))]
theorem nwP_rw {n : Nat} {D : Nat → Nat → Int} (hv : VD n D) {rs : Nat → Int} {p : Int} : ∀ i, i < n → ph D i = p → nwP D rs p i = rwA D rs i := by
  intro i
  induction i with
  | zero =>
    intro hi _
    unfold rwA
    rw [if_pos (hv.2.2.1 hi)]
    rfl
  | succ i ih =>
    intro hi hp
    rcases (hv.2.1 (i + 1) hi).2.2.2.2.2.2.2.2 with h4 | h4
    · have hpi : ph D i = p := by have := ph_s (D := D) i; omega
      have h1 := ih (by omega) hpi
      unfold rwA
      rw [if_neg (by omega), re_s]
      show (if ph D i = p then (if rs i = 0 then nwP D rs p i + 1 else 0) else nwP D rs p i) = _
      rw [if_pos hpi, h1]
    · have : ∀ j, j < i + 1 → ph D j ≠ p := fun j hj => by
        have h5 := ph_lt hv hj (by omega : i + 1 ≤ n)
        have h6 : ph D (i + 1) = cnt1 D (i + 1) + D (i + 1) 4 - 1 := rfl
        omega
      rw [nwP_new this]
      unfold rwA
      rw [if_pos h4]
theorem nwP_b (D : Nat → Nat → Int) (rs : Nat → Int) (p : Int) : ∀ i, 0 ≤ nwP D rs p i ∧ nwP D rs p i ≤ i
  | 0 => ⟨Int.le_refl _, Int.le_refl _⟩
  | i + 1 => by
    have := nwP_b D rs p i
    show 0 ≤ (if ph D i = p then (if rs i = 0 then nwP D rs p i + 1 else 0) else nwP D rs p i) ∧ (if ph D i = p then (if rs i = 0 then nwP D rs p i + 1 else 0) else nwP D rs p i) ≤ ((i + 1 : Nat) : Int)
    (repeat' split) <;> omega
def ofV (n : Nat) (D : Nat → Nat → Int) (rs pt : Nat → Int) (p w : Int) : Int := if w = 0 then fsP D p n else if w = 1 then szP D p n else if w = 2 then hP D rs p n else if w = 3 then pP D pt p n + exP n D rs p else lP D rs p n
section MP
variable {K : Int → Mm → Prop} {M : Mm} {n : Nat} {D : Nat → Nat → Int} {st : Nat → Int} {rs pt : Nat → Int}
set_option maxRecDepth 20000 in
set_option maxHeartbeats 2000000 in
theorem e_ofPhrase {p w : Int} (hm : MR M n D st) (hv : VD n D) (hJ : JVg M n rs pt) (hK : K (ofV n D rs pt p w) M) : m_X7_ofPhrase [.inr (some 80), .inl p, .inl w] K M := by
  obtain ⟨m0, mA, mR⟩ := hm.1
  have hn := hm.2.1
  have e5 : Int.toNat 5 = 5 := rfl
  have d5 : (0 : Int) ≤ 5 ∧ (5 : Int) < (806 : Nat) := by decide
  simp only [m_X7_ofPhrase, mk0, B_X7_ofPhrase, iC, iL, iF, iA, iAc, iLen, iT, iAdd, iSub, iMul, iDiv, iRem, iNeg, iCh, iAnd31, iQ, iMax, iMin, iAbs, iCallS, iCallV, aN, aI, aR, rL, rF, rA, cEq, cNe, cLt, cGe, cGt, cLe, cAnd, cOr, cNot, cNull, sSkip, sSeq, sLoc, sLocR, sInc, sPut, sPutR, sPutAdd, sPutSub, sAst, sCst, sRst, sAstAdd, sAstSub, sIf1, sIf, sRet, sRetV, sCallV, sCallS, sPop, sCopy, sCopyT, sObj, sSw, ent_0, ent_1, ent_2, ent_3, ent_4, ent_5, ent_6, va_up_self, va_up_ne, ne_eq, Nat.reduceEqDiff, not_false_eq_true, not_true_eq_false, si_1, si_2, si_g, sr_1, sr_2, cp_1, cp_2, List.length_cons, List.length_nil, Nat.reduceAdd, true_and, and_true, and_self, eq_self, true_implies, forall_const, Bool.false_eq_true, false_implies, or_true, true_or, Option.some.injEq, Prod.mk.injEq, exists_eq_left', exists_eq', exists_and_left, reduceIte, Int.reduceEq, Int.reduceNe]
  refine while_n (n := n) (fun r ρ M2 => M2 = M ∧ ∃ i : Nat, i + r = n ∧ ρ 0 = .inr (some 80) ∧ ρ 1 = .inl p ∧ ρ 2 = .inl w ∧ ρ 3 = .inl (fsP D p i) ∧ ρ 4 = .inl (szP D p i) ∧ ρ 5 = .inl (hP D rs p i) ∧ ρ 6 = .inl (pP D pt p i) ∧ ρ 7 = .inl (lP D rs p i) ∧ ρ 8 = .inl (nwP D rs p i) ∧ ρ 9 = .inl (i : Int)) ?_ ⟨rfl, 0, by omega, rfl, rfl, rfl, rfl, rfl, rfl, rfl, rfl, rfl, rfl⟩
  rintro r W hW ρ M2 ⟨rfl, i, hr, h0, h1, h2, h3, h4, h5, h6, h7, h8, h9⟩
  simp only [h0, h1, h2, h3, h4, h5, h6, h7, h8, h9, m0, mA, mR, e5, d5.1, d5.2, hm.2.2.1, iC, iL, iF, iA, iAc, iLen, iT, iAdd, iSub, iMul, iDiv, iRem, iNeg, iCh, iAnd31, iQ, iMax, iMin, iAbs, iCallS, iCallV, aN, aI, aR, rL, rF, rA, cEq, cNe, cLt, cGe, cGt, cLe, cAnd, cOr, cNot, cNull, sSkip, sSeq, sLoc, sLocR, sInc, sPut, sPutR, sPutAdd, sPutSub, sAst, sCst, sRst, sAstAdd, sAstSub, sIf1, sIf, sRet, sRetV, sCallV, sCallS, sPop, sCopy, sCopyT, sObj, sSw, ent_0, ent_1, ent_2, ent_3, ent_4, ent_5, ent_6, va_up_self, va_up_ne, ne_eq, Nat.reduceEqDiff, not_false_eq_true, not_true_eq_false, si_1, si_2, si_g, sr_1, sr_2, cp_1, cp_2, List.length_cons, List.length_nil, Nat.reduceAdd, true_and, and_true, and_self, eq_self, true_implies, forall_const, Bool.false_eq_true, false_implies, or_true, true_or, Option.some.injEq, Prod.mk.injEq, exists_eq_left', exists_eq', exists_and_left, reduceIte, Int.reduceEq, Int.reduceNe]
  have bz := szP_b D p i
  have bh := hP_b D rs p i
  have bp := pP_b (D := D) (pt := pt) (p := p) (i := i) (fun j hj => (hJ j (by omega)).2.2)
  have bn := nwP_b D rs p i
  by_cases hi : i < n
  · have c0 : (0 : Int) ≤ i := by omega
    have c1 : (i : Int) < (40 : Nat) := by omega
    obtain ⟨j1, j2, j3, j4⟩ := hJ i hi
    have r1 : inR (szP D p i + 1) := inR_s (by omega) (by omega)
    have r2 : inR (hP D rs p i + 1) := inR_s (by omega) (by omega)
    have r3 : inR (hP D rs p i + 0) := inR_s (by omega) (by omega)
    have r4 : inR (pP D pt p i + pt i) := inR_s (by omega) (by omega)
    have r5 : inR (nwP D rs p i + 1) := inR_s (by omega) (by omega)
    have r6 : inR ((i : Int) + 1) := inR_s (by omega) (by omega)
    have g1 : szP D p (i + 1) = szP D p i + (if ph D i = p then 1 else 0) := rfl
    have g2 := hP_s D rs p i
    have g3 := pP_s D pt p i
    have g4 := lP_s D rs p i
    have g5 : nwP D rs p (i + 1) = if ph D i = p then (if rs i = 0 then nwP D rs p i + 1 else 0) else nwP D rs p i := rfl
    have g6 : fsP D p (i + 1) = if fsP D p i = -5 ∧ ph D i = p then (i : Int) else fsP D p i := rfl
    rw [if_pos (by omega)]
    refine e_phraseOf7 hm hv hi ?_
    by_cases hp : ph D i = p
    · have hrw := nwP_rw hv (rs := rs) i hi hp
      have hre : re D rs (i + 1) = nwP D rs p (i + 1) := by
        rw [g5, if_pos hp, re_s, hrw]
      rw [hre] at g4
      simp only [hp, if_true, and_true, true_and] at g1 g2 g3 g4 g5 g6
      rw [if_pos hp]
      have fin : ∀ x3 x5 x6 x7 x8, x3 = fsP D p (i + 1) → x5 = hP D rs p (i + 1) → x6 = pP D pt p (i + 1) → x8 = nwP D rs p (i + 1) → x7 = lP D rs p (i + 1) →
          W (va_up (va_up (va_up (va_up (va_up (va_up (va_up ρ 3 (.inl x3)) 4 (.inl (szP D p i + 1))) 5 (.inl x5)) 6 (.inl x6)) 8 (.inl x8)) 7 (.inl x7)) 9 (.inl ((i : Int) + 1))) M2 := by
        intro x3 x5 x6 x7 x8 y3 y5 y6 y8 y7
        refine hW _ _ (by omega) ⟨rfl, i + 1, by omega, ?_⟩
        simp [va_up, h0, h1, h2, y3, y5, y6, y7, y8, g1]
      by_cases a1 : fsP D p i = -5 <;> by_cases a2 : rs i = 0 <;>
        (simp only [a1, a2, if_true, if_false, and_true, and_false] at g2 g5 g6
         simp only [a1, a2, if_true, if_false, Int.reduceEq, reduceIte, m0, mA, mR, c0, c1, Int.toNat_natCast, j1, j2, r1, r2, r3, r4, r5, r6, h4, h5, h6, h7, h8, h9, iC, iL, iF, iA, iAc, iLen, iT, iAdd, iSub, iMul, iDiv, iRem, iNeg, iCh, iAnd31, iQ, iMax, iMin, iAbs, iCallS, iCallV, aN, aI, aR, rL, rF, rA, cEq, cNe, cLt, cGe, cGt, cLe, cAnd, cOr, cNot, cNull, sSkip, sSeq, sLoc, sLocR, sInc, sPut, sPutR, sPutAdd, sPutSub, sAst, sCst, sRst, sAstAdd, sAstSub, sIf1, sIf, sRet, sRetV, sCallV, sCallS, sPop, sCopy, sCopyT, sObj, sSw, ent_0, ent_1, ent_2, ent_3, ent_4, ent_5, ent_6, va_up_self, va_up_ne, ne_eq, Nat.reduceEqDiff, not_false_eq_true, not_true_eq_false, si_1, si_2, si_g, sr_1, sr_2, cp_1, cp_2, List.length_cons, List.length_nil, Nat.reduceAdd, true_and, and_true, and_self, eq_self, true_implies, forall_const, Bool.false_eq_true, false_implies, or_true, true_or, Option.some.injEq, Prod.mk.injEq, exists_eq_left', exists_eq', exists_and_left, reduceIte, Int.reduceEq, Int.reduceNe]
         rw [g5] at g4)
      · by_cases a3 : lP D rs p i < nwP D rs p i + 1
        · rw [if_pos a3] at g4 ⊢
          exact fin _ _ _ _ _ g6.symm g2.symm g3.symm g5.symm g4.symm
        · rw [if_neg a3] at g4 ⊢
          exact fin _ _ _ _ _ g6.symm g2.symm g3.symm g5.symm g4.symm
      · by_cases a3 : lP D rs p i < 0
        · rw [if_pos a3] at g4 ⊢
          exact fin _ _ _ _ _ g6.symm g2.symm g3.symm g5.symm g4.symm
        · rw [if_neg a3] at g4 ⊢
          exact fin _ _ _ _ _ g6.symm g2.symm g3.symm g5.symm g4.symm
      · by_cases a3 : lP D rs p i < nwP D rs p i + 1
        · rw [if_pos a3] at g4 ⊢
          exact fin _ _ _ _ _ g6.symm g2.symm g3.symm g5.symm g4.symm
        · rw [if_neg a3] at g4 ⊢
          exact fin _ _ _ _ _ g6.symm g2.symm g3.symm g5.symm g4.symm
      · by_cases a3 : lP D rs p i < 0
        · rw [if_pos a3] at g4 ⊢
          exact fin _ _ _ _ _ g6.symm g2.symm g3.symm g5.symm g4.symm
        · rw [if_neg a3] at g4 ⊢
          exact fin _ _ _ _ _ g6.symm g2.symm g3.symm g5.symm g4.symm
    · simp only [hp, if_false, and_false, false_and] at g1 g2 g3 g4 g5 g6
      rw [if_neg hp]
      simp only [h9, r6, ent_0, ent_1, ent_2, ent_3, ent_4, ent_5, ent_6, va_up_self, va_up_ne, ne_eq, Nat.reduceEqDiff, not_false_eq_true, not_true_eq_false, si_1, si_2, si_g, sr_1, sr_2, cp_1, cp_2, List.length_cons, List.length_nil, Nat.reduceAdd, true_and, and_true, and_self, eq_self, true_implies, forall_const, Bool.false_eq_true, false_implies, or_true, true_or, Option.some.injEq, Prod.mk.injEq, exists_eq_left', exists_eq', exists_and_left, reduceIte, Int.reduceEq, Int.reduceNe]
      refine hW _ _ (by omega) ⟨rfl, i + 1, by omega, ?_⟩
      rw [g1, g2, g3, g4, g5, g6]
      simp [va_up, h0, h1, h2, h3, h4, h5, h6, h7, h8]
  · rw [if_neg (by omega)]
    obtain rfl : i = n := by omega
    have r1 : inR (pP D pt p i + 50) := inR_s (by omega) (by omega)
    have r2 : inR (pP D pt p i + 0) := inR_s (by omega) (by omega)
    unfold ofV exP at hK
    have hz : (1 < szP D p i) = (2 ≤ szP D p i) := by apply propext; omega
    simp only [hz]
    by_cases a1 : 2 ≤ szP D p i <;> by_cases a2 : hP D rs p i = szP D p i <;>
      (simp only [a1, a2, and_true, true_and, and_false, false_and, if_true, if_false] at hK
       simp only [a1, a2, if_true, if_false, r1, r2, h2, h3, h4, h5, h7, ent_0, ent_1, ent_2, ent_3, ent_4, ent_5, ent_6, va_up_self, va_up_ne, ne_eq, Nat.reduceEqDiff, not_false_eq_true, not_true_eq_false, si_1, si_2, si_g, sr_1, sr_2, cp_1, cp_2, List.length_cons, List.length_nil, Nat.reduceAdd, true_and, and_true, and_self, eq_self, true_implies, forall_const, Bool.false_eq_true, false_implies, or_true, true_or, Option.some.injEq, Prod.mk.injEq, exists_eq_left', exists_eq', exists_and_left, reduceIte, Int.reduceEq, Int.reduceNe]
       (repeat' split) <;> simp_all)
end MP
