def mx0 (x : Int) : Int := if 0 < x then x else 0
def mn10 (x : Int) : Int := if 10 < x then 10 else x
theorem mx0_b (x : Int) : 0 ≤ mx0 x ∧ (mx0 x ≤ x ∨ mx0 x = 0) := by unfold mx0; split <;> omega
theorem absI_b {x c : Int} (h : -c ≤ x) (h2 : x ≤ c) : 0 ≤ absI x ∧ absI x ≤ c := by unfold absI; split <;> omega
def ptV (b sh hd on' rs rw' : Int) : Int := if rs = 0 then (mx0 (sh + 5 * hd - 2 * absI (on' - b)) * (10 + rw')).tdiv 10 else 0
section SCORE1
variable {K : Int → Mm → Prop} {M : Mm} {k n : Nat} {D : Nat → Nat → Int}
theorem pt_b {b sh hd on' rs rw' : Int} (h1 : 0 ≤ sh ∧ sh ≤ 3200) (h2 : 0 ≤ hd ∧ hd ≤ 40) (h5 : 0 ≤ rw' ∧ rw' ≤ 10) : 0 ≤ ptV b sh hd on' rs rw' ∧ ptV b sh hd on' rs rw' ≤ 6800 := by
  have a1 : 0 ≤ absI (on' - b) := by unfold absI; split <;> omega
  have a2 := mx0_b (sh + 5 * hd - 2 * absI (on' - b))
  have a3 := mul_b (x := mx0 (sh + 5 * hd - 2 * absI (on' - b))) (y := 10 + rw') (a := 3400) (b := 20) (by omega) (by omega) (by omega) (by omega)
  have a4 : 0 ≤ mx0 (sh + 5 * hd - 2 * absI (on' - b)) * (10 + rw') := Int.mul_nonneg a2.1 (by omega)
  unfold ptV
  split
  · rw [Int.tdiv_eq_ediv_of_nonneg a4]
    omega
  · omega
theorem e_scoreOf {i : Nat} (hj : JdP M) (h : CS M k n D) (hv : VD n D) (hi : i < n) (h1 : 0 ≤ M.2.1 71 i ∧ M.2.1 71 i ≤ 3200) (h2 : 0 ≤ M.2.1 72 i ∧ M.2.1 72 i ≤ 40) (h3 : -5 ≤ M.2.1 73 i ∧ M.2.1 73 i ≤ 700) (h5 : 0 ≤ M.2.1 75 i ∧ M.2.1 75 i ≤ 10) :
    m_X1_scoreOf [.inr (some 69), .inr (some k), .inl i] K M ↔ K (ptV (D i 0) (M.2.1 71 i) (M.2.1 72 i) (M.2.1 73 i) (M.2.1 74 i) (M.2.1 75 i)) M := by
  have h40 := h.2.1
  have hb := hv.2.1 i hi
  obtain ⟨j0, hA, hR⟩ := hj
  have c39 : (0 : Int) ≤ i ∧ (i : Int) ≤ 39 := by omega
  have c0 : (0 : Int) ≤ i := by omega
  have c1 : (i : Int) < (40 : Nat) := by omega
  have ab := absI_b (x := M.2.1 73 i - D i 0) (c := 1000) (by omega) (by omega)
  have hab : (if 0 ≤ M.2.1 73 i - D i 0 then M.2.1 73 i - D i 0 else 0 - (M.2.1 73 i - D i 0)) = absI (M.2.1 73 i - D i 0) := rfl
  have a2 := mx0_b (M.2.1 71 i + 5 * M.2.1 72 i - 2 * absI (M.2.1 73 i - D i 0))
  have hmx : (if 0 < M.2.1 71 i + 5 * M.2.1 72 i - 2 * absI (M.2.1 73 i - D i 0) then M.2.1 71 i + 5 * M.2.1 72 i - 2 * absI (M.2.1 73 i - D i 0) else 0) = mx0 (M.2.1 71 i + 5 * M.2.1 72 i - 2 * absI (M.2.1 73 i - D i 0)) := rfl
  have a3 := mul_b (x := mx0 (M.2.1 71 i + 5 * M.2.1 72 i - 2 * absI (M.2.1 73 i - D i 0))) (y := 10 + M.2.1 75 i) (a := 3400) (b := 20) (by omega) (by omega) (by omega) (by omega)
  have a4 : 0 ≤ mx0 (M.2.1 71 i + 5 * M.2.1 72 i - 2 * absI (M.2.1 73 i - D i 0)) * (10 + M.2.1 75 i) := Int.mul_nonneg a2.1 (by omega)
  have a5 := tdiv_nn (b := 10) a4 (by decide)
  have r1 : inR (M.2.1 73 i - D i 0) := inR_s (by omega) (by omega)
  have r2 : inR (absI (M.2.1 73 i - D i 0)) := inR_s (by omega) (by omega)
  have r3 : inR (5 * M.2.1 72 i) := inR_s (by omega) (by omega)
  have r4 : inR (M.2.1 71 i + 5 * M.2.1 72 i) := inR_s (by omega) (by omega)
  have r5 : inR (2 * absI (M.2.1 73 i - D i 0)) := inR_s (by omega) (by omega)
  have r6 : inR (M.2.1 71 i + 5 * M.2.1 72 i - 2 * absI (M.2.1 73 i - D i 0)) := inR_s (by omega) (by omega)
  have r7 : inR (10 + M.2.1 75 i) := inR_s (by omega) (by omega)
  have r8 : inR (mx0 (M.2.1 71 i + 5 * M.2.1 72 i - 2 * absI (M.2.1 73 i - D i 0)) * (10 + M.2.1 75 i)) := inR_s (by omega) (by omega)
  have r9 : inR ((mx0 (M.2.1 71 i + 5 * M.2.1 72 i - 2 * absI (M.2.1 73 i - D i 0)) * (10 + M.2.1 75 i)).tdiv 10) := inR_s (by omega) (by omega)
  simp only [m_X1_scoreOf, mk0, B_X1_scoreOf, iC, iL, iF, iA, iAc, iLen, iT, iAdd, iSub, iMul, iDiv, iRem, iNeg, iCh, iAnd31, iQ, iMax, iMin, iAbs, iCallS, iCallV, aN, aI, aR, rL, rF, rA, cEq, cNe, cLt, cGe, cGt, cLe, cAnd, cOr, cNot, cNull, sSkip, sSeq, sLoc, sLocR, sInc, sPut, sPutR, sPutAdd, sPutSub, sAst, sCst, sRst, sAstAdd, sAstSub, sIf1, sIf, sRet, sRetV, sCallV, sCallS, sPop, sCopy, sCopyT, sObj, sSw, iAddW, iMulW, iAndM, iShr, cQ, ent_0, ent_1, ent_2, ent_3, ent_4, ent_5, ent_6, va_up_self, va_up_ne, ne_eq, Nat.reduceEqDiff, not_false_eq_true, not_true_eq_false, si_1, si_2, si_g, sr_1, sr_2, cp_1, cp_2, List.length_cons, List.length_nil, Nat.reduceAdd, true_and, and_true, and_self, eq_self, true_implies, forall_const, Bool.false_eq_true, false_implies, or_true, true_or, Option.some.injEq, Prod.mk.injEq, exists_eq_left', exists_eq', exists_and_left, reduceIte, Int.reduceEq, Int.reduceNe, e_isWithin, c39.1, c39.2, j0, hA, hR, h.1.1, e_beginningOf h, at0_in hi, c0, c1, Int.toNat_natCast, r1, hab, r2, r3, r4, r5, r6, hmx, r7, r8, r9]
  unfold ptV
  by_cases c : M.2.1 74 i = 0 <;> simp [c]
end SCORE1
theorem e_extraOf {K : Int → Mm → Prop} {M : Mm} {a b : Int} : m_X1_extraOf [.inl a, .inl b] K M ↔ K (if 2 ≤ b ∧ a = b then 50 else 0) M := by
  simp only [m_X1_extraOf, mk0, B_X1_extraOf, iC, iL, iF, iA, iAc, iLen, iT, iAdd, iSub, iMul, iDiv, iRem, iNeg, iCh, iAnd31, iQ, iMax, iMin, iAbs, iCallS, iCallV, aN, aI, aR, rL, rF, rA, cEq, cNe, cLt, cGe, cGt, cLe, cAnd, cOr, cNot, cNull, sSkip, sSeq, sLoc, sLocR, sInc, sPut, sPutR, sPutAdd, sPutSub, sAst, sCst, sRst, sAstAdd, sAstSub, sIf1, sIf, sRet, sRetV, sCallV, sCallS, sPop, sCopy, sCopyT, sObj, sSw, iAddW, iMulW, iAndM, iShr, cQ, ent_0, ent_1, ent_2, ent_3, ent_4, ent_5, ent_6, va_up_self, va_up_ne, ne_eq, Nat.reduceEqDiff, not_false_eq_true, not_true_eq_false, si_1, si_2, si_g, sr_1, sr_2, cp_1, cp_2, List.length_cons, List.length_nil, Nat.reduceAdd, true_and, and_true, and_self, eq_self, true_implies, forall_const, Bool.false_eq_true, false_implies, or_true, true_or, Option.some.injEq, Prod.mk.injEq, exists_eq_left', exists_eq', exists_and_left, reduceIte, Int.reduceEq, Int.reduceNe]
  (repeat' split) <;> first | rfl | (exfalso; omega)
def bgM (M : Mm) (p : Nat) : Mm := si (si (si M 77 p 0) 78 p 0) 79 p 0
theorem e_beginPhrase {K : Int → Mm → Prop} {M : Mm} {p : Nat} (hj : JdP M) (hp : p < 40) : m_X1_beginPhrase [.inr (some 69), .inl p] K M ↔ K 0 (bgM M p) := by
  obtain ⟨j0, hA, hR⟩ := hj
  have c39 : (0 : Int) ≤ p ∧ (p : Int) ≤ 39 := by omega
  have c0 : (0 : Int) ≤ p := by omega
  have c1 : (p : Int) < (40 : Nat) := by omega
  simp only [m_X1_beginPhrase, mk0, B_X1_beginPhrase, iC, iL, iF, iA, iAc, iLen, iT, iAdd, iSub, iMul, iDiv, iRem, iNeg, iCh, iAnd31, iQ, iMax, iMin, iAbs, iCallS, iCallV, aN, aI, aR, rL, rF, rA, cEq, cNe, cLt, cGe, cGt, cLe, cAnd, cOr, cNot, cNull, sSkip, sSeq, sLoc, sLocR, sInc, sPut, sPutR, sPutAdd, sPutSub, sAst, sCst, sRst, sAstAdd, sAstSub, sIf1, sIf, sRet, sRetV, sCallV, sCallS, sPop, sCopy, sCopyT, sObj, sSw, iAddW, iMulW, iAndM, iShr, cQ, ent_0, ent_1, ent_2, ent_3, ent_4, ent_5, ent_6, va_up_self, va_up_ne, ne_eq, Nat.reduceEqDiff, not_false_eq_true, not_true_eq_false, si_1, si_2, si_g, sr_1, sr_2, cp_1, cp_2, List.length_cons, List.length_nil, Nat.reduceAdd, true_and, and_true, and_self, eq_self, true_implies, forall_const, Bool.false_eq_true, false_implies, or_true, true_or, Option.some.injEq, Prod.mk.injEq, exists_eq_left', exists_eq', exists_and_left, reduceIte, Int.reduceEq, Int.reduceNe, e_isWithin, c39.1, c39.2, j0, hA, hR, c0, c1, Int.toNat_natCast]
  rfl
/-! the rows of hits, the phrases -/
def re (D : Nat → Nat → Int) (rs : Nat → Int) : Nat → Int
  | 0 => 0
  | i + 1 => if rs i = 0 then (if D i 4 = 1 then 0 else re D rs i) + 1 else 0
def rwA (D : Nat → Nat → Int) (rs : Nat → Int) (i : Nat) : Int := if D i 4 = 1 then 0 else re D rs i
theorem re_b (D : Nat → Nat → Int) (rs : Nat → Int) : ∀ i, 0 ≤ re D rs i ∧ re D rs i ≤ i
  | 0 => ⟨Int.le_refl _, Int.le_refl _⟩
  | i + 1 => by
    have := re_b D rs i
    show 0 ≤ (if rs i = 0 then (if D i 4 = 1 then 0 else re D rs i) + 1 else 0) ∧ (if rs i = 0 then (if D i 4 = 1 then 0 else re D rs i) + 1 else 0) ≤ ((i + 1 : Nat) : Int)
    split <;> (try split) <;> omega
theorem re_s (D : Nat → Nat → Int) (rs : Nat → Int) (i : Nat) : re D rs (i + 1) = if rs i = 0 then rwA D rs i + 1 else 0 := rfl
theorem rwA_b (D : Nat → Nat → Int) (rs : Nat → Int) (i : Nat) : 0 ≤ rwA D rs i ∧ rwA D rs i ≤ i := by
  have := re_b D rs i
  unfold rwA
  split <;> omega
def hP (D : Nat → Nat → Int) (rs : Nat → Int) (p : Int) (i : Nat) : Int := sm (fun j => if ph D j = p ∧ rs j = 0 then 1 else 0) i
def pP (D : Nat → Nat → Int) (pt : Nat → Int) (p : Int) (i : Nat) : Int := sm (fun j => if ph D j = p then pt j else 0) i
def lP (D : Nat → Nat → Int) (rs : Nat → Int) (p : Int) : Nat → Int
  | 0 => 0
  | i + 1 => if ph D i = p then (if lP D rs p i < re D rs (i + 1) then re D rs (i + 1) else lP D rs p i) else lP D rs p i
theorem hP_b (D : Nat → Nat → Int) (rs : Nat → Int) (p : Int) (i : Nat) : 0 ≤ hP D rs p i ∧ hP D rs p i ≤ i := sm_01 (fun j _ => by split <;> omega)
theorem pP_b {D : Nat → Nat → Int} {pt : Nat → Int} {p : Int} {i : Nat} (h : ∀ j, j < i → 0 ≤ pt j ∧ pt j ≤ 6800) : 0 ≤ pP D pt p i ∧ pP D pt p i ≤ i * 6800 := by
  have := sm_b (f := fun j => if ph D j = p then pt j else 0) (a := 0) (b := 6800) (n := i) (fun j hj => by
    have := h j hj
    show 0 ≤ (if ph D j = p then pt j else 0) ∧ (if ph D j = p then pt j else 0) ≤ 6800
    split <;> omega)
  unfold pP
  omega
theorem sm_0 {f : Nat → Int} : ∀ {n : Nat}, (∀ i, i < n → f i = 0) → sm f n = 0
  | 0, _ => rfl
  | n + 1, h => by
    show sm f n + f n = 0
    rw [sm_0 (fun i hi => h i (by omega)), h n (by omega)]
    rfl
theorem hP_new {D : Nat → Nat → Int} {rs : Nat → Int} {p : Int} {i : Nat} (h : ∀ j, j < i → ph D j ≠ p) : hP D rs p i = 0 := sm_0 (fun j hj => if_neg (fun q => h j hj q.1))
theorem pP_new {D : Nat → Nat → Int} {pt : Nat → Int} {p : Int} {i : Nat} (h : ∀ j, j < i → ph D j ≠ p) : pP D pt p i = 0 := sm_0 (fun j hj => if_neg (h j hj))
theorem lP_new {D : Nat → Nat → Int} {rs : Nat → Int} {p : Int} : ∀ {i : Nat}, (∀ j, j < i → ph D j ≠ p) → lP D rs p i = 0
  | 0, _ => rfl
  | i + 1, h => by
    show (if ph D i = p then _ else lP D rs p i) = 0
    rw [if_neg (h i (by omega)), lP_new (fun j hj => h j (by omega))]
theorem cnt1_mono {n : Nat} {D : Nat → Nat → Int} (hv : VD n D) {i j : Nat} (hij : i ≤ j) (hj : j ≤ n) : cnt1 D i ≤ cnt1 D j := by
  induction j with
  | zero =>
    obtain rfl : i = 0 := by omega
    exact Int.le_refl _
  | succ j ih =>
    by_cases h : i = j + 1
    · subst h
      exact Int.le_refl _
    · have h1 := ih (by omega) (by omega)
      have h2 := (hv.2.1 j (by omega)).2.2.2.2.2.2.2.2
      show cnt1 D i ≤ cnt1 D j + D j 4
      omega
theorem ph_lt {n : Nat} {D : Nat → Nat → Int} (hv : VD n D) {i j : Nat} (hij : j < i) (hi : i ≤ n) : ph D j < cnt1 D i := by
  have := cnt1_mono hv (i := j + 1) (j := i) (by omega) hi
  unfold ph
  omega
