theorem VD_mono {n : Nat} {D : Nat → Nat → Int} (hv : VD n D) {j : Nat} : ∀ k, j < k → k < n → D j 0 + D j 1 ≤ D k 0
  | 0, h, _ => absurd h (Nat.not_lt_zero _)
  | k + 1, h, h2 => by
    have h3 := hv.2.2.2 k h2
    by_cases e : j = k
    · subst e; exact h3
    · have := VD_mono hv (j := j) k (by omega) (by omega)
      have := (hv.2.1 k (by omega)).2.1
      omega
def wF (D : Nat → Nat → Int) (t : Int) : Nat → Int
  | 0 => -5
  | k + 1 => if D k 0 ≤ t ∧ t ≤ D k 0 + D k 1 - 1 then wn D k (t - D k 0) else wF D t k
theorem wF_no {D : Nat → Nat → Int} {t : Int} : ∀ m, (∀ k, k < m → ¬ (D k 0 ≤ t ∧ t ≤ D k 0 + D k 1 - 1)) → wF D t m = -5
  | 0, _ => rfl
  | m + 1, h => by
    show (if _ then _ else wF D t m) = -5
    rw [if_neg (h m (by omega))]
    exact wF_no m (fun k hk => h k (by omega))
theorem wF_at {n : Nat} {D : Nat → Nat → Int} (hv : VD n D) {t : Int} {k : Nat} (hk : D k 0 ≤ t ∧ t ≤ D k 0 + D k 1 - 1) : ∀ m, k < m → m ≤ n → wF D t m = wn D k (t - D k 0)
  | 0, h, _ => absurd h (Nat.not_lt_zero _)
  | m + 1, h, h2 => by
    show (if D m 0 ≤ t ∧ t ≤ D m 0 + D m 1 - 1 then wn D m (t - D m 0) else wF D t m) = _
    by_cases e : k = m
    · subst e
      rw [if_pos hk]
    · have := VD_mono hv m (by omega : k < m) (by omega)
      rw [if_neg (by omega)]
      exact wF_at hv hk m (by omega) (by omega)
def wanV (S : Sg) (t : Int) : Int := if 0 ≤ t ∧ t ≤ 599 then wF S.D t S.n else -2
def sunV (S : Sg) (t : Int) : Int := if 0 ≤ t ∧ t ≤ 599 then (if S.sg t.toNat = -1 then -5 else S.sg t.toNat) else -2
def litV (S : Sg) (i t : Int) : Int := if 0 ≤ i ∧ i < S.n then (if 0 ≤ t ∧ t ≤ 599 then (if t - S.D i.toNat 0 + 1 < 0 then 0 else if S.D i.toNat 1 < t - S.D i.toNat 0 + 1 then S.D i.toNat 1 else t - S.D i.toNat 0 + 1) else -2) else -1
section CQRY2
variable {K : Int → Mm → Prop} {M : Mm} {A : Ab}
set_option maxRecDepth 20000 in
theorem c_wanted {t : Int} (h : CI M A) (hV : A.now.V) (hK : ∀ M2, CN M M2 A → K (wanV A.now t) M2) : m_X6_wanted [.inr (some 0), .inl t] K M := by
  have hf := h.fx
  have hn := hV.1.1
  have hK := hK M h.rf
  unfold wanV at hK
  simp only [hf.x0, hf.r0, hf.r1, hf.r2, hf.r4, hf.r5, hf.r6, hf.r7, hf.s1.1, hf.s1.2.1, hf.s1.2.2.2.2.2.2.1, hf.s10.1, hf.s10.2.1, hf.s10.2.2.2.2.2.2.1, hf.s19.1, hf.x28, hf.x66, hf.r66, hf.x67, hf.x68, hf.jd.1, e_isWithin, m_X6_wanted, mk0, B_X6_wanted, iC, iL, iF, iA, iAc, iLen, iT, iAdd, iSub, iMul, iDiv, iRem, iNeg, iCh, iAnd31, iQ, iMax, iMin, iAbs, iCallS, iCallV, aN, aI, aR, rL, rF, rA, cEq, cNe, cLt, cGe, cGt, cLe, cAnd, cOr, cNot, cNull, sSkip, sSeq, sLoc, sLocR, sInc, sPut, sPutR, sPutAdd, sPutSub, sAst, sCst, sRst, sAstAdd, sAstSub, sIf1, sIf, sRet, sRetV, sCallV, sCallS, sPop, sCopy, sCopyT, sObj, sSw, iAddW, iMulW, iAndM, iShr, cQ, ent_0, ent_1, ent_2, ent_3, ent_4, ent_5, ent_6, va_up_self, va_up_ne, ne_eq, Nat.reduceEqDiff, not_false_eq_true, not_true_eq_false, si_1, si_2, si_g, sr_1, sr_2, cp_1, cp_2, List.length_cons, List.length_nil, Nat.reduceAdd, true_and, and_true, and_self, eq_self, true_implies, forall_const, Bool.false_eq_true, false_implies, or_true, true_or, Option.some.injEq, Prod.mk.injEq, exists_eq_left', exists_eq', exists_and_left, reduceIte, Int.reduceEq, Int.reduceNe]
  by_cases c1 : 0 ≤ t ∧ t ≤ 599
  · simp only [c1, and_self, if_true, if_false, hf.x0, hf.r0, hf.r1, hf.r2, hf.r4, hf.r5, hf.r6, hf.r7, hf.s1.1, hf.s1.2.1, hf.s1.2.2.2.2.2.2.1, hf.s10.1, hf.s10.2.1, hf.s10.2.2.2.2.2.2.1, hf.s19.1, hf.x28, hf.x66, hf.r66, hf.x67, hf.x68, hf.jd.1, ent_0, ent_1, ent_2, ent_3, ent_4, ent_5, ent_6, va_up_self, va_up_ne, ne_eq, Nat.reduceEqDiff, not_false_eq_true, not_true_eq_false, si_1, si_2, si_g, sr_1, sr_2, cp_1, cp_2, List.length_cons, List.length_nil, Nat.reduceAdd, true_and, and_true, and_self, eq_self, true_implies, forall_const, Bool.false_eq_true, false_implies, or_true, true_or, Option.some.injEq, Prod.mk.injEq, exists_eq_left', exists_eq', exists_and_left, reduceIte, Int.reduceEq, Int.reduceNe] at hK ⊢
    refine while_n (n := A.now.n) (fun r ρ M2 => M2 = M ∧ ∃ k : Nat, k + r = A.now.n ∧ ρ 1 = .inl t ∧ ρ 2 = .inr (some 2) ∧ ρ 3 = .inl (k : Int) ∧ ∀ j, j < k → ¬ (A.now.D j 0 ≤ t ∧ t ≤ A.now.D j 0 + A.now.D j 1 - 1)) ?_ ⟨rfl, 0, by omega, rfl, rfl, rfl, fun j hj => absurd hj (Nat.not_lt_zero j)⟩
    rintro r W hW ρ M2 ⟨rfl, k, hr, h1, h2, h3, hno⟩
    simp only [h1, h2, h3, hf.s1.2.2.2.2.2.2.1, e_size h.nw.2.1, iC, iL, iF, iA, iAc, iLen, iT, iAdd, iSub, iMul, iDiv, iRem, iNeg, iCh, iAnd31, iQ, iMax, iMin, iAbs, iCallS, iCallV, aN, aI, aR, rL, rF, rA, cEq, cNe, cLt, cGe, cGt, cLe, cAnd, cOr, cNot, cNull, sSkip, sSeq, sLoc, sLocR, sInc, sPut, sPutR, sPutAdd, sPutSub, sAst, sCst, sRst, sAstAdd, sAstSub, sIf1, sIf, sRet, sRetV, sCallV, sCallS, sPop, sCopy, sCopyT, sObj, sSw, iAddW, iMulW, iAndM, iShr, cQ, ent_0, ent_1, ent_2, ent_3, ent_4, ent_5, ent_6, va_up_self, va_up_ne, ne_eq, Nat.reduceEqDiff, not_false_eq_true, not_true_eq_false, si_1, si_2, si_g, sr_1, sr_2, cp_1, cp_2, List.length_cons, List.length_nil, Nat.reduceAdd, true_and, and_true, and_self, eq_self, true_implies, forall_const, Bool.false_eq_true, false_implies, or_true, true_or, Option.some.injEq, Prod.mk.injEq, exists_eq_left', exists_eq', exists_and_left, reduceIte, Int.reduceEq, Int.reduceNe]
    by_cases hk : k < A.now.n
    · have hd := hV.1.2.1 k hk
      have ea : ∀ w, at0 A.now.n A.now.D w (k : Int) = A.now.D k w := fun w => by
        unfold at0
        rw [if_pos (by omega), Int.toNat_natCast]
      have r1 : inR (t - A.now.D k 0) := inR_s (by omega) (by omega)
      have r2 : inR (A.now.D k 1 - 1) := inR_s (by omega) (by omega)
      have r3 : inR ((k : Int) + 1) := inR_s (by omega) (by omega)
      rw [if_pos (by omega)]
      simp only [h1, h2, h3, hf.s1.2.2.2.2.2.2.1, e_beginningOf h.nw.2.1, e_lengthOf h.nw.2.1, ea, r1, r2, r3, e_isWithin, ent_0, ent_1, ent_2, ent_3, ent_4, ent_5, ent_6, va_up_self, va_up_ne, ne_eq, Nat.reduceEqDiff, not_false_eq_true, not_true_eq_false, si_1, si_2, si_g, sr_1, sr_2, cp_1, cp_2, List.length_cons, List.length_nil, Nat.reduceAdd, true_and, and_true, and_self, eq_self, true_implies, forall_const, Bool.false_eq_true, false_implies, or_true, true_or, Option.some.injEq, Prod.mk.injEq, exists_eq_left', exists_eq', exists_and_left, reduceIte, Int.reduceEq, Int.reduceNe]
      by_cases c : A.now.D k 0 ≤ t ∧ t ≤ A.now.D k 0 + A.now.D k 1 - 1
      · rw [if_pos (by omega : 0 ≤ t - A.now.D k 0 ∧ t - A.now.D k 0 ≤ A.now.D k 1 - 1), if_pos (by decide)]
        refine (e_wantedOf h.nw.2.1 hV.1 hk (by omega)).mpr ?_
        rw [← wF_at hV.1 c A.now.n hk (Nat.le_refl _)]
        exact ⟨rfl, hK⟩
      · rw [if_neg (by omega : ¬ (0 ≤ t - A.now.D k 0 ∧ t - A.now.D k 0 ≤ A.now.D k 1 - 1)), if_neg (by decide)]
        refine hW _ _ (by omega) ⟨rfl, k + 1, by omega, by simp [va_up, h1], by simp [va_up, h2], by simp [va_up], fun j hj => ?_⟩
        by_cases e : j = k
        · subst e; exact c
        · exact hno j (by omega)
    · rw [if_neg (by omega)]
      obtain rfl : k = A.now.n := by omega
      rw [wF_no _ hno] at hK
      exact hK
  · simp only [c1, if_true, if_false, ent_0, ent_1, ent_2, ent_3, ent_4, ent_5, ent_6, va_up_self, va_up_ne, ne_eq, Nat.reduceEqDiff, not_false_eq_true, not_true_eq_false, si_1, si_2, si_g, sr_1, sr_2, cp_1, cp_2, List.length_cons, List.length_nil, Nat.reduceAdd, true_and, and_true, and_self, eq_self, true_implies, forall_const, Bool.false_eq_true, false_implies, or_true, true_or, Option.some.injEq, Prod.mk.injEq, exists_eq_left', exists_eq', exists_and_left, reduceIte, Int.reduceEq, Int.reduceNe] at hK ⊢
    exact hK
set_option maxRecDepth 20000 in
theorem c_sung {t : Int} (h : CI M A) (hK : ∀ M2, CN M M2 A → K (sunV A.now t) M2) : m_X6_sung [.inr (some 0), .inl t] K M := by
  have hf := h.fx
  have hK := hK M h.rf
  unfold sunV at hK
  simp only [hf.x0, hf.r0, hf.r1, hf.r2, hf.r4, hf.r5, hf.r6, hf.r7, hf.s1.1, hf.s1.2.1, hf.s1.2.2.2.2.2.2.1, hf.s10.1, hf.s10.2.1, hf.s10.2.2.2.2.2.2.1, hf.s19.1, hf.x28, hf.x66, hf.r66, hf.x67, hf.x68, hf.jd.1, e_isWithin, m_X6_sung, mk0, B_X6_sung, iC, iL, iF, iA, iAc, iLen, iT, iAdd, iSub, iMul, iDiv, iRem, iNeg, iCh, iAnd31, iQ, iMax, iMin, iAbs, iCallS, iCallV, aN, aI, aR, rL, rF, rA, cEq, cNe, cLt, cGe, cGt, cLe, cAnd, cOr, cNot, cNull, sSkip, sSeq, sLoc, sLocR, sInc, sPut, sPutR, sPutAdd, sPutSub, sAst, sCst, sRst, sAstAdd, sAstSub, sIf1, sIf, sRet, sRetV, sCallV, sCallS, sPop, sCopy, sCopyT, sObj, sSw, iAddW, iMulW, iAndM, iShr, cQ, ent_0, ent_1, ent_2, ent_3, ent_4, ent_5, ent_6, va_up_self, va_up_ne, ne_eq, Nat.reduceEqDiff, not_false_eq_true, not_true_eq_false, si_1, si_2, si_g, sr_1, sr_2, cp_1, cp_2, List.length_cons, List.length_nil, Nat.reduceAdd, true_and, and_true, and_self, eq_self, true_implies, forall_const, Bool.false_eq_true, false_implies, or_true, true_or, Option.some.injEq, Prod.mk.injEq, exists_eq_left', exists_eq', exists_and_left, reduceIte, Int.reduceEq, Int.reduceNe]
  by_cases c1 : 0 ≤ t ∧ t ≤ 599
  · have es : sgA A.now.sg t = A.now.sg t.toNat := by unfold sgA; rw [if_pos (by omega)]
    simp only [c1, and_self, if_true, if_false, hf.x0, hf.r0, hf.r1, hf.r2, hf.r4, hf.r5, hf.r6, hf.r7, hf.s1.1, hf.s1.2.1, hf.s1.2.2.2.2.2.2.1, hf.s10.1, hf.s10.2.1, hf.s10.2.2.2.2.2.2.1, hf.s19.1, hf.x28, hf.x66, hf.r66, hf.x67, hf.x68, hf.jd.1, e_sungAt h.nw, es, ent_0, ent_1, ent_2, ent_3, ent_4, ent_5, ent_6, va_up_self, va_up_ne, ne_eq, Nat.reduceEqDiff, not_false_eq_true, not_true_eq_false, si_1, si_2, si_g, sr_1, sr_2, cp_1, cp_2, List.length_cons, List.length_nil, Nat.reduceAdd, true_and, and_true, and_self, eq_self, true_implies, forall_const, Bool.false_eq_true, false_implies, or_true, true_or, Option.some.injEq, Prod.mk.injEq, exists_eq_left', exists_eq', exists_and_left, reduceIte, Int.reduceEq, Int.reduceNe] at hK ⊢
    by_cases c2 : A.now.sg t.toNat = -1
    · simp only [c2, if_true] at hK ⊢
      exact hK
    · simp only [c2, if_false] at hK ⊢
      exact hK
  · simp only [c1, if_true, if_false, ent_0, ent_1, ent_2, ent_3, ent_4, ent_5, ent_6, va_up_self, va_up_ne, ne_eq, Nat.reduceEqDiff, not_false_eq_true, not_true_eq_false, si_1, si_2, si_g, sr_1, sr_2, cp_1, cp_2, List.length_cons, List.length_nil, Nat.reduceAdd, true_and, and_true, and_self, eq_self, true_implies, forall_const, Bool.false_eq_true, false_implies, or_true, true_or, Option.some.injEq, Prod.mk.injEq, exists_eq_left', exists_eq', exists_and_left, reduceIte, Int.reduceEq, Int.reduceNe] at hK ⊢
    exact hK
set_option maxRecDepth 20000 in
theorem c_lit {i t : Int} (h : CI M A) (hV : A.now.V) (hK : ∀ M2, CN M M2 A → K (litV A.now i t) M2) : m_X6_lit [.inr (some 0), .inl i, .inl t] K M := by
  have hf := h.fx
  have hK := hK M h.rf
  unfold litV at hK
  simp only [hf.x0, hf.r0, hf.r1, hf.r2, hf.r4, hf.r5, hf.r6, hf.r7, hf.s1.1, hf.s1.2.1, hf.s1.2.2.2.2.2.2.1, hf.s10.1, hf.s10.2.1, hf.s10.2.2.2.2.2.2.1, hf.s19.1, hf.x28, hf.x66, hf.r66, hf.x67, hf.x68, hf.jd.1, e_has h.nw.2.1, e_isWithin, m_X6_lit, mk0, B_X6_lit, iC, iL, iF, iA, iAc, iLen, iT, iAdd, iSub, iMul, iDiv, iRem, iNeg, iCh, iAnd31, iQ, iMax, iMin, iAbs, iCallS, iCallV, aN, aI, aR, rL, rF, rA, cEq, cNe, cLt, cGe, cGt, cLe, cAnd, cOr, cNot, cNull, sSkip, sSeq, sLoc, sLocR, sInc, sPut, sPutR, sPutAdd, sPutSub, sAst, sCst, sRst, sAstAdd, sAstSub, sIf1, sIf, sRet, sRetV, sCallV, sCallS, sPop, sCopy, sCopyT, sObj, sSw, iAddW, iMulW, iAndM, iShr, cQ, ent_0, ent_1, ent_2, ent_3, ent_4, ent_5, ent_6, va_up_self, va_up_ne, ne_eq, Nat.reduceEqDiff, not_false_eq_true, not_true_eq_false, si_1, si_2, si_g, sr_1, sr_2, cp_1, cp_2, List.length_cons, List.length_nil, Nat.reduceAdd, true_and, and_true, and_self, eq_self, true_implies, forall_const, Bool.false_eq_true, false_implies, or_true, true_or, Option.some.injEq, Prod.mk.injEq, exists_eq_left', exists_eq', exists_and_left, reduceIte, Int.reduceEq, Int.reduceNe]
  by_cases c1 : 0 ≤ i ∧ i < A.now.n
  · by_cases c2 : 0 ≤ t ∧ t ≤ 599
    · have hd := hV.1.2.1 i.toNat (by omega)
      have ea : ∀ w, at0 A.now.n A.now.D w i = A.now.D i.toNat w := fun w => by
        unfold at0
        rw [if_pos (by omega)]
      have r1 : inR (t - A.now.D i.toNat 0) := inR_s (by omega) (by omega)
      have r2 : inR (t - A.now.D i.toNat 0 + 1) := inR_s (by omega) (by omega)
      simp only [c1, c2, and_self, if_true, if_false, hf.x0, hf.r0, hf.r1, hf.r2, hf.r4, hf.r5, hf.r6, hf.r7, hf.s1.1, hf.s1.2.1, hf.s1.2.2.2.2.2.2.1, hf.s10.1, hf.s10.2.1, hf.s10.2.2.2.2.2.2.1, hf.s19.1, hf.x28, hf.x66, hf.r66, hf.x67, hf.x68, hf.jd.1, e_beginningOf h.nw.2.1, e_lengthOf h.nw.2.1, ea, r1, r2, ent_0, ent_1, ent_2, ent_3, ent_4, ent_5, ent_6, va_up_self, va_up_ne, ne_eq, Nat.reduceEqDiff, not_false_eq_true, not_true_eq_false, si_1, si_2, si_g, sr_1, sr_2, cp_1, cp_2, List.length_cons, List.length_nil, Nat.reduceAdd, true_and, and_true, and_self, eq_self, true_implies, forall_const, Bool.false_eq_true, false_implies, or_true, true_or, Option.some.injEq, Prod.mk.injEq, exists_eq_left', exists_eq', exists_and_left, reduceIte, Int.reduceEq, Int.reduceNe] at hK ⊢
      have e : (if 0 < if t - A.now.D i.toNat 0 + 1 < A.now.D i.toNat 1 then t - A.now.D i.toNat 0 + 1 else A.now.D i.toNat 1 then (if t - A.now.D i.toNat 0 + 1 < A.now.D i.toNat 1 then t - A.now.D i.toNat 0 + 1 else A.now.D i.toNat 1) else 0) = (if t - A.now.D i.toNat 0 + 1 < 0 then 0 else if A.now.D i.toNat 1 < t - A.now.D i.toNat 0 + 1 then A.now.D i.toNat 1 else t - A.now.D i.toNat 0 + 1) := by
        (repeat' split) <;> omega
      rw [e]
      exact hK
    · simp only [c1, c2, and_self, if_true, if_false, ent_0, ent_1, ent_2, ent_3, ent_4, ent_5, ent_6, va_up_self, va_up_ne, ne_eq, Nat.reduceEqDiff, not_false_eq_true, not_true_eq_false, si_1, si_2, si_g, sr_1, sr_2, cp_1, cp_2, List.length_cons, List.length_nil, Nat.reduceAdd, true_and, and_true, and_self, eq_self, true_implies, forall_const, Bool.false_eq_true, false_implies, or_true, true_or, Option.some.injEq, Prod.mk.injEq, exists_eq_left', exists_eq', exists_and_left, reduceIte, Int.reduceEq, Int.reduceNe] at hK ⊢
      exact hK
  · simp only [c1, if_true, if_false, ent_0, ent_1, ent_2, ent_3, ent_4, ent_5, ent_6, va_up_self, va_up_ne, ne_eq, Nat.reduceEqDiff, not_false_eq_true, not_true_eq_false, si_1, si_2, si_g, sr_1, sr_2, cp_1, cp_2, List.length_cons, List.length_nil, Nat.reduceAdd, true_and, and_true, and_self, eq_self, true_implies, forall_const, Bool.false_eq_true, false_implies, or_true, true_or, Option.some.injEq, Prod.mk.injEq, exists_eq_left', exists_eq', exists_and_left, reduceIte, Int.reduceEq, Int.reduceNe] at hK ⊢
    exact hK
end CQRY2
