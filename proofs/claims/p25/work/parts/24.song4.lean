section SONG4
variable {K : Int → Mm → Prop} {M : Mm} {k n : Nat} {D : Nat → Nat → Int}
theorem k1 (k : Nat) : (k = k + 1) = False := by simp
theorem k2 (k : Nat) : (k = k + 2) = False := by simp
theorem k3 (k : Nat) : (k = k + 3) = False := by simp
theorem k4 (k : Nat) : (k = k + 4) = False := by simp
theorem k5 (k : Nat) : (k = k + 5) = False := by simp
theorem e_append {r a e l f : Int} (h : CS M k n D) (hv : VD n D) (hn : n < 40) (hr : 0 ≤ r ∧ r ≤ 32) (hf : f = 0 ∨ f = 1)
    (hK : K (tk n D + r) (app M k n (tk n D + r) l a e (cnt1 D n + (if n = 0 then 1 else f) - 1))) : m_X3_append [.inr (some k), .inl r, .inl a, .inl e, .inl l, .inl f] K M := by
  have hb := tk_b hv
  have hc := cnt1_b hv n (Nat.le_refl n)
  have r1 : inR (tk n D + r) := inR_s (by omega) (by omega)
  have r2 : inR (cnt1 D n - 1) := inR_s (by omega) (by omega)
  have r3 : inR ((n : Int) + 1) := inR_s (by omega) (by omega)
  have c1 : ¬ ((n : Int) < 0) := by omega
  have c2 : ¬ ((40 : Int) ≤ n) := by omega
  have c3 : (n : Int) < (40 : Nat) := by omega
  have c4 : (0 : Int) ≤ n := by omega
  simp only [m_X3_append, mk0, B_X3_append, iC, iL, iF, iA, iAc, iLen, iT, iAdd, iSub, iMul, iDiv, iRem, iNeg, iCh, iAnd31, iQ, iMax, iMin, iAbs, iCallS, iCallV, aN, aI, aR, rL, rF, rA, cEq, cNe, cLt, cGe, cGt, cLe, cAnd, cOr, cNot, cNull, sSkip, sSeq, sLoc, sLocR, sInc, sPut, sPutR, sPutAdd, sPutSub, sAst, sCst, sRst, sAstAdd, sAstSub, sIf1, sIf, sRet, sRetV, sCallV, sCallS, sPop, sCopy, sCopyT, sObj, sSw, iAddW, iMulW, iAndM, iShr, cQ, ent_0, ent_1, ent_2, ent_3, ent_4, ent_5, ent_6, va_up_self, va_up_ne, ne_eq, Nat.reduceEqDiff, not_false_eq_true, not_true_eq_false, si_1, si_2, si_g, sr_1, sr_2, cp_1, cp_2, List.length_cons, List.length_nil, Nat.reduceAdd, true_and, and_true, and_self, eq_self, true_implies, forall_const, Bool.false_eq_true, false_implies, or_true, true_or, Option.some.injEq, Prod.mk.injEq, exists_eq_left', exists_eq', exists_and_left, reduceIte, Int.reduceEq, Int.reduceNe, h.1.o, h.2.2.1, e_ticks h hv, e_phraseCount h hv, r1, r2, r3, c1, c2, c3, c4, Int.toNat_natCast, k1, k2, k3, k4, k5, false_and, if_false]
  have e1 : (si (si (si (si (si M (k + 1) n (tk n D + r)) (k + 2) n l) (k + 3) n a) (k + 4) n e) (k + 5) n (cnt1 D n + (if n = 0 then 1 else f) - 1)) = (si (si (si (si (si M (k + 1) n (tk n D + r)) (k + 2) n l) (k + 3) n a) (k + 4) n e) (k + 5) n (cnt1 D n + (if n = 0 then 1 else f) - 1)) := rfl
  unfold app at hK
  by_cases h0 : n = 0
  · subst h0
    simpa using hK
  · rw [if_neg h0] at hK
    rw [if_neg (by omega)]
    rcases hf with rfl | rfl
    · rw [if_neg (by decide)]
      simpa using hK
    · rw [if_pos (by decide)]
      simpa using hK
theorem e_removeLast (h : CS M k n D) (hn : 0 < n) (hK : K ((n : Int) - 1) (si M k 5 ((n : Int) - 1))) : m_X3_removeLast [.inr (some k)] K M := by
  have h40 := h.2.1
  have c1 : (0 : Int) < n := by omega
  have r1 : inR ((n : Int) - 1) := inR_s (by omega) (by omega)
  simp only [m_X3_removeLast, mk0, B_X3_removeLast, iC, iL, iF, iA, iAc, iLen, iT, iAdd, iSub, iMul, iDiv, iRem, iNeg, iCh, iAnd31, iQ, iMax, iMin, iAbs, iCallS, iCallV, aN, aI, aR, rL, rF, rA, cEq, cNe, cLt, cGe, cGt, cLe, cAnd, cOr, cNot, cNull, sSkip, sSeq, sLoc, sLocR, sInc, sPut, sPutR, sPutAdd, sPutSub, sAst, sCst, sRst, sAstAdd, sAstSub, sIf1, sIf, sRet, sRetV, sCallV, sCallS, sPop, sCopy, sCopyT, sObj, sSw, iAddW, iMulW, iAndM, iShr, cQ, ent_0, ent_1, ent_2, ent_3, ent_4, ent_5, ent_6, va_up_self, va_up_ne, ne_eq, Nat.reduceEqDiff, not_false_eq_true, not_true_eq_false, si_1, si_2, si_g, sr_1, sr_2, cp_1, cp_2, List.length_cons, List.length_nil, Nat.reduceAdd, true_and, and_true, and_self, eq_self, true_implies, forall_const, Bool.false_eq_true, false_implies, or_true, true_or, Option.some.injEq, Prod.mk.injEq, exists_eq_left', exists_eq', exists_and_left, reduceIte, Int.reduceEq, Int.reduceNe, h.1.o, h.2.2.1, c1, r1]
  exact hK
/-- the song at j is copied to the song at k -/
def cpS (M : Mm) (k j : Nat) : Mm := si (cpy (cpy (cpy (cpy (cpy M (j + 1) (k + 1) 0 0 40) (j + 2) (k + 2) 0 0 40) (j + 3) (k + 3) 0 0 40) (j + 4) (k + 4) 0 0 40) (j + 5) (k + 5) 0 0 40) k 5 (M.2.1 j 5)
end SONG4
theorem cp_g (M : Mm) (q0 q1 a b n : Nat) (x y : Nat) : (cpy M q0 q1 a b n).2.1 x y = if x = q1 ∧ b ≤ y ∧ y < b + n then M.2.1 q0 (a + (y - b)) else M.2.1 x y := rfl
section SONG5
variable {K : Int → Mm → Prop} {M : Mm} {k n : Nat} {D : Nat → Nat → Int}
theorem e_copySong {j : Nat} (h : SongP M k) (hj : SongP M j) (hkj : k + 5 < j ∨ j + 5 < k) (hK : K 0 (cpS M k j)) : m_X3_copyFrom [.inr (some k), .inr (some j)] K M := by
  have n5 : ∀ a b : Nat, a ≤ 5 → b ≤ 5 → ¬ (j + a = k + b) := fun a b ha hb => by omega
  have n6 : ∀ b : Nat, b ≤ 5 → ¬ (j = k + b) := fun b hb => by omega
  simp only [m_X3_copyFrom, mk0, B_X3_copyFrom, iC, iL, iF, iA, iAc, iLen, iT, iAdd, iSub, iMul, iDiv, iRem, iNeg, iCh, iAnd31, iQ, iMax, iMin, iAbs, iCallS, iCallV, aN, aI, aR, rL, rF, rA, cEq, cNe, cLt, cGe, cGt, cLe, cAnd, cOr, cNot, cNull, sSkip, sSeq, sLoc, sLocR, sInc, sPut, sPutR, sPutAdd, sPutSub, sAst, sCst, sRst, sAstAdd, sAstSub, sIf1, sIf, sRet, sRetV, sCallV, sCallS, sPop, sCopy, sCopyT, sObj, sSw, iAddW, iMulW, iAndM, iShr, cQ, ent_0, ent_1, ent_2, ent_3, ent_4, ent_5, ent_6, va_up_self, va_up_ne, ne_eq, Nat.reduceEqDiff, not_false_eq_true, not_true_eq_false, si_1, si_2, si_g, sr_1, sr_2, cp_1, cp_2, List.length_cons, List.length_nil, Nat.reduceAdd, true_and, and_true, and_self, eq_self, true_implies, forall_const, Bool.false_eq_true, false_implies, or_true, true_or, Option.some.injEq, Prod.mk.injEq, exists_eq_left', exists_eq', exists_and_left, reduceIte, Int.reduceEq, Int.reduceNe, h.o, hj.o]
  simp [cp_g, n6]
  exact hK
theorem cpS_o {j q i : Nat} (hq : q < k ∨ k + 5 < q) : (cpS M k j).2.1 q i = M.2.1 q i := by
  simp only [cpS, si_g, cp_g]
  rw [if_neg (by omega), if_neg (by omega), if_neg (by omega), if_neg (by omega), if_neg (by omega), if_neg (by omega)]
theorem CS_cpS {j : Nat} (h : CS M j n D) (hk : SongP M k) (hkj : k + 5 < j ∨ j + 5 < k) : CS (cpS M k j) k n D := by
  have h40 := h.2.1
  refine ⟨hk, h.2.1, ?_, fun i hi => ?_⟩
  · simp [cpS, si_g, h.2.2.1]
  · obtain ⟨h1, h2, h3, h4, h5⟩ := h.2.2.2 i hi
    have n6 : ∀ a b : Nat, a ≤ 5 → b ≤ 5 → ¬ (j + a = k + b) := fun a b ha hb => by omega
    have hi4 : i < 40 := by omega
    refine ⟨?_, ?_, ?_, ?_, ?_⟩ <;> simp [cpS, si_g, cp_g, hi4, h1, h2, h3, h4, h5, n6]
end SONG5
