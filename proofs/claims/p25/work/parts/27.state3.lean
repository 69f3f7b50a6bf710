theorem SongP_fr {M M2 : Mm} {k : Nat} (h : SongP M k) (h1 : M2.1 = M.1) (h2 : M2.2.2 = M.2.2) : SongP M2 k := by
  unfold SongP at *
  rw [h1, h2]
  exact h
theorem StP_fr {M M2 : Mm} {s : Nat} (h : StP M s) (h1 : M2.1 = M.1) (h2 : M2.2.2 = M.2.2) : StP M2 s := by
  unfold StP SongP at *
  rw [h1, h2]
  exact h
theorem CS_fr {M M2 : Mm} {k n : Nat} {D : Nat → Nat → Int} (h : CS M k n D) (h1 : M2.1 = M.1) (h2 : M2.2.2 = M.2.2) (h3 : ∀ q j, k ≤ q → q ≤ k + 5 → M2.2.1 q j = M.2.1 q j) : CS M2 k n D := by
  refine ⟨SongP_fr h.1 h1 h2, h.2.1, by rw [h3 _ _ (by omega) (by omega)]; exact h.2.2.1, fun i hi => ?_⟩
  rw [h3 _ _ (by omega) (by omega), h3 _ _ (by omega) (by omega), h3 _ _ (by omega) (by omega), h3 _ _ (by omega) (by omega), h3 _ _ (by omega) (by omega)]
  exact h.2.2.2 i hi
theorem SS_fr {M M2 : Mm} {s n : Nat} {D : Nat → Nat → Int} {st sg : Nat → Int} (h : SS M s n D st sg) (h1 : M2.1 = M.1) (h2 : M2.2.2 = M.2.2) (h3 : ∀ q j, s + 1 ≤ q → q ≤ s + 8 → M2.2.1 q j = M.2.1 q j) : SS M2 s n D st sg := by
  refine ⟨StP_fr h.1 h1 h2, CS_fr h.2.1 h1 h2 (fun q j a b => h3 q j (by omega) (by omega)), fun j hj => ?_, fun t ht => ?_⟩
  · rw [h3 _ _ (by omega) (by omega)]
    exact h.2.2.1 j hj
  · rw [h3 _ _ (by omega) (by omega)]
    exact h.2.2.2 t ht
theorem SS_sg' {M : Mm} {s n : Nat} {D : Nat → Nat → Int} {st sg sg2 : Nat → Int} (h : SS M s n D st sg) (hg : ∀ t, t < 600 → sg t = sg2 t) : SS M s n D st sg2 := ⟨h.1, h.2.1, h.2.2.1, fun t ht => (h.2.2.2 t ht).trans (hg t ht)⟩
/-- what is sung when a syllable is sung as it is wanted, higher by some -/
def vwF (D : Nat → Nat → Int) (i : Nat) (by' : Int) (g : Nat → Int) (c : Nat) : Nat → Int := fun t => if D i 0 ≤ (t : Int) ∧ (t : Int) < D i 0 + c then clp (wn D i ((t : Int) - D i 0) + by') else g t
/-- .. when the singing is shifted -/
def shF (sg : Nat → Int) (tt by' : Int) : Nat → Int := fun t => if sgA sg ((t : Int) - tt) = -1 then -1 else clp (sgA sg ((t : Int) - tt) + by')
section STATE3
variable {K : Int → Mm → Prop} {M : Mm} {s n : Nat} {D : Nat → Nat → Int} {st sg : Nat → Int}
set_option maxRecDepth 20000 in
theorem e_voiceAsWanted {i : Nat} {y : Int} (h : SS M s n D st sg) (hv : VD n D) (hi : i < n) (hy : -60 ≤ y ∧ y ≤ 60) (hK : K 0 (sa M (s + 8) (vwF D i y (M.2.1 (s + 8)) (D i 1).toNat))) : m_X4_voiceAsWanted [.inr (some s), .inl i, .inl y] K M := by
  have h40 := h.2.1.2.1
  have hb := hv.2.1 i hi
  obtain ⟨a1, a2, a3, a4, a5, a6, a7⟩ := h.1
  simp only [m_X4_voiceAsWanted, mk0, B_X4_voiceAsWanted, iC, iL, iF, iA, iAc, iLen, iT, iAdd, iSub, iMul, iDiv, iRem, iNeg, iCh, iAnd31, iQ, iMax, iMin, iAbs, iCallS, iCallV, aN, aI, aR, rL, rF, rA, cEq, cNe, cLt, cGe, cGt, cLe, cAnd, cOr, cNot, cNull, sSkip, sSeq, sLoc, sLocR, sInc, sPut, sPutR, sPutAdd, sPutSub, sAst, sCst, sRst, sAstAdd, sAstSub, sIf1, sIf, sRet, sRetV, sCallV, sCallS, sPop, sCopy, sCopyT, sObj, sSw, iAddW, iMulW, iAndM, iShr, cQ, ent_0, ent_1, ent_2, ent_3, ent_4, ent_5, ent_6, va_up_self, va_up_ne, ne_eq, Nat.reduceEqDiff, not_false_eq_true, not_true_eq_false, si_1, si_2, si_g, sr_1, sr_2, cp_1, cp_2, List.length_cons, List.length_nil, Nat.reduceAdd, true_and, and_true, and_self, eq_self, true_implies, forall_const, Bool.false_eq_true, false_implies, or_true, true_or, Option.some.injEq, Prod.mk.injEq, exists_eq_left', exists_eq', exists_and_left, reduceIte, Int.reduceEq, Int.reduceNe, a1, a2, a7.1, e_beginningOf h.2.1, at0_in hi]
  refine while_n (n := (D i 1).toNat) (fun r ρ M2 => ∃ j : Nat, j + r = (D i 1).toNat ∧ ρ 0 = .inr (some s) ∧ ρ 1 = .inl i ∧ ρ 2 = .inl y ∧ ρ 3 = .inl (D i 0) ∧ ρ 4 = .inl (j : Int) ∧ M2 = sa M (s + 8) (vwF D i y (M.2.1 (s + 8)) j)) ?_ ⟨0, by omega, rfl, rfl, rfl, rfl, rfl, (sa_self (fun b => if_neg (by omega))).symm⟩
  rintro r W hW ρ M2 ⟨j, hr, h0, h1, h2, h3, h4, rfl⟩
  have hC : CS (sa M (s + 8) (vwF D i y (M.2.1 (s + 8)) j)) (s + 1) n D := CS_fr h.2.1 rfl rfl (fun q j2 x1 x2 => by rw [sa_g, if_neg (by omega)])
  simp only [h0, h1, h2, h3, h4, iC, iL, iF, iA, iAc, iLen, iT, iAdd, iSub, iMul, iDiv, iRem, iNeg, iCh, iAnd31, iQ, iMax, iMin, iAbs, iCallS, iCallV, aN, aI, aR, rL, rF, rA, cEq, cNe, cLt, cGe, cGt, cLe, cAnd, cOr, cNot, cNull, sSkip, sSeq, sLoc, sLocR, sInc, sPut, sPutR, sPutAdd, sPutSub, sAst, sCst, sRst, sAstAdd, sAstSub, sIf1, sIf, sRet, sRetV, sCallV, sCallS, sPop, sCopy, sCopyT, sObj, sSw, iAddW, iMulW, iAndM, iShr, cQ, ent_0, ent_1, ent_2, ent_3, ent_4, ent_5, ent_6, va_up_self, va_up_ne, ne_eq, Nat.reduceEqDiff, not_false_eq_true, not_true_eq_false, si_1, si_2, si_g, sr_1, sr_2, cp_1, cp_2, List.length_cons, List.length_nil, Nat.reduceAdd, true_and, and_true, and_self, eq_self, true_implies, forall_const, Bool.false_eq_true, false_implies, or_true, true_or, Option.some.injEq, Prod.mk.injEq, exists_eq_left', exists_eq', exists_and_left, reduceIte, Int.reduceEq, Int.reduceNe, sa_1, sa_2, a1, a2, a7.1, e_lengthOf hC, at0_in hi]
  by_cases hj : (j : Int) < D i 1
  · have r1 : inR (D i 0 + (j : Int)) := inR_s (by omega) (by omega)
    have r2 : inR ((j : Int) + 1) := inR_s (by omega) (by omega)
    have hw := wn_b hv hi (j := (j : Int)) ⟨by omega, by omega⟩
    have r3 : inR (wn D i (j : Int) + y) := inR_s (by omega) (by omega)
    rw [if_pos hj]
    refine ⟨r1, (e_wantedOf hC hv hi ⟨by omega, by omega⟩).mpr ?_⟩
    simp only [sa_1, a1, ent_0, ent_1, ent_2, ent_3, ent_4, ent_5, ent_6, va_up_self, va_up_ne, ne_eq, Nat.reduceEqDiff, not_false_eq_true, not_true_eq_false, si_1, si_2, si_g, sr_1, sr_2, cp_1, cp_2, List.length_cons, List.length_nil, Nat.reduceAdd, true_and, and_true, and_self, eq_self, true_implies, forall_const, Bool.false_eq_true, false_implies, or_true, true_or, Option.some.injEq, Prod.mk.injEq, exists_eq_left', exists_eq', exists_and_left, reduceIte, Int.reduceEq, Int.reduceNe]
    refine ⟨r3, (e_voiceAt (StP_sa h.1) ⟨by omega, by omega⟩).mpr ⟨r2, hW _ _ (by omega) ⟨j + 1, by omega, ?_⟩⟩⟩
    refine ⟨by simp [va_up, h0], by simp [va_up, h1], by simp [va_up, h2], by simp [va_up, h3], by simp [va_up], ?_⟩
    rw [si_sa]
    refine sa_cong (fun t => ?_)
    unfold vwF
    by_cases ht : t = (D i 0 + (j : Int)).toNat
    · rw [if_pos ht, if_pos (by omega)]
      rw [show (t : Int) - D i 0 = j by omega]
    · rw [if_neg ht]
      by_cases ht2 : D i 0 ≤ (t : Int) ∧ (t : Int) < D i 0 + j
      · rw [if_pos ht2, if_pos (by omega)]
      · rw [if_neg ht2, if_neg (by omega)]
  · rw [if_neg hj]
    obtain rfl : j = (D i 1).toNat := by omega
    exact hK
set_option maxRecDepth 20000 in
theorem e_voiceShifted {o n2 : Nat} {D2 : Nat → Nat → Int} {st2 : Nat → Int} {tt y : Int} (h : StP M s) (ho : SS M o n2 D2 st2 sg) (hg : VG sg) (hos : o + 8 < s ∨ s + 8 < o) (ht : -32 ≤ tt ∧ tt ≤ 32) (hy : -60 ≤ y ∧ y ≤ 60)
    (hK : K 0 (sa M (s + 8) (fun t => if t < 600 then shF sg tt y t else M.2.1 (s + 8) t))) : m_X4_voiceShifted [.inr (some s), .inr (some o), .inl tt, .inl y] K M := by
  have a1 := h.1
  have o1 := ho.1.1
  obtain ⟨N, hN⟩ : ∃ N, N = 600 := ⟨600, rfl⟩
  rw [← hN] at hK
  simp only [m_X4_voiceShifted, mk0, B_X4_voiceShifted, iC, iL, iF, iA, iAc, iLen, iT, iAdd, iSub, iMul, iDiv, iRem, iNeg, iCh, iAnd31, iQ, iMax, iMin, iAbs, iCallS, iCallV, aN, aI, aR, rL, rF, rA, cEq, cNe, cLt, cGe, cGt, cLe, cAnd, cOr, cNot, cNull, sSkip, sSeq, sLoc, sLocR, sInc, sPut, sPutR, sPutAdd, sPutSub, sAst, sCst, sRst, sAstAdd, sAstSub, sIf1, sIf, sRet, sRetV, sCallV, sCallS, sPop, sCopy, sCopyT, sObj, sSw, iAddW, iMulW, iAndM, iShr, cQ, ent_0, ent_1, ent_2, ent_3, ent_4, ent_5, ent_6, va_up_self, va_up_ne, ne_eq, Nat.reduceEqDiff, not_false_eq_true, not_true_eq_false, si_1, si_2, si_g, sr_1, sr_2, cp_1, cp_2, List.length_cons, List.length_nil, Nat.reduceAdd, true_and, and_true, and_self, eq_self, true_implies, forall_const, Bool.false_eq_true, false_implies, or_true, true_or, Option.some.injEq, Prod.mk.injEq, exists_eq_left', exists_eq', exists_and_left, reduceIte, Int.reduceEq, Int.reduceNe]
  refine while_n (n := N) (fun r ρ M2 => ∃ j : Nat, j + r = N ∧ ρ 0 = .inr (some s) ∧ ρ 1 = .inr (some o) ∧ ρ 2 = .inl tt ∧ ρ 3 = .inl y ∧ ρ 4 = .inl (j : Int) ∧ M2 = sa M (s + 8) (fun t => if t < j then shF sg tt y t else M.2.1 (s + 8) t)) ?_ ⟨0, by omega, rfl, rfl, rfl, rfl, rfl, (sa_self (fun b => if_neg (by omega))).symm⟩
  rintro r W hW ρ M2 ⟨j, hr, h0, h1, h2, h3, h4, rfl⟩
  have hO : SS (sa M (s + 8) (fun t => if t < j then shF sg tt y t else M.2.1 (s + 8) t)) o n2 D2 st2 sg := SS_fr ho rfl rfl (fun q j2 x1 x2 => by rw [sa_g, if_neg (by omega)])
  simp only [h0, h1, h2, h3, h4, iC, iL, iF, iA, iAc, iLen, iT, iAdd, iSub, iMul, iDiv, iRem, iNeg, iCh, iAnd31, iQ, iMax, iMin, iAbs, iCallS, iCallV, aN, aI, aR, rL, rF, rA, cEq, cNe, cLt, cGe, cGt, cLe, cAnd, cOr, cNot, cNull, sSkip, sSeq, sLoc, sLocR, sInc, sPut, sPutR, sPutAdd, sPutSub, sAst, sCst, sRst, sAstAdd, sAstSub, sIf1, sIf, sRet, sRetV, sCallV, sCallS, sPop, sCopy, sCopyT, sObj, sSw, iAddW, iMulW, iAndM, iShr, cQ, ent_0, ent_1, ent_2, ent_3, ent_4, ent_5, ent_6, va_up_self, va_up_ne, ne_eq, Nat.reduceEqDiff, not_false_eq_true, not_true_eq_false, si_1, si_2, si_g, sr_1, sr_2, cp_1, cp_2, List.length_cons, List.length_nil, Nat.reduceAdd, true_and, and_true, and_self, eq_self, true_implies, forall_const, Bool.false_eq_true, false_implies, or_true, true_or, Option.some.injEq, Prod.mk.injEq, exists_eq_left', exists_eq', exists_and_left, reduceIte, Int.reduceEq, Int.reduceNe, sa_1, sa_2, a1, o1, e_sungAt hO]
  by_cases hj : j < N
  · have r1 : inR ((j : Int) - tt) := inR_s (by omega) (by omega)
    have r2 : inR ((j : Int) + 1) := inR_s (by omega) (by omega)
    have hb := sgA_b hg ((j : Int) - tt)
    have r3 : inR (sgA sg ((j : Int) - tt) + y) := inR_s (by omega) (by omega)
    rw [if_pos (by omega)]
    refine ⟨r1, ?_⟩
    by_cases hq : sgA sg ((j : Int) - tt) = -1
    · rw [if_pos hq]
      refine (e_voiceAt (StP_sa h) ⟨by omega, by omega⟩).mpr ⟨r2, hW _ _ (by omega) ⟨j + 1, by omega, ?_⟩⟩
      refine ⟨by simp [va_up, h0], by simp [va_up, h1], by simp [va_up, h2], by simp [va_up, h3], by simp [va_up], ?_⟩
      rw [si_sa]
      refine sa_cong (fun t => ?_)
      by_cases htj : t = (j : Int).toNat
      · obtain rfl : t = j := by omega
        rw [if_pos htj, if_pos (by omega)]
        unfold shF
        rw [if_pos hq]
        rfl
      · rw [if_neg htj]
        by_cases ht2 : t < j
        · rw [if_pos ht2, if_pos (by omega)]
        · rw [if_neg ht2, if_neg (by omega)]
    · rw [if_neg hq]
      refine ⟨r3, (e_voiceAt (StP_sa h) ⟨by omega, by omega⟩).mpr ⟨r2, hW _ _ (by omega) ⟨j + 1, by omega, ?_⟩⟩⟩
      refine ⟨by simp [va_up, h0], by simp [va_up, h1], by simp [va_up, h2], by simp [va_up, h3], by simp [va_up], ?_⟩
      rw [si_sa]
      refine sa_cong (fun t => ?_)
      by_cases htj : t = (j : Int).toNat
      · obtain rfl : t = j := by omega
        rw [if_pos htj, if_pos (by omega)]
        unfold shF
        rw [if_neg hq]
      · rw [if_neg htj]
        by_cases ht2 : t < j
        · rw [if_pos ht2, if_pos (by omega)]
        · rw [if_neg ht2, if_neg (by omega)]
  · rw [if_neg (by omega)]
    obtain rfl : j = N := by omega
    exact hK
/-- the state at o is copied to the state at s -/
def cpT (M : Mm) (s o : Nat) : Mm := cpy (cpy (cpS M (s + 1) (o + 1)) (o + 7) (s + 7) 0 0 5) (o + 8) (s + 8) 0 0 600
theorem e_copyState {o : Nat} (h : StP M s) (ho : StP M o) (hos : o + 8 < s ∨ s + 8 < o) (hK : K 0 (cpT M s o)) : m_X4_copyFrom [.inr (some s), .inr (some o)] K M := by
  obtain ⟨a1, a2, a3, a4, a5, a6, a7⟩ := h
  obtain ⟨b1, b2, b3, b4, b5, b6, b7⟩ := ho
  simp only [m_X4_copyFrom, mk0, B_X4_copyFrom, iC, iL, iF, iA, iAc, iLen, iT, iAdd, iSub, iMul, iDiv, iRem, iNeg, iCh, iAnd31, iQ, iMax, iMin, iAbs, iCallS, iCallV, aN, aI, aR, rL, rF, rA, cEq, cNe, cLt, cGe, cGt, cLe, cAnd, cOr, cNot, cNull, sSkip, sSeq, sLoc, sLocR, sInc, sPut, sPutR, sPutAdd, sPutSub, sAst, sCst, sRst, sAstAdd, sAstSub, sIf1, sIf, sRet, sRetV, sCallV, sCallS, sPop, sCopy, sCopyT, sObj, sSw, iAddW, iMulW, iAndM, iShr, cQ, ent_0, ent_1, ent_2, ent_3, ent_4, ent_5, ent_6, va_up_self, va_up_ne, ne_eq, Nat.reduceEqDiff, not_false_eq_true, not_true_eq_false, si_1, si_2, si_g, sr_1, sr_2, cp_1, cp_2, List.length_cons, List.length_nil, Nat.reduceAdd, true_and, and_true, and_self, eq_self, true_implies, forall_const, Bool.false_eq_true, false_implies, or_true, true_or, Option.some.injEq, Prod.mk.injEq, exists_eq_left', exists_eq', exists_and_left, reduceIte, Int.reduceEq, Int.reduceNe, a1, a2, a7.1, b1, b2]
  refine e_copySong a7 b7 (by omega) ?_
  simp only [cpS, a1, a3, a4, a5, a6, b1, b3, b4, b5, b6, ent_0, ent_1, ent_2, ent_3, ent_4, ent_5, ent_6, va_up_self, va_up_ne, ne_eq, Nat.reduceEqDiff, not_false_eq_true, not_true_eq_false, si_1, si_2, si_g, sr_1, sr_2, cp_1, cp_2, List.length_cons, List.length_nil, Nat.reduceAdd, true_and, and_true, and_self, eq_self, true_implies, forall_const, Bool.false_eq_true, false_implies, or_true, true_or, Option.some.injEq, Prod.mk.injEq, exists_eq_left', exists_eq', exists_and_left, reduceIte, Int.reduceEq, Int.reduceNe]
  simp
  exact hK
theorem cpT_o {o q i : Nat} (hq : q ≤ s ∨ s + 8 < q) : (cpT M s o).2.1 q i = M.2.1 q i := by
  unfold cpT
  rw [cp_g, if_neg (by omega), cp_g, if_neg (by omega), cpS_o (by omega)]
theorem SS_cpT {o : Nat} (h : StP M s) (ho : SS M o n D st sg) (hos : o + 8 < s ∨ s + 8 < o) : SS (cpT M s o) s n D st sg := by
  refine ⟨StP_fr h rfl rfl, CS_fr (CS_cpS ho.2.1 h.2.2.2.2.2.2 (by omega)) rfl rfl (fun q j x1 x2 => ?_), fun j hj => ?_, fun t ht => ?_⟩
  · unfold cpT
    rw [cp_g, if_neg (by omega), cp_g, if_neg (by omega)]
  · unfold cpT
    rw [cp_g, if_neg (by omega), cp_g, if_pos (by omega), cpS_o (by omega)]
    rw [← ho.2.2.1 j hj, Nat.zero_add, Nat.sub_zero]
  · unfold cpT
    rw [cp_g, if_pos (by omega), cp_g, if_neg (by omega), cpS_o (by omega)]
    rw [← ho.2.2.2 t ht, Nat.zero_add, Nat.sub_zero]
end STATE3
