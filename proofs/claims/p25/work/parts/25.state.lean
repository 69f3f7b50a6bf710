/-- an array of ints, put as a whole -/
def sa (M : Mm) (q : Nat) (g : Nat → Int) : Mm := (M.1, fun a b => if a = q then g b else M.2.1 a b, M.2.2)
theorem sa_1 (M : Mm) (q : Nat) (g : Nat → Int) : (sa M q g).1 = M.1 := rfl
theorem sa_2 (M : Mm) (q : Nat) (g : Nat → Int) : (sa M q g).2.2 = M.2.2 := rfl
theorem sa_g (M : Mm) (q : Nat) (g : Nat → Int) (a b : Nat) : (sa M q g).2.1 a b = if a = q then g b else M.2.1 a b := rfl
theorem mm_ext {M N : Mm} (h1 : M.1 = N.1) (h2 : ∀ a b, M.2.1 a b = N.2.1 a b) (h3 : M.2.2 = N.2.2) : M = N := by
  obtain ⟨m1, m2, m3⟩ := M
  obtain ⟨n1, n2, n3⟩ := N
  simp only at h1 h2 h3
  subst h1 h3
  have : m2 = n2 := funext fun a => funext fun b => h2 a b
  rw [this]
theorem sa_self {M : Mm} {q : Nat} {g : Nat → Int} (h : ∀ b, g b = M.2.1 q b) : sa M q g = M := by
  refine mm_ext rfl (fun a b => ?_) rfl
  simp only [sa]
  split
  · subst_vars; exact h b
  · rfl
theorem si_sa {M : Mm} {q k : Nat} {g : Nat → Int} {z : Int} : si (sa M q g) q k z = sa M q (fun j => if j = k then z else g j) := by
  refine mm_ext rfl (fun a b => ?_) rfl
  simp only [sa, si]
  by_cases h : a = q <;> by_cases h2 : b = k <;> simp [h, h2]
theorem sa_cong {M : Mm} {q : Nat} {g g2 : Nat → Int} (h : ∀ j, g j = g2 j) : sa M q g = sa M q g2 := by rw [funext h]
theorem si_is (M : Mm) (q k : Nat) (z : Int) : si M q k z = sa M q (fun j => if j = k then z else M.2.1 q j) := by
  refine mm_ext rfl (fun a b => ?_) rfl
  simp only [sa, si]
  by_cases h : a = q <;> by_cases h2 : b = k <;> simp [h, h2]
theorem sa_sa (M : Mm) (q : Nat) (g g2 : Nat → Int) : sa (sa M q g) q g2 = sa M q g2 := by
  refine mm_ext rfl (fun a b => ?_) rfl
  simp only [sa]
  split <;> rfl
/-- a State at a place -/
def StP (M : Mm) (s : Nat) : Prop := M.1[s]? = some (4, 0) ∧ M.2.2 s 0 = some (s + 1) ∧ M.2.2 s 1 = some (s + 7) ∧ M.2.2 s 2 = some (s + 8) ∧ M.1[s + 7]? = some (20, 5) ∧ M.1[s + 8]? = some (20, 600) ∧ SongP M (s + 1)
/-- the state at the place s: song, settings, what is sung -/
def SS (M : Mm) (s n : Nat) (D : Nat → Nat → Int) (st sg : Nat → Int) : Prop := StP M s ∧ CS M (s + 1) n D ∧ (∀ j, j < 5 → M.2.1 (s + 7) j = st j) ∧ ∀ t, t < 600 → M.2.1 (s + 8) t = sg t
def VT (st : Nat → Int) : Prop := (2 ≤ st 0 ∧ st 0 ≤ 64) ∧ (0 ≤ st 1 ∧ st 1 ≤ 6) ∧ (0 ≤ st 2 ∧ st 2 ≤ 8) ∧ (0 ≤ st 3 ∧ st 3 ≤ 1) ∧ 1 ≤ st 4 ∧ st 4 ≤ 100
def VG (sg : Nat → Int) : Prop := ∀ t, t < 600 → -1 ≤ sg t ∧ sg t ≤ 60
def sgA (sg : Nat → Int) (t : Int) : Int := if 0 ≤ t ∧ t < 600 then sg t.toNat else -1
def clp (p : Int) : Int := if 0 ≤ p ∧ p ≤ 60 then p else -1
theorem clp_b (p : Int) : -1 ≤ clp p ∧ clp p ≤ 60 := by unfold clp; split <;> omega
theorem sgA_b {sg : Nat → Int} (h : VG sg) (t : Int) : -1 ≤ sgA sg t ∧ sgA sg t ≤ 60 := by
  unfold sgA
  split
  · exact h _ (by omega)
  · omega
theorem e_isWithin {K : Int → Mm → Prop} {M : Mm} {v a b : Int} : m_X6_isWithin [.inl v, .inl a, .inl b] K M ↔ K (if a ≤ v ∧ v ≤ b then 1 else 0) M := by
  simp only [m_X6_isWithin, mk0, B_X6_isWithin, iC, iL, iF, iA, iAc, iLen, iT, iAdd, iSub, iMul, iDiv, iRem, iNeg, iCh, iAnd31, iQ, iMax, iMin, iAbs, iCallS, iCallV, aN, aI, aR, rL, rF, rA, cEq, cNe, cLt, cGe, cGt, cLe, cAnd, cOr, cNot, cNull, sSkip, sSeq, sLoc, sLocR, sInc, sPut, sPutR, sPutAdd, sPutSub, sAst, sCst, sRst, sAstAdd, sAstSub, sIf1, sIf, sRet, sRetV, sCallV, sCallS, sPop, sCopy, sCopyT, sObj, sSw, iAddW, iMulW, iAndM, iShr, cQ, ent_0, ent_1, ent_2, ent_3, ent_4, ent_5, ent_6, va_up_self, va_up_ne, ne_eq, Nat.reduceEqDiff, not_false_eq_true, not_true_eq_false, si_1, si_2, si_g, sr_1, sr_2, cp_1, cp_2, List.length_cons, List.length_nil, Nat.reduceAdd, true_and, and_true, and_self, eq_self, true_implies, forall_const, Bool.false_eq_true, false_implies, or_true, true_or, Option.some.injEq, Prod.mk.injEq, exists_eq_left', exists_eq', exists_and_left, reduceIte, Int.reduceEq, Int.reduceNe]
  (repeat' split) <;> first | rfl | (exfalso; omega)
section STATE
variable {K : Int → Mm → Prop} {M : Mm} {s n : Nat} {D : Nat → Nat → Int} {st sg : Nat → Int}
theorem e_setting {j : Int} (h : SS M s n D st sg) (hj : 0 ≤ j ∧ j < 5) : m_X4_setting [.inr (some s), .inl j] K M ↔ K (st j.toNat) M := by
  have h1 := h.2.2.1 j.toNat (by omega)
  obtain ⟨a1, a2, a3, a4, a5, a6, a7⟩ := h.1
  simp only [m_X4_setting, mk0, B_X4_setting, iC, iL, iF, iA, iAc, iLen, iT, iAdd, iSub, iMul, iDiv, iRem, iNeg, iCh, iAnd31, iQ, iMax, iMin, iAbs, iCallS, iCallV, aN, aI, aR, rL, rF, rA, cEq, cNe, cLt, cGe, cGt, cLe, cAnd, cOr, cNot, cNull, sSkip, sSeq, sLoc, sLocR, sInc, sPut, sPutR, sPutAdd, sPutSub, sAst, sCst, sRst, sAstAdd, sAstSub, sIf1, sIf, sRet, sRetV, sCallV, sCallS, sPop, sCopy, sCopyT, sObj, sSw, iAddW, iMulW, iAndM, iShr, cQ, ent_0, ent_1, ent_2, ent_3, ent_4, ent_5, ent_6, va_up_self, va_up_ne, ne_eq, Nat.reduceEqDiff, not_false_eq_true, not_true_eq_false, si_1, si_2, si_g, sr_1, sr_2, cp_1, cp_2, List.length_cons, List.length_nil, Nat.reduceAdd, true_and, and_true, and_self, eq_self, true_implies, forall_const, Bool.false_eq_true, false_implies, or_true, true_or, Option.some.injEq, Prod.mk.injEq, exists_eq_left', exists_eq', exists_and_left, reduceIte, Int.reduceEq, Int.reduceNe, a1, a2, a3, a4, a5, a6, h1, hj.1, hj.2]
  simp
  exact fun _ => hj.2
theorem e_change {j v : Int} (h : StP M s) (hj : 0 ≤ j ∧ j < 5) : m_X4_change [.inr (some s), .inl j, .inl v] K M ↔ K 0 (si M (s + 7) j.toNat v) := by
  obtain ⟨a1, a2, a3, a4, a5, a6, a7⟩ := h
  simp only [m_X4_change, mk0, B_X4_change, iC, iL, iF, iA, iAc, iLen, iT, iAdd, iSub, iMul, iDiv, iRem, iNeg, iCh, iAnd31, iQ, iMax, iMin, iAbs, iCallS, iCallV, aN, aI, aR, rL, rF, rA, cEq, cNe, cLt, cGe, cGt, cLe, cAnd, cOr, cNot, cNull, sSkip, sSeq, sLoc, sLocR, sInc, sPut, sPutR, sPutAdd, sPutSub, sAst, sCst, sRst, sAstAdd, sAstSub, sIf1, sIf, sRet, sRetV, sCallV, sCallS, sPop, sCopy, sCopyT, sObj, sSw, iAddW, iMulW, iAndM, iShr, cQ, ent_0, ent_1, ent_2, ent_3, ent_4, ent_5, ent_6, va_up_self, va_up_ne, ne_eq, Nat.reduceEqDiff, not_false_eq_true, not_true_eq_false, si_1, si_2, si_g, sr_1, sr_2, cp_1, cp_2, List.length_cons, List.length_nil, Nat.reduceAdd, true_and, and_true, and_self, eq_self, true_implies, forall_const, Bool.false_eq_true, false_implies, or_true, true_or, Option.some.injEq, Prod.mk.injEq, exists_eq_left', exists_eq', exists_and_left, reduceIte, Int.reduceEq, Int.reduceNe, a1, a2, a3, a4, a5, a6, hj.1, hj.2]
  simp
  exact fun _ => hj.2
theorem e_sungAt {t : Int} (h : SS M s n D st sg) : m_X4_sungAt [.inr (some s), .inl t] K M ↔ K (sgA sg t) M := by
  obtain ⟨a1, a2, a3, a4, a5, a6, a7⟩ := h.1
  simp only [m_X4_sungAt, mk0, B_X4_sungAt, iC, iL, iF, iA, iAc, iLen, iT, iAdd, iSub, iMul, iDiv, iRem, iNeg, iCh, iAnd31, iQ, iMax, iMin, iAbs, iCallS, iCallV, aN, aI, aR, rL, rF, rA, cEq, cNe, cLt, cGe, cGt, cLe, cAnd, cOr, cNot, cNull, sSkip, sSeq, sLoc, sLocR, sInc, sPut, sPutR, sPutAdd, sPutSub, sAst, sCst, sRst, sAstAdd, sAstSub, sIf1, sIf, sRet, sRetV, sCallV, sCallS, sPop, sCopy, sCopyT, sObj, sSw, iAddW, iMulW, iAndM, iShr, cQ, ent_0, ent_1, ent_2, ent_3, ent_4, ent_5, ent_6, va_up_self, va_up_ne, ne_eq, Nat.reduceEqDiff, not_false_eq_true, not_true_eq_false, si_1, si_2, si_g, sr_1, sr_2, cp_1, cp_2, List.length_cons, List.length_nil, Nat.reduceAdd, true_and, and_true, and_self, eq_self, true_implies, forall_const, Bool.false_eq_true, false_implies, or_true, true_or, Option.some.injEq, Prod.mk.injEq, exists_eq_left', exists_eq', exists_and_left, reduceIte, Int.reduceEq, Int.reduceNe, a1, a2, a3, a4, a5, a6]
  unfold sgA
  by_cases h0 : 0 ≤ t
  · by_cases h1 : t < 600
    · have h2 := h.2.2.2 t.toNat (by omega)
      simp only [h0, h1, h2]
      simp
      exact fun _ => h1
    · simp [h0, h1]
  · simp [h0]
theorem e_voiceAt {t p : Int} (h : StP M s) (ht : 0 ≤ t ∧ t < 600) : m_X4_voiceAt [.inr (some s), .inl t, .inl p] K M ↔ K 0 (si M (s + 8) t.toNat (clp p)) := by
  obtain ⟨a1, a2, a3, a4, a5, a6, a7⟩ := h
  simp only [m_X4_voiceAt, mk0, B_X4_voiceAt, iC, iL, iF, iA, iAc, iLen, iT, iAdd, iSub, iMul, iDiv, iRem, iNeg, iCh, iAnd31, iQ, iMax, iMin, iAbs, iCallS, iCallV, aN, aI, aR, rL, rF, rA, cEq, cNe, cLt, cGe, cGt, cLe, cAnd, cOr, cNot, cNull, sSkip, sSeq, sLoc, sLocR, sInc, sPut, sPutR, sPutAdd, sPutSub, sAst, sCst, sRst, sAstAdd, sAstSub, sIf1, sIf, sRet, sRetV, sCallV, sCallS, sPop, sCopy, sCopyT, sObj, sSw, iAddW, iMulW, iAndM, iShr, cQ, ent_0, ent_1, ent_2, ent_3, ent_4, ent_5, ent_6, va_up_self, va_up_ne, ne_eq, Nat.reduceEqDiff, not_false_eq_true, not_true_eq_false, si_1, si_2, si_g, sr_1, sr_2, cp_1, cp_2, List.length_cons, List.length_nil, Nat.reduceAdd, true_and, and_true, and_self, eq_self, true_implies, forall_const, Bool.false_eq_true, false_implies, or_true, true_or, Option.some.injEq, Prod.mk.injEq, exists_eq_left', exists_eq', exists_and_left, reduceIte, Int.reduceEq, Int.reduceNe, a1, a2, a3, a4, a5, a6, ht.1, ht.2, e_isWithin]
  unfold clp
  by_cases hp : 0 ≤ p ∧ p ≤ 60
  · simp [hp]
    exact fun _ => ht.2
  · simp [hp]
    exact fun _ => ht.2
theorem StP_sa {q : Nat} {g : Nat → Int} (h : StP M s) : StP (sa M q g) s := h
theorem SS_sg {g : Nat → Int} {sg2 : Nat → Int} (h : SS M s n D st sg) (hg : ∀ t, t < 600 → g t = sg2 t) : SS (sa M (s + 8) g) s n D st sg2 := by
  refine ⟨h.1, ⟨h.2.1.1, h.2.1.2.1, ?_, fun i hi => ?_⟩, fun j hj => ?_, fun t ht => ?_⟩
  · rw [sa_g, if_neg (by omega)]
    exact h.2.1.2.2.1
  · have := h.2.1.2.2.2 i hi
    simp only [sa_g]
    rw [if_neg (by omega), if_neg (by omega), if_neg (by omega), if_neg (by omega), if_neg (by omega)]
    exact this
  · rw [sa_g, if_neg (by omega)]
    exact h.2.2.1 j hj
  · rw [sa_g, if_pos rfl]
    exact hg t ht
theorem e_voice {a c p : Int} (h : StP M s) (ha : 0 ≤ a) (hc : 0 ≤ c) (hac : a + c ≤ 600) (hK : K 0 (sa M (s + 8) (fun t => if a ≤ (t : Int) ∧ (t : Int) < a + c then clp p else M.2.1 (s + 8) t))) : m_X4_voice [.inr (some s), .inl a, .inl c, .inl p] K M := by
  simp only [m_X4_voice, mk0, B_X4_voice, iC, iL, iF, iA, iAc, iLen, iT, iAdd, iSub, iMul, iDiv, iRem, iNeg, iCh, iAnd31, iQ, iMax, iMin, iAbs, iCallS, iCallV, aN, aI, aR, rL, rF, rA, cEq, cNe, cLt, cGe, cGt, cLe, cAnd, cOr, cNot, cNull, sSkip, sSeq, sLoc, sLocR, sInc, sPut, sPutR, sPutAdd, sPutSub, sAst, sCst, sRst, sAstAdd, sAstSub, sIf1, sIf, sRet, sRetV, sCallV, sCallS, sPop, sCopy, sCopyT, sObj, sSw, iAddW, iMulW, iAndM, iShr, cQ, ent_0, ent_1, ent_2, ent_3, ent_4, ent_5, ent_6, va_up_self, va_up_ne, ne_eq, Nat.reduceEqDiff, not_false_eq_true, not_true_eq_false, si_1, si_2, si_g, sr_1, sr_2, cp_1, cp_2, List.length_cons, List.length_nil, Nat.reduceAdd, true_and, and_true, and_self, eq_self, true_implies, forall_const, Bool.false_eq_true, false_implies, or_true, true_or, Option.some.injEq, Prod.mk.injEq, exists_eq_left', exists_eq', exists_and_left, reduceIte, Int.reduceEq, Int.reduceNe]
  refine while_n (n := c.toNat) (fun r ρ M2 => ∃ i : Nat, i + r = c.toNat ∧ ρ 0 = .inr (some s) ∧ ρ 1 = .inl a ∧ ρ 2 = .inl c ∧ ρ 3 = .inl p ∧ ρ 4 = .inl (i : Int) ∧ M2 = sa M (s + 8) (fun t => if a ≤ (t : Int) ∧ (t : Int) < a + i then clp p else M.2.1 (s + 8) t)) ?_ ⟨0, by omega, rfl, rfl, rfl, rfl, rfl, (sa_self (fun b => if_neg (by omega))).symm⟩
  rintro r W hW ρ M2 ⟨i, hr, h0, h1, h2, h3, h4, rfl⟩
  have a1 := h.1
  simp only [h0, h1, h2, h3, h4, a1, iC, iL, iF, iA, iAc, iLen, iT, iAdd, iSub, iMul, iDiv, iRem, iNeg, iCh, iAnd31, iQ, iMax, iMin, iAbs, iCallS, iCallV, aN, aI, aR, rL, rF, rA, cEq, cNe, cLt, cGe, cGt, cLe, cAnd, cOr, cNot, cNull, sSkip, sSeq, sLoc, sLocR, sInc, sPut, sPutR, sPutAdd, sPutSub, sAst, sCst, sRst, sAstAdd, sAstSub, sIf1, sIf, sRet, sRetV, sCallV, sCallS, sPop, sCopy, sCopyT, sObj, sSw, iAddW, iMulW, iAndM, iShr, cQ, ent_0, ent_1, ent_2, ent_3, ent_4, ent_5, ent_6, va_up_self, va_up_ne, ne_eq, Nat.reduceEqDiff, not_false_eq_true, not_true_eq_false, si_1, si_2, si_g, sr_1, sr_2, cp_1, cp_2, List.length_cons, List.length_nil, Nat.reduceAdd, true_and, and_true, and_self, eq_self, true_implies, forall_const, Bool.false_eq_true, false_implies, or_true, true_or, Option.some.injEq, Prod.mk.injEq, exists_eq_left', exists_eq', exists_and_left, reduceIte, Int.reduceEq, Int.reduceNe, sa_1]
  by_cases hi : (i : Int) < c
  · have r1 : inR (a + (i : Int)) := inR_s (by omega) (by omega)
    have r2 : inR ((i : Int) + 1) := inR_s (by omega) (by omega)
    rw [if_pos hi]
    refine ⟨r1, (e_voiceAt (StP_sa h) ⟨by omega, by omega⟩).mpr ⟨r2, hW _ _ (by omega) ⟨i + 1, by omega, ?_⟩⟩⟩
    refine ⟨by simp [va_up, h0], by simp [va_up, h1], by simp [va_up, h2], by simp [va_up, h3], by simp [va_up], ?_⟩
    rw [si_sa]
    refine sa_cong (fun j => ?_)
    by_cases hj : j = (a + (i : Int)).toNat
    · rw [if_pos hj, if_pos (by omega)]
    · rw [if_neg hj]
      by_cases hj2 : a ≤ (j : Int) ∧ (j : Int) < a + i
      · rw [if_pos hj2, if_pos (by omega)]
      · rw [if_neg hj2, if_neg (by omega)]
  · rw [if_neg hi]
    have : (i : Int) = c := by omega
    rw [this]
    exact hK
end STATE
