section MOPS7
variable {K : Int → Mm → Prop} {M : Mm} {A : Ab} {n : Nat} {D : Nat → Nat → Int} {st sg : Nat → Int}
set_option maxRecDepth 20000 in
theorem d_restore (h : MI M A) (hV : A.V) (hK : ∀ M2, MN M M2 (resR A).2 → K (resR A).1 M2) : m_X7_restore [.inr (some 80)] K M := by
  obtain ⟨m0, mA, mR⟩ := h.fx.md
  unfold resR at hK
  have e5 : Int.toNat 5 = 5 := rfl
  have d5 : (0 : Int) ≤ 5 ∧ (5 : Int) < (806 : Nat) := by decide
  simp only [m0, h.fl, m_X7_restore, mk0, B_X7_restore, iC, iL, iF, iA, iAc, iLen, iT, iAdd, iSub, iMul, iDiv, iRem, iNeg, iCh, iAnd31, iQ, iMax, iMin, iAbs, iCallS, iCallV, aN, aI, aR, rL, rF, rA, cEq, cNe, cLt, cGe, cGt, cLe, cAnd, cOr, cNot, cNull, sSkip, sSeq, sLoc, sLocR, sInc, sPut, sPutR, sPutAdd, sPutSub, sAst, sCst, sRst, sAstAdd, sAstSub, sIf1, sIf, sRet, sRetV, sCallV, sCallS, sPop, sCopy, sCopyT, sObj, sSw, ent_0, ent_1, ent_2, ent_3, ent_4, ent_5, ent_6, va_up_self, va_up_ne, ne_eq, Nat.reduceEqDiff, not_false_eq_true, not_true_eq_false, si_1, si_2, si_g, sr_1, sr_2, cp_1, cp_2, List.length_cons, List.length_nil, Nat.reduceAdd, true_and, and_true, and_self, eq_self, true_implies, forall_const, Bool.false_eq_true, false_implies, or_true, true_or, Option.some.injEq, Prod.mk.injEq, exists_eq_left', exists_eq', exists_and_left, reduceIte, Int.reduceEq, Int.reduceNe]
  by_cases c : A.f = 0
  · simp only [c, if_true, if_false, ent_0, ent_1, ent_2, ent_3, ent_4, ent_5, ent_6, va_up_self, va_up_ne, ne_eq, Nat.reduceEqDiff, not_false_eq_true, not_true_eq_false, si_1, si_2, si_g, sr_1, sr_2, cp_1, cp_2, List.length_cons, List.length_nil, Nat.reduceAdd, true_and, and_true, and_self, eq_self, true_implies, forall_const, Bool.false_eq_true, false_implies, or_true, true_or, Option.some.injEq, Prod.mk.injEq, exists_eq_left', exists_eq', exists_and_left, reduceIte, Int.reduceEq, Int.reduceNe] at hK ⊢
    exact hK M h.rf
  · simp only [c, m0, if_true, if_false, ent_0, ent_1, ent_2, ent_3, ent_4, ent_5, ent_6, va_up_self, va_up_ne, ne_eq, Nat.reduceEqDiff, not_false_eq_true, not_true_eq_false, si_1, si_2, si_g, sr_1, sr_2, cp_1, cp_2, List.length_cons, List.length_nil, Nat.reduceAdd, true_and, and_true, and_self, eq_self, true_implies, forall_const, Bool.false_eq_true, false_implies, or_true, true_or, Option.some.injEq, Prod.mk.injEq, exists_eq_left', exists_eq', exists_and_left, reduceIte, Int.reduceEq, Int.reduceNe] at hK ⊢
    refine e_record7 h hV.c4 (fun M2 n2 => ?_)
    obtain ⟨k0, kA, kR⟩ := n2.1.fx.md
    have hsn : RW M2 83 0 A.sn := n2.1.sn (show A.f = 1 by have := hV.f2; omega)
    simp only [k0, kR, ent_0, ent_1, ent_2, ent_3, ent_4, ent_5, ent_6, va_up_self, va_up_ne, ne_eq, Nat.reduceEqDiff, not_false_eq_true, not_true_eq_false, si_1, si_2, si_g, sr_1, sr_2, cp_1, cp_2, List.length_cons, List.length_nil, Nat.reduceAdd, true_and, and_true, and_self, eq_self, true_implies, forall_const, Bool.false_eq_true, false_implies, or_true, true_or, Option.some.injEq, Prod.mk.injEq, exists_eq_left', exists_eq', exists_and_left, reduceIte, Int.reduceEq, Int.reduceNe]
    refine e_copy7 (o := 0) (o2 := 0) kA.2.2.1 kA.1 (by decide) (by decide) (by decide) (by decide) (by decide) ?_
    have hr : RW (sa M2 81 (fun t => if 0 ≤ t ∧ t < 0 + 806 then M2.2.1 83 (0 + (t - 0)) else M2.2.1 81 t)) 81 0 A.sn := RW_cp hsn (fun t ht => by
      rw [sa_g, if_pos rfl, if_pos (by omega)]
      exact congrArg (M2.2.1 83) (by omega))
    have n3 := n2.tr (MN_row n2.1 hr)
    generalize sa M2 81 (fun t => if 0 ≤ t ∧ t < 0 + 806 then M2.2.1 83 (0 + (t - 0)) else M2.2.1 81 t) = M3 at n3 ⊢
    obtain ⟨j0, jA, jR⟩ := n3.1.fx.md
    have en : M3.2.1 81 5 = A.sn.n := n3.1.nw.2.1
    simp only [j0, jA, jR, e5, d5.1, d5.2, en, ent_0, ent_1, ent_2, ent_3, ent_4, ent_5, ent_6, va_up_self, va_up_ne, ne_eq, Nat.reduceEqDiff, not_false_eq_true, not_true_eq_false, si_1, si_2, si_g, sr_1, sr_2, cp_1, cp_2, List.length_cons, List.length_nil, Nat.reduceAdd, true_and, and_true, and_self, eq_self, true_implies, forall_const, Bool.false_eq_true, false_implies, or_true, true_or, Option.some.injEq, Prod.mk.injEq, exists_eq_left', exists_eq', exists_and_left, reduceIte, Int.reduceEq, Int.reduceNe]
    exact ⟨n3.2.1, hK _ n3⟩
theorem MN_count {M : Mm} {A : Ab} {k : Nat} (h : MI M A) (hk : k ≤ A.c) : MN M (si M 80 2 k) (A.now, k, A.hs, A.f, A.sn, A.tl, A.tc) := by
  have o : ∀ q j, ¬ (q = 80 ∧ j = 2) → (si M 80 2 k).2.1 q j = M.2.1 q j := fun q j h2 => by rw [si_g, if_neg h2]
  refine ⟨?_, rfl, rfl, fun q j hq => o q j (by omega)⟩
  apply MI.mk
  case fx => exact h.fx.fr' rfl rfl
  case nw => exact h.nw.fr (fun j => o _ _ (by omega))
  case cn => rw [si_g, if_pos ⟨rfl, rfl⟩]; rfl
  case hs =>
    intro i hi
    have hi2 : i < k := hi
    exact (h.hs i (by omega)).fr (fun j => o _ _ (by omega))
  case fl => rw [o _ _ (by omega)]; exact h.fl
  case sn => exact fun e => (h.sn e).fr (fun j => o _ _ (by omega))
  case tl => rw [o _ _ (by omega)]; exact h.tl
  case tc => exact fun i hi => by rw [o _ _ (by omega)]; exact h.tc i hi
set_option maxRecDepth 20000 in
theorem d_undo (h : MI M A) (hV : A.V) (hK : ∀ M2, MN M M2 (undR A).2 → K (undR A).1 M2) : m_X7_undo [.inr (some 80)] K M := by
  obtain ⟨m0, mA, mR⟩ := h.fx.md
  have h4 := hV.c4
  unfold undR at hK
  simp only [m0, h.cn, m_X7_undo, mk0, B_X7_undo, iC, iL, iF, iA, iAc, iLen, iT, iAdd, iSub, iMul, iDiv, iRem, iNeg, iCh, iAnd31, iQ, iMax, iMin, iAbs, iCallS, iCallV, aN, aI, aR, rL, rF, rA, cEq, cNe, cLt, cGe, cGt, cLe, cAnd, cOr, cNot, cNull, sSkip, sSeq, sLoc, sLocR, sInc, sPut, sPutR, sPutAdd, sPutSub, sAst, sCst, sRst, sAstAdd, sAstSub, sIf1, sIf, sRet, sRetV, sCallV, sCallS, sPop, sCopy, sCopyT, sObj, sSw, ent_0, ent_1, ent_2, ent_3, ent_4, ent_5, ent_6, va_up_self, va_up_ne, ne_eq, Nat.reduceEqDiff, not_false_eq_true, not_true_eq_false, si_1, si_2, si_g, sr_1, sr_2, cp_1, cp_2, List.length_cons, List.length_nil, Nat.reduceAdd, true_and, and_true, and_self, eq_self, true_implies, forall_const, Bool.false_eq_true, false_implies, or_true, true_or, Option.some.injEq, Prod.mk.injEq, exists_eq_left', exists_eq', exists_and_left, reduceIte, Int.reduceEq, Int.reduceNe]
  by_cases c : A.c = 0
  · simp only [c, if_true] at hK
    rw [if_pos (by omega)]
    exact hK M h.rf
  · simp only [c, if_false] at hK
    rw [if_neg (by omega)]
    have e1 : (A.c : Int) - 1 = ((A.c - 1 : Nat) : Int) := by omega
    have r1 : inR ((A.c - 1 : Nat) : Int) := inR_s (by omega) (by omega)
    have r2 : inR (806 * ((A.c - 1 : Nat) : Int)) := inR_s (by omega) (by omega)
    have e2 : 806 * ((A.c - 1 : Nat) : Int) = ((806 * (A.c - 1) : Nat) : Int) := by omega
    rw [e1] at hK ⊢
    simp only [m0, mR, r1, r2, ent_0, ent_1, ent_2, ent_3, ent_4, ent_5, ent_6, va_up_self, va_up_ne, ne_eq, Nat.reduceEqDiff, not_false_eq_true, not_true_eq_false, si_1, si_2, si_g, sr_1, sr_2, cp_1, cp_2, List.length_cons, List.length_nil, Nat.reduceAdd, true_and, and_true, and_self, eq_self, true_implies, forall_const, Bool.false_eq_true, false_implies, or_true, true_or, Option.some.injEq, Prod.mk.injEq, exists_eq_left', exists_eq', exists_and_left, reduceIte, Int.reduceEq, Int.reduceNe]
    rw [e2]
    have n1 := MN_count (k := A.c - 1) h (by omega)
    have hr1 : RW (si M 80 2 ((A.c - 1 : Nat) : Int)) 82 (806 * (A.c - 1)) (A.hs (A.c - 1)) := (h.hs _ (by omega)).fr (fun j => by rw [si_g, if_neg (by omega)])
    obtain ⟨k0, kA, kR⟩ := n1.1.fx.md
    generalize si M 80 2 ((A.c - 1 : Nat) : Int) = M1 at n1 hr1 k0 kA kR ⊢
    refine e_copy7 (o2 := 0) kA.2.1 kA.1 (by decide) (by omega) (by decide) (by decide) (by decide) ?_
    have hr : RW (sa M1 81 (fun t => if 0 ≤ t ∧ t < 0 + 806 then M1.2.1 82 (806 * (A.c - 1) + (t - 0)) else M1.2.1 81 t)) 81 0 (A.hs (A.c - 1)) := RW_cp hr1 (fun t ht => by
      rw [sa_g, if_pos rfl, if_pos (by omega)]
      exact congrArg (M1.2.1 82) (by omega))
    have n3 := n1.tr (MN_row n1.1 hr)
    generalize sa M1 81 (fun t => if 0 ≤ t ∧ t < 0 + 806 then M1.2.1 82 (806 * (A.c - 1) + (t - 0)) else M1.2.1 81 t) = M3 at n3 ⊢
    obtain ⟨j0, jA, jR⟩ := n3.1.fx.md
    have ec : M3.2.1 80 2 = ((A.c - 1 : Nat) : Int) := n3.1.cn
    simp only [j0, ec, ent_0, ent_1, ent_2, ent_3, ent_4, ent_5, ent_6, va_up_self, va_up_ne, ne_eq, Nat.reduceEqDiff, not_false_eq_true, not_true_eq_false, si_1, si_2, si_g, sr_1, sr_2, cp_1, cp_2, List.length_cons, List.length_nil, Nat.reduceAdd, true_and, and_true, and_self, eq_self, true_implies, forall_const, Bool.false_eq_true, false_implies, or_true, true_or, Option.some.injEq, Prod.mk.injEq, exists_eq_left', exists_eq', exists_and_left, reduceIte, Int.reduceEq, Int.reduceNe]
    exact ⟨n3.2.1, hK _ n3⟩
/-- the song judged: the tables -/
theorem e_jS {Q : Int → Mm → Prop} (h : MI M A) (hV : A.now.V) (hK : ∀ M2, MN M M2 A → JS M M2 A.now.n A.now.D A.now.st A.now.sg → Q 0 M2) : m_X7_judgeSong [.inr (some 80)] Q M := by
  obtain ⟨hm, hG⟩ := h.r
  refine e_judgeSong hm hG hV.2.2 hV.1 hV.2.1 (fun M2 j => ?_)
  have hf2 := h.fx.fr' j.1.1 j.1.2.1
  exact hK M2 ⟨h.fr hf2 (fun q i h1 h2 => j.1.2.2 q i (by omega)), j.1.1, j.1.2.1, fun q i hq => j.1.2.2 q i (by omega)⟩ j
set_option maxRecDepth 20000 in
theorem d_wanted {t : Int} (h : MI M A) (hV : A.now.V) (hK : ∀ M2, MN M M2 A → K (wanV A.now t) M2) : m_X7_wanted [.inr (some 80), .inl t] K M := by
  obtain ⟨m0, mA, mR⟩ := h.fx.md
  obtain ⟨hm, hG⟩ := h.r
  have hK := hK M h.rf
  unfold wanV at hK
  simp only [m0, e_isTick, m_X7_wanted, mk0, B_X7_wanted, iC, iL, iF, iA, iAc, iLen, iT, iAdd, iSub, iMul, iDiv, iRem, iNeg, iCh, iAnd31, iQ, iMax, iMin, iAbs, iCallS, iCallV, aN, aI, aR, rL, rF, rA, cEq, cNe, cLt, cGe, cGt, cLe, cAnd, cOr, cNot, cNull, sSkip, sSeq, sLoc, sLocR, sInc, sPut, sPutR, sPutAdd, sPutSub, sAst, sCst, sRst, sAstAdd, sAstSub, sIf1, sIf, sRet, sRetV, sCallV, sCallS, sPop, sCopy, sCopyT, sObj, sSw, ent_0, ent_1, ent_2, ent_3, ent_4, ent_5, ent_6, va_up_self, va_up_ne, ne_eq, Nat.reduceEqDiff, not_false_eq_true, not_true_eq_false, si_1, si_2, si_g, sr_1, sr_2, cp_1, cp_2, List.length_cons, List.length_nil, Nat.reduceAdd, true_and, and_true, and_self, eq_self, true_implies, forall_const, Bool.false_eq_true, false_implies, or_true, true_or, Option.some.injEq, Prod.mk.injEq, exists_eq_left', exists_eq', exists_and_left, reduceIte, Int.reduceEq, Int.reduceNe]
  by_cases c1 : 0 ≤ t ∧ t ≤ 599
  · simp only [c1, m0, and_self, if_true, if_false, ent_0, ent_1, ent_2, ent_3, ent_4, ent_5, ent_6, va_up_self, va_up_ne, ne_eq, Nat.reduceEqDiff, not_false_eq_true, not_true_eq_false, si_1, si_2, si_g, sr_1, sr_2, cp_1, cp_2, List.length_cons, List.length_nil, Nat.reduceAdd, true_and, and_true, and_self, eq_self, true_implies, forall_const, Bool.false_eq_true, false_implies, or_true, true_or, Option.some.injEq, Prod.mk.injEq, exists_eq_left', exists_eq', exists_and_left, reduceIte, Int.reduceEq, Int.reduceNe] at hK ⊢
    refine e_syllableAt7 hm hV.1 (fun v hv => ?_)
    rcases hv with ⟨rfl, hno⟩ | ⟨k, hk, rfl, hin⟩
    · rw [if_pos rfl]
      rw [wF_no _ hno] at hK
      exact ⟨rfl, hK⟩
    · rw [if_neg (by omega)]
      rw [wF_at hV.1 hin _ hk (Nat.le_refl _)] at hK
      have hd := hV.1.2.1 k hk
      refine ⟨⟨0, m0⟩, (e_of0 hm hk).mpr ⟨inR_s (by omega) (by omega), ⟨0, m0⟩, (e_wantedIn hm hV.1 hk (by omega)).mpr ⟨rfl, hK⟩⟩⟩
  · simp only [c1, if_true, if_false, ent_0, ent_1, ent_2, ent_3, ent_4, ent_5, ent_6, va_up_self, va_up_ne, ne_eq, Nat.reduceEqDiff, not_false_eq_true, not_true_eq_false, si_1, si_2, si_g, sr_1, sr_2, cp_1, cp_2, List.length_cons, List.length_nil, Nat.reduceAdd, true_and, and_true, and_self, eq_self, true_implies, forall_const, Bool.false_eq_true, false_implies, or_true, true_or, Option.some.injEq, Prod.mk.injEq, exists_eq_left', exists_eq', exists_and_left, reduceIte, Int.reduceEq, Int.reduceNe] at hK ⊢
    exact hK
set_option maxRecDepth 20000 in
theorem d_sung {t : Int} (h : MI M A) (hV : A.now.V) (hK : ∀ M2, MN M M2 A → K (sunV A.now t) M2) : m_X7_sung [.inr (some 80), .inl t] K M := by
  obtain ⟨m0, mA, mR⟩ := h.fx.md
  obtain ⟨hm, hG⟩ := h.r
  have hK := hK M h.rf
  unfold sunV at hK
  simp only [m0, mR, mA, e_isTick, m_X7_sung, mk0, B_X7_sung, iC, iL, iF, iA, iAc, iLen, iT, iAdd, iSub, iMul, iDiv, iRem, iNeg, iCh, iAnd31, iQ, iMax, iMin, iAbs, iCallS, iCallV, aN, aI, aR, rL, rF, rA, cEq, cNe, cLt, cGe, cGt, cLe, cAnd, cOr, cNot, cNull, sSkip, sSeq, sLoc, sLocR, sInc, sPut, sPutR, sPutAdd, sPutSub, sAst, sCst, sRst, sAstAdd, sAstSub, sIf1, sIf, sRet, sRetV, sCallV, sCallS, sPop, sCopy, sCopyT, sObj, sSw, ent_0, ent_1, ent_2, ent_3, ent_4, ent_5, ent_6, va_up_self, va_up_ne, ne_eq, Nat.reduceEqDiff, not_false_eq_true, not_true_eq_false, si_1, si_2, si_g, sr_1, sr_2, cp_1, cp_2, List.length_cons, List.length_nil, Nat.reduceAdd, true_and, and_true, and_self, eq_self, true_implies, forall_const, Bool.false_eq_true, false_implies, or_true, true_or, Option.some.injEq, Prod.mk.injEq, exists_eq_left', exists_eq', exists_and_left, reduceIte, Int.reduceEq, Int.reduceNe]
  by_cases c1 : 0 ≤ t ∧ t ≤ 599
  · have r1 : inR (206 + t) := inR_s (by omega) (by omega)
    have d1 : 0 ≤ 206 + t := by omega
    have d2 : 206 + t < (806 : Nat) := by omega
    have e1 : (206 + t).toNat = 206 + t.toNat := by omega
    have es := hG t.toNat (by omega)
    have hb := hV.2.2 t.toNat (by omega)
    simp only [c1, m0, mA, mR, r1, d1, d2, e1, es, and_self, if_true, if_false, ent_0, ent_1, ent_2, ent_3, ent_4, ent_5, ent_6, va_up_self, va_up_ne, ne_eq, Nat.reduceEqDiff, not_false_eq_true, not_true_eq_false, si_1, si_2, si_g, sr_1, sr_2, cp_1, cp_2, List.length_cons, List.length_nil, Nat.reduceAdd, true_and, and_true, and_self, eq_self, true_implies, forall_const, Bool.false_eq_true, false_implies, or_true, true_or, Option.some.injEq, Prod.mk.injEq, exists_eq_left', exists_eq', exists_and_left, reduceIte, Int.reduceEq, Int.reduceNe] at hK ⊢
    by_cases c2 : A.now.sg t.toNat = -1
    · rw [if_pos c2] at hK
      rw [if_pos (by omega)]
      exact hK
    · rw [if_neg c2] at hK
      rw [if_neg (by omega)]
      have e3 : A.now.sg t.toNat + 1 - 1 = A.now.sg t.toNat := by omega
      rw [e3]
      exact ⟨inR_s (by omega) (by omega), hK⟩
  · simp only [c1, if_true, if_false, ent_0, ent_1, ent_2, ent_3, ent_4, ent_5, ent_6, va_up_self, va_up_ne, ne_eq, Nat.reduceEqDiff, not_false_eq_true, not_true_eq_false, si_1, si_2, si_g, sr_1, sr_2, cp_1, cp_2, List.length_cons, List.length_nil, Nat.reduceAdd, true_and, and_true, and_self, eq_self, true_implies, forall_const, Bool.false_eq_true, false_implies, or_true, true_or, Option.some.injEq, Prod.mk.injEq, exists_eq_left', exists_eq', exists_and_left, reduceIte, Int.reduceEq, Int.reduceNe] at hK ⊢
    exact hK
set_option maxRecDepth 20000 in
theorem d_lit {i t : Int} (h : MI M A) (hV : A.now.V) (hK : ∀ M2, MN M M2 A → K (litV A.now i t) M2) : m_X7_lit [.inr (some 80), .inl i, .inl t] K M := by
  obtain ⟨m0, mA, mR⟩ := h.fx.md
  obtain ⟨hm, hG⟩ := h.r
  have hK := hK M h.rf
  unfold litV at hK
  simp only [m0, e_isSyllable hm, e_isTick, m_X7_lit, mk0, B_X7_lit, iC, iL, iF, iA, iAc, iLen, iT, iAdd, iSub, iMul, iDiv, iRem, iNeg, iCh, iAnd31, iQ, iMax, iMin, iAbs, iCallS, iCallV, aN, aI, aR, rL, rF, rA, cEq, cNe, cLt, cGe, cGt, cLe, cAnd, cOr, cNot, cNull, sSkip, sSeq, sLoc, sLocR, sInc, sPut, sPutR, sPutAdd, sPutSub, sAst, sCst, sRst, sAstAdd, sAstSub, sIf1, sIf, sRet, sRetV, sCallV, sCallS, sPop, sCopy, sCopyT, sObj, sSw, ent_0, ent_1, ent_2, ent_3, ent_4, ent_5, ent_6, va_up_self, va_up_ne, ne_eq, Nat.reduceEqDiff, not_false_eq_true, not_true_eq_false, si_1, si_2, si_g, sr_1, sr_2, cp_1, cp_2, List.length_cons, List.length_nil, Nat.reduceAdd, true_and, and_true, and_self, eq_self, true_implies, forall_const, Bool.false_eq_true, false_implies, or_true, true_or, Option.some.injEq, Prod.mk.injEq, exists_eq_left', exists_eq', exists_and_left, reduceIte, Int.reduceEq, Int.reduceNe]
  by_cases c1 : 0 ≤ i ∧ i < A.now.n
  · by_cases c2 : 0 ≤ t ∧ t ≤ 599
    · obtain ⟨k, rfl⟩ : ∃ k : Nat, i = k := ⟨i.toNat, by omega⟩
      have hk : k < A.now.n := by omega
      have hd := hV.1.2.1 k hk
      have r1 : inR (t - A.now.D k 0) := inR_s (by omega) (by omega)
      have r2 : inR (t - A.now.D k 0 + 1) := inR_s (by omega) (by omega)
      simp only [c1, c2, m0, Int.toNat_natCast, e_of0 hm hk, e_of1 hm hk, r1, r2, and_self, if_true, if_false, ent_0, ent_1, ent_2, ent_3, ent_4, ent_5, ent_6, va_up_self, va_up_ne, ne_eq, Nat.reduceEqDiff, not_false_eq_true, not_true_eq_false, si_1, si_2, si_g, sr_1, sr_2, cp_1, cp_2, List.length_cons, List.length_nil, Nat.reduceAdd, true_and, and_true, and_self, eq_self, true_implies, forall_const, Bool.false_eq_true, false_implies, or_true, true_or, Option.some.injEq, Prod.mk.injEq, exists_eq_left', exists_eq', exists_and_left, reduceIte, Int.reduceEq, Int.reduceNe] at hK ⊢
      by_cases c3 : t - A.now.D k 0 + 1 < 0
      · simp only [c3, if_true] at hK ⊢
        exact hK
      · simp only [c3, if_false] at hK ⊢
        by_cases c4 : A.now.D k 1 < t - A.now.D k 0 + 1
        · simp only [c4, if_true] at hK ⊢
          exact hK
        · simp only [c4, if_false] at hK ⊢
          exact hK
    · simp only [c1, c2, and_self, if_true, if_false, ent_0, ent_1, ent_2, ent_3, ent_4, ent_5, ent_6, va_up_self, va_up_ne, ne_eq, Nat.reduceEqDiff, not_false_eq_true, not_true_eq_false, si_1, si_2, si_g, sr_1, sr_2, cp_1, cp_2, List.length_cons, List.length_nil, Nat.reduceAdd, true_and, and_true, and_self, eq_self, true_implies, forall_const, Bool.false_eq_true, false_implies, or_true, true_or, Option.some.injEq, Prod.mk.injEq, exists_eq_left', exists_eq', exists_and_left, reduceIte, Int.reduceEq, Int.reduceNe] at hK ⊢
      exact hK
  · simp only [c1, if_true, if_false, ent_0, ent_1, ent_2, ent_3, ent_4, ent_5, ent_6, va_up_self, va_up_ne, ne_eq, Nat.reduceEqDiff, not_false_eq_true, not_true_eq_false, si_1, si_2, si_g, sr_1, sr_2, cp_1, cp_2, List.length_cons, List.length_nil, Nat.reduceAdd, true_and, and_true, and_self, eq_self, true_implies, forall_const, Bool.false_eq_true, false_implies, or_true, true_or, Option.some.injEq, Prod.mk.injEq, exists_eq_left', exists_eq', exists_and_left, reduceIte, Int.reduceEq, Int.reduceNe] at hK ⊢
    exact hK
end MOPS7
