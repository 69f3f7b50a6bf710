set_option maxRecDepth 20000 in
theorem e_copy7 {K : Int → Mm → Prop} {M : Mm} {p o p2 o2 l l2 : Nat} (h1 : M.1[p]? = some (20, l)) (h2 : M.1[p2]? = some (20, l2)) (hp : p ≠ p2) (hl : o + 806 ≤ l) (hl2 : o2 + 806 ≤ l2) (hb : l ≤ 4000) (hb2 : l2 ≤ 4000) (hK : K 0 (sa M p2 (fun t => if o2 ≤ t ∧ t < o2 + 806 then M.2.1 p (o + (t - o2)) else M.2.1 p2 t))) : m_X7_copy [.inr (some p), .inl (o : Int), .inr (some p2), .inl (o2 : Int)] K M := by
  obtain ⟨N, hN⟩ : ∃ N, N = 806 := ⟨806, rfl⟩
  rw [← hN] at hK
  simp only [m_X7_copy, mk0, B_X7_copy, iC, iL, iF, iA, iAc, iLen, iT, iAdd, iSub, iMul, iDiv, iRem, iNeg, iCh, iAnd31, iQ, iMax, iMin, iAbs, iCallS, iCallV, aN, aI, aR, rL, rF, rA, cEq, cNe, cLt, cGe, cGt, cLe, cAnd, cOr, cNot, cNull, sSkip, sSeq, sLoc, sLocR, sInc, sPut, sPutR, sPutAdd, sPutSub, sAst, sCst, sRst, sAstAdd, sAstSub, sIf1, sIf, sRet, sRetV, sCallV, sCallS, sPop, sCopy, sCopyT, sObj, sSw, ent_0, ent_1, ent_2, ent_3, ent_4, ent_5, ent_6, va_up_self, va_up_ne, ne_eq, Nat.reduceEqDiff, not_false_eq_true, not_true_eq_false, si_1, si_2, si_g, sr_1, sr_2, cp_1, cp_2, List.length_cons, List.length_nil, Nat.reduceAdd, true_and, and_true, and_self, eq_self, true_implies, forall_const, Bool.false_eq_true, false_implies, or_true, true_or, Option.some.injEq, Prod.mk.injEq, exists_eq_left', exists_eq', exists_and_left, reduceIte, Int.reduceEq, Int.reduceNe]
  refine while_n (n := N) (fun r ρ M2 => ∃ j : Nat, j + r = N ∧ ρ 0 = .inr (some p) ∧ ρ 1 = .inl (o : Int) ∧ ρ 2 = .inr (some p2) ∧ ρ 3 = .inl (o2 : Int) ∧ ρ 4 = .inl (j : Int) ∧ M2 = sa M p2 (fun t => if o2 ≤ t ∧ t < o2 + j then M.2.1 p (o + (t - o2)) else M.2.1 p2 t)) ?_ ⟨0, by omega, rfl, rfl, rfl, rfl, rfl, (sa_self (fun b => if_neg (by omega))).symm⟩
  rintro r W hW ρ M2 ⟨j, hr, k0, k1, k2, k3, k4, rfl⟩
  simp only [k0, k1, k2, k3, k4, sa_1, sa_2, sa_g, h1, h2, hp, if_false, iC, iL, iF, iA, iAc, iLen, iT, iAdd, iSub, iMul, iDiv, iRem, iNeg, iCh, iAnd31, iQ, iMax, iMin, iAbs, iCallS, iCallV, aN, aI, aR, rL, rF, rA, cEq, cNe, cLt, cGe, cGt, cLe, cAnd, cOr, cNot, cNull, sSkip, sSeq, sLoc, sLocR, sInc, sPut, sPutR, sPutAdd, sPutSub, sAst, sCst, sRst, sAstAdd, sAstSub, sIf1, sIf, sRet, sRetV, sCallV, sCallS, sPop, sCopy, sCopyT, sObj, sSw, ent_0, ent_1, ent_2, ent_3, ent_4, ent_5, ent_6, va_up_self, va_up_ne, ne_eq, Nat.reduceEqDiff, not_false_eq_true, not_true_eq_false, si_1, si_2, si_g, sr_1, sr_2, cp_1, cp_2, List.length_cons, List.length_nil, Nat.reduceAdd, true_and, and_true, and_self, eq_self, true_implies, forall_const, Bool.false_eq_true, false_implies, or_true, true_or, Option.some.injEq, Prod.mk.injEq, exists_eq_left', exists_eq', exists_and_left, reduceIte, Int.reduceEq, Int.reduceNe]
  by_cases hj : j < N
  · rw [if_pos (by omega)]
    have r1 : inR ((o : Int) + j) := inR_s (by omega) (by omega)
    have r2 : inR ((o2 : Int) + j) := inR_s (by omega) (by omega)
    have r3 : inR ((j : Int) + 1) := inR_s (by omega) (by omega)
    have e1 : ((o : Int) + j).toNat = o + j := by omega
    have e2 : ((o2 : Int) + j).toNat = o2 + j := by omega
    refine ⟨r2, r1, by omega, by omega, by omega, by omega, r3, hW _ _ (by omega) ⟨j + 1, by omega, by simp [va_up, k0], by simp [va_up, k1], by simp [va_up, k2], by simp [va_up, k3], by simp [va_up], ?_⟩⟩
    rw [e1, e2, si_sa]
    refine sa_cong (fun t => ?_)
    by_cases ht : t = o2 + j
    · rw [if_pos ht, if_pos (by omega)]
      exact congrArg (M.2.1 p) (by omega)
    · rw [if_neg ht]
      by_cases ht2 : o2 ≤ t ∧ t < o2 + j
      · rw [if_pos ht2, if_pos (by omega)]
      · rw [if_neg ht2, if_neg (by omega)]
  · rw [if_neg (by omega)]
    obtain rfl : j = N := by omega
    exact hK
/-- a row that is copied -/
theorem RW_cp {M M2 : Mm} {p o p2 o2 : Nat} {S : Sg} (h : RW M p o S) (h1 : ∀ t, t < 806 → M2.2.1 p2 (o2 + t) = M.2.1 p (o + t)) : RW M2 p2 o2 S := by
  have hn := h.1
  refine ⟨hn, ?_, fun k hk w hw => ?_, fun j hj => ?_, fun t ht => ?_⟩
  · rw [h1 5 (by omega)]; exact h.2.1
  · rw [h1 _ (by omega)]; exact h.2.2.1 k hk w hw
  · rw [h1 j (by omega)]; exact h.2.2.2.1 j hj
  · rw [h1 _ (by omega)]; exact h.2.2.2.2 t ht
def Lx (M M2 : Mm) : Prop := ∀ q j, q < 80 → M2.2.1 q j = M.2.1 q j
theorem Lx.tr {M M2 M3 : Mm} (h : Lx M M2) (h2 : Lx M2 M3) : Lx M M3 := fun q j hq => by rw [h2 q j hq, h q j hq]
def MN (M M2 : Mm) (A : Ab) : Prop := MI M2 A ∧ M2.1 = M.1 ∧ M2.2.2 = M.2.2 ∧ Lx M M2
theorem MN.tr {M M2 M3 : Mm} {A B : Ab} (h : MN M M2 A) (h2 : MN M2 M3 B) : MN M M3 B := ⟨h2.1, by rw [h2.2.1, h.2.1], by rw [h2.2.2.1, h.2.2.1], h.2.2.2.tr h2.2.2.2⟩
theorem MI.rf {M : Mm} {A : Ab} (h : MI M A) : MN M M A := ⟨h, rfl, rfl, fun _ _ _ => rfl⟩
theorem RW.o0 {M : Mm} {S : Sg} (h : RW M 81 0 S) (hm : MdP M) : MR M S.n S.D S.st ∧ MG M S.sg := by
  obtain ⟨a, b, c, d, e⟩ := h
  simp only [Nat.zero_add] at b c d e
  exact ⟨⟨hm, a, b, c, d⟩, e⟩
theorem RW.of {M : Mm} {S : Sg} (hm : MR M S.n S.D S.st) (hg : MG M S.sg) : RW M 81 0 S := by
  obtain ⟨m, a, b, c, d⟩ := hm
  refine ⟨a, ?_, ?_, ?_, ?_⟩ <;> simp only [Nat.zero_add]
  · exact b
  · exact c
  · exact d
  · exact hg
theorem MI_push {M : Mm} {A : Ab} (h : MI M A) (hc : A.c < 4) : MN M (si (sa M 82 (fun t => if 806 * A.c ≤ t ∧ t < 806 * A.c + 806 then M.2.1 81 (0 + (t - 806 * A.c)) else M.2.1 82 t)) 80 2 ((A.c : Int) + 1)) (recA A) := by
  have hne : ¬ A.c = 4 := by omega
  have hf : Fx (si (sa M 82 (fun t => if 806 * A.c ≤ t ∧ t < 806 * A.c + 806 then M.2.1 81 (0 + (t - 806 * A.c)) else M.2.1 82 t)) 80 2 ((A.c : Int) + 1)) := h.fx.fr' rfl rfl
  have o : ∀ q j, q ≠ 82 → ¬ (q = 80 ∧ j = 2) → (si (sa M 82 (fun t => if 806 * A.c ≤ t ∧ t < 806 * A.c + 806 then M.2.1 81 (0 + (t - 806 * A.c)) else M.2.1 82 t)) 80 2 ((A.c : Int) + 1)).2.1 q j = M.2.1 q j := fun q j h1 h2 => by rw [si_g, if_neg h2, sa_g, if_neg h1]
  have o2 : ∀ j, (si (sa M 82 (fun t => if 806 * A.c ≤ t ∧ t < 806 * A.c + 806 then M.2.1 81 (0 + (t - 806 * A.c)) else M.2.1 82 t)) 80 2 ((A.c : Int) + 1)).2.1 82 j = if 806 * A.c ≤ j ∧ j < 806 * A.c + 806 then M.2.1 81 (0 + (j - 806 * A.c)) else M.2.1 82 j := fun j => by rw [si_g, if_neg (by omega), sa_g, if_pos rfl]
  have o3 : (si (sa M 82 (fun t => if 806 * A.c ≤ t ∧ t < 806 * A.c + 806 then M.2.1 81 (0 + (t - 806 * A.c)) else M.2.1 82 t)) 80 2 ((A.c : Int) + 1)).2.1 80 2 = (A.c : Int) + 1 := by rw [si_g, if_pos ⟨rfl, rfl⟩]
  refine ⟨?_, rfl, rfl, fun q j hq => o q j (by omega) (by omega)⟩
  generalize si (sa M 82 (fun t => if 806 * A.c ≤ t ∧ t < 806 * A.c + 806 then M.2.1 81 (0 + (t - 806 * A.c)) else M.2.1 82 t)) 80 2 ((A.c : Int) + 1) = M2 at hf o o2 o3 ⊢
  apply MI.mk
  case fx => exact hf
  case nw => exact h.nw.fr (fun j => o _ _ (by decide) (by omega))
  case cn =>
    show _ = (((if A.c = 4 then 4 else A.c + 1) : Nat) : Int)
    rw [if_neg hne, o3]
    rfl
  case hs =>
    intro i hi
    have hi2 : i < (if A.c = 4 then 4 else A.c + 1) := hi
    rw [if_neg hne] at hi2
    show RW M2 82 (806 * i) (if A.c = 4 then _ else if i = A.c then A.now else A.hs i)
    rw [if_neg hne]
    by_cases e : i = A.c
    · rw [if_pos e, e]
      refine RW_cp h.nw (fun t ht => ?_)
      rw [o2, if_pos (by omega)]
      exact congrArg (M.2.1 81) (by omega)
    · rw [if_neg e]
      refine RW_cp (h.hs i (by omega)) (fun t ht => ?_)
      rw [o2, if_neg (by omega)]
  case fl => rw [o _ _ (by decide) (by omega)]; exact h.fl
  case sn => exact fun e => (h.sn e).fr (fun j => o _ _ (by decide) (by omega))
  case tl => rw [o _ _ (by decide) (by omega)]; exact h.tl
  case tc => exact fun i hi => by rw [o _ _ (by decide) (by omega)]; exact h.tc i hi
theorem MI_drop {M : Mm} {A : Ab} (h : MI M A) (hc : A.c = 4) : MN M (si (sa M 82 (fun t => if t < 2418 then M.2.1 82 (806 + t) else M.2.1 82 t)) 80 2 3) (dropA A) := by
  have hf : Fx (si (sa M 82 (fun t => if t < 2418 then M.2.1 82 (806 + t) else M.2.1 82 t)) 80 2 3) := h.fx.fr' rfl rfl
  have o : ∀ q j, q ≠ 82 → ¬ (q = 80 ∧ j = 2) → (si (sa M 82 (fun t => if t < 2418 then M.2.1 82 (806 + t) else M.2.1 82 t)) 80 2 3).2.1 q j = M.2.1 q j := fun q j h1 h2 => by rw [si_g, if_neg h2, sa_g, if_neg h1]
  have o2 : ∀ j, (si (sa M 82 (fun t => if t < 2418 then M.2.1 82 (806 + t) else M.2.1 82 t)) 80 2 3).2.1 82 j = if j < 2418 then M.2.1 82 (806 + j) else M.2.1 82 j := fun j => by rw [si_g, if_neg (by omega), sa_g, if_pos rfl]
  have o3 : (si (sa M 82 (fun t => if t < 2418 then M.2.1 82 (806 + t) else M.2.1 82 t)) 80 2 3).2.1 80 2 = 3 := by rw [si_g, if_pos ⟨rfl, rfl⟩]
  refine ⟨?_, rfl, rfl, fun q j hq => o q j (by omega) (by omega)⟩
  generalize si (sa M 82 (fun t => if t < 2418 then M.2.1 82 (806 + t) else M.2.1 82 t)) 80 2 3 = M2 at hf o o2 o3 ⊢
  apply MI.mk
  case fx => exact hf
  case nw => exact h.nw.fr (fun j => o _ _ (by decide) (by omega))
  case cn => rw [o3]; rfl
  case hs =>
    intro i hi
    have hi2 : i < 3 := hi
    show RW M2 82 (806 * i) (A.hs (i + 1))
    refine RW_cp (h.hs (i + 1) (by omega)) (fun t ht => ?_)
    rw [o2, if_pos (by omega)]
    exact congrArg (M.2.1 82) (by omega)
  case fl => rw [o _ _ (by decide) (by omega)]; exact h.fl
  case sn => exact fun e => (h.sn e).fr (fun j => o _ _ (by decide) (by omega))
  case tl => rw [o _ _ (by decide) (by omega)]; exact h.tl
  case tc => exact fun i hi => by rw [o _ _ (by decide) (by omega)]; exact h.tc i hi
def recTail7 : ST := (sSeq (sCallS m_X7_copy (aR (rF 7 0 (rL 0)) (aI (iC 0) (aR (rF 7 1 (rL 0)) (aI (iMul (iC 806) (iF 7 2 (rL 0))) (aN)))))) (sPutAdd 7 2 (rL 0) (iC 1)))
theorem B_rec7 : B_X7_record = sSeq (sSeq (sIf1 (cEq (iF 7 2 (rL 0)) (iC 4)) (sSeq (sSeq (sLoc 1 (iC 0)) (sWhile (cLt (iL 1) (iC 2418)) (sSeq (sAst (rF 7 1 (rL 0)) (iL 1) (iA (rF 7 1 (rL 0)) (iAdd (iC 806) (iL 1)))) (sInc 1 1)))) (sPutSub 7 2 (rL 0) (iC 1)))) recTail7) sRetV := rfl
set_option maxRecDepth 20000 in
theorem e_recTail7 {W : En → Mm → Prop} {Rt : Int → Mm → Prop} {ρ : En} {M : Mm} {A : Ab} (h0 : ρ 0 = .inr (some 80)) (h : MI M A) (hc : A.c < 4) (hK : ∀ M2, MN M M2 (recA A) → W ρ M2) : recTail7 W Rt ρ M := by
  have hf := h.fx
  obtain ⟨m0, mA, mR⟩ := hf.md
  have r0 : inR (806 * (A.c : Int)) := inR_s (by omega) (by omega)
  have e0 : 806 * (A.c : Int) = ((806 * A.c : Nat) : Int) := by omega
  simp only [recTail7, h0, m0, mR, h.cn, r0, iC, iL, iF, iA, iAc, iLen, iT, iAdd, iSub, iMul, iDiv, iRem, iNeg, iCh, iAnd31, iQ, iMax, iMin, iAbs, iCallS, iCallV, aN, aI, aR, rL, rF, rA, cEq, cNe, cLt, cGe, cGt, cLe, cAnd, cOr, cNot, cNull, sSkip, sSeq, sLoc, sLocR, sInc, sPut, sPutR, sPutAdd, sPutSub, sAst, sCst, sRst, sAstAdd, sAstSub, sIf1, sIf, sRet, sRetV, sCallV, sCallS, sPop, sCopy, sCopyT, sObj, sSw, ent_0, ent_1, ent_2, ent_3, ent_4, ent_5, ent_6, va_up_self, va_up_ne, ne_eq, Nat.reduceEqDiff, not_false_eq_true, not_true_eq_false, si_1, si_2, si_g, sr_1, sr_2, cp_1, cp_2, List.length_cons, List.length_nil, Nat.reduceAdd, true_and, and_true, and_self, eq_self, true_implies, forall_const, Bool.false_eq_true, false_implies, or_true, true_or, Option.some.injEq, Prod.mk.injEq, exists_eq_left', exists_eq', exists_and_left, reduceIte, Int.reduceEq, Int.reduceNe]
  rw [e0]
  refine e_copy7 (o := 0) mA.1 mA.2.1 (by decide) (by decide) (by omega) (by decide) (by decide) ?_
  have n1 := hK _ (MI_push h hc)
  have e1 : (sa M 82 (fun t => if 806 * A.c ≤ t ∧ t < 806 * A.c + 806 then M.2.1 81 (0 + (t - 806 * A.c)) else M.2.1 82 t)).2.1 80 2 = A.c := by
    rw [sa_g, if_neg (by decide)]
    exact h.cn
  rw [e1]
  exact ⟨⟨0, m0⟩, ⟨0, m0⟩, inR_s (by omega) (by omega), n1⟩
set_option maxRecDepth 20000 in
theorem e_record7 {K : Int → Mm → Prop} {M : Mm} {A : Ab} (h : MI M A) (h4 : A.c ≤ 4) (hK : ∀ M2, MN M M2 (recA A) → K 0 M2) : m_X7_record [.inr (some 80)] K M := by
  have hf := h.fx
  obtain ⟨m0, mA, mR⟩ := hf.md
  simp only [m_X7_record, mk0, B_rec7, m0, h.cn, iC, iL, iF, iA, iAc, iLen, iT, iAdd, iSub, iMul, iDiv, iRem, iNeg, iCh, iAnd31, iQ, iMax, iMin, iAbs, iCallS, iCallV, aN, aI, aR, rL, rF, rA, cEq, cNe, cLt, cGe, cGt, cLe, cAnd, cOr, cNot, cNull, sSkip, sSeq, sLoc, sLocR, sInc, sPut, sPutR, sPutAdd, sPutSub, sAst, sCst, sRst, sAstAdd, sAstSub, sIf1, sIf, sRet, sRetV, sCallV, sCallS, sPop, sCopy, sCopyT, sObj, sSw, ent_0, ent_1, ent_2, ent_3, ent_4, ent_5, ent_6, va_up_self, va_up_ne, ne_eq, Nat.reduceEqDiff, not_false_eq_true, not_true_eq_false, si_1, si_2, si_g, sr_1, sr_2, cp_1, cp_2, List.length_cons, List.length_nil, Nat.reduceAdd, true_and, and_true, and_self, eq_self, true_implies, forall_const, Bool.false_eq_true, false_implies, or_true, true_or, Option.some.injEq, Prod.mk.injEq, exists_eq_left', exists_eq', exists_and_left, reduceIte, Int.reduceEq, Int.reduceNe]
  by_cases hc : A.c = 4
  · rw [if_pos (by omega)]
    obtain ⟨N, hN⟩ : ∃ N, N = 2418 := ⟨2418, rfl⟩
    have n1 := MI_drop h hc
    rw [← hN] at n1
    refine while_n (n := N) (fun r ρ M2 => ∃ j : Nat, j + r = N ∧ ρ 0 = .inr (some 80) ∧ ρ 1 = .inl (j : Int) ∧ M2 = sa M 82 (fun t => if t < j then M.2.1 82 (806 + t) else M.2.1 82 t)) ?_ ⟨0, by omega, rfl, by simp [va_up], (sa_self (fun b => if_neg (by omega))).symm⟩
    rintro r W hW ρ M2 ⟨j, hr, k0, k1, rfl⟩
    simp only [k0, k1, m0, mA, mR, sa_1, sa_2, sa_g, h.cn, iC, iL, iF, iA, iAc, iLen, iT, iAdd, iSub, iMul, iDiv, iRem, iNeg, iCh, iAnd31, iQ, iMax, iMin, iAbs, iCallS, iCallV, aN, aI, aR, rL, rF, rA, cEq, cNe, cLt, cGe, cGt, cLe, cAnd, cOr, cNot, cNull, sSkip, sSeq, sLoc, sLocR, sInc, sPut, sPutR, sPutAdd, sPutSub, sAst, sCst, sRst, sAstAdd, sAstSub, sIf1, sIf, sRet, sRetV, sCallV, sCallS, sPop, sCopy, sCopyT, sObj, sSw, ent_0, ent_1, ent_2, ent_3, ent_4, ent_5, ent_6, va_up_self, va_up_ne, ne_eq, Nat.reduceEqDiff, not_false_eq_true, not_true_eq_false, si_1, si_2, si_g, sr_1, sr_2, cp_1, cp_2, List.length_cons, List.length_nil, Nat.reduceAdd, true_and, and_true, and_self, eq_self, true_implies, forall_const, Bool.false_eq_true, false_implies, or_true, true_or, Option.some.injEq, Prod.mk.injEq, exists_eq_left', exists_eq', exists_and_left, reduceIte, Int.reduceEq, Int.reduceNe]
    by_cases hj : j < N
    · rw [if_pos (by omega)]
      have r1 : inR (806 + (j : Int)) := inR_s (by omega) (by omega)
      have r3 : inR ((j : Int) + 1) := inR_s (by omega) (by omega)
      refine ⟨r1, by omega, by omega, by omega, by omega, r3, hW _ _ (by omega) ⟨j + 1, by omega, by simp [va_up, k0], by simp [va_up], ?_⟩⟩
      rw [Int.toNat_natCast, si_sa]
      refine sa_cong (fun t => ?_)
      by_cases ht : t = j
      · rw [if_pos ht, if_neg (by omega), if_pos (by omega)]
        exact congrArg (M.2.1 82) (by omega)
      · rw [if_neg ht]
        by_cases ht2 : t < j
        · rw [if_pos ht2, if_pos (by omega)]
        · rw [if_neg ht2, if_neg (by omega)]
    · rw [if_neg (by omega)]
      obtain rfl : j = N := by omega
      have e3 : (A.c : Int) - 1 = 3 := by omega
      rw [e3]
      refine ⟨inR_s (by omega) (by omega), e_recTail7 k0 n1.1 (show 3 < 4 by decide) (fun M2 n2 => ?_)⟩
      rw [rec_drop hc] at n2
      have n3 := n1.tr n2
      exact ⟨n3.2.1, hK M2 n3⟩
  · rw [if_neg (by omega)]
    exact e_recTail7 rfl h (by omega) (fun M2 n2 => ⟨n2.2.1, hK M2 n2⟩)
