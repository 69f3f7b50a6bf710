section MOPS6
variable {K : Int → Mm → Prop} {M : Mm} {A : Ab} {n : Nat} {D : Nat → Nat → Int} {st sg : Nat → Int}
theorem MN_vw {M : Mm} {A : Ab} {S : Sg} {y : Int} {f k : Nat} (h : MI M A) (hS : A.now = (S.n, S.D, S.st, vwL S.D y S.sg f k)) (hV : VD S.n S.D) (hk : f + k < S.n) : MN M (sa M 81 (fun j => if 206 + (S.D (f + k) 0).toNat ≤ j ∧ j < 206 + (S.D (f + k) 0).toNat + (S.D (f + k) 1).toNat then clp (wn S.D (f + k) ((j : Int) - 206 - S.D (f + k) 0) + y) + 1 else M.2.1 81 j)) (setN A (S.n, S.D, S.st, vwL S.D y S.sg f (k + 1))) := by
  have hr := h.nw
  rw [hS] at hr
  have hd := hV.2.1 (f + k) hk
  have := MN_sung (G := fun j => if 206 + (S.D (f + k) 0).toNat ≤ j ∧ j < 206 + (S.D (f + k) 0).toNat + (S.D (f + k) 1).toNat then clp (wn S.D (f + k) ((j : Int) - 206 - S.D (f + k) 0) + y) + 1 else M.2.1 81 j) (g2 := vwL S.D y S.sg f (k + 1)) h hS (fun j hj => if_neg (by omega)) (fun t ht => by
    show (if 206 + (S.D (f + k) 0).toNat ≤ 206 + t ∧ 206 + t < 206 + (S.D (f + k) 0).toNat + (S.D (f + k) 1).toNat then clp (wn S.D (f + k) (((206 + t : Nat) : Int) - 206 - S.D (f + k) 0) + y) + 1 else M.2.1 81 (206 + t)) = (if S.D (f + k) 0 ≤ (t : Int) ∧ (t : Int) < S.D (f + k) 0 + (S.D (f + k) 1).toNat then clp (wn S.D (f + k) ((t : Int) - S.D (f + k) 0) + y) else vwL S.D y S.sg f k t) + 1
    have e : ((206 + t : Nat) : Int) - 206 - S.D (f + k) 0 = (t : Int) - S.D (f + k) 0 := by omega
    rw [e]
    by_cases c : S.D (f + k) 0 ≤ (t : Int) ∧ (t : Int) < S.D (f + k) 0 + (S.D (f + k) 1).toNat
    · rw [if_pos c, if_pos (by omega)]
    · rw [if_neg c, if_neg (by omega)]
      have := hr.2.2.2.2 t ht
      rw [Nat.zero_add] at this
      exact this)
  exact this
set_option maxRecDepth 20000 in
theorem d_singAlong {f l y : Int} (h : MI M A) (hV : A.V) (hK : ∀ M2, MN M M2 (salR A f l y).2 → K (salR A f l y).1 M2) : m_X7_singAlong [.inr (some 80), .inl f, .inl l, .inl y] K M := by
  obtain ⟨m0, mA, mR⟩ := h.fx.md
  obtain ⟨hm, hG⟩ := h.r
  have hn := hV.nw.1.1
  unfold salR at hK
  simp only [m0, e_isSyllable hm, e_in, m_X7_singAlong, mk0, B_sal7, iC, iL, iF, iA, iAc, iLen, iT, iAdd, iSub, iMul, iDiv, iRem, iNeg, iCh, iAnd31, iQ, iMax, iMin, iAbs, iCallS, iCallV, aN, aI, aR, rL, rF, rA, cEq, cNe, cLt, cGe, cGt, cLe, cAnd, cOr, cNot, cNull, sSkip, sSeq, sLoc, sLocR, sInc, sPut, sPutR, sPutAdd, sPutSub, sAst, sCst, sRst, sAstAdd, sAstSub, sIf1, sIf, sRet, sRetV, sCallV, sCallS, sPop, sCopy, sCopyT, sObj, sSw, ent_0, ent_1, ent_2, ent_3, ent_4, ent_5, ent_6, va_up_self, va_up_ne, ne_eq, Nat.reduceEqDiff, not_false_eq_true, not_true_eq_false, si_1, si_2, si_g, sr_1, sr_2, cp_1, cp_2, List.length_cons, List.length_nil, Nat.reduceAdd, true_and, and_true, and_self, eq_self, true_implies, forall_const, Bool.false_eq_true, false_implies, or_true, true_or, Option.some.injEq, Prod.mk.injEq, exists_eq_left', exists_eq', exists_and_left, reduceIte, Int.reduceEq, Int.reduceNe]
  by_cases c1 : 0 ≤ f ∧ f < A.now.n
  · by_cases c2 : 0 ≤ l ∧ l < A.now.n
    · by_cases c3 : f ≤ l
      · by_cases c4 : -60 ≤ y ∧ y ≤ 60
        · have c3' : ¬ l < f := by omega
          simp only [c1, c2, c3, c3', c4, m0, and_self, true_and, if_true, if_false, ent_0, ent_1, ent_2, ent_3, ent_4, ent_5, ent_6, va_up_self, va_up_ne, ne_eq, Nat.reduceEqDiff, not_false_eq_true, not_true_eq_false, si_1, si_2, si_g, sr_1, sr_2, cp_1, cp_2, List.length_cons, List.length_nil, Nat.reduceAdd, true_and, and_true, and_self, eq_self, true_implies, forall_const, Bool.false_eq_true, false_implies, or_true, true_or, Option.some.injEq, Prod.mk.injEq, exists_eq_left', exists_eq', exists_and_left, reduceIte, Int.reduceEq, Int.reduceNe] at hK ⊢
          refine e_record7 h hV.c4 (fun M2 n2 => ?_)
          refine while_n (n := (l - f + 1).toNat) (fun r ρ M3 => ∃ k : Nat, k + r = (l - f + 1).toNat ∧ ρ 0 = .inr (some 80) ∧ ρ 2 = .inl l ∧ ρ 3 = .inl y ∧ ρ 4 = .inl (f + k) ∧ MN M M3 (setN (recA A) (A.now.n, A.now.D, A.now.st, vwL A.now.D y A.now.sg f.toNat k))) ?_ ⟨0, by omega, by simp [va_up, ent_0], by simp [va_up, ent_2], by simp [va_up, ent_3], by simp [va_up], n2⟩
          rintro r W hW ρ M3 ⟨k, hr, h0, h2, h3, h4, n3⟩
          obtain ⟨k0, kA, kR⟩ := n3.1.fx.md
          simp only [h0, h2, h3, h4, k0, iC, iL, iF, iA, iAc, iLen, iT, iAdd, iSub, iMul, iDiv, iRem, iNeg, iCh, iAnd31, iQ, iMax, iMin, iAbs, iCallS, iCallV, aN, aI, aR, rL, rF, rA, cEq, cNe, cLt, cGe, cGt, cLe, cAnd, cOr, cNot, cNull, sSkip, sSeq, sLoc, sLocR, sInc, sPut, sPutR, sPutAdd, sPutSub, sAst, sCst, sRst, sAstAdd, sAstSub, sIf1, sIf, sRet, sRetV, sCallV, sCallS, sPop, sCopy, sCopyT, sObj, sSw, ent_0, ent_1, ent_2, ent_3, ent_4, ent_5, ent_6, va_up_self, va_up_ne, ne_eq, Nat.reduceEqDiff, not_false_eq_true, not_true_eq_false, si_1, si_2, si_g, sr_1, sr_2, cp_1, cp_2, List.length_cons, List.length_nil, Nat.reduceAdd, true_and, and_true, and_self, eq_self, true_implies, forall_const, Bool.false_eq_true, false_implies, or_true, true_or, Option.some.injEq, Prod.mk.injEq, exists_eq_left', exists_eq', exists_and_left, reduceIte, Int.reduceEq, Int.reduceNe]
          by_cases hk : f + k ≤ l
          · rw [if_pos hk]
            obtain ⟨hm3, hG3⟩ : MR M3 A.now.n A.now.D A.now.st ∧ MG M3 (vwL A.now.D y A.now.sg f.toNat k) := n3.1.r
            have e4 : ρ 4 = .inl ((f.toNat + k : Nat) : Int) := by rw [h4]; congr 1; omega
            refine e_salIn (i := f.toNat + k) hm3 hV.nw.1 (by omega) c4 h0 h3 e4 (fun ρ2 hρ => ?_)
            have g4 := (hρ 4 (by omega)).trans h4
            have r4 : inR (f + (k : Int) + 1) := inR_s (by omega) (by omega)
            simp only [g4, r4, ent_0, ent_1, ent_2, ent_3, ent_4, ent_5, ent_6, va_up_self, va_up_ne, ne_eq, Nat.reduceEqDiff, not_false_eq_true, not_true_eq_false, si_1, si_2, si_g, sr_1, sr_2, cp_1, cp_2, List.length_cons, List.length_nil, Nat.reduceAdd, true_and, and_true, and_self, eq_self, true_implies, forall_const, Bool.false_eq_true, false_implies, or_true, true_or, Option.some.injEq, Prod.mk.injEq, exists_eq_left', exists_eq', exists_and_left, reduceIte, Int.reduceEq, Int.reduceNe]
            refine hW _ _ (by omega) ⟨k + 1, by omega, by simp [va_up, hρ 0 (by omega), h0], by simp [va_up, hρ 2 (by omega), h2], by simp [va_up, hρ 3 (by omega), h3], by simp [va_up]; omega, ?_⟩
            exact n3.tr (MN_vw (A := setN (recA A) (A.now.n, A.now.D, A.now.st, vwL A.now.D y A.now.sg f.toNat k)) (S := A.now) n3.1 rfl hV.nw.1 (by omega))
          · rw [if_neg hk]
            have ek : k = (l - f + 1).toNat := by omega
            rw [ek] at n3
            simp only [salTl, h0, k0, iC, iL, iF, iA, iAc, iLen, iT, iAdd, iSub, iMul, iDiv, iRem, iNeg, iCh, iAnd31, iQ, iMax, iMin, iAbs, iCallS, iCallV, aN, aI, aR, rL, rF, rA, cEq, cNe, cLt, cGe, cGt, cLe, cAnd, cOr, cNot, cNull, sSkip, sSeq, sLoc, sLocR, sInc, sPut, sPutR, sPutAdd, sPutSub, sAst, sCst, sRst, sAstAdd, sAstSub, sIf1, sIf, sRet, sRetV, sCallV, sCallS, sPop, sCopy, sCopyT, sObj, sSw, ent_0, ent_1, ent_2, ent_3, ent_4, ent_5, ent_6, va_up_self, va_up_ne, ne_eq, Nat.reduceEqDiff, not_false_eq_true, not_true_eq_false, si_1, si_2, si_g, sr_1, sr_2, cp_1, cp_2, List.length_cons, List.length_nil, Nat.reduceAdd, true_and, and_true, and_self, eq_self, true_implies, forall_const, Bool.false_eq_true, false_implies, or_true, true_or, Option.some.injEq, Prod.mk.injEq, exists_eq_left', exists_eq', exists_and_left, reduceIte, Int.reduceEq, Int.reduceNe]
            exact e_hitsM n3.1 (vwS_V hV.nw f l y) (fun M5 n5 => ⟨(n3.tr n5).2.1, hK M5 (n3.tr n5)⟩)
        · simp only [c1, c2, c3, c4, and_self, and_false, if_true, if_false, ent_0, ent_1, ent_2, ent_3, ent_4, ent_5, ent_6, va_up_self, va_up_ne, ne_eq, Nat.reduceEqDiff, not_false_eq_true, not_true_eq_false, si_1, si_2, si_g, sr_1, sr_2, cp_1, cp_2, List.length_cons, List.length_nil, Nat.reduceAdd, true_and, and_true, and_self, eq_self, true_implies, forall_const, Bool.false_eq_true, false_implies, or_true, true_or, Option.some.injEq, Prod.mk.injEq, exists_eq_left', exists_eq', exists_and_left, reduceIte, Int.reduceEq, Int.reduceNe] at hK ⊢
          split <;> exact hK M h.rf
      · have c3' : l < f := by omega
        simp only [c1, c2, c3, c3', and_self, false_and, if_true, if_false, ent_0, ent_1, ent_2, ent_3, ent_4, ent_5, ent_6, va_up_self, va_up_ne, ne_eq, Nat.reduceEqDiff, not_false_eq_true, not_true_eq_false, si_1, si_2, si_g, sr_1, sr_2, cp_1, cp_2, List.length_cons, List.length_nil, Nat.reduceAdd, true_and, and_true, and_self, eq_self, true_implies, forall_const, Bool.false_eq_true, false_implies, or_true, true_or, Option.some.injEq, Prod.mk.injEq, exists_eq_left', exists_eq', exists_and_left, reduceIte, Int.reduceEq, Int.reduceNe] at hK ⊢
        exact hK M h.rf
    · simp only [c1, c2, and_self, and_false, if_true, if_false, ent_0, ent_1, ent_2, ent_3, ent_4, ent_5, ent_6, va_up_self, va_up_ne, ne_eq, Nat.reduceEqDiff, not_false_eq_true, not_true_eq_false, si_1, si_2, si_g, sr_1, sr_2, cp_1, cp_2, List.length_cons, List.length_nil, Nat.reduceAdd, true_and, and_true, and_self, eq_self, true_implies, forall_const, Bool.false_eq_true, false_implies, or_true, true_or, Option.some.injEq, Prod.mk.injEq, exists_eq_left', exists_eq', exists_and_left, reduceIte, Int.reduceEq, Int.reduceNe] at hK ⊢
      exact hK M h.rf
  · simp only [c1, false_and, if_true, if_false, ent_0, ent_1, ent_2, ent_3, ent_4, ent_5, ent_6, va_up_self, va_up_ne, ne_eq, Nat.reduceEqDiff, not_false_eq_true, not_true_eq_false, si_1, si_2, si_g, sr_1, sr_2, cp_1, cp_2, List.length_cons, List.length_nil, Nat.reduceAdd, true_and, and_true, and_self, eq_self, true_implies, forall_const, Bool.false_eq_true, false_implies, or_true, true_or, Option.some.injEq, Prod.mk.injEq, exists_eq_left', exists_eq', exists_and_left, reduceIte, Int.reduceEq, Int.reduceNe] at hK ⊢
    exact hK M h.rf
set_option maxRecDepth 20000 in
theorem d_type {ch : Int} (h : MI M A) (hV : A.V) (hch : 0 ≤ ch ∧ ch < 65536) (hK : ∀ M2, MN M M2 (typR A ch).2 → K (typR A ch).1 M2) : m_X7_type [.inr (some 80), .inl ch] K M := by
  obtain ⟨m0, mA, mR⟩ := h.fx.md
  have htl := hV.tl
  unfold typR at hK
  simp only [m0, mR, h.tl, m_X7_type, mk0, B_X7_type, iC, iL, iF, iA, iAc, iLen, iT, iAdd, iSub, iMul, iDiv, iRem, iNeg, iCh, iAnd31, iQ, iMax, iMin, iAbs, iCallS, iCallV, aN, aI, aR, rL, rF, rA, cEq, cNe, cLt, cGe, cGt, cLe, cAnd, cOr, cNot, cNull, sSkip, sSeq, sLoc, sLocR, sInc, sPut, sPutR, sPutAdd, sPutSub, sAst, sCst, sRst, sAstAdd, sAstSub, sIf1, sIf, sRet, sRetV, sCallV, sCallS, sPop, sCopy, sCopyT, sObj, sSw, ent_0, ent_1, ent_2, ent_3, ent_4, ent_5, ent_6, va_up_self, va_up_ne, ne_eq, Nat.reduceEqDiff, not_false_eq_true, not_true_eq_false, si_1, si_2, si_g, sr_1, sr_2, cp_1, cp_2, List.length_cons, List.length_nil, Nat.reduceAdd, true_and, and_true, and_self, eq_self, true_implies, forall_const, Bool.false_eq_true, false_implies, or_true, true_or, Option.some.injEq, Prod.mk.injEq, exists_eq_left', exists_eq', exists_and_left, reduceIte, Int.reduceEq, Int.reduceNe]
  by_cases c : A.tl = 60
  · simp only [c, if_true] at hK
    rw [if_pos (by omega)]
    exact hK M h.rf
  · simp only [c, if_false] at hK
    rw [if_neg (by omega)]
    have c0 : (0 : Int) ≤ A.tl := by omega
    have c1 : (A.tl : Int) < (60 : Nat) := by omega
    have r1 : inR ((A.tl : Int) + 1) := inR_s (by omega) (by omega)
    simp only [m0, mA, mR, h.tl, c0, c1, hch.1, hch.2, r1, Int.toNat_natCast, false_and, and_false, if_false, ent_0, ent_1, ent_2, ent_3, ent_4, ent_5, ent_6, va_up_self, va_up_ne, ne_eq, Nat.reduceEqDiff, not_false_eq_true, not_true_eq_false, si_1, si_2, si_g, sr_1, sr_2, cp_1, cp_2, List.length_cons, List.length_nil, Nat.reduceAdd, true_and, and_true, and_self, eq_self, true_implies, forall_const, Bool.false_eq_true, false_implies, or_true, true_or, Option.some.injEq, Prod.mk.injEq, exists_eq_left', exists_eq', exists_and_left, reduceIte, Int.reduceEq, Int.reduceNe]
    refine hK _ ⟨?_, rfl, rfl, fun q j hq => ?_⟩
    · have hf : Fx (si (si M 84 A.tl ch) 80 6 ((A.tl : Int) + 1)) := h.fx.fr' rfl rfl
      have o : ∀ q j, q ≠ 84 → ¬ (q = 80 ∧ j = 6) → (si (si M 84 A.tl ch) 80 6 ((A.tl : Int) + 1)).2.1 q j = M.2.1 q j := fun q j h1 h2 => by rw [si_g, if_neg h2, si_g, if_neg (by omega)]
      apply MI.mk
      case fx => exact hf
      case nw => exact h.nw.fr (fun j => o _ _ (by decide) (by omega))
      case cn => rw [o _ _ (by decide) (by omega)]; exact h.cn
      case hs => exact fun i hi => (h.hs i hi).fr (fun j => o _ _ (by decide) (by omega))
      case fl => rw [o _ _ (by decide) (by omega)]; exact h.fl
      case sn => exact fun e => (h.sn e).fr (fun j => o _ _ (by decide) (by omega))
      case tl => rw [si_g, if_pos ⟨rfl, rfl⟩]; rfl
      case tc =>
        intro i hi
        have hi2 : i < A.tl + 1 := hi
        show _ = if i = A.tl then ch else A.tc i
        rw [si_g, if_neg (by omega), si_g]
        by_cases e : i = A.tl
        · rw [if_pos ⟨rfl, e⟩, if_pos e]
        · rw [if_neg (by omega), if_neg e]
          exact h.tc i (by omega)
    · rw [si_g, if_neg (by omega), si_g, if_neg (by omega)]
set_option maxRecDepth 20000 in
theorem d_clearText (h : MI M A) (hK : ∀ M2, MN M M2 (clrR A).2 → K (clrR A).1 M2) : m_X7_clearText [.inr (some 80)] K M := by
  obtain ⟨m0, mA, mR⟩ := h.fx.md
  unfold clrR at hK
  simp only [m0, mR, h.tl, m_X7_clearText, mk0, B_X7_clearText, iC, iL, iF, iA, iAc, iLen, iT, iAdd, iSub, iMul, iDiv, iRem, iNeg, iCh, iAnd31, iQ, iMax, iMin, iAbs, iCallS, iCallV, aN, aI, aR, rL, rF, rA, cEq, cNe, cLt, cGe, cGt, cLe, cAnd, cOr, cNot, cNull, sSkip, sSeq, sLoc, sLocR, sInc, sPut, sPutR, sPutAdd, sPutSub, sAst, sCst, sRst, sAstAdd, sAstSub, sIf1, sIf, sRet, sRetV, sCallV, sCallS, sPop, sCopy, sCopyT, sObj, sSw, ent_0, ent_1, ent_2, ent_3, ent_4, ent_5, ent_6, va_up_self, va_up_ne, ne_eq, Nat.reduceEqDiff, not_false_eq_true, not_true_eq_false, si_1, si_2, si_g, sr_1, sr_2, cp_1, cp_2, List.length_cons, List.length_nil, Nat.reduceAdd, true_and, and_true, and_self, eq_self, true_implies, forall_const, Bool.false_eq_true, false_implies, or_true, true_or, Option.some.injEq, Prod.mk.injEq, exists_eq_left', exists_eq', exists_and_left, reduceIte, Int.reduceEq, Int.reduceNe]
  refine hK _ ⟨?_, rfl, rfl, fun q j hq => ?_⟩
  · have hf : Fx (si M 80 6 0) := h.fx.fr' rfl rfl
    have o : ∀ q j, ¬ (q = 80 ∧ j = 6) → (si M 80 6 0).2.1 q j = M.2.1 q j := fun q j h2 => by rw [si_g, if_neg h2]
    apply MI.mk
    case fx => exact hf
    case nw => exact h.nw.fr (fun j => o _ _ (by omega))
    case cn => rw [o _ _ (by omega)]; exact h.cn
    case hs => exact fun i hi => (h.hs i hi).fr (fun j => o _ _ (by omega))
    case fl => rw [o _ _ (by omega)]; exact h.fl
    case sn => exact fun e => (h.sn e).fr (fun j => o _ _ (by omega))
    case tl => rw [si_g, if_pos ⟨rfl, rfl⟩]; rfl
    case tc => exact fun i hi => absurd hi (Nat.not_lt_zero i)
  · rw [si_g, if_neg (by omega)]
theorem MN_row {M : Mm} {A : Ab} {S : Sg} {G : Nat → Int} (h : MI M A) (hr : RW (sa M 81 G) 81 0 S) : MN M (sa M 81 G) (setN A S) :=
  ⟨MI_setN h (h.fx.fr' rfl rfl) (fun q j h1 h2 h3 => by rw [sa_g, if_neg (by omega)]) hr, rfl, rfl, fun q j hq => by rw [sa_g, if_neg (by omega)]⟩
set_option maxRecDepth 20000 in
theorem d_keep (h : MI M A) (hK : ∀ M2, MN M M2 (keeR A).2 → K (keeR A).1 M2) : m_X7_keep [.inr (some 80)] K M := by
  obtain ⟨m0, mA, mR⟩ := h.fx.md
  unfold keeR at hK
  have e5 : Int.toNat 5 = 5 := rfl
  have d5 : (0 : Int) ≤ 5 ∧ (5 : Int) < (806 : Nat) := by decide
  simp only [m0, mR, m_X7_keep, mk0, B_X7_keep, iC, iL, iF, iA, iAc, iLen, iT, iAdd, iSub, iMul, iDiv, iRem, iNeg, iCh, iAnd31, iQ, iMax, iMin, iAbs, iCallS, iCallV, aN, aI, aR, rL, rF, rA, cEq, cNe, cLt, cGe, cGt, cLe, cAnd, cOr, cNot, cNull, sSkip, sSeq, sLoc, sLocR, sInc, sPut, sPutR, sPutAdd, sPutSub, sAst, sCst, sRst, sAstAdd, sAstSub, sIf1, sIf, sRet, sRetV, sCallV, sCallS, sPop, sCopy, sCopyT, sObj, sSw, ent_0, ent_1, ent_2, ent_3, ent_4, ent_5, ent_6, va_up_self, va_up_ne, ne_eq, Nat.reduceEqDiff, not_false_eq_true, not_true_eq_false, si_1, si_2, si_g, sr_1, sr_2, cp_1, cp_2, List.length_cons, List.length_nil, Nat.reduceAdd, true_and, and_true, and_self, eq_self, true_implies, forall_const, Bool.false_eq_true, false_implies, or_true, true_or, Option.some.injEq, Prod.mk.injEq, exists_eq_left', exists_eq', exists_and_left, reduceIte, Int.reduceEq, Int.reduceNe]
  refine e_copy7 (o := 0) (o2 := 0) mA.1 mA.2.2.1 (by decide) (by decide) (by decide) (by decide) (by decide) ?_
  have hr : RW (sa M 83 (fun t => if 0 ≤ t ∧ t < 0 + 806 then M.2.1 81 (0 + (t - 0)) else M.2.1 83 t)) 83 0 A.now := RW_cp h.nw (fun t ht => by
    rw [sa_g, if_pos rfl, if_pos (by omega)]
    exact congrArg (M.2.1 81) (by omega))
  have o : ∀ q j, q ≠ 83 → (sa M 83 (fun t => if 0 ≤ t ∧ t < 0 + 806 then M.2.1 81 (0 + (t - 0)) else M.2.1 83 t)).2.1 q j = M.2.1 q j := fun q j hq => by rw [sa_g, if_neg hq]
  have hf : Fx (sa M 83 (fun t => if 0 ≤ t ∧ t < 0 + 806 then M.2.1 81 (0 + (t - 0)) else M.2.1 83 t)) := h.fx.fr' rfl rfl
  have q1 : (sa M 83 (fun t => if 0 ≤ t ∧ t < 0 + 806 then M.2.1 81 (0 + (t - 0)) else M.2.1 83 t)).1 = M.1 := rfl
  have q2 : (sa M 83 (fun t => if 0 ≤ t ∧ t < 0 + 806 then M.2.1 81 (0 + (t - 0)) else M.2.1 83 t)).2.2 = M.2.2 := rfl
  generalize sa M 83 (fun t => if 0 ≤ t ∧ t < 0 + 806 then M.2.1 81 (0 + (t - 0)) else M.2.1 83 t) = M1 at hr o hf q1 q2 ⊢
  have en : M1.2.1 81 5 = A.now.n := by rw [o _ _ (by decide)]; exact h.nw.2.1
  obtain ⟨k0, kA, kR⟩ := hf.md
  simp only [k0, kA, kR, e5, d5.1, d5.2, en, false_and, if_false, ent_0, ent_1, ent_2, ent_3, ent_4, ent_5, ent_6, va_up_self, va_up_ne, ne_eq, Nat.reduceEqDiff, not_false_eq_true, not_true_eq_false, si_1, si_2, si_g, sr_1, sr_2, cp_1, cp_2, List.length_cons, List.length_nil, Nat.reduceAdd, true_and, and_true, and_self, eq_self, true_implies, forall_const, Bool.false_eq_true, false_implies, or_true, true_or, Option.some.injEq, Prod.mk.injEq, exists_eq_left', exists_eq', exists_and_left, reduceIte, Int.reduceEq, Int.reduceNe]
  refine ⟨q1, hK _ ⟨?_, q1, q2, fun q j hq => ?_⟩⟩
  · have o2 : ∀ q j, q ≠ 83 → ¬ (q = 80 ∧ j = 4) → (si M1 80 4 1).2.1 q j = M.2.1 q j := fun q j h1 h2 => by rw [si_g, if_neg h2, o q j h1]
    apply MI.mk
    case fx => exact hf.fr' rfl rfl
    case nw => exact h.nw.fr (fun j => o2 _ _ (by decide) (by omega))
    case cn => rw [o2 _ _ (by decide) (by omega)]; exact h.cn
    case hs => exact fun i hi => (h.hs i hi).fr (fun j => o2 _ _ (by decide) (by omega))
    case fl => rw [si_g, if_pos ⟨rfl, rfl⟩]; rfl
    case sn => exact fun e => hr.fr (fun j => by rw [si_g, if_neg (by omega)])
    case tl => rw [o2 _ _ (by decide) (by omega)]; exact h.tl
    case tc => exact fun i hi => by rw [o2 _ _ (by decide) (by omega)]; exact h.tc i hi
  · rw [si_g, if_neg (by omega), o q j (by omega)]
end MOPS6
