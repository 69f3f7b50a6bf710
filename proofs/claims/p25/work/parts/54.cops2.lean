def sndT (sg : Nat → Int) : Int := sm (fun t => if sg t = -1 then 0 else 1) 600
theorem sndT_b (sg : Nat → Int) : 0 ≤ sndT sg ∧ sndT sg ≤ 600 := sm_01 (f := fun t => if sg t = -1 then 0 else 1) (n := 600) (fun i _ => by split <;> omega)
def silR (A : Ab) (t c : Int) : Int × Ab := if (0 ≤ t ∧ t ≤ 599) ∧ (1 ≤ c ∧ c ≤ 600) ∧ t + c ≤ 600 then (sndT A.now.sg - sndT (vcS A.now t c (-1)).sg, setN (recA A) (vcS A.now t c (-1))) else (-2, A)
def vwL (D : Nat → Nat → Int) (y : Int) (g : Nat → Int) (f : Nat) : Nat → Nat → Int
  | 0 => g
  | k + 1 => vwF D (f + k) y (vwL D y g f k) (D (f + k) 1).toNat
def vwS (S : Sg) (f l y : Int) : Sg := (S.n, S.D, S.st, vwL S.D y S.sg f.toNat (l - f + 1).toNat)
theorem vwL_V {D : Nat → Nat → Int} {y : Int} {g : Nat → Int} {f : Nat} (h : VG g) : ∀ k, VG (vwL D y g f k)
  | 0 => h
  | k + 1 => fun t ht => by
    have h1 := vwL_V (D := D) (y := y) (f := f) h k t ht
    show -1 ≤ (if D (f + k) 0 ≤ (t : Int) ∧ (t : Int) < D (f + k) 0 + (D (f + k) 1).toNat then clp (wn D (f + k) ((t : Int) - D (f + k) 0) + y) else vwL D y g f k t) ∧ (if D (f + k) 0 ≤ (t : Int) ∧ (t : Int) < D (f + k) 0 + (D (f + k) 1).toNat then clp (wn D (f + k) ((t : Int) - D (f + k) 0) + y) else vwL D y g f k t) ≤ 60
    have h2 := clp_b (wn D (f + k) ((t : Int) - D (f + k) 0) + y)
    split <;> assumption
theorem vwS_V {S : Sg} (h : S.V) (f l y : Int) : (vwS S f l y).V := ⟨h.1, h.2.1, vwL_V h.2.2 _⟩
def salR (A : Ab) (f l y : Int) : Int × Ab := if (0 ≤ f ∧ f < A.now.n) ∧ (0 ≤ l ∧ l < A.now.n) then (if f ≤ l ∧ (-60 ≤ y ∧ y ≤ 60) then (hitsA (vwS A.now f l y), setN (recA A) (vwS A.now f l y)) else (-2, A)) else (-1, A)
section COPS2
variable {K : Int → Mm → Prop} {M : Mm} {A : Ab}
set_option maxRecDepth 20000 in
theorem c_silence {t c : Int} (h : CI M A) (hV : A.now.V) (hK : ∀ M2, CN M M2 (silR A t c).2 → K (silR A t c).1 M2) : m_X6_silence [.inr (some 0), .inl t, .inl c] K M := by
  have hf := h.fx
  unfold silR at hK
  simp only [hf.x0, hf.r0, hf.r1, hf.r2, hf.r4, hf.r5, hf.r6, hf.r7, hf.s1.1, hf.s1.2.1, hf.s1.2.2.2.2.2.2.1, hf.s10.1, hf.s10.2.1, hf.s10.2.2.2.2.2.2.1, hf.s19.1, hf.x28, hf.x66, hf.r66, hf.x67, hf.x68, hf.jd.1, e_areTicks (Int.le_refl 600), m_X6_silence, mk0, B_X6_silence, iC, iL, iF, iA, iAc, iLen, iT, iAdd, iSub, iMul, iDiv, iRem, iNeg, iCh, iAnd31, iQ, iMax, iMin, iAbs, iCallS, iCallV, aN, aI, aR, rL, rF, rA, cEq, cNe, cLt, cGe, cGt, cLe, cAnd, cOr, cNot, cNull, sSkip, sSeq, sLoc, sLocR, sInc, sPut, sPutR, sPutAdd, sPutSub, sAst, sCst, sRst, sAstAdd, sAstSub, sIf1, sIf, sRet, sRetV, sCallV, sCallS, sPop, sCopy, sCopyT, sObj, sSw, iAddW, iMulW, iAndM, iShr, cQ, ent_0, ent_1, ent_2, ent_3, ent_4, ent_5, ent_6, va_up_self, va_up_ne, ne_eq, Nat.reduceEqDiff, not_false_eq_true, not_true_eq_false, si_1, si_2, si_g, sr_1, sr_2, cp_1, cp_2, List.length_cons, List.length_nil, Nat.reduceAdd, true_and, and_true, and_self, eq_self, true_implies, forall_const, Bool.false_eq_true, false_implies, or_true, true_or, Option.some.injEq, Prod.mk.injEq, exists_eq_left', exists_eq', exists_and_left, reduceIte, Int.reduceEq, Int.reduceNe]
  by_cases c1 : (0 ≤ t ∧ t ≤ 599) ∧ (1 ≤ c ∧ c ≤ 600) ∧ t + c ≤ 600
  · simp only [c1, and_self, true_and, if_true, if_false, hf.x0, hf.r0, hf.r1, hf.r2, hf.r4, hf.r5, hf.r6, hf.r7, hf.s1.1, hf.s1.2.1, hf.s1.2.2.2.2.2.2.1, hf.s10.1, hf.s10.2.1, hf.s10.2.2.2.2.2.2.1, hf.s19.1, hf.x28, hf.x66, hf.r66, hf.x67, hf.x68, hf.jd.1, ent_0, ent_1, ent_2, ent_3, ent_4, ent_5, ent_6, va_up_self, va_up_ne, ne_eq, Nat.reduceEqDiff, not_false_eq_true, not_true_eq_false, si_1, si_2, si_g, sr_1, sr_2, cp_1, cp_2, List.length_cons, List.length_nil, Nat.reduceAdd, true_and, and_true, and_self, eq_self, true_implies, forall_const, Bool.false_eq_true, false_implies, or_true, true_or, Option.some.injEq, Prod.mk.injEq, exists_eq_left', exists_eq', exists_and_left, reduceIte, Int.reduceEq, Int.reduceNe] at hK ⊢
    refine e_record h (fun M2 h2 q2 u2 => ?_)
    have hf2 := h2.fx
    simp only [hf2.x0, hf2.r0, hf2.r1, hf2.r2, hf2.r4, hf2.r5, hf2.r6, hf2.r7, hf2.s1.1, hf2.s1.2.1, hf2.s1.2.2.2.2.2.2.1, hf2.s10.1, hf2.s10.2.1, hf2.s10.2.2.2.2.2.2.1, hf2.s19.1, hf2.x28, hf2.x66, hf2.r66, hf2.x67, hf2.x68, hf2.jd.1, ent_0, ent_1, ent_2, ent_3, ent_4, ent_5, ent_6, va_up_self, va_up_ne, ne_eq, Nat.reduceEqDiff, not_false_eq_true, not_true_eq_false, si_1, si_2, si_g, sr_1, sr_2, cp_1, cp_2, List.length_cons, List.length_nil, Nat.reduceAdd, true_and, and_true, and_self, eq_self, true_implies, forall_const, Bool.false_eq_true, false_implies, or_true, true_or, Option.some.injEq, Prod.mk.injEq, exists_eq_left', exists_eq', exists_and_left, reduceIte, Int.reduceEq, Int.reduceNe]
    refine e_soundingTicks h2.nw ?_
    simp only [hf2.x0, hf2.r0, hf2.r1, hf2.r2, hf2.r4, hf2.r5, hf2.r6, hf2.r7, hf2.s1.1, hf2.s1.2.1, hf2.s1.2.2.2.2.2.2.1, hf2.s10.1, hf2.s10.2.1, hf2.s10.2.2.2.2.2.2.1, hf2.s19.1, hf2.x28, hf2.x66, hf2.r66, hf2.x67, hf2.x68, hf2.jd.1, ent_0, ent_1, ent_2, ent_3, ent_4, ent_5, ent_6, va_up_self, va_up_ne, ne_eq, Nat.reduceEqDiff, not_false_eq_true, not_true_eq_false, si_1, si_2, si_g, sr_1, sr_2, cp_1, cp_2, List.length_cons, List.length_nil, Nat.reduceAdd, true_and, and_true, and_self, eq_self, true_implies, forall_const, Bool.false_eq_true, false_implies, or_true, true_or, Option.some.injEq, Prod.mk.injEq, exists_eq_left', exists_eq', exists_and_left, reduceIte, Int.reduceEq, Int.reduceNe]
    refine e_voice hf2.s1 c1.1.1 (by omega) c1.2.2 ?_
    have n3 := h2.sung (g := fun u => if t ≤ (u : Int) ∧ (u : Int) < t + c then clp (-1) else M2.2.1 (1 + 8) u) (g2 := (vcS A.now t c (-1)).sg) (fun u hu => by
      show (if _ then clp (-1) else _) = if _ then clp (-1) else A.now.sg u
      rw [h2.nw.2.2.2 u hu]
      rfl)
    generalize sa M2 (1 + 8) (fun u => if t ≤ (u : Int) ∧ (u : Int) < t + c then clp (-1) else M2.2.1 (1 + 8) u) = M3 at n3 ⊢
    have hf3 := n3.1.fx
    simp only [hf3.x0, hf3.r0, hf3.r1, hf3.r2, hf3.r4, hf3.r5, hf3.r6, hf3.r7, hf3.s1.1, hf3.s1.2.1, hf3.s1.2.2.2.2.2.2.1, hf3.s10.1, hf3.s10.2.1, hf3.s10.2.2.2.2.2.2.1, hf3.s19.1, hf3.x28, hf3.x66, hf3.r66, hf3.x67, hf3.x68, hf3.jd.1, ent_0, ent_1, ent_2, ent_3, ent_4, ent_5, ent_6, va_up_self, va_up_ne, ne_eq, Nat.reduceEqDiff, not_false_eq_true, not_true_eq_false, si_1, si_2, si_g, sr_1, sr_2, cp_1, cp_2, List.length_cons, List.length_nil, Nat.reduceAdd, true_and, and_true, and_self, eq_self, true_implies, forall_const, Bool.false_eq_true, false_implies, or_true, true_or, Option.some.injEq, Prod.mk.injEq, exists_eq_left', exists_eq', exists_and_left, reduceIte, Int.reduceEq, Int.reduceNe]
    refine e_soundingTicks n3.1.nw ?_
    have b1 := sndT_b A.now.sg
    have b2 := sndT_b (vcS A.now t c (-1)).sg
    refine ⟨inR_s (show -1000000 ≤ sndT A.now.sg - sndT (vcS A.now t c (-1)).sg by omega) (show sndT A.now.sg - sndT (vcS A.now t c (-1)).sg ≤ 1000000 by omega), by rw [n3.2.1, q2], hK M3 (CN.tr ⟨h2, q2, u2⟩ n3)⟩
  · simp only [c1, if_true, if_false, ent_0, ent_1, ent_2, ent_3, ent_4, ent_5, ent_6, va_up_self, va_up_ne, ne_eq, Nat.reduceEqDiff, not_false_eq_true, not_true_eq_false, si_1, si_2, si_g, sr_1, sr_2, cp_1, cp_2, List.length_cons, List.length_nil, Nat.reduceAdd, true_and, and_true, and_self, eq_self, true_implies, forall_const, Bool.false_eq_true, false_implies, or_true, true_or, Option.some.injEq, Prod.mk.injEq, exists_eq_left', exists_eq', exists_and_left, reduceIte, Int.reduceEq, Int.reduceNe] at hK ⊢
    exact hK M h.rf
set_option maxRecDepth 20000 in
theorem c_singAlong {f l y : Int} (h : CI M A) (hV : A.now.V) (hK : ∀ M2, CN M M2 (salR A f l y).2 → K (salR A f l y).1 M2) : m_X6_singAlong [.inr (some 0), .inl f, .inl l, .inl y] K M := by
  have hf := h.fx
  have hn := hV.1.1
  unfold salR at hK
  simp only [hf.x0, hf.r0, hf.r1, hf.r2, hf.r4, hf.r5, hf.r6, hf.r7, hf.s1.1, hf.s1.2.1, hf.s1.2.2.2.2.2.2.1, hf.s10.1, hf.s10.2.1, hf.s10.2.2.2.2.2.2.1, hf.s19.1, hf.x28, hf.x66, hf.r66, hf.x67, hf.x68, hf.jd.1, e_has h.nw.2.1, e_isWithin, m_X6_singAlong, mk0, B_X6_singAlong, iC, iL, iF, iA, iAc, iLen, iT, iAdd, iSub, iMul, iDiv, iRem, iNeg, iCh, iAnd31, iQ, iMax, iMin, iAbs, iCallS, iCallV, aN, aI, aR, rL, rF, rA, cEq, cNe, cLt, cGe, cGt, cLe, cAnd, cOr, cNot, cNull, sSkip, sSeq, sLoc, sLocR, sInc, sPut, sPutR, sPutAdd, sPutSub, sAst, sCst, sRst, sAstAdd, sAstSub, sIf1, sIf, sRet, sRetV, sCallV, sCallS, sPop, sCopy, sCopyT, sObj, sSw, iAddW, iMulW, iAndM, iShr, cQ, ent_0, ent_1, ent_2, ent_3, ent_4, ent_5, ent_6, va_up_self, va_up_ne, ne_eq, Nat.reduceEqDiff, not_false_eq_true, not_true_eq_false, si_1, si_2, si_g, sr_1, sr_2, cp_1, cp_2, List.length_cons, List.length_nil, Nat.reduceAdd, true_and, and_true, and_self, eq_self, true_implies, forall_const, Bool.false_eq_true, false_implies, or_true, true_or, Option.some.injEq, Prod.mk.injEq, exists_eq_left', exists_eq', exists_and_left, reduceIte, Int.reduceEq, Int.reduceNe]
  by_cases c1 : 0 ≤ f ∧ f < A.now.n
  · by_cases c2 : 0 ≤ l ∧ l < A.now.n
    · by_cases c3 : f ≤ l
      · by_cases c4 : -60 ≤ y ∧ y ≤ 60
        · have c3' : ¬ l < f := by omega
          simp only [c1, c2, c3, c3', c4, and_self, true_and, if_true, if_false, hf.x0, hf.r0, hf.r1, hf.r2, hf.r4, hf.r5, hf.r6, hf.r7, hf.s1.1, hf.s1.2.1, hf.s1.2.2.2.2.2.2.1, hf.s10.1, hf.s10.2.1, hf.s10.2.2.2.2.2.2.1, hf.s19.1, hf.x28, hf.x66, hf.r66, hf.x67, hf.x68, hf.jd.1, ent_0, ent_1, ent_2, ent_3, ent_4, ent_5, ent_6, va_up_self, va_up_ne, ne_eq, Nat.reduceEqDiff, not_false_eq_true, not_true_eq_false, si_1, si_2, si_g, sr_1, sr_2, cp_1, cp_2, List.length_cons, List.length_nil, Nat.reduceAdd, true_and, and_true, and_self, eq_self, true_implies, forall_const, Bool.false_eq_true, false_implies, or_true, true_or, Option.some.injEq, Prod.mk.injEq, exists_eq_left', exists_eq', exists_and_left, reduceIte, Int.reduceEq, Int.reduceNe] at hK ⊢
          refine e_record h (fun M2 h2 q2 u2 => ?_)
          have n2 : CN M M2 (recA A) := ⟨h2, q2, u2⟩
          clear h2 q2 u2
          refine while_n (n := (l - f + 1).toNat) (fun r ρ M3 => ∃ k : Nat, k + r = (l - f + 1).toNat ∧ ρ 0 = .inr (some 0) ∧ ρ 2 = .inl l ∧ ρ 3 = .inl y ∧ ρ 4 = .inl (f + k) ∧ CN M M3 (setN (recA A) (A.now.n, A.now.D, A.now.st, vwL A.now.D y A.now.sg f.toNat k))) ?_ ⟨0, by omega, by simp [va_up, ent_0], by simp [va_up, ent_2], by simp [va_up, ent_3], by simp [va_up], n2⟩
          rintro r W hW ρ M3 ⟨k, hr, h0, h2, h3, h4, n3⟩
          have hf3 := n3.1.fx
          simp only [h0, h2, h3, h4, hf3.x0, hf3.r0, hf3.r1, hf3.r2, hf3.r4, hf3.r5, hf3.r6, hf3.r7, hf3.s1.1, hf3.s1.2.1, hf3.s1.2.2.2.2.2.2.1, hf3.s10.1, hf3.s10.2.1, hf3.s10.2.2.2.2.2.2.1, hf3.s19.1, hf3.x28, hf3.x66, hf3.r66, hf3.x67, hf3.x68, hf3.jd.1, iC, iL, iF, iA, iAc, iLen, iT, iAdd, iSub, iMul, iDiv, iRem, iNeg, iCh, iAnd31, iQ, iMax, iMin, iAbs, iCallS, iCallV, aN, aI, aR, rL, rF, rA, cEq, cNe, cLt, cGe, cGt, cLe, cAnd, cOr, cNot, cNull, sSkip, sSeq, sLoc, sLocR, sInc, sPut, sPutR, sPutAdd, sPutSub, sAst, sCst, sRst, sAstAdd, sAstSub, sIf1, sIf, sRet, sRetV, sCallV, sCallS, sPop, sCopy, sCopyT, sObj, sSw, iAddW, iMulW, iAndM, iShr, cQ, ent_0, ent_1, ent_2, ent_3, ent_4, ent_5, ent_6, va_up_self, va_up_ne, ne_eq, Nat.reduceEqDiff, not_false_eq_true, not_true_eq_false, si_1, si_2, si_g, sr_1, sr_2, cp_1, cp_2, List.length_cons, List.length_nil, Nat.reduceAdd, true_and, and_true, and_self, eq_self, true_implies, forall_const, Bool.false_eq_true, false_implies, or_true, true_or, Option.some.injEq, Prod.mk.injEq, exists_eq_left', exists_eq', exists_and_left, reduceIte, Int.reduceEq, Int.reduceNe]
          by_cases hk : f + k ≤ l
          · rw [if_pos hk]
            have e1 : f + (k : Int) = ((f.toNat + k : Nat) : Int) := by omega
            rw [e1]
            refine e_voiceAsWanted n3.1.nw hV.1 (show f.toNat + k < A.now.n by omega) c4 ⟨inR_s (by omega) (by omega), ?_⟩
            refine hW _ _ (by omega) ⟨k + 1, by omega, by simp [va_up, h0], by simp [va_up, h2], by simp [va_up, h3], by simp [va_up]; omega, ?_⟩
            refine n3.tr ?_
            have n4 := n3.1.sung (g := vwF A.now.D (f.toNat + k) y (M3.2.1 (1 + 8)) (A.now.D (f.toNat + k) 1).toNat) (g2 := vwL A.now.D y A.now.sg f.toNat (k + 1)) (fun t ht => by
              show (if _ then _ else _) = if _ then _ else _
              rw [n3.1.nw.2.2.2 t ht]
              rfl)
            exact n4
          · rw [if_neg hk]
            have ek : k = (l - f + 1).toNat := by omega
            rw [ek] at n3
            refine e_hitsNow n3.1 (vwS_V hV f l y) (fun M4 n4 => ⟨by rw [n4.2.1, n3.2.1], hK M4 (n3.tr n4)⟩)
        · simp only [c1, c2, c3, c4, and_self, and_false, if_true, if_false, ent_0, ent_1, ent_2, ent_3, ent_4, ent_5, ent_6, va_up_self, va_up_ne, ne_eq, Nat.reduceEqDiff, not_false_eq_true, not_true_eq_false, si_1, si_2, si_g, sr_1, sr_2, cp_1, cp_2, List.length_cons, List.length_nil, Nat.reduceAdd, true_and, and_true, and_self, eq_self, true_implies, forall_const, Bool.false_eq_true, false_implies, or_true, true_or, Option.some.injEq, Prod.mk.injEq, exists_eq_left', exists_eq', exists_and_left, reduceIte, Int.reduceEq, Int.reduceNe] at hK ⊢
          split <;> exact hK M h.rf
      · have c3' : l < f := by omega
        simp only [c1, c2, c3, c3', and_self, false_and, if_true, if_false, ent_0, ent_1, ent_2, ent_3, ent_4, ent_5, ent_6, va_up_self, va_up_ne, ne_eq, Nat.reduceEqDiff, not_false_eq_true, not_true_eq_false, si_1, si_2, si_g, sr_1, sr_2, cp_1, cp_2, List.length_cons, List.length_nil, Nat.reduceAdd, true_and, and_true, and_self, eq_self, true_implies, forall_const, Bool.false_eq_true, false_implies, or_true, true_or, Option.some.injEq, Prod.mk.injEq, exists_eq_left', exists_eq', exists_and_left, reduceIte, Int.reduceEq, Int.reduceNe] at hK ⊢
        exact hK M h.rf
    · simp only [c1, c2, and_self, and_false, if_true, if_false, ent_0, ent_1, ent_2, ent_3, ent_4, ent_5, ent_6, va_up_self, va_up_ne, ne_eq, Nat.reduceEqDiff, not_false_eq_true, not_true_eq_false, si_1, si_2, si_g, sr_1, sr_2, cp_1, cp_2, List.length_cons, List.length_nil, Nat.reduceAdd, true_and, and_true, and_self, eq_self, true_implies, forall_const, Bool.false_eq_true, false_implies, or_true, true_or, Option.some.injEq, Prod.mk.injEq, exists_eq_left', exists_eq', exists_and_left, reduceIte, Int.reduceEq, Int.reduceNe] at hK ⊢
      exact hK M h.rf
  · simp only [c1, false_and, if_true, if_false, ent_0, ent_1, ent_2, ent_3, ent_4, ent_5, ent_6, va_up_self, va_up_ne, ne_eq, Nat.reduceEqDiff, not_false_eq_true, not_true_eq_false, si_1, si_2, si_g, sr_1, sr_2, cp_1, cp_2, List.length_cons, List.length_nil, Nat.reduceAdd, true_and, and_true, and_self, eq_self, true_implies, forall_const, Bool.false_eq_true, false_implies, or_true, true_or, Option.some.injEq, Prod.mk.injEq, exists_eq_left', exists_eq', exists_and_left, reduceIte, Int.reduceEq, Int.reduceNe] at hK ⊢
    exact hK M h.rf
end COPS2
