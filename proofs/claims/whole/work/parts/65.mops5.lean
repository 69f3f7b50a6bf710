theorem snd_step {S : Sg} {t : Int} {k : Nat} (ht : 0 ≤ t ∧ t + k < 600) : sndT (vcS S t k (-1)).sg = sndT (vcS S t ((k : Int) + 1) (-1)).sg + (if S.sg (t + k).toNat = -1 then 0 else 1) := by
  refine sm_one (p0 := (t + k).toNat) (by omega) ?_ (fun p hp hne => ?_)
  · show (if (if t ≤ ((t + k).toNat : Int) ∧ ((t + k).toNat : Int) < t + k then clp (-1) else S.sg (t + k).toNat) = -1 then (0 : Int) else 1) = (if (if t ≤ ((t + k).toNat : Int) ∧ ((t + k).toNat : Int) < t + ((k : Int) + 1) then clp (-1) else S.sg (t + k).toNat) = -1 then 0 else 1) + _
    rw [if_neg (by omega : ¬ (t ≤ ((t + k).toNat : Int) ∧ ((t + k).toNat : Int) < t + k)), if_pos (by omega : t ≤ ((t + k).toNat : Int) ∧ ((t + k).toNat : Int) < t + ((k : Int) + 1)), if_pos (show clp (-1) = -1 from rfl)]
    omega
  · show (if (if t ≤ (p : Int) ∧ (p : Int) < t + k then clp (-1) else S.sg p) = -1 then (0 : Int) else 1) = (if (if t ≤ (p : Int) ∧ (p : Int) < t + ((k : Int) + 1) then clp (-1) else S.sg p) = -1 then 0 else 1)
    by_cases c : t ≤ (p : Int) ∧ (p : Int) < t + k
    · rw [if_pos c, if_pos (by omega : t ≤ (p : Int) ∧ (p : Int) < t + ((k : Int) + 1))]
    · rw [if_neg c, if_neg (by omega : ¬ (t ≤ (p : Int) ∧ (p : Int) < t + ((k : Int) + 1)))]
theorem snd_0 {S : Sg} {t : Int} : sndT (vcS S t ((0 : Nat) : Int) (-1)).sg = sndT S.sg := by
  refine sm_cong (fun p hp => ?_)
  show (if (if t ≤ (p : Int) ∧ (p : Int) < t + ((0 : Nat) : Int) then clp (-1) else S.sg p) = -1 then (0 : Int) else 1) = _
  rw [if_neg (by omega : ¬ (t ≤ (p : Int) ∧ (p : Int) < t + ((0 : Nat) : Int)))]
section MOPS5
variable {K : Int → Mm → Prop} {M : Mm} {A : Ab} {n : Nat} {D : Nat → Nat → Int} {st sg : Nat → Int}
set_option maxRecDepth 20000 in
theorem d_silence {t c : Int} (h : MI M A) (hV : A.V) (hK : ∀ M2, MN M M2 (silR A t c).2 → K (silR A t c).1 M2) : m_X7_silence [.inr (some 80), .inl t, .inl c] K M := by
  obtain ⟨m0, mA, mR⟩ := h.fx.md
  unfold silR at hK
  simp only [m0, e_isTick, e_in, m_X7_silence, mk0, B_X7_silence, iC, iL, iF, iA, iAc, iLen, iT, iAdd, iSub, iMul, iDiv, iRem, iNeg, iCh, iAnd31, iQ, iMax, iMin, iAbs, iCallS, iCallV, aN, aI, aR, rL, rF, rA, cEq, cNe, cLt, cGe, cGt, cLe, cAnd, cOr, cNot, cNull, sSkip, sSeq, sLoc, sLocR, sInc, sPut, sPutR, sPutAdd, sPutSub, sAst, sCst, sRst, sAstAdd, sAstSub, sIf1, sIf, sRet, sRetV, sCallV, sCallS, sPop, sCopy, sCopyT, sObj, sSw, ent_0, ent_1, ent_2, ent_3, ent_4, ent_5, ent_6, va_up_self, va_up_ne, ne_eq, Nat.reduceEqDiff, not_false_eq_true, not_true_eq_false, si_1, si_2, si_g, sr_1, sr_2, cp_1, cp_2, List.length_cons, List.length_nil, Nat.reduceAdd, true_and, and_true, and_self, eq_self, true_implies, forall_const, Bool.false_eq_true, false_implies, or_true, true_or, Option.some.injEq, Prod.mk.injEq, exists_eq_left', exists_eq', exists_and_left, reduceIte, Int.reduceEq, Int.reduceNe]
  by_cases c1 : 0 ≤ t ∧ t ≤ 599
  · by_cases c2 : 1 ≤ c ∧ c ≤ 600
    · have r1 : inR (t + c) := inR_s (by omega) (by omega)
      by_cases c3 : t + c ≤ 600
      · have c3' : ¬ 600 < t + c := by omega
        simp only [c1, c2, c3, c3', r1, m0, and_self, if_true, if_false, ent_0, ent_1, ent_2, ent_3, ent_4, ent_5, ent_6, va_up_self, va_up_ne, ne_eq, Nat.reduceEqDiff, not_false_eq_true, not_true_eq_false, si_1, si_2, si_g, sr_1, sr_2, cp_1, cp_2, List.length_cons, List.length_nil, Nat.reduceAdd, true_and, and_true, and_self, eq_self, true_implies, forall_const, Bool.false_eq_true, false_implies, or_true, true_or, Option.some.injEq, Prod.mk.injEq, exists_eq_left', exists_eq', exists_and_left, reduceIte, Int.reduceEq, Int.reduceNe] at hK ⊢
        refine e_record7 h hV.c4 (fun M2 n2 => ?_)
        obtain ⟨k0, kA, kR⟩ := n2.1.fx.md
        have hr2 := n2.1.nw
        refine while_n (n := c.toNat) (fun r ρ M3 => ∃ k : Nat, k + r = c.toNat ∧ ρ 0 = .inr (some 80) ∧ ρ 1 = .inl t ∧ ρ 2 = .inl c ∧ ρ 3 = .inl (sndT A.now.sg - sndT (vcS A.now t k (-1)).sg) ∧ ρ 4 = .inl (t + k) ∧ M3 = sa M2 81 (fun j => if 206 + t.toNat ≤ j ∧ j < 206 + t.toNat + k then 0 else M2.2.1 81 j)) ?_ ⟨0, by omega, by simp [va_up, ent_0], by simp [va_up, ent_1], by simp [va_up, ent_2], by rw [snd_0]; simp [va_up], by simp [va_up], (sa_self (fun b => if_neg (by omega))).symm⟩
        rintro r W hW ρ M3 ⟨k, hr, h0, h1, h2, h3, h4, rfl⟩
        simp only [h0, h1, h2, h3, h4, k0, kA, kR, sa_1, sa_2, sa_g, r1, iC, iL, iF, iA, iAc, iLen, iT, iAdd, iSub, iMul, iDiv, iRem, iNeg, iCh, iAnd31, iQ, iMax, iMin, iAbs, iCallS, iCallV, aN, aI, aR, rL, rF, rA, cEq, cNe, cLt, cGe, cGt, cLe, cAnd, cOr, cNot, cNull, sSkip, sSeq, sLoc, sLocR, sInc, sPut, sPutR, sPutAdd, sPutSub, sAst, sCst, sRst, sAstAdd, sAstSub, sIf1, sIf, sRet, sRetV, sCallV, sCallS, sPop, sCopy, sCopyT, sObj, sSw, ent_0, ent_1, ent_2, ent_3, ent_4, ent_5, ent_6, va_up_self, va_up_ne, ne_eq, Nat.reduceEqDiff, not_false_eq_true, not_true_eq_false, si_1, si_2, si_g, sr_1, sr_2, cp_1, cp_2, List.length_cons, List.length_nil, Nat.reduceAdd, true_and, and_true, and_self, eq_self, true_implies, forall_const, Bool.false_eq_true, false_implies, or_true, true_or, Option.some.injEq, Prod.mk.injEq, exists_eq_left', exists_eq', exists_and_left, reduceIte, Int.reduceEq, Int.reduceNe]
        have b0 := sndT_b A.now.sg
        have b1 := sndT_b (vcS A.now t k (-1)).sg
        by_cases hk : k < c.toNat
        · rw [if_pos (by omega)]
          have r2 : inR (206 + (t + (k : Int))) := inR_s (by omega) (by omega)
          have r4 : inR (t + (k : Int) + 1) := inR_s (by omega) (by omega)
          have e1 : (206 + (t + (k : Int))).toNat = 206 + t.toNat + k := by omega
          have hst := snd_step (S := A.now) (t := t) (k := k) (by omega)
          have er := hr2.2.2.2.2 (t + k).toNat (by omega)
          have er2 : M2.2.1 81 (206 + t.toNat + k) = A.now.sg (t + k).toNat + 1 := by
            rw [← show (recA A).now.sg = A.now.sg from rfl, ← er]
            exact congrArg (M2.2.1 81) (by omega)
          have eg := hV.nw.2.2 (t + k).toNat (by omega)
          have fin : ∀ x, x = sndT A.now.sg - sndT (vcS A.now t ((k : Int) + 1) (-1)).sg → W (va_up (va_up ρ 3 (.inl x)) 4 (.inl (t + (k : Int) + 1))) (si (sa M2 81 (fun j => if 206 + t.toNat ≤ j ∧ j < 206 + t.toNat + k then 0 else M2.2.1 81 j)) 81 (206 + t.toNat + k) 0) := by
            intro x hx
            refine hW _ _ (by omega) ⟨k + 1, by omega, by simp [va_up, h0], by simp [va_up, h1], by simp [va_up, h2], by simp [va_up, hx], by simp [va_up]; omega, ?_⟩
            rw [si_sa]
            refine sa_cong (fun j => ?_)
            by_cases hj : j = 206 + t.toNat + k
            · rw [if_pos hj, if_pos (by omega)]
            · rw [if_neg hj]
              by_cases hj2 : 206 + t.toNat ≤ j ∧ j < 206 + t.toNat + k
              · rw [if_pos hj2, if_pos (by omega)]
              · rw [if_neg hj2, if_neg (by omega)]
          rw [e1]
          simp only [show ¬ (206 + t.toNat ≤ 206 + t.toNat + k ∧ 206 + t.toNat + k < 206 + t.toNat + k) by omega, if_false, er2]
          refine ⟨r2, by omega, by omega, ?_⟩
          by_cases cs : A.now.sg (t + k).toNat = -1
          · rw [if_pos cs] at hst
            rw [if_neg (by omega)]
            exact ⟨inR_s (by omega) (by omega), r2, by omega, by omega, r4, fin _ (by omega)⟩
          · rw [if_neg cs] at hst
            rw [if_pos (by omega)]
            exact ⟨inR_s (by omega) (by omega), r2, by omega, by omega, r4, fin _ (by omega)⟩
        · rw [if_neg (by omega)]
          have ek : k = c.toNat := by omega
          have ekc : (k : Int) = c := by omega
          have n3 : MN M2 (sa M2 81 (fun j => if 206 + t.toNat ≤ j ∧ j < 206 + t.toNat + k then 0 else M2.2.1 81 j)) (setN (recA A) (vcS A.now t c (-1))) := MN_sung n2.1 (show (recA A).now = A.now from rfl) (fun j hj => if_neg (by omega)) (fun u hu => by
            show (if 206 + t.toNat ≤ 206 + u ∧ 206 + u < 206 + t.toNat + k then 0 else M2.2.1 81 (206 + u)) = (if t ≤ (u : Int) ∧ (u : Int) < t + c then clp (-1) else A.now.sg u) + 1
            by_cases hu2 : t ≤ (u : Int) ∧ (u : Int) < t + c
            · rw [if_pos hu2, if_pos (by omega)]
              rfl
            · rw [if_neg hu2, if_neg (by omega)]
              have := hr2.2.2.2.2 u hu
              rw [Nat.zero_add] at this
              exact this)
          rw [ekc]
          have n4 := n2.tr n3
          exact ⟨n4.2.1, hK _ n4⟩
      · have c3' : 600 < t + c := by omega
        simp only [c1, c2, c3, c3', r1, and_self, and_false, false_and, if_true, if_false, ent_0, ent_1, ent_2, ent_3, ent_4, ent_5, ent_6, va_up_self, va_up_ne, ne_eq, Nat.reduceEqDiff, not_false_eq_true, not_true_eq_false, si_1, si_2, si_g, sr_1, sr_2, cp_1, cp_2, List.length_cons, List.length_nil, Nat.reduceAdd, true_and, and_true, and_self, eq_self, true_implies, forall_const, Bool.false_eq_true, false_implies, or_true, true_or, Option.some.injEq, Prod.mk.injEq, exists_eq_left', exists_eq', exists_and_left, reduceIte, Int.reduceEq, Int.reduceNe] at hK ⊢
        exact hK M h.rf
    · simp only [c1, c2, and_false, false_and, if_true, if_false, ent_0, ent_1, ent_2, ent_3, ent_4, ent_5, ent_6, va_up_self, va_up_ne, ne_eq, Nat.reduceEqDiff, not_false_eq_true, not_true_eq_false, si_1, si_2, si_g, sr_1, sr_2, cp_1, cp_2, List.length_cons, List.length_nil, Nat.reduceAdd, true_and, and_true, and_self, eq_self, true_implies, forall_const, Bool.false_eq_true, false_implies, or_true, true_or, Option.some.injEq, Prod.mk.injEq, exists_eq_left', exists_eq', exists_and_left, reduceIte, Int.reduceEq, Int.reduceNe] at hK ⊢
      exact hK M h.rf
  · simp only [c1, false_and, if_true, if_false, ent_0, ent_1, ent_2, ent_3, ent_4, ent_5, ent_6, va_up_self, va_up_ne, ne_eq, Nat.reduceEqDiff, not_false_eq_true, not_true_eq_false, si_1, si_2, si_g, sr_1, sr_2, cp_1, cp_2, List.length_cons, List.length_nil, Nat.reduceAdd, true_and, and_true, and_self, eq_self, true_implies, forall_const, Bool.false_eq_true, false_implies, or_true, true_or, Option.some.injEq, Prod.mk.injEq, exists_eq_left', exists_eq', exists_and_left, reduceIte, Int.reduceEq, Int.reduceNe] at hK ⊢
    exact hK M h.rf
def salIn : ST := (sSeq (sLoc 5 (iCallV 7 m_X7_of (rL 0) (aI (iL 4) (aI (iC 0) (aN))))) (sWhile (cLt (iL 5) (iCallV 7 m_X7_behind (rL 0) (aI (iL 4) (aN)))) (sSeq (sSeq (sLoc 6 (iAdd (iCallV 7 m_X7_wantedIn (rL 0) (aI (iL 4) (aI (iSub (iL 5) (iCallV 7 m_X7_of (rL 0) (aI (iL 4) (aI (iC 0) (aN))))) (aN)))) (iL 3))) (sAst (rF 7 0 (rL 0)) (iAdd (iC 206) (iL 5)) (iQ (cNe (iCallS m_X7_isPitch (aI (iL 6) (aN))) (iC 0)) (iAdd (iL 6) (iC 1)) (iC 0)))) (sInc 5 1))))
def salLp : ST := sWhile (cLe (iL 4) (iL 2)) (sSeq salIn (sInc 4 1))
def salTl : ST := (sSeq (sCallV 7 m_X7_judgeSong (rL 0) (aN)) (sRet false (iCallV 7 m_X7_hits (rL 0) (aN))))
theorem B_sal7 : B_X7_singAlong = sSeq (sIf1 (cOr (cNot (cNe (iCallV 7 m_X7_isSyllable (rL 0) (aI (iL 1) (aN))) (iC 0))) (cNot (cNe (iCallV 7 m_X7_isSyllable (rL 0) (aI (iL 2) (aN))) (iC 0)))) (sRet false (iC (-1)))) (sSeq (sIf1 (cOr (cLt (iL 2) (iL 1)) (cNot (cNe (iCallS m_X7_in (aI (iL 3) (aI (iC (-60)) (aI (iC 60) (aN))))) (iC 0)))) (sRet false (iC (-2)))) (sSeq (sCallV 7 m_X7_record (rL 0) (aN)) (sSeq (sSeq (sLoc 4 (iL 1)) salLp) salTl))) := rfl
set_option maxRecDepth 20000 in
theorem e_salIn {W : En → Mm → Prop} {Rt : Int → Mm → Prop} {ρ : En} {i : Nat} {y : Int} (hm : MR M n D st) (hv : VD n D) (hi : i < n) (hy : -60 ≤ y ∧ y ≤ 60) (h0 : ρ 0 = .inr (some 80)) (h3 : ρ 3 = .inl y) (h4 : ρ 4 = .inl (i : Int)) (hW : ∀ ρ2, (∀ v, v ≤ 4 → ρ2 v = ρ v) → W ρ2 (sa M 81 (fun j => if 206 + (D i 0).toNat ≤ j ∧ j < 206 + (D i 0).toNat + (D i 1).toNat then clp (wn D i ((j : Int) - 206 - D i 0) + y) + 1 else M.2.1 81 j))) : salIn W Rt ρ M := by
  obtain ⟨m0, mA, mR⟩ := hm.1
  have hd := hv.2.1 i hi
  simp only [salIn, h0, h4, m0, iC, iL, iF, iA, iAc, iLen, iT, iAdd, iSub, iMul, iDiv, iRem, iNeg, iCh, iAnd31, iQ, iMax, iMin, iAbs, iCallS, iCallV, aN, aI, aR, rL, rF, rA, cEq, cNe, cLt, cGe, cGt, cLe, cAnd, cOr, cNot, cNull, sSkip, sSeq, sLoc, sLocR, sInc, sPut, sPutR, sPutAdd, sPutSub, sAst, sCst, sRst, sAstAdd, sAstSub, sIf1, sIf, sRet, sRetV, sCallV, sCallS, sPop, sCopy, sCopyT, sObj, sSw, ent_0, ent_1, ent_2, ent_3, ent_4, ent_5, ent_6, va_up_self, va_up_ne, ne_eq, Nat.reduceEqDiff, not_false_eq_true, not_true_eq_false, si_1, si_2, si_g, sr_1, sr_2, cp_1, cp_2, List.length_cons, List.length_nil, Nat.reduceAdd, true_and, and_true, and_self, eq_self, true_implies, forall_const, Bool.false_eq_true, false_implies, or_true, true_or, Option.some.injEq, Prod.mk.injEq, exists_eq_left', exists_eq', exists_and_left, reduceIte, Int.reduceEq, Int.reduceNe]
  refine (e_of0 hm hi).mpr ?_
  refine while_n (n := (D i 1).toNat) (fun r ρ2 M2 => ∃ k : Nat, k + r = (D i 1).toNat ∧ (∀ v, v ≤ 4 → ρ2 v = ρ v) ∧ ρ2 5 = .inl (D i 0 + k) ∧ M2 = sa M 81 (fun j => if 206 + (D i 0).toNat ≤ j ∧ j < 206 + (D i 0).toNat + k then clp (wn D i ((j : Int) - 206 - D i 0) + y) + 1 else M.2.1 81 j)) ?_ ⟨0, by omega, fun v hv => by simp [va_up]; intro e; omega, by simp [va_up], (sa_self (fun b => if_neg (by omega))).symm⟩
  rintro r W2 hW2 ρ2 M2 ⟨k, hr, hρ, h5, hM2⟩
  have g0 := (hρ 0 (by omega)).trans h0
  have g3 := (hρ 3 (by omega)).trans h3
  have g4 := (hρ 4 (by omega)).trans h4
  have hm2 : MR M2 n D st := MR_fr hm (by rw [hM2]; rfl) (by rw [hM2]; rfl) (fun j hj => by rw [hM2, sa_g, if_pos rfl, if_neg (by omega)])
  obtain ⟨k0, kA, kR⟩ := hm2.1
  simp only [g0, g3, g4, h5, k0, iC, iL, iF, iA, iAc, iLen, iT, iAdd, iSub, iMul, iDiv, iRem, iNeg, iCh, iAnd31, iQ, iMax, iMin, iAbs, iCallS, iCallV, aN, aI, aR, rL, rF, rA, cEq, cNe, cLt, cGe, cGt, cLe, cAnd, cOr, cNot, cNull, sSkip, sSeq, sLoc, sLocR, sInc, sPut, sPutR, sPutAdd, sPutSub, sAst, sCst, sRst, sAstAdd, sAstSub, sIf1, sIf, sRet, sRetV, sCallV, sCallS, sPop, sCopy, sCopyT, sObj, sSw, ent_0, ent_1, ent_2, ent_3, ent_4, ent_5, ent_6, va_up_self, va_up_ne, ne_eq, Nat.reduceEqDiff, not_false_eq_true, not_true_eq_false, si_1, si_2, si_g, sr_1, sr_2, cp_1, cp_2, List.length_cons, List.length_nil, Nat.reduceAdd, true_and, and_true, and_self, eq_self, true_implies, forall_const, Bool.false_eq_true, false_implies, or_true, true_or, Option.some.injEq, Prod.mk.injEq, exists_eq_left', exists_eq', exists_and_left, reduceIte, Int.reduceEq, Int.reduceNe]
  refine (e_behind hm2 hv hi).mpr ?_
  by_cases hk : k < (D i 1).toNat
  · rw [if_pos (by omega)]
    refine ⟨⟨0, k0⟩, (e_of0 hm2 hi).mpr ?_⟩
    have hw := wn_b hv hi (j := (k : Int)) (by omega)
    have ej : D i 0 + (k : Int) - D i 0 = k := by omega
    have r1 : inR (wn D i k + y) := inR_s (by omega) (by omega)
    have r2 : inR (206 + (D i 0 + (k : Int))) := inR_s (by omega) (by omega)
    have r3 : inR (wn D i k + y + 1) := inR_s (by omega) (by omega)
    have r4 : inR (D i 0 + (k : Int) + 1) := inR_s (by omega) (by omega)
    have r5 : inR (k : Int) := inR_s (by omega) (by omega)
    have e1 : (206 + (D i 0 + (k : Int))).toNat = 206 + (D i 0).toNat + k := by omega
    rw [ej]
    refine ⟨r5, ⟨0, k0⟩, (e_wantedIn hm2 hv hi (by omega)).mpr ⟨r1, ?_⟩⟩
    have c1 : 0 ≤ 206 + (D i 0 + (k : Int)) := by omega
    have c2 : 206 + (D i 0 + (k : Int)) < (806 : Nat) := by omega
    simp only [k0, kA, kR, e_isPitch, r2, r3, r4, c1, c2, e1, ent_0, ent_1, ent_2, ent_3, ent_4, ent_5, ent_6, va_up_self, va_up_ne, ne_eq, Nat.reduceEqDiff, not_false_eq_true, not_true_eq_false, si_1, si_2, si_g, sr_1, sr_2, cp_1, cp_2, List.length_cons, List.length_nil, Nat.reduceAdd, true_and, and_true, and_self, eq_self, true_implies, forall_const, Bool.false_eq_true, false_implies, or_true, true_or, Option.some.injEq, Prod.mk.injEq, exists_eq_left', exists_eq', exists_and_left, reduceIte, Int.reduceEq, Int.reduceNe]
    have fin : ∀ x, x = clp (wn D i k + y) + 1 → W2 (va_up (va_up ρ2 6 (.inl (wn D i k + y))) 5 (.inl (D i 0 + (k : Int) + 1))) (si M2 81 (206 + (D i 0).toNat + k) x) := by
      intro x hx
      refine hW2 _ _ (by omega) ⟨k + 1, by omega, fun v hv => ?_, by simp [va_up]; omega, ?_⟩
      · rw [← hρ v hv]
        simp only [va_up]
        rw [if_neg (by omega), if_neg (by omega)]
      · rw [hM2, si_sa]
        refine sa_cong (fun j => ?_)
        by_cases hj : j = 206 + (D i 0).toNat + k
        · rw [if_pos hj, if_pos (by omega), hx]
          have : (j : Int) - 206 - D i 0 = k := by omega
          rw [this]
        · rw [if_neg hj]
          by_cases hj2 : 206 + (D i 0).toNat ≤ j ∧ j < 206 + (D i 0).toNat + k
          · rw [if_pos hj2, if_pos (by omega)]
          · rw [if_neg hj2, if_neg (by omega)]
    by_cases cp : 0 ≤ wn D i k + y ∧ wn D i k + y ≤ 60
    · rw [if_pos cp, if_pos (by decide)]
      exact fin _ (by unfold clp; rw [if_pos cp])
    · rw [if_neg cp, if_neg (by decide)]
      exact fin _ (by unfold clp; rw [if_neg cp]; rfl)
  · rw [if_neg (by omega)]
    have ek : k = (D i 1).toNat := by omega
    rw [ek] at hM2
    rw [hM2]
    exact hW ρ2 hρ
end MOPS5
