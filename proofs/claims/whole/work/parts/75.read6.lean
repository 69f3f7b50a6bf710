def riT : ST := (sSeq (sLoc 3 (iC 1)) (sWhile (cAnd (cAnd (cLt (iL 3) (iC 60)) (cNot (cNe (iF 2 1 (rL 0)) (iC 0)))) (cLt (iF 2 0 (rL 0)) (iCallV 5 m_X5_size (rL 2) (aN)))) (sSeq (sSeq (sLoc 4 (iCallV 5 m_X5_hasAt (rL 2) (aI (iF 2 0 (rL 0)) (aI (iC 47) (aN))))) (sPut true 2 1 (rL 0) (iQ (cOr (cNot (cNe (iCallV 2 m_X2_skip (rL 0) (aR (rL 2) (aI (iQ (cNe (iL 4) (iC 0)) (iC 47) (iC 44)) (aN)))) (iC 0))) (cNot (cNe (iCallV 2 m_X2_readSyllable (rL 0) (aR (rL 1) (aR (rL 2) (aI (iL 4) (aN))))) (iC 0)))) (iC 1) (iC 0)))) (sInc 3 1))))
theorem B_ri : B_X2_readInto = sSeq (sSeq (sCallV 3 m_X3_clear (rL 1) (aN)) (sSeq (sPut false 2 0 (rL 0) (iC 0)) (sSeq (sPut true 2 2 (rL 0) (iC 0)) (sSeq (sPut true 2 1 (rL 0) (iQ (cNot (cNe (iCallV 2 m_X2_readSyllable (rL 0) (aR (rL 1) (aR (rL 2) (aI (iC 1) (aN))))) (iC 0))) (iC 1) (iC 0))) riT)))) sRetV := rfl
def flt (q : RS) : Int := if q.s = 0 then 0 else 1
section RD6
variable {K : Int → Mm → Prop} {M : Mm} {tl : Nat} {tc : Nat → Int}
set_option maxRecDepth 20000 in
theorem e_riT {W : En → Mm → Prop} {Rt : Int → Mm → Prop} {ρ : En} (h : TX M tl tc) (g0 : ρ 0 = .inr (some 68)) (g1 : ρ 1 = .inr (some 11)) (g2 : ρ 2 = .inr (some 66)) (hp : M.2.1 68 0 = (rd tl tc 0).p) (hf : M.2.1 68 1 = flt (rd tl tc 0)) (hc : CRs M (rd tl tc 0)) (hW : ∀ ρ2 M2, FrR M M2 → M2.2.1 68 0 = (rd tl tc 59).p → M2.2.1 68 1 = flt (rd tl tc 59) → CRs M2 (rd tl tc 59) → W ρ2 M2) : riT W Rt ρ M := by
  have htl := h.2.2.2.2.1
  simp only [riT, g0, g1, g2, iC, iL, iF, iA, iAc, iLen, iT, iAdd, iSub, iMul, iDiv, iRem, iNeg, iCh, iAnd31, iQ, iMax, iMin, iAbs, iCallS, iCallV, aN, aI, aR, rL, rF, rA, cEq, cNe, cLt, cGe, cGt, cLe, cAnd, cOr, cNot, cNull, sSkip, sSeq, sLoc, sLocR, sInc, sPut, sPutR, sPutAdd, sPutSub, sAst, sCst, sRst, sAstAdd, sAstSub, sIf1, sIf, sRet, sRetV, sCallV, sCallS, sPop, sCopy, sCopyT, sObj, sSw, ent_0, ent_1, ent_2, ent_3, ent_4, ent_5, ent_6, va_up_self, va_up_ne, ne_eq, Nat.reduceEqDiff, not_false_eq_true, not_true_eq_false, si_1, si_2, si_g, sr_1, sr_2, cp_1, cp_2, List.length_cons, List.length_nil, Nat.reduceAdd, true_and, and_true, and_self, eq_self, true_implies, forall_const, Bool.false_eq_true, false_implies, or_true, true_or, Option.some.injEq, Prod.mk.injEq, exists_eq_left', exists_eq', exists_and_left, reduceIte, Int.reduceEq, Int.reduceNe]
  refine while_n (n := 60) (fun r ρ2 M2 => ∃ k : Nat, k + 1 + r = 61 ∧ ρ2 0 = .inr (some 68) ∧ ρ2 1 = .inr (some 11) ∧ ρ2 2 = .inr (some 66) ∧ ρ2 3 = .inl ((k : Int) + 1) ∧ k ≤ 59 ∧ FrR M M2 ∧ M2.2.1 68 0 = (rd tl tc k).p ∧ M2.2.1 68 1 = flt (rd tl tc k) ∧ CRs M2 (rd tl tc k)) ?_ ⟨0, by omega, by simp [va_up, g0], by simp [va_up, g1], by simp [va_up, g2], by simp [va_up], by omega, ⟨rfl, rfl, fun _ _ _ => rfl⟩, hp, hf, hc⟩
  rintro r W2 hW2 ρ2 M2 ⟨k, hr, h0, h1, h2, h3, hk, hF, p0, f0, c0⟩
  have h' := h.fr hF
  have hI := rd_I htl (tc := tc) k
  simp only [h0, h1, h2, h3, h'.1, h'.2.2.2.1, h'.2.2.2.2.2.1, p0, f0, m_X5_size, mk0, B_X5_size, iC, iL, iF, iA, iAc, iLen, iT, iAdd, iSub, iMul, iDiv, iRem, iNeg, iCh, iAnd31, iQ, iMax, iMin, iAbs, iCallS, iCallV, aN, aI, aR, rL, rF, rA, cEq, cNe, cLt, cGe, cGt, cLe, cAnd, cOr, cNot, cNull, sSkip, sSeq, sLoc, sLocR, sInc, sPut, sPutR, sPutAdd, sPutSub, sAst, sCst, sRst, sAstAdd, sAstSub, sIf1, sIf, sRet, sRetV, sCallV, sCallS, sPop, sCopy, sCopyT, sObj, sSw, ent_0, ent_1, ent_2, ent_3, ent_4, ent_5, ent_6, va_up_self, va_up_ne, ne_eq, Nat.reduceEqDiff, not_false_eq_true, not_true_eq_false, si_1, si_2, si_g, sr_1, sr_2, cp_1, cp_2, List.length_cons, List.length_nil, Nat.reduceAdd, true_and, and_true, and_self, eq_self, true_implies, forall_const, Bool.false_eq_true, false_implies, or_true, true_or, Option.some.injEq, Prod.mk.injEq, exists_eq_left', exists_eq', exists_and_left, reduceIte, Int.reduceEq, Int.reduceNe]
  have done : ∀ (hd : ¬ ((rd tl tc k).s = 0 ∧ (rd tl tc k).p < tl)), W ρ2 M2 := fun hd => by
    have e := rd_end htl hd
    rw [e] at p0 f0 c0
    exact hW ρ2 M2 hF p0 f0 c0
  by_cases ck : k < 59
  · rw [if_pos (by omega)]
    by_cases cs : (rd tl tc k).s = 0
    · have ef : flt (rd tl tc k) = 0 := if_pos cs
      rw [if_neg (by omega)]
      by_cases cp : (rd tl tc k).p < tl
      · rw [if_pos (by omega)]
        have en : rd tl tc (k + 1) = rdn tl tc (rd tl tc k) := rfl
        have r3 : inR ((k : Int) + 1 + 1) := inR_s (by omega) (by omega)
        unfold rdn at en
        rw [if_pos ⟨cs, cp⟩] at en
        have hIi := hI.2.1 cs
        refine (e_hasAt h' (by omega)).mpr ?_
        have fin : ∀ (x v : Int) (M4 : Mm), FrR M M4 → M4.2.1 68 0 = (rd tl tc (k + 1)).p → CRs M4 (rd tl tc (k + 1)) → v = flt (rd tl tc (k + 1)) → W2 (va_up (va_up ρ2 4 (.inl x)) 3 (.inl ((k : Int) + 1 + 1))) (si M4 68 1 v) := by
          intro x v M4 F4 P4 C4 ev
          refine hW2 _ _ (by omega) ⟨k + 1, by omega, by simp [va_up, h0], by simp [va_up, h1], by simp [va_up, h2], by simp [va_up], by omega, F4.tr (FrR.si M4 1 v), by rw [si_g, if_neg (by omega)]; exact P4, by rw [si_g, if_pos ⟨rfl, rfl⟩]; exact ev, ⟨fun ht => ?_, fun ht => ?_⟩⟩
          · obtain ⟨x1, x2⟩ := C4.1 ht
            exact ⟨by rw [si_g, if_neg (by omega)]; exact x1, x2.si68 (by decide)⟩
          · obtain ⟨x1, n2, D2, v2, x2⟩ := C4.2 ht
            exact ⟨by rw [si_g, if_neg (by omega)]; exact x1, n2, D2, v2, x2.si68 (by decide)⟩
        generalize rd tl tc (k + 1) = q1 at en fin
        have c68 : ∀ z, CRs (si M2 68 0 z) (rd tl tc k) := fun z => ⟨fun ht => by
            obtain ⟨x1, x2⟩ := c0.1 ht
            exact ⟨by rw [si_g, if_neg (by omega)]; exact x1, x2.si68 (by decide)⟩, fun ht => by
            obtain ⟨x1, n2, D2, v2, x2⟩ := c0.2 ht
            exact ⟨by rw [si_g, if_neg (by omega)]; exact x1, n2, D2, v2, x2.si68 (by decide)⟩⟩
        have F68 := fun z => hF.tr (FrR.si M2 0 z)
        have syl : ∀ (f : Int) (Q : Int → Mm → Prop), (f = 0 ∨ f = 1) → (∀ M4, FrR M M4 → M4.2.1 68 0 = (rst tl tc (rd tl tc k) ((rd tl tc k).p + 1) f).p → CRs M4 (rst tl tc (rd tl tc k) ((rd tl tc k).p + 1) f) → Q (if (rst tl tc (rd tl tc k) ((rd tl tc k).p + 1) f).s = 0 then 1 else 0) M4) → m_X2_readSyllable [.inr (some 68), .inr (some 11), .inr (some 66), .inl f] Q (si M2 68 0 (((rd tl tc k).p + 1 : Nat) : Int)) := fun f Q hf hQ => e_rdSyl (q := rd tl tc k) (p := (rd tl tc k).p + 1) h'.si68 (c68 _) (by omega) (s68 M2 _) hf hI.2.2.1 hI.2.2.2.2 (fun M4 F4 P4 _ C4 => hQ M4 ((F68 _).tr F4) P4 C4)
        by_cases c47 : tc (rd tl tc k).p = 47
        · rw [if_pos c47] at en
          have eh : (if (rd tl tc k).p < tl ∧ tc (rd tl tc k).p = 47 then (1 : Int) else 0) = 1 := if_pos ⟨cp, c47⟩
          rw [eh, if_pos (by decide)]
          refine ⟨⟨0, h'.2.2.2.1⟩, (e_skip h' (by omega) p0).mpr ?_⟩
          rw [if_pos ⟨cp, c47⟩, if_pos (by decide)]
          refine ⟨⟨0, h'.2.2.2.1⟩, syl 1 _ (.inr rfl) (fun M4 F4 P4 C4 => ?_)⟩
          rw [← en] at P4 C4 ⊢
          have x4 : ∃ w, M4.1[68]? = some (2, w) := ⟨0, by rw [F4.1]; exact h.2.2.2.1⟩
          by_cases cq : q1.s = 0
          · rw [if_pos cq, if_pos (by decide)]
            exact ⟨x4, r3, fin _ _ M4 F4 P4 C4 (if_pos cq).symm⟩
          · rw [if_neg cq, if_neg (by decide)]
            exact ⟨x4, r3, fin _ _ M4 F4 P4 C4 (if_neg cq).symm⟩
        · rw [if_neg c47] at en
          have eh : (if (rd tl tc k).p < tl ∧ tc (rd tl tc k).p = 47 then (1 : Int) else 0) = 0 := if_neg (fun z => c47 z.2)
          rw [eh, if_neg (by decide)]
          refine ⟨⟨0, h'.2.2.2.1⟩, (e_skip h' (by omega) p0).mpr ?_⟩
          by_cases c44 : tc (rd tl tc k).p = 44
          · rw [if_pos c44] at en
            rw [if_pos ⟨cp, c44⟩, if_pos (by decide)]
            refine ⟨⟨0, h'.2.2.2.1⟩, syl 0 _ (.inl rfl) (fun M4 F4 P4 C4 => ?_)⟩
            rw [← en] at P4 C4 ⊢
            have x4 : ∃ w, M4.1[68]? = some (2, w) := ⟨0, by rw [F4.1]; exact h.2.2.2.1⟩
            by_cases cq : q1.s = 0
            · rw [if_pos cq, if_pos (by decide)]
              exact ⟨x4, r3, fin _ _ M4 F4 P4 C4 (if_pos cq).symm⟩
            · rw [if_neg cq, if_neg (by decide)]
              exact ⟨x4, r3, fin _ _ M4 F4 P4 C4 (if_neg cq).symm⟩
          · rw [if_neg c44] at en
            rw [if_neg (fun z => c44 z.2), if_neg (by decide)]
            refine ⟨⟨0, h'.2.2.2.1⟩, r3, fin _ _ M2 hF (by rw [en]; exact p0) (by rw [en]; exact c0) (by rw [en]; rfl)⟩
      · rw [if_neg (by omega)]
        exact done (fun z => cp z.2)
    · rw [if_pos (by unfold flt; rw [if_neg cs]; decide)]
      exact done (fun z => cs z.1)
  · rw [if_neg (by omega)]
    obtain rfl : k = 59 := by omega
    exact hW ρ2 M2 hF p0 f0 c0
set_option maxRecDepth 20000 in
theorem e_readInto (h : TX M tl tc) (hs : SongP M 11) (hK : ∀ M2, FrR M M2 → M2.2.1 68 0 = (rd tl tc 59).p → M2.2.1 68 1 = flt (rd tl tc 59) → CRs M2 (rd tl tc 59) → K 0 M2) : m_X2_readInto [.inr (some 68), .inr (some 11), .inr (some 66)] K M := by
  have htl := h.2.2.2.2.1
  simp only [m_X2_readInto, mk0, B_ri, h.2.2.2.1, hs.1, iC, iL, iF, iA, iAc, iLen, iT, iAdd, iSub, iMul, iDiv, iRem, iNeg, iCh, iAnd31, iQ, iMax, iMin, iAbs, iCallS, iCallV, aN, aI, aR, rL, rF, rA, cEq, cNe, cLt, cGe, cGt, cLe, cAnd, cOr, cNot, cNull, sSkip, sSeq, sLoc, sLocR, sInc, sPut, sPutR, sPutAdd, sPutSub, sAst, sCst, sRst, sAstAdd, sAstSub, sIf1, sIf, sRet, sRetV, sCallV, sCallS, sPop, sCopy, sCopyT, sObj, sSw, ent_0, ent_1, ent_2, ent_3, ent_4, ent_5, ent_6, va_up_self, va_up_ne, ne_eq, Nat.reduceEqDiff, not_false_eq_true, not_true_eq_false, si_1, si_2, si_g, sr_1, sr_2, cp_1, cp_2, List.length_cons, List.length_nil, Nat.reduceAdd, true_and, and_true, and_self, eq_self, true_implies, forall_const, Bool.false_eq_true, false_implies, or_true, true_or, Option.some.injEq, Prod.mk.injEq, exists_eq_left', exists_eq', exists_and_left, reduceIte, Int.reduceEq, Int.reduceNe]
  refine e_clear hs ?_
  have F1 : FrR M (si M 11 5 0) := ⟨rfl, rfl, fun q i hq => by rw [si_g, if_neg (by omega)]⟩
  have x4 : (si M 11 5 0).1[68]? = some (2, 0) := h.2.2.2.1
  simp only [x4, ent_0, ent_1, ent_2, ent_3, ent_4, ent_5, ent_6, va_up_self, va_up_ne, ne_eq, Nat.reduceEqDiff, not_false_eq_true, not_true_eq_false, si_1, si_2, si_g, sr_1, sr_2, cp_1, cp_2, List.length_cons, List.length_nil, Nat.reduceAdd, true_and, and_true, and_self, eq_self, true_implies, forall_const, Bool.false_eq_true, false_implies, or_true, true_or, Option.some.injEq, Prod.mk.injEq, exists_eq_left', exists_eq', exists_and_left, reduceIte, Int.reduceEq, Int.reduceNe]
  have F3 : FrR M (si (si (si M 11 5 0) 68 0 0) 68 2 0) := (F1.tr (FrR.si _ 0 0)).tr (FrR.si _ 2 0)
  have h3 : TX (si (si (si M 11 5 0) 68 0 0) 68 2 0) tl tc := h.fr F3
  have e0 : (si (si (si M 11 5 0) 68 0 0) 68 2 0).2.1 68 0 = ((0 : Nat) : Int) := by rw [si_g, if_neg (by omega), si_g, if_pos ⟨rfl, rfl⟩]; rfl
  have e2 : (si (si (si M 11 5 0) 68 0 0) 68 2 0).2.1 68 2 = 0 := by rw [si_g, if_pos ⟨rfl, rfl⟩]
  have e5 : (si (si (si M 11 5 0) 68 0 0) 68 2 0).2.1 11 5 = ((0 : Nat) : Int) := by rw [si_g, if_neg (by omega), si_g, if_neg (by omega), si_g, if_pos ⟨rfl, rfl⟩]; rfl
  have cs : CS (si (si (si M 11 5 0) 68 0 0) 68 2 0) 11 0 (fun _ _ => 0) := ⟨SongP_fr hs rfl rfl, by decide, e5, fun i hi => absurd hi (Nat.not_lt_zero i)⟩
  have q1 : (si (si (si M 11 5 0) 68 0 0) 68 2 0).1 = M.1 := rfl
  generalize si (si (si M 11 5 0) 68 0 0) 68 2 0 = M3 at F3 h3 e0 e2 cs q1 ⊢
  have x0 : ∃ w, M.1[68]? = some (2, w) := ⟨0, h.2.2.2.1⟩
  refine ⟨x0, x0, x0, ?_⟩
  refine e_rdSyl (q := (0, 0, 0, (fun _ _ => 0), 0)) (p := 0) (f := 1) h3 ⟨fun _ => ⟨e2, cs⟩, fun ht => absurd ht (show ¬ ((600 : Int) < 0) by decide)⟩ (by omega) e0 (.inr rfl) (show 0 ≤ 15 by decide) (fun _ => ⟨VD_0 _, rfl⟩) (fun M4 F4 P4 _ C4 => ?_)
  have er : rst tl tc (0, 0, 0, (fun _ _ => 0), 0) 0 1 = rd tl tc 0 := rfl
  rw [er] at P4 C4 ⊢
  have F4' := F3.tr F4
  have x5 : M4.1[68]? = some (2, 0) := by rw [F4'.1]; exact h.2.2.2.1
  have fin : ∀ v, v = flt (rd tl tc 0) → riT (fun _ M2 => M2.1 = M.1 ∧ K 0 M2) (fun r M2 => M2.1 = M.1 ∧ K r M2) (ent [.inr (some 68), .inr (some 11), .inr (some 66)] 0 0) (si M4 68 1 v) := by
    intro v hv
    have F5 := F4'.tr (FrR.si M4 1 v)
    refine e_riT (h.fr F5) rfl rfl rfl (by rw [si_g, if_neg (by omega)]; exact P4) (by rw [si_g, if_pos ⟨rfl, rfl⟩]; exact hv) ⟨fun ht => ?_, fun ht => ?_⟩ (fun ρ2 M2 F6 P6 Q6 C6 => ⟨(F5.tr F6).1, hK M2 (F5.tr F6) P6 Q6 C6⟩)
    · obtain ⟨x1, x2⟩ := C4.1 ht
      exact ⟨by rw [si_g, if_neg (by omega)]; exact x1, x2.si68 (by decide)⟩
    · obtain ⟨x1, n2, D2, v2, x2⟩ := C4.2 ht
      exact ⟨by rw [si_g, if_neg (by omega)]; exact x1, n2, D2, v2, x2.si68 (by decide)⟩
  by_cases c : (rd tl tc 0).s = 0
  · rw [if_pos c, if_pos (by decide)]
    exact ⟨⟨0, x5⟩, fin 0 (if_pos c).symm⟩
  · rw [if_neg c, if_neg (by decide)]
    exact ⟨⟨0, x5⟩, fin 1 (if_neg c).symm⟩
end RD6
def readR (A : Ab) : Int × Ab := if (rd A.tl A.tc 59).s = 0 then (if (rd A.tl A.tc 59).T ≤ 600 then ((rd A.tl A.tc 59).n, setN (recA A) ((rd A.tl A.tc 59).n, (rd A.tl A.tc 59).D, A.now.st, A.now.sg)) else (-3, A)) else (-100 - ((rd A.tl A.tc 59).p : Nat), A)
