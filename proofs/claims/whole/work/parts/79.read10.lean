def txD : ST := (sSeq (sLoc 2 (iQ (cNe (iCallV 7 m_X7_takes (rL 0) (aI (iC 47) (aN))) (iC 0)) (iC 1) (iC 0))) (sLoc 3 (iQ (cAnd (cOr (cEq (iL 2) (iC 1)) (cNe (iCallV 7 m_X7_takes (rL 0) (aI (iC 44) (aN))) (iC 0))) (cNe (iCallV 7 m_X7_readSyllable (rL 0) (aN)) (iC 0))) (iC 1) (iC 0))))
def txC : ST := (sSeq (sIf1 (cEq (iF 7 13 (rL 0)) (iF 7 6 (rL 0))) (sRet true (iC 1))) (sSeq (sLoc 2 (iQ (cNe (iCallV 7 m_X7_takes (rL 0) (aI (iC 47) (aN))) (iC 0)) (iC 1) (iC 0))) (sLoc 3 (iQ (cAnd (cOr (cEq (iL 2) (iC 1)) (cNe (iCallV 7 m_X7_takes (rL 0) (aI (iC 44) (aN))) (iC 0))) (cNe (iCallV 7 m_X7_readSyllable (rL 0) (aN)) (iC 0))) (iC 1) (iC 0)))))
def txB : ST := (sSeq (sIf1 (cNe (iL 1) (iC 0)) (sPop (iCallV 7 m_X7_doAdd (rL 0) (aI (iA (rF 7 14 (rL 0)) (iC 0)) (aI (iA (rF 7 14 (rL 0)) (iC 1)) (aI (iA (rF 7 14 (rL 0)) (iC 2)) (aI (iA (rF 7 14 (rL 0)) (iC 3)) (aI (iL 2) (aN))))))))) (sSeq (sIf1 (cEq (iF 7 13 (rL 0)) (iF 7 6 (rL 0))) (sRet true (iC 1))) (sSeq (sLoc 2 (iQ (cNe (iCallV 7 m_X7_takes (rL 0) (aI (iC 47) (aN))) (iC 0)) (iC 1) (iC 0))) (sLoc 3 (iQ (cAnd (cOr (cEq (iL 2) (iC 1)) (cNe (iCallV 7 m_X7_takes (rL 0) (aI (iC 44) (aN))) (iC 0))) (cNe (iCallV 7 m_X7_readSyllable (rL 0) (aN)) (iC 0))) (iC 1) (iC 0))))))
def txA : ST := (sSeq (sPutAdd 7 15 (rL 0) (iAdd (iA (rF 7 14 (rL 0)) (iC 0)) (iA (rF 7 14 (rL 0)) (iC 3)))) (sSeq (sIf1 (cNe (iL 1) (iC 0)) (sPop (iCallV 7 m_X7_doAdd (rL 0) (aI (iA (rF 7 14 (rL 0)) (iC 0)) (aI (iA (rF 7 14 (rL 0)) (iC 1)) (aI (iA (rF 7 14 (rL 0)) (iC 2)) (aI (iA (rF 7 14 (rL 0)) (iC 3)) (aI (iL 2) (aN))))))))) (sSeq (sIf1 (cEq (iF 7 13 (rL 0)) (iF 7 6 (rL 0))) (sRet true (iC 1))) (sSeq (sLoc 2 (iQ (cNe (iCallV 7 m_X7_takes (rL 0) (aI (iC 47) (aN))) (iC 0)) (iC 1) (iC 0))) (sLoc 3 (iQ (cAnd (cOr (cEq (iL 2) (iC 1)) (cNe (iCallV 7 m_X7_takes (rL 0) (aI (iC 44) (aN))) (iC 0))) (cNe (iCallV 7 m_X7_readSyllable (rL 0) (aN)) (iC 0))) (iC 1) (iC 0)))))))
theorem txA_e : txA = sSeq (sPutAdd 7 15 (rL 0) (iAdd (iA (rF 7 14 (rL 0)) (iC 0)) (iA (rF 7 14 (rL 0)) (iC 3)))) txB := rfl
theorem txB_e : txB = sSeq (sIf1 (cNe (iL 1) (iC 0)) (sPop (iCallV 7 m_X7_doAdd (rL 0) (aI (iA (rF 7 14 (rL 0)) (iC 0)) (aI (iA (rF 7 14 (rL 0)) (iC 1)) (aI (iA (rF 7 14 (rL 0)) (iC 2)) (aI (iA (rF 7 14 (rL 0)) (iC 3)) (aI (iL 2) (aN))))))))) txC := rfl
theorem txC_e : txC = sSeq (sIf1 (cEq (iF 7 13 (rL 0)) (iF 7 6 (rL 0))) (sRet true (iC 1))) txD := rfl
def txW : ST := sSeq (sWhile (cNe (iL 3) (iC 0)) txA) (sRet true (iC 0))
theorem B_tx : B_X7_readText = sSeq (sPut false 7 13 (rL 0) (iC 0)) (sSeq (sPut false 7 15 (rL 0) (iC 0)) (sSeq (sLoc 2 (iC 1)) (sSeq (sLoc 3 (iCallV 7 m_X7_readSyllable (rL 0) (aN))) txW))) := rfl
def FrT (M M2 : Mm) : Prop := M2.1 = M.1 ∧ M2.2.2 = M.2.2 ∧ ∀ q j, ¬ (q = 80 ∧ (j = 13 ∨ j = 15)) → q ≠ 91 → q ≠ 81 → M2.2.1 q j = M.2.1 q j
theorem FrT.tm {M M2 : Mm} {tl : Nat} {tc : Nat → Int} (h : FrT M M2) (ht : TM M tl tc) : TM M2 tl tc := by
  refine ⟨MdP_fr ht.1 h.1 h.2.1, ht.2.1, ?_, fun i hi => ?_⟩
  · rw [h.2.2 _ _ (by decide) (by decide) (by decide)]; exact ht.2.2.1
  · rw [h.2.2 _ _ (by omega) (by decide) (by decide)]; exact ht.2.2.2 i hi
theorem FrT.tr {M M2 M3 : Mm} (h : FrT M M2) (h2 : FrT M2 M3) : FrT M M3 := ⟨by rw [h2.1, h.1], by rw [h2.2.1, h.2.1], fun q j a b c => (h2.2.2 q j a b c).trans (h.2.2 q j a b c)⟩
theorem FrY.t {M M2 : Mm} (h : FrY M M2) : FrT M M2 := ⟨h.1, h.2.1, fun q j a b _ => h.2.2 q j (fun e => a ⟨e.1, .inl e.2⟩) b⟩
def RWd (M : Mm) (d : Int) (S : Sg) (n : Nat) (D : Nat → Nat → Int) : Prop := (d = 0 → RW M 81 0 S) ∧ (d = 1 → RW M 81 0 (n, D, S.st, S.sg))
theorem RWd.fr {M M2 : Mm} {d : Int} {S : Sg} {n : Nat} {D : Nat → Nat → Int} (h : RWd M d S n D) (h1 : ∀ j, M2.2.1 81 j = M.2.1 81 j) : RWd M2 d S n D := ⟨fun e => (h.1 e).fr h1, fun e => (h.2 e).fr h1⟩
theorem sy_01 (tl : Nat) (tc : Nat → Int) (p : Nat) : (sy tl tc p).1 = 0 ∨ (sy tl tc p).1 = 1 := by
  unfold sy
  (repeat' split) <;> first | exact .inl rfl | exact .inr rfl
theorem rst_T (tl : Nat) (tc : Nat → Int) (q : RS) (p : Nat) (f : Int) : q.T ≤ (rst tl tc q p f).T := by
  unfold rst
  by_cases c : (sy tl tc p).1 = 1
  · rw [if_pos c]
    have := sy_b c
    show q.T ≤ q.T + (sy0 tl tc p).1 + (sy3 tl tc p).1
    omega
  · rw [if_neg c]
    exact Int.le_refl _
theorem rd_T (tl : Nat) (tc : Nat → Int) (k : Nat) : ∀ j, (rd tl tc k).T ≤ (rd tl tc (k + j)).T
  | 0 => Int.le_refl _
  | j + 1 => by
    refine Int.le_trans (rd_T tl tc k j) ?_
    show (rd tl tc (k + j)).T ≤ (rdn tl tc (rd tl tc (k + j))).T
    generalize rd tl tc (k + j) = q
    unfold rdn
    (repeat' split) <;> first | exact rst_T _ _ _ _ _ | exact Int.le_refl _
section RD10
variable {K : Int → Mm → Prop} {M : Mm} {tl : Nat} {tc : Nat → Int} {W : En → Mm → Prop} {Rt : Int → Mm → Prop} {ρ : En}
set_option maxRecDepth 20000 in
theorem e_txD {P : Nat} (h : TM M tl tc) (hp : M.2.1 80 13 = P) (hP : P ≤ 200) (hlt : P < tl) (g0 : ρ 0 = .inr (some 80))
    (hy : ∀ (f : Int) (M2 : Mm), (tc P = 47 ∧ f = 1) ∨ (tc P = 44 ∧ f = 0) → FrY M M2 → M2.2.1 80 13 = ((sy tl tc (P + 1)).2 : Nat) → ((sy tl tc (P + 1)).1 = 1 → tld M2 tl tc (P + 1)) → W (va_up (va_up ρ 2 (.inl f)) 3 (.inl (sy tl tc (P + 1)).1)) M2)
    (hno : tc P ≠ 47 → tc P ≠ 44 → W (va_up (va_up ρ 2 (.inl 0)) 3 (.inl 0)) M) : txD W Rt ρ M := by
  have m0 := h.1.1
  have syl : ∀ (f : Int), (tc P = 47 ∧ f = 1) ∨ (tc P = 44 ∧ f = 0) → m_X7_readSyllable [.inr (some 80)] (fun x M2 => if x ≠ 0 then W (va_up (va_up ρ 2 (.inl f)) 3 (.inl 1)) M2 else W (va_up (va_up ρ 2 (.inl f)) 3 (.inl 0)) M2) (si M 80 13 ((P + 1 : Nat) : Int)) := by
    intro f hf
    refine e_readSyl7 (p := P + 1) h.si13 (s13 M _) (by omega) (fun M2 f2 p2 t2 => ?_)
    have := hy f M2 hf ⟨f2.1, f2.2.1, fun q j a b => (f2.2.2 q j a b).trans (by rw [si_g, if_neg a])⟩ p2 t2
    rcases sy_01 tl tc (P + 1) with e | e
    · rw [e] at this ⊢
      rw [if_neg (by decide)]
      exact this
    · rw [e] at this ⊢
      rw [if_pos (by decide)]
      exact this
  simp only [txD, g0, m0, iC, iL, iF, iA, iAc, iLen, iT, iAdd, iSub, iMul, iDiv, iRem, iNeg, iCh, iAnd31, iQ, iMax, iMin, iAbs, iCallS, iCallV, aN, aI, aR, rL, rF, rA, cEq, cNe, cLt, cGe, cGt, cLe, cAnd, cOr, cNot, cNull, sSkip, sSeq, sLoc, sLocR, sInc, sPut, sPutR, sPutAdd, sPutSub, sAst, sCst, sRst, sAstAdd, sAstSub, sIf1, sIf, sRet, sRetV, sCallV, sCallS, sPop, sCopy, sCopyT, sObj, sSw, ent_0, ent_1, ent_2, ent_3, ent_4, ent_5, ent_6, va_up_self, va_up_ne, ne_eq, Nat.reduceEqDiff, not_false_eq_true, not_true_eq_false, si_1, si_2, si_g, sr_1, sr_2, cp_1, cp_2, List.length_cons, List.length_nil, Nat.reduceAdd, true_and, and_true, and_self, eq_self, true_implies, forall_const, Bool.false_eq_true, false_implies, or_true, true_or, Option.some.injEq, Prod.mk.injEq, exists_eq_left', exists_eq', exists_and_left, reduceIte, Int.reduceEq, Int.reduceNe]
  refine e_takes h hp (by omega) ?_
  by_cases c : tc P = 47
  · have c2 : P < tl ∧ tc P = 47 := ⟨hlt, c⟩
    rw [if_pos c2, if_pos c2, if_pos (by decide)]
    exact ⟨⟨0, m0⟩, syl 1 (.inl ⟨c, rfl⟩)⟩
  · have c2 : ¬ (P < tl ∧ tc P = 47) := fun x => c x.2
    rw [if_neg c2, if_neg c2, if_neg (by decide), si_self hp]
    refine ⟨⟨0, m0⟩, e_takes h hp (by omega) ?_⟩
    by_cases c3 : tc P = 44
    · have c4 : P < tl ∧ tc P = 44 := ⟨hlt, c3⟩
      rw [if_pos c4, if_pos c4, if_pos (by decide)]
      exact ⟨⟨0, m0⟩, syl 0 (.inr ⟨c3, rfl⟩)⟩
    · have c4 : ¬ (P < tl ∧ tc P = 44) := fun x => c3 x.2
      rw [if_neg c4, if_neg c4, if_neg (by decide), si_self hp]
      exact hno c c3
/-- a state of the loop in which a syllable has just been read -/
def GoB (M : Mm) (d : Int) (S : Sg) (tl : Nat) (tc : Nat → Int) (k : Nat) (q0 : RS) (p : Nat) (f : Int) : Prop := (f = 0 ∨ f = 1) ∧ (sy tl tc p).1 = 1 ∧ rd tl tc k = rst tl tc q0 p f ∧ M.2.1 80 13 = ((sy tl tc p).2 : Nat) ∧ tld M tl tc p ∧ M.2.1 80 15 = q0.T ∧ (0 ≤ q0.T ∧ q0.T ≤ 64 * (k : Int)) ∧ q0.n ≤ 15 ∧ (q0.T ≤ 600 → VD q0.n q0.D ∧ tk q0.n q0.D = q0.T) ∧ RWd M d S q0.n q0.D
/-- one in which it is counted -/
def GoC (M : Mm) (d : Int) (S : Sg) (tl : Nat) (tc : Nat → Int) (k : Nat) : Prop := (rd tl tc k).s = 0 ∧ M.2.1 80 13 = ((rd tl tc k).p : Nat) ∧ M.2.1 80 15 = (rd tl tc k).T ∧ ((rd tl tc k).T ≤ 64 * (k : Int) + 64) ∧ RWd M d S (rd tl tc k).n (rd tl tc k).D
set_option maxRecDepth 20000 in
theorem e_txA {d : Int} {S : Sg} {k p : Nat} {q0 : RS} {f : Int} (h : TM M tl tc) (hk : k ≤ 60) (hd : d = 0 ∨ d = 1) (hd1 : d = 1 → (rd tl tc k).T ≤ 600) (g0 : ρ 0 = .inr (some 80)) (g1 : ρ 1 = .inl d) (g2 : ρ 2 = .inl f) (hB : GoB M d S tl tc k q0 p f) (hK : ∀ M2, FrT M M2 → GoC M2 d S tl tc k → txC W Rt ρ M2) : txA W Rt ρ M := by
  obtain ⟨m0, mA, mR⟩ := h.1
  obtain ⟨hf, s1, e1, p1, ⟨t0, t1, t2, t3⟩, u1, uT, un, uV, hR⟩ := hB
  obtain ⟨b0, b1, b2, b3, b4, b5, b6⟩ := sy_b s1
  have e2 : rd tl tc k = (0, (sy tl tc p).2, q0.n + 1, addD q0.n q0.D (q0.T + (sy0 tl tc p).1) (sy3 tl tc p).1 (sy1 tl tc p).1 (sy2 tl tc p).1 (if q0.n = 0 then 1 else f), q0.T + (sy0 tl tc p).1 + (sy3 tl tc p).1) := by
    rw [e1]
    exact if_pos s1
  have r1 : inR ((sy0 tl tc p).1 + (sy3 tl tc p).1) := inR_s (by omega) (by omega)
  have r2 : inR (q0.T + ((sy0 tl tc p).1 + (sy3 tl tc p).1)) := inR_s (by omega) (by omega)
  have i0 : Int.toNat 0 = 0 := rfl
  have i1 : Int.toNat 1 = 1 := rfl
  have i2 : Int.toNat 2 = 2 := rfl
  have i3 : Int.toNat 3 = 3 := rfl
  simp only [txA_e, txB_e, g0, g1, g2, m0, mA, mR, u1, i0, i1, i2, i3, t0, t1, t2, t3, r1, r2, Int.reduceLE, iC, iL, iF, iA, iAc, iLen, iT, iAdd, iSub, iMul, iDiv, iRem, iNeg, iCh, iAnd31, iQ, iMax, iMin, iAbs, iCallS, iCallV, aN, aI, aR, rL, rF, rA, cEq, cNe, cLt, cGe, cGt, cLe, cAnd, cOr, cNot, cNull, sSkip, sSeq, sLoc, sLocR, sInc, sPut, sPutR, sPutAdd, sPutSub, sAst, sCst, sRst, sAstAdd, sAstSub, sIf1, sIf, sRet, sRetV, sCallV, sCallS, sPop, sCopy, sCopyT, sObj, sSw, ent_0, ent_1, ent_2, ent_3, ent_4, ent_5, ent_6, va_up_self, va_up_ne, ne_eq, Nat.reduceEqDiff, not_false_eq_true, not_true_eq_false, si_1, si_2, si_g, sr_1, sr_2, cp_1, cp_2, List.length_cons, List.length_nil, Nat.reduceAdd, true_and, and_true, and_self, eq_self, true_implies, forall_const, Bool.false_eq_true, false_implies, or_true, true_or, Option.some.injEq, Prod.mk.injEq, exists_eq_left', exists_eq', exists_and_left, reduceIte, Int.reduceEq, Int.reduceNe]
  have eT : (rd tl tc k).T = q0.T + ((sy0 tl tc p).1 + (sy3 tl tc p).1) := by
    rw [e2]
    exact Int.add_assoc _ _ _
  have eP : (rd tl tc k).p = (sy tl tc p).2 := by rw [e2]; rfl
  have eS : (rd tl tc k).s = 0 := by rw [e2]; rfl
  have q15 : (si M 80 15 (q0.T + ((sy0 tl tc p).1 + (sy3 tl tc p).1))).2.1 80 15 = (rd tl tc k).T := by rw [eT]; exact s_self _ _ _ _
  have q13 : (si M 80 15 (q0.T + ((sy0 tl tc p).1 + (sy3 tl tc p).1))).2.1 80 13 = ((rd tl tc k).p : Nat) := by rw [eP, si_g, if_neg (by decide)]; exact p1
  have fr : FrT M (si M 80 15 (q0.T + ((sy0 tl tc p).1 + (sy3 tl tc p).1))) := ⟨rfl, rfl, fun q j h1 _ _ => by rw [si_g, if_neg (fun e => h1 ⟨e.1, .inr e.2⟩)]⟩
  have o81 : ∀ j, (si M 80 15 (q0.T + ((sy0 tl tc p).1 + (sy3 tl tc p).1))).2.1 81 j = M.2.1 81 j := fun j => by rw [si_g, if_neg (by omega)]
  refine ⟨by decide, by decide, ?_⟩
  generalize si M 80 15 (q0.T + ((sy0 tl tc p).1 + (sy3 tl tc p).1)) = M3 at q15 q13 fr o81 ⊢
  rcases hd with rfl | rfl
  · rw [if_neg (by decide)]
    exact hK _ fr ⟨eS, q13, q15, by omega, fun e => (hR.1 e).fr o81, fun e => absurd e (by decide)⟩
  · have hT := hd1 rfl
    obtain ⟨v1, v2⟩ := uV (by omega)
    have hr : RW M3 81 0 (q0.n, q0.D, S.st, S.sg) := (hR.2 rfl).fr o81
    obtain ⟨hm, _⟩ : MR M3 q0.n q0.D S.st ∧ MG M3 S.sg := hr.o0 (fr.tm h).1
    rw [if_pos (by decide)]
    refine ⟨by decide, by decide, by decide, by decide, e_doAdd hm v1 (by omega) b0 ?_⟩
    refine hK _ (fr.tr ⟨dA_1 _ _ _ _ _ _ _, dA_2 _ _ _ _ _ _ _, fun q j _ _ h3 => dA_o (.inl h3)⟩) ⟨eS, by rw [dA_o (by omega)]; exact q13, by rw [dA_o (by omega)]; exact q15, by omega, fun e => absurd e (by decide), fun _ => ?_⟩
    have : RW (dA M3 q0.n (tk q0.n q0.D + (sy0 tl tc p).1) (sy3 tl tc p).1 (sy1 tl tc p).1 (sy2 tl tc p).1 (if q0.n = 0 then 1 else f)) 81 0 (q0.n + 1, addD q0.n q0.D (tk q0.n q0.D + (sy0 tl tc p).1) (sy3 tl tc p).1 (sy1 tl tc p).1 (sy2 tl tc p).1 (if q0.n = 0 then 1 else f), S.st, S.sg) := RW_dA (b := tk q0.n q0.D + (sy0 tl tc p).1) (l := (sy3 tl tc p).1) (a := (sy1 tl tc p).1) (e := (sy2 tl tc p).1) (f := if q0.n = 0 then 1 else f) hr (show q0.n < 40 by omega)
    rw [v2] at this ⊢
    rw [e2]
    exact this
end RD10
