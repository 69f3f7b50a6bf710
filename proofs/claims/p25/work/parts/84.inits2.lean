theorem StR.fr {M M2 : Mm} {s : Nat} (h : StR M s) (h1 : ∀ q j, s ≤ q → q ≤ s + 8 → M2.2.2 q j = M.2.2 q j) : StR M2 s := ⟨⟨by rw [h1 _ _ (by omega) (by omega)]; exact h.1.1, by rw [h1 _ _ (by omega) (by omega)]; exact h.1.2.1, by rw [h1 _ _ (by omega) (by omega)]; exact h.1.2.2⟩, fun j hj => by rw [h1 _ _ (by omega) (by omega)]; exact h.2 j hj⟩
theorem StI.fr {M M2 : Mm} {s : Nat} (h : StI M s) (h1 : ∀ q j, s ≤ q → q ≤ s + 8 → M2.2.1 q j = M.2.1 q j) : StI M2 s := ⟨by rw [h1 _ _ (by omega) (by omega)]; exact h.1, fun j hj => by rw [h1 _ _ (by omega) (by omega)]; exact h.2.1 j hj, fun j hj => by rw [h1 _ _ (by omega) (by omega)]; exact h.2.2 j hj⟩
def stL : List (Nat × Nat) := (4, 0) :: al_X4_init
def repS : Nat → List (Nat × Nat)
  | 0 => []
  | j + 1 => repS j ++ stL
theorem repS_l : ∀ j, (repS j).length = 9 * j
  | 0 => rfl
  | j + 1 => by
    show (repS j ++ stL).length = _
    rw [List.length_append, repS_l j]
    show 9 * j + 9 = _
    omega
theorem stL_s : ssum stL = 814 := rfl
theorem repS_s : ∀ j, ssum (repS j) = 814 * j
  | 0 => rfl
  | j + 1 => by
    show ssum (repS j ++ stL) = _
    rw [ssum_app, repS_s j, stL_s]
    omega
section INI3
variable {K : Int → Mm → Prop} {M : Mm} {P : List (Nat × Nat)} {s : Nat} {W : En → Mm → Prop} {Rt : Int → Mm → Prop} {ρ : En}
theorem e_newSt {K : Option Nat → Mm → Prop} (hP : M.1 = P) (hs : P.length = s) (hb : s ≤ 800000) (hC : s + 9 ≤ limC ρ) (hS : ssum P + 814 ≤ limS ρ) (hK : ∀ M2, M2.1 = P ++ stL → StR M2 s → StI M2 s → (∀ q j, q < s ∨ s + 8 < q → M2.2.1 q j = M.2.1 q j ∧ M2.2.2 q j = M.2.2 q j) → K (some s) M2) : rNew 4 rm_X4_init.cells rm_X4_init.slots m_X4_init aN K ρ M := by
  subst hP
  subst hs
  refine ⟨⟨by omega, by rw [ssz_4]; omega, by omega⟩, ⟨?_, ?_⟩, e_X4_init (P := M.1) rfl rfl hb (fun M2 f1 f2 f3 f4 => hK M2 f1 f2 f3 f4)⟩
  · show (M.1 ++ [(4, 0)]).length + 8 ≤ _
    rw [List.length_append]
    show M.1.length + 1 + 8 ≤ _
    omega
  · show ssum (M.1 ++ [(4, 0)]) + 811 ≤ _
    rw [ssum_app]
    show ssum M.1 + 3 + 811 ≤ _
    omega
def ini0 : ST := (sWhile (cLt (iL 1) (iC 4)) (sSeq (sRst (rF 0 0 (rL 0)) (iL 1) (rNew 4 rm_X4_init.cells rm_X4_init.slots m_X4_init (aN))) (sInc 1 1)))
theorem B_ini0 : B_X0_init = sSeq (sObj (rL 0)) (sSeq (sSeq (sPutR 0 0 (rL 0) (rNewR (iC 4))) (sSeq (sPut false 0 1 (rL 0) (iC 0)) (sSeq (sLoc 1 (iC 0)) ini0))) sRetV) := rfl
set_option maxRecDepth 20000 in
theorem e_X0_init (hP : M.1 = P ++ [(0, 0)]) (hs : P.length = s) (hb : s ≤ 700000) (hK : ∀ M2, M2.1 = P ++ (0, 0) :: al_X0_init → M2.2.2 s 0 = some (s + 1) → M2.2.1 s 1 = 0 → (∀ i, i < 4 → M2.2.2 (s + 1) i = some (s + 2 + 9 * i) ∧ StR M2 (s + 2 + 9 * i) ∧ StI M2 (s + 2 + 9 * i)) → (∀ q j, q < s ∨ s + 37 < q → M2.2.1 q j = M.2.1 q j ∧ M2.2.2 q j = M.2.2 q j) → K 0 M2) : m_X0_init [.inr (some s)] K M := by
  have hl : (P ++ (0, 0) :: al_X0_init) = P ++ (0, 0) :: (22, 4) :: repS 4 := rfl
  have hl2 : ((P ++ [(0, 0)]) ++ al_X0_init) = P ++ (0, 0) :: (22, 4) :: repS 4 := by rw [← hl]; simp
  have hn : al_X0_init.length = 37 := rfl
  have hs2 : ssum al_X0_init = 3260 := rfl
  rw [hl] at hK
  simp only [m_X0_init, mkM, B_ini0, e_newR (z := 4) (c := 4) rfl (by decide), hP, hs, hl2, hn, hs2, at_0 hs, List.getElem?_cons_zero, capOK, limC_ent1, limS_ent1, limC_upI, limS_upI, Int.toNat_natCast, ssum_app, ssum_c, ssum_n, ssz_0, ssz_1, ssz_2, ssz_3, ssz_4, ssz_5, ssz_6, ssz_7, ssz_20, ssz_21, ssz_22, pu_1, pu_2, List.append_assoc, List.cons_append, List.nil_append, List.length_append, and_assoc, iC, iL, iF, iA, iAc, iLen, iT, iAdd, iSub, iMul, iDiv, iRem, iNeg, iCh, iAnd31, iQ, iMax, iMin, iAbs, iCallS, iCallV, aN, aI, aR, rL, rF, rA, cEq, cNe, cLt, cGe, cGt, cLe, cAnd, cOr, cNot, cNull, sSkip, sSeq, sLoc, sLocR, sInc, sPut, sPutR, sPutAdd, sPutSub, sAst, sCst, sRst, sAstAdd, sAstSub, sIf1, sIf, sRet, sRetV, sCallV, sCallS, sPop, sCopy, sCopyT, sObj, sSw, iAddW, iMulW, iAndM, iShr, cQ, ent_0, ent_1, ent_2, ent_3, ent_4, ent_5, ent_6, va_up_self, va_up_ne, ne_eq, Nat.reduceEqDiff, not_false_eq_true, not_true_eq_false, si_1, si_2, si_g, sr_1, sr_2, cp_1, cp_2, List.length_cons, List.length_nil, Nat.reduceAdd, true_and, and_true, and_self, eq_self, true_implies, forall_const, Bool.false_eq_true, false_implies, or_true, true_or, Option.some.injEq, Prod.mk.injEq, exists_eq_left', exists_eq', exists_and_left, reduceIte, Int.reduceEq, Int.reduceNe]
  refine ⟨by omega, by omega, by omega, by omega, ?_⟩
  simp only [ini0]
  refine while_n (n := 4) (fun r ρ M2 => ∃ j : Nat, j + r = 4 ∧ ρ 0 = .inr (some s) ∧ ρ 1 = .inl (j : Int) ∧ limC ρ = s + 38 ∧ limS ρ = ssum P + 3262 ∧ M2.1 = P ++ (0, 0) :: (22, 4) :: repS j ∧ M2.2.2 s 0 = some (s + 1) ∧ M2.2.1 s 1 = 0 ∧ (∀ i, i < j → M2.2.2 (s + 1) i = some (s + 2 + 9 * i) ∧ StR M2 (s + 2 + 9 * i) ∧ StI M2 (s + 2 + 9 * i)) ∧ (∀ q j, q < s ∨ s + 37 < q → M2.2.1 q j = M.2.1 q j ∧ M2.2.2 q j = M.2.2 q j)) ?_ ⟨0, rfl, rfl, rfl, ?_, ?_, ?_, ?_, s_self _ _ _ _, fun i hi => absurd hi (Nat.not_lt_zero i), fun q j hq => ⟨?_, ?_⟩⟩
  · rintro r W hW ρ M2 ⟨j, hr, g0, g1, hC, hS, q1, q2, q3, q4, q5⟩
    have z0 : M2.1[s]? = some (0, 0) := by rw [q1]; exact at_0 hs _
    simp only [g0, g1, z0, q2, iC, iL, iF, iA, iAc, iLen, iT, iAdd, iSub, iMul, iDiv, iRem, iNeg, iCh, iAnd31, iQ, iMax, iMin, iAbs, iCallS, iCallV, aN, aI, aR, rL, rF, rA, cEq, cNe, cLt, cGe, cGt, cLe, cAnd, cOr, cNot, cNull, sSkip, sSeq, sLoc, sLocR, sInc, sPut, sPutR, sPutAdd, sPutSub, sAst, sCst, sRst, sAstAdd, sAstSub, sIf1, sIf, sRet, sRetV, sCallV, sCallS, sPop, sCopy, sCopyT, sObj, sSw, iAddW, iMulW, iAndM, iShr, cQ, ent_0, ent_1, ent_2, ent_3, ent_4, ent_5, ent_6, va_up_self, va_up_ne, ne_eq, Nat.reduceEqDiff, not_false_eq_true, not_true_eq_false, si_1, si_2, si_g, sr_1, sr_2, cp_1, cp_2, List.length_cons, List.length_nil, Nat.reduceAdd, true_and, and_true, and_self, eq_self, true_implies, forall_const, Bool.false_eq_true, false_implies, or_true, true_or, Option.some.injEq, Prod.mk.injEq, exists_eq_left', exists_eq', exists_and_left, reduceIte, Int.reduceEq, Int.reduceNe]
    by_cases hj : j < 4
    · rw [if_pos (by omega)]
      have hlen : (P ++ (0, 0) :: (22, 4) :: repS j).length = s + 2 + 9 * j := by
        rw [List.length_append, hs]
        show s + ((repS j).length + 1 + 1) = _
        rw [repS_l]
        omega
      have hsum : ssum (P ++ (0, 0) :: (22, 4) :: repS j) = ssum P + 6 + 814 * j := by
        rw [ssum_app]
        show ssum P + (2 + (4 + ssum (repS j))) = _
        rw [repS_s]
        omega
      refine e_newSt q1 hlen (by omega) (by omega) (by omega) (fun M3 f1 f2 f3 f4 => ?_)
      have f5 : M3.1 = P ++ (0, 0) :: (22, 4) :: repS (j + 1) := by
        rw [f1]
        show _ = P ++ (0, 0) :: (22, 4) :: (repS j ++ stL)
        simp
      have y1 : M3.1[s + 1]? = some (22, 4) := by rw [f5]; exact at_i hs _ 1
      have y2 : M3.1[s + 2 + 9 * j]? = some (4, 0) := by rw [f1]; exact at_0 hlen _
      refine ⟨4, y1, 0, y2, by omega, by omega, inR_s (by omega) (by omega), hW _ _ (by omega) ⟨j + 1, by omega, by simp [va_up, g0], by simp [va_up], ?_, ?_, f5, ?_, ?_, fun i hi => ?_, fun q i hq => ⟨?_, ?_⟩⟩⟩
      · rw [limC_upI, if_neg (by decide)]; exact hC
      · rw [limS_upI, if_neg (by decide)]; exact hS
      · rw [sr_g, if_neg (by omega), (f4 _ _ (by omega)).2]; exact q2
      · rw [sr_2, (f4 _ _ (by omega)).1]; exact q3
      · rw [Int.toNat_natCast]
        by_cases e : i = j
        · subst e
          refine ⟨by rw [sr_g, if_pos ⟨rfl, rfl⟩], f2.fr (fun q2 k2 h1 h2 => ?_), f3.fr (fun q2 k2 h1 h2 => rfl)⟩
          rw [sr_g, if_neg (by omega)]
        · obtain ⟨x1, x2, x3⟩ := q4 i (by omega)
          refine ⟨?_, x2.fr (fun q2 k2 h1 h2 => ?_), x3.fr (fun q2 k2 h1 h2 => ?_)⟩
          · rw [sr_g, if_neg (by omega), (f4 _ _ (by omega)).2]; exact x1
          · rw [sr_g, if_neg (by omega), (f4 _ _ (by omega)).2]
          · rw [sr_2, (f4 _ _ (by omega)).1]
      · rw [sr_2, (f4 _ _ (by omega)).1]; exact (q5 q i hq).1
      · rw [sr_g, if_neg (by omega), (f4 _ _ (by omega)).2]; exact (q5 q i hq).2
    · rw [if_neg (by omega)]
      obtain rfl : j = 4 := by omega
      exact ⟨q1, hK M2 q1 q2 q3 q4 q5⟩
  · rw [limC_upI, if_neg (by decide), limC_ent1]; omega
  · rw [limS_upI, if_neg (by decide), limS_ent1]; omega
  · show M.1 ++ [(22, 4)] = _
    rw [hP]
    simp [repS]
  · rw [si_2, sr_g, if_pos ⟨rfl, rfl⟩]
  · rw [si_g, if_neg (by omega)]; rfl
  · rw [si_2, sr_g, if_neg (by omega)]; rfl
end INI3
