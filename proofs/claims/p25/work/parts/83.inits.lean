theorem s_self (M : Mm) (q k : Nat) (x : Int) : (si M q k x).2.1 q k = x := by rw [si_g, if_pos ⟨rfl, rfl⟩]
theorem e_newI {z : Int} {c : Nat} (hz : z = c) (hc : c ≤ 100000000) (K : Option Nat → Mm → Prop) (ρ : En) (M : Mm) : rNewI (iC z) K ρ M ↔ capOK ρ M (20, c) ∧ K (some M.1.length) (pu M (20, c)) := by
  subst hz
  constructor
  · rintro ⟨n, e, _, h1, h2⟩
    have : n = c := by omega
    subst this
    exact ⟨h1, h2⟩
  · rintro ⟨h1, h2⟩
    exact ⟨c, rfl, hc, h1, h2⟩
theorem e_newC {z : Int} {c : Nat} (hz : z = c) (hc : c ≤ 100000000) (K : Option Nat → Mm → Prop) (ρ : En) (M : Mm) : rNewC (iC z) K ρ M ↔ capOK ρ M (21, c) ∧ K (some M.1.length) (pu M (21, c)) := by
  subst hz
  constructor
  · rintro ⟨n, e, _, h1, h2⟩
    have : n = c := by omega
    subst this
    exact ⟨h1, h2⟩
  · rintro ⟨h1, h2⟩
    exact ⟨c, rfl, hc, h1, h2⟩
theorem e_newR {z : Int} {c : Nat} (hz : z = c) (hc : c ≤ 100000000) (K : Option Nat → Mm → Prop) (ρ : En) (M : Mm) : rNewR (iC z) K ρ M ↔ capOK ρ M (22, c) ∧ K (some M.1.length) (pu M (22, c)) := by
  subst hz
  constructor
  · rintro ⟨n, e, _, h1, h2⟩
    have : n = c := by omega
    subst this
    exact ⟨h1, h2⟩
  · rintro ⟨h1, h2⟩
    exact ⟨c, rfl, hc, h1, h2⟩
theorem at_i {P : List (Nat × Nat)} {s : Nat} (h : P.length = s) (l : List (Nat × Nat)) (i : Nat) : (P ++ l)[s + i]? = l[i]? := by
  subst h
  rw [List.getElem?_append_right (Nat.le_add_right _ _), Nat.add_sub_cancel_left]
theorem at_0 {P : List (Nat × Nat)} {s : Nat} (h : P.length = s) (l : List (Nat × Nat)) : (P ++ l)[s]? = l[0]? := at_i h l 0
theorem ssum_c (w : Nat × Nat) (l : List (Nat × Nat)) : ssum (w :: l) = ssz w + ssum l := rfl
theorem ssum_n : ssum [] = 0 := rfl
theorem ssz_0 : ssz (0, 0) = 2 := rfl
theorem ssz_1 : ssz (1, 0) = 12 := rfl
theorem ssz_2 : ssz (2, 0) = 3 := rfl
theorem ssz_3 : ssz (3, 0) = 6 := rfl
theorem ssz_4 : ssz (4, 0) = 3 := rfl
theorem ssz_5 : ssz (5, 0) = 2 := rfl
theorem ssz_6 : ssz (6, 0) = 8 := rfl
theorem ssz_7 : ssz (7, 0) = 16 := rfl
theorem ssz_20 (n : Nat) : ssz (20, n) = n := rfl
theorem ssz_21 (n : Nat) : ssz (21, n) = n := rfl
theorem ssz_22 (n : Nat) : ssz (22, n) = n := rfl
theorem pu_1 (M : Mm) (w : Nat × Nat) : (pu M w).1 = M.1 ++ [w] := rfl
theorem pu_2 (M : Mm) (w : Nat × Nat) : (pu M w).2 = M.2 := rfl
theorem limC_ent1 (a : Vv) (x y : Int) : limC (ent [a] x y) = x.toNat := rfl
theorem limS_ent1 (a : Vv) (x y : Int) : limS (ent [a] x y) = y.toNat := rfl
theorem limC_upI (ρ : En) (i : Nat) (v : Vv) : limC (va_up ρ i v) = if i = 1000 then limC (va_up ρ 1000 v) else limC ρ := by
  by_cases h : i = 1000
  · subst h; rw [if_pos rfl]
  · rw [if_neg h]
    unfold limC va_up
    rw [if_neg (Ne.symm h)]
theorem limS_upI (ρ : En) (i : Nat) (v : Vv) : limS (va_up ρ i v) = if i = 1001 then limS (va_up ρ 1001 v) else limS ρ := by
  by_cases h : i = 1001
  · subst h; rw [if_pos rfl]
  · rw [if_neg h]
    unfold limS va_up
    rw [if_neg (Ne.symm h)]
theorem sr_g (M : Mm) (q k : Nat) (r : Option Nat) (a b : Nat) : (sr M q k r).2.2 a b = if a = q ∧ b = k then r else M.2.2 a b := rfl
theorem lt5 {j : Nat} (h : j < 5) : j = 0 ∨ j = 1 ∨ j = 2 ∨ j = 3 ∨ j = 4 := by omega
section INI
variable {K : Int → Mm → Prop} {M : Mm} {P : List (Nat × Nat)} {k : Nat}
set_option maxRecDepth 20000 in
theorem e_X3_init (hP : M.1 = P ++ [(3, 0)]) (hk : P.length = k) (hb : k ≤ 900000) (hK : ∀ M2, M2.1 = P ++ (3, 0) :: al_X3_init → (∀ j, j < 5 → M2.2.2 k j = some (k + 1 + j)) → M2.2.1 k 5 = 0 → (∀ q j, q ≠ k → M2.2.1 q j = M.2.1 q j ∧ M2.2.2 q j = M.2.2 q j) → K 0 M2) : m_X3_init [.inr (some k)] K M := by
  simp only [m_X3_init, mkM, B_X3_init, al_X3_init, e_newI (z := 40) (c := 40) rfl (by decide), hP, hk, at_0 hk, List.getElem?_cons_zero, capOK, limC_ent1, limS_ent1, limC_upI, limS_upI, Int.toNat_natCast, ssum_app, ssum_c, ssum_n, ssz_0, ssz_1, ssz_2, ssz_3, ssz_4, ssz_5, ssz_6, ssz_7, ssz_20, ssz_21, ssz_22, pu_1, pu_2, List.append_assoc, List.cons_append, List.nil_append, List.length_append, and_assoc, iC, iL, iF, iA, iAc, iLen, iT, iAdd, iSub, iMul, iDiv, iRem, iNeg, iCh, iAnd31, iQ, iMax, iMin, iAbs, iCallS, iCallV, aN, aI, aR, rL, rF, rA, cEq, cNe, cLt, cGe, cGt, cLe, cAnd, cOr, cNot, cNull, sSkip, sSeq, sLoc, sLocR, sInc, sPut, sPutR, sPutAdd, sPutSub, sAst, sCst, sRst, sAstAdd, sAstSub, sIf1, sIf, sRet, sRetV, sCallV, sCallS, sPop, sCopy, sCopyT, sObj, sSw, iAddW, iMulW, iAndM, iShr, cQ, ent_0, ent_1, ent_2, ent_3, ent_4, ent_5, ent_6, va_up_self, va_up_ne, ne_eq, Nat.reduceEqDiff, not_false_eq_true, not_true_eq_false, si_1, si_2, si_g, sr_1, sr_2, cp_1, cp_2, List.length_cons, List.length_nil, Nat.reduceAdd, true_and, and_true, and_self, eq_self, true_implies, forall_const, Bool.false_eq_true, false_implies, or_true, true_or, Option.some.injEq, Prod.mk.injEq, exists_eq_left', exists_eq', exists_and_left, reduceIte, Int.reduceEq, Int.reduceNe]
  refine ⟨by omega, by omega, by omega, by omega, by omega, by omega, by omega, by omega, by omega, by omega, by omega, by omega, by omega, by omega, by omega, by omega, by omega, by omega, by omega, by omega, hK _ ?_ (fun j hj => ?_) ?_ (fun q j hq => ⟨?_, ?_⟩)⟩
  · simp only [hP, al_X3_init, si_1, sr_1, capOK, limC_ent1, limS_ent1, limC_upI, limS_upI, Int.toNat_natCast, ssum_app, ssum_c, ssum_n, ssz_0, ssz_1, ssz_2, ssz_3, ssz_4, ssz_5, ssz_6, ssz_7, ssz_20, ssz_21, ssz_22, pu_1, pu_2, List.append_assoc, List.cons_append, List.nil_append, List.length_append, and_assoc]
  · rcases lt5 hj with rfl | rfl | rfl | rfl | rfl <;> simp only [si_2, sr_g, pu_2, ent_0, ent_1, ent_2, ent_3, ent_4, ent_5, ent_6, va_up_self, va_up_ne, ne_eq, Nat.reduceEqDiff, not_false_eq_true, not_true_eq_false, si_1, si_2, si_g, sr_1, sr_2, cp_1, cp_2, List.length_cons, List.length_nil, Nat.reduceAdd, true_and, and_true, and_self, eq_self, true_implies, forall_const, Bool.false_eq_true, false_implies, or_true, true_or, Option.some.injEq, Prod.mk.injEq, exists_eq_left', exists_eq', exists_and_left, reduceIte, Int.reduceEq, Int.reduceNe]
  · exact s_self _ _ _ _
  · simp only [si_g, sr_2, pu_2, hq, false_and, if_false]
  · simp only [si_2, sr_g, pu_2, hq, false_and, if_false]
end INI
def StR (M : Mm) (s : Nat) : Prop := (M.2.2 s 0 = some (s + 1) ∧ M.2.2 s 1 = some (s + 7) ∧ M.2.2 s 2 = some (s + 8)) ∧ ∀ j, j < 5 → M.2.2 (s + 1) j = some (s + 1 + 1 + j)
def StI (M : Mm) (s : Nat) : Prop := M.2.1 (s + 1) 5 = 0 ∧ (∀ j, j < 5 → M.2.1 (s + 7) j = stV 0 j) ∧ ∀ t, t < 600 → M.2.1 (s + 8) t = -1
def iniA : ST := (sSeq (sPutR 4 1 (rL 0) (rNewI (iC 5))) (sSeq (sPutR 4 2 (rL 0) (rNewI (iC 600))) (sSeq (sCopyT (fun _ => 0) 0 (rF 4 1 (rL 0)) (iC 0) (iC 0) (iC 5)) (sSeq (sLoc 1 (iC 0)) (sWhile (cLt (iL 1) (iC 600)) (sSeq (sAst (rF 4 2 (rL 0)) (iL 1) (iC (-1))) (sInc 1 1)))))))
theorem B_ini4 : B_X4_init = sSeq (sObj (rL 0)) (sSeq (sSeq (sPutR 4 0 (rL 0) (rNew 3 rm_X3_init.cells rm_X3_init.slots m_X3_init (aN))) iniA) sRetV) := rfl
section INI2
variable {K : Int → Mm → Prop} {M : Mm} {P : List (Nat × Nat)} {s : Nat} {W : En → Mm → Prop} {Rt : Int → Mm → Prop} {ρ : En}
set_option maxRecDepth 20000 in
theorem e_iniA (hP : M.1 = P ++ (4, 0) :: (3, 0) :: al_X3_init) (hs : P.length = s) (hb : s ≤ 900000) (g0 : ρ 0 = .inr (some s)) (hC : limC ρ = s + 9) (hS : limS ρ = ssum P + 814) (h0 : M.2.2 s 0 = some (s + 1)) (h1 : ∀ j, j < 5 → M.2.2 (s + 1) j = some (s + 1 + 1 + j)) (h2 : M.2.1 (s + 1) 5 = 0)
    (hK : ∀ ρ2 M2, M2.1 = P ++ (4, 0) :: al_X4_init → StR M2 s → StI M2 s → (∀ q j, q < s ∨ s + 8 < q → M2.2.1 q j = M.2.1 q j ∧ M2.2.2 q j = M.2.2 q j) → W ρ2 M2) : iniA W Rt ρ M := by
  have a7 : (P ++ [(4, 0), (3, 0), (20, 40), (20, 40), (20, 40), (20, 40), (20, 40), (20, 5), (20, 600)])[s + 7]? = some (20, 5) := at_i hs _ 7
  have a8 : (P ++ [(4, 0), (3, 0), (20, 40), (20, 40), (20, 40), (20, 40), (20, 40), (20, 5), (20, 600)])[s + 8]? = some (20, 600) := at_i hs _ 8
  simp only [iniA, g0, hC, hS, e_newI (z := 5) (c := 5) rfl (by decide), e_newI (z := 600) (c := 600) rfl (by decide), hP, hs, al_X3_init, at_0 hs, List.getElem?_cons_zero, sr_g, capOK, limC_ent1, limS_ent1, limC_upI, limS_upI, Int.toNat_natCast, ssum_app, ssum_c, ssum_n, ssz_0, ssz_1, ssz_2, ssz_3, ssz_4, ssz_5, ssz_6, ssz_7, ssz_20, ssz_21, ssz_22, pu_1, pu_2, List.append_assoc, List.cons_append, List.nil_append, List.length_append, and_assoc, iC, iL, iF, iA, iAc, iLen, iT, iAdd, iSub, iMul, iDiv, iRem, iNeg, iCh, iAnd31, iQ, iMax, iMin, iAbs, iCallS, iCallV, aN, aI, aR, rL, rF, rA, cEq, cNe, cLt, cGe, cGt, cLe, cAnd, cOr, cNot, cNull, sSkip, sSeq, sLoc, sLocR, sInc, sPut, sPutR, sPutAdd, sPutSub, sAst, sCst, sRst, sAstAdd, sAstSub, sIf1, sIf, sRet, sRetV, sCallV, sCallS, sPop, sCopy, sCopyT, sObj, sSw, iAddW, iMulW, iAndM, iShr, cQ, ent_0, ent_1, ent_2, ent_3, ent_4, ent_5, ent_6, va_up_self, va_up_ne, ne_eq, Nat.reduceEqDiff, not_false_eq_true, not_true_eq_false, si_1, si_2, si_g, sr_1, sr_2, cp_1, cp_2, List.length_cons, List.length_nil, Nat.reduceAdd, true_and, and_true, and_self, eq_self, true_implies, forall_const, Bool.false_eq_true, false_implies, or_true, true_or, Option.some.injEq, Prod.mk.injEq, exists_eq_left', exists_eq', exists_and_left, reduceIte, Int.reduceEq, Int.reduceNe]
  refine ⟨by omega, by omega, by omega, by omega, by omega, by omega, by omega, by omega, 5, a7, by decide, by decide, by decide, by decide, by decide, ?_⟩
  obtain ⟨M3, hM3⟩ : ∃ M3, M3 = cpyT (tVl (fun x => 0) 0) (sr (pu (sr (pu M (20, 5)) s 1 (some (s + 7))) (20, 600)) s 2 (some (s + 8))) (s + 7) (Int.toNat 0) (Int.toNat 0) (Int.toNat 5) := ⟨_, rfl⟩
  have q1 : M3.1 = P ++ [(4, 0), (3, 0), (20, 40), (20, 40), (20, 40), (20, 40), (20, 40), (20, 5), (20, 600)] := by
    rw [hM3]
    show ((M.1 ++ [(20, 5)]) ++ [(20, 600)]) = _
    rw [hP]
    simp only [al_X3_init, capOK, limC_ent1, limS_ent1, limC_upI, limS_upI, Int.toNat_natCast, ssum_app, ssum_c, ssum_n, ssz_0, ssz_1, ssz_2, ssz_3, ssz_4, ssz_5, ssz_6, ssz_7, ssz_20, ssz_21, ssz_22, pu_1, pu_2, List.append_assoc, List.cons_append, List.nil_append, List.length_append, and_assoc]
  have q2 : ∀ q j, M3.2.2 q j = if q = s ∧ j = 2 then some (s + 8) else if q = s ∧ j = 1 then some (s + 7) else M.2.2 q j := by
    rw [hM3]
    exact fun q j => rfl
  have q3 : ∀ q j, M3.2.1 q j = if q = s + 7 ∧ 0 ≤ j ∧ j < 0 + 5 then tVl (fun x => 0) 0 (0 + (j - 0)) else M.2.1 q j := by
    rw [hM3]
    exact fun q j => rfl
  rw [← hM3]
  clear hM3
  obtain ⟨N, hN⟩ : ∃ N, N = 600 := ⟨600, rfl⟩
  refine while_n (n := N) (fun r ρ M2 => ∃ j : Nat, j + r = N ∧ ρ 0 = .inr (some s) ∧ ρ 1 = .inl (j : Int) ∧ M2 = sa M3 (s + 8) (fun t => if t < j then -1 else M3.2.1 (s + 8) t)) ?_ ⟨0, by omega, by simp [va_up, g0], by simp [va_up], (sa_self (fun b => if_neg (by omega))).symm⟩
  rintro r W hW ρ M2 ⟨j, hr, k0, k1, rfl⟩
  have x0 : M3.1[s]? = some (4, 0) := by rw [q1]; exact at_0 hs _
  have x8 : M3.1[s + 8]? = some (20, 600) := by rw [q1]; exact a8
  have y8 : M3.2.2 s 2 = some (s + 8) := by rw [q2, if_pos ⟨rfl, rfl⟩]
  simp only [k0, k1, sa_1, sa_2, x0, x8, y8, iC, iL, iF, iA, iAc, iLen, iT, iAdd, iSub, iMul, iDiv, iRem, iNeg, iCh, iAnd31, iQ, iMax, iMin, iAbs, iCallS, iCallV, aN, aI, aR, rL, rF, rA, cEq, cNe, cLt, cGe, cGt, cLe, cAnd, cOr, cNot, cNull, sSkip, sSeq, sLoc, sLocR, sInc, sPut, sPutR, sPutAdd, sPutSub, sAst, sCst, sRst, sAstAdd, sAstSub, sIf1, sIf, sRet, sRetV, sCallV, sCallS, sPop, sCopy, sCopyT, sObj, sSw, iAddW, iMulW, iAndM, iShr, cQ, ent_0, ent_1, ent_2, ent_3, ent_4, ent_5, ent_6, va_up_self, va_up_ne, ne_eq, Nat.reduceEqDiff, not_false_eq_true, not_true_eq_false, si_1, si_2, si_g, sr_1, sr_2, cp_1, cp_2, List.length_cons, List.length_nil, Nat.reduceAdd, true_and, and_true, and_self, eq_self, true_implies, forall_const, Bool.false_eq_true, false_implies, or_true, true_or, Option.some.injEq, Prod.mk.injEq, exists_eq_left', exists_eq', exists_and_left, reduceIte, Int.reduceEq, Int.reduceNe]
  by_cases hj : j < N
  · rw [if_pos (by omega)]
    refine ⟨by omega, by omega, inR_s (by omega) (by omega), hW _ _ (by omega) ⟨j + 1, by omega, by simp [va_up, k0], by simp [va_up], ?_⟩⟩
    rw [Int.toNat_natCast, si_sa]
    refine sa_cong (fun t => ?_)
    by_cases ht : t = j
    · rw [if_pos ht, if_pos (by omega)]
    · rw [if_neg ht]
      by_cases ht2 : t < j
      · rw [if_pos ht2, if_pos (by omega)]
      · rw [if_neg ht2, if_neg (by omega)]
  · rw [if_neg (by omega)]
    obtain rfl : j = N := by omega
    refine hK _ _ q1 ⟨⟨?_, ?_, y8⟩, fun i hi => ?_⟩ ⟨?_, fun i hi => ?_, fun t ht => ?_⟩ (fun q i hq => ⟨?_, ?_⟩)
    · show M3.2.2 s 0 = _
      rw [q2, if_neg (by omega), if_neg (by omega)]; exact h0
    · show M3.2.2 s 1 = _
      rw [q2, if_neg (by omega), if_pos ⟨rfl, rfl⟩]
    · show M3.2.2 (s + 1) i = _
      rw [q2, if_neg (by omega), if_neg (by omega)]; exact h1 i hi
    · rw [sa_g, if_neg (by omega), q3, if_neg (by omega)]; exact h2
    · rw [sa_g, if_neg (by omega), q3, if_pos ⟨rfl, Nat.zero_le _, by omega⟩]
      show tVl (fun _ => 0) 0 (0 + (i - 0)) = stV 0 i
      rw [Nat.sub_zero, Nat.zero_add]
      rfl
    · rw [sa_g, if_pos rfl]
      exact if_pos (by omega)
    · rw [sa_g, if_neg (by omega), q3, if_neg (by omega)]
    · show M3.2.2 q i = _
      rw [q2, if_neg (by omega), if_neg (by omega)]
set_option maxRecDepth 20000 in
theorem e_X4_init (hP : M.1 = P ++ [(4, 0)]) (hs : P.length = s) (hb : s ≤ 800000) (hK : ∀ M2, M2.1 = P ++ (4, 0) :: al_X4_init → StR M2 s → StI M2 s → (∀ q j, q < s ∨ s + 8 < q → M2.2.1 q j = M.2.1 q j ∧ M2.2.2 q j = M.2.2 q j) → K 0 M2) : m_X4_init [.inr (some s)] K M := by
  have hs1 : (P ++ [(4, 0)]).length = s + 1 := by simp [hs]
  simp only [m_X4_init, mkM, B_ini4, rNew, hP, hs, al_X4_init, at_0 hs, List.getElem?_cons_zero, capOK, limC_ent1, limS_ent1, limC_upI, limS_upI, Int.toNat_natCast, ssum_app, ssum_c, ssum_n, ssz_0, ssz_1, ssz_2, ssz_3, ssz_4, ssz_5, ssz_6, ssz_7, ssz_20, ssz_21, ssz_22, pu_1, pu_2, List.append_assoc, List.cons_append, List.nil_append, List.length_append, and_assoc, iC, iL, iF, iA, iAc, iLen, iT, iAdd, iSub, iMul, iDiv, iRem, iNeg, iCh, iAnd31, iQ, iMax, iMin, iAbs, iCallS, iCallV, aN, aI, aR, rL, rF, rA, cEq, cNe, cLt, cGe, cGt, cLe, cAnd, cOr, cNot, cNull, sSkip, sSeq, sLoc, sLocR, sInc, sPut, sPutR, sPutAdd, sPutSub, sAst, sCst, sRst, sAstAdd, sAstSub, sIf1, sIf, sRet, sRetV, sCallV, sCallS, sPop, sCopy, sCopyT, sObj, sSw, iAddW, iMulW, iAndM, iShr, cQ, ent_0, ent_1, ent_2, ent_3, ent_4, ent_5, ent_6, va_up_self, va_up_ne, ne_eq, Nat.reduceEqDiff, not_false_eq_true, not_true_eq_false, si_1, si_2, si_g, sr_1, sr_2, cp_1, cp_2, List.length_cons, List.length_nil, Nat.reduceAdd, true_and, and_true, and_self, eq_self, true_implies, forall_const, Bool.false_eq_true, false_implies, or_true, true_or, Option.some.injEq, Prod.mk.injEq, exists_eq_left', exists_eq', exists_and_left, reduceIte, Int.reduceEq, Int.reduceNe]
  refine ⟨by omega, by omega, by omega, by omega, by omega, e_X3_init (P := P ++ [(4, 0)]) (k := s + 1) ?_ hs1 (by omega) (fun M2 f1 f2 f3 f4 => ?_)⟩
  · simp only [hP, capOK, limC_ent1, limS_ent1, limC_upI, limS_upI, Int.toNat_natCast, ssum_app, ssum_c, ssum_n, ssz_0, ssz_1, ssz_2, ssz_3, ssz_4, ssz_5, ssz_6, ssz_7, ssz_20, ssz_21, ssz_22, pu_1, pu_2, List.append_assoc, List.cons_append, List.nil_append, List.length_append, and_assoc]
  · have f5 : M2.1 = P ++ (4, 0) :: (3, 0) :: al_X3_init := by rw [f1]; simp only [capOK, limC_ent1, limS_ent1, limC_upI, limS_upI, Int.toNat_natCast, ssum_app, ssum_c, ssum_n, ssz_0, ssz_1, ssz_2, ssz_3, ssz_4, ssz_5, ssz_6, ssz_7, ssz_20, ssz_21, ssz_22, pu_1, pu_2, List.append_assoc, List.cons_append, List.nil_append, List.length_append, and_assoc]
    have z0 : M2.1[s]? = some (4, 0) := by rw [f5]; exact at_0 hs _
    have zl : s + 1 < M2.1.length := by rw [f5]; simp [hs]
    refine ⟨⟨0, z0⟩, zl, e_iniA (s := s) (P := P) f5 hs (by omega) rfl ?_ ?_ ?_ (fun j hj => ?_) f3 (fun ρ2 M3 h1 h2 h3 h4 => ⟨?_, hK M3 h1 h2 h3 (fun q j hq => ⟨?_, ?_⟩)⟩)⟩
    · simp only [capOK, limC_ent1, limS_ent1, limC_upI, limS_upI, Int.toNat_natCast, ssum_app, ssum_c, ssum_n, ssz_0, ssz_1, ssz_2, ssz_3, ssz_4, ssz_5, ssz_6, ssz_7, ssz_20, ssz_21, ssz_22, pu_1, pu_2, List.append_assoc, List.cons_append, List.nil_append, List.length_append, and_assoc]
    · simp only [capOK, limC_ent1, limS_ent1, limC_upI, limS_upI, Int.toNat_natCast, ssum_app, ssum_c, ssum_n, ssz_0, ssz_1, ssz_2, ssz_3, ssz_4, ssz_5, ssz_6, ssz_7, ssz_20, ssz_21, ssz_22, pu_1, pu_2, List.append_assoc, List.cons_append, List.nil_append, List.length_append, and_assoc]
    · rw [sr_g, if_pos ⟨rfl, rfl⟩]
    · rw [sr_g, if_neg (by omega)]; exact f2 j hj
    · exact h1
    · rw [(h4 q j hq).1]
      exact (f4 q j (by omega)).1
    · rw [(h4 q j hq).2, sr_g, if_neg (by omega)]
      exact (f4 q j (by omega)).2
end INI2
