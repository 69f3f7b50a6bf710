def ScPost (M M2 : Mm) (n : Nat) (D : Nat → Nat → Int) (sh hd on' rs : Nat → Int) : Prop := SKp M M2 ∧ (∀ j, j < n → M2.2.1 75 j = mn10 (rwA D rs j) ∧ M2.2.1 76 j = ptW D sh hd on' rs j) ∧
  (∀ p : Nat, p < pcN n D → M2.2.1 77 p = hP D rs p n ∧ M2.2.1 78 p = pP D (ptW D sh hd on' rs) p n + exP n D rs p ∧ M2.2.1 79 p = lP D rs p n) ∧
  M2.2.1 69 10 = sm (fun p => hP D rs p n) (pcN n D) ∧ M2.2.1 69 11 = sm (fun p => pP D (ptW D sh hd on' rs) p n + exP n D rs p) (pcN n D)
theorem SKp_rf (M : Mm) : SKp M M := ⟨rfl, rfl, fun _ _ _ => rfl⟩
theorem SKp_si {M M2 : Mm} (h : SKp M M2) {q j : Nat} {z : Int} (hq : q = 69 ∨ (75 ≤ q ∧ q ≤ 79)) : SKp M (si M2 q j z) :=
  ⟨h.1, h.2.1, fun a b hab => by rw [si_g, if_neg (by omega)]; exact h.2.2 a b hab⟩
theorem hP_s (D : Nat → Nat → Int) (rs : Nat → Int) (p : Int) (i : Nat) : hP D rs p (i + 1) = hP D rs p i + (if ph D i = p ∧ rs i = 0 then 1 else 0) := rfl
theorem pP_s (D : Nat → Nat → Int) (pt : Nat → Int) (p : Int) (i : Nat) : pP D pt p (i + 1) = pP D pt p i + (if ph D i = p then pt i else 0) := rfl
theorem lP_s (D : Nat → Nat → Int) (rs : Nat → Int) (p : Int) (i : Nat) : lP D rs p (i + 1) = if ph D i = p then (if lP D rs p i < re D rs (i + 1) then re D rs (i + 1) else lP D rs p i) else lP D rs p i := rfl
section SC
variable {M : Mm} {k n : Nat} {D : Nat → Nat → Int} {sh hd on' rs : Nat → Int}
/-- behind a round of the first loop -/
theorem SI1_tl {M2 M3 : Mm} {i p : Nat} (h : SI1 M M2 D sh hd on' rs i) (hv : VD n D) (hi : i < n) (hp : ph D i = p) (hk3 : SKp M M3)
    (f3 : M3.2.1 69 10 = 0 ∧ M3.2.1 69 11 = 0) (a3 : ∀ j, j < i → M3.2.1 75 j = mn10 (rwA D rs j) ∧ M3.2.1 76 j = ptW D sh hd on' rs j)
    (p3 : ∀ q : Nat, (q : Int) < cnt1 D (i + 1) → M3.2.1 77 q = hP D rs q i ∧ M3.2.1 78 q = pP D (ptW D sh hd on' rs) q i ∧ M3.2.1 79 q = lP D rs q i) :
    SI1 M (tlM M3 D sh hd on' rs i p) D sh hd on' rs (i + 1) := by
  have hpc : (p : Int) < cnt1 D (i + 1) := by rw [← hp]; unfold ph; omega
  obtain ⟨t1, t2, t3⟩ := p3 p hpc
  unfold tlM
  refine ⟨SKp_si (SKp_si (SKp_si (SKp_si (SKp_si hk3 (by omega)) (by omega)) (by omega)) (by omega)) (by omega), ⟨?_, ?_⟩, fun j hj => ?_, fun q hq => ?_⟩
  · simp [si_g, f3]
  · simp [si_g, f3]
  · by_cases hji : j = i
    · subst hji
      simp [si_g]
    · have := a3 j (by omega)
      simp [si_g, hji, this]
  · obtain ⟨u1, u2, u3⟩ := p3 q hq
    rw [hP_s, pP_s, lP_s, hp]
    by_cases hqp : q = p
    · subst hqp
      by_cases c : rs i = 0 <;> simp [si_g, t1, t2, t3, c]
    · have hpq : ¬ (p : Int) = q := by omega
      simp [si_g, hqp, hpq, u1, u2, u3]
set_option maxRecDepth 20000 in
theorem sc_round {W : En → Mm → Prop} {Rt : Int → Mm → Prop} {ρ : En} {M2 : Mm} {i : Nat} (hj : JdP M) (h : CS M k n D) (hk : k + 5 < 69) (hv : VD n D) (hs : SIn M n sh hd on' rs) (hi : i < n)
    (h0 : ρ 0 = .inr (some 69)) (h1 : ρ 1 = .inr (some k)) (h2 : ρ 2 = .inl (re D rs i)) (h3 : ρ 3 = .inl (i : Int)) (hI : SI1 M M2 D sh hd on' rs i)
    (hW : ∀ ρ2 M4, ρ2 0 = .inr (some 69) → ρ2 1 = .inr (some k) → ρ2 2 = .inl (re D rs (i + 1)) → ρ2 3 = .inl ((i : Int) + 1) → SI1 M M4 D sh hd on' rs (i + 1) → W ρ2 M4) : scBody W Rt ρ M2 := by
  have h40 := h.2.1
  obtain ⟨⟨g1, g2, g3⟩, ⟨f1, f2⟩, hA, hPp⟩ := id hI
  have hJ2 : JdP M2 := JdP_fr hj g1 g2
  have hC2 : CS M2 k n D := CS_fr h g1 g2 (fun q j x1 x2 => g3 q j (Or.inl (by omega)))
  have hS2 : SIn M2 n sh hd on' rs := fun j hj => by
    rw [g3 71 j (by omega), g3 72 j (by omega), g3 73 j (by omega), g3 74 j (by omega)]
    exact hs j hj
  have hpb := ph_b hv hi
  obtain ⟨p, hp⟩ := Int.eq_ofNat_of_zero_le hpb.1
  have hp40 : p < 40 := by omega
  have c39 : (0 : Int) ≤ p ∧ (p : Int) ≤ 39 := by omega
  have r1 : inR ((i : Int) + 1) := inR_s (by omega) (by omega)
  have hpts : ∀ j, j < i → 0 ≤ ptW D sh hd on' rs j ∧ ptW D sh hd on' rs j ≤ 6800 := fun j hji => by
    obtain ⟨-, -, -, -, q5, q6, -⟩ := hs j (by omega)
    exact ptW_b q5 q6
  have bP := fun q => pP_b (D := D) (p := q) hpts
  have bH := fun q => hP_b D rs q i
  unfold scBody
  simp only [h0, h1, h2, h3, hJ2.1, hC2.1.o, e_phraseOf hC2, phA_in hi, hp, e_isWithin, c39.1, c39.2, e_beginsPhrase hC2 hv hi, iC, iL, iF, iA, iAc, iLen, iT, iAdd, iSub, iMul, iDiv, iRem, iNeg, iCh, iAnd31, iQ, iMax, iMin, iAbs, iCallS, iCallV, aN, aI, aR, rL, rF, rA, cEq, cNe, cLt, cGe, cGt, cLe, cAnd, cOr, cNot, cNull, sSkip, sSeq, sLoc, sLocR, sInc, sPut, sPutR, sPutAdd, sPutSub, sAst, sCst, sRst, sAstAdd, sAstSub, sIf1, sIf, sRet, sRetV, sCallV, sCallS, sPop, sCopy, sCopyT, sObj, sSw, iAddW, iMulW, iAndM, iShr, cQ, ent_0, ent_1, ent_2, ent_3, ent_4, ent_5, ent_6, va_up_self, va_up_ne, ne_eq, Nat.reduceEqDiff, not_false_eq_true, not_true_eq_false, si_1, si_2, si_g, sr_1, sr_2, cp_1, cp_2, List.length_cons, List.length_nil, Nat.reduceAdd, true_and, and_true, and_self, eq_self, true_implies, forall_const, Bool.false_eq_true, false_implies, or_true, true_or, Option.some.injEq, Prod.mk.injEq, exists_eq_left', exists_eq', exists_and_left, reduceIte, Int.reduceEq, Int.reduceNe]
  have hc1 : cnt1 D (i + 1) = cnt1 D i + D i 4 := rfl
  have hph : ph D i = cnt1 D i + D i 4 - 1 := by unfold ph; omega
  rcases (hv.2.1 i hi).2.2.2.2.2.2.2.2 with h4 | h4
  · have hrw : rwA D rs i = re D rs i := by unfold rwA; rw [if_neg (by omega)]
    have hpold := hPp p (by omega)
    have e : (if D i 4 = 1 then (1 : Int) else 0) = 0 := by rw [if_neg (by omega)]
    simp only [e, Int.reduceNe, if_false, not_true_eq_false, ent_0, ent_1, ent_2, ent_3, ent_4, ent_5, ent_6, va_up_self, va_up_ne, ne_eq, Nat.reduceEqDiff, not_false_eq_true, not_true_eq_false, si_1, si_2, si_g, sr_1, sr_2, cp_1, cp_2, List.length_cons, List.length_nil, Nat.reduceAdd, true_and, and_true, and_self, eq_self, true_implies, forall_const, Bool.false_eq_true, false_implies, or_true, true_or, Option.some.injEq, Prod.mk.injEq, exists_eq_left', exists_eq', exists_and_left, reduceIte, Int.reduceEq, Int.reduceNe]
    refine e_scTail (p := p) hJ2 hC2 hk hv hi hS2 hp40 (by simp [va_up, h0]) (by simp [va_up, h1]) (by simp [va_up, h2, hrw]) (by simp [va_up, h3]) (by simp [va_up]) ?_ ?_ ?_
    · rw [hpold.1]
      have := bH p
      omega
    · rw [hpold.2.1]
      have := bP p
      omega
    · simp only [h3, r1, ent_0, ent_1, ent_2, ent_3, ent_4, ent_5, ent_6, va_up_self, va_up_ne, ne_eq, Nat.reduceEqDiff, not_false_eq_true, not_true_eq_false, si_1, si_2, si_g, sr_1, sr_2, cp_1, cp_2, List.length_cons, List.length_nil, Nat.reduceAdd, true_and, and_true, and_self, eq_self, true_implies, forall_const, Bool.false_eq_true, false_implies, or_true, true_or, Option.some.injEq, Prod.mk.injEq, exists_eq_left', exists_eq', exists_and_left, reduceIte, Int.reduceEq, Int.reduceNe]
      refine hW _ _ (by simp [va_up, h0]) (by simp [va_up, h1]) (by simp [va_up]) (by simp [va_up]) (SI1_tl hI hv hi hp ⟨g1, g2, g3⟩ ⟨f1, f2⟩ hA (fun q hq => hPp q (by omega)))
  · have hrw : rwA D rs i = 0 := by unfold rwA; rw [if_pos h4]
    have hnew : ∀ j, j < i → ph D j ≠ (p : Int) := fun j hj => by
      have := ph_lt hv hj (by omega : i ≤ n)
      omega
    have e : (if D i 4 = 1 then (1 : Int) else 0) = 1 := by rw [if_pos h4]
    simp only [e, Int.reduceNe, if_true, not_false_eq_true, ent_0, ent_1, ent_2, ent_3, ent_4, ent_5, ent_6, va_up_self, va_up_ne, ne_eq, Nat.reduceEqDiff, not_false_eq_true, not_true_eq_false, si_1, si_2, si_g, sr_1, sr_2, cp_1, cp_2, List.length_cons, List.length_nil, Nat.reduceAdd, true_and, and_true, and_self, eq_self, true_implies, forall_const, Bool.false_eq_true, false_implies, or_true, true_or, Option.some.injEq, Prod.mk.injEq, exists_eq_left', exists_eq', exists_and_left, reduceIte, Int.reduceEq, Int.reduceNe]
    refine (e_beginPhrase hJ2 hp40).mpr ?_
    have hK3 : SKp M (bgM M2 p) := SKp_si (SKp_si (SKp_si ⟨g1, g2, g3⟩ (by omega)) (by omega)) (by omega)
    have hC3 : CS (bgM M2 p) k n D := CS_fr h hK3.1 hK3.2.1 (fun q j x1 x2 => hK3.2.2 q j (Or.inl (by omega)))
    have hS3 : SIn (bgM M2 p) n sh hd on' rs := fun j hj => by
      rw [hK3.2.2 71 j (by omega), hK3.2.2 72 j (by omega), hK3.2.2 73 j (by omega), hK3.2.2 74 j (by omega)]
      exact hs j hj
    refine e_scTail (p := p) (JdP_fr hj hK3.1 hK3.2.1) hC3 hk hv hi hS3 hp40 (by simp [va_up, h0]) (by simp [va_up, h1]) (by simp [va_up, hrw]) (by simp [va_up, h3]) (by simp [va_up]) ?_ ?_ ?_
    · simp [bgM, si_g]
    · simp [bgM, si_g]
    · simp only [h3, r1, ent_0, ent_1, ent_2, ent_3, ent_4, ent_5, ent_6, va_up_self, va_up_ne, ne_eq, Nat.reduceEqDiff, not_false_eq_true, not_true_eq_false, si_1, si_2, si_g, sr_1, sr_2, cp_1, cp_2, List.length_cons, List.length_nil, Nat.reduceAdd, true_and, and_true, and_self, eq_self, true_implies, forall_const, Bool.false_eq_true, false_implies, or_true, true_or, Option.some.injEq, Prod.mk.injEq, exists_eq_left', exists_eq', exists_and_left, reduceIte, Int.reduceEq, Int.reduceNe]
      refine hW _ _ (by simp [va_up, h0]) (by simp [va_up, h1]) (by simp [va_up]) (by simp [va_up]) (SI1_tl hI hv hi hp hK3 ?_ (fun j hj => ?_) (fun q hq => ?_))
      · simp [bgM, si_g, f1, f2]
      · have := hA j hj
        simp [bgM, si_g, this]
      · by_cases hqp : q = p
        · subst hqp
          rw [hP_new hnew, pP_new hnew, lP_new hnew]
          simp [bgM, si_g]
        · have := hPp q (by omega)
          simp [bgM, si_g, hqp, this]
end SC
