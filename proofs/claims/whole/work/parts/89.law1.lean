def M00 : Mm := ([], fun _ _ => 0, fun _ _ => none)
def rho0 : En := fun i => if i = 0 then .inr (some 1000003) else if i = 1000 then .inl 600000 else if i = 1001 then .inl 7302249 else .inr none
def lawT (L : Nat) (xs : Nat → Int) : ST := (sSeq (sSeq (sLoc 3 (iC 0)) (sWhile (cLe (iL 3) (iSub (iScL L) (iC 6))) (sSeq (sSw (iAnd31 (iSc L xs (iL 3))) 0 [sIf1 (cNe (iCallV 6 m_X6_add (rL 1) (aI (iSc L xs (iAdd (iL 3) (iC 1))) (aI (iSc L xs (iAdd (iL 3) (iC 2))) (aI (iSc L xs (iAdd (iL 3) (iC 3))) (aI (iSc L xs (iAdd (iL 3) (iC 4))) (aI (iQ (cNe (iSc L xs (iAdd (iL 3) (iC 5))) (iC 0)) (iC 1) (iC 0)) (aN))))))) (iCallV 7 m_X7_add (rL 2) (aI (iSc L xs (iAdd (iL 3) (iC 1))) (aI (iSc L xs (iAdd (iL 3) (iC 2))) (aI (iSc L xs (iAdd (iL 3) (iC 3))) (aI (iSc L xs (iAdd (iL 3) (iC 4))) (aI (iQ (cNe (iSc L xs (iAdd (iL 3) (iC 5))) (iC 0)) (iC 1) (iC 0)) (aN)))))))) (sRet true (iC 0)), sIf1 (cNe (iCallV 6 m_X6_drop (rL 1) (aN)) (iCallV 7 m_X7_drop (rL 2) (aN))) (sRet true (iC 0)), sIf1 (cNe (iCallV 6 m_X6_read (rL 1) (aN)) (iCallV 7 m_X7_read (rL 2) (aN))) (sRet true (iC 0)), sIf1 (cNe (iCallV 6 m_X6_set (rL 1) (aI (iSc L xs (iAdd (iL 3) (iC 1))) (aI (iSc L xs (iAdd (iL 3) (iC 2))) (aN)))) (iCallV 7 m_X7_set (rL 2) (aI (iSc L xs (iAdd (iL 3) (iC 1))) (aI (iSc L xs (iAdd (iL 3) (iC 2))) (aN))))) (sRet true (iC 0)), sIf1 (cNe (iCallV 6 m_X6_sing (rL 1) (aI (iSc L xs (iAdd (iL 3) (iC 1))) (aI (iSc L xs (iAdd (iL 3) (iC 2))) (aI (iSc L xs (iAdd (iL 3) (iC 3))) (aN))))) (iCallV 7 m_X7_sing (rL 2) (aI (iSc L xs (iAdd (iL 3) (iC 1))) (aI (iSc L xs (iAdd (iL 3) (iC 2))) (aI (iSc L xs (iAdd (iL 3) (iC 3))) (aN)))))) (sRet true (iC 0)), sIf1 (cNe (iCallV 6 m_X6_silence (rL 1) (aI (iSc L xs (iAdd (iL 3) (iC 1))) (aI (iSc L xs (iAdd (iL 3) (iC 2))) (aN)))) (iCallV 7 m_X7_silence (rL 2) (aI (iSc L xs (iAdd (iL 3) (iC 1))) (aI (iSc L xs (iAdd (iL 3) (iC 2))) (aN))))) (sRet true (iC 0)), sIf1 (cNe (iCallV 6 m_X6_singAlong (rL 1) (aI (iSc L xs (iAdd (iL 3) (iC 1))) (aI (iSc L xs (iAdd (iL 3) (iC 2))) (aI (iSc L xs (iAdd (iL 3) (iC 3))) (aN))))) (iCallV 7 m_X7_singAlong (rL 2) (aI (iSc L xs (iAdd (iL 3) (iC 1))) (aI (iSc L xs (iAdd (iL 3) (iC 2))) (aI (iSc L xs (iAdd (iL 3) (iC 3))) (aN)))))) (sRet true (iC 0)), sIf1 (cNe (iCallV 6 m_X6_type (rL 1) (aI (iCh (iSc L xs (iAdd (iL 3) (iC 1)))) (aN))) (iCallV 7 m_X7_type (rL 2) (aI (iCh (iSc L xs (iAdd (iL 3) (iC 1)))) (aN)))) (sRet true (iC 0)), sIf1 (cNe (iCallV 6 m_X6_clearText (rL 1) (aN)) (iCallV 7 m_X7_clearText (rL 2) (aN))) (sRet true (iC 0)), sIf1 (cNe (iCallV 6 m_X6_undo (rL 1) (aN)) (iCallV 7 m_X7_undo (rL 2) (aN))) (sRet true (iC 0)), sIf1 (cNe (iCallV 6 m_X6_keep (rL 1) (aN)) (iCallV 7 m_X7_keep (rL 2) (aN))) (sRet true (iC 0)), sIf1 (cNe (iCallV 6 m_X6_restore (rL 1) (aN)) (iCallV 7 m_X7_restore (rL 2) (aN))) (sRet true (iC 0)), sIf1 (cNe (iCallV 6 m_X6_syllable (rL 1) (aI (iSc L xs (iAdd (iL 3) (iC 1))) (aI (iSc L xs (iAdd (iL 3) (iC 2))) (aN)))) (iCallV 7 m_X7_syllable (rL 2) (aI (iSc L xs (iAdd (iL 3) (iC 1))) (aI (iSc L xs (iAdd (iL 3) (iC 2))) (aN))))) (sRet true (iC 0)), sIf1 (cNe (iCallV 6 m_X6_wanted (rL 1) (aI (iSc L xs (iAdd (iL 3) (iC 1))) (aN))) (iCallV 7 m_X7_wanted (rL 2) (aI (iSc L xs (iAdd (iL 3) (iC 1))) (aN)))) (sRet true (iC 0)), sIf1 (cNe (iCallV 6 m_X6_sung (rL 1) (aI (iSc L xs (iAdd (iL 3) (iC 1))) (aN))) (iCallV 7 m_X7_sung (rL 2) (aI (iSc L xs (iAdd (iL 3) (iC 1))) (aN)))) (sRet true (iC 0)), sIf1 (cNe (iCallV 6 m_X6_lit (rL 1) (aI (iSc L xs (iAdd (iL 3) (iC 1))) (aI (iSc L xs (iAdd (iL 3) (iC 2))) (aN)))) (iCallV 7 m_X7_lit (rL 2) (aI (iSc L xs (iAdd (iL 3) (iC 1))) (aI (iSc L xs (iAdd (iL 3) (iC 2))) (aN))))) (sRet true (iC 0)), sIf1 (cNe (iCallV 6 m_X6_phrase (rL 1) (aI (iSc L xs (iAdd (iL 3) (iC 1))) (aI (iSc L xs (iAdd (iL 3) (iC 2))) (aN)))) (iCallV 7 m_X7_phrase (rL 2) (aI (iSc L xs (iAdd (iL 3) (iC 1))) (aI (iSc L xs (iAdd (iL 3) (iC 2))) (aN))))) (sRet true (iC 0)), sIf1 (cNe (iCallV 6 m_X6_total (rL 1) (aI (iSc L xs (iAdd (iL 3) (iC 1))) (aN))) (iCallV 7 m_X7_total (rL 2) (aI (iSc L xs (iAdd (iL 3) (iC 1))) (aN)))) (sRet true (iC 0)), sIf1 (cNe (iCallV 6 m_X6_ifShifted (rL 1) (aI (iSc L xs (iAdd (iL 3) (iC 1))) (aI (iSc L xs (iAdd (iL 3) (iC 2))) (aN)))) (iCallV 7 m_X7_ifShifted (rL 2) (aI (iSc L xs (iAdd (iL 3) (iC 1))) (aI (iSc L xs (iAdd (iL 3) (iC 2))) (aN))))) (sRet true (iC 0)), sIf1 (cNe (iCallV 6 m_X6_bestShift (rL 1) (aN)) (iCallV 7 m_X7_bestShift (rL 2) (aN))) (sRet true (iC 0)), sIf1 (cNe (iCallV 6 m_X6_ifSet (rL 1) (aI (iSc L xs (iAdd (iL 3) (iC 1))) (aI (iSc L xs (iAdd (iL 3) (iC 2))) (aN)))) (iCallV 7 m_X7_ifSet (rL 2) (aI (iSc L xs (iAdd (iL 3) (iC 1))) (aI (iSc L xs (iAdd (iL 3) (iC 2))) (aN))))) (sRet true (iC 0)), sIf1 (cNe (iCallV 6 m_X6_worst (rL 1) (aN)) (iCallV 7 m_X7_worst (rL 2) (aN))) (sRet true (iC 0))] (sSkip)) (sInc 3 6)))) (sRet true (iC 1)))
theorem B_law_e (L : Nat) (xs : Nat → Int) : B_law L xs = sSeq (sLocR 1 (rNew 6 rm_X6_init.cells rm_X6_init.slots m_X6_init (aN))) (sSeq (sLocR 2 (rNew 7 rm_X7_init.cells rm_X7_init.slots m_X7_init (aN))) (lawT L xs)) := rfl
def lawI (L : Nat) (xs : Nat → Int) : List ST := [itm0 L xs, itm1 L xs, itm2 L xs, itm3 L xs, itm4 L xs, itm5 L xs, itm6 L xs, itm7 L xs, itm8 L xs, itm9 L xs, itm10 L xs, itm11 L xs, itm12 L xs, itm13 L xs, itm14 L xs, itm15 L xs, itm16 L xs, itm17 L xs, itm18 L xs, itm19 L xs, itm20 L xs, itm21 L xs]
theorem lawT_e (L : Nat) (xs : Nat → Int) : lawT L xs = sSeq (sSeq (sLoc 3 (iC 0)) (sWhile (cLe (iL 3) (iSub (iScL L) (iC 6))) (sSeq (sSw (iAnd31 (iSc L xs (iL 3))) 0 (lawI L xs) sSkip) (sInc 3 6)))) (sRet true (iC 1)) := rfl
section LAW1
variable {L : Nat} {xs : Nat → Int}
set_option maxRecDepth 20000 in
theorem e_round {i : Nat} {M : Mm} {A : Ab} {W : En → Mm → Prop} {Rt : Int → Mm → Prop} {ρ : En} (hx : ∀ j, inR (xs j)) (hL : L ≤ 3072) (hi : i + 6 ≤ L) (g0 : ρ 0 = .inr (some 1000003)) (g1 : ρ 1 = .inr (some 0)) (g2 : ρ 2 = .inr (some 80)) (g3 : ρ 3 = .inl (i : Int)) (hc : CI M A) (hm : MI M A) (hV : A.V) (hW : ∀ A2 M3, CI M3 A2 → MI M3 A2 → A2.V → W ρ M3) : sSw (iAnd31 (iSc L xs (iL 3))) 0 (lawI L xs) sSkip W Rt ρ M := by
  have c1 : (0 : Int) ≤ i := by omega
  have c2 : (i : Int) < L := by omega
  simp only [sSw, iAnd31, iSc, iL, g0, g3, c1, c2, Int.toNat_natCast, ent_0, ent_1, ent_2, ent_3, ent_4, ent_5, ent_6, va_up_self, va_up_ne, ne_eq, Nat.reduceEqDiff, not_false_eq_true, not_true_eq_false, si_1, si_2, si_g, sr_1, sr_2, cp_1, cp_2, List.length_cons, List.length_nil, Nat.reduceAdd, true_and, and_true, and_self, eq_self, true_implies, forall_const, Bool.false_eq_true, false_implies, or_true, true_or, Option.some.injEq, Prod.mk.injEq, exists_eq_left', exists_eq', exists_and_left, reduceIte, Int.reduceEq, Int.reduceNe]
  have hb : 0 ≤ xs i % 32 ∧ xs i % 32 < 32 := by omega
  have hl : (lawI L xs).length = 22 := rfl
  by_cases h : xs i % 32 < 22
  · rcases (by omega : xs i % 32 = 0 ∨ xs i % 32 = 1 ∨ xs i % 32 = 2 ∨ xs i % 32 = 3 ∨ xs i % 32 = 4 ∨ xs i % 32 = 5 ∨ xs i % 32 = 6 ∨ xs i % 32 = 7 ∨ xs i % 32 = 8 ∨ xs i % 32 = 9 ∨ xs i % 32 = 10 ∨ xs i % 32 = 11 ∨ xs i % 32 = 12 ∨ xs i % 32 = 13 ∨ xs i % 32 = 14 ∨ xs i % 32 = 15 ∨ xs i % 32 = 16 ∨ xs i % 32 = 17 ∨ xs i % 32 = 18 ∨ xs i % 32 = 19 ∨ xs i % 32 = 20 ∨ xs i % 32 = 21) with e | e | e | e | e | e | e | e | e | e | e | e | e | e | e | e | e | e | e | e | e | e
    · exact swg 0 (by omega) (by rw [hl]; omega) (l_add hx hL hi g0 g1 g2 g3 hc hm hV hW)
    · exact swg 1 (by omega) (by rw [hl]; omega) (l_drop hx hL hi g0 g1 g2 g3 hc hm hV hW)
    · exact swg 2 (by omega) (by rw [hl]; omega) (l_read hx hL hi g0 g1 g2 g3 hc hm hV hW)
    · exact swg 3 (by omega) (by rw [hl]; omega) (l_set hx hL hi g0 g1 g2 g3 hc hm hV hW)
    · exact swg 4 (by omega) (by rw [hl]; omega) (l_sing hx hL hi g0 g1 g2 g3 hc hm hV hW)
    · exact swg 5 (by omega) (by rw [hl]; omega) (l_silence hx hL hi g0 g1 g2 g3 hc hm hV hW)
    · exact swg 6 (by omega) (by rw [hl]; omega) (l_singAlong hx hL hi g0 g1 g2 g3 hc hm hV hW)
    · exact swg 7 (by omega) (by rw [hl]; omega) (l_type hx hL hi g0 g1 g2 g3 hc hm hV hW)
    · exact swg 8 (by omega) (by rw [hl]; omega) (l_clearText hx hL hi g0 g1 g2 g3 hc hm hV hW)
    · exact swg 9 (by omega) (by rw [hl]; omega) (l_undo hx hL hi g0 g1 g2 g3 hc hm hV hW)
    · exact swg 10 (by omega) (by rw [hl]; omega) (l_keep hx hL hi g0 g1 g2 g3 hc hm hV hW)
    · exact swg 11 (by omega) (by rw [hl]; omega) (l_restore hx hL hi g0 g1 g2 g3 hc hm hV hW)
    · exact swg 12 (by omega) (by rw [hl]; omega) (l_syllable hx hL hi g0 g1 g2 g3 hc hm hV hW)
    · exact swg 13 (by omega) (by rw [hl]; omega) (l_wanted hx hL hi g0 g1 g2 g3 hc hm hV hW)
    · exact swg 14 (by omega) (by rw [hl]; omega) (l_sung hx hL hi g0 g1 g2 g3 hc hm hV hW)
    · exact swg 15 (by omega) (by rw [hl]; omega) (l_lit hx hL hi g0 g1 g2 g3 hc hm hV hW)
    · exact swg 16 (by omega) (by rw [hl]; omega) (l_phrase hx hL hi g0 g1 g2 g3 hc hm hV hW)
    · exact swg 17 (by omega) (by rw [hl]; omega) (l_total hx hL hi g0 g1 g2 g3 hc hm hV hW)
    · exact swg 18 (by omega) (by rw [hl]; omega) (l_ifShifted hx hL hi g0 g1 g2 g3 hc hm hV hW)
    · exact swg 19 (by omega) (by rw [hl]; omega) (l_bestShift hx hL hi g0 g1 g2 g3 hc hm hV hW)
    · exact swg 20 (by omega) (by rw [hl]; omega) (l_ifSet hx hL hi g0 g1 g2 g3 hc hm hV hW)
    · exact swg 21 (by omega) (by rw [hl]; omega) (l_worst hx hL hi g0 g1 g2 g3 hc hm hV hW)
  · refine swd ?_ (hW A M hc hm hV)
    rw [hl]
    omega
set_option maxRecDepth 20000 in
theorem e_lawT {M : Mm} {W : En → Mm → Prop} {ρ : En} (hx : ∀ j, inR (xs j)) (hL : L ≤ 3072) (g0 : ρ 0 = .inr (some 1000003)) (g1 : ρ 1 = .inr (some 0)) (g2 : ρ 2 = .inr (some 80)) (hc : CI M A0) (hm : MI M A0) : lawT L xs W (fun x _ => x = 1) ρ M := by
  simp only [lawT_e, sSeq, sLoc, sRet, iC]
  refine while_n (n := 600) (fun r ρ M2 => ∃ (i : Nat) (A : Ab), i + 6 * r = 3600 ∧ ρ 0 = .inr (some 1000003) ∧ ρ 1 = .inr (some 0) ∧ ρ 2 = .inr (some 80) ∧ ρ 3 = .inl (i : Int) ∧ CI M2 A ∧ MI M2 A ∧ A.V) ?_ ⟨0, A0, rfl, by simp [va_up, g0], by simp [va_up, g1], by simp [va_up, g2], by simp [va_up], hc, hm, A0_V⟩
  rintro r V hV ρ M2 ⟨i, A, hr, k0, k1, k2, k3, c2, m2, v2⟩
  have r1 : inR ((L : Int) - 6) := inR_s (by omega) (by omega)
  have r2 : L < 2147483648 := by omega
  simp only [cLe, iSub, iScL, iL, iC, k0, k3, r1, r2, ent_0, ent_1, ent_2, ent_3, ent_4, ent_5, ent_6, va_up_self, va_up_ne, ne_eq, Nat.reduceEqDiff, not_false_eq_true, not_true_eq_false, si_1, si_2, si_g, sr_1, sr_2, cp_1, cp_2, List.length_cons, List.length_nil, Nat.reduceAdd, true_and, and_true, and_self, eq_self, true_implies, forall_const, Bool.false_eq_true, false_implies, or_true, true_or, Option.some.injEq, Prod.mk.injEq, exists_eq_left', exists_eq', exists_and_left, reduceIte, Int.reduceEq, Int.reduceNe]
  by_cases h : (i : Int) ≤ L - 6
  · rw [if_pos h]
    refine e_round (i := i) hx hL (by omega) k0 k1 k2 k3 c2 m2 v2 (fun A2 M3 c3 m3 v3 => ?_)
    simp only [sInc, k3, ent_0, ent_1, ent_2, ent_3, ent_4, ent_5, ent_6, va_up_self, va_up_ne, ne_eq, Nat.reduceEqDiff, not_false_eq_true, not_true_eq_false, si_1, si_2, si_g, sr_1, sr_2, cp_1, cp_2, List.length_cons, List.length_nil, Nat.reduceAdd, true_and, and_true, and_self, eq_self, true_implies, forall_const, Bool.false_eq_true, false_implies, or_true, true_or, Option.some.injEq, Prod.mk.injEq, exists_eq_left', exists_eq', exists_and_left, reduceIte, Int.reduceEq, Int.reduceNe]
    exact ⟨inR_s (by omega) (by omega), hV _ _ (by omega) ⟨i + 6, A2, by omega, by simp [va_up, k0], by simp [va_up, k1], by simp [va_up, k2], by simp [va_up], c3, m3, v3⟩⟩
  · rw [if_neg h]
    trivial
set_option maxRecDepth 20000 in
theorem law_sem {L : Nat} (hL : L ≤ 3072) (xs : Nat → Int) (hx : ∀ j, inR (xs j)) : B_law L xs (fun _ _ => False) (fun x _ => x = 1) rho0 M00 := by
  simp only [B_law_e, sSeq, sLocR]
  refine e_rNew (P := []) (s := 0) rfl rfl (by decide) (by decide) (by decide) (fun M1 a1 a2 => e_X6_init a1 (fun M2 b1 b2 b3 => ?_))
  refine e_rNew (P := XP7) (s := 80) b1 rfl (by decide) (by decide) (by decide) (fun M3 d1 d2 => e_X7_init d1 (fun M4 f1 f2 f3 f4 => ?_))
  have hX : X6P M4 := b2.fr (fun q j hq => by rw [f4, if_neg (by omega), if_neg (by omega), if_neg (by omega), if_neg (by omega), d2]) (fun q j hq => by rw [f3 q j (by omega), d2])
  have hf : Fx M4 := Fx_join f1 hX f2
  have hi : ∀ q j, 80 ≤ q → M4.2.1 q j = if q = 81 ∧ j = 4 then 50 else if q = 81 ∧ j = 2 then 2 else if q = 81 ∧ j = 1 then 1 else if q = 81 ∧ j = 0 then 16 else 0 := by
    intro q j hq
    have e : M3.2.1 q j = 0 := by
      rw [d2, (b3 q j hq).1, a2]
      rfl
    rw [f4, e]
  exact e_lawT hx hL rfl rfl rfl (CI_join hf hX) (MI_join hf hi)
end LAW1
