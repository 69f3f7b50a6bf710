section ALO2
variable {W : En → Mm → Prop} {Rt : Int → Mm → Prop} {ρ : En} {M0 M : Mm} {A A2 : Ab} {K : Int → Mm → Prop} {k r : Nat}
set_option maxRecDepth 20000 in
theorem Ek_sil (h0 : ρ r = .inr (some 0)) (hV : A.now.V) : Ev (iCallV 6 m_X6_silence (rL r) (aI (iC 0) (aI (iC 600) (aN)))) ρ A (sndT A.now.sg) (setN (recA A) (vcS A.now 0 600 (-1))) := by
  have h := Ek_silence (A := A) h0 (Ev_c (z := 0)) (Ev_c (z := 600)) hV
  rw [sil_all.1, sil_all.2] at h
  exact h
set_option maxRecDepth 20000 in
theorem Ek_sal {e1 e2 e3 : IE} {f l y : Int} (h0 : ρ r = .inr (some 0)) (h1 : Ev e1 ρ A f A) (h2 : Ev e2 ρ A l A) (h3 : Ev e3 ρ A y A) (hV : A.now.V) (hf : 0 ≤ f ∧ f < A.now.n) (hl : 0 ≤ l ∧ l < A.now.n) (h : f ≤ l) (hy : -60 ≤ y ∧ y ≤ 60) : Ev (iCallV 6 m_X6_singAlong (rL r) (aI e1 (aI e2 (aI e3 (aN))))) ρ A (hitsA (vwS A.now f l y)) (setN (recA A) (vwS A.now f l y)) := by
  have h := Ek_singAlong (A := A) h0 h1 h2 h3 hV
  rw [sal_in hf hl ‹f ≤ l› hy] at h
  exact h
set_option maxRecDepth 20000 in
theorem alo_a (hV : A.now.V) (hk : k < A.now.n) (e : A2.now = aloS A.now k) (h0 : ρ 0 = .inr (some 0)) (h1 : ρ 1 = .inl (k : Int)) (h2 : ρ 2 = .inl (sndT A.now.sg)) (h3 : ρ 3 = .inl (sndT A.now.sg)) (h4 : ρ 4 = .inl (hitsA A2.now)) : Ev (iQ (cAnd (cAnd (cAnd (cAnd (cAnd (cEq (iL 3) (iL 2)) (cEq (iL 4) (iCallV 6 m_X6_total (rL 0) (aI (iC 10) (aN))))) (cEq (iCallV 6 m_X6_syllable (rL 0) (aI (iL 1) (aI (iC 7) (aN)))) (iC 100))) (cEq (iCallV 6 m_X6_syllable (rL 0) (aI (iL 1) (aI (iC 8) (aN)))) (iCallV 6 m_X6_syllable (rL 0) (aI (iL 1) (aI (iC 0) (aN)))))) (cEq (iCallV 6 m_X6_syllable (rL 0) (aI (iL 1) (aI (iC 9) (aN)))) (iC 0))) (cEq (iCallV 6 m_X6_total (rL 0) (aI (iC 8) (aN))) (iCallV 6 m_X6_syllable (rL 0) (aI (iL 1) (aI (iC 1) (aN)))))) (iC 1) (iC 0)) ρ A2 1 A2 := by
  have hV2 : A2.now.V := by rw [e]; exact aloS_V hV
  have hk2 : k < A2.now.n := by rw [e]; exact hk
  have hm := alo_m hV hk
  refine (Ev_qT (Ec_andT (Ec_andT (Ec_andT (Ec_andT (Ec_andT (Ec.T (Ec_eq (Ev_l h3) (Ev_l h2)) ?_) (Ec.T (Ec_eq (Ev_l h4) (Ev.cg (Ek_total h0 Ev_c hV2) to10)) ?_)) (Ec.T (Ec_eq (Ev.cg (Ek_syllable h0 (Ev_l h1) Ev_c hV2) (sy7 hk2)) Ev_c) ?_)) (Ec.T (Ec_eq (Ev.cg (Ek_syllable h0 (Ev_l h1) Ev_c hV2) (sy8 hk2)) (Ev.cg (Ek_syllable h0 (Ev_l h1) Ev_c hV2) (sy0 hk2))) ?_)) (Ec.T (Ec_eq (Ev.cg (Ek_syllable h0 (Ev_l h1) Ev_c hV2) (sy9 hk2)) Ev_c) ?_)) (Ec.T (Ec_eq (Ev.cg (Ek_total h0 Ev_c hV2) to8) (Ev.cg (Ek_syllable h0 (Ev_l h1) Ev_c hV2) (sy1 hk2))) ?_)) Ev_c)
  · rfl
  · rfl
  · rw [e]; exact hm.1
  · rw [e]; exact hm.2.1
  · rw [e]; exact hm.2.2.1
  · rw [e]; exact hm.2.2.2
theorem ptsV_nn {S : Sg} (hV : S.V) (t y : Int) : 0 ≤ ptsV S.n S.D S.st (shF S.sg t y) := (ptsS_b (S := (S.n, S.D, S.st, shF S.sg t y)) ⟨hV.1, hV.2.1, VG_sh _ _ _⟩).1
theorem alo_b (hV : A.now.V) (h0 : ρ 0 = .inr (some 0)) (h5 : ρ 5 = .inl 1) (h6 : ρ 6 = .inl (hitsA A.now)) : Ev (iQ (cAnd (cAnd (cNe (iL 5) (iC 0)) (cEq (iL 6) (iCallV 6 m_X6_total (rL 0) (aI (iC 10) (aN))))) (cOr (cEq (iCallV 6 m_X6_total (rL 0) (aI (iC 3) (aN))) (iC 1)) (cGe (iCallV 6 m_X6_ifShifted (rL 0) (aI (iC 0) (aI (iC 60) (aN)))) (iC 0)))) (iC 1) (iC 0)) ρ A 1 A := by
  refine (Ev_qT (Ec_andT (Ec_andT (Ec.T (Ec_ne (Ev_l h5) Ev_c) ?_) (Ec.T (Ec_eq (Ev_l h6) (Ev.cg (Ek_total h0 Ev_c hV) to10)) ?_)) (Ec.T (Ec_or (Ec_eq (Ev.cg (Ek_total h0 Ev_c hV) to3) Ev_c) (fun q => (Ec_ge (Ek_ifShifted h0 Ev_c Ev_c hV) Ev_c))) ?_)) Ev_c)
  · decide
  · rfl
  · refine .inr ?_
    rw [ifh_in (by decide) (by decide)]
    exact ptsV_nn hV _ _
set_option maxRecDepth 20000 in
theorem alo_c {S1 S2 S3 : Sg} (hV : A.V) (hV1 : S1.V) (hV2 : S2.V) (hV3 : S3.V) (h0 : ρ 0 = .inr (some 0)) (h5 : ρ 5 = .inl 1) (h2 : ρ 2 = .inl (sndT A.now.sg)) : ∃ A6, A6.V ∧ Ev (iQ (cAnd (cAnd (cAnd (cAnd (cNe (iL 5) (iC 0)) (cGe (iCallV 6 m_X6_undo (rL 0) (aN)) (iC 0))) (cGe (iCallV 6 m_X6_undo (rL 0) (aN)) (iC 0))) (cGe (iCallV 6 m_X6_undo (rL 0) (aN)) (iC 0))) (cEq (iCallV 6 m_X6_total (rL 0) (aI (iC 8) (aN))) (iL 2))) (iC 1) (iC 0)) ρ (setN (recA (setN (recA (setN (recA A) S1)) S2)) S3) 1 A6 := by
  obtain ⟨u1, u2, u3, u4⟩ := und_3 (A := A) (S1 := S1) (S2 := S2) (S3 := S3) hV.c4
  have v1 := setN_V (recA_V hV) hV1
  have v2 := setN_V (recA_V v1) hV2
  have v3 := setN_V (recA_V v2) hV3
  have v4 := undR_V (undR_V (undR_V v3))
  exact ⟨_, v4, Ev_qT (Ec_andT (Ec_andT (Ec_andT (Ec_andT (Ec.T (Ec_ne (Ev_l h5) Ev_c) (by decide)) (Ec.T (Ec_ge (Ek_undo h0) Ev_c) u1)) (Ec.T (Ec_ge (Ek_undo h0) Ev_c) u2)) (Ec.T (Ec_ge (Ek_undo h0) Ev_c) u3)) (Ec.T (Ec_eq (Ev.cg (Ek_total h0 Ev_c v4.nw) to8) (Ev_l h2)) (by rw [u4]))) Ev_c⟩
set_option maxRecDepth 20000 in
theorem alo_d (hV : A.V) (hk : k < A.now.n) (n0 : CN M0 M A) (h0 : ρ 0 = .inr (some 0)) (h1 : ρ 1 = .inl (k : Int)) (h2 : ρ 2 = .inl (sndT A.now.sg)) (hK : ∀ A2 M2, CN M0 M2 A2 → A2.V → Rt 1 M2) : (sSeq (sLoc 3 (iCallV 6 m_X6_silence (rL 0) (aI (iC 0) (aI (iC 600) (aN))))) (sSeq (sLoc 4 (iCallV 6 m_X6_singAlong (rL 0) (aI (iL 1) (aI (iL 1) (aI (iC 0) (aN)))))) (sSeq (sLoc 5 (iQ (cAnd (cAnd (cAnd (cAnd (cAnd (cEq (iL 3) (iL 2)) (cEq (iL 4) (iCallV 6 m_X6_total (rL 0) (aI (iC 10) (aN))))) (cEq (iCallV 6 m_X6_syllable (rL 0) (aI (iL 1) (aI (iC 7) (aN)))) (iC 100))) (cEq (iCallV 6 m_X6_syllable (rL 0) (aI (iL 1) (aI (iC 8) (aN)))) (iCallV 6 m_X6_syllable (rL 0) (aI (iL 1) (aI (iC 0) (aN)))))) (cEq (iCallV 6 m_X6_syllable (rL 0) (aI (iL 1) (aI (iC 9) (aN)))) (iC 0))) (cEq (iCallV 6 m_X6_total (rL 0) (aI (iC 8) (aN))) (iCallV 6 m_X6_syllable (rL 0) (aI (iL 1) (aI (iC 1) (aN)))))) (iC 1) (iC 0))) (sSeq (sLoc 6 (iCallV 6 m_X6_singAlong (rL 0) (aI (iC 0) (aI (iSub (iCallV 6 m_X6_total (rL 0) (aI (iC 5) (aN))) (iC 1)) (aI (iC 0) (aN)))))) (sSeq (sLoc 5 (iQ (cAnd (cAnd (cNe (iL 5) (iC 0)) (cEq (iL 6) (iCallV 6 m_X6_total (rL 0) (aI (iC 10) (aN))))) (cOr (cEq (iCallV 6 m_X6_total (rL 0) (aI (iC 3) (aN))) (iC 1)) (cGe (iCallV 6 m_X6_ifShifted (rL 0) (aI (iC 0) (aI (iC 60) (aN)))) (iC 0)))) (iC 1) (iC 0))) (sRet true (iQ (cAnd (cAnd (cAnd (cAnd (cNe (iL 5) (iC 0)) (cGe (iCallV 6 m_X6_undo (rL 0) (aN)) (iC 0))) (cGe (iCallV 6 m_X6_undo (rL 0) (aN)) (iC 0))) (cGe (iCallV 6 m_X6_undo (rL 0) (aN)) (iC 0))) (cEq (iCallV 6 m_X6_total (rL 0) (aI (iC 8) (aN))) (iL 2))) (iC 1) (iC 0)))))))) W Rt ρ M := by
  have hn := hV.nw.1.1
  have v1 := setN_V (recA_V hV) (vcS_V hV.nw 0 600 (-1))
  have v2 := setN_V (recA_V v1) (aloS_V (k := k) hV.nw)
  refine sq_loc n0 (Ek_sil h0 hV.nw) (fun M2 n2 => ?_)
  refine sq_loc n2 (Ek_sal (f := k) (l := k) (y := 0) h0 (Ev_l h1) (Ev_l h1) Ev_c v1.nw ⟨by omega, by show (k : Int) < A.now.n; omega⟩ ⟨by omega, by show (k : Int) < A.now.n; omega⟩ (Int.le_refl _) (by decide)) (fun M3 n3 => ?_)
  refine sq_loc n3 (alo_a hV.nw hk rfl h0 h1 h2 rfl rfl) (fun M4 n4 => ?_)
  refine sq_loc n4 (Ek_sal (f := 0) (l := (A.now.n : Int) - 1) (y := 0) h0 Ev_c (Ev_sub (Ev.cg (Ek_total h0 Ev_c v2.nw) to5) Ev_c (inR_s (by show -1000000 ≤ (A.now.n : Int) - 1; omega) (by show (A.now.n : Int) - 1 ≤ 1000000; omega))) Ev_c v2.nw ⟨by omega, by show (0 : Int) < A.now.n; omega⟩ ⟨by omega, by show (A.now.n : Int) - 1 < A.now.n; omega⟩ (by omega) (by decide)) (fun M5 n5 => ?_)
  refine sq_loc n5 (alo_b (vwS_V v2.nw _ _ _) h0 rfl rfl) (fun M6 n6 => ?_)
  obtain ⟨A6, v6, h⟩ := alo_c (S1 := vcS A.now 0 600 (-1)) (S2 := aloS A.now k) (S3 := vwS (aloS A.now k) 0 ((A.now.n : Int) - 1) 0) hV (vcS_V hV.nw _ _ _) (aloS_V hV.nw) (vwS_V (aloS_V hV.nw) _ _ _) (ρ := va_up (va_up (va_up (va_up (va_up ρ 3 (.inl (sndT A.now.sg))) 4 (.inl (hitsA (aloS A.now k)))) 5 (.inl 1)) 6 (.inl (hitsA (vwS (aloS A.now k) 0 ((A.now.n : Int) - 1) 0)))) 5 (.inl 1)) h0 rfl h2
  exact st_retB n6 h (fun M7 n7 => hK A6 M7 n7 v6)
set_option maxRecDepth 20000 in
theorem lm_alone (hc : CI M A) (hV : A.V) (hk : k < A.now.n) (hK : ∀ A2 M2, CN M M2 A2 → A2.V → K 1 M2) : m_L_alone [.inr (some 0), .inl (k : Int)] K M := by
  have hV1 := hV.nw
  refine ⟨rfl, ?_⟩
  unfold B_L_alone
  refine sq_loc hc.rf (Ev.cg (Ek_total rfl Ev_c hV1) to8) (fun M2 n2 => ?_)
  exact alo_d hV hk n2 rfl rfl rfl (fun A2 M3 n3 v => ⟨n3.2.1, hK A2 M3 n3 v⟩)
end ALO2
/-! ===== octaves ===== -/
theorem far_12 {st : Nat → Int} (h : st 3 = 1) (p w : Int) : far st (absI (p + 12 - w)) = far st (absI (p - w)) := by
  have e : ∀ x, far st (absI x) = if 12 - (absI x) % 12 < (absI x) % 12 then 12 - (absI x) % 12 else (absI x) % 12 := fun x => by
    have : 0 ≤ absI x := by unfold absI; split <;> omega
    unfold far
    rw [if_pos h, Int.tmod_eq_emod_of_nonneg this]
  rw [e, e]
  unfold absI
  (repeat' split) <;> omega
section OCT
variable {W : En → Mm → Prop} {Rt : Int → Mm → Prop} {ρ : En} {M0 M : Mm} {A : Ab} {K : Int → Mm → Prop} {S : Sg}
theorem oct_sg (hV : S.V) (h : ∀ t : Int, 0 ≤ t → t < 600 → sunV S t ≤ 48) (t : Int) : sgA (shF S.sg 0 12) t = if sgA S.sg t = -1 then -1 else sgA S.sg t + 12 := by
  by_cases ht : 0 ≤ t ∧ t < 600
  · have h1 := h t ht.1 ht.2
    have hb := sgA_b hV.2.2 t
    rw [sun_at ht] at h1
    have e : sgA (shF S.sg 0 12) t = if sgA S.sg (((t.toNat : Nat) : Int) - 0) = -1 then -1 else clp (sgA S.sg (((t.toNat : Nat) : Int) - 0) + 12) := by
      unfold sgA
      rw [if_pos ht]
      rfl
    have et : ((t.toNat : Nat) : Int) - 0 = t := by omega
    rw [e, et]
    by_cases c : sgA S.sg t = -1
    · rw [if_pos c, if_pos c]
    · rw [if_neg c] at h1
      rw [if_neg c, if_neg c]
      unfold clp
      rw [if_pos (by omega)]
  · have e1 : sgA (shF S.sg 0 12) t = -1 := by unfold sgA; rw [if_neg ht]
    have e2 : sgA S.sg t = -1 := by unfold sgA; rw [if_neg ht]
    rw [e1, e2, if_pos rfl]
theorem oct_m (hV : S.V) (h3 : S.st 3 = 1) (h : ∀ t : Int, 0 ≤ t → t < 600 → sunV S t ≤ 48) : ifhV S 0 12 = ptsS S := by
  rw [ifh_in (by decide) (by decide)]
  have hs := oct_sg hV h
  refine ptsV_cong (fun k hk => jd_cong (fun t => ?_) (fun j hj => ?_) (fun j hj => ?_))
  · have b1 := sgA_b hV.2.2 t
    have b2 := sgA_b hV.2.2 (t - 1)
    unfold on?
    rw [hs, hs]
    congr 1
    apply propext
    (repeat' split) <;> omega
  · unfold mB pj mt?
    rw [hs]
    have b1 := sgA_b hV.2.2 (S.D k 0 + j)
    generalize sgA S.sg (S.D k 0 + j) = g at *
    by_cases c : g = -1
    · rw [if_pos c]
      simp [c]
    · rw [if_neg c, far_12 h3]
      congr 1
      apply propext
      constructor
      · exact fun q => ⟨c, q.2⟩
      · exact fun q => ⟨by omega, q.2⟩
  · unfold pj
    rw [hs]
    have b1 := sgA_b hV.2.2 (S.D k 0 + j)
    split <;> omega
theorem oct_l (hV : A.now.V) {x0 : Int} (g0 : ρ 0 = .inr (some 0)) (g1 : ρ 1 = .inl x0) (gx : x0 = 0 ∨ (x0 = 1 ∧ A.now.st 3 = 1)) (g2 : ρ 2 = .inl 0) (n0 : CN M0 M A) (hW : ∀ ρ2 M2, CN M0 M2 A → ρ2 0 = .inr (some 0) → (ρ2 1 = .inl 0 ∨ (ρ2 1 = .inl 1 ∧ A.now.st 3 = 1 ∧ ∀ t : Int, 0 ≤ t → t < 600 → sunV A.now t ≤ 48)) → W ρ2 M2) : (sWhile (cAnd (cLt (iL 2) (iC 600)) (cNe (iL 1) (iC 0))) (sSeq (sLoc 1 (iQ (cLe (iAdd (iCallV 6 m_X6_sung (rL 0) (aI (iL 2) (aN))) (iC 12)) (iC 60)) (iC 1) (iC 0))) (sInc 2 1))) W Rt ρ M := by
  obtain ⟨N, hN⟩ : ∃ N : Nat, N = 600 := ⟨600, rfl⟩
  refine while_n (n := N) (fun r ρ2 M2 => ∃ (t : Nat) (x : Int), t + r = N ∧ ρ2 0 = .inr (some 0) ∧ ρ2 1 = .inl x ∧ (x = 0 ∨ (x = 1 ∧ A.now.st 3 = 1 ∧ ∀ u : Int, 0 ≤ u → u < t → sunV A.now u ≤ 48)) ∧ ρ2 2 = .inl (t : Int) ∧ CN M0 M2 A) ?_ ⟨0, x0, by omega, g0, g1, gx.imp id (fun q => ⟨q.1, q.2, fun u h1 h2 => by omega⟩), g2, n0⟩
  rintro r V hVV ρ2 M2 ⟨t, x, hr, h0, h1, hx, h2, n2⟩
  refine (Ec_and (Ec_lt (Ev_l h2) Ev_c) (fun q => (Ec_ne (Ev_l h1) Ev_c))) _ _ M2 n2.1 (fun hp M3 n3 => ?_) (fun hp M3 n3 => ?_)
  · have n3 := n2.tr n3
    have hs := sun_b hV (t := t) ⟨by omega, by omega⟩
    refine sq_loc n3 (Ev_qI (Ec_le (Ev_add (Ek_sung h0 (Ev_l h2)) Ev_c (by first | exact inR_s (by omega) (by omega) | exact ⟨by omega, by omega⟩)) Ev_c) (fun q => Ev_c) (fun q => Ev_c)) (fun M4 n4 => ?_)
    refine st_inc (z := (t : Int)) h2 (inR_s (by omega) (by omega)) (hVV _ _ (by omega) ⟨t + 1, _, by omega, h0, rfl, ?_, rfl, n4⟩)
    by_cases c : sunV A.now t + 12 ≤ 60
    · rw [if_pos c]
      rcases hx with hx | ⟨hx, h3, hu⟩
      · exact absurd hx hp.2
      · refine .inr ⟨rfl, h3, fun u q1 q2 => ?_⟩
        by_cases e : u = t
        · subst e; omega
        · exact hu u q1 (by omega)
    · rw [if_neg c]
      exact .inl rfl
  · refine hW ρ2 M3 (n2.tr n3) h0 ?_
    rcases hx with hx | ⟨hx, h3, hu⟩
    · rw [hx] at h1
      exact .inl h1
    · refine .inr ⟨by rw [← hx]; exact h1, h3, fun u q1 q2 => hu u q1 ?_⟩
      have : ¬ ((t : Int) < 600) := fun q => hp ⟨q, by omega⟩
      omega
theorem lm_octaves (hc : CI M A) (hV : A.now.V) (hK : ∀ M2, CN M M2 A → K 1 M2) : m_L_octaves [.inr (some 0)] K M := by
  refine ⟨rfl, ?_⟩
  unfold B_L_octaves
  refine sq_loc hc.rf (Ev_qI (Ec_eq (Ev.cg (Ek_total rfl Ev_c hV) to3) Ev_c) (fun q => Ev_c) (fun q => Ev_c)) (fun M2 n2 => ?_)
  refine sq_a (st_loc n2 Ev_c (fun M3 n3 => ?_))
  refine oct_l hV rfl rfl (by split <;> simp_all) rfl n3 (fun ρ2 M4 n4 h0 h1 => ?_)
  refine st_retB n4 ?_ (fun M5 n5 => ⟨n5.2.1, hK M5 n5⟩)
  rcases h1 with h1 | ⟨h1, h3, h⟩
  · exact Ev_qT (Ec_orT (Ec.T (Ec_not (Ec_ne (Ev_l h1) Ev_c)) (by simp))) Ev_c
  · exact Ev_qT (Ec.T (Ec_or (Ec_not (Ec_ne (Ev_l h1) Ev_c)) (fun q => (Ec_eq (Ek_ifShifted h0 Ev_c Ev_c hV) (Ev.cg (Ek_total h0 Ev_c hV) to11)))) (.inr (oct_m hV h3 h))) Ev_c
end OCT
