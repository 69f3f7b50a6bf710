section ISY
variable {K : Int → Mm → Prop} {M0 M : Mm} {A : Ab} {k : Nat} {ρ : En} {W : En → Mm → Prop} {Rt : Int → Mm → Prop}
theorem isy_a (hV : A.now.V) (hk : k < A.now.n) (h0 : ρ 0 = .inr (some 0)) (h1 : ρ 1 = .inl (k : Int)) (h2 : ρ 2 = .inl (A.now.D k 0)) (h3 : ρ 3 = .inl (A.now.D k 1)) (h4 : ρ 4 = .inl (A.now.D k 2)) (h5 : ρ 5 = .inl (A.now.D k 3)) : Ev (iQ (cAnd (cAnd (cAnd (cAnd (cAnd (cAnd (cAnd (cGe (iL 2) (iC 0)) (cLe (iAdd (iL 2) (iL 3)) (iC 600))) (cOr (cEq (iL 2) (iC 0)) (cEq (iCallV 6 m_X6_lit (rL 0) (aI (iL 1) (aI (iSub (iL 2) (iC 1)) (aN)))) (iC 0)))) (cEq (iCallV 6 m_X6_lit (rL 0) (aI (iL 1) (aI (iL 2) (aN)))) (iC 1))) (cEq (iCallV 6 m_X6_lit (rL 0) (aI (iL 1) (aI (iSub (iAdd (iL 2) (iL 3)) (iC 1)) (aN)))) (iL 3))) (cEq (iCallV 6 m_X6_lit (rL 0) (aI (iL 1) (aI (iC 599) (aN)))) (iL 3))) (cEq (iCallV 6 m_X6_wanted (rL 0) (aI (iL 2) (aN))) (iL 4))) (cOr (cEq (iL 3) (iC 1)) (cEq (iCallV 6 m_X6_wanted (rL 0) (aI (iSub (iAdd (iL 2) (iL 3)) (iC 1)) (aN))) (iL 5)))) (iC 1) (iC 0)) ρ A 1 A := by
  have hb := hV.1.2.1 k hk
  refine (Ev_qT (Ec_andT (Ec_andT (Ec_andT (Ec_andT (Ec_andT (Ec_andT (Ec_andT (Ec.T (Ec_ge (Ev_l h2) Ev_c) ?_) (Ec.T (Ec_le (Ev_add (Ev_l h2) (Ev_l h3) (by first | exact inR_s (by omega) (by omega) | exact ⟨by omega, by omega⟩)) Ev_c) ?_)) (Ec.T (Ec_or (Ec_eq (Ev_l h2) Ev_c) (fun q => (Ec_eq (Ek_lit h0 (Ev_l h1) (Ev_sub (Ev_l h2) Ev_c (by first | exact inR_s (by omega) (by omega) | exact ⟨by omega, by omega⟩)) hV) Ev_c))) ?_)) (Ec.T (Ec_eq (Ek_lit h0 (Ev_l h1) (Ev_l h2) hV) Ev_c) ?_)) (Ec.T (Ec_eq (Ek_lit h0 (Ev_l h1) (Ev_sub (Ev_add (Ev_l h2) (Ev_l h3) (by first | exact inR_s (by omega) (by omega) | exact ⟨by omega, by omega⟩)) Ev_c (by first | exact inR_s (by omega) (by omega) | exact ⟨by omega, by omega⟩)) hV) (Ev_l h3)) ?_)) (Ec.T (Ec_eq (Ek_lit h0 (Ev_l h1) Ev_c hV) (Ev_l h3)) ?_)) (Ec.T (Ec_eq (Ek_wanted h0 (Ev_l h2) hV) (Ev_l h4)) ?_)) (Ec.T (Ec_or (Ec_eq (Ev_l h3) Ev_c) (fun q => (Ec_eq (Ek_wanted h0 (Ev_sub (Ev_add (Ev_l h2) (Ev_l h3) (by first | exact inR_s (by omega) (by omega) | exact ⟨by omega, by omega⟩)) Ev_c (by first | exact inR_s (by omega) (by omega) | exact ⟨by omega, by omega⟩)) hV) (Ev_l h5)))) ?_)) Ev_c)
  · omega
  · omega
  · by_cases h : A.now.D k 0 = 0
    · exact .inl h
    · exact .inr (m_lit0 hV hk h)
  · exact m_lit1 hV hk
  · exact m_lit2 hV hk
  · exact m_lit3 hV hk
  · exact m_wan0 hV hk
  · by_cases h : A.now.D k 1 = 1
    · exact .inl h
    · exact .inr (m_wan1 hV hk h)
theorem isy_loop (hV : A.now.V) (hk : k < A.now.n) (g0 : ρ 0 = .inr (some 0)) (g2 : ρ 2 = .inl (A.now.D k 0)) (g3 : ρ 3 = .inl (A.now.D k 1)) (g4 : ρ 4 = .inl (A.now.D k 2)) (g5 : ρ 5 = .inl (A.now.D k 3)) (g7 : ρ 7 = .inl 0) (g8 : ρ 8 = .inl 1) (g9 : ρ 9 = .inl (A.now.D k 0)) (n0 : CN M0 M A) (hW : ∀ ρ2 M2, CN M0 M2 A → (∀ i, i < 7 → ρ2 i = ρ i) → ρ2 7 = .inl (mcF A.now.D A.now.st A.now.sg k) → ρ2 8 = .inl 1 → W ρ2 M2) : (sWhile (cAnd (cLt (iL 9) (iAdd (iL 2) (iL 3))) (cNe (iL 8) (iC 0))) (sSeq (sSeq (sLoc 10 (iCallV 6 m_X6_wanted (rL 0) (aI (iL 9) (aN)))) (sSeq (sLoc 11 (iQ (cLt (iCallV 6 m_X6_sung (rL 0) (aI (iL 9) (aN))) (iL 10)) (iSub (iL 10) (iCallV 6 m_X6_sung (rL 0) (aI (iL 9) (aN)))) (iSub (iCallV 6 m_X6_sung (rL 0) (aI (iL 9) (aN))) (iL 10)))) (sSeq (sLoc 11 (iQ (cEq (iCallV 6 m_X6_total (rL 0) (aI (iC 3) (aN))) (iC 0)) (iL 11) (iQ (cGt (iRem (iL 11) (iC 12)) (iC 6)) (iSub (iC 12) (iRem (iL 11) (iC 12))) (iRem (iL 11) (iC 12))))) (sSeq (sLoc 7 (iAdd (iL 7) (iQ (cAnd (cGe (iCallV 6 m_X6_sung (rL 0) (aI (iL 9) (aN))) (iC 0)) (cLe (iL 11) (iCallV 6 m_X6_total (rL 0) (aI (iC 1) (aN))))) (iC 1) (iC 0)))) (sLoc 8 (iQ (cAnd (cGe (iL 10) (iQ (cLt (iL 4) (iL 5)) (iL 4) (iL 5))) (cLe (iL 10) (iQ (cLt (iL 4) (iL 5)) (iL 5) (iL 4)))) (iC 1) (iC 0))))))) (sInc 9 1))) W Rt ρ M := by
  have hb := hV.1.2.1 k hk
  have hlen : (len A.now.D k : Int) = A.now.D k 1 := by unfold len; omega
  refine while_n (n := len A.now.D k) (fun r ρ2 M2 => ∃ j : Nat, j + r = len A.now.D k ∧ (∀ i, i < 7 → ρ2 i = ρ i) ∧ ρ2 7 = .inl (mcS A.now.D A.now.st A.now.sg k j) ∧ ρ2 8 = .inl 1 ∧ ρ2 9 = .inl (A.now.D k 0 + j) ∧ CN M0 M2 A) ?_ ⟨0, by omega, fun _ _ => rfl, g7, g8, by rw [g9]; congr 1; omega, n0⟩
  rintro r V hVV ρ2 M2 ⟨j, hr, hI, h7, h8, h9, n2⟩
  have h0 : ρ2 0 = .inr (some 0) := (hI 0 (by decide)).trans g0
  have h2 := (hI 2 (by decide)).trans g2
  have h3 := (hI 3 (by decide)).trans g3
  have h4 := (hI 4 (by decide)).trans g4
  have h5 := (hI 5 (by decide)).trans g5
  have hmc := mcS_b A.now.D A.now.st A.now.sg k j
  refine (Ec_and (Ec_lt (Ev_l h9) (Ev_add (Ev_l h2) (Ev_l h3) (by first | exact inR_s (by omega) (by omega) | exact ⟨by omega, by omega⟩))) (fun q => (Ec_ne (Ev_l h8) Ev_c))) _ _ M2 n2.1 (fun hp M3 n3 => ?_) (fun hp M3 n3 => ?_)
  · have n3 := n2.tr n3
    have hj : (j : Int) < A.now.D k 1 := by omega
    have hs := sun_b hV (t := A.now.D k 0 + j) ⟨by omega, by omega⟩
    have hw := wn_60 hV.1 hk (j := j) ⟨by omega, hj⟩
    have hbt := wn_btw hV.1 hk (j := j) ⟨by omega, hj⟩
    have e1 := m_wan hV hk (j := j) ⟨by omega, hj⟩
    refine sq_a (st_loc n3 (Ev.cg (Ek_wanted h0 (Ev_l h9) hV) e1) (fun M4 n4 => ?_))
    obtain ⟨o1, ho1⟩ : ∃ o1, o1 = if sunV A.now (A.now.D k 0 + j) < wn A.now.D k j then wn A.now.D k j - sunV A.now (A.now.D k 0 + j) else sunV A.now (A.now.D k 0 + j) - wn A.now.D k j := ⟨_, rfl⟩
    have b1 : 0 ≤ o1 ∧ o1 ≤ 100 := by rw [ho1]; split <;> omega
    refine sq_loc n4 (Ev.cg (Ev_qI (Ec_lt (Ek_sung h0 (Ev_l h9)) (Ev_l rfl)) (fun q => (Ev_sub (Ev_l rfl) (Ek_sung h0 (Ev_l h9)) (by first | exact inR_s (by omega) (by omega) | exact ⟨by omega, by omega⟩))) (fun q => (Ev_sub (Ek_sung h0 (Ev_l h9)) (Ev_l rfl) (by first | exact inR_s (by omega) (by omega) | exact ⟨by omega, by omega⟩)))) ho1.symm) (fun M5 n5 => ?_)
    have b2 := tmod_b b1.1
    obtain ⟨o2, ho2⟩ : ∃ o2, o2 = if A.now.st 3 = 0 then o1 else if 6 < o1.tmod 12 then 12 - o1.tmod 12 else o1.tmod 12 := ⟨_, rfl⟩
    refine sq_loc n5 (Ev.cg (Ev_qI (Ec_eq (Ev.cg (Ek_total h0 Ev_c hV) to3) Ev_c) (fun q => (Ev_l rfl)) (fun q => (Ev_qI (Ec_gt (Ev_rem (Ev_l rfl) Ev_c (by omega) (by first | exact inR_s (by omega) (by omega) | exact ⟨by omega, by omega⟩)) Ev_c) (fun q => (Ev_sub Ev_c (Ev_rem (Ev_l rfl) Ev_c (by omega) (by first | exact inR_s (by omega) (by omega) | exact ⟨by omega, by omega⟩)) (by first | exact inR_s (by omega) (by omega) | exact ⟨by omega, by omega⟩))) (fun q => (Ev_rem (Ev_l rfl) Ev_c (by omega) (by first | exact inR_s (by omega) (by omega) | exact ⟨by omega, by omega⟩)))))) ho2.symm) (fun M6 n6 => ?_)
    have hm := m_match hV hk hj ho1 ho2
    have e7 : mcS A.now.D A.now.st A.now.sg k j + (if 0 ≤ sunV A.now (A.now.D k 0 + j) ∧ o2 ≤ A.now.st 1 then 1 else 0) = mcS A.now.D A.now.st A.now.sg k (j + 1) := by
      show _ = mcS A.now.D A.now.st A.now.sg k j + (if mB A.now.D A.now.st A.now.sg k j = true then 1 else 0)
      simp only [hm]
    have r7 : inR (mcS A.now.D A.now.st A.now.sg k j + (if 0 ≤ sunV A.now (A.now.D k 0 + j) ∧ o2 ≤ A.now.st 1 then 1 else 0)) := by
      have := mcS_b A.now.D A.now.st A.now.sg k (j + 1)
      rw [e7]
      exact inR_s (by omega) (by omega)
    refine sq_loc n6 (Ev.cg (Ev_add (Ev_l h7) (Ev_qI (Ec_and (Ec_ge (Ek_sung h0 (Ev_l h9)) Ev_c) (fun q => (Ec_le (Ev_l rfl) (Ev.cg (Ek_total h0 Ev_c hV) to1)))) (fun q => Ev_c) (fun q => Ev_c)) r7) e7) (fun M7 n7 => ?_)
    refine st_loc (v := 1) n7 (Ev_qT (Ec_andT (Ec.T (Ec_ge (Ev_l rfl) (Ev_qI (Ec_lt (Ev_l h4) (Ev_l h5)) (fun q => (Ev_l h4)) (fun q => (Ev_l h5)))) ?_) (Ec.T (Ec_le (Ev_l rfl) (Ev_qI (Ec_lt (Ev_l h4) (Ev_l h5)) (fun q => (Ev_l h5)) (fun q => (Ev_l h4)))) ?_)) Ev_c) (fun M8 n8 => ?_)
    · show (if A.now.D k 2 < A.now.D k 3 then A.now.D k 2 else A.now.D k 3) ≤ wn A.now.D k j
      split
      · exact (hbt.1 (by omega)).1
      · exact (hbt.2 (by omega)).1
    · show wn A.now.D k j ≤ (if A.now.D k 2 < A.now.D k 3 then A.now.D k 3 else A.now.D k 2)
      split
      · exact (hbt.1 (by omega)).2
      · exact (hbt.2 (by omega)).2
    · refine st_inc (z := A.now.D k 0 + j) h9 (inR_s (by omega) (by omega)) (hVV _ _ (by omega) ⟨j + 1, by omega, fun i hi => ?_, rfl, rfl, ?_, n8⟩)
      · simp only [va_up]
        rw [if_neg (by omega), if_neg (by omega), if_neg (by omega), if_neg (by omega), if_neg (by omega), if_neg (by omega)]
        exact hI i hi
      · simp only [va_up, if_true]
        congr 1
        omega
  · have hj : j = len A.now.D k := by
      by_cases h : j < len A.now.D k
      · exact absurd ⟨by omega, by decide⟩ hp
      · omega
    subst hj
    exact hW ρ2 M3 (n2.tr n3) hI h7 h8
theorem isy_b (hV : A.now.V) (hk : k < A.now.n) (h0 : ρ 0 = .inr (some 0)) (h1 : ρ 1 = .inl (k : Int)) (h2 : ρ 2 = .inl (A.now.D k 0)) (h3 : ρ 3 = .inl (A.now.D k 1)) (h6 : ρ 6 = .inl (onF A.now.D A.now.st A.now.sg k)) (h7 : ρ 7 = .inl (mcF A.now.D A.now.st A.now.sg k)) (h8 : ρ 8 = .inl 1) : Ev (iQ (cAnd (cAnd (cAnd (cNe (iL 8) (iC 0)) (cEq (iCallV 6 m_X6_syllable (rL 0) (aI (iL 1) (aI (iC 6) (aN)))) (iL 7))) (cEq (iCallV 6 m_X6_syllable (rL 0) (aI (iL 1) (aI (iC 7) (aN)))) (iDiv (iMul (iL 7) (iC 100)) (iL 3)))) (cOr (cEq (iL 6) (iC (-5))) (cAnd (cAnd (cAnd (cLe (iSub (iL 6) (iL 2)) (iCallV 6 m_X6_total (rL 0) (aI (iC 2) (aN)))) (cLe (iSub (iL 2) (iL 6)) (iCallV 6 m_X6_total (rL 0) (aI (iC 2) (aN))))) (cGe (iCallV 6 m_X6_sung (rL 0) (aI (iL 6) (aN))) (iC 0))) (cOr (cEq (iL 6) (iC 0)) (cNe (iCallV 6 m_X6_sung (rL 0) (aI (iSub (iL 6) (iC 1)) (aN))) (iCallV 6 m_X6_sung (rL 0) (aI (iL 6) (aN)))))))) (iC 1) (iC 0)) ρ A 1 A := by
  have hb := hV.1.2.1 k hk
  have ho := onF_b (sg := A.now.sg) hV.1 hV.2.1 hk
  have hmc : 0 ≤ mcF A.now.D A.now.st A.now.sg k ∧ mcF A.now.D A.now.st A.now.sg k ≤ 32 := by
    have := mcS_b A.now.D A.now.st A.now.sg k (len A.now.D k)
    have : len A.now.D k ≤ 32 := by unfold len; omega
    unfold mcF
    omega
  have hsh := shV_b (st := A.now.st) (sg := A.now.sg) hV.1 hk
  have esh : (mcF A.now.D A.now.st A.now.sg k * 100).tdiv (A.now.D k 1) = shV A.now.D A.now.st A.now.sg k := rfl
  have hsp := onF_spec hV hk
  refine (Ev_qT (Ec_andT (Ec_andT (Ec_andT (Ec.T (Ec_ne (Ev_l h8) Ev_c) ?_) (Ec.T (Ec_eq (Ev.cg (Ek_syllable h0 (Ev_l h1) Ev_c hV) (sy6 hk)) (Ev_l h7)) ?_)) (Ec.T (Ec_eq (Ev.cg (Ek_syllable h0 (Ev_l h1) Ev_c hV) (sy7 hk)) (Ev_div (Ev_mul (Ev_l h7) Ev_c (by first | exact inR_s (by omega) (by omega) | (rw [esh]; exact inR_s (by omega) (by omega)))) (Ev_l h3) (by omega) (by first | exact inR_s (by omega) (by omega) | (rw [esh]; exact inR_s (by omega) (by omega))))) ?_)) (Ec.T (Ec_or (Ec_eq (Ev_l h6) Ev_c) (fun q => (Ec_and (Ec_and (Ec_and (Ec_le (Ev_sub (Ev_l h6) (Ev_l h2) (by first | exact inR_s (by omega) (by omega) | (rw [esh]; exact inR_s (by omega) (by omega)))) (Ev.cg (Ek_total h0 Ev_c hV) to2)) (fun q => (Ec_le (Ev_sub (Ev_l h2) (Ev_l h6) (by first | exact inR_s (by omega) (by omega) | (rw [esh]; exact inR_s (by omega) (by omega)))) (Ev.cg (Ek_total h0 Ev_c hV) to2)))) (fun q => (Ec_ge (Ek_sung h0 (Ev_l h6)) Ev_c))) (fun q => (Ec_or (Ec_eq (Ev_l h6) Ev_c) (fun q => (Ec_ne (Ek_sung h0 (Ev_sub (Ev_l h6) Ev_c (by first | exact inR_s (by omega) (by omega) | (rw [esh]; exact inR_s (by omega) (by omega))))) (Ek_sung h0 (Ev_l h6))))))))) ?_)) Ev_c)
  · decide
  · rfl
  · rfl
  · rcases hsp with h | ⟨c1, c2, c3⟩
    · exact .inl h
    · have hi := on_in c1
      have hm := (m_on hV (x := onF A.now.D A.now.st A.now.sg k) ⟨hi.1, hi.2.1⟩).mpr c1
      exact .inr ⟨⟨⟨c2, c3⟩, hm.1⟩, hm.2⟩
theorem isy_c (hV : A.now.V) (hk : k < A.now.n) (h0 : ρ 0 = .inr (some 0)) (h1 : ρ 1 = .inl (k : Int)) (h3 : ρ 3 = .inl (A.now.D k 1)) (h6 : ρ 6 = .inl (onF A.now.D A.now.st A.now.sg k)) (h8 : ρ 8 = .inl 1) : Ev (iQ (cAnd (cAnd (cAnd (cAnd (cAnd (cNe (iL 8) (iC 0)) (cQ (cEq (iCallV 6 m_X6_syllable (rL 0) (aI (iL 1) (aI (iC 9) (aN)))) (iC 0)) (cAnd (cGe (iL 6) (iC 0)) (cGe (iCallV 6 m_X6_syllable (rL 0) (aI (iL 1) (aI (iC 7) (aN)))) (iCallV 6 m_X6_total (rL 0) (aI (iC 4) (aN))))) (cEq (iCallV 6 m_X6_syllable (rL 0) (aI (iL 1) (aI (iC 10) (aN)))) (iC 0)))) (cGe (iCallV 6 m_X6_syllable (rL 0) (aI (iL 1) (aI (iC 9) (aN)))) (iC 0))) (cLe (iCallV 6 m_X6_syllable (rL 0) (aI (iL 1) (aI (iC 9) (aN)))) (iC 4))) (cLe (iCallV 6 m_X6_syllable (rL 0) (aI (iL 1) (aI (iC 5) (aN)))) (iDiv (iL 3) (iC 2)))) (cLe (iCallV 6 m_X6_syllable (rL 0) (aI (iL 1) (aI (iC 11) (aN)))) (iC 10))) (iC 1) (iC 0)) ρ A 1 A := by
  have hb := hV.1.2.1 k hk
  have hrs := rs_b (S := A.now) k
  have hd := tdiv_nn (a := A.now.D k 1) (b := 2) (by omega) (by omega)
  have hsp := onF_spec hV hk
  refine (Ev_qT (Ec_andT (Ec_andT (Ec_andT (Ec_andT (Ec_andT (Ec.T (Ec_ne (Ev_l h8) Ev_c) ?_) ?_) (Ec.T (Ec_ge (Ev.cg (Ek_syllable h0 (Ev_l h1) Ev_c hV) (sy9 hk)) Ev_c) ?_)) (Ec.T (Ec_le (Ev.cg (Ek_syllable h0 (Ev_l h1) Ev_c hV) (sy9 hk)) Ev_c) ?_)) (Ec.T (Ec_le (Ev.cg (Ek_syllable h0 (Ev_l h1) Ev_c hV) (sy5 hk)) (Ev_div (Ev_l h3) Ev_c (by omega) (by first | exact inR_s (by omega) (by omega) | exact ⟨by omega, by omega⟩))) ?_)) (Ec.T (Ec_le (Ev.cg (Ek_syllable h0 (Ev_l h1) Ev_c hV) (sy11 hk)) Ev_c) ?_)) Ev_c)
  · decide
  · refine Ec_Q (p := rsS A.now k = 0) (Ec_eq (Ev.cg (Ek_syllable h0 (Ev_l h1) Ev_c hV) (sy9 hk)) Ev_c) (fun q => (Ec.T (Ec_and (Ec_ge (Ev_l h6) Ev_c) (fun q => (Ec_ge (Ev.cg (Ek_syllable h0 (Ev_l h1) Ev_c hV) (sy7 hk)) (Ev.cg (Ek_total h0 Ev_c hV) to4)))) ⟨?_, (rs_0 q).2⟩)) (fun q => (Ec.T (Ec_eq (Ev.cg (Ek_syllable h0 (Ev_l h1) Ev_c hV) (sy10 hk)) Ev_c) (pt_0 q)))
    rcases hsp with h | ⟨c1, c2, c3⟩
    · exact absurd h (rs_0 q).1
    · exact (on_in c1).1
  · exact hrs.1
  · exact hrs.2
  · exact bl_half hV.1 hk hV.2.1.1.1
  · exact (mn10_b (rwA_b _ _ _).1).2
theorem l_isSyllable (hc : CI M A) (hV : A.now.V) (hk : k < A.now.n) (hK : ∀ M2, CN M M2 A → K 1 M2) : m_L_isSyllable [.inr (some 0), .inl (k : Int)] K M := by
  refine ⟨rfl, ?_⟩
  unfold B_L_isSyllable
  refine sq_loc hc.rf (Ev.cg (Ek_syllable rfl (Ev_l rfl) Ev_c hV) (sy0 hk)) (fun M2 n2 => ?_)
  refine sq_loc n2 (Ev.cg (Ek_syllable rfl (Ev_l rfl) Ev_c hV) (sy1 hk)) (fun M3 n3 => ?_)
  refine sq_loc n3 (Ev.cg (Ek_syllable rfl (Ev_l rfl) Ev_c hV) (sy2 hk)) (fun M4 n4 => ?_)
  refine sq_loc n4 (Ev.cg (Ek_syllable rfl (Ev_l rfl) Ev_c hV) (sy3 hk)) (fun M5 n5 => ?_)
  refine sq_loc n5 (Ev.cg (Ek_syllable rfl (Ev_l rfl) Ev_c hV) (sy8 hk)) (fun M6 n6 => ?_)
  refine sq_loc n6 Ev_c (fun M7 n7 => ?_)
  refine sq_loc n7 (isy_a hV hk rfl rfl rfl rfl rfl rfl) (fun M8 n8 => ?_)
  refine sq_a (st_loc n8 (Ev_l rfl) (fun M9 n9 => ?_))
  refine isy_loop hV hk rfl rfl rfl rfl rfl rfl rfl rfl n9 (fun ρ2 M10 n10 hI h7 h8 => ?_)
  have h0 := hI 0 (by decide)
  have h1 := hI 1 (by decide)
  have h2 := hI 2 (by decide)
  have h3 := hI 3 (by decide)
  have h6 := hI 6 (by decide)
  refine sq_loc n10 (isy_b hV hk h0 h1 h2 h3 h6 h7 h8) (fun M11 n11 => ?_)
  exact st_retB n11 (isy_c hV hk h0 h1 h3 h6 rfl) (fun M12 n12 => ⟨n12.2.1, hK M12 n12⟩)
end ISY
