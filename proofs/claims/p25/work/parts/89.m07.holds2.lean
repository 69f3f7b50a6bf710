theorem sm_1 : ∀ n : Nat, sm (fun _ => 1) n = n
  | 0 => rfl
  | n + 1 => by
    show sm (fun _ => 1) n + 1 = _
    rw [sm_1 n]
    omega
section HOL3
variable {W : En → Mm → Prop} {Rt : Int → Mm → Prop} {ρ : En} {M0 M : Mm} {A : Ab} {f s z : Nat} {K : Int → Mm → Prop}
theorem hol_in (hV : A.now.V) (hf : f < pcN A.now.n A.now.D) (e1 : fsP A.now.D f A.now.n = s) (e2 : szP A.now.D f A.now.n = z) (hsz : s + z ≤ A.now.n) (hph : ∀ i, i < z → ph A.now.D (s + i) = f) (g0 : ρ 0 = .inr (some 0)) (g10 : ρ 10 = .inl (f : Int)) (g11 : ρ 11 = .inl 0) (g12 : ρ 12 = .inl (s : Int)) (n0 : CN M0 M A) (hW : ∀ ρ2 M2, CN M0 M2 A → (∀ i, i < 11 → ρ2 i = ρ i) → ρ2 11 = .inl (sm (fun i => ptS A.now (s + i)) z) → W ρ2 M2) : (sWhile (cLt (iL 12) (iAdd (iCallV 6 m_X6_phrase (rL 0) (aI (iL 10) (aI (iC 0) (aN)))) (iCallV 6 m_X6_phrase (rL 0) (aI (iL 10) (aI (iC 1) (aN)))))) (sSeq (sLoc 11 (iAdd (iL 11) (iQ (cEq (iCallV 6 m_X6_syllable (rL 0) (aI (iL 12) (aI (iC 4) (aN)))) (iL 10)) (iCallV 6 m_X6_syllable (rL 0) (aI (iL 12) (aI (iC 10) (aN)))) (iC 100000)))) (sInc 12 1))) W Rt ρ M := by
  have hn := hV.1.1
  refine while_n (n := z) (fun r ρ2 M2 => ∃ i : Nat, i + r = z ∧ (∀ i, i < 11 → ρ2 i = ρ i) ∧ ρ2 11 = .inl (sm (fun i => ptS A.now (s + i)) i) ∧ ρ2 12 = .inl ((s + i : Nat) : Int) ∧ CN M0 M2 A) ?_ ⟨0, by omega, fun _ _ => rfl, g11, g12, n0⟩
  rintro r V hVV ρ2 M2 ⟨i, hr, hI, h11, h12, n2⟩
  have h0 : ρ2 0 = .inr (some 0) := (hI 0 (by decide)).trans g0
  have h10 := (hI 10 (by decide)).trans g10
  refine (Ec_lt (Ev_l h12) (Ev_add (Ev.cg (Ek_phrase h0 (Ev_l h10) Ev_c hV) (pr0 hV hf)) (Ev.cg (Ek_phrase h0 (Ev_l h10) Ev_c hV) (pr1 hV hf)) (by first | exact inR_s (by omega) (by omega) | exact ⟨by omega, by omega⟩))) _ _ M2 n2.1 (fun hp M3 n3 => ?_) (fun hp M3 n3 => ?_)
  · have n3 := n2.tr n3
    rw [e1, e2] at hp
    have hi : i < z := by omega
    have hk : s + i < A.now.n := by omega
    have hb := sm_b (f := fun i => ptS A.now (s + i)) (a := 0) (b := 6800) (n := i) (fun j hj => pt_b0 hV (by omega))
    have hb2 := pt_b0 hV hk
    have hpi := hph i hi
    refine sq_loc (v := sm (fun i => ptS A.now (s + i)) (i + 1)) n3 (Ev.cg (Ev_add (Ev_l h11) (Ev_qI (Ec_eq (Ev.cg (Ek_syllable h0 (Ev_l h12) Ev_c hV) (sy4 hk)) (Ev_l h10)) (fun q => (Ev.cg (Ek_syllable h0 (Ev_l h12) Ev_c hV) (sy10 hk))) (fun q => Ev_c)) (by rw [if_pos hpi]; exact inR_s (by omega) (by omega))) (by rw [if_pos hpi]; rfl)) (fun M4 n4 => ?_)
    refine st_inc (z := ((s + i : Nat) : Int)) h12 (inR_s (by omega) (by omega)) (hVV _ _ (by omega) ⟨i + 1, by omega, fun j hj => ?_, rfl, rfl, n4⟩)
    rw [va_up_ne _ _ (by omega), va_up_ne _ _ (by omega)]
    exact hI j hj
  · rw [e1, e2] at hp
    have hi : i = z := by omega
    subst hi
    exact hW ρ2 M3 (n2.tr n3) hI h11
theorem hol_3 (hV : A.now.V) (g0 : ρ 0 = .inr (some 0)) (g6 : ρ 6 = .inl 0) (g7 : ρ 7 = .inl 0) (g8 : ρ 8 = .inl 0) (g9 : ρ 9 = .inl (worV A.now)) (g10 : ρ 10 = .inl 0) (n0 : CN M0 M A) (hW : ∀ ρ2 M2, CN M0 M2 A → (∀ i, i < 6 ∨ i = 9 → ρ2 i = ρ i) → ρ2 6 = .inl (A.now.n : Int) → ρ2 7 = .inl (hitsA A.now) → ρ2 8 = .inl (ptsS A.now) → W ρ2 M2) : (sWhile (cLt (iL 10) (iCallV 6 m_X6_total (rL 0) (aI (iC 6) (aN)))) (sSeq (sSeq (sLoc 11 (iC 0)) (sSeq (sSeq (sLoc 12 (iCallV 6 m_X6_phrase (rL 0) (aI (iL 10) (aI (iC 0) (aN))))) (sWhile (cLt (iL 12) (iAdd (iCallV 6 m_X6_phrase (rL 0) (aI (iL 10) (aI (iC 0) (aN)))) (iCallV 6 m_X6_phrase (rL 0) (aI (iL 10) (aI (iC 1) (aN)))))) (sSeq (sLoc 11 (iAdd (iL 11) (iQ (cEq (iCallV 6 m_X6_syllable (rL 0) (aI (iL 12) (aI (iC 4) (aN)))) (iL 10)) (iCallV 6 m_X6_syllable (rL 0) (aI (iL 12) (aI (iC 10) (aN)))) (iC 100000)))) (sInc 12 1)))) (sSeq (sLoc 11 (iAdd (iL 11) (iQ (cAnd (cGt (iCallV 6 m_X6_phrase (rL 0) (aI (iL 10) (aI (iC 1) (aN)))) (iC 1)) (cEq (iCallV 6 m_X6_phrase (rL 0) (aI (iL 10) (aI (iC 2) (aN)))) (iCallV 6 m_X6_phrase (rL 0) (aI (iL 10) (aI (iC 1) (aN)))))) (iC 50) (iC 0)))) (sSeq (sIf1 (cOr (cOr (cOr (cNe (iL 11) (iCallV 6 m_X6_phrase (rL 0) (aI (iL 10) (aI (iC 3) (aN))))) (cGt (iCallV 6 m_X6_phrase (rL 0) (aI (iL 10) (aI (iC 4) (aN)))) (iCallV 6 m_X6_phrase (rL 0) (aI (iL 10) (aI (iC 2) (aN)))))) (cGt (iCallV 6 m_X6_phrase (rL 0) (aI (iL 9) (aI (iC 3) (aN)))) (iL 11))) (cAnd (cLt (iL 10) (iL 9)) (cEq (iCallV 6 m_X6_phrase (rL 0) (aI (iL 9) (aI (iC 3) (aN)))) (iL 11)))) (sRet true (iC 0))) (sSeq (sLoc 6 (iAdd (iL 6) (iCallV 6 m_X6_phrase (rL 0) (aI (iL 10) (aI (iC 1) (aN)))))) (sSeq (sLoc 7 (iAdd (iL 7) (iCallV 6 m_X6_phrase (rL 0) (aI (iL 10) (aI (iC 2) (aN)))))) (sLoc 8 (iAdd (iL 8) (iL 11))))))))) (sInc 10 1))) W Rt ρ M := by
  have hn := hV.1.1
  have hpc := pcN_b hV.1
  refine while_n (n := pcN A.now.n A.now.D) (fun r ρ2 M2 => ∃ f : Nat, f + r = pcN A.now.n A.now.D ∧ (∀ i, i < 6 ∨ i = 9 → ρ2 i = ρ i) ∧ ρ2 6 = .inl (sm (fun p => szP A.now.D p A.now.n) f) ∧ ρ2 7 = .inl (sm (fun p => hP A.now.D (rsS A.now) p A.now.n) f) ∧ ρ2 8 = .inl (sm (phS A.now) f) ∧ ρ2 10 = .inl (f : Int) ∧ CN M0 M2 A) ?_ ⟨0, by omega, fun _ _ => rfl, g6, g7, g8, g10, n0⟩
  rintro r V hVV ρ2 M2 ⟨f, hr, hI, h6, h7, h8, h10, n2⟩
  have h0 : ρ2 0 = .inr (some 0) := (hI 0 (by decide)).trans g0
  have h9 := (hI 9 (by decide)).trans g9
  refine (Ec_lt (Ev_l h10) (Ev.cg (Ek_total h0 Ev_c hV) to6)) _ _ M2 n2.1 (fun hp M3 n3 => ?_) (fun hp M3 n3 => ?_)
  · have n3 := n2.tr n3
    have hf : f < pcN A.now.n A.now.D := by omega
    obtain ⟨w, hw1, hw, hw3, hw4⟩ := wor_spec hV (by omega)
    rw [hw1] at h9
    obtain ⟨s, z, a1, a2, -, a4, a5, a6, a7⟩ := ph_blk hV.1 A.now.n (Nat.le_refl _) f (by omega)
    refine sq_a (st_loc (v := 0) n3 Ev_c (fun M4 n4 => ?_))
    refine sq_a (st_loc (v := (s : Int)) n4 (Ev.cg (Ev.cg (Ek_phrase h0 (Ev_l h10) Ev_c hV) (pr0 hV hf)) a4) (fun M5 n5 => ?_))
    refine hol_in hV hf a4 a5 a2 a6 h0 h10 rfl rfl n5 (fun ρ3 M6 n6 hI3 k11 => ?_)
    have k0 : ρ3 0 = .inr (some 0) := (hI3 0 (by decide)).trans h0
    have k6 : ρ3 6 = .inl (sm (fun p => szP A.now.D p A.now.n) f) := (hI3 6 (by decide)).trans h6
    have k7 : ρ3 7 = .inl (sm (fun p => hP A.now.D (rsS A.now) p A.now.n) f) := (hI3 7 (by decide)).trans h7
    have k8 : ρ3 8 = .inl (sm (phS A.now) f) := (hI3 8 (by decide)).trans h8
    have k9 : ρ3 9 = .inl (w : Int) := (hI3 9 (by decide)).trans h9
    have k10 : ρ3 10 = .inl (f : Int) := (hI3 10 (by decide)).trans h10
    have hpp : sm (fun i => ptS A.now (s + i)) z = pP A.now.D (ptS A.now) f A.now.n := (a7 (ptS A.now)).symm
    rw [hpp] at k11
    have bpp := pP_b (D := A.now.D) (pt := ptS A.now) (p := (f : Int)) (i := A.now.n) (fun j hj => pt_b0 hV hj)
    have e11 : pP A.now.D (ptS A.now) f A.now.n + (if 1 < szP A.now.D f A.now.n ∧ hP A.now.D (rsS A.now) f A.now.n = szP A.now.D f A.now.n then 50 else 0) = phS A.now f := by
      have : (1 < szP A.now.D f A.now.n) = (2 ≤ szP A.now.D f A.now.n) := by apply propext; omega
      simp only [this]
      rfl
    have r11 : inR (pP A.now.D (ptS A.now) f A.now.n + (if 1 < szP A.now.D f A.now.n ∧ hP A.now.D (rsS A.now) f A.now.n = szP A.now.D f A.now.n then 50 else 0)) := by split <;> exact inR_s (by omega) (by omega)
    refine sq_loc n6 (Ev.cg (Ev_add (Ev_l k11) (Ev_qI (Ec_and (Ec_gt (Ev.cg (Ek_phrase k0 (Ev_l k10) Ev_c hV) (pr1 hV hf)) Ev_c) (fun q => (Ec_eq (Ev.cg (Ek_phrase k0 (Ev_l k10) Ev_c hV) (pr2 hV hf)) (Ev.cg (Ek_phrase k0 (Ev_l k10) Ev_c hV) (pr1 hV hf))))) (fun q => Ev_c) (fun q => Ev_c)) r11) e11) (fun M7 n7 => ?_)
    refine st_ifF n7 (Ec_orF (Ec_orF (Ec_orF (Ec.F (Ec_ne (Ev_l rfl) (Ev.cg (Ek_phrase k0 (Ev_l k10) Ev_c hV) (pr3 hV hf))) ?_) (Ec.F (Ec_gt (Ev.cg (Ek_phrase k0 (Ev_l k10) Ev_c hV) (pr4 hV hf)) (Ev.cg (Ek_phrase k0 (Ev_l k10) Ev_c hV) (pr2 hV hf))) ?_)) (Ec.F (Ec_gt (Ev.cg (Ek_phrase k0 (Ev_l k9) Ev_c hV) (pr3 hV hw)) (Ev_l rfl)) ?_)) (Ec.F (Ec_and (Ec_lt (Ev_l k10) (Ev_l k9)) (fun q => (Ec_eq (Ev.cg (Ek_phrase k0 (Ev_l k9) Ev_c hV) (pr3 hV hw)) (Ev_l rfl)))) ?_)) (fun M8 n8 => ?_)
    · exact fun q => q rfl
    · have := lP_hP (rs := rsS A.now) hV.1 f A.now.n (Nat.le_refl _)
      omega
    · have := hw3 f hf
      omega
    · rintro ⟨q1, q2⟩
      have := hw4 f (by omega)
      omega
    have bz := szP_b A.now.D f A.now.n
    have bh := hP_b A.now.D (rsS A.now) f A.now.n
    have s1 := sm_b (f := fun p : Nat => szP A.now.D p A.now.n) (a := 0) (b := A.now.n) (n := f) (fun i _ => szP_b _ _ _)
    have s2 := sm_b (f := fun p : Nat => hP A.now.D (rsS A.now) p A.now.n) (a := 0) (b := A.now.n) (n := f) (fun i _ => hP_b _ _ _ _)
    have hfn : (f : Int) * A.now.n ≤ 1600 := by
      have := Int.mul_le_mul (a := (f : Int)) (c := 40) (b := (A.now.n : Int)) (d := 40) (by omega) (by omega) (by omega) (by omega)
      omega
    have s3 := phS_sb hV f
    have s4 := phS_b hV f
    have r6 : inR (sm (fun p => szP A.now.D p A.now.n) f + szP A.now.D f A.now.n) := inR_s (by omega) (by omega)
    have r7 : inR (sm (fun p => hP A.now.D (rsS A.now) p A.now.n) f + hP A.now.D (rsS A.now) f A.now.n) := inR_s (by omega) (by omega)
    refine sq_loc (v := sm (fun p => szP A.now.D p A.now.n) (f + 1)) n8 (Ev_add (Ev_l k6) (Ev.cg (Ek_phrase k0 (Ev_l k10) Ev_c hV) (pr1 hV hf)) r6) (fun M9 n9 => ?_)
    refine sq_loc (v := sm (fun p => hP A.now.D (rsS A.now) p A.now.n) (f + 1)) n9 (Ev_add (Ev_l k7) (Ev.cg (Ek_phrase k0 (Ev_l k10) Ev_c hV) (pr2 hV hf)) r7) (fun M10 n10 => ?_)
    refine st_loc (v := sm (phS A.now) (f + 1)) n10 (Ev_add (Ev_l k8) (Ev_l rfl) (by first | exact inR_s (by omega) (by omega) | exact ⟨by omega, by omega⟩)) (fun M11 n11 => ?_)
    refine st_inc (z := (f : Int)) k10 (inR_s (by omega) (by omega)) (hVV _ _ (by omega) ⟨f + 1, by omega, fun i hi => ?_, rfl, rfl, rfl, rfl, n11⟩)
    rw [va_up_ne _ _ (by omega), va_up_ne _ _ (by omega), va_up_ne _ _ (by omega), va_up_ne _ _ (by omega), va_up_ne _ _ (by omega), hI3 i (by omega), va_up_ne _ _ (by omega), va_up_ne _ _ (by omega)]
    exact hI i hi
  · have hf : f = pcN A.now.n A.now.D := by omega
    subst hf
    have e6 : sm (fun p => szP A.now.D p A.now.n) (pcN A.now.n A.now.D) = A.now.n := by
      have := part_sum hV.1 (fun _ => 1) A.now.n (Nat.le_refl _)
      rw [sm_1] at this
      exact this
    have e7 : sm (fun p => hP A.now.D (rsS A.now) p A.now.n) (pcN A.now.n A.now.D) = hitsA A.now := hits_sum hV.1 (rsS A.now)
    rw [e6] at h6
    rw [e7] at h7
    exact hW ρ2 M3 (n2.tr n3) hI h6 h7 h8
theorem hol_r (hV : A.now.V) (h0 : ρ 0 = .inr (some 0)) (h1 : ρ 1 = .inl (A.now.n : Int)) (h2 : ρ 2 = .inl (tk A.now.n A.now.D)) (h3 : ρ 3 = .inl (hitsA A.now)) (h4 : ρ 4 = .inl (sndT A.now.sg)) (h5 : ρ 5 = .inl (onsT A.now.sg)) (h6 : ρ 6 = .inl (A.now.n : Int)) (h7 : ρ 7 = .inl (hitsA A.now)) (h8 : ρ 8 = .inl (ptsS A.now)) (h9 : ρ 9 = .inl (worV A.now)) : Ev (iQ (cAnd (cAnd (cAnd (cAnd (cAnd (cAnd (cAnd (cAnd (cAnd (cEq (iL 6) (iL 1)) (cEq (iL 7) (iL 3))) (cEq (iCallV 6 m_X6_total (rL 0) (aI (iC 10) (aN))) (iL 3))) (cEq (iCallV 6 m_X6_total (rL 0) (aI (iC 11) (aN))) (iL 8))) (cLe (iL 8) (iCallV 6 m_X6_total (rL 0) (aI (iC 12) (aN))))) (cEq (iCallV 6 m_X6_total (rL 0) (aI (iC 8) (aN))) (iL 4))) (cEq (iCallV 6 m_X6_total (rL 0) (aI (iC 9) (aN))) (iL 5))) (cEq (iCallV 6 m_X6_total (rL 0) (aI (iC 7) (aN))) (iL 2))) (cEq (iQ (cLt (iL 9) (iC 0)) (iC 1) (iC 0)) (iQ (cEq (iL 1) (iC 0)) (iC 1) (iC 0)))) (cEq (iCallV 6 m_X6_ifShifted (rL 0) (aI (iC 0) (aI (iC 0) (aN)))) (iL 8))) (iC 1) (iC 0)) ρ A 1 A := by
  refine (Ev_qT (Ec_andT (Ec_andT (Ec_andT (Ec_andT (Ec_andT (Ec_andT (Ec_andT (Ec_andT (Ec_andT (Ec.T (Ec_eq (Ev_l h6) (Ev_l h1)) ?_) (Ec.T (Ec_eq (Ev_l h7) (Ev_l h3)) ?_)) (Ec.T (Ec_eq (Ev.cg (Ek_total h0 Ev_c hV) to10) (Ev_l h3)) ?_)) (Ec.T (Ec_eq (Ev.cg (Ek_total h0 Ev_c hV) to11) (Ev_l h8)) ?_)) (Ec.T (Ec_le (Ev_l h8) (Ev.cg (Ek_total h0 Ev_c hV) to12)) ?_)) (Ec.T (Ec_eq (Ev.cg (Ek_total h0 Ev_c hV) to8) (Ev_l h4)) ?_)) (Ec.T (Ec_eq (Ev.cg (Ek_total h0 Ev_c hV) to9) (Ev_l h5)) ?_)) (Ec.T (Ec_eq (Ev.cg (Ek_total h0 Ev_c hV) to7) (Ev_l h2)) ?_)) (Ec.T (Ec_eq (Ev_qI (Ec_lt (Ev_l h9) Ev_c) (fun q => Ev_c) (fun q => Ev_c)) (Ev_qI (Ec_eq (Ev_l h1) Ev_c) (fun q => Ev_c) (fun q => Ev_c))) ?_)) (Ec.T (Ec_eq (Ek_ifShifted h0 Ev_c Ev_c hV) (Ev_l h8)) ?_)) Ev_c)
  · rfl
  · rfl
  · rfl
  · rfl
  · exact pts_le hV
  · rfl
  · rfl
  · rfl
  · have hp := pc_0 hV
    by_cases c : A.now.n = 0
    · have e : worV A.now = -5 := by
        unfold worV
        rw [hp.mpr c]
        rfl
      rw [e, c]
      decide
    · obtain ⟨w, e, -⟩ := wor_spec hV (by omega)
      rw [e, if_neg (by omega), if_neg (by omega)]
  · exact ifh_00 hV
/-- after each act all holds -/
theorem lm_holds (hc : CI M A) (hV : A.now.V) (hK : ∀ M2, CN M M2 A → K 1 M2) : m_L_holds [.inr (some 0)] K M := by
  refine ⟨rfl, ?_⟩
  unfold B_L_holds
  refine sq_loc hc.rf (Ev.cg (Ek_total rfl Ev_c hV) to5) (fun M2 n2 => ?_)
  refine sq_loc n2 Ev_c (fun M3 n3 => ?_)
  refine sq_loc n3 Ev_c (fun M4 n4 => ?_)
  refine sq_loc n4 Ev_c (fun M5 n5 => ?_)
  refine sq_loc n5 Ev_c (fun M6 n6 => ?_)
  refine sq_a (st_loc n6 Ev_c (fun M7 n7 => ?_))
  refine hol_1 hV rfl rfl rfl rfl rfl n7 (fun ρ1 M8 n8 hI h2 h3 => ?_)
  have h0 := hI 0 (by decide)
  have h1 := hI 1 (by decide)
  have h4 := hI 4 (by decide)
  have h5 := hI 5 (by decide)
  refine sq_a (st_loc n8 Ev_c (fun M9 n9 => ?_))
  refine hol_2 hV h0 h4 h5 rfl n9 (fun ρ2 M10 n10 hI2 k4 k5 => ?_)
  have k0 := (hI2 0 (by decide)).trans h0
  have k1 := (hI2 1 (by decide)).trans h1
  have k2 := (hI2 2 (by decide)).trans h2
  have k3 := (hI2 3 (by decide)).trans h3
  refine sq_loc n10 Ev_c (fun M11 n11 => ?_)
  refine sq_loc n11 Ev_c (fun M12 n12 => ?_)
  refine sq_loc n12 Ev_c (fun M13 n13 => ?_)
  refine sq_loc n13 (Ek_worst k0 hV) (fun M14 n14 => ?_)
  refine sq_a (st_loc n14 Ev_c (fun M15 n15 => ?_))
  refine hol_3 hV k0 rfl rfl rfl rfl rfl n15 (fun ρ3 M16 n16 hI3 j6 j7 j8 => ?_)
  have j0 := (hI3 0 (by decide)).trans k0
  have j1 := (hI3 1 (by decide)).trans k1
  have j2 := (hI3 2 (by decide)).trans k2
  have j3 := (hI3 3 (by decide)).trans k3
  have j4 := (hI3 4 (by decide)).trans k4
  have j5 := (hI3 5 (by decide)).trans k5
  have j9 := hI3 9 (by decide)
  exact st_retB n16 (hol_r hV j0 j1 j2 j3 j4 j5 j6 j7 j8 j9) (fun M17 n17 => ⟨n17.2.1, hK M17 n17⟩)
end HOL3
