theorem iC01 {ρ : En} {M : Mm} {KT KF : Mm → Prop} (h : KT M) : iC 0 (fun y M => if (1 : Int) ≠ y then KT M else KF M) ρ M := by
  show (if (1 : Int) ≠ 0 then KT M else KF M)
  rw [if_pos (by decide)]
  exact h
section ACT2
variable {W : En → Mm → Prop} {Rt : Int → Mm → Prop} {ρ : En} {M0 M : Mm} {A : Ab} {K : Int → Mm → Prop} {v w s : Int} {k : Nat}
theorem act_alone (hV : A.V) (hk : k < A.now.n) (n0 : CN M0 M A) (h0 : ρ 0 = .inr (some 0)) (h5 : ρ 5 = .inl (k : Int)) (hK : ∀ A2 M2, CN M0 M2 A2 → A2.V → Rt 1 M2) : (sRet true (iCallS m_L_alone (aR (rL 0) (aI (iL 5) (aN))))) W Rt ρ M := by
  show (match ρ 0 with
    | .inr (some q) => _
    | _ => False)
  rw [h0]
  exact Ev_l h5 _ M n0.1 (fun M2 n2 => lm_alone n2.1 hV hk (fun A2 M3 n3 v => ⟨fun _ => .inr rfl, hK A2 M3 ((n0.tr n2).tr n3) v⟩))
theorem act_z (hV : A.V) (n0 : CN M0 M A) (h0 : ρ 0 = .inr (some 0)) (h2 : ρ 2 = .inl w) (h4 : ρ 4 = .inl s) (hK : ∀ A2 M2, CN M0 M2 A2 → A2.V → Rt 1 M2) : (sRet true (iQ (cEq (iL 4) (iC 15)) (iCallS m_L_octaves (aR (rL 0) (aN))) (iQ (cOr (cGt (iCallS m_L_low (aI (iShr 32 (iL 2)) (aI (iC 3) (aN)))) (iC 0)) (cNe (iCallS m_L_shifts (aR (rL 0) (aI (iShr 128 (iL 2)) (aN)))) (iC 0))) (iC 1) (iC 0)))) W Rt ρ M := by
  refine (Ec_eq (Ev_l h4) Ev_c) _ _ M n0.1 (fun hp M2 n2 => ?_) (fun hp M2 n2 => ?_)
  · show (match ρ 0 with
      | .inr (some q) => _
      | _ => False)
    rw [h0]
    exact lm_octaves n2.1 hV.nw (fun M3 n3 => ⟨fun _ => .inr rfl, hK A M3 ((n0.tr n2).tr n3) hV⟩)
  · refine (Ec_gt (Ek_low (n := 3) (Ev_shr (m := 32) (Ev_l h2)) Ev_c (by decide)) Ev_c) _ _ M2 n2.1 (fun hp M3 n3 => ⟨fun _ => .inr rfl, hK A M3 ((n0.tr n2).tr n3) hV⟩) (fun hp M3 n3 => ?_)
    show (match ρ 0 with
      | .inr (some q) => _
      | _ => False)
    rw [h0]
    refine (Ev_shr (m := 128) (Ev_l h2)) _ M3 n3.1 (fun M4 n4 => lm_shifts n4.1 hV (fun A2 M5 n5 v5 => ?_))
    refine iC01 ?_
    exact ⟨fun _ => .inr rfl, hK A2 M5 ((((n0.tr n2).tr n3).tr n4).tr n5) v5⟩
theorem act_n (hV : A.V) (hk : k < A.now.n) (n0 : CN M0 M A) (h0 : ρ 0 = .inr (some 0)) (h1 : ρ 1 = .inl v) (h2 : ρ 2 = .inl w) (h3 : ρ 3 = .inl (A.now.n : Int)) (h4 : ρ 4 = .inl s) (h5 : ρ 5 = .inl (k : Int)) (hK : ∀ A2 M2, CN M0 M2 A2 → A2.V → Rt 1 M2) : (sSeq (sIf1 (cEq (iL 4) (iC 6)) (sRet true (iQ (cAnd (cEq (iCallV 6 m_X6_drop (rL 0) (aN)) (iSub (iL 3) (iC 1))) (cEq (iCallV 6 m_X6_syllable (rL 0) (aI (iSub (iL 3) (iC 1)) (aI (iC 0) (aN)))) (iC (-1)))) (iC 1) (iC 0)))) (sSeq (sIf1 (cLt (iL 4) (iC 11)) (sSeq (sLoc 6 (iQ (cEq (iCallS m_L_low (aI (iShr 512 (iL 2)) (aI (iC 2) (aN)))) (iC 0)) (iL 5) (iAdd (iL 5) (iCallS m_L_low (aI (iShr 1024 (iL 2)) (aI (iSub (iL 3) (iL 5)) (aN))))))) (sSeq (sLoc 7 (iQ (cGt (iCallS m_L_low (aI (iShr 64 (iL 1)) (aI (iC 3) (aN)))) (iC 0)) (iC 0) (iQ (cEq (iCallS m_L_low (aI (iShr 256 (iL 1)) (aI (iC 2) (aN)))) (iC 0)) (iSub (iCallS m_L_low (aI (iShr 512 (iL 1)) (aI (iC 3) (aN)))) (iC 1)) (iSub (iCallS m_L_low (aI (iShr 512 (iL 1)) (aI (iC 121) (aN)))) (iC 60))))) (sSeq (sLoc 8 (iAdd (iCallV 6 m_X6_wanted (rL 0) (aI (iCallV 6 m_X6_syllable (rL 0) (aI (iL 6) (aI (iC 0) (aN)))) (aN))) (iL 7))) (sRet true (iQ (cAnd (cEq (iCallV 6 m_X6_singAlong (rL 0) (aI (iL 5) (aI (iL 6) (aI (iL 7) (aN))))) (iCallV 6 m_X6_total (rL 0) (aI (iC 10) (aN)))) (cEq (iCallV 6 m_X6_sung (rL 0) (aI (iCallV 6 m_X6_syllable (rL 0) (aI (iL 6) (aI (iC 0) (aN)))) (aN))) (iQ (cOr (cLt (iL 8) (iC 0)) (cGt (iL 8) (iC 60))) (iC (-5)) (iL 8)))) (iC 1) (iC 0))))))) (sSeq (sIf1 (cLt (iL 4) (iC 13)) (sSeq (sLoc 6 (iCallS m_L_low (aI (iL 2) (aI (iC 600) (aN))))) (sSeq (sLoc 7 (iAdd (iC 1) (iCallS m_L_low (aI (iShr 512 (iL 2)) (aI (iC 64) (aN)))))) (sSeq (sLoc 8 (iCallS m_L_low (aI (iShr 128 (iL 1)) (aI (iC 61) (aN))))) (sSeq (sIf1 (cGt (iAdd (iL 6) (iL 7)) (iC 600)) (sRet true (iQ (cAnd (cEq (iCallV 6 m_X6_sing (rL 0) (aI (iL 6) (aI (iL 7) (aI (iL 8) (aN))))) (iC (-2))) (cEq (iCallV 6 m_X6_silence (rL 0) (aI (iL 6) (aI (iL 7) (aN)))) (iC (-2)))) (iC 1) (iC 0)))) (sRet true (iQ (cAnd (cAnd (cEq (iCallV 6 m_X6_sing (rL 0) (aI (iL 6) (aI (iL 7) (aI (iL 8) (aN))))) (iCallV 6 m_X6_total (rL 0) (aI (iC 10) (aN)))) (cEq (iCallV 6 m_X6_sung (rL 0) (aI (iL 6) (aN))) (iL 8))) (cEq (iCallV 6 m_X6_sung (rL 0) (aI (iSub (iAdd (iL 6) (iL 7)) (iC 1)) (aN))) (iL 8))) (iC 1) (iC 0)))))))) (sSeq (sIf1 (cEq (iL 4) (iC 13)) (sSeq (sLoc 6 (iCallV 6 m_X6_total (rL 0) (aI (iC 8) (aN)))) (sRet true (iQ (cAnd (cEq (iCallV 6 m_X6_total (rL 0) (aI (iC 8) (aN))) (iL 6)) (cEq (iCallV 6 m_X6_silence (rL 0) (aI (iCallS m_L_low (aI (iL 2) (aI (iC 500) (aN)))) (aI (iAdd (iC 1) (iCallS m_L_low (aI (iShr 512 (iL 2)) (aI (iC 100) (aN))))) (aN)))) (iSub (iL 6) (iCallV 6 m_X6_total (rL 0) (aI (iC 8) (aN)))))) (iC 1) (iC 0))))) (sSeq (sIf1 (cEq (iL 4) (iC 14)) (sRet true (iCallS m_L_alone (aR (rL 0) (aI (iL 5) (aN)))))) (sRet true (iQ (cEq (iL 4) (iC 15)) (iCallS m_L_octaves (aR (rL 0) (aN))) (iQ (cOr (cGt (iCallS m_L_low (aI (iShr 32 (iL 2)) (aI (iC 3) (aN)))) (iC 0)) (cNe (iCallS m_L_shifts (aR (rL 0) (aI (iShr 128 (iL 2)) (aN)))) (iC 0))) (iC 1) (iC 0))))))))) W Rt ρ M := by
  refine st_if n0 (Ec_eq (Ev_l h4) Ev_c) (fun q M2 n2 => act_drop hV (by omega) n2 h0 h3 hK) (fun q M2 n2 => ?_)
  refine st_if n2 (Ec_lt (Ev_l h4) Ev_c) (fun q M3 n3 => act_along hV hk n3 h0 h1 h2 h3 h5 hK) (fun q M3 n3 => ?_)
  refine st_if n3 (Ec_lt (Ev_l h4) Ev_c) (fun q M4 n4 => act_sing hV n4 h0 h1 h2 hK) (fun q M4 n4 => ?_)
  refine st_if n4 (Ec_eq (Ev_l h4) Ev_c) (fun q M5 n5 => act_sil hV n5 h0 h2 hK) (fun q M5 n5 => ?_)
  refine st_if n5 (Ec_eq (Ev_l h4) Ev_c) (fun q M6 n6 => act_alone hV hk n6 h0 h5 hK) (fun q M6 n6 => ?_)
  exact act_z hV n6 h0 h2 h4 hK
theorem act_m (hV : A.V) (n0 : CN M0 M A) (h0 : ρ 0 = .inr (some 0)) (h1 : ρ 1 = .inl v) (h2 : ρ 2 = .inl w) (h3 : ρ 3 = .inl (A.now.n : Int)) (h4 : ρ 4 = .inl s) (hK : ∀ A2 M2, CN M0 M2 A2 → A2.V → Rt 1 M2) : (sSeq (sIf1 (cOr (cLt (iL 4) (iC 6)) (cEq (iL 3) (iC 0))) (sSeq (sLoc 5 (iQ (cEq (iCallS m_L_low (aI (iShr 64 (iL 1)) (aI (iC 3) (aN)))) (iC 0)) (iCallS m_L_low (aI (iShr 512 (iL 1)) (aI (iC 33) (aN)))) (iC 0))) (sSeq (sLoc 6 (iCallS m_L_low (aI (iL 2) (aI (iC 61) (aN))))) (sSeq (sLoc 7 (iQ (cEq (iCallS m_L_low (aI (iShr 64 (iL 2)) (aI (iC 3) (aN)))) (iC 0)) (iCallS m_L_low (aI (iShr 256 (iL 2)) (aI (iC 61) (aN)))) (iL 6))) (sSeq (sLoc 8 (iAdd (iC 1) (iCallS m_L_low (aI (iShr 8192 (iL 2)) (aI (iQ (cEq (iCallS m_L_low (aI (iShr 524288 (iL 2)) (aI (iC 2) (aN)))) (iC 0)) (iC 32) (iC 6)) (aN)))))) (sSeq (sLoc 9 (iQ (cEq (iCallS m_L_low (aI (iShr 32768 (iL 1)) (aI (iC 4) (aN)))) (iC 0)) (iC 1) (iC 0))) (sSeq (sLoc 10 (iAdd (iCallV 6 m_X6_total (rL 0) (aI (iC 7) (aN))) (iL 5))) (sSeq (sLoc 11 (iCallV 6 m_X6_add (rL 0) (aI (iL 5) (aI (iL 6) (aI (iL 7) (aI (iL 8) (aI (iL 9) (aN)))))))) (sRet true (iQ (cOr (cEq (iL 3) (iC 40)) (cGt (iAdd (iL 10) (iL 8)) (iC 600))) (iQ (cEq (iL 11) (iC (-3))) (iC 1) (iC 0)) (iQ (cAnd (cAnd (cAnd (cAnd (cEq (iL 11) (iL 10)) (cEq (iCallV 6 m_X6_syllable (rL 0) (aI (iL 3) (aI (iC 1) (aN)))) (iL 8))) (cEq (iCallV 6 m_X6_syllable (rL 0) (aI (iL 3) (aI (iC 2) (aN)))) (iL 6))) (cEq (iCallV 6 m_X6_syllable (rL 0) (aI (iL 3) (aI (iC 3) (aN)))) (iL 7))) (cEq (iCallV 6 m_X6_phrase (rL 0) (aI (iCallV 6 m_X6_syllable (rL 0) (aI (iL 3) (aI (iC 4) (aN)))) (aI (iC 0) (aN)))) (iQ (cOr (cEq (iL 3) (iC 0)) (cNe (iL 9) (iC 0))) (iL 3) (iCallV 6 m_X6_phrase (rL 0) (aI (iCallV 6 m_X6_syllable (rL 0) (aI (iSub (iL 3) (iC 1)) (aI (iC 4) (aN)))) (aI (iC 0) (aN))))))) (iC 1) (iC 0)))))))))))) (sSeq (sLoc 5 (iCallS m_L_low (aI (iL 2) (aI (iL 3) (aN))))) (sSeq (sIf1 (cEq (iL 4) (iC 6)) (sRet true (iQ (cAnd (cEq (iCallV 6 m_X6_drop (rL 0) (aN)) (iSub (iL 3) (iC 1))) (cEq (iCallV 6 m_X6_syllable (rL 0) (aI (iSub (iL 3) (iC 1)) (aI (iC 0) (aN)))) (iC (-1)))) (iC 1) (iC 0)))) (sSeq (sIf1 (cLt (iL 4) (iC 11)) (sSeq (sLoc 6 (iQ (cEq (iCallS m_L_low (aI (iShr 512 (iL 2)) (aI (iC 2) (aN)))) (iC 0)) (iL 5) (iAdd (iL 5) (iCallS m_L_low (aI (iShr 1024 (iL 2)) (aI (iSub (iL 3) (iL 5)) (aN))))))) (sSeq (sLoc 7 (iQ (cGt (iCallS m_L_low (aI (iShr 64 (iL 1)) (aI (iC 3) (aN)))) (iC 0)) (iC 0) (iQ (cEq (iCallS m_L_low (aI (iShr 256 (iL 1)) (aI (iC 2) (aN)))) (iC 0)) (iSub (iCallS m_L_low (aI (iShr 512 (iL 1)) (aI (iC 3) (aN)))) (iC 1)) (iSub (iCallS m_L_low (aI (iShr 512 (iL 1)) (aI (iC 121) (aN)))) (iC 60))))) (sSeq (sLoc 8 (iAdd (iCallV 6 m_X6_wanted (rL 0) (aI (iCallV 6 m_X6_syllable (rL 0) (aI (iL 6) (aI (iC 0) (aN)))) (aN))) (iL 7))) (sRet true (iQ (cAnd (cEq (iCallV 6 m_X6_singAlong (rL 0) (aI (iL 5) (aI (iL 6) (aI (iL 7) (aN))))) (iCallV 6 m_X6_total (rL 0) (aI (iC 10) (aN)))) (cEq (iCallV 6 m_X6_sung (rL 0) (aI (iCallV 6 m_X6_syllable (rL 0) (aI (iL 6) (aI (iC 0) (aN)))) (aN))) (iQ (cOr (cLt (iL 8) (iC 0)) (cGt (iL 8) (iC 60))) (iC (-5)) (iL 8)))) (iC 1) (iC 0))))))) (sSeq (sIf1 (cLt (iL 4) (iC 13)) (sSeq (sLoc 6 (iCallS m_L_low (aI (iL 2) (aI (iC 600) (aN))))) (sSeq (sLoc 7 (iAdd (iC 1) (iCallS m_L_low (aI (iShr 512 (iL 2)) (aI (iC 64) (aN)))))) (sSeq (sLoc 8 (iCallS m_L_low (aI (iShr 128 (iL 1)) (aI (iC 61) (aN))))) (sSeq (sIf1 (cGt (iAdd (iL 6) (iL 7)) (iC 600)) (sRet true (iQ (cAnd (cEq (iCallV 6 m_X6_sing (rL 0) (aI (iL 6) (aI (iL 7) (aI (iL 8) (aN))))) (iC (-2))) (cEq (iCallV 6 m_X6_silence (rL 0) (aI (iL 6) (aI (iL 7) (aN)))) (iC (-2)))) (iC 1) (iC 0)))) (sRet true (iQ (cAnd (cAnd (cEq (iCallV 6 m_X6_sing (rL 0) (aI (iL 6) (aI (iL 7) (aI (iL 8) (aN))))) (iCallV 6 m_X6_total (rL 0) (aI (iC 10) (aN)))) (cEq (iCallV 6 m_X6_sung (rL 0) (aI (iL 6) (aN))) (iL 8))) (cEq (iCallV 6 m_X6_sung (rL 0) (aI (iSub (iAdd (iL 6) (iL 7)) (iC 1)) (aN))) (iL 8))) (iC 1) (iC 0)))))))) (sSeq (sIf1 (cEq (iL 4) (iC 13)) (sSeq (sLoc 6 (iCallV 6 m_X6_total (rL 0) (aI (iC 8) (aN)))) (sRet true (iQ (cAnd (cEq (iCallV 6 m_X6_total (rL 0) (aI (iC 8) (aN))) (iL 6)) (cEq (iCallV 6 m_X6_silence (rL 0) (aI (iCallS m_L_low (aI (iL 2) (aI (iC 500) (aN)))) (aI (iAdd (iC 1) (iCallS m_L_low (aI (iShr 512 (iL 2)) (aI (iC 100) (aN))))) (aN)))) (iSub (iL 6) (iCallV 6 m_X6_total (rL 0) (aI (iC 8) (aN)))))) (iC 1) (iC 0))))) (sSeq (sIf1 (cEq (iL 4) (iC 14)) (sRet true (iCallS m_L_alone (aR (rL 0) (aI (iL 5) (aN)))))) (sRet true (iQ (cEq (iL 4) (iC 15)) (iCallS m_L_octaves (aR (rL 0) (aN))) (iQ (cOr (cGt (iCallS m_L_low (aI (iShr 32 (iL 2)) (aI (iC 3) (aN)))) (iC 0)) (cNe (iCallS m_L_shifts (aR (rL 0) (aI (iShr 128 (iL 2)) (aN)))) (iC 0))) (iC 1) (iC 0))))))))))) W Rt ρ M := by
  refine st_if n0 (Ec_or (Ec_lt (Ev_l h4) Ev_c) (fun q => (Ec_eq (Ev_l h3) Ev_c))) (fun q M2 n2 => act_add hV n2 h0 h1 h2 h3 hK) (fun q M2 n2 => ?_)
  have hn0 : 0 < A.now.n := by
    by_cases c : A.now.n = 0
    · exact absurd (.inr (by omega)) q
    · omega
  have b := lowV_b (v := w) (n := (A.now.n : Int)) (by omega)
  obtain ⟨k, hk⟩ : ∃ k : Nat, (k : Int) = lowV w (A.now.n : Int) := ⟨(lowV w (A.now.n : Int)).toNat, by omega⟩
  refine sq_loc (v := (k : Int)) n2 (Ev.cg (Ek_low (Ev_l h2) (Ev_l h3) (by first | omega | (split <;> omega))) hk.symm) (fun M3 n3 => ?_)
  exact act_n hV (by omega) n3 h0 h1 h2 h3 h4 rfl hK
theorem lm_act (hc : CI M A) (hV : A.V) (hK : ∀ A2 M2, CN M M2 A2 → A2.V → K 1 M2) : m_L_act [.inr (some 0), .inl v, .inl w] K M := by
  have hV1 := hV.nw
  refine ⟨rfl, ?_⟩
  unfold B_L_act
  refine sq_loc hc.rf (Ev.cg (Ek_total rfl Ev_c hV1) to5) (fun M2 n2 => ?_)
  refine sq_loc n2 (Ek_low (Ev_l rfl) Ev_c (by first | omega | (split <;> omega))) (fun M3 n3 => ?_)
  exact act_m hV n3 rfl rfl rfl rfl rfl (fun A2 M4 n4 v4 => ⟨n4.2.1, hK A2 M4 n4 v4⟩)
end ACT2
/-! ===== the law ===== -/
def cellV (L : Nat) (xs : Nat → Int) (k : Int) : Int := if k < L then xs k.toNat else wr (wr (866638277 * wr (k + 5)) + 798091187)
section LAWX
variable {L : Nat} {xs : Nat → Int} {W : En → Mm → Prop} {Rt : Int → Mm → Prop} {ρ : En} {M0 M : Mm} {A : Ab} {K : Int → Mm → Prop} {r : Nat}
theorem c_cell {k : Int} (hL : L ≤ 260) (hk : 0 ≤ k) (hK : K (cellV L xs k) M) : m_L_cell L xs [.inr (some 1000003), .inl k] K M := by
  refine ⟨rfl, ?_⟩
  unfold B_L_cell
  refine ⟨rfl, by omega, ?_⟩
  unfold cellV at hK
  by_cases c : k < L
  · rw [if_pos c] at hK
    rw [if_pos c]
    exact ⟨rfl, hk, c, fun h => absurd h (by decide), rfl, hK⟩
  · rw [if_neg c] at hK
    rw [if_neg c]
    exact ⟨fun h => absurd h (by decide), rfl, hK⟩
theorem Ek_cell {e : IE} {k : Int} (hL : L ≤ 260) (h0 : ρ 0 = .inr (some 1000003)) (h1 : Ev e ρ A k A) (hk : 0 ≤ k) : Ev (iCallS (m_L_cell L xs) (aR (rL 0) (aI e (aN)))) ρ A (cellV L xs k) A := fun K M hc hK => by
  show (match ρ 0 with
    | .inr (some q) => _
    | _ => False)
  rw [h0]
  exact h1 _ M hc (fun M2 n2 => c_cell hL hk (hK M2 n2))
theorem Ek_holds (h0 : ρ r = .inr (some 0)) (hV : A.now.V) : Ev (iCallS m_L_holds (aR (rL r) (aN))) ρ A 1 A := fun K M hc hK => by
  show (match ρ r with
    | .inr (some q) => _
    | _ => False)
  rw [h0]
  exact lm_holds hc hV hK
theorem law_if {e : Nat} {v : Int} (hL : L ≤ 260) (hV : A.V) (he : e < 30) (n0 : CN M0 M A) (g0 : ρ 0 = .inr (some 1000003)) (g1 : ρ 1 = .inr (some 0)) (g2 : ρ 2 = .inl (e : Int)) (g3 : ρ 3 = .inl v) (hW : ∀ A2 M2, CN M0 M2 A2 → A2.V → W ρ M2) : (sIf1 (cOr (cNot (cNe (iCallS m_L_act (aR (rL 1) (aI (iL 3) (aI (iCallS (m_L_cell L xs) (aR (rL 0) (aI (iAdd (iMul (iC 2) (iL 2)) (iC 1)) (aN)))) (aN))))) (iC 0))) (cAnd (cEq (iRem (iL 2) (iC 2)) (iC 1)) (cNot (cNe (iCallS m_L_holds (aR (rL 1) (aN))) (iC 0))))) (sRet true (iC 0))) W Rt ρ M := by
  show (match ρ 1 with
    | .inr (some q) => _
    | _ => False)
  rw [g1]
  refine Ev_l g3 _ M n0.1 (fun M2 n2 => Ek_cell hL g0 (Ev_add (Ev_mul (x := 2) Ev_c (Ev_l g2) (inR_s (by omega) (by omega))) (Ev_c (z := 1)) (inR_s (by omega) (by omega))) (by omega) _ M2 n2.1 (fun M3 n3 => lm_act n3.1 hV (fun A2 M4 n4 v4 => ?_)))
  have n4 := ((n0.tr n2).tr n3).tr n4
  refine iC01 ?_
  have hm : 0 ≤ (e : Int).tmod 2 ∧ (e : Int).tmod 2 < 2 := by
    rw [Int.tmod_eq_emod_of_nonneg (by omega)]
    omega
  refine (Ec.F (Ec_and (Ec_eq (Ev_rem (y := 2) (Ev_l g2) Ev_c (by decide) (inR_s (by omega) (by omega))) (Ev_c (z := 1))) (fun q => Ec_not (Ec_ne (Ek_holds g1 v4.nw) (Ev_c (z := 0))))) (fun q => q.2 (by decide))) _ _ M4 n4.1 (fun h => h.elim) (fun _ M5 n5 => hW A2 M5 (n4.tr n5) v4)
theorem law_l (hL : L ≤ 260) (hV : A.V) (n0 : CN M0 M A) (g0 : ρ 0 = .inr (some 1000003)) (g1 : ρ 1 = .inr (some 0)) (g2 : ρ 2 = .inl 0) (hW : ∀ ρ2 A2 M2, CN M0 M2 A2 → A2.V → ρ2 0 = .inr (some 1000003) → ρ2 1 = .inr (some 0) → W ρ2 M2) : (sWhile (cLt (iL 2) (iC 30)) (sSeq (sSeq (sLoc 3 (iQ (cLt (iL 2) (iC 5)) (iMul (iC 18) (iAndM 65536 (iShr 256 (iCallS (m_L_cell L xs) (aR (rL 0) (aI (iMul (iC 2) (iL 2)) (aN))))))) (iCallS (m_L_cell L xs) (aR (rL 0) (aI (iMul (iC 2) (iL 2)) (aN)))))) (sIf1 (cOr (cNot (cNe (iCallS m_L_act (aR (rL 1) (aI (iL 3) (aI (iCallS (m_L_cell L xs) (aR (rL 0) (aI (iAdd (iMul (iC 2) (iL 2)) (iC 1)) (aN)))) (aN))))) (iC 0))) (cAnd (cEq (iRem (iL 2) (iC 2)) (iC 1)) (cNot (cNe (iCallS m_L_holds (aR (rL 1) (aN))) (iC 0))))) (sRet true (iC 0)))) (sInc 2 1))) W Rt ρ M := by
  refine while_n (n := 30) (fun r ρ2 M2 => ∃ (e : Nat) (A2 : Ab), e + r = 30 ∧ A2.V ∧ ρ2 0 = .inr (some 1000003) ∧ ρ2 1 = .inr (some 0) ∧ ρ2 2 = .inl (e : Int) ∧ CN M0 M2 A2) ?_ ⟨0, A, by omega, hV, g0, g1, g2, n0⟩
  rintro r V hVV ρ2 M2 ⟨e, A2, hr, v2, h0, h1, h2, n2⟩
  refine (Ec_lt (Ev_l h2) Ev_c) _ _ M2 n2.1 (fun hp M3 n3 => ?_) (fun hp M3 n3 => ?_)
  · have n3 := n2.tr n3
    have r2 : inR (2 * (e : Int)) := inR_s (by omega) (by omega)
    have hce := Ek_cell (A := A2) (xs := xs) hL h0 (Ev_mul (x := 2) Ev_c (Ev_l h2) r2) (by omega)
    obtain ⟨c, hc⟩ : ∃ c, c = cellV L xs (2 * (e : Int)) := ⟨_, rfl⟩
    rw [← hc] at hce
    refine sq_a (sq_loc n3 (Ev_qI (Ec_lt (Ev_l h2) (Ev_c (z := 5))) (fun _ => Ev_mul (x := 18) Ev_c (Ev_andM (Ev_shr hce)) ⟨by omega, by omega⟩) (fun _ => hce)) (fun M4 n4 => ?_))
    refine law_if (e := e) hL v2 (by omega) n4 h0 h1 h2 rfl (fun A5 M5 n5 v5 => ?_)
    refine st_inc (z := (e : Int)) h2 (inR_s (by omega) (by omega)) (hVV _ _ (by omega) ⟨e + 1, A5, by omega, v5, h0, h1, rfl, n5⟩)
  · exact hW ρ2 A2 M3 (n2.tr n3) v2 h0 h1
theorem bst_0 : bstV sg0 = 0 := by
  have hP : ∀ t, shP sg0 t = 0 := fun t => rfl
  have h := bs_spec (P := shP sg0) (t := 0) (by decide)
  rw [hP, hP] at h
  have e : (bsF (shP sg0) 64).1 = bstV sg0 := rfl
  rw [e] at h
  have hd : dst 0 = 0 := rfl
  rw [hd] at h
  generalize bstV sg0 = x at *
  unfold dst at h
  split at h <;> omega
def M00 : Mm := ([], fun _ _ => 0, fun _ _ => none)
def rho0 : En := fun i => if i = 0 then .inr (some 1000003) else if i = 1000 then .inl 600000 else if i = 1001 then .inl 7302250 else .inr none
theorem law_o {ρ : En} {M : Mm} (hL : L ≤ 260) (hc : CI M A0) (g0 : ρ 0 = .inr (some 1000003)) (g1 : ρ 1 = .inr (some 0)) : (sSeq (sIf1 (cOr (cOr (cNot (cNe (iCallS m_L_holds (aR (rL 1) (aN))) (iC 0))) (cNe (iCallV 6 m_X6_bestShift (rL 1) (aN)) (iC 32))) (cNe (iCallV 6 m_X6_total (rL 1) (aI (iC 12) (aN))) (iC 0))) (sRet true (iC 0))) (sSeq (sSeq (sLoc 2 (iC 0)) (sWhile (cLt (iL 2) (iC 30)) (sSeq (sSeq (sLoc 3 (iQ (cLt (iL 2) (iC 5)) (iMul (iC 18) (iAndM 65536 (iShr 256 (iCallS (m_L_cell L xs) (aR (rL 0) (aI (iMul (iC 2) (iL 2)) (aN))))))) (iCallS (m_L_cell L xs) (aR (rL 0) (aI (iMul (iC 2) (iL 2)) (aN)))))) (sIf1 (cOr (cNot (cNe (iCallS m_L_act (aR (rL 1) (aI (iL 3) (aI (iCallS (m_L_cell L xs) (aR (rL 0) (aI (iAdd (iMul (iC 2) (iL 2)) (iC 1)) (aN)))) (aN))))) (iC 0))) (cAnd (cEq (iRem (iL 2) (iC 2)) (iC 1)) (cNot (cNe (iCallS m_L_holds (aR (rL 1) (aN))) (iC 0))))) (sRet true (iC 0)))) (sInc 2 1)))) (sRet true (iQ (cAnd (cNe (iCallS m_L_shifts (aR (rL 1) (aI (iCallS (m_L_cell L xs) (aR (rL 0) (aI (iC 61) (aN)))) (aN)))) (iC 0)) (cNe (iCallS m_L_holds (aR (rL 1) (aN))) (iC 0))) (iC 1) (iC 0))))) W (fun x _ => x = 1) ρ M := by
  have v0 := A0_V
  refine st_ifF hc.rf (Ec_orF (Ec_orF (Ec.F (Ec_not (Ec_ne (Ek_holds g1 v0.nw) (Ev_c (z := 0)))) ?_) (Ec.F (Ec_ne (Ek_bestShift g1 v0.nw) (Ev_c (z := 32))) ?_)) (Ec.F (Ec_ne (Ev.cg (Ek_total g1 (Ev_c (z := 12)) v0.nw) to12) (Ev_c (z := 0))) ?_)) (fun M2 n2 => ?_)
  · decide
  · have h : besV A0.now = 32 := by
      show bstV sg0 + 32 = 32
      rw [bst_0]
      rfl
    rw [h]
    decide
  · exact fun q => q rfl
  · refine sq_a (st_loc n2 Ev_c (fun M3 n3 => ?_))
    refine law_l hL v0 n3 g0 g1 rfl (fun ρ2 A2 M4 n4 v4 k0 k1 => ?_)
    show (match ρ2 1 with
      | .inr (some q) => _
      | _ => False)
    rw [k1]
    refine Ek_cell hL k0 (Ev_c (z := 61)) (by decide) _ M4 n4.1 (fun M5 n5 => lm_shifts n5.1 v4 (fun A6 M6 n6 v6 => ?_))
    refine iC01 ?_
    exact (Ec_ne (Ek_holds k1 v6.nw) (Ev_c (z := 0))) _ _ M6 n6.1 (fun _ M7 n7 => ⟨fun _ => .inr rfl, rfl⟩) (fun q => absurd (by decide) q)
def lawR (L : Nat) (xs : Nat → Int) : ST := (sSeq (sIf1 (cOr (cOr (cNot (cNe (iCallS m_L_holds (aR (rL 1) (aN))) (iC 0))) (cNe (iCallV 6 m_X6_bestShift (rL 1) (aN)) (iC 32))) (cNe (iCallV 6 m_X6_total (rL 1) (aI (iC 12) (aN))) (iC 0))) (sRet true (iC 0))) (sSeq (sSeq (sLoc 2 (iC 0)) (sWhile (cLt (iL 2) (iC 30)) (sSeq (sSeq (sLoc 3 (iQ (cLt (iL 2) (iC 5)) (iMul (iC 18) (iAndM 65536 (iShr 256 (iCallS (m_L_cell L xs) (aR (rL 0) (aI (iMul (iC 2) (iL 2)) (aN))))))) (iCallS (m_L_cell L xs) (aR (rL 0) (aI (iMul (iC 2) (iL 2)) (aN)))))) (sIf1 (cOr (cNot (cNe (iCallS m_L_act (aR (rL 1) (aI (iL 3) (aI (iCallS (m_L_cell L xs) (aR (rL 0) (aI (iAdd (iMul (iC 2) (iL 2)) (iC 1)) (aN)))) (aN))))) (iC 0))) (cAnd (cEq (iRem (iL 2) (iC 2)) (iC 1)) (cNot (cNe (iCallS m_L_holds (aR (rL 1) (aN))) (iC 0))))) (sRet true (iC 0)))) (sInc 2 1)))) (sRet true (iQ (cAnd (cNe (iCallS m_L_shifts (aR (rL 1) (aI (iCallS (m_L_cell L xs) (aR (rL 0) (aI (iC 61) (aN)))) (aN)))) (iC 0)) (cNe (iCallS m_L_holds (aR (rL 1) (aN))) (iC 0))) (iC 1) (iC 0)))))
theorem B_law_e (L : Nat) (xs : Nat → Int) : B_law L xs = sSeq (sLocR 1 (rNew 6 rm_X6_init.cells rm_X6_init.slots m_X6_init (aN))) (lawR L xs) := rfl
set_option maxRecDepth 20000 in
theorem law_sem {L : Nat} (hL : L ≤ 260) (xs : Nat → Int) : B_law L xs (fun _ _ => False) (fun x _ => x = 1) rho0 M00 := by
  simp only [B_law_e, sSeq, sLocR]
  refine e_rNew (P := []) (s := 0) rfl rfl (by decide) (by decide) (by decide) (fun M1 a1 a2 => e_X6_init a1 (fun M2 b1 b2 b3 => ?_))
  exact law_o hL (CI_join (Fx_join b1 b2) b2) rfl rfl
end LAWX
