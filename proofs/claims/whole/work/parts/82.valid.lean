section VAL
variable {A : Ab}
theorem setN_V {S : Sg} (h : A.V) (hS : S.V) : (setN A S).V := Ab.V.mk hS h.c4 h.hs h.f2 h.sn h.tl h.tc
theorem addR_V {r a e l f : Int} (h : A.V) (hf : f = 0 ∨ f = 1) : (addR A r a e l f).2.V := by
  unfold addR
  split
  · next c =>
    split
    · next c2 => exact setN_V (recA_V h) (addS_V h.nw c2.1 c.1 c.2.1 c.2.2.1 c.2.2.2 hf c2.2)
    · exact h
  · exact h
theorem dropR_V (h : A.V) : (dropR A).2.V := by
  unfold dropR
  split
  · exact h
  · obtain ⟨⟨v1, v2, v3, v4⟩, hT, hG⟩ := h.nw
    exact setN_V (recA_V h) ⟨⟨show A.now.n - 1 ≤ 40 by omega, fun k hk => v2 k (Nat.lt_of_lt_of_le hk (Nat.sub_le _ _)), fun hk => v3 (Nat.lt_of_lt_of_le hk (Nat.sub_le _ _)), fun k hk => v4 k (Nat.lt_of_lt_of_le hk (Nat.sub_le _ _))⟩, hT, hG⟩
theorem setR_V {j v : Int} (h : A.V) : (setR A j v).2.V := by
  unfold setR
  split
  · next c =>
    split
    · next c2 =>
      split
      · exact h
      · exact setN_V (recA_V h) (setS_V h.nw c c2)
    · exact h
  · exact h
theorem singR_V {t c p : Int} (h : A.V) : (singR A t c p).2.V := by
  unfold singR
  split
  · exact setN_V (recA_V h) (vcS_V h.nw _ _ _)
  · exact h
theorem silR_V {t c : Int} (h : A.V) : (silR A t c).2.V := by
  unfold silR
  split
  · exact setN_V (recA_V h) (vcS_V h.nw _ _ _)
  · exact h
theorem salR_V {f l y : Int} (h : A.V) : (salR A f l y).2.V := by
  unfold salR
  split
  · split
    · exact setN_V (recA_V h) (vwS_V h.nw _ _ _)
    · exact h
  · exact h
theorem typR_V {ch : Int} (h : A.V) (hch : 0 ≤ ch ∧ ch < 65536) : (typR A ch).2.V := by
  unfold typR
  split
  · exact h
  · next c =>
    refine Ab.V.mk h.nw h.c4 h.hs h.f2 h.sn ?_ (fun i hi => ?_)
    · have := h.tl
      show A.tl + 1 ≤ 60
      omega
    · have hi2 : i < A.tl + 1 := hi
      show 0 ≤ (if i = A.tl then ch else A.tc i) ∧ (if i = A.tl then ch else A.tc i) < 65536
      by_cases e : i = A.tl
      · rw [if_pos e]; exact hch
      · rw [if_neg e]; exact h.tc i (by omega)
theorem clrR_V (h : A.V) : (clrR A).2.V := Ab.V.mk h.nw h.c4 h.hs h.f2 h.sn (Nat.zero_le 60) (fun i hi => absurd hi (Nat.not_lt_zero i))
theorem undR_V (h : A.V) : (undR A).2.V := by
  unfold undR
  split
  · exact h
  · next c =>
    have := h.c4
    exact Ab.V.mk (h.hs (A.c - 1) (by omega)) (show A.c - 1 ≤ 4 by omega) (fun i hi => h.hs i (Nat.lt_of_lt_of_le hi (Nat.sub_le _ _))) h.f2 h.sn h.tl h.tc
theorem keeR_V (h : A.V) : (keeR A).2.V := Ab.V.mk h.nw h.c4 h.hs (.inr rfl) (fun _ => h.nw) h.tl h.tc
theorem resR_V (h : A.V) : (resR A).2.V := by
  unfold resR
  split
  · exact h
  · next c => exact setN_V (recA_V h) (h.sn (h.f2.resolve_left c))
theorem readR_V (h : A.V) : (readR A).2.V := by
  unfold readR
  have hI := rd_I h.tl (tc := A.tc) 59
  generalize rd A.tl A.tc 59 = q at hI ⊢
  split
  · split
    · next c => exact setN_V (recA_V h) ⟨(hI.2.2.2.2 c).1, h.nw.2.1, h.nw.2.2⟩
    · exact h
  · exact h
end VAL
