theorem rd_go {tl : Nat} {tc : Nat → Int} : ∀ k, (rd tl tc k).s = 0 ∧ (rd tl tc k).p < tl → (rd tl tc k).n = k + 1
  | 0, h => by
    have e : rd tl tc 0 = rst tl tc (0, 0, 0, (fun _ _ => 0), 0) 0 1 := rfl
    rw [e] at h ⊢
    unfold rst at h ⊢
    by_cases c : (sy tl tc 0).1 = 1
    · rw [if_pos c]
      rfl
    · rw [if_neg c] at h
      exact absurd (show (2 : Int) = 0 from h.1) (by decide)
  | k + 1, h => by
    have ih := rd_go (tl := tl) (tc := tc) k
    have e : rd tl tc (k + 1) = rdn tl tc (rd tl tc k) := rfl
    rw [e] at h ⊢
    generalize rd tl tc k = q at ih h ⊢
    unfold rdn at h ⊢
    by_cases c : q.s = 0 ∧ q.p < tl
    · have ih := ih c
      rw [if_pos c] at h ⊢
      have hrst : ∀ p f, (rst tl tc q p f).s = 0 → (rst tl tc q p f).n = k + 1 + 1 := by
        intro p f h2
        unfold rst at h2 ⊢
        by_cases c3 : (sy tl tc p).1 = 1
        · rw [if_pos c3]
          show q.n + 1 = _
          rw [ih]
        · rw [if_neg c3] at h2
          exact absurd (show (2 : Int) = 0 from h2) (by decide)
      by_cases c1 : tc q.p = 47
      · rw [if_pos c1] at h ⊢
        exact hrst _ _ h.1
      · rw [if_neg c1] at h ⊢
        by_cases c2 : tc q.p = 44
        · rw [if_pos c2] at h ⊢
          exact hrst _ _ h.1
        · rw [if_neg c2] at h
          exact absurd (show (2 : Int) = 0 from h.1) (by decide)
    · rw [if_neg c] at h
      exact absurd h c
theorem rd_fix {tl : Nat} {tc : Nat → Int} {k : Nat} (h : ¬ ((rd tl tc k).s = 0 ∧ (rd tl tc k).p < tl)) : ∀ j, rd tl tc (k + j) = rd tl tc k
  | 0 => rfl
  | j + 1 => by
    have ih := rd_fix h j
    show rdn tl tc (rd tl tc (k + j)) = _
    rw [ih]
    unfold rdn
    rw [if_neg h]
/-- where the reading ends, at any step behind the last -/
theorem rd_end {tl : Nat} {tc : Nat → Int} (htl : tl ≤ 60) {k : Nat} (h : ¬ ((rd tl tc k).s = 0 ∧ (rd tl tc k).p < tl)) : rd tl tc k = rd tl tc 59 := by
  by_cases c : k ≤ 59
  · have := rd_fix h (59 - k)
    rw [show k + (59 - k) = 59 by omega] at this
    exact this.symm
  · have h59 : ¬ ((rd tl tc 59).s = 0 ∧ (rd tl tc 59).p < tl) := fun h2 => by
      have h3 := rd_go 59 h2
      have h4 := (rd_I htl (tc := tc) 59).2.2.1
      omega
    have := rd_fix h59 (k - 59)
    rw [show 59 + (k - 59) = k by omega] at this
    exact this
/-- the song that the class reads into, and whether it was too long -/
def CRs (M : Mm) (q : RS) : Prop := (q.T ≤ 600 → M.2.1 68 2 = 0 ∧ CS M 11 q.n q.D) ∧ (600 < q.T → M.2.1 68 2 = 1 ∧ ∃ n2 D2, VD n2 D2 ∧ CS M 11 n2 D2)
def FrR (M M2 : Mm) : Prop := M2.1 = M.1 ∧ M2.2.2 = M.2.2 ∧ ∀ q j, q < 11 ∨ (16 < q ∧ q ≠ 68) → M2.2.1 q j = M.2.1 q j
theorem FrR.tr {M M2 M3 : Mm} (h : FrR M M2) (h2 : FrR M2 M3) : FrR M M3 := ⟨by rw [h2.1, h.1], by rw [h2.2.1, h.2.1], fun q j hq => by rw [h2.2.2 q j hq, h.2.2 q j hq]⟩
theorem FrR.si (M : Mm) (j : Nat) (z : Int) : FrR M (si M 68 j z) := ⟨rfl, rfl, fun q i hq => by rw [si_g, if_neg (by omega)]⟩
theorem FrR.app (M : Mm) {n : Nat} {b l a e p : Int} : FrR M (app M 11 n b l a e p) := ⟨rfl, rfl, fun q i hq => app_o (by omega)⟩
theorem TX.fr {M M2 : Mm} {tl : Nat} {tc : Nat → Int} (h : TX M tl tc) (hf : FrR M M2) : TX M2 tl tc := by
  obtain ⟨h1, h2, h3, h7, h4, h5, h6⟩ := h
  refine ⟨by rw [hf.1]; exact h1, by rw [hf.2.1]; exact h2, by rw [hf.1]; exact h3, by rw [hf.1]; exact h7, h4, ?_, fun i hi => ?_⟩
  · rw [hf.2.2 _ _ (by omega)]; exact h5
  · rw [hf.2.2 _ _ (by omega)]; exact h6 i hi
section RD5
variable {K : Int → Mm → Prop} {M : Mm} {tl : Nat} {tc : Nat → Int}
theorem e_rdSyl {q : RS} {p : Nat} {f : Int} (h : TX M tl tc) (hq : CRs M q) (hp : p ≤ 100) (h68 : M.2.1 68 0 = p) (hf : f = 0 ∨ f = 1) (h3 : q.n ≤ 15) (h5 : q.T ≤ 600 → VD q.n q.D ∧ tk q.n q.D = q.T) (hK : ∀ M2, FrR M M2 → M2.2.1 68 0 = (rst tl tc q p f).p → M2.2.1 68 1 = M.2.1 68 1 → CRs M2 (rst tl tc q p f) → K (if (rst tl tc q p f).s = 0 then 1 else 0) M2) : m_X2_readSyllable [.inr (some 68), .inr (some 11), .inr (some 66), .inl f] K M := by
  unfold rst at hK
  have song : ∃ n D, VD n D ∧ CS M 11 n D ∧ (q.T ≤ 600 → n = q.n ∧ D = q.D) := by
    by_cases c : q.T ≤ 600
    · exact ⟨q.n, q.D, (h5 c).1, (hq.1 c).2, fun _ => ⟨rfl, rfl⟩⟩
    · obtain ⟨e, n2, D2, v, cs⟩ := hq.2 (by omega)
      exact ⟨n2, D2, v, cs, fun c2 => absurd c2 c⟩
  obtain ⟨n, D, v, cs, hs⟩ := song
  refine e_readSyllable h cs v hp h68 hf (fun c => ?_) (fun c => ?_)
  · rw [if_neg c] at hK
    refine hK _ (FrR.si M 0 _) (s68 M _) (by rw [si_g, if_neg (by omega)]) ⟨fun ht => ?_, fun ht => ?_⟩
    · obtain ⟨x1, x2⟩ := hq.1 ht
      exact ⟨by rw [si_g, if_neg (by omega)]; exact x1, x2.si68 (by decide)⟩
    · obtain ⟨x1, n2, D2, v2, x2⟩ := hq.2 ht
      exact ⟨by rw [si_g, if_neg (by omega)]; exact x1, n2, D2, v2, x2.si68 (by decide)⟩
  · rw [if_pos c] at hK
    obtain ⟨b0, b1, b2, b3, b4, b5, b6⟩ := sy_b c
    have cs2 : CS (si M 68 0 ((sy tl tc p).2 : Nat)) 11 n D := cs.si68 (by decide)
    have f1 : ∀ f2, f2 = (if n = 0 then 1 else f) → cnt1 D n + f2 - 1 = cnt1 D n + f2 - 1 := fun _ _ => rfl
    refine ⟨fun cr => ?_, fun cr => ?_⟩
    · refine hK _ ((FrR.si M 0 _).tr (FrR.app _)) (by rw [app_o (by omega)]; exact s68 M _) (by rw [app_o (by omega), si_g, if_neg (by omega)]) ⟨fun ht => ?_, fun ht => ?_⟩
      · have ht2 : q.T + (sy0 tl tc p).1 + (sy3 tl tc p).1 ≤ 600 := ht
        obtain ⟨e1, e2⟩ := hs (by omega)
        obtain ⟨x1, x2⟩ := hq.1 (by omega)
        have e3 := (h5 (by omega)).2
        subst e1 e2
        refine ⟨by rw [app_o (by omega), si_g, if_neg (by omega)]; exact x1, ?_⟩
        have := CS_app (b := tk q.n q.D + (sy0 tl tc p).1) (l := (sy3 tl tc p).1) (a := (sy1 tl tc p).1) (e := (sy2 tl tc p).1) (f := if q.n = 0 then 1 else f) cs2 cr.1 rfl
        rw [e3] at this ⊢
        exact this
      · have ht2 : 600 < q.T + (sy0 tl tc p).1 + (sy3 tl tc p).1 := ht
        by_cases ct : q.T ≤ 600
        · obtain ⟨e1, e2⟩ := hs ct
          have e3 := (h5 ct).2
          subst e1 e2
          omega
        · obtain ⟨x1, _⟩ := hq.2 (by omega)
          refine ⟨by rw [app_o (by omega), si_g, if_neg (by omega)]; exact x1, n + 1, _, (VD_add v cr.1 b0 b3 b1 b2 hf cr.2).1, CS_app cs2 cr.1 rfl⟩
    · refine hK _ ((FrR.si M 0 _).tr (FrR.si _ 2 1)) (by rw [si_g, if_neg (by omega)]; exact s68 M _) (by rw [si_g, if_neg (by omega), si_g, if_neg (by omega)]) ⟨fun ht => ?_, fun ht => ?_⟩
      · have ht2 : q.T + (sy0 tl tc p).1 + (sy3 tl tc p).1 ≤ 600 := ht
        obtain ⟨e1, e2⟩ := hs (by omega)
        have e3 := (h5 (by omega)).2
        subst e1 e2
        omega
      · exact ⟨by rw [si_g, if_pos ⟨rfl, rfl⟩], n, D, v, cs2.si68 (by decide)⟩
end RD5
