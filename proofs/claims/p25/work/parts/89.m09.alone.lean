theorem sm_all {f : Nat → Int} : ∀ {m : Nat}, (∀ i, i < m → f i = 1) → sm f m = m
  | 0, _ => rfl
  | m + 1, h => by
    show sm f m + f m = _
    rw [sm_all (fun i hi => h i (by omega)), h m (by omega)]
    omega
theorem sm_ind {b l : Int} (hb : 0 ≤ b) (hl : 0 ≤ l) : ∀ N : Nat, sm (fun t => if b ≤ (t : Int) ∧ (t : Int) < b + l then 1 else 0) N = if (N : Int) ≤ b then 0 else if (N : Int) ≤ b + l then N - b else l
  | 0 => by
    show (0 : Int) = _
    rw [if_pos (by omega)]
  | N + 1 => by
    show sm _ N + (if b ≤ (N : Int) ∧ (N : Int) < b + l then 1 else 0) = _
    rw [sm_ind hb hl N]
    (repeat' split) <;> omega
/-- the song k sung alone -/
def aloS (S : Sg) (k : Nat) : Sg := vwS (vcS S 0 600 (-1)) k k 0
section ALO
variable {S : Sg} {k : Nat}
theorem aloS_V (hV : S.V) : (aloS S k).V := vwS_V (vcS_V hV _ _ _) _ _ _
set_option maxRecDepth 20000 in
theorem alo_sg (hV : S.V) (hk : k < S.n) (t : Int) : sgA (aloS S k).sg t = if S.D k 0 ≤ t ∧ t < S.D k 0 + S.D k 1 then wn S.D k (t - S.D k 0) else -1 := by
  have hb := hV.1.2.1 k hk
  have e1 : ((k : Int) - k + 1).toNat = 1 := by omega
  have e2 : ((k : Int)).toNat = k := Int.toNat_natCast k
  have e3 : (aloS S k).sg = vwF S.D k 0 (vcS S 0 600 (-1)).sg (S.D k 1).toNat := by
    show vwL S.D 0 (vcS S 0 600 (-1)).sg ((k : Int)).toNat ((k : Int) - k + 1).toNat = _
    rw [e1, e2]
    rfl
  unfold sgA
  by_cases ht : 0 ≤ t ∧ t < 600
  · rw [if_pos ht, e3]
    show (if S.D k 0 ≤ ((t.toNat : Nat) : Int) ∧ ((t.toNat : Nat) : Int) < S.D k 0 + ((S.D k 1).toNat : Nat) then clp (wn S.D k (((t.toNat : Nat) : Int) - S.D k 0) + 0) else (if (0 : Int) ≤ ((t.toNat : Nat) : Int) ∧ ((t.toNat : Nat) : Int) < 0 + 600 then clp (-1) else S.sg t.toNat)) = _
    have et : ((t.toNat : Nat) : Int) = t := by omega
    have el : (((S.D k 1).toNat : Nat) : Int) = S.D k 1 := by omega
    rw [et, el]
    by_cases c : S.D k 0 ≤ t ∧ t < S.D k 0 + S.D k 1
    · rw [if_pos c, if_pos c]
      have hw := wn_60 hV.1 hk (j := t - S.D k 0) ⟨by omega, by omega⟩
      unfold clp
      rw [if_pos (by omega)]
      omega
    · rw [if_neg c, if_neg c, if_pos (by omega)]
      rfl
  · rw [if_neg ht, if_neg (by omega)]
theorem alo_pj (hV : S.V) (hk : k < S.n) {j : Nat} (hj : j < len S.D k) : pj S.D (aloS S k).sg k j = wn S.D k j ∧ mB S.D S.st (aloS S k).sg k j = true := by
  have hb := hV.1.2.1 k hk
  have hj2 : (j : Int) < S.D k 1 := by unfold len at hj; omega
  have hw := wn_60 hV.1 hk (j := j) ⟨by omega, hj2⟩
  have e : pj S.D (aloS S k).sg k j = wn S.D k j := by
    unfold pj
    rw [alo_sg hV hk, if_pos (by omega)]
    congr 1
    omega
  refine ⟨e, ?_⟩
  unfold mB mt?
  rw [e, decide_eq_true_eq]
  refine ⟨by omega, ?_⟩
  have e0 : absI (wn S.D k j - wn S.D k j) = 0 := by
    unfold absI
    split <;> omega
  have h1 := hV.2.1.2.1
  rw [e0]
  unfold far
  split
  · have : Int.tmod 0 12 = 0 := rfl
    rw [this]
    split <;> omega
  · omega
set_option maxRecDepth 20000 in
theorem alo_m (hV : S.V) (hk : k < S.n) : shV S.D S.st (aloS S k).sg k = 100 ∧ onF S.D S.st (aloS S k).sg k = S.D k 0 ∧ rsV S.D S.st (aloS S k).sg k = 0 ∧ sndT (aloS S k).sg = S.D k 1 := by
  have hb := hV.1.2.1 k hk
  have hlen : (len S.D k : Int) = S.D k 1 := by unfold len; omega
  have e1 : mcS S.D S.st (aloS S k).sg k (len S.D k) = len S.D k := sm_all (fun j hj => if_pos (alo_pj hV hk hj).2)
  have e2 : scS S.D (aloS S k).sg k (len S.D k) = len S.D k := sm_all (fun j hj => by
    have hj2 : (j : Int) < S.D k 1 := by unfold len at hj; omega
    have hw := wn_60 hV.1 hk (j := j) ⟨by omega, hj2⟩
    rw [(alo_pj hV hk hj).1, if_neg (by omega)])
  have e3 : shV S.D S.st (aloS S k).sg k = 100 := by
    unfold shV
    rw [e1, hlen]
    exact Int.mul_tdiv_cancel_left 100 (by omega)
  have hon : on? (aloS S k).sg (S.D k 0) = true := by
    have hw := wn_60 hV.1 hk (j := 0) ⟨by omega, by omega⟩
    unfold on?
    rw [decide_eq_true_eq, alo_sg hV hk, alo_sg hV hk, if_pos (by omega), if_neg (by omega)]
    have : S.D k 0 - S.D k 0 = 0 := by omega
    rw [this]
    omega
  have h2 := hV.2.1.2.2.1
  have e4 : nrO S.st (aloS S k).sg (S.D k 0) = S.D k 0 := by
    unfold nrO
    obtain ⟨r, hr⟩ : ∃ r, (S.st 2 + 1).toNat = r + 1 := ⟨(S.st 2).toNat, by omega⟩
    rw [hr]
    unfold nr
    have e : S.D k 0 - 0 = S.D k 0 := by omega
    rw [e, if_pos hon]
  refine ⟨e3, e4, ?_, ?_⟩
  · have h4 := hV.2.1.2.2.2.2
    unfold rsV
    rw [e1, e2, e3, e4, if_neg (by omega), if_neg (by omega), if_neg (by omega), if_neg (by omega)]
  · obtain ⟨N, hN⟩ : ∃ N : Nat, N = 600 := ⟨600, rfl⟩
    have h6 : sm (fun t => if S.D k 0 ≤ (t : Int) ∧ (t : Int) < S.D k 0 + S.D k 1 then 1 else 0) 600 = S.D k 1 := by
      have := sm_ind (b := S.D k 0) (l := S.D k 1) hb.1 (by omega) 600
      rw [this]
      (repeat' split) <;> omega
    rw [← h6]
    unfold sndT
    rw [← hN]
    refine sm_cong (fun t ht => ?_)
    have hs := alo_sg hV hk (t : Int)
    have es : sgA (aloS S k).sg (t : Int) = (aloS S k).sg t := by unfold sgA; rw [if_pos (by omega), Int.toNat_natCast]
    rw [es] at hs
    rw [hs]
    by_cases c : S.D k 0 ≤ (t : Int) ∧ (t : Int) < S.D k 0 + S.D k 1
    · have hw := wn_60 hV.1 hk (j := (t : Int) - S.D k 0) ⟨by omega, by omega⟩
      rw [if_pos c, if_pos c, if_neg (by omega)]
    · rw [if_neg c, if_neg c, if_pos rfl]
end ALO
set_option maxRecDepth 20000 in
theorem sil_all {A : Ab} : (silR A 0 600).1 = sndT A.now.sg ∧ (silR A 0 600).2 = setN (recA A) (vcS A.now 0 600 (-1)) := by
  have e : silR A 0 600 = (sndT A.now.sg - sndT (vcS A.now 0 600 (-1)).sg, setN (recA A) (vcS A.now 0 600 (-1))) := if_pos (by decide)
  have e0 : sndT (vcS A.now 0 600 (-1)).sg = 0 := by
    unfold sndT
    obtain ⟨N, hN⟩ : ∃ N : Nat, N = 600 := ⟨600, rfl⟩
    rw [← hN]
    refine sm_0 (fun t ht => ?_)
    show (if (if (0 : Int) ≤ (t : Nat) ∧ ((t : Nat) : Int) < 0 + 600 then clp (-1) else A.now.sg t) = -1 then (0 : Int) else 1) = 0
    rw [if_pos (show (0 : Int) ≤ (t : Nat) ∧ ((t : Nat) : Int) < 0 + 600 by omega)]
    rfl
  rw [e, e0]
  exact ⟨by show sndT A.now.sg - 0 = _; omega, rfl⟩
theorem sal_in {A : Ab} {f l y : Int} (hf : 0 ≤ f ∧ f < A.now.n) (hl : 0 ≤ l ∧ l < A.now.n) (h : f ≤ l) (hy : -60 ≤ y ∧ y ≤ 60) : salR A f l y = (hitsA (vwS A.now f l y), setN (recA A) (vwS A.now f l y)) := by
  unfold salR
  rw [if_pos ⟨hf, hl⟩, if_pos ⟨h, hy⟩]
theorem und_3 {A : Ab} {S1 S2 S3 : Sg} (h : A.c ≤ 4) : 0 ≤ (undR (setN (recA (setN (recA (setN (recA A) S1)) S2)) S3)).1 ∧ 0 ≤ (undR (undR (setN (recA (setN (recA (setN (recA A) S1)) S2)) S3)).2).1 ∧ 0 ≤ (undR (undR (undR (setN (recA (setN (recA (setN (recA A) S1)) S2)) S3)).2).2).1 ∧ (undR (undR (undR (setN (recA (setN (recA (setN (recA A) S1)) S2)) S3)).2).2).2.now = A.now := by
  obtain ⟨nw, c, hs, f, sn, tl, tc⟩ := A
  have hc : c ≤ 4 := h
  have hc5 : c = 0 ∨ c = 1 ∨ c = 2 ∨ c = 3 ∨ c = 4 := by omega
  rcases hc5 with rfl | rfl | rfl | rfl | rfl
  · exact ⟨(show (0 : Int) ≤ 2 by decide), (show (0 : Int) ≤ 1 by decide), (show (0 : Int) ≤ 0 by decide), rfl⟩
  · exact ⟨(show (0 : Int) ≤ 3 by decide), (show (0 : Int) ≤ 2 by decide), (show (0 : Int) ≤ 1 by decide), rfl⟩
  · exact ⟨(show (0 : Int) ≤ 3 by decide), (show (0 : Int) ≤ 2 by decide), (show (0 : Int) ≤ 1 by decide), rfl⟩
  · exact ⟨(show (0 : Int) ≤ 3 by decide), (show (0 : Int) ≤ 2 by decide), (show (0 : Int) ≤ 1 by decide), rfl⟩
  · exact ⟨(show (0 : Int) ≤ 3 by decide), (show (0 : Int) ≤ 2 by decide), (show (0 : Int) ≤ 1 by decide), rfl⟩
