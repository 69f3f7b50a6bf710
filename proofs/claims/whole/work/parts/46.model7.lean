theorem sm_one {f g : Nat → Int} {c : Int} {p0 : Nat} : ∀ {P : Nat}, p0 < P → f p0 = g p0 + c → (∀ p, p < P → p ≠ p0 → f p = g p) → sm f P = sm g P + c
  | 0, h, _, _ => absurd h (Nat.not_lt_zero _)
  | P + 1, h, h1, h2 => by
    show sm f P + f P = sm g P + g P + c
    by_cases e : p0 = P
    · subst e
      rw [sm_cong (fun p hp => h2 p (by omega) (by omega)), h1]
      omega
    · rw [sm_one (P := P) (by omega) h1 (fun p hp => h2 p (by omega)), h2 P (by omega) (fun q => e q.symm)]
      omega
theorem sm_add (f g : Nat → Int) : ∀ n, sm (fun i => f i + g i) n = sm f n + sm g n
  | 0 => rfl
  | n + 1 => by
    show sm (fun i => f i + g i) n + (f n + g n) = sm f n + f n + (sm g n + g n)
    rw [sm_add f g n]
    omega
/-- a sum over phrases of sums over their syllables is one over all syllables -/
theorem part_sum {n : Nat} {D : Nat → Nat → Int} (hv : VD n D) (v : Nat → Int) : ∀ i, i ≤ n → sm (fun p => sm (fun j => if ph D j = (p : Nat) then v j else 0) i) (cnt1 D i).toNat = sm v i := by
  intro i
  induction i with
  | zero => intro _; rfl
  | succ i ih =>
    intro hi
    have h1 := ih (by omega)
    have hb := cnt1_b hv i (by omega)
    have hs : cnt1 D (i + 1) = cnt1 D i + D i 4 := rfl
    have hph : ph D i = cnt1 D i + D i 4 - 1 := by unfold ph; omega
    have hpb := ph_b hv (k := i) (by omega)
    show _ = sm v i + v i
    rcases (hv.2.1 i (by omega)).2.2.2.2.2.2.2.2 with h4 | h4
    · have e1 : (cnt1 D (i + 1)).toNat = (cnt1 D i).toNat := by omega
      rw [e1, ← h1]
      refine sm_one (p0 := (ph D i).toNat) (by omega) ?_ (fun p hp hne => ?_)
      · show sm _ i + (if ph D i = ((ph D i).toNat : Int) then v i else 0) = _
        rw [if_pos (by omega)]
      · show sm _ i + (if ph D i = (p : Int) then v i else 0) = _
        rw [if_neg (by omega)]
        omega
    · have e1 : (cnt1 D (i + 1)).toNat = (cnt1 D i).toNat + 1 := by omega
      rw [e1, ← h1]
      show sm _ _ + _ = _
      have e2 : sm (fun p => sm (fun j => if ph D j = (p : Nat) then v j else 0) (i + 1)) (cnt1 D i).toNat = sm (fun p => sm (fun j => if ph D j = (p : Nat) then v j else 0) i) (cnt1 D i).toNat := by
        refine sm_cong (fun p hp => ?_)
        show sm _ i + (if ph D i = (p : Int) then v i else 0) = _
        rw [if_neg (by omega)]
        omega
      have e3 : sm (fun j => if ph D j = (((cnt1 D i).toNat : Nat) : Int) then v j else 0) (i + 1) = v i := by
        show sm _ i + (if ph D i = (((cnt1 D i).toNat : Nat) : Int) then v i else 0) = v i
        rw [if_pos (by omega), sm_0 (fun j hj => if_neg (by have := ph_lt hv hj (by omega : i ≤ n); omega))]
        omega
      refine Eq.trans (congrArg (fun z => z + _) e2) ?_
      exact congrArg (fun z => _ + z) e3
theorem hits_sum {n : Nat} {D : Nat → Nat → Int} (hv : VD n D) (rs : Nat → Int) : sm (fun p => hP D rs p n) (pcN n D) = sm (fun k => if rs k = 0 then 1 else 0) n := by
  rw [← part_sum hv (fun k => if rs k = 0 then 1 else 0) n (Nat.le_refl n)]
  refine sm_cong (fun p _ => sm_cong (fun j _ => ?_))
  by_cases a : ph D j = (p : Int) <;> by_cases b : rs j = 0 <;> simp [a, b]
theorem re_sz {n : Nat} {D : Nat → Nat → Int} (hv : VD n D) : ∀ i, i < n → re D (fun _ => 0) (i + 1) = szP D (ph D i) (i + 1) := by
  intro i
  induction i with
  | zero =>
    intro hi
    have h4 := hv.2.2.1 hi
    show (if (0 : Int) = 0 then (if D 0 4 = 1 then 0 else re D (fun _ => 0) 0) + 1 else 0) = (0 : Int) + (if ph D 0 = ph D 0 then 1 else 0)
    simp [h4]
  | succ i ih =>
    intro hi
    have h1 := ih (by omega)
    have hps := ph_s (D := D) i
    show (if (0 : Int) = 0 then (if D (i + 1) 4 = 1 then 0 else re D (fun _ => 0) (i + 1)) + 1 else 0) = szP D (ph D (i + 1)) (i + 1) + (if ph D (i + 1) = ph D (i + 1) then 1 else 0)
    rw [if_pos rfl, if_pos rfl]
    rcases (hv.2.1 (i + 1) hi).2.2.2.2.2.2.2.2 with h4 | h4
    · have e : ph D (i + 1) = ph D i := by omega
      rw [if_neg (by omega), h1, e]
    · rw [if_pos h4]
      have : szP D (ph D (i + 1)) (i + 1) = 0 := sm_0 (fun j hj => if_neg (by
        have h5 := ph_lt hv hj (by omega : i + 1 ≤ n)
        have h6 : ph D (i + 1) = cnt1 D (i + 1) + D (i + 1) 4 - 1 := rfl
        omega))
      rw [this]
theorem ex_sum {n : Nat} {D : Nat → Nat → Int} (hv : VD n D) : ∀ i, i ≤ n → sm (fun p => if 2 ≤ szP D (p : Nat) i then 50 else 0) (cnt1 D i).toNat = sm (fun j => if re D (fun _ => 0) (j + 1) = 2 then 50 else 0) i := by
  intro i
  induction i with
  | zero => intro _; rfl
  | succ i ih =>
    intro hi
    have h1 := ih (by omega)
    have hb := cnt1_b hv i (by omega)
    have hs : cnt1 D (i + 1) = cnt1 D i + D i 4 := rfl
    have hph : ph D i = cnt1 D i + D i 4 - 1 := by unfold ph; omega
    have hpb := ph_b hv (k := i) (by omega)
    have hre := re_sz hv i (by omega)
    have hsz : ∀ p, szP D p (i + 1) = szP D p i + (if ph D i = p then 1 else 0) := fun p => rfl
    show _ = sm (fun j => if re D (fun _ => 0) (j + 1) = 2 then (50 : Int) else 0) i + (if re D (fun _ => 0) (i + 1) = 2 then 50 else 0)
    rw [hre, hsz (ph D i), if_pos rfl]
    have hz0 := szP_b D (ph D i) i
    rcases (hv.2.1 i (by omega)).2.2.2.2.2.2.2.2 with h4 | h4
    · have e1 : (cnt1 D (i + 1)).toNat = (cnt1 D i).toNat := by omega
      rw [e1, ← h1]
      have ep : (((ph D i).toNat : Nat) : Int) = ph D i := by omega
      refine sm_one (p0 := (ph D i).toNat) (by omega) ?_ (fun p hp hne => ?_)
      · rw [ep, hsz, if_pos rfl]
        (repeat' split) <;> omega
      · rw [hsz, show (if ph D i = (p : Int) then (1 : Int) else 0) = 0 from if_neg (by omega)]
        simp
    · have e1 : (cnt1 D (i + 1)).toNat = (cnt1 D i).toNat + 1 := by omega
      have e0 : szP D (ph D i) i = 0 := sm_0 (fun j hj => if_neg (by have := ph_lt hv hj (by omega : i ≤ n); omega))
      rw [e1, ← h1, e0]
      show sm _ _ + _ = _
      have e2 : sm (fun p => if 2 ≤ szP D (p : Nat) (i + 1) then (50 : Int) else 0) (cnt1 D i).toNat = sm (fun p => if 2 ≤ szP D (p : Nat) i then 50 else 0) (cnt1 D i).toNat := by
        refine sm_cong (fun p hp => ?_)
        rw [hsz, show (if ph D i = (p : Int) then (1 : Int) else 0) = 0 from if_neg (by omega)]
        simp
      have ep : (((cnt1 D i).toNat : Nat) : Int) = ph D i := by omega
      refine Eq.trans (congrArg (fun z => z + _) e2) ?_
      refine congrArg (fun z => _ + z) ?_
      show (if 2 ≤ szP D (((cnt1 D i).toNat : Nat) : Int) (i + 1) then (50 : Int) else 0) = _
      rw [ep, hsz, if_pos rfl, e0]
      simp
theorem ptW_p {n : Nat} {D : Nat → Nat → Int} {b : Int} (hv : VD n D) (hb : 2 ≤ b) {i : Nat} (hi : i < n) : ptW D (fun _ => 100) (fun i => bl D i b) (fun i => D i 0) (fun _ => 0) i = ((100 + 5 * bl D i b) * (10 + mn10 (rwA D (fun _ => 0) i))).tdiv 10 := by
  have h1 := bl_b hv hi hb
  show (if (0 : Int) = 0 then (mx0 (100 + 5 * bl D i b - 2 * absI (D i 0 - D i 0)) * (10 + mn10 (rwA D (fun _ => 0) i))).tdiv 10 else 0) = _
  rw [if_pos rfl]
  have e : mx0 (100 + 5 * bl D i b - 2 * absI (D i 0 - D i 0)) = 100 + 5 * bl D i b := by
    have : absI (D i 0 - D i 0) = 0 := by unfold absI; split <;> omega
    rw [this]
    unfold mx0
    split <;> omega
  rw [e]
theorem perf_sum {n : Nat} {D : Nat → Nat → Int} {b : Int} (hv : VD n D) : perfPts n D b = sm (fun i => ptW D (fun _ => 100) (fun i => bl D i b) (fun i => D i 0) (fun _ => 0) i + (if re D (fun _ => 0) (i + 1) = 2 then 50 else 0)) n := by
  unfold perfPts
  rw [sm_add, sm_add, ← ex_sum hv n (Nat.le_refl n)]
  have e1 := part_sum hv (ptW D (fun _ => 100) (fun i => bl D i b) (fun i => D i 0) (fun _ => 0)) n (Nat.le_refl n)
  have e2 : sm (fun p => exP n D (fun _ => 0) (p : Nat)) (pcN n D) = sm (fun p => if 2 ≤ szP D (p : Nat) n then 50 else 0) (pcN n D) := by
    refine sm_cong (fun p _ => ?_)
    unfold exP
    have : hP D (fun _ => 0) (p : Nat) n = szP D (p : Nat) n := sm_cong (fun j _ => by simp)
    rw [this]
    simp
  rw [e2]
  have e3 : sm (fun p => pP D (ptW D (fun _ => 100) (fun i => bl D i b) (fun i => D i 0) (fun _ => 0)) (p : Nat) n) (pcN n D) = sm (ptW D (fun _ => 100) (fun i => bl D i b) (fun i => D i 0) (fun _ => 0)) n := e1
  rw [e3]
  rfl
