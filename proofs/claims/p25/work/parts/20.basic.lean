theorem si_1 (M : Mm) (q k : Nat) (z : Int) : (si M q k z).1 = M.1 := rfl
theorem si_2 (M : Mm) (q k : Nat) (z : Int) : (si M q k z).2.2 = M.2.2 := rfl
theorem si_g (M : Mm) (q k : Nat) (z : Int) (a b : Nat) : (si M q k z).2.1 a b = if a = q ∧ b = k then z else M.2.1 a b := rfl
theorem sr_1 (M : Mm) (q k : Nat) (r : Option Nat) : (sr M q k r).1 = M.1 := rfl
theorem sr_2 (M : Mm) (q k : Nat) (r : Option Nat) : (sr M q k r).2.1 = M.2.1 := rfl
theorem cp_1 (M : Mm) (q0 q1 a b n : Nat) : (cpy M q0 q1 a b n).1 = M.1 := rfl
theorem cp_2 (M : Mm) (q0 q1 a b n : Nat) : (cpy M q0 q1 a b n).2.2 = M.2.2 := rfl
theorem ent_0 (a : Vv) (l : List Vv) (x y : Int) : ent (a :: l) x y 0 = a := rfl
theorem ent_1 (a b : Vv) (l : List Vv) (x y : Int) : ent (a :: b :: l) x y 1 = b := rfl
theorem ent_2 (a b c : Vv) (l : List Vv) (x y : Int) : ent (a :: b :: c :: l) x y 2 = c := rfl
theorem ent_3 (a b c d : Vv) (l : List Vv) (x y : Int) : ent (a :: b :: c :: d :: l) x y 3 = d := rfl
theorem ent_4 (a b c d e : Vv) (l : List Vv) (x y : Int) : ent (a :: b :: c :: d :: e :: l) x y 4 = e := rfl
theorem ent_5 (a b c d e f : Vv) (l : List Vv) (x y : Int) : ent (a :: b :: c :: d :: e :: f :: l) x y 5 = f := rfl
theorem ent_6 (a b c d e f g : Vv) (l : List Vv) (x y : Int) : ent (a :: b :: c :: d :: e :: f :: g :: l) x y 6 = g := rfl
theorem inR_s {z : Int} (h : -1000000 ≤ z) (h2 : z ≤ 1000000) : inR z := ⟨by omega, by omega⟩
/-- a loop whose rounds are counted -/
theorem while_n {c : CE} {b : ST} {K : En → Mm → Prop} {Rt : Int → Mm → Prop} (I : Nat → En → Mm → Prop)
    (h : ∀ (n : Nat) (W : En → Mm → Prop), (∀ ρ M, n ≠ 0 → I (n - 1) ρ M → W ρ M) → ∀ ρ M, I n ρ M → c (fun M2 => b W Rt ρ M2) (fun M2 => K ρ M2) ρ M) {n : Nat} {ρ : En} {M : Mm} (h0 : I n ρ M) : sWhile c b K Rt ρ M := by
  refine ⟨n + 1, ?_⟩
  induction n generalizing ρ M with
  | zero => exact h 0 _ (fun _ _ h1 => absurd rfl h1) ρ M h0
  | succ n ih => exact h (n + 1) _ (fun ρ2 M2 _ h2 => ih h2) ρ M h0
/-- a Song at a place -/
def SongP (M : Mm) (k : Nat) : Prop := M.1[k]? = some (3, 0) ∧ (∀ j, j < 5 → M.1[k + 1 + j]? = some (20, 40)) ∧ ∀ j, j < 5 → M.2.2 k j = some (k + 1 + j)
theorem SongP.o {M : Mm} {k : Nat} (h : SongP M k) : M.1[k]? = some (3, 0) ∧ (M.1[k + 1]? = some (20, 40) ∧ M.1[k + 2]? = some (20, 40) ∧ M.1[k + 3]? = some (20, 40) ∧ M.1[k + 4]? = some (20, 40) ∧ M.1[k + 5]? = some (20, 40)) ∧ M.2.2 k 0 = some (k + 1) ∧ M.2.2 k 1 = some (k + 2) ∧ M.2.2 k 2 = some (k + 3) ∧ M.2.2 k 3 = some (k + 4) ∧ M.2.2 k 4 = some (k + 5) :=
  ⟨h.1, ⟨h.2.1 0 (by decide), h.2.1 1 (by decide), h.2.1 2 (by decide), h.2.1 3 (by decide), h.2.1 4 (by decide)⟩, h.2.2 0 (by decide), h.2.2 1 (by decide), h.2.2 2 (by decide), h.2.2 3 (by decide), h.2.2 4 (by decide)⟩
theorem SongP_si (M : Mm) (q j : Nat) (z : Int) (k : Nat) : SongP (si M q j z) k = SongP M k := rfl
