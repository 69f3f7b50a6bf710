/-! ===== expressions ===== -/
def iC (z : Int) : IE := fun K _ M => K z M
def iL (i : Nat) : IE := fun K ρ M => match ρ i with
  | .inl z => K z M
  | _ => False
def iF (ci j : Nat) (r : RE) : IE := fun K ρ M => r (fun o M => match o with
  | some q => (∃ w, M.1[q]? = some (ci, w)) ∧ K (M.2.1 q j) M
  | none => False) ρ M
def iA (r : RE) (i : IE) : IE := fun K ρ M => r (fun o M => i (fun x M => match o with
  | some q => ∃ n : Nat, M.1[q]? = some (20, n) ∧ 0 ≤ x ∧ x < (n : Int) ∧ K (M.2.1 q x.toNat) M
  | none => False) ρ M) ρ M
def iAc (r : RE) (i : IE) : IE := fun K ρ M => r (fun o M => i (fun x M => match o with
  | some q => ∃ n : Nat, M.1[q]? = some (21, n) ∧ 0 ≤ x ∧ x < (n : Int) ∧ K (M.2.1 q x.toNat) M
  | none => False) ρ M) ρ M
def iLen (r : RE) : IE := fun K ρ M => r (fun o M => match o with
  | some q => ∃ n : Nat, M.1[q]? = some (20, n) ∧ n < 2147483648 ∧ K (n : Int) M
  | none => False) ρ M
/-- of a table: a static one, or the script -/
def iT (L : Nat) (xs : Nat → Int) (t : Nat) (i : IE) : IE := fun K ρ M => i (fun x M => 0 ≤ x ∧ x < (tLn L t : Int) ∧ K (tVl xs t x.toNat) M) ρ M
/-- of the script, which is the local 0 -/
def iSc (L : Nat) (xs : Nat → Int) (i : IE) : IE := fun K ρ M => ρ 0 = .inr (some 1000003) ∧ i (fun x M => 0 ≤ x ∧ x < (L : Int) ∧ K (xs x.toNat) M) ρ M
def iScL (L : Nat) : IE := fun K ρ M => ρ 0 = .inr (some 1000003) ∧ L < 2147483648 ∧ K (L : Int) M
def iTn (L t : Nat) : IE := fun K _ M => K (tLn L t : Int) M
def iAdd (a b : IE) : IE := fun K ρ M => a (fun x M => b (fun y M => inR (x + y) ∧ K (x + y) M) ρ M) ρ M
def iSub (a b : IE) : IE := fun K ρ M => a (fun x M => b (fun y M => inR (x - y) ∧ K (x - y) M) ρ M) ρ M
def iMul (a b : IE) : IE := fun K ρ M => a (fun x M => b (fun y M => inR (x * y) ∧ K (x * y) M) ρ M) ρ M
def iDiv (a b : IE) : IE := fun K ρ M => a (fun x M => b (fun y M => y ≠ 0 ∧ inR (x.tdiv y) ∧ K (x.tdiv y) M) ρ M) ρ M
def iRem (a b : IE) : IE := fun K ρ M => a (fun x M => b (fun y M => y ≠ 0 ∧ inR (x.tmod y) ∧ K (x.tmod y) M) ρ M) ρ M
def iNeg (a : IE) : IE := fun K ρ M => a (fun x M => inR (-x) ∧ K (-x) M) ρ M
def iCh (a : IE) : IE := fun K ρ M => a (fun x M => K (x % 65536) M) ρ M
def iAnd31 (a : IE) : IE := fun K ρ M => a (fun x M => K (x % 32) M) ρ M
def iQ (c : CE) (a b : IE) : IE := fun K ρ M => c (fun M => a K ρ M) (fun M => b K ρ M) ρ M
def iMax (a b : IE) : IE := fun K ρ M => a (fun x M => b (fun y M => K (if x < y then y else x) M) ρ M) ρ M
def iMin (a b : IE) : IE := fun K ρ M => a (fun x M => b (fun y M => K (if y < x then y else x) M) ρ M) ρ M
def iAbs (a : IE) : IE := fun K ρ M => a (fun x M => inR (if 0 ≤ x then x else 0 - x) ∧ K (if 0 ≤ x then x else 0 - x) M) ρ M
def iCallS (Me : Mt) (a : AE) : IE := fun K ρ M => a (fun l M => Me l K M) ρ M
def iCallV (ci : Nat) (Me : Mt) (r : RE) (a : AE) : IE := fun K ρ M => r (fun o M => a (fun l M => match o with
  | some q => (∃ w, M.1[q]? = some (ci, w)) ∧ Me (.inr (some q) :: l) K M
  | none => False) ρ M) ρ M
def aN : AE := fun K _ M => K [] M
def aI (e : IE) (a : AE) : AE := fun K ρ M => e (fun x M => a (fun l M => K (.inl x :: l) M) ρ M) ρ M
def aR (e : RE) (a : AE) : AE := fun K ρ M => e (fun x M => a (fun l M => K (.inr x :: l) M) ρ M) ρ M
def rL (i : Nat) : RE := fun K ρ M => match ρ i with
  | .inr (some q) => K (some q) M
  | _ => False
def rF (ci j : Nat) (r : RE) : RE := fun K ρ M => r (fun o M => match o with
  | some q => (∃ w, M.1[q]? = some (ci, w)) ∧ K (M.2.2 q j) M
  | none => False) ρ M
def rA (r : RE) (i : IE) : RE := fun K ρ M => r (fun o M => i (fun x M => match o with
  | some q => ∃ n : Nat, M.1[q]? = some (22, n) ∧ 0 ≤ x ∧ x < (n : Int) ∧ K (M.2.2 q x.toNat) M
  | none => False) ρ M) ρ M
def capOK (ρ : En) (M : Mm) (w : Nat × Nat) : Prop := M.1.length + 1 ≤ limC ρ ∧ ssum M.1 + ssz w ≤ limS ρ ∧ M.1.length + 1 ≤ 1000000
def rNew (ci : Nat) (mc ms : Nat) (Me : Mt) (a : AE) : RE := fun K ρ M => capOK ρ M (ci, 0) ∧ a (fun l M1 => (M1.1.length + mc ≤ limC ρ ∧ ssum M1.1 + ms ≤ limS ρ) ∧ Me (.inr (some M.1.length) :: l) (fun _ M2 => K (some M.1.length) M2) M1) ρ (pu M (ci, 0))
def rNewI (e : IE) : RE := fun K ρ M => e (fun z M => ∃ n : Nat, z = n ∧ n ≤ 100000000 ∧ capOK ρ M (20, n) ∧ K (some M.1.length) (pu M (20, n))) ρ M
def rNewC (e : IE) : RE := fun K ρ M => e (fun z M => ∃ n : Nat, z = n ∧ n ≤ 100000000 ∧ capOK ρ M (21, n) ∧ K (some M.1.length) (pu M (21, n))) ρ M
def rNewR (e : IE) : RE := fun K ρ M => e (fun z M => ∃ n : Nat, z = n ∧ n ≤ 100000000 ∧ capOK ρ M (22, n) ∧ K (some M.1.length) (pu M (22, n))) ρ M
/-! ===== conditions ===== -/
def cEq (a b : IE) : CE := fun KT KF ρ M => a (fun x M => b (fun y M => if x = y then KT M else KF M) ρ M) ρ M
def cNe (a b : IE) : CE := fun KT KF ρ M => a (fun x M => b (fun y M => if x ≠ y then KT M else KF M) ρ M) ρ M
def cLt (a b : IE) : CE := fun KT KF ρ M => a (fun x M => b (fun y M => if x < y then KT M else KF M) ρ M) ρ M
def cGe (a b : IE) : CE := fun KT KF ρ M => a (fun x M => b (fun y M => if y ≤ x then KT M else KF M) ρ M) ρ M
def cGt (a b : IE) : CE := fun KT KF ρ M => a (fun x M => b (fun y M => if y < x then KT M else KF M) ρ M) ρ M
def cLe (a b : IE) : CE := fun KT KF ρ M => a (fun x M => b (fun y M => if x ≤ y then KT M else KF M) ρ M) ρ M
def cAnd (a b : CE) : CE := fun KT KF ρ M => a (fun M => b KT KF ρ M) KF ρ M
def cOr (a b : CE) : CE := fun KT KF ρ M => a KT (fun M => b KT KF ρ M) ρ M
def cNot (a : CE) : CE := fun KT KF ρ M => a KF KT ρ M
def cNull (r : RE) : CE := fun KT KF ρ M => r (fun o M => match o with
  | none => KT M
  | some _ => KF M) ρ M
/-! ===== statements ===== -/
def sSkip : ST := fun K _ ρ M => K ρ M
def sSeq (a b : ST) : ST := fun K Rt ρ M => a (fun ρ M => b K Rt ρ M) Rt ρ M
def sLoc (i : Nat) (e : IE) : ST := fun K _ ρ M => e (fun x M => K (va_up ρ i (.inl x)) M) ρ M
def sLocR (i : Nat) (e : RE) : ST := fun K _ ρ M => e (fun o M => match o with
  | some q => K (va_up ρ i (.inr (some q))) M
  | none => False) ρ M
def sInc (i : Nat) (n : Int) : ST := fun K _ ρ M => match ρ i with
  | .inl z => inR (z + n) ∧ K (va_up ρ i (.inl (z + n))) M
  | _ => False
def sPut (bo : Bool) (ci j : Nat) (r : RE) (e : IE) : ST := fun K _ ρ M => r (fun o M => e (fun x M => match o with
  | some q => (∃ w, M.1[q]? = some (ci, w)) ∧ (bo = true → x = 0 ∨ x = 1) ∧ K ρ (si M q j x)
  | none => False) ρ M) ρ M
def sPutR (ci j : Nat) (r r2 : RE) : ST := fun K _ ρ M => r (fun o M => r2 (fun o2 M => match o with
  | some q => match o2 with
    | some v => (∃ w, M.1[q]? = some (ci, w)) ∧ v < M.1.length ∧ K ρ (sr M q j (some v))
    | none => False
  | none => False) ρ M) ρ M
def sPutAdd (ci j : Nat) (r : RE) (e : IE) : ST := fun K _ ρ M => r (fun o M => match o with
  | some q => (∃ w, M.1[q]? = some (ci, w)) ∧ e (fun x M2 => (∃ w, M2.1[q]? = some (ci, w)) ∧ inR (M.2.1 q j + x) ∧ K ρ (si M2 q j (M.2.1 q j + x))) ρ M
  | none => False) ρ M
def sPutSub (ci j : Nat) (r : RE) (e : IE) : ST := fun K _ ρ M => r (fun o M => match o with
  | some q => (∃ w, M.1[q]? = some (ci, w)) ∧ e (fun x M2 => (∃ w, M2.1[q]? = some (ci, w)) ∧ inR (M.2.1 q j - x) ∧ K ρ (si M2 q j (M.2.1 q j - x))) ρ M
  | none => False) ρ M
def sAst (r : RE) (i e : IE) : ST := fun K _ ρ M => r (fun o M => i (fun x M => e (fun z M => match o with
  | some q => ∃ n : Nat, M.1[q]? = some (20, n) ∧ 0 ≤ x ∧ x < (n : Int) ∧ K ρ (si M q x.toNat z)
  | none => False) ρ M) ρ M) ρ M
def sCst (r : RE) (i e : IE) : ST := fun K _ ρ M => r (fun o M => i (fun x M => e (fun z M => match o with
  | some q => ∃ n : Nat, M.1[q]? = some (21, n) ∧ 0 ≤ x ∧ x < (n : Int) ∧ 0 ≤ z ∧ z < 65536 ∧ K ρ (si M q x.toNat z)
  | none => False) ρ M) ρ M) ρ M
def sRst (r : RE) (i : IE) (e : RE) : ST := fun K _ ρ M => r (fun o M => i (fun x M => e (fun v M => match o with
  | some q => match v with
    | some u => ∃ n w : Nat, M.1[q]? = some (22, n) ∧ M.1[u]? = some (4, w) ∧ 0 ≤ x ∧ x < (n : Int) ∧ K ρ (sr M q x.toNat (some u))
    | none => False
  | none => False) ρ M) ρ M) ρ M
def sAstAdd (r : RE) (i e : IE) : ST := fun K _ ρ M => r (fun o M => i (fun x M => match o with
  | some q => ∃ n : Nat, M.1[q]? = some (20, n) ∧ 0 ≤ x ∧ x < (n : Int) ∧ e (fun z M2 => ∃ n2 : Nat, M2.1[q]? = some (20, n2) ∧ x < (n2 : Int) ∧ inR (M.2.1 q x.toNat + z) ∧ K ρ (si M2 q x.toNat (M.2.1 q x.toNat + z))) ρ M
  | none => False) ρ M) ρ M
def sAstSub (r : RE) (i e : IE) : ST := fun K _ ρ M => r (fun o M => i (fun x M => match o with
  | some q => ∃ n : Nat, M.1[q]? = some (20, n) ∧ 0 ≤ x ∧ x < (n : Int) ∧ e (fun z M2 => ∃ n2 : Nat, M2.1[q]? = some (20, n2) ∧ x < (n2 : Int) ∧ inR (M.2.1 q x.toNat - z) ∧ K ρ (si M2 q x.toNat (M.2.1 q x.toNat - z))) ρ M
  | none => False) ρ M) ρ M
def sIf1 (c : CE) (a : ST) : ST := fun K Rt ρ M => c (fun M => a K Rt ρ M) (fun M => K ρ M) ρ M
def sIf (c : CE) (a b : ST) : ST := fun K Rt ρ M => c (fun M => a K Rt ρ M) (fun M => b K Rt ρ M) ρ M
def wit (c : CE) (b : ST) (K : En → Mm → Prop) (Rt : Int → Mm → Prop) : Nat → En → Mm → Prop
  | 0, _, _ => False
  | n + 1, ρ, M => c (fun M => b (wit c b K Rt n) Rt ρ M) (fun M => K ρ M) ρ M
def sWhile (c : CE) (b : ST) : ST := fun K Rt ρ M => ∃ n, wit c b K Rt n ρ M
def sRet (bo : Bool) (e : IE) : ST := fun _ Rt ρ M => e (fun x M => (bo = true → x = 0 ∨ x = 1) ∧ Rt x M) ρ M
def sRetV : ST := fun _ Rt _ M => Rt 0 M
def sCallV (ci : Nat) (Me : Mt) (r : RE) (a : AE) : ST := fun K _ ρ M => r (fun o M => a (fun l M => match o with
  | some q => (∃ w, M.1[q]? = some (ci, w)) ∧ Me (.inr (some q) :: l) (fun _ M2 => K ρ M2) M
  | none => False) ρ M) ρ M
def sCallS (Me : Mt) (a : AE) : ST := fun K _ ρ M => a (fun l M => Me l (fun _ M2 => K ρ M2) M) ρ M
def sPop (e : IE) : ST := fun K _ ρ M => e (fun _ M2 => K ρ M2) ρ M
def sCopy (a b : RE) (i j n : IE) : ST := fun K _ ρ M => a (fun o M => i (fun sp M => b (fun o2 M => j (fun dp M => n (fun k M => match o with
  | some q0 => match o2 with
    | some q1 => ∃ n0 n1 : Nat, M.1[q0]? = some (20, n0) ∧ M.1[q1]? = some (20, n1) ∧ 0 ≤ sp ∧ 0 ≤ dp ∧ 0 ≤ k ∧ sp + k ≤ (n0 : Int) ∧ dp + k ≤ (n1 : Int) ∧ K ρ (cpy M q0 q1 sp.toNat dp.toNat k.toNat)
    | none => False
  | none => False) ρ M) ρ M) ρ M) ρ M) ρ M
def sCopyT (xs : Nat → Int) (t : Nat) (b : RE) (i j n : IE) : ST := fun K _ ρ M => i (fun sp M => b (fun o2 M => j (fun dp M => n (fun k M => match o2 with
    | some q1 => ∃ n1 : Nat, M.1[q1]? = some (20, n1) ∧ 0 ≤ sp ∧ 0 ≤ dp ∧ 0 ≤ k ∧ sp + k ≤ 5 ∧ dp + k ≤ (n1 : Int) ∧ K ρ (cpyT (tVl xs t) M q1 sp.toNat dp.toNat k.toNat)
    | none => False) ρ M) ρ M) ρ M) ρ M
def sObj (r : RE) : ST := fun K _ ρ M => r (fun o M => match o with
  | some _ => K ρ M
  | none => False) ρ M
def sSw (e : IE) (lo : Int) (fs : List ST) (dflt : ST) : ST := fun K Rt ρ M => e (fun x M => if lo ≤ x ∧ x < lo + fs.length then (fs.getD (x - lo).toNat dflt) K Rt ρ M else dflt K Rt ρ M) ρ M
/-! ===== methods ===== -/
def ent (av : List Vv) (lc ls : Int) : En := fun i => match av[i]? with
  | some v => v
  | none => if i = 1000 then .inl lc else if i = 1001 then .inl ls else .inr none
def mkM (n : Nat) (al : List (Nat × Nat)) (S : ST) : Mt := fun av Rt M => av.length = n ∧ S (fun _ _ => False) (fun r M2 => M2.1 = M.1 ++ al ∧ Rt r M2) (ent av ((M.1.length + al.length : Nat) : Int) ((ssum M.1 + ssum al : Nat) : Int)) M
/-- of a method that makes nothing -/
def mk0 (n : Nat) (S : ST) : Mt := fun av Rt M => av.length = n ∧ S (fun _ _ => False) (fun r M2 => M2.1 = M.1 ∧ Rt r M2) (ent av 0 0) M
/-! ===== where they stand in the code ===== -/
def IAt (G : Gt) (pc pe d : Nat) (E : IE) : Prop := ∀ (K : Int → Mm → Prop) (ρ : En) (M : Mm) (sv : List Vv), sv.length ≤ d → E K ρ M → (∀ x M2, K x M2 → G pe (.inl x :: sv) ρ M2) → G pc sv ρ M
def RAt (G : Gt) (pc pe d : Nat) (E : RE) : Prop := ∀ (K : Option Nat → Mm → Prop) (ρ : En) (M : Mm) (sv : List Vv), sv.length ≤ d → E K ρ M → (∀ x M2, K x M2 → G pe (.inr x :: sv) ρ M2) → G pc sv ρ M
def CAt (G : Gt) (pc pt pf d : Nat) (C : CE) : Prop := ∀ (KT KF : Mm → Prop) (ρ : En) (M : Mm) (sv : List Vv), sv.length ≤ d → C KT KF ρ M → (∀ M2, KT M2 → G pt sv ρ M2) → (∀ M2, KF M2 → G pf sv ρ M2) → G pc sv ρ M
def AAt (G : Gt) (pc pe d n : Nat) (E : AE) : Prop := ∀ (K : List Vv → Mm → Prop) (ρ : En) (M : Mm) (sv : List Vv), sv.length ≤ d → E K ρ M → (∀ l M2, l.length = n → K l M2 → G pe (l.reverse ++ sv) ρ M2) → G pc sv ρ M
def SAt (G : Gt) (Rt : Int → Mm → Prop) (pc pe : Nat) (S : ST) : Prop := ∀ (K : En → Mm → Prop) (ρ : En) (M : Mm), S K Rt ρ M → (∀ ρ2 M2, K ρ2 M2 → G pe [] ρ2 M2) → G pc [] ρ M
section AT
variable {own : String} {cc : ByteArray} {nL : Nat} {mn : String} {R : Room} {ret : Option FieldType} {nt L : Nat} {xs : Nat → Int} {Rt : Int → Mm → Prop} {G : Gt} {pc pd d : Nat} {p1 p2 p3 p4 p5 : Nat}
theorem I_iconst (hG : Mach own cc nL mn R ret nt L xs Rt G) {n z : Int} (hd : decode cc pc = .ok (.iconst n, 1)) (hv : Int32.ofInt n = zI z) (hz : inR z) : IAt G pc (pc + 1) d (iC z) := fun K ρ M sv _ h k => G_iconst hG hd hv hz (k z M h)
theorem I_bipush (hG : Mach own cc nL mn R ret nt L xs Rt G) {n z : Int} (hd : decode cc pc = .ok (.bipush n, 2)) (hv : (Int8.ofInt n).toInt32 = zI z) (hz : inR z) : IAt G pc (pc + 2) d (iC z) := fun K ρ M sv _ h k => G_bipush hG hd hv hz (k z M h)
theorem I_sipush (hG : Mach own cc nL mn R ret nt L xs Rt G) {n z : Int} (hd : decode cc pc = .ok (.sipush n, 3)) (hv : (Int16.ofInt n).toInt32 = zI z) (hz : inR z) : IAt G pc (pc + 3) d (iC z) := fun K ρ M sv _ h k => G_sipush hG hd hv hz (k z M h)
theorem I_iload (hG : Mach own cc nL mn R ret nt L xs Rt G) {i : Nat} (hd : decode cc pc = .ok (.iload i, 2)) (hi : i < nL) : IAt G pc (pc + 2) d (iL i) := by
  intro K ρ M sv _ h k
  unfold iL at h
  split at h
  · rename_i z e
    exact G_iload hG (ins := .nop) (ln := 0) hd hi e (k z M h)
  · exact h.elim
theorem I_iload_n (hG : Mach own cc nL mn R ret nt L xs Rt G) {j : Fin 4} {i : Nat} (hd : decode cc pc = .ok (.iload_n j, 1)) (hj : (j : Nat) = i) (hi : i < nL) : IAt G pc (pc + 1) d (iL i) := by
  intro K ρ M sv _ h k
  unfold iL at h
  split at h
  · rename_i z e
    exact G_iload_n hG hd hj hi e (k z M h)
  · exact h.elim
theorem R_aload (hG : Mach own cc nL mn R ret nt L xs Rt G) {i : Nat} (hd : decode cc pc = .ok (.aload i, 2)) (hi : i < nL) : RAt G pc (pc + 2) d (rL i) := by
  intro K ρ M sv _ h k
  unfold rL at h
  split at h
  · rename_i z e
    exact G_aload hG hd hi e (k (some z) M h)
  · exact h.elim
theorem R_aload_n (hG : Mach own cc nL mn R ret nt L xs Rt G) {j : Fin 4} {i : Nat} (hd : decode cc pc = .ok (.aload_n j, 1)) (hj : (j : Nat) = i) (hi : i < nL) : RAt G pc (pc + 1) d (rL i) := by
  intro K ρ M sv _ h k
  unfold rL at h
  split at h
  · rename_i z e
    exact G_aload_n hG hd hj hi e (k (some z) M h)
  · exact h.elim
theorem I_getf (hG : Mach own cc nL mn R ret nt L xs Rt G) {idx ci j : Nat} {r : RE} (F : Fok own idx ci j false) (hr : RAt G pc p1 d r) (hd : decode cc p1 = .ok (.getfield idx, 3)) : IAt G pc (p1 + 3) d (iF ci j r) := by
  intro K ρ M sv hs h k
  refine hr _ ρ M sv hs h (fun o M2 h2 => ?_)
  cases o with
  | none => exact h2.elim
  | some q =>
    obtain ⟨⟨w, hw⟩, h3⟩ := h2
    exact G_getI hG F hw hd (k _ _ h3)
theorem R_getf (hG : Mach own cc nL mn R ret nt L xs Rt G) {idx ci j : Nat} {r : RE} (F : Fok own idx ci j true) (hr : RAt G pc p1 d r) (hd : decode cc p1 = .ok (.getfield idx, 3)) : RAt G pc (p1 + 3) d (rF ci j r) := by
  intro K ρ M sv hs h k
  refine hr _ ρ M sv hs h (fun o M2 h2 => ?_)
  cases o with
  | none => exact h2.elim
  | some q =>
    obtain ⟨⟨w, hw⟩, h3⟩ := h2
    exact G_getR hG F hw hd (k _ _ h3)
theorem I_iald (hG : Mach own cc nL mn R ret nt L xs Rt G) {r : RE} {i : IE} (hr : RAt G pc p1 d r) (hi : IAt G p1 p2 (d + 1) i) (hd : decode cc p2 = .ok (.iaload, 1)) : IAt G pc (p2 + 1) d (iA r i) := by
  intro K ρ M sv hs h k
  refine hr _ ρ M sv hs h (fun o M2 h2 => ?_)
  refine hi _ ρ M2 _ (by simp; omega) h2 (fun x M3 h3 => ?_)
  cases o with
  | none => exact h3.elim
  | some q =>
    obtain ⟨n, hw, h0, h1, h4⟩ := h3
    exact G_iald hG hw h0 h1 hd (k _ _ h4)
theorem I_cald (hG : Mach own cc nL mn R ret nt L xs Rt G) {r : RE} {i : IE} (hr : RAt G pc p1 d r) (hi : IAt G p1 p2 (d + 1) i) (hd : decode cc p2 = .ok (.caload, 1)) : IAt G pc (p2 + 1) d (iAc r i) := by
  intro K ρ M sv hs h k
  refine hr _ ρ M sv hs h (fun o M2 h2 => ?_)
  refine hi _ ρ M2 _ (by simp; omega) h2 (fun x M3 h3 => ?_)
  cases o with
  | none => exact h3.elim
  | some q =>
    obtain ⟨n, hw, h0, h1, h4⟩ := h3
    exact G_cald hG hw h0 h1 hd (k _ _ h4)
theorem R_aald (hG : Mach own cc nL mn R ret nt L xs Rt G) {r : RE} {i : IE} (hr : RAt G pc p1 d r) (hi : IAt G p1 p2 (d + 1) i) (hd : decode cc p2 = .ok (.aaload, 1)) : RAt G pc (p2 + 1) d (rA r i) := by
  intro K ρ M sv hs h k
  refine hr _ ρ M sv hs h (fun o M2 h2 => ?_)
  refine hi _ ρ M2 _ (by simp; omega) h2 (fun x M3 h3 => ?_)
  cases o with
  | none => exact h3.elim
  | some q =>
    obtain ⟨n, hw, h0, h1, h4⟩ := h3
    exact G_aald hG hw h0 h1 hd (k _ _ h4)
theorem I_alen (hG : Mach own cc nL mn R ret nt L xs Rt G) {r : RE} (hr : RAt G pc p1 d r) (hd : decode cc p1 = .ok (.arraylength, 1)) : IAt G pc (p1 + 1) d (iLen r) := by
  intro K ρ M sv hs h k
  refine hr _ ρ M sv hs h (fun o M2 h2 => ?_)
  cases o with
  | none => exact h2.elim
  | some q =>
    obtain ⟨n, hw, hn, h3⟩ := h2
    exact G_alen hG hw hn hd (k _ _ h3)
theorem I_tabS (hG : Mach own cc nL mn R ret nt L xs Rt G) {t idx : Nat} {i : IE} (ht : t < 3) (hnt : t < nt) (hlk : Cond.fieldLink own idx "SungSlides" (stN t) "[I" ∈ gtb) (hd0 : decode cc pc = .ok (.getstatic idx, 3)) (hi : IAt G (pc + 3) p2 (d + 1) i) (hd : decode cc p2 = .ok (.iaload, 1)) : IAt G pc (p2 + 1) d (iT L xs t i) := by
  intro K ρ M sv hs h k
  refine G_gets hG ht hlk hd0 ?_
  refine hi _ ρ M _ (by simp; omega) h (fun x M3 h3 => ?_)
  obtain ⟨h0, h1, h4⟩ := h3
  exact G_tld hG hnt h0 h1 hd (k _ _ h4)
theorem I_iadd (hG : Mach own cc nL mn R ret nt L xs Rt G) {a b : IE} (ha : IAt G pc p1 d a) (hb : IAt G p1 p2 (d + 1) b) (hd : decode cc p2 = .ok (.iadd, 1)) : IAt G pc (p2 + 1) d (iAdd a b) := by
  intro K ρ M sv hs h k
  refine ha _ ρ M sv hs h (fun x M2 h2 => ?_)
  refine hb _ ρ M2 _ (by simp; omega) h2 (fun y M3 h3 => ?_)
  obtain ⟨hz, h4⟩ := h3
  exact G_iadd hG hd hz (k _ _ h4)
theorem I_isub (hG : Mach own cc nL mn R ret nt L xs Rt G) {a b : IE} (ha : IAt G pc p1 d a) (hb : IAt G p1 p2 (d + 1) b) (hd : decode cc p2 = .ok (.isub, 1)) : IAt G pc (p2 + 1) d (iSub a b) := by
  intro K ρ M sv hs h k
  refine ha _ ρ M sv hs h (fun x M2 h2 => ?_)
  refine hb _ ρ M2 _ (by simp; omega) h2 (fun y M3 h3 => ?_)
  obtain ⟨hz, h4⟩ := h3
  exact G_isub hG hd hz (k _ _ h4)
theorem I_imul (hG : Mach own cc nL mn R ret nt L xs Rt G) {a b : IE} (ha : IAt G pc p1 d a) (hb : IAt G p1 p2 (d + 1) b) (hd : decode cc p2 = .ok (.imul, 1)) : IAt G pc (p2 + 1) d (iMul a b) := by
  intro K ρ M sv hs h k
  refine ha _ ρ M sv hs h (fun x M2 h2 => ?_)
  refine hb _ ρ M2 _ (by simp; omega) h2 (fun y M3 h3 => ?_)
  obtain ⟨hz, h4⟩ := h3
  exact G_imul hG hd hz (k _ _ h4)
theorem I_idiv (hG : Mach own cc nL mn R ret nt L xs Rt G) {a b : IE} (ha : IAt G pc p1 d a) (hb : IAt G p1 p2 (d + 1) b) (hd : decode cc p2 = .ok (.idiv, 1)) : IAt G pc (p2 + 1) d (iDiv a b) := by
  intro K ρ M sv hs h k
  refine ha _ ρ M sv hs h (fun x M2 h2 => ?_)
  refine hb _ ρ M2 _ (by simp; omega) h2 (fun y M3 h3 => ?_)
  obtain ⟨h0, hz, h4⟩ := h3
  exact G_idiv hG hd h0 hz (k _ _ h4)
theorem I_irem (hG : Mach own cc nL mn R ret nt L xs Rt G) {a b : IE} (ha : IAt G pc p1 d a) (hb : IAt G p1 p2 (d + 1) b) (hd : decode cc p2 = .ok (.irem, 1)) : IAt G pc (p2 + 1) d (iRem a b) := by
  intro K ρ M sv hs h k
  refine ha _ ρ M sv hs h (fun x M2 h2 => ?_)
  refine hb _ ρ M2 _ (by simp; omega) h2 (fun y M3 h3 => ?_)
  obtain ⟨h0, hz, h4⟩ := h3
  exact G_irem hG hd h0 hz (k _ _ h4)
theorem I_sc (hG : Mach own cc nL mn R ret nt L xs Rt G) {i : IE} (h4 : 3 < nt) (hd0 : decode cc pc = .ok (.aload_n 0, 1)) (h0 : 0 < nL) (hi : IAt G (pc + 1) p2 (d + 1) i) (hd : decode cc p2 = .ok (.iaload, 1)) : IAt G pc (p2 + 1) d (iSc L xs i) := by
  intro K ρ M sv hs h k
  refine G_aload_n hG hd0 rfl h0 h.1 ?_
  refine hi _ ρ M _ (by simp; omega) h.2 (fun x M3 h3 => ?_)
  obtain ⟨h0, h1, h4'⟩ := h3
  exact G_tld (t := 3) hG h4 h0 h1 hd (k _ _ h4')
theorem I_scl (hG : Mach own cc nL mn R ret nt L xs Rt G) (h4 : 3 < nt) (hd0 : decode cc pc = .ok (.aload_n 0, 1)) (h0 : 0 < nL) (hd : decode cc (pc + 1) = .ok (.arraylength, 1)) : IAt G pc (pc + 1 + 1) d (iScL L) := by
  intro K ρ M sv hs h k
  refine G_aload_n hG hd0 rfl h0 h.1 ?_
  exact G_tlen (t := 3) hG h4 h.2.1 hd (k _ _ h.2.2)
theorem I_ineg (hG : Mach own cc nL mn R ret nt L xs Rt G) {a : IE} (ha : IAt G pc p1 d a) (hd : decode cc p1 = .ok (.ineg, 1)) : IAt G pc (p1 + 1) d (iNeg a) := fun K ρ M sv hs h k => ha _ ρ M sv hs h (fun x M2 h2 => G_ineg hG hd h2.1 (k _ _ h2.2))
theorem I_i2c (hG : Mach own cc nL mn R ret nt L xs Rt G) {a : IE} (ha : IAt G pc p1 d a) (hd : decode cc p1 = .ok (.i2c, 1)) : IAt G pc (p1 + 1) d (iCh a) := fun K ρ M sv hs h k => ha _ ρ M sv hs h (fun x M2 h2 => G_i2c hG hd (k _ _ h2))
theorem I_and31 (hG : Mach own cc nL mn R ret nt L xs Rt G) {a : IE} {n : Int} (ha : IAt G pc p1 d a) (hd0 : decode cc p1 = .ok (.bipush n, 2)) (hv : (Int8.ofInt n).toInt32 = zI 31) (hd : decode cc (p1 + 2) = .ok (.iand, 1)) : IAt G pc (p1 + 2 + 1) d (iAnd31 a) := fun K ρ M sv hs h k => ha _ ρ M sv hs h (fun x M2 h2 => G_bipush hG hd0 hv ⟨by decide, by decide⟩ (G_iand hG hd (k _ _ h2)))
theorem I_tern (hG : Mach own cc nL mn R ret nt L xs Rt G) {c : CE} {a b : IE} {off : Int} (hc : CAt G pc p1 p3 d c) (ha : IAt G p1 p2 d a) (hd : decode cc p2 = .ok (.goto off, 3)) (ht : (p2 : Int) + off = (p4 : Int)) (hb : IAt G p3 p4 d b) : IAt G pc p4 d (iQ c a b) := by
  intro K ρ M sv hs h k
  refine hc _ _ ρ M sv hs h (fun M2 h2 => ?_) (fun M2 h2 => ?_)
  · exact ha _ ρ M2 sv hs h2 (fun x M3 h3 => G_goto hG hd ht (k _ _ h3))
  · exact hb _ ρ M2 sv hs h2 k
theorem I_goto (hG : Mach own cc nL mn R ret nt L xs Rt G) {a : IE} {off : Int} (ha : IAt G pc p1 d a) (hd : decode cc p1 = .ok (.goto off, 3)) (ht : (p1 : Int) + off = (p2 : Int)) : IAt G pc p2 d a := fun K ρ M sv hs h k => ha _ ρ M sv hs h (fun x M2 h2 => G_goto hG hd ht (k _ _ h2))
theorem I_ternX (hG : Mach own cc nL mn R ret nt L xs Rt G) {c : CE} {a b : IE} (hc : CAt G pc p1 p3 d c) (ha : IAt G p1 p4 d a) (hb : IAt G p3 p4 d b) : IAt G pc p4 d (iQ c a b) := fun K ρ M sv hs h k => hc _ _ ρ M sv hs h (fun M2 h2 => ha _ ρ M2 sv hs h2 k) (fun M2 h2 => hb _ ρ M2 sv hs h2 k)
theorem I_mmax (hG : Mach own cc nL mn R ret nt L xs Rt G) {a b : IE} {idx : Nat} (ha : IAt G pc p1 d a) (hb : IAt G p1 p2 (d + 1) b) (hk : ∀ w ∈ ([.methodLink own idx Lib.Math.max.name, .static Lib.Math.max.name, .initialized "java/lang/Math", .code Lib.Math.max.name Lib.Math.max.code 2 (some .int)] : List Cond), w ∈ gtb) (hR : 1 ≤ R.frames ∧ d + 13 ≤ R.locals) (hd : decode cc p2 = .ok (.invokestatic idx, 3)) : IAt G pc (p2 + 3) d (iMax a b) := by
  intro K ρ M sv hs h k
  refine ha _ ρ M sv hs h (fun x M2 h2 => ?_)
  refine hb _ ρ M2 _ (by simp; omega) h2 (fun y M3 h3 => ?_)
  exact G_mmax hG hk ⟨hR.1, by omega⟩ hd (k _ _ h3)
theorem I_mmin (hG : Mach own cc nL mn R ret nt L xs Rt G) {a b : IE} {idx : Nat} (ha : IAt G pc p1 d a) (hb : IAt G p1 p2 (d + 1) b) (hk : ∀ w ∈ ([.methodLink own idx Lib.Math.min.name, .static Lib.Math.min.name, .initialized "java/lang/Math", .code Lib.Math.min.name Lib.Math.min.code 2 (some .int)] : List Cond), w ∈ gtb) (hR : 1 ≤ R.frames ∧ d + 13 ≤ R.locals) (hd : decode cc p2 = .ok (.invokestatic idx, 3)) : IAt G pc (p2 + 3) d (iMin a b) := by
  intro K ρ M sv hs h k
  refine ha _ ρ M sv hs h (fun x M2 h2 => ?_)
  refine hb _ ρ M2 _ (by simp; omega) h2 (fun y M3 h3 => ?_)
  exact G_mmin hG hk ⟨hR.1, by omega⟩ hd (k _ _ h3)
theorem I_mabs (hG : Mach own cc nL mn R ret nt L xs Rt G) {a : IE} {idx : Nat} (ha : IAt G pc p1 d a) (hk : ∀ w ∈ ([.methodLink own idx Lib.Math.abs.name, .static Lib.Math.abs.name, .initialized "java/lang/Math", .code Lib.Math.abs.name Lib.Math.abs.code 1 (some .int)] : List Cond), w ∈ gtb) (hR : 1 ≤ R.frames ∧ d + 13 ≤ R.locals) (hd : decode cc p1 = .ok (.invokestatic idx, 3)) : IAt G pc (p1 + 3) d (iAbs a) := by
  intro K ρ M sv hs h k
  refine ha _ ρ M sv hs h (fun x M2 h2 => ?_)
  exact G_mabs hG hk ⟨hR.1, by omega⟩ h2.1 hd (k _ _ h2.2)
theorem A_nil (hG : Mach own cc nL mn R ret nt L xs Rt G)  : AAt G pc pc d 0 aN := fun K ρ M sv _ h k => k [] M rfl h
theorem A_int (hG : Mach own cc nL mn R ret nt L xs Rt G) {n : Nat} {e : IE} {a : AE} (he : IAt G pc p1 d e) (ha : AAt G p1 p2 (d + 1) n a) : AAt G pc p2 d (n + 1) (aI e a) := by
  intro K ρ M sv hs h k
  refine he _ ρ M sv hs h (fun x M2 h2 => ?_)
  refine ha _ ρ M2 _ (by simp; omega) h2 (fun l M3 hl h3 => ?_)
  have := k (.inl x :: l) M3 (by simp [hl]) h3
  simpa using this
theorem A_ref (hG : Mach own cc nL mn R ret nt L xs Rt G) {n : Nat} {e : RE} {a : AE} (he : RAt G pc p1 d e) (ha : AAt G p1 p2 (d + 1) n a) : AAt G pc p2 d (n + 1) (aR e a) := by
  intro K ρ M sv hs h k
  refine he _ ρ M sv hs h (fun x M2 h2 => ?_)
  refine ha _ ρ M2 _ (by simp; omega) h2 (fun l M3 hl h3 => ?_)
  have := k (.inr x :: l) M3 (by simp [hl]) h3
  simpa using this
theorem I_callV (hG : Mach own cc nL mn R ret nt L xs Rt G) {idx n maxL : Nat} {y : MethodName} {cy : ByteArray} {rm : Room} {Me : Mt} {rt : FieldType} {ci N : Nat} {TT : u_T} {r : RE} {a : AE} (hM : MOkI y cy maxL rt rm Me) (hk : CkV own idx y cy maxL (some rt) n) (h0 : rm.cells = 0 ∧ rm.slots = 0) (hci : ci < 8) (hcl : vwCl[ci]? = some (y.cls, TT, N)) (hR : Rok rm R maxL) (hd8 : d ≤ 8) (hr : RAt G pc p1 d r) (ha : AAt G p1 p2 (d + 1) n a) (hd : decode cc p2 = .ok (.invokevirtual idx, 3)) : IAt G pc (p2 + 3) d (iCallV ci Me r a) := by
  intro K ρ M sv hs h k
  refine hr _ ρ M sv hs h (fun o M2 h2 => ?_)
  refine ha _ ρ M2 _ (by simp; omega) h2 (fun l M3 hl h3 => ?_)
  cases o with
  | none => exact h3.elim
  | some q =>
    obtain ⟨⟨w, hw⟩, h4⟩ := h3
    rw [show l.reverse ++ (Sum.inr (some q) :: sv) = (Sum.inr (some q) :: l).reverse ++ sv by simp]
    exact G_callVI hG hM hR (by simp [hl]) (by omega) hd hk h0 hci hcl rfl hw h4 k
theorem I_callS (hG : Mach own cc nL mn R ret nt L xs Rt G) {idx n maxL : Nat} {y : MethodName} {cy : ByteArray} {rm : Room} {Me : Mt} {rt : FieldType} {a : AE} (hM : MOkI y cy maxL rt rm Me) (hk : CkS own idx y cy maxL (some rt) n) (h0 : rm.cells = 0 ∧ rm.slots = 0) (hR : Rok rm R maxL) (hd8 : d ≤ 8) (ha : AAt G pc p2 d n a) (hd : decode cc p2 = .ok (.invokestatic idx, 3)) : IAt G pc (p2 + 3) d (iCallS Me a) := fun K ρ M sv hs h k => ha _ ρ M sv hs h (fun l M3 hl h3 => G_callSI hG hM hR hl (by omega) hd hk h0 h3 k)
theorem I_callN (hG : Mach own cc nL mn R ret nt L xs Rt G) {idx n maxL : Nat} {y : MethodName} {cy : ByteArray} {rm : Room} {Me : Mt} {rt : FieldType} {host : String} {a : AE} (hM : MOkI y cy maxL rt rm Me) (hk : CkN own idx host y cy maxL (some rt) n) (h0 : rm.cells = 0 ∧ rm.slots = 0) (hR : Rok rm R maxL) (hd8 : d ≤ 8) (ha : AAt G pc p2 d n a) (hd : decode cc p2 = .ok (.invokestatic idx, 3)) : IAt G pc (p2 + 3) d (iCallS Me a) := fun K ρ M sv hs h k => ha _ ρ M sv hs h (fun l M3 hl h3 => G_callNI hG hM hR hl (by omega) hd hk h0 h3 k)
theorem S_callV (hG : Mach own cc nL mn R ret nt L xs Rt G) {idx n maxL : Nat} {y : MethodName} {cy : ByteArray} {rm : Room} {Me : Mt} {ci N : Nat} {TT : u_T} {r : RE} {a : AE} (hM : MOkV y cy maxL rm Me) (hk : CkV own idx y cy maxL none n) (h0 : rm.cells = 0 ∧ rm.slots = 0) (hci : ci < 8) (hcl : vwCl[ci]? = some (y.cls, TT, N)) (hR : Rok rm R maxL) (hr : RAt G pc p1 0 r) (ha : AAt G p1 p2 1 n a) (hd : decode cc p2 = .ok (.invokevirtual idx, 3)) : SAt G Rt pc (p2 + 3) (sCallV ci Me r a) := by
  intro K ρ M h k
  refine hr _ ρ M [] (Nat.zero_le _) h (fun o M2 h2 => ?_)
  refine ha _ ρ M2 _ (by simp) h2 (fun l M3 hl h3 => ?_)
  cases o with
  | none => exact h3.elim
  | some q =>
    obtain ⟨⟨w, hw⟩, h4⟩ := h3
    rw [show l.reverse ++ (Sum.inr (some q) :: []) = (Sum.inr (some q) :: l).reverse ++ [] by simp]
    exact G_callVV hG hM hR (by simp [hl]) (by simp) hd hk h0 hci hcl rfl hw h4 (fun _ M4 h5 => k _ _ h5)
theorem S_callS (hG : Mach own cc nL mn R ret nt L xs Rt G) {idx n maxL : Nat} {y : MethodName} {cy : ByteArray} {rm : Room} {Me : Mt} {a : AE} (hM : MOkV y cy maxL rm Me) (hk : CkS own idx y cy maxL none n) (h0 : rm.cells = 0 ∧ rm.slots = 0) (hR : Rok rm R maxL) (ha : AAt G pc p2 0 n a) (hd : decode cc p2 = .ok (.invokestatic idx, 3)) : SAt G Rt pc (p2 + 3) (sCallS Me a) := by
  intro K ρ M h k
  refine ha _ ρ M [] (Nat.zero_le _) h (fun l M3 hl h3 => ?_)
  exact G_callSV hG hM hR hl (by simp) hd hk h0 h3 (fun _ M4 h5 => k _ _ h5)
theorem R_new (hG : Mach own cc nL mn R ret nt L xs Rt G) {idx n maxL : Nat} {y : MethodName} {cy : ByteArray} {rm : Room} {Me : Mt} {idx0 ci : Nat} {a : AE} (F : Nok own idx0 ci) (hci : ci < 8) (hM : MOkV y cy maxL rm Me) (hk : CkI own idx y cy maxL n) (hR : Rok rm R maxL) (hd8 : d ≤ 7) (hd0 : decode cc pc = .ok (.new idx0, 3)) (hd1 : decode cc (pc + 3) = .ok (.dup, 1)) (ha : AAt G (pc + 3 + 1) p2 (d + 2) n a) (hd : decode cc p2 = .ok (.invokespecial idx, 3)) : RAt G pc (p2 + 3) d (rNew ci rm.cells rm.slots Me a) := by
  intro K ρ M sv hs h k
  obtain ⟨⟨hc1, hc2, hc3⟩, h⟩ := h
  refine G_new hG F ⟨hc1, by rw [ssz, if_pos (show ci < 8 from hci)] at hc2; exact hc2⟩ hc3 hd0 ?_
  refine G_dup hG hd1 ?_
  refine ha _ ρ _ _ (by simp; omega) h (fun l M3 hl h3 => ?_)
  obtain ⟨hcap, h4⟩ := h3
  rw [show l.reverse ++ (Sum.inr (some M.1.length) :: Sum.inr (some M.1.length) :: sv) = (Sum.inr (some M.1.length) :: l).reverse ++ (Sum.inr (some M.1.length) :: sv) by simp]
  exact G_callI hG hM hR (by simp [hl]) (by simp; omega) hd hk hcap rfl h4 (fun _ M4 h5 => k _ _ h5)
theorem R_newN (hG : Mach own cc nL mn R ret nt L xs Rt G) {idx n maxL : Nat} {y : MethodName} {cy : ByteArray} {rm : Room} {Me : Mt} {host : String} {idx0 ci : Nat} {a : AE} (F : Nok own idx0 ci) (hci : ci < 8) (hM : MOkV y cy maxL rm Me) (hk : CkIN own idx host y cy maxL n) (hR : Rok rm R maxL) (hd8 : d ≤ 7) (hd0 : decode cc pc = .ok (.new idx0, 3)) (hd1 : decode cc (pc + 3) = .ok (.dup, 1)) (ha : AAt G (pc + 3 + 1) p2 (d + 2) n a) (hd : decode cc p2 = .ok (.invokespecial idx, 3)) : RAt G pc (p2 + 3) d (rNew ci rm.cells rm.slots Me a) := by
  intro K ρ M sv hs h k
  obtain ⟨⟨hc1, hc2, hc3⟩, h⟩ := h
  refine G_new hG F ⟨hc1, by rw [ssz, if_pos (show ci < 8 from hci)] at hc2; exact hc2⟩ hc3 hd0 ?_
  refine G_dup hG hd1 ?_
  refine ha _ ρ _ _ (by simp; omega) h (fun l M3 hl h3 => ?_)
  obtain ⟨hcap, h4⟩ := h3
  rw [show l.reverse ++ (Sum.inr (some M.1.length) :: Sum.inr (some M.1.length) :: sv) = (Sum.inr (some M.1.length) :: l).reverse ++ (Sum.inr (some M.1.length) :: sv) by simp]
  exact G_callIN hG hM hR (by simp [hl]) (by simp; omega) hd hk hcap rfl h4 (fun _ M4 h5 => k _ _ h5)
theorem R_newI (hG : Mach own cc nL mn R ret nt L xs Rt G) {e : IE} (hac : Cond.arrayClass .int ∈ gtb) (he : IAt G pc p1 d e) (hd : decode cc p1 = .ok (.newarray .int, 2)) : RAt G pc (p1 + 2) d (rNewI e) := by
  intro K ρ M sv hs h k
  refine he _ ρ M sv hs h (fun z M2 h2 => ?_)
  obtain ⟨n, hz, hn, ⟨hc1, hc2, hc3⟩, h3⟩ := h2
  exact G_newI hG hz hn hac ⟨hc1, hc2⟩ hc3 hd (k _ _ h3)
theorem R_newC (hG : Mach own cc nL mn R ret nt L xs Rt G) {e : IE} (hac : Cond.arrayClass .char ∈ gtb) (he : IAt G pc p1 d e) (hd : decode cc p1 = .ok (.newarray .char, 2)) : RAt G pc (p1 + 2) d (rNewC e) := by
  intro K ρ M sv hs h k
  refine he _ ρ M sv hs h (fun z M2 h2 => ?_)
  obtain ⟨n, hz, hn, ⟨hc1, hc2, hc3⟩, h3⟩ := h2
  exact G_newC hG hz hn hac ⟨hc1, hc2⟩ hc3 hd (k _ _ h3)
theorem R_newR (hG : Mach own cc nL mn R ret nt L xs Rt G) {e : IE} {idx : Nat} (hac : Cond.classLink own idx "SungSlides$State" ∈ gtb) (he : IAt G pc p1 d e) (hd : decode cc p1 = .ok (.anewarray idx, 3)) : RAt G pc (p1 + 3) d (rNewR e) := by
  intro K ρ M sv hs h k
  refine he _ ρ M sv hs h (fun z M2 h2 => ?_)
  obtain ⟨n, hz, hn, ⟨hc1, hc2, hc3⟩, h3⟩ := h2
  exact G_newR hG hz hn hac ⟨hc1, hc2⟩ hc3 hd (k _ _ h3)
theorem C_eq_T (hG : Mach own cc nL mn R ret nt L xs Rt G) {a b : IE} {off : Int} {tgt : Nat} (ha : IAt G pc p1 d a) (hb : IAt G p1 p2 (d + 1) b) (hd : decode cc p2 = .ok (.if_icmp .eq off, 3)) (ht : (p2 : Int) + off = (tgt : Int)) : CAt G pc tgt (p2 + 3) d (cEq a b) := by
  intro KT KF ρ M sv hs h kT kF
  refine ha _ ρ M sv hs h (fun x M2 h2 => ?_)
  refine hb _ ρ M2 _ (by simp; omega) h2 (fun y M3 h3 => ?_)
  exact G_icmp_eq hG hd ht (fun hc => kT _ (by rw [if_pos hc] at h3; exact h3)) (fun hc => kF _ (by rw [if_neg hc] at h3; exact h3))
theorem C_eq_T0 (hG : Mach own cc nL mn R ret nt L xs Rt G) {a : IE} {off : Int} {tgt : Nat} (ha : IAt G pc p1 d a) (hd : decode cc p1 = .ok (.ifCond .eq off, 3)) (ht : (p1 : Int) + off = (tgt : Int)) : CAt G pc tgt (p1 + 3) d (cEq a (iC 0)) := by
  intro KT KF ρ M sv hs h kT kF
  refine ha _ ρ M sv hs h (fun x M2 h3 => ?_)
  simp only [iC] at h3
  exact G_if_eq hG hd ht (fun hc => kT _ (by rw [if_pos hc] at h3; exact h3)) (fun hc => kF _ (by rw [if_neg hc] at h3; exact h3))
theorem C_eq_F (hG : Mach own cc nL mn R ret nt L xs Rt G) {a b : IE} {off : Int} {tgt : Nat} (ha : IAt G pc p1 d a) (hb : IAt G p1 p2 (d + 1) b) (hd : decode cc p2 = .ok (.if_icmp .ne off, 3)) (ht : (p2 : Int) + off = (tgt : Int)) : CAt G pc (p2 + 3) tgt d (cEq a b) := by
  intro KT KF ρ M sv hs h kT kF
  refine ha _ ρ M sv hs h (fun x M2 h2 => ?_)
  refine hb _ ρ M2 _ (by simp; omega) h2 (fun y M3 h3 => ?_)
  exact G_icmp_ne hG hd ht (fun hc => kF _ (by rw [if_neg hc] at h3; exact h3)) (fun hc => kT _ (by rw [if_pos (Decidable.not_not.mp hc)] at h3; exact h3))
theorem C_eq_F0 (hG : Mach own cc nL mn R ret nt L xs Rt G) {a : IE} {off : Int} {tgt : Nat} (ha : IAt G pc p1 d a) (hd : decode cc p1 = .ok (.ifCond .ne off, 3)) (ht : (p1 : Int) + off = (tgt : Int)) : CAt G pc (p1 + 3) tgt d (cEq a (iC 0)) := by
  intro KT KF ρ M sv hs h kT kF
  refine ha _ ρ M sv hs h (fun x M2 h3 => ?_)
  simp only [iC] at h3
  exact G_if_ne hG hd ht (fun hc => kF _ (by rw [if_neg hc] at h3; exact h3)) (fun hc => kT _ (by rw [if_pos (Decidable.not_not.mp hc)] at h3; exact h3))
theorem C_ne_T (hG : Mach own cc nL mn R ret nt L xs Rt G) {a b : IE} {off : Int} {tgt : Nat} (ha : IAt G pc p1 d a) (hb : IAt G p1 p2 (d + 1) b) (hd : decode cc p2 = .ok (.if_icmp .ne off, 3)) (ht : (p2 : Int) + off = (tgt : Int)) : CAt G pc tgt (p2 + 3) d (cNe a b) := by
  intro KT KF ρ M sv hs h kT kF
  refine ha _ ρ M sv hs h (fun x M2 h2 => ?_)
  refine hb _ ρ M2 _ (by simp; omega) h2 (fun y M3 h3 => ?_)
  exact G_icmp_ne hG hd ht (fun hc => kT _ (by rw [if_pos hc] at h3; exact h3)) (fun hc => kF _ (by rw [if_neg hc] at h3; exact h3))
theorem C_ne_T0 (hG : Mach own cc nL mn R ret nt L xs Rt G) {a : IE} {off : Int} {tgt : Nat} (ha : IAt G pc p1 d a) (hd : decode cc p1 = .ok (.ifCond .ne off, 3)) (ht : (p1 : Int) + off = (tgt : Int)) : CAt G pc tgt (p1 + 3) d (cNe a (iC 0)) := by
  intro KT KF ρ M sv hs h kT kF
  refine ha _ ρ M sv hs h (fun x M2 h3 => ?_)
  simp only [iC] at h3
  exact G_if_ne hG hd ht (fun hc => kT _ (by rw [if_pos hc] at h3; exact h3)) (fun hc => kF _ (by rw [if_neg hc] at h3; exact h3))
theorem C_ne_F (hG : Mach own cc nL mn R ret nt L xs Rt G) {a b : IE} {off : Int} {tgt : Nat} (ha : IAt G pc p1 d a) (hb : IAt G p1 p2 (d + 1) b) (hd : decode cc p2 = .ok (.if_icmp .eq off, 3)) (ht : (p2 : Int) + off = (tgt : Int)) : CAt G pc (p2 + 3) tgt d (cNe a b) := by
  intro KT KF ρ M sv hs h kT kF
  refine ha _ ρ M sv hs h (fun x M2 h2 => ?_)
  refine hb _ ρ M2 _ (by simp; omega) h2 (fun y M3 h3 => ?_)
  exact G_icmp_eq hG hd ht (fun hc => kF _ (by rw [if_neg (fun q => q hc)] at h3; exact h3)) (fun hc => kT _ (by rw [if_pos hc] at h3; exact h3))
theorem C_ne_F0 (hG : Mach own cc nL mn R ret nt L xs Rt G) {a : IE} {off : Int} {tgt : Nat} (ha : IAt G pc p1 d a) (hd : decode cc p1 = .ok (.ifCond .eq off, 3)) (ht : (p1 : Int) + off = (tgt : Int)) : CAt G pc (p1 + 3) tgt d (cNe a (iC 0)) := by
  intro KT KF ρ M sv hs h kT kF
  refine ha _ ρ M sv hs h (fun x M2 h3 => ?_)
  simp only [iC] at h3
  exact G_if_eq hG hd ht (fun hc => kF _ (by rw [if_neg (fun q => q hc)] at h3; exact h3)) (fun hc => kT _ (by rw [if_pos hc] at h3; exact h3))
theorem C_lt_T (hG : Mach own cc nL mn R ret nt L xs Rt G) {a b : IE} {off : Int} {tgt : Nat} (ha : IAt G pc p1 d a) (hb : IAt G p1 p2 (d + 1) b) (hd : decode cc p2 = .ok (.if_icmp .lt off, 3)) (ht : (p2 : Int) + off = (tgt : Int)) : CAt G pc tgt (p2 + 3) d (cLt a b) := by
  intro KT KF ρ M sv hs h kT kF
  refine ha _ ρ M sv hs h (fun x M2 h2 => ?_)
  refine hb _ ρ M2 _ (by simp; omega) h2 (fun y M3 h3 => ?_)
  exact G_icmp_lt hG hd ht (fun hc => kT _ (by rw [if_pos hc] at h3; exact h3)) (fun hc => kF _ (by rw [if_neg hc] at h3; exact h3))
theorem C_lt_T0 (hG : Mach own cc nL mn R ret nt L xs Rt G) {a : IE} {off : Int} {tgt : Nat} (ha : IAt G pc p1 d a) (hd : decode cc p1 = .ok (.ifCond .lt off, 3)) (ht : (p1 : Int) + off = (tgt : Int)) : CAt G pc tgt (p1 + 3) d (cLt a (iC 0)) := by
  intro KT KF ρ M sv hs h kT kF
  refine ha _ ρ M sv hs h (fun x M2 h3 => ?_)
  simp only [iC] at h3
  exact G_if_lt hG hd ht (fun hc => kT _ (by rw [if_pos hc] at h3; exact h3)) (fun hc => kF _ (by rw [if_neg hc] at h3; exact h3))
theorem C_lt_F (hG : Mach own cc nL mn R ret nt L xs Rt G) {a b : IE} {off : Int} {tgt : Nat} (ha : IAt G pc p1 d a) (hb : IAt G p1 p2 (d + 1) b) (hd : decode cc p2 = .ok (.if_icmp .ge off, 3)) (ht : (p2 : Int) + off = (tgt : Int)) : CAt G pc (p2 + 3) tgt d (cLt a b) := by
  intro KT KF ρ M sv hs h kT kF
  refine ha _ ρ M sv hs h (fun x M2 h2 => ?_)
  refine hb _ ρ M2 _ (by simp; omega) h2 (fun y M3 h3 => ?_)
  exact G_icmp_ge hG hd ht (fun hc => kF _ (by rw [if_neg (by omega)] at h3; exact h3)) (fun hc => kT _ (by rw [if_pos (by omega)] at h3; exact h3))
theorem C_lt_F0 (hG : Mach own cc nL mn R ret nt L xs Rt G) {a : IE} {off : Int} {tgt : Nat} (ha : IAt G pc p1 d a) (hd : decode cc p1 = .ok (.ifCond .ge off, 3)) (ht : (p1 : Int) + off = (tgt : Int)) : CAt G pc (p1 + 3) tgt d (cLt a (iC 0)) := by
  intro KT KF ρ M sv hs h kT kF
  refine ha _ ρ M sv hs h (fun x M2 h3 => ?_)
  simp only [iC] at h3
  exact G_if_ge hG hd ht (fun hc => kF _ (by rw [if_neg (by omega)] at h3; exact h3)) (fun hc => kT _ (by rw [if_pos (by omega)] at h3; exact h3))
theorem C_ge_T (hG : Mach own cc nL mn R ret nt L xs Rt G) {a b : IE} {off : Int} {tgt : Nat} (ha : IAt G pc p1 d a) (hb : IAt G p1 p2 (d + 1) b) (hd : decode cc p2 = .ok (.if_icmp .ge off, 3)) (ht : (p2 : Int) + off = (tgt : Int)) : CAt G pc tgt (p2 + 3) d (cGe a b) := by
  intro KT KF ρ M sv hs h kT kF
  refine ha _ ρ M sv hs h (fun x M2 h2 => ?_)
  refine hb _ ρ M2 _ (by simp; omega) h2 (fun y M3 h3 => ?_)
  exact G_icmp_ge hG hd ht (fun hc => kT _ (by rw [if_pos hc] at h3; exact h3)) (fun hc => kF _ (by rw [if_neg hc] at h3; exact h3))
theorem C_ge_T0 (hG : Mach own cc nL mn R ret nt L xs Rt G) {a : IE} {off : Int} {tgt : Nat} (ha : IAt G pc p1 d a) (hd : decode cc p1 = .ok (.ifCond .ge off, 3)) (ht : (p1 : Int) + off = (tgt : Int)) : CAt G pc tgt (p1 + 3) d (cGe a (iC 0)) := by
  intro KT KF ρ M sv hs h kT kF
  refine ha _ ρ M sv hs h (fun x M2 h3 => ?_)
  simp only [iC] at h3
  exact G_if_ge hG hd ht (fun hc => kT _ (by rw [if_pos hc] at h3; exact h3)) (fun hc => kF _ (by rw [if_neg hc] at h3; exact h3))
theorem C_ge_F (hG : Mach own cc nL mn R ret nt L xs Rt G) {a b : IE} {off : Int} {tgt : Nat} (ha : IAt G pc p1 d a) (hb : IAt G p1 p2 (d + 1) b) (hd : decode cc p2 = .ok (.if_icmp .lt off, 3)) (ht : (p2 : Int) + off = (tgt : Int)) : CAt G pc (p2 + 3) tgt d (cGe a b) := by
  intro KT KF ρ M sv hs h kT kF
  refine ha _ ρ M sv hs h (fun x M2 h2 => ?_)
  refine hb _ ρ M2 _ (by simp; omega) h2 (fun y M3 h3 => ?_)
  exact G_icmp_lt hG hd ht (fun hc => kF _ (by rw [if_neg (by omega)] at h3; exact h3)) (fun hc => kT _ (by rw [if_pos (by omega)] at h3; exact h3))
theorem C_ge_F0 (hG : Mach own cc nL mn R ret nt L xs Rt G) {a : IE} {off : Int} {tgt : Nat} (ha : IAt G pc p1 d a) (hd : decode cc p1 = .ok (.ifCond .lt off, 3)) (ht : (p1 : Int) + off = (tgt : Int)) : CAt G pc (p1 + 3) tgt d (cGe a (iC 0)) := by
  intro KT KF ρ M sv hs h kT kF
  refine ha _ ρ M sv hs h (fun x M2 h3 => ?_)
  simp only [iC] at h3
  exact G_if_lt hG hd ht (fun hc => kF _ (by rw [if_neg (by omega)] at h3; exact h3)) (fun hc => kT _ (by rw [if_pos (by omega)] at h3; exact h3))
theorem C_gt_T (hG : Mach own cc nL mn R ret nt L xs Rt G) {a b : IE} {off : Int} {tgt : Nat} (ha : IAt G pc p1 d a) (hb : IAt G p1 p2 (d + 1) b) (hd : decode cc p2 = .ok (.if_icmp .gt off, 3)) (ht : (p2 : Int) + off = (tgt : Int)) : CAt G pc tgt (p2 + 3) d (cGt a b) := by
  intro KT KF ρ M sv hs h kT kF
  refine ha _ ρ M sv hs h (fun x M2 h2 => ?_)
  refine hb _ ρ M2 _ (by simp; omega) h2 (fun y M3 h3 => ?_)
  exact G_icmp_gt hG hd ht (fun hc => kT _ (by rw [if_pos hc] at h3; exact h3)) (fun hc => kF _ (by rw [if_neg hc] at h3; exact h3))
theorem C_gt_T0 (hG : Mach own cc nL mn R ret nt L xs Rt G) {a : IE} {off : Int} {tgt : Nat} (ha : IAt G pc p1 d a) (hd : decode cc p1 = .ok (.ifCond .gt off, 3)) (ht : (p1 : Int) + off = (tgt : Int)) : CAt G pc tgt (p1 + 3) d (cGt a (iC 0)) := by
  intro KT KF ρ M sv hs h kT kF
  refine ha _ ρ M sv hs h (fun x M2 h3 => ?_)
  simp only [iC] at h3
  exact G_if_gt hG hd ht (fun hc => kT _ (by rw [if_pos hc] at h3; exact h3)) (fun hc => kF _ (by rw [if_neg hc] at h3; exact h3))
theorem C_gt_F (hG : Mach own cc nL mn R ret nt L xs Rt G) {a b : IE} {off : Int} {tgt : Nat} (ha : IAt G pc p1 d a) (hb : IAt G p1 p2 (d + 1) b) (hd : decode cc p2 = .ok (.if_icmp .le off, 3)) (ht : (p2 : Int) + off = (tgt : Int)) : CAt G pc (p2 + 3) tgt d (cGt a b) := by
  intro KT KF ρ M sv hs h kT kF
  refine ha _ ρ M sv hs h (fun x M2 h2 => ?_)
  refine hb _ ρ M2 _ (by simp; omega) h2 (fun y M3 h3 => ?_)
  exact G_icmp_le hG hd ht (fun hc => kF _ (by rw [if_neg (by omega)] at h3; exact h3)) (fun hc => kT _ (by rw [if_pos (by omega)] at h3; exact h3))
theorem C_gt_F0 (hG : Mach own cc nL mn R ret nt L xs Rt G) {a : IE} {off : Int} {tgt : Nat} (ha : IAt G pc p1 d a) (hd : decode cc p1 = .ok (.ifCond .le off, 3)) (ht : (p1 : Int) + off = (tgt : Int)) : CAt G pc (p1 + 3) tgt d (cGt a (iC 0)) := by
  intro KT KF ρ M sv hs h kT kF
  refine ha _ ρ M sv hs h (fun x M2 h3 => ?_)
  simp only [iC] at h3
  exact G_if_le hG hd ht (fun hc => kF _ (by rw [if_neg (by omega)] at h3; exact h3)) (fun hc => kT _ (by rw [if_pos (by omega)] at h3; exact h3))
theorem C_le_T (hG : Mach own cc nL mn R ret nt L xs Rt G) {a b : IE} {off : Int} {tgt : Nat} (ha : IAt G pc p1 d a) (hb : IAt G p1 p2 (d + 1) b) (hd : decode cc p2 = .ok (.if_icmp .le off, 3)) (ht : (p2 : Int) + off = (tgt : Int)) : CAt G pc tgt (p2 + 3) d (cLe a b) := by
  intro KT KF ρ M sv hs h kT kF
  refine ha _ ρ M sv hs h (fun x M2 h2 => ?_)
  refine hb _ ρ M2 _ (by simp; omega) h2 (fun y M3 h3 => ?_)
  exact G_icmp_le hG hd ht (fun hc => kT _ (by rw [if_pos hc] at h3; exact h3)) (fun hc => kF _ (by rw [if_neg hc] at h3; exact h3))
theorem C_le_T0 (hG : Mach own cc nL mn R ret nt L xs Rt G) {a : IE} {off : Int} {tgt : Nat} (ha : IAt G pc p1 d a) (hd : decode cc p1 = .ok (.ifCond .le off, 3)) (ht : (p1 : Int) + off = (tgt : Int)) : CAt G pc tgt (p1 + 3) d (cLe a (iC 0)) := by
  intro KT KF ρ M sv hs h kT kF
  refine ha _ ρ M sv hs h (fun x M2 h3 => ?_)
  simp only [iC] at h3
  exact G_if_le hG hd ht (fun hc => kT _ (by rw [if_pos hc] at h3; exact h3)) (fun hc => kF _ (by rw [if_neg hc] at h3; exact h3))
theorem C_le_F (hG : Mach own cc nL mn R ret nt L xs Rt G) {a b : IE} {off : Int} {tgt : Nat} (ha : IAt G pc p1 d a) (hb : IAt G p1 p2 (d + 1) b) (hd : decode cc p2 = .ok (.if_icmp .gt off, 3)) (ht : (p2 : Int) + off = (tgt : Int)) : CAt G pc (p2 + 3) tgt d (cLe a b) := by
  intro KT KF ρ M sv hs h kT kF
  refine ha _ ρ M sv hs h (fun x M2 h2 => ?_)
  refine hb _ ρ M2 _ (by simp; omega) h2 (fun y M3 h3 => ?_)
  exact G_icmp_gt hG hd ht (fun hc => kF _ (by rw [if_neg (by omega)] at h3; exact h3)) (fun hc => kT _ (by rw [if_pos (by omega)] at h3; exact h3))
theorem C_le_F0 (hG : Mach own cc nL mn R ret nt L xs Rt G) {a : IE} {off : Int} {tgt : Nat} (ha : IAt G pc p1 d a) (hd : decode cc p1 = .ok (.ifCond .gt off, 3)) (ht : (p1 : Int) + off = (tgt : Int)) : CAt G pc (p1 + 3) tgt d (cLe a (iC 0)) := by
  intro KT KF ρ M sv hs h kT kF
  refine ha _ ρ M sv hs h (fun x M2 h3 => ?_)
  simp only [iC] at h3
  exact G_if_gt hG hd ht (fun hc => kF _ (by rw [if_neg (by omega)] at h3; exact h3)) (fun hc => kT _ (by rw [if_pos (by omega)] at h3; exact h3))
theorem C_and (hG : Mach own cc nL mn R ret nt L xs Rt G) {a b : CE} (ha : CAt G pc p1 p3 d a) (hb : CAt G p1 p2 p3 d b) : CAt G pc p2 p3 d (cAnd a b) := fun KT KF ρ M sv hs h kT kF => ha _ _ ρ M sv hs h (fun M2 h2 => hb _ _ ρ M2 sv hs h2 kT kF) kF
theorem C_or (hG : Mach own cc nL mn R ret nt L xs Rt G) {a b : CE} (ha : CAt G pc p2 p1 d a) (hb : CAt G p1 p2 p3 d b) : CAt G pc p2 p3 d (cOr a b) := fun KT KF ρ M sv hs h kT kF => ha _ _ ρ M sv hs h kT (fun M2 h2 => hb _ _ ρ M2 sv hs h2 kT kF)
theorem C_not (hG : Mach own cc nL mn R ret nt L xs Rt G) {a : CE} (ha : CAt G pc p1 p2 d a) : CAt G pc p2 p1 d (cNot a) := fun KT KF ρ M sv hs h kT kF => ha _ _ ρ M sv hs h kF kT
theorem C_gotoT (hG : Mach own cc nL mn R ret nt L xs Rt G) {a : CE} {off : Int} (ha : CAt G pc p1 p2 d a) (hd : decode cc p1 = .ok (.goto off, 3)) (ht : (p1 : Int) + off = (p3 : Int)) : CAt G pc p3 p2 d a := fun KT KF ρ M sv hs h kT kF => ha _ _ ρ M sv hs h (fun M2 h2 => G_goto hG hd ht (kT _ h2)) kF
theorem C_gotoF (hG : Mach own cc nL mn R ret nt L xs Rt G) {a : CE} {off : Int} (ha : CAt G pc p1 p2 d a) (hd : decode cc p2 = .ok (.goto off, 3)) (ht : (p2 : Int) + off = (p3 : Int)) : CAt G pc p1 p3 d a := fun KT KF ρ M sv hs h kT kF => ha _ _ ρ M sv hs h kT (fun M2 h2 => G_goto hG hd ht (kF _ h2))
theorem C_null (hG : Mach own cc nL mn R ret nt L xs Rt G) {r : RE} {off : Int} {tgt : Nat} (hr : RAt G pc p1 d r) (hd : decode cc p1 = .ok (.ifnull off, 3)) (ht : (p1 : Int) + off = (tgt : Int)) : CAt G pc tgt (p1 + 3) d (cNull r) := by
  intro KT KF ρ M sv hs h kT kF
  refine hr _ ρ M sv hs h (fun o M2 h3 => ?_)
  refine G_ifnull hG hd ht (fun hc => ?_) (fun hc => ?_)
  · subst hc
    exact kT _ h3
  · cases o with
    | none => exact absurd rfl hc
    | some q => exact kF _ h3
theorem S_skip (hG : Mach own cc nL mn R ret nt L xs Rt G)  : SAt G Rt pc pc sSkip := fun K ρ M h k => k _ _ h
theorem S_seq (hG : Mach own cc nL mn R ret nt L xs Rt G) {a b : ST} (ha : SAt G Rt pc p1 a) (hb : SAt G Rt p1 p2 b) : SAt G Rt pc p2 (sSeq a b) := fun K ρ M h k => ha _ ρ M h (fun ρ2 M2 h2 => hb _ ρ2 M2 h2 k)
theorem S_istore (hG : Mach own cc nL mn R ret nt L xs Rt G) {i : Nat} {e : IE} (he : IAt G pc p1 0 e) (hd : decode cc p1 = .ok (.istore i, 2)) (hi : i < nL) : SAt G Rt pc (p1 + 2) (sLoc i e) := fun K ρ M h k => he _ ρ M [] (Nat.zero_le _) h (fun x M2 h2 => G_istore hG hd hi (k _ _ h2))
theorem S_istore_n (hG : Mach own cc nL mn R ret nt L xs Rt G) {j : Fin 4} {i : Nat} {e : IE} (he : IAt G pc p1 0 e) (hd : decode cc p1 = .ok (.istore_n j, 1)) (hj : (j : Nat) = i) (hi : i < nL) : SAt G Rt pc (p1 + 1) (sLoc i e) := fun K ρ M h k => he _ ρ M [] (Nat.zero_le _) h (fun x M2 h2 => G_istore_n hG hd hj hi (k _ _ h2))
theorem S_astore (hG : Mach own cc nL mn R ret nt L xs Rt G) {i : Nat} {e : RE} (he : RAt G pc p1 0 e) (hd : decode cc p1 = .ok (.astore i, 2)) (hi : i < nL) : SAt G Rt pc (p1 + 2) (sLocR i e) := by
  intro K ρ M h k
  refine he _ ρ M [] (Nat.zero_le _) h (fun o M2 h2 => ?_)
  cases o with
  | none => exact h2.elim
  | some q => exact G_astore hG hd hi (k _ _ h2)
theorem S_astore_n (hG : Mach own cc nL mn R ret nt L xs Rt G) {j : Fin 4} {i : Nat} {e : RE} (he : RAt G pc p1 0 e) (hd : decode cc p1 = .ok (.astore_n j, 1)) (hj : (j : Nat) = i) (hi : i < nL) : SAt G Rt pc (p1 + 1) (sLocR i e) := by
  intro K ρ M h k
  refine he _ ρ M [] (Nat.zero_le _) h (fun o M2 h2 => ?_)
  cases o with
  | none => exact h2.elim
  | some q => exact G_astore_n hG hd hj hi (k _ _ h2)
theorem S_iinc (hG : Mach own cc nL mn R ret nt L xs Rt G) {i : Nat} {n : Int} (hd : decode cc pc = .ok (.iinc i n, 3)) (hi : i < nL) : SAt G Rt pc (pc + 3) (sInc i n) := by
  intro K ρ M h k
  unfold sInc at h
  split at h
  · rename_i z e
    exact G_iinc hG hd hi e h.1 (k _ _ h.2)
  · exact h.elim
theorem bool_nar {x : Int} (h : x = 0 ∨ x = 1) : narrow .boolean (.int (zI x)) = .int (zI x) ∧ fits .boolean (.int (zI x)) = true := by
  rcases h with rfl | rfl <;> exact ⟨by decide, by decide⟩
theorem S_putI (hG : Mach own cc nL mn R ret nt L xs Rt G) {idx ci j : Nat} {r : RE} {e : IE} (F : Pok own idx ci j false .int false) (hr : RAt G pc p1 0 r) (he : IAt G p1 p2 1 e) (hd : decode cc p2 = .ok (.putfield idx, 3)) : SAt G Rt pc (p2 + 3) (sPut false ci j r e) := by
  intro K ρ M h k
  refine hr _ ρ M [] (Nat.zero_le _) h (fun o M2 h2 => ?_)
  refine he _ ρ M2 _ (by simp) h2 (fun x M3 h3 => ?_)
  cases o with
  | none => exact h3.elim
  | some q =>
    obtain ⟨⟨w, hw⟩, -, h4⟩ := h3
    exact G_putI hG F hw rfl rfl hd (k _ _ h4)
theorem S_putB (hG : Mach own cc nL mn R ret nt L xs Rt G) {idx ci j : Nat} {r : RE} {e : IE} (F : Pok own idx ci j false .boolean false) (hr : RAt G pc p1 0 r) (he : IAt G p1 p2 1 e) (hd : decode cc p2 = .ok (.putfield idx, 3)) : SAt G Rt pc (p2 + 3) (sPut true ci j r e) := by
  intro K ρ M h k
  refine hr _ ρ M [] (Nat.zero_le _) h (fun o M2 h2 => ?_)
  refine he _ ρ M2 _ (by simp) h2 (fun x M3 h3 => ?_)
  cases o with
  | none => exact h3.elim
  | some q =>
    obtain ⟨⟨w, hw⟩, hb, h4⟩ := h3
    have hn := bool_nar (hb rfl)
    exact G_putI hG F hw hn.1 hn.2 hd (k _ _ h4)
theorem S_putR (hG : Mach own cc nL mn R ret nt L xs Rt G) {idx ci j : Nat} {ty : FieldType} {r r2 : RE} (F : Pok own idx ci j true ty true) (hmi : mn = "<init>") (hn : ∀ a : Nat, narrow ty (.ref a) = .ref a) (hft : ∀ a : Nat, fits ty (.ref a) = true) (hr : RAt G pc p1 0 r) (he : RAt G p1 p2 1 r2) (hd : decode cc p2 = .ok (.putfield idx, 3)) : SAt G Rt pc (p2 + 3) (sPutR ci j r r2) := by
  intro K ρ M h k
  refine hr _ ρ M [] (Nat.zero_le _) h (fun o M2 h2 => ?_)
  refine he _ ρ M2 _ (by simp) h2 (fun o2 M3 h3 => ?_)
  cases o with
  | none => exact h3.elim
  | some q =>
    cases o2 with
    | none => exact h3.elim
    | some v =>
      obtain ⟨⟨w, hw⟩, hv, h4⟩ := h3
      exact G_putR hG F hmi hw hv hn hft hd (k _ _ h4)
theorem S_putAdd (hG : Mach own cc nL mn R ret nt L xs Rt G) {idx ci j : Nat} {r : RE} {e : IE} (F0 : Fok own idx ci j false) (F : Pok own idx ci j false .int false) (hr : RAt G pc p1 0 r) (hd0 : decode cc p1 = .ok (.dup, 1)) (hd1 : decode cc (p1 + 1) = .ok (.getfield idx, 3)) (he : IAt G (p1 + 1 + 3) p2 2 e) (hd2 : decode cc p2 = .ok (.iadd, 1)) (hd : decode cc (p2 + 1) = .ok (.putfield idx, 3)) : SAt G Rt pc (p2 + 1 + 3) (sPutAdd ci j r e) := by
  intro K ρ M h k
  refine hr _ ρ M [] (Nat.zero_le _) h (fun o M2 h2 => ?_)
  cases o with
  | none => exact h2.elim
  | some q =>
    obtain ⟨⟨w, hw⟩, h3⟩ := h2
    refine G_dup hG hd0 (G_getI hG F0 hw hd1 ?_)
    refine he _ ρ M2 _ (by simp) h3 (fun x M3 h4 => ?_)
    obtain ⟨⟨w2, hw2⟩, hz, h5⟩ := h4
    exact G_iadd hG hd2 hz (G_putI hG F hw2 rfl rfl hd (k _ _ h5))
theorem S_putSub (hG : Mach own cc nL mn R ret nt L xs Rt G) {idx ci j : Nat} {r : RE} {e : IE} (F0 : Fok own idx ci j false) (F : Pok own idx ci j false .int false) (hr : RAt G pc p1 0 r) (hd0 : decode cc p1 = .ok (.dup, 1)) (hd1 : decode cc (p1 + 1) = .ok (.getfield idx, 3)) (he : IAt G (p1 + 1 + 3) p2 2 e) (hd2 : decode cc p2 = .ok (.isub, 1)) (hd : decode cc (p2 + 1) = .ok (.putfield idx, 3)) : SAt G Rt pc (p2 + 1 + 3) (sPutSub ci j r e) := by
  intro K ρ M h k
  refine hr _ ρ M [] (Nat.zero_le _) h (fun o M2 h2 => ?_)
  cases o with
  | none => exact h2.elim
  | some q =>
    obtain ⟨⟨w, hw⟩, h3⟩ := h2
    refine G_dup hG hd0 (G_getI hG F0 hw hd1 ?_)
    refine he _ ρ M2 _ (by simp) h3 (fun x M3 h4 => ?_)
    obtain ⟨⟨w2, hw2⟩, hz, h5⟩ := h4
    exact G_isub hG hd2 hz (G_putI hG F hw2 rfl rfl hd (k _ _ h5))
theorem S_iast (hG : Mach own cc nL mn R ret nt L xs Rt G) {r : RE} {i e : IE} (hr : RAt G pc p1 0 r) (hi : IAt G p1 p2 1 i) (he : IAt G p2 p3 2 e) (hd : decode cc p3 = .ok (.iastore, 1)) : SAt G Rt pc (p3 + 1) (sAst r i e) := by
  intro K ρ M h k
  refine hr _ ρ M [] (Nat.zero_le _) h (fun o M2 h2 => ?_)
  refine hi _ ρ M2 _ (by simp) h2 (fun x M3 h3 => ?_)
  refine he _ ρ M3 _ (by simp) h3 (fun z M4 h4 => ?_)
  cases o with
  | none => exact h4.elim
  | some q =>
    obtain ⟨n, hw, h0, h1, h5⟩ := h4
    exact G_iast hG hw h0 h1 hd (k _ _ h5)
theorem S_cast (hG : Mach own cc nL mn R ret nt L xs Rt G) {r : RE} {i e : IE} (hr : RAt G pc p1 0 r) (hi : IAt G p1 p2 1 i) (he : IAt G p2 p3 2 e) (hd : decode cc p3 = .ok (.castore, 1)) : SAt G Rt pc (p3 + 1) (sCst r i e) := by
  intro K ρ M h k
  refine hr _ ρ M [] (Nat.zero_le _) h (fun o M2 h2 => ?_)
  refine hi _ ρ M2 _ (by simp) h2 (fun x M3 h3 => ?_)
  refine he _ ρ M3 _ (by simp) h3 (fun z M4 h4 => ?_)
  cases o with
  | none => exact h4.elim
  | some q =>
    obtain ⟨n, hw, h0, h1, hz0, hz1, h5⟩ := h4
    exact G_cast hG hw h0 h1 hz0 hz1 hd (k _ _ h5)
theorem S_aast (hG : Mach own cc nL mn R ret nt L xs Rt G) {r e : RE} {i : IE} (hr : RAt G pc p1 0 r) (hi : IAt G p1 p2 1 i) (he : RAt G p2 p3 2 e) (hd : decode cc p3 = .ok (.aastore, 1)) : SAt G Rt pc (p3 + 1) (sRst r i e) := by
  intro K ρ M h k
  refine hr _ ρ M [] (Nat.zero_le _) h (fun o M2 h2 => ?_)
  refine hi _ ρ M2 _ (by simp) h2 (fun x M3 h3 => ?_)
  refine he _ ρ M3 _ (by simp) h3 (fun v M4 h4 => ?_)
  cases o with
  | none => exact h4.elim
  | some q =>
    cases v with
    | none => exact h4.elim
    | some u =>
      obtain ⟨n, w, hw, hv, h0, h1, h5⟩ := h4
      exact G_aast hG hw hv h0 h1 hd (k _ _ h5)
theorem S_astAdd (hG : Mach own cc nL mn R ret nt L xs Rt G) {r : RE} {i e : IE} (hr : RAt G pc p1 0 r) (hi : IAt G p1 p2 1 i) (hd0 : decode cc p2 = .ok (.dup2, 1)) (hd1 : decode cc (p2 + 1) = .ok (.iaload, 1)) (he : IAt G (p2 + 1 + 1) p3 3 e) (hd2 : decode cc p3 = .ok (.iadd, 1)) (hd : decode cc (p3 + 1) = .ok (.iastore, 1)) : SAt G Rt pc (p3 + 1 + 1) (sAstAdd r i e) := by
  intro K ρ M h k
  refine hr _ ρ M [] (Nat.zero_le _) h (fun o M2 h2 => ?_)
  refine hi _ ρ M2 _ (by simp) h2 (fun x M3 h3 => ?_)
  cases o with
  | none => exact h3.elim
  | some q =>
    obtain ⟨n, hw, h0, h1, h4⟩ := h3
    refine G_dup2 hG hd0 (G_iald hG hw h0 h1 hd1 ?_)
    refine he _ ρ M3 _ (by simp) h4 (fun z M4 h5 => ?_)
    obtain ⟨n2, hw2, h12, hz, h6⟩ := h5
    exact G_iadd hG hd2 hz (G_iast hG hw2 h0 h12 hd (k _ _ h6))
theorem S_astSub (hG : Mach own cc nL mn R ret nt L xs Rt G) {r : RE} {i e : IE} (hr : RAt G pc p1 0 r) (hi : IAt G p1 p2 1 i) (hd0 : decode cc p2 = .ok (.dup2, 1)) (hd1 : decode cc (p2 + 1) = .ok (.iaload, 1)) (he : IAt G (p2 + 1 + 1) p3 3 e) (hd2 : decode cc p3 = .ok (.isub, 1)) (hd : decode cc (p3 + 1) = .ok (.iastore, 1)) : SAt G Rt pc (p3 + 1 + 1) (sAstSub r i e) := by
  intro K ρ M h k
  refine hr _ ρ M [] (Nat.zero_le _) h (fun o M2 h2 => ?_)
  refine hi _ ρ M2 _ (by simp) h2 (fun x M3 h3 => ?_)
  cases o with
  | none => exact h3.elim
  | some q =>
    obtain ⟨n, hw, h0, h1, h4⟩ := h3
    refine G_dup2 hG hd0 (G_iald hG hw h0 h1 hd1 ?_)
    refine he _ ρ M3 _ (by simp) h4 (fun z M4 h5 => ?_)
    obtain ⟨n2, hw2, h12, hz, h6⟩ := h5
    exact G_isub hG hd2 hz (G_iast hG hw2 h0 h12 hd (k _ _ h6))
theorem S_if1 (hG : Mach own cc nL mn R ret nt L xs Rt G) {c : CE} {a : ST} (hc : CAt G pc p1 p2 0 c) (ha : SAt G Rt p1 p2 a) : SAt G Rt pc p2 (sIf1 c a) := fun K ρ M h k => hc _ _ ρ M [] (Nat.zero_le _) h (fun M2 h2 => ha _ ρ M2 h2 k) (fun M2 h2 => k _ _ h2)
theorem S_if (hG : Mach own cc nL mn R ret nt L xs Rt G) {c : CE} {a b : ST} (hc : CAt G pc p1 p2 0 c) (ha : SAt G Rt p1 p3 a) (hb : SAt G Rt p2 p3 b) : SAt G Rt pc p3 (sIf c a b) := fun K ρ M h k => hc _ _ ρ M [] (Nat.zero_le _) h (fun M2 h2 => ha _ ρ M2 h2 k) (fun M2 h2 => hb _ ρ M2 h2 k)
theorem S_goto (hG : Mach own cc nL mn R ret nt L xs Rt G) {a : ST} {off : Int} (ha : SAt G Rt pc p1 a) (hd : decode cc p1 = .ok (.goto off, 3)) (ht : (p1 : Int) + off = (p2 : Int)) : SAt G Rt pc p2 a := fun K ρ M h k => ha _ ρ M h (fun ρ2 M2 h2 => G_goto hG hd ht (k _ _ h2))
theorem S_while (hG : Mach own cc nL mn R ret nt L xs Rt G) {c : CE} {b : ST} (hc : CAt G pc p1 p2 0 c) (hb : SAt G Rt p1 pc b) : SAt G Rt pc p2 (sWhile c b) := by
  intro K ρ M h k
  obtain ⟨n, h⟩ := h
  induction n generalizing ρ M with
  | zero => exact h.elim
  | succ n ih => exact hc _ _ ρ M [] (Nat.zero_le _) h (fun M2 h2 => hb _ ρ M2 h2 (fun ρ3 M3 h3 => ih ρ3 M3 h3)) (fun M2 h2 => k _ _ h2)
theorem S_ret (hG : Mach own cc nL mn R ret nt L xs Rt G) {rt : FieldType} {e : IE} (hrt : ret = some rt) (hI : rt = .int) (he : IAt G pc p1 0 e) (hd : decode cc p1 = .ok (.ireturn, 1)) : SAt G Rt pc p2 (sRet false e) := by
  intro K ρ M h _
  refine he _ ρ M [] (Nat.zero_le _) h (fun x M2 h2 => ?_)
  exact G_ret hG hrt (by rw [hI]; rfl) hd h2.2
theorem S_retB (hG : Mach own cc nL mn R ret nt L xs Rt G) {rt : FieldType} {e : IE} (hrt : ret = some rt) (hI : rt = .boolean) (he : IAt G pc p1 0 e) (hd : decode cc p1 = .ok (.ireturn, 1)) : SAt G Rt pc p2 (sRet true e) := by
  intro K ρ M h _
  refine he _ ρ M [] (Nat.zero_le _) h (fun x M2 h2 => ?_)
  exact G_ret hG hrt (by rw [hI]; exact (bool_nar (h2.1 rfl)).1) hd h2.2
theorem S_retV (hG : Mach own cc nL mn R ret nt L xs Rt G) (hrt : ret = none) (hd : decode cc pc = .ok (.return_, 1)) : SAt G Rt pc p2 sRetV := fun K ρ M h _ => G_retV hG hrt hd h
theorem S_pop (hG : Mach own cc nL mn R ret nt L xs Rt G) {e : IE} (he : IAt G pc p1 0 e) (hd : decode cc p1 = .ok (.pop, 1)) : SAt G Rt pc (p1 + 1) (sPop e) := fun K ρ M h k => he _ ρ M [] (Nat.zero_le _) h (fun x M2 h2 => G_pop hG hd (k _ _ h2))
theorem S_obj (hG : Mach own cc nL mn R ret nt L xs Rt G) {idx : Nat} {r : RE} (hk : ∀ w ∈ ([.methodLink own idx Lib.objectInit, .instanceMethod Lib.objectInit, .code Lib.objectInit ⟨#[0xb1]⟩ 1 none] : List Cond), w ∈ gtb) (hR : 1 ≤ R.frames ∧ 12 ≤ R.locals) (hr : RAt G pc p1 0 r) (hd : decode cc p1 = .ok (.invokespecial idx, 3)) : SAt G Rt pc (p1 + 3) (sObj r) := by
  intro K ρ M h k
  refine hr _ ρ M [] (Nat.zero_le _) h (fun o M2 h2 => ?_)
  cases o with
  | none => exact h2.elim
  | some q =>
    exact G_objI hG hk ⟨hR.1, by simpa using hR.2⟩ hd (k _ _ h2)
theorem S_copy (hG : Mach own cc nL mn R ret nt L xs Rt G) {idx : Nat} {a b : RE} {i j n : IE} (hk : ∀ w ∈ ([.methodLink own idx arraycopyName, .native arraycopyName, .static arraycopyName, .initialized "java/lang/System"] : List Cond), w ∈ gtb) (hR : 1 ≤ R.frames ∧ 18 ≤ R.locals) (ha : RAt G pc p1 0 a) (hi : IAt G p1 p2 1 i) (hb : RAt G p2 p3 2 b) (hj : IAt G p3 p4 3 j) (hn : IAt G p4 p5 4 n) (hd : decode cc p5 = .ok (.invokestatic idx, 3)) : SAt G Rt pc (p5 + 3) (sCopy a b i j n) := by
  intro K ρ M h k
  refine ha _ ρ M [] (Nat.zero_le _) h (fun o M2 h2 => ?_)
  refine hi _ ρ M2 _ (by simp) h2 (fun sp M3 h3 => ?_)
  refine hb _ ρ M3 _ (by simp) h3 (fun o2 M4 h4 => ?_)
  refine hj _ ρ M4 _ (by simp) h4 (fun dp M5 h5 => ?_)
  refine hn _ ρ M5 _ (by simp) h5 (fun z M6 h6 => ?_)
  cases o with
  | none => exact h6.elim
  | some q0 =>
    cases o2 with
    | none => exact h6.elim
    | some q1 =>
      obtain ⟨n0, n1, w0, w1, e1, e2, e3, e4, e5, h7⟩ := h6
      exact G_copy hG hk ⟨hR.1, by simpa using hR.2⟩ w0 w1 e1 e2 e3 e4 e5 hd (k _ _ h7)
theorem S_copyT (hG : Mach own cc nL mn R ret nt L xs Rt G) {idx idx0 t : Nat} {host : String} {b : RE} {i j n : IE} (hk : ∀ w ∈ ([.methodLink own idx arraycopyName, .native arraycopyName, .static arraycopyName, .initialized "java/lang/System"] : List Cond), w ∈ gtb) (hR : 1 ≤ R.frames ∧ 18 ≤ R.locals) (ht : t < 3) (hlk : Cond.fieldLinkNest own idx0 "SungSlides" (stN t) "[I" host ∈ nestW) (hd0 : decode cc pc = .ok (.getstatic idx0, 3)) (hi : IAt G (pc + 3) p2 1 i) (hb : RAt G p2 p3 2 b) (hj : IAt G p3 p4 3 j) (hn : IAt G p4 p5 4 n) (hd : decode cc p5 = .ok (.invokestatic idx, 3)) : SAt G Rt pc (p5 + 3) (sCopyT xs t b i j n) := by
  intro K ρ M h k
  refine G_getsN hG ht hlk hd0 ?_
  refine hi _ ρ M _ (by simp) h (fun sp M3 h3 => ?_)
  refine hb _ ρ M3 _ (by simp) h3 (fun o2 M4 h4 => ?_)
  refine hj _ ρ M4 _ (by simp) h4 (fun dp M5 h5 => ?_)
  refine hn _ ρ M5 _ (by simp) h5 (fun z M6 h6 => ?_)
  cases o2 with
  | none => exact h6.elim
  | some q1 =>
      obtain ⟨n1, w1, e1, e2, e3, e4, e5, h7⟩ := h6
      exact G_copyT hG hk ⟨hR.1, by simpa using hR.2⟩ ht w1 e1 e2 e3 e4 e5 hd (k _ _ h7)
def SwAt (G : Gt) (Rt : Int → Mm → Prop) (pe : Nat) : List Nat → List ST → Prop
  | [], [] => True
  | t :: ts, f :: fs => SAt G Rt t pe f ∧ SwAt G Rt pe ts fs
  | _, _ => False
theorem SwAt_get {pe : Nat} : ∀ {ts : List Nat} {fs : List ST}, SwAt G Rt pe ts fs → ∀ i : Nat, i < fs.length → ∀ df : ST, SAt G Rt (ts.getD i 0) pe (fs.getD i df)
  | [], [], _, i, hi, _ => absurd hi (Nat.not_lt_zero i)
  | t :: ts, f :: fs, h, 0, _, _ => h.1
  | t :: ts, f :: fs, h, i + 1, hi, df => SwAt_get h.2 i (Nat.lt_of_succ_lt_succ hi) df
  | [], _ :: _, h, _, _, _ => h.elim
  | _ :: _, [], h, _, _, _ => h.elim
theorem SwAt_len {pe : Nat} : ∀ {ts : List Nat} {fs : List ST}, SwAt G Rt pe ts fs → ts.length = fs.length
  | [], [], _ => rfl
  | _ :: _, _ :: _, h => congrArg (· + 1) (SwAt_len h.2)
  | [], _ :: _, h => h.elim
  | _ :: _, [], h => h.elim
theorem S_sw (hG : Mach own cc nL mn R ret nt L xs Rt G) {e : IE} {lo hi dflt : Int} {offs : Array Int} {len dt : Nat} {ts : List Nat} {fs : List ST} {df : ST} (he : IAt G pc p1 0 e) (hd : decode cc p1 = .ok (.tableswitch dflt lo hi offs, len)) (hdt : (p1 : Int) + dflt = (dt : Int)) (hof : offs.toList.map (fun o => (p1 : Int) + o) = ts.map (fun (t : Nat) => (t : Int))) (hhi : lo + fs.length = hi + 1) (hs : SwAt G Rt p2 ts fs) (hdf : SAt G Rt dt p2 df) : SAt G Rt pc p2 (sSw e lo fs df) := by
  intro K ρ M h k
  refine he _ ρ M [] (Nat.zero_le _) h (fun x M2 h2 => ?_)
  have hl := SwAt_len hs
  refine G_tab hG hd (fun z => ts.getD (z - lo).toNat 0) dt hdt (fun z h0 h1 => ?_) (fun h0 h1 => ?_) (fun h0 => ?_)
  · have hlt : (z - lo).toNat < ts.length := by omega
    have h3 := congrArg (fun l => l[(z - lo).toNat]?) hof
    simp only [List.getElem?_map, Array.getElem?_toList, List.getElem?_eq_getElem hlt, Option.map_some] at h3
    cases h4 : offs[(z - lo).toNat]? with
    | none => rw [h4] at h3; cases h3
    | some o =>
      rw [h4] at h3
      exact ⟨o, rfl, by rw [List.getD_eq_getElem?_getD, List.getElem?_eq_getElem hlt]; exact Option.some.inj h3⟩
  · rw [if_pos ⟨h0, by omega⟩] at h2
    exact SwAt_get hs (x - lo).toNat (by omega) df _ ρ M2 h2 k
  · rw [if_neg (by omega)] at h2
    exact hdf _ ρ M2 h2 k
end AT
