/-! ===== numbers ===== -/
def zI (z : Int) : Int32 := Int32.ofInt z
def inR (z : Int) : Prop := -2147483648 ≤ z ∧ z ≤ 2147483647
theorem zI_toInt {z : Int} (h : inR z) : (zI z).toInt = z := Int32.toInt_ofInt_of_le (by have := h.1; omega) (by have := h.2; omega)
theorem zI_of (x : Int32) : zI x.toInt = x := Int32.ofInt_toInt x
theorem inR_of (x : Int32) : inR x.toInt := ⟨by have := Int32.le_toInt x; omega, by have := Int32.toInt_lt x; omega⟩
theorem zI_lt {a b : Int} (ha : inR a) (hb : inR b) : zI a < zI b ↔ a < b := by rw [Int32.lt_iff_toInt_lt, zI_toInt ha, zI_toInt hb]
theorem zI_le {a b : Int} (ha : inR a) (hb : inR b) : zI a ≤ zI b ↔ a ≤ b := by rw [Int32.le_iff_toInt_le, zI_toInt ha, zI_toInt hb]
theorem zI_inj {a b : Int} (ha : inR a) (hb : inR b) : zI a = zI b ↔ a = b := by rw [← Int32.toInt_inj, zI_toInt ha, zI_toInt hb]
theorem zI_add (a b : Int) : zI a + zI b = zI (a + b) := (Int32.ofInt_add a b).symm
theorem zI_sub (a b : Int) : zI a - zI b = zI (a - b) := (Int32.ofInt_sub a b).symm
theorem zI_mul (a b : Int) : zI a * zI b = zI (a * b) := (Int32.ofInt_mul a b).symm
theorem zI_neg (a : Int) : - zI a = zI (- a) := (Int32.ofInt_neg a).symm
theorem zI_0 : zI 0 = 0 := by decide
theorem inR_0 : inR 0 := ⟨by decide, by decide⟩
theorem zI_min : Int32.minValue.toInt = -2147483648 := by decide
theorem zI_max : Int32.maxValue.toInt = 2147483647 := by decide
theorem zI_div {a b : Int} (ha : inR a) (hb : inR b) : zI a / zI b = zI (a.tdiv b) := by
  refine (Int32.ofInt_tdiv ?_ ?_ ?_ ?_).symm <;> first | rw [zI_min] | rw [zI_max]
  · exact ha.1
  · exact ha.2
  · exact hb.1
  · exact hb.2
theorem zI_rem {a b : Int} (ha : inR a) (hb : inR b) : zI a - zI a / zI b * zI b = zI (a.tmod b) := by
  rw [zI_div ha hb, zI_mul, zI_sub]
  congr 1
  have := Int.tmod_add_mul_tdiv a b
  rw [Int.mul_comm (a.tdiv b) b]
  omega
theorem zI_cl {z : Int} (h : inR z) : (zI z).toNatClampNeg = z.toNat := by rw [← Int32.toNat_toInt, zI_toInt h]
theorem zI_in {z : Int} {n : Nat} (h : inR z) (h0 : 0 ≤ z) (h1 : z < n) : vp_in (zI z) n := vp_in_iff.mpr (by rw [zI_toInt h]; exact ⟨h0, h1⟩)
/-! ===== values, memory ===== -/
abbrev Vv : Type := Int ⊕ Option Nat
abbrev En : Type := Nat → Vv
abbrev Mm : Type := List (Nat × Nat) × (Nat → Nat → Int) × (Nat → Nat → Option Nat)
def clR : Nat → List Bool
  | 0 => [true, false]
  | 1 => [true, true, true, true, true, true, true, true, true, true, false, false]
  | 2 => [false, false, false]
  | 3 => [true, true, true, true, true, false]
  | 4 => [true, true, true]
  | 5 => [true, false]
  | 6 => [true, true, true, false, true, true, true, true]
  | 7 => [true, true, false, true, false, true, false, true, true, true, true, true, true, false, true, false]
  | _ => []
def cv (ad : Nat → Nat) : Vv → Value
  | .inl z => .int (zI z)
  | .inr none => .null
  | .inr (some k) => .ref (ad k)
theorem cv_cat (ad : Nat → Nat) (v : Vv) : (cv ad v).category = 1 := by
  rcases v with z | _ | k <;> rfl
def fvs (ad : Nat → Nat) (M : Mm) (q : Nat) (bs : List Bool) : List Value := (List.range bs.length).map (fun k => if bs.getD k false = true then va_rf ((M.2.2 q k).map ad) else .int (zI (M.2.1 q k)))
def cellE (cI cC cS : ClassId) (ad : Nat → Nat) (M : Mm) (q : Nat) (w : Nat × Nat) : va_E :=
  if w.1 < 8 then .inr (w.1, fvs ad M q (clR w.1)) else if w.1 = 20 then .inl (cI, w.2, .inl (fun j => zI (M.2.1 q j))) else if w.1 = 21 then .inl (cC, w.2, .inl (fun j => zI (M.2.1 q j))) else .inl (cS, w.2, .inr (.inr (.inr (.inr (fun j => (M.2.2 q j).map ad)))))
def wsOf (cI cC cS : ClassId) (ad : Nat → Nat) (M : Mm) : va_W := (List.range M.1.length).map (fun q => (ad q, cellE cI cC cS ad M q (M.1.getD q (0, 0))))
theorem ws_get {cI cC cS : ClassId} {ad : Nat → Nat} {M : Mm} {q : Nat} {w : Nat × Nat} (h : M.1[q]? = some w) : (wsOf cI cC cS ad M)[q]? = some (ad q, cellE cI cC cS ad M q w) := by
  have hl : q < M.1.length := (List.getElem?_eq_some_iff.mp h).1
  unfold wsOf
  rw [List.getElem?_map, List.getElem?_range hl]
  simp [List.getD_eq_getElem?_getD, h]
theorem ws_len {cI cC cS : ClassId} {ad : Nat → Nat} {M : Mm} : (wsOf cI cC cS ad M).length = M.1.length := by simp [wsOf]
theorem ws_upd {cI cC cS : ClassId} {ad : Nat → Nat} {M M' : Mm} {q : Nat} {w : Nat × Nat} (h : M.1[q]? = some w) (hs : M'.1 = M.1) (ho : ∀ r w', r ≠ q → cellE cI cC cS ad M' r w' = cellE cI cC cS ad M r w') :
    (wsOf cI cC cS ad M).set q (ad q, cellE cI cC cS ad M' q w) = wsOf cI cC cS ad M' := by
  apply List.ext_getElem?
  intro i
  rw [List.getElem?_set]
  by_cases hi : q = i
  · subst hi
    have hl : q < M.1.length := (List.getElem?_eq_some_iff.mp h).1
    rw [if_pos rfl, if_pos (by rw [ws_len]; exact hl), ws_get (M := M') (by rw [hs]; exact h)]
  · rw [if_neg hi]
    by_cases hl : i < M.1.length
    · obtain ⟨w', hw⟩ : ∃ w', M.1[i]? = some w' := ⟨_, List.getElem?_eq_getElem hl⟩
      rw [ws_get hw, ws_get (M := M') (by rw [hs]; exact hw), ho i w' (fun e => hi e.symm)]
    · rw [List.getElem?_eq_none (by rw [ws_len]; omega), List.getElem?_eq_none (by rw [ws_len, hs]; omega)]
/-- an int is put -/
def si (M : Mm) (q k : Nat) (z : Int) : Mm := (M.1, fun q' k' => if q' = q ∧ k' = k then z else M.2.1 q' k', M.2.2)
/-- a place is put -/
def sr (M : Mm) (q k : Nat) (r : Option Nat) : Mm := (M.1, M.2.1, fun q' k' => if q' = q ∧ k' = k then r else M.2.2 q' k')
/-- a cell comes -/
def pu (M : Mm) (w : Nat × Nat) : Mm := (M.1 ++ [w], M.2)
theorem fvs_len {ad : Nat → Nat} {M : Mm} {q : Nat} {bs : List Bool} : (fvs ad M q bs).length = bs.length := by simp [fvs]
theorem fvs_get {ad : Nat → Nat} {M : Mm} {q k : Nat} {bs : List Bool} {b : Bool} (h : bs[k]? = some b) : (fvs ad M q bs)[k]? = some (if b = true then va_rf ((M.2.2 q k).map ad) else .int (zI (M.2.1 q k))) := by
  have hl : k < bs.length := (List.getElem?_eq_some_iff.mp h).1
  unfold fvs
  rw [List.getElem?_map, List.getElem?_range hl]
  simp [List.getD_eq_getElem?_getD, h]
theorem fvs_si {ad : Nat → Nat} {M : Mm} {q k : Nat} {bs : List Bool} {z : Int} (h : bs[k]? = some false) : (fvs ad M q bs).set k (.int (zI z)) = fvs ad (si M q k z) q bs := by
  apply List.ext_getElem?
  intro i
  rw [List.getElem?_set]
  have hl : k < bs.length := (List.getElem?_eq_some_iff.mp h).1
  by_cases hi : k = i
  · subst hi
    rw [if_pos rfl, if_pos (by rw [fvs_len]; exact hl), fvs_get h]
    simp [si]
  · rw [if_neg hi]
    by_cases hl2 : i < bs.length
    · obtain ⟨b, hb⟩ : ∃ b, bs[i]? = some b := ⟨_, List.getElem?_eq_getElem hl2⟩
      rw [fvs_get hb, fvs_get hb]
      simp [si, Ne.symm hi]
    · rw [List.getElem?_eq_none (by rw [fvs_len]; omega), List.getElem?_eq_none (by rw [fvs_len]; omega)]
theorem fvs_sr {ad : Nat → Nat} {M : Mm} {q k : Nat} {bs : List Bool} {r : Option Nat} (h : bs[k]? = some true) : (fvs ad M q bs).set k (va_rf (r.map ad)) = fvs ad (sr M q k r) q bs := by
  apply List.ext_getElem?
  intro i
  rw [List.getElem?_set]
  have hl : k < bs.length := (List.getElem?_eq_some_iff.mp h).1
  by_cases hi : k = i
  · subst hi
    rw [if_pos rfl, if_pos (by rw [fvs_len]; exact hl), fvs_get h]
    simp [sr]
  · rw [if_neg hi]
    by_cases hl2 : i < bs.length
    · obtain ⟨b, hb⟩ : ∃ b, bs[i]? = some b := ⟨_, List.getElem?_eq_getElem hl2⟩
      rw [fvs_get hb, fvs_get hb]
      simp [sr, Ne.symm hi]
    · rw [List.getElem?_eq_none (by rw [fvs_len]; omega), List.getElem?_eq_none (by rw [fvs_len]; omega)]
theorem cell_si {cI cC cS : ClassId} {ad : Nat → Nat} {M : Mm} {q k : Nat} {z : Int} : ∀ r w', r ≠ q → cellE cI cC cS ad (si M q k z) r w' = cellE cI cC cS ad M r w' := by
  intro r w' hr
  simp [cellE, fvs, si, hr]
theorem cell_sr {cI cC cS : ClassId} {ad : Nat → Nat} {M : Mm} {q k : Nat} {z : Option Nat} : ∀ r w', r ≠ q → cellE cI cC cS ad (sr M q k z) r w' = cellE cI cC cS ad M r w' := by
  intro r w' hr
  simp [cellE, fvs, sr, hr]
def ssz (w : Nat × Nat) : Nat := if w.1 < 8 then (clR w.1).length else w.2
def ssum (l : List (Nat × Nat)) : Nat := (l.map ssz).sum
def vok (M : Mm) : Vv → Prop
  | .inl z => inR z
  | .inr none => True
  | .inr (some k) => k < M.1.length ∨ (1000000 ≤ k ∧ k < 1000004)
def MOK (M : Mm) : Prop := M.1.length ≤ 1000000 ∧ (∀ q k, inR (M.2.1 q k)) ∧ (∀ q k j, M.2.2 q k = some j → j < M.1.length) ∧ (∀ q k, M.1.length ≤ q → M.2.1 q k = 0 ∧ M.2.2 q k = none)
theorem MOK_si {M : Mm} {q k : Nat} {z : Int} (h : MOK M) (hq : q < M.1.length) (hz : inR z) : MOK (si M q k z) := by
  refine ⟨h.1, fun a b => ?_, h.2.2.1, fun a b hab => ⟨?_, (h.2.2.2 a b hab).2⟩⟩
  · show inR (if a = q ∧ b = k then z else M.2.1 a b)
    split
    · exact hz
    · exact h.2.1 a b
  · have hab' : M.1.length ≤ a := hab
    show (if a = q ∧ b = k then z else M.2.1 a b) = 0
    rw [if_neg (by omega)]
    exact (h.2.2.2 a b hab).1
theorem MOK_sr {M : Mm} {q k : Nat} {r : Option Nat} (h : MOK M) (hq : q < M.1.length) (hr : ∀ j, r = some j → j < M.1.length) : MOK (sr M q k r) := by
  refine ⟨h.1, h.2.1, fun a b j => ?_, fun a b hab => ⟨(h.2.2.2 a b hab).1, ?_⟩⟩
  · show (if a = q ∧ b = k then r else M.2.2 a b) = some j → _
    split
    · exact hr j
    · exact h.2.2.1 a b j
  · have hab' : M.1.length ≤ a := hab
    show (if a = q ∧ b = k then r else M.2.2 a b) = none
    rw [if_neg (by omega)]
    exact (h.2.2.2 a b hab).2
theorem MOK_pu {M : Mm} {w : Nat × Nat} (h : MOK M) (hl : M.1.length + 1 ≤ 1000000) : MOK (pu M w) := by
  have e : (pu M w).1.length = M.1.length + 1 := by simp [pu]
  refine ⟨by rw [e]; exact hl, h.2.1, fun a b j hj => by rw [e]; exact Nat.lt_succ_of_lt (h.2.2.1 a b j hj), fun a b hab => h.2.2.2 a b (by rw [e] at hab; omega)⟩
theorem vok_pu {M : Mm} {w : Nat × Nat} {v : Vv} (h : vok M v) : vok (pu M w) v := by
  have e : (pu M w).1.length = M.1.length + 1 := by simp [pu]
  rcases v with z | _ | k
  · exact h
  · trivial
  · rcases h with h | h
    · exact Or.inl (by rw [e]; omega)
    · exact Or.inr h
/-! ===== locals ===== -/
def envF (ad : Nat → Nat) (ρ : En) (i : Nat) : Option (Nat × Value) := match ρ i with
  | .inr none => none
  | v => some (i, cv ad v)
def envL (ad : Nat → Nat) (ρ : En) (n : Nat) : List (Nat × Value) := (List.range n).filterMap (envF ad ρ)
theorem envF_of {ad : Nat → Nat} {ρ : En} {i : Nat} {v : Vv} (h : ρ i = v) (hv : v ≠ .inr none) : envF ad ρ i = some (i, cv ad v) := by
  unfold envF
  rw [h]
  rcases v with z | _ | k
  · rfl
  · exact absurd rfl hv
  · rfl
theorem envF_no {ad : Nat → Nat} {ρ : En} {i : Nat} (h : ρ i = .inr none) : envF ad ρ i = none := by
  unfold envF
  rw [h]
theorem envF_to {ad : Nat → Nat} {ρ : En} {i : Nat} {q : Nat × Value} (h : envF ad ρ i = some q) : q = (i, cv ad (ρ i)) ∧ ρ i ≠ .inr none := by
  rcases e : ρ i with z | _ | k
  · rw [envF_of e (fun h => by cases h)] at h
    exact ⟨(Option.some.inj h).symm, fun h => by cases h⟩
  · rw [envF_no e] at h
    cases h
  · rw [envF_of e (fun h => by cases h)] at h
    exact ⟨(Option.some.inj h).symm, fun h => by cases h⟩
theorem env_at {ad : Nat → Nat} {ρ : En} {nL : Nat} {ls : Array Slot} (h : lv_has ls nL (envL ad ρ nL)) {i : Nat} {v : Vv} (hi : i < nL) (he : ρ i = v) (hv : v ≠ .inr none) : ls[i]? = some (.val (cv ad v)) :=
  h.2.2 (i, cv ad v) (List.mem_filterMap.mpr ⟨i, List.mem_range.mpr hi, envF_of he hv⟩)
theorem env_put {ad : Nat → Nat} {ρ : En} {nL i : Nat} {v : Vv} {ls : Array Slot} (h : lv_has ls nL ((i, cv ad v) :: (envL ad ρ nL).filter (fun q => !(q.1 == i) && !(q.1 + 1 == i && q.2.category == 2)))) : lv_has ls nL (envL ad (va_up ρ i v) nL) := by
  refine ⟨h.1, h.2.1, fun q hq => h.2.2 q ?_⟩
  obtain ⟨j, hj, hq⟩ := List.mem_filterMap.mp hq
  obtain ⟨rfl, hn⟩ := envF_to hq
  by_cases hij : j = i
  · subst hij
    rw [va_up_self]
    exact List.mem_cons_self
  · rw [va_up_ne _ _ hij] at hn ⊢
    refine List.mem_cons_of_mem _ (List.mem_filter.mpr ⟨List.mem_filterMap.mpr ⟨j, hj, envF_of rfl hn⟩, ?_⟩)
    simp [hij, cv_cat]
theorem env_ext {ad ad' : Nat → Nat} {ρ : En} {nL : Nat} {ls : Array Slot} (h : lv_has ls nL (envL ad ρ nL)) (he : ∀ i, i < nL → cv ad' (ρ i) = cv ad (ρ i)) : lv_has ls nL (envL ad' ρ nL) := by
  refine ⟨h.1, h.2.1, fun q hq => h.2.2 q ?_⟩
  obtain ⟨j, hj, hq⟩ := List.mem_filterMap.mp hq
  obtain ⟨rfl, hn⟩ := envF_to hq
  rw [he j (List.mem_range.mp hj)]
  exact List.mem_filterMap.mpr ⟨j, hj, envF_of rfl hn⟩
def limC (ρ : En) : Nat := match ρ 1000 with
  | .inl z => z.toNat
  | _ => 0
def limS (ρ : En) : Nat := match ρ 1001 with
  | .inl z => z.toNat
  | _ => 0
theorem limC_up {ρ : En} {i : Nat} {v : Vv} (h : i < 1000) : limC (va_up ρ i v) = limC ρ := by
  unfold limC
  rw [va_up_ne _ _ (by omega)]
theorem limS_up {ρ : En} {i : Nat} {v : Vv} (h : i < 1000) : limS (va_up ρ i v) = limS ρ := by
  unfold limS
  rw [va_up_ne _ _ (by omega)]
/-! ===== statics, the point ===== -/
def stN : Nat → String
  | 0 => "FIRST_VALUES"
  | 1 => "LOWEST_VALUES"
  | _ => "HIGHEST_VALUES"
/-- the tables' words that stay over a call -/
def gtb : List Cond := lw_tbl.filter goodWord
def isNest : Cond → Bool
  | .methodLinkNest .. => true
  | .fieldLinkNest .. => true
  | _ => false
def nestW : List Cond := lw_tbl.filter isNest
theorem nest_on {w : Cond} (h : isNest w = true) : w.onTables = true := by
  cases w <;> first | rfl | (cases h; done)
theorem nest_mv {w : Cond} {s U : State} (h : isNest w = true) (hW : s.WarmedH U.vm) (hZ : va_Nw w s) : va_Nw w U := by
  cases w <;> first | exact va_Nw.warmM hW hZ | exact va_Nw.warmF hW hZ | (cases h; done)
theorem in_n (w : Cond) (i : Nat) (h : lw_tbl[i]? = some w) (hn : isNest w = true) : w ∈ nestW := List.mem_filter.mpr ⟨List.mem_of_getElem? h, hn⟩
def tysOf (cI cC cS : ClassId) : List (ClassId × FieldType) := [(cI, .int), (cC, .char), (cS, .object "SungSlides$State")]
/-- tables that are read alone: the statics 0, 1, 2, in the law the script too -/
def stV : Nat → Nat → Int
  | 0, 0 => 16
  | 0, 1 => 1
  | 0, 2 => 2
  | 0, 3 => 0
  | 0, 4 => 50
  | 1, 0 => 2
  | 1, 1 => 0
  | 1, 2 => 0
  | 1, 3 => 0
  | 1, 4 => 1
  | 2, 0 => 64
  | 2, 1 => 6
  | 2, 2 => 8
  | 2, 3 => 1
  | 2, 4 => 100
  | _, _ => 0
def tLn (L t : Nat) : Nat := if t < 3 then 5 else L
def tVl (xs : Nat → Int) (t j : Nat) : Int := if t < 3 then stV t j else xs j
def StOK (nt L : Nat) (xs : Nat → Int) (sA : Nat → Nat) (A : Nat → Prop) (U : State) (H : Heap) : Prop :=
  3 ≤ nt ∧ (∀ t, t < nt → va_X (sA t) (tLn L t) (fun j => zI (tVl xs t j)) U H ∧ sA t < H.size ∧ ¬ A (sA t)) ∧ (∀ t j, inR (tVl xs t j)) ∧ (∀ t, t < 3 → va_Z "SungSlides" (stN t) "[I" (.ref (sA t)) A U H) ∧ va_AO "SungSlides$State" U ∧ ∀ w ∈ nestW, va_Nw w U
/-- where the machine stands -/
def PtOK (R : Room) (s : State) (dC : Nat → ClassId) (dI : Nat → Nat → Nat) (cI cC cS : ClassId) (sA : Nat → Nat) (A : Nat → Prop) (nL n0 S0 : Nat) (ad0 : Nat → Nat) (ad : Nat → Nat) (H : Heap) (locs : List Loc) (cells slots : Nat) (ls : Array Slot) (sv : List Vv) (ρ : En) (M : Mm) : Prop :=
  (va_P (dC, dI) vwCl (wsOf cI cC cS ad M) H ∧ va_D A (wsOf cI cC cS ad M) ∧ va_S A s.heap H locs) ∧ (MOK M ∧ lv_has ls nL (envL ad ρ nL) ∧ (∀ i, i < 1000 → vok M (ρ i)) ∧ ∀ v ∈ sv, vok M v) ∧ ((n0 ≤ M.1.length ∧ ∀ k, k < n0 → ad k = ad0 k) ∧ ∀ t, ad (1000000 + t) = sA t) ∧ M.1.length = n0 + cells ∧ ssum M.1 = S0 + slots ∧ cells ≤ R.cells ∧ slots ≤ R.slots ∧ limC ρ ≤ n0 + R.cells ∧ limS ρ ≤ S0 + R.slots
def Wp (p : Program) (l : Launch) (e : Env) (R : Room) (s : State) (m : MethodId) (args : Array Value) (below : List Frame) (meth : Method) (c : Code) (dC : Nat → ClassId) (dI : Nat → Nat → Nat) (cI cC cS : ClassId) (sA : Nat → Nat) (A : Nat → Prop) (nL n0 S0 : Nat) (ad0 : Nat → Nat) (Q : State → Prop) (pc : Nat) (sv : List Vv) (ρ : En) (M : Mm) : Prop :=
  ∀ (ad : Nat → Nat) (H : Heap) (locs : List Loc) (cells slots : Nat) (ls : Array Slot), PtOK R s dC dI cI cC cS sA A nL n0 S0 ad0 ad H locs cells slots ls sv ρ M → W p l e R s m args below meth c H locs cells slots Q (F0 m pc ls (sv.map (cv ad)))
def CxOK (own : String) (cc : ByteArray) (nL : Nat) (mn : String) (R : Room) (ret : Option FieldType) (nt L : Nat) (xs : Nat → Int) (Rt : Int → Mm → Prop) (p : Program) (l : Launch) (e : Env) (s : State) (m : MethodId) (args : Array Value) (below : List Frame) (meth : Method) (c : Code) (dC : Nat → ClassId) (dI : Nat → Nat → Nat) (cI cC cS : ClassId) (sA : Nat → Nat) (A : Nat → Prop) (n0 S0 : Nat) (ad0 : Nat → Nat) (Q : State → Prop) : Prop :=
  p.tables.exec = Jvm.exec ∧ c.code = cc ∧ c.maxLocals = nL ∧ s.vm.findClass own = some m.cls ∧ (∀ w ∈ gtb, w.before args s = true) ∧ va_K (dC, dI) vwCl (tysOf cI cC cS) s ∧ (∀ q : Nat, s.heap.size ≤ q → A q) ∧ StOK nt L xs sA A s s.heap ∧ meth.name = mn ∧ nL ≤ 1000 ∧
  (∀ (rt : FieldType) (pc : Nat) (x : Int) (ρ : En) (M : Mm), ret = some rt → narrow rt (.int (zI x)) = .int (zI x) → decode cc pc = .ok (.ireturn, 1) → Rt x M → Wp p l e R s m args below meth c dC dI cI cC cS sA A nL n0 S0 ad0 Q pc [.inl x] ρ M) ∧
  (∀ (pc : Nat) (ρ : En) (M : Mm), ret = none → decode cc pc = .ok (.return_, 1) → Rt 0 M → Wp p l e R s m args below meth c dC dI cI cC cS sA A nL n0 S0 ad0 Q pc [] ρ M)
abbrev Gt : Type := Nat → List Vv → En → Mm → Prop
def Mach (own : String) (cc : ByteArray) (nL : Nat) (mn : String) (R : Room) (ret : Option FieldType) (nt L : Nat) (xs : Nat → Int) (Rt : Int → Mm → Prop) (G : Gt) : Prop :=
  ∃ (p : Program) (l : Launch) (e : Env) (s : State) (m : MethodId) (args : Array Value) (below : List Frame) (meth : Method) (c : Code) (dC : Nat → ClassId) (dI : Nat → Nat → Nat) (cI cC cS : ClassId) (sA : Nat → Nat) (A : Nat → Prop) (n0 S0 : Nat) (ad0 : Nat → Nat) (Q : State → Prop),
    CxOK own cc nL mn R ret nt L xs Rt p l e s m args below meth c dC dI cI cC cS sA A n0 S0 ad0 Q ∧ G = Wp p l e R s m args below meth c dC dI cI cC cS sA A nL n0 S0 ad0 Q
/-! ===== a rule an instruction ===== -/
theorem zI_nat (n : Nat) : zI (n : Int) = nI n := Int32.ofInt_eq_ofNat
theorem zI_bmod (z : Int) : zI (z % 4294967296) = zI z := by
  apply Int32.toInt_inj.mp
  unfold zI
  rw [Int32.toInt_ofInt, Int32.toInt_ofInt]
  exact Int.emod_bmod z 4294967296
theorem zI_tn (z : Int) : (zI z).toBitVec.toNat = (z % 4294967296).toNat := by
  have h0 : 0 ≤ z % 4294967296 := by omega
  obtain ⟨n, hn⟩ := Int.eq_ofNat_of_zero_le h0
  rw [← zI_bmod z, hn, zI_nat, pk_tn (by omega)]
  omega
theorem zI_char {x : Int} (h : inR x) : ((zI x).toUInt32 % 65536).toInt32 = zI (x % 65536) := by
  rw [pk_char, zI_tn, ← zI_nat]
  congr 1
  omega
theorem zI_and31 {x : Int} (h : inR x) : zI x &&& zI 31 = zI (x % 32) := by
  rw [pk_and (zI x) (m := zI 31) 5 (by decide), zI_tn, ← zI_nat]
  congr 1
  omega
section RULES
variable {own : String} {cc : ByteArray} {nL : Nat} {mn : String} {R : Room} {ret : Option FieldType} {nt L : Nat} {xs : Nat → Int} {Rt : Int → Mm → Prop} {G : Gt} {pc : Nat} {sv : List Vv} {ρ : En} {M : Mm}
theorem G_iconst (hG : Mach own cc nL mn R ret nt L xs Rt G) {n z : Int} (hdg : decode cc pc = .ok (.iconst n, 1)) (hv : Int32.ofInt n = zI z) (hz : inR z) (k : G (pc + 1) (.inl z :: sv) ρ M) : G pc sv ρ M := by
  obtain ⟨p, l, e, s, m, args, below, meth, c, dC, dI, cI, cC, cS, sA, A, n0, S0, ad0, Q, ⟨hx, hb, hml, hown, hts, hK, hA, hSt, hmn, hnL, hRI, hRV⟩, rfl⟩ := hG
  intro ad H locs cells slots ls hpt
  obtain ⟨⟨hP, hD, hS⟩, ⟨hM, hl, hvr, hvs⟩, ⟨⟨hn0, had0⟩, hsA⟩, hcn, hsn, hcl, hsl, hlc, hls⟩ := hpt
  exact lv_iconst hx hb hdg hv (k ad H locs cells slots ls ⟨⟨hP, hD, hS⟩, ⟨hM, hl, hvr, (List.forall_mem_cons.mpr ⟨hz, hvs⟩)⟩, ⟨⟨hn0, had0⟩, hsA⟩, hcn, hsn, hcl, hsl, hlc, hls⟩)
theorem G_bipush (hG : Mach own cc nL mn R ret nt L xs Rt G) {n z : Int} (hdg : decode cc pc = .ok (.bipush n, 2)) (hv : (Int8.ofInt n).toInt32 = zI z) (hz : inR z) (k : G (pc + 2) (.inl z :: sv) ρ M) : G pc sv ρ M := by
  obtain ⟨p, l, e, s, m, args, below, meth, c, dC, dI, cI, cC, cS, sA, A, n0, S0, ad0, Q, ⟨hx, hb, hml, hown, hts, hK, hA, hSt, hmn, hnL, hRI, hRV⟩, rfl⟩ := hG
  intro ad H locs cells slots ls hpt
  obtain ⟨⟨hP, hD, hS⟩, ⟨hM, hl, hvr, hvs⟩, ⟨⟨hn0, had0⟩, hsA⟩, hcn, hsn, hcl, hsl, hlc, hls⟩ := hpt
  exact lv_bipush hx hb hdg hv (k ad H locs cells slots ls ⟨⟨hP, hD, hS⟩, ⟨hM, hl, hvr, (List.forall_mem_cons.mpr ⟨hz, hvs⟩)⟩, ⟨⟨hn0, had0⟩, hsA⟩, hcn, hsn, hcl, hsl, hlc, hls⟩)
theorem G_sipush (hG : Mach own cc nL mn R ret nt L xs Rt G) {n z : Int} (hdg : decode cc pc = .ok (.sipush n, 3)) (hv : (Int16.ofInt n).toInt32 = zI z) (hz : inR z) (k : G (pc + 3) (.inl z :: sv) ρ M) : G pc sv ρ M := by
  obtain ⟨p, l, e, s, m, args, below, meth, c, dC, dI, cI, cC, cS, sA, A, n0, S0, ad0, Q, ⟨hx, hb, hml, hown, hts, hK, hA, hSt, hmn, hnL, hRI, hRV⟩, rfl⟩ := hG
  intro ad H locs cells slots ls hpt
  obtain ⟨⟨hP, hD, hS⟩, ⟨hM, hl, hvr, hvs⟩, ⟨⟨hn0, had0⟩, hsA⟩, hcn, hsn, hcl, hsl, hlc, hls⟩ := hpt
  exact lv_sipush hx hb hdg hv (k ad H locs cells slots ls ⟨⟨hP, hD, hS⟩, ⟨hM, hl, hvr, (List.forall_mem_cons.mpr ⟨hz, hvs⟩)⟩, ⟨⟨hn0, had0⟩, hsA⟩, hcn, hsn, hcl, hsl, hlc, hls⟩)
theorem G_iload (hG : Mach own cc nL mn R ret nt L xs Rt G) {i : Nat} {z : Int} {ins : Instr} {ln : Nat} (hdg : decode cc pc = .ok (.iload i, 2)) (hi : i < nL) (he : ρ i = .inl z) (k : G (pc + 2) (.inl z :: sv) ρ M) : G pc sv ρ M := by
  obtain ⟨p, l, e, s, m, args, below, meth, c, dC, dI, cI, cC, cS, sA, A, n0, S0, ad0, Q, ⟨hx, hb, hml, hown, hts, hK, hA, hSt, hmn, hnL, hRI, hRV⟩, rfl⟩ := hG
  intro ad H locs cells slots ls hpt
  obtain ⟨⟨hP, hD, hS⟩, ⟨hM, hl, hvr, hvs⟩, ⟨⟨hn0, had0⟩, hsA⟩, hcn, hsn, hcl, hsl, hlc, hls⟩ := hpt
  have hz : vok M (.inl z) := by rw [← he]; exact hvr i (by omega)
  exact lv_iload hx hb hdg (env_at hl hi he (fun h => by cases h)) (k ad H locs cells slots ls ⟨⟨hP, hD, hS⟩, ⟨hM, hl, hvr, (List.forall_mem_cons.mpr ⟨hz, hvs⟩)⟩, ⟨⟨hn0, had0⟩, hsA⟩, hcn, hsn, hcl, hsl, hlc, hls⟩)
theorem G_iload_n (hG : Mach own cc nL mn R ret nt L xs Rt G) {j : Fin 4} {i : Nat} {z : Int} (hdg : decode cc pc = .ok (.iload_n j, 1)) (hj : (j : Nat) = i) (hi : i < nL) (he : ρ i = .inl z) (k : G (pc + 1) (.inl z :: sv) ρ M) : G pc sv ρ M := by
  obtain ⟨p, l, e, s, m, args, below, meth, c, dC, dI, cI, cC, cS, sA, A, n0, S0, ad0, Q, ⟨hx, hb, hml, hown, hts, hK, hA, hSt, hmn, hnL, hRI, hRV⟩, rfl⟩ := hG
  intro ad H locs cells slots ls hpt
  obtain ⟨⟨hP, hD, hS⟩, ⟨hM, hl, hvr, hvs⟩, ⟨⟨hn0, had0⟩, hsA⟩, hcn, hsn, hcl, hsl, hlc, hls⟩ := hpt
  have hz : vok M (.inl z) := by rw [← he]; exact hvr i (by omega)
  exact lv_iload_n hx hb hdg hj (env_at hl hi he (fun h => by cases h)) (k ad H locs cells slots ls ⟨⟨hP, hD, hS⟩, ⟨hM, hl, hvr, (List.forall_mem_cons.mpr ⟨hz, hvs⟩)⟩, ⟨⟨hn0, had0⟩, hsA⟩, hcn, hsn, hcl, hsl, hlc, hls⟩)
theorem G_aload (hG : Mach own cc nL mn R ret nt L xs Rt G) {i : Nat} {q : Nat} (hdg : decode cc pc = .ok (.aload i, 2)) (hi : i < nL) (he : ρ i = .inr (some q)) (k : G (pc + 2) (.inr (some q) :: sv) ρ M) : G pc sv ρ M := by
  obtain ⟨p, l, e, s, m, args, below, meth, c, dC, dI, cI, cC, cS, sA, A, n0, S0, ad0, Q, ⟨hx, hb, hml, hown, hts, hK, hA, hSt, hmn, hnL, hRI, hRV⟩, rfl⟩ := hG
  intro ad H locs cells slots ls hpt
  obtain ⟨⟨hP, hD, hS⟩, ⟨hM, hl, hvr, hvs⟩, ⟨⟨hn0, had0⟩, hsA⟩, hcn, hsn, hcl, hsl, hlc, hls⟩ := hpt
  have hz : vok M (.inr (some q)) := by rw [← he]; exact hvr i (by omega)
  exact lv_aload hx hb hdg (env_at hl hi he (fun h => by cases h)) (k ad H locs cells slots ls ⟨⟨hP, hD, hS⟩, ⟨hM, hl, hvr, (List.forall_mem_cons.mpr ⟨hz, hvs⟩)⟩, ⟨⟨hn0, had0⟩, hsA⟩, hcn, hsn, hcl, hsl, hlc, hls⟩)
theorem G_aload_n (hG : Mach own cc nL mn R ret nt L xs Rt G) {j : Fin 4} {i : Nat} {q : Nat} (hdg : decode cc pc = .ok (.aload_n j, 1)) (hj : (j : Nat) = i) (hi : i < nL) (he : ρ i = .inr (some q)) (k : G (pc + 1) (.inr (some q) :: sv) ρ M) : G pc sv ρ M := by
  obtain ⟨p, l, e, s, m, args, below, meth, c, dC, dI, cI, cC, cS, sA, A, n0, S0, ad0, Q, ⟨hx, hb, hml, hown, hts, hK, hA, hSt, hmn, hnL, hRI, hRV⟩, rfl⟩ := hG
  intro ad H locs cells slots ls hpt
  obtain ⟨⟨hP, hD, hS⟩, ⟨hM, hl, hvr, hvs⟩, ⟨⟨hn0, had0⟩, hsA⟩, hcn, hsn, hcl, hsl, hlc, hls⟩ := hpt
  have hz : vok M (.inr (some q)) := by rw [← he]; exact hvr i (by omega)
  exact lv_aload_n hx hb hdg hj (env_at hl hi he (fun h => by cases h)) (k ad H locs cells slots ls ⟨⟨hP, hD, hS⟩, ⟨hM, hl, hvr, (List.forall_mem_cons.mpr ⟨hz, hvs⟩)⟩, ⟨⟨hn0, had0⟩, hsA⟩, hcn, hsn, hcl, hsl, hlc, hls⟩)
theorem G_istore (hG : Mach own cc nL mn R ret nt L xs Rt G) {i : Nat} {z : Int} (hdg : decode cc pc = .ok (.istore i, 2)) (hi : i < nL) (k : G (pc + 2) sv (va_up ρ i (.inl z)) M) : G pc (.inl z :: sv) ρ M := by
  obtain ⟨p, l, e, s, m, args, below, meth, c, dC, dI, cI, cC, cS, sA, A, n0, S0, ad0, Q, ⟨hx, hb, hml, hown, hts, hK, hA, hSt, hmn, hnL, hRI, hRV⟩, rfl⟩ := hG
  intro ad H locs cells slots ls hpt
  obtain ⟨⟨hP, hD, hS⟩, ⟨hM, hl, hvr, hvs⟩, ⟨⟨hn0, had0⟩, hsA⟩, hcn, hsn, hcl, hsl, hlc, hls⟩ := hpt
  refine lv_istore hx hb hdg hl hi rfl (fun ls1 hl1 => k ad H locs cells slots ls1 ⟨⟨hP, hD, hS⟩, ⟨hM, env_put hl1, (fun i2 h2 => by
      by_cases h : i2 = i
      · subst h; rw [va_up_self]; exact (hvs _ List.mem_cons_self)
      · rw [va_up_ne _ _ h]; exact hvr i2 h2), (fun v hv => hvs v (List.mem_cons_of_mem _ hv))⟩, ⟨⟨hn0, had0⟩, hsA⟩, hcn, hsn, hcl, hsl, by rw [limC_up (by omega)]; exact hlc, by rw [limS_up (by omega)]; exact hls⟩)
theorem G_istore_n (hG : Mach own cc nL mn R ret nt L xs Rt G) {j : Fin 4} {i : Nat} {z : Int} (hdg : decode cc pc = .ok (.istore_n j, 1)) (hj : (j : Nat) = i) (hi : i < nL) (k : G (pc + 1) sv (va_up ρ i (.inl z)) M) : G pc (.inl z :: sv) ρ M := by
  obtain ⟨p, l, e, s, m, args, below, meth, c, dC, dI, cI, cC, cS, sA, A, n0, S0, ad0, Q, ⟨hx, hb, hml, hown, hts, hK, hA, hSt, hmn, hnL, hRI, hRV⟩, rfl⟩ := hG
  intro ad H locs cells slots ls hpt
  obtain ⟨⟨hP, hD, hS⟩, ⟨hM, hl, hvr, hvs⟩, ⟨⟨hn0, had0⟩, hsA⟩, hcn, hsn, hcl, hsl, hlc, hls⟩ := hpt
  refine lv_istore_n hx hb hdg hj hl hi rfl (fun ls1 hl1 => k ad H locs cells slots ls1 ⟨⟨hP, hD, hS⟩, ⟨hM, env_put hl1, (fun i2 h2 => by
      by_cases h : i2 = i
      · subst h; rw [va_up_self]; exact (hvs _ List.mem_cons_self)
      · rw [va_up_ne _ _ h]; exact hvr i2 h2), (fun v hv => hvs v (List.mem_cons_of_mem _ hv))⟩, ⟨⟨hn0, had0⟩, hsA⟩, hcn, hsn, hcl, hsl, by rw [limC_up (by omega)]; exact hlc, by rw [limS_up (by omega)]; exact hls⟩)
theorem G_astore (hG : Mach own cc nL mn R ret nt L xs Rt G) {i : Nat} {q : Nat} (hdg : decode cc pc = .ok (.astore i, 2)) (hi : i < nL) (k : G (pc + 2) sv (va_up ρ i (.inr (some q))) M) : G pc (.inr (some q) :: sv) ρ M := by
  obtain ⟨p, l, e, s, m, args, below, meth, c, dC, dI, cI, cC, cS, sA, A, n0, S0, ad0, Q, ⟨hx, hb, hml, hown, hts, hK, hA, hSt, hmn, hnL, hRI, hRV⟩, rfl⟩ := hG
  intro ad H locs cells slots ls hpt
  obtain ⟨⟨hP, hD, hS⟩, ⟨hM, hl, hvr, hvs⟩, ⟨⟨hn0, had0⟩, hsA⟩, hcn, hsn, hcl, hsl, hlc, hls⟩ := hpt
  refine lv_astore hx hb hdg hl hi rfl (fun ls1 hl1 => k ad H locs cells slots ls1 ⟨⟨hP, hD, hS⟩, ⟨hM, env_put hl1, (fun i2 h2 => by
      by_cases h : i2 = i
      · subst h; rw [va_up_self]; exact (hvs _ List.mem_cons_self)
      · rw [va_up_ne _ _ h]; exact hvr i2 h2), (fun v hv => hvs v (List.mem_cons_of_mem _ hv))⟩, ⟨⟨hn0, had0⟩, hsA⟩, hcn, hsn, hcl, hsl, by rw [limC_up (by omega)]; exact hlc, by rw [limS_up (by omega)]; exact hls⟩)
theorem G_astore_n (hG : Mach own cc nL mn R ret nt L xs Rt G) {j : Fin 4} {i : Nat} {q : Nat} (hdg : decode cc pc = .ok (.astore_n j, 1)) (hj : (j : Nat) = i) (hi : i < nL) (k : G (pc + 1) sv (va_up ρ i (.inr (some q))) M) : G pc (.inr (some q) :: sv) ρ M := by
  obtain ⟨p, l, e, s, m, args, below, meth, c, dC, dI, cI, cC, cS, sA, A, n0, S0, ad0, Q, ⟨hx, hb, hml, hown, hts, hK, hA, hSt, hmn, hnL, hRI, hRV⟩, rfl⟩ := hG
  intro ad H locs cells slots ls hpt
  obtain ⟨⟨hP, hD, hS⟩, ⟨hM, hl, hvr, hvs⟩, ⟨⟨hn0, had0⟩, hsA⟩, hcn, hsn, hcl, hsl, hlc, hls⟩ := hpt
  refine lv_astore_n hx hb hdg hj hl hi rfl (fun ls1 hl1 => k ad H locs cells slots ls1 ⟨⟨hP, hD, hS⟩, ⟨hM, env_put hl1, (fun i2 h2 => by
      by_cases h : i2 = i
      · subst h; rw [va_up_self]; exact (hvs _ List.mem_cons_self)
      · rw [va_up_ne _ _ h]; exact hvr i2 h2), (fun v hv => hvs v (List.mem_cons_of_mem _ hv))⟩, ⟨⟨hn0, had0⟩, hsA⟩, hcn, hsn, hcl, hsl, by rw [limC_up (by omega)]; exact hlc, by rw [limS_up (by omega)]; exact hls⟩)
theorem G_iinc (hG : Mach own cc nL mn R ret nt L xs Rt G) {i : Nat} {n z : Int} (hdg : decode cc pc = .ok (.iinc i n, 3)) (hi : i < nL) (he : ρ i = .inl z) (hz : inR (z + n)) (k : G (pc + 3) sv (va_up ρ i (.inl (z + n))) M) : G pc sv ρ M := by
  obtain ⟨p, l, e, s, m, args, below, meth, c, dC, dI, cI, cC, cS, sA, A, n0, S0, ad0, Q, ⟨hx, hb, hml, hown, hts, hK, hA, hSt, hmn, hnL, hRI, hRV⟩, rfl⟩ := hG
  intro ad H locs cells slots ls hpt
  obtain ⟨⟨hP, hD, hS⟩, ⟨hM, hl, hvr, hvs⟩, ⟨⟨hn0, had0⟩, hsA⟩, hcn, hsn, hcl, hsl, hlc, hls⟩ := hpt
  have hmem : (i, cv ad (.inl z)) ∈ envL ad ρ nL := List.mem_filterMap.mpr ⟨i, List.mem_range.mpr hi, envF_of he (fun h => by cases h)⟩
  obtain ⟨k0, hk0⟩ := List.getElem?_of_mem hmem
  refine lv_iinc (v := zI (z + n)) hx hb hdg hl hk0 (zI_add z n) hi rfl (fun ls1 hl1 => k ad H locs cells slots ls1 ⟨⟨hP, hD, hS⟩, ⟨hM, env_put (v := .inl (z + n)) hl1, (fun i2 h2 => by
      by_cases h : i2 = i
      · subst h; rw [va_up_self]; exact hz
      · rw [va_up_ne _ _ h]; exact hvr i2 h2), hvs⟩, ⟨⟨hn0, had0⟩, hsA⟩, hcn, hsn, hcl, hsl, by rw [limC_up (by omega)]; exact hlc, by rw [limS_up (by omega)]; exact hls⟩)
theorem G_iadd (hG : Mach own cc nL mn R ret nt L xs Rt G) {x y : Int} (hdg : decode cc pc = .ok (.iadd, 1)) (hz : inR (x + y)) (k : G (pc + 1) (.inl (x + y) :: sv) ρ M) : G pc (.inl y :: .inl x :: sv) ρ M := by
  obtain ⟨p, l, e, s, m, args, below, meth, c, dC, dI, cI, cC, cS, sA, A, n0, S0, ad0, Q, ⟨hx, hb, hml, hown, hts, hK, hA, hSt, hmn, hnL, hRI, hRV⟩, rfl⟩ := hG
  intro ad H locs cells slots ls hpt
  obtain ⟨⟨hP, hD, hS⟩, ⟨hM, hl, hvr, hvs⟩, ⟨⟨hn0, had0⟩, hsA⟩, hcn, hsn, hcl, hsl, hlc, hls⟩ := hpt
  refine lv_iadd hx hb hdg ?_
  rw [zI_add]
  exact k ad H locs cells slots ls ⟨⟨hP, hD, hS⟩, ⟨hM, hl, hvr, (List.forall_mem_cons.mpr ⟨hz, (fun v hv => hvs v (List.mem_cons_of_mem _ (List.mem_cons_of_mem _ hv)))⟩)⟩, ⟨⟨hn0, had0⟩, hsA⟩, hcn, hsn, hcl, hsl, hlc, hls⟩
theorem G_isub (hG : Mach own cc nL mn R ret nt L xs Rt G) {x y : Int} (hdg : decode cc pc = .ok (.isub, 1)) (hz : inR (x - y)) (k : G (pc + 1) (.inl (x - y) :: sv) ρ M) : G pc (.inl y :: .inl x :: sv) ρ M := by
  obtain ⟨p, l, e, s, m, args, below, meth, c, dC, dI, cI, cC, cS, sA, A, n0, S0, ad0, Q, ⟨hx, hb, hml, hown, hts, hK, hA, hSt, hmn, hnL, hRI, hRV⟩, rfl⟩ := hG
  intro ad H locs cells slots ls hpt
  obtain ⟨⟨hP, hD, hS⟩, ⟨hM, hl, hvr, hvs⟩, ⟨⟨hn0, had0⟩, hsA⟩, hcn, hsn, hcl, hsl, hlc, hls⟩ := hpt
  refine lv_isub hx hb hdg ?_
  rw [zI_sub]
  exact k ad H locs cells slots ls ⟨⟨hP, hD, hS⟩, ⟨hM, hl, hvr, (List.forall_mem_cons.mpr ⟨hz, (fun v hv => hvs v (List.mem_cons_of_mem _ (List.mem_cons_of_mem _ hv)))⟩)⟩, ⟨⟨hn0, had0⟩, hsA⟩, hcn, hsn, hcl, hsl, hlc, hls⟩
theorem G_imul (hG : Mach own cc nL mn R ret nt L xs Rt G) {x y : Int} (hdg : decode cc pc = .ok (.imul, 1)) (hz : inR (x * y)) (k : G (pc + 1) (.inl (x * y) :: sv) ρ M) : G pc (.inl y :: .inl x :: sv) ρ M := by
  obtain ⟨p, l, e, s, m, args, below, meth, c, dC, dI, cI, cC, cS, sA, A, n0, S0, ad0, Q, ⟨hx, hb, hml, hown, hts, hK, hA, hSt, hmn, hnL, hRI, hRV⟩, rfl⟩ := hG
  intro ad H locs cells slots ls hpt
  obtain ⟨⟨hP, hD, hS⟩, ⟨hM, hl, hvr, hvs⟩, ⟨⟨hn0, had0⟩, hsA⟩, hcn, hsn, hcl, hsl, hlc, hls⟩ := hpt
  refine lv_imul hx hb hdg ?_
  rw [zI_mul]
  exact k ad H locs cells slots ls ⟨⟨hP, hD, hS⟩, ⟨hM, hl, hvr, (List.forall_mem_cons.mpr ⟨hz, (fun v hv => hvs v (List.mem_cons_of_mem _ (List.mem_cons_of_mem _ hv)))⟩)⟩, ⟨⟨hn0, had0⟩, hsA⟩, hcn, hsn, hcl, hsl, hlc, hls⟩
theorem G_idiv (hG : Mach own cc nL mn R ret nt L xs Rt G) {x y : Int} (hdg : decode cc pc = .ok (.idiv, 1)) (hy : y ≠ 0) (hz : inR (x.tdiv y)) (k : G (pc + 1) (.inl (x.tdiv y) :: sv) ρ M) : G pc (.inl y :: .inl x :: sv) ρ M := by
  obtain ⟨p, l, e, s, m, args, below, meth, c, dC, dI, cI, cC, cS, sA, A, n0, S0, ad0, Q, ⟨hx, hb, hml, hown, hts, hK, hA, hSt, hmn, hnL, hRI, hRV⟩, rfl⟩ := hG
  intro ad H locs cells slots ls hpt
  obtain ⟨⟨hP, hD, hS⟩, ⟨hM, hl, hvr, hvs⟩, ⟨⟨hn0, had0⟩, hsA⟩, hcn, hsn, hcl, hsl, hlc, hls⟩ := hpt
  have hxr : inR x := (hvs _ (List.mem_cons_of_mem _ List.mem_cons_self))
  have hyr : inR y := (hvs _ List.mem_cons_self)
  refine lv_idiv hx hb hdg (fun h => hy ((zI_inj hyr inR_0).mp (h.trans zI_0.symm))) ?_
  rw [zI_div hxr hyr]
  exact k ad H locs cells slots ls ⟨⟨hP, hD, hS⟩, ⟨hM, hl, hvr, (List.forall_mem_cons.mpr ⟨hz, (fun v hv => hvs v (List.mem_cons_of_mem _ (List.mem_cons_of_mem _ hv)))⟩)⟩, ⟨⟨hn0, had0⟩, hsA⟩, hcn, hsn, hcl, hsl, hlc, hls⟩
theorem G_irem (hG : Mach own cc nL mn R ret nt L xs Rt G) {x y : Int} (hdg : decode cc pc = .ok (.irem, 1)) (hy : y ≠ 0) (hz : inR (x.tmod y)) (k : G (pc + 1) (.inl (x.tmod y) :: sv) ρ M) : G pc (.inl y :: .inl x :: sv) ρ M := by
  obtain ⟨p, l, e, s, m, args, below, meth, c, dC, dI, cI, cC, cS, sA, A, n0, S0, ad0, Q, ⟨hx, hb, hml, hown, hts, hK, hA, hSt, hmn, hnL, hRI, hRV⟩, rfl⟩ := hG
  intro ad H locs cells slots ls hpt
  obtain ⟨⟨hP, hD, hS⟩, ⟨hM, hl, hvr, hvs⟩, ⟨⟨hn0, had0⟩, hsA⟩, hcn, hsn, hcl, hsl, hlc, hls⟩ := hpt
  have hxr : inR x := (hvs _ (List.mem_cons_of_mem _ List.mem_cons_self))
  have hyr : inR y := (hvs _ List.mem_cons_self)
  refine lv_irem hx hb hdg (fun h => hy ((zI_inj hyr inR_0).mp (h.trans zI_0.symm))) ?_
  rw [zI_rem hxr hyr]
  exact k ad H locs cells slots ls ⟨⟨hP, hD, hS⟩, ⟨hM, hl, hvr, (List.forall_mem_cons.mpr ⟨hz, (fun v hv => hvs v (List.mem_cons_of_mem _ (List.mem_cons_of_mem _ hv)))⟩)⟩, ⟨⟨hn0, had0⟩, hsA⟩, hcn, hsn, hcl, hsl, hlc, hls⟩
theorem G_ineg (hG : Mach own cc nL mn R ret nt L xs Rt G) {x : Int} (hdg : decode cc pc = .ok (.ineg, 1)) (hz : inR (-x)) (k : G (pc + 1) (.inl (-x) :: sv) ρ M) : G pc (.inl x :: sv) ρ M := by
  obtain ⟨p, l, e, s, m, args, below, meth, c, dC, dI, cI, cC, cS, sA, A, n0, S0, ad0, Q, ⟨hx, hb, hml, hown, hts, hK, hA, hSt, hmn, hnL, hRI, hRV⟩, rfl⟩ := hG
  intro ad H locs cells slots ls hpt
  obtain ⟨⟨hP, hD, hS⟩, ⟨hM, hl, hvr, hvs⟩, ⟨⟨hn0, had0⟩, hsA⟩, hcn, hsn, hcl, hsl, hlc, hls⟩ := hpt
  refine lv_ineg hx hb hdg ?_
  rw [zI_neg]
  exact k ad H locs cells slots ls ⟨⟨hP, hD, hS⟩, ⟨hM, hl, hvr, (List.forall_mem_cons.mpr ⟨hz, (fun v hv => hvs v (List.mem_cons_of_mem _ hv))⟩)⟩, ⟨⟨hn0, had0⟩, hsA⟩, hcn, hsn, hcl, hsl, hlc, hls⟩
theorem G_if_eq (hG : Mach own cc nL mn R ret nt L xs Rt G) {x off : Int} {tgt : Nat} (hdg : decode cc pc = .ok (.ifCond .eq off, 3)) (ht : (pc : Int) + off = (tgt : Int)) (kt : x = 0 → G tgt sv ρ M) (kf : ¬ (x = 0) → G (pc + 3) sv ρ M) : G pc (.inl x :: sv) ρ M := by
  obtain ⟨p, l, e, s, m, args, below, meth, c, dC, dI, cI, cC, cS, sA, A, n0, S0, ad0, Q, ⟨hx, hb, hml, hown, hts, hK, hA, hSt, hmn, hnL, hRI, hRV⟩, rfl⟩ := hG
  intro ad H locs cells slots ls hpt
  obtain ⟨⟨hP, hD, hS⟩, ⟨hM, hl, hvr, hvs⟩, ⟨⟨hn0, had0⟩, hsA⟩, hcn, hsn, hcl, hsl, hlc, hls⟩ := hpt
  have hxr : inR x := (hvs _ List.mem_cons_self)
  have hc := (zI_inj hxr inR_0)
  rw [zI_0] at hc
  exact lv_if_eq hx hb hdg ht (fun h => kt (hc.mp h) ad H locs cells slots ls ⟨⟨hP, hD, hS⟩, ⟨hM, hl, hvr, (fun v hv => hvs v (List.mem_cons_of_mem _ hv))⟩, ⟨⟨hn0, had0⟩, hsA⟩, hcn, hsn, hcl, hsl, hlc, hls⟩) (fun h => kf (fun h2 => h (hc.mpr h2)) ad H locs cells slots ls ⟨⟨hP, hD, hS⟩, ⟨hM, hl, hvr, (fun v hv => hvs v (List.mem_cons_of_mem _ hv))⟩, ⟨⟨hn0, had0⟩, hsA⟩, hcn, hsn, hcl, hsl, hlc, hls⟩)
theorem G_if_ne (hG : Mach own cc nL mn R ret nt L xs Rt G) {x off : Int} {tgt : Nat} (hdg : decode cc pc = .ok (.ifCond .ne off, 3)) (ht : (pc : Int) + off = (tgt : Int)) (kt : x ≠ 0 → G tgt sv ρ M) (kf : ¬ (x ≠ 0) → G (pc + 3) sv ρ M) : G pc (.inl x :: sv) ρ M := by
  obtain ⟨p, l, e, s, m, args, below, meth, c, dC, dI, cI, cC, cS, sA, A, n0, S0, ad0, Q, ⟨hx, hb, hml, hown, hts, hK, hA, hSt, hmn, hnL, hRI, hRV⟩, rfl⟩ := hG
  intro ad H locs cells slots ls hpt
  obtain ⟨⟨hP, hD, hS⟩, ⟨hM, hl, hvr, hvs⟩, ⟨⟨hn0, had0⟩, hsA⟩, hcn, hsn, hcl, hsl, hlc, hls⟩ := hpt
  have hxr : inR x := (hvs _ List.mem_cons_self)
  have hc := (not_congr (zI_inj hxr inR_0))
  rw [zI_0] at hc
  exact lv_if_ne hx hb hdg ht (fun h => kt (hc.mp h) ad H locs cells slots ls ⟨⟨hP, hD, hS⟩, ⟨hM, hl, hvr, (fun v hv => hvs v (List.mem_cons_of_mem _ hv))⟩, ⟨⟨hn0, had0⟩, hsA⟩, hcn, hsn, hcl, hsl, hlc, hls⟩) (fun h => kf (fun h2 => hc.mpr h2 h) ad H locs cells slots ls ⟨⟨hP, hD, hS⟩, ⟨hM, hl, hvr, (fun v hv => hvs v (List.mem_cons_of_mem _ hv))⟩, ⟨⟨hn0, had0⟩, hsA⟩, hcn, hsn, hcl, hsl, hlc, hls⟩)
theorem G_if_lt (hG : Mach own cc nL mn R ret nt L xs Rt G) {x off : Int} {tgt : Nat} (hdg : decode cc pc = .ok (.ifCond .lt off, 3)) (ht : (pc : Int) + off = (tgt : Int)) (kt : x < 0 → G tgt sv ρ M) (kf : ¬ (x < 0) → G (pc + 3) sv ρ M) : G pc (.inl x :: sv) ρ M := by
  obtain ⟨p, l, e, s, m, args, below, meth, c, dC, dI, cI, cC, cS, sA, A, n0, S0, ad0, Q, ⟨hx, hb, hml, hown, hts, hK, hA, hSt, hmn, hnL, hRI, hRV⟩, rfl⟩ := hG
  intro ad H locs cells slots ls hpt
  obtain ⟨⟨hP, hD, hS⟩, ⟨hM, hl, hvr, hvs⟩, ⟨⟨hn0, had0⟩, hsA⟩, hcn, hsn, hcl, hsl, hlc, hls⟩ := hpt
  have hxr : inR x := (hvs _ List.mem_cons_self)
  have hc := (zI_lt hxr inR_0)
  rw [zI_0] at hc
  exact lv_if_lt hx hb hdg ht (fun h => kt (hc.mp h) ad H locs cells slots ls ⟨⟨hP, hD, hS⟩, ⟨hM, hl, hvr, (fun v hv => hvs v (List.mem_cons_of_mem _ hv))⟩, ⟨⟨hn0, had0⟩, hsA⟩, hcn, hsn, hcl, hsl, hlc, hls⟩) (fun h => kf (fun h2 => h (hc.mpr h2)) ad H locs cells slots ls ⟨⟨hP, hD, hS⟩, ⟨hM, hl, hvr, (fun v hv => hvs v (List.mem_cons_of_mem _ hv))⟩, ⟨⟨hn0, had0⟩, hsA⟩, hcn, hsn, hcl, hsl, hlc, hls⟩)
theorem G_if_ge (hG : Mach own cc nL mn R ret nt L xs Rt G) {x off : Int} {tgt : Nat} (hdg : decode cc pc = .ok (.ifCond .ge off, 3)) (ht : (pc : Int) + off = (tgt : Int)) (kt : 0 ≤ x → G tgt sv ρ M) (kf : ¬ (0 ≤ x) → G (pc + 3) sv ρ M) : G pc (.inl x :: sv) ρ M := by
  obtain ⟨p, l, e, s, m, args, below, meth, c, dC, dI, cI, cC, cS, sA, A, n0, S0, ad0, Q, ⟨hx, hb, hml, hown, hts, hK, hA, hSt, hmn, hnL, hRI, hRV⟩, rfl⟩ := hG
  intro ad H locs cells slots ls hpt
  obtain ⟨⟨hP, hD, hS⟩, ⟨hM, hl, hvr, hvs⟩, ⟨⟨hn0, had0⟩, hsA⟩, hcn, hsn, hcl, hsl, hlc, hls⟩ := hpt
  have hxr : inR x := (hvs _ List.mem_cons_self)
  have hc := (zI_le inR_0 hxr)
  rw [zI_0] at hc
  exact lv_if_ge hx hb hdg ht (fun h => kt (hc.mp h) ad H locs cells slots ls ⟨⟨hP, hD, hS⟩, ⟨hM, hl, hvr, (fun v hv => hvs v (List.mem_cons_of_mem _ hv))⟩, ⟨⟨hn0, had0⟩, hsA⟩, hcn, hsn, hcl, hsl, hlc, hls⟩) (fun h => kf (fun h2 => h (hc.mpr h2)) ad H locs cells slots ls ⟨⟨hP, hD, hS⟩, ⟨hM, hl, hvr, (fun v hv => hvs v (List.mem_cons_of_mem _ hv))⟩, ⟨⟨hn0, had0⟩, hsA⟩, hcn, hsn, hcl, hsl, hlc, hls⟩)
theorem G_if_gt (hG : Mach own cc nL mn R ret nt L xs Rt G) {x off : Int} {tgt : Nat} (hdg : decode cc pc = .ok (.ifCond .gt off, 3)) (ht : (pc : Int) + off = (tgt : Int)) (kt : 0 < x → G tgt sv ρ M) (kf : ¬ (0 < x) → G (pc + 3) sv ρ M) : G pc (.inl x :: sv) ρ M := by
  obtain ⟨p, l, e, s, m, args, below, meth, c, dC, dI, cI, cC, cS, sA, A, n0, S0, ad0, Q, ⟨hx, hb, hml, hown, hts, hK, hA, hSt, hmn, hnL, hRI, hRV⟩, rfl⟩ := hG
  intro ad H locs cells slots ls hpt
  obtain ⟨⟨hP, hD, hS⟩, ⟨hM, hl, hvr, hvs⟩, ⟨⟨hn0, had0⟩, hsA⟩, hcn, hsn, hcl, hsl, hlc, hls⟩ := hpt
  have hxr : inR x := (hvs _ List.mem_cons_self)
  have hc := (zI_lt inR_0 hxr)
  rw [zI_0] at hc
  exact lv_if_gt hx hb hdg ht (fun h => kt (hc.mp h) ad H locs cells slots ls ⟨⟨hP, hD, hS⟩, ⟨hM, hl, hvr, (fun v hv => hvs v (List.mem_cons_of_mem _ hv))⟩, ⟨⟨hn0, had0⟩, hsA⟩, hcn, hsn, hcl, hsl, hlc, hls⟩) (fun h => kf (fun h2 => h (hc.mpr h2)) ad H locs cells slots ls ⟨⟨hP, hD, hS⟩, ⟨hM, hl, hvr, (fun v hv => hvs v (List.mem_cons_of_mem _ hv))⟩, ⟨⟨hn0, had0⟩, hsA⟩, hcn, hsn, hcl, hsl, hlc, hls⟩)
theorem G_if_le (hG : Mach own cc nL mn R ret nt L xs Rt G) {x off : Int} {tgt : Nat} (hdg : decode cc pc = .ok (.ifCond .le off, 3)) (ht : (pc : Int) + off = (tgt : Int)) (kt : x ≤ 0 → G tgt sv ρ M) (kf : ¬ (x ≤ 0) → G (pc + 3) sv ρ M) : G pc (.inl x :: sv) ρ M := by
  obtain ⟨p, l, e, s, m, args, below, meth, c, dC, dI, cI, cC, cS, sA, A, n0, S0, ad0, Q, ⟨hx, hb, hml, hown, hts, hK, hA, hSt, hmn, hnL, hRI, hRV⟩, rfl⟩ := hG
  intro ad H locs cells slots ls hpt
  obtain ⟨⟨hP, hD, hS⟩, ⟨hM, hl, hvr, hvs⟩, ⟨⟨hn0, had0⟩, hsA⟩, hcn, hsn, hcl, hsl, hlc, hls⟩ := hpt
  have hxr : inR x := (hvs _ List.mem_cons_self)
  have hc := (zI_le hxr inR_0)
  rw [zI_0] at hc
  exact lv_if_le hx hb hdg ht (fun h => kt (hc.mp h) ad H locs cells slots ls ⟨⟨hP, hD, hS⟩, ⟨hM, hl, hvr, (fun v hv => hvs v (List.mem_cons_of_mem _ hv))⟩, ⟨⟨hn0, had0⟩, hsA⟩, hcn, hsn, hcl, hsl, hlc, hls⟩) (fun h => kf (fun h2 => h (hc.mpr h2)) ad H locs cells slots ls ⟨⟨hP, hD, hS⟩, ⟨hM, hl, hvr, (fun v hv => hvs v (List.mem_cons_of_mem _ hv))⟩, ⟨⟨hn0, had0⟩, hsA⟩, hcn, hsn, hcl, hsl, hlc, hls⟩)
theorem G_icmp_eq (hG : Mach own cc nL mn R ret nt L xs Rt G) {x y off : Int} {tgt : Nat} (hdg : decode cc pc = .ok (.if_icmp .eq off, 3)) (ht : (pc : Int) + off = (tgt : Int)) (kt : x = y → G tgt sv ρ M) (kf : ¬ (x = y) → G (pc + 3) sv ρ M) : G pc (.inl y :: .inl x :: sv) ρ M := by
  obtain ⟨p, l, e, s, m, args, below, meth, c, dC, dI, cI, cC, cS, sA, A, n0, S0, ad0, Q, ⟨hx, hb, hml, hown, hts, hK, hA, hSt, hmn, hnL, hRI, hRV⟩, rfl⟩ := hG
  intro ad H locs cells slots ls hpt
  obtain ⟨⟨hP, hD, hS⟩, ⟨hM, hl, hvr, hvs⟩, ⟨⟨hn0, had0⟩, hsA⟩, hcn, hsn, hcl, hsl, hlc, hls⟩ := hpt
  have hyr : inR y := (hvs _ List.mem_cons_self)
  have hxr : inR x := (hvs _ (List.mem_cons_of_mem _ List.mem_cons_self))
  have hc := (zI_inj hxr hyr)
  exact lv_icmp_eq hx hb hdg ht (fun h => kt (hc.mp h) ad H locs cells slots ls ⟨⟨hP, hD, hS⟩, ⟨hM, hl, hvr, (fun v hv => hvs v (List.mem_cons_of_mem _ (List.mem_cons_of_mem _ hv)))⟩, ⟨⟨hn0, had0⟩, hsA⟩, hcn, hsn, hcl, hsl, hlc, hls⟩) (fun h => kf (fun h2 => h (hc.mpr h2)) ad H locs cells slots ls ⟨⟨hP, hD, hS⟩, ⟨hM, hl, hvr, (fun v hv => hvs v (List.mem_cons_of_mem _ (List.mem_cons_of_mem _ hv)))⟩, ⟨⟨hn0, had0⟩, hsA⟩, hcn, hsn, hcl, hsl, hlc, hls⟩)
theorem G_icmp_ne (hG : Mach own cc nL mn R ret nt L xs Rt G) {x y off : Int} {tgt : Nat} (hdg : decode cc pc = .ok (.if_icmp .ne off, 3)) (ht : (pc : Int) + off = (tgt : Int)) (kt : x ≠ y → G tgt sv ρ M) (kf : ¬ (x ≠ y) → G (pc + 3) sv ρ M) : G pc (.inl y :: .inl x :: sv) ρ M := by
  obtain ⟨p, l, e, s, m, args, below, meth, c, dC, dI, cI, cC, cS, sA, A, n0, S0, ad0, Q, ⟨hx, hb, hml, hown, hts, hK, hA, hSt, hmn, hnL, hRI, hRV⟩, rfl⟩ := hG
  intro ad H locs cells slots ls hpt
  obtain ⟨⟨hP, hD, hS⟩, ⟨hM, hl, hvr, hvs⟩, ⟨⟨hn0, had0⟩, hsA⟩, hcn, hsn, hcl, hsl, hlc, hls⟩ := hpt
  have hyr : inR y := (hvs _ List.mem_cons_self)
  have hxr : inR x := (hvs _ (List.mem_cons_of_mem _ List.mem_cons_self))
  have hc := (not_congr (zI_inj hxr hyr))
  exact lv_icmp_ne hx hb hdg ht (fun h => kt (hc.mp h) ad H locs cells slots ls ⟨⟨hP, hD, hS⟩, ⟨hM, hl, hvr, (fun v hv => hvs v (List.mem_cons_of_mem _ (List.mem_cons_of_mem _ hv)))⟩, ⟨⟨hn0, had0⟩, hsA⟩, hcn, hsn, hcl, hsl, hlc, hls⟩) (fun h => kf (fun h2 => hc.mpr h2 h) ad H locs cells slots ls ⟨⟨hP, hD, hS⟩, ⟨hM, hl, hvr, (fun v hv => hvs v (List.mem_cons_of_mem _ (List.mem_cons_of_mem _ hv)))⟩, ⟨⟨hn0, had0⟩, hsA⟩, hcn, hsn, hcl, hsl, hlc, hls⟩)
theorem G_icmp_lt (hG : Mach own cc nL mn R ret nt L xs Rt G) {x y off : Int} {tgt : Nat} (hdg : decode cc pc = .ok (.if_icmp .lt off, 3)) (ht : (pc : Int) + off = (tgt : Int)) (kt : x < y → G tgt sv ρ M) (kf : ¬ (x < y) → G (pc + 3) sv ρ M) : G pc (.inl y :: .inl x :: sv) ρ M := by
  obtain ⟨p, l, e, s, m, args, below, meth, c, dC, dI, cI, cC, cS, sA, A, n0, S0, ad0, Q, ⟨hx, hb, hml, hown, hts, hK, hA, hSt, hmn, hnL, hRI, hRV⟩, rfl⟩ := hG
  intro ad H locs cells slots ls hpt
  obtain ⟨⟨hP, hD, hS⟩, ⟨hM, hl, hvr, hvs⟩, ⟨⟨hn0, had0⟩, hsA⟩, hcn, hsn, hcl, hsl, hlc, hls⟩ := hpt
  have hyr : inR y := (hvs _ List.mem_cons_self)
  have hxr : inR x := (hvs _ (List.mem_cons_of_mem _ List.mem_cons_self))
  have hc := (zI_lt hxr hyr)
  exact lv_icmp_lt hx hb hdg ht (fun h => kt (hc.mp h) ad H locs cells slots ls ⟨⟨hP, hD, hS⟩, ⟨hM, hl, hvr, (fun v hv => hvs v (List.mem_cons_of_mem _ (List.mem_cons_of_mem _ hv)))⟩, ⟨⟨hn0, had0⟩, hsA⟩, hcn, hsn, hcl, hsl, hlc, hls⟩) (fun h => kf (fun h2 => h (hc.mpr h2)) ad H locs cells slots ls ⟨⟨hP, hD, hS⟩, ⟨hM, hl, hvr, (fun v hv => hvs v (List.mem_cons_of_mem _ (List.mem_cons_of_mem _ hv)))⟩, ⟨⟨hn0, had0⟩, hsA⟩, hcn, hsn, hcl, hsl, hlc, hls⟩)
theorem G_icmp_ge (hG : Mach own cc nL mn R ret nt L xs Rt G) {x y off : Int} {tgt : Nat} (hdg : decode cc pc = .ok (.if_icmp .ge off, 3)) (ht : (pc : Int) + off = (tgt : Int)) (kt : y ≤ x → G tgt sv ρ M) (kf : ¬ (y ≤ x) → G (pc + 3) sv ρ M) : G pc (.inl y :: .inl x :: sv) ρ M := by
  obtain ⟨p, l, e, s, m, args, below, meth, c, dC, dI, cI, cC, cS, sA, A, n0, S0, ad0, Q, ⟨hx, hb, hml, hown, hts, hK, hA, hSt, hmn, hnL, hRI, hRV⟩, rfl⟩ := hG
  intro ad H locs cells slots ls hpt
  obtain ⟨⟨hP, hD, hS⟩, ⟨hM, hl, hvr, hvs⟩, ⟨⟨hn0, had0⟩, hsA⟩, hcn, hsn, hcl, hsl, hlc, hls⟩ := hpt
  have hyr : inR y := (hvs _ List.mem_cons_self)
  have hxr : inR x := (hvs _ (List.mem_cons_of_mem _ List.mem_cons_self))
  have hc := (zI_le hyr hxr)
  exact lv_icmp_ge hx hb hdg ht (fun h => kt (hc.mp h) ad H locs cells slots ls ⟨⟨hP, hD, hS⟩, ⟨hM, hl, hvr, (fun v hv => hvs v (List.mem_cons_of_mem _ (List.mem_cons_of_mem _ hv)))⟩, ⟨⟨hn0, had0⟩, hsA⟩, hcn, hsn, hcl, hsl, hlc, hls⟩) (fun h => kf (fun h2 => h (hc.mpr h2)) ad H locs cells slots ls ⟨⟨hP, hD, hS⟩, ⟨hM, hl, hvr, (fun v hv => hvs v (List.mem_cons_of_mem _ (List.mem_cons_of_mem _ hv)))⟩, ⟨⟨hn0, had0⟩, hsA⟩, hcn, hsn, hcl, hsl, hlc, hls⟩)
theorem G_icmp_gt (hG : Mach own cc nL mn R ret nt L xs Rt G) {x y off : Int} {tgt : Nat} (hdg : decode cc pc = .ok (.if_icmp .gt off, 3)) (ht : (pc : Int) + off = (tgt : Int)) (kt : y < x → G tgt sv ρ M) (kf : ¬ (y < x) → G (pc + 3) sv ρ M) : G pc (.inl y :: .inl x :: sv) ρ M := by
  obtain ⟨p, l, e, s, m, args, below, meth, c, dC, dI, cI, cC, cS, sA, A, n0, S0, ad0, Q, ⟨hx, hb, hml, hown, hts, hK, hA, hSt, hmn, hnL, hRI, hRV⟩, rfl⟩ := hG
  intro ad H locs cells slots ls hpt
  obtain ⟨⟨hP, hD, hS⟩, ⟨hM, hl, hvr, hvs⟩, ⟨⟨hn0, had0⟩, hsA⟩, hcn, hsn, hcl, hsl, hlc, hls⟩ := hpt
  have hyr : inR y := (hvs _ List.mem_cons_self)
  have hxr : inR x := (hvs _ (List.mem_cons_of_mem _ List.mem_cons_self))
  have hc := (zI_lt hyr hxr)
  exact lv_icmp_gt hx hb hdg ht (fun h => kt (hc.mp h) ad H locs cells slots ls ⟨⟨hP, hD, hS⟩, ⟨hM, hl, hvr, (fun v hv => hvs v (List.mem_cons_of_mem _ (List.mem_cons_of_mem _ hv)))⟩, ⟨⟨hn0, had0⟩, hsA⟩, hcn, hsn, hcl, hsl, hlc, hls⟩) (fun h => kf (fun h2 => h (hc.mpr h2)) ad H locs cells slots ls ⟨⟨hP, hD, hS⟩, ⟨hM, hl, hvr, (fun v hv => hvs v (List.mem_cons_of_mem _ (List.mem_cons_of_mem _ hv)))⟩, ⟨⟨hn0, had0⟩, hsA⟩, hcn, hsn, hcl, hsl, hlc, hls⟩)
theorem G_icmp_le (hG : Mach own cc nL mn R ret nt L xs Rt G) {x y off : Int} {tgt : Nat} (hdg : decode cc pc = .ok (.if_icmp .le off, 3)) (ht : (pc : Int) + off = (tgt : Int)) (kt : x ≤ y → G tgt sv ρ M) (kf : ¬ (x ≤ y) → G (pc + 3) sv ρ M) : G pc (.inl y :: .inl x :: sv) ρ M := by
  obtain ⟨p, l, e, s, m, args, below, meth, c, dC, dI, cI, cC, cS, sA, A, n0, S0, ad0, Q, ⟨hx, hb, hml, hown, hts, hK, hA, hSt, hmn, hnL, hRI, hRV⟩, rfl⟩ := hG
  intro ad H locs cells slots ls hpt
  obtain ⟨⟨hP, hD, hS⟩, ⟨hM, hl, hvr, hvs⟩, ⟨⟨hn0, had0⟩, hsA⟩, hcn, hsn, hcl, hsl, hlc, hls⟩ := hpt
  have hyr : inR y := (hvs _ List.mem_cons_self)
  have hxr : inR x := (hvs _ (List.mem_cons_of_mem _ List.mem_cons_self))
  have hc := (zI_le hxr hyr)
  exact lv_icmp_le hx hb hdg ht (fun h => kt (hc.mp h) ad H locs cells slots ls ⟨⟨hP, hD, hS⟩, ⟨hM, hl, hvr, (fun v hv => hvs v (List.mem_cons_of_mem _ (List.mem_cons_of_mem _ hv)))⟩, ⟨⟨hn0, had0⟩, hsA⟩, hcn, hsn, hcl, hsl, hlc, hls⟩) (fun h => kf (fun h2 => h (hc.mpr h2)) ad H locs cells slots ls ⟨⟨hP, hD, hS⟩, ⟨hM, hl, hvr, (fun v hv => hvs v (List.mem_cons_of_mem _ (List.mem_cons_of_mem _ hv)))⟩, ⟨⟨hn0, had0⟩, hsA⟩, hcn, hsn, hcl, hsl, hlc, hls⟩)
theorem G_goto (hG : Mach own cc nL mn R ret nt L xs Rt G) {off : Int} {tgt : Nat} (hdg : decode cc pc = .ok (.goto off, 3)) (ht : (pc : Int) + off = (tgt : Int)) (k : G tgt sv ρ M) : G pc sv ρ M := by
  obtain ⟨p, l, e, s, m, args, below, meth, c, dC, dI, cI, cC, cS, sA, A, n0, S0, ad0, Q, ⟨hx, hb, hml, hown, hts, hK, hA, hSt, hmn, hnL, hRI, hRV⟩, rfl⟩ := hG
  intro ad H locs cells slots ls hpt
  obtain ⟨⟨hP, hD, hS⟩, ⟨hM, hl, hvr, hvs⟩, ⟨⟨hn0, had0⟩, hsA⟩, hcn, hsn, hcl, hsl, hlc, hls⟩ := hpt
  exact lv_goto hx hb hdg ht (k ad H locs cells slots ls ⟨⟨hP, hD, hS⟩, ⟨hM, hl, hvr, hvs⟩, ⟨⟨hn0, had0⟩, hsA⟩, hcn, hsn, hcl, hsl, hlc, hls⟩)
theorem G_ifnull (hG : Mach own cc nL mn R ret nt L xs Rt G) {r : Option Nat} {off : Int} {tgt : Nat} (hdg : decode cc pc = .ok (.ifnull off, 3)) (ht : (pc : Int) + off = (tgt : Int)) (kt : r = none → G tgt sv ρ M) (kf : r ≠ none → G (pc + 3) sv ρ M) : G pc (.inr r :: sv) ρ M := by
  obtain ⟨p, l, e, s, m, args, below, meth, c, dC, dI, cI, cC, cS, sA, A, n0, S0, ad0, Q, ⟨hx, hb, hml, hown, hts, hK, hA, hSt, hmn, hnL, hRI, hRV⟩, rfl⟩ := hG
  intro ad H locs cells slots ls hpt
  obtain ⟨⟨hP, hD, hS⟩, ⟨hM, hl, hvr, hvs⟩, ⟨⟨hn0, had0⟩, hsA⟩, hcn, hsn, hcl, hsl, hlc, hls⟩ := hpt
  cases r with
  | none => exact lv_ifnullN hx hb hdg ht (kt rfl ad H locs cells slots ls ⟨⟨hP, hD, hS⟩, ⟨hM, hl, hvr, (fun v hv => hvs v (List.mem_cons_of_mem _ hv))⟩, ⟨⟨hn0, had0⟩, hsA⟩, hcn, hsn, hcl, hsl, hlc, hls⟩)
  | some q => exact lv_ifnull hx hb hdg (kf (fun h => by cases h) ad H locs cells slots ls ⟨⟨hP, hD, hS⟩, ⟨hM, hl, hvr, (fun v hv => hvs v (List.mem_cons_of_mem _ hv))⟩, ⟨⟨hn0, had0⟩, hsA⟩, hcn, hsn, hcl, hsl, hlc, hls⟩)
theorem G_pop (hG : Mach own cc nL mn R ret nt L xs Rt G) {v : Vv} (hdg : decode cc pc = .ok (.pop, 1)) (k : G (pc + 1) sv ρ M) : G pc (v :: sv) ρ M := by
  obtain ⟨p, l, e, s, m, args, below, meth, c, dC, dI, cI, cC, cS, sA, A, n0, S0, ad0, Q, ⟨hx, hb, hml, hown, hts, hK, hA, hSt, hmn, hnL, hRI, hRV⟩, rfl⟩ := hG
  intro ad H locs cells slots ls hpt
  obtain ⟨⟨hP, hD, hS⟩, ⟨hM, hl, hvr, hvs⟩, ⟨⟨hn0, had0⟩, hsA⟩, hcn, hsn, hcl, hsl, hlc, hls⟩ := hpt
  exact lv_pop hx hb hdg (cv_cat ad v) (k ad H locs cells slots ls ⟨⟨hP, hD, hS⟩, ⟨hM, hl, hvr, (fun v hv => hvs v (List.mem_cons_of_mem _ hv))⟩, ⟨⟨hn0, had0⟩, hsA⟩, hcn, hsn, hcl, hsl, hlc, hls⟩)
theorem G_dup (hG : Mach own cc nL mn R ret nt L xs Rt G) {v : Vv} (hdg : decode cc pc = .ok (.dup, 1)) (k : G (pc + 1) (v :: v :: sv) ρ M) : G pc (v :: sv) ρ M := by
  obtain ⟨p, l, e, s, m, args, below, meth, c, dC, dI, cI, cC, cS, sA, A, n0, S0, ad0, Q, ⟨hx, hb, hml, hown, hts, hK, hA, hSt, hmn, hnL, hRI, hRV⟩, rfl⟩ := hG
  intro ad H locs cells slots ls hpt
  obtain ⟨⟨hP, hD, hS⟩, ⟨hM, hl, hvr, hvs⟩, ⟨⟨hn0, had0⟩, hsA⟩, hcn, hsn, hcl, hsl, hlc, hls⟩ := hpt
  exact lv_dup hx hb hdg (cv_cat ad v) (k ad H locs cells slots ls ⟨⟨hP, hD, hS⟩, ⟨hM, hl, hvr, (List.forall_mem_cons.mpr ⟨(hvs _ List.mem_cons_self), hvs⟩)⟩, ⟨⟨hn0, had0⟩, hsA⟩, hcn, hsn, hcl, hsl, hlc, hls⟩)
theorem G_dup2 (hG : Mach own cc nL mn R ret nt L xs Rt G) {v w : Vv} (hdg : decode cc pc = .ok (.dup2, 1)) (k : G (pc + 1) (v :: w :: v :: w :: sv) ρ M) : G pc (v :: w :: sv) ρ M := by
  obtain ⟨p, l, e, s, m, args, below, meth, c, dC, dI, cI, cC, cS, sA, A, n0, S0, ad0, Q, ⟨hx, hb, hml, hown, hts, hK, hA, hSt, hmn, hnL, hRI, hRV⟩, rfl⟩ := hG
  intro ad H locs cells slots ls hpt
  obtain ⟨⟨hP, hD, hS⟩, ⟨hM, hl, hvr, hvs⟩, ⟨⟨hn0, had0⟩, hsA⟩, hcn, hsn, hcl, hsl, hlc, hls⟩ := hpt
  exact lv_dup2_11 hx hb hdg (cv_cat ad v) (cv_cat ad w) (k ad H locs cells slots ls ⟨⟨hP, hD, hS⟩, ⟨hM, hl, hvr, (List.forall_mem_cons.mpr ⟨(hvs _ List.mem_cons_self), (List.forall_mem_cons.mpr ⟨(hvs _ (List.mem_cons_of_mem _ List.mem_cons_self)), hvs⟩)⟩)⟩, ⟨⟨hn0, had0⟩, hsA⟩, hcn, hsn, hcl, hsl, hlc, hls⟩)
theorem G_tab (hG : Mach own cc nL mn R ret nt L xs Rt G) {x dflt lo hi : Int} {offs : Array Int} {len : Nat} (hdg : decode cc pc = .ok (.tableswitch dflt lo hi offs, len)) (tgt : Int → Nat) (dt : Nat) (hd : (pc : Int) + dflt = (dt : Int)) (ho : ∀ z : Int, lo ≤ z → z ≤ hi → ∃ off, offs[(z - lo).toNat]? = some off ∧ (pc : Int) + off = (tgt z : Int)) (ki : lo ≤ x → x ≤ hi → G (tgt x) sv ρ M) (ko : ¬ (lo ≤ x ∧ x ≤ hi) → G dt sv ρ M) : G pc (.inl x :: sv) ρ M := by
  obtain ⟨p, l, e, s, m, args, below, meth, c, dC, dI, cI, cC, cS, sA, A, n0, S0, ad0, Q, ⟨hx, hb, hml, hown, hts, hK, hA, hSt, hmn, hnL, hRI, hRV⟩, rfl⟩ := hG
  intro ad H locs cells slots ls hpt
  obtain ⟨⟨hP, hD, hS⟩, ⟨hM, hl, hvr, hvs⟩, ⟨⟨hn0, had0⟩, hsA⟩, hcn, hsn, hcl, hsl, hlc, hls⟩ := hpt
  have hxr : inR x := (hvs _ List.mem_cons_self)
  by_cases h : lo ≤ x ∧ x ≤ hi
  · obtain ⟨off, h1, h2⟩ := ho x h.1 h.2
    exact lv_tableIn hx hb hdg (by rw [zI_toInt hxr]; omega) (by rw [zI_toInt hxr]; omega) (by rw [zI_toInt hxr]; exact h1) h2 (ki h.1 h.2 ad H locs cells slots ls ⟨⟨hP, hD, hS⟩, ⟨hM, hl, hvr, (fun v hv => hvs v (List.mem_cons_of_mem _ hv))⟩, ⟨⟨hn0, had0⟩, hsA⟩, hcn, hsn, hcl, hsl, hlc, hls⟩)
  · exact lv_tableOut hx hb hdg (by rw [zI_toInt hxr]; omega) hd (ko h ad H locs cells slots ls ⟨⟨hP, hD, hS⟩, ⟨hM, hl, hvr, (fun v hv => hvs v (List.mem_cons_of_mem _ hv))⟩, ⟨⟨hn0, had0⟩, hsA⟩, hcn, hsn, hcl, hsl, hlc, hls⟩)
theorem G_i2c (hG : Mach own cc nL mn R ret nt L xs Rt G) {x : Int} (hdg : decode cc pc = .ok (.i2c, 1)) (k : G (pc + 1) (.inl (x % 65536) :: sv) ρ M) : G pc (.inl x :: sv) ρ M := by
  obtain ⟨p, l, e, s, m, args, below, meth, c, dC, dI, cI, cC, cS, sA, A, n0, S0, ad0, Q, ⟨hx, hb, hml, hown, hts, hK, hA, hSt, hmn, hnL, hRI, hRV⟩, rfl⟩ := hG
  intro ad H locs cells slots ls hpt
  obtain ⟨⟨hP, hD, hS⟩, ⟨hM, hl, hvr, hvs⟩, ⟨⟨hn0, had0⟩, hsA⟩, hcn, hsn, hcl, hsl, hlc, hls⟩ := hpt
  have hxr : inR x := (hvs _ List.mem_cons_self)
  have hv : ((zI x).toUInt32 % 65536).toInt32 = zI (x % 65536) := zI_char hxr
  exact lv_i2c hx hb hdg hv (k ad H locs cells slots ls ⟨⟨hP, hD, hS⟩, ⟨hM, hl, hvr, (List.forall_mem_cons.mpr ⟨⟨by omega, by omega⟩, (fun v hv => hvs v (List.mem_cons_of_mem _ hv))⟩)⟩, ⟨⟨hn0, had0⟩, hsA⟩, hcn, hsn, hcl, hsl, hlc, hls⟩)
theorem G_iand (hG : Mach own cc nL mn R ret nt L xs Rt G) {x : Int} (hdg : decode cc pc = .ok (.iand, 1)) (k : G (pc + 1) (.inl (x % 32) :: sv) ρ M) : G pc (.inl 31 :: .inl x :: sv) ρ M := by
  obtain ⟨p, l, e, s, m, args, below, meth, c, dC, dI, cI, cC, cS, sA, A, n0, S0, ad0, Q, ⟨hx, hb, hml, hown, hts, hK, hA, hSt, hmn, hnL, hRI, hRV⟩, rfl⟩ := hG
  intro ad H locs cells slots ls hpt
  obtain ⟨⟨hP, hD, hS⟩, ⟨hM, hl, hvr, hvs⟩, ⟨⟨hn0, had0⟩, hsA⟩, hcn, hsn, hcl, hsl, hlc, hls⟩ := hpt
  have hxr : inR x := (hvs _ (List.mem_cons_of_mem _ List.mem_cons_self))
  have hv : zI x &&& zI 31 = zI (x % 32) := zI_and31 hxr
  refine lv_iand hx hb hdg ?_
  rw [hv]
  exact k ad H locs cells slots ls ⟨⟨hP, hD, hS⟩, ⟨hM, hl, hvr, (List.forall_mem_cons.mpr ⟨⟨by omega, by omega⟩, (fun v hv => hvs v (List.mem_cons_of_mem _ (List.mem_cons_of_mem _ hv)))⟩)⟩, ⟨⟨hn0, had0⟩, hsA⟩, hcn, hsn, hcl, hsl, hlc, hls⟩
end RULES
