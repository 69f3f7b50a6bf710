/-! ===== what the law's own code needs beside ===== -/
def wr (z : Int) : Int := z.bmod 4294967296
theorem wr_in (z : Int) : inR (wr z) := by
  have h1 := Int.le_bmod (x := z) (m := 4294967296) (by decide)
  have h2 := Int.bmod_lt (x := z) (m := 4294967296) (by decide)
  unfold wr
  exact ⟨by omega, by omega⟩
theorem zI_wr (z : Int) : zI (wr z) = zI z := by
  apply Int32.toInt_inj.mp
  unfold zI wr
  rw [Int32.toInt_ofInt, Int32.toInt_ofInt]
  exact Int.bmod_bmod ..
def iAddW (a b : IE) : IE := fun K ρ M => a (fun x M => b (fun y M => K (wr (x + y)) M) ρ M) ρ M
def iMulW (a b : IE) : IE := fun K ρ M => a (fun x M => b (fun y M => K (wr (x * y)) M) ρ M) ρ M
def iAndM (m : Int) (a : IE) : IE := fun K ρ M => a (fun x M => K (x % m) M) ρ M
def iShr (m : Int) (a : IE) : IE := fun K ρ M => a (fun x M => K (x / m) M) ρ M
def cQ (c a b : CE) : CE := fun KT KF ρ M => c (fun M => a KT KF ρ M) (fun M => b KT KF ρ M) ρ M
def AndOk (y m : Int) : Prop := (∀ x, inR x → zI x &&& zI y = zI (x % m)) ∧ ∀ x : Int, inR (x % m)
theorem and_2147483647 : AndOk 2147483647 2147483648 := ⟨fun x _ => by
  rw [pk_and (zI x) (m := zI 2147483647) 31 (by decide), zI_tn, ← zI_nat]
  congr 1
  omega, fun x => ⟨by omega, by omega⟩⟩
theorem and_65535 : AndOk 65535 65536 := ⟨fun x _ => by
  rw [pk_and (zI x) (m := zI 65535) 16 (by decide), zI_tn, ← zI_nat]
  congr 1
  omega, fun x => ⟨by omega, by omega⟩⟩
def ShrOk (s m : Int) : Prop := (∀ x, inR x → zI x >>> (zI s &&& 31) = zI (x / m)) ∧ ∀ x : Int, inR x → inR (x / m)
theorem shr_mk {s m : Int} (k : Nat) (hs : ((zI s &&& 31).toBitVec.smod 32).toNat = k) (hm : ((2 ^ k : Nat) : Int) = m) (hr : ∀ x : Int, inR x → inR (x / m)) : ShrOk s m := ⟨fun x hx => by
  apply Int32.toInt_inj.mp
  rw [pk_shr _ _ k hs, zI_toInt hx, zI_toInt (hr x hx), Int.shiftRight_eq_div_pow, hm], hr⟩
theorem shr_3 : ShrOk 3 8 := shr_mk 3 (by decide) rfl (fun x h => ⟨by have := h.1; omega, by have := h.2; omega⟩)
theorem shr_5 : ShrOk 5 32 := shr_mk 5 (by decide) rfl (fun x h => ⟨by have := h.1; omega, by have := h.2; omega⟩)
theorem shr_6 : ShrOk 6 64 := shr_mk 6 (by decide) rfl (fun x h => ⟨by have := h.1; omega, by have := h.2; omega⟩)
theorem shr_7 : ShrOk 7 128 := shr_mk 7 (by decide) rfl (fun x h => ⟨by have := h.1; omega, by have := h.2; omega⟩)
theorem shr_8 : ShrOk 8 256 := shr_mk 8 (by decide) rfl (fun x h => ⟨by have := h.1; omega, by have := h.2; omega⟩)
theorem shr_9 : ShrOk 9 512 := shr_mk 9 (by decide) rfl (fun x h => ⟨by have := h.1; omega, by have := h.2; omega⟩)
theorem shr_10 : ShrOk 10 1024 := shr_mk 10 (by decide) rfl (fun x h => ⟨by have := h.1; omega, by have := h.2; omega⟩)
theorem shr_13 : ShrOk 13 8192 := shr_mk 13 (by decide) rfl (fun x h => ⟨by have := h.1; omega, by have := h.2; omega⟩)
theorem shr_15 : ShrOk 15 32768 := shr_mk 15 (by decide) rfl (fun x h => ⟨by have := h.1; omega, by have := h.2; omega⟩)
theorem shr_19 : ShrOk 19 524288 := shr_mk 19 (by decide) rfl (fun x h => ⟨by have := h.1; omega, by have := h.2; omega⟩)
section XRULES
variable {own : String} {cc : ByteArray} {nL : Nat} {mn : String} {R : Room} {ret : Option FieldType} {nt L : Nat} {xs : Nat → Int} {Rt : Int → Mm → Prop} {G : Gt} {pc pd d : Nat} {p1 p2 p3 p4 p5 : Nat} {sv : List Vv} {ρ : En} {M : Mm}
theorem G_ldc (hG : Mach own cc nL mn R ret nt L xs Rt G) {idx : Nat} {v : Int32} {z : Int} (hc : Cond.constant own idx v ∈ gtb) (hv : v = zI z) (hz : inR z) (hdg : decode cc pc = .ok (.ldc idx, 2)) (k : G (pc + 2) (.inl z :: sv) ρ M) : G pc sv ρ M := by
  obtain ⟨p, l, e, s, m, args, below, meth, c, dC, dI, cI, cC, cS, sA, A, n0, S0, ad0, Q, ⟨hx, hb, hml, hown, hts, hK, hA, hSt, hmn, hnL, hRI, hRV⟩, rfl⟩ := hG
  intro ad H locs cells slots ls hpt
  obtain ⟨⟨hP, hD, hS⟩, ⟨hM, hl, hvr, hvs⟩, ⟨⟨hn0, had0⟩, hsA⟩, hcn, hsn, hcl, hsl, hlc, hls⟩ := hpt
  subst hv
  exact lv_ldc hx hb hown (hts _ hc) hdg (k ad H locs cells slots ls ⟨⟨hP, hD, hS⟩, ⟨hM, hl, hvr, (List.forall_mem_cons.mpr ⟨hz, hvs⟩)⟩, ⟨⟨hn0, had0⟩, hsA⟩, hcn, hsn, hcl, hsl, hlc, hls⟩)
theorem G_iaddW (hG : Mach own cc nL mn R ret nt L xs Rt G) {x y : Int} (hdg : decode cc pc = .ok (.iadd, 1)) (k : G (pc + 1) (.inl (wr (x + y)) :: sv) ρ M) : G pc (.inl y :: .inl x :: sv) ρ M := by
  obtain ⟨p, l, e, s, m, args, below, meth, c, dC, dI, cI, cC, cS, sA, A, n0, S0, ad0, Q, ⟨hx, hb, hml, hown, hts, hK, hA, hSt, hmn, hnL, hRI, hRV⟩, rfl⟩ := hG
  intro ad H locs cells slots ls hpt
  obtain ⟨⟨hP, hD, hS⟩, ⟨hM, hl, hvr, hvs⟩, ⟨⟨hn0, had0⟩, hsA⟩, hcn, hsn, hcl, hsl, hlc, hls⟩ := hpt
  refine lv_iadd hx hb hdg ?_
  rw [zI_add, ← zI_wr]
  exact k ad H locs cells slots ls ⟨⟨hP, hD, hS⟩, ⟨hM, hl, hvr, (List.forall_mem_cons.mpr ⟨wr_in _, (fun v hv => hvs v (List.mem_cons_of_mem _ (List.mem_cons_of_mem _ hv)))⟩)⟩, ⟨⟨hn0, had0⟩, hsA⟩, hcn, hsn, hcl, hsl, hlc, hls⟩
theorem G_imulW (hG : Mach own cc nL mn R ret nt L xs Rt G) {x y : Int} (hdg : decode cc pc = .ok (.imul, 1)) (k : G (pc + 1) (.inl (wr (x * y)) :: sv) ρ M) : G pc (.inl y :: .inl x :: sv) ρ M := by
  obtain ⟨p, l, e, s, m, args, below, meth, c, dC, dI, cI, cC, cS, sA, A, n0, S0, ad0, Q, ⟨hx, hb, hml, hown, hts, hK, hA, hSt, hmn, hnL, hRI, hRV⟩, rfl⟩ := hG
  intro ad H locs cells slots ls hpt
  obtain ⟨⟨hP, hD, hS⟩, ⟨hM, hl, hvr, hvs⟩, ⟨⟨hn0, had0⟩, hsA⟩, hcn, hsn, hcl, hsl, hlc, hls⟩ := hpt
  refine lv_imul hx hb hdg ?_
  rw [zI_mul, ← zI_wr]
  exact k ad H locs cells slots ls ⟨⟨hP, hD, hS⟩, ⟨hM, hl, hvr, (List.forall_mem_cons.mpr ⟨wr_in _, (fun v hv => hvs v (List.mem_cons_of_mem _ (List.mem_cons_of_mem _ hv)))⟩)⟩, ⟨⟨hn0, had0⟩, hsA⟩, hcn, hsn, hcl, hsl, hlc, hls⟩
theorem G_iandM (hG : Mach own cc nL mn R ret nt L xs Rt G) {x y m : Int} (ho : AndOk y m) (hdg : decode cc pc = .ok (.iand, 1)) (k : G (pc + 1) (.inl (x % m) :: sv) ρ M) : G pc (.inl y :: .inl x :: sv) ρ M := by
  obtain ⟨p, l, e, s, m, args, below, meth, c, dC, dI, cI, cC, cS, sA, A, n0, S0, ad0, Q, ⟨hx, hb, hml, hown, hts, hK, hA, hSt, hmn, hnL, hRI, hRV⟩, rfl⟩ := hG
  intro ad H locs cells slots ls hpt
  obtain ⟨⟨hP, hD, hS⟩, ⟨hM, hl, hvr, hvs⟩, ⟨⟨hn0, had0⟩, hsA⟩, hcn, hsn, hcl, hsl, hlc, hls⟩ := hpt
  have hxr : inR x := (hvs _ (List.mem_cons_of_mem _ List.mem_cons_self))
  refine lv_iand hx hb hdg ?_
  rw [ho.1 x hxr]
  exact k ad H locs cells slots ls ⟨⟨hP, hD, hS⟩, ⟨hM, hl, hvr, (List.forall_mem_cons.mpr ⟨ho.2 x, (fun v hv => hvs v (List.mem_cons_of_mem _ (List.mem_cons_of_mem _ hv)))⟩)⟩, ⟨⟨hn0, had0⟩, hsA⟩, hcn, hsn, hcl, hsl, hlc, hls⟩
theorem G_ishr (hG : Mach own cc nL mn R ret nt L xs Rt G) {x y m : Int} (ho : ShrOk y m) (hdg : decode cc pc = .ok (.ishr, 1)) (k : G (pc + 1) (.inl (x / m) :: sv) ρ M) : G pc (.inl y :: .inl x :: sv) ρ M := by
  obtain ⟨p, l, e, s, m, args, below, meth, c, dC, dI, cI, cC, cS, sA, A, n0, S0, ad0, Q, ⟨hx, hb, hml, hown, hts, hK, hA, hSt, hmn, hnL, hRI, hRV⟩, rfl⟩ := hG
  intro ad H locs cells slots ls hpt
  obtain ⟨⟨hP, hD, hS⟩, ⟨hM, hl, hvr, hvs⟩, ⟨⟨hn0, had0⟩, hsA⟩, hcn, hsn, hcl, hsl, hlc, hls⟩ := hpt
  have hxr : inR x := (hvs _ (List.mem_cons_of_mem _ List.mem_cons_self))
  refine lv_ishr hx hb hdg ?_
  rw [ho.1 x hxr]
  exact k ad H locs cells slots ls ⟨⟨hP, hD, hS⟩, ⟨hM, hl, hvr, (List.forall_mem_cons.mpr ⟨ho.2 x hxr, (fun v hv => hvs v (List.mem_cons_of_mem _ (List.mem_cons_of_mem _ hv)))⟩)⟩, ⟨⟨hn0, had0⟩, hsA⟩, hcn, hsn, hcl, hsl, hlc, hls⟩
theorem I_ldc (hG : Mach own cc nL mn R ret nt L xs Rt G) {idx : Nat} {v : Int32} {z : Int} (hc : Cond.constant own idx v ∈ gtb) (hv : v = zI z) (hz : inR z) (hd : decode cc pc = .ok (.ldc idx, 2)) : IAt G pc (pc + 2) d (iC z) := fun K ρ M sv _ h k => G_ldc hG hc hv hz hd (k z M h)
theorem I_addW (hG : Mach own cc nL mn R ret nt L xs Rt G) {a b : IE} (ha : IAt G pc p1 d a) (hb : IAt G p1 p2 (d + 1) b) (hd : decode cc p2 = .ok (.iadd, 1)) : IAt G pc (p2 + 1) d (iAddW a b) := fun K ρ M sv hs h k => ha _ ρ M sv hs h (fun x M2 h2 => hb _ ρ M2 _ (by simpa using hs) h2 (fun y M3 h3 => G_iaddW hG hd (k _ _ h3)))
theorem I_mulW (hG : Mach own cc nL mn R ret nt L xs Rt G) {a b : IE} (ha : IAt G pc p1 d a) (hb : IAt G p1 p2 (d + 1) b) (hd : decode cc p2 = .ok (.imul, 1)) : IAt G pc (p2 + 1) d (iMulW a b) := fun K ρ M sv hs h k => ha _ ρ M sv hs h (fun x M2 h2 => hb _ ρ M2 _ (by simpa using hs) h2 (fun y M3 h3 => G_imulW hG hd (k _ _ h3)))
theorem I_andM (hG : Mach own cc nL mn R ret nt L xs Rt G) {a : IE} {y m : Int} (ho : AndOk y m) (ha : IAt G pc p1 d a) (hb : IAt G p1 p2 (d + 1) (iC y)) (hd : decode cc p2 = .ok (.iand, 1)) : IAt G pc (p2 + 1) d (iAndM m a) := by
  intro K ρ M sv hs h k
  refine ha _ ρ M sv hs h (fun x M2 h2 => ?_)
  refine hb (fun z M3 => z = y ∧ M3 = M2) ρ M2 _ (by simpa using hs) ⟨rfl, rfl⟩ (fun z M3 h3 => ?_)
  obtain ⟨rfl, rfl⟩ := h3
  exact G_iandM hG ho hd (k _ _ h2)
theorem I_shr (hG : Mach own cc nL mn R ret nt L xs Rt G) {a : IE} {y m : Int} (ho : ShrOk y m) (ha : IAt G pc p1 d a) (hb : IAt G p1 p2 (d + 1) (iC y)) (hd : decode cc p2 = .ok (.ishr, 1)) : IAt G pc (p2 + 1) d (iShr m a) := by
  intro K ρ M sv hs h k
  refine ha _ ρ M sv hs h (fun x M2 h2 => ?_)
  refine hb (fun z M3 => z = y ∧ M3 = M2) ρ M2 _ (by simpa using hs) ⟨rfl, rfl⟩ (fun z M3 h3 => ?_)
  obtain ⟨rfl, rfl⟩ := h3
  exact G_ishr hG ho hd (k _ _ h2)
theorem C_tern (hG : Mach own cc nL mn R ret nt L xs Rt G) {c a b : CE} {off : Int} {pt pf : Nat} (hc : CAt G pc p1 p3 d c) (ha : CAt G p1 p2 pf d a) (hd : decode cc p2 = .ok (.goto off, 3)) (ht : (p2 : Int) + off = (pt : Int)) (hb : CAt G p3 pt pf d b) : CAt G pc pt pf d (cQ c a b) := fun KT KF ρ M sv hs h kT kF => hc _ _ ρ M sv hs h (fun M2 h2 => ha _ _ ρ M2 sv hs h2 (fun M3 h3 => G_goto hG hd ht (kT _ h3)) kF) (fun M2 h2 => hb _ _ ρ M2 sv hs h2 kT kF)
end XRULES
def PcX (L : Nat) (xs : Nat → Int) (dC : Nat → ClassId) (dI : Nat → Nat → Nat) (cI cC cS : ClassId) (sA : Nat → Nat) (av : List Vv) (M : Mm) (ad : Nat → Nat) (sz : Nat) : Array Value → State → Prop :=
  va_Pc (av.map (cv ad)) (fun U => U.heap.size = sz ∧ va_P (dC, dI) vwCl (wsOf cI cC cS ad M) U.heap ∧ va_K (dC, dI) vwCl (tysOf cI cC cS) U ∧ va_D (fun _ => True) (wsOf cI cC cS ad M) ∧ StOK 4 L xs sA (va_A (wsOf cI cC cS ad M) sz) U U.heap)
def MOkX (L : Nat) (xs : Nat → Int) (y : MethodName) (cy : ByteArray) (maxL : Nat) (rt : FieldType) (rm : Room) (Me : Mt) : Prop :=
  ∀ (l : Launch) (dC : Nat → ClassId) (dI : Nat → Nat → Nat) (cI cC cS : ClassId) (sA : Nat → Nat) (av : List Vv) (M : Mm) (ad : Nat → Nat) (sz : Nat) (Rt : Int → Mm → Prop),
    MOK M → (∀ v ∈ av, vok M v) → (∀ t, ad (1000000 + t) = sA t) → Me av Rt M →
    Met l y (.code y cy maxL (some rt) :: gtb) rm (PcX L xs dC dI cI cC cS sA av M ad sz) (va_Qi (fun r32 u => ∃ r : Int, r32 = zI r ∧ PuM Rt rm sA M ad r u) (BM dC dI cI cC cS (va_A (wsOf cI cC cS ad M) sz)) (va_A (wsOf cI cC cS ad M) sz)) rm.cells rm.slots (va_A (wsOf cI cC cS ad M) sz)
theorem StOK.toX {L : Nat} {xs : Nat → Int} {sA : Nat → Nat} {A B : Nat → Prop} {s U : State} {H0 H : Heap} (h : StOK 4 L xs sA A s H0) (hW : s.WarmedH U.vm) (hk : ∀ a : Nat, a < H0.size → ¬ A a → H[a]? = H0[a]?) (hz : H0.size ≤ H.size) (hAB : ∀ q, B q → A q) : StOK 4 L xs sA B U H := by
  obtain ⟨h1, h2, h3, h4, h5, h6⟩ := h
  have hal := hW.alike
  refine ⟨by decide, fun t ht => ?_, h3, fun t ht => (((h4 t ht).kept hk).narrow hAB).moved hal, h5.moved hal, fun w hw => nest_mv (List.mem_filter.mp hw).2 hW (h6 w hw)⟩
  obtain ⟨q1, q2, q3⟩ := h2 t ht
  exact ⟨(q1.kept (hk (sA t) q2 q3)).moved hal, by omega, fun h => q3 (hAB _ h)⟩
theorem blindX (L : Nat) (xs : Nat → Int) (dC : Nat → ClassId) (dI : Nat → Nat → Nat) (cI cC cS : ClassId) (sA : Nat → Nat) (av : List Vv) (M : Mm) (ad : Nat → Nat) (sz : Nat) : FrameBlind (PcX L xs dC dI cI cC cS sA av M ad sz) := fun a U g mk q => by
  obtain ⟨q0, q1, qP, qK, qD, q2, q3, q4, q5, q6, q7⟩ := q
  exact ⟨q0, q1, qP, va_K.moved (u := U) (U := U.calling g mk a) (Vm.Alike.refl U.vm) qK, qD, q2, fun t ht => ⟨(q3 t ht).1.moved (Vm.Alike.refl U.vm), (q3 t ht).2⟩, q4, fun t ht => (q5 t ht).moved (Vm.Alike.refl U.vm), q6.moved (u := U) (U := U.calling g mk a) (Vm.Alike.refl U.vm), fun w hw => va_Nw.same (nest_on (List.mem_filter.mp hw).2) (u := U) (U := U.calling g mk a) rfl (q7 w hw)⟩
section XCALL
variable {own : String} {cc : ByteArray} {nL : Nat} {mn : String} {R : Room} {ret : Option FieldType} {L : Nat} {xs : Nat → Int} {Rt : Int → Mm → Prop} {G : Gt} {pc : Nat} {sv : List Vv} {ρ : En} {M : Mm}
theorem G_callSX (hG : Mach own cc nL mn R ret 4 L xs Rt G) {idx n maxL : Nat} {y : MethodName} {cy : ByteArray} {rt : FieldType} {rm : Room} {Me : Mt} {av : List Vv} (hM : MOkX L xs y cy maxL rt rm Me) (hR : Rok rm R maxL) (hlen0 : av.length = n) (hsv : sv.length ≤ 8) (hdg : decode cc pc = .ok (.invokestatic idx, 3)) (hk : CkS own idx y cy maxL (some rt) n) (h0 : rm.cells = 0 ∧ rm.slots = 0) {K : Int → Mm → Prop} (hMe : Me av K M) (k : ∀ r M2, K r M2 → G (pc + 3) (.inl r :: sv) ρ M2) : G pc (av.reverse ++ sv) ρ M := by
  obtain ⟨p, l, e, s, m, args, below, meth, c, dC, dI, cI, cC, cS, sA, A, n0, S0, ad0, Q, ⟨hx, hb, hml, hown, hts, hK, hA, hSt, hmn, hnL, hRI, hRV⟩, rfl⟩ := hG
  intro ad H locs cells slots ls hpt
  obtain ⟨⟨hP, hD, hS⟩, ⟨hM0, hl, hvr, hvs⟩, ⟨⟨hn0, had0⟩, hsA⟩, hcn, hsn, hcl, hsl, hlc, hls⟩ := hpt
  have hFc : ∀ q, va_A (wsOf cI cC cS ad M) H.size q → A q := fun q h => by
    rcases h with ⟨k, e0, h⟩ | h
    · exact hD.2 k (q, e0) h
    · exact hA q (Nat.le_trans hS.1 h)
  have hva : ∀ v ∈ av, vok M v := fun v hv => hvs v (List.mem_append_left _ (List.mem_reverse.mpr hv))
  have hvt : ∀ v ∈ sv, vok M v := fun v hv => hvs v (List.mem_append_right _ hv)
  have hpre : ∀ U : State, U.heap = H → s.WarmedH U.vm → PcX L xs dC dI cI cC cS sA av M ad H.size ((av.map (cv ad)).toArray) U := fun U hU hW =>
    ⟨rfl, by rw [hU], by rw [hU]; exact hP, va_K.moved hW.alike hK, hD.weaken (fun _ _ _ _ => trivial), by rw [hU]; exact hSt.toX hW (fun a h1 h2 => hS.2.1 a h1 h2) hS.1 hFc⟩
  have hMet := hM l dC dI cI cC cS sA av M ad H.size _ hM0 hva hsA hMe
  rw [show ((av.reverse ++ sv).map (cv ad)) = ((av.map (cv ad)).reverse ++ sv.map (cv ad)) by simp]
  refine va_calli (va_runS (As := av.map (cv ad)) (rest := sv.map (cv ad)) ⟨hx, hb, hml, hown, hts⟩ hMet (cwS n hts (good_sub (fun w hw => by
    rcases List.mem_append.mp hw with h | h
    · exact hk.1 w (List.mem_append_left [Cond.code y cy maxL (some rt)] h)
    · exact code_in (hk.1 _ (by simp)) w h)) rfl rfl rfl hk.2 hR) ⟨blindX L xs _ _ _ _ _ _ _ _ _ _, fun U hU hW => hpre U hU hW⟩ rfl (by simpa using hlen0) hl.1 rfl (lv_room (by rw [cat_sum]; exact hsv)) hdg ⟨by rw [h0.1]; omega, by rw [h0.2]; omega⟩) hS (fun q _ h => hFc q h) hFc (fun r32 u t H1 locs1 ht hvm hpost hB hz1 hk1 hS1 => ?_)
  obtain ⟨r, hr, hRt, hrr, hMOK, hlen, hssum, had, hsA2⟩ := hpost
  obtain ⟨hP1, hK1, hD1⟩ := hB
  rw [ht] at hP1
  subst hr
  have hkk := k r u.1 hRt u.2 H1 locs1 (cells + rm.cells) (slots + rm.slots) ls ⟨⟨hP1, hD1.weaken (fun _ _ _ h => hFc _ h), hS1⟩, ⟨hMOK, env_ext hl (fun i hi => cv_ext had hsA hsA2 (hvr i (by omega))), fun i hi => vok_mono (by omega) (hvr i hi), List.forall_mem_cons.mpr ⟨hrr, fun v hv => vok_mono (by omega) (hvt v hv)⟩⟩, ⟨⟨by omega, fun k hk => (had k (by omega)).trans (had0 k hk)⟩, hsA2⟩, by omega, by omega, by omega, by omega, hlc, hls⟩
  have hsvm : sv.map (cv u.2) = sv.map (cv ad) := List.map_congr_left (fun v hv => cv_ext had hsA hsA2 (hvt v hv))
  rw [List.map_cons, hsvm] at hkk
  exact hkk
end XCALL
section XCALL2
variable {own : String} {cc : ByteArray} {nL : Nat} {mn : String} {R : Room} {ret : Option FieldType} {L : Nat} {xs : Nat → Int} {Rt : Int → Mm → Prop} {G : Gt} {pc pd d : Nat} {p1 p2 : Nat}
theorem I_callSX (hG : Mach own cc nL mn R ret 4 L xs Rt G) {idx n maxL : Nat} {y : MethodName} {cy : ByteArray} {rm : Room} {Me : Mt} {rt : FieldType} {a : AE} (hM : MOkX L xs y cy maxL rt rm Me) (hk : CkS own idx y cy maxL (some rt) n) (h0 : rm.cells = 0 ∧ rm.slots = 0) (hR : Rok rm R maxL) (hd8 : d ≤ 8) (ha : AAt G pc p2 d n a) (hd : decode cc p2 = .ok (.invokestatic idx, 3)) : IAt G pc (p2 + 3) d (iCallS Me a) := fun K ρ M sv hs h k => ha _ ρ M sv hs h (fun l M3 hl h3 => G_callSX hG hM hR hl (by omega) hd hk h0 h3 k)
end XCALL2
set_option maxHeartbeats 1000000 in
theorem met_coreX {L : Nat} {xs : Nat → Int} {y : MethodName} {cy : ByteArray} {maxL pe : Nat} {rt : FieldType} {rm : Room} {S : ST} (al : List (Nat × Nat)) (hy : plainName y.cls = true) (hmL : maxL ≤ 1000) (hal : al.length = rm.cells ∧ ssum al = rm.slots)
    (body : ∀ (Rt : Int → Mm → Prop) (G : Gt), Mach y.cls cy maxL y.name rm (some rt) 4 L xs Rt G → SAt G Rt 0 pe S)
    (l : Launch) (dC : Nat → ClassId) (dI : Nat → Nat → Nat) (cI cC cS : ClassId) (sA : Nat → Nat) (av : List Vv) (M : Mm) (ad : Nat → Nat) (sz : Nat) (Rt : Int → Mm → Prop)
    (hMM : MOK M) (hva : ∀ v ∈ av, vok M v) (hsA : ∀ t, ad (1000000 + t) = sA t) (hlen : av.length ≤ maxL) (lc ls : Int) (hlim : lc.toNat ≤ M.1.length + rm.cells ∧ ls.toNat ≤ ssum M.1 + rm.slots)
    (hSS : S (fun _ _ => False) (fun r M2 => M2.1 = M.1 ++ al ∧ Rt r M2) (ent av lc ls) M) :
    Met l y (.code y cy maxL (some rt) :: gtb) rm (PcX L xs dC dI cI cC cS sA av M ad sz) (va_Qi (fun r32 u => ∃ r : Int, r32 = zI r ∧ PuM Rt rm sA M ad r u) (BM dC dI cI cC cS (va_A (wsOf cI cC cS ad M) sz)) (va_A (wsOf cI cC cS ad M) sz)) rm.cells rm.slots (va_A (wsOf cI cC cS ad M) sz) := by
  refine Met.ofW (cc := cy) (maxL := maxL) (ret := (some rt)) hy rfl ?_
  intro p e s m args below meth c s₁ B hml hv
  obtain ⟨rfl, hsz, hP, hK, hD0, hSt⟩ := hv
  have hx := B.exec
  have hb := B.bytes
  have hr := B.returns
  have hts := atoms_spec (ws := .code y cy maxL (some rt) :: gtb) B.pre
  have hown : s.vm.findClass y.cls = some m.cls := findClass_of_methodNamed B.named
  have hlocks := B.notSynchronized
  have hin : meth.name = y.name := (name_of_methodNamed B.named B.method).1
  subst hsz
  have hD := hD0.self (sz := s.heap.size)
  generalize hAe : va_A (wsOf cI cC cS ad M) s.heap.size = A at hD hSt ⊢
  have hA : ∀ q : Nat, s.heap.size ≤ q → A q := fun q h => by rw [← hAe]; exact Or.inr h
  have hl := lv_entry (av.map (cv ad)) (n := maxL) (by rw [lg_len]; exact hlen)
  rw [lg_entry_eq]
  generalize (lg_sl (av.map (cv ad)) ++ List.replicate (maxL - (lg_sl (av.map (cv ad))).length) Slot.unset).toArray = sl at hl ⊢
  obtain ⟨elc, els⟩ := ent_lim (av := av) (lc := lc) (ls := ls) (by omega)
  have hmach : Mach y.cls cy maxL y.name rm (some rt) 4 L xs (fun r M2 => M2.1 = M.1 ++ al ∧ Rt r M2) (Wp p l e rm s m (av.map (cv ad)).toArray below meth c dC dI cI cC cS sA A maxL M.1.length (ssum M.1) ad (MQ below (va_Qi (fun r32 u => ∃ r : Int, r32 = zI r ∧ PuM Rt rm sA M ad r u) (BM dC dI cI cC cS A) A) (av.map (cv ad)).toArray s rm.cells rm.slots A)) := by
    refine ⟨p, l, e, s, m, _, below, meth, c, dC, dI, cI, cC, cS, sA, A, M.1.length, ssum M.1, ad, _, ⟨hx, hb, hml, hown, fun w hw => hts w (List.mem_cons_of_mem _ hw), hK, hA, hSt, hin, hmL, ?_, ?_⟩, rfl⟩
    · intro rt2 pc x ρ M2 hrt hn hd hR ad2 H locs cells slots ls2 hpt
      cases hrt
      obtain ⟨⟨hP2, hD2, hS2⟩, ⟨hM2, -, -, hvs⟩, ⟨⟨hn0, had0⟩, hsA2⟩, hcn, hsn, hcl, hsl, -, -⟩ := hpt
      have hxr : inR x := hvs (.inl x) List.mem_cons_self
      have hl1 : M2.1.length = M.1.length + rm.cells := by rw [hR.1, List.length_append, hal.1]
      have hl2 : ssum M2.1 = ssum M.1 + rm.slots := by rw [hR.1, ssum_app, hal.2]
      refine W.widen (k := rm.cells) (n := rm.slots) hcl hsl ?_
      exact W.zret (v := zI x) hx hb hr hn (fun t ht hW => ⟨⟨zI x, (M2, ad2), rfl, ⟨x, rfl, hR.2, hxr, hM2, hl1, hl2, had0, hsA2⟩, by rw [ht]; exact hP2, va_K.moved hW.alike hK, hD2⟩, hS2.F ht⟩) hS2.2.2 hd
    · intro pc ρ M2 hrt
      cases hrt
  have hG := body _ _ hmach (fun _ _ => False) _ M hSS (fun _ _ h => h.elim)
  refine hG ad s.heap [] 0 0 sl ⟨⟨hP, hD, va_S.rf⟩, ⟨hMM, ent_env hmL hl, fun i hi => ?_, fun v hv => by cases hv⟩, ⟨⟨Nat.le_refl _, fun _ _ => rfl⟩, hsA⟩, rfl, rfl, Nat.zero_le _, Nat.zero_le _, by rw [elc]; exact hlim.1, by rw [els]; exact hlim.2⟩
  cases e2 : av[i]? with
  | none =>
    rw [ent_no e2 hi]
    trivial
  | some v =>
    rw [ent_at e2]
    exact hva v (List.mem_of_getElem? e2)
theorem MOkX_mk0 {L : Nat} {xs : Nat → Int} {y : MethodName} {cy : ByteArray} {maxL pe n : Nat} {rt : FieldType} {rm : Room} {S : ST} (hy : plainName y.cls = true) (hmL : maxL ≤ 1000) (hn : n ≤ maxL) (h0 : rm.cells = 0 ∧ rm.slots = 0)
    (body : ∀ (Rt : Int → Mm → Prop) (G : Gt), Mach y.cls cy maxL y.name rm (some rt) 4 L xs Rt G → SAt G Rt 0 pe S) : MOkX L xs y cy maxL rt rm (mk0 n S) := by
  intro l dC dI cI cC cS sA av M ad sz Rt hMM hva hsA hMe
  obtain ⟨hlen, hS⟩ := hMe
  exact met_coreX [] hy hmL ⟨h0.1.symm, h0.2.symm⟩ body l dC dI cI cC cS sA av M ad sz Rt hMM hva hsA (by omega) 0 0 ⟨by omega, by omega⟩ (by simpa using hS)
