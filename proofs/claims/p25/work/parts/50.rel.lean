abbrev Sg : Type := Nat × (Nat → Nat → Int) × (Nat → Int) × (Nat → Int)
def Sg.n (S : Sg) : Nat := S.1
def Sg.D (S : Sg) : Nat → Nat → Int := S.2.1
def Sg.st (S : Sg) : Nat → Int := S.2.2.1
def Sg.sg (S : Sg) : Nat → Int := S.2.2.2
abbrev Ab : Type := Sg × Nat × (Nat → Sg) × Int × Sg × Nat × (Nat → Int)
def Ab.now (A : Ab) : Sg := A.1
def Ab.c (A : Ab) : Nat := A.2.1
def Ab.hs (A : Ab) : Nat → Sg := A.2.2.1
def Ab.f (A : Ab) : Int := A.2.2.2.1
def Ab.sn (A : Ab) : Sg := A.2.2.2.2.1
def Ab.tl (A : Ab) : Nat := A.2.2.2.2.2.1
def Ab.tc (A : Ab) : Nat → Int := A.2.2.2.2.2.2
def Sg.V (S : Sg) : Prop := VD S.n S.D ∧ VT S.st ∧ VG S.sg
def SSg (M : Mm) (s : Nat) (S : Sg) : Prop := SS M s S.n S.D S.st S.sg
def Ab.V (A : Ab) : Prop := (A.now.V) ∧ (A.c ≤ 4) ∧ (∀ i, i < A.c → (A.hs i).V) ∧ (A.f = 0 ∨ A.f = 1) ∧ (A.f = 1 → A.sn.V) ∧ (A.tl ≤ 60) ∧ (∀ i, i < A.tl → 0 ≤ A.tc i ∧ A.tc i < 65536)
theorem Ab.V.nw {A : Ab} (h : Ab.V A) : A.now.V := h.1
theorem Ab.V.c4 {A : Ab} (h : Ab.V A) : A.c ≤ 4 := h.2.1
theorem Ab.V.hs {A : Ab} (h : Ab.V A) : ∀ i, i < A.c → (A.hs i).V := h.2.2.1
theorem Ab.V.f2 {A : Ab} (h : Ab.V A) : A.f = 0 ∨ A.f = 1 := h.2.2.2.1
theorem Ab.V.sn {A : Ab} (h : Ab.V A) : A.f = 1 → A.sn.V := h.2.2.2.2.1
theorem Ab.V.tl {A : Ab} (h : Ab.V A) : A.tl ≤ 60 := h.2.2.2.2.2.1
theorem Ab.V.tc {A : Ab} (h : Ab.V A) : ∀ i, i < A.tl → 0 ≤ A.tc i ∧ A.tc i < 65536 := h.2.2.2.2.2.2
theorem Ab.V.mk {A : Ab} (nw : A.now.V) (c4 : A.c ≤ 4) (hs : ∀ i, i < A.c → (A.hs i).V) (f2 : A.f = 0 ∨ A.f = 1) (sn : A.f = 1 → A.sn.V) (tl : A.tl ≤ 60) (tc : ∀ i, i < A.tl → 0 ≤ A.tc i ∧ A.tc i < 65536) : Ab.V A := ⟨nw, c4, hs, f2, sn, tl, tc⟩
/-- what never changes once all is made -/
def Fx (M : Mm) : Prop := (M.1[0]? = some (6, 0)) ∧ (M.2.2 0 0 = some 1) ∧ (M.2.2 0 1 = some 10) ∧ (M.2.2 0 2 = some 19) ∧ (M.2.2 0 4 = some 28) ∧ (M.2.2 0 5 = some 66) ∧ (M.2.2 0 6 = some 68) ∧ (M.2.2 0 7 = some 69) ∧ (StP M 1) ∧ (StP M 10) ∧ (StP M 19) ∧ (StP M 30) ∧ (StP M 39) ∧ (StP M 48) ∧ (StP M 57) ∧ (M.1[28]? = some (0, 0)) ∧ (M.2.2 28 0 = some 29) ∧ (M.1[29]? = some (22, 4)) ∧ (M.1[66]? = some (5, 0)) ∧ (M.2.2 66 0 = some 67) ∧ (M.1[67]? = some (21, 60)) ∧ (M.1[68]? = some (2, 0)) ∧ (JdP M)
theorem Fx.x0 {M : Mm} (h : Fx M) : M.1[0]? = some (6, 0) := h.1
theorem Fx.r0 {M : Mm} (h : Fx M) : M.2.2 0 0 = some 1 := h.2.1
theorem Fx.r1 {M : Mm} (h : Fx M) : M.2.2 0 1 = some 10 := h.2.2.1
theorem Fx.r2 {M : Mm} (h : Fx M) : M.2.2 0 2 = some 19 := h.2.2.2.1
theorem Fx.r4 {M : Mm} (h : Fx M) : M.2.2 0 4 = some 28 := h.2.2.2.2.1
theorem Fx.r5 {M : Mm} (h : Fx M) : M.2.2 0 5 = some 66 := h.2.2.2.2.2.1
theorem Fx.r6 {M : Mm} (h : Fx M) : M.2.2 0 6 = some 68 := h.2.2.2.2.2.2.1
theorem Fx.r7 {M : Mm} (h : Fx M) : M.2.2 0 7 = some 69 := h.2.2.2.2.2.2.2.1
theorem Fx.s1 {M : Mm} (h : Fx M) : StP M 1 := h.2.2.2.2.2.2.2.2.1
theorem Fx.s10 {M : Mm} (h : Fx M) : StP M 10 := h.2.2.2.2.2.2.2.2.2.1
theorem Fx.s19 {M : Mm} (h : Fx M) : StP M 19 := h.2.2.2.2.2.2.2.2.2.2.1
theorem Fx.s30 {M : Mm} (h : Fx M) : StP M 30 := h.2.2.2.2.2.2.2.2.2.2.2.1
theorem Fx.s39 {M : Mm} (h : Fx M) : StP M 39 := h.2.2.2.2.2.2.2.2.2.2.2.2.1
theorem Fx.s48 {M : Mm} (h : Fx M) : StP M 48 := h.2.2.2.2.2.2.2.2.2.2.2.2.2.1
theorem Fx.s57 {M : Mm} (h : Fx M) : StP M 57 := h.2.2.2.2.2.2.2.2.2.2.2.2.2.2.1
theorem Fx.x28 {M : Mm} (h : Fx M) : M.1[28]? = some (0, 0) := h.2.2.2.2.2.2.2.2.2.2.2.2.2.2.2.1
theorem Fx.r28 {M : Mm} (h : Fx M) : M.2.2 28 0 = some 29 := h.2.2.2.2.2.2.2.2.2.2.2.2.2.2.2.2.1
theorem Fx.x29 {M : Mm} (h : Fx M) : M.1[29]? = some (22, 4) := h.2.2.2.2.2.2.2.2.2.2.2.2.2.2.2.2.2.1
theorem Fx.x66 {M : Mm} (h : Fx M) : M.1[66]? = some (5, 0) := h.2.2.2.2.2.2.2.2.2.2.2.2.2.2.2.2.2.2.1
theorem Fx.r66 {M : Mm} (h : Fx M) : M.2.2 66 0 = some 67 := h.2.2.2.2.2.2.2.2.2.2.2.2.2.2.2.2.2.2.2.1
theorem Fx.x67 {M : Mm} (h : Fx M) : M.1[67]? = some (21, 60) := h.2.2.2.2.2.2.2.2.2.2.2.2.2.2.2.2.2.2.2.2.1
theorem Fx.x68 {M : Mm} (h : Fx M) : M.1[68]? = some (2, 0) := h.2.2.2.2.2.2.2.2.2.2.2.2.2.2.2.2.2.2.2.2.2.1
theorem Fx.jd {M : Mm} (h : Fx M) : JdP M := h.2.2.2.2.2.2.2.2.2.2.2.2.2.2.2.2.2.2.2.2.2.2
theorem Fx.mk {M : Mm} (x0 : M.1[0]? = some (6, 0)) (r0 : M.2.2 0 0 = some 1) (r1 : M.2.2 0 1 = some 10) (r2 : M.2.2 0 2 = some 19) (r4 : M.2.2 0 4 = some 28) (r5 : M.2.2 0 5 = some 66) (r6 : M.2.2 0 6 = some 68) (r7 : M.2.2 0 7 = some 69) (s1 : StP M 1) (s10 : StP M 10) (s19 : StP M 19) (s30 : StP M 30) (s39 : StP M 39) (s48 : StP M 48) (s57 : StP M 57) (x28 : M.1[28]? = some (0, 0)) (r28 : M.2.2 28 0 = some 29) (x29 : M.1[29]? = some (22, 4)) (x66 : M.1[66]? = some (5, 0)) (r66 : M.2.2 66 0 = some 67) (x67 : M.1[67]? = some (21, 60)) (x68 : M.1[68]? = some (2, 0)) (jd : JdP M) : Fx M := ⟨x0, r0, r1, r2, r4, r5, r6, r7, s1, s10, s19, s30, s39, s48, s57, x28, r28, x29, x66, r66, x67, x68, jd⟩
theorem SongP_f2 {M M2 : Mm} {k : Nat} (h : SongP M k) (h1 : M2.1 = M.1) (h2 : ∀ j, M2.2.2 k j = M.2.2 k j) : SongP M2 k := by
  unfold SongP
  rw [h1]
  exact ⟨h.1, h.2.1, fun j hj => by rw [h2]; exact h.2.2 j hj⟩
theorem StP_f2 {M M2 : Mm} {s : Nat} (h : StP M s) (h1 : M2.1 = M.1) (h2 : ∀ q k, q ≠ 29 → M2.2.2 q k = M.2.2 q k) (hs : s ≠ 29) (hs2 : s + 1 ≠ 29) : StP M2 s := by
  unfold StP
  rw [h1, h2 s 0 hs, h2 s 1 hs, h2 s 2 hs]
  exact ⟨h.1, h.2.1, h.2.2.1, h.2.2.2.1, h.2.2.2.2.1, h.2.2.2.2.2.1, SongP_f2 h.2.2.2.2.2.2 h1 (fun j => h2 _ j hs2)⟩
theorem Fx.fr {M M2 : Mm} (h : Fx M) (h1 : M2.1 = M.1) (h2 : ∀ q k, q ≠ 29 → M2.2.2 q k = M.2.2 q k) : Fx M2 := by
  apply Fx.mk
  case jd => 
    have := h.jd
    unfold JdP at this ⊢
    rw [h1]
    simp only [h2 69 _ (by decide)]
    exact this
  case s1 => exact StP_f2 h.s1 h1 h2 (by decide) (by decide)
  case s10 => exact StP_f2 h.s10 h1 h2 (by decide) (by decide)
  case s19 => exact StP_f2 h.s19 h1 h2 (by decide) (by decide)
  case s30 => exact StP_f2 h.s30 h1 h2 (by decide) (by decide)
  case s39 => exact StP_f2 h.s39 h1 h2 (by decide) (by decide)
  case s48 => exact StP_f2 h.s48 h1 h2 (by decide) (by decide)
  case s57 => exact StP_f2 h.s57 h1 h2 (by decide) (by decide)
  case x0 => rw [h1]; exact h.x0
  case r0 => rw [h2 _ _ (by decide)]; exact h.r0
  case r1 => rw [h2 _ _ (by decide)]; exact h.r1
  case r2 => rw [h2 _ _ (by decide)]; exact h.r2
  case r4 => rw [h2 _ _ (by decide)]; exact h.r4
  case r5 => rw [h2 _ _ (by decide)]; exact h.r5
  case r6 => rw [h2 _ _ (by decide)]; exact h.r6
  case r7 => rw [h2 _ _ (by decide)]; exact h.r7
  case x28 => rw [h1]; exact h.x28
  case r28 => rw [h2 _ _ (by decide)]; exact h.r28
  case x29 => rw [h1]; exact h.x29
  case x66 => rw [h1]; exact h.x66
  case r66 => rw [h2 _ _ (by decide)]; exact h.r66
  case x67 => rw [h1]; exact h.x67
  case x68 => rw [h1]; exact h.x68
theorem Fx.fr' {M M2 : Mm} (h : Fx M) (h1 : M2.1 = M.1) (h2 : M2.2.2 = M.2.2) : Fx M2 := h.fr h1 (fun q k _ => by rw [h2])
def Bk (b : Nat → Nat) : Prop := (∀ i, i < 4 → b i = 30 ∨ b i = 39 ∨ b i = 48 ∨ b i = 57) ∧ ∀ i j, i < 4 → j < 4 → b i = b j → i = j
/-- the class's half -/
def CI (M : Mm) (A : Ab) : Prop := (Fx M) ∧ (SSg M 1 A.now) ∧ (A.c ≤ 4) ∧ (M.2.1 28 1 = A.c) ∧ (∃ b, Bk b ∧ (∀ i, i < 4 → M.2.2 29 i = some (b i)) ∧ ∀ i, i < A.c → SSg M (b i) (A.hs i)) ∧ (M.2.1 0 3 = A.f) ∧ (A.f = 1 → SSg M 19 A.sn) ∧ (M.2.1 66 1 = A.tl) ∧ (∀ i, i < A.tl → M.2.1 67 i = A.tc i)
theorem CI.fx {M : Mm} {A : Ab} (h : CI M A) : Fx M := h.1
theorem CI.nw {M : Mm} {A : Ab} (h : CI M A) : SSg M 1 A.now := h.2.1
theorem CI.c4 {M : Mm} {A : Ab} (h : CI M A) : A.c ≤ 4 := h.2.2.1
theorem CI.cn {M : Mm} {A : Ab} (h : CI M A) : M.2.1 28 1 = A.c := h.2.2.2.1
theorem CI.hs {M : Mm} {A : Ab} (h : CI M A) : ∃ b, Bk b ∧ (∀ i, i < 4 → M.2.2 29 i = some (b i)) ∧ ∀ i, i < A.c → SSg M (b i) (A.hs i) := h.2.2.2.2.1
theorem CI.fl {M : Mm} {A : Ab} (h : CI M A) : M.2.1 0 3 = A.f := h.2.2.2.2.2.1
theorem CI.sn {M : Mm} {A : Ab} (h : CI M A) : A.f = 1 → SSg M 19 A.sn := h.2.2.2.2.2.2.1
theorem CI.tl {M : Mm} {A : Ab} (h : CI M A) : M.2.1 66 1 = A.tl := h.2.2.2.2.2.2.2.1
theorem CI.tc {M : Mm} {A : Ab} (h : CI M A) : ∀ i, i < A.tl → M.2.1 67 i = A.tc i := h.2.2.2.2.2.2.2.2
theorem CI.mk {M : Mm} {A : Ab} (fx : Fx M) (nw : SSg M 1 A.now) (c4 : A.c ≤ 4) (cn : M.2.1 28 1 = A.c) (hs : ∃ b, Bk b ∧ (∀ i, i < 4 → M.2.2 29 i = some (b i)) ∧ ∀ i, i < A.c → SSg M (b i) (A.hs i)) (fl : M.2.1 0 3 = A.f) (sn : A.f = 1 → SSg M 19 A.sn) (tl : M.2.1 66 1 = A.tl) (tc : ∀ i, i < A.tl → M.2.1 67 i = A.tc i) : CI M A := ⟨fx, nw, c4, cn, hs, fl, sn, tl, tc⟩
theorem SSg_fr {M M2 : Mm} {s : Nat} {S : Sg} (h : SSg M s S) (hp : StP M2 s) (h3 : ∀ q j, s + 1 ≤ q → q ≤ s + 8 → M2.2.1 q j = M.2.1 q j) : SSg M2 s S := by
  refine ⟨hp, ⟨hp.2.2.2.2.2.2, h.2.1.2.1, ?_, fun i hi => ?_⟩, fun j hj => ?_, fun t ht => ?_⟩
  · rw [h3 _ _ (by omega) (by omega)]; exact h.2.1.2.2.1
  · have := h.2.1.2.2.2 i hi
    rw [h3 _ _ (by omega) (by omega), h3 _ _ (by omega) (by omega), h3 _ _ (by omega) (by omega), h3 _ _ (by omega) (by omega), h3 _ _ (by omega) (by omega)]
    exact this
  · rw [h3 _ _ (by omega) (by omega)]; exact h.2.2.1 j hj
  · rw [h3 _ _ (by omega) (by omega)]; exact h.2.2.2 t ht
theorem Fx.b {M : Mm} (h : Fx M) {b : Nat → Nat} (hb : Bk b) {i : Nat} (hi : i < 4) : StP M (b i) ∧ (30 ≤ b i ∧ b i ≤ 57) := by
  rcases hb.1 i hi with e | e | e | e <;> rw [e]
  · exact ⟨h.s30, by decide, by decide⟩
  · exact ⟨h.s39, by decide, by decide⟩
  · exact ⟨h.s48, by decide, by decide⟩
  · exact ⟨h.s57, by decide, by decide⟩
/-- the class's half stays where its cells stay: 10..18 (would), 68..79 do not count -/
theorem CI.fr {M M2 : Mm} {A : Ab} (h : CI M A) (hf : Fx M2) (h2 : ∀ k, M2.2.2 29 k = M.2.2 29 k) (h1 : ∀ q j, q ≤ 9 ∨ (19 ≤ q ∧ q ≤ 67) → M2.2.1 q j = M.2.1 q j) : CI M2 A := by
  apply CI.mk
  case fx => exact hf
  case c4 => exact h.c4
  case nw => exact SSg_fr h.nw hf.s1 (fun q j _ _ => h1 q j (by omega))
  case cn => rw [h1 _ _ (by decide)]; exact h.cn
  case hs =>
    obtain ⟨b, hb, h3, h4⟩ := h.hs
    refine ⟨b, hb, fun i hi => by rw [h2]; exact h3 i hi, fun i hi => ?_⟩
    obtain ⟨h6, h7⟩ := hf.b hb (by have := h.c4; omega : i < 4)
    exact SSg_fr (h4 i hi) h6 (fun q j _ _ => h1 q j (by omega))
  case fl => rw [h1 _ _ (by decide)]; exact h.fl
  case sn => exact fun e => SSg_fr (h.sn e) hf.s19 (fun q j _ _ => h1 q j (by omega))
  case tl => rw [h1 _ _ (by decide)]; exact h.tl
  case tc => exact fun i hi => by rw [h1 _ _ (by decide)]; exact h.tc i hi
