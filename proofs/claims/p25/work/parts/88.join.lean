set_option maxRecDepth 20000 in
theorem Fx_join {M : Mm} (hP : M.1 = XP7) (h : X6P M) : Fx M := by
  obtain ⟨⟨a0, a1, a2, a4, a5, a6, a7, a3⟩, ⟨b1, b2⟩, ⟨c1, c2⟩, ⟨d1, d2⟩, ⟨e1, e2, e3⟩, ⟨f1, f2⟩, g⟩ := h
  apply Fx.mk
  case x0 => rw [hP]; rfl
  case r0 => exact a0
  case r1 => exact a1
  case r2 => exact a2
  case r4 => exact a4
  case r5 => exact a5
  case r6 => exact a6
  case r7 => exact a7
  case s1 => exact StP_s hP rfl rfl (fun j hj => st_sh hj rfl rfl rfl rfl rfl) rfl rfl b1
  case s10 => exact StP_s hP rfl rfl (fun j hj => st_sh hj rfl rfl rfl rfl rfl) rfl rfl c1
  case s19 => exact StP_s hP rfl rfl (fun j hj => st_sh hj rfl rfl rfl rfl rfl) rfl rfl d1
  case s30 => exact StP_s hP rfl rfl (fun j hj => st_sh hj rfl rfl rfl rfl rfl) rfl rfl (e3 0 (by decide)).2.1
  case s39 => exact StP_s hP rfl rfl (fun j hj => st_sh hj rfl rfl rfl rfl rfl) rfl rfl (e3 1 (by decide)).2.1
  case s48 => exact StP_s hP rfl rfl (fun j hj => st_sh hj rfl rfl rfl rfl rfl) rfl rfl (e3 2 (by decide)).2.1
  case s57 => exact StP_s hP rfl rfl (fun j hj => st_sh hj rfl rfl rfl rfl rfl) rfl rfl (e3 3 (by decide)).2.1
  case x28 => rw [hP]; rfl
  case r28 => exact e1
  case x29 => rw [hP]; rfl
  case x66 => rw [hP]; rfl
  case r66 => exact f1
  case x67 => rw [hP]; rfl
  case x68 => rw [hP]; rfl
  case jd =>
    unfold JdP
    rw [hP]
    exact ⟨rfl, ⟨rfl, rfl, rfl, rfl, rfl, rfl, rfl, rfl, rfl, rfl⟩, g 0 (by decide), g 1 (by decide), g 2 (by decide), g 3 (by decide), g 4 (by decide), g 5 (by decide), g 6 (by decide), g 7 (by decide), g 8 (by decide), g 9 (by decide)⟩
set_option maxRecDepth 20000 in
theorem CI_join {M : Mm} (hf : Fx M) (h : X6P M) : CI M A0 := by
  obtain ⟨⟨a0, a1, a2, a4, a5, a6, a7, a3⟩, ⟨b1, b2⟩, ⟨c1, c2⟩, ⟨d1, d2⟩, ⟨e1, e2, e3⟩, ⟨f1, f2⟩, g⟩ := h
  apply CI.mk
  case fx => exact hf
  case nw => exact ⟨hf.s1, ⟨hf.s1.2.2.2.2.2.2, Nat.zero_le 40, b2.1, fun i hi => absurd hi (Nat.not_lt_zero i)⟩, b2.2.1, b2.2.2⟩
  case c4 => exact Nat.zero_le 4
  case cn => exact e2
  case hs => exact ⟨fun i => 28 + 2 + 9 * i, ⟨fun i hi => by show 28 + 2 + 9 * i = 30 ∨ 28 + 2 + 9 * i = 39 ∨ 28 + 2 + 9 * i = 48 ∨ 28 + 2 + 9 * i = 57; omega, fun i j _ _ e => by simp only at e; omega⟩, fun i hi => (e3 i hi).1, fun i hi => absurd hi (Nat.not_lt_zero i)⟩
  case fl => exact a3
  case sn => exact fun e => absurd (show (0 : Int) = 1 from e) (by decide)
  case tl => exact f2
  case tc => exact fun i hi => absurd hi (Nat.not_lt_zero i)
