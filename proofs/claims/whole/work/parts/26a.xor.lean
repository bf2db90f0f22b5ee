/-! xor -/
theorem ib_ixor {S : am_S} : am_IB S (.ixor, 1, none) (o_ii (fun x y => x ^^^ y)) := by
  rintro ⟨p, l, e, R, s, m, args, below, meth, c, Q, D, cs, ad, A, nc, ns⟩ hO pc hf env st μ v1 v2 w hw k H locs ls hP hD hS hl
  obtain ⟨x, y, rfl, rfl, rfl⟩ := o_ii_ok hw
  exact lv_ixor hO.1 hO.2.1 hf.1 (k H locs ls hP hD hS hl)
def x_ixor {S : am_S} (a b : am_XP S) : am_XP S := x_b _ _ ib_ixor a b
abbrev o_ixor : AV → AV → am_M → Option AV := o_ii (fun x y => x ^^^ y)
