/-! copy: runs -/
def hrun (i n : Int32) (z : Nat) : Bool := decide (0 ≤ i) && decide (0 ≤ n) && decide (n ≤ nI z) && decide (i ≤ nI z - n)
theorem f_hasRun {s z : Nat} (hs : s < 4) {μ : am_M} (hz : μ (94 + 2 * s) 2 = nI z) (i n : Int32) : f_X4_hasRun [vR (94 + 2 * s), vI i, vI n] μ = some (some (vI (bI (hrun i n z))), μ) := by
  unfold f_X4_hasRun g_X4_hasRun hrun
  by_cases h1 : 0 ≤ i <;> by_cases h2 : 0 ≤ n <;> by_cases h3 : n ≤ nI z <;> by_cases h4 : i ≤ nI z - n <;> simp [am_fn, am_en, am_bd_s, am_bd_n, e_n, e_u, e_b, e_c, e_k, b_z, b_2, b_and, b_or, b_not, a_0, a_1, s_k, s_pop, s_as, s_inc, s_pf, s_po, s_ia, s_io, s_cy, s_0, s_sq, s_if, s_no, s_bk, s_rt_I, s_rt_L, s_rt_A, s_rv, s_sw, o_k, o_li, o_ll, o_lr, o_ii, o_iz, o_jj, o_jz, o_ji, o_jc, o_iu, o_i2l, o_si, o_sr, o_sl, o_inc, am_cl, am_cs, am_m1, am_m2, am_c1, am_c0, am_c2, am_se, am_nl, am_nr, am_wh, List.getElem?_cons_zero, List.getElem?_cons_succ, List.length_cons, List.length_nil, Option.map_some, Option.map_none, List.reverse_cons, List.set_cons_succ, List.set_cons_zero, List.take_succ_cons, List.take_zero, List.cons_append, List.nil_append, gv_S_2 hs, hz, h1, h2, h3, h4, bI]
theorem hrun_t {i n : Int32} {z : Nat} (hz : z ≤ 60) (h : hrun i n z = true) : ∃ a c : Nat, i = nI a ∧ n = nI c ∧ a + c ≤ z := by
  unfold hrun at h
  simp only [Bool.and_eq_true, decide_eq_true_eq] at h
  obtain ⟨⟨⟨h1, h2⟩, h3⟩, h4⟩ := h
  obtain ⟨c, hc, rfl⟩ := nI_of (x := n) (Int32.not_lt.mpr h2)
  have hcz : c ≤ z := (nI_leI hc (by omega)).mp h3
  obtain ⟨a, ha, rfl⟩ := nI_of (x := i) (Int32.not_lt.mpr h1)
  rw [pk_sub hcz] at h4
  have := (nI_leI ha (by omega)).mp h4
  exact ⟨a, c, rfl, rfl, by omega⟩
theorem hrun_in {a c z : Nat} (hz : z ≤ 60) (h : a + c ≤ z) : hrun (nI a) (nI c) z = true := by
  unfold hrun
  rw [pk_sub (show c ≤ z by omega)]
  simp only [Bool.and_eq_true, decide_eq_true_eq]
  exact ⟨⟨⟨nI_nn (by omega), nI_nn (by omega)⟩, nI_le (by omega) (by omega)⟩, nI_le (by omega) (by omega)⟩
