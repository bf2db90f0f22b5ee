/-! copy: the reference -/
theorem lg_gt0 (x y : Int64) : (0 < lg_cmp x y) ↔ y < x := by
  unfold lg_cmp
  by_cases h1 : x > y
  · rw [if_pos h1]
    exact ⟨fun _ => h1, fun _ => by decide⟩
  · rw [if_neg h1]
    by_cases h3 : x = y
    · rw [if_pos h3]
      exact ⟨fun h => absurd h (by decide), fun h => absurd h h1⟩
    · rw [if_neg h3]
      exact ⟨fun h => absurd h (by decide), fun h => absurd h h1⟩
theorem hrun_nI {a c z : Nat} (ha : a < 2 ^ 31) (hc : c < 2 ^ 31) (hz : z ≤ 60) : hrun (nI a) (nI c) z = decide (a + c ≤ z) := by
  by_cases h : a + c ≤ z
  · rw [hrun_in hz h, decide_eq_true h]
  · rw [decide_eq_false h]
    cases h9 : hrun (nI a) (nI c) z
    · rfl
    · obtain ⟨a', c', e1, e2, h8⟩ := hrun_t hz h9
      have f1 := (nI_eq ha (by omega)).mp e1
      have f2 := (nI_eq hc (by omega)).mp e2
      omega
theorem sum_gt {a c z : Nat} (ha : a < 2 ^ 31) (hc : c < 2 ^ 31) (hz : z ≤ 60) : ((nI z).toInt64 < (nI a).toInt64 + (nI c).toInt64) = (z < a + c) := by
  rw [nI_l ha, nI_l hc, nI_l (show z < 2 ^ 31 by omega), lN_add]
  exact propext (pk_lLT (by omega) (by omega))
theorem M_copy_bad {s t : Int32} (h : (rg s 4 && rg t 4) = false) (i j n : Int32) (μ : am_M) : f_X11_copy [vR 0, vI s, vI i, vI t, vI j, vI n] μ = some (some (vI (-2)), μ) := by
  unfold f_X11_copy g_X11_copy
  cases h1 : rg s 4
  · simp [am_fn, am_en, am_bd_s, am_bd_n, e_n, e_u, e_b, e_c, e_k, b_z, b_2, b_and, b_or, b_not, a_0, a_1, s_k, s_pop, s_as, s_inc, s_pf, s_po, s_ia, s_io, s_cy, s_0, s_sq, s_if, s_no, s_bk, s_rt_I, s_rt_L, s_rt_A, s_rv, s_sw, o_k, o_li, o_ll, o_lr, o_ii, o_iz, o_jj, o_jz, o_ji, o_jc, o_iu, o_i2l, o_si, o_sr, o_sl, o_inc, am_cl, am_cs, am_m1, am_m2, am_c1, am_c0, am_c2, am_se, am_nl, am_nr, am_wh, List.getElem?_cons_zero, List.getElem?_cons_succ, List.length_cons, List.length_nil, Option.map_some, Option.map_none, List.reverse_cons, List.set_cons_succ, List.set_cons_zero, List.take_succ_cons, List.take_zero, List.cons_append, List.nil_append, f_isSheet, h1, bI]
  · rw [h1, Bool.true_and] at h
    simp [am_fn, am_en, am_bd_s, am_bd_n, e_n, e_u, e_b, e_c, e_k, b_z, b_2, b_and, b_or, b_not, a_0, a_1, s_k, s_pop, s_as, s_inc, s_pf, s_po, s_ia, s_io, s_cy, s_0, s_sq, s_if, s_no, s_bk, s_rt_I, s_rt_L, s_rt_A, s_rv, s_sw, o_k, o_li, o_ll, o_lr, o_ii, o_iz, o_jj, o_jz, o_ji, o_jc, o_iu, o_i2l, o_si, o_sr, o_sl, o_inc, am_cl, am_cs, am_m1, am_m2, am_c1, am_c0, am_c2, am_se, am_nl, am_nr, am_wh, List.getElem?_cons_zero, List.getElem?_cons_succ, List.length_cons, List.length_nil, Option.map_some, Option.map_none, List.reverse_cons, List.set_cons_succ, List.set_cons_zero, List.take_succ_cons, List.take_zero, List.cons_append, List.nil_append, f_isSheet, h1, h, bI]
theorem M_copy_null {s t : Nat} (hs : s < 4) (ht : t < 4) (h1 : rg (nI s) 4 = true) (h2 : rg (nI t) 4 = true) {μ : am_M} (h3 : (μ 1 s < 0) = True ∨ ((μ 1 s < 0) = False ∧ (μ 1 t < 0) = True)) (i j n : Int32) : f_X11_copy [vR 0, vI (nI s), vI i, vI (nI t), vI j, vI n] μ = some (some (vI (-10 - 1)), am_up μ 0 4 1) := by
  unfold f_X11_copy g_X11_copy
  rcases h3 with h3 | ⟨h3, h4⟩
  · simp [am_fn, am_en, am_bd_s, am_bd_n, e_n, e_u, e_b, e_c, e_k, b_z, b_2, b_and, b_or, b_not, a_0, a_1, s_k, s_pop, s_as, s_inc, s_pf, s_po, s_ia, s_io, s_cy, s_0, s_sq, s_if, s_no, s_bk, s_rt_I, s_rt_L, s_rt_A, s_rv, s_sw, o_k, o_li, o_ll, o_lr, o_ii, o_iz, o_jj, o_jz, o_ji, o_jc, o_iu, o_i2l, o_si, o_sr, o_sl, o_inc, am_cl, am_cs, am_m1, am_m2, am_c1, am_c0, am_c2, am_se, am_nl, am_nr, am_wh, List.getElem?_cons_zero, List.getElem?_cons_succ, List.length_cons, List.length_nil, Option.map_some, Option.map_none, List.reverse_cons, List.set_cons_succ, List.set_cons_zero, List.take_succ_cons, List.take_zero, List.cons_append, List.nil_append, f_isSheet, h1, h2, bI, gv_M_0_0, lv_M_1 hs, lv_M_1 ht, h3, ck_M_0, f_finds]
  · simp [am_fn, am_en, am_bd_s, am_bd_n, e_n, e_u, e_b, e_c, e_k, b_z, b_2, b_and, b_or, b_not, a_0, a_1, s_k, s_pop, s_as, s_inc, s_pf, s_po, s_ia, s_io, s_cy, s_0, s_sq, s_if, s_no, s_bk, s_rt_I, s_rt_L, s_rt_A, s_rv, s_sw, o_k, o_li, o_ll, o_lr, o_ii, o_iz, o_jj, o_jz, o_ji, o_jc, o_iu, o_i2l, o_si, o_sr, o_sl, o_inc, am_cl, am_cs, am_m1, am_m2, am_c1, am_c0, am_c2, am_se, am_nl, am_nr, am_wh, List.getElem?_cons_zero, List.getElem?_cons_succ, List.length_cons, List.length_nil, Option.map_some, Option.map_none, List.reverse_cons, List.set_cons_succ, List.set_cons_zero, List.take_succ_cons, List.take_zero, List.cons_append, List.nil_append, f_isSheet, h1, h2, bI, gv_M_0_0, lv_M_1 hs, lv_M_1 ht, h3, h4, ck_M_0, f_finds]
theorem M_copy_store {s t : Nat} (hs : s < 4) (ht : t < 4) (h1 : rg (nI s) 4 = true) (h2 : rg (nI t) 4 = true) {μ : am_M} (h3 : (μ 1 s < 0) = False) (h4 : (μ 1 t < 0) = False) (h5 : (μ 1 s = μ 1 t) = False) (i j n : Int32) : f_X11_copy [vR 0, vI (nI s), vI i, vI (nI t), vI j, vI n] μ = some (some (vI (-10 - 4)), am_up μ 0 4 4) := by
  unfold f_X11_copy g_X11_copy
  simp [am_fn, am_en, am_bd_s, am_bd_n, e_n, e_u, e_b, e_c, e_k, b_z, b_2, b_and, b_or, b_not, a_0, a_1, s_k, s_pop, s_as, s_inc, s_pf, s_po, s_ia, s_io, s_cy, s_0, s_sq, s_if, s_no, s_bk, s_rt_I, s_rt_L, s_rt_A, s_rv, s_sw, o_k, o_li, o_ll, o_lr, o_ii, o_iz, o_jj, o_jz, o_ji, o_jc, o_iu, o_i2l, o_si, o_sr, o_sl, o_inc, am_cl, am_cs, am_m1, am_m2, am_c1, am_c0, am_c2, am_se, am_nl, am_nr, am_wh, List.getElem?_cons_zero, List.getElem?_cons_succ, List.length_cons, List.length_nil, Option.map_some, Option.map_none, List.reverse_cons, List.set_cons_succ, List.set_cons_zero, List.take_succ_cons, List.take_zero, List.cons_append, List.nil_append, f_isSheet, h1, h2, bI, gv_M_0_0, lv_M_1 hs, lv_M_1 ht, h3, h4, h5, ck_M_0, f_finds]
