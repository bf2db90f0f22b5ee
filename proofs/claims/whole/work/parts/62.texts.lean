/-! type, wipe, undo -/
theorem nI_nn {n : Nat} (h : n < 2 ^ 31) : (0 : Int32) ≤ nI n := nI_pos' h
theorem nI_ltL {n m : Nat} (hn : n < 2 ^ 31) (hm : m < 2 ^ 31) : (nI n < nI m) ↔ n < m := nI_ltI hn hm
theorem am_c0_bI (b : Bool) : am_c0 .ne (bI b) = b := by cases b <;> simp [bI, am_c0]
theorem X_type_bad {t b : Int32} (h : ¬ ((0 ≤ t ∧ t < 3) ∧ (0 ≤ b ∧ b < 256))) (μ : am_M) : f_X10_type [vR 0, vI t, vI b] μ = some (some (vI (-2)), μ) := by
  unfold f_X10_type g_X10_type
  by_cases h1 : 0 ≤ t ∧ t < 3
  · have h2 : ¬ (0 ≤ b ∧ b < 256) := fun h9 => h ⟨h1, h9⟩
    by_cases h3 : 0 ≤ b
    · have h4 : ¬ b < 256 := fun h9 => h2 ⟨h3, h9⟩
      simp [am_fn, am_en, am_bd_s, am_bd_n, e_n, e_u, e_b, e_c, e_k, b_z, b_2, b_and, b_or, b_not, a_0, a_1, s_k, s_pop, s_as, s_inc, s_pf, s_po, s_ia, s_io, s_cy, s_0, s_sq, s_if, s_no, s_bk, s_rt_I, s_rt_L, s_rt_A, s_rv, s_sw, o_k, o_li, o_ll, o_lr, o_ii, o_iz, o_jj, o_jz, o_ji, o_jc, o_iu, o_i2l, o_si, o_sr, o_sl, o_inc, am_cl, am_cs, am_m1, am_m2, am_c1, am_c0, am_c2, am_se, am_nl, am_nr, am_wh, List.getElem?_cons_zero, List.getElem?_cons_succ, List.length_cons, List.length_nil, Option.map_some, Option.map_none, List.reverse_cons, List.set_cons_succ, List.set_cons_zero, List.take_succ_cons, List.take_zero, List.cons_append, List.nil_append, f_within, am_c0_bI, h1.1, h1.2, h3, h4, bI]
    · simp [am_fn, am_en, am_bd_s, am_bd_n, e_n, e_u, e_b, e_c, e_k, b_z, b_2, b_and, b_or, b_not, a_0, a_1, s_k, s_pop, s_as, s_inc, s_pf, s_po, s_ia, s_io, s_cy, s_0, s_sq, s_if, s_no, s_bk, s_rt_I, s_rt_L, s_rt_A, s_rv, s_sw, o_k, o_li, o_ll, o_lr, o_ii, o_iz, o_jj, o_jz, o_ji, o_jc, o_iu, o_i2l, o_si, o_sr, o_sl, o_inc, am_cl, am_cs, am_m1, am_m2, am_c1, am_c0, am_c2, am_se, am_nl, am_nr, am_wh, List.getElem?_cons_zero, List.getElem?_cons_succ, List.length_cons, List.length_nil, Option.map_some, Option.map_none, List.reverse_cons, List.set_cons_succ, List.set_cons_zero, List.take_succ_cons, List.take_zero, List.cons_append, List.nil_append, f_within, am_c0_bI, h1.1, h1.2, h3, bI]
  · by_cases h3 : 0 ≤ t
    · have h4 : ¬ t < 3 := fun h9 => h1 ⟨h3, h9⟩
      simp [am_fn, am_en, am_bd_s, am_bd_n, e_n, e_u, e_b, e_c, e_k, b_z, b_2, b_and, b_or, b_not, a_0, a_1, s_k, s_pop, s_as, s_inc, s_pf, s_po, s_ia, s_io, s_cy, s_0, s_sq, s_if, s_no, s_bk, s_rt_I, s_rt_L, s_rt_A, s_rv, s_sw, o_k, o_li, o_ll, o_lr, o_ii, o_iz, o_jj, o_jz, o_ji, o_jc, o_iu, o_i2l, o_si, o_sr, o_sl, o_inc, am_cl, am_cs, am_m1, am_m2, am_c1, am_c0, am_c2, am_se, am_nl, am_nr, am_wh, List.getElem?_cons_zero, List.getElem?_cons_succ, List.length_cons, List.length_nil, Option.map_some, Option.map_none, List.reverse_cons, List.set_cons_succ, List.set_cons_zero, List.take_succ_cons, List.take_zero, List.cons_append, List.nil_append, f_within, am_c0_bI, h3, h4, bI]
    · simp [am_fn, am_en, am_bd_s, am_bd_n, e_n, e_u, e_b, e_c, e_k, b_z, b_2, b_and, b_or, b_not, a_0, a_1, s_k, s_pop, s_as, s_inc, s_pf, s_po, s_ia, s_io, s_cy, s_0, s_sq, s_if, s_no, s_bk, s_rt_I, s_rt_L, s_rt_A, s_rv, s_sw, o_k, o_li, o_ll, o_lr, o_ii, o_iz, o_jj, o_jz, o_ji, o_jc, o_iu, o_i2l, o_si, o_sr, o_sl, o_inc, am_cl, am_cs, am_m1, am_m2, am_c1, am_c0, am_c2, am_se, am_nl, am_nr, am_wh, List.getElem?_cons_zero, List.getElem?_cons_succ, List.length_cons, List.length_nil, Option.map_some, Option.map_none, List.reverse_cons, List.set_cons_succ, List.set_cons_zero, List.take_succ_cons, List.take_zero, List.cons_append, List.nil_append, f_within, am_c0_bI, h3, bI]
theorem X_type_full {t b n m : Nat} (ht : t < 3) (hb : b < 256) {μ : am_M} (hn : μ (1 + 2 * t) 2 = nI n) (hm : μ (1 + 2 * t) 1 = nI m) (hmn : m ≤ n) (hn9 : n < 100) : f_X10_type [vR 0, vI (nI t), vI (nI b)] μ = some (some (vI (-4)), μ) := by
  unfold f_X10_type g_X10_type
  have a1 : (0 : Int32) ≤ nI t := nI_nn (by omega)
  have a2 : nI t < 3 := nI_lt (b := 3) ht (by decide)
  have a3 : (0 : Int32) ≤ nI b := nI_nn (by omega)
  have a4 : nI b < 256 := nI_lt (b := 256) hb (by decide)
  have a5 : nI m ≤ nI n := nI_le hmn (by omega)
  simp [am_fn, am_en, am_bd_s, am_bd_n, e_n, e_u, e_b, e_c, e_k, b_z, b_2, b_and, b_or, b_not, a_0, a_1, s_k, s_pop, s_as, s_inc, s_pf, s_po, s_ia, s_io, s_cy, s_0, s_sq, s_if, s_no, s_bk, s_rt_I, s_rt_L, s_rt_A, s_rv, s_sw, o_k, o_li, o_ll, o_lr, o_ii, o_iz, o_jj, o_jz, o_ji, o_jc, o_iu, o_i2l, o_si, o_sr, o_sl, o_inc, am_cl, am_cs, am_m1, am_m2, am_c1, am_c0, am_c2, am_se, am_nl, am_nr, am_wh, List.getElem?_cons_zero, List.getElem?_cons_succ, List.length_cons, List.length_nil, Option.map_some, Option.map_none, List.reverse_cons, List.set_cons_succ, List.set_cons_zero, List.take_succ_cons, List.take_zero, List.cons_append, List.nil_append, f_within, f_textOf ht, am_c0_bI, a1, a2, a3, a4, bI, ck_X_0, gv_T_2 ht, gv_T_1 ht, hn, hm, a5]
theorem X_type_ok {t b n m : Nat} (ht : t < 3) (hb : b < 256) {μ : am_M} (hn : μ (1 + 2 * t) 2 = nI n) (hm : μ (1 + 2 * t) 1 = nI m) (hmn : n < m) (hm9 : m ≤ 71) : f_X10_type [vR 0, vI (nI t), vI (nI b)] μ = some (some (vI (nI (n + 1))), am_up (am_up (am_up μ (2 + 2 * t) n (nI b)) (1 + 2 * t) 2 (nI (n + 1))) 0 16 1) := by
  unfold f_X10_type g_X10_type
  have a1 : (0 : Int32) ≤ nI t := nI_nn (by omega)
  have a2 : nI t < 3 := nI_lt (b := 3) ht (by decide)
  have a3 : (0 : Int32) ≤ nI b := nI_nn (by omega)
  have a4 : nI b < 256 := nI_lt (b := 256) hb (by decide)
  have a5 : ¬ nI m ≤ nI n := nI_ge hmn (by omega)
  have a6 : n < 71 := by omega
  have a7 : am_up μ (2 + 2 * t) n (nI b) (1 + 2 * t) 2 = nI n := by rw [am_up_ne _ _ (by omega), hn]
  have a8 : am_up (am_up (am_up μ (2 + 2 * t) n (nI b)) (1 + 2 * t) 2 (nI (n + 1))) 0 16 1 (1 + 2 * t) 2 = nI (n + 1) := by rw [am_up_ne _ _ (by omega), am_up_eq]
  simp [am_fn, am_en, am_bd_s, am_bd_n, e_n, e_u, e_b, e_c, e_k, b_z, b_2, b_and, b_or, b_not, a_0, a_1, s_k, s_pop, s_as, s_inc, s_pf, s_po, s_ia, s_io, s_cy, s_0, s_sq, s_if, s_no, s_bk, s_rt_I, s_rt_L, s_rt_A, s_rv, s_sw, o_k, o_li, o_ll, o_lr, o_ii, o_iz, o_jj, o_jz, o_ji, o_jc, o_iu, o_i2l, o_si, o_sr, o_sl, o_inc, am_cl, am_cs, am_m1, am_m2, am_c1, am_c0, am_c2, am_se, am_nl, am_nr, am_wh, List.getElem?_cons_zero, List.getElem?_cons_succ, List.length_cons, List.length_nil, Option.map_some, Option.map_none, List.reverse_cons, List.set_cons_succ, List.set_cons_zero, List.take_succ_cons, List.take_zero, List.cons_append, List.nil_append, f_within, f_textOf ht, am_c0_bI, a1, a2, a3, a4, bI, ck_X_0, gv_T_2 ht, gv_T_1 ht, gv_T_0 ht, hn, hm, a5, wv_T_0 ht a6, pv_T_2 ht, pv_X_0_16, a7, a8, nI_1]
