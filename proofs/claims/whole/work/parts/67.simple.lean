/-! wipe, undo, forget, back: both sides, and as operations -/
theorem f_w_2 (x : Int32) (μ : am_M) : f_X10_within [vI x, vI 2] μ = some (some (vI (bI (rg x 2))), μ) := f_within x 2 μ
theorem f_i_2 (x : Int32) (μ : am_M) : f_X11_in [vL x.toInt64, vL 0, vL 1] μ = some (some (vI (bI (rg x 2))), μ) := f_in32 x (n := 1) (by decide) μ
theorem f_w_3 (x : Int32) (μ : am_M) : f_X10_within [vI x, vI 3] μ = some (some (vI (bI (rg x 3))), μ) := f_within x 3 μ
theorem f_i_3 (x : Int32) (μ : am_M) : f_X11_in [vL x.toInt64, vL 0, vL 2] μ = some (some (vI (bI (rg x 3))), μ) := f_in32 x (n := 2) (by decide) μ
theorem f_w_4 (x : Int32) (μ : am_M) : f_X10_within [vI x, vI 4] μ = some (some (vI (bI (rg x 4))), μ) := f_within x 4 μ
theorem f_i_4 (x : Int32) (μ : am_M) : f_X11_in [vL x.toInt64, vL 0, vL 3] μ = some (some (vI (bI (rg x 4))), μ) := f_in32 x (n := 3) (by decide) μ
theorem f_w_5 (x : Int32) (μ : am_M) : f_X10_within [vI x, vI 5] μ = some (some (vI (bI (rg x 5))), μ) := f_within x 5 μ
theorem f_i_5 (x : Int32) (μ : am_M) : f_X11_in [vL x.toInt64, vL 0, vL 4] μ = some (some (vI (bI (rg x 5))), μ) := f_in32 x (n := 4) (by decide) μ
theorem f_w_6 (x : Int32) (μ : am_M) : f_X10_within [vI x, vI 6] μ = some (some (vI (bI (rg x 6))), μ) := f_within x 6 μ
theorem f_i_6 (x : Int32) (μ : am_M) : f_X11_in [vL x.toInt64, vL 0, vL 5] μ = some (some (vI (bI (rg x 6))), μ) := f_in32 x (n := 5) (by decide) μ
theorem f_w_8 (x : Int32) (μ : am_M) : f_X10_within [vI x, vI 8] μ = some (some (vI (bI (rg x 8))), μ) := f_within x 8 μ
theorem f_i_8 (x : Int32) (μ : am_M) : f_X11_in [vL x.toInt64, vL 0, vL 7] μ = some (some (vI (bI (rg x 8))), μ) := f_in32 x (n := 7) (by decide) μ
theorem f_w_9 (x : Int32) (μ : am_M) : f_X10_within [vI x, vI 9] μ = some (some (vI (bI (rg x 9))), μ) := f_within x 9 μ
theorem f_i_9 (x : Int32) (μ : am_M) : f_X11_in [vL x.toInt64, vL 0, vL 8] μ = some (some (vI (bI (rg x 9))), μ) := f_in32 x (n := 8) (by decide) μ
theorem f_w_10 (x : Int32) (μ : am_M) : f_X10_within [vI x, vI 10] μ = some (some (vI (bI (rg x 10))), μ) := f_within x 10 μ
theorem f_i_10 (x : Int32) (μ : am_M) : f_X11_in [vL x.toInt64, vL 0, vL 9] μ = some (some (vI (bI (rg x 10))), μ) := f_in32 x (n := 9) (by decide) μ
theorem f_w_17 (x : Int32) (μ : am_M) : f_X10_within [vI x, vI 17] μ = some (some (vI (bI (rg x 17))), μ) := f_within x 17 μ
theorem f_i_17 (x : Int32) (μ : am_M) : f_X11_in [vL x.toInt64, vL 0, vL 16] μ = some (some (vI (bI (rg x 17))), μ) := f_in32 x (n := 16) (by decide) μ
theorem f_w_20 (x : Int32) (μ : am_M) : f_X10_within [vI x, vI 20] μ = some (some (vI (bI (rg x 20))), μ) := f_within x 20 μ
theorem f_i_20 (x : Int32) (μ : am_M) : f_X11_in [vL x.toInt64, vL 0, vL 19] μ = some (some (vI (bI (rg x 20))), μ) := f_in32 x (n := 19) (by decide) μ
theorem f_w_256 (x : Int32) (μ : am_M) : f_X10_within [vI x, vI 256] μ = some (some (vI (bI (rg x 256))), μ) := f_within x 256 μ
theorem f_i_256 (x : Int32) (μ : am_M) : f_X11_in [vL x.toInt64, vL 0, vL 255] μ = some (some (vI (bI (rg x 256))), μ) := f_in32 x (n := 255) (by decide) μ
theorem nI_dec {n : Nat} (h : n ≠ 0) : nI n - 1 = nI (n - 1) := by
  have := nI_pred (n - 1)
  rw [Nat.sub_add_cancel (by omega)] at this
  exact this
theorem nI_eq0 {n : Nat} (h : n < 2 ^ 31) : (nI n = 0) = (n = 0) := propext ⟨fun h9 => (nI_eq h (by decide)).mp (h9.trans nI_0.symm), fun h9 => by rw [h9]; exact nI_0⟩
theorem X_wipe_bad {t : Int32} (h : rg t 3 = false) (μ : am_M) : f_X10_wipe [vR 0, vI t] μ = some (some (vI (-2)), μ) := by
  unfold f_X10_wipe g_X10_wipe
  simp [am_fn, am_en, am_bd_s, am_bd_n, e_n, e_u, e_b, e_c, e_k, b_z, b_2, b_and, b_or, b_not, a_0, a_1, s_k, s_pop, s_as, s_inc, s_pf, s_po, s_ia, s_io, s_cy, s_0, s_sq, s_if, s_no, s_bk, s_rt_I, s_rt_L, s_rt_A, s_rv, s_sw, o_k, o_li, o_ll, o_lr, o_ii, o_iz, o_jj, o_jz, o_ji, o_jc, o_iu, o_i2l, o_si, o_sr, o_sl, o_inc, am_cl, am_cs, am_m1, am_m2, am_c1, am_c0, am_c2, am_se, am_nl, am_nr, am_wh, List.getElem?_cons_zero, List.getElem?_cons_succ, List.length_cons, List.length_nil, Option.map_some, Option.map_none, List.reverse_cons, List.set_cons_succ, List.set_cons_zero, List.take_succ_cons, List.take_zero, List.cons_append, List.nil_append, f_w_3, h, bI]
theorem X_wipe_ok {t : Nat} (ht : t < 3) (μ : am_M) : f_X10_wipe [vR 0, vI (nI t)] μ = some (some (vI (μ (1 + 2 * t) 2)), am_up (am_up μ (1 + 2 * t) 2 0) 0 16 1) := by
  unfold f_X10_wipe g_X10_wipe
  simp [am_fn, am_en, am_bd_s, am_bd_n, e_n, e_u, e_b, e_c, e_k, b_z, b_2, b_and, b_or, b_not, a_0, a_1, s_k, s_pop, s_as, s_inc, s_pf, s_po, s_ia, s_io, s_cy, s_0, s_sq, s_if, s_no, s_bk, s_rt_I, s_rt_L, s_rt_A, s_rv, s_sw, o_k, o_li, o_ll, o_lr, o_ii, o_iz, o_jj, o_jz, o_ji, o_jc, o_iu, o_i2l, o_si, o_sr, o_sl, o_inc, am_cl, am_cs, am_m1, am_m2, am_c1, am_c0, am_c2, am_se, am_nl, am_nr, am_wh, List.getElem?_cons_zero, List.getElem?_cons_succ, List.length_cons, List.length_nil, Option.map_some, Option.map_none, List.reverse_cons, List.set_cons_succ, List.set_cons_zero, List.take_succ_cons, List.take_zero, List.cons_append, List.nil_append, f_w_3, rg_in ht (show 3 < 2 ^ 31 by decide), bI, f_textOf ht, ck_X_0, gv_T_2 ht, pv_T_2 ht, pv_X_0_16]
theorem M_wipe_bad {t : Int32} (h : rg t 3 = false) (μ : am_M) : f_X11_wipe [vR 0, vI t] μ = some (some (vI (-2)), μ) := by
  unfold f_X11_wipe g_X11_wipe
  simp [am_fn, am_en, am_bd_s, am_bd_n, e_n, e_u, e_b, e_c, e_k, b_z, b_2, b_and, b_or, b_not, a_0, a_1, s_k, s_pop, s_as, s_inc, s_pf, s_po, s_ia, s_io, s_cy, s_0, s_sq, s_if, s_no, s_bk, s_rt_I, s_rt_L, s_rt_A, s_rv, s_sw, o_k, o_li, o_ll, o_lr, o_ii, o_iz, o_jj, o_jz, o_ji, o_jc, o_iu, o_i2l, o_si, o_sr, o_sl, o_inc, am_cl, am_cs, am_m1, am_m2, am_c1, am_c0, am_c2, am_se, am_nl, am_nr, am_wh, List.getElem?_cons_zero, List.getElem?_cons_succ, List.length_cons, List.length_nil, Option.map_some, Option.map_none, List.reverse_cons, List.set_cons_succ, List.set_cons_zero, List.take_succ_cons, List.take_zero, List.cons_append, List.nil_append, f_isText, h, bI]
theorem M_wipe_ok {t : Nat} (ht : t < 3) (μ : am_M) : f_X11_wipe [vR 0, vI (nI t)] μ = some (some (vI (μ 6 t)), am_up μ 6 t 0) := by
  unfold f_X11_wipe g_X11_wipe
  simp [am_fn, am_en, am_bd_s, am_bd_n, e_n, e_u, e_b, e_c, e_k, b_z, b_2, b_and, b_or, b_not, a_0, a_1, s_k, s_pop, s_as, s_inc, s_pf, s_po, s_ia, s_io, s_cy, s_0, s_sq, s_if, s_no, s_bk, s_rt_I, s_rt_L, s_rt_A, s_rv, s_sw, o_k, o_li, o_ll, o_lr, o_ii, o_iz, o_jj, o_jz, o_ji, o_jc, o_iu, o_i2l, o_si, o_sr, o_sl, o_inc, am_cl, am_cs, am_m1, am_m2, am_c1, am_c0, am_c2, am_se, am_nl, am_nr, am_wh, List.getElem?_cons_zero, List.getElem?_cons_succ, List.length_cons, List.length_nil, Option.map_some, Option.map_none, List.reverse_cons, List.set_cons_succ, List.set_cons_zero, List.take_succ_cons, List.take_zero, List.cons_append, List.nil_append, f_isText, rg_in ht (show 3 < 2 ^ 31 by decide), bI, gv_M_0_6, lv_M_6 ht, wv_M_6 ht]
theorem X_undo_bad {t : Int32} (h : rg t 3 = false) (μ : am_M) : f_X10_undo [vR 0, vI t] μ = some (some (vI (-2)), μ) := by
  unfold f_X10_undo g_X10_undo
  simp [am_fn, am_en, am_bd_s, am_bd_n, e_n, e_u, e_b, e_c, e_k, b_z, b_2, b_and, b_or, b_not, a_0, a_1, s_k, s_pop, s_as, s_inc, s_pf, s_po, s_ia, s_io, s_cy, s_0, s_sq, s_if, s_no, s_bk, s_rt_I, s_rt_L, s_rt_A, s_rv, s_sw, o_k, o_li, o_ll, o_lr, o_ii, o_iz, o_jj, o_jz, o_ji, o_jc, o_iu, o_i2l, o_si, o_sr, o_sl, o_inc, am_cl, am_cs, am_m1, am_m2, am_c1, am_c0, am_c2, am_se, am_nl, am_nr, am_wh, List.getElem?_cons_zero, List.getElem?_cons_succ, List.length_cons, List.length_nil, Option.map_some, Option.map_none, List.reverse_cons, List.set_cons_succ, List.set_cons_zero, List.take_succ_cons, List.take_zero, List.cons_append, List.nil_append, f_w_3, h, bI]
theorem X_undo_not {t : Nat} (ht : t < 3) {μ : am_M} (hn : μ (1 + 2 * t) 2 = 0) : f_X10_undo [vR 0, vI (nI t)] μ = some (some (vI (-3)), μ) := by
  unfold f_X10_undo g_X10_undo
  simp [am_fn, am_en, am_bd_s, am_bd_n, e_n, e_u, e_b, e_c, e_k, b_z, b_2, b_and, b_or, b_not, a_0, a_1, s_k, s_pop, s_as, s_inc, s_pf, s_po, s_ia, s_io, s_cy, s_0, s_sq, s_if, s_no, s_bk, s_rt_I, s_rt_L, s_rt_A, s_rv, s_sw, o_k, o_li, o_ll, o_lr, o_ii, o_iz, o_jj, o_jz, o_ji, o_jc, o_iu, o_i2l, o_si, o_sr, o_sl, o_inc, am_cl, am_cs, am_m1, am_m2, am_c1, am_c0, am_c2, am_se, am_nl, am_nr, am_wh, List.getElem?_cons_zero, List.getElem?_cons_succ, List.length_cons, List.length_nil, Option.map_some, Option.map_none, List.reverse_cons, List.set_cons_succ, List.set_cons_zero, List.take_succ_cons, List.take_zero, List.cons_append, List.nil_append, f_w_3, rg_in ht (show 3 < 2 ^ 31 by decide), bI, f_textOf ht, ck_X_0, gv_T_2 ht, hn]
theorem X_undo_ok {t n : Nat} (ht : t < 3) {μ : am_M} (hn : μ (1 + 2 * t) 2 = nI n) (h0 : n ≠ 0) (h9 : n < 100) : f_X10_undo [vR 0, vI (nI t)] μ = some (some (vI (nI (n - 1))), am_up (am_up μ (1 + 2 * t) 2 (nI (n - 1))) 0 16 1) := by
  unfold f_X10_undo g_X10_undo
  have a8 : am_up (am_up μ (1 + 2 * t) 2 (nI (n - 1))) 0 16 1 (1 + 2 * t) 2 = nI (n - 1) := by rw [am_up_ne _ _ (by omega), am_up_eq]
  simp [am_fn, am_en, am_bd_s, am_bd_n, e_n, e_u, e_b, e_c, e_k, b_z, b_2, b_and, b_or, b_not, a_0, a_1, s_k, s_pop, s_as, s_inc, s_pf, s_po, s_ia, s_io, s_cy, s_0, s_sq, s_if, s_no, s_bk, s_rt_I, s_rt_L, s_rt_A, s_rv, s_sw, o_k, o_li, o_ll, o_lr, o_ii, o_iz, o_jj, o_jz, o_ji, o_jc, o_iu, o_i2l, o_si, o_sr, o_sl, o_inc, am_cl, am_cs, am_m1, am_m2, am_c1, am_c0, am_c2, am_se, am_nl, am_nr, am_wh, List.getElem?_cons_zero, List.getElem?_cons_succ, List.length_cons, List.length_nil, Option.map_some, Option.map_none, List.reverse_cons, List.set_cons_succ, List.set_cons_zero, List.take_succ_cons, List.take_zero, List.cons_append, List.nil_append, f_w_3, rg_in ht (show 3 < 2 ^ 31 by decide), bI, f_textOf ht, ck_X_0, gv_T_2 ht, hn, nI_eq0 (show n < 2 ^ 31 by omega), h0, nI_dec h0, pv_T_2 ht, pv_X_0_16, a8]
theorem M_undo_bad {t : Int32} (h : rg t 3 = false) (μ : am_M) : f_X11_undo [vR 0, vI t] μ = some (some (vI (-2)), μ) := by
  unfold f_X11_undo g_X11_undo
  simp [am_fn, am_en, am_bd_s, am_bd_n, e_n, e_u, e_b, e_c, e_k, b_z, b_2, b_and, b_or, b_not, a_0, a_1, s_k, s_pop, s_as, s_inc, s_pf, s_po, s_ia, s_io, s_cy, s_0, s_sq, s_if, s_no, s_bk, s_rt_I, s_rt_L, s_rt_A, s_rv, s_sw, o_k, o_li, o_ll, o_lr, o_ii, o_iz, o_jj, o_jz, o_ji, o_jc, o_iu, o_i2l, o_si, o_sr, o_sl, o_inc, am_cl, am_cs, am_m1, am_m2, am_c1, am_c0, am_c2, am_se, am_nl, am_nr, am_wh, List.getElem?_cons_zero, List.getElem?_cons_succ, List.length_cons, List.length_nil, Option.map_some, Option.map_none, List.reverse_cons, List.set_cons_succ, List.set_cons_zero, List.take_succ_cons, List.take_zero, List.cons_append, List.nil_append, f_isText, h, bI]
theorem M_undo_not {t : Nat} (ht : t < 3) {μ : am_M} (hn : μ 6 t = 0) : f_X11_undo [vR 0, vI (nI t)] μ = some (some (vI (-3)), μ) := by
  unfold f_X11_undo g_X11_undo
  simp [am_fn, am_en, am_bd_s, am_bd_n, e_n, e_u, e_b, e_c, e_k, b_z, b_2, b_and, b_or, b_not, a_0, a_1, s_k, s_pop, s_as, s_inc, s_pf, s_po, s_ia, s_io, s_cy, s_0, s_sq, s_if, s_no, s_bk, s_rt_I, s_rt_L, s_rt_A, s_rv, s_sw, o_k, o_li, o_ll, o_lr, o_ii, o_iz, o_jj, o_jz, o_ji, o_jc, o_iu, o_i2l, o_si, o_sr, o_sl, o_inc, am_cl, am_cs, am_m1, am_m2, am_c1, am_c0, am_c2, am_se, am_nl, am_nr, am_wh, List.getElem?_cons_zero, List.getElem?_cons_succ, List.length_cons, List.length_nil, Option.map_some, Option.map_none, List.reverse_cons, List.set_cons_succ, List.set_cons_zero, List.take_succ_cons, List.take_zero, List.cons_append, List.nil_append, f_isText, rg_in ht (show 3 < 2 ^ 31 by decide), bI, gv_M_0_6, lv_M_6 ht, hn]
theorem M_undo_ok {t n : Nat} (ht : t < 3) {μ : am_M} (hn : μ 6 t = nI n) (h0 : n ≠ 0) (h9 : n < 100) : f_X11_undo [vR 0, vI (nI t)] μ = some (some (vI (nI (n - 1))), am_up μ 6 t (nI (n - 1))) := by
  unfold f_X11_undo g_X11_undo
  simp [am_fn, am_en, am_bd_s, am_bd_n, e_n, e_u, e_b, e_c, e_k, b_z, b_2, b_and, b_or, b_not, a_0, a_1, s_k, s_pop, s_as, s_inc, s_pf, s_po, s_ia, s_io, s_cy, s_0, s_sq, s_if, s_no, s_bk, s_rt_I, s_rt_L, s_rt_A, s_rv, s_sw, o_k, o_li, o_ll, o_lr, o_ii, o_iz, o_jj, o_jz, o_ji, o_jc, o_iu, o_i2l, o_si, o_sr, o_sl, o_inc, am_cl, am_cs, am_m1, am_m2, am_c1, am_c0, am_c2, am_se, am_nl, am_nr, am_wh, List.getElem?_cons_zero, List.getElem?_cons_succ, List.length_cons, List.length_nil, Option.map_some, Option.map_none, List.reverse_cons, List.set_cons_succ, List.set_cons_zero, List.take_succ_cons, List.take_zero, List.cons_append, List.nil_append, f_isText, rg_in ht (show 3 < 2 ^ 31 by decide), bI, gv_M_0_6, lv_M_6 ht, wv_M_6 ht, hn, nI_eq0 (show n < 2 ^ 31 by omega), h0, nI_dec h0, am_up_eq]
theorem X_forget (μ : am_M) : f_X10_forget [vR 0] μ = some (some (vI (μ 85 0)), am_up μ 85 0 0) := by
  unfold f_X10_forget g_X10_forget
  simp [am_fn, am_en, am_bd_s, am_bd_n, e_n, e_u, e_b, e_c, e_k, b_z, b_2, b_and, b_or, b_not, a_0, a_1, s_k, s_pop, s_as, s_inc, s_pf, s_po, s_ia, s_io, s_cy, s_0, s_sq, s_if, s_no, s_bk, s_rt_I, s_rt_L, s_rt_A, s_rv, s_sw, o_k, o_li, o_ll, o_lr, o_ii, o_iz, o_jj, o_jz, o_ji, o_jc, o_iu, o_i2l, o_si, o_sr, o_sl, o_inc, am_cl, am_cs, am_m1, am_m2, am_c1, am_c0, am_c2, am_se, am_nl, am_nr, am_wh, List.getElem?_cons_zero, List.getElem?_cons_succ, List.length_cons, List.length_nil, Option.map_some, Option.map_none, List.reverse_cons, List.set_cons_succ, List.set_cons_zero, List.take_succ_cons, List.take_zero, List.cons_append, List.nil_append, gv_X_0_12, gv_X_85_0, pv_X_85_0]
theorem M_forget (μ : am_M) : f_X11_forget [vR 0] μ = some (some (vI (μ 0 31)), am_up μ 0 31 0) := by
  unfold f_X11_forget g_X11_forget
  simp [am_fn, am_en, am_bd_s, am_bd_n, e_n, e_u, e_b, e_c, e_k, b_z, b_2, b_and, b_or, b_not, a_0, a_1, s_k, s_pop, s_as, s_inc, s_pf, s_po, s_ia, s_io, s_cy, s_0, s_sq, s_if, s_no, s_bk, s_rt_I, s_rt_L, s_rt_A, s_rv, s_sw, o_k, o_li, o_ll, o_lr, o_ii, o_iz, o_jj, o_jz, o_ji, o_jc, o_iu, o_i2l, o_si, o_sr, o_sl, o_inc, am_cl, am_cs, am_m1, am_m2, am_c1, am_c0, am_c2, am_se, am_nl, am_nr, am_wh, List.getElem?_cons_zero, List.getElem?_cons_succ, List.length_cons, List.length_nil, Option.map_some, Option.map_none, List.reverse_cons, List.set_cons_succ, List.set_cons_zero, List.take_succ_cons, List.take_zero, List.cons_append, List.nil_append, gv_M_0_31, pv_M_0_31]
theorem X_back_not {μ : am_M} (h : μ 15 0 = 0) : f_X10_back [vR 0] μ = some (some (vI (-3)), μ) := by
  unfold f_X10_back g_X10_back
  simp [am_fn, am_en, am_bd_s, am_bd_n, e_n, e_u, e_b, e_c, e_k, b_z, b_2, b_and, b_or, b_not, a_0, a_1, s_k, s_pop, s_as, s_inc, s_pf, s_po, s_ia, s_io, s_cy, s_0, s_sq, s_if, s_no, s_bk, s_rt_I, s_rt_L, s_rt_A, s_rv, s_sw, o_k, o_li, o_ll, o_lr, o_ii, o_iz, o_jj, o_jz, o_ji, o_jc, o_iu, o_i2l, o_si, o_sr, o_sl, o_inc, am_cl, am_cs, am_m1, am_m2, am_c1, am_c0, am_c2, am_se, am_nl, am_nr, am_wh, List.getElem?_cons_zero, List.getElem?_cons_succ, List.length_cons, List.length_nil, Option.map_some, Option.map_none, List.reverse_cons, List.set_cons_succ, List.set_cons_zero, List.take_succ_cons, List.take_zero, List.cons_append, List.nil_append, gv_X_0_5, gv_X_15_0, h]
theorem X_back_ok {n : Nat} {μ : am_M} (hn : μ 15 0 = nI n) (h0 : n ≠ 0) (h9 : n < 100) : f_X10_back [vR 0] μ = some (some (vI (nI (n - 1))), am_up (am_up μ 15 0 (nI (n - 1))) 0 16 1) := by
  unfold f_X10_back g_X10_back
  have a8 : am_up (am_up μ 15 0 (nI (n - 1))) 0 16 1 15 0 = nI (n - 1) := by rw [am_up_ne _ _ (by omega), am_up_eq]
  simp [am_fn, am_en, am_bd_s, am_bd_n, e_n, e_u, e_b, e_c, e_k, b_z, b_2, b_and, b_or, b_not, a_0, a_1, s_k, s_pop, s_as, s_inc, s_pf, s_po, s_ia, s_io, s_cy, s_0, s_sq, s_if, s_no, s_bk, s_rt_I, s_rt_L, s_rt_A, s_rv, s_sw, o_k, o_li, o_ll, o_lr, o_ii, o_iz, o_jj, o_jz, o_ji, o_jc, o_iu, o_i2l, o_si, o_sr, o_sl, o_inc, am_cl, am_cs, am_m1, am_m2, am_c1, am_c0, am_c2, am_se, am_nl, am_nr, am_wh, List.getElem?_cons_zero, List.getElem?_cons_succ, List.length_cons, List.length_nil, Option.map_some, Option.map_none, List.reverse_cons, List.set_cons_succ, List.set_cons_zero, List.take_succ_cons, List.take_zero, List.cons_append, List.nil_append, gv_X_0_5, gv_X_15_0, hn, nI_eq0 (show n < 2 ^ 31 by omega), h0, nI_dec h0, pv_X_15_0, pv_X_0_16, a8]
theorem M_back_not {μ : am_M} (h : μ 0 15 = 0) : f_X11_back [vR 0] μ = some (some (vI (-3)), μ) := by
  unfold f_X11_back g_X11_back
  simp [am_fn, am_en, am_bd_s, am_bd_n, e_n, e_u, e_b, e_c, e_k, b_z, b_2, b_and, b_or, b_not, a_0, a_1, s_k, s_pop, s_as, s_inc, s_pf, s_po, s_ia, s_io, s_cy, s_0, s_sq, s_if, s_no, s_bk, s_rt_I, s_rt_L, s_rt_A, s_rv, s_sw, o_k, o_li, o_ll, o_lr, o_ii, o_iz, o_jj, o_jz, o_ji, o_jc, o_iu, o_i2l, o_si, o_sr, o_sl, o_inc, am_cl, am_cs, am_m1, am_m2, am_c1, am_c0, am_c2, am_se, am_nl, am_nr, am_wh, List.getElem?_cons_zero, List.getElem?_cons_succ, List.length_cons, List.length_nil, Option.map_some, Option.map_none, List.reverse_cons, List.set_cons_succ, List.set_cons_zero, List.take_succ_cons, List.take_zero, List.cons_append, List.nil_append, gv_M_0_15, h]
theorem M_back_ok {n : Nat} {μ : am_M} (hn : μ 0 15 = nI n) (h0 : n ≠ 0) (h9 : n < 100) : f_X11_back [vR 0] μ = some (some (vI (nI (n - 1))), am_up μ 0 15 (nI (n - 1))) := by
  unfold f_X11_back g_X11_back
  simp [am_fn, am_en, am_bd_s, am_bd_n, e_n, e_u, e_b, e_c, e_k, b_z, b_2, b_and, b_or, b_not, a_0, a_1, s_k, s_pop, s_as, s_inc, s_pf, s_po, s_ia, s_io, s_cy, s_0, s_sq, s_if, s_no, s_bk, s_rt_I, s_rt_L, s_rt_A, s_rv, s_sw, o_k, o_li, o_ll, o_lr, o_ii, o_iz, o_jj, o_jz, o_ji, o_jc, o_iu, o_i2l, o_si, o_sr, o_sl, o_inc, am_cl, am_cs, am_m1, am_m2, am_c1, am_c0, am_c2, am_se, am_nl, am_nr, am_wh, List.getElem?_cons_zero, List.getElem?_cons_succ, List.length_cons, List.length_nil, Option.map_some, Option.map_none, List.reverse_cons, List.set_cons_succ, List.set_cons_zero, List.take_succ_cons, List.take_zero, List.cons_append, List.nil_append, gv_M_0_15, hn, nI_eq0 (show n < 2 ^ 31 by omega), h0, nI_dec h0, pv_M_0_15, am_up_eq]
/-- a text cut down: both sides -/
theorem R_cut {σ : Sg} {μX μM : am_M} (hX : RX σ μX) (hM : RM σ μM) {t n : Nat} (ht : t < 3) (hn : n ≤ (sT σ t).length) : RX (pT σ t ((sT σ t).take n)) (am_up (am_up μX (1 + 2 * t) 2 (nI n)) 0 16 1) ∧ RM (pT σ t ((sT σ t).take n)) (am_up μM 6 t (nI n)) := by
  have hlen : ((sT σ t).take n).length = n := by rw [List.length_take]; omega
  refine ⟨⟨fun u hu => ?_, ?_, ?_, ?_, ?_⟩, ⟨fun u hu => ?_, ?_, ?_, ?_, ?_, ?_⟩⟩
  · rw [sT_pT]
    obtain ⟨y1, y2, y3⟩ := hX.1 u hu
    by_cases h : u = t
    · subst h
      rw [if_pos rfl, hlen]
      exact ⟨by rw [am_up_ne _ _ (by omega), am_up_ne _ _ (by omega)]; exact y1, by rw [am_up_ne _ _ (by omega), am_up_eq], fun i c hc => by rw [am_up_ne _ _ (by omega), am_up_ne _ _ (by omega)]; exact y3 i c (gE_take hc).1⟩
    · rw [if_neg h]
      exact ⟨by rw [am_up_ne _ _ (by omega), am_up_ne _ _ (by omega)]; exact y1, by rw [am_up_ne _ _ (by omega), am_up_ne _ _ (by omega)]; exact y2, fun i c hc => by rw [am_up_ne _ _ (by omega), am_up_ne _ _ (by omega)]; exact y3 i c hc⟩
  · exact hX.2.1.kept (fun a c h1 h2 => by rw [am_up_ne _ _ (by omega), am_up_ne _ _ (by omega)])
  · exact hX.2.2.1.kept (fun a c h1 h2 => by rw [am_up_ne _ _ (by omega), am_up_ne _ _ (by omega)])
  · exact hX.2.2.2.1.kept (fun a c h1 h2 => by rw [am_up_ne _ _ (by omega), am_up_ne _ _ (by omega)])
  · rw [am_up_ne _ _ (by omega), am_up_ne _ _ (by omega)]; exact hX.2.2.2.2
  · rw [sT_pT]
    obtain ⟨y1, y2⟩ := hM.1 u hu
    by_cases h : u = t
    · subst h
      rw [if_pos rfl, hlen]
      exact ⟨am_up_eq _ _ _ _, fun i c hc => by rw [am_up_ne _ _ (by omega)]; exact y2 i c (gE_take hc).1⟩
    · rw [if_neg h]
      exact ⟨by rw [am_up_ne _ _ (by omega)]; exact y1, fun i c hc => by rw [am_up_ne _ _ (by omega)]; exact y2 i c hc⟩
  · exact hM.2.1.kept (by rw [am_up_ne _ _ (by omega)]) (fun c => by rw [am_up_ne _ _ (by omega)])
  · exact hM.2.2.1.kept (by rw [am_up_ne _ _ (by omega)]) (fun c => by rw [am_up_ne _ _ (by omega)])
  · exact hM.2.2.2.1.kept (fun a c h1 h2 => by rw [am_up_ne _ _ (by omega)])
  · rw [am_up_ne _ _ (by omega)]; exact hM.2.2.2.2.1
  · rw [am_up_ne _ _ (by omega)]; exact hM.2.2.2.2.2
theorem wf_cut {σ : Sg} (hw : wfS σ) (t n : Nat) : wfS (pT σ t ((sT σ t).take n)) := wfS_pT hw (fun ht => ⟨by have := (hw.1 t ht).1; rw [List.length_take]; omega, fun b hb => (hw.1 t ht).2 b (List.mem_of_mem_take hb)⟩)
theorem op_wipe {σ : Sg} {μX μM : am_M} (hw : wfS σ) (hX : RX σ μX) (hM : RM σ μM) (t : Int32) : Op f_X10_wipe f_X11_wipe [vI t] σ μX μM := by
  rcases rg_cases t (n := 3) (by decide) with h1 | ⟨t, ht, rfl⟩
  · exact Op_same hw hX hM (X_wipe_bad h1 μX) (M_wipe_bad h1 μM)
  have h1 := X_wipe_ok ht μX
  have h2 := M_wipe_ok ht μM
  rw [(hX.1 t ht).2.1] at h1
  rw [(hM.1 t ht).1] at h2
  obtain ⟨r1, r2⟩ := R_cut hX hM ht (Nat.zero_le _)
  exact ⟨_, _, _, _, h1, h2, wf_cut hw t 0, r1, r2, Or.inr (am_up_eq _ _ _ _)⟩
theorem op_undo {σ : Sg} {μX μM : am_M} (hw : wfS σ) (hX : RX σ μX) (hM : RM σ μM) (t : Int32) : Op f_X10_undo f_X11_undo [vI t] σ μX μM := by
  rcases rg_cases t (n := 3) (by decide) with h1 | ⟨t, ht, rfl⟩
  · exact Op_same hw hX hM (X_undo_bad h1 μX) (M_undo_bad h1 μM)
  have x2 := (hX.1 t ht).2.1
  have m1 := (hM.1 t ht).1
  have hc := cap_le t
  have hl := (hw.1 t ht).1
  by_cases h0 : (sT σ t).length = 0
  · exact Op_same hw hX hM (X_undo_not ht (by rw [x2, h0]; rfl)) (M_undo_not ht (by rw [m1, h0]; rfl))
  · obtain ⟨r1, r2⟩ := R_cut hX hM ht (n := (sT σ t).length - 1) (by omega)
    exact ⟨_, _, _, _, X_undo_ok ht x2 h0 (by omega), M_undo_ok ht m1 h0 (by omega), wf_cut hw t _, r1, r2, Or.inr (am_up_eq _ _ _ _)⟩
theorem op_forget {σ : Sg} {μX μM : am_M} (hw : wfS σ) (hX : RX σ μX) (hM : RM σ μM) : Op f_X10_forget f_X11_forget [] σ μX μM := by
  have h1 := X_forget μX
  have h2 := M_forget μM
  rw [hX.2.2.1.1] at h1
  rw [hM.2.2.1.1] at h2
  refine ⟨_, _, _, pG σ [], h1, h2, ⟨hw.1, hw.2.1, ⟨Nat.zero_le _, fun g hg => by cases hg⟩, hw.2.2.2⟩, ⟨?_, ?_, ?_, ?_, ?_⟩, ⟨?_, ?_, ?_, ?_, ?_, ?_⟩, Or.inl ⟨rfl, rfl, fun a c h3 h4 => by rw [am_up_ne _ _ (by omega)], by rw [am_up_ne _ _ (by omega)]⟩⟩
  · exact hX.1.kept (fun a c h3 h4 => by rw [am_up_ne _ _ (by omega)])
  · exact hX.2.1.kept (fun a c h3 h4 => by rw [am_up_ne _ _ (by omega)])
  · exact ⟨am_up_eq _ _ _ _, fun i g hg => by cases i <;> cases hg⟩
  · exact hX.2.2.2.1.kept (fun a c h3 h4 => by rw [am_up_ne _ _ (by omega)])
  · rw [am_up_ne _ _ (by omega)]; exact hX.2.2.2.2
  · exact hM.1.kept (fun a c h3 => by rw [am_up_ne _ _ (by omega)])
  · exact hM.2.1.kept (by rw [am_up_ne _ _ (by omega)]) (fun c => by rw [am_up_ne _ _ (by omega)])
  · exact ⟨am_up_eq _ _ _ _, fun i g hg => by cases i <;> cases hg⟩
  · exact hM.2.2.2.1.kept (fun a c h3 h4 => by rw [am_up_ne _ _ (by omega)])
  · rw [am_up_ne _ _ (by omega)]; exact hM.2.2.2.2.1
  · rw [am_up_ne _ _ (by omega)]; exact hM.2.2.2.2.2
theorem op_back {σ : Sg} {μX μM : am_M} (hw : wfS σ) (hX : RX σ μX) (hM : RM σ μM) : Op f_X10_back f_X11_back [] σ μX μM := by
  have x1 := hX.2.1.1
  have m1 := hM.2.1.1
  have hl := hw.2.1.1
  by_cases h0 : (sE σ).length = 0
  · exact Op_same hw hX hM (X_back_not (by rw [x1, h0]; rfl)) (M_back_not (by rw [m1, h0]; rfl))
  · have hlen : ((sE σ).take ((sE σ).length - 1)).length = (sE σ).length - 1 := by rw [List.length_take]; omega
    refine ⟨_, _, _, pE σ ((sE σ).take ((sE σ).length - 1)), X_back_ok x1 h0 (by omega), M_back_ok m1 h0 (by omega), ⟨hw.1, ⟨by show ((sE σ).take _).length ≤ 8; omega, fun e he => hw.2.1.2 e (List.mem_of_mem_take he)⟩, hw.2.2⟩, ⟨?_, ?_, ?_, ?_, ?_⟩, ⟨?_, ?_, ?_, ?_, ?_, ?_⟩, Or.inr (am_up_eq _ _ _ _)⟩
    · exact hX.1.kept (fun a c h3 h4 => by rw [am_up_ne _ _ (by omega), am_up_ne _ _ (by omega)])
    · refine ⟨?_, fun i e he => ?_⟩
      · show _ = nI ((sE σ).take _).length
        rw [am_up_ne _ _ (by omega), am_up_eq, hlen]
      · obtain ⟨k1, k2, k3, k4⟩ := hX.2.1.2 i e (gE_take he).1
        exact ⟨by rw [am_up_ne _ _ (by omega), am_up_ne _ _ (by omega)]; exact k1, by rw [am_up_ne _ _ (by omega), am_up_ne _ _ (by omega)]; exact k2, by rw [am_up_ne _ _ (by omega), am_up_ne _ _ (by omega)]; exact k3, by rw [am_up_ne _ _ (by omega), am_up_ne _ _ (by omega)]; exact k4⟩
    · exact hX.2.2.1.kept (fun a c h3 h4 => by rw [am_up_ne _ _ (by omega), am_up_ne _ _ (by omega)])
    · exact hX.2.2.2.1.kept (fun a c h3 h4 => by rw [am_up_ne _ _ (by omega), am_up_ne _ _ (by omega)])
    · rw [am_up_ne _ _ (by omega), am_up_ne _ _ (by omega)]; exact hX.2.2.2.2
    · exact hM.1.kept (fun a c h3 => by rw [am_up_ne _ _ (by omega)])
    · refine ⟨?_, fun i e he => ?_⟩
      · show _ = nI ((sE σ).take _).length
        rw [am_up_eq, hlen]
      · obtain ⟨k1, k2, k3, k4⟩ := hM.2.1.2 i e (gE_take he).1
        exact ⟨by rw [am_up_ne _ _ (by omega)]; exact k1, by rw [am_up_ne _ _ (by omega)]; exact k2, by rw [am_up_ne _ _ (by omega)]; exact k3, by rw [am_up_ne _ _ (by omega)]; exact k4⟩
    · exact hM.2.2.1.kept (by rw [am_up_ne _ _ (by omega)]) (fun c => by rw [am_up_ne _ _ (by omega)])
    · exact hM.2.2.2.1.kept (fun a c h3 h4 => by rw [am_up_ne _ _ (by omega)])
    · rw [am_up_ne _ _ (by omega)]; exact hM.2.2.2.2.1
    · rw [am_up_ne _ _ (by omega)]; exact hM.2.2.2.2.2
