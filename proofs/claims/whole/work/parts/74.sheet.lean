/-! sheet -/
theorem sh_S {s : Nat} (hs : s < 4) : ShX[95 + 2 * s]? = some (.inl 60) := by
  match s, hs with
  | 0, _ => rfl
  | 1, _ => rfl
  | 2, _ => rfl
  | 3, _ => rfl
  | n + 4, h => omega
theorem max_min {n : Nat} (hn : n ≤ 60) : am_max 0 (am_min (nI n) 60) = nI n := by
  have h1 : am_min (nI n) 60 = nI n := by
    unfold am_min
    rw [if_neg (fun h => absurd h (by show ¬ nI 60 < nI n; exact nI_nlt hn (by decide)))]
  rw [h1]
  unfold am_max
  by_cases h0 : n = 0
  · subst h0; rfl
  · have h9 : (0 : Int32) < nI n := show nI 0 < nI n from nI_lt (by omega) (by omega)
    rw [if_pos h9]
theorem f_make {s f n : Nat} (hs : s < 4) (hn : n ≤ 60) (μ : am_M) : f_X4_make [vR (94 + 2 * s), vI (nI f), vI (nI n)] μ = some (none, fillR (am_up (am_up (am_up μ (94 + 2 * s) 0 0) (94 + 2 * s) 1 (nI f)) (94 + 2 * s) 2 (nI n)) (95 + 2 * s) 60 0) := by
  unfold f_X4_make g_X4_make
  simp [am_fn, am_en, am_bd_s, am_bd_n, e_n, e_u, e_b, e_c, e_k, b_z, b_2, b_and, b_or, b_not, a_0, a_1, s_k, s_pop, s_as, s_inc, s_pf, s_po, s_ia, s_io, s_cy, s_0, s_sq, s_if, s_no, s_bk, s_rt_I, s_rt_L, s_rt_A, s_rv, s_sw, o_k, o_li, o_ll, o_lr, o_ii, o_iz, o_jj, o_jz, o_ji, o_jc, o_iu, o_i2l, o_si, o_sr, o_sl, o_inc, am_cl, am_cs, am_m1, am_m2, am_c1, am_c0, am_c2, am_se, am_nl, am_nr, am_wh, List.getElem?_cons_zero, List.getElem?_cons_succ, List.length_cons, List.length_nil, Option.map_some, Option.map_none, List.reverse_cons, List.set_cons_succ, List.set_cons_zero, List.take_succ_cons, List.take_zero, List.cons_append, List.nil_append, pv_S_0 hs, pv_S_1 hs, pv_S_2 hs, gv_S_3 hs, max_min hn, f_fill (sh_S hs) (show 60 < 4000 by decide)]
theorem X_sheet_bad {s f n : Int32} (h : (rg s 4 && rg f 3 && !decide (60 < n)) = false) (μ : am_M) : f_X10_sheet [vR 0, vI s, vI f, vI n] μ = some (some (vI (-2)), μ) := by
  unfold f_X10_sheet g_X10_sheet
  cases h1 : rg s 4 <;> cases h2 : rg f 3 <;> by_cases h3 : 60 < n <;> simp [h1, h2, h3] at h <;> simp [am_fn, am_en, am_bd_s, am_bd_n, e_n, e_u, e_b, e_c, e_k, b_z, b_2, b_and, b_or, b_not, a_0, a_1, s_k, s_pop, s_as, s_inc, s_pf, s_po, s_ia, s_io, s_cy, s_0, s_sq, s_if, s_no, s_bk, s_rt_I, s_rt_L, s_rt_A, s_rv, s_sw, o_k, o_li, o_ll, o_lr, o_ii, o_iz, o_jj, o_jz, o_ji, o_jc, o_iu, o_i2l, o_si, o_sr, o_sl, o_inc, am_cl, am_cs, am_m1, am_m2, am_c1, am_c0, am_c2, am_se, am_nl, am_nr, am_wh, List.getElem?_cons_zero, List.getElem?_cons_succ, List.length_cons, List.length_nil, Option.map_some, Option.map_none, List.reverse_cons, List.set_cons_succ, List.set_cons_zero, List.take_succ_cons, List.take_zero, List.cons_append, List.nil_append, f_w_4, f_w_3, h1, h2, h3, bI]
theorem M_sheet_bad {s f n : Int32} (h : (rg s 4 && rg f 3 && !decide (60 < n)) = false) (μ : am_M) : f_X11_sheet [vR 0, vI s, vI f, vI n] μ = some (some (vI (-2)), μ) := by
  unfold f_X11_sheet g_X11_sheet
  cases h1 : rg s 4 <;> cases h2 : rg f 3 <;> by_cases h3 : 60 < n <;> simp [h1, h2, h3] at h <;> simp [am_fn, am_en, am_bd_s, am_bd_n, e_n, e_u, e_b, e_c, e_k, b_z, b_2, b_and, b_or, b_not, a_0, a_1, s_k, s_pop, s_as, s_inc, s_pf, s_po, s_ia, s_io, s_cy, s_0, s_sq, s_if, s_no, s_bk, s_rt_I, s_rt_L, s_rt_A, s_rv, s_sw, o_k, o_li, o_ll, o_lr, o_ii, o_iz, o_jj, o_jz, o_ji, o_jc, o_iu, o_i2l, o_si, o_sr, o_sl, o_inc, am_cl, am_cs, am_m1, am_m2, am_c1, am_c0, am_c2, am_se, am_nl, am_nr, am_wh, List.getElem?_cons_zero, List.getElem?_cons_succ, List.length_cons, List.length_nil, Option.map_some, Option.map_none, List.reverse_cons, List.set_cons_succ, List.set_cons_zero, List.take_succ_cons, List.take_zero, List.cons_append, List.nil_append, f_isSheet, f_i_3, h1, h2, h3, bI]
theorem X_sheet_neg {s f n : Int32} (h1 : rg s 4 = true) (h2 : rg f 3 = true) (h3 : ¬ 60 < n) (h4 : n < 0) (μ : am_M) : f_X10_sheet [vR 0, vI s, vI f, vI n] μ = some (some (vI (-10 - 5)), am_up μ 0 15 5) := by
  unfold f_X10_sheet g_X10_sheet
  simp [am_fn, am_en, am_bd_s, am_bd_n, e_n, e_u, e_b, e_c, e_k, b_z, b_2, b_and, b_or, b_not, a_0, a_1, s_k, s_pop, s_as, s_inc, s_pf, s_po, s_ia, s_io, s_cy, s_0, s_sq, s_if, s_no, s_bk, s_rt_I, s_rt_L, s_rt_A, s_rv, s_sw, o_k, o_li, o_ll, o_lr, o_ii, o_iz, o_jj, o_jz, o_ji, o_jc, o_iu, o_i2l, o_si, o_sr, o_sl, o_inc, am_cl, am_cs, am_m1, am_m2, am_c1, am_c0, am_c2, am_se, am_nl, am_nr, am_wh, List.getElem?_cons_zero, List.getElem?_cons_succ, List.length_cons, List.length_nil, Option.map_some, Option.map_none, List.reverse_cons, List.set_cons_succ, List.set_cons_zero, List.take_succ_cons, List.take_zero, List.cons_append, List.nil_append, f_w_4, f_w_3, h1, h2, h3, h4, bI, ck_X_0, f_finding]
theorem M_sheet_neg {s f n : Int32} (h1 : rg s 4 = true) (h2 : rg f 3 = true) (h3 : ¬ 60 < n) (h4 : n < 0) (μ : am_M) : f_X11_sheet [vR 0, vI s, vI f, vI n] μ = some (some (vI (-10 - 5)), am_up μ 0 4 5) := by
  unfold f_X11_sheet g_X11_sheet
  simp [am_fn, am_en, am_bd_s, am_bd_n, e_n, e_u, e_b, e_c, e_k, b_z, b_2, b_and, b_or, b_not, a_0, a_1, s_k, s_pop, s_as, s_inc, s_pf, s_po, s_ia, s_io, s_cy, s_0, s_sq, s_if, s_no, s_bk, s_rt_I, s_rt_L, s_rt_A, s_rv, s_sw, o_k, o_li, o_ll, o_lr, o_ii, o_iz, o_jj, o_jz, o_ji, o_jc, o_iu, o_i2l, o_si, o_sr, o_sl, o_inc, am_cl, am_cs, am_m1, am_m2, am_c1, am_c0, am_c2, am_se, am_nl, am_nr, am_wh, List.getElem?_cons_zero, List.getElem?_cons_succ, List.length_cons, List.length_nil, Option.map_some, Option.map_none, List.reverse_cons, List.set_cons_succ, List.set_cons_zero, List.take_succ_cons, List.take_zero, List.cons_append, List.nil_append, f_isSheet, f_i_3, h1, h2, h3, h4, bI, ck_M_0, f_finds]
theorem X_sheet_ok {s f n : Nat} (hs : s < 4) (h1 : rg (nI s) 4 = true) (h2 : rg (nI f) 3 = true) (hn : n ≤ 60) (μ : am_M) : f_X10_sheet [vR 0, vI (nI s), vI (nI f), vI (nI n)] μ = some (some (vI (nI n)), fillR (am_up (am_up (am_up μ (94 + 2 * s) 0 0) (94 + 2 * s) 1 (nI f)) (94 + 2 * s) 2 (nI n)) (95 + 2 * s) 60 0) := by
  unfold f_X10_sheet g_X10_sheet
  have h3 : (60 < nI n) = False := eq_false (show ¬ nI 60 < nI n from nI_nlt hn (by decide))
  have h4 : (nI n < 0) = False := eq_false (nI_pos (by omega))
  simp [am_fn, am_en, am_bd_s, am_bd_n, e_n, e_u, e_b, e_c, e_k, b_z, b_2, b_and, b_or, b_not, a_0, a_1, s_k, s_pop, s_as, s_inc, s_pf, s_po, s_ia, s_io, s_cy, s_0, s_sq, s_if, s_no, s_bk, s_rt_I, s_rt_L, s_rt_A, s_rv, s_sw, o_k, o_li, o_ll, o_lr, o_ii, o_iz, o_jj, o_jz, o_ji, o_jc, o_iu, o_i2l, o_si, o_sr, o_sl, o_inc, am_cl, am_cs, am_m1, am_m2, am_c1, am_c0, am_c2, am_se, am_nl, am_nr, am_wh, List.getElem?_cons_zero, List.getElem?_cons_succ, List.length_cons, List.length_nil, Option.map_some, Option.map_none, List.reverse_cons, List.set_cons_succ, List.set_cons_zero, List.take_succ_cons, List.take_zero, List.cons_append, List.nil_append, f_w_4, f_w_3, h1, h2, h3, h4, bI, gv_X_0_14, qv_S hs, ck_S hs, f_make hs hn]
/-- items of one sheet of the reference set to 0, the first i -/
def zerR (μ : am_M) (s i : Nat) : am_M := am_ur μ 3 (fun j => if 60 * s ≤ j ∧ j < 60 * s + i then 0 else μ 3 j)
theorem zerR_0 (μ : am_M) (s : Nat) : zerR μ s 0 = μ := by
  funext x
  unfold zerR am_ur
  by_cases h : x = 3
  · rw [if_pos h, h]
    funext j
    rw [if_neg (by omega)]
  · rw [if_neg h]
theorem zerR_s (μ : am_M) (s i : Nat) : am_up (zerR μ s i) 3 (60 * s + i) 0 = zerR μ s (i + 1) := by
  funext x y
  unfold zerR am_up am_ur upd
  by_cases h : x = 3
  · simp only [h, if_true]
    by_cases h2 : y = 60 * s + i
    · rw [if_pos h2, if_pos (by omega)]
    · rw [if_neg h2]
      by_cases h3 : 60 * s ≤ y ∧ y < 60 * s + i
      · rw [if_pos h3, if_pos (by omega)]
      · rw [if_neg h3, if_neg (by omega)]
  · simp only [h, if_false]
theorem M_sheet_lp {s f n : Nat} (hs : s < 4) (hn : n ≤ 60) (μ : am_M) : s_lp (b_2 .lt (e_li 4) (e_li 3)) (s_sq (s_ia ShM (e_gf ShM 11 2 (e_lr 0)) (e_b o_iadd (e_b o_imul (e_i 60) (e_li 1)) (e_li 4)) (e_i 0)) (s_inc 5 4 1)) [vR 0, vI (nI s), vI (nI f), vI (nI n), vI 0] μ = some (.inl ([vR 0, vI (nI s), vI (nI f), vI (nI n), vI (nI n)], zerR μ s n)) := by
  have key := s_lp_det (c := b_2 .lt (e_li 4) (e_li 3)) (b := s_sq (s_ia ShM (e_gf ShM 11 2 (e_lr 0)) (e_b o_iadd (e_b o_imul (e_i 60) (e_li 1)) (e_li 4)) (e_i 0)) (s_inc 5 4 1)) (fun i => [vR 0, vI (nI s), vI (nI f), vI (nI n), vI (nI i)]) (fun i => zerR μ s i) n
    (by have h9 : (nI n < nI n) = False := eq_false (nI_nlt (Nat.le_refl _) (by omega)); simp [am_fn, am_en, am_bd_s, am_bd_n, e_n, e_u, e_b, e_c, e_k, b_z, b_2, b_and, b_or, b_not, a_0, a_1, s_k, s_pop, s_as, s_inc, s_pf, s_po, s_ia, s_io, s_cy, s_0, s_sq, s_if, s_no, s_bk, s_rt_I, s_rt_L, s_rt_A, s_rv, s_sw, o_k, o_li, o_ll, o_lr, o_ii, o_iz, o_jj, o_jz, o_ji, o_jc, o_iu, o_i2l, o_si, o_sr, o_sl, o_inc, am_cl, am_cs, am_m1, am_m2, am_c1, am_c0, am_c2, am_se, am_nl, am_nr, am_wh, List.getElem?_cons_zero, List.getElem?_cons_succ, List.length_cons, List.length_nil, Option.map_some, Option.map_none, List.reverse_cons, List.set_cons_succ, List.set_cons_zero, List.take_succ_cons, List.take_zero, List.cons_append, List.nil_append, h9]) n 0 (by omega)
    (fun i _ hi => by
      have h9 : (nI i < nI n) = True := eq_true (nI_lt hi (by omega))
      have e1 : (60 : Int32) * nI s + nI i = nI (60 * s + i) := by rw [nI_lit, pk_mul, nI_add]
      have w : am_wv ShM (vR 3) (vI (nI (60 * s + i))) (vI 0) (zerR μ s i) = some (zerR μ s (i + 1)) := by rw [wv_M_3 (by omega), zerR_s]
      exact ⟨by simp [am_fn, am_en, am_bd_s, am_bd_n, e_n, e_u, e_b, e_c, e_k, b_z, b_2, b_and, b_or, b_not, a_0, a_1, s_k, s_pop, s_as, s_inc, s_pf, s_po, s_ia, s_io, s_cy, s_0, s_sq, s_if, s_no, s_bk, s_rt_I, s_rt_L, s_rt_A, s_rv, s_sw, o_k, o_li, o_ll, o_lr, o_ii, o_iz, o_jj, o_jz, o_ji, o_jc, o_iu, o_i2l, o_si, o_sr, o_sl, o_inc, am_cl, am_cs, am_m1, am_m2, am_c1, am_c0, am_c2, am_se, am_nl, am_nr, am_wh, List.getElem?_cons_zero, List.getElem?_cons_succ, List.length_cons, List.length_nil, Option.map_some, Option.map_none, List.reverse_cons, List.set_cons_succ, List.set_cons_zero, List.take_succ_cons, List.take_zero, List.cons_append, List.nil_append, h9], by simp [am_fn, am_en, am_bd_s, am_bd_n, e_n, e_u, e_b, e_c, e_k, b_z, b_2, b_and, b_or, b_not, a_0, a_1, s_k, s_pop, s_as, s_inc, s_pf, s_po, s_ia, s_io, s_cy, s_0, s_sq, s_if, s_no, s_bk, s_rt_I, s_rt_L, s_rt_A, s_rv, s_sw, o_k, o_li, o_ll, o_lr, o_ii, o_iz, o_jj, o_jz, o_ji, o_jc, o_iu, o_i2l, o_si, o_sr, o_sl, o_inc, am_cl, am_cs, am_m1, am_m2, am_c1, am_c0, am_c2, am_se, am_nl, am_nr, am_wh, List.getElem?_cons_zero, List.getElem?_cons_succ, List.length_cons, List.length_nil, Option.map_some, Option.map_none, List.reverse_cons, List.set_cons_succ, List.set_cons_zero, List.take_succ_cons, List.take_zero, List.cons_append, List.nil_append, gv_M_0_2, e1, w, nI_1]⟩)
  rw [zerR_0] at key
  exact key
theorem M_sheet_ok {s f n : Nat} (hs : s < 4) (h1 : rg (nI s) 4 = true) (h2 : rg (nI f) 3 = true) (hn : n ≤ 60) (μ : am_M) : f_X11_sheet [vR 0, vI (nI s), vI (nI f), vI (nI n)] μ = some (some (vI (nI n)), zerR (am_up (am_up μ 1 s (nI f)) 2 s (nI n)) s n) := by
  unfold f_X11_sheet g_X11_sheet
  have h3 : (60 < nI n) = False := eq_false (show ¬ nI 60 < nI n from nI_nlt hn (by decide))
  have h4 : (nI n < 0) = False := eq_false (nI_pos (by omega))
  simp [am_fn, am_en, am_bd_s, am_bd_n, e_n, e_u, e_b, e_c, e_k, b_z, b_2, b_and, b_or, b_not, a_0, a_1, s_k, s_pop, s_as, s_inc, s_pf, s_po, s_ia, s_io, s_cy, s_0, s_sq, s_if, s_no, s_bk, s_rt_I, s_rt_L, s_rt_A, s_rv, s_sw, o_k, o_li, o_ll, o_lr, o_ii, o_iz, o_jj, o_jz, o_ji, o_jc, o_iu, o_i2l, o_si, o_sr, o_sl, o_inc, am_cl, am_cs, am_m1, am_m2, am_c1, am_c0, am_c2, am_se, am_nl, am_nr, am_wh, List.getElem?_cons_zero, List.getElem?_cons_succ, List.length_cons, List.length_nil, Option.map_some, Option.map_none, List.reverse_cons, List.set_cons_succ, List.set_cons_zero, List.take_succ_cons, List.take_zero, List.cons_append, List.nil_append, f_isSheet, f_i_3, h1, h2, h3, h4, bI, gv_M_0_0, gv_M_0_1, wv_M_1 hs, wv_M_2 hs, M_sheet_lp hs hn]
