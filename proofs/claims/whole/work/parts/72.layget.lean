/-! lay, get: both sides -/
theorem f_inS (x : Int32) {n : Nat} (hn : n < 2 ^ 29) (μ : am_M) : f_X11_in [vL x.toInt64, vL 0, vL (nI n - 1).toInt64] μ = some (some (vI (bI (rg x n))), μ) := by
  rw [f_in]
  have h1 : ((0 : Int64) ≤ x.toInt64) ↔ (0 : Int32) ≤ x := by
    rw [Int64.le_iff_toInt_le, Int32.le_iff_toInt_le, Int32.toInt_toInt64]
    rfl
  have e : (nI n - 1 : Int32).toInt = (n : Int) - 1 := pk_sub_toInt (a := n) (b := 1) (by omega) (by omega)
  have h2 : (x.toInt64 ≤ (nI n - 1).toInt64) ↔ x < nI n := by
    rw [Int64.le_iff_toInt_le, Int32.lt_iff_toInt_lt, Int32.toInt_toInt64, Int32.toInt_toInt64, nI_toInt (by omega), e]
    omega
  unfold rg
  rw [decide_eq_decide.mpr h1, decide_eq_decide.mpr h2]
/-- what is wrong with an item: 0 nothing -/
def itF (x : Bool × Nat × List Int32) (form i : Int32) : Int32 := if x.1 then 1 else if nI x.2.1 = form then (if rg i x.2.2.length then 0 else 2) else 3
theorem f_itemF {F : Nat → Bool × Nat × List Int32} {μ : am_M} (h : xF F μ) {s : Nat} (hs : s < 4) (form i : Int32) : f_X10_itemFinding [vR (94 + 2 * s), vI form, vI i] μ = some (some (vI (itF (F s) form i)), μ) := by
  obtain ⟨h1, h2, h3, h4⟩ := h s hs
  unfold f_X10_itemFinding g_X10_itemFinding itF
  cases hl : (F s).1
  · rw [hl] at h1
    have h2 := h2 hl
    by_cases hf : nI (F s).2.1 = form
    · cases hr : rg i (F s).2.2.length <;> simp [am_fn, am_en, am_bd_s, am_bd_n, e_n, e_u, e_b, e_c, e_k, b_z, b_2, b_and, b_or, b_not, a_0, a_1, s_k, s_pop, s_as, s_inc, s_pf, s_po, s_ia, s_io, s_cy, s_0, s_sq, s_if, s_no, s_bk, s_rt_I, s_rt_L, s_rt_A, s_rv, s_sw, o_k, o_li, o_ll, o_lr, o_ii, o_iz, o_jj, o_jz, o_ji, o_jc, o_iu, o_i2l, o_si, o_sr, o_sl, o_inc, am_cl, am_cs, am_m1, am_m2, am_c1, am_c0, am_c2, am_se, am_nl, am_nr, am_wh, List.getElem?_cons_zero, List.getElem?_cons_succ, List.length_cons, List.length_nil, Option.map_some, Option.map_none, List.reverse_cons, List.set_cons_succ, List.set_cons_zero, List.take_succ_cons, List.take_zero, List.cons_append, List.nil_append, gv_S_0 hs, gv_S_1 hs, gv_S_2 hs, h1, h2, h3, hf, f_within_n, hr, bI]
    · have hf' : (nI (F s).2.1 = form) = False := eq_false hf
      simp [am_fn, am_en, am_bd_s, am_bd_n, e_n, e_u, e_b, e_c, e_k, b_z, b_2, b_and, b_or, b_not, a_0, a_1, s_k, s_pop, s_as, s_inc, s_pf, s_po, s_ia, s_io, s_cy, s_0, s_sq, s_if, s_no, s_bk, s_rt_I, s_rt_L, s_rt_A, s_rv, s_sw, o_k, o_li, o_ll, o_lr, o_ii, o_iz, o_jj, o_jz, o_ji, o_jc, o_iu, o_i2l, o_si, o_sr, o_sl, o_inc, am_cl, am_cs, am_m1, am_m2, am_c1, am_c0, am_c2, am_se, am_nl, am_nr, am_wh, List.getElem?_cons_zero, List.getElem?_cons_succ, List.length_cons, List.length_nil, Option.map_some, Option.map_none, List.reverse_cons, List.set_cons_succ, List.set_cons_zero, List.take_succ_cons, List.take_zero, List.cons_append, List.nil_append, gv_S_0 hs, gv_S_1 hs, gv_S_2 hs, h1, h2, h3, hf', bI]
  · rw [hl] at h1
    simp [am_fn, am_en, am_bd_s, am_bd_n, e_n, e_u, e_b, e_c, e_k, b_z, b_2, b_and, b_or, b_not, a_0, a_1, s_k, s_pop, s_as, s_inc, s_pf, s_po, s_ia, s_io, s_cy, s_0, s_sq, s_if, s_no, s_bk, s_rt_I, s_rt_L, s_rt_A, s_rv, s_sw, o_k, o_li, o_ll, o_lr, o_ii, o_iz, o_jj, o_jz, o_ji, o_jc, o_iu, o_i2l, o_si, o_sr, o_sl, o_inc, am_cl, am_cs, am_m1, am_m2, am_c1, am_c0, am_c2, am_se, am_nl, am_nr, am_wh, List.getElem?_cons_zero, List.getElem?_cons_succ, List.length_cons, List.length_nil, Option.map_some, Option.map_none, List.reverse_cons, List.set_cons_succ, List.set_cons_zero, List.take_succ_cons, List.take_zero, List.cons_append, List.nil_append, gv_S_0 hs, h1, bI]
theorem f_lacks {F : Nat → Bool × Nat × List Int32} {μ : am_M} (h : mF F μ) (hw : wfF F) {s : Nat} (hs : s < 4) (form i : Int32) : f_X11_lacks [vR 0, vI (nI s), vI form, vI i] μ = if itF (F s) form i = 0 then some (some (vI 0), μ) else some (some (vI (-10 - itF (F s) form i)), am_up μ 0 4 (itF (F s) form i)) := by
  obtain ⟨h1, h2, h3⟩ := h s hs
  obtain ⟨w1, w2⟩ := hw s hs
  unfold f_X11_lacks g_X11_lacks itF
  cases hl : (F s).1
  · rw [hl] at h1
    have h1 : μ 1 s = nI (F s).2.1 := h1
    have g0 : (nI (F s).2.1 < 0) = False := eq_false (nI_pos (by omega))
    by_cases hf : nI (F s).2.1 = form
    · cases hr : rg i (F s).2.2.length
      · subst hf
        simp [am_fn, am_en, am_bd_s, am_bd_n, e_n, e_u, e_b, e_c, e_k, b_z, b_2, b_and, b_or, b_not, a_0, a_1, s_k, s_pop, s_as, s_inc, s_pf, s_po, s_ia, s_io, s_cy, s_0, s_sq, s_if, s_no, s_bk, s_rt_I, s_rt_L, s_rt_A, s_rv, s_sw, o_k, o_li, o_ll, o_lr, o_ii, o_iz, o_jj, o_jz, o_ji, o_jc, o_iu, o_i2l, o_si, o_sr, o_sl, o_inc, am_cl, am_cs, am_m1, am_m2, am_c1, am_c0, am_c2, am_se, am_nl, am_nr, am_wh, List.getElem?_cons_zero, List.getElem?_cons_succ, List.length_cons, List.length_nil, Option.map_some, Option.map_none, List.reverse_cons, List.set_cons_succ, List.set_cons_zero, List.take_succ_cons, List.take_zero, List.cons_append, List.nil_append, gv_M_0_0, gv_M_0_1, lv_M_1 hs, lv_M_2 hs, h1, h2, g0, f_inS i (show (F s).2.2.length < 2 ^ 29 by omega), hr, bI, ck_M_0, f_finds]
      · subst hf
        simp [am_fn, am_en, am_bd_s, am_bd_n, e_n, e_u, e_b, e_c, e_k, b_z, b_2, b_and, b_or, b_not, a_0, a_1, s_k, s_pop, s_as, s_inc, s_pf, s_po, s_ia, s_io, s_cy, s_0, s_sq, s_if, s_no, s_bk, s_rt_I, s_rt_L, s_rt_A, s_rv, s_sw, o_k, o_li, o_ll, o_lr, o_ii, o_iz, o_jj, o_jz, o_ji, o_jc, o_iu, o_i2l, o_si, o_sr, o_sl, o_inc, am_cl, am_cs, am_m1, am_m2, am_c1, am_c0, am_c2, am_se, am_nl, am_nr, am_wh, List.getElem?_cons_zero, List.getElem?_cons_succ, List.length_cons, List.length_nil, Option.map_some, Option.map_none, List.reverse_cons, List.set_cons_succ, List.set_cons_zero, List.take_succ_cons, List.take_zero, List.cons_append, List.nil_append, gv_M_0_0, gv_M_0_1, lv_M_1 hs, lv_M_2 hs, h1, h2, g0, f_inS i (show (F s).2.2.length < 2 ^ 29 by omega), hr, bI, ck_M_0, f_finds]
    · have hf' : (nI (F s).2.1 = form) = False := eq_false hf
      simp [am_fn, am_en, am_bd_s, am_bd_n, e_n, e_u, e_b, e_c, e_k, b_z, b_2, b_and, b_or, b_not, a_0, a_1, s_k, s_pop, s_as, s_inc, s_pf, s_po, s_ia, s_io, s_cy, s_0, s_sq, s_if, s_no, s_bk, s_rt_I, s_rt_L, s_rt_A, s_rv, s_sw, o_k, o_li, o_ll, o_lr, o_ii, o_iz, o_jj, o_jz, o_ji, o_jc, o_iu, o_i2l, o_si, o_sr, o_sl, o_inc, am_cl, am_cs, am_m1, am_m2, am_c1, am_c0, am_c2, am_se, am_nl, am_nr, am_wh, List.getElem?_cons_zero, List.getElem?_cons_succ, List.length_cons, List.length_nil, Option.map_some, Option.map_none, List.reverse_cons, List.set_cons_succ, List.set_cons_zero, List.take_succ_cons, List.take_zero, List.cons_append, List.nil_append, gv_M_0_0, gv_M_0_1, lv_M_1 hs, h1, g0, hf', ck_M_0, f_finds]
  · rw [hl] at h1
    have h1 : μ 1 s = -1 := h1
    simp [am_fn, am_en, am_bd_s, am_bd_n, e_n, e_u, e_b, e_c, e_k, b_z, b_2, b_and, b_or, b_not, a_0, a_1, s_k, s_pop, s_as, s_inc, s_pf, s_po, s_ia, s_io, s_cy, s_0, s_sq, s_if, s_no, s_bk, s_rt_I, s_rt_L, s_rt_A, s_rv, s_sw, o_k, o_li, o_ll, o_lr, o_ii, o_iz, o_jj, o_jz, o_ji, o_jc, o_iu, o_i2l, o_si, o_sr, o_sl, o_inc, am_cl, am_cs, am_m1, am_m2, am_c1, am_c0, am_c2, am_se, am_nl, am_nr, am_wh, List.getElem?_cons_zero, List.getElem?_cons_succ, List.length_cons, List.length_nil, Option.map_some, Option.map_none, List.reverse_cons, List.set_cons_succ, List.set_cons_zero, List.take_succ_cons, List.take_zero, List.cons_append, List.nil_append, gv_M_0_0, lv_M_1 hs, h1, ck_M_0, f_finds]
theorem itF_0 {x : Bool × Nat × List Int32} {form i : Int32} (h : itF x form i = 0) : x.1 = false ∧ form = nI x.2.1 ∧ ∃ j : Nat, j < x.2.2.length ∧ i = nI j := by
  unfold itF at h
  split at h
  · exact absurd h (by decide)
  · rename_i h1
    split at h
    · rename_i h2
      split at h
      · rename_i h3
        refine ⟨by simpa using h1, h2.symm, ?_⟩
        by_cases h9 : x.2.2.length < 2 ^ 31
        · rcases rg_cases i h9 with h4 | h4
          · rw [h4] at h3; cases h3
          · exact h4
        · unfold rg at h3
          simp only [Bool.and_eq_true, decide_eq_true_eq] at h3
          obtain ⟨j, hj, rfl⟩ := nI_of (x := i) (Int32.not_lt.mpr h3.1)
          exact ⟨j, by omega, rfl⟩
      · exact absurd h (by decide)
    · exact absurd h (by decide)
theorem X_get_bad {s f : Int32} (h : (rg s 4 && rg f 3) = false) (i : Int32) (μ : am_M) : f_X10_get [vR 0, vI s, vI f, vI i] μ = some (some (vI (-2147483648)), μ) := by
  unfold f_X10_get g_X10_get
  cases h1 : rg s 4
  · simp [am_fn, am_en, am_bd_s, am_bd_n, e_n, e_u, e_b, e_c, e_k, b_z, b_2, b_and, b_or, b_not, a_0, a_1, s_k, s_pop, s_as, s_inc, s_pf, s_po, s_ia, s_io, s_cy, s_0, s_sq, s_if, s_no, s_bk, s_rt_I, s_rt_L, s_rt_A, s_rv, s_sw, o_k, o_li, o_ll, o_lr, o_ii, o_iz, o_jj, o_jz, o_ji, o_jc, o_iu, o_i2l, o_si, o_sr, o_sl, o_inc, am_cl, am_cs, am_m1, am_m2, am_c1, am_c0, am_c2, am_se, am_nl, am_nr, am_wh, List.getElem?_cons_zero, List.getElem?_cons_succ, List.length_cons, List.length_nil, Option.map_some, Option.map_none, List.reverse_cons, List.set_cons_succ, List.set_cons_zero, List.take_succ_cons, List.take_zero, List.cons_append, List.nil_append, f_w_4, h1, bI]
  · rw [h1, Bool.true_and] at h
    simp [am_fn, am_en, am_bd_s, am_bd_n, e_n, e_u, e_b, e_c, e_k, b_z, b_2, b_and, b_or, b_not, a_0, a_1, s_k, s_pop, s_as, s_inc, s_pf, s_po, s_ia, s_io, s_cy, s_0, s_sq, s_if, s_no, s_bk, s_rt_I, s_rt_L, s_rt_A, s_rv, s_sw, o_k, o_li, o_ll, o_lr, o_ii, o_iz, o_jj, o_jz, o_ji, o_jc, o_iu, o_i2l, o_si, o_sr, o_sl, o_inc, am_cl, am_cs, am_m1, am_m2, am_c1, am_c0, am_c2, am_se, am_nl, am_nr, am_wh, List.getElem?_cons_zero, List.getElem?_cons_succ, List.length_cons, List.length_nil, Option.map_some, Option.map_none, List.reverse_cons, List.set_cons_succ, List.set_cons_zero, List.take_succ_cons, List.take_zero, List.cons_append, List.nil_append, f_w_4, f_w_3, h1, h, bI]
theorem M_get_bad {s f : Int32} (h : (rg s 4 && rg f 3) = false) (i : Int32) (μ : am_M) : f_X11_get [vR 0, vI s, vI f, vI i] μ = some (some (vI (-2147483648)), μ) := by
  unfold f_X11_get g_X11_get
  cases h1 : rg s 4
  · simp [am_fn, am_en, am_bd_s, am_bd_n, e_n, e_u, e_b, e_c, e_k, b_z, b_2, b_and, b_or, b_not, a_0, a_1, s_k, s_pop, s_as, s_inc, s_pf, s_po, s_ia, s_io, s_cy, s_0, s_sq, s_if, s_no, s_bk, s_rt_I, s_rt_L, s_rt_A, s_rv, s_sw, o_k, o_li, o_ll, o_lr, o_ii, o_iz, o_jj, o_jz, o_ji, o_jc, o_iu, o_i2l, o_si, o_sr, o_sl, o_inc, am_cl, am_cs, am_m1, am_m2, am_c1, am_c0, am_c2, am_se, am_nl, am_nr, am_wh, List.getElem?_cons_zero, List.getElem?_cons_succ, List.length_cons, List.length_nil, Option.map_some, Option.map_none, List.reverse_cons, List.set_cons_succ, List.set_cons_zero, List.take_succ_cons, List.take_zero, List.cons_append, List.nil_append, f_isSheet, h1, bI]
  · rw [h1, Bool.true_and] at h
    simp [am_fn, am_en, am_bd_s, am_bd_n, e_n, e_u, e_b, e_c, e_k, b_z, b_2, b_and, b_or, b_not, a_0, a_1, s_k, s_pop, s_as, s_inc, s_pf, s_po, s_ia, s_io, s_cy, s_0, s_sq, s_if, s_no, s_bk, s_rt_I, s_rt_L, s_rt_A, s_rv, s_sw, o_k, o_li, o_ll, o_lr, o_ii, o_iz, o_jj, o_jz, o_ji, o_jc, o_iu, o_i2l, o_si, o_sr, o_sl, o_inc, am_cl, am_cs, am_m1, am_m2, am_c1, am_c0, am_c2, am_se, am_nl, am_nr, am_wh, List.getElem?_cons_zero, List.getElem?_cons_succ, List.length_cons, List.length_nil, Option.map_some, Option.map_none, List.reverse_cons, List.set_cons_succ, List.set_cons_zero, List.take_succ_cons, List.take_zero, List.cons_append, List.nil_append, f_isSheet, f_i_3, h1, h, bI]
theorem op_get {σ : Sg} {μX μM : am_M} (hw : wfS σ) (hX : RX σ μX) (hM : RM σ μM) (s f i : Int32) : Op f_X10_get f_X11_get [vI s, vI f, vI i] σ μX μM := by
  cases hr : rg s 4 && rg f 3
  · exact Op_same hw hX hM (X_get_bad hr i μX) (M_get_bad hr i μM)
  simp only [Bool.and_eq_true] at hr
  rcases rg_cases s (n := 4) (by decide) with h | ⟨s, hs, rfl⟩
  · rw [hr.1] at h; cases h
  have hX4 := hX.2.2.2.1
  have hM4 := hM.2.2.2.1
  obtain ⟨x1, x2, x3, x4⟩ := hX4 s hs
  obtain ⟨m1, m2, m3⟩ := hM4 s hs
  have hw4 := (hw.2.2.2 s hs).2
  by_cases h0 : itF (sF σ s) f i = 0
  · have hx : f_X10_itemFinding [vR (94 + 2 * s), vI f, vI i] μX = some (some (vI 0), μX) := by rw [f_itemF hX4 hs, h0]
    have hm : f_X11_lacks [vR 0, vI (nI s), vI f, vI i] μM = some (some (vI 0), μM) := by rw [f_lacks hM4 hw.2.2.2 hs, if_pos h0]
    obtain ⟨-, -, j, hj, rfl⟩ := itF_0 h0
    have hv : (sF σ s).2.2[j]? = some (sF σ s).2.2[j] := List.getElem?_eq_getElem hj
    have e1 : (60 : Int32) * nI s + nI j = nI (60 * s + j) := by rw [nI_lit, pk_mul, nI_add]
    refine Op_same (v := vI (sF σ s).2.2[j]) hw hX hM ?_ ?_
    · unfold f_X10_get g_X10_get
      simp [am_fn, am_en, am_bd_s, am_bd_n, e_n, e_u, e_b, e_c, e_k, b_z, b_2, b_and, b_or, b_not, a_0, a_1, s_k, s_pop, s_as, s_inc, s_pf, s_po, s_ia, s_io, s_cy, s_0, s_sq, s_if, s_no, s_bk, s_rt_I, s_rt_L, s_rt_A, s_rv, s_sw, o_k, o_li, o_ll, o_lr, o_ii, o_iz, o_jj, o_jz, o_ji, o_jc, o_iu, o_i2l, o_si, o_sr, o_sl, o_inc, am_cl, am_cs, am_m1, am_m2, am_c1, am_c0, am_c2, am_se, am_nl, am_nr, am_wh, List.getElem?_cons_zero, List.getElem?_cons_succ, List.length_cons, List.length_nil, Option.map_some, Option.map_none, List.reverse_cons, List.set_cons_succ, List.set_cons_zero, List.take_succ_cons, List.take_zero, List.cons_append, List.nil_append, f_w_4, f_w_3, hr.1, hr.2, bI, gv_X_0_14, qv_S hs, hx, gv_S_3 hs, lv_S_3 hs (show j < 60 by omega), x4 j _ hv]
    · unfold f_X11_get g_X11_get
      simp [am_fn, am_en, am_bd_s, am_bd_n, e_n, e_u, e_b, e_c, e_k, b_z, b_2, b_and, b_or, b_not, a_0, a_1, s_k, s_pop, s_as, s_inc, s_pf, s_po, s_ia, s_io, s_cy, s_0, s_sq, s_if, s_no, s_bk, s_rt_I, s_rt_L, s_rt_A, s_rv, s_sw, o_k, o_li, o_ll, o_lr, o_ii, o_iz, o_jj, o_jz, o_ji, o_jc, o_iu, o_i2l, o_si, o_sr, o_sl, o_inc, am_cl, am_cs, am_m1, am_m2, am_c1, am_c0, am_c2, am_se, am_nl, am_nr, am_wh, List.getElem?_cons_zero, List.getElem?_cons_succ, List.length_cons, List.length_nil, Option.map_some, Option.map_none, List.reverse_cons, List.set_cons_succ, List.set_cons_zero, List.take_succ_cons, List.take_zero, List.cons_append, List.nil_append, f_isSheet, f_i_3, hr.1, hr.2, bI, ck_M_0, hm, gv_M_0_2, e1, lv_M_3 (show 60 * s + j < 240 by omega), m3 j _ hv]
  · have hx := f_itemF hX4 hs f i
    have hm := f_lacks hM4 hw.2.2.2 hs f i
    rw [if_neg h0] at hm
    have h10 : (itF (sF σ s) f i = 0) = False := eq_false h0
    have h11 : (-10 - itF (sF σ s) f i = 0) = False := by
      refine eq_false ?_
      unfold itF
      split
      · decide
      · split
        · split <;> decide
        · decide
    refine Op_find (w := vI (-2147483648)) (v := itF (sF σ s) f i) hw hX hM ?_ ?_
    · unfold f_X10_get g_X10_get
      simp [am_fn, am_en, am_bd_s, am_bd_n, e_n, e_u, e_b, e_c, e_k, b_z, b_2, b_and, b_or, b_not, a_0, a_1, s_k, s_pop, s_as, s_inc, s_pf, s_po, s_ia, s_io, s_cy, s_0, s_sq, s_if, s_no, s_bk, s_rt_I, s_rt_L, s_rt_A, s_rv, s_sw, o_k, o_li, o_ll, o_lr, o_ii, o_iz, o_jj, o_jz, o_ji, o_jc, o_iu, o_i2l, o_si, o_sr, o_sl, o_inc, am_cl, am_cs, am_m1, am_m2, am_c1, am_c0, am_c2, am_se, am_nl, am_nr, am_wh, List.getElem?_cons_zero, List.getElem?_cons_succ, List.length_cons, List.length_nil, Option.map_some, Option.map_none, List.reverse_cons, List.set_cons_succ, List.set_cons_zero, List.take_succ_cons, List.take_zero, List.cons_append, List.nil_append, f_w_4, f_w_3, hr.1, hr.2, bI, gv_X_0_14, qv_S hs, hx, h10, pv_X_0_15]
    · unfold f_X11_get g_X11_get
      simp [am_fn, am_en, am_bd_s, am_bd_n, e_n, e_u, e_b, e_c, e_k, b_z, b_2, b_and, b_or, b_not, a_0, a_1, s_k, s_pop, s_as, s_inc, s_pf, s_po, s_ia, s_io, s_cy, s_0, s_sq, s_if, s_no, s_bk, s_rt_I, s_rt_L, s_rt_A, s_rv, s_sw, o_k, o_li, o_ll, o_lr, o_ii, o_iz, o_jj, o_jz, o_ji, o_jc, o_iu, o_i2l, o_si, o_sr, o_sl, o_inc, am_cl, am_cs, am_m1, am_m2, am_c1, am_c0, am_c2, am_se, am_nl, am_nr, am_wh, List.getElem?_cons_zero, List.getElem?_cons_succ, List.length_cons, List.length_nil, Option.map_some, Option.map_none, List.reverse_cons, List.set_cons_succ, List.set_cons_zero, List.take_succ_cons, List.take_zero, List.cons_append, List.nil_append, f_isSheet, f_i_3, hr.1, hr.2, bI, ck_M_0, hm, h11]
