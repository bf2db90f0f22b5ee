/-! lay -/
theorem f_put {s j n : Nat} (hs : s < 4) {μ : am_M} (hz : μ (94 + 2 * s) 2 = nI n) (hj : j < n) (hn : n ≤ 60) (v : Int32) : f_X4_put [vR (94 + 2 * s), vI (nI j), vI v] μ = some (none, am_up μ (95 + 2 * s) j (cutI (μ (94 + 2 * s) 1) v)) := by
  unfold f_X4_put g_X4_put cutI
  have hr : rg (nI j) n = true := rg_in hj (by omega)
  by_cases h0 : μ (94 + 2 * s) 1 = 0
  · have h0' : (μ (94 + 2 * s) 1 = 0) = True := eq_true h0
    simp [am_fn, am_en, am_bd_s, am_bd_n, e_n, e_u, e_b, e_c, e_k, b_z, b_2, b_and, b_or, b_not, a_0, a_1, s_k, s_pop, s_as, s_inc, s_pf, s_po, s_ia, s_io, s_cy, s_0, s_sq, s_if, s_no, s_bk, s_rt_I, s_rt_L, s_rt_A, s_rv, s_sw, o_k, o_li, o_ll, o_lr, o_ii, o_iz, o_jj, o_jz, o_ji, o_jc, o_iu, o_i2l, o_si, o_sr, o_sl, o_inc, am_cl, am_cs, am_m1, am_m2, am_c1, am_c0, am_c2, am_se, am_nl, am_nr, am_wh, List.getElem?_cons_zero, List.getElem?_cons_succ, List.length_cons, List.length_nil, Option.map_some, Option.map_none, List.reverse_cons, List.set_cons_succ, List.set_cons_zero, List.take_succ_cons, List.take_zero, List.cons_append, List.nil_append, gv_S_2 hs, gv_S_3 hs, gv_S_1 hs, hz, f_within_n, hr, bI, h0', wv_S_3 hs (show j < 60 by omega)]
  · have h0' : (μ (94 + 2 * s) 1 = 0) = False := eq_false h0
    by_cases h1 : μ (94 + 2 * s) 1 = 1
    · have h1' : (μ (94 + 2 * s) 1 = 1) = True := eq_true h1
      simp [am_fn, am_en, am_bd_s, am_bd_n, e_n, e_u, e_b, e_c, e_k, b_z, b_2, b_and, b_or, b_not, a_0, a_1, s_k, s_pop, s_as, s_inc, s_pf, s_po, s_ia, s_io, s_cy, s_0, s_sq, s_if, s_no, s_bk, s_rt_I, s_rt_L, s_rt_A, s_rv, s_sw, o_k, o_li, o_ll, o_lr, o_ii, o_iz, o_jj, o_jz, o_ji, o_jc, o_iu, o_i2l, o_si, o_sr, o_sl, o_inc, am_cl, am_cs, am_m1, am_m2, am_c1, am_c0, am_c2, am_se, am_nl, am_nr, am_wh, List.getElem?_cons_zero, List.getElem?_cons_succ, List.length_cons, List.length_nil, Option.map_some, Option.map_none, List.reverse_cons, List.set_cons_succ, List.set_cons_zero, List.take_succ_cons, List.take_zero, List.cons_append, List.nil_append, gv_S_2 hs, gv_S_3 hs, gv_S_1 hs, hz, f_within_n, hr, bI, h0', h1', wv_S_3 hs (show j < 60 by omega)]
    · have h1' : (μ (94 + 2 * s) 1 = 1) = False := eq_false h1
      simp [am_fn, am_en, am_bd_s, am_bd_n, e_n, e_u, e_b, e_c, e_k, b_z, b_2, b_and, b_or, b_not, a_0, a_1, s_k, s_pop, s_as, s_inc, s_pf, s_po, s_ia, s_io, s_cy, s_0, s_sq, s_if, s_no, s_bk, s_rt_I, s_rt_L, s_rt_A, s_rv, s_sw, o_k, o_li, o_ll, o_lr, o_ii, o_iz, o_jj, o_jz, o_ji, o_jc, o_iu, o_i2l, o_si, o_sr, o_sl, o_inc, am_cl, am_cs, am_m1, am_m2, am_c1, am_c0, am_c2, am_se, am_nl, am_nr, am_wh, List.getElem?_cons_zero, List.getElem?_cons_succ, List.length_cons, List.length_nil, Option.map_some, Option.map_none, List.reverse_cons, List.set_cons_succ, List.set_cons_zero, List.take_succ_cons, List.take_zero, List.cons_append, List.nil_append, gv_S_2 hs, gv_S_3 hs, gv_S_1 hs, hz, f_within_n, hr, bI, h0', h1', wv_S_3 hs (show j < 60 by omega)]
theorem X_lay_bad {s f : Int32} (h : (rg s 4 && rg f 3) = false) (i v : Int32) (μ : am_M) : f_X10_lay [vR 0, vI s, vI f, vI i, vI v] μ = some (some (vI (-2)), μ) := by
  unfold f_X10_lay g_X10_lay
  cases h1 : rg s 4
  · simp [am_fn, am_en, am_bd_s, am_bd_n, e_n, e_u, e_b, e_c, e_k, b_z, b_2, b_and, b_or, b_not, a_0, a_1, s_k, s_pop, s_as, s_inc, s_pf, s_po, s_ia, s_io, s_cy, s_0, s_sq, s_if, s_no, s_bk, s_rt_I, s_rt_L, s_rt_A, s_rv, s_sw, o_k, o_li, o_ll, o_lr, o_ii, o_iz, o_jj, o_jz, o_ji, o_jc, o_iu, o_i2l, o_si, o_sr, o_sl, o_inc, am_cl, am_cs, am_m1, am_m2, am_c1, am_c0, am_c2, am_se, am_nl, am_nr, am_wh, List.getElem?_cons_zero, List.getElem?_cons_succ, List.length_cons, List.length_nil, Option.map_some, Option.map_none, List.reverse_cons, List.set_cons_succ, List.set_cons_zero, List.take_succ_cons, List.take_zero, List.cons_append, List.nil_append, f_w_4, h1, bI]
  · rw [h1, Bool.true_and] at h
    simp [am_fn, am_en, am_bd_s, am_bd_n, e_n, e_u, e_b, e_c, e_k, b_z, b_2, b_and, b_or, b_not, a_0, a_1, s_k, s_pop, s_as, s_inc, s_pf, s_po, s_ia, s_io, s_cy, s_0, s_sq, s_if, s_no, s_bk, s_rt_I, s_rt_L, s_rt_A, s_rv, s_sw, o_k, o_li, o_ll, o_lr, o_ii, o_iz, o_jj, o_jz, o_ji, o_jc, o_iu, o_i2l, o_si, o_sr, o_sl, o_inc, am_cl, am_cs, am_m1, am_m2, am_c1, am_c0, am_c2, am_se, am_nl, am_nr, am_wh, List.getElem?_cons_zero, List.getElem?_cons_succ, List.length_cons, List.length_nil, Option.map_some, Option.map_none, List.reverse_cons, List.set_cons_succ, List.set_cons_zero, List.take_succ_cons, List.take_zero, List.cons_append, List.nil_append, f_w_4, f_w_3, h1, h, bI]
theorem M_lay_bad {s f : Int32} (h : (rg s 4 && rg f 3) = false) (i v : Int32) (μ : am_M) : f_X11_lay [vR 0, vI s, vI f, vI i, vI v] μ = some (some (vI (-2)), μ) := by
  unfold f_X11_lay g_X11_lay
  cases h1 : rg s 4
  · simp [am_fn, am_en, am_bd_s, am_bd_n, e_n, e_u, e_b, e_c, e_k, b_z, b_2, b_and, b_or, b_not, a_0, a_1, s_k, s_pop, s_as, s_inc, s_pf, s_po, s_ia, s_io, s_cy, s_0, s_sq, s_if, s_no, s_bk, s_rt_I, s_rt_L, s_rt_A, s_rv, s_sw, o_k, o_li, o_ll, o_lr, o_ii, o_iz, o_jj, o_jz, o_ji, o_jc, o_iu, o_i2l, o_si, o_sr, o_sl, o_inc, am_cl, am_cs, am_m1, am_m2, am_c1, am_c0, am_c2, am_se, am_nl, am_nr, am_wh, List.getElem?_cons_zero, List.getElem?_cons_succ, List.length_cons, List.length_nil, Option.map_some, Option.map_none, List.reverse_cons, List.set_cons_succ, List.set_cons_zero, List.take_succ_cons, List.take_zero, List.cons_append, List.nil_append, f_isSheet, h1, bI]
  · rw [h1, Bool.true_and] at h
    simp [am_fn, am_en, am_bd_s, am_bd_n, e_n, e_u, e_b, e_c, e_k, b_z, b_2, b_and, b_or, b_not, a_0, a_1, s_k, s_pop, s_as, s_inc, s_pf, s_po, s_ia, s_io, s_cy, s_0, s_sq, s_if, s_no, s_bk, s_rt_I, s_rt_L, s_rt_A, s_rv, s_sw, o_k, o_li, o_ll, o_lr, o_ii, o_iz, o_jj, o_jz, o_ji, o_jc, o_iu, o_i2l, o_si, o_sr, o_sl, o_inc, am_cl, am_cs, am_m1, am_m2, am_c1, am_c0, am_c2, am_se, am_nl, am_nr, am_wh, List.getElem?_cons_zero, List.getElem?_cons_succ, List.length_cons, List.length_nil, Option.map_some, Option.map_none, List.reverse_cons, List.set_cons_succ, List.set_cons_zero, List.take_succ_cons, List.take_zero, List.cons_append, List.nil_append, f_isSheet, f_i_3, h1, h, bI]
theorem gE_set {α : Type} {l : List α} {a b : α} {i j : Nat} (h : (l.set j a)[i]? = some b) : (i = j ∧ b = a) ∨ (i ≠ j ∧ l[i]? = some b) := by
  by_cases hij : i = j
  · subst hij
    have hl := gE_lt h
    rw [List.length_set] at hl
    rw [List.getElem?_set_self hl] at h
    exact Or.inl ⟨rfl, (Option.some.inj h).symm⟩
  · rw [List.getElem?_set_ne (Ne.symm hij)] at h
    exact Or.inr ⟨hij, h⟩
/-- an item set: both sides -/
theorem R_item {σ : Sg} {μX μM : am_M} (hw : wfS σ) (hX : RX σ μX) (hM : RM σ μM) {s j : Nat} (hs : s < 4) (hj : j < (sF σ s).2.2.length) (v : Int32) : RX (pF σ s ((sF σ s).1, (sF σ s).2.1, (sF σ s).2.2.set j v)) (am_up μX (95 + 2 * s) j v) ∧ RM (pF σ s ((sF σ s).1, (sF σ s).2.1, (sF σ s).2.2.set j v)) (am_up μM 3 (60 * s + j) v) := by
  have hw4 := (hw.2.2.2 s hs).2
  refine ⟨⟨?_, ?_, ?_, fun u hu => ?_, ?_⟩, ⟨?_, ?_, ?_, fun u hu => ?_, ?_, ?_⟩⟩
  · exact hX.1.kept (fun a c h3 h4 => am_up_ne _ _ (by omega))
  · exact hX.2.1.kept (fun a c h3 h4 => am_up_ne _ _ (by omega))
  · exact hX.2.2.1.kept (fun a c h3 h4 => am_up_ne _ _ (by omega))
  · rw [sF_pF]
    obtain ⟨y1, y2, y3, y4⟩ := hX.2.2.2.1 u hu
    by_cases h : u = s
    · subst h
      rw [if_pos rfl]
      refine ⟨by rw [am_up_ne _ _ (by omega)]; exact y1, fun h9 => by rw [am_up_ne _ _ (by omega)]; exact y2 h9, ?_, fun i w hv => ?_⟩
      · rw [am_up_ne _ _ (by omega), List.length_set]; exact y3
      · rcases gE_set hv with ⟨rfl, rfl⟩ | ⟨h1, h2⟩
        · exact am_up_eq _ _ _ _
        · rw [am_up_ne _ _ (by omega)]; exact y4 i w h2
    · rw [if_neg h]
      exact ⟨by rw [am_up_ne _ _ (by omega)]; exact y1, fun h9 => by rw [am_up_ne _ _ (by omega)]; exact y2 h9, by rw [am_up_ne _ _ (by omega)]; exact y3, fun i v hv => by rw [am_up_ne _ _ (by omega)]; exact y4 i v hv⟩
  · rw [am_up_ne _ _ (by omega)]; exact hX.2.2.2.2
  · exact hM.1.kept (fun a c h3 => am_up_ne _ _ (by omega))
  · exact hM.2.1.kept (am_up_ne _ _ (by omega)) (fun c => am_up_ne _ _ (by omega))
  · exact hM.2.2.1.kept (am_up_ne _ _ (by omega)) (fun c => am_up_ne _ _ (by omega))
  · rw [sF_pF]
    obtain ⟨y1, y2, y3⟩ := hM.2.2.2.1 u hu
    have hu4 := (hw.2.2.2 u hu).2
    by_cases h : u = s
    · subst h
      rw [if_pos rfl]
      refine ⟨by rw [am_up_ne _ _ (by omega)]; exact y1, ?_, fun i w hv => ?_⟩
      · rw [am_up_ne _ _ (by omega), List.length_set]; exact y2
      · rcases gE_set hv with ⟨rfl, rfl⟩ | ⟨h1, h2⟩
        · exact am_up_eq _ _ _ _
        · rw [am_up_ne _ _ (by omega)]; exact y3 i w h2
    · rw [if_neg h]
      exact ⟨by rw [am_up_ne _ _ (by omega)]; exact y1, by rw [am_up_ne _ _ (by omega)]; exact y2, fun i v hv => by have := gE_lt hv; rw [am_up_ne _ _ (by omega)]; exact y3 i v hv⟩
  · rw [am_up_ne _ _ (by omega)]; exact hM.2.2.2.2.1
  · rw [am_up_ne _ _ (by omega)]; exact hM.2.2.2.2.2
theorem wf_item {σ : Sg} (hw : wfS σ) (s j : Nat) (v : Int32) : wfS (pF σ s ((sF σ s).1, (sF σ s).2.1, (sF σ s).2.2.set j v)) := by
  refine ⟨hw.1, hw.2.1, hw.2.2.1, fun u hu => ?_⟩
  rw [sF_pF]
  by_cases h : u = s
  · subst h
    rw [if_pos rfl]
    exact ⟨(hw.2.2.2 u hu).1, by rw [List.length_set]; exact (hw.2.2.2 u hu).2⟩
  · rw [if_neg h]
    exact hw.2.2.2 u hu
theorem X_lay_ok {s j : Nat} {f v : Int32} (hs : s < 4) (h1 : rg (nI s) 4 = true) (h2 : rg f 3 = true) {μ μ' : am_M} (hx : f_X10_itemFinding [vR (94 + 2 * s), vI f, vI (nI j)] μ = some (some (vI 0), μ)) (hp : f_X4_put [vR (94 + 2 * s), vI (nI j), vI v] μ = some (none, μ')) : f_X10_lay [vR 0, vI (nI s), vI f, vI (nI j), vI v] μ = some (some (vI 1), μ') := by
  unfold f_X10_lay g_X10_lay
  simp [am_fn, am_en, am_bd_s, am_bd_n, e_n, e_u, e_b, e_c, e_k, b_z, b_2, b_and, b_or, b_not, a_0, a_1, s_k, s_pop, s_as, s_inc, s_pf, s_po, s_ia, s_io, s_cy, s_0, s_sq, s_if, s_no, s_bk, s_rt_I, s_rt_L, s_rt_A, s_rv, s_sw, o_k, o_li, o_ll, o_lr, o_ii, o_iz, o_jj, o_jz, o_ji, o_jc, o_iu, o_i2l, o_si, o_sr, o_sl, o_inc, am_cl, am_cs, am_m1, am_m2, am_c1, am_c0, am_c2, am_se, am_nl, am_nr, am_wh, List.getElem?_cons_zero, List.getElem?_cons_succ, List.length_cons, List.length_nil, Option.map_some, Option.map_none, List.reverse_cons, List.set_cons_succ, List.set_cons_zero, List.take_succ_cons, List.take_zero, List.cons_append, List.nil_append, f_w_4, f_w_3, h1, h2, bI, gv_X_0_14, qv_S hs, hx, ck_S hs, hp]
theorem X_lay_find {s : Nat} {f i v w : Int32} (hs : s < 4) (h1 : rg (nI s) 4 = true) (h2 : rg f 3 = true) (hw : (w = 0) = False) {μ : am_M} (hx : f_X10_itemFinding [vR (94 + 2 * s), vI f, vI i] μ = some (some (vI w), μ)) : f_X10_lay [vR 0, vI (nI s), vI f, vI i, vI v] μ = some (some (vI (-10 - w)), am_up μ 0 15 w) := by
  unfold f_X10_lay g_X10_lay
  simp [am_fn, am_en, am_bd_s, am_bd_n, e_n, e_u, e_b, e_c, e_k, b_z, b_2, b_and, b_or, b_not, a_0, a_1, s_k, s_pop, s_as, s_inc, s_pf, s_po, s_ia, s_io, s_cy, s_0, s_sq, s_if, s_no, s_bk, s_rt_I, s_rt_L, s_rt_A, s_rv, s_sw, o_k, o_li, o_ll, o_lr, o_ii, o_iz, o_jj, o_jz, o_ji, o_jc, o_iu, o_i2l, o_si, o_sr, o_sl, o_inc, am_cl, am_cs, am_m1, am_m2, am_c1, am_c0, am_c2, am_se, am_nl, am_nr, am_wh, List.getElem?_cons_zero, List.getElem?_cons_succ, List.length_cons, List.length_nil, Option.map_some, Option.map_none, List.reverse_cons, List.set_cons_succ, List.set_cons_zero, List.take_succ_cons, List.take_zero, List.cons_append, List.nil_append, f_w_4, f_w_3, h1, h2, bI, gv_X_0_14, qv_S hs, hx, hw, ck_X_0, f_finding]
theorem M_lay_ok {s j : Nat} {f v : Int32} (hs : s < 4) (hj : j < 60) (h1 : rg (nI s) 4 = true) (h2 : rg f 3 = true) {μ : am_M} (hm : f_X11_lacks [vR 0, vI (nI s), vI f, vI (nI j)] μ = some (some (vI 0), μ)) : f_X11_lay [vR 0, vI (nI s), vI f, vI (nI j), vI v] μ = some (some (vI 1), am_up μ 3 (60 * s + j) (cutI f v)) := by
  unfold f_X11_lay g_X11_lay
  have e1 : (60 : Int32) * nI s + nI j = nI (60 * s + j) := by rw [nI_lit, pk_mul, nI_add]
  simp [am_fn, am_en, am_bd_s, am_bd_n, e_n, e_u, e_b, e_c, e_k, b_z, b_2, b_and, b_or, b_not, a_0, a_1, s_k, s_pop, s_as, s_inc, s_pf, s_po, s_ia, s_io, s_cy, s_0, s_sq, s_if, s_no, s_bk, s_rt_I, s_rt_L, s_rt_A, s_rv, s_sw, o_k, o_li, o_ll, o_lr, o_ii, o_iz, o_jj, o_jz, o_ji, o_jc, o_iu, o_i2l, o_si, o_sr, o_sl, o_inc, am_cl, am_cs, am_m1, am_m2, am_c1, am_c0, am_c2, am_se, am_nl, am_nr, am_wh, List.getElem?_cons_zero, List.getElem?_cons_succ, List.length_cons, List.length_nil, Option.map_some, Option.map_none, List.reverse_cons, List.set_cons_succ, List.set_cons_zero, List.take_succ_cons, List.take_zero, List.cons_append, List.nil_append, f_isSheet, f_i_3, h1, h2, bI, ck_M_0, hm, gv_M_0_2, e1, f_cut, wv_M_3 (show 60 * s + j < 240 by omega)]
theorem M_lay_find {s : Nat} {f i v w : Int32} (hs : s < 4) (h1 : rg (nI s) 4 = true) (h2 : rg f 3 = true) (hw : (w = 0) = False) {μ μ' : am_M} (hm : f_X11_lacks [vR 0, vI (nI s), vI f, vI i] μ = some (some (vI w), μ')) : f_X11_lay [vR 0, vI (nI s), vI f, vI i, vI v] μ = some (some (vI w), μ') := by
  unfold f_X11_lay g_X11_lay
  simp [am_fn, am_en, am_bd_s, am_bd_n, e_n, e_u, e_b, e_c, e_k, b_z, b_2, b_and, b_or, b_not, a_0, a_1, s_k, s_pop, s_as, s_inc, s_pf, s_po, s_ia, s_io, s_cy, s_0, s_sq, s_if, s_no, s_bk, s_rt_I, s_rt_L, s_rt_A, s_rv, s_sw, o_k, o_li, o_ll, o_lr, o_ii, o_iz, o_jj, o_jz, o_ji, o_jc, o_iu, o_i2l, o_si, o_sr, o_sl, o_inc, am_cl, am_cs, am_m1, am_m2, am_c1, am_c0, am_c2, am_se, am_nl, am_nr, am_wh, List.getElem?_cons_zero, List.getElem?_cons_succ, List.length_cons, List.length_nil, Option.map_some, Option.map_none, List.reverse_cons, List.set_cons_succ, List.set_cons_zero, List.take_succ_cons, List.take_zero, List.cons_append, List.nil_append, f_isSheet, f_i_3, h1, h2, bI, ck_M_0, hm, hw]
theorem itF_no {x : Bool × Nat × List Int32} {f i : Int32} : (-10 - itF x f i = 0) = False := by
  refine eq_false ?_
  unfold itF
  split
  · decide
  · split
    · split <;> decide
    · decide
theorem op_lay {σ : Sg} {μX μM : am_M} (hw : wfS σ) (hX : RX σ μX) (hM : RM σ μM) (s f i v : Int32) : Op f_X10_lay f_X11_lay [vI s, vI f, vI i, vI v] σ μX μM := by
  cases hr : rg s 4 && rg f 3
  · exact Op_same hw hX hM (X_lay_bad hr i v μX) (M_lay_bad hr i v μM)
  simp only [Bool.and_eq_true] at hr
  rcases rg_cases s (n := 4) (by decide) with h | ⟨s, hs, rfl⟩
  · rw [hr.1] at h; cases h
  have hX4 := hX.2.2.2.1
  have hM4 := hM.2.2.2.1
  obtain ⟨x1, x2, x3, x4⟩ := hX4 s hs
  have hw4 := (hw.2.2.2 s hs).2
  have hx := f_itemF hX4 hs f i
  have hm := f_lacks hM4 hw.2.2.2 hs f i
  by_cases h0 : itF (sF σ s) f i = 0
  · rw [h0] at hx
    rw [if_pos h0] at hm
    obtain ⟨hl, hfe, j, hj, rfl⟩ := itF_0 h0
    have hp := f_put hs x3 hj hw4 v
    rw [x2 hl, ← hfe] at hp
    obtain ⟨r1, r2⟩ := R_item hw hX hM hs hj (cutI f v)
    exact ⟨vI 1, am_up μX (95 + 2 * s) j (cutI f v), am_up μM 3 (60 * s + j) (cutI f v), _, X_lay_ok hs hr.1 hr.2 hx hp, M_lay_ok hs (by omega) hr.1 hr.2 hm, wf_item hw s j _, r1, r2, Or.inl ⟨rfl, rfl, fun a c h3 h4 => am_up_ne _ _ (by omega), am_up_ne _ _ (by omega)⟩⟩
  · rw [if_neg h0] at hm
    exact Op_find (w := vI (-10 - itF (sF σ s) f i)) (v := itF (sF σ s) f i) hw hX hM (X_lay_find hs hr.1 hr.2 (eq_false h0) hx) (M_lay_find hs hr.1 hr.2 itF_no hm)
