/-! lose, lay, get: both sides -/
theorem bI_t : bI true = 1 := rfl
theorem bI_f : bI false = 0 := rfl
theorem X_lose_bad {s : Int32} (h : rg s 4 = false) (μ : am_M) : f_X10_lose [vR 0, vI s] μ = some (some (vI (-2)), μ) := by
  unfold f_X10_lose g_X10_lose
  simp [am_fn, am_en, am_bd_s, am_bd_n, e_n, e_u, e_b, e_c, e_k, b_z, b_2, b_and, b_or, b_not, a_0, a_1, s_k, s_pop, s_as, s_inc, s_pf, s_po, s_ia, s_io, s_cy, s_0, s_sq, s_if, s_no, s_bk, s_rt_I, s_rt_L, s_rt_A, s_rv, s_sw, o_k, o_li, o_ll, o_lr, o_ii, o_iz, o_jj, o_jz, o_ji, o_jc, o_iu, o_i2l, o_si, o_sr, o_sl, o_inc, am_cl, am_cs, am_m1, am_m2, am_c1, am_c0, am_c2, am_se, am_nl, am_nr, am_wh, List.getElem?_cons_zero, List.getElem?_cons_succ, List.length_cons, List.length_nil, Option.map_some, Option.map_none, List.reverse_cons, List.set_cons_succ, List.set_cons_zero, List.take_succ_cons, List.take_zero, List.cons_append, List.nil_append, f_w_4, h, bI]
theorem X_lose_null {s : Nat} (hs : s < 4) {μ : am_M} (h : μ (94 + 2 * s) 0 = 1) : f_X10_lose [vR 0, vI (nI s)] μ = some (some (vI (-10 - 1)), am_up μ 0 15 1) := by
  unfold f_X10_lose g_X10_lose
  simp [am_fn, am_en, am_bd_s, am_bd_n, e_n, e_u, e_b, e_c, e_k, b_z, b_2, b_and, b_or, b_not, a_0, a_1, s_k, s_pop, s_as, s_inc, s_pf, s_po, s_ia, s_io, s_cy, s_0, s_sq, s_if, s_no, s_bk, s_rt_I, s_rt_L, s_rt_A, s_rv, s_sw, o_k, o_li, o_ll, o_lr, o_ii, o_iz, o_jj, o_jz, o_ji, o_jc, o_iu, o_i2l, o_si, o_sr, o_sl, o_inc, am_cl, am_cs, am_m1, am_m2, am_c1, am_c0, am_c2, am_se, am_nl, am_nr, am_wh, List.getElem?_cons_zero, List.getElem?_cons_succ, List.length_cons, List.length_nil, Option.map_some, Option.map_none, List.reverse_cons, List.set_cons_succ, List.set_cons_zero, List.take_succ_cons, List.take_zero, List.cons_append, List.nil_append, f_w_4, rg_in hs (show 4 < 2 ^ 31 by decide), bI, gv_X_0_14, qv_S hs, gv_S_0 hs, h, ck_X_0, f_finding]
theorem X_lose_ok {s : Nat} (hs : s < 4) {μ : am_M} (h : μ (94 + 2 * s) 0 = 0) : f_X10_lose [vR 0, vI (nI s)] μ = some (some (vI (μ (94 + 2 * s) 2)), am_up μ (94 + 2 * s) 0 1) := by
  unfold f_X10_lose g_X10_lose
  have g1 : am_up μ (94 + 2 * s) 0 1 (94 + 2 * s) 2 = μ (94 + 2 * s) 2 := am_up_ne _ _ (by omega)
  simp [am_fn, am_en, am_bd_s, am_bd_n, e_n, e_u, e_b, e_c, e_k, b_z, b_2, b_and, b_or, b_not, a_0, a_1, s_k, s_pop, s_as, s_inc, s_pf, s_po, s_ia, s_io, s_cy, s_0, s_sq, s_if, s_no, s_bk, s_rt_I, s_rt_L, s_rt_A, s_rv, s_sw, o_k, o_li, o_ll, o_lr, o_ii, o_iz, o_jj, o_jz, o_ji, o_jc, o_iu, o_i2l, o_si, o_sr, o_sl, o_inc, am_cl, am_cs, am_m1, am_m2, am_c1, am_c0, am_c2, am_se, am_nl, am_nr, am_wh, List.getElem?_cons_zero, List.getElem?_cons_succ, List.length_cons, List.length_nil, Option.map_some, Option.map_none, List.reverse_cons, List.set_cons_succ, List.set_cons_zero, List.take_succ_cons, List.take_zero, List.cons_append, List.nil_append, f_w_4, rg_in hs (show 4 < 2 ^ 31 by decide), bI, gv_X_0_14, qv_S hs, gv_S_0 hs, gv_S_2 hs, h, pv_S_0 hs, g1]
theorem M_lose_bad {s : Int32} (h : rg s 4 = false) (μ : am_M) : f_X11_lose [vR 0, vI s] μ = some (some (vI (-2)), μ) := by
  unfold f_X11_lose g_X11_lose
  simp [am_fn, am_en, am_bd_s, am_bd_n, e_n, e_u, e_b, e_c, e_k, b_z, b_2, b_and, b_or, b_not, a_0, a_1, s_k, s_pop, s_as, s_inc, s_pf, s_po, s_ia, s_io, s_cy, s_0, s_sq, s_if, s_no, s_bk, s_rt_I, s_rt_L, s_rt_A, s_rv, s_sw, o_k, o_li, o_ll, o_lr, o_ii, o_iz, o_jj, o_jz, o_ji, o_jc, o_iu, o_i2l, o_si, o_sr, o_sl, o_inc, am_cl, am_cs, am_m1, am_m2, am_c1, am_c0, am_c2, am_se, am_nl, am_nr, am_wh, List.getElem?_cons_zero, List.getElem?_cons_succ, List.length_cons, List.length_nil, Option.map_some, Option.map_none, List.reverse_cons, List.set_cons_succ, List.set_cons_zero, List.take_succ_cons, List.take_zero, List.cons_append, List.nil_append, f_isSheet, h, bI]
theorem M_lose_null {s : Nat} (hs : s < 4) {μ : am_M} (h : μ 1 s = -1) : f_X11_lose [vR 0, vI (nI s)] μ = some (some (vI (-10 - 1)), am_up μ 0 4 1) := by
  unfold f_X11_lose g_X11_lose
  simp [am_fn, am_en, am_bd_s, am_bd_n, e_n, e_u, e_b, e_c, e_k, b_z, b_2, b_and, b_or, b_not, a_0, a_1, s_k, s_pop, s_as, s_inc, s_pf, s_po, s_ia, s_io, s_cy, s_0, s_sq, s_if, s_no, s_bk, s_rt_I, s_rt_L, s_rt_A, s_rv, s_sw, o_k, o_li, o_ll, o_lr, o_ii, o_iz, o_jj, o_jz, o_ji, o_jc, o_iu, o_i2l, o_si, o_sr, o_sl, o_inc, am_cl, am_cs, am_m1, am_m2, am_c1, am_c0, am_c2, am_se, am_nl, am_nr, am_wh, List.getElem?_cons_zero, List.getElem?_cons_succ, List.length_cons, List.length_nil, Option.map_some, Option.map_none, List.reverse_cons, List.set_cons_succ, List.set_cons_zero, List.take_succ_cons, List.take_zero, List.cons_append, List.nil_append, f_isSheet, rg_in hs (show 4 < 2 ^ 31 by decide), bI, gv_M_0_0, lv_M_1 hs, h, ck_M_0, f_finds]
theorem M_lose_ok {s f : Nat} (hs : s < 4) {μ : am_M} (h : μ 1 s = nI f) (hf : f < 3) : f_X11_lose [vR 0, vI (nI s)] μ = some (some (vI (μ 2 s)), am_up μ 1 s (-1)) := by
  unfold f_X11_lose g_X11_lose
  have g0 : (nI f < 0) = False := eq_false (nI_pos (by omega))
  have g1 : am_up μ 1 s (-1) 2 s = μ 2 s := am_up_ne _ _ (by omega)
  simp [am_fn, am_en, am_bd_s, am_bd_n, e_n, e_u, e_b, e_c, e_k, b_z, b_2, b_and, b_or, b_not, a_0, a_1, s_k, s_pop, s_as, s_inc, s_pf, s_po, s_ia, s_io, s_cy, s_0, s_sq, s_if, s_no, s_bk, s_rt_I, s_rt_L, s_rt_A, s_rv, s_sw, o_k, o_li, o_ll, o_lr, o_ii, o_iz, o_jj, o_jz, o_ji, o_jc, o_iu, o_i2l, o_si, o_sr, o_sl, o_inc, am_cl, am_cs, am_m1, am_m2, am_c1, am_c0, am_c2, am_se, am_nl, am_nr, am_wh, List.getElem?_cons_zero, List.getElem?_cons_succ, List.length_cons, List.length_nil, Option.map_some, Option.map_none, List.reverse_cons, List.set_cons_succ, List.set_cons_zero, List.take_succ_cons, List.take_zero, List.cons_append, List.nil_append, f_isSheet, rg_in hs (show 4 < 2 ^ 31 by decide), bI, gv_M_0_0, gv_M_0_1, lv_M_1 hs, lv_M_2 hs, wv_M_1 hs, h, g0, g1]
/-- a finding: both sides -/
theorem R_find {σ : Sg} {μX μM : am_M} (hX : RX σ μX) (hM : RM σ μM) (v : Int32) : RX (pL σ v) (am_up μX 0 15 v) ∧ RM (pL σ v) (am_up μM 0 4 v) := by
  refine ⟨⟨?_, ?_, ?_, ?_, ?_⟩, ⟨?_, ?_, ?_, ?_, ?_, ?_⟩⟩
  · exact hX.1.kept (fun a c h3 h4 => am_up_ne _ _ (by omega))
  · exact hX.2.1.kept (fun a c h3 h4 => am_up_ne _ _ (by omega))
  · exact hX.2.2.1.kept (fun a c h3 h4 => am_up_ne _ _ (by omega))
  · exact hX.2.2.2.1.kept (fun a c h3 h4 => am_up_ne _ _ (by omega))
  · exact am_up_eq _ _ _ _
  · exact hM.1.kept (fun a c h3 => am_up_ne _ _ (by omega))
  · exact hM.2.1.kept (am_up_ne _ _ (by omega)) (fun c => am_up_ne _ _ (by omega))
  · exact hM.2.2.1.kept (am_up_ne _ _ (by omega)) (fun c => am_up_ne _ _ (by omega))
  · exact hM.2.2.2.1.kept (fun a c h3 h4 => am_up_ne _ _ (by omega))
  · exact am_up_eq _ _ _ _
  · rw [am_up_ne _ _ (by omega)]; exact hM.2.2.2.2.2
theorem Op_find {fX fM : am_F} {as : List AV} {σ : Sg} {μX μM : am_M} {w : AV} {v : Int32} (hw : wfS σ) (hX : RX σ μX) (hM : RM σ μM) (h1 : fX (vR 0 :: as) μX = some (some w, am_up μX 0 15 v)) (h2 : fM (vR 0 :: as) μM = some (some w, am_up μM 0 4 v)) : Op fX fM as σ μX μM :=
  ⟨w, _, _, pL σ v, h1, h2, hw, (R_find hX hM v).1, (R_find hX hM v).2, Or.inl ⟨rfl, rfl, fun a c h3 h4 => am_up_ne _ _ (by omega), am_up_ne _ _ (by omega)⟩⟩
theorem sF_pF (σ : Sg) (s : Nat) (x : Bool × Nat × List Int32) (u : Nat) : sF (pF σ s x) u = if u = s then x else sF σ u := rfl
theorem op_lose {σ : Sg} {μX μM : am_M} (hw : wfS σ) (hX : RX σ μX) (hM : RM σ μM) (s : Int32) : Op f_X10_lose f_X11_lose [vI s] σ μX μM := by
  rcases rg_cases s (n := 4) (by decide) with h1 | ⟨s, hs, rfl⟩
  · exact Op_same hw hX hM (X_lose_bad h1 μX) (M_lose_bad h1 μM)
  obtain ⟨x1, x2, x3, x4⟩ := hX.2.2.2.1 s hs
  obtain ⟨m1, m2, m3⟩ := hM.2.2.2.1 s hs
  obtain ⟨w1, w2⟩ := hw.2.2.2 s hs
  cases hl : (sF σ s).1
  · rw [hl] at x1 m1
    have h1 := X_lose_ok hs x1
    have h2 := M_lose_ok hs m1 w1
    rw [x3] at h1
    rw [m2] at h2
    refine ⟨_, _, _, pF σ s (true, (sF σ s).2), h1, h2, ⟨hw.1, hw.2.1, hw.2.2.1, fun u hu => ?_⟩, ⟨?_, ?_, ?_, fun u hu => ?_, ?_⟩, ⟨?_, ?_, ?_, fun u hu => ?_, ?_, ?_⟩, Or.inl ⟨rfl, rfl, fun a c h3 h4 => am_up_ne _ _ (by omega), am_up_ne _ _ (by omega)⟩⟩
    · rw [sF_pF]
      by_cases h : u = s
      · subst h; rw [if_pos rfl]; exact ⟨w1, w2⟩
      · rw [if_neg h]; exact hw.2.2.2 u hu
    · exact hX.1.kept (fun a c h3 h4 => am_up_ne _ _ (by omega))
    · exact hX.2.1.kept (fun a c h3 h4 => am_up_ne _ _ (by omega))
    · exact hX.2.2.1.kept (fun a c h3 h4 => am_up_ne _ _ (by omega))
    · rw [sF_pF]
      obtain ⟨y1, y2, y3, y4⟩ := hX.2.2.2.1 u hu
      by_cases h : u = s
      · subst h
        rw [if_pos rfl]
        exact ⟨am_up_eq _ _ _ _, fun h9 => (by cases h9), by rw [am_up_ne _ _ (by omega)]; exact y3, fun i v hv => by rw [am_up_ne _ _ (by omega)]; exact y4 i v hv⟩
      · rw [if_neg h]
        exact ⟨by rw [am_up_ne _ _ (by omega)]; exact y1, fun h9 => by rw [am_up_ne _ _ (by omega)]; exact y2 h9, by rw [am_up_ne _ _ (by omega)]; exact y3, fun i v hv => by rw [am_up_ne _ _ (by omega)]; exact y4 i v hv⟩
    · rw [am_up_ne _ _ (by omega)]; exact hX.2.2.2.2
    · exact hM.1.kept (fun a c h3 => am_up_ne _ _ (by omega))
    · exact hM.2.1.kept (am_up_ne _ _ (by omega)) (fun c => am_up_ne _ _ (by omega))
    · exact hM.2.2.1.kept (am_up_ne _ _ (by omega)) (fun c => am_up_ne _ _ (by omega))
    · rw [sF_pF]
      obtain ⟨y1, y2, y3⟩ := hM.2.2.2.1 u hu
      by_cases h : u = s
      · subst h
        rw [if_pos rfl]
        exact ⟨am_up_eq _ _ _ _, by rw [am_up_ne _ _ (by omega)]; exact y2, fun i v hv => by rw [am_up_ne _ _ (by omega)]; exact y3 i v hv⟩
      · rw [if_neg h]
        exact ⟨by rw [am_up_ne _ _ (by omega)]; exact y1, by rw [am_up_ne _ _ (by omega)]; exact y2, fun i v hv => by rw [am_up_ne _ _ (by omega)]; exact y3 i v hv⟩
    · rw [am_up_ne _ _ (by omega)]; exact hM.2.2.2.2.1
    · rw [am_up_ne _ _ (by omega)]; exact hM.2.2.2.2.2
  · rw [hl] at x1 m1
    exact Op_find hw hX hM (X_lose_null hs x1) (M_lose_null hs m1)
