/-! seen: both sides, and as an operation -/
def upG (n : Nat) (g : Int32 × Int32 × Int32) (μ : am_M) : am_M := am_up (am_up (am_up (am_up μ 86 n g.1) 87 n g.2.1) 88 n g.2.2) 85 0 (nI (n + 1))
theorem f_tellG {n : Nat} (hn : n < 8) {μ : am_M} (h : μ 85 0 = nI n) (a b c : Int32) : f_X6_tell [vR 85, vI a, vI b, vI c] μ = some (none, upG n (a, b, c) μ) := by
  unfold f_X6_tell g_X6_tell upG
  have g0 : (8 ≤ nI n) = False := eq_false (nI_ge (b := 8) hn (by decide))
  have g1 : am_up μ 86 n a 85 0 = nI n := by rw [am_up_ne _ _ (by omega), h]
  have g2 : am_up (am_up μ 86 n a) 87 n b 85 0 = nI n := by rw [am_up_ne _ _ (by omega), g1]
  have g3 : am_up (am_up (am_up μ 86 n a) 87 n b) 88 n c 85 0 = nI n := by rw [am_up_ne _ _ (by omega), g2]
  simp [am_fn, am_en, am_bd_s, am_bd_n, e_n, e_u, e_b, e_c, e_k, b_z, b_2, b_and, b_or, b_not, a_0, a_1, s_k, s_pop, s_as, s_inc, s_pf, s_po, s_ia, s_io, s_cy, s_0, s_sq, s_if, s_no, s_bk, s_rt_I, s_rt_L, s_rt_A, s_rv, s_sw, o_k, o_li, o_ll, o_lr, o_ii, o_iz, o_jj, o_jz, o_ji, o_jc, o_iu, o_i2l, o_si, o_sr, o_sl, o_inc, am_cl, am_cs, am_m1, am_m2, am_c1, am_c0, am_c2, am_se, am_nl, am_nr, am_wh, List.getElem?_cons_zero, List.getElem?_cons_succ, List.length_cons, List.length_nil, Option.map_some, Option.map_none, List.reverse_cons, List.set_cons_succ, List.set_cons_zero, List.take_succ_cons, List.take_zero, List.cons_append, List.nil_append, gv_X_85_0, gv_X_85_1, gv_X_85_2, gv_X_85_3, h, g0, g1, g2, g3, wv_X_86 hn, wv_X_87 hn, wv_X_88 hn, nI_1, pv_X_85_0]
theorem X_seen_bad {a b c : Int32} (h : (rg a 20 && rg b 8 && rg c 5) = false) (μ : am_M) : f_X10_seen [vR 0, vI a, vI b, vI c] μ = some (some (vI (-2)), μ) := by
  unfold f_X10_seen g_X10_seen
  cases h1 : rg a 20 <;> cases h2 : rg b 8 <;> cases h3 : rg c 5 <;> simp [h1, h2, h3] at h <;> simp [am_fn, am_en, am_bd_s, am_bd_n, e_n, e_u, e_b, e_c, e_k, b_z, b_2, b_and, b_or, b_not, a_0, a_1, s_k, s_pop, s_as, s_inc, s_pf, s_po, s_ia, s_io, s_cy, s_0, s_sq, s_if, s_no, s_bk, s_rt_I, s_rt_L, s_rt_A, s_rv, s_sw, o_k, o_li, o_ll, o_lr, o_ii, o_iz, o_jj, o_jz, o_ji, o_jc, o_iu, o_i2l, o_si, o_sr, o_sl, o_inc, am_cl, am_cs, am_m1, am_m2, am_c1, am_c0, am_c2, am_se, am_nl, am_nr, am_wh, List.getElem?_cons_zero, List.getElem?_cons_succ, List.length_cons, List.length_nil, Option.map_some, Option.map_none, List.reverse_cons, List.set_cons_succ, List.set_cons_zero, List.take_succ_cons, List.take_zero, List.cons_append, List.nil_append, f_w_20, f_w_8, f_w_5, h1, h2, h3, bI]
theorem X_seen_full {a b c : Int32} (h : (rg a 20 && rg b 8 && rg c 5) = true) {μ : am_M} (hn : μ 85 0 = 8) : f_X10_seen [vR 0, vI a, vI b, vI c] μ = some (some (vI (-4)), μ) := by
  unfold f_X10_seen g_X10_seen
  simp only [Bool.and_eq_true] at h
  simp [am_fn, am_en, am_bd_s, am_bd_n, e_n, e_u, e_b, e_c, e_k, b_z, b_2, b_and, b_or, b_not, a_0, a_1, s_k, s_pop, s_as, s_inc, s_pf, s_po, s_ia, s_io, s_cy, s_0, s_sq, s_if, s_no, s_bk, s_rt_I, s_rt_L, s_rt_A, s_rv, s_sw, o_k, o_li, o_ll, o_lr, o_ii, o_iz, o_jj, o_jz, o_ji, o_jc, o_iu, o_i2l, o_si, o_sr, o_sl, o_inc, am_cl, am_cs, am_m1, am_m2, am_c1, am_c0, am_c2, am_se, am_nl, am_nr, am_wh, List.getElem?_cons_zero, List.getElem?_cons_succ, List.length_cons, List.length_nil, Option.map_some, Option.map_none, List.reverse_cons, List.set_cons_succ, List.set_cons_zero, List.take_succ_cons, List.take_zero, List.cons_append, List.nil_append, f_w_20, f_w_8, f_w_5, h.1.1, h.1.2, h.2, bI, gv_X_0_12, gv_X_85_0, hn]
theorem X_seen_ok {a b c : Int32} (h : (rg a 20 && rg b 8 && rg c 5) = true) {n : Nat} (hn8 : n < 8) {μ : am_M} (hn : μ 85 0 = nI n) : f_X10_seen [vR 0, vI a, vI b, vI c] μ = some (some (vI (nI (n + 1))), upG n (a, b, c) μ) := by
  unfold f_X10_seen g_X10_seen
  simp only [Bool.and_eq_true] at h
  have g0 : (8 ≤ nI n) = False := eq_false (nI_ge (b := 8) hn8 (by decide))
  have g1 : upG n (a, b, c) μ 85 0 = nI (n + 1) := by unfold upG; rw [am_up_eq]
  simp [am_fn, am_en, am_bd_s, am_bd_n, e_n, e_u, e_b, e_c, e_k, b_z, b_2, b_and, b_or, b_not, a_0, a_1, s_k, s_pop, s_as, s_inc, s_pf, s_po, s_ia, s_io, s_cy, s_0, s_sq, s_if, s_no, s_bk, s_rt_I, s_rt_L, s_rt_A, s_rv, s_sw, o_k, o_li, o_ll, o_lr, o_ii, o_iz, o_jj, o_jz, o_ji, o_jc, o_iu, o_i2l, o_si, o_sr, o_sl, o_inc, am_cl, am_cs, am_m1, am_m2, am_c1, am_c0, am_c2, am_se, am_nl, am_nr, am_wh, List.getElem?_cons_zero, List.getElem?_cons_succ, List.length_cons, List.length_nil, Option.map_some, Option.map_none, List.reverse_cons, List.set_cons_succ, List.set_cons_zero, List.take_succ_cons, List.take_zero, List.cons_append, List.nil_append, f_w_20, f_w_8, f_w_5, h.1.1, h.1.2, h.2, bI, gv_X_0_12, gv_X_85_0, hn, g0, f_tellG hn8 hn, ck_X_85, g1]
theorem M_seen_bad {a b c : Int32} (h : (rg a 20 && rg b 8 && rg c 5) = false) (μ : am_M) : f_X11_seen [vR 0, vI a, vI b, vI c] μ = some (some (vI (-2)), μ) := by
  unfold f_X11_seen g_X11_seen
  cases h1 : rg a 20 <;> cases h2 : rg b 8 <;> cases h3 : rg c 5 <;> simp [h1, h2, h3] at h <;> simp [am_fn, am_en, am_bd_s, am_bd_n, e_n, e_u, e_b, e_c, e_k, b_z, b_2, b_and, b_or, b_not, a_0, a_1, s_k, s_pop, s_as, s_inc, s_pf, s_po, s_ia, s_io, s_cy, s_0, s_sq, s_if, s_no, s_bk, s_rt_I, s_rt_L, s_rt_A, s_rv, s_sw, o_k, o_li, o_ll, o_lr, o_ii, o_iz, o_jj, o_jz, o_ji, o_jc, o_iu, o_i2l, o_si, o_sr, o_sl, o_inc, am_cl, am_cs, am_m1, am_m2, am_c1, am_c0, am_c2, am_se, am_nl, am_nr, am_wh, List.getElem?_cons_zero, List.getElem?_cons_succ, List.length_cons, List.length_nil, Option.map_some, Option.map_none, List.reverse_cons, List.set_cons_succ, List.set_cons_zero, List.take_succ_cons, List.take_zero, List.cons_append, List.nil_append, f_isHour, f_i_8, f_i_5, h1, h2, h3, bI]
theorem M_seen_full {a b c : Int32} (h : (rg a 20 && rg b 8 && rg c 5) = true) {μ : am_M} (hn : μ 0 31 = 8) : f_X11_seen [vR 0, vI a, vI b, vI c] μ = some (some (vI (-4)), μ) := by
  unfold f_X11_seen g_X11_seen
  simp only [Bool.and_eq_true] at h
  simp [am_fn, am_en, am_bd_s, am_bd_n, e_n, e_u, e_b, e_c, e_k, b_z, b_2, b_and, b_or, b_not, a_0, a_1, s_k, s_pop, s_as, s_inc, s_pf, s_po, s_ia, s_io, s_cy, s_0, s_sq, s_if, s_no, s_bk, s_rt_I, s_rt_L, s_rt_A, s_rv, s_sw, o_k, o_li, o_ll, o_lr, o_ii, o_iz, o_jj, o_jz, o_ji, o_jc, o_iu, o_i2l, o_si, o_sr, o_sl, o_inc, am_cl, am_cs, am_m1, am_m2, am_c1, am_c0, am_c2, am_se, am_nl, am_nr, am_wh, List.getElem?_cons_zero, List.getElem?_cons_succ, List.length_cons, List.length_nil, Option.map_some, Option.map_none, List.reverse_cons, List.set_cons_succ, List.set_cons_zero, List.take_succ_cons, List.take_zero, List.cons_append, List.nil_append, f_isHour, f_i_8, f_i_5, h.1.1, h.1.2, h.2, bI, gv_M_0_31, hn]
def upN (n : Nat) (g : Int32 × Int32 × Int32) (μ : am_M) : am_M := am_up (am_up (am_up (am_up μ 25 (3 * n) g.1) 25 (3 * n + 1) g.2.1) 25 (3 * n + 2) g.2.2) 0 31 (nI (n + 1))
theorem M_seen_ok {a b c : Int32} (h : (rg a 20 && rg b 8 && rg c 5) = true) {n : Nat} (hn8 : n < 8) {μ : am_M} (hn : μ 0 31 = nI n) : f_X11_seen [vR 0, vI a, vI b, vI c] μ = some (some (vI (nI (n + 1))), upN n (a, b, c) μ) := by
  unfold f_X11_seen g_X11_seen upN
  simp only [Bool.and_eq_true] at h
  have g0 : (nI n = 8) = False := eq_false (fun h9 => by rw [nI_lit, nI_eq (by omega) (by decide)] at h9; omega)
  have e0 : (3 : Int32) * nI n = nI (3 * n) := by rw [nI_lit, pk_mul]
  have e1 : nI (3 * n) + 1 = nI (3 * n + 1) := nI_1 _
  have e2 : nI (3 * n) + 2 = nI (3 * n + 2) := by rw [nI_lit, nI_add]
  have g1 : am_up μ 25 (3 * n) a 0 31 = nI n := by rw [am_up_ne _ _ (by omega), hn]
  have g2 : am_up (am_up μ 25 (3 * n) a) 25 (3 * n + 1) b 0 31 = nI n := by rw [am_up_ne _ _ (by omega), g1]
  have g3 : am_up (am_up (am_up μ 25 (3 * n) a) 25 (3 * n + 1) b) 25 (3 * n + 2) c 0 31 = nI n := by rw [am_up_ne _ _ (by omega), g2]
  simp [am_fn, am_en, am_bd_s, am_bd_n, e_n, e_u, e_b, e_c, e_k, b_z, b_2, b_and, b_or, b_not, a_0, a_1, s_k, s_pop, s_as, s_inc, s_pf, s_po, s_ia, s_io, s_cy, s_0, s_sq, s_if, s_no, s_bk, s_rt_I, s_rt_L, s_rt_A, s_rv, s_sw, o_k, o_li, o_ll, o_lr, o_ii, o_iz, o_jj, o_jz, o_ji, o_jc, o_iu, o_i2l, o_si, o_sr, o_sl, o_inc, am_cl, am_cs, am_m1, am_m2, am_c1, am_c0, am_c2, am_se, am_nl, am_nr, am_wh, List.getElem?_cons_zero, List.getElem?_cons_succ, List.length_cons, List.length_nil, Option.map_some, Option.map_none, List.reverse_cons, List.set_cons_succ, List.set_cons_zero, List.take_succ_cons, List.take_zero, List.cons_append, List.nil_append, f_isHour, f_i_8, f_i_5, h.1.1, h.1.2, h.2, bI, gv_M_0_31, gv_M_0_32, hn, g0, e0, e1, e2, g1, g2, g3, wv_M_25 (show 3 * n < 24 by omega), wv_M_25 (show 3 * n + 1 < 24 by omega), wv_M_25 (show 3 * n + 2 < 24 by omega), nI_1, pv_M_0_31, am_up_eq]
theorem upG_ne {n : Nat} {g : Int32 × Int32 × Int32} {μ : am_M} {a b : Nat} (h : a < 85 ∨ 89 ≤ a) : upG n g μ a b = μ a b := by
  unfold upG
  rw [am_up_ne _ _ (by omega), am_up_ne _ _ (by omega), am_up_ne _ _ (by omega), am_up_ne _ _ (by omega)]
theorem upN_ne {n : Nat} {g : Int32 × Int32 × Int32} {μ : am_M} {a b : Nat} (h : a ≠ 25) (h2 : ¬ (a = 0 ∧ b = 31)) : upN n g μ a b = μ a b := by
  unfold upN
  rw [am_up_ne _ _ (by omega), am_up_ne _ _ (by omega), am_up_ne _ _ (by omega), am_up_ne _ _ (by omega)]
theorem op_seen {σ : Sg} {μX μM : am_M} (hw : wfS σ) (hX : RX σ μX) (hM : RM σ μM) (a b c : Int32) : Op f_X10_seen f_X11_seen [vI a, vI b, vI c] σ μX μM := by
  cases hr : rg a 20 && rg b 8 && rg c 5
  · exact Op_same hw hX hM (X_seen_bad hr μX) (M_seen_bad hr μM)
  have hr' := hr
  simp only [Bool.and_eq_true] at hr'
  rcases rg_cases a (n := 20) (by decide) with h | ⟨a, ha, rfl⟩
  · rw [hr'.1.1] at h; cases h
  rcases rg_cases b (n := 8) (by decide) with h | ⟨b, hb, rfl⟩
  · rw [hr'.1.2] at h; cases h
  rcases rg_cases c (n := 5) (by decide) with h | ⟨c, hc, rfl⟩
  · rw [hr'.2] at h; cases h
  have x1 := hX.2.2.1.1
  have m1 := hM.2.2.1.1
  have hl := hw.2.2.1.1
  by_cases h8 : (sG σ).length = 8
  · exact Op_same hw hX hM (X_seen_full hr (by rw [x1, h8]; rfl)) (M_seen_full hr (by rw [m1, h8]; rfl))
  · refine ⟨_, _, _, pG σ (sG σ ++ [(a, b, c)]), X_seen_ok hr (by omega) x1, M_seen_ok hr (by omega) m1, ⟨hw.1, hw.2.1, ⟨?_, fun e he => ?_⟩, hw.2.2.2⟩, ⟨?_, ?_, ⟨?_, fun i g hg => ?_⟩, ?_, ?_⟩, ⟨?_, ?_, ⟨?_, fun i g hg => ?_⟩, ?_, ?_, ?_⟩, Or.inl ⟨rfl, rfl, fun x y h3 h4 => upG_ne (by omega), upG_ne (by omega)⟩⟩
    · show (sG σ ++ [_]).length ≤ 8
      rw [List.length_append]
      simp
      omega
    · rcases List.mem_append.mp he with h | h
      · exact hw.2.2.1.2 e h
      · rw [List.mem_singleton.mp h]
        exact ⟨ha, hb, hc⟩
    · exact hX.1.kept (fun x y h3 h4 => upG_ne (by omega))
    · exact hX.2.1.kept (fun x y h3 h4 => upG_ne (by omega))
    · show _ = nI (sG σ ++ [_]).length
      unfold upG
      rw [am_up_eq, List.length_append]
      rfl
    · unfold upG
      rcases gE_app hg with h | ⟨rfl, rfl⟩
      · obtain ⟨k1, k2, k3⟩ := hX.2.2.1.2 i g h
        have := gE_lt h
        exact ⟨by rw [am_up_ne _ _ (by omega), am_up_ne _ _ (by omega), am_up_ne _ _ (by omega), am_up_ne _ _ (by omega)]; exact k1, by rw [am_up_ne _ _ (by omega), am_up_ne _ _ (by omega), am_up_ne _ _ (by omega), am_up_ne _ _ (by omega)]; exact k2, by rw [am_up_ne _ _ (by omega), am_up_ne _ _ (by omega), am_up_ne _ _ (by omega), am_up_ne _ _ (by omega)]; exact k3⟩
      · exact ⟨by rw [am_up_ne _ _ (by omega), am_up_ne _ _ (by omega), am_up_ne _ _ (by omega), am_up_eq], by rw [am_up_ne _ _ (by omega), am_up_ne _ _ (by omega), am_up_eq], by rw [am_up_ne _ _ (by omega), am_up_eq]⟩
    · exact hX.2.2.2.1.kept (fun x y h3 h4 => upG_ne (by omega))
    · rw [upG_ne (by omega)]; exact hX.2.2.2.2
    · exact hM.1.kept (fun x y h3 => upN_ne (by omega) (by omega))
    · exact hM.2.1.kept (upN_ne (by omega) (by omega)) (fun y => upN_ne (by omega) (by omega))
    · show _ = nI (sG σ ++ [_]).length
      unfold upN
      rw [am_up_eq, List.length_append]
      rfl
    · unfold upN
      rcases gE_app hg with h | ⟨rfl, rfl⟩
      · obtain ⟨k1, k2, k3⟩ := hM.2.2.1.2 i g h
        have := gE_lt h
        exact ⟨by rw [am_up_ne _ _ (by omega), am_up_ne _ _ (by omega), am_up_ne _ _ (by omega), am_up_ne _ _ (by omega)]; exact k1, by rw [am_up_ne _ _ (by omega), am_up_ne _ _ (by omega), am_up_ne _ _ (by omega), am_up_ne _ _ (by omega)]; exact k2, by rw [am_up_ne _ _ (by omega), am_up_ne _ _ (by omega), am_up_ne _ _ (by omega), am_up_ne _ _ (by omega)]; exact k3⟩
      · exact ⟨by rw [am_up_ne _ _ (by omega), am_up_ne _ _ (by omega), am_up_ne _ _ (by omega), am_up_eq], by rw [am_up_ne _ _ (by omega), am_up_ne _ _ (by omega), am_up_eq], by rw [am_up_ne _ _ (by omega), am_up_eq]⟩
    · exact hM.2.2.2.1.kept (fun x y h3 h4 => upN_ne (by omega) (by omega))
    · rw [upN_ne (by omega) (by omega)]; exact hM.2.2.2.2.1
    · rw [upN_ne (by omega) (by omega)]; exact hM.2.2.2.2.2
