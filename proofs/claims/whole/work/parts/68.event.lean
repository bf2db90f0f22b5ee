/-! event, seen: both sides, and as operations -/
theorem f_mayBe (a b c d : Int32) (μ : am_M) : f_X10_mayBeEvent [vI a, vI b, vI c, vI d] μ = some (some (vI (bI (rg a 3 && rg b 20 && rg c 8 && rg d 10))), μ) := by
  unfold f_X10_mayBeEvent g_X10_mayBeEvent
  cases h1 : rg a 3 <;> cases h2 : rg b 20 <;> cases h3 : rg c 8 <;> cases h4 : rg d 10 <;> simp [am_fn, am_en, am_bd_s, am_bd_n, e_n, e_u, e_b, e_c, e_k, b_z, b_2, b_and, b_or, b_not, a_0, a_1, s_k, s_pop, s_as, s_inc, s_pf, s_po, s_ia, s_io, s_cy, s_0, s_sq, s_if, s_no, s_bk, s_rt_I, s_rt_L, s_rt_A, s_rv, s_sw, o_k, o_li, o_ll, o_lr, o_ii, o_iz, o_jj, o_jz, o_ji, o_jc, o_iu, o_i2l, o_si, o_sr, o_sl, o_inc, am_cl, am_cs, am_m1, am_m2, am_c1, am_c0, am_c2, am_se, am_nl, am_nr, am_wh, List.getElem?_cons_zero, List.getElem?_cons_succ, List.length_cons, List.length_nil, Option.map_some, Option.map_none, List.reverse_cons, List.set_cons_succ, List.set_cons_zero, List.take_succ_cons, List.take_zero, List.cons_append, List.nil_append, f_w_3, f_w_20, f_w_8, f_w_10, h1, h2, h3, h4, bI]
/-- an event told: the class's memory behind it -/
def upE (c n : Nat) (e : Int32 × Int32 × Int32 × Int32) (μ : am_M) : am_M := am_up (am_up (am_up (am_up (am_up μ (c + 1) n e.1) (c + 2) n e.2.1) (c + 3) n e.2.2.1) (c + 4) n e.2.2.2) c 0 (nI (n + 1))
theorem f_tell15 {n : Nat} (hn : n < 8) {μ : am_M} (h : μ 15 0 = nI n) (a b c d : Int32) : f_X1_tell [vR 15, vI a, vI b, vI c, vI d] μ = some (none, upE 15 n (a, b, c, d) μ) := by
  unfold f_X1_tell g_X1_tell upE
  have g0 : (8 ≤ nI n) = False := eq_false (nI_ge (b := 8) hn (by decide))
  have g1 : am_up μ 16 n a 15 0 = nI n := by rw [am_up_ne _ _ (by omega), h]
  have g2 : am_up (am_up μ 16 n a) 17 n b 15 0 = nI n := by rw [am_up_ne _ _ (by omega), g1]
  have g3 : am_up (am_up (am_up μ 16 n a) 17 n b) 18 n c 15 0 = nI n := by rw [am_up_ne _ _ (by omega), g2]
  have g4 : am_up (am_up (am_up (am_up μ 16 n a) 17 n b) 18 n c) 19 n d 15 0 = nI n := by rw [am_up_ne _ _ (by omega), g3]
  simp [am_fn, am_en, am_bd_s, am_bd_n, e_n, e_u, e_b, e_c, e_k, b_z, b_2, b_and, b_or, b_not, a_0, a_1, s_k, s_pop, s_as, s_inc, s_pf, s_po, s_ia, s_io, s_cy, s_0, s_sq, s_if, s_no, s_bk, s_rt_I, s_rt_L, s_rt_A, s_rv, s_sw, o_k, o_li, o_ll, o_lr, o_ii, o_iz, o_jj, o_jz, o_ji, o_jc, o_iu, o_i2l, o_si, o_sr, o_sl, o_inc, am_cl, am_cs, am_m1, am_m2, am_c1, am_c0, am_c2, am_se, am_nl, am_nr, am_wh, List.getElem?_cons_zero, List.getElem?_cons_succ, List.length_cons, List.length_nil, Option.map_some, Option.map_none, List.reverse_cons, List.set_cons_succ, List.set_cons_zero, List.take_succ_cons, List.take_zero, List.cons_append, List.nil_append, gv_X_15_0, gv_X_15_1, gv_X_15_2, gv_X_15_3, gv_X_15_4, h, g0, g1, g2, g3, g4, wv_X_16 hn, wv_X_17 hn, wv_X_18 hn, wv_X_19 hn, nI_1, pv_X_15_0]
theorem f_tell20 {n : Nat} (hn : n < 8) {μ : am_M} (h : μ 20 0 = nI n) (a b c d : Int32) : f_X1_tell [vR 20, vI a, vI b, vI c, vI d] μ = some (none, upE 20 n (a, b, c, d) μ) := by
  unfold f_X1_tell g_X1_tell upE
  have g0 : (8 ≤ nI n) = False := eq_false (nI_ge (b := 8) hn (by decide))
  have g1 : am_up μ 21 n a 20 0 = nI n := by rw [am_up_ne _ _ (by omega), h]
  have g2 : am_up (am_up μ 21 n a) 22 n b 20 0 = nI n := by rw [am_up_ne _ _ (by omega), g1]
  have g3 : am_up (am_up (am_up μ 21 n a) 22 n b) 23 n c 20 0 = nI n := by rw [am_up_ne _ _ (by omega), g2]
  have g4 : am_up (am_up (am_up (am_up μ 21 n a) 22 n b) 23 n c) 24 n d 20 0 = nI n := by rw [am_up_ne _ _ (by omega), g3]
  simp [am_fn, am_en, am_bd_s, am_bd_n, e_n, e_u, e_b, e_c, e_k, b_z, b_2, b_and, b_or, b_not, a_0, a_1, s_k, s_pop, s_as, s_inc, s_pf, s_po, s_ia, s_io, s_cy, s_0, s_sq, s_if, s_no, s_bk, s_rt_I, s_rt_L, s_rt_A, s_rv, s_sw, o_k, o_li, o_ll, o_lr, o_ii, o_iz, o_jj, o_jz, o_ji, o_jc, o_iu, o_i2l, o_si, o_sr, o_sl, o_inc, am_cl, am_cs, am_m1, am_m2, am_c1, am_c0, am_c2, am_se, am_nl, am_nr, am_wh, List.getElem?_cons_zero, List.getElem?_cons_succ, List.length_cons, List.length_nil, Option.map_some, Option.map_none, List.reverse_cons, List.set_cons_succ, List.set_cons_zero, List.take_succ_cons, List.take_zero, List.cons_append, List.nil_append, gv_X_20_0, gv_X_20_1, gv_X_20_2, gv_X_20_3, gv_X_20_4, h, g0, g1, g2, g3, g4, wv_X_21 hn, wv_X_22 hn, wv_X_23 hn, wv_X_24 hn, nI_1, pv_X_20_0]
theorem upE_ne {c n : Nat} {e : Int32 × Int32 × Int32 × Int32} {μ : am_M} {a b : Nat} (h : a < c ∨ c + 5 ≤ a) : upE c n e μ a b = μ a b := by
  unfold upE
  rw [am_up_ne _ _ (by omega), am_up_ne _ _ (by omega), am_up_ne _ _ (by omega), am_up_ne _ _ (by omega), am_up_ne _ _ (by omega)]
theorem xE_tell {c n : Nat} {E : List Ev} {μ : am_M} (h : xE c E μ) (hn : n = E.length) (e : Ev) : xE c (E ++ [e]) (upE c n (nI e.1, nI e.2.1, nI e.2.2.1, nI e.2.2.2) μ) := by
  subst hn
  unfold upE
  refine ⟨by rw [am_up_eq, List.length_append]; rfl, fun i x hx => ?_⟩
  rcases gE_app hx with h1 | ⟨rfl, rfl⟩
  · obtain ⟨k1, k2, k3, k4⟩ := h.2 i x h1
    have := gE_lt h1
    exact ⟨by rw [am_up_ne _ _ (by omega), am_up_ne _ _ (by omega), am_up_ne _ _ (by omega), am_up_ne _ _ (by omega), am_up_ne _ _ (by omega)]; exact k1, by rw [am_up_ne _ _ (by omega), am_up_ne _ _ (by omega), am_up_ne _ _ (by omega), am_up_ne _ _ (by omega), am_up_ne _ _ (by omega)]; exact k2, by rw [am_up_ne _ _ (by omega), am_up_ne _ _ (by omega), am_up_ne _ _ (by omega), am_up_ne _ _ (by omega), am_up_ne _ _ (by omega)]; exact k3, by rw [am_up_ne _ _ (by omega), am_up_ne _ _ (by omega), am_up_ne _ _ (by omega), am_up_ne _ _ (by omega), am_up_ne _ _ (by omega)]; exact k4⟩
  · refine ⟨?_, ?_, ?_, ?_⟩
    · rw [am_up_ne _ _ (by omega), am_up_ne _ _ (by omega), am_up_ne _ _ (by omega), am_up_ne _ _ (by omega)]; rw [am_up_eq]
    · rw [am_up_ne _ _ (by omega), am_up_ne _ _ (by omega), am_up_ne _ _ (by omega)]; rw [am_up_eq]
    · rw [am_up_ne _ _ (by omega), am_up_ne _ _ (by omega)]; rw [am_up_eq]
    · rw [am_up_ne _ _ (by omega)]; rw [am_up_eq]
theorem X_event_bad {a b c d : Int32} (h : (rg a 3 && rg b 20 && rg c 8 && rg d 10) = false) (μ : am_M) : f_X10_event [vR 0, vI a, vI b, vI c, vI d] μ = some (some (vI (-2)), μ) := by
  unfold f_X10_event g_X10_event
  simp [am_fn, am_en, am_bd_s, am_bd_n, e_n, e_u, e_b, e_c, e_k, b_z, b_2, b_and, b_or, b_not, a_0, a_1, s_k, s_pop, s_as, s_inc, s_pf, s_po, s_ia, s_io, s_cy, s_0, s_sq, s_if, s_no, s_bk, s_rt_I, s_rt_L, s_rt_A, s_rv, s_sw, o_k, o_li, o_ll, o_lr, o_ii, o_iz, o_jj, o_jz, o_ji, o_jc, o_iu, o_i2l, o_si, o_sr, o_sl, o_inc, am_cl, am_cs, am_m1, am_m2, am_c1, am_c0, am_c2, am_se, am_nl, am_nr, am_wh, List.getElem?_cons_zero, List.getElem?_cons_succ, List.length_cons, List.length_nil, Option.map_some, Option.map_none, List.reverse_cons, List.set_cons_succ, List.set_cons_zero, List.take_succ_cons, List.take_zero, List.cons_append, List.nil_append, f_mayBe, h, bI]
theorem X_event_full {a b c d : Int32} (h : (rg a 3 && rg b 20 && rg c 8 && rg d 10) = true) {μ : am_M} (hn : μ 15 0 = 8) : f_X10_event [vR 0, vI a, vI b, vI c, vI d] μ = some (some (vI (-4)), μ) := by
  unfold f_X10_event g_X10_event
  simp [am_fn, am_en, am_bd_s, am_bd_n, e_n, e_u, e_b, e_c, e_k, b_z, b_2, b_and, b_or, b_not, a_0, a_1, s_k, s_pop, s_as, s_inc, s_pf, s_po, s_ia, s_io, s_cy, s_0, s_sq, s_if, s_no, s_bk, s_rt_I, s_rt_L, s_rt_A, s_rv, s_sw, o_k, o_li, o_ll, o_lr, o_ii, o_iz, o_jj, o_jz, o_ji, o_jc, o_iu, o_i2l, o_si, o_sr, o_sl, o_inc, am_cl, am_cs, am_m1, am_m2, am_c1, am_c0, am_c2, am_se, am_nl, am_nr, am_wh, List.getElem?_cons_zero, List.getElem?_cons_succ, List.length_cons, List.length_nil, Option.map_some, Option.map_none, List.reverse_cons, List.set_cons_succ, List.set_cons_zero, List.take_succ_cons, List.take_zero, List.cons_append, List.nil_append, f_mayBe, h, bI, gv_X_0_5, gv_X_15_0, hn]
theorem X_event_ok {a b c d : Int32} (h : (rg a 3 && rg b 20 && rg c 8 && rg d 10) = true) {n : Nat} (hn8 : n < 8) {μ : am_M} (hn : μ 15 0 = nI n) : f_X10_event [vR 0, vI a, vI b, vI c, vI d] μ = some (some (vI (nI (n + 1))), am_up (upE 15 n (a, b, c, d) μ) 0 16 1) := by
  unfold f_X10_event g_X10_event
  have g0 : (8 ≤ nI n) = False := eq_false (nI_ge (b := 8) hn8 (by decide))
  have g1 : am_up (upE 15 n (a, b, c, d) μ) 0 16 1 15 0 = nI (n + 1) := by rw [am_up_ne _ _ (by omega)]; unfold upE; rw [am_up_eq]
  simp [am_fn, am_en, am_bd_s, am_bd_n, e_n, e_u, e_b, e_c, e_k, b_z, b_2, b_and, b_or, b_not, a_0, a_1, s_k, s_pop, s_as, s_inc, s_pf, s_po, s_ia, s_io, s_cy, s_0, s_sq, s_if, s_no, s_bk, s_rt_I, s_rt_L, s_rt_A, s_rv, s_sw, o_k, o_li, o_ll, o_lr, o_ii, o_iz, o_jj, o_jz, o_ji, o_jc, o_iu, o_i2l, o_si, o_sr, o_sl, o_inc, am_cl, am_cs, am_m1, am_m2, am_c1, am_c0, am_c2, am_se, am_nl, am_nr, am_wh, List.getElem?_cons_zero, List.getElem?_cons_succ, List.length_cons, List.length_nil, Option.map_some, Option.map_none, List.reverse_cons, List.set_cons_succ, List.set_cons_zero, List.take_succ_cons, List.take_zero, List.cons_append, List.nil_append, f_mayBe, h, bI, gv_X_0_5, gv_X_15_0, hn, g0, f_tell15 hn8 hn, ck_X_15, pv_X_0_16, g1]
theorem M_event_bad {a b c d : Int32} (h : (rg a 3 && rg b 20 && rg c 8 && rg d 10) = false) (μ : am_M) : f_X11_event [vR 0, vI a, vI b, vI c, vI d] μ = some (some (vI (-2)), μ) := by
  unfold f_X11_event g_X11_event
  cases h1 : rg a 3 <;> cases h2 : rg b 20 <;> cases h3 : rg c 8 <;> cases h4 : rg d 10 <;> simp [h1, h2, h3, h4] at h <;> simp [am_fn, am_en, am_bd_s, am_bd_n, e_n, e_u, e_b, e_c, e_k, b_z, b_2, b_and, b_or, b_not, a_0, a_1, s_k, s_pop, s_as, s_inc, s_pf, s_po, s_ia, s_io, s_cy, s_0, s_sq, s_if, s_no, s_bk, s_rt_I, s_rt_L, s_rt_A, s_rv, s_sw, o_k, o_li, o_ll, o_lr, o_ii, o_iz, o_jj, o_jz, o_ji, o_jc, o_iu, o_i2l, o_si, o_sr, o_sl, o_inc, am_cl, am_cs, am_m1, am_m2, am_c1, am_c0, am_c2, am_se, am_nl, am_nr, am_wh, List.getElem?_cons_zero, List.getElem?_cons_succ, List.length_cons, List.length_nil, Option.map_some, Option.map_none, List.reverse_cons, List.set_cons_succ, List.set_cons_zero, List.take_succ_cons, List.take_zero, List.cons_append, List.nil_append, f_i_3, f_isHour, f_i_8, f_i_10, h1, h2, h3, h4, bI]
theorem M_event_full {a b c d : Int32} (h : (rg a 3 && rg b 20 && rg c 8 && rg d 10) = true) {μ : am_M} (hn : μ 0 15 = 8) : f_X11_event [vR 0, vI a, vI b, vI c, vI d] μ = some (some (vI (-4)), μ) := by
  unfold f_X11_event g_X11_event
  simp only [Bool.and_eq_true] at h
  simp [am_fn, am_en, am_bd_s, am_bd_n, e_n, e_u, e_b, e_c, e_k, b_z, b_2, b_and, b_or, b_not, a_0, a_1, s_k, s_pop, s_as, s_inc, s_pf, s_po, s_ia, s_io, s_cy, s_0, s_sq, s_if, s_no, s_bk, s_rt_I, s_rt_L, s_rt_A, s_rv, s_sw, o_k, o_li, o_ll, o_lr, o_ii, o_iz, o_jj, o_jz, o_ji, o_jc, o_iu, o_i2l, o_si, o_sr, o_sl, o_inc, am_cl, am_cs, am_m1, am_m2, am_c1, am_c0, am_c2, am_se, am_nl, am_nr, am_wh, List.getElem?_cons_zero, List.getElem?_cons_succ, List.length_cons, List.length_nil, Option.map_some, Option.map_none, List.reverse_cons, List.set_cons_succ, List.set_cons_zero, List.take_succ_cons, List.take_zero, List.cons_append, List.nil_append, f_i_3, f_isHour, f_i_8, f_i_10, h.1.1.1, h.1.1.2, h.1.2, h.2, bI, gv_M_0_15, hn]
def upM (n : Nat) (e : Int32 × Int32 × Int32 × Int32) (μ : am_M) : am_M := am_up (am_up (am_up (am_up (am_up μ 13 (4 * n) e.1) 13 (4 * n + 1) e.2.1) 13 (4 * n + 2) e.2.2.1) 13 (4 * n + 3) e.2.2.2) 0 15 (nI (n + 1))
theorem f_puts {n : Nat} (hn : n < 8) {μ : am_M} (h : μ 0 15 = nI n) (a b c d : Int32) : f_X11_puts [vR 0, vI a, vI b, vI c, vI d] μ = some (none, upM n (a, b, c, d) μ) := by
  unfold f_X11_puts g_X11_puts upM
  have e0 : (4 : Int32) * nI n = nI (4 * n) := by rw [nI_lit, pk_mul]
  have e1 : nI (4 * n) + 1 = nI (4 * n + 1) := nI_1 _
  have e2 : nI (4 * n) + 2 = nI (4 * n + 2) := by rw [nI_lit, nI_add]
  have e3 : nI (4 * n) + 3 = nI (4 * n + 3) := by rw [nI_lit, nI_add]
  have g1 : am_up μ 13 (4 * n) a 0 15 = nI n := by rw [am_up_ne _ _ (by omega), h]
  have g2 : am_up (am_up μ 13 (4 * n) a) 13 (4 * n + 1) b 0 15 = nI n := by rw [am_up_ne _ _ (by omega), g1]
  have g3 : am_up (am_up (am_up μ 13 (4 * n) a) 13 (4 * n + 1) b) 13 (4 * n + 2) c 0 15 = nI n := by rw [am_up_ne _ _ (by omega), g2]
  have g4 : am_up (am_up (am_up (am_up μ 13 (4 * n) a) 13 (4 * n + 1) b) 13 (4 * n + 2) c) 13 (4 * n + 3) d 0 15 = nI n := by rw [am_up_ne _ _ (by omega), g3]
  simp [am_fn, am_en, am_bd_s, am_bd_n, e_n, e_u, e_b, e_c, e_k, b_z, b_2, b_and, b_or, b_not, a_0, a_1, s_k, s_pop, s_as, s_inc, s_pf, s_po, s_ia, s_io, s_cy, s_0, s_sq, s_if, s_no, s_bk, s_rt_I, s_rt_L, s_rt_A, s_rv, s_sw, o_k, o_li, o_ll, o_lr, o_ii, o_iz, o_jj, o_jz, o_ji, o_jc, o_iu, o_i2l, o_si, o_sr, o_sl, o_inc, am_cl, am_cs, am_m1, am_m2, am_c1, am_c0, am_c2, am_se, am_nl, am_nr, am_wh, List.getElem?_cons_zero, List.getElem?_cons_succ, List.length_cons, List.length_nil, Option.map_some, Option.map_none, List.reverse_cons, List.set_cons_succ, List.set_cons_zero, List.take_succ_cons, List.take_zero, List.cons_append, List.nil_append, gv_M_0_15, gv_M_0_16, h, e0, e1, e2, e3, g1, g2, g3, g4, wv_M_13 (show 4 * n < 32 by omega), wv_M_13 (show 4 * n + 1 < 32 by omega), wv_M_13 (show 4 * n + 2 < 32 by omega), wv_M_13 (show 4 * n + 3 < 32 by omega), nI_1, pv_M_0_15]
theorem upM_ne {n : Nat} {e : Int32 × Int32 × Int32 × Int32} {μ : am_M} {a b : Nat} (h : a ≠ 13) (h2 : ¬ (a = 0 ∧ b = 15)) : upM n e μ a b = μ a b := by
  unfold upM
  rw [am_up_ne _ _ (by omega), am_up_ne _ _ (by omega), am_up_ne _ _ (by omega), am_up_ne _ _ (by omega), am_up_ne _ _ (by omega)]
theorem mE_tell {n : Nat} {E : List Ev} {μ : am_M} (h : mE E μ) (hn : n = E.length) (e : Ev) : mE (E ++ [e]) (upM n (nI e.1, nI e.2.1, nI e.2.2.1, nI e.2.2.2) μ) := by
  subst hn
  unfold upM
  refine ⟨by rw [am_up_eq, List.length_append]; rfl, fun i x hx => ?_⟩
  rcases gE_app hx with h1 | ⟨rfl, rfl⟩
  · obtain ⟨k1, k2, k3, k4⟩ := h.2 i x h1
    have := gE_lt h1
    exact ⟨by rw [am_up_ne _ _ (by omega), am_up_ne _ _ (by omega), am_up_ne _ _ (by omega), am_up_ne _ _ (by omega), am_up_ne _ _ (by omega)]; exact k1, by rw [am_up_ne _ _ (by omega), am_up_ne _ _ (by omega), am_up_ne _ _ (by omega), am_up_ne _ _ (by omega), am_up_ne _ _ (by omega)]; exact k2, by rw [am_up_ne _ _ (by omega), am_up_ne _ _ (by omega), am_up_ne _ _ (by omega), am_up_ne _ _ (by omega), am_up_ne _ _ (by omega)]; exact k3, by rw [am_up_ne _ _ (by omega), am_up_ne _ _ (by omega), am_up_ne _ _ (by omega), am_up_ne _ _ (by omega), am_up_ne _ _ (by omega)]; exact k4⟩
  · refine ⟨?_, ?_, ?_, ?_⟩
    · rw [am_up_ne _ _ (by omega), am_up_ne _ _ (by omega), am_up_ne _ _ (by omega), am_up_ne _ _ (by omega)]; rw [am_up_eq]
    · rw [am_up_ne _ _ (by omega), am_up_ne _ _ (by omega), am_up_ne _ _ (by omega)]; rw [am_up_eq]
    · rw [am_up_ne _ _ (by omega), am_up_ne _ _ (by omega)]; rw [am_up_eq]
    · rw [am_up_ne _ _ (by omega)]; rw [am_up_eq]
theorem M_event_ok {a b c d : Int32} (h : (rg a 3 && rg b 20 && rg c 8 && rg d 10) = true) {n : Nat} (hn8 : n < 8) {μ : am_M} (hn : μ 0 15 = nI n) : f_X11_event [vR 0, vI a, vI b, vI c, vI d] μ = some (some (vI (nI (n + 1))), upM n (a, b, c, d) μ) := by
  unfold f_X11_event g_X11_event
  simp only [Bool.and_eq_true] at h
  have g0 : (nI n = 8) = False := eq_false (fun h9 => by rw [nI_lit, nI_eq (by omega) (by decide)] at h9; omega)
  have g1 : upM n (a, b, c, d) μ 0 15 = nI (n + 1) := by unfold upM; rw [am_up_eq]
  simp [am_fn, am_en, am_bd_s, am_bd_n, e_n, e_u, e_b, e_c, e_k, b_z, b_2, b_and, b_or, b_not, a_0, a_1, s_k, s_pop, s_as, s_inc, s_pf, s_po, s_ia, s_io, s_cy, s_0, s_sq, s_if, s_no, s_bk, s_rt_I, s_rt_L, s_rt_A, s_rv, s_sw, o_k, o_li, o_ll, o_lr, o_ii, o_iz, o_jj, o_jz, o_ji, o_jc, o_iu, o_i2l, o_si, o_sr, o_sl, o_inc, am_cl, am_cs, am_m1, am_m2, am_c1, am_c0, am_c2, am_se, am_nl, am_nr, am_wh, List.getElem?_cons_zero, List.getElem?_cons_succ, List.length_cons, List.length_nil, Option.map_some, Option.map_none, List.reverse_cons, List.set_cons_succ, List.set_cons_zero, List.take_succ_cons, List.take_zero, List.cons_append, List.nil_append, f_i_3, f_isHour, f_i_8, f_i_10, h.1.1.1, h.1.1.2, h.1.2, h.2, bI, gv_M_0_15, hn, g0, f_puts hn8 hn, ck_M_0, g1]
/-- an event told: both sides -/
theorem R_tell {σ : Sg} {μX μM : am_M} (hX : RX σ μX) (hM : RM σ μM) (e : Ev) : RX (pE σ (sE σ ++ [e])) (am_up (upE 15 (sE σ).length (nI e.1, nI e.2.1, nI e.2.2.1, nI e.2.2.2) μX) 0 16 1) ∧ RM (pE σ (sE σ ++ [e])) (upM (sE σ).length (nI e.1, nI e.2.1, nI e.2.2.1, nI e.2.2.2) μM) := by
  refine ⟨⟨?_, ?_, ?_, ?_, ?_⟩, ⟨?_, ?_, ?_, ?_, ?_, ?_⟩⟩
  · exact hX.1.kept (fun a c h3 h4 => by rw [am_up_ne _ _ (by omega), upE_ne (by omega)])
  · exact (xE_tell hX.2.1 rfl e).kept (fun a c h3 h4 => by rw [am_up_ne _ _ (by omega)])
  · exact hX.2.2.1.kept (fun a c h3 h4 => by rw [am_up_ne _ _ (by omega), upE_ne (by omega)])
  · exact hX.2.2.2.1.kept (fun a c h3 h4 => by rw [am_up_ne _ _ (by omega), upE_ne (by omega)])
  · rw [am_up_ne _ _ (by omega), upE_ne (by omega)]; exact hX.2.2.2.2
  · exact hM.1.kept (fun a c h3 => upM_ne (by omega) (by omega))
  · exact mE_tell hM.2.1 rfl e
  · exact hM.2.2.1.kept (upM_ne (by omega) (by omega)) (fun c => upM_ne (by omega) (by omega))
  · exact hM.2.2.2.1.kept (fun a c h3 h4 => upM_ne (by omega) (by omega))
  · rw [upM_ne (by omega) (by omega)]; exact hM.2.2.2.2.1
  · rw [upM_ne (by omega) (by omega)]; exact hM.2.2.2.2.2
theorem op_event {σ : Sg} {μX μM : am_M} (hw : wfS σ) (hX : RX σ μX) (hM : RM σ μM) (a b c d : Int32) : Op f_X10_event f_X11_event [vI a, vI b, vI c, vI d] σ μX μM := by
  cases hr : rg a 3 && rg b 20 && rg c 8 && rg d 10
  · exact Op_same hw hX hM (X_event_bad hr μX) (M_event_bad hr μM)
  have hr' := hr
  simp only [Bool.and_eq_true] at hr'
  rcases rg_cases a (n := 3) (by decide) with h | ⟨a, ha, rfl⟩
  · rw [hr'.1.1.1] at h; cases h
  rcases rg_cases b (n := 20) (by decide) with h | ⟨b, hb, rfl⟩
  · rw [hr'.1.1.2] at h; cases h
  rcases rg_cases c (n := 8) (by decide) with h | ⟨c, hc, rfl⟩
  · rw [hr'.1.2] at h; cases h
  rcases rg_cases d (n := 10) (by decide) with h | ⟨d, hd, rfl⟩
  · rw [hr'.2] at h; cases h
  have x1 := hX.2.1.1
  have m1 := hM.2.1.1
  have hl := hw.2.1.1
  by_cases h8 : (sE σ).length = 8
  · exact Op_same hw hX hM (X_event_full hr (by rw [x1, h8]; rfl)) (M_event_full hr (by rw [m1, h8]; rfl))
  · obtain ⟨r1, r2⟩ := R_tell hX hM (a, b, c, d)
    refine ⟨_, _, _, pE σ (sE σ ++ [(a, b, c, d)]), X_event_ok hr (by omega) x1, M_event_ok hr (by omega) m1, ⟨hw.1, ⟨?_, fun e he => ?_⟩, hw.2.2⟩, r1, r2, Or.inr (am_up_eq _ _ _ _)⟩
    · show (sE σ ++ [_]).length ≤ 8
      rw [List.length_append]
      simp
      omega
    · rcases List.mem_append.mp he with h | h
      · exact hw.2.1.2 e h
      · rw [List.mem_singleton.mp h]
        exact ⟨ha, hb, hc, hd⟩
