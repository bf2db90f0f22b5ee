/-! the class: the text of strands taken in -/
def xP (q : Pt) (μ : am_M) : Prop := μ 7 0 = nI (dn q.1) ∧ μ 7 7 = nI q.2 ∧ (∀ s, s < dn q.1 → μ 8 s = nI (dh q.1 s)) ∧ (∀ s, s < dn q.1 → (q.2 ≠ 1 ∨ s + 1 < dn q.1) → μ 9 s = nI (dk q.1 s)) ∧ (∀ s, s < dn q.1 → μ 10 s = nI (dl q.1 s)) ∧ ∀ s i, s < dn q.1 → i < dl q.1 s → μ 11 (s * 6 + i) = nI (db q.1 s i)
theorem f_takes_no {q : Pt} {b : Nat} {μ : am_M} (hw : wfP q) (hx : xP q μ) (hb : b < 256) (ho : okp q b = false) : f_X0_takes [vR 7, vI (nI b)] μ = some (some (vI (nI 0)), μ) := by
  obtain ⟨D, p⟩ := q
  obtain ⟨x1, x2, x3, x4, x5, x6⟩ := hx
  obtain ⟨w1, w2, w3, w4, w5, w6, w7, w8, w9, w10⟩ := hw
  simp only at x1 x2 w1 w2 w3
  unfold okp at ho
  unfold f_X0_takes g_X0_takes
  by_cases p0 : p = 0
  · simp only [p0, if_true, decide_eq_false_iff_not] at ho
    have f1 : f_X0_takesFigure [vR 7, vI (nI b)] μ = some (some (vI (nI 0)), μ) := by
      unfold f_X0_takesFigure g_X0_takesFigure
      by_cases d1 : 8 ≤ dn D
      · simp (disch := first | omega | assumption | exact Or.inl rfl | exact Or.inr rfl | exact bI_ok _) [am_fn, am_en, am_bd_s, am_bd_n, e_n, e_u, e_b, e_c, e_k, b_z, b_2, b_and, b_or, b_not, a_0, a_1, s_k, s_pop, s_as, s_inc, s_pf, s_po, s_ia, s_io, s_cy, s_0, s_sq, s_if, s_no, s_bk, s_rt_I, s_rt_L, s_rt_A, s_rv, s_sw, o_k, o_li, o_ll, o_lr, o_ii, o_iz, o_jj, o_jz, o_ji, o_jc, o_iu, o_i2l, o_si, o_sr, o_sl, o_inc, am_cl, am_cs, am_m1, am_m2, am_c1, am_c0, am_c2, am_se, am_nl, am_nr, am_wh, List.getElem?_cons_zero, List.getElem?_cons_succ, List.length_cons, List.length_nil, Option.map_some, Option.map_none, List.reverse_cons, List.set_cons_succ, List.set_cons_zero, List.take_succ_cons, List.take_zero, List.cons_append, List.nil_append, nI_lit, nN_lit, nI_eq, nI_ltI, nI_leI, nI_add, pk_mul, pk_sub, nI_eN, nN_eI, nN_ltI, nN_leI, nI_ltN, nI_leN, nN_nN, nN_leN, bI_e0, bI_e1, bt_shr, nI_sub_lt, ntT, ntF, nlT, nlF, neT, neF, gv_X_7_0, x1, d1]
      · by_cases d2 : b < 48
        · simp (disch := first | omega | assumption | exact Or.inl rfl | exact Or.inr rfl | exact bI_ok _) [am_fn, am_en, am_bd_s, am_bd_n, e_n, e_u, e_b, e_c, e_k, b_z, b_2, b_and, b_or, b_not, a_0, a_1, s_k, s_pop, s_as, s_inc, s_pf, s_po, s_ia, s_io, s_cy, s_0, s_sq, s_if, s_no, s_bk, s_rt_I, s_rt_L, s_rt_A, s_rv, s_sw, o_k, o_li, o_ll, o_lr, o_ii, o_iz, o_jj, o_jz, o_ji, o_jc, o_iu, o_i2l, o_si, o_sr, o_sl, o_inc, am_cl, am_cs, am_m1, am_m2, am_c1, am_c0, am_c2, am_se, am_nl, am_nr, am_wh, List.getElem?_cons_zero, List.getElem?_cons_succ, List.length_cons, List.length_nil, Option.map_some, Option.map_none, List.reverse_cons, List.set_cons_succ, List.set_cons_zero, List.take_succ_cons, List.take_zero, List.cons_append, List.nil_append, nI_lit, nN_lit, nI_eq, nI_ltI, nI_leI, nI_add, pk_mul, pk_sub, nI_eN, nN_eI, nN_ltI, nN_leI, nI_ltN, nI_leN, nN_nN, nN_leN, bI_e0, bI_e1, bt_shr, nI_sub_lt, ntT, ntF, nlT, nlF, neT, neF, gv_X_7_0, x1, d1, d2]
        · have d3 : 57 < b := by omega
          simp (disch := first | omega | assumption | exact Or.inl rfl | exact Or.inr rfl | exact bI_ok _) [am_fn, am_en, am_bd_s, am_bd_n, e_n, e_u, e_b, e_c, e_k, b_z, b_2, b_and, b_or, b_not, a_0, a_1, s_k, s_pop, s_as, s_inc, s_pf, s_po, s_ia, s_io, s_cy, s_0, s_sq, s_if, s_no, s_bk, s_rt_I, s_rt_L, s_rt_A, s_rv, s_sw, o_k, o_li, o_ll, o_lr, o_ii, o_iz, o_jj, o_jz, o_ji, o_jc, o_iu, o_i2l, o_si, o_sr, o_sl, o_inc, am_cl, am_cs, am_m1, am_m2, am_c1, am_c0, am_c2, am_se, am_nl, am_nr, am_wh, List.getElem?_cons_zero, List.getElem?_cons_succ, List.length_cons, List.length_nil, Option.map_some, Option.map_none, List.reverse_cons, List.set_cons_succ, List.set_cons_zero, List.take_succ_cons, List.take_zero, List.cons_append, List.nil_append, nI_lit, nN_lit, nI_eq, nI_ltI, nI_leI, nI_add, pk_mul, pk_sub, nI_eN, nN_eI, nN_ltI, nN_leI, nI_ltN, nI_leN, nN_nN, nN_leN, bI_e0, bI_e1, bt_shr, nI_sub_lt, ntT, ntF, nlT, nlF, neT, neF, gv_X_7_0, x1, d1, d2, d3]
    simp (disch := first | omega | assumption | exact Or.inl rfl | exact Or.inr rfl | exact bI_ok _) [am_fn, am_en, am_bd_s, am_bd_n, e_n, e_u, e_b, e_c, e_k, b_z, b_2, b_and, b_or, b_not, a_0, a_1, s_k, s_pop, s_as, s_inc, s_pf, s_po, s_ia, s_io, s_cy, s_0, s_sq, s_if, s_no, s_bk, s_rt_I, s_rt_L, s_rt_A, s_rv, s_sw, o_k, o_li, o_ll, o_lr, o_ii, o_iz, o_jj, o_jz, o_ji, o_jc, o_iu, o_i2l, o_si, o_sr, o_sl, o_inc, am_cl, am_cs, am_m1, am_m2, am_c1, am_c0, am_c2, am_se, am_nl, am_nr, am_wh, List.getElem?_cons_zero, List.getElem?_cons_succ, List.length_cons, List.length_nil, Option.map_some, Option.map_none, List.reverse_cons, List.set_cons_succ, List.set_cons_zero, List.take_succ_cons, List.take_zero, List.cons_append, List.nil_append, nI_lit, nN_lit, nI_eq, nI_ltI, nI_leI, nI_add, pk_mul, pk_sub, nI_eN, nN_eI, nN_ltI, nN_leI, nI_ltN, nI_leN, nN_nN, nN_leN, bI_e0, bI_e1, bt_shr, nI_sub_lt, ntT, ntF, nlT, nlF, neT, neF, gv_X_7_7, x2, p0, ck_X_7, f1]
  · have n1 := w3 p0
    by_cases p1 : p = 1
    · simp only [p1, if_true, decide_eq_false_iff_not, if_neg (show ¬ (1 : Nat) = 0 by decide)] at ho
      have f1 : f_X0_takesKind [vR 7, vI (nI b)] μ = some (some (vI (nI 0)), μ) := by
        unfold f_X0_takesKind g_X0_takesKind
        have d1 : ¬ b = 119 := fun h => ho (by simp [h])
        have d2 : ¬ b = 107 := fun h => ho (by simp [h])
        have d3 : ¬ b = 100 := fun h => ho (by simp [h])
        simp (disch := first | omega | assumption | exact Or.inl rfl | exact Or.inr rfl | exact bI_ok _) [am_fn, am_en, am_bd_s, am_bd_n, e_n, e_u, e_b, e_c, e_k, b_z, b_2, b_and, b_or, b_not, a_0, a_1, s_k, s_pop, s_as, s_inc, s_pf, s_po, s_ia, s_io, s_cy, s_0, s_sq, s_if, s_no, s_bk, s_rt_I, s_rt_L, s_rt_A, s_rv, s_sw, o_k, o_li, o_ll, o_lr, o_ii, o_iz, o_jj, o_jz, o_ji, o_jc, o_iu, o_i2l, o_si, o_sr, o_sl, o_inc, am_cl, am_cs, am_m1, am_m2, am_c1, am_c0, am_c2, am_se, am_nl, am_nr, am_wh, List.getElem?_cons_zero, List.getElem?_cons_succ, List.length_cons, List.length_nil, Option.map_some, Option.map_none, List.reverse_cons, List.set_cons_succ, List.set_cons_zero, List.take_succ_cons, List.take_zero, List.cons_append, List.nil_append, nI_lit, nN_lit, nI_eq, nI_ltI, nI_leI, nI_add, pk_mul, pk_sub, nI_eN, nN_eI, nN_ltI, nN_leI, nI_ltN, nI_leN, nN_nN, nN_leN, bI_e0, bI_e1, bt_shr, nI_sub_lt, ntT, ntF, nlT, nlF, neT, neF, d1, d2, d3]
      simp (disch := first | omega | assumption | exact Or.inl rfl | exact Or.inr rfl | exact bI_ok _) [am_fn, am_en, am_bd_s, am_bd_n, e_n, e_u, e_b, e_c, e_k, b_z, b_2, b_and, b_or, b_not, a_0, a_1, s_k, s_pop, s_as, s_inc, s_pf, s_po, s_ia, s_io, s_cy, s_0, s_sq, s_if, s_no, s_bk, s_rt_I, s_rt_L, s_rt_A, s_rv, s_sw, o_k, o_li, o_ll, o_lr, o_ii, o_iz, o_jj, o_jz, o_ji, o_jc, o_iu, o_i2l, o_si, o_sr, o_sl, o_inc, am_cl, am_cs, am_m1, am_m2, am_c1, am_c0, am_c2, am_se, am_nl, am_nr, am_wh, List.getElem?_cons_zero, List.getElem?_cons_succ, List.length_cons, List.length_nil, Option.map_some, Option.map_none, List.reverse_cons, List.set_cons_succ, List.set_cons_zero, List.take_succ_cons, List.take_zero, List.cons_append, List.nil_append, nI_lit, nN_lit, nI_eq, nI_ltI, nI_leI, nI_add, pk_mul, pk_sub, nI_eN, nN_eI, nN_ltI, nN_leI, nI_ltN, nI_leN, nN_nN, nN_leN, bI_e0, bI_e1, bt_shr, nI_sub_lt, ntT, ntF, nlT, nlF, neT, neF, gv_X_7_7, x2, p1, ck_X_7, f1]
    · simp only [p0, p1, if_false, decide_eq_false_iff_not] at ho
      have f1 : f_X0_takesBladder [vR 7, vI (nI b)] μ = some (some (vI (nI 0)), μ) := by
        unfold f_X0_takesBladder g_X0_takesBladder
        by_cases d1 : b < 97
        · simp (disch := first | omega | assumption | exact Or.inl rfl | exact Or.inr rfl | exact bI_ok _) [am_fn, am_en, am_bd_s, am_bd_n, e_n, e_u, e_b, e_c, e_k, b_z, b_2, b_and, b_or, b_not, a_0, a_1, s_k, s_pop, s_as, s_inc, s_pf, s_po, s_ia, s_io, s_cy, s_0, s_sq, s_if, s_no, s_bk, s_rt_I, s_rt_L, s_rt_A, s_rv, s_sw, o_k, o_li, o_ll, o_lr, o_ii, o_iz, o_jj, o_jz, o_ji, o_jc, o_iu, o_i2l, o_si, o_sr, o_sl, o_inc, am_cl, am_cs, am_m1, am_m2, am_c1, am_c0, am_c2, am_se, am_nl, am_nr, am_wh, List.getElem?_cons_zero, List.getElem?_cons_succ, List.length_cons, List.length_nil, Option.map_some, Option.map_none, List.reverse_cons, List.set_cons_succ, List.set_cons_zero, List.take_succ_cons, List.take_zero, List.cons_append, List.nil_append, nI_lit, nN_lit, nI_eq, nI_ltI, nI_leI, nI_add, pk_mul, pk_sub, nI_eN, nN_eI, nN_ltI, nN_leI, nI_ltN, nI_leN, nN_nN, nN_leN, bI_e0, bI_e1, bt_shr, nI_sub_lt, ntT, ntF, nlT, nlF, neT, neF, d1]
        · by_cases d2 : 100 < b
          · simp (disch := first | omega | assumption | exact Or.inl rfl | exact Or.inr rfl | exact bI_ok _) [am_fn, am_en, am_bd_s, am_bd_n, e_n, e_u, e_b, e_c, e_k, b_z, b_2, b_and, b_or, b_not, a_0, a_1, s_k, s_pop, s_as, s_inc, s_pf, s_po, s_ia, s_io, s_cy, s_0, s_sq, s_if, s_no, s_bk, s_rt_I, s_rt_L, s_rt_A, s_rv, s_sw, o_k, o_li, o_ll, o_lr, o_ii, o_iz, o_jj, o_jz, o_ji, o_jc, o_iu, o_i2l, o_si, o_sr, o_sl, o_inc, am_cl, am_cs, am_m1, am_m2, am_c1, am_c0, am_c2, am_se, am_nl, am_nr, am_wh, List.getElem?_cons_zero, List.getElem?_cons_succ, List.length_cons, List.length_nil, Option.map_some, Option.map_none, List.reverse_cons, List.set_cons_succ, List.set_cons_zero, List.take_succ_cons, List.take_zero, List.cons_append, List.nil_append, nI_lit, nN_lit, nI_eq, nI_ltI, nI_leI, nI_add, pk_mul, pk_sub, nI_eN, nN_eI, nN_ltI, nN_leI, nI_ltN, nI_leN, nN_nN, nN_leN, bI_e0, bI_e1, bt_shr, nI_sub_lt, ntT, ntF, nlT, nlF, neT, neF, d1, d2]
          · have d3 : 8 ≤ p := by omega
            simp (disch := first | omega | assumption | exact Or.inl rfl | exact Or.inr rfl | exact bI_ok _) [am_fn, am_en, am_bd_s, am_bd_n, e_n, e_u, e_b, e_c, e_k, b_z, b_2, b_and, b_or, b_not, a_0, a_1, s_k, s_pop, s_as, s_inc, s_pf, s_po, s_ia, s_io, s_cy, s_0, s_sq, s_if, s_no, s_bk, s_rt_I, s_rt_L, s_rt_A, s_rv, s_sw, o_k, o_li, o_ll, o_lr, o_ii, o_iz, o_jj, o_jz, o_ji, o_jc, o_iu, o_i2l, o_si, o_sr, o_sl, o_inc, am_cl, am_cs, am_m1, am_m2, am_c1, am_c0, am_c2, am_se, am_nl, am_nr, am_wh, List.getElem?_cons_zero, List.getElem?_cons_succ, List.length_cons, List.length_nil, Option.map_some, Option.map_none, List.reverse_cons, List.set_cons_succ, List.set_cons_zero, List.take_succ_cons, List.take_zero, List.cons_append, List.nil_append, nI_lit, nN_lit, nI_eq, nI_ltI, nI_leI, nI_add, pk_mul, pk_sub, nI_eN, nN_eI, nN_ltI, nN_leI, nI_ltN, nI_leN, nN_nN, nN_leN, bI_e0, bI_e1, bt_shr, nI_sub_lt, ntT, ntF, nlT, nlF, neT, neF, d1, d2, gv_X_7_7, x2]
      by_cases d1 : b = 59
      · simp (disch := first | omega | assumption | exact Or.inl rfl | exact Or.inr rfl | exact bI_ok _) [am_fn, am_en, am_bd_s, am_bd_n, e_n, e_u, e_b, e_c, e_k, b_z, b_2, b_and, b_or, b_not, a_0, a_1, s_k, s_pop, s_as, s_inc, s_pf, s_po, s_ia, s_io, s_cy, s_0, s_sq, s_if, s_no, s_bk, s_rt_I, s_rt_L, s_rt_A, s_rv, s_sw, o_k, o_li, o_ll, o_lr, o_ii, o_iz, o_jj, o_jz, o_ji, o_jc, o_iu, o_i2l, o_si, o_sr, o_sl, o_inc, am_cl, am_cs, am_m1, am_m2, am_c1, am_c0, am_c2, am_se, am_nl, am_nr, am_wh, List.getElem?_cons_zero, List.getElem?_cons_succ, List.length_cons, List.length_nil, Option.map_some, Option.map_none, List.reverse_cons, List.set_cons_succ, List.set_cons_zero, List.take_succ_cons, List.take_zero, List.cons_append, List.nil_append, nI_lit, nN_lit, nI_eq, nI_ltI, nI_leI, nI_add, pk_mul, pk_sub, nI_eN, nN_eI, nN_ltI, nN_leI, nI_ltN, nI_leN, nN_nN, nN_leN, bI_e0, bI_e1, bt_shr, nI_sub_lt, ntT, ntF, nlT, nlF, neT, neF, gv_X_7_7, x2, p0, p1, d1, ck_X_7] <;> (rw [← d1]; simp (disch := first | omega | assumption | exact Or.inl rfl | exact Or.inr rfl | exact bI_ok _) [am_fn, am_en, am_bd_s, am_bd_n, e_n, e_u, e_b, e_c, e_k, b_z, b_2, b_and, b_or, b_not, a_0, a_1, s_k, s_pop, s_as, s_inc, s_pf, s_po, s_ia, s_io, s_cy, s_0, s_sq, s_if, s_no, s_bk, s_rt_I, s_rt_L, s_rt_A, s_rv, s_sw, o_k, o_li, o_ll, o_lr, o_ii, o_iz, o_jj, o_jz, o_ji, o_jc, o_iu, o_i2l, o_si, o_sr, o_sl, o_inc, am_cl, am_cs, am_m1, am_m2, am_c1, am_c0, am_c2, am_se, am_nl, am_nr, am_wh, List.getElem?_cons_zero, List.getElem?_cons_succ, List.length_cons, List.length_nil, Option.map_some, Option.map_none, List.reverse_cons, List.set_cons_succ, List.set_cons_zero, List.take_succ_cons, List.take_zero, List.cons_append, List.nil_append, nI_lit, nN_lit, nI_eq, nI_ltI, nI_leI, nI_add, pk_mul, pk_sub, nI_eN, nN_eI, nN_ltI, nN_leI, nI_ltN, nI_leN, nN_nN, nN_leN, bI_e0, bI_e1, bt_shr, nI_sub_lt, ntT, ntF, nlT, nlF, neT, neF, f1])
      · simp (disch := first | omega | assumption | exact Or.inl rfl | exact Or.inr rfl | exact bI_ok _) [am_fn, am_en, am_bd_s, am_bd_n, e_n, e_u, e_b, e_c, e_k, b_z, b_2, b_and, b_or, b_not, a_0, a_1, s_k, s_pop, s_as, s_inc, s_pf, s_po, s_ia, s_io, s_cy, s_0, s_sq, s_if, s_no, s_bk, s_rt_I, s_rt_L, s_rt_A, s_rv, s_sw, o_k, o_li, o_ll, o_lr, o_ii, o_iz, o_jj, o_jz, o_ji, o_jc, o_iu, o_i2l, o_si, o_sr, o_sl, o_inc, am_cl, am_cs, am_m1, am_m2, am_c1, am_c0, am_c2, am_se, am_nl, am_nr, am_wh, List.getElem?_cons_zero, List.getElem?_cons_succ, List.length_cons, List.length_nil, Option.map_some, Option.map_none, List.reverse_cons, List.set_cons_succ, List.set_cons_zero, List.take_succ_cons, List.take_zero, List.cons_append, List.nil_append, nI_lit, nN_lit, nI_eq, nI_ltI, nI_leI, nI_add, pk_mul, pk_sub, nI_eN, nN_eI, nN_ltI, nN_leI, nI_ltN, nI_leN, nN_nN, nN_leN, bI_e0, bI_e1, bt_shr, nI_sub_lt, ntT, ntF, nlT, nlF, neT, neF, gv_X_7_7, x2, p0, p1, d1, ck_X_7, f1]
theorem f_takes_ok {q : Pt} {b : Nat} {μ : am_M} (hw : wfP q) (hx : xP q μ) (hb : b < 256) (ho : okp q b = true) : ∃ μ', f_X0_takes [vR 7, vI (nI b)] μ = some (some (vI (nI 1)), μ') ∧ xP (stp q b) μ' ∧ Fr (fun a => 7 ≤ a ∧ a < 12) μ μ' := by
  obtain ⟨D, p⟩ := q
  obtain ⟨x1, x2, x3, x4, x5, x6⟩ := hx
  obtain ⟨w1, w2, w3, w4, w5, w6, w7, w8, w9, w10⟩ := hw
  simp only at x1 x2 x3 x4 x5 x6 w1 w2 w3 w6 w9
  unfold okp at ho
  unfold f_X0_takes g_X0_takes stp
  by_cases p0 : p = 0
  · simp only [p0, if_true, decide_eq_true_eq] at ho ⊢
    obtain ⟨o1, o2, o3⟩ := ho
    have f1 : f_X0_takesFigure [vR 7, vI (nI b)] μ = some (some (vI (nI 1)), am_up (am_up (am_up (am_up μ 8 (dn D) (nI (b - 48))) 10 (dn D) (nI 0)) 7 0 (nI (dn D + 1))) 7 7 (nI 1)) := by
      unfold f_X0_takesFigure g_X0_takesFigure
      have e1 : am_up μ 8 (dn D) (nI (b - 48)) 7 0 = nI (dn D) := by rw [am_up_ne _ _ (by omega)]; exact x1
      have e2 : am_up (am_up μ 8 (dn D) (nI (b - 48))) 10 (dn D) (nI 0) 7 0 = nI (dn D) := by rw [am_up_ne _ _ (by omega)]; exact e1
      simp (disch := first | omega | assumption | exact Or.inl rfl | exact Or.inr rfl | exact bI_ok _) [am_fn, am_en, am_bd_s, am_bd_n, e_n, e_u, e_b, e_c, e_k, b_z, b_2, b_and, b_or, b_not, a_0, a_1, s_k, s_pop, s_as, s_inc, s_pf, s_po, s_ia, s_io, s_cy, s_0, s_sq, s_if, s_no, s_bk, s_rt_I, s_rt_L, s_rt_A, s_rv, s_sw, o_k, o_li, o_ll, o_lr, o_ii, o_iz, o_jj, o_jz, o_ji, o_jc, o_iu, o_i2l, o_si, o_sr, o_sl, o_inc, am_cl, am_cs, am_m1, am_m2, am_c1, am_c0, am_c2, am_se, am_nl, am_nr, am_wh, List.getElem?_cons_zero, List.getElem?_cons_succ, List.length_cons, List.length_nil, Option.map_some, Option.map_none, List.reverse_cons, List.set_cons_succ, List.set_cons_zero, List.take_succ_cons, List.take_zero, List.cons_append, List.nil_append, nI_lit, nN_lit, nI_eq, nI_ltI, nI_leI, nI_add, pk_mul, pk_sub, nI_eN, nN_eI, nN_ltI, nN_leI, nI_ltN, nI_leN, nN_nN, nN_leN, bI_e0, bI_e1, bt_shr, nI_sub_lt, ntT, ntF, nlT, nlF, neT, neF, gv_X_7_0, gv_X_7_1, gv_X_7_3, x1, wv_X_8, wv_X_10, e1, e2, pv_X_7_0, pv_X_7_7]
    refine ⟨_, by simp (disch := first | omega | assumption | exact Or.inl rfl | exact Or.inr rfl | exact bI_ok _) [am_fn, am_en, am_bd_s, am_bd_n, e_n, e_u, e_b, e_c, e_k, b_z, b_2, b_and, b_or, b_not, a_0, a_1, s_k, s_pop, s_as, s_inc, s_pf, s_po, s_ia, s_io, s_cy, s_0, s_sq, s_if, s_no, s_bk, s_rt_I, s_rt_L, s_rt_A, s_rv, s_sw, o_k, o_li, o_ll, o_lr, o_ii, o_iz, o_jj, o_jz, o_ji, o_jc, o_iu, o_i2l, o_si, o_sr, o_sl, o_inc, am_cl, am_cs, am_m1, am_m2, am_c1, am_c0, am_c2, am_se, am_nl, am_nr, am_wh, List.getElem?_cons_zero, List.getElem?_cons_succ, List.length_cons, List.length_nil, Option.map_some, Option.map_none, List.reverse_cons, List.set_cons_succ, List.set_cons_zero, List.take_succ_cons, List.take_zero, List.cons_append, List.nil_append, nI_lit, nN_lit, nI_eq, nI_ltI, nI_leI, nI_add, pk_mul, pk_sub, nI_eN, nN_eI, nN_ltI, nN_leI, nI_ltN, nI_leN, nN_nN, nN_leN, bI_e0, bI_e1, bt_shr, nI_sub_lt, ntT, ntF, nlT, nlF, neT, neF, gv_X_7_7, x2, p0, ck_X_7, f1]; rfl, ⟨?_, ?_, fun s hs => ?_, fun s hs hs2 => ?_, fun s hs => ?_, fun s i hs hi => ?_⟩, fun a c hac => ?_⟩
    · rw [am_up_ne _ _ (by omega), am_up_eq]; rfl
    · rw [am_up_eq]
    · have hs : s < dn D + 1 := hs
      show _ = nI (up1 (dh D) (dn D) (b - 48) s)
      rw [am_up_ne _ _ (by omega), am_up_ne _ _ (by omega), am_up_ne _ _ (by omega)]
      by_cases e : s = dn D
      · rw [e, am_up_eq, up1_eq]
      · rw [am_up_ne _ _ (by omega), up1_ne _ _ e]; exact x3 s (by omega)
    · have hs : s < dn D + 1 := hs
      have hs2 : (1 : Nat) ≠ 1 ∨ s + 1 < dn D + 1 := hs2
      rw [am_up_ne _ _ (by omega), am_up_ne _ _ (by omega), am_up_ne _ _ (by omega), am_up_ne _ _ (by omega)]
      exact x4 s (by omega) (by omega)
    · have hs : s < dn D + 1 := hs
      show _ = nI (up1 (dl D) (dn D) 0 s)
      rw [am_up_ne _ _ (by omega), am_up_ne _ _ (by omega)]
      by_cases e : s = dn D
      · rw [e, am_up_eq, up1_eq]
      · rw [am_up_ne _ _ (by omega), am_up_ne _ _ (by omega), up1_ne _ _ e]; exact x5 s (by omega)
    · have hs : s < dn D + 1 := hs
      have hi : i < up1 (dl D) (dn D) 0 s := hi
      by_cases e : s = dn D
      · rw [e, up1_eq] at hi; omega
      · rw [up1_ne _ _ e] at hi
        rw [am_up_ne _ _ (by omega), am_up_ne _ _ (by omega), am_up_ne _ _ (by omega), am_up_ne _ _ (by omega)]
        exact x6 s i (by omega) hi
    · rw [am_up_ne _ _ (by omega), am_up_ne _ _ (by omega), am_up_ne _ _ (by omega), am_up_ne _ _ (by omega)]
  · have n1 := w3 p0
    by_cases p1 : p = 1
    · simp only [p1, if_true, decide_eq_true_eq, if_neg (show ¬ (1 : Nat) = 0 by decide)] at ho ⊢
      have f1 : f_X0_takesKind [vR 7, vI (nI b)] μ = some (some (vI (nI 1)), am_up (am_up μ 9 (dn D - 1) (nI (kdB b))) 7 7 (nI 2)) := by
        unfold f_X0_takesKind g_X0_takesKind kdB
        rcases ho with ho | ho | ho <;> simp (disch := first | omega | assumption | exact Or.inl rfl | exact Or.inr rfl | exact bI_ok _) [am_fn, am_en, am_bd_s, am_bd_n, e_n, e_u, e_b, e_c, e_k, b_z, b_2, b_and, b_or, b_not, a_0, a_1, s_k, s_pop, s_as, s_inc, s_pf, s_po, s_ia, s_io, s_cy, s_0, s_sq, s_if, s_no, s_bk, s_rt_I, s_rt_L, s_rt_A, s_rv, s_sw, o_k, o_li, o_ll, o_lr, o_ii, o_iz, o_jj, o_jz, o_ji, o_jc, o_iu, o_i2l, o_si, o_sr, o_sl, o_inc, am_cl, am_cs, am_m1, am_m2, am_c1, am_c0, am_c2, am_se, am_nl, am_nr, am_wh, List.getElem?_cons_zero, List.getElem?_cons_succ, List.length_cons, List.length_nil, Option.map_some, Option.map_none, List.reverse_cons, List.set_cons_succ, List.set_cons_zero, List.take_succ_cons, List.take_zero, List.cons_append, List.nil_append, nI_lit, nN_lit, nI_eq, nI_ltI, nI_leI, nI_add, pk_mul, pk_sub, nI_eN, nN_eI, nN_ltI, nN_leI, nI_ltN, nI_leN, nN_nN, nN_leN, bI_e0, bI_e1, bt_shr, nI_sub_lt, ntT, ntF, nlT, nlF, neT, neF, ho, gv_X_7_0, gv_X_7_2, x1, wv_X_9, pv_X_7_7]
      refine ⟨_, by simp (disch := first | omega | assumption | exact Or.inl rfl | exact Or.inr rfl | exact bI_ok _) [am_fn, am_en, am_bd_s, am_bd_n, e_n, e_u, e_b, e_c, e_k, b_z, b_2, b_and, b_or, b_not, a_0, a_1, s_k, s_pop, s_as, s_inc, s_pf, s_po, s_ia, s_io, s_cy, s_0, s_sq, s_if, s_no, s_bk, s_rt_I, s_rt_L, s_rt_A, s_rv, s_sw, o_k, o_li, o_ll, o_lr, o_ii, o_iz, o_jj, o_jz, o_ji, o_jc, o_iu, o_i2l, o_si, o_sr, o_sl, o_inc, am_cl, am_cs, am_m1, am_m2, am_c1, am_c0, am_c2, am_se, am_nl, am_nr, am_wh, List.getElem?_cons_zero, List.getElem?_cons_succ, List.length_cons, List.length_nil, Option.map_some, Option.map_none, List.reverse_cons, List.set_cons_succ, List.set_cons_zero, List.take_succ_cons, List.take_zero, List.cons_append, List.nil_append, nI_lit, nN_lit, nI_eq, nI_ltI, nI_leI, nI_add, pk_mul, pk_sub, nI_eN, nN_eI, nN_ltI, nN_leI, nI_ltN, nI_leN, nN_nN, nN_leN, bI_e0, bI_e1, bt_shr, nI_sub_lt, ntT, ntF, nlT, nlF, neT, neF, gv_X_7_7, x2, p1, ck_X_7, f1]; rfl, ⟨?_, ?_, fun s hs => ?_, fun s hs hs2 => ?_, fun s hs => ?_, fun s i hs hi => ?_⟩, fun a c hac => ?_⟩
      · rw [am_up_ne _ _ (by omega), am_up_ne _ _ (by omega)]; exact x1
      · rw [am_up_eq]
      · rw [am_up_ne _ _ (by omega), am_up_ne _ _ (by omega)]; exact x3 s hs
      · have hs : s < dn D := hs
        show _ = nI (up1 (dk D) (dn D - 1) (kdB b) s)
        rw [am_up_ne _ _ (by omega)]
        by_cases e : s = dn D - 1
        · rw [e, am_up_eq, up1_eq]
        · rw [am_up_ne _ _ (by omega), up1_ne _ _ e]; exact x4 s (by omega) (by omega)
      · rw [am_up_ne _ _ (by omega), am_up_ne _ _ (by omega)]; exact x5 s hs
      · rw [am_up_ne _ _ (by omega), am_up_ne _ _ (by omega)]; exact x6 s i hs hi
      · rw [am_up_ne _ _ (by omega), am_up_ne _ _ (by omega)]
    · simp only [p0, p1, if_false, decide_eq_true_eq] at ho ⊢
      by_cases hb9 : b = 59
      · have p2 : 2 < p := by omega
        simp only [hb9, if_true]
        refine ⟨am_up μ 7 7 (nI 0), by simp (disch := first | omega | assumption | exact Or.inl rfl | exact Or.inr rfl | exact bI_ok _) [am_fn, am_en, am_bd_s, am_bd_n, e_n, e_u, e_b, e_c, e_k, b_z, b_2, b_and, b_or, b_not, a_0, a_1, s_k, s_pop, s_as, s_inc, s_pf, s_po, s_ia, s_io, s_cy, s_0, s_sq, s_if, s_no, s_bk, s_rt_I, s_rt_L, s_rt_A, s_rv, s_sw, o_k, o_li, o_ll, o_lr, o_ii, o_iz, o_jj, o_jz, o_ji, o_jc, o_iu, o_i2l, o_si, o_sr, o_sl, o_inc, am_cl, am_cs, am_m1, am_m2, am_c1, am_c0, am_c2, am_se, am_nl, am_nr, am_wh, List.getElem?_cons_zero, List.getElem?_cons_succ, List.length_cons, List.length_nil, Option.map_some, Option.map_none, List.reverse_cons, List.set_cons_succ, List.set_cons_zero, List.take_succ_cons, List.take_zero, List.cons_append, List.nil_append, nI_lit, nN_lit, nI_eq, nI_ltI, nI_leI, nI_add, pk_mul, pk_sub, nI_eN, nN_eI, nN_ltI, nN_leI, nI_ltN, nI_leN, nN_nN, nN_leN, bI_e0, bI_e1, bt_shr, nI_sub_lt, ntT, ntF, nlT, nlF, neT, neF, gv_X_7_7, x2, p0, p1, pv_X_7_7], ⟨?_, ?_, fun s hs => ?_, fun s hs hs2 => ?_, fun s hs => ?_, fun s i hs hi => ?_⟩, fun a c hac => ?_⟩
        · rw [am_up_ne _ _ (by omega)]; exact x1
        · rw [am_up_eq]
        · rw [am_up_ne _ _ (by omega)]; exact x3 s hs
        · rw [am_up_ne _ _ (by omega)]; exact x4 s hs (Or.inl p1)
        · rw [am_up_ne _ _ (by omega)]; exact x5 s hs
        · rw [am_up_ne _ _ (by omega)]; exact x6 s i hs hi
        · rw [am_up_ne _ _ (by omega)]
      · simp only [hb9, if_false]
        have o1 : 97 ≤ b ∧ b ≤ 100 ∧ p < 8 := by omega
        have f1 : f_X0_takesBladder [vR 7, vI (nI b)] μ = some (some (vI (nI 1)), am_up (am_up (am_up μ 11 ((dn D - 1) * 6 + p - 2) (nI (b - 97))) 10 (dn D - 1) (nI (p - 1))) 7 7 (nI (p + 1))) := by
          unfold f_X0_takesBladder g_X0_takesBladder
          have e1 : am_up μ 11 ((dn D - 1) * 6 + p - 2) (nI (b - 97)) 7 0 = nI (dn D) := by rw [am_up_ne _ _ (by omega)]; exact x1
          have e2 : am_up μ 11 ((dn D - 1) * 6 + p - 2) (nI (b - 97)) 7 7 = nI p := by rw [am_up_ne _ _ (by omega)]; exact x2
          have e3 : am_up (am_up μ 11 ((dn D - 1) * 6 + p - 2) (nI (b - 97))) 10 (dn D - 1) (nI (p - 1)) 7 7 = nI p := by rw [am_up_ne _ _ (by omega)]; exact e2
          simp (disch := first | omega | assumption | exact Or.inl rfl | exact Or.inr rfl | exact bI_ok _) [am_fn, am_en, am_bd_s, am_bd_n, e_n, e_u, e_b, e_c, e_k, b_z, b_2, b_and, b_or, b_not, a_0, a_1, s_k, s_pop, s_as, s_inc, s_pf, s_po, s_ia, s_io, s_cy, s_0, s_sq, s_if, s_no, s_bk, s_rt_I, s_rt_L, s_rt_A, s_rv, s_sw, o_k, o_li, o_ll, o_lr, o_ii, o_iz, o_jj, o_jz, o_ji, o_jc, o_iu, o_i2l, o_si, o_sr, o_sl, o_inc, am_cl, am_cs, am_m1, am_m2, am_c1, am_c0, am_c2, am_se, am_nl, am_nr, am_wh, List.getElem?_cons_zero, List.getElem?_cons_succ, List.length_cons, List.length_nil, Option.map_some, Option.map_none, List.reverse_cons, List.set_cons_succ, List.set_cons_zero, List.take_succ_cons, List.take_zero, List.cons_append, List.nil_append, nI_lit, nN_lit, nI_eq, nI_ltI, nI_leI, nI_add, pk_mul, pk_sub, nI_eN, nN_eI, nN_ltI, nN_leI, nI_ltN, nI_leN, nN_nN, nN_leN, bI_e0, bI_e1, bt_shr, nI_sub_lt, ntT, ntF, nlT, nlF, neT, neF, gv_X_7_0, gv_X_7_3, gv_X_7_4, gv_X_7_7, x1, x2, wv_X_11, wv_X_10, e1, e2, e3, pv_X_7_7]
        refine ⟨_, by simp (disch := first | omega | assumption | exact Or.inl rfl | exact Or.inr rfl | exact bI_ok _) [am_fn, am_en, am_bd_s, am_bd_n, e_n, e_u, e_b, e_c, e_k, b_z, b_2, b_and, b_or, b_not, a_0, a_1, s_k, s_pop, s_as, s_inc, s_pf, s_po, s_ia, s_io, s_cy, s_0, s_sq, s_if, s_no, s_bk, s_rt_I, s_rt_L, s_rt_A, s_rv, s_sw, o_k, o_li, o_ll, o_lr, o_ii, o_iz, o_jj, o_jz, o_ji, o_jc, o_iu, o_i2l, o_si, o_sr, o_sl, o_inc, am_cl, am_cs, am_m1, am_m2, am_c1, am_c0, am_c2, am_se, am_nl, am_nr, am_wh, List.getElem?_cons_zero, List.getElem?_cons_succ, List.length_cons, List.length_nil, Option.map_some, Option.map_none, List.reverse_cons, List.set_cons_succ, List.set_cons_zero, List.take_succ_cons, List.take_zero, List.cons_append, List.nil_append, nI_lit, nN_lit, nI_eq, nI_ltI, nI_leI, nI_add, pk_mul, pk_sub, nI_eN, nN_eI, nN_ltI, nN_leI, nI_ltN, nI_leN, nN_nN, nN_leN, bI_e0, bI_e1, bt_shr, nI_sub_lt, ntT, ntF, nlT, nlF, neT, neF, gv_X_7_7, x2, p0, p1, hb9, ck_X_7, f1]; rfl, ⟨?_, ?_, fun s hs => ?_, fun s hs hs2 => ?_, fun s hs => ?_, fun s i hs hi => ?_⟩, fun a c hac => ?_⟩
        · rw [am_up_ne _ _ (by omega), am_up_ne _ _ (by omega), am_up_ne _ _ (by omega)]; exact x1
        · rw [am_up_eq]
        · rw [am_up_ne _ _ (by omega), am_up_ne _ _ (by omega), am_up_ne _ _ (by omega)]; exact x3 s hs
        · rw [am_up_ne _ _ (by omega), am_up_ne _ _ (by omega), am_up_ne _ _ (by omega)]; exact x4 s hs (Or.inl p1)
        · have hs : s < dn D := hs
          show _ = nI (up1 (dl D) (dn D - 1) (p - 1) s)
          rw [am_up_ne _ _ (by omega)]
          by_cases e : s = dn D - 1
          · rw [e, am_up_eq, up1_eq]
          · rw [am_up_ne _ _ (by omega), am_up_ne _ _ (by omega), up1_ne _ _ e]; exact x5 s hs
        · have hs : s < dn D := hs
          have hi : i < up1 (dl D) (dn D - 1) (p - 1) s := hi
          show _ = nI (up1 (db D) (dn D - 1) (up1 (db D (dn D - 1)) (p - 2) (b - 97)) s i)
          rw [am_up_ne _ _ (by omega), am_up_ne _ _ (by omega)]
          have l6 := w6 s
          have l9 := w9 (by omega)
          by_cases e : s = dn D - 1
          · subst e
            rw [up1_eq] at hi ⊢
            by_cases e2 : i = p - 2
            · subst e2
              rw [up1_eq, show (dn D - 1) * 6 + (p - 2) = (dn D - 1) * 6 + p - 2 by omega, am_up_eq]
            · rw [up1_ne _ _ e2, am_up_ne _ _ (by omega)]
              exact x6 _ i hs (by omega)
          · rw [up1_ne _ _ e] at hi ⊢
            rw [am_up_ne _ _ (by omega)]
            exact x6 s i hs hi
        · rw [am_up_ne _ _ (by omega), am_up_ne _ _ (by omega), am_up_ne _ _ (by omega)]
