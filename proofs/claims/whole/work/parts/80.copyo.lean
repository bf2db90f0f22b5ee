/-! copy: the reference, done by way of 'moved' -/
def movR (μ : am_M) (p i : Nat) : am_M := am_ur μ 4 (fun x => if x < i then μ 3 (p + x) else μ 4 x)
def pasR (μ : am_M) (r i : Nat) : am_M := am_ur μ 3 (fun x => if r ≤ x ∧ x < r + i then μ 4 (x - r) else μ 3 x)
theorem movR_0 (μ : am_M) (p : Nat) : movR μ p 0 = μ := by
  funext x
  unfold movR am_ur
  by_cases h : x = 4
  · rw [if_pos h, h]
    funext j
    rw [if_neg (by omega)]
  · rw [if_neg h]
theorem pasR_0 (μ : am_M) (r : Nat) : pasR μ r 0 = μ := by
  funext x
  unfold pasR am_ur
  by_cases h : x = 3
  · rw [if_pos h, h]
    funext j
    rw [if_neg (by omega)]
  · rw [if_neg h]
theorem movR_s (μ : am_M) (p i : Nat) : am_up (movR μ p i) 4 i (μ 3 (p + i)) = movR μ p (i + 1) := by
  funext x y
  unfold movR am_up am_ur upd
  by_cases h : x = 4
  · simp only [h, if_true]
    by_cases h2 : y = i
    · rw [if_pos h2, if_pos (by omega), h2]
    · rw [if_neg h2]
      by_cases h3 : y < i
      · rw [if_pos h3, if_pos (by omega)]
      · rw [if_neg h3, if_neg (by omega)]
  · simp only [h, if_false]
theorem pasR_s (μ : am_M) (r i : Nat) : am_up (pasR μ r i) 3 (r + i) (μ 4 i) = pasR μ r (i + 1) := by
  funext x y
  unfold pasR am_up am_ur upd
  by_cases h : x = 3
  · simp only [h, if_true]
    by_cases h2 : y = r + i
    · rw [if_pos h2, if_pos (by omega), h2, Nat.add_sub_cancel_left]
    · rw [if_neg h2]
      by_cases h3 : r ≤ y ∧ y < r + i
      · rw [if_pos h3, if_pos (by omega)]
      · rw [if_neg h3, if_neg (by omega)]
  · simp only [h, if_false]
theorem movR_3 (μ : am_M) (p i y : Nat) : movR μ p i 3 y = μ 3 y := by
  unfold movR am_ur
  rw [if_neg (by decide)]
theorem pasR_4 (μ : am_M) (r i y : Nat) : pasR μ r i 4 y = μ 4 y := by
  unfold pasR am_ur
  rw [if_neg (by decide)]
theorem M_copy_lp1 {s t a b c : Nat} (hs : s < 4) (ha : a + c ≤ 60) (μ : am_M) : s_lp (b_2 .lt (e_li 6) (e_li 5)) (s_sq (s_ia ShM (e_gf ShM 11 3 (e_lr 0)) (e_li 6) (e_ald ShM (e_gf ShM 11 2 (e_lr 0)) (e_b o_iadd (e_b o_iadd (e_b o_imul (e_i 60) (e_li 1)) (e_li 2)) (e_li 6)))) (s_inc 7 6 1)) [vR 0, vI (nI s), vI (nI a), vI (nI t), vI (nI b), vI (nI c), vI 0] μ = some (.inl ([vR 0, vI (nI s), vI (nI a), vI (nI t), vI (nI b), vI (nI c), vI (nI c)], movR μ (60 * s + a) c)) := by
  have key := s_lp_det (c := b_2 .lt (e_li 6) (e_li 5)) (b := s_sq (s_ia ShM (e_gf ShM 11 3 (e_lr 0)) (e_li 6) (e_ald ShM (e_gf ShM 11 2 (e_lr 0)) (e_b o_iadd (e_b o_iadd (e_b o_imul (e_i 60) (e_li 1)) (e_li 2)) (e_li 6)))) (s_inc 7 6 1)) (fun i => [vR 0, vI (nI s), vI (nI a), vI (nI t), vI (nI b), vI (nI c), vI (nI i)]) (fun i => movR μ (60 * s + a) i) c
    (by have h9 : (nI c < nI c) = False := eq_false (nI_nlt (Nat.le_refl _) (by omega)); simp [am_fn, am_en, am_bd_s, am_bd_n, e_n, e_u, e_b, e_c, e_k, b_z, b_2, b_and, b_or, b_not, a_0, a_1, s_k, s_pop, s_as, s_inc, s_pf, s_po, s_ia, s_io, s_cy, s_0, s_sq, s_if, s_no, s_bk, s_rt_I, s_rt_L, s_rt_A, s_rv, s_sw, o_k, o_li, o_ll, o_lr, o_ii, o_iz, o_jj, o_jz, o_ji, o_jc, o_iu, o_i2l, o_si, o_sr, o_sl, o_inc, am_cl, am_cs, am_m1, am_m2, am_c1, am_c0, am_c2, am_se, am_nl, am_nr, am_wh, List.getElem?_cons_zero, List.getElem?_cons_succ, List.length_cons, List.length_nil, Option.map_some, Option.map_none, List.reverse_cons, List.set_cons_succ, List.set_cons_zero, List.take_succ_cons, List.take_zero, List.cons_append, List.nil_append, h9]) c 0 (by omega)
    (fun i _ hi => by
      have h9 : (nI i < nI c) = True := eq_true (nI_lt hi (by omega))
      have e1 : (60 : Int32) * nI s + nI a + nI i = nI (60 * s + a + i) := by rw [nI_lit, pk_mul, nI_add, nI_add]
      have l : am_lv ShM (vR 3) (vI (nI (60 * s + a + i))) (movR μ (60 * s + a) i) = some (vI (μ 3 (60 * s + a + i))) := by rw [lv_M_3 (by omega), movR_3]
      have w : am_wv ShM (vR 4) (vI (nI i)) (vI (μ 3 (60 * s + a + i))) (movR μ (60 * s + a) i) = some (movR μ (60 * s + a) (i + 1)) := by rw [wv_M_4 (by omega), movR_s]
      exact ⟨by simp [am_fn, am_en, am_bd_s, am_bd_n, e_n, e_u, e_b, e_c, e_k, b_z, b_2, b_and, b_or, b_not, a_0, a_1, s_k, s_pop, s_as, s_inc, s_pf, s_po, s_ia, s_io, s_cy, s_0, s_sq, s_if, s_no, s_bk, s_rt_I, s_rt_L, s_rt_A, s_rv, s_sw, o_k, o_li, o_ll, o_lr, o_ii, o_iz, o_jj, o_jz, o_ji, o_jc, o_iu, o_i2l, o_si, o_sr, o_sl, o_inc, am_cl, am_cs, am_m1, am_m2, am_c1, am_c0, am_c2, am_se, am_nl, am_nr, am_wh, List.getElem?_cons_zero, List.getElem?_cons_succ, List.length_cons, List.length_nil, Option.map_some, Option.map_none, List.reverse_cons, List.set_cons_succ, List.set_cons_zero, List.take_succ_cons, List.take_zero, List.cons_append, List.nil_append, h9], by simp [am_fn, am_en, am_bd_s, am_bd_n, e_n, e_u, e_b, e_c, e_k, b_z, b_2, b_and, b_or, b_not, a_0, a_1, s_k, s_pop, s_as, s_inc, s_pf, s_po, s_ia, s_io, s_cy, s_0, s_sq, s_if, s_no, s_bk, s_rt_I, s_rt_L, s_rt_A, s_rv, s_sw, o_k, o_li, o_ll, o_lr, o_ii, o_iz, o_jj, o_jz, o_ji, o_jc, o_iu, o_i2l, o_si, o_sr, o_sl, o_inc, am_cl, am_cs, am_m1, am_m2, am_c1, am_c0, am_c2, am_se, am_nl, am_nr, am_wh, List.getElem?_cons_zero, List.getElem?_cons_succ, List.length_cons, List.length_nil, Option.map_some, Option.map_none, List.reverse_cons, List.set_cons_succ, List.set_cons_zero, List.take_succ_cons, List.take_zero, List.cons_append, List.nil_append, gv_M_0_2, gv_M_0_3, e1, l, w, nI_1]⟩)
  rw [movR_0] at key
  exact key
theorem M_copy_lp2 {s t a b c : Nat} (ht : t < 4) (hb : b + c ≤ 60) (μ : am_M) : s_lp (b_2 .lt (e_li 6) (e_li 5)) (s_sq (s_ia ShM (e_gf ShM 11 2 (e_lr 0)) (e_b o_iadd (e_b o_iadd (e_b o_imul (e_i 60) (e_li 3)) (e_li 4)) (e_li 6)) (e_ald ShM (e_gf ShM 11 3 (e_lr 0)) (e_li 6))) (s_inc 7 6 1)) [vR 0, vI (nI s), vI (nI a), vI (nI t), vI (nI b), vI (nI c), vI 0] μ = some (.inl ([vR 0, vI (nI s), vI (nI a), vI (nI t), vI (nI b), vI (nI c), vI (nI c)], pasR μ (60 * t + b) c)) := by
  have key := s_lp_det (c := b_2 .lt (e_li 6) (e_li 5)) (b := s_sq (s_ia ShM (e_gf ShM 11 2 (e_lr 0)) (e_b o_iadd (e_b o_iadd (e_b o_imul (e_i 60) (e_li 3)) (e_li 4)) (e_li 6)) (e_ald ShM (e_gf ShM 11 3 (e_lr 0)) (e_li 6))) (s_inc 7 6 1)) (fun i => [vR 0, vI (nI s), vI (nI a), vI (nI t), vI (nI b), vI (nI c), vI (nI i)]) (fun i => pasR μ (60 * t + b) i) c
    (by have h9 : (nI c < nI c) = False := eq_false (nI_nlt (Nat.le_refl _) (by omega)); simp [am_fn, am_en, am_bd_s, am_bd_n, e_n, e_u, e_b, e_c, e_k, b_z, b_2, b_and, b_or, b_not, a_0, a_1, s_k, s_pop, s_as, s_inc, s_pf, s_po, s_ia, s_io, s_cy, s_0, s_sq, s_if, s_no, s_bk, s_rt_I, s_rt_L, s_rt_A, s_rv, s_sw, o_k, o_li, o_ll, o_lr, o_ii, o_iz, o_jj, o_jz, o_ji, o_jc, o_iu, o_i2l, o_si, o_sr, o_sl, o_inc, am_cl, am_cs, am_m1, am_m2, am_c1, am_c0, am_c2, am_se, am_nl, am_nr, am_wh, List.getElem?_cons_zero, List.getElem?_cons_succ, List.length_cons, List.length_nil, Option.map_some, Option.map_none, List.reverse_cons, List.set_cons_succ, List.set_cons_zero, List.take_succ_cons, List.take_zero, List.cons_append, List.nil_append, h9]) c 0 (by omega)
    (fun i _ hi => by
      have h9 : (nI i < nI c) = True := eq_true (nI_lt hi (by omega))
      have e1 : (60 : Int32) * nI t + nI b + nI i = nI (60 * t + b + i) := by rw [nI_lit, pk_mul, nI_add, nI_add]
      have l : am_lv ShM (vR 4) (vI (nI i)) (pasR μ (60 * t + b) i) = some (vI (μ 4 i)) := by rw [lv_M_4 (by omega), pasR_4]
      have w : am_wv ShM (vR 3) (vI (nI (60 * t + b + i))) (vI (μ 4 i)) (pasR μ (60 * t + b) i) = some (pasR μ (60 * t + b) (i + 1)) := by rw [wv_M_3 (by omega), pasR_s]
      exact ⟨by simp [am_fn, am_en, am_bd_s, am_bd_n, e_n, e_u, e_b, e_c, e_k, b_z, b_2, b_and, b_or, b_not, a_0, a_1, s_k, s_pop, s_as, s_inc, s_pf, s_po, s_ia, s_io, s_cy, s_0, s_sq, s_if, s_no, s_bk, s_rt_I, s_rt_L, s_rt_A, s_rv, s_sw, o_k, o_li, o_ll, o_lr, o_ii, o_iz, o_jj, o_jz, o_ji, o_jc, o_iu, o_i2l, o_si, o_sr, o_sl, o_inc, am_cl, am_cs, am_m1, am_m2, am_c1, am_c0, am_c2, am_se, am_nl, am_nr, am_wh, List.getElem?_cons_zero, List.getElem?_cons_succ, List.length_cons, List.length_nil, Option.map_some, Option.map_none, List.reverse_cons, List.set_cons_succ, List.set_cons_zero, List.take_succ_cons, List.take_zero, List.cons_append, List.nil_append, h9], by simp [am_fn, am_en, am_bd_s, am_bd_n, e_n, e_u, e_b, e_c, e_k, b_z, b_2, b_and, b_or, b_not, a_0, a_1, s_k, s_pop, s_as, s_inc, s_pf, s_po, s_ia, s_io, s_cy, s_0, s_sq, s_if, s_no, s_bk, s_rt_I, s_rt_L, s_rt_A, s_rv, s_sw, o_k, o_li, o_ll, o_lr, o_ii, o_iz, o_jj, o_jz, o_ji, o_jc, o_iu, o_i2l, o_si, o_sr, o_sl, o_inc, am_cl, am_cs, am_m1, am_m2, am_c1, am_c0, am_c2, am_se, am_nl, am_nr, am_wh, List.getElem?_cons_zero, List.getElem?_cons_succ, List.length_cons, List.length_nil, Option.map_some, Option.map_none, List.reverse_cons, List.set_cons_succ, List.set_cons_zero, List.take_succ_cons, List.take_zero, List.cons_append, List.nil_append, gv_M_0_2, gv_M_0_3, e1, l, w, nI_1]⟩)
  rw [pasR_0] at key
  exact key
