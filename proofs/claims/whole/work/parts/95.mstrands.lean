/-! the reference: the text of strands -/
theorem f_in_g {b lo hi : Nat} (hb : b < 2 ^ 31) (h1 : lo < 2 ^ 31) (h2 : hi < 2 ^ 31) (μ : am_M) : f_X11_in [vL (nI b).toInt64, vL (lN lo), vL (lN hi)] μ = some (some (vI (bI (decide (lo ≤ b) && decide (b ≤ hi)))), μ) := by
  rw [f_in, nI_l hb, decide_eq_decide.mpr (pk_lLE (by omega) (by omega)), decide_eq_decide.mpr (pk_lLE (by omega) (by omega))]
theorem f_in_fig {b : Nat} (hb : b < 256) (μ : am_M) : f_X11_in [vL (nI b).toInt64, vL 48, vL 57] μ = some (some (vI (bI (decide (48 ≤ b) && decide (b ≤ 57)))), μ) := f_in_g (lo := 48) (hi := 57) (by omega) (by decide) (by decide) μ
theorem f_in_let {b : Nat} (hb : b < 256) (μ : am_M) : f_X11_in [vL (nI b).toInt64, vL 97, vL 100] μ = some (some (vI (bI (decide (97 ≤ b) && decide (b ≤ 100)))), μ) := f_in_g (lo := 97) (hi := 100) (by omega) (by decide) (by decide) μ
theorem f_in_rt {b : Nat} (hb : b < 256) (μ : am_M) : f_X11_in [vL (nI b).toInt64, vL 97, vL 104] μ = some (some (vI (bI (decide (97 ≤ b) && decide (b ≤ 104)))), μ) := f_in_g (lo := 97) (hi := 104) (by omega) (by decide) (by decide) μ
/-- strands as the reference keeps them -/
def mD (D : Dd) (μ : am_M) : Prop := μ 0 7 = nI (dn D) ∧ (∀ s, s < dn D → μ 7 s = nI (dh D s)) ∧ (∀ s, s < dn D → μ 8 s = nI (dk D s)) ∧ (∀ s, s < dn D → μ 9 s = nI (dl D s)) ∧ ∀ s i, s < dn D → i < dl D s → μ 10 (6 * s + i) = nI (db D s i)
def mt (t : Nat) (T : List Nat) (μ : am_M) : Prop := μ 6 t = nI T.length ∧ ∀ i, i < T.length → μ 5 (72 * t + i) = nI (tb T i)
theorem mT.mt {T : Nat → List Nat} {μ : am_M} (h : mT T μ) {t : Nat} (ht : t < 3) : mt t (T t) μ := ⟨(h t ht).1, fun i hi => (h t ht).2 i _ (tb_in hi)⟩
/-- of a finer frame: only such fields and elements change -/
def Fm (P : Nat → Nat → Prop) (μ μ' : am_M) : Prop := ∀ a b, ¬ P a b → μ' a b = μ a b
theorem Fm.rf {P : Nat → Nat → Prop} {μ : am_M} : Fm P μ μ := fun _ _ _ => rfl
theorem Fm.tr {P : Nat → Nat → Prop} {μ μ' μ'' : am_M} (h : Fm P μ μ') (h2 : Fm P μ' μ'') : Fm P μ μ'' := fun a b hp => (h2 a b hp).trans (h a b hp)
theorem Fm.up {P : Nat → Nat → Prop} {μ μ' : am_M} (h : Fm P μ μ') {k j : Nat} {v : Int32} (hk : P k j) : Fm P μ (am_up μ' k j v) := fun a b hp => by
  rw [am_up_ne _ _ (by by_cases h9 : a = k; (· subst h9; by_cases h8 : b = j; (· subst h8; exact absurd hk hp); exact Or.inr h8); exact Or.inl h9)]
  exact h a b hp
theorem Fm.mo {P Q : Nat → Nat → Prop} {μ μ' : am_M} (h : Fm P μ μ') (hq : ∀ a b, P a b → Q a b) : Fm Q μ μ' := fun a b hp => h a b (fun h9 => hp (hq a b h9))
/-- in the midst of the text: st strands are whole -/
def mPt (q : Pt) (st : Nat) (μ : am_M) : Prop := μ 0 7 = nI st ∧ (q.2 = 0 → st = dn q.1) ∧ (q.2 ≠ 0 → dn q.1 = st + 1) ∧ (∀ s, s < dn q.1 → μ 7 s = nI (dh q.1 s)) ∧ (∀ s, s < dn q.1 → (q.2 ≠ 1 ∨ s < st) → μ 8 s = nI (dk q.1 s)) ∧ (∀ s, s < dn q.1 → (3 ≤ q.2 ∨ s < st) → μ 9 s = nI (dl q.1 s)) ∧ ∀ s i, s < dn q.1 → i < dl q.1 s → μ 10 (6 * s + i) = nI (db q.1 s i)
def prt (p : Nat) : Nat := if p = 0 then 0 else if p = 1 then 1 else 2
def cS (a b : Nat) : Prop := (a = 0 ∧ b = 7) ∨ (7 ≤ a ∧ a ≤ 10)
theorem rs_no {q : Pt} {b i len m st : Nat} {μ : am_M} {b1 : am_T} (hb1 : (s_sq (s_bk (s_sq (s_as (o_si 10 5) (e_ald ShM (e_gf ShM 11 5 (e_lr 0)) (e_li 4))) (s_sq (s_as (o_si 10 6) (e_c (b_and (b_and (b_z .eq (e_li 2)) (b_z .ne (e_k (am_cs 3 f_X11_in) (a_1 (e_i2l (e_li 5)) (a_1 (e_j 48) (a_1 (e_j 57) a_0)))))) (b_2 .lt (e_gf ShM 11 7 (e_lr 0)) (e_i 8))) (e_i 1) (e_i 0))) (s_sq (s_as (o_si 10 7) (e_c (b_and (b_2 .eq (e_li 2) (e_i 1)) (b_or (b_or (b_2 .eq (e_li 5) (e_i 119)) (b_2 .eq (e_li 5) (e_i 107))) (b_2 .eq (e_li 5) (e_i 100)))) (e_i 1) (e_i 0))) (s_sq (s_as (o_si 10 8) (e_c (b_and (b_and (b_2 .eq (e_li 2) (e_i 2)) (b_z .ne (e_k (am_cs 3 f_X11_in) (a_1 (e_i2l (e_li 5)) (a_1 (e_j 97) (a_1 (e_j 100) a_0)))))) (b_2 .lt (e_li 3) (e_i 6))) (e_i 1) (e_i 0))) (s_sq (s_as (o_si 10 9) (e_c (b_and (b_and (b_2 .eq (e_li 2) (e_i 2)) (b_2 .eq (e_li 5) (e_i 59))) (b_z .gt (e_li 3))) (e_i 1) (e_i 0))) (s_sq (s_if (b_and (b_and (b_and (b_not (b_z .ne (e_li 6))) (b_not (b_z .ne (e_li 7)))) (b_not (b_z .ne (e_li 8)))) (b_not (b_z .ne (e_li 9)))) (s_sq (s_pf ShM 11 7 false (e_lr 0) (e_i 0)) (s_rt .ireturn (e_li 4))) s_0) (s_sq (s_if (b_z .ne (e_li 6)) (s_sq (s_ia ShM (e_gf ShM 11 8 (e_lr 0)) (e_gf ShM 11 7 (e_lr 0)) (e_b o_isub (e_li 5) (e_i 48))) (s_as (o_si 10 2) (e_i 1))) s_0) (s_sq (s_if (b_z .ne (e_li 7)) (s_sq (s_ia ShM (e_gf ShM 11 9 (e_lr 0)) (e_gf ShM 11 7 (e_lr 0)) (e_c (b_2 .eq (e_li 5) (e_i 119)) (e_i 0) (e_c (b_2 .eq (e_li 5) (e_i 107)) (e_i 1) (e_i 2)))) (s_sq (s_as (o_si 10 2) (e_i 2)) (s_as (o_si 10 3) (e_i 0)))) s_0) (s_sq (s_if (b_z .ne (e_li 8)) (s_sq (s_ia ShM (e_gf ShM 11 11 (e_lr 0)) (e_b o_iadd (e_b o_imul (e_i 6) (e_gf ShM 11 7 (e_lr 0))) (e_li 3)) (e_b o_isub (e_li 5) (e_i 97))) (s_sq (s_inc 10 3 1) (s_ia ShM (e_gf ShM 11 10 (e_lr 0)) (e_gf ShM 11 7 (e_lr 0)) (e_li 3)))) s_0) (s_if (b_z .ne (e_li 9)) (s_sq (s_po ShM 11 7 false o_iadd (e_lr 0) (e_i 1)) (s_as (o_si 10 2) (e_i 0))) s_0))))))))))) (s_inc 10 4 1)) = b1) (hw : wfP q) (hx : mPt q st μ) (hb : b < 256) (hi : i < 71) (hm : m < 10) (hm2 : 2 ≤ q.2 → m = q.2 - 2) (y1 : μ 5 i = nI b) (ho : okp q b = false) :
    b1 [vR 0, vI (nI len), vI (nI (prt q.2)), vI (nI m), vI (nI i)] μ = some (.inr (some (vI (nI i)), am_up μ 0 7 (nI 0))) := by
  obtain ⟨D, p⟩ := q
  obtain ⟨x1, x2, x3, x4, x5, x6, x7⟩ := hx
  obtain ⟨w1, w2, w3, w4, w5, w6, w7, w8, w9, w10⟩ := hw
  simp only at x1 x2 x3 w1 w2 w3 hm2
  unfold okp at ho
  subst hb1
  have g1 := f_in_fig hb
  have g2 := f_in_let hb
  unfold prt
  by_cases p0 : p = 0
  · simp only [p0, if_true, decide_eq_false_iff_not] at ho ⊢
    have x2 := x2 p0
    by_cases d1 : 48 ≤ b
    · by_cases d2 : b ≤ 57
      · simp (disch := first | omega | assumption | exact Or.inl rfl | exact Or.inr rfl | exact bI_ok _) [am_fn, am_en, am_bd_s, am_bd_n, e_n, e_u, e_b, e_c, e_k, b_z, b_2, b_and, b_or, b_not, a_0, a_1, s_k, s_pop, s_as, s_inc, s_pf, s_po, s_ia, s_io, s_cy, s_0, s_sq, s_if, s_no, s_bk, s_rt_I, s_rt_L, s_rt_A, s_rv, s_sw, o_k, o_li, o_ll, o_lr, o_ii, o_iz, o_jj, o_jz, o_ji, o_jc, o_iu, o_i2l, o_si, o_sr, o_sl, o_inc, am_cl, am_cs, am_m1, am_m2, am_c1, am_c0, am_c2, am_se, am_nl, am_nr, am_wh, List.getElem?_cons_zero, List.getElem?_cons_succ, List.length_cons, List.length_nil, Option.map_some, Option.map_none, List.reverse_cons, List.set_cons_succ, List.set_cons_zero, List.take_succ_cons, List.take_zero, List.cons_append, List.nil_append, nI_lit, nN_lit, nI_eq, nI_ltI, nI_leI, nI_add, pk_mul, pk_sub, nI_eN, nN_eI, nN_ltI, nN_leI, nI_ltN, nI_leN, nN_nN, nN_leN, bI_e0, bI_e1, bt_shr, nI_sub_lt, ntT, ntF, nlT, nlF, neT, neF, gv_M_0_5, lv_M_5, y1, g1, d1, d2, gv_M_0_7, x1, pv_M_0_7]
      · simp (disch := first | omega | assumption | exact Or.inl rfl | exact Or.inr rfl | exact bI_ok _) [am_fn, am_en, am_bd_s, am_bd_n, e_n, e_u, e_b, e_c, e_k, b_z, b_2, b_and, b_or, b_not, a_0, a_1, s_k, s_pop, s_as, s_inc, s_pf, s_po, s_ia, s_io, s_cy, s_0, s_sq, s_if, s_no, s_bk, s_rt_I, s_rt_L, s_rt_A, s_rv, s_sw, o_k, o_li, o_ll, o_lr, o_ii, o_iz, o_jj, o_jz, o_ji, o_jc, o_iu, o_i2l, o_si, o_sr, o_sl, o_inc, am_cl, am_cs, am_m1, am_m2, am_c1, am_c0, am_c2, am_se, am_nl, am_nr, am_wh, List.getElem?_cons_zero, List.getElem?_cons_succ, List.length_cons, List.length_nil, Option.map_some, Option.map_none, List.reverse_cons, List.set_cons_succ, List.set_cons_zero, List.take_succ_cons, List.take_zero, List.cons_append, List.nil_append, nI_lit, nN_lit, nI_eq, nI_ltI, nI_leI, nI_add, pk_mul, pk_sub, nI_eN, nN_eI, nN_ltI, nN_leI, nI_ltN, nI_leN, nN_nN, nN_leN, bI_e0, bI_e1, bt_shr, nI_sub_lt, ntT, ntF, nlT, nlF, neT, neF, gv_M_0_5, lv_M_5, y1, g1, d1, d2, gv_M_0_7, x1, pv_M_0_7]
    · simp (disch := first | omega | assumption | exact Or.inl rfl | exact Or.inr rfl | exact bI_ok _) [am_fn, am_en, am_bd_s, am_bd_n, e_n, e_u, e_b, e_c, e_k, b_z, b_2, b_and, b_or, b_not, a_0, a_1, s_k, s_pop, s_as, s_inc, s_pf, s_po, s_ia, s_io, s_cy, s_0, s_sq, s_if, s_no, s_bk, s_rt_I, s_rt_L, s_rt_A, s_rv, s_sw, o_k, o_li, o_ll, o_lr, o_ii, o_iz, o_jj, o_jz, o_ji, o_jc, o_iu, o_i2l, o_si, o_sr, o_sl, o_inc, am_cl, am_cs, am_m1, am_m2, am_c1, am_c0, am_c2, am_se, am_nl, am_nr, am_wh, List.getElem?_cons_zero, List.getElem?_cons_succ, List.length_cons, List.length_nil, Option.map_some, Option.map_none, List.reverse_cons, List.set_cons_succ, List.set_cons_zero, List.take_succ_cons, List.take_zero, List.cons_append, List.nil_append, nI_lit, nN_lit, nI_eq, nI_ltI, nI_leI, nI_add, pk_mul, pk_sub, nI_eN, nN_eI, nN_ltI, nN_leI, nI_ltN, nI_leN, nN_nN, nN_leN, bI_e0, bI_e1, bt_shr, nI_sub_lt, ntT, ntF, nlT, nlF, neT, neF, gv_M_0_5, lv_M_5, y1, g1, d1, gv_M_0_7, x1, pv_M_0_7]
  · by_cases p1 : p = 1
    · simp only [p1, if_true, decide_eq_false_iff_not, if_neg (show ¬ (1 : Nat) = 0 by decide)] at ho ⊢
      have d1 : ¬ b = 119 := fun h => ho (by simp [h])
      have d2 : ¬ b = 107 := fun h => ho (by simp [h])
      have d3 : ¬ b = 100 := fun h => ho (by simp [h])
      simp (disch := first | omega | assumption | exact Or.inl rfl | exact Or.inr rfl | exact bI_ok _) [am_fn, am_en, am_bd_s, am_bd_n, e_n, e_u, e_b, e_c, e_k, b_z, b_2, b_and, b_or, b_not, a_0, a_1, s_k, s_pop, s_as, s_inc, s_pf, s_po, s_ia, s_io, s_cy, s_0, s_sq, s_if, s_no, s_bk, s_rt_I, s_rt_L, s_rt_A, s_rv, s_sw, o_k, o_li, o_ll, o_lr, o_ii, o_iz, o_jj, o_jz, o_ji, o_jc, o_iu, o_i2l, o_si, o_sr, o_sl, o_inc, am_cl, am_cs, am_m1, am_m2, am_c1, am_c0, am_c2, am_se, am_nl, am_nr, am_wh, List.getElem?_cons_zero, List.getElem?_cons_succ, List.length_cons, List.length_nil, Option.map_some, Option.map_none, List.reverse_cons, List.set_cons_succ, List.set_cons_zero, List.take_succ_cons, List.take_zero, List.cons_append, List.nil_append, nI_lit, nN_lit, nI_eq, nI_ltI, nI_leI, nI_add, pk_mul, pk_sub, nI_eN, nN_eI, nN_ltI, nN_leI, nI_ltN, nI_leN, nN_nN, nN_leN, bI_e0, bI_e1, bt_shr, nI_sub_lt, ntT, ntF, nlT, nlF, neT, neF, gv_M_0_5, lv_M_5, y1, d1, d2, d3, pv_M_0_7]
    · simp only [p0, p1, if_false, decide_eq_false_iff_not] at ho ⊢
      have hm2 := hm2 (by omega)
      by_cases d0 : b = 59
      · simp (disch := first | omega | assumption | exact Or.inl rfl | exact Or.inr rfl | exact bI_ok _) [am_fn, am_en, am_bd_s, am_bd_n, e_n, e_u, e_b, e_c, e_k, b_z, b_2, b_and, b_or, b_not, a_0, a_1, s_k, s_pop, s_as, s_inc, s_pf, s_po, s_ia, s_io, s_cy, s_0, s_sq, s_if, s_no, s_bk, s_rt_I, s_rt_L, s_rt_A, s_rv, s_sw, o_k, o_li, o_ll, o_lr, o_ii, o_iz, o_jj, o_jz, o_ji, o_jc, o_iu, o_i2l, o_si, o_sr, o_sl, o_inc, am_cl, am_cs, am_m1, am_m2, am_c1, am_c0, am_c2, am_se, am_nl, am_nr, am_wh, List.getElem?_cons_zero, List.getElem?_cons_succ, List.length_cons, List.length_nil, Option.map_some, Option.map_none, List.reverse_cons, List.set_cons_succ, List.set_cons_zero, List.take_succ_cons, List.take_zero, List.cons_append, List.nil_append, nI_lit, nN_lit, nI_eq, nI_ltI, nI_leI, nI_add, pk_mul, pk_sub, nI_eN, nN_eI, nN_ltI, nN_leI, nI_ltN, nI_leN, nN_nN, nN_leN, bI_e0, bI_e1, bt_shr, nI_sub_lt, ntT, ntF, nlT, nlF, neT, neF, gv_M_0_5, lv_M_5, y1, g2, d0, pv_M_0_7] <;> rw [d0] at y1 g2 <;> simp (disch := first | omega | assumption | exact Or.inl rfl | exact Or.inr rfl | exact bI_ok _) [am_fn, am_en, am_bd_s, am_bd_n, e_n, e_u, e_b, e_c, e_k, b_z, b_2, b_and, b_or, b_not, a_0, a_1, s_k, s_pop, s_as, s_inc, s_pf, s_po, s_ia, s_io, s_cy, s_0, s_sq, s_if, s_no, s_bk, s_rt_I, s_rt_L, s_rt_A, s_rv, s_sw, o_k, o_li, o_ll, o_lr, o_ii, o_iz, o_jj, o_jz, o_ji, o_jc, o_iu, o_i2l, o_si, o_sr, o_sl, o_inc, am_cl, am_cs, am_m1, am_m2, am_c1, am_c0, am_c2, am_se, am_nl, am_nr, am_wh, List.getElem?_cons_zero, List.getElem?_cons_succ, List.length_cons, List.length_nil, Option.map_some, Option.map_none, List.reverse_cons, List.set_cons_succ, List.set_cons_zero, List.take_succ_cons, List.take_zero, List.cons_append, List.nil_append, nI_lit, nN_lit, nI_eq, nI_ltI, nI_leI, nI_add, pk_mul, pk_sub, nI_eN, nN_eI, nN_ltI, nN_leI, nI_ltN, nI_leN, nN_nN, nN_leN, bI_e0, bI_e1, bt_shr, nI_sub_lt, ntT, ntF, nlT, nlF, neT, neF, gv_M_0_5, lv_M_5, y1, g2, d0, pv_M_0_7]
      · by_cases d1 : 97 ≤ b
        · by_cases d2 : b ≤ 100
          · simp (disch := first | omega | assumption | exact Or.inl rfl | exact Or.inr rfl | exact bI_ok _) [am_fn, am_en, am_bd_s, am_bd_n, e_n, e_u, e_b, e_c, e_k, b_z, b_2, b_and, b_or, b_not, a_0, a_1, s_k, s_pop, s_as, s_inc, s_pf, s_po, s_ia, s_io, s_cy, s_0, s_sq, s_if, s_no, s_bk, s_rt_I, s_rt_L, s_rt_A, s_rv, s_sw, o_k, o_li, o_ll, o_lr, o_ii, o_iz, o_jj, o_jz, o_ji, o_jc, o_iu, o_i2l, o_si, o_sr, o_sl, o_inc, am_cl, am_cs, am_m1, am_m2, am_c1, am_c0, am_c2, am_se, am_nl, am_nr, am_wh, List.getElem?_cons_zero, List.getElem?_cons_succ, List.length_cons, List.length_nil, Option.map_some, Option.map_none, List.reverse_cons, List.set_cons_succ, List.set_cons_zero, List.take_succ_cons, List.take_zero, List.cons_append, List.nil_append, nI_lit, nN_lit, nI_eq, nI_ltI, nI_leI, nI_add, pk_mul, pk_sub, nI_eN, nN_eI, nN_ltI, nN_leI, nI_ltN, nI_leN, nN_nN, nN_leN, bI_e0, bI_e1, bt_shr, nI_sub_lt, ntT, ntF, nlT, nlF, neT, neF, gv_M_0_5, lv_M_5, y1, g2, d0, d1, d2, pv_M_0_7]
          · simp (disch := first | omega | assumption | exact Or.inl rfl | exact Or.inr rfl | exact bI_ok _) [am_fn, am_en, am_bd_s, am_bd_n, e_n, e_u, e_b, e_c, e_k, b_z, b_2, b_and, b_or, b_not, a_0, a_1, s_k, s_pop, s_as, s_inc, s_pf, s_po, s_ia, s_io, s_cy, s_0, s_sq, s_if, s_no, s_bk, s_rt_I, s_rt_L, s_rt_A, s_rv, s_sw, o_k, o_li, o_ll, o_lr, o_ii, o_iz, o_jj, o_jz, o_ji, o_jc, o_iu, o_i2l, o_si, o_sr, o_sl, o_inc, am_cl, am_cs, am_m1, am_m2, am_c1, am_c0, am_c2, am_se, am_nl, am_nr, am_wh, List.getElem?_cons_zero, List.getElem?_cons_succ, List.length_cons, List.length_nil, Option.map_some, Option.map_none, List.reverse_cons, List.set_cons_succ, List.set_cons_zero, List.take_succ_cons, List.take_zero, List.cons_append, List.nil_append, nI_lit, nN_lit, nI_eq, nI_ltI, nI_leI, nI_add, pk_mul, pk_sub, nI_eN, nN_eI, nN_ltI, nN_leI, nI_ltN, nI_leN, nN_nN, nN_leN, bI_e0, bI_e1, bt_shr, nI_sub_lt, ntT, ntF, nlT, nlF, neT, neF, gv_M_0_5, lv_M_5, y1, g2, d0, d1, d2, pv_M_0_7]
        · simp (disch := first | omega | assumption | exact Or.inl rfl | exact Or.inr rfl | exact bI_ok _) [am_fn, am_en, am_bd_s, am_bd_n, e_n, e_u, e_b, e_c, e_k, b_z, b_2, b_and, b_or, b_not, a_0, a_1, s_k, s_pop, s_as, s_inc, s_pf, s_po, s_ia, s_io, s_cy, s_0, s_sq, s_if, s_no, s_bk, s_rt_I, s_rt_L, s_rt_A, s_rv, s_sw, o_k, o_li, o_ll, o_lr, o_ii, o_iz, o_jj, o_jz, o_ji, o_jc, o_iu, o_i2l, o_si, o_sr, o_sl, o_inc, am_cl, am_cs, am_m1, am_m2, am_c1, am_c0, am_c2, am_se, am_nl, am_nr, am_wh, List.getElem?_cons_zero, List.getElem?_cons_succ, List.length_cons, List.length_nil, Option.map_some, Option.map_none, List.reverse_cons, List.set_cons_succ, List.set_cons_zero, List.take_succ_cons, List.take_zero, List.cons_append, List.nil_append, nI_lit, nN_lit, nI_eq, nI_ltI, nI_leI, nI_add, pk_mul, pk_sub, nI_eN, nN_eI, nN_ltI, nN_leI, nI_ltN, nI_leN, nN_nN, nN_leN, bI_e0, bI_e1, bt_shr, nI_sub_lt, ntT, ntF, nlT, nlF, neT, neF, gv_M_0_5, lv_M_5, y1, g2, d0, d1, pv_M_0_7]
theorem rs_ok {q : Pt} {b i len m st : Nat} {μ : am_M} {b1 : am_T} (hb1 : (s_sq (s_bk (s_sq (s_as (o_si 10 5) (e_ald ShM (e_gf ShM 11 5 (e_lr 0)) (e_li 4))) (s_sq (s_as (o_si 10 6) (e_c (b_and (b_and (b_z .eq (e_li 2)) (b_z .ne (e_k (am_cs 3 f_X11_in) (a_1 (e_i2l (e_li 5)) (a_1 (e_j 48) (a_1 (e_j 57) a_0)))))) (b_2 .lt (e_gf ShM 11 7 (e_lr 0)) (e_i 8))) (e_i 1) (e_i 0))) (s_sq (s_as (o_si 10 7) (e_c (b_and (b_2 .eq (e_li 2) (e_i 1)) (b_or (b_or (b_2 .eq (e_li 5) (e_i 119)) (b_2 .eq (e_li 5) (e_i 107))) (b_2 .eq (e_li 5) (e_i 100)))) (e_i 1) (e_i 0))) (s_sq (s_as (o_si 10 8) (e_c (b_and (b_and (b_2 .eq (e_li 2) (e_i 2)) (b_z .ne (e_k (am_cs 3 f_X11_in) (a_1 (e_i2l (e_li 5)) (a_1 (e_j 97) (a_1 (e_j 100) a_0)))))) (b_2 .lt (e_li 3) (e_i 6))) (e_i 1) (e_i 0))) (s_sq (s_as (o_si 10 9) (e_c (b_and (b_and (b_2 .eq (e_li 2) (e_i 2)) (b_2 .eq (e_li 5) (e_i 59))) (b_z .gt (e_li 3))) (e_i 1) (e_i 0))) (s_sq (s_if (b_and (b_and (b_and (b_not (b_z .ne (e_li 6))) (b_not (b_z .ne (e_li 7)))) (b_not (b_z .ne (e_li 8)))) (b_not (b_z .ne (e_li 9)))) (s_sq (s_pf ShM 11 7 false (e_lr 0) (e_i 0)) (s_rt .ireturn (e_li 4))) s_0) (s_sq (s_if (b_z .ne (e_li 6)) (s_sq (s_ia ShM (e_gf ShM 11 8 (e_lr 0)) (e_gf ShM 11 7 (e_lr 0)) (e_b o_isub (e_li 5) (e_i 48))) (s_as (o_si 10 2) (e_i 1))) s_0) (s_sq (s_if (b_z .ne (e_li 7)) (s_sq (s_ia ShM (e_gf ShM 11 9 (e_lr 0)) (e_gf ShM 11 7 (e_lr 0)) (e_c (b_2 .eq (e_li 5) (e_i 119)) (e_i 0) (e_c (b_2 .eq (e_li 5) (e_i 107)) (e_i 1) (e_i 2)))) (s_sq (s_as (o_si 10 2) (e_i 2)) (s_as (o_si 10 3) (e_i 0)))) s_0) (s_sq (s_if (b_z .ne (e_li 8)) (s_sq (s_ia ShM (e_gf ShM 11 11 (e_lr 0)) (e_b o_iadd (e_b o_imul (e_i 6) (e_gf ShM 11 7 (e_lr 0))) (e_li 3)) (e_b o_isub (e_li 5) (e_i 97))) (s_sq (s_inc 10 3 1) (s_ia ShM (e_gf ShM 11 10 (e_lr 0)) (e_gf ShM 11 7 (e_lr 0)) (e_li 3)))) s_0) (s_if (b_z .ne (e_li 9)) (s_sq (s_po ShM 11 7 false o_iadd (e_lr 0) (e_i 1)) (s_as (o_si 10 2) (e_i 0))) s_0))))))))))) (s_inc 10 4 1)) = b1) (hw : wfP q) (hx : mPt q st μ) (hb : b < 256) (hi : i < 71) (hm : m < 10) (hm2 : 2 ≤ q.2 → m = q.2 - 2) (y1 : μ 5 i = nI b) (ho : okp q b = true) :
    ∃ m' st' μ', b1 [vR 0, vI (nI len), vI (nI (prt q.2)), vI (nI m), vI (nI i)] μ = some (.inl ([vR 0, vI (nI len), vI (nI (prt (stp q b).2)), vI (nI m'), vI (nI (i + 1))], μ')) ∧ m' < 10 ∧ (2 ≤ (stp q b).2 → m' = (stp q b).2 - 2) ∧ mPt (stp q b) st' μ' ∧ Fm cS μ μ' := by
  obtain ⟨D, p⟩ := q
  obtain ⟨x1, x2, x3, x4, x5, x6, x7⟩ := hx
  obtain ⟨w1, w2, w3, w4, w5, w6, w7, w8, w9, w10⟩ := hw
  simp only at x1 x2 x3 x4 x5 x6 x7 w1 w2 w3 w6 w9 w10 hm2
  unfold okp at ho
  subst hb1
  have g1 := f_in_fig hb
  have g2 := f_in_let hb
  unfold prt stp
  by_cases p0 : p = 0
  · simp only [p0, if_true, decide_eq_true_eq, if_neg (show ¬ (1 : Nat) = 0 by decide)] at ho ⊢
    have x2 := x2 p0
    obtain ⟨o1, o2, o3⟩ := ho
    refine ⟨m, st, am_up μ 7 st (nI (b - 48)), ?_, hm, fun h => (by omega), ⟨?_, fun h => absurd h (by simp), fun _ => ?_, fun s hs => ?_, fun s hs hs2 => ?_, fun s hs hs2 => ?_, fun s j hs hj => ?_⟩, Fm.rf.up (by unfold cS; omega)⟩
    · simp (disch := first | omega | assumption | exact Or.inl rfl | exact Or.inr rfl | exact bI_ok _) [am_fn, am_en, am_bd_s, am_bd_n, e_n, e_u, e_b, e_c, e_k, b_z, b_2, b_and, b_or, b_not, a_0, a_1, s_k, s_pop, s_as, s_inc, s_pf, s_po, s_ia, s_io, s_cy, s_0, s_sq, s_if, s_no, s_bk, s_rt_I, s_rt_L, s_rt_A, s_rv, s_sw, o_k, o_li, o_ll, o_lr, o_ii, o_iz, o_jj, o_jz, o_ji, o_jc, o_iu, o_i2l, o_si, o_sr, o_sl, o_inc, am_cl, am_cs, am_m1, am_m2, am_c1, am_c0, am_c2, am_se, am_nl, am_nr, am_wh, List.getElem?_cons_zero, List.getElem?_cons_succ, List.length_cons, List.length_nil, Option.map_some, Option.map_none, List.reverse_cons, List.set_cons_succ, List.set_cons_zero, List.take_succ_cons, List.take_zero, List.cons_append, List.nil_append, nI_lit, nN_lit, nI_eq, nI_ltI, nI_leI, nI_add, pk_mul, pk_sub, nI_eN, nN_eI, nN_ltI, nN_leI, nI_ltN, nI_leN, nN_nN, nN_leN, bI_e0, bI_e1, bt_shr, nI_sub_lt, ntT, ntF, nlT, nlF, neT, neF, gv_M_0_5, lv_M_5, y1, g1, gv_M_0_7, gv_M_0_8, x1, wv_M_7]
    · rw [am_up_ne _ _ (by omega)]; exact x1
    · show dn D + 1 = st + 1; omega
    · have hs : s < dn D + 1 := hs
      show _ = nI (up1 (dh D) (dn D) (b - 48) s)
      by_cases e : s = dn D
      · rw [e, up1_eq, x2, am_up_eq]
      · rw [am_up_ne _ _ (by omega), up1_ne _ _ e]; exact x4 s (by omega)
    · have hs2 : (1 : Nat) ≠ 1 ∨ s < st := hs2
      rw [am_up_ne _ _ (by omega)]; exact x5 s (by omega) (by omega)
    · have hs2 : 3 ≤ (1 : Nat) ∨ s < st := hs2
      show _ = nI (up1 (dl D) (dn D) 0 s)
      rw [am_up_ne _ _ (by omega), up1_ne _ _ (by omega)]; exact x6 s (by omega) (by omega)
    · have hj : j < up1 (dl D) (dn D) 0 s := hj
      have hs : s < dn D + 1 := hs
      by_cases e : s = dn D
      · rw [e, up1_eq] at hj; omega
      · rw [up1_ne _ _ e] at hj
        rw [am_up_ne _ _ (by omega)]; exact x7 s j (by omega) hj
  · have n1 := w3 p0
    have x3 := x3 p0
    by_cases p1 : p = 1
    · simp only [p1, if_true, decide_eq_true_eq, if_neg (show ¬ (1 : Nat) = 0 by decide), if_neg (show ¬ (2 : Nat) = 0 by decide), if_neg (show ¬ (2 : Nat) = 1 by decide)] at ho ⊢
      refine ⟨0, st, am_up μ 8 st (nI (kdB b)), ?_, by omega, fun h => rfl, ⟨?_, fun h => absurd h (by simp), fun _ => x3, fun s hs => ?_, fun s hs hs2 => ?_, fun s hs hs2 => ?_, fun s j hs hj => ?_⟩, Fm.rf.up (by unfold cS; omega)⟩
      · unfold kdB
        rcases ho with ho | ho | ho <;> (rw [ho] at y1; simp (disch := first | omega | assumption | exact Or.inl rfl | exact Or.inr rfl | exact bI_ok _) [am_fn, am_en, am_bd_s, am_bd_n, e_n, e_u, e_b, e_c, e_k, b_z, b_2, b_and, b_or, b_not, a_0, a_1, s_k, s_pop, s_as, s_inc, s_pf, s_po, s_ia, s_io, s_cy, s_0, s_sq, s_if, s_no, s_bk, s_rt_I, s_rt_L, s_rt_A, s_rv, s_sw, o_k, o_li, o_ll, o_lr, o_ii, o_iz, o_jj, o_jz, o_ji, o_jc, o_iu, o_i2l, o_si, o_sr, o_sl, o_inc, am_cl, am_cs, am_m1, am_m2, am_c1, am_c0, am_c2, am_se, am_nl, am_nr, am_wh, List.getElem?_cons_zero, List.getElem?_cons_succ, List.length_cons, List.length_nil, Option.map_some, Option.map_none, List.reverse_cons, List.set_cons_succ, List.set_cons_zero, List.take_succ_cons, List.take_zero, List.cons_append, List.nil_append, nI_lit, nN_lit, nI_eq, nI_ltI, nI_leI, nI_add, pk_mul, pk_sub, nI_eN, nN_eI, nN_ltI, nN_leI, nI_ltN, nI_leN, nN_nN, nN_leN, bI_e0, bI_e1, bt_shr, nI_sub_lt, ntT, ntF, nlT, nlF, neT, neF, gv_M_0_5, lv_M_5, y1, ho, gv_M_0_7, gv_M_0_9, x1, wv_M_8])
      · rw [am_up_ne _ _ (by omega)]; exact x1
      · rw [am_up_ne _ _ (by omega)]; exact x4 s hs
      · have hs : s < dn D := hs
        show _ = nI (up1 (dk D) (dn D - 1) (kdB b) s)
        by_cases e : s = dn D - 1
        · rw [e, up1_eq, show dn D - 1 = st by omega, am_up_eq]
        · rw [am_up_ne _ _ (by omega), up1_ne _ _ e]; exact x5 s (by omega) (by omega)
      · have hs2 : 3 ≤ (2 : Nat) ∨ s < st := hs2
        rw [am_up_ne _ _ (by omega)]; exact x6 s hs (by omega)
      · rw [am_up_ne _ _ (by omega)]; exact x7 s j hs hj
    · simp only [p0, p1, if_false, decide_eq_true_eq] at ho ⊢
      have hm2 := hm2 (by omega)
      by_cases hb9 : b = 59
      · have p2 : 2 < p := by omega
        subst hb9
        simp only [if_true]
        refine ⟨m, st + 1, am_up μ 0 7 (nI (st + 1)), ?_, hm, fun h => absurd h (by simp), ⟨am_up_eq _ _ _ _, fun _ => x3.symm, fun h => absurd rfl h, fun s hs => ?_, fun s hs hs2 => ?_, fun s hs hs2 => ?_, fun s j hs hj => ?_⟩, Fm.rf.up (by unfold cS; omega)⟩
        · simp (disch := first | omega | assumption | exact Or.inl rfl | exact Or.inr rfl | exact bI_ok _) [am_fn, am_en, am_bd_s, am_bd_n, e_n, e_u, e_b, e_c, e_k, b_z, b_2, b_and, b_or, b_not, a_0, a_1, s_k, s_pop, s_as, s_inc, s_pf, s_po, s_ia, s_io, s_cy, s_0, s_sq, s_if, s_no, s_bk, s_rt_I, s_rt_L, s_rt_A, s_rv, s_sw, o_k, o_li, o_ll, o_lr, o_ii, o_iz, o_jj, o_jz, o_ji, o_jc, o_iu, o_i2l, o_si, o_sr, o_sl, o_inc, am_cl, am_cs, am_m1, am_m2, am_c1, am_c0, am_c2, am_se, am_nl, am_nr, am_wh, List.getElem?_cons_zero, List.getElem?_cons_succ, List.length_cons, List.length_nil, Option.map_some, Option.map_none, List.reverse_cons, List.set_cons_succ, List.set_cons_zero, List.take_succ_cons, List.take_zero, List.cons_append, List.nil_append, nI_lit, nN_lit, nI_eq, nI_ltI, nI_leI, nI_add, pk_mul, pk_sub, nI_eN, nN_eI, nN_ltI, nN_leI, nI_ltN, nI_leN, nN_nN, nN_leN, bI_e0, bI_e1, bt_shr, nI_sub_lt, ntT, ntF, nlT, nlF, neT, neF, gv_M_0_5, lv_M_5, y1, g2, gv_M_0_7, x1, pv_M_0_7]
        · rw [am_up_ne _ _ (by omega)]; exact x4 s hs
        · rw [am_up_ne _ _ (by omega)]; exact x5 s hs (Or.inl p1)
        · rw [am_up_ne _ _ (by omega)]; exact x6 s hs (by omega)
        · rw [am_up_ne _ _ (by omega)]; exact x7 s j hs hj
      · simp only [hb9, if_false]
        have o1 : 97 ≤ b ∧ b ≤ 100 ∧ p < 8 := by omega
        have e9 := w9 (by omega)
        have q1 : ¬ p + 1 = 0 := by omega
        have q2 : ¬ p + 1 = 1 := by omega
        simp only [q1, q2, if_false]
        refine ⟨m + 1, st, am_up (am_up μ 10 (6 * st + m) (nI (b - 97))) 9 st (nI (m + 1)), ?_, by omega, fun h => by omega, ⟨?_, fun h => by omega, fun _ => x3, fun s hs => ?_, fun s hs hs2 => ?_, fun s hs hs2 => ?_, fun s j hs hj => ?_⟩, (Fm.rf.up (by unfold cS; omega)).up (by unfold cS; omega)⟩
        · have x1' : am_up μ 10 (6 * st + m) (nI (b - 97)) 0 7 = nI st := by rw [am_up_ne _ _ (by omega)]; exact x1
          simp (disch := first | omega | assumption | exact Or.inl rfl | exact Or.inr rfl | exact bI_ok _) [am_fn, am_en, am_bd_s, am_bd_n, e_n, e_u, e_b, e_c, e_k, b_z, b_2, b_and, b_or, b_not, a_0, a_1, s_k, s_pop, s_as, s_inc, s_pf, s_po, s_ia, s_io, s_cy, s_0, s_sq, s_if, s_no, s_bk, s_rt_I, s_rt_L, s_rt_A, s_rv, s_sw, o_k, o_li, o_ll, o_lr, o_ii, o_iz, o_jj, o_jz, o_ji, o_jc, o_iu, o_i2l, o_si, o_sr, o_sl, o_inc, am_cl, am_cs, am_m1, am_m2, am_c1, am_c0, am_c2, am_se, am_nl, am_nr, am_wh, List.getElem?_cons_zero, List.getElem?_cons_succ, List.length_cons, List.length_nil, Option.map_some, Option.map_none, List.reverse_cons, List.set_cons_succ, List.set_cons_zero, List.take_succ_cons, List.take_zero, List.cons_append, List.nil_append, nI_lit, nN_lit, nI_eq, nI_ltI, nI_leI, nI_add, pk_mul, pk_sub, nI_eN, nN_eI, nN_ltI, nN_leI, nI_ltN, nI_leN, nN_nN, nN_leN, bI_e0, bI_e1, bt_shr, nI_sub_lt, ntT, ntF, nlT, nlF, neT, neF, gv_M_0_5, lv_M_5, y1, g2, gv_M_0_7, x1, x1', hb9, gv_M_0_11, gv_M_0_10, wv_M_10, wv_M_9]
        · rw [am_up_ne _ _ (by omega), am_up_ne _ _ (by omega)]; exact x1
        · rw [am_up_ne _ _ (by omega), am_up_ne _ _ (by omega)]; exact x4 s hs
        · rw [am_up_ne _ _ (by omega), am_up_ne _ _ (by omega)]; exact x5 s hs (Or.inl p1)
        · have hs : s < dn D := hs
          show _ = nI (up1 (dl D) (dn D - 1) (p - 1) s)
          by_cases e : s = dn D - 1
          · rw [e, up1_eq, show dn D - 1 = st by omega, am_up_eq, show m + 1 = p - 1 by omega]
          · rw [am_up_ne _ _ (by omega), am_up_ne _ _ (by omega), up1_ne _ _ e]; exact x6 s hs (by omega)
        · have hs : s < dn D := hs
          have hj : j < up1 (dl D) (dn D - 1) (p - 1) s := hj
          have l6 := w6 s
          show _ = nI (up1 (db D) (dn D - 1) (up1 (db D (dn D - 1)) (p - 2) (b - 97)) s j)
          rw [am_up_ne _ _ (by omega)]
          by_cases e : s = dn D - 1
          · rw [e, up1_eq] at hj
            rw [e, up1_eq]
            by_cases e2 : j = p - 2
            · rw [e2, up1_eq, show dn D - 1 = st by omega, show p - 2 = m by omega, am_up_eq]
            · rw [up1_ne _ _ e2, am_up_ne _ _ (by omega)]
              exact x7 _ j (by omega) (by omega)
          · rw [up1_ne _ _ e] at hj ⊢
            rw [am_up_ne _ _ (by omega)]
            exact x7 s j hs hj
