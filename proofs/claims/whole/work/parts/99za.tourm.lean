/-! tour: the reference -/
def hourAt (r : Row) (i : Nat) : Nat := (r.reverse[i]?.getD (0, 0)).2
theorem hourAt_s (s h : Nat) (r : Row) : hourAt ((s, h) :: r) r.length = h := by
  unfold hourAt
  rw [List.reverse_cons, List.getElem?_append_right (by rw [List.length_reverse]; exact Nat.le_refl _), List.length_reverse, Nat.sub_self]
  rfl
theorem hourAt_lt {c : Nat × Nat} {r : Row} {i : Nat} (h : i < r.length) : hourAt (c :: r) i = hourAt r i := by
  unfold hourAt
  rw [List.reverse_cons, List.getElem?_append_left (by rw [List.length_reverse]; exact h)]
/-- the row on the way, the best so far -/
def wyM (r : Row) (μ : am_M) : Prop := ∀ i, i < r.length → μ 20 i = nI (rowAt r i) ∧ μ 21 i = nI (hourAt r i)
def enM (b : Row) (μ : am_M) : Prop := μ 0 27 = nI b.length ∧ μ 0 28 = oI (lastH b) ∧ ∀ i, i < b.length → μ 22 i = nI (rowAt b i)
def cT (a b : Nat) : Prop := (20 ≤ a ∧ a ≤ 22) ∨ (a = 0 ∧ (b = 27 ∨ b = 28))
theorem Ms.ct {D : Dd} {E : List Ev} {g : Nat → Bool} {t : Nat → Nat} {μ μ' : am_M} (h : Ms D E g t μ) (k : Fm cT μ μ') : Ms D E g t μ' := h.kept (fun a b hab => k a b (by unfold cT; omega))
theorem f_nextHour {D : Dd} {E : List Ev} {g : Nat → Bool} {t : Nat → Nat} {r : Row} {k : Nat} {μ : am_M} (hw : wfD D) (hE : wfE E) (hl : ∀ h, t h < 10) (hM : Ms D E g t μ) (hr : vx D t (hgG D E g) [] r) (hy : wyM r μ) (hk : k < dn D) : f_X11_nextHour [vR 0, vI (nI r.length), vI (nI k)] μ = some (some (vI (oI (nxH D t (hgG D E g) r k))), μ) := by
  have w0 := hw.1
  have hH : ∀ s h, (hgG D E g s h).1 < 10 := fun s h => hng_lt hE (hw.2.1 s)
  unfold f_X11_nextHour g_X11_nextHour
  cases r with
  | nil =>
    have z1 : μ 14 k = nI (hgG D E g k 0).1 := by
      have := (hM.2.2 0 (by omega) k hk).1
      rwa [show 8 * 0 + k = k by omega] at this
    have lH := hH k 0
    have f1 := f_readOn hw hE hl hM (hour := 0) (high := (hgG D E g k 0).1) (k := k) (by omega) (by omega) (by omega)
    rw [if_pos hk] at f1
    have f1' : f_X11_readOn [vR 0, vI (nI 0), vI (nI (hgG D E g k 0).1), vI (nI k)] μ = some (some (vI (oI (nxH D t (hgG D E g) [] k))), μ) := f1
    simp only [List.length_nil]
    simp (disch := first | omega | assumption | exact Or.inl rfl | exact Or.inr rfl | exact bI_ok _) [v_bd, mp_s, v_en, v_k, v_li, li_s, v_ll, ll_s, v_lr, lr_s, v_eu, v_ku, v_eb, v_kb1, v_kb2, v_ec, kc_t, kc_f, v_bz, kz_I, v_b2, v_k21, k22_I, v_and, kan_t, kan_f, v_or, kor_t, kor_f, v_not, v_knt, v_a0, v_a1, v_ka1, v_ka2, v_ek, v_kk, kkr_s, v_sk, v_ks, ksr_s, v_pop, kpop_I, kase_s, v_as, v_kas, v_inc, kme_s, v_pf, v_kpf1, v_kpf2, v_po, v_kpo1, v_kpo2, v_kpo3, v_kpo4, v_ia, v_kia1, v_kia2, v_kia3, v_io, v_kio1, v_kio2, v_kio3, v_kio4, v_kio5, v_s0, v_sq, sqk_l, sqk_r, v_if, kif_t, kif_f, v_no, nok_r, v_bk, bkk_l, bkk_r, v_rtI, krI_s, v_rtL, krL_s, v_rv, v_sw, ksw_I, ksw2_s, v_fn, fnl_t, fnk_r, fnr_t, nr_I, nr_L, nr_n, nr_b, nr_0, nr_1, nr_R, v_cl, v_cs, clk_t, m2_I, m1_I, v_si, v_sr, sik_t, v_sl, slk_t, v_oinc, inck_s, se_0, se_n, se_s, v_nl, v_nl0, nlo_I, nlo_R, nlo_U, nlo_n, v_ii, v_jj, v_ji, v_jc, v_iz, v_iu, v_i2l, c0_eq, c0_ne, c0_lt, c0_ge, c0_gt, c0_le, c2_eq, c2_ne, c2_lt, c2_ge, c2_gt, c2_le, en_n, en_I, en_R, en_L, List.getElem?_cons_zero, List.getElem?_cons_succ, List.getElem?_nil, List.length_cons, List.length_nil, List.take_succ_cons, List.take_zero, List.cons_append, List.nil_append, nI_lit, nN_lit, nI_eq, nI_ltI, nI_leI, nI_add, pk_mul, pk_sub, nI_eN, nN_eI, nN_ltI, nN_leI, nI_ltN, nI_leN, nN_nN, nN_leN, bI_e0, bI_e1, bt_shr, nI_sub_lt, ntT, ntF, nlT, nlF, neT, neF, gv_M_0_17, lv_M_14, z1, ck_M_0, f1']
  | cons c r =>
    obtain ⟨s, h⟩ := c
    have hs := hr.2.1
    have h20 : h < 20 := (nxH_lt hr.2.2.2).1
    have hl8 := vx_le hr
    simp only [List.length_cons] at hl8
    obtain ⟨y1, y2⟩ := hy r.length (by simp only [List.length_cons]; omega)
    rw [rowAt_s] at y1
    rw [hourAt_s] at y2
    have z1 : μ 14 (8 * h + s) = nI (hgG D E g s h).1 := (hM.2.2 h h20 s hs).1
    have lH := hH s h
    have f1 := f_readOn hw hE hl hM (hour := h + 1) (high := (hgG D E g s h).1) (k := k) (by omega) (by omega) (by omega)
    rw [if_pos hk] at f1
    have f1' : f_X11_readOn [vR 0, vI (nI (h + 1)), vI (nI (hgG D E g s h).1), vI (nI k)] μ = some (some (vI (oI (nxH D t (hgG D E g) ((s, h) :: r) k))), μ) := f1
    simp only [List.length_cons]
    have hs : s < dn D := hs
    simp (disch := first | omega | assumption | exact Or.inl rfl | exact Or.inr rfl | exact bI_ok _) [v_bd, mp_s, v_en, v_k, v_li, li_s, v_ll, ll_s, v_lr, lr_s, v_eu, v_ku, v_eb, v_kb1, v_kb2, v_ec, kc_t, kc_f, v_bz, kz_I, v_b2, v_k21, k22_I, v_and, kan_t, kan_f, v_or, kor_t, kor_f, v_not, v_knt, v_a0, v_a1, v_ka1, v_ka2, v_ek, v_kk, kkr_s, v_sk, v_ks, ksr_s, v_pop, kpop_I, kase_s, v_as, v_kas, v_inc, kme_s, v_pf, v_kpf1, v_kpf2, v_po, v_kpo1, v_kpo2, v_kpo3, v_kpo4, v_ia, v_kia1, v_kia2, v_kia3, v_io, v_kio1, v_kio2, v_kio3, v_kio4, v_kio5, v_s0, v_sq, sqk_l, sqk_r, v_if, kif_t, kif_f, v_no, nok_r, v_bk, bkk_l, bkk_r, v_rtI, krI_s, v_rtL, krL_s, v_rv, v_sw, ksw_I, ksw2_s, v_fn, fnl_t, fnk_r, fnr_t, nr_I, nr_L, nr_n, nr_b, nr_0, nr_1, nr_R, v_cl, v_cs, clk_t, m2_I, m1_I, v_si, v_sr, sik_t, v_sl, slk_t, v_oinc, inck_s, se_0, se_n, se_s, v_nl, v_nl0, nlo_I, nlo_R, nlo_U, nlo_n, v_ii, v_jj, v_ji, v_jc, v_iz, v_iu, v_i2l, c0_eq, c0_ne, c0_lt, c0_ge, c0_gt, c0_le, c2_eq, c2_ne, c2_lt, c2_ge, c2_gt, c2_le, en_n, en_I, en_R, en_L, List.getElem?_cons_zero, List.getElem?_cons_succ, List.getElem?_nil, List.length_cons, List.length_nil, List.take_succ_cons, List.take_zero, List.cons_append, List.nil_append, nI_lit, nN_lit, nI_eq, nI_ltI, nI_leI, nI_add, pk_mul, pk_sub, nI_eN, nN_eI, nN_ltI, nN_leI, nI_ltN, nI_leN, nN_nN, nN_leN, bI_e0, bI_e1, bt_shr, nI_sub_lt, ntT, ntF, nlT, nlF, neT, neF, gv_M_0_25, lv_M_21, y2, gv_M_0_24, lv_M_20, y1, gv_M_0_17, lv_M_14, z1, ck_M_0, f1']
theorem f_keepsTour {s h : Nat} {r b : Row} {μ : am_M} (hr : r.length < 8) (hh : h < 20) (hb8 : b.length ≤ 8) (hb20 : lh b < 20) (he : enM b μ) (hy : wyM ((s, h) :: r) μ) : ∃ μ', f_X11_keepsTour [vR 0, vI (nI (r.length + 1))] μ = some (none, μ') ∧ enM (keepR ((s, h) :: r) b) μ' ∧ Fm (fun a b => (a = 0 ∧ (b = 27 ∨ b = 28)) ∨ a = 22) μ μ' := by
  obtain ⟨x0, x1, x2⟩ := id he
  obtain ⟨y1, y2⟩ := hy r.length (by simp only [List.length_cons]; omega)
  rw [hourAt_s] at y2
  unfold f_X11_keepsTour g_X11_keepsTour
  generalize hc1 : (b_2 .lt (e_li 3) (e_li 1)) = c1; generalize hb1 : (s_sq (s_ia ShM (e_gf ShM 11 26 (e_lr 0)) (e_li 3) (e_ald ShM (e_gf ShM 11 24 (e_lr 0)) (e_li 3))) (s_inc 4 3 1)) = b1
  have key := lp_inv (c := c1) (b := b1) (fun i e μ' => e = [vR 0, vI (nI (r.length + 1)), vI (nI h), vI (nI i)] ∧ (∀ u, u < i → μ' 22 u = nI (rowAt ((s, h) :: r) u)) ∧ Fr (fun a => a = 22) (am_up (am_up μ 0 27 (nI (r.length + 1))) 0 28 (nI h)) μ') (r.length + 1) ?_ ?_ (r.length + 1) 0 _ (am_up (am_up μ 0 27 (nI (r.length + 1))) 0 28 (nI h)) (by omega) ⟨rfl, fun u hu => by omega, Fr.rf⟩
  · obtain ⟨e', μ2, g1, rfl, g2, g3⟩ := key
    by_cases hb : better ((s, h) :: r) b = true
    · have hk : keepR ((s, h) :: r) b = (s, h) :: r := by unfold keepR; rw [if_pos hb]
      rw [hk]
      refine ⟨μ2, ?_, ⟨?_, ?_, fun i hi => g2 i (by simpa using hi)⟩, fun a b' hab => ?_⟩
      · rcases better_iff.mp hb with h1 | ⟨h1, h2⟩
        · simp only [List.length_cons] at h1
          simp (disch := first | omega | assumption | exact Or.inl rfl | exact Or.inr rfl | exact bI_ok _) [v_bd, mp_s, v_en, v_k, v_li, li_s, v_ll, ll_s, v_lr, lr_s, v_eu, v_ku, v_eb, v_kb1, v_kb2, v_ec, kc_t, kc_f, v_bz, kz_I, v_b2, v_k21, k22_I, v_and, kan_t, kan_f, v_or, kor_t, kor_f, v_not, v_knt, v_a0, v_a1, v_ka1, v_ka2, v_ek, v_kk, kkr_s, v_sk, v_ks, ksr_s, v_pop, kpop_I, kase_s, v_as, v_kas, v_inc, kme_s, v_pf, v_kpf1, v_kpf2, v_po, v_kpo1, v_kpo2, v_kpo3, v_kpo4, v_ia, v_kia1, v_kia2, v_kia3, v_io, v_kio1, v_kio2, v_kio3, v_kio4, v_kio5, v_s0, v_sq, sqk_l, sqk_r, v_if, kif_t, kif_f, v_no, nok_r, v_bk, bkk_l, bkk_r, v_rtI, krI_s, v_rtL, krL_s, v_rv, v_sw, ksw_I, ksw2_s, v_fn, fnl_t, fnk_r, fnr_t, nr_I, nr_L, nr_n, nr_b, nr_0, nr_1, nr_R, v_cl, v_cs, clk_t, m2_I, m1_I, v_si, v_sr, sik_t, v_sl, slk_t, v_oinc, inck_s, se_0, se_n, se_s, v_nl, v_nl0, nlo_I, nlo_R, nlo_U, nlo_n, v_ii, v_jj, v_ji, v_jc, v_iz, v_iu, v_i2l, c0_eq, c0_ne, c0_lt, c0_ge, c0_gt, c0_le, c2_eq, c2_ne, c2_lt, c2_ge, c2_gt, c2_le, en_n, en_I, en_R, en_L, List.getElem?_cons_zero, List.getElem?_cons_succ, List.getElem?_nil, List.length_cons, List.length_nil, List.take_succ_cons, List.take_zero, List.cons_append, List.nil_append, nI_lit, nN_lit, nI_eq, nI_ltI, nI_leI, nI_add, pk_mul, pk_sub, nI_eN, nN_eI, nN_ltI, nN_leI, nI_ltN, nI_leN, nN_nN, nN_leN, bI_e0, bI_e1, bt_shr, nI_sub_lt, ntT, ntF, nlT, nlF, neT, neF, gv_M_0_25, lv_M_21, y2, gv_M_0_27, x0, h1, pv_M_0_27, pv_M_0_28, g1]
        · simp only [List.length_cons] at h1
          rw [lh_c] at h2
          rw [lastH_ne (by omega), oI_s] at x1
          rw [← h1] at x0
          have h2 : h < lh b := h2
          simp (disch := first | omega | assumption | exact Or.inl rfl | exact Or.inr rfl | exact bI_ok _) [v_bd, mp_s, v_en, v_k, v_li, li_s, v_ll, ll_s, v_lr, lr_s, v_eu, v_ku, v_eb, v_kb1, v_kb2, v_ec, kc_t, kc_f, v_bz, kz_I, v_b2, v_k21, k22_I, v_and, kan_t, kan_f, v_or, kor_t, kor_f, v_not, v_knt, v_a0, v_a1, v_ka1, v_ka2, v_ek, v_kk, kkr_s, v_sk, v_ks, ksr_s, v_pop, kpop_I, kase_s, v_as, v_kas, v_inc, kme_s, v_pf, v_kpf1, v_kpf2, v_po, v_kpo1, v_kpo2, v_kpo3, v_kpo4, v_ia, v_kia1, v_kia2, v_kia3, v_io, v_kio1, v_kio2, v_kio3, v_kio4, v_kio5, v_s0, v_sq, sqk_l, sqk_r, v_if, kif_t, kif_f, v_no, nok_r, v_bk, bkk_l, bkk_r, v_rtI, krI_s, v_rtL, krL_s, v_rv, v_sw, ksw_I, ksw2_s, v_fn, fnl_t, fnk_r, fnr_t, nr_I, nr_L, nr_n, nr_b, nr_0, nr_1, nr_R, v_cl, v_cs, clk_t, m2_I, m1_I, v_si, v_sr, sik_t, v_sl, slk_t, v_oinc, inck_s, se_0, se_n, se_s, v_nl, v_nl0, nlo_I, nlo_R, nlo_U, nlo_n, v_ii, v_jj, v_ji, v_jc, v_iz, v_iu, v_i2l, c0_eq, c0_ne, c0_lt, c0_ge, c0_gt, c0_le, c2_eq, c2_ne, c2_lt, c2_ge, c2_gt, c2_le, en_n, en_I, en_R, en_L, List.getElem?_cons_zero, List.getElem?_cons_succ, List.getElem?_nil, List.length_cons, List.length_nil, List.take_succ_cons, List.take_zero, List.cons_append, List.nil_append, nI_lit, nN_lit, nI_eq, nI_ltI, nI_leI, nI_add, pk_mul, pk_sub, nI_eN, nN_eI, nN_ltI, nN_leI, nI_ltN, nI_leN, nN_nN, nN_leN, bI_e0, bI_e1, bt_shr, nI_sub_lt, ntT, ntF, nlT, nlF, neT, neF, gv_M_0_25, lv_M_21, y2, gv_M_0_27, x0, gv_M_0_28, x1, h2, pv_M_0_27, pv_M_0_28, g1]
      · rw [g3 _ _ (by omega), am_up_ne _ _ (by omega), am_up_eq]; rfl
      · rw [g3 _ _ (by omega), am_up_eq]; rfl
      · rw [g3 _ _ (by omega), am_up_ne _ _ (by omega), am_up_ne _ _ (by omega)]
    · have hb' : better ((s, h) :: r) b = false := by simpa using hb
      rw [keep_no hb']
      refine ⟨μ, ?_, he, Fm.rf⟩
      have h1 := better_no.mp hb'
      rw [lh_c] at h1
      simp only [List.length_cons] at h1
      by_cases h2 : r.length + 1 = b.length
      · rw [lastH_ne (by omega), oI_s] at x1
        rw [← h2] at x0
        have h3 : ¬ h < lh b := fun h9 => h1 (Or.inr ⟨h2, h9⟩)
        simp (disch := first | omega | assumption | exact Or.inl rfl | exact Or.inr rfl | exact bI_ok _) [v_bd, mp_s, v_en, v_k, v_li, li_s, v_ll, ll_s, v_lr, lr_s, v_eu, v_ku, v_eb, v_kb1, v_kb2, v_ec, kc_t, kc_f, v_bz, kz_I, v_b2, v_k21, k22_I, v_and, kan_t, kan_f, v_or, kor_t, kor_f, v_not, v_knt, v_a0, v_a1, v_ka1, v_ka2, v_ek, v_kk, kkr_s, v_sk, v_ks, ksr_s, v_pop, kpop_I, kase_s, v_as, v_kas, v_inc, kme_s, v_pf, v_kpf1, v_kpf2, v_po, v_kpo1, v_kpo2, v_kpo3, v_kpo4, v_ia, v_kia1, v_kia2, v_kia3, v_io, v_kio1, v_kio2, v_kio3, v_kio4, v_kio5, v_s0, v_sq, sqk_l, sqk_r, v_if, kif_t, kif_f, v_no, nok_r, v_bk, bkk_l, bkk_r, v_rtI, krI_s, v_rtL, krL_s, v_rv, v_sw, ksw_I, ksw2_s, v_fn, fnl_t, fnk_r, fnr_t, nr_I, nr_L, nr_n, nr_b, nr_0, nr_1, nr_R, v_cl, v_cs, clk_t, m2_I, m1_I, v_si, v_sr, sik_t, v_sl, slk_t, v_oinc, inck_s, se_0, se_n, se_s, v_nl, v_nl0, nlo_I, nlo_R, nlo_U, nlo_n, v_ii, v_jj, v_ji, v_jc, v_iz, v_iu, v_i2l, c0_eq, c0_ne, c0_lt, c0_ge, c0_gt, c0_le, c2_eq, c2_ne, c2_lt, c2_ge, c2_gt, c2_le, en_n, en_I, en_R, en_L, List.getElem?_cons_zero, List.getElem?_cons_succ, List.getElem?_nil, List.length_cons, List.length_nil, List.take_succ_cons, List.take_zero, List.cons_append, List.nil_append, nI_lit, nN_lit, nI_eq, nI_ltI, nI_leI, nI_add, pk_mul, pk_sub, nI_eN, nN_eI, nN_ltI, nN_leI, nI_ltN, nI_leN, nN_nN, nN_leN, bI_e0, bI_e1, bt_shr, nI_sub_lt, ntT, ntF, nlT, nlF, neT, neF, gv_M_0_25, lv_M_21, y2, gv_M_0_27, x0, gv_M_0_28, x1, h3]
      · have h3 : ¬ b.length < r.length + 1 := fun h9 => h1 (Or.inl h9)
        simp (disch := first | omega | assumption | exact Or.inl rfl | exact Or.inr rfl | exact bI_ok _) [v_bd, mp_s, v_en, v_k, v_li, li_s, v_ll, ll_s, v_lr, lr_s, v_eu, v_ku, v_eb, v_kb1, v_kb2, v_ec, kc_t, kc_f, v_bz, kz_I, v_b2, v_k21, k22_I, v_and, kan_t, kan_f, v_or, kor_t, kor_f, v_not, v_knt, v_a0, v_a1, v_ka1, v_ka2, v_ek, v_kk, kkr_s, v_sk, v_ks, ksr_s, v_pop, kpop_I, kase_s, v_as, v_kas, v_inc, kme_s, v_pf, v_kpf1, v_kpf2, v_po, v_kpo1, v_kpo2, v_kpo3, v_kpo4, v_ia, v_kia1, v_kia2, v_kia3, v_io, v_kio1, v_kio2, v_kio3, v_kio4, v_kio5, v_s0, v_sq, sqk_l, sqk_r, v_if, kif_t, kif_f, v_no, nok_r, v_bk, bkk_l, bkk_r, v_rtI, krI_s, v_rtL, krL_s, v_rv, v_sw, ksw_I, ksw2_s, v_fn, fnl_t, fnk_r, fnr_t, nr_I, nr_L, nr_n, nr_b, nr_0, nr_1, nr_R, v_cl, v_cs, clk_t, m2_I, m1_I, v_si, v_sr, sik_t, v_sl, slk_t, v_oinc, inck_s, se_0, se_n, se_s, v_nl, v_nl0, nlo_I, nlo_R, nlo_U, nlo_n, v_ii, v_jj, v_ji, v_jc, v_iz, v_iu, v_i2l, c0_eq, c0_ne, c0_lt, c0_ge, c0_gt, c0_le, c2_eq, c2_ne, c2_lt, c2_ge, c2_gt, c2_le, en_n, en_I, en_R, en_L, List.getElem?_cons_zero, List.getElem?_cons_succ, List.getElem?_nil, List.length_cons, List.length_nil, List.take_succ_cons, List.take_zero, List.cons_append, List.nil_append, nI_lit, nN_lit, nI_eq, nI_ltI, nI_leI, nI_add, pk_mul, pk_sub, nI_eN, nN_eI, nN_ltI, nN_leI, nI_ltN, nI_leN, nN_nN, nN_leN, bI_e0, bI_e1, bt_shr, nI_sub_lt, ntT, ntF, nlT, nlF, neT, neF, gv_M_0_25, lv_M_21, y2, gv_M_0_27, x0, h2, h3]
  · rintro i e μ2 hi ⟨rfl, i2, i3⟩
    subst hc1 hb1
    have z1 : μ2 20 i = nI (rowAt ((s, h) :: r) i) := by rw [i3 _ _ (by omega), am_up_ne _ _ (by omega), am_up_ne _ _ (by omega)]; exact (hy i (by simpa using hi)).1
    refine ⟨by simp (disch := first | omega | assumption | exact Or.inl rfl | exact Or.inr rfl | exact bI_ok _) [v_bd, mp_s, v_en, v_k, v_li, li_s, v_ll, ll_s, v_lr, lr_s, v_eu, v_ku, v_eb, v_kb1, v_kb2, v_ec, kc_t, kc_f, v_bz, kz_I, v_b2, v_k21, k22_I, v_and, kan_t, kan_f, v_or, kor_t, kor_f, v_not, v_knt, v_a0, v_a1, v_ka1, v_ka2, v_ek, v_kk, kkr_s, v_sk, v_ks, ksr_s, v_pop, kpop_I, kase_s, v_as, v_kas, v_inc, kme_s, v_pf, v_kpf1, v_kpf2, v_po, v_kpo1, v_kpo2, v_kpo3, v_kpo4, v_ia, v_kia1, v_kia2, v_kia3, v_io, v_kio1, v_kio2, v_kio3, v_kio4, v_kio5, v_s0, v_sq, sqk_l, sqk_r, v_if, kif_t, kif_f, v_no, nok_r, v_bk, bkk_l, bkk_r, v_rtI, krI_s, v_rtL, krL_s, v_rv, v_sw, ksw_I, ksw2_s, v_fn, fnl_t, fnk_r, fnr_t, nr_I, nr_L, nr_n, nr_b, nr_0, nr_1, nr_R, v_cl, v_cs, clk_t, m2_I, m1_I, v_si, v_sr, sik_t, v_sl, slk_t, v_oinc, inck_s, se_0, se_n, se_s, v_nl, v_nl0, nlo_I, nlo_R, nlo_U, nlo_n, v_ii, v_jj, v_ji, v_jc, v_iz, v_iu, v_i2l, c0_eq, c0_ne, c0_lt, c0_ge, c0_gt, c0_le, c2_eq, c2_ne, c2_lt, c2_ge, c2_gt, c2_le, en_n, en_I, en_R, en_L, List.getElem?_cons_zero, List.getElem?_cons_succ, List.getElem?_nil, List.length_cons, List.length_nil, List.take_succ_cons, List.take_zero, List.cons_append, List.nil_append, nI_lit, nN_lit, nI_eq, nI_ltI, nI_leI, nI_add, pk_mul, pk_sub, nI_eN, nN_eI, nN_ltI, nN_leI, nI_ltN, nI_leN, nN_nN, nN_leN, bI_e0, bI_e1, bt_shr, nI_sub_lt, ntT, ntF, nlT, nlF, neT, neF, ], _, am_up μ2 22 i (nI (rowAt ((s, h) :: r) i)), by simp (disch := first | omega | assumption | exact Or.inl rfl | exact Or.inr rfl | exact bI_ok _) [v_bd, mp_s, v_en, v_k, v_li, li_s, v_ll, ll_s, v_lr, lr_s, v_eu, v_ku, v_eb, v_kb1, v_kb2, v_ec, kc_t, kc_f, v_bz, kz_I, v_b2, v_k21, k22_I, v_and, kan_t, kan_f, v_or, kor_t, kor_f, v_not, v_knt, v_a0, v_a1, v_ka1, v_ka2, v_ek, v_kk, kkr_s, v_sk, v_ks, ksr_s, v_pop, kpop_I, kase_s, v_as, v_kas, v_inc, kme_s, v_pf, v_kpf1, v_kpf2, v_po, v_kpo1, v_kpo2, v_kpo3, v_kpo4, v_ia, v_kia1, v_kia2, v_kia3, v_io, v_kio1, v_kio2, v_kio3, v_kio4, v_kio5, v_s0, v_sq, sqk_l, sqk_r, v_if, kif_t, kif_f, v_no, nok_r, v_bk, bkk_l, bkk_r, v_rtI, krI_s, v_rtL, krL_s, v_rv, v_sw, ksw_I, ksw2_s, v_fn, fnl_t, fnk_r, fnr_t, nr_I, nr_L, nr_n, nr_b, nr_0, nr_1, nr_R, v_cl, v_cs, clk_t, m2_I, m1_I, v_si, v_sr, sik_t, v_sl, slk_t, v_oinc, inck_s, se_0, se_n, se_s, v_nl, v_nl0, nlo_I, nlo_R, nlo_U, nlo_n, v_ii, v_jj, v_ji, v_jc, v_iz, v_iu, v_i2l, c0_eq, c0_ne, c0_lt, c0_ge, c0_gt, c0_le, c2_eq, c2_ne, c2_lt, c2_ge, c2_gt, c2_le, en_n, en_I, en_R, en_L, List.getElem?_cons_zero, List.getElem?_cons_succ, List.getElem?_nil, List.length_cons, List.length_nil, List.take_succ_cons, List.take_zero, List.cons_append, List.nil_append, nI_lit, nN_lit, nI_eq, nI_ltI, nI_leI, nI_add, pk_mul, pk_sub, nI_eN, nN_eI, nN_ltI, nN_leI, nI_ltN, nI_leN, nN_nN, nN_leN, bI_e0, bI_e1, bt_shr, nI_sub_lt, ntT, ntF, nlT, nlF, neT, neF, gv_M_0_26, gv_M_0_24, lv_M_20, z1, wv_M_22], rfl, fun u hu => ?_, i3.up rfl⟩
    by_cases e : u = i
    · rw [e, am_up_eq]
    · rw [am_up_ne _ _ (by omega)]; exact i2 u (by omega)
  · rintro e μ2 ⟨rfl, i2, i3⟩
    subst hc1
    simp (disch := first | omega | assumption | exact Or.inl rfl | exact Or.inr rfl | exact bI_ok _) [v_bd, mp_s, v_en, v_k, v_li, li_s, v_ll, ll_s, v_lr, lr_s, v_eu, v_ku, v_eb, v_kb1, v_kb2, v_ec, kc_t, kc_f, v_bz, kz_I, v_b2, v_k21, k22_I, v_and, kan_t, kan_f, v_or, kor_t, kor_f, v_not, v_knt, v_a0, v_a1, v_ka1, v_ka2, v_ek, v_kk, kkr_s, v_sk, v_ks, ksr_s, v_pop, kpop_I, kase_s, v_as, v_kas, v_inc, kme_s, v_pf, v_kpf1, v_kpf2, v_po, v_kpo1, v_kpo2, v_kpo3, v_kpo4, v_ia, v_kia1, v_kia2, v_kia3, v_io, v_kio1, v_kio2, v_kio3, v_kio4, v_kio5, v_s0, v_sq, sqk_l, sqk_r, v_if, kif_t, kif_f, v_no, nok_r, v_bk, bkk_l, bkk_r, v_rtI, krI_s, v_rtL, krL_s, v_rv, v_sw, ksw_I, ksw2_s, v_fn, fnl_t, fnk_r, fnr_t, nr_I, nr_L, nr_n, nr_b, nr_0, nr_1, nr_R, v_cl, v_cs, clk_t, m2_I, m1_I, v_si, v_sr, sik_t, v_sl, slk_t, v_oinc, inck_s, se_0, se_n, se_s, v_nl, v_nl0, nlo_I, nlo_R, nlo_U, nlo_n, v_ii, v_jj, v_ji, v_jc, v_iz, v_iu, v_i2l, c0_eq, c0_ne, c0_lt, c0_ge, c0_gt, c0_le, c2_eq, c2_ne, c2_lt, c2_ge, c2_gt, c2_le, en_n, en_I, en_R, en_L, List.getElem?_cons_zero, List.getElem?_cons_succ, List.getElem?_nil, List.length_cons, List.length_nil, List.take_succ_cons, List.take_zero, List.cons_append, List.nil_append, nI_lit, nN_lit, nI_eq, nI_ltI, nI_leI, nI_add, pk_mul, pk_sub, nI_eN, nN_eI, nN_ltI, nN_leI, nI_ltN, nI_leN, nN_nN, nN_leN, bI_e0, bI_e1, bt_shr, nI_sub_lt, ntT, ntF, nlT, nlF, neT, neF, ]
theorem bt_xor (x y : Int32) (k : Nat) : bt (x ^^^ y) k = (bt x k ^^ bt y k) := by simp [bt]
theorem bt_N {k : Nat} (hk : k < 32) : bt nN k = true := by
  have h : ∀ k : Fin 32, bt nN k.1 = true := by decide
  exact h ⟨k, hk⟩
theorem setN_pop {r : Row} {s : Nat} (hs : s < 8) (hu : usedR r s = false) (h : Nat) : nI (setN ((s, h) :: r)) &&& ((nI 1 <<< (nI s &&& nI 31)) ^^^ nN) = nI (setN r) := by
  refine bt_ext (fun k hk => ?_)
  rw [bt_and, bt_xor, bt_N hk, bt_shl (by omega) hk, bt_nI _ hk, bt_nI _ hk]
  show ((setN r ||| 2 ^ s).testBit k && _) = _
  rw [Nat.testBit_or, Nat.testBit_two_pow]
  by_cases e : k = s
  · subst e
    rw [setN_bt, hu]
    simp
  · rw [decide_eq_false e, decide_eq_false (fun h9 => e h9.symm)]
    simp
def fk (g : Nat → Row → Row) : Nat → Nat → Row → Row
  | _, 0, b => b
  | k, d + 1, b => fk g (k + 1) d (g k b)
theorem fk_fd (g : Nat → Row → Row) : ∀ d k b, fk g k d (fd g k b) = fd g (k + d) b
  | 0, k, b => rfl
  | d + 1, k, b => by
    show fk g (k + 1) d (g k (fd g k b)) = _
    rw [← fd_s g, fk_fd g d (k + 1) b, show k + 1 + d = k + (d + 1) by omega]
theorem wyM.kept {r : Row} {μ μ' : am_M} (h : wyM r μ) (k : ∀ a b, a = 20 ∨ a = 21 → b < r.length → μ' a b = μ a b) : wyM r μ' := fun i hi => ⟨by rw [k _ _ (by omega) hi]; exact (h i hi).1, by rw [k _ _ (by omega) hi]; exact (h i hi).2⟩
theorem ref_run {D : Dd} {E : List Ev} {g : Nat → Bool} {t : Nat → Nat} {c1 : am_B} {b1 : am_T} (hc1 : (b_z .ge (e_li 2)) = c1) (hb1 : (s_bk (s_sq (s_as (o_si 5 4) (e_c (b_and (b_2 .lt (e_li 3) (e_gf ShM 11 7 (e_lr 0))) (b_not (b_z .ne (e_k (am_cs 2 f_X11_isIn) (a_1 (e_li 1) (a_1 (e_li 3) a_0)))))) (e_k (am_cl ShM 11 2 f_X11_nextHour) (a_1 (e_lr 0) (a_1 (e_li 2) (a_1 (e_li 3) a_0)))) (e_i (-1)))) (s_if (b_2 .ne (e_li 4) (e_i (-1))) (s_sq (s_ia ShM (e_gf ShM 11 24 (e_lr 0)) (e_li 2) (e_li 3)) (s_sq (s_ia ShM (e_gf ShM 11 25 (e_lr 0)) (e_li 2) (e_li 4)) (s_sq (s_as (o_si 5 1) (e_b o_ior (e_li 1) (e_b o_ishl (e_i 1) (e_li 3)))) (s_sq (s_inc 5 2 1) (s_sq (s_k (am_cl ShM 11 1 f_X11_keepsTour) (a_1 (e_lr 0) (a_1 (e_li 2) a_0))) (s_as (o_si 5 3) (e_i 0))))))) (s_if (b_2 .lt (e_li 3) (e_gf ShM 11 7 (e_lr 0))) (s_inc 5 3 1) (s_sq (s_inc 5 2 (-1)) (s_if (b_z .ge (e_li 2)) (s_sq (s_as (o_si 5 1) (e_b o_iand (e_li 1) (e_b o_ixor (e_b o_ishl (e_i 1) (e_ald ShM (e_gf ShM 11 24 (e_lr 0)) (e_li 2))) (e_i (-1))))) (s_as (o_si 5 3) (e_b o_iadd (e_ald ShM (e_gf ShM 11 24 (e_lr 0)) (e_li 2)) (e_i 1)))) s_0)))))) = b1) (hw : wfD D) (hE : wfE E) (hl : ∀ h, t h < 10) : ∀ (N f : Nat) (r : Row) (d k : Nat) (b : Row) (μ : am_M), f * 10 + d < N → r.length + f = 8 → vx D t (hgG D E g) [] r → k + d = dn D → vx D t (hgG D E g) [] b → wyM r μ → enM b μ → Ms D E g t μ →
    ∃ μ', s_lp c1 b1 [vR 0, vI (nI (setN r)), vI (nI r.length), vI (nI k)] μ = s_lp c1 b1 [vR 0, vI (nI (setN r)), vI (nI r.length), vI (nI (dn D))] μ' ∧ vx D t (hgG D E g) [] (fk (fun s b => stR D t (hgG D E g) f r s b) k d b) ∧ wyM r μ' ∧ enM (fk (fun s b => stR D t (hgG D E g) f r s b) k d b) μ' ∧ Fm cT μ μ'
  | 0, f, r, d, k, b, μ, hN, hf, hr, hk, hb, hy, he, hM => absurd hN (Nat.not_lt_zero _)
  | N + 1, f, r, 0, k, b, μ, hN, hf, hr, hk, hb, hy, he, hM => ⟨μ, by rw [show k = dn D by omega], hb, hy, he, Fm.rf⟩
  | N + 1, f, r, d + 1, k, b, μ, hN, hf, hr, hk, hb, hy, he, hM => by
    have w0 := hw.1
    have sr := setN_lt w0 r hr
    have y7 := hM.1.1
    have lr := vx_le hr
    have c0 : c1 [vR 0, vI (nI (setN r)), vI (nI r.length), vI (nI k)] μ = some (true, μ) := by
      subst hc1
      simp (disch := first | omega | assumption | exact Or.inl rfl | exact Or.inr rfl | exact bI_ok _) [v_bd, mp_s, v_en, v_k, v_li, li_s, v_ll, ll_s, v_lr, lr_s, v_eu, v_ku, v_eb, v_kb1, v_kb2, v_ec, kc_t, kc_f, v_bz, kz_I, v_b2, v_k21, k22_I, v_and, kan_t, kan_f, v_or, kor_t, kor_f, v_not, v_knt, v_a0, v_a1, v_ka1, v_ka2, v_ek, v_kk, kkr_s, v_sk, v_ks, ksr_s, v_pop, kpop_I, kase_s, v_as, v_kas, v_inc, kme_s, v_pf, v_kpf1, v_kpf2, v_po, v_kpo1, v_kpo2, v_kpo3, v_kpo4, v_ia, v_kia1, v_kia2, v_kia3, v_io, v_kio1, v_kio2, v_kio3, v_kio4, v_kio5, v_s0, v_sq, sqk_l, sqk_r, v_if, kif_t, kif_f, v_no, nok_r, v_bk, bkk_l, bkk_r, v_rtI, krI_s, v_rtL, krL_s, v_rv, v_sw, ksw_I, ksw2_s, v_fn, fnl_t, fnk_r, fnr_t, nr_I, nr_L, nr_n, nr_b, nr_0, nr_1, nr_R, v_cl, v_cs, clk_t, m2_I, m1_I, v_si, v_sr, sik_t, v_sl, slk_t, v_oinc, inck_s, se_0, se_n, se_s, v_nl, v_nl0, nlo_I, nlo_R, nlo_U, nlo_n, v_ii, v_jj, v_ji, v_jc, v_iz, v_iu, v_i2l, c0_eq, c0_ne, c0_lt, c0_ge, c0_gt, c0_le, c2_eq, c2_ne, c2_lt, c2_ge, c2_gt, c2_le, en_n, en_I, en_R, en_L, List.getElem?_cons_zero, List.getElem?_cons_succ, List.getElem?_nil, List.length_cons, List.length_nil, List.take_succ_cons, List.take_zero, List.cons_append, List.nil_append, nI_lit, nN_lit, nI_eq, nI_ltI, nI_leI, nI_add, pk_mul, pk_sub, nI_eN, nN_eI, nN_ltI, nN_leI, nI_ltN, nI_leN, nN_nN, nN_leN, bI_e0, bI_e1, bt_shr, nI_sub_lt, ntT, ntF, nlT, nlF, neT, neF, ]
    have f0 := f_isIn (nI (setN r)) (k := k) (by omega) μ
    rw [bt_nI _ (by omega), setN_bt] at f0
    have skip : stR D t (hgG D E g) f r k b = b → b1 [vR 0, vI (nI (setN r)), vI (nI r.length), vI (nI k)] μ = some (.inl ([vR 0, vI (nI (setN r)), vI (nI r.length), vI (nI (k + 1))], μ)) → ∃ μ', s_lp c1 b1 [vR 0, vI (nI (setN r)), vI (nI r.length), vI (nI k)] μ = s_lp c1 b1 [vR 0, vI (nI (setN r)), vI (nI r.length), vI (nI (dn D))] μ' ∧ vx D t (hgG D E g) [] (fk (fun s b => stR D t (hgG D E g) f r s b) k (d + 1) b) ∧ wyM r μ' ∧ enM (fk (fun s b => stR D t (hgG D E g) f r s b) k (d + 1) b) μ' ∧ Fm cT μ μ' := by
      intro e1 e2
      obtain ⟨μ', i1, i2, i3, i4, i5⟩ := ref_run hc1 hb1 hw hE hl N f r d (k + 1) b μ (by omega) hf hr (by omega) hb hy he hM
      refine ⟨μ', ?_, ?_, i3, ?_, i5⟩
      · rw [bt_c c0, e2]
        exact i1
      · show vx D t (hgG D E g) [] (fk _ (k + 1) d (stR D t (hgG D E g) f r k b))
        rw [e1]
        exact i2
      · show enM (fk _ (k + 1) d (stR D t (hgG D E g) f r k b)) μ'
        rw [e1]
        exact i4
    cases hu : usedR r k
    · rw [hu] at f0
      have f1 := f_nextHour hw hE hl hM hr hy (k := k) (by omega)
      cases hn : nxH D t (hgG D E g) r k with
      | none =>
        rw [hn, oI_n] at f1
        refine skip (st_none hn) ?_
        subst hb1
        simp (disch := first | omega | assumption | exact Or.inl rfl | exact Or.inr rfl | exact bI_ok _) [v_bd, mp_s, v_en, v_k, v_li, li_s, v_ll, ll_s, v_lr, lr_s, v_eu, v_ku, v_eb, v_kb1, v_kb2, v_ec, kc_t, kc_f, v_bz, kz_I, v_b2, v_k21, k22_I, v_and, kan_t, kan_f, v_or, kor_t, kor_f, v_not, v_knt, v_a0, v_a1, v_ka1, v_ka2, v_ek, v_kk, kkr_s, v_sk, v_ks, ksr_s, v_pop, kpop_I, kase_s, v_as, v_kas, v_inc, kme_s, v_pf, v_kpf1, v_kpf2, v_po, v_kpo1, v_kpo2, v_kpo3, v_kpo4, v_ia, v_kia1, v_kia2, v_kia3, v_io, v_kio1, v_kio2, v_kio3, v_kio4, v_kio5, v_s0, v_sq, sqk_l, sqk_r, v_if, kif_t, kif_f, v_no, nok_r, v_bk, bkk_l, bkk_r, v_rtI, krI_s, v_rtL, krL_s, v_rv, v_sw, ksw_I, ksw2_s, v_fn, fnl_t, fnk_r, fnr_t, nr_I, nr_L, nr_n, nr_b, nr_0, nr_1, nr_R, v_cl, v_cs, clk_t, m2_I, m1_I, v_si, v_sr, sik_t, v_sl, slk_t, v_oinc, inck_s, se_0, se_n, se_s, v_nl, v_nl0, nlo_I, nlo_R, nlo_U, nlo_n, v_ii, v_jj, v_ji, v_jc, v_iz, v_iu, v_i2l, c0_eq, c0_ne, c0_lt, c0_ge, c0_gt, c0_le, c2_eq, c2_ne, c2_lt, c2_ge, c2_gt, c2_le, en_n, en_I, en_R, en_L, List.getElem?_cons_zero, List.getElem?_cons_succ, List.getElem?_nil, List.length_cons, List.length_nil, List.take_succ_cons, List.take_zero, List.cons_append, List.nil_append, nI_lit, nN_lit, nI_eq, nI_ltI, nI_leI, nI_add, pk_mul, pk_sub, nI_eN, nN_eI, nN_ltI, nN_leI, nI_ltN, nI_leN, nN_nN, nN_leN, bI_e0, bI_e1, bt_shr, nI_sub_lt, ntT, ntF, nlT, nlF, neT, neF, gv_M_0_7, y7, f0, ck_M_0, f1]
      | some h =>
        rw [hn, oI_s] at f1
        have hv := vx_push hr (by omega) hu hn
        have hl9 := vx_le hv
        have h20 : h < 20 := (nxH_lt hn).1
        have sn := setN_lt w0 _ hv
        simp only [List.length_cons] at hl9
        have hf1 : f - 1 + 1 = f := by omega
        have o1 := setN_or r (s := k) (by omega) h
        have o2 := setN_pop (r := r) (s := k) (by omega) hu h
        generalize hμ1 : am_up (am_up μ 20 r.length (nI k)) 21 r.length (nI h) = μ1
        have q1 : ∀ a b, ¬ ((a = 20 ∨ a = 21) ∧ b = r.length) → μ1 a b = μ a b := fun a b h => by rw [← hμ1, am_up_ne _ _ (by omega), am_up_ne _ _ (by omega)]
        have hy1 : wyM ((k, h) :: r) μ1 := by
          intro i hi
          simp only [List.length_cons] at hi
          by_cases e : i = r.length
          · rw [e, rowAt_s, hourAt_s, ← hμ1]
            exact ⟨by rw [am_up_ne _ _ (by omega), am_up_eq], am_up_eq _ _ _ _⟩
          · rw [rowAt_lt (by omega), hourAt_lt (by omega), q1 _ _ (by omega), q1 _ _ (by omega)]
            exact hy i (by omega)
        have he1 : enM b μ1 := ⟨by rw [q1 _ _ (by omega)]; exact he.1, by rw [q1 _ _ (by omega)]; exact he.2.1, fun i hi => by rw [q1 _ _ (by omega)]; exact he.2.2 i hi⟩
        obtain ⟨μ2, k1, k2, k3⟩ := f_keepsTour (s := k) (h := h) (r := r) (b := b) (μ := μ1) (by omega) h20 (by have := vx_le hb; omega) (vx_h20 hb) he1 hy1
        have fr2 : Fm cT μ μ2 := fun a b hab => by rw [k3 _ _ (by unfold cT at hab; omega), q1 _ _ (by unfold cT at hab; omega)]
        have hM2 := hM.ct fr2
        have hy2 : wyM ((k, h) :: r) μ2 := hy1.kept (fun a b hab _ => k3 a b (by omega))
        have hb2 := vx_keep hv hb
        obtain ⟨μ3, i1, i2, i3, i4, i5⟩ := ref_run hc1 hb1 hw hE hl N (f - 1) ((k, h) :: r) (dn D) 0 _ μ2 (by omega) (by simp only [List.length_cons]; omega) hv (by omega) hb2 hy2 k2 hM2
        have e5 : fk (fun s b => stR D t (hgG D E g) (f - 1) ((k, h) :: r) s b) 0 (dn D) (keepR ((k, h) :: r) b) = stR D t (hgG D E g) f r k b := by
          rw [st_some hu hn]
          conv => rhs; rw [← hf1]
          rw [dfs_s]
          have := fk_fd (fun s b => stR D t (hgG D E g) (f - 1) ((k, h) :: r) s b) (dn D) 0 (keepR ((k, h) :: r) b)
          rw [Nat.zero_add] at this
          exact this
        rw [e5] at i2 i4
        have fr3 := fr2.tr i5
        have hM3 := hM.ct fr3
        have y7' := hM3.1.1
        have hy3 : wyM r μ3 := fun i hi => by
          have := i3 i (by simp only [List.length_cons]; omega)
          rw [rowAt_lt hi, hourAt_lt hi] at this
          exact this
        have yk : μ3 20 r.length = nI k := by
          have := (i3 r.length (by simp only [List.length_cons]; omega)).1
          rw [rowAt_s] at this
          exact this
        obtain ⟨μ4, j1, j2, j3, j4, j5⟩ := ref_run hc1 hb1 hw hE hl N f r d (k + 1) _ μ3 (by omega) hf hr (by omega) i2 hy3 i4 hM3
        refine ⟨μ4, ?_, j2, j3, j4, fr3.tr j5⟩
        simp only [List.length_cons] at i1
        generalize hNS : setN ((k, h) :: r) = NS at *
        have push : b1 [vR 0, vI (nI (setN r)), vI (nI r.length), vI (nI k)] μ = some (.inl ([vR 0, vI (nI NS), vI (nI (r.length + 1)), vI (nI 0)], μ2)) := by
          subst hb1
          simp (disch := first | omega | assumption | exact Or.inl rfl | exact Or.inr rfl | exact bI_ok _) [v_bd, mp_s, v_en, v_k, v_li, li_s, v_ll, ll_s, v_lr, lr_s, v_eu, v_ku, v_eb, v_kb1, v_kb2, v_ec, kc_t, kc_f, v_bz, kz_I, v_b2, v_k21, k22_I, v_and, kan_t, kan_f, v_or, kor_t, kor_f, v_not, v_knt, v_a0, v_a1, v_ka1, v_ka2, v_ek, v_kk, kkr_s, v_sk, v_ks, ksr_s, v_pop, kpop_I, kase_s, v_as, v_kas, v_inc, kme_s, v_pf, v_kpf1, v_kpf2, v_po, v_kpo1, v_kpo2, v_kpo3, v_kpo4, v_ia, v_kia1, v_kia2, v_kia3, v_io, v_kio1, v_kio2, v_kio3, v_kio4, v_kio5, v_s0, v_sq, sqk_l, sqk_r, v_if, kif_t, kif_f, v_no, nok_r, v_bk, bkk_l, bkk_r, v_rtI, krI_s, v_rtL, krL_s, v_rv, v_sw, ksw_I, ksw2_s, v_fn, fnl_t, fnk_r, fnr_t, nr_I, nr_L, nr_n, nr_b, nr_0, nr_1, nr_R, v_cl, v_cs, clk_t, m2_I, m1_I, v_si, v_sr, sik_t, v_sl, slk_t, v_oinc, inck_s, se_0, se_n, se_s, v_nl, v_nl0, nlo_I, nlo_R, nlo_U, nlo_n, v_ii, v_jj, v_ji, v_jc, v_iz, v_iu, v_i2l, c0_eq, c0_ne, c0_lt, c0_ge, c0_gt, c0_le, c2_eq, c2_ne, c2_lt, c2_ge, c2_gt, c2_le, en_n, en_I, en_R, en_L, List.getElem?_cons_zero, List.getElem?_cons_succ, List.getElem?_nil, List.length_cons, List.length_nil, List.take_succ_cons, List.take_zero, List.cons_append, List.nil_append, nI_lit, nN_lit, nI_eq, nI_ltI, nI_leI, nI_add, pk_mul, pk_sub, nI_eN, nN_eI, nN_ltI, nN_leI, nI_ltN, nI_leN, nN_nN, nN_leN, bI_e0, bI_e1, bt_shr, nI_sub_lt, ntT, ntF, nlT, nlF, neT, neF, gv_M_0_7, y7, f0, ck_M_0, f1, gv_M_0_24, wv_M_20, gv_M_0_25, wv_M_21, hμ1, o1, k1]
        have c3 : c1 [vR 0, vI (nI NS), vI (nI (r.length + 1)), vI (nI (dn D))] μ3 = some (true, μ3) := by
          subst hc1
          simp (disch := first | omega | assumption | exact Or.inl rfl | exact Or.inr rfl | exact bI_ok _) [v_bd, mp_s, v_en, v_k, v_li, li_s, v_ll, ll_s, v_lr, lr_s, v_eu, v_ku, v_eb, v_kb1, v_kb2, v_ec, kc_t, kc_f, v_bz, kz_I, v_b2, v_k21, k22_I, v_and, kan_t, kan_f, v_or, kor_t, kor_f, v_not, v_knt, v_a0, v_a1, v_ka1, v_ka2, v_ek, v_kk, kkr_s, v_sk, v_ks, ksr_s, v_pop, kpop_I, kase_s, v_as, v_kas, v_inc, kme_s, v_pf, v_kpf1, v_kpf2, v_po, v_kpo1, v_kpo2, v_kpo3, v_kpo4, v_ia, v_kia1, v_kia2, v_kia3, v_io, v_kio1, v_kio2, v_kio3, v_kio4, v_kio5, v_s0, v_sq, sqk_l, sqk_r, v_if, kif_t, kif_f, v_no, nok_r, v_bk, bkk_l, bkk_r, v_rtI, krI_s, v_rtL, krL_s, v_rv, v_sw, ksw_I, ksw2_s, v_fn, fnl_t, fnk_r, fnr_t, nr_I, nr_L, nr_n, nr_b, nr_0, nr_1, nr_R, v_cl, v_cs, clk_t, m2_I, m1_I, v_si, v_sr, sik_t, v_sl, slk_t, v_oinc, inck_s, se_0, se_n, se_s, v_nl, v_nl0, nlo_I, nlo_R, nlo_U, nlo_n, v_ii, v_jj, v_ji, v_jc, v_iz, v_iu, v_i2l, c0_eq, c0_ne, c0_lt, c0_ge, c0_gt, c0_le, c2_eq, c2_ne, c2_lt, c2_ge, c2_gt, c2_le, en_n, en_I, en_R, en_L, List.getElem?_cons_zero, List.getElem?_cons_succ, List.getElem?_nil, List.length_cons, List.length_nil, List.take_succ_cons, List.take_zero, List.cons_append, List.nil_append, nI_lit, nN_lit, nI_eq, nI_ltI, nI_leI, nI_add, pk_mul, pk_sub, nI_eN, nN_eI, nN_ltI, nN_leI, nI_ltN, nI_leN, nN_nN, nN_leN, bI_e0, bI_e1, bt_shr, nI_sub_lt, ntT, ntF, nlT, nlF, neT, neF, ]
        have e6 : nI (r.length + 1) + nN = nI r.length := pk_m1 _
        have pop : b1 [vR 0, vI (nI NS), vI (nI (r.length + 1)), vI (nI (dn D))] μ3 = some (.inl ([vR 0, vI (nI (setN r)), vI (nI r.length), vI (nI (k + 1))], μ3)) := by
          subst hb1
          simp (disch := first | omega | assumption | exact Or.inl rfl | exact Or.inr rfl | exact bI_ok _) [v_bd, mp_s, v_en, v_k, v_li, li_s, v_ll, ll_s, v_lr, lr_s, v_eu, v_ku, v_eb, v_kb1, v_kb2, v_ec, kc_t, kc_f, v_bz, kz_I, v_b2, v_k21, k22_I, v_and, kan_t, kan_f, v_or, kor_t, kor_f, v_not, v_knt, v_a0, v_a1, v_ka1, v_ka2, v_ek, v_kk, kkr_s, v_sk, v_ks, ksr_s, v_pop, kpop_I, kase_s, v_as, v_kas, v_inc, kme_s, v_pf, v_kpf1, v_kpf2, v_po, v_kpo1, v_kpo2, v_kpo3, v_kpo4, v_ia, v_kia1, v_kia2, v_kia3, v_io, v_kio1, v_kio2, v_kio3, v_kio4, v_kio5, v_s0, v_sq, sqk_l, sqk_r, v_if, kif_t, kif_f, v_no, nok_r, v_bk, bkk_l, bkk_r, v_rtI, krI_s, v_rtL, krL_s, v_rv, v_sw, ksw_I, ksw2_s, v_fn, fnl_t, fnk_r, fnr_t, nr_I, nr_L, nr_n, nr_b, nr_0, nr_1, nr_R, v_cl, v_cs, clk_t, m2_I, m1_I, v_si, v_sr, sik_t, v_sl, slk_t, v_oinc, inck_s, se_0, se_n, se_s, v_nl, v_nl0, nlo_I, nlo_R, nlo_U, nlo_n, v_ii, v_jj, v_ji, v_jc, v_iz, v_iu, v_i2l, c0_eq, c0_ne, c0_lt, c0_ge, c0_gt, c0_le, c2_eq, c2_ne, c2_lt, c2_ge, c2_gt, c2_le, en_n, en_I, en_R, en_L, List.getElem?_cons_zero, List.getElem?_cons_succ, List.getElem?_nil, List.length_cons, List.length_nil, List.take_succ_cons, List.take_zero, List.cons_append, List.nil_append, nI_lit, nN_lit, nI_eq, nI_ltI, nI_leI, nI_add, pk_mul, pk_sub, nI_eN, nN_eI, nN_ltI, nN_leI, nI_ltN, nI_leN, nN_nN, nN_leN, bI_e0, bI_e1, bt_shr, nI_sub_lt, ntT, ntF, nlT, nlF, neT, neF, gv_M_0_7, y7', e6, gv_M_0_24, lv_M_20, yk, o2]
        rw [bt_c c0, push]
        show s_lp c1 b1 _ μ2 = _
        rw [i1, bt_c c3, pop]
        exact j1
    · rw [hu] at f0
      refine skip (st_used hu) ?_
      subst hb1
      simp (disch := first | omega | assumption | exact Or.inl rfl | exact Or.inr rfl | exact bI_ok _) [v_bd, mp_s, v_en, v_k, v_li, li_s, v_ll, ll_s, v_lr, lr_s, v_eu, v_ku, v_eb, v_kb1, v_kb2, v_ec, kc_t, kc_f, v_bz, kz_I, v_b2, v_k21, k22_I, v_and, kan_t, kan_f, v_or, kor_t, kor_f, v_not, v_knt, v_a0, v_a1, v_ka1, v_ka2, v_ek, v_kk, kkr_s, v_sk, v_ks, ksr_s, v_pop, kpop_I, kase_s, v_as, v_kas, v_inc, kme_s, v_pf, v_kpf1, v_kpf2, v_po, v_kpo1, v_kpo2, v_kpo3, v_kpo4, v_ia, v_kia1, v_kia2, v_kia3, v_io, v_kio1, v_kio2, v_kio3, v_kio4, v_kio5, v_s0, v_sq, sqk_l, sqk_r, v_if, kif_t, kif_f, v_no, nok_r, v_bk, bkk_l, bkk_r, v_rtI, krI_s, v_rtL, krL_s, v_rv, v_sw, ksw_I, ksw2_s, v_fn, fnl_t, fnk_r, fnr_t, nr_I, nr_L, nr_n, nr_b, nr_0, nr_1, nr_R, v_cl, v_cs, clk_t, m2_I, m1_I, v_si, v_sr, sik_t, v_sl, slk_t, v_oinc, inck_s, se_0, se_n, se_s, v_nl, v_nl0, nlo_I, nlo_R, nlo_U, nlo_n, v_ii, v_jj, v_ji, v_jc, v_iz, v_iu, v_i2l, c0_eq, c0_ne, c0_lt, c0_ge, c0_gt, c0_le, c2_eq, c2_ne, c2_lt, c2_ge, c2_gt, c2_le, en_n, en_I, en_R, en_L, List.getElem?_cons_zero, List.getElem?_cons_succ, List.getElem?_nil, List.length_cons, List.length_nil, List.take_succ_cons, List.take_zero, List.cons_append, List.nil_append, nI_lit, nN_lit, nI_eq, nI_ltI, nI_leI, nI_add, pk_mul, pk_sub, nI_eN, nN_eI, nN_ltI, nN_leI, nI_ltN, nI_leN, nN_nN, nN_leN, bI_e0, bI_e1, bt_shr, nI_sub_lt, ntT, ntF, nlT, nlF, neT, neF, gv_M_0_7, y7, f0]
