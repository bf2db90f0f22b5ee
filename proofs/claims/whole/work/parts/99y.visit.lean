/-! tour: the class's search -/
theorem fd_v {D : Dd} {t : Nat → Nat} {H : Nat → Nat → Nat × Bool} {f : Nat} {r b : Row} (n : Nat) : fd (fun s b => stR D t H f r s b) (n + 1) b = stR D t H f r n (fd (fun s b => stR D t H f r s b) n b) := rfl
theorem TM_keep {D : Dd} {t : Nat → Nat} {H : Nat → Nat → Nat × Bool} {r b : Row} {μ : am_M} (h : TM D t H r b μ) {x : Row} (hx : INV D t H x b (fun a h => bt (μ 84 a) h)) (ht : ∀ i, i < x.length → μ 83 i = nI (rowAt x i)) : TM D t H x b μ := ⟨h.1, h.2.1, ht, hx⟩
theorem f_visit {D : Dd} {t : Nat → Nat} {H : Nat → Nat → Nat × Bool} (hw : wfD D) (hH : ∀ s h, (H s h).1 < 10) : ∀ (f : Nat) (r : Row) (s : Nat) (b : Row) (μ : am_M), r.length + f = 8 → vx D t H [] r → vx D t H [] b → s < dn D → usedR r s = false → TM D t H r b μ → xS 27 (dn D) D t H μ →
    ∃ μ', f_X8_visit (f + 1) [vR 81, vR 25, vI (nI s), vI (oI (nxH D t H r s)), vI (nI (setN r)), vI (nI r.length)] μ = some (none, μ') ∧ TM D t H r (stR D t H f r s b) μ' ∧ vx D t H [] (stR D t H f r s b) ∧ Fr (fun a => 81 ≤ a ∧ a ≤ 84) μ μ' ∧ μ' 81 3 = μ 81 3
  | f, r, s, b, μ, hf, hr, hb, hs, hu, hT, hS => by
    have w0 := hw.1
    have sr := setN_lt w0 r hr
    show ∃ μ', am_fn 10 none (g_X8_visit (f_X8_visit f)) _ μ = some (none, μ') ∧ _
    unfold g_X8_visit
    cases hn : nxH D t H r s with
    | none =>
      rw [st_none hn]
      refine ⟨μ, ?_, hT, hb, Fr.rf, rfl⟩
      rw [oI_n]
      have o1 := setN_or r (s := s) (by omega) 0
      simp (disch := first | omega | assumption | exact Or.inl rfl | exact Or.inr rfl | exact bI_ok _) [v_bd, mp_s, v_en, v_k, v_li, li_s, v_ll, ll_s, v_lr, lr_s, v_eu, v_ku, v_eb, v_kb1, v_kb2, v_ec, kc_t, kc_f, v_bz, kz_I, v_b2, v_k21, k22_I, v_and, kan_t, kan_f, v_or, kor_t, kor_f, v_not, v_knt, v_a0, v_a1, v_ka1, v_ka2, v_ek, v_kk, kkr_s, v_sk, v_ks, ksr_s, v_pop, kpop_I, kase_s, v_as, v_kas, v_inc, kme_s, v_pf, v_kpf1, v_kpf2, v_po, v_kpo1, v_kpo2, v_kpo3, v_kpo4, v_ia, v_kia1, v_kia2, v_kia3, v_io, v_kio1, v_kio2, v_kio3, v_kio4, v_kio5, v_s0, v_sq, sqk_l, sqk_r, v_if, kif_t, kif_f, v_no, nok_r, v_bk, bkk_l, bkk_r, v_rtI, krI_s, v_rtL, krL_s, v_rv, v_sw, ksw_I, ksw2_s, v_fn, fnl_t, fnk_r, fnr_t, nr_I, nr_L, nr_n, nr_b, nr_0, nr_1, nr_R, v_cl, v_cs, clk_t, m2_I, m1_I, v_si, v_sr, sik_t, v_sl, slk_t, v_oinc, inck_s, se_0, se_n, se_s, v_nl, v_nl0, nlo_I, nlo_R, nlo_U, nlo_n, v_ii, v_jj, v_ji, v_jc, v_iz, v_iu, v_i2l, c0_eq, c0_ne, c0_lt, c0_ge, c0_gt, c0_le, c2_eq, c2_ne, c2_lt, c2_ge, c2_gt, c2_le, en_n, en_I, en_R, en_L, List.getElem?_cons_zero, List.getElem?_cons_succ, List.getElem?_nil, List.length_cons, List.length_nil, List.take_succ_cons, List.take_zero, List.cons_append, List.nil_append, nI_lit, nN_lit, nI_eq, nI_ltI, nI_leI, nI_add, pk_mul, pk_sub, nI_eN, nN_eI, nN_ltI, nN_leI, nI_ltN, nI_leN, nN_nN, nN_leN, bI_e0, bI_e1, bt_shr, nI_sub_lt, ntT, ntF, nlT, nlF, neT, neF, o1]
    | some h =>
      have hv := vx_push hr hs hu hn
      have hl := vx_le hv
      have h20 : h < 20 := (nxH_lt hn).1
      have sn := setN_lt w0 _ hv
      simp only [List.length_cons] at hl
      obtain ⟨f', rfl⟩ : ∃ f', f = f' + 1 := ⟨f - 1, by omega⟩
      rw [st_some hu hn, oI_s]
      have o1 := setN_or r (s := s) (by omega) h
      generalize hNS : setN ((s, h) :: r) = NS at *
      have hat : NS * 8 + s < 2048 := by omega
      cases hit : bt (μ 84 (NS * 8 + s)) h
      · -- not met yet
        obtain ⟨x1, x2, x3, x4⟩ := id hT
        generalize hμ2 : am_up (am_up μ 84 (NS * 8 + s) (μ 84 (NS * 8 + s) ||| (nI 1 <<< (nI h &&& nI 31)))) 83 r.length (nI s) = μ2
        have q2 : ∀ a b, a ≠ 84 → ¬ (a = 83 ∧ b = r.length) → μ2 a b = μ a b := fun a b h1 h2 => by rw [← hμ2, am_up_ne _ _ (by omega), am_up_ne _ _ (by omega)]
        have en2 : enB b μ2 := ⟨by rw [q2 _ _ (by omega) (by omega)]; exact x1.1, by rw [q2 _ _ (by omega) (by omega)]; exact x1.2.1, fun i hi => by rw [q2 _ _ (by omega) (by omega)]; exact x1.2.2 i hi⟩
        have ht2 : ∀ i, i < r.length + 1 → μ2 83 i = nI (rowAt ((s, h) :: r) i) := by
          intro i hi
          by_cases e : i = r.length
          · rw [e, rowAt_s, ← hμ2, am_up_eq]
          · rw [rowAt_lt (by omega), q2 _ _ (by omega) (by omega)]
            exact x3 i (by omega)
        obtain ⟨μ3, k1, k2, k3⟩ := f_keepIfBetter (s := s) (h := h) (r := r) (b := b) (μ := μ2) (by omega) h20 (by have := vx_le hb; omega) (vx_h20 hb) en2 ht2
        have hb1 := vx_keep hv hb
        have y6 : μ3 81 6 = nI (dn D) := by rw [k3 _ _ (by omega), q2 _ _ (by omega) (by omega)]; exact x2
        have y3 : μ3 81 3 = μ 81 3 := by rw [k3 _ _ (by omega), q2 _ _ (by omega) (by omega)]
        have ht3 : ∀ i, i < ((s, h) :: r).length → μ3 83 i = nI (rowAt ((s, h) :: r) i) := fun i hi => by rw [k3 _ _ (by omega)]; exact ht2 i hi
        have iv3 : INV D t H ((s, h) :: r) (keepR ((s, h) :: r) b) (fun a u => bt (μ3 84 a) u) := by
          refine inv_push w0 x4 hv (fun a u hu32 hm => ?_)
          rw [hNS]
          simp only at hm ⊢
          rw [k3 _ _ (by omega), ← hμ2, am_up_ne _ _ (by omega)] at hm
          by_cases e : a = NS * 8 + s
          · rw [e, am_up_eq, bt_or, bt_shl (by omega) hu32, Bool.or_eq_true, decide_eq_true_eq] at hm
            rcases hm with hm | hm
            · exact Or.inl (by rw [e]; exact hm)
            · exact Or.inr ⟨e, hm⟩
          · rw [am_up_ne _ _ (by omega)] at hm
            exact Or.inl hm
        have fr3 : Fr (fun a => 81 ≤ a ∧ a ≤ 84) μ μ3 := fun a b hab => by rw [k3 _ _ (by omega), q2 _ _ (by omega) (by omega)]
        have hS3 : xS 27 (dn D) D t H μ3 := hS.kept w0 (fun a b _ _ => fr3 a b (by omega))
        have nb := keep_self ((s, h) :: r) b
        generalize hB1 : keepR ((s, h) :: r) b = b1 at *
        have lb1 : r.length + 1 ≤ b1.length := by
          have := better_no.mp nb
          simp only [List.length_cons] at this
          omega
        have lb8 := vx_le hb1
        have m1 := f_mayGetBetter (n := dn D) (s := s) (h := h) (r := r) (b := b1) (μ := μ3) w0 (by omega) h20 (by omega) (vx_h20 hb1) lb1 k2 y6
        have hsc : SC 25 27 := Or.inl ⟨rfl, rfl⟩
        have hc' : HC (27 + 3 * s) := hsc.h (by omega)
        have z1 := (hS3 s hs h h20).1
        cases hm : mgb (dn D) ((s, h) :: r) b1
        · rw [hm] at m1
          have hd := mgb_dom hv nb hm
          rw [dfs_dom _ hd]
          refine ⟨μ3, ?_, ⟨k2, y6, fun i hi => by rw [← rowAt_lt (c := (s, h)) hi]; exact ht3 i (by simp only [List.length_cons]; omega), inv_pop iv3 hd⟩, hb1, fr3, y3⟩
          simp (disch := first | omega | assumption | exact Or.inl rfl | exact Or.inr rfl | exact bI_ok _) [v_bd, mp_s, v_en, v_k, v_li, li_s, v_ll, ll_s, v_lr, lr_s, v_eu, v_ku, v_eb, v_kb1, v_kb2, v_ec, kc_t, kc_f, v_bz, kz_I, v_b2, v_k21, k22_I, v_and, kan_t, kan_f, v_or, kor_t, kor_f, v_not, v_knt, v_a0, v_a1, v_ka1, v_ka2, v_ek, v_kk, kkr_s, v_sk, v_ks, ksr_s, v_pop, kpop_I, kase_s, v_as, v_kas, v_inc, kme_s, v_pf, v_kpf1, v_kpf2, v_po, v_kpo1, v_kpo2, v_kpo3, v_kpo4, v_ia, v_kia1, v_kia2, v_kia3, v_io, v_kio1, v_kio2, v_kio3, v_kio4, v_kio5, v_s0, v_sq, sqk_l, sqk_r, v_if, kif_t, kif_f, v_no, nok_r, v_bk, bkk_l, bkk_r, v_rtI, krI_s, v_rtL, krL_s, v_rv, v_sw, ksw_I, ksw2_s, v_fn, fnl_t, fnk_r, fnr_t, nr_I, nr_L, nr_n, nr_b, nr_0, nr_1, nr_R, v_cl, v_cs, clk_t, m2_I, m1_I, v_si, v_sr, sik_t, v_sl, slk_t, v_oinc, inck_s, se_0, se_n, se_s, v_nl, v_nl0, nlo_I, nlo_R, nlo_U, nlo_n, v_ii, v_jj, v_ji, v_jc, v_iz, v_iu, v_i2l, c0_eq, c0_ne, c0_lt, c0_ge, c0_gt, c0_le, c2_eq, c2_ne, c2_lt, c2_ge, c2_gt, c2_le, en_n, en_I, en_R, en_L, List.getElem?_cons_zero, List.getElem?_cons_succ, List.getElem?_nil, List.length_cons, List.length_nil, List.take_succ_cons, List.take_zero, List.cons_append, List.nil_append, nI_lit, nN_lit, nI_eq, nI_ltI, nI_leI, nI_add, pk_mul, pk_sub, nI_eN, nN_eI, nN_ltI, nN_leI, nI_ltN, nI_leN, nN_nN, nN_leN, bI_e0, bI_e1, bt_shr, nI_sub_lt, ntT, ntF, nlT, nlF, neT, neF, o1, gv_X_81_5, lv_X_84, hit, wv_X_84, gv_X_81_4, wv_X_83, hμ2, ck_X_81, k1, m1]
        · rw [hm] at m1
          generalize hfr : f_X8_visit (f' + 1) = frec
          generalize hc1 : (b_2 .lt (e_li 9) (e_gf ShX 8 6 (e_lr 0))) = c1
          generalize hb1' : (s_sq (s_if (b_z .eq (e_b o_iand (e_b o_ishr (e_li 6) (e_li 9)) (e_i 1))) (s_k (am_cs 6 frec) (a_1 (e_lr 0) (a_1 (e_lr 1) (a_1 (e_li 9) (a_1 (e_k (am_cl ShX 5 3 f_X5_nextRead) (a_1 (e_lr 1) (a_1 (e_li 9) (a_1 (e_b o_iadd (e_li 3) (e_i 1)) (a_1 (e_li 8) a_0))))) (a_1 (e_li 6) (a_1 (e_b o_iadd (e_li 5) (e_i 1)) a_0))))))) s_0) (s_inc 10 9 1)) = b1'
          have key := lp_inv (c := c1) (b := b1') (fun i e μ' => e = [vR 81, vR 25, vI (nI s), vI (nI h), vI (nI (setN r)), vI (nI r.length), vI (nI NS), vI (nI (NS * 8 + s)), vI (nI (H s h).1), vI (nI i)] ∧ TM D t H ((s, h) :: r) (fd (fun s' b => stR D t H f' ((s, h) :: r) s' b) i b1) μ' ∧ vx D t H [] (fd (fun s' b => stR D t H f' ((s, h) :: r) s' b) i b1) ∧ Fr (fun a => 81 ≤ a ∧ a ≤ 84) μ μ' ∧ μ' 81 3 = μ 81 3) (dn D) ?_ ?_ (dn D) 0 _ μ3 (by omega) ⟨rfl, ⟨k2, y6, ht3, iv3⟩, hb1, fr3, y3⟩
          · obtain ⟨e', μ4, g1, rfl, g2, g3, g4, g5⟩ := key
            rw [← dfs_s] at g2 g3
            have hd : Dom D t H ((s, h) :: r) (dfsR D t H (f' + 1) ((s, h) :: r) b1) := by
              intro w hw'
              have l9 := vx_le (vx_cat hv w hw')
              simp only [List.length_append, List.length_cons] at l9
              exact dfs_all (f' + 1) nb w hw' (by omega)
            refine ⟨μ4, ?_, ⟨g2.1, g2.2.1, fun i hi => by rw [← rowAt_lt (c := (s, h)) hi]; exact g2.2.2.1 i (by simp only [List.length_cons]; omega), inv_pop g2.2.2.2 hd⟩, g3, g4, g5⟩
            simp (disch := first | omega | assumption | exact Or.inl rfl | exact Or.inr rfl | exact bI_ok _) [v_bd, mp_s, v_en, v_k, v_li, li_s, v_ll, ll_s, v_lr, lr_s, v_eu, v_ku, v_eb, v_kb1, v_kb2, v_ec, kc_t, kc_f, v_bz, kz_I, v_b2, v_k21, k22_I, v_and, kan_t, kan_f, v_or, kor_t, kor_f, v_not, v_knt, v_a0, v_a1, v_ka1, v_ka2, v_ek, v_kk, kkr_s, v_sk, v_ks, ksr_s, v_pop, kpop_I, kase_s, v_as, v_kas, v_inc, kme_s, v_pf, v_kpf1, v_kpf2, v_po, v_kpo1, v_kpo2, v_kpo3, v_kpo4, v_ia, v_kia1, v_kia2, v_kia3, v_io, v_kio1, v_kio2, v_kio3, v_kio4, v_kio5, v_s0, v_sq, sqk_l, sqk_r, v_if, kif_t, kif_f, v_no, nok_r, v_bk, bkk_l, bkk_r, v_rtI, krI_s, v_rtL, krL_s, v_rv, v_sw, ksw_I, ksw2_s, v_fn, fnl_t, fnk_r, fnr_t, nr_I, nr_L, nr_n, nr_b, nr_0, nr_1, nr_R, v_cl, v_cs, clk_t, m2_I, m1_I, v_si, v_sr, sik_t, v_sl, slk_t, v_oinc, inck_s, se_0, se_n, se_s, v_nl, v_nl0, nlo_I, nlo_R, nlo_U, nlo_n, v_ii, v_jj, v_ji, v_jc, v_iz, v_iu, v_i2l, c0_eq, c0_ne, c0_lt, c0_ge, c0_gt, c0_le, c2_eq, c2_ne, c2_lt, c2_ge, c2_gt, c2_le, en_n, en_I, en_R, en_L, List.getElem?_cons_zero, List.getElem?_cons_succ, List.getElem?_nil, List.length_cons, List.length_nil, List.take_succ_cons, List.take_zero, List.cons_append, List.nil_append, nI_lit, nN_lit, nI_eq, nI_ltI, nI_leI, nI_add, pk_mul, pk_sub, nI_eN, nN_eI, nN_ltI, nN_leI, nI_ltN, nI_leN, nN_nN, nN_leN, bI_e0, bI_e1, bt_shr, nI_sub_lt, ntT, ntF, nlT, nlF, neT, neF, o1, gv_X_81_5, lv_X_84, hit, wv_X_84, gv_X_81_4, wv_X_83, hμ2, ck_X_81, k1, m1, sh_0 hsc, sh_q hsc, hv_0, hl_1, z1, g1]
          · rintro i e μ4 hi ⟨rfl, i2, i3, i4, i5⟩
            have y6' := i2.2.1
            have hS4 : xS 27 (dn D) D t H μ4 := hS.kept w0 (fun a b _ _ => i4 a b (by omega))
            have lH := hH s h
            have f1 := f_nextRead (k := i) (hour := h + 1) (high := (H s h).1) hsc w0 hS4 hH hi (by omega) (by omega)
            have f1' : f_X5_nextRead [vR 25, vI (nI i), vI (nI (h + 1)), vI (nI (H s h).1)] μ4 = some (some (vI (oI (nxH D t H ((s, h) :: r) i))), μ4) := f1
            have eu : bt (nI NS) i = usedR ((s, h) :: r) i := by rw [bt_nI _ (by omega), ← hNS, setN_bt]
            have ef := fd_v (D := D) (t := t) (H := H) (f := f') (r := (s, h) :: r) (b := b1) i
            generalize hbi : fd (fun s' b => stR D t H f' ((s, h) :: r) s' b) i b1 = bi at *
            cases hui : usedR ((s, h) :: r) i
            · obtain ⟨μ5, v1, v2, v3, v4, v5⟩ := f_visit hw hH f' ((s, h) :: r) i bi μ4 (by simp only [List.length_cons]; omega) hv i3 hi hui i2 hS4
              rw [hNS, hfr] at v1
              simp only [List.length_cons] at v1
              rw [hui] at eu
              subst hc1 hb1'
              refine ⟨by simp (disch := first | omega | assumption | exact Or.inl rfl | exact Or.inr rfl | exact bI_ok _) [v_bd, mp_s, v_en, v_k, v_li, li_s, v_ll, ll_s, v_lr, lr_s, v_eu, v_ku, v_eb, v_kb1, v_kb2, v_ec, kc_t, kc_f, v_bz, kz_I, v_b2, v_k21, k22_I, v_and, kan_t, kan_f, v_or, kor_t, kor_f, v_not, v_knt, v_a0, v_a1, v_ka1, v_ka2, v_ek, v_kk, kkr_s, v_sk, v_ks, ksr_s, v_pop, kpop_I, kase_s, v_as, v_kas, v_inc, kme_s, v_pf, v_kpf1, v_kpf2, v_po, v_kpo1, v_kpo2, v_kpo3, v_kpo4, v_ia, v_kia1, v_kia2, v_kia3, v_io, v_kio1, v_kio2, v_kio3, v_kio4, v_kio5, v_s0, v_sq, sqk_l, sqk_r, v_if, kif_t, kif_f, v_no, nok_r, v_bk, bkk_l, bkk_r, v_rtI, krI_s, v_rtL, krL_s, v_rv, v_sw, ksw_I, ksw2_s, v_fn, fnl_t, fnk_r, fnr_t, nr_I, nr_L, nr_n, nr_b, nr_0, nr_1, nr_R, v_cl, v_cs, clk_t, m2_I, m1_I, v_si, v_sr, sik_t, v_sl, slk_t, v_oinc, inck_s, se_0, se_n, se_s, v_nl, v_nl0, nlo_I, nlo_R, nlo_U, nlo_n, v_ii, v_jj, v_ji, v_jc, v_iz, v_iu, v_i2l, c0_eq, c0_ne, c0_lt, c0_ge, c0_gt, c0_le, c2_eq, c2_ne, c2_lt, c2_ge, c2_gt, c2_le, en_n, en_I, en_R, en_L, List.getElem?_cons_zero, List.getElem?_cons_succ, List.getElem?_nil, List.length_cons, List.length_nil, List.take_succ_cons, List.take_zero, List.cons_append, List.nil_append, nI_lit, nN_lit, nI_eq, nI_ltI, nI_leI, nI_add, pk_mul, pk_sub, nI_eN, nN_eI, nN_ltI, nN_leI, nI_ltN, nI_leN, nN_nN, nN_leN, bI_e0, bI_e1, bt_shr, nI_sub_lt, ntT, ntF, nlT, nlF, neT, neF, gv_X_81_6, y6'], [vR 81, vR 25, vI (nI s), vI (nI h), vI (nI (setN r)), vI (nI r.length), vI (nI NS), vI (nI (NS * 8 + s)), vI (nI (H s h).1), vI (nI (i + 1))], μ5, ?_, rfl, by rw [ef]; exact v2, by rw [ef]; exact v3, i4.tr v4, v5.trans i5⟩
              simp (disch := first | omega | assumption | exact Or.inl rfl | exact Or.inr rfl | exact bI_ok _) [v_bd, mp_s, v_en, v_k, v_li, li_s, v_ll, ll_s, v_lr, lr_s, v_eu, v_ku, v_eb, v_kb1, v_kb2, v_ec, kc_t, kc_f, v_bz, kz_I, v_b2, v_k21, k22_I, v_and, kan_t, kan_f, v_or, kor_t, kor_f, v_not, v_knt, v_a0, v_a1, v_ka1, v_ka2, v_ek, v_kk, kkr_s, v_sk, v_ks, ksr_s, v_pop, kpop_I, kase_s, v_as, v_kas, v_inc, kme_s, v_pf, v_kpf1, v_kpf2, v_po, v_kpo1, v_kpo2, v_kpo3, v_kpo4, v_ia, v_kia1, v_kia2, v_kia3, v_io, v_kio1, v_kio2, v_kio3, v_kio4, v_kio5, v_s0, v_sq, sqk_l, sqk_r, v_if, kif_t, kif_f, v_no, nok_r, v_bk, bkk_l, bkk_r, v_rtI, krI_s, v_rtL, krL_s, v_rv, v_sw, ksw_I, ksw2_s, v_fn, fnl_t, fnk_r, fnr_t, nr_I, nr_L, nr_n, nr_b, nr_0, nr_1, nr_R, v_cl, v_cs, clk_t, m2_I, m1_I, v_si, v_sr, sik_t, v_sl, slk_t, v_oinc, inck_s, se_0, se_n, se_s, v_nl, v_nl0, nlo_I, nlo_R, nlo_U, nlo_n, v_ii, v_jj, v_ji, v_jc, v_iz, v_iu, v_i2l, c0_eq, c0_ne, c0_lt, c0_ge, c0_gt, c0_le, c2_eq, c2_ne, c2_lt, c2_ge, c2_gt, c2_le, en_n, en_I, en_R, en_L, List.getElem?_cons_zero, List.getElem?_cons_succ, List.getElem?_nil, List.length_cons, List.length_nil, List.take_succ_cons, List.take_zero, List.cons_append, List.nil_append, nI_lit, nN_lit, nI_eq, nI_ltI, nI_leI, nI_add, pk_mul, pk_sub, nI_eN, nN_eI, nN_ltI, nN_leI, nI_ltN, nI_leN, nN_nN, nN_leN, bI_e0, bI_e1, bt_shr, nI_sub_lt, ntT, ntF, nlT, nlF, neT, neF, eu, shck hsc, f1', v1]
            · rw [hui] at eu
              subst hc1 hb1'
              refine ⟨by simp (disch := first | omega | assumption | exact Or.inl rfl | exact Or.inr rfl | exact bI_ok _) [v_bd, mp_s, v_en, v_k, v_li, li_s, v_ll, ll_s, v_lr, lr_s, v_eu, v_ku, v_eb, v_kb1, v_kb2, v_ec, kc_t, kc_f, v_bz, kz_I, v_b2, v_k21, k22_I, v_and, kan_t, kan_f, v_or, kor_t, kor_f, v_not, v_knt, v_a0, v_a1, v_ka1, v_ka2, v_ek, v_kk, kkr_s, v_sk, v_ks, ksr_s, v_pop, kpop_I, kase_s, v_as, v_kas, v_inc, kme_s, v_pf, v_kpf1, v_kpf2, v_po, v_kpo1, v_kpo2, v_kpo3, v_kpo4, v_ia, v_kia1, v_kia2, v_kia3, v_io, v_kio1, v_kio2, v_kio3, v_kio4, v_kio5, v_s0, v_sq, sqk_l, sqk_r, v_if, kif_t, kif_f, v_no, nok_r, v_bk, bkk_l, bkk_r, v_rtI, krI_s, v_rtL, krL_s, v_rv, v_sw, ksw_I, ksw2_s, v_fn, fnl_t, fnk_r, fnr_t, nr_I, nr_L, nr_n, nr_b, nr_0, nr_1, nr_R, v_cl, v_cs, clk_t, m2_I, m1_I, v_si, v_sr, sik_t, v_sl, slk_t, v_oinc, inck_s, se_0, se_n, se_s, v_nl, v_nl0, nlo_I, nlo_R, nlo_U, nlo_n, v_ii, v_jj, v_ji, v_jc, v_iz, v_iu, v_i2l, c0_eq, c0_ne, c0_lt, c0_ge, c0_gt, c0_le, c2_eq, c2_ne, c2_lt, c2_ge, c2_gt, c2_le, en_n, en_I, en_R, en_L, List.getElem?_cons_zero, List.getElem?_cons_succ, List.getElem?_nil, List.length_cons, List.length_nil, List.take_succ_cons, List.take_zero, List.cons_append, List.nil_append, nI_lit, nN_lit, nI_eq, nI_ltI, nI_leI, nI_add, pk_mul, pk_sub, nI_eN, nN_eI, nN_ltI, nN_leI, nI_ltN, nI_leN, nN_nN, nN_leN, bI_e0, bI_e1, bt_shr, nI_sub_lt, ntT, ntF, nlT, nlF, neT, neF, gv_X_81_6, y6'], [vR 81, vR 25, vI (nI s), vI (nI h), vI (nI (setN r)), vI (nI r.length), vI (nI NS), vI (nI (NS * 8 + s)), vI (nI (H s h).1), vI (nI (i + 1))], μ4, ?_, rfl, by rw [ef, st_used hui]; exact i2, by rw [ef, st_used hui]; exact i3, i4, i5⟩
              simp (disch := first | omega | assumption | exact Or.inl rfl | exact Or.inr rfl | exact bI_ok _) [v_bd, mp_s, v_en, v_k, v_li, li_s, v_ll, ll_s, v_lr, lr_s, v_eu, v_ku, v_eb, v_kb1, v_kb2, v_ec, kc_t, kc_f, v_bz, kz_I, v_b2, v_k21, k22_I, v_and, kan_t, kan_f, v_or, kor_t, kor_f, v_not, v_knt, v_a0, v_a1, v_ka1, v_ka2, v_ek, v_kk, kkr_s, v_sk, v_ks, ksr_s, v_pop, kpop_I, kase_s, v_as, v_kas, v_inc, kme_s, v_pf, v_kpf1, v_kpf2, v_po, v_kpo1, v_kpo2, v_kpo3, v_kpo4, v_ia, v_kia1, v_kia2, v_kia3, v_io, v_kio1, v_kio2, v_kio3, v_kio4, v_kio5, v_s0, v_sq, sqk_l, sqk_r, v_if, kif_t, kif_f, v_no, nok_r, v_bk, bkk_l, bkk_r, v_rtI, krI_s, v_rtL, krL_s, v_rv, v_sw, ksw_I, ksw2_s, v_fn, fnl_t, fnk_r, fnr_t, nr_I, nr_L, nr_n, nr_b, nr_0, nr_1, nr_R, v_cl, v_cs, clk_t, m2_I, m1_I, v_si, v_sr, sik_t, v_sl, slk_t, v_oinc, inck_s, se_0, se_n, se_s, v_nl, v_nl0, nlo_I, nlo_R, nlo_U, nlo_n, v_ii, v_jj, v_ji, v_jc, v_iz, v_iu, v_i2l, c0_eq, c0_ne, c0_lt, c0_ge, c0_gt, c0_le, c2_eq, c2_ne, c2_lt, c2_ge, c2_gt, c2_le, en_n, en_I, en_R, en_L, List.getElem?_cons_zero, List.getElem?_cons_succ, List.getElem?_nil, List.length_cons, List.length_nil, List.take_succ_cons, List.take_zero, List.cons_append, List.nil_append, nI_lit, nN_lit, nI_eq, nI_ltI, nI_leI, nI_add, pk_mul, pk_sub, nI_eN, nN_eI, nN_ltI, nN_leI, nI_ltN, nI_leN, nN_nN, nN_leN, bI_e0, bI_e1, bt_shr, nI_sub_lt, ntT, ntF, nlT, nlF, neT, neF, eu]
          · rintro e μ4 ⟨rfl, i2, i3, i4, i5⟩
            subst hc1
            have y6' := i2.2.1
            simp (disch := first | omega | assumption | exact Or.inl rfl | exact Or.inr rfl | exact bI_ok _) [v_bd, mp_s, v_en, v_k, v_li, li_s, v_ll, ll_s, v_lr, lr_s, v_eu, v_ku, v_eb, v_kb1, v_kb2, v_ec, kc_t, kc_f, v_bz, kz_I, v_b2, v_k21, k22_I, v_and, kan_t, kan_f, v_or, kor_t, kor_f, v_not, v_knt, v_a0, v_a1, v_ka1, v_ka2, v_ek, v_kk, kkr_s, v_sk, v_ks, ksr_s, v_pop, kpop_I, kase_s, v_as, v_kas, v_inc, kme_s, v_pf, v_kpf1, v_kpf2, v_po, v_kpo1, v_kpo2, v_kpo3, v_kpo4, v_ia, v_kia1, v_kia2, v_kia3, v_io, v_kio1, v_kio2, v_kio3, v_kio4, v_kio5, v_s0, v_sq, sqk_l, sqk_r, v_if, kif_t, kif_f, v_no, nok_r, v_bk, bkk_l, bkk_r, v_rtI, krI_s, v_rtL, krL_s, v_rv, v_sw, ksw_I, ksw2_s, v_fn, fnl_t, fnk_r, fnr_t, nr_I, nr_L, nr_n, nr_b, nr_0, nr_1, nr_R, v_cl, v_cs, clk_t, m2_I, m1_I, v_si, v_sr, sik_t, v_sl, slk_t, v_oinc, inck_s, se_0, se_n, se_s, v_nl, v_nl0, nlo_I, nlo_R, nlo_U, nlo_n, v_ii, v_jj, v_ji, v_jc, v_iz, v_iu, v_i2l, c0_eq, c0_ne, c0_lt, c0_ge, c0_gt, c0_le, c2_eq, c2_ne, c2_lt, c2_ge, c2_gt, c2_le, en_n, en_I, en_R, en_L, List.getElem?_cons_zero, List.getElem?_cons_succ, List.getElem?_nil, List.length_cons, List.length_nil, List.take_succ_cons, List.take_zero, List.cons_append, List.nil_append, nI_lit, nN_lit, nI_eq, nI_ltI, nI_leI, nI_add, pk_mul, pk_sub, nI_eN, nN_eI, nN_ltI, nN_leI, nI_ltN, nI_leN, nN_nN, nN_leN, bI_e0, bI_e1, bt_shr, nI_sub_lt, ntT, ntF, nlT, nlF, neT, neF, gv_X_81_6, y6']
      · have hd := inv_hit hT.2.2.2 hv (by rw [hNS]; exact hit)
        rw [keep_no hd.self, dfs_dom _ hd]
        refine ⟨μ, ?_, hT, hb, Fr.rf, rfl⟩
        simp (disch := first | omega | assumption | exact Or.inl rfl | exact Or.inr rfl | exact bI_ok _) [v_bd, mp_s, v_en, v_k, v_li, li_s, v_ll, ll_s, v_lr, lr_s, v_eu, v_ku, v_eb, v_kb1, v_kb2, v_ec, kc_t, kc_f, v_bz, kz_I, v_b2, v_k21, k22_I, v_and, kan_t, kan_f, v_or, kor_t, kor_f, v_not, v_knt, v_a0, v_a1, v_ka1, v_ka2, v_ek, v_kk, kkr_s, v_sk, v_ks, ksr_s, v_pop, kpop_I, kase_s, v_as, v_kas, v_inc, kme_s, v_pf, v_kpf1, v_kpf2, v_po, v_kpo1, v_kpo2, v_kpo3, v_kpo4, v_ia, v_kia1, v_kia2, v_kia3, v_io, v_kio1, v_kio2, v_kio3, v_kio4, v_kio5, v_s0, v_sq, sqk_l, sqk_r, v_if, kif_t, kif_f, v_no, nok_r, v_bk, bkk_l, bkk_r, v_rtI, krI_s, v_rtL, krL_s, v_rv, v_sw, ksw_I, ksw2_s, v_fn, fnl_t, fnk_r, fnr_t, nr_I, nr_L, nr_n, nr_b, nr_0, nr_1, nr_R, v_cl, v_cs, clk_t, m2_I, m1_I, v_si, v_sr, sik_t, v_sl, slk_t, v_oinc, inck_s, se_0, se_n, se_s, v_nl, v_nl0, nlo_I, nlo_R, nlo_U, nlo_n, v_ii, v_jj, v_ji, v_jc, v_iz, v_iu, v_i2l, c0_eq, c0_ne, c0_lt, c0_ge, c0_gt, c0_le, c2_eq, c2_ne, c2_lt, c2_ge, c2_gt, c2_le, en_n, en_I, en_R, en_L, List.getElem?_cons_zero, List.getElem?_cons_succ, List.getElem?_nil, List.length_cons, List.length_nil, List.take_succ_cons, List.take_zero, List.cons_append, List.nil_append, nI_lit, nN_lit, nI_eq, nI_ltI, nI_leI, nI_add, pk_mul, pk_sub, nI_eN, nN_eI, nN_ltI, nN_leI, nI_ltN, nI_leN, nN_nN, nN_leN, bI_e0, bI_e1, bt_shr, nI_sub_lt, ntT, ntF, nlT, nlF, neT, neF, o1, gv_X_81_5, lv_X_84, hit]
