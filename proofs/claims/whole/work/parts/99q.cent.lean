/-! century: lots -/
def nxt (x : Int32) : Int32 := nI 1103515245 * x + nI 12345
def hi16 (x : Int32) : Nat := x.toBitVec.toNat / 65536
theorem hi16_lt (x : Int32) : hi16 x < 65536 := by
  unfold hi16
  have := x.toBitVec.isLt
  omega
theorem ush16 (x : Int32) : (x.toUInt32 >>> ((nI 16).toUInt32 &&& (nI 31).toUInt32)).toInt32 = nI (hi16 x) := by
  apply Int32.toBitVec_inj.mp
  apply BitVec.eq_of_toNat_eq
  have h1 := pk_ushr x (nI 16) 16 (by decide)
  have h2 := hi16_lt x
  rw [show ((nI 31).toUInt32) = Int32.toUInt32 31 from rfl, h1, pk_tn (by omega)]
  rfl
/-- one event drawn -/
def drV (m : Nat) (s : Int32) : Ev := (hi16 (nxt s) % 3, hi16 (nxt (nxt s)) % 20, hi16 (nxt (nxt (nxt s))) % m, hi16 (nxt (nxt (nxt (nxt s)))) % 10)
def drE (m : Nat) (s : Int32) : Nat → List Ev × Int32
  | 0 => ([], s)
  | n + 1 => ((drE m s n).1 ++ [drV m (drE m s n).2], nxt (nxt (nxt (nxt (drE m s n).2))))
theorem drE_len (m : Nat) (s : Int32) : ∀ n, (drE m s n).1.length = n
  | 0 => rfl
  | n + 1 => by
    show ((drE m s n).1 ++ [drV m (drE m s n).2]).length = _
    rw [List.length_append, drE_len m s n]
    rfl
theorem drE_in {m : Nat} (hm : 0 < m) (hm8 : m ≤ 8) (s : Int32) : ∀ n, ∀ e ∈ (drE m s n).1, e.1 < 3 ∧ e.2.1 < 20 ∧ e.2.2.1 < 8 ∧ e.2.2.2 < 10
  | 0, e, he => by cases he
  | n + 1, e, he => by
    rcases List.mem_append.mp he with h | h
    · exact drE_in hm hm8 s n e h
    · rw [List.mem_singleton.mp h]
      exact ⟨Nat.mod_lt _ (by omega), Nat.mod_lt _ (by omega), Nat.lt_of_lt_of_le (Nat.mod_lt _ hm) hm8, Nat.mod_lt _ (by omega)⟩
def ctE (m : Nat) (s : Int32) (n : Nat) : List Ev := if m = 0 then [] else (drE m s n).1
theorem ctE_wf {m : Nat} (hm8 : m ≤ 8) (s : Int32) {n : Nat} (hn : n ≤ 8) : wfE (ctE m s n) := by
  unfold ctE
  by_cases h : m = 0
  · rw [if_pos h]
    exact ⟨by simp, fun e he => by cases he⟩
  · rw [if_neg h]
    exact ⟨by rw [drE_len]; exact hn, drE_in (by omega) hm8 s n⟩
/-! the class -/
theorem f_lotX {m : Nat} (hm : 0 < m) (hm2 : m < 100) (μ : am_M) : f_X1_lot [vR 20, vI (nI m)] μ = some (some (vI (nI (hi16 (nxt (μ 20 5)) % m))), am_up μ 20 5 (nxt (μ 20 5))) := by
  have h1 := hi16_lt (nxt (μ 20 5))
  have e1 := pk_rem (a := hi16 (nxt (μ 20 5))) (d := m) (by omega) hm (by omega)
  have e2 : am_up μ 20 5 (nxt (μ 20 5)) 20 5 = nxt (μ 20 5) := am_up_eq _ _ _ _
  have e0 : nI 1103515245 * μ 20 5 + nI 12345 = nxt (μ 20 5) := rfl
  unfold f_X1_lot g_X1_lot
  generalize nxt (μ 20 5) = y at *
  simp (disch := first | omega | assumption | exact Or.inl rfl | exact Or.inr rfl | exact bI_ok _) [v_bd, mp_s, v_en, v_k, v_li, li_s, v_ll, ll_s, v_lr, lr_s, v_eu, v_ku, v_eb, v_kb1, v_kb2, v_ec, kc_t, kc_f, v_bz, kz_I, v_b2, v_k21, k22_I, v_and, kan_t, kan_f, v_or, kor_t, kor_f, v_not, v_knt, v_a0, v_a1, v_ka1, v_ka2, v_ek, v_kk, kkr_s, v_sk, v_ks, ksr_s, v_pop, kpop_I, kase_s, v_as, v_kas, v_inc, kme_s, v_pf, v_kpf1, v_kpf2, v_po, v_kpo1, v_kpo2, v_kpo3, v_kpo4, v_ia, v_kia1, v_kia2, v_kia3, v_io, v_kio1, v_kio2, v_kio3, v_kio4, v_kio5, v_s0, v_sq, sqk_l, sqk_r, v_if, kif_t, kif_f, v_no, nok_r, v_bk, bkk_l, bkk_r, v_rtI, krI_s, v_rtL, krL_s, v_rv, v_sw, ksw_I, ksw2_s, v_fn, fnl_t, fnk_r, fnr_t, nr_I, nr_L, nr_n, nr_b, nr_0, nr_1, nr_R, v_cl, v_cs, clk_t, m2_I, m1_I, v_si, v_sr, sik_t, v_sl, slk_t, v_oinc, inck_s, se_0, se_n, se_s, v_nl, v_nl0, nlo_I, nlo_R, nlo_U, nlo_n, v_ii, v_jj, v_ji, v_jc, v_iz, v_iu, v_i2l, c0_eq, c0_ne, c0_lt, c0_ge, c0_gt, c0_le, c2_eq, c2_ne, c2_lt, c2_ge, c2_gt, c2_le, en_n, en_I, en_R, en_L, List.getElem?_cons_zero, List.getElem?_cons_succ, List.getElem?_nil, List.length_cons, List.length_nil, List.take_succ_cons, List.take_zero, List.cons_append, List.nil_append, nI_lit, nN_lit, nI_eq, nI_ltI, nI_leI, nI_add, pk_mul, pk_sub, nI_eN, nN_eI, nN_ltI, nN_leI, nI_ltN, nI_leN, nN_nN, nN_leN, bI_e0, bI_e1, bt_shr, nI_sub_lt, ntT, ntF, nlT, nlF, neT, neF, gv_X_20_5, pv_X_20_5, e0, e2, ush16, v_iz, e1]
theorem xE_seed {E : List Ev} {μ : am_M} (h : xE 20 E μ) (v : Int32) : xE 20 E (am_up μ 20 5 v) := by
  refine ⟨by rw [am_up_ne _ _ (by omega)]; exact h.1, fun i e he => ?_⟩
  obtain ⟨h1, h2, h3, h4⟩ := h.2 i e he
  exact ⟨by rw [am_up_ne _ _ (by omega)]; exact h1, by rw [am_up_ne _ _ (by omega)]; exact h2, by rw [am_up_ne _ _ (by omega)]; exact h3, by rw [am_up_ne _ _ (by omega)]; exact h4⟩
theorem f_draw {m n : Nat} (hm8 : m ≤ 8) (hn : n ≤ 8) (seed : Int32) (μ : am_M) : ∃ μ', f_X1_draw [vR 20, vI seed, vI (nI n), vI (nI m)] μ = some (none, μ') ∧ xE 20 (ctE m seed n) μ' ∧ Fr (fun a => 20 ≤ a ∧ a < 25) μ μ' := by
  unfold f_X1_draw g_X1_draw
  generalize hc1 : (b_and (b_2 .lt (e_li 4) (e_li 2)) (b_z .gt (e_li 3))) = c1; generalize hb1 : (s_sq (s_bk (s_sq (s_as (o_si 8 5) (e_k (am_cl ShX 1 1 f_X1_lot) (a_1 (e_lr 0) (a_1 (e_i 3) a_0)))) (s_sq (s_as (o_si 8 6) (e_k (am_cl ShX 1 1 f_X1_lot) (a_1 (e_lr 0) (a_1 (e_i 20) a_0)))) (s_sq (s_as (o_si 8 7) (e_k (am_cl ShX 1 1 f_X1_lot) (a_1 (e_lr 0) (a_1 (e_li 3) a_0)))) (s_k (am_cl ShX 1 4 f_X1_tell) (a_1 (e_lr 0) (a_1 (e_li 5) (a_1 (e_li 6) (a_1 (e_li 7) (a_1 (e_k (am_cl ShX 1 1 f_X1_lot) (a_1 (e_lr 0) (a_1 (e_i 10) a_0))) a_0)))))))))) (s_inc 8 4 1)) = b1
  have x0 : xE 20 [] (am_up (am_up μ 20 0 (nI 0)) 20 5 seed) := ⟨by rw [am_up_ne _ _ (by omega), am_up_eq]; rfl, fun i e he => by simp at he⟩
  have fr0 : Fr (fun a => 20 ≤ a ∧ a < 25) μ (am_up (am_up μ 20 0 (nI 0)) 20 5 seed) := (Fr.rf.up (by omega)).up (by omega)
  unfold ctE
  by_cases hm : m = 0
  · subst hm
    rw [if_pos rfl]
    refine ⟨_, ?_, x0, fr0⟩
    have e1 : s_lp c1 b1 [vR 20, vI seed, vI (nI n), vI (nI 0), vI (nI 0)] (am_up (am_up μ 20 0 (nI 0)) 20 5 seed) = some (.inl ([vR 20, vI seed, vI (nI n), vI (nI 0), vI (nI 0)], am_up (am_up μ 20 0 (nI 0)) 20 5 seed)) := by
      apply bf_c
      subst hc1
      by_cases h0 : 0 < n
      · simp (disch := first | omega | assumption | exact Or.inl rfl | exact Or.inr rfl | exact bI_ok _) [v_bd, mp_s, v_en, v_k, v_li, li_s, v_ll, ll_s, v_lr, lr_s, v_eu, v_ku, v_eb, v_kb1, v_kb2, v_ec, kc_t, kc_f, v_bz, kz_I, v_b2, v_k21, k22_I, v_and, kan_t, kan_f, v_or, kor_t, kor_f, v_not, v_knt, v_a0, v_a1, v_ka1, v_ka2, v_ek, v_kk, kkr_s, v_sk, v_ks, ksr_s, v_pop, kpop_I, kase_s, v_as, v_kas, v_inc, kme_s, v_pf, v_kpf1, v_kpf2, v_po, v_kpo1, v_kpo2, v_kpo3, v_kpo4, v_ia, v_kia1, v_kia2, v_kia3, v_io, v_kio1, v_kio2, v_kio3, v_kio4, v_kio5, v_s0, v_sq, sqk_l, sqk_r, v_if, kif_t, kif_f, v_no, nok_r, v_bk, bkk_l, bkk_r, v_rtI, krI_s, v_rtL, krL_s, v_rv, v_sw, ksw_I, ksw2_s, v_fn, fnl_t, fnk_r, fnr_t, nr_I, nr_L, nr_n, nr_b, nr_0, nr_1, nr_R, v_cl, v_cs, clk_t, m2_I, m1_I, v_si, v_sr, sik_t, v_sl, slk_t, v_oinc, inck_s, se_0, se_n, se_s, v_nl, v_nl0, nlo_I, nlo_R, nlo_U, nlo_n, v_ii, v_jj, v_ji, v_jc, v_iz, v_iu, v_i2l, c0_eq, c0_ne, c0_lt, c0_ge, c0_gt, c0_le, c2_eq, c2_ne, c2_lt, c2_ge, c2_gt, c2_le, en_n, en_I, en_R, en_L, List.getElem?_cons_zero, List.getElem?_cons_succ, List.getElem?_nil, List.length_cons, List.length_nil, List.take_succ_cons, List.take_zero, List.cons_append, List.nil_append, nI_lit, nN_lit, nI_eq, nI_ltI, nI_leI, nI_add, pk_mul, pk_sub, nI_eN, nN_eI, nN_ltI, nN_leI, nI_ltN, nI_leN, nN_nN, nN_leN, bI_e0, bI_e1, bt_shr, nI_sub_lt, ntT, ntF, nlT, nlF, neT, neF, h0]
      · simp (disch := first | omega | assumption | exact Or.inl rfl | exact Or.inr rfl | exact bI_ok _) [v_bd, mp_s, v_en, v_k, v_li, li_s, v_ll, ll_s, v_lr, lr_s, v_eu, v_ku, v_eb, v_kb1, v_kb2, v_ec, kc_t, kc_f, v_bz, kz_I, v_b2, v_k21, k22_I, v_and, kan_t, kan_f, v_or, kor_t, kor_f, v_not, v_knt, v_a0, v_a1, v_ka1, v_ka2, v_ek, v_kk, kkr_s, v_sk, v_ks, ksr_s, v_pop, kpop_I, kase_s, v_as, v_kas, v_inc, kme_s, v_pf, v_kpf1, v_kpf2, v_po, v_kpo1, v_kpo2, v_kpo3, v_kpo4, v_ia, v_kia1, v_kia2, v_kia3, v_io, v_kio1, v_kio2, v_kio3, v_kio4, v_kio5, v_s0, v_sq, sqk_l, sqk_r, v_if, kif_t, kif_f, v_no, nok_r, v_bk, bkk_l, bkk_r, v_rtI, krI_s, v_rtL, krL_s, v_rv, v_sw, ksw_I, ksw2_s, v_fn, fnl_t, fnk_r, fnr_t, nr_I, nr_L, nr_n, nr_b, nr_0, nr_1, nr_R, v_cl, v_cs, clk_t, m2_I, m1_I, v_si, v_sr, sik_t, v_sl, slk_t, v_oinc, inck_s, se_0, se_n, se_s, v_nl, v_nl0, nlo_I, nlo_R, nlo_U, nlo_n, v_ii, v_jj, v_ji, v_jc, v_iz, v_iu, v_i2l, c0_eq, c0_ne, c0_lt, c0_ge, c0_gt, c0_le, c2_eq, c2_ne, c2_lt, c2_ge, c2_gt, c2_le, en_n, en_I, en_R, en_L, List.getElem?_cons_zero, List.getElem?_cons_succ, List.getElem?_nil, List.length_cons, List.length_nil, List.take_succ_cons, List.take_zero, List.cons_append, List.nil_append, nI_lit, nN_lit, nI_eq, nI_ltI, nI_leI, nI_add, pk_mul, pk_sub, nI_eN, nN_eI, nN_ltI, nN_leI, nI_ltN, nI_leN, nN_nN, nN_leN, bI_e0, bI_e1, bt_shr, nI_sub_lt, ntT, ntF, nlT, nlF, neT, neF, h0]
    simp (disch := first | omega | assumption | exact Or.inl rfl | exact Or.inr rfl | exact bI_ok _) [v_bd, mp_s, v_en, v_k, v_li, li_s, v_ll, ll_s, v_lr, lr_s, v_eu, v_ku, v_eb, v_kb1, v_kb2, v_ec, kc_t, kc_f, v_bz, kz_I, v_b2, v_k21, k22_I, v_and, kan_t, kan_f, v_or, kor_t, kor_f, v_not, v_knt, v_a0, v_a1, v_ka1, v_ka2, v_ek, v_kk, kkr_s, v_sk, v_ks, ksr_s, v_pop, kpop_I, kase_s, v_as, v_kas, v_inc, kme_s, v_pf, v_kpf1, v_kpf2, v_po, v_kpo1, v_kpo2, v_kpo3, v_kpo4, v_ia, v_kia1, v_kia2, v_kia3, v_io, v_kio1, v_kio2, v_kio3, v_kio4, v_kio5, v_s0, v_sq, sqk_l, sqk_r, v_if, kif_t, kif_f, v_no, nok_r, v_bk, bkk_l, bkk_r, v_rtI, krI_s, v_rtL, krL_s, v_rv, v_sw, ksw_I, ksw2_s, v_fn, fnl_t, fnk_r, fnr_t, nr_I, nr_L, nr_n, nr_b, nr_0, nr_1, nr_R, v_cl, v_cs, clk_t, m2_I, m1_I, v_si, v_sr, sik_t, v_sl, slk_t, v_oinc, inck_s, se_0, se_n, se_s, v_nl, v_nl0, nlo_I, nlo_R, nlo_U, nlo_n, v_ii, v_jj, v_ji, v_jc, v_iz, v_iu, v_i2l, c0_eq, c0_ne, c0_lt, c0_ge, c0_gt, c0_le, c2_eq, c2_ne, c2_lt, c2_ge, c2_gt, c2_le, en_n, en_I, en_R, en_L, List.getElem?_cons_zero, List.getElem?_cons_succ, List.getElem?_nil, List.length_cons, List.length_nil, List.take_succ_cons, List.take_zero, List.cons_append, List.nil_append, nI_lit, nN_lit, nI_eq, nI_ltI, nI_leI, nI_add, pk_mul, pk_sub, nI_eN, nN_eI, nN_ltI, nN_leI, nI_ltN, nI_leN, nN_nN, nN_leN, bI_e0, bI_e1, bt_shr, nI_sub_lt, ntT, ntF, nlT, nlF, neT, neF, pv_X_20_0, pv_X_20_5, e1]
  · rw [if_neg hm]
    have key := lp_inv (c := c1) (b := b1) (fun i e μ' => e = [vR 20, vI seed, vI (nI n), vI (nI m), vI (nI i)] ∧ xE 20 (drE m seed i).1 μ' ∧ μ' 20 5 = (drE m seed i).2 ∧ Fr (fun a => 20 ≤ a ∧ a < 25) μ μ') n ?_ ?_ n 0 _ (am_up (am_up μ 20 0 (nI 0)) 20 5 seed) (by omega) ⟨rfl, x0, am_up_eq _ _ _ _, fr0⟩
    · obtain ⟨e', μ2, h1, rfl, h2, h3, h4⟩ := key
      exact ⟨μ2, by simp (disch := first | omega | assumption | exact Or.inl rfl | exact Or.inr rfl | exact bI_ok _) [v_bd, mp_s, v_en, v_k, v_li, li_s, v_ll, ll_s, v_lr, lr_s, v_eu, v_ku, v_eb, v_kb1, v_kb2, v_ec, kc_t, kc_f, v_bz, kz_I, v_b2, v_k21, k22_I, v_and, kan_t, kan_f, v_or, kor_t, kor_f, v_not, v_knt, v_a0, v_a1, v_ka1, v_ka2, v_ek, v_kk, kkr_s, v_sk, v_ks, ksr_s, v_pop, kpop_I, kase_s, v_as, v_kas, v_inc, kme_s, v_pf, v_kpf1, v_kpf2, v_po, v_kpo1, v_kpo2, v_kpo3, v_kpo4, v_ia, v_kia1, v_kia2, v_kia3, v_io, v_kio1, v_kio2, v_kio3, v_kio4, v_kio5, v_s0, v_sq, sqk_l, sqk_r, v_if, kif_t, kif_f, v_no, nok_r, v_bk, bkk_l, bkk_r, v_rtI, krI_s, v_rtL, krL_s, v_rv, v_sw, ksw_I, ksw2_s, v_fn, fnl_t, fnk_r, fnr_t, nr_I, nr_L, nr_n, nr_b, nr_0, nr_1, nr_R, v_cl, v_cs, clk_t, m2_I, m1_I, v_si, v_sr, sik_t, v_sl, slk_t, v_oinc, inck_s, se_0, se_n, se_s, v_nl, v_nl0, nlo_I, nlo_R, nlo_U, nlo_n, v_ii, v_jj, v_ji, v_jc, v_iz, v_iu, v_i2l, c0_eq, c0_ne, c0_lt, c0_ge, c0_gt, c0_le, c2_eq, c2_ne, c2_lt, c2_ge, c2_gt, c2_le, en_n, en_I, en_R, en_L, List.getElem?_cons_zero, List.getElem?_cons_succ, List.getElem?_nil, List.length_cons, List.length_nil, List.take_succ_cons, List.take_zero, List.cons_append, List.nil_append, nI_lit, nN_lit, nI_eq, nI_ltI, nI_leI, nI_add, pk_mul, pk_sub, nI_eN, nN_eI, nN_ltI, nN_leI, nI_ltN, nI_leN, nN_nN, nN_leN, bI_e0, bI_e1, bt_shr, nI_sub_lt, ntT, ntF, nlT, nlF, neT, neF, pv_X_20_0, pv_X_20_5, h1], h2, h4⟩
    · rintro i e μ2 hi ⟨rfl, i2, i3, i4⟩
      subst hc1 hb1
      refine ⟨by simp (disch := first | omega | assumption | exact Or.inl rfl | exact Or.inr rfl | exact bI_ok _) [v_bd, mp_s, v_en, v_k, v_li, li_s, v_ll, ll_s, v_lr, lr_s, v_eu, v_ku, v_eb, v_kb1, v_kb2, v_ec, kc_t, kc_f, v_bz, kz_I, v_b2, v_k21, k22_I, v_and, kan_t, kan_f, v_or, kor_t, kor_f, v_not, v_knt, v_a0, v_a1, v_ka1, v_ka2, v_ek, v_kk, kkr_s, v_sk, v_ks, ksr_s, v_pop, kpop_I, kase_s, v_as, v_kas, v_inc, kme_s, v_pf, v_kpf1, v_kpf2, v_po, v_kpo1, v_kpo2, v_kpo3, v_kpo4, v_ia, v_kia1, v_kia2, v_kia3, v_io, v_kio1, v_kio2, v_kio3, v_kio4, v_kio5, v_s0, v_sq, sqk_l, sqk_r, v_if, kif_t, kif_f, v_no, nok_r, v_bk, bkk_l, bkk_r, v_rtI, krI_s, v_rtL, krL_s, v_rv, v_sw, ksw_I, ksw2_s, v_fn, fnl_t, fnk_r, fnr_t, nr_I, nr_L, nr_n, nr_b, nr_0, nr_1, nr_R, v_cl, v_cs, clk_t, m2_I, m1_I, v_si, v_sr, sik_t, v_sl, slk_t, v_oinc, inck_s, se_0, se_n, se_s, v_nl, v_nl0, nlo_I, nlo_R, nlo_U, nlo_n, v_ii, v_jj, v_ji, v_jc, v_iz, v_iu, v_i2l, c0_eq, c0_ne, c0_lt, c0_ge, c0_gt, c0_le, c2_eq, c2_ne, c2_lt, c2_ge, c2_gt, c2_le, en_n, en_I, en_R, en_L, List.getElem?_cons_zero, List.getElem?_cons_succ, List.getElem?_nil, List.length_cons, List.length_nil, List.take_succ_cons, List.take_zero, List.cons_append, List.nil_append, nI_lit, nN_lit, nI_eq, nI_ltI, nI_leI, nI_add, pk_mul, pk_sub, nI_eN, nN_eI, nN_ltI, nN_leI, nI_ltN, nI_leN, nN_nN, nN_leN, bI_e0, bI_e1, bt_shr, nI_sub_lt, ntT, ntF, nlT, nlF, neT, neF, ], ?_⟩
      generalize hs : (drE m seed i).2 = s at i3
      have g1 := f_lotX (m := 3) (by omega) (by omega) μ2
      rw [i3] at g1
      have g2 := f_lotX (m := 20) (by omega) (by omega) (am_up μ2 20 5 (nxt s))
      rw [am_up_eq] at g2
      have g3 := f_lotX (m := m) (by omega) (by omega) (am_up (am_up μ2 20 5 (nxt s)) 20 5 (nxt (nxt s)))
      rw [am_up_eq] at g3
      have g4 := f_lotX (m := 10) (by omega) (by omega) (am_up (am_up (am_up μ2 20 5 (nxt s)) 20 5 (nxt (nxt s))) 20 5 (nxt (nxt (nxt s))))
      rw [am_up_eq] at g4
      generalize e4 : am_up (am_up (am_up (am_up μ2 20 5 (nxt s)) 20 5 (nxt (nxt s))) 20 5 (nxt (nxt (nxt s)))) 20 5 (nxt (nxt (nxt (nxt s)))) = μ6 at g4
      have x6 : xE 20 (drE m seed i).1 μ6 := by rw [← e4]; exact xE_seed (xE_seed (xE_seed (xE_seed i2 _) _) _) _
      have s6 : μ6 20 5 = nxt (nxt (nxt (nxt s))) := by rw [← e4, am_up_eq]
      have fr6 : Fr (fun a => 20 ≤ a ∧ a < 25) μ μ6 := by rw [← e4]; exact (((i4.up (by omega)).up (by omega)).up (by omega)).up (by omega)
      have y0 : μ6 20 0 = nI i := by rw [x6.1, drE_len]
      have g5 := f_tell20 (n := i) (by omega) y0 (nI (hi16 (nxt s) % 3)) (nI (hi16 (nxt (nxt s)) % 20)) (nI (hi16 (nxt (nxt (nxt s))) % m)) (nI (hi16 (nxt (nxt (nxt (nxt s)))) % 10))
      have x7 := xE_tell x6 (n := i) (by rw [drE_len]) (drV m s)
      refine ⟨_, upE 20 i (nI (hi16 (nxt s) % 3), nI (hi16 (nxt (nxt s)) % 20), nI (hi16 (nxt (nxt (nxt s))) % m), nI (hi16 (nxt (nxt (nxt (nxt s)))) % 10)) μ6, by simp (disch := first | omega | assumption | exact Or.inl rfl | exact Or.inr rfl | exact bI_ok _) [v_bd, mp_s, v_en, v_k, v_li, li_s, v_ll, ll_s, v_lr, lr_s, v_eu, v_ku, v_eb, v_kb1, v_kb2, v_ec, kc_t, kc_f, v_bz, kz_I, v_b2, v_k21, k22_I, v_and, kan_t, kan_f, v_or, kor_t, kor_f, v_not, v_knt, v_a0, v_a1, v_ka1, v_ka2, v_ek, v_kk, kkr_s, v_sk, v_ks, ksr_s, v_pop, kpop_I, kase_s, v_as, v_kas, v_inc, kme_s, v_pf, v_kpf1, v_kpf2, v_po, v_kpo1, v_kpo2, v_kpo3, v_kpo4, v_ia, v_kia1, v_kia2, v_kia3, v_io, v_kio1, v_kio2, v_kio3, v_kio4, v_kio5, v_s0, v_sq, sqk_l, sqk_r, v_if, kif_t, kif_f, v_no, nok_r, v_bk, bkk_l, bkk_r, v_rtI, krI_s, v_rtL, krL_s, v_rv, v_sw, ksw_I, ksw2_s, v_fn, fnl_t, fnk_r, fnr_t, nr_I, nr_L, nr_n, nr_b, nr_0, nr_1, nr_R, v_cl, v_cs, clk_t, m2_I, m1_I, v_si, v_sr, sik_t, v_sl, slk_t, v_oinc, inck_s, se_0, se_n, se_s, v_nl, v_nl0, nlo_I, nlo_R, nlo_U, nlo_n, v_ii, v_jj, v_ji, v_jc, v_iz, v_iu, v_i2l, c0_eq, c0_ne, c0_lt, c0_ge, c0_gt, c0_le, c2_eq, c2_ne, c2_lt, c2_ge, c2_gt, c2_le, en_n, en_I, en_R, en_L, List.getElem?_cons_zero, List.getElem?_cons_succ, List.getElem?_nil, List.length_cons, List.length_nil, List.take_succ_cons, List.take_zero, List.cons_append, List.nil_append, nI_lit, nN_lit, nI_eq, nI_ltI, nI_leI, nI_add, pk_mul, pk_sub, nI_eN, nN_eI, nN_ltI, nN_leI, nI_ltN, nI_leN, nN_nN, nN_leN, bI_e0, bI_e1, bt_shr, nI_sub_lt, ntT, ntF, nlT, nlF, neT, neF, ck_X_20, g1, g2, g3, g4, g5], rfl, ?_, ?_, fun a b hab => ?_⟩
      · show xE 20 ((drE m seed i).1 ++ [drV m (drE m seed i).2]) _
        rw [hs]
        exact x7
      · show _ = nxt (nxt (nxt (nxt (drE m seed i).2)))
        rw [hs]
        unfold upE
        rw [am_up_ne _ _ (by omega), am_up_ne _ _ (by omega), am_up_ne _ _ (by omega), am_up_ne _ _ (by omega), am_up_ne _ _ (by omega)]
        exact s6
      · rw [upE_ne (by omega)]; exact fr6 a b hab
    · rintro e μ2 ⟨rfl, i2, i3, i4⟩
      subst hc1
      simp (disch := first | omega | assumption | exact Or.inl rfl | exact Or.inr rfl | exact bI_ok _) [v_bd, mp_s, v_en, v_k, v_li, li_s, v_ll, ll_s, v_lr, lr_s, v_eu, v_ku, v_eb, v_kb1, v_kb2, v_ec, kc_t, kc_f, v_bz, kz_I, v_b2, v_k21, k22_I, v_and, kan_t, kan_f, v_or, kor_t, kor_f, v_not, v_knt, v_a0, v_a1, v_ka1, v_ka2, v_ek, v_kk, kkr_s, v_sk, v_ks, ksr_s, v_pop, kpop_I, kase_s, v_as, v_kas, v_inc, kme_s, v_pf, v_kpf1, v_kpf2, v_po, v_kpo1, v_kpo2, v_kpo3, v_kpo4, v_ia, v_kia1, v_kia2, v_kia3, v_io, v_kio1, v_kio2, v_kio3, v_kio4, v_kio5, v_s0, v_sq, sqk_l, sqk_r, v_if, kif_t, kif_f, v_no, nok_r, v_bk, bkk_l, bkk_r, v_rtI, krI_s, v_rtL, krL_s, v_rv, v_sw, ksw_I, ksw2_s, v_fn, fnl_t, fnk_r, fnr_t, nr_I, nr_L, nr_n, nr_b, nr_0, nr_1, nr_R, v_cl, v_cs, clk_t, m2_I, m1_I, v_si, v_sr, sik_t, v_sl, slk_t, v_oinc, inck_s, se_0, se_n, se_s, v_nl, v_nl0, nlo_I, nlo_R, nlo_U, nlo_n, v_ii, v_jj, v_ji, v_jc, v_iz, v_iu, v_i2l, c0_eq, c0_ne, c0_lt, c0_ge, c0_gt, c0_le, c2_eq, c2_ne, c2_lt, c2_ge, c2_gt, c2_le, en_n, en_I, en_R, en_L, List.getElem?_cons_zero, List.getElem?_cons_succ, List.getElem?_nil, List.length_cons, List.length_nil, List.take_succ_cons, List.take_zero, List.cons_append, List.nil_append, nI_lit, nN_lit, nI_eq, nI_ltI, nI_leI, nI_add, pk_mul, pk_sub, nI_eN, nN_eI, nN_ltI, nN_leI, nI_ltN, nI_leN, nN_nN, nN_leN, bI_e0, bI_e1, bt_shr, nI_sub_lt, ntT, ntF, nlT, nlF, neT, neF, ]
/-- how many are void, how many are read -/
def vCent (σ : Sg) (seed : Int32) (n w : Nat) : Int32 := if w = 0 then nI (cnt (vdS (oD σ) (ctE (dn (oD σ)) seed n) noE 19) (dn (oD σ))) else nI (wsz (oD σ) (oT σ) (hgG (oD σ) (ctE (dn (oD σ)) seed n) noE) (sT σ 2))
theorem xq_cent_bad {σ : Sg} {s x w : Int32} (h : (rg x 9 && rg w 2) = false) : QX f_X10_century [vI s, vI x, vI w] σ (vI (-2)) := by
  intro μ hc
  refine ⟨μ, ?_, hc⟩
  unfold f_X10_century g_X10_century
  cases h1 : rg x 9
  · simp (disch := first | omega | assumption | exact Or.inl rfl | exact Or.inr rfl | exact bI_ok _) [v_bd, mp_s, v_en, v_k, v_li, li_s, v_ll, ll_s, v_lr, lr_s, v_eu, v_ku, v_eb, v_kb1, v_kb2, v_ec, kc_t, kc_f, v_bz, kz_I, v_b2, v_k21, k22_I, v_and, kan_t, kan_f, v_or, kor_t, kor_f, v_not, v_knt, v_a0, v_a1, v_ka1, v_ka2, v_ek, v_kk, kkr_s, v_sk, v_ks, ksr_s, v_pop, kpop_I, kase_s, v_as, v_kas, v_inc, kme_s, v_pf, v_kpf1, v_kpf2, v_po, v_kpo1, v_kpo2, v_kpo3, v_kpo4, v_ia, v_kia1, v_kia2, v_kia3, v_io, v_kio1, v_kio2, v_kio3, v_kio4, v_kio5, v_s0, v_sq, sqk_l, sqk_r, v_if, kif_t, kif_f, v_no, nok_r, v_bk, bkk_l, bkk_r, v_rtI, krI_s, v_rtL, krL_s, v_rv, v_sw, ksw_I, ksw2_s, v_fn, fnl_t, fnk_r, fnr_t, nr_I, nr_L, nr_n, nr_b, nr_0, nr_1, nr_R, v_cl, v_cs, clk_t, m2_I, m1_I, v_si, v_sr, sik_t, v_sl, slk_t, v_oinc, inck_s, se_0, se_n, se_s, v_nl, v_nl0, nlo_I, nlo_R, nlo_U, nlo_n, v_ii, v_jj, v_ji, v_jc, v_iz, v_iu, v_i2l, c0_eq, c0_ne, c0_lt, c0_ge, c0_gt, c0_le, c2_eq, c2_ne, c2_lt, c2_ge, c2_gt, c2_le, en_n, en_I, en_R, en_L, List.getElem?_cons_zero, List.getElem?_cons_succ, List.getElem?_nil, List.length_cons, List.length_nil, List.take_succ_cons, List.take_zero, List.cons_append, List.nil_append, nI_lit, nN_lit, nI_eq, nI_ltI, nI_leI, nI_add, pk_mul, pk_sub, nI_eN, nN_eI, nN_ltI, nN_leI, nI_ltN, nI_leN, nN_nN, nN_leN, bI_e0, bI_e1, bt_shr, nI_sub_lt, ntT, ntF, nlT, nlF, neT, neF, f_within_n, h1]
  · rw [h1, Bool.true_and] at h
    simp (disch := first | omega | assumption | exact Or.inl rfl | exact Or.inr rfl | exact bI_ok _) [v_bd, mp_s, v_en, v_k, v_li, li_s, v_ll, ll_s, v_lr, lr_s, v_eu, v_ku, v_eb, v_kb1, v_kb2, v_ec, kc_t, kc_f, v_bz, kz_I, v_b2, v_k21, k22_I, v_and, kan_t, kan_f, v_or, kor_t, kor_f, v_not, v_knt, v_a0, v_a1, v_ka1, v_ka2, v_ek, v_kk, kkr_s, v_sk, v_ks, ksr_s, v_pop, kpop_I, kase_s, v_as, v_kas, v_inc, kme_s, v_pf, v_kpf1, v_kpf2, v_po, v_kpo1, v_kpo2, v_kpo3, v_kpo4, v_ia, v_kia1, v_kia2, v_kia3, v_io, v_kio1, v_kio2, v_kio3, v_kio4, v_kio5, v_s0, v_sq, sqk_l, sqk_r, v_if, kif_t, kif_f, v_no, nok_r, v_bk, bkk_l, bkk_r, v_rtI, krI_s, v_rtL, krL_s, v_rv, v_sw, ksw_I, ksw2_s, v_fn, fnl_t, fnk_r, fnr_t, nr_I, nr_L, nr_n, nr_b, nr_0, nr_1, nr_R, v_cl, v_cs, clk_t, m2_I, m1_I, v_si, v_sr, sik_t, v_sl, slk_t, v_oinc, inck_s, se_0, se_n, se_s, v_nl, v_nl0, nlo_I, nlo_R, nlo_U, nlo_n, v_ii, v_jj, v_ji, v_jc, v_iz, v_iu, v_i2l, c0_eq, c0_ne, c0_lt, c0_ge, c0_gt, c0_le, c2_eq, c2_ne, c2_lt, c2_ge, c2_gt, c2_le, en_n, en_I, en_R, en_L, List.getElem?_cons_zero, List.getElem?_cons_succ, List.getElem?_nil, List.length_cons, List.length_nil, List.take_succ_cons, List.take_zero, List.cons_append, List.nil_append, nI_lit, nN_lit, nI_eq, nI_ltI, nI_leI, nI_add, pk_mul, pk_sub, nI_eN, nN_eI, nN_ltI, nN_leI, nI_ltN, nI_leN, nN_nN, nN_leN, bI_e0, bI_e1, bt_shr, nI_sub_lt, ntT, ntF, nlT, nlF, neT, neF, f_within_n, h1, h]
theorem xq_cent {σ : Sg} (hw : wfS σ) (seed : Int32) {n w : Nat} (hn : n < 9) (h2 : w < 2) : QX f_X10_century [vI seed, vI (nI n), vI (nI w)] σ (vI (vCent σ seed n w)) := by
  intro μ hc
  obtain ⟨μ', a1, a2⟩ := f_freshen hw hc
  have hwD := oD_wf σ
  have w0 := hwD.1
  obtain ⟨T2, T2b⟩ := hw.1 2 (by decide)
  have T2 : (sT σ 2).length ≤ 8 := T2
  have y0 := a2.2.2.1.2.2.2.1.1
  obtain ⟨μ1, d1, d2, d3⟩ := f_draw (m := dn (oD σ)) (n := n) w0 (by omega) seed μ'
  have hR1 : Rd σ μ1 := a2.kept (d3.mo (fun a ha => by unfold Scr; omega))
  have hE := ctE_wf w0 seed (n := n) (by omega)
  unfold f_X10_century g_X10_century vCent
  have e1 : w = 0 ∨ w = 1 := by omega
  rcases e1 with rfl | rfl
  · have f1 := f_voidBits' (ev := 20) (Or.inr rfl) hwD hE d2 hR1.2.2.1.2.2.2.1.1 hR1.2.2.1.2.2.2.2.2.1 (h := 19) (by omega)
    have f2 := f_bitCount (vVoids (oD σ) (ctE (dn (oD σ)) seed n) 19) μ1
    rw [show vVoids (oD σ) (ctE (dn (oD σ)) seed n) 19 = bitF (vdS (oD σ) (ctE (dn (oD σ)) seed n) noE 19) (dn (oD σ)) from rfl] at f1 f2
    rw [bc_cnt _ w0] at f2
    refine ⟨μ1, ?_, hR1.xc⟩
    simp (disch := first | omega | assumption | exact Or.inl rfl | exact Or.inr rfl | exact bI_ok _) [v_bd, mp_s, v_en, v_k, v_li, li_s, v_ll, ll_s, v_lr, lr_s, v_eu, v_ku, v_eb, v_kb1, v_kb2, v_ec, kc_t, kc_f, v_bz, kz_I, v_b2, v_k21, k22_I, v_and, kan_t, kan_f, v_or, kor_t, kor_f, v_not, v_knt, v_a0, v_a1, v_ka1, v_ka2, v_ek, v_kk, kkr_s, v_sk, v_ks, ksr_s, v_pop, kpop_I, kase_s, v_as, v_kas, v_inc, kme_s, v_pf, v_kpf1, v_kpf2, v_po, v_kpo1, v_kpo2, v_kpo3, v_kpo4, v_ia, v_kia1, v_kia2, v_kia3, v_io, v_kio1, v_kio2, v_kio3, v_kio4, v_kio5, v_s0, v_sq, sqk_l, sqk_r, v_if, kif_t, kif_f, v_no, nok_r, v_bk, bkk_l, bkk_r, v_rtI, krI_s, v_rtL, krL_s, v_rv, v_sw, ksw_I, ksw2_s, v_fn, fnl_t, fnk_r, fnr_t, nr_I, nr_L, nr_n, nr_b, nr_0, nr_1, nr_R, v_cl, v_cs, clk_t, m2_I, m1_I, v_si, v_sr, sik_t, v_sl, slk_t, v_oinc, inck_s, se_0, se_n, se_s, v_nl, v_nl0, nlo_I, nlo_R, nlo_U, nlo_n, v_ii, v_jj, v_ji, v_jc, v_iz, v_iu, v_i2l, c0_eq, c0_ne, c0_lt, c0_ge, c0_gt, c0_le, c2_eq, c2_ne, c2_lt, c2_ge, c2_gt, c2_le, en_n, en_I, en_R, en_L, List.getElem?_cons_zero, List.getElem?_cons_succ, List.getElem?_nil, List.length_cons, List.length_nil, List.take_succ_cons, List.take_zero, List.cons_append, List.nil_append, nI_lit, nN_lit, nI_eq, nI_ltI, nI_leI, nI_add, pk_mul, pk_sub, nI_eN, nN_eI, nN_ltI, nN_leI, nI_ltN, nI_leN, nN_nN, nN_leN, bI_e0, bI_e1, bt_shr, nI_sub_lt, ntT, ntF, nlT, nlF, neT, neF, f_within_n, rg_nI, ck_X_0, a1, gv_X_0_6, gv_X_0_3, gv_X_7_0, y0, ck_X_20, d1, f1, f2]
  · have y1 := hR1.2.2.1.2.2.2.1.1
    obtain ⟨μ2, g1, g2, g3⟩ := f_hangAll (sh := 51) (base := 53) (ev := 20) (D := oD σ) (E := ctE (dn (oD σ)) seed n) (t := oT σ) (μ := μ1) (Or.inr ⟨rfl, rfl⟩) (Or.inr rfl) hwD hR1.2.2.1.2.2.2.1 hE d2 (oT_lt σ) hR1.2.2.1.2.2.2.2.2.2.1
    have hR2 : Rd σ μ2 := hR1.kept (g3.mo (fun a ha => by unfold Scr; omega))
    have y2 := hR2.2.2.1.2.2.2.1.1
    obtain ⟨μ3, k1, k2, k3⟩ := f_go (wc := 79) (sh := 51) (base := 53) (D := oD σ) (t := oT σ) (H := hgT (oD σ) (ctE (dn (oD σ)) seed n)) (T := sT σ 2) (μ := μ2) (Or.inr rfl) (Or.inr ⟨rfl, rfl⟩) hwD g2 (fun s h => hng_lt hE (hwD.2.1 s)) T2 T2b (hR2.1.1.xt (t := 2) (by decide)) hR2.2.2.1.2.2.1
    have hR3 : Rd σ μ3 := hR2.kept (k3.mo (fun a ha => by unfold Scr; omega))
    have z1 : μ3 79 0 = nI (wsz (oD σ) (oT σ) (hgG (oD σ) (ctE (dn (oD σ)) seed n) noE) (sT σ 2)) := k2.1
    refine ⟨μ3, ?_, hR3.xc⟩
    simp (disch := first | omega | assumption | exact Or.inl rfl | exact Or.inr rfl | exact bI_ok _) [v_bd, mp_s, v_en, v_k, v_li, li_s, v_ll, ll_s, v_lr, lr_s, v_eu, v_ku, v_eb, v_kb1, v_kb2, v_ec, kc_t, kc_f, v_bz, kz_I, v_b2, v_k21, k22_I, v_and, kan_t, kan_f, v_or, kor_t, kor_f, v_not, v_knt, v_a0, v_a1, v_ka1, v_ka2, v_ek, v_kk, kkr_s, v_sk, v_ks, ksr_s, v_pop, kpop_I, kase_s, v_as, v_kas, v_inc, kme_s, v_pf, v_kpf1, v_kpf2, v_po, v_kpo1, v_kpo2, v_kpo3, v_kpo4, v_ia, v_kia1, v_kia2, v_kia3, v_io, v_kio1, v_kio2, v_kio3, v_kio4, v_kio5, v_s0, v_sq, sqk_l, sqk_r, v_if, kif_t, kif_f, v_no, nok_r, v_bk, bkk_l, bkk_r, v_rtI, krI_s, v_rtL, krL_s, v_rv, v_sw, ksw_I, ksw2_s, v_fn, fnl_t, fnk_r, fnr_t, nr_I, nr_L, nr_n, nr_b, nr_0, nr_1, nr_R, v_cl, v_cs, clk_t, m2_I, m1_I, v_si, v_sr, sik_t, v_sl, slk_t, v_oinc, inck_s, se_0, se_n, se_s, v_nl, v_nl0, nlo_I, nlo_R, nlo_U, nlo_n, v_ii, v_jj, v_ji, v_jc, v_iz, v_iu, v_i2l, c0_eq, c0_ne, c0_lt, c0_ge, c0_gt, c0_le, c2_eq, c2_ne, c2_lt, c2_ge, c2_gt, c2_le, en_n, en_I, en_R, en_L, List.getElem?_cons_zero, List.getElem?_cons_succ, List.getElem?_nil, List.length_cons, List.length_nil, List.take_succ_cons, List.take_zero, List.cons_append, List.nil_append, nI_lit, nN_lit, nI_eq, nI_ltI, nI_leI, nI_add, pk_mul, pk_sub, nI_eN, nN_eI, nN_ltI, nN_leI, nI_ltN, nI_leN, nN_nN, nN_leN, bI_e0, bI_e1, bt_shr, nI_sub_lt, ntT, ntF, nlT, nlF, neT, neF, f_within_n, rg_nI, ck_X_0, a1, gv_X_0_6, gv_X_0_3, gv_X_7_0, y0, ck_X_20, d1, gv_X_0_8, gv_X_0_4, ck_X_51, g1, gv_X_0_10, y2, gv_X_0_2, ck_X_79, k1, gv_X_79_0, z1]
