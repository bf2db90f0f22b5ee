/-! fill: the reference -/
theorem dgt_0 {m c : Nat} (hc : c < 4 ^ (m + 1)) : dgt (m + 1) c 0 = c / 4 ^ m := by
  unfold dgt
  rw [show m + 1 - 1 - 0 = m by omega]
  refine Nat.mod_eq_of_lt (Nat.div_lt_of_lt_mul ?_)
  rw [Nat.pow_succ] at hc
  exact hc
theorem dgt_s {m c j : Nat} (hj : j < m) : dgt (m + 1) c (j + 1) = dgt m (c % 4 ^ m) j := by
  unfold dgt
  rw [show m + 1 - 1 - (j + 1) = m - 1 - j by omega]
  have e1 : 4 ^ m = 4 ^ (m - 1 - j) * (4 * 4 ^ j) := by rw [show 4 * 4 ^ j = 4 ^ (j + 1) by rw [Nat.pow_succ, Nat.mul_comm], ← Nat.pow_add, show m - 1 - j + (j + 1) = m by omega]
  rw [e1, Nat.mod_mul_right_div_self, Nat.mod_mul_right_mod]
theorem dgt_lt (m c j : Nat) : dgt m c j < 4 := Nat.mod_lt _ (by omega)
theorem vld_iff (B : Nat → Nat) : ∀ m i prev c, c < 4 ^ m → (vld B m i prev c = true ↔ ∀ j, j < m → alw B (i + j) (dgt m c j) = true ∧ unl (if j = 0 then prev else some (dgt m c (j - 1))) (dgt m c j) = true)
  | 0, i, prev, c, _ => ⟨fun _ j hj => by omega, fun _ => rfl⟩
  | m + 1, i, prev, c, hc => by
    have hM : 0 < 4 ^ m := Nat.pos_of_ne_zero (by simp)
    have ih := vld_iff B m (i + 1) (some (c / 4 ^ m)) (c % 4 ^ m) (Nat.mod_lt _ hM)
    have e0 := dgt_0 hc
    show (unl prev (c / 4 ^ m) && (alw B i (c / 4 ^ m) && vld B m (i + 1) (some (c / 4 ^ m)) (c % 4 ^ m))) = true ↔ _
    simp only [Bool.and_eq_true]
    rw [ih]
    refine ⟨fun ⟨h1, h2, h3⟩ j hj => ?_, fun h => ⟨?_, ?_, fun j hj => ?_⟩⟩
    · cases j with
      | zero =>
        rw [e0, if_pos rfl]
        exact ⟨h2, h1⟩
      | succ j =>
        obtain ⟨a1, a2⟩ := h3 j (by omega)
        rw [dgt_s (by omega), if_neg (by omega), Nat.add_sub_cancel]
        refine ⟨by rw [show i + (j + 1) = i + 1 + j by omega]; exact a1, ?_⟩
        cases j with
        | zero => rw [e0]; exact a2
        | succ j =>
          rw [if_neg (by omega)] at a2
          rw [dgt_s (by omega)]
          exact a2
    · have := (h 0 (by omega)).2
      rw [e0, if_pos rfl] at this
      exact this
    · have := (h 0 (by omega)).1
      rw [e0] at this
      exact this
    · obtain ⟨a1, a2⟩ := h (j + 1) (by omega)
      rw [dgt_s hj] at a1 a2
      refine ⟨by rw [show i + 1 + j = i + (j + 1) by omega]; exact a1, ?_⟩
      rw [if_neg (by omega), Nat.add_sub_cancel] at a2
      cases j with
      | zero => rw [e0] at a2; exact a2
      | succ j =>
        rw [if_neg (by omega)]
        rw [dgt_s (by omega)] at a2
        exact a2
def mb (B : Nat → Nat) (L c i : Nat) : Bool := alw B i (dgt L c i) && (decide (i = 0) || decide (¬ dgt L c i = dgt L c (i - 1)))
theorem mb_vld {B : Nat → Nat} {L c : Nat} (hc : c < 4 ^ L) : (!(anyB (fun i => !(mb B L c i)) L)) = vld B L 0 none c := by
  apply Bool.eq_iff_iff.mpr
  rw [vld_iff B L 0 none c hc, Bool.not_eq_true', ← Bool.not_eq_true, anyB_iff]
  refine ⟨fun h j hj => ?_, fun h ⟨j, hj, h2⟩ => ?_⟩
  · have h1 : mb B L c j = true := by
      cases hb : mb B L c j
      · exact absurd ⟨j, hj, by rw [hb]; rfl⟩ h
      · rfl
    unfold mb at h1
    simp only [Bool.and_eq_true, Bool.or_eq_true, decide_eq_true_eq] at h1
    refine ⟨by rw [Nat.zero_add]; exact h1.1, ?_⟩
    unfold unl
    rw [decide_eq_true_eq]
    by_cases h0 : j = 0
    · rw [if_pos h0]; simp
    · rw [if_neg h0]
      rcases h1.2 with h3 | h3
      · exact absurd h3 h0
      · intro h4
        exact h3 (Option.some.inj h4).symm
  · obtain ⟨a1, a2⟩ := h j hj
    rw [Nat.zero_add] at a1
    unfold unl at a2
    rw [decide_eq_true_eq] at a2
    have h1 : mb B L c j = true := by
      unfold mb
      rw [a1, Bool.true_and, Bool.or_eq_true, decide_eq_true_eq, decide_eq_true_eq]
      by_cases h0 : j = 0
      · exact Or.inl h0
      · rw [if_neg h0] at a2
        exact Or.inr (fun h4 => a2 (by rw [h4]))
    rw [h1] at h2
    cases h2
/-- an index that counts down; behind 0: NONE -/
def dnI (L t : Nat) : Int32 := if t < L then nI (L - 1 - t) else nN
theorem dnI_s {L t : Nat} (h : t < L) : nI (L - 1 - t) + nN = dnI L (t + 1) := by
  unfold dnI
  by_cases h1 : t + 1 < L
  · rw [if_pos h1, show L - 1 - t = (L - 1 - (t + 1)) + 1 by omega]
    exact pk_m1 _
  · rw [if_neg h1, show L - 1 - t = 0 by omega]
    decide
theorem nN_ge : (nI 0 ≤ nN) = False := eq_false (by decide)
theorem f_mayBe' {σ : Sg} {μ : am_M} (hw : wfS σ) (hF : Fnd σ μ) (hL : Lv σ μ) {h k c : Nat} (hh : h < 20) (hk : k < dn (oD σ)) (hc : c < 4 ^ dl (oD σ) k) : ∃ μ', f_X11_mayBe [vR 0, vI (nI c), vI (nI h), vI (nI k)] μ = some (some (vI (bI (vld (vBl σ h k) (dl (oD σ) k) 0 none c))), μ') ∧ (∀ j, j < dl (oD σ) k → μ' 23 j = nI (dgt (dl (oD σ) k) c j)) ∧ Fr (fun a => a = 23) μ μ' := by
  have w0 := (oD_wf σ).1
  have l3 := (oD_wf σ).2.2.2.1 k
  have l1 := (oD_wf σ).2.2.2.2.2 k hk
  have z3 := hF.2.1.2.2.2.1 k hk
  have cb : c < 4096 := Nat.lt_of_lt_of_le hc (by
    calc 4 ^ dl (oD σ) k ≤ 4 ^ 6 := Nat.pow_le_pow_right (by omega) l3
      _ = 4096 := by decide)
  generalize hLL : dl (oD σ) k = L at *
  unfold f_X11_mayBe g_X11_mayBe
  generalize hc1 : (b_z .ge (e_li 5)) = c1
  generalize hb1 : (s_sq (s_sq (s_ia ShM (e_gf ShM 11 29 (e_lr 0)) (e_li 5) (e_b o_irem (e_li 4) (e_i 4))) (s_as (o_si 7 4) (e_b o_idiv (e_li 4) (e_i 4)))) (s_inc 7 5 (-1))) = b1
  generalize hc2 : (b_2 .lt (e_li 6) (e_ald ShM (e_gf ShM 11 10 (e_lr 0)) (e_li 3))) = c2
  generalize hb2 : (s_sq (s_as (o_si 7 5) (e_c (b_and (b_and (b_z .ne (e_li 5)) (b_or (b_z .ne (e_k (am_cl ShM 11 3 f_X11_isPopped) (a_1 (e_lr 0) (a_1 (e_li 2) (a_1 (e_li 3) (a_1 (e_li 6) a_0)))))) (b_2 .eq (e_ald ShM (e_gf ShM 11 29 (e_lr 0)) (e_li 6)) (e_ald ShM (e_gf ShM 11 11 (e_lr 0)) (e_b o_iadd (e_b o_imul (e_i 6) (e_li 3)) (e_li 6)))))) (b_or (b_z .eq (e_li 6)) (b_2 .ne (e_ald ShM (e_gf ShM 11 29 (e_lr 0)) (e_li 6)) (e_ald ShM (e_gf ShM 11 29 (e_lr 0)) (e_b o_isub (e_li 6) (e_i 1)))))) (e_i 1) (e_i 0))) (s_inc 7 6 1)) = b2
  have k1 := lp_inv (c := c1) (b := b1) (fun t e μ' => e = [vR 0, vI (nI c), vI (nI h), vI (nI k), vI (nI (c / 4 ^ t)), vI (dnI L t)] ∧ (∀ j, L - t ≤ j → j < L → μ' 23 j = nI (dgt L c j)) ∧ Fr (fun a => a = 23) μ μ') L ?_ ?_ L 0 _ μ (by omega) ⟨rfl, fun j h1 h2 => by omega, Fr.rf⟩
  · obtain ⟨e', μ1, g1, rfl, g2, g3⟩ := k1
    have g2 : ∀ j, j < L → μ1 23 j = nI (dgt L c j) := fun j hj => g2 j (by omega) hj
    have e0 : nI (c / 4 ^ 0) = nI c := by rw [Nat.pow_zero, Nat.div_one]
    have e1 : dnI L 0 = nI (L - 1) := by unfold dnI; rw [if_pos (by omega)]; rfl
    rw [e0, e1] at g1
    have hF1 : Fnd σ μ1 := hF.kept (fun a b hab => g3 a b (by unfold cF at hab; omega))
    have hL1 : Lv σ μ1 := hL.kept (fun a b _ _ => g3 a b (by omega))
    have z3' : μ1 9 k = nI L := by rw [g3 _ _ (by omega)]; exact z3
    refine ⟨μ1, ?_, g2, g3⟩
    have k2 := lp_r (c := c2) (b := b2) (μ := μ1) (e0 := [vR 0, vI (nI c), vI (nI h), vI (nI k), vI (nI (c / 4 ^ L)), vI (bI true), vI (nI 0)]) (fun i x => [vR 0, vI (nI c), vI (nI h), vI (nI k), vI (nI (c / 4 ^ L)), vI (bI x), vI (nI i)]) (fun i x => x && mb (vBl σ h k) L c i) L true rfl ?_ ?_
    · rw [fd_andT, mb_vld hc, show bI true = nI 1 from rfl] at k2
      generalize c / 4 ^ L = cq at *
      simp (disch := first | omega | assumption | exact Or.inl rfl | exact Or.inr rfl | exact bI_ok _) [v_bd, mp_s, v_en, v_k, v_li, li_s, v_ll, ll_s, v_lr, lr_s, v_eu, v_ku, v_eb, v_kb1, v_kb2, v_ec, kc_t, kc_f, v_bz, kz_I, v_b2, v_k21, k22_I, v_and, kan_t, kan_f, v_or, kor_t, kor_f, v_not, v_knt, v_a0, v_a1, v_ka1, v_ka2, v_ek, v_kk, kkr_s, v_sk, v_ks, ksr_s, v_pop, kpop_I, kase_s, v_as, v_kas, v_inc, kme_s, v_pf, v_kpf1, v_kpf2, v_po, v_kpo1, v_kpo2, v_kpo3, v_kpo4, v_ia, v_kia1, v_kia2, v_kia3, v_io, v_kio1, v_kio2, v_kio3, v_kio4, v_kio5, v_s0, v_sq, sqk_l, sqk_r, v_if, kif_t, kif_f, v_no, nok_r, v_bk, bkk_l, bkk_r, v_rtI, krI_s, v_rtL, krL_s, v_rv, v_sw, ksw_I, ksw2_s, v_fn, fnl_t, fnk_r, fnr_t, nr_I, nr_L, nr_n, nr_b, nr_0, nr_1, nr_R, v_cl, v_cs, clk_t, m2_I, m1_I, v_si, v_sr, sik_t, v_sl, slk_t, v_oinc, inck_s, se_0, se_n, se_s, v_nl, v_nl0, nlo_I, nlo_R, nlo_U, nlo_n, v_ii, v_jj, v_ji, v_jc, v_iz, v_iu, v_i2l, c0_eq, c0_ne, c0_lt, c0_ge, c0_gt, c0_le, c2_eq, c2_ne, c2_lt, c2_ge, c2_gt, c2_le, en_n, en_I, en_R, en_L, List.getElem?_cons_zero, List.getElem?_cons_succ, List.getElem?_nil, List.length_cons, List.length_nil, List.take_succ_cons, List.take_zero, List.cons_append, List.nil_append, nI_lit, nN_lit, nI_eq, nI_ltI, nI_leI, nI_add, pk_mul, pk_sub, nI_eN, nN_eI, nN_ltI, nN_leI, nI_ltN, nI_leN, nN_nN, nN_leN, bI_e0, bI_e1, bt_shr, nI_sub_lt, ntT, ntF, nlT, nlF, neT, neF, gv_M_0_10, lv_M_9, z3, g1, k2]
    · intro i x hi
      subst hc2 hb2
      refine ⟨by simp (disch := first | omega | assumption | exact Or.inl rfl | exact Or.inr rfl | exact bI_ok _) [v_bd, mp_s, v_en, v_k, v_li, li_s, v_ll, ll_s, v_lr, lr_s, v_eu, v_ku, v_eb, v_kb1, v_kb2, v_ec, kc_t, kc_f, v_bz, kz_I, v_b2, v_k21, k22_I, v_and, kan_t, kan_f, v_or, kor_t, kor_f, v_not, v_knt, v_a0, v_a1, v_ka1, v_ka2, v_ek, v_kk, kkr_s, v_sk, v_ks, ksr_s, v_pop, kpop_I, kase_s, v_as, v_kas, v_inc, kme_s, v_pf, v_kpf1, v_kpf2, v_po, v_kpo1, v_kpo2, v_kpo3, v_kpo4, v_ia, v_kia1, v_kia2, v_kia3, v_io, v_kio1, v_kio2, v_kio3, v_kio4, v_kio5, v_s0, v_sq, sqk_l, sqk_r, v_if, kif_t, kif_f, v_no, nok_r, v_bk, bkk_l, bkk_r, v_rtI, krI_s, v_rtL, krL_s, v_rv, v_sw, ksw_I, ksw2_s, v_fn, fnl_t, fnk_r, fnr_t, nr_I, nr_L, nr_n, nr_b, nr_0, nr_1, nr_R, v_cl, v_cs, clk_t, m2_I, m1_I, v_si, v_sr, sik_t, v_sl, slk_t, v_oinc, inck_s, se_0, se_n, se_s, v_nl, v_nl0, nlo_I, nlo_R, nlo_U, nlo_n, v_ii, v_jj, v_ji, v_jc, v_iz, v_iu, v_i2l, c0_eq, c0_ne, c0_lt, c0_ge, c0_gt, c0_le, c2_eq, c2_ne, c2_lt, c2_ge, c2_gt, c2_le, en_n, en_I, en_R, en_L, List.getElem?_cons_zero, List.getElem?_cons_succ, List.getElem?_nil, List.length_cons, List.length_nil, List.take_succ_cons, List.take_zero, List.cons_append, List.nil_append, nI_lit, nN_lit, nI_eq, nI_ltI, nI_leI, nI_add, pk_mul, pk_sub, nI_eN, nN_eI, nN_ltI, nN_leI, nI_ltN, nI_leN, nN_nN, nN_leN, bI_e0, bI_e1, bt_shr, nI_sub_lt, ntT, ntF, nlT, nlF, neT, neF, gv_M_0_10, lv_M_9, z3'], ?_⟩
      generalize c / 4 ^ L = cq at *
      have f1 := f_isPopped hw hL1 hh hk (i := i) (by omega)
      have z4 := hF1.2.1.2.2.2.2 k i hk (by omega)
      have l4 := (oD_wf σ).2.2.2.2.1 k i
      have y1 := g2 i hi
      have d1 := dgt_lt L c i
      have hal : alw (vBl σ h k) i (dgt L c i) = (((oH σ k h).2 || popS (sE σ) k i h) || decide (dgt L c i = db (oD σ) k i)) := by
        unfold alw vBl
        cases hb : ((oH σ k h).2 || popS (sE σ) k i h)
        · simp only [Bool.false_eq_true, if_false, Bool.false_or]
          rw [decide_eq_false (by omega), Bool.false_or]
          exact decide_eq_decide.mpr eq_comm
        · simp
      unfold mb
      rw [hal]
      cases x
      · simp (disch := first | omega | assumption | exact Or.inl rfl | exact Or.inr rfl | exact bI_ok _) [v_bd, mp_s, v_en, v_k, v_li, li_s, v_ll, ll_s, v_lr, lr_s, v_eu, v_ku, v_eb, v_kb1, v_kb2, v_ec, kc_t, kc_f, v_bz, kz_I, v_b2, v_k21, k22_I, v_and, kan_t, kan_f, v_or, kor_t, kor_f, v_not, v_knt, v_a0, v_a1, v_ka1, v_ka2, v_ek, v_kk, kkr_s, v_sk, v_ks, ksr_s, v_pop, kpop_I, kase_s, v_as, v_kas, v_inc, kme_s, v_pf, v_kpf1, v_kpf2, v_po, v_kpo1, v_kpo2, v_kpo3, v_kpo4, v_ia, v_kia1, v_kia2, v_kia3, v_io, v_kio1, v_kio2, v_kio3, v_kio4, v_kio5, v_s0, v_sq, sqk_l, sqk_r, v_if, kif_t, kif_f, v_no, nok_r, v_bk, bkk_l, bkk_r, v_rtI, krI_s, v_rtL, krL_s, v_rv, v_sw, ksw_I, ksw2_s, v_fn, fnl_t, fnk_r, fnr_t, nr_I, nr_L, nr_n, nr_b, nr_0, nr_1, nr_R, v_cl, v_cs, clk_t, m2_I, m1_I, v_si, v_sr, sik_t, v_sl, slk_t, v_oinc, inck_s, se_0, se_n, se_s, v_nl, v_nl0, nlo_I, nlo_R, nlo_U, nlo_n, v_ii, v_jj, v_ji, v_jc, v_iz, v_iu, v_i2l, c0_eq, c0_ne, c0_lt, c0_ge, c0_gt, c0_le, c2_eq, c2_ne, c2_lt, c2_ge, c2_gt, c2_le, en_n, en_I, en_R, en_L, List.getElem?_cons_zero, List.getElem?_cons_succ, List.getElem?_nil, List.length_cons, List.length_nil, List.take_succ_cons, List.take_zero, List.cons_append, List.nil_append, nI_lit, nN_lit, nI_eq, nI_ltI, nI_leI, nI_add, pk_mul, pk_sub, nI_eN, nN_eI, nN_ltI, nN_leI, nI_ltN, nI_leN, nN_nN, nN_leN, bI_e0, bI_e1, bt_shr, nI_sub_lt, ntT, ntF, nlT, nlF, neT, neF, bI]
      · cases hb : ((oH σ k h).2 || popS (sE σ) k i h)
        · rw [hb] at f1
          by_cases e3 : dgt L c i = db (oD σ) k i
          · rw [e3] at y1
            by_cases e4 : i = 0
            · rw [decide_eq_true e3, decide_eq_true e4]
              subst e4
              rw [Nat.add_zero] at z4
              simp (disch := first | omega | assumption | exact Or.inl rfl | exact Or.inr rfl | exact bI_ok _) [v_bd, mp_s, v_en, v_k, v_li, li_s, v_ll, ll_s, v_lr, lr_s, v_eu, v_ku, v_eb, v_kb1, v_kb2, v_ec, kc_t, kc_f, v_bz, kz_I, v_b2, v_k21, k22_I, v_and, kan_t, kan_f, v_or, kor_t, kor_f, v_not, v_knt, v_a0, v_a1, v_ka1, v_ka2, v_ek, v_kk, kkr_s, v_sk, v_ks, ksr_s, v_pop, kpop_I, kase_s, v_as, v_kas, v_inc, kme_s, v_pf, v_kpf1, v_kpf2, v_po, v_kpo1, v_kpo2, v_kpo3, v_kpo4, v_ia, v_kia1, v_kia2, v_kia3, v_io, v_kio1, v_kio2, v_kio3, v_kio4, v_kio5, v_s0, v_sq, sqk_l, sqk_r, v_if, kif_t, kif_f, v_no, nok_r, v_bk, bkk_l, bkk_r, v_rtI, krI_s, v_rtL, krL_s, v_rv, v_sw, ksw_I, ksw2_s, v_fn, fnl_t, fnk_r, fnr_t, nr_I, nr_L, nr_n, nr_b, nr_0, nr_1, nr_R, v_cl, v_cs, clk_t, m2_I, m1_I, v_si, v_sr, sik_t, v_sl, slk_t, v_oinc, inck_s, se_0, se_n, se_s, v_nl, v_nl0, nlo_I, nlo_R, nlo_U, nlo_n, v_ii, v_jj, v_ji, v_jc, v_iz, v_iu, v_i2l, c0_eq, c0_ne, c0_lt, c0_ge, c0_gt, c0_le, c2_eq, c2_ne, c2_lt, c2_ge, c2_gt, c2_le, en_n, en_I, en_R, en_L, List.getElem?_cons_zero, List.getElem?_cons_succ, List.getElem?_nil, List.length_cons, List.length_nil, List.take_succ_cons, List.take_zero, List.cons_append, List.nil_append, nI_lit, nN_lit, nI_eq, nI_ltI, nI_leI, nI_add, pk_mul, pk_sub, nI_eN, nN_eI, nN_ltI, nN_leI, nI_ltN, nI_leN, nN_nN, nN_leN, bI_e0, bI_e1, bt_shr, nI_sub_lt, ntT, ntF, nlT, nlF, neT, neF, ck_M_0, f1, gv_M_0_29, lv_M_23, y1, gv_M_0_11, lv_M_10, z4, bI]
            · have y2 := g2 (i - 1) (by omega)
              have d2 := dgt_lt L c (i - 1)
              rw [decide_eq_true e3, decide_eq_false e4]
              by_cases e5 : dgt L c i = dgt L c (i - 1)
              · rw [← e5, e3] at y2
                rw [decide_eq_false (show ¬ ¬ dgt L c i = dgt L c (i - 1) from fun h9 => h9 e5)]
                simp (disch := first | omega | assumption | exact Or.inl rfl | exact Or.inr rfl | exact bI_ok _) [v_bd, mp_s, v_en, v_k, v_li, li_s, v_ll, ll_s, v_lr, lr_s, v_eu, v_ku, v_eb, v_kb1, v_kb2, v_ec, kc_t, kc_f, v_bz, kz_I, v_b2, v_k21, k22_I, v_and, kan_t, kan_f, v_or, kor_t, kor_f, v_not, v_knt, v_a0, v_a1, v_ka1, v_ka2, v_ek, v_kk, kkr_s, v_sk, v_ks, ksr_s, v_pop, kpop_I, kase_s, v_as, v_kas, v_inc, kme_s, v_pf, v_kpf1, v_kpf2, v_po, v_kpo1, v_kpo2, v_kpo3, v_kpo4, v_ia, v_kia1, v_kia2, v_kia3, v_io, v_kio1, v_kio2, v_kio3, v_kio4, v_kio5, v_s0, v_sq, sqk_l, sqk_r, v_if, kif_t, kif_f, v_no, nok_r, v_bk, bkk_l, bkk_r, v_rtI, krI_s, v_rtL, krL_s, v_rv, v_sw, ksw_I, ksw2_s, v_fn, fnl_t, fnk_r, fnr_t, nr_I, nr_L, nr_n, nr_b, nr_0, nr_1, nr_R, v_cl, v_cs, clk_t, m2_I, m1_I, v_si, v_sr, sik_t, v_sl, slk_t, v_oinc, inck_s, se_0, se_n, se_s, v_nl, v_nl0, nlo_I, nlo_R, nlo_U, nlo_n, v_ii, v_jj, v_ji, v_jc, v_iz, v_iu, v_i2l, c0_eq, c0_ne, c0_lt, c0_ge, c0_gt, c0_le, c2_eq, c2_ne, c2_lt, c2_ge, c2_gt, c2_le, en_n, en_I, en_R, en_L, List.getElem?_cons_zero, List.getElem?_cons_succ, List.getElem?_nil, List.length_cons, List.length_nil, List.take_succ_cons, List.take_zero, List.cons_append, List.nil_append, nI_lit, nN_lit, nI_eq, nI_ltI, nI_leI, nI_add, pk_mul, pk_sub, nI_eN, nN_eI, nN_ltI, nN_leI, nI_ltN, nI_leN, nN_nN, nN_leN, bI_e0, bI_e1, bt_shr, nI_sub_lt, ntT, ntF, nlT, nlF, neT, neF, ck_M_0, f1, gv_M_0_29, lv_M_23, y1, gv_M_0_11, lv_M_10, z4, e4, y2, bI]
              · rw [decide_eq_true e5]
                rw [e3] at e5
                simp (disch := first | omega | assumption | exact Or.inl rfl | exact Or.inr rfl | exact bI_ok _) [v_bd, mp_s, v_en, v_k, v_li, li_s, v_ll, ll_s, v_lr, lr_s, v_eu, v_ku, v_eb, v_kb1, v_kb2, v_ec, kc_t, kc_f, v_bz, kz_I, v_b2, v_k21, k22_I, v_and, kan_t, kan_f, v_or, kor_t, kor_f, v_not, v_knt, v_a0, v_a1, v_ka1, v_ka2, v_ek, v_kk, kkr_s, v_sk, v_ks, ksr_s, v_pop, kpop_I, kase_s, v_as, v_kas, v_inc, kme_s, v_pf, v_kpf1, v_kpf2, v_po, v_kpo1, v_kpo2, v_kpo3, v_kpo4, v_ia, v_kia1, v_kia2, v_kia3, v_io, v_kio1, v_kio2, v_kio3, v_kio4, v_kio5, v_s0, v_sq, sqk_l, sqk_r, v_if, kif_t, kif_f, v_no, nok_r, v_bk, bkk_l, bkk_r, v_rtI, krI_s, v_rtL, krL_s, v_rv, v_sw, ksw_I, ksw2_s, v_fn, fnl_t, fnk_r, fnr_t, nr_I, nr_L, nr_n, nr_b, nr_0, nr_1, nr_R, v_cl, v_cs, clk_t, m2_I, m1_I, v_si, v_sr, sik_t, v_sl, slk_t, v_oinc, inck_s, se_0, se_n, se_s, v_nl, v_nl0, nlo_I, nlo_R, nlo_U, nlo_n, v_ii, v_jj, v_ji, v_jc, v_iz, v_iu, v_i2l, c0_eq, c0_ne, c0_lt, c0_ge, c0_gt, c0_le, c2_eq, c2_ne, c2_lt, c2_ge, c2_gt, c2_le, en_n, en_I, en_R, en_L, List.getElem?_cons_zero, List.getElem?_cons_succ, List.getElem?_nil, List.length_cons, List.length_nil, List.take_succ_cons, List.take_zero, List.cons_append, List.nil_append, nI_lit, nN_lit, nI_eq, nI_ltI, nI_leI, nI_add, pk_mul, pk_sub, nI_eN, nN_eI, nN_ltI, nN_leI, nI_ltN, nI_leN, nN_nN, nN_leN, bI_e0, bI_e1, bt_shr, nI_sub_lt, ntT, ntF, nlT, nlF, neT, neF, ck_M_0, f1, gv_M_0_29, lv_M_23, y1, gv_M_0_11, lv_M_10, z4, e4, y2, e5, bI]
          · rw [decide_eq_false e3]
            simp (disch := first | omega | assumption | exact Or.inl rfl | exact Or.inr rfl | exact bI_ok _) [v_bd, mp_s, v_en, v_k, v_li, li_s, v_ll, ll_s, v_lr, lr_s, v_eu, v_ku, v_eb, v_kb1, v_kb2, v_ec, kc_t, kc_f, v_bz, kz_I, v_b2, v_k21, k22_I, v_and, kan_t, kan_f, v_or, kor_t, kor_f, v_not, v_knt, v_a0, v_a1, v_ka1, v_ka2, v_ek, v_kk, kkr_s, v_sk, v_ks, ksr_s, v_pop, kpop_I, kase_s, v_as, v_kas, v_inc, kme_s, v_pf, v_kpf1, v_kpf2, v_po, v_kpo1, v_kpo2, v_kpo3, v_kpo4, v_ia, v_kia1, v_kia2, v_kia3, v_io, v_kio1, v_kio2, v_kio3, v_kio4, v_kio5, v_s0, v_sq, sqk_l, sqk_r, v_if, kif_t, kif_f, v_no, nok_r, v_bk, bkk_l, bkk_r, v_rtI, krI_s, v_rtL, krL_s, v_rv, v_sw, ksw_I, ksw2_s, v_fn, fnl_t, fnk_r, fnr_t, nr_I, nr_L, nr_n, nr_b, nr_0, nr_1, nr_R, v_cl, v_cs, clk_t, m2_I, m1_I, v_si, v_sr, sik_t, v_sl, slk_t, v_oinc, inck_s, se_0, se_n, se_s, v_nl, v_nl0, nlo_I, nlo_R, nlo_U, nlo_n, v_ii, v_jj, v_ji, v_jc, v_iz, v_iu, v_i2l, c0_eq, c0_ne, c0_lt, c0_ge, c0_gt, c0_le, c2_eq, c2_ne, c2_lt, c2_ge, c2_gt, c2_le, en_n, en_I, en_R, en_L, List.getElem?_cons_zero, List.getElem?_cons_succ, List.getElem?_nil, List.length_cons, List.length_nil, List.take_succ_cons, List.take_zero, List.cons_append, List.nil_append, nI_lit, nN_lit, nI_eq, nI_ltI, nI_leI, nI_add, pk_mul, pk_sub, nI_eN, nN_eI, nN_ltI, nN_leI, nI_ltN, nI_leN, nN_nN, nN_leN, bI_e0, bI_e1, bt_shr, nI_sub_lt, ntT, ntF, nlT, nlF, neT, neF, ck_M_0, f1, gv_M_0_29, lv_M_23, y1, gv_M_0_11, lv_M_10, z4, e3, bI]
        · rw [hb] at f1
          by_cases e4 : i = 0
          · rw [decide_eq_true e4]
            subst e4
            simp (disch := first | omega | assumption | exact Or.inl rfl | exact Or.inr rfl | exact bI_ok _) [v_bd, mp_s, v_en, v_k, v_li, li_s, v_ll, ll_s, v_lr, lr_s, v_eu, v_ku, v_eb, v_kb1, v_kb2, v_ec, kc_t, kc_f, v_bz, kz_I, v_b2, v_k21, k22_I, v_and, kan_t, kan_f, v_or, kor_t, kor_f, v_not, v_knt, v_a0, v_a1, v_ka1, v_ka2, v_ek, v_kk, kkr_s, v_sk, v_ks, ksr_s, v_pop, kpop_I, kase_s, v_as, v_kas, v_inc, kme_s, v_pf, v_kpf1, v_kpf2, v_po, v_kpo1, v_kpo2, v_kpo3, v_kpo4, v_ia, v_kia1, v_kia2, v_kia3, v_io, v_kio1, v_kio2, v_kio3, v_kio4, v_kio5, v_s0, v_sq, sqk_l, sqk_r, v_if, kif_t, kif_f, v_no, nok_r, v_bk, bkk_l, bkk_r, v_rtI, krI_s, v_rtL, krL_s, v_rv, v_sw, ksw_I, ksw2_s, v_fn, fnl_t, fnk_r, fnr_t, nr_I, nr_L, nr_n, nr_b, nr_0, nr_1, nr_R, v_cl, v_cs, clk_t, m2_I, m1_I, v_si, v_sr, sik_t, v_sl, slk_t, v_oinc, inck_s, se_0, se_n, se_s, v_nl, v_nl0, nlo_I, nlo_R, nlo_U, nlo_n, v_ii, v_jj, v_ji, v_jc, v_iz, v_iu, v_i2l, c0_eq, c0_ne, c0_lt, c0_ge, c0_gt, c0_le, c2_eq, c2_ne, c2_lt, c2_ge, c2_gt, c2_le, en_n, en_I, en_R, en_L, List.getElem?_cons_zero, List.getElem?_cons_succ, List.getElem?_nil, List.length_cons, List.length_nil, List.take_succ_cons, List.take_zero, List.cons_append, List.nil_append, nI_lit, nN_lit, nI_eq, nI_ltI, nI_leI, nI_add, pk_mul, pk_sub, nI_eN, nN_eI, nN_ltI, nN_leI, nI_ltN, nI_leN, nN_nN, nN_leN, bI_e0, bI_e1, bt_shr, nI_sub_lt, ntT, ntF, nlT, nlF, neT, neF, ck_M_0, f1, bI]
          · have y2 := g2 (i - 1) (by omega)
            have d2 := dgt_lt L c (i - 1)
            rw [decide_eq_false e4]
            by_cases e5 : dgt L c i = dgt L c (i - 1)
            · rw [← e5] at y2
              rw [decide_eq_false (show ¬ ¬ dgt L c i = dgt L c (i - 1) from fun h9 => h9 e5)]
              simp (disch := first | omega | assumption | exact Or.inl rfl | exact Or.inr rfl | exact bI_ok _) [v_bd, mp_s, v_en, v_k, v_li, li_s, v_ll, ll_s, v_lr, lr_s, v_eu, v_ku, v_eb, v_kb1, v_kb2, v_ec, kc_t, kc_f, v_bz, kz_I, v_b2, v_k21, k22_I, v_and, kan_t, kan_f, v_or, kor_t, kor_f, v_not, v_knt, v_a0, v_a1, v_ka1, v_ka2, v_ek, v_kk, kkr_s, v_sk, v_ks, ksr_s, v_pop, kpop_I, kase_s, v_as, v_kas, v_inc, kme_s, v_pf, v_kpf1, v_kpf2, v_po, v_kpo1, v_kpo2, v_kpo3, v_kpo4, v_ia, v_kia1, v_kia2, v_kia3, v_io, v_kio1, v_kio2, v_kio3, v_kio4, v_kio5, v_s0, v_sq, sqk_l, sqk_r, v_if, kif_t, kif_f, v_no, nok_r, v_bk, bkk_l, bkk_r, v_rtI, krI_s, v_rtL, krL_s, v_rv, v_sw, ksw_I, ksw2_s, v_fn, fnl_t, fnk_r, fnr_t, nr_I, nr_L, nr_n, nr_b, nr_0, nr_1, nr_R, v_cl, v_cs, clk_t, m2_I, m1_I, v_si, v_sr, sik_t, v_sl, slk_t, v_oinc, inck_s, se_0, se_n, se_s, v_nl, v_nl0, nlo_I, nlo_R, nlo_U, nlo_n, v_ii, v_jj, v_ji, v_jc, v_iz, v_iu, v_i2l, c0_eq, c0_ne, c0_lt, c0_ge, c0_gt, c0_le, c2_eq, c2_ne, c2_lt, c2_ge, c2_gt, c2_le, en_n, en_I, en_R, en_L, List.getElem?_cons_zero, List.getElem?_cons_succ, List.getElem?_nil, List.length_cons, List.length_nil, List.take_succ_cons, List.take_zero, List.cons_append, List.nil_append, nI_lit, nN_lit, nI_eq, nI_ltI, nI_leI, nI_add, pk_mul, pk_sub, nI_eN, nN_eI, nN_ltI, nN_leI, nI_ltN, nI_leN, nN_nN, nN_leN, bI_e0, bI_e1, bt_shr, nI_sub_lt, ntT, ntF, nlT, nlF, neT, neF, ck_M_0, f1, gv_M_0_29, lv_M_23, y1, e4, y2, bI]
            · rw [decide_eq_true e5]
              simp (disch := first | omega | assumption | exact Or.inl rfl | exact Or.inr rfl | exact bI_ok _) [v_bd, mp_s, v_en, v_k, v_li, li_s, v_ll, ll_s, v_lr, lr_s, v_eu, v_ku, v_eb, v_kb1, v_kb2, v_ec, kc_t, kc_f, v_bz, kz_I, v_b2, v_k21, k22_I, v_and, kan_t, kan_f, v_or, kor_t, kor_f, v_not, v_knt, v_a0, v_a1, v_ka1, v_ka2, v_ek, v_kk, kkr_s, v_sk, v_ks, ksr_s, v_pop, kpop_I, kase_s, v_as, v_kas, v_inc, kme_s, v_pf, v_kpf1, v_kpf2, v_po, v_kpo1, v_kpo2, v_kpo3, v_kpo4, v_ia, v_kia1, v_kia2, v_kia3, v_io, v_kio1, v_kio2, v_kio3, v_kio4, v_kio5, v_s0, v_sq, sqk_l, sqk_r, v_if, kif_t, kif_f, v_no, nok_r, v_bk, bkk_l, bkk_r, v_rtI, krI_s, v_rtL, krL_s, v_rv, v_sw, ksw_I, ksw2_s, v_fn, fnl_t, fnk_r, fnr_t, nr_I, nr_L, nr_n, nr_b, nr_0, nr_1, nr_R, v_cl, v_cs, clk_t, m2_I, m1_I, v_si, v_sr, sik_t, v_sl, slk_t, v_oinc, inck_s, se_0, se_n, se_s, v_nl, v_nl0, nlo_I, nlo_R, nlo_U, nlo_n, v_ii, v_jj, v_ji, v_jc, v_iz, v_iu, v_i2l, c0_eq, c0_ne, c0_lt, c0_ge, c0_gt, c0_le, c2_eq, c2_ne, c2_lt, c2_ge, c2_gt, c2_le, en_n, en_I, en_R, en_L, List.getElem?_cons_zero, List.getElem?_cons_succ, List.getElem?_nil, List.length_cons, List.length_nil, List.take_succ_cons, List.take_zero, List.cons_append, List.nil_append, nI_lit, nN_lit, nI_eq, nI_ltI, nI_leI, nI_add, pk_mul, pk_sub, nI_eN, nN_eI, nN_ltI, nN_leI, nI_ltN, nI_leN, nN_nN, nN_leN, bI_e0, bI_e1, bt_shr, nI_sub_lt, ntT, ntF, nlT, nlF, neT, neF, ck_M_0, f1, gv_M_0_29, lv_M_23, y1, e4, y2, e5, bI]
    · intro x
      subst hc2
      generalize c / 4 ^ L = cq at *
      simp (disch := first | omega | assumption | exact Or.inl rfl | exact Or.inr rfl | exact bI_ok _) [v_bd, mp_s, v_en, v_k, v_li, li_s, v_ll, ll_s, v_lr, lr_s, v_eu, v_ku, v_eb, v_kb1, v_kb2, v_ec, kc_t, kc_f, v_bz, kz_I, v_b2, v_k21, k22_I, v_and, kan_t, kan_f, v_or, kor_t, kor_f, v_not, v_knt, v_a0, v_a1, v_ka1, v_ka2, v_ek, v_kk, kkr_s, v_sk, v_ks, ksr_s, v_pop, kpop_I, kase_s, v_as, v_kas, v_inc, kme_s, v_pf, v_kpf1, v_kpf2, v_po, v_kpo1, v_kpo2, v_kpo3, v_kpo4, v_ia, v_kia1, v_kia2, v_kia3, v_io, v_kio1, v_kio2, v_kio3, v_kio4, v_kio5, v_s0, v_sq, sqk_l, sqk_r, v_if, kif_t, kif_f, v_no, nok_r, v_bk, bkk_l, bkk_r, v_rtI, krI_s, v_rtL, krL_s, v_rv, v_sw, ksw_I, ksw2_s, v_fn, fnl_t, fnk_r, fnr_t, nr_I, nr_L, nr_n, nr_b, nr_0, nr_1, nr_R, v_cl, v_cs, clk_t, m2_I, m1_I, v_si, v_sr, sik_t, v_sl, slk_t, v_oinc, inck_s, se_0, se_n, se_s, v_nl, v_nl0, nlo_I, nlo_R, nlo_U, nlo_n, v_ii, v_jj, v_ji, v_jc, v_iz, v_iu, v_i2l, c0_eq, c0_ne, c0_lt, c0_ge, c0_gt, c0_le, c2_eq, c2_ne, c2_lt, c2_ge, c2_gt, c2_le, en_n, en_I, en_R, en_L, List.getElem?_cons_zero, List.getElem?_cons_succ, List.getElem?_nil, List.length_cons, List.length_nil, List.take_succ_cons, List.take_zero, List.cons_append, List.nil_append, nI_lit, nN_lit, nI_eq, nI_ltI, nI_leI, nI_add, pk_mul, pk_sub, nI_eN, nN_eI, nN_ltI, nN_leI, nI_ltN, nI_leN, nN_nN, nN_leN, bI_e0, bI_e1, bt_shr, nI_sub_lt, ntT, ntF, nlT, nlF, neT, neF, gv_M_0_10, lv_M_9, z3']
  · rintro t e μ2 ht ⟨rfl, i2, i3⟩
    subst hc1 hb1
    have e1 : dnI L t = nI (L - 1 - t) := by unfold dnI; rw [if_pos ht]
    have e2 := dnI_s ht
    have e5 : c / 4 ^ (t + 1) = c / 4 ^ t / 4 := by rw [Nat.pow_succ, Nat.div_div_eq_div_mul]
    have e6 : c / 4 ^ t % 4 = dgt L c (L - 1 - t) := by
      unfold dgt
      rw [show L - 1 - (L - 1 - t) = t by omega]
    have q1 : c / 4 ^ t < 4096 := Nat.lt_of_le_of_lt (Nat.div_le_self _ _) cb
    rw [e5]
    generalize c / 4 ^ t = cq at *
    have e3 : cq - cq / 4 * 4 = cq % 4 := by omega
    have e4 := pk_div (a := cq) (d := 4) (by omega) (by omega) (by omega)
    rw [e1]
    refine ⟨by simp (disch := first | omega | assumption | exact Or.inl rfl | exact Or.inr rfl | exact bI_ok _) [v_bd, mp_s, v_en, v_k, v_li, li_s, v_ll, ll_s, v_lr, lr_s, v_eu, v_ku, v_eb, v_kb1, v_kb2, v_ec, kc_t, kc_f, v_bz, kz_I, v_b2, v_k21, k22_I, v_and, kan_t, kan_f, v_or, kor_t, kor_f, v_not, v_knt, v_a0, v_a1, v_ka1, v_ka2, v_ek, v_kk, kkr_s, v_sk, v_ks, ksr_s, v_pop, kpop_I, kase_s, v_as, v_kas, v_inc, kme_s, v_pf, v_kpf1, v_kpf2, v_po, v_kpo1, v_kpo2, v_kpo3, v_kpo4, v_ia, v_kia1, v_kia2, v_kia3, v_io, v_kio1, v_kio2, v_kio3, v_kio4, v_kio5, v_s0, v_sq, sqk_l, sqk_r, v_if, kif_t, kif_f, v_no, nok_r, v_bk, bkk_l, bkk_r, v_rtI, krI_s, v_rtL, krL_s, v_rv, v_sw, ksw_I, ksw2_s, v_fn, fnl_t, fnk_r, fnr_t, nr_I, nr_L, nr_n, nr_b, nr_0, nr_1, nr_R, v_cl, v_cs, clk_t, m2_I, m1_I, v_si, v_sr, sik_t, v_sl, slk_t, v_oinc, inck_s, se_0, se_n, se_s, v_nl, v_nl0, nlo_I, nlo_R, nlo_U, nlo_n, v_ii, v_jj, v_ji, v_jc, v_iz, v_iu, v_i2l, c0_eq, c0_ne, c0_lt, c0_ge, c0_gt, c0_le, c2_eq, c2_ne, c2_lt, c2_ge, c2_gt, c2_le, en_n, en_I, en_R, en_L, List.getElem?_cons_zero, List.getElem?_cons_succ, List.getElem?_nil, List.length_cons, List.length_nil, List.take_succ_cons, List.take_zero, List.cons_append, List.nil_append, nI_lit, nN_lit, nI_eq, nI_ltI, nI_leI, nI_add, pk_mul, pk_sub, nI_eN, nN_eI, nN_ltI, nN_leI, nI_ltN, nI_leN, nN_nN, nN_leN, bI_e0, bI_e1, bt_shr, nI_sub_lt, ntT, ntF, nlT, nlF, neT, neF, ], _, am_up μ2 23 (L - 1 - t) (nI (cq % 4)), ?_, rfl, fun j h1 h2 => ?_, i3.up rfl⟩
    · rw [← e2]
      simp (disch := first | omega | assumption | exact Or.inl rfl | exact Or.inr rfl | exact bI_ok _) [v_bd, mp_s, v_en, v_k, v_li, li_s, v_ll, ll_s, v_lr, lr_s, v_eu, v_ku, v_eb, v_kb1, v_kb2, v_ec, kc_t, kc_f, v_bz, kz_I, v_b2, v_k21, k22_I, v_and, kan_t, kan_f, v_or, kor_t, kor_f, v_not, v_knt, v_a0, v_a1, v_ka1, v_ka2, v_ek, v_kk, kkr_s, v_sk, v_ks, ksr_s, v_pop, kpop_I, kase_s, v_as, v_kas, v_inc, kme_s, v_pf, v_kpf1, v_kpf2, v_po, v_kpo1, v_kpo2, v_kpo3, v_kpo4, v_ia, v_kia1, v_kia2, v_kia3, v_io, v_kio1, v_kio2, v_kio3, v_kio4, v_kio5, v_s0, v_sq, sqk_l, sqk_r, v_if, kif_t, kif_f, v_no, nok_r, v_bk, bkk_l, bkk_r, v_rtI, krI_s, v_rtL, krL_s, v_rv, v_sw, ksw_I, ksw2_s, v_fn, fnl_t, fnk_r, fnr_t, nr_I, nr_L, nr_n, nr_b, nr_0, nr_1, nr_R, v_cl, v_cs, clk_t, m2_I, m1_I, v_si, v_sr, sik_t, v_sl, slk_t, v_oinc, inck_s, se_0, se_n, se_s, v_nl, v_nl0, nlo_I, nlo_R, nlo_U, nlo_n, v_ii, v_jj, v_ji, v_jc, v_iz, v_iu, v_i2l, c0_eq, c0_ne, c0_lt, c0_ge, c0_gt, c0_le, c2_eq, c2_ne, c2_lt, c2_ge, c2_gt, c2_le, en_n, en_I, en_R, en_L, List.getElem?_cons_zero, List.getElem?_cons_succ, List.getElem?_nil, List.length_cons, List.length_nil, List.take_succ_cons, List.take_zero, List.cons_append, List.nil_append, nI_lit, nN_lit, nI_eq, nI_ltI, nI_leI, nI_add, pk_mul, pk_sub, nI_eN, nN_eI, nN_ltI, nN_leI, nI_ltN, nI_leN, nN_nN, nN_leN, bI_e0, bI_e1, bt_shr, nI_sub_lt, ntT, ntF, nlT, nlF, neT, neF, gv_M_0_29, v_iz, e3, e4, wv_M_23]
    · by_cases e9 : j = L - 1 - t
      · rw [e9, am_up_eq, e6]
      · rw [am_up_ne _ _ (by omega)]; exact i2 j (by omega) h2
  · rintro e μ2 ⟨rfl, i2, i3⟩
    subst hc1
    have e1 : dnI L L = nN := by unfold dnI; rw [if_neg (by omega)]
    rw [e1]
    generalize c / 4 ^ L = cq at *
    simp (disch := first | omega | assumption | exact Or.inl rfl | exact Or.inr rfl | exact bI_ok _) [v_bd, mp_s, v_en, v_k, v_li, li_s, v_ll, ll_s, v_lr, lr_s, v_eu, v_ku, v_eb, v_kb1, v_kb2, v_ec, kc_t, kc_f, v_bz, kz_I, v_b2, v_k21, k22_I, v_and, kan_t, kan_f, v_or, kor_t, kor_f, v_not, v_knt, v_a0, v_a1, v_ka1, v_ka2, v_ek, v_kk, kkr_s, v_sk, v_ks, ksr_s, v_pop, kpop_I, kase_s, v_as, v_kas, v_inc, kme_s, v_pf, v_kpf1, v_kpf2, v_po, v_kpo1, v_kpo2, v_kpo3, v_kpo4, v_ia, v_kia1, v_kia2, v_kia3, v_io, v_kio1, v_kio2, v_kio3, v_kio4, v_kio5, v_s0, v_sq, sqk_l, sqk_r, v_if, kif_t, kif_f, v_no, nok_r, v_bk, bkk_l, bkk_r, v_rtI, krI_s, v_rtL, krL_s, v_rv, v_sw, ksw_I, ksw2_s, v_fn, fnl_t, fnk_r, fnr_t, nr_I, nr_L, nr_n, nr_b, nr_0, nr_1, nr_R, v_cl, v_cs, clk_t, m2_I, m1_I, v_si, v_sr, sik_t, v_sl, slk_t, v_oinc, inck_s, se_0, se_n, se_s, v_nl, v_nl0, nlo_I, nlo_R, nlo_U, nlo_n, v_ii, v_jj, v_ji, v_jc, v_iz, v_iu, v_i2l, c0_eq, c0_ne, c0_lt, c0_ge, c0_gt, c0_le, c2_eq, c2_ne, c2_lt, c2_ge, c2_gt, c2_le, en_n, en_I, en_R, en_L, List.getElem?_cons_zero, List.getElem?_cons_succ, List.getElem?_nil, List.length_cons, List.length_nil, List.take_succ_cons, List.take_zero, List.cons_append, List.nil_append, nI_lit, nN_lit, nI_eq, nI_ltI, nI_leI, nI_add, pk_mul, pk_sub, nI_eN, nN_eI, nN_ltI, nN_leI, nI_ltN, nI_leN, nN_nN, nN_leN, bI_e0, bI_e1, bt_shr, nI_sub_lt, ntT, ntF, nlT, nlF, neT, neF, nN_ge]
