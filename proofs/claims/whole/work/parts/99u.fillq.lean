/-! fill as a query -/
theorem shl4 {L : Nat} (hL : L ≤ 6) : nI 1 <<< (nI (2 * L) &&& nI 31) = nI (4 ^ L) := by
  have h : ∀ n : Fin 7, nI 1 <<< (nI (2 * n.1) &&& nI 31) = nI (4 ^ n.1) := by decide
  exact h ⟨L, by omega⟩
theorem fnd_cnt {p : Nat → Bool} {n : Nat} : cnt p n = 0 ↔ fnd p n = none := by
  rw [fnd_none]
  refine ⟨fun h i hi => ?_, fun h => ?_⟩
  · cases hb : p i
    · rfl
    · have := cnt_pos.mpr ⟨i, hi, hb⟩
      omega
  · rcases Nat.eq_zero_or_pos (cnt p n) with h1 | h1
    · exact h1
    · obtain ⟨i, h2, h3⟩ := cnt_pos.mp h1
      rw [h i h2] at h3
      cases h3
theorem fnd_s {p : Nat → Bool} {n j : Nat} (h : fnd p n = some j) : fnd p (n + 1) = some j := by unfold fnd; rw [h]
theorem lws_none {B : Nat → Nat} {m i : Nat} {prev : Option Nat} (h : cW B (m + 1) i prev = 0) : ∀ k, lws B m i prev k = none
  | 0 => by
    show lB B m i prev = none
    refine fnd_none.mpr (fun d hd => ?_)
    cases hb : (unl prev d && (alw B i d && decide (0 < cW B m (i + 1) (some d))))
    · rfl
    · exfalso
      simp only [Bool.and_eq_true, decide_eq_true_eq] at hb
      obtain ⟨w1, w2, w3⟩ := hb
      have hM : 0 < 4 ^ m := Nat.pos_of_ne_zero (by simp)
      rw [← vld_cnt] at w3 h
      obtain ⟨r, r1, r2⟩ := cnt_pos.mp w3
      have hv : vld B (m + 1) i prev (d * 4 ^ m + r) = true := by
        show (unl prev ((d * 4 ^ m + r) / 4 ^ m) && (alw B i ((d * 4 ^ m + r) / 4 ^ m) && vld B m (i + 1) (some ((d * 4 ^ m + r) / 4 ^ m)) ((d * 4 ^ m + r) % 4 ^ m))) = _
        rw [show (d * 4 ^ m + r) / 4 ^ m = d by rw [Nat.mul_comm, Nat.mul_add_div hM, Nat.div_eq_of_lt r1, Nat.add_zero], show (d * 4 ^ m + r) % 4 ^ m = r by rw [Nat.mul_comm, Nat.mul_add_mod, Nat.mod_eq_of_lt r1], w1, w2, r2]
        rfl
      have hlt : d * 4 ^ m + r < 4 ^ (m + 1) := by
        have h9 : (d + 1) * 4 ^ m ≤ 4 * 4 ^ m := Nat.mul_le_mul_right _ (by omega)
        rw [Nat.add_mul, Nat.one_mul] at h9
        rw [Nat.pow_succ, Nat.mul_comm (4 ^ m) 4]
        omega
      have := cnt_pos.mpr ⟨_, hlt, hv⟩
      omega
  | k + 1 => by rw [lws_s, lws_none h k]
def vFill (σ : Sg) (h k : Nat) (i : Option Nat) : Int32 := match i with
  | none => nI (cW (vBl σ h k) (dl (oD σ) k) 0 none)
  | some j => if j < dl (oD σ) k then oI (lws (vBl σ h k) (dl (oD σ) k - 1) 0 none j) else nN
theorem f_fillOf {σ : Sg} {μ : am_M} (hw : wfS σ) (hF : Fnd σ μ) (hL : Lv σ μ) {h k : Nat} (hh : h < 20) (hk : k < dn (oD σ)) {i : Option Nat} (hi : ∀ j, i = some j → j < 6) : ∃ μ', f_X11_fillOf [vR 0, vI (nI h), vI (nI k), vI (oI i)] μ = some (some (vI (vFill σ h k i)), μ') ∧ Fr (fun a => a = 23 ∨ a = 24) μ μ' := by
  have w0 := (oD_wf σ).1
  have l3 := (oD_wf σ).2.2.2.1 k
  have l1 := (oD_wf σ).2.2.2.2.2 k hk
  have z3 := hF.2.1.2.2.2.1 k hk
  have sh := shl4 l3
  have pb : 4 ^ dl (oD σ) k ≤ 4096 := by
    calc 4 ^ dl (oD σ) k ≤ 4 ^ 6 := Nat.pow_le_pow_right (by omega) l3
      _ = 4096 := by decide
  unfold f_X11_fillOf g_X11_fillOf
  generalize hc1 : (b_2 .lt (e_li 6) (e_li 5)) = c1
  generalize hb1 : (s_sq (s_if (b_z .ne (e_k (am_cl ShM 11 3 f_X11_mayBe) (a_1 (e_lr 0) (a_1 (e_li 6) (a_1 (e_li 1) (a_1 (e_li 2) a_0)))))) (s_sq (s_bk (s_sq (s_as (o_si 8 7) (e_i 0)) (s_lp (b_and (b_2 .lt (e_li 7) (e_ald ShM (e_gf ShM 11 10 (e_lr 0)) (e_li 2))) (b_z .eq (e_li 4))) (s_sq (s_ia ShM (e_gf ShM 11 30 (e_lr 0)) (e_li 7) (e_ald ShM (e_gf ShM 11 29 (e_lr 0)) (e_li 7))) (s_inc 8 7 1))))) (s_inc 8 4 1)) s_0) (s_inc 8 6 1)) = b1
  generalize hB : vBl σ h k = B
  have key := lp_inv (c := c1) (b := b1) (fun code e μ' => e = [vR 0, vI (nI h), vI (nI k), vI (oI i), vI (nI (cnt (vld B (dl (oD σ) k) 0 none) code)), vI (nI (4 ^ dl (oD σ) k)), vI (nI code)] ∧ (∀ c0, fnd (vld B (dl (oD σ) k) 0 none) code = some c0 → ∀ j, j < dl (oD σ) k → μ' 24 j = nI (dgt (dl (oD σ) k) c0 j)) ∧ Fr (fun a => a = 23 ∨ a = 24) μ μ') (4 ^ dl (oD σ) k) ?_ ?_ (4 ^ dl (oD σ) k) 0 _ μ (by omega) ⟨rfl, fun c0 h0 => (by cases h0), Fr.rf⟩
  · obtain ⟨e', μ1, g1, rfl, g2, g3⟩ := key
    refine ⟨μ1, ?_, g3⟩
    have e0 : cnt (vld B (dl (oD σ) k) 0 none) 0 = 0 := rfl
    rw [e0] at g1
    have z3' : μ1 9 k = nI (dl (oD σ) k) := by rw [g3 _ _ (by omega)]; exact z3
    have ec := vld_cnt B (dl (oD σ) k) 0 none
    have lc := cnt_le (vld B (dl (oD σ) k) 0 none) (4 ^ dl (oD σ) k)
    unfold vFill
    rw [hB]
    cases i with
    | none =>
      rw [oI_n] at g1 ⊢
      rw [ec] at g1 lc
      generalize 4 ^ dl (oD σ) k = P at *
      simp (disch := first | omega | assumption | exact Or.inl rfl | exact Or.inr rfl | exact bI_ok _) [v_bd, mp_s, v_en, v_k, v_li, li_s, v_ll, ll_s, v_lr, lr_s, v_eu, v_ku, v_eb, v_kb1, v_kb2, v_ec, kc_t, kc_f, v_bz, kz_I, v_b2, v_k21, k22_I, v_and, kan_t, kan_f, v_or, kor_t, kor_f, v_not, v_knt, v_a0, v_a1, v_ka1, v_ka2, v_ek, v_kk, kkr_s, v_sk, v_ks, ksr_s, v_pop, kpop_I, kase_s, v_as, v_kas, v_inc, kme_s, v_pf, v_kpf1, v_kpf2, v_po, v_kpo1, v_kpo2, v_kpo3, v_kpo4, v_ia, v_kia1, v_kia2, v_kia3, v_io, v_kio1, v_kio2, v_kio3, v_kio4, v_kio5, v_s0, v_sq, sqk_l, sqk_r, v_if, kif_t, kif_f, v_no, nok_r, v_bk, bkk_l, bkk_r, v_rtI, krI_s, v_rtL, krL_s, v_rv, v_sw, ksw_I, ksw2_s, v_fn, fnl_t, fnk_r, fnr_t, nr_I, nr_L, nr_n, nr_b, nr_0, nr_1, nr_R, v_cl, v_cs, clk_t, m2_I, m1_I, v_si, v_sr, sik_t, v_sl, slk_t, v_oinc, inck_s, se_0, se_n, se_s, v_nl, v_nl0, nlo_I, nlo_R, nlo_U, nlo_n, v_ii, v_jj, v_ji, v_jc, v_iz, v_iu, v_i2l, c0_eq, c0_ne, c0_lt, c0_ge, c0_gt, c0_le, c2_eq, c2_ne, c2_lt, c2_ge, c2_gt, c2_le, en_n, en_I, en_R, en_L, List.getElem?_cons_zero, List.getElem?_cons_succ, List.getElem?_nil, List.length_cons, List.length_nil, List.take_succ_cons, List.take_zero, List.cons_append, List.nil_append, nI_lit, nN_lit, nI_eq, nI_ltI, nI_leI, nI_add, pk_mul, pk_sub, nI_eN, nN_eI, nN_ltI, nN_leI, nI_ltN, nI_leN, nN_nN, nN_leN, bI_e0, bI_e1, bt_shr, nI_sub_lt, ntT, ntF, nlT, nlF, neT, neF, gv_M_0_10, lv_M_9, z3, sh, g1]
    | some j =>
      have hj := hi j rfl
      rw [oI_s] at g1 ⊢
      obtain ⟨m, hm⟩ : ∃ m, dl (oD σ) k = m + 1 := ⟨dl (oD σ) k - 1, by omega⟩
      by_cases d1 : j < dl (oD σ) k
      · simp only [if_pos d1]
        cases hf : fnd (vld B (dl (oD σ) k) 0 none) (4 ^ dl (oD σ) k) with
        | none =>
          have c0 := fnd_cnt.mpr hf
          rw [c0] at g1 ec
          have e5 : lws B (dl (oD σ) k - 1) 0 none j = none := lws_none (by rw [show dl (oD σ) k - 1 + 1 = dl (oD σ) k by omega]; exact ec.symm) j
          rw [e5]
          generalize 4 ^ dl (oD σ) k = P at *
          simp (disch := first | omega | assumption | exact Or.inl rfl | exact Or.inr rfl | exact bI_ok _) [v_bd, mp_s, v_en, v_k, v_li, li_s, v_ll, ll_s, v_lr, lr_s, v_eu, v_ku, v_eb, v_kb1, v_kb2, v_ec, kc_t, kc_f, v_bz, kz_I, v_b2, v_k21, k22_I, v_and, kan_t, kan_f, v_or, kor_t, kor_f, v_not, v_knt, v_a0, v_a1, v_ka1, v_ka2, v_ek, v_kk, kkr_s, v_sk, v_ks, ksr_s, v_pop, kpop_I, kase_s, v_as, v_kas, v_inc, kme_s, v_pf, v_kpf1, v_kpf2, v_po, v_kpo1, v_kpo2, v_kpo3, v_kpo4, v_ia, v_kia1, v_kia2, v_kia3, v_io, v_kio1, v_kio2, v_kio3, v_kio4, v_kio5, v_s0, v_sq, sqk_l, sqk_r, v_if, kif_t, kif_f, v_no, nok_r, v_bk, bkk_l, bkk_r, v_rtI, krI_s, v_rtL, krL_s, v_rv, v_sw, ksw_I, ksw2_s, v_fn, fnl_t, fnk_r, fnr_t, nr_I, nr_L, nr_n, nr_b, nr_0, nr_1, nr_R, v_cl, v_cs, clk_t, m2_I, m1_I, v_si, v_sr, sik_t, v_sl, slk_t, v_oinc, inck_s, se_0, se_n, se_s, v_nl, v_nl0, nlo_I, nlo_R, nlo_U, nlo_n, v_ii, v_jj, v_ji, v_jc, v_iz, v_iu, v_i2l, c0_eq, c0_ne, c0_lt, c0_ge, c0_gt, c0_le, c2_eq, c2_ne, c2_lt, c2_ge, c2_gt, c2_le, en_n, en_I, en_R, en_L, List.getElem?_cons_zero, List.getElem?_cons_succ, List.getElem?_nil, List.length_cons, List.length_nil, List.take_succ_cons, List.take_zero, List.cons_append, List.nil_append, nI_lit, nN_lit, nI_eq, nI_ltI, nI_leI, nI_add, pk_mul, pk_sub, nI_eN, nN_eI, nN_ltI, nN_leI, nI_ltN, nI_leN, nN_nN, nN_leN, bI_e0, bI_e1, bt_shr, nI_sub_lt, ntT, ntF, nlT, nlF, neT, neF, gv_M_0_10, lv_M_9, z3, sh, g1, oI]
        | some c0 =>
          have e5 := g2 c0 hf j d1
          have c1' : cnt (vld B (dl (oD σ) k) 0 none) (4 ^ dl (oD σ) k) ≠ 0 := fun h9 => by rw [fnd_cnt.mp h9] at hf; cases hf
          have e6 : lws B (dl (oD σ) k - 1) 0 none j = some (dgt (dl (oD σ) k) c0 j) := by
            rw [hm] at hf ⊢
            exact vld_least B m 0 none c0 hf j (by omega)
          rw [e6]
          generalize cnt (vld B (dl (oD σ) k) 0 none) (4 ^ dl (oD σ) k) = n at *
          generalize 4 ^ dl (oD σ) k = P at *
          simp (disch := first | omega | assumption | exact Or.inl rfl | exact Or.inr rfl | exact bI_ok _) [v_bd, mp_s, v_en, v_k, v_li, li_s, v_ll, ll_s, v_lr, lr_s, v_eu, v_ku, v_eb, v_kb1, v_kb2, v_ec, kc_t, kc_f, v_bz, kz_I, v_b2, v_k21, k22_I, v_and, kan_t, kan_f, v_or, kor_t, kor_f, v_not, v_knt, v_a0, v_a1, v_ka1, v_ka2, v_ek, v_kk, kkr_s, v_sk, v_ks, ksr_s, v_pop, kpop_I, kase_s, v_as, v_kas, v_inc, kme_s, v_pf, v_kpf1, v_kpf2, v_po, v_kpo1, v_kpo2, v_kpo3, v_kpo4, v_ia, v_kia1, v_kia2, v_kia3, v_io, v_kio1, v_kio2, v_kio3, v_kio4, v_kio5, v_s0, v_sq, sqk_l, sqk_r, v_if, kif_t, kif_f, v_no, nok_r, v_bk, bkk_l, bkk_r, v_rtI, krI_s, v_rtL, krL_s, v_rv, v_sw, ksw_I, ksw2_s, v_fn, fnl_t, fnk_r, fnr_t, nr_I, nr_L, nr_n, nr_b, nr_0, nr_1, nr_R, v_cl, v_cs, clk_t, m2_I, m1_I, v_si, v_sr, sik_t, v_sl, slk_t, v_oinc, inck_s, se_0, se_n, se_s, v_nl, v_nl0, nlo_I, nlo_R, nlo_U, nlo_n, v_ii, v_jj, v_ji, v_jc, v_iz, v_iu, v_i2l, c0_eq, c0_ne, c0_lt, c0_ge, c0_gt, c0_le, c2_eq, c2_ne, c2_lt, c2_ge, c2_gt, c2_le, en_n, en_I, en_R, en_L, List.getElem?_cons_zero, List.getElem?_cons_succ, List.getElem?_nil, List.length_cons, List.length_nil, List.take_succ_cons, List.take_zero, List.cons_append, List.nil_append, nI_lit, nN_lit, nI_eq, nI_ltI, nI_leI, nI_add, pk_mul, pk_sub, nI_eN, nN_eI, nN_ltI, nN_leI, nI_ltN, nI_leN, nN_nN, nN_leN, bI_e0, bI_e1, bt_shr, nI_sub_lt, ntT, ntF, nlT, nlF, neT, neF, gv_M_0_10, lv_M_9, z3, z3', sh, g1, d1, gv_M_0_30, lv_M_24, e5, oI]
      · simp only [if_neg d1]
        generalize cnt (vld B (dl (oD σ) k) 0 none) (4 ^ dl (oD σ) k) = n at *
        generalize 4 ^ dl (oD σ) k = P at *
        by_cases d2 : 0 < n
        · simp (disch := first | omega | assumption | exact Or.inl rfl | exact Or.inr rfl | exact bI_ok _) [v_bd, mp_s, v_en, v_k, v_li, li_s, v_ll, ll_s, v_lr, lr_s, v_eu, v_ku, v_eb, v_kb1, v_kb2, v_ec, kc_t, kc_f, v_bz, kz_I, v_b2, v_k21, k22_I, v_and, kan_t, kan_f, v_or, kor_t, kor_f, v_not, v_knt, v_a0, v_a1, v_ka1, v_ka2, v_ek, v_kk, kkr_s, v_sk, v_ks, ksr_s, v_pop, kpop_I, kase_s, v_as, v_kas, v_inc, kme_s, v_pf, v_kpf1, v_kpf2, v_po, v_kpo1, v_kpo2, v_kpo3, v_kpo4, v_ia, v_kia1, v_kia2, v_kia3, v_io, v_kio1, v_kio2, v_kio3, v_kio4, v_kio5, v_s0, v_sq, sqk_l, sqk_r, v_if, kif_t, kif_f, v_no, nok_r, v_bk, bkk_l, bkk_r, v_rtI, krI_s, v_rtL, krL_s, v_rv, v_sw, ksw_I, ksw2_s, v_fn, fnl_t, fnk_r, fnr_t, nr_I, nr_L, nr_n, nr_b, nr_0, nr_1, nr_R, v_cl, v_cs, clk_t, m2_I, m1_I, v_si, v_sr, sik_t, v_sl, slk_t, v_oinc, inck_s, se_0, se_n, se_s, v_nl, v_nl0, nlo_I, nlo_R, nlo_U, nlo_n, v_ii, v_jj, v_ji, v_jc, v_iz, v_iu, v_i2l, c0_eq, c0_ne, c0_lt, c0_ge, c0_gt, c0_le, c2_eq, c2_ne, c2_lt, c2_ge, c2_gt, c2_le, en_n, en_I, en_R, en_L, List.getElem?_cons_zero, List.getElem?_cons_succ, List.getElem?_nil, List.length_cons, List.length_nil, List.take_succ_cons, List.take_zero, List.cons_append, List.nil_append, nI_lit, nN_lit, nI_eq, nI_ltI, nI_leI, nI_add, pk_mul, pk_sub, nI_eN, nN_eI, nN_ltI, nN_leI, nI_ltN, nI_leN, nN_nN, nN_leN, bI_e0, bI_e1, bt_shr, nI_sub_lt, ntT, ntF, nlT, nlF, neT, neF, gv_M_0_10, lv_M_9, z3, z3', sh, g1, d1, d2]
        · simp (disch := first | omega | assumption | exact Or.inl rfl | exact Or.inr rfl | exact bI_ok _) [v_bd, mp_s, v_en, v_k, v_li, li_s, v_ll, ll_s, v_lr, lr_s, v_eu, v_ku, v_eb, v_kb1, v_kb2, v_ec, kc_t, kc_f, v_bz, kz_I, v_b2, v_k21, k22_I, v_and, kan_t, kan_f, v_or, kor_t, kor_f, v_not, v_knt, v_a0, v_a1, v_ka1, v_ka2, v_ek, v_kk, kkr_s, v_sk, v_ks, ksr_s, v_pop, kpop_I, kase_s, v_as, v_kas, v_inc, kme_s, v_pf, v_kpf1, v_kpf2, v_po, v_kpo1, v_kpo2, v_kpo3, v_kpo4, v_ia, v_kia1, v_kia2, v_kia3, v_io, v_kio1, v_kio2, v_kio3, v_kio4, v_kio5, v_s0, v_sq, sqk_l, sqk_r, v_if, kif_t, kif_f, v_no, nok_r, v_bk, bkk_l, bkk_r, v_rtI, krI_s, v_rtL, krL_s, v_rv, v_sw, ksw_I, ksw2_s, v_fn, fnl_t, fnk_r, fnr_t, nr_I, nr_L, nr_n, nr_b, nr_0, nr_1, nr_R, v_cl, v_cs, clk_t, m2_I, m1_I, v_si, v_sr, sik_t, v_sl, slk_t, v_oinc, inck_s, se_0, se_n, se_s, v_nl, v_nl0, nlo_I, nlo_R, nlo_U, nlo_n, v_ii, v_jj, v_ji, v_jc, v_iz, v_iu, v_i2l, c0_eq, c0_ne, c0_lt, c0_ge, c0_gt, c0_le, c2_eq, c2_ne, c2_lt, c2_ge, c2_gt, c2_le, en_n, en_I, en_R, en_L, List.getElem?_cons_zero, List.getElem?_cons_succ, List.getElem?_nil, List.length_cons, List.length_nil, List.take_succ_cons, List.take_zero, List.cons_append, List.nil_append, nI_lit, nN_lit, nI_eq, nI_ltI, nI_leI, nI_add, pk_mul, pk_sub, nI_eN, nN_eI, nN_ltI, nN_leI, nI_ltN, nI_leN, nN_nN, nN_leN, bI_e0, bI_e1, bt_shr, nI_sub_lt, ntT, ntF, nlT, nlF, neT, neF, gv_M_0_10, lv_M_9, z3, z3', sh, g1, d2]
  · rintro code e μ2 hcode ⟨rfl, i2, i3⟩
    subst hc1 hb1
    have hF2 : Fnd σ μ2 := hF.kept (fun a b hab => i3 a b (by unfold cF at hab; omega))
    have hL2 : Lv σ μ2 := hL.kept (fun a b _ _ => i3 a b (by omega))
    obtain ⟨μ3, g1, g2, g3⟩ := f_mayBe' hw hF2 hL2 hh hk hcode
    rw [hB] at g1
    have lc := cnt_le (vld B (dl (oD σ) k) 0 none) code
    have ecs := cnt_s (vld B (dl (oD σ) k) 0 none) code
    refine ⟨by generalize 4 ^ dl (oD σ) k = P at *; simp (disch := first | omega | assumption | exact Or.inl rfl | exact Or.inr rfl | exact bI_ok _) [v_bd, mp_s, v_en, v_k, v_li, li_s, v_ll, ll_s, v_lr, lr_s, v_eu, v_ku, v_eb, v_kb1, v_kb2, v_ec, kc_t, kc_f, v_bz, kz_I, v_b2, v_k21, k22_I, v_and, kan_t, kan_f, v_or, kor_t, kor_f, v_not, v_knt, v_a0, v_a1, v_ka1, v_ka2, v_ek, v_kk, kkr_s, v_sk, v_ks, ksr_s, v_pop, kpop_I, kase_s, v_as, v_kas, v_inc, kme_s, v_pf, v_kpf1, v_kpf2, v_po, v_kpo1, v_kpo2, v_kpo3, v_kpo4, v_ia, v_kia1, v_kia2, v_kia3, v_io, v_kio1, v_kio2, v_kio3, v_kio4, v_kio5, v_s0, v_sq, sqk_l, sqk_r, v_if, kif_t, kif_f, v_no, nok_r, v_bk, bkk_l, bkk_r, v_rtI, krI_s, v_rtL, krL_s, v_rv, v_sw, ksw_I, ksw2_s, v_fn, fnl_t, fnk_r, fnr_t, nr_I, nr_L, nr_n, nr_b, nr_0, nr_1, nr_R, v_cl, v_cs, clk_t, m2_I, m1_I, v_si, v_sr, sik_t, v_sl, slk_t, v_oinc, inck_s, se_0, se_n, se_s, v_nl, v_nl0, nlo_I, nlo_R, nlo_U, nlo_n, v_ii, v_jj, v_ji, v_jc, v_iz, v_iu, v_i2l, c0_eq, c0_ne, c0_lt, c0_ge, c0_gt, c0_le, c2_eq, c2_ne, c2_lt, c2_ge, c2_gt, c2_le, en_n, en_I, en_R, en_L, List.getElem?_cons_zero, List.getElem?_cons_succ, List.getElem?_nil, List.length_cons, List.length_nil, List.take_succ_cons, List.take_zero, List.cons_append, List.nil_append, nI_lit, nN_lit, nI_eq, nI_ltI, nI_leI, nI_add, pk_mul, pk_sub, nI_eN, nN_eI, nN_ltI, nN_leI, nI_ltN, nI_leN, nN_nN, nN_leN, bI_e0, bI_e1, bt_shr, nI_sub_lt, ntT, ntF, nlT, nlF, neT, neF, ], ?_⟩
    generalize hc2 : (b_and (b_2 .lt (e_li 7) (e_ald ShM (e_gf ShM 11 10 (e_lr 0)) (e_li 2))) (b_z .eq (e_li 4))) = c2
    generalize hb2 : (s_sq (s_ia ShM (e_gf ShM 11 30 (e_lr 0)) (e_li 7) (e_ald ShM (e_gf ShM 11 29 (e_lr 0)) (e_li 7))) (s_inc 8 7 1)) = b2
    have z3' : ∀ μ', Fr (fun a => a = 24) μ3 μ' → μ' 9 k = nI (dl (oD σ) k) := fun μ' hf => by rw [hf _ _ (by omega), g3 _ _ (by omega), i3 _ _ (by omega)]; exact z3
    cases hb : vld B (dl (oD σ) k) 0 none code
    · rw [hb] at g1 ecs
      simp only [Bool.false_eq_true, if_false] at ecs
      refine ⟨[vR 0, vI (nI h), vI (nI k), vI (oI i), vI (nI (cnt (vld B (dl (oD σ) k) 0 none) code)), vI (nI (4 ^ dl (oD σ) k)), vI (nI (code + 1))], μ3, ?_, by rw [ecs], fun c0 h0 j hj => ?_, fun a b hab => by rw [g3 _ _ (by omega), i3 _ _ hab]⟩
      · generalize cnt (vld B (dl (oD σ) k) 0 none) code = n at *
        generalize 4 ^ dl (oD σ) k = P at *
        simp (disch := first | omega | assumption | exact Or.inl rfl | exact Or.inr rfl | exact bI_ok _) [v_bd, mp_s, v_en, v_k, v_li, li_s, v_ll, ll_s, v_lr, lr_s, v_eu, v_ku, v_eb, v_kb1, v_kb2, v_ec, kc_t, kc_f, v_bz, kz_I, v_b2, v_k21, k22_I, v_and, kan_t, kan_f, v_or, kor_t, kor_f, v_not, v_knt, v_a0, v_a1, v_ka1, v_ka2, v_ek, v_kk, kkr_s, v_sk, v_ks, ksr_s, v_pop, kpop_I, kase_s, v_as, v_kas, v_inc, kme_s, v_pf, v_kpf1, v_kpf2, v_po, v_kpo1, v_kpo2, v_kpo3, v_kpo4, v_ia, v_kia1, v_kia2, v_kia3, v_io, v_kio1, v_kio2, v_kio3, v_kio4, v_kio5, v_s0, v_sq, sqk_l, sqk_r, v_if, kif_t, kif_f, v_no, nok_r, v_bk, bkk_l, bkk_r, v_rtI, krI_s, v_rtL, krL_s, v_rv, v_sw, ksw_I, ksw2_s, v_fn, fnl_t, fnk_r, fnr_t, nr_I, nr_L, nr_n, nr_b, nr_0, nr_1, nr_R, v_cl, v_cs, clk_t, m2_I, m1_I, v_si, v_sr, sik_t, v_sl, slk_t, v_oinc, inck_s, se_0, se_n, se_s, v_nl, v_nl0, nlo_I, nlo_R, nlo_U, nlo_n, v_ii, v_jj, v_ji, v_jc, v_iz, v_iu, v_i2l, c0_eq, c0_ne, c0_lt, c0_ge, c0_gt, c0_le, c2_eq, c2_ne, c2_lt, c2_ge, c2_gt, c2_le, en_n, en_I, en_R, en_L, List.getElem?_cons_zero, List.getElem?_cons_succ, List.getElem?_nil, List.length_cons, List.length_nil, List.take_succ_cons, List.take_zero, List.cons_append, List.nil_append, nI_lit, nN_lit, nI_eq, nI_ltI, nI_leI, nI_add, pk_mul, pk_sub, nI_eN, nN_eI, nN_ltI, nN_leI, nI_ltN, nI_leN, nN_nN, nN_leN, bI_e0, bI_e1, bt_shr, nI_sub_lt, ntT, ntF, nlT, nlF, neT, neF, ck_M_0, g1]
      · have h1 : fnd (vld B (dl (oD σ) k) 0 none) code = some c0 := by
          unfold fnd at h0
          cases hf : fnd (vld B (dl (oD σ) k) 0 none) code with
          | none => rw [hf] at h0; simp [hb] at h0
          | some c9 => rw [hf] at h0; exact h0
        rw [g3 _ _ (by omega)]
        exact i2 c0 h1 j hj
    · rw [hb] at g1 ecs
      simp only [if_true] at ecs
      by_cases hn : cnt (vld B (dl (oD σ) k) 0 none) code = 0
      · have hf0 := fnd_cnt.mp hn
        have hf1 : fnd (vld B (dl (oD σ) k) 0 none) (code + 1) = some code := by unfold fnd; rw [hf0]; simp [hb]
        rw [hn] at ecs ⊢
        have k2 := lp_inv (c := c2) (b := b2) (fun j e μ' => e = [vR 0, vI (nI h), vI (nI k), vI (oI i), vI (nI 0), vI (nI (4 ^ dl (oD σ) k)), vI (nI code), vI (nI j)] ∧ (∀ u, u < j → μ' 24 u = nI (dgt (dl (oD σ) k) code u)) ∧ Fr (fun a => a = 24) μ3 μ') (dl (oD σ) k) ?_ ?_ (dl (oD σ) k) 0 _ μ3 (by omega) ⟨rfl, fun u hu => by omega, Fr.rf⟩
        · obtain ⟨e', μ4, n1, rfl, n2, n3⟩ := k2
          refine ⟨[vR 0, vI (nI h), vI (nI k), vI (oI i), vI (nI 1), vI (nI (4 ^ dl (oD σ) k)), vI (nI (code + 1))], μ4, ?_, by rw [ecs], fun c0 h0 j hj => ?_, fun a b hab => by rw [n3 _ _ (by omega), g3 _ _ (by omega), i3 _ _ hab]⟩
          · generalize 4 ^ dl (oD σ) k = P at *
            simp (disch := first | omega | assumption | exact Or.inl rfl | exact Or.inr rfl | exact bI_ok _) [v_bd, mp_s, v_en, v_k, v_li, li_s, v_ll, ll_s, v_lr, lr_s, v_eu, v_ku, v_eb, v_kb1, v_kb2, v_ec, kc_t, kc_f, v_bz, kz_I, v_b2, v_k21, k22_I, v_and, kan_t, kan_f, v_or, kor_t, kor_f, v_not, v_knt, v_a0, v_a1, v_ka1, v_ka2, v_ek, v_kk, kkr_s, v_sk, v_ks, ksr_s, v_pop, kpop_I, kase_s, v_as, v_kas, v_inc, kme_s, v_pf, v_kpf1, v_kpf2, v_po, v_kpo1, v_kpo2, v_kpo3, v_kpo4, v_ia, v_kia1, v_kia2, v_kia3, v_io, v_kio1, v_kio2, v_kio3, v_kio4, v_kio5, v_s0, v_sq, sqk_l, sqk_r, v_if, kif_t, kif_f, v_no, nok_r, v_bk, bkk_l, bkk_r, v_rtI, krI_s, v_rtL, krL_s, v_rv, v_sw, ksw_I, ksw2_s, v_fn, fnl_t, fnk_r, fnr_t, nr_I, nr_L, nr_n, nr_b, nr_0, nr_1, nr_R, v_cl, v_cs, clk_t, m2_I, m1_I, v_si, v_sr, sik_t, v_sl, slk_t, v_oinc, inck_s, se_0, se_n, se_s, v_nl, v_nl0, nlo_I, nlo_R, nlo_U, nlo_n, v_ii, v_jj, v_ji, v_jc, v_iz, v_iu, v_i2l, c0_eq, c0_ne, c0_lt, c0_ge, c0_gt, c0_le, c2_eq, c2_ne, c2_lt, c2_ge, c2_gt, c2_le, en_n, en_I, en_R, en_L, List.getElem?_cons_zero, List.getElem?_cons_succ, List.getElem?_nil, List.length_cons, List.length_nil, List.take_succ_cons, List.take_zero, List.cons_append, List.nil_append, nI_lit, nN_lit, nI_eq, nI_ltI, nI_leI, nI_add, pk_mul, pk_sub, nI_eN, nN_eI, nN_ltI, nN_leI, nI_ltN, nI_leN, nN_nN, nN_leN, bI_e0, bI_e1, bt_shr, nI_sub_lt, ntT, ntF, nlT, nlF, neT, neF, ck_M_0, g1, n1]
          · rw [hf1] at h0
            cases h0
            exact n2 j hj
        · rintro j e μ4 hj ⟨rfl, j2, j3⟩
          have z4 := z3' μ4 j3
          have y1 : μ4 23 j = nI (dgt (dl (oD σ) k) code j) := by rw [j3 _ _ (by omega)]; exact g2 j hj
          generalize 4 ^ dl (oD σ) k = P at *
          subst hc2 hb2
          refine ⟨by simp (disch := first | omega | assumption | exact Or.inl rfl | exact Or.inr rfl | exact bI_ok _) [v_bd, mp_s, v_en, v_k, v_li, li_s, v_ll, ll_s, v_lr, lr_s, v_eu, v_ku, v_eb, v_kb1, v_kb2, v_ec, kc_t, kc_f, v_bz, kz_I, v_b2, v_k21, k22_I, v_and, kan_t, kan_f, v_or, kor_t, kor_f, v_not, v_knt, v_a0, v_a1, v_ka1, v_ka2, v_ek, v_kk, kkr_s, v_sk, v_ks, ksr_s, v_pop, kpop_I, kase_s, v_as, v_kas, v_inc, kme_s, v_pf, v_kpf1, v_kpf2, v_po, v_kpo1, v_kpo2, v_kpo3, v_kpo4, v_ia, v_kia1, v_kia2, v_kia3, v_io, v_kio1, v_kio2, v_kio3, v_kio4, v_kio5, v_s0, v_sq, sqk_l, sqk_r, v_if, kif_t, kif_f, v_no, nok_r, v_bk, bkk_l, bkk_r, v_rtI, krI_s, v_rtL, krL_s, v_rv, v_sw, ksw_I, ksw2_s, v_fn, fnl_t, fnk_r, fnr_t, nr_I, nr_L, nr_n, nr_b, nr_0, nr_1, nr_R, v_cl, v_cs, clk_t, m2_I, m1_I, v_si, v_sr, sik_t, v_sl, slk_t, v_oinc, inck_s, se_0, se_n, se_s, v_nl, v_nl0, nlo_I, nlo_R, nlo_U, nlo_n, v_ii, v_jj, v_ji, v_jc, v_iz, v_iu, v_i2l, c0_eq, c0_ne, c0_lt, c0_ge, c0_gt, c0_le, c2_eq, c2_ne, c2_lt, c2_ge, c2_gt, c2_le, en_n, en_I, en_R, en_L, List.getElem?_cons_zero, List.getElem?_cons_succ, List.getElem?_nil, List.length_cons, List.length_nil, List.take_succ_cons, List.take_zero, List.cons_append, List.nil_append, nI_lit, nN_lit, nI_eq, nI_ltI, nI_leI, nI_add, pk_mul, pk_sub, nI_eN, nN_eI, nN_ltI, nN_leI, nI_ltN, nI_leN, nN_nN, nN_leN, bI_e0, bI_e1, bt_shr, nI_sub_lt, ntT, ntF, nlT, nlF, neT, neF, gv_M_0_10, lv_M_9, z4], _, am_up μ4 24 j (nI (dgt (dl (oD σ) k) code j)), by simp (disch := first | omega | assumption | exact Or.inl rfl | exact Or.inr rfl | exact bI_ok _) [v_bd, mp_s, v_en, v_k, v_li, li_s, v_ll, ll_s, v_lr, lr_s, v_eu, v_ku, v_eb, v_kb1, v_kb2, v_ec, kc_t, kc_f, v_bz, kz_I, v_b2, v_k21, k22_I, v_and, kan_t, kan_f, v_or, kor_t, kor_f, v_not, v_knt, v_a0, v_a1, v_ka1, v_ka2, v_ek, v_kk, kkr_s, v_sk, v_ks, ksr_s, v_pop, kpop_I, kase_s, v_as, v_kas, v_inc, kme_s, v_pf, v_kpf1, v_kpf2, v_po, v_kpo1, v_kpo2, v_kpo3, v_kpo4, v_ia, v_kia1, v_kia2, v_kia3, v_io, v_kio1, v_kio2, v_kio3, v_kio4, v_kio5, v_s0, v_sq, sqk_l, sqk_r, v_if, kif_t, kif_f, v_no, nok_r, v_bk, bkk_l, bkk_r, v_rtI, krI_s, v_rtL, krL_s, v_rv, v_sw, ksw_I, ksw2_s, v_fn, fnl_t, fnk_r, fnr_t, nr_I, nr_L, nr_n, nr_b, nr_0, nr_1, nr_R, v_cl, v_cs, clk_t, m2_I, m1_I, v_si, v_sr, sik_t, v_sl, slk_t, v_oinc, inck_s, se_0, se_n, se_s, v_nl, v_nl0, nlo_I, nlo_R, nlo_U, nlo_n, v_ii, v_jj, v_ji, v_jc, v_iz, v_iu, v_i2l, c0_eq, c0_ne, c0_lt, c0_ge, c0_gt, c0_le, c2_eq, c2_ne, c2_lt, c2_ge, c2_gt, c2_le, en_n, en_I, en_R, en_L, List.getElem?_cons_zero, List.getElem?_cons_succ, List.getElem?_nil, List.length_cons, List.length_nil, List.take_succ_cons, List.take_zero, List.cons_append, List.nil_append, nI_lit, nN_lit, nI_eq, nI_ltI, nI_leI, nI_add, pk_mul, pk_sub, nI_eN, nN_eI, nN_ltI, nN_leI, nI_ltN, nI_leN, nN_nN, nN_leN, bI_e0, bI_e1, bt_shr, nI_sub_lt, ntT, ntF, nlT, nlF, neT, neF, gv_M_0_30, gv_M_0_29, lv_M_23, y1, wv_M_24], rfl, fun u hu => ?_, j3.up rfl⟩
          by_cases e9 : u = j
          · rw [e9, am_up_eq]
          · rw [am_up_ne _ _ (by omega)]; exact j2 u (by omega)
        · rintro e μ4 ⟨rfl, j2, j3⟩
          have z4 := z3' μ4 j3
          generalize 4 ^ dl (oD σ) k = P at *
          subst hc2
          simp (disch := first | omega | assumption | exact Or.inl rfl | exact Or.inr rfl | exact bI_ok _) [v_bd, mp_s, v_en, v_k, v_li, li_s, v_ll, ll_s, v_lr, lr_s, v_eu, v_ku, v_eb, v_kb1, v_kb2, v_ec, kc_t, kc_f, v_bz, kz_I, v_b2, v_k21, k22_I, v_and, kan_t, kan_f, v_or, kor_t, kor_f, v_not, v_knt, v_a0, v_a1, v_ka1, v_ka2, v_ek, v_kk, kkr_s, v_sk, v_ks, ksr_s, v_pop, kpop_I, kase_s, v_as, v_kas, v_inc, kme_s, v_pf, v_kpf1, v_kpf2, v_po, v_kpo1, v_kpo2, v_kpo3, v_kpo4, v_ia, v_kia1, v_kia2, v_kia3, v_io, v_kio1, v_kio2, v_kio3, v_kio4, v_kio5, v_s0, v_sq, sqk_l, sqk_r, v_if, kif_t, kif_f, v_no, nok_r, v_bk, bkk_l, bkk_r, v_rtI, krI_s, v_rtL, krL_s, v_rv, v_sw, ksw_I, ksw2_s, v_fn, fnl_t, fnk_r, fnr_t, nr_I, nr_L, nr_n, nr_b, nr_0, nr_1, nr_R, v_cl, v_cs, clk_t, m2_I, m1_I, v_si, v_sr, sik_t, v_sl, slk_t, v_oinc, inck_s, se_0, se_n, se_s, v_nl, v_nl0, nlo_I, nlo_R, nlo_U, nlo_n, v_ii, v_jj, v_ji, v_jc, v_iz, v_iu, v_i2l, c0_eq, c0_ne, c0_lt, c0_ge, c0_gt, c0_le, c2_eq, c2_ne, c2_lt, c2_ge, c2_gt, c2_le, en_n, en_I, en_R, en_L, List.getElem?_cons_zero, List.getElem?_cons_succ, List.getElem?_nil, List.length_cons, List.length_nil, List.take_succ_cons, List.take_zero, List.cons_append, List.nil_append, nI_lit, nN_lit, nI_eq, nI_ltI, nI_leI, nI_add, pk_mul, pk_sub, nI_eN, nN_eI, nN_ltI, nN_leI, nI_ltN, nI_leN, nN_nN, nN_leN, bI_e0, bI_e1, bt_shr, nI_sub_lt, ntT, ntF, nlT, nlF, neT, neF, gv_M_0_10, lv_M_9, z4]
      · obtain ⟨c9, hf0⟩ : ∃ c9, fnd (vld B (dl (oD σ) k) 0 none) code = some c9 := by
          cases hf : fnd (vld B (dl (oD σ) k) 0 none) code with
          | none => exact absurd (fnd_cnt.mpr hf) hn
          | some c9 => exact ⟨c9, rfl⟩
        have z4 := z3' μ3 Fr.rf
        have k2 : s_lp c2 b2 [vR 0, vI (nI h), vI (nI k), vI (oI i), vI (nI (cnt (vld B (dl (oD σ) k) 0 none) code)), vI (nI (4 ^ dl (oD σ) k)), vI (nI code), vI (nI 0)] μ3 = some (.inl ([vR 0, vI (nI h), vI (nI k), vI (oI i), vI (nI (cnt (vld B (dl (oD σ) k) 0 none) code)), vI (nI (4 ^ dl (oD σ) k)), vI (nI code), vI (nI 0)], μ3)) := by
          apply bf_c
          generalize cnt (vld B (dl (oD σ) k) 0 none) code = n at *
          generalize 4 ^ dl (oD σ) k = P at *
          subst hc2
          simp (disch := first | omega | assumption | exact Or.inl rfl | exact Or.inr rfl | exact bI_ok _) [v_bd, mp_s, v_en, v_k, v_li, li_s, v_ll, ll_s, v_lr, lr_s, v_eu, v_ku, v_eb, v_kb1, v_kb2, v_ec, kc_t, kc_f, v_bz, kz_I, v_b2, v_k21, k22_I, v_and, kan_t, kan_f, v_or, kor_t, kor_f, v_not, v_knt, v_a0, v_a1, v_ka1, v_ka2, v_ek, v_kk, kkr_s, v_sk, v_ks, ksr_s, v_pop, kpop_I, kase_s, v_as, v_kas, v_inc, kme_s, v_pf, v_kpf1, v_kpf2, v_po, v_kpo1, v_kpo2, v_kpo3, v_kpo4, v_ia, v_kia1, v_kia2, v_kia3, v_io, v_kio1, v_kio2, v_kio3, v_kio4, v_kio5, v_s0, v_sq, sqk_l, sqk_r, v_if, kif_t, kif_f, v_no, nok_r, v_bk, bkk_l, bkk_r, v_rtI, krI_s, v_rtL, krL_s, v_rv, v_sw, ksw_I, ksw2_s, v_fn, fnl_t, fnk_r, fnr_t, nr_I, nr_L, nr_n, nr_b, nr_0, nr_1, nr_R, v_cl, v_cs, clk_t, m2_I, m1_I, v_si, v_sr, sik_t, v_sl, slk_t, v_oinc, inck_s, se_0, se_n, se_s, v_nl, v_nl0, nlo_I, nlo_R, nlo_U, nlo_n, v_ii, v_jj, v_ji, v_jc, v_iz, v_iu, v_i2l, c0_eq, c0_ne, c0_lt, c0_ge, c0_gt, c0_le, c2_eq, c2_ne, c2_lt, c2_ge, c2_gt, c2_le, en_n, en_I, en_R, en_L, List.getElem?_cons_zero, List.getElem?_cons_succ, List.getElem?_nil, List.length_cons, List.length_nil, List.take_succ_cons, List.take_zero, List.cons_append, List.nil_append, nI_lit, nN_lit, nI_eq, nI_ltI, nI_leI, nI_add, pk_mul, pk_sub, nI_eN, nN_eI, nN_ltI, nN_leI, nI_ltN, nI_leN, nN_nN, nN_leN, bI_e0, bI_e1, bt_shr, nI_sub_lt, ntT, ntF, nlT, nlF, neT, neF, gv_M_0_10, lv_M_9, z4, hn]
        refine ⟨[vR 0, vI (nI h), vI (nI k), vI (oI i), vI (nI (cnt (vld B (dl (oD σ) k) 0 none) code + 1)), vI (nI (4 ^ dl (oD σ) k)), vI (nI (code + 1))], μ3, ?_, by rw [ecs], fun c0 h0 j hj => ?_, fun a b hab => by rw [g3 _ _ (by omega), i3 _ _ hab]⟩
        · generalize cnt (vld B (dl (oD σ) k) 0 none) code = n at *
          generalize 4 ^ dl (oD σ) k = P at *
          simp (disch := first | omega | assumption | exact Or.inl rfl | exact Or.inr rfl | exact bI_ok _) [v_bd, mp_s, v_en, v_k, v_li, li_s, v_ll, ll_s, v_lr, lr_s, v_eu, v_ku, v_eb, v_kb1, v_kb2, v_ec, kc_t, kc_f, v_bz, kz_I, v_b2, v_k21, k22_I, v_and, kan_t, kan_f, v_or, kor_t, kor_f, v_not, v_knt, v_a0, v_a1, v_ka1, v_ka2, v_ek, v_kk, kkr_s, v_sk, v_ks, ksr_s, v_pop, kpop_I, kase_s, v_as, v_kas, v_inc, kme_s, v_pf, v_kpf1, v_kpf2, v_po, v_kpo1, v_kpo2, v_kpo3, v_kpo4, v_ia, v_kia1, v_kia2, v_kia3, v_io, v_kio1, v_kio2, v_kio3, v_kio4, v_kio5, v_s0, v_sq, sqk_l, sqk_r, v_if, kif_t, kif_f, v_no, nok_r, v_bk, bkk_l, bkk_r, v_rtI, krI_s, v_rtL, krL_s, v_rv, v_sw, ksw_I, ksw2_s, v_fn, fnl_t, fnk_r, fnr_t, nr_I, nr_L, nr_n, nr_b, nr_0, nr_1, nr_R, v_cl, v_cs, clk_t, m2_I, m1_I, v_si, v_sr, sik_t, v_sl, slk_t, v_oinc, inck_s, se_0, se_n, se_s, v_nl, v_nl0, nlo_I, nlo_R, nlo_U, nlo_n, v_ii, v_jj, v_ji, v_jc, v_iz, v_iu, v_i2l, c0_eq, c0_ne, c0_lt, c0_ge, c0_gt, c0_le, c2_eq, c2_ne, c2_lt, c2_ge, c2_gt, c2_le, en_n, en_I, en_R, en_L, List.getElem?_cons_zero, List.getElem?_cons_succ, List.getElem?_nil, List.length_cons, List.length_nil, List.take_succ_cons, List.take_zero, List.cons_append, List.nil_append, nI_lit, nN_lit, nI_eq, nI_ltI, nI_leI, nI_add, pk_mul, pk_sub, nI_eN, nN_eI, nN_ltI, nN_leI, nI_ltN, nI_leN, nN_nN, nN_leN, bI_e0, bI_e1, bt_shr, nI_sub_lt, ntT, ntF, nlT, nlF, neT, neF, ck_M_0, g1, k2]
        · rw [fnd_s hf0] at h0
          cases h0
          rw [g3 _ _ (by omega)]
          exact i2 c9 hf0 j hj
  · rintro e μ2 ⟨rfl, i2, i3⟩
    subst hc1
    have lc := cnt_le (vld B (dl (oD σ) k) 0 none) (4 ^ dl (oD σ) k)
    generalize 4 ^ dl (oD σ) k = P at *
    simp (disch := first | omega | assumption | exact Or.inl rfl | exact Or.inr rfl | exact bI_ok _) [v_bd, mp_s, v_en, v_k, v_li, li_s, v_ll, ll_s, v_lr, lr_s, v_eu, v_ku, v_eb, v_kb1, v_kb2, v_ec, kc_t, kc_f, v_bz, kz_I, v_b2, v_k21, k22_I, v_and, kan_t, kan_f, v_or, kor_t, kor_f, v_not, v_knt, v_a0, v_a1, v_ka1, v_ka2, v_ek, v_kk, kkr_s, v_sk, v_ks, ksr_s, v_pop, kpop_I, kase_s, v_as, v_kas, v_inc, kme_s, v_pf, v_kpf1, v_kpf2, v_po, v_kpo1, v_kpo2, v_kpo3, v_kpo4, v_ia, v_kia1, v_kia2, v_kia3, v_io, v_kio1, v_kio2, v_kio3, v_kio4, v_kio5, v_s0, v_sq, sqk_l, sqk_r, v_if, kif_t, kif_f, v_no, nok_r, v_bk, bkk_l, bkk_r, v_rtI, krI_s, v_rtL, krL_s, v_rv, v_sw, ksw_I, ksw2_s, v_fn, fnl_t, fnk_r, fnr_t, nr_I, nr_L, nr_n, nr_b, nr_0, nr_1, nr_R, v_cl, v_cs, clk_t, m2_I, m1_I, v_si, v_sr, sik_t, v_sl, slk_t, v_oinc, inck_s, se_0, se_n, se_s, v_nl, v_nl0, nlo_I, nlo_R, nlo_U, nlo_n, v_ii, v_jj, v_ji, v_jc, v_iz, v_iu, v_i2l, c0_eq, c0_ne, c0_lt, c0_ge, c0_gt, c0_le, c2_eq, c2_ne, c2_lt, c2_ge, c2_gt, c2_le, en_n, en_I, en_R, en_L, List.getElem?_cons_zero, List.getElem?_cons_succ, List.getElem?_nil, List.length_cons, List.length_nil, List.take_succ_cons, List.take_zero, List.cons_append, List.nil_append, nI_lit, nN_lit, nI_eq, nI_ltI, nI_leI, nI_add, pk_mul, pk_sub, nI_eN, nN_eI, nN_ltI, nN_leI, nI_ltN, nI_leN, nN_nN, nN_leN, bI_e0, bI_e1, bt_shr, nI_sub_lt, ntT, ntF, nlT, nlF, neT, neF, ]
theorem Fnd.fill {σ : Sg} {μ : am_M} (hw : wfS σ) (hF : Fnd σ μ) (hL : Lv σ μ) {h k : Nat} (hh : h < 20) (hk : k < dn (oD σ)) {i : Option Nat} (hi : ∀ j, i = some j → j < 6) : ∃ μ', f_X11_fillOf [vR 0, vI (nI h), vI (nI k), vI (oI i)] μ = some (some (vI (vFill σ h k i)), μ') ∧ Fnd σ μ' ∧ Lv σ μ' := by
  obtain ⟨μ', h1, h2⟩ := f_fillOf hw hF hL hh hk hi
  exact ⟨μ', h1, hF.kept (fun a b hab => h2 a b (by unfold cF at hab; omega)), hL.kept (fun a b _ _ => h2 a b (by omega))⟩
theorem mq_fill_bad {σ : Sg} (hw : wfS σ) {u x w : Int32} (h : ((rg u 20 && rg x (dn (oD σ))) && rgm w 6) = false) : QM f_X11_fill [vI u, vI x, vI w] σ (vI (-2)) := by
  intro μ hc
  obtain ⟨μ', a1, a2, a3⟩ := f_find hw hc
  refine ⟨μ', ?_, a2.1⟩
  have f1 := f_isStrandM (n := dn (oD σ)) a2.2.1.1 (by have := (oD_wf σ).1; omega) x
  have f2 : ∀ μ, f_X11_in [vL w.toInt64, vL (-1), vL 5] μ = some (some (vI (bI (rgm w 6))), μ) := fun μ => f_inm w (n := 5) (by decide) μ
  unfold f_X11_fill g_X11_fill
  cases h0 : rg u 20
  · simp (disch := first | omega | assumption | exact Or.inl rfl | exact Or.inr rfl | exact bI_ok _) [v_bd, mp_s, v_en, v_k, v_li, li_s, v_ll, ll_s, v_lr, lr_s, v_eu, v_ku, v_eb, v_kb1, v_kb2, v_ec, kc_t, kc_f, v_bz, kz_I, v_b2, v_k21, k22_I, v_and, kan_t, kan_f, v_or, kor_t, kor_f, v_not, v_knt, v_a0, v_a1, v_ka1, v_ka2, v_ek, v_kk, kkr_s, v_sk, v_ks, ksr_s, v_pop, kpop_I, kase_s, v_as, v_kas, v_inc, kme_s, v_pf, v_kpf1, v_kpf2, v_po, v_kpo1, v_kpo2, v_kpo3, v_kpo4, v_ia, v_kia1, v_kia2, v_kia3, v_io, v_kio1, v_kio2, v_kio3, v_kio4, v_kio5, v_s0, v_sq, sqk_l, sqk_r, v_if, kif_t, kif_f, v_no, nok_r, v_bk, bkk_l, bkk_r, v_rtI, krI_s, v_rtL, krL_s, v_rv, v_sw, ksw_I, ksw2_s, v_fn, fnl_t, fnk_r, fnr_t, nr_I, nr_L, nr_n, nr_b, nr_0, nr_1, nr_R, v_cl, v_cs, clk_t, m2_I, m1_I, v_si, v_sr, sik_t, v_sl, slk_t, v_oinc, inck_s, se_0, se_n, se_s, v_nl, v_nl0, nlo_I, nlo_R, nlo_U, nlo_n, v_ii, v_jj, v_ji, v_jc, v_iz, v_iu, v_i2l, c0_eq, c0_ne, c0_lt, c0_ge, c0_gt, c0_le, c2_eq, c2_ne, c2_lt, c2_ge, c2_gt, c2_le, en_n, en_I, en_R, en_L, List.getElem?_cons_zero, List.getElem?_cons_succ, List.getElem?_nil, List.length_cons, List.length_nil, List.take_succ_cons, List.take_zero, List.cons_append, List.nil_append, nI_lit, nN_lit, nI_eq, nI_ltI, nI_leI, nI_add, pk_mul, pk_sub, nI_eN, nN_eI, nN_ltI, nN_leI, nI_ltN, nI_leN, nN_nN, nN_leN, bI_e0, bI_e1, bt_shr, nI_sub_lt, ntT, ntF, nlT, nlF, neT, neF, ck_M_0, a1, f_isHour, h0]
  cases h1 : rg x (dn (oD σ))
  · rw [h1] at f1
    simp (disch := first | omega | assumption | exact Or.inl rfl | exact Or.inr rfl | exact bI_ok _) [v_bd, mp_s, v_en, v_k, v_li, li_s, v_ll, ll_s, v_lr, lr_s, v_eu, v_ku, v_eb, v_kb1, v_kb2, v_ec, kc_t, kc_f, v_bz, kz_I, v_b2, v_k21, k22_I, v_and, kan_t, kan_f, v_or, kor_t, kor_f, v_not, v_knt, v_a0, v_a1, v_ka1, v_ka2, v_ek, v_kk, kkr_s, v_sk, v_ks, ksr_s, v_pop, kpop_I, kase_s, v_as, v_kas, v_inc, kme_s, v_pf, v_kpf1, v_kpf2, v_po, v_kpo1, v_kpo2, v_kpo3, v_kpo4, v_ia, v_kia1, v_kia2, v_kia3, v_io, v_kio1, v_kio2, v_kio3, v_kio4, v_kio5, v_s0, v_sq, sqk_l, sqk_r, v_if, kif_t, kif_f, v_no, nok_r, v_bk, bkk_l, bkk_r, v_rtI, krI_s, v_rtL, krL_s, v_rv, v_sw, ksw_I, ksw2_s, v_fn, fnl_t, fnk_r, fnr_t, nr_I, nr_L, nr_n, nr_b, nr_0, nr_1, nr_R, v_cl, v_cs, clk_t, m2_I, m1_I, v_si, v_sr, sik_t, v_sl, slk_t, v_oinc, inck_s, se_0, se_n, se_s, v_nl, v_nl0, nlo_I, nlo_R, nlo_U, nlo_n, v_ii, v_jj, v_ji, v_jc, v_iz, v_iu, v_i2l, c0_eq, c0_ne, c0_lt, c0_ge, c0_gt, c0_le, c2_eq, c2_ne, c2_lt, c2_ge, c2_gt, c2_le, en_n, en_I, en_R, en_L, List.getElem?_cons_zero, List.getElem?_cons_succ, List.getElem?_nil, List.length_cons, List.length_nil, List.take_succ_cons, List.take_zero, List.cons_append, List.nil_append, nI_lit, nN_lit, nI_eq, nI_ltI, nI_leI, nI_add, pk_mul, pk_sub, nI_eN, nN_eI, nN_ltI, nN_leI, nI_ltN, nI_leN, nN_nN, nN_leN, bI_e0, bI_e1, bt_shr, nI_sub_lt, ntT, ntF, nlT, nlF, neT, neF, ck_M_0, a1, f_isHour, h0, f1]
  · rw [h0, h1, Bool.true_and, Bool.true_and] at h
    rw [h1] at f1
    simp (disch := first | omega | assumption | exact Or.inl rfl | exact Or.inr rfl | exact bI_ok _) [v_bd, mp_s, v_en, v_k, v_li, li_s, v_ll, ll_s, v_lr, lr_s, v_eu, v_ku, v_eb, v_kb1, v_kb2, v_ec, kc_t, kc_f, v_bz, kz_I, v_b2, v_k21, k22_I, v_and, kan_t, kan_f, v_or, kor_t, kor_f, v_not, v_knt, v_a0, v_a1, v_ka1, v_ka2, v_ek, v_kk, kkr_s, v_sk, v_ks, ksr_s, v_pop, kpop_I, kase_s, v_as, v_kas, v_inc, kme_s, v_pf, v_kpf1, v_kpf2, v_po, v_kpo1, v_kpo2, v_kpo3, v_kpo4, v_ia, v_kia1, v_kia2, v_kia3, v_io, v_kio1, v_kio2, v_kio3, v_kio4, v_kio5, v_s0, v_sq, sqk_l, sqk_r, v_if, kif_t, kif_f, v_no, nok_r, v_bk, bkk_l, bkk_r, v_rtI, krI_s, v_rtL, krL_s, v_rv, v_sw, ksw_I, ksw2_s, v_fn, fnl_t, fnk_r, fnr_t, nr_I, nr_L, nr_n, nr_b, nr_0, nr_1, nr_R, v_cl, v_cs, clk_t, m2_I, m1_I, v_si, v_sr, sik_t, v_sl, slk_t, v_oinc, inck_s, se_0, se_n, se_s, v_nl, v_nl0, nlo_I, nlo_R, nlo_U, nlo_n, v_ii, v_jj, v_ji, v_jc, v_iz, v_iu, v_i2l, c0_eq, c0_ne, c0_lt, c0_ge, c0_gt, c0_le, c2_eq, c2_ne, c2_lt, c2_ge, c2_gt, c2_le, en_n, en_I, en_R, en_L, List.getElem?_cons_zero, List.getElem?_cons_succ, List.getElem?_nil, List.length_cons, List.length_nil, List.take_succ_cons, List.take_zero, List.cons_append, List.nil_append, nI_lit, nN_lit, nI_eq, nI_ltI, nI_leI, nI_add, pk_mul, pk_sub, nI_eN, nN_eI, nN_ltI, nN_leI, nI_ltN, nI_leN, nN_nN, nN_leN, bI_e0, bI_e1, bt_shr, nI_sub_lt, ntT, ntF, nlT, nlF, neT, neF, ck_M_0, a1, f_isHour, h0, f1, f2, h]
theorem mq_fill {σ : Sg} (hw : wfS σ) {h k : Nat} (hh : h < 20) (hk : k < dn (oD σ)) {i : Option Nat} (hi : ∀ j, i = some j → j < 6) : QM f_X11_fill [vI (nI h), vI (nI k), vI (oI i)] σ (vI (vFill σ h k i)) := by
  intro μ hc
  obtain ⟨μ', a1, a2, a3⟩ := f_find hw hc
  obtain ⟨μ2, b1, b2, b3⟩ := a2.fill hw a3 hh hk hi
  refine ⟨μ2, ?_, b2.1⟩
  have w0 := (oD_wf σ).1
  have f1 := f_isStrandM (n := dn (oD σ)) a2.2.1.1 (by omega) (nI k)
  rw [rg_in hk (by omega)] at f1
  have f2 : ∀ μ, f_X11_in [vL (oI i).toInt64, vL (-1), vL 5] μ = some (some (vI (bI (rgm (oI i) 6))), μ) := fun μ => f_inm (oI i) (n := 5) (by decide) μ
  unfold f_X11_fill g_X11_fill
  simp (disch := first | omega | assumption | exact Or.inl rfl | exact Or.inr rfl | exact bI_ok _) [v_bd, mp_s, v_en, v_k, v_li, li_s, v_ll, ll_s, v_lr, lr_s, v_eu, v_ku, v_eb, v_kb1, v_kb2, v_ec, kc_t, kc_f, v_bz, kz_I, v_b2, v_k21, k22_I, v_and, kan_t, kan_f, v_or, kor_t, kor_f, v_not, v_knt, v_a0, v_a1, v_ka1, v_ka2, v_ek, v_kk, kkr_s, v_sk, v_ks, ksr_s, v_pop, kpop_I, kase_s, v_as, v_kas, v_inc, kme_s, v_pf, v_kpf1, v_kpf2, v_po, v_kpo1, v_kpo2, v_kpo3, v_kpo4, v_ia, v_kia1, v_kia2, v_kia3, v_io, v_kio1, v_kio2, v_kio3, v_kio4, v_kio5, v_s0, v_sq, sqk_l, sqk_r, v_if, kif_t, kif_f, v_no, nok_r, v_bk, bkk_l, bkk_r, v_rtI, krI_s, v_rtL, krL_s, v_rv, v_sw, ksw_I, ksw2_s, v_fn, fnl_t, fnk_r, fnr_t, nr_I, nr_L, nr_n, nr_b, nr_0, nr_1, nr_R, v_cl, v_cs, clk_t, m2_I, m1_I, v_si, v_sr, sik_t, v_sl, slk_t, v_oinc, inck_s, se_0, se_n, se_s, v_nl, v_nl0, nlo_I, nlo_R, nlo_U, nlo_n, v_ii, v_jj, v_ji, v_jc, v_iz, v_iu, v_i2l, c0_eq, c0_ne, c0_lt, c0_ge, c0_gt, c0_le, c2_eq, c2_ne, c2_lt, c2_ge, c2_gt, c2_le, en_n, en_I, en_R, en_L, List.getElem?_cons_zero, List.getElem?_cons_succ, List.getElem?_nil, List.length_cons, List.length_nil, List.take_succ_cons, List.take_zero, List.cons_append, List.nil_append, nI_lit, nN_lit, nI_eq, nI_ltI, nI_leI, nI_add, pk_mul, pk_sub, nI_eN, nN_eI, nN_ltI, nN_leI, nI_ltN, nI_leN, nN_nN, nN_leN, bI_e0, bI_e1, bt_shr, nI_sub_lt, ntT, ntF, nlT, nlF, neT, neF, ck_M_0, a1, f_isHour, rg_nI, f1, f2, rgm_o hi, b1]
