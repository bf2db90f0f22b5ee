/-! the class: parse, links, tides, route -/
theorem tb_lt {T : List Nat} (h : ∀ b ∈ T, b < 256) (i : Nat) : tb T i < 256 := by
  unfold tb
  cases e : T[i]? with
  | none => exact Nat.le_of_ble_eq_true rfl
  | some b => exact h b (List.mem_of_getElem? e)
theorem tb_in {T : List Nat} {i : Nat} (h : i < T.length) : T[i]? = some (tb T i) := by
  unfold tb
  rw [List.getElem?_eq_getElem h]
  rfl
/-- what the class knows of a text -/
def xt (t : Nat) (T : List Nat) (μ : am_M) : Prop := μ (1 + 2 * t) 2 = nI T.length ∧ ∀ i, i < T.length → μ (2 + 2 * t) i = nI (tb T i)
theorem xT.xt {T : Nat → List Nat} {μ : am_M} (h : xT T μ) {t : Nat} (ht : t < 3) : xt t (T t) μ := ⟨(h t ht).2.1, fun i hi => (h t ht).2.2 i _ (tb_in hi)⟩
theorem xP_0 {μ : am_M} : xP p0 (am_up (am_up μ 7 0 (nI 0)) 7 7 (nI 0)) := by
  refine ⟨by rw [am_up_ne _ _ (by omega), am_up_eq]; rfl, am_up_eq _ _ _ _, fun s hs => ?_, fun s hs => ?_, fun s hs => ?_, fun s i hs => ?_⟩ <;> exact absurd hs (by simp [p0, dn])
theorem okp_len {T : List Nat} {n : Nat} (h : ∀ j, j < n → okp (pst T j) (tb T j) = true) : wfP (pst T n) := wfP_i h
/-- the turns of parse up to j -/
theorem parse_lp {T : List Nat} {μ : am_M} {c1 : am_B} {b1 : am_T} (hc1 : (b_and (b_2 .lt (e_li 3) (e_gf ShX 7 2 (e_lr 1))) (b_2 .eq (e_li 2) (e_i (-1)))) = c1) (hb1 : (s_sq (s_if (b_not (b_z .ne (e_k (am_cl ShX 0 1 f_X0_takes) (a_1 (e_lr 0) (a_1 (e_ald ShX (e_gf ShX 7 0 (e_lr 1)) (e_li 3)) a_0))))) (s_as (o_si 4 2) (e_li 3)) s_0) (s_inc 4 3 1)) = b1) (hT : T.length ≤ 71) (hb : ∀ b ∈ T, b < 256) (hx : xt 0 T μ) {j : Nat} (hj : j ≤ T.length) (ho : ∀ i, i < j → okp (pst T i) (tb T i) = true) (hp : xP p0 μ) :
    ∃ μ', xP (pst T j) μ' ∧ Fr (fun a => 7 ≤ a ∧ a < 12) μ μ' ∧ s_lp c1 b1 [vR 7, vR 1, vI nN, vI (nI 0)] μ = s_lp c1 b1 [vR 7, vR 1, vI nN, vI (nI j)] μ' := by
  induction j with
  | zero => exact ⟨μ, hp, Fr.rf, rfl⟩
  | succ j ih =>
    obtain ⟨μ', h1, h2, h3⟩ := ih (by omega) (fun i hi => ho i (by omega))
    obtain ⟨μ2, g1, g2, g3⟩ := f_takes_ok (b := tb T j) (wfP_i (fun i hi => ho i (by omega))) h1 (tb_lt hb j) (ho j (by omega))
    refine ⟨μ2, g2, h2.tr g3, h3.trans ?_⟩
    have y0 : μ' 1 2 = nI T.length := by rw [h2 _ _ (by omega)]; exact hx.1
    have y1 : μ' 2 j = nI (tb T j) := by rw [h2 _ _ (by omega)]; exact hx.2 j (by omega)
    rw [s_lp_eq]
    subst hc1
    generalize hll : s_lp _ b1 = ll
    subst hb1
    simp (disch := first | omega | assumption | exact Or.inl rfl | exact Or.inr rfl | exact bI_ok _) [am_fn, am_en, am_bd_s, am_bd_n, e_n, e_u, e_b, e_c, e_k, b_z, b_2, b_and, b_or, b_not, a_0, a_1, s_k, s_pop, s_as, s_inc, s_pf, s_po, s_ia, s_io, s_cy, s_0, s_sq, s_if, s_no, s_bk, s_rt_I, s_rt_L, s_rt_A, s_rv, s_sw, o_k, o_li, o_ll, o_lr, o_ii, o_iz, o_jj, o_jz, o_ji, o_jc, o_iu, o_i2l, o_si, o_sr, o_sl, o_inc, am_cl, am_cs, am_m1, am_m2, am_c1, am_c0, am_c2, am_se, am_nl, am_nr, am_wh, List.getElem?_cons_zero, List.getElem?_cons_succ, List.length_cons, List.length_nil, Option.map_some, Option.map_none, List.reverse_cons, List.set_cons_succ, List.set_cons_zero, List.take_succ_cons, List.take_zero, List.cons_append, List.nil_append, nI_lit, nN_lit, nI_eq, nI_ltI, nI_leI, nI_add, pk_mul, pk_sub, nI_eN, nN_eI, nN_ltI, nN_leI, nI_ltN, nI_leN, nN_nN, nN_leN, bI_e0, bI_e1, bt_shr, nI_sub_lt, ntT, ntF, nlT, nlF, neT, neF, gv_T_2 (show 0 < 3 by decide), gv_T_0 (show 0 < 3 by decide), lv_T_0 (show 0 < 3 by decide), y0, y1, ck_X_7, g1]
