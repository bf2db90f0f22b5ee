/-! copy as an operation -/
theorem M_copy_ok {s t a b c z y : Nat} (hs : s < 4) (ht : t < 4) (h1 : rg (nI s) 4 = true) (h2 : rg (nI t) 4 = true) {μ : am_M} (h3 : (μ 1 s < 0) = False) (h4 : (μ 1 t < 0) = False) (h5 : (μ 1 s = μ 1 t) = True) (hz : μ 2 s = nI z) (hy : μ 2 t = nI y) (hz9 : z ≤ 60) (hy9 : y ≤ 60) (ha : a + c ≤ z) (hb : b + c ≤ y) : f_X11_copy [vR 0, vI (nI s), vI (nI a), vI (nI t), vI (nI b), vI (nI c)] μ = some (some (vI 1), pasR (movR μ (60 * s + a) c) (60 * t + b) c) := by
  unfold f_X11_copy g_X11_copy
  have k1 : (nI a < 0) = False := eq_false (nI_pos (by omega))
  have k2 : (nI b < 0) = False := eq_false (nI_pos (by omega))
  have k3 : (nI c < 0) = False := eq_false (nI_pos (by omega))
  have k4 : ((nI z).toInt64 < (nI a).toInt64 + (nI c).toInt64) = False := by rw [sum_gt (by omega) (by omega) hz9]; exact eq_false (by omega)
  have k5 : ((nI y).toInt64 < (nI b).toInt64 + (nI c).toInt64) = False := by rw [sum_gt (by omega) (by omega) hy9]; exact eq_false (by omega)
  simp [am_fn, am_en, am_bd_s, am_bd_n, e_n, e_u, e_b, e_c, e_k, b_z, b_2, b_and, b_or, b_not, a_0, a_1, s_k, s_pop, s_as, s_inc, s_pf, s_po, s_ia, s_io, s_cy, s_0, s_sq, s_if, s_no, s_bk, s_rt_I, s_rt_L, s_rt_A, s_rv, s_sw, o_k, o_li, o_ll, o_lr, o_ii, o_iz, o_jj, o_jz, o_ji, o_jc, o_iu, o_i2l, o_si, o_sr, o_sl, o_inc, am_cl, am_cs, am_m1, am_m2, am_c1, am_c0, am_c2, am_se, am_nl, am_nr, am_wh, List.getElem?_cons_zero, List.getElem?_cons_succ, List.length_cons, List.length_nil, Option.map_some, Option.map_none, List.reverse_cons, List.set_cons_succ, List.set_cons_zero, List.take_succ_cons, List.take_zero, List.cons_append, List.nil_append, f_isSheet, h1, h2, bI, gv_M_0_0, gv_M_0_1, lv_M_1 hs, lv_M_1 ht, lv_M_2 hs, lv_M_2 ht, hz, hy, h3, h4, h5, k1, k2, k3, lg_gt0, k4, k5, M_copy_lp1 hs (show a + c ≤ 60 by omega), M_copy_lp2 ht (show b + c ≤ 60 by omega)]
def spl (ls lt : List Int32) (a b c : Nat) : List Int32 := (List.range lt.length).map (fun x => if b ≤ x ∧ x < b + c then ls.getD (a + (x - b)) 0 else lt.getD x 0)
theorem spl_len (ls lt : List Int32) (a b c : Nat) : (spl ls lt a b c).length = lt.length := by simp [spl]
theorem spl_get {ls lt : List Int32} {a b c x : Nat} {v : Int32} (h : (spl ls lt a b c)[x]? = some v) : x < lt.length ∧ v = if b ≤ x ∧ x < b + c then ls.getD (a + (x - b)) 0 else lt.getD x 0 := by
  have hl := gE_lt h
  rw [spl_len] at hl
  unfold spl at h
  rw [List.getElem?_map, List.getElem?_range hl] at h
  exact ⟨hl, (Option.some.inj h).symm⟩
theorem getD_of {l : List Int32} {i : Nat} (h : i < l.length) : l[i]? = some (l.getD i 0) := by
  have h1 := List.getElem?_eq_getElem h
  show l[i]? = some (l[i]?.getD 0)
  rw [h1]
  rfl
theorem copy_idx {i j n : Int32} {z y : Nat} (hz : z ≤ 60) (hy : y ≤ 60) (h : (hrun i n z && hrun j n y) = false) : i < 0 ∨ j < 0 ∨ n < 0 ∨ (nI z).toInt64 < i.toInt64 + n.toInt64 ∨ (nI y).toInt64 < j.toInt64 + n.toInt64 := by
  by_cases k1 : i < 0
  · exact Or.inl k1
  by_cases k2 : j < 0
  · exact Or.inr (Or.inl k2)
  by_cases k3 : n < 0
  · exact Or.inr (Or.inr (Or.inl k3))
  obtain ⟨a, ha, rfl⟩ := nI_of k1
  obtain ⟨b, hb, rfl⟩ := nI_of k2
  obtain ⟨c, hc, rfl⟩ := nI_of k3
  rw [hrun_nI ha hc hz, hrun_nI hb hc hy] at h
  rw [sum_gt ha hc hz, sum_gt hb hc hy]
  by_cases h1 : a + c ≤ z
  · rw [decide_eq_true h1, Bool.true_and] at h
    have := of_decide_eq_false h
    exact Or.inr (Or.inr (Or.inr (Or.inr (by omega))))
  · exact Or.inr (Or.inr (Or.inr (Or.inl (by omega))))
