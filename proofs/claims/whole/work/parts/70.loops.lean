/-! loops whose states are known, turn by turn -/
theorem s_lp_det {c : am_B} {b : am_T} (E : Nat → List AV) (M : Nat → am_M) (n : Nat) (he : c (E n) (M n) = some (false, M n)) : ∀ (d k : Nat), k + d = n → (∀ i, k ≤ i → i < n → c (E i) (M i) = some (true, M i) ∧ b (E i) (M i) = some (.inl (E (i + 1), M (i + 1)))) → s_lp c b (E k) (M k) = some (.inl (E n, M n))
  | 0, k, hk, _ => by
    rw [Nat.add_zero] at hk
    subst hk
    rw [s_lp_eq, he]
    rfl
  | d + 1, k, hk, hs => by
    obtain ⟨h1, h2⟩ := hs k (Nat.le_refl _) (by omega)
    rw [s_lp_eq, h1]
    show s_sq b (s_lp c b) (E k) (M k) = _
    unfold s_sq
    rw [h2]
    exact s_lp_det E M n he d (k + 1) (by omega) (fun i h3 h4 => hs i (by omega) h4)
/-- a loop that returns in turn j -/
theorem s_lp_ret {c : am_B} {b : am_T} (E : Nat → List AV) (M : Nat → am_M) (j : Nat) {r : Option AV × am_M} (hc : c (E j) (M j) = some (true, M j)) (hb : b (E j) (M j) = some (.inr r)) : ∀ (d k : Nat), k + d = j → (∀ i, k ≤ i → i < j → c (E i) (M i) = some (true, M i) ∧ b (E i) (M i) = some (.inl (E (i + 1), M (i + 1)))) → s_lp c b (E k) (M k) = some (.inr r)
  | 0, k, hk, _ => by
    rw [Nat.add_zero] at hk
    subst hk
    rw [s_lp_eq, hc]
    show s_sq b (s_lp c b) (E k) (M k) = _
    unfold s_sq
    rw [hb]
  | d + 1, k, hk, hs => by
    obtain ⟨h1, h2⟩ := hs k (Nat.le_refl _) (by omega)
    rw [s_lp_eq, h1]
    show s_sq b (s_lp c b) (E k) (M k) = _
    unfold s_sq
    rw [h2]
    exact s_lp_ret E M j hc hb d (k + 1) (by omega) (fun i h3 h4 => hs i (by omega) h4)
/-- the first i places of a row are v -/
def fillR (μ : am_M) (a i : Nat) (v : Int32) : am_M := am_ur μ a (fun j => if j < i then v else μ a j)
theorem fillR_0 (μ : am_M) (a : Nat) (v : Int32) : fillR μ a 0 v = μ := by
  funext x
  unfold fillR am_ur
  by_cases h : x = a
  · rw [if_pos h, h]
    funext j
    rw [if_neg (Nat.not_lt_zero j)]
  · rw [if_neg h]
theorem fillR_s (μ : am_M) (a i : Nat) (v : Int32) : am_up (fillR μ a i v) a i v = fillR μ a (i + 1) v := by
  funext x y
  unfold fillR am_up am_ur upd
  by_cases h : x = a
  · simp only [h, if_true]
    by_cases h2 : y = i
    · rw [if_pos h2, if_pos (by omega)]
    · rw [if_neg h2]
      by_cases h3 : y < i
      · rw [if_pos h3, if_pos (by omega)]
      · rw [if_neg h3, if_neg (by omega)]
  · simp only [h, if_false]
theorem f_fill {a n : Nat} (ha : ShX[a]? = some (.inl n)) (hn : n < 4000) (v : Int32) (μ : am_M) : f_J7_fill_53178 [vR a, vI v] μ = some (none, fillR μ a n v) := by
  unfold f_J7_fill_53178 g_J7_fill_53178
  have hlen : am_nv ShX (vR a) μ = some (vI (nI n)) := by unfold am_nv; simp only [ha]; rfl
  have key := s_lp_det (c := b_2 .lt (e_li 2) (e_li 3)) (b := s_sq (s_ia ShX (e_lr 0) (e_li 2) (e_li 1)) (s_inc 4 2 1)) (fun i => [vR a, vI v, vI (nI i), vI (nI n)]) (fun i => fillR μ a i v) n
    (by have h9 : (nI n < nI n) = False := eq_false (nI_nlt (Nat.le_refl _) (by omega)); simp [am_fn, am_en, am_bd_s, am_bd_n, e_n, e_u, e_b, e_c, e_k, b_z, b_2, b_and, b_or, b_not, a_0, a_1, s_k, s_pop, s_as, s_inc, s_pf, s_po, s_ia, s_io, s_cy, s_0, s_sq, s_if, s_no, s_bk, s_rt_I, s_rt_L, s_rt_A, s_rv, s_sw, o_k, o_li, o_ll, o_lr, o_ii, o_iz, o_jj, o_jz, o_ji, o_jc, o_iu, o_i2l, o_si, o_sr, o_sl, o_inc, am_cl, am_cs, am_m1, am_m2, am_c1, am_c0, am_c2, am_se, am_nl, am_nr, am_wh, List.getElem?_cons_zero, List.getElem?_cons_succ, List.length_cons, List.length_nil, Option.map_some, Option.map_none, List.reverse_cons, List.set_cons_succ, List.set_cons_zero, List.take_succ_cons, List.take_zero, List.cons_append, List.nil_append, h9]) n 0 (by omega)
    (fun i _ hi => by
      have h9 : (nI i < nI n) = True := eq_true (nI_lt hi (by omega))
      have w : am_wv ShX (vR a) (vI (nI i)) (vI v) (fillR μ a i v) = some (fillR μ a (i + 1) v) := by rw [am_wv_i ha hi hn, fillR_s]
      exact ⟨by simp [am_fn, am_en, am_bd_s, am_bd_n, e_n, e_u, e_b, e_c, e_k, b_z, b_2, b_and, b_or, b_not, a_0, a_1, s_k, s_pop, s_as, s_inc, s_pf, s_po, s_ia, s_io, s_cy, s_0, s_sq, s_if, s_no, s_bk, s_rt_I, s_rt_L, s_rt_A, s_rv, s_sw, o_k, o_li, o_ll, o_lr, o_ii, o_iz, o_jj, o_jz, o_ji, o_jc, o_iu, o_i2l, o_si, o_sr, o_sl, o_inc, am_cl, am_cs, am_m1, am_m2, am_c1, am_c0, am_c2, am_se, am_nl, am_nr, am_wh, List.getElem?_cons_zero, List.getElem?_cons_succ, List.length_cons, List.length_nil, Option.map_some, Option.map_none, List.reverse_cons, List.set_cons_succ, List.set_cons_zero, List.take_succ_cons, List.take_zero, List.cons_append, List.nil_append, h9], by simp [am_fn, am_en, am_bd_s, am_bd_n, e_n, e_u, e_b, e_c, e_k, b_z, b_2, b_and, b_or, b_not, a_0, a_1, s_k, s_pop, s_as, s_inc, s_pf, s_po, s_ia, s_io, s_cy, s_0, s_sq, s_if, s_no, s_bk, s_rt_I, s_rt_L, s_rt_A, s_rv, s_sw, o_k, o_li, o_ll, o_lr, o_ii, o_iz, o_jj, o_jz, o_ji, o_jc, o_iu, o_i2l, o_si, o_sr, o_sl, o_inc, am_cl, am_cs, am_m1, am_m2, am_c1, am_c0, am_c2, am_se, am_nl, am_nr, am_wh, List.getElem?_cons_zero, List.getElem?_cons_succ, List.length_cons, List.length_nil, Option.map_some, Option.map_none, List.reverse_cons, List.set_cons_succ, List.set_cons_zero, List.take_succ_cons, List.take_zero, List.cons_append, List.nil_append, w, nI_1]⟩)
  rw [fillR_0] at key
  simp [am_fn, am_en, am_bd_s, am_bd_n, e_n, e_u, e_b, e_c, e_k, b_z, b_2, b_and, b_or, b_not, a_0, a_1, s_k, s_pop, s_as, s_inc, s_pf, s_po, s_ia, s_io, s_cy, s_0, s_sq, s_if, s_no, s_bk, s_rt_I, s_rt_L, s_rt_A, s_rv, s_sw, o_k, o_li, o_ll, o_lr, o_ii, o_iz, o_jj, o_jz, o_ji, o_jc, o_iu, o_i2l, o_si, o_sr, o_sl, o_inc, am_cl, am_cs, am_m1, am_m2, am_c1, am_c0, am_c2, am_se, am_nl, am_nr, am_wh, List.getElem?_cons_zero, List.getElem?_cons_succ, List.length_cons, List.length_nil, Option.map_some, Option.map_none, List.reverse_cons, List.set_cons_succ, List.set_cons_zero, List.take_succ_cons, List.take_zero, List.cons_append, List.nil_append, hlen]
  have e0 : (nI 0) = 0 := nI_0
  simp only [e0] at key
  rw [key]
  rfl
