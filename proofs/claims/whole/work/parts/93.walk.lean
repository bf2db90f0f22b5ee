/-! the class: the route as it is read -/
def WC (c : Nat) : Prop := c = 77 ∨ c = 79
theorem wg_0 {c : Nat} (h : WC c) (μ : am_M) : am_gv ShX 9 0 (vR c) μ = some (vI (μ c 0)) := by rcases h with rfl | rfl <;> rfl
theorem wg_1 {c : Nat} (h : WC c) (μ : am_M) : am_gv ShX 9 1 (vR c) μ = some (vR (c + 1)) := by rcases h with rfl | rfl <;> rfl
theorem wp_0 {c : Nat} (h : WC c) (x : Int32) (μ : am_M) : am_pv ShX 9 0 false (vR c) (vI x) μ = some (am_up μ c 0 x) := by rcases h with rfl | rfl <;> exact am_pv_f rfl rfl
theorem wck {c : Nat} (h : WC c) : am_ck ShX 9 (vR c) = true := by rcases h with rfl | rfl <;> rfl
theorem ww_1 {c i : Nat} (h : WC c) (hi : i < 8) (x : Int32) (μ : am_M) : am_wv ShX (vR (c + 1)) (vI (nI i)) (vI x) μ = some (am_up μ (c + 1) i x) := by rcases h with rfl | rfl <;> exact am_wv_i rfl hi (by decide)
theorem wl_1 {c i : Nat} (h : WC c) (hi : i < 8) (μ : am_M) : am_lv ShX (vR (c + 1)) (vI (nI i)) μ = some (vI (μ (c + 1) i)) := by rcases h with rfl | rfl <;> exact am_lv_i rfl hi (by decide)
/-- the hour in which a strand is read -/
def rdH (D : Dd) (t : Nat → Nat) (H : Nat → Nat → Nat × Bool) (s hour high : Nat) : Option Nat := rdS (fun h => (H s h).1) (fun h => decide (stt (dk D s) h (t h) (H s h) = 1)) hour high
/-- behind so many stops: the hour and the height of the last; none: it came to an end before -/
def wk (D : Dd) (t : Nat → Nat) (H : Nat → Nat → Nat × Bool) (T : List Nat) : Nat → Option (Nat × Nat)
  | 0 => some (0, 0)
  | i + 1 => match wk D t H T i with
    | none => none
    | some q => if tb T i - 97 < dn D then (rdH D t H (tb T i - 97) (if i = 0 then 0 else q.1 + 1) (if i = 0 then (H (tb T i - 97) 0).1 else q.2)).map (fun h => (h, (H (tb T i - 97) h).1)) else none
def wsz (D : Dd) (t : Nat → Nat) (H : Nat → Nat → Nat × Bool) (T : List Nat) : Nat := (fnd (fun i => (wk D t H T (i + 1)).isNone) (snd' T 97 104)).getD (snd' T 97 104)
def whr (D : Dd) (t : Nat → Nat) (H : Nat → Nat → Nat × Bool) (T : List Nat) (i : Nat) : Nat := ((wk D t H T (i + 1)).getD (0, 0)).1
theorem wk_none {D : Dd} {t : Nat → Nat} {H : Nat → Nat → Nat × Bool} {T : List Nat} {i : Nat} (h : wk D t H T i = none) : ∀ j, i ≤ j → wk D t H T j = none := by
  intro j hj
  induction j with
  | zero => rw [show (0 : Nat) = i by omega]; exact h
  | succ j ih =>
    by_cases e : i = j + 1
    · rw [← e]; exact h
    · unfold wk
      rw [ih (by omega)]
theorem wk_lt {D : Dd} {t : Nat → Nat} {H : Nat → Nat → Nat × Bool} {T : List Nat} (hH : ∀ s h, (H s h).1 < 10) : ∀ {i : Nat} {q : Nat × Nat}, wk D t H T i = some q → q.1 < 20 ∧ q.2 < 10
  | 0, q, h => by cases h; exact ⟨by decide, by decide⟩
  | i + 1, q, h => by
    unfold wk at h
    split at h
    · cases h
    · split at h
      · obtain ⟨x, hx, rfl⟩ := Option.map_eq_some_iff.mp h
        exact ⟨(rdS_lt hx).2.1, hH _ _⟩
      · cases h
theorem wsz_at {D : Dd} {t : Nat → Nat} {H : Nat → Nat → Nat × Bool} {T : List Nat} {i : Nat} (hi : i < snd' T 97 104) (h1 : wk D t H T i ≠ none) (h2 : wk D t H T (i + 1) = none) : wsz D t H T = i := by
  unfold wsz
  have : fnd (fun i => (wk D t H T (i + 1)).isNone) (snd' T 97 104) = some i := by
    refine fnd_some.mpr ⟨hi, by simp [h2], fun j hj => ?_⟩
    cases e : wk D t H T (j + 1) with
    | none => exact absurd (wk_none e i (by omega)) h1
    | some q => rfl
  rw [this]
  rfl
theorem wsz_all {D : Dd} {t : Nat → Nat} {H : Nat → Nat → Nat × Bool} {T : List Nat} (h1 : wk D t H T (snd' T 97 104) ≠ none) : wsz D t H T = snd' T 97 104 := by
  unfold wsz
  have : fnd (fun i => (wk D t H T (i + 1)).isNone) (snd' T 97 104) = none := by
    refine fnd_none.mpr (fun j hj => ?_)
    cases e : wk D t H T (j + 1) with
    | none => exact absurd (wk_none e _ (by omega)) h1
    | some q => rfl
  rw [this]
  rfl
/-- the walk as the class keeps it -/
def xW (c n : Nat) (f : Nat → Nat) (μ : am_M) : Prop := μ c 0 = nI n ∧ ∀ i, i < n → μ (c + 1) i = nI (f i)
theorem snd_in {T : List Nat} {lo hi i : Nat} (h : i < snd' T lo hi) : i < T.length ∧ lo ≤ tb T i ∧ tb T i ≤ hi ∧ snd' T lo hi = T.length := by
  unfold snd' at h ⊢
  split at h
  · rename_i hn
    have h2 := fnd_none.mp hn i h
    simp only [Bool.or_eq_false_iff, decide_eq_false_iff_not] at h2
    rw [if_pos hn]
    exact ⟨h, by omega, by omega, rfl⟩
  · omega
theorem snd_le (T : List Nat) (lo hi : Nat) : snd' T lo hi ≤ T.length := by
  unfold snd'
  split <;> omega
theorem f_go {wc sh base : Nat} {D : Dd} {t : Nat → Nat} {H : Nat → Nat → Nat × Bool} {T : List Nat} {μ : am_M} (hwc : WC wc) (hs : SC sh base) (hw : wfD D) (hx : xS base (dn D) D t H μ) (hH : ∀ s h, (H s h).1 < 10) (hT : T.length ≤ 8) (hb : ∀ b ∈ T, b < 256) (hxt : xt 2 T μ) (h3 : μ 5 3 = oI (beyond T 97 104)) :
    ∃ μ', f_X9_go [vR wc, vR sh, vI (nI (dn D)), vR 5] μ = some (none, μ') ∧ xW wc (wsz D t H T) (whr D t H T) μ' ∧ Fr (fun a => a = wc ∨ a = wc + 1) μ μ' := by
  unfold f_X9_go g_X9_go
  generalize hc1 : (b_2 .lt (e_li 7) (e_li 6)) = c1; generalize hb1 : (s_sq (s_bk (s_sq (s_as (o_si 11 8) (e_b o_isub (e_ald ShX (e_gf ShX 7 0 (e_lr 3)) (e_li 7)) (e_i 97))) (s_sq (s_if (b_not (b_z .ne (e_k (am_cs 2 f_X10_within) (a_1 (e_li 8) (a_1 (e_li 2) a_0))))) s_rv s_0) (s_sq (s_as (o_sr 11 9) (e_qld ShX (e_gf ShX 5 0 (e_lr 1)) (e_li 8))) (s_sq (s_as (o_si 11 10) (e_k (am_cl ShX 5 3 f_X5_nextRead) (a_1 (e_lr 1) (a_1 (e_li 8) (a_1 (e_li 4) (a_1 (e_c (b_z .eq (e_li 7)) (e_ald ShX (e_gf ShX 3 0 (e_lr 9)) (e_i 0)) (e_li 5)) a_0)))))) (s_sq (s_if (b_2 .eq (e_li 10) (e_i (-1))) s_rv s_0) (s_sq (s_ia ShX (e_gf ShX 9 1 (e_lr 0)) (e_li 7) (e_li 10)) (s_sq (s_as (o_si 11 5) (e_ald ShX (e_gf ShX 3 0 (e_lr 9)) (e_li 10))) (s_sq (s_as (o_si 11 4) (e_b o_iadd (e_li 10) (e_i 1))) (s_po ShX 9 0 false o_iadd (e_lr 0) (e_i 1))))))))))) (s_inc 11 7 1)) = b1
  have wb : wc = 77 ∨ wc = 79 := hwc
  have sb := hs.b
  have w0 := hw.1
  have f1 := f_sound (t := 2) (lo := 97) (hi := 104) (T := T) (μ := am_up μ wc 0 (nI 0)) (by decide) (by omega) (by rw [am_up_ne _ _ (by omega)]; exact hxt.1) (by rw [am_up_ne _ _ (by omega)]; exact h3)
  have lS := snd_le T 97 104
  have m1 : am_min (nI (snd' T 97 104)) (nI 8) = nI (snd' T 97 104) := by
    unfold am_min
    rw [if_neg (by rw [nI_ltI (by decide) (by omega)]; omega)]
  have key := lp_invr (c := c1) (b := b1) (fun i e μ' => ∃ q : Nat × Nat, wk D t H T i = some q ∧ e = [vR wc, vR sh, vI (nI (dn D)), vR 5, vI (nI (if i = 0 then 0 else q.1 + 1)), vI (nI q.2), vI (nI (snd' T 97 104)), vI (nI i)] ∧ μ' wc 0 = nI i ∧ (∀ j, j < i → μ' (wc + 1) j = nI (whr D t H T j)) ∧ Fr (fun a => a = wc ∨ a = wc + 1) μ μ') (fun i r μ' => r = none ∧ wk D t H T i ≠ none ∧ wk D t H T (i + 1) = none ∧ μ' wc 0 = nI i ∧ (∀ j, j < i → μ' (wc + 1) j = nI (whr D t H T j)) ∧ Fr (fun a => a = wc ∨ a = wc + 1) μ μ') (snd' T 97 104) ?_ ?_ (snd' T 97 104) 0 [vR wc, vR sh, vI (nI (dn D)), vR 5, vI (nI 0), vI (nI 0), vI (nI (snd' T 97 104)), vI (nI 0)] (am_up μ wc 0 (nI 0)) (by omega) ⟨(0, 0), rfl, by simp, am_up_eq _ _ _ _, fun j hj => by omega, Fr.rf.up (Or.inl rfl)⟩
  · rcases key with ⟨e', μ', k1, q, k2, rfl, k3, k4, k5⟩ | ⟨i, r, μ', k0, k1, rfl, k2, k3, k4, k5, k6⟩
    · have e1 := wsz_all (by rw [k2]; simp : wk D t H T (snd' T 97 104) ≠ none)
      refine ⟨μ', ?_, ⟨by rw [e1]; exact k3, fun i hi => k4 i (by omega)⟩, k5⟩
      simp (disch := first | omega | assumption | exact Or.inl rfl | exact Or.inr rfl | exact bI_ok _) [am_fn, am_en, am_bd_s, am_bd_n, e_n, e_u, e_b, e_c, e_k, b_z, b_2, b_and, b_or, b_not, a_0, a_1, s_k, s_pop, s_as, s_inc, s_pf, s_po, s_ia, s_io, s_cy, s_0, s_sq, s_if, s_no, s_bk, s_rt_I, s_rt_L, s_rt_A, s_rv, s_sw, o_k, o_li, o_ll, o_lr, o_ii, o_iz, o_jj, o_jz, o_ji, o_jc, o_iu, o_i2l, o_si, o_sr, o_sl, o_inc, am_cl, am_cs, am_m1, am_m2, am_c1, am_c0, am_c2, am_se, am_nl, am_nr, am_wh, List.getElem?_cons_zero, List.getElem?_cons_succ, List.length_cons, List.length_nil, Option.map_some, Option.map_none, List.reverse_cons, List.set_cons_succ, List.set_cons_zero, List.take_succ_cons, List.take_zero, List.cons_append, List.nil_append, nI_lit, nN_lit, nI_eq, nI_ltI, nI_leI, nI_add, pk_mul, pk_sub, nI_eN, nN_eI, nN_ltI, nN_leI, nI_ltN, nI_leN, nN_nN, nN_leN, bI_e0, bI_e1, bt_shr, nI_sub_lt, ntT, ntF, nlT, nlF, neT, neF, wp_0, f1, ck_T (show 2 < 3 by decide), m1, k1]
    · have e1 := wsz_at k0 k2 k3
      refine ⟨μ', ?_, ⟨by rw [e1]; exact k4, fun i hi => k5 i (by omega)⟩, k6⟩
      simp (disch := first | omega | assumption | exact Or.inl rfl | exact Or.inr rfl | exact bI_ok _) [am_fn, am_en, am_bd_s, am_bd_n, e_n, e_u, e_b, e_c, e_k, b_z, b_2, b_and, b_or, b_not, a_0, a_1, s_k, s_pop, s_as, s_inc, s_pf, s_po, s_ia, s_io, s_cy, s_0, s_sq, s_if, s_no, s_bk, s_rt_I, s_rt_L, s_rt_A, s_rv, s_sw, o_k, o_li, o_ll, o_lr, o_ii, o_iz, o_jj, o_jz, o_ji, o_jc, o_iu, o_i2l, o_si, o_sr, o_sl, o_inc, am_cl, am_cs, am_m1, am_m2, am_c1, am_c0, am_c2, am_se, am_nl, am_nr, am_wh, List.getElem?_cons_zero, List.getElem?_cons_succ, List.length_cons, List.length_nil, Option.map_some, Option.map_none, List.reverse_cons, List.set_cons_succ, List.set_cons_zero, List.take_succ_cons, List.take_zero, List.cons_append, List.nil_append, nI_lit, nN_lit, nI_eq, nI_ltI, nI_leI, nI_add, pk_mul, pk_sub, nI_eN, nN_eI, nN_ltI, nN_leI, nI_ltN, nI_leN, nN_nN, nN_leN, bI_e0, bI_e1, bt_shr, nI_sub_lt, ntT, ntF, nlT, nlF, neT, neF, wp_0, f1, ck_T (show 2 < 3 by decide), m1, k1]
  · rintro i e μ' hi ⟨q, k2, rfl, k3, k4, k5⟩
    subst hc1 hb1
    obtain ⟨s1, s2, s3, s4⟩ := snd_in hi
    obtain ⟨l1, l2⟩ := wk_lt hH k2
    have y1 : μ' 6 i = nI (tb T i) := by rw [k5 _ _ (by omega)]; exact hxt.2 i s1
    have hx' : xS base (dn D) D t H μ' := fun s hs h hh => ⟨by rw [k5 _ _ (by omega)]; exact (hx s hs h hh).1, by rw [k5 _ _ (by omega)]; exact (hx s hs h hh).2⟩
    refine ⟨by simp (disch := first | omega | assumption | exact Or.inl rfl | exact Or.inr rfl | exact bI_ok _) [am_fn, am_en, am_bd_s, am_bd_n, e_n, e_u, e_b, e_c, e_k, b_z, b_2, b_and, b_or, b_not, a_0, a_1, s_k, s_pop, s_as, s_inc, s_pf, s_po, s_ia, s_io, s_cy, s_0, s_sq, s_if, s_no, s_bk, s_rt_I, s_rt_L, s_rt_A, s_rv, s_sw, o_k, o_li, o_ll, o_lr, o_ii, o_iz, o_jj, o_jz, o_ji, o_jc, o_iu, o_i2l, o_si, o_sr, o_sl, o_inc, am_cl, am_cs, am_m1, am_m2, am_c1, am_c0, am_c2, am_se, am_nl, am_nr, am_wh, List.getElem?_cons_zero, List.getElem?_cons_succ, List.length_cons, List.length_nil, Option.map_some, Option.map_none, List.reverse_cons, List.set_cons_succ, List.set_cons_zero, List.take_succ_cons, List.take_zero, List.cons_append, List.nil_append, nI_lit, nN_lit, nI_eq, nI_ltI, nI_leI, nI_add, pk_mul, pk_sub, nI_eN, nN_eI, nN_ltI, nN_leI, nI_ltN, nI_leN, nN_nN, nN_leN, bI_e0, bI_e1, bt_shr, nI_sub_lt, ntT, ntF, nlT, nlF, neT, neF, ], ?_⟩
    have e2 : wk D t H T (i + 1) = if tb T i - 97 < dn D then (rdH D t H (tb T i - 97) (if i = 0 then 0 else q.1 + 1) (if i = 0 then (H (tb T i - 97) 0).1 else q.2)).map (fun h => (h, (H (tb T i - 97) h).1)) else none := by
      show (match wk D t H T i with
        | none => none
        | some q => if tb T i - 97 < dn D then (rdH D t H (tb T i - 97) (if i = 0 then 0 else q.1 + 1) (if i = 0 then (H (tb T i - 97) 0).1 else q.2)).map (fun h => (h, (H (tb T i - 97) h).1)) else none) = _
      rw [k2]
    by_cases d1 : tb T i - 97 < dn D
    · rw [if_pos d1] at e2
      have g1 := f_read0 (k := tb T i - 97) hs w0 hx' hH d1
      have x0 := (hx' (tb T i - 97) d1 0 (by omega)).1
      have g2 := f_nextRead (k := tb T i - 97) (hour := q.1 + 1) (high := q.2) hs w0 hx' hH d1 (by omega) (by omega)
      have hc : HC (base + 3 * (tb T i - 97)) := hs.h (by omega)
      cases hr : rdH D t H (tb T i - 97) (if i = 0 then 0 else q.1 + 1) (if i = 0 then (H (tb T i - 97) 0).1 else q.2) with
      | none =>
        rw [hr] at e2
        refine Or.inr ⟨none, μ', ?_, rfl, by rw [k2]; simp, e2, k3, k4, k5⟩
        unfold rdH at hr
        by_cases i0 : i = 0
        · subst i0
          simp only [if_true] at hr
          rw [hr] at g1
          simp (disch := first | omega | assumption | exact Or.inl rfl | exact Or.inr rfl | exact bI_ok _) [am_fn, am_en, am_bd_s, am_bd_n, e_n, e_u, e_b, e_c, e_k, b_z, b_2, b_and, b_or, b_not, a_0, a_1, s_k, s_pop, s_as, s_inc, s_pf, s_po, s_ia, s_io, s_cy, s_0, s_sq, s_if, s_no, s_bk, s_rt_I, s_rt_L, s_rt_A, s_rv, s_sw, o_k, o_li, o_ll, o_lr, o_ii, o_iz, o_jj, o_jz, o_ji, o_jc, o_iu, o_i2l, o_si, o_sr, o_sl, o_inc, am_cl, am_cs, am_m1, am_m2, am_c1, am_c0, am_c2, am_se, am_nl, am_nr, am_wh, List.getElem?_cons_zero, List.getElem?_cons_succ, List.length_cons, List.length_nil, Option.map_some, Option.map_none, List.reverse_cons, List.set_cons_succ, List.set_cons_zero, List.take_succ_cons, List.take_zero, List.cons_append, List.nil_append, nI_lit, nN_lit, nI_eq, nI_ltI, nI_leI, nI_add, pk_mul, pk_sub, nI_eN, nN_eI, nN_ltI, nN_leI, nI_ltN, nI_leN, nN_nN, nN_leN, bI_e0, bI_e1, bt_shr, nI_sub_lt, ntT, ntF, nlT, nlF, neT, neF, gv_T_0 (show 2 < 3 by decide), lv_T_0 (show 2 < 3 by decide), y1, f_within_n, rg_nI, d1, shck hs, g1, oI, sh_0 hs, sh_q hs, hv_0, hl_1, x0]
        · simp only [i0, if_false] at hr
          rw [hr] at g2
          simp (disch := first | omega | assumption | exact Or.inl rfl | exact Or.inr rfl | exact bI_ok _) [am_fn, am_en, am_bd_s, am_bd_n, e_n, e_u, e_b, e_c, e_k, b_z, b_2, b_and, b_or, b_not, a_0, a_1, s_k, s_pop, s_as, s_inc, s_pf, s_po, s_ia, s_io, s_cy, s_0, s_sq, s_if, s_no, s_bk, s_rt_I, s_rt_L, s_rt_A, s_rv, s_sw, o_k, o_li, o_ll, o_lr, o_ii, o_iz, o_jj, o_jz, o_ji, o_jc, o_iu, o_i2l, o_si, o_sr, o_sl, o_inc, am_cl, am_cs, am_m1, am_m2, am_c1, am_c0, am_c2, am_se, am_nl, am_nr, am_wh, List.getElem?_cons_zero, List.getElem?_cons_succ, List.length_cons, List.length_nil, Option.map_some, Option.map_none, List.reverse_cons, List.set_cons_succ, List.set_cons_zero, List.take_succ_cons, List.take_zero, List.cons_append, List.nil_append, nI_lit, nN_lit, nI_eq, nI_ltI, nI_leI, nI_add, pk_mul, pk_sub, nI_eN, nN_eI, nN_ltI, nN_leI, nI_ltN, nI_leN, nN_nN, nN_leN, bI_e0, bI_e1, bt_shr, nI_sub_lt, ntT, ntF, nlT, nlF, neT, neF, gv_T_0 (show 2 < 3 by decide), lv_T_0 (show 2 < 3 by decide), y1, f_within_n, rg_nI, d1, shck hs, g2, oI, i0, sh_0 hs, sh_q hs]
      | some h =>
        rw [hr] at e2
        have e3 : wk D t H T (i + 1) = some (h, (H (tb T i - 97) h).1) := e2
        have hl := (rdS_lt hr).2.1
        obtain ⟨v1, v2⟩ := hx' (tb T i - 97) d1 h hl
        have v3 : am_up μ' (wc + 1) i (nI h) (base + 3 * (tb T i - 97) + 1) h = nI (H (tb T i - 97) h).1 := by rw [am_up_ne _ _ (by omega)]; exact v1
        have v4 : am_up μ' (wc + 1) i (nI h) wc 0 = nI i := by rw [am_up_ne _ _ (by omega)]; exact k3
        refine Or.inl ⟨[vR wc, vR sh, vI (nI (dn D)), vR 5, vI (nI (h + 1)), vI (nI (H (tb T i - 97) h).1), vI (nI (snd' T 97 104)), vI (nI (i + 1))], am_up (am_up μ' (wc + 1) i (nI h)) wc 0 (nI (i + 1)), ?_, (h, (H (tb T i - 97) h).1), e3, by simp, am_up_eq _ _ _ _, fun j hj => ?_, (k5.up (Or.inr rfl)).up (Or.inl rfl)⟩
        · unfold rdH at hr
          by_cases i0 : i = 0
          · subst i0
            simp only [if_true] at hr
            rw [hr] at g1
            simp (disch := first | omega | assumption | exact Or.inl rfl | exact Or.inr rfl | exact bI_ok _) [am_fn, am_en, am_bd_s, am_bd_n, e_n, e_u, e_b, e_c, e_k, b_z, b_2, b_and, b_or, b_not, a_0, a_1, s_k, s_pop, s_as, s_inc, s_pf, s_po, s_ia, s_io, s_cy, s_0, s_sq, s_if, s_no, s_bk, s_rt_I, s_rt_L, s_rt_A, s_rv, s_sw, o_k, o_li, o_ll, o_lr, o_ii, o_iz, o_jj, o_jz, o_ji, o_jc, o_iu, o_i2l, o_si, o_sr, o_sl, o_inc, am_cl, am_cs, am_m1, am_m2, am_c1, am_c0, am_c2, am_se, am_nl, am_nr, am_wh, List.getElem?_cons_zero, List.getElem?_cons_succ, List.length_cons, List.length_nil, Option.map_some, Option.map_none, List.reverse_cons, List.set_cons_succ, List.set_cons_zero, List.take_succ_cons, List.take_zero, List.cons_append, List.nil_append, nI_lit, nN_lit, nI_eq, nI_ltI, nI_leI, nI_add, pk_mul, pk_sub, nI_eN, nN_eI, nN_ltI, nN_leI, nI_ltN, nI_leN, nN_nN, nN_leN, bI_e0, bI_e1, bt_shr, nI_sub_lt, ntT, ntF, nlT, nlF, neT, neF, gv_T_0 (show 2 < 3 by decide), lv_T_0 (show 2 < 3 by decide), y1, f_within_n, rg_nI, d1, shck hs, g1, oI, wg_0, wg_1, ww_1, wp_0, sh_0 hs, sh_q hs, hv_0, hl_1, x0, v3, v4]
          · simp only [i0, if_false] at hr
            rw [hr] at g2
            simp (disch := first | omega | assumption | exact Or.inl rfl | exact Or.inr rfl | exact bI_ok _) [am_fn, am_en, am_bd_s, am_bd_n, e_n, e_u, e_b, e_c, e_k, b_z, b_2, b_and, b_or, b_not, a_0, a_1, s_k, s_pop, s_as, s_inc, s_pf, s_po, s_ia, s_io, s_cy, s_0, s_sq, s_if, s_no, s_bk, s_rt_I, s_rt_L, s_rt_A, s_rv, s_sw, o_k, o_li, o_ll, o_lr, o_ii, o_iz, o_jj, o_jz, o_ji, o_jc, o_iu, o_i2l, o_si, o_sr, o_sl, o_inc, am_cl, am_cs, am_m1, am_m2, am_c1, am_c0, am_c2, am_se, am_nl, am_nr, am_wh, List.getElem?_cons_zero, List.getElem?_cons_succ, List.length_cons, List.length_nil, Option.map_some, Option.map_none, List.reverse_cons, List.set_cons_succ, List.set_cons_zero, List.take_succ_cons, List.take_zero, List.cons_append, List.nil_append, nI_lit, nN_lit, nI_eq, nI_ltI, nI_leI, nI_add, pk_mul, pk_sub, nI_eN, nN_eI, nN_ltI, nN_leI, nI_ltN, nI_leN, nN_nN, nN_leN, bI_e0, bI_e1, bt_shr, nI_sub_lt, ntT, ntF, nlT, nlF, neT, neF, gv_T_0 (show 2 < 3 by decide), lv_T_0 (show 2 < 3 by decide), y1, f_within_n, rg_nI, d1, shck hs, g2, oI, i0, wg_0, wg_1, ww_1, wp_0, sh_0 hs, sh_q hs, hv_0, hl_1, v3, v4]
        · rw [am_up_ne _ _ (by omega)]
          by_cases e : j = i
          · subst e
            rw [am_up_eq]
            unfold whr
            rw [e3]
            rfl
          · rw [am_up_ne _ _ (by omega)]
            exact k4 j (by omega)
    · rw [if_neg d1] at e2
      refine Or.inr ⟨none, μ', ?_, rfl, by rw [k2]; simp, e2, k3, k4, k5⟩
      simp (disch := first | omega | assumption | exact Or.inl rfl | exact Or.inr rfl | exact bI_ok _) [am_fn, am_en, am_bd_s, am_bd_n, e_n, e_u, e_b, e_c, e_k, b_z, b_2, b_and, b_or, b_not, a_0, a_1, s_k, s_pop, s_as, s_inc, s_pf, s_po, s_ia, s_io, s_cy, s_0, s_sq, s_if, s_no, s_bk, s_rt_I, s_rt_L, s_rt_A, s_rv, s_sw, o_k, o_li, o_ll, o_lr, o_ii, o_iz, o_jj, o_jz, o_ji, o_jc, o_iu, o_i2l, o_si, o_sr, o_sl, o_inc, am_cl, am_cs, am_m1, am_m2, am_c1, am_c0, am_c2, am_se, am_nl, am_nr, am_wh, List.getElem?_cons_zero, List.getElem?_cons_succ, List.length_cons, List.length_nil, Option.map_some, Option.map_none, List.reverse_cons, List.set_cons_succ, List.set_cons_zero, List.take_succ_cons, List.take_zero, List.cons_append, List.nil_append, nI_lit, nN_lit, nI_eq, nI_ltI, nI_leI, nI_add, pk_mul, pk_sub, nI_eN, nN_eI, nN_ltI, nN_leI, nI_ltN, nI_leN, nN_nN, nN_leN, bI_e0, bI_e1, bt_shr, nI_sub_lt, ntT, ntF, nlT, nlF, neT, neF, gv_T_0 (show 2 < 3 by decide), lv_T_0 (show 2 < 3 by decide), y1, f_within_n, rg_nI, d1]
  · rintro e μ' ⟨q, k2, rfl, k3, k4, k5⟩
    subst hc1
    simp (disch := first | omega | assumption | exact Or.inl rfl | exact Or.inr rfl | exact bI_ok _) [am_fn, am_en, am_bd_s, am_bd_n, e_n, e_u, e_b, e_c, e_k, b_z, b_2, b_and, b_or, b_not, a_0, a_1, s_k, s_pop, s_as, s_inc, s_pf, s_po, s_ia, s_io, s_cy, s_0, s_sq, s_if, s_no, s_bk, s_rt_I, s_rt_L, s_rt_A, s_rv, s_sw, o_k, o_li, o_ll, o_lr, o_ii, o_iz, o_jj, o_jz, o_ji, o_jc, o_iu, o_i2l, o_si, o_sr, o_sl, o_inc, am_cl, am_cs, am_m1, am_m2, am_c1, am_c0, am_c2, am_se, am_nl, am_nr, am_wh, List.getElem?_cons_zero, List.getElem?_cons_succ, List.length_cons, List.length_nil, Option.map_some, Option.map_none, List.reverse_cons, List.set_cons_succ, List.set_cons_zero, List.take_succ_cons, List.take_zero, List.cons_append, List.nil_append, nI_lit, nN_lit, nI_eq, nI_ltI, nI_leI, nI_add, pk_mul, pk_sub, nI_eN, nN_eI, nN_ltI, nN_leI, nI_ltN, nI_leN, nN_nN, nN_leN, bI_e0, bI_e1, bt_shr, nI_sub_lt, ntT, ntF, nlT, nlF, neT, neF, ]
