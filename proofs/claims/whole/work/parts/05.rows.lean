/-! rows that write the memory; dup; branches -/
/-- putfield: what the memory is behind it -/
def am_pv (Sh : List am_SC) (ci j : Nat) (b : Bool) (a v : AV) (μ : am_M) : Option am_M := match a, v with
  | .inr (.inr (.inl r)), .inl x => match Sh[r]? with
    | some (.inr (.inr (c, sl))) => if c = ci ∧ sl[j]? = some none ∧ (b = true → x = 0 ∨ x = 1) then some (am_up μ r j x) else none
    | _ => none
  | _, _ => none
theorem am_pv_ok {Sh : List am_SC} {ci j : Nat} {b : Bool} {a v : AV} {μ μ' : am_M} (h : am_pv Sh ci j b a v μ = some μ') : ∃ r sl x, a = vR r ∧ v = vI x ∧ Sh[r]? = some (.inr (.inr (ci, sl))) ∧ sl[j]? = some none ∧ (b = true → x = 0 ∨ x = 1) ∧ μ' = am_up μ r j x := by
  unfold am_pv at h
  split at h
  · rename_i r x
    split at h
    · rename_i c sl hs
      split at h
      · rename_i hc
        obtain ⟨rfl, h1, h2⟩ := hc
        cases h
        exact ⟨r, sl, x, rfl, rfl, hs, h1, h2, rfl⟩
      · cases h
    · cases h
  · cases h
theorem am_sl_set {ad : Nat → Nat} {f : Nat → Int32} {sl : List (Option Nat)} {j : Nat} {x : Int32} (h : sl[j]? = some none) : (sl.mapIdx (am_sv ad f)).set j (.int x) = sl.mapIdx (am_sv ad (upd f j x)) := by
  have hk : j < sl.length := (List.getElem?_eq_some_iff.mp h).1
  apply List.ext_getElem?
  intro i
  by_cases hi : i = j
  · subst hi
    rw [List.getElem?_set_self (by rw [List.length_mapIdx]; exact hk), List.getElem?_mapIdx, h]
    simp [am_sv, upd]
  · rw [List.getElem?_set_ne (Ne.symm hi), List.getElem?_mapIdx, List.getElem?_mapIdx]
    cases ho : sl[i]? with
    | none => rfl
    | some o => cases o <;> simp [am_sv, upd, hi]
theorem am_tyn : (vwCl.zip am_tyl).all (fun q => (List.range q.1.2.2).all (fun k => decide (parseFieldDescriptor (q.1.2.1 k).2.2.1 = some (q.2 k)))) = true := by decide +kernel
theorem am_nmn : vwCl.all (fun q => (List.range q.2.2).all (fun a => (List.range q.2.2).all (fun b => decide (a = b) || decide ((q.2.1 a).2.1 ≠ (q.2.1 b).2.1)))) = true := by decide +kernel
theorem am_nm {ci : Nat} {q : vw_C} (h : vwCl[ci]? = some q) : ∀ a, a < q.2.2 → ∀ b, b < q.2.2 → a ≠ b → (q.2.1 a).2.1 ≠ (q.2.1 b).2.1 := by
  intro a ha b hb hab
  have h1 := List.all_eq_true.mp (List.all_eq_true.mp (List.all_eq_true.mp am_nmn q (List.mem_of_getElem? h)) a (List.mem_range.mpr ha)) b (List.mem_range.mpr hb)
  simp only [Bool.or_eq_true, decide_eq_true_eq] at h1
  rcases h1 with h1 | h1
  · exact absurd h1 hab
  · exact h1
theorem am_tyk {ci : Nat} {q : vw_C} (h : vwCl[ci]? = some q) : ∃ ty0 : Nat → FieldType, ∀ k, k < q.2.2 → parseFieldDescriptor (q.2.1 k).2.2.1 = some (ty0 k) := by
  have hl : ci < am_tyl.length := by
    have := (List.getElem?_eq_some_iff.mp h).1
    exact this
  obtain ⟨t, ht⟩ : ∃ t, am_tyl[ci]? = some t := ⟨_, List.getElem?_eq_getElem hl⟩
  have hz : (vwCl.zip am_tyl)[ci]? = some (q, t) := List.getElem?_zip_eq_some.mpr ⟨h, ht⟩
  refine ⟨t, fun k hk => ?_⟩
  have h1 := List.all_eq_true.mp (List.all_eq_true.mp am_tyn (q, t) (List.mem_of_getElem? hz)) k (List.mem_range.mpr hk)
  simpa using h1
theorem is_put {S : am_S} (idx ci j q : Nat) (b : Bool) (ty : FieldType) (hc : vwCl[ci]? = some (am_cn ci)) (hj : j < (am_cn ci).2.2) (hfin : ((am_cn ci).2.1 j).2.2.2 = false) (hd : parseFieldDescriptor ((am_cn ci).2.1 j).2.2.1 = some ty) (hty : (b = false ∧ ty = .int) ∨ (b = true ∧ ty = .boolean)) {G : am_G} (hO : am_Ok S G) {pc : Nat} (hf : am_fit S.2.1 pc [(.putfield idx, 3, some (q, am_fl S.2.2.2.2 idx ci j))]) {env st : List AV} {μ μ' : am_M} {a v : AV} (hw : am_pv S.1 ci j b a v μ = some μ') (k : am_Wn S G (pc + 3) env st μ') : am_Wn S G pc env (v :: a :: st) μ := by
  obtain ⟨p, l, e, R, s, m, args, below, meth, c, Q, D, cs, ad, A, nc, ns⟩ := G
  intro H locs ls hP hD hS hl
  obtain ⟨r, sl, x, rfl, rfl, hs, hsl, hbx, rfl⟩ := am_pv_ok hw
  obtain ⟨ty0, hty0⟩ := am_tyk hc
  have hn : narrow ty (.int x) = .int x := by
    rcases hty with ⟨rfl, rfl⟩ | ⟨rfl, rfl⟩
    · rfl
    · rcases hbx rfl with rfl | rfl <;> decide
  have hfit : fits ty (.int x) = true := by
    rcases hty with ⟨rfl, rfl⟩ | ⟨rfl, rfl⟩
    · rfl
    · rcases hbx rfl with rfl | rfl <;> decide
  refine va_put (C := (am_cn ci).1) (T := (am_cn ci).2.1) (N := (am_cn ci).2.2) hO.1 hO.2.1 hO.2.2.2.2.1.1 (am_uwi hc) ty0 hty0 (am_nm hc) hO.2.2.2.1 hO.2.2.2.2.2.1 hP hD hS r (am_wl_get hs) hc j hj (hO.2.2.2.2.1.1 _ (am_word (hf.2.1 _ rfl) rfl)) (fun _ h9 => h9) hfin hd hn hfit (by rw [List.length_mapIdx]; exact (List.getElem?_eq_some_iff.mp hsl).1) hf.1 (fun H1 locs1 hP1 hD1 hS1 => ?_)
  rw [show am_cv ad (vI x) = Value.int x from rfl, am_sl_set hsl] at hP1 hD1
  have he : (am_wl S.1 ad cs μ).set r (ad r, Sum.inr (ci, List.mapIdx (am_sv ad (upd (μ r) j x)) sl)) = am_wl S.1 ad cs (am_up μ r j x) := am_wl_set (sc := .inr (.inr (ci, sl))) hs (upd (μ r) j x)
  rw [he] at hP1 hD1
  exact k H1 locs1 ls hP1 hD1 hS1 hl
/-- iastore -/
def am_wv (Sh : List am_SC) (a b v : AV) (μ : am_M) : Option am_M := match a, b, v with
  | .inr (.inr (.inl r)), .inl i, .inl x => match Sh[r]? with
    | some (.inl n) => if i < 0 ∨ n ≤ i.toNatClampNeg then none else some (am_up μ r i.toNatClampNeg x)
    | _ => none
  | _, _, _ => none
theorem is_iast {S : am_S} {G : am_G} (hO : am_Ok S G) {pc : Nat} (hf : am_fit S.2.1 pc [(.iastore, 1, none)]) {env st : List AV} {μ μ' : am_M} {a b v : AV} (hw : am_wv S.1 a b v μ = some μ') (k : am_Wn S G (pc + 1) env st μ') : am_Wn S G pc env (v :: b :: a :: st) μ := by
  obtain ⟨p, l, e, R, s, m, args, below, meth, c, Q, D, cs, ad, A, nc, ns⟩ := G
  intro H locs ls hP hD hS hl
  unfold am_wv at hw
  split at hw
  · rename_i r i x
    split at hw
    · rename_i n hs
      split at hw
      · cases hw
      · rename_i hi
        cases hw
        refine va_iast (tys := am_ty cs) hO.1 hO.2.1 hO.2.2.2.2.2.1 hP hD hS r 0 (am_wl_get hs) rfl hi hf.1 (fun H1 locs1 hP1 hD1 hS1 => ?_)
        have he : (am_wl S.1 ad cs μ).set r (ad r, Sum.inl (cs 0, n, Sum.inl (upd (μ r) i.toNatClampNeg x))) = am_wl S.1 ad cs (am_up μ r i.toNatClampNeg x) := am_wl_set (sc := .inl n) hs (upd (μ r) i.toNatClampNeg x)
        rw [he] at hP1 hD1
        exact k H1 locs1 ls hP1 hD1 hS1 hl
    · cases hw
  · cases hw
/-- System.arraycopy of ints -/
def am_cy (Sh : List am_SC) (a i b j n : AV) (μ : am_M) : Option am_M := match a, i, b, j, n with
  | .inr (.inr (.inl r)), .inl i, .inr (.inr (.inl t)), .inl j, .inl n => match Sh[r]?, Sh[t]? with
    | some (.inl n0), some (.inl n1) => if i < 0 ∨ j < 0 ∨ n < 0 ∨ n0 < i.toNatClampNeg + n.toNatClampNeg ∨ n1 < j.toNatClampNeg + n.toNatClampNeg then none else some (am_ur μ t (va_cpy (μ r) (μ t) i.toNatClampNeg j.toNatClampNeg n.toNatClampNeg))
    | _, _ => none
  | _, _, _, _, _ => none
theorem am_jcw : Jvm.Cond.native arraycopyName ∈ am_tb ∧ Jvm.Cond.static arraycopyName ∈ am_tb ∧ Jvm.Cond.initialized "java/lang/System" ∈ am_tb := by decide +kernel
theorem is_copy {S : am_S} (idx q : Nat) (hdp : 1 ≤ S.2.2.2.1) {G : am_G} (hO : am_Ok S G) {pc : Nat} (hf : am_fit S.2.1 pc [(.invokestatic idx, 3, some (q, .methodLink S.2.2.2.2 idx arraycopyName))]) {env : List AV} {μ μ' : am_M} {a i b j n : AV} (hw : am_cy S.1 a i b j n μ = some μ') (k : am_Wn S G (pc + 3) env [] μ') : am_Wn S G pc env (n :: j :: b :: i :: a :: []) μ := by
  obtain ⟨p, l, e, R, s, m, args, below, meth, c, Q, D, cs, ad, A, nc, ns⟩ := G
  intro H locs ls hP hD hS hl
  obtain ⟨hO1, hO2, hO3, hO4, ⟨hO5, hO5n⟩, hO6, hO7, hO8, hO9, hO10, hO11⟩ := hO
  unfold am_cy at hw
  split at hw
  · rename_i r i t j n
    split at hw
    · rename_i n0 n1 h0 h1
      split at hw
      · cases hw
      · rename_i hi
        cases hw
        simp only [not_or] at hi
        obtain ⟨z1, z2, z3, z4, z5⟩ := hi
        refine va_copyi (tys := am_ty cs) (rest := []) hO1 hO2 (hO3.trans hl.1.symm) hO4 (hO5 _ (am_word (hf.2.1 _ rfl) rfl)) (hO5 _ am_jcw.1) (hO5 _ am_jcw.2.1) (hO5 _ am_jcw.2.2) hO6 hP hD hS r t 0 0 (ty := .int) (am_wl_get h0) (am_wl_get h1) rfl rfl rfl z1 z2 z3 (Nat.le_of_not_lt z4) (Nat.le_of_not_lt z5) (fun _ _ => rfl) (Nat.le_trans hdp hO8) (Nat.le_trans (by decide +kernel) (Nat.le_trans (Nat.mul_le_mul_left 64 hdp) hO9)) hf.1 (fun H1 locs1 hP1 hD1 hS1 => ?_)
        have he : (am_wl S.1 ad cs μ).set t (ad t, Sum.inl (cs 0, n1, Sum.inl (va_cpy (μ r) (μ t) i.toNatClampNeg j.toNatClampNeg n.toNatClampNeg))) = am_wl S.1 ad cs (am_ur μ t (va_cpy (μ r) (μ t) i.toNatClampNeg j.toNatClampNeg n.toNatClampNeg)) := am_wl_set (sc := .inl n1) h1 _
        rw [he] at hP1 hD1
        exact k H1 locs1 ls hP1 hD1 hS1 hl
    · cases hw
  · cases hw
/-! dup, pop -/
def am_c1 : AV → Bool
  | .inl _ => true
  | .inr (.inr (.inl _)) => true
  | _ => false
theorem am_c1_ok {ad : Nat → Nat} {a : AV} (h : am_c1 a = true) : (am_cv ad a).category = 1 := by
  rcases a with x | x | x | x
  · rfl
  · cases h
  · rfl
  · cases h
theorem is_dup {S : am_S} {G : am_G} (hO : am_Ok S G) {pc : Nat} (hf : am_fit S.2.1 pc [(.dup, 1, none)]) {env st : List AV} {μ : am_M} {a : AV} (ha : am_c1 a = true) (k : am_Wn S G (pc + 1) env (a :: a :: st) μ) : am_Wn S G pc env (a :: st) μ := by
  obtain ⟨p, l, e, R, s, m, args, below, meth, c, Q, D, cs, ad, A, nc, ns⟩ := G
  intro H locs ls hP hD hS hl
  exact lv_dup hO.1 hO.2.1 hf.1 (am_c1_ok ha) (k H locs ls hP hD hS hl)
theorem is_dup2 {S : am_S} {G : am_G} (hO : am_Ok S G) {pc : Nat} (hf : am_fit S.2.1 pc [(.dup2, 1, none)]) {env st : List AV} {μ : am_M} {a b : AV} (ha : am_c1 a = true) (hb : am_c1 b = true) (k : am_Wn S G (pc + 1) env (b :: a :: b :: a :: st) μ) : am_Wn S G pc env (b :: a :: st) μ := by
  obtain ⟨p, l, e, R, s, m, args, below, meth, c, Q, D, cs, ad, A, nc, ns⟩ := G
  intro H locs ls hP hD hS hl
  exact lv_dup2_11 hO.1 hO.2.1 hf.1 (am_c1_ok hb) (am_c1_ok ha) (k H locs ls hP hD hS hl)
theorem is_pop {S : am_S} {G : am_G} (hO : am_Ok S G) {pc : Nat} (hf : am_fit S.2.1 pc [(.pop, 1, none)]) {env st : List AV} {μ : am_M} {a : AV} (ha : am_c1 a = true) (k : am_Wn S G (pc + 1) env st μ) : am_Wn S G pc env (a :: st) μ := by
  obtain ⟨p, l, e, R, s, m, args, below, meth, c, Q, D, cs, ad, A, nc, ns⟩ := G
  intro H locs ls hP hD hS hl
  exact lv_pop hO.1 hO.2.1 hf.1 (am_c1_ok ha) (k H locs ls hP hD hS hl)
/-! branches -/
theorem is_goto {S : am_S} {G : am_G} (hO : am_Ok S G) {pc : Nat} {off : Int} (hf : am_fit S.2.1 pc [(.goto off, 3, none)]) {env st : List AV} {μ : am_M} {tgt : Nat} (ht : (pc : Int) + off = (tgt : Int)) (k : am_Wn S G tgt env st μ) : am_Wn S G pc env st μ := by
  obtain ⟨p, l, e, R, s, m, args, below, meth, c, Q, D, cs, ad, A, nc, ns⟩ := G
  intro H locs ls hP hD hS hl
  exact lv_goto hO.1 hO.2.1 hf.1 ht (k H locs ls hP hD hS hl)
/-- the six comparisons: of an int with 0, of two ints -/
def am_c0 (c : ClassFile.Cond) (x : Int32) : Bool := match c with
  | .eq => decide (x = 0)
  | .ne => decide (¬ x = 0)
  | .lt => decide (x < 0)
  | .ge => decide (0 ≤ x)
  | .gt => decide (0 < x)
  | .le => decide (x ≤ 0)
def am_c2 (c : ClassFile.Cond) (x y : Int32) : Bool := match c with
  | .eq => decide (x = y)
  | .ne => decide (¬ x = y)
  | .lt => decide (x < y)
  | .ge => decide (y ≤ x)
  | .gt => decide (y < x)
  | .le => decide (x ≤ y)
theorem is_if {S : am_S} {G : am_G} (hO : am_Ok S G) {pc : Nat} (cd : ClassFile.Cond) {off : Int} (hf : am_fit S.2.1 pc [(.ifCond cd off, 3, none)]) {env st : List AV} {μ : am_M} {tgt : Nat} (ht : (pc : Int) + off = (tgt : Int)) {x : Int32} (kt : am_c0 cd x = true → am_Wn S G tgt env st μ) (kf : am_c0 cd x = false → am_Wn S G (pc + 3) env st μ) : am_Wn S G pc env (vI x :: st) μ := by
  obtain ⟨p, l, e, R, s, m, args, below, meth, c, Q, D, cs, ad, A, nc, ns⟩ := G
  intro H locs ls hP hD hS hl
  cases cd with
  | eq => exact lv_if_eq hO.1 hO.2.1 hf.1 ht (fun h => kt (decide_eq_true h) H locs ls hP hD hS hl) (fun h => kf (decide_eq_false h) H locs ls hP hD hS hl)
  | ne => exact lv_if_ne hO.1 hO.2.1 hf.1 ht (fun h => kt (decide_eq_true h) H locs ls hP hD hS hl) (fun h => kf (decide_eq_false (fun h9 => h9 h)) H locs ls hP hD hS hl)
  | lt => exact lv_if_lt hO.1 hO.2.1 hf.1 ht (fun h => kt (decide_eq_true h) H locs ls hP hD hS hl) (fun h => kf (decide_eq_false h) H locs ls hP hD hS hl)
  | ge => exact lv_if_ge hO.1 hO.2.1 hf.1 ht (fun h => kt (decide_eq_true h) H locs ls hP hD hS hl) (fun h => kf (decide_eq_false h) H locs ls hP hD hS hl)
  | gt => exact lv_if_gt hO.1 hO.2.1 hf.1 ht (fun h => kt (decide_eq_true h) H locs ls hP hD hS hl) (fun h => kf (decide_eq_false h) H locs ls hP hD hS hl)
  | le => exact lv_if_le hO.1 hO.2.1 hf.1 ht (fun h => kt (decide_eq_true h) H locs ls hP hD hS hl) (fun h => kf (decide_eq_false h) H locs ls hP hD hS hl)
theorem is_ic {S : am_S} {G : am_G} (hO : am_Ok S G) {pc : Nat} (cd : ClassFile.Cond) {off : Int} (hf : am_fit S.2.1 pc [(.if_icmp cd off, 3, none)]) {env st : List AV} {μ : am_M} {tgt : Nat} (ht : (pc : Int) + off = (tgt : Int)) {x y : Int32} (kt : am_c2 cd x y = true → am_Wn S G tgt env st μ) (kf : am_c2 cd x y = false → am_Wn S G (pc + 3) env st μ) : am_Wn S G pc env (vI y :: vI x :: st) μ := by
  obtain ⟨p, l, e, R, s, m, args, below, meth, c, Q, D, cs, ad, A, nc, ns⟩ := G
  intro H locs ls hP hD hS hl
  cases cd with
  | eq => exact lv_icmp_eq hO.1 hO.2.1 hf.1 ht (fun h => kt (decide_eq_true h) H locs ls hP hD hS hl) (fun h => kf (decide_eq_false h) H locs ls hP hD hS hl)
  | ne => exact lv_icmp_ne hO.1 hO.2.1 hf.1 ht (fun h => kt (decide_eq_true h) H locs ls hP hD hS hl) (fun h => kf (decide_eq_false (fun h9 => h9 h)) H locs ls hP hD hS hl)
  | lt => exact lv_icmp_lt hO.1 hO.2.1 hf.1 ht (fun h => kt (decide_eq_true h) H locs ls hP hD hS hl) (fun h => kf (decide_eq_false h) H locs ls hP hD hS hl)
  | ge => exact lv_icmp_ge hO.1 hO.2.1 hf.1 ht (fun h => kt (decide_eq_true h) H locs ls hP hD hS hl) (fun h => kf (decide_eq_false h) H locs ls hP hD hS hl)
  | gt => exact lv_icmp_gt hO.1 hO.2.1 hf.1 ht (fun h => kt (decide_eq_true h) H locs ls hP hD hS hl) (fun h => kf (decide_eq_false h) H locs ls hP hD hS hl)
  | le => exact lv_icmp_le hO.1 hO.2.1 hf.1 ht (fun h => kt (decide_eq_true h) H locs ls hP hD hS hl) (fun h => kf (decide_eq_false h) H locs ls hP hD hS hl)
