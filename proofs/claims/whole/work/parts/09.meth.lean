/-! A METHOD OUT OF ITS BODY -/
def am_en : List AV → List AV
  | [] => []
  | .inr (.inl x) :: t => vL x :: vU :: am_en t
  | a :: t => a :: am_en t
theorem am_en_args {ad : Nat → Nat} : ∀ (as : List AV) (k i : Nat) (a : AV) (v : Value), (am_en as)[i]? = some a → am_ov ad a = some v → (k + i, v) ∈ lv_args k (as.map (am_cv ad))
  | [], k, i, a, v, h, _ => by simp [am_en] at h
  | b :: t, k, i, a, v, h, hv => by
    rcases b with x | x | x | x
    · cases i with
      | zero => cases h; cases hv; exact List.mem_cons_self
      | succ i => exact List.mem_cons_of_mem _ (by have := am_en_args t (k + 1) i a v h hv; rw [show k + (i + 1) = k + 1 + i by omega]; exact this)
    · cases i with
      | zero => cases h; cases hv; exact List.mem_cons_self
      | succ i =>
        cases i with
        | zero => cases h; cases hv
        | succ i => exact List.mem_cons_of_mem _ (by have := am_en_args t (k + 2) i a v h hv; rw [show k + (i + 1 + 1) = k + 2 + i by omega]; exact this)
    · cases i with
      | zero => cases h; cases hv; exact List.mem_cons_self
      | succ i => exact List.mem_cons_of_mem _ (by have := am_en_args t (k + 1) i a v h hv; rw [show k + (i + 1) = k + 1 + i by omega]; exact this)
    · cases i with
      | zero => cases h; cases hv
      | succ i => exact List.mem_cons_of_mem _ (by have := am_en_args t (k + 1) i a v h hv; rw [show k + (i + 1) = k + 1 + i by omega]; exact this)
theorem am_en_len {ad : Nat → Nat} : ∀ (as : List AV), (lg_sl (as.map (am_cv ad))).length = (am_en as).length
  | [] => rfl
  | b :: t => by
    have ih := am_en_len (ad := ad) t
    have hc : ∀ (v : Value) (vs : List Value), lg_sl (v :: vs) = (if v.category = 2 then [.val v, .second] else [.val v]) ++ lg_sl vs := fun v vs => by unfold lg_sl; rw [List.flatMap_cons]
    rw [List.map_cons, hc, List.length_append, ih]
    rcases b with x | x | x | x <;> simp [am_en, am_cv, Value.category] <;> omega
def am_nr (ret : Option FieldType) (r : Option AV) : Bool := match ret, r with
  | none, none => true
  | some .int, some (.inl _) => true
  | some .boolean, some (.inl x) => x == 0 || x == 1
  | some .long, some (.inr (.inl _)) => true
  | some (.object _), some (.inr (.inr (.inl _))) => true
  | _, _ => false
def am_fn (nL : Nat) (ret : Option FieldType) (f : am_T) : am_F := fun as μ => if (am_en as).length ≤ nL then (match f (am_en as) μ with
  | some (.inr (r, μ')) => if am_nr ret r = true then some (r, μ') else none
  | _ => none) else none
theorem am_fn_ok {nL : Nat} {ret : Option FieldType} {f : am_T} {as : List AV} {μ μ' : am_M} {r : Option AV} (h : am_fn nL ret f as μ = some (r, μ')) : (am_en as).length ≤ nL ∧ f (am_en as) μ = some (.inr (r, μ')) ∧ am_nr ret r = true := by
  unfold am_fn at h
  split at h
  · rename_i hl
    split at h
    · rename_i r' μ'' he
      split at h
      · rename_i hn
        cases h
        exact ⟨hl, he, hn⟩
      · cases h
    · cases h
  · cases h
theorem am_meth {Sh : List am_SC} {y : MethodName} {cc : ByteArray} {nL d : Nat} {ret : Option FieldType} (x : am_SP (Sh, cc, nL, d, y.cls)) (hy : plainName y.cls = true) (hr : x.1.2.1 ≤ 5) (hf : am_fb cc 0 x.1.1 = true) : am_Sd Sh y cc nL ret d (am_fn nL ret x.1.2.2) := by
  intro l D cs ad sz as μ r μ' hfn
  obtain ⟨hlen, hbody, hnr⟩ := am_fn_ok hfn
  refine Met.ofW (cc := cc) (maxL := nL) (ret := ret) hy rfl ?_
  intro p e s m args below meth c s₁ B hml hv
  obtain ⟨rfl, hsz, hP, hK, hD0, hN⟩ := hv
  have hx := B.exec
  have hb := B.bytes
  have hrt := B.returns
  have hts := atoms_spec (ws := Jvm.Cond.code y cc nL ret :: am_tb) B.pre
  have hown : s.vm.findClass y.cls = some m.cls := findClass_of_methodNamed B.named
  have hlocks := B.notSynchronized
  subst hsz
  have hD := hD0.self (sz := s.heap.size)
  generalize hAe : va_A (am_wl Sh ad cs μ) s.heap.size = A at hD ⊢
  have hA : ∀ q : Nat, s.heap.size ≤ q → A q := fun q h => by rw [← hAe]; exact Or.inr h
  have hS : va_S A s.heap s.heap [] := va_S.rf
  have hl := lv_entry (as.map (am_cv ad)) (n := nL) (by rw [am_en_len]; exact hlen)
  rw [lg_entry_eq]
  generalize (lg_sl (as.map (am_cv ad)) ++ List.replicate (nL - (lg_sl (as.map (am_cv ad))).length) Slot.unset).toArray = ls at hl ⊢
  have hl : am_ag ad ls nL (am_en as) := ⟨hl.1, hl.2.1, fun q hq => by
    obtain ⟨i, v⟩ := q
    obtain ⟨a, ha, hv⟩ := am_ll_mem.mp hq
    have := am_en_args as 0 i a v ha hv
    rw [Nat.zero_add] at this
    exact hl.2.2 (i, v) this⟩
  have hO : am_Ok (Sh, cc, nL, d, y.cls) (p, l, e, am_rm d, s, m, (as.map (am_cv ad)).toArray, below, meth, c, MQ below (am_Q Sh D cs ad r μ' A) (as.map (am_cv ad)).toArray s 0 0 A, D, cs, ad, A, 0, 0) := ⟨hx, hb, hml, hown, ⟨fun w hw => hts w (List.mem_cons_of_mem _ hw), hN⟩, hK, hA, Nat.le_refl _, Nat.le_refl _, Nat.le_refl _, Nat.le_refl _⟩
  refine x.2 hr _ hO 0 (am_fb_ok hf) (am_en as) μ _ hbody ?_ s.heap [] ls hP hD hS hl
  intro H locs ls pc hP hD hS hdg
  have hq : ∀ t : State, t.heap = H → am_Q Sh D cs ad r μ' A (as.map (am_cv ad)).toArray s (.returned (r.map (am_cv ad))) t := fun t ht => ⟨rfl, by rw [ht]; exact hP, hS.F ht⟩
  unfold am_nr at hnr
  split at hnr
  · exact W.vret hx hb hrt (fun t ht _ => hq t ht) hS.2.2 hdg
  · exact W.iret hx hb hrt (fun t ht _ => hq t ht) hS.2.2 hdg
  · rename_i v
    refine W.zret hx hb hrt ?_ (fun t ht _ => hq t ht) hS.2.2 hdg
    simp only [Bool.or_eq_true, beq_iff_eq] at hnr
    rcases hnr with rfl | rfl <;> decide
  · exact W.lret hx hb hrt (fun t ht _ => hq t ht) hS.2.2 hdg
  · exact W.aret hx hb hrt (Or.inl ⟨_, rfl⟩) (Or.inr ⟨_, rfl⟩) (fun t ht _ => hq t ht) hS.2.2 hdg
  · cases hnr
/-! a switch whose cases do not complete: bodies one behind another -/
def am_cat : List (List am_I) → List am_I
  | [] => []
  | a :: t => a ++ am_cat t
def am_of : List (List am_I) → Nat → Nat
  | _, 0 => 0
  | [], _ => 0
  | a :: t, k + 1 => am_sz a + am_of t k
theorem am_of_fit {cc : ByteArray} : ∀ {l : List (List am_I)} {k : Nat} {a : List am_I} {pc : Nat}, am_fit cc pc (am_cat l) → l[k]? = some a → am_fit cc (pc + am_of l k) a
  | [], k, a, pc, _, h => by simp at h
  | b :: t, 0, a, pc, hf, h => by
    cases h
    exact (am_fit_app hf).1
  | b :: t, k + 1, a, pc, hf, h => by
    have h1 := am_of_fit (l := t) (k := k) (a := a) (am_fit_app hf).2 h
    show am_fit cc (pc + (am_sz b + am_of t k)) a
    rw [← Nat.add_assoc]
    exact h1
/-- which body an int takes: lo, the bodies of lo, lo + 1 .., the body of all else -/
def am_wh (lo : Int) (ks : List Nat) (kd : Nat) (x : Int32) : Nat := if x.toInt < lo ∨ lo + (ks.length : Int) - 1 < x.toInt then kd else (ks[(x.toInt - lo).toNat]?).getD kd
def s_sw (lo : Int) (ks : List Nat) (kd : Nat) (a : am_X) (bs : List am_T) : am_T := fun env μ => am_bd (a env μ) fun v μ => match v with
  | .inl x => (match bs[am_wh lo ks kd x]? with
    | some f => s_no f env μ
    | none => none)
  | _ => none
theorem ok_sw {S : am_S} (lo : Int) (ks : List Nat) (kd len : Nat) {fr : List am_I} {r : Nat} {f : am_X} (ha : am_OkX S fr r f) (bs : List (am_SP S)) : am_OkS S (fr ++ ((.tableswitch ((len + am_of (bs.map (fun b => b.1.1)) kd : Nat) : Int) lo (lo + (ks.length : Int) - 1) (ks.map (fun k => ((len + am_of (bs.map (fun b => b.1.1)) k : Nat) : Int))).toArray, len, none) :: am_cat (bs.map (fun b => b.1.1)))) (max r ((bs.map (fun b => b.1.2.1)).foldr max 0)) (s_sw lo ks kd f (bs.map (fun b => b.1.2.2))) := by
  intro hr G hO pc hf env μ o hv k
  obtain ⟨h1, h2a, h2b, h3⟩ := am_fit_app hf
  obtain ⟨v, μ1, ha1, hv⟩ := am_bd_ok hv
  split at hv
  · rename_i x
    split at hv
    · rename_i g hg
      rw [List.getElem?_map] at hg
      obtain ⟨b, hb, rfl⟩ := am_map_ok hg
      have hb2 : (bs.map (fun b => b.1.1))[am_wh lo ks kd x]? = some b.1.1 := by rw [List.getElem?_map, hb]; rfl
      have hfit := am_of_fit h3 hb2
      have hle : ∀ (l : List (am_SP S)) (k : Nat) (b : am_SP S), l[k]? = some b → b.1.2.1 ≤ (l.map (fun b => b.1.2.1)).foldr max 0 := by
        intro l
        induction l with
        | nil => intro k b h; simp at h
        | cons a t ih =>
          intro k b h
          simp only [List.map_cons, List.foldr_cons]
          cases k with
          | zero => cases h; exact Nat.le_max_left _ _
          | succ k => exact Nat.le_trans (ih k b h) (Nat.le_max_right _ _)
      have hrb := hle bs _ b hb
      refine ha G hO pc h1 env [] μ _ μ1 ha1 (by simp only [List.length_nil]; omega) ?_
      have key := ok_no b.2 (by omega) hO hfit hv _ k
      generalize am_sz fr = z at *
      obtain ⟨p, l, e, R, s, m, args, below, meth, c, Q, D, cs, ad, A, nc, ns⟩ := G
      intro H locs ls hP hD hS hl
      by_cases hx : x.toInt < lo ∨ lo + (ks.length : Int) - 1 < x.toInt
      · refine lv_tableOut hO.1 hO.2.1 h2a hx (tgt := pc + z + (len + am_of (bs.map (fun b => b.1.1)) kd)) (by omega) ?_
        have hw : am_wh lo ks kd x = kd := by unfold am_wh; rw [if_pos hx]
        rw [hw] at key
        rw [← Nat.add_assoc]
        exact key H locs ls hP hD hS hl
      · have hlt : (x.toInt - lo).toNat < ks.length := by omega
        obtain ⟨j, hj⟩ : ∃ j, ks[(x.toInt - lo).toNat]? = some j := ⟨_, List.getElem?_eq_getElem hlt⟩
        have hw : am_wh lo ks kd x = j := by unfold am_wh; rw [if_neg hx, hj]; rfl
        rw [hw] at key
        refine lv_tableIn hO.1 hO.2.1 h2a (fun h => hx (Or.inl h)) (fun h => hx (Or.inr h)) (off := ((len + am_of (bs.map (fun b => b.1.1)) j : Nat) : Int)) (by rw [List.getElem?_toArray, List.getElem?_map, hj]; rfl) (tgt := pc + z + (len + am_of (bs.map (fun b => b.1.1)) j)) (by omega) ?_
        rw [← Nat.add_assoc]
        exact key H locs ls hP hD hS hl
    · cases hv
  · cases hv
def t_sw {S : am_S} (lo : Int) (ks : List Nat) (kd len : Nat) (a : am_XP S) (bs : List (am_SP S)) : am_SP S := ⟨(a.1.1 ++ ((.tableswitch ((len + am_of (bs.map (fun b => b.1.1)) kd : Nat) : Int) lo (lo + (ks.length : Int) - 1) (ks.map (fun k => ((len + am_of (bs.map (fun b => b.1.1)) k : Nat) : Int))).toArray, len, none) :: am_cat (bs.map (fun b => b.1.1))), max a.1.2.1 ((bs.map (fun b => b.1.2.1)).foldr max 0), s_sw lo ks kd a.1.2.2 (bs.map (fun b => b.1.2.2))), ok_sw lo ks kd len a.2 bs⟩
/-! Math.max, min, abs: calls that the machine's tables tell by name -/
def am_max (x y : Int32) : Int32 := if x < y then y else x
def am_min (x y : Int32) : Int32 := if y < x then y else x
def am_abs (x : Int32) : Int32 := if 0 ≤ x then x else 0 - x
def am_m2 (f : Int32 → Int32 → Int32) (vs : List AV) (μ : am_M) : Option (Option AV × am_M) := match vs with
  | [.inl x, .inl y] => some (some (vI (f x y)), μ)
  | _ => none
def am_m1 (f : Int32 → Int32) (vs : List AV) (μ : am_M) : Option (Option AV × am_M) := match vs with
  | [.inl x] => some (some (vI (f x)), μ)
  | _ => none
theorem am_mw : Jvm.Cond.static Lib.Math.max.name ∈ am_tb ∧ Jvm.Cond.static Lib.Math.min.name ∈ am_tb ∧ Jvm.Cond.static Lib.Math.abs.name ∈ am_tb ∧ Jvm.Cond.initialized "java/lang/Math" ∈ am_tb ∧ Jvm.Cond.code Lib.Math.max.name Lib.Math.max.code 2 (some .int) ∈ am_tb ∧ Jvm.Cond.code Lib.Math.min.name Lib.Math.min.code 2 (some .int) ∈ am_tb ∧ Jvm.Cond.code Lib.Math.abs.name Lib.Math.abs.code 1 (some .int) ∈ am_tb := by decide +kernel
theorem ic_max {S : am_S} (idx q : Nat) (hd : 1 ≤ S.2.2.2.1) : am_IC S (.invokestatic idx, 3, some (q, .methodLink S.2.2.2.2 idx Lib.Math.max.name)) (am_m2 am_max) := by
  rintro ⟨p, l, e, R, s, m, args, below, meth, c, Q, D, cs, ad, A, nc, ns⟩ hO pc hf env st μ μ' vs r hst hw k H locs ls hP hD hS hl
  obtain ⟨hO1, hO2, hO3, hO4, ⟨hO5, hO5n⟩, hO6, hO7, hO8, hO9, hO10, hO11⟩ := hO
  unfold am_m2 at hw
  split at hw
  · rename_i x y
    cases hw
    have hrm := am_room (ad := ad) hst
    exact va_mmax (rest := st.map (am_cv ad)) hO1 hO2 (hO3.trans hl.1.symm) hO4 (hO5 _ (am_word (hf.2.1 _ rfl) rfl)) (hO5 _ am_mw.1) (hO5 _ am_mw.2.2.2.1) (hO5 _ am_mw.2.2.2.2.1) (Nat.le_trans hd hO8) (by omega) hO10 hO11 hf.1 (k H locs ls hP hD hS hl)
  · cases hw
theorem ic_min {S : am_S} (idx q : Nat) (hd : 1 ≤ S.2.2.2.1) : am_IC S (.invokestatic idx, 3, some (q, .methodLink S.2.2.2.2 idx Lib.Math.min.name)) (am_m2 am_min) := by
  rintro ⟨p, l, e, R, s, m, args, below, meth, c, Q, D, cs, ad, A, nc, ns⟩ hO pc hf env st μ μ' vs r hst hw k H locs ls hP hD hS hl
  obtain ⟨hO1, hO2, hO3, hO4, ⟨hO5, hO5n⟩, hO6, hO7, hO8, hO9, hO10, hO11⟩ := hO
  unfold am_m2 at hw
  split at hw
  · rename_i x y
    cases hw
    have hrm := am_room (ad := ad) hst
    exact va_mmin (rest := st.map (am_cv ad)) hO1 hO2 (hO3.trans hl.1.symm) hO4 (hO5 _ (am_word (hf.2.1 _ rfl) rfl)) (hO5 _ am_mw.2.1) (hO5 _ am_mw.2.2.2.1) (hO5 _ am_mw.2.2.2.2.2.1) (Nat.le_trans hd hO8) (by omega) hO10 hO11 hf.1 (k H locs ls hP hD hS hl)
  · cases hw
theorem ic_abs {S : am_S} (idx q : Nat) (hd : 1 ≤ S.2.2.2.1) : am_IC S (.invokestatic idx, 3, some (q, .methodLink S.2.2.2.2 idx Lib.Math.abs.name)) (am_m1 am_abs) := by
  rintro ⟨p, l, e, R, s, m, args, below, meth, c, Q, D, cs, ad, A, nc, ns⟩ hO pc hf env st μ μ' vs r hst hw k H locs ls hP hD hS hl
  obtain ⟨hO1, hO2, hO3, hO4, ⟨hO5, hO5n⟩, hO6, hO7, hO8, hO9, hO10, hO11⟩ := hO
  unfold am_m1 at hw
  split at hw
  · rename_i x
    cases hw
    have hrm := am_room (ad := ad) hst
    exact va_mabs (rest := st.map (am_cv ad)) hO1 hO2 (hO3.trans hl.1.symm) hO4 (hO5 _ (am_word (hf.2.1 _ rfl) rfl)) (hO5 _ am_mw.2.2.1) (hO5 _ am_mw.2.2.2.1) (hO5 _ am_mw.2.2.2.2.2.2) (Nat.le_trans hd hO8) (by omega) hO10 hO11 hf.1 (k H locs ls hP hD hS hl)
  · cases hw
