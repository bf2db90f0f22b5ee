/-! CONSTRUCTORS: rows over a world (this) :: R that grows -/
/-- p, l, e, R, s, m, args, below, meth, c, Q, D, cs, A -/
abbrev cw_G : Type := Program × Launch × Env × Room × State × MethodId × Array Value × List Frame × Method × Code × (State → Prop) × va_G × (Nat → ClassId) × (Nat → Prop)
def cw_Ao (U : State) : Prop := va_AO "WrackDeeds$Hanging" U ∧ va_AO "WrackDeeds$Sheet" U
def cw_Ok (cc : ByteArray) (nL : Nat) (own : String) : cw_G → Prop
  | (p, l, e, R, s, m, args, below, meth, c, Q, D, cs, A) => p.tables.exec = Jvm.exec ∧ c.code = cc ∧ c.maxLocals = nL ∧ s.vm.findClass own = some m.cls ∧ (∀ w ∈ am_tb, w.before args s = true) ∧ (∀ w ∈ am_ne, va_Nw w s) ∧ va_K D vwCl (am_ty cs) s ∧ (∀ q : Nat, s.heap.size ≤ q → A q) ∧ (own ≠ RL → meth.name = "<init>") ∧ cw_Ao s
def cw_W (nL : Nat) (G : cw_G) (pc : Nat) (lv : List (Nat × Value)) (st : List Value) (ws : va_W) (nc ns : Nat) : Prop := match G with
  | (p, l, e, R, s, m, args, below, meth, c, Q, D, cs, A) => ∀ (H : Heap) (locs : List Loc) (ls : Array Slot), va_P D vwCl ws H → va_D A ws → va_S A s.heap H locs → lv_has ls nL lv → W p l e R s m args below meth c H locs nc ns Q (F0 m pc ls st)
section CWR
variable {cc : ByteArray} {nL : Nat} {own : String} {G : cw_G} {pc nc ns : Nat} {lv : List (Nat × Value)} {st : List Value} {ws R : va_W} {h0 ci : Nat} {fs : List Value}
theorem cr_al (hO : cw_Ok cc nL own G) (n : Fin 4) (k : Nat) {x : Nat} (hk : lv[k]? = some ((n : Nat), .ref x)) (hf : am_fit cc pc [(.aload_n n, 1, none)]) (kk : cw_W nL G (pc + 1) lv (.ref x :: st) ws nc ns) : cw_W nL G pc lv st ws nc ns := by
  obtain ⟨p, l, e, Rm, s, m, args, below, meth, c, Q, D, cs, A⟩ := G
  intro H locs ls hP hD hS hl
  exact lv_aload_n hO.1 hO.2.1 hf.1 rfl (lv_at hl k hk) (kk H locs ls hP hD hS hl)
theorem cr_il (hO : cw_Ok cc nL own G) (n : Fin 4) (k : Nat) {x : Int32} (hk : lv[k]? = some ((n : Nat), .int x)) (hf : am_fit cc pc [(.iload_n n, 1, none)]) (kk : cw_W nL G (pc + 1) lv (.int x :: st) ws nc ns) : cw_W nL G pc lv st ws nc ns := by
  obtain ⟨p, l, e, Rm, s, m, args, below, meth, c, Q, D, cs, A⟩ := G
  intro H locs ls hP hD hS hl
  exact lv_iload_n hO.1 hO.2.1 hf.1 rfl (lv_at hl k hk) (kk H locs ls hP hD hS hl)
theorem cr_ic (hO : cw_Ok cc nL own G) (n : Int) (v : Int32) (hv : Int32.ofInt n = v) (hf : am_fit cc pc [(.iconst n, 1, none)]) (kk : cw_W nL G (pc + 1) lv (.int v :: st) ws nc ns) : cw_W nL G pc lv st ws nc ns := by
  obtain ⟨p, l, e, Rm, s, m, args, below, meth, c, Q, D, cs, A⟩ := G
  intro H locs ls hP hD hS hl
  exact lv_iconst hO.1 hO.2.1 hf.1 hv (kk H locs ls hP hD hS hl)
theorem cr_bp (hO : cw_Ok cc nL own G) (n : Int) (v : Int32) (hv : (Int8.ofInt n).toInt32 = v) (hf : am_fit cc pc [(.bipush n, 2, none)]) (kk : cw_W nL G (pc + 2) lv (.int v :: st) ws nc ns) : cw_W nL G pc lv st ws nc ns := by
  obtain ⟨p, l, e, Rm, s, m, args, below, meth, c, Q, D, cs, A⟩ := G
  intro H locs ls hP hD hS hl
  exact lv_bipush hO.1 hO.2.1 hf.1 hv (kk H locs ls hP hD hS hl)
theorem cr_sp (hO : cw_Ok cc nL own G) (n : Int) (v : Int32) (hv : (Int16.ofInt n).toInt32 = v) (hf : am_fit cc pc [(.sipush n, 3, none)]) (kk : cw_W nL G (pc + 3) lv (.int v :: st) ws nc ns) : cw_W nL G pc lv st ws nc ns := by
  obtain ⟨p, l, e, Rm, s, m, args, below, meth, c, Q, D, cs, A⟩ := G
  intro H locs ls hP hD hS hl
  exact lv_sipush hO.1 hO.2.1 hf.1 hv (kk H locs ls hP hD hS hl)
theorem cr_dup (hO : cw_Ok cc nL own G) {x : Nat} (hf : am_fit cc pc [(.dup, 1, none)]) (kk : cw_W nL G (pc + 1) lv (.ref x :: .ref x :: st) ws nc ns) : cw_W nL G pc lv (.ref x :: st) ws nc ns := by
  obtain ⟨p, l, e, Rm, s, m, args, below, meth, c, Q, D, cs, A⟩ := G
  intro H locs ls hP hD hS hl
  exact lv_dup hO.1 hO.2.1 hf.1 rfl (kk H locs ls hP hD hS hl)
theorem cr_objw : Jvm.Cond.instanceMethod objectInit ∈ am_tb ∧ Jvm.Cond.code objectInit ⟨#[0xb1]⟩ 1 none ∈ am_tb := by decide +kernel
theorem cr_obj (hO : cw_Ok cc nL own G) (idx q : Nat) {x : Nat} (hfr : 1 ≤ G.2.2.2.1.frames) (hlo : 12 ≤ G.2.2.2.1.locals) (hf : am_fit cc pc [(.invokespecial idx, 3, some (q, .methodLink own idx objectInit))]) (kk : cw_W nL G (pc + 3) lv [] ws nc ns) : cw_W nL G pc lv [.ref x] ws nc ns := by
  obtain ⟨p, l, e, Rm, s, m, args, below, meth, c, Q, D, cs, A⟩ := G
  intro H locs ls hP hD hS hl
  exact W.objInit hO.1 hO.2.1 hO.2.2.2.1 (hO.2.2.2.2.1 _ (am_word (hf.2.1 _ rfl) rfl)) (hO.2.2.2.2.1 _ cr_objw.1) (hO.2.2.2.2.1 _ cr_objw.2) rfl (hl.1.trans hO.2.2.1.symm) rfl hf.1 hfr hlo (kk H locs ls hP hD hS hl)
theorem cr_iaw : Jvm.Cond.arrayClass .int ∈ am_tb := by decide +kernel
/-- the class of int rows is one -/
theorem cr_one {D : va_G} {cs : Nat → ClassId} {s : State} {cA : ClassId} (h : va_K D vwCl (am_ty cs ++ [(cA, .int)]) s) : cA = cs 0 := by
  have h1 := (h.2 0 (cs 0, .int) rfl).2
  have h2 := (h.2 3 (cA, .int) rfl).2
  exact (Option.some.inj (h1.symm.trans h2)).symm
theorem cr_oneH {D : va_G} {cs : Nat → ClassId} {s : State} {cA : ClassId} (h : va_K D vwCl (am_ty cs ++ [(cA, .object "WrackDeeds$Hanging")]) s) : cA = cs 1 := by
  obtain ⟨_, _, _, _, _, h1⟩ := (h.2 1 (cs 1, .object "WrackDeeds$Hanging") rfl).2
  obtain ⟨_, _, _, _, _, h2⟩ := (h.2 3 (cA, .object "WrackDeeds$Hanging") rfl).2
  exact (Option.some.inj (h1.symm.trans h2)).symm
theorem cr_oneS {D : va_G} {cs : Nat → ClassId} {s : State} {cA : ClassId} (h : va_K D vwCl (am_ty cs ++ [(cA, .object "WrackDeeds$Sheet")]) s) : cA = cs 2 := by
  obtain ⟨_, _, _, _, _, h1⟩ := (h.2 2 (cs 2, .object "WrackDeeds$Sheet") rfl).2
  obtain ⟨_, _, _, _, _, h2⟩ := (h.2 3 (cA, .object "WrackDeeds$Sheet") rfl).2
  exact (Option.some.inj (h1.symm.trans h2)).symm
abbrev cw_ia (cs : Nat → ClassId) (n : Nat) (f : Nat → Int32) : va_E := .inl (cs 0, n, .inl f)
abbrev cw_qa (cs : Nat → ClassId) (t n : Nat) (f : Nat → Option Nat) : va_E := .inl (cs t, n, .inr (.inr (.inr (.inr f))))
theorem cr_na (hO : cw_Ok cc nL own G) {v : Int32} (N : Nat) (hv : ¬ v < 0) (hN : v.toNatClampNeg = N) (hb : N * 4 ≤ 536870912) (hc : nc + 1 ≤ G.2.2.2.1.cells) (hs : ns + N ≤ G.2.2.2.1.slots) (hf : am_fit cc pc [(.newarray .int, 2, none)]) (kk : ∀ q : Nat, cw_W nL G (pc + 2) lv (.ref q :: st) (ws ++ [(q, cw_ia G.2.2.2.2.2.2.2.2.2.2.2.2.1 N (fun _ => 0))]) (nc + 1) (ns + N)) : cw_W nL G pc lv (.int v :: st) ws nc ns := by
  obtain ⟨p, l, e, Rm, s, m, args, below, meth, c, Q, D, cs, A⟩ := G
  intro H locs ls hP hD hS hl
  refine va_newa (atype := .int) (tys := am_ty cs) (ty := .int) (a0 := (N, .inl (fun _ => 0))) hO.1 hO.2.1 (hO.2.2.2.2.1 _ cr_iaw) rfl hO.2.2.2.2.2.2.1 hP hD hS hO.2.2.2.2.2.2.2.1 (fun _ => rfl) hv hN hb hc hs hf.1 (fun q cA H1 hK1 hP1 hD1 hS1 => ?_)
  have := cr_one hK1
  subst this
  exact kk q H1 locs ls hP1 hD1 hS1 hl
theorem cr_qH (hO : cw_Ok cc nL own G) {v : Int32} (N idx q0 : Nat) (hv : ¬ v < 0) (hN : v.toNatClampNeg = N) (hb : N * 4 ≤ 536870912) (hc : nc + 1 ≤ G.2.2.2.1.cells) (hs : ns + N ≤ G.2.2.2.1.slots) (hf : am_fit cc pc [(.anewarray idx, 3, some (q0, .classLink own idx "WrackDeeds$Hanging"))]) (kk : ∀ q : Nat, cw_W nL G (pc + 3) lv (.ref q :: st) (ws ++ [(q, cw_qa G.2.2.2.2.2.2.2.2.2.2.2.2.1 1 N (fun _ => none))]) (nc + 1) (ns + N)) : cw_W nL G pc lv (.int v :: st) ws nc ns := by
  obtain ⟨p, l, e, Rm, s, m, args, below, meth, c, Q, D, cs, A⟩ := G
  intro H locs ls hP hD hS hl
  refine va_newq (tys := am_ty cs) hO.1 hO.2.1 hO.2.2.2.1 (hO.2.2.2.2.1 _ (am_word (hf.2.1 _ rfl) rfl)) hO.2.2.2.2.2.2.2.2.2.1 hO.2.2.2.2.2.2.1 hP hD hS hO.2.2.2.2.2.2.2.1 hv hN hb hc hs hf.1 (fun q cA H1 hK1 hP1 hD1 hS1 => ?_)
  have := cr_oneH hK1
  subst this
  exact kk q H1 locs ls hP1 hD1 hS1 hl
theorem cr_qS (hO : cw_Ok cc nL own G) {v : Int32} (N idx q0 : Nat) (hv : ¬ v < 0) (hN : v.toNatClampNeg = N) (hb : N * 4 ≤ 536870912) (hc : nc + 1 ≤ G.2.2.2.1.cells) (hs : ns + N ≤ G.2.2.2.1.slots) (hf : am_fit cc pc [(.anewarray idx, 3, some (q0, .classLink own idx "WrackDeeds$Sheet"))]) (kk : ∀ q : Nat, cw_W nL G (pc + 3) lv (.ref q :: st) (ws ++ [(q, cw_qa G.2.2.2.2.2.2.2.2.2.2.2.2.1 2 N (fun _ => none))]) (nc + 1) (ns + N)) : cw_W nL G pc lv (.int v :: st) ws nc ns := by
  obtain ⟨p, l, e, Rm, s, m, args, below, meth, c, Q, D, cs, A⟩ := G
  intro H locs ls hP hD hS hl
  refine va_newq (tys := am_ty cs) hO.1 hO.2.1 hO.2.2.2.1 (hO.2.2.2.2.1 _ (am_word (hf.2.1 _ rfl) rfl)) hO.2.2.2.2.2.2.2.2.2.2 hO.2.2.2.2.2.2.1 hP hD hS hO.2.2.2.2.2.2.2.1 hv hN hb hc hs hf.1 (fun q cA H1 hK1 hP1 hD1 hS1 => ?_)
  have := cr_oneS hK1
  subst this
  exact kk q H1 locs ls hP1 hD1 hS1 hl
/-- putfield on this -/
theorem cr_pf (hO : cw_Ok cc nL own G) (hne : own ≠ RL) (idx j q : Nat) {v : Value} {ty : FieldType} (hc : vwCl[ci]? = some (am_cn ci)) (hj : j < (am_cn ci).2.2) (hdecl : ((am_cn ci).2.1 j).1 = own) (hd : parseFieldDescriptor ((am_cn ci).2.1 j).2.2.1 = some ty) (hn : narrow ty v = v) (hfit : fits ty v = true) (hl2 : j < fs.length) (hf : am_fit cc pc [(.putfield idx, 3, some (q, am_fl own idx ci j))]) (kk : cw_W nL G (pc + 3) lv st ((h0, .inr (ci, fs.set j v)) :: R) nc ns) : cw_W nL G pc lv (v :: .ref h0 :: st) ((h0, .inr (ci, fs)) :: R) nc ns := by
  obtain ⟨p, l, e, Rm, s, m, args, below, meth, c, Q, D, cs, A⟩ := G
  intro H locs ls hP hD hS hl
  obtain ⟨ty0, hty0⟩ := am_tyk hc
  by_cases hfin : ((am_cn ci).2.1 j).2.2.2 = true
  · exact va_putF (C := (am_cn ci).1) (T := (am_cn ci).2.1) (N := (am_cn ci).2.2) hO.1 hO.2.1 hO.2.2.2.2.1 (am_uwi hc) ty0 hty0 (am_nm hc) hO.2.2.2.1 hO.2.2.2.2.2.2.1 hP hD hS 0 rfl hc j hj (hO.2.2.2.2.1 _ (am_word (hf.2.1 _ rfl) rfl)) (fun _ h9 => h9) hfin (hO.2.2.2.2.2.2.2.2.1 hne) hdecl hd hn hfit hl2 hf.1 (fun H1 locs1 hP1 hD1 hS1 => kk H1 locs1 ls hP1 hD1 hS1 hl)
  · exact va_put (C := (am_cn ci).1) (T := (am_cn ci).2.1) (N := (am_cn ci).2.2) hO.1 hO.2.1 hO.2.2.2.2.1 (am_uwi hc) ty0 hty0 (am_nm hc) hO.2.2.2.1 hO.2.2.2.2.2.2.1 hP hD hS 0 rfl hc j hj (hO.2.2.2.2.1 _ (am_word (hf.2.1 _ rfl) rfl)) (fun _ h9 => h9) (by simpa using hfin) hd hn hfit hl2 hf.1 (fun H1 locs1 hP1 hD1 hS1 => kk H1 locs1 ls hP1 hD1 hS1 hl)
theorem cr_gf (hO : cw_Ok cc nL own G) (idx j q : Nat) {v : Value} (hc : vwCl[ci]? = some (am_cn ci)) (hj : j < (am_cn ci).2.2) (hv : fs[j]? = some v) (hf : am_fit cc pc [(.getfield idx, 3, some (q, am_fl own idx ci j))]) (kk : cw_W nL G (pc + 3) lv (v :: st) ((h0, .inr (ci, fs)) :: R) nc ns) : cw_W nL G pc lv (.ref h0 :: st) ((h0, .inr (ci, fs)) :: R) nc ns := by
  obtain ⟨p, l, e, Rm, s, m, args, below, meth, c, Q, D, cs, A⟩ := G
  intro H locs ls hP hD hS hl
  exact va_get (C := (am_cn ci).1) (T := (am_cn ci).2.1) (N := (am_cn ci).2.2) hO.1 hO.2.1 hO.2.2.2.2.1 (am_uwi hc) hO.2.2.2.1 hO.2.2.2.2.2.2.1 hP 0 rfl hc j hj (hO.2.2.2.2.1 _ (am_word (hf.2.1 _ rfl) rfl)) (fun _ h9 => h9) hv hf.1 (kk H locs ls hP hD hS hl)
theorem cr_new (hO : cw_Ok cc nL own G) (idx q0 cj : Nat) (hcj : vwCl[cj]? = some (am_cn cj)) (hi : Jvm.Cond.instantiable (am_cn cj).1 (am_cn cj).2.2 ∈ am_tb) (hini : Jvm.Cond.initialized (am_cn cj).1 ∈ am_tb) (fs0 : List Value) (ty : Nat → FieldType) (hty : ∀ k, k < (am_cn cj).2.2 → parseFieldDescriptor ((am_cn cj).2.1 k).2.2.1 = some (ty k)) (hfs : ∀ j, j < (am_cn cj).2.2 → defaultValue (ty j) = vp_V fs0 j) (hc : nc + 1 ≤ G.2.2.2.1.cells) (hs : ns + (am_cn cj).2.2 ≤ G.2.2.2.1.slots) (hf : am_fit cc pc [(.new idx, 3, some (q0, .classLink own idx (am_cn cj).1))]) (kk : ∀ q : Nat, cw_W nL G (pc + 3) lv (.ref q :: st) (ws ++ [(q, .inr (cj, fs0))]) (nc + 1) (ns + (am_cn cj).2.2)) : cw_W nL G pc lv st ws nc ns := by
  obtain ⟨p, l, e, Rm, s, m, args, below, meth, c, Q, D, cs, A⟩ := G
  intro H locs ls hP hD hS hl
  exact va_new (C := (am_cn cj).1) (T := (am_cn cj).2.1) (N := (am_cn cj).2.2) hO.1 hO.2.1 hO.2.2.2.2.1 (am_uwi hcj) ty hty hO.2.2.2.1 (hO.2.2.2.2.1 _ (am_word (hf.2.1 _ rfl) rfl)) (hO.2.2.2.2.1 _ hi) (hO.2.2.2.2.1 _ hini) hO.2.2.2.2.2.2.1 hP hD hS hO.2.2.2.2.2.2.2.1 hcj hfs hc hs hf.1 (fun q H1 hP1 hD1 hS1 => kk q H1 locs ls hP1 hD1 hS1 hl)
theorem cr_min (hO : cw_Ok cc nL own G) (idx q : Nat) {x y : Int32} (hfr : 1 ≤ G.2.2.2.1.frames) (hlo : 15 ≤ G.2.2.2.1.locals) (hc : nc ≤ G.2.2.2.1.cells) (hs : ns ≤ G.2.2.2.1.slots) {z : Nat} (hf : am_fit cc pc [(.invokestatic idx, 3, some (q, .methodLink own idx Lib.Math.min.name))]) (kk : cw_W nL G (pc + 3) lv [.int (am_min x y), .ref z] ws nc ns) : cw_W nL G pc lv [.int y, .int x, .ref z] ws nc ns := by
  obtain ⟨p, l, e, Rm, s, m, args, below, meth, c, Q, D, cs, A⟩ := G
  intro H locs ls hP hD hS hl
  exact va_mmin (rest := [.ref z]) hO.1 hO.2.1 (hO.2.2.1.trans hl.1.symm) hO.2.2.2.1 (hO.2.2.2.2.1 _ (am_word (hf.2.1 _ rfl) rfl)) (hO.2.2.2.2.1 _ am_mw.2.1) (hO.2.2.2.2.1 _ am_mw.2.2.2.1) (hO.2.2.2.2.1 _ am_mw.2.2.2.2.2.1) hfr (Nat.le_trans (Nat.le_of_ble_eq_true rfl) hlo) hc hs hf.1 (kk H locs ls hP hD hS hl)
theorem cr_ist (hO : cw_Ok cc nL own G) (n : Fin 4) {x : Int32} (hn : (n : Nat) < nL) (hf : am_fit cc pc [(.istore_n n, 1, none)]) (kk : cw_W nL G (pc + 1) (((n : Nat), Value.int x) :: lv.filter (fun q => !(q.1 == (n : Nat)) && !(q.1 + 1 == (n : Nat) && q.2.category == 2))) st ws nc ns) : cw_W nL G pc lv (.int x :: st) ws nc ns := by
  obtain ⟨p, l, e, Rm, s, m, args, below, meth, c, Q, D, cs, A⟩ := G
  intro H locs ls hP hD hS hl
  exact lv_istore_n hO.1 hO.2.1 hf.1 rfl hl hn rfl (fun ls' hl' => kk H locs ls' hP hD hS hl')
theorem cr_inc (hO : cw_Ok cc nL own G) (i k : Nat) (n : Int) {x v : Int32} (hk : lv[k]? = some (i, .int x)) (hv : x + Int32.ofInt n = v) (hn : i < nL) (hf : am_fit cc pc [(.iinc i n, 3, none)]) (kk : cw_W nL G (pc + 3) ((i, Value.int v) :: lv.filter (fun q => !(q.1 == i) && !(q.1 + 1 == i && q.2.category == 2))) st ws nc ns) : cw_W nL G pc lv st ws nc ns := by
  obtain ⟨p, l, e, Rm, s, m, args, below, meth, c, Q, D, cs, A⟩ := G
  intro H locs ls hP hD hS hl
  exact lv_iinc hO.1 hO.2.1 hf.1 hl hk hv hn rfl (fun ls' hl' => kk H locs ls' hP hD hS hl')
theorem cr_goto (hO : cw_Ok cc nL own G) {off : Int} (tgt : Nat) (ht : (pc : Int) + off = (tgt : Int)) (hf : am_fit cc pc [(.goto off, 3, none)]) (kk : cw_W nL G tgt lv st ws nc ns) : cw_W nL G pc lv st ws nc ns := by
  obtain ⟨p, l, e, Rm, s, m, args, below, meth, c, Q, D, cs, A⟩ := G
  intro H locs ls hP hD hS hl
  exact lv_goto hO.1 hO.2.1 hf.1 ht (kk H locs ls hP hD hS hl)
/-- if_icmpge that is decided -/
theorem cr_geT (hO : cw_Ok cc nL own G) {off : Int} {x y : Int32} (tgt : Nat) (h : y ≤ x) (ht : (pc : Int) + off = (tgt : Int)) (hf : am_fit cc pc [(.if_icmp .ge off, 3, none)]) (kk : cw_W nL G tgt lv st ws nc ns) : cw_W nL G pc lv (.int y :: .int x :: st) ws nc ns := by
  obtain ⟨p, l, e, Rm, s, m, args, below, meth, c, Q, D, cs, A⟩ := G
  intro H locs ls hP hD hS hl
  exact lv_icmp_ge hO.1 hO.2.1 hf.1 ht (fun _ => kk H locs ls hP hD hS hl) (fun h9 => absurd h h9)
theorem cr_geF (hO : cw_Ok cc nL own G) {off : Int} {x y : Int32} (tgt : Nat) (h : ¬ y ≤ x) (ht : (pc : Int) + off = (tgt : Int)) (hf : am_fit cc pc [(.if_icmp .ge off, 3, none)]) (kk : cw_W nL G (pc + 3) lv st ws nc ns) : cw_W nL G pc lv (.int y :: .int x :: st) ws nc ns := by
  obtain ⟨p, l, e, Rm, s, m, args, below, meth, c, Q, D, cs, A⟩ := G
  intro H locs ls hP hD hS hl
  exact lv_icmp_ge hO.1 hO.2.1 hf.1 ht (fun h9 => absurd h9 h) (fun _ => kk H locs ls hP hD hS hl)
theorem cr_iast (hO : cw_Ok cc nL own G) (k : Nat) {a n : Nat} {f : Nat → Int32} {i x : Int32} (hk : ws[k]? = some (a, cw_ia G.2.2.2.2.2.2.2.2.2.2.2.2.1 n f)) (hi : vp_in i n) (hf : am_fit cc pc [(.iastore, 1, none)]) (kk : cw_W nL G (pc + 1) lv st (ws.set k (a, cw_ia G.2.2.2.2.2.2.2.2.2.2.2.2.1 n (upd f i.toNatClampNeg x))) nc ns) : cw_W nL G pc lv (.int x :: .int i :: .ref a :: st) ws nc ns := by
  obtain ⟨p, l, e, Rm, s, m, args, below, meth, c, Q, D, cs, A⟩ := G
  intro H locs ls hP hD hS hl
  exact va_iast (tys := am_ty cs) hO.1 hO.2.1 hO.2.2.2.2.2.2.1 hP hD hS k 0 hk rfl hi hf.1 (fun H1 locs1 hP1 hD1 hS1 => kk H1 locs1 ls hP1 hD1 hS1 hl)
theorem cr_qast (hO : cw_Ok cc nL own G) (k kv t cj : Nat) {a n v : Nat} {vs : List Value} {f : Nat → Option Nat} {i : Int32} (ht : (am_ty G.2.2.2.2.2.2.2.2.2.2.2.2.1)[t]? = some (G.2.2.2.2.2.2.2.2.2.2.2.2.1 t, .object (am_cn cj).1)) (hcj : vwCl[cj]? = some (am_cn cj)) (hk : ws[k]? = some (a, cw_qa G.2.2.2.2.2.2.2.2.2.2.2.2.1 t n f)) (hv : ws[kv]? = some (v, .inr (cj, vs))) (hi : vp_in i n) (hf : am_fit cc pc [(.aastore, 1, none)]) (kk : cw_W nL G (pc + 1) lv st (ws.set k (a, cw_qa G.2.2.2.2.2.2.2.2.2.2.2.2.1 t n (va_up f i.toNatClampNeg (some v)))) nc ns) : cw_W nL G pc lv (.ref v :: .int i :: .ref a :: st) ws nc ns := by
  obtain ⟨p, l, e, Rm, s, m, args, below, meth, c, Q, D, cs, A⟩ := G
  intro H locs ls hP hD hS hl
  exact va_astq (tys := am_ty cs) (r := am_cn cj) hO.1 hO.2.1 hO.2.2.2.2.2.2.1 hP hD hS k t kv cj hk ht hv hcj hi hf.1 (fun H1 locs1 hP1 hD1 hS1 => kk H1 locs1 ls hP1 hD1 hS1 hl)
end CWR
/-! a constructor's contract -/
def cw_rm (d mc ms : Nat) : Room := { frames := d, cells := mc, slots := ms, locals := 64 * d }
def cw_Pu (D : va_G) (cs : Nat → ClassId) (sz : Nat) (w0 : va_W) : State → Prop := fun U => U.heap.size = sz ∧ va_P D vwCl w0 U.heap ∧ va_K D vwCl (am_ty cs) U ∧ va_D (fun _ => True) w0 ∧ (∀ w ∈ am_ne, va_Nw w U) ∧ cw_Ao U
def cw_Q (D : va_G) (Post : va_W → Prop) (A : Nat → Prop) : Array Value → State → Outcome → State → Prop := fun _ st o t => o = .returned none ∧ (∃ ws, Post ws ∧ va_P D vwCl ws t.heap ∧ va_D A ws) ∧ va_F A st t
def cw_Sd (y : MethodName) (cc : ByteArray) (nL d mc ms ci : Nat) (fs0 : List Value) (as : List Int32) (Post : (Nat → ClassId) → Nat → va_W → Prop) : Prop :=
  ∀ (l : Launch) (D : va_G) (cs : Nat → ClassId) (q sz : Nat), Met l y (Jvm.Cond.code y cc nL none :: am_tb) (cw_rm d mc ms) (va_Pc (.ref q :: as.map .int) (cw_Pu D cs sz [(q, .inr (ci, fs0))])) (cw_Q D (Post cs q) (va_A [(q, .inr (ci, fs0))] sz)) mc ms (va_A [(q, .inr (ci, fs0))] sz)
theorem cw_Ao.moved {u U : State} (hvm : u.vm.Alike U.vm) (h : cw_Ao u) : cw_Ao U := ⟨va_AO.moved hvm h.1, va_AO.moved hvm h.2⟩
theorem cw_blind {D : va_G} {cs : Nat → ClassId} {sz : Nat} {w0 : va_W} {av : List Value} : FrameBlind (va_Pc av (cw_Pu D cs sz w0)) := by
  intro a U g mk q
  obtain ⟨q0, q1, qP, qK, qD, qN, qA⟩ := q
  exact ⟨q0, q1, qP, va_K.moved (u := U) (U := U.calling g mk a) (Vm.Alike.refl U.vm) qK, qD, fun w hw => va_Nw.same (am_isN_on (List.mem_filter.mp hw).2) (u := U) rfl (qN w hw), cw_Ao.moved (u := U) (U := U.calling g mk a) (Vm.Alike.refl U.vm) qA⟩
theorem va_P_app {D : va_G} {cl : List vw_C} {a b : va_W} {H : Heap} (h : va_P D cl (a ++ b) H) : va_P D cl a H ∧ va_P D cl b H := by
  refine ⟨fun k q hk => h k q ?_, fun k q hk => h (a.length + k) q ?_⟩
  · rw [List.getElem?_append_left (List.getElem?_eq_some_iff.mp hk).1]; exact hk
  · rw [List.getElem?_append_right (by omega), Nat.add_sub_cancel_left]; exact hk
theorem va_D_app {A : Nat → Prop} {a b : va_W} (h : va_D A (a ++ b)) : va_D A a ∧ va_D A b ∧ ∀ (i j : Nat) (p q : Nat × va_E), a[i]? = some p → b[j]? = some q → p.1 ≠ q.1 := by
  have L : ∀ {i : Nat} {p : Nat × va_E}, a[i]? = some p → (a ++ b)[i]? = some p := fun h => by rw [List.getElem?_append_left (List.getElem?_eq_some_iff.mp h).1]; exact h
  have Rr : ∀ {i : Nat} {p : Nat × va_E}, b[i]? = some p → (a ++ b)[a.length + i]? = some p := fun h => by rw [List.getElem?_append_right (by omega), Nat.add_sub_cancel_left]; exact h
  refine ⟨⟨fun i j p q hi hj he => h.1 i j p q (L hi) (L hj) he, fun k q hk => h.2 k q (L hk)⟩, ⟨fun i j p q hi hj he => ?_, fun k q hk => h.2 _ q (Rr hk)⟩, fun i j p q hi hj he => ?_⟩
  · have := h.1 _ _ p q (Rr hi) (Rr hj) he
    omega
  · have h1 := h.1 _ _ p q (L hi) (Rr hj) he
    have h2 := (List.getElem?_eq_some_iff.mp hi).1
    omega
section CWC
variable {cc : ByteArray} {nL : Nat} {own : String} {G : cw_G} {pc nc ns : Nat} {lv : List (Nat × Value)} {st : List Value} {ws : va_W}
/-- a call of a constructor on the cell made last -/
theorem cr_call (hO : cw_Ok cc nL own G) {y : MethodName} {cb : ByteArray} {nb d mc ms cj n : Nat} {fs0 : List Value} {as : List Int32} {Post : (Nat → ClassId) → Nat → va_W → Prop} (hM : cw_Sd y cb nb d mc ms cj fs0 as Post) (hy : am_Ky y cb nb none n) (hin : Jvm.Cond.instanceMethod y ∈ am_tb) (hn : as.length = n) (hy1 : y.name = "<init>") (idx q0 : Nat) (host : Option String) {q : Nat} (hfr : d + 1 ≤ G.2.2.2.1.frames) (hlo : 64 * (d + 1) ≤ G.2.2.2.1.locals) (hc : nc + mc ≤ G.2.2.2.1.cells) (hs : ns + ms ≤ G.2.2.2.1.slots) (hst : (st.map fun v => v.category).sum ≤ 8) (hf : am_fit cc pc [(.invokespecial idx, 3, some (q0, am_lk own idx y host))])
    (kk : ∀ w1 : va_W, Post G.2.2.2.2.2.2.2.2.2.2.2.2.1 q w1 → cw_W nL G (pc + 3) lv st (ws ++ w1) (nc + mc) (ns + ms)) : cw_W nL G pc lv ((as.map Value.int).reverse ++ .ref q :: st) (ws ++ [(q, .inr (cj, fs0))]) nc ns := by
  obtain ⟨p, l, e, Rm, s, m, args, below, meth, c, Q, D, cs, A⟩ := G
  intro H locs ls hP hD hS hl
  obtain ⟨hO1, hO2, hO3, hO4, hO5, hO5n, hO6, hO7, hO8, hO9⟩ := hO
  obtain ⟨k1, k2, k3, k4⟩ := hy
  obtain ⟨hPa, hPb⟩ := va_P_app hP
  obtain ⟨hDa, hDb, hap⟩ := va_D_app hD
  have hR : (cw_rm d mc ms).frames + 1 ≤ Rm.frames ∧ 8 + (nb + 11) + (cw_rm d mc ms).locals ≤ Rm.locals := by
    refine ⟨hfr, Nat.le_trans ?_ hlo⟩
    show 8 + (nb + 11) + 64 * d ≤ 64 * (d + 1)
    omega
  have hA1 : ∀ x, va_A [(q, .inr (cj, fs0))] H.size x → A x := by
    intro x hx
    rcases hx with ⟨k, e9, h9⟩ | h9
    · exact hDb.2 k (x, e9) h9
    · exact hO7 x (Nat.le_trans hS.1 h9)
  have hM' := hM l D cs q H.size
  have hpre : ∀ U : State, U.heap = H → s.WarmedH U.vm → va_Pc (.ref q :: as.map Value.int) (cw_Pu D cs H.size [(q, .inr (cj, fs0))]) (Value.ref q :: as.map Value.int).toArray U := fun U hU hW => ⟨rfl, by rw [hU], by rw [hU]; exact hPb, va_K.moved hW.alike hO6, hDb.weaken (fun _ _ _ _ => trivial), am_ne_moved hW hO5n, cw_Ao.moved hW.alike hO9⟩
  have hgo : ∀ hr : va_Run p l e Rm s m args below meth c H locs nc ns mc ms (F0 m pc ls ((as.map Value.int).reverse ++ .ref q :: st)) st (cw_Q D (Post cs q) (va_A [(q, .inr (cj, fs0))] H.size) (Value.ref q :: as.map Value.int).toArray) (va_A [(q, .inr (cj, fs0))] H.size), W p l e Rm s m args below meth c H locs nc ns Q (F0 m pc ls ((as.map Value.int).reverse ++ .ref q :: st)) := by
    intro hr T hT X
    obtain ⟨v, st₀, t, T', L, h0, X', hL, e1, e2, ⟨hv, ⟨w1, hpost, hp1, hd1⟩, hz, hk⟩, stp⟩ := hr T hT X
    cases hv
    rw [h0] at hz hk
    have hkeep : va_P D vwCl ws T'.heap := by
      refine hPa.kept (fun k x hx => ?_)
      have hlt := (hPa k x hx).lt
      rw [e1]
      refine hk x.1 hlt ?_
      rintro (⟨k9, e9, h9⟩ | h9)
      · exact hap k k9 x (x.1, e9) hx h9 rfl
      · omega
    have hDw : va_D A (ws ++ w1) := by
      refine va_D.app hDa (hd1.weaken (fun k x _ h => hA1 x.1 h)) (fun i j x y hx hy hxy => ?_)
      have hlt := (hPa i x hx).lt
      have h8 := hd1.2 j y hy
      rw [← hxy] at h8
      rcases h8 with ⟨k9, e9, h9⟩ | h9
      · exact hap i k9 x (x.1, e9) hx h9 rfl
      · omega
    obtain ⟨t2, a1, b1⟩ := kk w1 hpost T'.heap (locs ++ L) ls (hkeep.app (by rw [e1]; exact hp1)) hDw
      ⟨Nat.le_trans hS.1 (by rw [e1]; exact hz), fun x h1 h2 => by rw [e1, hk x (Nat.lt_of_lt_of_le h1 hS.1) (fun z => h2 (hA1 x z))]; exact hS.2.1 x h1 h2, fun x hx => by
        rcases List.mem_append.mp hx with h | h
        · exact hS.2.2 x h
        · exact hA1 _ (hL x h)⟩ hl T' rfl X'
    exact ⟨t2, stp t2 a1, b1⟩
  apply hgo
  cases host with
  | none => exact va_runI (b := q) (As := as.map Value.int) (rest := st) ⟨hO1, hO2, hO3, hO4, hO5⟩ hM' ⟨callB_of n hO5 (am_good k1) rfl rfl rfl (hO5 _ k2) (hO5 _ (am_word (hf.2.1 _ rfl) rfl)) k3 hR, hy1, hO5 _ hin⟩ ⟨cw_blind, hpre⟩ rfl (by rw [List.length_map]; exact hn) hl.1 rfl (lv_room hst) hf.1 ⟨hc, hs⟩
  | some host => exact va_runIN (b := q) (As := as.map Value.int) (rest := st) ⟨hO1, hO2, hO3, hO4, hO5⟩ hM' ⟨va_cnB n hO5 (am_good k1) rfl rfl rfl (hO5n _ (am_wordN (hf.2.1 _ rfl) rfl)) (hO5 _ k2) k3 hR, hy1, hO5 _ hin⟩ ⟨cw_blind, hpre⟩ rfl (by rw [List.length_map]; exact hn) hl.1 rfl (lv_room hst) hf.1 ⟨hc, hs⟩
/-- a constructor's contract out of its walk -/
theorem cw_meth {y : MethodName} {nb d mc ms ci : Nat} {fs0 : List Value} {as : List Int32} {Post : (Nat → ClassId) → Nat → va_W → Prop} (hy : plainName y.cls = true) (hyn : y.name = "<init>") (hlen : 1 + as.length ≤ nb)
    (body : ∀ (G : cw_G) (q : Nat), cw_Ok cc nb y.cls G → G.2.2.2.1 = cw_rm d mc ms → (∀ (pc : Nat) (lv : List (Nat × Value)) (ws : va_W), am_fit cc pc [(.return_, 1, none)] → Post G.2.2.2.2.2.2.2.2.2.2.2.2.1 q ws → cw_W nb G pc lv [] ws mc ms) → cw_W nb G 0 (lv_args 0 (.ref q :: as.map Value.int)) [] [(q, .inr (ci, fs0))] 0 0) : cw_Sd y cc nb d mc ms ci fs0 as Post := by
  intro l D cs q sz
  refine Met.ofW (cc := cc) (maxL := nb) (ret := none) hy rfl ?_
  intro p e s m args below meth c s₁ B hml hv
  obtain ⟨rfl, hsz, hP, hK, hD0, hN, hAo⟩ := hv
  have hx := B.exec
  have hb := B.bytes
  have hrt := B.returns
  have hts := atoms_spec (ws := Jvm.Cond.code y cc nb none :: am_tb) B.pre
  have hown : s.vm.findClass y.cls = some m.cls := findClass_of_methodNamed B.named
  have hlocks := B.notSynchronized
  have hin : meth.name = "<init>" := (name_of_methodNamed B.named B.method).1.trans hyn
  subst hsz
  have hD := hD0.self (sz := s.heap.size)
  generalize hAe : va_A [(q, .inr (ci, fs0))] s.heap.size = A at hD ⊢
  have hA : ∀ q : Nat, s.heap.size ≤ q → A q := fun q h => by rw [← hAe]; exact Or.inr h
  have hS : va_S A s.heap s.heap [] := va_S.rf
  have hsl : ∀ as : List Int32, (lg_sl (as.map Value.int)).length = as.length := by
    intro as
    induction as with
    | nil => rfl
    | cons a t ih =>
      have hc : ∀ (v : Value) (vs : List Value), lg_sl (v :: vs) = (if v.category = 2 then [.val v, .second] else [.val v]) ++ lg_sl vs := fun v vs => by unfold lg_sl; rw [List.flatMap_cons]
      rw [List.map_cons, hc, List.length_append, ih]
      simp [Value.category]
      omega
  have hl := lv_entry (.ref q :: as.map Value.int) (n := nb) (by
    have hc : ∀ (v : Value) (vs : List Value), lg_sl (v :: vs) = (if v.category = 2 then [.val v, .second] else [.val v]) ++ lg_sl vs := fun v vs => by unfold lg_sl; rw [List.flatMap_cons]
    rw [hc, List.length_append, hsl]
    simp [Value.category]
    omega)
  rw [lg_entry_eq]
  generalize (lg_sl (.ref q :: as.map Value.int) ++ List.replicate (nb - (lg_sl (.ref q :: as.map Value.int)).length) Slot.unset).toArray = ls at hl ⊢
  refine body (p, l, e, cw_rm d mc ms, s, m, (.ref q :: as.map Value.int).toArray, below, meth, c, MQ below (cw_Q D (Post cs q) A) (.ref q :: as.map Value.int).toArray s mc ms A, D, cs, A) q ⟨hx, hb, hml, hown, fun w hw => hts w (List.mem_cons_of_mem _ hw), hN, hK, hA, fun _ => hin, hAo⟩ rfl ?_ s.heap [] ls hP hD hS hl
  intro pc lv ws hf hpost H locs ls hP hD hS hl
  exact W.vret hx hb hrt (fun t ht _ => ⟨rfl, ⟨ws, hpost, by rw [ht]; exact hP, hD⟩, hS.F ht⟩) hS.2.2 hf.1
end CWC
