/-! THE LAW FROM ITS ENTRY, given related memories -/
theorem st_iw : (vwCl.all fun q => decide (Jvm.Cond.instantiable q.1 q.2.2 ∈ lw_tbl)) = true := by decide +kernel
theorem st_aw : Jvm.Cond.arrayOver (.object "WrackDeeds$Hanging") ∈ lw_tbl ∧ Jvm.Cond.arrayOver (.object "WrackDeeds$Sheet") ∈ lw_tbl := by decide +kernel
theorem st_K {s : State} {args : Array Value} (hts : ∀ w ∈ lw_tbl, w.before args s = true) : ∃ (D : va_G) (cs : Nat → ClassId), va_K D vwCl (am_ty cs) s := by
  have htb : ∀ w ∈ am_tb, w.before args s = true := fun w hw => hts w (am_tb_in hw)
  have h1 : ∀ c : Nat, ∃ p : ClassId × (Nat → Nat), ∀ q : vw_C, vwCl[c]? = some q → u_Kn s q.1 q.2.1 q.2.2 p.1 p.2 := by
    intro c
    cases hc : vwCl[c]? with
    | none => exact ⟨(0, fun _ => 0), fun q hq => by cases hq⟩
    | some q =>
      have hi := List.all_eq_true.mp st_iw q (List.mem_of_getElem? hc)
      obtain ⟨cC, iS, hk⟩ := u_known (C := q.1) (T := q.2.1) (N := q.2.2) (n := q.2.2) htb (am_uwi hc) (hts _ (by simpa using hi))
      exact ⟨(cC, iS), fun q' hq' => by cases hq'; exact hk⟩
  obtain ⟨g, hg⟩ := Classical.axiomOfChoice h1
  obtain ⟨cI, kI, compI, i1, i2, i3⟩ := Cond.arrayClass_spec (hts _ (am_tb_in cr_iaw))
  obtain ⟨compH, cH, kH, a1, -, a3, a4, a5⟩ := Cond.arrayOver_spec (hts _ st_aw.1)
  obtain ⟨compS, cS, kS, b1, -, b3, b4, b5⟩ := Cond.arrayOver_spec (hts _ st_aw.2)
  refine ⟨(fun c => (g c).1, fun c => (g c).2), fun k => if k = 0 then cI else if k = 1 then cH else cS, fun c q hq => hg c q hq, fun k q hq => ?_⟩
  match k, hq with
  | 0, hq => cases hq; exact ⟨fun n z => ⟨fun k h => (by cases h), kI, i2, compI, i3⟩, i1⟩
  | 1, hq => cases hq; exact ⟨fun n z => ⟨fun k h => (by cases h), kH, a3, compH, a4⟩, kH, compH, a3, a4, a1, a5⟩
  | 2, hq => cases hq; exact ⟨fun n z => ⟨fun k h => (by cases h), kS, b3, compS, b4⟩, kS, compS, b3, b4, b1, b5⟩
  | n + 3, hq => cases hq
theorem cr_ast {cc : ByteArray} {nL : Nat} {own : String} {G : cw_G} {pc nc ns : Nat} {lv : List (Nat × Value)} {st : List Value} {ws : va_W} (hO : cw_Ok cc nL own G) (n : Fin 4) {x : Nat} (hn : (n : Nat) < nL) (hf : am_fit cc pc [(.astore_n n, 1, none)]) (kk : cw_W nL G (pc + 1) (((n : Nat), Value.ref x) :: lv.filter (fun q => !(q.1 == (n : Nat)) && !(q.1 + 1 == (n : Nat) && q.2.category == 2))) st ws nc ns) : cw_W nL G pc lv (.ref x :: st) ws nc ns := by
  obtain ⟨p, l, e, Rm, s, m, args, below, meth, c, Q, D, cs, A⟩ := G
  intro H locs ls hP hD hS hl
  exact lv_astore_n hO.1 hO.2.1 hf.1 rfl hl hn rfl (fun ls' hl' => kk H locs ls' hP hD hS hl')
theorem st_walk {b : Nat} (G : cw_G) (hO : cw_Ok code 4 RL G) (hR : G.2.2.2.1 = room_1) (kk : ∀ adX adM : Nat → Nat, cw_W 4 G 18 [(3, .int (nI 0)), (2, .ref (adM 0)), (1, .ref (adX 0)), (0, .ref b)] [] (am_wl ShX adX G.2.2.2.2.2.2.2.2.2.2.2.2.1 mX0 ++ am_wl ShM adM G.2.2.2.2.2.2.2.2.2.2.2.2.1 mM0) 130 4936) : cw_W 4 G 0 [(0, .ref b)] [] [] 0 0 := by
  refine cr_new hO 7 94 10 rfl kn_X10_init kz_X10_init [.null, .null, .null, .null, .null, .null, .null, .null, .null, .null, .null, .null, .null, .null, .null, .int 0, .int 0] tyX10 tyX10_ok kd_X10_init (by rw [hR]; decide) (by rw [hR]; decide) (am_fb_ok (by decide +kernel)) (fun qx => ?_)
  refine cr_dup hO (am_fb_ok (by decide +kernel)) ?_
  refine cr_call hO cs_X10_init ky_X10_init ki_X10_init rfl rfl 9 96 none (as := []) (st := [.ref qx]) (by rw [hR]; decide) (by rw [hR]; decide) (by rw [hR]; decide) (by rw [hR]; decide) (Nat.le_of_ble_eq_true rfl) (am_fb_ok (by decide +kernel)) (fun w1 hw1 => ?_)
  obtain ⟨adX, hadX, ew1⟩ := in_X10 hw1
  refine cr_ast hO 1 (by decide) (am_fb_ok (by decide +kernel)) ?_
  refine cr_new hO 10 874 11 rfl kn_X11_init kz_X11_init [.null, .null, .null, .null, .int 0, .null, .null, .int 0, .null, .null, .null, .null, .null, .int 0, .null, .int 0, .null, .null, .null, .null, .null, .null, .int 0, .null, .null, .null, .null, .int 0, .int 0, .null, .null, .int 0, .null, .null, .int 0, .null] tyX11 tyX11_ok kd_X11_init (by rw [hR]; decide) (by rw [hR]; decide) (am_fb_ok (by decide +kernel)) (fun qm => ?_)
  refine cr_dup hO (am_fb_ok (by decide +kernel)) ?_
  refine cr_call hO cs_X11_init ky_X11_init ki_X11_init rfl rfl 12 876 none (as := []) (st := [.ref qm]) (by rw [hR]; decide) (by rw [hR]; decide) (by rw [hR]; decide) (by rw [hR]; decide) (Nat.le_of_ble_eq_true rfl) (am_fb_ok (by decide +kernel)) (fun w2 hw2 => ?_)
  obtain ⟨adM, hadM, ew2⟩ := in_X11 hw2
  refine cr_ast hO 2 (by decide) (am_fb_ok (by decide +kernel)) ?_
  refine cr_ic hO 0 (nI 0) (by decide) (am_fb_ok (by decide +kernel)) ?_
  refine cr_ist hO 3 (by decide) (am_fb_ok (by decide +kernel)) ?_
  have k2 := kk adX adM
  rw [hadX, hadM, ← ew1, ← ew2] at k2
  rw [List.nil_append]
  exact k2
theorem whole_open {Rel : am_M → am_M → Prop} (hop : lw_All Rel) (hR0 : Rel mX0 mM0) {p : Program} {e : Env} {s : State} {m : MethodId} {below : List Frame} {meth : Method} {c : Code} (l : Launch) {b L : Nat} {xs : Nat → Int32} (hL : L ≤ 384) (C0 : lw_At p s m meth c b L xs) : W p l e room_1 s m #[Value.ref b] below meth c s.heap [] 0 0 (lw_Z below #[Value.ref b] s) (entryFrame m ([Value.ref b] : List Value).toArray 4) := by
  obtain ⟨hx, hb, hr, hml, hown, hts, hX, hbl, hlocks, hgv⟩ := id C0
  obtain ⟨D, cs, hK⟩ := st_K hts
  have hN : ∀ w ∈ am_ne, va_Nw w s := fun w hw => va_Nw.of (am_isN_on (List.mem_filter.mp hw).2) (hts w (List.mem_filter.mp hw).1)
  have hO : cw_Ok code 4 RL (p, l, e, room_1, s, m, #[Value.ref b], below, meth, c, lw_Z below #[Value.ref b] s, D, cs, fun q : Nat => s.heap.size ≤ q) := ⟨hx, hb, hml, hown, fun w hw => hts w (am_tb_in hw), hN, hK, fun _ h => h, fun h => absurd rfl h, va_AO.of (hts _ st_aw.1), va_AO.of (hts _ st_aw.2)⟩
  have hl := lv_entry ([.ref b]) (n := 4) (Nat.le_of_ble_eq_true rfl)
  rw [lg_entry_eq]
  generalize (lg_sl ([.ref b]) ++ List.replicate (4 - (lg_sl ([.ref b])).length) Slot.unset).toArray = ls at hl ⊢
  have hl : lv_has ls 4 [(0, .ref b)] := hl
  have hP0 : va_P D vwCl [] s.heap := fun k q hk => by simp at hk
  have hD0 : va_D (fun q : Nat => s.heap.size ≤ q) [] := ⟨fun i j x y hi => by simp at hi, fun k q hk => by simp at hk⟩
  refine st_walk (b := b) _ hO rfl ?_ s.heap [] ls hP0 hD0 va_S.rf hl
  intro adX adM H locs ls hP hD hS hl
  obtain ⟨hPX, hPM⟩ := va_P_app hP
  obtain ⟨hDX, hDM, hap⟩ := va_D_app hD
  have hapt : am_apart ShX ShM adX adM := by
    intro i j hi hj
    obtain ⟨x, hx⟩ : ∃ x, ShX[i]? = some x := ⟨_, List.getElem?_eq_getElem hi⟩
    obtain ⟨y, hy⟩ : ∃ y, ShM[j]? = some y := ⟨_, List.getElem?_eq_getElem hj⟩
    exact hap i j _ _ (am_wl_get hx) (am_wl_get hy)
  have C : lw_C p s m meth c b L xs D cs adX adM 130 4936 := ⟨C0, hL, hK, am_wl_D hDX, am_wl_D hDM, hapt, by decide, by decide⟩
  exact lw_loop C hop (L + 1) 0 mX0 mM0 (by decide) (by omega) hR0 H locs ls hPX hPM hS (lv_sub hl [3, 2, 1, 0] rfl)
