/-! CONTRACTS AND CALLS -/
def am_rm (d : Nat) : Room := { frames := d, cells := 0, slots := 0, locals := 64 * d }
def am_Q (Sh : List am_SC) (D : va_G) (cs : Nat → ClassId) (ad : Nat → Nat) (r : Option AV) (μ' : am_M) (A : Nat → Prop) : Array Value → State → Outcome → State → Prop := fun _ st o t => o = .returned (r.map (am_cv ad)) ∧ va_P D vwCl (am_wl Sh ad cs μ') t.heap ∧ va_F A st t
def am_Pu (Sh : List am_SC) (D : va_G) (cs : Nat → ClassId) (ad : Nat → Nat) (sz : Nat) (μ : am_M) : State → Prop := fun U => U.heap.size = sz ∧ va_P D vwCl (am_wl Sh ad cs μ) U.heap ∧ va_K D vwCl (am_ty cs) U ∧ va_D (fun _ => True) (am_wl Sh ad cs μ) ∧ ∀ w ∈ am_ne, va_Nw w U
/-- a method does what the function f says: its answer, and the memory behind it -/
def am_Sd (Sh : List am_SC) (y : MethodName) (cc : ByteArray) (nL : Nat) (ret : Option FieldType) (d : Nat) (f : List AV → am_M → Option (Option AV × am_M)) : Prop :=
  ∀ (l : Launch) (D : va_G) (cs : Nat → ClassId) (ad : Nat → Nat) (sz : Nat) (as : List AV) (μ : am_M) (r : Option AV) (μ' : am_M), f as μ = some (r, μ') → Met l y (Jvm.Cond.code y cc nL ret :: am_tb) (am_rm d) (va_Pc (as.map (am_cv ad)) (am_Pu Sh D cs ad sz μ)) (am_Q Sh D cs ad r μ' (va_A (am_wl Sh ad cs μ) sz)) 0 0 (va_A (am_wl Sh ad cs μ) sz)
theorem am_isN_on {w : Jvm.Cond} (h : am_isN w = true) : w.onTables = true := by
  cases w <;> first | rfl | (simp [am_isN] at h)
theorem am_ne_moved {s U : State} (hW : s.WarmedH U.vm) (h : ∀ w ∈ am_ne, va_Nw w s) : ∀ w ∈ am_ne, va_Nw w U := by
  intro w hw
  have h1 := h w hw
  have h2 := (List.mem_filter.mp hw).2
  cases w <;> first | (simp [am_isN] at h2; done) | exact va_Nw.warmM hW h1
theorem am_blind {Sh : List am_SC} {D : va_G} {cs : Nat → ClassId} {ad : Nat → Nat} {sz : Nat} {μ : am_M} {av : List Value} : FrameBlind (va_Pc av (am_Pu Sh D cs ad sz μ)) := by
  intro a U g mk q
  obtain ⟨q0, q1, qP, qK, qD, qN⟩ := q
  exact ⟨q0, q1, qP, va_K.moved (u := U) (U := U.calling g mk a) (Vm.Alike.refl U.vm) qK, qD, fun w hw => va_Nw.same (am_isN_on (List.mem_filter.mp hw).2) (u := U) rfl (qN w hw)⟩
theorem am_pre {Sh : List am_SC} {D : va_G} {cs : Nat → ClassId} {ad : Nat → Nat} {μ : am_M} {A : Nat → Prop} {s : State} {H : Heap} {av : List Value} (hK : va_K D vwCl (am_ty cs) s) (hP : va_P D vwCl (am_wl Sh ad cs μ) H) (hD : va_D A (am_wl Sh ad cs μ)) (hN : ∀ w ∈ am_ne, va_Nw w s) : ∀ U : State, U.heap = H → s.WarmedH U.vm → va_Pc av (am_Pu Sh D cs ad H.size μ) av.toArray U := fun U hU hW => ⟨rfl, by rw [hU], by rw [hU]; exact hP, va_K.moved hW.alike hK, hD.weaken (fun _ _ _ _ => trivial), am_ne_moved hW hN⟩
section AMGO
variable {p : Program} {l : Launch} {e : Env} {R : Room} {s : State} {m : MethodId} {args : Array Value} {below : List Frame} {meth : Method} {c : Code} {H : Heap} {locs : List Loc} {cells slots : Nat} {Q : State → Prop}
theorem am_go {Sh : List am_SC} {D : va_G} {cs : Nat → ClassId} {ad : Nat → Nat} {r : Option AV} {μ' : am_M} {A0 A1 : Nat → Prop} {H0 : Heap} {pc : Nat} {ls : Array Slot} {rest st0 : List Value} {a : Array Value} {free : Addr → Prop}
    (hr : va_Run p l e R s m args below meth c H locs cells slots 0 0 (F0 m pc ls st0) rest (am_Q Sh D cs ad r μ' A1 a) free) (hS : va_S A0 H0 H locs) (hA : ∀ q, A1 q → A0 q) (hf : ∀ q, free q → A0 q)
    (kk : ∀ (H1 : Heap) (locs1 : List Loc), va_P D vwCl (am_wl Sh ad cs μ') H1 → va_S A0 H0 H1 locs1 → W p l e R s m args below meth c H1 locs1 cells slots Q (F0 m (pc + 3) ls ((r.map (am_cv ad)).toList ++ rest))) : W p l e R s m args below meth c H locs cells slots Q (F0 m pc ls st0) := by
  intro T hT X
  obtain ⟨v, st₀, t, T', L, h0, X', hL, e1, e2, ⟨hv, hp, hz, hk⟩, st⟩ := hr T hT X
  cases hv
  rw [h0] at hz hk
  obtain ⟨t2, a1, b1⟩ := kk T'.heap (locs ++ L) (by rw [e1]; exact hp)
    ⟨Nat.le_trans hS.1 (by rw [e1]; exact hz), fun q h1 h2 => by rw [e1, hk q (Nat.lt_of_lt_of_le h1 hS.1) (fun z => h2 (hA q z))]; exact hS.2.1 q h1 h2, fun q hq => by
      rcases List.mem_append.mp hq with h | h
      · exact hS.2.2 q h
      · exact hf _ (hL q h)⟩ T' rfl X'
  exact ⟨t2, st t2 a1, b1⟩
end AMGO
theorem am_room {ad : Nat → Nat} : ∀ {st : List AV}, st.length ≤ 4 → ((st.map (am_cv ad)).map fun v => v.category).sum ≤ 8 := by
  have key : ∀ st : List AV, ((st.map (am_cv ad)).map fun v => v.category).sum ≤ 2 * st.length := by
    intro st
    induction st with
    | nil => exact Nat.le_refl _
    | cons a t ih =>
      have h1 : (am_cv ad a).category ≤ 2 := by rcases lv_cat (am_cv ad a) with h | h <;> omega
      simp only [List.map_cons, List.sum_cons, List.length_cons]
      omega
  intro st h
  have := key st
  omega
/-- what a call needs of the tables of the method that is called -/
def am_Ky (y : MethodName) (cb : ByteArray) (nb : Nat) (ret : Option FieldType) (n : Nat) : Prop := Jvm.Cond.code y cb nb ret ∈ am_tb ∧ Jvm.Cond.initialized y.cls ∈ am_tb ∧ (y.cls ≠ "java/lang/invoke/MethodHandle" ∧ y.cls ≠ "java/lang/invoke/VarHandle" ∧ (parseMethodDescriptor y.desc).map (fun d => d.parameters.length) = some n) ∧ nb ≤ 45
def am_KV (y : MethodName) (ci : Nat) : Prop := Jvm.Cond.instanceMethod y ∈ am_tb ∧ Jvm.Cond.selects y.cls y y ∈ am_tb ∧ ∃ T N, vwCl[ci]? = some (y.cls, T, N)
def am_KS (y : MethodName) : Prop := Jvm.Cond.static y ∈ am_tb
/-- the link of a call: plain, or to a nest mate -/
def am_lk (own : String) (idx : Nat) (y : MethodName) : Option String → Jvm.Cond
  | none => .methodLink own idx y
  | some host => .methodLinkNest own idx y host
def am_ck (Sh : List am_SC) (ci : Nat) (a : AV) : Bool := match a with
  | .inr (.inr (.inl r)) => match Sh[r]? with
    | some (.inr (.inr (c, _))) => c == ci
    | _ => false
  | _ => false
theorem am_ck_ok {Sh : List am_SC} {ci : Nat} {a : AV} (h : am_ck Sh ci a = true) : ∃ r sl, a = vR r ∧ Sh[r]? = some (.inr (.inr (ci, sl))) := by
  unfold am_ck at h
  split at h
  · rename_i r
    split at h
    · rename_i c sl hs
      have hc : c = ci := by simpa using h
      subst hc
      exact ⟨r, sl, rfl, hs⟩
    · cases h
  · cases h
theorem is_callV {S : am_S} {y : MethodName} {cb : ByteArray} {nb n dc ci : Nat} {ret : Option FieldType} {f : List AV → am_M → Option (Option AV × am_M)} (hM : am_Sd S.1 y cb nb ret dc f) (hy : am_Ky y cb nb ret n) (hv : am_KV y ci) (hdc : dc + 1 ≤ S.2.2.2.1) (idx q : Nat) (host : Option String)
    {G : am_G} (hO : am_Ok S G) {pc : Nat} (hf : am_fit S.2.1 pc [(.invokevirtual idx, 3, some (q, am_lk S.2.2.2.2 idx y host))]) {env st as : List AV} {b : AV} {μ μ' : am_M} {r : Option AV} (hn : as.length = n) (hb : am_ck S.1 ci b = true) (hst : st.length ≤ 4) (hw : f (b :: as) μ = some (r, μ')) (k : am_Wn S G (pc + 3) env (r.toList ++ st) μ') : am_Wn S G pc env (as.reverse ++ b :: st) μ := by
  obtain ⟨p, l, e, R, s, m, args, below, meth, c, Q, D, cs, ad, A, nc, ns⟩ := G
  intro H locs ls hP hD hS hl
  obtain ⟨hO1, hO2, hO3, hO4, ⟨hO5, hO5n⟩, hO6, hO7, hO8, hO9, hO10, hO11⟩ := hO
  obtain ⟨br, sl, rfl, hs⟩ := am_ck_ok hb
  obtain ⟨k1, k2, k3, k4⟩ := hy
  obtain ⟨v1, v2, T, N, v3⟩ := hv
  have hA1 := am_wl_A hD hS hO7
  have hR : (am_rm dc).frames + 1 ≤ R.frames ∧ 8 + (nb + 11) + (am_rm dc).locals ≤ R.locals := by
    refine ⟨Nat.le_trans hdc hO8, Nat.le_trans ?_ hO9⟩
    show 8 + (nb + 11) + 64 * dc ≤ 64 * S.2.2.2.1
    omega
  have hstk : ((as.reverse ++ vR br :: st).map (am_cv ad)) = (as.map (am_cv ad)).reverse ++ .ref (ad br) :: st.map (am_cv ad) := by
    rw [List.map_append, List.map_reverse]
    rfl
  have hgo : ∀ hr : va_Run p l e R s m args below meth c H locs nc ns 0 0 (F0 m pc ls ((as.reverse ++ vR br :: st).map (am_cv ad))) (st.map (am_cv ad)) (am_Q S.1 D cs ad r μ' (va_A (am_wl S.1 ad cs μ) H.size) ((vR br :: as).map (am_cv ad)).toArray) (va_A (am_wl S.1 ad cs μ) H.size), W p l e R s m args below meth c H locs nc ns Q (F0 m pc ls ((as.reverse ++ vR br :: st).map (am_cv ad))) := by
    intro hr
    refine am_go hr hS hA1 hA1 (fun H1 locs1 hP1 hS1 => ?_)
    have h1 := k H1 locs1 ls hP1 (am_wl_D hD) hS1 hl
    have h2 : (r.map (am_cv ad)).toList ++ st.map (am_cv ad) = (r.toList ++ st).map (am_cv ad) := by cases r <;> rfl
    rw [h2]
    exact h1
  have hpre := am_pre (av := (vR br :: as).map (am_cv ad)) hO6 hP hD hO5n
  have hrv : ∃ cellB : Cell, H[ad br]? = some cellB ∧ cellB.vm.isStatics = false ∧ s.vm.findClass y.cls = some cellB.cls := va_recv (q := (y.cls, T, N)) hO6 hP v3 (am_wl_get hs)
  have hM' := hM l D cs ad H.size (vR br :: as) μ r μ' hw
  apply hgo
  cases host with
  | none => exact va_runV (C := y.cls) (b := ad br) (As := as.map (am_cv ad)) (rest := st.map (am_cv ad)) ⟨hO1, hO2, hO3, hO4, hO5⟩ hM' ⟨callB_of n hO5 (am_good k1) rfl rfl rfl (hO5 _ k2) (hO5 _ (am_word (hf.2.1 _ rfl) rfl)) k3 hR, hO5 _ v1, hO5 _ v2⟩ ⟨am_blind, hrv, hpre⟩ rfl (by rw [List.length_map]; exact hn) hl.1 hstk (lv_room (am_room hst)) hf.1 ⟨hO10, hO11⟩
  | some host => exact va_runVN (C := y.cls) (b := ad br) (As := as.map (am_cv ad)) (rest := st.map (am_cv ad)) ⟨hO1, hO2, hO3, hO4, hO5⟩ hM' ⟨va_cnB n hO5 (am_good k1) rfl rfl rfl (hO5n _ (am_wordN (hf.2.1 _ rfl) rfl)) (hO5 _ k2) k3 hR, hO5 _ v1, hO5 _ v2⟩ ⟨am_blind, hrv, hpre⟩ rfl (by rw [List.length_map]; exact hn) hl.1 hstk (lv_room (am_room hst)) hf.1 ⟨hO10, hO11⟩
theorem is_callS {S : am_S} {y : MethodName} {cb : ByteArray} {nb n dc : Nat} {ret : Option FieldType} {f : List AV → am_M → Option (Option AV × am_M)} (hM : am_Sd S.1 y cb nb ret dc f) (hy : am_Ky y cb nb ret n) (hv : am_KS y) (hdc : dc + 1 ≤ S.2.2.2.1) (idx q : Nat) (host : Option String)
    {G : am_G} (hO : am_Ok S G) {pc : Nat} (hf : am_fit S.2.1 pc [(.invokestatic idx, 3, some (q, am_lk S.2.2.2.2 idx y host))]) {env st as : List AV} {μ μ' : am_M} {r : Option AV} (hn : as.length = n) (hst : st.length ≤ 4) (hw : f as μ = some (r, μ')) (k : am_Wn S G (pc + 3) env (r.toList ++ st) μ') : am_Wn S G pc env (as.reverse ++ st) μ := by
  obtain ⟨p, l, e, R, s, m, args, below, meth, c, Q, D, cs, ad, A, nc, ns⟩ := G
  intro H locs ls hP hD hS hl
  obtain ⟨hO1, hO2, hO3, hO4, ⟨hO5, hO5n⟩, hO6, hO7, hO8, hO9, hO10, hO11⟩ := hO
  obtain ⟨k1, k2, k3, k4⟩ := hy
  have hA1 := am_wl_A hD hS hO7
  have hR : (am_rm dc).frames + 1 ≤ R.frames ∧ 8 + (nb + 11) + (am_rm dc).locals ≤ R.locals := by
    refine ⟨Nat.le_trans hdc hO8, Nat.le_trans ?_ hO9⟩
    show 8 + (nb + 11) + 64 * dc ≤ 64 * S.2.2.2.1
    omega
  have hstk : ((as.reverse ++ st).map (am_cv ad)) = (as.map (am_cv ad)).reverse ++ st.map (am_cv ad) := by
    rw [List.map_append, List.map_reverse]
  have hgo : ∀ hr : va_Run p l e R s m args below meth c H locs nc ns 0 0 (F0 m pc ls ((as.reverse ++ st).map (am_cv ad))) (st.map (am_cv ad)) (am_Q S.1 D cs ad r μ' (va_A (am_wl S.1 ad cs μ) H.size) (as.map (am_cv ad)).toArray) (va_A (am_wl S.1 ad cs μ) H.size), W p l e R s m args below meth c H locs nc ns Q (F0 m pc ls ((as.reverse ++ st).map (am_cv ad))) := by
    intro hr
    refine am_go hr hS hA1 hA1 (fun H1 locs1 hP1 hS1 => ?_)
    have h1 := k H1 locs1 ls hP1 (am_wl_D hD) hS1 hl
    have h2 : (r.map (am_cv ad)).toList ++ st.map (am_cv ad) = (r.toList ++ st).map (am_cv ad) := by cases r <;> rfl
    rw [h2]
    exact h1
  have hpre := am_pre (av := as.map (am_cv ad)) hO6 hP hD hO5n
  have hM' := hM l D cs ad H.size as μ r μ' hw
  apply hgo
  cases host with
  | none => exact va_runS (As := as.map (am_cv ad)) (rest := st.map (am_cv ad)) ⟨hO1, hO2, hO3, hO4, hO5⟩ hM' ⟨callB_of n hO5 (am_good k1) rfl rfl rfl (hO5 _ k2) (hO5 _ (am_word (hf.2.1 _ rfl) rfl)) k3 hR, hO5 _ hv⟩ ⟨am_blind, hpre⟩ rfl (by rw [List.length_map]; exact hn) hl.1 hstk (lv_room (am_room hst)) hf.1 ⟨hO10, hO11⟩
  | some host => exact va_runSN (As := as.map (am_cv ad)) (rest := st.map (am_cv ad)) ⟨hO1, hO2, hO3, hO4, hO5⟩ hM' ⟨va_cnB n hO5 (am_good k1) rfl rfl rfl (hO5n _ (am_wordN (hf.2.1 _ rfl) rfl)) (hO5 _ k2) k3 hR, hO5 _ hv, trivial⟩ ⟨am_blind, hpre⟩ rfl (by rw [List.length_map]; exact hn) hl.1 hstk (lv_room (am_room hst)) hf.1 ⟨hO10, hO11⟩
