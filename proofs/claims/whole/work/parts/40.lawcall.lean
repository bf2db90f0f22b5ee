/-! THE LAW: calls beside another world -/
theorem am_tb_in {w : Jvm.Cond} (h : w ∈ am_tb) : w ∈ lw_tbl := (List.mem_filter.mp h).1
theorem lw_good {y : MethodName} {cc : ByteArray} {n : Nat} {ret : Option FieldType} (h : Jvm.Cond.code y cc n ret ∈ am_tb) : GoodIn lw_tbl (Jvm.Cond.code y cc n ret :: am_tb) := fun w hw => ⟨am_tb_in ((am_good h w hw).1), (am_good h w hw).2⟩
def am_apart (Sh1 Sh2 : List am_SC) (ad1 ad2 : Nat → Nat) : Prop := ∀ i j : Nat, i < Sh1.length → j < Sh2.length → ad1 i ≠ ad2 j
theorem am_wl_in {Sh : List am_SC} {ad : Nat → Nat} {cs : Nat → ClassId} {μ : am_M} {k : Nat} {q : Nat × va_E} (h : (am_wl Sh ad cs μ)[k]? = some q) : k < Sh.length ∧ q.1 = ad k := by
  unfold am_wl at h
  rw [List.getElem?_mapIdx] at h
  cases hs : Sh[k]? with
  | none => rw [hs] at h; simp at h
  | some sc =>
    rw [hs] at h
    have := Option.some.inj h
    rw [← this]
    exact ⟨(List.getElem?_eq_some_iff.mp hs).1, rfl⟩
section LWC
variable {p : Program} {l : Launch} {e : Env} {R : Room} {s : State} {m : MethodId} {args : Array Value} {below : List Frame} {meth : Method} {c : Code} {H : Heap} {locs : List Loc} {nc ns : Nat} {Q : State → Prop}
theorem lw_go {Sh : List am_SC} {D : va_G} {cs : Nat → ClassId} {ad : Nat → Nat} {r : Option AV} {μ' : am_M} {A0 A1 : Nat → Prop} {H0 : Heap} {pc : Nat} {ls : Array Slot} {rest st0 : List Value} {a : Array Value} {free : Addr → Prop}
    (hr : va_Run p l e R s m args below meth c H locs nc ns 0 0 (F0 m pc ls st0) rest (am_Q Sh D cs ad r μ' A1 a) free) (hS : va_S A0 H0 H locs) (hA : ∀ q, A1 q → A0 q) (hf : ∀ q, free q → A0 q)
    (kk : ∀ (H1 : Heap) (locs1 : List Loc), va_P D vwCl (am_wl Sh ad cs μ') H1 → (∀ q : Nat, q < H.size → ¬ A1 q → H1[q]? = H[q]?) → va_S A0 H0 H1 locs1 → W p l e R s m args below meth c H1 locs1 nc ns Q (F0 m (pc + 3) ls ((r.map (am_cv ad)).toList ++ rest))) : W p l e R s m args below meth c H locs nc ns Q (F0 m pc ls st0) := by
  intro T hT X
  obtain ⟨v, st₀, t, T', L, h0, X', hL, e1, e2, ⟨hv, hp, hz, hk⟩, st⟩ := hr T hT X
  cases hv
  rw [h0] at hz hk
  obtain ⟨t2, a1, b1⟩ := kk T'.heap (locs ++ L) (by rw [e1]; exact hp) (fun q h1 h2 => by rw [e1]; exact hk q h1 h2)
    ⟨Nat.le_trans hS.1 (by rw [e1]; exact hz), fun q h1 h2 => by rw [e1, hk q (Nat.lt_of_lt_of_le h1 hS.1) (fun z => h2 (hA q z))]; exact hS.2.1 q h1 h2, fun q hq => by
      rcases List.mem_append.mp hq with h | h
      · exact hS.2.2 q h
      · exact hf _ (hL q h)⟩ T' rfl X'
  exact ⟨t2, st t2 a1, b1⟩
/-- a call on the first cell of one world; the other world stays -/
theorem lw_call {Sh Sh2 : List am_SC} {D : va_G} {cs : Nat → ClassId} {ad ad2 : Nat → Nat} {A : Nat → Prop} {μ μ' μ2 : am_M} {y : MethodName} {cb : ByteArray} {nb n dc ci idx : Nat} {ret : Option FieldType} {f : am_F} {sl : List (Option Nat)} {cc : ByteArray}
    (hO1 : p.tables.exec = Jvm.exec) (hO2 : c.code = cc) (hO3 : c.maxLocals = 4) (hO4 : s.vm.findClass RL = some m.cls) (hts : ∀ w ∈ lw_tbl, w.before args s = true) (hK : va_K D vwCl (am_ty cs) s) (hA : ∀ q : Nat, s.heap.size ≤ q → A q)
    (hM : am_Sd Sh y cb nb ret dc f) (hy : am_Ky y cb nb ret n) (hv : am_KV y ci) (hlk : Jvm.Cond.methodLink RL idx y ∈ lw_tbl) (hdc : dc + 1 ≤ R.frames ∧ 64 * (dc + 1) ≤ R.locals) (hnc : nc ≤ R.cells ∧ ns ≤ R.slots)
    (hap : am_apart Sh Sh2 ad ad2) (hs : Sh[0]? = some (.inr (.inr (ci, sl))))
    (hP : va_P D vwCl (am_wl Sh ad cs μ) H) (hP2 : va_P D vwCl (am_wl Sh2 ad2 cs μ2) H) (hD : va_D A (am_wl Sh ad cs μ)) (hS : va_S A s.heap H locs) {ls : Array Slot} (hls : ls.size = 4) {pc : Nat} (hdg : decode cc pc = .ok (.invokevirtual idx, 3)) {as : List AV} (hn : as.length = n) {st : List Value} (hst : (st.map fun v => v.category).sum ≤ 8) {r : Option AV} (hw : f (vR 0 :: as) μ = some (r, μ'))
    (kk : ∀ (H1 : Heap) (locs1 : List Loc), va_P D vwCl (am_wl Sh ad cs μ') H1 → va_P D vwCl (am_wl Sh2 ad2 cs μ2) H1 → va_S A s.heap H1 locs1 → W p l e R s m args below meth c H1 locs1 nc ns Q (F0 m (pc + 3) ls ((r.map (am_cv ad)).toList ++ st))) :
    W p l e R s m args below meth c H locs nc ns Q (F0 m pc ls ((as.map (am_cv ad)).reverse ++ .ref (ad 0) :: st)) := by
  obtain ⟨k1, k2, k3, k4⟩ := hy
  obtain ⟨v1, v2, T, N, v3⟩ := hv
  have hA1 := am_wl_A hD hS hA
  have hR : (am_rm dc).frames + 1 ≤ R.frames ∧ 8 + (nb + 11) + (am_rm dc).locals ≤ R.locals := by
    refine ⟨hdc.1, ?_⟩
    show 8 + (nb + 11) + 64 * dc ≤ R.locals
    omega
  have hN : ∀ w ∈ am_ne, va_Nw w s := fun w hw => va_Nw.of (am_isN_on (List.mem_filter.mp hw).2) (hts w (List.mem_filter.mp hw).1)
  have hpre := am_pre (av := (vR 0 :: as).map (am_cv ad)) hK hP hD hN
  have hrv : ∃ cellB : Cell, H[ad 0]? = some cellB ∧ cellB.vm.isStatics = false ∧ s.vm.findClass y.cls = some cellB.cls := va_recv (q := (y.cls, T, N)) hK hP v3 (am_wl_get hs)
  have hM' := hM l D cs ad H.size (vR 0 :: as) μ r μ' hw
  have hr := va_runV (e := e) (below := below) (meth := meth) (locs := locs) (cells := nc) (slots := ns) (g := F0 m pc ls ((as.map (am_cv ad)).reverse ++ .ref (ad 0) :: st)) (C := y.cls) (b := ad 0) (As := as.map (am_cv ad)) (rest := st) ⟨hO1, hO2, hO3, hO4, hts⟩ hM' ⟨callB_of n hts (lw_good k1) rfl rfl rfl (hts _ (am_tb_in k2)) (hts _ hlk) k3 hR, hts _ (am_tb_in v1), hts _ (am_tb_in v2)⟩ ⟨am_blind, hrv, hpre⟩ rfl (by rw [List.length_map]; exact hn) hls rfl (lv_room hst) hdg hnc
  refine lw_go hr hS hA1 hA1 (fun H1 locs1 hP1 hk hS1 => kk H1 locs1 hP1 ?_ hS1)
  refine hP2.kept (fun k q hq => hk q.1 (hP2 k q hq).lt ?_)
  rintro (⟨k', e', h'⟩ | h')
  · obtain ⟨a1, a2⟩ := am_wl_in hq
    obtain ⟨b1, b2⟩ := am_wl_in h'
    exact hap k' k b1 a1 (b2.symm.trans a2)
  · have := (hP2 k q hq).lt
    omega
end LWC
