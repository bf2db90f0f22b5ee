/-! THE LAW'S CASES -/
def lw_W (p : Program) (l : Launch) (e : Env) (s : State) (m : MethodId) (below : List Frame) (meth : Method) (c : Code) (b : Nat) (D : va_G) (cs : Nat → ClassId) (adX adM : Nat → Nat) (nc ns pc : Nat) (st : List Value) (i : Int32) (μX μM : am_M) : Prop :=
  ∀ (H : Heap) (locs : List Loc) (ls : Array Slot), va_P D vwCl (am_wl ShX adX cs μX) H → va_P D vwCl (am_wl ShM adM cs μM) H → va_S (fun q : Nat => s.heap.size ≤ q) s.heap H locs → lv_has ls 4 [(0, .ref b), (1, .ref (adX 0)), (2, .ref (adM 0)), (3, .int i)] → W p l e room_1 s m #[Value.ref b] below meth c H locs nc ns (lw_Z below #[Value.ref b] s) (F0 m pc ls st)
/-- what holds all through the law's loop -/
def lw_C (p : Program) (s : State) (m : MethodId) (meth : Method) (c : Code) (b L : Nat) (xs : Nat → Int32) (D : va_G) (cs : Nat → ClassId) (adX adM : Nat → Nat) (nc ns : Nat) : Prop :=
  lw_At p s m meth c b L xs ∧ L ≤ 384 ∧ va_K D vwCl (am_ty cs) s ∧ va_D (fun q : Nat => s.heap.size ≤ q) (am_wl ShX adX cs (fun _ _ => 0)) ∧ va_D (fun q : Nat => s.heap.size ≤ q) (am_wl ShM adM cs (fun _ _ => 0)) ∧ am_apart ShX ShM adX adM ∧ nc ≤ 600000 ∧ ns ≤ 7302250
theorem am_apart.symm {Sh1 Sh2 : List am_SC} {ad1 ad2 : Nat → Nat} (h : am_apart Sh1 Sh2 ad1 ad2) : am_apart Sh2 Sh1 ad2 ad1 := fun i j hi hj he => h j i hj hi he.symm
def lw_a1 (k : Nat) : List am_I := [(.aload_n 0, 1, none), (.iload_n 3, 1, none), (.iconst (k : Int), 1, none), (.iadd, 1, none), (.iaload, 1, none)]
def lw_ar : List Nat → List am_I
  | [] => []
  | k :: t => lw_a1 k ++ lw_ar t
section LWK
variable {p : Program} {l : Launch} {e : Env} {s : State} {m : MethodId} {below : List Frame} {meth : Method} {c : Code} {b L : Nat} {xs : Nat → Int32} {D : va_G} {cs : Nat → ClassId} {adX adM : Nat → Nat} {nc ns : Nat}
theorem lw_arg (C : lw_C p s m meth c b L xs D cs adX adM nc ns) {k i0 pc : Nat} (hk : i0 + k < L) (hf : am_fit code pc (lw_a1 k)) {st : List Value} {μX μM : am_M} (kk : lw_W p l e s m below meth c b D cs adX adM nc ns (pc + 5) (.int (xs (i0 + k)) :: st) (nI i0) μX μM) : lw_W p l e s m below meth c b D cs adX adM nc ns pc st (nI i0) μX μM := by
  obtain ⟨⟨hx, hb, hr, hml, hown, hts, hX, hbl, hlocks, hgv⟩, hL, hK, hDX, hDM, hap, hnc, hns⟩ := C
  intro H locs ls hPX hPM hS hl
  have hbA : ¬ (fun q : Nat => s.heap.size ≤ q) b := Nat.not_le.mpr hbl
  obtain ⟨f1, -, f2, -, f3, -, f4, -, f5, -, -⟩ := hf
  refine lv_aload_n hx hb f1 rfl (lv_at hl 0 rfl) ?_
  refine lv_iload_n hx hb f2 rfl (lv_at hl 3 rfl) ?_
  refine lv_iconst (v := nI k) hx hb f3 rfl ?_
  refine lv_iadd hx hb f4 ?_
  rw [nI_add]
  have hin : vp_in (nI (i0 + k)) L := vp_in_nI hk (by omega)
  refine va_sld hx hb hX hbl hbA hS hin f5 ?_
  rw [nI_clamp (by omega)]
  exact kk H locs ls hPX hPM hS hl
theorem lw_args (C : lw_C p s m meth c b L xs D cs adX adM nc ns) {i0 : Nat} : ∀ (ks : List Nat) (pc : Nat) (st : List Value) (μX μM : am_M), (∀ k ∈ ks, i0 + k < L) → am_fit code pc (lw_ar ks) → lw_W p l e s m below meth c b D cs adX adM nc ns (pc + am_sz (lw_ar ks)) ((ks.map fun k => Value.int (xs (i0 + k))).reverse ++ st) (nI i0) μX μM → lw_W p l e s m below meth c b D cs adX adM nc ns pc st (nI i0) μX μM := by
  intro ks
  induction ks with
  | nil => intro pc st μX μM _ _ kk; exact kk
  | cons k t ih =>
    intro pc st μX μM hk hf kk
    obtain ⟨h1, h2⟩ := am_fit_app (a := lw_a1 k) hf
    refine lw_arg C (hk k List.mem_cons_self) h1 (ih _ _ μX μM (fun q hq => hk q (List.mem_cons_of_mem _ hq)) h2 ?_)
    have e1 : am_sz (lw_ar (k :: t)) = 5 + am_sz (lw_ar t) := am_sz_app (lw_a1 k) (lw_ar t)
    rw [e1, ← Nat.add_assoc, List.map_cons, List.reverse_cons, List.append_assoc] at kk
    exact kk
/-- the front of a case: both calls with the script's ints -/
def lw_fr (ks : List Nat) (iX qX iM qM : Nat) (yX yM : MethodName) (t : List am_I) : List am_I := [(.aload_n 1, 1, none)] ++ (lw_ar ks ++ ([(.invokevirtual iX, 3, some (qX, .methodLink RL iX yX))] ++ ([(.aload_n 2, 1, none)] ++ (lw_ar ks ++ ([(.invokevirtual iM, 3, some (qM, .methodLink RL iM yM))] ++ t)))))
theorem lw_both (C : lw_C p s m meth c b L xs D cs adX adM nc ns) {i0 pc iX qX iM qM : Nat} {ks : List Nat} (hks : ∀ k ∈ ks, i0 + k < L) {yX yM : MethodName} {t : List am_I} (hf : am_fit code pc (lw_fr ks iX qX iM qM yX yM t))
    {cX cM : ByteArray} {nX nM dX dM : Nat} {rX rM : Option FieldType} {fX fM : am_F} (sX : am_Sd ShX yX cX nX rX dX fX) (sM : am_Sd ShM yM cM nM rM dM fM) (kX : am_Ky yX cX nX rX ks.length) (kM : am_Ky yM cM nM rM ks.length) (vX : am_KV yX 10) (vM : am_KV yM 11) (hdX : dX ≤ 100) (hdM : dM ≤ 100)
    {μX μM μX' μM' : am_M} {v w : AV} (hX : fX (vR 0 :: ks.map fun k => vI (xs (i0 + k))) μX = some (some v, μX')) (hM : fM (vR 0 :: ks.map fun k => vI (xs (i0 + k))) μM = some (some w, μM'))
    (kk : lw_W p l e s m below meth c b D cs adX adM nc ns (pc + (am_sz (lw_fr ks iX qX iM qM yX yM t) - am_sz t)) [am_cv adM w, am_cv adX v] (nI i0) μX' μM') : lw_W p l e s m below meth c b D cs adX adM nc ns pc [] (nI i0) μX μM := by
  obtain ⟨f1, hf⟩ := am_fit_app hf
  obtain ⟨f2, hf⟩ := am_fit_app hf
  obtain ⟨f3, hf⟩ := am_fit_app hf
  obtain ⟨f4, hf⟩ := am_fit_app hf
  obtain ⟨f5, hf⟩ := am_fit_app hf
  obtain ⟨f6, hf⟩ := am_fit_app hf
  have hsz : am_sz (lw_fr ks iX qX iM qM yX yM t) - am_sz t = 1 + (am_sz (lw_ar ks) + (3 + (1 + (am_sz (lw_ar ks) + 3)))) := by
    have : am_sz (lw_fr ks iX qX iM qM yX yM t) = 1 + (am_sz (lw_ar ks) + (3 + (1 + (am_sz (lw_ar ks) + (3 + am_sz t))))) := by
      unfold lw_fr
      rw [am_sz_app, am_sz_app, am_sz_app, am_sz_app, am_sz_app, am_sz_app]
      rfl
    omega
  rw [hsz] at kk
  have C0 := C
  obtain ⟨⟨hx, hb, hr, hml, hown, hts, hXs, hbl, hlocks, hgv⟩, hL, hK, hDX, hDM, hap, hnc, hns⟩ := C
  have e1 : (ks.map fun k => Value.int (xs (i0 + k))) = ((ks.map fun k => vI (xs (i0 + k))).map (am_cv adX)) := by rw [List.map_map]; rfl
  have e2 : (ks.map fun k => Value.int (xs (i0 + k))) = ((ks.map fun k => vI (xs (i0 + k))).map (am_cv adM)) := by rw [List.map_map]; rfl
  have hc : ∀ (ad : Nat → Nat) (v : AV), (am_cv ad v).category ≤ 2 := fun ad v => by rcases lv_cat (am_cv ad v) with h | h <;> omega
  intro H locs ls hPX hPM hS hl
  refine lv_aload_n hx hb f1.1 rfl (lv_at hl 1 rfl) ?_
  refine lw_args C0 ks _ [.ref (adX 0)] μX μM hks f2 ?_ H locs ls hPX hPM hS hl
  intro H locs ls hPX hPM hS hl
  rw [e1]
  refine lw_call (A := fun q : Nat => s.heap.size ≤ q) (st := []) hx hb hml hown hts hK (fun _ h => h) sX kX vX (List.mem_of_getElem? (f3.2.1 _ rfl)) ⟨by show dX + 1 ≤ 2048; omega, by show 64 * (dX + 1) ≤ 84000; omega⟩ ⟨hnc, hns⟩ hap (sl := [some 1, some 3, some 5, some 7, some 14, some 15, some 20, some 25, some 51, some 77, some 79, some 81, some 85, some 90, some 93, none, none]) rfl hPX hPM (am_wl_D hDX) hS hl.1 f3.1 (by rw [List.length_map]) (by decide) hX ?_
  intro H locs hPX hPM hS
  refine lv_aload_n hx hb f4.1 rfl (lv_at hl 2 rfl) ?_
  refine lw_args C0 ks _ (.ref (adM 0) :: [am_cv adX v]) μX' μM hks f5 ?_ H locs ls hPX hPM hS hl
  intro H locs ls hPX hPM hS hl
  rw [e2]
  refine lw_call (A := fun q : Nat => s.heap.size ≤ q) (st := [am_cv adX v]) hx hb hml hown hts hK (fun _ h => h) sM kM vM (List.mem_of_getElem? (f6.2.1 _ rfl)) ⟨by show dM + 1 ≤ 2048; omega, by show 64 * (dM + 1) ≤ 84000; omega⟩ ⟨hnc, hns⟩ hap.symm (sl := [some 1, some 2, some 3, some 4, none, some 5, some 6, none, some 7, some 8, some 9, some 10, some 11, none, some 12, none, some 13, some 14, some 15, some 16, some 17, some 18, none, some 19, some 20, some 21, some 22, none, none, some 23, some 24, none, some 25, some 26, none, some 27]) rfl hPM hPX (am_wl_D hDM) hS hl.1 f6.1 (by rw [List.length_map]) (by have := hc adX v; simp; omega) hM ?_
  intro H locs hPM hPX hS
  have := kk H locs ls hPX hPM hS hl
  rw [show pc + (1 + (am_sz (lw_ar ks) + (3 + (1 + (am_sz (lw_ar ks) + 3))))) = pc + 1 + am_sz (lw_ar ks) + 3 + 1 + am_sz (lw_ar ks) + 3 by omega] at this
  exact this
end LWK
