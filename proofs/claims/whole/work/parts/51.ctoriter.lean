/-! one turn of 'for (s = 0; s < N; s++) this.row[s] = new C()' -/
theorem cw_mid_get {a b : va_W} {x y : Nat × va_E} : (x :: (a ++ y :: b))[a.length + 1]? = some y := by
  rw [List.getElem?_cons_succ, List.getElem?_append_right (Nat.le_refl _), Nat.sub_self]
  rfl
theorem cw_mid_set {a b : va_W} {x y z : Nat × va_E} : (x :: (a ++ y :: b)).set (a.length + 1) z = x :: (a ++ z :: b) := by
  rw [List.set_cons_succ, List.set_append_right _ _ (Nat.le_refl _), Nat.sub_self]
  rfl
section CWI
variable {cc : ByteArray} {nL : Nat} {own : String} {G : cw_G} {nc ns h0 ci : Nat} {fs : List Value} {W0 W1 : va_W}
def cw_loop (pi : am_I) (idx j q ci iN qN cj iC qC : Nat) (own : String) (y : MethodName) (host : Option String) (gf bk : Int) : List am_I := [(.iload_n 1, 1, none), pi, (.if_icmp .ge gf, 3, none), (.aload_n 0, 1, none), (.getfield idx, 3, some (q, am_fl own idx ci j)), (.iload_n 1, 1, none), (.new iN, 3, some (qN, .classLink own iN (am_cn cj).1)), (.dup, 1, none), (.invokespecial iC, 3, some (qC, am_lk own iC y host)), (.aastore, 1, none), (.iinc 1 1, 3, none), (.goto bk, 3, none)]
theorem cr_iter (hO : cw_Ok cc nL own G) (pc k N : Nat) (pi : am_I) (hpush : ∀ {pc : Nat} {lv : List (Nat × Value)} {st : List Value} {ws : va_W} {nc ns : Nat}, am_fit cc pc [pi] → cw_W nL G (pc + pi.2.1) lv (.int (nI N) :: st) ws nc ns → cw_W nL G pc lv st ws nc ns) (hkN : k < N) (hN : N < 100) (hnL : 1 < nL)
    (idx j q iN qN cj iC qC t : Nat) {y : MethodName} {cb : ByteArray} {nb d mc ms : Nat} {fs0 : List Value} {Post : (Nat → ClassId) → Nat → va_W → Prop} (host : Option String) (gf bk : Int) (hM : cw_Sd y cb nb d mc ms cj fs0 [] Post) (hy : am_Ky y cb nb none 0) (hin : Jvm.Cond.instanceMethod y ∈ am_tb) (hy1 : y.name = "<init>")
    (hc : vwCl[ci]? = some (am_cn ci)) (hj : j < (am_cn ci).2.2) {a : Nat} (hv : fs[j]? = some (.ref a)) (hcj : vwCl[cj]? = some (am_cn cj)) (hi : Jvm.Cond.instantiable (am_cn cj).1 (am_cn cj).2.2 ∈ am_tb) (hini : Jvm.Cond.initialized (am_cn cj).1 ∈ am_tb) (ty : Nat → FieldType) (hty : ∀ k, k < (am_cn cj).2.2 → parseFieldDescriptor ((am_cn cj).2.1 k).2.2.1 = some (ty k)) (hfs : ∀ j, j < (am_cn cj).2.2 → defaultValue (ty j) = vp_V fs0 j)
    (ht : (am_ty G.2.2.2.2.2.2.2.2.2.2.2.2.1)[t]? = some (G.2.2.2.2.2.2.2.2.2.2.2.2.1 t, .object (am_cn cj).1)) (hhead : ∀ cs q w, Post cs q w → ∃ vs w', w = (q, .inr (cj, vs)) :: w')
    (hfr : d + 1 ≤ G.2.2.2.1.frames) (hlo : 64 * (d + 1) ≤ G.2.2.2.1.locals) (hcells : nc + (1 + mc) ≤ G.2.2.2.1.cells) (hslots : ns + ((am_cn cj).2.2 + ms) ≤ G.2.2.2.1.slots) (tg : Nat) (htg : ((pc + (1 + pi.2.1) : Nat) : Int) + gf = (tg : Int)) (hbk : ((pc + (1 + pi.2.1 + 3 + 1 + 3 + 1 + 3 + 1 + 3 + 1 + 3) : Nat) : Int) + bk = (pc : Int))
    (hf : am_fit cc pc (cw_loop pi idx j q ci iN qN cj iC qC own y host gf bk)) {f : Nat → Option Nat}
    (kk : ∀ (x : Nat) (w : va_W), Post G.2.2.2.2.2.2.2.2.2.2.2.2.1 x w → cw_W nL G pc [(1, .int (nI (k + 1))), (0, .ref h0)] [] ((h0, .inr (ci, fs)) :: (W0 ++ (a, cw_qa G.2.2.2.2.2.2.2.2.2.2.2.2.1 t N (va_up f k (some x))) :: (W1 ++ w))) (nc + (1 + mc)) (ns + ((am_cn cj).2.2 + ms))) :
    cw_W nL G pc [(1, .int (nI k)), (0, .ref h0)] [] ((h0, .inr (ci, fs)) :: (W0 ++ (a, cw_qa G.2.2.2.2.2.2.2.2.2.2.2.2.1 t N f) :: W1)) nc ns := by
  obtain ⟨f1, f2, f3⟩ := hf
  obtain ⟨g1, g2, g3⟩ := f3
  obtain ⟨i1, i2, i3⟩ := g3
  obtain ⟨j1, j2, j3⟩ := i3
  obtain ⟨k1, k2, k3⟩ := j3
  obtain ⟨l1, l2, l3⟩ := k3
  obtain ⟨m1, m2, m3⟩ := l3
  obtain ⟨n1, n2, n3⟩ := m3
  obtain ⟨o1, o2, o3⟩ := n3
  obtain ⟨p1, p2, p3⟩ := o3
  obtain ⟨q1, q2, q3⟩ := p3
  obtain ⟨r1, r2, -⟩ := q3
  refine cr_il hO 1 0 rfl ⟨f1, f2, trivial⟩ ?_
  refine hpush ⟨g1, g2, trivial⟩ ?_
  refine cr_geF hO tg (nI_ge hkN (by omega)) (by rw [Nat.add_assoc]; exact htg) ⟨i1, i2, trivial⟩ ?_
  refine cr_al hO 0 1 rfl ⟨j1, j2, trivial⟩ ?_
  refine cr_gf hO idx j q hc hj hv ⟨k1, k2, trivial⟩ ?_
  refine cr_il hO 1 0 rfl ⟨l1, l2, trivial⟩ ?_
  refine cr_new hO iN qN cj hcj hi hini fs0 ty hty hfs (by omega) (by omega) ⟨m1, m2, trivial⟩ (fun x => ?_)
  refine cr_dup hO ⟨n1, n2, trivial⟩ ?_
  refine cr_call hO hM hy hin rfl hy1 iC qC host (st := [.ref x, .int (nI k), .ref a]) hfr hlo (by omega) (by omega) (Nat.le_of_ble_eq_true rfl) ⟨o1, o2, trivial⟩ (fun w hw => ?_)
  obtain ⟨vs, w', rfl⟩ := hhead _ _ _ hw
  have hk2 := kk x _ hw
  have e1 : ((h0, Sum.inr (ci, fs)) :: (W0 ++ (a, cw_qa G.2.2.2.2.2.2.2.2.2.2.2.2.1 t N f) :: W1) : va_W) ++ ((x, Sum.inr (cj, vs)) :: w') = (h0, Sum.inr (ci, fs)) :: (W0 ++ (a, cw_qa G.2.2.2.2.2.2.2.2.2.2.2.2.1 t N f) :: (W1 ++ ((x, Sum.inr (cj, vs)) :: w'))) := by simp
  rw [e1]
  refine cr_qast hO (W0.length + 1) (W0.length + 1 + 1 + W1.length) t cj ht hcj cw_mid_get (vs := vs) ?_ (vp_in_nI hkN (by omega)) ⟨p1, p2, trivial⟩ ?_
  · rw [← e1, List.getElem?_append_right (by simp; omega)]
    have : W0.length + 1 + 1 + W1.length - ((h0, Sum.inr (ci, fs)) :: (W0 ++ (a, cw_qa G.2.2.2.2.2.2.2.2.2.2.2.2.1 t N f) :: W1) : va_W).length = 0 := by simp; omega
    rw [this]
    rfl
  · rw [cw_mid_set, nI_clamp (by omega)]
    refine cr_inc hO 1 0 1 rfl (v := nI (k + 1)) (nI_1 k) hnL ⟨q1, q2, trivial⟩ ?_
    refine cr_goto hO pc (by rw [← hbk]; simp only [Nat.add_assoc]) ⟨r1, r2, trivial⟩ ?_
    rw [show nc + 1 + mc = nc + (1 + mc) by omega, show ns + (am_cn cj).2.2 + ms = ns + ((am_cn cj).2.2 + ms) by omega]
    exact hk2
end CWI
