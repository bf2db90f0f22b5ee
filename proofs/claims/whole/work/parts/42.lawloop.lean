/-! THE LAW'S LOOP, by program (mklaw.py) -/
/-- one call of both: the same answer, and the memories stay related -/
def lw_Op (Rel : am_M → am_M → Prop) (fX fM : am_F) (n : Nat) : Prop := ∀ (as : List Int32), as.length = n → ∀ (μX μM : am_M), Rel μX μM → ∃ (v : AV) (μX' μM' : am_M), fX (vR 0 :: as.map vI) μX = some (some v, μX') ∧ fM (vR 0 :: as.map vI) μM = some (some v, μM') ∧ Rel μX' μM'
theorem am_fn_int {nL : Nat} {f : am_T} {as : List AV} {μ μ' : am_M} {v : AV} (h : am_fn nL (some .int) f as μ = some (some v, μ')) : ∃ x, v = vI x := by
  have := (am_fn_ok h).2.2
  rcases v with x | x | x | x
  · exact ⟨x, rfl⟩
  · simp [am_nr] at this
  · simp [am_nr] at this
  · simp [am_nr] at this
theorem am_fn_long {nL : Nat} {f : am_T} {as : List AV} {μ μ' : am_M} {v : AV} (h : am_fn nL (some .long) f as μ = some (some v, μ')) : ∃ x, v = vL x := by
  have := (am_fn_ok h).2.2
  rcases v with x | x | x | x
  · simp [am_nr] at this
  · exact ⟨x, rfl⟩
  · simp [am_nr] at this
  · simp [am_nr] at this
theorem lw_cmp0 (x : Int64) : lg_cmp x x = 0 := by
  unfold lg_cmp
  simp
section LWL
variable {p : Program} {l : Launch} {e : Env} {s : State} {m : MethodId} {below : List Frame} {meth : Method} {c : Code} {b L : Nat} {xs : Nat → Int32} {D : va_G} {cs : Nat → ClassId} {adX adM : Nat → Nat} {nc ns : Nat}
theorem lw_caseI (C : lw_C p s m meth c b L xs D cs adX adM nc ns) {i0 pc iX qX iM qM : Nat} {ks : List Nat} (hks : ∀ k ∈ ks, i0 + k < L) {yX yM : MethodName} {off : Int} (hf : am_fit code pc (lw_fr ks iX qX iM qM yX yM [(.if_icmp .eq off, 3, none)])) (ht : ((pc + (am_sz (lw_fr ks iX qX iM qM yX yM [(.if_icmp .eq off, 3, none)]) - 3) : Nat) : Int) + off = (1312 : Nat))
    {cX cM : ByteArray} {nX nM dX dM : Nat} {gX gM : am_T} (sX : am_Sd ShX yX cX nX (some .int) dX (am_fn nX (some .int) gX)) (sM : am_Sd ShM yM cM nM (some .int) dM (am_fn nM (some .int) gM)) (kX : am_Ky yX cX nX (some .int) ks.length) (kM : am_Ky yM cM nM (some .int) ks.length) (vX : am_KV yX 10) (vM : am_KV yM 11) (hdX : dX ≤ 100) (hdM : dM ≤ 100)
    {Rel : am_M → am_M → Prop} (hop : lw_Op Rel (am_fn nX (some .int) gX) (am_fn nM (some .int) gM) ks.length) {μX μM : am_M} (hR : Rel μX μM)
    (kk : ∀ μX' μM', Rel μX' μM' → lw_W p l e s m below meth c b D cs adX adM nc ns 1312 [] (nI i0) μX' μM') : lw_W p l e s m below meth c b D cs adX adM nc ns pc [] (nI i0) μX μM := by
  obtain ⟨v, μX', μM', h1, h2, h3⟩ := hop (ks.map fun k => xs (i0 + k)) (by rw [List.length_map]) μX μM hR
  rw [List.map_map] at h1 h2
  obtain ⟨z, rfl⟩ := am_fn_int h1
  refine lw_both C hks hf sX sM kX kM vX vM hdX hdM h1 h2 ?_
  intro H locs ls hPX hPM hS hl
  have hlast : am_fit code (pc + (am_sz (lw_fr ks iX qX iM qM yX yM [(.if_icmp .eq off, 3, none)]) - 3)) [(.if_icmp .eq off, 3, none)] := by
    have hz : am_sz (lw_fr ks iX qX iM qM yX yM [(.if_icmp .eq off, 3, none)]) - 3 = 1 + (am_sz (lw_ar ks) + (3 + (1 + (am_sz (lw_ar ks) + 3)))) := by
      unfold lw_fr
      rw [am_sz_app, am_sz_app, am_sz_app, am_sz_app, am_sz_app, am_sz_app]
      rfl
    rw [hz]
    have h9 := (am_fit_app (am_fit_app (am_fit_app (am_fit_app (am_fit_app (am_fit_app hf).2).2).2).2).2).2
    rw [show pc + (1 + (am_sz (lw_ar ks) + (3 + (1 + (am_sz (lw_ar ks) + 3))))) = pc + 1 + am_sz (lw_ar ks) + 3 + 1 + am_sz (lw_ar ks) + 3 by omega]
    exact h9
  exact lv_icmp_eq C.1.1 C.1.2.1 hlast.1 (tgt := 1312) ht (fun _ => kk _ _ h3 H locs ls hPX hPM hS hl) (fun h => absurd rfl h)
theorem lw_caseL (C : lw_C p s m meth c b L xs D cs adX adM nc ns) {i0 pc iX qX iM qM : Nat} {ks : List Nat} (hks : ∀ k ∈ ks, i0 + k < L) {yX yM : MethodName} {off : Int} (hf : am_fit code pc (lw_fr ks iX qX iM qM yX yM [(.lcmp, 1, none), (.ifCond .eq off, 3, none)])) (ht : ((pc + (am_sz (lw_fr ks iX qX iM qM yX yM [(.lcmp, 1, none), (.ifCond .eq off, 3, none)]) - 4) + 1 : Nat) : Int) + off = (1312 : Nat))
    {cX cM : ByteArray} {nX nM dX dM : Nat} {gX gM : am_T} (sX : am_Sd ShX yX cX nX (some .long) dX (am_fn nX (some .long) gX)) (sM : am_Sd ShM yM cM nM (some .long) dM (am_fn nM (some .long) gM)) (kX : am_Ky yX cX nX (some .long) ks.length) (kM : am_Ky yM cM nM (some .long) ks.length) (vX : am_KV yX 10) (vM : am_KV yM 11) (hdX : dX ≤ 100) (hdM : dM ≤ 100)
    {Rel : am_M → am_M → Prop} (hop : lw_Op Rel (am_fn nX (some .long) gX) (am_fn nM (some .long) gM) ks.length) {μX μM : am_M} (hR : Rel μX μM)
    (kk : ∀ μX' μM', Rel μX' μM' → lw_W p l e s m below meth c b D cs adX adM nc ns 1312 [] (nI i0) μX' μM') : lw_W p l e s m below meth c b D cs adX adM nc ns pc [] (nI i0) μX μM := by
  obtain ⟨v, μX', μM', h1, h2, h3⟩ := hop (ks.map fun k => xs (i0 + k)) (by rw [List.length_map]) μX μM hR
  rw [List.map_map] at h1 h2
  obtain ⟨z, rfl⟩ := am_fn_long h1
  refine lw_both C hks hf sX sM kX kM vX vM hdX hdM h1 h2 ?_
  intro H locs ls hPX hPM hS hl
  have hlast : am_fit code (pc + (am_sz (lw_fr ks iX qX iM qM yX yM [(.lcmp, 1, none), (.ifCond .eq off, 3, none)]) - 4)) [(.lcmp, 1, none), (.ifCond .eq off, 3, none)] := by
    have hz : am_sz (lw_fr ks iX qX iM qM yX yM [(.lcmp, 1, none), (.ifCond .eq off, 3, none)]) - 4 = 1 + (am_sz (lw_ar ks) + (3 + (1 + (am_sz (lw_ar ks) + 3)))) := by
      unfold lw_fr
      rw [am_sz_app, am_sz_app, am_sz_app, am_sz_app, am_sz_app, am_sz_app]
      rfl
    rw [hz]
    have h9 := (am_fit_app (am_fit_app (am_fit_app (am_fit_app (am_fit_app (am_fit_app hf).2).2).2).2).2).2
    rw [show pc + (1 + (am_sz (lw_ar ks) + (3 + (1 + (am_sz (lw_ar ks) + 3))))) = pc + 1 + am_sz (lw_ar ks) + 3 + 1 + am_sz (lw_ar ks) + 3 by omega]
    exact h9
  refine W.lcmp C.1.1 C.1.2.1 hlast.1 ?_
  rw [lw_cmp0]
  exact lv_if_eq C.1.1 C.1.2.1 hlast.2.2.1 (tgt := 1312) ht (fun _ => kk _ _ h3 H locs ls hPX hPM hS hl) (fun h => absurd rfl h)
end LWL
theorem lf_type : am_fb code 192 (lw_fr [1, 2] 13 413 17 1029 yX10_type yX11_type [(.if_icmp .eq 1092, 3, none)]) = true := by decide +kernel
theorem lf_wipe : am_fb code 225 (lw_fr [1] 18 424 22 1037 yX10_wipe yX11_wipe [(.if_icmp .eq 1069, 3, none)]) = true := by decide +kernel
theorem lf_undo : am_fb code 248 (lw_fr [1] 23 428 26 1041 yX10_undo yX11_undo [(.if_icmp .eq 1046, 3, none)]) = true := by decide +kernel
theorem lf_fault : am_fb code 271 (lw_fr [1] 27 432 30 1045 yX10_fault yX11_fault [(.if_icmp .eq 1023, 3, none)]) = true := by decide +kernel
theorem lf_strand : am_fb code 294 (lw_fr [1, 2] 31 517 34 1074 yX10_strand yX11_strand [(.if_icmp .eq 990, 3, none)]) = true := by decide +kernel
theorem lf_tide : am_fb code 327 (lw_fr [1] 35 526 38 1087 yX10_tide yX11_tide [(.if_icmp .eq 967, 3, none)]) = true := by decide +kernel
theorem lf_route : am_fb code 350 (lw_fr [1] 39 530 42 1095 yX10_route yX11_route [(.if_icmp .eq 944, 3, none)]) = true := by decide +kernel
theorem lf_event : am_fb code 373 (lw_fr [1, 2, 3, 4] 43 534 47 1104 yX10_event yX11_event [(.if_icmp .eq 891, 3, none)]) = true := by decide +kernel
theorem lf_back : am_fb code 426 (lw_fr [] 48 545 52 1113 yX10_back yX11_back [(.if_icmp .eq 878, 3, none)]) = true := by decide +kernel
theorem lf_read : am_fb code 439 (lw_fr [1] 53 549 56 1117 yX10_read yX11_read [(.if_icmp .eq 855, 3, none)]) = true := by decide +kernel
theorem lf_state : am_fb code 462 (lw_fr [1, 2, 3] 57 562 61 1122 yX10_state yX11_state [(.if_icmp .eq 812, 3, none)]) = true := by decide +kernel
theorem lf_says : am_fb code 505 (lw_fr [1, 2, 3] 62 566 65 1148 yX10_says yX11_says [(.if_icmp .eq 769, 3, none)]) = true := by decide +kernel
theorem lf_deed : am_fb code 548 (lw_fr [1, 2] 66 578 69 1161 yX10_deed yX11_deed [(.if_icmp .eq 736, 3, none)]) = true := by decide +kernel
theorem lf_voids : am_fb code 581 (lw_fr [1] 70 586 73 1173 yX10_voids yX11_voids [(.if_icmp .eq 713, 3, none)]) = true := by decide +kernel
theorem lf_forged : am_fb code 604 (lw_fr [] 74 598 77 1185 yX10_forged yX11_forged [(.if_icmp .eq 700, 3, none)]) = true := by decide +kernel
theorem lf_tangled : am_fb code 617 (lw_fr [1] 78 606 81 1193 yX10_tangled yX11_tangled [(.if_icmp .eq 677, 3, none)]) = true := by decide +kernel
theorem lf_reads : am_fb code 640 (lw_fr [1] 82 622 85 1208 yX10_reads yX11_reads [(.if_icmp .eq 654, 3, none)]) = true := by decide +kernel
theorem lf_tour : am_fb code 663 (lw_fr [1] 86 626 89 1224 yX10_tour yX11_tour [(.if_icmp .eq 631, 3, none)]) = true := by decide +kernel
theorem lf_hang : am_fb code 686 (lw_fr [1, 2] 90 653 93 1244 yX10_hang yX11_hang [(.if_icmp .eq 598, 3, none)]) = true := by decide +kernel
theorem lf_save : am_fb code 719 (lw_fr [1, 2] 94 662 97 1252 yX10_save yX11_save [(.if_icmp .eq 565, 3, none)]) = true := by decide +kernel
theorem lf_fill : am_fb code 752 (lw_fr [1, 2, 3] 98 675 101 1265 yX10_fill yX11_fill [(.if_icmp .eq 522, 3, none)]) = true := by decide +kernel
theorem lf_seen : am_fb code 795 (lw_fr [1, 2, 3] 102 708 105 1277 yX10_seen yX11_seen [(.if_icmp .eq 479, 3, none)]) = true := by decide +kernel
theorem lf_forget : am_fb code 838 (lw_fr [] 106 716 109 1282 yX10_forget yX11_forget [(.if_icmp .eq 466, 3, none)]) = true := by decide +kernel
theorem lf_never : am_fb code 851 (lw_fr [] 110 720 113 1286 yX10_never yX11_never [(.if_icmp .eq 453, 3, none)]) = true := by decide +kernel
theorem lf_was : am_fb code 864 (lw_fr [1, 2] 114 734 117 1298 yX10_was yX11_was [(.if_icmp .eq 420, 3, none)]) = true := by decide +kernel
theorem lf_ask : am_fb code 897 (lw_fr [1] 118 746 121 1314 yX10_ask yX11_ask [(.if_icmp .eq 397, 3, none)]) = true := by decide +kernel
theorem lf_risk : am_fb code 920 (lw_fr [1, 2, 3, 4] 122 760 126 1322 yX10_risk yX11_risk [(.lcmp, 1, none), (.ifCond .eq 343, 3, none)]) = true := by decide +kernel
theorem lf_century : am_fb code 974 (lw_fr [1, 2, 3] 127 767 130 1338 yX10_century yX11_century [(.if_icmp .eq 300, 3, none)]) = true := by decide +kernel
theorem lf_sheet : am_fb code 1017 (lw_fr [1, 2, 3] 131 781 134 989 yX10_sheet yX11_sheet [(.if_icmp .eq 257, 3, none)]) = true := by decide +kernel
theorem lf_lose : am_fb code 1060 (lw_fr [1] 135 792 138 1005 yX10_lose yX11_lose [(.if_icmp .eq 234, 3, none)]) = true := by decide +kernel
theorem lf_lay : am_fb code 1083 (lw_fr [1, 2, 3, 4] 139 796 142 1009 yX10_lay yX11_lay [(.if_icmp .eq 181, 3, none)]) = true := by decide +kernel
theorem lf_get : am_fb code 1136 (lw_fr [1, 2, 3] 143 808 146 1020 yX10_get yX11_get [(.if_icmp .eq 138, 3, none)]) = true := by decide +kernel
theorem lf_copy : am_fb code 1179 (lw_fr [1, 2, 3, 4, 5] 147 813 151 1025 yX10_copy yX11_copy [(.if_icmp .eq 75, 3, none)]) = true := by decide +kernel
theorem lf_write : am_fb code 1242 (lw_fr [1, 2] 152 822 155 1354 yX10_write yX11_write [(.if_icmp .eq 42, 3, none)]) = true := by decide +kernel
theorem lf_count : am_fb code 1275 (lw_fr [1] 156 827 159 1361 yX10_count yX11_count [(.if_icmp .eq 19, 3, none)]) = true := by decide +kernel
theorem lf_digest : am_fb code 1298 (lw_fr [] 160 831 164 1365 yX10_digest yX11_digest [(.lcmp, 1, none), (.ifCond .eq 5, 3, none)]) = true := by decide +kernel
def lw_All (Rel : am_M → am_M → Prop) : Prop := lw_Op Rel f_X10_type f_X11_type 2 ∧ lw_Op Rel f_X10_wipe f_X11_wipe 1 ∧ lw_Op Rel f_X10_undo f_X11_undo 1 ∧ lw_Op Rel f_X10_fault f_X11_fault 1 ∧ lw_Op Rel f_X10_strand f_X11_strand 2 ∧ lw_Op Rel f_X10_tide f_X11_tide 1 ∧ lw_Op Rel f_X10_route f_X11_route 1 ∧ lw_Op Rel f_X10_event f_X11_event 4 ∧ lw_Op Rel f_X10_back f_X11_back 0 ∧ lw_Op Rel f_X10_read f_X11_read 1 ∧ lw_Op Rel f_X10_state f_X11_state 3 ∧ lw_Op Rel f_X10_says f_X11_says 3 ∧ lw_Op Rel f_X10_deed f_X11_deed 2 ∧ lw_Op Rel f_X10_voids f_X11_voids 1 ∧ lw_Op Rel f_X10_forged f_X11_forged 0 ∧ lw_Op Rel f_X10_tangled f_X11_tangled 1 ∧ lw_Op Rel f_X10_reads f_X11_reads 1 ∧ lw_Op Rel f_X10_tour f_X11_tour 1 ∧ lw_Op Rel f_X10_hang f_X11_hang 2 ∧ lw_Op Rel f_X10_save f_X11_save 2 ∧ lw_Op Rel f_X10_fill f_X11_fill 3 ∧ lw_Op Rel f_X10_seen f_X11_seen 3 ∧ lw_Op Rel f_X10_forget f_X11_forget 0 ∧ lw_Op Rel f_X10_never f_X11_never 0 ∧ lw_Op Rel f_X10_was f_X11_was 2 ∧ lw_Op Rel f_X10_ask f_X11_ask 1 ∧ lw_Op Rel f_X10_risk f_X11_risk 4 ∧ lw_Op Rel f_X10_century f_X11_century 3 ∧ lw_Op Rel f_X10_sheet f_X11_sheet 3 ∧ lw_Op Rel f_X10_lose f_X11_lose 1 ∧ lw_Op Rel f_X10_lay f_X11_lay 4 ∧ lw_Op Rel f_X10_get f_X11_get 3 ∧ lw_Op Rel f_X10_copy f_X11_copy 5 ∧ lw_Op Rel f_X10_write f_X11_write 2 ∧ lw_Op Rel f_X10_count f_X11_count 1 ∧ lw_Op Rel f_X10_digest f_X11_digest 0
section LWM
variable {p : Program} {l : Launch} {e : Env} {s : State} {m : MethodId} {below : List Frame} {meth : Method} {c : Code} {b L : Nat} {xs : Nat → Int32} {D : va_G} {cs : Nat → ClassId} {adX adM : Nat → Nat} {nc ns : Nat}
def lw_hd : List Nat := [192, 225, 248, 271, 294, 327, 350, 373, 426, 439, 462, 505, 548, 581, 604, 617, 640, 663, 686, 719, 752, 795, 838, 851, 864, 897, 920, 974, 1017, 1060, 1083, 1136, 1179, 1242, 1275, 1298]
theorem lw_cases (C : lw_C p s m meth c b L xs D cs adX adM nc ns) {i0 : Nat} (h5 : i0 + 5 < L) {Rel : am_M → am_M → Prop} (hop : lw_All Rel) {μX μM : am_M} (hR : Rel μX μM) (kk : ∀ μX' μM', Rel μX' μM' → lw_W p l e s m below meth c b D cs adX adM nc ns 1312 [] (nI i0) μX' μM') :
    ∀ k h : Nat, lw_hd[k]? = some h → lw_W p l e s m below meth c b D cs adX adM nc ns h [] (nI i0) μX μM := by
  obtain ⟨h_type, h_wipe, h_undo, h_fault, h_strand, h_tide, h_route, h_event, h_back, h_read, h_state, h_says, h_deed, h_voids, h_forged, h_tangled, h_reads, h_tour, h_hang, h_save, h_fill, h_seen, h_forget, h_never, h_was, h_ask, h_risk, h_century, h_sheet, h_lose, h_lay, h_get, h_copy, h_write, h_count, h_digest⟩ := hop
  have hk : ∀ (n : Nat), n ≤ 5 → ∀ k ∈ (List.range n).map (· + 1), i0 + k < L := by
    intro n hn k hk
    obtain ⟨j, hj, rfl⟩ := List.mem_map.mp hk
    have := List.mem_range.mp hj
    omega
  intro k h hkh
  match k, hkh with
  | 0, e1 => cases e1; exact lw_caseI C (ks := [1, 2]) (fun k hk9 => hk 2 (by decide) k hk9) (am_fb_ok lf_type) (by decide +kernel) sd_X10_type sd_X11_type ky_X10_type ky_X11_type kv_X10_type kv_X11_type (by decide) (by decide) h_type hR kk
  | 1, e1 => cases e1; exact lw_caseI C (ks := [1]) (fun k hk9 => hk 1 (by decide) k hk9) (am_fb_ok lf_wipe) (by decide +kernel) sd_X10_wipe sd_X11_wipe ky_X10_wipe ky_X11_wipe kv_X10_wipe kv_X11_wipe (by decide) (by decide) h_wipe hR kk
  | 2, e1 => cases e1; exact lw_caseI C (ks := [1]) (fun k hk9 => hk 1 (by decide) k hk9) (am_fb_ok lf_undo) (by decide +kernel) sd_X10_undo sd_X11_undo ky_X10_undo ky_X11_undo kv_X10_undo kv_X11_undo (by decide) (by decide) h_undo hR kk
  | 3, e1 => cases e1; exact lw_caseI C (ks := [1]) (fun k hk9 => hk 1 (by decide) k hk9) (am_fb_ok lf_fault) (by decide +kernel) sd_X10_fault sd_X11_fault ky_X10_fault ky_X11_fault kv_X10_fault kv_X11_fault (by decide) (by decide) h_fault hR kk
  | 4, e1 => cases e1; exact lw_caseI C (ks := [1, 2]) (fun k hk9 => hk 2 (by decide) k hk9) (am_fb_ok lf_strand) (by decide +kernel) sd_X10_strand sd_X11_strand ky_X10_strand ky_X11_strand kv_X10_strand kv_X11_strand (by decide) (by decide) h_strand hR kk
  | 5, e1 => cases e1; exact lw_caseI C (ks := [1]) (fun k hk9 => hk 1 (by decide) k hk9) (am_fb_ok lf_tide) (by decide +kernel) sd_X10_tide sd_X11_tide ky_X10_tide ky_X11_tide kv_X10_tide kv_X11_tide (by decide) (by decide) h_tide hR kk
  | 6, e1 => cases e1; exact lw_caseI C (ks := [1]) (fun k hk9 => hk 1 (by decide) k hk9) (am_fb_ok lf_route) (by decide +kernel) sd_X10_route sd_X11_route ky_X10_route ky_X11_route kv_X10_route kv_X11_route (by decide) (by decide) h_route hR kk
  | 7, e1 => cases e1; exact lw_caseI C (ks := [1, 2, 3, 4]) (fun k hk9 => hk 4 (by decide) k hk9) (am_fb_ok lf_event) (by decide +kernel) sd_X10_event sd_X11_event ky_X10_event ky_X11_event kv_X10_event kv_X11_event (by decide) (by decide) h_event hR kk
  | 8, e1 => cases e1; exact lw_caseI C (ks := []) (fun k hk9 => hk 0 (by decide) k hk9) (am_fb_ok lf_back) (by decide +kernel) sd_X10_back sd_X11_back ky_X10_back ky_X11_back kv_X10_back kv_X11_back (by decide) (by decide) h_back hR kk
  | 9, e1 => cases e1; exact lw_caseI C (ks := [1]) (fun k hk9 => hk 1 (by decide) k hk9) (am_fb_ok lf_read) (by decide +kernel) sd_X10_read sd_X11_read ky_X10_read ky_X11_read kv_X10_read kv_X11_read (by decide) (by decide) h_read hR kk
  | 10, e1 => cases e1; exact lw_caseI C (ks := [1, 2, 3]) (fun k hk9 => hk 3 (by decide) k hk9) (am_fb_ok lf_state) (by decide +kernel) sd_X10_state sd_X11_state ky_X10_state ky_X11_state kv_X10_state kv_X11_state (by decide) (by decide) h_state hR kk
  | 11, e1 => cases e1; exact lw_caseI C (ks := [1, 2, 3]) (fun k hk9 => hk 3 (by decide) k hk9) (am_fb_ok lf_says) (by decide +kernel) sd_X10_says sd_X11_says ky_X10_says ky_X11_says kv_X10_says kv_X11_says (by decide) (by decide) h_says hR kk
  | 12, e1 => cases e1; exact lw_caseI C (ks := [1, 2]) (fun k hk9 => hk 2 (by decide) k hk9) (am_fb_ok lf_deed) (by decide +kernel) sd_X10_deed sd_X11_deed ky_X10_deed ky_X11_deed kv_X10_deed kv_X11_deed (by decide) (by decide) h_deed hR kk
  | 13, e1 => cases e1; exact lw_caseI C (ks := [1]) (fun k hk9 => hk 1 (by decide) k hk9) (am_fb_ok lf_voids) (by decide +kernel) sd_X10_voids sd_X11_voids ky_X10_voids ky_X11_voids kv_X10_voids kv_X11_voids (by decide) (by decide) h_voids hR kk
  | 14, e1 => cases e1; exact lw_caseI C (ks := []) (fun k hk9 => hk 0 (by decide) k hk9) (am_fb_ok lf_forged) (by decide +kernel) sd_X10_forged sd_X11_forged ky_X10_forged ky_X11_forged kv_X10_forged kv_X11_forged (by decide) (by decide) h_forged hR kk
  | 15, e1 => cases e1; exact lw_caseI C (ks := [1]) (fun k hk9 => hk 1 (by decide) k hk9) (am_fb_ok lf_tangled) (by decide +kernel) sd_X10_tangled sd_X11_tangled ky_X10_tangled ky_X11_tangled kv_X10_tangled kv_X11_tangled (by decide) (by decide) h_tangled hR kk
  | 16, e1 => cases e1; exact lw_caseI C (ks := [1]) (fun k hk9 => hk 1 (by decide) k hk9) (am_fb_ok lf_reads) (by decide +kernel) sd_X10_reads sd_X11_reads ky_X10_reads ky_X11_reads kv_X10_reads kv_X11_reads (by decide) (by decide) h_reads hR kk
  | 17, e1 => cases e1; exact lw_caseI C (ks := [1]) (fun k hk9 => hk 1 (by decide) k hk9) (am_fb_ok lf_tour) (by decide +kernel) sd_X10_tour sd_X11_tour ky_X10_tour ky_X11_tour kv_X10_tour kv_X11_tour (by decide) (by decide) h_tour hR kk
  | 18, e1 => cases e1; exact lw_caseI C (ks := [1, 2]) (fun k hk9 => hk 2 (by decide) k hk9) (am_fb_ok lf_hang) (by decide +kernel) sd_X10_hang sd_X11_hang ky_X10_hang ky_X11_hang kv_X10_hang kv_X11_hang (by decide) (by decide) h_hang hR kk
  | 19, e1 => cases e1; exact lw_caseI C (ks := [1, 2]) (fun k hk9 => hk 2 (by decide) k hk9) (am_fb_ok lf_save) (by decide +kernel) sd_X10_save sd_X11_save ky_X10_save ky_X11_save kv_X10_save kv_X11_save (by decide) (by decide) h_save hR kk
  | 20, e1 => cases e1; exact lw_caseI C (ks := [1, 2, 3]) (fun k hk9 => hk 3 (by decide) k hk9) (am_fb_ok lf_fill) (by decide +kernel) sd_X10_fill sd_X11_fill ky_X10_fill ky_X11_fill kv_X10_fill kv_X11_fill (by decide) (by decide) h_fill hR kk
  | 21, e1 => cases e1; exact lw_caseI C (ks := [1, 2, 3]) (fun k hk9 => hk 3 (by decide) k hk9) (am_fb_ok lf_seen) (by decide +kernel) sd_X10_seen sd_X11_seen ky_X10_seen ky_X11_seen kv_X10_seen kv_X11_seen (by decide) (by decide) h_seen hR kk
  | 22, e1 => cases e1; exact lw_caseI C (ks := []) (fun k hk9 => hk 0 (by decide) k hk9) (am_fb_ok lf_forget) (by decide +kernel) sd_X10_forget sd_X11_forget ky_X10_forget ky_X11_forget kv_X10_forget kv_X11_forget (by decide) (by decide) h_forget hR kk
  | 23, e1 => cases e1; exact lw_caseI C (ks := []) (fun k hk9 => hk 0 (by decide) k hk9) (am_fb_ok lf_never) (by decide +kernel) sd_X10_never sd_X11_never ky_X10_never ky_X11_never kv_X10_never kv_X11_never (by decide) (by decide) h_never hR kk
  | 24, e1 => cases e1; exact lw_caseI C (ks := [1, 2]) (fun k hk9 => hk 2 (by decide) k hk9) (am_fb_ok lf_was) (by decide +kernel) sd_X10_was sd_X11_was ky_X10_was ky_X11_was kv_X10_was kv_X11_was (by decide) (by decide) h_was hR kk
  | 25, e1 => cases e1; exact lw_caseI C (ks := [1]) (fun k hk9 => hk 1 (by decide) k hk9) (am_fb_ok lf_ask) (by decide +kernel) sd_X10_ask sd_X11_ask ky_X10_ask ky_X11_ask kv_X10_ask kv_X11_ask (by decide) (by decide) h_ask hR kk
  | 26, e1 => cases e1; exact lw_caseL C (ks := [1, 2, 3, 4]) (fun k hk9 => hk 4 (by decide) k hk9) (am_fb_ok lf_risk) (by decide +kernel) sd_X10_risk sd_X11_risk ky_X10_risk ky_X11_risk kv_X10_risk kv_X11_risk (by decide) (by decide) h_risk hR kk
  | 27, e1 => cases e1; exact lw_caseI C (ks := [1, 2, 3]) (fun k hk9 => hk 3 (by decide) k hk9) (am_fb_ok lf_century) (by decide +kernel) sd_X10_century sd_X11_century ky_X10_century ky_X11_century kv_X10_century kv_X11_century (by decide) (by decide) h_century hR kk
  | 28, e1 => cases e1; exact lw_caseI C (ks := [1, 2, 3]) (fun k hk9 => hk 3 (by decide) k hk9) (am_fb_ok lf_sheet) (by decide +kernel) sd_X10_sheet sd_X11_sheet ky_X10_sheet ky_X11_sheet kv_X10_sheet kv_X11_sheet (by decide) (by decide) h_sheet hR kk
  | 29, e1 => cases e1; exact lw_caseI C (ks := [1]) (fun k hk9 => hk 1 (by decide) k hk9) (am_fb_ok lf_lose) (by decide +kernel) sd_X10_lose sd_X11_lose ky_X10_lose ky_X11_lose kv_X10_lose kv_X11_lose (by decide) (by decide) h_lose hR kk
  | 30, e1 => cases e1; exact lw_caseI C (ks := [1, 2, 3, 4]) (fun k hk9 => hk 4 (by decide) k hk9) (am_fb_ok lf_lay) (by decide +kernel) sd_X10_lay sd_X11_lay ky_X10_lay ky_X11_lay kv_X10_lay kv_X11_lay (by decide) (by decide) h_lay hR kk
  | 31, e1 => cases e1; exact lw_caseI C (ks := [1, 2, 3]) (fun k hk9 => hk 3 (by decide) k hk9) (am_fb_ok lf_get) (by decide +kernel) sd_X10_get sd_X11_get ky_X10_get ky_X11_get kv_X10_get kv_X11_get (by decide) (by decide) h_get hR kk
  | 32, e1 => cases e1; exact lw_caseI C (ks := [1, 2, 3, 4, 5]) (fun k hk9 => hk 5 (by decide) k hk9) (am_fb_ok lf_copy) (by decide +kernel) sd_X10_copy sd_X11_copy ky_X10_copy ky_X11_copy kv_X10_copy kv_X11_copy (by decide) (by decide) h_copy hR kk
  | 33, e1 => cases e1; exact lw_caseI C (ks := [1, 2]) (fun k hk9 => hk 2 (by decide) k hk9) (am_fb_ok lf_write) (by decide +kernel) sd_X10_write sd_X11_write ky_X10_write ky_X11_write kv_X10_write kv_X11_write (by decide) (by decide) h_write hR kk
  | 34, e1 => cases e1; exact lw_caseI C (ks := [1]) (fun k hk9 => hk 1 (by decide) k hk9) (am_fb_ok lf_count) (by decide +kernel) sd_X10_count sd_X11_count ky_X10_count ky_X11_count kv_X10_count kv_X11_count (by decide) (by decide) h_count hR kk
  | 35, e1 => cases e1; exact lw_caseL C (ks := []) (fun k hk9 => hk 0 (by decide) k hk9) (am_fb_ok lf_digest) (by decide +kernel) sd_X10_digest sd_X11_digest ky_X10_digest ky_X11_digest kv_X10_digest kv_X11_digest (by decide) (by decide) h_digest hR kk
  | n + 36, e1 => exact absurd e1 (by simp [lw_hd])
theorem lw_d : am_fb code 18 [(.iload_n 3, 1, none), (.aload_n 0, 1, none), (.arraylength, 1, none), (.bipush 6, 2, none), (.isub, 1, none), (.if_icmp .gt 1294, 3, none), (.aload_n 0, 1, none), (.iload_n 3, 1, none), (.iaload, 1, none), (.bipush 63, 2, none), (.iand, 1, none), (.tableswitch 1279 0 35 #[159, 192, 215, 238, 261, 294, 317, 340, 393, 406, 429, 472, 515, 548, 571, 584, 607, 630, 653, 686, 719, 762, 805, 818, 831, 864, 887, 941, 984, 1027, 1050, 1103, 1146, 1209, 1242, 1265], 159, none)] = true := by decide +kernel
theorem lw_d2 : am_fb code 1312 [(.iinc 3 6, 3, none), (.goto (-1297), 3, none), (.iconst 1, 1, none), (.ireturn, 1, none)] = true := by decide +kernel
theorem lw_gt {L i : Nat} (hL : L ≤ 384) (hi : i ≤ 400) : nI L - 6 < nI i ↔ L < i + 6 := by
  have h1 : (nI L - nI 6).toInt = (L : Int) - 6 := pk_sub_toInt (by omega) (by omega)
  have h2 : (nI L - 6 : Int32) = nI L - nI 6 := rfl
  rw [h2, Int32.lt_iff_toInt_lt, h1, nI_toInt (by omega)]
  omega
theorem lw_offs : (#[159, 192, 215, 238, 261, 294, 317, 340, 393, 406, 429, 472, 515, 548, 571, 584, 607, 630, 653, 686, 719, 762, 805, 818, 831, 864, 887, 941, 984, 1027, 1050, 1103, 1146, 1209, 1242, 1265] : Array Int).toList = lw_hd.map (fun h : Nat => (h : Int) - 33) := by decide +kernel
set_option maxHeartbeats 4000000 in
set_option maxRecDepth 100000 in
theorem lw_loop (C : lw_C p s m meth c b L xs D cs adX adM nc ns) {Rel : am_M → am_M → Prop} (hop : lw_All Rel) : ∀ (n j : Nat) (μX μM : am_M), 6 * j ≤ 390 → L < 6 * j + n → Rel μX μM → lw_W p l e s m below meth c b D cs adX adM nc ns 18 [] (nI (6 * j)) μX μM := by
  obtain ⟨⟨hx, hb, hr, hml, hown, hts, hX, hbl, hlocks, hgv⟩, hL, hK, hDX, hDM, hap, hnc, hns⟩ := id C
  have hbA : ¬ (fun q : Nat => s.heap.size ≤ q) b := Nat.not_le.mpr hbl
  obtain ⟨a1, -, a2, -, a3, -, a4, -, a5, -, a6, -, a7, -, a8, -, a9, -, a10, -, a11, -, a12, -, -⟩ := am_fb_ok lw_d
  obtain ⟨b1, -, b2, -, b3, -, b4, -, -⟩ := am_fb_ok lw_d2
  intro n
  induction n with
  | zero =>
    intro j μX μM h1 h2 hR H locs ls hPX hPM hS hl
    refine lv_iload_n hx hb a1 rfl (lv_at hl 3 rfl) ?_
    refine lv_aload_n hx hb a2 rfl (lv_at hl 0 rfl) ?_
    refine va_slen hx hb hX hbl hbA hS a3 ?_
    refine lv_bipush (v := 6) hx hb a4 (by decide) ?_
    refine lv_isub hx hb a5 ?_
    refine lv_icmp_gt (tgt := 1318) hx hb a6 (by decide) (fun c_1 => ?_) (fun c_1 => absurd ((lw_gt hL (by omega)).mpr (by omega)) c_1)
    refine lv_iconst (v := 1) hx hb b3 (by decide) ?_
    refine va_forget (fun q hq => hS.2.2 q hq) ?_
    refine W.widen (k := 600000) (n := 7302250) hnc hns ?_
    exact lw_ret hx hb hr hlocks b4
  | succ n ih =>
    intro j μX μM h1 h2 hR H locs ls hPX hPM hS hl
    refine lv_iload_n hx hb a1 rfl (lv_at hl 3 rfl) ?_
    refine lv_aload_n hx hb a2 rfl (lv_at hl 0 rfl) ?_
    refine va_slen hx hb hX hbl hbA hS a3 ?_
    refine lv_bipush (v := 6) hx hb a4 (by decide) ?_
    refine lv_isub hx hb a5 ?_
    refine lv_icmp_gt (tgt := 1318) hx hb a6 (by decide) (fun c_1 => ?_) (fun c_1 => ?_)
    · refine lv_iconst (v := 1) hx hb b3 (by decide) ?_
      refine va_forget (fun q hq => hS.2.2 q hq) ?_
      refine W.widen (k := 600000) (n := 7302250) hnc hns ?_
      exact lw_ret hx hb hr hlocks b4
    · have h6 : 6 * j + 6 ≤ L := by
        rcases Nat.lt_or_ge L (6 * j + 6) with q | q
        · exact absurd ((lw_gt hL (by omega)).mpr q) c_1
        · exact q
      have kk : ∀ μX' μM', Rel μX' μM' → lw_W p l e s m below meth c b D cs adX adM nc ns 1312 [] (nI (6 * j)) μX' μM' := by
        intro μX' μM' hR' H locs ls hPX hPM hS hl
        refine lv_iinc (v := nI (6 * (j + 1))) (lv' := [(3, .int (nI (6 * (j + 1)))), (0, .ref b), (1, .ref (adX 0)), (2, .ref (adM 0))]) hx hb b1 hl (k := 3) rfl (by show nI (6 * j) + nI 6 = _; rw [nI_add]; rfl) (by decide) rfl (fun ls hl => ?_)
        refine lv_goto (tgt := 18) hx hb b2 (by decide) ?_
        exact ih (j + 1) μX' μM' (by omega) (by omega) hR' H locs ls hPX hPM hS (lv_sub hl [1, 2, 3, 0] rfl)
      refine lv_aload_n hx hb a7 rfl (lv_at hl 0 rfl) ?_
      refine lv_iload_n hx hb a8 rfl (lv_at hl 3 rfl) ?_
      refine va_sld hx hb hX hbl hbA hS (vp_in_nI (show 6 * j < L by omega) (by omega)) a9 ?_
      refine lv_bipush (v := 63) hx hb a10 (by decide) ?_
      refine lv_iand hx hb a11 ?_
      obtain ⟨k, hk, hk2⟩ := pk_andE (xs (nI (6 * j)).toNatClampNeg) (m := 63) 6 (by decide +kernel)
      rw [hk2]
      have hki : (nI k).toInt = (k : Int) := nI_toInt (by omega)
      by_cases h36 : k < 36
      · obtain ⟨h, hh⟩ : ∃ h, lw_hd[k]? = some h := ⟨_, List.getElem?_eq_getElem h36⟩
        have hoff : (#[159, 192, 215, 238, 261, 294, 317, 340, 393, 406, 429, 472, 515, 548, 571, 584, 607, 630, 653, 686, 719, 762, 805, 818, 831, 864, 887, 941, 984, 1027, 1050, 1103, 1146, 1209, 1242, 1265] : Array Int)[k]? = some ((h : Int) - 33) := by
          have h9 : (lw_hd.map (fun h : Nat => (h : Int) - 33))[k]? = some ((h : Int) - 33) := by rw [List.getElem?_map, hh]; rfl
          rw [← Array.getElem?_toList, lw_offs]
          exact h9
        refine lv_tableIn hx hb a12 (by rw [hki]; omega) (by rw [hki]; omega) (off := (h : Int) - 33) (by rw [hki]; simpa using hoff) (tgt := h) (by show ((33 : Nat) : Int) + _ = _; omega) ?_
        exact lw_cases C (by omega) hop hR kk k h hh H locs ls hPX hPM hS hl
      · refine lv_tableOut hx hb a12 (by rw [hki]; omega) (tgt := 1312) (by decide) ?_
        exact kk μX μM hR H locs ls hPX hPM hS hl
end LWM
