/-! THE MEMORIES BEHIND THE CONSTRUCTORS, by program (mkinit.py) -/
def mX0 : am_M := fun k => if k = 0 then (upd (fun _ => 0) 16 1) else if k = 1 then (upd (upd (fun _ => 0) 1 71) 3 (-1)) else if k = 3 then (upd (upd (fun _ => 0) 1 20) 3 (-1)) else if k = 5 then (upd (upd (fun _ => 0) 1 8) 3 (-1)) else if k = 81 then (upd (fun _ => 0) 3 1) else if k = 94 then (upd (fun _ => 0) 0 1) else if k = 96 then (upd (fun _ => 0) 0 1) else if k = 98 then (upd (fun _ => 0) 0 1) else if k = 100 then (upd (fun _ => 0) 0 1) else fun _ => 0
def mM0 : am_M := fun k => if k = 1 then (upd (upd (upd (upd (fun _ => 0) 0 (-1)) 1 (-1)) 2 (-1)) 3 (-1)) else fun _ => 0
theorem cw_up4 (ad : Nat → Nat) (r0 r1 r2 r3 : Nat) : (va_up (va_up (va_up (va_up (fun _ => none) 0 (some (ad r0))) 1 (some (ad r1))) 2 (some (ad r2))) 3 (some (ad r3))) = fun j => (([r0, r1, r2, r3] : List Nat)[j]?).map ad := by
  funext j
  match j with
  | 0 => rfl
  | 1 => rfl
  | 2 => rfl
  | 3 => rfl
  | n + 4 =>
    unfold va_up
    rw [if_neg (by omega)]
    rw [if_neg (by omega)]
    rw [if_neg (by omega)]
    rw [if_neg (by omega)]
    simp
theorem cw_up8 (ad : Nat → Nat) (r0 r1 r2 r3 r4 r5 r6 r7 : Nat) : (va_up (va_up (va_up (va_up (va_up (va_up (va_up (va_up (fun _ => none) 0 (some (ad r0))) 1 (some (ad r1))) 2 (some (ad r2))) 3 (some (ad r3))) 4 (some (ad r4))) 5 (some (ad r5))) 6 (some (ad r6))) 7 (some (ad r7))) = fun j => (([r0, r1, r2, r3, r4, r5, r6, r7] : List Nat)[j]?).map ad := by
  funext j
  match j with
  | 0 => rfl
  | 1 => rfl
  | 2 => rfl
  | 3 => rfl
  | 4 => rfl
  | 5 => rfl
  | 6 => rfl
  | 7 => rfl
  | n + 8 =>
    unfold va_up
    rw [if_neg (by omega)]
    rw [if_neg (by omega)]
    rw [if_neg (by omega)]
    rw [if_neg (by omega)]
    rw [if_neg (by omega)]
    rw [if_neg (by omega)]
    rw [if_neg (by omega)]
    rw [if_neg (by omega)]
    simp
set_option maxHeartbeats 8000000 in
set_option maxRecDepth 100000 in
theorem in_X11 {cs : Nat → ClassId} {q0 : Nat} {ws : va_W} (h : ps_X11_init cs q0 ws) : ∃ ad : Nat → Nat, ad 0 = q0 ∧ ws = am_wl ShM ad cs mM0 := by
  obtain ⟨z_0, z_1, z_2, z_3, z_4, z_5, z_6, z_7, z_8, z_9, z_10, z_11, z_12, z_13, z_14, z_15, z_16, z_17, z_18, z_19, z_20, z_21, z_22, z_23, z_24, z_25, z_26, rfl⟩ := h
  refine ⟨fun k => ([q0, z_0, z_1, z_2, z_3, z_4, z_5, z_6, z_7, z_8, z_9, z_10, z_11, z_12, z_13, z_14, z_15, z_16, z_17, z_18, z_19, z_20, z_21, z_22, z_23, z_24, z_25, z_26] : List Nat).getD k 0, rfl, ?_⟩
  rw [am_wf_eq]
  rfl
