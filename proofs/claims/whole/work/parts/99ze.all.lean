/-! EVERY OPERATION (made by mkall.py) -/
theorem al_type : lw_Op Rel f_X10_type f_X11_type 2 := by
  rintro as has μX μM ⟨σ, hw, hX, hM⟩
  have w0 := (oD_wf σ).1
  match as, has with
  | [a, b], _ =>
    exact Rel.op hX (op_type hw hX.1 hM a b)
theorem al_wipe : lw_Op Rel f_X10_wipe f_X11_wipe 1 := by
  rintro as has μX μM ⟨σ, hw, hX, hM⟩
  have w0 := (oD_wf σ).1
  match as, has with
  | [a], _ =>
    exact Rel.op hX (op_wipe hw hX.1 hM a)
theorem al_undo : lw_Op Rel f_X10_undo f_X11_undo 1 := by
  rintro as has μX μM ⟨σ, hw, hX, hM⟩
  have w0 := (oD_wf σ).1
  match as, has with
  | [a], _ =>
    exact Rel.op hX (op_undo hw hX.1 hM a)
theorem al_fault : lw_Op Rel f_X10_fault f_X11_fault 1 := by
  rintro as has μX μM ⟨σ, hw, hX, hM⟩
  have w0 := (oD_wf σ).1
  match as, has with
  | [a], _ =>
    rcases rg_cases a (n := 3) (by omega) with h | ⟨a, ha, rfl⟩
    · exact Rel.q hw hX hM (xq_fault_bad (h)) (mq_fault_bad (h))
    exact Rel.q hw hX hM (xq_fault hw ha) (mq_fault hw ha)
theorem al_strand : lw_Op Rel f_X10_strand f_X11_strand 2 := by
  rintro as has μX μM ⟨σ, hw, hX, hM⟩
  have w0 := (oD_wf σ).1
  match as, has with
  | [a, b], _ =>
    rcases rg_cases a (n := (dn (oD σ))) (by omega) with h | ⟨a, ha, rfl⟩
    · exact Rel.q hw hX hM (xq_strand_bad hw (by rw [h]; simp)) (mq_strand_bad hw (by rw [h]; simp))
    rcases rg_cases b (n := 9) (by omega) with h | ⟨b, hb, rfl⟩
    · exact Rel.q hw hX hM (xq_strand_bad hw (by rw [h]; simp)) (mq_strand_bad hw (by rw [h]; simp))
    exact Rel.q hw hX hM (xq_strand hw ha hb) (mq_strand hw ha hb)
theorem al_tide : lw_Op Rel f_X10_tide f_X11_tide 1 := by
  rintro as has μX μM ⟨σ, hw, hX, hM⟩
  have w0 := (oD_wf σ).1
  match as, has with
  | [a], _ =>
    rcases rg_cases a (n := 20) (by omega) with h | ⟨a, ha, rfl⟩
    · exact Rel.q hw hX hM (xq_tide_bad (h)) (mq_tide_bad hw (h))
    exact Rel.q hw hX hM (xq_tide hw ha) (mq_tide hw ha)
theorem al_route : lw_Op Rel f_X10_route f_X11_route 1 := by
  rintro as has μX μM ⟨σ, hw, hX, hM⟩
  have w0 := (oD_wf σ).1
  match as, has with
  | [a], _ =>
    rcases rg_cases a (n := 8) (by omega) with h | ⟨a, ha, rfl⟩
    · exact Rel.q hw hX hM (xq_route_bad (h)) (mq_route_bad hw (h))
    exact Rel.q hw hX hM (xq_route hw ha) (mq_route hw ha)
theorem al_event : lw_Op Rel f_X10_event f_X11_event 4 := by
  rintro as has μX μM ⟨σ, hw, hX, hM⟩
  have w0 := (oD_wf σ).1
  match as, has with
  | [a, b, c, d], _ =>
    exact Rel.op hX (op_event hw hX.1 hM a b c d)
theorem al_back : lw_Op Rel f_X10_back f_X11_back 0 := by
  rintro as has μX μM ⟨σ, hw, hX, hM⟩
  have w0 := (oD_wf σ).1
  match as, has with
  | [], _ =>
    exact Rel.op hX (op_back hw hX.1 hM)
theorem al_read : lw_Op Rel f_X10_read f_X11_read 1 := by
  rintro as has μX μM ⟨σ, hw, hX, hM⟩
  have w0 := (oD_wf σ).1
  match as, has with
  | [a], _ =>
    exact Rel.op hX (op_read hw hX.1 hM a)
theorem al_state : lw_Op Rel f_X10_state f_X11_state 3 := by
  rintro as has μX μM ⟨σ, hw, hX, hM⟩
  have w0 := (oD_wf σ).1
  match as, has with
  | [a, b, c], _ =>
    rcases rg_cases a (n := 20) (by omega) with h | ⟨a, ha, rfl⟩
    · exact Rel.q hw hX hM (xq_state_bad hw (by rw [h]; simp)) (mq_state_bad hw (by rw [h]; simp))
    rcases rg_cases b (n := (dn (oD σ))) (by omega) with h | ⟨b, hb, rfl⟩
    · exact Rel.q hw hX hM (xq_state_bad hw (by rw [h]; simp)) (mq_state_bad hw (by rw [h]; simp))
    rcases rg_cases c (n := 2) (by omega) with h | ⟨c, hc, rfl⟩
    · exact Rel.q hw hX hM (xq_state_bad hw (by rw [h]; simp)) (mq_state_bad hw (by rw [h]; simp))
    exact Rel.q hw hX hM (xq_state hw ha hb hc) (mq_state hw ha hb hc)
theorem al_says : lw_Op Rel f_X10_says f_X11_says 3 := by
  rintro as has μX μM ⟨σ, hw, hX, hM⟩
  have w0 := (oD_wf σ).1
  match as, has with
  | [a, b, c], _ =>
    rcases rg_cases a (n := 20) (by omega) with h | ⟨a, ha, rfl⟩
    · exact Rel.q hw hX hM (xq_says_bad hw (by rw [h]; simp)) (mq_says_bad hw (by rw [h]; simp))
    rcases rg_cases b (n := (dn (oD σ))) (by omega) with h | ⟨b, hb, rfl⟩
    · exact Rel.q hw hX hM (xq_says_bad hw (by rw [h]; simp)) (mq_says_bad hw (by rw [h]; simp))
    rcases rg_cases c (n := 6) (by omega) with h | ⟨c, hc, rfl⟩
    · exact Rel.q hw hX hM (xq_says_bad hw (by rw [h]; simp)) (mq_says_bad hw (by rw [h]; simp))
    exact Rel.q hw hX hM (xq_says hw ha hb hc) (mq_says hw ha hb hc)
theorem al_deed : lw_Op Rel f_X10_deed f_X11_deed 2 := by
  rintro as has μX μM ⟨σ, hw, hX, hM⟩
  have w0 := (oD_wf σ).1
  match as, has with
  | [a, b], _ =>
    rcases rg_cases a (n := (dn (oD σ))) (by omega) with h | ⟨a, ha, rfl⟩
    · exact Rel.q hw hX hM (xq_deed_bad hw (by rw [h]; simp)) (mq_deed_bad hw (by rw [h]; simp))
    rcases rg_cases b (n := 2) (by omega) with h | ⟨b, hb, rfl⟩
    · exact Rel.q hw hX hM (xq_deed_bad hw (by rw [h]; simp)) (mq_deed_bad hw (by rw [h]; simp))
    exact Rel.q hw hX hM (xq_deed hw ha hb) (mq_deed hw ha hb)
theorem al_voids : lw_Op Rel f_X10_voids f_X11_voids 1 := by
  rintro as has μX μM ⟨σ, hw, hX, hM⟩
  have w0 := (oD_wf σ).1
  match as, has with
  | [a], _ =>
    rcases rg_cases a (n := 20) (by omega) with h | ⟨a, ha, rfl⟩
    · exact Rel.q hw hX hM (xq_voids_bad (h)) (mq_voids_bad hw (h))
    exact Rel.q hw hX hM (xq_voids hw ha) (mq_voids hw ha)
theorem al_forged : lw_Op Rel f_X10_forged f_X11_forged 0 := by
  rintro as has μX μM ⟨σ, hw, hX, hM⟩
  have w0 := (oD_wf σ).1
  match as, has with
  | [], _ =>
    exact Rel.q hw hX hM (xq_forged hw) (mq_forged hw)
theorem al_tangled : lw_Op Rel f_X10_tangled f_X11_tangled 1 := by
  rintro as has μX μM ⟨σ, hw, hX, hM⟩
  have w0 := (oD_wf σ).1
  match as, has with
  | [a], _ =>
    rcases rg_cases a (n := 2) (by omega) with h | ⟨a, ha, rfl⟩
    · exact Rel.q hw hX hM (xq_tangled_bad (h)) (mq_tangled_bad hw (h))
    exact Rel.q hw hX hM (xq_tangled hw ha) (mq_tangled hw ha)
theorem al_reads : lw_Op Rel f_X10_reads f_X11_reads 1 := by
  rintro as has μX μM ⟨σ, hw, hX, hM⟩
  have w0 := (oD_wf σ).1
  match as, has with
  | [a], _ =>
    rcases rg_cases a (n := 9) (by omega) with h | ⟨a, ha, rfl⟩
    · exact Rel.q hw hX hM (xq_reads_bad (h)) (mq_reads_bad hw (h))
    exact Rel.q hw hX hM (xq_reads hw ha) (mq_reads hw ha)
theorem al_tour : lw_Op Rel f_X10_tour f_X11_tour 1 := by
  rintro as has μX μM ⟨σ, hw, hX, hM⟩
  have w0 := (oD_wf σ).1
  match as, has with
  | [a], _ =>
    rcases rg_cases a (n := 10) (by omega) with h | ⟨a, ha, rfl⟩
    · exact Rel.q hw hX hM (xq_tour_bad (h)) (mq_tour_bad hw (h))
    exact Rel.q hw hX hM (xq_tour hw ha) (mq_tour hw ha)
theorem al_hang : lw_Op Rel f_X10_hang f_X11_hang 2 := by
  rintro as has μX μM ⟨σ, hw, hX, hM⟩
  have w0 := (oD_wf σ).1
  match as, has with
  | [a, b], _ =>
    rcases rg_cases a (n := 3) (by omega) with h | ⟨a, ha, rfl⟩
    · exact Rel.q hw hX hM (xq_hang_bad (by rw [h]; simp)) (mq_hang_bad hw (by rw [h]; simp))
    rcases rg_cases b (n := 2) (by omega) with h | ⟨b, hb, rfl⟩
    · exact Rel.q hw hX hM (xq_hang_bad (by rw [h]; simp)) (mq_hang_bad hw (by rw [h]; simp))
    exact Rel.q hw hX hM (xq_hang hw ha hb) (mq_hang hw ha hb)
theorem al_save : lw_Op Rel f_X10_save f_X11_save 2 := by
  rintro as has μX μM ⟨σ, hw, hX, hM⟩
  have w0 := (oD_wf σ).1
  match as, has with
  | [a, b], _ =>
    rcases rg_cases a (n := (dn (oD σ))) (by omega) with h | ⟨a, ha, rfl⟩
    · exact Rel.q hw hX hM (xq_save_bad hw (by rw [h]; simp)) (mq_save_bad hw (by rw [h]; simp))
    have hq : rgm b 2 = false ∨ ∃ i : Option Nat, (∀ j, i = some j → j < 2) ∧ b = oI i := by
      rcases rgm_cases b (n := 2) (by omega) with h | h | ⟨j, hj, h⟩
      · exact Or.inl h
      · exact Or.inr ⟨none, fun j hj => (by cases hj), h⟩
      · exact Or.inr ⟨some j, fun i hi => (by cases hi; exact hj), h⟩
    rcases hq with h | ⟨i, hi, rfl⟩
    · exact Rel.q hw hX hM (xq_save_bad hw (by rw [h]; simp)) (mq_save_bad hw (by rw [h]; simp))
    exact Rel.q hw hX hM (xq_save hw ha hi) (mq_save hw ha hi)
theorem al_fill : lw_Op Rel f_X10_fill f_X11_fill 3 := by
  rintro as has μX μM ⟨σ, hw, hX, hM⟩
  have w0 := (oD_wf σ).1
  match as, has with
  | [a, b, c], _ =>
    rcases rg_cases a (n := 20) (by omega) with h | ⟨a, ha, rfl⟩
    · exact Rel.q hw hX hM (xq_fill_bad hw (by rw [h]; simp)) (mq_fill_bad hw (by rw [h]; simp))
    rcases rg_cases b (n := (dn (oD σ))) (by omega) with h | ⟨b, hb, rfl⟩
    · exact Rel.q hw hX hM (xq_fill_bad hw (by rw [h]; simp)) (mq_fill_bad hw (by rw [h]; simp))
    have hq : rgm c 6 = false ∨ ∃ i : Option Nat, (∀ j, i = some j → j < 6) ∧ c = oI i := by
      rcases rgm_cases c (n := 6) (by omega) with h | h | ⟨j, hj, h⟩
      · exact Or.inl h
      · exact Or.inr ⟨none, fun j hj => (by cases hj), h⟩
      · exact Or.inr ⟨some j, fun i hi => (by cases hi; exact hj), h⟩
    rcases hq with h | ⟨i, hi, rfl⟩
    · exact Rel.q hw hX hM (xq_fill_bad hw (by rw [h]; simp)) (mq_fill_bad hw (by rw [h]; simp))
    exact Rel.q hw hX hM (xq_fill hw ha hb hi) (mq_fill hw ha hb hi)
theorem al_seen : lw_Op Rel f_X10_seen f_X11_seen 3 := by
  rintro as has μX μM ⟨σ, hw, hX, hM⟩
  have w0 := (oD_wf σ).1
  match as, has with
  | [a, b, c], _ =>
    exact Rel.op hX (op_seen hw hX.1 hM a b c)
theorem al_forget : lw_Op Rel f_X10_forget f_X11_forget 0 := by
  rintro as has μX μM ⟨σ, hw, hX, hM⟩
  have w0 := (oD_wf σ).1
  match as, has with
  | [], _ =>
    exact Rel.op hX (op_forget hw hX.1 hM)
theorem al_never : lw_Op Rel f_X10_never f_X11_never 0 := by
  rintro as has μX μM ⟨σ, hw, hX, hM⟩
  have w0 := (oD_wf σ).1
  match as, has with
  | [], _ =>
    exact Rel.q hw hX hM (xq_never hw) (mq_never hw)
theorem al_was : lw_Op Rel f_X10_was f_X11_was 2 := by
  rintro as has μX μM ⟨σ, hw, hX, hM⟩
  have w0 := (oD_wf σ).1
  match as, has with
  | [a, b], _ =>
    rcases rg_cases a (n := (dn (oD σ))) (by omega) with h | ⟨a, ha, rfl⟩
    · exact Rel.q hw hX hM (xq_was_bad hw (by rw [h]; simp)) (mq_was_bad hw (by rw [h]; simp))
    rcases rg_cases b (n := 2) (by omega) with h | ⟨b, hb, rfl⟩
    · exact Rel.q hw hX hM (xq_was_bad hw (by rw [h]; simp)) (mq_was_bad hw (by rw [h]; simp))
    exact Rel.q hw hX hM (xq_was hw ha hb) (mq_was hw ha hb)
theorem al_ask : lw_Op Rel f_X10_ask f_X11_ask 1 := by
  rintro as has μX μM ⟨σ, hw, hX, hM⟩
  have w0 := (oD_wf σ).1
  match as, has with
  | [a], _ =>
    rcases rg_cases a (n := (dn (oD σ))) (by omega) with h | ⟨a, ha, rfl⟩
    · exact Rel.q hw hX hM (xq_ask_bad hw (h)) (mq_ask_bad hw (h))
    exact Rel.q hw hX hM (xq_ask hw ha) (mq_ask hw ha)
theorem al_risk : lw_Op Rel f_X10_risk f_X11_risk 4 := by
  rintro as has μX μM ⟨σ, hw, hX, hM⟩
  have w0 := (oD_wf σ).1
  match as, has with
  | [a, b, c, d], _ =>
    rcases rg_cases a (n := 17) (by omega) with h | ⟨a, ha, rfl⟩
    · exact Rel.q hw hX hM (xq_risk_bad hw (by rw [h]; simp)) (mq_risk_bad hw (by rw [h]; simp))
    rcases rg_cases b (n := (dn (oD σ))) (by omega) with h | ⟨b, hb, rfl⟩
    · exact Rel.q hw hX hM (xq_risk_bad hw (by rw [h]; simp)) (mq_risk_bad hw (by rw [h]; simp))
    rcases rg_cases c (n := 20) (by omega) with h | ⟨c, hc, rfl⟩
    · exact Rel.q hw hX hM (xq_risk_bad hw (by rw [h]; simp)) (mq_risk_bad hw (by rw [h]; simp))
    rcases rg_cases d (n := 2) (by omega) with h | ⟨d, hd, rfl⟩
    · exact Rel.q hw hX hM (xq_risk_bad hw (by rw [h]; simp)) (mq_risk_bad hw (by rw [h]; simp))
    exact Rel.q hw hX hM (xq_risk hw ha hb hc hd) (mq_risk hw ha hb hc hd)
theorem al_century : lw_Op Rel f_X10_century f_X11_century 3 := by
  rintro as has μX μM ⟨σ, hw, hX, hM⟩
  have w0 := (oD_wf σ).1
  match as, has with
  | [a, b, c], _ =>
    rcases rg_cases b (n := 9) (by omega) with h | ⟨b, hb, rfl⟩
    · exact Rel.q hw hX hM (xq_cent_bad (by rw [h]; simp)) (mq_cent_bad hw (by rw [h]; simp))
    rcases rg_cases c (n := 2) (by omega) with h | ⟨c, hc, rfl⟩
    · exact Rel.q hw hX hM (xq_cent_bad (by rw [h]; simp)) (mq_cent_bad hw (by rw [h]; simp))
    exact Rel.q hw hX hM (xq_cent hw a hb hc) (mq_cent hw a hb hc)
theorem al_sheet : lw_Op Rel f_X10_sheet f_X11_sheet 3 := by
  rintro as has μX μM ⟨σ, hw, hX, hM⟩
  have w0 := (oD_wf σ).1
  match as, has with
  | [a, b, c], _ =>
    exact Rel.op hX (op_sheet hw hX.1 hM a b c)
theorem al_lose : lw_Op Rel f_X10_lose f_X11_lose 1 := by
  rintro as has μX μM ⟨σ, hw, hX, hM⟩
  have w0 := (oD_wf σ).1
  match as, has with
  | [a], _ =>
    exact Rel.op hX (op_lose hw hX.1 hM a)
theorem al_lay : lw_Op Rel f_X10_lay f_X11_lay 4 := by
  rintro as has μX μM ⟨σ, hw, hX, hM⟩
  have w0 := (oD_wf σ).1
  match as, has with
  | [a, b, c, d], _ =>
    exact Rel.op hX (op_lay hw hX.1 hM a b c d)
theorem al_get : lw_Op Rel f_X10_get f_X11_get 3 := by
  rintro as has μX μM ⟨σ, hw, hX, hM⟩
  have w0 := (oD_wf σ).1
  match as, has with
  | [a, b, c], _ =>
    exact Rel.op hX (op_get hw hX.1 hM a b c)
theorem al_copy : lw_Op Rel f_X10_copy f_X11_copy 5 := by
  rintro as has μX μM ⟨σ, hw, hX, hM⟩
  have w0 := (oD_wf σ).1
  match as, has with
  | [a, b, c, d, e], _ =>
    exact Rel.op hX (op_copy hw hX.1 hM a b c d e)
theorem al_write : lw_Op Rel f_X10_write f_X11_write 2 := by
  rintro as has μX μM ⟨σ, hw, hX, hM⟩
  have w0 := (oD_wf σ).1
  match as, has with
  | [a, b], _ =>
    exact op_write hw hX hM a b
theorem al_count : lw_Op Rel f_X10_count f_X11_count 1 := by
  rintro as has μX μM ⟨σ, hw, hX, hM⟩
  have w0 := (oD_wf σ).1
  match as, has with
  | [a], _ =>
    rcases rg_cases a (n := 9) (by omega) with h | ⟨a, ha, rfl⟩
    · exact Rel.q hw hX hM (xq_count_bad hw (h)) (mq_count_bad hw (h))
    exact Rel.q hw hX hM (xq_count hw ha) (mq_count hw ha)
theorem al_digest : lw_Op Rel f_X10_digest f_X11_digest 0 := by
  rintro as has μX μM ⟨σ, hw, hX, hM⟩
  have w0 := (oD_wf σ).1
  match as, has with
  | [], _ =>
    exact Rel.q hw hX hM (xq_digest hw) (mq_digest hw)
theorem all_ops : lw_All Rel := ⟨al_type, al_wipe, al_undo, al_fault, al_strand, al_tide, al_route, al_event, al_back, al_read, al_state, al_says, al_deed, al_voids, al_forged, al_tangled, al_reads, al_tour, al_hang, al_save, al_fill, al_seen, al_forget, al_never, al_was, al_ask, al_risk, al_century, al_sheet, al_lose, al_lay, al_get, al_copy, al_write, al_count, al_digest⟩
/-! the first memories -/
def σ0 : Sg := (fun _ => [], [], [], fun _ => (true, 0, []), 0)
theorem wf0 : wfS σ0 := ⟨fun t _ => ⟨Nat.zero_le _, fun b hb => by cases hb⟩, ⟨Nat.zero_le _, fun e he => by cases he⟩, ⟨Nat.zero_le _, fun e he => by cases he⟩, fun s _ => ⟨show (0 : Nat) < 3 by decide, show (0 : Nat) ≤ 60 by decide⟩⟩
theorem RXz : RX σ0 mX0 := by
  refine ⟨fun t ht => ⟨?_, ?_, fun i b hb => ?_⟩, ⟨rfl, fun i e he => ?_⟩, ⟨rfl, fun i e he => ?_⟩, fun s hs => ⟨?_, fun h => ?_, ?_, fun i v hv => ?_⟩, rfl⟩
  · match t, ht with
    | 0, _ => rfl
    | 1, _ => rfl
    | 2, _ => rfl
    | n + 3, h => omega
  · match t, ht with
    | 0, _ => rfl
    | 1, _ => rfl
    | 2, _ => rfl
    | n + 3, h => omega
  · simp [sT, σ0] at hb
  · simp [sE, σ0] at he
  · simp [sG, σ0] at he
  · match s, hs with
    | 0, _ => rfl
    | 1, _ => rfl
    | 2, _ => rfl
    | 3, _ => rfl
    | n + 4, h => omega
  · cases h
  · match s, hs with
    | 0, _ => rfl
    | 1, _ => rfl
    | 2, _ => rfl
    | 3, _ => rfl
    | n + 4, h => omega
  · simp [sF, σ0] at hv
theorem RMz : RM σ0 mM0 := by
  refine ⟨fun t ht => ⟨rfl, fun i b hb => ?_⟩, ⟨rfl, fun i e he => ?_⟩, ⟨rfl, fun i e he => ?_⟩, fun s hs => ⟨?_, rfl, fun i v hv => ?_⟩, rfl, rfl⟩
  · simp [sT, σ0] at hb
  · simp [sE, σ0] at he
  · simp [sG, σ0] at he
  · match s, hs with
    | 0, _ => rfl
    | 1, _ => rfl
    | 2, _ => rfl
    | 3, _ => rfl
    | n + 4, h => omega
  · simp [sF, σ0] at hv
theorem Rel0 : Rel mX0 mM0 := ⟨σ0, wf0, ⟨RXz, Or.inl rfl⟩, RMz⟩
