/-! TOOLS: numbers, bits, loops as folds, searches, invariants -/
def nN : Int32 := -1
theorem nN_lit : (-(nI 1) : Int32) = nN := rfl
def oI : Option Nat → Int32
  | some n => nI n
  | none => nN
theorem oI_s (n : Nat) : oI (some n) = nI n := rfl
theorem oI_n : oI none = nN := rfl
theorem nN_toInt : nN.toInt = -1 := rfl
theorem nI_eN {n : Nat} (h : n < 2 ^ 31) : (nI n = nN) = False := by
  refine eq_false (fun h9 => ?_)
  have h1 := congrArg Int32.toInt h9
  rw [nI_toInt h, nN_toInt] at h1
  omega
theorem nN_eI {n : Nat} (h : n < 2 ^ 31) : (nN = nI n) = False := by
  refine eq_false (fun h9 => ?_)
  have h1 := congrArg Int32.toInt h9
  rw [nI_toInt h, nN_toInt] at h1
  omega
theorem nN_ltI {n : Nat} (h : n < 2 ^ 31) : (nN < nI n) = True := by
  refine eq_true ?_
  rw [Int32.lt_iff_toInt_lt, nI_toInt h, nN_toInt]
  omega
theorem nN_leI {n : Nat} (h : n < 2 ^ 31) : (nN ≤ nI n) = True := by
  refine eq_true ?_
  rw [Int32.le_iff_toInt_le, nI_toInt h, nN_toInt]
  omega
theorem nI_ltN {n : Nat} (h : n < 2 ^ 31) : (nI n < nN) = False := by
  refine eq_false ?_
  rw [Int32.lt_iff_toInt_lt, nI_toInt h, nN_toInt]
  omega
theorem nI_leN {n : Nat} (h : n < 2 ^ 31) : (nI n ≤ nN) = False := by
  refine eq_false ?_
  rw [Int32.le_iff_toInt_le, nI_toInt h, nN_toInt]
  omega
theorem nN_nN : (nN < nN) = False := eq_false (by decide)
theorem nN_leN : (nN ≤ nN) = True := eq_true (by decide)
/-- a difference below 0 -/
theorem nI_sub_lt {a b : Nat} (ha : a < 2 ^ 30) (hb : b < 2 ^ 30) : (nI a - nI b < nI 0) = (a < b) := by
  refine propext ?_
  rw [Int32.lt_iff_toInt_lt, pk_sub_toInt ha hb, nI_toInt (by decide)]
  omega
theorem bI_e0 (b : Bool) : (bI b = nI 0) = (b = false) := by cases b <;> simp [bI, nI_lit, nI_eq]
theorem bI_e1 (b : Bool) : (bI b = nI 1) = (b = true) := by cases b <;> simp [bI, nI_lit, nI_eq]
theorem bI_ok (b : Bool) : bI b = 0 ∨ bI b = 1 := bI_01 b
theorem ntT {a b : Nat} (h : a < b) : (a < b) = True := eq_true h
theorem ntF {a b : Nat} (h : b ≤ a) : (a < b) = False := eq_false (by omega)
theorem nlT {a b : Nat} (h : a ≤ b) : (a ≤ b) = True := eq_true h
theorem nlF {a b : Nat} (h : b < a) : (a ≤ b) = False := eq_false (by omega)
theorem neT {a b : Nat} (h : a = b) : (a = b) = True := eq_true h
theorem neF {a b : Nat} (h : a ≠ b) : (a = b) = False := eq_false h
/-! folds -/
def fd {α : Type} (f : Nat → α → α) : Nat → α → α
  | 0, a => a
  | n + 1, a => f n (fd f n a)
theorem fd_0 {α : Type} (f : Nat → α → α) (a : α) : fd f 0 a = a := rfl
theorem fd_s {α : Type} (f : Nat → α → α) (n : Nat) (a : α) : fd f (n + 1) a = f n (fd f n a) := rfl
theorem fd_congr {α : Type} {f g : Nat → α → α} {n : Nat} (h : ∀ i a, i < n → f i a = g i a) (a : α) : fd f n a = fd g n a := by
  induction n with
  | zero => rfl
  | succ n ih => rw [fd_s, fd_s, ih (fun i a hi => h i a (by omega)), h n _ (by omega)]
theorem fd_inv {α : Type} {f : Nat → α → α} {n : Nat} {a : α} (I : Nat → α → Prop) (h0 : I 0 a) (hs : ∀ i a, i < n → I i a → I (i + 1) (f i a)) : I n (fd f n a) := by
  induction n with
  | zero => exact h0
  | succ n ih => exact hs n _ (by omega) (ih (fun i a hi => hs i a (by omega)))
/-- the least j below n with p j -/
def fnd (p : Nat → Bool) : Nat → Option Nat
  | 0 => none
  | n + 1 => match fnd p n with
    | some j => some j
    | none => if p n then some n else none
theorem fnd_none {p : Nat → Bool} {n : Nat} : fnd p n = none ↔ ∀ i, i < n → p i = false := by
  induction n with
  | zero => exact ⟨fun _ i hi => by omega, fun _ => rfl⟩
  | succ n ih =>
    unfold fnd
    cases h : fnd p n with
    | some j =>
      refine ⟨fun h9 => (by cases h9), fun h9 => ?_⟩
      rw [ih.mpr (fun i hi => h9 i (by omega))] at h
      cases h
    | none =>
      cases hp : p n with
      | true => exact ⟨fun h9 => by simp at h9, fun h9 => by rw [h9 n (by omega)] at hp; cases hp⟩
      | false =>
        refine ⟨fun _ i hi => ?_, fun _ => by simp⟩
        by_cases h1 : i = n
        · rw [h1]; exact hp
        · exact ih.mp h i (by omega)
theorem fnd_some {p : Nat → Bool} {n j : Nat} : fnd p n = some j ↔ j < n ∧ p j = true ∧ ∀ i, i < j → p i = false := by
  induction n with
  | zero => exact ⟨fun h => (by cases h), fun h => (by omega)⟩
  | succ n ih =>
    unfold fnd
    cases h : fnd p n with
    | some k =>
      obtain ⟨h1, h2, h3⟩ : k < n ∧ p k = true ∧ ∀ i, i < k → p i = false := by
        clear ih
        induction n with
        | zero => cases h
        | succ m ihm =>
          unfold fnd at h
          cases hm : fnd p m with
          | some l => rw [hm] at h; cases h; obtain ⟨a, b, c⟩ := ihm hm; exact ⟨by omega, b, c⟩
          | none =>
            rw [hm] at h
            cases hp : p m with
            | false => simp [hp] at h
            | true => simp [hp] at h; subst h; exact ⟨by omega, hp, fun i hi => fnd_none.mp hm i hi⟩
      refine ⟨fun h9 => by cases h9; exact ⟨by omega, h2, h3⟩, fun ⟨a, b, c⟩ => ?_⟩
      rcases Nat.lt_trichotomy j k with h4 | h4 | h4
      · rw [h3 j h4] at b; cases b
      · rw [h4]
      · rw [c k h4] at h2; cases h2
    | none =>
      have h5 := fnd_none.mp h
      cases hp : p n with
      | true =>
        refine ⟨fun h9 => by simp at h9; subst h9; exact ⟨by omega, hp, h5⟩, fun ⟨a, b, c⟩ => ?_⟩
        by_cases h6 : j = n
        · simp [h6]
        · rw [h5 j (by omega)] at b; cases b
      | false =>
        refine ⟨fun h9 => by simp at h9, fun ⟨a, b, c⟩ => ?_⟩
        by_cases h6 : j = n
        · rw [h6, hp] at b; cases b
        · rw [h5 j (by omega)] at b; cases b
theorem fnd_congr {p q : Nat → Bool} {n : Nat} (h : ∀ i, i < n → p i = q i) : fnd p n = fnd q n := by
  induction n with
  | zero => rfl
  | succ n ih => unfold fnd; rw [ih (fun i hi => h i (by omega)), h n (by omega)]
theorem fnd_lt {p : Nat → Bool} {n j : Nat} (h : fnd p n = some j) : j < n := (fnd_some.mp h).1
/-! loops -/
/-- read only, an accumulator -/
theorem lp_r {α : Type} {c : am_B} {b : am_T} {e0 : List AV} {μ : am_M} (E : Nat → α → List AV) (f : Nat → α → α) (n : Nat) (a0 : α) (h0 : e0 = E 0 a0) (hs : ∀ i a, i < n → c (E i a) μ = some (true, μ) ∧ b (E i a) μ = some (.inl (E (i + 1) (f i a), μ))) (he : ∀ a, c (E n a) μ = some (false, μ)) : s_lp c b e0 μ = some (.inl (E n (fd f n a0), μ)) := by
  subst h0
  have key := s_lp_det (c := c) (b := b) (fun i => E i (fd f i a0)) (fun _ => μ) n (he _) n 0 (by omega) (fun i _ hi => hs i _ hi)
  exact key
/-- read only, an accumulator of which something is kept -/
theorem lp_ri {α : Type} {c : am_B} {b : am_T} {e0 : List AV} {μ : am_M} (E : Nat → α → List AV) (f : Nat → α → α) (n : Nat) (a0 : α) (I : Nat → α → Prop) (h0 : e0 = E 0 a0) (hI : I 0 a0) (hs : ∀ i a, i < n → I i a → c (E i a) μ = some (true, μ) ∧ b (E i a) μ = some (.inl (E (i + 1) (f i a), μ)) ∧ I (i + 1) (f i a)) (he : ∀ a, I n a → c (E n a) μ = some (false, μ)) : s_lp c b e0 μ = some (.inl (E n (fd f n a0), μ)) := by
  subst h0
  have hi : ∀ i, i ≤ n → I i (fd f i a0) := by
    intro i hi
    induction i with
    | zero => exact hI
    | succ i ih => exact (hs i _ (by omega) (ih (by omega))).2.2
  have key := s_lp_det (c := c) (b := b) (fun i => E i (fd f i a0)) (fun _ => μ) n (he _ (hi n (Nat.le_refl _))) n 0 (by omega) (fun i _ h2 => ⟨(hs i _ h2 (hi i (by omega))).1, (hs i _ h2 (hi i (by omega))).2.1⟩)
  exact key
/-- read only, a search -/
theorem lp_find {c : am_B} {b : am_T} {e0 : List AV} {μ : am_M} (E : Nat → List AV) (p : Nat → Bool) (r : Nat → Option AV) (n : Nat) (h0 : e0 = E 0) (hs : ∀ i, i < n → c (E i) μ = some (true, μ) ∧ (p i = true → b (E i) μ = some (.inr (r i, μ))) ∧ (p i = false → b (E i) μ = some (.inl (E (i + 1), μ)))) (he : c (E n) μ = some (false, μ)) : s_lp c b e0 μ = (match fnd p n with
    | some j => some (.inr (r j, μ))
    | none => some (.inl (E n, μ))) := by
  subst h0
  cases h : fnd p n with
  | none =>
    have h1 := fnd_none.mp h
    exact s_lp_det (c := c) (b := b) E (fun _ => μ) n he n 0 (by omega) (fun i _ hi => ⟨(hs i hi).1, (hs i hi).2.2 (h1 i hi)⟩)
  | some j =>
    obtain ⟨h1, h2, h3⟩ := fnd_some.mp h
    exact s_lp_ret (c := c) (b := b) E (fun _ => μ) j (hs j h1).1 ((hs j h1).2.1 h2) j 0 (by omega) (fun i _ hi => ⟨(hs i (by omega)).1, (hs i (by omega)).2.2 (h3 i hi)⟩)
/-- any loop of n turns, by what it keeps -/
theorem lp_inv {c : am_B} {b : am_T} (I : Nat → List AV → am_M → Prop) (n : Nat) (hs : ∀ i e μ, i < n → I i e μ → c e μ = some (true, μ) ∧ ∃ e' μ', b e μ = some (.inl (e', μ')) ∧ I (i + 1) e' μ') (he : ∀ e μ, I n e μ → c e μ = some (false, μ)) : ∀ (d k : Nat) (e0 : List AV) (μ0 : am_M), k + d = n → I k e0 μ0 → ∃ e' μ', s_lp c b e0 μ0 = some (.inl (e', μ')) ∧ I n e' μ'
  | 0, k, e0, μ0, hk, h0 => by
    rw [Nat.add_zero] at hk
    subst hk
    refine ⟨e0, μ0, ?_, h0⟩
    rw [s_lp_eq, he e0 μ0 h0]
    rfl
  | d + 1, k, e0, μ0, hk, h0 => by
    obtain ⟨h1, e', μ', h2, h3⟩ := hs k e0 μ0 (by omega) h0
    obtain ⟨e2, μ2, h4, h5⟩ := lp_inv I n hs he d (k + 1) e' μ' (by omega) h3
    refine ⟨e2, μ2, ?_, h5⟩
    rw [s_lp_eq, h1]
    show s_sq b (s_lp c b) e0 μ0 = _
    unfold s_sq
    rw [h2]
    exact h4
/-! bits -/
def bt (x : Int32) (k : Nat) : Bool := x.toBitVec.getLsbD k
theorem bt_0 (k : Nat) : bt (nI 0) k = false := by
  show (BitVec.ofNat 32 0).getLsbD k = false
  simp
theorem bt_or (x y : Int32) (k : Nat) : bt (x ||| y) k = (bt x k || bt y k) := by simp [bt]
theorem bt_and (x y : Int32) (k : Nat) : bt (x &&& y) k = (bt x k && bt y k) := by simp [bt]
theorem bt_ext {x y : Int32} (h : ∀ k, k < 32 → bt x k = bt y k) : x = y := by
  apply Int32.toBitVec_inj.mp
  apply BitVec.eq_of_getLsbD_eq
  intro i hi
  exact h i hi
theorem sm_lt {k : Nat} (hk : k < 32) : ((nI k &&& nI 31).toBitVec.smod 32).toNat = k := by
  have h : ∀ k : Fin 32, ((nI k.1 &&& nI 31).toBitVec.smod 32).toNat = k.1 := by decide
  exact h ⟨k, hk⟩
theorem bt_shl {i k : Nat} (hi : i < 32) (hk : k < 32) : bt (nI 1 <<< (nI i &&& nI 31)) k = decide (k = i) := by
  have h : ∀ (i k : Fin 32), bt (nI 1 <<< (nI i.1 &&& nI 31)) k.1 = decide (k.1 = i.1) := by decide
  exact h ⟨i, hi⟩ ⟨k, hk⟩
theorem bt_shr (x : Int32) {k : Nat} (hk : k < 32) : (x >>> (nI k &&& nI 31)) &&& nI 1 = bI (bt x k) := by
  have h1 : (x >>> (nI k &&& nI 31)).toBitVec = x.toBitVec.sshiftRight k := by
    rw [Int32.toBitVec_shiftRight, BitVec.sshiftRight_eq', sm_lt hk]
  apply Int32.toBitVec_inj.mp
  rw [Int32.toBitVec_and, h1]
  apply BitVec.eq_of_getLsbD_eq
  intro i hi
  have h2 : (nI 1).toBitVec = 1#32 := rfl
  rw [h2, BitVec.getLsbD_and, BitVec.getLsbD_sshiftRight]
  unfold bt
  by_cases h0 : i = 0
  · subst h0
    cases h : x.toBitVec.getLsbD k <;> simp [h, bI, hk]
  · have h3 : (1#32).getLsbD i = false := by simp [BitVec.getLsbD_one, h0]
    rw [h3, Bool.and_false]
    cases h : x.toBitVec.getLsbD k
    · simp [bI]
    · show false = (1#32).getLsbD i
      rw [h3]
/-- the bits of p below n -/
def bitF (p : Nat → Bool) (n : Nat) : Int32 := fd (fun s a => if p s then a ||| (nI 1 <<< (nI s &&& nI 31)) else a) n (nI 0)
theorem bitF_bt {p : Nat → Bool} {n : Nat} (hn : n ≤ 32) {k : Nat} (hk : k < 32) : bt (bitF p n) k = (decide (k < n) && p k) := by
  induction n with
  | zero => show bt (nI 0) k = _; rw [bt_0]; simp
  | succ n ih =>
    have ih := ih (by omega)
    show bt (if p n then bitF p n ||| (nI 1 <<< (nI n &&& nI 31)) else bitF p n) k = _
    by_cases hk2 : k = n
    · subst hk2
      cases hp : p k
      · simp only [Bool.false_eq_true, if_false]; rw [ih, hp]; simp
      · simp only [if_true]; rw [bt_or, bt_shl (by omega) hk]; simp
    · have h9 : decide (k < n + 1) = decide (k < n) := decide_eq_decide.mpr (by omega)
      rw [h9, ← ih]
      cases hp : p n
      · simp
      · simp only [if_true]; rw [bt_or, bt_shl (by omega) hk]; simp [hk2]
theorem bitF_congr {p q : Nat → Bool} {n : Nat} (h : ∀ i, i < n → p i = q i) : bitF p n = bitF q n := fd_congr (fun i a hi => by rw [h i hi]) _
theorem or_0 (x : Int32) : x ||| nI 0 = x := bt_ext (fun k _ => by rw [bt_or, bt_0, Bool.or_false])
