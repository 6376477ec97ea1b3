/-! the model's search for NOWHERES -/
def opn (s e : Nat → Nat) (R D p : Nat) : Nat := nsum (fun i => own s e (D + i) p) (R - D)
theorem opn_s {s e : Nat → Nat} {R D p : Nat} (h : D < R) : opn s e R D p = own s e D p + opn s e R (D + 1) p := by
  unfold opn
  rw [show R - D = (R - (D + 1)) + 1 by omega, nsum_sh]
  congr 1
  exact nsum_eq (fun i _ => by rw [show D + (i + 1) = D + 1 + i by omega])
theorem opn_R (s e : Nat → Nat) (R p : Nat) : opn s e R R p = 0 := by
  unfold opn
  rw [Nat.sub_self]
  rfl
theorem opn_le (s e : Nat → Nat) (R D p : Nat) : opn s e R D p ≤ 2 * (R - D) := nsum_le (fun i _ => own_le _ _ _ _)
theorem ltr_opn (s e : Nat → Nat) {R D p m : Nat} (h : D + m = R) : ltr s e (fun i => i) D p m ≤ opn s e R D p := by
  unfold ltr opn
  rw [show R - D = m by omega]
  have key : ∀ n, nsum (fun i => if s (D + i) = e (D + i) then 0 else own s e (D + i) p) n ≤ nsum (fun i => own s e (D + i) p) n := by
    intro n
    induction n with
    | zero => exact Nat.le_refl _
    | succ n ih =>
      rw [nsum, nsum]
      split <;> omega
  exact key m
/-- the first one: each road's place in the row 1, -1, 2, -2 .. -/
def FS (s e : Nat → Nat) (T : Nat) (ord : Nat → Nat) (τ : Nat → Nat) : Nat → Nat → (Nat → Int) → Prop
  | 0, _, _ => True
  | m + 1, j, g => τ j < T ∧ (∀ i, i < τ j → NC s e T ord m (j + 1) (ap s e (ord j) (vl i) g) = 0) ∧ 0 < NC s e T ord m (j + 1) (ap s e (ord j) (vl (τ j)) g) ∧ FS s e T ord τ m (j + 1) (ap s e (ord j) (vl (τ j)) g)
theorem FS_congr {s e : Nat → Nat} {T : Nat} {ord τ τ' : Nat → Nat} : ∀ {m j : Nat} {g : Nat → Int}, (∀ i, j ≤ i → i < j + m → τ i = τ' i) → FS s e T ord τ m j g → FS s e T ord τ' m j g
  | 0, _, _, _, _ => trivial
  | m + 1, j, g, h, hF => by
    obtain ⟨h1, h2, h3, h4⟩ := hF
    have e1 := h j (by omega) (by omega)
    rw [e1] at h1 h2 h3 h4
    exact ⟨h1, h2, h3, FS_congr (fun i a b => h i (by omega) (by omega)) h4⟩
theorem FS_g {s e : Nat → Nat} {T : Nat} {ord τ : Nat → Nat} : ∀ {m j : Nat} {g g' : Nat → Int}, (∀ p, p < 6 → g p = g' p) → FS s e T ord τ m j g → FS s e T ord τ m j g'
  | 0, _, _, _, _, _ => trivial
  | m + 1, j, g, g', h, hF => by
    obtain ⟨h1, h2, h3, h4⟩ := hF
    have key : ∀ i p, p < 6 → ap s e (ord j) (vl i) g p = ap s e (ord j) (vl i) g' p := fun i p hp => by
      unfold ap
      rw [h p hp]
    exact ⟨h1, fun i hi => by rw [← NC_congr (key i)]; exact h2 i hi, by rw [← NC_congr (key (τ j))]; exact h3, FS_g (key (τ j)) h4⟩
theorem FS_fun {s e : Nat → Nat} {T : Nat} {ord τ τ' : Nat → Nat} : ∀ {m j : Nat} {g : Nat → Int}, FS s e T ord τ m j g → FS s e T ord τ' m j g → ∀ i, j ≤ i → i < j + m → τ i = τ' i
  | 0, j, _, _, _, i, h1, h2 => by omega
  | m + 1, j, g, hF, hF', i, h1, h2 => by
    obtain ⟨a1, a2, a3, a4⟩ := hF
    obtain ⟨b1, b2, b3, b4⟩ := hF'
    have e1 : τ j = τ' j := by
      refine Classical.byContradiction fun z => ?_
      by_cases c : τ j < τ' j
      · have := b2 (τ j) c
        omega
      · have := a2 (τ' j) (by omega)
        omega
    by_cases c : i = j
    · rw [c]; exact e1
    · rw [← e1] at b4
      exact FS_fun a4 b4 i (by omega) (by omega)
theorem lg_ne {c : Nat} (h : c < 1000000000000) : lg_cmp (Int64.ofNat c) (-1) ≠ 0 := by
  unfold lg_cmp
  have h1 : (Int64.ofNat c).toInt = c := Int64.toInt_ofNat_of_lt (by omega)
  have h2 : Int64.ofNat c > -1 := by
    show (-1 : Int64) < Int64.ofNat c
    rw [Int64.lt_iff_toInt_lt, h1]
    show (-1 : Int) < (c : Int)
    omega
  rw [if_pos h2]
  decide
theorem l_inc (c : Nat) : Int64.ofNat c + 1 = Int64.ofNat (c + 1) := (Int64.ofNat_add c 1).symm
noncomputable def nwN (N : zN) (k : Nat) : Nat := NC (gs N) (ge N) (2 * (k - 1)) (fun i => i) (gR N) 0 (fun _ => 0)
