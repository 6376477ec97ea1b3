/-! labels of posts in one int, three bits each -/
def fd (L p : Nat) : Nat := L >>> (3 * p) &&& 7
theorem fd_bit (L p i : Nat) : (fd L p).testBit i = (decide (i < 3) && L.testBit (3 * p + i)) := by
  unfold fd
  rw [show (7 : Nat) = 2 ^ 3 - 1 from rfl, Nat.testBit_and, Nat.testBit_shiftRight, Nat.testBit_two_pow_sub_one, Bool.and_comm]
theorem tb8 {x : Nat} (hx : x < 8) {i : Nat} (hi : 3 ≤ i) : x.testBit i = false := by
  apply Nat.testBit_lt_two_pow
  have : 2 ^ 3 ≤ 2 ^ i := Nat.pow_le_pow_right (by omega) hi
  omega
theorem fd_xor (L : Nat) {x : Nat} (hx : x < 8) (p q : Nat) : fd (L ^^^ (x <<< (3 * p))) q = if q = p then fd L p ^^^ x else fd L q := by
  apply Nat.eq_of_testBit_eq
  intro i
  by_cases e : q = p
  · subst e
    rw [if_pos rfl, fd_bit, Nat.testBit_xor, Nat.testBit_shiftLeft, Nat.testBit_xor, fd_bit]
    by_cases h : i < 3
    · simp [h, Nat.add_sub_cancel_left]
    · simp [h, tb8 hx (show 3 ≤ i by omega)]
  · rw [if_neg e, fd_bit, Nat.testBit_xor, Nat.testBit_shiftLeft, fd_bit]
    by_cases h : i < 3
    · by_cases h2 : q < p
      · have : ¬ 3 * q + i ≥ 3 * p := by omega
        simp [h, this]
      · rw [tb8 hx (show 3 ≤ 3 * q + i - 3 * p by omega)]
        simp
    · simp [h]
theorem fd_lt (L p : Nat) : fd L p < 8 := by
  unfold fd
  have := Nat.and_le_right (n := L >>> (3 * p)) (m := 7)
  omega
theorem i_mul (a b : Nat) : nI a * nI b = nI (a * b) := by simp only [pk_mul]
theorem c_labelAt (d : Nat) (σ : z_M) {L p : Nat} (hL : L < 262144) (hp : p < 6) : z_call (d + 1) k_Survey_labelAt [.int (nI L), .int (nI p)] σ (some (.int (nI (fd L p)))) σ := by
  refine ⟨rfl, z_go 30 [] ⟨?_, rfl⟩⟩
  rw [show (3 : Int32) * nI p = nI (3 * p) from i_mul 3 p, i_shr (by omega) (by omega)]
  show some (Value.int (nI _ &&& nI 7)) = _
  rw [i_and]
  rfl
theorem i_shl8 : ∀ x, x < 8 → ∀ p, p < 6 → nI x <<< (nI (3 * p) &&& 31) = nI (x <<< (3 * p)) := by decide +kernel
theorem shl8_lt {x p : Nat} (hx : x < 8) (hp : p < 6) : x <<< (3 * p) < 262144 := by
  rw [Nat.shiftLeft_eq]
  have h2 : 2 ^ (3 * p) ≤ 2 ^ 15 := Nat.pow_le_pow_right (by omega) (by omega)
  have := Nat.mul_le_mul (show x ≤ 7 by omega) h2
  omega
theorem xor8 {a b : Nat} (ha : a < 8) (hb : b < 8) : a ^^^ b < 8 := Nat.xor_lt_two_pow (n := 3) ha hb
theorem xor18 {a b : Nat} (ha : a < 262144) (hb : b < 262144) : a ^^^ b < 262144 := Nat.xor_lt_two_pow (n := 18) ha hb
theorem c_relabelled (d : Nat) (σ : z_M) {L a b P : Nat} (hL : L < 262144) (ha : a < 8) (hb : b < 8) (hP : P ≤ 6) : ∃ L', L' < 262144 ∧ z_call (d + 2) k_Survey_relabelled [.int (nI L), .int (nI a), .int (nI b), .int (nI P)] σ (some (.int (nI L'))) σ ∧ ∀ q, q < P → fd L' q = if fd L q = a then b else fd L q := by
  have loop : ∀ (n i L1 : Nat), i + n = P → L1 < 262144 → (∀ q, q < P → fd L1 q = if q < i ∧ fd L q = a then b else fd L q) →
      z_wp (z_call (d + 1)) none k_Survey_relabelled (fun r s => ∃ x, r = some (.int x) ∧ (s = σ ∧ ∃ L', L' < 262144 ∧ x = nI L' ∧ ∀ q, q < P → fd L' q = if fd L q = a then b else fd L q)) 6 [some (.int (nI L)), some (.int (nI a)), some (.int (nI b)), some (.int (nI P)), some (.int (nI L1)), some (.int (nI i))] [] σ := by
    intro n
    induction n with
    | zero =>
      intro i L1 hi h1 hq
      obtain rfl : i = P := by omega
      refine z_go 60 [6] ⟨fun q => ⟨_, rfl, rfl, L1, h1, rfl, fun q hq2 => ?_⟩, fun q => ?_⟩
      · rw [hq q hq2]
        simp only [hq2, true_and]
      · exact absurd (Int32.le_refl _) q
    | succ n ih =>
      intro i L1 hi h1 hq
      have hx := xor8 ha hb
      have hs := shl8_lt hx (show i < 6 by omega)
      have hfl := fd_lt L i
      refine z_go 60 [6] ⟨fun q => ?_, fun q => ⟨_, _, c_labelAt d σ hL (show i < 6 by omega), fun q2 => ?_, fun q2 => ?_⟩⟩
      · simp (disch := omega) only [nL, nI_add, pk_mul, n_le, n_lt, n_eq] at q
        omega
      · show z_wp _ _ _ _ 6 _ _ _
        rw [n_eq (by omega) (by omega)] at q2
        rw [show nI i + 1 = nI (i + 1) from nI_add i 1]
        refine ih (i + 1) L1 (by omega) h1 (fun k hk => ?_)
        rw [hq k hk]
        by_cases e : k = i
        · subst e
          rw [if_neg (fun z => q2 z.2), if_neg (fun z => q2 z.2)]
        · simp only [show (k < i) = (k < i + 1) from propext (by omega)]
      · show z_wp _ _ _ _ 6 _ _ _
        rw [n_eq (by omega) (by omega)] at q2
        rw [show nI i + 1 = nI (i + 1) from nI_add i 1, show (3 : Int32) * nI i = nI (3 * i) from i_mul 3 i, i_xor, i_shl8 _ hx i (by omega), i_xor]
        refine ih (i + 1) _ (by omega) (xor18 h1 hs) (fun k hk => ?_)
        rw [fd_xor _ hx]
        by_cases e : k = i
        · subst e
          rw [if_pos rfl, if_pos ⟨by omega, q2⟩, hq k hk, if_neg (by omega), q2, ← Nat.xor_assoc, Nat.xor_self, Nat.zero_xor]
        · rw [if_neg e, hq k hk]
          simp only [show (k < i) = (k < i + 1) from propext (by omega)]
  obtain ⟨x, σ', hc, rfl, L', h1, rfl, h2⟩ := z_metI (Post := fun x s => s = σ ∧ ∃ L', L' < 262144 ∧ x = nI L' ∧ ∀ q, q < P → fd L' q = if fd L q = a then b else fd L q) (d := d + 1) (M := k_Survey_relabelled) (as := [.int (nI L), .int (nI a), .int (nI b), .int (nI P)]) (σ := σ) ⟨rfl, z_go 60 [6] (loop P 0 L (by omega) hL (fun q hq => by rw [if_neg (by omega)]))⟩
  exact ⟨L', h1, hc, h2⟩
