/-! sets of roads as numbers; the model's in, countOf, all -/
theorem i_bv (n : Nat) : (nI n).toBitVec = BitVec.ofNat 32 n := rfl
theorem i_ext {x y : Int32} (h : x.toBitVec.toNat = y.toBitVec.toNat) : x = y := Int32.toBitVec_inj.mp (BitVec.eq_of_toNat_eq h)
theorem i_and (a b : Nat) : nI a &&& nI b = nI (a &&& b) := by
  apply i_ext
  rw [Int32.toBitVec_and, i_bv, i_bv, i_bv, BitVec.toNat_and, BitVec.toNat_ofNat, BitVec.toNat_ofNat, BitVec.toNat_ofNat, Nat.and_mod_two_pow]
theorem i_or (a b : Nat) : nI a ||| nI b = nI (a ||| b) := by
  apply i_ext
  rw [Int32.toBitVec_or, i_bv, i_bv, i_bv, BitVec.toNat_or, BitVec.toNat_ofNat, BitVec.toNat_ofNat, BitVec.toNat_ofNat, Nat.or_mod_two_pow]
theorem i_xor (a b : Nat) : nI a ^^^ nI b = nI (a ^^^ b) := by
  apply i_ext
  rw [Int32.toBitVec_xor, i_bv, i_bv, i_bv, BitVec.toNat_xor, BitVec.toNat_ofNat, BitVec.toNat_ofNat, BitVec.toNat_ofNat, Nat.xor_mod_two_pow]
theorem i_sm : ∀ k, k < 32 → ((nI k &&& 31).toBitVec.smod 32).toNat = k := by decide +kernel
theorem i_shr {S k : Nat} (hS : S < 2147483648) (hk : k < 32) : nI S >>> (nI k &&& 31) = nI (S >>> k) := by
  apply Int32.toBitVec_inj.mp
  have hm : (BitVec.ofNat 32 S).msb = false := by
    rw [BitVec.msb_eq_decide, BitVec.toNat_ofNat, Nat.mod_eq_of_lt (by omega)]
    simp
    omega
  rw [Int32.toBitVec_shiftRight, BitVec.sshiftRight', show (32 : BitVec 32) = 32 from rfl, i_sm k hk, i_bv, BitVec.sshiftRight_eq_of_msb_false hm]
  apply BitVec.eq_of_toNat_eq
  have h2 : S >>> k ≤ S := Nat.shiftRight_le S k
  rw [i_bv, BitVec.toNat_ushiftRight, BitVec.toNat_ofNat, BitVec.toNat_ofNat, Nat.mod_eq_of_lt (by omega), Nat.mod_eq_of_lt (by omega)]
theorem i_one : ∀ k, k < 31 → (1 : Int32) <<< (nI k &&& 31) = nI (2 ^ k) := by decide +kernel
def bq (S k : Nat) : Nat := if S.testBit k = true then 1 else 0
theorem bq_and (S k : Nat) : S >>> k &&& 1 = bq S k := by
  unfold bq
  rw [Nat.and_one_is_mod, Nat.shiftRight_eq_div_pow, Nat.testBit_eq_decide_div_mod_eq]
  by_cases h : S / 2 ^ k % 2 = 1
  · simp [h]
  · simp [h]
    omega
theorem i_bit {S k : Nat} (hS : S < 2147483648) (hk : k < 32) : nI S >>> (nI k &&& 31) &&& 1 = nI (bq S k) := by
  rw [i_shr hS hk]
  show nI _ &&& nI 1 = _
  rw [i_and, bq_and]
theorem bq_le (S k : Nat) : bq S k ≤ 1 := by
  unfold bq
  split <;> omega
theorem c_in (d : Nat) (σ : z_M) {S k : Nat} (hS : S < 2147483648) (hk : k < 32) : z_call (d + 1) k_Md_in [.int (nI S), .int (nI k)] σ (some (.int (nI (bq S k)))) σ := by
  have hb := bq_le S k
  refine ⟨rfl, z_go 20 [] ⟨fun q => ⟨Or.inl rfl, ?_, rfl⟩, fun q => ⟨Or.inr rfl, ?_, rfl⟩⟩⟩
  · rw [i_bit hS hk] at q
    simp (disch := omega) only [nL, n_eq] at q
    rw [show bq S k = 0 by omega]
    rfl
  · rw [i_bit hS hk] at q
    rw [q]
theorem bc_le (S : Nat) : ∀ n, bc S n ≤ n
  | 0 => Nat.le_refl 0
  | n + 1 => by
    have := bc_le S n
    unfold bc
    split <;> omega
theorem bc_bq (S n : Nat) : bc S (n + 1) = bc S n + bq S n := rfl
theorem bc_hi {S R : Nat} (h : S < 2 ^ R) : ∀ n, bc S (R + n) = bc S R
  | 0 => rfl
  | n + 1 => by
    rw [← Nat.add_assoc, bc_bq, bc_hi h n, bq, if_neg]
    · rfl
    have : S < 2 ^ (R + n) := Nat.lt_of_lt_of_le h (Nat.pow_le_pow_right (by omega) (by omega))
    rw [Nat.testBit_lt_two_pow this]
    decide
theorem c_countOf (d : Nat) (σ : z_M) {S : Nat} (hS : S < 2147483648) : z_call (d + 1) k_Md_countOf [.int (nI S)] σ (some (.int (nI (bc S 12)))) σ := by
  have loop : ∀ (n i : Nat), i + n = 12 → z_wp (z_call d) none k_Md_countOf (fun r s => r = some (.int (nI (bc S 12))) ∧ s = σ) 4 [some (.int (nI S)), some (.int (nI (bc S i))), some (.int (nI i))] [] σ := by
    intro n
    induction n with
    | zero =>
      intro i hi
      obtain rfl : i = 12 := by omega
      refine z_go 30 [4] ⟨fun q => ⟨rfl, rfl⟩, fun q => ?_⟩
      exact absurd (Int32.le_refl _) q
    | succ n ih =>
      intro i hi
      refine z_go 30 [4] ⟨fun q => ?_, fun q => ?_⟩
      · simp (disch := omega) only [nL, nI_add, pk_mul, n_le, n_lt, n_eq] at q
        omega
      · show z_wp _ _ _ _ 4 _ _ _
        rw [i_bit hS (by omega)]
        simp only [nL, nI_add]
        exact ih (i + 1) (by omega)
  exact ⟨rfl, z_go 30 [4] (loop 12 0 (by omega))⟩
theorem i_sub {a b : Nat} (h : b ≤ a) : nI a - nI b = nI (a - b) := by
  have e : nI a = nI (a - b) + nI b := by rw [nI_add, Nat.sub_add_cancel h]
  rw [e, Int32.add_sub_cancel]
theorem c_all (d : Nat) {σ : z_M} {R : Nat} (hR : σ.1 53 1 = nI R) (h10 : R ≤ 10) : z_call (d + 1) k_Md_all [.ref 53] σ (some (.int (nI (2 ^ R - 1)))) σ := by
  refine ⟨rfl, z_go 30 [] ⟨?_, rfl⟩⟩
  rw [hR, i_one R (by omega)]
  have : 0 < 2 ^ R := Nat.pow_pos (by omega)
  show some (Value.int (nI (2 ^ R) - nI 1)) = _
  rw [i_sub (by omega)]
