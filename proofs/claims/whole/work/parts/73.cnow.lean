/-! the component's NOWHERES: small things -/
theorem c_abs (d : Nat) (σ : z_M) {x : Int} (h1 : -1000 ≤ x) (h2 : x ≤ 1000) : z_call (d + 1) k_Math_abs [.int (oI x)] σ (some (.int (nI x.natAbs))) σ := by
  have z0 : (0 : Int32) = oI 0 := rfl
  refine ⟨rfl, z_go 20 [] ⟨fun q => ⟨?_, rfl⟩, fun q => ⟨?_, rfl⟩⟩⟩
  · rw [z0, oI_le (by omega) (by omega) (by omega) (by omega)] at q
    rw [← oI_nat, show ((x.natAbs : Nat) : Int) = x by omega]
  · rw [z0, oI_le (by omega) (by omega) (by omega) (by omega)] at q
    rw [← oI_nat, oI_neg, show ((x.natAbs : Nat) : Int) = -x by omega]
/-- a post's surplus can still come to nought by l roads -/
def cL (k : Nat) (x : Int) (l : Nat) : Prop := ¬ (l = 1 ∧ x = 0) ∧ x.natAbs ≤ (k - 1) * l
theorem c_canLevel (d : Nat) {σ : z_M} {k l : Nat} {x : Int} (hk : σ.1 18 10 = nI k) (hk2 : 2 ≤ k ∧ k ≤ 6) (h1 : -1000 ≤ x) (h2 : x ≤ 1000) (hl : l ≤ 100) : z_call (d + 2) k_Nowheres_canLevel [.ref 18, .int (oI x), .int (nI l)] σ (some (.int (nI (pb (cL k x l))))) σ := by
  have ca := c_abs d σ h1 h2
  have hml : (k - 1) * l ≤ 5 * 100 := Nat.mul_le_mul (by omega) hl
  have ek : (nI k - 1) * nI l = nI ((k - 1) * l) := by
    show (nI k - nI 1) * nI l = _
    rw [i_sub (by omega), pk_mul]
  have z0 : (0 : Int32) = oI 0 := rfl
  have no : ¬ cL k x l → nI (pb (cL k x l)) = 0 := fun z => by rw [pb_f z]; rfl
  have ya : cL k x l → nI (pb (cL k x l)) = 1 := fun z => by rw [pb_t z]; rfl
  refine ⟨rfl, z_go 40 [] ⟨fun q => ⟨_, _, ca, fun q2 => ⟨Or.inl rfl, ?_, rfl⟩, fun q2 => ⟨Or.inr rfl, ?_, rfl⟩⟩, fun q => ⟨fun q2 => ⟨_, _, ca, fun q3 => ⟨Or.inl rfl, ?_, rfl⟩, fun q3 => ⟨Or.inr rfl, ?_, rfl⟩⟩, fun q2 => ⟨Or.inl rfl, ?_, rfl⟩⟩⟩⟩
  · rw [hk, ek, n_lt (by omega) (by omega)] at q2
    rw [no (fun z => by unfold cL at z; omega)]
  · rw [hk, ek, n_lt (by omega) (by omega)] at q2
    have q : ¬ nI l = nI 1 := q
    rw [n_eq (by omega) (by omega)] at q
    rw [ya ⟨fun z => q z.1, by omega⟩]
  · rw [hk, ek, n_lt (by omega) (by omega)] at q3
    rw [no (fun z => by unfold cL at z; omega)]
  · rw [hk, ek, n_lt (by omega) (by omega)] at q3
    rw [z0, oI_eq (by omega) (by omega) (by omega) (by omega)] at q2
    rw [ya ⟨fun z => q2 z.2, by omega⟩]
  · have q : nI l = nI 1 := q
    rw [n_eq (by omega) (by omega)] at q
    rw [z0, oI_eq (by omega) (by omega) (by omega) (by omega)] at q2
    rw [no (fun z => z.1 ⟨q, q2⟩)]
theorem c_surplusOf (d : Nat) {σ : z_M} {C : Nat} (hC : C < 2147483648) {g : Nat → Int} (hg : ∀ p, p < 6 → σ.1 21 p = oI (g p)) : z_call (d + 1) k_Nowheres_surplusOf [.ref 18, .int (nI C)] σ (some (.int (oI (csum C g)))) σ := by
  have loop : ∀ (n i : Nat), i + n = 6 → z_wp (z_call d) none k_Nowheres_surplusOf (fun y s => y = some (.int (oI (csum C g))) ∧ s = σ) 4 [some (.ref 18), some (.int (nI C)), some (.int (oI (bsum (fun p => if C.testBit p = true then g p else 0) i))), some (.int (nI i))] [] σ := by
    intro n
    induction n with
    | zero =>
      intro i hi
      obtain rfl : i = 6 := by omega
      exact z_go 40 [4] ⟨fun q => ⟨rfl, rfl⟩, fun q => absurd (by decide) q⟩
    | succ n ih =>
      intro i hi
      have hb := bq_le C i
      have nx := ih (i + 1) (by omega)
      rw [bsum] at nx
      refine z_go 40 [4] ⟨fun q => ?_, fun q => ⟨fun q2 => ?_, fun q2 => ⟨by (first | exact vin (by simp only [al_2, al_3, al_4, al_5, al_7, al_11, al_12, al_13, al_15, al_16, al_17, al_19, al_20, al_21, al_22, al_23, al_24, al_25, al_26, al_28, al_30, al_31, al_32, al_33, al_34, al_36, al_41, al_42, al_43, al_44, al_49, al_50, al_51, al_52, al_54, al_55, al_56, al_57, al_58, al_59, al_60, al_61, al_62, al_63, al_64, al_65, al_66, al_67, al_68, al_69, al_70, al_71, al_72, al_73, al_74, al_75, al_76, al_77, al_78, al_79, al_80]; omega) (by simp only [al_2, al_3, al_4, al_5, al_7, al_11, al_12, al_13, al_15, al_16, al_17, al_19, al_20, al_21, al_22, al_23, al_24, al_25, al_26, al_28, al_30, al_31, al_32, al_33, al_34, al_36, al_41, al_42, al_43, al_44, al_49, al_50, al_51, al_52, al_54, al_55, al_56, al_57, al_58, al_59, al_60, al_61, al_62, al_63, al_64, al_65, al_66, al_67, al_68, al_69, al_70, al_71, al_72, al_73, al_74, al_75, al_76, al_77, al_78, al_79, al_80]; decide) | (simp (disch := omega) only [nL, nI_add, pk_mul, nc, Nat.zero_add, al_2, al_3, al_4, al_5, al_7, al_11, al_12, al_13, al_15, al_16, al_17, al_19, al_20, al_21, al_22, al_23, al_24, al_25, al_26, al_28, al_30, al_31, al_32, al_33, al_34, al_36, al_41, al_42, al_43, al_44, al_49, al_50, al_51, al_52, al_54, al_55, al_56, al_57, al_58, al_59, al_60, al_61, al_62, al_63, al_64, al_65, al_66, al_67, al_68, al_69, al_70, al_71, al_72, al_73, al_74, al_75, al_76, al_77, al_78, al_79, al_80]; exact vin (by omega) (by decide))), ?_⟩⟩⟩
      · simp (disch := omega) only [nL, nI_add, pk_mul, n_le, n_lt, n_eq] at q
        omega
      · show z_wp _ _ _ _ 4 _ _ _
        rw [i_bit hC (by omega)] at q2
        have q2 : nI (bq C i) = nI 0 := q2
        rw [n_eq (by omega) (by omega)] at q2
        rw [if_neg (fun z => by rw [bq_t z] at q2; omega), Int.add_zero] at nx
        rw [show nI i + 1 = nI (i + 1) from nI_add i 1]
        exact nx
      · show z_wp _ _ _ _ 4 _ _ _
        rw [i_bit hC (by omega)] at q2
        have q2 : ¬ nI (bq C i) = nI 0 := q2
        rw [n_eq (by omega) (by omega)] at q2
        rw [if_pos (Classical.byContradiction fun z => q2 (bq_f z))] at nx
        rw [show nI i + 1 = nI (i + 1) from nI_add i 1, nc (by omega), hg i (by omega), oI_add]
        exact nx
  exact ⟨rfl, z_go 40 [4] (loop 6 0 (by omega))⟩
/-- step and surpluses as one number -/
def enc (g : Nat → Int) : Nat → Int
  | 0 => 0
  | n + 1 => enc g n * 128 + g n
def cdN (g : Nat → Int) (j : Nat) : Int := enc g 6 * 16 + (j : Int)
theorem cdN_inj {g g' : Nat → Int} {j j' : Nat} (hj : j < 16) (hj' : j' < 16) (h : ∀ p, p < 6 → -60 ≤ g p ∧ g p ≤ 60) (h' : ∀ p, p < 6 → -60 ≤ g' p ∧ g' p ≤ 60) (e : cdN g j = cdN g' j') : j = j' ∧ ∀ p, p < 6 → g p = g' p := by
  have b0 := h 0 (by omega)
  have b1 := h 1 (by omega)
  have b2 := h 2 (by omega)
  have b3 := h 3 (by omega)
  have b4 := h 4 (by omega)
  have b5 := h 5 (by omega)
  have c0 := h' 0 (by omega)
  have c1 := h' 1 (by omega)
  have c2 := h' 2 (by omega)
  have c3 := h' 3 (by omega)
  have c4 := h' 4 (by omega)
  have c5 := h' 5 (by omega)
  unfold cdN at e
  have s1 : j = j' ∧ enc g 6 = enc g' 6 := by omega
  have s6 : enc g 5 * 128 + g 5 = enc g' 5 * 128 + g' 5 := s1.2
  have s5 : g 5 = g' 5 ∧ enc g 5 = enc g' 5 := by omega
  have s5' : enc g 4 * 128 + g 4 = enc g' 4 * 128 + g' 4 := s5.2
  have s4 : g 4 = g' 4 ∧ enc g 4 = enc g' 4 := by omega
  have s4' : enc g 3 * 128 + g 3 = enc g' 3 * 128 + g' 3 := s4.2
  have s3 : g 3 = g' 3 ∧ enc g 3 = enc g' 3 := by omega
  have s3' : enc g 2 * 128 + g 2 = enc g' 2 * 128 + g' 2 := s3.2
  have s2 : g 2 = g' 2 ∧ enc g 2 = enc g' 2 := by omega
  have s2' : enc g 1 * 128 + g 1 = enc g' 1 * 128 + g' 1 := s2.2
  have s1'' : g 1 = g' 1 ∧ enc g 1 = enc g' 1 := by omega
  have s1' : (0 : Int) * 128 + g 0 = 0 * 128 + g' 0 := s1''.2
  refine ⟨s1.1, fun p hp => ?_⟩
  rcases (show p = 0 ∨ p = 1 ∨ p = 2 ∨ p = 3 ∨ p = 4 ∨ p = 5 by omega) with rfl | rfl | rfl | rfl | rfl | rfl
  · omega
  · exact s1''.1
  · exact s2.1
  · exact s3.1
  · exact s4.1
  · exact s5.1
theorem cdN_rng {g : Nat → Int} {j : Nat} (hj : j < 16) (h : ∀ p, p < 6 → -60 ≤ g p ∧ g p ≤ 60) : -100000000000000 ≤ cdN g j ∧ cdN g j ≤ 100000000000000 := by
  have b0 := h 0 (by omega)
  have b1 := h 1 (by omega)
  have b2 := h 2 (by omega)
  have b3 := h 3 (by omega)
  have b4 := h 4 (by omega)
  have b5 := h 5 (by omega)
  have e6 : enc g 6 = enc g 5 * 128 + g 5 := rfl
  have e5 : enc g 5 = enc g 4 * 128 + g 4 := rfl
  have e4 : enc g 4 = enc g 3 * 128 + g 3 := rfl
  have e3 : enc g 3 = enc g 2 * 128 + g 2 := rfl
  have e2 : enc g 2 = enc g 1 * 128 + g 1 := rfl
  have e1 : enc g 1 = 0 * 128 + g 0 := rfl
  unfold cdN
  omega
theorem l_inj {a b : Int} (ha : -100000000000000 ≤ a ∧ a ≤ 100000000000000) (hb : -100000000000000 ≤ b ∧ b ≤ 100000000000000) (h : Int64.ofInt a = Int64.ofInt b) : a = b := by
  have := congrArg Int64.toInt h
  rw [Int64.toInt_ofInt_of_le (by omega) (by omega), Int64.toInt_ofInt_of_le (by omega) (by omega)] at this
  exact this
theorem l_shl7 (a : Int) : Int64.ofInt a <<< ((7 : Int32).toInt64 &&& 63) = Int64.ofInt (a * 128) := by
  apply Int64.toBitVec_inj.mp
  rw [Int64.toBitVec_shiftLeft, Int64.toBitVec_ofInt, Int64.toBitVec_ofInt, show (((7 : Int32).toInt64 &&& 63).toBitVec.smod 64) = 7#64 by decide, BitVec.shiftLeft_eq', BitVec.shiftLeft_eq_mul_twoPow, BitVec.ofInt_mul]
  rfl
theorem l_shl4 (a : Int) : Int64.ofInt a <<< ((4 : Int32).toInt64 &&& 63) = Int64.ofInt (a * 16) := by
  apply Int64.toBitVec_inj.mp
  rw [Int64.toBitVec_shiftLeft, Int64.toBitVec_ofInt, Int64.toBitVec_ofInt, show (((4 : Int32).toInt64 &&& 63).toBitVec.smod 64) = 4#64 by decide, BitVec.shiftLeft_eq', BitVec.shiftLeft_eq_mul_twoPow, BitVec.ofInt_mul]
  rfl
theorem oI_long {x : Int} (h1 : -1000 ≤ x) (h2 : x ≤ 1000) : (oI x).toInt64 = Int64.ofInt x := by
  unfold oI
  rw [Int32.toInt64_ofInt]
  · show (-2147483648 : Int) ≤ x
    omega
  · show x ≤ (2147483647 : Int)
    omega
theorem c_stateAt (d : Nat) {σ : z_M} {g : Nat → Int} (hg : ∀ p, p < 6 → σ.1 21 p = oI (g p) ∧ -60 ≤ g p ∧ g p ≤ 60) {j : Nat} (hj : j < 16) : z_call (d + 1) k_Nowheres_stateAt [.ref 18, .int (nI j)] σ (some (.long (Int64.ofInt (cdN g j)))) σ := by
  have loop : ∀ (n i : Nat), i + n = 6 → z_wp (z_call d) none k_Nowheres_stateAt (fun y s => y = some (.long (Int64.ofInt (cdN g j))) ∧ s = σ) 5 [some (.ref 18), some (.int (nI j)), some (.long (Int64.ofInt (enc g i))), none, some (.int (nI i))] [] σ := by
    intro n
    induction n with
    | zero =>
      intro i hi
      obtain rfl : i = 6 := by omega
      refine z_go 40 [5] ⟨fun q => ⟨?_, rfl⟩, fun q => absurd (by decide) q⟩
      rw [l_shl4, ← oI_nat, oI_long (by omega) (by omega), ← Int64.ofInt_add]
      rfl
    | succ n ih =>
      intro i hi
      obtain ⟨g1, g2, g3⟩ := hg i (by omega)
      refine z_go 40 [5] ⟨fun q => ?_, fun q => ⟨by (first | exact vin (by simp only [al_2, al_3, al_4, al_5, al_7, al_11, al_12, al_13, al_15, al_16, al_17, al_19, al_20, al_21, al_22, al_23, al_24, al_25, al_26, al_28, al_30, al_31, al_32, al_33, al_34, al_36, al_41, al_42, al_43, al_44, al_49, al_50, al_51, al_52, al_54, al_55, al_56, al_57, al_58, al_59, al_60, al_61, al_62, al_63, al_64, al_65, al_66, al_67, al_68, al_69, al_70, al_71, al_72, al_73, al_74, al_75, al_76, al_77, al_78, al_79, al_80]; omega) (by simp only [al_2, al_3, al_4, al_5, al_7, al_11, al_12, al_13, al_15, al_16, al_17, al_19, al_20, al_21, al_22, al_23, al_24, al_25, al_26, al_28, al_30, al_31, al_32, al_33, al_34, al_36, al_41, al_42, al_43, al_44, al_49, al_50, al_51, al_52, al_54, al_55, al_56, al_57, al_58, al_59, al_60, al_61, al_62, al_63, al_64, al_65, al_66, al_67, al_68, al_69, al_70, al_71, al_72, al_73, al_74, al_75, al_76, al_77, al_78, al_79, al_80]; decide) | (simp (disch := omega) only [nL, nI_add, pk_mul, nc, Nat.zero_add, al_2, al_3, al_4, al_5, al_7, al_11, al_12, al_13, al_15, al_16, al_17, al_19, al_20, al_21, al_22, al_23, al_24, al_25, al_26, al_28, al_30, al_31, al_32, al_33, al_34, al_36, al_41, al_42, al_43, al_44, al_49, al_50, al_51, al_52, al_54, al_55, al_56, al_57, al_58, al_59, al_60, al_61, al_62, al_63, al_64, al_65, al_66, al_67, al_68, al_69, al_70, al_71, al_72, al_73, al_74, al_75, al_76, al_77, al_78, al_79, al_80]; exact vin (by omega) (by decide))), ?_⟩⟩
      · simp (disch := omega) only [nL, nI_add, pk_mul, n_le, n_lt, n_eq] at q
        omega
      · show z_wp _ _ _ _ 5 _ _ _
        rw [nc (by omega), g1, l_shl7, oI_long (by omega) (by omega), ← Int64.ofInt_add, show nI i + 1 = nI (i + 1) from nI_add i 1]
        exact ih (i + 1) (by omega)
  exact ⟨rfl, z_go 40 [5] (loop 6 0 (by omega))⟩
/-- the note's place is below 128 -/
theorem note_ix (x : Int64) : ∃ j, j < 128 ∧ ((x.toUInt64 >>> ((57 : Int32).toInt64.toUInt64 &&& Int64.toUInt64 63)).toInt64).toInt32 = nI j := by
  have hb : (((57 : Int32).toInt64.toUInt64 &&& Int64.toUInt64 63).toBitVec % 64) = 57#64 := by decide
  have hu : (x.toUInt64 >>> ((57 : Int32).toInt64.toUInt64 &&& Int64.toUInt64 63)).toBitVec = x.toBitVec >>> (57 : Nat) := by
    rw [UInt64.toBitVec_shiftRight, hb, BitVec.ushiftRight_eq']
    rfl
  have hl : (x.toBitVec >>> (57 : Nat)).toNat < 128 := by
    rw [BitVec.toNat_ushiftRight, Nat.shiftRight_eq_div_pow]
    have := x.toBitVec.isLt
    omega
  refine ⟨(x.toBitVec >>> (57 : Nat)).toNat, hl, ?_⟩
  apply Int32.toBitVec_inj.mp
  show BitVec.signExtend 32 (x.toUInt64 >>> ((57 : Int32).toInt64.toUInt64 &&& Int64.toUInt64 63)).toBitVec = BitVec.ofNat 32 (x.toBitVec >>> (57 : Nat)).toNat
  rw [hu, BitVec.signExtend_eq_setWidth_of_le _ (by decide), BitVec.ofNat_toNat]
