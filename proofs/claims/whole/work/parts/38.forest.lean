/-! the component's forest -/
/-- a set without another -/
def clr (a b : Nat) : Nat := a ^^^ (a &&& b)
theorem i_clr (a b : Nat) : nI a &&& (nI b ^^^ -1) = nI (clr a b) := by
  apply Int32.toBitVec_inj.mp
  rw [Int32.toBitVec_and, Int32.toBitVec_xor, i_bv, i_bv, i_bv]
  apply BitVec.eq_of_getLsbD_eq
  intro i hi
  rw [show (-1 : Int32).toBitVec = BitVec.allOnes 32 from rfl]
  simp only [BitVec.getLsbD_and, BitVec.getLsbD_xor, BitVec.getLsbD_ofNat, BitVec.getLsbD_allOnes, clr, Nat.testBit_xor, Nat.testBit_and]
  simp only [hi, decide_true, Bool.true_and]
  cases a.testBit i <;> cases b.testBit i <;> rfl
/-- roots, paths, genus, closed rounds, roads of no round, after the first n roads -/
abbrev gT : Type := (Nat → Nat) × (Nat → Nat) × Nat × (Nat → Nat) × Nat
def gway (s e : Nat → Nat) (G : gT) (n : Nat) : Nat := G.2.1 (s n) ^^^ G.2.1 (e n) ^^^ 2 ^ n
def gstep (s e : Nat → Nat) (n : Nat) (G : gT) : gT := if G.1 (s n) = G.1 (e n) then (G.1, G.2.1, G.2.2.1 + 1, (fun j => if j = G.2.2.1 then gway s e G n else G.2.2.2.1 j), clr G.2.2.2.2 (gway s e G n)) else ((fun p => if G.1 p = G.1 (e n) then G.1 (s n) else G.1 p), (fun p => if G.1 p = G.1 (e n) then G.2.1 p ^^^ gway s e G n else G.2.1 p), G.2.2)
def gw (R : Nat) (s e : Nat → Nat) : Nat → gT
  | 0 => (fun p => p, fun _ => 0, 0, fun _ => 0, 2 ^ R - 1)
  | n + 1 => gstep s e n (gw R s e n)
theorem c_allRoads (d : Nat) {σ : z_M} {R : Nat} (hR : σ.1 1 1 = nI R) (h10 : R ≤ 10) : z_call (d + 1) k_Net_allRoads [.ref 1] σ (some (.int (nI (2 ^ R - 1)))) σ := by
  refine ⟨rfl, z_go 30 [] ⟨?_, rfl⟩⟩
  rw [hR, i_one R (by omega)]
  have : 0 < 2 ^ R := Nat.pow_pos (by omega)
  show some (Value.int (nI (2 ^ R) - nI 1)) = _
  rw [i_sub (by omega)]
theorem c_hang (d : Nat) {σ : z_M} {P a b w : Nat} (hP : P ≤ 6) (rt pa : Nat → Nat) (h1 : ∀ p, p < P → σ.1 11 p = nI (rt p) ∧ rt p < P) (h2 : ∀ p, p < P → σ.1 12 p = nI (pa p)) (ha : a < P) :
    ∃ σ', z_call (d + 1) k_Forest_hang [.ref 10, .int (nI a), .int (nI b), .int (nI w), .int (nI P)] σ none σ' ∧ fr [10, 11, 12] σ σ' ∧ (∀ k, k ≠ 4 → σ'.1 10 k = σ.1 10 k) ∧ σ'.1 10 4 = σ.1 10 4 - 1 ∧ ∀ p, p < P → σ'.1 11 p = nI (if rt p = a then b else rt p) ∧ σ'.1 12 p = nI (if rt p = a then pa p ^^^ w else pa p) := by
  have loop : ∀ (n i : Nat) (σi : z_M), i + n = P → fr [11, 12] σ σi → (∀ p, p < P → σi.1 11 p = nI (if p < i ∧ rt p = a then b else rt p) ∧ σi.1 12 p = nI (if p < i ∧ rt p = a then pa p ^^^ w else pa p)) →
      z_wp (z_call d) none k_Forest_hang (fun r s => r = none ∧ (fr [10, 11, 12] σ s ∧ (∀ k, k ≠ 4 → s.1 10 k = σ.1 10 k) ∧ s.1 10 4 = σ.1 10 4 - 1 ∧ ∀ p, p < P → s.1 11 p = nI (if rt p = a then b else rt p) ∧ s.1 12 p = nI (if rt p = a then pa p ^^^ w else pa p))) 3 [some (.ref 10), some (.int (nI a)), some (.int (nI b)), some (.int (nI w)), some (.int (nI P)), some (.int (nI i))] [] σi := by
    intro n
    induction n with
    | zero =>
      intro i σi hi hf hk
      obtain rfl : i = P := by omega
      refine z_go 60 [3] ⟨fun q => ⟨rfl, fr.wr (hf.wk _ (by decide)) (by decide), fun k hk2 => ?_, ?_, fun p hp => ?_⟩, fun q => ?_⟩
      · rw [wr_k hk2, hf.at (by decide)]
      · rw [wr_s, hf.at (by decide)]
      · rw [wr_c (by decide), wr_c (by decide), (hk p hp).1, (hk p hp).2]
        simp only [hp, true_and]
      · exact absurd (Int32.le_refl _) q
    | succ n ih =>
      intro i σi hi hf hk
      obtain ⟨r1, r2⟩ := hk i (by omega)
      rw [if_neg (by omega)] at r1 r2
      have rl := (h1 i (by omega)).2
      refine z_go 60 [3] ⟨fun q => ?_, fun q => ⟨by (first | exact vin (by simp only [al_2, al_3, al_4, al_5, al_7, al_11, al_12, al_13, al_15, al_16, al_17, al_19, al_20, al_21, al_22, al_23, al_24, al_25, al_26, al_28, al_30, al_31, al_32, al_33, al_34, al_36, al_41, al_42, al_43, al_44, al_49, al_50, al_51, al_52, al_54, al_55, al_56, al_57, al_58, al_59, al_60, al_61, al_62, al_63, al_64, al_65, al_66, al_67, al_68, al_69, al_70, al_71, al_72, al_73, al_74, al_75, al_76, al_77, al_78, al_79, al_80]; omega) (by simp only [al_2, al_3, al_4, al_5, al_7, al_11, al_12, al_13, al_15, al_16, al_17, al_19, al_20, al_21, al_22, al_23, al_24, al_25, al_26, al_28, al_30, al_31, al_32, al_33, al_34, al_36, al_41, al_42, al_43, al_44, al_49, al_50, al_51, al_52, al_54, al_55, al_56, al_57, al_58, al_59, al_60, al_61, al_62, al_63, al_64, al_65, al_66, al_67, al_68, al_69, al_70, al_71, al_72, al_73, al_74, al_75, al_76, al_77, al_78, al_79, al_80]; decide) | (simp (disch := omega) only [nL, nI_add, pk_mul, nc, Nat.zero_add, al_2, al_3, al_4, al_5, al_7, al_11, al_12, al_13, al_15, al_16, al_17, al_19, al_20, al_21, al_22, al_23, al_24, al_25, al_26, al_28, al_30, al_31, al_32, al_33, al_34, al_36, al_41, al_42, al_43, al_44, al_49, al_50, al_51, al_52, al_54, al_55, al_56, al_57, al_58, al_59, al_60, al_61, al_62, al_63, al_64, al_65, al_66, al_67, al_68, al_69, al_70, al_71, al_72, al_73, al_74, al_75, al_76, al_77, al_78, al_79, al_80]; exact vin (by omega) (by decide))), fun q2 => ?_, fun q2 => ⟨by (first | exact vin (by simp only [al_2, al_3, al_4, al_5, al_7, al_11, al_12, al_13, al_15, al_16, al_17, al_19, al_20, al_21, al_22, al_23, al_24, al_25, al_26, al_28, al_30, al_31, al_32, al_33, al_34, al_36, al_41, al_42, al_43, al_44, al_49, al_50, al_51, al_52, al_54, al_55, al_56, al_57, al_58, al_59, al_60, al_61, al_62, al_63, al_64, al_65, al_66, al_67, al_68, al_69, al_70, al_71, al_72, al_73, al_74, al_75, al_76, al_77, al_78, al_79, al_80]; omega) (by simp only [al_2, al_3, al_4, al_5, al_7, al_11, al_12, al_13, al_15, al_16, al_17, al_19, al_20, al_21, al_22, al_23, al_24, al_25, al_26, al_28, al_30, al_31, al_32, al_33, al_34, al_36, al_41, al_42, al_43, al_44, al_49, al_50, al_51, al_52, al_54, al_55, al_56, al_57, al_58, al_59, al_60, al_61, al_62, al_63, al_64, al_65, al_66, al_67, al_68, al_69, al_70, al_71, al_72, al_73, al_74, al_75, al_76, al_77, al_78, al_79, al_80]; decide) | (simp (disch := omega) only [nL, nI_add, pk_mul, nc, Nat.zero_add, al_2, al_3, al_4, al_5, al_7, al_11, al_12, al_13, al_15, al_16, al_17, al_19, al_20, al_21, al_22, al_23, al_24, al_25, al_26, al_28, al_30, al_31, al_32, al_33, al_34, al_36, al_41, al_42, al_43, al_44, al_49, al_50, al_51, al_52, al_54, al_55, al_56, al_57, al_58, al_59, al_60, al_61, al_62, al_63, al_64, al_65, al_66, al_67, al_68, al_69, al_70, al_71, al_72, al_73, al_74, al_75, al_76, al_77, al_78, al_79, al_80]; exact vin (by omega) (by decide))), by (first | exact vin (by simp only [al_2, al_3, al_4, al_5, al_7, al_11, al_12, al_13, al_15, al_16, al_17, al_19, al_20, al_21, al_22, al_23, al_24, al_25, al_26, al_28, al_30, al_31, al_32, al_33, al_34, al_36, al_41, al_42, al_43, al_44, al_49, al_50, al_51, al_52, al_54, al_55, al_56, al_57, al_58, al_59, al_60, al_61, al_62, al_63, al_64, al_65, al_66, al_67, al_68, al_69, al_70, al_71, al_72, al_73, al_74, al_75, al_76, al_77, al_78, al_79, al_80]; omega) (by simp only [al_2, al_3, al_4, al_5, al_7, al_11, al_12, al_13, al_15, al_16, al_17, al_19, al_20, al_21, al_22, al_23, al_24, al_25, al_26, al_28, al_30, al_31, al_32, al_33, al_34, al_36, al_41, al_42, al_43, al_44, al_49, al_50, al_51, al_52, al_54, al_55, al_56, al_57, al_58, al_59, al_60, al_61, al_62, al_63, al_64, al_65, al_66, al_67, al_68, al_69, al_70, al_71, al_72, al_73, al_74, al_75, al_76, al_77, al_78, al_79, al_80]; decide) | (simp (disch := omega) only [nL, nI_add, pk_mul, nc, Nat.zero_add, al_2, al_3, al_4, al_5, al_7, al_11, al_12, al_13, al_15, al_16, al_17, al_19, al_20, al_21, al_22, al_23, al_24, al_25, al_26, al_28, al_30, al_31, al_32, al_33, al_34, al_36, al_41, al_42, al_43, al_44, al_49, al_50, al_51, al_52, al_54, al_55, al_56, al_57, al_58, al_59, al_60, al_61, al_62, al_63, al_64, al_65, al_66, al_67, al_68, al_69, al_70, al_71, al_72, al_73, al_74, al_75, al_76, al_77, al_78, al_79, al_80]; exact vin (by omega) (by decide))), by (first | exact vin (by simp only [al_2, al_3, al_4, al_5, al_7, al_11, al_12, al_13, al_15, al_16, al_17, al_19, al_20, al_21, al_22, al_23, al_24, al_25, al_26, al_28, al_30, al_31, al_32, al_33, al_34, al_36, al_41, al_42, al_43, al_44, al_49, al_50, al_51, al_52, al_54, al_55, al_56, al_57, al_58, al_59, al_60, al_61, al_62, al_63, al_64, al_65, al_66, al_67, al_68, al_69, al_70, al_71, al_72, al_73, al_74, al_75, al_76, al_77, al_78, al_79, al_80]; omega) (by simp only [al_2, al_3, al_4, al_5, al_7, al_11, al_12, al_13, al_15, al_16, al_17, al_19, al_20, al_21, al_22, al_23, al_24, al_25, al_26, al_28, al_30, al_31, al_32, al_33, al_34, al_36, al_41, al_42, al_43, al_44, al_49, al_50, al_51, al_52, al_54, al_55, al_56, al_57, al_58, al_59, al_60, al_61, al_62, al_63, al_64, al_65, al_66, al_67, al_68, al_69, al_70, al_71, al_72, al_73, al_74, al_75, al_76, al_77, al_78, al_79, al_80]; decide) | (simp (disch := omega) only [nL, nI_add, pk_mul, nc, Nat.zero_add, al_2, al_3, al_4, al_5, al_7, al_11, al_12, al_13, al_15, al_16, al_17, al_19, al_20, al_21, al_22, al_23, al_24, al_25, al_26, al_28, al_30, al_31, al_32, al_33, al_34, al_36, al_41, al_42, al_43, al_44, al_49, al_50, al_51, al_52, al_54, al_55, al_56, al_57, al_58, al_59, al_60, al_61, al_62, al_63, al_64, al_65, al_66, al_67, al_68, al_69, al_70, al_71, al_72, al_73, al_74, al_75, al_76, al_77, al_78, al_79, al_80]; exact vin (by omega) (by decide))), ?_⟩⟩⟩
      · simp (disch := omega) only [nL, nI_add, pk_mul, n_le, n_lt, n_eq] at q
        omega
      · show z_wp _ _ _ _ 3 _ _ _
        rw [nc (by omega), r1, n_eq (by omega) (by omega)] at q2
        rw [show nI i + 1 = nI (i + 1) from nI_add i 1]
        refine ih (i + 1) σi (by omega) hf (fun p hp => ?_)
        rw [(hk p hp).1, (hk p hp).2]
        by_cases e : p = i
        · subst e
          simp only [q2, and_false, if_false]
          exact ⟨trivial, trivial⟩
        · simp only [show (p < i) = (p < i + 1) from propext (by omega)]
          exact ⟨trivial, trivial⟩
      · show z_wp _ _ _ _ 3 _ _ _
        rw [nc (by omega), r1, n_eq (by omega) (by omega)] at q2
        simp (disch := omega) only [nc, wr_c, r2, i_xor]
        rw [show nI i + 1 = nI (i + 1) from nI_add i 1]
        refine ih (i + 1) _ (by omega) (fr.wr (fr.wr hf (by decide)) (by decide)) (fun p hp => ?_)
        by_cases e : p = i
        · subst e
          rw [wr_c (by decide), wr_s, wr_s, if_pos ⟨by omega, q2⟩, if_pos ⟨by omega, q2⟩]
          exact ⟨rfl, rfl⟩
        · rw [wr_c (by decide), wr_k e, wr_k e, wr_c (by decide), (hk p hp).1, (hk p hp).2]
          simp only [show (p < i) = (p < i + 1) from propext (by omega)]
          exact ⟨trivial, trivial⟩
  refine z_metV ⟨rfl, z_go 60 [3] (loop P 0 σ (by omega) fr.rf (fun p hp => ?_))⟩
  rw [if_neg (by omega), if_neg (by omega)]
  exact ⟨(h1 p hp).1, h2 p hp⟩
