/-! the model's nowheres: all, and the first -/
theorem c_nowheres_B (d : Nat) {σ : z_M} {N : zN} (h : netD σ N) (hv : NV N) {k : Nat} (hk : 2 ≤ k ∧ k ≤ 6) : ∃ y s, z_call (d + 3) k_Md_nowheres [.ref 53, .int (nI k), .long (1)] σ y s ∧ (fun y s => fr [67, 68, 69] σ s ∧ ((nwN N k = 0 ∧ y = some (.long 0)) ∨ (0 < nwN N k ∧ y = some (.long 1) ∧ ∃ τ, FS (gs N) (ge N) (2 * (k - 1)) (fun i => i) τ (gR N) 0 (fun _ => 0) ∧ ∀ i, i < gR N → s.1 67 i = nI (τ i)))) y s := by
  obtain ⟨P, R, eP, hP, egP, eR, hR, eg, hse⟩ := hv.nat
  have hse6 : ∀ i, i < R → gs N i < 6 ∧ ge N i < 6 := fun i hi => by have := (hse i hi).2.2; omega
  generalize hPO : ((fun y s => fr [67, 68, 69] σ s ∧ ((nwN N k = 0 ∧ y = some (.long 0)) ∨ (0 < nwN N k ∧ y = some (.long 1) ∧ ∃ τ, FS (gs N) (ge N) (2 * (k - 1)) (fun i => i) τ (gR N) 0 (fun _ => 0) ∧ ∀ i, i < gR N → s.1 67 i = nI (τ i)))) : Option Value → z_M → Prop) = PO
  have hNf : ∀ s, fr [67, 68, 69] σ s → netD s N := fun s hf => h.fr (hf.at (by decide) _) (hf.at (by decide) _) (hf.at (by decide) _) (hf.1 54 (by decide)) (hf.1 55 (by decide)) (hf.1 56 (by decide)) (hf.1 57 (by decide))
  have e1 : ∀ s, fr [67, 68, 69] σ s → s.1 53 1 = nI R := fun s hf => by rw [hf.at (by decide), h.2.1, eR]
  have em1 : (-1 : Int32) = oI (-1) := rfl
  have e01 : (1 : Int32) = oI 1 := rfl
  have exit125 : ∀ (D tK : Nat) (nn : Int64) (g gK : Nat → Int) (σi : z_M), D ≤ R → fr [67, 68, 69] σ σi → (∀ p, p < 6 → σi.1 68 p = oI (g p)) → (∀ p, p < 6 → σi.1 69 p = nI (opn (gs N) (ge N) R D p)) → (0 < D → tK < 2 * (k - 1) ∧ σi.1 67 (D - 1) = nI tK ∧ ∀ p, p < 6 → g p = gK p + dl (gs N) (ge N) (D - 1) (vl tK) p) → (∀ s2, fr [68, 69] σi s2 → (0 < D → (∀ p, p < 6 → s2.1 68 p = oI (gK p)) ∧ ∀ p, p < 6 → s2.1 69 p = nI (opn (gs N) (ge N) R (D - 1) p)) → z_wp (z_call (d + 2)) none k_Md_nowheres PO 95 [some (.ref 53), some (.int (nI k)), some (.long (1)), none, some (.long (nn)), none, some (.int (nI D + -1))] [] s2) → z_wp (z_call (d + 2)) none k_Md_nowheres PO 125 [some (.ref 53), some (.int (nI k)), some (.long (1)), none, some (.long (nn)), none, some (.int (nI D))] [] σi := by
    intro D tK nn g gK σi hD hf hg ho hX K
    by_cases c0 : D = 0
    · subst c0
      refine z_go 30 [3, 35, 95, 125, 179] ⟨fun q => ?_, fun q => absurd (by decide) q⟩
      exact K σi fr.rf (fun z => absurd z (Nat.lt_irrefl 0))
    · obtain ⟨D', rfl⟩ : ∃ D', D = D' + 1 := ⟨D - 1, by omega⟩
      obtain ⟨x1, x2, x3⟩ := hX (by omega)
      have x2 : σi.1 67 D' = nI tK := x2
      have x3 : ∀ p, p < 6 → g p = gK p + dl (gs N) (ge N) D' (vl tK) p := x3
      obtain ⟨s2, hc, hf2, y1, y2⟩ := c_lay (d + 1) (hNf σi hf) hv (r := D') (by omega) (g := g) (o := fun p => (opn (gs N) (ge N) R (D' + 1) p : Int)) hg (fun p hp => by rw [ho p hp, oI_nat]) (vl tK) (-1)
      have K := K s2 hf2 (fun _ => ⟨fun p hp => by
        rw [y1 p hp, x3 p hp]
        congr 1
        omega, fun p hp => by
        rw [y2 p hp, show D' + 1 - 1 = D' from rfl, opn_s (D := D') (by omega), ← oI_nat]
        congr 1
        omega⟩)
      refine z_go 30 [3, 35, 95, 125, 179] ⟨fun q => ?_, fun q => ⟨?_, oI (vl tK), σi, ?_, s2, ?_, ?_⟩⟩
      · rw [i_dec] at q
        exact absurd q (n_nn (by omega))
      · rw [i_dec]
        (first | exact vin (by simp only [al_2, al_3, al_4, al_5, al_7, al_11, al_12, al_13, al_15, al_16, al_17, al_19, al_20, al_21, al_22, al_23, al_24, al_25, al_26, al_28, al_30, al_31, al_32, al_33, al_34, al_36, al_41, al_42, al_43, al_44, al_49, al_50, al_51, al_52, al_54, al_55, al_56, al_57, al_58, al_59, al_60, al_61, al_62, al_63, al_64, al_65, al_66, al_67, al_68, al_69, al_70, al_71, al_72, al_73, al_74, al_75, al_76, al_77, al_78, al_79, al_80]; omega) (by simp only [al_2, al_3, al_4, al_5, al_7, al_11, al_12, al_13, al_15, al_16, al_17, al_19, al_20, al_21, al_22, al_23, al_24, al_25, al_26, al_28, al_30, al_31, al_32, al_33, al_34, al_36, al_41, al_42, al_43, al_44, al_49, al_50, al_51, al_52, al_54, al_55, al_56, al_57, al_58, al_59, al_60, al_61, al_62, al_63, al_64, al_65, al_66, al_67, al_68, al_69, al_70, al_71, al_72, al_73, al_74, al_75, al_76, al_77, al_78, al_79, al_80]; decide) | (simp (disch := omega) only [nL, nI_add, pk_mul, nc, Nat.zero_add, al_2, al_3, al_4, al_5, al_7, al_11, al_12, al_13, al_15, al_16, al_17, al_19, al_20, al_21, al_22, al_23, al_24, al_25, al_26, al_28, al_30, al_31, al_32, al_33, al_34, al_36, al_41, al_42, al_43, al_44, al_49, al_50, al_51, al_52, al_54, al_55, al_56, al_57, al_58, al_59, al_60, al_61, al_62, al_63, al_64, al_65, al_66, al_67, al_68, al_69, al_70, al_71, al_72, al_73, al_74, al_75, al_76, al_77, al_78, al_79, al_80]; exact vin (by omega) (by decide)))
      · rw [i_dec, nc (by omega), x2]
        exact c_value (d + 1) σi (t := tK) (by omega)
      · rw [i_dec]
        exact hc
      · exact K
  have exit179 : ∀ (D tK : Nat) (nn : Int64) (g gK : Nat → Int) (σi : z_M), D ≤ R → fr [67, 68, 69] σ σi → (∀ p, p < 6 → σi.1 68 p = oI (g p)) → (∀ p, p < 6 → σi.1 69 p = nI (opn (gs N) (ge N) R D p)) → (0 < D → tK < 2 * (k - 1) ∧ σi.1 67 (D - 1) = nI tK ∧ ∀ p, p < 6 → g p = gK p + dl (gs N) (ge N) (D - 1) (vl tK) p) → (∀ s2, fr [68, 69] σi s2 → (0 < D → (∀ p, p < 6 → s2.1 68 p = oI (gK p)) ∧ ∀ p, p < 6 → s2.1 69 p = nI (opn (gs N) (ge N) R (D - 1) p)) → z_wp (z_call (d + 2)) none k_Md_nowheres PO 95 [some (.ref 53), some (.int (nI k)), some (.long (1)), none, some (.long (nn)), none, some (.int (nI D + -1))] [] s2) → z_wp (z_call (d + 2)) none k_Md_nowheres PO 179 [some (.ref 53), some (.int (nI k)), some (.long (1)), none, some (.long (nn)), none, some (.int (nI D))] [] σi := by
    intro D tK nn g gK σi hD hf hg ho hX K
    by_cases c0 : D = 0
    · subst c0
      refine z_go 30 [3, 35, 95, 125, 179] ⟨fun q => ?_, fun q => absurd (by decide) q⟩
      exact K σi fr.rf (fun z => absurd z (Nat.lt_irrefl 0))
    · obtain ⟨D', rfl⟩ : ∃ D', D = D' + 1 := ⟨D - 1, by omega⟩
      obtain ⟨x1, x2, x3⟩ := hX (by omega)
      have x2 : σi.1 67 D' = nI tK := x2
      have x3 : ∀ p, p < 6 → g p = gK p + dl (gs N) (ge N) D' (vl tK) p := x3
      obtain ⟨s2, hc, hf2, y1, y2⟩ := c_lay (d + 1) (hNf σi hf) hv (r := D') (by omega) (g := g) (o := fun p => (opn (gs N) (ge N) R (D' + 1) p : Int)) hg (fun p hp => by rw [ho p hp, oI_nat]) (vl tK) (-1)
      have K := K s2 hf2 (fun _ => ⟨fun p hp => by
        rw [y1 p hp, x3 p hp]
        congr 1
        omega, fun p hp => by
        rw [y2 p hp, show D' + 1 - 1 = D' from rfl, opn_s (D := D') (by omega), ← oI_nat]
        congr 1
        omega⟩)
      refine z_go 30 [3, 35, 95, 125, 179] ⟨fun q => ?_, fun q => ⟨?_, oI (vl tK), σi, ?_, s2, ?_, ?_⟩⟩
      · rw [i_dec] at q
        exact absurd q (n_nn (by omega))
      · rw [i_dec]
        (first | exact vin (by simp only [al_2, al_3, al_4, al_5, al_7, al_11, al_12, al_13, al_15, al_16, al_17, al_19, al_20, al_21, al_22, al_23, al_24, al_25, al_26, al_28, al_30, al_31, al_32, al_33, al_34, al_36, al_41, al_42, al_43, al_44, al_49, al_50, al_51, al_52, al_54, al_55, al_56, al_57, al_58, al_59, al_60, al_61, al_62, al_63, al_64, al_65, al_66, al_67, al_68, al_69, al_70, al_71, al_72, al_73, al_74, al_75, al_76, al_77, al_78, al_79, al_80]; omega) (by simp only [al_2, al_3, al_4, al_5, al_7, al_11, al_12, al_13, al_15, al_16, al_17, al_19, al_20, al_21, al_22, al_23, al_24, al_25, al_26, al_28, al_30, al_31, al_32, al_33, al_34, al_36, al_41, al_42, al_43, al_44, al_49, al_50, al_51, al_52, al_54, al_55, al_56, al_57, al_58, al_59, al_60, al_61, al_62, al_63, al_64, al_65, al_66, al_67, al_68, al_69, al_70, al_71, al_72, al_73, al_74, al_75, al_76, al_77, al_78, al_79, al_80]; decide) | (simp (disch := omega) only [nL, nI_add, pk_mul, nc, Nat.zero_add, al_2, al_3, al_4, al_5, al_7, al_11, al_12, al_13, al_15, al_16, al_17, al_19, al_20, al_21, al_22, al_23, al_24, al_25, al_26, al_28, al_30, al_31, al_32, al_33, al_34, al_36, al_41, al_42, al_43, al_44, al_49, al_50, al_51, al_52, al_54, al_55, al_56, al_57, al_58, al_59, al_60, al_61, al_62, al_63, al_64, al_65, al_66, al_67, al_68, al_69, al_70, al_71, al_72, al_73, al_74, al_75, al_76, al_77, al_78, al_79, al_80]; exact vin (by omega) (by decide)))
      · rw [i_dec, nc (by omega), x2]
        exact c_value (d + 1) σi (t := tK) (by omega)
      · rw [i_dec]
        exact hc
      · exact K
  have srch : ∀ (m D tK : Nat) (g gK : Nat → Int) (σi : z_M), D + m = R → fr [67, 68, 69] σ σi → (∀ p, p < 6 → σi.1 68 p = oI (g p)) → (∀ p, p < 6 → σi.1 69 p = nI (opn (gs N) (ge N) R D p)) → (∀ p, -(5 * (D : Int)) ≤ g p ∧ g p ≤ 5 * (D : Int)) → (∀ p, p < 6 → opn (gs N) (ge N) R D p = 0 → g p = 0) → (0 < D → tK < 2 * (k - 1) ∧ σi.1 67 (D - 1) = nI tK ∧ ∀ p, p < 6 → g p = gK p + dl (gs N) (ge N) (D - 1) (vl tK) p) → σi.1 67 D = -1 → (∀ (τ : Nat → Nat) (s2 : z_M), fr [67, 68, 69] σ s2 → FS (gs N) (ge N) (2 * (k - 1)) (fun i => i) τ (m) D g → 0 < NC (gs N) (ge N) (2 * (k - 1)) (fun i => i) (m) D g → (∀ i, i < D → s2.1 67 i = σi.1 67 i) → (∀ i, D ≤ i → i < R → s2.1 67 i = nI (τ i)) → PO (some (.long 1)) s2) → (NC (gs N) (ge N) (2 * (k - 1)) (fun i => i) (m) D g = 0 → (∀ s2, fr [67, 68, 69] σ s2 → (∀ i, i < D → s2.1 67 i = σi.1 67 i) → (0 < D → (∀ p, p < 6 → s2.1 68 p = oI (gK p)) ∧ ∀ p, p < 6 → s2.1 69 p = nI (opn (gs N) (ge N) R (D - 1) p)) → z_wp (z_call (d + 2)) none k_Md_nowheres PO 95 [some (.ref 53), some (.int (nI k)), some (.long (1)), none, some (.long (Int64.ofNat 0)), none, some (.int (nI D + -1))] [] s2)) → z_wp (z_call (d + 2)) none k_Md_nowheres PO 95 [some (.ref 53), some (.int (nI k)), some (.long (1)), none, some (.long (Int64.ofNat 0)), none, some (.int (nI D))] [] σi := by
    intro m
    induction m with
    | zero =>
      intro D tK g gK σi hD hf hg ho hbd hlev hX hT hP2 K
      obtain rfl : D = R := by omega
      have h0 : ∀ p, p < 6 → g p = 0 := fun p hp => hlev p hp (opn_R _ _ _ _)
      have hN1 : NC (gs N) (ge N) (2 * (k - 1)) (fun i => i) 0 D g = 1 := by rw [NC]; exact pb_t h0
      refine z_go 40 [3, 35, 95, 125, 179] ⟨fun q => absurd q (n_nn (by omega)), fun q => ⟨fun q2 => absurd (e1 σi hf).symm q2, fun q2 => ⟨fun q3 => absurd (show lg_cmp (Int64.ofNat 0 + 1) 1 = 0 from by decide) q3, fun q3 => ?_⟩⟩⟩
      exact hP2 (fun _ => 0) σi hf trivial (by omega) (fun i _ => rfl) (fun i h1 h2 => by omega)
    | succ m ih =>
      intro D tK g gK σ0 hD hf0 hg0 ho0 hbd hlev hX0 hT0 hP0 K0
      have eT : (2 : Int32) * (nI k - 1) = nI (2 * (k - 1)) := by
        show nI 2 * (nI k - nI 1) = _
        rw [i_sub (by omega), pk_mul]
      have hN : NC (gs N) (ge N) (2 * (k - 1)) (fun i => i) (m + 1) D g = nsum (fun x => NC (gs N) (ge N) (2 * (k - 1)) (fun i => i) m (D + 1) (ap (gs N) (ge N) D (vl x) g)) (2 * (k - 1)) := rfl
      have hrD : D < gR N := by omega
      have inner : ∀ (q t : Nat) (σi : z_M), t + q = 2 * (k - 1) → fr [67, 68, 69] σ σi → (∀ p, p < 6 → σi.1 68 p = oI (g p)) → (∀ p, p < 6 → σi.1 69 p = nI (opn (gs N) (ge N) R D p)) → (∀ i, i < D → σi.1 67 i = σ0.1 67 i) → σi.1 67 D = nI t + -1 → (∀ x, x < t → (fun x => NC (gs N) (ge N) (2 * (k - 1)) (fun i => i) m (D + 1) (ap (gs N) (ge N) D (vl x) g)) x = 0) → z_wp (z_call (d + 2)) none k_Md_nowheres PO 95 [some (.ref 53), some (.int (nI k)), some (.long (1)), none, some (.long (Int64.ofNat 0)), none, some (.int (nI D))] [] σi := by
        intro q
        induction q with
        | zero =>
          intro t σi ht hf hg ho hlow hT hz
          obtain rfl : t = 2 * (k - 1) := by omega
          have hT1 : nI (2 * (k - 1)) + -1 + 1 = nI (2 * (k - 1)) := by rw [Int32.add_assoc]; exact Int32.add_zero _
          refine z_go 60 [3, 35, 95, 125, 179] ⟨fun q => absurd q (n_nn (by omega)), fun q => ⟨fun q2 => ⟨by (first | exact vin (by simp only [al_2, al_3, al_4, al_5, al_7, al_11, al_12, al_13, al_15, al_16, al_17, al_19, al_20, al_21, al_22, al_23, al_24, al_25, al_26, al_28, al_30, al_31, al_32, al_33, al_34, al_36, al_41, al_42, al_43, al_44, al_49, al_50, al_51, al_52, al_54, al_55, al_56, al_57, al_58, al_59, al_60, al_61, al_62, al_63, al_64, al_65, al_66, al_67, al_68, al_69, al_70, al_71, al_72, al_73, al_74, al_75, al_76, al_77, al_78, al_79, al_80]; omega) (by simp only [al_2, al_3, al_4, al_5, al_7, al_11, al_12, al_13, al_15, al_16, al_17, al_19, al_20, al_21, al_22, al_23, al_24, al_25, al_26, al_28, al_30, al_31, al_32, al_33, al_34, al_36, al_41, al_42, al_43, al_44, al_49, al_50, al_51, al_52, al_54, al_55, al_56, al_57, al_58, al_59, al_60, al_61, al_62, al_63, al_64, al_65, al_66, al_67, al_68, al_69, al_70, al_71, al_72, al_73, al_74, al_75, al_76, al_77, al_78, al_79, al_80]; decide) | (simp (disch := omega) only [nL, nI_add, pk_mul, nc, Nat.zero_add, al_2, al_3, al_4, al_5, al_7, al_11, al_12, al_13, al_15, al_16, al_17, al_19, al_20, al_21, al_22, al_23, al_24, al_25, al_26, al_28, al_30, al_31, al_32, al_33, al_34, al_36, al_41, al_42, al_43, al_44, al_49, al_50, al_51, al_52, al_54, al_55, al_56, al_57, al_58, al_59, al_60, al_61, al_62, al_63, al_64, al_65, al_66, al_67, al_68, al_69, al_70, al_71, al_72, al_73, al_74, al_75, al_76, al_77, al_78, al_79, al_80]; exact vin (by omega) (by decide))), by (first | exact vin (by simp only [al_2, al_3, al_4, al_5, al_7, al_11, al_12, al_13, al_15, al_16, al_17, al_19, al_20, al_21, al_22, al_23, al_24, al_25, al_26, al_28, al_30, al_31, al_32, al_33, al_34, al_36, al_41, al_42, al_43, al_44, al_49, al_50, al_51, al_52, al_54, al_55, al_56, al_57, al_58, al_59, al_60, al_61, al_62, al_63, al_64, al_65, al_66, al_67, al_68, al_69, al_70, al_71, al_72, al_73, al_74, al_75, al_76, al_77, al_78, al_79, al_80]; omega) (by simp only [al_2, al_3, al_4, al_5, al_7, al_11, al_12, al_13, al_15, al_16, al_17, al_19, al_20, al_21, al_22, al_23, al_24, al_25, al_26, al_28, al_30, al_31, al_32, al_33, al_34, al_36, al_41, al_42, al_43, al_44, al_49, al_50, al_51, al_52, al_54, al_55, al_56, al_57, al_58, al_59, al_60, al_61, al_62, al_63, al_64, al_65, al_66, al_67, al_68, al_69, al_70, al_71, al_72, al_73, al_74, al_75, al_76, al_77, al_78, al_79, al_80]; decide) | (simp (disch := omega) only [nL, nI_add, pk_mul, nc, Nat.zero_add, al_2, al_3, al_4, al_5, al_7, al_11, al_12, al_13, al_15, al_16, al_17, al_19, al_20, al_21, al_22, al_23, al_24, al_25, al_26, al_28, al_30, al_31, al_32, al_33, al_34, al_36, al_41, al_42, al_43, al_44, al_49, al_50, al_51, al_52, al_54, al_55, al_56, al_57, al_58, al_59, al_60, al_61, al_62, al_63, al_64, al_65, al_66, al_67, al_68, al_69, al_70, al_71, al_72, al_73, al_74, al_75, al_76, al_77, al_78, al_79, al_80]; exact vin (by omega) (by decide))), by (first | exact vin (by simp only [al_2, al_3, al_4, al_5, al_7, al_11, al_12, al_13, al_15, al_16, al_17, al_19, al_20, al_21, al_22, al_23, al_24, al_25, al_26, al_28, al_30, al_31, al_32, al_33, al_34, al_36, al_41, al_42, al_43, al_44, al_49, al_50, al_51, al_52, al_54, al_55, al_56, al_57, al_58, al_59, al_60, al_61, al_62, al_63, al_64, al_65, al_66, al_67, al_68, al_69, al_70, al_71, al_72, al_73, al_74, al_75, al_76, al_77, al_78, al_79, al_80]; omega) (by simp only [al_2, al_3, al_4, al_5, al_7, al_11, al_12, al_13, al_15, al_16, al_17, al_19, al_20, al_21, al_22, al_23, al_24, al_25, al_26, al_28, al_30, al_31, al_32, al_33, al_34, al_36, al_41, al_42, al_43, al_44, al_49, al_50, al_51, al_52, al_54, al_55, al_56, al_57, al_58, al_59, al_60, al_61, al_62, al_63, al_64, al_65, al_66, al_67, al_68, al_69, al_70, al_71, al_72, al_73, al_74, al_75, al_76, al_77, al_78, al_79, al_80]; decide) | (simp (disch := omega) only [nL, nI_add, pk_mul, nc, Nat.zero_add, al_2, al_3, al_4, al_5, al_7, al_11, al_12, al_13, al_15, al_16, al_17, al_19, al_20, al_21, al_22, al_23, al_24, al_25, al_26, al_28, al_30, al_31, al_32, al_33, al_34, al_36, al_41, al_42, al_43, al_44, al_49, al_50, al_51, al_52, al_54, al_55, al_56, al_57, al_58, al_59, al_60, al_61, al_62, al_63, al_64, al_65, al_66, al_67, al_68, al_69, al_70, al_71, al_72, al_73, al_74, al_75, al_76, al_77, al_78, al_79, al_80]; exact vin (by omega) (by decide))), fun q3 => ?_, fun q3 => ?_⟩, fun q2 => ?_⟩⟩
          · exfalso
            rw [nc (by omega), wr_s, hT, hT1, eT] at q3
            exact Int32.lt_irrefl q3
          · rw [nc (by omega), hT, hT1]
            have hf1 : fr [67, 68, 69] σ (z_wr σi 67 D (nI (2 * (k - 1)))) := fr.wr hf (by decide)
            refine exit179 D tK _ g gK _ (by omega) hf1 (fun p hp => by rw [wr_c (by decide)]; exact hg p hp) (fun p hp => by rw [wr_c (by decide)]; exact ho p hp) (fun z => by
              obtain ⟨x1, x2, x3⟩ := hX0 z
              exact ⟨x1, by rw [wr_k (by omega), hlow _ (by omega)]; exact x2, x3⟩) (fun s2 hf2 y => ?_)
            exact K0 (by rw [hN]; exact nsum_0 hz) s2 (hf1.tr (hf2.wk _ (by decide))) (fun i hi => by rw [hf2.at (by decide), wr_k (by omega)]; exact hlow i hi) y
          · rw [e1 σi hf, n_eq (by omega) (by omega)] at q2
            omega
        | succ q ihq =>
          intro t σi ht hf hg ho hlow hT hz
          have hT1 : nI t + -1 + 1 = nI t := by rw [Int32.add_assoc]; exact Int32.add_zero _
          have hTn : nI (t + 1) + -1 = nI t := i_dec t
          have hvl := vl_rng (t := t) (k := k) (by omega)
          have hf1 : fr [67, 68, 69] σ (z_wr σi 67 D (nI t)) := fr.wr hf (by decide)
          have hopn := fun p => opn_s (s := gs N) (e := ge N) (R := R) (D := D) (p := p) (by omega)
          obtain ⟨s2, hc2, hf2, y1, y2⟩ := c_lay (d + 1) (hNf _ hf1) hv (r := D) hrD (g := g) (o := fun p => (opn (gs N) (ge N) R D p : Int)) (fun p hp => by rw [wr_c (by decide)]; exact hg p hp) (fun p hp => by rw [wr_c (by decide), ho p hp, oI_nat]) (vl t) 1
          have y1 : ∀ p, p < 6 → s2.1 68 p = oI (ap (gs N) (ge N) D (vl t) g p) := fun p hp => by rw [y1 p hp, Int.one_mul]; rfl
          have y2 : ∀ p, p < 6 → s2.1 69 p = nI (opn (gs N) (ge N) R (D + 1) p) := fun p hp => by
            rw [y2 p hp, ← oI_nat, hopn p]
            congr 1
            omega
          have hf12 : fr [67, 68, 69] σ s2 := hf1.tr (hf2.wk _ (by decide))
          have hbd2 : ∀ p, -(5 * ((D + 1 : Nat) : Int)) ≤ ap (gs N) (ge N) D (vl t) g p ∧ ap (gs N) (ge N) D (vl t) g p ≤ 5 * ((D + 1 : Nat) : Int) := by
            intro p
            have := hbd p
            unfold ap dl
            split <;> split <;> omega
          have hol : ∀ p, opn (gs N) (ge N) R (D + 1) p ≤ 20 := fun p => by have := opn_le (gs N) (ge N) R (D + 1) p; omega
          have cc := c_canEnd (d + 1) (hNf _ hf12) hv (r := D) (k := k) hrD hk (g := ap (gs N) (ge N) D (vl t) g) (o := opn (gs N) (ge N) R (D + 1)) (fun p hp => ⟨y1 p hp, by have := hbd2 p; omega, by have := hbd2 p; omega⟩) (fun p hp => ⟨y2 p hp, by have := hol p; omega⟩)
          have hpb := pb_le (cE (opn (gs N) (ge N) R (D + 1)) (ap (gs N) (ge N) D (vl t) g) k (gs N D) ∧ cE (opn (gs N) (ge N) R (D + 1)) (ap (gs N) (ge N) D (vl t) g) k (ge N D))
          have s2D : s2.1 67 D = nI t := by rw [hf2.at (by decide), wr_s]
          have s2l : ∀ i, i < D → s2.1 67 i = σ0.1 67 i := fun i hi => by rw [hf2.at (by decide), wr_k (by omega)]; exact hlow i hi
          have go : (fun x => NC (gs N) (ge N) (2 * (k - 1)) (fun i => i) m (D + 1) (ap (gs N) (ge N) D (vl x) g)) t = 0 → ∀ s3, fr [67, 68, 69] σ s3 → (∀ p, p < 6 → s3.1 68 p = oI (g p)) → (∀ p, p < 6 → s3.1 69 p = nI (opn (gs N) (ge N) R D p)) → (∀ i, i < D → s3.1 67 i = σ0.1 67 i) → s3.1 67 D = nI t → z_wp (z_call (d + 2)) none k_Md_nowheres PO 95 [some (.ref 53), some (.int (nI k)), some (.long (1)), none, some (.long (Int64.ofNat 0)), none, some (.int (nI D))] [] s3 := by
            intro b0 s3 a1 a2 a3 a4 a5
            refine ihq (t + 1) s3 (by omega) a1 a2 a3 a4 (by rw [hTn]; exact a5) (fun x hx => ?_)
            by_cases cx : x = t
            · rw [cx]; exact b0
            · exact hz x (by omega)
          have hlev2 : (cE (opn (gs N) (ge N) R (D + 1)) (ap (gs N) (ge N) D (vl t) g) k (gs N D) ∧ cE (opn (gs N) (ge N) R (D + 1)) (ap (gs N) (ge N) D (vl t) g) k (ge N D)) → ∀ p, p < 6 → opn (gs N) (ge N) R (D + 1) p = 0 → ap (gs N) (ge N) D (vl t) g p = 0 := by
            intro hce p hp hz0
            by_cases p1 : p = gs N D
            · have := hce.1
              rw [← p1] at this
              unfold cE at this
              rw [hz0] at this
              omega
            · by_cases p2 : p = ge N D
              · have := hce.2
                rw [← p2] at this
                unfold cE at this
                rw [hz0] at this
                omega
              · have ho0 : own (gs N) (ge N) D p = 0 := by
                  unfold own
                  rw [if_neg (fun z => p1 z.symm), if_neg (fun z => p2 z.symm)]
                have := hlev p hp (by rw [hopn p]; omega)
                unfold ap dl
                rw [if_neg (fun z => p2 z.symm), if_neg (fun z => p1 z.symm), this]
                rfl
          refine z_go 90 [3, 35, 95, 125, 179] ⟨fun q => absurd q (n_nn (by omega)), fun q => ⟨fun q2 => ⟨by (first | exact vin (by simp only [al_2, al_3, al_4, al_5, al_7, al_11, al_12, al_13, al_15, al_16, al_17, al_19, al_20, al_21, al_22, al_23, al_24, al_25, al_26, al_28, al_30, al_31, al_32, al_33, al_34, al_36, al_41, al_42, al_43, al_44, al_49, al_50, al_51, al_52, al_54, al_55, al_56, al_57, al_58, al_59, al_60, al_61, al_62, al_63, al_64, al_65, al_66, al_67, al_68, al_69, al_70, al_71, al_72, al_73, al_74, al_75, al_76, al_77, al_78, al_79, al_80]; omega) (by simp only [al_2, al_3, al_4, al_5, al_7, al_11, al_12, al_13, al_15, al_16, al_17, al_19, al_20, al_21, al_22, al_23, al_24, al_25, al_26, al_28, al_30, al_31, al_32, al_33, al_34, al_36, al_41, al_42, al_43, al_44, al_49, al_50, al_51, al_52, al_54, al_55, al_56, al_57, al_58, al_59, al_60, al_61, al_62, al_63, al_64, al_65, al_66, al_67, al_68, al_69, al_70, al_71, al_72, al_73, al_74, al_75, al_76, al_77, al_78, al_79, al_80]; decide) | (simp (disch := omega) only [nL, nI_add, pk_mul, nc, Nat.zero_add, al_2, al_3, al_4, al_5, al_7, al_11, al_12, al_13, al_15, al_16, al_17, al_19, al_20, al_21, al_22, al_23, al_24, al_25, al_26, al_28, al_30, al_31, al_32, al_33, al_34, al_36, al_41, al_42, al_43, al_44, al_49, al_50, al_51, al_52, al_54, al_55, al_56, al_57, al_58, al_59, al_60, al_61, al_62, al_63, al_64, al_65, al_66, al_67, al_68, al_69, al_70, al_71, al_72, al_73, al_74, al_75, al_76, al_77, al_78, al_79, al_80]; exact vin (by omega) (by decide))), by (first | exact vin (by simp only [al_2, al_3, al_4, al_5, al_7, al_11, al_12, al_13, al_15, al_16, al_17, al_19, al_20, al_21, al_22, al_23, al_24, al_25, al_26, al_28, al_30, al_31, al_32, al_33, al_34, al_36, al_41, al_42, al_43, al_44, al_49, al_50, al_51, al_52, al_54, al_55, al_56, al_57, al_58, al_59, al_60, al_61, al_62, al_63, al_64, al_65, al_66, al_67, al_68, al_69, al_70, al_71, al_72, al_73, al_74, al_75, al_76, al_77, al_78, al_79, al_80]; omega) (by simp only [al_2, al_3, al_4, al_5, al_7, al_11, al_12, al_13, al_15, al_16, al_17, al_19, al_20, al_21, al_22, al_23, al_24, al_25, al_26, al_28, al_30, al_31, al_32, al_33, al_34, al_36, al_41, al_42, al_43, al_44, al_49, al_50, al_51, al_52, al_54, al_55, al_56, al_57, al_58, al_59, al_60, al_61, al_62, al_63, al_64, al_65, al_66, al_67, al_68, al_69, al_70, al_71, al_72, al_73, al_74, al_75, al_76, al_77, al_78, al_79, al_80]; decide) | (simp (disch := omega) only [nL, nI_add, pk_mul, nc, Nat.zero_add, al_2, al_3, al_4, al_5, al_7, al_11, al_12, al_13, al_15, al_16, al_17, al_19, al_20, al_21, al_22, al_23, al_24, al_25, al_26, al_28, al_30, al_31, al_32, al_33, al_34, al_36, al_41, al_42, al_43, al_44, al_49, al_50, al_51, al_52, al_54, al_55, al_56, al_57, al_58, al_59, al_60, al_61, al_62, al_63, al_64, al_65, al_66, al_67, al_68, al_69, al_70, al_71, al_72, al_73, al_74, al_75, al_76, al_77, al_78, al_79, al_80]; exact vin (by omega) (by decide))), by (first | exact vin (by simp only [al_2, al_3, al_4, al_5, al_7, al_11, al_12, al_13, al_15, al_16, al_17, al_19, al_20, al_21, al_22, al_23, al_24, al_25, al_26, al_28, al_30, al_31, al_32, al_33, al_34, al_36, al_41, al_42, al_43, al_44, al_49, al_50, al_51, al_52, al_54, al_55, al_56, al_57, al_58, al_59, al_60, al_61, al_62, al_63, al_64, al_65, al_66, al_67, al_68, al_69, al_70, al_71, al_72, al_73, al_74, al_75, al_76, al_77, al_78, al_79, al_80]; omega) (by simp only [al_2, al_3, al_4, al_5, al_7, al_11, al_12, al_13, al_15, al_16, al_17, al_19, al_20, al_21, al_22, al_23, al_24, al_25, al_26, al_28, al_30, al_31, al_32, al_33, al_34, al_36, al_41, al_42, al_43, al_44, al_49, al_50, al_51, al_52, al_54, al_55, al_56, al_57, al_58, al_59, al_60, al_61, al_62, al_63, al_64, al_65, al_66, al_67, al_68, al_69, al_70, al_71, al_72, al_73, al_74, al_75, al_76, al_77, al_78, al_79, al_80]; decide) | (simp (disch := omega) only [nL, nI_add, pk_mul, nc, Nat.zero_add, al_2, al_3, al_4, al_5, al_7, al_11, al_12, al_13, al_15, al_16, al_17, al_19, al_20, al_21, al_22, al_23, al_24, al_25, al_26, al_28, al_30, al_31, al_32, al_33, al_34, al_36, al_41, al_42, al_43, al_44, al_49, al_50, al_51, al_52, al_54, al_55, al_56, al_57, al_58, al_59, al_60, al_61, al_62, al_63, al_64, al_65, al_66, al_67, al_68, al_69, al_70, al_71, al_72, al_73, al_74, al_75, al_76, al_77, al_78, al_79, al_80]; exact vin (by omega) (by decide))), fun q3 => ⟨by (first | exact vin (by simp only [al_2, al_3, al_4, al_5, al_7, al_11, al_12, al_13, al_15, al_16, al_17, al_19, al_20, al_21, al_22, al_23, al_24, al_25, al_26, al_28, al_30, al_31, al_32, al_33, al_34, al_36, al_41, al_42, al_43, al_44, al_49, al_50, al_51, al_52, al_54, al_55, al_56, al_57, al_58, al_59, al_60, al_61, al_62, al_63, al_64, al_65, al_66, al_67, al_68, al_69, al_70, al_71, al_72, al_73, al_74, al_75, al_76, al_77, al_78, al_79, al_80]; omega) (by simp only [al_2, al_3, al_4, al_5, al_7, al_11, al_12, al_13, al_15, al_16, al_17, al_19, al_20, al_21, al_22, al_23, al_24, al_25, al_26, al_28, al_30, al_31, al_32, al_33, al_34, al_36, al_41, al_42, al_43, al_44, al_49, al_50, al_51, al_52, al_54, al_55, al_56, al_57, al_58, al_59, al_60, al_61, al_62, al_63, al_64, al_65, al_66, al_67, al_68, al_69, al_70, al_71, al_72, al_73, al_74, al_75, al_76, al_77, al_78, al_79, al_80]; decide) | (simp (disch := omega) only [nL, nI_add, pk_mul, nc, Nat.zero_add, al_2, al_3, al_4, al_5, al_7, al_11, al_12, al_13, al_15, al_16, al_17, al_19, al_20, al_21, al_22, al_23, al_24, al_25, al_26, al_28, al_30, al_31, al_32, al_33, al_34, al_36, al_41, al_42, al_43, al_44, al_49, al_50, al_51, al_52, al_54, al_55, al_56, al_57, al_58, al_59, al_60, al_61, al_62, al_63, al_64, al_65, al_66, al_67, al_68, al_69, al_70, al_71, al_72, al_73, al_74, al_75, al_76, al_77, al_78, al_79, al_80]; exact vin (by omega) (by decide))), ?_⟩, fun q3 => ?_⟩, fun q2 => ?_⟩⟩
          · simp (disch := omega) only [nc, hT, hT1, wr_s]
            refine ⟨_, _, c_value (d + 1) _ (t := t) (by omega), s2, hc2, _, _, cc, fun q4 => ?_, fun q4 => ⟨by (first | exact vin (by simp only [al_2, al_3, al_4, al_5, al_7, al_11, al_12, al_13, al_15, al_16, al_17, al_19, al_20, al_21, al_22, al_23, al_24, al_25, al_26, al_28, al_30, al_31, al_32, al_33, al_34, al_36, al_41, al_42, al_43, al_44, al_49, al_50, al_51, al_52, al_54, al_55, al_56, al_57, al_58, al_59, al_60, al_61, al_62, al_63, al_64, al_65, al_66, al_67, al_68, al_69, al_70, al_71, al_72, al_73, al_74, al_75, al_76, al_77, al_78, al_79, al_80]; omega) (by simp only [al_2, al_3, al_4, al_5, al_7, al_11, al_12, al_13, al_15, al_16, al_17, al_19, al_20, al_21, al_22, al_23, al_24, al_25, al_26, al_28, al_30, al_31, al_32, al_33, al_34, al_36, al_41, al_42, al_43, al_44, al_49, al_50, al_51, al_52, al_54, al_55, al_56, al_57, al_58, al_59, al_60, al_61, al_62, al_63, al_64, al_65, al_66, al_67, al_68, al_69, al_70, al_71, al_72, al_73, al_74, al_75, al_76, al_77, al_78, al_79, al_80]; decide) | (simp (disch := omega) only [nL, nI_add, pk_mul, nc, Nat.zero_add, al_2, al_3, al_4, al_5, al_7, al_11, al_12, al_13, al_15, al_16, al_17, al_19, al_20, al_21, al_22, al_23, al_24, al_25, al_26, al_28, al_30, al_31, al_32, al_33, al_34, al_36, al_41, al_42, al_43, al_44, al_49, al_50, al_51, al_52, al_54, al_55, al_56, al_57, al_58, al_59, al_60, al_61, al_62, al_63, al_64, al_65, al_66, al_67, al_68, al_69, al_70, al_71, al_72, al_73, al_74, al_75, al_76, al_77, al_78, al_79, al_80]; exact vin (by omega) (by decide))), ?_⟩⟩
            · have q4 : nI (pb (cE (opn (gs N) (ge N) R (D + 1)) (ap (gs N) (ge N) D (vl t) g) k (gs N D) ∧ cE (opn (gs N) (ge N) R (D + 1)) (ap (gs N) (ge N) D (vl t) g) k (ge N D))) = nI 0 := q4
              rw [n_eq (by omega) (by omega)] at q4
              have q4 := pb_0 q4
              have hz0 : (fun x => NC (gs N) (ge N) (2 * (k - 1)) (fun i => i) m (D + 1) (ap (gs N) (ge N) D (vl x) g)) t = 0 := by
                have hl := fun p => ltr_opn (gs N) (ge N) (R := R) (D := D + 1) (p := p) (m := m) (by omega)
                have far : ∀ p, p < 6 → ¬ cE (opn (gs N) (ge N) R (D + 1)) (ap (gs N) (ge N) D (vl t) g) k p → NC (gs N) (ge N) (2 * (k - 1)) (fun i => i) m (D + 1) (ap (gs N) (ge N) D (vl t) g) = 0 := by
                  intro p hp hce
                  refine NC_far (p := p) hp ?_
                  unfold cE at hce
                  have h1 : ((k - 1 : Nat) : Int) * (ltr (gs N) (ge N) (fun i => i) (D + 1) p m : Int) ≤ (opn (gs N) (ge N) R (D + 1) p : Int) * ((k - 1 : Nat) : Int) := by
                    rw [Int.mul_comm]
                    exact Int.mul_le_mul_of_nonneg_right (Int.ofNat_le.mpr (hl p)) (by omega)
                  omega
                by_cases c1 : cE (opn (gs N) (ge N) R (D + 1)) (ap (gs N) (ge N) D (vl t) g) k (gs N D)
                · exact far _ (hse6 D (by omega)).2 (fun z => q4 ⟨c1, z⟩)
                · exact far _ (hse6 D (by omega)).1 c1
              obtain ⟨s3, hc3, hf3, w1, w2⟩ := c_lay (d + 1) (hNf _ hf12) hv (r := D) hrD (g := ap (gs N) (ge N) D (vl t) g) (o := fun p => (opn (gs N) (ge N) R (D + 1) p : Int)) y1 (fun p hp => by rw [y2 p hp, oI_nat]) (vl t) (-1)
              refine ⟨by (first | exact vin (by simp only [al_2, al_3, al_4, al_5, al_7, al_11, al_12, al_13, al_15, al_16, al_17, al_19, al_20, al_21, al_22, al_23, al_24, al_25, al_26, al_28, al_30, al_31, al_32, al_33, al_34, al_36, al_41, al_42, al_43, al_44, al_49, al_50, al_51, al_52, al_54, al_55, al_56, al_57, al_58, al_59, al_60, al_61, al_62, al_63, al_64, al_65, al_66, al_67, al_68, al_69, al_70, al_71, al_72, al_73, al_74, al_75, al_76, al_77, al_78, al_79, al_80]; omega) (by simp only [al_2, al_3, al_4, al_5, al_7, al_11, al_12, al_13, al_15, al_16, al_17, al_19, al_20, al_21, al_22, al_23, al_24, al_25, al_26, al_28, al_30, al_31, al_32, al_33, al_34, al_36, al_41, al_42, al_43, al_44, al_49, al_50, al_51, al_52, al_54, al_55, al_56, al_57, al_58, al_59, al_60, al_61, al_62, al_63, al_64, al_65, al_66, al_67, al_68, al_69, al_70, al_71, al_72, al_73, al_74, al_75, al_76, al_77, al_78, al_79, al_80]; decide) | (simp (disch := omega) only [nL, nI_add, pk_mul, nc, Nat.zero_add, al_2, al_3, al_4, al_5, al_7, al_11, al_12, al_13, al_15, al_16, al_17, al_19, al_20, al_21, al_22, al_23, al_24, al_25, al_26, al_28, al_30, al_31, al_32, al_33, al_34, al_36, al_41, al_42, al_43, al_44, al_49, al_50, al_51, al_52, al_54, al_55, al_56, al_57, al_58, al_59, al_60, al_61, al_62, al_63, al_64, al_65, al_66, al_67, al_68, al_69, al_70, al_71, al_72, al_73, al_74, al_75, al_76, al_77, al_78, al_79, al_80]; exact vin (by omega) (by decide))), ?_⟩
              rw [nc (by omega), s2D]
              refine ⟨_, _, c_value (d + 1) _ (t := t) (by omega), s3, hc3, ?_⟩
              show z_wp _ _ _ _ 95 _ _ _
              have := go hz0 s3 (hf12.tr (hf3.wk _ (by decide))) (fun p hp => by
                rw [w1 p hp]
                unfold ap
                congr 1
                omega) (fun p hp => by
                rw [w2 p hp, hopn p, ← oI_nat]
                congr 1
                omega) (fun i hi => by rw [hf3.at (by decide)]; exact s2l i hi) (by rw [hf3.at (by decide)]; exact s2D)
              skip
              exact this
            · have q4 : ¬ nI (pb (cE (opn (gs N) (ge N) R (D + 1)) (ap (gs N) (ge N) D (vl t) g) k (gs N D) ∧ cE (opn (gs N) (ge N) R (D + 1)) (ap (gs N) (ge N) D (vl t) g) k (ge N D))) = nI 0 := q4
              rw [n_eq (by omega) (by omega)] at q4
              have hlev2 := hlev2 (pb_1 q4)
              show z_wp _ _ _ _ 95 _ _ _
              rw [show nI D + 1 = nI (D + 1) from nI_add D 1, nc (by omega)]
              refine ih (D + 1) t (ap (gs N) (ge N) D (vl t) g) g (z_wr s2 67 (D + 1) (-1)) (by omega) (fr.wr hf12 (by decide)) (fun p hp => by rw [wr_c (by decide)]; exact y1 p hp) (fun p hp => by rw [wr_c (by decide)]; exact y2 p hp) hbd2 hlev2 (fun _ => ⟨by omega, by rw [show D + 1 - 1 = D from rfl, wr_k (by omega)]; exact s2D, fun p _ => rfl⟩) wr_s (fun τ s3 b1 b2 b3 b4 b5 => ?_) (fun b0 s3 b1 b2 b3 => ?_)
              · obtain ⟨τ', hτ'⟩ : ∃ τ' : Nat → Nat, τ' = fun i => if i = D then t else τ i := ⟨_, rfl⟩
                have tD : τ' D = t := (congrFun hτ' D).trans (if_pos rfl)
                have tn : ∀ i, i ≠ D → τ' i = τ i := fun i hi => (congrFun hτ' i).trans (if_neg hi)
                refine hP0 τ' s3 b1 ⟨by rw [tD]; omega, fun x hx => hz x (by rw [tD] at hx; exact hx), by rw [tD]; exact b3, ?_⟩ ?_ (fun i hi => by rw [b4 i (by omega), wr_k (by omega)]; exact s2l i hi) (fun i h1 h2 => ?_)
                · rw [tD]
                  exact FS_congr (fun i h1 h2 => (tn i (by omega)).symm) b2
                · rw [hN]
                  have := nsum_ge (f := (fun x => NC (gs N) (ge N) (2 * (k - 1)) (fun i => i) m (D + 1) (ap (gs N) (ge N) D (vl x) g))) (i := t) (n := 2 * (k - 1)) (by omega)
                  exact Nat.lt_of_lt_of_le b3 this
                · by_cases ci : i = D
                  · rw [ci, tD, b4 D (by omega), wr_k (by omega)]
                    exact s2D
                  · rw [tn i ci]
                    exact b5 i (by omega) h2
              · obtain ⟨b4, b5⟩ := b3 (by omega)
                rw [i_dec]
                exact go b0 s3 b1 b4 b5 (fun i hi => by rw [b2 i (by omega), wr_k (by omega)]; exact s2l i hi) (by rw [b2 D (by omega), wr_k (by omega)]; exact s2D)
          · exfalso
            rw [nc (by omega), wr_s, hT, hT1, eT, n_lt (by omega) (by omega)] at q3
            omega
          · rw [e1 σi hf, n_eq (by omega) (by omega)] at q2
            omega
      exact inner (2 * (k - 1)) 0 σ0 (by omega) hf0 hg0 ho0 (fun i _ => rfl) (by rw [hT0]; rfl) (fun x hx => absurd hx (Nat.not_lt_zero x))
  have hle : NC (gs N) (ge N) (2 * (k - 1)) (fun i => i) R 0 (fun _ => 0) ≤ 10 ^ 10 := Nat.le_trans NC_le (Nat.le_trans (Nat.pow_le_pow_left (show 2 * (k - 1) ≤ 10 by omega) R) (Nat.pow_le_pow_right (by omega) hR))
  have enw : nwN N k = NC (gs N) (ge N) (2 * (k - 1)) (fun i => i) R 0 (fun _ => 0) := by rw [nwN, eg]
  have out : ∀ (nn : Int64) (s2 : z_M), PO (some (.long nn)) s2 → z_wp (z_call (d + 2)) none k_Md_nowheres PO 95 [some (.ref 53), some (.int (nI k)), some (.long (1)), none, some (.long (nn)), none, some (.int (nI 0 + -1))] [] s2 := by
    intro nn s2 hpo
    exact z_go 30 [3, 35, 95, 125, 179] ⟨fun q => hpo, fun q => absurd (by decide) q⟩
  have l35 : ∀ (n i : Nat) (σi : z_M), i + n = R → fr [67, 68, 69] σ σi → (∀ p, p < 6 → σi.1 68 p = 0) → (∀ p, p < 6 → σi.1 69 p = nI (nsum (fun x => own (gs N) (ge N) x p) i)) → z_wp (z_call (d + 2)) none k_Md_nowheres PO 35 [some (.ref 53), some (.int (nI k)), some (.long (1)), none, some (.int (nI i)), none, none] [] σi := by
    intro n
    induction n with
    | zero =>
      intro i σi hn hf hs ho
      obtain rfl : i = R := by omega
      have hop : ∀ p, opn (gs N) (ge N) i 0 p = nsum (fun x => own (gs N) (ge N) x p) i := fun p => by
        unfold opn
        rw [Nat.sub_zero]
        exact nsum_eq (fun x _ => by rw [Nat.zero_add])
      refine z_go 40 [3, 35, 95, 125, 179] ⟨fun q => ⟨?_, ?_⟩, fun q => ?_⟩
      · exact vin (n := 0) (show 0 < z_al 67 by decide) (by decide)
      · show z_wp (z_call (d + 2)) none k_Md_nowheres PO 95 [some (.ref 53), some (.int (nI k)), some (.long (1)), none, some (.long (Int64.ofNat 0)), none, some (.int (nI 0))] [] (z_wr σi 67 0 (-1))
        refine srch i 0 0 (fun _ => 0) (fun _ => 0) (z_wr σi 67 0 (-1)) (by omega) (fr.wr hf (by decide)) (fun p hp => by rw [wr_c (by decide), hs p hp]; rfl) (fun p hp => by rw [wr_c (by decide), ho p hp, hop p]) (fun p => ⟨by omega, by omega⟩) (fun p _ _ => rfl) (fun z => absurd z (Nat.lt_irrefl 0)) wr_s (fun τ s2 b1 b2 b3 _ b5 => ?_) (fun b0 s2 b1 _ _ => ?_)
        · rw [← hPO]
          refine ⟨b1, Or.inr ⟨by rw [enw]; exact b3, rfl, τ, ?_, fun x hx => b5 x (by omega) (by omega)⟩⟩
          rw [eg]
          exact b2
        · exact out _ s2 (by rw [← hPO]; exact ⟨b1, Or.inl ⟨by rw [enw]; exact b0, rfl⟩⟩)
      · rw [e1 σi hf] at q
        exact absurd (Int32.le_refl _) q
    | succ n ih =>
      intro i σi hn hf hs ho
      obtain ⟨es, ee, hs', he'⟩ := hse i (by omega)
      have f4 : σi.1 54 i = nI (gs N i) := by rw [hf.at (by decide), (h.2.2.2 i (by omega)).1, es]
      have f5 : σi.1 55 i = nI (ge N i) := by rw [hf.at (by decide), (h.2.2.2 i (by omega)).2.1, ee]
      generalize hS : gs N i = S at *
      generalize hE : ge N i = E at *
      refine z_go 60 [3, 35, 95, 125, 179] ⟨fun q => ?_, fun q => ⟨by (first | exact vin (by simp only [al_2, al_3, al_4, al_5, al_7, al_11, al_12, al_13, al_15, al_16, al_17, al_19, al_20, al_21, al_22, al_23, al_24, al_25, al_26, al_28, al_30, al_31, al_32, al_33, al_34, al_36, al_41, al_42, al_43, al_44, al_49, al_50, al_51, al_52, al_54, al_55, al_56, al_57, al_58, al_59, al_60, al_61, al_62, al_63, al_64, al_65, al_66, al_67, al_68, al_69, al_70, al_71, al_72, al_73, al_74, al_75, al_76, al_77, al_78, al_79, al_80]; omega) (by simp only [al_2, al_3, al_4, al_5, al_7, al_11, al_12, al_13, al_15, al_16, al_17, al_19, al_20, al_21, al_22, al_23, al_24, al_25, al_26, al_28, al_30, al_31, al_32, al_33, al_34, al_36, al_41, al_42, al_43, al_44, al_49, al_50, al_51, al_52, al_54, al_55, al_56, al_57, al_58, al_59, al_60, al_61, al_62, al_63, al_64, al_65, al_66, al_67, al_68, al_69, al_70, al_71, al_72, al_73, al_74, al_75, al_76, al_77, al_78, al_79, al_80]; decide) | (simp (disch := omega) only [nL, nI_add, pk_mul, nc, Nat.zero_add, al_2, al_3, al_4, al_5, al_7, al_11, al_12, al_13, al_15, al_16, al_17, al_19, al_20, al_21, al_22, al_23, al_24, al_25, al_26, al_28, al_30, al_31, al_32, al_33, al_34, al_36, al_41, al_42, al_43, al_44, al_49, al_50, al_51, al_52, al_54, al_55, al_56, al_57, al_58, al_59, al_60, al_61, al_62, al_63, al_64, al_65, al_66, al_67, al_68, al_69, al_70, al_71, al_72, al_73, al_74, al_75, al_76, al_77, al_78, al_79, al_80]; exact vin (by omega) (by decide))), by (rw [nc (by omega), f4]; (first | exact vin (by simp only [al_2, al_3, al_4, al_5, al_7, al_11, al_12, al_13, al_15, al_16, al_17, al_19, al_20, al_21, al_22, al_23, al_24, al_25, al_26, al_28, al_30, al_31, al_32, al_33, al_34, al_36, al_41, al_42, al_43, al_44, al_49, al_50, al_51, al_52, al_54, al_55, al_56, al_57, al_58, al_59, al_60, al_61, al_62, al_63, al_64, al_65, al_66, al_67, al_68, al_69, al_70, al_71, al_72, al_73, al_74, al_75, al_76, al_77, al_78, al_79, al_80]; omega) (by simp only [al_2, al_3, al_4, al_5, al_7, al_11, al_12, al_13, al_15, al_16, al_17, al_19, al_20, al_21, al_22, al_23, al_24, al_25, al_26, al_28, al_30, al_31, al_32, al_33, al_34, al_36, al_41, al_42, al_43, al_44, al_49, al_50, al_51, al_52, al_54, al_55, al_56, al_57, al_58, al_59, al_60, al_61, al_62, al_63, al_64, al_65, al_66, al_67, al_68, al_69, al_70, al_71, al_72, al_73, al_74, al_75, al_76, al_77, al_78, al_79, al_80]; decide) | (simp (disch := omega) only [nL, nI_add, pk_mul, nc, Nat.zero_add, al_2, al_3, al_4, al_5, al_7, al_11, al_12, al_13, al_15, al_16, al_17, al_19, al_20, al_21, al_22, al_23, al_24, al_25, al_26, al_28, al_30, al_31, al_32, al_33, al_34, al_36, al_41, al_42, al_43, al_44, al_49, al_50, al_51, al_52, al_54, al_55, al_56, al_57, al_58, al_59, al_60, al_61, al_62, al_63, al_64, al_65, al_66, al_67, al_68, al_69, al_70, al_71, al_72, al_73, al_74, al_75, al_76, al_77, al_78, al_79, al_80]; exact vin (by omega) (by decide)))), by (rw [nc (by omega), f4]; (first | exact vin (by simp only [al_2, al_3, al_4, al_5, al_7, al_11, al_12, al_13, al_15, al_16, al_17, al_19, al_20, al_21, al_22, al_23, al_24, al_25, al_26, al_28, al_30, al_31, al_32, al_33, al_34, al_36, al_41, al_42, al_43, al_44, al_49, al_50, al_51, al_52, al_54, al_55, al_56, al_57, al_58, al_59, al_60, al_61, al_62, al_63, al_64, al_65, al_66, al_67, al_68, al_69, al_70, al_71, al_72, al_73, al_74, al_75, al_76, al_77, al_78, al_79, al_80]; omega) (by simp only [al_2, al_3, al_4, al_5, al_7, al_11, al_12, al_13, al_15, al_16, al_17, al_19, al_20, al_21, al_22, al_23, al_24, al_25, al_26, al_28, al_30, al_31, al_32, al_33, al_34, al_36, al_41, al_42, al_43, al_44, al_49, al_50, al_51, al_52, al_54, al_55, al_56, al_57, al_58, al_59, al_60, al_61, al_62, al_63, al_64, al_65, al_66, al_67, al_68, al_69, al_70, al_71, al_72, al_73, al_74, al_75, al_76, al_77, al_78, al_79, al_80]; decide) | (simp (disch := omega) only [nL, nI_add, pk_mul, nc, Nat.zero_add, al_2, al_3, al_4, al_5, al_7, al_11, al_12, al_13, al_15, al_16, al_17, al_19, al_20, al_21, al_22, al_23, al_24, al_25, al_26, al_28, al_30, al_31, al_32, al_33, al_34, al_36, al_41, al_42, al_43, al_44, al_49, al_50, al_51, al_52, al_54, al_55, al_56, al_57, al_58, al_59, al_60, al_61, al_62, al_63, al_64, al_65, al_66, al_67, al_68, al_69, al_70, al_71, al_72, al_73, al_74, al_75, al_76, al_77, al_78, al_79, al_80]; exact vin (by omega) (by decide)))), by (first | exact vin (by simp only [al_2, al_3, al_4, al_5, al_7, al_11, al_12, al_13, al_15, al_16, al_17, al_19, al_20, al_21, al_22, al_23, al_24, al_25, al_26, al_28, al_30, al_31, al_32, al_33, al_34, al_36, al_41, al_42, al_43, al_44, al_49, al_50, al_51, al_52, al_54, al_55, al_56, al_57, al_58, al_59, al_60, al_61, al_62, al_63, al_64, al_65, al_66, al_67, al_68, al_69, al_70, al_71, al_72, al_73, al_74, al_75, al_76, al_77, al_78, al_79, al_80]; omega) (by simp only [al_2, al_3, al_4, al_5, al_7, al_11, al_12, al_13, al_15, al_16, al_17, al_19, al_20, al_21, al_22, al_23, al_24, al_25, al_26, al_28, al_30, al_31, al_32, al_33, al_34, al_36, al_41, al_42, al_43, al_44, al_49, al_50, al_51, al_52, al_54, al_55, al_56, al_57, al_58, al_59, al_60, al_61, al_62, al_63, al_64, al_65, al_66, al_67, al_68, al_69, al_70, al_71, al_72, al_73, al_74, al_75, al_76, al_77, al_78, al_79, al_80]; decide) | (simp (disch := omega) only [nL, nI_add, pk_mul, nc, Nat.zero_add, al_2, al_3, al_4, al_5, al_7, al_11, al_12, al_13, al_15, al_16, al_17, al_19, al_20, al_21, al_22, al_23, al_24, al_25, al_26, al_28, al_30, al_31, al_32, al_33, al_34, al_36, al_41, al_42, al_43, al_44, al_49, al_50, al_51, al_52, al_54, al_55, al_56, al_57, al_58, al_59, al_60, al_61, al_62, al_63, al_64, al_65, al_66, al_67, al_68, al_69, al_70, al_71, al_72, al_73, al_74, al_75, al_76, al_77, al_78, al_79, al_80]; exact vin (by omega) (by decide))), by (rw [nc (by omega), wr_c (by decide), f5]; (first | exact vin (by simp only [al_2, al_3, al_4, al_5, al_7, al_11, al_12, al_13, al_15, al_16, al_17, al_19, al_20, al_21, al_22, al_23, al_24, al_25, al_26, al_28, al_30, al_31, al_32, al_33, al_34, al_36, al_41, al_42, al_43, al_44, al_49, al_50, al_51, al_52, al_54, al_55, al_56, al_57, al_58, al_59, al_60, al_61, al_62, al_63, al_64, al_65, al_66, al_67, al_68, al_69, al_70, al_71, al_72, al_73, al_74, al_75, al_76, al_77, al_78, al_79, al_80]; omega) (by simp only [al_2, al_3, al_4, al_5, al_7, al_11, al_12, al_13, al_15, al_16, al_17, al_19, al_20, al_21, al_22, al_23, al_24, al_25, al_26, al_28, al_30, al_31, al_32, al_33, al_34, al_36, al_41, al_42, al_43, al_44, al_49, al_50, al_51, al_52, al_54, al_55, al_56, al_57, al_58, al_59, al_60, al_61, al_62, al_63, al_64, al_65, al_66, al_67, al_68, al_69, al_70, al_71, al_72, al_73, al_74, al_75, al_76, al_77, al_78, al_79, al_80]; decide) | (simp (disch := omega) only [nL, nI_add, pk_mul, nc, Nat.zero_add, al_2, al_3, al_4, al_5, al_7, al_11, al_12, al_13, al_15, al_16, al_17, al_19, al_20, al_21, al_22, al_23, al_24, al_25, al_26, al_28, al_30, al_31, al_32, al_33, al_34, al_36, al_41, al_42, al_43, al_44, al_49, al_50, al_51, al_52, al_54, al_55, al_56, al_57, al_58, al_59, al_60, al_61, al_62, al_63, al_64, al_65, al_66, al_67, al_68, al_69, al_70, al_71, al_72, al_73, al_74, al_75, al_76, al_77, al_78, al_79, al_80]; exact vin (by omega) (by decide)))), by (rw [nc (by omega), wr_c (by decide), f5]; (first | exact vin (by simp only [al_2, al_3, al_4, al_5, al_7, al_11, al_12, al_13, al_15, al_16, al_17, al_19, al_20, al_21, al_22, al_23, al_24, al_25, al_26, al_28, al_30, al_31, al_32, al_33, al_34, al_36, al_41, al_42, al_43, al_44, al_49, al_50, al_51, al_52, al_54, al_55, al_56, al_57, al_58, al_59, al_60, al_61, al_62, al_63, al_64, al_65, al_66, al_67, al_68, al_69, al_70, al_71, al_72, al_73, al_74, al_75, al_76, al_77, al_78, al_79, al_80]; omega) (by simp only [al_2, al_3, al_4, al_5, al_7, al_11, al_12, al_13, al_15, al_16, al_17, al_19, al_20, al_21, al_22, al_23, al_24, al_25, al_26, al_28, al_30, al_31, al_32, al_33, al_34, al_36, al_41, al_42, al_43, al_44, al_49, al_50, al_51, al_52, al_54, al_55, al_56, al_57, al_58, al_59, al_60, al_61, al_62, al_63, al_64, al_65, al_66, al_67, al_68, al_69, al_70, al_71, al_72, al_73, al_74, al_75, al_76, al_77, al_78, al_79, al_80]; decide) | (simp (disch := omega) only [nL, nI_add, pk_mul, nc, Nat.zero_add, al_2, al_3, al_4, al_5, al_7, al_11, al_12, al_13, al_15, al_16, al_17, al_19, al_20, al_21, al_22, al_23, al_24, al_25, al_26, al_28, al_30, al_31, al_32, al_33, al_34, al_36, al_41, al_42, al_43, al_44, al_49, al_50, al_51, al_52, al_54, al_55, al_56, al_57, al_58, al_59, al_60, al_61, al_62, al_63, al_64, al_65, al_66, al_67, al_68, al_69, al_70, al_71, al_72, al_73, al_74, al_75, al_76, al_77, al_78, al_79, al_80]; exact vin (by omega) (by decide)))), ?_⟩⟩
      · rw [e1 σi hf] at q
        simp (disch := omega) only [nL, nI_add, pk_mul, n_le, n_lt, n_eq] at q
        omega
      · show z_wp _ _ _ _ 35 _ _ _
        simp (disch := omega) only [nc, wr_c, f4, f5]
        rw [show nI i + 1 = nI (i + 1) from nI_add i 1]
        refine ih (i + 1) _ (by omega) (fr.wr (fr.wr hf (by decide)) (by decide)) (fun p hp => by rw [wr_c (by decide), wr_c (by decide)]; exact hs p hp) (fun p hp => ?_)
        have e0 : nsum (fun x => own (gs N) (ge N) x p) (i + 1) = nsum (fun x => own (gs N) (ge N) x p) i + ((if S = p then 1 else 0) + (if E = p then 1 else 0)) := by
          rw [nsum]
          unfold own
          rw [hS, hE]
        rw [e0]
        by_cases c2 : p = E
        · rw [← c2, wr_s, if_pos rfl]
          by_cases c1 : p = S
          · rw [← c1, wr_s, if_pos rfl, ho p hp]
            exact (congrArg (· + 1) (nI_add _ 1)).trans ((nI_add _ 1).trans (by rw [Nat.add_assoc]))
          · have c1s : ¬ S = p := fun z => c1 z.symm
            rw [wr_k c1, if_neg c1s, ho p hp, Nat.zero_add]
            exact nI_add _ 1
        · have c2s : ¬ E = p := fun z => c2 z.symm
          rw [wr_k c2, if_neg c2s]
          by_cases c1 : p = S
          · rw [← c1, wr_s, if_pos rfl, ho p hp]
            exact nI_add _ 1
          · have c1s : ¬ S = p := fun z => c1 z.symm
            rw [wr_k c1, if_neg c1s, ho p hp]
            rfl
  have l3 : ∀ (n i : Nat) (σi : z_M), i + n = 6 → fr [67, 68, 69] σ σi → (∀ p, p < i → σi.1 68 p = 0 ∧ σi.1 69 p = 0) → z_wp (z_call (d + 2)) none k_Md_nowheres PO 3 [some (.ref 53), some (.int (nI k)), some (.long (1)), none, some (.int (nI i)), none, none] [] σi := by
    intro n
    induction n with
    | zero =>
      intro i σi hn hf hs
      obtain rfl : i = 6 := by omega
      refine z_go 40 [3, 35, 95, 125, 179] ⟨fun q => ?_, fun q => absurd (by decide) q⟩
      show z_wp _ _ _ _ 35 _ _ _
      exact l35 R 0 σi (by omega) hf (fun p hp => (hs p hp).1) (fun p hp => (hs p hp).2)
    | succ n ih =>
      intro i σi hn hf hs
      refine z_go 40 [3, 35, 95, 125, 179] ⟨fun q => ?_, fun q => ⟨by (first | exact vin (by simp only [al_2, al_3, al_4, al_5, al_7, al_11, al_12, al_13, al_15, al_16, al_17, al_19, al_20, al_21, al_22, al_23, al_24, al_25, al_26, al_28, al_30, al_31, al_32, al_33, al_34, al_36, al_41, al_42, al_43, al_44, al_49, al_50, al_51, al_52, al_54, al_55, al_56, al_57, al_58, al_59, al_60, al_61, al_62, al_63, al_64, al_65, al_66, al_67, al_68, al_69, al_70, al_71, al_72, al_73, al_74, al_75, al_76, al_77, al_78, al_79, al_80]; omega) (by simp only [al_2, al_3, al_4, al_5, al_7, al_11, al_12, al_13, al_15, al_16, al_17, al_19, al_20, al_21, al_22, al_23, al_24, al_25, al_26, al_28, al_30, al_31, al_32, al_33, al_34, al_36, al_41, al_42, al_43, al_44, al_49, al_50, al_51, al_52, al_54, al_55, al_56, al_57, al_58, al_59, al_60, al_61, al_62, al_63, al_64, al_65, al_66, al_67, al_68, al_69, al_70, al_71, al_72, al_73, al_74, al_75, al_76, al_77, al_78, al_79, al_80]; decide) | (simp (disch := omega) only [nL, nI_add, pk_mul, nc, Nat.zero_add, al_2, al_3, al_4, al_5, al_7, al_11, al_12, al_13, al_15, al_16, al_17, al_19, al_20, al_21, al_22, al_23, al_24, al_25, al_26, al_28, al_30, al_31, al_32, al_33, al_34, al_36, al_41, al_42, al_43, al_44, al_49, al_50, al_51, al_52, al_54, al_55, al_56, al_57, al_58, al_59, al_60, al_61, al_62, al_63, al_64, al_65, al_66, al_67, al_68, al_69, al_70, al_71, al_72, al_73, al_74, al_75, al_76, al_77, al_78, al_79, al_80]; exact vin (by omega) (by decide))), by (first | exact vin (by simp only [al_2, al_3, al_4, al_5, al_7, al_11, al_12, al_13, al_15, al_16, al_17, al_19, al_20, al_21, al_22, al_23, al_24, al_25, al_26, al_28, al_30, al_31, al_32, al_33, al_34, al_36, al_41, al_42, al_43, al_44, al_49, al_50, al_51, al_52, al_54, al_55, al_56, al_57, al_58, al_59, al_60, al_61, al_62, al_63, al_64, al_65, al_66, al_67, al_68, al_69, al_70, al_71, al_72, al_73, al_74, al_75, al_76, al_77, al_78, al_79, al_80]; omega) (by simp only [al_2, al_3, al_4, al_5, al_7, al_11, al_12, al_13, al_15, al_16, al_17, al_19, al_20, al_21, al_22, al_23, al_24, al_25, al_26, al_28, al_30, al_31, al_32, al_33, al_34, al_36, al_41, al_42, al_43, al_44, al_49, al_50, al_51, al_52, al_54, al_55, al_56, al_57, al_58, al_59, al_60, al_61, al_62, al_63, al_64, al_65, al_66, al_67, al_68, al_69, al_70, al_71, al_72, al_73, al_74, al_75, al_76, al_77, al_78, al_79, al_80]; decide) | (simp (disch := omega) only [nL, nI_add, pk_mul, nc, Nat.zero_add, al_2, al_3, al_4, al_5, al_7, al_11, al_12, al_13, al_15, al_16, al_17, al_19, al_20, al_21, al_22, al_23, al_24, al_25, al_26, al_28, al_30, al_31, al_32, al_33, al_34, al_36, al_41, al_42, al_43, al_44, al_49, al_50, al_51, al_52, al_54, al_55, al_56, al_57, al_58, al_59, al_60, al_61, al_62, al_63, al_64, al_65, al_66, al_67, al_68, al_69, al_70, al_71, al_72, al_73, al_74, al_75, al_76, al_77, al_78, al_79, al_80]; exact vin (by omega) (by decide))), ?_⟩⟩
      · simp (disch := omega) only [nL, nI_add, pk_mul, n_le, n_lt, n_eq] at q
        omega
      · show z_wp _ _ _ _ 3 _ _ _
        rw [show nI i + 1 = nI (i + 1) from nI_add i 1, nc (by omega)]
        refine ih (i + 1) _ (by omega) (fr.wr (fr.wr hf (by decide)) (by decide)) (fun p hp => ?_)
        by_cases c : p = i
        · rw [c, wr_c (by decide), wr_s, wr_s]
          exact ⟨rfl, rfl⟩
        · rw [wr_c (by decide), wr_k c, wr_k c, wr_c (by decide)]
          exact hs p (by omega)
  exact z_metx ⟨rfl, z_go 40 [3, 35, 95, 125, 179] (l3 6 0 σ (by omega) fr.rf (fun p hp => absurd hp (Nat.not_lt_zero p)))⟩
