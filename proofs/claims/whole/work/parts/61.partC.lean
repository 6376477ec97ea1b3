/-! the component's parting -/
theorem c_hasNeg (d : Nat) {σ : z_M} {N : zN} (h : netC σ N) (hv : NV N) : z_call (d + 1) k_Net_hasNegative [.ref 1] σ (some (.int (nI (pb (∃ k, k < gR N ∧ nV N k < 0))))) σ := by
  obtain ⟨P, R, eP, hP, egP, eR, hR, eg, hse⟩ := hv.nat
  have e1 : σ.1 1 1 = nI R := by rw [h.2.1, eR]
  rw [eg]
  have loop : ∀ (n i : Nat), i + n = R → (∀ k, k < i → ¬ nV N k < 0) → z_wp (z_call d) none k_Net_hasNegative (fun r s => r = some (.int (nI (pb (∃ k, k < R ∧ nV N k < 0)))) ∧ s = σ) 2 [some (.ref 1), some (.int (nI i))] [] σ := by
    intro n
    induction n with
    | zero =>
      intro i hn hk
      obtain rfl : i = R := by omega
      refine z_go 30 [2] ⟨fun q => ⟨Or.inl rfl, ?_, rfl⟩, fun q => ?_⟩
      · have e : pb (∃ k, k < i ∧ nV N k < 0) = 0 := pb_f (fun ⟨k, h1, h2⟩ => hk k h1 h2)
        rw [e]
        rfl
      · rw [e1] at q
        exact absurd (Int32.le_refl _) q
    | succ n ih =>
      intro i hn hk
      refine z_go 30 [2] ⟨fun q => ?_, fun q => ⟨by (first | exact vin (by simp only [al_2, al_3, al_4, al_5, al_7, al_11, al_12, al_13, al_15, al_16, al_17, al_19, al_20, al_21, al_22, al_23, al_24, al_25, al_26, al_28, al_30, al_31, al_32, al_33, al_34, al_36, al_41, al_42, al_43, al_44, al_49, al_50, al_51, al_52, al_54, al_55, al_56, al_57, al_58, al_59, al_60, al_61, al_62, al_63, al_64, al_65, al_66, al_67, al_68, al_69, al_70, al_71, al_72, al_73, al_74, al_75, al_76, al_77, al_78, al_79, al_80]; omega) (by simp only [al_2, al_3, al_4, al_5, al_7, al_11, al_12, al_13, al_15, al_16, al_17, al_19, al_20, al_21, al_22, al_23, al_24, al_25, al_26, al_28, al_30, al_31, al_32, al_33, al_34, al_36, al_41, al_42, al_43, al_44, al_49, al_50, al_51, al_52, al_54, al_55, al_56, al_57, al_58, al_59, al_60, al_61, al_62, al_63, al_64, al_65, al_66, al_67, al_68, al_69, al_70, al_71, al_72, al_73, al_74, al_75, al_76, al_77, al_78, al_79, al_80]; decide) | (simp (disch := omega) only [nL, nI_add, pk_mul, nc, Nat.zero_add, al_2, al_3, al_4, al_5, al_7, al_11, al_12, al_13, al_15, al_16, al_17, al_19, al_20, al_21, al_22, al_23, al_24, al_25, al_26, al_28, al_30, al_31, al_32, al_33, al_34, al_36, al_41, al_42, al_43, al_44, al_49, al_50, al_51, al_52, al_54, al_55, al_56, al_57, al_58, al_59, al_60, al_61, al_62, al_63, al_64, al_65, al_66, al_67, al_68, al_69, al_70, al_71, al_72, al_73, al_74, al_75, al_76, al_77, al_78, al_79, al_80]; exact vin (by omega) (by decide))), fun q2 => ?_, fun q2 => ⟨Or.inr rfl, ?_, rfl⟩⟩⟩
      · rw [e1] at q
        simp (disch := omega) only [nL, nI_add, pk_mul, n_le, n_lt, n_eq] at q
        omega
      · show z_wp _ _ _ _ 2 _ _ _
        rw [nc (by omega), (h.2.2.2 i (by omega)).2.2.2] at q2
        rw [show nI i + 1 = nI (i + 1) from nI_add i 1]
        refine ih (i + 1) (by omega) (fun k hk2 => ?_)
        by_cases c : k = i
        · rw [c, Int32.not_lt]
          exact q2
        · exact hk k (by omega)
      · rw [nc (by omega), (h.2.2.2 i (by omega)).2.2.2, Int32.not_le] at q2
        have e : pb (∃ k, k < R ∧ nV N k < 0) = 1 := pb_t ⟨i, by omega, q2⟩
        rw [e]
        rfl
  exact ⟨rfl, z_go 30 [2] (loop R 0 (by omega) (fun k hk => absurd hk (Nat.not_lt_zero k)))⟩
/-- the first road with a number left: from any post (x below 0), or from the post x -/
theorem c_lowC (d : Nat) {σ : z_M} {N : zN} (h : netC σ N) (hv : NV N) {ρ : Nat → Nat} (hρ : ∀ i, i < gR N → σ.1 32 i = nI (ρ i) ∧ ρ i ≤ 100) (x : Int32) (Q : Nat → Prop) (h1 : x < 0 → ∀ i, i < gR N → (Q i ↔ 0 < ρ i)) (h2 : ¬ x < 0 → ∀ i, i < gR N → (Q i ↔ 0 < ρ i ∧ nI (gs N i) = x)) {y : Int32} (hy : (∃ r, LR (gR N) Q r ∧ y = nI r) ∨ ((∀ i, i < gR N → ¬ Q i) ∧ y = -1)) : z_call (d + 1) k_Parting_lowestLeft [.ref 29, .ref 1, .int x] σ (some (.int y)) σ := by
  obtain ⟨P, R, eP, hP, egP, eR, hR, eg, hse⟩ := hv.nat
  have e1 : σ.1 1 1 = nI R := by rw [h.2.1, eR]
  rw [eg] at hρ h1 h2 hy
  have loop : ∀ (n i : Nat), i + n = R → (∀ k, k < i → ¬ Q k) → z_wp (z_call d) none k_Parting_lowestLeft (fun r s => r = some (.int y) ∧ s = σ) 2 [some (.ref 29), some (.ref 1), some (.int x), some (.int (nI i))] [] σ := by
    intro n
    induction n with
    | zero =>
      intro i hn hk
      obtain rfl : i = R := by omega
      refine z_go 40 [2] ⟨fun q => ⟨?_, rfl⟩, fun q => ?_⟩
      · rcases hy with ⟨r, hr, -⟩ | ⟨-, rfl⟩
        · exact absurd hr.2.1 (hk r hr.1)
        · rfl
      · rw [e1] at q
        exact absurd (Int32.le_refl _) q
    | succ n ih =>
      intro i hn hk
      obtain ⟨es, ee, hs, he⟩ := hse i (by omega)
      have f2 : σ.1 2 i = nI (gs N i) := by rw [(h.2.2.2 i (by omega)).1, es]
      obtain ⟨r1, r2⟩ := hρ i (by omega)
      have next : ¬ Q i → z_wp (z_call d) none k_Parting_lowestLeft (fun r s => r = some (.int y) ∧ s = σ) 2 [some (.ref 29), some (.ref 1), some (.int x), some (.int (nI i + 1))] [] σ := by
        intro hq
        rw [show nI i + 1 = nI (i + 1) from nI_add i 1]
        refine ih (i + 1) (by omega) (fun k hk2 => ?_)
        by_cases c : k = i
        · rw [c]; exact hq
        · exact hk k (by omega)
      have found : Q i → y = nI i := by
        intro hq
        rcases hy with ⟨r, hr, rfl⟩ | ⟨hno, -⟩
        · rw [LR_fun hr ⟨by omega, hq, hk⟩]
        · exact absurd hq (hno i (by omega))
      refine z_go 40 [2] ⟨fun q => ?_, fun q => ⟨by (first | exact vin (by simp only [al_2, al_3, al_4, al_5, al_7, al_11, al_12, al_13, al_15, al_16, al_17, al_19, al_20, al_21, al_22, al_23, al_24, al_25, al_26, al_28, al_30, al_31, al_32, al_33, al_34, al_36, al_41, al_42, al_43, al_44, al_49, al_50, al_51, al_52, al_54, al_55, al_56, al_57, al_58, al_59, al_60, al_61, al_62, al_63, al_64, al_65, al_66, al_67, al_68, al_69, al_70, al_71, al_72, al_73, al_74, al_75, al_76, al_77, al_78, al_79, al_80]; omega) (by simp only [al_2, al_3, al_4, al_5, al_7, al_11, al_12, al_13, al_15, al_16, al_17, al_19, al_20, al_21, al_22, al_23, al_24, al_25, al_26, al_28, al_30, al_31, al_32, al_33, al_34, al_36, al_41, al_42, al_43, al_44, al_49, al_50, al_51, al_52, al_54, al_55, al_56, al_57, al_58, al_59, al_60, al_61, al_62, al_63, al_64, al_65, al_66, al_67, al_68, al_69, al_70, al_71, al_72, al_73, al_74, al_75, al_76, al_77, al_78, al_79, al_80]; decide) | (simp (disch := omega) only [nL, nI_add, pk_mul, nc, Nat.zero_add, al_2, al_3, al_4, al_5, al_7, al_11, al_12, al_13, al_15, al_16, al_17, al_19, al_20, al_21, al_22, al_23, al_24, al_25, al_26, al_28, al_30, al_31, al_32, al_33, al_34, al_36, al_41, al_42, al_43, al_44, al_49, al_50, al_51, al_52, al_54, al_55, al_56, al_57, al_58, al_59, al_60, al_61, al_62, al_63, al_64, al_65, al_66, al_67, al_68, al_69, al_70, al_71, al_72, al_73, al_74, al_75, al_76, al_77, al_78, al_79, al_80]; exact vin (by omega) (by decide))), fun q2 => ?_, fun q2 => ⟨fun q3 => ⟨?_, rfl⟩, fun q3 => ⟨by (first | exact vin (by simp only [al_2, al_3, al_4, al_5, al_7, al_11, al_12, al_13, al_15, al_16, al_17, al_19, al_20, al_21, al_22, al_23, al_24, al_25, al_26, al_28, al_30, al_31, al_32, al_33, al_34, al_36, al_41, al_42, al_43, al_44, al_49, al_50, al_51, al_52, al_54, al_55, al_56, al_57, al_58, al_59, al_60, al_61, al_62, al_63, al_64, al_65, al_66, al_67, al_68, al_69, al_70, al_71, al_72, al_73, al_74, al_75, al_76, al_77, al_78, al_79, al_80]; omega) (by simp only [al_2, al_3, al_4, al_5, al_7, al_11, al_12, al_13, al_15, al_16, al_17, al_19, al_20, al_21, al_22, al_23, al_24, al_25, al_26, al_28, al_30, al_31, al_32, al_33, al_34, al_36, al_41, al_42, al_43, al_44, al_49, al_50, al_51, al_52, al_54, al_55, al_56, al_57, al_58, al_59, al_60, al_61, al_62, al_63, al_64, al_65, al_66, al_67, al_68, al_69, al_70, al_71, al_72, al_73, al_74, al_75, al_76, al_77, al_78, al_79, al_80]; decide) | (simp (disch := omega) only [nL, nI_add, pk_mul, nc, Nat.zero_add, al_2, al_3, al_4, al_5, al_7, al_11, al_12, al_13, al_15, al_16, al_17, al_19, al_20, al_21, al_22, al_23, al_24, al_25, al_26, al_28, al_30, al_31, al_32, al_33, al_34, al_36, al_41, al_42, al_43, al_44, al_49, al_50, al_51, al_52, al_54, al_55, al_56, al_57, al_58, al_59, al_60, al_61, al_62, al_63, al_64, al_65, al_66, al_67, al_68, al_69, al_70, al_71, al_72, al_73, al_74, al_75, al_76, al_77, al_78, al_79, al_80]; exact vin (by omega) (by decide))), fun q4 => ?_, fun q4 => ⟨?_, rfl⟩⟩⟩⟩⟩
      · rw [e1] at q
        simp (disch := omega) only [nL, nI_add, pk_mul, n_le, n_lt, n_eq] at q
        omega
      · rw [nc (by omega), r1] at q2
        have q2 : nI (ρ i) ≤ nI 0 := q2
        rw [n_le (by omega) (by omega)] at q2
        refine next (fun hq => ?_)
        by_cases c : x < 0
        · have := (h1 c i (by omega)).mp hq
          omega
        · have := ((h2 c i (by omega)).mp hq).1
          omega
      · rw [nc (by omega), r1] at q2
        have q2 : ¬ nI (ρ i) ≤ nI 0 := q2
        rw [n_le (by omega) (by omega)] at q2
        rw [found ((h1 q3 i (by omega)).mpr (by omega))]
      · rw [nc (by omega), f2] at q4
        exact next (fun hq => q4 ((h2 q3 i (by omega)).mp hq).2)
      · rw [nc (by omega), r1] at q2
        have q2 : ¬ nI (ρ i) ≤ nI 0 := q2
        rw [n_le (by omega) (by omega)] at q2
        rw [nc (by omega), f2] at q4
        rw [found ((h2 q3 i (by omega)).mpr ⟨by omega, q4⟩)]
  exact ⟨rfl, z_go 40 [2] (loop R 0 (by omega) (fun k hk => absurd hk (Nat.not_lt_zero k)))⟩
theorem rSet_lt {w : Nat → Nat} {j R : Nat} (hw : ∀ k, w k < R) : ∀ t, rSet w j t < 2 ^ R
  | 0 => Nat.pow_pos (by omega)
  | t + 1 => Nat.or_lt_two_pow (rSet_lt hw t) (Nat.pow_lt_pow_right (by omega) (hw _))
theorem rMin_b {ρ w : Nat → Nat} {c j : Nat} : ∀ t, rMin ρ w c j t ≤ c
  | 0 => Nat.le_refl _
  | t + 1 => by
    have := rMin_b (ρ := ρ) (w := w) (c := c) (j := j) t
    have := Nat.min_le_left (rMin ρ w c j t) (ρ (w (j + t)))
    rw [rMin]
    omega
theorem c_enterC (d : Nat) {σ : z_M} {R : Nat} (hR : R ≤ 10) {ρ w : Nat → Nat} (hρ : ∀ i, i < R → σ.1 32 i = nI (ρ i) ∧ ρ i ≤ 100) {j m z : Nat} (hj : j < m) (hm : m ≤ 6) (hw : ∀ k, w k < R) (hd : ∀ x y, x < y → y < m - j → w (j + x) ≠ w (j + y)) (hwk : ∀ k, k < m → σ.1 33 k = nI (w k)) (hz : σ.1 29 2 = nI z) (hz10 : z < 10) :
    ∃ σ', z_call (d + 2) k_Parting_enter [.ref 29, .int (nI j), .int (nI (m - 1))] σ none σ' ∧ (fr [29, 30, 31, 32] σ σ' ∧ σ'.1 29 2 = nI (z + 1) ∧ (∀ i, i < R → σ'.1 32 i = nI (rSub ρ w (rMin ρ w 100 j (m - j)) j (m - j) i)) ∧ σ'.1 30 z = nI (rSet w j (m - j)) ∧ σ'.1 31 z = nI (rMin ρ w 100 j (m - j)) ∧ ∀ k, k ≠ z → σ'.1 30 k = σ.1 30 k ∧ σ'.1 31 k = σ.1 31 k) := by
  have h10 : 2 ^ R ≤ 2 ^ 10 := Nat.pow_le_pow_right (by omega) hR
  have hM := rMin_b (ρ := ρ) (w := w) (c := 100) (j := j) (m - j)
  have second : ∀ (n t : Nat) (σi : z_M), t + n = m - j → fr [32] σ σi → (∀ i, i < R → σi.1 32 i = nI (rSub ρ w (rMin ρ w 100 j (m - j)) j t i)) →
      z_wp (z_call (d + 1)) none k_Parting_enter (fun r s => r = none ∧ (fr [29, 30, 31, 32] σ s ∧ s.1 29 2 = nI (z + 1) ∧ (∀ i, i < R → s.1 32 i = nI (rSub ρ w (rMin ρ w 100 j (m - j)) j (m - j) i)) ∧ s.1 30 z = nI (rSet w j (m - j)) ∧ s.1 31 z = nI (rMin ρ w 100 j (m - j)) ∧ ∀ k, k ≠ z → s.1 30 k = σ.1 30 k ∧ s.1 31 k = σ.1 31 k)) 55 [some (.ref 29), some (.int (nI j)), some (.int (nI (m - 1))), some (.int (nI (rSet w j (m - j)))), some (.int (nI (rMin ρ w 100 j (m - j)))), some (.int (nI (j + t)))] [] σi := by
    intro n
    induction n with
    | zero =>
      intro t σi hn hf hk
      obtain rfl : t = m - j := by omega
      have hz1 : σi.1 29 2 = nI z := by rw [hf.at (by decide)]; exact hz
      refine z_go 60 [9, 55] ⟨fun q => ⟨?_, ?_, ?_⟩, fun q => ?_⟩
      · rw [hz1]
        (first | exact vin (by simp only [al_2, al_3, al_4, al_5, al_7, al_11, al_12, al_13, al_15, al_16, al_17, al_19, al_20, al_21, al_22, al_23, al_24, al_25, al_26, al_28, al_30, al_31, al_32, al_33, al_34, al_36, al_41, al_42, al_43, al_44, al_49, al_50, al_51, al_52, al_54, al_55, al_56, al_57, al_58, al_59, al_60, al_61, al_62, al_63, al_64, al_65, al_66, al_67, al_68, al_69, al_70, al_71, al_72, al_73, al_74, al_75, al_76, al_77, al_78, al_79, al_80]; omega) (by simp only [al_2, al_3, al_4, al_5, al_7, al_11, al_12, al_13, al_15, al_16, al_17, al_19, al_20, al_21, al_22, al_23, al_24, al_25, al_26, al_28, al_30, al_31, al_32, al_33, al_34, al_36, al_41, al_42, al_43, al_44, al_49, al_50, al_51, al_52, al_54, al_55, al_56, al_57, al_58, al_59, al_60, al_61, al_62, al_63, al_64, al_65, al_66, al_67, al_68, al_69, al_70, al_71, al_72, al_73, al_74, al_75, al_76, al_77, al_78, al_79, al_80]; decide) | (simp (disch := omega) only [nL, nI_add, pk_mul, nc, Nat.zero_add, al_2, al_3, al_4, al_5, al_7, al_11, al_12, al_13, al_15, al_16, al_17, al_19, al_20, al_21, al_22, al_23, al_24, al_25, al_26, al_28, al_30, al_31, al_32, al_33, al_34, al_36, al_41, al_42, al_43, al_44, al_49, al_50, al_51, al_52, al_54, al_55, al_56, al_57, al_58, al_59, al_60, al_61, al_62, al_63, al_64, al_65, al_66, al_67, al_68, al_69, al_70, al_71, al_72, al_73, al_74, al_75, al_76, al_77, al_78, al_79, al_80]; exact vin (by omega) (by decide)))
      · rw [wr_c (by decide), hz1]
        (first | exact vin (by simp only [al_2, al_3, al_4, al_5, al_7, al_11, al_12, al_13, al_15, al_16, al_17, al_19, al_20, al_21, al_22, al_23, al_24, al_25, al_26, al_28, al_30, al_31, al_32, al_33, al_34, al_36, al_41, al_42, al_43, al_44, al_49, al_50, al_51, al_52, al_54, al_55, al_56, al_57, al_58, al_59, al_60, al_61, al_62, al_63, al_64, al_65, al_66, al_67, al_68, al_69, al_70, al_71, al_72, al_73, al_74, al_75, al_76, al_77, al_78, al_79, al_80]; omega) (by simp only [al_2, al_3, al_4, al_5, al_7, al_11, al_12, al_13, al_15, al_16, al_17, al_19, al_20, al_21, al_22, al_23, al_24, al_25, al_26, al_28, al_30, al_31, al_32, al_33, al_34, al_36, al_41, al_42, al_43, al_44, al_49, al_50, al_51, al_52, al_54, al_55, al_56, al_57, al_58, al_59, al_60, al_61, al_62, al_63, al_64, al_65, al_66, al_67, al_68, al_69, al_70, al_71, al_72, al_73, al_74, al_75, al_76, al_77, al_78, al_79, al_80]; decide) | (simp (disch := omega) only [nL, nI_add, pk_mul, nc, Nat.zero_add, al_2, al_3, al_4, al_5, al_7, al_11, al_12, al_13, al_15, al_16, al_17, al_19, al_20, al_21, al_22, al_23, al_24, al_25, al_26, al_28, al_30, al_31, al_32, al_33, al_34, al_36, al_41, al_42, al_43, al_44, al_49, al_50, al_51, al_52, al_54, al_55, al_56, al_57, al_58, al_59, al_60, al_61, al_62, al_63, al_64, al_65, al_66, al_67, al_68, al_69, al_70, al_71, al_72, al_73, al_74, al_75, al_76, al_77, al_78, al_79, al_80]; exact vin (by omega) (by decide)))
      · refine ⟨rfl, fr.wr (fr.wr (fr.wr (hf.wk _ (by decide)) (by decide)) (by decide)) (by decide), ?_, fun i hi => ?_, ?_, ?_, fun k hk2 => ?_⟩
        · rw [wr_s, wr_c (by decide), wr_c (by decide), hz1]
          exact nI_add z 1
        · rw [wr_c (by decide), wr_c (by decide), wr_c (by decide)]
          exact hk i hi
        · simp (disch := omega) only [wr_c, hz1, nc, wr_s]
        · simp (disch := omega) only [wr_c, hz1, nc, wr_s]
        · simp (disch := omega) only [wr_c, wr_k, hz1, nc]
          rw [hf.at (by decide), hf.at (by decide)]
          exact ⟨rfl, rfl⟩
      · rw [n_lt (by omega) (by omega)] at q
        omega
    | succ n ih =>
      intro t σi hn hf hk
      have hw1 : σi.1 33 (j + t) = nI (w (j + t)) := by rw [hf.at (by decide)]; exact hwk _ (by omega)
      have hwl := hw (j + t)
      have hl := hk (w (j + t)) hwl
      have hsl := rSub_le ρ w (rMin ρ w 100 j (m - j)) j (w (j + t)) t
      have hle := (hρ _ hwl).2
      refine z_go 60 [9, 55] ⟨fun q => ?_, fun q => ⟨by (first | exact vin (by simp only [al_2, al_3, al_4, al_5, al_7, al_11, al_12, al_13, al_15, al_16, al_17, al_19, al_20, al_21, al_22, al_23, al_24, al_25, al_26, al_28, al_30, al_31, al_32, al_33, al_34, al_36, al_41, al_42, al_43, al_44, al_49, al_50, al_51, al_52, al_54, al_55, al_56, al_57, al_58, al_59, al_60, al_61, al_62, al_63, al_64, al_65, al_66, al_67, al_68, al_69, al_70, al_71, al_72, al_73, al_74, al_75, al_76, al_77, al_78, al_79, al_80]; omega) (by simp only [al_2, al_3, al_4, al_5, al_7, al_11, al_12, al_13, al_15, al_16, al_17, al_19, al_20, al_21, al_22, al_23, al_24, al_25, al_26, al_28, al_30, al_31, al_32, al_33, al_34, al_36, al_41, al_42, al_43, al_44, al_49, al_50, al_51, al_52, al_54, al_55, al_56, al_57, al_58, al_59, al_60, al_61, al_62, al_63, al_64, al_65, al_66, al_67, al_68, al_69, al_70, al_71, al_72, al_73, al_74, al_75, al_76, al_77, al_78, al_79, al_80]; decide) | (simp (disch := omega) only [nL, nI_add, pk_mul, nc, Nat.zero_add, al_2, al_3, al_4, al_5, al_7, al_11, al_12, al_13, al_15, al_16, al_17, al_19, al_20, al_21, al_22, al_23, al_24, al_25, al_26, al_28, al_30, al_31, al_32, al_33, al_34, al_36, al_41, al_42, al_43, al_44, al_49, al_50, al_51, al_52, al_54, al_55, al_56, al_57, al_58, al_59, al_60, al_61, al_62, al_63, al_64, al_65, al_66, al_67, al_68, al_69, al_70, al_71, al_72, al_73, al_74, al_75, al_76, al_77, al_78, al_79, al_80]; exact vin (by omega) (by decide))), by (rw [nc (by omega), hw1]; (first | exact vin (by simp only [al_2, al_3, al_4, al_5, al_7, al_11, al_12, al_13, al_15, al_16, al_17, al_19, al_20, al_21, al_22, al_23, al_24, al_25, al_26, al_28, al_30, al_31, al_32, al_33, al_34, al_36, al_41, al_42, al_43, al_44, al_49, al_50, al_51, al_52, al_54, al_55, al_56, al_57, al_58, al_59, al_60, al_61, al_62, al_63, al_64, al_65, al_66, al_67, al_68, al_69, al_70, al_71, al_72, al_73, al_74, al_75, al_76, al_77, al_78, al_79, al_80]; omega) (by simp only [al_2, al_3, al_4, al_5, al_7, al_11, al_12, al_13, al_15, al_16, al_17, al_19, al_20, al_21, al_22, al_23, al_24, al_25, al_26, al_28, al_30, al_31, al_32, al_33, al_34, al_36, al_41, al_42, al_43, al_44, al_49, al_50, al_51, al_52, al_54, al_55, al_56, al_57, al_58, al_59, al_60, al_61, al_62, al_63, al_64, al_65, al_66, al_67, al_68, al_69, al_70, al_71, al_72, al_73, al_74, al_75, al_76, al_77, al_78, al_79, al_80]; decide) | (simp (disch := omega) only [nL, nI_add, pk_mul, nc, Nat.zero_add, al_2, al_3, al_4, al_5, al_7, al_11, al_12, al_13, al_15, al_16, al_17, al_19, al_20, al_21, al_22, al_23, al_24, al_25, al_26, al_28, al_30, al_31, al_32, al_33, al_34, al_36, al_41, al_42, al_43, al_44, al_49, al_50, al_51, al_52, al_54, al_55, al_56, al_57, al_58, al_59, al_60, al_61, al_62, al_63, al_64, al_65, al_66, al_67, al_68, al_69, al_70, al_71, al_72, al_73, al_74, al_75, al_76, al_77, al_78, al_79, al_80]; exact vin (by omega) (by decide)))), by (rw [nc (by omega), hw1]; (first | exact vin (by simp only [al_2, al_3, al_4, al_5, al_7, al_11, al_12, al_13, al_15, al_16, al_17, al_19, al_20, al_21, al_22, al_23, al_24, al_25, al_26, al_28, al_30, al_31, al_32, al_33, al_34, al_36, al_41, al_42, al_43, al_44, al_49, al_50, al_51, al_52, al_54, al_55, al_56, al_57, al_58, al_59, al_60, al_61, al_62, al_63, al_64, al_65, al_66, al_67, al_68, al_69, al_70, al_71, al_72, al_73, al_74, al_75, al_76, al_77, al_78, al_79, al_80]; omega) (by simp only [al_2, al_3, al_4, al_5, al_7, al_11, al_12, al_13, al_15, al_16, al_17, al_19, al_20, al_21, al_22, al_23, al_24, al_25, al_26, al_28, al_30, al_31, al_32, al_33, al_34, al_36, al_41, al_42, al_43, al_44, al_49, al_50, al_51, al_52, al_54, al_55, al_56, al_57, al_58, al_59, al_60, al_61, al_62, al_63, al_64, al_65, al_66, al_67, al_68, al_69, al_70, al_71, al_72, al_73, al_74, al_75, al_76, al_77, al_78, al_79, al_80]; decide) | (simp (disch := omega) only [nL, nI_add, pk_mul, nc, Nat.zero_add, al_2, al_3, al_4, al_5, al_7, al_11, al_12, al_13, al_15, al_16, al_17, al_19, al_20, al_21, al_22, al_23, al_24, al_25, al_26, al_28, al_30, al_31, al_32, al_33, al_34, al_36, al_41, al_42, al_43, al_44, al_49, al_50, al_51, al_52, al_54, al_55, al_56, al_57, al_58, al_59, al_60, al_61, al_62, al_63, al_64, al_65, al_66, al_67, al_68, al_69, al_70, al_71, al_72, al_73, al_74, al_75, al_76, al_77, al_78, al_79, al_80]; exact vin (by omega) (by decide)))), ?_⟩⟩
      · rw [n_lt (by omega) (by omega)] at q
        omega
      · show z_wp _ _ _ _ 55 _ _ _
        rw [nc (by omega), hw1, nc (by omega), hl, show nI (j + t) + 1 = nI (j + (t + 1)) from nI_add (j + t) 1]
        refine ih (t + 1) _ (by omega) (fr.wr hf (by decide)) (fun i hi => ?_)
        show _ = nI (if i = w (j + t) then _ else _)
        by_cases c : i = w (j + t)
        · subst c
          rw [wr_s, if_pos rfl]
          have c2 : rMin ρ w 100 j (m - j) ≤ rSub ρ w (rMin ρ w 100 j (m - j)) j t (w (j + t)) := by
            rw [rSub_off (fun k hk2 => fun y => hd k t hk2 (by omega) y.symm)]
            exact rMin_le (by omega)
          rw [i_sub c2]
        · rw [wr_k c, if_neg c]
          exact hk i hi
  have first : ∀ (n t : Nat), t + n = m - j →
      z_wp (z_call (d + 1)) none k_Parting_enter (fun r s => r = none ∧ (fr [29, 30, 31, 32] σ s ∧ s.1 29 2 = nI (z + 1) ∧ (∀ i, i < R → s.1 32 i = nI (rSub ρ w (rMin ρ w 100 j (m - j)) j (m - j) i)) ∧ s.1 30 z = nI (rSet w j (m - j)) ∧ s.1 31 z = nI (rMin ρ w 100 j (m - j)) ∧ ∀ k, k ≠ z → s.1 30 k = σ.1 30 k ∧ s.1 31 k = σ.1 31 k)) 9 [some (.ref 29), some (.int (nI j)), some (.int (nI (m - 1))), some (.int (nI (rSet w j t))), some (.int (nI (rMin ρ w 100 j t))), some (.int (nI (j + t)))] [] σ := by
    intro n
    induction n with
    | zero =>
      intro t hn
      obtain rfl : t = m - j := by omega
      refine z_go 60 [9, 55] ⟨fun q => ?_, fun q => ?_⟩
      · show z_wp _ _ _ _ 55 _ _ _
        exact second (m - j) 0 σ (by omega) fr.rf (fun i hi => (hρ i hi).1)
      · rw [n_lt (by omega) (by omega)] at q
        omega
    | succ n ih =>
      intro t hn
      have hw1 := hwk (j + t) (by omega)
      have hwl := hw (j + t)
      obtain ⟨hl1, hl2⟩ := hρ _ hwl
      have hone := i_one (w (j + t)) (by omega)
      have hMt := rMin_b (ρ := ρ) (w := w) (c := 100) (j := j) t
      have cm := c_min d σ (nI (rMin ρ w 100 j t)) (nI (ρ (w (j + t))))
      rw [imin_n (by omega) (by omega)] at cm
      refine z_go 60 [9, 55] ⟨fun q => ?_, fun q => ⟨by (first | exact vin (by simp only [al_2, al_3, al_4, al_5, al_7, al_11, al_12, al_13, al_15, al_16, al_17, al_19, al_20, al_21, al_22, al_23, al_24, al_25, al_26, al_28, al_30, al_31, al_32, al_33, al_34, al_36, al_41, al_42, al_43, al_44, al_49, al_50, al_51, al_52, al_54, al_55, al_56, al_57, al_58, al_59, al_60, al_61, al_62, al_63, al_64, al_65, al_66, al_67, al_68, al_69, al_70, al_71, al_72, al_73, al_74, al_75, al_76, al_77, al_78, al_79, al_80]; omega) (by simp only [al_2, al_3, al_4, al_5, al_7, al_11, al_12, al_13, al_15, al_16, al_17, al_19, al_20, al_21, al_22, al_23, al_24, al_25, al_26, al_28, al_30, al_31, al_32, al_33, al_34, al_36, al_41, al_42, al_43, al_44, al_49, al_50, al_51, al_52, al_54, al_55, al_56, al_57, al_58, al_59, al_60, al_61, al_62, al_63, al_64, al_65, al_66, al_67, al_68, al_69, al_70, al_71, al_72, al_73, al_74, al_75, al_76, al_77, al_78, al_79, al_80]; decide) | (simp (disch := omega) only [nL, nI_add, pk_mul, nc, Nat.zero_add, al_2, al_3, al_4, al_5, al_7, al_11, al_12, al_13, al_15, al_16, al_17, al_19, al_20, al_21, al_22, al_23, al_24, al_25, al_26, al_28, al_30, al_31, al_32, al_33, al_34, al_36, al_41, al_42, al_43, al_44, al_49, al_50, al_51, al_52, al_54, al_55, al_56, al_57, al_58, al_59, al_60, al_61, al_62, al_63, al_64, al_65, al_66, al_67, al_68, al_69, al_70, al_71, al_72, al_73, al_74, al_75, al_76, al_77, al_78, al_79, al_80]; exact vin (by omega) (by decide))), by (first | exact vin (by simp only [al_2, al_3, al_4, al_5, al_7, al_11, al_12, al_13, al_15, al_16, al_17, al_19, al_20, al_21, al_22, al_23, al_24, al_25, al_26, al_28, al_30, al_31, al_32, al_33, al_34, al_36, al_41, al_42, al_43, al_44, al_49, al_50, al_51, al_52, al_54, al_55, al_56, al_57, al_58, al_59, al_60, al_61, al_62, al_63, al_64, al_65, al_66, al_67, al_68, al_69, al_70, al_71, al_72, al_73, al_74, al_75, al_76, al_77, al_78, al_79, al_80]; omega) (by simp only [al_2, al_3, al_4, al_5, al_7, al_11, al_12, al_13, al_15, al_16, al_17, al_19, al_20, al_21, al_22, al_23, al_24, al_25, al_26, al_28, al_30, al_31, al_32, al_33, al_34, al_36, al_41, al_42, al_43, al_44, al_49, al_50, al_51, al_52, al_54, al_55, al_56, al_57, al_58, al_59, al_60, al_61, al_62, al_63, al_64, al_65, al_66, al_67, al_68, al_69, al_70, al_71, al_72, al_73, al_74, al_75, al_76, al_77, al_78, al_79, al_80]; decide) | (simp (disch := omega) only [nL, nI_add, pk_mul, nc, Nat.zero_add, al_2, al_3, al_4, al_5, al_7, al_11, al_12, al_13, al_15, al_16, al_17, al_19, al_20, al_21, al_22, al_23, al_24, al_25, al_26, al_28, al_30, al_31, al_32, al_33, al_34, al_36, al_41, al_42, al_43, al_44, al_49, al_50, al_51, al_52, al_54, al_55, al_56, al_57, al_58, al_59, al_60, al_61, al_62, al_63, al_64, al_65, al_66, al_67, al_68, al_69, al_70, al_71, al_72, al_73, al_74, al_75, al_76, al_77, al_78, al_79, al_80]; exact vin (by omega) (by decide))), by (rw [nc (by omega), hw1]; (first | exact vin (by simp only [al_2, al_3, al_4, al_5, al_7, al_11, al_12, al_13, al_15, al_16, al_17, al_19, al_20, al_21, al_22, al_23, al_24, al_25, al_26, al_28, al_30, al_31, al_32, al_33, al_34, al_36, al_41, al_42, al_43, al_44, al_49, al_50, al_51, al_52, al_54, al_55, al_56, al_57, al_58, al_59, al_60, al_61, al_62, al_63, al_64, al_65, al_66, al_67, al_68, al_69, al_70, al_71, al_72, al_73, al_74, al_75, al_76, al_77, al_78, al_79, al_80]; omega) (by simp only [al_2, al_3, al_4, al_5, al_7, al_11, al_12, al_13, al_15, al_16, al_17, al_19, al_20, al_21, al_22, al_23, al_24, al_25, al_26, al_28, al_30, al_31, al_32, al_33, al_34, al_36, al_41, al_42, al_43, al_44, al_49, al_50, al_51, al_52, al_54, al_55, al_56, al_57, al_58, al_59, al_60, al_61, al_62, al_63, al_64, al_65, al_66, al_67, al_68, al_69, al_70, al_71, al_72, al_73, al_74, al_75, al_76, al_77, al_78, al_79, al_80]; decide) | (simp (disch := omega) only [nL, nI_add, pk_mul, nc, Nat.zero_add, al_2, al_3, al_4, al_5, al_7, al_11, al_12, al_13, al_15, al_16, al_17, al_19, al_20, al_21, al_22, al_23, al_24, al_25, al_26, al_28, al_30, al_31, al_32, al_33, al_34, al_36, al_41, al_42, al_43, al_44, al_49, al_50, al_51, al_52, al_54, al_55, al_56, al_57, al_58, al_59, al_60, al_61, al_62, al_63, al_64, al_65, al_66, al_67, al_68, al_69, al_70, al_71, al_72, al_73, al_74, al_75, al_76, al_77, al_78, al_79, al_80]; exact vin (by omega) (by decide)))), _, _, (by simp (disch := omega) only [nc, hw1, hl1]; exact cm), ?_⟩⟩
      · rw [n_lt (by omega) (by omega)] at q
        omega
      · show z_wp _ _ _ _ 9 _ _ _
        rw [nc (by omega), hw1, hone, i_or, show nI (j + t) + 1 = nI (j + (t + 1)) from nI_add (j + t) 1]
        exact ih (t + 1) (by omega)
  exact z_metV ⟨rfl, z_go 60 [9, 55] (first (m - j) 0 (by omega))⟩
theorem c_takeRound (d : Nat) {σ : z_M} {N : zN} (h : netC σ N) (hv : NV N) {ρ : Nat → Nat} (hρ : ∀ i, i < gR N → σ.1 32 i = nI (ρ i) ∧ ρ i ≤ 100) (hb : bal (gP N) (gR N) (gs N) (ge N) ρ) (hp : ∃ i, i < gR N ∧ 0 < ρ i) {z : Nat} (hz : σ.1 29 2 = nI z) (hz10 : z < 10) :
    ∃ σ', z_call (d + 3) k_Parting_takeRound [.ref 29, .ref 1, .int (nI (lrf (gR N) (posQ ρ)))] σ none σ' ∧ (fr [29, 30, 31, 32, 33, 34] σ σ' ∧ σ'.1 29 2 = nI (z + 1) ∧ (∀ i, i < gR N → σ'.1 32 i = nI (rdP (gR N) (gs N) (ge N) ρ i)) ∧ σ'.1 30 z = nI (rdS (gR N) (gs N) (ge N) ρ) ∧ σ'.1 31 z = nI (rdM (gR N) (gs N) (ge N) ρ) ∧ ∀ k, k ≠ z → σ'.1 30 k = σ.1 30 k ∧ σ'.1 31 k = σ.1 31 k) := by
  obtain ⟨P, R, eP, hP, egP, eR, hR, eg, hse⟩ := hv.nat
  obtain ⟨r, j, m, hr, ea, ej, hjm, hmP, e0, hk, -, -, -, h100⟩ := rd_ok hv.se hb (fun i hi => (hρ i hi).2) hp
  rw [lrf_eq hr]
  have eS : rdS (gR N) (gs N) (ge N) ρ = rSet (rdW (gR N) (gs N) (ge N) ρ) j (m - j) := by unfold rdS; rw [ej]
  have eM : rdM (gR N) (gs N) (ge N) ρ = rMin ρ (rdW (gR N) (gs N) (ge N) ρ) 100 j (m - j) := by unfold rdM; rw [ej]
  have eX : rdP (gR N) (gs N) (ge N) ρ = rSub ρ (rdW (gR N) (gs N) (ge N) ρ) (rMin ρ (rdW (gR N) (gs N) (ge N) ρ) 100 j (m - j)) j (m - j) := by unfold rdP; rw [ej, eM]
  rw [eS, eM, eX]
  have hWE : ∀ k, ge N (rdW (gR N) (gs N) (ge N) ρ k) = itF (wG (gR N) (gs N) (ge N) ρ) (k + 1) (gs N r) := by
    intro k
    unfold rdW
    rw [ea]
    rfl
  have hWS : ∀ k, gs N (rdW (gR N) (gs N) (ge N) ρ k) = itF (wG (gR N) (gs N) (ge N) ρ) k (gs N r) := fun k => (hk k).2.2.1.2
  have hWl : ∀ k, rdW (gR N) (gs N) (ge N) ρ k < R := fun k => by have := (hk k).2.1; omega
  have hAl : ∀ k, itF (wG (gR N) (gs N) (ge N) ρ) k (gs N r) < P := fun k => by have := (hk k).1; omega
  have hd : ∀ x y, x < y → y < m - j → rdW (gR N) (gs N) (ge N) ρ (j + x) ≠ rdW (gR N) (gs N) (ge N) ρ (j + y) := by
    intro x y hxy hy q
    refine hjm.2.2 (j + x) (j + y) (by omega) (by omega) ?_
    rw [← hWS, ← hWS, q]
  have hj := hjm.1
  generalize hA : (fun k => itF (wG (gR N) (gs N) (ge N) ρ) k (gs N r)) = A at *
  have eA : ∀ k, itF (wG (gR N) (gs N) (ge N) ρ) k (gs N r) = A k := fun k => by rw [← hA]
  generalize hW : rdW (gR N) (gs N) (ge N) ρ = w at *
  simp only [eA] at hWE hWS hAl hk
  have hjA : A j = A m := by rw [← eA, ← eA]; exact hjm.2.1
  have hdA : ∀ i k, i < k → k < m → A i ≠ A k := fun i k hik hkm => by rw [← eA, ← eA]; exact hjm.2.2 i k hik hkm
  have walk : ∀ (n t : Nat) (σi : z_M) (l5 : Option Value), t + n = m → 0 < n → fr [33, 34] σ σi → (∀ k, k < t → σi.1 33 k = nI (w k)) → (∀ p, p < P → ((∃ k, k ≤ t ∧ A k = p ∧ σi.1 34 p = nI k) ∨ ((∀ k, k ≤ t → A k ≠ p) ∧ σi.1 34 p = -1))) →
      z_wp (z_call (d + 2)) none k_Parting_takeRound (fun r s => r = none ∧ (fr [29, 30, 31, 32, 33, 34] σ s ∧ s.1 29 2 = nI (z + 1) ∧ (∀ i, i < gR N → s.1 32 i = nI (rSub ρ w (rMin ρ w 100 j (m - j)) j (m - j) i)) ∧ s.1 30 z = nI (rSet w j (m - j)) ∧ s.1 31 z = nI (rMin ρ w 100 j (m - j)) ∧ ∀ k, k ≠ z → s.1 30 k = σ.1 30 k ∧ s.1 31 k = σ.1 31 k)) 40 [some (.ref 29), some (.ref 1), some (.int (nI r)), some (.int (nI (w t))), some (.int (nI t)), l5] [] σi := by
    intro n
    induction n with
    | zero =>
      intro t σi l5 hn h0
      omega
    | succ n ih =>
      intro t σi l5 hn _ hf hwk hmet
      have e10 : σi.1 1 0 = nI P := by rw [hf.at (by decide), h.1, eP]
      have hwt := hWl t
      obtain ⟨es, ee, hs, he⟩ := hse (w t) hwt
      have f3 : σi.1 3 (w t) = nI (A (t + 1)) := by rw [hf.at (by decide), (h.2.2.2 (w t) (by omega)).2.1, ee, hWE]
      have hal := hAl (t + 1)
      have hf3 : (z_wr σi 33 t (nI (w t))).1 3 (w t) = nI (A (t + 1)) := by rw [wr_c (by decide)]; exact f3
      have hwk2 : ∀ k, k < t + 1 → (z_wr σi 33 t (nI (w t))).1 33 k = nI (w k) := by
        intro k hk2
        by_cases c : k = t
        · rw [c, wr_s]
        · rw [wr_k c]
          exact hwk k (by omega)
      refine z_go 90 [2, 40] ⟨fun q => ?_, fun q => ⟨fun q2 => absurd q2 (n_nn (by omega)), fun q2 => ⟨by (first | exact vin (by simp only [al_2, al_3, al_4, al_5, al_7, al_11, al_12, al_13, al_15, al_16, al_17, al_19, al_20, al_21, al_22, al_23, al_24, al_25, al_26, al_28, al_30, al_31, al_32, al_33, al_34, al_36, al_41, al_42, al_43, al_44, al_49, al_50, al_51, al_52, al_54, al_55, al_56, al_57, al_58, al_59, al_60, al_61, al_62, al_63, al_64, al_65, al_66, al_67, al_68, al_69, al_70, al_71, al_72, al_73, al_74, al_75, al_76, al_77, al_78, al_79, al_80]; omega) (by simp only [al_2, al_3, al_4, al_5, al_7, al_11, al_12, al_13, al_15, al_16, al_17, al_19, al_20, al_21, al_22, al_23, al_24, al_25, al_26, al_28, al_30, al_31, al_32, al_33, al_34, al_36, al_41, al_42, al_43, al_44, al_49, al_50, al_51, al_52, al_54, al_55, al_56, al_57, al_58, al_59, al_60, al_61, al_62, al_63, al_64, al_65, al_66, al_67, al_68, al_69, al_70, al_71, al_72, al_73, al_74, al_75, al_76, al_77, al_78, al_79, al_80]; decide) | (simp (disch := omega) only [nL, nI_add, pk_mul, nc, Nat.zero_add, al_2, al_3, al_4, al_5, al_7, al_11, al_12, al_13, al_15, al_16, al_17, al_19, al_20, al_21, al_22, al_23, al_24, al_25, al_26, al_28, al_30, al_31, al_32, al_33, al_34, al_36, al_41, al_42, al_43, al_44, al_49, al_50, al_51, al_52, al_54, al_55, al_56, al_57, al_58, al_59, al_60, al_61, al_62, al_63, al_64, al_65, al_66, al_67, al_68, al_69, al_70, al_71, al_72, al_73, al_74, al_75, al_76, al_77, al_78, al_79, al_80]; exact vin (by omega) (by decide))), by (first | exact vin (by simp only [al_2, al_3, al_4, al_5, al_7, al_11, al_12, al_13, al_15, al_16, al_17, al_19, al_20, al_21, al_22, al_23, al_24, al_25, al_26, al_28, al_30, al_31, al_32, al_33, al_34, al_36, al_41, al_42, al_43, al_44, al_49, al_50, al_51, al_52, al_54, al_55, al_56, al_57, al_58, al_59, al_60, al_61, al_62, al_63, al_64, al_65, al_66, al_67, al_68, al_69, al_70, al_71, al_72, al_73, al_74, al_75, al_76, al_77, al_78, al_79, al_80]; omega) (by simp only [al_2, al_3, al_4, al_5, al_7, al_11, al_12, al_13, al_15, al_16, al_17, al_19, al_20, al_21, al_22, al_23, al_24, al_25, al_26, al_28, al_30, al_31, al_32, al_33, al_34, al_36, al_41, al_42, al_43, al_44, al_49, al_50, al_51, al_52, al_54, al_55, al_56, al_57, al_58, al_59, al_60, al_61, al_62, al_63, al_64, al_65, al_66, al_67, al_68, al_69, al_70, al_71, al_72, al_73, al_74, al_75, al_76, al_77, al_78, al_79, al_80]; decide) | (simp (disch := omega) only [nL, nI_add, pk_mul, nc, Nat.zero_add, al_2, al_3, al_4, al_5, al_7, al_11, al_12, al_13, al_15, al_16, al_17, al_19, al_20, al_21, al_22, al_23, al_24, al_25, al_26, al_28, al_30, al_31, al_32, al_33, al_34, al_36, al_41, al_42, al_43, al_44, al_49, al_50, al_51, al_52, al_54, al_55, al_56, al_57, al_58, al_59, al_60, al_61, al_62, al_63, al_64, al_65, al_66, al_67, al_68, al_69, al_70, al_71, al_72, al_73, al_74, al_75, al_76, al_77, al_78, al_79, al_80]; exact vin (by omega) (by decide))), by (rw [nc (by omega), nc (by omega), hf3]; (first | exact vin (by simp only [al_2, al_3, al_4, al_5, al_7, al_11, al_12, al_13, al_15, al_16, al_17, al_19, al_20, al_21, al_22, al_23, al_24, al_25, al_26, al_28, al_30, al_31, al_32, al_33, al_34, al_36, al_41, al_42, al_43, al_44, al_49, al_50, al_51, al_52, al_54, al_55, al_56, al_57, al_58, al_59, al_60, al_61, al_62, al_63, al_64, al_65, al_66, al_67, al_68, al_69, al_70, al_71, al_72, al_73, al_74, al_75, al_76, al_77, al_78, al_79, al_80]; omega) (by simp only [al_2, al_3, al_4, al_5, al_7, al_11, al_12, al_13, al_15, al_16, al_17, al_19, al_20, al_21, al_22, al_23, al_24, al_25, al_26, al_28, al_30, al_31, al_32, al_33, al_34, al_36, al_41, al_42, al_43, al_44, al_49, al_50, al_51, al_52, al_54, al_55, al_56, al_57, al_58, al_59, al_60, al_61, al_62, al_63, al_64, al_65, al_66, al_67, al_68, al_69, al_70, al_71, al_72, al_73, al_74, al_75, al_76, al_77, al_78, al_79, al_80]; decide) | (simp (disch := omega) only [nL, nI_add, pk_mul, nc, Nat.zero_add, al_2, al_3, al_4, al_5, al_7, al_11, al_12, al_13, al_15, al_16, al_17, al_19, al_20, al_21, al_22, al_23, al_24, al_25, al_26, al_28, al_30, al_31, al_32, al_33, al_34, al_36, al_41, al_42, al_43, al_44, al_49, al_50, al_51, al_52, al_54, al_55, al_56, al_57, al_58, al_59, al_60, al_61, al_62, al_63, al_64, al_65, al_66, al_67, al_68, al_69, al_70, al_71, al_72, al_73, al_74, al_75, al_76, al_77, al_78, al_79, al_80]; exact vin (by omega) (by decide)))), fun q3 => ?_, fun q3 => ?_⟩⟩⟩
      · rw [e10] at q
        simp (disch := omega) only [nL, nI_add, pk_mul, n_le, n_lt, n_eq] at q
        omega
      · simp (disch := omega) only [nc, hf3, wr_c] at q3 ⊢
        have hno : ∀ k, k ≤ t → A k ≠ A (t + 1) := by
          rcases hmet _ hal with ⟨k, h1, h2, h3⟩ | ⟨h1, -⟩
          · rw [h3] at q3
            exact absurd q3 (n_nn (by omega))
          · exact h1
        have hn0 : 0 < n := by
          refine Classical.byContradiction fun y => ?_
          exact hno j (by omega) (by rw [hjA, show m = t + 1 by omega])
        have hf4 : fr [33, 34] σ (z_wr (z_wr σi 33 t (nI (w t))) 34 (A (t + 1)) (nI (t + 1))) := fr.wr (fr.wr hf (by decide)) (by decide)
        have hN4 : netC (z_wr (z_wr σi 33 t (nI (w t))) 34 (A (t + 1)) (nI (t + 1))) N := h.fr (hf4.1 1 (by decide)) (hf4.1 2 (by decide)) (hf4.1 3 (by decide)) (hf4.1 4 (by decide)) (hf4.1 5 (by decide))
        have cl := c_lowC (d + 1) hN4 hv (ρ := ρ) (fun i hi => by rw [hf4.at (by decide)]; exact hρ i hi) (nI (A (t + 1))) (outQ (gs N) ρ (A (t + 1))) (fun y => absurd y (n_nn (by omega))) (fun _ i hi => by
          have := (hv.se i hi).1
          unfold outQ
          rw [n_eq (by omega) (by omega)]) (Or.inl ⟨w (t + 1), (hk (t + 1)).2, rfl⟩)
        refine ⟨by (first | exact vin (by simp only [al_2, al_3, al_4, al_5, al_7, al_11, al_12, al_13, al_15, al_16, al_17, al_19, al_20, al_21, al_22, al_23, al_24, al_25, al_26, al_28, al_30, al_31, al_32, al_33, al_34, al_36, al_41, al_42, al_43, al_44, al_49, al_50, al_51, al_52, al_54, al_55, al_56, al_57, al_58, al_59, al_60, al_61, al_62, al_63, al_64, al_65, al_66, al_67, al_68, al_69, al_70, al_71, al_72, al_73, al_74, al_75, al_76, al_77, al_78, al_79, al_80]; omega) (by simp only [al_2, al_3, al_4, al_5, al_7, al_11, al_12, al_13, al_15, al_16, al_17, al_19, al_20, al_21, al_22, al_23, al_24, al_25, al_26, al_28, al_30, al_31, al_32, al_33, al_34, al_36, al_41, al_42, al_43, al_44, al_49, al_50, al_51, al_52, al_54, al_55, al_56, al_57, al_58, al_59, al_60, al_61, al_62, al_63, al_64, al_65, al_66, al_67, al_68, al_69, al_70, al_71, al_72, al_73, al_74, al_75, al_76, al_77, al_78, al_79, al_80]; decide) | (simp (disch := omega) only [nL, nI_add, pk_mul, nc, Nat.zero_add, al_2, al_3, al_4, al_5, al_7, al_11, al_12, al_13, al_15, al_16, al_17, al_19, al_20, al_21, al_22, al_23, al_24, al_25, al_26, al_28, al_30, al_31, al_32, al_33, al_34, al_36, al_41, al_42, al_43, al_44, al_49, al_50, al_51, al_52, al_54, al_55, al_56, al_57, al_58, al_59, al_60, al_61, al_62, al_63, al_64, al_65, al_66, al_67, al_68, al_69, al_70, al_71, al_72, al_73, al_74, al_75, al_76, al_77, al_78, al_79, al_80]; exact vin (by omega) (by decide))), ?_⟩
        rw [show nI t + 1 = nI (t + 1) from nI_add t 1, nc (show A (t + 1) < 2147483648 by omega)]
        refine ⟨_, _, cl, ?_⟩
        show z_wp _ _ _ _ 40 _ _ _
        rw [show nI t + 1 = nI (t + 1) from nI_add t 1]
        refine ih (t + 1) _ _ (by omega) hn0 hf4 (fun k hk2 => ?_) (fun p hp2 => ?_)
        · rw [wr_c (by decide)]
          exact hwk2 k hk2
        · by_cases c : p = A (t + 1)
          · exact Or.inl ⟨t + 1, Nat.le_refl _, c.symm, by rw [c, wr_s]⟩
          · rw [wr_k c, wr_c (by decide)]
            rcases hmet p hp2 with ⟨k, h1, h2, h3⟩ | ⟨h1, h2⟩
            · exact Or.inl ⟨k, by omega, h2, h3⟩
            · refine Or.inr ⟨fun k hk2 => ?_, h2⟩
              by_cases c2 : k = t + 1
              · rw [c2]
                exact fun y => c y.symm
              · exact h1 k (by omega)
      · simp (disch := omega) only [nc, hf3, wr_c] at q3 ⊢
        obtain ⟨k, h1, h2, h3⟩ : ∃ k, k ≤ t ∧ A k = A (t + 1) ∧ σi.1 34 (A (t + 1)) = nI k := by
          rcases hmet _ hal with y | ⟨-, h1⟩
          · exact y
          · rw [h1] at q3
            exact absurd (by decide) q3
        have htm : t + 1 = m := by
          refine Classical.byContradiction fun y => ?_
          exact hdA k (t + 1) (by omega) (by omega) h2
        have hkj : k = j := by
          refine Classical.byContradiction fun y => ?_
          have e5 : A k = A j := by rw [h2, htm, hjA]
          by_cases c : k < j
          · exact hdA k j c hj e5
          · exact hdA j k (by omega) (by omega) e5.symm
        subst hkj
        have hf4 : fr [33, 34] σ (z_wr σi 33 t (nI (w t))) := fr.wr hf (by decide)
        obtain ⟨σ2, hc2, g1, g2, g3, g4, g5, g6⟩ := c_enterC d (σ := z_wr σi 33 t (nI (w t))) hR (ρ := ρ) (w := w) (j := k) (m := m) (z := z) (fun i hi => by rw [hf4.at (by decide)]; exact hρ i (by omega)) hj (by omega) hWl hd (fun i hi => hwk2 i (by omega)) (by rw [hf4.at (by decide)]; exact hz) hz10
        rw [show m - 1 = t by omega] at hc2
        refine ⟨by (first | exact vin (by simp only [al_2, al_3, al_4, al_5, al_7, al_11, al_12, al_13, al_15, al_16, al_17, al_19, al_20, al_21, al_22, al_23, al_24, al_25, al_26, al_28, al_30, al_31, al_32, al_33, al_34, al_36, al_41, al_42, al_43, al_44, al_49, al_50, al_51, al_52, al_54, al_55, al_56, al_57, al_58, al_59, al_60, al_61, al_62, al_63, al_64, al_65, al_66, al_67, al_68, al_69, al_70, al_71, al_72, al_73, al_74, al_75, al_76, al_77, al_78, al_79, al_80]; omega) (by simp only [al_2, al_3, al_4, al_5, al_7, al_11, al_12, al_13, al_15, al_16, al_17, al_19, al_20, al_21, al_22, al_23, al_24, al_25, al_26, al_28, al_30, al_31, al_32, al_33, al_34, al_36, al_41, al_42, al_43, al_44, al_49, al_50, al_51, al_52, al_54, al_55, al_56, al_57, al_58, al_59, al_60, al_61, al_62, al_63, al_64, al_65, al_66, al_67, al_68, al_69, al_70, al_71, al_72, al_73, al_74, al_75, al_76, al_77, al_78, al_79, al_80]; decide) | (simp (disch := omega) only [nL, nI_add, pk_mul, nc, Nat.zero_add, al_2, al_3, al_4, al_5, al_7, al_11, al_12, al_13, al_15, al_16, al_17, al_19, al_20, al_21, al_22, al_23, al_24, al_25, al_26, al_28, al_30, al_31, al_32, al_33, al_34, al_36, al_41, al_42, al_43, al_44, al_49, al_50, al_51, al_52, al_54, al_55, al_56, al_57, al_58, al_59, al_60, al_61, al_62, al_63, al_64, al_65, al_66, al_67, al_68, al_69, al_70, al_71, al_72, al_73, al_74, al_75, al_76, al_77, al_78, al_79, al_80]; exact vin (by omega) (by decide))), σ2, (by rw [nc (by omega), wr_c (by decide), h3]; exact hc2), rfl, fr.tr (hf4.wk _ (by decide)) (g1.wk _ (by decide)), g2, fun i hi => g3 i (by omega), g4, g5, fun i hi => ?_⟩
        rw [(g6 i hi).1, (g6 i hi).2, hf4.at (by decide), hf4.at (by decide)]
        exact ⟨rfl, rfl⟩
  have clear : ∀ (n p : Nat) (σi : z_M), p + n = P → fr [34] σ σi → (∀ q, q < p → σi.1 34 q = -1) →
      z_wp (z_call (d + 2)) none k_Parting_takeRound (fun r s => r = none ∧ (fr [29, 30, 31, 32, 33, 34] σ s ∧ s.1 29 2 = nI (z + 1) ∧ (∀ i, i < gR N → s.1 32 i = nI (rSub ρ w (rMin ρ w 100 j (m - j)) j (m - j) i)) ∧ s.1 30 z = nI (rSet w j (m - j)) ∧ s.1 31 z = nI (rMin ρ w 100 j (m - j)) ∧ ∀ k, k ≠ z → s.1 30 k = σ.1 30 k ∧ s.1 31 k = σ.1 31 k)) 2 [some (.ref 29), some (.ref 1), some (.int (nI r)), some (.int (nI p)), none, none] [] σi := by
    intro n
    induction n with
    | zero =>
      intro p σi hn hf hq
      obtain rfl : p = P := by omega
      have e10 : σi.1 1 0 = nI p := by rw [hf.at (by decide), h.1, eP]
      have hrl := hr.1
      obtain ⟨es, ee, hs, he⟩ := hse r (by omega)
      have f2 : σi.1 2 r = nI (gs N r) := by rw [hf.at (by decide), (h.2.2.2 r (by omega)).1, es]
      have eA0 : A 0 = gs N r := (eA 0).symm
      refine z_go 60 [2, 40] ⟨fun q => ⟨by (first | exact vin (by simp only [al_2, al_3, al_4, al_5, al_7, al_11, al_12, al_13, al_15, al_16, al_17, al_19, al_20, al_21, al_22, al_23, al_24, al_25, al_26, al_28, al_30, al_31, al_32, al_33, al_34, al_36, al_41, al_42, al_43, al_44, al_49, al_50, al_51, al_52, al_54, al_55, al_56, al_57, al_58, al_59, al_60, al_61, al_62, al_63, al_64, al_65, al_66, al_67, al_68, al_69, al_70, al_71, al_72, al_73, al_74, al_75, al_76, al_77, al_78, al_79, al_80]; omega) (by simp only [al_2, al_3, al_4, al_5, al_7, al_11, al_12, al_13, al_15, al_16, al_17, al_19, al_20, al_21, al_22, al_23, al_24, al_25, al_26, al_28, al_30, al_31, al_32, al_33, al_34, al_36, al_41, al_42, al_43, al_44, al_49, al_50, al_51, al_52, al_54, al_55, al_56, al_57, al_58, al_59, al_60, al_61, al_62, al_63, al_64, al_65, al_66, al_67, al_68, al_69, al_70, al_71, al_72, al_73, al_74, al_75, al_76, al_77, al_78, al_79, al_80]; decide) | (simp (disch := omega) only [nL, nI_add, pk_mul, nc, Nat.zero_add, al_2, al_3, al_4, al_5, al_7, al_11, al_12, al_13, al_15, al_16, al_17, al_19, al_20, al_21, al_22, al_23, al_24, al_25, al_26, al_28, al_30, al_31, al_32, al_33, al_34, al_36, al_41, al_42, al_43, al_44, al_49, al_50, al_51, al_52, al_54, al_55, al_56, al_57, al_58, al_59, al_60, al_61, al_62, al_63, al_64, al_65, al_66, al_67, al_68, al_69, al_70, al_71, al_72, al_73, al_74, al_75, al_76, al_77, al_78, al_79, al_80]; exact vin (by omega) (by decide))), by (rw [nc (by omega), f2]; (first | exact vin (by simp only [al_2, al_3, al_4, al_5, al_7, al_11, al_12, al_13, al_15, al_16, al_17, al_19, al_20, al_21, al_22, al_23, al_24, al_25, al_26, al_28, al_30, al_31, al_32, al_33, al_34, al_36, al_41, al_42, al_43, al_44, al_49, al_50, al_51, al_52, al_54, al_55, al_56, al_57, al_58, al_59, al_60, al_61, al_62, al_63, al_64, al_65, al_66, al_67, al_68, al_69, al_70, al_71, al_72, al_73, al_74, al_75, al_76, al_77, al_78, al_79, al_80]; omega) (by simp only [al_2, al_3, al_4, al_5, al_7, al_11, al_12, al_13, al_15, al_16, al_17, al_19, al_20, al_21, al_22, al_23, al_24, al_25, al_26, al_28, al_30, al_31, al_32, al_33, al_34, al_36, al_41, al_42, al_43, al_44, al_49, al_50, al_51, al_52, al_54, al_55, al_56, al_57, al_58, al_59, al_60, al_61, al_62, al_63, al_64, al_65, al_66, al_67, al_68, al_69, al_70, al_71, al_72, al_73, al_74, al_75, al_76, al_77, al_78, al_79, al_80]; decide) | (simp (disch := omega) only [nL, nI_add, pk_mul, nc, Nat.zero_add, al_2, al_3, al_4, al_5, al_7, al_11, al_12, al_13, al_15, al_16, al_17, al_19, al_20, al_21, al_22, al_23, al_24, al_25, al_26, al_28, al_30, al_31, al_32, al_33, al_34, al_36, al_41, al_42, al_43, al_44, al_49, al_50, al_51, al_52, al_54, al_55, al_56, al_57, al_58, al_59, al_60, al_61, al_62, al_63, al_64, al_65, al_66, al_67, al_68, al_69, al_70, al_71, al_72, al_73, al_74, al_75, al_76, al_77, al_78, al_79, al_80]; exact vin (by omega) (by decide)))), ?_⟩, fun q => ?_⟩
      · show z_wp _ _ _ _ 40 _ _ _
        rw [nc (by omega), f2, nc (by omega)]
        have := walk m 0 (z_wr σi 34 (gs N r) 0) none (by omega) (by omega) (fr.wr (hf.wk _ (by decide)) (by decide)) (fun k hk2 => absurd hk2 (Nat.not_lt_zero k)) (fun p2 hp2 => by
          by_cases c : p2 = gs N r
          · exact Or.inl ⟨0, Nat.le_refl _, by rw [eA0, c], by rw [c, wr_s]; rfl⟩
          · refine Or.inr ⟨fun k hk2 => ?_, by rw [wr_k c]; exact hq p2 hp2⟩
            rw [show k = 0 by omega, eA0]
            exact fun y => c y.symm)
        rw [e0] at this
        exact this
      · rw [e10] at q
        exact absurd (Int32.le_refl _) q
    | succ n ih =>
      intro p σi hn hf hq
      have e10 : σi.1 1 0 = nI P := by rw [hf.at (by decide), h.1, eP]
      refine z_go 60 [2, 40] ⟨fun q => ?_, fun q => ⟨by (first | exact vin (by simp only [al_2, al_3, al_4, al_5, al_7, al_11, al_12, al_13, al_15, al_16, al_17, al_19, al_20, al_21, al_22, al_23, al_24, al_25, al_26, al_28, al_30, al_31, al_32, al_33, al_34, al_36, al_41, al_42, al_43, al_44, al_49, al_50, al_51, al_52, al_54, al_55, al_56, al_57, al_58, al_59, al_60, al_61, al_62, al_63, al_64, al_65, al_66, al_67, al_68, al_69, al_70, al_71, al_72, al_73, al_74, al_75, al_76, al_77, al_78, al_79, al_80]; omega) (by simp only [al_2, al_3, al_4, al_5, al_7, al_11, al_12, al_13, al_15, al_16, al_17, al_19, al_20, al_21, al_22, al_23, al_24, al_25, al_26, al_28, al_30, al_31, al_32, al_33, al_34, al_36, al_41, al_42, al_43, al_44, al_49, al_50, al_51, al_52, al_54, al_55, al_56, al_57, al_58, al_59, al_60, al_61, al_62, al_63, al_64, al_65, al_66, al_67, al_68, al_69, al_70, al_71, al_72, al_73, al_74, al_75, al_76, al_77, al_78, al_79, al_80]; decide) | (simp (disch := omega) only [nL, nI_add, pk_mul, nc, Nat.zero_add, al_2, al_3, al_4, al_5, al_7, al_11, al_12, al_13, al_15, al_16, al_17, al_19, al_20, al_21, al_22, al_23, al_24, al_25, al_26, al_28, al_30, al_31, al_32, al_33, al_34, al_36, al_41, al_42, al_43, al_44, al_49, al_50, al_51, al_52, al_54, al_55, al_56, al_57, al_58, al_59, al_60, al_61, al_62, al_63, al_64, al_65, al_66, al_67, al_68, al_69, al_70, al_71, al_72, al_73, al_74, al_75, al_76, al_77, al_78, al_79, al_80]; exact vin (by omega) (by decide))), ?_⟩⟩
      · rw [e10] at q
        simp (disch := omega) only [nL, nI_add, pk_mul, n_le, n_lt, n_eq] at q
        omega
      · show z_wp _ _ _ _ 2 _ _ _
        rw [nc (by omega), show nI p + 1 = nI (p + 1) from nI_add p 1]
        refine ih (p + 1) _ (by omega) (fr.wr hf (by decide)) (fun x hx => ?_)
        by_cases c : x = p
        · rw [c, wr_s]
        · rw [wr_k c]
          exact hq x (by omega)
  exact z_metV ⟨rfl, z_go 60 [2, 40] (clear P 0 σ (by omega) fr.rf (fun x hx => absurd hx (Nat.not_lt_zero x)))⟩
theorem c_part (d : Nat) {σ : z_M} {N : zN} (h : netC σ N) (hv : NV N) (hn : ∀ i, i < gR N → nV N i = nI (vN N i) ∧ vN N i ≤ 100) (hb : bal (gP N) (gR N) (gs N) (ge N) (vN N)) :
    ∃ σ', z_call (d + 4) k_Parting_part [.ref 29, .ref 1] σ none σ' ∧ (fr [29, 30, 31, 32, 33, 34] σ σ' ∧ σ'.1 29 2 = nI (prN N) ∧ ∀ k, k < prN N → σ'.1 30 k = nI (rdS (gR N) (gs N) (ge N) (prs N k)) ∧ σ'.1 31 k = nI (rdM (gR N) (gs N) (ge N) (prs N k))) := by
  obtain ⟨P, R, eP, hP, egP, eR, hR, eg, hse⟩ := hv.nat
  have hnum := prN_ok hv.se hb (fun i hi => (hn i hi).2)
  have loop : ∀ (n t : Nat) (σi : z_M) (l3 : Option Value), t + n = R → (∀ u, u < t → ¬ prZ N u) → fr [29, 30, 31, 32, 33, 34] σ σi → σi.1 29 2 = nI t → (∀ i, i < gR N → σi.1 32 i = nI (prs N t i)) → (∀ k, k < t → σi.1 30 k = nI (rdS (gR N) (gs N) (ge N) (prs N k)) ∧ σi.1 31 k = nI (rdM (gR N) (gs N) (ge N) (prs N k))) →
      z_wp (z_call (d + 3)) none k_Parting_part (fun r s => r = none ∧ (fr [29, 30, 31, 32, 33, 34] σ s ∧ s.1 29 2 = nI (prN N) ∧ ∀ k, k < prN N → s.1 30 k = nI (rdS (gR N) (gs N) (ge N) (prs N k)) ∧ s.1 31 k = nI (rdM (gR N) (gs N) (ge N) (prs N k)))) 24 [some (.ref 29), some (.ref 1), some (.int (nI t)), l3] [] σi := by
    intro n
    induction n with
    | zero =>
      intro t σi l3 ht hz hf hs hr hk
      obtain rfl : t = R := by omega
      have e1 : σi.1 1 1 = nI t := by rw [hf.at (by decide), h.2.1, eR]
      obtain ⟨-, -, hc⟩ := prs_inv hv.se hb (fun i hi => (hn i hi).2) t hz
      have e : prN N = t := LR_fun hnum ⟨by omega, fun i hi => by
        refine Classical.byContradiction fun y => ?_
        have := cn_pos (f := posQ (prs N t)) (a := i) (show 0 < prs N t i by omega) hi
        omega, hz⟩
      rw [e]
      refine z_go 40 [24] ⟨fun q => ⟨rfl, hf, hs, hk⟩, fun q => ?_⟩
      rw [e1] at q
      exact absurd (Int32.le_refl _) q
    | succ n ih =>
      intro t σi l3 ht hz hf hs hr hk
      have e1 : σi.1 1 1 = nI R := by rw [hf.at (by decide), h.2.1, eR]
      have hN : netC σi N := h.fr (hf.1 1 (by decide)) (hf.1 2 (by decide)) (hf.1 3 (by decide)) (hf.1 4 (by decide)) (hf.1 5 (by decide))
      obtain ⟨i1, i2, i3⟩ := prs_inv hv.se hb (fun i hi => (hn i hi).2) t hz
      have hρ : ∀ i, i < gR N → σi.1 32 i = nI (prs N t i) ∧ prs N t i ≤ 100 := fun i hi => ⟨hr i hi, i2 i hi⟩
      have low := fun {y : Int32} hy => c_lowC (d + 2) hN hv hρ (-1) (posQ (prs N t)) (fun _ i _ => Iff.rfl) (fun z => absurd (by decide) z) (y := y) hy
      by_cases c : prZ N t
      · have e : prN N = t := LR_fun hnum ⟨by omega, c, hz⟩
        rw [e]
        have cl := low (y := -1) (Or.inr ⟨fun i hi y => by
          have := c i hi
          unfold posQ at y
          omega, rfl⟩)
        refine z_go 40 [24] ⟨fun q => ?_, fun q => ⟨_, _, cl, fun q2 => absurd q2 (by decide), fun q2 => ⟨rfl, hf, hs, hk⟩⟩⟩
        rw [e1] at q
        simp (disch := omega) only [nL, nI_add, pk_mul, n_le, n_lt, n_eq] at q
        omega
      · have hp : ∃ i, i < gR N ∧ 0 < prs N t i := by
          refine Classical.byContradiction fun z => c (fun i hi => ?_)
          refine Classical.byContradiction fun y => z ⟨i, hi, by omega⟩
        obtain ⟨r, hr2⟩ := LR_ex (Q := posQ (prs N t)) hp
        have cl := low (y := nI r) (Or.inl ⟨r, hr2, rfl⟩)
        have hrl := hr2.1
        obtain ⟨σ2, hc2, g1, g2, g3, g4, g5, g6⟩ := c_takeRound d hN hv hρ i1 hp hs (by omega)
        rw [lrf_eq hr2] at hc2
        refine z_go 40 [24] ⟨fun q => ?_, fun q => ⟨_, _, cl, fun q2 => ⟨σ2, hc2, ?_⟩, fun q2 => ?_⟩⟩
        · rw [e1] at q
          simp (disch := omega) only [nL, nI_add, pk_mul, n_le, n_lt, n_eq] at q
          omega
        · show z_wp _ _ _ _ 24 _ _ _
          rw [show nI t + 1 = nI (t + 1) from nI_add t 1]
          refine ih (t + 1) σ2 _ (by omega) (fun u hu => ?_) (hf.tr g1) g2 g3 (fun k hk2 => ?_)
          · by_cases c2 : u = t
            · rw [c2]; exact c
            · exact hz u (by omega)
          · by_cases c2 : k = t
            · rw [c2]
              exact ⟨g4, g5⟩
            · rw [(g6 k c2).1, (g6 k c2).2]
              exact hk k (by omega)
        · have q2 : ¬ nI 0 ≤ nI r := q2
          rw [n_le (by omega) (by omega)] at q2
          omega
  have e1 : σ.1 1 1 = nI R := by rw [h.2.1, eR]
  have hcp : ∀ i, i < gR N → (z_cp (z_wr σ 29 2 0) 5 32 0 0 R).1 32 i = nI (prs N 0 i) := by
    intro i hi
    rw [cp_in (by omega) (by omega), wr_c (by decide), show 0 + (i - 0) = i by omega, (h.2.2.2 i (by omega)).2.2.2, (hn i hi).1]
    rfl
  have st := loop R 0 (z_cp (z_wr σ 29 2 0) 5 32 0 0 R) none (by omega) (fun u hu => absurd hu (Nat.not_lt_zero u)) (fr.cp (fr.wr fr.rf (by decide)) (by decide)) (by rw [cp_ne (by decide), wr_s]; rfl) hcp (fun k hk => absurd hk (Nat.not_lt_zero k))
  refine z_metV ⟨rfl, z_go 60 [24] ⟨?_, ?_⟩⟩
  · rw [wr_c (by decide), e1]
    (simp (disch := omega) only [nL, nI_add, pk_mul, nc, Nat.zero_add, al_2, al_3, al_4, al_5, al_7, al_11, al_12, al_13, al_15, al_16, al_17, al_19, al_20, al_21, al_22, al_23, al_24, al_25, al_26, al_28, al_30, al_31, al_32, al_33, al_34, al_36, al_41, al_42, al_43, al_44, al_49, al_50, al_51, al_52, al_54, al_55, al_56, al_57, al_58, al_59, al_60, al_61, al_62, al_63, al_64, al_65, al_66, al_67, al_68, al_69, al_70, al_71, al_72, al_73, al_74, al_75, al_76, al_77, al_78, al_79, al_80]; exact ⟨n_nn (by omega), n_nn (by omega), n_nn (by omega), by omega, by omega⟩)
  · rw [wr_c (by decide), e1, nc (by omega)]
    exact st
theorem x_rounds (d : Nat) {σ : z_M} {B : zB} (h : RepC σ B) (hv : VB B) (i b : Int32) : opC (d + 5) k_RF_rounds [.ref 0, .int i, .int b] σ (sRounds i b B) := by
  obtain ⟨P, R, eP, hP, egP, eR, hR, eg, hse⟩ := hv.1.nat
  obtain ⟨σt, ht, hRt, hkt⟩ := c_tell (d + 3) h (-1000004)
  obtain ⟨σu, hu, hRu, hku⟩ := c_tell (d + 3) h (-1000008)
  obtain ⟨σv, hv2, hRv, hkv⟩ := c_tell (d + 3) h (-1000003)
  have co := c_offPosts d h.1 hv.1
  have hol := offn_le B.1 (gP B.1)
  have ch := c_hasNeg (d + 3) h.1 hv.1
  have hpb := pb_le (∃ k, k < gR B.1 ∧ nV B.1 k < 0)
  have eG : σ.1 1 2 = nG B.1 := h.1.2.2.1
  unfold sRounds
  refine z_metC ⟨rfl, z_go 90 [] ⟨fun q => ⟨_, _, co, fun q2 => ⟨_, _, ch, fun q3 => ?_, fun q3 => ⟨_, σv, hv2, ?_⟩⟩, fun q2 => ⟨_, σu, hu, ?_⟩⟩, fun q => ⟨_, σt, ht, ?_⟩⟩⟩
  · rw [eG] at q
    have q2 : nI (offn B.1 (gP B.1)) = nI 0 := q2
    rw [n_eq (by omega) (by omega)] at q2
    have q3 : nI (pb (∃ k, k < gR B.1 ∧ nV B.1 k < 0)) = nI 0 := q3
    rw [n_eq (by omega) (by omega)] at q3
    have q3 := pb_0 q3
    obtain ⟨f1, f2⟩ := fl_ok hv.1 q q2 (fun k hk z => q3 ⟨k, hk, z⟩)
    obtain ⟨σ1, hc, hf, k1, k2⟩ := c_part d h.1 hv.1 f1 f2
    have hR1 := h.scr hf (by decide)
    have hk1 := hf.kC (by decide)
    have hnum := (prN_ok hv.1.se f2 (fun i hi => (f1 i hi).2)).1
    obtain ⟨σw, hw, hRw, hkw⟩ := c_tell (d + 3) hR1 (-1000006)
    rw [if_pos q, if_pos q2, if_neg q3]
    refine ⟨σ1, hc, fun q4 => ⟨fun q5 => ⟨_, σw, hw, ?_⟩, fun q5 => ⟨fun q6 => ?_, fun q6 => ⟨_, σw, hw, ?_⟩⟩⟩, fun q4 => ?_⟩
    · rw [if_neg q4, if_pos q5]
      exact ⟨rfl, hRw, hk1.tr hkw⟩
    · rw [k1] at q6
      rw [if_neg q4, if_neg q5, if_pos q6]
      obtain ⟨k, hk, rfl⟩ := nI_of (x := i) q5
      rw [n_lt (by omega) (by omega)] at q6
      obtain ⟨g1, g2⟩ := k2 k q6
      refine ⟨fun q7 => ⟨by (first | exact vin (by simp only [al_2, al_3, al_4, al_5, al_7, al_11, al_12, al_13, al_15, al_16, al_17, al_19, al_20, al_21, al_22, al_23, al_24, al_25, al_26, al_28, al_30, al_31, al_32, al_33, al_34, al_36, al_41, al_42, al_43, al_44, al_49, al_50, al_51, al_52, al_54, al_55, al_56, al_57, al_58, al_59, al_60, al_61, al_62, al_63, al_64, al_65, al_66, al_67, al_68, al_69, al_70, al_71, al_72, al_73, al_74, al_75, al_76, al_77, al_78, al_79, al_80]; omega) (by simp only [al_2, al_3, al_4, al_5, al_7, al_11, al_12, al_13, al_15, al_16, al_17, al_19, al_20, al_21, al_22, al_23, al_24, al_25, al_26, al_28, al_30, al_31, al_32, al_33, al_34, al_36, al_41, al_42, al_43, al_44, al_49, al_50, al_51, al_52, al_54, al_55, al_56, al_57, al_58, al_59, al_60, al_61, al_62, al_63, al_64, al_65, al_66, al_67, al_68, al_69, al_70, al_71, al_72, al_73, al_74, al_75, al_76, al_77, al_78, al_79, al_80]; decide) | (simp (disch := omega) only [nL, nI_add, pk_mul, nc, Nat.zero_add, al_2, al_3, al_4, al_5, al_7, al_11, al_12, al_13, al_15, al_16, al_17, al_19, al_20, al_21, al_22, al_23, al_24, al_25, al_26, al_28, al_30, al_31, al_32, al_33, al_34, al_36, al_41, al_42, al_43, al_44, al_49, al_50, al_51, al_52, al_54, al_55, al_56, al_57, al_58, al_59, al_60, al_61, al_62, al_63, al_64, al_65, al_66, al_67, al_68, al_69, al_70, al_71, al_72, al_73, al_74, al_75, al_76, al_77, al_78, al_79, al_80]; exact vin (by omega) (by decide))), ?_, hR1, hk1⟩, fun q7 => ⟨by (first | exact vin (by simp only [al_2, al_3, al_4, al_5, al_7, al_11, al_12, al_13, al_15, al_16, al_17, al_19, al_20, al_21, al_22, al_23, al_24, al_25, al_26, al_28, al_30, al_31, al_32, al_33, al_34, al_36, al_41, al_42, al_43, al_44, al_49, al_50, al_51, al_52, al_54, al_55, al_56, al_57, al_58, al_59, al_60, al_61, al_62, al_63, al_64, al_65, al_66, al_67, al_68, al_69, al_70, al_71, al_72, al_73, al_74, al_75, al_76, al_77, al_78, al_79, al_80]; omega) (by simp only [al_2, al_3, al_4, al_5, al_7, al_11, al_12, al_13, al_15, al_16, al_17, al_19, al_20, al_21, al_22, al_23, al_24, al_25, al_26, al_28, al_30, al_31, al_32, al_33, al_34, al_36, al_41, al_42, al_43, al_44, al_49, al_50, al_51, al_52, al_54, al_55, al_56, al_57, al_58, al_59, al_60, al_61, al_62, al_63, al_64, al_65, al_66, al_67, al_68, al_69, al_70, al_71, al_72, al_73, al_74, al_75, al_76, al_77, al_78, al_79, al_80]; decide) | (simp (disch := omega) only [nL, nI_add, pk_mul, nc, Nat.zero_add, al_2, al_3, al_4, al_5, al_7, al_11, al_12, al_13, al_15, al_16, al_17, al_19, al_20, al_21, al_22, al_23, al_24, al_25, al_26, al_28, al_30, al_31, al_32, al_33, al_34, al_36, al_41, al_42, al_43, al_44, al_49, al_50, al_51, al_52, al_54, al_55, al_56, al_57, al_58, al_59, al_60, al_61, al_62, al_63, al_64, al_65, al_66, al_67, al_68, al_69, al_70, al_71, al_72, al_73, al_74, al_75, al_76, al_77, al_78, al_79, al_80]; exact vin (by omega) (by decide))), ?_, hR1, hk1⟩⟩
      · rw [if_pos q7, nc (by omega), g1]
      · rw [if_neg q7, nc (by omega), g2]
    · rw [k1] at q6
      rw [if_neg q4, if_neg q5, if_neg q6]
      exact ⟨rfl, hRw, hk1.tr hkw⟩
    · rw [if_pos q4]
      refine ⟨?_, hR1, hk1⟩
      rw [k1]
  · rw [eG] at q
    have q2 : nI (offn B.1 (gP B.1)) = nI 0 := q2
    rw [n_eq (by omega) (by omega)] at q2
    have q3 : ¬ nI (pb (∃ k, k < gR B.1 ∧ nV B.1 k < 0)) = nI 0 := q3
    rw [n_eq (by omega) (by omega)] at q3
    rw [if_pos q, if_pos q2, if_pos (pb_1 q3)]
    exact ⟨rfl, hRv, hkv⟩
  · rw [eG] at q
    have q2 : ¬ nI (offn B.1 (gP B.1)) = nI 0 := q2
    rw [n_eq (by omega) (by omega)] at q2
    rw [if_pos q, if_neg q2]
    exact ⟨rfl, hRu, hku⟩
  · rw [eG] at q
    rw [if_neg q]
    exact ⟨rfl, hRt, hkt⟩
