/-! the component's survey: gather, look; its polynomials -/
theorem c_clear_0 (d : Nat) (σ : z_M) : ∃ σ', z_call (d + 1) k_Survey_clear [.ref 15] σ none σ' ∧ fr [15] σ σ' ∧ ∀ i, i < 11 → σ'.1 15 i = 0 := by
  have loop : ∀ (n i : Nat) (σi : z_M), i + n = 11 → fr [15] σ σi → (∀ k, k < i → σi.1 15 k = 0) → z_wp (z_call d) none k_Survey_clear (fun r s => r = none ∧ (fr [15] σ s ∧ ∀ i, i < 11 → s.1 15 i = 0)) 2 [some (.ref 15), some (.int (nI i))] [] σi := by
    intro n
    induction n with
    | zero =>
      intro i σi hi hf hk
      obtain rfl : i = 11 := by omega
      refine z_go 30 [2] ⟨fun q => ⟨rfl, hf, hk⟩, fun q => ?_⟩
      exact absurd (Int32.le_refl _) q
    | succ n ih =>
      intro i σi hi hf hk
      refine z_go 30 [2] ⟨fun q => ?_, fun q => ⟨by (first | exact vin (by simp only [al_2, al_3, al_4, al_5, al_7, al_11, al_12, al_13, al_15, al_16, al_17, al_19, al_20, al_21, al_22, al_23, al_24, al_25, al_26, al_28, al_30, al_31, al_32, al_33, al_34, al_36, al_41, al_42, al_43, al_44, al_49, al_50, al_51, al_52, al_54, al_55, al_56, al_57, al_58, al_59, al_60, al_61, al_62, al_63, al_64, al_65, al_66, al_67, al_68, al_69, al_70, al_71, al_72, al_73, al_74, al_75, al_76, al_77, al_78, al_79, al_80]; omega) (by simp only [al_2, al_3, al_4, al_5, al_7, al_11, al_12, al_13, al_15, al_16, al_17, al_19, al_20, al_21, al_22, al_23, al_24, al_25, al_26, al_28, al_30, al_31, al_32, al_33, al_34, al_36, al_41, al_42, al_43, al_44, al_49, al_50, al_51, al_52, al_54, al_55, al_56, al_57, al_58, al_59, al_60, al_61, al_62, al_63, al_64, al_65, al_66, al_67, al_68, al_69, al_70, al_71, al_72, al_73, al_74, al_75, al_76, al_77, al_78, al_79, al_80]; decide) | (simp (disch := omega) only [nL, nI_add, pk_mul, nc, Nat.zero_add, al_2, al_3, al_4, al_5, al_7, al_11, al_12, al_13, al_15, al_16, al_17, al_19, al_20, al_21, al_22, al_23, al_24, al_25, al_26, al_28, al_30, al_31, al_32, al_33, al_34, al_36, al_41, al_42, al_43, al_44, al_49, al_50, al_51, al_52, al_54, al_55, al_56, al_57, al_58, al_59, al_60, al_61, al_62, al_63, al_64, al_65, al_66, al_67, al_68, al_69, al_70, al_71, al_72, al_73, al_74, al_75, al_76, al_77, al_78, al_79, al_80]; exact vin (by omega) (by decide))), ?_⟩⟩
      · have q : nI 11 ≤ nI i := q
        rw [n_le (by omega) (by omega)] at q
        omega
      · show z_wp _ _ _ _ 2 _ _ _
        rw [show nI i + 1 = nI (i + 1) from nI_add i 1, nc (by omega)]
        refine ih (i + 1) _ (by omega) (fr.wr hf (by decide)) (fun p hp => ?_)
        by_cases e : p = i
        · subst e
          rw [wr_s]
        · rw [wr_k e]
          exact hk p (by omega)
  exact z_metV ⟨rfl, z_go 30 [2] (loop 11 0 σ (by omega) fr.rf (fun p hp => by omega))⟩
theorem c_clear_1 (d : Nat) (σ : z_M) : ∃ σ', z_call (d + 1) k_Survey_clear [.ref 16] σ none σ' ∧ fr [16] σ σ' ∧ ∀ i, i < 11 → σ'.1 16 i = 0 := by
  have loop : ∀ (n i : Nat) (σi : z_M), i + n = 11 → fr [16] σ σi → (∀ k, k < i → σi.1 16 k = 0) → z_wp (z_call d) none k_Survey_clear (fun r s => r = none ∧ (fr [16] σ s ∧ ∀ i, i < 11 → s.1 16 i = 0)) 2 [some (.ref 16), some (.int (nI i))] [] σi := by
    intro n
    induction n with
    | zero =>
      intro i σi hi hf hk
      obtain rfl : i = 11 := by omega
      refine z_go 30 [2] ⟨fun q => ⟨rfl, hf, hk⟩, fun q => ?_⟩
      exact absurd (Int32.le_refl _) q
    | succ n ih =>
      intro i σi hi hf hk
      refine z_go 30 [2] ⟨fun q => ?_, fun q => ⟨by (first | exact vin (by simp only [al_2, al_3, al_4, al_5, al_7, al_11, al_12, al_13, al_15, al_16, al_17, al_19, al_20, al_21, al_22, al_23, al_24, al_25, al_26, al_28, al_30, al_31, al_32, al_33, al_34, al_36, al_41, al_42, al_43, al_44, al_49, al_50, al_51, al_52, al_54, al_55, al_56, al_57, al_58, al_59, al_60, al_61, al_62, al_63, al_64, al_65, al_66, al_67, al_68, al_69, al_70, al_71, al_72, al_73, al_74, al_75, al_76, al_77, al_78, al_79, al_80]; omega) (by simp only [al_2, al_3, al_4, al_5, al_7, al_11, al_12, al_13, al_15, al_16, al_17, al_19, al_20, al_21, al_22, al_23, al_24, al_25, al_26, al_28, al_30, al_31, al_32, al_33, al_34, al_36, al_41, al_42, al_43, al_44, al_49, al_50, al_51, al_52, al_54, al_55, al_56, al_57, al_58, al_59, al_60, al_61, al_62, al_63, al_64, al_65, al_66, al_67, al_68, al_69, al_70, al_71, al_72, al_73, al_74, al_75, al_76, al_77, al_78, al_79, al_80]; decide) | (simp (disch := omega) only [nL, nI_add, pk_mul, nc, Nat.zero_add, al_2, al_3, al_4, al_5, al_7, al_11, al_12, al_13, al_15, al_16, al_17, al_19, al_20, al_21, al_22, al_23, al_24, al_25, al_26, al_28, al_30, al_31, al_32, al_33, al_34, al_36, al_41, al_42, al_43, al_44, al_49, al_50, al_51, al_52, al_54, al_55, al_56, al_57, al_58, al_59, al_60, al_61, al_62, al_63, al_64, al_65, al_66, al_67, al_68, al_69, al_70, al_71, al_72, al_73, al_74, al_75, al_76, al_77, al_78, al_79, al_80]; exact vin (by omega) (by decide))), ?_⟩⟩
      · have q : nI 11 ≤ nI i := q
        rw [n_le (by omega) (by omega)] at q
        omega
      · show z_wp _ _ _ _ 2 _ _ _
        rw [show nI i + 1 = nI (i + 1) from nI_add i 1, nc (by omega)]
        refine ih (i + 1) _ (by omega) (fr.wr hf (by decide)) (fun p hp => ?_)
        by_cases e : p = i
        · subst e
          rw [wr_s]
        · rw [wr_k e]
          exact hk p (by omega)
  exact z_metV ⟨rfl, z_go 30 [2] (loop 11 0 σ (by omega) fr.rf (fun p hp => by omega))⟩
theorem c_clear_2 (d : Nat) (σ : z_M) : ∃ σ', z_call (d + 1) k_Survey_clear [.ref 17] σ none σ' ∧ fr [17] σ σ' ∧ ∀ i, i < 7 → σ'.1 17 i = 0 := by
  have loop : ∀ (n i : Nat) (σi : z_M), i + n = 7 → fr [17] σ σi → (∀ k, k < i → σi.1 17 k = 0) → z_wp (z_call d) none k_Survey_clear (fun r s => r = none ∧ (fr [17] σ s ∧ ∀ i, i < 7 → s.1 17 i = 0)) 2 [some (.ref 17), some (.int (nI i))] [] σi := by
    intro n
    induction n with
    | zero =>
      intro i σi hi hf hk
      obtain rfl : i = 7 := by omega
      refine z_go 30 [2] ⟨fun q => ⟨rfl, hf, hk⟩, fun q => ?_⟩
      exact absurd (Int32.le_refl _) q
    | succ n ih =>
      intro i σi hi hf hk
      refine z_go 30 [2] ⟨fun q => ?_, fun q => ⟨by (first | exact vin (by simp only [al_2, al_3, al_4, al_5, al_7, al_11, al_12, al_13, al_15, al_16, al_17, al_19, al_20, al_21, al_22, al_23, al_24, al_25, al_26, al_28, al_30, al_31, al_32, al_33, al_34, al_36, al_41, al_42, al_43, al_44, al_49, al_50, al_51, al_52, al_54, al_55, al_56, al_57, al_58, al_59, al_60, al_61, al_62, al_63, al_64, al_65, al_66, al_67, al_68, al_69, al_70, al_71, al_72, al_73, al_74, al_75, al_76, al_77, al_78, al_79, al_80]; omega) (by simp only [al_2, al_3, al_4, al_5, al_7, al_11, al_12, al_13, al_15, al_16, al_17, al_19, al_20, al_21, al_22, al_23, al_24, al_25, al_26, al_28, al_30, al_31, al_32, al_33, al_34, al_36, al_41, al_42, al_43, al_44, al_49, al_50, al_51, al_52, al_54, al_55, al_56, al_57, al_58, al_59, al_60, al_61, al_62, al_63, al_64, al_65, al_66, al_67, al_68, al_69, al_70, al_71, al_72, al_73, al_74, al_75, al_76, al_77, al_78, al_79, al_80]; decide) | (simp (disch := omega) only [nL, nI_add, pk_mul, nc, Nat.zero_add, al_2, al_3, al_4, al_5, al_7, al_11, al_12, al_13, al_15, al_16, al_17, al_19, al_20, al_21, al_22, al_23, al_24, al_25, al_26, al_28, al_30, al_31, al_32, al_33, al_34, al_36, al_41, al_42, al_43, al_44, al_49, al_50, al_51, al_52, al_54, al_55, al_56, al_57, al_58, al_59, al_60, al_61, al_62, al_63, al_64, al_65, al_66, al_67, al_68, al_69, al_70, al_71, al_72, al_73, al_74, al_75, al_76, al_77, al_78, al_79, al_80]; exact vin (by omega) (by decide))), ?_⟩⟩
      · have q : nI 7 ≤ nI i := q
        rw [n_le (by omega) (by omega)] at q
        omega
      · show z_wp _ _ _ _ 2 _ _ _
        rw [show nI i + 1 = nI (i + 1) from nI_add i 1, nc (by omega)]
        refine ih (i + 1) _ (by omega) (fr.wr hf (by decide)) (fun p hp => ?_)
        by_cases e : p = i
        · subst e
          rw [wr_s]
        · rw [wr_k e]
          exact hk p (by omega)
  exact z_metV ⟨rfl, z_go 30 [2] (loop 7 0 σ (by omega) fr.rf (fun p hp => by omega))⟩
def pl : Nat → Nat
  | 0 => 0
  | i + 1 => pl i ||| (i <<< (3 * i))
theorem pl_ok : ∀ i, i < 7 → pl i < 262144 ∧ ∀ q, q < i → fd (pl i) q = q := by decide
theorem c_gather (d : Nat) {σ : z_M} {N : zN} (h : netC σ N) (hv : NV N) : ∃ σ', z_call (d + 14) k_Survey_gather [.ref 14, .ref 1] σ none σ' ∧ fr [15, 16, 17] σ σ' ∧ (∀ i, i < 11 → σ'.1 15 i = Int32.ofInt (fpo (gP N) (gR N) (gs N) (ge N) i) ∧ σ'.1 16 i = Int32.ofInt (cpo (gP N) (gR N) (gs N) (ge N) i)) ∧ ∀ i, i < 7 → σ'.1 17 i = Int32.ofInt (fos (gP N) (gR N) (gs N) (ge N) i) := by
  obtain ⟨P, R, eP, hP, egP, eR, hR, eg, hse⟩ := hv.nat
  obtain ⟨σ1, hc1, hf1, z1⟩ := c_clear_0 (d + 12) σ
  obtain ⟨σ2, hc2, hf2, z2⟩ := c_clear_1 (d + 12) σ1
  obtain ⟨σ3, hc3, hf3, z3⟩ := c_clear_2 (d + 12) σ2
  have hf : fr [15, 16, 17] σ σ3 := fr.tr (hf1.wk _ (by decide)) (fr.tr (hf2.wk _ (by decide)) (hf3.wk _ (by decide)))
  have hN : netC σ3 N := h.fr (hf.1 1 (by decide)) (hf.1 2 (by decide)) (hf.1 3 (by decide)) (hf.1 4 (by decide)) (hf.1 5 (by decide))
  have e0 : σ3.1 1 0 = nI P := by rw [hN.1, eP]
  obtain ⟨hl, hfd⟩ := pl_ok P (by omega)
  obtain ⟨σ4, hc4, hf4, y1, y2⟩ := c_choose (d + (10 - R)) hv R 0 0 (pl P) σ3 (by omega) (by decide) hl (fun p q hp hq => by rw [hfd p (by omega), hfd q (by omega)]; rfl) hN
  rw [show d + (10 - R) + 3 + R = d + 13 by omega, egP, show P - mg (gs N) (ge N) 0 0 = P from rfl, ← e0] at hc4
  have loop : ∀ (n i : Nat), i + n = P → z_wp (z_call (d + 13)) none k_Survey_gather (fun r s => r = none ∧ (fr [15, 16, 17] σ s ∧ (∀ i, i < 11 → s.1 15 i = Int32.ofInt (fpo (gP N) (gR N) (gs N) (ge N) i) ∧ s.1 16 i = Int32.ofInt (cpo (gP N) (gR N) (gs N) (ge N) i)) ∧ ∀ i, i < 7 → s.1 17 i = Int32.ofInt (fos (gP N) (gR N) (gs N) (ge N) i))) 25 [some (.ref 14), some (.ref 1), some (.int (nI (pl i))), some (.int (nI i))] [] σ3 := by
    intro n
    induction n with
    | zero =>
      intro i hi
      obtain rfl : i = P := by omega
      refine z_go 60 [25] ⟨fun q => ⟨σ4, hc4, rfl, fr.tr hf hf4, fun k hk => ⟨?_, ?_⟩, fun k hk => ?_⟩, fun q => ?_⟩
      · rw [(y1 k hk).1, hf3.at (by decide), hf2.at (by decide), z1 k hk, Int32.zero_add, eg]
        simp only [Nat.pow_zero, Nat.one_mul, Nat.zero_add]
        rfl
      · rw [(y1 k hk).2, hf3.at (by decide), z2 k hk, Int32.zero_add, eg]
        simp only [Nat.pow_zero, Nat.one_mul, Nat.zero_add]
        rfl
      · rw [y2 k hk, z3 k hk, Int32.zero_add, eg]
        simp only [Nat.pow_zero, Nat.one_mul, Nat.zero_add]
        rfl
      · rw [e0] at q
        exact absurd (Int32.le_refl _) q
    | succ n ih =>
      intro i hi
      refine z_go 60 [25] ⟨fun q => ?_, fun q => ?_⟩
      · rw [e0] at q
        simp (disch := omega) only [nL, nI_add, pk_mul, n_le, n_lt, n_eq] at q
        omega
      · show z_wp _ _ _ _ 25 _ _ _
        rw [show nI i + 1 = nI (i + 1) from nI_add i 1, show (3 : Int32) * nI i = nI (3 * i) from i_mul 3 i, i_shl8 i (by omega) i (by omega), i_or]
        exact ih (i + 1) (by omega)
  exact z_metV ⟨rfl, z_go 60 [25] ⟨σ1, hc1, σ2, hc2, σ3, hc3, loop P 0 (by omega)⟩⟩
theorem c_look (d : Nat) {σ : z_M} {B : zB} (h : RepC σ B) (hv : VB B) : ∃ σ', z_call (d + 15) k_RF_look [.ref 0] σ none σ' ∧ RepC σ' B ∧ kC σ σ' ∧ (∀ i, i < 11 → σ'.1 15 i = Int32.ofInt (fpo (gP B.1) (gR B.1) (gs B.1) (ge B.1) i) ∧ σ'.1 16 i = Int32.ofInt (cpo (gP B.1) (gR B.1) (gs B.1) (ge B.1) i)) ∧ ∀ i, i < 7 → σ'.1 17 i = Int32.ofInt (fos (gP B.1) (gR B.1) (gs B.1) (ge B.1) i) := by
  obtain ⟨h1, h2, h3, h4, h5, h6⟩ := id h
  obtain ⟨σ1, hc, hf, y1, y2⟩ := c_gather d h1 hv.1
  refine z_metV ⟨rfl, z_go 60 [] ⟨fun q => ⟨rfl, h, kC.rf, ?_⟩, fun q => ⟨σ1, hc, Or.inr rfl, rfl, ?_, ?_, ?_⟩⟩⟩
  · rcases h6 with h6 | ⟨-, h6⟩
    · exact absurd h6 q
    · exact h6
  · have k : ∀ c, c ≠ 0 → c ≠ 15 → c ≠ 16 → c ≠ 17 → (z_wr σ1 0 9 1).1 c = σ.1 c := fun c a b e f => by rw [z_wr_ne a]; exact hf.1 c (by simp [b, e, f])
    refine ⟨h1.fr (k 1 (by decide) (by decide) (by decide) (by decide)) (k 2 (by decide) (by decide) (by decide) (by decide)) (k 3 (by decide) (by decide) (by decide) (by decide)) (k 4 (by decide) (by decide) (by decide) (by decide)) (k 5 (by decide) (by decide) (by decide) (by decide)), h2.fr (k 6 (by decide) (by decide) (by decide) (by decide)) (k 7 (by decide) (by decide) (by decide) (by decide)), h3.fr (fun c _ _ => k c (by omega) (by omega) (by omega) (by omega)), h4.fr (fun c _ _ => k c (by omega) (by omega) (by omega) (by omega)), ?_, Or.inr ⟨wr_s, fun i hi => ?_, fun i hi => ?_⟩⟩
    · rw [wr_k (by decide), hf.at (by decide)]
      exact h5
    · rw [wr_c (by decide), wr_c (by decide)]
      exact y1 i hi
    · rw [wr_c (by decide)]
      exact y2 i hi
  · intro c hc2
    rw [z_wr_ne (by omega)]
    exact hf.1 c (by simp; omega)
  · refine ⟨fun i hi => ?_, fun i hi => ?_⟩
    · rw [wr_c (by decide), wr_c (by decide)]
      exact y1 i hi
    · rw [wr_c (by decide)]
      exact y2 i hi
theorem x_flowPoly (d : Nat) {σ : z_M} {B : zB} (h : RepC σ B) (hv : VB B) (i : Int32) : opC (d + 16) k_RF_flowPoly [.ref 0, .int i] σ (sPoly false i B) := by
  obtain ⟨σt, ht, hRt, hkt⟩ := c_tell (d + 14) h (-1000001)
  obtain ⟨σ1, hc, hR1, hk1, y1, -⟩ := c_look d h hv
  unfold sPoly
  refine z_metC ⟨rfl, z_go 60 [] ⟨fun q => ?_, fun q => ⟨fun q2 => ⟨σ1, hc, ?_⟩, fun q2 => ?_⟩⟩⟩
  · rw [if_pos q]
    exact ⟨_, σt, ht, rfl, hRt, hkt⟩
  · rw [if_neg q, if_pos q2]
    obtain ⟨k, hk, rfl⟩ := nI_of (x := i) q
    have q2 : nI k ≤ nI 10 := q2
    rw [n_le (by omega) (by omega)] at q2
    refine ⟨by (first | exact vin (by simp only [al_2, al_3, al_4, al_5, al_7, al_11, al_12, al_13, al_15, al_16, al_17, al_19, al_20, al_21, al_22, al_23, al_24, al_25, al_26, al_28, al_30, al_31, al_32, al_33, al_34, al_36, al_41, al_42, al_43, al_44, al_49, al_50, al_51, al_52, al_54, al_55, al_56, al_57, al_58, al_59, al_60, al_61, al_62, al_63, al_64, al_65, al_66, al_67, al_68, al_69, al_70, al_71, al_72, al_73, al_74, al_75, al_76, al_77, al_78, al_79, al_80]; omega) (by simp only [al_2, al_3, al_4, al_5, al_7, al_11, al_12, al_13, al_15, al_16, al_17, al_19, al_20, al_21, al_22, al_23, al_24, al_25, al_26, al_28, al_30, al_31, al_32, al_33, al_34, al_36, al_41, al_42, al_43, al_44, al_49, al_50, al_51, al_52, al_54, al_55, al_56, al_57, al_58, al_59, al_60, al_61, al_62, al_63, al_64, al_65, al_66, al_67, al_68, al_69, al_70, al_71, al_72, al_73, al_74, al_75, al_76, al_77, al_78, al_79, al_80]; decide) | (simp (disch := omega) only [nL, nI_add, pk_mul, nc, Nat.zero_add, al_2, al_3, al_4, al_5, al_7, al_11, al_12, al_13, al_15, al_16, al_17, al_19, al_20, al_21, al_22, al_23, al_24, al_25, al_26, al_28, al_30, al_31, al_32, al_33, al_34, al_36, al_41, al_42, al_43, al_44, al_49, al_50, al_51, al_52, al_54, al_55, al_56, al_57, al_58, al_59, al_60, al_61, al_62, al_63, al_64, al_65, al_66, al_67, al_68, al_69, al_70, al_71, al_72, al_73, al_74, al_75, al_76, al_77, al_78, al_79, al_80]; exact vin (by omega) (by decide))), ?_, hR1, hk1⟩
    rw [nc (by omega), (y1 k (by omega)).1]
    rfl
  · rw [if_neg q, if_neg q2]
    exact ⟨_, σt, ht, rfl, hRt, hkt⟩
theorem x_colourPoly (d : Nat) {σ : z_M} {B : zB} (h : RepC σ B) (hv : VB B) (i : Int32) : opC (d + 16) k_RF_colourPoly [.ref 0, .int i] σ (sPoly true i B) := by
  obtain ⟨σt, ht, hRt, hkt⟩ := c_tell (d + 14) h (-1000001)
  obtain ⟨σ1, hc, hR1, hk1, y1, -⟩ := c_look d h hv
  unfold sPoly
  refine z_metC ⟨rfl, z_go 60 [] ⟨fun q => ?_, fun q => ⟨fun q2 => ⟨σ1, hc, ?_⟩, fun q2 => ?_⟩⟩⟩
  · rw [if_pos q]
    exact ⟨_, σt, ht, rfl, hRt, hkt⟩
  · rw [if_neg q, if_pos q2]
    obtain ⟨k, hk, rfl⟩ := nI_of (x := i) q
    have q2 : nI k ≤ nI 10 := q2
    rw [n_le (by omega) (by omega)] at q2
    refine ⟨by (first | exact vin (by simp only [al_2, al_3, al_4, al_5, al_7, al_11, al_12, al_13, al_15, al_16, al_17, al_19, al_20, al_21, al_22, al_23, al_24, al_25, al_26, al_28, al_30, al_31, al_32, al_33, al_34, al_36, al_41, al_42, al_43, al_44, al_49, al_50, al_51, al_52, al_54, al_55, al_56, al_57, al_58, al_59, al_60, al_61, al_62, al_63, al_64, al_65, al_66, al_67, al_68, al_69, al_70, al_71, al_72, al_73, al_74, al_75, al_76, al_77, al_78, al_79, al_80]; omega) (by simp only [al_2, al_3, al_4, al_5, al_7, al_11, al_12, al_13, al_15, al_16, al_17, al_19, al_20, al_21, al_22, al_23, al_24, al_25, al_26, al_28, al_30, al_31, al_32, al_33, al_34, al_36, al_41, al_42, al_43, al_44, al_49, al_50, al_51, al_52, al_54, al_55, al_56, al_57, al_58, al_59, al_60, al_61, al_62, al_63, al_64, al_65, al_66, al_67, al_68, al_69, al_70, al_71, al_72, al_73, al_74, al_75, al_76, al_77, al_78, al_79, al_80]; decide) | (simp (disch := omega) only [nL, nI_add, pk_mul, nc, Nat.zero_add, al_2, al_3, al_4, al_5, al_7, al_11, al_12, al_13, al_15, al_16, al_17, al_19, al_20, al_21, al_22, al_23, al_24, al_25, al_26, al_28, al_30, al_31, al_32, al_33, al_34, al_36, al_41, al_42, al_43, al_44, al_49, al_50, al_51, al_52, al_54, al_55, al_56, al_57, al_58, al_59, al_60, al_61, al_62, al_63, al_64, al_65, al_66, al_67, al_68, al_69, al_70, al_71, al_72, al_73, al_74, al_75, al_76, al_77, al_78, al_79, al_80]; exact vin (by omega) (by decide))), ?_, hR1, hk1⟩
    rw [nc (by omega), (y1 k (by omega)).2]
    rfl
  · rw [if_neg q, if_neg q2]
    exact ⟨_, σt, ht, rfl, hRt, hkt⟩
