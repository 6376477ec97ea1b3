/-! the model's two polynomials -/
theorem i_can (a p m : Int32) : a - p + (p - m) = a - m := by
  rw [Int32.sub_eq_add_neg, Int32.sub_eq_add_neg, Int32.sub_eq_add_neg, Int32.add_assoc, ← Int32.add_assoc (-p) p, Int32.add_left_neg, Int32.zero_add]
theorem bc_12 {S R : Nat} (h : S < 2 ^ R) (hR : R ≤ 10) : bc S 12 = bc S R := by
  have := bc_hi h (12 - R)
  rw [show R + (12 - R) = 12 by omega] at this
  exact this
theorem c_genusOf (d : Nat) {σ : z_M} {N : zN} (h : netD σ N) (hv : NV N) {S : Nat} (hS : S < 2 ^ gR N) : ∃ σ', z_call (d + 3) k_Md_genusOf [.ref 53, .int (nI S)] σ (some (.int (nI (bc S (gR N) - mg (gs N) (ge N) S (gR N))))) σ' ∧ fr [75] σ σ' := by
  obtain ⟨P, R, eP, hP, egP, eR, hR, eg, hse⟩ := hv.nat
  have h10 : 2 ^ R ≤ 2 ^ 10 := Nat.pow_le_pow_right (by omega) hR
  rw [eg] at hS
  obtain ⟨σ1, hc, hf, -⟩ := c_piecesOf d h hv (S := S) (by omega)
  rw [egP, eg] at hc
  rw [eg]
  refine z_metR ⟨rfl, z_go 60 [] ⟨_, _, c_countOf (d + 1) σ (by omega), _, σ1, hc, ?_, hf⟩⟩
  have h1 := mg_le (s := gs N) (e := ge N) (P := P) S (n := R) (fun k hk2 => ⟨(hse k (by omega)).2.2.1, (hse k (by omega)).2.2.2⟩)
  have h2 := mg_bc (gs N) (ge N) S R
  rw [h.1, eP, bc_12 hS hR, ← i_sub h1, i_can, i_sub h2]
theorem i_odd : ∀ n, n < 13 → (¬ (nI n - nI n / 2 * 2 = 0)) = (¬ n % 2 = 0) := by decide
theorem i_oi (a b : Int) : Int32.ofInt a + Int32.ofInt b = Int32.ofInt (a + b) := by rw [Int32.ofInt_add]
theorem c_tellPoly_0 (d : Nat) {σ : z_M} {N : zN} (h : netD σ N) (hv : NV N) : ∃ σ', z_call (d + 4) k_Md_tellPoly [.ref 53, .int 0] σ none σ' ∧ fr [75, 76] σ σ' ∧ ∀ i, i < 12 → σ'.1 76 i = Int32.ofInt (fpo (gP N) (gR N) (gs N) (ge N) i) := by
  obtain ⟨P, R, eP, hP, egP, eR, hR, eg, hse⟩ := hv.nat
  have h10 : 2 ^ R ≤ 2 ^ 10 := Nat.pow_le_pow_right (by omega) hR
  have hpos : 0 < 2 ^ R := Nat.pow_pos (by omega)
  rw [egP, eg]
  have loop2 : ∀ (n S : Nat) (σi : z_M) (l3 : Option Value), S + n = 2 ^ R → fr [75, 76] σ σi → (∀ i, i < 12 → σi.1 76 i = Int32.ofInt (bsum (fun S => if bc S R - mg (gs N) (ge N) S R = i then sgn (R - bc S R) else 0) S)) →
      z_wp (z_call (d + 3)) none k_Md_tellPoly (fun r s => r = none ∧ (fr [75, 76] σ s ∧ ∀ i, i < 12 → s.1 76 i = Int32.ofInt (fpo P R (gs N) (ge N) i))) 23 [some (.ref 53), some (.int 0), some (.int (nI S)), l3] [] σi := by
    intro n
    induction n with
    | zero =>
      intro S σi l3 hi hf hk
      obtain rfl : S = 2 ^ R := by omega
      have e1 : σi.1 53 1 = nI R := by rw [hf.at (by decide), h.2.1, eR]
      refine z_go 90 [2, 23] ⟨_, _, c_all (d + 2) e1 hR, fun q => ⟨rfl, hf, hk⟩, fun q => ?_⟩
      rw [n_lt (by omega) (by omega)] at q
      omega
    | succ n ih =>
      intro S σi l3 hi hf hk
      have e1 : σi.1 53 1 = nI R := by rw [hf.at (by decide), h.2.1, eR]
      have hN : netD σi N := h.fr (hf.at (by decide) _) (hf.at (by decide) _) (hf.at (by decide) _) (hf.1 54 (by decide)) (hf.1 55 (by decide)) (hf.1 56 (by decide)) (hf.1 57 (by decide))
      have hb := bc_le S R
      have hb2 := bc_12 (S := S) (R := R) (by omega) hR
      obtain ⟨σ1, hc, hf1⟩ := c_genusOf d hN hv (S := S) (by rw [eg]; omega)
      rw [eg] at hc
      have step : ∀ (v w : Int32), v = Int32.ofInt (sgn (R - bc S R)) → w = nI (bc S R - mg (gs N) (ge N) S R) → ∀ l, z_wp (z_call (d + 3)) none k_Md_tellPoly (fun r s => r = none ∧ (fr [75, 76] σ s ∧ ∀ i, i < 12 → s.1 76 i = Int32.ofInt (fpo P R (gs N) (ge N) i))) 23 [some (.ref 53), some (.int 0), some (.int (nI (S + 1))), l] [] (z_wr σ1 76 w.toNatClampNeg (σ1.1 76 w.toNatClampNeg + v)) := by
        rintro v w rfl rfl l
        rw [nc (by omega)]
        refine ih (S + 1) _ _ (by omega) (fr.wr (fr.tr hf (hf1.wk _ (by decide))) (by decide)) (fun i hi2 => ?_)
        rw [bsum]
        by_cases e : bc S R - mg (gs N) (ge N) S R = i
        · rw [if_pos e, ← e, wr_s, hf1.at (by decide), hk _ (by omega), i_oi]
        · rw [if_neg e, wr_k (fun z => e z.symm), hf1.at (by decide), hk _ hi2, Int.add_zero]
      refine z_go 90 [2, 23] ⟨_, _, c_all (d + 2) e1 hR, fun q => ?_, fun q => ⟨fun z1 => ⟨_, _, c_countOf (d + 2) σi (by omega), fun z2 => ⟨_, σ1, hc, by (first | exact vin (by simp only [al_2, al_3, al_4, al_5, al_7, al_11, al_12, al_13, al_15, al_16, al_17, al_19, al_20, al_21, al_22, al_23, al_24, al_25, al_26, al_28, al_30, al_31, al_32, al_33, al_34, al_36, al_41, al_42, al_43, al_44, al_49, al_50, al_51, al_52, al_54, al_55, al_56, al_57, al_58, al_59, al_60, al_61, al_62, al_63, al_64, al_65, al_66, al_67, al_68, al_69, al_70, al_71, al_72, al_73, al_74, al_75, al_76, al_77, al_78, al_79, al_80]; omega) (by simp only [al_2, al_3, al_4, al_5, al_7, al_11, al_12, al_13, al_15, al_16, al_17, al_19, al_20, al_21, al_22, al_23, al_24, al_25, al_26, al_28, al_30, al_31, al_32, al_33, al_34, al_36, al_41, al_42, al_43, al_44, al_49, al_50, al_51, al_52, al_54, al_55, al_56, al_57, al_58, al_59, al_60, al_61, al_62, al_63, al_64, al_65, al_66, al_67, al_68, al_69, al_70, al_71, al_72, al_73, al_74, al_75, al_76, al_77, al_78, al_79, al_80]; decide) | (simp (disch := omega) only [nL, nI_add, pk_mul, nc, Nat.zero_add, al_2, al_3, al_4, al_5, al_7, al_11, al_12, al_13, al_15, al_16, al_17, al_19, al_20, al_21, al_22, al_23, al_24, al_25, al_26, al_28, al_30, al_31, al_32, al_33, al_34, al_36, al_41, al_42, al_43, al_44, al_49, al_50, al_51, al_52, al_54, al_55, al_56, al_57, al_58, al_59, al_60, al_61, al_62, al_63, al_64, al_65, al_66, al_67, al_68, al_69, al_70, al_71, al_72, al_73, al_74, al_75, al_76, al_77, al_78, al_79, al_80]; exact vin (by omega) (by decide))), by decide, fun q3 => ⟨by (first | exact vin (by simp only [al_2, al_3, al_4, al_5, al_7, al_11, al_12, al_13, al_15, al_16, al_17, al_19, al_20, al_21, al_22, al_23, al_24, al_25, al_26, al_28, al_30, al_31, al_32, al_33, al_34, al_36, al_41, al_42, al_43, al_44, al_49, al_50, al_51, al_52, al_54, al_55, al_56, al_57, al_58, al_59, al_60, al_61, al_62, al_63, al_64, al_65, al_66, al_67, al_68, al_69, al_70, al_71, al_72, al_73, al_74, al_75, al_76, al_77, al_78, al_79, al_80]; omega) (by simp only [al_2, al_3, al_4, al_5, al_7, al_11, al_12, al_13, al_15, al_16, al_17, al_19, al_20, al_21, al_22, al_23, al_24, al_25, al_26, al_28, al_30, al_31, al_32, al_33, al_34, al_36, al_41, al_42, al_43, al_44, al_49, al_50, al_51, al_52, al_54, al_55, al_56, al_57, al_58, al_59, al_60, al_61, al_62, al_63, al_64, al_65, al_66, al_67, al_68, al_69, al_70, al_71, al_72, al_73, al_74, al_75, al_76, al_77, al_78, al_79, al_80]; decide) | (simp (disch := omega) only [nL, nI_add, pk_mul, nc, Nat.zero_add, al_2, al_3, al_4, al_5, al_7, al_11, al_12, al_13, al_15, al_16, al_17, al_19, al_20, al_21, al_22, al_23, al_24, al_25, al_26, al_28, al_30, al_31, al_32, al_33, al_34, al_36, al_41, al_42, al_43, al_44, al_49, al_50, al_51, al_52, al_54, al_55, al_56, al_57, al_58, al_59, al_60, al_61, al_62, al_63, al_64, al_65, al_66, al_67, al_68, al_69, al_70, al_71, al_72, al_73, al_74, al_75, al_76, al_77, al_78, al_79, al_80]; exact vin (by omega) (by decide))), ?_⟩, fun q3 => ⟨by (first | exact vin (by simp only [al_2, al_3, al_4, al_5, al_7, al_11, al_12, al_13, al_15, al_16, al_17, al_19, al_20, al_21, al_22, al_23, al_24, al_25, al_26, al_28, al_30, al_31, al_32, al_33, al_34, al_36, al_41, al_42, al_43, al_44, al_49, al_50, al_51, al_52, al_54, al_55, al_56, al_57, al_58, al_59, al_60, al_61, al_62, al_63, al_64, al_65, al_66, al_67, al_68, al_69, al_70, al_71, al_72, al_73, al_74, al_75, al_76, al_77, al_78, al_79, al_80]; omega) (by simp only [al_2, al_3, al_4, al_5, al_7, al_11, al_12, al_13, al_15, al_16, al_17, al_19, al_20, al_21, al_22, al_23, al_24, al_25, al_26, al_28, al_30, al_31, al_32, al_33, al_34, al_36, al_41, al_42, al_43, al_44, al_49, al_50, al_51, al_52, al_54, al_55, al_56, al_57, al_58, al_59, al_60, al_61, al_62, al_63, al_64, al_65, al_66, al_67, al_68, al_69, al_70, al_71, al_72, al_73, al_74, al_75, al_76, al_77, al_78, al_79, al_80]; decide) | (simp (disch := omega) only [nL, nI_add, pk_mul, nc, Nat.zero_add, al_2, al_3, al_4, al_5, al_7, al_11, al_12, al_13, al_15, al_16, al_17, al_19, al_20, al_21, al_22, al_23, al_24, al_25, al_26, al_28, al_30, al_31, al_32, al_33, al_34, al_36, al_41, al_42, al_43, al_44, al_49, al_50, al_51, al_52, al_54, al_55, al_56, al_57, al_58, al_59, al_60, al_61, al_62, al_63, al_64, al_65, al_66, al_67, al_68, al_69, al_70, al_71, al_72, al_73, al_74, al_75, al_76, al_77, al_78, al_79, al_80]; exact vin (by omega) (by decide))), ?_⟩⟩, fun z2 => absurd rfl z2⟩, fun z1 => absurd rfl z1⟩⟩
      · rw [n_lt (by omega) (by omega)] at q
        omega
      · show z_wp _ _ _ _ 23 _ _ _
        rw [show nI S + 1 = nI (S + 1) from nI_add S 1]
        rw [hb2, e1, i_sub hb] at q3
        have q3 := (i_odd _ (by omega)).mp q3
        exact step _ _ (by rw [sgn, if_neg q3]; rfl) rfl _
      · show z_wp _ _ _ _ 23 _ _ _
        rw [show nI S + 1 = nI (S + 1) from nI_add S 1]
        rw [hb2, e1, i_sub hb] at q3
        have q3 : (R - bc S R) % 2 = 0 := Classical.byContradiction fun z => (i_odd _ (by omega)).mpr z q3
        exact step _ _ (by rw [sgn, if_pos q3]; rfl) rfl _
  have loop1 : ∀ (n i : Nat) (σi : z_M), i + n = 12 → fr [75, 76] σ σi → (∀ p, p < i → σi.1 76 p = 0) →
      z_wp (z_call (d + 3)) none k_Md_tellPoly (fun r s => r = none ∧ (fr [75, 76] σ s ∧ ∀ i, i < 12 → s.1 76 i = Int32.ofInt (fpo P R (gs N) (ge N) i))) 2 [some (.ref 53), some (.int 0), some (.int (nI i)), none] [] σi := by
    intro n
    induction n with
    | zero =>
      intro i σi hi hf hk
      obtain rfl : i = 12 := by omega
      refine z_go 60 [2, 23] ⟨fun q => ?_, fun q => ?_⟩
      · exact loop2 (2 ^ R) 0 σi _ (by omega) hf (fun i hi2 => by rw [hk i hi2]; rfl)
      · exact absurd (Int32.le_refl _) q
    | succ n ih =>
      intro i σi hi hf hk
      refine z_go 60 [2, 23] ⟨fun q => ?_, fun q => ⟨by (first | exact vin (by simp only [al_2, al_3, al_4, al_5, al_7, al_11, al_12, al_13, al_15, al_16, al_17, al_19, al_20, al_21, al_22, al_23, al_24, al_25, al_26, al_28, al_30, al_31, al_32, al_33, al_34, al_36, al_41, al_42, al_43, al_44, al_49, al_50, al_51, al_52, al_54, al_55, al_56, al_57, al_58, al_59, al_60, al_61, al_62, al_63, al_64, al_65, al_66, al_67, al_68, al_69, al_70, al_71, al_72, al_73, al_74, al_75, al_76, al_77, al_78, al_79, al_80]; omega) (by simp only [al_2, al_3, al_4, al_5, al_7, al_11, al_12, al_13, al_15, al_16, al_17, al_19, al_20, al_21, al_22, al_23, al_24, al_25, al_26, al_28, al_30, al_31, al_32, al_33, al_34, al_36, al_41, al_42, al_43, al_44, al_49, al_50, al_51, al_52, al_54, al_55, al_56, al_57, al_58, al_59, al_60, al_61, al_62, al_63, al_64, al_65, al_66, al_67, al_68, al_69, al_70, al_71, al_72, al_73, al_74, al_75, al_76, al_77, al_78, al_79, al_80]; decide) | (simp (disch := omega) only [nL, nI_add, pk_mul, nc, Nat.zero_add, al_2, al_3, al_4, al_5, al_7, al_11, al_12, al_13, al_15, al_16, al_17, al_19, al_20, al_21, al_22, al_23, al_24, al_25, al_26, al_28, al_30, al_31, al_32, al_33, al_34, al_36, al_41, al_42, al_43, al_44, al_49, al_50, al_51, al_52, al_54, al_55, al_56, al_57, al_58, al_59, al_60, al_61, al_62, al_63, al_64, al_65, al_66, al_67, al_68, al_69, al_70, al_71, al_72, al_73, al_74, al_75, al_76, al_77, al_78, al_79, al_80]; exact vin (by omega) (by decide))), ?_⟩⟩
      · simp (disch := omega) only [nL, nI_add, pk_mul, n_le, n_lt, n_eq] at q
        omega
      · show z_wp _ _ _ _ 2 _ _ _
        rw [show nI i + 1 = nI (i + 1) from nI_add i 1, nc (by omega)]
        refine ih (i + 1) _ (by omega) (fr.wr hf (by decide)) (fun p hp => ?_)
        by_cases e : p = i
        · subst e
          rw [wr_s]
        · rw [wr_k e]
          exact hk p (by omega)
  exact z_metV ⟨rfl, z_go 60 [2, 23] (loop1 12 0 σ (by omega) fr.rf (fun p hp => by omega))⟩
theorem c_tellPoly_1 (d : Nat) {σ : z_M} {N : zN} (h : netD σ N) (hv : NV N) : ∃ σ', z_call (d + 4) k_Md_tellPoly [.ref 53, .int 1] σ none σ' ∧ fr [75, 76] σ σ' ∧ ∀ i, i < 12 → σ'.1 76 i = Int32.ofInt (cpo (gP N) (gR N) (gs N) (ge N) i) := by
  obtain ⟨P, R, eP, hP, egP, eR, hR, eg, hse⟩ := hv.nat
  have h10 : 2 ^ R ≤ 2 ^ 10 := Nat.pow_le_pow_right (by omega) hR
  have hpos : 0 < 2 ^ R := Nat.pow_pos (by omega)
  rw [egP, eg]
  have loop2 : ∀ (n S : Nat) (σi : z_M) (l3 : Option Value), S + n = 2 ^ R → fr [75, 76] σ σi → (∀ i, i < 12 → σi.1 76 i = Int32.ofInt (bsum (fun S => if P - mg (gs N) (ge N) S R = i then sgn (bc S R) else 0) S)) →
      z_wp (z_call (d + 3)) none k_Md_tellPoly (fun r s => r = none ∧ (fr [75, 76] σ s ∧ ∀ i, i < 12 → s.1 76 i = Int32.ofInt (cpo P R (gs N) (ge N) i))) 23 [some (.ref 53), some (.int 1), some (.int (nI S)), l3] [] σi := by
    intro n
    induction n with
    | zero =>
      intro S σi l3 hi hf hk
      obtain rfl : S = 2 ^ R := by omega
      have e1 : σi.1 53 1 = nI R := by rw [hf.at (by decide), h.2.1, eR]
      refine z_go 90 [2, 23] ⟨_, _, c_all (d + 2) e1 hR, fun q => ⟨rfl, hf, hk⟩, fun q => ?_⟩
      rw [n_lt (by omega) (by omega)] at q
      omega
    | succ n ih =>
      intro S σi l3 hi hf hk
      have e1 : σi.1 53 1 = nI R := by rw [hf.at (by decide), h.2.1, eR]
      have hN : netD σi N := h.fr (hf.at (by decide) _) (hf.at (by decide) _) (hf.at (by decide) _) (hf.1 54 (by decide)) (hf.1 55 (by decide)) (hf.1 56 (by decide)) (hf.1 57 (by decide))
      have hb := bc_le S R
      have hb2 := bc_12 (S := S) (R := R) (by omega) hR
      obtain ⟨σ1, hc, hf1p⟩ := c_piecesOf (d + 1) hN hv (S := S) (by omega)
      rw [egP, eg] at hc; have hf1 := hf1p.1
      have step : ∀ (v w : Int32), v = Int32.ofInt (sgn (bc S R)) → w = nI (P - mg (gs N) (ge N) S R) → ∀ l, z_wp (z_call (d + 3)) none k_Md_tellPoly (fun r s => r = none ∧ (fr [75, 76] σ s ∧ ∀ i, i < 12 → s.1 76 i = Int32.ofInt (cpo P R (gs N) (ge N) i))) 23 [some (.ref 53), some (.int 1), some (.int (nI (S + 1))), l] [] (z_wr σ1 76 w.toNatClampNeg (σ1.1 76 w.toNatClampNeg + v)) := by
        rintro v w rfl rfl l
        rw [nc (by omega)]
        refine ih (S + 1) _ _ (by omega) (fr.wr (fr.tr hf (hf1.wk _ (by decide))) (by decide)) (fun i hi2 => ?_)
        rw [bsum]
        by_cases e : P - mg (gs N) (ge N) S R = i
        · rw [if_pos e, ← e, wr_s, hf1.at (by decide), hk _ (by omega), i_oi]
        · rw [if_neg e, wr_k (fun z => e z.symm), hf1.at (by decide), hk _ hi2, Int.add_zero]
      refine z_go 90 [2, 23] ⟨_, _, c_all (d + 2) e1 hR, fun q => ?_, fun q => ⟨fun z1 => absurd z1 (by decide), fun z1 => ⟨_, _, c_countOf (d + 2) σi (by omega), fun z2 => absurd z2 (by decide), fun z2 => ⟨_, σ1, hc, by (first | exact vin (by simp only [al_2, al_3, al_4, al_5, al_7, al_11, al_12, al_13, al_15, al_16, al_17, al_19, al_20, al_21, al_22, al_23, al_24, al_25, al_26, al_28, al_30, al_31, al_32, al_33, al_34, al_36, al_41, al_42, al_43, al_44, al_49, al_50, al_51, al_52, al_54, al_55, al_56, al_57, al_58, al_59, al_60, al_61, al_62, al_63, al_64, al_65, al_66, al_67, al_68, al_69, al_70, al_71, al_72, al_73, al_74, al_75, al_76, al_77, al_78, al_79, al_80]; omega) (by simp only [al_2, al_3, al_4, al_5, al_7, al_11, al_12, al_13, al_15, al_16, al_17, al_19, al_20, al_21, al_22, al_23, al_24, al_25, al_26, al_28, al_30, al_31, al_32, al_33, al_34, al_36, al_41, al_42, al_43, al_44, al_49, al_50, al_51, al_52, al_54, al_55, al_56, al_57, al_58, al_59, al_60, al_61, al_62, al_63, al_64, al_65, al_66, al_67, al_68, al_69, al_70, al_71, al_72, al_73, al_74, al_75, al_76, al_77, al_78, al_79, al_80]; decide) | (simp (disch := omega) only [nL, nI_add, pk_mul, nc, Nat.zero_add, al_2, al_3, al_4, al_5, al_7, al_11, al_12, al_13, al_15, al_16, al_17, al_19, al_20, al_21, al_22, al_23, al_24, al_25, al_26, al_28, al_30, al_31, al_32, al_33, al_34, al_36, al_41, al_42, al_43, al_44, al_49, al_50, al_51, al_52, al_54, al_55, al_56, al_57, al_58, al_59, al_60, al_61, al_62, al_63, al_64, al_65, al_66, al_67, al_68, al_69, al_70, al_71, al_72, al_73, al_74, al_75, al_76, al_77, al_78, al_79, al_80]; exact vin (by omega) (by decide))), by decide, fun q3 => ⟨by (first | exact vin (by simp only [al_2, al_3, al_4, al_5, al_7, al_11, al_12, al_13, al_15, al_16, al_17, al_19, al_20, al_21, al_22, al_23, al_24, al_25, al_26, al_28, al_30, al_31, al_32, al_33, al_34, al_36, al_41, al_42, al_43, al_44, al_49, al_50, al_51, al_52, al_54, al_55, al_56, al_57, al_58, al_59, al_60, al_61, al_62, al_63, al_64, al_65, al_66, al_67, al_68, al_69, al_70, al_71, al_72, al_73, al_74, al_75, al_76, al_77, al_78, al_79, al_80]; omega) (by simp only [al_2, al_3, al_4, al_5, al_7, al_11, al_12, al_13, al_15, al_16, al_17, al_19, al_20, al_21, al_22, al_23, al_24, al_25, al_26, al_28, al_30, al_31, al_32, al_33, al_34, al_36, al_41, al_42, al_43, al_44, al_49, al_50, al_51, al_52, al_54, al_55, al_56, al_57, al_58, al_59, al_60, al_61, al_62, al_63, al_64, al_65, al_66, al_67, al_68, al_69, al_70, al_71, al_72, al_73, al_74, al_75, al_76, al_77, al_78, al_79, al_80]; decide) | (simp (disch := omega) only [nL, nI_add, pk_mul, nc, Nat.zero_add, al_2, al_3, al_4, al_5, al_7, al_11, al_12, al_13, al_15, al_16, al_17, al_19, al_20, al_21, al_22, al_23, al_24, al_25, al_26, al_28, al_30, al_31, al_32, al_33, al_34, al_36, al_41, al_42, al_43, al_44, al_49, al_50, al_51, al_52, al_54, al_55, al_56, al_57, al_58, al_59, al_60, al_61, al_62, al_63, al_64, al_65, al_66, al_67, al_68, al_69, al_70, al_71, al_72, al_73, al_74, al_75, al_76, al_77, al_78, al_79, al_80]; exact vin (by omega) (by decide))), ?_⟩, fun q3 => ⟨by (first | exact vin (by simp only [al_2, al_3, al_4, al_5, al_7, al_11, al_12, al_13, al_15, al_16, al_17, al_19, al_20, al_21, al_22, al_23, al_24, al_25, al_26, al_28, al_30, al_31, al_32, al_33, al_34, al_36, al_41, al_42, al_43, al_44, al_49, al_50, al_51, al_52, al_54, al_55, al_56, al_57, al_58, al_59, al_60, al_61, al_62, al_63, al_64, al_65, al_66, al_67, al_68, al_69, al_70, al_71, al_72, al_73, al_74, al_75, al_76, al_77, al_78, al_79, al_80]; omega) (by simp only [al_2, al_3, al_4, al_5, al_7, al_11, al_12, al_13, al_15, al_16, al_17, al_19, al_20, al_21, al_22, al_23, al_24, al_25, al_26, al_28, al_30, al_31, al_32, al_33, al_34, al_36, al_41, al_42, al_43, al_44, al_49, al_50, al_51, al_52, al_54, al_55, al_56, al_57, al_58, al_59, al_60, al_61, al_62, al_63, al_64, al_65, al_66, al_67, al_68, al_69, al_70, al_71, al_72, al_73, al_74, al_75, al_76, al_77, al_78, al_79, al_80]; decide) | (simp (disch := omega) only [nL, nI_add, pk_mul, nc, Nat.zero_add, al_2, al_3, al_4, al_5, al_7, al_11, al_12, al_13, al_15, al_16, al_17, al_19, al_20, al_21, al_22, al_23, al_24, al_25, al_26, al_28, al_30, al_31, al_32, al_33, al_34, al_36, al_41, al_42, al_43, al_44, al_49, al_50, al_51, al_52, al_54, al_55, al_56, al_57, al_58, al_59, al_60, al_61, al_62, al_63, al_64, al_65, al_66, al_67, al_68, al_69, al_70, al_71, al_72, al_73, al_74, al_75, al_76, al_77, al_78, al_79, al_80]; exact vin (by omega) (by decide))), ?_⟩⟩⟩⟩⟩
      · rw [n_lt (by omega) (by omega)] at q
        omega
      · show z_wp _ _ _ _ 23 _ _ _
        rw [show nI S + 1 = nI (S + 1) from nI_add S 1]
        rw [hb2] at q3
        have q3 := (i_odd _ (by omega)).mp q3
        exact step _ _ (by rw [sgn, if_neg q3]; rfl) rfl _
      · show z_wp _ _ _ _ 23 _ _ _
        rw [show nI S + 1 = nI (S + 1) from nI_add S 1]
        rw [hb2] at q3
        have q3 : bc S R % 2 = 0 := Classical.byContradiction fun z => (i_odd _ (by omega)).mpr z q3
        exact step _ _ (by rw [sgn, if_pos q3]; rfl) rfl _
  have loop1 : ∀ (n i : Nat) (σi : z_M), i + n = 12 → fr [75, 76] σ σi → (∀ p, p < i → σi.1 76 p = 0) →
      z_wp (z_call (d + 3)) none k_Md_tellPoly (fun r s => r = none ∧ (fr [75, 76] σ s ∧ ∀ i, i < 12 → s.1 76 i = Int32.ofInt (cpo P R (gs N) (ge N) i))) 2 [some (.ref 53), some (.int 1), some (.int (nI i)), none] [] σi := by
    intro n
    induction n with
    | zero =>
      intro i σi hi hf hk
      obtain rfl : i = 12 := by omega
      refine z_go 60 [2, 23] ⟨fun q => ?_, fun q => ?_⟩
      · exact loop2 (2 ^ R) 0 σi _ (by omega) hf (fun i hi2 => by rw [hk i hi2]; rfl)
      · exact absurd (Int32.le_refl _) q
    | succ n ih =>
      intro i σi hi hf hk
      refine z_go 60 [2, 23] ⟨fun q => ?_, fun q => ⟨by (first | exact vin (by simp only [al_2, al_3, al_4, al_5, al_7, al_11, al_12, al_13, al_15, al_16, al_17, al_19, al_20, al_21, al_22, al_23, al_24, al_25, al_26, al_28, al_30, al_31, al_32, al_33, al_34, al_36, al_41, al_42, al_43, al_44, al_49, al_50, al_51, al_52, al_54, al_55, al_56, al_57, al_58, al_59, al_60, al_61, al_62, al_63, al_64, al_65, al_66, al_67, al_68, al_69, al_70, al_71, al_72, al_73, al_74, al_75, al_76, al_77, al_78, al_79, al_80]; omega) (by simp only [al_2, al_3, al_4, al_5, al_7, al_11, al_12, al_13, al_15, al_16, al_17, al_19, al_20, al_21, al_22, al_23, al_24, al_25, al_26, al_28, al_30, al_31, al_32, al_33, al_34, al_36, al_41, al_42, al_43, al_44, al_49, al_50, al_51, al_52, al_54, al_55, al_56, al_57, al_58, al_59, al_60, al_61, al_62, al_63, al_64, al_65, al_66, al_67, al_68, al_69, al_70, al_71, al_72, al_73, al_74, al_75, al_76, al_77, al_78, al_79, al_80]; decide) | (simp (disch := omega) only [nL, nI_add, pk_mul, nc, Nat.zero_add, al_2, al_3, al_4, al_5, al_7, al_11, al_12, al_13, al_15, al_16, al_17, al_19, al_20, al_21, al_22, al_23, al_24, al_25, al_26, al_28, al_30, al_31, al_32, al_33, al_34, al_36, al_41, al_42, al_43, al_44, al_49, al_50, al_51, al_52, al_54, al_55, al_56, al_57, al_58, al_59, al_60, al_61, al_62, al_63, al_64, al_65, al_66, al_67, al_68, al_69, al_70, al_71, al_72, al_73, al_74, al_75, al_76, al_77, al_78, al_79, al_80]; exact vin (by omega) (by decide))), ?_⟩⟩
      · simp (disch := omega) only [nL, nI_add, pk_mul, n_le, n_lt, n_eq] at q
        omega
      · show z_wp _ _ _ _ 2 _ _ _
        rw [show nI i + 1 = nI (i + 1) from nI_add i 1, nc (by omega)]
        refine ih (i + 1) _ (by omega) (fr.wr hf (by decide)) (fun p hp => ?_)
        by_cases e : p = i
        · subst e
          rw [wr_s]
        · rw [wr_k e]
          exact hk p (by omega)
  exact z_metV ⟨rfl, z_go 60 [2, 23] (loop1 12 0 σ (by omega) fr.rf (fun p hp => by omega))⟩
def sPoly (b : Bool) (i : Int32) (B : zB) : Int32 × zB := if i < 0 then oTell (-1000001) B else if i ≤ 10 then (Int32.ofInt (if b = true then cpo (gP B.1) (gR B.1) (gs B.1) (ge B.1) i.toNatClampNeg else fpo (gP B.1) (gR B.1) (gs B.1) (ge B.1) i.toNatClampNeg), B) else oTell (-1000001) B
theorem v_poly {B : zB} (h : VB B) (b : Bool) (i : Int32) : VB (sPoly b i B).2 := by
  unfold sPoly
  repeat (first | exact h.tell _ | exact h | split)
theorem y_flowPoly (d : Nat) {σ : z_M} {B : zB} (h : RepD σ B) (hv : VB B) (i : Int32) : opD (d + 5) k_Md_flowPoly [.ref 53, .int i] σ (sPoly false i B) := by
  obtain ⟨σt, ht, hRt, hkt⟩ := c_finding (d + 3) h (-1000001)
  obtain ⟨σ1, hc, hf, hp⟩ := c_tellPoly_0 d h.1 hv.1
  unfold sPoly
  refine z_metD ⟨rfl, z_go 60 [] ⟨fun q => ?_, fun q => ⟨fun q2 => ⟨σ1, hc, ?_⟩, fun q2 => ?_⟩⟩⟩
  · rw [if_pos q]
    exact ⟨_, σt, ht, rfl, hRt, hkt⟩
  · rw [if_neg q, if_pos q2]
    obtain ⟨k, hk, rfl⟩ := nI_of (x := i) q
    have q2 : nI k ≤ nI 10 := q2
    rw [n_le (by omega) (by omega)] at q2
    refine ⟨by (first | exact vin (by simp only [al_2, al_3, al_4, al_5, al_7, al_11, al_12, al_13, al_15, al_16, al_17, al_19, al_20, al_21, al_22, al_23, al_24, al_25, al_26, al_28, al_30, al_31, al_32, al_33, al_34, al_36, al_41, al_42, al_43, al_44, al_49, al_50, al_51, al_52, al_54, al_55, al_56, al_57, al_58, al_59, al_60, al_61, al_62, al_63, al_64, al_65, al_66, al_67, al_68, al_69, al_70, al_71, al_72, al_73, al_74, al_75, al_76, al_77, al_78, al_79, al_80]; omega) (by simp only [al_2, al_3, al_4, al_5, al_7, al_11, al_12, al_13, al_15, al_16, al_17, al_19, al_20, al_21, al_22, al_23, al_24, al_25, al_26, al_28, al_30, al_31, al_32, al_33, al_34, al_36, al_41, al_42, al_43, al_44, al_49, al_50, al_51, al_52, al_54, al_55, al_56, al_57, al_58, al_59, al_60, al_61, al_62, al_63, al_64, al_65, al_66, al_67, al_68, al_69, al_70, al_71, al_72, al_73, al_74, al_75, al_76, al_77, al_78, al_79, al_80]; decide) | (simp (disch := omega) only [nL, nI_add, pk_mul, nc, Nat.zero_add, al_2, al_3, al_4, al_5, al_7, al_11, al_12, al_13, al_15, al_16, al_17, al_19, al_20, al_21, al_22, al_23, al_24, al_25, al_26, al_28, al_30, al_31, al_32, al_33, al_34, al_36, al_41, al_42, al_43, al_44, al_49, al_50, al_51, al_52, al_54, al_55, al_56, al_57, al_58, al_59, al_60, al_61, al_62, al_63, al_64, al_65, al_66, al_67, al_68, al_69, al_70, al_71, al_72, al_73, al_74, al_75, al_76, al_77, al_78, al_79, al_80]; exact vin (by omega) (by decide))), ?_, h.scr hf (by decide), hf.kD (by decide)⟩
    rw [nc (by omega), hp k (by omega)]
    rfl
  · rw [if_neg q, if_neg q2]
    exact ⟨_, σt, ht, rfl, hRt, hkt⟩
theorem y_colourPoly (d : Nat) {σ : z_M} {B : zB} (h : RepD σ B) (hv : VB B) (i : Int32) : opD (d + 5) k_Md_colourPoly [.ref 53, .int i] σ (sPoly true i B) := by
  obtain ⟨σt, ht, hRt, hkt⟩ := c_finding (d + 3) h (-1000001)
  obtain ⟨σ1, hc, hf, hp⟩ := c_tellPoly_1 d h.1 hv.1
  unfold sPoly
  refine z_metD ⟨rfl, z_go 60 [] ⟨fun q => ?_, fun q => ⟨fun q2 => ⟨σ1, hc, ?_⟩, fun q2 => ?_⟩⟩⟩
  · rw [if_pos q]
    exact ⟨_, σt, ht, rfl, hRt, hkt⟩
  · rw [if_neg q, if_pos q2]
    obtain ⟨k, hk, rfl⟩ := nI_of (x := i) q
    have q2 : nI k ≤ nI 10 := q2
    rw [n_le (by omega) (by omega)] at q2
    refine ⟨by (first | exact vin (by simp only [al_2, al_3, al_4, al_5, al_7, al_11, al_12, al_13, al_15, al_16, al_17, al_19, al_20, al_21, al_22, al_23, al_24, al_25, al_26, al_28, al_30, al_31, al_32, al_33, al_34, al_36, al_41, al_42, al_43, al_44, al_49, al_50, al_51, al_52, al_54, al_55, al_56, al_57, al_58, al_59, al_60, al_61, al_62, al_63, al_64, al_65, al_66, al_67, al_68, al_69, al_70, al_71, al_72, al_73, al_74, al_75, al_76, al_77, al_78, al_79, al_80]; omega) (by simp only [al_2, al_3, al_4, al_5, al_7, al_11, al_12, al_13, al_15, al_16, al_17, al_19, al_20, al_21, al_22, al_23, al_24, al_25, al_26, al_28, al_30, al_31, al_32, al_33, al_34, al_36, al_41, al_42, al_43, al_44, al_49, al_50, al_51, al_52, al_54, al_55, al_56, al_57, al_58, al_59, al_60, al_61, al_62, al_63, al_64, al_65, al_66, al_67, al_68, al_69, al_70, al_71, al_72, al_73, al_74, al_75, al_76, al_77, al_78, al_79, al_80]; decide) | (simp (disch := omega) only [nL, nI_add, pk_mul, nc, Nat.zero_add, al_2, al_3, al_4, al_5, al_7, al_11, al_12, al_13, al_15, al_16, al_17, al_19, al_20, al_21, al_22, al_23, al_24, al_25, al_26, al_28, al_30, al_31, al_32, al_33, al_34, al_36, al_41, al_42, al_43, al_44, al_49, al_50, al_51, al_52, al_54, al_55, al_56, al_57, al_58, al_59, al_60, al_61, al_62, al_63, al_64, al_65, al_66, al_67, al_68, al_69, al_70, al_71, al_72, al_73, al_74, al_75, al_76, al_77, al_78, al_79, al_80]; exact vin (by omega) (by decide))), ?_, h.scr hf (by decide), hf.kD (by decide)⟩
    rw [nc (by omega), hp k (by omega)]
    rfl
  · rw [if_neg q, if_neg q2]
    exact ⟨_, σt, ht, rfl, hRt, hkt⟩
