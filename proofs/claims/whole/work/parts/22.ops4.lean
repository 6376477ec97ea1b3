/-! melting, reading, undoing, told -/
def mel (p lo hi : Int32) : Int32 := if ¬ p = hi then (if p ≤ hi then p else p - 1) else lo
theorem c_united (d : Nat) (σ : z_M) (p lo hi : Int32) : z_call (d + 1) k_Net_united [.int p, .int lo, .int hi] σ (some (.int (mel p lo hi))) σ := by
  unfold mel
  refine ⟨rfl, z_go 20 [] ⟨fun h => ⟨fun h2 => ⟨by rw [if_pos h, if_pos h2], rfl⟩, fun h2 => ⟨by rw [if_pos h, if_neg h2], rfl⟩⟩, fun h => ⟨by rw [if_neg (fun z => z h)], rfl⟩⟩⟩
theorem c_melted (d : Nat) (σ : z_M) (p lo hi : Int32) : z_call (d + 1) k_Md_melted [.int p, .int lo, .int hi] σ (some (.int (mel p lo hi))) σ := by
  unfold mel
  refine ⟨rfl, z_go 20 [] ⟨fun h => ⟨fun h2 => ⟨by rw [if_pos h, if_pos h2], rfl⟩, fun h2 => ⟨by rw [if_pos h, if_neg h2], rfl⟩⟩, fun h => ⟨by rw [if_neg (fun z => z h)], rfl⟩⟩⟩
def melF (f : Nat → Int32) (lo hi : Int32) (n : Nat) : Nat → Int32 := fun i => if i < n then mel (f i) lo hi else f i
def uniN (N : zN) (lo hi : Int32) : zN := ((nP N - 1, nR N, nG N), melF (nS N) lo hi (gR N), melF (nE N) lo hi (gR N), nD N, nV N)
theorem c_unite (d : Nat) {σ : z_M} {N : zN} (h : netC σ N) {R : Nat} (hR : nR N = nI R) (h10 : R ≤ 10) (lo hi : Int32) : ∃ σ', z_call (d + 2) k_Net_unite [.ref 1, .int lo, .int hi] σ none σ' ∧ fr [1, 2, 3, 4, 5] σ σ' ∧ netC σ' (uniN N lo hi) := by
  obtain ⟨h1, h2, h3, h4⟩ := h
  have eg : gR N = R := by unfold gR; rw [hR, nc (by omega)]
  have loop : ∀ (n i : Nat) (σi : z_M), i + n = R → fr [2, 3] σ σi → (∀ k, k < 10 → σi.1 2 k = melF (nS N) lo hi i k ∧ σi.1 3 k = melF (nE N) lo hi i k) →
      z_wp (z_call (d + 1)) none k_Net_unite (fun r s => r = none ∧ (fr [1, 2, 3, 4, 5] σ s ∧ netC s (uniN N lo hi))) 2 [some (.ref 1), some (.int lo), some (.int hi), some (.int (nI i))] [] σi := by
    intro n
    induction n with
    | zero =>
      intro i σi hi2 hf hk
      have e11 : σi.1 1 1 = nI R := by rw [hf.at (by decide), h2, hR]
      obtain rfl : i = R := by omega
      refine z_go 60 [2] ⟨fun q => ?_, fun q => ?_⟩
      · refine ⟨rfl, fr.wr (hf.wk _ (by decide)) (by decide), ?_, ?_, ?_, fun k hk2 => ?_⟩
        · rw [wr_s, hf.at (by decide), h1]
          rfl
        · rw [wr_k (by decide), hf.at (by decide), h2]
          rfl
        · rw [wr_k (by decide), hf.at (by decide), h3]
          rfl
        · obtain ⟨b1, b2⟩ := hk k hk2
          obtain ⟨-, -, b3, b4⟩ := h4 k hk2
          simp (disch := omega) only [wr_c, b1, b2, uniN, nS, nE, nD, nV, eg, hf.at (show 4 ∉ [2, 3] by decide), hf.at (show 5 ∉ [2, 3] by decide)]
          exact ⟨trivial, trivial, b3, b4⟩
      · rw [e11] at q
        exact absurd (Int32.le_refl _) q
    | succ n ih =>
      intro i σi hi2 hf hk
      have e11 : σi.1 1 1 = nI R := by rw [hf.at (by decide), h2, hR]
      obtain ⟨c1, c2⟩ := hk i (by omega)
      refine z_go 60 [2] ⟨fun q => ?_, fun q => ⟨by (first | exact vin (by simp only [al_2, al_3, al_4, al_5, al_7, al_11, al_12, al_13, al_15, al_16, al_17, al_19, al_20, al_21, al_22, al_23, al_24, al_25, al_26, al_28, al_30, al_31, al_32, al_33, al_34, al_36, al_41, al_42, al_43, al_44, al_49, al_50, al_51, al_52, al_54, al_55, al_56, al_57, al_58, al_59, al_60, al_61, al_62, al_63, al_64, al_65, al_66, al_67, al_68, al_69, al_70, al_71, al_72, al_73, al_74, al_75, al_76, al_77, al_78, al_79, al_80]; omega) (by simp only [al_2, al_3, al_4, al_5, al_7, al_11, al_12, al_13, al_15, al_16, al_17, al_19, al_20, al_21, al_22, al_23, al_24, al_25, al_26, al_28, al_30, al_31, al_32, al_33, al_34, al_36, al_41, al_42, al_43, al_44, al_49, al_50, al_51, al_52, al_54, al_55, al_56, al_57, al_58, al_59, al_60, al_61, al_62, al_63, al_64, al_65, al_66, al_67, al_68, al_69, al_70, al_71, al_72, al_73, al_74, al_75, al_76, al_77, al_78, al_79, al_80]; decide) | (simp (disch := omega) only [nL, nI_add, pk_mul, nc, Nat.zero_add, al_2, al_3, al_4, al_5, al_7, al_11, al_12, al_13, al_15, al_16, al_17, al_19, al_20, al_21, al_22, al_23, al_24, al_25, al_26, al_28, al_30, al_31, al_32, al_33, al_34, al_36, al_41, al_42, al_43, al_44, al_49, al_50, al_51, al_52, al_54, al_55, al_56, al_57, al_58, al_59, al_60, al_61, al_62, al_63, al_64, al_65, al_66, al_67, al_68, al_69, al_70, al_71, al_72, al_73, al_74, al_75, al_76, al_77, al_78, al_79, al_80]; exact vin (by omega) (by decide))), _, _, c_united d _ _ _ _, by (first | exact vin (by simp only [al_2, al_3, al_4, al_5, al_7, al_11, al_12, al_13, al_15, al_16, al_17, al_19, al_20, al_21, al_22, al_23, al_24, al_25, al_26, al_28, al_30, al_31, al_32, al_33, al_34, al_36, al_41, al_42, al_43, al_44, al_49, al_50, al_51, al_52, al_54, al_55, al_56, al_57, al_58, al_59, al_60, al_61, al_62, al_63, al_64, al_65, al_66, al_67, al_68, al_69, al_70, al_71, al_72, al_73, al_74, al_75, al_76, al_77, al_78, al_79, al_80]; omega) (by simp only [al_2, al_3, al_4, al_5, al_7, al_11, al_12, al_13, al_15, al_16, al_17, al_19, al_20, al_21, al_22, al_23, al_24, al_25, al_26, al_28, al_30, al_31, al_32, al_33, al_34, al_36, al_41, al_42, al_43, al_44, al_49, al_50, al_51, al_52, al_54, al_55, al_56, al_57, al_58, al_59, al_60, al_61, al_62, al_63, al_64, al_65, al_66, al_67, al_68, al_69, al_70, al_71, al_72, al_73, al_74, al_75, al_76, al_77, al_78, al_79, al_80]; decide) | (simp (disch := omega) only [nL, nI_add, pk_mul, nc, Nat.zero_add, al_2, al_3, al_4, al_5, al_7, al_11, al_12, al_13, al_15, al_16, al_17, al_19, al_20, al_21, al_22, al_23, al_24, al_25, al_26, al_28, al_30, al_31, al_32, al_33, al_34, al_36, al_41, al_42, al_43, al_44, al_49, al_50, al_51, al_52, al_54, al_55, al_56, al_57, al_58, al_59, al_60, al_61, al_62, al_63, al_64, al_65, al_66, al_67, al_68, al_69, al_70, al_71, al_72, al_73, al_74, al_75, al_76, al_77, al_78, al_79, al_80]; exact vin (by omega) (by decide))), by (first | exact vin (by simp only [al_2, al_3, al_4, al_5, al_7, al_11, al_12, al_13, al_15, al_16, al_17, al_19, al_20, al_21, al_22, al_23, al_24, al_25, al_26, al_28, al_30, al_31, al_32, al_33, al_34, al_36, al_41, al_42, al_43, al_44, al_49, al_50, al_51, al_52, al_54, al_55, al_56, al_57, al_58, al_59, al_60, al_61, al_62, al_63, al_64, al_65, al_66, al_67, al_68, al_69, al_70, al_71, al_72, al_73, al_74, al_75, al_76, al_77, al_78, al_79, al_80]; omega) (by simp only [al_2, al_3, al_4, al_5, al_7, al_11, al_12, al_13, al_15, al_16, al_17, al_19, al_20, al_21, al_22, al_23, al_24, al_25, al_26, al_28, al_30, al_31, al_32, al_33, al_34, al_36, al_41, al_42, al_43, al_44, al_49, al_50, al_51, al_52, al_54, al_55, al_56, al_57, al_58, al_59, al_60, al_61, al_62, al_63, al_64, al_65, al_66, al_67, al_68, al_69, al_70, al_71, al_72, al_73, al_74, al_75, al_76, al_77, al_78, al_79, al_80]; decide) | (simp (disch := omega) only [nL, nI_add, pk_mul, nc, Nat.zero_add, al_2, al_3, al_4, al_5, al_7, al_11, al_12, al_13, al_15, al_16, al_17, al_19, al_20, al_21, al_22, al_23, al_24, al_25, al_26, al_28, al_30, al_31, al_32, al_33, al_34, al_36, al_41, al_42, al_43, al_44, al_49, al_50, al_51, al_52, al_54, al_55, al_56, al_57, al_58, al_59, al_60, al_61, al_62, al_63, al_64, al_65, al_66, al_67, al_68, al_69, al_70, al_71, al_72, al_73, al_74, al_75, al_76, al_77, al_78, al_79, al_80]; exact vin (by omega) (by decide))), _, _, c_united d _ _ _ _, by (first | exact vin (by simp only [al_2, al_3, al_4, al_5, al_7, al_11, al_12, al_13, al_15, al_16, al_17, al_19, al_20, al_21, al_22, al_23, al_24, al_25, al_26, al_28, al_30, al_31, al_32, al_33, al_34, al_36, al_41, al_42, al_43, al_44, al_49, al_50, al_51, al_52, al_54, al_55, al_56, al_57, al_58, al_59, al_60, al_61, al_62, al_63, al_64, al_65, al_66, al_67, al_68, al_69, al_70, al_71, al_72, al_73, al_74, al_75, al_76, al_77, al_78, al_79, al_80]; omega) (by simp only [al_2, al_3, al_4, al_5, al_7, al_11, al_12, al_13, al_15, al_16, al_17, al_19, al_20, al_21, al_22, al_23, al_24, al_25, al_26, al_28, al_30, al_31, al_32, al_33, al_34, al_36, al_41, al_42, al_43, al_44, al_49, al_50, al_51, al_52, al_54, al_55, al_56, al_57, al_58, al_59, al_60, al_61, al_62, al_63, al_64, al_65, al_66, al_67, al_68, al_69, al_70, al_71, al_72, al_73, al_74, al_75, al_76, al_77, al_78, al_79, al_80]; decide) | (simp (disch := omega) only [nL, nI_add, pk_mul, nc, Nat.zero_add, al_2, al_3, al_4, al_5, al_7, al_11, al_12, al_13, al_15, al_16, al_17, al_19, al_20, al_21, al_22, al_23, al_24, al_25, al_26, al_28, al_30, al_31, al_32, al_33, al_34, al_36, al_41, al_42, al_43, al_44, al_49, al_50, al_51, al_52, al_54, al_55, al_56, al_57, al_58, al_59, al_60, al_61, al_62, al_63, al_64, al_65, al_66, al_67, al_68, al_69, al_70, al_71, al_72, al_73, al_74, al_75, al_76, al_77, al_78, al_79, al_80]; exact vin (by omega) (by decide))), ?_⟩⟩
      · rw [e11, n_le (by omega) (by omega)] at q
        omega
      · show z_wp _ _ _ _ 2 _ _ _
        simp (disch := omega) only [nL, nI_add, nc, wr_c, c1, c2]
        refine ih (i + 1) _ (by omega) (fr.wr (fr.wr hf (by decide)) (by decide)) (fun k hk2 => ?_)
        obtain ⟨b1, b2⟩ := hk k hk2
        by_cases e : k = i
        · subst e
          simp (disch := omega) only [wr_s, wr_c, melF, Nat.lt_irrefl, if_false, Nat.lt_succ_self, if_true]
          exact ⟨trivial, trivial⟩
        · simp (disch := omega) only [wr_k, wr_c, b1, b2, melF]
          have ee : (k < i) = (k < i + 1) := propext (by omega)
          simp only [ee]
          exact ⟨trivial, trivial⟩
  refine z_metV ⟨rfl, z_go 60 [2] ?_⟩
  exact loop R 0 σ (by omega) fr.rf (fun k hk => by
    simp only [melF, Nat.not_lt_zero, if_false]
    exact ⟨(h4 k hk).1, (h4 k hk).2.1⟩)
theorem c_isLoop (d : Nat) {σ : z_M} {j : Nat} (hj : j < 10) : z_call (d + 1) k_Net_isLoop [.ref 1, .int (nI j)] σ (some (.int (if σ.1 2 j = σ.1 3 j then 1 else 0))) σ := by
  refine ⟨rfl, z_go 20 [] ⟨by (first | exact vin (by simp only [al_2, al_3, al_4, al_5, al_7, al_11, al_12, al_13, al_15, al_16, al_17, al_19, al_20, al_21, al_22, al_23, al_24, al_25, al_26, al_28, al_30, al_31, al_32, al_33, al_34, al_36, al_41, al_42, al_43, al_44, al_49, al_50, al_51, al_52, al_54, al_55, al_56, al_57, al_58, al_59, al_60, al_61, al_62, al_63, al_64, al_65, al_66, al_67, al_68, al_69, al_70, al_71, al_72, al_73, al_74, al_75, al_76, al_77, al_78, al_79, al_80]; omega) (by simp only [al_2, al_3, al_4, al_5, al_7, al_11, al_12, al_13, al_15, al_16, al_17, al_19, al_20, al_21, al_22, al_23, al_24, al_25, al_26, al_28, al_30, al_31, al_32, al_33, al_34, al_36, al_41, al_42, al_43, al_44, al_49, al_50, al_51, al_52, al_54, al_55, al_56, al_57, al_58, al_59, al_60, al_61, al_62, al_63, al_64, al_65, al_66, al_67, al_68, al_69, al_70, al_71, al_72, al_73, al_74, al_75, al_76, al_77, al_78, al_79, al_80]; decide) | (simp (disch := omega) only [nL, nI_add, pk_mul, nc, Nat.zero_add, al_2, al_3, al_4, al_5, al_7, al_11, al_12, al_13, al_15, al_16, al_17, al_19, al_20, al_21, al_22, al_23, al_24, al_25, al_26, al_28, al_30, al_31, al_32, al_33, al_34, al_36, al_41, al_42, al_43, al_44, al_49, al_50, al_51, al_52, al_54, al_55, al_56, al_57, al_58, al_59, al_60, al_61, al_62, al_63, al_64, al_65, al_66, al_67, al_68, al_69, al_70, al_71, al_72, al_73, al_74, al_75, al_76, al_77, al_78, al_79, al_80]; exact vin (by omega) (by decide))), by (first | exact vin (by simp only [al_2, al_3, al_4, al_5, al_7, al_11, al_12, al_13, al_15, al_16, al_17, al_19, al_20, al_21, al_22, al_23, al_24, al_25, al_26, al_28, al_30, al_31, al_32, al_33, al_34, al_36, al_41, al_42, al_43, al_44, al_49, al_50, al_51, al_52, al_54, al_55, al_56, al_57, al_58, al_59, al_60, al_61, al_62, al_63, al_64, al_65, al_66, al_67, al_68, al_69, al_70, al_71, al_72, al_73, al_74, al_75, al_76, al_77, al_78, al_79, al_80]; omega) (by simp only [al_2, al_3, al_4, al_5, al_7, al_11, al_12, al_13, al_15, al_16, al_17, al_19, al_20, al_21, al_22, al_23, al_24, al_25, al_26, al_28, al_30, al_31, al_32, al_33, al_34, al_36, al_41, al_42, al_43, al_44, al_49, al_50, al_51, al_52, al_54, al_55, al_56, al_57, al_58, al_59, al_60, al_61, al_62, al_63, al_64, al_65, al_66, al_67, al_68, al_69, al_70, al_71, al_72, al_73, al_74, al_75, al_76, al_77, al_78, al_79, al_80]; decide) | (simp (disch := omega) only [nL, nI_add, pk_mul, nc, Nat.zero_add, al_2, al_3, al_4, al_5, al_7, al_11, al_12, al_13, al_15, al_16, al_17, al_19, al_20, al_21, al_22, al_23, al_24, al_25, al_26, al_28, al_30, al_31, al_32, al_33, al_34, al_36, al_41, al_42, al_43, al_44, al_49, al_50, al_51, al_52, al_54, al_55, al_56, al_57, al_58, al_59, al_60, al_61, al_62, al_63, al_64, al_65, al_66, al_67, al_68, al_69, al_70, al_71, al_72, al_73, al_74, al_75, al_76, al_77, al_78, al_79, al_80]; exact vin (by omega) (by decide))), fun h => ⟨Or.inl rfl, ?_, rfl⟩, fun h => ⟨Or.inr rfl, ?_, rfl⟩⟩⟩
  · rw [nc (by omega)] at h
    rw [if_neg h]
  · rw [nc (by omega)] at h
    rw [if_pos h]
def sMelt (r : Int32) (B : zB) : Int32 × zB := if hasP (nR B.1) r = 0 then oTell (-1000001) B else if nS B.1 r.toNatClampNeg = nE B.1 r.toNatClampNeg then oTell (-1000004) B else
  oAct (nP B.1 - 1) (uniN (dropN B.1 r.toNatClampNeg) (imin (nS B.1 r.toNatClampNeg) (nE B.1 r.toNatClampNeg)) (imax (nS B.1 r.toNatClampNeg) (nE B.1 r.toNatClampNeg))) B
theorem x_melt (d : Nat) {σ : z_M} {B : zB} (h : RepC σ B) (hv : VB B) (r : Int32) : opC (d + 5) k_RF_melt [.ref 0, .int r] σ (sMelt r B) := by
  obtain ⟨P, R, G, eP, hP, eR, hR, -⟩ := hv.1
  have ca := c_hasRoad (d + 3) σ r
  rw [h.1.2.1] at ca
  refine z_metC ⟨rfl, z_go 80 [] ⟨_, _, ca, fun q => ?_, fun q => ?_⟩⟩
  · rw [sMelt, if_neg q]
    rw [eR] at q
    obtain ⟨j, hj, rfl⟩ := hasP_ne (by omega) q
    have cl := c_isLoop (d + 3) (σ := σ) (show j < 10 by omega)
    obtain ⟨j1, j2, -, -⟩ := h.1.2.2.2 j (by omega)
    rw [j1, j2] at cl
    rw [nc (by omega)]
    refine ⟨_, _, cl, fun q2 => ?_, fun q2 => ?_⟩
    · have q3 : ¬ nS B.1 j = nE B.1 j := fun z => by
        rw [if_pos z] at q2
        exact absurd q2 (by decide)
      rw [if_neg q3]
      obtain ⟨σ1, hc, hN1, -, hk, fin⟩ := c_beginB (d + 1) h
      obtain ⟨k1, k2, -, -⟩ := hN1.2.2.2 j (by omega)
      obtain ⟨σ2, hc2, hf2, hN2⟩ := c_drop (d + 3) hN1 eR hR hj
      have eR2 : nR (dropN B.1 j) = nI (R - 1) := by
        show nR B.1 - 1 = _
        rw [eR]
        exact pk_sub1 (by omega)
      obtain ⟨σ3, hc3, hf3, hN3⟩ := c_unite (d + 2) hN2 eR2 (by omega) (imin (nS B.1 j) (nE B.1 j)) (imax (nS B.1 j) (nE B.1 j))
      refine ⟨σ1, hc, by (first | exact vin (by simp only [al_2, al_3, al_4, al_5, al_7, al_11, al_12, al_13, al_15, al_16, al_17, al_19, al_20, al_21, al_22, al_23, al_24, al_25, al_26, al_28, al_30, al_31, al_32, al_33, al_34, al_36, al_41, al_42, al_43, al_44, al_49, al_50, al_51, al_52, al_54, al_55, al_56, al_57, al_58, al_59, al_60, al_61, al_62, al_63, al_64, al_65, al_66, al_67, al_68, al_69, al_70, al_71, al_72, al_73, al_74, al_75, al_76, al_77, al_78, al_79, al_80]; omega) (by simp only [al_2, al_3, al_4, al_5, al_7, al_11, al_12, al_13, al_15, al_16, al_17, al_19, al_20, al_21, al_22, al_23, al_24, al_25, al_26, al_28, al_30, al_31, al_32, al_33, al_34, al_36, al_41, al_42, al_43, al_44, al_49, al_50, al_51, al_52, al_54, al_55, al_56, al_57, al_58, al_59, al_60, al_61, al_62, al_63, al_64, al_65, al_66, al_67, al_68, al_69, al_70, al_71, al_72, al_73, al_74, al_75, al_76, al_77, al_78, al_79, al_80]; decide) | (simp (disch := omega) only [nL, nI_add, pk_mul, nc, Nat.zero_add, al_2, al_3, al_4, al_5, al_7, al_11, al_12, al_13, al_15, al_16, al_17, al_19, al_20, al_21, al_22, al_23, al_24, al_25, al_26, al_28, al_30, al_31, al_32, al_33, al_34, al_36, al_41, al_42, al_43, al_44, al_49, al_50, al_51, al_52, al_54, al_55, al_56, al_57, al_58, al_59, al_60, al_61, al_62, al_63, al_64, al_65, al_66, al_67, al_68, al_69, al_70, al_71, al_72, al_73, al_74, al_75, al_76, al_77, al_78, al_79, al_80]; exact vin (by omega) (by decide))), by (first | exact vin (by simp only [al_2, al_3, al_4, al_5, al_7, al_11, al_12, al_13, al_15, al_16, al_17, al_19, al_20, al_21, al_22, al_23, al_24, al_25, al_26, al_28, al_30, al_31, al_32, al_33, al_34, al_36, al_41, al_42, al_43, al_44, al_49, al_50, al_51, al_52, al_54, al_55, al_56, al_57, al_58, al_59, al_60, al_61, al_62, al_63, al_64, al_65, al_66, al_67, al_68, al_69, al_70, al_71, al_72, al_73, al_74, al_75, al_76, al_77, al_78, al_79, al_80]; omega) (by simp only [al_2, al_3, al_4, al_5, al_7, al_11, al_12, al_13, al_15, al_16, al_17, al_19, al_20, al_21, al_22, al_23, al_24, al_25, al_26, al_28, al_30, al_31, al_32, al_33, al_34, al_36, al_41, al_42, al_43, al_44, al_49, al_50, al_51, al_52, al_54, al_55, al_56, al_57, al_58, al_59, al_60, al_61, al_62, al_63, al_64, al_65, al_66, al_67, al_68, al_69, al_70, al_71, al_72, al_73, al_74, al_75, al_76, al_77, al_78, al_79, al_80]; decide) | (simp (disch := omega) only [nL, nI_add, pk_mul, nc, Nat.zero_add, al_2, al_3, al_4, al_5, al_7, al_11, al_12, al_13, al_15, al_16, al_17, al_19, al_20, al_21, al_22, al_23, al_24, al_25, al_26, al_28, al_30, al_31, al_32, al_33, al_34, al_36, al_41, al_42, al_43, al_44, al_49, al_50, al_51, al_52, al_54, al_55, al_56, al_57, al_58, al_59, al_60, al_61, al_62, al_63, al_64, al_65, al_66, al_67, al_68, al_69, al_70, al_71, al_72, al_73, al_74, al_75, al_76, al_77, al_78, al_79, al_80]; exact vin (by omega) (by decide))), _, _, c_min (d + 3) _ _ _, by (first | exact vin (by simp only [al_2, al_3, al_4, al_5, al_7, al_11, al_12, al_13, al_15, al_16, al_17, al_19, al_20, al_21, al_22, al_23, al_24, al_25, al_26, al_28, al_30, al_31, al_32, al_33, al_34, al_36, al_41, al_42, al_43, al_44, al_49, al_50, al_51, al_52, al_54, al_55, al_56, al_57, al_58, al_59, al_60, al_61, al_62, al_63, al_64, al_65, al_66, al_67, al_68, al_69, al_70, al_71, al_72, al_73, al_74, al_75, al_76, al_77, al_78, al_79, al_80]; omega) (by simp only [al_2, al_3, al_4, al_5, al_7, al_11, al_12, al_13, al_15, al_16, al_17, al_19, al_20, al_21, al_22, al_23, al_24, al_25, al_26, al_28, al_30, al_31, al_32, al_33, al_34, al_36, al_41, al_42, al_43, al_44, al_49, al_50, al_51, al_52, al_54, al_55, al_56, al_57, al_58, al_59, al_60, al_61, al_62, al_63, al_64, al_65, al_66, al_67, al_68, al_69, al_70, al_71, al_72, al_73, al_74, al_75, al_76, al_77, al_78, al_79, al_80]; decide) | (simp (disch := omega) only [nL, nI_add, pk_mul, nc, Nat.zero_add, al_2, al_3, al_4, al_5, al_7, al_11, al_12, al_13, al_15, al_16, al_17, al_19, al_20, al_21, al_22, al_23, al_24, al_25, al_26, al_28, al_30, al_31, al_32, al_33, al_34, al_36, al_41, al_42, al_43, al_44, al_49, al_50, al_51, al_52, al_54, al_55, al_56, al_57, al_58, al_59, al_60, al_61, al_62, al_63, al_64, al_65, al_66, al_67, al_68, al_69, al_70, al_71, al_72, al_73, al_74, al_75, al_76, al_77, al_78, al_79, al_80]; exact vin (by omega) (by decide))), by (first | exact vin (by simp only [al_2, al_3, al_4, al_5, al_7, al_11, al_12, al_13, al_15, al_16, al_17, al_19, al_20, al_21, al_22, al_23, al_24, al_25, al_26, al_28, al_30, al_31, al_32, al_33, al_34, al_36, al_41, al_42, al_43, al_44, al_49, al_50, al_51, al_52, al_54, al_55, al_56, al_57, al_58, al_59, al_60, al_61, al_62, al_63, al_64, al_65, al_66, al_67, al_68, al_69, al_70, al_71, al_72, al_73, al_74, al_75, al_76, al_77, al_78, al_79, al_80]; omega) (by simp only [al_2, al_3, al_4, al_5, al_7, al_11, al_12, al_13, al_15, al_16, al_17, al_19, al_20, al_21, al_22, al_23, al_24, al_25, al_26, al_28, al_30, al_31, al_32, al_33, al_34, al_36, al_41, al_42, al_43, al_44, al_49, al_50, al_51, al_52, al_54, al_55, al_56, al_57, al_58, al_59, al_60, al_61, al_62, al_63, al_64, al_65, al_66, al_67, al_68, al_69, al_70, al_71, al_72, al_73, al_74, al_75, al_76, al_77, al_78, al_79, al_80]; decide) | (simp (disch := omega) only [nL, nI_add, pk_mul, nc, Nat.zero_add, al_2, al_3, al_4, al_5, al_7, al_11, al_12, al_13, al_15, al_16, al_17, al_19, al_20, al_21, al_22, al_23, al_24, al_25, al_26, al_28, al_30, al_31, al_32, al_33, al_34, al_36, al_41, al_42, al_43, al_44, al_49, al_50, al_51, al_52, al_54, al_55, al_56, al_57, al_58, al_59, al_60, al_61, al_62, al_63, al_64, al_65, al_66, al_67, al_68, al_69, al_70, al_71, al_72, al_73, al_74, al_75, al_76, al_77, al_78, al_79, al_80]; exact vin (by omega) (by decide))), _, _, c_max (d + 3) _ _ _, σ2, hc2, ?_⟩
      simp (disch := omega) only [nc, k1, k2]
      refine ⟨σ3, hc3, ?_, fin _ _ _ (hf2.tr hf3) hN3⟩
      rw [hN3.1]
      rfl
    · have q3 : nS B.1 j = nE B.1 j := by
        rcases Decidable.em (nS B.1 j = nE B.1 j) with z | z
        · exact z
        · rw [if_neg z] at q2
          exact absurd rfl q2
      obtain ⟨σt, ht, hRt, hkt⟩ := c_tell (d + 3) h (-1000004)
      rw [if_pos q3]
      exact ⟨_, σt, ht, rfl, hRt, hkt⟩
  · obtain ⟨σt, ht, hRt, hkt⟩ := c_tell (d + 3) h (-1000001)
    rw [sMelt, if_pos q]
    exact ⟨_, σt, ht, rfl, hRt, hkt⟩
theorem y_melt (d : Nat) {σ : z_M} {B : zB} (h : RepD σ B) (hv : VB B) (r : Int32) : opD (d + 5) k_Md_melt [.ref 53, .int r] σ (sMelt r B) := by
  obtain ⟨P, R, G, eP, hP, eR, hR, eG, hG, hs⟩ := hv.1
  have ca := c_isRoad (d + 3) σ r
  rw [h.1.2.1] at ca
  refine z_metD ⟨rfl, z_go 80 [111] ⟨_, _, ca, fun q => ?_, fun q => ?_⟩⟩
  · rw [sMelt, if_neg q]
    rw [eR] at q
    obtain ⟨j, hj, rfl⟩ := hasP_ne (by omega) q
    obtain ⟨j1, j2, -, -⟩ := h.1.2.2.2 j (by omega)
    rw [nc (by omega)]
    refine ⟨by (first | exact vin (by simp only [al_2, al_3, al_4, al_5, al_7, al_11, al_12, al_13, al_15, al_16, al_17, al_19, al_20, al_21, al_22, al_23, al_24, al_25, al_26, al_28, al_30, al_31, al_32, al_33, al_34, al_36, al_41, al_42, al_43, al_44, al_49, al_50, al_51, al_52, al_54, al_55, al_56, al_57, al_58, al_59, al_60, al_61, al_62, al_63, al_64, al_65, al_66, al_67, al_68, al_69, al_70, al_71, al_72, al_73, al_74, al_75, al_76, al_77, al_78, al_79, al_80]; omega) (by simp only [al_2, al_3, al_4, al_5, al_7, al_11, al_12, al_13, al_15, al_16, al_17, al_19, al_20, al_21, al_22, al_23, al_24, al_25, al_26, al_28, al_30, al_31, al_32, al_33, al_34, al_36, al_41, al_42, al_43, al_44, al_49, al_50, al_51, al_52, al_54, al_55, al_56, al_57, al_58, al_59, al_60, al_61, al_62, al_63, al_64, al_65, al_66, al_67, al_68, al_69, al_70, al_71, al_72, al_73, al_74, al_75, al_76, al_77, al_78, al_79, al_80]; decide) | (simp (disch := omega) only [nL, nI_add, pk_mul, nc, Nat.zero_add, al_2, al_3, al_4, al_5, al_7, al_11, al_12, al_13, al_15, al_16, al_17, al_19, al_20, al_21, al_22, al_23, al_24, al_25, al_26, al_28, al_30, al_31, al_32, al_33, al_34, al_36, al_41, al_42, al_43, al_44, al_49, al_50, al_51, al_52, al_54, al_55, al_56, al_57, al_58, al_59, al_60, al_61, al_62, al_63, al_64, al_65, al_66, al_67, al_68, al_69, al_70, al_71, al_72, al_73, al_74, al_75, al_76, al_77, al_78, al_79, al_80]; exact vin (by omega) (by decide))), by (first | exact vin (by simp only [al_2, al_3, al_4, al_5, al_7, al_11, al_12, al_13, al_15, al_16, al_17, al_19, al_20, al_21, al_22, al_23, al_24, al_25, al_26, al_28, al_30, al_31, al_32, al_33, al_34, al_36, al_41, al_42, al_43, al_44, al_49, al_50, al_51, al_52, al_54, al_55, al_56, al_57, al_58, al_59, al_60, al_61, al_62, al_63, al_64, al_65, al_66, al_67, al_68, al_69, al_70, al_71, al_72, al_73, al_74, al_75, al_76, al_77, al_78, al_79, al_80]; omega) (by simp only [al_2, al_3, al_4, al_5, al_7, al_11, al_12, al_13, al_15, al_16, al_17, al_19, al_20, al_21, al_22, al_23, al_24, al_25, al_26, al_28, al_30, al_31, al_32, al_33, al_34, al_36, al_41, al_42, al_43, al_44, al_49, al_50, al_51, al_52, al_54, al_55, al_56, al_57, al_58, al_59, al_60, al_61, al_62, al_63, al_64, al_65, al_66, al_67, al_68, al_69, al_70, al_71, al_72, al_73, al_74, al_75, al_76, al_77, al_78, al_79, al_80]; decide) | (simp (disch := omega) only [nL, nI_add, pk_mul, nc, Nat.zero_add, al_2, al_3, al_4, al_5, al_7, al_11, al_12, al_13, al_15, al_16, al_17, al_19, al_20, al_21, al_22, al_23, al_24, al_25, al_26, al_28, al_30, al_31, al_32, al_33, al_34, al_36, al_41, al_42, al_43, al_44, al_49, al_50, al_51, al_52, al_54, al_55, al_56, al_57, al_58, al_59, al_60, al_61, al_62, al_63, al_64, al_65, al_66, al_67, al_68, al_69, al_70, al_71, al_72, al_73, al_74, al_75, al_76, al_77, al_78, al_79, al_80]; exact vin (by omega) (by decide))), fun q2 => ?_, fun q2 => ?_⟩
    · rw [nc (by omega), j1, j2] at q2
      rw [if_neg q2]
      obtain ⟨σ1, hc, hN1, -, hk, -, fin⟩ := c_keepB (d + 2) h
      obtain ⟨k1, k2, -, -⟩ := hN1.2.2.2 j (by omega)
      obtain ⟨σ2, hc2, hf2, hkk2, hN2⟩ := c_remove (d + 3) hN1 eR hR hj
      have eR2 : nR (dropN B.1 j) = nI (R - 1) := by
        show nR B.1 - 1 = _
        rw [eR]
        exact pk_sub1 (by omega)
      have eg : gR (dropN B.1 j) = R - 1 := by unfold gR; rw [eR2, nc (by omega)]
      have loop : ∀ (lo hi : Int32) (n i : Nat) (σi : z_M), i + n = R - 1 → fr [54, 55] σ2 σi → (∀ k, k < 10 → σi.1 54 k = melF (nS (dropN B.1 j)) lo hi i k ∧ σi.1 55 k = melF (nE (dropN B.1 j)) lo hi i k) →
          z_wp (z_call (d + 4)) none k_Md_melt (pD σ (oAct (nP B.1 - 1) (uniN (dropN B.1 j) lo hi) B)) 111 [some (.ref 53), some (.int (nI j)), some (.int lo), some (.int hi), some (.int (nI i))] [] σi := by
        intro lo hi n
        induction n with
        | zero =>
          intro i σi hi2 hf hk
          have e11 : σi.1 53 1 = nI (R - 1) := by rw [hf.at (by decide), hN2.2.1, eR2]
          refine z_go 60 [111] ⟨fun q => ?_, fun q => ?_⟩
          · refine ⟨?_, fin _ _ _ (hf2.tr (fr.wr (hf.wk _ (by decide)) (by decide))) (fun k hk => by rw [wr_k (by omega), hf.at (by decide)]; exact hkk2 k hk) ⟨?_, ?_, ?_, fun k hk2 => ?_⟩⟩
            · rw [wr_s, hf.at (by decide), hN2.1]
              rfl
            · rw [wr_s, hf.at (by decide), hN2.1]
              rfl
            · rw [wr_k (by decide), hf.at (by decide), hN2.2.1]
              rfl
            · rw [wr_k (by decide), hf.at (by decide), hN2.2.2.1]
              rfl
            · obtain ⟨b1, b2⟩ := hk k hk2
              obtain ⟨-, -, b3, b4⟩ := hN2.2.2.2 k hk2
              obtain rfl : i = R - 1 := by omega
              simp (disch := omega) only [wr_c, b1, b2, hf.at (show 56 ∉ [54, 55] by decide), hf.at (show 57 ∉ [54, 55] by decide), b3, b4]
              simp only [uniN, nS, nE, nD, nV, eg]
              exact ⟨trivial, trivial, trivial, trivial⟩
          · rw [e11, n_le (by omega) (by omega)] at q
            omega
        | succ n ih =>
          intro i σi hi2 hf hk
          have e11 : σi.1 53 1 = nI (R - 1) := by rw [hf.at (by decide), hN2.2.1, eR2]
          obtain ⟨c1, c2⟩ := hk i (by omega)
          refine z_go 60 [111] ⟨fun q => ?_, fun q => ⟨by (first | exact vin (by simp only [al_2, al_3, al_4, al_5, al_7, al_11, al_12, al_13, al_15, al_16, al_17, al_19, al_20, al_21, al_22, al_23, al_24, al_25, al_26, al_28, al_30, al_31, al_32, al_33, al_34, al_36, al_41, al_42, al_43, al_44, al_49, al_50, al_51, al_52, al_54, al_55, al_56, al_57, al_58, al_59, al_60, al_61, al_62, al_63, al_64, al_65, al_66, al_67, al_68, al_69, al_70, al_71, al_72, al_73, al_74, al_75, al_76, al_77, al_78, al_79, al_80]; omega) (by simp only [al_2, al_3, al_4, al_5, al_7, al_11, al_12, al_13, al_15, al_16, al_17, al_19, al_20, al_21, al_22, al_23, al_24, al_25, al_26, al_28, al_30, al_31, al_32, al_33, al_34, al_36, al_41, al_42, al_43, al_44, al_49, al_50, al_51, al_52, al_54, al_55, al_56, al_57, al_58, al_59, al_60, al_61, al_62, al_63, al_64, al_65, al_66, al_67, al_68, al_69, al_70, al_71, al_72, al_73, al_74, al_75, al_76, al_77, al_78, al_79, al_80]; decide) | (simp (disch := omega) only [nL, nI_add, pk_mul, nc, Nat.zero_add, al_2, al_3, al_4, al_5, al_7, al_11, al_12, al_13, al_15, al_16, al_17, al_19, al_20, al_21, al_22, al_23, al_24, al_25, al_26, al_28, al_30, al_31, al_32, al_33, al_34, al_36, al_41, al_42, al_43, al_44, al_49, al_50, al_51, al_52, al_54, al_55, al_56, al_57, al_58, al_59, al_60, al_61, al_62, al_63, al_64, al_65, al_66, al_67, al_68, al_69, al_70, al_71, al_72, al_73, al_74, al_75, al_76, al_77, al_78, al_79, al_80]; exact vin (by omega) (by decide))), _, _, c_melted (d + 3) _ _ _ _, by (first | exact vin (by simp only [al_2, al_3, al_4, al_5, al_7, al_11, al_12, al_13, al_15, al_16, al_17, al_19, al_20, al_21, al_22, al_23, al_24, al_25, al_26, al_28, al_30, al_31, al_32, al_33, al_34, al_36, al_41, al_42, al_43, al_44, al_49, al_50, al_51, al_52, al_54, al_55, al_56, al_57, al_58, al_59, al_60, al_61, al_62, al_63, al_64, al_65, al_66, al_67, al_68, al_69, al_70, al_71, al_72, al_73, al_74, al_75, al_76, al_77, al_78, al_79, al_80]; omega) (by simp only [al_2, al_3, al_4, al_5, al_7, al_11, al_12, al_13, al_15, al_16, al_17, al_19, al_20, al_21, al_22, al_23, al_24, al_25, al_26, al_28, al_30, al_31, al_32, al_33, al_34, al_36, al_41, al_42, al_43, al_44, al_49, al_50, al_51, al_52, al_54, al_55, al_56, al_57, al_58, al_59, al_60, al_61, al_62, al_63, al_64, al_65, al_66, al_67, al_68, al_69, al_70, al_71, al_72, al_73, al_74, al_75, al_76, al_77, al_78, al_79, al_80]; decide) | (simp (disch := omega) only [nL, nI_add, pk_mul, nc, Nat.zero_add, al_2, al_3, al_4, al_5, al_7, al_11, al_12, al_13, al_15, al_16, al_17, al_19, al_20, al_21, al_22, al_23, al_24, al_25, al_26, al_28, al_30, al_31, al_32, al_33, al_34, al_36, al_41, al_42, al_43, al_44, al_49, al_50, al_51, al_52, al_54, al_55, al_56, al_57, al_58, al_59, al_60, al_61, al_62, al_63, al_64, al_65, al_66, al_67, al_68, al_69, al_70, al_71, al_72, al_73, al_74, al_75, al_76, al_77, al_78, al_79, al_80]; exact vin (by omega) (by decide))), by (first | exact vin (by simp only [al_2, al_3, al_4, al_5, al_7, al_11, al_12, al_13, al_15, al_16, al_17, al_19, al_20, al_21, al_22, al_23, al_24, al_25, al_26, al_28, al_30, al_31, al_32, al_33, al_34, al_36, al_41, al_42, al_43, al_44, al_49, al_50, al_51, al_52, al_54, al_55, al_56, al_57, al_58, al_59, al_60, al_61, al_62, al_63, al_64, al_65, al_66, al_67, al_68, al_69, al_70, al_71, al_72, al_73, al_74, al_75, al_76, al_77, al_78, al_79, al_80]; omega) (by simp only [al_2, al_3, al_4, al_5, al_7, al_11, al_12, al_13, al_15, al_16, al_17, al_19, al_20, al_21, al_22, al_23, al_24, al_25, al_26, al_28, al_30, al_31, al_32, al_33, al_34, al_36, al_41, al_42, al_43, al_44, al_49, al_50, al_51, al_52, al_54, al_55, al_56, al_57, al_58, al_59, al_60, al_61, al_62, al_63, al_64, al_65, al_66, al_67, al_68, al_69, al_70, al_71, al_72, al_73, al_74, al_75, al_76, al_77, al_78, al_79, al_80]; decide) | (simp (disch := omega) only [nL, nI_add, pk_mul, nc, Nat.zero_add, al_2, al_3, al_4, al_5, al_7, al_11, al_12, al_13, al_15, al_16, al_17, al_19, al_20, al_21, al_22, al_23, al_24, al_25, al_26, al_28, al_30, al_31, al_32, al_33, al_34, al_36, al_41, al_42, al_43, al_44, al_49, al_50, al_51, al_52, al_54, al_55, al_56, al_57, al_58, al_59, al_60, al_61, al_62, al_63, al_64, al_65, al_66, al_67, al_68, al_69, al_70, al_71, al_72, al_73, al_74, al_75, al_76, al_77, al_78, al_79, al_80]; exact vin (by omega) (by decide))), _, _, c_melted (d + 3) _ _ _ _, by (first | exact vin (by simp only [al_2, al_3, al_4, al_5, al_7, al_11, al_12, al_13, al_15, al_16, al_17, al_19, al_20, al_21, al_22, al_23, al_24, al_25, al_26, al_28, al_30, al_31, al_32, al_33, al_34, al_36, al_41, al_42, al_43, al_44, al_49, al_50, al_51, al_52, al_54, al_55, al_56, al_57, al_58, al_59, al_60, al_61, al_62, al_63, al_64, al_65, al_66, al_67, al_68, al_69, al_70, al_71, al_72, al_73, al_74, al_75, al_76, al_77, al_78, al_79, al_80]; omega) (by simp only [al_2, al_3, al_4, al_5, al_7, al_11, al_12, al_13, al_15, al_16, al_17, al_19, al_20, al_21, al_22, al_23, al_24, al_25, al_26, al_28, al_30, al_31, al_32, al_33, al_34, al_36, al_41, al_42, al_43, al_44, al_49, al_50, al_51, al_52, al_54, al_55, al_56, al_57, al_58, al_59, al_60, al_61, al_62, al_63, al_64, al_65, al_66, al_67, al_68, al_69, al_70, al_71, al_72, al_73, al_74, al_75, al_76, al_77, al_78, al_79, al_80]; decide) | (simp (disch := omega) only [nL, nI_add, pk_mul, nc, Nat.zero_add, al_2, al_3, al_4, al_5, al_7, al_11, al_12, al_13, al_15, al_16, al_17, al_19, al_20, al_21, al_22, al_23, al_24, al_25, al_26, al_28, al_30, al_31, al_32, al_33, al_34, al_36, al_41, al_42, al_43, al_44, al_49, al_50, al_51, al_52, al_54, al_55, al_56, al_57, al_58, al_59, al_60, al_61, al_62, al_63, al_64, al_65, al_66, al_67, al_68, al_69, al_70, al_71, al_72, al_73, al_74, al_75, al_76, al_77, al_78, al_79, al_80]; exact vin (by omega) (by decide))), ?_⟩⟩
          · rw [e11, n_le (by omega) (by omega)] at q
            omega
          · show z_wp _ _ _ _ 111 _ _ _
            simp (disch := omega) only [nL, nI_add, nc, wr_c, c1, c2]
            refine ih (i + 1) _ (by omega) (fr.wr (fr.wr hf (by decide)) (by decide)) (fun k hk2 => ?_)
            obtain ⟨b1, b2⟩ := hk k hk2
            by_cases e : k = i
            · subst e
              simp (disch := omega) only [wr_s, wr_c, melF, Nat.lt_irrefl, if_false, Nat.lt_succ_self, if_true]
              exact ⟨trivial, trivial⟩
            · simp (disch := omega) only [wr_k, wr_c, b1, b2, melF]
              have ee : (k < i) = (k < i + 1) := propext (by omega)
              simp only [ee]
              exact ⟨trivial, trivial⟩
      have start : ∀ (lo hi : Int32), lo = imin (nS B.1 j) (nE B.1 j) → hi = imax (nS B.1 j) (nE B.1 j) → z_wp (z_call (d + 4)) none k_Md_melt (pD σ (oAct (nP B.1 - 1) (uniN (dropN B.1 j) (imin (nS B.1 j) (nE B.1 j)) (imax (nS B.1 j) (nE B.1 j))) B)) 111 [some (.ref 53), some (.int (nI j)), some (.int lo), some (.int hi), some (.int 0)] [] σ2 := by
        rintro lo hi rfl rfl
        exact loop _ _ (R - 1) 0 σ2 (by omega) fr.rf (fun k hk => by
          simp only [melF, Nat.not_lt_zero, if_false]
          exact ⟨(hN2.2.2.2 k hk).1, (hN2.2.2.2 k hk).2.1⟩)
      refine ⟨σ1, hc, by (first | exact vin (by simp only [al_2, al_3, al_4, al_5, al_7, al_11, al_12, al_13, al_15, al_16, al_17, al_19, al_20, al_21, al_22, al_23, al_24, al_25, al_26, al_28, al_30, al_31, al_32, al_33, al_34, al_36, al_41, al_42, al_43, al_44, al_49, al_50, al_51, al_52, al_54, al_55, al_56, al_57, al_58, al_59, al_60, al_61, al_62, al_63, al_64, al_65, al_66, al_67, al_68, al_69, al_70, al_71, al_72, al_73, al_74, al_75, al_76, al_77, al_78, al_79, al_80]; omega) (by simp only [al_2, al_3, al_4, al_5, al_7, al_11, al_12, al_13, al_15, al_16, al_17, al_19, al_20, al_21, al_22, al_23, al_24, al_25, al_26, al_28, al_30, al_31, al_32, al_33, al_34, al_36, al_41, al_42, al_43, al_44, al_49, al_50, al_51, al_52, al_54, al_55, al_56, al_57, al_58, al_59, al_60, al_61, al_62, al_63, al_64, al_65, al_66, al_67, al_68, al_69, al_70, al_71, al_72, al_73, al_74, al_75, al_76, al_77, al_78, al_79, al_80]; decide) | (simp (disch := omega) only [nL, nI_add, pk_mul, nc, Nat.zero_add, al_2, al_3, al_4, al_5, al_7, al_11, al_12, al_13, al_15, al_16, al_17, al_19, al_20, al_21, al_22, al_23, al_24, al_25, al_26, al_28, al_30, al_31, al_32, al_33, al_34, al_36, al_41, al_42, al_43, al_44, al_49, al_50, al_51, al_52, al_54, al_55, al_56, al_57, al_58, al_59, al_60, al_61, al_62, al_63, al_64, al_65, al_66, al_67, al_68, al_69, al_70, al_71, al_72, al_73, al_74, al_75, al_76, al_77, al_78, al_79, al_80]; exact vin (by omega) (by decide))), by (first | exact vin (by simp only [al_2, al_3, al_4, al_5, al_7, al_11, al_12, al_13, al_15, al_16, al_17, al_19, al_20, al_21, al_22, al_23, al_24, al_25, al_26, al_28, al_30, al_31, al_32, al_33, al_34, al_36, al_41, al_42, al_43, al_44, al_49, al_50, al_51, al_52, al_54, al_55, al_56, al_57, al_58, al_59, al_60, al_61, al_62, al_63, al_64, al_65, al_66, al_67, al_68, al_69, al_70, al_71, al_72, al_73, al_74, al_75, al_76, al_77, al_78, al_79, al_80]; omega) (by simp only [al_2, al_3, al_4, al_5, al_7, al_11, al_12, al_13, al_15, al_16, al_17, al_19, al_20, al_21, al_22, al_23, al_24, al_25, al_26, al_28, al_30, al_31, al_32, al_33, al_34, al_36, al_41, al_42, al_43, al_44, al_49, al_50, al_51, al_52, al_54, al_55, al_56, al_57, al_58, al_59, al_60, al_61, al_62, al_63, al_64, al_65, al_66, al_67, al_68, al_69, al_70, al_71, al_72, al_73, al_74, al_75, al_76, al_77, al_78, al_79, al_80]; decide) | (simp (disch := omega) only [nL, nI_add, pk_mul, nc, Nat.zero_add, al_2, al_3, al_4, al_5, al_7, al_11, al_12, al_13, al_15, al_16, al_17, al_19, al_20, al_21, al_22, al_23, al_24, al_25, al_26, al_28, al_30, al_31, al_32, al_33, al_34, al_36, al_41, al_42, al_43, al_44, al_49, al_50, al_51, al_52, al_54, al_55, al_56, al_57, al_58, al_59, al_60, al_61, al_62, al_63, al_64, al_65, al_66, al_67, al_68, al_69, al_70, al_71, al_72, al_73, al_74, al_75, al_76, al_77, al_78, al_79, al_80]; exact vin (by omega) (by decide))), fun q3 => ⟨by (first | exact vin (by simp only [al_2, al_3, al_4, al_5, al_7, al_11, al_12, al_13, al_15, al_16, al_17, al_19, al_20, al_21, al_22, al_23, al_24, al_25, al_26, al_28, al_30, al_31, al_32, al_33, al_34, al_36, al_41, al_42, al_43, al_44, al_49, al_50, al_51, al_52, al_54, al_55, al_56, al_57, al_58, al_59, al_60, al_61, al_62, al_63, al_64, al_65, al_66, al_67, al_68, al_69, al_70, al_71, al_72, al_73, al_74, al_75, al_76, al_77, al_78, al_79, al_80]; omega) (by simp only [al_2, al_3, al_4, al_5, al_7, al_11, al_12, al_13, al_15, al_16, al_17, al_19, al_20, al_21, al_22, al_23, al_24, al_25, al_26, al_28, al_30, al_31, al_32, al_33, al_34, al_36, al_41, al_42, al_43, al_44, al_49, al_50, al_51, al_52, al_54, al_55, al_56, al_57, al_58, al_59, al_60, al_61, al_62, al_63, al_64, al_65, al_66, al_67, al_68, al_69, al_70, al_71, al_72, al_73, al_74, al_75, al_76, al_77, al_78, al_79, al_80]; decide) | (simp (disch := omega) only [nL, nI_add, pk_mul, nc, Nat.zero_add, al_2, al_3, al_4, al_5, al_7, al_11, al_12, al_13, al_15, al_16, al_17, al_19, al_20, al_21, al_22, al_23, al_24, al_25, al_26, al_28, al_30, al_31, al_32, al_33, al_34, al_36, al_41, al_42, al_43, al_44, al_49, al_50, al_51, al_52, al_54, al_55, al_56, al_57, al_58, al_59, al_60, al_61, al_62, al_63, al_64, al_65, al_66, al_67, al_68, al_69, al_70, al_71, al_72, al_73, al_74, al_75, al_76, al_77, al_78, al_79, al_80]; exact vin (by omega) (by decide))), by (first | exact vin (by simp only [al_2, al_3, al_4, al_5, al_7, al_11, al_12, al_13, al_15, al_16, al_17, al_19, al_20, al_21, al_22, al_23, al_24, al_25, al_26, al_28, al_30, al_31, al_32, al_33, al_34, al_36, al_41, al_42, al_43, al_44, al_49, al_50, al_51, al_52, al_54, al_55, al_56, al_57, al_58, al_59, al_60, al_61, al_62, al_63, al_64, al_65, al_66, al_67, al_68, al_69, al_70, al_71, al_72, al_73, al_74, al_75, al_76, al_77, al_78, al_79, al_80]; omega) (by simp only [al_2, al_3, al_4, al_5, al_7, al_11, al_12, al_13, al_15, al_16, al_17, al_19, al_20, al_21, al_22, al_23, al_24, al_25, al_26, al_28, al_30, al_31, al_32, al_33, al_34, al_36, al_41, al_42, al_43, al_44, al_49, al_50, al_51, al_52, al_54, al_55, al_56, al_57, al_58, al_59, al_60, al_61, al_62, al_63, al_64, al_65, al_66, al_67, al_68, al_69, al_70, al_71, al_72, al_73, al_74, al_75, al_76, al_77, al_78, al_79, al_80]; decide) | (simp (disch := omega) only [nL, nI_add, pk_mul, nc, Nat.zero_add, al_2, al_3, al_4, al_5, al_7, al_11, al_12, al_13, al_15, al_16, al_17, al_19, al_20, al_21, al_22, al_23, al_24, al_25, al_26, al_28, al_30, al_31, al_32, al_33, al_34, al_36, al_41, al_42, al_43, al_44, al_49, al_50, al_51, al_52, al_54, al_55, al_56, al_57, al_58, al_59, al_60, al_61, al_62, al_63, al_64, al_65, al_66, al_67, al_68, al_69, al_70, al_71, al_72, al_73, al_74, al_75, al_76, al_77, al_78, al_79, al_80]; exact vin (by omega) (by decide))), by (first | exact vin (by simp only [al_2, al_3, al_4, al_5, al_7, al_11, al_12, al_13, al_15, al_16, al_17, al_19, al_20, al_21, al_22, al_23, al_24, al_25, al_26, al_28, al_30, al_31, al_32, al_33, al_34, al_36, al_41, al_42, al_43, al_44, al_49, al_50, al_51, al_52, al_54, al_55, al_56, al_57, al_58, al_59, al_60, al_61, al_62, al_63, al_64, al_65, al_66, al_67, al_68, al_69, al_70, al_71, al_72, al_73, al_74, al_75, al_76, al_77, al_78, al_79, al_80]; omega) (by simp only [al_2, al_3, al_4, al_5, al_7, al_11, al_12, al_13, al_15, al_16, al_17, al_19, al_20, al_21, al_22, al_23, al_24, al_25, al_26, al_28, al_30, al_31, al_32, al_33, al_34, al_36, al_41, al_42, al_43, al_44, al_49, al_50, al_51, al_52, al_54, al_55, al_56, al_57, al_58, al_59, al_60, al_61, al_62, al_63, al_64, al_65, al_66, al_67, al_68, al_69, al_70, al_71, al_72, al_73, al_74, al_75, al_76, al_77, al_78, al_79, al_80]; decide) | (simp (disch := omega) only [nL, nI_add, pk_mul, nc, Nat.zero_add, al_2, al_3, al_4, al_5, al_7, al_11, al_12, al_13, al_15, al_16, al_17, al_19, al_20, al_21, al_22, al_23, al_24, al_25, al_26, al_28, al_30, al_31, al_32, al_33, al_34, al_36, al_41, al_42, al_43, al_44, al_49, al_50, al_51, al_52, al_54, al_55, al_56, al_57, al_58, al_59, al_60, al_61, al_62, al_63, al_64, al_65, al_66, al_67, al_68, al_69, al_70, al_71, al_72, al_73, al_74, al_75, al_76, al_77, al_78, al_79, al_80]; exact vin (by omega) (by decide))), fun q4 => ⟨by (first | exact vin (by simp only [al_2, al_3, al_4, al_5, al_7, al_11, al_12, al_13, al_15, al_16, al_17, al_19, al_20, al_21, al_22, al_23, al_24, al_25, al_26, al_28, al_30, al_31, al_32, al_33, al_34, al_36, al_41, al_42, al_43, al_44, al_49, al_50, al_51, al_52, al_54, al_55, al_56, al_57, al_58, al_59, al_60, al_61, al_62, al_63, al_64, al_65, al_66, al_67, al_68, al_69, al_70, al_71, al_72, al_73, al_74, al_75, al_76, al_77, al_78, al_79, al_80]; omega) (by simp only [al_2, al_3, al_4, al_5, al_7, al_11, al_12, al_13, al_15, al_16, al_17, al_19, al_20, al_21, al_22, al_23, al_24, al_25, al_26, al_28, al_30, al_31, al_32, al_33, al_34, al_36, al_41, al_42, al_43, al_44, al_49, al_50, al_51, al_52, al_54, al_55, al_56, al_57, al_58, al_59, al_60, al_61, al_62, al_63, al_64, al_65, al_66, al_67, al_68, al_69, al_70, al_71, al_72, al_73, al_74, al_75, al_76, al_77, al_78, al_79, al_80]; decide) | (simp (disch := omega) only [nL, nI_add, pk_mul, nc, Nat.zero_add, al_2, al_3, al_4, al_5, al_7, al_11, al_12, al_13, al_15, al_16, al_17, al_19, al_20, al_21, al_22, al_23, al_24, al_25, al_26, al_28, al_30, al_31, al_32, al_33, al_34, al_36, al_41, al_42, al_43, al_44, al_49, al_50, al_51, al_52, al_54, al_55, al_56, al_57, al_58, al_59, al_60, al_61, al_62, al_63, al_64, al_65, al_66, al_67, al_68, al_69, al_70, al_71, al_72, al_73, al_74, al_75, al_76, al_77, al_78, al_79, al_80]; exact vin (by omega) (by decide))), σ2, hc2, ?_⟩, fun q4 => absurd q3 q4⟩, fun q3 => ⟨by (first | exact vin (by simp only [al_2, al_3, al_4, al_5, al_7, al_11, al_12, al_13, al_15, al_16, al_17, al_19, al_20, al_21, al_22, al_23, al_24, al_25, al_26, al_28, al_30, al_31, al_32, al_33, al_34, al_36, al_41, al_42, al_43, al_44, al_49, al_50, al_51, al_52, al_54, al_55, al_56, al_57, al_58, al_59, al_60, al_61, al_62, al_63, al_64, al_65, al_66, al_67, al_68, al_69, al_70, al_71, al_72, al_73, al_74, al_75, al_76, al_77, al_78, al_79, al_80]; omega) (by simp only [al_2, al_3, al_4, al_5, al_7, al_11, al_12, al_13, al_15, al_16, al_17, al_19, al_20, al_21, al_22, al_23, al_24, al_25, al_26, al_28, al_30, al_31, al_32, al_33, al_34, al_36, al_41, al_42, al_43, al_44, al_49, al_50, al_51, al_52, al_54, al_55, al_56, al_57, al_58, al_59, al_60, al_61, al_62, al_63, al_64, al_65, al_66, al_67, al_68, al_69, al_70, al_71, al_72, al_73, al_74, al_75, al_76, al_77, al_78, al_79, al_80]; decide) | (simp (disch := omega) only [nL, nI_add, pk_mul, nc, Nat.zero_add, al_2, al_3, al_4, al_5, al_7, al_11, al_12, al_13, al_15, al_16, al_17, al_19, al_20, al_21, al_22, al_23, al_24, al_25, al_26, al_28, al_30, al_31, al_32, al_33, al_34, al_36, al_41, al_42, al_43, al_44, al_49, al_50, al_51, al_52, al_54, al_55, al_56, al_57, al_58, al_59, al_60, al_61, al_62, al_63, al_64, al_65, al_66, al_67, al_68, al_69, al_70, al_71, al_72, al_73, al_74, al_75, al_76, al_77, al_78, al_79, al_80]; exact vin (by omega) (by decide))), by (first | exact vin (by simp only [al_2, al_3, al_4, al_5, al_7, al_11, al_12, al_13, al_15, al_16, al_17, al_19, al_20, al_21, al_22, al_23, al_24, al_25, al_26, al_28, al_30, al_31, al_32, al_33, al_34, al_36, al_41, al_42, al_43, al_44, al_49, al_50, al_51, al_52, al_54, al_55, al_56, al_57, al_58, al_59, al_60, al_61, al_62, al_63, al_64, al_65, al_66, al_67, al_68, al_69, al_70, al_71, al_72, al_73, al_74, al_75, al_76, al_77, al_78, al_79, al_80]; omega) (by simp only [al_2, al_3, al_4, al_5, al_7, al_11, al_12, al_13, al_15, al_16, al_17, al_19, al_20, al_21, al_22, al_23, al_24, al_25, al_26, al_28, al_30, al_31, al_32, al_33, al_34, al_36, al_41, al_42, al_43, al_44, al_49, al_50, al_51, al_52, al_54, al_55, al_56, al_57, al_58, al_59, al_60, al_61, al_62, al_63, al_64, al_65, al_66, al_67, al_68, al_69, al_70, al_71, al_72, al_73, al_74, al_75, al_76, al_77, al_78, al_79, al_80]; decide) | (simp (disch := omega) only [nL, nI_add, pk_mul, nc, Nat.zero_add, al_2, al_3, al_4, al_5, al_7, al_11, al_12, al_13, al_15, al_16, al_17, al_19, al_20, al_21, al_22, al_23, al_24, al_25, al_26, al_28, al_30, al_31, al_32, al_33, al_34, al_36, al_41, al_42, al_43, al_44, al_49, al_50, al_51, al_52, al_54, al_55, al_56, al_57, al_58, al_59, al_60, al_61, al_62, al_63, al_64, al_65, al_66, al_67, al_68, al_69, al_70, al_71, al_72, al_73, al_74, al_75, al_76, al_77, al_78, al_79, al_80]; exact vin (by omega) (by decide))), by (first | exact vin (by simp only [al_2, al_3, al_4, al_5, al_7, al_11, al_12, al_13, al_15, al_16, al_17, al_19, al_20, al_21, al_22, al_23, al_24, al_25, al_26, al_28, al_30, al_31, al_32, al_33, al_34, al_36, al_41, al_42, al_43, al_44, al_49, al_50, al_51, al_52, al_54, al_55, al_56, al_57, al_58, al_59, al_60, al_61, al_62, al_63, al_64, al_65, al_66, al_67, al_68, al_69, al_70, al_71, al_72, al_73, al_74, al_75, al_76, al_77, al_78, al_79, al_80]; omega) (by simp only [al_2, al_3, al_4, al_5, al_7, al_11, al_12, al_13, al_15, al_16, al_17, al_19, al_20, al_21, al_22, al_23, al_24, al_25, al_26, al_28, al_30, al_31, al_32, al_33, al_34, al_36, al_41, al_42, al_43, al_44, al_49, al_50, al_51, al_52, al_54, al_55, al_56, al_57, al_58, al_59, al_60, al_61, al_62, al_63, al_64, al_65, al_66, al_67, al_68, al_69, al_70, al_71, al_72, al_73, al_74, al_75, al_76, al_77, al_78, al_79, al_80]; decide) | (simp (disch := omega) only [nL, nI_add, pk_mul, nc, Nat.zero_add, al_2, al_3, al_4, al_5, al_7, al_11, al_12, al_13, al_15, al_16, al_17, al_19, al_20, al_21, al_22, al_23, al_24, al_25, al_26, al_28, al_30, al_31, al_32, al_33, al_34, al_36, al_41, al_42, al_43, al_44, al_49, al_50, al_51, al_52, al_54, al_55, al_56, al_57, al_58, al_59, al_60, al_61, al_62, al_63, al_64, al_65, al_66, al_67, al_68, al_69, al_70, al_71, al_72, al_73, al_74, al_75, al_76, al_77, al_78, al_79, al_80]; exact vin (by omega) (by decide))), fun q4 => absurd q4 q3, fun q4 => ⟨by (first | exact vin (by simp only [al_2, al_3, al_4, al_5, al_7, al_11, al_12, al_13, al_15, al_16, al_17, al_19, al_20, al_21, al_22, al_23, al_24, al_25, al_26, al_28, al_30, al_31, al_32, al_33, al_34, al_36, al_41, al_42, al_43, al_44, al_49, al_50, al_51, al_52, al_54, al_55, al_56, al_57, al_58, al_59, al_60, al_61, al_62, al_63, al_64, al_65, al_66, al_67, al_68, al_69, al_70, al_71, al_72, al_73, al_74, al_75, al_76, al_77, al_78, al_79, al_80]; omega) (by simp only [al_2, al_3, al_4, al_5, al_7, al_11, al_12, al_13, al_15, al_16, al_17, al_19, al_20, al_21, al_22, al_23, al_24, al_25, al_26, al_28, al_30, al_31, al_32, al_33, al_34, al_36, al_41, al_42, al_43, al_44, al_49, al_50, al_51, al_52, al_54, al_55, al_56, al_57, al_58, al_59, al_60, al_61, al_62, al_63, al_64, al_65, al_66, al_67, al_68, al_69, al_70, al_71, al_72, al_73, al_74, al_75, al_76, al_77, al_78, al_79, al_80]; decide) | (simp (disch := omega) only [nL, nI_add, pk_mul, nc, Nat.zero_add, al_2, al_3, al_4, al_5, al_7, al_11, al_12, al_13, al_15, al_16, al_17, al_19, al_20, al_21, al_22, al_23, al_24, al_25, al_26, al_28, al_30, al_31, al_32, al_33, al_34, al_36, al_41, al_42, al_43, al_44, al_49, al_50, al_51, al_52, al_54, al_55, al_56, al_57, al_58, al_59, al_60, al_61, al_62, al_63, al_64, al_65, al_66, al_67, al_68, al_69, al_70, al_71, al_72, al_73, al_74, al_75, al_76, al_77, al_78, al_79, al_80]; exact vin (by omega) (by decide))), σ2, hc2, ?_⟩⟩⟩
      · rw [nc (by omega), k1, k2] at q3
        show z_wp _ _ _ _ 111 _ _ _
        simp (disch := omega) only [nc, k1, k2]
        refine start _ _ ?_ ?_
        · unfold imin
          split
          · rename_i z
            exact Int32.le_antisymm q3 z
          · rfl
        · unfold imax
          rw [if_pos q3]
      · rw [nc (by omega), k1, k2] at q3
        have q5 : nS B.1 j ≤ nE B.1 j := by
          rcases Int32.le_total (nS B.1 j) (nE B.1 j) with z | z
          · exact z
          · exact absurd z q3
        show z_wp _ _ _ _ 111 _ _ _
        simp (disch := omega) only [nc, k1, k2]
        refine start _ _ ?_ ?_
        · unfold imin
          rw [if_pos q5]
        · unfold imax
          rw [if_neg q3]
    · rw [nc (by omega), j1, j2] at q2
      obtain ⟨σt, ht, hRt, hkt⟩ := c_finding (d + 3) h (-1000004)
      rw [if_pos q2]
      exact ⟨_, σt, ht, rfl, hRt, hkt⟩
  · obtain ⟨σt, ht, hRt, hkt⟩ := c_finding (d + 3) h (-1000001)
    rw [sMelt, if_pos q]
    exact ⟨_, σt, ht, rfl, hRt, hkt⟩
theorem mel_n {p lo hi : Nat} (hp : p < 1000) (hl : lo < 1000) (hh : hi < 1000) (h0 : lo < hi) : mel (nI p) (nI lo) (nI hi) = nI (if p = hi then lo else if p ≤ hi then p else p - 1) := by
  unfold mel
  by_cases q : p = hi
  · rw [if_pos q, q, if_neg (fun z => z rfl)]
  · rw [if_neg q, if_pos (by rw [n_eq (by omega) (by omega)]; exact q)]
    by_cases q2 : p ≤ hi
    · rw [if_pos q2, if_pos (by rw [n_le (by omega) (by omega)]; exact q2)]
    · rw [if_neg q2, if_neg (by rw [n_le (by omega) (by omega)]; exact q2)]
      exact pk_sub1 (by omega)
theorem v_melt {B : zB} (h : VB B) (r : Int32) : VB (sMelt r B).2 := by
  unfold sMelt
  split
  · exact h.tell _
  · rename_i q
    split
    · exact h.tell _
    · rename_i q2
      obtain ⟨P, R, G, eP, hP, eR, hR, eG, hG, hi⟩ := id h.1
      rw [eR] at q
      obtain ⟨j, hj, rfl⟩ := hasP_ne (by omega) q
      rw [nc (by omega)] at q2 ⊢
      refine h.act _ ?_
      have egR : gR B.1 = R := by unfold gR; rw [eR, nc (by omega)]
      obtain ⟨P', R', G', eP', hP', eR', hR', eG', hG', hi'⟩ := NV_drop h.1 (j := j) (by omega)
      have ePP : P' = P := by
        have : nI P' = nI P := eP'.symm.trans eP
        rwa [n_eq (by omega) (by omega)] at this
      subst ePP
      have eg' : gR (dropN B.1 j) = R' := by unfold gR; rw [eR', nc (by omega)]
      obtain ⟨⟨a, ha, ea⟩, ⟨b, hb, eb⟩, -⟩ := hi j hj
      rw [ea, eb] at q2 ⊢
      rw [n_eq (by omega) (by omega)] at q2
      rw [imin_n (by omega) (by omega), imax_n (by omega) (by omega)]
      refine ⟨P' - 1, R', G', ?_, by omega, eR', hR', eG', hG', fun i hi2 => ?_⟩
      · show nP (dropN B.1 j) - 1 = _
        rw [eP']
        exact pk_sub1 (by omega)
      · obtain ⟨⟨a1, ha1, ea1⟩, ⟨b1, hb1, eb1⟩, hr⟩ := hi' i hi2
        refine ⟨⟨if a1 = max a b then min a b else if a1 ≤ max a b then a1 else a1 - 1, ?_, ?_⟩, ⟨if b1 = max a b then min a b else if b1 ≤ max a b then b1 else b1 - 1, ?_, ?_⟩, hr⟩
        · rcases Nat.le_total a b with z | z
          · rw [Nat.max_eq_right z, Nat.min_eq_left z]
            split
            · omega
            · split <;> omega
          · rw [Nat.max_eq_left z, Nat.min_eq_right z]
            split
            · omega
            · split <;> omega
        · show melF (nS (dropN B.1 j)) _ _ (gR (dropN B.1 j)) i = _
          rw [melF, eg', if_pos hi2, ea1, mel_n (by omega) (by omega) (by omega) (by omega)]
        · rcases Nat.le_total a b with z | z
          · rw [Nat.max_eq_right z, Nat.min_eq_left z]
            split
            · omega
            · split <;> omega
          · rw [Nat.max_eq_left z, Nat.min_eq_right z]
            split
            · omega
            · split <;> omega
        · show melF (nE (dropN B.1 j)) _ _ (gR (dropN B.1 j)) i = _
          rw [melF, eg', if_pos hi2, eb1, mel_n (by omega) (by omega) (by omega) (by omega)]
def sOf (r w : Int32) (B : zB) : Int32 × zB := if hasP (nR B.1) r = 0 then oTell (-1000001) B else if w = 0 then (nS B.1 r.toNatClampNeg, B) else if w = 1 then (nE B.1 r.toNatClampNeg, B) else if w = 2 then (nD B.1 r.toNatClampNeg, B) else if w = 3 then (bg (nG B.1) (nV B.1 r.toNatClampNeg), B) else oTell (-1000001) B
theorem x_of (d : Nat) {σ : z_M} {B : zB} (h : RepC σ B) (hv : VB B) (r w : Int32) : opC (d + 5) k_RF_of [.ref 0, .int r, .int w] σ (sOf r w B) := by
  obtain ⟨P, R, G, eP, hP, eR, hR, eG, hG, -⟩ := hv.1
  have ca := c_hasRoad (d + 3) σ r
  rw [h.1.2.1] at ca
  obtain ⟨σt, ht, hRt, hkt⟩ := c_tell (d + 3) h (-1000001)
  refine z_metC ⟨rfl, z_go 40 [] ⟨_, _, ca, fun q => ?_, fun q => ?_⟩⟩
  · rw [sOf, if_neg q]
    rw [eR] at q
    obtain ⟨j, hj, rfl⟩ := hasP_ne (by omega) q
    obtain ⟨j1, j2, j3, j4⟩ := h.1.2.2.2 j (by omega)
    rw [nc (by omega)]
    have cr := c_rest (d + 2) σ (h.1.2.2.1.trans eG) (by omega) (nV B.1 j)
    rw [h.1.2.2.1] at cr
    refine ⟨fun q2 => ⟨by (first | exact vin (by simp only [al_2, al_3, al_4, al_5, al_7, al_11, al_12, al_13, al_15, al_16, al_17, al_19, al_20, al_21, al_22, al_23, al_24, al_25, al_26, al_28, al_30, al_31, al_32, al_33, al_34, al_36, al_41, al_42, al_43, al_44, al_49, al_50, al_51, al_52, al_54, al_55, al_56, al_57, al_58, al_59, al_60, al_61, al_62, al_63, al_64, al_65, al_66, al_67, al_68, al_69, al_70, al_71, al_72, al_73, al_74, al_75, al_76, al_77, al_78, al_79, al_80]; omega) (by simp only [al_2, al_3, al_4, al_5, al_7, al_11, al_12, al_13, al_15, al_16, al_17, al_19, al_20, al_21, al_22, al_23, al_24, al_25, al_26, al_28, al_30, al_31, al_32, al_33, al_34, al_36, al_41, al_42, al_43, al_44, al_49, al_50, al_51, al_52, al_54, al_55, al_56, al_57, al_58, al_59, al_60, al_61, al_62, al_63, al_64, al_65, al_66, al_67, al_68, al_69, al_70, al_71, al_72, al_73, al_74, al_75, al_76, al_77, al_78, al_79, al_80]; decide) | (simp (disch := omega) only [nL, nI_add, pk_mul, nc, Nat.zero_add, al_2, al_3, al_4, al_5, al_7, al_11, al_12, al_13, al_15, al_16, al_17, al_19, al_20, al_21, al_22, al_23, al_24, al_25, al_26, al_28, al_30, al_31, al_32, al_33, al_34, al_36, al_41, al_42, al_43, al_44, al_49, al_50, al_51, al_52, al_54, al_55, al_56, al_57, al_58, al_59, al_60, al_61, al_62, al_63, al_64, al_65, al_66, al_67, al_68, al_69, al_70, al_71, al_72, al_73, al_74, al_75, al_76, al_77, al_78, al_79, al_80]; exact vin (by omega) (by decide))), ?_⟩, fun q2 => ⟨by (first | exact vin (by simp only [al_2, al_3, al_4, al_5, al_7, al_11, al_12, al_13, al_15, al_16, al_17, al_19, al_20, al_21, al_22, al_23, al_24, al_25, al_26, al_28, al_30, al_31, al_32, al_33, al_34, al_36, al_41, al_42, al_43, al_44, al_49, al_50, al_51, al_52, al_54, al_55, al_56, al_57, al_58, al_59, al_60, al_61, al_62, al_63, al_64, al_65, al_66, al_67, al_68, al_69, al_70, al_71, al_72, al_73, al_74, al_75, al_76, al_77, al_78, al_79, al_80]; omega) (by simp only [al_2, al_3, al_4, al_5, al_7, al_11, al_12, al_13, al_15, al_16, al_17, al_19, al_20, al_21, al_22, al_23, al_24, al_25, al_26, al_28, al_30, al_31, al_32, al_33, al_34, al_36, al_41, al_42, al_43, al_44, al_49, al_50, al_51, al_52, al_54, al_55, al_56, al_57, al_58, al_59, al_60, al_61, al_62, al_63, al_64, al_65, al_66, al_67, al_68, al_69, al_70, al_71, al_72, al_73, al_74, al_75, al_76, al_77, al_78, al_79, al_80]; decide) | (simp (disch := omega) only [nL, nI_add, pk_mul, nc, Nat.zero_add, al_2, al_3, al_4, al_5, al_7, al_11, al_12, al_13, al_15, al_16, al_17, al_19, al_20, al_21, al_22, al_23, al_24, al_25, al_26, al_28, al_30, al_31, al_32, al_33, al_34, al_36, al_41, al_42, al_43, al_44, al_49, al_50, al_51, al_52, al_54, al_55, al_56, al_57, al_58, al_59, al_60, al_61, al_62, al_63, al_64, al_65, al_66, al_67, al_68, al_69, al_70, al_71, al_72, al_73, al_74, al_75, al_76, al_77, al_78, al_79, al_80]; exact vin (by omega) (by decide))), ?_⟩, fun q2 => ⟨by (first | exact vin (by simp only [al_2, al_3, al_4, al_5, al_7, al_11, al_12, al_13, al_15, al_16, al_17, al_19, al_20, al_21, al_22, al_23, al_24, al_25, al_26, al_28, al_30, al_31, al_32, al_33, al_34, al_36, al_41, al_42, al_43, al_44, al_49, al_50, al_51, al_52, al_54, al_55, al_56, al_57, al_58, al_59, al_60, al_61, al_62, al_63, al_64, al_65, al_66, al_67, al_68, al_69, al_70, al_71, al_72, al_73, al_74, al_75, al_76, al_77, al_78, al_79, al_80]; omega) (by simp only [al_2, al_3, al_4, al_5, al_7, al_11, al_12, al_13, al_15, al_16, al_17, al_19, al_20, al_21, al_22, al_23, al_24, al_25, al_26, al_28, al_30, al_31, al_32, al_33, al_34, al_36, al_41, al_42, al_43, al_44, al_49, al_50, al_51, al_52, al_54, al_55, al_56, al_57, al_58, al_59, al_60, al_61, al_62, al_63, al_64, al_65, al_66, al_67, al_68, al_69, al_70, al_71, al_72, al_73, al_74, al_75, al_76, al_77, al_78, al_79, al_80]; decide) | (simp (disch := omega) only [nL, nI_add, pk_mul, nc, Nat.zero_add, al_2, al_3, al_4, al_5, al_7, al_11, al_12, al_13, al_15, al_16, al_17, al_19, al_20, al_21, al_22, al_23, al_24, al_25, al_26, al_28, al_30, al_31, al_32, al_33, al_34, al_36, al_41, al_42, al_43, al_44, al_49, al_50, al_51, al_52, al_54, al_55, al_56, al_57, al_58, al_59, al_60, al_61, al_62, al_63, al_64, al_65, al_66, al_67, al_68, al_69, al_70, al_71, al_72, al_73, al_74, al_75, al_76, al_77, al_78, al_79, al_80]; exact vin (by omega) (by decide))), ?_⟩, fun q2 => ⟨by (first | exact vin (by simp only [al_2, al_3, al_4, al_5, al_7, al_11, al_12, al_13, al_15, al_16, al_17, al_19, al_20, al_21, al_22, al_23, al_24, al_25, al_26, al_28, al_30, al_31, al_32, al_33, al_34, al_36, al_41, al_42, al_43, al_44, al_49, al_50, al_51, al_52, al_54, al_55, al_56, al_57, al_58, al_59, al_60, al_61, al_62, al_63, al_64, al_65, al_66, al_67, al_68, al_69, al_70, al_71, al_72, al_73, al_74, al_75, al_76, al_77, al_78, al_79, al_80]; omega) (by simp only [al_2, al_3, al_4, al_5, al_7, al_11, al_12, al_13, al_15, al_16, al_17, al_19, al_20, al_21, al_22, al_23, al_24, al_25, al_26, al_28, al_30, al_31, al_32, al_33, al_34, al_36, al_41, al_42, al_43, al_44, al_49, al_50, al_51, al_52, al_54, al_55, al_56, al_57, al_58, al_59, al_60, al_61, al_62, al_63, al_64, al_65, al_66, al_67, al_68, al_69, al_70, al_71, al_72, al_73, al_74, al_75, al_76, al_77, al_78, al_79, al_80]; decide) | (simp (disch := omega) only [nL, nI_add, pk_mul, nc, Nat.zero_add, al_2, al_3, al_4, al_5, al_7, al_11, al_12, al_13, al_15, al_16, al_17, al_19, al_20, al_21, al_22, al_23, al_24, al_25, al_26, al_28, al_30, al_31, al_32, al_33, al_34, al_36, al_41, al_42, al_43, al_44, al_49, al_50, al_51, al_52, al_54, al_55, al_56, al_57, al_58, al_59, al_60, al_61, al_62, al_63, al_64, al_65, al_66, al_67, al_68, al_69, al_70, al_71, al_72, al_73, al_74, al_75, al_76, al_77, al_78, al_79, al_80]; exact vin (by omega) (by decide))), ?_⟩, fun q2 => ?_⟩
    · rw [if_pos (show w = 0 from q2), nc (by omega), j1]
      exact ⟨rfl, h, kC.rf⟩
    · rw [q2, nc (by omega), j2]
      exact ⟨rfl, h, kC.rf⟩
    · rw [q2, nc (by omega), j3]
      exact ⟨rfl, h, kC.rf⟩
    · rw [q2, nc (by omega), j4]
      exact ⟨_, _, cr, rfl, h, kC.rf⟩
    · have hne : ∀ n : Nat, n < 4 → ¬ w = nI n := by
        intro n hn z
        subst z
        rcases q2 with z | z
        · exact n_nn (by omega) z
        · have z : nI 4 ≤ nI n := z
          rw [n_le (by omega) (by omega)] at z
          omega
      rw [if_neg (show ¬ w = 0 from hne 0 (by omega)), if_neg (show ¬ w = 1 from hne 1 (by omega)), if_neg (show ¬ w = 2 from hne 2 (by omega)), if_neg (show ¬ w = 3 from hne 3 (by omega))]
      exact ⟨_, σt, ht, rfl, hRt, hkt⟩
  · rw [sOf, if_pos q]
    exact ⟨_, σt, ht, rfl, hRt, hkt⟩
theorem y_of (d : Nat) {σ : z_M} {B : zB} (h : RepD σ B) (hv : VB B) (r w : Int32) : opD (d + 5) k_Md_of [.ref 53, .int r, .int w] σ (sOf r w B) := by
  obtain ⟨P, R, G, eP, hP, eR, hR, eG, hG, -⟩ := hv.1
  have ca := c_isRoad (d + 3) σ r
  rw [h.1.2.1] at ca
  obtain ⟨σt, ht, hRt, hkt⟩ := c_finding (d + 3) h (-1000001)
  refine z_metD ⟨rfl, z_go 40 [] ⟨_, _, ca, fun q => ?_, fun q => ?_⟩⟩
  · rw [sOf, if_pos q]
    exact ⟨_, σt, ht, rfl, hRt, hkt⟩
  · rw [sOf, if_neg q]
    rw [eR] at q
    obtain ⟨j, hj, rfl⟩ := hasP_ne (by omega) q
    obtain ⟨j1, j2, j3, j4⟩ := h.1.2.2.2 j (by omega)
    rw [nc (by omega)]
    have cr := c_byGroup (d + 3) σ (nV B.1 j)
    rw [h.1.2.2.1] at cr
    refine ⟨fun q2 => ?_, fun q2 => ⟨fun q3 => ⟨fun q4 => ⟨fun q5 => ⟨fun q6 => ⟨by (first | exact vin (by simp only [al_2, al_3, al_4, al_5, al_7, al_11, al_12, al_13, al_15, al_16, al_17, al_19, al_20, al_21, al_22, al_23, al_24, al_25, al_26, al_28, al_30, al_31, al_32, al_33, al_34, al_36, al_41, al_42, al_43, al_44, al_49, al_50, al_51, al_52, al_54, al_55, al_56, al_57, al_58, al_59, al_60, al_61, al_62, al_63, al_64, al_65, al_66, al_67, al_68, al_69, al_70, al_71, al_72, al_73, al_74, al_75, al_76, al_77, al_78, al_79, al_80]; omega) (by simp only [al_2, al_3, al_4, al_5, al_7, al_11, al_12, al_13, al_15, al_16, al_17, al_19, al_20, al_21, al_22, al_23, al_24, al_25, al_26, al_28, al_30, al_31, al_32, al_33, al_34, al_36, al_41, al_42, al_43, al_44, al_49, al_50, al_51, al_52, al_54, al_55, al_56, al_57, al_58, al_59, al_60, al_61, al_62, al_63, al_64, al_65, al_66, al_67, al_68, al_69, al_70, al_71, al_72, al_73, al_74, al_75, al_76, al_77, al_78, al_79, al_80]; decide) | (simp (disch := omega) only [nL, nI_add, pk_mul, nc, Nat.zero_add, al_2, al_3, al_4, al_5, al_7, al_11, al_12, al_13, al_15, al_16, al_17, al_19, al_20, al_21, al_22, al_23, al_24, al_25, al_26, al_28, al_30, al_31, al_32, al_33, al_34, al_36, al_41, al_42, al_43, al_44, al_49, al_50, al_51, al_52, al_54, al_55, al_56, al_57, al_58, al_59, al_60, al_61, al_62, al_63, al_64, al_65, al_66, al_67, al_68, al_69, al_70, al_71, al_72, al_73, al_74, al_75, al_76, al_77, al_78, al_79, al_80]; exact vin (by omega) (by decide))), ?_⟩, fun q6 => ⟨by (first | exact vin (by simp only [al_2, al_3, al_4, al_5, al_7, al_11, al_12, al_13, al_15, al_16, al_17, al_19, al_20, al_21, al_22, al_23, al_24, al_25, al_26, al_28, al_30, al_31, al_32, al_33, al_34, al_36, al_41, al_42, al_43, al_44, al_49, al_50, al_51, al_52, al_54, al_55, al_56, al_57, al_58, al_59, al_60, al_61, al_62, al_63, al_64, al_65, al_66, al_67, al_68, al_69, al_70, al_71, al_72, al_73, al_74, al_75, al_76, al_77, al_78, al_79, al_80]; omega) (by simp only [al_2, al_3, al_4, al_5, al_7, al_11, al_12, al_13, al_15, al_16, al_17, al_19, al_20, al_21, al_22, al_23, al_24, al_25, al_26, al_28, al_30, al_31, al_32, al_33, al_34, al_36, al_41, al_42, al_43, al_44, al_49, al_50, al_51, al_52, al_54, al_55, al_56, al_57, al_58, al_59, al_60, al_61, al_62, al_63, al_64, al_65, al_66, al_67, al_68, al_69, al_70, al_71, al_72, al_73, al_74, al_75, al_76, al_77, al_78, al_79, al_80]; decide) | (simp (disch := omega) only [nL, nI_add, pk_mul, nc, Nat.zero_add, al_2, al_3, al_4, al_5, al_7, al_11, al_12, al_13, al_15, al_16, al_17, al_19, al_20, al_21, al_22, al_23, al_24, al_25, al_26, al_28, al_30, al_31, al_32, al_33, al_34, al_36, al_41, al_42, al_43, al_44, al_49, al_50, al_51, al_52, al_54, al_55, al_56, al_57, al_58, al_59, al_60, al_61, al_62, al_63, al_64, al_65, al_66, al_67, al_68, al_69, al_70, al_71, al_72, al_73, al_74, al_75, al_76, al_77, al_78, al_79, al_80]; exact vin (by omega) (by decide))), ?_⟩⟩, fun q5 => ⟨by (first | exact vin (by simp only [al_2, al_3, al_4, al_5, al_7, al_11, al_12, al_13, al_15, al_16, al_17, al_19, al_20, al_21, al_22, al_23, al_24, al_25, al_26, al_28, al_30, al_31, al_32, al_33, al_34, al_36, al_41, al_42, al_43, al_44, al_49, al_50, al_51, al_52, al_54, al_55, al_56, al_57, al_58, al_59, al_60, al_61, al_62, al_63, al_64, al_65, al_66, al_67, al_68, al_69, al_70, al_71, al_72, al_73, al_74, al_75, al_76, al_77, al_78, al_79, al_80]; omega) (by simp only [al_2, al_3, al_4, al_5, al_7, al_11, al_12, al_13, al_15, al_16, al_17, al_19, al_20, al_21, al_22, al_23, al_24, al_25, al_26, al_28, al_30, al_31, al_32, al_33, al_34, al_36, al_41, al_42, al_43, al_44, al_49, al_50, al_51, al_52, al_54, al_55, al_56, al_57, al_58, al_59, al_60, al_61, al_62, al_63, al_64, al_65, al_66, al_67, al_68, al_69, al_70, al_71, al_72, al_73, al_74, al_75, al_76, al_77, al_78, al_79, al_80]; decide) | (simp (disch := omega) only [nL, nI_add, pk_mul, nc, Nat.zero_add, al_2, al_3, al_4, al_5, al_7, al_11, al_12, al_13, al_15, al_16, al_17, al_19, al_20, al_21, al_22, al_23, al_24, al_25, al_26, al_28, al_30, al_31, al_32, al_33, al_34, al_36, al_41, al_42, al_43, al_44, al_49, al_50, al_51, al_52, al_54, al_55, al_56, al_57, al_58, al_59, al_60, al_61, al_62, al_63, al_64, al_65, al_66, al_67, al_68, al_69, al_70, al_71, al_72, al_73, al_74, al_75, al_76, al_77, al_78, al_79, al_80]; exact vin (by omega) (by decide))), ?_⟩⟩, fun q4 => ⟨by (first | exact vin (by simp only [al_2, al_3, al_4, al_5, al_7, al_11, al_12, al_13, al_15, al_16, al_17, al_19, al_20, al_21, al_22, al_23, al_24, al_25, al_26, al_28, al_30, al_31, al_32, al_33, al_34, al_36, al_41, al_42, al_43, al_44, al_49, al_50, al_51, al_52, al_54, al_55, al_56, al_57, al_58, al_59, al_60, al_61, al_62, al_63, al_64, al_65, al_66, al_67, al_68, al_69, al_70, al_71, al_72, al_73, al_74, al_75, al_76, al_77, al_78, al_79, al_80]; omega) (by simp only [al_2, al_3, al_4, al_5, al_7, al_11, al_12, al_13, al_15, al_16, al_17, al_19, al_20, al_21, al_22, al_23, al_24, al_25, al_26, al_28, al_30, al_31, al_32, al_33, al_34, al_36, al_41, al_42, al_43, al_44, al_49, al_50, al_51, al_52, al_54, al_55, al_56, al_57, al_58, al_59, al_60, al_61, al_62, al_63, al_64, al_65, al_66, al_67, al_68, al_69, al_70, al_71, al_72, al_73, al_74, al_75, al_76, al_77, al_78, al_79, al_80]; decide) | (simp (disch := omega) only [nL, nI_add, pk_mul, nc, Nat.zero_add, al_2, al_3, al_4, al_5, al_7, al_11, al_12, al_13, al_15, al_16, al_17, al_19, al_20, al_21, al_22, al_23, al_24, al_25, al_26, al_28, al_30, al_31, al_32, al_33, al_34, al_36, al_41, al_42, al_43, al_44, al_49, al_50, al_51, al_52, al_54, al_55, al_56, al_57, al_58, al_59, al_60, al_61, al_62, al_63, al_64, al_65, al_66, al_67, al_68, al_69, al_70, al_71, al_72, al_73, al_74, al_75, al_76, al_77, al_78, al_79, al_80]; exact vin (by omega) (by decide))), ?_⟩⟩, fun q3 => ?_⟩⟩
    · have hne : ∀ n : Nat, n < 4 → ¬ w = nI n := by
        intro n hn z
        subst z
        exact n_nn (by omega) q2
      rw [if_neg (show ¬ w = 0 from hne 0 (by omega)), if_neg (show ¬ w = 1 from hne 1 (by omega)), if_neg (show ¬ w = 2 from hne 2 (by omega)), if_neg (show ¬ w = 3 from hne 3 (by omega))]
      exact ⟨_, σt, ht, rfl, hRt, hkt⟩
    · have q7 : w = 3 := by
        obtain ⟨n, hn, rfl⟩ := nI_of q2
        have q3 : nI n ≤ nI 3 := q3
        have q4 : ¬ nI n = nI 0 := q4
        have q5 : ¬ nI n = nI 1 := q5
        have q6 : ¬ nI n = nI 2 := q6
        rw [n_le (by omega) (by omega)] at q3
        rw [n_eq (by omega) (by omega)] at q4 q5 q6
        show nI n = nI 3
        rw [n_eq (by omega) (by omega)]
        omega
      rw [if_neg q4, if_neg q5, if_neg q6, if_pos q7, nc (by omega), j4]
      exact ⟨_, _, cr, rfl, h, kD.rf⟩
    · rw [if_neg q4, if_neg q5, if_pos q6, nc (by omega), j3]
      exact ⟨rfl, h, kD.rf⟩
    · rw [if_neg q4, if_pos q5, nc (by omega), j2]
      exact ⟨rfl, h, kD.rf⟩
    · rw [if_pos q4, nc (by omega), j1]
      exact ⟨rfl, h, kD.rf⟩
    · have hne : ∀ n : Nat, n < 4 → ¬ w = nI n := by
        intro n hn z
        subst z
        exact q3 (by
          show nI n ≤ nI 3
          rw [n_le (by omega) (by omega)]
          omega)
      rw [if_neg (show ¬ w = 0 from hne 0 (by omega)), if_neg (show ¬ w = 1 from hne 1 (by omega)), if_neg (show ¬ w = 2 from hne 2 (by omega)), if_neg (show ¬ w = 3 from hne 3 (by omega))]
      exact ⟨_, σt, ht, rfl, hRt, hkt⟩
theorem v_of {B : zB} (h : VB B) (r w : Int32) : VB (sOf r w B).2 := by
  unfold sOf
  repeat (first | exact h | exact h.tell _ | split)

def sUndo (B : zB) : Int32 × zB := match B.2.1.1 with
  | 0 => oTell (-1000006) B
  | n + 1 => (nI n, B.2.1.2 n, (n, B.2.1.2), B.2.2.1, B.2.2.2.1, B.2.2.2.2)
theorem x_undo (d : Nat) {σ : z_M} {B : zB} (h : RepC σ B) (hv : VB B) : opC (d + 5) k_RF_undo [.ref 0] σ (sUndo B) := by
  obtain ⟨h1, h2, h3, h4, h5, h6⟩ := id h
  have e62 : σ.1 6 2 = nI B.2.1.1 := by
    obtain ⟨x, -, -, -, q, -⟩ := h2
    exact q
  have h25 := hv.2.1
  refine z_metC ⟨rfl, z_go 30 [] ⟨fun q => ?_, fun q => ?_⟩⟩
  · rw [e62] at q
    have q : ¬ nI B.2.1.1 = nI 0 := q
    rw [n_eq (by omega) (by omega)] at q
    obtain ⟨n, hn⟩ : ∃ n, B.2.1.1 = n + 1 := ⟨B.2.1.1 - 1, by omega⟩
    obtain ⟨σ1, hc, hf, hN, hp, e6⟩ := c_goBack (d + 2) σ B.2.1 n hn h2
    have es : sUndo B = (nI n, B.2.1.2 n, (n, B.2.1.2), B.2.2.1, B.2.2.2.1, B.2.2.2.2) := by
      unfold sUndo
      rw [hn]
    rw [es]
    refine ⟨σ1, hc, Or.inl rfl, ?_, ⟨hN.fr (z_wr_ne (by decide)) (z_wr_ne (by decide)) (z_wr_ne (by decide)) (z_wr_ne (by decide)) (z_wr_ne (by decide)), hp.fr (z_wr_ne (by decide)) (z_wr_ne (by decide)), h3.fr (fun c _ _ => by rw [z_wr_ne (by omega), hf.1 c (by simp; omega)]), h4.fr (fun c _ _ => by rw [z_wr_ne (by omega), hf.1 c (by simp; omega)]), ?_, ?_⟩, fun c hc => by rw [z_wr_ne (by omega), hf.1 c (by simp; omega)]⟩
    · rw [wr_c (by decide), e6]
    · rw [wr_k (by decide), hf.at (by decide)]
      exact h5
    · left
      exact wr_s
  · rw [e62] at q
    have q : nI B.2.1.1 = nI 0 := q
    rw [n_eq (by omega) (by omega)] at q
    obtain ⟨σt, ht, hRt, hkt⟩ := c_tell (d + 3) h (-1000006)
    have es : sUndo B = oTell (-1000006) B := by
      unfold sUndo
      rw [q]
    rw [es]
    exact ⟨_, σt, ht, rfl, hRt, hkt⟩
theorem y_undo (d : Nat) {σ : z_M} {B : zB} (h : RepD σ B) (hv : VB B) : opD (d + 5) k_Md_undo [.ref 53] σ (sUndo B) := by
  obtain ⟨h1, h2, h3, h4, h5⟩ := id h
  obtain ⟨h25, e7, hs⟩ := id h2
  refine z_metD ⟨rfl, z_go 30 [] ⟨fun q => ?_, fun q => ?_⟩⟩
  · rw [e7] at q
    have q : ¬ nI B.2.1.1 = nI 0 := q
    rw [n_eq (by omega) (by omega)] at q
    obtain ⟨n, hn⟩ : ∃ n, B.2.1.1 = n + 1 := ⟨B.2.1.1 - 1, by omega⟩
    have es : sUndo B = (nI n, B.2.1.2 n, (n, B.2.1.2), B.2.2.1, B.2.2.2.1, B.2.2.2.2) := by
      unfold sUndo
      rw [hn]
    rw [es]
    have e7n : σ.1 53 7 - 1 = nI n := by
      rw [e7, hn]
      exact nI_pred n
    obtain ⟨σ2, hc, hf, hk, w0, w1, w2, w3⟩ := c_carryL (d + 3) (z_wr σ 53 7 (σ.1 53 7 - 1)) (43 * n) (by omega)
    have e58 : (z_wr σ 53 7 (σ.1 53 7 - 1)).1 58 = σ.1 58 := z_wr_ne (by decide)
    rw [e58] at w0 w1 w2 w3
    obtain ⟨s0, s1, s2, s3⟩ := hs n (by omega)
    have em : 43 * (z_wr σ 53 7 (σ.1 53 7 - 1)).1 53 7 = nI (43 * n) := by
      rw [wr_s, e7n]
      exact pk_mul 43 n
    refine ⟨σ2, ?_, ?_, ⟨⟨w0.trans s0, w1.trans s1, w2.trans s2, fun i hi => ?_⟩, ⟨?_, ?_, fun j hj => ?_⟩, h3.fr ?_ ?_ ?_ ?_, h4.fr ?_ ?_ ?_, ?_⟩, ?_⟩
    · exact em ▸ hc
    · rw [hk 7 (by decide), wr_s, e7n]
    · obtain ⟨a, b, c, dd⟩ := w3 i hi
      obtain ⟨a', b', c', d'⟩ := s3 i hi
      exact ⟨a.trans a', b.trans b', c.trans c', dd.trans d'⟩
    · show n ≤ 25
      omega
    · show σ2.1 53 7 = nI n
      rw [hk 7 (by decide), wr_s, e7n]
    · refine snD_keep (hs j ?_) (fun k _ => ?_)
      · have : j < n := hj
        omega
      · rw [hf.1 58 (by decide), e58]
    · rw [hf.1 59 (by decide), z_wr_ne (by decide)]
    · rw [hf.1 60 (by decide), z_wr_ne (by decide)]
    · rw [hf.1 61 (by decide), z_wr_ne (by decide)]
    · rw [hf.1 62 (by decide), z_wr_ne (by decide)]
    · rw [hf.1 63 (by decide), z_wr_ne (by decide)]
    · rw [hf.1 64 (by decide), z_wr_ne (by decide)]
    · rw [hf.1 65 (by decide), z_wr_ne (by decide)]
    · rw [hk 16 (by decide), wr_k (by decide)]
      exact h5
    · exact (fr.wr (cs := [53, 54, 55, 56, 57]) fr.rf (by decide) |>.tr hf).kD (by decide)
  · rw [e7] at q
    have q : nI B.2.1.1 = nI 0 := q
    rw [n_eq (by omega) (by omega)] at q
    obtain ⟨σt, ht, hRt, hkt⟩ := c_finding (d + 3) h (-1000006)
    have es : sUndo B = oTell (-1000006) B := by
      unfold sUndo
      rw [q]
    rw [es]
    exact ⟨_, σt, ht, rfl, hRt, hkt⟩
theorem v_undo {B : zB} (h : VB B) : VB (sUndo B).2 := by
  obtain ⟨h1, h2, h3, h4, h5⟩ := id h
  cases hn : B.2.1.1 with
  | zero =>
    have es : sUndo B = oTell (-1000006) B := by
      unfold sUndo
      rw [hn]
    rw [es]
    exact h.tell _
  | succ n =>
    have es : sUndo B = (nI n, B.2.1.2 n, (n, B.2.1.2), B.2.2.1, B.2.2.2.1, B.2.2.2.2) := by
      unfold sUndo
      rw [hn]
    rw [es]
    exact ⟨h3 n (by omega), by show n ≤ 25; omega, fun j hj => h3 j (by have : j < n := hj; omega), h4, h5⟩
def sTold (w : Int32) (B : zB) : Int32 × zB := if w = 0 then (nP B.1, B) else if w = 1 then (nR B.1, B) else if w = 2 then (nG B.1, B) else if w = 3 then (B.2.2.2.2, B) else oTell (-1000001) B
theorem x_told (d : Nat) {σ : z_M} {B : zB} (h : RepC σ B) (w : Int32) : opC (d + 5) k_RF_told [.ref 0, .int w] σ (sTold w B) := by
  obtain ⟨σt, ht, hRt, hkt⟩ := c_tell (d + 3) h (-1000001)
  refine z_metC ⟨rfl, z_go 40 [] ⟨fun q2 => ?_, fun q2 => ?_, fun q2 => ?_, fun q2 => ?_, fun q2 => ?_⟩⟩
  · refine ⟨?_, ?_⟩
    · rw [q2, h.1.1]
      rfl
    · rw [q2]
      exact ⟨h, kC.rf⟩
  · refine ⟨?_, ?_⟩
    · rw [q2, h.1.2.1]
      rfl
    · rw [q2]
      exact ⟨h, kC.rf⟩
  · refine ⟨?_, ?_⟩
    · rw [q2, h.1.2.2.1]
      rfl
    · rw [q2]
      exact ⟨h, kC.rf⟩
  · refine ⟨?_, ?_⟩
    · rw [q2, h.2.2.2.2.1]
      rfl
    · rw [q2]
      exact ⟨h, kC.rf⟩
  · have hne : ∀ n : Nat, n < 4 → ¬ w = nI n := by
      intro n hn z
      subst z
      rcases q2 with z | z
      · exact n_nn (by omega) z
      · have z : nI 4 ≤ nI n := z
        rw [n_le (by omega) (by omega)] at z
        omega
    rw [sTold, if_neg (show ¬ w = 0 from hne 0 (by omega)), if_neg (show ¬ w = 1 from hne 1 (by omega)), if_neg (show ¬ w = 2 from hne 2 (by omega)), if_neg (show ¬ w = 3 from hne 3 (by omega))]
    exact ⟨_, σt, ht, rfl, hRt, hkt⟩
theorem y_told (d : Nat) {σ : z_M} {B : zB} (h : RepD σ B) (w : Int32) : opD (d + 5) k_Md_told [.ref 53, .int w] σ (sTold w B) := by
  obtain ⟨σt, ht, hRt, hkt⟩ := c_finding (d + 3) h (-1000001)
  refine z_metD ⟨rfl, z_go 40 [] ⟨fun q => ⟨fun q2 => ⟨fun q3 => ⟨fun q4 => ?_, fun q4 => ?_⟩, fun q3 => ?_⟩, fun q2 => ?_⟩, fun q => ?_⟩⟩
  · rw [sTold, if_neg q, if_neg q2, if_neg q3, if_neg q4]
    exact ⟨_, σt, ht, rfl, hRt, hkt⟩
  · rw [sTold, if_neg q, if_neg q2, if_neg q3, if_pos q4]
    exact ⟨by rw [h.2.2.2.2], h, kD.rf⟩
  · rw [sTold, if_neg q, if_neg q2, if_pos q3]
    exact ⟨by rw [h.1.2.2.1], h, kD.rf⟩
  · rw [sTold, if_neg q, if_pos q2]
    exact ⟨by rw [h.1.2.1], h, kD.rf⟩
  · rw [sTold, if_pos q]
    exact ⟨by rw [h.1.1], h, kD.rf⟩
theorem v_told {B : zB} (h : VB B) (w : Int32) : VB (sTold w B).2 := by
  unfold sTold
  repeat (first | exact h | exact h.tell _ | split)
