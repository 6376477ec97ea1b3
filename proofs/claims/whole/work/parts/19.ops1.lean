/-! acts on the net, on both sides: posts, roads, lengths, turning, taking -/
def hasP (n a : Int32) : Int32 := if a < 0 then 0 else if n ≤ a then 0 else 1
theorem hasP_ne {n : Nat} {a : Int32} (hn : n < 2147483648) (h : ¬ hasP (nI n) a = 0) : ∃ j, j < n ∧ a = nI j := by
  unfold hasP at h
  split at h
  · exact absurd rfl h
  · rename_i h1
    split at h
    · exact absurd rfl h
    · rename_i h2
      obtain ⟨j, hj, rfl⟩ := nI_of h1
      exact ⟨j, by rw [n_le hn hj] at h2; omega, rfl⟩
theorem hasP_in {n j : Nat} (hn : n < 2147483648) (h : j < n) : hasP (nI n) (nI j) = 1 := by
  unfold hasP
  rw [if_neg (n_nn (by omega)), if_neg (by rw [n_le hn (by omega)]; omega)]
theorem hasP_01 (n a : Int32) : hasP n a = 0 ∨ hasP n a = 1 := by
  unfold hasP
  split
  · exact Or.inl rfl
  · split
    · exact Or.inl rfl
    · exact Or.inr rfl
theorem c_hasPost (d : Nat) (σ : z_M) (a : Int32) : z_call (d + 1) k_Net_hasPost [.ref 1, .int a] σ (some (.int (hasP (σ.1 1 0) a))) σ := by
  unfold hasP
  refine ⟨rfl, z_go 20 [] ⟨fun h => ⟨Or.inl rfl, by rw [if_pos h], rfl⟩, fun h => ⟨fun h2 => ⟨Or.inl rfl, by rw [if_neg h, if_pos h2], rfl⟩, fun h2 => ⟨Or.inr rfl, by rw [if_neg h, if_neg h2], rfl⟩⟩⟩⟩
theorem c_hasRoad (d : Nat) (σ : z_M) (a : Int32) : z_call (d + 1) k_Net_hasRoad [.ref 1, .int a] σ (some (.int (hasP (σ.1 1 1) a))) σ := by
  unfold hasP
  refine ⟨rfl, z_go 20 [] ⟨fun h => ⟨Or.inl rfl, by rw [if_pos h], rfl⟩, fun h => ⟨fun h2 => ⟨Or.inl rfl, by rw [if_neg h, if_pos h2], rfl⟩, fun h2 => ⟨Or.inr rfl, by rw [if_neg h, if_neg h2], rfl⟩⟩⟩⟩
theorem c_isPost (d : Nat) (σ : z_M) (a : Int32) : z_call (d + 1) k_Md_isPost [.ref 53, .int a] σ (some (.int (hasP (σ.1 53 0) a))) σ := by
  unfold hasP
  refine ⟨rfl, z_go 20 [] ⟨fun h => ⟨Or.inl rfl, by rw [if_pos h], rfl⟩, fun h => ⟨fun h2 => ⟨Or.inl rfl, by rw [if_neg h, if_pos h2], rfl⟩, fun h2 => ⟨Or.inr rfl, by rw [if_neg h, if_neg h2], rfl⟩⟩⟩⟩
theorem c_isRoad (d : Nat) (σ : z_M) (a : Int32) : z_call (d + 1) k_Md_isRoad [.ref 53, .int a] σ (some (.int (hasP (σ.1 53 1) a))) σ := by
  unfold hasP
  refine ⟨rfl, z_go 20 [] ⟨fun h => ⟨Or.inl rfl, by rw [if_pos h], rfl⟩, fun h => ⟨fun h2 => ⟨Or.inl rfl, by rw [if_neg h, if_pos h2], rfl⟩, fun h2 => ⟨Or.inr rfl, by rw [if_neg h, if_neg h2], rfl⟩⟩⟩⟩
theorem upd_s {f : Nat → Int32} {k : Nat} {x : Int32} : upd f k x k = x := by simp [upd]
theorem upd_k {f : Nat → Int32} {k j : Nat} {x : Int32} (h : j ≠ k) : upd f k x j = f j := by simp [upd, h]
def addR (N : zN) (a b : Int32) : zN := ((nP N, nR N + 1, nG N), upd (nS N) (gR N) a, upd (nE N) (gR N) b, upd (nD N) (gR N) 1, upd (nV N) (gR N) 0)
theorem c_build (d : Nat) {σ : z_M} {N : zN} (h : netC σ N) {R : Nat} (hR : nR N = nI R) (h10 : R < 10) (a b : Int32) : ∃ σ', z_call (d + 1) k_Net_build [.ref 1, .int a, .int b] σ none σ' ∧ fr [1, 2, 3, 4, 5] σ σ' ∧ netC σ' (addR N a b) := by
  obtain ⟨h1, h2, h3, h4⟩ := h
  have e1 : σ.1 1 1 = nI R := h2.trans hR
  have eg : gR N = R := by unfold gR; rw [hR, nc (by omega)]
  refine ⟨_, ⟨rfl, z_go 50 [] ⟨fun h => ⟨?_, ?_, ?_, ?_, rfl, rfl⟩, fun h => ?_⟩⟩, by (repeat (first | exact fr.rf | refine fr.cp ?_ (by decide) | refine fr.wr ?_ (by decide) | refine fr.wl ?_ (by decide))), ?_⟩
  · rw [e1]; (first | exact vin (by simp only [al_2, al_3, al_4, al_5, al_7, al_11, al_12, al_13, al_15, al_16, al_17, al_19, al_20, al_21, al_22, al_23, al_24, al_25, al_26, al_28, al_30, al_31, al_32, al_33, al_34, al_36, al_41, al_42, al_43, al_44, al_49, al_50, al_51, al_52, al_54, al_55, al_56, al_57, al_58, al_59, al_60, al_61, al_62, al_63, al_64, al_65, al_66, al_67, al_68, al_69, al_70, al_71, al_72, al_73, al_74, al_75, al_76, al_77, al_78, al_79, al_80]; omega) (by simp only [al_2, al_3, al_4, al_5, al_7, al_11, al_12, al_13, al_15, al_16, al_17, al_19, al_20, al_21, al_22, al_23, al_24, al_25, al_26, al_28, al_30, al_31, al_32, al_33, al_34, al_36, al_41, al_42, al_43, al_44, al_49, al_50, al_51, al_52, al_54, al_55, al_56, al_57, al_58, al_59, al_60, al_61, al_62, al_63, al_64, al_65, al_66, al_67, al_68, al_69, al_70, al_71, al_72, al_73, al_74, al_75, al_76, al_77, al_78, al_79, al_80]; decide) | (simp (disch := omega) only [nL, nI_add, pk_mul, nc, Nat.zero_add, al_2, al_3, al_4, al_5, al_7, al_11, al_12, al_13, al_15, al_16, al_17, al_19, al_20, al_21, al_22, al_23, al_24, al_25, al_26, al_28, al_30, al_31, al_32, al_33, al_34, al_36, al_41, al_42, al_43, al_44, al_49, al_50, al_51, al_52, al_54, al_55, al_56, al_57, al_58, al_59, al_60, al_61, al_62, al_63, al_64, al_65, al_66, al_67, al_68, al_69, al_70, al_71, al_72, al_73, al_74, al_75, al_76, al_77, al_78, al_79, al_80]; exact vin (by omega) (by decide)))
  · rw [wr_c (by decide), e1]; (first | exact vin (by simp only [al_2, al_3, al_4, al_5, al_7, al_11, al_12, al_13, al_15, al_16, al_17, al_19, al_20, al_21, al_22, al_23, al_24, al_25, al_26, al_28, al_30, al_31, al_32, al_33, al_34, al_36, al_41, al_42, al_43, al_44, al_49, al_50, al_51, al_52, al_54, al_55, al_56, al_57, al_58, al_59, al_60, al_61, al_62, al_63, al_64, al_65, al_66, al_67, al_68, al_69, al_70, al_71, al_72, al_73, al_74, al_75, al_76, al_77, al_78, al_79, al_80]; omega) (by simp only [al_2, al_3, al_4, al_5, al_7, al_11, al_12, al_13, al_15, al_16, al_17, al_19, al_20, al_21, al_22, al_23, al_24, al_25, al_26, al_28, al_30, al_31, al_32, al_33, al_34, al_36, al_41, al_42, al_43, al_44, al_49, al_50, al_51, al_52, al_54, al_55, al_56, al_57, al_58, al_59, al_60, al_61, al_62, al_63, al_64, al_65, al_66, al_67, al_68, al_69, al_70, al_71, al_72, al_73, al_74, al_75, al_76, al_77, al_78, al_79, al_80]; decide) | (simp (disch := omega) only [nL, nI_add, pk_mul, nc, Nat.zero_add, al_2, al_3, al_4, al_5, al_7, al_11, al_12, al_13, al_15, al_16, al_17, al_19, al_20, al_21, al_22, al_23, al_24, al_25, al_26, al_28, al_30, al_31, al_32, al_33, al_34, al_36, al_41, al_42, al_43, al_44, al_49, al_50, al_51, al_52, al_54, al_55, al_56, al_57, al_58, al_59, al_60, al_61, al_62, al_63, al_64, al_65, al_66, al_67, al_68, al_69, al_70, al_71, al_72, al_73, al_74, al_75, al_76, al_77, al_78, al_79, al_80]; exact vin (by omega) (by decide)))
  · rw [wr_c (by decide), wr_c (by decide), e1]; (first | exact vin (by simp only [al_2, al_3, al_4, al_5, al_7, al_11, al_12, al_13, al_15, al_16, al_17, al_19, al_20, al_21, al_22, al_23, al_24, al_25, al_26, al_28, al_30, al_31, al_32, al_33, al_34, al_36, al_41, al_42, al_43, al_44, al_49, al_50, al_51, al_52, al_54, al_55, al_56, al_57, al_58, al_59, al_60, al_61, al_62, al_63, al_64, al_65, al_66, al_67, al_68, al_69, al_70, al_71, al_72, al_73, al_74, al_75, al_76, al_77, al_78, al_79, al_80]; omega) (by simp only [al_2, al_3, al_4, al_5, al_7, al_11, al_12, al_13, al_15, al_16, al_17, al_19, al_20, al_21, al_22, al_23, al_24, al_25, al_26, al_28, al_30, al_31, al_32, al_33, al_34, al_36, al_41, al_42, al_43, al_44, al_49, al_50, al_51, al_52, al_54, al_55, al_56, al_57, al_58, al_59, al_60, al_61, al_62, al_63, al_64, al_65, al_66, al_67, al_68, al_69, al_70, al_71, al_72, al_73, al_74, al_75, al_76, al_77, al_78, al_79, al_80]; decide) | (simp (disch := omega) only [nL, nI_add, pk_mul, nc, Nat.zero_add, al_2, al_3, al_4, al_5, al_7, al_11, al_12, al_13, al_15, al_16, al_17, al_19, al_20, al_21, al_22, al_23, al_24, al_25, al_26, al_28, al_30, al_31, al_32, al_33, al_34, al_36, al_41, al_42, al_43, al_44, al_49, al_50, al_51, al_52, al_54, al_55, al_56, al_57, al_58, al_59, al_60, al_61, al_62, al_63, al_64, al_65, al_66, al_67, al_68, al_69, al_70, al_71, al_72, al_73, al_74, al_75, al_76, al_77, al_78, al_79, al_80]; exact vin (by omega) (by decide)))
  · rw [wr_c (by decide), wr_c (by decide), wr_c (by decide), e1]; (first | exact vin (by simp only [al_2, al_3, al_4, al_5, al_7, al_11, al_12, al_13, al_15, al_16, al_17, al_19, al_20, al_21, al_22, al_23, al_24, al_25, al_26, al_28, al_30, al_31, al_32, al_33, al_34, al_36, al_41, al_42, al_43, al_44, al_49, al_50, al_51, al_52, al_54, al_55, al_56, al_57, al_58, al_59, al_60, al_61, al_62, al_63, al_64, al_65, al_66, al_67, al_68, al_69, al_70, al_71, al_72, al_73, al_74, al_75, al_76, al_77, al_78, al_79, al_80]; omega) (by simp only [al_2, al_3, al_4, al_5, al_7, al_11, al_12, al_13, al_15, al_16, al_17, al_19, al_20, al_21, al_22, al_23, al_24, al_25, al_26, al_28, al_30, al_31, al_32, al_33, al_34, al_36, al_41, al_42, al_43, al_44, al_49, al_50, al_51, al_52, al_54, al_55, al_56, al_57, al_58, al_59, al_60, al_61, al_62, al_63, al_64, al_65, al_66, al_67, al_68, al_69, al_70, al_71, al_72, al_73, al_74, al_75, al_76, al_77, al_78, al_79, al_80]; decide) | (simp (disch := omega) only [nL, nI_add, pk_mul, nc, Nat.zero_add, al_2, al_3, al_4, al_5, al_7, al_11, al_12, al_13, al_15, al_16, al_17, al_19, al_20, al_21, al_22, al_23, al_24, al_25, al_26, al_28, al_30, al_31, al_32, al_33, al_34, al_36, al_41, al_42, al_43, al_44, al_49, al_50, al_51, al_52, al_54, al_55, al_56, al_57, al_58, al_59, al_60, al_61, al_62, al_63, al_64, al_65, al_66, al_67, al_68, al_69, al_70, al_71, al_72, al_73, al_74, al_75, al_76, al_77, al_78, al_79, al_80]; exact vin (by omega) (by decide)))
  · rw [e1] at h
    simp (disch := omega) only [nL, n_lt] at h
    omega
  · refine ⟨?_, ?_, ?_, fun i hi => ?_⟩
    · simp (disch := omega) only [nL, nI_add, pk_mul, nc, cp_in, cp_lo, cp_hi, cp_ne, wr_s, wr_k, wr_c, wr_e, Nat.zero_add]
      exact h1
    · simp (disch := omega) only [wr_s, wr_c, wr_k, h2]
      rfl
    · simp (disch := omega) only [nL, nI_add, pk_mul, nc, cp_in, cp_lo, cp_hi, cp_ne, wr_s, wr_k, wr_c, wr_e, Nat.zero_add]
      exact h3
    · obtain ⟨b1, b2, b3, b4⟩ := h4 i hi
      simp only [addR, eg, nS, nE, nD, nV]
      by_cases q : i = R
      · subst q
        simp (disch := omega) only [wr_s, wr_c, wr_k, e1, nc, upd_s]
        exact ⟨trivial, trivial, trivial, trivial⟩
      · simp (disch := omega) only [wr_s, wr_c, wr_k, e1, nc, upd_k]
        exact ⟨b1, b2, b3, b4⟩
theorem c_addRoad (d : Nat) {σ : z_M} {N : zN} (h : netD σ N) {R : Nat} (hR : nR N = nI R) (h10 : R < 10) (a b : Int32) : ∃ σ', z_call (d + 1) k_Md_addRoad [.ref 53, .int a, .int b] σ none σ' ∧ fr [53, 54, 55, 56, 57] σ σ' ∧ (∀ k, 2 < k → σ'.1 53 k = σ.1 53 k) ∧ netD σ' (addR N a b) := by
  obtain ⟨h1, h2, h3, h4⟩ := h
  have e1 : σ.1 53 1 = nI R := h2.trans hR
  have eg : gR N = R := by unfold gR; rw [hR, nc (by omega)]
  refine ⟨_, ⟨rfl, z_go 50 [] ⟨?_, ?_, ?_, ?_, rfl, rfl⟩⟩, by (repeat (first | exact fr.rf | refine fr.cp ?_ (by decide) | refine fr.wr ?_ (by decide) | refine fr.wl ?_ (by decide))), ?_, ?_⟩
  · rw [e1]; (first | exact vin (by simp only [al_2, al_3, al_4, al_5, al_7, al_11, al_12, al_13, al_15, al_16, al_17, al_19, al_20, al_21, al_22, al_23, al_24, al_25, al_26, al_28, al_30, al_31, al_32, al_33, al_34, al_36, al_41, al_42, al_43, al_44, al_49, al_50, al_51, al_52, al_54, al_55, al_56, al_57, al_58, al_59, al_60, al_61, al_62, al_63, al_64, al_65, al_66, al_67, al_68, al_69, al_70, al_71, al_72, al_73, al_74, al_75, al_76, al_77, al_78, al_79, al_80]; omega) (by simp only [al_2, al_3, al_4, al_5, al_7, al_11, al_12, al_13, al_15, al_16, al_17, al_19, al_20, al_21, al_22, al_23, al_24, al_25, al_26, al_28, al_30, al_31, al_32, al_33, al_34, al_36, al_41, al_42, al_43, al_44, al_49, al_50, al_51, al_52, al_54, al_55, al_56, al_57, al_58, al_59, al_60, al_61, al_62, al_63, al_64, al_65, al_66, al_67, al_68, al_69, al_70, al_71, al_72, al_73, al_74, al_75, al_76, al_77, al_78, al_79, al_80]; decide) | (simp (disch := omega) only [nL, nI_add, pk_mul, nc, Nat.zero_add, al_2, al_3, al_4, al_5, al_7, al_11, al_12, al_13, al_15, al_16, al_17, al_19, al_20, al_21, al_22, al_23, al_24, al_25, al_26, al_28, al_30, al_31, al_32, al_33, al_34, al_36, al_41, al_42, al_43, al_44, al_49, al_50, al_51, al_52, al_54, al_55, al_56, al_57, al_58, al_59, al_60, al_61, al_62, al_63, al_64, al_65, al_66, al_67, al_68, al_69, al_70, al_71, al_72, al_73, al_74, al_75, al_76, al_77, al_78, al_79, al_80]; exact vin (by omega) (by decide)))
  · rw [wr_c (by decide), e1]; (first | exact vin (by simp only [al_2, al_3, al_4, al_5, al_7, al_11, al_12, al_13, al_15, al_16, al_17, al_19, al_20, al_21, al_22, al_23, al_24, al_25, al_26, al_28, al_30, al_31, al_32, al_33, al_34, al_36, al_41, al_42, al_43, al_44, al_49, al_50, al_51, al_52, al_54, al_55, al_56, al_57, al_58, al_59, al_60, al_61, al_62, al_63, al_64, al_65, al_66, al_67, al_68, al_69, al_70, al_71, al_72, al_73, al_74, al_75, al_76, al_77, al_78, al_79, al_80]; omega) (by simp only [al_2, al_3, al_4, al_5, al_7, al_11, al_12, al_13, al_15, al_16, al_17, al_19, al_20, al_21, al_22, al_23, al_24, al_25, al_26, al_28, al_30, al_31, al_32, al_33, al_34, al_36, al_41, al_42, al_43, al_44, al_49, al_50, al_51, al_52, al_54, al_55, al_56, al_57, al_58, al_59, al_60, al_61, al_62, al_63, al_64, al_65, al_66, al_67, al_68, al_69, al_70, al_71, al_72, al_73, al_74, al_75, al_76, al_77, al_78, al_79, al_80]; decide) | (simp (disch := omega) only [nL, nI_add, pk_mul, nc, Nat.zero_add, al_2, al_3, al_4, al_5, al_7, al_11, al_12, al_13, al_15, al_16, al_17, al_19, al_20, al_21, al_22, al_23, al_24, al_25, al_26, al_28, al_30, al_31, al_32, al_33, al_34, al_36, al_41, al_42, al_43, al_44, al_49, al_50, al_51, al_52, al_54, al_55, al_56, al_57, al_58, al_59, al_60, al_61, al_62, al_63, al_64, al_65, al_66, al_67, al_68, al_69, al_70, al_71, al_72, al_73, al_74, al_75, al_76, al_77, al_78, al_79, al_80]; exact vin (by omega) (by decide)))
  · rw [wr_c (by decide), wr_c (by decide), e1]; (first | exact vin (by simp only [al_2, al_3, al_4, al_5, al_7, al_11, al_12, al_13, al_15, al_16, al_17, al_19, al_20, al_21, al_22, al_23, al_24, al_25, al_26, al_28, al_30, al_31, al_32, al_33, al_34, al_36, al_41, al_42, al_43, al_44, al_49, al_50, al_51, al_52, al_54, al_55, al_56, al_57, al_58, al_59, al_60, al_61, al_62, al_63, al_64, al_65, al_66, al_67, al_68, al_69, al_70, al_71, al_72, al_73, al_74, al_75, al_76, al_77, al_78, al_79, al_80]; omega) (by simp only [al_2, al_3, al_4, al_5, al_7, al_11, al_12, al_13, al_15, al_16, al_17, al_19, al_20, al_21, al_22, al_23, al_24, al_25, al_26, al_28, al_30, al_31, al_32, al_33, al_34, al_36, al_41, al_42, al_43, al_44, al_49, al_50, al_51, al_52, al_54, al_55, al_56, al_57, al_58, al_59, al_60, al_61, al_62, al_63, al_64, al_65, al_66, al_67, al_68, al_69, al_70, al_71, al_72, al_73, al_74, al_75, al_76, al_77, al_78, al_79, al_80]; decide) | (simp (disch := omega) only [nL, nI_add, pk_mul, nc, Nat.zero_add, al_2, al_3, al_4, al_5, al_7, al_11, al_12, al_13, al_15, al_16, al_17, al_19, al_20, al_21, al_22, al_23, al_24, al_25, al_26, al_28, al_30, al_31, al_32, al_33, al_34, al_36, al_41, al_42, al_43, al_44, al_49, al_50, al_51, al_52, al_54, al_55, al_56, al_57, al_58, al_59, al_60, al_61, al_62, al_63, al_64, al_65, al_66, al_67, al_68, al_69, al_70, al_71, al_72, al_73, al_74, al_75, al_76, al_77, al_78, al_79, al_80]; exact vin (by omega) (by decide)))
  · rw [wr_c (by decide), wr_c (by decide), wr_c (by decide), e1]; (first | exact vin (by simp only [al_2, al_3, al_4, al_5, al_7, al_11, al_12, al_13, al_15, al_16, al_17, al_19, al_20, al_21, al_22, al_23, al_24, al_25, al_26, al_28, al_30, al_31, al_32, al_33, al_34, al_36, al_41, al_42, al_43, al_44, al_49, al_50, al_51, al_52, al_54, al_55, al_56, al_57, al_58, al_59, al_60, al_61, al_62, al_63, al_64, al_65, al_66, al_67, al_68, al_69, al_70, al_71, al_72, al_73, al_74, al_75, al_76, al_77, al_78, al_79, al_80]; omega) (by simp only [al_2, al_3, al_4, al_5, al_7, al_11, al_12, al_13, al_15, al_16, al_17, al_19, al_20, al_21, al_22, al_23, al_24, al_25, al_26, al_28, al_30, al_31, al_32, al_33, al_34, al_36, al_41, al_42, al_43, al_44, al_49, al_50, al_51, al_52, al_54, al_55, al_56, al_57, al_58, al_59, al_60, al_61, al_62, al_63, al_64, al_65, al_66, al_67, al_68, al_69, al_70, al_71, al_72, al_73, al_74, al_75, al_76, al_77, al_78, al_79, al_80]; decide) | (simp (disch := omega) only [nL, nI_add, pk_mul, nc, Nat.zero_add, al_2, al_3, al_4, al_5, al_7, al_11, al_12, al_13, al_15, al_16, al_17, al_19, al_20, al_21, al_22, al_23, al_24, al_25, al_26, al_28, al_30, al_31, al_32, al_33, al_34, al_36, al_41, al_42, al_43, al_44, al_49, al_50, al_51, al_52, al_54, al_55, al_56, al_57, al_58, al_59, al_60, al_61, al_62, al_63, al_64, al_65, al_66, al_67, al_68, al_69, al_70, al_71, al_72, al_73, al_74, al_75, al_76, al_77, al_78, al_79, al_80]; exact vin (by omega) (by decide)))
  · intro k hk
    simp (disch := omega) only [wr_c, wr_k]
  · refine ⟨?_, ?_, ?_, fun i hi => ?_⟩
    · simp (disch := omega) only [nL, nI_add, pk_mul, nc, cp_in, cp_lo, cp_hi, cp_ne, wr_s, wr_k, wr_c, wr_e, Nat.zero_add]
      exact h1
    · simp (disch := omega) only [wr_s, wr_c, wr_k, h2]
      rfl
    · simp (disch := omega) only [nL, nI_add, pk_mul, nc, cp_in, cp_lo, cp_hi, cp_ne, wr_s, wr_k, wr_c, wr_e, Nat.zero_add]
      exact h3
    · obtain ⟨b1, b2, b3, b4⟩ := h4 i hi
      simp only [addR, eg, nS, nE, nD, nV]
      by_cases q : i = R
      · subst q
        simp (disch := omega) only [wr_s, wr_c, wr_k, e1, nc, upd_s]
        exact ⟨trivial, trivial, trivial, trivial⟩
      · simp (disch := omega) only [wr_s, wr_c, wr_k, e1, nc, upd_k]
        exact ⟨b1, b2, b3, b4⟩
def sAnew (B : zB) : Int32 × zB := oAct (nR B.1) ((0, 0, 0), B.1.2) B
theorem x_anew (d : Nat) {σ : z_M} {B : zB} (h : RepC σ B) : opC (d + 5) k_RF_anew [.ref 0] σ (sAnew B) := by
  obtain ⟨σ1, hc, hN1, -, hk, fin⟩ := c_beginB (d + 1) h
  have ce : z_call (d + 4) k_Net_empty [.ref 1] σ1 none (z_wr (z_wr (z_wr σ1 1 0 0) 1 1 0) 1 2 0) := ⟨rfl, z_go 20 [] ⟨rfl, rfl⟩⟩
  refine z_metC ⟨rfl, z_go 20 [] ⟨σ1, hc, _, ce, ?_, ?_⟩⟩
  · rw [h.1.2.1]
    rfl
  · exact fin _ _ _ (by (repeat (first | exact fr.rf | refine fr.cp ?_ (by decide) | refine fr.wr ?_ (by decide) | refine fr.wl ?_ (by decide)))) ⟨by simp (disch := omega) only [nL, nI_add, pk_mul, nc, cp_in, cp_lo, cp_hi, cp_ne, wr_s, wr_k, wr_c, wr_e, Nat.zero_add], by simp (disch := omega) only [nL, nI_add, pk_mul, nc, cp_in, cp_lo, cp_hi, cp_ne, wr_s, wr_k, wr_c, wr_e, Nat.zero_add], by simp (disch := omega) only [nL, nI_add, pk_mul, nc, cp_in, cp_lo, cp_hi, cp_ne, wr_s, wr_k, wr_c, wr_e, Nat.zero_add], fun i hi => by simp (disch := omega) only [nL, nI_add, pk_mul, nc, cp_in, cp_lo, cp_hi, cp_ne, wr_s, wr_k, wr_c, wr_e, Nat.zero_add]; exact hN1.2.2.2 i hi⟩
theorem y_anew (d : Nat) {σ : z_M} {B : zB} (h : RepD σ B) : opD (d + 5) k_Md_anew [.ref 53] σ (sAnew B) := by
  obtain ⟨σ1, hc, hN1, -, hk, -, fin⟩ := c_keepB (d + 2) h
  refine z_metD ⟨rfl, z_go 20 [] ⟨σ1, hc, ?_, ?_⟩⟩
  · rw [hN1.2.1]
    rfl
  · exact fin _ _ _ (by (repeat (first | exact fr.rf | refine fr.cp ?_ (by decide) | refine fr.wr ?_ (by decide) | refine fr.wl ?_ (by decide)))) (fun k hk => by simp (disch := omega) only [nL, nI_add, pk_mul, nc, cp_in, cp_lo, cp_hi, cp_ne, wr_s, wr_k, wr_c, wr_e, Nat.zero_add]) ⟨by simp (disch := omega) only [nL, nI_add, pk_mul, nc, cp_in, cp_lo, cp_hi, cp_ne, wr_s, wr_k, wr_c, wr_e, Nat.zero_add], by simp (disch := omega) only [nL, nI_add, pk_mul, nc, cp_in, cp_lo, cp_hi, cp_ne, wr_s, wr_k, wr_c, wr_e, Nat.zero_add], by simp (disch := omega) only [nL, nI_add, pk_mul, nc, cp_in, cp_lo, cp_hi, cp_ne, wr_s, wr_k, wr_c, wr_e, Nat.zero_add], fun i hi => by simp (disch := omega) only [nL, nI_add, pk_mul, nc, cp_in, cp_lo, cp_hi, cp_ne, wr_s, wr_k, wr_c, wr_e, Nat.zero_add]; exact hN1.2.2.2 i hi⟩
theorem v_anew {B : zB} (h : VB B) : VB (sAnew B).2 := h.act _ ⟨0, 0, 0, rfl, by omega, rfl, by omega, rfl, Or.inl rfl, fun i hi => by omega⟩
def sPost (B : zB) : Int32 × zB := if nP B.1 < 6 then oAct (nP B.1) ((nP B.1 + 1, nR B.1, nG B.1), B.1.2) B else oTell (-1000005) B
theorem ad1 (x : Int32) : x + 1 - 1 = x := by
  rw [Int32.add_sub_cancel]
theorem x_post (d : Nat) {σ : z_M} {B : zB} (h : RepC σ B) : opC (d + 5) k_RF_post [.ref 0] σ (sPost B) := by
  refine z_metC ⟨rfl, z_go 30 [] ⟨fun h2 => ?_, fun h2 => ?_⟩⟩
  · rw [h.1.1] at h2
    obtain ⟨σ1, hc, hN1, -, hk, fin⟩ := c_beginB (d + 1) h
    refine ⟨σ1, hc, ?_⟩
    rw [sPost, if_pos h2]
    refine ⟨?_, fin _ _ _ (by (repeat (first | exact fr.rf | refine fr.cp ?_ (by decide) | refine fr.wr ?_ (by decide) | refine fr.wl ?_ (by decide)))) ⟨?_, ?_, ?_, fun i hi => by simp (disch := omega) only [nL, nI_add, pk_mul, nc, cp_in, cp_lo, cp_hi, cp_ne, wr_s, wr_k, wr_c, wr_e, Nat.zero_add]; exact hN1.2.2.2 i hi⟩⟩
    · rw [wr_s, hN1.1, ad1]
      rfl
    · rw [wr_s, hN1.1]
    · rw [wr_k (by decide)]; exact hN1.2.1
    · rw [wr_k (by decide)]; exact hN1.2.2.1
  · rw [h.1.1] at h2
    obtain ⟨σ1, hc, hR, hk⟩ := c_tell (d + 3) h (-1000005)
    rw [sPost, if_neg h2]
    exact ⟨_, σ1, hc, rfl, hR, hk⟩
theorem y_post (d : Nat) {σ : z_M} {B : zB} (h : RepD σ B) (hv : VB B) : opD (d + 5) k_Md_post [.ref 53] σ (sPost B) := by
  obtain ⟨P, R, G, eP, hP, -⟩ := hv.1
  have hlt : (nP B.1 < 6) = (P < 6) := by rw [eP]; simp (disch := omega) only [nL, n_lt]
  refine z_metD ⟨rfl, z_go 30 [] ⟨fun h2 => ?_, fun h2 => ?_⟩⟩
  · rw [h.1.1, eP] at h2
    simp (disch := omega) only [nL, n_eq] at h2
    obtain ⟨σ1, hc, hN1, -, hk, -, fin⟩ := c_keepB (d + 2) h
    refine ⟨σ1, hc, ?_⟩
    rw [sPost, if_pos (by rw [hlt]; omega)]
    refine ⟨?_, fin _ _ _ (by (repeat (first | exact fr.rf | refine fr.cp ?_ (by decide) | refine fr.wr ?_ (by decide) | refine fr.wl ?_ (by decide)))) (fun k hk => by simp (disch := omega) only [nL, nI_add, pk_mul, nc, cp_in, cp_lo, cp_hi, cp_ne, wr_s, wr_k, wr_c, wr_e, Nat.zero_add]) ⟨?_, ?_, ?_, fun i hi => by simp (disch := omega) only [nL, nI_add, pk_mul, nc, cp_in, cp_lo, cp_hi, cp_ne, wr_s, wr_k, wr_c, wr_e, Nat.zero_add]; exact hN1.2.2.2 i hi⟩⟩
    · rw [wr_s, hN1.1, ad1]
      rfl
    · rw [wr_s, hN1.1]
    · rw [wr_k (by decide)]; exact hN1.2.1
    · rw [wr_k (by decide)]; exact hN1.2.2.1
  · rw [h.1.1, eP] at h2
    simp (disch := omega) only [nL, n_eq] at h2
    obtain ⟨σ1, hc, hR, hk⟩ := c_finding (d + 3) h (-1000005)
    rw [sPost, if_neg (by rw [hlt]; omega)]
    exact ⟨_, σ1, hc, rfl, hR, hk⟩
theorem v_post {B : zB} (h : VB B) : VB (sPost B).2 := by
  unfold sPost
  split
  · rename_i h6
    obtain ⟨P, R, G, eP, hP, eR, hR, eG, hG, hi⟩ := h.1
    rw [eP] at h6
    simp (disch := omega) only [nL, n_lt] at h6
    refine h.act _ ⟨P + 1, R, G, ?_, by omega, eR, hR, eG, hG, fun i hi2 => ?_⟩
    · show nP B.1 + 1 = _
      rw [eP]
      exact nI_1 P
    · obtain ⟨⟨a, ha, ea⟩, ⟨b, hb, eb⟩, hr⟩ := hi i hi2
      exact ⟨⟨a, by omega, ea⟩, ⟨b, by omega, eb⟩, hr⟩
  · exact h.tell _
def sRoad (a b : Int32) (B : zB) : Int32 × zB := if hasP (nP B.1) a = 0 then oTell (-1000001) B else if hasP (nP B.1) b = 0 then oTell (-1000001) B else if nR B.1 < 10 then oAct (nR B.1) (addR B.1 a b) B else oTell (-1000005) B
theorem x_road (d : Nat) {σ : z_M} {B : zB} (h : RepC σ B) (hv : VB B) (a b : Int32) : opC (d + 5) k_RF_road [.ref 0, .int a, .int b] σ (sRoad a b B) := by
  obtain ⟨P, R, G, eP, hP, eR, hR, -⟩ := hv.1
  have ca := c_hasPost (d + 3) σ a
  have cb := c_hasPost (d + 3) σ b
  rw [h.1.1] at ca cb
  obtain ⟨σt, ht, hRt, hkt⟩ := c_tell (d + 3) h (-1000001)
  refine z_metC ⟨rfl, z_go 40 [] ⟨_, _, ca, fun q => ?_, fun q => ⟨_, _, cb, fun q2 => ⟨fun q3 => ?_, fun q3 => ?_⟩, fun q2 => ?_⟩⟩⟩
  · rw [sRoad, if_pos q]
    exact ⟨_, σt, ht, rfl, hRt, hkt⟩
  · rw [h.1.2.1] at q3
    rw [sRoad, if_neg q, if_neg q2, if_pos q3]
    rw [eR] at q3
    simp (disch := omega) only [nL, n_lt] at q3
    obtain ⟨σ1, hc, hN1, -, hk, fin⟩ := c_beginB (d + 1) h
    obtain ⟨σ2, hc2, hf2, hN2⟩ := c_build (d + 3) hN1 eR q3 a b
    refine ⟨σ1, hc, σ2, hc2, ?_, fin σ2 _ _ hf2 hN2⟩
    rw [hN2.2.1]
    show some (Value.int (nR B.1 + 1 - 1)) = _
    rw [ad1]
    rfl
  · rw [h.1.2.1] at q3
    obtain ⟨σ1, hc, hR1, hk⟩ := c_tell (d + 3) h (-1000005)
    rw [sRoad, if_neg q, if_neg q2, if_neg q3]
    exact ⟨_, σ1, hc, rfl, hR1, hk⟩
  · rw [sRoad, if_neg q, if_pos q2]
    exact ⟨_, σt, ht, rfl, hRt, hkt⟩
theorem y_road (d : Nat) {σ : z_M} {B : zB} (h : RepD σ B) (hv : VB B) (a b : Int32) : opD (d + 5) k_Md_road [.ref 53, .int a, .int b] σ (sRoad a b B) := by
  obtain ⟨P, R, G, eP, hP, eR, hR, -⟩ := hv.1
  have hlt : (nR B.1 < 10) = (R < 10) := by rw [eR]; simp (disch := omega) only [nL, n_lt]
  have ca := c_isPost (d + 3) σ a
  have cb := c_isPost (d + 3) σ b
  rw [h.1.1] at ca cb
  obtain ⟨σt, ht, hRt, hkt⟩ := c_finding (d + 3) h (-1000001)
  refine z_metD ⟨rfl, z_go 40 [] ⟨_, _, ca, fun q => ?_, fun q => ⟨_, _, cb, fun q2 => ⟨fun q3 => ?_, fun q3 => ?_⟩, fun q2 => ?_⟩⟩⟩
  · rw [sRoad, if_pos q]
    exact ⟨_, σt, ht, rfl, hRt, hkt⟩
  · rw [h.1.2.1, eR] at q3
    simp (disch := omega) only [nL, n_eq] at q3
    rw [sRoad, if_neg q, if_neg q2, if_pos (by rw [hlt]; omega)]
    obtain ⟨σ1, hc, hN1, -, hk, -, fin⟩ := c_keepB (d + 2) h
    obtain ⟨σ2, hc2, hf2, hk2, hN2⟩ := c_addRoad (d + 3) hN1 eR (by omega) a b
    refine ⟨σ1, hc, σ2, hc2, ?_, fin σ2 _ _ hf2 hk2 hN2⟩
    rw [hN2.2.1]
    show some (Value.int (nR B.1 + 1 - 1)) = _
    rw [ad1]
    rfl
  · rw [h.1.2.1, eR] at q3
    simp (disch := omega) only [nL, n_eq] at q3
    obtain ⟨σ1, hc, hR1, hk⟩ := c_finding (d + 3) h (-1000005)
    rw [sRoad, if_neg q, if_neg q2, if_neg (by rw [hlt]; omega)]
    exact ⟨_, σ1, hc, rfl, hR1, hk⟩
  · rw [sRoad, if_neg q, if_pos q2]
    exact ⟨_, σt, ht, rfl, hRt, hkt⟩
theorem NV_addR {N : zN} (h : NV N) {a b : Int32} (ha : ¬ hasP (nP N) a = 0) (hb : ¬ hasP (nP N) b = 0) (h10 : nR N < 10) : NV (addR N a b) := by
  obtain ⟨P, R, G, eP, hP, eR, hR, eG, hG, hi⟩ := h
  rw [eP] at ha hb
  rw [eR] at h10
  simp (disch := omega) only [nL, n_lt] at h10
  obtain ⟨a2, ha2, ea2⟩ := hasP_ne (by omega) ha
  obtain ⟨b2, hb2, eb2⟩ := hasP_ne (by omega) hb
  have eg : gR N = R := by unfold gR; rw [eR, nc (by omega)]
  refine ⟨P, R + 1, G, eP, hP, ?_, by omega, eG, hG, fun i hi2 => ?_⟩
  · show nR N + 1 = _
    rw [eR]
    exact nI_1 R
  · simp only [addR, eg, nS, nE, nD, nV]
    by_cases q : i = R
    · subst q
      simp only [upd_s]
      exact ⟨⟨a2, ha2, ea2⟩, ⟨b2, hb2, eb2⟩, by decide, by decide⟩
    · simp (disch := omega) only [upd_k]
      exact hi i (by omega)
theorem v_road {B : zB} (h : VB B) (a b : Int32) : VB (sRoad a b B).2 := by
  unfold sRoad
  split
  · exact h.tell _
  · split
    · exact h.tell _
    · split
      · exact h.act _ (NV_addR h.1 (by assumption) (by assumption) (by assumption))
      · exact h.tell _
def sLength (r v : Int32) (B : zB) : Int32 × zB := if hasP (nR B.1) r = 0 then oTell (-1000001) B else if v < 1 then oTell (-1000001) B else if v ≤ 9 then oAct (nD B.1 r.toNatClampNeg) (B.1.1, nS B.1, nE B.1, upd (nD B.1) r.toNatClampNeg v, nV B.1) B else oTell (-1000001) B
theorem x_length (d : Nat) {σ : z_M} {B : zB} (h : RepC σ B) (hv : VB B) (r v : Int32) : opC (d + 5) k_RF_length [.ref 0, .int r, .int v] σ (sLength r v B) := by
  obtain ⟨P, R, G, eP, hP, eR, hR, -⟩ := hv.1
  have ca := c_hasRoad (d + 3) σ r
  rw [h.1.2.1] at ca
  obtain ⟨σt, ht, hRt, hkt⟩ := c_tell (d + 3) h (-1000001)
  refine z_metC ⟨rfl, z_go 40 [] ⟨_, _, ca, fun q => ?_, fun q => ⟨fun q2 => ?_, fun q2 => ⟨fun q3 => ?_, fun q3 => ?_⟩⟩⟩⟩
  · rw [sLength, if_pos q]
    exact ⟨_, σt, ht, rfl, hRt, hkt⟩
  · rw [sLength, if_neg q, if_pos q2]
    exact ⟨_, σt, ht, rfl, hRt, hkt⟩
  · rw [sLength, if_neg q, if_neg q2, if_pos q3]
    rw [eR] at q
    obtain ⟨j, hj, rfl⟩ := hasP_ne (by omega) q
    obtain ⟨σ1, hc, hN1, -, hk, fin⟩ := c_beginB (d + 1) h
    refine ⟨σ1, hc, by (first | exact vin (by simp only [al_2, al_3, al_4, al_5, al_7, al_11, al_12, al_13, al_15, al_16, al_17, al_19, al_20, al_21, al_22, al_23, al_24, al_25, al_26, al_28, al_30, al_31, al_32, al_33, al_34, al_36, al_41, al_42, al_43, al_44, al_49, al_50, al_51, al_52, al_54, al_55, al_56, al_57, al_58, al_59, al_60, al_61, al_62, al_63, al_64, al_65, al_66, al_67, al_68, al_69, al_70, al_71, al_72, al_73, al_74, al_75, al_76, al_77, al_78, al_79, al_80]; omega) (by simp only [al_2, al_3, al_4, al_5, al_7, al_11, al_12, al_13, al_15, al_16, al_17, al_19, al_20, al_21, al_22, al_23, al_24, al_25, al_26, al_28, al_30, al_31, al_32, al_33, al_34, al_36, al_41, al_42, al_43, al_44, al_49, al_50, al_51, al_52, al_54, al_55, al_56, al_57, al_58, al_59, al_60, al_61, al_62, al_63, al_64, al_65, al_66, al_67, al_68, al_69, al_70, al_71, al_72, al_73, al_74, al_75, al_76, al_77, al_78, al_79, al_80]; decide) | (simp (disch := omega) only [nL, nI_add, pk_mul, nc, Nat.zero_add, al_2, al_3, al_4, al_5, al_7, al_11, al_12, al_13, al_15, al_16, al_17, al_19, al_20, al_21, al_22, al_23, al_24, al_25, al_26, al_28, al_30, al_31, al_32, al_33, al_34, al_36, al_41, al_42, al_43, al_44, al_49, al_50, al_51, al_52, al_54, al_55, al_56, al_57, al_58, al_59, al_60, al_61, al_62, al_63, al_64, al_65, al_66, al_67, al_68, al_69, al_70, al_71, al_72, al_73, al_74, al_75, al_76, al_77, al_78, al_79, al_80]; exact vin (by omega) (by decide))), by (first | exact vin (by simp only [al_2, al_3, al_4, al_5, al_7, al_11, al_12, al_13, al_15, al_16, al_17, al_19, al_20, al_21, al_22, al_23, al_24, al_25, al_26, al_28, al_30, al_31, al_32, al_33, al_34, al_36, al_41, al_42, al_43, al_44, al_49, al_50, al_51, al_52, al_54, al_55, al_56, al_57, al_58, al_59, al_60, al_61, al_62, al_63, al_64, al_65, al_66, al_67, al_68, al_69, al_70, al_71, al_72, al_73, al_74, al_75, al_76, al_77, al_78, al_79, al_80]; omega) (by simp only [al_2, al_3, al_4, al_5, al_7, al_11, al_12, al_13, al_15, al_16, al_17, al_19, al_20, al_21, al_22, al_23, al_24, al_25, al_26, al_28, al_30, al_31, al_32, al_33, al_34, al_36, al_41, al_42, al_43, al_44, al_49, al_50, al_51, al_52, al_54, al_55, al_56, al_57, al_58, al_59, al_60, al_61, al_62, al_63, al_64, al_65, al_66, al_67, al_68, al_69, al_70, al_71, al_72, al_73, al_74, al_75, al_76, al_77, al_78, al_79, al_80]; decide) | (simp (disch := omega) only [nL, nI_add, pk_mul, nc, Nat.zero_add, al_2, al_3, al_4, al_5, al_7, al_11, al_12, al_13, al_15, al_16, al_17, al_19, al_20, al_21, al_22, al_23, al_24, al_25, al_26, al_28, al_30, al_31, al_32, al_33, al_34, al_36, al_41, al_42, al_43, al_44, al_49, al_50, al_51, al_52, al_54, al_55, al_56, al_57, al_58, al_59, al_60, al_61, al_62, al_63, al_64, al_65, al_66, al_67, al_68, al_69, al_70, al_71, al_72, al_73, al_74, al_75, al_76, al_77, al_78, al_79, al_80]; exact vin (by omega) (by decide))), ?_⟩
    simp (disch := omega) only [nc]
    refine ⟨?_, fin _ _ _ (by (repeat (first | exact fr.rf | refine fr.cp ?_ (by decide) | refine fr.wr ?_ (by decide) | refine fr.wl ?_ (by decide)))) ⟨?_, ?_, ?_, fun i hi => ?_⟩⟩
    · rw [(hN1.2.2.2 j (by omega)).2.2.1]; rfl
    · rw [wr_c (by decide)]; exact hN1.1
    · rw [wr_c (by decide)]; exact hN1.2.1
    · rw [wr_c (by decide)]; exact hN1.2.2.1
    · obtain ⟨b1, b2, b3, b4⟩ := hN1.2.2.2 i hi
      refine ⟨by simp (disch := omega) only [nL, nI_add, pk_mul, nc, cp_in, cp_lo, cp_hi, cp_ne, wr_s, wr_k, wr_c, wr_e, Nat.zero_add]; exact b1, by simp (disch := omega) only [nL, nI_add, pk_mul, nc, cp_in, cp_lo, cp_hi, cp_ne, wr_s, wr_k, wr_c, wr_e, Nat.zero_add]; exact b2, ?_, by simp (disch := omega) only [nL, nI_add, pk_mul, nc, cp_in, cp_lo, cp_hi, cp_ne, wr_s, wr_k, wr_c, wr_e, Nat.zero_add]; exact b4⟩
      by_cases e : i = j
      · subst e
        rw [wr_s]
        exact upd_s.symm
      · rw [wr_k e]
        exact b3.trans (upd_k e).symm
  · rw [sLength, if_neg q, if_neg q2, if_neg q3]
    exact ⟨_, σt, ht, rfl, hRt, hkt⟩
theorem y_length (d : Nat) {σ : z_M} {B : zB} (h : RepD σ B) (hv : VB B) (r v : Int32) : opD (d + 5) k_Md_length [.ref 53, .int r, .int v] σ (sLength r v B) := by
  obtain ⟨P, R, G, eP, hP, eR, hR, -⟩ := hv.1
  have ca := c_isRoad (d + 3) σ r
  rw [h.1.2.1] at ca
  obtain ⟨σt, ht, hRt, hkt⟩ := c_finding (d + 3) h (-1000001)
  refine z_metD ⟨rfl, z_go 40 [] ⟨_, _, ca, fun q => ?_, fun q => ⟨fun q2 => ?_, fun q2 => ⟨fun q3 => ?_, fun q3 => ?_⟩⟩⟩⟩
  · rw [sLength, if_pos q]
    exact ⟨_, σt, ht, rfl, hRt, hkt⟩
  · rw [sLength, if_neg q, if_pos q2]
    exact ⟨_, σt, ht, rfl, hRt, hkt⟩
  · rw [sLength, if_neg q, if_neg q2, if_pos q3]
    rw [eR] at q
    obtain ⟨j, hj, rfl⟩ := hasP_ne (by omega) q
    obtain ⟨σ1, hc, hN1, -, hk, -, fin⟩ := c_keepB (d + 2) h
    refine ⟨σ1, hc, by (first | exact vin (by simp only [al_2, al_3, al_4, al_5, al_7, al_11, al_12, al_13, al_15, al_16, al_17, al_19, al_20, al_21, al_22, al_23, al_24, al_25, al_26, al_28, al_30, al_31, al_32, al_33, al_34, al_36, al_41, al_42, al_43, al_44, al_49, al_50, al_51, al_52, al_54, al_55, al_56, al_57, al_58, al_59, al_60, al_61, al_62, al_63, al_64, al_65, al_66, al_67, al_68, al_69, al_70, al_71, al_72, al_73, al_74, al_75, al_76, al_77, al_78, al_79, al_80]; omega) (by simp only [al_2, al_3, al_4, al_5, al_7, al_11, al_12, al_13, al_15, al_16, al_17, al_19, al_20, al_21, al_22, al_23, al_24, al_25, al_26, al_28, al_30, al_31, al_32, al_33, al_34, al_36, al_41, al_42, al_43, al_44, al_49, al_50, al_51, al_52, al_54, al_55, al_56, al_57, al_58, al_59, al_60, al_61, al_62, al_63, al_64, al_65, al_66, al_67, al_68, al_69, al_70, al_71, al_72, al_73, al_74, al_75, al_76, al_77, al_78, al_79, al_80]; decide) | (simp (disch := omega) only [nL, nI_add, pk_mul, nc, Nat.zero_add, al_2, al_3, al_4, al_5, al_7, al_11, al_12, al_13, al_15, al_16, al_17, al_19, al_20, al_21, al_22, al_23, al_24, al_25, al_26, al_28, al_30, al_31, al_32, al_33, al_34, al_36, al_41, al_42, al_43, al_44, al_49, al_50, al_51, al_52, al_54, al_55, al_56, al_57, al_58, al_59, al_60, al_61, al_62, al_63, al_64, al_65, al_66, al_67, al_68, al_69, al_70, al_71, al_72, al_73, al_74, al_75, al_76, al_77, al_78, al_79, al_80]; exact vin (by omega) (by decide))), by (first | exact vin (by simp only [al_2, al_3, al_4, al_5, al_7, al_11, al_12, al_13, al_15, al_16, al_17, al_19, al_20, al_21, al_22, al_23, al_24, al_25, al_26, al_28, al_30, al_31, al_32, al_33, al_34, al_36, al_41, al_42, al_43, al_44, al_49, al_50, al_51, al_52, al_54, al_55, al_56, al_57, al_58, al_59, al_60, al_61, al_62, al_63, al_64, al_65, al_66, al_67, al_68, al_69, al_70, al_71, al_72, al_73, al_74, al_75, al_76, al_77, al_78, al_79, al_80]; omega) (by simp only [al_2, al_3, al_4, al_5, al_7, al_11, al_12, al_13, al_15, al_16, al_17, al_19, al_20, al_21, al_22, al_23, al_24, al_25, al_26, al_28, al_30, al_31, al_32, al_33, al_34, al_36, al_41, al_42, al_43, al_44, al_49, al_50, al_51, al_52, al_54, al_55, al_56, al_57, al_58, al_59, al_60, al_61, al_62, al_63, al_64, al_65, al_66, al_67, al_68, al_69, al_70, al_71, al_72, al_73, al_74, al_75, al_76, al_77, al_78, al_79, al_80]; decide) | (simp (disch := omega) only [nL, nI_add, pk_mul, nc, Nat.zero_add, al_2, al_3, al_4, al_5, al_7, al_11, al_12, al_13, al_15, al_16, al_17, al_19, al_20, al_21, al_22, al_23, al_24, al_25, al_26, al_28, al_30, al_31, al_32, al_33, al_34, al_36, al_41, al_42, al_43, al_44, al_49, al_50, al_51, al_52, al_54, al_55, al_56, al_57, al_58, al_59, al_60, al_61, al_62, al_63, al_64, al_65, al_66, al_67, al_68, al_69, al_70, al_71, al_72, al_73, al_74, al_75, al_76, al_77, al_78, al_79, al_80]; exact vin (by omega) (by decide))), ?_⟩
    simp (disch := omega) only [nc]
    refine ⟨?_, fin _ _ _ (by (repeat (first | exact fr.rf | refine fr.cp ?_ (by decide) | refine fr.wr ?_ (by decide) | refine fr.wl ?_ (by decide)))) (fun k hk => by simp (disch := omega) only [nL, nI_add, pk_mul, nc, cp_in, cp_lo, cp_hi, cp_ne, wr_s, wr_k, wr_c, wr_e, Nat.zero_add]) ⟨?_, ?_, ?_, fun i hi => ?_⟩⟩
    · rw [(hN1.2.2.2 j (by omega)).2.2.1]; rfl
    · rw [wr_c (by decide)]; exact hN1.1
    · rw [wr_c (by decide)]; exact hN1.2.1
    · rw [wr_c (by decide)]; exact hN1.2.2.1
    · obtain ⟨b1, b2, b3, b4⟩ := hN1.2.2.2 i hi
      refine ⟨by simp (disch := omega) only [nL, nI_add, pk_mul, nc, cp_in, cp_lo, cp_hi, cp_ne, wr_s, wr_k, wr_c, wr_e, Nat.zero_add]; exact b1, by simp (disch := omega) only [nL, nI_add, pk_mul, nc, cp_in, cp_lo, cp_hi, cp_ne, wr_s, wr_k, wr_c, wr_e, Nat.zero_add]; exact b2, ?_, by simp (disch := omega) only [nL, nI_add, pk_mul, nc, cp_in, cp_lo, cp_hi, cp_ne, wr_s, wr_k, wr_c, wr_e, Nat.zero_add]; exact b4⟩
      by_cases e : i = j
      · subst e
        rw [wr_s]
        exact upd_s.symm
      · rw [wr_k e]
        exact b3.trans (upd_k e).symm
  · rw [sLength, if_neg q, if_neg q2, if_neg q3]
    exact ⟨_, σt, ht, rfl, hRt, hkt⟩
theorem v_length {B : zB} (h : VB B) (r v : Int32) : VB (sLength r v B).2 := by
  unfold sLength
  split
  · exact h.tell _
  · split
    · exact h.tell _
    · split
      · exact h.act _ h.1
      · exact h.tell _
