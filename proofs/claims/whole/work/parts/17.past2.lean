/-! going back; the model's past -/
theorem c_readFrom (d : Nat) (σ : z_M) (a : Nat) (ha : a + 43 ≤ 1075) : ∃ σ', z_call (d + 1) k_Net_readFrom [.ref 1, .ref 7, .int (nI a)] σ none σ' ∧ fr [1, 2, 3, 4, 5] σ σ' ∧
    σ'.1 1 0 = σ.1 7 a ∧ σ'.1 1 1 = σ.1 7 (a + 1) ∧ σ'.1 1 2 = σ.1 7 (a + 2) ∧ ∀ i, i < 10 → σ'.1 2 i = σ.1 7 (a + 3 + i) ∧ σ'.1 3 i = σ.1 7 (a + 13 + i) ∧ σ'.1 4 i = σ.1 7 (a + 23 + i) ∧ σ'.1 5 i = σ.1 7 (a + 33 + i) := by
  refine ⟨_, ⟨rfl, z_go 70 [] ⟨?_, ?_, ?_, ?_, ?_, ?_, ?_, rfl, rfl⟩⟩, by (repeat (first | exact fr.rf | refine fr.cp ?_ (by decide) | refine fr.wr ?_ (by decide) | refine fr.wl ?_ (by decide))), ?_⟩
  · (first | exact vin (by simp only [al_2, al_3, al_4, al_5, al_7, al_11, al_12, al_13, al_15, al_16, al_17, al_19, al_20, al_21, al_22, al_23, al_24, al_25, al_26, al_28, al_30, al_31, al_32, al_33, al_34, al_36, al_41, al_42, al_43, al_44, al_49, al_50, al_51, al_52, al_54, al_55, al_56, al_57, al_58, al_59, al_60, al_61, al_62, al_63, al_64, al_65, al_66, al_67, al_68, al_69, al_70, al_71, al_72, al_73, al_74, al_75, al_76, al_77, al_78, al_79, al_80]; omega) (by simp only [al_2, al_3, al_4, al_5, al_7, al_11, al_12, al_13, al_15, al_16, al_17, al_19, al_20, al_21, al_22, al_23, al_24, al_25, al_26, al_28, al_30, al_31, al_32, al_33, al_34, al_36, al_41, al_42, al_43, al_44, al_49, al_50, al_51, al_52, al_54, al_55, al_56, al_57, al_58, al_59, al_60, al_61, al_62, al_63, al_64, al_65, al_66, al_67, al_68, al_69, al_70, al_71, al_72, al_73, al_74, al_75, al_76, al_77, al_78, al_79, al_80]; decide) | (simp (disch := omega) only [nL, nI_add, pk_mul, nc, Nat.zero_add, al_2, al_3, al_4, al_5, al_7, al_11, al_12, al_13, al_15, al_16, al_17, al_19, al_20, al_21, al_22, al_23, al_24, al_25, al_26, al_28, al_30, al_31, al_32, al_33, al_34, al_36, al_41, al_42, al_43, al_44, al_49, al_50, al_51, al_52, al_54, al_55, al_56, al_57, al_58, al_59, al_60, al_61, al_62, al_63, al_64, al_65, al_66, al_67, al_68, al_69, al_70, al_71, al_72, al_73, al_74, al_75, al_76, al_77, al_78, al_79, al_80]; exact vin (by omega) (by decide)))
  · (first | exact vin (by simp only [al_2, al_3, al_4, al_5, al_7, al_11, al_12, al_13, al_15, al_16, al_17, al_19, al_20, al_21, al_22, al_23, al_24, al_25, al_26, al_28, al_30, al_31, al_32, al_33, al_34, al_36, al_41, al_42, al_43, al_44, al_49, al_50, al_51, al_52, al_54, al_55, al_56, al_57, al_58, al_59, al_60, al_61, al_62, al_63, al_64, al_65, al_66, al_67, al_68, al_69, al_70, al_71, al_72, al_73, al_74, al_75, al_76, al_77, al_78, al_79, al_80]; omega) (by simp only [al_2, al_3, al_4, al_5, al_7, al_11, al_12, al_13, al_15, al_16, al_17, al_19, al_20, al_21, al_22, al_23, al_24, al_25, al_26, al_28, al_30, al_31, al_32, al_33, al_34, al_36, al_41, al_42, al_43, al_44, al_49, al_50, al_51, al_52, al_54, al_55, al_56, al_57, al_58, al_59, al_60, al_61, al_62, al_63, al_64, al_65, al_66, al_67, al_68, al_69, al_70, al_71, al_72, al_73, al_74, al_75, al_76, al_77, al_78, al_79, al_80]; decide) | (simp (disch := omega) only [nL, nI_add, pk_mul, nc, Nat.zero_add, al_2, al_3, al_4, al_5, al_7, al_11, al_12, al_13, al_15, al_16, al_17, al_19, al_20, al_21, al_22, al_23, al_24, al_25, al_26, al_28, al_30, al_31, al_32, al_33, al_34, al_36, al_41, al_42, al_43, al_44, al_49, al_50, al_51, al_52, al_54, al_55, al_56, al_57, al_58, al_59, al_60, al_61, al_62, al_63, al_64, al_65, al_66, al_67, al_68, al_69, al_70, al_71, al_72, al_73, al_74, al_75, al_76, al_77, al_78, al_79, al_80]; exact vin (by omega) (by decide)))
  · (first | exact vin (by simp only [al_2, al_3, al_4, al_5, al_7, al_11, al_12, al_13, al_15, al_16, al_17, al_19, al_20, al_21, al_22, al_23, al_24, al_25, al_26, al_28, al_30, al_31, al_32, al_33, al_34, al_36, al_41, al_42, al_43, al_44, al_49, al_50, al_51, al_52, al_54, al_55, al_56, al_57, al_58, al_59, al_60, al_61, al_62, al_63, al_64, al_65, al_66, al_67, al_68, al_69, al_70, al_71, al_72, al_73, al_74, al_75, al_76, al_77, al_78, al_79, al_80]; omega) (by simp only [al_2, al_3, al_4, al_5, al_7, al_11, al_12, al_13, al_15, al_16, al_17, al_19, al_20, al_21, al_22, al_23, al_24, al_25, al_26, al_28, al_30, al_31, al_32, al_33, al_34, al_36, al_41, al_42, al_43, al_44, al_49, al_50, al_51, al_52, al_54, al_55, al_56, al_57, al_58, al_59, al_60, al_61, al_62, al_63, al_64, al_65, al_66, al_67, al_68, al_69, al_70, al_71, al_72, al_73, al_74, al_75, al_76, al_77, al_78, al_79, al_80]; decide) | (simp (disch := omega) only [nL, nI_add, pk_mul, nc, Nat.zero_add, al_2, al_3, al_4, al_5, al_7, al_11, al_12, al_13, al_15, al_16, al_17, al_19, al_20, al_21, al_22, al_23, al_24, al_25, al_26, al_28, al_30, al_31, al_32, al_33, al_34, al_36, al_41, al_42, al_43, al_44, al_49, al_50, al_51, al_52, al_54, al_55, al_56, al_57, al_58, al_59, al_60, al_61, al_62, al_63, al_64, al_65, al_66, al_67, al_68, al_69, al_70, al_71, al_72, al_73, al_74, al_75, al_76, al_77, al_78, al_79, al_80]; exact vin (by omega) (by decide)))
  · (simp (disch := omega) only [nL, nI_add, pk_mul, nc, Nat.zero_add, al_2, al_3, al_4, al_5, al_7, al_11, al_12, al_13, al_15, al_16, al_17, al_19, al_20, al_21, al_22, al_23, al_24, al_25, al_26, al_28, al_30, al_31, al_32, al_33, al_34, al_36, al_41, al_42, al_43, al_44, al_49, al_50, al_51, al_52, al_54, al_55, al_56, al_57, al_58, al_59, al_60, al_61, al_62, al_63, al_64, al_65, al_66, al_67, al_68, al_69, al_70, al_71, al_72, al_73, al_74, al_75, al_76, al_77, al_78, al_79, al_80]; exact ⟨n_nn (by omega), n_nn (by omega), n_nn (by omega), by omega, by omega⟩)
  · (simp (disch := omega) only [nL, nI_add, pk_mul, nc, Nat.zero_add, al_2, al_3, al_4, al_5, al_7, al_11, al_12, al_13, al_15, al_16, al_17, al_19, al_20, al_21, al_22, al_23, al_24, al_25, al_26, al_28, al_30, al_31, al_32, al_33, al_34, al_36, al_41, al_42, al_43, al_44, al_49, al_50, al_51, al_52, al_54, al_55, al_56, al_57, al_58, al_59, al_60, al_61, al_62, al_63, al_64, al_65, al_66, al_67, al_68, al_69, al_70, al_71, al_72, al_73, al_74, al_75, al_76, al_77, al_78, al_79, al_80]; exact ⟨n_nn (by omega), n_nn (by omega), n_nn (by omega), by omega, by omega⟩)
  · (simp (disch := omega) only [nL, nI_add, pk_mul, nc, Nat.zero_add, al_2, al_3, al_4, al_5, al_7, al_11, al_12, al_13, al_15, al_16, al_17, al_19, al_20, al_21, al_22, al_23, al_24, al_25, al_26, al_28, al_30, al_31, al_32, al_33, al_34, al_36, al_41, al_42, al_43, al_44, al_49, al_50, al_51, al_52, al_54, al_55, al_56, al_57, al_58, al_59, al_60, al_61, al_62, al_63, al_64, al_65, al_66, al_67, al_68, al_69, al_70, al_71, al_72, al_73, al_74, al_75, al_76, al_77, al_78, al_79, al_80]; exact ⟨n_nn (by omega), n_nn (by omega), n_nn (by omega), by omega, by omega⟩)
  · (simp (disch := omega) only [nL, nI_add, pk_mul, nc, Nat.zero_add, al_2, al_3, al_4, al_5, al_7, al_11, al_12, al_13, al_15, al_16, al_17, al_19, al_20, al_21, al_22, al_23, al_24, al_25, al_26, al_28, al_30, al_31, al_32, al_33, al_34, al_36, al_41, al_42, al_43, al_44, al_49, al_50, al_51, al_52, al_54, al_55, al_56, al_57, al_58, al_59, al_60, al_61, al_62, al_63, al_64, al_65, al_66, al_67, al_68, al_69, al_70, al_71, al_72, al_73, al_74, al_75, al_76, al_77, al_78, al_79, al_80]; exact ⟨n_nn (by omega), n_nn (by omega), n_nn (by omega), by omega, by omega⟩)
  · refine ⟨?_, ?_, ?_, fun i hi => ⟨?_, ?_, ?_, ?_⟩⟩
    · simp (disch := omega) only [nL, nI_add, pk_mul, nc, cp_in, cp_lo, cp_hi, cp_ne, wr_s, wr_k, wr_c, wr_e, Nat.zero_add]
    · simp (disch := omega) only [nL, nI_add, pk_mul, nc, cp_in, cp_lo, cp_hi, cp_ne, wr_s, wr_k, wr_c, wr_e, Nat.zero_add]
    · simp (disch := omega) only [nL, nI_add, pk_mul, nc, cp_in, cp_lo, cp_hi, cp_ne, wr_s, wr_k, wr_c, wr_e, Nat.zero_add]
    · simp (disch := omega) only [nL, nI_add, pk_mul, nc, cp_in, cp_lo, cp_hi, cp_ne, wr_s, wr_k, wr_c, wr_e, Nat.zero_add]
      rw [Nat.sub_zero]
    · simp (disch := omega) only [nL, nI_add, pk_mul, nc, cp_in, cp_lo, cp_hi, cp_ne, wr_s, wr_k, wr_c, wr_e, Nat.zero_add]
      rw [Nat.sub_zero, show a + 3 + 10 + i = a + 13 + i by omega]
    · simp (disch := omega) only [nL, nI_add, pk_mul, nc, cp_in, cp_lo, cp_hi, cp_ne, wr_s, wr_k, wr_c, wr_e, Nat.zero_add]
      rw [Nat.sub_zero, show a + 3 + 20 + i = a + 23 + i by omega]
    · simp (disch := omega) only [nL, nI_add, pk_mul, nc, cp_in, cp_lo, cp_hi, cp_ne, wr_s, wr_k, wr_c, wr_e, Nat.zero_add]
      rw [Nat.sub_zero, show a + 3 + 30 + i = a + 33 + i by omega]
theorem pk_sub1 {n : Nat} (h : 0 < n) : nI n - nI 1 = nI (n - 1) := pk_sub h
theorem c_goBack (d : Nat) (σ : z_M) (p : Nat × (Nat → zN)) (n : Nat) (hn : p.1 = n + 1) (hp : pastC σ p) : ∃ σ', z_call (d + 2) k_Past_goBack [.ref 6, .ref 1] σ none σ' ∧ fr [1, 2, 3, 4, 5, 6] σ σ' ∧ netC σ' (p.2 n) ∧ pastC σ' (n, p.2) ∧ σ'.1 6 2 = nI n := by
  obtain ⟨x, hx, hn25, hx1, hx2, hs⟩ := hp
  have fin : ∀ (y : Nat) (σ1 : z_M), y = (if x = 0 then 24 else x - 1) → fr [6] σ σ1 → σ1.1 6 1 = nI y → σ1.1 6 2 = nI n → ∃ σ', z_call (d + 1) k_Net_readFrom [.ref 1, .ref 7, .int (nI (43 * y))] σ1 none σ' ∧ fr [1, 2, 3, 4, 5, 6] σ σ' ∧ netC σ' (p.2 n) ∧ pastC σ' (n, p.2) ∧ σ'.1 6 2 = nI n := by
    intro y σ1 hy hf e1 e2
    have hy25 : y < 25 := by subst hy; split <;> omega
    obtain ⟨σ2, hc, hf2, w0, w1, w2, w3⟩ := c_readFrom d σ1 (43 * y) (by omega)
    have h7 : σ1.1 7 = σ.1 7 := hf.1 7 (by decide)
    have hsn := hs n (by omega)
    rw [show (x + 25 - p.1 + n) % 25 = y by subst hy; split <;> omega] at hsn
    obtain ⟨s0, s1, s2, s3⟩ := hsn
    rw [h7] at w0 w1 w2 w3
    refine ⟨σ2, hc, (hf.wk _ (by decide)).tr (hf2.wk _ (by decide)), ⟨w0.trans s0, w1.trans s1, w2.trans s2, fun i hi => ?_⟩, ⟨y, hy25, by omega, by rw [hf2.at (by decide)]; exact e1, by rw [hf2.at (by decide)]; exact e2, fun j hj => ?_⟩, by rw [hf2.at (by decide)]; exact e2⟩
    · obtain ⟨a, b, c, d⟩ := w3 i hi
      obtain ⟨a', b', c', d'⟩ := s3 i hi
      exact ⟨a.trans a', b.trans b', c.trans c', d.trans d'⟩
    · have := hs j (by show j < p.1; omega)
      rw [show (x + 25 - p.1 + j) % 25 = (y + 25 - n + j) % 25 by subst hy; split <;> omega] at this
      exact snC_keep this (fun k _ _ => by rw [hf2.1 7 (by decide), h7])
  refine z_metV ⟨rfl, z_go 40 [] ⟨fun h => ⟨fun h2 => ?_, fun h2 => ?_⟩, fun h => ?_⟩⟩
  · rw [hx1] at h2
    have hx0 : x = 0 := by
      have : nI x ≤ nI 0 := h2
      rw [n_le (by omega) (by omega)] at this
      omega
    obtain ⟨σ2, hc, q⟩ := fin 24 (z_wr (z_wr σ 6 1 24) 6 2 (σ.1 6 2 - 1)) (by rw [if_pos hx0]) (by (repeat (first | exact fr.rf | refine fr.cp ?_ (by decide) | refine fr.wr ?_ (by decide) | refine fr.wl ?_ (by decide)))) (by simp (disch := omega) only [nL, nI_add, pk_mul, nc, cp_in, cp_lo, cp_hi, cp_ne, wr_s, wr_k, wr_c, wr_e, Nat.zero_add]) (by
      rw [wr_s, hx2, hn]
      exact nI_pred n)
    refine ⟨σ2, ?_, rfl, q⟩
    have e : (z_wr (z_wr σ 6 1 24) 6 2 (σ.1 6 2 - 1)).1 6 1 * 43 = nI (43 * 24) := by
      simp (disch := omega) only [nL, nI_add, pk_mul, nc, cp_in, cp_lo, cp_hi, cp_ne, wr_s, wr_k, wr_c, wr_e, Nat.zero_add]
    exact e ▸ hc
  · rw [hx1] at h2
    have hx0 : ¬ x = 0 := by
      intro q
      subst q
      exact h2 (Int32.le_refl 0)
    have em : nI x - 1 = nI (x - 1) := pk_sub1 (by omega)
    obtain ⟨σ2, hc, q⟩ := fin (x - 1) (z_wr (z_wr σ 6 1 (σ.1 6 1 - 1)) 6 2 (σ.1 6 2 - 1)) (by rw [if_neg hx0]) (by (repeat (first | exact fr.rf | refine fr.cp ?_ (by decide) | refine fr.wr ?_ (by decide) | refine fr.wl ?_ (by decide)))) (by
      rw [wr_k (by decide), wr_s, hx1]
      exact em) (by
      rw [wr_s, hx2, hn]
      exact nI_pred n)
    refine ⟨σ2, ?_, rfl, q⟩
    have e : (z_wr (z_wr σ 6 1 (σ.1 6 1 - 1)) 6 2 (σ.1 6 2 - 1)).1 6 1 * 43 = nI (43 * (x - 1)) := by
      rw [wr_k (by decide), wr_s, hx1, em, Nat.mul_comm]
      exact pk_mul _ _
    exact e ▸ hc
  · rw [hx2] at h
    have : nI p.1 = nI 0 := h
    rw [n_eq (by omega) (by omega)] at this
    omega
theorem c_begin (d : Nat) (σ : z_M) (N : zN) (p : Nat × (Nat → zN)) (hN : netC σ N) (hp : pastC σ p) : ∃ σ', z_call (d + 3) k_RF_begin [.ref 0] σ none σ' ∧ fr [0, 6, 7] σ σ' ∧ pastC σ' (pu p N) ∧ σ'.1 0 9 = 0 ∧ ∀ k, k ≠ 9 → σ'.1 0 k = σ.1 0 k := by
  obtain ⟨σ1, hc, hf, hp1⟩ := c_remember d σ N p hN hp
  refine ⟨_, ⟨rfl, z_go 20 [] ⟨σ1, hc, Or.inl rfl, rfl, rfl⟩⟩, fr.wr (hf.wk _ (by decide)) (by decide), ?_, wr_s, fun k hk => ?_⟩
  · exact hp1.fr (z_wr_ne (by decide)) (z_wr_ne (by decide))
  · rw [wr_k hk, hf.at (by decide)]
theorem c_carryS (d : Nat) (σ : z_M) (a : Nat) (ha : a + 43 ≤ 1075) : ∃ σ', z_call (d + 1) k_Md_carry [.ref 53, .int (nI a), .int 0] σ none σ' ∧ fr [58] σ σ' ∧
    (∀ k, (k < a ∨ a + 43 ≤ k) → σ'.1 58 k = σ.1 58 k) ∧ σ'.1 58 a = σ.1 53 0 ∧ σ'.1 58 (a + 1) = σ.1 53 1 ∧ σ'.1 58 (a + 2) = σ.1 53 2 ∧ ∀ i, i < 10 → σ'.1 58 (a + 3 + 4 * i) = σ.1 54 i ∧ σ'.1 58 (a + 3 + 4 * i + 1) = σ.1 55 i ∧ σ'.1 58 (a + 3 + 4 * i + 2) = σ.1 56 i ∧ σ'.1 58 (a + 3 + 4 * i + 3) = σ.1 57 i := by
  have loop : ∀ (n j : Nat) (σj : z_M) (v4 : Option Value), j + n = 10 → fr [58] σ σj → (∀ k, (k < a ∨ a + 43 ≤ k) → σj.1 58 k = σ.1 58 k) → σj.1 58 a = σ.1 53 0 → σj.1 58 (a + 1) = σ.1 53 1 → σj.1 58 (a + 2) = σ.1 53 2 →
      (∀ i, i < j → σj.1 58 (a + 3 + 4 * i) = σ.1 54 i ∧ σj.1 58 (a + 3 + 4 * i + 1) = σ.1 55 i ∧ σj.1 58 (a + 3 + 4 * i + 2) = σ.1 56 i ∧ σj.1 58 (a + 3 + 4 * i + 3) = σ.1 57 i) →
      z_wp (z_call d) none k_Md_carry (fun r s => r = none ∧ (fr [58] σ s ∧ (∀ k, (k < a ∨ a + 43 ≤ k) → s.1 58 k = σ.1 58 k) ∧ s.1 58 a = σ.1 53 0 ∧ s.1 58 (a + 1) = σ.1 53 1 ∧ s.1 58 (a + 2) = σ.1 53 2 ∧ ∀ i, i < 10 → s.1 58 (a + 3 + 4 * i) = σ.1 54 i ∧ s.1 58 (a + 3 + 4 * i + 1) = σ.1 55 i ∧ s.1 58 (a + 3 + 4 * i + 2) = σ.1 56 i ∧ s.1 58 (a + 3 + 4 * i + 3) = σ.1 57 i)) 77 [some (.ref 53), some (.int (nI a)), some (.int 0), some (.int (nI j)), v4] [] σj := by
    intro n
    induction n with
    | zero =>
      intro j σj v4 hj hf hk w0 w1 w2 w3
      refine z_go 60 [77] ⟨fun h => ⟨rfl, hf, hk, w0, w1, w2, fun i hi => w3 i (by omega)⟩, fun h => ?_⟩
      simp (disch := omega) only [nL, nI_add, pk_mul, n_le, n_lt, n_eq] at h
      omega
    | succ n ih =>
      intro j σj v4 hj hf hk w0 w1 w2 w3
      refine z_go 60 [77] ⟨fun h => ?_, fun h => ⟨fun _ => ⟨?_, ?_, ?_, ?_, ?_, ?_, ?_, ?_, ?_⟩, fun h => absurd rfl h⟩⟩
      · simp (disch := omega) only [nL, nI_add, pk_mul, n_le, n_lt, n_eq] at h
        omega
      · (first | exact vin (by simp only [al_2, al_3, al_4, al_5, al_7, al_11, al_12, al_13, al_15, al_16, al_17, al_19, al_20, al_21, al_22, al_23, al_24, al_25, al_26, al_28, al_30, al_31, al_32, al_33, al_34, al_36, al_41, al_42, al_43, al_44, al_49, al_50, al_51, al_52, al_54, al_55, al_56, al_57, al_58, al_59, al_60, al_61, al_62, al_63, al_64, al_65, al_66, al_67, al_68, al_69, al_70, al_71, al_72, al_73, al_74, al_75, al_76, al_77, al_78, al_79, al_80]; omega) (by simp only [al_2, al_3, al_4, al_5, al_7, al_11, al_12, al_13, al_15, al_16, al_17, al_19, al_20, al_21, al_22, al_23, al_24, al_25, al_26, al_28, al_30, al_31, al_32, al_33, al_34, al_36, al_41, al_42, al_43, al_44, al_49, al_50, al_51, al_52, al_54, al_55, al_56, al_57, al_58, al_59, al_60, al_61, al_62, al_63, al_64, al_65, al_66, al_67, al_68, al_69, al_70, al_71, al_72, al_73, al_74, al_75, al_76, al_77, al_78, al_79, al_80]; decide) | (simp (disch := omega) only [nL, nI_add, pk_mul, nc, Nat.zero_add, al_2, al_3, al_4, al_5, al_7, al_11, al_12, al_13, al_15, al_16, al_17, al_19, al_20, al_21, al_22, al_23, al_24, al_25, al_26, al_28, al_30, al_31, al_32, al_33, al_34, al_36, al_41, al_42, al_43, al_44, al_49, al_50, al_51, al_52, al_54, al_55, al_56, al_57, al_58, al_59, al_60, al_61, al_62, al_63, al_64, al_65, al_66, al_67, al_68, al_69, al_70, al_71, al_72, al_73, al_74, al_75, al_76, al_77, al_78, al_79, al_80]; exact vin (by omega) (by decide)))
      · (first | exact vin (by simp only [al_2, al_3, al_4, al_5, al_7, al_11, al_12, al_13, al_15, al_16, al_17, al_19, al_20, al_21, al_22, al_23, al_24, al_25, al_26, al_28, al_30, al_31, al_32, al_33, al_34, al_36, al_41, al_42, al_43, al_44, al_49, al_50, al_51, al_52, al_54, al_55, al_56, al_57, al_58, al_59, al_60, al_61, al_62, al_63, al_64, al_65, al_66, al_67, al_68, al_69, al_70, al_71, al_72, al_73, al_74, al_75, al_76, al_77, al_78, al_79, al_80]; omega) (by simp only [al_2, al_3, al_4, al_5, al_7, al_11, al_12, al_13, al_15, al_16, al_17, al_19, al_20, al_21, al_22, al_23, al_24, al_25, al_26, al_28, al_30, al_31, al_32, al_33, al_34, al_36, al_41, al_42, al_43, al_44, al_49, al_50, al_51, al_52, al_54, al_55, al_56, al_57, al_58, al_59, al_60, al_61, al_62, al_63, al_64, al_65, al_66, al_67, al_68, al_69, al_70, al_71, al_72, al_73, al_74, al_75, al_76, al_77, al_78, al_79, al_80]; decide) | (simp (disch := omega) only [nL, nI_add, pk_mul, nc, Nat.zero_add, al_2, al_3, al_4, al_5, al_7, al_11, al_12, al_13, al_15, al_16, al_17, al_19, al_20, al_21, al_22, al_23, al_24, al_25, al_26, al_28, al_30, al_31, al_32, al_33, al_34, al_36, al_41, al_42, al_43, al_44, al_49, al_50, al_51, al_52, al_54, al_55, al_56, al_57, al_58, al_59, al_60, al_61, al_62, al_63, al_64, al_65, al_66, al_67, al_68, al_69, al_70, al_71, al_72, al_73, al_74, al_75, al_76, al_77, al_78, al_79, al_80]; exact vin (by omega) (by decide)))
      · (first | exact vin (by simp only [al_2, al_3, al_4, al_5, al_7, al_11, al_12, al_13, al_15, al_16, al_17, al_19, al_20, al_21, al_22, al_23, al_24, al_25, al_26, al_28, al_30, al_31, al_32, al_33, al_34, al_36, al_41, al_42, al_43, al_44, al_49, al_50, al_51, al_52, al_54, al_55, al_56, al_57, al_58, al_59, al_60, al_61, al_62, al_63, al_64, al_65, al_66, al_67, al_68, al_69, al_70, al_71, al_72, al_73, al_74, al_75, al_76, al_77, al_78, al_79, al_80]; omega) (by simp only [al_2, al_3, al_4, al_5, al_7, al_11, al_12, al_13, al_15, al_16, al_17, al_19, al_20, al_21, al_22, al_23, al_24, al_25, al_26, al_28, al_30, al_31, al_32, al_33, al_34, al_36, al_41, al_42, al_43, al_44, al_49, al_50, al_51, al_52, al_54, al_55, al_56, al_57, al_58, al_59, al_60, al_61, al_62, al_63, al_64, al_65, al_66, al_67, al_68, al_69, al_70, al_71, al_72, al_73, al_74, al_75, al_76, al_77, al_78, al_79, al_80]; decide) | (simp (disch := omega) only [nL, nI_add, pk_mul, nc, Nat.zero_add, al_2, al_3, al_4, al_5, al_7, al_11, al_12, al_13, al_15, al_16, al_17, al_19, al_20, al_21, al_22, al_23, al_24, al_25, al_26, al_28, al_30, al_31, al_32, al_33, al_34, al_36, al_41, al_42, al_43, al_44, al_49, al_50, al_51, al_52, al_54, al_55, al_56, al_57, al_58, al_59, al_60, al_61, al_62, al_63, al_64, al_65, al_66, al_67, al_68, al_69, al_70, al_71, al_72, al_73, al_74, al_75, al_76, al_77, al_78, al_79, al_80]; exact vin (by omega) (by decide)))
      · (first | exact vin (by simp only [al_2, al_3, al_4, al_5, al_7, al_11, al_12, al_13, al_15, al_16, al_17, al_19, al_20, al_21, al_22, al_23, al_24, al_25, al_26, al_28, al_30, al_31, al_32, al_33, al_34, al_36, al_41, al_42, al_43, al_44, al_49, al_50, al_51, al_52, al_54, al_55, al_56, al_57, al_58, al_59, al_60, al_61, al_62, al_63, al_64, al_65, al_66, al_67, al_68, al_69, al_70, al_71, al_72, al_73, al_74, al_75, al_76, al_77, al_78, al_79, al_80]; omega) (by simp only [al_2, al_3, al_4, al_5, al_7, al_11, al_12, al_13, al_15, al_16, al_17, al_19, al_20, al_21, al_22, al_23, al_24, al_25, al_26, al_28, al_30, al_31, al_32, al_33, al_34, al_36, al_41, al_42, al_43, al_44, al_49, al_50, al_51, al_52, al_54, al_55, al_56, al_57, al_58, al_59, al_60, al_61, al_62, al_63, al_64, al_65, al_66, al_67, al_68, al_69, al_70, al_71, al_72, al_73, al_74, al_75, al_76, al_77, al_78, al_79, al_80]; decide) | (simp (disch := omega) only [nL, nI_add, pk_mul, nc, Nat.zero_add, al_2, al_3, al_4, al_5, al_7, al_11, al_12, al_13, al_15, al_16, al_17, al_19, al_20, al_21, al_22, al_23, al_24, al_25, al_26, al_28, al_30, al_31, al_32, al_33, al_34, al_36, al_41, al_42, al_43, al_44, al_49, al_50, al_51, al_52, al_54, al_55, al_56, al_57, al_58, al_59, al_60, al_61, al_62, al_63, al_64, al_65, al_66, al_67, al_68, al_69, al_70, al_71, al_72, al_73, al_74, al_75, al_76, al_77, al_78, al_79, al_80]; exact vin (by omega) (by decide)))
      · (first | exact vin (by simp only [al_2, al_3, al_4, al_5, al_7, al_11, al_12, al_13, al_15, al_16, al_17, al_19, al_20, al_21, al_22, al_23, al_24, al_25, al_26, al_28, al_30, al_31, al_32, al_33, al_34, al_36, al_41, al_42, al_43, al_44, al_49, al_50, al_51, al_52, al_54, al_55, al_56, al_57, al_58, al_59, al_60, al_61, al_62, al_63, al_64, al_65, al_66, al_67, al_68, al_69, al_70, al_71, al_72, al_73, al_74, al_75, al_76, al_77, al_78, al_79, al_80]; omega) (by simp only [al_2, al_3, al_4, al_5, al_7, al_11, al_12, al_13, al_15, al_16, al_17, al_19, al_20, al_21, al_22, al_23, al_24, al_25, al_26, al_28, al_30, al_31, al_32, al_33, al_34, al_36, al_41, al_42, al_43, al_44, al_49, al_50, al_51, al_52, al_54, al_55, al_56, al_57, al_58, al_59, al_60, al_61, al_62, al_63, al_64, al_65, al_66, al_67, al_68, al_69, al_70, al_71, al_72, al_73, al_74, al_75, al_76, al_77, al_78, al_79, al_80]; decide) | (simp (disch := omega) only [nL, nI_add, pk_mul, nc, Nat.zero_add, al_2, al_3, al_4, al_5, al_7, al_11, al_12, al_13, al_15, al_16, al_17, al_19, al_20, al_21, al_22, al_23, al_24, al_25, al_26, al_28, al_30, al_31, al_32, al_33, al_34, al_36, al_41, al_42, al_43, al_44, al_49, al_50, al_51, al_52, al_54, al_55, al_56, al_57, al_58, al_59, al_60, al_61, al_62, al_63, al_64, al_65, al_66, al_67, al_68, al_69, al_70, al_71, al_72, al_73, al_74, al_75, al_76, al_77, al_78, al_79, al_80]; exact vin (by omega) (by decide)))
      · (first | exact vin (by simp only [al_2, al_3, al_4, al_5, al_7, al_11, al_12, al_13, al_15, al_16, al_17, al_19, al_20, al_21, al_22, al_23, al_24, al_25, al_26, al_28, al_30, al_31, al_32, al_33, al_34, al_36, al_41, al_42, al_43, al_44, al_49, al_50, al_51, al_52, al_54, al_55, al_56, al_57, al_58, al_59, al_60, al_61, al_62, al_63, al_64, al_65, al_66, al_67, al_68, al_69, al_70, al_71, al_72, al_73, al_74, al_75, al_76, al_77, al_78, al_79, al_80]; omega) (by simp only [al_2, al_3, al_4, al_5, al_7, al_11, al_12, al_13, al_15, al_16, al_17, al_19, al_20, al_21, al_22, al_23, al_24, al_25, al_26, al_28, al_30, al_31, al_32, al_33, al_34, al_36, al_41, al_42, al_43, al_44, al_49, al_50, al_51, al_52, al_54, al_55, al_56, al_57, al_58, al_59, al_60, al_61, al_62, al_63, al_64, al_65, al_66, al_67, al_68, al_69, al_70, al_71, al_72, al_73, al_74, al_75, al_76, al_77, al_78, al_79, al_80]; decide) | (simp (disch := omega) only [nL, nI_add, pk_mul, nc, Nat.zero_add, al_2, al_3, al_4, al_5, al_7, al_11, al_12, al_13, al_15, al_16, al_17, al_19, al_20, al_21, al_22, al_23, al_24, al_25, al_26, al_28, al_30, al_31, al_32, al_33, al_34, al_36, al_41, al_42, al_43, al_44, al_49, al_50, al_51, al_52, al_54, al_55, al_56, al_57, al_58, al_59, al_60, al_61, al_62, al_63, al_64, al_65, al_66, al_67, al_68, al_69, al_70, al_71, al_72, al_73, al_74, al_75, al_76, al_77, al_78, al_79, al_80]; exact vin (by omega) (by decide)))
      · (first | exact vin (by simp only [al_2, al_3, al_4, al_5, al_7, al_11, al_12, al_13, al_15, al_16, al_17, al_19, al_20, al_21, al_22, al_23, al_24, al_25, al_26, al_28, al_30, al_31, al_32, al_33, al_34, al_36, al_41, al_42, al_43, al_44, al_49, al_50, al_51, al_52, al_54, al_55, al_56, al_57, al_58, al_59, al_60, al_61, al_62, al_63, al_64, al_65, al_66, al_67, al_68, al_69, al_70, al_71, al_72, al_73, al_74, al_75, al_76, al_77, al_78, al_79, al_80]; omega) (by simp only [al_2, al_3, al_4, al_5, al_7, al_11, al_12, al_13, al_15, al_16, al_17, al_19, al_20, al_21, al_22, al_23, al_24, al_25, al_26, al_28, al_30, al_31, al_32, al_33, al_34, al_36, al_41, al_42, al_43, al_44, al_49, al_50, al_51, al_52, al_54, al_55, al_56, al_57, al_58, al_59, al_60, al_61, al_62, al_63, al_64, al_65, al_66, al_67, al_68, al_69, al_70, al_71, al_72, al_73, al_74, al_75, al_76, al_77, al_78, al_79, al_80]; decide) | (simp (disch := omega) only [nL, nI_add, pk_mul, nc, Nat.zero_add, al_2, al_3, al_4, al_5, al_7, al_11, al_12, al_13, al_15, al_16, al_17, al_19, al_20, al_21, al_22, al_23, al_24, al_25, al_26, al_28, al_30, al_31, al_32, al_33, al_34, al_36, al_41, al_42, al_43, al_44, al_49, al_50, al_51, al_52, al_54, al_55, al_56, al_57, al_58, al_59, al_60, al_61, al_62, al_63, al_64, al_65, al_66, al_67, al_68, al_69, al_70, al_71, al_72, al_73, al_74, al_75, al_76, al_77, al_78, al_79, al_80]; exact vin (by omega) (by decide)))
      · (first | exact vin (by simp only [al_2, al_3, al_4, al_5, al_7, al_11, al_12, al_13, al_15, al_16, al_17, al_19, al_20, al_21, al_22, al_23, al_24, al_25, al_26, al_28, al_30, al_31, al_32, al_33, al_34, al_36, al_41, al_42, al_43, al_44, al_49, al_50, al_51, al_52, al_54, al_55, al_56, al_57, al_58, al_59, al_60, al_61, al_62, al_63, al_64, al_65, al_66, al_67, al_68, al_69, al_70, al_71, al_72, al_73, al_74, al_75, al_76, al_77, al_78, al_79, al_80]; omega) (by simp only [al_2, al_3, al_4, al_5, al_7, al_11, al_12, al_13, al_15, al_16, al_17, al_19, al_20, al_21, al_22, al_23, al_24, al_25, al_26, al_28, al_30, al_31, al_32, al_33, al_34, al_36, al_41, al_42, al_43, al_44, al_49, al_50, al_51, al_52, al_54, al_55, al_56, al_57, al_58, al_59, al_60, al_61, al_62, al_63, al_64, al_65, al_66, al_67, al_68, al_69, al_70, al_71, al_72, al_73, al_74, al_75, al_76, al_77, al_78, al_79, al_80]; decide) | (simp (disch := omega) only [nL, nI_add, pk_mul, nc, Nat.zero_add, al_2, al_3, al_4, al_5, al_7, al_11, al_12, al_13, al_15, al_16, al_17, al_19, al_20, al_21, al_22, al_23, al_24, al_25, al_26, al_28, al_30, al_31, al_32, al_33, al_34, al_36, al_41, al_42, al_43, al_44, al_49, al_50, al_51, al_52, al_54, al_55, al_56, al_57, al_58, al_59, al_60, al_61, al_62, al_63, al_64, al_65, al_66, al_67, al_68, al_69, al_70, al_71, al_72, al_73, al_74, al_75, al_76, al_77, al_78, al_79, al_80]; exact vin (by omega) (by decide)))
      · have e54 : σj.1 54 = σ.1 54 := hf.1 54 (by decide)
        have e55 : σj.1 55 = σ.1 55 := hf.1 55 (by decide)
        have e56 : σj.1 56 = σ.1 56 := hf.1 56 (by decide)
        have e57 : σj.1 57 = σ.1 57 := hf.1 57 (by decide)
        show z_wp _ _ _ _ 77 _ _ _
        simp (disch := omega) only [nL, nI_add, pk_mul, nc, wr_c]
        refine ih (j + 1) _ _ (by omega) ?_ ?_ ?_ ?_ ?_ ?_
        · exact fr.wr (fr.wr (fr.wr (fr.wr hf (by decide)) (by decide)) (by decide)) (by decide)
        · intro k hk2
          have := hk k hk2
          rcases hk2 with q | q <;> simp (disch := omega) only [nL, nI_add, pk_mul, nc, cp_in, cp_lo, cp_hi, cp_ne, wr_s, wr_k, wr_c, wr_e, Nat.zero_add] <;> exact this
        · simp (disch := omega) only [nL, nI_add, pk_mul, nc, cp_in, cp_lo, cp_hi, cp_ne, wr_s, wr_k, wr_c, wr_e, Nat.zero_add]
          exact w0
        · simp (disch := omega) only [nL, nI_add, pk_mul, nc, cp_in, cp_lo, cp_hi, cp_ne, wr_s, wr_k, wr_c, wr_e, Nat.zero_add]
          exact w1
        · simp (disch := omega) only [nL, nI_add, pk_mul, nc, cp_in, cp_lo, cp_hi, cp_ne, wr_s, wr_k, wr_c, wr_e, Nat.zero_add]
          exact w2
        · intro i hi
          rcases Nat.lt_or_ge i j with q | q
          · obtain ⟨b1, b2, b3, b4⟩ := w3 i q
            refine ⟨?_, ?_, ?_, ?_⟩
            · simp (disch := omega) only [nL, nI_add, pk_mul, nc, cp_in, cp_lo, cp_hi, cp_ne, wr_s, wr_k, wr_c, wr_e, Nat.zero_add]
              exact b1
            · simp (disch := omega) only [nL, nI_add, pk_mul, nc, cp_in, cp_lo, cp_hi, cp_ne, wr_s, wr_k, wr_c, wr_e, Nat.zero_add]
              exact b2
            · simp (disch := omega) only [nL, nI_add, pk_mul, nc, cp_in, cp_lo, cp_hi, cp_ne, wr_s, wr_k, wr_c, wr_e, Nat.zero_add]
              exact b3
            · simp (disch := omega) only [nL, nI_add, pk_mul, nc, cp_in, cp_lo, cp_hi, cp_ne, wr_s, wr_k, wr_c, wr_e, Nat.zero_add]
              exact b4
          · obtain rfl : i = j := by omega
            refine ⟨?_, ?_, ?_, ?_⟩
            · simp (disch := omega) only [nL, nI_add, pk_mul, nc, cp_in, cp_lo, cp_hi, cp_ne, wr_s, wr_k, wr_c, wr_e, Nat.zero_add]
              rw [e54]
            · simp (disch := omega) only [nL, nI_add, pk_mul, nc, cp_in, cp_lo, cp_hi, cp_ne, wr_s, wr_k, wr_c, wr_e, Nat.zero_add]
              rw [e55]
            · simp (disch := omega) only [nL, nI_add, pk_mul, nc, cp_in, cp_lo, cp_hi, cp_ne, wr_s, wr_k, wr_c, wr_e, Nat.zero_add]
              rw [e56]
            · simp (disch := omega) only [nL, nI_add, pk_mul, nc, cp_in, cp_lo, cp_hi, cp_ne, wr_s, wr_k, wr_c, wr_e, Nat.zero_add]
              rw [e57]
  refine z_metV ⟨rfl, z_go 60 [77] ⟨fun _ => ⟨?_, ?_, ?_, ?_⟩, fun h => absurd rfl h⟩⟩
  · (first | exact vin (by simp only [al_2, al_3, al_4, al_5, al_7, al_11, al_12, al_13, al_15, al_16, al_17, al_19, al_20, al_21, al_22, al_23, al_24, al_25, al_26, al_28, al_30, al_31, al_32, al_33, al_34, al_36, al_41, al_42, al_43, al_44, al_49, al_50, al_51, al_52, al_54, al_55, al_56, al_57, al_58, al_59, al_60, al_61, al_62, al_63, al_64, al_65, al_66, al_67, al_68, al_69, al_70, al_71, al_72, al_73, al_74, al_75, al_76, al_77, al_78, al_79, al_80]; omega) (by simp only [al_2, al_3, al_4, al_5, al_7, al_11, al_12, al_13, al_15, al_16, al_17, al_19, al_20, al_21, al_22, al_23, al_24, al_25, al_26, al_28, al_30, al_31, al_32, al_33, al_34, al_36, al_41, al_42, al_43, al_44, al_49, al_50, al_51, al_52, al_54, al_55, al_56, al_57, al_58, al_59, al_60, al_61, al_62, al_63, al_64, al_65, al_66, al_67, al_68, al_69, al_70, al_71, al_72, al_73, al_74, al_75, al_76, al_77, al_78, al_79, al_80]; decide) | (simp (disch := omega) only [nL, nI_add, pk_mul, nc, Nat.zero_add, al_2, al_3, al_4, al_5, al_7, al_11, al_12, al_13, al_15, al_16, al_17, al_19, al_20, al_21, al_22, al_23, al_24, al_25, al_26, al_28, al_30, al_31, al_32, al_33, al_34, al_36, al_41, al_42, al_43, al_44, al_49, al_50, al_51, al_52, al_54, al_55, al_56, al_57, al_58, al_59, al_60, al_61, al_62, al_63, al_64, al_65, al_66, al_67, al_68, al_69, al_70, al_71, al_72, al_73, al_74, al_75, al_76, al_77, al_78, al_79, al_80]; exact vin (by omega) (by decide)))
  · (first | exact vin (by simp only [al_2, al_3, al_4, al_5, al_7, al_11, al_12, al_13, al_15, al_16, al_17, al_19, al_20, al_21, al_22, al_23, al_24, al_25, al_26, al_28, al_30, al_31, al_32, al_33, al_34, al_36, al_41, al_42, al_43, al_44, al_49, al_50, al_51, al_52, al_54, al_55, al_56, al_57, al_58, al_59, al_60, al_61, al_62, al_63, al_64, al_65, al_66, al_67, al_68, al_69, al_70, al_71, al_72, al_73, al_74, al_75, al_76, al_77, al_78, al_79, al_80]; omega) (by simp only [al_2, al_3, al_4, al_5, al_7, al_11, al_12, al_13, al_15, al_16, al_17, al_19, al_20, al_21, al_22, al_23, al_24, al_25, al_26, al_28, al_30, al_31, al_32, al_33, al_34, al_36, al_41, al_42, al_43, al_44, al_49, al_50, al_51, al_52, al_54, al_55, al_56, al_57, al_58, al_59, al_60, al_61, al_62, al_63, al_64, al_65, al_66, al_67, al_68, al_69, al_70, al_71, al_72, al_73, al_74, al_75, al_76, al_77, al_78, al_79, al_80]; decide) | (simp (disch := omega) only [nL, nI_add, pk_mul, nc, Nat.zero_add, al_2, al_3, al_4, al_5, al_7, al_11, al_12, al_13, al_15, al_16, al_17, al_19, al_20, al_21, al_22, al_23, al_24, al_25, al_26, al_28, al_30, al_31, al_32, al_33, al_34, al_36, al_41, al_42, al_43, al_44, al_49, al_50, al_51, al_52, al_54, al_55, al_56, al_57, al_58, al_59, al_60, al_61, al_62, al_63, al_64, al_65, al_66, al_67, al_68, al_69, al_70, al_71, al_72, al_73, al_74, al_75, al_76, al_77, al_78, al_79, al_80]; exact vin (by omega) (by decide)))
  · (first | exact vin (by simp only [al_2, al_3, al_4, al_5, al_7, al_11, al_12, al_13, al_15, al_16, al_17, al_19, al_20, al_21, al_22, al_23, al_24, al_25, al_26, al_28, al_30, al_31, al_32, al_33, al_34, al_36, al_41, al_42, al_43, al_44, al_49, al_50, al_51, al_52, al_54, al_55, al_56, al_57, al_58, al_59, al_60, al_61, al_62, al_63, al_64, al_65, al_66, al_67, al_68, al_69, al_70, al_71, al_72, al_73, al_74, al_75, al_76, al_77, al_78, al_79, al_80]; omega) (by simp only [al_2, al_3, al_4, al_5, al_7, al_11, al_12, al_13, al_15, al_16, al_17, al_19, al_20, al_21, al_22, al_23, al_24, al_25, al_26, al_28, al_30, al_31, al_32, al_33, al_34, al_36, al_41, al_42, al_43, al_44, al_49, al_50, al_51, al_52, al_54, al_55, al_56, al_57, al_58, al_59, al_60, al_61, al_62, al_63, al_64, al_65, al_66, al_67, al_68, al_69, al_70, al_71, al_72, al_73, al_74, al_75, al_76, al_77, al_78, al_79, al_80]; decide) | (simp (disch := omega) only [nL, nI_add, pk_mul, nc, Nat.zero_add, al_2, al_3, al_4, al_5, al_7, al_11, al_12, al_13, al_15, al_16, al_17, al_19, al_20, al_21, al_22, al_23, al_24, al_25, al_26, al_28, al_30, al_31, al_32, al_33, al_34, al_36, al_41, al_42, al_43, al_44, al_49, al_50, al_51, al_52, al_54, al_55, al_56, al_57, al_58, al_59, al_60, al_61, al_62, al_63, al_64, al_65, al_66, al_67, al_68, al_69, al_70, al_71, al_72, al_73, al_74, al_75, al_76, al_77, al_78, al_79, al_80]; exact vin (by omega) (by decide)))
  · show z_wp _ _ _ _ 77 _ _ _
    simp (disch := omega) only [nL, nI_add, pk_mul, nc, wr_c]
    refine loop 10 0 _ _ rfl ?_ ?_ ?_ ?_ ?_ (fun i hi => by omega)
    · (repeat (first | exact fr.rf | refine fr.cp ?_ (by decide) | refine fr.wr ?_ (by decide) | refine fr.wl ?_ (by decide)))
    · intro k hk2
      rcases hk2 with q | q <;> simp (disch := omega) only [nL, nI_add, pk_mul, nc, cp_in, cp_lo, cp_hi, cp_ne, wr_s, wr_k, wr_c, wr_e, Nat.zero_add]
    · simp (disch := omega) only [nL, nI_add, pk_mul, nc, cp_in, cp_lo, cp_hi, cp_ne, wr_s, wr_k, wr_c, wr_e, Nat.zero_add]
    · simp (disch := omega) only [nL, nI_add, pk_mul, nc, cp_in, cp_lo, cp_hi, cp_ne, wr_s, wr_k, wr_c, wr_e, Nat.zero_add]
    · simp (disch := omega) only [nL, nI_add, pk_mul, nc, cp_in, cp_lo, cp_hi, cp_ne, wr_s, wr_k, wr_c, wr_e, Nat.zero_add]

theorem c_carryL (d : Nat) (σ : z_M) (a : Nat) (ha : a + 43 ≤ 1075) : ∃ σ', z_call (d + 1) k_Md_carry [.ref 53, .int (nI a), .int 1] σ none σ' ∧ fr [53, 54, 55, 56, 57] σ σ' ∧ (∀ k, 2 < k → σ'.1 53 k = σ.1 53 k) ∧
    σ'.1 53 0 = σ.1 58 a ∧ σ'.1 53 1 = σ.1 58 (a + 1) ∧ σ'.1 53 2 = σ.1 58 (a + 2) ∧ ∀ i, i < 10 → σ'.1 54 i = σ.1 58 (a + 3 + 4 * i) ∧ σ'.1 55 i = σ.1 58 (a + 3 + 4 * i + 1) ∧ σ'.1 56 i = σ.1 58 (a + 3 + 4 * i + 2) ∧ σ'.1 57 i = σ.1 58 (a + 3 + 4 * i + 3) := by
  have loop : ∀ (n j : Nat) (σj : z_M) (v4 : Option Value), j + n = 10 → fr [53, 54, 55, 56, 57] σ σj → (∀ k, 2 < k → σj.1 53 k = σ.1 53 k) → σj.1 53 0 = σ.1 58 a → σj.1 53 1 = σ.1 58 (a + 1) → σj.1 53 2 = σ.1 58 (a + 2) →
      (∀ i, i < j → σj.1 54 i = σ.1 58 (a + 3 + 4 * i) ∧ σj.1 55 i = σ.1 58 (a + 3 + 4 * i + 1) ∧ σj.1 56 i = σ.1 58 (a + 3 + 4 * i + 2) ∧ σj.1 57 i = σ.1 58 (a + 3 + 4 * i + 3)) →
      z_wp (z_call d) none k_Md_carry (fun r s => r = none ∧ (fr [53, 54, 55, 56, 57] σ s ∧ (∀ k, 2 < k → s.1 53 k = σ.1 53 k) ∧ s.1 53 0 = σ.1 58 a ∧ s.1 53 1 = σ.1 58 (a + 1) ∧ s.1 53 2 = σ.1 58 (a + 2) ∧ ∀ i, i < 10 → s.1 54 i = σ.1 58 (a + 3 + 4 * i) ∧ s.1 55 i = σ.1 58 (a + 3 + 4 * i + 1) ∧ s.1 56 i = σ.1 58 (a + 3 + 4 * i + 2) ∧ s.1 57 i = σ.1 58 (a + 3 + 4 * i + 3))) 77 [some (.ref 53), some (.int (nI a)), some (.int 1), some (.int (nI j)), v4] [] σj := by
    intro n
    induction n with
    | zero =>
      intro j σj v4 hj hf hk w0 w1 w2 w3
      refine z_go 60 [77] ⟨fun h => ⟨rfl, hf, hk, w0, w1, w2, fun i hi => w3 i (by omega)⟩, fun h => ?_⟩
      simp (disch := omega) only [nL, nI_add, pk_mul, n_le, n_lt, n_eq] at h
      omega
    | succ n ih =>
      intro j σj v4 hj hf hk w0 w1 w2 w3
      refine z_go 60 [77] ⟨fun h => ?_, fun h => ⟨fun h => absurd h (by decide), fun _ => ⟨?_, ?_, ?_, ?_, ?_, ?_, ?_, ?_, ?_⟩⟩⟩
      · simp (disch := omega) only [nL, nI_add, pk_mul, n_le, n_lt, n_eq] at h
        omega
      · (first | exact vin (by simp only [al_2, al_3, al_4, al_5, al_7, al_11, al_12, al_13, al_15, al_16, al_17, al_19, al_20, al_21, al_22, al_23, al_24, al_25, al_26, al_28, al_30, al_31, al_32, al_33, al_34, al_36, al_41, al_42, al_43, al_44, al_49, al_50, al_51, al_52, al_54, al_55, al_56, al_57, al_58, al_59, al_60, al_61, al_62, al_63, al_64, al_65, al_66, al_67, al_68, al_69, al_70, al_71, al_72, al_73, al_74, al_75, al_76, al_77, al_78, al_79, al_80]; omega) (by simp only [al_2, al_3, al_4, al_5, al_7, al_11, al_12, al_13, al_15, al_16, al_17, al_19, al_20, al_21, al_22, al_23, al_24, al_25, al_26, al_28, al_30, al_31, al_32, al_33, al_34, al_36, al_41, al_42, al_43, al_44, al_49, al_50, al_51, al_52, al_54, al_55, al_56, al_57, al_58, al_59, al_60, al_61, al_62, al_63, al_64, al_65, al_66, al_67, al_68, al_69, al_70, al_71, al_72, al_73, al_74, al_75, al_76, al_77, al_78, al_79, al_80]; decide) | (simp (disch := omega) only [nL, nI_add, pk_mul, nc, Nat.zero_add, al_2, al_3, al_4, al_5, al_7, al_11, al_12, al_13, al_15, al_16, al_17, al_19, al_20, al_21, al_22, al_23, al_24, al_25, al_26, al_28, al_30, al_31, al_32, al_33, al_34, al_36, al_41, al_42, al_43, al_44, al_49, al_50, al_51, al_52, al_54, al_55, al_56, al_57, al_58, al_59, al_60, al_61, al_62, al_63, al_64, al_65, al_66, al_67, al_68, al_69, al_70, al_71, al_72, al_73, al_74, al_75, al_76, al_77, al_78, al_79, al_80]; exact vin (by omega) (by decide)))
      · (first | exact vin (by simp only [al_2, al_3, al_4, al_5, al_7, al_11, al_12, al_13, al_15, al_16, al_17, al_19, al_20, al_21, al_22, al_23, al_24, al_25, al_26, al_28, al_30, al_31, al_32, al_33, al_34, al_36, al_41, al_42, al_43, al_44, al_49, al_50, al_51, al_52, al_54, al_55, al_56, al_57, al_58, al_59, al_60, al_61, al_62, al_63, al_64, al_65, al_66, al_67, al_68, al_69, al_70, al_71, al_72, al_73, al_74, al_75, al_76, al_77, al_78, al_79, al_80]; omega) (by simp only [al_2, al_3, al_4, al_5, al_7, al_11, al_12, al_13, al_15, al_16, al_17, al_19, al_20, al_21, al_22, al_23, al_24, al_25, al_26, al_28, al_30, al_31, al_32, al_33, al_34, al_36, al_41, al_42, al_43, al_44, al_49, al_50, al_51, al_52, al_54, al_55, al_56, al_57, al_58, al_59, al_60, al_61, al_62, al_63, al_64, al_65, al_66, al_67, al_68, al_69, al_70, al_71, al_72, al_73, al_74, al_75, al_76, al_77, al_78, al_79, al_80]; decide) | (simp (disch := omega) only [nL, nI_add, pk_mul, nc, Nat.zero_add, al_2, al_3, al_4, al_5, al_7, al_11, al_12, al_13, al_15, al_16, al_17, al_19, al_20, al_21, al_22, al_23, al_24, al_25, al_26, al_28, al_30, al_31, al_32, al_33, al_34, al_36, al_41, al_42, al_43, al_44, al_49, al_50, al_51, al_52, al_54, al_55, al_56, al_57, al_58, al_59, al_60, al_61, al_62, al_63, al_64, al_65, al_66, al_67, al_68, al_69, al_70, al_71, al_72, al_73, al_74, al_75, al_76, al_77, al_78, al_79, al_80]; exact vin (by omega) (by decide)))
      · (first | exact vin (by simp only [al_2, al_3, al_4, al_5, al_7, al_11, al_12, al_13, al_15, al_16, al_17, al_19, al_20, al_21, al_22, al_23, al_24, al_25, al_26, al_28, al_30, al_31, al_32, al_33, al_34, al_36, al_41, al_42, al_43, al_44, al_49, al_50, al_51, al_52, al_54, al_55, al_56, al_57, al_58, al_59, al_60, al_61, al_62, al_63, al_64, al_65, al_66, al_67, al_68, al_69, al_70, al_71, al_72, al_73, al_74, al_75, al_76, al_77, al_78, al_79, al_80]; omega) (by simp only [al_2, al_3, al_4, al_5, al_7, al_11, al_12, al_13, al_15, al_16, al_17, al_19, al_20, al_21, al_22, al_23, al_24, al_25, al_26, al_28, al_30, al_31, al_32, al_33, al_34, al_36, al_41, al_42, al_43, al_44, al_49, al_50, al_51, al_52, al_54, al_55, al_56, al_57, al_58, al_59, al_60, al_61, al_62, al_63, al_64, al_65, al_66, al_67, al_68, al_69, al_70, al_71, al_72, al_73, al_74, al_75, al_76, al_77, al_78, al_79, al_80]; decide) | (simp (disch := omega) only [nL, nI_add, pk_mul, nc, Nat.zero_add, al_2, al_3, al_4, al_5, al_7, al_11, al_12, al_13, al_15, al_16, al_17, al_19, al_20, al_21, al_22, al_23, al_24, al_25, al_26, al_28, al_30, al_31, al_32, al_33, al_34, al_36, al_41, al_42, al_43, al_44, al_49, al_50, al_51, al_52, al_54, al_55, al_56, al_57, al_58, al_59, al_60, al_61, al_62, al_63, al_64, al_65, al_66, al_67, al_68, al_69, al_70, al_71, al_72, al_73, al_74, al_75, al_76, al_77, al_78, al_79, al_80]; exact vin (by omega) (by decide)))
      · (first | exact vin (by simp only [al_2, al_3, al_4, al_5, al_7, al_11, al_12, al_13, al_15, al_16, al_17, al_19, al_20, al_21, al_22, al_23, al_24, al_25, al_26, al_28, al_30, al_31, al_32, al_33, al_34, al_36, al_41, al_42, al_43, al_44, al_49, al_50, al_51, al_52, al_54, al_55, al_56, al_57, al_58, al_59, al_60, al_61, al_62, al_63, al_64, al_65, al_66, al_67, al_68, al_69, al_70, al_71, al_72, al_73, al_74, al_75, al_76, al_77, al_78, al_79, al_80]; omega) (by simp only [al_2, al_3, al_4, al_5, al_7, al_11, al_12, al_13, al_15, al_16, al_17, al_19, al_20, al_21, al_22, al_23, al_24, al_25, al_26, al_28, al_30, al_31, al_32, al_33, al_34, al_36, al_41, al_42, al_43, al_44, al_49, al_50, al_51, al_52, al_54, al_55, al_56, al_57, al_58, al_59, al_60, al_61, al_62, al_63, al_64, al_65, al_66, al_67, al_68, al_69, al_70, al_71, al_72, al_73, al_74, al_75, al_76, al_77, al_78, al_79, al_80]; decide) | (simp (disch := omega) only [nL, nI_add, pk_mul, nc, Nat.zero_add, al_2, al_3, al_4, al_5, al_7, al_11, al_12, al_13, al_15, al_16, al_17, al_19, al_20, al_21, al_22, al_23, al_24, al_25, al_26, al_28, al_30, al_31, al_32, al_33, al_34, al_36, al_41, al_42, al_43, al_44, al_49, al_50, al_51, al_52, al_54, al_55, al_56, al_57, al_58, al_59, al_60, al_61, al_62, al_63, al_64, al_65, al_66, al_67, al_68, al_69, al_70, al_71, al_72, al_73, al_74, al_75, al_76, al_77, al_78, al_79, al_80]; exact vin (by omega) (by decide)))
      · (first | exact vin (by simp only [al_2, al_3, al_4, al_5, al_7, al_11, al_12, al_13, al_15, al_16, al_17, al_19, al_20, al_21, al_22, al_23, al_24, al_25, al_26, al_28, al_30, al_31, al_32, al_33, al_34, al_36, al_41, al_42, al_43, al_44, al_49, al_50, al_51, al_52, al_54, al_55, al_56, al_57, al_58, al_59, al_60, al_61, al_62, al_63, al_64, al_65, al_66, al_67, al_68, al_69, al_70, al_71, al_72, al_73, al_74, al_75, al_76, al_77, al_78, al_79, al_80]; omega) (by simp only [al_2, al_3, al_4, al_5, al_7, al_11, al_12, al_13, al_15, al_16, al_17, al_19, al_20, al_21, al_22, al_23, al_24, al_25, al_26, al_28, al_30, al_31, al_32, al_33, al_34, al_36, al_41, al_42, al_43, al_44, al_49, al_50, al_51, al_52, al_54, al_55, al_56, al_57, al_58, al_59, al_60, al_61, al_62, al_63, al_64, al_65, al_66, al_67, al_68, al_69, al_70, al_71, al_72, al_73, al_74, al_75, al_76, al_77, al_78, al_79, al_80]; decide) | (simp (disch := omega) only [nL, nI_add, pk_mul, nc, Nat.zero_add, al_2, al_3, al_4, al_5, al_7, al_11, al_12, al_13, al_15, al_16, al_17, al_19, al_20, al_21, al_22, al_23, al_24, al_25, al_26, al_28, al_30, al_31, al_32, al_33, al_34, al_36, al_41, al_42, al_43, al_44, al_49, al_50, al_51, al_52, al_54, al_55, al_56, al_57, al_58, al_59, al_60, al_61, al_62, al_63, al_64, al_65, al_66, al_67, al_68, al_69, al_70, al_71, al_72, al_73, al_74, al_75, al_76, al_77, al_78, al_79, al_80]; exact vin (by omega) (by decide)))
      · (first | exact vin (by simp only [al_2, al_3, al_4, al_5, al_7, al_11, al_12, al_13, al_15, al_16, al_17, al_19, al_20, al_21, al_22, al_23, al_24, al_25, al_26, al_28, al_30, al_31, al_32, al_33, al_34, al_36, al_41, al_42, al_43, al_44, al_49, al_50, al_51, al_52, al_54, al_55, al_56, al_57, al_58, al_59, al_60, al_61, al_62, al_63, al_64, al_65, al_66, al_67, al_68, al_69, al_70, al_71, al_72, al_73, al_74, al_75, al_76, al_77, al_78, al_79, al_80]; omega) (by simp only [al_2, al_3, al_4, al_5, al_7, al_11, al_12, al_13, al_15, al_16, al_17, al_19, al_20, al_21, al_22, al_23, al_24, al_25, al_26, al_28, al_30, al_31, al_32, al_33, al_34, al_36, al_41, al_42, al_43, al_44, al_49, al_50, al_51, al_52, al_54, al_55, al_56, al_57, al_58, al_59, al_60, al_61, al_62, al_63, al_64, al_65, al_66, al_67, al_68, al_69, al_70, al_71, al_72, al_73, al_74, al_75, al_76, al_77, al_78, al_79, al_80]; decide) | (simp (disch := omega) only [nL, nI_add, pk_mul, nc, Nat.zero_add, al_2, al_3, al_4, al_5, al_7, al_11, al_12, al_13, al_15, al_16, al_17, al_19, al_20, al_21, al_22, al_23, al_24, al_25, al_26, al_28, al_30, al_31, al_32, al_33, al_34, al_36, al_41, al_42, al_43, al_44, al_49, al_50, al_51, al_52, al_54, al_55, al_56, al_57, al_58, al_59, al_60, al_61, al_62, al_63, al_64, al_65, al_66, al_67, al_68, al_69, al_70, al_71, al_72, al_73, al_74, al_75, al_76, al_77, al_78, al_79, al_80]; exact vin (by omega) (by decide)))
      · (first | exact vin (by simp only [al_2, al_3, al_4, al_5, al_7, al_11, al_12, al_13, al_15, al_16, al_17, al_19, al_20, al_21, al_22, al_23, al_24, al_25, al_26, al_28, al_30, al_31, al_32, al_33, al_34, al_36, al_41, al_42, al_43, al_44, al_49, al_50, al_51, al_52, al_54, al_55, al_56, al_57, al_58, al_59, al_60, al_61, al_62, al_63, al_64, al_65, al_66, al_67, al_68, al_69, al_70, al_71, al_72, al_73, al_74, al_75, al_76, al_77, al_78, al_79, al_80]; omega) (by simp only [al_2, al_3, al_4, al_5, al_7, al_11, al_12, al_13, al_15, al_16, al_17, al_19, al_20, al_21, al_22, al_23, al_24, al_25, al_26, al_28, al_30, al_31, al_32, al_33, al_34, al_36, al_41, al_42, al_43, al_44, al_49, al_50, al_51, al_52, al_54, al_55, al_56, al_57, al_58, al_59, al_60, al_61, al_62, al_63, al_64, al_65, al_66, al_67, al_68, al_69, al_70, al_71, al_72, al_73, al_74, al_75, al_76, al_77, al_78, al_79, al_80]; decide) | (simp (disch := omega) only [nL, nI_add, pk_mul, nc, Nat.zero_add, al_2, al_3, al_4, al_5, al_7, al_11, al_12, al_13, al_15, al_16, al_17, al_19, al_20, al_21, al_22, al_23, al_24, al_25, al_26, al_28, al_30, al_31, al_32, al_33, al_34, al_36, al_41, al_42, al_43, al_44, al_49, al_50, al_51, al_52, al_54, al_55, al_56, al_57, al_58, al_59, al_60, al_61, al_62, al_63, al_64, al_65, al_66, al_67, al_68, al_69, al_70, al_71, al_72, al_73, al_74, al_75, al_76, al_77, al_78, al_79, al_80]; exact vin (by omega) (by decide)))
      · (first | exact vin (by simp only [al_2, al_3, al_4, al_5, al_7, al_11, al_12, al_13, al_15, al_16, al_17, al_19, al_20, al_21, al_22, al_23, al_24, al_25, al_26, al_28, al_30, al_31, al_32, al_33, al_34, al_36, al_41, al_42, al_43, al_44, al_49, al_50, al_51, al_52, al_54, al_55, al_56, al_57, al_58, al_59, al_60, al_61, al_62, al_63, al_64, al_65, al_66, al_67, al_68, al_69, al_70, al_71, al_72, al_73, al_74, al_75, al_76, al_77, al_78, al_79, al_80]; omega) (by simp only [al_2, al_3, al_4, al_5, al_7, al_11, al_12, al_13, al_15, al_16, al_17, al_19, al_20, al_21, al_22, al_23, al_24, al_25, al_26, al_28, al_30, al_31, al_32, al_33, al_34, al_36, al_41, al_42, al_43, al_44, al_49, al_50, al_51, al_52, al_54, al_55, al_56, al_57, al_58, al_59, al_60, al_61, al_62, al_63, al_64, al_65, al_66, al_67, al_68, al_69, al_70, al_71, al_72, al_73, al_74, al_75, al_76, al_77, al_78, al_79, al_80]; decide) | (simp (disch := omega) only [nL, nI_add, pk_mul, nc, Nat.zero_add, al_2, al_3, al_4, al_5, al_7, al_11, al_12, al_13, al_15, al_16, al_17, al_19, al_20, al_21, al_22, al_23, al_24, al_25, al_26, al_28, al_30, al_31, al_32, al_33, al_34, al_36, al_41, al_42, al_43, al_44, al_49, al_50, al_51, al_52, al_54, al_55, al_56, al_57, al_58, al_59, al_60, al_61, al_62, al_63, al_64, al_65, al_66, al_67, al_68, al_69, al_70, al_71, al_72, al_73, al_74, al_75, al_76, al_77, al_78, al_79, al_80]; exact vin (by omega) (by decide)))
      · have e58 : σj.1 58 = σ.1 58 := hf.1 58 (by decide)
        show z_wp _ _ _ _ 77 _ _ _
        simp (disch := omega) only [nL, nI_add, pk_mul, nc, wr_c, e58]
        refine ih (j + 1) _ _ (by omega) ?_ ?_ ?_ ?_ ?_ ?_
        · exact fr.wr (fr.wr (fr.wr (fr.wr hf (by decide)) (by decide)) (by decide)) (by decide)
        · intro k hk2
          have := hk k hk2
          simp (disch := omega) only [nL, nI_add, pk_mul, nc, cp_in, cp_lo, cp_hi, cp_ne, wr_s, wr_k, wr_c, wr_e, Nat.zero_add]
          exact this
        · simp (disch := omega) only [nL, nI_add, pk_mul, nc, cp_in, cp_lo, cp_hi, cp_ne, wr_s, wr_k, wr_c, wr_e, Nat.zero_add]
          exact w0
        · simp (disch := omega) only [nL, nI_add, pk_mul, nc, cp_in, cp_lo, cp_hi, cp_ne, wr_s, wr_k, wr_c, wr_e, Nat.zero_add]
          exact w1
        · simp (disch := omega) only [nL, nI_add, pk_mul, nc, cp_in, cp_lo, cp_hi, cp_ne, wr_s, wr_k, wr_c, wr_e, Nat.zero_add]
          exact w2
        · intro i hi
          rcases Nat.lt_or_ge i j with q | q
          · obtain ⟨b1, b2, b3, b4⟩ := w3 i q
            refine ⟨?_, ?_, ?_, ?_⟩
            · simp (disch := omega) only [nL, nI_add, pk_mul, nc, cp_in, cp_lo, cp_hi, cp_ne, wr_s, wr_k, wr_c, wr_e, Nat.zero_add]
              exact b1
            · simp (disch := omega) only [nL, nI_add, pk_mul, nc, cp_in, cp_lo, cp_hi, cp_ne, wr_s, wr_k, wr_c, wr_e, Nat.zero_add]
              exact b2
            · simp (disch := omega) only [nL, nI_add, pk_mul, nc, cp_in, cp_lo, cp_hi, cp_ne, wr_s, wr_k, wr_c, wr_e, Nat.zero_add]
              exact b3
            · simp (disch := omega) only [nL, nI_add, pk_mul, nc, cp_in, cp_lo, cp_hi, cp_ne, wr_s, wr_k, wr_c, wr_e, Nat.zero_add]
              exact b4
          · obtain rfl : i = j := by omega
            refine ⟨?_, ?_, ?_, ?_⟩ <;> simp (disch := omega) only [nL, nI_add, pk_mul, nc, cp_in, cp_lo, cp_hi, cp_ne, wr_s, wr_k, wr_c, wr_e, Nat.zero_add]
  refine z_metV ⟨rfl, z_go 60 [77] ⟨fun h => absurd h (by decide), fun _ => ⟨?_, ?_, ?_, ?_⟩⟩⟩
  · (first | exact vin (by simp only [al_2, al_3, al_4, al_5, al_7, al_11, al_12, al_13, al_15, al_16, al_17, al_19, al_20, al_21, al_22, al_23, al_24, al_25, al_26, al_28, al_30, al_31, al_32, al_33, al_34, al_36, al_41, al_42, al_43, al_44, al_49, al_50, al_51, al_52, al_54, al_55, al_56, al_57, al_58, al_59, al_60, al_61, al_62, al_63, al_64, al_65, al_66, al_67, al_68, al_69, al_70, al_71, al_72, al_73, al_74, al_75, al_76, al_77, al_78, al_79, al_80]; omega) (by simp only [al_2, al_3, al_4, al_5, al_7, al_11, al_12, al_13, al_15, al_16, al_17, al_19, al_20, al_21, al_22, al_23, al_24, al_25, al_26, al_28, al_30, al_31, al_32, al_33, al_34, al_36, al_41, al_42, al_43, al_44, al_49, al_50, al_51, al_52, al_54, al_55, al_56, al_57, al_58, al_59, al_60, al_61, al_62, al_63, al_64, al_65, al_66, al_67, al_68, al_69, al_70, al_71, al_72, al_73, al_74, al_75, al_76, al_77, al_78, al_79, al_80]; decide) | (simp (disch := omega) only [nL, nI_add, pk_mul, nc, Nat.zero_add, al_2, al_3, al_4, al_5, al_7, al_11, al_12, al_13, al_15, al_16, al_17, al_19, al_20, al_21, al_22, al_23, al_24, al_25, al_26, al_28, al_30, al_31, al_32, al_33, al_34, al_36, al_41, al_42, al_43, al_44, al_49, al_50, al_51, al_52, al_54, al_55, al_56, al_57, al_58, al_59, al_60, al_61, al_62, al_63, al_64, al_65, al_66, al_67, al_68, al_69, al_70, al_71, al_72, al_73, al_74, al_75, al_76, al_77, al_78, al_79, al_80]; exact vin (by omega) (by decide)))
  · (first | exact vin (by simp only [al_2, al_3, al_4, al_5, al_7, al_11, al_12, al_13, al_15, al_16, al_17, al_19, al_20, al_21, al_22, al_23, al_24, al_25, al_26, al_28, al_30, al_31, al_32, al_33, al_34, al_36, al_41, al_42, al_43, al_44, al_49, al_50, al_51, al_52, al_54, al_55, al_56, al_57, al_58, al_59, al_60, al_61, al_62, al_63, al_64, al_65, al_66, al_67, al_68, al_69, al_70, al_71, al_72, al_73, al_74, al_75, al_76, al_77, al_78, al_79, al_80]; omega) (by simp only [al_2, al_3, al_4, al_5, al_7, al_11, al_12, al_13, al_15, al_16, al_17, al_19, al_20, al_21, al_22, al_23, al_24, al_25, al_26, al_28, al_30, al_31, al_32, al_33, al_34, al_36, al_41, al_42, al_43, al_44, al_49, al_50, al_51, al_52, al_54, al_55, al_56, al_57, al_58, al_59, al_60, al_61, al_62, al_63, al_64, al_65, al_66, al_67, al_68, al_69, al_70, al_71, al_72, al_73, al_74, al_75, al_76, al_77, al_78, al_79, al_80]; decide) | (simp (disch := omega) only [nL, nI_add, pk_mul, nc, Nat.zero_add, al_2, al_3, al_4, al_5, al_7, al_11, al_12, al_13, al_15, al_16, al_17, al_19, al_20, al_21, al_22, al_23, al_24, al_25, al_26, al_28, al_30, al_31, al_32, al_33, al_34, al_36, al_41, al_42, al_43, al_44, al_49, al_50, al_51, al_52, al_54, al_55, al_56, al_57, al_58, al_59, al_60, al_61, al_62, al_63, al_64, al_65, al_66, al_67, al_68, al_69, al_70, al_71, al_72, al_73, al_74, al_75, al_76, al_77, al_78, al_79, al_80]; exact vin (by omega) (by decide)))
  · (first | exact vin (by simp only [al_2, al_3, al_4, al_5, al_7, al_11, al_12, al_13, al_15, al_16, al_17, al_19, al_20, al_21, al_22, al_23, al_24, al_25, al_26, al_28, al_30, al_31, al_32, al_33, al_34, al_36, al_41, al_42, al_43, al_44, al_49, al_50, al_51, al_52, al_54, al_55, al_56, al_57, al_58, al_59, al_60, al_61, al_62, al_63, al_64, al_65, al_66, al_67, al_68, al_69, al_70, al_71, al_72, al_73, al_74, al_75, al_76, al_77, al_78, al_79, al_80]; omega) (by simp only [al_2, al_3, al_4, al_5, al_7, al_11, al_12, al_13, al_15, al_16, al_17, al_19, al_20, al_21, al_22, al_23, al_24, al_25, al_26, al_28, al_30, al_31, al_32, al_33, al_34, al_36, al_41, al_42, al_43, al_44, al_49, al_50, al_51, al_52, al_54, al_55, al_56, al_57, al_58, al_59, al_60, al_61, al_62, al_63, al_64, al_65, al_66, al_67, al_68, al_69, al_70, al_71, al_72, al_73, al_74, al_75, al_76, al_77, al_78, al_79, al_80]; decide) | (simp (disch := omega) only [nL, nI_add, pk_mul, nc, Nat.zero_add, al_2, al_3, al_4, al_5, al_7, al_11, al_12, al_13, al_15, al_16, al_17, al_19, al_20, al_21, al_22, al_23, al_24, al_25, al_26, al_28, al_30, al_31, al_32, al_33, al_34, al_36, al_41, al_42, al_43, al_44, al_49, al_50, al_51, al_52, al_54, al_55, al_56, al_57, al_58, al_59, al_60, al_61, al_62, al_63, al_64, al_65, al_66, al_67, al_68, al_69, al_70, al_71, al_72, al_73, al_74, al_75, al_76, al_77, al_78, al_79, al_80]; exact vin (by omega) (by decide)))
  · show z_wp _ _ _ _ 77 _ _ _
    simp (disch := omega) only [nL, nI_add, pk_mul, nc, wr_c]
    refine loop 10 0 _ _ rfl ?_ ?_ ?_ ?_ ?_ (fun i hi => by omega)
    · (repeat (first | exact fr.rf | refine fr.cp ?_ (by decide) | refine fr.wr ?_ (by decide) | refine fr.wl ?_ (by decide)))
    · intro k hk2
      simp (disch := omega) only [nL, nI_add, pk_mul, nc, cp_in, cp_lo, cp_hi, cp_ne, wr_s, wr_k, wr_c, wr_e, Nat.zero_add]
    · simp (disch := omega) only [nL, nI_add, pk_mul, nc, cp_in, cp_lo, cp_hi, cp_ne, wr_s, wr_k, wr_c, wr_e, Nat.zero_add]
    · simp (disch := omega) only [nL, nI_add, pk_mul, nc, cp_in, cp_lo, cp_hi, cp_ne, wr_s, wr_k, wr_c, wr_e, Nat.zero_add]
    · simp (disch := omega) only [nL, nI_add, pk_mul, nc, cp_in, cp_lo, cp_hi, cp_ne, wr_s, wr_k, wr_c, wr_e, Nat.zero_add]
theorem c_keepNet (d : Nat) (σ : z_M) (N : zN) (p : Nat × (Nat → zN)) (hN : netD σ N) (hp : pastD σ p) : ∃ σ', z_call (d + 2) k_Md_keepNet [.ref 53] σ none σ' ∧ fr [53, 58] σ σ' ∧ (∀ k, k ≠ 7 → σ'.1 53 k = σ.1 53 k) ∧ pastD σ' (pu p N) := by
  obtain ⟨hn, hk, hs⟩ := hp
  have save : ∀ (σ1 : z_M) (n : Nat), n < 25 → fr [53, 58] σ σ1 → (∀ k, k ≠ 7 → σ1.1 53 k = σ.1 53 k) → σ1.1 53 7 = nI n → ∃ σ2, z_call (d + 1) k_Md_carry [.ref 53, .int (43 * σ1.1 53 7), .int 0] σ1 none σ2 ∧ fr [58] σ1 σ2 ∧ (∀ k, (k < 43 * n ∨ 43 * n + 43 ≤ k) → σ2.1 58 k = σ1.1 58 k) ∧ snD σ2 n N := by
    intro σ1 n hn hf hk7 e7
    obtain ⟨σ2, hc, hf2, hk2, w0, w1, w2, w3⟩ := c_carryS d σ1 (43 * n) (by omega)
    refine ⟨σ2, ?_, hf2, hk2, ?_⟩
    · have e : 43 * σ1.1 53 7 = nI (43 * n) := by rw [e7]; exact pk_mul 43 n
      rw [e]
      exact hc
    · obtain ⟨a0, a1, a2, a3⟩ := hN
      refine ⟨by rw [w0, hk7 0 (by decide)]; exact a0, by rw [w1, hk7 1 (by decide)]; exact a1, by rw [w2, hk7 2 (by decide)]; exact a2, fun i hi => ?_⟩
      obtain ⟨b1, b2, b3, b4⟩ := w3 i hi
      obtain ⟨c1, c2, c3, c4⟩ := a3 i hi
      rw [hf.1 54 (by decide)] at b1
      rw [hf.1 55 (by decide)] at b2
      rw [hf.1 56 (by decide)] at b3
      rw [hf.1 57 (by decide)] at b4
      exact ⟨b1.trans c1, b2.trans c2, b3.trans c3, b4.trans c4⟩
  have loop : ∀ (n j : Nat) (σj : z_M), p.1 = 25 → j + n = 1032 → fr [58] σ σj → (∀ k, k < j → σj.1 58 k = σ.1 58 (k + 43)) → (∀ k, j ≤ k → σj.1 58 k = σ.1 58 k) →
      z_wp (z_call (d + 1)) none k_Md_keepNet (fun r s => r = none ∧ (fr [53, 58] σ s ∧ (∀ k, k ≠ 7 → s.1 53 k = σ.1 53 k) ∧ pastD s (pu p N))) 11 [some (.ref 53), some (.int (nI j))] [] σj := by
    intro n
    induction n with
    | zero =>
      intro j σj h25 hj hf h1 h2
      have e7 : σj.1 53 7 = nI 25 := by rw [hf.at (by decide), hk, h25]
      refine z_go 60 [11] ⟨fun h => ?_, fun h => ?_⟩
      · obtain ⟨σ2, hc, hf2, hk2, hsn⟩ := save (z_wr σj 53 7 (σj.1 53 7 - 1)) 24 (by omega) (fr.wr (hf.wk _ (by decide)) (by decide)) (fun k hk => by rw [wr_k hk, hf.at (by decide)]) (by rw [wr_s, e7]; exact nI_pred 24)
        refine ⟨σ2, hc, rfl, ?_, ?_, ?_⟩
        · exact fr.wr ((fr.wr (hf.wk _ (by decide)) (by decide)).tr (hf2.wk _ (by decide))) (by decide)
        · intro k hk
          rw [wr_k hk, hf2.at (by decide), wr_k hk, hf.at (by decide)]
        · have e72 : σ2.1 53 7 = nI 24 := by rw [hf2.at (by decide), wr_s, e7]; exact nI_pred 24
          simp only [pu, h25, Nat.lt_irrefl, if_false]
          refine ⟨Nat.le_refl _, by rw [wr_s, e72]; exact nI_1 24, fun j2 hj2 => ?_⟩
          show snD _ j2 (if j2 = 24 then N else p.2 (j2 + 1))
          by_cases q : j2 = 24
          · rw [if_pos q, q]
            exact snD_keep hsn (fun k _ => by rw [wr_c (by decide)])
          · rw [if_neg q]
            have hj2' : j2 < 25 := hj2
            refine snD_keep (hs (j2 + 1) (by omega)) (fun k hk => ?_)
            rw [wr_c (by decide), hk2 _ (by omega), wr_c (by decide), h1 _ (by omega), show 43 * j2 + k + 43 = 43 * (j2 + 1) + k by omega]
      · simp (disch := omega) only [nL, n_le] at h
        omega
    | succ n ih =>
      intro j σj h25 hj hf h1 h2
      refine z_go 60 [11] ⟨fun h => ?_, fun h => ⟨?_, ?_, ?_⟩⟩
      · simp (disch := omega) only [nL, n_le] at h
        omega
      · (first | exact vin (by simp only [al_2, al_3, al_4, al_5, al_7, al_11, al_12, al_13, al_15, al_16, al_17, al_19, al_20, al_21, al_22, al_23, al_24, al_25, al_26, al_28, al_30, al_31, al_32, al_33, al_34, al_36, al_41, al_42, al_43, al_44, al_49, al_50, al_51, al_52, al_54, al_55, al_56, al_57, al_58, al_59, al_60, al_61, al_62, al_63, al_64, al_65, al_66, al_67, al_68, al_69, al_70, al_71, al_72, al_73, al_74, al_75, al_76, al_77, al_78, al_79, al_80]; omega) (by simp only [al_2, al_3, al_4, al_5, al_7, al_11, al_12, al_13, al_15, al_16, al_17, al_19, al_20, al_21, al_22, al_23, al_24, al_25, al_26, al_28, al_30, al_31, al_32, al_33, al_34, al_36, al_41, al_42, al_43, al_44, al_49, al_50, al_51, al_52, al_54, al_55, al_56, al_57, al_58, al_59, al_60, al_61, al_62, al_63, al_64, al_65, al_66, al_67, al_68, al_69, al_70, al_71, al_72, al_73, al_74, al_75, al_76, al_77, al_78, al_79, al_80]; decide) | (simp (disch := omega) only [nL, nI_add, pk_mul, nc, Nat.zero_add, al_2, al_3, al_4, al_5, al_7, al_11, al_12, al_13, al_15, al_16, al_17, al_19, al_20, al_21, al_22, al_23, al_24, al_25, al_26, al_28, al_30, al_31, al_32, al_33, al_34, al_36, al_41, al_42, al_43, al_44, al_49, al_50, al_51, al_52, al_54, al_55, al_56, al_57, al_58, al_59, al_60, al_61, al_62, al_63, al_64, al_65, al_66, al_67, al_68, al_69, al_70, al_71, al_72, al_73, al_74, al_75, al_76, al_77, al_78, al_79, al_80]; exact vin (by omega) (by decide)))
      · (first | exact vin (by simp only [al_2, al_3, al_4, al_5, al_7, al_11, al_12, al_13, al_15, al_16, al_17, al_19, al_20, al_21, al_22, al_23, al_24, al_25, al_26, al_28, al_30, al_31, al_32, al_33, al_34, al_36, al_41, al_42, al_43, al_44, al_49, al_50, al_51, al_52, al_54, al_55, al_56, al_57, al_58, al_59, al_60, al_61, al_62, al_63, al_64, al_65, al_66, al_67, al_68, al_69, al_70, al_71, al_72, al_73, al_74, al_75, al_76, al_77, al_78, al_79, al_80]; omega) (by simp only [al_2, al_3, al_4, al_5, al_7, al_11, al_12, al_13, al_15, al_16, al_17, al_19, al_20, al_21, al_22, al_23, al_24, al_25, al_26, al_28, al_30, al_31, al_32, al_33, al_34, al_36, al_41, al_42, al_43, al_44, al_49, al_50, al_51, al_52, al_54, al_55, al_56, al_57, al_58, al_59, al_60, al_61, al_62, al_63, al_64, al_65, al_66, al_67, al_68, al_69, al_70, al_71, al_72, al_73, al_74, al_75, al_76, al_77, al_78, al_79, al_80]; decide) | (simp (disch := omega) only [nL, nI_add, pk_mul, nc, Nat.zero_add, al_2, al_3, al_4, al_5, al_7, al_11, al_12, al_13, al_15, al_16, al_17, al_19, al_20, al_21, al_22, al_23, al_24, al_25, al_26, al_28, al_30, al_31, al_32, al_33, al_34, al_36, al_41, al_42, al_43, al_44, al_49, al_50, al_51, al_52, al_54, al_55, al_56, al_57, al_58, al_59, al_60, al_61, al_62, al_63, al_64, al_65, al_66, al_67, al_68, al_69, al_70, al_71, al_72, al_73, al_74, al_75, al_76, al_77, al_78, al_79, al_80]; exact vin (by omega) (by decide)))
      · show z_wp _ _ _ _ 11 _ _ _
        simp (disch := omega) only [nL, nI_add, pk_mul, nc, wr_c]
        refine ih (j + 1) _ h25 (by omega) (fr.wr hf (by decide)) (fun k hk => ?_) (fun k hk => ?_)
        · rcases Nat.lt_or_ge k j with q | q
          · rw [wr_k (by omega)]
            exact h1 k q
          · obtain rfl : k = j := by omega
            rw [wr_s]
            exact h2 _ (by omega)
        · rw [wr_k (by omega)]
          exact h2 k (by omega)
  refine z_metV ⟨rfl, z_go 60 [11] ⟨fun h => ?_, fun h => ?_⟩⟩
  · rw [hk] at h
    simp (disch := omega) only [nL, n_eq] at h
    obtain ⟨σ2, hc, hf2, hk2, hsn⟩ := save σ p.1 (by omega) fr.rf (fun _ _ => rfl) hk
    refine ⟨σ2, hc, rfl, fr.wr (hf2.wk _ (by decide)) (by decide), fun k hk => by rw [wr_k hk, hf2.at (by decide)], ?_⟩
    have e7 : σ2.1 53 7 = nI p.1 := by rw [hf2.at (by decide)]; exact hk
    have hlt : p.1 < 25 := by omega
    simp only [pu, hlt, if_true]
    refine ⟨by show p.1 + 1 ≤ 25; omega, by rw [wr_s, e7]; exact nI_1 p.1, fun j2 hj2 => ?_⟩
    show snD _ j2 (if j2 = p.1 then N else p.2 j2)
    have hj2 : j2 < p.1 + 1 := hj2
    by_cases q : j2 = p.1
    · rw [if_pos q, q]
      exact snD_keep hsn (fun k _ => by rw [wr_c (by decide)])
    · rw [if_neg q]
      refine snD_keep (hs j2 (by omega)) (fun k hk => ?_)
      rw [wr_c (by decide), hk2 _ (by omega)]
  · rw [hk] at h
    have h25 : p.1 = 25 := by
      have h : nI p.1 = nI 25 := by
        rcases Decidable.em (nI p.1 = 25) with q | q
        · exact q
        · exact absurd h (by first | exact q | exact fun z => q z)
      rw [n_eq (by omega) (by omega)] at h
      exact h
    exact loop 1032 0 σ h25 rfl fr.rf (fun k hk => by omega) (fun k _ => rfl)
