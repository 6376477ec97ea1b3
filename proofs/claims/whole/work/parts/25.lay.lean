/-! laying roads of a sheet -/
def layN (N : zN) (f : Nat → Int32) : Nat → zN
  | 0 => N
  | k + 1 => addR (layN N f k) (f (2 + 2 * k)) (f (2 + (2 * k + 1)))
theorem layN_P (N : zN) (f : Nat → Int32) : ∀ k, nP (layN N f k) = nP N
  | 0 => rfl
  | k + 1 => layN_P N f k
theorem layN_R {N : zN} {R : Nat} (h : nR N = nI R) (f : Nat → Int32) : ∀ k, nR (layN N f k) = nI (R + k)
  | 0 => h
  | k + 1 => by
    show nR (layN N f k) + 1 = _
    rw [layN_R h f k]
    exact nI_1 (R + k)
def badS (P : Int32) (f : Nat → Int32) (n : Nat) : Prop := ∃ i, i < n ∧ hasP P (f (2 + i)) = 0
def sLay (s : Int32) (B : zB) : Int32 × zB := if hasP 4 s = 0 then oTell (-1000001) B else if B.2.2.2.1 s.toNatClampNeg 0 = 0 then oTell (-1000002) B else
  if ∀ i, i < 2 * ((B.2.2.2.1 s.toNatClampNeg 1).toNatClampNeg / 2) → ¬ hasP (nP B.1) (B.2.2.2.1 s.toNatClampNeg (2 + i)) = 0 then
  (if gR B.1 + (B.2.2.2.1 s.toNatClampNeg 1).toNatClampNeg / 2 ≤ 10 then oAct (nI ((B.2.2.2.1 s.toNatClampNeg 1).toNatClampNeg / 2)) (layN B.1 (B.2.2.2.1 s.toNatClampNeg) ((B.2.2.2.1 s.toNatClampNeg 1).toNatClampNeg / 2)) B else oTell (-1000005) B) else oTell (-1000001) B
theorem half {m : Nat} (h : m ≤ 24) : nI m / 2 = nI (m / 2) := pk_div (a := m) (d := 2) (by omega) (by omega) (by omega)
theorem x_lay_0 (d : Nat) {σ : z_M} {B : zB} (h : RepC σ B) (hv : VB B) : opC (d + 5) k_RF_lay [.ref 0, .int 0] σ (sLay 0 B) := by
  obtain ⟨P, R, G, eP, hP, eR, hR, -⟩ := hv.1
  have eg : gR B.1 = R := by unfold gR; rw [eR, nc (by omega)]
  obtain ⟨σt, ht, hRt, hkt⟩ := c_tell (d + 3) h (-1000001)
  obtain ⟨σu, hu, hRu, hku⟩ := c_tell (d + 3) h (-1000002)
  obtain ⟨σw, hw, hRw, hkw⟩ := c_tell (d + 3) h (-1000005)
  have hs : ¬ hasP 4 0 = 0 := by decide
  obtain ⟨e0, e1, e2⟩ := h.2.2.2.1 0 (by decide)
  have e1 : σ.1 45 1 = _ := e1
  have e2 : ∀ i, i < 24 → σ.1 49 i = B.2.2.2.1 0 (2 + i) := e2
  obtain ⟨-, m, hm, hm24⟩ := hv.2.2.2.2 0 (by decide)
  have cm := c_isMissing_0 (d + 3) σ
  rw [show σ.1 45 0 = _ from e0] at cm
  rw [sLay, if_neg hs, tc_0, hm, nc (by omega), eg]
  generalize hF : B.2.2.2.1 0 = F at *
  have loop2 : ∀ (σ1 : z_M), (∀ i, i < 24 → σ1.1 49 i = F (2 + i)) → (∀ (σ2 : z_M) (N' : zN) (r : Int32), fr [1, 2, 3, 4, 5] σ1 σ2 → netC σ2 N' → RepC σ2 (oAct r N' B).2 ∧ kC σ σ2) → R + m / 2 ≤ 10 → ∀ (n i : Nat) (σi : z_M), i + n = m / 2 → fr [1, 2, 3, 4, 5] σ1 σi → netC σi (layN B.1 F i) →
      z_wp (z_call (d + 4)) none k_RF_lay (pC σ (oAct (nI (m / 2)) (layN B.1 F (m / 2)) B)) 121 [some (.ref 0), some (.int 0), some (.int (nI (m / 2))), some (.ref 49), some (.int (nI i))] [] σi := by
    intro σ1 hF1 fin hle n
    induction n with
    | zero =>
      intro i σi hi hf hN
      obtain rfl : i = m / 2 := by omega
      refine z_go 40 [121] ⟨fun q => ⟨rfl, fin _ _ _ hf hN⟩, fun q => absurd (Int32.le_refl _) q⟩
    | succ n ih =>
      intro i σi hi hf hN
      obtain ⟨σ2, hc2, hf2, hN2⟩ := c_build (d + 3) hN (layN_R eR F i) (by omega) (F (2 + 2 * i)) (F (2 + (2 * i + 1)))
      refine z_go 40 [121] ⟨fun q => ?_, fun q => ⟨by (first | exact vin (by simp only [al_2, al_3, al_4, al_5, al_7, al_11, al_12, al_13, al_15, al_16, al_17, al_19, al_20, al_21, al_22, al_23, al_24, al_25, al_26, al_28, al_30, al_31, al_32, al_33, al_34, al_36, al_41, al_42, al_43, al_44, al_49, al_50, al_51, al_52, al_54, al_55, al_56, al_57, al_58, al_59, al_60, al_61, al_62, al_63, al_64, al_65, al_66, al_67, al_68, al_69, al_70, al_71, al_72, al_73, al_74, al_75, al_76, al_77, al_78, al_79, al_80]; omega) (by simp only [al_2, al_3, al_4, al_5, al_7, al_11, al_12, al_13, al_15, al_16, al_17, al_19, al_20, al_21, al_22, al_23, al_24, al_25, al_26, al_28, al_30, al_31, al_32, al_33, al_34, al_36, al_41, al_42, al_43, al_44, al_49, al_50, al_51, al_52, al_54, al_55, al_56, al_57, al_58, al_59, al_60, al_61, al_62, al_63, al_64, al_65, al_66, al_67, al_68, al_69, al_70, al_71, al_72, al_73, al_74, al_75, al_76, al_77, al_78, al_79, al_80]; decide) | (simp (disch := omega) only [nL, nI_add, pk_mul, nc, Nat.zero_add, al_2, al_3, al_4, al_5, al_7, al_11, al_12, al_13, al_15, al_16, al_17, al_19, al_20, al_21, al_22, al_23, al_24, al_25, al_26, al_28, al_30, al_31, al_32, al_33, al_34, al_36, al_41, al_42, al_43, al_44, al_49, al_50, al_51, al_52, al_54, al_55, al_56, al_57, al_58, al_59, al_60, al_61, al_62, al_63, al_64, al_65, al_66, al_67, al_68, al_69, al_70, al_71, al_72, al_73, al_74, al_75, al_76, al_77, al_78, al_79, al_80]; exact vin (by omega) (by decide))), by (first | exact vin (by simp only [al_2, al_3, al_4, al_5, al_7, al_11, al_12, al_13, al_15, al_16, al_17, al_19, al_20, al_21, al_22, al_23, al_24, al_25, al_26, al_28, al_30, al_31, al_32, al_33, al_34, al_36, al_41, al_42, al_43, al_44, al_49, al_50, al_51, al_52, al_54, al_55, al_56, al_57, al_58, al_59, al_60, al_61, al_62, al_63, al_64, al_65, al_66, al_67, al_68, al_69, al_70, al_71, al_72, al_73, al_74, al_75, al_76, al_77, al_78, al_79, al_80]; omega) (by simp only [al_2, al_3, al_4, al_5, al_7, al_11, al_12, al_13, al_15, al_16, al_17, al_19, al_20, al_21, al_22, al_23, al_24, al_25, al_26, al_28, al_30, al_31, al_32, al_33, al_34, al_36, al_41, al_42, al_43, al_44, al_49, al_50, al_51, al_52, al_54, al_55, al_56, al_57, al_58, al_59, al_60, al_61, al_62, al_63, al_64, al_65, al_66, al_67, al_68, al_69, al_70, al_71, al_72, al_73, al_74, al_75, al_76, al_77, al_78, al_79, al_80]; decide) | (simp (disch := omega) only [nL, nI_add, pk_mul, nc, Nat.zero_add, al_2, al_3, al_4, al_5, al_7, al_11, al_12, al_13, al_15, al_16, al_17, al_19, al_20, al_21, al_22, al_23, al_24, al_25, al_26, al_28, al_30, al_31, al_32, al_33, al_34, al_36, al_41, al_42, al_43, al_44, al_49, al_50, al_51, al_52, al_54, al_55, al_56, al_57, al_58, al_59, al_60, al_61, al_62, al_63, al_64, al_65, al_66, al_67, al_68, al_69, al_70, al_71, al_72, al_73, al_74, al_75, al_76, al_77, al_78, al_79, al_80]; exact vin (by omega) (by decide))), ?_⟩⟩
      · rw [n_le (by omega) (by omega)] at q
        omega
      · simp (disch := omega) only [nL, nI_add, pk_mul, nc, hf.at (show 49 ∉ [1, 2, 3, 4, 5] by decide), hF1]
        refine ⟨σ2, hc2, ?_⟩
        show z_wp _ _ _ _ 121 _ _ _
        simp only [nL, nI_add]
        exact ih (i + 1) σ2 (by omega) (hf.tr hf2) hN2
  have loop1 : ∀ (n i : Nat), i + n = 2 * (m / 2) → (∀ k, k < i → ¬ hasP (nP B.1) (F (2 + k)) = 0) →
      z_wp (z_call (d + 4)) none k_RF_lay (pC σ (if ∀ i, i < 2 * (m / 2) → ¬ hasP (nP B.1) (F (2 + i)) = 0 then (if R + m / 2 ≤ 10 then oAct (nI (m / 2)) (layN B.1 F (m / 2)) B else oTell (-1000005) B) else oTell (-1000001) B)) 58 [some (.ref 0), some (.int 0), some (.int (nI (m / 2))), some (.ref 49), some (.int (nI i))] [] σ := by
    intro n
    induction n with
    | zero =>
      intro i hi hall
      refine z_go 40 [58, 121] ⟨fun q => ⟨fun q2 => ?_, fun q2 => ?_⟩, fun q => ?_⟩
      · rw [h.1.2.1, eR, nI_add] at q2
        simp (disch := omega) only [nL, n_le] at q2
        obtain ⟨σ1, hc, hN1, -, hk, fin⟩ := c_beginB (d + 1) h
        rw [if_pos (fun k hk => hall k (by omega)), if_pos q2]
        exact ⟨σ1, hc, loop2 σ1 (fun i hi => by rw [hk 49 (by decide) (by decide) (by decide)]; exact e2 i hi) fin q2 (m / 2) 0 σ1 (by omega) fr.rf hN1⟩
      · rw [h.1.2.1, eR, nI_add] at q2
        simp (disch := omega) only [nL, n_le] at q2
        rw [if_pos (fun k hk => hall k (by omega)), if_neg q2]
        exact ⟨_, σw, hw, rfl, hRw, hkw⟩
      · simp (disch := omega) only [nL, pk_mul, n_le] at q
        omega
    | succ n ih =>
      intro i hi hall
      have ca := c_hasPost (d + 3) σ (F (2 + i))
      rw [h.1.1] at ca
      refine z_go 40 [58, 121] ⟨fun q => ?_, fun q => ⟨by (first | exact vin (by simp only [al_2, al_3, al_4, al_5, al_7, al_11, al_12, al_13, al_15, al_16, al_17, al_19, al_20, al_21, al_22, al_23, al_24, al_25, al_26, al_28, al_30, al_31, al_32, al_33, al_34, al_36, al_41, al_42, al_43, al_44, al_49, al_50, al_51, al_52, al_54, al_55, al_56, al_57, al_58, al_59, al_60, al_61, al_62, al_63, al_64, al_65, al_66, al_67, al_68, al_69, al_70, al_71, al_72, al_73, al_74, al_75, al_76, al_77, al_78, al_79, al_80]; omega) (by simp only [al_2, al_3, al_4, al_5, al_7, al_11, al_12, al_13, al_15, al_16, al_17, al_19, al_20, al_21, al_22, al_23, al_24, al_25, al_26, al_28, al_30, al_31, al_32, al_33, al_34, al_36, al_41, al_42, al_43, al_44, al_49, al_50, al_51, al_52, al_54, al_55, al_56, al_57, al_58, al_59, al_60, al_61, al_62, al_63, al_64, al_65, al_66, al_67, al_68, al_69, al_70, al_71, al_72, al_73, al_74, al_75, al_76, al_77, al_78, al_79, al_80]; decide) | (simp (disch := omega) only [nL, nI_add, pk_mul, nc, Nat.zero_add, al_2, al_3, al_4, al_5, al_7, al_11, al_12, al_13, al_15, al_16, al_17, al_19, al_20, al_21, al_22, al_23, al_24, al_25, al_26, al_28, al_30, al_31, al_32, al_33, al_34, al_36, al_41, al_42, al_43, al_44, al_49, al_50, al_51, al_52, al_54, al_55, al_56, al_57, al_58, al_59, al_60, al_61, al_62, al_63, al_64, al_65, al_66, al_67, al_68, al_69, al_70, al_71, al_72, al_73, al_74, al_75, al_76, al_77, al_78, al_79, al_80]; exact vin (by omega) (by decide))), ?_⟩⟩
      · simp (disch := omega) only [nL, pk_mul, n_le] at q
        omega
      · rw [nc (by omega), e2 i (by omega)]
        refine ⟨_, _, ca, fun q2 => ?_, fun q2 => ?_⟩
        · show z_wp _ _ _ _ 58 _ _ _
          simp only [nL, nI_add]
          refine ih (i + 1) (by omega) (fun k hk => ?_)
          rcases Nat.lt_or_ge k i with z | z
          · exact hall k z
          · obtain rfl : k = i := by omega
            exact q2
        · rw [if_neg (fun z => z i (by omega) q2)]
          exact ⟨_, σt, ht, rfl, hRt, hkt⟩
  refine z_metC ⟨rfl, z_go 60 [58] ⟨_, _, c_isSheet (d + 3) σ _, fun q => orj_0 ⟨rfl, _, _, cm, fun q2 => orj_0 ⟨rfl, by decide, orj_0 ⟨rfl, ?_⟩⟩, fun q2 => ?_⟩, fun q => absurd q hs⟩⟩
  · have z1 : ¬ F 0 = 0 := fun z => by rw [if_pos z] at q2; exact absurd q2 (by decide)
    rw [if_neg z1]
    show z_wp _ _ _ _ 58 _ _ _
    rw [e1, hm, half hm24]
    exact loop1 (2 * (m / 2)) 0 (by omega) (fun k hk => by omega)
  · rw [if_pos (by
      rcases Decidable.em (F 0 = 0) with z | z
      · exact z
      · rw [if_neg z] at q2
        exact absurd rfl q2)]
    exact ⟨_, σu, hu, rfl, hRu, hku⟩
theorem x_lay_1 (d : Nat) {σ : z_M} {B : zB} (h : RepC σ B) (hv : VB B) : opC (d + 5) k_RF_lay [.ref 0, .int 1] σ (sLay 1 B) := by
  obtain ⟨P, R, G, eP, hP, eR, hR, -⟩ := hv.1
  have eg : gR B.1 = R := by unfold gR; rw [eR, nc (by omega)]
  obtain ⟨σt, ht, hRt, hkt⟩ := c_tell (d + 3) h (-1000001)
  obtain ⟨σu, hu, hRu, hku⟩ := c_tell (d + 3) h (-1000002)
  obtain ⟨σw, hw, hRw, hkw⟩ := c_tell (d + 3) h (-1000005)
  have hs : ¬ hasP 4 1 = 0 := by decide
  obtain ⟨e0, e1, e2⟩ := h.2.2.2.1 1 (by decide)
  have e1 : σ.1 46 1 = _ := e1
  have e2 : ∀ i, i < 24 → σ.1 50 i = B.2.2.2.1 1 (2 + i) := e2
  obtain ⟨-, m, hm, hm24⟩ := hv.2.2.2.2 1 (by decide)
  have cm := c_isMissing_1 (d + 3) σ
  rw [show σ.1 46 0 = _ from e0] at cm
  rw [sLay, if_neg hs, tc_1, hm, nc (by omega), eg]
  generalize hF : B.2.2.2.1 1 = F at *
  have loop2 : ∀ (σ1 : z_M), (∀ i, i < 24 → σ1.1 50 i = F (2 + i)) → (∀ (σ2 : z_M) (N' : zN) (r : Int32), fr [1, 2, 3, 4, 5] σ1 σ2 → netC σ2 N' → RepC σ2 (oAct r N' B).2 ∧ kC σ σ2) → R + m / 2 ≤ 10 → ∀ (n i : Nat) (σi : z_M), i + n = m / 2 → fr [1, 2, 3, 4, 5] σ1 σi → netC σi (layN B.1 F i) →
      z_wp (z_call (d + 4)) none k_RF_lay (pC σ (oAct (nI (m / 2)) (layN B.1 F (m / 2)) B)) 121 [some (.ref 0), some (.int 1), some (.int (nI (m / 2))), some (.ref 50), some (.int (nI i))] [] σi := by
    intro σ1 hF1 fin hle n
    induction n with
    | zero =>
      intro i σi hi hf hN
      obtain rfl : i = m / 2 := by omega
      refine z_go 40 [121] ⟨fun q => ⟨rfl, fin _ _ _ hf hN⟩, fun q => absurd (Int32.le_refl _) q⟩
    | succ n ih =>
      intro i σi hi hf hN
      obtain ⟨σ2, hc2, hf2, hN2⟩ := c_build (d + 3) hN (layN_R eR F i) (by omega) (F (2 + 2 * i)) (F (2 + (2 * i + 1)))
      refine z_go 40 [121] ⟨fun q => ?_, fun q => ⟨by (first | exact vin (by simp only [al_2, al_3, al_4, al_5, al_7, al_11, al_12, al_13, al_15, al_16, al_17, al_19, al_20, al_21, al_22, al_23, al_24, al_25, al_26, al_28, al_30, al_31, al_32, al_33, al_34, al_36, al_41, al_42, al_43, al_44, al_49, al_50, al_51, al_52, al_54, al_55, al_56, al_57, al_58, al_59, al_60, al_61, al_62, al_63, al_64, al_65, al_66, al_67, al_68, al_69, al_70, al_71, al_72, al_73, al_74, al_75, al_76, al_77, al_78, al_79, al_80]; omega) (by simp only [al_2, al_3, al_4, al_5, al_7, al_11, al_12, al_13, al_15, al_16, al_17, al_19, al_20, al_21, al_22, al_23, al_24, al_25, al_26, al_28, al_30, al_31, al_32, al_33, al_34, al_36, al_41, al_42, al_43, al_44, al_49, al_50, al_51, al_52, al_54, al_55, al_56, al_57, al_58, al_59, al_60, al_61, al_62, al_63, al_64, al_65, al_66, al_67, al_68, al_69, al_70, al_71, al_72, al_73, al_74, al_75, al_76, al_77, al_78, al_79, al_80]; decide) | (simp (disch := omega) only [nL, nI_add, pk_mul, nc, Nat.zero_add, al_2, al_3, al_4, al_5, al_7, al_11, al_12, al_13, al_15, al_16, al_17, al_19, al_20, al_21, al_22, al_23, al_24, al_25, al_26, al_28, al_30, al_31, al_32, al_33, al_34, al_36, al_41, al_42, al_43, al_44, al_49, al_50, al_51, al_52, al_54, al_55, al_56, al_57, al_58, al_59, al_60, al_61, al_62, al_63, al_64, al_65, al_66, al_67, al_68, al_69, al_70, al_71, al_72, al_73, al_74, al_75, al_76, al_77, al_78, al_79, al_80]; exact vin (by omega) (by decide))), by (first | exact vin (by simp only [al_2, al_3, al_4, al_5, al_7, al_11, al_12, al_13, al_15, al_16, al_17, al_19, al_20, al_21, al_22, al_23, al_24, al_25, al_26, al_28, al_30, al_31, al_32, al_33, al_34, al_36, al_41, al_42, al_43, al_44, al_49, al_50, al_51, al_52, al_54, al_55, al_56, al_57, al_58, al_59, al_60, al_61, al_62, al_63, al_64, al_65, al_66, al_67, al_68, al_69, al_70, al_71, al_72, al_73, al_74, al_75, al_76, al_77, al_78, al_79, al_80]; omega) (by simp only [al_2, al_3, al_4, al_5, al_7, al_11, al_12, al_13, al_15, al_16, al_17, al_19, al_20, al_21, al_22, al_23, al_24, al_25, al_26, al_28, al_30, al_31, al_32, al_33, al_34, al_36, al_41, al_42, al_43, al_44, al_49, al_50, al_51, al_52, al_54, al_55, al_56, al_57, al_58, al_59, al_60, al_61, al_62, al_63, al_64, al_65, al_66, al_67, al_68, al_69, al_70, al_71, al_72, al_73, al_74, al_75, al_76, al_77, al_78, al_79, al_80]; decide) | (simp (disch := omega) only [nL, nI_add, pk_mul, nc, Nat.zero_add, al_2, al_3, al_4, al_5, al_7, al_11, al_12, al_13, al_15, al_16, al_17, al_19, al_20, al_21, al_22, al_23, al_24, al_25, al_26, al_28, al_30, al_31, al_32, al_33, al_34, al_36, al_41, al_42, al_43, al_44, al_49, al_50, al_51, al_52, al_54, al_55, al_56, al_57, al_58, al_59, al_60, al_61, al_62, al_63, al_64, al_65, al_66, al_67, al_68, al_69, al_70, al_71, al_72, al_73, al_74, al_75, al_76, al_77, al_78, al_79, al_80]; exact vin (by omega) (by decide))), ?_⟩⟩
      · rw [n_le (by omega) (by omega)] at q
        omega
      · simp (disch := omega) only [nL, nI_add, pk_mul, nc, hf.at (show 50 ∉ [1, 2, 3, 4, 5] by decide), hF1]
        refine ⟨σ2, hc2, ?_⟩
        show z_wp _ _ _ _ 121 _ _ _
        simp only [nL, nI_add]
        exact ih (i + 1) σ2 (by omega) (hf.tr hf2) hN2
  have loop1 : ∀ (n i : Nat), i + n = 2 * (m / 2) → (∀ k, k < i → ¬ hasP (nP B.1) (F (2 + k)) = 0) →
      z_wp (z_call (d + 4)) none k_RF_lay (pC σ (if ∀ i, i < 2 * (m / 2) → ¬ hasP (nP B.1) (F (2 + i)) = 0 then (if R + m / 2 ≤ 10 then oAct (nI (m / 2)) (layN B.1 F (m / 2)) B else oTell (-1000005) B) else oTell (-1000001) B)) 58 [some (.ref 0), some (.int 1), some (.int (nI (m / 2))), some (.ref 50), some (.int (nI i))] [] σ := by
    intro n
    induction n with
    | zero =>
      intro i hi hall
      refine z_go 40 [58, 121] ⟨fun q => ⟨fun q2 => ?_, fun q2 => ?_⟩, fun q => ?_⟩
      · rw [h.1.2.1, eR, nI_add] at q2
        simp (disch := omega) only [nL, n_le] at q2
        obtain ⟨σ1, hc, hN1, -, hk, fin⟩ := c_beginB (d + 1) h
        rw [if_pos (fun k hk => hall k (by omega)), if_pos q2]
        exact ⟨σ1, hc, loop2 σ1 (fun i hi => by rw [hk 50 (by decide) (by decide) (by decide)]; exact e2 i hi) fin q2 (m / 2) 0 σ1 (by omega) fr.rf hN1⟩
      · rw [h.1.2.1, eR, nI_add] at q2
        simp (disch := omega) only [nL, n_le] at q2
        rw [if_pos (fun k hk => hall k (by omega)), if_neg q2]
        exact ⟨_, σw, hw, rfl, hRw, hkw⟩
      · simp (disch := omega) only [nL, pk_mul, n_le] at q
        omega
    | succ n ih =>
      intro i hi hall
      have ca := c_hasPost (d + 3) σ (F (2 + i))
      rw [h.1.1] at ca
      refine z_go 40 [58, 121] ⟨fun q => ?_, fun q => ⟨by (first | exact vin (by simp only [al_2, al_3, al_4, al_5, al_7, al_11, al_12, al_13, al_15, al_16, al_17, al_19, al_20, al_21, al_22, al_23, al_24, al_25, al_26, al_28, al_30, al_31, al_32, al_33, al_34, al_36, al_41, al_42, al_43, al_44, al_49, al_50, al_51, al_52, al_54, al_55, al_56, al_57, al_58, al_59, al_60, al_61, al_62, al_63, al_64, al_65, al_66, al_67, al_68, al_69, al_70, al_71, al_72, al_73, al_74, al_75, al_76, al_77, al_78, al_79, al_80]; omega) (by simp only [al_2, al_3, al_4, al_5, al_7, al_11, al_12, al_13, al_15, al_16, al_17, al_19, al_20, al_21, al_22, al_23, al_24, al_25, al_26, al_28, al_30, al_31, al_32, al_33, al_34, al_36, al_41, al_42, al_43, al_44, al_49, al_50, al_51, al_52, al_54, al_55, al_56, al_57, al_58, al_59, al_60, al_61, al_62, al_63, al_64, al_65, al_66, al_67, al_68, al_69, al_70, al_71, al_72, al_73, al_74, al_75, al_76, al_77, al_78, al_79, al_80]; decide) | (simp (disch := omega) only [nL, nI_add, pk_mul, nc, Nat.zero_add, al_2, al_3, al_4, al_5, al_7, al_11, al_12, al_13, al_15, al_16, al_17, al_19, al_20, al_21, al_22, al_23, al_24, al_25, al_26, al_28, al_30, al_31, al_32, al_33, al_34, al_36, al_41, al_42, al_43, al_44, al_49, al_50, al_51, al_52, al_54, al_55, al_56, al_57, al_58, al_59, al_60, al_61, al_62, al_63, al_64, al_65, al_66, al_67, al_68, al_69, al_70, al_71, al_72, al_73, al_74, al_75, al_76, al_77, al_78, al_79, al_80]; exact vin (by omega) (by decide))), ?_⟩⟩
      · simp (disch := omega) only [nL, pk_mul, n_le] at q
        omega
      · rw [nc (by omega), e2 i (by omega)]
        refine ⟨_, _, ca, fun q2 => ?_, fun q2 => ?_⟩
        · show z_wp _ _ _ _ 58 _ _ _
          simp only [nL, nI_add]
          refine ih (i + 1) (by omega) (fun k hk => ?_)
          rcases Nat.lt_or_ge k i with z | z
          · exact hall k z
          · obtain rfl : k = i := by omega
            exact q2
        · rw [if_neg (fun z => z i (by omega) q2)]
          exact ⟨_, σt, ht, rfl, hRt, hkt⟩
  refine z_metC ⟨rfl, z_go 60 [58] ⟨_, _, c_isSheet (d + 3) σ _, fun q => orj_1 ⟨rfl, _, _, cm, fun q2 => orj_1 ⟨rfl, by decide, orj_1 ⟨rfl, ?_⟩⟩, fun q2 => ?_⟩, fun q => absurd q hs⟩⟩
  · have z1 : ¬ F 0 = 0 := fun z => by rw [if_pos z] at q2; exact absurd q2 (by decide)
    rw [if_neg z1]
    show z_wp _ _ _ _ 58 _ _ _
    rw [e1, hm, half hm24]
    exact loop1 (2 * (m / 2)) 0 (by omega) (fun k hk => by omega)
  · rw [if_pos (by
      rcases Decidable.em (F 0 = 0) with z | z
      · exact z
      · rw [if_neg z] at q2
        exact absurd rfl q2)]
    exact ⟨_, σu, hu, rfl, hRu, hku⟩
theorem x_lay_2 (d : Nat) {σ : z_M} {B : zB} (h : RepC σ B) (hv : VB B) : opC (d + 5) k_RF_lay [.ref 0, .int 2] σ (sLay 2 B) := by
  obtain ⟨P, R, G, eP, hP, eR, hR, -⟩ := hv.1
  have eg : gR B.1 = R := by unfold gR; rw [eR, nc (by omega)]
  obtain ⟨σt, ht, hRt, hkt⟩ := c_tell (d + 3) h (-1000001)
  obtain ⟨σu, hu, hRu, hku⟩ := c_tell (d + 3) h (-1000002)
  obtain ⟨σw, hw, hRw, hkw⟩ := c_tell (d + 3) h (-1000005)
  have hs : ¬ hasP 4 2 = 0 := by decide
  obtain ⟨e0, e1, e2⟩ := h.2.2.2.1 2 (by decide)
  have e1 : σ.1 47 1 = _ := e1
  have e2 : ∀ i, i < 24 → σ.1 51 i = B.2.2.2.1 2 (2 + i) := e2
  obtain ⟨-, m, hm, hm24⟩ := hv.2.2.2.2 2 (by decide)
  have cm := c_isMissing_2 (d + 3) σ
  rw [show σ.1 47 0 = _ from e0] at cm
  rw [sLay, if_neg hs, tc_2, hm, nc (by omega), eg]
  generalize hF : B.2.2.2.1 2 = F at *
  have loop2 : ∀ (σ1 : z_M), (∀ i, i < 24 → σ1.1 51 i = F (2 + i)) → (∀ (σ2 : z_M) (N' : zN) (r : Int32), fr [1, 2, 3, 4, 5] σ1 σ2 → netC σ2 N' → RepC σ2 (oAct r N' B).2 ∧ kC σ σ2) → R + m / 2 ≤ 10 → ∀ (n i : Nat) (σi : z_M), i + n = m / 2 → fr [1, 2, 3, 4, 5] σ1 σi → netC σi (layN B.1 F i) →
      z_wp (z_call (d + 4)) none k_RF_lay (pC σ (oAct (nI (m / 2)) (layN B.1 F (m / 2)) B)) 121 [some (.ref 0), some (.int 2), some (.int (nI (m / 2))), some (.ref 51), some (.int (nI i))] [] σi := by
    intro σ1 hF1 fin hle n
    induction n with
    | zero =>
      intro i σi hi hf hN
      obtain rfl : i = m / 2 := by omega
      refine z_go 40 [121] ⟨fun q => ⟨rfl, fin _ _ _ hf hN⟩, fun q => absurd (Int32.le_refl _) q⟩
    | succ n ih =>
      intro i σi hi hf hN
      obtain ⟨σ2, hc2, hf2, hN2⟩ := c_build (d + 3) hN (layN_R eR F i) (by omega) (F (2 + 2 * i)) (F (2 + (2 * i + 1)))
      refine z_go 40 [121] ⟨fun q => ?_, fun q => ⟨by (first | exact vin (by simp only [al_2, al_3, al_4, al_5, al_7, al_11, al_12, al_13, al_15, al_16, al_17, al_19, al_20, al_21, al_22, al_23, al_24, al_25, al_26, al_28, al_30, al_31, al_32, al_33, al_34, al_36, al_41, al_42, al_43, al_44, al_49, al_50, al_51, al_52, al_54, al_55, al_56, al_57, al_58, al_59, al_60, al_61, al_62, al_63, al_64, al_65, al_66, al_67, al_68, al_69, al_70, al_71, al_72, al_73, al_74, al_75, al_76, al_77, al_78, al_79, al_80]; omega) (by simp only [al_2, al_3, al_4, al_5, al_7, al_11, al_12, al_13, al_15, al_16, al_17, al_19, al_20, al_21, al_22, al_23, al_24, al_25, al_26, al_28, al_30, al_31, al_32, al_33, al_34, al_36, al_41, al_42, al_43, al_44, al_49, al_50, al_51, al_52, al_54, al_55, al_56, al_57, al_58, al_59, al_60, al_61, al_62, al_63, al_64, al_65, al_66, al_67, al_68, al_69, al_70, al_71, al_72, al_73, al_74, al_75, al_76, al_77, al_78, al_79, al_80]; decide) | (simp (disch := omega) only [nL, nI_add, pk_mul, nc, Nat.zero_add, al_2, al_3, al_4, al_5, al_7, al_11, al_12, al_13, al_15, al_16, al_17, al_19, al_20, al_21, al_22, al_23, al_24, al_25, al_26, al_28, al_30, al_31, al_32, al_33, al_34, al_36, al_41, al_42, al_43, al_44, al_49, al_50, al_51, al_52, al_54, al_55, al_56, al_57, al_58, al_59, al_60, al_61, al_62, al_63, al_64, al_65, al_66, al_67, al_68, al_69, al_70, al_71, al_72, al_73, al_74, al_75, al_76, al_77, al_78, al_79, al_80]; exact vin (by omega) (by decide))), by (first | exact vin (by simp only [al_2, al_3, al_4, al_5, al_7, al_11, al_12, al_13, al_15, al_16, al_17, al_19, al_20, al_21, al_22, al_23, al_24, al_25, al_26, al_28, al_30, al_31, al_32, al_33, al_34, al_36, al_41, al_42, al_43, al_44, al_49, al_50, al_51, al_52, al_54, al_55, al_56, al_57, al_58, al_59, al_60, al_61, al_62, al_63, al_64, al_65, al_66, al_67, al_68, al_69, al_70, al_71, al_72, al_73, al_74, al_75, al_76, al_77, al_78, al_79, al_80]; omega) (by simp only [al_2, al_3, al_4, al_5, al_7, al_11, al_12, al_13, al_15, al_16, al_17, al_19, al_20, al_21, al_22, al_23, al_24, al_25, al_26, al_28, al_30, al_31, al_32, al_33, al_34, al_36, al_41, al_42, al_43, al_44, al_49, al_50, al_51, al_52, al_54, al_55, al_56, al_57, al_58, al_59, al_60, al_61, al_62, al_63, al_64, al_65, al_66, al_67, al_68, al_69, al_70, al_71, al_72, al_73, al_74, al_75, al_76, al_77, al_78, al_79, al_80]; decide) | (simp (disch := omega) only [nL, nI_add, pk_mul, nc, Nat.zero_add, al_2, al_3, al_4, al_5, al_7, al_11, al_12, al_13, al_15, al_16, al_17, al_19, al_20, al_21, al_22, al_23, al_24, al_25, al_26, al_28, al_30, al_31, al_32, al_33, al_34, al_36, al_41, al_42, al_43, al_44, al_49, al_50, al_51, al_52, al_54, al_55, al_56, al_57, al_58, al_59, al_60, al_61, al_62, al_63, al_64, al_65, al_66, al_67, al_68, al_69, al_70, al_71, al_72, al_73, al_74, al_75, al_76, al_77, al_78, al_79, al_80]; exact vin (by omega) (by decide))), ?_⟩⟩
      · rw [n_le (by omega) (by omega)] at q
        omega
      · simp (disch := omega) only [nL, nI_add, pk_mul, nc, hf.at (show 51 ∉ [1, 2, 3, 4, 5] by decide), hF1]
        refine ⟨σ2, hc2, ?_⟩
        show z_wp _ _ _ _ 121 _ _ _
        simp only [nL, nI_add]
        exact ih (i + 1) σ2 (by omega) (hf.tr hf2) hN2
  have loop1 : ∀ (n i : Nat), i + n = 2 * (m / 2) → (∀ k, k < i → ¬ hasP (nP B.1) (F (2 + k)) = 0) →
      z_wp (z_call (d + 4)) none k_RF_lay (pC σ (if ∀ i, i < 2 * (m / 2) → ¬ hasP (nP B.1) (F (2 + i)) = 0 then (if R + m / 2 ≤ 10 then oAct (nI (m / 2)) (layN B.1 F (m / 2)) B else oTell (-1000005) B) else oTell (-1000001) B)) 58 [some (.ref 0), some (.int 2), some (.int (nI (m / 2))), some (.ref 51), some (.int (nI i))] [] σ := by
    intro n
    induction n with
    | zero =>
      intro i hi hall
      refine z_go 40 [58, 121] ⟨fun q => ⟨fun q2 => ?_, fun q2 => ?_⟩, fun q => ?_⟩
      · rw [h.1.2.1, eR, nI_add] at q2
        simp (disch := omega) only [nL, n_le] at q2
        obtain ⟨σ1, hc, hN1, -, hk, fin⟩ := c_beginB (d + 1) h
        rw [if_pos (fun k hk => hall k (by omega)), if_pos q2]
        exact ⟨σ1, hc, loop2 σ1 (fun i hi => by rw [hk 51 (by decide) (by decide) (by decide)]; exact e2 i hi) fin q2 (m / 2) 0 σ1 (by omega) fr.rf hN1⟩
      · rw [h.1.2.1, eR, nI_add] at q2
        simp (disch := omega) only [nL, n_le] at q2
        rw [if_pos (fun k hk => hall k (by omega)), if_neg q2]
        exact ⟨_, σw, hw, rfl, hRw, hkw⟩
      · simp (disch := omega) only [nL, pk_mul, n_le] at q
        omega
    | succ n ih =>
      intro i hi hall
      have ca := c_hasPost (d + 3) σ (F (2 + i))
      rw [h.1.1] at ca
      refine z_go 40 [58, 121] ⟨fun q => ?_, fun q => ⟨by (first | exact vin (by simp only [al_2, al_3, al_4, al_5, al_7, al_11, al_12, al_13, al_15, al_16, al_17, al_19, al_20, al_21, al_22, al_23, al_24, al_25, al_26, al_28, al_30, al_31, al_32, al_33, al_34, al_36, al_41, al_42, al_43, al_44, al_49, al_50, al_51, al_52, al_54, al_55, al_56, al_57, al_58, al_59, al_60, al_61, al_62, al_63, al_64, al_65, al_66, al_67, al_68, al_69, al_70, al_71, al_72, al_73, al_74, al_75, al_76, al_77, al_78, al_79, al_80]; omega) (by simp only [al_2, al_3, al_4, al_5, al_7, al_11, al_12, al_13, al_15, al_16, al_17, al_19, al_20, al_21, al_22, al_23, al_24, al_25, al_26, al_28, al_30, al_31, al_32, al_33, al_34, al_36, al_41, al_42, al_43, al_44, al_49, al_50, al_51, al_52, al_54, al_55, al_56, al_57, al_58, al_59, al_60, al_61, al_62, al_63, al_64, al_65, al_66, al_67, al_68, al_69, al_70, al_71, al_72, al_73, al_74, al_75, al_76, al_77, al_78, al_79, al_80]; decide) | (simp (disch := omega) only [nL, nI_add, pk_mul, nc, Nat.zero_add, al_2, al_3, al_4, al_5, al_7, al_11, al_12, al_13, al_15, al_16, al_17, al_19, al_20, al_21, al_22, al_23, al_24, al_25, al_26, al_28, al_30, al_31, al_32, al_33, al_34, al_36, al_41, al_42, al_43, al_44, al_49, al_50, al_51, al_52, al_54, al_55, al_56, al_57, al_58, al_59, al_60, al_61, al_62, al_63, al_64, al_65, al_66, al_67, al_68, al_69, al_70, al_71, al_72, al_73, al_74, al_75, al_76, al_77, al_78, al_79, al_80]; exact vin (by omega) (by decide))), ?_⟩⟩
      · simp (disch := omega) only [nL, pk_mul, n_le] at q
        omega
      · rw [nc (by omega), e2 i (by omega)]
        refine ⟨_, _, ca, fun q2 => ?_, fun q2 => ?_⟩
        · show z_wp _ _ _ _ 58 _ _ _
          simp only [nL, nI_add]
          refine ih (i + 1) (by omega) (fun k hk => ?_)
          rcases Nat.lt_or_ge k i with z | z
          · exact hall k z
          · obtain rfl : k = i := by omega
            exact q2
        · rw [if_neg (fun z => z i (by omega) q2)]
          exact ⟨_, σt, ht, rfl, hRt, hkt⟩
  refine z_metC ⟨rfl, z_go 60 [58] ⟨_, _, c_isSheet (d + 3) σ _, fun q => orj_2 ⟨rfl, _, _, cm, fun q2 => orj_2 ⟨rfl, by decide, orj_2 ⟨rfl, ?_⟩⟩, fun q2 => ?_⟩, fun q => absurd q hs⟩⟩
  · have z1 : ¬ F 0 = 0 := fun z => by rw [if_pos z] at q2; exact absurd q2 (by decide)
    rw [if_neg z1]
    show z_wp _ _ _ _ 58 _ _ _
    rw [e1, hm, half hm24]
    exact loop1 (2 * (m / 2)) 0 (by omega) (fun k hk => by omega)
  · rw [if_pos (by
      rcases Decidable.em (F 0 = 0) with z | z
      · exact z
      · rw [if_neg z] at q2
        exact absurd rfl q2)]
    exact ⟨_, σu, hu, rfl, hRu, hku⟩
theorem x_lay_3 (d : Nat) {σ : z_M} {B : zB} (h : RepC σ B) (hv : VB B) : opC (d + 5) k_RF_lay [.ref 0, .int 3] σ (sLay 3 B) := by
  obtain ⟨P, R, G, eP, hP, eR, hR, -⟩ := hv.1
  have eg : gR B.1 = R := by unfold gR; rw [eR, nc (by omega)]
  obtain ⟨σt, ht, hRt, hkt⟩ := c_tell (d + 3) h (-1000001)
  obtain ⟨σu, hu, hRu, hku⟩ := c_tell (d + 3) h (-1000002)
  obtain ⟨σw, hw, hRw, hkw⟩ := c_tell (d + 3) h (-1000005)
  have hs : ¬ hasP 4 3 = 0 := by decide
  obtain ⟨e0, e1, e2⟩ := h.2.2.2.1 3 (by decide)
  have e1 : σ.1 48 1 = _ := e1
  have e2 : ∀ i, i < 24 → σ.1 52 i = B.2.2.2.1 3 (2 + i) := e2
  obtain ⟨-, m, hm, hm24⟩ := hv.2.2.2.2 3 (by decide)
  have cm := c_isMissing_3 (d + 3) σ
  rw [show σ.1 48 0 = _ from e0] at cm
  rw [sLay, if_neg hs, tc_3, hm, nc (by omega), eg]
  generalize hF : B.2.2.2.1 3 = F at *
  have loop2 : ∀ (σ1 : z_M), (∀ i, i < 24 → σ1.1 52 i = F (2 + i)) → (∀ (σ2 : z_M) (N' : zN) (r : Int32), fr [1, 2, 3, 4, 5] σ1 σ2 → netC σ2 N' → RepC σ2 (oAct r N' B).2 ∧ kC σ σ2) → R + m / 2 ≤ 10 → ∀ (n i : Nat) (σi : z_M), i + n = m / 2 → fr [1, 2, 3, 4, 5] σ1 σi → netC σi (layN B.1 F i) →
      z_wp (z_call (d + 4)) none k_RF_lay (pC σ (oAct (nI (m / 2)) (layN B.1 F (m / 2)) B)) 121 [some (.ref 0), some (.int 3), some (.int (nI (m / 2))), some (.ref 52), some (.int (nI i))] [] σi := by
    intro σ1 hF1 fin hle n
    induction n with
    | zero =>
      intro i σi hi hf hN
      obtain rfl : i = m / 2 := by omega
      refine z_go 40 [121] ⟨fun q => ⟨rfl, fin _ _ _ hf hN⟩, fun q => absurd (Int32.le_refl _) q⟩
    | succ n ih =>
      intro i σi hi hf hN
      obtain ⟨σ2, hc2, hf2, hN2⟩ := c_build (d + 3) hN (layN_R eR F i) (by omega) (F (2 + 2 * i)) (F (2 + (2 * i + 1)))
      refine z_go 40 [121] ⟨fun q => ?_, fun q => ⟨by (first | exact vin (by simp only [al_2, al_3, al_4, al_5, al_7, al_11, al_12, al_13, al_15, al_16, al_17, al_19, al_20, al_21, al_22, al_23, al_24, al_25, al_26, al_28, al_30, al_31, al_32, al_33, al_34, al_36, al_41, al_42, al_43, al_44, al_49, al_50, al_51, al_52, al_54, al_55, al_56, al_57, al_58, al_59, al_60, al_61, al_62, al_63, al_64, al_65, al_66, al_67, al_68, al_69, al_70, al_71, al_72, al_73, al_74, al_75, al_76, al_77, al_78, al_79, al_80]; omega) (by simp only [al_2, al_3, al_4, al_5, al_7, al_11, al_12, al_13, al_15, al_16, al_17, al_19, al_20, al_21, al_22, al_23, al_24, al_25, al_26, al_28, al_30, al_31, al_32, al_33, al_34, al_36, al_41, al_42, al_43, al_44, al_49, al_50, al_51, al_52, al_54, al_55, al_56, al_57, al_58, al_59, al_60, al_61, al_62, al_63, al_64, al_65, al_66, al_67, al_68, al_69, al_70, al_71, al_72, al_73, al_74, al_75, al_76, al_77, al_78, al_79, al_80]; decide) | (simp (disch := omega) only [nL, nI_add, pk_mul, nc, Nat.zero_add, al_2, al_3, al_4, al_5, al_7, al_11, al_12, al_13, al_15, al_16, al_17, al_19, al_20, al_21, al_22, al_23, al_24, al_25, al_26, al_28, al_30, al_31, al_32, al_33, al_34, al_36, al_41, al_42, al_43, al_44, al_49, al_50, al_51, al_52, al_54, al_55, al_56, al_57, al_58, al_59, al_60, al_61, al_62, al_63, al_64, al_65, al_66, al_67, al_68, al_69, al_70, al_71, al_72, al_73, al_74, al_75, al_76, al_77, al_78, al_79, al_80]; exact vin (by omega) (by decide))), by (first | exact vin (by simp only [al_2, al_3, al_4, al_5, al_7, al_11, al_12, al_13, al_15, al_16, al_17, al_19, al_20, al_21, al_22, al_23, al_24, al_25, al_26, al_28, al_30, al_31, al_32, al_33, al_34, al_36, al_41, al_42, al_43, al_44, al_49, al_50, al_51, al_52, al_54, al_55, al_56, al_57, al_58, al_59, al_60, al_61, al_62, al_63, al_64, al_65, al_66, al_67, al_68, al_69, al_70, al_71, al_72, al_73, al_74, al_75, al_76, al_77, al_78, al_79, al_80]; omega) (by simp only [al_2, al_3, al_4, al_5, al_7, al_11, al_12, al_13, al_15, al_16, al_17, al_19, al_20, al_21, al_22, al_23, al_24, al_25, al_26, al_28, al_30, al_31, al_32, al_33, al_34, al_36, al_41, al_42, al_43, al_44, al_49, al_50, al_51, al_52, al_54, al_55, al_56, al_57, al_58, al_59, al_60, al_61, al_62, al_63, al_64, al_65, al_66, al_67, al_68, al_69, al_70, al_71, al_72, al_73, al_74, al_75, al_76, al_77, al_78, al_79, al_80]; decide) | (simp (disch := omega) only [nL, nI_add, pk_mul, nc, Nat.zero_add, al_2, al_3, al_4, al_5, al_7, al_11, al_12, al_13, al_15, al_16, al_17, al_19, al_20, al_21, al_22, al_23, al_24, al_25, al_26, al_28, al_30, al_31, al_32, al_33, al_34, al_36, al_41, al_42, al_43, al_44, al_49, al_50, al_51, al_52, al_54, al_55, al_56, al_57, al_58, al_59, al_60, al_61, al_62, al_63, al_64, al_65, al_66, al_67, al_68, al_69, al_70, al_71, al_72, al_73, al_74, al_75, al_76, al_77, al_78, al_79, al_80]; exact vin (by omega) (by decide))), ?_⟩⟩
      · rw [n_le (by omega) (by omega)] at q
        omega
      · simp (disch := omega) only [nL, nI_add, pk_mul, nc, hf.at (show 52 ∉ [1, 2, 3, 4, 5] by decide), hF1]
        refine ⟨σ2, hc2, ?_⟩
        show z_wp _ _ _ _ 121 _ _ _
        simp only [nL, nI_add]
        exact ih (i + 1) σ2 (by omega) (hf.tr hf2) hN2
  have loop1 : ∀ (n i : Nat), i + n = 2 * (m / 2) → (∀ k, k < i → ¬ hasP (nP B.1) (F (2 + k)) = 0) →
      z_wp (z_call (d + 4)) none k_RF_lay (pC σ (if ∀ i, i < 2 * (m / 2) → ¬ hasP (nP B.1) (F (2 + i)) = 0 then (if R + m / 2 ≤ 10 then oAct (nI (m / 2)) (layN B.1 F (m / 2)) B else oTell (-1000005) B) else oTell (-1000001) B)) 58 [some (.ref 0), some (.int 3), some (.int (nI (m / 2))), some (.ref 52), some (.int (nI i))] [] σ := by
    intro n
    induction n with
    | zero =>
      intro i hi hall
      refine z_go 40 [58, 121] ⟨fun q => ⟨fun q2 => ?_, fun q2 => ?_⟩, fun q => ?_⟩
      · rw [h.1.2.1, eR, nI_add] at q2
        simp (disch := omega) only [nL, n_le] at q2
        obtain ⟨σ1, hc, hN1, -, hk, fin⟩ := c_beginB (d + 1) h
        rw [if_pos (fun k hk => hall k (by omega)), if_pos q2]
        exact ⟨σ1, hc, loop2 σ1 (fun i hi => by rw [hk 52 (by decide) (by decide) (by decide)]; exact e2 i hi) fin q2 (m / 2) 0 σ1 (by omega) fr.rf hN1⟩
      · rw [h.1.2.1, eR, nI_add] at q2
        simp (disch := omega) only [nL, n_le] at q2
        rw [if_pos (fun k hk => hall k (by omega)), if_neg q2]
        exact ⟨_, σw, hw, rfl, hRw, hkw⟩
      · simp (disch := omega) only [nL, pk_mul, n_le] at q
        omega
    | succ n ih =>
      intro i hi hall
      have ca := c_hasPost (d + 3) σ (F (2 + i))
      rw [h.1.1] at ca
      refine z_go 40 [58, 121] ⟨fun q => ?_, fun q => ⟨by (first | exact vin (by simp only [al_2, al_3, al_4, al_5, al_7, al_11, al_12, al_13, al_15, al_16, al_17, al_19, al_20, al_21, al_22, al_23, al_24, al_25, al_26, al_28, al_30, al_31, al_32, al_33, al_34, al_36, al_41, al_42, al_43, al_44, al_49, al_50, al_51, al_52, al_54, al_55, al_56, al_57, al_58, al_59, al_60, al_61, al_62, al_63, al_64, al_65, al_66, al_67, al_68, al_69, al_70, al_71, al_72, al_73, al_74, al_75, al_76, al_77, al_78, al_79, al_80]; omega) (by simp only [al_2, al_3, al_4, al_5, al_7, al_11, al_12, al_13, al_15, al_16, al_17, al_19, al_20, al_21, al_22, al_23, al_24, al_25, al_26, al_28, al_30, al_31, al_32, al_33, al_34, al_36, al_41, al_42, al_43, al_44, al_49, al_50, al_51, al_52, al_54, al_55, al_56, al_57, al_58, al_59, al_60, al_61, al_62, al_63, al_64, al_65, al_66, al_67, al_68, al_69, al_70, al_71, al_72, al_73, al_74, al_75, al_76, al_77, al_78, al_79, al_80]; decide) | (simp (disch := omega) only [nL, nI_add, pk_mul, nc, Nat.zero_add, al_2, al_3, al_4, al_5, al_7, al_11, al_12, al_13, al_15, al_16, al_17, al_19, al_20, al_21, al_22, al_23, al_24, al_25, al_26, al_28, al_30, al_31, al_32, al_33, al_34, al_36, al_41, al_42, al_43, al_44, al_49, al_50, al_51, al_52, al_54, al_55, al_56, al_57, al_58, al_59, al_60, al_61, al_62, al_63, al_64, al_65, al_66, al_67, al_68, al_69, al_70, al_71, al_72, al_73, al_74, al_75, al_76, al_77, al_78, al_79, al_80]; exact vin (by omega) (by decide))), ?_⟩⟩
      · simp (disch := omega) only [nL, pk_mul, n_le] at q
        omega
      · rw [nc (by omega), e2 i (by omega)]
        refine ⟨_, _, ca, fun q2 => ?_, fun q2 => ?_⟩
        · show z_wp _ _ _ _ 58 _ _ _
          simp only [nL, nI_add]
          refine ih (i + 1) (by omega) (fun k hk => ?_)
          rcases Nat.lt_or_ge k i with z | z
          · exact hall k z
          · obtain rfl : k = i := by omega
            exact q2
        · rw [if_neg (fun z => z i (by omega) q2)]
          exact ⟨_, σt, ht, rfl, hRt, hkt⟩
  refine z_metC ⟨rfl, z_go 60 [58] ⟨_, _, c_isSheet (d + 3) σ _, fun q => orj_3 ⟨rfl, _, _, cm, fun q2 => orj_3 ⟨rfl, by decide, orj_3 ⟨rfl, ?_⟩⟩, fun q2 => ?_⟩, fun q => absurd q hs⟩⟩
  · have z1 : ¬ F 0 = 0 := fun z => by rw [if_pos z] at q2; exact absurd q2 (by decide)
    rw [if_neg z1]
    show z_wp _ _ _ _ 58 _ _ _
    rw [e1, hm, half hm24]
    exact loop1 (2 * (m / 2)) 0 (by omega) (fun k hk => by omega)
  · rw [if_pos (by
      rcases Decidable.em (F 0 = 0) with z | z
      · exact z
      · rw [if_neg z] at q2
        exact absurd rfl q2)]
    exact ⟨_, σu, hu, rfl, hRu, hku⟩
theorem x_lay (d : Nat) {σ : z_M} {B : zB} (h : RepC σ B) (hv : VB B) (s : Int32) : opC (d + 5) k_RF_lay [.ref 0, .int s] σ (sLay s B) := by
  by_cases hs : hasP 4 s = 0
  · obtain ⟨σt, ht, hRt, hkt⟩ := c_tell (d + 3) h (-1000001)
    refine z_metC ⟨rfl, z_go 20 [] ⟨_, _, c_isSheet (d + 3) σ s, fun q => absurd hs q, fun q => ?_⟩⟩
    rw [sLay, if_pos hs]
    exact ⟨_, σt, ht, rfl, hRt, hkt⟩
  · obtain ⟨j, hj, rfl⟩ := hasP_ne (n := 4) (by omega) hs
    exact four_cases (P := fun j => opC (d + 5) k_RF_lay [.ref 0, .int (nI j)] σ (sLay (nI j) B)) (x_lay_0 d h hv) (x_lay_1 d h hv) (x_lay_2 d h hv) (x_lay_3 d h hv) hj
theorem y_lay (d : Nat) {σ : z_M} {B : zB} (h : RepD σ B) (hv : VB B) (s : Int32) : opD (d + 5) k_Md_lay [.ref 53, .int s] σ (sLay s B) := by
  obtain ⟨P, R, G, eP, hP, eR, hR, -⟩ := hv.1
  have eg : gR B.1 = R := by unfold gR; rw [eR, nc (by omega)]
  obtain ⟨σt, ht, hRt, hkt⟩ := c_finding (d + 3) h (-1000001)
  obtain ⟨σu, hu, hRu, hku⟩ := c_finding (d + 3) h (-1000002)
  obtain ⟨σw, hw, hRw, hkw⟩ := c_finding (d + 3) h (-1000005)
  refine z_metD ⟨rfl, z_go 60 [41] ⟨_, _, c_misSheet (d + 3) σ s, fun q => ?_, fun q => ?_⟩⟩
  · obtain ⟨j, hj, rfl⟩ := hasP_ne (n := 4) (by omega) q
    obtain ⟨e0, e1, e2⟩ := h.2.2.2.1 j hj
    obtain ⟨-, m, hm, hm24⟩ := hv.2.2.2.2 j hj
    rw [sLay, if_neg q, nc (show j < 2147483648 by omega), hm, nc (show m < 2147483648 by omega), eg]
    generalize hF : B.2.2.2.1 j = F at *
    have loop2 : ∀ (σ1 : z_M), (∀ i, i < 24 → σ1.1 65 (24 * j + i) = F (2 + i)) → (∀ (σ2 : z_M) (N' : zN) (r : Int32), fr [53, 54, 55, 56, 57] σ1 σ2 → (∀ k, 2 < k → σ2.1 53 k = σ1.1 53 k) → netD σ2 N' → RepD σ2 (oAct r N' B).2 ∧ kD σ σ2) → R + m / 2 ≤ 10 → ∀ (n i : Nat) (σi : z_M), i + n = m / 2 → fr [53, 54, 55, 56, 57] σ1 σi → (∀ k, 2 < k → σi.1 53 k = σ1.1 53 k) → netD σi (layN B.1 F i) →
        z_wp (z_call (d + 4)) none k_Md_lay (pD σ (oAct (nI (m / 2)) (layN B.1 F (m / 2)) B)) 103 [some (.ref 53), some (.int (nI j)), some (.int (nI (m / 2))), some (.int (nI i))] [] σi := by
      intro σ1 hF1 fin hle n
      induction n with
      | zero =>
        intro i σi hi hf hk hN
        obtain rfl : i = m / 2 := by omega
        refine z_go 40 [103] ⟨fun q => ⟨rfl, fin _ _ _ hf hk hN⟩, fun q => absurd (Int32.le_refl _) q⟩
      | succ n ih =>
        intro i σi hi hf hk hN
        obtain ⟨σ2, hc2, hf2, hk2, hN2⟩ := c_addRoad (d + 3) hN (layN_R eR F i) (by omega) (F (2 + 2 * i)) (F (2 + (2 * i + 1)))
        refine z_go 40 [103] ⟨fun q => ?_, fun q => ⟨by (first | exact vin (by simp only [al_2, al_3, al_4, al_5, al_7, al_11, al_12, al_13, al_15, al_16, al_17, al_19, al_20, al_21, al_22, al_23, al_24, al_25, al_26, al_28, al_30, al_31, al_32, al_33, al_34, al_36, al_41, al_42, al_43, al_44, al_49, al_50, al_51, al_52, al_54, al_55, al_56, al_57, al_58, al_59, al_60, al_61, al_62, al_63, al_64, al_65, al_66, al_67, al_68, al_69, al_70, al_71, al_72, al_73, al_74, al_75, al_76, al_77, al_78, al_79, al_80]; omega) (by simp only [al_2, al_3, al_4, al_5, al_7, al_11, al_12, al_13, al_15, al_16, al_17, al_19, al_20, al_21, al_22, al_23, al_24, al_25, al_26, al_28, al_30, al_31, al_32, al_33, al_34, al_36, al_41, al_42, al_43, al_44, al_49, al_50, al_51, al_52, al_54, al_55, al_56, al_57, al_58, al_59, al_60, al_61, al_62, al_63, al_64, al_65, al_66, al_67, al_68, al_69, al_70, al_71, al_72, al_73, al_74, al_75, al_76, al_77, al_78, al_79, al_80]; decide) | (simp (disch := omega) only [nL, nI_add, pk_mul, nc, Nat.zero_add, al_2, al_3, al_4, al_5, al_7, al_11, al_12, al_13, al_15, al_16, al_17, al_19, al_20, al_21, al_22, al_23, al_24, al_25, al_26, al_28, al_30, al_31, al_32, al_33, al_34, al_36, al_41, al_42, al_43, al_44, al_49, al_50, al_51, al_52, al_54, al_55, al_56, al_57, al_58, al_59, al_60, al_61, al_62, al_63, al_64, al_65, al_66, al_67, al_68, al_69, al_70, al_71, al_72, al_73, al_74, al_75, al_76, al_77, al_78, al_79, al_80]; exact vin (by omega) (by decide))), by (first | exact vin (by simp only [al_2, al_3, al_4, al_5, al_7, al_11, al_12, al_13, al_15, al_16, al_17, al_19, al_20, al_21, al_22, al_23, al_24, al_25, al_26, al_28, al_30, al_31, al_32, al_33, al_34, al_36, al_41, al_42, al_43, al_44, al_49, al_50, al_51, al_52, al_54, al_55, al_56, al_57, al_58, al_59, al_60, al_61, al_62, al_63, al_64, al_65, al_66, al_67, al_68, al_69, al_70, al_71, al_72, al_73, al_74, al_75, al_76, al_77, al_78, al_79, al_80]; omega) (by simp only [al_2, al_3, al_4, al_5, al_7, al_11, al_12, al_13, al_15, al_16, al_17, al_19, al_20, al_21, al_22, al_23, al_24, al_25, al_26, al_28, al_30, al_31, al_32, al_33, al_34, al_36, al_41, al_42, al_43, al_44, al_49, al_50, al_51, al_52, al_54, al_55, al_56, al_57, al_58, al_59, al_60, al_61, al_62, al_63, al_64, al_65, al_66, al_67, al_68, al_69, al_70, al_71, al_72, al_73, al_74, al_75, al_76, al_77, al_78, al_79, al_80]; decide) | (simp (disch := omega) only [nL, nI_add, pk_mul, nc, Nat.zero_add, al_2, al_3, al_4, al_5, al_7, al_11, al_12, al_13, al_15, al_16, al_17, al_19, al_20, al_21, al_22, al_23, al_24, al_25, al_26, al_28, al_30, al_31, al_32, al_33, al_34, al_36, al_41, al_42, al_43, al_44, al_49, al_50, al_51, al_52, al_54, al_55, al_56, al_57, al_58, al_59, al_60, al_61, al_62, al_63, al_64, al_65, al_66, al_67, al_68, al_69, al_70, al_71, al_72, al_73, al_74, al_75, al_76, al_77, al_78, al_79, al_80]; exact vin (by omega) (by decide))), ?_⟩⟩
        · rw [n_le (by omega) (by omega)] at q
          omega
        · have w1 := hF1 (2 * i) (by omega)
          have w2 := hF1 (2 * i + 1) (by omega)
          rw [← Nat.add_assoc] at w2
          simp (disch := omega) only [nL, nI_add, pk_mul, nc, hf.at (show 65 ∉ [53, 54, 55, 56, 57] by decide), w1, w2]
          refine ⟨σ2, hc2, ?_⟩
          show z_wp _ _ _ _ 103 _ _ _
          simp only [nL, nI_add]
          exact ih (i + 1) σ2 (by omega) (hf.tr hf2) (fun k hk3 => (hk2 k hk3).trans (hk k hk3)) hN2
    have loop1 : ∀ (n i : Nat), i + n = 2 * (m / 2) → (∀ k, k < i → ¬ hasP (nP B.1) (F (2 + k)) = 0) →
        z_wp (z_call (d + 4)) none k_Md_lay (pD σ (if ∀ i, i < 2 * (m / 2) → ¬ hasP (nP B.1) (F (2 + i)) = 0 then (if R + m / 2 ≤ 10 then oAct (nI (m / 2)) (layN B.1 F (m / 2)) B else oTell (-1000005) B) else oTell (-1000001) B)) 41 [some (.ref 53), some (.int (nI j)), some (.int (nI (m / 2))), some (.int (nI i))] [] σ := by
      intro n
      induction n with
      | zero =>
        intro i hi hall
        refine z_go 40 [41, 103] ⟨fun q => ⟨fun q2 => ?_, fun q2 => ?_⟩, fun q => ?_⟩
        · rw [h.1.2.1, eR, nI_add] at q2
          simp (disch := omega) only [nL, n_le] at q2
          obtain ⟨σ1, hc, hN1, -, hk, hk3, fin⟩ := c_keepB (d + 2) h
          rw [if_pos (fun k hk => hall k (by omega)), if_pos q2]
          exact ⟨σ1, hc, loop2 σ1 (fun i hi => by rw [hk3 65 (by decide) (by decide)]; exact e2 i hi) fin q2 (m / 2) 0 σ1 (by omega) fr.rf (fun _ _ => rfl) hN1⟩
        · rw [h.1.2.1, eR, nI_add] at q2
          simp (disch := omega) only [nL, n_le] at q2
          rw [if_pos (fun k hk => hall k (by omega)), if_neg q2]
          exact ⟨_, σw, hw, rfl, hRw, hkw⟩
        · simp (disch := omega) only [nL, pk_mul, n_le] at q
          omega
      | succ n ih =>
        intro i hi hall
        have ca := c_isPost (d + 3) σ (F (2 + i))
        rw [h.1.1] at ca
        refine z_go 40 [41, 103] ⟨fun q => ?_, fun q => ⟨by (first | exact vin (by simp only [al_2, al_3, al_4, al_5, al_7, al_11, al_12, al_13, al_15, al_16, al_17, al_19, al_20, al_21, al_22, al_23, al_24, al_25, al_26, al_28, al_30, al_31, al_32, al_33, al_34, al_36, al_41, al_42, al_43, al_44, al_49, al_50, al_51, al_52, al_54, al_55, al_56, al_57, al_58, al_59, al_60, al_61, al_62, al_63, al_64, al_65, al_66, al_67, al_68, al_69, al_70, al_71, al_72, al_73, al_74, al_75, al_76, al_77, al_78, al_79, al_80]; omega) (by simp only [al_2, al_3, al_4, al_5, al_7, al_11, al_12, al_13, al_15, al_16, al_17, al_19, al_20, al_21, al_22, al_23, al_24, al_25, al_26, al_28, al_30, al_31, al_32, al_33, al_34, al_36, al_41, al_42, al_43, al_44, al_49, al_50, al_51, al_52, al_54, al_55, al_56, al_57, al_58, al_59, al_60, al_61, al_62, al_63, al_64, al_65, al_66, al_67, al_68, al_69, al_70, al_71, al_72, al_73, al_74, al_75, al_76, al_77, al_78, al_79, al_80]; decide) | (simp (disch := omega) only [nL, nI_add, pk_mul, nc, Nat.zero_add, al_2, al_3, al_4, al_5, al_7, al_11, al_12, al_13, al_15, al_16, al_17, al_19, al_20, al_21, al_22, al_23, al_24, al_25, al_26, al_28, al_30, al_31, al_32, al_33, al_34, al_36, al_41, al_42, al_43, al_44, al_49, al_50, al_51, al_52, al_54, al_55, al_56, al_57, al_58, al_59, al_60, al_61, al_62, al_63, al_64, al_65, al_66, al_67, al_68, al_69, al_70, al_71, al_72, al_73, al_74, al_75, al_76, al_77, al_78, al_79, al_80]; exact vin (by omega) (by decide))), ?_⟩⟩
        · simp (disch := omega) only [nL, pk_mul, n_le] at q
          omega
        · have w : σ.1 65 (24 * nI j + nI i).toNatClampNeg = F (2 + i) := by
            rw [show (24 : Int32) * nI j = nI (24 * j) from pk_mul 24 j, nI_add, nc (by omega)]
            exact e2 i (by omega)
          rw [w]
          refine ⟨_, _, ca, fun q2 => ?_, fun q2 => ?_⟩
          · show z_wp _ _ _ _ 41 _ _ _
            simp only [nL, nI_add]
            refine ih (i + 1) (by omega) (fun k hk => ?_)
            rcases Nat.lt_or_ge k i with z | z
            · exact hall k z
            · obtain rfl : k = i := by omega
              exact q2
          · rw [if_neg (fun z => z i (by omega) q2)]
            exact ⟨_, σt, ht, rfl, hRt, hkt⟩
    refine ⟨by (first | exact vin (by simp only [al_2, al_3, al_4, al_5, al_7, al_11, al_12, al_13, al_15, al_16, al_17, al_19, al_20, al_21, al_22, al_23, al_24, al_25, al_26, al_28, al_30, al_31, al_32, al_33, al_34, al_36, al_41, al_42, al_43, al_44, al_49, al_50, al_51, al_52, al_54, al_55, al_56, al_57, al_58, al_59, al_60, al_61, al_62, al_63, al_64, al_65, al_66, al_67, al_68, al_69, al_70, al_71, al_72, al_73, al_74, al_75, al_76, al_77, al_78, al_79, al_80]; omega) (by simp only [al_2, al_3, al_4, al_5, al_7, al_11, al_12, al_13, al_15, al_16, al_17, al_19, al_20, al_21, al_22, al_23, al_24, al_25, al_26, al_28, al_30, al_31, al_32, al_33, al_34, al_36, al_41, al_42, al_43, al_44, al_49, al_50, al_51, al_52, al_54, al_55, al_56, al_57, al_58, al_59, al_60, al_61, al_62, al_63, al_64, al_65, al_66, al_67, al_68, al_69, al_70, al_71, al_72, al_73, al_74, al_75, al_76, al_77, al_78, al_79, al_80]; decide) | (simp (disch := omega) only [nL, nI_add, pk_mul, nc, Nat.zero_add, al_2, al_3, al_4, al_5, al_7, al_11, al_12, al_13, al_15, al_16, al_17, al_19, al_20, al_21, al_22, al_23, al_24, al_25, al_26, al_28, al_30, al_31, al_32, al_33, al_34, al_36, al_41, al_42, al_43, al_44, al_49, al_50, al_51, al_52, al_54, al_55, al_56, al_57, al_58, al_59, al_60, al_61, al_62, al_63, al_64, al_65, al_66, al_67, al_68, al_69, al_70, al_71, al_72, al_73, al_74, al_75, al_76, al_77, al_78, al_79, al_80]; exact vin (by omega) (by decide))), fun q2 => ⟨by (first | exact vin (by simp only [al_2, al_3, al_4, al_5, al_7, al_11, al_12, al_13, al_15, al_16, al_17, al_19, al_20, al_21, al_22, al_23, al_24, al_25, al_26, al_28, al_30, al_31, al_32, al_33, al_34, al_36, al_41, al_42, al_43, al_44, al_49, al_50, al_51, al_52, al_54, al_55, al_56, al_57, al_58, al_59, al_60, al_61, al_62, al_63, al_64, al_65, al_66, al_67, al_68, al_69, al_70, al_71, al_72, al_73, al_74, al_75, al_76, al_77, al_78, al_79, al_80]; omega) (by simp only [al_2, al_3, al_4, al_5, al_7, al_11, al_12, al_13, al_15, al_16, al_17, al_19, al_20, al_21, al_22, al_23, al_24, al_25, al_26, al_28, al_30, al_31, al_32, al_33, al_34, al_36, al_41, al_42, al_43, al_44, al_49, al_50, al_51, al_52, al_54, al_55, al_56, al_57, al_58, al_59, al_60, al_61, al_62, al_63, al_64, al_65, al_66, al_67, al_68, al_69, al_70, al_71, al_72, al_73, al_74, al_75, al_76, al_77, al_78, al_79, al_80]; decide) | (simp (disch := omega) only [nL, nI_add, pk_mul, nc, Nat.zero_add, al_2, al_3, al_4, al_5, al_7, al_11, al_12, al_13, al_15, al_16, al_17, al_19, al_20, al_21, al_22, al_23, al_24, al_25, al_26, al_28, al_30, al_31, al_32, al_33, al_34, al_36, al_41, al_42, al_43, al_44, al_49, al_50, al_51, al_52, al_54, al_55, al_56, al_57, al_58, al_59, al_60, al_61, al_62, al_63, al_64, al_65, al_66, al_67, al_68, al_69, al_70, al_71, al_72, al_73, al_74, al_75, al_76, al_77, al_78, al_79, al_80]; exact vin (by omega) (by decide))), by decide, ?_⟩, fun q2 => ?_⟩
    · rw [nc (by omega), e0] at q2
      rw [if_neg q2]
      show z_wp _ _ _ _ 41 _ _ _
      rw [nc (by omega), e1, hm, half hm24]
      exact loop1 (2 * (m / 2)) 0 (by omega) (fun k hk => by omega)
    · rw [nc (by omega), e0] at q2
      rw [if_pos q2]
      exact ⟨_, σu, hu, rfl, hRu, hku⟩
  · rw [sLay, if_pos q]
    exact ⟨_, σt, ht, rfl, hRt, hkt⟩
theorem NV_lay {N : zN} (h : NV N) (f : Nat → Int32) : ∀ k, gR N + k ≤ 10 → (∀ i, i < 2 * k → ¬ hasP (nP N) (f (2 + i)) = 0) → NV (layN N f k)
  | 0, _, _ => h
  | k + 1, hk, hall => by
    obtain ⟨P, R, G, eP, hP, eR, hR, -⟩ := id h
    have eg : gR N = R := by unfold gR; rw [eR, nc (by omega)]
    refine NV_addR (NV_lay h f k (by omega) (fun i hi => hall i (by omega))) ?_ ?_ ?_
    · rw [layN_P]
      exact hall (2 * k) (by omega)
    · rw [layN_P]
      exact hall (2 * k + 1) (by omega)
    · rw [layN_R eR]
      show nI _ < nI 10
      rw [n_lt (by omega) (by omega)]
      omega
theorem v_lay {B : zB} (h : VB B) (s : Int32) : VB (sLay s B).2 := by
  unfold sLay
  split
  · exact h.tell _
  · split
    · exact h.tell _
    · split
      · rename_i hall
        split
        · rename_i hle
          exact h.act _ (NV_lay h.1 _ _ hle hall)
        · exact h.tell _
      · exact h.tell _
