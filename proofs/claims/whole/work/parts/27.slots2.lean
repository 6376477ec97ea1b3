/-! slots: bring, add, times, as -/
def refS (s : Int32) (B : zB) : Int32 := if hasP 4 s = 0 then -1000001 else if B.2.2.1 s.toNatClampNeg 0 = -1 then -1000006 else if B.2.2.1 s.toNatClampNeg 2 = nR B.1 then 0 else -1000003
theorem refS_z {s : Int32} {B : zB} (h : refS s B = 0) : ∃ j, j < 4 ∧ s = nI j ∧ ¬ B.2.2.1 j 0 = -1 ∧ B.2.2.1 j 2 = nR B.1 := by
  unfold refS at h
  split at h
  · exact absurd h (by decide)
  · rename_i q
    obtain ⟨j, hj, rfl⟩ := hasP_ne (n := 4) (by omega) q
    rw [nc (by omega)] at h
    split at h
    · exact absurd h (by decide)
    · rename_i q2
      split at h
      · rename_i q3
        exact ⟨j, hj, rfl, q2, q3⟩
      · exact absurd h (by decide)
theorem c_refusalOf_0 (d : Nat) {σ : z_M} {B : zB} (h : RepC σ B) : z_call (d + 2) k_RF_refusalOf [.ref 0, .int 0] σ (some (.int (refS 0 B))) σ := by
  have hs : ¬ hasP 4 0 = 0 := by decide
  have hsl := h.2.2.1 0 (by decide)
  unfold refS
  rw [if_neg hs, tc_0]
  have en : σ.1 1 1 = nR B.1 := h.1.2.1
  refine ⟨rfl, z_go 60 [] ⟨_, _, c_isSlot d σ 0, fun q => orj_0 ⟨rfl, fun q2 => orj_0 ⟨rfl, fun q3 => ?_, fun q3 => ?_⟩, fun q2 => ?_⟩, fun q => absurd q hs⟩⟩
  · rcases hsl with ⟨a, b⟩ | ⟨a, b, c1, c2, c3, c4⟩
    · exact absurd b q2
    · have c3 : σ.1 37 1 = _ := c3
      rw [if_neg (fun z => by rw [z] at a; exact absurd a (by decide)), if_pos (by rw [← c3, q3, en])]
      exact ⟨rfl, rfl⟩
  · rcases hsl with ⟨a, b⟩ | ⟨a, b, c1, c2, c3, c4⟩
    · exact absurd b q2
    · have c3 : σ.1 37 1 = _ := c3
      rw [if_neg (fun z => by rw [z] at a; exact absurd a (by decide)), if_neg (by rw [← c3, ← en]; exact q3)]
      exact ⟨rfl, rfl⟩
  · rcases hsl with ⟨a, b⟩ | ⟨a, b, c1, c2, c3, c4⟩
    · rw [if_pos a]
      exact ⟨rfl, rfl⟩
    · have b : σ.1 37 0 = 1 := b
      rw [b] at q2
      exact absurd q2 (by decide)
theorem c_refusalOf_1 (d : Nat) {σ : z_M} {B : zB} (h : RepC σ B) : z_call (d + 2) k_RF_refusalOf [.ref 0, .int 1] σ (some (.int (refS 1 B))) σ := by
  have hs : ¬ hasP 4 1 = 0 := by decide
  have hsl := h.2.2.1 1 (by decide)
  unfold refS
  rw [if_neg hs, tc_1]
  have en : σ.1 1 1 = nR B.1 := h.1.2.1
  refine ⟨rfl, z_go 60 [] ⟨_, _, c_isSlot d σ 1, fun q => orj_1 ⟨rfl, fun q2 => orj_1 ⟨rfl, fun q3 => ?_, fun q3 => ?_⟩, fun q2 => ?_⟩, fun q => absurd q hs⟩⟩
  · rcases hsl with ⟨a, b⟩ | ⟨a, b, c1, c2, c3, c4⟩
    · exact absurd b q2
    · have c3 : σ.1 38 1 = _ := c3
      rw [if_neg (fun z => by rw [z] at a; exact absurd a (by decide)), if_pos (by rw [← c3, q3, en])]
      exact ⟨rfl, rfl⟩
  · rcases hsl with ⟨a, b⟩ | ⟨a, b, c1, c2, c3, c4⟩
    · exact absurd b q2
    · have c3 : σ.1 38 1 = _ := c3
      rw [if_neg (fun z => by rw [z] at a; exact absurd a (by decide)), if_neg (by rw [← c3, ← en]; exact q3)]
      exact ⟨rfl, rfl⟩
  · rcases hsl with ⟨a, b⟩ | ⟨a, b, c1, c2, c3, c4⟩
    · rw [if_pos a]
      exact ⟨rfl, rfl⟩
    · have b : σ.1 38 0 = 1 := b
      rw [b] at q2
      exact absurd q2 (by decide)
theorem c_refusalOf_2 (d : Nat) {σ : z_M} {B : zB} (h : RepC σ B) : z_call (d + 2) k_RF_refusalOf [.ref 0, .int 2] σ (some (.int (refS 2 B))) σ := by
  have hs : ¬ hasP 4 2 = 0 := by decide
  have hsl := h.2.2.1 2 (by decide)
  unfold refS
  rw [if_neg hs, tc_2]
  have en : σ.1 1 1 = nR B.1 := h.1.2.1
  refine ⟨rfl, z_go 60 [] ⟨_, _, c_isSlot d σ 2, fun q => orj_2 ⟨rfl, fun q2 => orj_2 ⟨rfl, fun q3 => ?_, fun q3 => ?_⟩, fun q2 => ?_⟩, fun q => absurd q hs⟩⟩
  · rcases hsl with ⟨a, b⟩ | ⟨a, b, c1, c2, c3, c4⟩
    · exact absurd b q2
    · have c3 : σ.1 39 1 = _ := c3
      rw [if_neg (fun z => by rw [z] at a; exact absurd a (by decide)), if_pos (by rw [← c3, q3, en])]
      exact ⟨rfl, rfl⟩
  · rcases hsl with ⟨a, b⟩ | ⟨a, b, c1, c2, c3, c4⟩
    · exact absurd b q2
    · have c3 : σ.1 39 1 = _ := c3
      rw [if_neg (fun z => by rw [z] at a; exact absurd a (by decide)), if_neg (by rw [← c3, ← en]; exact q3)]
      exact ⟨rfl, rfl⟩
  · rcases hsl with ⟨a, b⟩ | ⟨a, b, c1, c2, c3, c4⟩
    · rw [if_pos a]
      exact ⟨rfl, rfl⟩
    · have b : σ.1 39 0 = 1 := b
      rw [b] at q2
      exact absurd q2 (by decide)
theorem c_refusalOf_3 (d : Nat) {σ : z_M} {B : zB} (h : RepC σ B) : z_call (d + 2) k_RF_refusalOf [.ref 0, .int 3] σ (some (.int (refS 3 B))) σ := by
  have hs : ¬ hasP 4 3 = 0 := by decide
  have hsl := h.2.2.1 3 (by decide)
  unfold refS
  rw [if_neg hs, tc_3]
  have en : σ.1 1 1 = nR B.1 := h.1.2.1
  refine ⟨rfl, z_go 60 [] ⟨_, _, c_isSlot d σ 3, fun q => orj_3 ⟨rfl, fun q2 => orj_3 ⟨rfl, fun q3 => ?_, fun q3 => ?_⟩, fun q2 => ?_⟩, fun q => absurd q hs⟩⟩
  · rcases hsl with ⟨a, b⟩ | ⟨a, b, c1, c2, c3, c4⟩
    · exact absurd b q2
    · have c3 : σ.1 40 1 = _ := c3
      rw [if_neg (fun z => by rw [z] at a; exact absurd a (by decide)), if_pos (by rw [← c3, q3, en])]
      exact ⟨rfl, rfl⟩
  · rcases hsl with ⟨a, b⟩ | ⟨a, b, c1, c2, c3, c4⟩
    · exact absurd b q2
    · have c3 : σ.1 40 1 = _ := c3
      rw [if_neg (fun z => by rw [z] at a; exact absurd a (by decide)), if_neg (by rw [← c3, ← en]; exact q3)]
      exact ⟨rfl, rfl⟩
  · rcases hsl with ⟨a, b⟩ | ⟨a, b, c1, c2, c3, c4⟩
    · rw [if_pos a]
      exact ⟨rfl, rfl⟩
    · have b : σ.1 40 0 = 1 := b
      rw [b] at q2
      exact absurd q2 (by decide)
theorem c_refusalOf (d : Nat) {σ : z_M} {B : zB} (h : RepC σ B) (s : Int32) : z_call (d + 2) k_RF_refusalOf [.ref 0, .int s] σ (some (.int (refS s B))) σ := by
  by_cases hs : hasP 4 s = 0
  · unfold refS
    rw [if_pos hs]
    exact ⟨rfl, z_go 20 [] ⟨_, _, c_isSlot d σ s, fun q => absurd hs q, fun q => ⟨rfl, rfl⟩⟩⟩
  · obtain ⟨j, hj, rfl⟩ := hasP_ne (n := 4) (by omega) hs
    exact four_cases (P := fun j => z_call (d + 2) k_RF_refusalOf [.ref 0, .int (nI j)] σ (some (.int (refS (nI j) B))) σ) (c_refusalOf_0 d h) (c_refusalOf_1 d h) (c_refusalOf_2 d h) (c_refusalOf_3 d h) hj
theorem SV.nn {sl : Nat → Int32} (h : SV sl) (h0 : ¬ sl 0 = -1) : 0 ≤ sl 0 := by
  rcases h with h | ⟨h | h | h | h, -⟩
  · exact absurd h h0
  · rw [h]; decide
  · rw [h]; decide
  · rw [h]; decide
  · rw [h]; decide
theorem c_askSlot (d : Nat) {σ : z_M} {B : zB} (h : RepD σ B) (hv : VB B) (s : Int32) : z_call (d + 2) k_Md_askSlot [.ref 53, .int s] σ (some (.int (refS s B))) σ := by
  unfold refS
  refine ⟨rfl, z_go 60 [] ⟨_, _, c_misSlot d σ s, fun hs => ?_, fun hs => ⟨by rw [if_pos hs], rfl⟩⟩⟩
  rw [if_neg hs]
  obtain ⟨j, hj, rfl⟩ := hasP_ne (n := 4) (by omega) hs
  obtain ⟨a, b⟩ := h.2.2.1 j hj
  refine ⟨by (first | exact vin (by simp only [al_2, al_3, al_4, al_5, al_7, al_11, al_12, al_13, al_15, al_16, al_17, al_19, al_20, al_21, al_22, al_23, al_24, al_25, al_26, al_28, al_30, al_31, al_32, al_33, al_34, al_36, al_41, al_42, al_43, al_44, al_49, al_50, al_51, al_52, al_54, al_55, al_56, al_57, al_58, al_59, al_60, al_61, al_62, al_63, al_64, al_65, al_66, al_67, al_68, al_69, al_70, al_71, al_72, al_73, al_74, al_75, al_76, al_77, al_78, al_79, al_80]; omega) (by simp only [al_2, al_3, al_4, al_5, al_7, al_11, al_12, al_13, al_15, al_16, al_17, al_19, al_20, al_21, al_22, al_23, al_24, al_25, al_26, al_28, al_30, al_31, al_32, al_33, al_34, al_36, al_41, al_42, al_43, al_44, al_49, al_50, al_51, al_52, al_54, al_55, al_56, al_57, al_58, al_59, al_60, al_61, al_62, al_63, al_64, al_65, al_66, al_67, al_68, al_69, al_70, al_71, al_72, al_73, al_74, al_75, al_76, al_77, al_78, al_79, al_80]; decide) | (simp (disch := omega) only [nL, nI_add, pk_mul, nc, Nat.zero_add, al_2, al_3, al_4, al_5, al_7, al_11, al_12, al_13, al_15, al_16, al_17, al_19, al_20, al_21, al_22, al_23, al_24, al_25, al_26, al_28, al_30, al_31, al_32, al_33, al_34, al_36, al_41, al_42, al_43, al_44, al_49, al_50, al_51, al_52, al_54, al_55, al_56, al_57, al_58, al_59, al_60, al_61, al_62, al_63, al_64, al_65, al_66, al_67, al_68, al_69, al_70, al_71, al_72, al_73, al_74, al_75, al_76, al_77, al_78, al_79, al_80]; exact vin (by omega) (by decide))), fun q => ⟨by (first | exact vin (by simp only [al_2, al_3, al_4, al_5, al_7, al_11, al_12, al_13, al_15, al_16, al_17, al_19, al_20, al_21, al_22, al_23, al_24, al_25, al_26, al_28, al_30, al_31, al_32, al_33, al_34, al_36, al_41, al_42, al_43, al_44, al_49, al_50, al_51, al_52, al_54, al_55, al_56, al_57, al_58, al_59, al_60, al_61, al_62, al_63, al_64, al_65, al_66, al_67, al_68, al_69, al_70, al_71, al_72, al_73, al_74, al_75, al_76, al_77, al_78, al_79, al_80]; omega) (by simp only [al_2, al_3, al_4, al_5, al_7, al_11, al_12, al_13, al_15, al_16, al_17, al_19, al_20, al_21, al_22, al_23, al_24, al_25, al_26, al_28, al_30, al_31, al_32, al_33, al_34, al_36, al_41, al_42, al_43, al_44, al_49, al_50, al_51, al_52, al_54, al_55, al_56, al_57, al_58, al_59, al_60, al_61, al_62, al_63, al_64, al_65, al_66, al_67, al_68, al_69, al_70, al_71, al_72, al_73, al_74, al_75, al_76, al_77, al_78, al_79, al_80]; decide) | (simp (disch := omega) only [nL, nI_add, pk_mul, nc, Nat.zero_add, al_2, al_3, al_4, al_5, al_7, al_11, al_12, al_13, al_15, al_16, al_17, al_19, al_20, al_21, al_22, al_23, al_24, al_25, al_26, al_28, al_30, al_31, al_32, al_33, al_34, al_36, al_41, al_42, al_43, al_44, al_49, al_50, al_51, al_52, al_54, al_55, al_56, al_57, al_58, al_59, al_60, al_61, al_62, al_63, al_64, al_65, al_66, al_67, al_68, al_69, al_70, al_71, al_72, al_73, al_74, al_75, al_76, al_77, al_78, al_79, al_80]; exact vin (by omega) (by decide))), fun q2 => ?_, fun q2 => ?_⟩, fun q => ?_⟩
  · rw [nc (by omega), a] at q
    rw [nc (by omega), (b q).2.1, h.1.2.1] at q2
    rw [nc (by omega), if_neg (fun z => by rw [z] at q; exact absurd q (by decide)), if_pos q2]
    exact ⟨rfl, rfl⟩
  · rw [nc (by omega), a] at q
    rw [nc (by omega), (b q).2.1, h.1.2.1] at q2
    rw [nc (by omega), if_neg (fun z => by rw [z] at q; exact absurd q (by decide)), if_neg q2]
    exact ⟨rfl, rfl⟩
  · rw [nc (by omega), a] at q
    rw [nc (by omega), if_pos (Classical.byContradiction fun z => q ((hv.2.2.2.1 j hj).nn z))]
    exact ⟨rfl, rfl⟩
def brgN (N : zN) (f : Nat → Int32) : zN := ((nP N, nR N, f 1), nS N, nE N, nD N, fun i => if i < gR N then f (3 + i) else nV N i)
def sBring (s : Int32) (B : zB) : Int32 × zB := if refS s B = 0 then oAct (B.2.2.1 s.toNatClampNeg 0) (brgN B.1 (B.2.2.1 s.toNatClampNeg)) B else oTell (refS s B) B
theorem x_bring_0 (d : Nat) {σ : z_M} {B : zB} (h : RepC σ B) (hv : VB B) (h0 : ¬ B.2.2.1 0 0 = -1) (h2 : B.2.2.1 0 2 = nR B.1) : opC (d + 5) k_RF_bring [.ref 0, .int 0] σ (sBring 0 B) := by
  obtain ⟨P, R, G, eP, hP, eR, hR, -⟩ := hv.1
  have eg : gR B.1 = R := by unfold gR; rw [eR, nc (by omega)]
  have hr : refS 0 B = 0 := by
    unfold refS
    rw [if_neg (by decide), tc_0, if_neg h0, if_pos h2]
  obtain ⟨σ1, hc, hN1, hs1, hk, fin⟩ := c_beginB (d + 1) h
  have e11 : σ1.1 1 1 = nI R := by rw [hN1.2.1, eR]
  rcases hs1 0 (by decide) with ⟨a, b⟩ | ⟨a, b, c1, c2, c3, c4⟩
  · exact absurd a h0
  have c1 : σ1.1 37 3 = _ := c1
  have c2 : σ1.1 37 2 = _ := c2
  have c4 : ∀ i, i < 10 → nI i < B.2.2.1 0 2 → σ1.1 41 i = _ := c4
  refine z_metC ⟨rfl, z_go 60 [] ⟨_, _, c_refusalOf_0 (d + 2) h, fun q => ⟨σ1, hc, orj_0 ⟨rfl, orj_0 ⟨rfl, ?_, orj_0 ⟨rfl, ?_⟩⟩⟩⟩, fun q => absurd hr q⟩⟩
  · rw [wr_k (by decide), e11]
    (simp (disch := omega) only [nL, nI_add, pk_mul, nc, Nat.zero_add, al_2, al_3, al_4, al_5, al_7, al_11, al_12, al_13, al_15, al_16, al_17, al_19, al_20, al_21, al_22, al_23, al_24, al_25, al_26, al_28, al_30, al_31, al_32, al_33, al_34, al_36, al_41, al_42, al_43, al_44, al_49, al_50, al_51, al_52, al_54, al_55, al_56, al_57, al_58, al_59, al_60, al_61, al_62, al_63, al_64, al_65, al_66, al_67, al_68, al_69, al_70, al_71, al_72, al_73, al_74, al_75, al_76, al_77, al_78, al_79, al_80]; exact ⟨n_nn (by omega), n_nn (by omega), n_nn (by omega), by omega, by omega⟩)
  · rw [sBring, if_pos hr, tc_0]
    simp (disch := omega) only [wr_k, e11, nL, nc]
    refine ⟨?_, fin _ _ _ (by (repeat (first | exact fr.rf | refine fr.cp ?_ (by decide) | refine fr.wr ?_ (by decide) | refine fr.wl ?_ (by decide)))) ⟨?_, ?_, ?_, fun i hi => ?_⟩⟩
    · simp (disch := omega) only [nL, nI_add, pk_mul, nc, cp_in, cp_lo, cp_hi, cp_ne, wr_s, wr_k, wr_c, wr_e, Nat.zero_add]
      rw [c1]
      rfl
    · simp (disch := omega) only [nL, nI_add, pk_mul, nc, cp_in, cp_lo, cp_hi, cp_ne, wr_s, wr_k, wr_c, wr_e, Nat.zero_add]
      exact hN1.1
    · simp (disch := omega) only [nL, nI_add, pk_mul, nc, cp_in, cp_lo, cp_hi, cp_ne, wr_s, wr_k, wr_c, wr_e, Nat.zero_add]
      exact hN1.2.1
    · simp (disch := omega) only [nL, nI_add, pk_mul, nc, cp_in, cp_lo, cp_hi, cp_ne, wr_s, wr_k, wr_c, wr_e, Nat.zero_add]
      exact c2
    · obtain ⟨b1, b2, b3, b4⟩ := hN1.2.2.2 i hi
      refine ⟨?_, ?_, ?_, ?_⟩
      · simp (disch := omega) only [nL, nI_add, pk_mul, nc, cp_in, cp_lo, cp_hi, cp_ne, wr_s, wr_k, wr_c, wr_e, Nat.zero_add]
        exact b1
      · simp (disch := omega) only [nL, nI_add, pk_mul, nc, cp_in, cp_lo, cp_hi, cp_ne, wr_s, wr_k, wr_c, wr_e, Nat.zero_add]
        exact b2
      · simp (disch := omega) only [nL, nI_add, pk_mul, nc, cp_in, cp_lo, cp_hi, cp_ne, wr_s, wr_k, wr_c, wr_e, Nat.zero_add]
        exact b3
      · simp only [brgN, nV, eg]
        by_cases e : i < R
        · rw [if_pos e]
          simp (disch := omega) only [nL, nI_add, pk_mul, nc, cp_in, cp_lo, cp_hi, cp_ne, wr_s, wr_k, wr_c, wr_e, Nat.zero_add]
          exact c4 i hi (by rw [h2, eR, n_lt (by omega) (by omega)]; exact e)
        · rw [if_neg e]
          simp (disch := omega) only [nL, nI_add, pk_mul, nc, cp_in, cp_lo, cp_hi, cp_ne, wr_s, wr_k, wr_c, wr_e, Nat.zero_add]
          exact b4
theorem x_bring_1 (d : Nat) {σ : z_M} {B : zB} (h : RepC σ B) (hv : VB B) (h0 : ¬ B.2.2.1 1 0 = -1) (h2 : B.2.2.1 1 2 = nR B.1) : opC (d + 5) k_RF_bring [.ref 0, .int 1] σ (sBring 1 B) := by
  obtain ⟨P, R, G, eP, hP, eR, hR, -⟩ := hv.1
  have eg : gR B.1 = R := by unfold gR; rw [eR, nc (by omega)]
  have hr : refS 1 B = 0 := by
    unfold refS
    rw [if_neg (by decide), tc_1, if_neg h0, if_pos h2]
  obtain ⟨σ1, hc, hN1, hs1, hk, fin⟩ := c_beginB (d + 1) h
  have e11 : σ1.1 1 1 = nI R := by rw [hN1.2.1, eR]
  rcases hs1 1 (by decide) with ⟨a, b⟩ | ⟨a, b, c1, c2, c3, c4⟩
  · exact absurd a h0
  have c1 : σ1.1 38 3 = _ := c1
  have c2 : σ1.1 38 2 = _ := c2
  have c4 : ∀ i, i < 10 → nI i < B.2.2.1 1 2 → σ1.1 42 i = _ := c4
  refine z_metC ⟨rfl, z_go 60 [] ⟨_, _, c_refusalOf_1 (d + 2) h, fun q => ⟨σ1, hc, orj_1 ⟨rfl, orj_1 ⟨rfl, ?_, orj_1 ⟨rfl, ?_⟩⟩⟩⟩, fun q => absurd hr q⟩⟩
  · rw [wr_k (by decide), e11]
    (simp (disch := omega) only [nL, nI_add, pk_mul, nc, Nat.zero_add, al_2, al_3, al_4, al_5, al_7, al_11, al_12, al_13, al_15, al_16, al_17, al_19, al_20, al_21, al_22, al_23, al_24, al_25, al_26, al_28, al_30, al_31, al_32, al_33, al_34, al_36, al_41, al_42, al_43, al_44, al_49, al_50, al_51, al_52, al_54, al_55, al_56, al_57, al_58, al_59, al_60, al_61, al_62, al_63, al_64, al_65, al_66, al_67, al_68, al_69, al_70, al_71, al_72, al_73, al_74, al_75, al_76, al_77, al_78, al_79, al_80]; exact ⟨n_nn (by omega), n_nn (by omega), n_nn (by omega), by omega, by omega⟩)
  · rw [sBring, if_pos hr, tc_1]
    simp (disch := omega) only [wr_k, e11, nL, nc]
    refine ⟨?_, fin _ _ _ (by (repeat (first | exact fr.rf | refine fr.cp ?_ (by decide) | refine fr.wr ?_ (by decide) | refine fr.wl ?_ (by decide)))) ⟨?_, ?_, ?_, fun i hi => ?_⟩⟩
    · simp (disch := omega) only [nL, nI_add, pk_mul, nc, cp_in, cp_lo, cp_hi, cp_ne, wr_s, wr_k, wr_c, wr_e, Nat.zero_add]
      rw [c1]
      rfl
    · simp (disch := omega) only [nL, nI_add, pk_mul, nc, cp_in, cp_lo, cp_hi, cp_ne, wr_s, wr_k, wr_c, wr_e, Nat.zero_add]
      exact hN1.1
    · simp (disch := omega) only [nL, nI_add, pk_mul, nc, cp_in, cp_lo, cp_hi, cp_ne, wr_s, wr_k, wr_c, wr_e, Nat.zero_add]
      exact hN1.2.1
    · simp (disch := omega) only [nL, nI_add, pk_mul, nc, cp_in, cp_lo, cp_hi, cp_ne, wr_s, wr_k, wr_c, wr_e, Nat.zero_add]
      exact c2
    · obtain ⟨b1, b2, b3, b4⟩ := hN1.2.2.2 i hi
      refine ⟨?_, ?_, ?_, ?_⟩
      · simp (disch := omega) only [nL, nI_add, pk_mul, nc, cp_in, cp_lo, cp_hi, cp_ne, wr_s, wr_k, wr_c, wr_e, Nat.zero_add]
        exact b1
      · simp (disch := omega) only [nL, nI_add, pk_mul, nc, cp_in, cp_lo, cp_hi, cp_ne, wr_s, wr_k, wr_c, wr_e, Nat.zero_add]
        exact b2
      · simp (disch := omega) only [nL, nI_add, pk_mul, nc, cp_in, cp_lo, cp_hi, cp_ne, wr_s, wr_k, wr_c, wr_e, Nat.zero_add]
        exact b3
      · simp only [brgN, nV, eg]
        by_cases e : i < R
        · rw [if_pos e]
          simp (disch := omega) only [nL, nI_add, pk_mul, nc, cp_in, cp_lo, cp_hi, cp_ne, wr_s, wr_k, wr_c, wr_e, Nat.zero_add]
          exact c4 i hi (by rw [h2, eR, n_lt (by omega) (by omega)]; exact e)
        · rw [if_neg e]
          simp (disch := omega) only [nL, nI_add, pk_mul, nc, cp_in, cp_lo, cp_hi, cp_ne, wr_s, wr_k, wr_c, wr_e, Nat.zero_add]
          exact b4
theorem x_bring_2 (d : Nat) {σ : z_M} {B : zB} (h : RepC σ B) (hv : VB B) (h0 : ¬ B.2.2.1 2 0 = -1) (h2 : B.2.2.1 2 2 = nR B.1) : opC (d + 5) k_RF_bring [.ref 0, .int 2] σ (sBring 2 B) := by
  obtain ⟨P, R, G, eP, hP, eR, hR, -⟩ := hv.1
  have eg : gR B.1 = R := by unfold gR; rw [eR, nc (by omega)]
  have hr : refS 2 B = 0 := by
    unfold refS
    rw [if_neg (by decide), tc_2, if_neg h0, if_pos h2]
  obtain ⟨σ1, hc, hN1, hs1, hk, fin⟩ := c_beginB (d + 1) h
  have e11 : σ1.1 1 1 = nI R := by rw [hN1.2.1, eR]
  rcases hs1 2 (by decide) with ⟨a, b⟩ | ⟨a, b, c1, c2, c3, c4⟩
  · exact absurd a h0
  have c1 : σ1.1 39 3 = _ := c1
  have c2 : σ1.1 39 2 = _ := c2
  have c4 : ∀ i, i < 10 → nI i < B.2.2.1 2 2 → σ1.1 43 i = _ := c4
  refine z_metC ⟨rfl, z_go 60 [] ⟨_, _, c_refusalOf_2 (d + 2) h, fun q => ⟨σ1, hc, orj_2 ⟨rfl, orj_2 ⟨rfl, ?_, orj_2 ⟨rfl, ?_⟩⟩⟩⟩, fun q => absurd hr q⟩⟩
  · rw [wr_k (by decide), e11]
    (simp (disch := omega) only [nL, nI_add, pk_mul, nc, Nat.zero_add, al_2, al_3, al_4, al_5, al_7, al_11, al_12, al_13, al_15, al_16, al_17, al_19, al_20, al_21, al_22, al_23, al_24, al_25, al_26, al_28, al_30, al_31, al_32, al_33, al_34, al_36, al_41, al_42, al_43, al_44, al_49, al_50, al_51, al_52, al_54, al_55, al_56, al_57, al_58, al_59, al_60, al_61, al_62, al_63, al_64, al_65, al_66, al_67, al_68, al_69, al_70, al_71, al_72, al_73, al_74, al_75, al_76, al_77, al_78, al_79, al_80]; exact ⟨n_nn (by omega), n_nn (by omega), n_nn (by omega), by omega, by omega⟩)
  · rw [sBring, if_pos hr, tc_2]
    simp (disch := omega) only [wr_k, e11, nL, nc]
    refine ⟨?_, fin _ _ _ (by (repeat (first | exact fr.rf | refine fr.cp ?_ (by decide) | refine fr.wr ?_ (by decide) | refine fr.wl ?_ (by decide)))) ⟨?_, ?_, ?_, fun i hi => ?_⟩⟩
    · simp (disch := omega) only [nL, nI_add, pk_mul, nc, cp_in, cp_lo, cp_hi, cp_ne, wr_s, wr_k, wr_c, wr_e, Nat.zero_add]
      rw [c1]
      rfl
    · simp (disch := omega) only [nL, nI_add, pk_mul, nc, cp_in, cp_lo, cp_hi, cp_ne, wr_s, wr_k, wr_c, wr_e, Nat.zero_add]
      exact hN1.1
    · simp (disch := omega) only [nL, nI_add, pk_mul, nc, cp_in, cp_lo, cp_hi, cp_ne, wr_s, wr_k, wr_c, wr_e, Nat.zero_add]
      exact hN1.2.1
    · simp (disch := omega) only [nL, nI_add, pk_mul, nc, cp_in, cp_lo, cp_hi, cp_ne, wr_s, wr_k, wr_c, wr_e, Nat.zero_add]
      exact c2
    · obtain ⟨b1, b2, b3, b4⟩ := hN1.2.2.2 i hi
      refine ⟨?_, ?_, ?_, ?_⟩
      · simp (disch := omega) only [nL, nI_add, pk_mul, nc, cp_in, cp_lo, cp_hi, cp_ne, wr_s, wr_k, wr_c, wr_e, Nat.zero_add]
        exact b1
      · simp (disch := omega) only [nL, nI_add, pk_mul, nc, cp_in, cp_lo, cp_hi, cp_ne, wr_s, wr_k, wr_c, wr_e, Nat.zero_add]
        exact b2
      · simp (disch := omega) only [nL, nI_add, pk_mul, nc, cp_in, cp_lo, cp_hi, cp_ne, wr_s, wr_k, wr_c, wr_e, Nat.zero_add]
        exact b3
      · simp only [brgN, nV, eg]
        by_cases e : i < R
        · rw [if_pos e]
          simp (disch := omega) only [nL, nI_add, pk_mul, nc, cp_in, cp_lo, cp_hi, cp_ne, wr_s, wr_k, wr_c, wr_e, Nat.zero_add]
          exact c4 i hi (by rw [h2, eR, n_lt (by omega) (by omega)]; exact e)
        · rw [if_neg e]
          simp (disch := omega) only [nL, nI_add, pk_mul, nc, cp_in, cp_lo, cp_hi, cp_ne, wr_s, wr_k, wr_c, wr_e, Nat.zero_add]
          exact b4
theorem x_bring_3 (d : Nat) {σ : z_M} {B : zB} (h : RepC σ B) (hv : VB B) (h0 : ¬ B.2.2.1 3 0 = -1) (h2 : B.2.2.1 3 2 = nR B.1) : opC (d + 5) k_RF_bring [.ref 0, .int 3] σ (sBring 3 B) := by
  obtain ⟨P, R, G, eP, hP, eR, hR, -⟩ := hv.1
  have eg : gR B.1 = R := by unfold gR; rw [eR, nc (by omega)]
  have hr : refS 3 B = 0 := by
    unfold refS
    rw [if_neg (by decide), tc_3, if_neg h0, if_pos h2]
  obtain ⟨σ1, hc, hN1, hs1, hk, fin⟩ := c_beginB (d + 1) h
  have e11 : σ1.1 1 1 = nI R := by rw [hN1.2.1, eR]
  rcases hs1 3 (by decide) with ⟨a, b⟩ | ⟨a, b, c1, c2, c3, c4⟩
  · exact absurd a h0
  have c1 : σ1.1 40 3 = _ := c1
  have c2 : σ1.1 40 2 = _ := c2
  have c4 : ∀ i, i < 10 → nI i < B.2.2.1 3 2 → σ1.1 44 i = _ := c4
  refine z_metC ⟨rfl, z_go 60 [] ⟨_, _, c_refusalOf_3 (d + 2) h, fun q => ⟨σ1, hc, orj_3 ⟨rfl, orj_3 ⟨rfl, ?_, orj_3 ⟨rfl, ?_⟩⟩⟩⟩, fun q => absurd hr q⟩⟩
  · rw [wr_k (by decide), e11]
    (simp (disch := omega) only [nL, nI_add, pk_mul, nc, Nat.zero_add, al_2, al_3, al_4, al_5, al_7, al_11, al_12, al_13, al_15, al_16, al_17, al_19, al_20, al_21, al_22, al_23, al_24, al_25, al_26, al_28, al_30, al_31, al_32, al_33, al_34, al_36, al_41, al_42, al_43, al_44, al_49, al_50, al_51, al_52, al_54, al_55, al_56, al_57, al_58, al_59, al_60, al_61, al_62, al_63, al_64, al_65, al_66, al_67, al_68, al_69, al_70, al_71, al_72, al_73, al_74, al_75, al_76, al_77, al_78, al_79, al_80]; exact ⟨n_nn (by omega), n_nn (by omega), n_nn (by omega), by omega, by omega⟩)
  · rw [sBring, if_pos hr, tc_3]
    simp (disch := omega) only [wr_k, e11, nL, nc]
    refine ⟨?_, fin _ _ _ (by (repeat (first | exact fr.rf | refine fr.cp ?_ (by decide) | refine fr.wr ?_ (by decide) | refine fr.wl ?_ (by decide)))) ⟨?_, ?_, ?_, fun i hi => ?_⟩⟩
    · simp (disch := omega) only [nL, nI_add, pk_mul, nc, cp_in, cp_lo, cp_hi, cp_ne, wr_s, wr_k, wr_c, wr_e, Nat.zero_add]
      rw [c1]
      rfl
    · simp (disch := omega) only [nL, nI_add, pk_mul, nc, cp_in, cp_lo, cp_hi, cp_ne, wr_s, wr_k, wr_c, wr_e, Nat.zero_add]
      exact hN1.1
    · simp (disch := omega) only [nL, nI_add, pk_mul, nc, cp_in, cp_lo, cp_hi, cp_ne, wr_s, wr_k, wr_c, wr_e, Nat.zero_add]
      exact hN1.2.1
    · simp (disch := omega) only [nL, nI_add, pk_mul, nc, cp_in, cp_lo, cp_hi, cp_ne, wr_s, wr_k, wr_c, wr_e, Nat.zero_add]
      exact c2
    · obtain ⟨b1, b2, b3, b4⟩ := hN1.2.2.2 i hi
      refine ⟨?_, ?_, ?_, ?_⟩
      · simp (disch := omega) only [nL, nI_add, pk_mul, nc, cp_in, cp_lo, cp_hi, cp_ne, wr_s, wr_k, wr_c, wr_e, Nat.zero_add]
        exact b1
      · simp (disch := omega) only [nL, nI_add, pk_mul, nc, cp_in, cp_lo, cp_hi, cp_ne, wr_s, wr_k, wr_c, wr_e, Nat.zero_add]
        exact b2
      · simp (disch := omega) only [nL, nI_add, pk_mul, nc, cp_in, cp_lo, cp_hi, cp_ne, wr_s, wr_k, wr_c, wr_e, Nat.zero_add]
        exact b3
      · simp only [brgN, nV, eg]
        by_cases e : i < R
        · rw [if_pos e]
          simp (disch := omega) only [nL, nI_add, pk_mul, nc, cp_in, cp_lo, cp_hi, cp_ne, wr_s, wr_k, wr_c, wr_e, Nat.zero_add]
          exact c4 i hi (by rw [h2, eR, n_lt (by omega) (by omega)]; exact e)
        · rw [if_neg e]
          simp (disch := omega) only [nL, nI_add, pk_mul, nc, cp_in, cp_lo, cp_hi, cp_ne, wr_s, wr_k, wr_c, wr_e, Nat.zero_add]
          exact b4
theorem x_bring (d : Nat) {σ : z_M} {B : zB} (h : RepC σ B) (hv : VB B) (s : Int32) : opC (d + 5) k_RF_bring [.ref 0, .int s] σ (sBring s B) := by
  by_cases hs : refS s B = 0
  · obtain ⟨j, hj, rfl, h0, h2⟩ := refS_z hs
    exact four_cases (P := fun j => ¬ B.2.2.1 j 0 = -1 → B.2.2.1 j 2 = nR B.1 → opC (d + 5) k_RF_bring [.ref 0, .int (nI j)] σ (sBring (nI j) B)) (x_bring_0 d h hv) (x_bring_1 d h hv) (x_bring_2 d h hv) (x_bring_3 d h hv) hj h0 h2
  · obtain ⟨σt, ht, hRt, hkt⟩ := c_tell (d + 3) h (refS s B)
    refine z_metC ⟨rfl, z_go 60 [] ⟨_, _, c_refusalOf (d + 2) h s, fun q => absurd q hs, fun q => ?_⟩⟩
    rw [sBring, if_neg hs]
    exact ⟨_, σt, ht, rfl, hRt, hkt⟩
theorem y_bring (d : Nat) {σ : z_M} {B : zB} (h : RepD σ B) (hv : VB B) (s : Int32) : opD (d + 5) k_Md_bring [.ref 53, .int s] σ (sBring s B) := by
  refine z_metD ⟨rfl, z_go 60 [32] ⟨_, _, c_askSlot (d + 2) h hv s, fun hs => ?_, fun hs => ?_⟩⟩
  · obtain ⟨P, R, G, eP, hP, eR, hR, -⟩ := id hv.1
    have eg : gR B.1 = R := by unfold gR; rw [eR, nc (by omega)]
    rw [sBring, if_pos hs]
    obtain ⟨j, hj, rfl, h0, h2⟩ := refS_z hs
    rw [nc (by omega)]
    obtain ⟨σ1, hc, hN1, hs1, hk53, hk, fin⟩ := c_keepB (d + 2) h
    obtain ⟨a, b⟩ := hs1 j hj
    obtain ⟨c2, c3, c4⟩ := b ((hv.2.2.2.1 j hj).nn h0)
    have loop : ∀ (n i : Nat) (σi : z_M), i + n = R → fr [53, 57] σ1 σi → (∀ k, k ≠ 2 → σi.1 53 k = σ1.1 53 k) → σi.1 53 2 = B.2.2.1 j 1 → (∀ k, k < 10 → σi.1 57 k = if k < i then B.2.2.1 j (3 + k) else nV B.1 k) →
        z_wp (z_call (d + 4)) none k_Md_bring (pD σ (oAct (B.2.2.1 j 0) (brgN B.1 (B.2.2.1 j)) B)) 32 [some (.ref 53), some (.int (nI j)), some (.int (refS (nI j) B)), some (.int (nI i))] [] σi := by
      intro n
      induction n with
      | zero =>
        intro i σi hi hf k1 k2 k3
        obtain rfl : i = R := by omega
        have e1 : σi.1 53 1 = nI i := by rw [k1 1 (by decide), hN1.2.1, eR]
        refine z_go 60 [32] ⟨fun q => ⟨by (first | exact vin (by simp only [al_2, al_3, al_4, al_5, al_7, al_11, al_12, al_13, al_15, al_16, al_17, al_19, al_20, al_21, al_22, al_23, al_24, al_25, al_26, al_28, al_30, al_31, al_32, al_33, al_34, al_36, al_41, al_42, al_43, al_44, al_49, al_50, al_51, al_52, al_54, al_55, al_56, al_57, al_58, al_59, al_60, al_61, al_62, al_63, al_64, al_65, al_66, al_67, al_68, al_69, al_70, al_71, al_72, al_73, al_74, al_75, al_76, al_77, al_78, al_79, al_80]; omega) (by simp only [al_2, al_3, al_4, al_5, al_7, al_11, al_12, al_13, al_15, al_16, al_17, al_19, al_20, al_21, al_22, al_23, al_24, al_25, al_26, al_28, al_30, al_31, al_32, al_33, al_34, al_36, al_41, al_42, al_43, al_44, al_49, al_50, al_51, al_52, al_54, al_55, al_56, al_57, al_58, al_59, al_60, al_61, al_62, al_63, al_64, al_65, al_66, al_67, al_68, al_69, al_70, al_71, al_72, al_73, al_74, al_75, al_76, al_77, al_78, al_79, al_80]; decide) | (simp (disch := omega) only [nL, nI_add, pk_mul, nc, Nat.zero_add, al_2, al_3, al_4, al_5, al_7, al_11, al_12, al_13, al_15, al_16, al_17, al_19, al_20, al_21, al_22, al_23, al_24, al_25, al_26, al_28, al_30, al_31, al_32, al_33, al_34, al_36, al_41, al_42, al_43, al_44, al_49, al_50, al_51, al_52, al_54, al_55, al_56, al_57, al_58, al_59, al_60, al_61, al_62, al_63, al_64, al_65, al_66, al_67, al_68, al_69, al_70, al_71, al_72, al_73, al_74, al_75, al_76, al_77, al_78, al_79, al_80]; exact vin (by omega) (by decide))), ?_⟩, fun q => ?_⟩
        · rw [nc (by omega)]
          refine ⟨by rw [hf.at (by decide), a]; rfl, fin _ _ _ (hf.wk _ (by decide)) (fun k hk => k1 k (by omega)) ⟨?_, ?_, k2, fun k hk => ?_⟩⟩
          · rw [k1 0 (by decide)]; exact hN1.1
          · rw [k1 1 (by decide)]; exact hN1.2.1
          · obtain ⟨b1, b2, b3, b4⟩ := hN1.2.2.2 k hk
            rw [hf.at (by decide), hf.at (by decide), hf.at (by decide), k3 k hk]
            refine ⟨b1, b2, b3, ?_⟩
            simp only [brgN, nV, eg]
        · rw [e1] at q
          exact absurd (Int32.le_refl _) q
      | succ n ih =>
        intro i σi hi hf k1 k2 k3
        have e1 : σi.1 53 1 = nI R := by rw [k1 1 (by decide), hN1.2.1, eR]
        refine z_go 60 [32] ⟨fun q => ?_, fun q => ⟨by (first | exact vin (by simp only [al_2, al_3, al_4, al_5, al_7, al_11, al_12, al_13, al_15, al_16, al_17, al_19, al_20, al_21, al_22, al_23, al_24, al_25, al_26, al_28, al_30, al_31, al_32, al_33, al_34, al_36, al_41, al_42, al_43, al_44, al_49, al_50, al_51, al_52, al_54, al_55, al_56, al_57, al_58, al_59, al_60, al_61, al_62, al_63, al_64, al_65, al_66, al_67, al_68, al_69, al_70, al_71, al_72, al_73, al_74, al_75, al_76, al_77, al_78, al_79, al_80]; omega) (by simp only [al_2, al_3, al_4, al_5, al_7, al_11, al_12, al_13, al_15, al_16, al_17, al_19, al_20, al_21, al_22, al_23, al_24, al_25, al_26, al_28, al_30, al_31, al_32, al_33, al_34, al_36, al_41, al_42, al_43, al_44, al_49, al_50, al_51, al_52, al_54, al_55, al_56, al_57, al_58, al_59, al_60, al_61, al_62, al_63, al_64, al_65, al_66, al_67, al_68, al_69, al_70, al_71, al_72, al_73, al_74, al_75, al_76, al_77, al_78, al_79, al_80]; decide) | (simp (disch := omega) only [nL, nI_add, pk_mul, nc, Nat.zero_add, al_2, al_3, al_4, al_5, al_7, al_11, al_12, al_13, al_15, al_16, al_17, al_19, al_20, al_21, al_22, al_23, al_24, al_25, al_26, al_28, al_30, al_31, al_32, al_33, al_34, al_36, al_41, al_42, al_43, al_44, al_49, al_50, al_51, al_52, al_54, al_55, al_56, al_57, al_58, al_59, al_60, al_61, al_62, al_63, al_64, al_65, al_66, al_67, al_68, al_69, al_70, al_71, al_72, al_73, al_74, al_75, al_76, al_77, al_78, al_79, al_80]; exact vin (by omega) (by decide))), by (first | exact vin (by simp only [al_2, al_3, al_4, al_5, al_7, al_11, al_12, al_13, al_15, al_16, al_17, al_19, al_20, al_21, al_22, al_23, al_24, al_25, al_26, al_28, al_30, al_31, al_32, al_33, al_34, al_36, al_41, al_42, al_43, al_44, al_49, al_50, al_51, al_52, al_54, al_55, al_56, al_57, al_58, al_59, al_60, al_61, al_62, al_63, al_64, al_65, al_66, al_67, al_68, al_69, al_70, al_71, al_72, al_73, al_74, al_75, al_76, al_77, al_78, al_79, al_80]; omega) (by simp only [al_2, al_3, al_4, al_5, al_7, al_11, al_12, al_13, al_15, al_16, al_17, al_19, al_20, al_21, al_22, al_23, al_24, al_25, al_26, al_28, al_30, al_31, al_32, al_33, al_34, al_36, al_41, al_42, al_43, al_44, al_49, al_50, al_51, al_52, al_54, al_55, al_56, al_57, al_58, al_59, al_60, al_61, al_62, al_63, al_64, al_65, al_66, al_67, al_68, al_69, al_70, al_71, al_72, al_73, al_74, al_75, al_76, al_77, al_78, al_79, al_80]; decide) | (simp (disch := omega) only [nL, nI_add, pk_mul, nc, Nat.zero_add, al_2, al_3, al_4, al_5, al_7, al_11, al_12, al_13, al_15, al_16, al_17, al_19, al_20, al_21, al_22, al_23, al_24, al_25, al_26, al_28, al_30, al_31, al_32, al_33, al_34, al_36, al_41, al_42, al_43, al_44, al_49, al_50, al_51, al_52, al_54, al_55, al_56, al_57, al_58, al_59, al_60, al_61, al_62, al_63, al_64, al_65, al_66, al_67, al_68, al_69, al_70, al_71, al_72, al_73, al_74, al_75, al_76, al_77, al_78, al_79, al_80]; exact vin (by omega) (by decide))), ?_⟩⟩
        · rw [e1] at q
          simp (disch := omega) only [nL, nI_add, pk_mul, n_le, n_lt, n_eq] at q
          omega
        · show z_wp _ _ _ _ 32 _ _ _
          simp (disch := omega) only [nL, nI_add, pk_mul, nc]
          refine ih (i + 1) _ (by omega) (fr.wr hf (by decide)) (fun k hk => by rw [wr_c (by decide)]; exact k1 k hk) (by rw [wr_c (by decide)]; exact k2) (fun k hk => ?_)
          by_cases e : k = i
          · subst e
            rw [wr_s, if_pos (by omega), hf.at (by decide)]
            exact c4 k hk (by rw [h2, eR, n_lt (by omega) (by omega)]; omega)
          · rw [wr_k e, k3 k hk]
            by_cases e2 : k < i
            · rw [if_pos e2, if_pos (by omega)]
            · rw [if_neg e2, if_neg (by omega)]
    refine ⟨σ1, hc, by (first | exact vin (by simp only [al_2, al_3, al_4, al_5, al_7, al_11, al_12, al_13, al_15, al_16, al_17, al_19, al_20, al_21, al_22, al_23, al_24, al_25, al_26, al_28, al_30, al_31, al_32, al_33, al_34, al_36, al_41, al_42, al_43, al_44, al_49, al_50, al_51, al_52, al_54, al_55, al_56, al_57, al_58, al_59, al_60, al_61, al_62, al_63, al_64, al_65, al_66, al_67, al_68, al_69, al_70, al_71, al_72, al_73, al_74, al_75, al_76, al_77, al_78, al_79, al_80]; omega) (by simp only [al_2, al_3, al_4, al_5, al_7, al_11, al_12, al_13, al_15, al_16, al_17, al_19, al_20, al_21, al_22, al_23, al_24, al_25, al_26, al_28, al_30, al_31, al_32, al_33, al_34, al_36, al_41, al_42, al_43, al_44, al_49, al_50, al_51, al_52, al_54, al_55, al_56, al_57, al_58, al_59, al_60, al_61, al_62, al_63, al_64, al_65, al_66, al_67, al_68, al_69, al_70, al_71, al_72, al_73, al_74, al_75, al_76, al_77, al_78, al_79, al_80]; decide) | (simp (disch := omega) only [nL, nI_add, pk_mul, nc, Nat.zero_add, al_2, al_3, al_4, al_5, al_7, al_11, al_12, al_13, al_15, al_16, al_17, al_19, al_20, al_21, al_22, al_23, al_24, al_25, al_26, al_28, al_30, al_31, al_32, al_33, al_34, al_36, al_41, al_42, al_43, al_44, al_49, al_50, al_51, al_52, al_54, al_55, al_56, al_57, al_58, al_59, al_60, al_61, al_62, al_63, al_64, al_65, al_66, al_67, al_68, al_69, al_70, al_71, al_72, al_73, al_74, al_75, al_76, al_77, al_78, al_79, al_80]; exact vin (by omega) (by decide))), ?_⟩
    rw [nc (by omega)]
    refine loop R 0 _ (by omega) (fr.wr fr.rf (by decide)) (fun k hk => by rw [wr_k hk]) (by rw [wr_s]; exact c2) (fun k hk => ?_)
    rw [wr_c (by decide), if_neg (by omega)]
    exact (hN1.2.2.2 k hk).2.2.2
  · obtain ⟨σt, ht, hRt, hkt⟩ := c_finding (d + 3) h (refS s B)
    rw [sBring, if_neg hs]
    exact ⟨_, σt, ht, rfl, hRt, hkt⟩
theorem v_bring {B : zB} (h : VB B) (s : Int32) : VB (sBring s B).2 := by
  unfold sBring
  split
  · rename_i hs
    obtain ⟨P, R, G, eP, hP, eR, hR, eG, hG, hi⟩ := id h.1
    have eg : gR B.1 = R := by unfold gR; rw [eR, nc (by omega)]
    obtain ⟨j, hj, rfl, h0, h2⟩ := refS_z hs
    rw [nc (by omega)]
    rcases h.2.2.2.1 j hj with q | ⟨-, G', R', e1, hG', e2, hR', hn⟩
    · exact absurd q h0
    · rw [h2, eR, n_eq (by omega) (by omega)] at e2
      subst e2
      refine h.act _ ⟨P, R, G', eP, hP, eR, hR, e1, hG', fun i hi2 => ?_⟩
      obtain ⟨x, y, -⟩ := hi i hi2
      refine ⟨x, y, ?_⟩
      simp only [brgN, nV, eg]
      rw [if_pos hi2]
      exact hn i hi2
  · exact h.tell _
