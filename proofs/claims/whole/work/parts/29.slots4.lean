/-! slots: as -/
def csA (w k : Int32) : Int32 := if k = w then 1 else if k = 0 then 1 else if k = 1 then (if w = 2 then 1 else 0) else 0
def sAs (s k : Int32) (B : zB) : Int32 × zB := if hasP 4 s = 0 then oTell (-1000001) B else if k < 0 then oTell (-1000001) B else if k ≤ 3 then (if B.2.2.1 s.toNatClampNeg 0 = -1 then oTell (-1000006) B else if csA (B.2.2.1 s.toNatClampNeg 0) k = 0 then oTell (-1000004) B else (B.2.2.1 s.toNatClampNeg 2, B)) else oTell (-1000001) B
theorem c_countsAs_0 (d : Nat) (σ : z_M) (k : Int32) : z_call (d + 1) k_Slot_countsAs [.ref 37, .int k] σ (some (.int (csA (σ.1 37 3) k))) σ := by
  unfold csA
  exact ⟨rfl, z_go 30 [] ⟨fun q => ⟨Or.inr rfl, by rw [if_pos q], rfl⟩, fun q => ⟨fun q2 => ⟨Or.inr rfl, by rw [if_neg q, if_pos q2], rfl⟩, fun q2 => ⟨fun q3 => ⟨Or.inl rfl, by rw [if_neg q, if_neg q2, if_neg q3], rfl⟩, fun q3 => ⟨fun q4 => ⟨Or.inl rfl, by rw [if_neg q, if_neg q2, if_pos q3, if_neg q4], rfl⟩, fun q4 => ⟨Or.inr rfl, by rw [if_neg q, if_neg q2, if_pos q3, if_pos q4], rfl⟩⟩⟩⟩⟩⟩
theorem x_as_0 (d : Nat) {σ : z_M} {B : zB} (h : RepC σ B) (k : Int32) : opC (d + 5) k_RF_as [.ref 0, .int 0, .int k] σ (sAs 0 k B) := by
  obtain ⟨σt, ht, hRt, hkt⟩ := c_tell (d + 3) h (-1000001)
  obtain ⟨σu, hu, hRu, hku⟩ := c_tell (d + 3) h (-1000004)
  obtain ⟨σw, hw, hRw, hkw⟩ := c_tell (d + 3) h (-1000006)
  have hs : ¬ hasP 4 0 = 0 := by decide
  have hsl := h.2.2.1 0 (by decide)
  unfold sAs
  rw [if_neg hs, tc_0]
  refine z_metC ⟨rfl, z_go 60 [] ⟨_, _, c_isSlot (d + 3) σ 0, fun q => absurd q hs, fun q => ⟨fun q1 => ?_, fun q1 => ⟨fun q2 => orj_0 ⟨rfl, fun q3 => orj_0 ⟨rfl, _, _, c_countsAs_0 (d + 3) σ k, fun q4 => orj_0 ⟨rfl, ?_⟩, fun q4 => ?_⟩, fun q3 => ?_⟩, fun q2 => ?_⟩⟩⟩⟩
  · rw [if_pos q1]
    exact ⟨_, σt, ht, rfl, hRt, hkt⟩
  · rcases hsl with ⟨a, b⟩ | ⟨a, b, c1, c2, c3, c4⟩
    · exact absurd b q3
    · have c1 : σ.1 37 3 = _ := c1
      have c3 : σ.1 37 1 = _ := c3
      rw [c1] at q4
      rw [if_neg q1, if_pos q2, if_neg (fun z => by rw [z] at a; exact absurd a (by decide)), if_neg q4]
      exact ⟨by rw [show σ.1 37 1 = _ from c3], h, kC.rf⟩
  · rcases hsl with ⟨a, b⟩ | ⟨a, b, c1, c2, c3, c4⟩
    · exact absurd b q3
    · have c1 : σ.1 37 3 = _ := c1
      rw [c1] at q4
      rw [if_neg q1, if_pos q2, if_neg (fun z => by rw [z] at a; exact absurd a (by decide)), if_pos q4]
      exact ⟨_, σu, hu, rfl, hRu, hku⟩
  · rcases hsl with ⟨a, b⟩ | ⟨a, b, c1, c2, c3, c4⟩
    · rw [if_neg q1, if_pos q2, if_pos a]
      exact ⟨_, σw, hw, rfl, hRw, hkw⟩
    · have b : σ.1 37 0 = 1 := b
      rw [b] at q3
      exact absurd q3 (by decide)
  · rw [if_neg q1, if_neg q2]
    exact ⟨_, σt, ht, rfl, hRt, hkt⟩
theorem c_countsAs_1 (d : Nat) (σ : z_M) (k : Int32) : z_call (d + 1) k_Slot_countsAs [.ref 38, .int k] σ (some (.int (csA (σ.1 38 3) k))) σ := by
  unfold csA
  exact ⟨rfl, z_go 30 [] ⟨fun q => ⟨Or.inr rfl, by rw [if_pos q], rfl⟩, fun q => ⟨fun q2 => ⟨Or.inr rfl, by rw [if_neg q, if_pos q2], rfl⟩, fun q2 => ⟨fun q3 => ⟨Or.inl rfl, by rw [if_neg q, if_neg q2, if_neg q3], rfl⟩, fun q3 => ⟨fun q4 => ⟨Or.inl rfl, by rw [if_neg q, if_neg q2, if_pos q3, if_neg q4], rfl⟩, fun q4 => ⟨Or.inr rfl, by rw [if_neg q, if_neg q2, if_pos q3, if_pos q4], rfl⟩⟩⟩⟩⟩⟩
theorem x_as_1 (d : Nat) {σ : z_M} {B : zB} (h : RepC σ B) (k : Int32) : opC (d + 5) k_RF_as [.ref 0, .int 1, .int k] σ (sAs 1 k B) := by
  obtain ⟨σt, ht, hRt, hkt⟩ := c_tell (d + 3) h (-1000001)
  obtain ⟨σu, hu, hRu, hku⟩ := c_tell (d + 3) h (-1000004)
  obtain ⟨σw, hw, hRw, hkw⟩ := c_tell (d + 3) h (-1000006)
  have hs : ¬ hasP 4 1 = 0 := by decide
  have hsl := h.2.2.1 1 (by decide)
  unfold sAs
  rw [if_neg hs, tc_1]
  refine z_metC ⟨rfl, z_go 60 [] ⟨_, _, c_isSlot (d + 3) σ 1, fun q => absurd q hs, fun q => ⟨fun q1 => ?_, fun q1 => ⟨fun q2 => orj_1 ⟨rfl, fun q3 => orj_1 ⟨rfl, _, _, c_countsAs_1 (d + 3) σ k, fun q4 => orj_1 ⟨rfl, ?_⟩, fun q4 => ?_⟩, fun q3 => ?_⟩, fun q2 => ?_⟩⟩⟩⟩
  · rw [if_pos q1]
    exact ⟨_, σt, ht, rfl, hRt, hkt⟩
  · rcases hsl with ⟨a, b⟩ | ⟨a, b, c1, c2, c3, c4⟩
    · exact absurd b q3
    · have c1 : σ.1 38 3 = _ := c1
      have c3 : σ.1 38 1 = _ := c3
      rw [c1] at q4
      rw [if_neg q1, if_pos q2, if_neg (fun z => by rw [z] at a; exact absurd a (by decide)), if_neg q4]
      exact ⟨by rw [show σ.1 38 1 = _ from c3], h, kC.rf⟩
  · rcases hsl with ⟨a, b⟩ | ⟨a, b, c1, c2, c3, c4⟩
    · exact absurd b q3
    · have c1 : σ.1 38 3 = _ := c1
      rw [c1] at q4
      rw [if_neg q1, if_pos q2, if_neg (fun z => by rw [z] at a; exact absurd a (by decide)), if_pos q4]
      exact ⟨_, σu, hu, rfl, hRu, hku⟩
  · rcases hsl with ⟨a, b⟩ | ⟨a, b, c1, c2, c3, c4⟩
    · rw [if_neg q1, if_pos q2, if_pos a]
      exact ⟨_, σw, hw, rfl, hRw, hkw⟩
    · have b : σ.1 38 0 = 1 := b
      rw [b] at q3
      exact absurd q3 (by decide)
  · rw [if_neg q1, if_neg q2]
    exact ⟨_, σt, ht, rfl, hRt, hkt⟩
theorem c_countsAs_2 (d : Nat) (σ : z_M) (k : Int32) : z_call (d + 1) k_Slot_countsAs [.ref 39, .int k] σ (some (.int (csA (σ.1 39 3) k))) σ := by
  unfold csA
  exact ⟨rfl, z_go 30 [] ⟨fun q => ⟨Or.inr rfl, by rw [if_pos q], rfl⟩, fun q => ⟨fun q2 => ⟨Or.inr rfl, by rw [if_neg q, if_pos q2], rfl⟩, fun q2 => ⟨fun q3 => ⟨Or.inl rfl, by rw [if_neg q, if_neg q2, if_neg q3], rfl⟩, fun q3 => ⟨fun q4 => ⟨Or.inl rfl, by rw [if_neg q, if_neg q2, if_pos q3, if_neg q4], rfl⟩, fun q4 => ⟨Or.inr rfl, by rw [if_neg q, if_neg q2, if_pos q3, if_pos q4], rfl⟩⟩⟩⟩⟩⟩
theorem x_as_2 (d : Nat) {σ : z_M} {B : zB} (h : RepC σ B) (k : Int32) : opC (d + 5) k_RF_as [.ref 0, .int 2, .int k] σ (sAs 2 k B) := by
  obtain ⟨σt, ht, hRt, hkt⟩ := c_tell (d + 3) h (-1000001)
  obtain ⟨σu, hu, hRu, hku⟩ := c_tell (d + 3) h (-1000004)
  obtain ⟨σw, hw, hRw, hkw⟩ := c_tell (d + 3) h (-1000006)
  have hs : ¬ hasP 4 2 = 0 := by decide
  have hsl := h.2.2.1 2 (by decide)
  unfold sAs
  rw [if_neg hs, tc_2]
  refine z_metC ⟨rfl, z_go 60 [] ⟨_, _, c_isSlot (d + 3) σ 2, fun q => absurd q hs, fun q => ⟨fun q1 => ?_, fun q1 => ⟨fun q2 => orj_2 ⟨rfl, fun q3 => orj_2 ⟨rfl, _, _, c_countsAs_2 (d + 3) σ k, fun q4 => orj_2 ⟨rfl, ?_⟩, fun q4 => ?_⟩, fun q3 => ?_⟩, fun q2 => ?_⟩⟩⟩⟩
  · rw [if_pos q1]
    exact ⟨_, σt, ht, rfl, hRt, hkt⟩
  · rcases hsl with ⟨a, b⟩ | ⟨a, b, c1, c2, c3, c4⟩
    · exact absurd b q3
    · have c1 : σ.1 39 3 = _ := c1
      have c3 : σ.1 39 1 = _ := c3
      rw [c1] at q4
      rw [if_neg q1, if_pos q2, if_neg (fun z => by rw [z] at a; exact absurd a (by decide)), if_neg q4]
      exact ⟨by rw [show σ.1 39 1 = _ from c3], h, kC.rf⟩
  · rcases hsl with ⟨a, b⟩ | ⟨a, b, c1, c2, c3, c4⟩
    · exact absurd b q3
    · have c1 : σ.1 39 3 = _ := c1
      rw [c1] at q4
      rw [if_neg q1, if_pos q2, if_neg (fun z => by rw [z] at a; exact absurd a (by decide)), if_pos q4]
      exact ⟨_, σu, hu, rfl, hRu, hku⟩
  · rcases hsl with ⟨a, b⟩ | ⟨a, b, c1, c2, c3, c4⟩
    · rw [if_neg q1, if_pos q2, if_pos a]
      exact ⟨_, σw, hw, rfl, hRw, hkw⟩
    · have b : σ.1 39 0 = 1 := b
      rw [b] at q3
      exact absurd q3 (by decide)
  · rw [if_neg q1, if_neg q2]
    exact ⟨_, σt, ht, rfl, hRt, hkt⟩
theorem c_countsAs_3 (d : Nat) (σ : z_M) (k : Int32) : z_call (d + 1) k_Slot_countsAs [.ref 40, .int k] σ (some (.int (csA (σ.1 40 3) k))) σ := by
  unfold csA
  exact ⟨rfl, z_go 30 [] ⟨fun q => ⟨Or.inr rfl, by rw [if_pos q], rfl⟩, fun q => ⟨fun q2 => ⟨Or.inr rfl, by rw [if_neg q, if_pos q2], rfl⟩, fun q2 => ⟨fun q3 => ⟨Or.inl rfl, by rw [if_neg q, if_neg q2, if_neg q3], rfl⟩, fun q3 => ⟨fun q4 => ⟨Or.inl rfl, by rw [if_neg q, if_neg q2, if_pos q3, if_neg q4], rfl⟩, fun q4 => ⟨Or.inr rfl, by rw [if_neg q, if_neg q2, if_pos q3, if_pos q4], rfl⟩⟩⟩⟩⟩⟩
theorem x_as_3 (d : Nat) {σ : z_M} {B : zB} (h : RepC σ B) (k : Int32) : opC (d + 5) k_RF_as [.ref 0, .int 3, .int k] σ (sAs 3 k B) := by
  obtain ⟨σt, ht, hRt, hkt⟩ := c_tell (d + 3) h (-1000001)
  obtain ⟨σu, hu, hRu, hku⟩ := c_tell (d + 3) h (-1000004)
  obtain ⟨σw, hw, hRw, hkw⟩ := c_tell (d + 3) h (-1000006)
  have hs : ¬ hasP 4 3 = 0 := by decide
  have hsl := h.2.2.1 3 (by decide)
  unfold sAs
  rw [if_neg hs, tc_3]
  refine z_metC ⟨rfl, z_go 60 [] ⟨_, _, c_isSlot (d + 3) σ 3, fun q => absurd q hs, fun q => ⟨fun q1 => ?_, fun q1 => ⟨fun q2 => orj_3 ⟨rfl, fun q3 => orj_3 ⟨rfl, _, _, c_countsAs_3 (d + 3) σ k, fun q4 => orj_3 ⟨rfl, ?_⟩, fun q4 => ?_⟩, fun q3 => ?_⟩, fun q2 => ?_⟩⟩⟩⟩
  · rw [if_pos q1]
    exact ⟨_, σt, ht, rfl, hRt, hkt⟩
  · rcases hsl with ⟨a, b⟩ | ⟨a, b, c1, c2, c3, c4⟩
    · exact absurd b q3
    · have c1 : σ.1 40 3 = _ := c1
      have c3 : σ.1 40 1 = _ := c3
      rw [c1] at q4
      rw [if_neg q1, if_pos q2, if_neg (fun z => by rw [z] at a; exact absurd a (by decide)), if_neg q4]
      exact ⟨by rw [show σ.1 40 1 = _ from c3], h, kC.rf⟩
  · rcases hsl with ⟨a, b⟩ | ⟨a, b, c1, c2, c3, c4⟩
    · exact absurd b q3
    · have c1 : σ.1 40 3 = _ := c1
      rw [c1] at q4
      rw [if_neg q1, if_pos q2, if_neg (fun z => by rw [z] at a; exact absurd a (by decide)), if_pos q4]
      exact ⟨_, σu, hu, rfl, hRu, hku⟩
  · rcases hsl with ⟨a, b⟩ | ⟨a, b, c1, c2, c3, c4⟩
    · rw [if_neg q1, if_pos q2, if_pos a]
      exact ⟨_, σw, hw, rfl, hRw, hkw⟩
    · have b : σ.1 40 0 = 1 := b
      rw [b] at q3
      exact absurd q3 (by decide)
  · rw [if_neg q1, if_neg q2]
    exact ⟨_, σt, ht, rfl, hRt, hkt⟩
theorem x_as (d : Nat) {σ : z_M} {B : zB} (h : RepC σ B) (s k : Int32) : opC (d + 5) k_RF_as [.ref 0, .int s, .int k] σ (sAs s k B) := by
  by_cases hs : hasP 4 s = 0
  · obtain ⟨σt, ht, hRt, hkt⟩ := c_tell (d + 3) h (-1000001)
    refine z_metC ⟨rfl, z_go 30 [] ⟨_, _, c_isSlot (d + 3) σ s, fun q => ?_, fun q => absurd hs q⟩⟩
    rw [sAs, if_pos hs]
    exact ⟨_, σt, ht, rfl, hRt, hkt⟩
  · obtain ⟨j, hj, rfl⟩ := hasP_ne (n := 4) (by omega) hs
    exact four_cases (P := fun j => opC (d + 5) k_RF_as [.ref 0, .int (nI j), .int k] σ (sAs (nI j) k B)) (x_as_0 d h k) (x_as_1 d h k) (x_as_2 d h k) (x_as_3 d h k) hj
theorem y_as (d : Nat) {σ : z_M} {B : zB} (h : RepD σ B) (hv : VB B) (s k : Int32) : opD (d + 5) k_Md_as [.ref 53, .int s, .int k] σ (sAs s k B) := by
  obtain ⟨σt, ht, hRt, hkt⟩ := c_finding (d + 3) h (-1000001)
  obtain ⟨σu, hu, hRu, hku⟩ := c_finding (d + 3) h (-1000004)
  obtain ⟨σw, hw, hRw, hkw⟩ := c_finding (d + 3) h (-1000006)
  unfold sAs
  refine z_metD ⟨rfl, z_go 60 [] ⟨_, _, c_misSlot (d + 3) σ s, fun q => ?_, fun hs => ?_⟩⟩
  · rw [if_pos q]
    exact ⟨_, σt, ht, rfl, hRt, hkt⟩
  rw [if_neg hs]
  obtain ⟨j, hj, rfl⟩ := hasP_ne (n := 4) (by omega) hs
  obtain ⟨a, b⟩ := h.2.2.1 j hj
  have hnn : 0 ≤ B.2.2.1 j 0 → ¬ B.2.2.1 j 0 = -1 := fun z e => by rw [e] at z; exact absurd z (by decide)
  rw [nc (by omega)]
  have good : ∀ v : Int32, 0 ≤ B.2.2.1 j 0 → ¬ csA (B.2.2.1 j 0) k = 0 → v = σ.1 61 j → k ≤ 3 → ¬ k < 0 → pD σ (if k < 0 then oTell (-1000001) B else if k ≤ 3 then (if B.2.2.1 j 0 = -1 then oTell (-1000006) B else if csA (B.2.2.1 j 0) k = 0 then oTell (-1000004) B else (B.2.2.1 j 2, B)) else oTell (-1000001) B) (some (.int v)) σ := by
    intro v z1 z2 z3 z4 z5
    rw [if_neg z5, if_pos z4, if_neg (hnn z1), if_neg z2, z3, (b z1).2.1]
    exact ⟨rfl, h, kD.rf⟩
  refine ⟨fun q1 => ?_, fun q1 => ⟨fun q2 => ⟨by (first | exact vin (by simp only [al_2, al_3, al_4, al_5, al_7, al_11, al_12, al_13, al_15, al_16, al_17, al_19, al_20, al_21, al_22, al_23, al_24, al_25, al_26, al_28, al_30, al_31, al_32, al_33, al_34, al_36, al_41, al_42, al_43, al_44, al_49, al_50, al_51, al_52, al_54, al_55, al_56, al_57, al_58, al_59, al_60, al_61, al_62, al_63, al_64, al_65, al_66, al_67, al_68, al_69, al_70, al_71, al_72, al_73, al_74, al_75, al_76, al_77, al_78, al_79, al_80]; omega) (by simp only [al_2, al_3, al_4, al_5, al_7, al_11, al_12, al_13, al_15, al_16, al_17, al_19, al_20, al_21, al_22, al_23, al_24, al_25, al_26, al_28, al_30, al_31, al_32, al_33, al_34, al_36, al_41, al_42, al_43, al_44, al_49, al_50, al_51, al_52, al_54, al_55, al_56, al_57, al_58, al_59, al_60, al_61, al_62, al_63, al_64, al_65, al_66, al_67, al_68, al_69, al_70, al_71, al_72, al_73, al_74, al_75, al_76, al_77, al_78, al_79, al_80]; decide) | (simp (disch := omega) only [nL, nI_add, pk_mul, nc, Nat.zero_add, al_2, al_3, al_4, al_5, al_7, al_11, al_12, al_13, al_15, al_16, al_17, al_19, al_20, al_21, al_22, al_23, al_24, al_25, al_26, al_28, al_30, al_31, al_32, al_33, al_34, al_36, al_41, al_42, al_43, al_44, al_49, al_50, al_51, al_52, al_54, al_55, al_56, al_57, al_58, al_59, al_60, al_61, al_62, al_63, al_64, al_65, al_66, al_67, al_68, al_69, al_70, al_71, al_72, al_73, al_74, al_75, al_76, al_77, al_78, al_79, al_80]; exact vin (by omega) (by decide))), fun q3 => ⟨by (first | exact vin (by simp only [al_2, al_3, al_4, al_5, al_7, al_11, al_12, al_13, al_15, al_16, al_17, al_19, al_20, al_21, al_22, al_23, al_24, al_25, al_26, al_28, al_30, al_31, al_32, al_33, al_34, al_36, al_41, al_42, al_43, al_44, al_49, al_50, al_51, al_52, al_54, al_55, al_56, al_57, al_58, al_59, al_60, al_61, al_62, al_63, al_64, al_65, al_66, al_67, al_68, al_69, al_70, al_71, al_72, al_73, al_74, al_75, al_76, al_77, al_78, al_79, al_80]; omega) (by simp only [al_2, al_3, al_4, al_5, al_7, al_11, al_12, al_13, al_15, al_16, al_17, al_19, al_20, al_21, al_22, al_23, al_24, al_25, al_26, al_28, al_30, al_31, al_32, al_33, al_34, al_36, al_41, al_42, al_43, al_44, al_49, al_50, al_51, al_52, al_54, al_55, al_56, al_57, al_58, al_59, al_60, al_61, al_62, al_63, al_64, al_65, al_66, al_67, al_68, al_69, al_70, al_71, al_72, al_73, al_74, al_75, al_76, al_77, al_78, al_79, al_80]; decide) | (simp (disch := omega) only [nL, nI_add, pk_mul, nc, Nat.zero_add, al_2, al_3, al_4, al_5, al_7, al_11, al_12, al_13, al_15, al_16, al_17, al_19, al_20, al_21, al_22, al_23, al_24, al_25, al_26, al_28, al_30, al_31, al_32, al_33, al_34, al_36, al_41, al_42, al_43, al_44, al_49, al_50, al_51, al_52, al_54, al_55, al_56, al_57, al_58, al_59, al_60, al_61, al_62, al_63, al_64, al_65, al_66, al_67, al_68, al_69, al_70, al_71, al_72, al_73, al_74, al_75, al_76, al_77, al_78, al_79, al_80]; exact vin (by omega) (by decide))), fun q4 => ⟨by (first | exact vin (by simp only [al_2, al_3, al_4, al_5, al_7, al_11, al_12, al_13, al_15, al_16, al_17, al_19, al_20, al_21, al_22, al_23, al_24, al_25, al_26, al_28, al_30, al_31, al_32, al_33, al_34, al_36, al_41, al_42, al_43, al_44, al_49, al_50, al_51, al_52, al_54, al_55, al_56, al_57, al_58, al_59, al_60, al_61, al_62, al_63, al_64, al_65, al_66, al_67, al_68, al_69, al_70, al_71, al_72, al_73, al_74, al_75, al_76, al_77, al_78, al_79, al_80]; omega) (by simp only [al_2, al_3, al_4, al_5, al_7, al_11, al_12, al_13, al_15, al_16, al_17, al_19, al_20, al_21, al_22, al_23, al_24, al_25, al_26, al_28, al_30, al_31, al_32, al_33, al_34, al_36, al_41, al_42, al_43, al_44, al_49, al_50, al_51, al_52, al_54, al_55, al_56, al_57, al_58, al_59, al_60, al_61, al_62, al_63, al_64, al_65, al_66, al_67, al_68, al_69, al_70, al_71, al_72, al_73, al_74, al_75, al_76, al_77, al_78, al_79, al_80]; decide) | (simp (disch := omega) only [nL, nI_add, pk_mul, nc, Nat.zero_add, al_2, al_3, al_4, al_5, al_7, al_11, al_12, al_13, al_15, al_16, al_17, al_19, al_20, al_21, al_22, al_23, al_24, al_25, al_26, al_28, al_30, al_31, al_32, al_33, al_34, al_36, al_41, al_42, al_43, al_44, al_49, al_50, al_51, al_52, al_54, al_55, al_56, al_57, al_58, al_59, al_60, al_61, al_62, al_63, al_64, al_65, al_66, al_67, al_68, al_69, al_70, al_71, al_72, al_73, al_74, al_75, al_76, al_77, al_78, al_79, al_80]; exact vin (by omega) (by decide))), ?_⟩, fun q4 => ⟨fun q5 => ⟨by (first | exact vin (by simp only [al_2, al_3, al_4, al_5, al_7, al_11, al_12, al_13, al_15, al_16, al_17, al_19, al_20, al_21, al_22, al_23, al_24, al_25, al_26, al_28, al_30, al_31, al_32, al_33, al_34, al_36, al_41, al_42, al_43, al_44, al_49, al_50, al_51, al_52, al_54, al_55, al_56, al_57, al_58, al_59, al_60, al_61, al_62, al_63, al_64, al_65, al_66, al_67, al_68, al_69, al_70, al_71, al_72, al_73, al_74, al_75, al_76, al_77, al_78, al_79, al_80]; omega) (by simp only [al_2, al_3, al_4, al_5, al_7, al_11, al_12, al_13, al_15, al_16, al_17, al_19, al_20, al_21, al_22, al_23, al_24, al_25, al_26, al_28, al_30, al_31, al_32, al_33, al_34, al_36, al_41, al_42, al_43, al_44, al_49, al_50, al_51, al_52, al_54, al_55, al_56, al_57, al_58, al_59, al_60, al_61, al_62, al_63, al_64, al_65, al_66, al_67, al_68, al_69, al_70, al_71, al_72, al_73, al_74, al_75, al_76, al_77, al_78, al_79, al_80]; decide) | (simp (disch := omega) only [nL, nI_add, pk_mul, nc, Nat.zero_add, al_2, al_3, al_4, al_5, al_7, al_11, al_12, al_13, al_15, al_16, al_17, al_19, al_20, al_21, al_22, al_23, al_24, al_25, al_26, al_28, al_30, al_31, al_32, al_33, al_34, al_36, al_41, al_42, al_43, al_44, al_49, al_50, al_51, al_52, al_54, al_55, al_56, al_57, al_58, al_59, al_60, al_61, al_62, al_63, al_64, al_65, al_66, al_67, al_68, al_69, al_70, al_71, al_72, al_73, al_74, al_75, al_76, al_77, al_78, al_79, al_80]; exact vin (by omega) (by decide))), ?_⟩, fun q5 => ⟨fun q6 => ?_, fun q6 => ⟨fun q7 => ?_, fun q7 => ⟨by (first | exact vin (by simp only [al_2, al_3, al_4, al_5, al_7, al_11, al_12, al_13, al_15, al_16, al_17, al_19, al_20, al_21, al_22, al_23, al_24, al_25, al_26, al_28, al_30, al_31, al_32, al_33, al_34, al_36, al_41, al_42, al_43, al_44, al_49, al_50, al_51, al_52, al_54, al_55, al_56, al_57, al_58, al_59, al_60, al_61, al_62, al_63, al_64, al_65, al_66, al_67, al_68, al_69, al_70, al_71, al_72, al_73, al_74, al_75, al_76, al_77, al_78, al_79, al_80]; omega) (by simp only [al_2, al_3, al_4, al_5, al_7, al_11, al_12, al_13, al_15, al_16, al_17, al_19, al_20, al_21, al_22, al_23, al_24, al_25, al_26, al_28, al_30, al_31, al_32, al_33, al_34, al_36, al_41, al_42, al_43, al_44, al_49, al_50, al_51, al_52, al_54, al_55, al_56, al_57, al_58, al_59, al_60, al_61, al_62, al_63, al_64, al_65, al_66, al_67, al_68, al_69, al_70, al_71, al_72, al_73, al_74, al_75, al_76, al_77, al_78, al_79, al_80]; decide) | (simp (disch := omega) only [nL, nI_add, pk_mul, nc, Nat.zero_add, al_2, al_3, al_4, al_5, al_7, al_11, al_12, al_13, al_15, al_16, al_17, al_19, al_20, al_21, al_22, al_23, al_24, al_25, al_26, al_28, al_30, al_31, al_32, al_33, al_34, al_36, al_41, al_42, al_43, al_44, al_49, al_50, al_51, al_52, al_54, al_55, al_56, al_57, al_58, al_59, al_60, al_61, al_62, al_63, al_64, al_65, al_66, al_67, al_68, al_69, al_70, al_71, al_72, al_73, al_74, al_75, al_76, al_77, al_78, al_79, al_80]; exact vin (by omega) (by decide))), ?_⟩⟩⟩⟩⟩, fun q3 => ?_⟩, fun q2 => ?_⟩⟩
  · rw [if_pos q1]
    exact ⟨_, σt, ht, rfl, hRt, hkt⟩
  · rw [nc (by omega), a] at q3 q4
    rw [nc (by omega)]
    exact good _ q3 (by rw [csA, if_pos q4.symm]; decide) rfl q2 q1
  · rw [nc (by omega), a] at q3 q4
    rw [nc (by omega)]
    exact good _ q3 (by rw [csA, if_neg (fun z => q4 z.symm), if_pos q5]; decide) rfl q2 q1
  · rw [nc (by omega), a] at q3 q4
    rw [if_neg q1, if_pos q2, if_neg (hnn q3), if_pos (by rw [csA, if_neg (fun z => q4 z.symm), if_neg q5, if_neg q6])]
    exact ⟨_, σu, hu, rfl, hRu, hku⟩
  · rw [nc (by omega), a] at q3 q4 q7
    rw [if_neg q1, if_pos q2, if_neg (hnn q3), if_pos (by rw [csA, if_neg (fun z => q4 z.symm), if_neg q5, if_pos q6, if_neg q7])]
    exact ⟨_, σu, hu, rfl, hRu, hku⟩
  · rw [nc (by omega), a] at q3 q4 q7
    rw [nc (by omega)]
    exact good _ q3 (by rw [csA, if_neg (fun z => q4 z.symm), if_neg q5, if_pos q6, if_pos q7]; decide) rfl q2 q1
  · rw [nc (by omega), a] at q3
    rw [if_neg q1, if_pos q2, if_pos (Classical.byContradiction fun z => q3 ((hv.2.2.2.1 j hj).nn z))]
    exact ⟨_, σw, hw, rfl, hRw, hkw⟩
  · rw [if_neg q1, if_neg q2]
    exact ⟨_, σt, ht, rfl, hRt, hkt⟩
theorem v_as {B : zB} (h : VB B) (s k : Int32) : VB (sAs s k B).2 := by
  unfold sAs
  repeat (first | exact h.tell _ | exact h | split)
