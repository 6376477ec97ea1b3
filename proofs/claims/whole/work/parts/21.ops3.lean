/-! rests; melting, reading, undoing; group, numbers, excess, off, whole -/
theorem i_neg_msb (x : Int32) : (x < 0) = (x.toBitVec.msb = true) := by
  rw [Int32.lt_iff_toBitVec_slt]
  show (x.toBitVec.slt 0#32 = true) = _
  rw [BitVec.slt_zero_eq_msb]
theorem xor_neg {r g : Int32} (hg : ¬ g < 0) : (r ^^^ g < 0) = (r < 0) := by
  rw [i_neg_msb] at hg
  rw [i_neg_msb, i_neg_msb]
  show ((r.toBitVec ^^^ g.toBitVec).msb = true) = _
  rw [BitVec.msb_xor, Bool.eq_false_iff.mpr hg, Bool.xor_false]
def fm (x y : Int32) : Int32 := if 0 ≤ x ^^^ y then x - x / y * y else if x - x / y * y = 0 then x - x / y * y else x - x / y * y + y
theorem c_floorMod (d : Nat) (σ : z_M) (x y : Int32) (hy : ¬ y = 0) : z_call (d + 1) k_Math_floorMod [.int x, .int y] σ (some (.int (fm x y))) σ := by
  unfold fm
  refine ⟨rfl, z_go 20 [] ⟨hy, fun h => ⟨by rw [if_pos h], rfl⟩, fun h => ⟨fun h2 => ⟨by rw [if_neg h, if_pos h2], rfl⟩, fun h2 => ⟨by rw [if_neg h, if_neg h2], rfl⟩⟩⟩⟩
/-- by the group -/
def bg (g x : Int32) : Int32 := if g = 0 then x else if 0 ≤ x - x / g * g then x - x / g * g else x - x / g * g + g
theorem fm_bg {g x : Int32} (h0 : ¬ g = 0) (hg : ¬ g < 0) : fm x g = bg g x := by
  unfold fm bg
  rw [if_neg h0]
  have e : (0 ≤ x ^^^ g) = (0 ≤ x) := by
    rw [← Int32.not_lt, ← Int32.not_lt, xor_neg hg]
  have hr := rem_toInt x g
  have z0 : (0 : Int32).toInt = 0 := rfl
  by_cases q : 0 ≤ x
  · have h1 : 0 ≤ x.toInt := by have := Int32.le_iff_toInt_le.mp q; omega
    have h2 := Int.tmod_nonneg g.toInt h1
    rw [if_pos (by rw [e]; exact q), if_pos (by rw [Int32.le_iff_toInt_le, hr, z0]; exact h2)]
  · have h1 : x.toInt < 0 := by rw [Int32.le_iff_toInt_le] at q; omega
    have h2 : x.toInt.tmod g.toInt ≤ 0 := by
      have h3 := Int.tmod_nonneg g.toInt (show 0 ≤ -x.toInt by omega)
      rw [Int.neg_tmod] at h3
      omega
    rw [if_neg (by rw [e]; exact q)]
    by_cases q2 : x - x / g * g = 0
    · rw [if_pos q2, if_pos (by rw [q2]; exact Int32.le_refl 0)]
    · rw [if_neg q2, if_neg]
      intro q3
      rw [Int32.le_iff_toInt_le, hr, z0] at q3
      exact q2 (Int32.toInt_inj.mp (by rw [hr, z0]; omega))
theorem c_rest (d : Nat) (σ : z_M) {G : Nat} (hG : σ.1 1 2 = nI G) (hG2 : G ≤ 12) (x : Int32) : z_call (d + 2) k_Net_rest [.ref 1, .int x] σ (some (.int (bg (σ.1 1 2) x))) σ := by
  refine ⟨rfl, z_go 20 [] ⟨fun h => ⟨_, _, c_floorMod d σ x _ h, ?_, rfl⟩, fun h => ⟨?_, rfl⟩⟩⟩
  · rw [fm_bg h (by rw [hG]; exact n_nn (by omega))]
  · rw [bg, if_pos h]
theorem c_byGroup (d : Nat) (σ : z_M) (x : Int32) : z_call (d + 1) k_Md_byGroup [.ref 53, .int x] σ (some (.int (bg (σ.1 53 2) x))) σ := by
  unfold bg
  refine ⟨rfl, z_go 20 [] ⟨fun h => ⟨h, fun h2 => ⟨by rw [if_neg h, if_pos h2], rfl⟩, fun h2 => ⟨by rw [if_neg h, if_neg h2], rfl⟩⟩, fun h => ⟨by rw [if_pos h], rfl⟩⟩⟩
def sGroup (m : Int32) (B : zB) : Int32 × zB := if m = 0 ∨ ¬ (m < 2) ∧ m ≤ 12 then oAct (nG B.1) ((nP B.1, nR B.1, m), B.1.2) B else oTell (-1000001) B
theorem x_group (d : Nat) {σ : z_M} {B : zB} (h : RepC σ B) (m : Int32) : opC (d + 5) k_RF_group [.ref 0, .int m] σ (sGroup m B) := by
  obtain ⟨σt, ht, hRt, hkt⟩ := c_tell (d + 3) h (-1000001)
  obtain ⟨σ1, hc, hN1, -, hk, fin⟩ := c_beginB (d + 1) h
  have act : ∀ (n : Nat), some (Value.int (σ1.1 1 2)) = some (Value.int (nG B.1)) ∧ (RepC (z_wr σ1 1 2 m) (oAct (nG B.1) ((nP B.1, nR B.1, m), B.1.2) B).2 ∧ kC σ (z_wr σ1 1 2 m)) := fun n =>
    ⟨by rw [hN1.2.2.1], fin _ _ _ (by (repeat (first | exact fr.rf | refine fr.cp ?_ (by decide) | refine fr.wr ?_ (by decide) | refine fr.wl ?_ (by decide)))) ⟨by rw [wr_k (by decide)]; exact hN1.1, by rw [wr_k (by decide)]; exact hN1.2.1, by rw [wr_s], fun i hi => by simp (disch := omega) only [nL, nI_add, pk_mul, nc, cp_in, cp_lo, cp_hi, cp_ne, wr_s, wr_k, wr_c, wr_e, Nat.zero_add]; exact hN1.2.2.2 i hi⟩⟩
  refine z_metC ⟨rfl, z_go 30 [] ⟨fun q => ?_, fun q => ⟨fun q2 => ?_, fun q2 => ⟨fun q3 => ?_, fun q3 => ?_⟩⟩⟩⟩
  · rw [sGroup, if_pos (Or.inl q)]
    exact ⟨σ1, hc, act 0⟩
  · rw [sGroup, if_neg (by rintro (z | z); exact q z; exact z.1 q2)]
    exact ⟨_, σt, ht, rfl, hRt, hkt⟩
  · rw [sGroup, if_pos (Or.inr ⟨q2, q3⟩)]
    exact ⟨σ1, hc, act 0⟩
  · rw [sGroup, if_neg (by rintro (z | z); exact q z; exact q3 z.2)]
    exact ⟨_, σt, ht, rfl, hRt, hkt⟩
theorem y_group (d : Nat) {σ : z_M} {B : zB} (h : RepD σ B) (m : Int32) : opD (d + 5) k_Md_group [.ref 53, .int m] σ (sGroup m B) := by
  obtain ⟨σt, ht, hRt, hkt⟩ := c_finding (d + 3) h (-1000001)
  obtain ⟨σ1, hc, hN1, -, hk, -, fin⟩ := c_keepB (d + 2) h
  have act : ∀ (n : Nat), some (Value.int (σ1.1 53 2)) = some (Value.int (nG B.1)) ∧ (RepD (z_wr σ1 53 2 m) (oAct (nG B.1) ((nP B.1, nR B.1, m), B.1.2) B).2 ∧ kD σ (z_wr σ1 53 2 m)) := fun n =>
    ⟨by rw [hN1.2.2.1], fin _ _ _ (by (repeat (first | exact fr.rf | refine fr.cp ?_ (by decide) | refine fr.wr ?_ (by decide) | refine fr.wl ?_ (by decide)))) (fun k hk => by simp (disch := omega) only [nL, nI_add, pk_mul, nc, cp_in, cp_lo, cp_hi, cp_ne, wr_s, wr_k, wr_c, wr_e, Nat.zero_add]) ⟨by rw [wr_k (by decide)]; exact hN1.1, by rw [wr_k (by decide)]; exact hN1.2.1, by rw [wr_s], fun i hi => by simp (disch := omega) only [nL, nI_add, pk_mul, nc, cp_in, cp_lo, cp_hi, cp_ne, wr_s, wr_k, wr_c, wr_e, Nat.zero_add]; exact hN1.2.2.2 i hi⟩⟩
  refine z_metD ⟨rfl, z_go 30 [] ⟨fun q => ?_, fun q => ⟨fun q2 => ?_, fun q2 => ⟨fun q3 => ?_, fun q3 => ?_⟩⟩⟩⟩
  · rw [sGroup, if_pos (Or.inl q)]
    exact ⟨σ1, hc, act 0⟩
  · rw [sGroup, if_neg (by rintro (z | z); exact q z; exact z.1 q2)]
    exact ⟨_, σt, ht, rfl, hRt, hkt⟩
  · rw [sGroup, if_pos (Or.inr ⟨q2, q3⟩)]
    exact ⟨σ1, hc, act 0⟩
  · rw [sGroup, if_neg (by rintro (z | z); exact q z; exact q3 z.2)]
    exact ⟨_, σt, ht, rfl, hRt, hkt⟩
theorem v_group {B : zB} (h : VB B) (m : Int32) : VB (sGroup m B).2 := by
  unfold sGroup
  split
  · rename_i q
    obtain ⟨P, R, G, eP, hP, eR, hR, eG, hG, hi⟩ := h.1
    rcases q with rfl | ⟨q1, q2⟩
    · exact h.act _ ⟨P, R, 0, eP, hP, eR, hR, rfl, Or.inl rfl, hi⟩
    · obtain ⟨j, hj, rfl⟩ := nI_of (x := m) (fun z => q1 (by
        rw [Int32.lt_iff_toInt_lt] at z ⊢
        have : (2 : Int32).toInt = 2 := rfl
        have : (0 : Int32).toInt = 0 := rfl
        omega))
      simp (disch := omega) only [nL, n_lt, n_le] at q1 q2
      exact h.act _ ⟨P, R, j, eP, hP, eR, hR, rfl, Or.inr (by omega), hi⟩
  · exact h.tell _
def fit (v : Int32) : Int32 := if v < -100 then 0 else if 100 < v then 0 else 1
theorem c_fits (d : Nat) (σ : z_M) (v : Int32) : z_call (d + 1) k_RF_fits [.int v] σ (some (.int (fit v))) σ := by
  unfold fit
  refine ⟨rfl, z_go 20 [] ⟨fun h => ⟨Or.inl rfl, by rw [if_pos h], rfl⟩, fun h => ⟨fun h2 => ⟨Or.inl rfl, by rw [if_neg h, if_pos h2], rfl⟩, fun h2 => ⟨Or.inr rfl, by rw [if_neg h, if_neg h2], rfl⟩⟩⟩⟩
theorem c_isNumber (d : Nat) (σ : z_M) (v : Int32) : z_call (d + 1) k_Md_isNumber [.int v] σ (some (.int (fit v))) σ := by
  unfold fit
  refine ⟨rfl, z_go 20 [] ⟨fun h => ⟨Or.inl rfl, by rw [if_pos h], rfl⟩, fun h => ⟨fun h2 => ⟨Or.inl rfl, by rw [if_neg h, if_pos h2], rfl⟩, fun h2 => ⟨Or.inr rfl, by rw [if_neg h, if_neg h2], rfl⟩⟩⟩⟩
theorem fit_rng {v : Int32} (h : ¬ fit v = 0) : -100 ≤ v.toInt ∧ v.toInt ≤ 100 := by
  unfold fit at h
  split at h
  · exact absurd rfl h
  · rename_i h1
    split at h
    · exact absurd rfl h
    · rename_i h2
      rw [Int32.lt_iff_toInt_lt] at h1 h2
      have e1 : (-100 : Int32).toInt = -100 := rfl
      have e2 : (100 : Int32).toInt = 100 := rfl
      omega
def sSet (r v : Int32) (B : zB) : Int32 × zB := if hasP (nR B.1) r = 0 then oTell (-1000001) B else if fit v = 0 then oTell (-1000001) B else oAct (bg (nG B.1) (nV B.1 r.toNatClampNeg)) (B.1.1, nS B.1, nE B.1, nD B.1, upd (nV B.1) r.toNatClampNeg v) B
theorem x_set (d : Nat) {σ : z_M} {B : zB} (h : RepC σ B) (hv : VB B) (r v : Int32) : opC (d + 5) k_RF_set [.ref 0, .int r, .int v] σ (sSet r v B) := by
  obtain ⟨P, R, G, eP, hP, eR, hR, eG, hG, -⟩ := hv.1
  have ca := c_hasRoad (d + 3) σ r
  rw [h.1.2.1] at ca
  obtain ⟨σt, ht, hRt, hkt⟩ := c_tell (d + 3) h (-1000001)
  refine z_metC ⟨rfl, z_go 40 [] ⟨_, _, ca, fun q => ?_, fun q => ⟨_, _, c_fits (d + 3) σ v, fun q2 => ?_, fun q2 => ?_⟩⟩⟩
  · rw [sSet, if_pos q]
    exact ⟨_, σt, ht, rfl, hRt, hkt⟩
  · rw [sSet, if_neg q, if_neg q2]
    rw [eR] at q
    obtain ⟨j, hj, rfl⟩ := hasP_ne (by omega) q
    obtain ⟨σ1, hc, hN1, -, hk, fin⟩ := c_beginB (d + 1) h
    have cr := c_rest (d + 2) σ1 (hN1.2.2.1.trans eG) (by omega) (σ1.1 5 j)
    rw [hN1.2.2.1, (hN1.2.2.2 j (by omega)).2.2.2] at cr
    refine ⟨σ1, hc, by (first | exact vin (by simp only [al_2, al_3, al_4, al_5, al_7, al_11, al_12, al_13, al_15, al_16, al_17, al_19, al_20, al_21, al_22, al_23, al_24, al_25, al_26, al_28, al_30, al_31, al_32, al_33, al_34, al_36, al_41, al_42, al_43, al_44, al_49, al_50, al_51, al_52, al_54, al_55, al_56, al_57, al_58, al_59, al_60, al_61, al_62, al_63, al_64, al_65, al_66, al_67, al_68, al_69, al_70, al_71, al_72, al_73, al_74, al_75, al_76, al_77, al_78, al_79, al_80]; omega) (by simp only [al_2, al_3, al_4, al_5, al_7, al_11, al_12, al_13, al_15, al_16, al_17, al_19, al_20, al_21, al_22, al_23, al_24, al_25, al_26, al_28, al_30, al_31, al_32, al_33, al_34, al_36, al_41, al_42, al_43, al_44, al_49, al_50, al_51, al_52, al_54, al_55, al_56, al_57, al_58, al_59, al_60, al_61, al_62, al_63, al_64, al_65, al_66, al_67, al_68, al_69, al_70, al_71, al_72, al_73, al_74, al_75, al_76, al_77, al_78, al_79, al_80]; decide) | (simp (disch := omega) only [nL, nI_add, pk_mul, nc, Nat.zero_add, al_2, al_3, al_4, al_5, al_7, al_11, al_12, al_13, al_15, al_16, al_17, al_19, al_20, al_21, al_22, al_23, al_24, al_25, al_26, al_28, al_30, al_31, al_32, al_33, al_34, al_36, al_41, al_42, al_43, al_44, al_49, al_50, al_51, al_52, al_54, al_55, al_56, al_57, al_58, al_59, al_60, al_61, al_62, al_63, al_64, al_65, al_66, al_67, al_68, al_69, al_70, al_71, al_72, al_73, al_74, al_75, al_76, al_77, al_78, al_79, al_80]; exact vin (by omega) (by decide))), ?_⟩
    simp (disch := omega) only [nc, (hN1.2.2.2 j (by omega)).2.2.2]
    refine ⟨_, _, cr, by (first | exact vin (by simp only [al_2, al_3, al_4, al_5, al_7, al_11, al_12, al_13, al_15, al_16, al_17, al_19, al_20, al_21, al_22, al_23, al_24, al_25, al_26, al_28, al_30, al_31, al_32, al_33, al_34, al_36, al_41, al_42, al_43, al_44, al_49, al_50, al_51, al_52, al_54, al_55, al_56, al_57, al_58, al_59, al_60, al_61, al_62, al_63, al_64, al_65, al_66, al_67, al_68, al_69, al_70, al_71, al_72, al_73, al_74, al_75, al_76, al_77, al_78, al_79, al_80]; omega) (by simp only [al_2, al_3, al_4, al_5, al_7, al_11, al_12, al_13, al_15, al_16, al_17, al_19, al_20, al_21, al_22, al_23, al_24, al_25, al_26, al_28, al_30, al_31, al_32, al_33, al_34, al_36, al_41, al_42, al_43, al_44, al_49, al_50, al_51, al_52, al_54, al_55, al_56, al_57, al_58, al_59, al_60, al_61, al_62, al_63, al_64, al_65, al_66, al_67, al_68, al_69, al_70, al_71, al_72, al_73, al_74, al_75, al_76, al_77, al_78, al_79, al_80]; decide) | (simp (disch := omega) only [nL, nI_add, pk_mul, nc, Nat.zero_add, al_2, al_3, al_4, al_5, al_7, al_11, al_12, al_13, al_15, al_16, al_17, al_19, al_20, al_21, al_22, al_23, al_24, al_25, al_26, al_28, al_30, al_31, al_32, al_33, al_34, al_36, al_41, al_42, al_43, al_44, al_49, al_50, al_51, al_52, al_54, al_55, al_56, al_57, al_58, al_59, al_60, al_61, al_62, al_63, al_64, al_65, al_66, al_67, al_68, al_69, al_70, al_71, al_72, al_73, al_74, al_75, al_76, al_77, al_78, al_79, al_80]; exact vin (by omega) (by decide))), ?_⟩
    simp (disch := omega) only [nc]
    refine ⟨rfl, fin _ _ _ (by (repeat (first | exact fr.rf | refine fr.cp ?_ (by decide) | refine fr.wr ?_ (by decide) | refine fr.wl ?_ (by decide)))) ⟨?_, ?_, ?_, fun i hi => ?_⟩⟩
    · rw [wr_c (by decide)]; exact hN1.1
    · rw [wr_c (by decide)]; exact hN1.2.1
    · rw [wr_c (by decide)]; exact hN1.2.2.1
    · obtain ⟨b1, b2, b3, b4⟩ := hN1.2.2.2 i hi
      refine ⟨by simp (disch := omega) only [nL, nI_add, pk_mul, nc, cp_in, cp_lo, cp_hi, cp_ne, wr_s, wr_k, wr_c, wr_e, Nat.zero_add]; exact b1, by simp (disch := omega) only [nL, nI_add, pk_mul, nc, cp_in, cp_lo, cp_hi, cp_ne, wr_s, wr_k, wr_c, wr_e, Nat.zero_add]; exact b2, by simp (disch := omega) only [nL, nI_add, pk_mul, nc, cp_in, cp_lo, cp_hi, cp_ne, wr_s, wr_k, wr_c, wr_e, Nat.zero_add]; exact b3, ?_⟩
      by_cases e : i = j
      · subst e
        rw [wr_s]
        exact upd_s.symm
      · rw [wr_k e]
        exact b4.trans (upd_k e).symm
  · rw [sSet, if_neg q, if_pos q2]
    exact ⟨_, σt, ht, rfl, hRt, hkt⟩
theorem y_set (d : Nat) {σ : z_M} {B : zB} (h : RepD σ B) (hv : VB B) (r v : Int32) : opD (d + 5) k_Md_set [.ref 53, .int r, .int v] σ (sSet r v B) := by
  obtain ⟨P, R, G, eP, hP, eR, hR, eG, hG, -⟩ := hv.1
  have ca := c_isRoad (d + 3) σ r
  rw [h.1.2.1] at ca
  obtain ⟨σt, ht, hRt, hkt⟩ := c_finding (d + 3) h (-1000001)
  refine z_metD ⟨rfl, z_go 40 [] ⟨_, _, ca, fun q => ?_, fun q => ⟨_, _, c_isNumber (d + 3) σ v, fun q2 => ?_, fun q2 => ?_⟩⟩⟩
  · rw [sSet, if_pos q]
    exact ⟨_, σt, ht, rfl, hRt, hkt⟩
  · rw [sSet, if_neg q, if_neg q2]
    rw [eR] at q
    obtain ⟨j, hj, rfl⟩ := hasP_ne (by omega) q
    obtain ⟨σ1, hc, hN1, -, hk, -, fin⟩ := c_keepB (d + 2) h
    have cr := c_byGroup (d + 3) σ1 (σ1.1 57 j)
    rw [hN1.2.2.1, (hN1.2.2.2 j (by omega)).2.2.2] at cr
    refine ⟨σ1, hc, by (first | exact vin (by simp only [al_2, al_3, al_4, al_5, al_7, al_11, al_12, al_13, al_15, al_16, al_17, al_19, al_20, al_21, al_22, al_23, al_24, al_25, al_26, al_28, al_30, al_31, al_32, al_33, al_34, al_36, al_41, al_42, al_43, al_44, al_49, al_50, al_51, al_52, al_54, al_55, al_56, al_57, al_58, al_59, al_60, al_61, al_62, al_63, al_64, al_65, al_66, al_67, al_68, al_69, al_70, al_71, al_72, al_73, al_74, al_75, al_76, al_77, al_78, al_79, al_80]; omega) (by simp only [al_2, al_3, al_4, al_5, al_7, al_11, al_12, al_13, al_15, al_16, al_17, al_19, al_20, al_21, al_22, al_23, al_24, al_25, al_26, al_28, al_30, al_31, al_32, al_33, al_34, al_36, al_41, al_42, al_43, al_44, al_49, al_50, al_51, al_52, al_54, al_55, al_56, al_57, al_58, al_59, al_60, al_61, al_62, al_63, al_64, al_65, al_66, al_67, al_68, al_69, al_70, al_71, al_72, al_73, al_74, al_75, al_76, al_77, al_78, al_79, al_80]; decide) | (simp (disch := omega) only [nL, nI_add, pk_mul, nc, Nat.zero_add, al_2, al_3, al_4, al_5, al_7, al_11, al_12, al_13, al_15, al_16, al_17, al_19, al_20, al_21, al_22, al_23, al_24, al_25, al_26, al_28, al_30, al_31, al_32, al_33, al_34, al_36, al_41, al_42, al_43, al_44, al_49, al_50, al_51, al_52, al_54, al_55, al_56, al_57, al_58, al_59, al_60, al_61, al_62, al_63, al_64, al_65, al_66, al_67, al_68, al_69, al_70, al_71, al_72, al_73, al_74, al_75, al_76, al_77, al_78, al_79, al_80]; exact vin (by omega) (by decide))), ?_⟩
    simp (disch := omega) only [nc, (hN1.2.2.2 j (by omega)).2.2.2]
    refine ⟨_, _, cr, by (first | exact vin (by simp only [al_2, al_3, al_4, al_5, al_7, al_11, al_12, al_13, al_15, al_16, al_17, al_19, al_20, al_21, al_22, al_23, al_24, al_25, al_26, al_28, al_30, al_31, al_32, al_33, al_34, al_36, al_41, al_42, al_43, al_44, al_49, al_50, al_51, al_52, al_54, al_55, al_56, al_57, al_58, al_59, al_60, al_61, al_62, al_63, al_64, al_65, al_66, al_67, al_68, al_69, al_70, al_71, al_72, al_73, al_74, al_75, al_76, al_77, al_78, al_79, al_80]; omega) (by simp only [al_2, al_3, al_4, al_5, al_7, al_11, al_12, al_13, al_15, al_16, al_17, al_19, al_20, al_21, al_22, al_23, al_24, al_25, al_26, al_28, al_30, al_31, al_32, al_33, al_34, al_36, al_41, al_42, al_43, al_44, al_49, al_50, al_51, al_52, al_54, al_55, al_56, al_57, al_58, al_59, al_60, al_61, al_62, al_63, al_64, al_65, al_66, al_67, al_68, al_69, al_70, al_71, al_72, al_73, al_74, al_75, al_76, al_77, al_78, al_79, al_80]; decide) | (simp (disch := omega) only [nL, nI_add, pk_mul, nc, Nat.zero_add, al_2, al_3, al_4, al_5, al_7, al_11, al_12, al_13, al_15, al_16, al_17, al_19, al_20, al_21, al_22, al_23, al_24, al_25, al_26, al_28, al_30, al_31, al_32, al_33, al_34, al_36, al_41, al_42, al_43, al_44, al_49, al_50, al_51, al_52, al_54, al_55, al_56, al_57, al_58, al_59, al_60, al_61, al_62, al_63, al_64, al_65, al_66, al_67, al_68, al_69, al_70, al_71, al_72, al_73, al_74, al_75, al_76, al_77, al_78, al_79, al_80]; exact vin (by omega) (by decide))), ?_⟩
    simp (disch := omega) only [nc]
    refine ⟨rfl, fin _ _ _ (by (repeat (first | exact fr.rf | refine fr.cp ?_ (by decide) | refine fr.wr ?_ (by decide) | refine fr.wl ?_ (by decide)))) (fun k hk => by simp (disch := omega) only [nL, nI_add, pk_mul, nc, cp_in, cp_lo, cp_hi, cp_ne, wr_s, wr_k, wr_c, wr_e, Nat.zero_add]) ⟨?_, ?_, ?_, fun i hi => ?_⟩⟩
    · rw [wr_c (by decide)]; exact hN1.1
    · rw [wr_c (by decide)]; exact hN1.2.1
    · rw [wr_c (by decide)]; exact hN1.2.2.1
    · obtain ⟨b1, b2, b3, b4⟩ := hN1.2.2.2 i hi
      refine ⟨by simp (disch := omega) only [nL, nI_add, pk_mul, nc, cp_in, cp_lo, cp_hi, cp_ne, wr_s, wr_k, wr_c, wr_e, Nat.zero_add]; exact b1, by simp (disch := omega) only [nL, nI_add, pk_mul, nc, cp_in, cp_lo, cp_hi, cp_ne, wr_s, wr_k, wr_c, wr_e, Nat.zero_add]; exact b2, by simp (disch := omega) only [nL, nI_add, pk_mul, nc, cp_in, cp_lo, cp_hi, cp_ne, wr_s, wr_k, wr_c, wr_e, Nat.zero_add]; exact b3, ?_⟩
      by_cases e : i = j
      · subst e
        rw [wr_s]
        exact upd_s.symm
      · rw [wr_k e]
        exact b4.trans (upd_k e).symm
  · rw [sSet, if_neg q, if_pos q2]
    exact ⟨_, σt, ht, rfl, hRt, hkt⟩
theorem v_set {B : zB} (h : VB B) (r v : Int32) : VB (sSet r v B).2 := by
  unfold sSet
  split
  · exact h.tell _
  · rename_i q
    split
    · exact h.tell _
    · rename_i q2
      obtain ⟨P, R, G, eP, hP, eR, hR, eG, hG, hi⟩ := h.1
      rw [eR] at q
      obtain ⟨j, hj, rfl⟩ := hasP_ne (by omega) q
      rw [nc (by omega)]
      refine h.act _ ⟨P, R, G, eP, hP, eR, hR, eG, hG, fun i hi2 => ?_⟩
      obtain ⟨a, b, c⟩ := hi i hi2
      refine ⟨a, b, ?_⟩
      by_cases e : i = j
      · subst e
        simp only [nV, upd_s]
        exact fit_rng q2
      · simp (disch := omega) only [nV, upd_k]
        exact c
/-- what comes into p less what goes out, by the first n roads -/
def exc (N : zN) (p : Int32) : Nat → Int32
  | 0 => 0
  | i + 1 => exc N p i + (if nE N i = p then nV N i else 0) - (if nS N i = p then nV N i else 0)
def exs (N : zN) (p : Int32) : Int32 := bg (nG N) (exc N p (gR N))
theorem c_surplus (d : Nat) {σ : z_M} {N : zN} (h : netC σ N) (hv : NV N) (p : Int32) : z_call (d + 3) k_Net_surplus [.ref 1, .int p] σ (some (.int (exs N p))) σ := by
  obtain ⟨P, R, G, eP, hP, eR, hR, eG, hG, -⟩ := hv
  obtain ⟨h1, h2, h3, h4⟩ := h
  have eg : gR N = R := by unfold gR; rw [eR, nc (by omega)]
  have cr := c_rest d σ (h3.trans eG) (by omega) (exc N p R)
  rw [h3] at cr
  have loop : ∀ (n i : Nat), i + n = R → z_wp (z_call (d + 2)) none k_Net_surplus (fun r s => r = some (.int (exs N p)) ∧ s = σ) 4 [some (.ref 1), some (.int p), some (.int (exc N p i)), some (.int (nI i))] [] σ := by
    intro n
    induction n with
    | zero =>
      intro i hi
      obtain rfl : i = R := by omega
      refine z_go 60 [4] ⟨fun q => ⟨_, _, cr, by rw [exs, eg], rfl⟩, fun q => ?_⟩
      rw [h2, eR] at q
      exact absurd (Int32.le_refl _) q
    | succ n ih =>
      intro i hi
      obtain ⟨b1, b2, b3, b4⟩ := h4 i (by omega)
      have ihx := ih (i + 1) (by omega)
      rw [exc] at ihx
      refine z_go 60 [4] ⟨fun q => ?_, fun q => ⟨by (first | exact vin (by simp only [al_2, al_3, al_4, al_5, al_7, al_11, al_12, al_13, al_15, al_16, al_17, al_19, al_20, al_21, al_22, al_23, al_24, al_25, al_26, al_28, al_30, al_31, al_32, al_33, al_34, al_36, al_41, al_42, al_43, al_44, al_49, al_50, al_51, al_52, al_54, al_55, al_56, al_57, al_58, al_59, al_60, al_61, al_62, al_63, al_64, al_65, al_66, al_67, al_68, al_69, al_70, al_71, al_72, al_73, al_74, al_75, al_76, al_77, al_78, al_79, al_80]; omega) (by simp only [al_2, al_3, al_4, al_5, al_7, al_11, al_12, al_13, al_15, al_16, al_17, al_19, al_20, al_21, al_22, al_23, al_24, al_25, al_26, al_28, al_30, al_31, al_32, al_33, al_34, al_36, al_41, al_42, al_43, al_44, al_49, al_50, al_51, al_52, al_54, al_55, al_56, al_57, al_58, al_59, al_60, al_61, al_62, al_63, al_64, al_65, al_66, al_67, al_68, al_69, al_70, al_71, al_72, al_73, al_74, al_75, al_76, al_77, al_78, al_79, al_80]; decide) | (simp (disch := omega) only [nL, nI_add, pk_mul, nc, Nat.zero_add, al_2, al_3, al_4, al_5, al_7, al_11, al_12, al_13, al_15, al_16, al_17, al_19, al_20, al_21, al_22, al_23, al_24, al_25, al_26, al_28, al_30, al_31, al_32, al_33, al_34, al_36, al_41, al_42, al_43, al_44, al_49, al_50, al_51, al_52, al_54, al_55, al_56, al_57, al_58, al_59, al_60, al_61, al_62, al_63, al_64, al_65, al_66, al_67, al_68, al_69, al_70, al_71, al_72, al_73, al_74, al_75, al_76, al_77, al_78, al_79, al_80]; exact vin (by omega) (by decide))), fun q2 => ⟨by (first | exact vin (by simp only [al_2, al_3, al_4, al_5, al_7, al_11, al_12, al_13, al_15, al_16, al_17, al_19, al_20, al_21, al_22, al_23, al_24, al_25, al_26, al_28, al_30, al_31, al_32, al_33, al_34, al_36, al_41, al_42, al_43, al_44, al_49, al_50, al_51, al_52, al_54, al_55, al_56, al_57, al_58, al_59, al_60, al_61, al_62, al_63, al_64, al_65, al_66, al_67, al_68, al_69, al_70, al_71, al_72, al_73, al_74, al_75, al_76, al_77, al_78, al_79, al_80]; omega) (by simp only [al_2, al_3, al_4, al_5, al_7, al_11, al_12, al_13, al_15, al_16, al_17, al_19, al_20, al_21, al_22, al_23, al_24, al_25, al_26, al_28, al_30, al_31, al_32, al_33, al_34, al_36, al_41, al_42, al_43, al_44, al_49, al_50, al_51, al_52, al_54, al_55, al_56, al_57, al_58, al_59, al_60, al_61, al_62, al_63, al_64, al_65, al_66, al_67, al_68, al_69, al_70, al_71, al_72, al_73, al_74, al_75, al_76, al_77, al_78, al_79, al_80]; decide) | (simp (disch := omega) only [nL, nI_add, pk_mul, nc, Nat.zero_add, al_2, al_3, al_4, al_5, al_7, al_11, al_12, al_13, al_15, al_16, al_17, al_19, al_20, al_21, al_22, al_23, al_24, al_25, al_26, al_28, al_30, al_31, al_32, al_33, al_34, al_36, al_41, al_42, al_43, al_44, al_49, al_50, al_51, al_52, al_54, al_55, al_56, al_57, al_58, al_59, al_60, al_61, al_62, al_63, al_64, al_65, al_66, al_67, al_68, al_69, al_70, al_71, al_72, al_73, al_74, al_75, al_76, al_77, al_78, al_79, al_80]; exact vin (by omega) (by decide))), fun q3 => ?_, fun q3 => ⟨by (first | exact vin (by simp only [al_2, al_3, al_4, al_5, al_7, al_11, al_12, al_13, al_15, al_16, al_17, al_19, al_20, al_21, al_22, al_23, al_24, al_25, al_26, al_28, al_30, al_31, al_32, al_33, al_34, al_36, al_41, al_42, al_43, al_44, al_49, al_50, al_51, al_52, al_54, al_55, al_56, al_57, al_58, al_59, al_60, al_61, al_62, al_63, al_64, al_65, al_66, al_67, al_68, al_69, al_70, al_71, al_72, al_73, al_74, al_75, al_76, al_77, al_78, al_79, al_80]; omega) (by simp only [al_2, al_3, al_4, al_5, al_7, al_11, al_12, al_13, al_15, al_16, al_17, al_19, al_20, al_21, al_22, al_23, al_24, al_25, al_26, al_28, al_30, al_31, al_32, al_33, al_34, al_36, al_41, al_42, al_43, al_44, al_49, al_50, al_51, al_52, al_54, al_55, al_56, al_57, al_58, al_59, al_60, al_61, al_62, al_63, al_64, al_65, al_66, al_67, al_68, al_69, al_70, al_71, al_72, al_73, al_74, al_75, al_76, al_77, al_78, al_79, al_80]; decide) | (simp (disch := omega) only [nL, nI_add, pk_mul, nc, Nat.zero_add, al_2, al_3, al_4, al_5, al_7, al_11, al_12, al_13, al_15, al_16, al_17, al_19, al_20, al_21, al_22, al_23, al_24, al_25, al_26, al_28, al_30, al_31, al_32, al_33, al_34, al_36, al_41, al_42, al_43, al_44, al_49, al_50, al_51, al_52, al_54, al_55, al_56, al_57, al_58, al_59, al_60, al_61, al_62, al_63, al_64, al_65, al_66, al_67, al_68, al_69, al_70, al_71, al_72, al_73, al_74, al_75, al_76, al_77, al_78, al_79, al_80]; exact vin (by omega) (by decide))), ?_⟩⟩, fun q2 => ⟨by (first | exact vin (by simp only [al_2, al_3, al_4, al_5, al_7, al_11, al_12, al_13, al_15, al_16, al_17, al_19, al_20, al_21, al_22, al_23, al_24, al_25, al_26, al_28, al_30, al_31, al_32, al_33, al_34, al_36, al_41, al_42, al_43, al_44, al_49, al_50, al_51, al_52, al_54, al_55, al_56, al_57, al_58, al_59, al_60, al_61, al_62, al_63, al_64, al_65, al_66, al_67, al_68, al_69, al_70, al_71, al_72, al_73, al_74, al_75, al_76, al_77, al_78, al_79, al_80]; omega) (by simp only [al_2, al_3, al_4, al_5, al_7, al_11, al_12, al_13, al_15, al_16, al_17, al_19, al_20, al_21, al_22, al_23, al_24, al_25, al_26, al_28, al_30, al_31, al_32, al_33, al_34, al_36, al_41, al_42, al_43, al_44, al_49, al_50, al_51, al_52, al_54, al_55, al_56, al_57, al_58, al_59, al_60, al_61, al_62, al_63, al_64, al_65, al_66, al_67, al_68, al_69, al_70, al_71, al_72, al_73, al_74, al_75, al_76, al_77, al_78, al_79, al_80]; decide) | (simp (disch := omega) only [nL, nI_add, pk_mul, nc, Nat.zero_add, al_2, al_3, al_4, al_5, al_7, al_11, al_12, al_13, al_15, al_16, al_17, al_19, al_20, al_21, al_22, al_23, al_24, al_25, al_26, al_28, al_30, al_31, al_32, al_33, al_34, al_36, al_41, al_42, al_43, al_44, al_49, al_50, al_51, al_52, al_54, al_55, al_56, al_57, al_58, al_59, al_60, al_61, al_62, al_63, al_64, al_65, al_66, al_67, al_68, al_69, al_70, al_71, al_72, al_73, al_74, al_75, al_76, al_77, al_78, al_79, al_80]; exact vin (by omega) (by decide))), by (first | exact vin (by simp only [al_2, al_3, al_4, al_5, al_7, al_11, al_12, al_13, al_15, al_16, al_17, al_19, al_20, al_21, al_22, al_23, al_24, al_25, al_26, al_28, al_30, al_31, al_32, al_33, al_34, al_36, al_41, al_42, al_43, al_44, al_49, al_50, al_51, al_52, al_54, al_55, al_56, al_57, al_58, al_59, al_60, al_61, al_62, al_63, al_64, al_65, al_66, al_67, al_68, al_69, al_70, al_71, al_72, al_73, al_74, al_75, al_76, al_77, al_78, al_79, al_80]; omega) (by simp only [al_2, al_3, al_4, al_5, al_7, al_11, al_12, al_13, al_15, al_16, al_17, al_19, al_20, al_21, al_22, al_23, al_24, al_25, al_26, al_28, al_30, al_31, al_32, al_33, al_34, al_36, al_41, al_42, al_43, al_44, al_49, al_50, al_51, al_52, al_54, al_55, al_56, al_57, al_58, al_59, al_60, al_61, al_62, al_63, al_64, al_65, al_66, al_67, al_68, al_69, al_70, al_71, al_72, al_73, al_74, al_75, al_76, al_77, al_78, al_79, al_80]; decide) | (simp (disch := omega) only [nL, nI_add, pk_mul, nc, Nat.zero_add, al_2, al_3, al_4, al_5, al_7, al_11, al_12, al_13, al_15, al_16, al_17, al_19, al_20, al_21, al_22, al_23, al_24, al_25, al_26, al_28, al_30, al_31, al_32, al_33, al_34, al_36, al_41, al_42, al_43, al_44, al_49, al_50, al_51, al_52, al_54, al_55, al_56, al_57, al_58, al_59, al_60, al_61, al_62, al_63, al_64, al_65, al_66, al_67, al_68, al_69, al_70, al_71, al_72, al_73, al_74, al_75, al_76, al_77, al_78, al_79, al_80]; exact vin (by omega) (by decide))), fun q3 => ?_, fun q3 => ⟨by (first | exact vin (by simp only [al_2, al_3, al_4, al_5, al_7, al_11, al_12, al_13, al_15, al_16, al_17, al_19, al_20, al_21, al_22, al_23, al_24, al_25, al_26, al_28, al_30, al_31, al_32, al_33, al_34, al_36, al_41, al_42, al_43, al_44, al_49, al_50, al_51, al_52, al_54, al_55, al_56, al_57, al_58, al_59, al_60, al_61, al_62, al_63, al_64, al_65, al_66, al_67, al_68, al_69, al_70, al_71, al_72, al_73, al_74, al_75, al_76, al_77, al_78, al_79, al_80]; omega) (by simp only [al_2, al_3, al_4, al_5, al_7, al_11, al_12, al_13, al_15, al_16, al_17, al_19, al_20, al_21, al_22, al_23, al_24, al_25, al_26, al_28, al_30, al_31, al_32, al_33, al_34, al_36, al_41, al_42, al_43, al_44, al_49, al_50, al_51, al_52, al_54, al_55, al_56, al_57, al_58, al_59, al_60, al_61, al_62, al_63, al_64, al_65, al_66, al_67, al_68, al_69, al_70, al_71, al_72, al_73, al_74, al_75, al_76, al_77, al_78, al_79, al_80]; decide) | (simp (disch := omega) only [nL, nI_add, pk_mul, nc, Nat.zero_add, al_2, al_3, al_4, al_5, al_7, al_11, al_12, al_13, al_15, al_16, al_17, al_19, al_20, al_21, al_22, al_23, al_24, al_25, al_26, al_28, al_30, al_31, al_32, al_33, al_34, al_36, al_41, al_42, al_43, al_44, al_49, al_50, al_51, al_52, al_54, al_55, al_56, al_57, al_58, al_59, al_60, al_61, al_62, al_63, al_64, al_65, al_66, al_67, al_68, al_69, al_70, al_71, al_72, al_73, al_74, al_75, al_76, al_77, al_78, al_79, al_80]; exact vin (by omega) (by decide))), ?_⟩⟩⟩⟩
      · rw [h2, eR] at q
        rw [n_le (by omega) (by omega)] at q
        omega
      · rw [nc (by omega)] at q2 q3
        rw [b1] at q3
        rw [b2] at q2
        rw [if_neg q2, if_neg q3, Int32.add_zero, Int32.sub_zero] at ihx
        show z_wp _ _ _ _ 4 _ _ _
        simp only [nL, nI_add]
        exact ihx
      · rw [nc (by omega)] at q2 q3
        rw [b1] at q3
        rw [b2] at q2
        rw [if_neg q2, if_pos q3, Int32.add_zero] at ihx
        show z_wp _ _ _ _ 4 _ _ _
        simp (disch := omega) only [nL, nI_add, nc, b4]
        exact ihx
      · rw [nc (by omega)] at q2 q3
        rw [b1] at q3
        rw [b2] at q2
        rw [if_pos q2, if_neg q3, Int32.sub_zero] at ihx
        show z_wp _ _ _ _ 4 _ _ _
        simp (disch := omega) only [nL, nI_add, nc, b4]
        exact ihx
      · rw [nc (by omega)] at q2 q3
        rw [b1] at q3
        rw [b2] at q2
        rw [if_pos q2, if_pos q3] at ihx
        show z_wp _ _ _ _ 4 _ _ _
        simp (disch := omega) only [nL, nI_add, nc, b4]
        exact ihx
  exact ⟨rfl, z_go 60 [4] (loop R 0 (by omega))⟩

theorem c_excessOf (d : Nat) {σ : z_M} {N : zN} (h : netD σ N) (hv : NV N) (p : Int32) : z_call (d + 3) k_Md_excessOf [.ref 53, .int p] σ (some (.int (exs N p))) σ := by
  obtain ⟨P, R, G, eP, hP, eR, hR, eG, hG, -⟩ := hv
  obtain ⟨h1, h2, h3, h4⟩ := h
  have eg : gR N = R := by unfold gR; rw [eR, nc (by omega)]
  have cr := c_byGroup (d + 1) σ (exc N p R)
  rw [h3] at cr
  have loop : ∀ (n i : Nat), i + n = R → z_wp (z_call (d + 2)) none k_Md_excessOf (fun r s => r = some (.int (exs N p)) ∧ s = σ) 4 [some (.ref 53), some (.int p), some (.int (exc N p i)), some (.int (nI i))] [] σ := by
    intro n
    induction n with
    | zero =>
      intro i hi
      obtain rfl : i = R := by omega
      refine z_go 60 [4] ⟨fun q => ⟨_, _, cr, by rw [exs, eg], rfl⟩, fun q => ?_⟩
      rw [h2, eR] at q
      exact absurd (Int32.le_refl _) q
    | succ n ih =>
      intro i hi
      obtain ⟨b1, b2, b3, b4⟩ := h4 i (by omega)
      have ihx := ih (i + 1) (by omega)
      rw [exc] at ihx
      refine z_go 60 [4] ⟨fun q => ?_, fun q => ⟨by (first | exact vin (by simp only [al_2, al_3, al_4, al_5, al_7, al_11, al_12, al_13, al_15, al_16, al_17, al_19, al_20, al_21, al_22, al_23, al_24, al_25, al_26, al_28, al_30, al_31, al_32, al_33, al_34, al_36, al_41, al_42, al_43, al_44, al_49, al_50, al_51, al_52, al_54, al_55, al_56, al_57, al_58, al_59, al_60, al_61, al_62, al_63, al_64, al_65, al_66, al_67, al_68, al_69, al_70, al_71, al_72, al_73, al_74, al_75, al_76, al_77, al_78, al_79, al_80]; omega) (by simp only [al_2, al_3, al_4, al_5, al_7, al_11, al_12, al_13, al_15, al_16, al_17, al_19, al_20, al_21, al_22, al_23, al_24, al_25, al_26, al_28, al_30, al_31, al_32, al_33, al_34, al_36, al_41, al_42, al_43, al_44, al_49, al_50, al_51, al_52, al_54, al_55, al_56, al_57, al_58, al_59, al_60, al_61, al_62, al_63, al_64, al_65, al_66, al_67, al_68, al_69, al_70, al_71, al_72, al_73, al_74, al_75, al_76, al_77, al_78, al_79, al_80]; decide) | (simp (disch := omega) only [nL, nI_add, pk_mul, nc, Nat.zero_add, al_2, al_3, al_4, al_5, al_7, al_11, al_12, al_13, al_15, al_16, al_17, al_19, al_20, al_21, al_22, al_23, al_24, al_25, al_26, al_28, al_30, al_31, al_32, al_33, al_34, al_36, al_41, al_42, al_43, al_44, al_49, al_50, al_51, al_52, al_54, al_55, al_56, al_57, al_58, al_59, al_60, al_61, al_62, al_63, al_64, al_65, al_66, al_67, al_68, al_69, al_70, al_71, al_72, al_73, al_74, al_75, al_76, al_77, al_78, al_79, al_80]; exact vin (by omega) (by decide))), fun q2 => ⟨by (first | exact vin (by simp only [al_2, al_3, al_4, al_5, al_7, al_11, al_12, al_13, al_15, al_16, al_17, al_19, al_20, al_21, al_22, al_23, al_24, al_25, al_26, al_28, al_30, al_31, al_32, al_33, al_34, al_36, al_41, al_42, al_43, al_44, al_49, al_50, al_51, al_52, al_54, al_55, al_56, al_57, al_58, al_59, al_60, al_61, al_62, al_63, al_64, al_65, al_66, al_67, al_68, al_69, al_70, al_71, al_72, al_73, al_74, al_75, al_76, al_77, al_78, al_79, al_80]; omega) (by simp only [al_2, al_3, al_4, al_5, al_7, al_11, al_12, al_13, al_15, al_16, al_17, al_19, al_20, al_21, al_22, al_23, al_24, al_25, al_26, al_28, al_30, al_31, al_32, al_33, al_34, al_36, al_41, al_42, al_43, al_44, al_49, al_50, al_51, al_52, al_54, al_55, al_56, al_57, al_58, al_59, al_60, al_61, al_62, al_63, al_64, al_65, al_66, al_67, al_68, al_69, al_70, al_71, al_72, al_73, al_74, al_75, al_76, al_77, al_78, al_79, al_80]; decide) | (simp (disch := omega) only [nL, nI_add, pk_mul, nc, Nat.zero_add, al_2, al_3, al_4, al_5, al_7, al_11, al_12, al_13, al_15, al_16, al_17, al_19, al_20, al_21, al_22, al_23, al_24, al_25, al_26, al_28, al_30, al_31, al_32, al_33, al_34, al_36, al_41, al_42, al_43, al_44, al_49, al_50, al_51, al_52, al_54, al_55, al_56, al_57, al_58, al_59, al_60, al_61, al_62, al_63, al_64, al_65, al_66, al_67, al_68, al_69, al_70, al_71, al_72, al_73, al_74, al_75, al_76, al_77, al_78, al_79, al_80]; exact vin (by omega) (by decide))), fun q3 => ?_, fun q3 => ⟨by (first | exact vin (by simp only [al_2, al_3, al_4, al_5, al_7, al_11, al_12, al_13, al_15, al_16, al_17, al_19, al_20, al_21, al_22, al_23, al_24, al_25, al_26, al_28, al_30, al_31, al_32, al_33, al_34, al_36, al_41, al_42, al_43, al_44, al_49, al_50, al_51, al_52, al_54, al_55, al_56, al_57, al_58, al_59, al_60, al_61, al_62, al_63, al_64, al_65, al_66, al_67, al_68, al_69, al_70, al_71, al_72, al_73, al_74, al_75, al_76, al_77, al_78, al_79, al_80]; omega) (by simp only [al_2, al_3, al_4, al_5, al_7, al_11, al_12, al_13, al_15, al_16, al_17, al_19, al_20, al_21, al_22, al_23, al_24, al_25, al_26, al_28, al_30, al_31, al_32, al_33, al_34, al_36, al_41, al_42, al_43, al_44, al_49, al_50, al_51, al_52, al_54, al_55, al_56, al_57, al_58, al_59, al_60, al_61, al_62, al_63, al_64, al_65, al_66, al_67, al_68, al_69, al_70, al_71, al_72, al_73, al_74, al_75, al_76, al_77, al_78, al_79, al_80]; decide) | (simp (disch := omega) only [nL, nI_add, pk_mul, nc, Nat.zero_add, al_2, al_3, al_4, al_5, al_7, al_11, al_12, al_13, al_15, al_16, al_17, al_19, al_20, al_21, al_22, al_23, al_24, al_25, al_26, al_28, al_30, al_31, al_32, al_33, al_34, al_36, al_41, al_42, al_43, al_44, al_49, al_50, al_51, al_52, al_54, al_55, al_56, al_57, al_58, al_59, al_60, al_61, al_62, al_63, al_64, al_65, al_66, al_67, al_68, al_69, al_70, al_71, al_72, al_73, al_74, al_75, al_76, al_77, al_78, al_79, al_80]; exact vin (by omega) (by decide))), ?_⟩⟩, fun q2 => ⟨by (first | exact vin (by simp only [al_2, al_3, al_4, al_5, al_7, al_11, al_12, al_13, al_15, al_16, al_17, al_19, al_20, al_21, al_22, al_23, al_24, al_25, al_26, al_28, al_30, al_31, al_32, al_33, al_34, al_36, al_41, al_42, al_43, al_44, al_49, al_50, al_51, al_52, al_54, al_55, al_56, al_57, al_58, al_59, al_60, al_61, al_62, al_63, al_64, al_65, al_66, al_67, al_68, al_69, al_70, al_71, al_72, al_73, al_74, al_75, al_76, al_77, al_78, al_79, al_80]; omega) (by simp only [al_2, al_3, al_4, al_5, al_7, al_11, al_12, al_13, al_15, al_16, al_17, al_19, al_20, al_21, al_22, al_23, al_24, al_25, al_26, al_28, al_30, al_31, al_32, al_33, al_34, al_36, al_41, al_42, al_43, al_44, al_49, al_50, al_51, al_52, al_54, al_55, al_56, al_57, al_58, al_59, al_60, al_61, al_62, al_63, al_64, al_65, al_66, al_67, al_68, al_69, al_70, al_71, al_72, al_73, al_74, al_75, al_76, al_77, al_78, al_79, al_80]; decide) | (simp (disch := omega) only [nL, nI_add, pk_mul, nc, Nat.zero_add, al_2, al_3, al_4, al_5, al_7, al_11, al_12, al_13, al_15, al_16, al_17, al_19, al_20, al_21, al_22, al_23, al_24, al_25, al_26, al_28, al_30, al_31, al_32, al_33, al_34, al_36, al_41, al_42, al_43, al_44, al_49, al_50, al_51, al_52, al_54, al_55, al_56, al_57, al_58, al_59, al_60, al_61, al_62, al_63, al_64, al_65, al_66, al_67, al_68, al_69, al_70, al_71, al_72, al_73, al_74, al_75, al_76, al_77, al_78, al_79, al_80]; exact vin (by omega) (by decide))), by (first | exact vin (by simp only [al_2, al_3, al_4, al_5, al_7, al_11, al_12, al_13, al_15, al_16, al_17, al_19, al_20, al_21, al_22, al_23, al_24, al_25, al_26, al_28, al_30, al_31, al_32, al_33, al_34, al_36, al_41, al_42, al_43, al_44, al_49, al_50, al_51, al_52, al_54, al_55, al_56, al_57, al_58, al_59, al_60, al_61, al_62, al_63, al_64, al_65, al_66, al_67, al_68, al_69, al_70, al_71, al_72, al_73, al_74, al_75, al_76, al_77, al_78, al_79, al_80]; omega) (by simp only [al_2, al_3, al_4, al_5, al_7, al_11, al_12, al_13, al_15, al_16, al_17, al_19, al_20, al_21, al_22, al_23, al_24, al_25, al_26, al_28, al_30, al_31, al_32, al_33, al_34, al_36, al_41, al_42, al_43, al_44, al_49, al_50, al_51, al_52, al_54, al_55, al_56, al_57, al_58, al_59, al_60, al_61, al_62, al_63, al_64, al_65, al_66, al_67, al_68, al_69, al_70, al_71, al_72, al_73, al_74, al_75, al_76, al_77, al_78, al_79, al_80]; decide) | (simp (disch := omega) only [nL, nI_add, pk_mul, nc, Nat.zero_add, al_2, al_3, al_4, al_5, al_7, al_11, al_12, al_13, al_15, al_16, al_17, al_19, al_20, al_21, al_22, al_23, al_24, al_25, al_26, al_28, al_30, al_31, al_32, al_33, al_34, al_36, al_41, al_42, al_43, al_44, al_49, al_50, al_51, al_52, al_54, al_55, al_56, al_57, al_58, al_59, al_60, al_61, al_62, al_63, al_64, al_65, al_66, al_67, al_68, al_69, al_70, al_71, al_72, al_73, al_74, al_75, al_76, al_77, al_78, al_79, al_80]; exact vin (by omega) (by decide))), fun q3 => ?_, fun q3 => ⟨by (first | exact vin (by simp only [al_2, al_3, al_4, al_5, al_7, al_11, al_12, al_13, al_15, al_16, al_17, al_19, al_20, al_21, al_22, al_23, al_24, al_25, al_26, al_28, al_30, al_31, al_32, al_33, al_34, al_36, al_41, al_42, al_43, al_44, al_49, al_50, al_51, al_52, al_54, al_55, al_56, al_57, al_58, al_59, al_60, al_61, al_62, al_63, al_64, al_65, al_66, al_67, al_68, al_69, al_70, al_71, al_72, al_73, al_74, al_75, al_76, al_77, al_78, al_79, al_80]; omega) (by simp only [al_2, al_3, al_4, al_5, al_7, al_11, al_12, al_13, al_15, al_16, al_17, al_19, al_20, al_21, al_22, al_23, al_24, al_25, al_26, al_28, al_30, al_31, al_32, al_33, al_34, al_36, al_41, al_42, al_43, al_44, al_49, al_50, al_51, al_52, al_54, al_55, al_56, al_57, al_58, al_59, al_60, al_61, al_62, al_63, al_64, al_65, al_66, al_67, al_68, al_69, al_70, al_71, al_72, al_73, al_74, al_75, al_76, al_77, al_78, al_79, al_80]; decide) | (simp (disch := omega) only [nL, nI_add, pk_mul, nc, Nat.zero_add, al_2, al_3, al_4, al_5, al_7, al_11, al_12, al_13, al_15, al_16, al_17, al_19, al_20, al_21, al_22, al_23, al_24, al_25, al_26, al_28, al_30, al_31, al_32, al_33, al_34, al_36, al_41, al_42, al_43, al_44, al_49, al_50, al_51, al_52, al_54, al_55, al_56, al_57, al_58, al_59, al_60, al_61, al_62, al_63, al_64, al_65, al_66, al_67, al_68, al_69, al_70, al_71, al_72, al_73, al_74, al_75, al_76, al_77, al_78, al_79, al_80]; exact vin (by omega) (by decide))), ?_⟩⟩⟩⟩
      · rw [h2, eR] at q
        rw [n_le (by omega) (by omega)] at q
        omega
      · rw [nc (by omega)] at q2 q3
        rw [b1] at q3
        rw [b2] at q2
        rw [if_neg q2, if_neg q3] at ihx
        show z_wp _ _ _ _ 4 _ _ _
        simp only [nL, nI_add]
        exact ihx
      · rw [nc (by omega)] at q2 q3
        rw [b1] at q3
        rw [b2] at q2
        rw [if_neg q2, if_pos q3] at ihx
        show z_wp _ _ _ _ 4 _ _ _
        simp (disch := omega) only [nL, nI_add, nc, b4]
        exact ihx
      · rw [nc (by omega)] at q2 q3
        rw [b1] at q3
        rw [b2] at q2
        rw [if_pos q2, if_neg q3] at ihx
        show z_wp _ _ _ _ 4 _ _ _
        simp (disch := omega) only [nL, nI_add, nc, b4]
        exact ihx
      · rw [nc (by omega)] at q2 q3
        rw [b1] at q3
        rw [b2] at q2
        rw [if_pos q2, if_pos q3] at ihx
        show z_wp _ _ _ _ 4 _ _ _
        simp (disch := omega) only [nL, nI_add, nc, b4]
        exact ihx
  exact ⟨rfl, z_go 60 [4] (loop R 0 (by omega))⟩
def sExcess (p : Int32) (B : zB) : Int32 × zB := if hasP (nP B.1) p = 0 then oTell (-1000001) B else (exs B.1 p, B)
theorem x_excess (d : Nat) {σ : z_M} {B : zB} (h : RepC σ B) (hv : VB B) (p : Int32) : opC (d + 5) k_RF_excess [.ref 0, .int p] σ (sExcess p B) := by
  have ca := c_hasPost (d + 3) σ p
  rw [h.1.1] at ca
  refine z_metC ⟨rfl, z_go 40 [] ⟨_, _, ca, fun q => ?_, fun q => ?_⟩⟩
  · rw [sExcess, if_neg q]
    exact ⟨_, _, c_surplus (d + 1) h.1 hv.1 p, rfl, h, kC.rf⟩
  · obtain ⟨σt, ht, hRt, hkt⟩ := c_tell (d + 3) h (-1000001)
    rw [sExcess, if_pos q]
    exact ⟨_, σt, ht, rfl, hRt, hkt⟩
theorem y_excess (d : Nat) {σ : z_M} {B : zB} (h : RepD σ B) (hv : VB B) (p : Int32) : opD (d + 5) k_Md_excess [.ref 53, .int p] σ (sExcess p B) := by
  have ca := c_isPost (d + 3) σ p
  rw [h.1.1] at ca
  refine z_metD ⟨rfl, z_go 40 [] ⟨_, _, ca, fun q => ?_, fun q => ?_⟩⟩
  · obtain ⟨σt, ht, hRt, hkt⟩ := c_finding (d + 3) h (-1000001)
    rw [sExcess, if_pos q]
    exact ⟨_, σt, ht, rfl, hRt, hkt⟩
  · rw [sExcess, if_neg q]
    exact ⟨_, _, c_excessOf (d + 1) h.1 hv.1 p, rfl, h, kD.rf⟩
theorem v_excess {B : zB} (h : VB B) (p : Int32) : VB (sExcess p B).2 := by
  unfold sExcess
  split
  · exact h.tell _
  · exact h
def offn (N : zN) : Nat → Nat
  | 0 => 0
  | i + 1 => offn N i + (if exs N (nI i) = 0 then 0 else 1)
theorem offn_le (N : zN) : ∀ n, offn N n ≤ n
  | 0 => Nat.le_refl _
  | n + 1 => by
    have := offn_le N n
    rw [offn]
    split <;> omega
theorem c_offPosts (d : Nat) {σ : z_M} {N : zN} (h : netC σ N) (hv : NV N) : z_call (d + 4) k_Net_offPosts [.ref 1] σ (some (.int (nI (offn N (gP N))))) σ := by
  obtain ⟨P, R, G, eP, hP, hrest⟩ := id hv
  have eg : gP N = P := by unfold gP; rw [eP, nc (by omega)]
  have loop : ∀ (n i : Nat), i + n = P → z_wp (z_call (d + 3)) none k_Net_offPosts (fun r s => r = some (.int (nI (offn N (gP N)))) ∧ s = σ) 4 [some (.ref 1), some (.int (nI (offn N i))), some (.int (nI i))] [] σ := by
    intro n
    induction n with
    | zero =>
      intro i hi
      obtain rfl : i = P := by omega
      refine z_go 60 [4] ⟨fun q => ⟨by rw [eg], rfl⟩, fun q => ?_⟩
      rw [h.1, eP] at q
      exact absurd (Int32.le_refl _) q
    | succ n ih =>
      intro i hi
      have ihx := ih (i + 1) (by omega)
      rw [offn] at ihx
      refine z_go 60 [4] ⟨fun q => ?_, fun q => ⟨_, _, c_surplus d h hv (nI i), fun q2 => ?_, fun q2 => ?_⟩⟩
      · rw [h.1, eP, n_le (by omega) (by omega)] at q
        omega
      · rw [if_pos q2, Nat.add_zero] at ihx
        show z_wp _ _ _ _ 4 _ _ _
        simp only [nL, nI_add]
        exact ihx
      · rw [if_neg q2] at ihx
        show z_wp _ _ _ _ 4 _ _ _
        simp only [nL, nI_add]
        exact ihx
  exact ⟨rfl, z_go 60 [4] (loop P 0 (by omega))⟩
theorem c_off (d : Nat) {σ : z_M} {N : zN} (h : netD σ N) (hv : NV N) : z_call (d + 4) k_Md_off [.ref 53] σ (some (.int (nI (offn N (gP N))))) σ := by
  obtain ⟨P, R, G, eP, hP, hrest⟩ := id hv
  have eg : gP N = P := by unfold gP; rw [eP, nc (by omega)]
  have loop : ∀ (n i : Nat), i + n = P → z_wp (z_call (d + 3)) none k_Md_off (fun r s => r = some (.int (nI (offn N (gP N)))) ∧ s = σ) 4 [some (.ref 53), some (.int (nI (offn N i))), some (.int (nI i))] [] σ := by
    intro n
    induction n with
    | zero =>
      intro i hi
      obtain rfl : i = P := by omega
      refine z_go 60 [4] ⟨fun q => ⟨by rw [eg], rfl⟩, fun q => ?_⟩
      rw [h.1, eP] at q
      exact absurd (Int32.le_refl _) q
    | succ n ih =>
      intro i hi
      have ihx := ih (i + 1) (by omega)
      rw [offn] at ihx
      refine z_go 60 [4] ⟨fun q => ?_, fun q => ⟨_, _, c_excessOf d h hv (nI i), fun q2 => ?_, fun q2 => ?_⟩⟩
      · rw [h.1, eP, n_le (by omega) (by omega)] at q
        omega
      · rw [if_pos q2] at ihx
        show z_wp _ _ _ _ 4 _ _ _
        simp only [nL, nI_add]
        exact ihx
      · rw [if_neg q2] at ihx
        show z_wp _ _ _ _ 4 _ _ _
        simp only [nL, nI_add]
        exact ihx
  exact ⟨rfl, z_go 60 [4] (loop P 0 (by omega))⟩
def sOff (B : zB) : Int32 × zB := (nI (offn B.1 (gP B.1)), B)
theorem x_off (d : Nat) {σ : z_M} {B : zB} (h : RepC σ B) (hv : VB B) : opC (d + 5) k_RF_off [.ref 0] σ (sOff B) :=
  z_metC ⟨rfl, z_go 40 [] ⟨_, _, c_offPosts d h.1 hv.1, rfl, h, kC.rf⟩⟩
theorem y_off (d : Nat) {σ : z_M} {B : zB} (h : RepD σ B) (hv : VB B) : opD (d + 5) k_Md_off [.ref 53] σ (sOff B) := ⟨σ, c_off (d + 1) h.1 hv.1, h, kD.rf⟩
def wh (N : zN) : Int32 := if offn N (gP N) = 0 ∧ ∀ i, i < gR N → ¬ bg (nG N) (nV N i) = 0 then 1 else 0
theorem c_isWhole (d : Nat) {σ : z_M} {N : zN} (h : netC σ N) (hv : NV N) : z_call (d + 5) k_Net_isWhole [.ref 1] σ (some (.int (wh N))) σ := by
  obtain ⟨P, R, G, eP, hP, eR, hR, eG, hG, hrest⟩ := id hv
  have egP : gP N = P := by unfold gP; rw [eP, nc (by omega)]
  have eg : gR N = R := by unfold gR; rw [eR, nc (by omega)]
  have ho := offn_le N (gP N)
  have loop : ∀ (n i : Nat), i + n = R → (∀ j, j < i → ¬ bg (nG N) (nV N j) = 0) → z_wp (z_call (d + 4)) none k_Net_isWhole (fun r s => r = some (.int (wh N)) ∧ s = σ) 2 [some (.ref 1), some (.int (nI i))] [] σ := by
    intro n
    induction n with
    | zero =>
      intro i hi hall
      obtain rfl : i = R := by omega
      refine z_go 60 [2] ⟨fun q => ⟨_, _, c_offPosts d h hv, fun q2 => ⟨Or.inl rfl, ?_, rfl⟩, fun q2 => ⟨Or.inr rfl, ?_, rfl⟩⟩, fun q => ?_⟩
      · rw [wh, if_neg]
        rintro ⟨z, -⟩
        rw [z] at q2
        exact q2 rfl
      · rw [wh, if_pos]
        refine ⟨?_, fun j hj => hall j (by omega)⟩
        have q2 : nI (offn N (gP N)) = nI 0 := q2
        rw [n_eq (by omega) (by omega)] at q2
        exact q2
      · rw [h.2.1, eR] at q
        exact absurd (Int32.le_refl _) q
    | succ n ih =>
      intro i hi hall
      have cr := c_rest (d + 2) σ (h.2.2.1.trans eG) (by omega) (nV N i)
      rw [h.2.2.1] at cr
      have b4 := (h.2.2.2 i (by omega)).2.2.2
      refine z_go 60 [2] ⟨fun q => ?_, fun q => ⟨by (first | exact vin (by simp only [al_2, al_3, al_4, al_5, al_7, al_11, al_12, al_13, al_15, al_16, al_17, al_19, al_20, al_21, al_22, al_23, al_24, al_25, al_26, al_28, al_30, al_31, al_32, al_33, al_34, al_36, al_41, al_42, al_43, al_44, al_49, al_50, al_51, al_52, al_54, al_55, al_56, al_57, al_58, al_59, al_60, al_61, al_62, al_63, al_64, al_65, al_66, al_67, al_68, al_69, al_70, al_71, al_72, al_73, al_74, al_75, al_76, al_77, al_78, al_79, al_80]; omega) (by simp only [al_2, al_3, al_4, al_5, al_7, al_11, al_12, al_13, al_15, al_16, al_17, al_19, al_20, al_21, al_22, al_23, al_24, al_25, al_26, al_28, al_30, al_31, al_32, al_33, al_34, al_36, al_41, al_42, al_43, al_44, al_49, al_50, al_51, al_52, al_54, al_55, al_56, al_57, al_58, al_59, al_60, al_61, al_62, al_63, al_64, al_65, al_66, al_67, al_68, al_69, al_70, al_71, al_72, al_73, al_74, al_75, al_76, al_77, al_78, al_79, al_80]; decide) | (simp (disch := omega) only [nL, nI_add, pk_mul, nc, Nat.zero_add, al_2, al_3, al_4, al_5, al_7, al_11, al_12, al_13, al_15, al_16, al_17, al_19, al_20, al_21, al_22, al_23, al_24, al_25, al_26, al_28, al_30, al_31, al_32, al_33, al_34, al_36, al_41, al_42, al_43, al_44, al_49, al_50, al_51, al_52, al_54, al_55, al_56, al_57, al_58, al_59, al_60, al_61, al_62, al_63, al_64, al_65, al_66, al_67, al_68, al_69, al_70, al_71, al_72, al_73, al_74, al_75, al_76, al_77, al_78, al_79, al_80]; exact vin (by omega) (by decide))), ?_⟩⟩
      · rw [h.2.1, eR, n_le (by omega) (by omega)] at q
        omega
      · simp (disch := omega) only [nc, b4]
        refine ⟨_, _, cr, fun q2 => ?_, fun q2 => ⟨Or.inl rfl, ?_, rfl⟩⟩
        · show z_wp _ _ _ _ 2 _ _ _
          simp only [nL, nI_add]
          refine ih (i + 1) (by omega) (fun j hj => ?_)
          rcases Nat.lt_or_ge j i with z | z
          · exact hall j z
          · obtain rfl : j = i := by omega
            exact q2
        · rw [wh, if_neg]
          rintro ⟨-, z⟩
          exact z i (by omega) q2
  exact ⟨rfl, z_go 60 [2] (loop R 0 (by omega) (fun j hj => by omega))⟩
theorem wh_01 (N : zN) : wh N = 0 ∨ wh N = 1 := by
  unfold wh
  split
  · exact Or.inr rfl
  · exact Or.inl rfl
def sWhole (B : zB) : Int32 × zB := (wh B.1, B)
theorem x_whole (d : Nat) {σ : z_M} {B : zB} (h : RepC σ B) (hv : VB B) : opC (d + 6) k_RF_whole [.ref 0] σ (sWhole B) := by
  refine z_metC ⟨rfl, z_go 40 [] ⟨_, _, c_isWhole d h.1 hv.1, fun q => ⟨?_, h, kC.rf⟩, fun q => ⟨?_, h, kC.rf⟩⟩⟩
  · rw [sWhole, q]
  · rcases wh_01 B.1 with z | z
    · exact absurd z q
    · rw [sWhole, z]
theorem c_mwhole (d : Nat) {σ : z_M} {N : zN} (h : netD σ N) (hv : NV N) : z_call (d + 6) k_Md_whole [.ref 53] σ (some (.int (wh N))) σ := by
  obtain ⟨P, R, G, eP, hP, eR, hR, eG, hG, hrest⟩ := id hv
  have egP : gP N = P := by unfold gP; rw [eP, nc (by omega)]
  have eg : gR N = R := by unfold gR; rw [eR, nc (by omega)]
  have ho := offn_le N (gP N)
  have loop : ∀ (n i : Nat) (v : Int32), i + n = R → (v = if offn N (gP N) = 0 ∧ ∀ j, j < i → ¬ bg (nG N) (nV N j) = 0 then 1 else 0) → z_wp (z_call (d + 5)) none k_Md_whole (fun r s => r = some (.int (wh N)) ∧ s = σ) 15 [some (.ref 53), some (.int v), some (.int (nI i))] [] σ := by
    intro n
    induction n with
    | zero =>
      intro i v hi hvv
      obtain rfl : i = R := by omega
      refine z_go 60 [15] ⟨fun q => ⟨fun q2 => ⟨?_, rfl⟩, fun q2 => ⟨?_, rfl⟩⟩, fun q => ?_⟩
      · rw [wh, eg, ← hvv, q2]
      · rw [wh, eg, ← hvv]
        split at hvv
        · rw [hvv]
        · exact absurd hvv q2
      · rw [h.2.1, eR] at q
        exact absurd (Int32.le_refl _) q
    | succ n ih =>
      intro i v hi hvv
      have cr := c_byGroup (d + 4) σ (nV N i)
      rw [h.2.2.1] at cr
      have b4 := (h.2.2.2 i (by omega)).2.2.2
      refine z_go 60 [15] ⟨fun q => ?_, fun q => ⟨by (first | exact vin (by simp only [al_2, al_3, al_4, al_5, al_7, al_11, al_12, al_13, al_15, al_16, al_17, al_19, al_20, al_21, al_22, al_23, al_24, al_25, al_26, al_28, al_30, al_31, al_32, al_33, al_34, al_36, al_41, al_42, al_43, al_44, al_49, al_50, al_51, al_52, al_54, al_55, al_56, al_57, al_58, al_59, al_60, al_61, al_62, al_63, al_64, al_65, al_66, al_67, al_68, al_69, al_70, al_71, al_72, al_73, al_74, al_75, al_76, al_77, al_78, al_79, al_80]; omega) (by simp only [al_2, al_3, al_4, al_5, al_7, al_11, al_12, al_13, al_15, al_16, al_17, al_19, al_20, al_21, al_22, al_23, al_24, al_25, al_26, al_28, al_30, al_31, al_32, al_33, al_34, al_36, al_41, al_42, al_43, al_44, al_49, al_50, al_51, al_52, al_54, al_55, al_56, al_57, al_58, al_59, al_60, al_61, al_62, al_63, al_64, al_65, al_66, al_67, al_68, al_69, al_70, al_71, al_72, al_73, al_74, al_75, al_76, al_77, al_78, al_79, al_80]; decide) | (simp (disch := omega) only [nL, nI_add, pk_mul, nc, Nat.zero_add, al_2, al_3, al_4, al_5, al_7, al_11, al_12, al_13, al_15, al_16, al_17, al_19, al_20, al_21, al_22, al_23, al_24, al_25, al_26, al_28, al_30, al_31, al_32, al_33, al_34, al_36, al_41, al_42, al_43, al_44, al_49, al_50, al_51, al_52, al_54, al_55, al_56, al_57, al_58, al_59, al_60, al_61, al_62, al_63, al_64, al_65, al_66, al_67, al_68, al_69, al_70, al_71, al_72, al_73, al_74, al_75, al_76, al_77, al_78, al_79, al_80]; exact vin (by omega) (by decide))), ?_⟩⟩
      · rw [h.2.1, eR, n_le (by omega) (by omega)] at q
        omega
      · simp (disch := omega) only [nc, b4]
        refine ⟨_, _, cr, fun q2 => ?_, fun q2 => ?_⟩
        · show z_wp _ _ _ _ 15 _ _ _
          simp only [nL, nI_add]
          refine ih (i + 1) _ (by omega) ?_
          rw [if_neg (by rintro ⟨-, z⟩; exact z i (by omega) q2)]
          show v &&& 0 = 0
          exact Int32.and_zero
        · show z_wp _ _ _ _ 15 _ _ _
          simp only [nL, nI_add]
          refine ih (i + 1) _ (by omega) ?_
          show v &&& 1 = _
          rw [hvv]
          by_cases z : offn N (gP N) = 0 ∧ ∀ j, j < i → ¬ bg (nG N) (nV N j) = 0
          · have z2 : offn N (gP N) = 0 ∧ ∀ j, j < i + 1 → ¬ bg (nG N) (nV N j) = 0 := ⟨z.1, fun j hj => by
              rcases Nat.lt_or_ge j i with y | y
              · exact z.2 j y
              · obtain rfl : j = i := by omega
                exact q2⟩
            simp only [if_pos z, if_pos z2]
            rfl
          · have z2 : ¬ (offn N (gP N) = 0 ∧ ∀ j, j < i + 1 → ¬ bg (nG N) (nV N j) = 0) := fun y => z ⟨y.1, fun j hj => y.2 j (by omega)⟩
            simp only [if_neg z, if_neg z2]
            rfl
  refine ⟨rfl, z_go 60 [15] ⟨_, _, c_off (d + 1) h hv, fun q => ?_, fun q => ?_⟩⟩
  · refine loop R 0 0 (by omega) ?_
    rw [if_neg]
    rintro ⟨z, -⟩
    rw [z] at q
    exact q rfl
  · refine loop R 0 1 (by omega) ?_
    have q : nI (offn N (gP N)) = nI 0 := q
    rw [n_eq (by omega) (by omega)] at q
    rw [if_pos ⟨q, fun j hj => by omega⟩]
theorem y_whole (d : Nat) {σ : z_M} {B : zB} (h : RepD σ B) (hv : VB B) : opD (d + 6) k_Md_whole [.ref 53] σ (sWhole B) := ⟨σ, c_mwhole d h.1 hv.1, h, kD.rf⟩
