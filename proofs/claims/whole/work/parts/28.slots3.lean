/-! slots: add, times, as -/
def setN (N : zN) (f : Nat → Int32) : zN := (N.1, nS N, nE N, nD N, fun i => if i < gR N then f i else nV N i)
def oFit (f : Nat → Int32) (B : zB) : Int32 × zB := if ∀ i, i < gR B.1 → ¬ fit (f i) = 0 then oAct 1 (setN B.1 f) B else oTell (-1000005) B
def sAdd (s : Int32) (B : zB) : Int32 × zB := if refS s B = 0 then oFit (fun i => nV B.1 i + B.2.2.1 s.toNatClampNeg (3 + i)) B else oTell (refS s B) B
def sTimes (c : Int32) (B : zB) : Int32 × zB := if c < -10 then oTell (-1000001) B else if c ≤ 10 then oFit (fun i => nV B.1 i * c) B else oTell (-1000001) B
theorem v_oFit {B : zB} (h : VB B) (f : Nat → Int32) : VB (oFit f B).2 := by
  unfold oFit
  split
  · rename_i q
    obtain ⟨P, R, G, eP, hP, eR, hR, eG, hG, hi⟩ := id h.1
    have eg : gR B.1 = R := by unfold gR; rw [eR, nc (by omega)]
    refine h.act _ ⟨P, R, G, eP, hP, eR, hR, eG, hG, fun i hi2 => ?_⟩
    obtain ⟨x, y, -⟩ := hi i hi2
    refine ⟨x, y, ?_⟩
    simp only [setN, nV, eg]
    rw [if_pos hi2]
    exact fit_rng (q i (by omega))
  · exact h.tell _
theorem v_add {B : zB} (h : VB B) (s : Int32) : VB (sAdd s B).2 := by
  unfold sAdd
  split
  · exact v_oFit h _
  · exact h.tell _
theorem v_times {B : zB} (h : VB B) (c : Int32) : VB (sTimes c B).2 := by
  unfold sTimes
  split
  · exact h.tell _
  · split
    · exact v_oFit h _
    · exact h.tell _
theorem netC_set {σ σ' : z_M} {N : zN} (h : netC σ N) (hf : fr [5] σ σ') {f : Nat → Int32} (h5 : ∀ k, k < 10 → σ'.1 5 k = if k < gR N then f k else nV N k) : netC σ' (setN N f) := by
  refine ⟨by rw [hf.at (by decide)]; exact h.1, by rw [hf.at (by decide)]; exact h.2.1, by rw [hf.at (by decide)]; exact h.2.2.1, fun k hk => ?_⟩
  obtain ⟨b1, b2, b3, b4⟩ := h.2.2.2 k hk
  rw [hf.at (by decide), hf.at (by decide), hf.at (by decide), h5 k hk]
  exact ⟨b1, b2, b3, rfl⟩
theorem netD_set {σ σ' : z_M} {N : zN} (h : netD σ N) (hf : fr [57] σ σ') {f : Nat → Int32} (h5 : ∀ k, k < 10 → σ'.1 57 k = if k < gR N then f k else nV N k) : netD σ' (setN N f) := by
  refine ⟨by rw [hf.at (by decide)]; exact h.1, by rw [hf.at (by decide)]; exact h.2.1, by rw [hf.at (by decide)]; exact h.2.2.1, fun k hk => ?_⟩
  obtain ⟨b1, b2, b3, b4⟩ := h.2.2.2 k hk
  rw [hf.at (by decide), hf.at (by decide), hf.at (by decide), h5 k hk]
  exact ⟨b1, b2, b3, rfl⟩
theorem x_add_0 (d : Nat) {σ : z_M} {B : zB} (h : RepC σ B) (hv : VB B) (h0 : ¬ B.2.2.1 0 0 = -1) (h2 : B.2.2.1 0 2 = nR B.1) : opC (d + 5) k_RF_add [.ref 0, .int 0] σ (sAdd 0 B) := by
  obtain ⟨P, R, G, eP, hP, eR, hR, -⟩ := hv.1
  have eg : gR B.1 = R := by unfold gR; rw [eR, nc (by omega)]
  have hr : refS 0 B = 0 := by
    unfold refS
    rw [if_neg (by decide), tc_0, if_neg h0, if_pos h2]
  obtain ⟨σ1, hc, hN1, hs1, hk, fin⟩ := c_beginB (d + 1) h
  rw [sAdd, if_pos hr, tc_0]
  have c4 : ∀ i, i < R → σ.1 41 i = B.2.2.1 0 (3 + i) := by
    intro i hi
    rcases h.2.2.1 0 (by decide) with ⟨a, b⟩ | ⟨a, b, c1, c2, c3, c4⟩
    · exact absurd a h0
    · exact c4 i (by omega) (by rw [h2, eR, n_lt (by omega) (by omega)]; exact hi)
  have loop2 : ∀ (n i : Nat) (σi : z_M), i + n = R → fr [5] σ1 σi → (∀ k, k < 10 → σi.1 5 k = if k < i then nV B.1 k + B.2.2.1 0 (3 + k) else nV B.1 k) →
      z_wp (z_call (d + 4)) none k_RF_add (pC σ (oAct 1 (setN B.1 (fun i => nV B.1 i + B.2.2.1 0 (3 + i))) B)) 82 [some (.ref 0), some (.int 0), some (.int (refS 0 B)), some (.ref 41), some (.int (nI i))] [] σi := by
    intro n
    induction n with
    | zero =>
      intro i σi hi hf k3
      obtain rfl : i = R := by omega
      have e1 : σi.1 1 1 = nI i := by rw [hf.at (by decide), hN1.2.1, eR]
      refine z_go 60 [29, 82] ⟨fun q => ⟨rfl, fin _ _ _ (hf.wk _ (by decide)) (netC_set hN1 hf (by rw [eg]; exact k3))⟩, fun q => ?_⟩
      rw [e1] at q
      exact absurd (Int32.le_refl _) q
    | succ n ih =>
      intro i σi hi hf k3
      have e1 : σi.1 1 1 = nI R := by rw [hf.at (by decide), hN1.2.1, eR]
      refine z_go 60 [29, 82] ⟨fun q => ?_, fun q => ⟨by (first | exact vin (by simp only [al_2, al_3, al_4, al_5, al_7, al_11, al_12, al_13, al_15, al_16, al_17, al_19, al_20, al_21, al_22, al_23, al_24, al_25, al_26, al_28, al_30, al_31, al_32, al_33, al_34, al_36, al_41, al_42, al_43, al_44, al_49, al_50, al_51, al_52, al_54, al_55, al_56, al_57, al_58, al_59, al_60, al_61, al_62, al_63, al_64, al_65, al_66, al_67, al_68, al_69, al_70, al_71, al_72, al_73, al_74, al_75, al_76, al_77, al_78, al_79, al_80]; omega) (by simp only [al_2, al_3, al_4, al_5, al_7, al_11, al_12, al_13, al_15, al_16, al_17, al_19, al_20, al_21, al_22, al_23, al_24, al_25, al_26, al_28, al_30, al_31, al_32, al_33, al_34, al_36, al_41, al_42, al_43, al_44, al_49, al_50, al_51, al_52, al_54, al_55, al_56, al_57, al_58, al_59, al_60, al_61, al_62, al_63, al_64, al_65, al_66, al_67, al_68, al_69, al_70, al_71, al_72, al_73, al_74, al_75, al_76, al_77, al_78, al_79, al_80]; decide) | (simp (disch := omega) only [nL, nI_add, pk_mul, nc, Nat.zero_add, al_2, al_3, al_4, al_5, al_7, al_11, al_12, al_13, al_15, al_16, al_17, al_19, al_20, al_21, al_22, al_23, al_24, al_25, al_26, al_28, al_30, al_31, al_32, al_33, al_34, al_36, al_41, al_42, al_43, al_44, al_49, al_50, al_51, al_52, al_54, al_55, al_56, al_57, al_58, al_59, al_60, al_61, al_62, al_63, al_64, al_65, al_66, al_67, al_68, al_69, al_70, al_71, al_72, al_73, al_74, al_75, al_76, al_77, al_78, al_79, al_80]; exact vin (by omega) (by decide))), by (first | exact vin (by simp only [al_2, al_3, al_4, al_5, al_7, al_11, al_12, al_13, al_15, al_16, al_17, al_19, al_20, al_21, al_22, al_23, al_24, al_25, al_26, al_28, al_30, al_31, al_32, al_33, al_34, al_36, al_41, al_42, al_43, al_44, al_49, al_50, al_51, al_52, al_54, al_55, al_56, al_57, al_58, al_59, al_60, al_61, al_62, al_63, al_64, al_65, al_66, al_67, al_68, al_69, al_70, al_71, al_72, al_73, al_74, al_75, al_76, al_77, al_78, al_79, al_80]; omega) (by simp only [al_2, al_3, al_4, al_5, al_7, al_11, al_12, al_13, al_15, al_16, al_17, al_19, al_20, al_21, al_22, al_23, al_24, al_25, al_26, al_28, al_30, al_31, al_32, al_33, al_34, al_36, al_41, al_42, al_43, al_44, al_49, al_50, al_51, al_52, al_54, al_55, al_56, al_57, al_58, al_59, al_60, al_61, al_62, al_63, al_64, al_65, al_66, al_67, al_68, al_69, al_70, al_71, al_72, al_73, al_74, al_75, al_76, al_77, al_78, al_79, al_80]; decide) | (simp (disch := omega) only [nL, nI_add, pk_mul, nc, Nat.zero_add, al_2, al_3, al_4, al_5, al_7, al_11, al_12, al_13, al_15, al_16, al_17, al_19, al_20, al_21, al_22, al_23, al_24, al_25, al_26, al_28, al_30, al_31, al_32, al_33, al_34, al_36, al_41, al_42, al_43, al_44, al_49, al_50, al_51, al_52, al_54, al_55, al_56, al_57, al_58, al_59, al_60, al_61, al_62, al_63, al_64, al_65, al_66, al_67, al_68, al_69, al_70, al_71, al_72, al_73, al_74, al_75, al_76, al_77, al_78, al_79, al_80]; exact vin (by omega) (by decide))), by (first | exact vin (by simp only [al_2, al_3, al_4, al_5, al_7, al_11, al_12, al_13, al_15, al_16, al_17, al_19, al_20, al_21, al_22, al_23, al_24, al_25, al_26, al_28, al_30, al_31, al_32, al_33, al_34, al_36, al_41, al_42, al_43, al_44, al_49, al_50, al_51, al_52, al_54, al_55, al_56, al_57, al_58, al_59, al_60, al_61, al_62, al_63, al_64, al_65, al_66, al_67, al_68, al_69, al_70, al_71, al_72, al_73, al_74, al_75, al_76, al_77, al_78, al_79, al_80]; omega) (by simp only [al_2, al_3, al_4, al_5, al_7, al_11, al_12, al_13, al_15, al_16, al_17, al_19, al_20, al_21, al_22, al_23, al_24, al_25, al_26, al_28, al_30, al_31, al_32, al_33, al_34, al_36, al_41, al_42, al_43, al_44, al_49, al_50, al_51, al_52, al_54, al_55, al_56, al_57, al_58, al_59, al_60, al_61, al_62, al_63, al_64, al_65, al_66, al_67, al_68, al_69, al_70, al_71, al_72, al_73, al_74, al_75, al_76, al_77, al_78, al_79, al_80]; decide) | (simp (disch := omega) only [nL, nI_add, pk_mul, nc, Nat.zero_add, al_2, al_3, al_4, al_5, al_7, al_11, al_12, al_13, al_15, al_16, al_17, al_19, al_20, al_21, al_22, al_23, al_24, al_25, al_26, al_28, al_30, al_31, al_32, al_33, al_34, al_36, al_41, al_42, al_43, al_44, al_49, al_50, al_51, al_52, al_54, al_55, al_56, al_57, al_58, al_59, al_60, al_61, al_62, al_63, al_64, al_65, al_66, al_67, al_68, al_69, al_70, al_71, al_72, al_73, al_74, al_75, al_76, al_77, al_78, al_79, al_80]; exact vin (by omega) (by decide))), ?_⟩⟩
      · rw [e1] at q
        simp (disch := omega) only [nL, nI_add, pk_mul, n_le, n_lt, n_eq] at q
        omega
      · show z_wp _ _ _ _ 82 _ _ _
        simp (disch := omega) only [nL, nI_add, nc]
        refine ih (i + 1) _ (by omega) (fr.wr hf (by decide)) (fun k hk2 => ?_)
        by_cases e : k = i
        · subst e
          rw [wr_s, if_pos (by omega), k3 k hk2, if_neg (by omega), hf.at (by decide), hk _ (by decide) (by decide) (by decide), c4 k (by omega)]
        · rw [wr_k e, k3 k hk2]
          by_cases e2 : k < i
          · rw [if_pos e2, if_pos (by omega)]
          · rw [if_neg e2, if_neg (by omega)]
  have loop : ∀ (n i : Nat), i + n = R → (∀ k, k < i → ¬ fit (nV B.1 k + B.2.2.1 0 (3 + k)) = 0) →
      z_wp (z_call (d + 4)) none k_RF_add (pC σ (oFit (fun i => nV B.1 i + B.2.2.1 0 (3 + i)) B)) 29 [some (.ref 0), some (.int 0), some (.int (refS 0 B)), some (.ref 41), some (.int (nI i))] [] σ := by
    intro n
    induction n with
    | zero =>
      intro i hi k3
      obtain rfl : i = R := by omega
      refine z_go 60 [29, 82] ⟨fun q => ⟨σ1, hc, ?_⟩, fun q => ?_⟩
      · rw [oFit, if_pos (fun k hk2 => k3 k (by omega))]
        refine loop2 i 0 σ1 (by omega) fr.rf (fun k hk2 => ?_)
        rw [if_neg (by omega)]
        exact (hN1.2.2.2 k hk2).2.2.2
      · rw [h.1.2.1, eR] at q
        exact absurd (Int32.le_refl _) q
    | succ n ih =>
      intro i hi k3
      have b4 := (h.1.2.2.2 i (by omega)).2.2.2
      refine z_go 60 [29, 82] ⟨fun q => ?_, fun q => ⟨by (first | exact vin (by simp only [al_2, al_3, al_4, al_5, al_7, al_11, al_12, al_13, al_15, al_16, al_17, al_19, al_20, al_21, al_22, al_23, al_24, al_25, al_26, al_28, al_30, al_31, al_32, al_33, al_34, al_36, al_41, al_42, al_43, al_44, al_49, al_50, al_51, al_52, al_54, al_55, al_56, al_57, al_58, al_59, al_60, al_61, al_62, al_63, al_64, al_65, al_66, al_67, al_68, al_69, al_70, al_71, al_72, al_73, al_74, al_75, al_76, al_77, al_78, al_79, al_80]; omega) (by simp only [al_2, al_3, al_4, al_5, al_7, al_11, al_12, al_13, al_15, al_16, al_17, al_19, al_20, al_21, al_22, al_23, al_24, al_25, al_26, al_28, al_30, al_31, al_32, al_33, al_34, al_36, al_41, al_42, al_43, al_44, al_49, al_50, al_51, al_52, al_54, al_55, al_56, al_57, al_58, al_59, al_60, al_61, al_62, al_63, al_64, al_65, al_66, al_67, al_68, al_69, al_70, al_71, al_72, al_73, al_74, al_75, al_76, al_77, al_78, al_79, al_80]; decide) | (simp (disch := omega) only [nL, nI_add, pk_mul, nc, Nat.zero_add, al_2, al_3, al_4, al_5, al_7, al_11, al_12, al_13, al_15, al_16, al_17, al_19, al_20, al_21, al_22, al_23, al_24, al_25, al_26, al_28, al_30, al_31, al_32, al_33, al_34, al_36, al_41, al_42, al_43, al_44, al_49, al_50, al_51, al_52, al_54, al_55, al_56, al_57, al_58, al_59, al_60, al_61, al_62, al_63, al_64, al_65, al_66, al_67, al_68, al_69, al_70, al_71, al_72, al_73, al_74, al_75, al_76, al_77, al_78, al_79, al_80]; exact vin (by omega) (by decide))), by (first | exact vin (by simp only [al_2, al_3, al_4, al_5, al_7, al_11, al_12, al_13, al_15, al_16, al_17, al_19, al_20, al_21, al_22, al_23, al_24, al_25, al_26, al_28, al_30, al_31, al_32, al_33, al_34, al_36, al_41, al_42, al_43, al_44, al_49, al_50, al_51, al_52, al_54, al_55, al_56, al_57, al_58, al_59, al_60, al_61, al_62, al_63, al_64, al_65, al_66, al_67, al_68, al_69, al_70, al_71, al_72, al_73, al_74, al_75, al_76, al_77, al_78, al_79, al_80]; omega) (by simp only [al_2, al_3, al_4, al_5, al_7, al_11, al_12, al_13, al_15, al_16, al_17, al_19, al_20, al_21, al_22, al_23, al_24, al_25, al_26, al_28, al_30, al_31, al_32, al_33, al_34, al_36, al_41, al_42, al_43, al_44, al_49, al_50, al_51, al_52, al_54, al_55, al_56, al_57, al_58, al_59, al_60, al_61, al_62, al_63, al_64, al_65, al_66, al_67, al_68, al_69, al_70, al_71, al_72, al_73, al_74, al_75, al_76, al_77, al_78, al_79, al_80]; decide) | (simp (disch := omega) only [nL, nI_add, pk_mul, nc, Nat.zero_add, al_2, al_3, al_4, al_5, al_7, al_11, al_12, al_13, al_15, al_16, al_17, al_19, al_20, al_21, al_22, al_23, al_24, al_25, al_26, al_28, al_30, al_31, al_32, al_33, al_34, al_36, al_41, al_42, al_43, al_44, al_49, al_50, al_51, al_52, al_54, al_55, al_56, al_57, al_58, al_59, al_60, al_61, al_62, al_63, al_64, al_65, al_66, al_67, al_68, al_69, al_70, al_71, al_72, al_73, al_74, al_75, al_76, al_77, al_78, al_79, al_80]; exact vin (by omega) (by decide))), _, _, c_fits (d + 3) σ _, fun q2 => ?_, fun q2 => ?_⟩⟩
      · rw [h.1.2.1, eR] at q
        simp (disch := omega) only [nL, nI_add, pk_mul, n_le, n_lt, n_eq] at q
        omega
      · show z_wp _ _ _ _ 29 _ _ _
        simp (disch := omega) only [nI_add, nL, nc] at q2 ⊢
        rw [b4, c4 i (by omega)] at q2
        refine ih (i + 1) (by omega) (fun k hk2 => ?_)
        by_cases e : k = i
        · subst e
          exact q2
        · exact k3 k (by omega)
      · rw [nc (by omega), b4, c4 i (by omega)] at q2
        obtain ⟨σt, ht, hRt, hkt⟩ := c_tell (d + 3) h (-1000005)
        rw [oFit, if_neg (fun z => z i (by omega) q2)]
        exact ⟨_, σt, ht, rfl, hRt, hkt⟩
  exact z_metC ⟨rfl, z_go 60 [29, 82] ⟨_, _, c_refusalOf_0 (d + 2) h, fun q => orj_0 ⟨rfl, loop R 0 (by omega) (fun k hk2 => by omega)⟩, fun q => absurd hr q⟩⟩
theorem x_add_1 (d : Nat) {σ : z_M} {B : zB} (h : RepC σ B) (hv : VB B) (h0 : ¬ B.2.2.1 1 0 = -1) (h2 : B.2.2.1 1 2 = nR B.1) : opC (d + 5) k_RF_add [.ref 0, .int 1] σ (sAdd 1 B) := by
  obtain ⟨P, R, G, eP, hP, eR, hR, -⟩ := hv.1
  have eg : gR B.1 = R := by unfold gR; rw [eR, nc (by omega)]
  have hr : refS 1 B = 0 := by
    unfold refS
    rw [if_neg (by decide), tc_1, if_neg h0, if_pos h2]
  obtain ⟨σ1, hc, hN1, hs1, hk, fin⟩ := c_beginB (d + 1) h
  rw [sAdd, if_pos hr, tc_1]
  have c4 : ∀ i, i < R → σ.1 42 i = B.2.2.1 1 (3 + i) := by
    intro i hi
    rcases h.2.2.1 1 (by decide) with ⟨a, b⟩ | ⟨a, b, c1, c2, c3, c4⟩
    · exact absurd a h0
    · exact c4 i (by omega) (by rw [h2, eR, n_lt (by omega) (by omega)]; exact hi)
  have loop2 : ∀ (n i : Nat) (σi : z_M), i + n = R → fr [5] σ1 σi → (∀ k, k < 10 → σi.1 5 k = if k < i then nV B.1 k + B.2.2.1 1 (3 + k) else nV B.1 k) →
      z_wp (z_call (d + 4)) none k_RF_add (pC σ (oAct 1 (setN B.1 (fun i => nV B.1 i + B.2.2.1 1 (3 + i))) B)) 82 [some (.ref 0), some (.int 1), some (.int (refS 1 B)), some (.ref 42), some (.int (nI i))] [] σi := by
    intro n
    induction n with
    | zero =>
      intro i σi hi hf k3
      obtain rfl : i = R := by omega
      have e1 : σi.1 1 1 = nI i := by rw [hf.at (by decide), hN1.2.1, eR]
      refine z_go 60 [29, 82] ⟨fun q => ⟨rfl, fin _ _ _ (hf.wk _ (by decide)) (netC_set hN1 hf (by rw [eg]; exact k3))⟩, fun q => ?_⟩
      rw [e1] at q
      exact absurd (Int32.le_refl _) q
    | succ n ih =>
      intro i σi hi hf k3
      have e1 : σi.1 1 1 = nI R := by rw [hf.at (by decide), hN1.2.1, eR]
      refine z_go 60 [29, 82] ⟨fun q => ?_, fun q => ⟨by (first | exact vin (by simp only [al_2, al_3, al_4, al_5, al_7, al_11, al_12, al_13, al_15, al_16, al_17, al_19, al_20, al_21, al_22, al_23, al_24, al_25, al_26, al_28, al_30, al_31, al_32, al_33, al_34, al_36, al_41, al_42, al_43, al_44, al_49, al_50, al_51, al_52, al_54, al_55, al_56, al_57, al_58, al_59, al_60, al_61, al_62, al_63, al_64, al_65, al_66, al_67, al_68, al_69, al_70, al_71, al_72, al_73, al_74, al_75, al_76, al_77, al_78, al_79, al_80]; omega) (by simp only [al_2, al_3, al_4, al_5, al_7, al_11, al_12, al_13, al_15, al_16, al_17, al_19, al_20, al_21, al_22, al_23, al_24, al_25, al_26, al_28, al_30, al_31, al_32, al_33, al_34, al_36, al_41, al_42, al_43, al_44, al_49, al_50, al_51, al_52, al_54, al_55, al_56, al_57, al_58, al_59, al_60, al_61, al_62, al_63, al_64, al_65, al_66, al_67, al_68, al_69, al_70, al_71, al_72, al_73, al_74, al_75, al_76, al_77, al_78, al_79, al_80]; decide) | (simp (disch := omega) only [nL, nI_add, pk_mul, nc, Nat.zero_add, al_2, al_3, al_4, al_5, al_7, al_11, al_12, al_13, al_15, al_16, al_17, al_19, al_20, al_21, al_22, al_23, al_24, al_25, al_26, al_28, al_30, al_31, al_32, al_33, al_34, al_36, al_41, al_42, al_43, al_44, al_49, al_50, al_51, al_52, al_54, al_55, al_56, al_57, al_58, al_59, al_60, al_61, al_62, al_63, al_64, al_65, al_66, al_67, al_68, al_69, al_70, al_71, al_72, al_73, al_74, al_75, al_76, al_77, al_78, al_79, al_80]; exact vin (by omega) (by decide))), by (first | exact vin (by simp only [al_2, al_3, al_4, al_5, al_7, al_11, al_12, al_13, al_15, al_16, al_17, al_19, al_20, al_21, al_22, al_23, al_24, al_25, al_26, al_28, al_30, al_31, al_32, al_33, al_34, al_36, al_41, al_42, al_43, al_44, al_49, al_50, al_51, al_52, al_54, al_55, al_56, al_57, al_58, al_59, al_60, al_61, al_62, al_63, al_64, al_65, al_66, al_67, al_68, al_69, al_70, al_71, al_72, al_73, al_74, al_75, al_76, al_77, al_78, al_79, al_80]; omega) (by simp only [al_2, al_3, al_4, al_5, al_7, al_11, al_12, al_13, al_15, al_16, al_17, al_19, al_20, al_21, al_22, al_23, al_24, al_25, al_26, al_28, al_30, al_31, al_32, al_33, al_34, al_36, al_41, al_42, al_43, al_44, al_49, al_50, al_51, al_52, al_54, al_55, al_56, al_57, al_58, al_59, al_60, al_61, al_62, al_63, al_64, al_65, al_66, al_67, al_68, al_69, al_70, al_71, al_72, al_73, al_74, al_75, al_76, al_77, al_78, al_79, al_80]; decide) | (simp (disch := omega) only [nL, nI_add, pk_mul, nc, Nat.zero_add, al_2, al_3, al_4, al_5, al_7, al_11, al_12, al_13, al_15, al_16, al_17, al_19, al_20, al_21, al_22, al_23, al_24, al_25, al_26, al_28, al_30, al_31, al_32, al_33, al_34, al_36, al_41, al_42, al_43, al_44, al_49, al_50, al_51, al_52, al_54, al_55, al_56, al_57, al_58, al_59, al_60, al_61, al_62, al_63, al_64, al_65, al_66, al_67, al_68, al_69, al_70, al_71, al_72, al_73, al_74, al_75, al_76, al_77, al_78, al_79, al_80]; exact vin (by omega) (by decide))), by (first | exact vin (by simp only [al_2, al_3, al_4, al_5, al_7, al_11, al_12, al_13, al_15, al_16, al_17, al_19, al_20, al_21, al_22, al_23, al_24, al_25, al_26, al_28, al_30, al_31, al_32, al_33, al_34, al_36, al_41, al_42, al_43, al_44, al_49, al_50, al_51, al_52, al_54, al_55, al_56, al_57, al_58, al_59, al_60, al_61, al_62, al_63, al_64, al_65, al_66, al_67, al_68, al_69, al_70, al_71, al_72, al_73, al_74, al_75, al_76, al_77, al_78, al_79, al_80]; omega) (by simp only [al_2, al_3, al_4, al_5, al_7, al_11, al_12, al_13, al_15, al_16, al_17, al_19, al_20, al_21, al_22, al_23, al_24, al_25, al_26, al_28, al_30, al_31, al_32, al_33, al_34, al_36, al_41, al_42, al_43, al_44, al_49, al_50, al_51, al_52, al_54, al_55, al_56, al_57, al_58, al_59, al_60, al_61, al_62, al_63, al_64, al_65, al_66, al_67, al_68, al_69, al_70, al_71, al_72, al_73, al_74, al_75, al_76, al_77, al_78, al_79, al_80]; decide) | (simp (disch := omega) only [nL, nI_add, pk_mul, nc, Nat.zero_add, al_2, al_3, al_4, al_5, al_7, al_11, al_12, al_13, al_15, al_16, al_17, al_19, al_20, al_21, al_22, al_23, al_24, al_25, al_26, al_28, al_30, al_31, al_32, al_33, al_34, al_36, al_41, al_42, al_43, al_44, al_49, al_50, al_51, al_52, al_54, al_55, al_56, al_57, al_58, al_59, al_60, al_61, al_62, al_63, al_64, al_65, al_66, al_67, al_68, al_69, al_70, al_71, al_72, al_73, al_74, al_75, al_76, al_77, al_78, al_79, al_80]; exact vin (by omega) (by decide))), ?_⟩⟩
      · rw [e1] at q
        simp (disch := omega) only [nL, nI_add, pk_mul, n_le, n_lt, n_eq] at q
        omega
      · show z_wp _ _ _ _ 82 _ _ _
        simp (disch := omega) only [nL, nI_add, nc]
        refine ih (i + 1) _ (by omega) (fr.wr hf (by decide)) (fun k hk2 => ?_)
        by_cases e : k = i
        · subst e
          rw [wr_s, if_pos (by omega), k3 k hk2, if_neg (by omega), hf.at (by decide), hk _ (by decide) (by decide) (by decide), c4 k (by omega)]
        · rw [wr_k e, k3 k hk2]
          by_cases e2 : k < i
          · rw [if_pos e2, if_pos (by omega)]
          · rw [if_neg e2, if_neg (by omega)]
  have loop : ∀ (n i : Nat), i + n = R → (∀ k, k < i → ¬ fit (nV B.1 k + B.2.2.1 1 (3 + k)) = 0) →
      z_wp (z_call (d + 4)) none k_RF_add (pC σ (oFit (fun i => nV B.1 i + B.2.2.1 1 (3 + i)) B)) 29 [some (.ref 0), some (.int 1), some (.int (refS 1 B)), some (.ref 42), some (.int (nI i))] [] σ := by
    intro n
    induction n with
    | zero =>
      intro i hi k3
      obtain rfl : i = R := by omega
      refine z_go 60 [29, 82] ⟨fun q => ⟨σ1, hc, ?_⟩, fun q => ?_⟩
      · rw [oFit, if_pos (fun k hk2 => k3 k (by omega))]
        refine loop2 i 0 σ1 (by omega) fr.rf (fun k hk2 => ?_)
        rw [if_neg (by omega)]
        exact (hN1.2.2.2 k hk2).2.2.2
      · rw [h.1.2.1, eR] at q
        exact absurd (Int32.le_refl _) q
    | succ n ih =>
      intro i hi k3
      have b4 := (h.1.2.2.2 i (by omega)).2.2.2
      refine z_go 60 [29, 82] ⟨fun q => ?_, fun q => ⟨by (first | exact vin (by simp only [al_2, al_3, al_4, al_5, al_7, al_11, al_12, al_13, al_15, al_16, al_17, al_19, al_20, al_21, al_22, al_23, al_24, al_25, al_26, al_28, al_30, al_31, al_32, al_33, al_34, al_36, al_41, al_42, al_43, al_44, al_49, al_50, al_51, al_52, al_54, al_55, al_56, al_57, al_58, al_59, al_60, al_61, al_62, al_63, al_64, al_65, al_66, al_67, al_68, al_69, al_70, al_71, al_72, al_73, al_74, al_75, al_76, al_77, al_78, al_79, al_80]; omega) (by simp only [al_2, al_3, al_4, al_5, al_7, al_11, al_12, al_13, al_15, al_16, al_17, al_19, al_20, al_21, al_22, al_23, al_24, al_25, al_26, al_28, al_30, al_31, al_32, al_33, al_34, al_36, al_41, al_42, al_43, al_44, al_49, al_50, al_51, al_52, al_54, al_55, al_56, al_57, al_58, al_59, al_60, al_61, al_62, al_63, al_64, al_65, al_66, al_67, al_68, al_69, al_70, al_71, al_72, al_73, al_74, al_75, al_76, al_77, al_78, al_79, al_80]; decide) | (simp (disch := omega) only [nL, nI_add, pk_mul, nc, Nat.zero_add, al_2, al_3, al_4, al_5, al_7, al_11, al_12, al_13, al_15, al_16, al_17, al_19, al_20, al_21, al_22, al_23, al_24, al_25, al_26, al_28, al_30, al_31, al_32, al_33, al_34, al_36, al_41, al_42, al_43, al_44, al_49, al_50, al_51, al_52, al_54, al_55, al_56, al_57, al_58, al_59, al_60, al_61, al_62, al_63, al_64, al_65, al_66, al_67, al_68, al_69, al_70, al_71, al_72, al_73, al_74, al_75, al_76, al_77, al_78, al_79, al_80]; exact vin (by omega) (by decide))), by (first | exact vin (by simp only [al_2, al_3, al_4, al_5, al_7, al_11, al_12, al_13, al_15, al_16, al_17, al_19, al_20, al_21, al_22, al_23, al_24, al_25, al_26, al_28, al_30, al_31, al_32, al_33, al_34, al_36, al_41, al_42, al_43, al_44, al_49, al_50, al_51, al_52, al_54, al_55, al_56, al_57, al_58, al_59, al_60, al_61, al_62, al_63, al_64, al_65, al_66, al_67, al_68, al_69, al_70, al_71, al_72, al_73, al_74, al_75, al_76, al_77, al_78, al_79, al_80]; omega) (by simp only [al_2, al_3, al_4, al_5, al_7, al_11, al_12, al_13, al_15, al_16, al_17, al_19, al_20, al_21, al_22, al_23, al_24, al_25, al_26, al_28, al_30, al_31, al_32, al_33, al_34, al_36, al_41, al_42, al_43, al_44, al_49, al_50, al_51, al_52, al_54, al_55, al_56, al_57, al_58, al_59, al_60, al_61, al_62, al_63, al_64, al_65, al_66, al_67, al_68, al_69, al_70, al_71, al_72, al_73, al_74, al_75, al_76, al_77, al_78, al_79, al_80]; decide) | (simp (disch := omega) only [nL, nI_add, pk_mul, nc, Nat.zero_add, al_2, al_3, al_4, al_5, al_7, al_11, al_12, al_13, al_15, al_16, al_17, al_19, al_20, al_21, al_22, al_23, al_24, al_25, al_26, al_28, al_30, al_31, al_32, al_33, al_34, al_36, al_41, al_42, al_43, al_44, al_49, al_50, al_51, al_52, al_54, al_55, al_56, al_57, al_58, al_59, al_60, al_61, al_62, al_63, al_64, al_65, al_66, al_67, al_68, al_69, al_70, al_71, al_72, al_73, al_74, al_75, al_76, al_77, al_78, al_79, al_80]; exact vin (by omega) (by decide))), _, _, c_fits (d + 3) σ _, fun q2 => ?_, fun q2 => ?_⟩⟩
      · rw [h.1.2.1, eR] at q
        simp (disch := omega) only [nL, nI_add, pk_mul, n_le, n_lt, n_eq] at q
        omega
      · show z_wp _ _ _ _ 29 _ _ _
        simp (disch := omega) only [nI_add, nL, nc] at q2 ⊢
        rw [b4, c4 i (by omega)] at q2
        refine ih (i + 1) (by omega) (fun k hk2 => ?_)
        by_cases e : k = i
        · subst e
          exact q2
        · exact k3 k (by omega)
      · rw [nc (by omega), b4, c4 i (by omega)] at q2
        obtain ⟨σt, ht, hRt, hkt⟩ := c_tell (d + 3) h (-1000005)
        rw [oFit, if_neg (fun z => z i (by omega) q2)]
        exact ⟨_, σt, ht, rfl, hRt, hkt⟩
  exact z_metC ⟨rfl, z_go 60 [29, 82] ⟨_, _, c_refusalOf_1 (d + 2) h, fun q => orj_1 ⟨rfl, loop R 0 (by omega) (fun k hk2 => by omega)⟩, fun q => absurd hr q⟩⟩
theorem x_add_2 (d : Nat) {σ : z_M} {B : zB} (h : RepC σ B) (hv : VB B) (h0 : ¬ B.2.2.1 2 0 = -1) (h2 : B.2.2.1 2 2 = nR B.1) : opC (d + 5) k_RF_add [.ref 0, .int 2] σ (sAdd 2 B) := by
  obtain ⟨P, R, G, eP, hP, eR, hR, -⟩ := hv.1
  have eg : gR B.1 = R := by unfold gR; rw [eR, nc (by omega)]
  have hr : refS 2 B = 0 := by
    unfold refS
    rw [if_neg (by decide), tc_2, if_neg h0, if_pos h2]
  obtain ⟨σ1, hc, hN1, hs1, hk, fin⟩ := c_beginB (d + 1) h
  rw [sAdd, if_pos hr, tc_2]
  have c4 : ∀ i, i < R → σ.1 43 i = B.2.2.1 2 (3 + i) := by
    intro i hi
    rcases h.2.2.1 2 (by decide) with ⟨a, b⟩ | ⟨a, b, c1, c2, c3, c4⟩
    · exact absurd a h0
    · exact c4 i (by omega) (by rw [h2, eR, n_lt (by omega) (by omega)]; exact hi)
  have loop2 : ∀ (n i : Nat) (σi : z_M), i + n = R → fr [5] σ1 σi → (∀ k, k < 10 → σi.1 5 k = if k < i then nV B.1 k + B.2.2.1 2 (3 + k) else nV B.1 k) →
      z_wp (z_call (d + 4)) none k_RF_add (pC σ (oAct 1 (setN B.1 (fun i => nV B.1 i + B.2.2.1 2 (3 + i))) B)) 82 [some (.ref 0), some (.int 2), some (.int (refS 2 B)), some (.ref 43), some (.int (nI i))] [] σi := by
    intro n
    induction n with
    | zero =>
      intro i σi hi hf k3
      obtain rfl : i = R := by omega
      have e1 : σi.1 1 1 = nI i := by rw [hf.at (by decide), hN1.2.1, eR]
      refine z_go 60 [29, 82] ⟨fun q => ⟨rfl, fin _ _ _ (hf.wk _ (by decide)) (netC_set hN1 hf (by rw [eg]; exact k3))⟩, fun q => ?_⟩
      rw [e1] at q
      exact absurd (Int32.le_refl _) q
    | succ n ih =>
      intro i σi hi hf k3
      have e1 : σi.1 1 1 = nI R := by rw [hf.at (by decide), hN1.2.1, eR]
      refine z_go 60 [29, 82] ⟨fun q => ?_, fun q => ⟨by (first | exact vin (by simp only [al_2, al_3, al_4, al_5, al_7, al_11, al_12, al_13, al_15, al_16, al_17, al_19, al_20, al_21, al_22, al_23, al_24, al_25, al_26, al_28, al_30, al_31, al_32, al_33, al_34, al_36, al_41, al_42, al_43, al_44, al_49, al_50, al_51, al_52, al_54, al_55, al_56, al_57, al_58, al_59, al_60, al_61, al_62, al_63, al_64, al_65, al_66, al_67, al_68, al_69, al_70, al_71, al_72, al_73, al_74, al_75, al_76, al_77, al_78, al_79, al_80]; omega) (by simp only [al_2, al_3, al_4, al_5, al_7, al_11, al_12, al_13, al_15, al_16, al_17, al_19, al_20, al_21, al_22, al_23, al_24, al_25, al_26, al_28, al_30, al_31, al_32, al_33, al_34, al_36, al_41, al_42, al_43, al_44, al_49, al_50, al_51, al_52, al_54, al_55, al_56, al_57, al_58, al_59, al_60, al_61, al_62, al_63, al_64, al_65, al_66, al_67, al_68, al_69, al_70, al_71, al_72, al_73, al_74, al_75, al_76, al_77, al_78, al_79, al_80]; decide) | (simp (disch := omega) only [nL, nI_add, pk_mul, nc, Nat.zero_add, al_2, al_3, al_4, al_5, al_7, al_11, al_12, al_13, al_15, al_16, al_17, al_19, al_20, al_21, al_22, al_23, al_24, al_25, al_26, al_28, al_30, al_31, al_32, al_33, al_34, al_36, al_41, al_42, al_43, al_44, al_49, al_50, al_51, al_52, al_54, al_55, al_56, al_57, al_58, al_59, al_60, al_61, al_62, al_63, al_64, al_65, al_66, al_67, al_68, al_69, al_70, al_71, al_72, al_73, al_74, al_75, al_76, al_77, al_78, al_79, al_80]; exact vin (by omega) (by decide))), by (first | exact vin (by simp only [al_2, al_3, al_4, al_5, al_7, al_11, al_12, al_13, al_15, al_16, al_17, al_19, al_20, al_21, al_22, al_23, al_24, al_25, al_26, al_28, al_30, al_31, al_32, al_33, al_34, al_36, al_41, al_42, al_43, al_44, al_49, al_50, al_51, al_52, al_54, al_55, al_56, al_57, al_58, al_59, al_60, al_61, al_62, al_63, al_64, al_65, al_66, al_67, al_68, al_69, al_70, al_71, al_72, al_73, al_74, al_75, al_76, al_77, al_78, al_79, al_80]; omega) (by simp only [al_2, al_3, al_4, al_5, al_7, al_11, al_12, al_13, al_15, al_16, al_17, al_19, al_20, al_21, al_22, al_23, al_24, al_25, al_26, al_28, al_30, al_31, al_32, al_33, al_34, al_36, al_41, al_42, al_43, al_44, al_49, al_50, al_51, al_52, al_54, al_55, al_56, al_57, al_58, al_59, al_60, al_61, al_62, al_63, al_64, al_65, al_66, al_67, al_68, al_69, al_70, al_71, al_72, al_73, al_74, al_75, al_76, al_77, al_78, al_79, al_80]; decide) | (simp (disch := omega) only [nL, nI_add, pk_mul, nc, Nat.zero_add, al_2, al_3, al_4, al_5, al_7, al_11, al_12, al_13, al_15, al_16, al_17, al_19, al_20, al_21, al_22, al_23, al_24, al_25, al_26, al_28, al_30, al_31, al_32, al_33, al_34, al_36, al_41, al_42, al_43, al_44, al_49, al_50, al_51, al_52, al_54, al_55, al_56, al_57, al_58, al_59, al_60, al_61, al_62, al_63, al_64, al_65, al_66, al_67, al_68, al_69, al_70, al_71, al_72, al_73, al_74, al_75, al_76, al_77, al_78, al_79, al_80]; exact vin (by omega) (by decide))), by (first | exact vin (by simp only [al_2, al_3, al_4, al_5, al_7, al_11, al_12, al_13, al_15, al_16, al_17, al_19, al_20, al_21, al_22, al_23, al_24, al_25, al_26, al_28, al_30, al_31, al_32, al_33, al_34, al_36, al_41, al_42, al_43, al_44, al_49, al_50, al_51, al_52, al_54, al_55, al_56, al_57, al_58, al_59, al_60, al_61, al_62, al_63, al_64, al_65, al_66, al_67, al_68, al_69, al_70, al_71, al_72, al_73, al_74, al_75, al_76, al_77, al_78, al_79, al_80]; omega) (by simp only [al_2, al_3, al_4, al_5, al_7, al_11, al_12, al_13, al_15, al_16, al_17, al_19, al_20, al_21, al_22, al_23, al_24, al_25, al_26, al_28, al_30, al_31, al_32, al_33, al_34, al_36, al_41, al_42, al_43, al_44, al_49, al_50, al_51, al_52, al_54, al_55, al_56, al_57, al_58, al_59, al_60, al_61, al_62, al_63, al_64, al_65, al_66, al_67, al_68, al_69, al_70, al_71, al_72, al_73, al_74, al_75, al_76, al_77, al_78, al_79, al_80]; decide) | (simp (disch := omega) only [nL, nI_add, pk_mul, nc, Nat.zero_add, al_2, al_3, al_4, al_5, al_7, al_11, al_12, al_13, al_15, al_16, al_17, al_19, al_20, al_21, al_22, al_23, al_24, al_25, al_26, al_28, al_30, al_31, al_32, al_33, al_34, al_36, al_41, al_42, al_43, al_44, al_49, al_50, al_51, al_52, al_54, al_55, al_56, al_57, al_58, al_59, al_60, al_61, al_62, al_63, al_64, al_65, al_66, al_67, al_68, al_69, al_70, al_71, al_72, al_73, al_74, al_75, al_76, al_77, al_78, al_79, al_80]; exact vin (by omega) (by decide))), ?_⟩⟩
      · rw [e1] at q
        simp (disch := omega) only [nL, nI_add, pk_mul, n_le, n_lt, n_eq] at q
        omega
      · show z_wp _ _ _ _ 82 _ _ _
        simp (disch := omega) only [nL, nI_add, nc]
        refine ih (i + 1) _ (by omega) (fr.wr hf (by decide)) (fun k hk2 => ?_)
        by_cases e : k = i
        · subst e
          rw [wr_s, if_pos (by omega), k3 k hk2, if_neg (by omega), hf.at (by decide), hk _ (by decide) (by decide) (by decide), c4 k (by omega)]
        · rw [wr_k e, k3 k hk2]
          by_cases e2 : k < i
          · rw [if_pos e2, if_pos (by omega)]
          · rw [if_neg e2, if_neg (by omega)]
  have loop : ∀ (n i : Nat), i + n = R → (∀ k, k < i → ¬ fit (nV B.1 k + B.2.2.1 2 (3 + k)) = 0) →
      z_wp (z_call (d + 4)) none k_RF_add (pC σ (oFit (fun i => nV B.1 i + B.2.2.1 2 (3 + i)) B)) 29 [some (.ref 0), some (.int 2), some (.int (refS 2 B)), some (.ref 43), some (.int (nI i))] [] σ := by
    intro n
    induction n with
    | zero =>
      intro i hi k3
      obtain rfl : i = R := by omega
      refine z_go 60 [29, 82] ⟨fun q => ⟨σ1, hc, ?_⟩, fun q => ?_⟩
      · rw [oFit, if_pos (fun k hk2 => k3 k (by omega))]
        refine loop2 i 0 σ1 (by omega) fr.rf (fun k hk2 => ?_)
        rw [if_neg (by omega)]
        exact (hN1.2.2.2 k hk2).2.2.2
      · rw [h.1.2.1, eR] at q
        exact absurd (Int32.le_refl _) q
    | succ n ih =>
      intro i hi k3
      have b4 := (h.1.2.2.2 i (by omega)).2.2.2
      refine z_go 60 [29, 82] ⟨fun q => ?_, fun q => ⟨by (first | exact vin (by simp only [al_2, al_3, al_4, al_5, al_7, al_11, al_12, al_13, al_15, al_16, al_17, al_19, al_20, al_21, al_22, al_23, al_24, al_25, al_26, al_28, al_30, al_31, al_32, al_33, al_34, al_36, al_41, al_42, al_43, al_44, al_49, al_50, al_51, al_52, al_54, al_55, al_56, al_57, al_58, al_59, al_60, al_61, al_62, al_63, al_64, al_65, al_66, al_67, al_68, al_69, al_70, al_71, al_72, al_73, al_74, al_75, al_76, al_77, al_78, al_79, al_80]; omega) (by simp only [al_2, al_3, al_4, al_5, al_7, al_11, al_12, al_13, al_15, al_16, al_17, al_19, al_20, al_21, al_22, al_23, al_24, al_25, al_26, al_28, al_30, al_31, al_32, al_33, al_34, al_36, al_41, al_42, al_43, al_44, al_49, al_50, al_51, al_52, al_54, al_55, al_56, al_57, al_58, al_59, al_60, al_61, al_62, al_63, al_64, al_65, al_66, al_67, al_68, al_69, al_70, al_71, al_72, al_73, al_74, al_75, al_76, al_77, al_78, al_79, al_80]; decide) | (simp (disch := omega) only [nL, nI_add, pk_mul, nc, Nat.zero_add, al_2, al_3, al_4, al_5, al_7, al_11, al_12, al_13, al_15, al_16, al_17, al_19, al_20, al_21, al_22, al_23, al_24, al_25, al_26, al_28, al_30, al_31, al_32, al_33, al_34, al_36, al_41, al_42, al_43, al_44, al_49, al_50, al_51, al_52, al_54, al_55, al_56, al_57, al_58, al_59, al_60, al_61, al_62, al_63, al_64, al_65, al_66, al_67, al_68, al_69, al_70, al_71, al_72, al_73, al_74, al_75, al_76, al_77, al_78, al_79, al_80]; exact vin (by omega) (by decide))), by (first | exact vin (by simp only [al_2, al_3, al_4, al_5, al_7, al_11, al_12, al_13, al_15, al_16, al_17, al_19, al_20, al_21, al_22, al_23, al_24, al_25, al_26, al_28, al_30, al_31, al_32, al_33, al_34, al_36, al_41, al_42, al_43, al_44, al_49, al_50, al_51, al_52, al_54, al_55, al_56, al_57, al_58, al_59, al_60, al_61, al_62, al_63, al_64, al_65, al_66, al_67, al_68, al_69, al_70, al_71, al_72, al_73, al_74, al_75, al_76, al_77, al_78, al_79, al_80]; omega) (by simp only [al_2, al_3, al_4, al_5, al_7, al_11, al_12, al_13, al_15, al_16, al_17, al_19, al_20, al_21, al_22, al_23, al_24, al_25, al_26, al_28, al_30, al_31, al_32, al_33, al_34, al_36, al_41, al_42, al_43, al_44, al_49, al_50, al_51, al_52, al_54, al_55, al_56, al_57, al_58, al_59, al_60, al_61, al_62, al_63, al_64, al_65, al_66, al_67, al_68, al_69, al_70, al_71, al_72, al_73, al_74, al_75, al_76, al_77, al_78, al_79, al_80]; decide) | (simp (disch := omega) only [nL, nI_add, pk_mul, nc, Nat.zero_add, al_2, al_3, al_4, al_5, al_7, al_11, al_12, al_13, al_15, al_16, al_17, al_19, al_20, al_21, al_22, al_23, al_24, al_25, al_26, al_28, al_30, al_31, al_32, al_33, al_34, al_36, al_41, al_42, al_43, al_44, al_49, al_50, al_51, al_52, al_54, al_55, al_56, al_57, al_58, al_59, al_60, al_61, al_62, al_63, al_64, al_65, al_66, al_67, al_68, al_69, al_70, al_71, al_72, al_73, al_74, al_75, al_76, al_77, al_78, al_79, al_80]; exact vin (by omega) (by decide))), _, _, c_fits (d + 3) σ _, fun q2 => ?_, fun q2 => ?_⟩⟩
      · rw [h.1.2.1, eR] at q
        simp (disch := omega) only [nL, nI_add, pk_mul, n_le, n_lt, n_eq] at q
        omega
      · show z_wp _ _ _ _ 29 _ _ _
        simp (disch := omega) only [nI_add, nL, nc] at q2 ⊢
        rw [b4, c4 i (by omega)] at q2
        refine ih (i + 1) (by omega) (fun k hk2 => ?_)
        by_cases e : k = i
        · subst e
          exact q2
        · exact k3 k (by omega)
      · rw [nc (by omega), b4, c4 i (by omega)] at q2
        obtain ⟨σt, ht, hRt, hkt⟩ := c_tell (d + 3) h (-1000005)
        rw [oFit, if_neg (fun z => z i (by omega) q2)]
        exact ⟨_, σt, ht, rfl, hRt, hkt⟩
  exact z_metC ⟨rfl, z_go 60 [29, 82] ⟨_, _, c_refusalOf_2 (d + 2) h, fun q => orj_2 ⟨rfl, loop R 0 (by omega) (fun k hk2 => by omega)⟩, fun q => absurd hr q⟩⟩
theorem x_add_3 (d : Nat) {σ : z_M} {B : zB} (h : RepC σ B) (hv : VB B) (h0 : ¬ B.2.2.1 3 0 = -1) (h2 : B.2.2.1 3 2 = nR B.1) : opC (d + 5) k_RF_add [.ref 0, .int 3] σ (sAdd 3 B) := by
  obtain ⟨P, R, G, eP, hP, eR, hR, -⟩ := hv.1
  have eg : gR B.1 = R := by unfold gR; rw [eR, nc (by omega)]
  have hr : refS 3 B = 0 := by
    unfold refS
    rw [if_neg (by decide), tc_3, if_neg h0, if_pos h2]
  obtain ⟨σ1, hc, hN1, hs1, hk, fin⟩ := c_beginB (d + 1) h
  rw [sAdd, if_pos hr, tc_3]
  have c4 : ∀ i, i < R → σ.1 44 i = B.2.2.1 3 (3 + i) := by
    intro i hi
    rcases h.2.2.1 3 (by decide) with ⟨a, b⟩ | ⟨a, b, c1, c2, c3, c4⟩
    · exact absurd a h0
    · exact c4 i (by omega) (by rw [h2, eR, n_lt (by omega) (by omega)]; exact hi)
  have loop2 : ∀ (n i : Nat) (σi : z_M), i + n = R → fr [5] σ1 σi → (∀ k, k < 10 → σi.1 5 k = if k < i then nV B.1 k + B.2.2.1 3 (3 + k) else nV B.1 k) →
      z_wp (z_call (d + 4)) none k_RF_add (pC σ (oAct 1 (setN B.1 (fun i => nV B.1 i + B.2.2.1 3 (3 + i))) B)) 82 [some (.ref 0), some (.int 3), some (.int (refS 3 B)), some (.ref 44), some (.int (nI i))] [] σi := by
    intro n
    induction n with
    | zero =>
      intro i σi hi hf k3
      obtain rfl : i = R := by omega
      have e1 : σi.1 1 1 = nI i := by rw [hf.at (by decide), hN1.2.1, eR]
      refine z_go 60 [29, 82] ⟨fun q => ⟨rfl, fin _ _ _ (hf.wk _ (by decide)) (netC_set hN1 hf (by rw [eg]; exact k3))⟩, fun q => ?_⟩
      rw [e1] at q
      exact absurd (Int32.le_refl _) q
    | succ n ih =>
      intro i σi hi hf k3
      have e1 : σi.1 1 1 = nI R := by rw [hf.at (by decide), hN1.2.1, eR]
      refine z_go 60 [29, 82] ⟨fun q => ?_, fun q => ⟨by (first | exact vin (by simp only [al_2, al_3, al_4, al_5, al_7, al_11, al_12, al_13, al_15, al_16, al_17, al_19, al_20, al_21, al_22, al_23, al_24, al_25, al_26, al_28, al_30, al_31, al_32, al_33, al_34, al_36, al_41, al_42, al_43, al_44, al_49, al_50, al_51, al_52, al_54, al_55, al_56, al_57, al_58, al_59, al_60, al_61, al_62, al_63, al_64, al_65, al_66, al_67, al_68, al_69, al_70, al_71, al_72, al_73, al_74, al_75, al_76, al_77, al_78, al_79, al_80]; omega) (by simp only [al_2, al_3, al_4, al_5, al_7, al_11, al_12, al_13, al_15, al_16, al_17, al_19, al_20, al_21, al_22, al_23, al_24, al_25, al_26, al_28, al_30, al_31, al_32, al_33, al_34, al_36, al_41, al_42, al_43, al_44, al_49, al_50, al_51, al_52, al_54, al_55, al_56, al_57, al_58, al_59, al_60, al_61, al_62, al_63, al_64, al_65, al_66, al_67, al_68, al_69, al_70, al_71, al_72, al_73, al_74, al_75, al_76, al_77, al_78, al_79, al_80]; decide) | (simp (disch := omega) only [nL, nI_add, pk_mul, nc, Nat.zero_add, al_2, al_3, al_4, al_5, al_7, al_11, al_12, al_13, al_15, al_16, al_17, al_19, al_20, al_21, al_22, al_23, al_24, al_25, al_26, al_28, al_30, al_31, al_32, al_33, al_34, al_36, al_41, al_42, al_43, al_44, al_49, al_50, al_51, al_52, al_54, al_55, al_56, al_57, al_58, al_59, al_60, al_61, al_62, al_63, al_64, al_65, al_66, al_67, al_68, al_69, al_70, al_71, al_72, al_73, al_74, al_75, al_76, al_77, al_78, al_79, al_80]; exact vin (by omega) (by decide))), by (first | exact vin (by simp only [al_2, al_3, al_4, al_5, al_7, al_11, al_12, al_13, al_15, al_16, al_17, al_19, al_20, al_21, al_22, al_23, al_24, al_25, al_26, al_28, al_30, al_31, al_32, al_33, al_34, al_36, al_41, al_42, al_43, al_44, al_49, al_50, al_51, al_52, al_54, al_55, al_56, al_57, al_58, al_59, al_60, al_61, al_62, al_63, al_64, al_65, al_66, al_67, al_68, al_69, al_70, al_71, al_72, al_73, al_74, al_75, al_76, al_77, al_78, al_79, al_80]; omega) (by simp only [al_2, al_3, al_4, al_5, al_7, al_11, al_12, al_13, al_15, al_16, al_17, al_19, al_20, al_21, al_22, al_23, al_24, al_25, al_26, al_28, al_30, al_31, al_32, al_33, al_34, al_36, al_41, al_42, al_43, al_44, al_49, al_50, al_51, al_52, al_54, al_55, al_56, al_57, al_58, al_59, al_60, al_61, al_62, al_63, al_64, al_65, al_66, al_67, al_68, al_69, al_70, al_71, al_72, al_73, al_74, al_75, al_76, al_77, al_78, al_79, al_80]; decide) | (simp (disch := omega) only [nL, nI_add, pk_mul, nc, Nat.zero_add, al_2, al_3, al_4, al_5, al_7, al_11, al_12, al_13, al_15, al_16, al_17, al_19, al_20, al_21, al_22, al_23, al_24, al_25, al_26, al_28, al_30, al_31, al_32, al_33, al_34, al_36, al_41, al_42, al_43, al_44, al_49, al_50, al_51, al_52, al_54, al_55, al_56, al_57, al_58, al_59, al_60, al_61, al_62, al_63, al_64, al_65, al_66, al_67, al_68, al_69, al_70, al_71, al_72, al_73, al_74, al_75, al_76, al_77, al_78, al_79, al_80]; exact vin (by omega) (by decide))), by (first | exact vin (by simp only [al_2, al_3, al_4, al_5, al_7, al_11, al_12, al_13, al_15, al_16, al_17, al_19, al_20, al_21, al_22, al_23, al_24, al_25, al_26, al_28, al_30, al_31, al_32, al_33, al_34, al_36, al_41, al_42, al_43, al_44, al_49, al_50, al_51, al_52, al_54, al_55, al_56, al_57, al_58, al_59, al_60, al_61, al_62, al_63, al_64, al_65, al_66, al_67, al_68, al_69, al_70, al_71, al_72, al_73, al_74, al_75, al_76, al_77, al_78, al_79, al_80]; omega) (by simp only [al_2, al_3, al_4, al_5, al_7, al_11, al_12, al_13, al_15, al_16, al_17, al_19, al_20, al_21, al_22, al_23, al_24, al_25, al_26, al_28, al_30, al_31, al_32, al_33, al_34, al_36, al_41, al_42, al_43, al_44, al_49, al_50, al_51, al_52, al_54, al_55, al_56, al_57, al_58, al_59, al_60, al_61, al_62, al_63, al_64, al_65, al_66, al_67, al_68, al_69, al_70, al_71, al_72, al_73, al_74, al_75, al_76, al_77, al_78, al_79, al_80]; decide) | (simp (disch := omega) only [nL, nI_add, pk_mul, nc, Nat.zero_add, al_2, al_3, al_4, al_5, al_7, al_11, al_12, al_13, al_15, al_16, al_17, al_19, al_20, al_21, al_22, al_23, al_24, al_25, al_26, al_28, al_30, al_31, al_32, al_33, al_34, al_36, al_41, al_42, al_43, al_44, al_49, al_50, al_51, al_52, al_54, al_55, al_56, al_57, al_58, al_59, al_60, al_61, al_62, al_63, al_64, al_65, al_66, al_67, al_68, al_69, al_70, al_71, al_72, al_73, al_74, al_75, al_76, al_77, al_78, al_79, al_80]; exact vin (by omega) (by decide))), ?_⟩⟩
      · rw [e1] at q
        simp (disch := omega) only [nL, nI_add, pk_mul, n_le, n_lt, n_eq] at q
        omega
      · show z_wp _ _ _ _ 82 _ _ _
        simp (disch := omega) only [nL, nI_add, nc]
        refine ih (i + 1) _ (by omega) (fr.wr hf (by decide)) (fun k hk2 => ?_)
        by_cases e : k = i
        · subst e
          rw [wr_s, if_pos (by omega), k3 k hk2, if_neg (by omega), hf.at (by decide), hk _ (by decide) (by decide) (by decide), c4 k (by omega)]
        · rw [wr_k e, k3 k hk2]
          by_cases e2 : k < i
          · rw [if_pos e2, if_pos (by omega)]
          · rw [if_neg e2, if_neg (by omega)]
  have loop : ∀ (n i : Nat), i + n = R → (∀ k, k < i → ¬ fit (nV B.1 k + B.2.2.1 3 (3 + k)) = 0) →
      z_wp (z_call (d + 4)) none k_RF_add (pC σ (oFit (fun i => nV B.1 i + B.2.2.1 3 (3 + i)) B)) 29 [some (.ref 0), some (.int 3), some (.int (refS 3 B)), some (.ref 44), some (.int (nI i))] [] σ := by
    intro n
    induction n with
    | zero =>
      intro i hi k3
      obtain rfl : i = R := by omega
      refine z_go 60 [29, 82] ⟨fun q => ⟨σ1, hc, ?_⟩, fun q => ?_⟩
      · rw [oFit, if_pos (fun k hk2 => k3 k (by omega))]
        refine loop2 i 0 σ1 (by omega) fr.rf (fun k hk2 => ?_)
        rw [if_neg (by omega)]
        exact (hN1.2.2.2 k hk2).2.2.2
      · rw [h.1.2.1, eR] at q
        exact absurd (Int32.le_refl _) q
    | succ n ih =>
      intro i hi k3
      have b4 := (h.1.2.2.2 i (by omega)).2.2.2
      refine z_go 60 [29, 82] ⟨fun q => ?_, fun q => ⟨by (first | exact vin (by simp only [al_2, al_3, al_4, al_5, al_7, al_11, al_12, al_13, al_15, al_16, al_17, al_19, al_20, al_21, al_22, al_23, al_24, al_25, al_26, al_28, al_30, al_31, al_32, al_33, al_34, al_36, al_41, al_42, al_43, al_44, al_49, al_50, al_51, al_52, al_54, al_55, al_56, al_57, al_58, al_59, al_60, al_61, al_62, al_63, al_64, al_65, al_66, al_67, al_68, al_69, al_70, al_71, al_72, al_73, al_74, al_75, al_76, al_77, al_78, al_79, al_80]; omega) (by simp only [al_2, al_3, al_4, al_5, al_7, al_11, al_12, al_13, al_15, al_16, al_17, al_19, al_20, al_21, al_22, al_23, al_24, al_25, al_26, al_28, al_30, al_31, al_32, al_33, al_34, al_36, al_41, al_42, al_43, al_44, al_49, al_50, al_51, al_52, al_54, al_55, al_56, al_57, al_58, al_59, al_60, al_61, al_62, al_63, al_64, al_65, al_66, al_67, al_68, al_69, al_70, al_71, al_72, al_73, al_74, al_75, al_76, al_77, al_78, al_79, al_80]; decide) | (simp (disch := omega) only [nL, nI_add, pk_mul, nc, Nat.zero_add, al_2, al_3, al_4, al_5, al_7, al_11, al_12, al_13, al_15, al_16, al_17, al_19, al_20, al_21, al_22, al_23, al_24, al_25, al_26, al_28, al_30, al_31, al_32, al_33, al_34, al_36, al_41, al_42, al_43, al_44, al_49, al_50, al_51, al_52, al_54, al_55, al_56, al_57, al_58, al_59, al_60, al_61, al_62, al_63, al_64, al_65, al_66, al_67, al_68, al_69, al_70, al_71, al_72, al_73, al_74, al_75, al_76, al_77, al_78, al_79, al_80]; exact vin (by omega) (by decide))), by (first | exact vin (by simp only [al_2, al_3, al_4, al_5, al_7, al_11, al_12, al_13, al_15, al_16, al_17, al_19, al_20, al_21, al_22, al_23, al_24, al_25, al_26, al_28, al_30, al_31, al_32, al_33, al_34, al_36, al_41, al_42, al_43, al_44, al_49, al_50, al_51, al_52, al_54, al_55, al_56, al_57, al_58, al_59, al_60, al_61, al_62, al_63, al_64, al_65, al_66, al_67, al_68, al_69, al_70, al_71, al_72, al_73, al_74, al_75, al_76, al_77, al_78, al_79, al_80]; omega) (by simp only [al_2, al_3, al_4, al_5, al_7, al_11, al_12, al_13, al_15, al_16, al_17, al_19, al_20, al_21, al_22, al_23, al_24, al_25, al_26, al_28, al_30, al_31, al_32, al_33, al_34, al_36, al_41, al_42, al_43, al_44, al_49, al_50, al_51, al_52, al_54, al_55, al_56, al_57, al_58, al_59, al_60, al_61, al_62, al_63, al_64, al_65, al_66, al_67, al_68, al_69, al_70, al_71, al_72, al_73, al_74, al_75, al_76, al_77, al_78, al_79, al_80]; decide) | (simp (disch := omega) only [nL, nI_add, pk_mul, nc, Nat.zero_add, al_2, al_3, al_4, al_5, al_7, al_11, al_12, al_13, al_15, al_16, al_17, al_19, al_20, al_21, al_22, al_23, al_24, al_25, al_26, al_28, al_30, al_31, al_32, al_33, al_34, al_36, al_41, al_42, al_43, al_44, al_49, al_50, al_51, al_52, al_54, al_55, al_56, al_57, al_58, al_59, al_60, al_61, al_62, al_63, al_64, al_65, al_66, al_67, al_68, al_69, al_70, al_71, al_72, al_73, al_74, al_75, al_76, al_77, al_78, al_79, al_80]; exact vin (by omega) (by decide))), _, _, c_fits (d + 3) σ _, fun q2 => ?_, fun q2 => ?_⟩⟩
      · rw [h.1.2.1, eR] at q
        simp (disch := omega) only [nL, nI_add, pk_mul, n_le, n_lt, n_eq] at q
        omega
      · show z_wp _ _ _ _ 29 _ _ _
        simp (disch := omega) only [nI_add, nL, nc] at q2 ⊢
        rw [b4, c4 i (by omega)] at q2
        refine ih (i + 1) (by omega) (fun k hk2 => ?_)
        by_cases e : k = i
        · subst e
          exact q2
        · exact k3 k (by omega)
      · rw [nc (by omega), b4, c4 i (by omega)] at q2
        obtain ⟨σt, ht, hRt, hkt⟩ := c_tell (d + 3) h (-1000005)
        rw [oFit, if_neg (fun z => z i (by omega) q2)]
        exact ⟨_, σt, ht, rfl, hRt, hkt⟩
  exact z_metC ⟨rfl, z_go 60 [29, 82] ⟨_, _, c_refusalOf_3 (d + 2) h, fun q => orj_3 ⟨rfl, loop R 0 (by omega) (fun k hk2 => by omega)⟩, fun q => absurd hr q⟩⟩
theorem x_add (d : Nat) {σ : z_M} {B : zB} (h : RepC σ B) (hv : VB B) (s : Int32) : opC (d + 5) k_RF_add [.ref 0, .int s] σ (sAdd s B) := by
  by_cases hs : refS s B = 0
  · obtain ⟨j, hj, rfl, h0, h2⟩ := refS_z hs
    exact four_cases (P := fun j => ¬ B.2.2.1 j 0 = -1 → B.2.2.1 j 2 = nR B.1 → opC (d + 5) k_RF_add [.ref 0, .int (nI j)] σ (sAdd (nI j) B)) (x_add_0 d h hv) (x_add_1 d h hv) (x_add_2 d h hv) (x_add_3 d h hv) hj h0 h2
  · obtain ⟨σt, ht, hRt, hkt⟩ := c_tell (d + 3) h (refS s B)
    refine z_metC ⟨rfl, z_go 60 [29, 82] ⟨_, _, c_refusalOf (d + 2) h s, fun q => absurd q hs, fun q => ?_⟩⟩
    rw [sAdd, if_neg hs]
    exact ⟨_, σt, ht, rfl, hRt, hkt⟩
theorem x_times (d : Nat) {σ : z_M} {B : zB} (h : RepC σ B) (hv : VB B) (c : Int32) : opC (d + 5) k_RF_times [.ref 0, .int c] σ (sTimes c B) := by
  obtain ⟨P, R, G, eP, hP, eR, hR, -⟩ := hv.1
  have eg : gR B.1 = R := by unfold gR; rw [eR, nc (by omega)]
  obtain ⟨σ1, hc, hN1, hs1, hk, fin⟩ := c_beginB (d + 1) h
  have loop2 : ∀ (n i : Nat) (σi : z_M), i + n = R → fr [5] σ1 σi → (∀ k, k < 10 → σi.1 5 k = if k < i then nV B.1 k * c else nV B.1 k) →
      z_wp (z_call (d + 4)) none k_RF_times (pC σ (oAct 1 (setN B.1 (fun i => nV B.1 i * c)) B)) 68 [some (.ref 0), some (.int c), some (.int (nI i))] [] σi := by
    intro n
    induction n with
    | zero =>
      intro i σi hi hf k3
      obtain rfl : i = R := by omega
      have e1 : σi.1 1 1 = nI i := by rw [hf.at (by decide), hN1.2.1, eR]
      refine z_go 60 [21, 68] ⟨fun q => ⟨rfl, fin _ _ _ (hf.wk _ (by decide)) (netC_set hN1 hf (by rw [eg]; exact k3))⟩, fun q => ?_⟩
      rw [e1] at q
      exact absurd (Int32.le_refl _) q
    | succ n ih =>
      intro i σi hi hf k3
      have e1 : σi.1 1 1 = nI R := by rw [hf.at (by decide), hN1.2.1, eR]
      refine z_go 60 [21, 68] ⟨fun q => ?_, fun q => ⟨by (first | exact vin (by simp only [al_2, al_3, al_4, al_5, al_7, al_11, al_12, al_13, al_15, al_16, al_17, al_19, al_20, al_21, al_22, al_23, al_24, al_25, al_26, al_28, al_30, al_31, al_32, al_33, al_34, al_36, al_41, al_42, al_43, al_44, al_49, al_50, al_51, al_52, al_54, al_55, al_56, al_57, al_58, al_59, al_60, al_61, al_62, al_63, al_64, al_65, al_66, al_67, al_68, al_69, al_70, al_71, al_72, al_73, al_74, al_75, al_76, al_77, al_78, al_79, al_80]; omega) (by simp only [al_2, al_3, al_4, al_5, al_7, al_11, al_12, al_13, al_15, al_16, al_17, al_19, al_20, al_21, al_22, al_23, al_24, al_25, al_26, al_28, al_30, al_31, al_32, al_33, al_34, al_36, al_41, al_42, al_43, al_44, al_49, al_50, al_51, al_52, al_54, al_55, al_56, al_57, al_58, al_59, al_60, al_61, al_62, al_63, al_64, al_65, al_66, al_67, al_68, al_69, al_70, al_71, al_72, al_73, al_74, al_75, al_76, al_77, al_78, al_79, al_80]; decide) | (simp (disch := omega) only [nL, nI_add, pk_mul, nc, Nat.zero_add, al_2, al_3, al_4, al_5, al_7, al_11, al_12, al_13, al_15, al_16, al_17, al_19, al_20, al_21, al_22, al_23, al_24, al_25, al_26, al_28, al_30, al_31, al_32, al_33, al_34, al_36, al_41, al_42, al_43, al_44, al_49, al_50, al_51, al_52, al_54, al_55, al_56, al_57, al_58, al_59, al_60, al_61, al_62, al_63, al_64, al_65, al_66, al_67, al_68, al_69, al_70, al_71, al_72, al_73, al_74, al_75, al_76, al_77, al_78, al_79, al_80]; exact vin (by omega) (by decide))), by (first | exact vin (by simp only [al_2, al_3, al_4, al_5, al_7, al_11, al_12, al_13, al_15, al_16, al_17, al_19, al_20, al_21, al_22, al_23, al_24, al_25, al_26, al_28, al_30, al_31, al_32, al_33, al_34, al_36, al_41, al_42, al_43, al_44, al_49, al_50, al_51, al_52, al_54, al_55, al_56, al_57, al_58, al_59, al_60, al_61, al_62, al_63, al_64, al_65, al_66, al_67, al_68, al_69, al_70, al_71, al_72, al_73, al_74, al_75, al_76, al_77, al_78, al_79, al_80]; omega) (by simp only [al_2, al_3, al_4, al_5, al_7, al_11, al_12, al_13, al_15, al_16, al_17, al_19, al_20, al_21, al_22, al_23, al_24, al_25, al_26, al_28, al_30, al_31, al_32, al_33, al_34, al_36, al_41, al_42, al_43, al_44, al_49, al_50, al_51, al_52, al_54, al_55, al_56, al_57, al_58, al_59, al_60, al_61, al_62, al_63, al_64, al_65, al_66, al_67, al_68, al_69, al_70, al_71, al_72, al_73, al_74, al_75, al_76, al_77, al_78, al_79, al_80]; decide) | (simp (disch := omega) only [nL, nI_add, pk_mul, nc, Nat.zero_add, al_2, al_3, al_4, al_5, al_7, al_11, al_12, al_13, al_15, al_16, al_17, al_19, al_20, al_21, al_22, al_23, al_24, al_25, al_26, al_28, al_30, al_31, al_32, al_33, al_34, al_36, al_41, al_42, al_43, al_44, al_49, al_50, al_51, al_52, al_54, al_55, al_56, al_57, al_58, al_59, al_60, al_61, al_62, al_63, al_64, al_65, al_66, al_67, al_68, al_69, al_70, al_71, al_72, al_73, al_74, al_75, al_76, al_77, al_78, al_79, al_80]; exact vin (by omega) (by decide))), ?_⟩⟩
      · rw [e1] at q
        simp (disch := omega) only [nL, nI_add, pk_mul, n_le, n_lt, n_eq] at q
        omega
      · show z_wp _ _ _ _ 68 _ _ _
        simp (disch := omega) only [nL, nI_add, nc]
        refine ih (i + 1) _ (by omega) (fr.wr hf (by decide)) (fun k hk2 => ?_)
        by_cases e : k = i
        · subst e
          rw [wr_s, if_pos (by omega), k3 k hk2, if_neg (by omega)]
        · rw [wr_k e, k3 k hk2]
          by_cases e2 : k < i
          · rw [if_pos e2, if_pos (by omega)]
          · rw [if_neg e2, if_neg (by omega)]
  have loop : ∀ (n i : Nat), i + n = R → (∀ k, k < i → ¬ fit (nV B.1 k * c) = 0) →
      z_wp (z_call (d + 4)) none k_RF_times (pC σ (oFit (fun i => nV B.1 i * c) B)) 21 [some (.ref 0), some (.int c), some (.int (nI i))] [] σ := by
    intro n
    induction n with
    | zero =>
      intro i hi k3
      obtain rfl : i = R := by omega
      refine z_go 60 [21, 68] ⟨fun q => ⟨σ1, hc, ?_⟩, fun q => ?_⟩
      · rw [oFit, if_pos (fun k hk2 => k3 k (by omega))]
        refine loop2 i 0 σ1 (by omega) fr.rf (fun k hk2 => ?_)
        rw [if_neg (by omega)]
        exact (hN1.2.2.2 k hk2).2.2.2
      · rw [h.1.2.1, eR] at q
        exact absurd (Int32.le_refl _) q
    | succ n ih =>
      intro i hi k3
      have b4 := (h.1.2.2.2 i (by omega)).2.2.2
      refine z_go 60 [21, 68] ⟨fun q => ?_, fun q => ⟨by (first | exact vin (by simp only [al_2, al_3, al_4, al_5, al_7, al_11, al_12, al_13, al_15, al_16, al_17, al_19, al_20, al_21, al_22, al_23, al_24, al_25, al_26, al_28, al_30, al_31, al_32, al_33, al_34, al_36, al_41, al_42, al_43, al_44, al_49, al_50, al_51, al_52, al_54, al_55, al_56, al_57, al_58, al_59, al_60, al_61, al_62, al_63, al_64, al_65, al_66, al_67, al_68, al_69, al_70, al_71, al_72, al_73, al_74, al_75, al_76, al_77, al_78, al_79, al_80]; omega) (by simp only [al_2, al_3, al_4, al_5, al_7, al_11, al_12, al_13, al_15, al_16, al_17, al_19, al_20, al_21, al_22, al_23, al_24, al_25, al_26, al_28, al_30, al_31, al_32, al_33, al_34, al_36, al_41, al_42, al_43, al_44, al_49, al_50, al_51, al_52, al_54, al_55, al_56, al_57, al_58, al_59, al_60, al_61, al_62, al_63, al_64, al_65, al_66, al_67, al_68, al_69, al_70, al_71, al_72, al_73, al_74, al_75, al_76, al_77, al_78, al_79, al_80]; decide) | (simp (disch := omega) only [nL, nI_add, pk_mul, nc, Nat.zero_add, al_2, al_3, al_4, al_5, al_7, al_11, al_12, al_13, al_15, al_16, al_17, al_19, al_20, al_21, al_22, al_23, al_24, al_25, al_26, al_28, al_30, al_31, al_32, al_33, al_34, al_36, al_41, al_42, al_43, al_44, al_49, al_50, al_51, al_52, al_54, al_55, al_56, al_57, al_58, al_59, al_60, al_61, al_62, al_63, al_64, al_65, al_66, al_67, al_68, al_69, al_70, al_71, al_72, al_73, al_74, al_75, al_76, al_77, al_78, al_79, al_80]; exact vin (by omega) (by decide))), _, _, c_fits (d + 3) σ _, fun q2 => ?_, fun q2 => ?_⟩⟩
      · rw [h.1.2.1, eR] at q
        simp (disch := omega) only [nL, nI_add, pk_mul, n_le, n_lt, n_eq] at q
        omega
      · show z_wp _ _ _ _ 21 _ _ _
        rw [nc (by omega), b4] at q2
        simp only [nL, nI_add]
        refine ih (i + 1) (by omega) (fun k hk2 => ?_)
        by_cases e : k = i
        · subst e
          exact q2
        · exact k3 k (by omega)
      · rw [nc (by omega), b4] at q2
        obtain ⟨σt, ht, hRt, hkt⟩ := c_tell (d + 3) h (-1000005)
        rw [oFit, if_neg (fun z => z i (by omega) q2)]
        exact ⟨_, σt, ht, rfl, hRt, hkt⟩
  obtain ⟨σt, ht, hRt, hkt⟩ := c_tell (d + 3) h (-1000001)
  unfold sTimes
  refine z_metC ⟨rfl, z_go 60 [21, 68] ⟨fun q => ?_, fun q => ⟨fun q2 => ?_, fun q2 => ?_⟩⟩⟩
  · rw [if_pos q]
    exact ⟨_, σt, ht, rfl, hRt, hkt⟩
  · rw [if_neg q, if_pos q2]
    exact loop R 0 (by omega) (fun k hk2 => by omega)
  · rw [if_neg q, if_neg q2]
    exact ⟨_, σt, ht, rfl, hRt, hkt⟩
theorem y_add (d : Nat) {σ : z_M} {B : zB} (h : RepD σ B) (hv : VB B) (s : Int32) : opD (d + 5) k_Md_add [.ref 53, .int s] σ (sAdd s B) := by
  refine z_metD ⟨rfl, z_go 60 [18, 69] ⟨_, _, c_askSlot (d + 2) h hv s, fun hs => ?_, fun hs => ?_⟩⟩
  · obtain ⟨P, R, G, eP, hP, eR, hR, -⟩ := id hv.1
    have eg : gR B.1 = R := by unfold gR; rw [eR, nc (by omega)]
    rw [sAdd, if_pos hs]
    obtain ⟨j, hj, rfl, h0, h2⟩ := refS_z hs
    rw [nc (by omega)]
    obtain ⟨σ1, hc, hN1, hs1, hk53, hk, fin⟩ := c_keepB (d + 2) h
    have c4 : ∀ i, i < R → σ.1 62 (10 * j + i) = B.2.2.1 j (3 + i) := by
      intro i hi
      exact ((h.2.2.1 j hj).2 ((hv.2.2.2.1 j hj).nn h0)).2.2 i (by omega) (by rw [h2, eR, n_lt (by omega) (by omega)]; exact hi)
    have loop2 : ∀ (n i : Nat) (σi : z_M), i + n = R → fr [57] σ1 σi → (∀ k, k < 10 → σi.1 57 k = if k < i then nV B.1 k + B.2.2.1 j (3 + k) else nV B.1 k) →
        z_wp (z_call (d + 4)) none k_Md_add (pD σ (oAct 1 (setN B.1 (fun i => nV B.1 i + B.2.2.1 j (3 + i))) B)) 69 [some (.ref 53), some (.int (nI j)), some (.int (refS (nI j) B)), some (.int (nI i))] [] σi := by
      intro n
      induction n with
      | zero =>
        intro i σi hi hf k3
        obtain rfl : i = R := by omega
        have e1 : σi.1 53 1 = nI i := by rw [hf.at (by decide), hN1.2.1, eR]
        refine z_go 60 [18, 69] ⟨fun q => ⟨rfl, fin _ _ _ (hf.wk _ (by decide)) (fun k _ => hf.at (by decide) _) (netD_set hN1 hf (by rw [eg]; exact k3))⟩, fun q => ?_⟩
        rw [e1] at q
        exact absurd (Int32.le_refl _) q
      | succ n ih =>
        intro i σi hi hf k3
        have e1 : σi.1 53 1 = nI R := by rw [hf.at (by decide), hN1.2.1, eR]
        refine z_go 60 [18, 69] ⟨fun q => ?_, fun q => ⟨by (first | exact vin (by simp only [al_2, al_3, al_4, al_5, al_7, al_11, al_12, al_13, al_15, al_16, al_17, al_19, al_20, al_21, al_22, al_23, al_24, al_25, al_26, al_28, al_30, al_31, al_32, al_33, al_34, al_36, al_41, al_42, al_43, al_44, al_49, al_50, al_51, al_52, al_54, al_55, al_56, al_57, al_58, al_59, al_60, al_61, al_62, al_63, al_64, al_65, al_66, al_67, al_68, al_69, al_70, al_71, al_72, al_73, al_74, al_75, al_76, al_77, al_78, al_79, al_80]; omega) (by simp only [al_2, al_3, al_4, al_5, al_7, al_11, al_12, al_13, al_15, al_16, al_17, al_19, al_20, al_21, al_22, al_23, al_24, al_25, al_26, al_28, al_30, al_31, al_32, al_33, al_34, al_36, al_41, al_42, al_43, al_44, al_49, al_50, al_51, al_52, al_54, al_55, al_56, al_57, al_58, al_59, al_60, al_61, al_62, al_63, al_64, al_65, al_66, al_67, al_68, al_69, al_70, al_71, al_72, al_73, al_74, al_75, al_76, al_77, al_78, al_79, al_80]; decide) | (simp (disch := omega) only [nL, nI_add, pk_mul, nc, Nat.zero_add, al_2, al_3, al_4, al_5, al_7, al_11, al_12, al_13, al_15, al_16, al_17, al_19, al_20, al_21, al_22, al_23, al_24, al_25, al_26, al_28, al_30, al_31, al_32, al_33, al_34, al_36, al_41, al_42, al_43, al_44, al_49, al_50, al_51, al_52, al_54, al_55, al_56, al_57, al_58, al_59, al_60, al_61, al_62, al_63, al_64, al_65, al_66, al_67, al_68, al_69, al_70, al_71, al_72, al_73, al_74, al_75, al_76, al_77, al_78, al_79, al_80]; exact vin (by omega) (by decide))), by (first | exact vin (by simp only [al_2, al_3, al_4, al_5, al_7, al_11, al_12, al_13, al_15, al_16, al_17, al_19, al_20, al_21, al_22, al_23, al_24, al_25, al_26, al_28, al_30, al_31, al_32, al_33, al_34, al_36, al_41, al_42, al_43, al_44, al_49, al_50, al_51, al_52, al_54, al_55, al_56, al_57, al_58, al_59, al_60, al_61, al_62, al_63, al_64, al_65, al_66, al_67, al_68, al_69, al_70, al_71, al_72, al_73, al_74, al_75, al_76, al_77, al_78, al_79, al_80]; omega) (by simp only [al_2, al_3, al_4, al_5, al_7, al_11, al_12, al_13, al_15, al_16, al_17, al_19, al_20, al_21, al_22, al_23, al_24, al_25, al_26, al_28, al_30, al_31, al_32, al_33, al_34, al_36, al_41, al_42, al_43, al_44, al_49, al_50, al_51, al_52, al_54, al_55, al_56, al_57, al_58, al_59, al_60, al_61, al_62, al_63, al_64, al_65, al_66, al_67, al_68, al_69, al_70, al_71, al_72, al_73, al_74, al_75, al_76, al_77, al_78, al_79, al_80]; decide) | (simp (disch := omega) only [nL, nI_add, pk_mul, nc, Nat.zero_add, al_2, al_3, al_4, al_5, al_7, al_11, al_12, al_13, al_15, al_16, al_17, al_19, al_20, al_21, al_22, al_23, al_24, al_25, al_26, al_28, al_30, al_31, al_32, al_33, al_34, al_36, al_41, al_42, al_43, al_44, al_49, al_50, al_51, al_52, al_54, al_55, al_56, al_57, al_58, al_59, al_60, al_61, al_62, al_63, al_64, al_65, al_66, al_67, al_68, al_69, al_70, al_71, al_72, al_73, al_74, al_75, al_76, al_77, al_78, al_79, al_80]; exact vin (by omega) (by decide))), by (first | exact vin (by simp only [al_2, al_3, al_4, al_5, al_7, al_11, al_12, al_13, al_15, al_16, al_17, al_19, al_20, al_21, al_22, al_23, al_24, al_25, al_26, al_28, al_30, al_31, al_32, al_33, al_34, al_36, al_41, al_42, al_43, al_44, al_49, al_50, al_51, al_52, al_54, al_55, al_56, al_57, al_58, al_59, al_60, al_61, al_62, al_63, al_64, al_65, al_66, al_67, al_68, al_69, al_70, al_71, al_72, al_73, al_74, al_75, al_76, al_77, al_78, al_79, al_80]; omega) (by simp only [al_2, al_3, al_4, al_5, al_7, al_11, al_12, al_13, al_15, al_16, al_17, al_19, al_20, al_21, al_22, al_23, al_24, al_25, al_26, al_28, al_30, al_31, al_32, al_33, al_34, al_36, al_41, al_42, al_43, al_44, al_49, al_50, al_51, al_52, al_54, al_55, al_56, al_57, al_58, al_59, al_60, al_61, al_62, al_63, al_64, al_65, al_66, al_67, al_68, al_69, al_70, al_71, al_72, al_73, al_74, al_75, al_76, al_77, al_78, al_79, al_80]; decide) | (simp (disch := omega) only [nL, nI_add, pk_mul, nc, Nat.zero_add, al_2, al_3, al_4, al_5, al_7, al_11, al_12, al_13, al_15, al_16, al_17, al_19, al_20, al_21, al_22, al_23, al_24, al_25, al_26, al_28, al_30, al_31, al_32, al_33, al_34, al_36, al_41, al_42, al_43, al_44, al_49, al_50, al_51, al_52, al_54, al_55, al_56, al_57, al_58, al_59, al_60, al_61, al_62, al_63, al_64, al_65, al_66, al_67, al_68, al_69, al_70, al_71, al_72, al_73, al_74, al_75, al_76, al_77, al_78, al_79, al_80]; exact vin (by omega) (by decide))), ?_⟩⟩
        · rw [e1] at q
          simp (disch := omega) only [nL, nI_add, pk_mul, n_le, n_lt, n_eq] at q
          omega
        · show z_wp _ _ _ _ 69 _ _ _
          simp (disch := omega) only [nL, nI_add, pk_mul, nc]
          refine ih (i + 1) _ (by omega) (fr.wr hf (by decide)) (fun k hk2 => ?_)
          by_cases e : k = i
          · subst e
            rw [wr_s, if_pos (by omega), k3 k hk2, if_neg (by omega), hf.at (by decide), hk _ (by decide) (by decide), c4 k (by omega)]
          · rw [wr_k e, k3 k hk2]
            by_cases e2 : k < i
            · rw [if_pos e2, if_pos (by omega)]
            · rw [if_neg e2, if_neg (by omega)]
    have loop : ∀ (n i : Nat), i + n = R → (∀ k, k < i → ¬ fit (nV B.1 k + B.2.2.1 j (3 + k)) = 0) →
        z_wp (z_call (d + 4)) none k_Md_add (pD σ (oFit (fun i => nV B.1 i + B.2.2.1 j (3 + i)) B)) 18 [some (.ref 53), some (.int (nI j)), some (.int (refS (nI j) B)), some (.int (nI i))] [] σ := by
      intro n
      induction n with
      | zero =>
        intro i hi k3
        obtain rfl : i = R := by omega
        refine z_go 60 [18, 69] ⟨fun q => ⟨σ1, hc, ?_⟩, fun q => ?_⟩
        · rw [oFit, if_pos (fun k hk2 => k3 k (by omega))]
          refine loop2 i 0 σ1 (by omega) fr.rf (fun k hk2 => ?_)
          rw [if_neg (by omega)]
          exact (hN1.2.2.2 k hk2).2.2.2
        · rw [h.1.2.1, eR] at q
          exact absurd (Int32.le_refl _) q
      | succ n ih =>
        intro i hi k3
        have b4 := (h.1.2.2.2 i (by omega)).2.2.2
        have c5 := c4 i (by omega)
        refine z_go 60 [18, 69] ⟨fun q => ?_, fun q => ⟨by (first | exact vin (by simp only [al_2, al_3, al_4, al_5, al_7, al_11, al_12, al_13, al_15, al_16, al_17, al_19, al_20, al_21, al_22, al_23, al_24, al_25, al_26, al_28, al_30, al_31, al_32, al_33, al_34, al_36, al_41, al_42, al_43, al_44, al_49, al_50, al_51, al_52, al_54, al_55, al_56, al_57, al_58, al_59, al_60, al_61, al_62, al_63, al_64, al_65, al_66, al_67, al_68, al_69, al_70, al_71, al_72, al_73, al_74, al_75, al_76, al_77, al_78, al_79, al_80]; omega) (by simp only [al_2, al_3, al_4, al_5, al_7, al_11, al_12, al_13, al_15, al_16, al_17, al_19, al_20, al_21, al_22, al_23, al_24, al_25, al_26, al_28, al_30, al_31, al_32, al_33, al_34, al_36, al_41, al_42, al_43, al_44, al_49, al_50, al_51, al_52, al_54, al_55, al_56, al_57, al_58, al_59, al_60, al_61, al_62, al_63, al_64, al_65, al_66, al_67, al_68, al_69, al_70, al_71, al_72, al_73, al_74, al_75, al_76, al_77, al_78, al_79, al_80]; decide) | (simp (disch := omega) only [nL, nI_add, pk_mul, nc, Nat.zero_add, al_2, al_3, al_4, al_5, al_7, al_11, al_12, al_13, al_15, al_16, al_17, al_19, al_20, al_21, al_22, al_23, al_24, al_25, al_26, al_28, al_30, al_31, al_32, al_33, al_34, al_36, al_41, al_42, al_43, al_44, al_49, al_50, al_51, al_52, al_54, al_55, al_56, al_57, al_58, al_59, al_60, al_61, al_62, al_63, al_64, al_65, al_66, al_67, al_68, al_69, al_70, al_71, al_72, al_73, al_74, al_75, al_76, al_77, al_78, al_79, al_80]; exact vin (by omega) (by decide))), by (first | exact vin (by simp only [al_2, al_3, al_4, al_5, al_7, al_11, al_12, al_13, al_15, al_16, al_17, al_19, al_20, al_21, al_22, al_23, al_24, al_25, al_26, al_28, al_30, al_31, al_32, al_33, al_34, al_36, al_41, al_42, al_43, al_44, al_49, al_50, al_51, al_52, al_54, al_55, al_56, al_57, al_58, al_59, al_60, al_61, al_62, al_63, al_64, al_65, al_66, al_67, al_68, al_69, al_70, al_71, al_72, al_73, al_74, al_75, al_76, al_77, al_78, al_79, al_80]; omega) (by simp only [al_2, al_3, al_4, al_5, al_7, al_11, al_12, al_13, al_15, al_16, al_17, al_19, al_20, al_21, al_22, al_23, al_24, al_25, al_26, al_28, al_30, al_31, al_32, al_33, al_34, al_36, al_41, al_42, al_43, al_44, al_49, al_50, al_51, al_52, al_54, al_55, al_56, al_57, al_58, al_59, al_60, al_61, al_62, al_63, al_64, al_65, al_66, al_67, al_68, al_69, al_70, al_71, al_72, al_73, al_74, al_75, al_76, al_77, al_78, al_79, al_80]; decide) | (simp (disch := omega) only [nL, nI_add, pk_mul, nc, Nat.zero_add, al_2, al_3, al_4, al_5, al_7, al_11, al_12, al_13, al_15, al_16, al_17, al_19, al_20, al_21, al_22, al_23, al_24, al_25, al_26, al_28, al_30, al_31, al_32, al_33, al_34, al_36, al_41, al_42, al_43, al_44, al_49, al_50, al_51, al_52, al_54, al_55, al_56, al_57, al_58, al_59, al_60, al_61, al_62, al_63, al_64, al_65, al_66, al_67, al_68, al_69, al_70, al_71, al_72, al_73, al_74, al_75, al_76, al_77, al_78, al_79, al_80]; exact vin (by omega) (by decide))), _, _, c_isNumber (d + 3) σ _, fun q2 => ?_, fun q2 => ?_⟩⟩
        · rw [h.1.2.1, eR] at q
          simp (disch := omega) only [nL, nI_add, pk_mul, n_le, n_lt, n_eq] at q
          omega
        · show z_wp _ _ _ _ 18 _ _ _
          simp (disch := omega) only [nL, nI_add, pk_mul, nc, b4, c5] at q2 ⊢
          refine ih (i + 1) (by omega) (fun k hk2 => ?_)
          by_cases e : k = i
          · subst e
            exact q2
          · exact k3 k (by omega)
        · simp (disch := omega) only [nL, nI_add, pk_mul, nc, b4, c5] at q2
          obtain ⟨σt, ht, hRt, hkt⟩ := c_finding (d + 3) h (-1000005)
          rw [oFit, if_neg (fun z => z i (by omega) q2)]
          exact ⟨_, σt, ht, rfl, hRt, hkt⟩
    exact loop R 0 (by omega) (fun k hk2 => by omega)
  · obtain ⟨σt, ht, hRt, hkt⟩ := c_finding (d + 3) h (refS s B)
    rw [sAdd, if_neg hs]
    exact ⟨_, σt, ht, rfl, hRt, hkt⟩
theorem y_times (d : Nat) {σ : z_M} {B : zB} (h : RepD σ B) (hv : VB B) (c : Int32) : opD (d + 5) k_Md_times [.ref 53, .int c] σ (sTimes c B) := by
  obtain ⟨P, R, G, eP, hP, eR, hR, -⟩ := hv.1
  have eg : gR B.1 = R := by unfold gR; rw [eR, nc (by omega)]
  obtain ⟨σ1, hc, hN1, hs1, hk53, hk, fin⟩ := c_keepB (d + 2) h
  have loop2 : ∀ (n i : Nat) (σi : z_M), i + n = R → fr [57] σ1 σi → (∀ k, k < 10 → σi.1 57 k = if k < i then nV B.1 k * c else nV B.1 k) →
      z_wp (z_call (d + 4)) none k_Md_times (pD σ (oAct 1 (setN B.1 (fun i => nV B.1 i * c)) B)) 62 [some (.ref 53), some (.int c), some (.int (nI i))] [] σi := by
    intro n
    induction n with
    | zero =>
      intro i σi hi hf k3
      obtain rfl : i = R := by omega
      have e1 : σi.1 53 1 = nI i := by rw [hf.at (by decide), hN1.2.1, eR]
      refine z_go 60 [21, 62] ⟨fun q => ⟨rfl, fin _ _ _ (hf.wk _ (by decide)) (fun k _ => hf.at (by decide) _) (netD_set hN1 hf (by rw [eg]; exact k3))⟩, fun q => ?_⟩
      rw [e1] at q
      exact absurd (Int32.le_refl _) q
    | succ n ih =>
      intro i σi hi hf k3
      have e1 : σi.1 53 1 = nI R := by rw [hf.at (by decide), hN1.2.1, eR]
      refine z_go 60 [21, 62] ⟨fun q => ?_, fun q => ⟨by (first | exact vin (by simp only [al_2, al_3, al_4, al_5, al_7, al_11, al_12, al_13, al_15, al_16, al_17, al_19, al_20, al_21, al_22, al_23, al_24, al_25, al_26, al_28, al_30, al_31, al_32, al_33, al_34, al_36, al_41, al_42, al_43, al_44, al_49, al_50, al_51, al_52, al_54, al_55, al_56, al_57, al_58, al_59, al_60, al_61, al_62, al_63, al_64, al_65, al_66, al_67, al_68, al_69, al_70, al_71, al_72, al_73, al_74, al_75, al_76, al_77, al_78, al_79, al_80]; omega) (by simp only [al_2, al_3, al_4, al_5, al_7, al_11, al_12, al_13, al_15, al_16, al_17, al_19, al_20, al_21, al_22, al_23, al_24, al_25, al_26, al_28, al_30, al_31, al_32, al_33, al_34, al_36, al_41, al_42, al_43, al_44, al_49, al_50, al_51, al_52, al_54, al_55, al_56, al_57, al_58, al_59, al_60, al_61, al_62, al_63, al_64, al_65, al_66, al_67, al_68, al_69, al_70, al_71, al_72, al_73, al_74, al_75, al_76, al_77, al_78, al_79, al_80]; decide) | (simp (disch := omega) only [nL, nI_add, pk_mul, nc, Nat.zero_add, al_2, al_3, al_4, al_5, al_7, al_11, al_12, al_13, al_15, al_16, al_17, al_19, al_20, al_21, al_22, al_23, al_24, al_25, al_26, al_28, al_30, al_31, al_32, al_33, al_34, al_36, al_41, al_42, al_43, al_44, al_49, al_50, al_51, al_52, al_54, al_55, al_56, al_57, al_58, al_59, al_60, al_61, al_62, al_63, al_64, al_65, al_66, al_67, al_68, al_69, al_70, al_71, al_72, al_73, al_74, al_75, al_76, al_77, al_78, al_79, al_80]; exact vin (by omega) (by decide))), by (first | exact vin (by simp only [al_2, al_3, al_4, al_5, al_7, al_11, al_12, al_13, al_15, al_16, al_17, al_19, al_20, al_21, al_22, al_23, al_24, al_25, al_26, al_28, al_30, al_31, al_32, al_33, al_34, al_36, al_41, al_42, al_43, al_44, al_49, al_50, al_51, al_52, al_54, al_55, al_56, al_57, al_58, al_59, al_60, al_61, al_62, al_63, al_64, al_65, al_66, al_67, al_68, al_69, al_70, al_71, al_72, al_73, al_74, al_75, al_76, al_77, al_78, al_79, al_80]; omega) (by simp only [al_2, al_3, al_4, al_5, al_7, al_11, al_12, al_13, al_15, al_16, al_17, al_19, al_20, al_21, al_22, al_23, al_24, al_25, al_26, al_28, al_30, al_31, al_32, al_33, al_34, al_36, al_41, al_42, al_43, al_44, al_49, al_50, al_51, al_52, al_54, al_55, al_56, al_57, al_58, al_59, al_60, al_61, al_62, al_63, al_64, al_65, al_66, al_67, al_68, al_69, al_70, al_71, al_72, al_73, al_74, al_75, al_76, al_77, al_78, al_79, al_80]; decide) | (simp (disch := omega) only [nL, nI_add, pk_mul, nc, Nat.zero_add, al_2, al_3, al_4, al_5, al_7, al_11, al_12, al_13, al_15, al_16, al_17, al_19, al_20, al_21, al_22, al_23, al_24, al_25, al_26, al_28, al_30, al_31, al_32, al_33, al_34, al_36, al_41, al_42, al_43, al_44, al_49, al_50, al_51, al_52, al_54, al_55, al_56, al_57, al_58, al_59, al_60, al_61, al_62, al_63, al_64, al_65, al_66, al_67, al_68, al_69, al_70, al_71, al_72, al_73, al_74, al_75, al_76, al_77, al_78, al_79, al_80]; exact vin (by omega) (by decide))), ?_⟩⟩
      · rw [e1] at q
        simp (disch := omega) only [nL, nI_add, pk_mul, n_le, n_lt, n_eq] at q
        omega
      · show z_wp _ _ _ _ 62 _ _ _
        simp (disch := omega) only [nL, nI_add, nc]
        refine ih (i + 1) _ (by omega) (fr.wr hf (by decide)) (fun k hk2 => ?_)
        by_cases e : k = i
        · subst e
          rw [wr_s, if_pos (by omega), k3 k hk2, if_neg (by omega)]
        · rw [wr_k e, k3 k hk2]
          by_cases e2 : k < i
          · rw [if_pos e2, if_pos (by omega)]
          · rw [if_neg e2, if_neg (by omega)]
  have loop : ∀ (n i : Nat), i + n = R → (∀ k, k < i → ¬ fit (nV B.1 k * c) = 0) →
      z_wp (z_call (d + 4)) none k_Md_times (pD σ (oFit (fun i => nV B.1 i * c) B)) 21 [some (.ref 53), some (.int c), some (.int (nI i))] [] σ := by
    intro n
    induction n with
    | zero =>
      intro i hi k3
      obtain rfl : i = R := by omega
      refine z_go 60 [21, 62] ⟨fun q => ⟨σ1, hc, ?_⟩, fun q => ?_⟩
      · rw [oFit, if_pos (fun k hk2 => k3 k (by omega))]
        refine loop2 i 0 σ1 (by omega) fr.rf (fun k hk2 => ?_)
        rw [if_neg (by omega)]
        exact (hN1.2.2.2 k hk2).2.2.2
      · rw [h.1.2.1, eR] at q
        exact absurd (Int32.le_refl _) q
    | succ n ih =>
      intro i hi k3
      have b4 := (h.1.2.2.2 i (by omega)).2.2.2
      refine z_go 60 [21, 62] ⟨fun q => ?_, fun q => ⟨by (first | exact vin (by simp only [al_2, al_3, al_4, al_5, al_7, al_11, al_12, al_13, al_15, al_16, al_17, al_19, al_20, al_21, al_22, al_23, al_24, al_25, al_26, al_28, al_30, al_31, al_32, al_33, al_34, al_36, al_41, al_42, al_43, al_44, al_49, al_50, al_51, al_52, al_54, al_55, al_56, al_57, al_58, al_59, al_60, al_61, al_62, al_63, al_64, al_65, al_66, al_67, al_68, al_69, al_70, al_71, al_72, al_73, al_74, al_75, al_76, al_77, al_78, al_79, al_80]; omega) (by simp only [al_2, al_3, al_4, al_5, al_7, al_11, al_12, al_13, al_15, al_16, al_17, al_19, al_20, al_21, al_22, al_23, al_24, al_25, al_26, al_28, al_30, al_31, al_32, al_33, al_34, al_36, al_41, al_42, al_43, al_44, al_49, al_50, al_51, al_52, al_54, al_55, al_56, al_57, al_58, al_59, al_60, al_61, al_62, al_63, al_64, al_65, al_66, al_67, al_68, al_69, al_70, al_71, al_72, al_73, al_74, al_75, al_76, al_77, al_78, al_79, al_80]; decide) | (simp (disch := omega) only [nL, nI_add, pk_mul, nc, Nat.zero_add, al_2, al_3, al_4, al_5, al_7, al_11, al_12, al_13, al_15, al_16, al_17, al_19, al_20, al_21, al_22, al_23, al_24, al_25, al_26, al_28, al_30, al_31, al_32, al_33, al_34, al_36, al_41, al_42, al_43, al_44, al_49, al_50, al_51, al_52, al_54, al_55, al_56, al_57, al_58, al_59, al_60, al_61, al_62, al_63, al_64, al_65, al_66, al_67, al_68, al_69, al_70, al_71, al_72, al_73, al_74, al_75, al_76, al_77, al_78, al_79, al_80]; exact vin (by omega) (by decide))), _, _, c_isNumber (d + 3) σ _, fun q2 => ?_, fun q2 => ?_⟩⟩
      · rw [h.1.2.1, eR] at q
        simp (disch := omega) only [nL, nI_add, pk_mul, n_le, n_lt, n_eq] at q
        omega
      · show z_wp _ _ _ _ 21 _ _ _
        rw [nc (by omega), b4] at q2
        simp only [nL, nI_add]
        refine ih (i + 1) (by omega) (fun k hk2 => ?_)
        by_cases e : k = i
        · subst e
          exact q2
        · exact k3 k (by omega)
      · rw [nc (by omega), b4] at q2
        obtain ⟨σt, ht, hRt, hkt⟩ := c_finding (d + 3) h (-1000005)
        rw [oFit, if_neg (fun z => z i (by omega) q2)]
        exact ⟨_, σt, ht, rfl, hRt, hkt⟩
  obtain ⟨σt, ht, hRt, hkt⟩ := c_finding (d + 3) h (-1000001)
  unfold sTimes
  refine z_metD ⟨rfl, z_go 60 [21, 62] ⟨fun q => ?_, fun q => ⟨fun q2 => ?_, fun q2 => ?_⟩⟩⟩
  · rw [if_pos q]
    exact ⟨_, σt, ht, rfl, hRt, hkt⟩
  · rw [if_neg q, if_pos q2]
    exact loop R 0 (by omega) (fun k hk2 => by omega)
  · rw [if_neg q, if_neg q2]
    exact ⟨_, σt, ht, rfl, hRt, hkt⟩
