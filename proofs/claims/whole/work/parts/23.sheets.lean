/-! sheets -/
theorem orj_0 {A B C D : Prop} (h : A) : A ∨ B ∨ C ∨ D := Or.inl h
theorem orj_1 {A B C D : Prop} (h : B) : A ∨ B ∨ C ∨ D := Or.inr (Or.inl h)
theorem orj_2 {A B C D : Prop} (h : C) : A ∨ B ∨ C ∨ D := Or.inr (Or.inr (Or.inl h))
theorem orj_3 {A B C D : Prop} (h : D) : A ∨ B ∨ C ∨ D := Or.inr (Or.inr (Or.inr h))
theorem tc_0 : (0 : Int32).toNatClampNeg = 0 := rfl
theorem tc_1 : (1 : Int32).toNatClampNeg = 1 := rfl
theorem tc_2 : (2 : Int32).toNatClampNeg = 2 := rfl
theorem tc_3 : (3 : Int32).toNatClampNeg = 3 := rfl
theorem c_isSheet (d : Nat) (σ : z_M) (a : Int32) : z_call (d + 1) k_RF_isSheet [.int a] σ (some (.int (hasP 4 a))) σ := by
  unfold hasP
  refine ⟨rfl, z_go 20 [] ⟨fun h => ⟨Or.inl rfl, by rw [if_pos h], rfl⟩, fun h => ⟨fun h2 => ⟨Or.inl rfl, by rw [if_neg h, if_pos h2], rfl⟩, fun h2 => ⟨Or.inr rfl, by rw [if_neg h, if_neg h2], rfl⟩⟩⟩⟩
theorem c_isSlot (d : Nat) (σ : z_M) (a : Int32) : z_call (d + 1) k_RF_isSlot [.int a] σ (some (.int (hasP 4 a))) σ := by
  unfold hasP
  refine ⟨rfl, z_go 20 [] ⟨fun h => ⟨Or.inl rfl, by rw [if_pos h], rfl⟩, fun h => ⟨fun h2 => ⟨Or.inl rfl, by rw [if_neg h, if_pos h2], rfl⟩, fun h2 => ⟨Or.inr rfl, by rw [if_neg h, if_neg h2], rfl⟩⟩⟩⟩
theorem c_misSheet (d : Nat) (σ : z_M) (a : Int32) : z_call (d + 1) k_Md_isSheet [.int a] σ (some (.int (hasP 4 a))) σ := by
  unfold hasP
  refine ⟨rfl, z_go 20 [] ⟨fun h => ⟨Or.inl rfl, by rw [if_pos h], rfl⟩, fun h => ⟨fun h2 => ⟨Or.inl rfl, by rw [if_neg h, if_pos h2], rfl⟩, fun h2 => ⟨Or.inr rfl, by rw [if_neg h, if_neg h2], rfl⟩⟩⟩⟩
theorem c_misSlot (d : Nat) (σ : z_M) (a : Int32) : z_call (d + 1) k_Md_isSlot [.int a] σ (some (.int (hasP 4 a))) σ := by
  unfold hasP
  refine ⟨rfl, z_go 20 [] ⟨fun h => ⟨Or.inl rfl, by rw [if_pos h], rfl⟩, fun h => ⟨fun h2 => ⟨Or.inl rfl, by rw [if_neg h, if_pos h2], rfl⟩, fun h2 => ⟨Or.inr rfl, by rw [if_neg h, if_neg h2], rfl⟩⟩⟩⟩
def oSh (r : Int32) (sh : Nat → Nat → Int32) (B : zB) : Int32 × zB := (r, B.1, B.2.1, B.2.2.1, sh, B.2.2.2.2)
theorem RepC.sheets {σ σ' : z_M} {B : zB} (h : RepC σ B) (hf : ∀ c, c < 45 ∨ 53 ≤ c → σ'.1 c = σ.1 c) {sh : Nat → Nat → Int32} (hs : shC σ' sh) (r : Int32) : RepC σ' (oSh r sh B).2 ∧ kC σ σ' := by
  obtain ⟨h1, h2, h3, h4, h5, h6⟩ := h
  refine ⟨⟨h1.fr (hf 1 (by omega)) (hf 2 (by omega)) (hf 3 (by omega)) (hf 4 (by omega)) (hf 5 (by omega)), h2.fr (hf 6 (by omega)) (hf 7 (by omega)), h3.fr (fun c _ _ => hf c (by omega)), hs, by rw [hf 0 (by omega)]; exact h5, ?_⟩, fun c hc => hf c (Or.inr hc)⟩
  show svC σ' B.1
  unfold svC
  rw [hf 0 (by omega), hf 15 (by omega), hf 16 (by omega), hf 17 (by omega)]
  exact h6
theorem RepD.sheets {σ σ' : z_M} {B : zB} (h : RepD σ B) (hf : ∀ c, c < 63 → σ'.1 c = σ.1 c) (h2' : σ'.2 = σ.2) {sh : Nat → Nat → Int32} (hs : shD σ' sh) (r : Int32) : RepD σ' (oSh r sh B).2 ∧ kD σ σ' := by
  obtain ⟨h1, h2, h3, h4, h5⟩ := h
  have k53 := hf 53 (by omega)
  exact ⟨⟨h1.fr (by rw [k53]) (by rw [k53]) (by rw [k53]) (hf 54 (by omega)) (hf 55 (by omega)) (hf 56 (by omega)) (hf 57 (by omega)), h2.fr (by rw [k53]) (hf 58 (by omega)), h3.fr (hf 59 (by omega)) (hf 60 (by omega)) (hf 61 (by omega)) (hf 62 (by omega)), hs, by rw [k53]; exact h5⟩, fun c hc => hf c (by omega), h2'⟩
/-- one sheet of the four is another -/
def upS (sh : Nat → Nat → Int32) (j : Nat) (f : Nat → Int32) : Nat → Nat → Int32 := fun k => if k = j then f else sh k
theorem shC.up {σ σ' : z_M} {sh : Nat → Nat → Int32} (h : shC σ sh) {j : Nat} (hj : j < 4) (hf : ∀ c, 45 ≤ c → c < 53 → c ≠ 45 + j → c ≠ 49 + j → σ'.1 c = σ.1 c) {f : Nat → Int32} (h0 : σ'.1 (45 + j) 0 = f 0) (h1 : σ'.1 (45 + j) 1 = f 1) (h2 : ∀ i, i < 24 → σ'.1 (49 + j) i = f (2 + i)) : shC σ' (upS sh j f) := by
  intro k hk
  unfold upS
  by_cases q : k = j
  · subst q
    simp only [if_true]
    exact ⟨h0, h1, h2⟩
  · simp only [if_neg q]
    rw [hf (45 + k) (by omega) (by omega) (by omega) (by omega), hf (49 + k) (by omega) (by omega) (by omega) (by omega)]
    exact h k hk
theorem VB.sheets {B : zB} (h : VB B) (r : Int32) {j : Nat} {f : Nat → Int32} (hf : HV f) : VB (oSh r (upS B.2.2.2.1 j f) B).2 := by
  obtain ⟨h1, h2, h3, h4, h5⟩ := h
  refine ⟨h1, h2, h3, h4, fun k hk => ?_⟩
  show HV (upS B.2.2.2.1 j f k)
  unfold upS
  split
  · exact hf
  · exact h5 k hk
def newS (b n : Int32) : Nat → Int32 := fun k => if k = 0 then b else if k = 1 then (if b = 0 then 0 else n) else 0
def sSheet (s b n : Int32) (B : zB) : Int32 × zB := if hasP 4 s = 0 then oTell (-1000001) B else if b = 0 ∨ b = 8 ∨ b = 16 ∨ b = 32 then (if 0 ≤ n then (if n ≤ 24 then oSh (if b = 0 then 0 else n) (upS B.2.2.2.1 s.toNatClampNeg (newS b n)) B else oTell (-1000001) B) else oTell (-1000003) B) else oTell (-1000001) B
theorem c_prepare_0 (d : Nat) (σ : z_M) (b n : Int32) : ∃ σ', z_call (d + 1) k_Sheet_prepare [.ref 45, .int b, .int n] σ none σ' ∧ fr [45, 49] σ σ' ∧ σ'.1 45 0 = b ∧ σ'.1 45 1 = (if b = 0 then 0 else n) ∧ ∀ i, i < 24 → σ'.1 49 i = 0 := by
  have loop : ∀ (m i : Nat) (σi : z_M) (v : Int32), i + m = 24 → fr [45, 49] σ σi → σi.1 45 0 = b → σi.1 45 1 = v → (∀ k, k < i → σi.1 49 k = 0) → z_wp (z_call d) none k_Sheet_prepare (fun r s => r = none ∧ (fr [45, 49] σ s ∧ s.1 45 0 = b ∧ s.1 45 1 = v ∧ ∀ i, i < 24 → s.1 49 i = 0)) 20 [some (.ref 45), some (.int b), some (.int n), some (.int (nI i))] [] σi := by
    intro m
    induction m with
    | zero =>
      intro i σi v hi hf h0 h1 h2
      refine z_go 20 [20] ⟨fun q => ⟨rfl, hf, h0, h1, fun k hk => h2 k (by omega)⟩, fun q => ?_⟩
      simp (disch := omega) only [nL, n_le] at q
      omega
    | succ m ih =>
      intro i σi v hi hf h0 h1 h2
      refine z_go 20 [20] ⟨fun q => ?_, fun q => ⟨by (first | exact vin (by simp only [al_2, al_3, al_4, al_5, al_7, al_11, al_12, al_13, al_15, al_16, al_17, al_19, al_20, al_21, al_22, al_23, al_24, al_25, al_26, al_28, al_30, al_31, al_32, al_33, al_34, al_36, al_41, al_42, al_43, al_44, al_49, al_50, al_51, al_52, al_54, al_55, al_56, al_57, al_58, al_59, al_60, al_61, al_62, al_63, al_64, al_65, al_66, al_67, al_68, al_69, al_70, al_71, al_72, al_73, al_74, al_75, al_76, al_77, al_78, al_79, al_80]; omega) (by simp only [al_2, al_3, al_4, al_5, al_7, al_11, al_12, al_13, al_15, al_16, al_17, al_19, al_20, al_21, al_22, al_23, al_24, al_25, al_26, al_28, al_30, al_31, al_32, al_33, al_34, al_36, al_41, al_42, al_43, al_44, al_49, al_50, al_51, al_52, al_54, al_55, al_56, al_57, al_58, al_59, al_60, al_61, al_62, al_63, al_64, al_65, al_66, al_67, al_68, al_69, al_70, al_71, al_72, al_73, al_74, al_75, al_76, al_77, al_78, al_79, al_80]; decide) | (simp (disch := omega) only [nL, nI_add, pk_mul, nc, Nat.zero_add, al_2, al_3, al_4, al_5, al_7, al_11, al_12, al_13, al_15, al_16, al_17, al_19, al_20, al_21, al_22, al_23, al_24, al_25, al_26, al_28, al_30, al_31, al_32, al_33, al_34, al_36, al_41, al_42, al_43, al_44, al_49, al_50, al_51, al_52, al_54, al_55, al_56, al_57, al_58, al_59, al_60, al_61, al_62, al_63, al_64, al_65, al_66, al_67, al_68, al_69, al_70, al_71, al_72, al_73, al_74, al_75, al_76, al_77, al_78, al_79, al_80]; exact vin (by omega) (by decide))), ?_⟩⟩
      · simp (disch := omega) only [nL, n_le] at q
        omega
      · show z_wp _ _ _ _ 20 _ _ _
        simp (disch := omega) only [nL, nI_add, nc]
        refine ih (i + 1) _ v (by omega) (fr.wr hf (by decide)) (by rw [wr_c (by decide)]; exact h0) (by rw [wr_c (by decide)]; exact h1) (fun k hk => ?_)
        by_cases e : k = i
        · subst e
          rw [wr_s]
          rfl
        · rw [wr_k e]
          exact h2 k (by omega)
  refine z_metV ⟨rfl, z_go 20 [20] ⟨fun q => ?_, fun q => ?_⟩⟩
  · rw [if_neg q]
    exact loop 24 0 _ n rfl (by (repeat (first | exact fr.rf | refine fr.cp ?_ (by decide) | refine fr.wr ?_ (by decide) | refine fr.wl ?_ (by decide)))) (by simp (disch := omega) only [nL, nI_add, pk_mul, nc, cp_in, cp_lo, cp_hi, cp_ne, wr_s, wr_k, wr_c, wr_e, Nat.zero_add]) (by simp (disch := omega) only [nL, nI_add, pk_mul, nc, cp_in, cp_lo, cp_hi, cp_ne, wr_s, wr_k, wr_c, wr_e, Nat.zero_add]) (fun k hk => by omega)
  · rw [if_pos q]
    exact loop 24 0 _ 0 rfl (by (repeat (first | exact fr.rf | refine fr.cp ?_ (by decide) | refine fr.wr ?_ (by decide) | refine fr.wl ?_ (by decide)))) (by simp (disch := omega) only [nL, nI_add, pk_mul, nc, cp_in, cp_lo, cp_hi, cp_ne, wr_s, wr_k, wr_c, wr_e, Nat.zero_add]) (by simp (disch := omega) only [nL, nI_add, pk_mul, nc, cp_in, cp_lo, cp_hi, cp_ne, wr_s, wr_k, wr_c, wr_e, Nat.zero_add]) (fun k hk => by omega)
theorem x_sheet_0 (d : Nat) {σ : z_M} {B : zB} (h : RepC σ B) (b n : Int32) : opC (d + 5) k_RF_sheet [.ref 0, .int 0, .int b, .int n] σ (sSheet 0 b n B) := by
  obtain ⟨σt, ht, hRt, hkt⟩ := c_tell (d + 3) h (-1000001)
  obtain ⟨σu, hu, hRu, hku⟩ := c_tell (d + 3) h (-1000003)
  obtain ⟨σ1, hc, hf, e0, e1, e2⟩ := c_prepare_0 (d + 3) σ b n
  have hs : ¬ hasP 4 0 = 0 := by decide
  have good : (b = 0 ∨ b = 8 ∨ b = 16 ∨ b = 32) → (0 ≤ n → ∀ o, (o = if n ≤ 24 then oSh (if b = 0 then 0 else n) (upS B.2.2.2.1 0 (newS b n)) B else oTell (-1000001) B) → o = sSheet 0 b n B) ∧ (¬ 0 ≤ n → oTell (-1000003) B = sSheet 0 b n B) := by
    intro hb
    refine ⟨fun hn o ho => ?_, fun hn => ?_⟩
    · rw [ho, sSheet, if_neg hs, if_pos hb, if_pos hn]
      rfl
    · rw [sSheet, if_neg hs, if_pos hb, if_neg hn]
  have fin : RepC σ1 (oSh (if b = 0 then 0 else n) (upS B.2.2.2.1 0 (newS b n)) B).2 ∧ kC σ σ1 := by
    refine h.sheets (fun c hc => hf.1 c (by simp; omega)) (h.2.2.2.1.up (by decide) (fun c _ _ a b => hf.1 c (by simp; omega)) ?_ ?_ ?_) _
    · exact e0
    · exact e1
    · intro i hi
      rw [show 49 + 0 = 49 from rfl, e2 i hi]
      simp only [newS]
      rw [if_neg (by omega), if_neg (by omega)]
  have rest : (b = 0 ∨ b = 8 ∨ b = 16 ∨ b = 32) → z_vc (z_call (d + 4)) none k_RF_sheet [] (z_wp (z_call (d + 4)) none k_RF_sheet (pC σ (sSheet 0 b n B))) (pC σ (sSheet 0 b n B)) 30 36 [some (.ref 0), some (.int 0), some (.int b), some (.int n)] [] σ := by
    intro hb
    obtain ⟨g1, g2⟩ := good hb
    refine ⟨fun q => ⟨fun q2 => orj_0 ⟨rfl, σ1, hc, orj_0 ⟨rfl, ?_⟩⟩, fun q2 => ?_⟩, fun q => ?_⟩
    · rw [← g1 q _ (if_pos q2).symm]
      exact ⟨by rw [show σ1.1 45 1 = _ from e1]; rfl, fin⟩
    · rw [← g1 q _ (if_neg q2).symm]
      exact ⟨_, σt, ht, rfl, hRt, hkt⟩
    · rw [← g2 q]
      exact ⟨_, σu, hu, rfl, hRu, hku⟩
  refine z_metC ⟨rfl, z_go 60 [36] ⟨_, _, c_isSheet (d + 3) σ 0, fun q => absurd q hs, fun q => ⟨fun q1 => ?_, fun q1 => ⟨fun q2 => ?_, fun q2 => ⟨fun q3 => ?_, fun q3 => ⟨fun q4 => ?_, fun q4 => ?_⟩⟩⟩⟩⟩⟩
  · exact z_vc_wp (rest (Or.inl q1))
  · exact z_vc_wp (rest (Or.inr (Or.inl q2)))
  · exact z_vc_wp (rest (Or.inr (Or.inr (Or.inl q3))))
  · exact z_vc_wp (rest (Or.inr (Or.inr (Or.inr q4))))
  · rw [sSheet, if_neg hs, if_neg (by rintro (z | z | z | z); exact q1 z; exact q2 z; exact q3 z; exact q4 z)]
    exact ⟨_, σt, ht, rfl, hRt, hkt⟩
theorem c_prepare_1 (d : Nat) (σ : z_M) (b n : Int32) : ∃ σ', z_call (d + 1) k_Sheet_prepare [.ref 46, .int b, .int n] σ none σ' ∧ fr [46, 50] σ σ' ∧ σ'.1 46 0 = b ∧ σ'.1 46 1 = (if b = 0 then 0 else n) ∧ ∀ i, i < 24 → σ'.1 50 i = 0 := by
  have loop : ∀ (m i : Nat) (σi : z_M) (v : Int32), i + m = 24 → fr [46, 50] σ σi → σi.1 46 0 = b → σi.1 46 1 = v → (∀ k, k < i → σi.1 50 k = 0) → z_wp (z_call d) none k_Sheet_prepare (fun r s => r = none ∧ (fr [46, 50] σ s ∧ s.1 46 0 = b ∧ s.1 46 1 = v ∧ ∀ i, i < 24 → s.1 50 i = 0)) 20 [some (.ref 46), some (.int b), some (.int n), some (.int (nI i))] [] σi := by
    intro m
    induction m with
    | zero =>
      intro i σi v hi hf h0 h1 h2
      refine z_go 20 [20] ⟨fun q => ⟨rfl, hf, h0, h1, fun k hk => h2 k (by omega)⟩, fun q => ?_⟩
      simp (disch := omega) only [nL, n_le] at q
      omega
    | succ m ih =>
      intro i σi v hi hf h0 h1 h2
      refine z_go 20 [20] ⟨fun q => ?_, fun q => ⟨by (first | exact vin (by simp only [al_2, al_3, al_4, al_5, al_7, al_11, al_12, al_13, al_15, al_16, al_17, al_19, al_20, al_21, al_22, al_23, al_24, al_25, al_26, al_28, al_30, al_31, al_32, al_33, al_34, al_36, al_41, al_42, al_43, al_44, al_49, al_50, al_51, al_52, al_54, al_55, al_56, al_57, al_58, al_59, al_60, al_61, al_62, al_63, al_64, al_65, al_66, al_67, al_68, al_69, al_70, al_71, al_72, al_73, al_74, al_75, al_76, al_77, al_78, al_79, al_80]; omega) (by simp only [al_2, al_3, al_4, al_5, al_7, al_11, al_12, al_13, al_15, al_16, al_17, al_19, al_20, al_21, al_22, al_23, al_24, al_25, al_26, al_28, al_30, al_31, al_32, al_33, al_34, al_36, al_41, al_42, al_43, al_44, al_49, al_50, al_51, al_52, al_54, al_55, al_56, al_57, al_58, al_59, al_60, al_61, al_62, al_63, al_64, al_65, al_66, al_67, al_68, al_69, al_70, al_71, al_72, al_73, al_74, al_75, al_76, al_77, al_78, al_79, al_80]; decide) | (simp (disch := omega) only [nL, nI_add, pk_mul, nc, Nat.zero_add, al_2, al_3, al_4, al_5, al_7, al_11, al_12, al_13, al_15, al_16, al_17, al_19, al_20, al_21, al_22, al_23, al_24, al_25, al_26, al_28, al_30, al_31, al_32, al_33, al_34, al_36, al_41, al_42, al_43, al_44, al_49, al_50, al_51, al_52, al_54, al_55, al_56, al_57, al_58, al_59, al_60, al_61, al_62, al_63, al_64, al_65, al_66, al_67, al_68, al_69, al_70, al_71, al_72, al_73, al_74, al_75, al_76, al_77, al_78, al_79, al_80]; exact vin (by omega) (by decide))), ?_⟩⟩
      · simp (disch := omega) only [nL, n_le] at q
        omega
      · show z_wp _ _ _ _ 20 _ _ _
        simp (disch := omega) only [nL, nI_add, nc]
        refine ih (i + 1) _ v (by omega) (fr.wr hf (by decide)) (by rw [wr_c (by decide)]; exact h0) (by rw [wr_c (by decide)]; exact h1) (fun k hk => ?_)
        by_cases e : k = i
        · subst e
          rw [wr_s]
          rfl
        · rw [wr_k e]
          exact h2 k (by omega)
  refine z_metV ⟨rfl, z_go 20 [20] ⟨fun q => ?_, fun q => ?_⟩⟩
  · rw [if_neg q]
    exact loop 24 0 _ n rfl (by (repeat (first | exact fr.rf | refine fr.cp ?_ (by decide) | refine fr.wr ?_ (by decide) | refine fr.wl ?_ (by decide)))) (by simp (disch := omega) only [nL, nI_add, pk_mul, nc, cp_in, cp_lo, cp_hi, cp_ne, wr_s, wr_k, wr_c, wr_e, Nat.zero_add]) (by simp (disch := omega) only [nL, nI_add, pk_mul, nc, cp_in, cp_lo, cp_hi, cp_ne, wr_s, wr_k, wr_c, wr_e, Nat.zero_add]) (fun k hk => by omega)
  · rw [if_pos q]
    exact loop 24 0 _ 0 rfl (by (repeat (first | exact fr.rf | refine fr.cp ?_ (by decide) | refine fr.wr ?_ (by decide) | refine fr.wl ?_ (by decide)))) (by simp (disch := omega) only [nL, nI_add, pk_mul, nc, cp_in, cp_lo, cp_hi, cp_ne, wr_s, wr_k, wr_c, wr_e, Nat.zero_add]) (by simp (disch := omega) only [nL, nI_add, pk_mul, nc, cp_in, cp_lo, cp_hi, cp_ne, wr_s, wr_k, wr_c, wr_e, Nat.zero_add]) (fun k hk => by omega)
theorem x_sheet_1 (d : Nat) {σ : z_M} {B : zB} (h : RepC σ B) (b n : Int32) : opC (d + 5) k_RF_sheet [.ref 0, .int 1, .int b, .int n] σ (sSheet 1 b n B) := by
  obtain ⟨σt, ht, hRt, hkt⟩ := c_tell (d + 3) h (-1000001)
  obtain ⟨σu, hu, hRu, hku⟩ := c_tell (d + 3) h (-1000003)
  obtain ⟨σ1, hc, hf, e0, e1, e2⟩ := c_prepare_1 (d + 3) σ b n
  have hs : ¬ hasP 4 1 = 0 := by decide
  have good : (b = 0 ∨ b = 8 ∨ b = 16 ∨ b = 32) → (0 ≤ n → ∀ o, (o = if n ≤ 24 then oSh (if b = 0 then 0 else n) (upS B.2.2.2.1 1 (newS b n)) B else oTell (-1000001) B) → o = sSheet 1 b n B) ∧ (¬ 0 ≤ n → oTell (-1000003) B = sSheet 1 b n B) := by
    intro hb
    refine ⟨fun hn o ho => ?_, fun hn => ?_⟩
    · rw [ho, sSheet, if_neg hs, if_pos hb, if_pos hn]
      rfl
    · rw [sSheet, if_neg hs, if_pos hb, if_neg hn]
  have fin : RepC σ1 (oSh (if b = 0 then 0 else n) (upS B.2.2.2.1 1 (newS b n)) B).2 ∧ kC σ σ1 := by
    refine h.sheets (fun c hc => hf.1 c (by simp; omega)) (h.2.2.2.1.up (by decide) (fun c _ _ a b => hf.1 c (by simp; omega)) ?_ ?_ ?_) _
    · exact e0
    · exact e1
    · intro i hi
      rw [show 49 + 1 = 50 from rfl, e2 i hi]
      simp only [newS]
      rw [if_neg (by omega), if_neg (by omega)]
  have rest : (b = 0 ∨ b = 8 ∨ b = 16 ∨ b = 32) → z_vc (z_call (d + 4)) none k_RF_sheet [] (z_wp (z_call (d + 4)) none k_RF_sheet (pC σ (sSheet 1 b n B))) (pC σ (sSheet 1 b n B)) 30 36 [some (.ref 0), some (.int 1), some (.int b), some (.int n)] [] σ := by
    intro hb
    obtain ⟨g1, g2⟩ := good hb
    refine ⟨fun q => ⟨fun q2 => orj_1 ⟨rfl, σ1, hc, orj_1 ⟨rfl, ?_⟩⟩, fun q2 => ?_⟩, fun q => ?_⟩
    · rw [← g1 q _ (if_pos q2).symm]
      exact ⟨by rw [show σ1.1 46 1 = _ from e1]; rfl, fin⟩
    · rw [← g1 q _ (if_neg q2).symm]
      exact ⟨_, σt, ht, rfl, hRt, hkt⟩
    · rw [← g2 q]
      exact ⟨_, σu, hu, rfl, hRu, hku⟩
  refine z_metC ⟨rfl, z_go 60 [36] ⟨_, _, c_isSheet (d + 3) σ 1, fun q => absurd q hs, fun q => ⟨fun q1 => ?_, fun q1 => ⟨fun q2 => ?_, fun q2 => ⟨fun q3 => ?_, fun q3 => ⟨fun q4 => ?_, fun q4 => ?_⟩⟩⟩⟩⟩⟩
  · exact z_vc_wp (rest (Or.inl q1))
  · exact z_vc_wp (rest (Or.inr (Or.inl q2)))
  · exact z_vc_wp (rest (Or.inr (Or.inr (Or.inl q3))))
  · exact z_vc_wp (rest (Or.inr (Or.inr (Or.inr q4))))
  · rw [sSheet, if_neg hs, if_neg (by rintro (z | z | z | z); exact q1 z; exact q2 z; exact q3 z; exact q4 z)]
    exact ⟨_, σt, ht, rfl, hRt, hkt⟩
theorem c_prepare_2 (d : Nat) (σ : z_M) (b n : Int32) : ∃ σ', z_call (d + 1) k_Sheet_prepare [.ref 47, .int b, .int n] σ none σ' ∧ fr [47, 51] σ σ' ∧ σ'.1 47 0 = b ∧ σ'.1 47 1 = (if b = 0 then 0 else n) ∧ ∀ i, i < 24 → σ'.1 51 i = 0 := by
  have loop : ∀ (m i : Nat) (σi : z_M) (v : Int32), i + m = 24 → fr [47, 51] σ σi → σi.1 47 0 = b → σi.1 47 1 = v → (∀ k, k < i → σi.1 51 k = 0) → z_wp (z_call d) none k_Sheet_prepare (fun r s => r = none ∧ (fr [47, 51] σ s ∧ s.1 47 0 = b ∧ s.1 47 1 = v ∧ ∀ i, i < 24 → s.1 51 i = 0)) 20 [some (.ref 47), some (.int b), some (.int n), some (.int (nI i))] [] σi := by
    intro m
    induction m with
    | zero =>
      intro i σi v hi hf h0 h1 h2
      refine z_go 20 [20] ⟨fun q => ⟨rfl, hf, h0, h1, fun k hk => h2 k (by omega)⟩, fun q => ?_⟩
      simp (disch := omega) only [nL, n_le] at q
      omega
    | succ m ih =>
      intro i σi v hi hf h0 h1 h2
      refine z_go 20 [20] ⟨fun q => ?_, fun q => ⟨by (first | exact vin (by simp only [al_2, al_3, al_4, al_5, al_7, al_11, al_12, al_13, al_15, al_16, al_17, al_19, al_20, al_21, al_22, al_23, al_24, al_25, al_26, al_28, al_30, al_31, al_32, al_33, al_34, al_36, al_41, al_42, al_43, al_44, al_49, al_50, al_51, al_52, al_54, al_55, al_56, al_57, al_58, al_59, al_60, al_61, al_62, al_63, al_64, al_65, al_66, al_67, al_68, al_69, al_70, al_71, al_72, al_73, al_74, al_75, al_76, al_77, al_78, al_79, al_80]; omega) (by simp only [al_2, al_3, al_4, al_5, al_7, al_11, al_12, al_13, al_15, al_16, al_17, al_19, al_20, al_21, al_22, al_23, al_24, al_25, al_26, al_28, al_30, al_31, al_32, al_33, al_34, al_36, al_41, al_42, al_43, al_44, al_49, al_50, al_51, al_52, al_54, al_55, al_56, al_57, al_58, al_59, al_60, al_61, al_62, al_63, al_64, al_65, al_66, al_67, al_68, al_69, al_70, al_71, al_72, al_73, al_74, al_75, al_76, al_77, al_78, al_79, al_80]; decide) | (simp (disch := omega) only [nL, nI_add, pk_mul, nc, Nat.zero_add, al_2, al_3, al_4, al_5, al_7, al_11, al_12, al_13, al_15, al_16, al_17, al_19, al_20, al_21, al_22, al_23, al_24, al_25, al_26, al_28, al_30, al_31, al_32, al_33, al_34, al_36, al_41, al_42, al_43, al_44, al_49, al_50, al_51, al_52, al_54, al_55, al_56, al_57, al_58, al_59, al_60, al_61, al_62, al_63, al_64, al_65, al_66, al_67, al_68, al_69, al_70, al_71, al_72, al_73, al_74, al_75, al_76, al_77, al_78, al_79, al_80]; exact vin (by omega) (by decide))), ?_⟩⟩
      · simp (disch := omega) only [nL, n_le] at q
        omega
      · show z_wp _ _ _ _ 20 _ _ _
        simp (disch := omega) only [nL, nI_add, nc]
        refine ih (i + 1) _ v (by omega) (fr.wr hf (by decide)) (by rw [wr_c (by decide)]; exact h0) (by rw [wr_c (by decide)]; exact h1) (fun k hk => ?_)
        by_cases e : k = i
        · subst e
          rw [wr_s]
          rfl
        · rw [wr_k e]
          exact h2 k (by omega)
  refine z_metV ⟨rfl, z_go 20 [20] ⟨fun q => ?_, fun q => ?_⟩⟩
  · rw [if_neg q]
    exact loop 24 0 _ n rfl (by (repeat (first | exact fr.rf | refine fr.cp ?_ (by decide) | refine fr.wr ?_ (by decide) | refine fr.wl ?_ (by decide)))) (by simp (disch := omega) only [nL, nI_add, pk_mul, nc, cp_in, cp_lo, cp_hi, cp_ne, wr_s, wr_k, wr_c, wr_e, Nat.zero_add]) (by simp (disch := omega) only [nL, nI_add, pk_mul, nc, cp_in, cp_lo, cp_hi, cp_ne, wr_s, wr_k, wr_c, wr_e, Nat.zero_add]) (fun k hk => by omega)
  · rw [if_pos q]
    exact loop 24 0 _ 0 rfl (by (repeat (first | exact fr.rf | refine fr.cp ?_ (by decide) | refine fr.wr ?_ (by decide) | refine fr.wl ?_ (by decide)))) (by simp (disch := omega) only [nL, nI_add, pk_mul, nc, cp_in, cp_lo, cp_hi, cp_ne, wr_s, wr_k, wr_c, wr_e, Nat.zero_add]) (by simp (disch := omega) only [nL, nI_add, pk_mul, nc, cp_in, cp_lo, cp_hi, cp_ne, wr_s, wr_k, wr_c, wr_e, Nat.zero_add]) (fun k hk => by omega)
theorem x_sheet_2 (d : Nat) {σ : z_M} {B : zB} (h : RepC σ B) (b n : Int32) : opC (d + 5) k_RF_sheet [.ref 0, .int 2, .int b, .int n] σ (sSheet 2 b n B) := by
  obtain ⟨σt, ht, hRt, hkt⟩ := c_tell (d + 3) h (-1000001)
  obtain ⟨σu, hu, hRu, hku⟩ := c_tell (d + 3) h (-1000003)
  obtain ⟨σ1, hc, hf, e0, e1, e2⟩ := c_prepare_2 (d + 3) σ b n
  have hs : ¬ hasP 4 2 = 0 := by decide
  have good : (b = 0 ∨ b = 8 ∨ b = 16 ∨ b = 32) → (0 ≤ n → ∀ o, (o = if n ≤ 24 then oSh (if b = 0 then 0 else n) (upS B.2.2.2.1 2 (newS b n)) B else oTell (-1000001) B) → o = sSheet 2 b n B) ∧ (¬ 0 ≤ n → oTell (-1000003) B = sSheet 2 b n B) := by
    intro hb
    refine ⟨fun hn o ho => ?_, fun hn => ?_⟩
    · rw [ho, sSheet, if_neg hs, if_pos hb, if_pos hn]
      rfl
    · rw [sSheet, if_neg hs, if_pos hb, if_neg hn]
  have fin : RepC σ1 (oSh (if b = 0 then 0 else n) (upS B.2.2.2.1 2 (newS b n)) B).2 ∧ kC σ σ1 := by
    refine h.sheets (fun c hc => hf.1 c (by simp; omega)) (h.2.2.2.1.up (by decide) (fun c _ _ a b => hf.1 c (by simp; omega)) ?_ ?_ ?_) _
    · exact e0
    · exact e1
    · intro i hi
      rw [show 49 + 2 = 51 from rfl, e2 i hi]
      simp only [newS]
      rw [if_neg (by omega), if_neg (by omega)]
  have rest : (b = 0 ∨ b = 8 ∨ b = 16 ∨ b = 32) → z_vc (z_call (d + 4)) none k_RF_sheet [] (z_wp (z_call (d + 4)) none k_RF_sheet (pC σ (sSheet 2 b n B))) (pC σ (sSheet 2 b n B)) 30 36 [some (.ref 0), some (.int 2), some (.int b), some (.int n)] [] σ := by
    intro hb
    obtain ⟨g1, g2⟩ := good hb
    refine ⟨fun q => ⟨fun q2 => orj_2 ⟨rfl, σ1, hc, orj_2 ⟨rfl, ?_⟩⟩, fun q2 => ?_⟩, fun q => ?_⟩
    · rw [← g1 q _ (if_pos q2).symm]
      exact ⟨by rw [show σ1.1 47 1 = _ from e1]; rfl, fin⟩
    · rw [← g1 q _ (if_neg q2).symm]
      exact ⟨_, σt, ht, rfl, hRt, hkt⟩
    · rw [← g2 q]
      exact ⟨_, σu, hu, rfl, hRu, hku⟩
  refine z_metC ⟨rfl, z_go 60 [36] ⟨_, _, c_isSheet (d + 3) σ 2, fun q => absurd q hs, fun q => ⟨fun q1 => ?_, fun q1 => ⟨fun q2 => ?_, fun q2 => ⟨fun q3 => ?_, fun q3 => ⟨fun q4 => ?_, fun q4 => ?_⟩⟩⟩⟩⟩⟩
  · exact z_vc_wp (rest (Or.inl q1))
  · exact z_vc_wp (rest (Or.inr (Or.inl q2)))
  · exact z_vc_wp (rest (Or.inr (Or.inr (Or.inl q3))))
  · exact z_vc_wp (rest (Or.inr (Or.inr (Or.inr q4))))
  · rw [sSheet, if_neg hs, if_neg (by rintro (z | z | z | z); exact q1 z; exact q2 z; exact q3 z; exact q4 z)]
    exact ⟨_, σt, ht, rfl, hRt, hkt⟩
theorem c_prepare_3 (d : Nat) (σ : z_M) (b n : Int32) : ∃ σ', z_call (d + 1) k_Sheet_prepare [.ref 48, .int b, .int n] σ none σ' ∧ fr [48, 52] σ σ' ∧ σ'.1 48 0 = b ∧ σ'.1 48 1 = (if b = 0 then 0 else n) ∧ ∀ i, i < 24 → σ'.1 52 i = 0 := by
  have loop : ∀ (m i : Nat) (σi : z_M) (v : Int32), i + m = 24 → fr [48, 52] σ σi → σi.1 48 0 = b → σi.1 48 1 = v → (∀ k, k < i → σi.1 52 k = 0) → z_wp (z_call d) none k_Sheet_prepare (fun r s => r = none ∧ (fr [48, 52] σ s ∧ s.1 48 0 = b ∧ s.1 48 1 = v ∧ ∀ i, i < 24 → s.1 52 i = 0)) 20 [some (.ref 48), some (.int b), some (.int n), some (.int (nI i))] [] σi := by
    intro m
    induction m with
    | zero =>
      intro i σi v hi hf h0 h1 h2
      refine z_go 20 [20] ⟨fun q => ⟨rfl, hf, h0, h1, fun k hk => h2 k (by omega)⟩, fun q => ?_⟩
      simp (disch := omega) only [nL, n_le] at q
      omega
    | succ m ih =>
      intro i σi v hi hf h0 h1 h2
      refine z_go 20 [20] ⟨fun q => ?_, fun q => ⟨by (first | exact vin (by simp only [al_2, al_3, al_4, al_5, al_7, al_11, al_12, al_13, al_15, al_16, al_17, al_19, al_20, al_21, al_22, al_23, al_24, al_25, al_26, al_28, al_30, al_31, al_32, al_33, al_34, al_36, al_41, al_42, al_43, al_44, al_49, al_50, al_51, al_52, al_54, al_55, al_56, al_57, al_58, al_59, al_60, al_61, al_62, al_63, al_64, al_65, al_66, al_67, al_68, al_69, al_70, al_71, al_72, al_73, al_74, al_75, al_76, al_77, al_78, al_79, al_80]; omega) (by simp only [al_2, al_3, al_4, al_5, al_7, al_11, al_12, al_13, al_15, al_16, al_17, al_19, al_20, al_21, al_22, al_23, al_24, al_25, al_26, al_28, al_30, al_31, al_32, al_33, al_34, al_36, al_41, al_42, al_43, al_44, al_49, al_50, al_51, al_52, al_54, al_55, al_56, al_57, al_58, al_59, al_60, al_61, al_62, al_63, al_64, al_65, al_66, al_67, al_68, al_69, al_70, al_71, al_72, al_73, al_74, al_75, al_76, al_77, al_78, al_79, al_80]; decide) | (simp (disch := omega) only [nL, nI_add, pk_mul, nc, Nat.zero_add, al_2, al_3, al_4, al_5, al_7, al_11, al_12, al_13, al_15, al_16, al_17, al_19, al_20, al_21, al_22, al_23, al_24, al_25, al_26, al_28, al_30, al_31, al_32, al_33, al_34, al_36, al_41, al_42, al_43, al_44, al_49, al_50, al_51, al_52, al_54, al_55, al_56, al_57, al_58, al_59, al_60, al_61, al_62, al_63, al_64, al_65, al_66, al_67, al_68, al_69, al_70, al_71, al_72, al_73, al_74, al_75, al_76, al_77, al_78, al_79, al_80]; exact vin (by omega) (by decide))), ?_⟩⟩
      · simp (disch := omega) only [nL, n_le] at q
        omega
      · show z_wp _ _ _ _ 20 _ _ _
        simp (disch := omega) only [nL, nI_add, nc]
        refine ih (i + 1) _ v (by omega) (fr.wr hf (by decide)) (by rw [wr_c (by decide)]; exact h0) (by rw [wr_c (by decide)]; exact h1) (fun k hk => ?_)
        by_cases e : k = i
        · subst e
          rw [wr_s]
          rfl
        · rw [wr_k e]
          exact h2 k (by omega)
  refine z_metV ⟨rfl, z_go 20 [20] ⟨fun q => ?_, fun q => ?_⟩⟩
  · rw [if_neg q]
    exact loop 24 0 _ n rfl (by (repeat (first | exact fr.rf | refine fr.cp ?_ (by decide) | refine fr.wr ?_ (by decide) | refine fr.wl ?_ (by decide)))) (by simp (disch := omega) only [nL, nI_add, pk_mul, nc, cp_in, cp_lo, cp_hi, cp_ne, wr_s, wr_k, wr_c, wr_e, Nat.zero_add]) (by simp (disch := omega) only [nL, nI_add, pk_mul, nc, cp_in, cp_lo, cp_hi, cp_ne, wr_s, wr_k, wr_c, wr_e, Nat.zero_add]) (fun k hk => by omega)
  · rw [if_pos q]
    exact loop 24 0 _ 0 rfl (by (repeat (first | exact fr.rf | refine fr.cp ?_ (by decide) | refine fr.wr ?_ (by decide) | refine fr.wl ?_ (by decide)))) (by simp (disch := omega) only [nL, nI_add, pk_mul, nc, cp_in, cp_lo, cp_hi, cp_ne, wr_s, wr_k, wr_c, wr_e, Nat.zero_add]) (by simp (disch := omega) only [nL, nI_add, pk_mul, nc, cp_in, cp_lo, cp_hi, cp_ne, wr_s, wr_k, wr_c, wr_e, Nat.zero_add]) (fun k hk => by omega)
theorem x_sheet_3 (d : Nat) {σ : z_M} {B : zB} (h : RepC σ B) (b n : Int32) : opC (d + 5) k_RF_sheet [.ref 0, .int 3, .int b, .int n] σ (sSheet 3 b n B) := by
  obtain ⟨σt, ht, hRt, hkt⟩ := c_tell (d + 3) h (-1000001)
  obtain ⟨σu, hu, hRu, hku⟩ := c_tell (d + 3) h (-1000003)
  obtain ⟨σ1, hc, hf, e0, e1, e2⟩ := c_prepare_3 (d + 3) σ b n
  have hs : ¬ hasP 4 3 = 0 := by decide
  have good : (b = 0 ∨ b = 8 ∨ b = 16 ∨ b = 32) → (0 ≤ n → ∀ o, (o = if n ≤ 24 then oSh (if b = 0 then 0 else n) (upS B.2.2.2.1 3 (newS b n)) B else oTell (-1000001) B) → o = sSheet 3 b n B) ∧ (¬ 0 ≤ n → oTell (-1000003) B = sSheet 3 b n B) := by
    intro hb
    refine ⟨fun hn o ho => ?_, fun hn => ?_⟩
    · rw [ho, sSheet, if_neg hs, if_pos hb, if_pos hn]
      rfl
    · rw [sSheet, if_neg hs, if_pos hb, if_neg hn]
  have fin : RepC σ1 (oSh (if b = 0 then 0 else n) (upS B.2.2.2.1 3 (newS b n)) B).2 ∧ kC σ σ1 := by
    refine h.sheets (fun c hc => hf.1 c (by simp; omega)) (h.2.2.2.1.up (by decide) (fun c _ _ a b => hf.1 c (by simp; omega)) ?_ ?_ ?_) _
    · exact e0
    · exact e1
    · intro i hi
      rw [show 49 + 3 = 52 from rfl, e2 i hi]
      simp only [newS]
      rw [if_neg (by omega), if_neg (by omega)]
  have rest : (b = 0 ∨ b = 8 ∨ b = 16 ∨ b = 32) → z_vc (z_call (d + 4)) none k_RF_sheet [] (z_wp (z_call (d + 4)) none k_RF_sheet (pC σ (sSheet 3 b n B))) (pC σ (sSheet 3 b n B)) 30 36 [some (.ref 0), some (.int 3), some (.int b), some (.int n)] [] σ := by
    intro hb
    obtain ⟨g1, g2⟩ := good hb
    refine ⟨fun q => ⟨fun q2 => orj_3 ⟨rfl, σ1, hc, orj_3 ⟨rfl, ?_⟩⟩, fun q2 => ?_⟩, fun q => ?_⟩
    · rw [← g1 q _ (if_pos q2).symm]
      exact ⟨by rw [show σ1.1 48 1 = _ from e1]; rfl, fin⟩
    · rw [← g1 q _ (if_neg q2).symm]
      exact ⟨_, σt, ht, rfl, hRt, hkt⟩
    · rw [← g2 q]
      exact ⟨_, σu, hu, rfl, hRu, hku⟩
  refine z_metC ⟨rfl, z_go 60 [36] ⟨_, _, c_isSheet (d + 3) σ 3, fun q => absurd q hs, fun q => ⟨fun q1 => ?_, fun q1 => ⟨fun q2 => ?_, fun q2 => ⟨fun q3 => ?_, fun q3 => ⟨fun q4 => ?_, fun q4 => ?_⟩⟩⟩⟩⟩⟩
  · exact z_vc_wp (rest (Or.inl q1))
  · exact z_vc_wp (rest (Or.inr (Or.inl q2)))
  · exact z_vc_wp (rest (Or.inr (Or.inr (Or.inl q3))))
  · exact z_vc_wp (rest (Or.inr (Or.inr (Or.inr q4))))
  · rw [sSheet, if_neg hs, if_neg (by rintro (z | z | z | z); exact q1 z; exact q2 z; exact q3 z; exact q4 z)]
    exact ⟨_, σt, ht, rfl, hRt, hkt⟩
theorem four_cases {P : Nat → Prop} (h0 : P 0) (h1 : P 1) (h2 : P 2) (h3 : P 3) {j : Nat} (hj : j < 4) : P j := by
  rcases (show j = 0 ∨ j = 1 ∨ j = 2 ∨ j = 3 by omega) with rfl | rfl | rfl | rfl
  · exact h0
  · exact h1
  · exact h2
  · exact h3
theorem x_sheet (d : Nat) {σ : z_M} {B : zB} (h : RepC σ B) (s b n : Int32) : opC (d + 5) k_RF_sheet [.ref 0, .int s, .int b, .int n] σ (sSheet s b n B) := by
  by_cases hs : hasP 4 s = 0
  · obtain ⟨σt, ht, hRt, hkt⟩ := c_tell (d + 3) h (-1000001)
    refine z_metC ⟨rfl, z_go 20 [] ⟨_, _, c_isSheet (d + 3) σ s, fun q => ?_, fun q => absurd hs q⟩⟩
    rw [sSheet, if_pos hs]
    exact ⟨_, σt, ht, rfl, hRt, hkt⟩
  · obtain ⟨j, hj, rfl⟩ := hasP_ne (n := 4) (by omega) hs
    exact four_cases (P := fun j => opC (d + 5) k_RF_sheet [.ref 0, .int (nI j), .int b, .int n] σ (sSheet (nI j) b n B)) (x_sheet_0 d h b n) (x_sheet_1 d h b n) (x_sheet_2 d h b n) (x_sheet_3 d h b n) hj
theorem v_sheet {B : zB} (h : VB B) (s b n : Int32) : VB (sSheet s b n B).2 := by
  unfold sSheet
  split
  · exact h.tell _
  · split
    · rename_i hb
      split
      · rename_i h0
        split
        · rename_i h24
          refine h.sheets _ ⟨hb, ?_⟩
          obtain ⟨k, hk, rfl⟩ := nI_of (x := n) (by rw [Int32.not_lt]; exact h0)
          have h24 : nI k ≤ nI 24 := h24
          rw [n_le (by omega) (by omega)] at h24
          by_cases hb0 : b = 0
          · exact ⟨0, by simp [newS, hb0]; rfl, by omega⟩
          · exact ⟨k, by simp [newS, hb0], h24⟩
        · exact h.tell _
      · exact h.tell _
    · exact h.tell _
theorem shD.up {σ σ' : z_M} {sh : Nat → Nat → Int32} (h : shD σ sh) {j : Nat} (hj : j < 4) {f : Nat → Int32} (hb : ∀ k, k ≠ j → σ'.1 63 k = σ.1 63 k) (hn : ∀ k, k ≠ j → σ'.1 64 k = σ.1 64 k) (hr : ∀ k, (k < 24 * j ∨ 24 * j + 24 ≤ k) → σ'.1 65 k = σ.1 65 k) (h0 : σ'.1 63 j = f 0) (h1 : σ'.1 64 j = f 1) (h2 : ∀ i, i < 24 → σ'.1 65 (24 * j + i) = f (2 + i)) : shD σ' (upS sh j f) := by
  intro k hk
  unfold upS
  by_cases q : k = j
  · subst q
    simp only [if_true]
    exact ⟨h0, h1, h2⟩
  · simp only [if_neg q]
    obtain ⟨a, b, c⟩ := h k hk
    refine ⟨(hb k q).trans a, (hn k q).trans b, fun i hi => ?_⟩
    rw [hr _ (by omega)]
    exact c i hi
theorem y_sheet (d : Nat) {σ : z_M} {B : zB} (h : RepD σ B) (s b n : Int32) : opD (d + 5) k_Md_sheet [.ref 53, .int s, .int b, .int n] σ (sSheet s b n B) := by
  obtain ⟨σt, ht, hRt, hkt⟩ := c_finding (d + 3) h (-1000001)
  obtain ⟨σu, hu, hRu, hku⟩ := c_finding (d + 3) h (-1000003)
  refine z_metD ⟨rfl, z_go 60 [36] ⟨_, _, c_misSheet (d + 3) σ s, fun q => ?_, fun q => ?_⟩⟩
  · rw [sSheet, if_pos q]
    exact ⟨_, σt, ht, rfl, hRt, hkt⟩
  · obtain ⟨j, hj, rfl⟩ := hasP_ne (n := 4) (by omega) q
    have loop : ∀ (m i : Nat) (σi : z_M), i + m = 24 → (b = 0 ∨ b = 8 ∨ b = 16 ∨ b = 32) → 0 ≤ n → n ≤ 24 → fr [63, 64, 65] σ σi → (∀ k, k ≠ j → σi.1 63 k = σ.1 63 k) → (∀ k, k ≠ j → σi.1 64 k = σ.1 64 k) → (∀ k, (k < 24 * j ∨ 24 * j + 24 ≤ k) → σi.1 65 k = σ.1 65 k) → σi.1 63 j = b → σi.1 64 j = (if b = 0 then 0 else n) → (∀ k, k < i → σi.1 65 (24 * j + k) = 0) →
        z_wp (z_call (d + 4)) none k_Md_sheet (pD σ (sSheet (nI j) b n B)) 85 [some (.ref 53), some (.int (nI j)), some (.int b), some (.int n), some (.int (nI i))] [] σi := by
      intro m
      induction m with
      | zero =>
        intro i σi hi hb h0 h24 hf k1 k2 k3 e1 e2 e3
        refine z_go 40 [85] ⟨fun q2 => ⟨by (first | exact vin (by simp only [al_2, al_3, al_4, al_5, al_7, al_11, al_12, al_13, al_15, al_16, al_17, al_19, al_20, al_21, al_22, al_23, al_24, al_25, al_26, al_28, al_30, al_31, al_32, al_33, al_34, al_36, al_41, al_42, al_43, al_44, al_49, al_50, al_51, al_52, al_54, al_55, al_56, al_57, al_58, al_59, al_60, al_61, al_62, al_63, al_64, al_65, al_66, al_67, al_68, al_69, al_70, al_71, al_72, al_73, al_74, al_75, al_76, al_77, al_78, al_79, al_80]; omega) (by simp only [al_2, al_3, al_4, al_5, al_7, al_11, al_12, al_13, al_15, al_16, al_17, al_19, al_20, al_21, al_22, al_23, al_24, al_25, al_26, al_28, al_30, al_31, al_32, al_33, al_34, al_36, al_41, al_42, al_43, al_44, al_49, al_50, al_51, al_52, al_54, al_55, al_56, al_57, al_58, al_59, al_60, al_61, al_62, al_63, al_64, al_65, al_66, al_67, al_68, al_69, al_70, al_71, al_72, al_73, al_74, al_75, al_76, al_77, al_78, al_79, al_80]; decide) | (simp (disch := omega) only [nL, nI_add, pk_mul, nc, Nat.zero_add, al_2, al_3, al_4, al_5, al_7, al_11, al_12, al_13, al_15, al_16, al_17, al_19, al_20, al_21, al_22, al_23, al_24, al_25, al_26, al_28, al_30, al_31, al_32, al_33, al_34, al_36, al_41, al_42, al_43, al_44, al_49, al_50, al_51, al_52, al_54, al_55, al_56, al_57, al_58, al_59, al_60, al_61, al_62, al_63, al_64, al_65, al_66, al_67, al_68, al_69, al_70, al_71, al_72, al_73, al_74, al_75, al_76, al_77, al_78, al_79, al_80]; exact vin (by omega) (by decide))), ?_⟩, fun q2 => ?_⟩
        · rw [sSheet, if_neg q, if_pos hb, if_pos h0, if_pos h24, nc (by omega)]
          refine ⟨by rw [e2]; rfl, h.sheets (fun c hc => hf.1 c (by simp; omega)) (hf.2 (by decide)) (h.2.2.2.1.up hj k1 k2 k3 ?_ ?_ ?_) _⟩
          · exact e1
          · exact e2
          · intro i2 hi2
            rw [e3 i2 (by omega)]
            simp only [newS]
            rw [if_neg (by omega), if_neg (by omega)]
        · simp (disch := omega) only [nL, n_le] at q2
          omega
      | succ m ih =>
        intro i σi hi hb h0 h24 hf k1 k2 k3 e1 e2 e3
        refine z_go 40 [85] ⟨fun q2 => ?_, fun q2 => ⟨by (first | exact vin (by simp only [al_2, al_3, al_4, al_5, al_7, al_11, al_12, al_13, al_15, al_16, al_17, al_19, al_20, al_21, al_22, al_23, al_24, al_25, al_26, al_28, al_30, al_31, al_32, al_33, al_34, al_36, al_41, al_42, al_43, al_44, al_49, al_50, al_51, al_52, al_54, al_55, al_56, al_57, al_58, al_59, al_60, al_61, al_62, al_63, al_64, al_65, al_66, al_67, al_68, al_69, al_70, al_71, al_72, al_73, al_74, al_75, al_76, al_77, al_78, al_79, al_80]; omega) (by simp only [al_2, al_3, al_4, al_5, al_7, al_11, al_12, al_13, al_15, al_16, al_17, al_19, al_20, al_21, al_22, al_23, al_24, al_25, al_26, al_28, al_30, al_31, al_32, al_33, al_34, al_36, al_41, al_42, al_43, al_44, al_49, al_50, al_51, al_52, al_54, al_55, al_56, al_57, al_58, al_59, al_60, al_61, al_62, al_63, al_64, al_65, al_66, al_67, al_68, al_69, al_70, al_71, al_72, al_73, al_74, al_75, al_76, al_77, al_78, al_79, al_80]; decide) | (simp (disch := omega) only [nL, nI_add, pk_mul, nc, Nat.zero_add, al_2, al_3, al_4, al_5, al_7, al_11, al_12, al_13, al_15, al_16, al_17, al_19, al_20, al_21, al_22, al_23, al_24, al_25, al_26, al_28, al_30, al_31, al_32, al_33, al_34, al_36, al_41, al_42, al_43, al_44, al_49, al_50, al_51, al_52, al_54, al_55, al_56, al_57, al_58, al_59, al_60, al_61, al_62, al_63, al_64, al_65, al_66, al_67, al_68, al_69, al_70, al_71, al_72, al_73, al_74, al_75, al_76, al_77, al_78, al_79, al_80]; exact vin (by omega) (by decide))), ?_⟩⟩
        · simp (disch := omega) only [nL, n_le] at q2
          omega
        · show z_wp _ _ _ _ 85 _ _ _
          simp (disch := omega) only [nL, nI_add, pk_mul, nc]
          refine ih (i + 1) _ (by omega) hb h0 h24 (fr.wr hf (by decide)) (fun k hk => by rw [wr_c (by decide)]; exact k1 k hk) (fun k hk => by rw [wr_c (by decide)]; exact k2 k hk) (fun k hk => by rw [wr_k (by omega)]; exact k3 k hk) (by rw [wr_c (by decide)]; exact e1) (by rw [wr_c (by decide)]; exact e2) (fun k hk => ?_)
          by_cases e : k = i
          · subst e
            rw [wr_s]
            rfl
          · rw [wr_k (by omega)]
            exact e3 k (by omega)
    have rest : (b = 0 ∨ b = 8 ∨ b = 16 ∨ b = 32) → z_wp (z_call (d + 4)) none k_Md_sheet (pD σ (sSheet (nI j) b n B)) 36 [some (.ref 53), some (.int (nI j)), some (.int b), some (.int n), none] [] σ := by
      intro hb
      refine z_go 40 [85] ⟨fun q2 => ⟨fun q3 => ⟨by (first | exact vin (by simp only [al_2, al_3, al_4, al_5, al_7, al_11, al_12, al_13, al_15, al_16, al_17, al_19, al_20, al_21, al_22, al_23, al_24, al_25, al_26, al_28, al_30, al_31, al_32, al_33, al_34, al_36, al_41, al_42, al_43, al_44, al_49, al_50, al_51, al_52, al_54, al_55, al_56, al_57, al_58, al_59, al_60, al_61, al_62, al_63, al_64, al_65, al_66, al_67, al_68, al_69, al_70, al_71, al_72, al_73, al_74, al_75, al_76, al_77, al_78, al_79, al_80]; omega) (by simp only [al_2, al_3, al_4, al_5, al_7, al_11, al_12, al_13, al_15, al_16, al_17, al_19, al_20, al_21, al_22, al_23, al_24, al_25, al_26, al_28, al_30, al_31, al_32, al_33, al_34, al_36, al_41, al_42, al_43, al_44, al_49, al_50, al_51, al_52, al_54, al_55, al_56, al_57, al_58, al_59, al_60, al_61, al_62, al_63, al_64, al_65, al_66, al_67, al_68, al_69, al_70, al_71, al_72, al_73, al_74, al_75, al_76, al_77, al_78, al_79, al_80]; decide) | (simp (disch := omega) only [nL, nI_add, pk_mul, nc, Nat.zero_add, al_2, al_3, al_4, al_5, al_7, al_11, al_12, al_13, al_15, al_16, al_17, al_19, al_20, al_21, al_22, al_23, al_24, al_25, al_26, al_28, al_30, al_31, al_32, al_33, al_34, al_36, al_41, al_42, al_43, al_44, al_49, al_50, al_51, al_52, al_54, al_55, al_56, al_57, al_58, al_59, al_60, al_61, al_62, al_63, al_64, al_65, al_66, al_67, al_68, al_69, al_70, al_71, al_72, al_73, al_74, al_75, al_76, al_77, al_78, al_79, al_80]; exact vin (by omega) (by decide))), fun q4 => ⟨by (first | exact vin (by simp only [al_2, al_3, al_4, al_5, al_7, al_11, al_12, al_13, al_15, al_16, al_17, al_19, al_20, al_21, al_22, al_23, al_24, al_25, al_26, al_28, al_30, al_31, al_32, al_33, al_34, al_36, al_41, al_42, al_43, al_44, al_49, al_50, al_51, al_52, al_54, al_55, al_56, al_57, al_58, al_59, al_60, al_61, al_62, al_63, al_64, al_65, al_66, al_67, al_68, al_69, al_70, al_71, al_72, al_73, al_74, al_75, al_76, al_77, al_78, al_79, al_80]; omega) (by simp only [al_2, al_3, al_4, al_5, al_7, al_11, al_12, al_13, al_15, al_16, al_17, al_19, al_20, al_21, al_22, al_23, al_24, al_25, al_26, al_28, al_30, al_31, al_32, al_33, al_34, al_36, al_41, al_42, al_43, al_44, al_49, al_50, al_51, al_52, al_54, al_55, al_56, al_57, al_58, al_59, al_60, al_61, al_62, al_63, al_64, al_65, al_66, al_67, al_68, al_69, al_70, al_71, al_72, al_73, al_74, al_75, al_76, al_77, al_78, al_79, al_80]; decide) | (simp (disch := omega) only [nL, nI_add, pk_mul, nc, Nat.zero_add, al_2, al_3, al_4, al_5, al_7, al_11, al_12, al_13, al_15, al_16, al_17, al_19, al_20, al_21, al_22, al_23, al_24, al_25, al_26, al_28, al_30, al_31, al_32, al_33, al_34, al_36, al_41, al_42, al_43, al_44, al_49, al_50, al_51, al_52, al_54, al_55, al_56, al_57, al_58, al_59, al_60, al_61, al_62, al_63, al_64, al_65, al_66, al_67, al_68, al_69, al_70, al_71, al_72, al_73, al_74, al_75, al_76, al_77, al_78, al_79, al_80]; exact vin (by omega) (by decide))), ?_⟩, fun q4 => ⟨by (first | exact vin (by simp only [al_2, al_3, al_4, al_5, al_7, al_11, al_12, al_13, al_15, al_16, al_17, al_19, al_20, al_21, al_22, al_23, al_24, al_25, al_26, al_28, al_30, al_31, al_32, al_33, al_34, al_36, al_41, al_42, al_43, al_44, al_49, al_50, al_51, al_52, al_54, al_55, al_56, al_57, al_58, al_59, al_60, al_61, al_62, al_63, al_64, al_65, al_66, al_67, al_68, al_69, al_70, al_71, al_72, al_73, al_74, al_75, al_76, al_77, al_78, al_79, al_80]; omega) (by simp only [al_2, al_3, al_4, al_5, al_7, al_11, al_12, al_13, al_15, al_16, al_17, al_19, al_20, al_21, al_22, al_23, al_24, al_25, al_26, al_28, al_30, al_31, al_32, al_33, al_34, al_36, al_41, al_42, al_43, al_44, al_49, al_50, al_51, al_52, al_54, al_55, al_56, al_57, al_58, al_59, al_60, al_61, al_62, al_63, al_64, al_65, al_66, al_67, al_68, al_69, al_70, al_71, al_72, al_73, al_74, al_75, al_76, al_77, al_78, al_79, al_80]; decide) | (simp (disch := omega) only [nL, nI_add, pk_mul, nc, Nat.zero_add, al_2, al_3, al_4, al_5, al_7, al_11, al_12, al_13, al_15, al_16, al_17, al_19, al_20, al_21, al_22, al_23, al_24, al_25, al_26, al_28, al_30, al_31, al_32, al_33, al_34, al_36, al_41, al_42, al_43, al_44, al_49, al_50, al_51, al_52, al_54, al_55, al_56, al_57, al_58, al_59, al_60, al_61, al_62, al_63, al_64, al_65, al_66, al_67, al_68, al_69, al_70, al_71, al_72, al_73, al_74, al_75, al_76, al_77, al_78, al_79, al_80]; exact vin (by omega) (by decide))), ?_⟩⟩, fun q3 => ?_⟩, fun q2 => ?_⟩
      · show z_wp _ _ _ _ 85 _ _ _
        simp (disch := omega) only [nc]
        refine loop 24 0 _ rfl hb q2 q3 (by (repeat (first | exact fr.rf | refine fr.cp ?_ (by decide) | refine fr.wr ?_ (by decide) | refine fr.wl ?_ (by decide)))) ?_ ?_ ?_ ?_ ?_ (fun k hk => by omega)
        · intro k hk
          simp (disch := omega) only [nL, nI_add, pk_mul, nc, cp_in, cp_lo, cp_hi, cp_ne, wr_s, wr_k, wr_c, wr_e, Nat.zero_add]
        · intro k hk
          simp (disch := omega) only [nL, nI_add, pk_mul, nc, cp_in, cp_lo, cp_hi, cp_ne, wr_s, wr_k, wr_c, wr_e, Nat.zero_add]
        · intro k hk
          simp (disch := omega) only [nL, nI_add, pk_mul, nc, cp_in, cp_lo, cp_hi, cp_ne, wr_s, wr_k, wr_c, wr_e, Nat.zero_add]
        · simp (disch := omega) only [nL, nI_add, pk_mul, nc, cp_in, cp_lo, cp_hi, cp_ne, wr_s, wr_k, wr_c, wr_e, Nat.zero_add]
        · rw [wr_s, if_neg q4]
      · show z_wp _ _ _ _ 85 _ _ _
        simp (disch := omega) only [nc]
        refine loop 24 0 _ rfl hb q2 q3 (by (repeat (first | exact fr.rf | refine fr.cp ?_ (by decide) | refine fr.wr ?_ (by decide) | refine fr.wl ?_ (by decide)))) ?_ ?_ ?_ ?_ ?_ (fun k hk => by omega)
        · intro k hk
          simp (disch := omega) only [nL, nI_add, pk_mul, nc, cp_in, cp_lo, cp_hi, cp_ne, wr_s, wr_k, wr_c, wr_e, Nat.zero_add]
        · intro k hk
          simp (disch := omega) only [nL, nI_add, pk_mul, nc, cp_in, cp_lo, cp_hi, cp_ne, wr_s, wr_k, wr_c, wr_e, Nat.zero_add]
        · intro k hk
          simp (disch := omega) only [nL, nI_add, pk_mul, nc, cp_in, cp_lo, cp_hi, cp_ne, wr_s, wr_k, wr_c, wr_e, Nat.zero_add]
        · simp (disch := omega) only [nL, nI_add, pk_mul, nc, cp_in, cp_lo, cp_hi, cp_ne, wr_s, wr_k, wr_c, wr_e, Nat.zero_add]
        · rw [wr_s, if_pos q4]
      · rw [sSheet, if_neg q, if_pos hb, if_pos q2, if_neg q3]
        exact ⟨_, σt, ht, rfl, hRt, hkt⟩
      · rw [sSheet, if_neg q, if_pos hb, if_neg q2]
        exact ⟨_, σu, hu, rfl, hRu, hku⟩
    refine ⟨fun q1 => rest (Or.inl q1), fun q1 => ⟨fun q2 => rest (Or.inr (Or.inl q2)), fun q2 => ⟨fun q3 => rest (Or.inr (Or.inr (Or.inl q3))), fun q3 => ⟨fun q4 => rest (Or.inr (Or.inr (Or.inr q4))), fun q4 => ?_⟩⟩⟩⟩
    rw [sSheet, if_neg q, if_neg (by rintro (z | z | z | z); exact q1 z; exact q2 z; exact q3 z; exact q4 z)]
    exact ⟨_, σt, ht, rfl, hRt, hkt⟩
/-- a number's lowest bits -/
def low (b v : Int32) : Int32 := if b = 8 then v.toInt8.toInt32 else if b = 16 then v.toInt16.toInt32 else v
def sPut (s i v : Int32) (B : zB) : Int32 × zB := if hasP 4 s = 0 then oTell (-1000001) B else if B.2.2.2.1 s.toNatClampNeg 0 = 0 then oTell (-1000002) B else if hasP (B.2.2.2.1 s.toNatClampNeg 1) i = 0 then oTell (-1000001) B else oSh 0 (upS B.2.2.2.1 s.toNatClampNeg (upd (B.2.2.2.1 s.toNatClampNeg) (2 + i.toNatClampNeg) (low (B.2.2.2.1 s.toNatClampNeg 0) v))) B
/-- holds: n numbers from a place on -/
def hol (sz a n : Int32) : Int32 := if a < 0 then 0 else if n < 0 then 0 else if sz - n < a then 0 else 1
theorem hol_1 {n : Nat} (hn : n ≤ 24) (i : Int32) : hol (nI n) i 1 = hasP (nI n) i := by
  unfold hol hasP
  by_cases q : i < 0
  · rw [if_pos q, if_pos q]
  · rw [if_neg q, if_neg q, if_neg (by decide)]
    obtain ⟨k, hk, rfl⟩ := nI_of q
    have e : (nI n - 1).toInt = (n : Int) - 1 := by
      show (nI n - nI 1).toInt = _
      rw [pk_sub_toInt (by omega) (by omega)]
      rfl
    have e2 : (nI n - 1 < nI k) = (nI n ≤ nI k) := by
      rw [Int32.lt_iff_toInt_lt, Int32.le_iff_toInt_le, e, nI_toInt (by omega), nI_toInt (by omega)]
      exact propext (by omega)
    by_cases q2 : nI n ≤ nI k
    · rw [if_pos (by rw [e2]; exact q2), if_pos q2]
    · rw [if_neg (by rw [e2]; exact q2), if_neg q2]
theorem c_isMissing_0 (d : Nat) (σ : z_M) : z_call (d + 1) k_Sheet_isMissing [.ref 45] σ (some (.int (if σ.1 45 0 = 0 then 1 else 0))) σ := by
  refine ⟨rfl, z_go 20 [] ⟨fun h => ⟨Or.inl rfl, by rw [if_neg h], rfl⟩, fun h => ⟨Or.inr rfl, by rw [if_pos h], rfl⟩⟩⟩
theorem c_holds_0 (d : Nat) (σ : z_M) (a n : Int32) : z_call (d + 1) k_Sheet_holds [.ref 45, .int a, .int n] σ (some (.int (hol (σ.1 45 1) a n))) σ := by
  unfold hol
  refine ⟨rfl, z_go 20 [] ⟨fun h => ⟨Or.inl rfl, by rw [if_pos h], rfl⟩, fun h => ⟨fun h2 => ⟨Or.inl rfl, by rw [if_neg h, if_pos h2], rfl⟩, fun h2 => ⟨fun h3 => ⟨Or.inl rfl, by rw [if_neg h, if_neg h2, if_pos h3], rfl⟩, fun h3 => ⟨Or.inr rfl, by rw [if_neg h, if_neg h2, if_neg h3], rfl⟩⟩⟩⟩⟩
theorem c_write_0 (d : Nat) (σ : z_M) {i : Nat} (hi : i < 24) (v : Int32) : z_call (d + 1) k_Sheet_write [.ref 45, .int (nI i), .int v] σ none (z_wr σ 49 i (low (σ.1 45 0) v)) := by
  unfold low
  refine ⟨rfl, z_go 30 [] ⟨fun h => ⟨fun h2 => ⟨by (first | exact vin (by simp only [al_2, al_3, al_4, al_5, al_7, al_11, al_12, al_13, al_15, al_16, al_17, al_19, al_20, al_21, al_22, al_23, al_24, al_25, al_26, al_28, al_30, al_31, al_32, al_33, al_34, al_36, al_41, al_42, al_43, al_44, al_49, al_50, al_51, al_52, al_54, al_55, al_56, al_57, al_58, al_59, al_60, al_61, al_62, al_63, al_64, al_65, al_66, al_67, al_68, al_69, al_70, al_71, al_72, al_73, al_74, al_75, al_76, al_77, al_78, al_79, al_80]; omega) (by simp only [al_2, al_3, al_4, al_5, al_7, al_11, al_12, al_13, al_15, al_16, al_17, al_19, al_20, al_21, al_22, al_23, al_24, al_25, al_26, al_28, al_30, al_31, al_32, al_33, al_34, al_36, al_41, al_42, al_43, al_44, al_49, al_50, al_51, al_52, al_54, al_55, al_56, al_57, al_58, al_59, al_60, al_61, al_62, al_63, al_64, al_65, al_66, al_67, al_68, al_69, al_70, al_71, al_72, al_73, al_74, al_75, al_76, al_77, al_78, al_79, al_80]; decide) | (simp (disch := omega) only [nL, nI_add, pk_mul, nc, Nat.zero_add, al_2, al_3, al_4, al_5, al_7, al_11, al_12, al_13, al_15, al_16, al_17, al_19, al_20, al_21, al_22, al_23, al_24, al_25, al_26, al_28, al_30, al_31, al_32, al_33, al_34, al_36, al_41, al_42, al_43, al_44, al_49, al_50, al_51, al_52, al_54, al_55, al_56, al_57, al_58, al_59, al_60, al_61, al_62, al_63, al_64, al_65, al_66, al_67, al_68, al_69, al_70, al_71, al_72, al_73, al_74, al_75, al_76, al_77, al_78, al_79, al_80]; exact vin (by omega) (by decide))), rfl, ?_⟩, fun h2 => ⟨by (first | exact vin (by simp only [al_2, al_3, al_4, al_5, al_7, al_11, al_12, al_13, al_15, al_16, al_17, al_19, al_20, al_21, al_22, al_23, al_24, al_25, al_26, al_28, al_30, al_31, al_32, al_33, al_34, al_36, al_41, al_42, al_43, al_44, al_49, al_50, al_51, al_52, al_54, al_55, al_56, al_57, al_58, al_59, al_60, al_61, al_62, al_63, al_64, al_65, al_66, al_67, al_68, al_69, al_70, al_71, al_72, al_73, al_74, al_75, al_76, al_77, al_78, al_79, al_80]; omega) (by simp only [al_2, al_3, al_4, al_5, al_7, al_11, al_12, al_13, al_15, al_16, al_17, al_19, al_20, al_21, al_22, al_23, al_24, al_25, al_26, al_28, al_30, al_31, al_32, al_33, al_34, al_36, al_41, al_42, al_43, al_44, al_49, al_50, al_51, al_52, al_54, al_55, al_56, al_57, al_58, al_59, al_60, al_61, al_62, al_63, al_64, al_65, al_66, al_67, al_68, al_69, al_70, al_71, al_72, al_73, al_74, al_75, al_76, al_77, al_78, al_79, al_80]; decide) | (simp (disch := omega) only [nL, nI_add, pk_mul, nc, Nat.zero_add, al_2, al_3, al_4, al_5, al_7, al_11, al_12, al_13, al_15, al_16, al_17, al_19, al_20, al_21, al_22, al_23, al_24, al_25, al_26, al_28, al_30, al_31, al_32, al_33, al_34, al_36, al_41, al_42, al_43, al_44, al_49, al_50, al_51, al_52, al_54, al_55, al_56, al_57, al_58, al_59, al_60, al_61, al_62, al_63, al_64, al_65, al_66, al_67, al_68, al_69, al_70, al_71, al_72, al_73, al_74, al_75, al_76, al_77, al_78, al_79, al_80]; exact vin (by omega) (by decide))), rfl, ?_⟩⟩, fun h => ⟨by (first | exact vin (by simp only [al_2, al_3, al_4, al_5, al_7, al_11, al_12, al_13, al_15, al_16, al_17, al_19, al_20, al_21, al_22, al_23, al_24, al_25, al_26, al_28, al_30, al_31, al_32, al_33, al_34, al_36, al_41, al_42, al_43, al_44, al_49, al_50, al_51, al_52, al_54, al_55, al_56, al_57, al_58, al_59, al_60, al_61, al_62, al_63, al_64, al_65, al_66, al_67, al_68, al_69, al_70, al_71, al_72, al_73, al_74, al_75, al_76, al_77, al_78, al_79, al_80]; omega) (by simp only [al_2, al_3, al_4, al_5, al_7, al_11, al_12, al_13, al_15, al_16, al_17, al_19, al_20, al_21, al_22, al_23, al_24, al_25, al_26, al_28, al_30, al_31, al_32, al_33, al_34, al_36, al_41, al_42, al_43, al_44, al_49, al_50, al_51, al_52, al_54, al_55, al_56, al_57, al_58, al_59, al_60, al_61, al_62, al_63, al_64, al_65, al_66, al_67, al_68, al_69, al_70, al_71, al_72, al_73, al_74, al_75, al_76, al_77, al_78, al_79, al_80]; decide) | (simp (disch := omega) only [nL, nI_add, pk_mul, nc, Nat.zero_add, al_2, al_3, al_4, al_5, al_7, al_11, al_12, al_13, al_15, al_16, al_17, al_19, al_20, al_21, al_22, al_23, al_24, al_25, al_26, al_28, al_30, al_31, al_32, al_33, al_34, al_36, al_41, al_42, al_43, al_44, al_49, al_50, al_51, al_52, al_54, al_55, al_56, al_57, al_58, al_59, al_60, al_61, al_62, al_63, al_64, al_65, al_66, al_67, al_68, al_69, al_70, al_71, al_72, al_73, al_74, al_75, al_76, al_77, al_78, al_79, al_80]; exact vin (by omega) (by decide))), rfl, ?_⟩⟩⟩
  · rw [if_neg h, if_neg h2, nc (by omega)]
  · rw [if_neg h, if_pos h2, nc (by omega)]
  · rw [if_pos h, nc (by omega)]
theorem x_put_0 (d : Nat) {σ : z_M} {B : zB} (h : RepC σ B) (hv : VB B) (i v : Int32) : opC (d + 5) k_RF_put [.ref 0, .int 0, .int i, .int v] σ (sPut 0 i v B) := by
  obtain ⟨σt, ht, hRt, hkt⟩ := c_tell (d + 3) h (-1000001)
  obtain ⟨σu, hu, hRu, hku⟩ := c_tell (d + 3) h (-1000002)
  have hs : ¬ hasP 4 0 = 0 := by decide
  obtain ⟨e0, e1, e2⟩ := h.2.2.2.1 0 (by decide)
  obtain ⟨hb, n, hn, hn24⟩ := hv.2.2.2.2 0 (by decide)
  have cm := c_isMissing_0 (d + 3) σ
  have ch := c_holds_0 (d + 3) σ i 1
  rw [show σ.1 45 0 = _ from e0] at cm
  rw [show σ.1 45 1 = _ from e1, hn, hol_1 hn24] at ch
  refine z_metC ⟨rfl, z_go 60 [] ⟨_, _, c_isSheet (d + 3) σ 0, fun q => orj_0 ⟨rfl, _, _, cm, fun q2 => orj_0 ⟨rfl, _, _, ch, fun q3 => orj_0 ⟨rfl, ?_⟩, fun q3 => ?_⟩, fun q2 => ?_⟩, fun q => absurd q hs⟩⟩
  · have q4 : ¬ B.2.2.2.1 0 0 = 0 := fun z => by rw [if_pos z] at q2; exact absurd q2 (by decide)
    obtain ⟨k, hk, rfl⟩ := hasP_ne (by omega) q3
    have cw := c_write_0 (d + 3) σ (i := k) (by omega) v
    refine ⟨_, cw, ?_⟩
    rw [sPut, if_neg hs, tc_0, if_neg q4, if_neg (by rw [hn]; exact q3), nc (by omega)]
    refine ⟨rfl, h.sheets (fun c hc => z_wr_ne (by omega)) (h.2.2.2.1.up (by decide) (fun c _ _ a b => z_wr_ne (by omega)) ?_ ?_ ?_) _⟩
    · rw [wr_c (by decide)]
      exact e0.trans (upd_k (by omega)).symm
    · rw [wr_c (by decide)]
      exact e1.trans (upd_k (by omega)).symm
    · intro i2 hi2
      by_cases e : i2 = k
      · subst e
        rw [wr_s, upd_s, show σ.1 45 0 = _ from e0]
      · rw [upd_k (by omega), wr_k e]
        exact e2 i2 hi2
  · have q4 : ¬ B.2.2.2.1 0 0 = 0 := fun z => by rw [if_pos z] at q2; exact absurd q2 (by decide)
    rw [sPut, if_neg hs, tc_0, if_neg q4, if_pos (by rw [hn]; exact q3)]
    exact ⟨_, σt, ht, rfl, hRt, hkt⟩
  · have q4 : B.2.2.2.1 0 0 = 0 := by
      rcases Decidable.em (B.2.2.2.1 0 0 = 0) with z | z
      · exact z
      · rw [if_neg z] at q2
        exact absurd rfl q2
    rw [sPut, if_neg hs, tc_0, if_pos q4]
    exact ⟨_, σu, hu, rfl, hRu, hku⟩
theorem c_isMissing_1 (d : Nat) (σ : z_M) : z_call (d + 1) k_Sheet_isMissing [.ref 46] σ (some (.int (if σ.1 46 0 = 0 then 1 else 0))) σ := by
  refine ⟨rfl, z_go 20 [] ⟨fun h => ⟨Or.inl rfl, by rw [if_neg h], rfl⟩, fun h => ⟨Or.inr rfl, by rw [if_pos h], rfl⟩⟩⟩
theorem c_holds_1 (d : Nat) (σ : z_M) (a n : Int32) : z_call (d + 1) k_Sheet_holds [.ref 46, .int a, .int n] σ (some (.int (hol (σ.1 46 1) a n))) σ := by
  unfold hol
  refine ⟨rfl, z_go 20 [] ⟨fun h => ⟨Or.inl rfl, by rw [if_pos h], rfl⟩, fun h => ⟨fun h2 => ⟨Or.inl rfl, by rw [if_neg h, if_pos h2], rfl⟩, fun h2 => ⟨fun h3 => ⟨Or.inl rfl, by rw [if_neg h, if_neg h2, if_pos h3], rfl⟩, fun h3 => ⟨Or.inr rfl, by rw [if_neg h, if_neg h2, if_neg h3], rfl⟩⟩⟩⟩⟩
theorem c_write_1 (d : Nat) (σ : z_M) {i : Nat} (hi : i < 24) (v : Int32) : z_call (d + 1) k_Sheet_write [.ref 46, .int (nI i), .int v] σ none (z_wr σ 50 i (low (σ.1 46 0) v)) := by
  unfold low
  refine ⟨rfl, z_go 30 [] ⟨fun h => ⟨fun h2 => ⟨by (first | exact vin (by simp only [al_2, al_3, al_4, al_5, al_7, al_11, al_12, al_13, al_15, al_16, al_17, al_19, al_20, al_21, al_22, al_23, al_24, al_25, al_26, al_28, al_30, al_31, al_32, al_33, al_34, al_36, al_41, al_42, al_43, al_44, al_49, al_50, al_51, al_52, al_54, al_55, al_56, al_57, al_58, al_59, al_60, al_61, al_62, al_63, al_64, al_65, al_66, al_67, al_68, al_69, al_70, al_71, al_72, al_73, al_74, al_75, al_76, al_77, al_78, al_79, al_80]; omega) (by simp only [al_2, al_3, al_4, al_5, al_7, al_11, al_12, al_13, al_15, al_16, al_17, al_19, al_20, al_21, al_22, al_23, al_24, al_25, al_26, al_28, al_30, al_31, al_32, al_33, al_34, al_36, al_41, al_42, al_43, al_44, al_49, al_50, al_51, al_52, al_54, al_55, al_56, al_57, al_58, al_59, al_60, al_61, al_62, al_63, al_64, al_65, al_66, al_67, al_68, al_69, al_70, al_71, al_72, al_73, al_74, al_75, al_76, al_77, al_78, al_79, al_80]; decide) | (simp (disch := omega) only [nL, nI_add, pk_mul, nc, Nat.zero_add, al_2, al_3, al_4, al_5, al_7, al_11, al_12, al_13, al_15, al_16, al_17, al_19, al_20, al_21, al_22, al_23, al_24, al_25, al_26, al_28, al_30, al_31, al_32, al_33, al_34, al_36, al_41, al_42, al_43, al_44, al_49, al_50, al_51, al_52, al_54, al_55, al_56, al_57, al_58, al_59, al_60, al_61, al_62, al_63, al_64, al_65, al_66, al_67, al_68, al_69, al_70, al_71, al_72, al_73, al_74, al_75, al_76, al_77, al_78, al_79, al_80]; exact vin (by omega) (by decide))), rfl, ?_⟩, fun h2 => ⟨by (first | exact vin (by simp only [al_2, al_3, al_4, al_5, al_7, al_11, al_12, al_13, al_15, al_16, al_17, al_19, al_20, al_21, al_22, al_23, al_24, al_25, al_26, al_28, al_30, al_31, al_32, al_33, al_34, al_36, al_41, al_42, al_43, al_44, al_49, al_50, al_51, al_52, al_54, al_55, al_56, al_57, al_58, al_59, al_60, al_61, al_62, al_63, al_64, al_65, al_66, al_67, al_68, al_69, al_70, al_71, al_72, al_73, al_74, al_75, al_76, al_77, al_78, al_79, al_80]; omega) (by simp only [al_2, al_3, al_4, al_5, al_7, al_11, al_12, al_13, al_15, al_16, al_17, al_19, al_20, al_21, al_22, al_23, al_24, al_25, al_26, al_28, al_30, al_31, al_32, al_33, al_34, al_36, al_41, al_42, al_43, al_44, al_49, al_50, al_51, al_52, al_54, al_55, al_56, al_57, al_58, al_59, al_60, al_61, al_62, al_63, al_64, al_65, al_66, al_67, al_68, al_69, al_70, al_71, al_72, al_73, al_74, al_75, al_76, al_77, al_78, al_79, al_80]; decide) | (simp (disch := omega) only [nL, nI_add, pk_mul, nc, Nat.zero_add, al_2, al_3, al_4, al_5, al_7, al_11, al_12, al_13, al_15, al_16, al_17, al_19, al_20, al_21, al_22, al_23, al_24, al_25, al_26, al_28, al_30, al_31, al_32, al_33, al_34, al_36, al_41, al_42, al_43, al_44, al_49, al_50, al_51, al_52, al_54, al_55, al_56, al_57, al_58, al_59, al_60, al_61, al_62, al_63, al_64, al_65, al_66, al_67, al_68, al_69, al_70, al_71, al_72, al_73, al_74, al_75, al_76, al_77, al_78, al_79, al_80]; exact vin (by omega) (by decide))), rfl, ?_⟩⟩, fun h => ⟨by (first | exact vin (by simp only [al_2, al_3, al_4, al_5, al_7, al_11, al_12, al_13, al_15, al_16, al_17, al_19, al_20, al_21, al_22, al_23, al_24, al_25, al_26, al_28, al_30, al_31, al_32, al_33, al_34, al_36, al_41, al_42, al_43, al_44, al_49, al_50, al_51, al_52, al_54, al_55, al_56, al_57, al_58, al_59, al_60, al_61, al_62, al_63, al_64, al_65, al_66, al_67, al_68, al_69, al_70, al_71, al_72, al_73, al_74, al_75, al_76, al_77, al_78, al_79, al_80]; omega) (by simp only [al_2, al_3, al_4, al_5, al_7, al_11, al_12, al_13, al_15, al_16, al_17, al_19, al_20, al_21, al_22, al_23, al_24, al_25, al_26, al_28, al_30, al_31, al_32, al_33, al_34, al_36, al_41, al_42, al_43, al_44, al_49, al_50, al_51, al_52, al_54, al_55, al_56, al_57, al_58, al_59, al_60, al_61, al_62, al_63, al_64, al_65, al_66, al_67, al_68, al_69, al_70, al_71, al_72, al_73, al_74, al_75, al_76, al_77, al_78, al_79, al_80]; decide) | (simp (disch := omega) only [nL, nI_add, pk_mul, nc, Nat.zero_add, al_2, al_3, al_4, al_5, al_7, al_11, al_12, al_13, al_15, al_16, al_17, al_19, al_20, al_21, al_22, al_23, al_24, al_25, al_26, al_28, al_30, al_31, al_32, al_33, al_34, al_36, al_41, al_42, al_43, al_44, al_49, al_50, al_51, al_52, al_54, al_55, al_56, al_57, al_58, al_59, al_60, al_61, al_62, al_63, al_64, al_65, al_66, al_67, al_68, al_69, al_70, al_71, al_72, al_73, al_74, al_75, al_76, al_77, al_78, al_79, al_80]; exact vin (by omega) (by decide))), rfl, ?_⟩⟩⟩
  · rw [if_neg h, if_neg h2, nc (by omega)]
  · rw [if_neg h, if_pos h2, nc (by omega)]
  · rw [if_pos h, nc (by omega)]
theorem x_put_1 (d : Nat) {σ : z_M} {B : zB} (h : RepC σ B) (hv : VB B) (i v : Int32) : opC (d + 5) k_RF_put [.ref 0, .int 1, .int i, .int v] σ (sPut 1 i v B) := by
  obtain ⟨σt, ht, hRt, hkt⟩ := c_tell (d + 3) h (-1000001)
  obtain ⟨σu, hu, hRu, hku⟩ := c_tell (d + 3) h (-1000002)
  have hs : ¬ hasP 4 1 = 0 := by decide
  obtain ⟨e0, e1, e2⟩ := h.2.2.2.1 1 (by decide)
  obtain ⟨hb, n, hn, hn24⟩ := hv.2.2.2.2 1 (by decide)
  have cm := c_isMissing_1 (d + 3) σ
  have ch := c_holds_1 (d + 3) σ i 1
  rw [show σ.1 46 0 = _ from e0] at cm
  rw [show σ.1 46 1 = _ from e1, hn, hol_1 hn24] at ch
  refine z_metC ⟨rfl, z_go 60 [] ⟨_, _, c_isSheet (d + 3) σ 1, fun q => orj_1 ⟨rfl, _, _, cm, fun q2 => orj_1 ⟨rfl, _, _, ch, fun q3 => orj_1 ⟨rfl, ?_⟩, fun q3 => ?_⟩, fun q2 => ?_⟩, fun q => absurd q hs⟩⟩
  · have q4 : ¬ B.2.2.2.1 1 0 = 0 := fun z => by rw [if_pos z] at q2; exact absurd q2 (by decide)
    obtain ⟨k, hk, rfl⟩ := hasP_ne (by omega) q3
    have cw := c_write_1 (d + 3) σ (i := k) (by omega) v
    refine ⟨_, cw, ?_⟩
    rw [sPut, if_neg hs, tc_1, if_neg q4, if_neg (by rw [hn]; exact q3), nc (by omega)]
    refine ⟨rfl, h.sheets (fun c hc => z_wr_ne (by omega)) (h.2.2.2.1.up (by decide) (fun c _ _ a b => z_wr_ne (by omega)) ?_ ?_ ?_) _⟩
    · rw [wr_c (by decide)]
      exact e0.trans (upd_k (by omega)).symm
    · rw [wr_c (by decide)]
      exact e1.trans (upd_k (by omega)).symm
    · intro i2 hi2
      by_cases e : i2 = k
      · subst e
        rw [wr_s, upd_s, show σ.1 46 0 = _ from e0]
      · rw [upd_k (by omega), wr_k e]
        exact e2 i2 hi2
  · have q4 : ¬ B.2.2.2.1 1 0 = 0 := fun z => by rw [if_pos z] at q2; exact absurd q2 (by decide)
    rw [sPut, if_neg hs, tc_1, if_neg q4, if_pos (by rw [hn]; exact q3)]
    exact ⟨_, σt, ht, rfl, hRt, hkt⟩
  · have q4 : B.2.2.2.1 1 0 = 0 := by
      rcases Decidable.em (B.2.2.2.1 1 0 = 0) with z | z
      · exact z
      · rw [if_neg z] at q2
        exact absurd rfl q2
    rw [sPut, if_neg hs, tc_1, if_pos q4]
    exact ⟨_, σu, hu, rfl, hRu, hku⟩
theorem c_isMissing_2 (d : Nat) (σ : z_M) : z_call (d + 1) k_Sheet_isMissing [.ref 47] σ (some (.int (if σ.1 47 0 = 0 then 1 else 0))) σ := by
  refine ⟨rfl, z_go 20 [] ⟨fun h => ⟨Or.inl rfl, by rw [if_neg h], rfl⟩, fun h => ⟨Or.inr rfl, by rw [if_pos h], rfl⟩⟩⟩
theorem c_holds_2 (d : Nat) (σ : z_M) (a n : Int32) : z_call (d + 1) k_Sheet_holds [.ref 47, .int a, .int n] σ (some (.int (hol (σ.1 47 1) a n))) σ := by
  unfold hol
  refine ⟨rfl, z_go 20 [] ⟨fun h => ⟨Or.inl rfl, by rw [if_pos h], rfl⟩, fun h => ⟨fun h2 => ⟨Or.inl rfl, by rw [if_neg h, if_pos h2], rfl⟩, fun h2 => ⟨fun h3 => ⟨Or.inl rfl, by rw [if_neg h, if_neg h2, if_pos h3], rfl⟩, fun h3 => ⟨Or.inr rfl, by rw [if_neg h, if_neg h2, if_neg h3], rfl⟩⟩⟩⟩⟩
theorem c_write_2 (d : Nat) (σ : z_M) {i : Nat} (hi : i < 24) (v : Int32) : z_call (d + 1) k_Sheet_write [.ref 47, .int (nI i), .int v] σ none (z_wr σ 51 i (low (σ.1 47 0) v)) := by
  unfold low
  refine ⟨rfl, z_go 30 [] ⟨fun h => ⟨fun h2 => ⟨by (first | exact vin (by simp only [al_2, al_3, al_4, al_5, al_7, al_11, al_12, al_13, al_15, al_16, al_17, al_19, al_20, al_21, al_22, al_23, al_24, al_25, al_26, al_28, al_30, al_31, al_32, al_33, al_34, al_36, al_41, al_42, al_43, al_44, al_49, al_50, al_51, al_52, al_54, al_55, al_56, al_57, al_58, al_59, al_60, al_61, al_62, al_63, al_64, al_65, al_66, al_67, al_68, al_69, al_70, al_71, al_72, al_73, al_74, al_75, al_76, al_77, al_78, al_79, al_80]; omega) (by simp only [al_2, al_3, al_4, al_5, al_7, al_11, al_12, al_13, al_15, al_16, al_17, al_19, al_20, al_21, al_22, al_23, al_24, al_25, al_26, al_28, al_30, al_31, al_32, al_33, al_34, al_36, al_41, al_42, al_43, al_44, al_49, al_50, al_51, al_52, al_54, al_55, al_56, al_57, al_58, al_59, al_60, al_61, al_62, al_63, al_64, al_65, al_66, al_67, al_68, al_69, al_70, al_71, al_72, al_73, al_74, al_75, al_76, al_77, al_78, al_79, al_80]; decide) | (simp (disch := omega) only [nL, nI_add, pk_mul, nc, Nat.zero_add, al_2, al_3, al_4, al_5, al_7, al_11, al_12, al_13, al_15, al_16, al_17, al_19, al_20, al_21, al_22, al_23, al_24, al_25, al_26, al_28, al_30, al_31, al_32, al_33, al_34, al_36, al_41, al_42, al_43, al_44, al_49, al_50, al_51, al_52, al_54, al_55, al_56, al_57, al_58, al_59, al_60, al_61, al_62, al_63, al_64, al_65, al_66, al_67, al_68, al_69, al_70, al_71, al_72, al_73, al_74, al_75, al_76, al_77, al_78, al_79, al_80]; exact vin (by omega) (by decide))), rfl, ?_⟩, fun h2 => ⟨by (first | exact vin (by simp only [al_2, al_3, al_4, al_5, al_7, al_11, al_12, al_13, al_15, al_16, al_17, al_19, al_20, al_21, al_22, al_23, al_24, al_25, al_26, al_28, al_30, al_31, al_32, al_33, al_34, al_36, al_41, al_42, al_43, al_44, al_49, al_50, al_51, al_52, al_54, al_55, al_56, al_57, al_58, al_59, al_60, al_61, al_62, al_63, al_64, al_65, al_66, al_67, al_68, al_69, al_70, al_71, al_72, al_73, al_74, al_75, al_76, al_77, al_78, al_79, al_80]; omega) (by simp only [al_2, al_3, al_4, al_5, al_7, al_11, al_12, al_13, al_15, al_16, al_17, al_19, al_20, al_21, al_22, al_23, al_24, al_25, al_26, al_28, al_30, al_31, al_32, al_33, al_34, al_36, al_41, al_42, al_43, al_44, al_49, al_50, al_51, al_52, al_54, al_55, al_56, al_57, al_58, al_59, al_60, al_61, al_62, al_63, al_64, al_65, al_66, al_67, al_68, al_69, al_70, al_71, al_72, al_73, al_74, al_75, al_76, al_77, al_78, al_79, al_80]; decide) | (simp (disch := omega) only [nL, nI_add, pk_mul, nc, Nat.zero_add, al_2, al_3, al_4, al_5, al_7, al_11, al_12, al_13, al_15, al_16, al_17, al_19, al_20, al_21, al_22, al_23, al_24, al_25, al_26, al_28, al_30, al_31, al_32, al_33, al_34, al_36, al_41, al_42, al_43, al_44, al_49, al_50, al_51, al_52, al_54, al_55, al_56, al_57, al_58, al_59, al_60, al_61, al_62, al_63, al_64, al_65, al_66, al_67, al_68, al_69, al_70, al_71, al_72, al_73, al_74, al_75, al_76, al_77, al_78, al_79, al_80]; exact vin (by omega) (by decide))), rfl, ?_⟩⟩, fun h => ⟨by (first | exact vin (by simp only [al_2, al_3, al_4, al_5, al_7, al_11, al_12, al_13, al_15, al_16, al_17, al_19, al_20, al_21, al_22, al_23, al_24, al_25, al_26, al_28, al_30, al_31, al_32, al_33, al_34, al_36, al_41, al_42, al_43, al_44, al_49, al_50, al_51, al_52, al_54, al_55, al_56, al_57, al_58, al_59, al_60, al_61, al_62, al_63, al_64, al_65, al_66, al_67, al_68, al_69, al_70, al_71, al_72, al_73, al_74, al_75, al_76, al_77, al_78, al_79, al_80]; omega) (by simp only [al_2, al_3, al_4, al_5, al_7, al_11, al_12, al_13, al_15, al_16, al_17, al_19, al_20, al_21, al_22, al_23, al_24, al_25, al_26, al_28, al_30, al_31, al_32, al_33, al_34, al_36, al_41, al_42, al_43, al_44, al_49, al_50, al_51, al_52, al_54, al_55, al_56, al_57, al_58, al_59, al_60, al_61, al_62, al_63, al_64, al_65, al_66, al_67, al_68, al_69, al_70, al_71, al_72, al_73, al_74, al_75, al_76, al_77, al_78, al_79, al_80]; decide) | (simp (disch := omega) only [nL, nI_add, pk_mul, nc, Nat.zero_add, al_2, al_3, al_4, al_5, al_7, al_11, al_12, al_13, al_15, al_16, al_17, al_19, al_20, al_21, al_22, al_23, al_24, al_25, al_26, al_28, al_30, al_31, al_32, al_33, al_34, al_36, al_41, al_42, al_43, al_44, al_49, al_50, al_51, al_52, al_54, al_55, al_56, al_57, al_58, al_59, al_60, al_61, al_62, al_63, al_64, al_65, al_66, al_67, al_68, al_69, al_70, al_71, al_72, al_73, al_74, al_75, al_76, al_77, al_78, al_79, al_80]; exact vin (by omega) (by decide))), rfl, ?_⟩⟩⟩
  · rw [if_neg h, if_neg h2, nc (by omega)]
  · rw [if_neg h, if_pos h2, nc (by omega)]
  · rw [if_pos h, nc (by omega)]
theorem x_put_2 (d : Nat) {σ : z_M} {B : zB} (h : RepC σ B) (hv : VB B) (i v : Int32) : opC (d + 5) k_RF_put [.ref 0, .int 2, .int i, .int v] σ (sPut 2 i v B) := by
  obtain ⟨σt, ht, hRt, hkt⟩ := c_tell (d + 3) h (-1000001)
  obtain ⟨σu, hu, hRu, hku⟩ := c_tell (d + 3) h (-1000002)
  have hs : ¬ hasP 4 2 = 0 := by decide
  obtain ⟨e0, e1, e2⟩ := h.2.2.2.1 2 (by decide)
  obtain ⟨hb, n, hn, hn24⟩ := hv.2.2.2.2 2 (by decide)
  have cm := c_isMissing_2 (d + 3) σ
  have ch := c_holds_2 (d + 3) σ i 1
  rw [show σ.1 47 0 = _ from e0] at cm
  rw [show σ.1 47 1 = _ from e1, hn, hol_1 hn24] at ch
  refine z_metC ⟨rfl, z_go 60 [] ⟨_, _, c_isSheet (d + 3) σ 2, fun q => orj_2 ⟨rfl, _, _, cm, fun q2 => orj_2 ⟨rfl, _, _, ch, fun q3 => orj_2 ⟨rfl, ?_⟩, fun q3 => ?_⟩, fun q2 => ?_⟩, fun q => absurd q hs⟩⟩
  · have q4 : ¬ B.2.2.2.1 2 0 = 0 := fun z => by rw [if_pos z] at q2; exact absurd q2 (by decide)
    obtain ⟨k, hk, rfl⟩ := hasP_ne (by omega) q3
    have cw := c_write_2 (d + 3) σ (i := k) (by omega) v
    refine ⟨_, cw, ?_⟩
    rw [sPut, if_neg hs, tc_2, if_neg q4, if_neg (by rw [hn]; exact q3), nc (by omega)]
    refine ⟨rfl, h.sheets (fun c hc => z_wr_ne (by omega)) (h.2.2.2.1.up (by decide) (fun c _ _ a b => z_wr_ne (by omega)) ?_ ?_ ?_) _⟩
    · rw [wr_c (by decide)]
      exact e0.trans (upd_k (by omega)).symm
    · rw [wr_c (by decide)]
      exact e1.trans (upd_k (by omega)).symm
    · intro i2 hi2
      by_cases e : i2 = k
      · subst e
        rw [wr_s, upd_s, show σ.1 47 0 = _ from e0]
      · rw [upd_k (by omega), wr_k e]
        exact e2 i2 hi2
  · have q4 : ¬ B.2.2.2.1 2 0 = 0 := fun z => by rw [if_pos z] at q2; exact absurd q2 (by decide)
    rw [sPut, if_neg hs, tc_2, if_neg q4, if_pos (by rw [hn]; exact q3)]
    exact ⟨_, σt, ht, rfl, hRt, hkt⟩
  · have q4 : B.2.2.2.1 2 0 = 0 := by
      rcases Decidable.em (B.2.2.2.1 2 0 = 0) with z | z
      · exact z
      · rw [if_neg z] at q2
        exact absurd rfl q2
    rw [sPut, if_neg hs, tc_2, if_pos q4]
    exact ⟨_, σu, hu, rfl, hRu, hku⟩
theorem c_isMissing_3 (d : Nat) (σ : z_M) : z_call (d + 1) k_Sheet_isMissing [.ref 48] σ (some (.int (if σ.1 48 0 = 0 then 1 else 0))) σ := by
  refine ⟨rfl, z_go 20 [] ⟨fun h => ⟨Or.inl rfl, by rw [if_neg h], rfl⟩, fun h => ⟨Or.inr rfl, by rw [if_pos h], rfl⟩⟩⟩
theorem c_holds_3 (d : Nat) (σ : z_M) (a n : Int32) : z_call (d + 1) k_Sheet_holds [.ref 48, .int a, .int n] σ (some (.int (hol (σ.1 48 1) a n))) σ := by
  unfold hol
  refine ⟨rfl, z_go 20 [] ⟨fun h => ⟨Or.inl rfl, by rw [if_pos h], rfl⟩, fun h => ⟨fun h2 => ⟨Or.inl rfl, by rw [if_neg h, if_pos h2], rfl⟩, fun h2 => ⟨fun h3 => ⟨Or.inl rfl, by rw [if_neg h, if_neg h2, if_pos h3], rfl⟩, fun h3 => ⟨Or.inr rfl, by rw [if_neg h, if_neg h2, if_neg h3], rfl⟩⟩⟩⟩⟩
theorem c_write_3 (d : Nat) (σ : z_M) {i : Nat} (hi : i < 24) (v : Int32) : z_call (d + 1) k_Sheet_write [.ref 48, .int (nI i), .int v] σ none (z_wr σ 52 i (low (σ.1 48 0) v)) := by
  unfold low
  refine ⟨rfl, z_go 30 [] ⟨fun h => ⟨fun h2 => ⟨by (first | exact vin (by simp only [al_2, al_3, al_4, al_5, al_7, al_11, al_12, al_13, al_15, al_16, al_17, al_19, al_20, al_21, al_22, al_23, al_24, al_25, al_26, al_28, al_30, al_31, al_32, al_33, al_34, al_36, al_41, al_42, al_43, al_44, al_49, al_50, al_51, al_52, al_54, al_55, al_56, al_57, al_58, al_59, al_60, al_61, al_62, al_63, al_64, al_65, al_66, al_67, al_68, al_69, al_70, al_71, al_72, al_73, al_74, al_75, al_76, al_77, al_78, al_79, al_80]; omega) (by simp only [al_2, al_3, al_4, al_5, al_7, al_11, al_12, al_13, al_15, al_16, al_17, al_19, al_20, al_21, al_22, al_23, al_24, al_25, al_26, al_28, al_30, al_31, al_32, al_33, al_34, al_36, al_41, al_42, al_43, al_44, al_49, al_50, al_51, al_52, al_54, al_55, al_56, al_57, al_58, al_59, al_60, al_61, al_62, al_63, al_64, al_65, al_66, al_67, al_68, al_69, al_70, al_71, al_72, al_73, al_74, al_75, al_76, al_77, al_78, al_79, al_80]; decide) | (simp (disch := omega) only [nL, nI_add, pk_mul, nc, Nat.zero_add, al_2, al_3, al_4, al_5, al_7, al_11, al_12, al_13, al_15, al_16, al_17, al_19, al_20, al_21, al_22, al_23, al_24, al_25, al_26, al_28, al_30, al_31, al_32, al_33, al_34, al_36, al_41, al_42, al_43, al_44, al_49, al_50, al_51, al_52, al_54, al_55, al_56, al_57, al_58, al_59, al_60, al_61, al_62, al_63, al_64, al_65, al_66, al_67, al_68, al_69, al_70, al_71, al_72, al_73, al_74, al_75, al_76, al_77, al_78, al_79, al_80]; exact vin (by omega) (by decide))), rfl, ?_⟩, fun h2 => ⟨by (first | exact vin (by simp only [al_2, al_3, al_4, al_5, al_7, al_11, al_12, al_13, al_15, al_16, al_17, al_19, al_20, al_21, al_22, al_23, al_24, al_25, al_26, al_28, al_30, al_31, al_32, al_33, al_34, al_36, al_41, al_42, al_43, al_44, al_49, al_50, al_51, al_52, al_54, al_55, al_56, al_57, al_58, al_59, al_60, al_61, al_62, al_63, al_64, al_65, al_66, al_67, al_68, al_69, al_70, al_71, al_72, al_73, al_74, al_75, al_76, al_77, al_78, al_79, al_80]; omega) (by simp only [al_2, al_3, al_4, al_5, al_7, al_11, al_12, al_13, al_15, al_16, al_17, al_19, al_20, al_21, al_22, al_23, al_24, al_25, al_26, al_28, al_30, al_31, al_32, al_33, al_34, al_36, al_41, al_42, al_43, al_44, al_49, al_50, al_51, al_52, al_54, al_55, al_56, al_57, al_58, al_59, al_60, al_61, al_62, al_63, al_64, al_65, al_66, al_67, al_68, al_69, al_70, al_71, al_72, al_73, al_74, al_75, al_76, al_77, al_78, al_79, al_80]; decide) | (simp (disch := omega) only [nL, nI_add, pk_mul, nc, Nat.zero_add, al_2, al_3, al_4, al_5, al_7, al_11, al_12, al_13, al_15, al_16, al_17, al_19, al_20, al_21, al_22, al_23, al_24, al_25, al_26, al_28, al_30, al_31, al_32, al_33, al_34, al_36, al_41, al_42, al_43, al_44, al_49, al_50, al_51, al_52, al_54, al_55, al_56, al_57, al_58, al_59, al_60, al_61, al_62, al_63, al_64, al_65, al_66, al_67, al_68, al_69, al_70, al_71, al_72, al_73, al_74, al_75, al_76, al_77, al_78, al_79, al_80]; exact vin (by omega) (by decide))), rfl, ?_⟩⟩, fun h => ⟨by (first | exact vin (by simp only [al_2, al_3, al_4, al_5, al_7, al_11, al_12, al_13, al_15, al_16, al_17, al_19, al_20, al_21, al_22, al_23, al_24, al_25, al_26, al_28, al_30, al_31, al_32, al_33, al_34, al_36, al_41, al_42, al_43, al_44, al_49, al_50, al_51, al_52, al_54, al_55, al_56, al_57, al_58, al_59, al_60, al_61, al_62, al_63, al_64, al_65, al_66, al_67, al_68, al_69, al_70, al_71, al_72, al_73, al_74, al_75, al_76, al_77, al_78, al_79, al_80]; omega) (by simp only [al_2, al_3, al_4, al_5, al_7, al_11, al_12, al_13, al_15, al_16, al_17, al_19, al_20, al_21, al_22, al_23, al_24, al_25, al_26, al_28, al_30, al_31, al_32, al_33, al_34, al_36, al_41, al_42, al_43, al_44, al_49, al_50, al_51, al_52, al_54, al_55, al_56, al_57, al_58, al_59, al_60, al_61, al_62, al_63, al_64, al_65, al_66, al_67, al_68, al_69, al_70, al_71, al_72, al_73, al_74, al_75, al_76, al_77, al_78, al_79, al_80]; decide) | (simp (disch := omega) only [nL, nI_add, pk_mul, nc, Nat.zero_add, al_2, al_3, al_4, al_5, al_7, al_11, al_12, al_13, al_15, al_16, al_17, al_19, al_20, al_21, al_22, al_23, al_24, al_25, al_26, al_28, al_30, al_31, al_32, al_33, al_34, al_36, al_41, al_42, al_43, al_44, al_49, al_50, al_51, al_52, al_54, al_55, al_56, al_57, al_58, al_59, al_60, al_61, al_62, al_63, al_64, al_65, al_66, al_67, al_68, al_69, al_70, al_71, al_72, al_73, al_74, al_75, al_76, al_77, al_78, al_79, al_80]; exact vin (by omega) (by decide))), rfl, ?_⟩⟩⟩
  · rw [if_neg h, if_neg h2, nc (by omega)]
  · rw [if_neg h, if_pos h2, nc (by omega)]
  · rw [if_pos h, nc (by omega)]
theorem x_put_3 (d : Nat) {σ : z_M} {B : zB} (h : RepC σ B) (hv : VB B) (i v : Int32) : opC (d + 5) k_RF_put [.ref 0, .int 3, .int i, .int v] σ (sPut 3 i v B) := by
  obtain ⟨σt, ht, hRt, hkt⟩ := c_tell (d + 3) h (-1000001)
  obtain ⟨σu, hu, hRu, hku⟩ := c_tell (d + 3) h (-1000002)
  have hs : ¬ hasP 4 3 = 0 := by decide
  obtain ⟨e0, e1, e2⟩ := h.2.2.2.1 3 (by decide)
  obtain ⟨hb, n, hn, hn24⟩ := hv.2.2.2.2 3 (by decide)
  have cm := c_isMissing_3 (d + 3) σ
  have ch := c_holds_3 (d + 3) σ i 1
  rw [show σ.1 48 0 = _ from e0] at cm
  rw [show σ.1 48 1 = _ from e1, hn, hol_1 hn24] at ch
  refine z_metC ⟨rfl, z_go 60 [] ⟨_, _, c_isSheet (d + 3) σ 3, fun q => orj_3 ⟨rfl, _, _, cm, fun q2 => orj_3 ⟨rfl, _, _, ch, fun q3 => orj_3 ⟨rfl, ?_⟩, fun q3 => ?_⟩, fun q2 => ?_⟩, fun q => absurd q hs⟩⟩
  · have q4 : ¬ B.2.2.2.1 3 0 = 0 := fun z => by rw [if_pos z] at q2; exact absurd q2 (by decide)
    obtain ⟨k, hk, rfl⟩ := hasP_ne (by omega) q3
    have cw := c_write_3 (d + 3) σ (i := k) (by omega) v
    refine ⟨_, cw, ?_⟩
    rw [sPut, if_neg hs, tc_3, if_neg q4, if_neg (by rw [hn]; exact q3), nc (by omega)]
    refine ⟨rfl, h.sheets (fun c hc => z_wr_ne (by omega)) (h.2.2.2.1.up (by decide) (fun c _ _ a b => z_wr_ne (by omega)) ?_ ?_ ?_) _⟩
    · rw [wr_c (by decide)]
      exact e0.trans (upd_k (by omega)).symm
    · rw [wr_c (by decide)]
      exact e1.trans (upd_k (by omega)).symm
    · intro i2 hi2
      by_cases e : i2 = k
      · subst e
        rw [wr_s, upd_s, show σ.1 48 0 = _ from e0]
      · rw [upd_k (by omega), wr_k e]
        exact e2 i2 hi2
  · have q4 : ¬ B.2.2.2.1 3 0 = 0 := fun z => by rw [if_pos z] at q2; exact absurd q2 (by decide)
    rw [sPut, if_neg hs, tc_3, if_neg q4, if_pos (by rw [hn]; exact q3)]
    exact ⟨_, σt, ht, rfl, hRt, hkt⟩
  · have q4 : B.2.2.2.1 3 0 = 0 := by
      rcases Decidable.em (B.2.2.2.1 3 0 = 0) with z | z
      · exact z
      · rw [if_neg z] at q2
        exact absurd rfl q2
    rw [sPut, if_neg hs, tc_3, if_pos q4]
    exact ⟨_, σu, hu, rfl, hRu, hku⟩
theorem x_put (d : Nat) {σ : z_M} {B : zB} (h : RepC σ B) (hv : VB B) (s i v : Int32) : opC (d + 5) k_RF_put [.ref 0, .int s, .int i, .int v] σ (sPut s i v B) := by
  by_cases hs : hasP 4 s = 0
  · obtain ⟨σt, ht, hRt, hkt⟩ := c_tell (d + 3) h (-1000001)
    refine z_metC ⟨rfl, z_go 20 [] ⟨_, _, c_isSheet (d + 3) σ s, fun q => absurd hs q, fun q => ?_⟩⟩
    rw [sPut, if_pos hs]
    exact ⟨_, σt, ht, rfl, hRt, hkt⟩
  · obtain ⟨j, hj, rfl⟩ := hasP_ne (n := 4) (by omega) hs
    exact four_cases (P := fun j => opC (d + 5) k_RF_put [.ref 0, .int (nI j), .int i, .int v] σ (sPut (nI j) i v B)) (x_put_0 d h hv i v) (x_put_1 d h hv i v) (x_put_2 d h hv i v) (x_put_3 d h hv i v) hj
theorem y_put (d : Nat) {σ : z_M} {B : zB} (h : RepD σ B) (hv : VB B) (s i v : Int32) : opD (d + 5) k_Md_put [.ref 53, .int s, .int i, .int v] σ (sPut s i v B) := by
  obtain ⟨σt, ht, hRt, hkt⟩ := c_finding (d + 3) h (-1000001)
  obtain ⟨σu, hu, hRu, hku⟩ := c_finding (d + 3) h (-1000002)
  refine z_metD ⟨rfl, z_go 60 [] ⟨_, _, c_misSheet (d + 3) σ s, fun q => ?_, fun q => ?_⟩⟩
  · obtain ⟨j, hj, rfl⟩ := hasP_ne (n := 4) (by omega) q
    obtain ⟨e0, e1, e2⟩ := h.2.2.2.1 j hj
    obtain ⟨hb, n, hn, hn24⟩ := hv.2.2.2.2 j hj
    rw [sPut, if_neg q, nc (by omega)]
    have fin : ∀ (k : Nat) (w : Int32), k < 24 → w = low (B.2.2.2.1 j 0) v → RepD (z_wr σ 65 (24 * j + k) w) (oSh 0 (upS B.2.2.2.1 j (upd (B.2.2.2.1 j) (2 + k) (low (B.2.2.2.1 j 0) v))) B).2 ∧ kD σ (z_wr σ 65 (24 * j + k) w) := by
      intro k w hk hw
      refine h.sheets (fun c hc => z_wr_ne (by omega)) rfl (h.2.2.2.1.up hj (fun k _ => by rw [wr_c (by decide)]) (fun k _ => by rw [wr_c (by decide)]) (fun k hk => by rw [wr_k (by omega)]) ?_ ?_ ?_) _
      · rw [wr_c (by decide)]
        exact e0.trans (upd_k (by omega)).symm
      · rw [wr_c (by decide)]
        exact e1.trans (upd_k (by omega)).symm
      · intro i2 hi2
        by_cases e : i2 = k
        · subst e
          rw [wr_s, upd_s, hw]
        · rw [upd_k (by omega), wr_k (by omega)]
          exact e2 i2 hi2
    refine ⟨by (first | exact vin (by simp only [al_2, al_3, al_4, al_5, al_7, al_11, al_12, al_13, al_15, al_16, al_17, al_19, al_20, al_21, al_22, al_23, al_24, al_25, al_26, al_28, al_30, al_31, al_32, al_33, al_34, al_36, al_41, al_42, al_43, al_44, al_49, al_50, al_51, al_52, al_54, al_55, al_56, al_57, al_58, al_59, al_60, al_61, al_62, al_63, al_64, al_65, al_66, al_67, al_68, al_69, al_70, al_71, al_72, al_73, al_74, al_75, al_76, al_77, al_78, al_79, al_80]; omega) (by simp only [al_2, al_3, al_4, al_5, al_7, al_11, al_12, al_13, al_15, al_16, al_17, al_19, al_20, al_21, al_22, al_23, al_24, al_25, al_26, al_28, al_30, al_31, al_32, al_33, al_34, al_36, al_41, al_42, al_43, al_44, al_49, al_50, al_51, al_52, al_54, al_55, al_56, al_57, al_58, al_59, al_60, al_61, al_62, al_63, al_64, al_65, al_66, al_67, al_68, al_69, al_70, al_71, al_72, al_73, al_74, al_75, al_76, al_77, al_78, al_79, al_80]; decide) | (simp (disch := omega) only [nL, nI_add, pk_mul, nc, Nat.zero_add, al_2, al_3, al_4, al_5, al_7, al_11, al_12, al_13, al_15, al_16, al_17, al_19, al_20, al_21, al_22, al_23, al_24, al_25, al_26, al_28, al_30, al_31, al_32, al_33, al_34, al_36, al_41, al_42, al_43, al_44, al_49, al_50, al_51, al_52, al_54, al_55, al_56, al_57, al_58, al_59, al_60, al_61, al_62, al_63, al_64, al_65, al_66, al_67, al_68, al_69, al_70, al_71, al_72, al_73, al_74, al_75, al_76, al_77, al_78, al_79, al_80]; exact vin (by omega) (by decide))), fun q2 => ?_, fun q2 => ?_⟩
    · rw [nc (by omega), e0] at q2
      rw [if_neg q2]
      refine ⟨fun q3 => ?_, fun q3 => ⟨by (first | exact vin (by simp only [al_2, al_3, al_4, al_5, al_7, al_11, al_12, al_13, al_15, al_16, al_17, al_19, al_20, al_21, al_22, al_23, al_24, al_25, al_26, al_28, al_30, al_31, al_32, al_33, al_34, al_36, al_41, al_42, al_43, al_44, al_49, al_50, al_51, al_52, al_54, al_55, al_56, al_57, al_58, al_59, al_60, al_61, al_62, al_63, al_64, al_65, al_66, al_67, al_68, al_69, al_70, al_71, al_72, al_73, al_74, al_75, al_76, al_77, al_78, al_79, al_80]; omega) (by simp only [al_2, al_3, al_4, al_5, al_7, al_11, al_12, al_13, al_15, al_16, al_17, al_19, al_20, al_21, al_22, al_23, al_24, al_25, al_26, al_28, al_30, al_31, al_32, al_33, al_34, al_36, al_41, al_42, al_43, al_44, al_49, al_50, al_51, al_52, al_54, al_55, al_56, al_57, al_58, al_59, al_60, al_61, al_62, al_63, al_64, al_65, al_66, al_67, al_68, al_69, al_70, al_71, al_72, al_73, al_74, al_75, al_76, al_77, al_78, al_79, al_80]; decide) | (simp (disch := omega) only [nL, nI_add, pk_mul, nc, Nat.zero_add, al_2, al_3, al_4, al_5, al_7, al_11, al_12, al_13, al_15, al_16, al_17, al_19, al_20, al_21, al_22, al_23, al_24, al_25, al_26, al_28, al_30, al_31, al_32, al_33, al_34, al_36, al_41, al_42, al_43, al_44, al_49, al_50, al_51, al_52, al_54, al_55, al_56, al_57, al_58, al_59, al_60, al_61, al_62, al_63, al_64, al_65, al_66, al_67, al_68, al_69, al_70, al_71, al_72, al_73, al_74, al_75, al_76, al_77, al_78, al_79, al_80]; exact vin (by omega) (by decide))), fun q4 => ?_, fun q4 => ?_⟩⟩
      · rw [if_pos (by rw [hasP, if_pos q3])]
        exact ⟨_, σt, ht, rfl, hRt, hkt⟩
      · rw [nc (by omega), e1, hn] at q4
        have q5 : ¬ hasP (B.2.2.2.1 j 1) i = 0 := by
          rw [hn, hasP, if_neg q3, if_neg (by rw [Int32.not_le]; exact q4)]
          decide
        rw [if_neg q5]
        rw [hn] at q5
        obtain ⟨k, hk, rfl⟩ := hasP_ne (by omega) q5
        rw [nc (by omega)]
        refine ⟨by (first | exact vin (by simp only [al_2, al_3, al_4, al_5, al_7, al_11, al_12, al_13, al_15, al_16, al_17, al_19, al_20, al_21, al_22, al_23, al_24, al_25, al_26, al_28, al_30, al_31, al_32, al_33, al_34, al_36, al_41, al_42, al_43, al_44, al_49, al_50, al_51, al_52, al_54, al_55, al_56, al_57, al_58, al_59, al_60, al_61, al_62, al_63, al_64, al_65, al_66, al_67, al_68, al_69, al_70, al_71, al_72, al_73, al_74, al_75, al_76, al_77, al_78, al_79, al_80]; omega) (by simp only [al_2, al_3, al_4, al_5, al_7, al_11, al_12, al_13, al_15, al_16, al_17, al_19, al_20, al_21, al_22, al_23, al_24, al_25, al_26, al_28, al_30, al_31, al_32, al_33, al_34, al_36, al_41, al_42, al_43, al_44, al_49, al_50, al_51, al_52, al_54, al_55, al_56, al_57, al_58, al_59, al_60, al_61, al_62, al_63, al_64, al_65, al_66, al_67, al_68, al_69, al_70, al_71, al_72, al_73, al_74, al_75, al_76, al_77, al_78, al_79, al_80]; decide) | (simp (disch := omega) only [nL, nI_add, pk_mul, nc, Nat.zero_add, al_2, al_3, al_4, al_5, al_7, al_11, al_12, al_13, al_15, al_16, al_17, al_19, al_20, al_21, al_22, al_23, al_24, al_25, al_26, al_28, al_30, al_31, al_32, al_33, al_34, al_36, al_41, al_42, al_43, al_44, al_49, al_50, al_51, al_52, al_54, al_55, al_56, al_57, al_58, al_59, al_60, al_61, al_62, al_63, al_64, al_65, al_66, al_67, al_68, al_69, al_70, al_71, al_72, al_73, al_74, al_75, al_76, al_77, al_78, al_79, al_80]; exact vin (by omega) (by decide))), fun q6 => ⟨by (first | exact vin (by simp only [al_2, al_3, al_4, al_5, al_7, al_11, al_12, al_13, al_15, al_16, al_17, al_19, al_20, al_21, al_22, al_23, al_24, al_25, al_26, al_28, al_30, al_31, al_32, al_33, al_34, al_36, al_41, al_42, al_43, al_44, al_49, al_50, al_51, al_52, al_54, al_55, al_56, al_57, al_58, al_59, al_60, al_61, al_62, al_63, al_64, al_65, al_66, al_67, al_68, al_69, al_70, al_71, al_72, al_73, al_74, al_75, al_76, al_77, al_78, al_79, al_80]; omega) (by simp only [al_2, al_3, al_4, al_5, al_7, al_11, al_12, al_13, al_15, al_16, al_17, al_19, al_20, al_21, al_22, al_23, al_24, al_25, al_26, al_28, al_30, al_31, al_32, al_33, al_34, al_36, al_41, al_42, al_43, al_44, al_49, al_50, al_51, al_52, al_54, al_55, al_56, al_57, al_58, al_59, al_60, al_61, al_62, al_63, al_64, al_65, al_66, al_67, al_68, al_69, al_70, al_71, al_72, al_73, al_74, al_75, al_76, al_77, al_78, al_79, al_80]; decide) | (simp (disch := omega) only [nL, nI_add, pk_mul, nc, Nat.zero_add, al_2, al_3, al_4, al_5, al_7, al_11, al_12, al_13, al_15, al_16, al_17, al_19, al_20, al_21, al_22, al_23, al_24, al_25, al_26, al_28, al_30, al_31, al_32, al_33, al_34, al_36, al_41, al_42, al_43, al_44, al_49, al_50, al_51, al_52, al_54, al_55, al_56, al_57, al_58, al_59, al_60, al_61, al_62, al_63, al_64, al_65, al_66, al_67, al_68, al_69, al_70, al_71, al_72, al_73, al_74, al_75, al_76, al_77, al_78, al_79, al_80]; exact vin (by omega) (by decide))), fun q7 => ⟨by (first | exact vin (by simp only [al_2, al_3, al_4, al_5, al_7, al_11, al_12, al_13, al_15, al_16, al_17, al_19, al_20, al_21, al_22, al_23, al_24, al_25, al_26, al_28, al_30, al_31, al_32, al_33, al_34, al_36, al_41, al_42, al_43, al_44, al_49, al_50, al_51, al_52, al_54, al_55, al_56, al_57, al_58, al_59, al_60, al_61, al_62, al_63, al_64, al_65, al_66, al_67, al_68, al_69, al_70, al_71, al_72, al_73, al_74, al_75, al_76, al_77, al_78, al_79, al_80]; omega) (by simp only [al_2, al_3, al_4, al_5, al_7, al_11, al_12, al_13, al_15, al_16, al_17, al_19, al_20, al_21, al_22, al_23, al_24, al_25, al_26, al_28, al_30, al_31, al_32, al_33, al_34, al_36, al_41, al_42, al_43, al_44, al_49, al_50, al_51, al_52, al_54, al_55, al_56, al_57, al_58, al_59, al_60, al_61, al_62, al_63, al_64, al_65, al_66, al_67, al_68, al_69, al_70, al_71, al_72, al_73, al_74, al_75, al_76, al_77, al_78, al_79, al_80]; decide) | (simp (disch := omega) only [nL, nI_add, pk_mul, nc, Nat.zero_add, al_2, al_3, al_4, al_5, al_7, al_11, al_12, al_13, al_15, al_16, al_17, al_19, al_20, al_21, al_22, al_23, al_24, al_25, al_26, al_28, al_30, al_31, al_32, al_33, al_34, al_36, al_41, al_42, al_43, al_44, al_49, al_50, al_51, al_52, al_54, al_55, al_56, al_57, al_58, al_59, al_60, al_61, al_62, al_63, al_64, al_65, al_66, al_67, al_68, al_69, al_70, al_71, al_72, al_73, al_74, al_75, al_76, al_77, al_78, al_79, al_80]; exact vin (by omega) (by decide))), ?_⟩, fun q7 => ⟨by (first | exact vin (by simp only [al_2, al_3, al_4, al_5, al_7, al_11, al_12, al_13, al_15, al_16, al_17, al_19, al_20, al_21, al_22, al_23, al_24, al_25, al_26, al_28, al_30, al_31, al_32, al_33, al_34, al_36, al_41, al_42, al_43, al_44, al_49, al_50, al_51, al_52, al_54, al_55, al_56, al_57, al_58, al_59, al_60, al_61, al_62, al_63, al_64, al_65, al_66, al_67, al_68, al_69, al_70, al_71, al_72, al_73, al_74, al_75, al_76, al_77, al_78, al_79, al_80]; omega) (by simp only [al_2, al_3, al_4, al_5, al_7, al_11, al_12, al_13, al_15, al_16, al_17, al_19, al_20, al_21, al_22, al_23, al_24, al_25, al_26, al_28, al_30, al_31, al_32, al_33, al_34, al_36, al_41, al_42, al_43, al_44, al_49, al_50, al_51, al_52, al_54, al_55, al_56, al_57, al_58, al_59, al_60, al_61, al_62, al_63, al_64, al_65, al_66, al_67, al_68, al_69, al_70, al_71, al_72, al_73, al_74, al_75, al_76, al_77, al_78, al_79, al_80]; decide) | (simp (disch := omega) only [nL, nI_add, pk_mul, nc, Nat.zero_add, al_2, al_3, al_4, al_5, al_7, al_11, al_12, al_13, al_15, al_16, al_17, al_19, al_20, al_21, al_22, al_23, al_24, al_25, al_26, al_28, al_30, al_31, al_32, al_33, al_34, al_36, al_41, al_42, al_43, al_44, al_49, al_50, al_51, al_52, al_54, al_55, al_56, al_57, al_58, al_59, al_60, al_61, al_62, al_63, al_64, al_65, al_66, al_67, al_68, al_69, al_70, al_71, al_72, al_73, al_74, al_75, al_76, al_77, al_78, al_79, al_80]; exact vin (by omega) (by decide))), ?_⟩⟩, fun q6 => ⟨by (first | exact vin (by simp only [al_2, al_3, al_4, al_5, al_7, al_11, al_12, al_13, al_15, al_16, al_17, al_19, al_20, al_21, al_22, al_23, al_24, al_25, al_26, al_28, al_30, al_31, al_32, al_33, al_34, al_36, al_41, al_42, al_43, al_44, al_49, al_50, al_51, al_52, al_54, al_55, al_56, al_57, al_58, al_59, al_60, al_61, al_62, al_63, al_64, al_65, al_66, al_67, al_68, al_69, al_70, al_71, al_72, al_73, al_74, al_75, al_76, al_77, al_78, al_79, al_80]; omega) (by simp only [al_2, al_3, al_4, al_5, al_7, al_11, al_12, al_13, al_15, al_16, al_17, al_19, al_20, al_21, al_22, al_23, al_24, al_25, al_26, al_28, al_30, al_31, al_32, al_33, al_34, al_36, al_41, al_42, al_43, al_44, al_49, al_50, al_51, al_52, al_54, al_55, al_56, al_57, al_58, al_59, al_60, al_61, al_62, al_63, al_64, al_65, al_66, al_67, al_68, al_69, al_70, al_71, al_72, al_73, al_74, al_75, al_76, al_77, al_78, al_79, al_80]; decide) | (simp (disch := omega) only [nL, nI_add, pk_mul, nc, Nat.zero_add, al_2, al_3, al_4, al_5, al_7, al_11, al_12, al_13, al_15, al_16, al_17, al_19, al_20, al_21, al_22, al_23, al_24, al_25, al_26, al_28, al_30, al_31, al_32, al_33, al_34, al_36, al_41, al_42, al_43, al_44, al_49, al_50, al_51, al_52, al_54, al_55, al_56, al_57, al_58, al_59, al_60, al_61, al_62, al_63, al_64, al_65, al_66, al_67, al_68, al_69, al_70, al_71, al_72, al_73, al_74, al_75, al_76, al_77, al_78, al_79, al_80]; exact vin (by omega) (by decide))), ?_⟩⟩
        · rw [nc (by omega), e0] at q6 q7
          simp (disch := omega) only [nL, nI_add, pk_mul, nc]
          exact ⟨rfl, fin k _ (by omega) (by rw [low, if_neg q6, if_neg q7])⟩
        · rw [nc (by omega), e0] at q6 q7
          simp (disch := omega) only [nL, nI_add, pk_mul, nc]
          exact ⟨rfl, fin k _ (by omega) (by rw [low, if_neg q6, if_pos q7])⟩
        · rw [nc (by omega), e0] at q6
          simp (disch := omega) only [nL, nI_add, pk_mul, nc]
          exact ⟨rfl, fin k _ (by omega) (by rw [low, if_pos q6])⟩
      · rw [nc (by omega), e1, hn] at q4
        rw [if_pos (by rw [hn, hasP, if_neg q3, if_pos (by rw [Int32.not_lt] at q4; exact q4)])]
        exact ⟨_, σt, ht, rfl, hRt, hkt⟩
    · rw [nc (by omega), e0] at q2
      rw [if_pos q2]
      exact ⟨_, σu, hu, rfl, hRu, hku⟩
  · rw [sPut, if_pos q]
    exact ⟨_, σt, ht, rfl, hRt, hkt⟩
theorem v_put {B : zB} (h : VB B) (s i v : Int32) : VB (sPut s i v B).2 := by
  unfold sPut
  split
  · exact h.tell _
  · rename_i q
    split
    · exact h.tell _
    · split
      · exact h.tell _
      · obtain ⟨j, hj, rfl⟩ := hasP_ne (n := 4) (by omega) q
        rw [nc (by omega)]
        refine h.sheets _ ?_
        obtain ⟨hb, n, hn, hn24⟩ := h.2.2.2.2 j hj
        exact ⟨by rw [upd_k (by omega)]; exact hb, n, by rw [upd_k (by omega)]; exact hn, hn24⟩
