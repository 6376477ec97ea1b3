/-! the component's NOWHERES: prepare -/
theorem lk_mem : ∀ (L : List Nat) (x : Nat), x < L.length → lk L x ∈ L
  | [], x, h => absurd h (Nat.not_lt_zero x)
  | a :: L, 0, _ => List.mem_cons_self
  | a :: L, x + 1, h => List.mem_cons_of_mem a (lk_mem L x (Nat.lt_of_succ_lt_succ h))
theorem lk_inj : ∀ (L : List Nat), L.Nodup → ∀ i j, i < L.length → j < L.length → lk L i = lk L j → i = j
  | [], _, i, _, h, _, _ => absurd h (Nat.not_lt_zero i)
  | a :: L, _, 0, 0, _, _, _ => rfl
  | a :: L, hn, 0, j + 1, _, hj, e => by
    have e : a = lk L j := e
    exact absurd (e ▸ lk_mem L j (Nat.lt_of_succ_lt_succ hj)) (List.nodup_cons.1 hn).1
  | a :: L, hn, i + 1, 0, hi, _, e => by
    have e : lk L i = a := e
    exact absurd (e ▸ lk_mem L i (Nat.lt_of_succ_lt_succ hi)) (List.nodup_cons.1 hn).1
  | a :: L, hn, i + 1, j + 1, hi, hj, e => by
    have := lk_inj L (List.nodup_cons.1 hn).2 i j (Nat.lt_of_succ_lt_succ hi) (Nat.lt_of_succ_lt_succ hj) e
    omega
theorem oB_rng {b : Nat} {L : List Nat} {R : Nat} (hL : L.Perm (List.range R)) : (∀ i, i < R → oB b L i < R) ∧ ∀ i j, i < R → j < R → oB b L i = oB b L j → i = j := by
  have hl : L.length = R := by rw [hL.length_eq, List.length_range]
  unfold oB
  by_cases c : b = 1
  · rw [c]
    exact ⟨fun i hi => hi, fun i j _ _ e => e⟩
  · refine ⟨fun i hi => ?_, fun i j hi hj e => ?_⟩
    · rw [if_neg c]
      exact List.mem_range.1 (hL.mem_iff.1 (lk_mem L i (by omega)))
    · rw [if_neg c, if_neg c] at e
      exact lk_inj L (hL.nodup_iff.2 List.nodup_range) i j (by omega) (by omega) e
theorem HGI.start (P : Nat) : HGI (fun p => 2 ^ p) P := by
  refine ⟨fun p hp => ?_, fun p q hp hq => ?_, fun q _ _ => rfl⟩
  · have : 2 ^ p < 2 ^ 6 := Nat.pow_lt_pow_right (by omega) hp
    exact this
  · show (2 ^ p).testBit q = true ↔ 2 ^ p = 2 ^ q
    rw [Nat.testBit_two_pow, decide_eq_true_iff]
    exact ⟨fun z => by rw [z], fun z => (Nat.pow_right_inj (by omega)).1 z⟩
theorem z_wpR {call : Nat → List Value → z_M → Option Value → z_M → Prop} {sc : Option (Nat × (Nat → Int32))} {M pc : Nat} {L : z_L} {st : List Value} {σ : z_M} {A B : Option Value → z_M → Prop} (h : z_wp call sc M A pc L st σ) (hR : ∀ r s, A r s → B r s) : z_wp call sc M B pc L st σ := fun P hP => h P (fun pc L st σ hs => hP pc L st σ (z_monoR hR hs))
theorem c_prepare (d : Nat) {σ : z_M} {N : zN} (h : netC σ N) (hv : NV N) {k b : Nat} (hk : 2 ≤ k ∧ k ≤ 6) (hb : b = 0 ∨ b = 1) : ∃ σ', z_call (d + 4) k_Nowheres_prepare [.ref 18, .ref 1, .int (nI k), .int (nI b)] σ none σ' ∧ (fr [18, 20, 21, 22, 23, 24, 25, 26, 27] σ σ' ∧ (∀ p, p < 6 → σ'.1 21 p = 0) ∧ (∀ x, x < 128 → σ'.2 x = -1) ∧ ∃ sd, prep σ' N k b (oB b (ordL (prN6 N) (gR N) 36)) sd) := by
  obtain ⟨P, R, eP, hP, egP, eR, hR, eg, hse⟩ := hv.nat
  have hpr : ∀ i, i < gR N → prN6 N i < 36 := fun i hi => by
    have := (hse i (by omega)).2.2
    unfold prN6
    omega
  obtain ⟨ho, hinj⟩ := oB_rng (b := b) (ordL_all hpr)
  have l3 : ∀ (σi : z_M), fr [18, 20, 21, 22, 23, 24, 25, 26, 27] σ σi → σi.1 18 10 = nI k → σi.1 18 11 = nI b → (∀ x, x < 128 → σi.2 x = -1) → (∀ p, p < 6 → σi.1 21 p = 0 ∧ σi.1 26 p = 0 ∧ σi.1 25 p = nI (2 ^ p)) →
      z_wp (z_call (d + 3)) none k_Nowheres_prepare (fun z s => z = none ∧ (fr [18, 20, 21, 22, 23, 24, 25, 26, 27] σ s ∧ (∀ p, p < 6 → s.1 21 p = 0) ∧ (∀ x, x < 128 → s.2 x = -1) ∧ ∃ sd, prep s N k b (oB b (ordL (prN6 N) (gR N) 36)) sd)) 40 [some (.ref 18), some (.ref 1), some (.int (nI k)), some (.int (nI b)), some (.int (nI 6))] [] σi := by
    intro σi hf h10 h11 h27 h6
    have hNi : netC σi N := h.fr (hf.1 1 (by decide)) (hf.1 2 (by decide)) (hf.1 3 (by decide)) (hf.1 4 (by decide)) (hf.1 5 (by decide))
    obtain ⟨σ2, c2, f2, o2⟩ := c_arrangeRoads d hNi hv hb h11
    have hN2 : netC σ2 N := hNi.fr (f2.1 1 (by decide)) (f2.1 2 (by decide)) (f2.1 3 (by decide)) (f2.1 4 (by decide)) (f2.1 5 (by decide))
    have e1 : σ2.1 1 1 = nI (gR N) := by rw [hN2.2.1, eR, eg]
    generalize oB b (ordL (prN6 N) (gR N) 36) = ord at *
    have st := c_prep93 (d + 2) hN2 hv ho hinj o2 (nI k) (nI b) (gR N) σ2 (fun p => 2 ^ p) (nI (gR N) - 1) (Nat.le_refl _) rfl fr.rf (HGI.start _) (fun p hp => by rw [f2.at (by decide)]; exact (h6 p hp).2.2) (fun p hp => by
      rw [f2.at (by decide), (h6 p hp).2.1, Nat.sub_self]
      rfl) (fun i h1 h2 => by omega) (fun j h1 h2 => by omega)
    refine z_go 40 [13, 40, 93] ⟨fun q => ⟨_, c2, ?_⟩, fun q => absurd (by decide) q⟩
    show z_wp _ _ _ _ 93 _ _ _
    rw [e1]
    refine z_wpR st (fun z s hz => ⟨hz.1, ?_⟩)
    obtain ⟨_, f3, hl⟩ := hz
    refine ⟨fr.tr hf (fr.tr (fr.wk _ f2 (by decide)) (fr.wk _ f3 (by decide))), fun p hp => ?_, fun x hx => ?_, fun r => (s.1 22 r).toNatClampNeg, ?_, ?_, fun j hj => ?_⟩
    · rw [f3.at (by decide), f2.at (by decide)]
      exact (h6 p hp).1
    · rw [f3.2 (by decide), f2.2 (by decide)]
      exact h27 x hx
    · rw [f3.at (by decide), f2.at (by decide)]
      exact h10
    · rw [f3.at (by decide), f2.at (by decide)]
      exact h11
    · obtain ⟨g1, g2, w, g3, g4, g5⟩ := hl j (Nat.zero_le j) hj
      have ew : (s.1 22 (ord j)).toNatClampNeg = w := by rw [g4, nc (by omega)]
      refine ⟨by rw [f3.at (by decide)]; exact o2 j hj, ho j hj, g1, g2, ?_, ?_⟩
      · show s.1 22 (ord j) = nI (s.1 22 (ord j)).toNatClampNeg
        rw [ew]
        exact g4
      · unfold sdOK at g5 ⊢
        show (s.1 22 (ord j)).toNatClampNeg < 64 ∧ ((s.1 22 (ord j)).toNatClampNeg ≠ 0 → _ ∧ (s.1 22 (ord j)).toNatClampNeg.testBit _ = true ∧ (s.1 22 (ord j)).toNatClampNeg.testBit _ = false ∧ ∀ i, j < i → i < gR N → (s.1 22 (ord j)).toNatClampNeg.testBit _ = (s.1 22 (ord j)).toNatClampNeg.testBit _)
        rw [ew]
        exact g5
  generalize oB b (ordL (prN6 N) (gR N) 36) = ord at *
  have l2 : ∀ (m p : Nat) (σi : z_M), p + m = 6 → fr [18, 20, 21, 22, 23, 24, 25, 26, 27] σ σi → σi.1 18 10 = nI k → σi.1 18 11 = nI b → (∀ x, x < 128 → σi.2 x = -1) → (∀ x, x < p → σi.1 21 x = 0 ∧ σi.1 26 x = 0 ∧ σi.1 25 x = nI (2 ^ x)) →
      z_wp (z_call (d + 3)) none k_Nowheres_prepare (fun z s => z = none ∧ (fr [18, 20, 21, 22, 23, 24, 25, 26, 27] σ s ∧ (∀ p, p < 6 → s.1 21 p = 0) ∧ (∀ x, x < 128 → s.2 x = -1) ∧ ∃ sd, prep s N k b ord sd)) 40 [some (.ref 18), some (.ref 1), some (.int (nI k)), some (.int (nI b)), some (.int (nI p))] [] σi := by
    intro m
    induction m with
    | zero =>
      intro p σi hp hf h10 h11 h27 hx
      obtain rfl : p = 6 := by omega
      exact l3 σi hf h10 h11 h27 hx
    | succ m ih =>
      intro p σi hp hf h10 h11 h27 hx
      have nx := ih (p + 1) (z_wr (z_wr (z_wr σi 21 p 0) 26 p 0) 25 p (nI (2 ^ p))) (by omega) (fr.wr (fr.wr (fr.wr hf (by decide)) (by decide)) (by decide)) (by rw [wr_c (by decide), wr_c (by decide), wr_c (by decide)]; exact h10) (by rw [wr_c (by decide), wr_c (by decide), wr_c (by decide)]; exact h11) h27 (fun x hx2 => by
        by_cases c : x = p
        · rw [c, wr_c (by decide), wr_c (by decide), wr_s, wr_c (by decide), wr_s, wr_s]
          exact ⟨rfl, rfl, rfl⟩
        · simp (disch := omega) only [wr_c, wr_k]
          exact hx x (by omega))
      refine z_go 60 [13, 40, 93] ⟨fun q => ?_, fun q => ⟨by (first | exact vin (by simp only [al_2, al_3, al_4, al_5, al_7, al_11, al_12, al_13, al_15, al_16, al_17, al_19, al_20, al_21, al_22, al_23, al_24, al_25, al_26, al_28, al_30, al_31, al_32, al_33, al_34, al_36, al_41, al_42, al_43, al_44, al_49, al_50, al_51, al_52, al_54, al_55, al_56, al_57, al_58, al_59, al_60, al_61, al_62, al_63, al_64, al_65, al_66, al_67, al_68, al_69, al_70, al_71, al_72, al_73, al_74, al_75, al_76, al_77, al_78, al_79, al_80]; omega) (by simp only [al_2, al_3, al_4, al_5, al_7, al_11, al_12, al_13, al_15, al_16, al_17, al_19, al_20, al_21, al_22, al_23, al_24, al_25, al_26, al_28, al_30, al_31, al_32, al_33, al_34, al_36, al_41, al_42, al_43, al_44, al_49, al_50, al_51, al_52, al_54, al_55, al_56, al_57, al_58, al_59, al_60, al_61, al_62, al_63, al_64, al_65, al_66, al_67, al_68, al_69, al_70, al_71, al_72, al_73, al_74, al_75, al_76, al_77, al_78, al_79, al_80]; decide) | (simp (disch := omega) only [nL, nI_add, pk_mul, nc, Nat.zero_add, al_2, al_3, al_4, al_5, al_7, al_11, al_12, al_13, al_15, al_16, al_17, al_19, al_20, al_21, al_22, al_23, al_24, al_25, al_26, al_28, al_30, al_31, al_32, al_33, al_34, al_36, al_41, al_42, al_43, al_44, al_49, al_50, al_51, al_52, al_54, al_55, al_56, al_57, al_58, al_59, al_60, al_61, al_62, al_63, al_64, al_65, al_66, al_67, al_68, al_69, al_70, al_71, al_72, al_73, al_74, al_75, al_76, al_77, al_78, al_79, al_80]; exact vin (by omega) (by decide))), by (first | exact vin (by simp only [al_2, al_3, al_4, al_5, al_7, al_11, al_12, al_13, al_15, al_16, al_17, al_19, al_20, al_21, al_22, al_23, al_24, al_25, al_26, al_28, al_30, al_31, al_32, al_33, al_34, al_36, al_41, al_42, al_43, al_44, al_49, al_50, al_51, al_52, al_54, al_55, al_56, al_57, al_58, al_59, al_60, al_61, al_62, al_63, al_64, al_65, al_66, al_67, al_68, al_69, al_70, al_71, al_72, al_73, al_74, al_75, al_76, al_77, al_78, al_79, al_80]; omega) (by simp only [al_2, al_3, al_4, al_5, al_7, al_11, al_12, al_13, al_15, al_16, al_17, al_19, al_20, al_21, al_22, al_23, al_24, al_25, al_26, al_28, al_30, al_31, al_32, al_33, al_34, al_36, al_41, al_42, al_43, al_44, al_49, al_50, al_51, al_52, al_54, al_55, al_56, al_57, al_58, al_59, al_60, al_61, al_62, al_63, al_64, al_65, al_66, al_67, al_68, al_69, al_70, al_71, al_72, al_73, al_74, al_75, al_76, al_77, al_78, al_79, al_80]; decide) | (simp (disch := omega) only [nL, nI_add, pk_mul, nc, Nat.zero_add, al_2, al_3, al_4, al_5, al_7, al_11, al_12, al_13, al_15, al_16, al_17, al_19, al_20, al_21, al_22, al_23, al_24, al_25, al_26, al_28, al_30, al_31, al_32, al_33, al_34, al_36, al_41, al_42, al_43, al_44, al_49, al_50, al_51, al_52, al_54, al_55, al_56, al_57, al_58, al_59, al_60, al_61, al_62, al_63, al_64, al_65, al_66, al_67, al_68, al_69, al_70, al_71, al_72, al_73, al_74, al_75, al_76, al_77, al_78, al_79, al_80]; exact vin (by omega) (by decide))), by (first | exact vin (by simp only [al_2, al_3, al_4, al_5, al_7, al_11, al_12, al_13, al_15, al_16, al_17, al_19, al_20, al_21, al_22, al_23, al_24, al_25, al_26, al_28, al_30, al_31, al_32, al_33, al_34, al_36, al_41, al_42, al_43, al_44, al_49, al_50, al_51, al_52, al_54, al_55, al_56, al_57, al_58, al_59, al_60, al_61, al_62, al_63, al_64, al_65, al_66, al_67, al_68, al_69, al_70, al_71, al_72, al_73, al_74, al_75, al_76, al_77, al_78, al_79, al_80]; omega) (by simp only [al_2, al_3, al_4, al_5, al_7, al_11, al_12, al_13, al_15, al_16, al_17, al_19, al_20, al_21, al_22, al_23, al_24, al_25, al_26, al_28, al_30, al_31, al_32, al_33, al_34, al_36, al_41, al_42, al_43, al_44, al_49, al_50, al_51, al_52, al_54, al_55, al_56, al_57, al_58, al_59, al_60, al_61, al_62, al_63, al_64, al_65, al_66, al_67, al_68, al_69, al_70, al_71, al_72, al_73, al_74, al_75, al_76, al_77, al_78, al_79, al_80]; decide) | (simp (disch := omega) only [nL, nI_add, pk_mul, nc, Nat.zero_add, al_2, al_3, al_4, al_5, al_7, al_11, al_12, al_13, al_15, al_16, al_17, al_19, al_20, al_21, al_22, al_23, al_24, al_25, al_26, al_28, al_30, al_31, al_32, al_33, al_34, al_36, al_41, al_42, al_43, al_44, al_49, al_50, al_51, al_52, al_54, al_55, al_56, al_57, al_58, al_59, al_60, al_61, al_62, al_63, al_64, al_65, al_66, al_67, al_68, al_69, al_70, al_71, al_72, al_73, al_74, al_75, al_76, al_77, al_78, al_79, al_80]; exact vin (by omega) (by decide))), ?_⟩⟩
      · simp (disch := omega) only [nL, nI_add, pk_mul, n_le, n_lt, n_eq] at q
        omega
      · show z_wp _ _ _ _ 40 _ _ _
        rw [nc (by omega), show nI p + 1 = nI (p + 1) from nI_add p 1, i_one p (by omega)]
        exact nx
  have l1 : ∀ (m p : Nat) (σi : z_M), p + m = 128 → fr [18, 20, 21, 22, 23, 24, 25, 26, 27] σ σi → σi.1 18 10 = nI k → σi.1 18 11 = nI b → (∀ x, x < p → σi.2 x = -1) →
      z_wp (z_call (d + 3)) none k_Nowheres_prepare (fun z s => z = none ∧ (fr [18, 20, 21, 22, 23, 24, 25, 26, 27] σ s ∧ (∀ p, p < 6 → s.1 21 p = 0) ∧ (∀ x, x < 128 → s.2 x = -1) ∧ ∃ sd, prep s N k b ord sd)) 13 [some (.ref 18), some (.ref 1), some (.int (nI k)), some (.int (nI b)), some (.int (nI p))] [] σi := by
    intro m
    induction m with
    | zero =>
      intro p σi hp hf h10 h11 h27
      obtain rfl : p = 128 := by omega
      exact z_go 30 [13, 40, 93] ⟨fun q => l2 6 0 σi (by omega) hf h10 h11 h27 (fun x hx => absurd hx (Nat.not_lt_zero x)), fun q => absurd (by decide) q⟩
    | succ m ih =>
      intro p σi hp hf h10 h11 h27
      have nx := ih (p + 1) (z_wl σi p (-1)) (by omega) (fr.wl hf (by decide)) h10 h11 (fun x hx2 => by
        show (if x = p then (-1 : Int64) else σi.2 x) = -1
        by_cases c : x = p
        · rw [if_pos c]
        · rw [if_neg c]
          exact h27 x (by omega))
      refine z_go 40 [13, 40, 93] ⟨fun q => ?_, fun q => ⟨vin (by omega) (by omega), ?_⟩⟩
      · simp (disch := omega) only [nL, nI_add, pk_mul, n_le, n_lt, n_eq] at q
        omega
      · show z_wp _ _ _ _ 13 _ _ _
        rw [nc (by omega), show nI p + 1 = nI (p + 1) from nI_add p 1]
        exact nx
  refine z_metV ⟨rfl, z_go 40 [13, 40, 93] ⟨?_, ?_⟩⟩
  · rcases hb with rfl | rfl
    · exact Or.inl rfl
    · exact Or.inr rfl
  · exact l1 128 0 _ (by omega) (fr.wr (fr.wr fr.rf (by decide)) (by decide)) (by rw [wr_k (by decide), wr_s]) (by rw [wr_s]) (fun x hx => absurd hx (Nat.not_lt_zero x))
