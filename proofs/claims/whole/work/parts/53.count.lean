/-! the model's reach and pointed; count -/
theorem tl_lt {P n : Nat} {s e : Nat → Nat} (t : Nat) (h : ∀ i, i < n → s i < P ∧ e i < P) {i : Nat} (hi : i < n) : tl s e t i < P ∧ hd s e t i < P := by
  obtain ⟨h1, h2⟩ := h i hi
  unfold tl hd
  split
  · exact ⟨h2, h1⟩
  · exact ⟨h1, h2⟩
theorem bq_t {S k : Nat} (h : S.testBit k = true) : bq S k = 1 := by rw [bq, if_pos h]
theorem bq_f {S k : Nat} (h : ¬ S.testBit k = true) : bq S k = 0 := by rw [bq, if_neg h]
theorem or_sub {a b : Nat} (h : ∀ k, a.testBit k = true → b.testBit k = true) (hne : b ≠ a) : a < b := by
  have := Nat.le_of_testBit h
  omega
theorem c_reach (d : Nat) {σ : z_M} {N : zN} (h : netD σ N) (hv : NV N) {p t : Nat} (hp : p < gP N) (ht : t < 2147483648) : ∃ S, S < 64 ∧ z_call (d + 2) k_Md_reach [.ref 53, .int (nI p), .int (nI t)] σ (some (.int (nI S))) σ ∧ ∀ k, (S.testBit k = true ↔ rch (gR N) (tl (gs N) (ge N) t) (hd (gs N) (ge N) t) p k) := by
  obtain ⟨P, R, eP, hP, egP, eR, hR, eg, hse⟩ := hv.nat
  rw [egP] at hp
  rw [eg]
  have hse2 : ∀ i, i < R → gs N i < P ∧ ge N i < P := fun i hi => (hse i hi).2.2
  have e1 : σ.1 53 1 = nI R := by rw [h.2.1, eR]
  have h6 : 2 ^ P ≤ 2 ^ 6 := Nat.pow_le_pow_right (by omega) hP
  have outer : ∀ (n S before : Nat) (l5 l6 l7 : Option Value), 64 ≤ S + n → S < 64 → S.testBit p = true → (∀ k, S.testBit k = true → rch R (tl (gs N) (ge N) t) (hd (gs N) (ge N) t) p k) → (S = before → ∀ i, i < R → S.testBit (tl (gs N) (ge N) t i) = true → S.testBit (hd (gs N) (ge N) t i) = true) → before < 64 →
      z_wp (z_call (d + 1)) none k_Md_reach (fun r s => s = σ ∧ ∃ S, S < 64 ∧ r = some (.int (nI S)) ∧ ∀ k, (S.testBit k = true ↔ rch R (tl (gs N) (ge N) t) (hd (gs N) (ge N) t) p k)) 7 [some (.ref 53), some (.int (nI p)), some (.int (nI t)), some (.int (nI S)), some (.int (nI before)), l5, l6, l7] [] σ := by
    intro n
    induction n with
    | zero =>
      intro S before l5 l6 l7 hn hS
      omega
    | succ n ih =>
      intro S0 before l5 l6 l7 hn hS0 hSp hSr hSc hb
      have inner : ∀ (m i S : Nat) (l6 l7 : Option Value), i + m = R → S < 64 → (∀ k, S0.testBit k = true → S.testBit k = true) → (∀ k, S.testBit k = true → rch R (tl (gs N) (ge N) t) (hd (gs N) (ge N) t) p k) → (S = S0 → ∀ j, j < i → S0.testBit (tl (gs N) (ge N) t j) = true → S0.testBit (hd (gs N) (ge N) t j) = true) →
          z_wp (z_call (d + 1)) none k_Md_reach (fun r s => s = σ ∧ ∃ S, S < 64 ∧ r = some (.int (nI S)) ∧ ∀ k, (S.testBit k = true ↔ rch R (tl (gs N) (ge N) t) (hd (gs N) (ge N) t) p k)) 19 [some (.ref 53), some (.int (nI p)), some (.int (nI t)), some (.int (nI S)), some (.int (nI S0)), some (.int (nI i)), l6, l7] [] σ := by
        intro m
        induction m with
        | zero =>
          intro i S l6 l7 hi hS64 hsub hr hcl
          obtain rfl : i = R := by omega
          refine z_go 40 [7, 19, 54, 82] ⟨fun q => ?_, fun q => ?_⟩
          · show z_wp _ _ _ _ 7 _ _ _
            by_cases c : S = S0
            · subst c
              by_cases hz : S = 0
              · rw [hz, Nat.zero_testBit] at hSp
                cases hSp
              · -- the set stands: the next look ends
                refine z_go 40 [7, 19, 54, 82] ⟨fun _ => ⟨rfl, S, hS64, rfl, fun k => ⟨hr k, fun z => ?_⟩⟩, fun q2 => absurd rfl q2⟩
                exact z (fun x => S.testBit x = true) hSp (fun j hj hx => hcl rfl j hj hx)
            · have := or_sub hsub c
              exact ih S S0 _ _ _ (by omega) hS64 (hsub p hSp) hr (fun z => absurd z c) hS0
          · rw [e1] at q
            exact absurd (Int32.le_refl _) q
        | succ m ihm =>
          intro i S l6 l7 hi hS64 hsub hr hcl
          obtain ⟨es, ee, hs, he⟩ := hse i (by omega)
          have f1 : σ.1 54 i = nI (gs N i) := by rw [(h.2.2.2 i (by omega)).1, es]
          have f2 : σ.1 55 i = nI (ge N i) := by rw [(h.2.2.2 i (by omega)).2.1, ee]
          obtain ⟨hta, hha⟩ := tl_lt t hse2 (i := i) (by omega)
          have st82 : ∀ (l7 : Option Value), z_wp (z_call (d + 1)) none k_Md_reach (fun r s => s = σ ∧ ∃ S, S < 64 ∧ r = some (.int (nI S)) ∧ ∀ k, (S.testBit k = true ↔ rch R (tl (gs N) (ge N) t) (hd (gs N) (ge N) t) p k)) 82 [some (.ref 53), some (.int (nI p)), some (.int (nI t)), some (.int (nI S)), some (.int (nI S0)), some (.int (nI i)), some (.int (nI (tl (gs N) (ge N) t i))), l7] [.int (nI (hd (gs N) (ge N) t i))] σ := by
            intro l7
            have hbq := bq_le S (tl (gs N) (ge N) t i)
            refine z_go 40 [7, 19, 54, 82] ⟨_, _, c_in d σ (S := S) (k := tl (gs N) (ge N) t i) (by omega) (by omega), fun q => ?_, fun q => ?_⟩
            · show z_wp _ _ _ _ 19 _ _ _
              have q : nI (bq S (tl (gs N) (ge N) t i)) = nI 0 := q
              rw [n_eq (by omega) (by omega)] at q
              have hn : ¬ S.testBit (tl (gs N) (ge N) t i) = true := fun z => by rw [bq_t z] at q; omega
              simp only [nL, nI_add, i_or, Nat.or_zero]
              refine ihm (i + 1) S _ _ (by omega) hS64 hsub hr (fun z j hj hx => ?_)
              by_cases c : j = i
              · subst c
                rw [z] at hn
                exact absurd hx hn
              · exact hcl z j (by omega) hx
            · show z_wp _ _ _ _ 19 _ _ _
              have q : ¬ nI (bq S (tl (gs N) (ge N) t i)) = nI 0 := q
              rw [n_eq (by omega) (by omega)] at q
              have hn : S.testBit (tl (gs N) (ge N) t i) = true := Classical.byContradiction fun z => q (bq_f z)
              have hone := i_one (hd (gs N) (ge N) t i) (by omega)
              rw [hone]
              simp only [nL, nI_add, i_or]
              refine ihm (i + 1) (S ||| 2 ^ hd (gs N) (ge N) t i) _ _ (by omega) ?_ (fun k hk => ?_) (fun k hk => ?_) (fun z j hj hx => ?_)
              · exact Nat.or_lt_two_pow (n := 6) hS64 (Nat.pow_lt_pow_right (by omega) (by omega))
              · rw [Nat.testBit_or, hsub k hk]
                rfl
              · rw [Nat.testBit_or, Nat.testBit_two_pow] at hk
                by_cases c : S.testBit k = true
                · exact hr k c
                · have c : S.testBit k = false := by simpa using c
                  rw [c, Bool.false_or] at hk
                  rw [← of_decide_eq_true hk]
                  exact rch_tr (hr _ hn) (rch_1 (by omega))
              · have hS : S = S0 := by
                  apply Nat.eq_of_testBit_eq
                  intro k
                  cases c : S.testBit k
                  · cases c0 : S0.testBit k
                    · rfl
                    · rw [hsub k c0] at c
                      cases c
                  · rw [← z, Nat.testBit_or, c]
                    rfl
                by_cases c : j = i
                · subst c
                  rw [← z, Nat.testBit_or, Nat.testBit_two_pow, decide_eq_true rfl, Bool.or_true]
                · exact hcl hS j (by omega) hx
          have st54 : ∀ (l6 l7 : Option Value), z_wp (z_call (d + 1)) none k_Md_reach (fun r s => s = σ ∧ ∃ S, S < 64 ∧ r = some (.int (nI S)) ∧ ∀ k, (S.testBit k = true ↔ rch R (tl (gs N) (ge N) t) (hd (gs N) (ge N) t) p k)) 54 [some (.ref 53), some (.int (nI p)), some (.int (nI t)), some (.int (nI S)), some (.int (nI S0)), some (.int (nI i)), l6, l7] [.int (nI (tl (gs N) (ge N) t i))] σ := by
            intro l6 l7
            have hbq := bq_le t i
            refine z_go 40 [7, 19, 54, 82] ⟨_, _, c_in d σ ht (by omega), fun q => ⟨by (first | exact vin (by simp only [al_2, al_3, al_4, al_5, al_7, al_11, al_12, al_13, al_15, al_16, al_17, al_19, al_20, al_21, al_22, al_23, al_24, al_25, al_26, al_28, al_30, al_31, al_32, al_33, al_34, al_36, al_41, al_42, al_43, al_44, al_49, al_50, al_51, al_52, al_54, al_55, al_56, al_57, al_58, al_59, al_60, al_61, al_62, al_63, al_64, al_65, al_66, al_67, al_68, al_69, al_70, al_71, al_72, al_73, al_74, al_75, al_76, al_77, al_78, al_79, al_80]; omega) (by simp only [al_2, al_3, al_4, al_5, al_7, al_11, al_12, al_13, al_15, al_16, al_17, al_19, al_20, al_21, al_22, al_23, al_24, al_25, al_26, al_28, al_30, al_31, al_32, al_33, al_34, al_36, al_41, al_42, al_43, al_44, al_49, al_50, al_51, al_52, al_54, al_55, al_56, al_57, al_58, al_59, al_60, al_61, al_62, al_63, al_64, al_65, al_66, al_67, al_68, al_69, al_70, al_71, al_72, al_73, al_74, al_75, al_76, al_77, al_78, al_79, al_80]; decide) | (simp (disch := omega) only [nL, nI_add, pk_mul, nc, Nat.zero_add, al_2, al_3, al_4, al_5, al_7, al_11, al_12, al_13, al_15, al_16, al_17, al_19, al_20, al_21, al_22, al_23, al_24, al_25, al_26, al_28, al_30, al_31, al_32, al_33, al_34, al_36, al_41, al_42, al_43, al_44, al_49, al_50, al_51, al_52, al_54, al_55, al_56, al_57, al_58, al_59, al_60, al_61, al_62, al_63, al_64, al_65, al_66, al_67, al_68, al_69, al_70, al_71, al_72, al_73, al_74, al_75, al_76, al_77, al_78, al_79, al_80]; exact vin (by omega) (by decide))), ?_⟩, fun q => ⟨by (first | exact vin (by simp only [al_2, al_3, al_4, al_5, al_7, al_11, al_12, al_13, al_15, al_16, al_17, al_19, al_20, al_21, al_22, al_23, al_24, al_25, al_26, al_28, al_30, al_31, al_32, al_33, al_34, al_36, al_41, al_42, al_43, al_44, al_49, al_50, al_51, al_52, al_54, al_55, al_56, al_57, al_58, al_59, al_60, al_61, al_62, al_63, al_64, al_65, al_66, al_67, al_68, al_69, al_70, al_71, al_72, al_73, al_74, al_75, al_76, al_77, al_78, al_79, al_80]; omega) (by simp only [al_2, al_3, al_4, al_5, al_7, al_11, al_12, al_13, al_15, al_16, al_17, al_19, al_20, al_21, al_22, al_23, al_24, al_25, al_26, al_28, al_30, al_31, al_32, al_33, al_34, al_36, al_41, al_42, al_43, al_44, al_49, al_50, al_51, al_52, al_54, al_55, al_56, al_57, al_58, al_59, al_60, al_61, al_62, al_63, al_64, al_65, al_66, al_67, al_68, al_69, al_70, al_71, al_72, al_73, al_74, al_75, al_76, al_77, al_78, al_79, al_80]; decide) | (simp (disch := omega) only [nL, nI_add, pk_mul, nc, Nat.zero_add, al_2, al_3, al_4, al_5, al_7, al_11, al_12, al_13, al_15, al_16, al_17, al_19, al_20, al_21, al_22, al_23, al_24, al_25, al_26, al_28, al_30, al_31, al_32, al_33, al_34, al_36, al_41, al_42, al_43, al_44, al_49, al_50, al_51, al_52, al_54, al_55, al_56, al_57, al_58, al_59, al_60, al_61, al_62, al_63, al_64, al_65, al_66, al_67, al_68, al_69, al_70, al_71, al_72, al_73, al_74, al_75, al_76, al_77, al_78, al_79, al_80]; exact vin (by omega) (by decide))), ?_⟩⟩
            · have q : nI (bq t i) = nI 0 := q
              rw [n_eq (by omega) (by omega)] at q
              have e : hd (gs N) (ge N) t i = ge N i := by rw [hd, if_neg (fun z => by rw [bq_t z] at q; omega)]
              have := st82 l7
              rw [nc (by omega), f2, ← e]
              exact this
            · have q : ¬ nI (bq t i) = nI 0 := q
              rw [n_eq (by omega) (by omega)] at q
              have e : hd (gs N) (ge N) t i = gs N i := by rw [hd, if_pos (Classical.byContradiction fun z => q (bq_f z))]
              have := st82 l7
              rw [nc (by omega), f1, ← e]
              exact this
          have hbq := bq_le t i
          refine z_go 40 [7, 19, 54, 82] ⟨fun q => ?_, fun q => ⟨_, _, c_in d σ ht (by omega), fun q => ⟨by (first | exact vin (by simp only [al_2, al_3, al_4, al_5, al_7, al_11, al_12, al_13, al_15, al_16, al_17, al_19, al_20, al_21, al_22, al_23, al_24, al_25, al_26, al_28, al_30, al_31, al_32, al_33, al_34, al_36, al_41, al_42, al_43, al_44, al_49, al_50, al_51, al_52, al_54, al_55, al_56, al_57, al_58, al_59, al_60, al_61, al_62, al_63, al_64, al_65, al_66, al_67, al_68, al_69, al_70, al_71, al_72, al_73, al_74, al_75, al_76, al_77, al_78, al_79, al_80]; omega) (by simp only [al_2, al_3, al_4, al_5, al_7, al_11, al_12, al_13, al_15, al_16, al_17, al_19, al_20, al_21, al_22, al_23, al_24, al_25, al_26, al_28, al_30, al_31, al_32, al_33, al_34, al_36, al_41, al_42, al_43, al_44, al_49, al_50, al_51, al_52, al_54, al_55, al_56, al_57, al_58, al_59, al_60, al_61, al_62, al_63, al_64, al_65, al_66, al_67, al_68, al_69, al_70, al_71, al_72, al_73, al_74, al_75, al_76, al_77, al_78, al_79, al_80]; decide) | (simp (disch := omega) only [nL, nI_add, pk_mul, nc, Nat.zero_add, al_2, al_3, al_4, al_5, al_7, al_11, al_12, al_13, al_15, al_16, al_17, al_19, al_20, al_21, al_22, al_23, al_24, al_25, al_26, al_28, al_30, al_31, al_32, al_33, al_34, al_36, al_41, al_42, al_43, al_44, al_49, al_50, al_51, al_52, al_54, al_55, al_56, al_57, al_58, al_59, al_60, al_61, al_62, al_63, al_64, al_65, al_66, al_67, al_68, al_69, al_70, al_71, al_72, al_73, al_74, al_75, al_76, al_77, al_78, al_79, al_80]; exact vin (by omega) (by decide))), ?_⟩, fun q => ⟨by (first | exact vin (by simp only [al_2, al_3, al_4, al_5, al_7, al_11, al_12, al_13, al_15, al_16, al_17, al_19, al_20, al_21, al_22, al_23, al_24, al_25, al_26, al_28, al_30, al_31, al_32, al_33, al_34, al_36, al_41, al_42, al_43, al_44, al_49, al_50, al_51, al_52, al_54, al_55, al_56, al_57, al_58, al_59, al_60, al_61, al_62, al_63, al_64, al_65, al_66, al_67, al_68, al_69, al_70, al_71, al_72, al_73, al_74, al_75, al_76, al_77, al_78, al_79, al_80]; omega) (by simp only [al_2, al_3, al_4, al_5, al_7, al_11, al_12, al_13, al_15, al_16, al_17, al_19, al_20, al_21, al_22, al_23, al_24, al_25, al_26, al_28, al_30, al_31, al_32, al_33, al_34, al_36, al_41, al_42, al_43, al_44, al_49, al_50, al_51, al_52, al_54, al_55, al_56, al_57, al_58, al_59, al_60, al_61, al_62, al_63, al_64, al_65, al_66, al_67, al_68, al_69, al_70, al_71, al_72, al_73, al_74, al_75, al_76, al_77, al_78, al_79, al_80]; decide) | (simp (disch := omega) only [nL, nI_add, pk_mul, nc, Nat.zero_add, al_2, al_3, al_4, al_5, al_7, al_11, al_12, al_13, al_15, al_16, al_17, al_19, al_20, al_21, al_22, al_23, al_24, al_25, al_26, al_28, al_30, al_31, al_32, al_33, al_34, al_36, al_41, al_42, al_43, al_44, al_49, al_50, al_51, al_52, al_54, al_55, al_56, al_57, al_58, al_59, al_60, al_61, al_62, al_63, al_64, al_65, al_66, al_67, al_68, al_69, al_70, al_71, al_72, al_73, al_74, al_75, al_76, al_77, al_78, al_79, al_80]; exact vin (by omega) (by decide))), ?_⟩⟩⟩
          · rw [e1] at q
            simp (disch := omega) only [nL, nI_add, pk_mul, n_le, n_lt, n_eq] at q
            omega
          · have q : nI (bq t i) = nI 0 := q
            rw [n_eq (by omega) (by omega)] at q
            have e : tl (gs N) (ge N) t i = gs N i := by rw [tl, if_neg (fun z => by rw [bq_t z] at q; omega)]
            have := st54 l6 l7
            rw [nc (by omega), f1, ← e]
            exact this
          · have q : ¬ nI (bq t i) = nI 0 := q
            rw [n_eq (by omega) (by omega)] at q
            have e : tl (gs N) (ge N) t i = ge N i := by rw [tl, if_pos (Classical.byContradiction fun z => q (bq_f z))]
            have := st54 l6 l7
            rw [nc (by omega), f2, ← e]
            exact this
      refine z_go 40 [7, 19, 54, 82] ⟨fun q => ?_, fun q => ?_⟩
      · rw [n_eq (by omega) (by omega)] at q
        refine ⟨rfl, S0, hS0, rfl, fun k => ⟨hSr k, fun z => ?_⟩⟩
        exact z (fun x => S0.testBit x = true) hSp (fun j hj hx => hSc q j hj hx)
      · exact inner R 0 S0 _ _ (by omega) hS0 (fun k hk => hk) hSr (fun _ j hj => absurd hj (Nat.not_lt_zero j))
  have hone := i_one p (by omega)
  have hp2 : 2 ^ p < 2 ^ 6 := Nat.pow_lt_pow_right (by omega) (by omega)
  have hp3 : 0 < 2 ^ p := Nat.pow_pos (by omega)
  have start := outer 64 (2 ^ p) 0 none none none (by omega) (by omega) (by rw [Nat.testBit_two_pow]; exact decide_eq_true rfl) (fun k hk => by
    rw [Nat.testBit_two_pow] at hk
    rw [← of_decide_eq_true hk]
    exact rch_rf p) (fun z => by omega) (by omega)
  rw [← hone] at start
  obtain ⟨r, s, hc, rfl, S, hS, rfl, hk⟩ := z_metx (d := d + 1) (M := k_Md_reach) (as := [.ref 53, .int (nI p), .int (nI t)]) (σ := σ) (Post := fun r s => s = σ ∧ ∃ S, S < 64 ∧ r = some (.int (nI S)) ∧ ∀ k, (S.testBit k = true ↔ rch R (tl (gs N) (ge N) t) (hd (gs N) (ge N) t) p k)) ⟨rfl, z_go 40 [7, 19, 54, 82] start⟩
  exact ⟨S, hS, hc, hk⟩
theorem c_pointed_0 (d : Nat) {σ : z_M} {N : zN} (h : netD σ N) (hv : NV N) : z_call (d + 3) k_Md_pointed [.ref 53, .int 0] σ (some (.int (nI (cn (fun t => acy (gR N) (tl (gs N) (ge N) t) (hd (gs N) (ge N) t)) (2 ^ gR N))))) σ := by
  obtain ⟨P, R, eP, hP, egP, eR, hR, eg, hse⟩ := hv.nat
  rw [eg]
  have hse2 : ∀ i, i < R → gs N i < P ∧ ge N i < P := fun i hi => (hse i hi).2.2
  have e1 : σ.1 53 1 = nI R := by rw [h.2.1, eR]
  have h10 : 2 ^ R ≤ 2 ^ 10 := Nat.pow_le_pow_right (by omega) hR
  have hpos : 0 < 2 ^ R := Nat.pow_pos (by omega)
  have outer : ∀ (n t : Nat) (l4 l5 l6 l7 : Option Value), t + n = 2 ^ R →
      z_wp (z_call (d + 2)) none k_Md_pointed (fun r s => r = some (.int (nI (cn (fun t => acy R (tl (gs N) (ge N) t) (hd (gs N) (ge N) t)) (2 ^ R)))) ∧ s = σ) 4 [some (.ref 53), some (.int 0), some (.int (nI (cn (fun t => acy R (tl (gs N) (ge N) t) (hd (gs N) (ge N) t)) t))), some (.int (nI t)), l4, l5, l6, l7] [] σ := by
    intro n
    induction n with
    | zero =>
      intro t l4 l5 l6 l7 hn
      obtain rfl : t = 2 ^ R := by omega
      refine z_go 40 [4, 18, 58, 86, 117] ⟨_, _, c_all (d + 1) e1 hR, fun q => ⟨rfl, rfl⟩, fun q => ?_⟩
      rw [n_lt (by omega) (by omega)] at q
      omega
    | succ n ih =>
      intro t l4 l5 l6 l7 hn
      have hcl := cn_le (fun t => acy R (tl (gs N) (ge N) t) (hd (gs N) (ge N) t)) t
      have fin : ∀ (l5 l6 l7 : Option Value), z_wp (z_call (d + 2)) none k_Md_pointed (fun r s => r = some (.int (nI (cn (fun t => acy R (tl (gs N) (ge N) t) (hd (gs N) (ge N) t)) (2 ^ R)))) ∧ s = σ) 117 [some (.ref 53), some (.int 0), some (.int (nI (cn (fun t => acy R (tl (gs N) (ge N) t) (hd (gs N) (ge N) t)) t))), some (.int (nI t)), some (.int (nI (pb (acy R (tl (gs N) (ge N) t) (hd (gs N) (ge N) t))))), l5, l6, l7] [] σ := by
        intro l5 l6 l7
        have hpb := pb_le (acy R (tl (gs N) (ge N) t) (hd (gs N) (ge N) t))
        have nx := ih (t + 1) (some (.int (nI (pb (acy R (tl (gs N) (ge N) t) (hd (gs N) (ge N) t)))))) l5 l6 l7 (by omega)
        rw [cn_s] at nx
        refine z_go 40 [4, 18, 58, 86, 117] ⟨fun q => ?_, fun q => ?_⟩
        · show z_wp _ _ _ _ 4 _ _ _
          have q : nI (pb (acy R (tl (gs N) (ge N) t) (hd (gs N) (ge N) t))) = nI 0 := q
          rw [n_eq (by omega) (by omega)] at q
          rw [q] at nx ⊢
          simp only [nL, nI_add]
          exact nx
        · show z_wp _ _ _ _ 4 _ _ _
          have q : ¬ nI (pb (acy R (tl (gs N) (ge N) t) (hd (gs N) (ge N) t))) = nI 0 := q
          rw [n_eq (by omega) (by omega)] at q
          have q : pb (acy R (tl (gs N) (ge N) t) (hd (gs N) (ge N) t)) = 1 := by omega
          rw [q] at nx ⊢
          simp only [nL, nI_add]
          exact nx
      have inner : ∀ (m i : Nat) (l6 l7 : Option Value), i + m = R → z_wp (z_call (d + 2)) none k_Md_pointed (fun r s => r = some (.int (nI (cn (fun t => acy R (tl (gs N) (ge N) t) (hd (gs N) (ge N) t)) (2 ^ R)))) ∧ s = σ) 18 [some (.ref 53), some (.int 0), some (.int (nI (cn (fun t => acy R (tl (gs N) (ge N) t) (hd (gs N) (ge N) t)) t))), some (.int (nI t)), some (.int (nI (pb (∀ k, k < i → ¬  rch R (tl (gs N) (ge N) t) (hd (gs N) (ge N) t) (hd (gs N) (ge N) t k) (tl (gs N) (ge N) t k))))), some (.int (nI i)), l6, l7] [] σ := by
        intro m
        induction m with
        | zero =>
          intro i l6 l7 hi
          obtain rfl : i = R := by omega
          refine z_go 40 [4, 18, 58, 86, 117] ⟨fun q => fin _ _ _, fun q => ?_⟩
          rw [e1] at q
          exact absurd (Int32.le_refl _) q
        | succ m ihm =>
          intro i l6 l7 hi
          obtain ⟨es, ee, hs, he⟩ := hse i (by omega)
          have f1 : σ.1 54 i = nI (gs N i) := by rw [(h.2.2.2 i (by omega)).1, es]
          have f2 : σ.1 55 i = nI (ge N i) := by rw [(h.2.2.2 i (by omega)).2.1, ee]
          obtain ⟨hta, hha⟩ := tl_lt t hse2 (i := i) (by omega)
          have hpb := pb_le (∀ k, k < i → ¬  rch R (tl (gs N) (ge N) t) (hd (gs N) (ge N) t) (hd (gs N) (ge N) t k) (tl (gs N) (ge N) t k))
          have stop : ¬ (∀ k, k < i → ¬  rch R (tl (gs N) (ge N) t) (hd (gs N) (ge N) t) (hd (gs N) (ge N) t k) (tl (gs N) (ge N) t k)) → pb (acy R (tl (gs N) (ge N) t) (hd (gs N) (ge N) t)) = 0 := fun z => pb_f (fun y => z (fun k hk => y k (by omega)))
          have st86 : (∀ k, k < i → ¬  rch R (tl (gs N) (ge N) t) (hd (gs N) (ge N) t) (hd (gs N) (ge N) t k) (tl (gs N) (ge N) t k)) → ∀ (l4 l7 : Option Value), z_wp (z_call (d + 2)) none k_Md_pointed (fun r s => r = some (.int (nI (cn (fun t => acy R (tl (gs N) (ge N) t) (hd (gs N) (ge N) t)) (2 ^ R)))) ∧ s = σ) 86 [some (.ref 53), some (.int 0), some (.int (nI (cn (fun t => acy R (tl (gs N) (ge N) t) (hd (gs N) (ge N) t)) t))), some (.int (nI t)), l4, some (.int (nI i)), some (.int (nI (tl (gs N) (ge N) t i))), l7] [.int (nI (hd (gs N) (ge N) t i))] σ := by
            intro hall l4 l7
            obtain ⟨S, hS, hcS, hk⟩ := c_reach d h hv (p := hd (gs N) (ge N) t i) (t := t) (by omega) (by omega)
            rw [eg] at hk
            have hbq := bq_le S (tl (gs N) (ge N) t i)
            have nx := ihm (i + 1) (some (.int (nI (tl (gs N) (ge N) t i)))) (some (.int (nI (hd (gs N) (ge N) t i)))) (by omega)
            refine z_go 40 [4, 18, 58, 86, 117] ⟨_, _, hcS, _, _, c_in (d + 1) σ (S := S) (k := tl (gs N) (ge N) t i) (by omega) (by omega), fun q => ?_, fun q => ?_⟩
            · show z_wp _ _ _ _ 18 _ _ _
              have q : ¬ nI (bq S (tl (gs N) (ge N) t i)) = nI 0 := q
              rw [n_eq (by omega) (by omega)] at q
              have hb : S.testBit (tl (gs N) (ge N) t i) = true := Classical.byContradiction fun z => q (bq_f z)
              have e5 : pb (∀ k, k < i + 1 → ¬  rch R (tl (gs N) (ge N) t) (hd (gs N) (ge N) t) (hd (gs N) (ge N) t k) (tl (gs N) (ge N) t k)) = 0 := pb_f (fun z => z i (by omega) ((hk _).mp hb))
              rw [e5] at nx
              rw [show nI i + 1 = nI (i + 1) from nI_add i 1]
              exact nx
            · show z_wp _ _ _ _ 18 _ _ _
              have q : nI (bq S (tl (gs N) (ge N) t i)) = nI 0 := q
              rw [n_eq (by omega) (by omega)] at q
              have hb : ¬ S.testBit (tl (gs N) (ge N) t i) = true := fun z => by rw [bq_t z] at q; omega
              have e5 : pb (∀ k, k < i + 1 → ¬  rch R (tl (gs N) (ge N) t) (hd (gs N) (ge N) t) (hd (gs N) (ge N) t k) (tl (gs N) (ge N) t k)) = 1 := by
                refine pb_t (fun k hk2 => ?_)
                by_cases c : k = i
                · rw [c]
                  exact fun z => hb ((hk _).mpr z)
                · exact hall k (by omega)
              rw [e5] at nx
              rw [show nI i + 1 = nI (i + 1) from nI_add i 1]
              exact nx
          have st58 : (∀ k, k < i → ¬  rch R (tl (gs N) (ge N) t) (hd (gs N) (ge N) t) (hd (gs N) (ge N) t k) (tl (gs N) (ge N) t k)) → ∀ (l4 l6 l7 : Option Value), z_wp (z_call (d + 2)) none k_Md_pointed (fun r s => r = some (.int (nI (cn (fun t => acy R (tl (gs N) (ge N) t) (hd (gs N) (ge N) t)) (2 ^ R)))) ∧ s = σ) 58 [some (.ref 53), some (.int 0), some (.int (nI (cn (fun t => acy R (tl (gs N) (ge N) t) (hd (gs N) (ge N) t)) t))), some (.int (nI t)), l4, some (.int (nI i)), l6, l7] [.int (nI (tl (gs N) (ge N) t i))] σ := by
            intro hall l4 l6 l7
            have hbq := bq_le t i
            refine z_go 40 [4, 18, 58, 86, 117] ⟨_, _, c_in (d + 1) σ (S := t) (by omega) (by omega), fun q => ⟨by (first | exact vin (by simp only [al_2, al_3, al_4, al_5, al_7, al_11, al_12, al_13, al_15, al_16, al_17, al_19, al_20, al_21, al_22, al_23, al_24, al_25, al_26, al_28, al_30, al_31, al_32, al_33, al_34, al_36, al_41, al_42, al_43, al_44, al_49, al_50, al_51, al_52, al_54, al_55, al_56, al_57, al_58, al_59, al_60, al_61, al_62, al_63, al_64, al_65, al_66, al_67, al_68, al_69, al_70, al_71, al_72, al_73, al_74, al_75, al_76, al_77, al_78, al_79, al_80]; omega) (by simp only [al_2, al_3, al_4, al_5, al_7, al_11, al_12, al_13, al_15, al_16, al_17, al_19, al_20, al_21, al_22, al_23, al_24, al_25, al_26, al_28, al_30, al_31, al_32, al_33, al_34, al_36, al_41, al_42, al_43, al_44, al_49, al_50, al_51, al_52, al_54, al_55, al_56, al_57, al_58, al_59, al_60, al_61, al_62, al_63, al_64, al_65, al_66, al_67, al_68, al_69, al_70, al_71, al_72, al_73, al_74, al_75, al_76, al_77, al_78, al_79, al_80]; decide) | (simp (disch := omega) only [nL, nI_add, pk_mul, nc, Nat.zero_add, al_2, al_3, al_4, al_5, al_7, al_11, al_12, al_13, al_15, al_16, al_17, al_19, al_20, al_21, al_22, al_23, al_24, al_25, al_26, al_28, al_30, al_31, al_32, al_33, al_34, al_36, al_41, al_42, al_43, al_44, al_49, al_50, al_51, al_52, al_54, al_55, al_56, al_57, al_58, al_59, al_60, al_61, al_62, al_63, al_64, al_65, al_66, al_67, al_68, al_69, al_70, al_71, al_72, al_73, al_74, al_75, al_76, al_77, al_78, al_79, al_80]; exact vin (by omega) (by decide))), ?_⟩, fun q => ⟨by (first | exact vin (by simp only [al_2, al_3, al_4, al_5, al_7, al_11, al_12, al_13, al_15, al_16, al_17, al_19, al_20, al_21, al_22, al_23, al_24, al_25, al_26, al_28, al_30, al_31, al_32, al_33, al_34, al_36, al_41, al_42, al_43, al_44, al_49, al_50, al_51, al_52, al_54, al_55, al_56, al_57, al_58, al_59, al_60, al_61, al_62, al_63, al_64, al_65, al_66, al_67, al_68, al_69, al_70, al_71, al_72, al_73, al_74, al_75, al_76, al_77, al_78, al_79, al_80]; omega) (by simp only [al_2, al_3, al_4, al_5, al_7, al_11, al_12, al_13, al_15, al_16, al_17, al_19, al_20, al_21, al_22, al_23, al_24, al_25, al_26, al_28, al_30, al_31, al_32, al_33, al_34, al_36, al_41, al_42, al_43, al_44, al_49, al_50, al_51, al_52, al_54, al_55, al_56, al_57, al_58, al_59, al_60, al_61, al_62, al_63, al_64, al_65, al_66, al_67, al_68, al_69, al_70, al_71, al_72, al_73, al_74, al_75, al_76, al_77, al_78, al_79, al_80]; decide) | (simp (disch := omega) only [nL, nI_add, pk_mul, nc, Nat.zero_add, al_2, al_3, al_4, al_5, al_7, al_11, al_12, al_13, al_15, al_16, al_17, al_19, al_20, al_21, al_22, al_23, al_24, al_25, al_26, al_28, al_30, al_31, al_32, al_33, al_34, al_36, al_41, al_42, al_43, al_44, al_49, al_50, al_51, al_52, al_54, al_55, al_56, al_57, al_58, al_59, al_60, al_61, al_62, al_63, al_64, al_65, al_66, al_67, al_68, al_69, al_70, al_71, al_72, al_73, al_74, al_75, al_76, al_77, al_78, al_79, al_80]; exact vin (by omega) (by decide))), ?_⟩⟩
            · have q : nI (bq t i) = nI 0 := q
              rw [n_eq (by omega) (by omega)] at q
              have e : hd (gs N) (ge N) t i = ge N i := by rw [hd, if_neg (fun z => by rw [bq_t z] at q; omega)]
              have := st86 hall l4 l7
              rw [nc (by omega), f2, ← e]
              exact this
            · have q : ¬ nI (bq t i) = nI 0 := q
              rw [n_eq (by omega) (by omega)] at q
              have e : hd (gs N) (ge N) t i = gs N i := by rw [hd, if_pos (Classical.byContradiction fun z => q (bq_f z))]
              have := st86 hall l4 l7
              rw [nc (by omega), f1, ← e]
              exact this
          have hbq := bq_le t i
          refine z_go 40 [4, 18, 58, 86, 117] ⟨fun q => ?_, fun q => ⟨fun q2 => ?_, fun q2 => ⟨_, _, c_in (d + 1) σ (S := t) (by omega) (by omega), fun q => ⟨by (first | exact vin (by simp only [al_2, al_3, al_4, al_5, al_7, al_11, al_12, al_13, al_15, al_16, al_17, al_19, al_20, al_21, al_22, al_23, al_24, al_25, al_26, al_28, al_30, al_31, al_32, al_33, al_34, al_36, al_41, al_42, al_43, al_44, al_49, al_50, al_51, al_52, al_54, al_55, al_56, al_57, al_58, al_59, al_60, al_61, al_62, al_63, al_64, al_65, al_66, al_67, al_68, al_69, al_70, al_71, al_72, al_73, al_74, al_75, al_76, al_77, al_78, al_79, al_80]; omega) (by simp only [al_2, al_3, al_4, al_5, al_7, al_11, al_12, al_13, al_15, al_16, al_17, al_19, al_20, al_21, al_22, al_23, al_24, al_25, al_26, al_28, al_30, al_31, al_32, al_33, al_34, al_36, al_41, al_42, al_43, al_44, al_49, al_50, al_51, al_52, al_54, al_55, al_56, al_57, al_58, al_59, al_60, al_61, al_62, al_63, al_64, al_65, al_66, al_67, al_68, al_69, al_70, al_71, al_72, al_73, al_74, al_75, al_76, al_77, al_78, al_79, al_80]; decide) | (simp (disch := omega) only [nL, nI_add, pk_mul, nc, Nat.zero_add, al_2, al_3, al_4, al_5, al_7, al_11, al_12, al_13, al_15, al_16, al_17, al_19, al_20, al_21, al_22, al_23, al_24, al_25, al_26, al_28, al_30, al_31, al_32, al_33, al_34, al_36, al_41, al_42, al_43, al_44, al_49, al_50, al_51, al_52, al_54, al_55, al_56, al_57, al_58, al_59, al_60, al_61, al_62, al_63, al_64, al_65, al_66, al_67, al_68, al_69, al_70, al_71, al_72, al_73, al_74, al_75, al_76, al_77, al_78, al_79, al_80]; exact vin (by omega) (by decide))), ?_⟩, fun q => ⟨by (first | exact vin (by simp only [al_2, al_3, al_4, al_5, al_7, al_11, al_12, al_13, al_15, al_16, al_17, al_19, al_20, al_21, al_22, al_23, al_24, al_25, al_26, al_28, al_30, al_31, al_32, al_33, al_34, al_36, al_41, al_42, al_43, al_44, al_49, al_50, al_51, al_52, al_54, al_55, al_56, al_57, al_58, al_59, al_60, al_61, al_62, al_63, al_64, al_65, al_66, al_67, al_68, al_69, al_70, al_71, al_72, al_73, al_74, al_75, al_76, al_77, al_78, al_79, al_80]; omega) (by simp only [al_2, al_3, al_4, al_5, al_7, al_11, al_12, al_13, al_15, al_16, al_17, al_19, al_20, al_21, al_22, al_23, al_24, al_25, al_26, al_28, al_30, al_31, al_32, al_33, al_34, al_36, al_41, al_42, al_43, al_44, al_49, al_50, al_51, al_52, al_54, al_55, al_56, al_57, al_58, al_59, al_60, al_61, al_62, al_63, al_64, al_65, al_66, al_67, al_68, al_69, al_70, al_71, al_72, al_73, al_74, al_75, al_76, al_77, al_78, al_79, al_80]; decide) | (simp (disch := omega) only [nL, nI_add, pk_mul, nc, Nat.zero_add, al_2, al_3, al_4, al_5, al_7, al_11, al_12, al_13, al_15, al_16, al_17, al_19, al_20, al_21, al_22, al_23, al_24, al_25, al_26, al_28, al_30, al_31, al_32, al_33, al_34, al_36, al_41, al_42, al_43, al_44, al_49, al_50, al_51, al_52, al_54, al_55, al_56, al_57, al_58, al_59, al_60, al_61, al_62, al_63, al_64, al_65, al_66, al_67, al_68, al_69, al_70, al_71, al_72, al_73, al_74, al_75, al_76, al_77, al_78, al_79, al_80]; exact vin (by omega) (by decide))), ?_⟩⟩⟩⟩
          · rw [e1] at q
            simp (disch := omega) only [nL, nI_add, pk_mul, n_le, n_lt, n_eq] at q
            omega
          · show z_wp _ _ _ _ 117 _ _ _
            have q2 : nI (pb (∀ k, k < i → ¬  rch R (tl (gs N) (ge N) t) (hd (gs N) (ge N) t) (hd (gs N) (ge N) t k) (tl (gs N) (ge N) t k))) = nI 0 := q2
            rw [n_eq (by omega) (by omega)] at q2
            have := fin (some (.int (nI i))) l6 l7
            rw [stop (pb_0 q2)] at this
            rw [q2]
            exact this
          · have q2 : ¬ nI (pb (∀ k, k < i → ¬  rch R (tl (gs N) (ge N) t) (hd (gs N) (ge N) t) (hd (gs N) (ge N) t k) (tl (gs N) (ge N) t k))) = nI 0 := q2
            rw [n_eq (by omega) (by omega)] at q2
            have q : nI (bq t i) = nI 0 := q
            rw [n_eq (by omega) (by omega)] at q
            have e : tl (gs N) (ge N) t i = gs N i := by rw [tl, if_neg (fun z => by rw [bq_t z] at q; omega)]
            have := st58 (pb_1 q2) (some (.int (nI (pb (∀ k, k < i → ¬  rch R (tl (gs N) (ge N) t) (hd (gs N) (ge N) t) (hd (gs N) (ge N) t k) (tl (gs N) (ge N) t k)))))) l6 l7
            rw [nc (by omega), f1, ← e]
            exact this
          · have q2 : ¬ nI (pb (∀ k, k < i → ¬  rch R (tl (gs N) (ge N) t) (hd (gs N) (ge N) t) (hd (gs N) (ge N) t k) (tl (gs N) (ge N) t k))) = nI 0 := q2
            rw [n_eq (by omega) (by omega)] at q2
            have q : ¬ nI (bq t i) = nI 0 := q
            rw [n_eq (by omega) (by omega)] at q
            have e : tl (gs N) (ge N) t i = ge N i := by rw [tl, if_pos (Classical.byContradiction fun z => q (bq_f z))]
            have := st58 (pb_1 q2) (some (.int (nI (pb (∀ k, k < i → ¬  rch R (tl (gs N) (ge N) t) (hd (gs N) (ge N) t) (hd (gs N) (ge N) t k) (tl (gs N) (ge N) t k)))))) l6 l7
            rw [nc (by omega), f2, ← e]
            exact this
      have st := inner R 0 l6 l7 (by omega)
      have e0 : pb (∀ k, k < 0 → ¬  rch R (tl (gs N) (ge N) t) (hd (gs N) (ge N) t) (hd (gs N) (ge N) t k) (tl (gs N) (ge N) t k)) = 1 := pb_t (fun k hk => absurd hk (Nat.not_lt_zero k))
      rw [e0] at st
      refine z_go 40 [4, 18, 58, 86, 117] ⟨_, _, c_all (d + 1) e1 hR, fun q => ?_, fun q => ?_⟩
      · rw [n_lt (by omega) (by omega)] at q
        omega
      · exact st
  exact ⟨rfl, z_go 40 [4, 18, 58, 86, 117] (outer (2 ^ R) 0 _ _ _ _ (by omega))⟩
theorem c_pointed_1 (d : Nat) {σ : z_M} {N : zN} (h : netD σ N) (hv : NV N) : z_call (d + 3) k_Md_pointed [.ref 53, .int 1] σ (some (.int (nI (cn (fun t => tot (gR N) (tl (gs N) (ge N) t) (hd (gs N) (ge N) t)) (2 ^ gR N))))) σ := by
  obtain ⟨P, R, eP, hP, egP, eR, hR, eg, hse⟩ := hv.nat
  rw [eg]
  have hse2 : ∀ i, i < R → gs N i < P ∧ ge N i < P := fun i hi => (hse i hi).2.2
  have e1 : σ.1 53 1 = nI R := by rw [h.2.1, eR]
  have h10 : 2 ^ R ≤ 2 ^ 10 := Nat.pow_le_pow_right (by omega) hR
  have hpos : 0 < 2 ^ R := Nat.pow_pos (by omega)
  have outer : ∀ (n t : Nat) (l4 l5 l6 l7 : Option Value), t + n = 2 ^ R →
      z_wp (z_call (d + 2)) none k_Md_pointed (fun r s => r = some (.int (nI (cn (fun t => tot R (tl (gs N) (ge N) t) (hd (gs N) (ge N) t)) (2 ^ R)))) ∧ s = σ) 4 [some (.ref 53), some (.int 1), some (.int (nI (cn (fun t => tot R (tl (gs N) (ge N) t) (hd (gs N) (ge N) t)) t))), some (.int (nI t)), l4, l5, l6, l7] [] σ := by
    intro n
    induction n with
    | zero =>
      intro t l4 l5 l6 l7 hn
      obtain rfl : t = 2 ^ R := by omega
      refine z_go 40 [4, 18, 58, 86, 117] ⟨_, _, c_all (d + 1) e1 hR, fun q => ⟨rfl, rfl⟩, fun q => ?_⟩
      rw [n_lt (by omega) (by omega)] at q
      omega
    | succ n ih =>
      intro t l4 l5 l6 l7 hn
      have hcl := cn_le (fun t => tot R (tl (gs N) (ge N) t) (hd (gs N) (ge N) t)) t
      have fin : ∀ (l5 l6 l7 : Option Value), z_wp (z_call (d + 2)) none k_Md_pointed (fun r s => r = some (.int (nI (cn (fun t => tot R (tl (gs N) (ge N) t) (hd (gs N) (ge N) t)) (2 ^ R)))) ∧ s = σ) 117 [some (.ref 53), some (.int 1), some (.int (nI (cn (fun t => tot R (tl (gs N) (ge N) t) (hd (gs N) (ge N) t)) t))), some (.int (nI t)), some (.int (nI (pb (tot R (tl (gs N) (ge N) t) (hd (gs N) (ge N) t))))), l5, l6, l7] [] σ := by
        intro l5 l6 l7
        have hpb := pb_le (tot R (tl (gs N) (ge N) t) (hd (gs N) (ge N) t))
        have nx := ih (t + 1) (some (.int (nI (pb (tot R (tl (gs N) (ge N) t) (hd (gs N) (ge N) t)))))) l5 l6 l7 (by omega)
        rw [cn_s] at nx
        refine z_go 40 [4, 18, 58, 86, 117] ⟨fun q => ?_, fun q => ?_⟩
        · show z_wp _ _ _ _ 4 _ _ _
          have q : nI (pb (tot R (tl (gs N) (ge N) t) (hd (gs N) (ge N) t))) = nI 0 := q
          rw [n_eq (by omega) (by omega)] at q
          rw [q] at nx ⊢
          simp only [nL, nI_add]
          exact nx
        · show z_wp _ _ _ _ 4 _ _ _
          have q : ¬ nI (pb (tot R (tl (gs N) (ge N) t) (hd (gs N) (ge N) t))) = nI 0 := q
          rw [n_eq (by omega) (by omega)] at q
          have q : pb (tot R (tl (gs N) (ge N) t) (hd (gs N) (ge N) t)) = 1 := by omega
          rw [q] at nx ⊢
          simp only [nL, nI_add]
          exact nx
      have inner : ∀ (m i : Nat) (l6 l7 : Option Value), i + m = R → z_wp (z_call (d + 2)) none k_Md_pointed (fun r s => r = some (.int (nI (cn (fun t => tot R (tl (gs N) (ge N) t) (hd (gs N) (ge N) t)) (2 ^ R)))) ∧ s = σ) 18 [some (.ref 53), some (.int 1), some (.int (nI (cn (fun t => tot R (tl (gs N) (ge N) t) (hd (gs N) (ge N) t)) t))), some (.int (nI t)), some (.int (nI (pb (∀ k, k < i →  rch R (tl (gs N) (ge N) t) (hd (gs N) (ge N) t) (hd (gs N) (ge N) t k) (tl (gs N) (ge N) t k))))), some (.int (nI i)), l6, l7] [] σ := by
        intro m
        induction m with
        | zero =>
          intro i l6 l7 hi
          obtain rfl : i = R := by omega
          refine z_go 40 [4, 18, 58, 86, 117] ⟨fun q => fin _ _ _, fun q => ?_⟩
          rw [e1] at q
          exact absurd (Int32.le_refl _) q
        | succ m ihm =>
          intro i l6 l7 hi
          obtain ⟨es, ee, hs, he⟩ := hse i (by omega)
          have f1 : σ.1 54 i = nI (gs N i) := by rw [(h.2.2.2 i (by omega)).1, es]
          have f2 : σ.1 55 i = nI (ge N i) := by rw [(h.2.2.2 i (by omega)).2.1, ee]
          obtain ⟨hta, hha⟩ := tl_lt t hse2 (i := i) (by omega)
          have hpb := pb_le (∀ k, k < i →  rch R (tl (gs N) (ge N) t) (hd (gs N) (ge N) t) (hd (gs N) (ge N) t k) (tl (gs N) (ge N) t k))
          have stop : ¬ (∀ k, k < i →  rch R (tl (gs N) (ge N) t) (hd (gs N) (ge N) t) (hd (gs N) (ge N) t k) (tl (gs N) (ge N) t k)) → pb (tot R (tl (gs N) (ge N) t) (hd (gs N) (ge N) t)) = 0 := fun z => pb_f (fun y => z (fun k hk => y k (by omega)))
          have st86 : (∀ k, k < i →  rch R (tl (gs N) (ge N) t) (hd (gs N) (ge N) t) (hd (gs N) (ge N) t k) (tl (gs N) (ge N) t k)) → ∀ (l4 l7 : Option Value), z_wp (z_call (d + 2)) none k_Md_pointed (fun r s => r = some (.int (nI (cn (fun t => tot R (tl (gs N) (ge N) t) (hd (gs N) (ge N) t)) (2 ^ R)))) ∧ s = σ) 86 [some (.ref 53), some (.int 1), some (.int (nI (cn (fun t => tot R (tl (gs N) (ge N) t) (hd (gs N) (ge N) t)) t))), some (.int (nI t)), l4, some (.int (nI i)), some (.int (nI (tl (gs N) (ge N) t i))), l7] [.int (nI (hd (gs N) (ge N) t i))] σ := by
            intro hall l4 l7
            obtain ⟨S, hS, hcS, hk⟩ := c_reach d h hv (p := hd (gs N) (ge N) t i) (t := t) (by omega) (by omega)
            rw [eg] at hk
            have hbq := bq_le S (tl (gs N) (ge N) t i)
            have nx := ihm (i + 1) (some (.int (nI (tl (gs N) (ge N) t i)))) (some (.int (nI (hd (gs N) (ge N) t i)))) (by omega)
            refine z_go 40 [4, 18, 58, 86, 117] ⟨_, _, hcS, _, _, c_in (d + 1) σ (S := S) (k := tl (gs N) (ge N) t i) (by omega) (by omega), fun q => ?_, fun q => ?_⟩
            · show z_wp _ _ _ _ 18 _ _ _
              have q : ¬ nI (bq S (tl (gs N) (ge N) t i)) = nI 1 := q
              rw [n_eq (by omega) (by omega)] at q
              have hb : ¬ S.testBit (tl (gs N) (ge N) t i) = true := fun z => q (bq_t z)
              have e5 : pb (∀ k, k < i + 1 →  rch R (tl (gs N) (ge N) t) (hd (gs N) (ge N) t) (hd (gs N) (ge N) t k) (tl (gs N) (ge N) t k)) = 0 := pb_f (fun z => hb ((hk _).mpr (z i (by omega))))
              rw [e5] at nx
              rw [show nI i + 1 = nI (i + 1) from nI_add i 1]
              exact nx
            · show z_wp _ _ _ _ 18 _ _ _
              have q : nI (bq S (tl (gs N) (ge N) t i)) = nI 1 := q
              rw [n_eq (by omega) (by omega)] at q
              have hb : S.testBit (tl (gs N) (ge N) t i) = true := Classical.byContradiction fun z => by rw [bq_f z] at q; omega
              have e5 : pb (∀ k, k < i + 1 →  rch R (tl (gs N) (ge N) t) (hd (gs N) (ge N) t) (hd (gs N) (ge N) t k) (tl (gs N) (ge N) t k)) = 1 := by
                refine pb_t (fun k hk2 => ?_)
                by_cases c : k = i
                · rw [c]
                  exact (hk _).mp hb
                · exact hall k (by omega)
              rw [e5] at nx
              rw [show nI i + 1 = nI (i + 1) from nI_add i 1]
              exact nx
          have st58 : (∀ k, k < i →  rch R (tl (gs N) (ge N) t) (hd (gs N) (ge N) t) (hd (gs N) (ge N) t k) (tl (gs N) (ge N) t k)) → ∀ (l4 l6 l7 : Option Value), z_wp (z_call (d + 2)) none k_Md_pointed (fun r s => r = some (.int (nI (cn (fun t => tot R (tl (gs N) (ge N) t) (hd (gs N) (ge N) t)) (2 ^ R)))) ∧ s = σ) 58 [some (.ref 53), some (.int 1), some (.int (nI (cn (fun t => tot R (tl (gs N) (ge N) t) (hd (gs N) (ge N) t)) t))), some (.int (nI t)), l4, some (.int (nI i)), l6, l7] [.int (nI (tl (gs N) (ge N) t i))] σ := by
            intro hall l4 l6 l7
            have hbq := bq_le t i
            refine z_go 40 [4, 18, 58, 86, 117] ⟨_, _, c_in (d + 1) σ (S := t) (by omega) (by omega), fun q => ⟨by (first | exact vin (by simp only [al_2, al_3, al_4, al_5, al_7, al_11, al_12, al_13, al_15, al_16, al_17, al_19, al_20, al_21, al_22, al_23, al_24, al_25, al_26, al_28, al_30, al_31, al_32, al_33, al_34, al_36, al_41, al_42, al_43, al_44, al_49, al_50, al_51, al_52, al_54, al_55, al_56, al_57, al_58, al_59, al_60, al_61, al_62, al_63, al_64, al_65, al_66, al_67, al_68, al_69, al_70, al_71, al_72, al_73, al_74, al_75, al_76, al_77, al_78, al_79, al_80]; omega) (by simp only [al_2, al_3, al_4, al_5, al_7, al_11, al_12, al_13, al_15, al_16, al_17, al_19, al_20, al_21, al_22, al_23, al_24, al_25, al_26, al_28, al_30, al_31, al_32, al_33, al_34, al_36, al_41, al_42, al_43, al_44, al_49, al_50, al_51, al_52, al_54, al_55, al_56, al_57, al_58, al_59, al_60, al_61, al_62, al_63, al_64, al_65, al_66, al_67, al_68, al_69, al_70, al_71, al_72, al_73, al_74, al_75, al_76, al_77, al_78, al_79, al_80]; decide) | (simp (disch := omega) only [nL, nI_add, pk_mul, nc, Nat.zero_add, al_2, al_3, al_4, al_5, al_7, al_11, al_12, al_13, al_15, al_16, al_17, al_19, al_20, al_21, al_22, al_23, al_24, al_25, al_26, al_28, al_30, al_31, al_32, al_33, al_34, al_36, al_41, al_42, al_43, al_44, al_49, al_50, al_51, al_52, al_54, al_55, al_56, al_57, al_58, al_59, al_60, al_61, al_62, al_63, al_64, al_65, al_66, al_67, al_68, al_69, al_70, al_71, al_72, al_73, al_74, al_75, al_76, al_77, al_78, al_79, al_80]; exact vin (by omega) (by decide))), ?_⟩, fun q => ⟨by (first | exact vin (by simp only [al_2, al_3, al_4, al_5, al_7, al_11, al_12, al_13, al_15, al_16, al_17, al_19, al_20, al_21, al_22, al_23, al_24, al_25, al_26, al_28, al_30, al_31, al_32, al_33, al_34, al_36, al_41, al_42, al_43, al_44, al_49, al_50, al_51, al_52, al_54, al_55, al_56, al_57, al_58, al_59, al_60, al_61, al_62, al_63, al_64, al_65, al_66, al_67, al_68, al_69, al_70, al_71, al_72, al_73, al_74, al_75, al_76, al_77, al_78, al_79, al_80]; omega) (by simp only [al_2, al_3, al_4, al_5, al_7, al_11, al_12, al_13, al_15, al_16, al_17, al_19, al_20, al_21, al_22, al_23, al_24, al_25, al_26, al_28, al_30, al_31, al_32, al_33, al_34, al_36, al_41, al_42, al_43, al_44, al_49, al_50, al_51, al_52, al_54, al_55, al_56, al_57, al_58, al_59, al_60, al_61, al_62, al_63, al_64, al_65, al_66, al_67, al_68, al_69, al_70, al_71, al_72, al_73, al_74, al_75, al_76, al_77, al_78, al_79, al_80]; decide) | (simp (disch := omega) only [nL, nI_add, pk_mul, nc, Nat.zero_add, al_2, al_3, al_4, al_5, al_7, al_11, al_12, al_13, al_15, al_16, al_17, al_19, al_20, al_21, al_22, al_23, al_24, al_25, al_26, al_28, al_30, al_31, al_32, al_33, al_34, al_36, al_41, al_42, al_43, al_44, al_49, al_50, al_51, al_52, al_54, al_55, al_56, al_57, al_58, al_59, al_60, al_61, al_62, al_63, al_64, al_65, al_66, al_67, al_68, al_69, al_70, al_71, al_72, al_73, al_74, al_75, al_76, al_77, al_78, al_79, al_80]; exact vin (by omega) (by decide))), ?_⟩⟩
            · have q : nI (bq t i) = nI 0 := q
              rw [n_eq (by omega) (by omega)] at q
              have e : hd (gs N) (ge N) t i = ge N i := by rw [hd, if_neg (fun z => by rw [bq_t z] at q; omega)]
              have := st86 hall l4 l7
              rw [nc (by omega), f2, ← e]
              exact this
            · have q : ¬ nI (bq t i) = nI 0 := q
              rw [n_eq (by omega) (by omega)] at q
              have e : hd (gs N) (ge N) t i = gs N i := by rw [hd, if_pos (Classical.byContradiction fun z => q (bq_f z))]
              have := st86 hall l4 l7
              rw [nc (by omega), f1, ← e]
              exact this
          have hbq := bq_le t i
          refine z_go 40 [4, 18, 58, 86, 117] ⟨fun q => ?_, fun q => ⟨fun q2 => ?_, fun q2 => ⟨_, _, c_in (d + 1) σ (S := t) (by omega) (by omega), fun q => ⟨by (first | exact vin (by simp only [al_2, al_3, al_4, al_5, al_7, al_11, al_12, al_13, al_15, al_16, al_17, al_19, al_20, al_21, al_22, al_23, al_24, al_25, al_26, al_28, al_30, al_31, al_32, al_33, al_34, al_36, al_41, al_42, al_43, al_44, al_49, al_50, al_51, al_52, al_54, al_55, al_56, al_57, al_58, al_59, al_60, al_61, al_62, al_63, al_64, al_65, al_66, al_67, al_68, al_69, al_70, al_71, al_72, al_73, al_74, al_75, al_76, al_77, al_78, al_79, al_80]; omega) (by simp only [al_2, al_3, al_4, al_5, al_7, al_11, al_12, al_13, al_15, al_16, al_17, al_19, al_20, al_21, al_22, al_23, al_24, al_25, al_26, al_28, al_30, al_31, al_32, al_33, al_34, al_36, al_41, al_42, al_43, al_44, al_49, al_50, al_51, al_52, al_54, al_55, al_56, al_57, al_58, al_59, al_60, al_61, al_62, al_63, al_64, al_65, al_66, al_67, al_68, al_69, al_70, al_71, al_72, al_73, al_74, al_75, al_76, al_77, al_78, al_79, al_80]; decide) | (simp (disch := omega) only [nL, nI_add, pk_mul, nc, Nat.zero_add, al_2, al_3, al_4, al_5, al_7, al_11, al_12, al_13, al_15, al_16, al_17, al_19, al_20, al_21, al_22, al_23, al_24, al_25, al_26, al_28, al_30, al_31, al_32, al_33, al_34, al_36, al_41, al_42, al_43, al_44, al_49, al_50, al_51, al_52, al_54, al_55, al_56, al_57, al_58, al_59, al_60, al_61, al_62, al_63, al_64, al_65, al_66, al_67, al_68, al_69, al_70, al_71, al_72, al_73, al_74, al_75, al_76, al_77, al_78, al_79, al_80]; exact vin (by omega) (by decide))), ?_⟩, fun q => ⟨by (first | exact vin (by simp only [al_2, al_3, al_4, al_5, al_7, al_11, al_12, al_13, al_15, al_16, al_17, al_19, al_20, al_21, al_22, al_23, al_24, al_25, al_26, al_28, al_30, al_31, al_32, al_33, al_34, al_36, al_41, al_42, al_43, al_44, al_49, al_50, al_51, al_52, al_54, al_55, al_56, al_57, al_58, al_59, al_60, al_61, al_62, al_63, al_64, al_65, al_66, al_67, al_68, al_69, al_70, al_71, al_72, al_73, al_74, al_75, al_76, al_77, al_78, al_79, al_80]; omega) (by simp only [al_2, al_3, al_4, al_5, al_7, al_11, al_12, al_13, al_15, al_16, al_17, al_19, al_20, al_21, al_22, al_23, al_24, al_25, al_26, al_28, al_30, al_31, al_32, al_33, al_34, al_36, al_41, al_42, al_43, al_44, al_49, al_50, al_51, al_52, al_54, al_55, al_56, al_57, al_58, al_59, al_60, al_61, al_62, al_63, al_64, al_65, al_66, al_67, al_68, al_69, al_70, al_71, al_72, al_73, al_74, al_75, al_76, al_77, al_78, al_79, al_80]; decide) | (simp (disch := omega) only [nL, nI_add, pk_mul, nc, Nat.zero_add, al_2, al_3, al_4, al_5, al_7, al_11, al_12, al_13, al_15, al_16, al_17, al_19, al_20, al_21, al_22, al_23, al_24, al_25, al_26, al_28, al_30, al_31, al_32, al_33, al_34, al_36, al_41, al_42, al_43, al_44, al_49, al_50, al_51, al_52, al_54, al_55, al_56, al_57, al_58, al_59, al_60, al_61, al_62, al_63, al_64, al_65, al_66, al_67, al_68, al_69, al_70, al_71, al_72, al_73, al_74, al_75, al_76, al_77, al_78, al_79, al_80]; exact vin (by omega) (by decide))), ?_⟩⟩⟩⟩
          · rw [e1] at q
            simp (disch := omega) only [nL, nI_add, pk_mul, n_le, n_lt, n_eq] at q
            omega
          · show z_wp _ _ _ _ 117 _ _ _
            have q2 : nI (pb (∀ k, k < i →  rch R (tl (gs N) (ge N) t) (hd (gs N) (ge N) t) (hd (gs N) (ge N) t k) (tl (gs N) (ge N) t k))) = nI 0 := q2
            rw [n_eq (by omega) (by omega)] at q2
            have := fin (some (.int (nI i))) l6 l7
            rw [stop (pb_0 q2)] at this
            rw [q2]
            exact this
          · have q2 : ¬ nI (pb (∀ k, k < i →  rch R (tl (gs N) (ge N) t) (hd (gs N) (ge N) t) (hd (gs N) (ge N) t k) (tl (gs N) (ge N) t k))) = nI 0 := q2
            rw [n_eq (by omega) (by omega)] at q2
            have q : nI (bq t i) = nI 0 := q
            rw [n_eq (by omega) (by omega)] at q
            have e : tl (gs N) (ge N) t i = gs N i := by rw [tl, if_neg (fun z => by rw [bq_t z] at q; omega)]
            have := st58 (pb_1 q2) (some (.int (nI (pb (∀ k, k < i →  rch R (tl (gs N) (ge N) t) (hd (gs N) (ge N) t) (hd (gs N) (ge N) t k) (tl (gs N) (ge N) t k)))))) l6 l7
            rw [nc (by omega), f1, ← e]
            exact this
          · have q2 : ¬ nI (pb (∀ k, k < i →  rch R (tl (gs N) (ge N) t) (hd (gs N) (ge N) t) (hd (gs N) (ge N) t k) (tl (gs N) (ge N) t k))) = nI 0 := q2
            rw [n_eq (by omega) (by omega)] at q2
            have q : ¬ nI (bq t i) = nI 0 := q
            rw [n_eq (by omega) (by omega)] at q
            have e : tl (gs N) (ge N) t i = ge N i := by rw [tl, if_pos (Classical.byContradiction fun z => q (bq_f z))]
            have := st58 (pb_1 q2) (some (.int (nI (pb (∀ k, k < i →  rch R (tl (gs N) (ge N) t) (hd (gs N) (ge N) t) (hd (gs N) (ge N) t k) (tl (gs N) (ge N) t k)))))) l6 l7
            rw [nc (by omega), f2, ← e]
            exact this
      have st := inner R 0 l6 l7 (by omega)
      have e0 : pb (∀ k, k < 0 →  rch R (tl (gs N) (ge N) t) (hd (gs N) (ge N) t) (hd (gs N) (ge N) t k) (tl (gs N) (ge N) t k)) = 1 := pb_t (fun k hk => absurd hk (Nat.not_lt_zero k))
      rw [e0] at st
      refine z_go 40 [4, 18, 58, 86, 117] ⟨_, _, c_all (d + 1) e1 hR, fun q => ?_, fun q => ?_⟩
      · rw [n_lt (by omega) (by omega)] at q
        omega
      · exact st
  exact ⟨rfl, z_go 40 [4, 18, 58, 86, 117] (outer (2 ^ R) 0 _ _ _ _ (by omega))⟩
theorem c_absJ (d : Nat) (σ : z_M) {z : Int} {w : Nat} (hw : w ≤ 1024) (h : z = (w : Int) ∨ z = -(w : Int)) : z_call (d + 1) k_Math_absJ [.long (Int64.ofInt z)] σ (some (.long (Int64.ofInt (w : Int)))) σ := by
  have hz : (Int64.ofInt z).toInt = z := Int64.toInt_ofInt_of_le (by omega) (by omega)
  have h0 : (Int64.ofInt z > 0) = (z > 0) := propext (by
    show (0 : Int64) < Int64.ofInt z ↔ 0 < z
    rw [Int64.lt_iff_toInt_lt, hz]
    exact Iff.rfl)
  have he : (Int64.ofInt z = 0) = (z = 0) := propext ⟨fun q => by
    have := congrArg Int64.toInt q
    rw [hz] at this
    exact this, fun q => by rw [q]; rfl⟩
  have hc : lg_cmp (Int64.ofInt z) 0 = if z > 0 then 1 else if z = 0 then 0 else -1 := by
    unfold lg_cmp
    simp only [h0, he]
  refine ⟨rfl, z_go 20 [] ⟨fun q => ⟨?_, rfl⟩, fun q => ⟨?_, rfl⟩⟩⟩
  · have q : 0 ≤ lg_cmp (Int64.ofInt z) 0 := q
    rw [hc] at q
    by_cases c : z > 0
    · rw [show z = (w : Int) by omega]
    · by_cases c2 : z = 0
      · rw [show z = (w : Int) by omega]
      · rw [if_neg c, if_neg c2] at q
        exact absurd q (by decide)
  · have q : ¬ 0 ≤ lg_cmp (Int64.ofInt z) 0 := q
    rw [hc] at q
    by_cases c : z > 0
    · rw [if_pos c] at q
      exact absurd (by decide) q
    · by_cases c2 : z = 0
      · rw [if_neg c, if_pos c2] at q
        exact absurd (by decide) q
      · rw [← Int64.ofInt_neg, show -z = (w : Int) by omega]
