/-! the component's forest: grow -/
theorem i_ss (x a b : Int32) : x - a - b = x - (a + b) := by
  rw [Int32.sub_eq_add_neg, Int32.sub_eq_add_neg, Int32.sub_eq_add_neg, Int32.neg_add, Int32.sub_eq_add_neg, Int32.add_assoc]
theorem gw_le (R : Nat) (s e : Nat → Nat) : ∀ n, (gw R s e n).2.2.1 ≤ n
  | 0 => Nat.le_refl 0
  | n + 1 => by
    have ih := gw_le R s e n
    rw [gw, gstep]
    split
    · show (gw R s e n).2.2.1 + 1 ≤ n + 1
      omega
    · show (gw R s e n).2.2.1 ≤ n + 1
      omega
theorem gw_rt {R P : Nat} {s e : Nat → Nat} : ∀ {n : Nat}, (∀ i, i < n → s i < P ∧ e i < P) → ∀ {p : Nat}, p < P → (gw R s e n).1 p < P
  | 0, _, p, hp => hp
  | n + 1, h, p, hp => by
    have ih := fun {q : Nat} (hq : q < P) => gw_rt (R := R) (P := P) (s := s) (e := e) (n := n) (fun i hi => h i (by omega)) (p := q) hq
    rw [gw, gstep]
    split
    · exact ih hp
    · show (if _ then _ else _) < P
      split
      · exact ih (h n (by omega)).1
      · exact ih hp
theorem c_grow (d : Nat) {σ : z_M} {N : zN} (h : netC σ N) (hv : NV N) : ∃ σ', z_call (d + 2) k_Forest_grow [.ref 10, .ref 1] σ none σ' ∧ fr [10, 11, 12, 13] σ σ' ∧ σ'.1 10 3 = nI (gw (gR N) (gs N) (ge N) (gR N)).2.2.2.2 ∧ σ'.1 10 4 = nI (gP N) - nI (gR N - (gw (gR N) (gs N) (ge N) (gR N)).2.2.1) ∧ σ'.1 10 5 = nI (gw (gR N) (gs N) (ge N) (gR N)).2.2.1 ∧ ∀ j, j < (gw (gR N) (gs N) (ge N) (gR N)).2.2.1 → σ'.1 13 j = nI ((gw (gR N) (gs N) (ge N) (gR N)).2.2.2.1 j) := by
  obtain ⟨P, R, eP, hP, egP, eR, hR, eg, hse⟩ := hv.nat
  rw [egP, eg]
  have loop2 : ∀ (m n : Nat) (σi : z_M) (l3 l4 l5 : Option Value), n + m = R → fr [10, 11, 12, 13] σ σi → σi.1 10 3 = nI (gw R (gs N) (ge N) n).2.2.2.2 → σi.1 10 4 = nI P - nI (n - (gw R (gs N) (ge N) n).2.2.1) → σi.1 10 5 = nI (gw R (gs N) (ge N) n).2.2.1 → (∀ p, p < P → σi.1 11 p = nI ((gw R (gs N) (ge N) n).1 p) ∧ σi.1 12 p = nI ((gw R (gs N) (ge N) n).2.1 p)) → (∀ j, j < (gw R (gs N) (ge N) n).2.2.1 → σi.1 13 j = nI ((gw R (gs N) (ge N) n).2.2.2.1 j)) →
      z_wp (z_call (d + 1)) none k_Forest_grow (fun r s => r = none ∧ (fr [10, 11, 12, 13] σ s ∧ s.1 10 3 = nI (gw R (gs N) (ge N) R).2.2.2.2 ∧ s.1 10 4 = nI P - nI (R - (gw R (gs N) (ge N) R).2.2.1) ∧ s.1 10 5 = nI (gw R (gs N) (ge N) R).2.2.1 ∧ ∀ j, j < (gw R (gs N) (ge N) R).2.2.1 → s.1 13 j = nI ((gw R (gs N) (ge N) R).2.2.2.1 j))) 53 [some (.ref 10), some (.ref 1), some (.int (nI n)), l3, l4, l5] [] σi := by
    intro m
    induction m with
    | zero =>
      intro n σi l3 l4 l5 hn hf a1 a2 a3 a4 a5
      obtain rfl : n = R := by omega
      have e1 : σi.1 1 1 = nI n := by rw [hf.at (by decide), h.2.1, eR]
      refine z_go 60 [23, 53] ⟨fun q => ⟨rfl, hf, a1, a2, a3, a5⟩, fun q => ?_⟩
      rw [e1] at q
      exact absurd (Int32.le_refl _) q
    | succ m ih =>
      intro n σi l3 l4 l5 hn hf a1 a2 a3 a4 a5
      have e1 : σi.1 1 1 = nI R := by rw [hf.at (by decide), h.2.1, eR]
      have e0 : σi.1 1 0 = nI P := by rw [hf.at (by decide), h.1, eP]
      obtain ⟨es, ee, hs, he⟩ := hse n (by omega)
      have f2 : σi.1 2 n = nI (gs N n) := by rw [hf.at (by decide), (h.2.2.2 n (by omega)).1, es]
      have f3 : σi.1 3 n = nI (ge N n) := by rw [hf.at (by decide), (h.2.2.2 n (by omega)).2.1, ee]
      obtain ⟨r1, p1⟩ := a4 _ hs
      obtain ⟨r2, p2⟩ := a4 _ he
      have hse2 : ∀ i, i < n → gs N i < P ∧ ge N i < P := fun i hi => (hse i (by omega)).2.2
      have hrt := fun {q : Nat} (hq : q < P) => gw_rt (R := R) (P := P) hse2 (p := q) hq
      have hr1 := hrt hs
      have hr2 := hrt he
      have hgl := gw_le R (gs N) (ge N) n
      have hone := i_one n (by omega)
      obtain ⟨σ2, hc2, hf2, hk2, h42, hp2⟩ := c_hang d (σ := σi) (P := P) (a := (gw R (gs N) (ge N) n).1 (ge N n)) (b := (gw R (gs N) (ge N) n).1 (gs N n)) (w := gway (gs N) (ge N) (gw R (gs N) (ge N) n) n) hP (gw R (gs N) (ge N) n).1 (gw R (gs N) (ge N) n).2.1 (fun p hp => ⟨(a4 p hp).1, hrt hp⟩) (fun p hp => (a4 p hp).2) hr2
      refine z_go 120 [23, 53] ⟨fun q => ?_, fun q => ⟨by (first | exact vin (by simp only [al_2, al_3, al_4, al_5, al_7, al_11, al_12, al_13, al_15, al_16, al_17, al_19, al_20, al_21, al_22, al_23, al_24, al_25, al_26, al_28, al_30, al_31, al_32, al_33, al_34, al_36, al_41, al_42, al_43, al_44, al_49, al_50, al_51, al_52, al_54, al_55, al_56, al_57, al_58, al_59, al_60, al_61, al_62, al_63, al_64, al_65, al_66, al_67, al_68, al_69, al_70, al_71, al_72, al_73, al_74, al_75, al_76, al_77, al_78, al_79, al_80]; omega) (by simp only [al_2, al_3, al_4, al_5, al_7, al_11, al_12, al_13, al_15, al_16, al_17, al_19, al_20, al_21, al_22, al_23, al_24, al_25, al_26, al_28, al_30, al_31, al_32, al_33, al_34, al_36, al_41, al_42, al_43, al_44, al_49, al_50, al_51, al_52, al_54, al_55, al_56, al_57, al_58, al_59, al_60, al_61, al_62, al_63, al_64, al_65, al_66, al_67, al_68, al_69, al_70, al_71, al_72, al_73, al_74, al_75, al_76, al_77, al_78, al_79, al_80]; decide) | (simp (disch := omega) only [nL, nI_add, pk_mul, nc, Nat.zero_add, al_2, al_3, al_4, al_5, al_7, al_11, al_12, al_13, al_15, al_16, al_17, al_19, al_20, al_21, al_22, al_23, al_24, al_25, al_26, al_28, al_30, al_31, al_32, al_33, al_34, al_36, al_41, al_42, al_43, al_44, al_49, al_50, al_51, al_52, al_54, al_55, al_56, al_57, al_58, al_59, al_60, al_61, al_62, al_63, al_64, al_65, al_66, al_67, al_68, al_69, al_70, al_71, al_72, al_73, al_74, al_75, al_76, al_77, al_78, al_79, al_80]; exact vin (by omega) (by decide))), by (first | exact vin (by simp only [al_2, al_3, al_4, al_5, al_7, al_11, al_12, al_13, al_15, al_16, al_17, al_19, al_20, al_21, al_22, al_23, al_24, al_25, al_26, al_28, al_30, al_31, al_32, al_33, al_34, al_36, al_41, al_42, al_43, al_44, al_49, al_50, al_51, al_52, al_54, al_55, al_56, al_57, al_58, al_59, al_60, al_61, al_62, al_63, al_64, al_65, al_66, al_67, al_68, al_69, al_70, al_71, al_72, al_73, al_74, al_75, al_76, al_77, al_78, al_79, al_80]; omega) (by simp only [al_2, al_3, al_4, al_5, al_7, al_11, al_12, al_13, al_15, al_16, al_17, al_19, al_20, al_21, al_22, al_23, al_24, al_25, al_26, al_28, al_30, al_31, al_32, al_33, al_34, al_36, al_41, al_42, al_43, al_44, al_49, al_50, al_51, al_52, al_54, al_55, al_56, al_57, al_58, al_59, al_60, al_61, al_62, al_63, al_64, al_65, al_66, al_67, al_68, al_69, al_70, al_71, al_72, al_73, al_74, al_75, al_76, al_77, al_78, al_79, al_80]; decide) | (simp (disch := omega) only [nL, nI_add, pk_mul, nc, Nat.zero_add, al_2, al_3, al_4, al_5, al_7, al_11, al_12, al_13, al_15, al_16, al_17, al_19, al_20, al_21, al_22, al_23, al_24, al_25, al_26, al_28, al_30, al_31, al_32, al_33, al_34, al_36, al_41, al_42, al_43, al_44, al_49, al_50, al_51, al_52, al_54, al_55, al_56, al_57, al_58, al_59, al_60, al_61, al_62, al_63, al_64, al_65, al_66, al_67, al_68, al_69, al_70, al_71, al_72, al_73, al_74, al_75, al_76, al_77, al_78, al_79, al_80]; exact vin (by omega) (by decide))), by (rw [nc (by omega), f2]; (first | exact vin (by simp only [al_2, al_3, al_4, al_5, al_7, al_11, al_12, al_13, al_15, al_16, al_17, al_19, al_20, al_21, al_22, al_23, al_24, al_25, al_26, al_28, al_30, al_31, al_32, al_33, al_34, al_36, al_41, al_42, al_43, al_44, al_49, al_50, al_51, al_52, al_54, al_55, al_56, al_57, al_58, al_59, al_60, al_61, al_62, al_63, al_64, al_65, al_66, al_67, al_68, al_69, al_70, al_71, al_72, al_73, al_74, al_75, al_76, al_77, al_78, al_79, al_80]; omega) (by simp only [al_2, al_3, al_4, al_5, al_7, al_11, al_12, al_13, al_15, al_16, al_17, al_19, al_20, al_21, al_22, al_23, al_24, al_25, al_26, al_28, al_30, al_31, al_32, al_33, al_34, al_36, al_41, al_42, al_43, al_44, al_49, al_50, al_51, al_52, al_54, al_55, al_56, al_57, al_58, al_59, al_60, al_61, al_62, al_63, al_64, al_65, al_66, al_67, al_68, al_69, al_70, al_71, al_72, al_73, al_74, al_75, al_76, al_77, al_78, al_79, al_80]; decide) | (simp (disch := omega) only [nL, nI_add, pk_mul, nc, Nat.zero_add, al_2, al_3, al_4, al_5, al_7, al_11, al_12, al_13, al_15, al_16, al_17, al_19, al_20, al_21, al_22, al_23, al_24, al_25, al_26, al_28, al_30, al_31, al_32, al_33, al_34, al_36, al_41, al_42, al_43, al_44, al_49, al_50, al_51, al_52, al_54, al_55, al_56, al_57, al_58, al_59, al_60, al_61, al_62, al_63, al_64, al_65, al_66, al_67, al_68, al_69, al_70, al_71, al_72, al_73, al_74, al_75, al_76, al_77, al_78, al_79, al_80]; exact vin (by omega) (by decide)))), by (rw [nc (by omega), f3]; (first | exact vin (by simp only [al_2, al_3, al_4, al_5, al_7, al_11, al_12, al_13, al_15, al_16, al_17, al_19, al_20, al_21, al_22, al_23, al_24, al_25, al_26, al_28, al_30, al_31, al_32, al_33, al_34, al_36, al_41, al_42, al_43, al_44, al_49, al_50, al_51, al_52, al_54, al_55, al_56, al_57, al_58, al_59, al_60, al_61, al_62, al_63, al_64, al_65, al_66, al_67, al_68, al_69, al_70, al_71, al_72, al_73, al_74, al_75, al_76, al_77, al_78, al_79, al_80]; omega) (by simp only [al_2, al_3, al_4, al_5, al_7, al_11, al_12, al_13, al_15, al_16, al_17, al_19, al_20, al_21, al_22, al_23, al_24, al_25, al_26, al_28, al_30, al_31, al_32, al_33, al_34, al_36, al_41, al_42, al_43, al_44, al_49, al_50, al_51, al_52, al_54, al_55, al_56, al_57, al_58, al_59, al_60, al_61, al_62, al_63, al_64, al_65, al_66, al_67, al_68, al_69, al_70, al_71, al_72, al_73, al_74, al_75, al_76, al_77, al_78, al_79, al_80]; decide) | (simp (disch := omega) only [nL, nI_add, pk_mul, nc, Nat.zero_add, al_2, al_3, al_4, al_5, al_7, al_11, al_12, al_13, al_15, al_16, al_17, al_19, al_20, al_21, al_22, al_23, al_24, al_25, al_26, al_28, al_30, al_31, al_32, al_33, al_34, al_36, al_41, al_42, al_43, al_44, al_49, al_50, al_51, al_52, al_54, al_55, al_56, al_57, al_58, al_59, al_60, al_61, al_62, al_63, al_64, al_65, al_66, al_67, al_68, al_69, al_70, al_71, al_72, al_73, al_74, al_75, al_76, al_77, al_78, al_79, al_80]; exact vin (by omega) (by decide)))), by (rw [nc (by omega), f2]; (first | exact vin (by simp only [al_2, al_3, al_4, al_5, al_7, al_11, al_12, al_13, al_15, al_16, al_17, al_19, al_20, al_21, al_22, al_23, al_24, al_25, al_26, al_28, al_30, al_31, al_32, al_33, al_34, al_36, al_41, al_42, al_43, al_44, al_49, al_50, al_51, al_52, al_54, al_55, al_56, al_57, al_58, al_59, al_60, al_61, al_62, al_63, al_64, al_65, al_66, al_67, al_68, al_69, al_70, al_71, al_72, al_73, al_74, al_75, al_76, al_77, al_78, al_79, al_80]; omega) (by simp only [al_2, al_3, al_4, al_5, al_7, al_11, al_12, al_13, al_15, al_16, al_17, al_19, al_20, al_21, al_22, al_23, al_24, al_25, al_26, al_28, al_30, al_31, al_32, al_33, al_34, al_36, al_41, al_42, al_43, al_44, al_49, al_50, al_51, al_52, al_54, al_55, al_56, al_57, al_58, al_59, al_60, al_61, al_62, al_63, al_64, al_65, al_66, al_67, al_68, al_69, al_70, al_71, al_72, al_73, al_74, al_75, al_76, al_77, al_78, al_79, al_80]; decide) | (simp (disch := omega) only [nL, nI_add, pk_mul, nc, Nat.zero_add, al_2, al_3, al_4, al_5, al_7, al_11, al_12, al_13, al_15, al_16, al_17, al_19, al_20, al_21, al_22, al_23, al_24, al_25, al_26, al_28, al_30, al_31, al_32, al_33, al_34, al_36, al_41, al_42, al_43, al_44, al_49, al_50, al_51, al_52, al_54, al_55, al_56, al_57, al_58, al_59, al_60, al_61, al_62, al_63, al_64, al_65, al_66, al_67, al_68, al_69, al_70, al_71, al_72, al_73, al_74, al_75, al_76, al_77, al_78, al_79, al_80]; exact vin (by omega) (by decide)))), by (rw [nc (by omega), f3]; (first | exact vin (by simp only [al_2, al_3, al_4, al_5, al_7, al_11, al_12, al_13, al_15, al_16, al_17, al_19, al_20, al_21, al_22, al_23, al_24, al_25, al_26, al_28, al_30, al_31, al_32, al_33, al_34, al_36, al_41, al_42, al_43, al_44, al_49, al_50, al_51, al_52, al_54, al_55, al_56, al_57, al_58, al_59, al_60, al_61, al_62, al_63, al_64, al_65, al_66, al_67, al_68, al_69, al_70, al_71, al_72, al_73, al_74, al_75, al_76, al_77, al_78, al_79, al_80]; omega) (by simp only [al_2, al_3, al_4, al_5, al_7, al_11, al_12, al_13, al_15, al_16, al_17, al_19, al_20, al_21, al_22, al_23, al_24, al_25, al_26, al_28, al_30, al_31, al_32, al_33, al_34, al_36, al_41, al_42, al_43, al_44, al_49, al_50, al_51, al_52, al_54, al_55, al_56, al_57, al_58, al_59, al_60, al_61, al_62, al_63, al_64, al_65, al_66, al_67, al_68, al_69, al_70, al_71, al_72, al_73, al_74, al_75, al_76, al_77, al_78, al_79, al_80]; decide) | (simp (disch := omega) only [nL, nI_add, pk_mul, nc, Nat.zero_add, al_2, al_3, al_4, al_5, al_7, al_11, al_12, al_13, al_15, al_16, al_17, al_19, al_20, al_21, al_22, al_23, al_24, al_25, al_26, al_28, al_30, al_31, al_32, al_33, al_34, al_36, al_41, al_42, al_43, al_44, al_49, al_50, al_51, al_52, al_54, al_55, al_56, al_57, al_58, al_59, al_60, al_61, al_62, al_63, al_64, al_65, al_66, al_67, al_68, al_69, al_70, al_71, al_72, al_73, al_74, al_75, al_76, al_77, al_78, al_79, al_80]; exact vin (by omega) (by decide)))), fun q2 => ⟨by (rw [nc (by omega), f3]; (first | exact vin (by simp only [al_2, al_3, al_4, al_5, al_7, al_11, al_12, al_13, al_15, al_16, al_17, al_19, al_20, al_21, al_22, al_23, al_24, al_25, al_26, al_28, al_30, al_31, al_32, al_33, al_34, al_36, al_41, al_42, al_43, al_44, al_49, al_50, al_51, al_52, al_54, al_55, al_56, al_57, al_58, al_59, al_60, al_61, al_62, al_63, al_64, al_65, al_66, al_67, al_68, al_69, al_70, al_71, al_72, al_73, al_74, al_75, al_76, al_77, al_78, al_79, al_80]; omega) (by simp only [al_2, al_3, al_4, al_5, al_7, al_11, al_12, al_13, al_15, al_16, al_17, al_19, al_20, al_21, al_22, al_23, al_24, al_25, al_26, al_28, al_30, al_31, al_32, al_33, al_34, al_36, al_41, al_42, al_43, al_44, al_49, al_50, al_51, al_52, al_54, al_55, al_56, al_57, al_58, al_59, al_60, al_61, al_62, al_63, al_64, al_65, al_66, al_67, al_68, al_69, al_70, al_71, al_72, al_73, al_74, al_75, al_76, al_77, al_78, al_79, al_80]; decide) | (simp (disch := omega) only [nL, nI_add, pk_mul, nc, Nat.zero_add, al_2, al_3, al_4, al_5, al_7, al_11, al_12, al_13, al_15, al_16, al_17, al_19, al_20, al_21, al_22, al_23, al_24, al_25, al_26, al_28, al_30, al_31, al_32, al_33, al_34, al_36, al_41, al_42, al_43, al_44, al_49, al_50, al_51, al_52, al_54, al_55, al_56, al_57, al_58, al_59, al_60, al_61, al_62, al_63, al_64, al_65, al_66, al_67, al_68, al_69, al_70, al_71, al_72, al_73, al_74, al_75, al_76, al_77, al_78, al_79, al_80]; exact vin (by omega) (by decide)))), by (rw [nc (by omega), f2]; (first | exact vin (by simp only [al_2, al_3, al_4, al_5, al_7, al_11, al_12, al_13, al_15, al_16, al_17, al_19, al_20, al_21, al_22, al_23, al_24, al_25, al_26, al_28, al_30, al_31, al_32, al_33, al_34, al_36, al_41, al_42, al_43, al_44, al_49, al_50, al_51, al_52, al_54, al_55, al_56, al_57, al_58, al_59, al_60, al_61, al_62, al_63, al_64, al_65, al_66, al_67, al_68, al_69, al_70, al_71, al_72, al_73, al_74, al_75, al_76, al_77, al_78, al_79, al_80]; omega) (by simp only [al_2, al_3, al_4, al_5, al_7, al_11, al_12, al_13, al_15, al_16, al_17, al_19, al_20, al_21, al_22, al_23, al_24, al_25, al_26, al_28, al_30, al_31, al_32, al_33, al_34, al_36, al_41, al_42, al_43, al_44, al_49, al_50, al_51, al_52, al_54, al_55, al_56, al_57, al_58, al_59, al_60, al_61, al_62, al_63, al_64, al_65, al_66, al_67, al_68, al_69, al_70, al_71, al_72, al_73, al_74, al_75, al_76, al_77, al_78, al_79, al_80]; decide) | (simp (disch := omega) only [nL, nI_add, pk_mul, nc, Nat.zero_add, al_2, al_3, al_4, al_5, al_7, al_11, al_12, al_13, al_15, al_16, al_17, al_19, al_20, al_21, al_22, al_23, al_24, al_25, al_26, al_28, al_30, al_31, al_32, al_33, al_34, al_36, al_41, al_42, al_43, al_44, al_49, al_50, al_51, al_52, al_54, al_55, al_56, al_57, al_58, al_59, al_60, al_61, al_62, al_63, al_64, al_65, al_66, al_67, al_68, al_69, al_70, al_71, al_72, al_73, al_74, al_75, al_76, al_77, al_78, al_79, al_80]; exact vin (by omega) (by decide)))), σ2, (by simp (disch := omega) only [nc, f2, f3, r1, r2, p1, p2, hone, i_xor, e0]; exact hc2), ?_⟩, fun q2 => ⟨by (rw [a3]; (first | exact vin (by simp only [al_2, al_3, al_4, al_5, al_7, al_11, al_12, al_13, al_15, al_16, al_17, al_19, al_20, al_21, al_22, al_23, al_24, al_25, al_26, al_28, al_30, al_31, al_32, al_33, al_34, al_36, al_41, al_42, al_43, al_44, al_49, al_50, al_51, al_52, al_54, al_55, al_56, al_57, al_58, al_59, al_60, al_61, al_62, al_63, al_64, al_65, al_66, al_67, al_68, al_69, al_70, al_71, al_72, al_73, al_74, al_75, al_76, al_77, al_78, al_79, al_80]; omega) (by simp only [al_2, al_3, al_4, al_5, al_7, al_11, al_12, al_13, al_15, al_16, al_17, al_19, al_20, al_21, al_22, al_23, al_24, al_25, al_26, al_28, al_30, al_31, al_32, al_33, al_34, al_36, al_41, al_42, al_43, al_44, al_49, al_50, al_51, al_52, al_54, al_55, al_56, al_57, al_58, al_59, al_60, al_61, al_62, al_63, al_64, al_65, al_66, al_67, al_68, al_69, al_70, al_71, al_72, al_73, al_74, al_75, al_76, al_77, al_78, al_79, al_80]; decide) | (simp (disch := omega) only [nL, nI_add, pk_mul, nc, Nat.zero_add, al_2, al_3, al_4, al_5, al_7, al_11, al_12, al_13, al_15, al_16, al_17, al_19, al_20, al_21, al_22, al_23, al_24, al_25, al_26, al_28, al_30, al_31, al_32, al_33, al_34, al_36, al_41, al_42, al_43, al_44, al_49, al_50, al_51, al_52, al_54, al_55, al_56, al_57, al_58, al_59, al_60, al_61, al_62, al_63, al_64, al_65, al_66, al_67, al_68, al_69, al_70, al_71, al_72, al_73, al_74, al_75, al_76, al_77, al_78, al_79, al_80]; exact vin (by omega) (by decide)))), ?_⟩⟩⟩
      · rw [e1] at q
        simp (disch := omega) only [nL, nI_add, pk_mul, n_le, n_lt, n_eq] at q
        omega
      · show z_wp _ _ _ _ 53 _ _ _
        simp (disch := omega) only [nc, f2, f3, r1, r2, n_eq] at q2
        have eg2 : gw R (gs N) (ge N) (n + 1) = ((fun p => if (gw R (gs N) (ge N) n).1 p = (gw R (gs N) (ge N) n).1 (ge N n) then (gw R (gs N) (ge N) n).1 (gs N n) else (gw R (gs N) (ge N) n).1 p), (fun p => if (gw R (gs N) (ge N) n).1 p = (gw R (gs N) (ge N) n).1 (ge N n) then (gw R (gs N) (ge N) n).2.1 p ^^^ gway (gs N) (ge N) (gw R (gs N) (ge N) n) n else (gw R (gs N) (ge N) n).2.1 p), (gw R (gs N) (ge N) n).2.2) := by rw [gw, gstep, if_neg q2]
        rw [show nI n + 1 = nI (n + 1) from nI_add n 1]
        refine ih (n + 1) σ2 _ _ _ (by omega) (fr.tr hf (hf2.wk _ (by decide))) ?_ ?_ ?_ ?_ ?_
        · rw [eg2, hk2 3 (by decide)]
          exact a1
        · rw [eg2, h42, a2, i_ss, show nI (n - (gw R (gs N) (ge N) n).2.2.1) + 1 = nI (n - (gw R (gs N) (ge N) n).2.2.1 + 1) from nI_add _ 1, show n - (gw R (gs N) (ge N) n).2.2.1 + 1 = n + 1 - (gw R (gs N) (ge N) n).2.2.1 by omega]
        · rw [eg2, hk2 5 (by decide)]
          exact a3
        · rw [eg2]
          exact hp2
        · rw [eg2]
          intro j hj
          rw [hf2.at (by decide)]
          exact a5 j hj
      · show z_wp _ _ _ _ 53 _ _ _
        simp (disch := omega) only [nc, f2, f3, r1, r2, n_eq] at q2
        have eg2 : gw R (gs N) (ge N) (n + 1) = ((gw R (gs N) (ge N) n).1, (gw R (gs N) (ge N) n).2.1, (gw R (gs N) (ge N) n).2.2.1 + 1, (fun j => if j = (gw R (gs N) (ge N) n).2.2.1 then gway (gs N) (ge N) (gw R (gs N) (ge N) n) n else (gw R (gs N) (ge N) n).2.2.2.1 j), clr (gw R (gs N) (ge N) n).2.2.2.2 (gway (gs N) (ge N) (gw R (gs N) (ge N) n) n)) := by rw [gw, gstep, if_pos q2]
        rw [show nI n + 1 = nI (n + 1) from nI_add n 1]
        simp (disch := omega) only [nc, f2, f3, p1, p2, hone, i_xor, a3, a1, wr_c, wr_k, i_clr]
        refine ih (n + 1) _ _ _ _ (by omega) (fr.wr (fr.wr (fr.wr hf (by decide)) (by decide)) (by decide)) ?_ ?_ ?_ ?_ ?_
        · rw [eg2, wr_s]
          rfl
        · rw [eg2, wr_k (by decide), wr_k (by decide), wr_c (by decide), a2, show n + 1 - ((gw R (gs N) (ge N) n).2.2.1 + 1) = n - (gw R (gs N) (ge N) n).2.2.1 by omega]
        · rw [eg2, wr_k (by decide), wr_s]
          exact nI_add _ 1
        · rw [eg2]
          intro p hp
          rw [wr_c (by decide), wr_c (by decide), wr_c (by decide), wr_c (by decide), wr_c (by decide), wr_c (by decide)]
          exact a4 p hp
        · rw [eg2]
          intro j hj
          have hj : j < (gw R (gs N) (ge N) n).2.2.1 + 1 := hj
          rw [wr_c (by decide), wr_c (by decide)]
          by_cases e : j = (gw R (gs N) (ge N) n).2.2.1
          · rw [e, wr_s]
            show _ = nI (if _ then _ else _)
            rw [if_pos rfl]
            rfl
          · rw [wr_k e]
            show _ = nI (if _ then _ else _)
            rw [if_neg e]
            exact a5 j (by omega)
  have loop1 : ∀ (m n : Nat) (σi : z_M), n + m = P → fr [10, 11, 12, 13] σ σi → σi.1 10 3 = nI (2 ^ R - 1) → σi.1 10 4 = nI P → σi.1 10 5 = 0 → (∀ p, p < n → σi.1 11 p = nI p ∧ σi.1 12 p = 0) →
      z_wp (z_call (d + 1)) none k_Forest_grow (fun r s => r = none ∧ (fr [10, 11, 12, 13] σ s ∧ s.1 10 3 = nI (gw R (gs N) (ge N) R).2.2.2.2 ∧ s.1 10 4 = nI P - nI (R - (gw R (gs N) (ge N) R).2.2.1) ∧ s.1 10 5 = nI (gw R (gs N) (ge N) R).2.2.1 ∧ ∀ j, j < (gw R (gs N) (ge N) R).2.2.1 → s.1 13 j = nI ((gw R (gs N) (ge N) R).2.2.2.1 j))) 23 [some (.ref 10), some (.ref 1), some (.int (nI n)), none, none, none] [] σi := by
    intro m
    induction m with
    | zero =>
      intro n σi hn hf a1 a2 a3 a4
      obtain rfl : n = P := by omega
      have e0 : σi.1 1 0 = nI n := by rw [hf.at (by decide), h.1, eP]
      refine z_go 60 [23, 53] ⟨fun q => ?_, fun q => ?_⟩
      · refine loop2 R 0 σi _ _ _ (by omega) hf a1 ?_ a3 a4 (fun j hj => absurd hj (Nat.not_lt_zero j))
        rw [a2]
        exact (Int32.sub_zero _).symm
      · rw [e0] at q
        exact absurd (Int32.le_refl _) q
    | succ m ih =>
      intro n σi hn hf a1 a2 a3 a4
      have e0 : σi.1 1 0 = nI P := by rw [hf.at (by decide), h.1, eP]
      refine z_go 60 [23, 53] ⟨fun q => ?_, fun q => ⟨by (first | exact vin (by simp only [al_2, al_3, al_4, al_5, al_7, al_11, al_12, al_13, al_15, al_16, al_17, al_19, al_20, al_21, al_22, al_23, al_24, al_25, al_26, al_28, al_30, al_31, al_32, al_33, al_34, al_36, al_41, al_42, al_43, al_44, al_49, al_50, al_51, al_52, al_54, al_55, al_56, al_57, al_58, al_59, al_60, al_61, al_62, al_63, al_64, al_65, al_66, al_67, al_68, al_69, al_70, al_71, al_72, al_73, al_74, al_75, al_76, al_77, al_78, al_79, al_80]; omega) (by simp only [al_2, al_3, al_4, al_5, al_7, al_11, al_12, al_13, al_15, al_16, al_17, al_19, al_20, al_21, al_22, al_23, al_24, al_25, al_26, al_28, al_30, al_31, al_32, al_33, al_34, al_36, al_41, al_42, al_43, al_44, al_49, al_50, al_51, al_52, al_54, al_55, al_56, al_57, al_58, al_59, al_60, al_61, al_62, al_63, al_64, al_65, al_66, al_67, al_68, al_69, al_70, al_71, al_72, al_73, al_74, al_75, al_76, al_77, al_78, al_79, al_80]; decide) | (simp (disch := omega) only [nL, nI_add, pk_mul, nc, Nat.zero_add, al_2, al_3, al_4, al_5, al_7, al_11, al_12, al_13, al_15, al_16, al_17, al_19, al_20, al_21, al_22, al_23, al_24, al_25, al_26, al_28, al_30, al_31, al_32, al_33, al_34, al_36, al_41, al_42, al_43, al_44, al_49, al_50, al_51, al_52, al_54, al_55, al_56, al_57, al_58, al_59, al_60, al_61, al_62, al_63, al_64, al_65, al_66, al_67, al_68, al_69, al_70, al_71, al_72, al_73, al_74, al_75, al_76, al_77, al_78, al_79, al_80]; exact vin (by omega) (by decide))), by (first | exact vin (by simp only [al_2, al_3, al_4, al_5, al_7, al_11, al_12, al_13, al_15, al_16, al_17, al_19, al_20, al_21, al_22, al_23, al_24, al_25, al_26, al_28, al_30, al_31, al_32, al_33, al_34, al_36, al_41, al_42, al_43, al_44, al_49, al_50, al_51, al_52, al_54, al_55, al_56, al_57, al_58, al_59, al_60, al_61, al_62, al_63, al_64, al_65, al_66, al_67, al_68, al_69, al_70, al_71, al_72, al_73, al_74, al_75, al_76, al_77, al_78, al_79, al_80]; omega) (by simp only [al_2, al_3, al_4, al_5, al_7, al_11, al_12, al_13, al_15, al_16, al_17, al_19, al_20, al_21, al_22, al_23, al_24, al_25, al_26, al_28, al_30, al_31, al_32, al_33, al_34, al_36, al_41, al_42, al_43, al_44, al_49, al_50, al_51, al_52, al_54, al_55, al_56, al_57, al_58, al_59, al_60, al_61, al_62, al_63, al_64, al_65, al_66, al_67, al_68, al_69, al_70, al_71, al_72, al_73, al_74, al_75, al_76, al_77, al_78, al_79, al_80]; decide) | (simp (disch := omega) only [nL, nI_add, pk_mul, nc, Nat.zero_add, al_2, al_3, al_4, al_5, al_7, al_11, al_12, al_13, al_15, al_16, al_17, al_19, al_20, al_21, al_22, al_23, al_24, al_25, al_26, al_28, al_30, al_31, al_32, al_33, al_34, al_36, al_41, al_42, al_43, al_44, al_49, al_50, al_51, al_52, al_54, al_55, al_56, al_57, al_58, al_59, al_60, al_61, al_62, al_63, al_64, al_65, al_66, al_67, al_68, al_69, al_70, al_71, al_72, al_73, al_74, al_75, al_76, al_77, al_78, al_79, al_80]; exact vin (by omega) (by decide))), ?_⟩⟩
      · rw [e0] at q
        simp (disch := omega) only [nL, nI_add, pk_mul, n_le, n_lt, n_eq] at q
        omega
      · show z_wp _ _ _ _ 23 _ _ _
        rw [show nI n + 1 = nI (n + 1) from nI_add n 1, nc (by omega)]
        refine ih (n + 1) _ (by omega) (fr.wr (fr.wr hf (by decide)) (by decide)) (by rw [wr_c (by decide), wr_c (by decide)]; exact a1) (by rw [wr_c (by decide), wr_c (by decide)]; exact a2) (by rw [wr_c (by decide), wr_c (by decide)]; exact a3) (fun p hp => ?_)
        by_cases e : p = n
        · subst e
          rw [wr_c (by decide), wr_s, wr_s]
          exact ⟨rfl, rfl⟩
        · rw [wr_c (by decide), wr_k e, wr_k e, wr_c (by decide)]
          exact a4 p (by omega)
  refine z_metV ⟨rfl, z_go 60 [23, 53] ⟨_, _, c_allRoads d (R := R) (by rw [wr_c (by decide), wr_c (by decide), h.2.1, eR]) hR, ?_⟩⟩
  refine loop1 P 0 _ (by omega) (by (repeat (first | exact fr.rf | refine fr.cp ?_ (by decide) | refine fr.wr ?_ (by decide) | refine fr.wl ?_ (by decide)))) wr_s ?_ ?_ (fun p hp => absurd hp (Nat.not_lt_zero p))
  · rw [wr_k (by decide), wr_k (by decide), wr_s, h.1, eP]
  · rw [wr_k (by decide), wr_s]
