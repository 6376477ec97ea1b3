/-! twice -/
/-- can r sets more, from the k-th on, be taken, so that each road comes to be in just two -/
def cvs (f : Nat → Nat) (n all : Nat) : Nat → Nat → Nat → Nat → Prop
  | 0, _, w, _ => w = all
  | r + 1, o, w, k0 => ∃ k, k0 ≤ k ∧ k < n ∧ f k &&& w = 0 ∧ cvs f n all r (clr (o ||| f k) (w ||| (f k &&& o))) (w ||| (f k &&& o)) k
def lvl (σ σ' : z_M) (D : Nat) : Prop := fr [78, 79, 80] σ σ' ∧ ∀ i, i < D → σ'.1 78 i = σ.1 78 i ∧ σ'.1 79 i = σ.1 79 i ∧ σ'.1 80 i = σ.1 80 i
theorem clr_lt {a b R : Nat} (h : a < 2 ^ R) : clr a b < 2 ^ R := lt_pow (fun k hk => by
  rw [clr_bit, Nat.testBit_lt_two_pow (Nat.lt_of_lt_of_le h (Nat.pow_le_pow_right (by omega) hk))]
  rfl)
theorem c_coversBy (d : Nat) {σ : z_M} {N : zN} (h : netD σ N) (hv : NV N) {n many : Nat} {f : Nat → Nat} (hn : n ≤ 1024) (hm : many < 20) (hf : ∀ c, c < n → f c < 2 ^ gR N) (he : ∀ c, c < n → σ.1 77 c = nI (f c)) : ∃ σ', z_call (d + 2) k_Md_coversBy [.ref 53, .int (nI many), .int (nI n)] σ (some (.int (nI (pb (cvs f n (2 ^ gR N - 1) many 0 0 1))))) σ' ∧ fr [78, 79, 80] σ σ' := by
  obtain ⟨P, R, eP, hP, egP, eR, hR, eg, hse⟩ := hv.nat
  rw [eg] at hf ⊢
  have h10 : 2 ^ R ≤ 2 ^ 10 := Nat.pow_le_pow_right (by omega) hR
  have hpos : 0 < 2 ^ R := Nat.pow_pos (by omega)
  have srch : ∀ (r D t o w : Nat) (σi : z_M) (l4 : Option Value), D + r = many → t ≤ n → o < 2 ^ R → w < 2 ^ R → fr [78, 79, 80] σ σi → σi.1 78 D = nI t → σi.1 79 D = nI o → σi.1 80 D = nI w →
      (cvs f n (2 ^ R - 1) r o w (t + 1) → cvs f n (2 ^ R - 1) many 0 0 1) →
      (¬ cvs f n (2 ^ R - 1) r o w (t + 1) → ∀ (σ2 : z_M) (l4 : Option Value), lvl σi σ2 D → z_wp (z_call (d + 1)) none k_Md_coversBy (fun r s => r = some (.int (nI (pb (cvs f n (2 ^ R - 1) many 0 0 1)))) ∧ fr [78, 79, 80] σ s) 23 [some (.ref 53), some (.int (nI many)), some (.int (nI n)), some (.int (nI D + -1)), l4] [] σ2) →
      z_wp (z_call (d + 1)) none k_Md_coversBy (fun r s => r = some (.int (nI (pb (cvs f n (2 ^ R - 1) many 0 0 1)))) ∧ fr [78, 79, 80] σ s) 23 [some (.ref 53), some (.int (nI many)), some (.int (nI n)), some (.int (nI D)), l4] [] σi := by
    intro r
    induction r with
    | zero =>
      intro D t o w σi l4 hD ht ho hw hfr a1 a2 a3 hT K
      obtain rfl : D = many := by omega
      have e1 : σi.1 53 1 = nI R := by rw [hfr.at (by decide), h.2.1, eR]
      refine z_go 40 [23] ⟨fun q => absurd q (n_nn (by omega)), fun q => ⟨fun q2 => absurd rfl q2, fun q2 => ⟨by (first | exact vin (by simp only [al_2, al_3, al_4, al_5, al_7, al_11, al_12, al_13, al_15, al_16, al_17, al_19, al_20, al_21, al_22, al_23, al_24, al_25, al_26, al_28, al_30, al_31, al_32, al_33, al_34, al_36, al_41, al_42, al_43, al_44, al_49, al_50, al_51, al_52, al_54, al_55, al_56, al_57, al_58, al_59, al_60, al_61, al_62, al_63, al_64, al_65, al_66, al_67, al_68, al_69, al_70, al_71, al_72, al_73, al_74, al_75, al_76, al_77, al_78, al_79, al_80]; omega) (by simp only [al_2, al_3, al_4, al_5, al_7, al_11, al_12, al_13, al_15, al_16, al_17, al_19, al_20, al_21, al_22, al_23, al_24, al_25, al_26, al_28, al_30, al_31, al_32, al_33, al_34, al_36, al_41, al_42, al_43, al_44, al_49, al_50, al_51, al_52, al_54, al_55, al_56, al_57, al_58, al_59, al_60, al_61, al_62, al_63, al_64, al_65, al_66, al_67, al_68, al_69, al_70, al_71, al_72, al_73, al_74, al_75, al_76, al_77, al_78, al_79, al_80]; decide) | (simp (disch := omega) only [nL, nI_add, pk_mul, nc, Nat.zero_add, al_2, al_3, al_4, al_5, al_7, al_11, al_12, al_13, al_15, al_16, al_17, al_19, al_20, al_21, al_22, al_23, al_24, al_25, al_26, al_28, al_30, al_31, al_32, al_33, al_34, al_36, al_41, al_42, al_43, al_44, al_49, al_50, al_51, al_52, al_54, al_55, al_56, al_57, al_58, al_59, al_60, al_61, al_62, al_63, al_64, al_65, al_66, al_67, al_68, al_69, al_70, al_71, al_72, al_73, al_74, al_75, al_76, al_77, al_78, al_79, al_80]; exact vin (by omega) (by decide))), _, _, c_all d e1 hR, fun q3 => ?_, fun q3 => ⟨Or.inr rfl, ?_, hfr⟩⟩⟩⟩
      · show z_wp _ _ _ _ 23 _ _ _
        rw [nc (by omega), a3, n_eq (by omega) (by omega)] at q3
        exact K q3 σi _ ⟨fr.rf, fun i _ => ⟨rfl, rfl, rfl⟩⟩
      · rw [nc (by omega), a3, n_eq (by omega) (by omega)] at q3
        rw [pb_t (hT q3)]
        rfl
    | succ r ih =>
      intro D
      have inner : ∀ (m t o w : Nat) (σi : z_M) (l4 : Option Value), D + (r + 1) = many → t + m = n → o < 2 ^ R → w < 2 ^ R → fr [78, 79, 80] σ σi → σi.1 78 D = nI t → σi.1 79 D = nI o → σi.1 80 D = nI w →
          (cvs f n (2 ^ R - 1) (r + 1) o w (t + 1) → cvs f n (2 ^ R - 1) many 0 0 1) →
          (¬ cvs f n (2 ^ R - 1) (r + 1) o w (t + 1) → ∀ (σ2 : z_M) (l4 : Option Value), lvl σi σ2 D → z_wp (z_call (d + 1)) none k_Md_coversBy (fun r s => r = some (.int (nI (pb (cvs f n (2 ^ R - 1) many 0 0 1)))) ∧ fr [78, 79, 80] σ s) 23 [some (.ref 53), some (.int (nI many)), some (.int (nI n)), some (.int (nI D + -1)), l4] [] σ2) →
          z_wp (z_call (d + 1)) none k_Md_coversBy (fun r s => r = some (.int (nI (pb (cvs f n (2 ^ R - 1) many 0 0 1)))) ∧ fr [78, 79, 80] σ s) 23 [some (.ref 53), some (.int (nI many)), some (.int (nI n)), some (.int (nI D)), l4] [] σi := by
        intro m
        induction m with
        | zero =>
          intro t o w σi l4 hD ht ho hw hfr a1 a2 a3 hT K
          obtain rfl : t = n := by omega
          refine z_go 60 [23] ⟨fun q => absurd q (n_nn (by omega)), fun q => ⟨fun q2 => ⟨by (first | exact vin (by simp only [al_2, al_3, al_4, al_5, al_7, al_11, al_12, al_13, al_15, al_16, al_17, al_19, al_20, al_21, al_22, al_23, al_24, al_25, al_26, al_28, al_30, al_31, al_32, al_33, al_34, al_36, al_41, al_42, al_43, al_44, al_49, al_50, al_51, al_52, al_54, al_55, al_56, al_57, al_58, al_59, al_60, al_61, al_62, al_63, al_64, al_65, al_66, al_67, al_68, al_69, al_70, al_71, al_72, al_73, al_74, al_75, al_76, al_77, al_78, al_79, al_80]; omega) (by simp only [al_2, al_3, al_4, al_5, al_7, al_11, al_12, al_13, al_15, al_16, al_17, al_19, al_20, al_21, al_22, al_23, al_24, al_25, al_26, al_28, al_30, al_31, al_32, al_33, al_34, al_36, al_41, al_42, al_43, al_44, al_49, al_50, al_51, al_52, al_54, al_55, al_56, al_57, al_58, al_59, al_60, al_61, al_62, al_63, al_64, al_65, al_66, al_67, al_68, al_69, al_70, al_71, al_72, al_73, al_74, al_75, al_76, al_77, al_78, al_79, al_80]; decide) | (simp (disch := omega) only [nL, nI_add, pk_mul, nc, Nat.zero_add, al_2, al_3, al_4, al_5, al_7, al_11, al_12, al_13, al_15, al_16, al_17, al_19, al_20, al_21, al_22, al_23, al_24, al_25, al_26, al_28, al_30, al_31, al_32, al_33, al_34, al_36, al_41, al_42, al_43, al_44, al_49, al_50, al_51, al_52, al_54, al_55, al_56, al_57, al_58, al_59, al_60, al_61, al_62, al_63, al_64, al_65, al_66, al_67, al_68, al_69, al_70, al_71, al_72, al_73, al_74, al_75, al_76, al_77, al_78, al_79, al_80]; exact vin (by omega) (by decide))), by (first | exact vin (by simp only [al_2, al_3, al_4, al_5, al_7, al_11, al_12, al_13, al_15, al_16, al_17, al_19, al_20, al_21, al_22, al_23, al_24, al_25, al_26, al_28, al_30, al_31, al_32, al_33, al_34, al_36, al_41, al_42, al_43, al_44, al_49, al_50, al_51, al_52, al_54, al_55, al_56, al_57, al_58, al_59, al_60, al_61, al_62, al_63, al_64, al_65, al_66, al_67, al_68, al_69, al_70, al_71, al_72, al_73, al_74, al_75, al_76, al_77, al_78, al_79, al_80]; omega) (by simp only [al_2, al_3, al_4, al_5, al_7, al_11, al_12, al_13, al_15, al_16, al_17, al_19, al_20, al_21, al_22, al_23, al_24, al_25, al_26, al_28, al_30, al_31, al_32, al_33, al_34, al_36, al_41, al_42, al_43, al_44, al_49, al_50, al_51, al_52, al_54, al_55, al_56, al_57, al_58, al_59, al_60, al_61, al_62, al_63, al_64, al_65, al_66, al_67, al_68, al_69, al_70, al_71, al_72, al_73, al_74, al_75, al_76, al_77, al_78, al_79, al_80]; decide) | (simp (disch := omega) only [nL, nI_add, pk_mul, nc, Nat.zero_add, al_2, al_3, al_4, al_5, al_7, al_11, al_12, al_13, al_15, al_16, al_17, al_19, al_20, al_21, al_22, al_23, al_24, al_25, al_26, al_28, al_30, al_31, al_32, al_33, al_34, al_36, al_41, al_42, al_43, al_44, al_49, al_50, al_51, al_52, al_54, al_55, al_56, al_57, al_58, al_59, al_60, al_61, al_62, al_63, al_64, al_65, al_66, al_67, al_68, al_69, al_70, al_71, al_72, al_73, al_74, al_75, al_76, al_77, al_78, al_79, al_80]; exact vin (by omega) (by decide))), by (first | exact vin (by simp only [al_2, al_3, al_4, al_5, al_7, al_11, al_12, al_13, al_15, al_16, al_17, al_19, al_20, al_21, al_22, al_23, al_24, al_25, al_26, al_28, al_30, al_31, al_32, al_33, al_34, al_36, al_41, al_42, al_43, al_44, al_49, al_50, al_51, al_52, al_54, al_55, al_56, al_57, al_58, al_59, al_60, al_61, al_62, al_63, al_64, al_65, al_66, al_67, al_68, al_69, al_70, al_71, al_72, al_73, al_74, al_75, al_76, al_77, al_78, al_79, al_80]; omega) (by simp only [al_2, al_3, al_4, al_5, al_7, al_11, al_12, al_13, al_15, al_16, al_17, al_19, al_20, al_21, al_22, al_23, al_24, al_25, al_26, al_28, al_30, al_31, al_32, al_33, al_34, al_36, al_41, al_42, al_43, al_44, al_49, al_50, al_51, al_52, al_54, al_55, al_56, al_57, al_58, al_59, al_60, al_61, al_62, al_63, al_64, al_65, al_66, al_67, al_68, al_69, al_70, al_71, al_72, al_73, al_74, al_75, al_76, al_77, al_78, al_79, al_80]; decide) | (simp (disch := omega) only [nL, nI_add, pk_mul, nc, Nat.zero_add, al_2, al_3, al_4, al_5, al_7, al_11, al_12, al_13, al_15, al_16, al_17, al_19, al_20, al_21, al_22, al_23, al_24, al_25, al_26, al_28, al_30, al_31, al_32, al_33, al_34, al_36, al_41, al_42, al_43, al_44, al_49, al_50, al_51, al_52, al_54, al_55, al_56, al_57, al_58, al_59, al_60, al_61, al_62, al_63, al_64, al_65, al_66, al_67, al_68, al_69, al_70, al_71, al_72, al_73, al_74, al_75, al_76, al_77, al_78, al_79, al_80]; exact vin (by omega) (by decide))), fun q3 => ?_, fun q3 => ?_⟩, fun q2 => ?_⟩⟩
          · rw [nc (by omega), wr_s, a1] at q3
            have q3 : nI t + nI 1 < nI t := q3
            rw [nI_add, n_lt (by omega) (by omega)] at q3
            omega
          · show z_wp _ _ _ _ 23 _ _ _
            refine K (fun ⟨k, k1, k2, _⟩ => by omega) _ _ ⟨fr.wr fr.rf (by decide), fun i hi => ?_⟩
            rw [nc (by omega), wr_k (by omega), wr_c (by decide), wr_c (by decide)]
            exact ⟨rfl, rfl, rfl⟩
          · rw [n_eq (by omega) (by omega)] at q2
            omega
        | succ m ihm =>
          intro t o w σi l4 hD ht ho hw hfr a1 a2 a3 hT K
          have hfk := hf (t + 1) 
          by_cases ct : t + 1 < n
          · have hfk := hfk ct
            have hek : ∀ s : z_M, fr [78, 79, 80] σ s → s.1 77 (t + 1) = nI (f (t + 1)) := fun s hs => by rw [hs.at (by decide)]; exact he _ ct
            have ea : f (t + 1) &&& w < 2 ^ R := Nat.and_lt_two_pow _ hw
            have hfr1 : fr [78, 79, 80] σ (z_wr σi 78 D (nI (t + 1))) := fr.wr hfr (by decide)
            -- the next candidate
            have next : ¬ (f (t + 1) &&& w = 0 ∧ cvs f n (2 ^ R - 1) r (clr (o ||| f (t + 1)) (w ||| (f (t + 1) &&& o))) (w ||| (f (t + 1) &&& o)) (t + 1)) → ∀ (σ3 : z_M) (l4 : Option Value), lvl σi σ3 D → σ3.1 78 D = nI (t + 1) → σ3.1 79 D = nI o → σ3.1 80 D = nI w →
                z_wp (z_call (d + 1)) none k_Md_coversBy (fun r s => r = some (.int (nI (pb (cvs f n (2 ^ R - 1) many 0 0 1)))) ∧ fr [78, 79, 80] σ s) 23 [some (.ref 53), some (.int (nI many)), some (.int (nI n)), some (.int (nI D)), l4] [] σ3 := by
              intro hno σ3 l4 hl b1 b2 b3
              refine ihm (t + 1) o w σ3 l4 hD (by omega) ho hw (hfr.tr hl.1) b1 b2 b3 (fun ⟨k, k1, k2, k3⟩ => hT ⟨k, by omega, k2, k3⟩) (fun hk σ4 l4 hl4 => ?_)
              refine K (fun ⟨k, k1, k2, k3⟩ => ?_) σ4 l4 ⟨hl.1.tr hl4.1, fun i hi => ?_⟩
              · by_cases c : k = t + 1
                · subst c
                  exact hno k3
                · exact hk ⟨k, by omega, k2, k3⟩
              · obtain ⟨y1, y2, y3⟩ := hl4.2 i hi
                obtain ⟨z1, z2, z3⟩ := hl.2 i hi
                exact ⟨y1.trans z1, y2.trans z2, y3.trans z3⟩
            have lv1 : lvl σi (z_wr σi 78 D (nI (t + 1))) D := ⟨fr.wr fr.rf (by decide), fun i hi => by
              rw [wr_k (by omega), wr_c (by decide), wr_c (by decide)]
              exact ⟨rfl, rfl, rfl⟩⟩
            have es : σi.1 78 D + 1 = nI (t + 1) := by
              rw [a1]
              exact nI_add t 1
            have ho' : clr (o ||| f (t + 1)) (w ||| (f (t + 1) &&& o)) < 2 ^ R := clr_lt (Nat.or_lt_two_pow ho hfk)
            have hw' : w ||| (f (t + 1) &&& o) < 2 ^ R := Nat.or_lt_two_pow hw (Nat.and_lt_two_pow _ ho)
            refine z_go 120 [23] ⟨fun q => absurd q (n_nn (by omega)), fun q => ⟨fun q2 => ⟨by (first | exact vin (by simp only [al_2, al_3, al_4, al_5, al_7, al_11, al_12, al_13, al_15, al_16, al_17, al_19, al_20, al_21, al_22, al_23, al_24, al_25, al_26, al_28, al_30, al_31, al_32, al_33, al_34, al_36, al_41, al_42, al_43, al_44, al_49, al_50, al_51, al_52, al_54, al_55, al_56, al_57, al_58, al_59, al_60, al_61, al_62, al_63, al_64, al_65, al_66, al_67, al_68, al_69, al_70, al_71, al_72, al_73, al_74, al_75, al_76, al_77, al_78, al_79, al_80]; omega) (by simp only [al_2, al_3, al_4, al_5, al_7, al_11, al_12, al_13, al_15, al_16, al_17, al_19, al_20, al_21, al_22, al_23, al_24, al_25, al_26, al_28, al_30, al_31, al_32, al_33, al_34, al_36, al_41, al_42, al_43, al_44, al_49, al_50, al_51, al_52, al_54, al_55, al_56, al_57, al_58, al_59, al_60, al_61, al_62, al_63, al_64, al_65, al_66, al_67, al_68, al_69, al_70, al_71, al_72, al_73, al_74, al_75, al_76, al_77, al_78, al_79, al_80]; decide) | (simp (disch := omega) only [nL, nI_add, pk_mul, nc, Nat.zero_add, al_2, al_3, al_4, al_5, al_7, al_11, al_12, al_13, al_15, al_16, al_17, al_19, al_20, al_21, al_22, al_23, al_24, al_25, al_26, al_28, al_30, al_31, al_32, al_33, al_34, al_36, al_41, al_42, al_43, al_44, al_49, al_50, al_51, al_52, al_54, al_55, al_56, al_57, al_58, al_59, al_60, al_61, al_62, al_63, al_64, al_65, al_66, al_67, al_68, al_69, al_70, al_71, al_72, al_73, al_74, al_75, al_76, al_77, al_78, al_79, al_80]; exact vin (by omega) (by decide))), by (first | exact vin (by simp only [al_2, al_3, al_4, al_5, al_7, al_11, al_12, al_13, al_15, al_16, al_17, al_19, al_20, al_21, al_22, al_23, al_24, al_25, al_26, al_28, al_30, al_31, al_32, al_33, al_34, al_36, al_41, al_42, al_43, al_44, al_49, al_50, al_51, al_52, al_54, al_55, al_56, al_57, al_58, al_59, al_60, al_61, al_62, al_63, al_64, al_65, al_66, al_67, al_68, al_69, al_70, al_71, al_72, al_73, al_74, al_75, al_76, al_77, al_78, al_79, al_80]; omega) (by simp only [al_2, al_3, al_4, al_5, al_7, al_11, al_12, al_13, al_15, al_16, al_17, al_19, al_20, al_21, al_22, al_23, al_24, al_25, al_26, al_28, al_30, al_31, al_32, al_33, al_34, al_36, al_41, al_42, al_43, al_44, al_49, al_50, al_51, al_52, al_54, al_55, al_56, al_57, al_58, al_59, al_60, al_61, al_62, al_63, al_64, al_65, al_66, al_67, al_68, al_69, al_70, al_71, al_72, al_73, al_74, al_75, al_76, al_77, al_78, al_79, al_80]; decide) | (simp (disch := omega) only [nL, nI_add, pk_mul, nc, Nat.zero_add, al_2, al_3, al_4, al_5, al_7, al_11, al_12, al_13, al_15, al_16, al_17, al_19, al_20, al_21, al_22, al_23, al_24, al_25, al_26, al_28, al_30, al_31, al_32, al_33, al_34, al_36, al_41, al_42, al_43, al_44, al_49, al_50, al_51, al_52, al_54, al_55, al_56, al_57, al_58, al_59, al_60, al_61, al_62, al_63, al_64, al_65, al_66, al_67, al_68, al_69, al_70, al_71, al_72, al_73, al_74, al_75, al_76, al_77, al_78, al_79, al_80]; exact vin (by omega) (by decide))), by (first | exact vin (by simp only [al_2, al_3, al_4, al_5, al_7, al_11, al_12, al_13, al_15, al_16, al_17, al_19, al_20, al_21, al_22, al_23, al_24, al_25, al_26, al_28, al_30, al_31, al_32, al_33, al_34, al_36, al_41, al_42, al_43, al_44, al_49, al_50, al_51, al_52, al_54, al_55, al_56, al_57, al_58, al_59, al_60, al_61, al_62, al_63, al_64, al_65, al_66, al_67, al_68, al_69, al_70, al_71, al_72, al_73, al_74, al_75, al_76, al_77, al_78, al_79, al_80]; omega) (by simp only [al_2, al_3, al_4, al_5, al_7, al_11, al_12, al_13, al_15, al_16, al_17, al_19, al_20, al_21, al_22, al_23, al_24, al_25, al_26, al_28, al_30, al_31, al_32, al_33, al_34, al_36, al_41, al_42, al_43, al_44, al_49, al_50, al_51, al_52, al_54, al_55, al_56, al_57, al_58, al_59, al_60, al_61, al_62, al_63, al_64, al_65, al_66, al_67, al_68, al_69, al_70, al_71, al_72, al_73, al_74, al_75, al_76, al_77, al_78, al_79, al_80]; decide) | (simp (disch := omega) only [nL, nI_add, pk_mul, nc, Nat.zero_add, al_2, al_3, al_4, al_5, al_7, al_11, al_12, al_13, al_15, al_16, al_17, al_19, al_20, al_21, al_22, al_23, al_24, al_25, al_26, al_28, al_30, al_31, al_32, al_33, al_34, al_36, al_41, al_42, al_43, al_44, al_49, al_50, al_51, al_52, al_54, al_55, al_56, al_57, al_58, al_59, al_60, al_61, al_62, al_63, al_64, al_65, al_66, al_67, al_68, al_69, al_70, al_71, al_72, al_73, al_74, al_75, al_76, al_77, al_78, al_79, al_80]; exact vin (by omega) (by decide))), fun q3 => ⟨by (first | exact vin (by simp only [al_2, al_3, al_4, al_5, al_7, al_11, al_12, al_13, al_15, al_16, al_17, al_19, al_20, al_21, al_22, al_23, al_24, al_25, al_26, al_28, al_30, al_31, al_32, al_33, al_34, al_36, al_41, al_42, al_43, al_44, al_49, al_50, al_51, al_52, al_54, al_55, al_56, al_57, al_58, al_59, al_60, al_61, al_62, al_63, al_64, al_65, al_66, al_67, al_68, al_69, al_70, al_71, al_72, al_73, al_74, al_75, al_76, al_77, al_78, al_79, al_80]; omega) (by simp only [al_2, al_3, al_4, al_5, al_7, al_11, al_12, al_13, al_15, al_16, al_17, al_19, al_20, al_21, al_22, al_23, al_24, al_25, al_26, al_28, al_30, al_31, al_32, al_33, al_34, al_36, al_41, al_42, al_43, al_44, al_49, al_50, al_51, al_52, al_54, al_55, al_56, al_57, al_58, al_59, al_60, al_61, al_62, al_63, al_64, al_65, al_66, al_67, al_68, al_69, al_70, al_71, al_72, al_73, al_74, al_75, al_76, al_77, al_78, al_79, al_80]; decide) | (simp (disch := omega) only [nL, nI_add, pk_mul, nc, Nat.zero_add, al_2, al_3, al_4, al_5, al_7, al_11, al_12, al_13, al_15, al_16, al_17, al_19, al_20, al_21, al_22, al_23, al_24, al_25, al_26, al_28, al_30, al_31, al_32, al_33, al_34, al_36, al_41, al_42, al_43, al_44, al_49, al_50, al_51, al_52, al_54, al_55, al_56, al_57, al_58, al_59, al_60, al_61, al_62, al_63, al_64, al_65, al_66, al_67, al_68, al_69, al_70, al_71, al_72, al_73, al_74, al_75, al_76, al_77, al_78, al_79, al_80]; exact vin (by omega) (by decide))), ?_⟩, fun q3 => ?_⟩, fun q2 => ?_⟩⟩
            · simp (disch := omega) only [nc, es, wr_s]
              refine ⟨by (first | exact vin (by simp only [al_2, al_3, al_4, al_5, al_7, al_11, al_12, al_13, al_15, al_16, al_17, al_19, al_20, al_21, al_22, al_23, al_24, al_25, al_26, al_28, al_30, al_31, al_32, al_33, al_34, al_36, al_41, al_42, al_43, al_44, al_49, al_50, al_51, al_52, al_54, al_55, al_56, al_57, al_58, al_59, al_60, al_61, al_62, al_63, al_64, al_65, al_66, al_67, al_68, al_69, al_70, al_71, al_72, al_73, al_74, al_75, al_76, al_77, al_78, al_79, al_80]; omega) (by simp only [al_2, al_3, al_4, al_5, al_7, al_11, al_12, al_13, al_15, al_16, al_17, al_19, al_20, al_21, al_22, al_23, al_24, al_25, al_26, al_28, al_30, al_31, al_32, al_33, al_34, al_36, al_41, al_42, al_43, al_44, al_49, al_50, al_51, al_52, al_54, al_55, al_56, al_57, al_58, al_59, al_60, al_61, al_62, al_63, al_64, al_65, al_66, al_67, al_68, al_69, al_70, al_71, al_72, al_73, al_74, al_75, al_76, al_77, al_78, al_79, al_80]; decide) | (simp (disch := omega) only [nL, nI_add, pk_mul, nc, Nat.zero_add, al_2, al_3, al_4, al_5, al_7, al_11, al_12, al_13, al_15, al_16, al_17, al_19, al_20, al_21, al_22, al_23, al_24, al_25, al_26, al_28, al_30, al_31, al_32, al_33, al_34, al_36, al_41, al_42, al_43, al_44, al_49, al_50, al_51, al_52, al_54, al_55, al_56, al_57, al_58, al_59, al_60, al_61, al_62, al_63, al_64, al_65, al_66, al_67, al_68, al_69, al_70, al_71, al_72, al_73, al_74, al_75, al_76, al_77, al_78, al_79, al_80]; exact vin (by omega) (by decide))), by (first | exact vin (by simp only [al_2, al_3, al_4, al_5, al_7, al_11, al_12, al_13, al_15, al_16, al_17, al_19, al_20, al_21, al_22, al_23, al_24, al_25, al_26, al_28, al_30, al_31, al_32, al_33, al_34, al_36, al_41, al_42, al_43, al_44, al_49, al_50, al_51, al_52, al_54, al_55, al_56, al_57, al_58, al_59, al_60, al_61, al_62, al_63, al_64, al_65, al_66, al_67, al_68, al_69, al_70, al_71, al_72, al_73, al_74, al_75, al_76, al_77, al_78, al_79, al_80]; omega) (by simp only [al_2, al_3, al_4, al_5, al_7, al_11, al_12, al_13, al_15, al_16, al_17, al_19, al_20, al_21, al_22, al_23, al_24, al_25, al_26, al_28, al_30, al_31, al_32, al_33, al_34, al_36, al_41, al_42, al_43, al_44, al_49, al_50, al_51, al_52, al_54, al_55, al_56, al_57, al_58, al_59, al_60, al_61, al_62, al_63, al_64, al_65, al_66, al_67, al_68, al_69, al_70, al_71, al_72, al_73, al_74, al_75, al_76, al_77, al_78, al_79, al_80]; decide) | (simp (disch := omega) only [nL, nI_add, pk_mul, nc, Nat.zero_add, al_2, al_3, al_4, al_5, al_7, al_11, al_12, al_13, al_15, al_16, al_17, al_19, al_20, al_21, al_22, al_23, al_24, al_25, al_26, al_28, al_30, al_31, al_32, al_33, al_34, al_36, al_41, al_42, al_43, al_44, al_49, al_50, al_51, al_52, al_54, al_55, al_56, al_57, al_58, al_59, al_60, al_61, al_62, al_63, al_64, al_65, al_66, al_67, al_68, al_69, al_70, al_71, al_72, al_73, al_74, al_75, al_76, al_77, al_78, al_79, al_80]; exact vin (by omega) (by decide))), fun q4 => ?_, fun q4 => ?_⟩
              · show z_wp _ _ _ _ 23 _ _ _
                rw [nc (by omega), hek _ hfr1, nc (by omega), wr_c (by decide), a3, i_and] at q4
                have q4 : ¬ nI (f (t + 1) &&& w) = nI 0 := q4
                rw [n_eq (by omega) (by omega)] at q4
                exact next (fun y => q4 y.1) _ _ lv1 wr_s (by rw [wr_c (by decide)]; exact a2) (by rw [wr_c (by decide)]; exact a3)
              · rw [nc (by omega), hek _ hfr1, nc (by omega), wr_c (by decide), a3, i_and] at q4
                have q4 : nI (f (t + 1) &&& w) = nI 0 := q4
                rw [n_eq (by omega) (by omega)] at q4
                refine ⟨by (first | exact vin (by simp only [al_2, al_3, al_4, al_5, al_7, al_11, al_12, al_13, al_15, al_16, al_17, al_19, al_20, al_21, al_22, al_23, al_24, al_25, al_26, al_28, al_30, al_31, al_32, al_33, al_34, al_36, al_41, al_42, al_43, al_44, al_49, al_50, al_51, al_52, al_54, al_55, al_56, al_57, al_58, al_59, al_60, al_61, al_62, al_63, al_64, al_65, al_66, al_67, al_68, al_69, al_70, al_71, al_72, al_73, al_74, al_75, al_76, al_77, al_78, al_79, al_80]; omega) (by simp only [al_2, al_3, al_4, al_5, al_7, al_11, al_12, al_13, al_15, al_16, al_17, al_19, al_20, al_21, al_22, al_23, al_24, al_25, al_26, al_28, al_30, al_31, al_32, al_33, al_34, al_36, al_41, al_42, al_43, al_44, al_49, al_50, al_51, al_52, al_54, al_55, al_56, al_57, al_58, al_59, al_60, al_61, al_62, al_63, al_64, al_65, al_66, al_67, al_68, al_69, al_70, al_71, al_72, al_73, al_74, al_75, al_76, al_77, al_78, al_79, al_80]; decide) | (simp (disch := omega) only [nL, nI_add, pk_mul, nc, Nat.zero_add, al_2, al_3, al_4, al_5, al_7, al_11, al_12, al_13, al_15, al_16, al_17, al_19, al_20, al_21, al_22, al_23, al_24, al_25, al_26, al_28, al_30, al_31, al_32, al_33, al_34, al_36, al_41, al_42, al_43, al_44, al_49, al_50, al_51, al_52, al_54, al_55, al_56, al_57, al_58, al_59, al_60, al_61, al_62, al_63, al_64, al_65, al_66, al_67, al_68, al_69, al_70, al_71, al_72, al_73, al_74, al_75, al_76, al_77, al_78, al_79, al_80]; exact vin (by omega) (by decide))), by (first | exact vin (by simp only [al_2, al_3, al_4, al_5, al_7, al_11, al_12, al_13, al_15, al_16, al_17, al_19, al_20, al_21, al_22, al_23, al_24, al_25, al_26, al_28, al_30, al_31, al_32, al_33, al_34, al_36, al_41, al_42, al_43, al_44, al_49, al_50, al_51, al_52, al_54, al_55, al_56, al_57, al_58, al_59, al_60, al_61, al_62, al_63, al_64, al_65, al_66, al_67, al_68, al_69, al_70, al_71, al_72, al_73, al_74, al_75, al_76, al_77, al_78, al_79, al_80]; omega) (by simp only [al_2, al_3, al_4, al_5, al_7, al_11, al_12, al_13, al_15, al_16, al_17, al_19, al_20, al_21, al_22, al_23, al_24, al_25, al_26, al_28, al_30, al_31, al_32, al_33, al_34, al_36, al_41, al_42, al_43, al_44, al_49, al_50, al_51, al_52, al_54, al_55, al_56, al_57, al_58, al_59, al_60, al_61, al_62, al_63, al_64, al_65, al_66, al_67, al_68, al_69, al_70, al_71, al_72, al_73, al_74, al_75, al_76, al_77, al_78, al_79, al_80]; decide) | (simp (disch := omega) only [nL, nI_add, pk_mul, nc, Nat.zero_add, al_2, al_3, al_4, al_5, al_7, al_11, al_12, al_13, al_15, al_16, al_17, al_19, al_20, al_21, al_22, al_23, al_24, al_25, al_26, al_28, al_30, al_31, al_32, al_33, al_34, al_36, al_41, al_42, al_43, al_44, al_49, al_50, al_51, al_52, al_54, al_55, al_56, al_57, al_58, al_59, al_60, al_61, al_62, al_63, al_64, al_65, al_66, al_67, al_68, al_69, al_70, al_71, al_72, al_73, al_74, al_75, al_76, al_77, al_78, al_79, al_80]; exact vin (by omega) (by decide))), by (first | exact vin (by simp only [al_2, al_3, al_4, al_5, al_7, al_11, al_12, al_13, al_15, al_16, al_17, al_19, al_20, al_21, al_22, al_23, al_24, al_25, al_26, al_28, al_30, al_31, al_32, al_33, al_34, al_36, al_41, al_42, al_43, al_44, al_49, al_50, al_51, al_52, al_54, al_55, al_56, al_57, al_58, al_59, al_60, al_61, al_62, al_63, al_64, al_65, al_66, al_67, al_68, al_69, al_70, al_71, al_72, al_73, al_74, al_75, al_76, al_77, al_78, al_79, al_80]; omega) (by simp only [al_2, al_3, al_4, al_5, al_7, al_11, al_12, al_13, al_15, al_16, al_17, al_19, al_20, al_21, al_22, al_23, al_24, al_25, al_26, al_28, al_30, al_31, al_32, al_33, al_34, al_36, al_41, al_42, al_43, al_44, al_49, al_50, al_51, al_52, al_54, al_55, al_56, al_57, al_58, al_59, al_60, al_61, al_62, al_63, al_64, al_65, al_66, al_67, al_68, al_69, al_70, al_71, al_72, al_73, al_74, al_75, al_76, al_77, al_78, al_79, al_80]; decide) | (simp (disch := omega) only [nL, nI_add, pk_mul, nc, Nat.zero_add, al_2, al_3, al_4, al_5, al_7, al_11, al_12, al_13, al_15, al_16, al_17, al_19, al_20, al_21, al_22, al_23, al_24, al_25, al_26, al_28, al_30, al_31, al_32, al_33, al_34, al_36, al_41, al_42, al_43, al_44, al_49, al_50, al_51, al_52, al_54, al_55, al_56, al_57, al_58, al_59, al_60, al_61, al_62, al_63, al_64, al_65, al_66, al_67, al_68, al_69, al_70, al_71, al_72, al_73, al_74, al_75, al_76, al_77, al_78, al_79, al_80]; exact vin (by omega) (by decide))), by (first | exact vin (by simp only [al_2, al_3, al_4, al_5, al_7, al_11, al_12, al_13, al_15, al_16, al_17, al_19, al_20, al_21, al_22, al_23, al_24, al_25, al_26, al_28, al_30, al_31, al_32, al_33, al_34, al_36, al_41, al_42, al_43, al_44, al_49, al_50, al_51, al_52, al_54, al_55, al_56, al_57, al_58, al_59, al_60, al_61, al_62, al_63, al_64, al_65, al_66, al_67, al_68, al_69, al_70, al_71, al_72, al_73, al_74, al_75, al_76, al_77, al_78, al_79, al_80]; omega) (by simp only [al_2, al_3, al_4, al_5, al_7, al_11, al_12, al_13, al_15, al_16, al_17, al_19, al_20, al_21, al_22, al_23, al_24, al_25, al_26, al_28, al_30, al_31, al_32, al_33, al_34, al_36, al_41, al_42, al_43, al_44, al_49, al_50, al_51, al_52, al_54, al_55, al_56, al_57, al_58, al_59, al_60, al_61, al_62, al_63, al_64, al_65, al_66, al_67, al_68, al_69, al_70, al_71, al_72, al_73, al_74, al_75, al_76, al_77, al_78, al_79, al_80]; decide) | (simp (disch := omega) only [nL, nI_add, pk_mul, nc, Nat.zero_add, al_2, al_3, al_4, al_5, al_7, al_11, al_12, al_13, al_15, al_16, al_17, al_19, al_20, al_21, al_22, al_23, al_24, al_25, al_26, al_28, al_30, al_31, al_32, al_33, al_34, al_36, al_41, al_42, al_43, al_44, al_49, al_50, al_51, al_52, al_54, al_55, al_56, al_57, al_58, al_59, al_60, al_61, al_62, al_63, al_64, al_65, al_66, al_67, al_68, al_69, al_70, al_71, al_72, al_73, al_74, al_75, al_76, al_77, al_78, al_79, al_80]; exact vin (by omega) (by decide))), by (first | exact vin (by simp only [al_2, al_3, al_4, al_5, al_7, al_11, al_12, al_13, al_15, al_16, al_17, al_19, al_20, al_21, al_22, al_23, al_24, al_25, al_26, al_28, al_30, al_31, al_32, al_33, al_34, al_36, al_41, al_42, al_43, al_44, al_49, al_50, al_51, al_52, al_54, al_55, al_56, al_57, al_58, al_59, al_60, al_61, al_62, al_63, al_64, al_65, al_66, al_67, al_68, al_69, al_70, al_71, al_72, al_73, al_74, al_75, al_76, al_77, al_78, al_79, al_80]; omega) (by simp only [al_2, al_3, al_4, al_5, al_7, al_11, al_12, al_13, al_15, al_16, al_17, al_19, al_20, al_21, al_22, al_23, al_24, al_25, al_26, al_28, al_30, al_31, al_32, al_33, al_34, al_36, al_41, al_42, al_43, al_44, al_49, al_50, al_51, al_52, al_54, al_55, al_56, al_57, al_58, al_59, al_60, al_61, al_62, al_63, al_64, al_65, al_66, al_67, al_68, al_69, al_70, al_71, al_72, al_73, al_74, al_75, al_76, al_77, al_78, al_79, al_80]; decide) | (simp (disch := omega) only [nL, nI_add, pk_mul, nc, Nat.zero_add, al_2, al_3, al_4, al_5, al_7, al_11, al_12, al_13, al_15, al_16, al_17, al_19, al_20, al_21, al_22, al_23, al_24, al_25, al_26, al_28, al_30, al_31, al_32, al_33, al_34, al_36, al_41, al_42, al_43, al_44, al_49, al_50, al_51, al_52, al_54, al_55, al_56, al_57, al_58, al_59, al_60, al_61, al_62, al_63, al_64, al_65, al_66, al_67, al_68, al_69, al_70, al_71, al_72, al_73, al_74, al_75, al_76, al_77, al_78, al_79, al_80]; exact vin (by omega) (by decide))), by (first | exact vin (by simp only [al_2, al_3, al_4, al_5, al_7, al_11, al_12, al_13, al_15, al_16, al_17, al_19, al_20, al_21, al_22, al_23, al_24, al_25, al_26, al_28, al_30, al_31, al_32, al_33, al_34, al_36, al_41, al_42, al_43, al_44, al_49, al_50, al_51, al_52, al_54, al_55, al_56, al_57, al_58, al_59, al_60, al_61, al_62, al_63, al_64, al_65, al_66, al_67, al_68, al_69, al_70, al_71, al_72, al_73, al_74, al_75, al_76, al_77, al_78, al_79, al_80]; omega) (by simp only [al_2, al_3, al_4, al_5, al_7, al_11, al_12, al_13, al_15, al_16, al_17, al_19, al_20, al_21, al_22, al_23, al_24, al_25, al_26, al_28, al_30, al_31, al_32, al_33, al_34, al_36, al_41, al_42, al_43, al_44, al_49, al_50, al_51, al_52, al_54, al_55, al_56, al_57, al_58, al_59, al_60, al_61, al_62, al_63, al_64, al_65, al_66, al_67, al_68, al_69, al_70, al_71, al_72, al_73, al_74, al_75, al_76, al_77, al_78, al_79, al_80]; decide) | (simp (disch := omega) only [nL, nI_add, pk_mul, nc, Nat.zero_add, al_2, al_3, al_4, al_5, al_7, al_11, al_12, al_13, al_15, al_16, al_17, al_19, al_20, al_21, al_22, al_23, al_24, al_25, al_26, al_28, al_30, al_31, al_32, al_33, al_34, al_36, al_41, al_42, al_43, al_44, al_49, al_50, al_51, al_52, al_54, al_55, al_56, al_57, al_58, al_59, al_60, al_61, al_62, al_63, al_64, al_65, al_66, al_67, al_68, al_69, al_70, al_71, al_72, al_73, al_74, al_75, al_76, al_77, al_78, al_79, al_80]; exact vin (by omega) (by decide))), by (first | exact vin (by simp only [al_2, al_3, al_4, al_5, al_7, al_11, al_12, al_13, al_15, al_16, al_17, al_19, al_20, al_21, al_22, al_23, al_24, al_25, al_26, al_28, al_30, al_31, al_32, al_33, al_34, al_36, al_41, al_42, al_43, al_44, al_49, al_50, al_51, al_52, al_54, al_55, al_56, al_57, al_58, al_59, al_60, al_61, al_62, al_63, al_64, al_65, al_66, al_67, al_68, al_69, al_70, al_71, al_72, al_73, al_74, al_75, al_76, al_77, al_78, al_79, al_80]; omega) (by simp only [al_2, al_3, al_4, al_5, al_7, al_11, al_12, al_13, al_15, al_16, al_17, al_19, al_20, al_21, al_22, al_23, al_24, al_25, al_26, al_28, al_30, al_31, al_32, al_33, al_34, al_36, al_41, al_42, al_43, al_44, al_49, al_50, al_51, al_52, al_54, al_55, al_56, al_57, al_58, al_59, al_60, al_61, al_62, al_63, al_64, al_65, al_66, al_67, al_68, al_69, al_70, al_71, al_72, al_73, al_74, al_75, al_76, al_77, al_78, al_79, al_80]; decide) | (simp (disch := omega) only [nL, nI_add, pk_mul, nc, Nat.zero_add, al_2, al_3, al_4, al_5, al_7, al_11, al_12, al_13, al_15, al_16, al_17, al_19, al_20, al_21, al_22, al_23, al_24, al_25, al_26, al_28, al_30, al_31, al_32, al_33, al_34, al_36, al_41, al_42, al_43, al_44, al_49, al_50, al_51, al_52, al_54, al_55, al_56, al_57, al_58, al_59, al_60, al_61, al_62, al_63, al_64, al_65, al_66, al_67, al_68, al_69, al_70, al_71, al_72, al_73, al_74, al_75, al_76, al_77, al_78, al_79, al_80]; exact vin (by omega) (by decide))), by (first | exact vin (by simp only [al_2, al_3, al_4, al_5, al_7, al_11, al_12, al_13, al_15, al_16, al_17, al_19, al_20, al_21, al_22, al_23, al_24, al_25, al_26, al_28, al_30, al_31, al_32, al_33, al_34, al_36, al_41, al_42, al_43, al_44, al_49, al_50, al_51, al_52, al_54, al_55, al_56, al_57, al_58, al_59, al_60, al_61, al_62, al_63, al_64, al_65, al_66, al_67, al_68, al_69, al_70, al_71, al_72, al_73, al_74, al_75, al_76, al_77, al_78, al_79, al_80]; omega) (by simp only [al_2, al_3, al_4, al_5, al_7, al_11, al_12, al_13, al_15, al_16, al_17, al_19, al_20, al_21, al_22, al_23, al_24, al_25, al_26, al_28, al_30, al_31, al_32, al_33, al_34, al_36, al_41, al_42, al_43, al_44, al_49, al_50, al_51, al_52, al_54, al_55, al_56, al_57, al_58, al_59, al_60, al_61, al_62, al_63, al_64, al_65, al_66, al_67, al_68, al_69, al_70, al_71, al_72, al_73, al_74, al_75, al_76, al_77, al_78, al_79, al_80]; decide) | (simp (disch := omega) only [nL, nI_add, pk_mul, nc, Nat.zero_add, al_2, al_3, al_4, al_5, al_7, al_11, al_12, al_13, al_15, al_16, al_17, al_19, al_20, al_21, al_22, al_23, al_24, al_25, al_26, al_28, al_30, al_31, al_32, al_33, al_34, al_36, al_41, al_42, al_43, al_44, al_49, al_50, al_51, al_52, al_54, al_55, al_56, al_57, al_58, al_59, al_60, al_61, al_62, al_63, al_64, al_65, al_66, al_67, al_68, al_69, al_70, al_71, al_72, al_73, al_74, al_75, al_76, al_77, al_78, al_79, al_80]; exact vin (by omega) (by decide))), ?_⟩
                show z_wp _ _ _ _ 23 _ _ _
                have r2 : (z_wr σi 78 D (nI (t + 1))).1 80 D = nI w := by rw [wr_c (by decide)]; exact a3
                have r3 : (z_wr σi 78 D (nI (t + 1))).1 79 D = nI o := by rw [wr_c (by decide)]; exact a2
                have r1 : (z_wr σi 78 D (nI (t + 1))).1 78 D = nI (t + 1) := wr_s
                have r0 := hek _ hfr1
                generalize hσ1 : z_wr σi 78 D (nI (t + 1)) = σ1 at r0 r1 r2 r3 hfr1 lv1 ⊢
                have eD : nI D + 1 = nI (D + 1) := nI_add D 1
                have et : nI (t + 1) - 1 = nI t := by
                  show nI (t + 1) - nI 1 = nI t
                  rw [i_sub (by omega)]
                  rfl
                simp (disch := omega) only [eD, nc, r0, r1, r2, r3, wr_c, wr_s, wr_k, i_and, i_or, i_clr, et]
                have hfr3 : fr [78, 79, 80] σ (z_wr (z_wr (z_wr σ1 80 (D + 1) (nI (w ||| (f (t + 1) &&& o)))) 79 (D + 1) (nI (clr (o ||| f (t + 1)) (w ||| (f (t + 1) &&& o))))) 78 (D + 1) (nI t)) := fr.wr (fr.wr (fr.wr hfr1 (by decide)) (by decide)) (by decide)
                refine ih (D + 1) t _ _ _ _ (by omega) (by omega) ho' hw' hfr3 wr_s (by rw [wr_c (by decide), wr_s]) (by rw [wr_c (by decide), wr_c (by decide), wr_s]) (fun y => hT ⟨t + 1, Nat.le_refl _, ct, q4, y⟩) (fun hno σ4 l4 hl4 => ?_)
                rw [show nI (D + 1) + -1 = nI D from i_dec D]
                have back : ∀ c i, i < D + 1 → (c = 78 ∨ c = 79 ∨ c = 80) → σ4.1 c i = σ1.1 c i := by
                  intro c i hi hc
                  obtain ⟨y1, y2, y3⟩ := hl4.2 i hi
                  rcases hc with rfl | rfl | rfl
                  · rw [y1, wr_k (by omega), wr_c (by decide), wr_c (by decide)]
                  · rw [y2, wr_c (by decide), wr_k (by omega), wr_c (by decide)]
                  · rw [y3, wr_c (by decide), wr_c (by decide), wr_k (by omega)]
                refine next (fun y => hno y.2) σ4 l4 ⟨lv1.1.tr ((fr.wr (fr.wr (fr.wr fr.rf (by decide)) (by decide)) (by decide)).tr hl4.1), fun i hi => ?_⟩ (by rw [back 78 D (by omega) (by omega)]; exact r1) (by rw [back 79 D (by omega) (by omega)]; exact r3) (by rw [back 80 D (by omega) (by omega)]; exact r2)
                obtain ⟨z1, z2, z3⟩ := lv1.2 i hi
                rw [back 78 i (by omega) (by omega), back 79 i (by omega) (by omega), back 80 i (by omega) (by omega)]
                exact ⟨z1, z2, z3⟩
            · simp (disch := omega) only [nc, es, wr_s] at q3
              rw [n_lt (by omega) (by omega)] at q3
              omega
            · rw [n_eq (by omega) (by omega)] at q2
              omega
          · refine z_go 60 [23] ⟨fun q => absurd q (n_nn (by omega)), fun q => ⟨fun q2 => ⟨by (first | exact vin (by simp only [al_2, al_3, al_4, al_5, al_7, al_11, al_12, al_13, al_15, al_16, al_17, al_19, al_20, al_21, al_22, al_23, al_24, al_25, al_26, al_28, al_30, al_31, al_32, al_33, al_34, al_36, al_41, al_42, al_43, al_44, al_49, al_50, al_51, al_52, al_54, al_55, al_56, al_57, al_58, al_59, al_60, al_61, al_62, al_63, al_64, al_65, al_66, al_67, al_68, al_69, al_70, al_71, al_72, al_73, al_74, al_75, al_76, al_77, al_78, al_79, al_80]; omega) (by simp only [al_2, al_3, al_4, al_5, al_7, al_11, al_12, al_13, al_15, al_16, al_17, al_19, al_20, al_21, al_22, al_23, al_24, al_25, al_26, al_28, al_30, al_31, al_32, al_33, al_34, al_36, al_41, al_42, al_43, al_44, al_49, al_50, al_51, al_52, al_54, al_55, al_56, al_57, al_58, al_59, al_60, al_61, al_62, al_63, al_64, al_65, al_66, al_67, al_68, al_69, al_70, al_71, al_72, al_73, al_74, al_75, al_76, al_77, al_78, al_79, al_80]; decide) | (simp (disch := omega) only [nL, nI_add, pk_mul, nc, Nat.zero_add, al_2, al_3, al_4, al_5, al_7, al_11, al_12, al_13, al_15, al_16, al_17, al_19, al_20, al_21, al_22, al_23, al_24, al_25, al_26, al_28, al_30, al_31, al_32, al_33, al_34, al_36, al_41, al_42, al_43, al_44, al_49, al_50, al_51, al_52, al_54, al_55, al_56, al_57, al_58, al_59, al_60, al_61, al_62, al_63, al_64, al_65, al_66, al_67, al_68, al_69, al_70, al_71, al_72, al_73, al_74, al_75, al_76, al_77, al_78, al_79, al_80]; exact vin (by omega) (by decide))), by (first | exact vin (by simp only [al_2, al_3, al_4, al_5, al_7, al_11, al_12, al_13, al_15, al_16, al_17, al_19, al_20, al_21, al_22, al_23, al_24, al_25, al_26, al_28, al_30, al_31, al_32, al_33, al_34, al_36, al_41, al_42, al_43, al_44, al_49, al_50, al_51, al_52, al_54, al_55, al_56, al_57, al_58, al_59, al_60, al_61, al_62, al_63, al_64, al_65, al_66, al_67, al_68, al_69, al_70, al_71, al_72, al_73, al_74, al_75, al_76, al_77, al_78, al_79, al_80]; omega) (by simp only [al_2, al_3, al_4, al_5, al_7, al_11, al_12, al_13, al_15, al_16, al_17, al_19, al_20, al_21, al_22, al_23, al_24, al_25, al_26, al_28, al_30, al_31, al_32, al_33, al_34, al_36, al_41, al_42, al_43, al_44, al_49, al_50, al_51, al_52, al_54, al_55, al_56, al_57, al_58, al_59, al_60, al_61, al_62, al_63, al_64, al_65, al_66, al_67, al_68, al_69, al_70, al_71, al_72, al_73, al_74, al_75, al_76, al_77, al_78, al_79, al_80]; decide) | (simp (disch := omega) only [nL, nI_add, pk_mul, nc, Nat.zero_add, al_2, al_3, al_4, al_5, al_7, al_11, al_12, al_13, al_15, al_16, al_17, al_19, al_20, al_21, al_22, al_23, al_24, al_25, al_26, al_28, al_30, al_31, al_32, al_33, al_34, al_36, al_41, al_42, al_43, al_44, al_49, al_50, al_51, al_52, al_54, al_55, al_56, al_57, al_58, al_59, al_60, al_61, al_62, al_63, al_64, al_65, al_66, al_67, al_68, al_69, al_70, al_71, al_72, al_73, al_74, al_75, al_76, al_77, al_78, al_79, al_80]; exact vin (by omega) (by decide))), by (first | exact vin (by simp only [al_2, al_3, al_4, al_5, al_7, al_11, al_12, al_13, al_15, al_16, al_17, al_19, al_20, al_21, al_22, al_23, al_24, al_25, al_26, al_28, al_30, al_31, al_32, al_33, al_34, al_36, al_41, al_42, al_43, al_44, al_49, al_50, al_51, al_52, al_54, al_55, al_56, al_57, al_58, al_59, al_60, al_61, al_62, al_63, al_64, al_65, al_66, al_67, al_68, al_69, al_70, al_71, al_72, al_73, al_74, al_75, al_76, al_77, al_78, al_79, al_80]; omega) (by simp only [al_2, al_3, al_4, al_5, al_7, al_11, al_12, al_13, al_15, al_16, al_17, al_19, al_20, al_21, al_22, al_23, al_24, al_25, al_26, al_28, al_30, al_31, al_32, al_33, al_34, al_36, al_41, al_42, al_43, al_44, al_49, al_50, al_51, al_52, al_54, al_55, al_56, al_57, al_58, al_59, al_60, al_61, al_62, al_63, al_64, al_65, al_66, al_67, al_68, al_69, al_70, al_71, al_72, al_73, al_74, al_75, al_76, al_77, al_78, al_79, al_80]; decide) | (simp (disch := omega) only [nL, nI_add, pk_mul, nc, Nat.zero_add, al_2, al_3, al_4, al_5, al_7, al_11, al_12, al_13, al_15, al_16, al_17, al_19, al_20, al_21, al_22, al_23, al_24, al_25, al_26, al_28, al_30, al_31, al_32, al_33, al_34, al_36, al_41, al_42, al_43, al_44, al_49, al_50, al_51, al_52, al_54, al_55, al_56, al_57, al_58, al_59, al_60, al_61, al_62, al_63, al_64, al_65, al_66, al_67, al_68, al_69, al_70, al_71, al_72, al_73, al_74, al_75, al_76, al_77, al_78, al_79, al_80]; exact vin (by omega) (by decide))), fun q3 => ?_, fun q3 => ?_⟩, fun q2 => ?_⟩⟩
            · rw [nc (by omega), wr_s, a1] at q3
              have q3 : nI t + nI 1 < nI n := q3
              rw [nI_add, n_lt (by omega) (by omega)] at q3
              omega
            · show z_wp _ _ _ _ 23 _ _ _
              refine K (fun ⟨k, k1, k2, _⟩ => by omega) _ _ ⟨fr.wr fr.rf (by decide), fun i hi => ?_⟩
              rw [nc (by omega), wr_k (by omega), wr_c (by decide), wr_c (by decide)]
              exact ⟨rfl, rfl, rfl⟩
            · rw [n_eq (by omega) (by omega)] at q2
              omega
      intro t o w σi l4 hD ht
      exact inner (n - t) t o w σi l4 hD (by omega)
  have hfr0 : fr [78, 79, 80] σ (z_wr (z_wr (z_wr σ 79 0 0) 80 0 0) 78 0 0) := fr.wr (fr.wr (fr.wr fr.rf (by decide)) (by decide)) (by decide)
  have st := srch many 0 0 0 0 (z_wr (z_wr (z_wr σ 79 0 0) 80 0 0) 78 0 0) none (by omega) (by omega) hpos hpos hfr0 wr_s (by rw [wr_c (by decide), wr_c (by decide), wr_s]; rfl) (by rw [wr_c (by decide), wr_s]; rfl) (fun y => y) (fun hno σ2 l4 hl => by
    refine z_go 40 [23] ⟨fun q => ⟨Or.inl rfl, ?_, hfr0.tr hl.1⟩, fun q => absurd (by decide) q⟩
    rw [pb_f hno]
    rfl)
  exact z_metR ⟨rfl, z_go 60 [23] ⟨vin (n := 0) (show 0 < z_al 79 by decide) (by decide), vin (n := 0) (show 0 < z_al 80 by decide) (by decide), vin (n := 0) (show 0 < z_al 78 by decide) (by decide), st⟩⟩
/-- each road is in just two of three sets -/
def in2 (R p q r : Nat) : Prop := ∀ b, (b < R → ((p.testBit b && q.testBit b && !r.testBit b) || (p.testBit b && !q.testBit b && r.testBit b) || (!p.testBit b && q.testBit b && r.testBit b)) = true) ∧ (R ≤ b → p.testBit b = false ∧ q.testBit b = false ∧ r.testBit b = false)
theorem in2_a {R p q r : Nat} (h : in2 R p q r) : in2 R q p r := fun b => ⟨fun hb => by
  have := (h b).1 hb
  revert this
  cases p.testBit b <;> cases q.testBit b <;> cases r.testBit b <;> decide, fun hb => ⟨((h b).2 hb).2.1, ((h b).2 hb).1, ((h b).2 hb).2.2⟩⟩
theorem in2_b {R p q r : Nat} (h : in2 R p q r) : in2 R p r q := fun b => ⟨fun hb => by
  have := (h b).1 hb
  revert this
  cases p.testBit b <;> cases q.testBit b <;> cases r.testBit b <;> decide, fun hb => ⟨((h b).2 hb).1, ((h b).2 hb).2.2, ((h b).2 hb).2.1⟩⟩
theorem in2_cv {R p q r : Nat} (h : in2 R p q r) : r &&& (q &&& p) = 0 ∧ (q &&& p) ||| (r &&& clr (p ||| q) (q &&& p)) = 2 ^ R - 1 := by
  constructor
  · apply Nat.eq_of_testBit_eq
    intro b
    rw [Nat.testBit_and, Nat.testBit_and, Nat.zero_testBit]
    by_cases c : b < R
    · have := (h b).1 c
      revert this
      cases p.testBit b <;> cases q.testBit b <;> cases r.testBit b <;> decide
    · obtain ⟨h1, h2, h3⟩ := (h b).2 (by omega)
      rw [h1, h2, h3]
      rfl
  · apply Nat.eq_of_testBit_eq
    intro b
    rw [Nat.testBit_or, Nat.testBit_and, Nat.testBit_and, clr_bit, Nat.testBit_or, Nat.testBit_and, all_bit]
    by_cases c : b < R
    · have := (h b).1 c
      rw [decide_eq_true c]
      revert this
      cases p.testBit b <;> cases q.testBit b <;> cases r.testBit b <;> decide
    · obtain ⟨h1, h2, h3⟩ := (h b).2 (by omega)
      rw [h1, h2, h3, decide_eq_false c]
      rfl
theorem clr_0 (a : Nat) : clr a 0 = a := by
  unfold clr
  rw [Nat.and_zero, Nat.xor_zero]
theorem cvs_1 {f : Nat → Nat} {n all k0 r : Nat} : cvs f n all (r + 1) 0 0 k0 ↔ ∃ k, k0 ≤ k ∧ k < n ∧ cvs f n all r (f k) 0 k := by
  show (∃ k, k0 ≤ k ∧ k < n ∧ f k &&& 0 = 0 ∧ cvs f n all r (clr (0 ||| f k) (0 ||| (f k &&& 0))) (0 ||| (f k &&& 0)) k) ↔ _
  simp only [Nat.and_zero, Nat.zero_or, clr_0, true_and]
theorem cvs_2 {f : Nat → Nat} {n all k0 r p : Nat} : cvs f n all (r + 1) p 0 k0 ↔ ∃ k, k0 ≤ k ∧ k < n ∧ cvs f n all r (clr (p ||| f k) (f k &&& p)) (f k &&& p) k := by
  show (∃ k, k0 ≤ k ∧ k < n ∧ f k &&& 0 = 0 ∧ cvs f n all r (clr (p ||| f k) (0 ||| (f k &&& p))) (0 ||| (f k &&& p)) k) ↔ _
  simp only [Nat.and_zero, Nat.zero_or, true_and]
theorem cvs_3 {f : Nat → Nat} {n R i j l : Nat} (hi : 1 ≤ i) (hij : i ≤ j) (hjl : j ≤ l) (hl : l < n) (h : in2 R (f i) (f j) (f l)) : cvs f n (2 ^ R - 1) 3 0 0 1 := by
  obtain ⟨h1, h2⟩ := in2_cv h
  exact cvs_1.mpr ⟨i, hi, by omega, cvs_2.mpr ⟨j, hij, by omega, l, hjl, hl, h1, h2⟩⟩
theorem tw_ok {N : zN} (hv : NV N) (hR : 0 < gR N) : ¬ cvs (ev N) (2 ^ eG N) (2 ^ gR N - 1) 0 0 0 1 ∧ ¬ cvs (ev N) (2 ^ eG N) (2 ^ gR N - 1) 1 0 0 1 ∧ (cvs (ev N) (2 ^ eG N) (2 ^ gR N - 1) 2 0 0 1 ↔ ev N (2 ^ eG N - 1) = 2 ^ gR N - 1) ∧ (offN N = 0 → ¬ ev N (2 ^ eG N - 1) = 2 ^ gR N - 1 → cvs (ev N) (2 ^ eG N) (2 ^ gR N - 1) 3 0 0 1) := by
  obtain ⟨-, h1, h2, h3⟩ := ev_ok hv
  have hp : 2 ≤ 2 ^ gR N := by
    have := Nat.pow_le_pow_right (n := 2) (by omega) (show 1 ≤ gR N from hR)
    omega
  have hn : 0 < 2 ^ eG N := Nat.pow_pos (by omega)
  have z0 : ev N 0 = 0 := by
    obtain ⟨k, hk, ek⟩ := h3 0 (by omega) (fun q _ => od_0 _ _ _ q)
    by_cases c : k = 0
    · rw [c] at ek; exact ek
    · have := h2 0 k (by omega) hk
      omega
  have top : isE N (2 ^ gR N - 1) → ev N (2 ^ eG N - 1) = 2 ^ gR N - 1 := by
    intro hE
    obtain ⟨k, hk, ek⟩ := h3 (2 ^ gR N - 1) (by omega) hE
    by_cases c : k = 2 ^ eG N - 1
    · rw [← c]; exact ek
    · have := h2 k (2 ^ eG N - 1) (by omega) (by omega)
      have := (h1 (2 ^ eG N - 1)).1
      omega
  refine ⟨fun z => ?_, fun z => ?_, ?_, fun ho hne => ?_⟩
  · have z : 0 = 2 ^ gR N - 1 := z
    omega
  · obtain ⟨k, -, -, z⟩ := cvs_1.mp z
    have z : 0 = 2 ^ gR N - 1 := z
    omega
  · constructor
    · intro z
      obtain ⟨k, a1, a2, z⟩ := cvs_1.mp z
      obtain ⟨l, b1, b2, z⟩ := cvs_2.mp z
      have z : ev N l &&& ev N k = 2 ^ gR N - 1 := z
      have e1 : ev N k = 2 ^ gR N - 1 := by
        have : ev N l &&& ev N k ≤ ev N k := Nat.and_le_right
        have := (h1 k).1
        omega
      exact top (by rw [← e1]; exact (h1 k).2)
    · intro z
      have c : 2 ^ eG N - 1 ≠ 0 := fun y => by
        rw [y, z0] at z
        omega
      refine cvs_1.mpr ⟨2 ^ eG N - 1, by omega, by omega, cvs_2.mpr ⟨2 ^ eG N - 1, Nat.le_refl _, by omega, ?_⟩⟩
      show ev N (2 ^ eG N - 1) &&& ev N (2 ^ eG N - 1) = 2 ^ gR N - 1
      rw [Nat.and_self]
      exact z
  · obtain ⟨A, B, hA, hB, eA, eB, hAB⟩ := two_even hv ho
    have eX : isE N (A ^^^ B) := fun q hq => by rw [od_xor, eA q hq, eB q hq]; rfl
    have hX : A ^^^ B < 2 ^ gR N := Nat.xor_lt_two_pow hA hB
    obtain ⟨i, hi, ei⟩ := h3 A hA eA
    obtain ⟨j, hj, ej⟩ := h3 B hB eB
    obtain ⟨l, hl, el⟩ := h3 (A ^^^ B) hX eX
    have nall : ∀ T, isE N T → T ≠ 2 ^ gR N - 1 := fun T hT y => hne (top (by rw [← y]; exact hT))
    have ni : i ≠ 0 := fun y => by
      rw [y, z0] at ei
      rw [← ei, Nat.zero_or] at hAB
      exact nall B eB hAB
    have nj : j ≠ 0 := fun y => by
      rw [y, z0] at ej
      rw [← ej, Nat.or_zero] at hAB
      exact nall A eA hAB
    have nl : l ≠ 0 := fun y => by
      rw [y, z0] at el
      have := xor_0 el.symm
      rw [this, Nat.or_self] at hAB
      exact nall B eB hAB
    have h2' : in2 (gR N) (ev N i) (ev N j) (ev N l) := by
      rw [ei, ej, el]
      intro b
      refine ⟨fun hb => ?_, fun hb => ?_⟩
      · have := congrArg (fun x => x.testBit b) hAB
        simp only [Nat.testBit_or, all_bit, decide_eq_true hb] at this
        rw [Nat.testBit_xor]
        revert this
        cases A.testBit b <;> cases B.testBit b <;> decide
      · have l1 : ∀ T, T < 2 ^ gR N → T.testBit b = false := fun T hT => Nat.testBit_lt_two_pow (Nat.lt_of_lt_of_le hT (Nat.pow_le_pow_right (by omega) hb))
        exact ⟨l1 A hA, l1 B hB, l1 _ hX⟩
    by_cases c1 : i ≤ j <;> by_cases c2 : j ≤ l <;> by_cases c3 : i ≤ l
    · exact cvs_3 (by omega) c1 c2 hl h2'
    · omega
    · exact cvs_3 (by omega) c3 (by omega) hj (in2_b h2')
    · exact cvs_3 (by omega) (by omega) c1 hj (in2_a (in2_b h2'))
    · exact cvs_3 (by omega) (by omega) c3 hl (in2_a h2')
    · exact cvs_3 (by omega) c2 (by omega) hi (in2_b (in2_a h2'))
    · omega
    · exact cvs_3 (by omega) (show l ≤ j by omega) (by omega) hi (in2_a (in2_b (in2_a h2')))
noncomputable def sTwice (B : zB) : Int32 × zB := if offN B.1 = 0 then (if eG B.1 ≤ 4 then (if gR B.1 = 0 then (0, B) else if ev B.1 (2 ^ eG B.1 - 1) = 2 ^ gR B.1 - 1 then (2, B) else (3, B)) else oTell (-1000007) B) else oTell (-1000006) B
theorem v_twice {B : zB} (h : VB B) : VB (sTwice B).2 := by
  unfold sTwice
  repeat (first | exact h.tell _ | exact h | split)
theorem x_twice (d : Nat) {σ : z_M} {B : zB} (h : RepC σ B) (hv : VB B) : opC (d + 3) k_RF_twice [.ref 0] σ (sTwice B) := by
  obtain ⟨P, R, eP, hP, egP, eR, hR, eg, hse⟩ := hv.1.nat
  obtain ⟨σ1, hc, hf, b1, b2, b3, b4, hg, hR'⟩ := c_growE d h.1 hv.1
  have hR1 := h.scr hf (by decide)
  have hk1 := hf.kC (by decide)
  obtain ⟨σt, ht, hRt, hkt⟩ := c_tell (d + 1) hR1 (-1000006)
  obtain ⟨σu, hu, hRu, hku⟩ := c_tell (d + 1) hR1 (-1000007)
  have hol := off_lt hv.1
  have h10 : 2 ^ gR B.1 ≤ 2 ^ 10 := Nat.pow_le_pow_right (by omega) (by omega)
  have hp : 2 ^ eG B.1 ≤ 2 ^ 10 := Nat.pow_le_pow_right (by omega) (by omega)
  have hp0 : 0 < 2 ^ eG B.1 := Nat.pow_pos (by omega)
  have hpR : 0 < 2 ^ R := Nat.pow_pos (by omega)
  have h10R : 2 ^ R ≤ 2 ^ 10 := Nat.pow_le_pow_right (by omega) hR
  have hone := i_one (eG B.1) (by omega)
  have e1 : σ1.1 1 1 = nI R := by rw [hR1.1.2.1, eR]
  obtain ⟨-, hev, -⟩ := ev_ok hv.1
  have hev := (hev (2 ^ eG B.1 - 1)).1
  have ce := c_evenSet (d + 1) (σ := σ1) (cl := ecl B.1) (i := 2 ^ eG B.1 - 1) b3 (by omega) (by omega) b4
  have eone : σ1.1 10 5 |> fun x => (1 : Int32) <<< (x &&& 31) - 1 = nI (2 ^ eG B.1 - 1) := by
    show (1 : Int32) <<< (σ1.1 10 5 &&& 31) - nI 1 = nI (2 ^ eG B.1 - 1)
    rw [b3, hone, i_sub (by omega)]
  have eone : (1 : Int32) <<< (σ1.1 10 5 &&& 31) - 1 = nI (2 ^ eG B.1 - 1) := eone
  unfold sTwice
  refine z_metC ⟨rfl, z_go 90 [] ⟨σ1, hc, _, _, c_bridgeC (d + 1) σ1, fun q => ⟨fun q2 => ⟨fun q3 => ⟨_, _, (by rw [eone]; exact ce), _, _, c_allRoads (d + 1) e1 hR, fun q4 => ?_, fun q4 => ?_⟩, fun q3 => ?_⟩, fun q2 => ⟨_, σu, hu, ?_⟩⟩, fun q => ⟨_, σt, ht, ?_⟩⟩⟩
  · rw [b1] at q
    have q : nI (offN B.1) = nI 0 := q
    rw [n_eq (by omega) (by omega)] at q
    rw [b3] at q2
    have q2 : nI (eG B.1) ≤ nI 4 := q2
    rw [n_le (by omega) (by omega)] at q2
    rw [e1] at q3
    have q3 : ¬ nI R = nI 0 := q3
    rw [n_eq (by omega) (by omega)] at q3
    have q4 : ¬ nI (ev B.1 (2 ^ eG B.1 - 1)) = nI (2 ^ R - 1) := q4
    rw [n_eq (by omega) (by omega)] at q4
    rw [if_pos q, if_pos q2, if_neg (by omega), if_neg (by rw [eg]; exact q4)]
    exact ⟨rfl, hR1, hk1⟩
  · rw [b1] at q
    have q : nI (offN B.1) = nI 0 := q
    rw [n_eq (by omega) (by omega)] at q
    rw [b3] at q2
    have q2 : nI (eG B.1) ≤ nI 4 := q2
    rw [n_le (by omega) (by omega)] at q2
    rw [e1] at q3
    have q3 : ¬ nI R = nI 0 := q3
    rw [n_eq (by omega) (by omega)] at q3
    have q4 : nI (ev B.1 (2 ^ eG B.1 - 1)) = nI (2 ^ R - 1) := q4
    rw [n_eq (by omega) (by omega)] at q4
    rw [if_pos q, if_pos q2, if_neg (by omega), if_pos (by rw [eg]; exact q4)]
    exact ⟨rfl, hR1, hk1⟩
  · rw [b1] at q
    have q : nI (offN B.1) = nI 0 := q
    rw [n_eq (by omega) (by omega)] at q
    rw [b3] at q2
    have q2 : nI (eG B.1) ≤ nI 4 := q2
    rw [n_le (by omega) (by omega)] at q2
    rw [e1] at q3
    have q3 : nI R = nI 0 := q3
    rw [n_eq (by omega) (by omega)] at q3
    rw [if_pos q, if_pos q2, if_pos (by omega)]
    exact ⟨rfl, hR1, hk1⟩
  · rw [b1] at q
    have q : nI (offN B.1) = nI 0 := q
    rw [n_eq (by omega) (by omega)] at q
    rw [b3] at q2
    have q2 : ¬ nI (eG B.1) ≤ nI 4 := q2
    rw [n_le (by omega) (by omega)] at q2
    rw [if_pos q, if_neg q2]
    exact ⟨rfl, hRu, hk1.tr hku⟩
  · rw [b1] at q
    have q : ¬ nI (offN B.1) = nI 0 := q
    rw [n_eq (by omega) (by omega)] at q
    rw [if_neg q]
    exact ⟨rfl, hRt, hk1.tr hkt⟩
theorem y_twice (d : Nat) {σ : z_M} {B : zB} (h : RepD σ B) (hv : VB B) : opD (d + 4) k_Md_twice [.ref 53] σ (sTwice B) := by
  obtain ⟨P, R, eP, hP, egP, eR, hR, eg, hse⟩ := hv.1.nat
  have h10 : 2 ^ R ≤ 2 ^ 10 := Nat.pow_le_pow_right (by omega) hR
  have hpos : 0 < 2 ^ R := Nat.pow_pos (by omega)
  have hg := (eG_eq hv.1).1
  have hp : 2 ^ eG B.1 ≤ 2 ^ 10 := Nat.pow_le_pow_right (by omega) (by omega)
  obtain ⟨σ1, hc1, hf1⟩ := c_bridgeSet d h.1 hv.1
  have hR1 := h.scr hf1 (by decide)
  have hk1 := hf1.kD (by decide)
  have hol := off_lt hv.1
  rw [eg] at hol
  obtain ⟨σt, ht, hRt, hkt⟩ := c_finding (d + 2) hR1 (-1000006)
  have e1 : σ1.1 53 1 = nI R := by rw [hR1.1.2.1, eR]
  obtain ⟨σ2, hc2, hf2⟩ := c_genusOf d hR1.1 hv.1 (S := 2 ^ R - 1) (by rw [eg]; omega)
  have ebc : ∀ n, n ≤ R → bc (2 ^ R - 1) n = n := by
    intro n
    induction n with
    | zero => intro _; rfl
    | succ n ih =>
      intro hn
      rw [bc, ih (by omega), if_pos (by rw [all_bit]; exact decide_eq_true (by omega))]
  have ea : mg (gs B.1) (ge B.1) (2 ^ R - 1) (gR B.1) = mga B.1 := by rw [mga, eg]
  have eb : bc (2 ^ R - 1) (gR B.1) = gR B.1 := by rw [eg]; exact ebc R (Nat.le_refl R)
  rw [ea, eb, ← hg] at hc2
  have hR2 := hR1.scr hf2 (by decide)
  have hk2 := hk1.tr (hf2.kD (by decide))
  obtain ⟨σu, hu, hRu, hku⟩ := c_finding (d + 2) hR2 (-1000007)
  obtain ⟨σ3, hc3, hf3, he3⟩ := c_tellEvens d hR2.1 hv.1
  have hR3 := hR2.scr hf3 (by decide)
  have hk3 := hk2.tr (hf3.kD (by decide))
  obtain ⟨-, hev, -⟩ := ev_ok hv.1
  unfold sTwice
  refine z_metD ⟨rfl, z_go 60 [40] ⟨_, σ1, hc1, fun q => ⟨_, _, c_all (d + 2) e1 hR, _, σ2, hc2, fun q2 => ⟨_, σ3, hc3, ?_⟩, fun q2 => ⟨_, σu, hu, ?_⟩⟩, fun q => ⟨_, σt, ht, ?_⟩⟩⟩
  · have q : nI (offN B.1) = nI 0 := q
    rw [n_eq (by omega) (by omega)] at q
    have q2 : nI (eG B.1) ≤ nI 4 := q2
    rw [n_le (by omega) (by omega)] at q2
    rw [if_pos q, if_pos q2]
    have step : ∀ (many : Nat) (σi : z_M) (o : Int32 × zB), many < 19 → fr [78, 79, 80] σ3 σi → (cvs (ev B.1) (2 ^ eG B.1) (2 ^ gR B.1 - 1) many 0 0 1 → o = (nI many, B)) → (¬ cvs (ev B.1) (2 ^ eG B.1) (2 ^ gR B.1 - 1) many 0 0 1 → ∀ σ4, fr [78, 79, 80] σ3 σ4 → z_wp (z_call (d + 3)) none k_Md_twice (pD σ o) 40 [some (.ref 53), some (.int (nI (2 ^ eG B.1))), some (.int (nI (many + 1)))] [] σ4) → z_wp (z_call (d + 3)) none k_Md_twice (pD σ o) 40 [some (.ref 53), some (.int (nI (2 ^ eG B.1))), some (.int (nI many))] [] σi := by
      intro many σi o hm hfi hy hn
      have hRi := hR3.scr hfi (by decide)
      obtain ⟨σ4, hc4, hf4⟩ := c_coversBy (d + 1) hRi.1 hv.1 (n := 2 ^ eG B.1) (many := many) (f := ev B.1) (by omega) (by omega) (fun c _ => (hev c).1) (fun c hc => by rw [hfi.at (by decide)]; exact he3 c hc)
      have hpb := pb_le (cvs (ev B.1) (2 ^ eG B.1) (2 ^ gR B.1 - 1) many 0 0 1)
      refine z_go 40 [40] ⟨_, σ4, hc4, fun z => ?_, fun z => ?_⟩
      · have z : ¬ nI (pb (cvs (ev B.1) (2 ^ eG B.1) (2 ^ gR B.1 - 1) many 0 0 1)) = nI 0 := z
        rw [n_eq (by omega) (by omega)] at z
        rw [hy (pb_1 z)]
        exact ⟨rfl, hRi.scr hf4 (by decide), hk3.tr ((hfi.tr hf4).kD (by decide))⟩
      · show z_wp _ _ _ _ 40 _ _ _
        have z : nI (pb (cvs (ev B.1) (2 ^ eG B.1) (2 ^ gR B.1 - 1) many 0 0 1)) = nI 0 := z
        rw [n_eq (by omega) (by omega)] at z
        rw [show nI many + 1 = nI (many + 1) from nI_add many 1]
        exact hn (pb_0 z) σ4 (hfi.tr hf4)
    show z_wp _ _ _ _ 40 _ _ _
    by_cases c : gR B.1 = 0
    · rw [if_pos c]
      refine step 0 σ3 _ (by omega) fr.rf (fun _ => rfl) (fun z => absurd ?_ z)
      show 0 = 2 ^ gR B.1 - 1
      rw [c]
    · rw [if_neg c]
      obtain ⟨t0, t1, t2, t3⟩ := tw_ok hv.1 (show 0 < gR B.1 by omega)
      refine step 0 σ3 _ (by omega) fr.rf (fun z => absurd z t0) (fun _ σ4 hf4 => ?_)
      refine step 1 σ4 _ (by omega) hf4 (fun z => absurd z t1) (fun _ σ5 hf5 => ?_)
      by_cases c2 : ev B.1 (2 ^ eG B.1 - 1) = 2 ^ gR B.1 - 1
      · rw [if_pos c2]
        exact step 2 σ5 _ (by omega) hf5 (fun _ => rfl) (fun z => absurd (t2.mpr c2) z)
      · rw [if_neg c2]
        refine step 2 σ5 _ (by omega) hf5 (fun z => absurd (t2.mp z) c2) (fun _ σ6 hf6 => ?_)
        exact step 3 σ6 _ (by omega) hf6 (fun _ => rfl) (fun z => absurd (t3 q c2) z)
  · have q : nI (offN B.1) = nI 0 := q
    rw [n_eq (by omega) (by omega)] at q
    have q2 : ¬ nI (eG B.1) ≤ nI 4 := q2
    rw [n_le (by omega) (by omega)] at q2
    rw [if_pos q, if_neg q2]
    exact ⟨rfl, hRu, hk2.tr hku⟩
  · have q : ¬ nI (offN B.1) = nI 0 := q
    rw [n_eq (by omega) (by omega)] at q
    rw [if_neg q]
    exact ⟨rfl, hRt, hk1.tr hkt⟩
