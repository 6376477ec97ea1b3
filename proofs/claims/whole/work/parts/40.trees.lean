/-! the forest's pieces are those of all roads; trees, component -/
theorem gw_lb {R P : Nat} {s e : Nat → Nat} : ∀ {n : Nat}, n ≤ R → (∀ i, i < n → s i < P ∧ e i < P) → (∀ p q, p < P → q < P → ((gw R s e n).1 p = (gw R s e n).1 q ↔ lb s e (2 ^ R - 1) n p = lb s e (2 ^ R - 1) n q)) ∧ (gw R s e n).2.2.1 + mg s e (2 ^ R - 1) n = n
  | 0, _, _ => ⟨fun _ _ _ _ => Iff.rfl, rfl⟩
  | n + 1, hn, h => by
    obtain ⟨E, hm⟩ := gw_lb (R := R) (P := P) (s := s) (e := e) (n := n) (by omega) (fun i hi => h i (by omega))
    obtain ⟨hs, he⟩ := h n (by omega)
    have tb : (2 ^ R - 1).testBit n = true := by
      rw [Nat.testBit_two_pow_sub_one]
      exact decide_eq_true (by omega)
    by_cases c : (gw R s e n).1 (s n) = (gw R s e n).1 (e n)
    · obtain ⟨s1, s2⟩ := lb_same ((E _ _ hs he).mp c)
      rw [gw, gstep, if_pos c, s2]
      refine ⟨fun p q hp hq => ?_, ?_⟩
      · rw [s1, s1]
        exact E p q hp hq
      · show (gw R s e n).2.2.1 + 1 + _ = n + 1
        omega
    · have c2 : lb s e (2 ^ R - 1) n (s n) ≠ lb s e (2 ^ R - 1) n (e n) := fun z => c ((E _ _ hs he).mpr z)
      rw [gw, gstep, if_neg c, mg, if_pos ⟨tb, c2⟩]
      refine ⟨fun p q hp hq => ?_, ?_⟩
      · rw [lb_s, lb_s]
        simp only [tb, true_and]
        exact eqv_merge E hs he hp hq
      · show (gw R s e n).2.2.1 + _ = n + 1
        omega
/-- merges of all roads -/
def mga (N : zN) : Nat := mg (gs N) (ge N) (2 ^ gR N - 1) (gR N)
theorem c_growP (d : Nat) {σ : z_M} {N : zN} (h : netC σ N) (hv : NV N) : ∃ σ', z_call (d + 2) k_Forest_grow [.ref 10, .ref 1] σ none σ' ∧ fr [10, 11, 12, 13] σ σ' ∧ σ'.1 10 3 = nI (gw (gR N) (gs N) (ge N) (gR N)).2.2.2.2 ∧ σ'.1 10 4 = nI (gP N - mga N) ∧ σ'.1 10 5 = nI (gR N - mga N) ∧ (∀ j, j < gR N - mga N → σ'.1 13 j = nI ((gw (gR N) (gs N) (ge N) (gR N)).2.2.2.1 j)) ∧ mga N ≤ gP N ∧ mga N ≤ gR N ∧ (gw (gR N) (gs N) (ge N) (gR N)).2.2.1 = gR N - mga N := by
  obtain ⟨P, R, eP, hP, egP, eR, hR, eg, hse⟩ := hv.nat
  obtain ⟨σ1, hc, hf, b1, b2, b3, b4⟩ := c_grow d h hv
  have hse2 : ∀ i, i < gR N → gs N i < gP N ∧ ge N i < gP N := fun i hi => by rw [eg] at hi; rw [egP]; exact (hse i hi).2.2
  obtain ⟨-, hm⟩ := gw_lb (R := gR N) (P := gP N) (s := gs N) (e := ge N) (Nat.le_refl _) hse2
  have hml : mga N ≤ gP N := mg_le _ hse2
  have hm : (gw (gR N) (gs N) (ge N) (gR N)).2.2.1 + mga N = gR N := hm
  have hg : (gw (gR N) (gs N) (ge N) (gR N)).2.2.1 = gR N - mga N := by omega
  rw [hg] at b2 b3 b4
  refine ⟨σ1, hc, hf, b1, ?_, b3, b4, hml, by omega, hg⟩
  rw [b2, show gR N - (gR N - mga N) = mga N by omega, i_sub hml]
def sTrees (B : zB) : Int32 × zB := (Int32.ofInt (fos (gP B.1) (gR B.1) (gs B.1) (ge B.1) (gP B.1 - mga B.1)), B)
theorem x_trees (d : Nat) {σ : z_M} {B : zB} (h : RepC σ B) (hv : VB B) : opC (d + 16) k_RF_trees [.ref 0] σ (sTrees B) := by
  obtain ⟨P, R, eP, hP, egP, eR, hR, eg, hse⟩ := hv.1.nat
  obtain ⟨σ1, hc, hR1, hk1, y1, y2⟩ := c_look d h hv
  obtain ⟨σ2, hc2, hf2, b1, b2, b3, b4, hml, -⟩ := c_growP (d + 13) hR1.1 hv.1
  refine z_metC ⟨rfl, z_go 60 [] ⟨σ1, hc, σ2, hc2, by (rw [b2]; (first | exact vin (by simp only [al_2, al_3, al_4, al_5, al_7, al_11, al_12, al_13, al_15, al_16, al_17, al_19, al_20, al_21, al_22, al_23, al_24, al_25, al_26, al_28, al_30, al_31, al_32, al_33, al_34, al_36, al_41, al_42, al_43, al_44, al_49, al_50, al_51, al_52, al_54, al_55, al_56, al_57, al_58, al_59, al_60, al_61, al_62, al_63, al_64, al_65, al_66, al_67, al_68, al_69, al_70, al_71, al_72, al_73, al_74, al_75, al_76, al_77, al_78, al_79, al_80]; omega) (by simp only [al_2, al_3, al_4, al_5, al_7, al_11, al_12, al_13, al_15, al_16, al_17, al_19, al_20, al_21, al_22, al_23, al_24, al_25, al_26, al_28, al_30, al_31, al_32, al_33, al_34, al_36, al_41, al_42, al_43, al_44, al_49, al_50, al_51, al_52, al_54, al_55, al_56, al_57, al_58, al_59, al_60, al_61, al_62, al_63, al_64, al_65, al_66, al_67, al_68, al_69, al_70, al_71, al_72, al_73, al_74, al_75, al_76, al_77, al_78, al_79, al_80]; decide) | (simp (disch := omega) only [nL, nI_add, pk_mul, nc, Nat.zero_add, al_2, al_3, al_4, al_5, al_7, al_11, al_12, al_13, al_15, al_16, al_17, al_19, al_20, al_21, al_22, al_23, al_24, al_25, al_26, al_28, al_30, al_31, al_32, al_33, al_34, al_36, al_41, al_42, al_43, al_44, al_49, al_50, al_51, al_52, al_54, al_55, al_56, al_57, al_58, al_59, al_60, al_61, al_62, al_63, al_64, al_65, al_66, al_67, al_68, al_69, al_70, al_71, al_72, al_73, al_74, al_75, al_76, al_77, al_78, al_79, al_80]; exact vin (by omega) (by decide)))), ?_, hR1.scr hf2 (by decide), hk1.tr (hf2.kC (by decide))⟩⟩
  rw [b2, nc (by omega), hf2.at (by decide), y2 _ (by omega)]
  rfl
