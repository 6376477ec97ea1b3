/-! the component's layout -/
theorem i_half : ∀ e, e < 20 → (nI e &&& 1 = nI (e % 2)) ∧ (nI e >>> (1 &&& 31) = nI (e / 2)) ∧ (nI e ^^^ 1 = nI (e ^^^ 1)) := by decide +kernel
theorem poN_lt {N : zN} (hv : NV N) {x : Nat} (h : x < 2 * gR N) : poN N x < gP N := by
  have hs := hv.se (x / 2) (by omega)
  unfold poN
  split
  · exact hs.1
  · exact hs.2
theorem c_postOfC (d : Nat) {σ : z_M} {N : zN} (h : netC σ N) (hv : NV N) {x : Nat} (hx : x < 2 * gR N) : z_call (d + 1) k_Layout_postOf [.ref 1, .int (nI x)] σ (some (.int (nI (poN N x)))) σ := by
  obtain ⟨P, R, eP, hP, egP, eR, hR, eg, hse⟩ := hv.nat
  obtain ⟨h1, h2, -⟩ := i_half x (by omega)
  obtain ⟨es, ee, -⟩ := hse (x / 2) (by omega)
  have f2 : σ.1 2 (x / 2) = nI (gs N (x / 2)) := by rw [(h.2.2.2 (x / 2) (by omega)).1, es]
  have f3 : σ.1 3 (x / 2) = nI (ge N (x / 2)) := by rw [(h.2.2.2 (x / 2) (by omega)).2.1, ee]
  refine ⟨rfl, z_go 30 [] ⟨fun q => ⟨?_, ?_, rfl⟩, fun q => ⟨?_, ?_, rfl⟩⟩⟩
  · rw [h2]
    (first | exact vin (by simp only [al_2, al_3, al_4, al_5, al_7, al_11, al_12, al_13, al_15, al_16, al_17, al_19, al_20, al_21, al_22, al_23, al_24, al_25, al_26, al_28, al_30, al_31, al_32, al_33, al_34, al_36, al_41, al_42, al_43, al_44, al_49, al_50, al_51, al_52, al_54, al_55, al_56, al_57, al_58, al_59, al_60, al_61, al_62, al_63, al_64, al_65, al_66, al_67, al_68, al_69, al_70, al_71, al_72, al_73, al_74, al_75, al_76, al_77, al_78, al_79, al_80]; omega) (by simp only [al_2, al_3, al_4, al_5, al_7, al_11, al_12, al_13, al_15, al_16, al_17, al_19, al_20, al_21, al_22, al_23, al_24, al_25, al_26, al_28, al_30, al_31, al_32, al_33, al_34, al_36, al_41, al_42, al_43, al_44, al_49, al_50, al_51, al_52, al_54, al_55, al_56, al_57, al_58, al_59, al_60, al_61, al_62, al_63, al_64, al_65, al_66, al_67, al_68, al_69, al_70, al_71, al_72, al_73, al_74, al_75, al_76, al_77, al_78, al_79, al_80]; decide) | (simp (disch := omega) only [nL, nI_add, pk_mul, nc, Nat.zero_add, al_2, al_3, al_4, al_5, al_7, al_11, al_12, al_13, al_15, al_16, al_17, al_19, al_20, al_21, al_22, al_23, al_24, al_25, al_26, al_28, al_30, al_31, al_32, al_33, al_34, al_36, al_41, al_42, al_43, al_44, al_49, al_50, al_51, al_52, al_54, al_55, al_56, al_57, al_58, al_59, al_60, al_61, al_62, al_63, al_64, al_65, al_66, al_67, al_68, al_69, al_70, al_71, al_72, al_73, al_74, al_75, al_76, al_77, al_78, al_79, al_80]; exact vin (by omega) (by decide)))
  · rw [h1] at q
    have q : ¬ nI (x % 2) = nI 0 := q
    rw [n_eq (by omega) (by omega)] at q
    rw [h2, nc (by omega), f3, poN, if_neg q]
  · rw [h2]
    (first | exact vin (by simp only [al_2, al_3, al_4, al_5, al_7, al_11, al_12, al_13, al_15, al_16, al_17, al_19, al_20, al_21, al_22, al_23, al_24, al_25, al_26, al_28, al_30, al_31, al_32, al_33, al_34, al_36, al_41, al_42, al_43, al_44, al_49, al_50, al_51, al_52, al_54, al_55, al_56, al_57, al_58, al_59, al_60, al_61, al_62, al_63, al_64, al_65, al_66, al_67, al_68, al_69, al_70, al_71, al_72, al_73, al_74, al_75, al_76, al_77, al_78, al_79, al_80]; omega) (by simp only [al_2, al_3, al_4, al_5, al_7, al_11, al_12, al_13, al_15, al_16, al_17, al_19, al_20, al_21, al_22, al_23, al_24, al_25, al_26, al_28, al_30, al_31, al_32, al_33, al_34, al_36, al_41, al_42, al_43, al_44, al_49, al_50, al_51, al_52, al_54, al_55, al_56, al_57, al_58, al_59, al_60, al_61, al_62, al_63, al_64, al_65, al_66, al_67, al_68, al_69, al_70, al_71, al_72, al_73, al_74, al_75, al_76, al_77, al_78, al_79, al_80]; decide) | (simp (disch := omega) only [nL, nI_add, pk_mul, nc, Nat.zero_add, al_2, al_3, al_4, al_5, al_7, al_11, al_12, al_13, al_15, al_16, al_17, al_19, al_20, al_21, al_22, al_23, al_24, al_25, al_26, al_28, al_30, al_31, al_32, al_33, al_34, al_36, al_41, al_42, al_43, al_44, al_49, al_50, al_51, al_52, al_54, al_55, al_56, al_57, al_58, al_59, al_60, al_61, al_62, al_63, al_64, al_65, al_66, al_67, al_68, al_69, al_70, al_71, al_72, al_73, al_74, al_75, al_76, al_77, al_78, al_79, al_80]; exact vin (by omega) (by decide)))
  · rw [h1] at q
    have q : nI (x % 2) = nI 0 := q
    rw [n_eq (by omega) (by omega)] at q
    rw [h2, nc (by omega), f2, poN, if_pos q]
/-- what stands after the ends below e have been looked at for post p -/
def arI (po : Nat → Nat) (σ : z_M) (p e : Nat) (x y : Int32) : Prop := ((∀ k, k < e → po k ≠ p) ∧ x = -1 ∧ y = -1) ∨ ∃ f l, f ≤ l ∧ l < e ∧ x = nI f ∧ y = nI l ∧ po f = p ∧ po l = p ∧ (∀ k, k < f → po k ≠ p) ∧ (∀ k, l < k → k < e → po k ≠ p) ∧ ∀ k, k < l → po k = p → ∃ g, σ.1 36 k = nI g ∧ k < g ∧ g ≤ l ∧ po g = p ∧ ∀ j, k < j → j < g → po j ≠ p
theorem c_arrangeAt (d : Nat) {σ : z_M} {N : zN} (h : netC σ N) (hv : NV N) {p : Nat} (hp : p < gP N) : ∃ σ', z_call (d + 2) k_Layout_arrangeAt [.ref 35, .ref 1, .int (nI p)] σ (some (.int (nI (pb (¬ aloN N p))))) σ' ∧ (fr [36] σ σ' ∧ (∀ k, k < 2 * gR N → poN N k = p → ∃ f, σ'.1 36 k = nI f ∧ NX (poN N) (2 * gR N) k f) ∧ ∀ k, k < 2 * gR N → poN N k ≠ p → σ'.1 36 k = σ.1 36 k) := by
  obtain ⟨P, R, eP, hP, egP, eR, hR, eg, hse⟩ := hv.nat
  have hpo := fun {x : Nat} (hx : x < 2 * gR N) => poN_lt hv hx
  rw [egP] at hp hpo
  have loop : ∀ (n e : Nat) (σi : z_M) (x y : Int32), e + n = 2 * R → fr [36] σ σi → arI (poN N) σi p e x y → (∀ k, k < 2 * R → poN N k ≠ p → σi.1 36 k = σ.1 36 k) →
      z_wp (z_call (d + 1)) none k_Layout_arrangeAt (fun r s => r = some (.int (nI (pb (¬ aloN N p)))) ∧ (fr [36] σ s ∧ (∀ k, k < 2 * gR N → poN N k = p → ∃ f, s.1 36 k = nI f ∧ NX (poN N) (2 * gR N) k f) ∧ ∀ k, k < 2 * gR N → poN N k ≠ p → s.1 36 k = σ.1 36 k)) 8 [some (.ref 35), some (.ref 1), some (.int (nI p)), some (.int x), some (.int y), some (.int (nI e))] [] σi := by
    intro n
    induction n with
    | zero =>
      intro e σi x y hn hf hI hk
      obtain rfl : e = 2 * R := by omega
      have e1 : σi.1 1 1 = nI R := by rw [hf.at (by decide), h.2.1, eR]
      have e2 : (2 : Int32) * nI R = nI (2 * R) := by
        show nI 2 * nI R = _
        rw [pk_mul]
      rcases hI with ⟨a1, rfl, rfl⟩ | ⟨f, l, a1, a2, rfl, rfl, a3, a4, a5, a6, a7⟩
      · have al : aloN N p := by
          unfold aloN
          rw [eg]
          exact a1
        refine z_go 40 [8] ⟨fun q => ⟨fun q2 => absurd q2 (by decide), fun q2 => ⟨Or.inl rfl, ?_, hf, fun k hk2 hkp => ?_, ?_⟩⟩, fun q => ?_⟩
        · rw [pb_f (fun z => z al)]
          rfl
        · exact absurd hkp (al k hk2)
        · rw [eg]
          exact hk
        · rw [e1, e2] at q
          exact absurd (Int32.le_refl _) q
      · have al : ¬ aloN N p := by
          unfold aloN
          rw [eg]
          exact fun z => z l a2 a4
        refine z_go 40 [8] ⟨fun q => ⟨fun q2 => ⟨by (first | exact vin (by simp only [al_2, al_3, al_4, al_5, al_7, al_11, al_12, al_13, al_15, al_16, al_17, al_19, al_20, al_21, al_22, al_23, al_24, al_25, al_26, al_28, al_30, al_31, al_32, al_33, al_34, al_36, al_41, al_42, al_43, al_44, al_49, al_50, al_51, al_52, al_54, al_55, al_56, al_57, al_58, al_59, al_60, al_61, al_62, al_63, al_64, al_65, al_66, al_67, al_68, al_69, al_70, al_71, al_72, al_73, al_74, al_75, al_76, al_77, al_78, al_79, al_80]; omega) (by simp only [al_2, al_3, al_4, al_5, al_7, al_11, al_12, al_13, al_15, al_16, al_17, al_19, al_20, al_21, al_22, al_23, al_24, al_25, al_26, al_28, al_30, al_31, al_32, al_33, al_34, al_36, al_41, al_42, al_43, al_44, al_49, al_50, al_51, al_52, al_54, al_55, al_56, al_57, al_58, al_59, al_60, al_61, al_62, al_63, al_64, al_65, al_66, al_67, al_68, al_69, al_70, al_71, al_72, al_73, al_74, al_75, al_76, al_77, al_78, al_79, al_80]; decide) | (simp (disch := omega) only [nL, nI_add, pk_mul, nc, Nat.zero_add, al_2, al_3, al_4, al_5, al_7, al_11, al_12, al_13, al_15, al_16, al_17, al_19, al_20, al_21, al_22, al_23, al_24, al_25, al_26, al_28, al_30, al_31, al_32, al_33, al_34, al_36, al_41, al_42, al_43, al_44, al_49, al_50, al_51, al_52, al_54, al_55, al_56, al_57, al_58, al_59, al_60, al_61, al_62, al_63, al_64, al_65, al_66, al_67, al_68, al_69, al_70, al_71, al_72, al_73, al_74, al_75, al_76, al_77, al_78, al_79, al_80]; exact vin (by omega) (by decide))), Or.inr rfl, ?_, fr.wr hf (by decide), fun k hk2 hkp => ?_, fun k hk2 hkp => ?_⟩, fun q2 => ?_⟩, fun q => ?_⟩
        · rw [pb_t al]
          rfl
        · rw [eg] at hk2 ⊢
          rw [nc (by omega)]
          by_cases c : k = l
          · subst c
            refine ⟨f, wr_s, by omega, ?_, Or.inr ⟨a1, fun j hj hj2 => ?_, fun j hj => ?_⟩⟩
            · rw [a3, a4]
            · rw [a4]
              exact a6 j hj hj2
            · rw [a4]
              exact a5 j hj
          · have hkl : k < l := by
              refine Classical.byContradiction fun z => ?_
              exact a6 k (by omega) hk2 hkp
            obtain ⟨g, g1, g2, g3, g4, g5⟩ := a7 k hkl hkp
            refine ⟨g, by rw [wr_k c]; exact g1, by omega, by rw [g4, hkp], Or.inl ⟨g2, fun j hj hj2 => ?_⟩⟩
            rw [hkp]
            exact g5 j hj hj2
        · rw [eg] at hk2
          rw [nc (by omega), wr_k (fun z => hkp (by rw [z]; exact a4))]
          exact hk k hk2 hkp
        · have q2 : ¬ nI 0 ≤ nI l := q2
          rw [n_le (by omega) (by omega)] at q2
          omega
        · rw [e1, e2] at q
          exact absurd (Int32.le_refl _) q
    | succ n ih =>
      intro e σi x y hn hf hI hk
      have e1 : σi.1 1 1 = nI R := by rw [hf.at (by decide), h.2.1, eR]
      have e2 : (2 : Int32) * nI R = nI (2 * R) := by
        show nI 2 * nI R = _
        rw [pk_mul]
      have hN : netC σi N := h.fr (hf.1 1 (by decide)) (hf.1 2 (by decide)) (hf.1 3 (by decide)) (hf.1 4 (by decide)) (hf.1 5 (by decide))
      have hpe := hpo (x := e) (by omega)
      refine z_go 40 [8] ⟨fun q => ?_, fun q => ⟨_, _, c_postOfC d hN hv (x := e) (by omega), fun q2 => ?_, fun q2 => ⟨fun q3 => ?_, fun q3 => ?_⟩⟩⟩
      · rw [e1, e2] at q
        simp (disch := omega) only [nL, nI_add, pk_mul, n_le, n_lt, n_eq] at q
        omega
      · show z_wp _ _ _ _ 8 _ _ _
        rw [n_eq (by omega) (by omega)] at q2
        rw [show nI e + 1 = nI (e + 1) from nI_add e 1]
        refine ih (e + 1) σi x y (by omega) hf ?_ hk
        rcases hI with ⟨a1, ax, ay⟩ | ⟨f, l, a1, a2, ax, ay, a3, a4, a5, a6, a7⟩
        · refine Or.inl ⟨fun k hk2 => ?_, ax, ay⟩
          by_cases c : k = e
          · rw [c]; exact q2
          · exact a1 k (by omega)
        · refine Or.inr ⟨f, l, a1, by omega, ax, ay, a3, a4, a5, fun k hk2 hk3 => ?_, a7⟩
          by_cases c : k = e
          · rw [c]; exact q2
          · exact a6 k hk2 (by omega)
      · rw [n_eq (by omega) (by omega)] at q2
        rcases hI with ⟨a1, ax, ay⟩ | ⟨f, l, a1, a2, ax, ay, a3, a4, a5, a6, a7⟩
        · rw [ax] at q3
          exact absurd q3 (by decide)
        · subst ay
          refine ⟨by (first | exact vin (by simp only [al_2, al_3, al_4, al_5, al_7, al_11, al_12, al_13, al_15, al_16, al_17, al_19, al_20, al_21, al_22, al_23, al_24, al_25, al_26, al_28, al_30, al_31, al_32, al_33, al_34, al_36, al_41, al_42, al_43, al_44, al_49, al_50, al_51, al_52, al_54, al_55, al_56, al_57, al_58, al_59, al_60, al_61, al_62, al_63, al_64, al_65, al_66, al_67, al_68, al_69, al_70, al_71, al_72, al_73, al_74, al_75, al_76, al_77, al_78, al_79, al_80]; omega) (by simp only [al_2, al_3, al_4, al_5, al_7, al_11, al_12, al_13, al_15, al_16, al_17, al_19, al_20, al_21, al_22, al_23, al_24, al_25, al_26, al_28, al_30, al_31, al_32, al_33, al_34, al_36, al_41, al_42, al_43, al_44, al_49, al_50, al_51, al_52, al_54, al_55, al_56, al_57, al_58, al_59, al_60, al_61, al_62, al_63, al_64, al_65, al_66, al_67, al_68, al_69, al_70, al_71, al_72, al_73, al_74, al_75, al_76, al_77, al_78, al_79, al_80]; decide) | (simp (disch := omega) only [nL, nI_add, pk_mul, nc, Nat.zero_add, al_2, al_3, al_4, al_5, al_7, al_11, al_12, al_13, al_15, al_16, al_17, al_19, al_20, al_21, al_22, al_23, al_24, al_25, al_26, al_28, al_30, al_31, al_32, al_33, al_34, al_36, al_41, al_42, al_43, al_44, al_49, al_50, al_51, al_52, al_54, al_55, al_56, al_57, al_58, al_59, al_60, al_61, al_62, al_63, al_64, al_65, al_66, al_67, al_68, al_69, al_70, al_71, al_72, al_73, al_74, al_75, al_76, al_77, al_78, al_79, al_80]; exact vin (by omega) (by decide))), ?_⟩
          show z_wp _ _ _ _ 8 _ _ _
          rw [show nI e + 1 = nI (e + 1) from nI_add e 1, nc (by omega)]
          refine ih (e + 1) _ x (nI e) (by omega) (fr.wr hf (by decide)) (Or.inr ⟨f, e, by omega, by omega, ax, rfl, a3, q2, a5, fun k hk2 hk3 => by omega, fun k hk2 hkp => ?_⟩) (fun k hk2 hkp => ?_)
          · by_cases c : k = l
            · subst c
              exact ⟨e, wr_s, a2, Nat.le_refl e, q2, fun j hj hj2 => a6 j hj hj2⟩
            · have hkl : k < l := by
                refine Classical.byContradiction fun z => ?_
                exact a6 k (by omega) hk2 hkp
              obtain ⟨g, g1, g2, g3, g4, g5⟩ := a7 k hkl hkp
              exact ⟨g, by rw [wr_k c]; exact g1, g2, by omega, g4, g5⟩
          · rw [wr_k (fun z => hkp (by rw [z]; exact a4))]
            exact hk k hk2 hkp
      · rw [n_eq (by omega) (by omega)] at q2
        show z_wp _ _ _ _ 8 _ _ _
        rw [show nI e + 1 = nI (e + 1) from nI_add e 1]
        rcases hI with ⟨a1, ax, ay⟩ | ⟨f, l, a1, a2, ax, ay, a3, a4, a5, a6, a7⟩
        · exact ih (e + 1) σi (nI e) (nI e) (by omega) hf (Or.inr ⟨e, e, Nat.le_refl e, by omega, rfl, rfl, q2, q2, a1, fun k hk2 hk3 => by omega, fun k hk2 hkp => absurd hkp (a1 k hk2)⟩) hk
        · rw [ax] at q3
          have q3 : ¬ nI 0 ≤ nI f := q3
          rw [n_le (by omega) (by omega)] at q3
          omega
  exact z_metR ⟨rfl, z_go 40 [8] (loop (2 * R) 0 σ _ _ (by omega) fr.rf (Or.inl ⟨fun k hk => absurd hk (Nat.not_lt_zero k), rfl, rfl⟩) (fun k _ _ => rfl))⟩
theorem c_arrange (d : Nat) {σ : z_M} {N : zN} (h : netC σ N) (hv : NV N) : ∃ σ', z_call (d + 3) k_Layout_arrange [.ref 35, .ref 1] σ none σ' ∧ (fr [35, 36] σ σ' ∧ (∀ k, k < 2 * gR N → ∃ f, σ'.1 36 k = nI f ∧ NX (poN N) (2 * gR N) k f) ∧ σ'.1 35 1 = nI (cn (aloN N) (gP N))) := by
  obtain ⟨P, R, eP, hP, egP, eR, hR, eg, hse⟩ := hv.nat
  have hpo := fun {x : Nat} (hx : x < 2 * gR N) => poN_lt hv hx
  rw [egP] at hpo
  have loop : ∀ (n p : Nat) (σi : z_M), p + n = P → fr [35, 36] σ σi → (∀ k, k < 2 * gR N → poN N k < p → ∃ f, σi.1 36 k = nI f ∧ NX (poN N) (2 * gR N) k f) → σi.1 35 1 = nI (cn (aloN N) p) →
      z_wp (z_call (d + 2)) none k_Layout_arrange (fun r s => r = none ∧ (fr [35, 36] σ s ∧ (∀ k, k < 2 * gR N → ∃ f, s.1 36 k = nI f ∧ NX (poN N) (2 * gR N) k f) ∧ s.1 35 1 = nI (cn (aloN N) (gP N)))) 7 [some (.ref 35), some (.ref 1), some (.int (nI p))] [] σi := by
    intro n
    induction n with
    | zero =>
      intro p σi hn hf hk hb
      obtain rfl : p = P := by omega
      have e0 : σi.1 1 0 = nI p := by rw [hf.at (by decide), h.1, eP]
      refine z_go 40 [7] ⟨fun q => ⟨rfl, hf, fun k hk2 => hk k hk2 (hpo hk2), ?_⟩, fun q => ?_⟩
      · rw [egP]
        exact hb
      · rw [e0] at q
        exact absurd (Int32.le_refl _) q
    | succ n ih =>
      intro p σi hn hf hk hb
      have e0 : σi.1 1 0 = nI P := by rw [hf.at (by decide), h.1, eP]
      have hN : netC σi N := h.fr (hf.1 1 (by decide)) (hf.1 2 (by decide)) (hf.1 3 (by decide)) (hf.1 4 (by decide)) (hf.1 5 (by decide))
      obtain ⟨σ1, hc, hf1, k1, k2⟩ := c_arrangeAt d hN hv (p := p) (by omega)
      have hf2 : fr [35, 36] σ σ1 := hf.tr (hf1.wk _ (by decide))
      have hk1 : ∀ k, k < 2 * gR N → poN N k < p + 1 → ∃ f, σ1.1 36 k = nI f ∧ NX (poN N) (2 * gR N) k f := by
        intro k hk2 hkp
        by_cases c : poN N k = p
        · exact k1 k hk2 c
        · rw [k2 k hk2 c]
          exact hk k hk2 (by omega)
      have hpb := pb_le (¬ aloN N p)
      have hb1 : σ1.1 35 1 = nI (cn (aloN N) p) := by rw [hf1.at (by decide)]; exact hb
      refine z_go 40 [7] ⟨fun q => ?_, fun q => ⟨_, σ1, hc, fun q2 => ?_, fun q2 => ?_⟩⟩
      · rw [e0] at q
        simp (disch := omega) only [nL, nI_add, pk_mul, n_le, n_lt, n_eq] at q
        omega
      · show z_wp _ _ _ _ 7 _ _ _
        have q2 : ¬ nI (pb (¬ aloN N p)) = nI 0 := q2
        rw [n_eq (by omega) (by omega)] at q2
        rw [show nI p + 1 = nI (p + 1) from nI_add p 1]
        exact ih (p + 1) σ1 (by omega) hf2 hk1 (by rw [cn_n (pb_1 q2)]; exact hb1)
      · show z_wp _ _ _ _ 7 _ _ _
        have q2 : nI (pb (¬ aloN N p)) = nI 0 := q2
        rw [n_eq (by omega) (by omega)] at q2
        have al : aloN N p := Classical.byContradiction fun z => pb_0 q2 z
        rw [show nI p + 1 = nI (p + 1) from nI_add p 1]
        refine ih (p + 1) _ (by omega) (fr.wr hf2 (by decide)) (fun k hk2 hkp => ?_) ?_
        · rw [wr_c (by decide)]
          exact hk1 k hk2 hkp
        · rw [wr_s, cn_p al, hb1]
          exact nI_add _ 1
  exact z_metV ⟨rfl, z_go 40 [7] (loop P 0 _ (by omega) (by (repeat (first | exact fr.rf | refine fr.cp ?_ (by decide) | refine fr.wr ?_ (by decide) | refine fr.wl ?_ (by decide)))) (fun k _ hkp => absurd hkp (Nat.not_lt_zero _)) wr_s)⟩
theorem c_orbit (d : Nat) {σ : z_M} {N : zN} (hR : gR N ≤ 10) (hn : ∀ k, k < 2 * gR N → ∃ f, σ.1 36 k = nI f ∧ NX (poN N) (2 * gR N) k f) {e L : Nat} (he : e < 2 * gR N) (hL : isP (fcN N) e L) : z_call (d + 1) k_Layout_orbit [.ref 35, .int (nI e)] σ (some (.int (nI (osF (fcN N) e L)))) σ := by
  obtain ⟨hF, hi⟩ := fc_ok hR
  have hLM : L ≤ 20 := by
    obtain ⟨L', h1, h2⟩ := isP_ex hF hi he
    rw [isP_fun hL h1]
    omega
  have h20 : 2 ^ (2 * gR N) ≤ 2 ^ 20 := Nat.pow_le_pow_right (by omega) (by omega)
  have hos := fun n => osF_lt hF he n
  have loop : ∀ (m i : Nat), i + m = L → z_wp (z_call d) none k_Layout_orbit (fun r s => r = some (.int (nI (osF (fcN N) e L))) ∧ s = σ) 7 [some (.ref 35), some (.int (nI e)), some (.int (nI (osF (fcN N) e i))), some (.int (nI (itF (fcN N) i e))), some (.int (nI i))] [] σ := by
    intro m
    induction m with
    | zero =>
      intro i hm
      obtain rfl : i = L := by omega
      have hl := hos i
      have hb : (osF (fcN N) e i).testBit (itF (fcN N) i e) = true := by
        rw [hL.2.1, osF_bit]
        exact ⟨0, hL.1, rfl⟩
      have hlt := itF_lt hF he i
      refine z_go 40 [7] ⟨fun q => ⟨rfl, rfl⟩, fun q => ⟨fun q2 => ⟨rfl, rfl⟩, fun q2 => ?_⟩⟩
      rw [i_bit (by omega) (by omega), bq_t hb] at q2
      exact absurd q2 (by decide)
    | succ m ih =>
      intro i hm
      have hl := hos i
      have hlt := itF_lt hF he i
      have hb : ¬ (osF (fcN N) e i).testBit (itF (fcN N) i e) = true := by
        intro z
        obtain ⟨j, hj, ej⟩ := (osF_bit _ _ _ _).mp z
        exact isP_ne hF hi he hL hj (by omega) ej
      have hx := x1_in hR hlt
      obtain ⟨f, hf1, hf2⟩ := hn _ hx
      have hone := i_one (itF (fcN N) i e) (by omega)
      have h3 := (i_half (itF (fcN N) i e) (by omega)).2.2
      refine z_go 40 [7] ⟨fun q => ?_, fun q => ⟨fun q2 => ?_, fun q2 => ⟨?_, ?_⟩⟩⟩
      · simp (disch := omega) only [nL, nI_add, pk_mul, n_le, n_lt, n_eq] at q
        omega
      · rw [i_bit (by omega) (by omega), bq_f hb] at q2
        exact absurd rfl q2
      · rw [h3]
        (first | exact vin (by simp only [al_2, al_3, al_4, al_5, al_7, al_11, al_12, al_13, al_15, al_16, al_17, al_19, al_20, al_21, al_22, al_23, al_24, al_25, al_26, al_28, al_30, al_31, al_32, al_33, al_34, al_36, al_41, al_42, al_43, al_44, al_49, al_50, al_51, al_52, al_54, al_55, al_56, al_57, al_58, al_59, al_60, al_61, al_62, al_63, al_64, al_65, al_66, al_67, al_68, al_69, al_70, al_71, al_72, al_73, al_74, al_75, al_76, al_77, al_78, al_79, al_80]; omega) (by simp only [al_2, al_3, al_4, al_5, al_7, al_11, al_12, al_13, al_15, al_16, al_17, al_19, al_20, al_21, al_22, al_23, al_24, al_25, al_26, al_28, al_30, al_31, al_32, al_33, al_34, al_36, al_41, al_42, al_43, al_44, al_49, al_50, al_51, al_52, al_54, al_55, al_56, al_57, al_58, al_59, al_60, al_61, al_62, al_63, al_64, al_65, al_66, al_67, al_68, al_69, al_70, al_71, al_72, al_73, al_74, al_75, al_76, al_77, al_78, al_79, al_80]; decide) | (simp (disch := omega) only [nL, nI_add, pk_mul, nc, Nat.zero_add, al_2, al_3, al_4, al_5, al_7, al_11, al_12, al_13, al_15, al_16, al_17, al_19, al_20, al_21, al_22, al_23, al_24, al_25, al_26, al_28, al_30, al_31, al_32, al_33, al_34, al_36, al_41, al_42, al_43, al_44, al_49, al_50, al_51, al_52, al_54, al_55, al_56, al_57, al_58, al_59, al_60, al_61, al_62, al_63, al_64, al_65, al_66, al_67, al_68, al_69, al_70, al_71, al_72, al_73, al_74, al_75, al_76, al_77, al_78, al_79, al_80]; exact vin (by omega) (by decide)))
      · show z_wp _ _ _ _ 7 _ _ _
        have nx := ih (i + 1) (by omega)
        have ef : itF (fcN N) (i + 1) e = f := by
          show nxf (poN N) (2 * gR N) (itF (fcN N) i e ^^^ 1) = f
          exact nxf_eq hf2
        rw [ef] at nx
        rw [h3, nc (by omega), hf1, hone, i_or, show nI i + 1 = nI (i + 1) from nI_add i 1]
        exact nx
  exact ⟨rfl, z_go 40 [7] (loop L 0 (by omega))⟩
theorem c_orbits (d : Nat) {σ : z_M} {N : zN} (h : netC σ N) (hv : NV N) (hn : ∀ k, k < 2 * gR N → ∃ f, σ.1 36 k = nI f ∧ NX (poN N) (2 * gR N) k f) {b : Nat} (hb : σ.1 35 1 = nI b) (hb2 : b ≤ 6) : z_call (d + 2) k_Layout_orbits [.ref 35, .ref 1] σ (some (.int (nI (b + cn (leaF (fcN N)) (2 * gR N))))) σ := by
  obtain ⟨P, R, eP, hP, egP, eR, hR, eg, hse⟩ := hv.nat
  have hR' : gR N ≤ 10 := by omega
  obtain ⟨hF, hi⟩ := fc_ok hR'
  have e1 : σ.1 1 1 = nI R := by rw [h.2.1, eR]
  have e2 : (2 : Int32) * nI R = nI (2 * R) := by
    show nI 2 * nI R = _
    rw [pk_mul]
  have h20 : 2 ^ (2 * gR N) ≤ 2 ^ 20 := Nat.pow_le_pow_right (by omega) (by omega)
  have loop : ∀ (m e S : Nat), e + m = 2 * R → S < 2 ^ (2 * gR N) → (∀ k, (S.testBit k = true ↔ ∃ x, x < e ∧ onF (fcN N) x k)) →
      z_wp (z_call (d + 1)) none k_Layout_orbits (fun r s => r = some (.int (nI (b + cn (leaF (fcN N)) (2 * gR N)))) ∧ s = σ) 10 [some (.ref 35), some (.ref 1), some (.int (nI S)), some (.int (nI (b + cn (leaF (fcN N)) e))), some (.int (nI e))] [] σ := by
    intro m
    induction m with
    | zero =>
      intro e S hm hS hk
      obtain rfl : e = 2 * R := by omega
      refine z_go 40 [10] ⟨fun q => ⟨by rw [eg], rfl⟩, fun q => ?_⟩
      rw [e1, e2] at q
      exact absurd (Int32.le_refl _) q
    | succ m ih =>
      intro e S hm hS hk
      have he : e < 2 * gR N := by omega
      obtain ⟨L, hL, hLM⟩ := isP_ex hF hi he
      have hbq := bq_le S e
      have co := c_orbit d hR' hn he hL
      have hos := osF_lt hF he L
      refine z_go 40 [10] ⟨fun q => ?_, fun q => ⟨fun q2 => ?_, fun q2 => ⟨_, _, co, ?_⟩⟩⟩
      · rw [e1, e2] at q
        simp (disch := omega) only [nL, nI_add, pk_mul, n_le, n_lt, n_eq] at q
        omega
      · show z_wp _ _ _ _ 10 _ _ _
        rw [i_bit (by omega) (by omega)] at q2
        have q2 : ¬ nI (bq S e) = nI 0 := q2
        rw [n_eq (by omega) (by omega)] at q2
        have hb3 : S.testBit e = true := Classical.byContradiction fun z => q2 (bq_f z)
        obtain ⟨x, hx, hxe⟩ := (hk e).mp hb3
        obtain ⟨Lx, hLx, -⟩ := isP_ex hF hi (show x < 2 * gR N by omega)
        have nl : ¬ leaF (fcN N) e := fun z => by
          have := z x (onF_sym hLx hxe)
          omega
        have nx := ih (e + 1) S (by omega) hS (fun k => (hk k).trans ⟨fun ⟨y, hy, hyk⟩ => ⟨y, by omega, hyk⟩, fun ⟨y, hy, hyk⟩ => by
          by_cases c : y = e
          · rw [c] at hyk
            exact ⟨x, hx, onF_tr hxe hyk⟩
          · exact ⟨y, by omega, hyk⟩⟩)
        rw [cn_n nl] at nx
        rw [show nI e + 1 = nI (e + 1) from nI_add e 1]
        exact nx
      · show z_wp _ _ _ _ 10 _ _ _
        rw [i_bit (by omega) (by omega)] at q2
        have q2 : nI (bq S e) = nI 0 := q2
        rw [n_eq (by omega) (by omega)] at q2
        have hb3 : ¬ S.testBit e = true := fun z => by rw [bq_t z] at q2; omega
        have le : leaF (fcN N) e := fun k hk2 => by
          refine Classical.byContradiction fun z => ?_
          exact hb3 ((hk e).mpr ⟨k, by omega, onF_sym hL hk2⟩)
        have nx := ih (e + 1) (S ||| osF (fcN N) e L) (by omega) (Nat.or_lt_two_pow hS hos) (fun k => by
          rw [Nat.testBit_or, Bool.or_eq_true, hk k, osF_bit, ← onF_lt hL]
          constructor
          · rintro (⟨y, hy, hyk⟩ | z)
            · exact ⟨y, by omega, hyk⟩
            · exact ⟨e, by omega, z⟩
          · rintro ⟨y, hy, hyk⟩
            by_cases c : y = e
            · rw [c] at hyk
              exact Or.inr hyk
            · exact Or.inl ⟨y, by omega, hyk⟩)
        rw [cn_p le, ← Nat.add_assoc] at nx
        rw [i_or, show nI e + 1 = nI (e + 1) from nI_add e 1, show nI (b + cn (leaF (fcN N)) e) + 1 = nI (b + cn (leaF (fcN N)) e + 1) from nI_add _ 1]
        exact nx
  have st := loop (2 * R) 0 0 (by omega) (Nat.pow_pos (by omega)) (fun k => by
    constructor
    · intro z
      rw [Nat.zero_testBit] at z
      cases z
    · rintro ⟨x, hx, -⟩
      exact absurd hx (Nat.not_lt_zero x))
  refine ⟨rfl, z_go 40 [10] ?_⟩
  show z_wp _ _ _ _ 10 _ _ _
  rw [hb]
  exact st
noncomputable def sFaces (B : zB) : Int32 × zB := (nI (cn (aloN B.1) (gP B.1) + cn (leaF (fcN B.1)) (2 * gR B.1)), B)
theorem v_faces {B : zB} (h : VB B) : VB (sFaces B).2 := h
theorem x_faces (d : Nat) {σ : z_M} {B : zB} (h : RepC σ B) (hv : VB B) : opC (d + 4) k_RF_faces [.ref 0] σ (sFaces B) := by
  obtain ⟨P, R, eP, hP, egP, eR, hR, eg, hse⟩ := hv.1.nat
  obtain ⟨σ1, hc, hf, k1, k2⟩ := c_arrange d h.1 hv.1
  have hR1 := h.scr hf (by decide)
  have hcl := cn_le (aloN B.1) (gP B.1)
  exact z_metC ⟨rfl, z_go 60 [] ⟨σ1, hc, _, _, c_orbits (d + 1) hR1.1 hv.1 k1 k2 (by omega), rfl, hR1, hf.kC (by decide)⟩⟩
