/-! the model's parting -/
theorem c_lowD (d : Nat) {σ : z_M} {N : zN} (h : netD σ N) (hv : NV N) {ρ : Nat → Nat} (hρ : ∀ i, i < gR N → σ.1 70 i = nI (ρ i) ∧ ρ i ≤ 100) (x : Int32) (Q : Nat → Prop) (h1 : x < 0 → ∀ i, i < gR N → (Q i ↔ 0 < ρ i)) (h2 : ¬ x < 0 → ∀ i, i < gR N → (Q i ↔ 0 < ρ i ∧ nI (gs N i) = x)) {y : Int32} (hy : (∃ r, LR (gR N) Q r ∧ y = nI r) ∨ ((∀ i, i < gR N → ¬ Q i) ∧ y = -1)) : z_call (d + 1) k_Md_lowest [.ref 53, .int x] σ (some (.int y)) σ := by
  obtain ⟨P, R, eP, hP, egP, eR, hR, eg, hse⟩ := hv.nat
  have e1 : σ.1 53 1 = nI R := by rw [h.2.1, eR]
  rw [eg] at hρ h1 h2 hy
  have loop : ∀ (n i : Nat), i + n = R → (∀ k, k < i → ¬ Q k) → z_wp (z_call d) none k_Md_lowest (fun r s => r = some (.int y) ∧ s = σ) 2 [some (.ref 53), some (.int x), some (.int (nI i))] [] σ := by
    intro n
    induction n with
    | zero =>
      intro i hn hk
      obtain rfl : i = R := by omega
      refine z_go 40 [2] ⟨fun q => ⟨?_, rfl⟩, fun q => ?_⟩
      · rcases hy with ⟨r, hr, -⟩ | ⟨-, rfl⟩
        · exact absurd hr.2.1 (hk r hr.1)
        · rfl
      · rw [e1] at q
        exact absurd (Int32.le_refl _) q
    | succ n ih =>
      intro i hn hk
      obtain ⟨es, ee, hs, he⟩ := hse i (by omega)
      have f2 : σ.1 54 i = nI (gs N i) := by rw [(h.2.2.2 i (by omega)).1, es]
      obtain ⟨r1, r2⟩ := hρ i (by omega)
      have next : ¬ Q i → z_wp (z_call d) none k_Md_lowest (fun r s => r = some (.int y) ∧ s = σ) 2 [some (.ref 53), some (.int x), some (.int (nI i + 1))] [] σ := by
        intro hq
        rw [show nI i + 1 = nI (i + 1) from nI_add i 1]
        refine ih (i + 1) (by omega) (fun k hk2 => ?_)
        by_cases c : k = i
        · rw [c]; exact hq
        · exact hk k (by omega)
      have found : Q i → y = nI i := by
        intro hq
        rcases hy with ⟨r, hr, rfl⟩ | ⟨hno, -⟩
        · rw [LR_fun hr ⟨by omega, hq, hk⟩]
        · exact absurd hq (hno i (by omega))
      refine z_go 40 [2] ⟨fun q => ?_, fun q => ⟨by (first | exact vin (by simp only [al_2, al_3, al_4, al_5, al_7, al_11, al_12, al_13, al_15, al_16, al_17, al_19, al_20, al_21, al_22, al_23, al_24, al_25, al_26, al_28, al_30, al_31, al_32, al_33, al_34, al_36, al_41, al_42, al_43, al_44, al_49, al_50, al_51, al_52, al_54, al_55, al_56, al_57, al_58, al_59, al_60, al_61, al_62, al_63, al_64, al_65, al_66, al_67, al_68, al_69, al_70, al_71, al_72, al_73, al_74, al_75, al_76, al_77, al_78, al_79, al_80]; omega) (by simp only [al_2, al_3, al_4, al_5, al_7, al_11, al_12, al_13, al_15, al_16, al_17, al_19, al_20, al_21, al_22, al_23, al_24, al_25, al_26, al_28, al_30, al_31, al_32, al_33, al_34, al_36, al_41, al_42, al_43, al_44, al_49, al_50, al_51, al_52, al_54, al_55, al_56, al_57, al_58, al_59, al_60, al_61, al_62, al_63, al_64, al_65, al_66, al_67, al_68, al_69, al_70, al_71, al_72, al_73, al_74, al_75, al_76, al_77, al_78, al_79, al_80]; decide) | (simp (disch := omega) only [nL, nI_add, pk_mul, nc, Nat.zero_add, al_2, al_3, al_4, al_5, al_7, al_11, al_12, al_13, al_15, al_16, al_17, al_19, al_20, al_21, al_22, al_23, al_24, al_25, al_26, al_28, al_30, al_31, al_32, al_33, al_34, al_36, al_41, al_42, al_43, al_44, al_49, al_50, al_51, al_52, al_54, al_55, al_56, al_57, al_58, al_59, al_60, al_61, al_62, al_63, al_64, al_65, al_66, al_67, al_68, al_69, al_70, al_71, al_72, al_73, al_74, al_75, al_76, al_77, al_78, al_79, al_80]; exact vin (by omega) (by decide))), fun q2 => ?_, fun q2 => ⟨fun q3 => ⟨?_, rfl⟩, fun q3 => ⟨by (first | exact vin (by simp only [al_2, al_3, al_4, al_5, al_7, al_11, al_12, al_13, al_15, al_16, al_17, al_19, al_20, al_21, al_22, al_23, al_24, al_25, al_26, al_28, al_30, al_31, al_32, al_33, al_34, al_36, al_41, al_42, al_43, al_44, al_49, al_50, al_51, al_52, al_54, al_55, al_56, al_57, al_58, al_59, al_60, al_61, al_62, al_63, al_64, al_65, al_66, al_67, al_68, al_69, al_70, al_71, al_72, al_73, al_74, al_75, al_76, al_77, al_78, al_79, al_80]; omega) (by simp only [al_2, al_3, al_4, al_5, al_7, al_11, al_12, al_13, al_15, al_16, al_17, al_19, al_20, al_21, al_22, al_23, al_24, al_25, al_26, al_28, al_30, al_31, al_32, al_33, al_34, al_36, al_41, al_42, al_43, al_44, al_49, al_50, al_51, al_52, al_54, al_55, al_56, al_57, al_58, al_59, al_60, al_61, al_62, al_63, al_64, al_65, al_66, al_67, al_68, al_69, al_70, al_71, al_72, al_73, al_74, al_75, al_76, al_77, al_78, al_79, al_80]; decide) | (simp (disch := omega) only [nL, nI_add, pk_mul, nc, Nat.zero_add, al_2, al_3, al_4, al_5, al_7, al_11, al_12, al_13, al_15, al_16, al_17, al_19, al_20, al_21, al_22, al_23, al_24, al_25, al_26, al_28, al_30, al_31, al_32, al_33, al_34, al_36, al_41, al_42, al_43, al_44, al_49, al_50, al_51, al_52, al_54, al_55, al_56, al_57, al_58, al_59, al_60, al_61, al_62, al_63, al_64, al_65, al_66, al_67, al_68, al_69, al_70, al_71, al_72, al_73, al_74, al_75, al_76, al_77, al_78, al_79, al_80]; exact vin (by omega) (by decide))), fun q4 => ?_, fun q4 => ⟨?_, rfl⟩⟩⟩⟩⟩
      · rw [e1] at q
        simp (disch := omega) only [nL, nI_add, pk_mul, n_le, n_lt, n_eq] at q
        omega
      · rw [nc (by omega), r1] at q2
        have q2 : nI (ρ i) ≤ nI 0 := q2
        rw [n_le (by omega) (by omega)] at q2
        refine next (fun hq => ?_)
        by_cases c : x < 0
        · have := (h1 c i (by omega)).mp hq
          omega
        · have := ((h2 c i (by omega)).mp hq).1
          omega
      · rw [nc (by omega), r1] at q2
        have q2 : ¬ nI (ρ i) ≤ nI 0 := q2
        rw [n_le (by omega) (by omega)] at q2
        rw [found ((h1 q3 i (by omega)).mpr (by omega))]
      · rw [nc (by omega), f2] at q4
        exact next (fun hq => q4 ((h2 q3 i (by omega)).mp hq).2)
      · rw [nc (by omega), r1] at q2
        have q2 : ¬ nI (ρ i) ≤ nI 0 := q2
        rw [n_le (by omega) (by omega)] at q2
        rw [nc (by omega), f2] at q4
        rw [found ((h2 q3 i (by omega)).mpr ⟨by omega, q4⟩)]
  exact ⟨rfl, z_go 40 [2] (loop R 0 (by omega) (fun k hk => absurd hk (Nat.not_lt_zero k)))⟩
noncomputable def lowY (N : zN) (t : Nat) : Int32 := @ite _ (prZ N t) (Classical.propDecidable _) (-1) (nI (lrf (gR N) (posQ (prs N t))))
theorem c_lowY (d : Nat) {σ : z_M} {N : zN} (h : netD σ N) (hv : NV N) {t : Nat} (hρ : ∀ i, i < gR N → σ.1 70 i = nI (prs N t i) ∧ prs N t i ≤ 100) : z_call (d + 1) k_Md_lowest [.ref 53, .int (-1)] σ (some (.int (lowY N t))) σ := by
  refine c_lowD d h hv hρ (-1) (posQ (prs N t)) (fun _ i _ => Iff.rfl) (fun z => absurd (by decide) z) ?_
  by_cases c : prZ N t
  · right
    refine ⟨fun i hi y => ?_, ?_⟩
    · have := c i hi
      unfold posQ at y
      omega
    · unfold lowY
      rw [if_pos c]
  · left
    have hp : ∃ i, i < gR N ∧ posQ (prs N t) i := by
      refine Classical.byContradiction fun z => c (fun i hi => ?_)
      refine Classical.byContradiction fun y => z ⟨i, hi, by unfold posQ; omega⟩
    obtain ⟨r, hr⟩ := LR_ex hp
    refine ⟨r, hr, ?_⟩
    unfold lowY
    rw [if_neg c, lrf_eq hr]
theorem c_partRounds (d : Nat) {σ : z_M} {N : zN} (h : netD σ N) (hv : NV N) (hn : ∀ i, i < gR N → nV N i = nI (vN N i) ∧ vN N i ≤ 100) (hb : bal (gP N) (gR N) (gs N) (ge N) (vN N)) :
    ∃ σ', z_call (d + 2) k_Md_partRounds [.ref 53] σ (some (.int (nI (prN N)))) σ' ∧ (fr [70, 71, 72, 73, 74] σ σ' ∧ ∀ k, k < prN N → σ'.1 71 k = nI (rdS (gR N) (gs N) (ge N) (prs N k)) ∧ σ'.1 72 k = nI (rdM (gR N) (gs N) (ge N) (prs N k))) := by
  obtain ⟨P, R, eP, hP, egP, eR, hR, eg, hse⟩ := hv.nat
  have hnum := prN_ok hv.se hb (fun i hi => (hn i hi).2)
  have hnl := hnum.1
  have h10 : 2 ^ R ≤ 2 ^ 10 := Nat.pow_le_pow_right (by omega) hR
  have hNf : ∀ σi, fr [70, 71, 72, 73, 74] σ σi → netD σi N := fun σi hf => h.fr (hf.at (by decide) _) (hf.at (by decide) _) (hf.at (by decide) _) (hf.1 54 (by decide)) (hf.1 55 (by decide)) (hf.1 56 (by decide)) (hf.1 57 (by decide))
  have main : ∀ (n t : Nat) (σi : z_M) (l3 l4 l5 l6 l7 : Option Value), t + n = prN N → fr [70, 71, 72, 73, 74] σ σi → (∀ i, i < gR N → σi.1 70 i = nI (prs N t i)) → (∀ k, k < t → σi.1 71 k = nI (rdS (gR N) (gs N) (ge N) (prs N k)) ∧ σi.1 72 k = nI (rdM (gR N) (gs N) (ge N) (prs N k))) →
      z_wp (z_call (d + 1)) none k_Md_partRounds (fun r s => r = some (.int (nI (prN N))) ∧ (fr [70, 71, 72, 73, 74] σ s ∧ ∀ k, k < prN N → s.1 71 k = nI (rdS (gR N) (gs N) (ge N) (prs N k)) ∧ s.1 72 k = nI (rdM (gR N) (gs N) (ge N) (prs N k)))) 36 [some (.ref 53), some (.int (nI t)), some (.int (lowY N t)), l3, l4, l5, l6, l7] [] σi := by
    intro n
    induction n with
    | zero =>
      intro t σi l3 l4 l5 l6 l7 ht hf hr hk
      obtain rfl : t = prN N := by omega
      have e : lowY N (prN N) = -1 := by
        unfold lowY
        rw [if_pos hnum.2.1]
      rw [e]
      exact z_go 40 [2, 36, 42, 73, 139, 210] ⟨fun q => ⟨rfl, hf, hk⟩, fun q => absurd (by decide) q⟩
    | succ n ih =>
      intro t σi l3 l4 l5 l6 l7 ht hf hr hk
      have hz : ∀ u, u < t → ¬ prZ N u := fun u hu => hnum.2.2 u (by omega)
      have hzt : ¬ prZ N t := hnum.2.2 t (by omega)
      have hzt1 : ∀ u, u < t + 1 → ¬ prZ N u := fun u hu => hnum.2.2 u (by omega)
      obtain ⟨i1, i2, i3⟩ := prs_inv hv.se hb (fun i hi => (hn i hi).2) t hz
      obtain ⟨-, i5, -⟩ := prs_inv hv.se hb (fun i hi => (hn i hi).2) (t + 1) hzt1
      have hp : ∃ i, i < gR N ∧ 0 < prs N t i := by
        refine Classical.byContradiction fun z => hzt (fun i hi => ?_)
        refine Classical.byContradiction fun y => z ⟨i, hi, by omega⟩
      obtain ⟨r, j, m, hrr, ea, ej, hjm, hmP, e0, hw, -, -, -, h100⟩ := rd_ok hv.se i1 i2 hp
      have eY : lowY N t = nI r := by
        unfold lowY
        rw [if_neg hzt, lrf_eq hrr]
      have eS : rdS (gR N) (gs N) (ge N) (prs N t) = rSet (rdW (gR N) (gs N) (ge N) (prs N t)) j (m - j) := by unfold rdS; rw [ej]
      have eM : rdM (gR N) (gs N) (ge N) (prs N t) = rMin (prs N t) (rdW (gR N) (gs N) (ge N) (prs N t)) 1000 j (m - j) := by
        unfold rdM
        rw [ej]
        exact rMin_c h100 (fun k => by have := h100 k; omega) (by have := hjm.1; show 0 < m - j; omega)
      have eX : prs N (t + 1) = rSub (prs N t) (rdW (gR N) (gs N) (ge N) (prs N t)) (rMin (prs N t) (rdW (gR N) (gs N) (ge N) (prs N t)) 1000 j (m - j)) j (m - j) := by
        show rdP (gR N) (gs N) (ge N) (prs N t) = _
        unfold rdP
        rw [ej, eM]
      have hWE : ∀ k, ge N (rdW (gR N) (gs N) (ge N) (prs N t) k) = itF (wG (gR N) (gs N) (ge N) (prs N t)) (k + 1) (gs N r) := by
        intro k
        unfold rdW
        rw [ea]
        rfl
      have hWS : ∀ k, gs N (rdW (gR N) (gs N) (ge N) (prs N t) k) = itF (wG (gR N) (gs N) (ge N) (prs N t)) k (gs N r) := fun k => (hw k).2.2.1.2
      have hWl : ∀ k, rdW (gR N) (gs N) (ge N) (prs N t) k < R := fun k => by have := (hw k).2.1; omega
      have hAl : ∀ k, itF (wG (gR N) (gs N) (ge N) (prs N t)) k (gs N r) < P := fun k => by have := (hw k).1; omega
      have hd : ∀ x y, x < y → y < m - j → rdW (gR N) (gs N) (ge N) (prs N t) (j + x) ≠ rdW (gR N) (gs N) (ge N) (prs N t) (j + y) := by
        intro x y hxy hy q
        refine hjm.2.2 (j + x) (j + y) (by omega) (by omega) ?_
        rw [← hWS, ← hWS, q]
      have hj := hjm.1
      have hrl := hrr.1
      generalize hA : (fun k => itF (wG (gR N) (gs N) (ge N) (prs N t)) k (gs N r)) = A at *
      have eA : ∀ k, itF (wG (gR N) (gs N) (ge N) (prs N t)) k (gs N r) = A k := fun k => by rw [← hA]
      generalize hW : rdW (gR N) (gs N) (ge N) (prs N t) = w at *
      simp only [eA] at hWE hWS hAl hw
      have hjA : A j = A m := by rw [← eA, ← eA]; exact hjm.2.1
      have hdA : ∀ i k, i < k → k < m → A i ≠ A k := fun i k hik hkm => by rw [← eA, ← eA]; exact hjm.2.2 i k hik hkm
      have eA0 : A 0 = gs N r := (eA 0).symm
      have hρ : ∀ i, i < R → prs N t i ≤ 100 := fun i hi => i2 i (by omega)
      have hM1 : rMin (prs N t) w 1000 j (m - j) ≤ 100 := by
        have := rMin_le (ρ := prs N t) (w := w) (c := 1000) (j := j) (t := m - j) (k := 0) (by omega)
        have := h100 (j + 0)
        omega
      rw [eY]
      have sub : ∀ (q u : Nat) (σk : z_M), u + q = m - j → fr [70, 71, 72, 73, 74] σ σk → (∀ i, i < R → σk.1 70 i = nI (rSub (prs N t) w (rMin (prs N t) w 1000 j (m - j)) j u i)) → (∀ k, k < m → σk.1 73 k = nI (w k)) → (∀ k, k < t → σk.1 71 k = nI (rdS (gR N) (gs N) (ge N) (prs N k)) ∧ σk.1 72 k = nI (rdM (gR N) (gs N) (ge N) (prs N k))) →
          z_wp (z_call (d + 1)) none k_Md_partRounds (fun r s => r = some (.int (nI (prN N))) ∧ (fr [70, 71, 72, 73, 74] σ s ∧ ∀ k, k < prN N → s.1 71 k = nI (rdS (gR N) (gs N) (ge N) (prs N k)) ∧ s.1 72 k = nI (rdM (gR N) (gs N) (ge N) (prs N k)))) 210 [some (.ref 53), some (.int (nI t)), some (.int (nI r)), some (.int (nI m)), some (.int (nI (A m))), some (.int (nI (rMin (prs N t) w 1000 j (m - j)))), some (.int (nI (rSet w j (m - j)))), some (.int (nI (j + u)))] [] σk := by
        intro q
        induction q with
        | zero =>
          intro u σk hq hfk hrk hpk hkk
          obtain rfl : u = m - j := by omega
          have hf2 : fr [70, 71, 72, 73, 74] σ (z_wr (z_wr σk 71 t (nI (rSet w j (m - j)))) 72 t (nI (rMin (prs N t) w 1000 j (m - j)))) := fr.wr (fr.wr hfk (by decide)) (by decide)
          have hr2 : ∀ i, i < gR N → (z_wr (z_wr σk 71 t (nI (rSet w j (m - j)))) 72 t (nI (rMin (prs N t) w 1000 j (m - j)))).1 70 i = nI (prs N (t + 1) i) := by
            intro i hi
            rw [wr_c (by decide), wr_c (by decide), eX]
            exact hrk i (by omega)
          have cl := c_lowY d (hNf _ hf2) hv (t := t + 1) (fun i hi => ⟨hr2 i hi, i5 i hi⟩)
          refine z_go 60 [2, 36, 42, 73, 139, 210] ⟨fun z => ⟨by (first | exact vin (by simp only [al_2, al_3, al_4, al_5, al_7, al_11, al_12, al_13, al_15, al_16, al_17, al_19, al_20, al_21, al_22, al_23, al_24, al_25, al_26, al_28, al_30, al_31, al_32, al_33, al_34, al_36, al_41, al_42, al_43, al_44, al_49, al_50, al_51, al_52, al_54, al_55, al_56, al_57, al_58, al_59, al_60, al_61, al_62, al_63, al_64, al_65, al_66, al_67, al_68, al_69, al_70, al_71, al_72, al_73, al_74, al_75, al_76, al_77, al_78, al_79, al_80]; omega) (by simp only [al_2, al_3, al_4, al_5, al_7, al_11, al_12, al_13, al_15, al_16, al_17, al_19, al_20, al_21, al_22, al_23, al_24, al_25, al_26, al_28, al_30, al_31, al_32, al_33, al_34, al_36, al_41, al_42, al_43, al_44, al_49, al_50, al_51, al_52, al_54, al_55, al_56, al_57, al_58, al_59, al_60, al_61, al_62, al_63, al_64, al_65, al_66, al_67, al_68, al_69, al_70, al_71, al_72, al_73, al_74, al_75, al_76, al_77, al_78, al_79, al_80]; decide) | (simp (disch := omega) only [nL, nI_add, pk_mul, nc, Nat.zero_add, al_2, al_3, al_4, al_5, al_7, al_11, al_12, al_13, al_15, al_16, al_17, al_19, al_20, al_21, al_22, al_23, al_24, al_25, al_26, al_28, al_30, al_31, al_32, al_33, al_34, al_36, al_41, al_42, al_43, al_44, al_49, al_50, al_51, al_52, al_54, al_55, al_56, al_57, al_58, al_59, al_60, al_61, al_62, al_63, al_64, al_65, al_66, al_67, al_68, al_69, al_70, al_71, al_72, al_73, al_74, al_75, al_76, al_77, al_78, al_79, al_80]; exact vin (by omega) (by decide))), by (first | exact vin (by simp only [al_2, al_3, al_4, al_5, al_7, al_11, al_12, al_13, al_15, al_16, al_17, al_19, al_20, al_21, al_22, al_23, al_24, al_25, al_26, al_28, al_30, al_31, al_32, al_33, al_34, al_36, al_41, al_42, al_43, al_44, al_49, al_50, al_51, al_52, al_54, al_55, al_56, al_57, al_58, al_59, al_60, al_61, al_62, al_63, al_64, al_65, al_66, al_67, al_68, al_69, al_70, al_71, al_72, al_73, al_74, al_75, al_76, al_77, al_78, al_79, al_80]; omega) (by simp only [al_2, al_3, al_4, al_5, al_7, al_11, al_12, al_13, al_15, al_16, al_17, al_19, al_20, al_21, al_22, al_23, al_24, al_25, al_26, al_28, al_30, al_31, al_32, al_33, al_34, al_36, al_41, al_42, al_43, al_44, al_49, al_50, al_51, al_52, al_54, al_55, al_56, al_57, al_58, al_59, al_60, al_61, al_62, al_63, al_64, al_65, al_66, al_67, al_68, al_69, al_70, al_71, al_72, al_73, al_74, al_75, al_76, al_77, al_78, al_79, al_80]; decide) | (simp (disch := omega) only [nL, nI_add, pk_mul, nc, Nat.zero_add, al_2, al_3, al_4, al_5, al_7, al_11, al_12, al_13, al_15, al_16, al_17, al_19, al_20, al_21, al_22, al_23, al_24, al_25, al_26, al_28, al_30, al_31, al_32, al_33, al_34, al_36, al_41, al_42, al_43, al_44, al_49, al_50, al_51, al_52, al_54, al_55, al_56, al_57, al_58, al_59, al_60, al_61, al_62, al_63, al_64, al_65, al_66, al_67, al_68, al_69, al_70, al_71, al_72, al_73, al_74, al_75, al_76, al_77, al_78, al_79, al_80]; exact vin (by omega) (by decide))), ?_⟩, fun z => ?_⟩
          · rw [nc (by omega)]
            refine ⟨_, _, cl, ?_⟩
            show z_wp _ _ _ _ 36 _ _ _
            rw [show nI t + 1 = nI (t + 1) from nI_add t 1]
            refine ih (t + 1) _ _ _ _ _ _ (by omega) hf2 hr2 (fun k hk2 => ?_)
            by_cases c : k = t
            · rw [c, wr_s, wr_c (by decide), wr_s, eS, eM]
              exact ⟨rfl, rfl⟩
            · rw [wr_k c, wr_c (by decide), wr_k c, wr_c (by decide)]
              exact hkk k (by omega)
          · rw [n_le (by omega) (by omega)] at z
            omega
        | succ q ihq =>
          intro u σk hq hfk hrk hpk hkk
          have hw1 := hpk (j + u) (by omega)
          have hwl := hWl (j + u)
          have hl := hrk (w (j + u)) hwl
          have c2 : rMin (prs N t) w 1000 j (m - j) ≤ rSub (prs N t) w (rMin (prs N t) w 1000 j (m - j)) j u (w (j + u)) := by
            rw [rSub_off (fun k hk2 => fun y => hd k u hk2 (by omega) y.symm)]
            exact rMin_le (by omega)
          refine z_go 60 [2, 36, 42, 73, 139, 210] ⟨fun z => ?_, fun z => ⟨by (first | exact vin (by simp only [al_2, al_3, al_4, al_5, al_7, al_11, al_12, al_13, al_15, al_16, al_17, al_19, al_20, al_21, al_22, al_23, al_24, al_25, al_26, al_28, al_30, al_31, al_32, al_33, al_34, al_36, al_41, al_42, al_43, al_44, al_49, al_50, al_51, al_52, al_54, al_55, al_56, al_57, al_58, al_59, al_60, al_61, al_62, al_63, al_64, al_65, al_66, al_67, al_68, al_69, al_70, al_71, al_72, al_73, al_74, al_75, al_76, al_77, al_78, al_79, al_80]; omega) (by simp only [al_2, al_3, al_4, al_5, al_7, al_11, al_12, al_13, al_15, al_16, al_17, al_19, al_20, al_21, al_22, al_23, al_24, al_25, al_26, al_28, al_30, al_31, al_32, al_33, al_34, al_36, al_41, al_42, al_43, al_44, al_49, al_50, al_51, al_52, al_54, al_55, al_56, al_57, al_58, al_59, al_60, al_61, al_62, al_63, al_64, al_65, al_66, al_67, al_68, al_69, al_70, al_71, al_72, al_73, al_74, al_75, al_76, al_77, al_78, al_79, al_80]; decide) | (simp (disch := omega) only [nL, nI_add, pk_mul, nc, Nat.zero_add, al_2, al_3, al_4, al_5, al_7, al_11, al_12, al_13, al_15, al_16, al_17, al_19, al_20, al_21, al_22, al_23, al_24, al_25, al_26, al_28, al_30, al_31, al_32, al_33, al_34, al_36, al_41, al_42, al_43, al_44, al_49, al_50, al_51, al_52, al_54, al_55, al_56, al_57, al_58, al_59, al_60, al_61, al_62, al_63, al_64, al_65, al_66, al_67, al_68, al_69, al_70, al_71, al_72, al_73, al_74, al_75, al_76, al_77, al_78, al_79, al_80]; exact vin (by omega) (by decide))), by (rw [nc (by omega), hw1]; (first | exact vin (by simp only [al_2, al_3, al_4, al_5, al_7, al_11, al_12, al_13, al_15, al_16, al_17, al_19, al_20, al_21, al_22, al_23, al_24, al_25, al_26, al_28, al_30, al_31, al_32, al_33, al_34, al_36, al_41, al_42, al_43, al_44, al_49, al_50, al_51, al_52, al_54, al_55, al_56, al_57, al_58, al_59, al_60, al_61, al_62, al_63, al_64, al_65, al_66, al_67, al_68, al_69, al_70, al_71, al_72, al_73, al_74, al_75, al_76, al_77, al_78, al_79, al_80]; omega) (by simp only [al_2, al_3, al_4, al_5, al_7, al_11, al_12, al_13, al_15, al_16, al_17, al_19, al_20, al_21, al_22, al_23, al_24, al_25, al_26, al_28, al_30, al_31, al_32, al_33, al_34, al_36, al_41, al_42, al_43, al_44, al_49, al_50, al_51, al_52, al_54, al_55, al_56, al_57, al_58, al_59, al_60, al_61, al_62, al_63, al_64, al_65, al_66, al_67, al_68, al_69, al_70, al_71, al_72, al_73, al_74, al_75, al_76, al_77, al_78, al_79, al_80]; decide) | (simp (disch := omega) only [nL, nI_add, pk_mul, nc, Nat.zero_add, al_2, al_3, al_4, al_5, al_7, al_11, al_12, al_13, al_15, al_16, al_17, al_19, al_20, al_21, al_22, al_23, al_24, al_25, al_26, al_28, al_30, al_31, al_32, al_33, al_34, al_36, al_41, al_42, al_43, al_44, al_49, al_50, al_51, al_52, al_54, al_55, al_56, al_57, al_58, al_59, al_60, al_61, al_62, al_63, al_64, al_65, al_66, al_67, al_68, al_69, al_70, al_71, al_72, al_73, al_74, al_75, al_76, al_77, al_78, al_79, al_80]; exact vin (by omega) (by decide)))), by (rw [nc (by omega), hw1]; (first | exact vin (by simp only [al_2, al_3, al_4, al_5, al_7, al_11, al_12, al_13, al_15, al_16, al_17, al_19, al_20, al_21, al_22, al_23, al_24, al_25, al_26, al_28, al_30, al_31, al_32, al_33, al_34, al_36, al_41, al_42, al_43, al_44, al_49, al_50, al_51, al_52, al_54, al_55, al_56, al_57, al_58, al_59, al_60, al_61, al_62, al_63, al_64, al_65, al_66, al_67, al_68, al_69, al_70, al_71, al_72, al_73, al_74, al_75, al_76, al_77, al_78, al_79, al_80]; omega) (by simp only [al_2, al_3, al_4, al_5, al_7, al_11, al_12, al_13, al_15, al_16, al_17, al_19, al_20, al_21, al_22, al_23, al_24, al_25, al_26, al_28, al_30, al_31, al_32, al_33, al_34, al_36, al_41, al_42, al_43, al_44, al_49, al_50, al_51, al_52, al_54, al_55, al_56, al_57, al_58, al_59, al_60, al_61, al_62, al_63, al_64, al_65, al_66, al_67, al_68, al_69, al_70, al_71, al_72, al_73, al_74, al_75, al_76, al_77, al_78, al_79, al_80]; decide) | (simp (disch := omega) only [nL, nI_add, pk_mul, nc, Nat.zero_add, al_2, al_3, al_4, al_5, al_7, al_11, al_12, al_13, al_15, al_16, al_17, al_19, al_20, al_21, al_22, al_23, al_24, al_25, al_26, al_28, al_30, al_31, al_32, al_33, al_34, al_36, al_41, al_42, al_43, al_44, al_49, al_50, al_51, al_52, al_54, al_55, al_56, al_57, al_58, al_59, al_60, al_61, al_62, al_63, al_64, al_65, al_66, al_67, al_68, al_69, al_70, al_71, al_72, al_73, al_74, al_75, al_76, al_77, al_78, al_79, al_80]; exact vin (by omega) (by decide)))), ?_⟩⟩
          · rw [n_le (by omega) (by omega)] at z
            omega
          · show z_wp _ _ _ _ 210 _ _ _
            rw [nc (by omega), hw1, nc (by omega), hl, i_sub c2, show nI (j + u) + 1 = nI (j + (u + 1)) from nI_add (j + u) 1]
            refine ihq (u + 1) _ (by omega) (fr.wr hfk (by decide)) (fun i hi => ?_) (fun k hk2 => by rw [wr_c (by decide)]; exact hpk k hk2) (fun k hk2 => by rw [wr_c (by decide), wr_c (by decide)]; exact hkk k hk2)
            show _ = nI (if i = w (j + u) then _ else _)
            by_cases c : i = w (j + u)
            · subst c
              rw [wr_s, if_pos rfl]
            · rw [wr_k c, if_neg c]
              exact hrk i hi
      have mins : ∀ (q u : Nat) (σk : z_M), u + q = m - j → fr [70, 71, 72, 73, 74] σ σk → (∀ i, i < R → σk.1 70 i = nI (prs N t i)) → (∀ k, k < m → σk.1 73 k = nI (w k)) → σk.1 74 (A m) = nI j → (∀ k, k < t → σk.1 71 k = nI (rdS (gR N) (gs N) (ge N) (prs N k)) ∧ σk.1 72 k = nI (rdM (gR N) (gs N) (ge N) (prs N k))) →
          z_wp (z_call (d + 1)) none k_Md_partRounds (fun r s => r = some (.int (nI (prN N))) ∧ (fr [70, 71, 72, 73, 74] σ s ∧ ∀ k, k < prN N → s.1 71 k = nI (rdS (gR N) (gs N) (ge N) (prs N k)) ∧ s.1 72 k = nI (rdM (gR N) (gs N) (ge N) (prs N k)))) 139 [some (.ref 53), some (.int (nI t)), some (.int (nI r)), some (.int (nI m)), some (.int (nI (A m))), some (.int (nI (rMin (prs N t) w 1000 j u))), some (.int (nI (rSet w j u))), some (.int (nI (j + u)))] [] σk := by
        intro q
        induction q with
        | zero =>
          intro u σk hq hfk hrk hpk hsk hkk
          obtain rfl : u = m - j := by omega
          have ham := hAl m
          refine z_go 60 [2, 36, 42, 73, 139, 210] ⟨fun z => ⟨by (first | exact vin (by simp only [al_2, al_3, al_4, al_5, al_7, al_11, al_12, al_13, al_15, al_16, al_17, al_19, al_20, al_21, al_22, al_23, al_24, al_25, al_26, al_28, al_30, al_31, al_32, al_33, al_34, al_36, al_41, al_42, al_43, al_44, al_49, al_50, al_51, al_52, al_54, al_55, al_56, al_57, al_58, al_59, al_60, al_61, al_62, al_63, al_64, al_65, al_66, al_67, al_68, al_69, al_70, al_71, al_72, al_73, al_74, al_75, al_76, al_77, al_78, al_79, al_80]; omega) (by simp only [al_2, al_3, al_4, al_5, al_7, al_11, al_12, al_13, al_15, al_16, al_17, al_19, al_20, al_21, al_22, al_23, al_24, al_25, al_26, al_28, al_30, al_31, al_32, al_33, al_34, al_36, al_41, al_42, al_43, al_44, al_49, al_50, al_51, al_52, al_54, al_55, al_56, al_57, al_58, al_59, al_60, al_61, al_62, al_63, al_64, al_65, al_66, al_67, al_68, al_69, al_70, al_71, al_72, al_73, al_74, al_75, al_76, al_77, al_78, al_79, al_80]; decide) | (simp (disch := omega) only [nL, nI_add, pk_mul, nc, Nat.zero_add, al_2, al_3, al_4, al_5, al_7, al_11, al_12, al_13, al_15, al_16, al_17, al_19, al_20, al_21, al_22, al_23, al_24, al_25, al_26, al_28, al_30, al_31, al_32, al_33, al_34, al_36, al_41, al_42, al_43, al_44, al_49, al_50, al_51, al_52, al_54, al_55, al_56, al_57, al_58, al_59, al_60, al_61, al_62, al_63, al_64, al_65, al_66, al_67, al_68, al_69, al_70, al_71, al_72, al_73, al_74, al_75, al_76, al_77, al_78, al_79, al_80]; exact vin (by omega) (by decide))), ?_⟩, fun z => ?_⟩
          · show z_wp _ _ _ _ 210 _ _ _
            rw [nc (by omega), hsk]
            exact sub (m - j) 0 σk (by omega) hfk hrk hpk hkk
          · rw [n_le (by omega) (by omega)] at z
            omega
        | succ q ihq =>
          intro u σk hq hfk hrk hpk hsk hkk
          have hw1 := hpk (j + u) (by omega)
          have hwl := hWl (j + u)
          have hl := hrk (w (j + u)) hwl
          have hle := hρ _ hwl
          have hone := i_one (w (j + u)) (by omega)
          have hmb := rMin_b (ρ := prs N t) (w := w) (c := 1000) (j := j) u
          refine z_go 60 [2, 36, 42, 73, 139, 210] ⟨fun z => ?_, fun z => ⟨by (first | exact vin (by simp only [al_2, al_3, al_4, al_5, al_7, al_11, al_12, al_13, al_15, al_16, al_17, al_19, al_20, al_21, al_22, al_23, al_24, al_25, al_26, al_28, al_30, al_31, al_32, al_33, al_34, al_36, al_41, al_42, al_43, al_44, al_49, al_50, al_51, al_52, al_54, al_55, al_56, al_57, al_58, al_59, al_60, al_61, al_62, al_63, al_64, al_65, al_66, al_67, al_68, al_69, al_70, al_71, al_72, al_73, al_74, al_75, al_76, al_77, al_78, al_79, al_80]; omega) (by simp only [al_2, al_3, al_4, al_5, al_7, al_11, al_12, al_13, al_15, al_16, al_17, al_19, al_20, al_21, al_22, al_23, al_24, al_25, al_26, al_28, al_30, al_31, al_32, al_33, al_34, al_36, al_41, al_42, al_43, al_44, al_49, al_50, al_51, al_52, al_54, al_55, al_56, al_57, al_58, al_59, al_60, al_61, al_62, al_63, al_64, al_65, al_66, al_67, al_68, al_69, al_70, al_71, al_72, al_73, al_74, al_75, al_76, al_77, al_78, al_79, al_80]; decide) | (simp (disch := omega) only [nL, nI_add, pk_mul, nc, Nat.zero_add, al_2, al_3, al_4, al_5, al_7, al_11, al_12, al_13, al_15, al_16, al_17, al_19, al_20, al_21, al_22, al_23, al_24, al_25, al_26, al_28, al_30, al_31, al_32, al_33, al_34, al_36, al_41, al_42, al_43, al_44, al_49, al_50, al_51, al_52, al_54, al_55, al_56, al_57, al_58, al_59, al_60, al_61, al_62, al_63, al_64, al_65, al_66, al_67, al_68, al_69, al_70, al_71, al_72, al_73, al_74, al_75, al_76, al_77, al_78, al_79, al_80]; exact vin (by omega) (by decide))), by (rw [nc (by omega), hw1]; (first | exact vin (by simp only [al_2, al_3, al_4, al_5, al_7, al_11, al_12, al_13, al_15, al_16, al_17, al_19, al_20, al_21, al_22, al_23, al_24, al_25, al_26, al_28, al_30, al_31, al_32, al_33, al_34, al_36, al_41, al_42, al_43, al_44, al_49, al_50, al_51, al_52, al_54, al_55, al_56, al_57, al_58, al_59, al_60, al_61, al_62, al_63, al_64, al_65, al_66, al_67, al_68, al_69, al_70, al_71, al_72, al_73, al_74, al_75, al_76, al_77, al_78, al_79, al_80]; omega) (by simp only [al_2, al_3, al_4, al_5, al_7, al_11, al_12, al_13, al_15, al_16, al_17, al_19, al_20, al_21, al_22, al_23, al_24, al_25, al_26, al_28, al_30, al_31, al_32, al_33, al_34, al_36, al_41, al_42, al_43, al_44, al_49, al_50, al_51, al_52, al_54, al_55, al_56, al_57, al_58, al_59, al_60, al_61, al_62, al_63, al_64, al_65, al_66, al_67, al_68, al_69, al_70, al_71, al_72, al_73, al_74, al_75, al_76, al_77, al_78, al_79, al_80]; decide) | (simp (disch := omega) only [nL, nI_add, pk_mul, nc, Nat.zero_add, al_2, al_3, al_4, al_5, al_7, al_11, al_12, al_13, al_15, al_16, al_17, al_19, al_20, al_21, al_22, al_23, al_24, al_25, al_26, al_28, al_30, al_31, al_32, al_33, al_34, al_36, al_41, al_42, al_43, al_44, al_49, al_50, al_51, al_52, al_54, al_55, al_56, al_57, al_58, al_59, al_60, al_61, al_62, al_63, al_64, al_65, al_66, al_67, al_68, al_69, al_70, al_71, al_72, al_73, al_74, al_75, al_76, al_77, al_78, al_79, al_80]; exact vin (by omega) (by decide)))), fun z2 => ⟨by (first | exact vin (by simp only [al_2, al_3, al_4, al_5, al_7, al_11, al_12, al_13, al_15, al_16, al_17, al_19, al_20, al_21, al_22, al_23, al_24, al_25, al_26, al_28, al_30, al_31, al_32, al_33, al_34, al_36, al_41, al_42, al_43, al_44, al_49, al_50, al_51, al_52, al_54, al_55, al_56, al_57, al_58, al_59, al_60, al_61, al_62, al_63, al_64, al_65, al_66, al_67, al_68, al_69, al_70, al_71, al_72, al_73, al_74, al_75, al_76, al_77, al_78, al_79, al_80]; omega) (by simp only [al_2, al_3, al_4, al_5, al_7, al_11, al_12, al_13, al_15, al_16, al_17, al_19, al_20, al_21, al_22, al_23, al_24, al_25, al_26, al_28, al_30, al_31, al_32, al_33, al_34, al_36, al_41, al_42, al_43, al_44, al_49, al_50, al_51, al_52, al_54, al_55, al_56, al_57, al_58, al_59, al_60, al_61, al_62, al_63, al_64, al_65, al_66, al_67, al_68, al_69, al_70, al_71, al_72, al_73, al_74, al_75, al_76, al_77, al_78, al_79, al_80]; decide) | (simp (disch := omega) only [nL, nI_add, pk_mul, nc, Nat.zero_add, al_2, al_3, al_4, al_5, al_7, al_11, al_12, al_13, al_15, al_16, al_17, al_19, al_20, al_21, al_22, al_23, al_24, al_25, al_26, al_28, al_30, al_31, al_32, al_33, al_34, al_36, al_41, al_42, al_43, al_44, al_49, al_50, al_51, al_52, al_54, al_55, al_56, al_57, al_58, al_59, al_60, al_61, al_62, al_63, al_64, al_65, al_66, al_67, al_68, al_69, al_70, al_71, al_72, al_73, al_74, al_75, al_76, al_77, al_78, al_79, al_80]; exact vin (by omega) (by decide))), ?_⟩, fun z2 => ⟨by (first | exact vin (by simp only [al_2, al_3, al_4, al_5, al_7, al_11, al_12, al_13, al_15, al_16, al_17, al_19, al_20, al_21, al_22, al_23, al_24, al_25, al_26, al_28, al_30, al_31, al_32, al_33, al_34, al_36, al_41, al_42, al_43, al_44, al_49, al_50, al_51, al_52, al_54, al_55, al_56, al_57, al_58, al_59, al_60, al_61, al_62, al_63, al_64, al_65, al_66, al_67, al_68, al_69, al_70, al_71, al_72, al_73, al_74, al_75, al_76, al_77, al_78, al_79, al_80]; omega) (by simp only [al_2, al_3, al_4, al_5, al_7, al_11, al_12, al_13, al_15, al_16, al_17, al_19, al_20, al_21, al_22, al_23, al_24, al_25, al_26, al_28, al_30, al_31, al_32, al_33, al_34, al_36, al_41, al_42, al_43, al_44, al_49, al_50, al_51, al_52, al_54, al_55, al_56, al_57, al_58, al_59, al_60, al_61, al_62, al_63, al_64, al_65, al_66, al_67, al_68, al_69, al_70, al_71, al_72, al_73, al_74, al_75, al_76, al_77, al_78, al_79, al_80]; decide) | (simp (disch := omega) only [nL, nI_add, pk_mul, nc, Nat.zero_add, al_2, al_3, al_4, al_5, al_7, al_11, al_12, al_13, al_15, al_16, al_17, al_19, al_20, al_21, al_22, al_23, al_24, al_25, al_26, al_28, al_30, al_31, al_32, al_33, al_34, al_36, al_41, al_42, al_43, al_44, al_49, al_50, al_51, al_52, al_54, al_55, al_56, al_57, al_58, al_59, al_60, al_61, al_62, al_63, al_64, al_65, al_66, al_67, al_68, al_69, al_70, al_71, al_72, al_73, al_74, al_75, al_76, al_77, al_78, al_79, al_80]; exact vin (by omega) (by decide))), by (rw [nc (by omega), hw1]; (first | exact vin (by simp only [al_2, al_3, al_4, al_5, al_7, al_11, al_12, al_13, al_15, al_16, al_17, al_19, al_20, al_21, al_22, al_23, al_24, al_25, al_26, al_28, al_30, al_31, al_32, al_33, al_34, al_36, al_41, al_42, al_43, al_44, al_49, al_50, al_51, al_52, al_54, al_55, al_56, al_57, al_58, al_59, al_60, al_61, al_62, al_63, al_64, al_65, al_66, al_67, al_68, al_69, al_70, al_71, al_72, al_73, al_74, al_75, al_76, al_77, al_78, al_79, al_80]; omega) (by simp only [al_2, al_3, al_4, al_5, al_7, al_11, al_12, al_13, al_15, al_16, al_17, al_19, al_20, al_21, al_22, al_23, al_24, al_25, al_26, al_28, al_30, al_31, al_32, al_33, al_34, al_36, al_41, al_42, al_43, al_44, al_49, al_50, al_51, al_52, al_54, al_55, al_56, al_57, al_58, al_59, al_60, al_61, al_62, al_63, al_64, al_65, al_66, al_67, al_68, al_69, al_70, al_71, al_72, al_73, al_74, al_75, al_76, al_77, al_78, al_79, al_80]; decide) | (simp (disch := omega) only [nL, nI_add, pk_mul, nc, Nat.zero_add, al_2, al_3, al_4, al_5, al_7, al_11, al_12, al_13, al_15, al_16, al_17, al_19, al_20, al_21, al_22, al_23, al_24, al_25, al_26, al_28, al_30, al_31, al_32, al_33, al_34, al_36, al_41, al_42, al_43, al_44, al_49, al_50, al_51, al_52, al_54, al_55, al_56, al_57, al_58, al_59, al_60, al_61, al_62, al_63, al_64, al_65, al_66, al_67, al_68, al_69, al_70, al_71, al_72, al_73, al_74, al_75, al_76, al_77, al_78, al_79, al_80]; exact vin (by omega) (by decide)))), by (first | exact vin (by simp only [al_2, al_3, al_4, al_5, al_7, al_11, al_12, al_13, al_15, al_16, al_17, al_19, al_20, al_21, al_22, al_23, al_24, al_25, al_26, al_28, al_30, al_31, al_32, al_33, al_34, al_36, al_41, al_42, al_43, al_44, al_49, al_50, al_51, al_52, al_54, al_55, al_56, al_57, al_58, al_59, al_60, al_61, al_62, al_63, al_64, al_65, al_66, al_67, al_68, al_69, al_70, al_71, al_72, al_73, al_74, al_75, al_76, al_77, al_78, al_79, al_80]; omega) (by simp only [al_2, al_3, al_4, al_5, al_7, al_11, al_12, al_13, al_15, al_16, al_17, al_19, al_20, al_21, al_22, al_23, al_24, al_25, al_26, al_28, al_30, al_31, al_32, al_33, al_34, al_36, al_41, al_42, al_43, al_44, al_49, al_50, al_51, al_52, al_54, al_55, al_56, al_57, al_58, al_59, al_60, al_61, al_62, al_63, al_64, al_65, al_66, al_67, al_68, al_69, al_70, al_71, al_72, al_73, al_74, al_75, al_76, al_77, al_78, al_79, al_80]; decide) | (simp (disch := omega) only [nL, nI_add, pk_mul, nc, Nat.zero_add, al_2, al_3, al_4, al_5, al_7, al_11, al_12, al_13, al_15, al_16, al_17, al_19, al_20, al_21, al_22, al_23, al_24, al_25, al_26, al_28, al_30, al_31, al_32, al_33, al_34, al_36, al_41, al_42, al_43, al_44, al_49, al_50, al_51, al_52, al_54, al_55, al_56, al_57, al_58, al_59, al_60, al_61, al_62, al_63, al_64, al_65, al_66, al_67, al_68, al_69, al_70, al_71, al_72, al_73, al_74, al_75, al_76, al_77, al_78, al_79, al_80]; exact vin (by omega) (by decide))), ?_⟩⟩⟩
          · rw [n_le (by omega) (by omega)] at z
            omega
          · show z_wp _ _ _ _ 139 _ _ _
            rw [nc (by omega), hw1, nc (by omega), hl, n_le (by omega) (by omega)] at z2
            have nx := ihq (u + 1) σk (by omega) hfk hrk hpk hsk hkk
            rw [rMin, Nat.min_eq_left z2, rSet] at nx
            rw [nc (by omega), hw1, hone, i_or, show nI (j + u) + 1 = nI (j + (u + 1)) from nI_add (j + u) 1]
            exact nx
          · show z_wp _ _ _ _ 139 _ _ _
            rw [nc (by omega), hw1, nc (by omega), hl, n_le (by omega) (by omega)] at z2
            have nx := ihq (u + 1) σk (by omega) hfk hrk hpk hsk hkk
            rw [rMin, Nat.min_eq_right (by omega), rSet] at nx
            rw [nc (by omega), hw1, nc (by omega), hl, hone, i_or, show nI (j + u) + 1 = nI (j + (u + 1)) from nI_add (j + u) 1]
            exact nx
      have walk : ∀ (q u : Nat) (σk : z_M) (l5 l6 l7 : Option Value), u + q = m → fr [70, 71, 72, 73, 74] σ σk → (∀ i, i < R → σk.1 70 i = nI (prs N t i)) → (∀ k, k < u → σk.1 73 k = nI (w k)) → (∀ p, p < P → ((∃ k, k < u ∧ A k = p ∧ σk.1 74 p = nI k) ∨ ((∀ k, k < u → A k ≠ p) ∧ σk.1 74 p = -1))) → (∀ k, k < t → σk.1 71 k = nI (rdS (gR N) (gs N) (ge N) (prs N k)) ∧ σk.1 72 k = nI (rdM (gR N) (gs N) (ge N) (prs N k))) →
          z_wp (z_call (d + 1)) none k_Md_partRounds (fun r s => r = some (.int (nI (prN N))) ∧ (fr [70, 71, 72, 73, 74] σ s ∧ ∀ k, k < prN N → s.1 71 k = nI (rdS (gR N) (gs N) (ge N) (prs N k)) ∧ s.1 72 k = nI (rdM (gR N) (gs N) (ge N) (prs N k)))) 73 [some (.ref 53), some (.int (nI t)), some (.int (nI r)), some (.int (nI u)), some (.int (nI (A u))), l5, l6, l7] [] σk := by
        intro q
        induction q with
        | zero =>
          intro u σk l5 l6 l7 hq hfk hrk hpk hmet hkk
          obtain rfl : u = m := by omega
          have hal := hAl u
          obtain ⟨k, g1, g2, g3⟩ : ∃ k, k < u ∧ A k = A u ∧ σk.1 74 (A u) = nI k := by
            rcases hmet _ hal with y | ⟨y, -⟩
            · exact y
            · exact absurd hjA (y j hj)
          have hkj : k = j := by
            refine Classical.byContradiction fun y => ?_
            have e5 : A k = A j := by rw [g2, hjA]
            by_cases c : k < j
            · exact hdA k j c hj e5
            · exact hdA j k (by omega) (by omega) e5.symm
          subst hkj
          refine z_go 60 [2, 36, 42, 73, 139, 210] ⟨by (first | exact vin (by simp only [al_2, al_3, al_4, al_5, al_7, al_11, al_12, al_13, al_15, al_16, al_17, al_19, al_20, al_21, al_22, al_23, al_24, al_25, al_26, al_28, al_30, al_31, al_32, al_33, al_34, al_36, al_41, al_42, al_43, al_44, al_49, al_50, al_51, al_52, al_54, al_55, al_56, al_57, al_58, al_59, al_60, al_61, al_62, al_63, al_64, al_65, al_66, al_67, al_68, al_69, al_70, al_71, al_72, al_73, al_74, al_75, al_76, al_77, al_78, al_79, al_80]; omega) (by simp only [al_2, al_3, al_4, al_5, al_7, al_11, al_12, al_13, al_15, al_16, al_17, al_19, al_20, al_21, al_22, al_23, al_24, al_25, al_26, al_28, al_30, al_31, al_32, al_33, al_34, al_36, al_41, al_42, al_43, al_44, al_49, al_50, al_51, al_52, al_54, al_55, al_56, al_57, al_58, al_59, al_60, al_61, al_62, al_63, al_64, al_65, al_66, al_67, al_68, al_69, al_70, al_71, al_72, al_73, al_74, al_75, al_76, al_77, al_78, al_79, al_80]; decide) | (simp (disch := omega) only [nL, nI_add, pk_mul, nc, Nat.zero_add, al_2, al_3, al_4, al_5, al_7, al_11, al_12, al_13, al_15, al_16, al_17, al_19, al_20, al_21, al_22, al_23, al_24, al_25, al_26, al_28, al_30, al_31, al_32, al_33, al_34, al_36, al_41, al_42, al_43, al_44, al_49, al_50, al_51, al_52, al_54, al_55, al_56, al_57, al_58, al_59, al_60, al_61, al_62, al_63, al_64, al_65, al_66, al_67, al_68, al_69, al_70, al_71, al_72, al_73, al_74, al_75, al_76, al_77, al_78, al_79, al_80]; exact vin (by omega) (by decide))), fun z => ⟨by (first | exact vin (by simp only [al_2, al_3, al_4, al_5, al_7, al_11, al_12, al_13, al_15, al_16, al_17, al_19, al_20, al_21, al_22, al_23, al_24, al_25, al_26, al_28, al_30, al_31, al_32, al_33, al_34, al_36, al_41, al_42, al_43, al_44, al_49, al_50, al_51, al_52, al_54, al_55, al_56, al_57, al_58, al_59, al_60, al_61, al_62, al_63, al_64, al_65, al_66, al_67, al_68, al_69, al_70, al_71, al_72, al_73, al_74, al_75, al_76, al_77, al_78, al_79, al_80]; omega) (by simp only [al_2, al_3, al_4, al_5, al_7, al_11, al_12, al_13, al_15, al_16, al_17, al_19, al_20, al_21, al_22, al_23, al_24, al_25, al_26, al_28, al_30, al_31, al_32, al_33, al_34, al_36, al_41, al_42, al_43, al_44, al_49, al_50, al_51, al_52, al_54, al_55, al_56, al_57, al_58, al_59, al_60, al_61, al_62, al_63, al_64, al_65, al_66, al_67, al_68, al_69, al_70, al_71, al_72, al_73, al_74, al_75, al_76, al_77, al_78, al_79, al_80]; decide) | (simp (disch := omega) only [nL, nI_add, pk_mul, nc, Nat.zero_add, al_2, al_3, al_4, al_5, al_7, al_11, al_12, al_13, al_15, al_16, al_17, al_19, al_20, al_21, al_22, al_23, al_24, al_25, al_26, al_28, al_30, al_31, al_32, al_33, al_34, al_36, al_41, al_42, al_43, al_44, al_49, al_50, al_51, al_52, al_54, al_55, al_56, al_57, al_58, al_59, al_60, al_61, al_62, al_63, al_64, al_65, al_66, al_67, al_68, al_69, al_70, al_71, al_72, al_73, al_74, al_75, al_76, al_77, al_78, al_79, al_80]; exact vin (by omega) (by decide))), ?_⟩, fun z => ?_⟩
          · show z_wp _ _ _ _ 139 _ _ _
            rw [nc (by omega), g3]
            exact mins (u - k) 0 σk (by omega) hfk hrk hpk g3 hkk
          · rw [nc (by omega), g3] at z
            have z : ¬ nI 0 ≤ nI k := z
            rw [n_le (by omega) (by omega)] at z
            omega
        | succ q ihq =>
          intro u σk l5 l6 l7 hq hfk hrk hpk hmet hkk
          have hal := hAl u
          have hal2 := hAl (u + 1)
          have hwl := hWl u
          have g1 : (∀ k, k < u → A k ≠ A u) ∧ σk.1 74 (A u) = -1 := by
            rcases hmet _ hal with ⟨k, y1, y2, -⟩ | y
            · exact absurd y2 (hdA k u y1 (by omega))
            · exact y
          have hf1 : fr [70, 71, 72, 73, 74] σ (z_wr σk 74 (A u) (nI u)) := fr.wr hfk (by decide)
          have cl := c_lowD d (hNf _ hf1) hv (ρ := prs N t) (fun i hi => ⟨by rw [wr_c (by decide)]; exact hrk i (by omega), i2 i hi⟩) (nI (A u)) (outQ (gs N) (prs N t) (A u)) (fun y => absurd y (n_nn (by omega))) (fun _ i hi => by
            have := (hv.se i hi).1
            unfold outQ
            rw [n_eq (by omega) (by omega)]) (Or.inl ⟨w u, (hw u).2, rfl⟩)
          have hf2 : fr [70, 71, 72, 73, 74] σ (z_wr (z_wr σk 74 (A u) (nI u)) 73 u (nI (w u))) := fr.wr hf1 (by decide)
          have f3 : (z_wr (z_wr σk 74 (A u) (nI u)) 73 u (nI (w u))).1 55 (w u) = nI (A (u + 1)) := by
            rw [hf2.at (by decide), (h.2.2.2 (w u) (by omega)).2.1, (hse (w u) hwl).2.1, hWE]
          refine z_go 90 [2, 36, 42, 73, 139, 210] ⟨by (first | exact vin (by simp only [al_2, al_3, al_4, al_5, al_7, al_11, al_12, al_13, al_15, al_16, al_17, al_19, al_20, al_21, al_22, al_23, al_24, al_25, al_26, al_28, al_30, al_31, al_32, al_33, al_34, al_36, al_41, al_42, al_43, al_44, al_49, al_50, al_51, al_52, al_54, al_55, al_56, al_57, al_58, al_59, al_60, al_61, al_62, al_63, al_64, al_65, al_66, al_67, al_68, al_69, al_70, al_71, al_72, al_73, al_74, al_75, al_76, al_77, al_78, al_79, al_80]; omega) (by simp only [al_2, al_3, al_4, al_5, al_7, al_11, al_12, al_13, al_15, al_16, al_17, al_19, al_20, al_21, al_22, al_23, al_24, al_25, al_26, al_28, al_30, al_31, al_32, al_33, al_34, al_36, al_41, al_42, al_43, al_44, al_49, al_50, al_51, al_52, al_54, al_55, al_56, al_57, al_58, al_59, al_60, al_61, al_62, al_63, al_64, al_65, al_66, al_67, al_68, al_69, al_70, al_71, al_72, al_73, al_74, al_75, al_76, al_77, al_78, al_79, al_80]; decide) | (simp (disch := omega) only [nL, nI_add, pk_mul, nc, Nat.zero_add, al_2, al_3, al_4, al_5, al_7, al_11, al_12, al_13, al_15, al_16, al_17, al_19, al_20, al_21, al_22, al_23, al_24, al_25, al_26, al_28, al_30, al_31, al_32, al_33, al_34, al_36, al_41, al_42, al_43, al_44, al_49, al_50, al_51, al_52, al_54, al_55, al_56, al_57, al_58, al_59, al_60, al_61, al_62, al_63, al_64, al_65, al_66, al_67, al_68, al_69, al_70, al_71, al_72, al_73, al_74, al_75, al_76, al_77, al_78, al_79, al_80]; exact vin (by omega) (by decide))), fun z => ?_, fun z => ⟨by (first | exact vin (by simp only [al_2, al_3, al_4, al_5, al_7, al_11, al_12, al_13, al_15, al_16, al_17, al_19, al_20, al_21, al_22, al_23, al_24, al_25, al_26, al_28, al_30, al_31, al_32, al_33, al_34, al_36, al_41, al_42, al_43, al_44, al_49, al_50, al_51, al_52, al_54, al_55, al_56, al_57, al_58, al_59, al_60, al_61, al_62, al_63, al_64, al_65, al_66, al_67, al_68, al_69, al_70, al_71, al_72, al_73, al_74, al_75, al_76, al_77, al_78, al_79, al_80]; omega) (by simp only [al_2, al_3, al_4, al_5, al_7, al_11, al_12, al_13, al_15, al_16, al_17, al_19, al_20, al_21, al_22, al_23, al_24, al_25, al_26, al_28, al_30, al_31, al_32, al_33, al_34, al_36, al_41, al_42, al_43, al_44, al_49, al_50, al_51, al_52, al_54, al_55, al_56, al_57, al_58, al_59, al_60, al_61, al_62, al_63, al_64, al_65, al_66, al_67, al_68, al_69, al_70, al_71, al_72, al_73, al_74, al_75, al_76, al_77, al_78, al_79, al_80]; decide) | (simp (disch := omega) only [nL, nI_add, pk_mul, nc, Nat.zero_add, al_2, al_3, al_4, al_5, al_7, al_11, al_12, al_13, al_15, al_16, al_17, al_19, al_20, al_21, al_22, al_23, al_24, al_25, al_26, al_28, al_30, al_31, al_32, al_33, al_34, al_36, al_41, al_42, al_43, al_44, al_49, al_50, al_51, al_52, al_54, al_55, al_56, al_57, al_58, al_59, al_60, al_61, al_62, al_63, al_64, al_65, al_66, al_67, al_68, al_69, al_70, al_71, al_72, al_73, al_74, al_75, al_76, al_77, al_78, al_79, al_80]; exact vin (by omega) (by decide))), ?_⟩⟩
          · rw [nc (by omega), g1.2] at z
            exact absurd z (by decide)
          · rw [nc (show A u < 2147483648 by omega)]
            refine ⟨_, _, cl, ?_⟩
            refine ⟨by (first | exact vin (by simp only [al_2, al_3, al_4, al_5, al_7, al_11, al_12, al_13, al_15, al_16, al_17, al_19, al_20, al_21, al_22, al_23, al_24, al_25, al_26, al_28, al_30, al_31, al_32, al_33, al_34, al_36, al_41, al_42, al_43, al_44, al_49, al_50, al_51, al_52, al_54, al_55, al_56, al_57, al_58, al_59, al_60, al_61, al_62, al_63, al_64, al_65, al_66, al_67, al_68, al_69, al_70, al_71, al_72, al_73, al_74, al_75, al_76, al_77, al_78, al_79, al_80]; omega) (by simp only [al_2, al_3, al_4, al_5, al_7, al_11, al_12, al_13, al_15, al_16, al_17, al_19, al_20, al_21, al_22, al_23, al_24, al_25, al_26, al_28, al_30, al_31, al_32, al_33, al_34, al_36, al_41, al_42, al_43, al_44, al_49, al_50, al_51, al_52, al_54, al_55, al_56, al_57, al_58, al_59, al_60, al_61, al_62, al_63, al_64, al_65, al_66, al_67, al_68, al_69, al_70, al_71, al_72, al_73, al_74, al_75, al_76, al_77, al_78, al_79, al_80]; decide) | (simp (disch := omega) only [nL, nI_add, pk_mul, nc, Nat.zero_add, al_2, al_3, al_4, al_5, al_7, al_11, al_12, al_13, al_15, al_16, al_17, al_19, al_20, al_21, al_22, al_23, al_24, al_25, al_26, al_28, al_30, al_31, al_32, al_33, al_34, al_36, al_41, al_42, al_43, al_44, al_49, al_50, al_51, al_52, al_54, al_55, al_56, al_57, al_58, al_59, al_60, al_61, al_62, al_63, al_64, al_65, al_66, al_67, al_68, al_69, al_70, al_71, al_72, al_73, al_74, al_75, al_76, al_77, al_78, al_79, al_80]; exact vin (by omega) (by decide))), by (first | exact vin (by simp only [al_2, al_3, al_4, al_5, al_7, al_11, al_12, al_13, al_15, al_16, al_17, al_19, al_20, al_21, al_22, al_23, al_24, al_25, al_26, al_28, al_30, al_31, al_32, al_33, al_34, al_36, al_41, al_42, al_43, al_44, al_49, al_50, al_51, al_52, al_54, al_55, al_56, al_57, al_58, al_59, al_60, al_61, al_62, al_63, al_64, al_65, al_66, al_67, al_68, al_69, al_70, al_71, al_72, al_73, al_74, al_75, al_76, al_77, al_78, al_79, al_80]; omega) (by simp only [al_2, al_3, al_4, al_5, al_7, al_11, al_12, al_13, al_15, al_16, al_17, al_19, al_20, al_21, al_22, al_23, al_24, al_25, al_26, al_28, al_30, al_31, al_32, al_33, al_34, al_36, al_41, al_42, al_43, al_44, al_49, al_50, al_51, al_52, al_54, al_55, al_56, al_57, al_58, al_59, al_60, al_61, al_62, al_63, al_64, al_65, al_66, al_67, al_68, al_69, al_70, al_71, al_72, al_73, al_74, al_75, al_76, al_77, al_78, al_79, al_80]; decide) | (simp (disch := omega) only [nL, nI_add, pk_mul, nc, Nat.zero_add, al_2, al_3, al_4, al_5, al_7, al_11, al_12, al_13, al_15, al_16, al_17, al_19, al_20, al_21, al_22, al_23, al_24, al_25, al_26, al_28, al_30, al_31, al_32, al_33, al_34, al_36, al_41, al_42, al_43, al_44, al_49, al_50, al_51, al_52, al_54, al_55, al_56, al_57, al_58, al_59, al_60, al_61, al_62, al_63, al_64, al_65, al_66, al_67, al_68, al_69, al_70, al_71, al_72, al_73, al_74, al_75, al_76, al_77, al_78, al_79, al_80]; exact vin (by omega) (by decide))), ?_⟩
            rw [nc (show u < 2147483648 by omega), wr_s]
            refine ⟨by (first | exact vin (by simp only [al_2, al_3, al_4, al_5, al_7, al_11, al_12, al_13, al_15, al_16, al_17, al_19, al_20, al_21, al_22, al_23, al_24, al_25, al_26, al_28, al_30, al_31, al_32, al_33, al_34, al_36, al_41, al_42, al_43, al_44, al_49, al_50, al_51, al_52, al_54, al_55, al_56, al_57, al_58, al_59, al_60, al_61, al_62, al_63, al_64, al_65, al_66, al_67, al_68, al_69, al_70, al_71, al_72, al_73, al_74, al_75, al_76, al_77, al_78, al_79, al_80]; omega) (by simp only [al_2, al_3, al_4, al_5, al_7, al_11, al_12, al_13, al_15, al_16, al_17, al_19, al_20, al_21, al_22, al_23, al_24, al_25, al_26, al_28, al_30, al_31, al_32, al_33, al_34, al_36, al_41, al_42, al_43, al_44, al_49, al_50, al_51, al_52, al_54, al_55, al_56, al_57, al_58, al_59, al_60, al_61, al_62, al_63, al_64, al_65, al_66, al_67, al_68, al_69, al_70, al_71, al_72, al_73, al_74, al_75, al_76, al_77, al_78, al_79, al_80]; decide) | (simp (disch := omega) only [nL, nI_add, pk_mul, nc, Nat.zero_add, al_2, al_3, al_4, al_5, al_7, al_11, al_12, al_13, al_15, al_16, al_17, al_19, al_20, al_21, al_22, al_23, al_24, al_25, al_26, al_28, al_30, al_31, al_32, al_33, al_34, al_36, al_41, al_42, al_43, al_44, al_49, al_50, al_51, al_52, al_54, al_55, al_56, al_57, al_58, al_59, al_60, al_61, al_62, al_63, al_64, al_65, al_66, al_67, al_68, al_69, al_70, al_71, al_72, al_73, al_74, al_75, al_76, al_77, al_78, al_79, al_80]; exact vin (by omega) (by decide))), ?_⟩
            show z_wp _ _ _ _ 73 _ _ _
            rw [nc (by omega), f3, show nI u + 1 = nI (u + 1) from nI_add u 1]
            refine ihq (u + 1) _ _ _ _ (by omega) hf2 (fun i hi => by rw [wr_c (by decide), wr_c (by decide)]; exact hrk i hi) (fun k hk2 => ?_) (fun p hp2 => ?_) (fun k hk2 => by rw [wr_c (by decide), wr_c (by decide), wr_c (by decide), wr_c (by decide)]; exact hkk k hk2)
            · by_cases c : k = u
              · rw [c, wr_s]
              · rw [wr_k c, wr_c (by decide)]
                exact hpk k (by omega)
            · rw [wr_c (by decide)]
              by_cases c : p = A u
              · exact Or.inl ⟨u, by omega, c.symm, by rw [c, wr_s]⟩
              · rw [wr_k c]
                rcases hmet p hp2 with ⟨k, y1, y2, y3⟩ | ⟨y1, y2⟩
                · exact Or.inl ⟨k, by omega, y2, y3⟩
                · refine Or.inr ⟨fun k hk2 => ?_, y2⟩
                  by_cases c2 : k = u
                  · rw [c2]
                    exact fun y => c y.symm
                  · exact y1 k (by omega)
      have clr2 : ∀ (q p : Nat) (σk : z_M), p + q = P → fr [70, 71, 72, 73, 74] σ σk → (∀ i, i < R → σk.1 70 i = nI (prs N t i)) → (∀ x, x < p → σk.1 74 x = -1) → (∀ k, k < t → σk.1 71 k = nI (rdS (gR N) (gs N) (ge N) (prs N k)) ∧ σk.1 72 k = nI (rdM (gR N) (gs N) (ge N) (prs N k))) →
          z_wp (z_call (d + 1)) none k_Md_partRounds (fun r s => r = some (.int (nI (prN N))) ∧ (fr [70, 71, 72, 73, 74] σ s ∧ ∀ k, k < prN N → s.1 71 k = nI (rdS (gR N) (gs N) (ge N) (prs N k)) ∧ s.1 72 k = nI (rdM (gR N) (gs N) (ge N) (prs N k)))) 42 [some (.ref 53), some (.int (nI t)), some (.int (nI r)), some (.int (nI p)), l4, l5, l6, l7] [] σk := by
        intro q
        induction q with
        | zero =>
          intro p σk hq hfk hrk hsk hkk
          obtain rfl : p = P := by omega
          have e10 : σk.1 53 0 = nI p := by rw [hfk.at (by decide), h.1, eP]
          have f2 : σk.1 54 r = nI (A 0) := by rw [hfk.at (by decide), (h.2.2.2 r (by omega)).1, (hse r (by omega)).1, eA0]
          refine z_go 60 [2, 36, 42, 73, 139, 210] ⟨fun z => ⟨by (first | exact vin (by simp only [al_2, al_3, al_4, al_5, al_7, al_11, al_12, al_13, al_15, al_16, al_17, al_19, al_20, al_21, al_22, al_23, al_24, al_25, al_26, al_28, al_30, al_31, al_32, al_33, al_34, al_36, al_41, al_42, al_43, al_44, al_49, al_50, al_51, al_52, al_54, al_55, al_56, al_57, al_58, al_59, al_60, al_61, al_62, al_63, al_64, al_65, al_66, al_67, al_68, al_69, al_70, al_71, al_72, al_73, al_74, al_75, al_76, al_77, al_78, al_79, al_80]; omega) (by simp only [al_2, al_3, al_4, al_5, al_7, al_11, al_12, al_13, al_15, al_16, al_17, al_19, al_20, al_21, al_22, al_23, al_24, al_25, al_26, al_28, al_30, al_31, al_32, al_33, al_34, al_36, al_41, al_42, al_43, al_44, al_49, al_50, al_51, al_52, al_54, al_55, al_56, al_57, al_58, al_59, al_60, al_61, al_62, al_63, al_64, al_65, al_66, al_67, al_68, al_69, al_70, al_71, al_72, al_73, al_74, al_75, al_76, al_77, al_78, al_79, al_80]; decide) | (simp (disch := omega) only [nL, nI_add, pk_mul, nc, Nat.zero_add, al_2, al_3, al_4, al_5, al_7, al_11, al_12, al_13, al_15, al_16, al_17, al_19, al_20, al_21, al_22, al_23, al_24, al_25, al_26, al_28, al_30, al_31, al_32, al_33, al_34, al_36, al_41, al_42, al_43, al_44, al_49, al_50, al_51, al_52, al_54, al_55, al_56, al_57, al_58, al_59, al_60, al_61, al_62, al_63, al_64, al_65, al_66, al_67, al_68, al_69, al_70, al_71, al_72, al_73, al_74, al_75, al_76, al_77, al_78, al_79, al_80]; exact vin (by omega) (by decide))), ?_⟩, fun z => ?_⟩
          · show z_wp _ _ _ _ 73 _ _ _
            rw [nc (by omega), f2]
            exact walk m 0 σk _ _ _ (by omega) hfk hrk (fun k hk2 => absurd hk2 (Nat.not_lt_zero k)) (fun p2 hp2 => Or.inr ⟨fun k hk2 => absurd hk2 (Nat.not_lt_zero k), hsk p2 hp2⟩) hkk
          · rw [e10] at z
            exact absurd (Int32.le_refl _) z
        | succ q ihq =>
          intro p σk hq hfk hrk hsk hkk
          have e10 : σk.1 53 0 = nI P := by rw [hfk.at (by decide), h.1, eP]
          refine z_go 60 [2, 36, 42, 73, 139, 210] ⟨fun z => ?_, fun z => ⟨by (first | exact vin (by simp only [al_2, al_3, al_4, al_5, al_7, al_11, al_12, al_13, al_15, al_16, al_17, al_19, al_20, al_21, al_22, al_23, al_24, al_25, al_26, al_28, al_30, al_31, al_32, al_33, al_34, al_36, al_41, al_42, al_43, al_44, al_49, al_50, al_51, al_52, al_54, al_55, al_56, al_57, al_58, al_59, al_60, al_61, al_62, al_63, al_64, al_65, al_66, al_67, al_68, al_69, al_70, al_71, al_72, al_73, al_74, al_75, al_76, al_77, al_78, al_79, al_80]; omega) (by simp only [al_2, al_3, al_4, al_5, al_7, al_11, al_12, al_13, al_15, al_16, al_17, al_19, al_20, al_21, al_22, al_23, al_24, al_25, al_26, al_28, al_30, al_31, al_32, al_33, al_34, al_36, al_41, al_42, al_43, al_44, al_49, al_50, al_51, al_52, al_54, al_55, al_56, al_57, al_58, al_59, al_60, al_61, al_62, al_63, al_64, al_65, al_66, al_67, al_68, al_69, al_70, al_71, al_72, al_73, al_74, al_75, al_76, al_77, al_78, al_79, al_80]; decide) | (simp (disch := omega) only [nL, nI_add, pk_mul, nc, Nat.zero_add, al_2, al_3, al_4, al_5, al_7, al_11, al_12, al_13, al_15, al_16, al_17, al_19, al_20, al_21, al_22, al_23, al_24, al_25, al_26, al_28, al_30, al_31, al_32, al_33, al_34, al_36, al_41, al_42, al_43, al_44, al_49, al_50, al_51, al_52, al_54, al_55, al_56, al_57, al_58, al_59, al_60, al_61, al_62, al_63, al_64, al_65, al_66, al_67, al_68, al_69, al_70, al_71, al_72, al_73, al_74, al_75, al_76, al_77, al_78, al_79, al_80]; exact vin (by omega) (by decide))), ?_⟩⟩
          · rw [e10] at z
            simp (disch := omega) only [nL, nI_add, pk_mul, n_le, n_lt, n_eq] at z
            omega
          · show z_wp _ _ _ _ 42 _ _ _
            rw [nc (by omega), show nI p + 1 = nI (p + 1) from nI_add p 1]
            refine ihq (p + 1) _ (by omega) (fr.wr hfk (by decide)) (fun i hi => by rw [wr_c (by decide)]; exact hrk i hi) (fun x hx => ?_) (fun k hk2 => by rw [wr_c (by decide), wr_c (by decide)]; exact hkk k hk2)
            by_cases c : x = p
            · rw [c, wr_s]
            · rw [wr_k c]
              exact hsk x (by omega)
      refine z_go 60 [2, 36, 42, 73, 139, 210] ⟨fun z => absurd z (n_nn (by omega)), fun z => ?_⟩
      exact clr2 P 0 σi (by omega) hf (fun i hi => hr i (by omega)) (fun x hx => absurd hx (Nat.not_lt_zero x)) hk
  have copy : ∀ (n i : Nat) (σi : z_M), i + n = R → fr [70, 71, 72, 73, 74] σ σi → (∀ k, k < i → σi.1 70 k = nI (prs N 0 k)) →
      z_wp (z_call (d + 1)) none k_Md_partRounds (fun r s => r = some (.int (nI (prN N))) ∧ (fr [70, 71, 72, 73, 74] σ s ∧ ∀ k, k < prN N → s.1 71 k = nI (rdS (gR N) (gs N) (ge N) (prs N k)) ∧ s.1 72 k = nI (rdM (gR N) (gs N) (ge N) (prs N k)))) 2 [some (.ref 53), some (.int (nI i)), none, none, none, none, none, none] [] σi := by
    intro n
    induction n with
    | zero =>
      intro i σi hi hf hk
      obtain rfl : i = R := by omega
      have e1 : σi.1 53 1 = nI i := by rw [hf.at (by decide), h.2.1, eR]
      have cl := c_lowY d (hNf _ hf) hv (t := 0) (fun k hk2 => ⟨hk k (by omega), (hn k hk2).2⟩)
      refine z_go 60 [2, 36, 42, 73, 139, 210] ⟨fun z => ⟨_, _, cl, ?_⟩, fun z => ?_⟩
      · show z_wp _ _ _ _ 36 _ _ _
        exact main (prN N) 0 σi _ _ _ _ _ (by omega) hf (fun k hk2 => hk k (by omega)) (fun k hk2 => absurd hk2 (Nat.not_lt_zero k))
      · rw [e1] at z
        exact absurd (Int32.le_refl _) z
    | succ n ih =>
      intro i σi hi hf hk
      have e1 : σi.1 53 1 = nI R := by rw [hf.at (by decide), h.2.1, eR]
      have f7 : σi.1 57 i = nI (prs N 0 i) := by rw [hf.at (by decide), (h.2.2.2 i (by omega)).2.2.2, (hn i (by omega)).1]; rfl
      refine z_go 60 [2, 36, 42, 73, 139, 210] ⟨fun z => ?_, fun z => ⟨by (first | exact vin (by simp only [al_2, al_3, al_4, al_5, al_7, al_11, al_12, al_13, al_15, al_16, al_17, al_19, al_20, al_21, al_22, al_23, al_24, al_25, al_26, al_28, al_30, al_31, al_32, al_33, al_34, al_36, al_41, al_42, al_43, al_44, al_49, al_50, al_51, al_52, al_54, al_55, al_56, al_57, al_58, al_59, al_60, al_61, al_62, al_63, al_64, al_65, al_66, al_67, al_68, al_69, al_70, al_71, al_72, al_73, al_74, al_75, al_76, al_77, al_78, al_79, al_80]; omega) (by simp only [al_2, al_3, al_4, al_5, al_7, al_11, al_12, al_13, al_15, al_16, al_17, al_19, al_20, al_21, al_22, al_23, al_24, al_25, al_26, al_28, al_30, al_31, al_32, al_33, al_34, al_36, al_41, al_42, al_43, al_44, al_49, al_50, al_51, al_52, al_54, al_55, al_56, al_57, al_58, al_59, al_60, al_61, al_62, al_63, al_64, al_65, al_66, al_67, al_68, al_69, al_70, al_71, al_72, al_73, al_74, al_75, al_76, al_77, al_78, al_79, al_80]; decide) | (simp (disch := omega) only [nL, nI_add, pk_mul, nc, Nat.zero_add, al_2, al_3, al_4, al_5, al_7, al_11, al_12, al_13, al_15, al_16, al_17, al_19, al_20, al_21, al_22, al_23, al_24, al_25, al_26, al_28, al_30, al_31, al_32, al_33, al_34, al_36, al_41, al_42, al_43, al_44, al_49, al_50, al_51, al_52, al_54, al_55, al_56, al_57, al_58, al_59, al_60, al_61, al_62, al_63, al_64, al_65, al_66, al_67, al_68, al_69, al_70, al_71, al_72, al_73, al_74, al_75, al_76, al_77, al_78, al_79, al_80]; exact vin (by omega) (by decide))), by (first | exact vin (by simp only [al_2, al_3, al_4, al_5, al_7, al_11, al_12, al_13, al_15, al_16, al_17, al_19, al_20, al_21, al_22, al_23, al_24, al_25, al_26, al_28, al_30, al_31, al_32, al_33, al_34, al_36, al_41, al_42, al_43, al_44, al_49, al_50, al_51, al_52, al_54, al_55, al_56, al_57, al_58, al_59, al_60, al_61, al_62, al_63, al_64, al_65, al_66, al_67, al_68, al_69, al_70, al_71, al_72, al_73, al_74, al_75, al_76, al_77, al_78, al_79, al_80]; omega) (by simp only [al_2, al_3, al_4, al_5, al_7, al_11, al_12, al_13, al_15, al_16, al_17, al_19, al_20, al_21, al_22, al_23, al_24, al_25, al_26, al_28, al_30, al_31, al_32, al_33, al_34, al_36, al_41, al_42, al_43, al_44, al_49, al_50, al_51, al_52, al_54, al_55, al_56, al_57, al_58, al_59, al_60, al_61, al_62, al_63, al_64, al_65, al_66, al_67, al_68, al_69, al_70, al_71, al_72, al_73, al_74, al_75, al_76, al_77, al_78, al_79, al_80]; decide) | (simp (disch := omega) only [nL, nI_add, pk_mul, nc, Nat.zero_add, al_2, al_3, al_4, al_5, al_7, al_11, al_12, al_13, al_15, al_16, al_17, al_19, al_20, al_21, al_22, al_23, al_24, al_25, al_26, al_28, al_30, al_31, al_32, al_33, al_34, al_36, al_41, al_42, al_43, al_44, al_49, al_50, al_51, al_52, al_54, al_55, al_56, al_57, al_58, al_59, al_60, al_61, al_62, al_63, al_64, al_65, al_66, al_67, al_68, al_69, al_70, al_71, al_72, al_73, al_74, al_75, al_76, al_77, al_78, al_79, al_80]; exact vin (by omega) (by decide))), ?_⟩⟩
      · rw [e1] at z
        simp (disch := omega) only [nL, nI_add, pk_mul, n_le, n_lt, n_eq] at z
        omega
      · show z_wp _ _ _ _ 2 _ _ _
        rw [nc (by omega), f7, show nI i + 1 = nI (i + 1) from nI_add i 1]
        refine ih (i + 1) _ (by omega) (fr.wr hf (by decide)) (fun k hk2 => ?_)
        by_cases c : k = i
        · rw [c, wr_s]
        · rw [wr_k c]
          exact hk k (by omega)
  exact z_metR ⟨rfl, z_go 60 [2, 36, 42, 73, 139, 210] (copy R 0 σ (by omega) fr.rf (fun k hk => absurd hk (Nat.not_lt_zero k)))⟩
theorem y_rounds (d : Nat) {σ : z_M} {B : zB} (h : RepD σ B) (hv : VB B) (i b : Int32) : opD (d + 5) k_Md_rounds [.ref 53, .int i, .int b] σ (sRounds i b B) := by
  obtain ⟨P, R, eP, hP, egP, eR, hR, eg, hse⟩ := hv.1.nat
  obtain ⟨σt, ht, hRt, hkt⟩ := c_finding (d + 3) h (-1000004)
  obtain ⟨σu, hu, hRu, hku⟩ := c_finding (d + 3) h (-1000008)
  obtain ⟨σv, hv2, hRv, hkv⟩ := c_finding (d + 3) h (-1000003)
  have co := c_off d h.1 hv.1
  have hol := offn_le B.1 (gP B.1)
  have eG : σ.1 53 2 = nG B.1 := h.1.2.2.1
  have e1 : σ.1 53 1 = nI R := by rw [h.1.2.1, eR]
  have loop : nG B.1 = 0 → offn B.1 (gP B.1) = 0 → ∀ (n k : Nat), k + n = R → (∀ x, x < k → ¬ nV B.1 x < 0) → z_wp (z_call (d + 4)) none k_Md_rounds (pD σ (sRounds i b B)) 30 [some (.ref 53), some (.int i), some (.int b), some (.int (nI k))] [] σ := by
    intro q q2 n
    induction n with
    | zero =>
      intro k hn hk
      obtain rfl : k = R := by omega
      have q3 : ¬ ∃ x, x < gR B.1 ∧ nV B.1 x < 0 := fun ⟨x, y1, y2⟩ => hk x (by omega) y2
      obtain ⟨f1, f2⟩ := fl_ok hv.1 q q2 (fun x hx z => q3 ⟨x, hx, z⟩)
      obtain ⟨σ1, hc, hf, k2⟩ := c_partRounds (d + 2) h.1 hv.1 f1 f2
      have hR1 := h.scr hf (by decide)
      have hk1 := hf.kD (by decide)
      have hnum := (prN_ok hv.1.se f2 (fun i hi => (f1 i hi).2)).1
      obtain ⟨σw, hw, hRw, hkw⟩ := c_finding (d + 3) hR1 (-1000006)
      unfold sRounds
      rw [if_pos q, if_pos q2, if_neg q3]
      refine z_go 60 [30] ⟨fun z => ⟨_, σ1, hc, fun q4 => ⟨fun q5 => ⟨_, σw, hw, ?_⟩, fun q5 => ⟨fun q6 => ?_, fun q6 => ⟨_, σw, hw, ?_⟩⟩⟩, fun q4 => ?_⟩, fun z => ?_⟩
      · rw [if_neg q4, if_pos q5]
        exact ⟨rfl, hRw, hk1.tr hkw⟩
      · rw [if_neg q4, if_neg q5, if_pos q6]
        obtain ⟨x, hx, rfl⟩ := nI_of (x := i) q5
        rw [n_lt (by omega) (by omega)] at q6
        obtain ⟨g1, g2⟩ := k2 x q6
        refine ⟨fun q7 => ⟨by (first | exact vin (by simp only [al_2, al_3, al_4, al_5, al_7, al_11, al_12, al_13, al_15, al_16, al_17, al_19, al_20, al_21, al_22, al_23, al_24, al_25, al_26, al_28, al_30, al_31, al_32, al_33, al_34, al_36, al_41, al_42, al_43, al_44, al_49, al_50, al_51, al_52, al_54, al_55, al_56, al_57, al_58, al_59, al_60, al_61, al_62, al_63, al_64, al_65, al_66, al_67, al_68, al_69, al_70, al_71, al_72, al_73, al_74, al_75, al_76, al_77, al_78, al_79, al_80]; omega) (by simp only [al_2, al_3, al_4, al_5, al_7, al_11, al_12, al_13, al_15, al_16, al_17, al_19, al_20, al_21, al_22, al_23, al_24, al_25, al_26, al_28, al_30, al_31, al_32, al_33, al_34, al_36, al_41, al_42, al_43, al_44, al_49, al_50, al_51, al_52, al_54, al_55, al_56, al_57, al_58, al_59, al_60, al_61, al_62, al_63, al_64, al_65, al_66, al_67, al_68, al_69, al_70, al_71, al_72, al_73, al_74, al_75, al_76, al_77, al_78, al_79, al_80]; decide) | (simp (disch := omega) only [nL, nI_add, pk_mul, nc, Nat.zero_add, al_2, al_3, al_4, al_5, al_7, al_11, al_12, al_13, al_15, al_16, al_17, al_19, al_20, al_21, al_22, al_23, al_24, al_25, al_26, al_28, al_30, al_31, al_32, al_33, al_34, al_36, al_41, al_42, al_43, al_44, al_49, al_50, al_51, al_52, al_54, al_55, al_56, al_57, al_58, al_59, al_60, al_61, al_62, al_63, al_64, al_65, al_66, al_67, al_68, al_69, al_70, al_71, al_72, al_73, al_74, al_75, al_76, al_77, al_78, al_79, al_80]; exact vin (by omega) (by decide))), ?_, hR1, hk1⟩, fun q7 => ⟨by (first | exact vin (by simp only [al_2, al_3, al_4, al_5, al_7, al_11, al_12, al_13, al_15, al_16, al_17, al_19, al_20, al_21, al_22, al_23, al_24, al_25, al_26, al_28, al_30, al_31, al_32, al_33, al_34, al_36, al_41, al_42, al_43, al_44, al_49, al_50, al_51, al_52, al_54, al_55, al_56, al_57, al_58, al_59, al_60, al_61, al_62, al_63, al_64, al_65, al_66, al_67, al_68, al_69, al_70, al_71, al_72, al_73, al_74, al_75, al_76, al_77, al_78, al_79, al_80]; omega) (by simp only [al_2, al_3, al_4, al_5, al_7, al_11, al_12, al_13, al_15, al_16, al_17, al_19, al_20, al_21, al_22, al_23, al_24, al_25, al_26, al_28, al_30, al_31, al_32, al_33, al_34, al_36, al_41, al_42, al_43, al_44, al_49, al_50, al_51, al_52, al_54, al_55, al_56, al_57, al_58, al_59, al_60, al_61, al_62, al_63, al_64, al_65, al_66, al_67, al_68, al_69, al_70, al_71, al_72, al_73, al_74, al_75, al_76, al_77, al_78, al_79, al_80]; decide) | (simp (disch := omega) only [nL, nI_add, pk_mul, nc, Nat.zero_add, al_2, al_3, al_4, al_5, al_7, al_11, al_12, al_13, al_15, al_16, al_17, al_19, al_20, al_21, al_22, al_23, al_24, al_25, al_26, al_28, al_30, al_31, al_32, al_33, al_34, al_36, al_41, al_42, al_43, al_44, al_49, al_50, al_51, al_52, al_54, al_55, al_56, al_57, al_58, al_59, al_60, al_61, al_62, al_63, al_64, al_65, al_66, al_67, al_68, al_69, al_70, al_71, al_72, al_73, al_74, al_75, al_76, al_77, al_78, al_79, al_80]; exact vin (by omega) (by decide))), ?_, hR1, hk1⟩⟩
        · rw [if_pos q7, nc (by omega), g1]
        · rw [if_neg q7, nc (by omega), g2]
      · rw [if_neg q4, if_neg q5, if_neg q6]
        exact ⟨rfl, hRw, hk1.tr hkw⟩
      · rw [if_pos q4]
        exact ⟨rfl, hR1, hk1⟩
      · rw [e1] at z
        exact absurd (Int32.le_refl _) z
    | succ n ih =>
      intro k hn hk
      have f7 : σ.1 57 k = nV B.1 k := (h.1.2.2.2 k (by omega)).2.2.2
      refine z_go 60 [30] ⟨fun z => ?_, fun z => ⟨by (first | exact vin (by simp only [al_2, al_3, al_4, al_5, al_7, al_11, al_12, al_13, al_15, al_16, al_17, al_19, al_20, al_21, al_22, al_23, al_24, al_25, al_26, al_28, al_30, al_31, al_32, al_33, al_34, al_36, al_41, al_42, al_43, al_44, al_49, al_50, al_51, al_52, al_54, al_55, al_56, al_57, al_58, al_59, al_60, al_61, al_62, al_63, al_64, al_65, al_66, al_67, al_68, al_69, al_70, al_71, al_72, al_73, al_74, al_75, al_76, al_77, al_78, al_79, al_80]; omega) (by simp only [al_2, al_3, al_4, al_5, al_7, al_11, al_12, al_13, al_15, al_16, al_17, al_19, al_20, al_21, al_22, al_23, al_24, al_25, al_26, al_28, al_30, al_31, al_32, al_33, al_34, al_36, al_41, al_42, al_43, al_44, al_49, al_50, al_51, al_52, al_54, al_55, al_56, al_57, al_58, al_59, al_60, al_61, al_62, al_63, al_64, al_65, al_66, al_67, al_68, al_69, al_70, al_71, al_72, al_73, al_74, al_75, al_76, al_77, al_78, al_79, al_80]; decide) | (simp (disch := omega) only [nL, nI_add, pk_mul, nc, Nat.zero_add, al_2, al_3, al_4, al_5, al_7, al_11, al_12, al_13, al_15, al_16, al_17, al_19, al_20, al_21, al_22, al_23, al_24, al_25, al_26, al_28, al_30, al_31, al_32, al_33, al_34, al_36, al_41, al_42, al_43, al_44, al_49, al_50, al_51, al_52, al_54, al_55, al_56, al_57, al_58, al_59, al_60, al_61, al_62, al_63, al_64, al_65, al_66, al_67, al_68, al_69, al_70, al_71, al_72, al_73, al_74, al_75, al_76, al_77, al_78, al_79, al_80]; exact vin (by omega) (by decide))), fun z2 => ?_, fun z2 => ⟨_, σv, hv2, ?_⟩⟩⟩
      · rw [e1] at z
        simp (disch := omega) only [nL, nI_add, pk_mul, n_le, n_lt, n_eq] at z
        omega
      · show z_wp _ _ _ _ 30 _ _ _
        rw [nc (by omega), f7] at z2
        rw [show nI k + 1 = nI (k + 1) from nI_add k 1]
        refine ih (k + 1) (by omega) (fun x hx => ?_)
        by_cases c : x = k
        · rw [c, Int32.not_lt]
          exact z2
        · exact hk x (by omega)
      · rw [nc (by omega), f7, Int32.not_le] at z2
        have q3 : ∃ x, x < gR B.1 ∧ nV B.1 x < 0 := ⟨k, by omega, z2⟩
        unfold sRounds
        rw [if_pos q, if_pos q2, if_pos q3]
        exact ⟨rfl, hRv, hkv⟩
  refine z_metD ⟨rfl, z_go 60 [30] ⟨fun q => ⟨_, _, co, fun q2 => ?_, fun q2 => ⟨_, σu, hu, ?_⟩⟩, fun q => ⟨_, σt, ht, ?_⟩⟩⟩
  · rw [eG] at q
    have q2 : nI (offn B.1 (gP B.1)) ≤ nI 0 := q2
    rw [n_le (by omega) (by omega)] at q2
    exact loop q (by omega) R 0 (by omega) (fun x hx => absurd hx (Nat.not_lt_zero x))
  · rw [eG] at q
    have q2 : ¬ nI (offn B.1 (gP B.1)) ≤ nI 0 := q2
    rw [n_le (by omega) (by omega)] at q2
    unfold sRounds
    rw [if_pos q, if_neg (by omega)]
    exact ⟨rfl, hRu, hku⟩
  · rw [eG] at q
    unfold sRounds
    rw [if_neg q]
    exact ⟨rfl, hRt, hkt⟩
