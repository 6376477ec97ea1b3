/-! the component's search: tally -/
theorem lg_eq {a b : Int64} (h : lg_cmp a b = 0) : a = b := by
  unfold lg_cmp at h
  split at h
  · exact absurd h (by decide)
  · split at h
    · rename_i z
      exact z
    · exact absurd h (by decide)
theorem csum_b {C : Nat} {g : Nat → Int} (h : ∀ p, p < 6 → -60 ≤ g p ∧ g p ≤ 60) : -400 ≤ csum C g ∧ csum C g ≤ 400 := by
  have key : ∀ n : Nat, n ≤ 6 → -(60 * (n : Int)) ≤ bsum (fun p => if C.testBit p = true then g p else 0) n ∧ bsum (fun p => if C.testBit p = true then g p else 0) n ≤ 60 * (n : Int) := by
    intro n
    induction n with
    | zero => intro _; exact ⟨by simp [bsum], by simp [bsum]⟩
    | succ n ih =>
      intro hn
      have := ih (by omega)
      have := h n (by omega)
      rw [bsum]
      split <;> omega
  have := key 6 (by omega)
  unfold csum
  omega
theorem c_tally {N : zN} (hv : NV N) {k b : Nat} (hk : 2 ≤ k ∧ k ≤ 6) (hb : b = 0 ∨ b = 1) {ord sd : Nat → Nat} (hid : b = 1 → ord = fun i => i) : ∀ m, m ≤ gR N → ∀ d, TL (d + 2 + 3 * m) N k b ord sd m := by
  obtain ⟨P, R, eP, hP, egP, eR, hR, eg, hse⟩ := hv.nat
  intro m
  induction m with
  | zero =>
    intro _ d j g σ hj h hp hg hbd hlev hnt
    have h0 : ∀ p, p < 6 → g p = 0 := fun p hp6 => hlev p hp6 rfl
    have hN1 : NC (gs N) (ge N) (2 * (k - 1)) ord 0 j g = 1 := by rw [NC]; exact pb_t h0
    refine ⟨1, σ, ⟨rfl, z_go 30 [] ⟨fun q => ?_, fun q => ⟨rfl, rfl⟩⟩⟩, fr.rf, hg, fun _ i _ => rfl, ?_⟩
    · rw [h.2.1, eR, n_lt (by omega) (by omega)] at q
      omega
    · rcases hb with rfl | rfl
      · exact Or.inl ⟨hnt, hN1.symm, fun z => absurd z (by decide)⟩
      · exact Or.inr ⟨rfl, by omega, rfl, fun _ => 0, trivial, fun i h1 h2 => by omega⟩
  | succ m ih =>
    intro hmR d j g σ hj h hp hg hbd hlev hnt
    have ih := ih (by omega)
    obtain ⟨p1, p2, p3⟩ := id hp
    obtain ⟨o1, o2, -, -, o5, o6, o7⟩ := p3 j (by omega)
    obtain ⟨es, ee, hs, he⟩ := hse (ord j) (by omega)
    have f2 : σ.1 2 (ord j) = nI (gs N (ord j)) := by rw [(h.2.2.2 (ord j) (by omega)).1, es]
    have f3 : σ.1 3 (ord j) = nI (ge N (ord j)) := by rw [(h.2.2.2 (ord j) (by omega)).2.1, ee]
    have e1 : σ.1 1 1 = nI R := by rw [h.2.1, eR]
    have h60 : ∀ p, p < 6 → -60 ≤ g p ∧ g p ≤ 60 := fun p _ => by have := hbd p; omega
    have hord6 : ∀ i, j ≤ i → i < j + (m + 1) → gs N (ord i) < 6 ∧ ge N (ord i) < 6 := fun i h1 h2 => by
      have := hv.se (ord i) (p3 i (by omega)).2.1
      omega
    have cil := c_isLoop (d + 2 + 3 * m + 1) (σ := σ) (j := ord j) (by omega)
    rw [f2, f3] at cil
    by_cases cl : gs N (ord j) = ge N (ord j)
    · -- a loop
      rw [if_pos (by rw [cl])] at cil
      have hf1 : fr [19, 21, 27, 28] σ (z_wr σ 19 (ord j) 1) := fr.wr fr.rf (by decide)
      have hN1 : netC (z_wr σ 19 (ord j) 1) N := h.fr (hf1.1 1 (by decide)) (hf1.1 2 (by decide)) (hf1.1 3 (by decide)) (hf1.1 4 (by decide)) (hf1.1 5 (by decide))
      obtain ⟨y, s2, hc2, w1, w2, w3, w4⟩ := ih (d + 2) (j + 1) g (z_wr σ 19 (ord j) 1) (by omega) hN1 (hp.fr' hf1) (fun p hp6 => by rw [wr_c (by decide)]; exact hg p hp6) (fun p => by have := hbd p; omega) (levl_loop hlev cl) (ntS_fr hnt rfl (by funext x; rw [wr_c (by decide)]))
      have hNl := NC_loop (T := 2 * (k - 1)) (m := m) (g := g) cl
      have gap : ∀ p, p < 6 → g p = ap (gs N) (ge N) (ord j) (vl 0) g p := fun p _ => by
        unfold ap
        rw [dl_loop cl]
        omega
      have early : b = 1 → ∀ i, i < j → s2.1 19 (ord i) = σ.1 19 (ord i) := fun hb1 i hi => by
        have hne : ord i ≠ ord j := by rw [hid hb1]; simp only; omega
        rw [w3 hb1 i (by omega), wr_k hne]
      rcases hb with hb0 | hb1
      · have e11 : (z_wr σ 19 (ord j) 1).1 18 11 = nI 0 := by rw [wr_c (by decide), p2, hb0]
        have hoc : oc σ s2 N k b ord (m + 1) j g (2 * (k - 1) * y) := by
          refine ⟨hf1.tr w1, w2, early, Or.inl ?_⟩
          rcases w4 with ⟨u1, u2, -⟩ | ⟨u1, -⟩
          · exact ⟨u1, by rw [hNl, u2], fun z => by omega⟩
          · omega
        have hm : z_met (d + 2 + 3 * m + 2) k_Nowheres_tally [.ref 18, .ref 1, .int (nI j)] σ (fun z s' => ∃ x : Nat, z = some (.int (nI x)) ∧ oc σ s' N k b ord (m + 1) j g x) := by
          refine ⟨rfl, z_go 90 [] ⟨fun q => ⟨by (first | exact vin (by simp only [al_2, al_3, al_4, al_5, al_7, al_11, al_12, al_13, al_15, al_16, al_17, al_19, al_20, al_21, al_22, al_23, al_24, al_25, al_26, al_28, al_30, al_31, al_32, al_33, al_34, al_36, al_41, al_42, al_43, al_44, al_49, al_50, al_51, al_52, al_54, al_55, al_56, al_57, al_58, al_59, al_60, al_61, al_62, al_63, al_64, al_65, al_66, al_67, al_68, al_69, al_70, al_71, al_72, al_73, al_74, al_75, al_76, al_77, al_78, al_79, al_80]; omega) (by simp only [al_2, al_3, al_4, al_5, al_7, al_11, al_12, al_13, al_15, al_16, al_17, al_19, al_20, al_21, al_22, al_23, al_24, al_25, al_26, al_28, al_30, al_31, al_32, al_33, al_34, al_36, al_41, al_42, al_43, al_44, al_49, al_50, al_51, al_52, al_54, al_55, al_56, al_57, al_58, al_59, al_60, al_61, al_62, al_63, al_64, al_65, al_66, al_67, al_68, al_69, al_70, al_71, al_72, al_73, al_74, al_75, al_76, al_77, al_78, al_79, al_80]; decide) | (simp (disch := omega) only [nL, nI_add, pk_mul, nc, Nat.zero_add, al_2, al_3, al_4, al_5, al_7, al_11, al_12, al_13, al_15, al_16, al_17, al_19, al_20, al_21, al_22, al_23, al_24, al_25, al_26, al_28, al_30, al_31, al_32, al_33, al_34, al_36, al_41, al_42, al_43, al_44, al_49, al_50, al_51, al_52, al_54, al_55, al_56, al_57, al_58, al_59, al_60, al_61, al_62, al_63, al_64, al_65, al_66, al_67, al_68, al_69, al_70, al_71, al_72, al_73, al_74, al_75, al_76, al_77, al_78, al_79, al_80]; exact vin (by omega) (by decide))), ?_⟩, fun q => ?_⟩⟩
          · rw [nc (by omega), o1]
            refine ⟨_, _, cil, fun q2 => absurd q2 (by decide), fun q2 => ⟨by (first | exact vin (by simp only [al_2, al_3, al_4, al_5, al_7, al_11, al_12, al_13, al_15, al_16, al_17, al_19, al_20, al_21, al_22, al_23, al_24, al_25, al_26, al_28, al_30, al_31, al_32, al_33, al_34, al_36, al_41, al_42, al_43, al_44, al_49, al_50, al_51, al_52, al_54, al_55, al_56, al_57, al_58, al_59, al_60, al_61, al_62, al_63, al_64, al_65, al_66, al_67, al_68, al_69, al_70, al_71, al_72, al_73, al_74, al_75, al_76, al_77, al_78, al_79, al_80]; omega) (by simp only [al_2, al_3, al_4, al_5, al_7, al_11, al_12, al_13, al_15, al_16, al_17, al_19, al_20, al_21, al_22, al_23, al_24, al_25, al_26, al_28, al_30, al_31, al_32, al_33, al_34, al_36, al_41, al_42, al_43, al_44, al_49, al_50, al_51, al_52, al_54, al_55, al_56, al_57, al_58, al_59, al_60, al_61, al_62, al_63, al_64, al_65, al_66, al_67, al_68, al_69, al_70, al_71, al_72, al_73, al_74, al_75, al_76, al_77, al_78, al_79, al_80]; decide) | (simp (disch := omega) only [nL, nI_add, pk_mul, nc, Nat.zero_add, al_2, al_3, al_4, al_5, al_7, al_11, al_12, al_13, al_15, al_16, al_17, al_19, al_20, al_21, al_22, al_23, al_24, al_25, al_26, al_28, al_30, al_31, al_32, al_33, al_34, al_36, al_41, al_42, al_43, al_44, al_49, al_50, al_51, al_52, al_54, al_55, al_56, al_57, al_58, al_59, al_60, al_61, al_62, al_63, al_64, al_65, al_66, al_67, al_68, al_69, al_70, al_71, al_72, al_73, al_74, al_75, al_76, al_77, al_78, al_79, al_80]; exact vin (by omega) (by decide))), fun q3 => ⟨nI y, s2, ?_, 2 * (k - 1) * y, ?_, hoc⟩, fun q3 => ?_⟩⟩
            · rw [nc (by omega), show nI j + 1 = nI (j + 1) from nI_add j 1, show d + 2 + 3 * m + 2 = d + 2 + 2 + 3 * m by omega]
              exact hc2
            · rw [nc (by omega), wr_c (by decide), p1]
              have : (2 : Int32) * (nI k - 1) * nI y = nI (2 * (k - 1) * y) := by
                show nI 2 * (nI k - nI 1) * nI y = _
                rw [i_sub (by omega), pk_mul, pk_mul]
              rw [this]
            · exfalso
              rw [nc (by omega), e11] at q3
              exact q3 rfl
          · rw [e1, n_lt (by omega) (by omega)] at q
            omega
        obtain ⟨z, s', hcall, x, rfl, hpost⟩ := z_metx hm
        exact ⟨x, s', hcall, hpost⟩
      · have e11 : (z_wr σ 19 (ord j) 1).1 18 11 = nI 1 := by rw [wr_c (by decide), p2, hb1]
        have hoc : oc σ s2 N k b ord (m + 1) j g y := by
          refine ⟨hf1.tr w1, w2, early, ?_⟩
          rcases w4 with ⟨u1, u2, u3⟩ | ⟨u1, u2, u3, τ, u4, u5⟩
          · have := u3 hb1
            exact Or.inl ⟨u1, by rw [hNl, u2, this, Nat.mul_zero], fun _ => by rw [hNl, this, Nat.mul_zero]⟩
          · refine Or.inr ⟨u1, by rw [hNl]; exact Nat.mul_pos (by omega) u2, u3, ?_⟩
            obtain ⟨τ', t1, t2, t3⟩ := FS_cons (t := 0) (g := g) (j := j) (T := 2 * (k - 1)) (by omega) (fun i hi => absurd hi (Nat.not_lt_zero i)) (by rw [← NC_congr gap]; exact u2) (FS_g gap u4)
            refine ⟨τ', t1, fun i h1 h2 => ?_⟩
            by_cases c : i = j
            · rw [c, t2, w3 hb1 j (by omega), wr_s]
              rfl
            · rw [t3 i c]
              exact u5 i (by omega) h2
        have hm : z_met (d + 2 + 3 * m + 2) k_Nowheres_tally [.ref 18, .ref 1, .int (nI j)] σ (fun z s' => ∃ x : Nat, z = some (.int (nI x)) ∧ oc σ s' N k b ord (m + 1) j g x) := by
          refine ⟨rfl, z_go 90 [] ⟨fun q => ⟨by (first | exact vin (by simp only [al_2, al_3, al_4, al_5, al_7, al_11, al_12, al_13, al_15, al_16, al_17, al_19, al_20, al_21, al_22, al_23, al_24, al_25, al_26, al_28, al_30, al_31, al_32, al_33, al_34, al_36, al_41, al_42, al_43, al_44, al_49, al_50, al_51, al_52, al_54, al_55, al_56, al_57, al_58, al_59, al_60, al_61, al_62, al_63, al_64, al_65, al_66, al_67, al_68, al_69, al_70, al_71, al_72, al_73, al_74, al_75, al_76, al_77, al_78, al_79, al_80]; omega) (by simp only [al_2, al_3, al_4, al_5, al_7, al_11, al_12, al_13, al_15, al_16, al_17, al_19, al_20, al_21, al_22, al_23, al_24, al_25, al_26, al_28, al_30, al_31, al_32, al_33, al_34, al_36, al_41, al_42, al_43, al_44, al_49, al_50, al_51, al_52, al_54, al_55, al_56, al_57, al_58, al_59, al_60, al_61, al_62, al_63, al_64, al_65, al_66, al_67, al_68, al_69, al_70, al_71, al_72, al_73, al_74, al_75, al_76, al_77, al_78, al_79, al_80]; decide) | (simp (disch := omega) only [nL, nI_add, pk_mul, nc, Nat.zero_add, al_2, al_3, al_4, al_5, al_7, al_11, al_12, al_13, al_15, al_16, al_17, al_19, al_20, al_21, al_22, al_23, al_24, al_25, al_26, al_28, al_30, al_31, al_32, al_33, al_34, al_36, al_41, al_42, al_43, al_44, al_49, al_50, al_51, al_52, al_54, al_55, al_56, al_57, al_58, al_59, al_60, al_61, al_62, al_63, al_64, al_65, al_66, al_67, al_68, al_69, al_70, al_71, al_72, al_73, al_74, al_75, al_76, al_77, al_78, al_79, al_80]; exact vin (by omega) (by decide))), ?_⟩, fun q => ?_⟩⟩
          · rw [nc (by omega), o1]
            refine ⟨_, _, cil, fun q2 => absurd q2 (by decide), fun q2 => ⟨by (first | exact vin (by simp only [al_2, al_3, al_4, al_5, al_7, al_11, al_12, al_13, al_15, al_16, al_17, al_19, al_20, al_21, al_22, al_23, al_24, al_25, al_26, al_28, al_30, al_31, al_32, al_33, al_34, al_36, al_41, al_42, al_43, al_44, al_49, al_50, al_51, al_52, al_54, al_55, al_56, al_57, al_58, al_59, al_60, al_61, al_62, al_63, al_64, al_65, al_66, al_67, al_68, al_69, al_70, al_71, al_72, al_73, al_74, al_75, al_76, al_77, al_78, al_79, al_80]; omega) (by simp only [al_2, al_3, al_4, al_5, al_7, al_11, al_12, al_13, al_15, al_16, al_17, al_19, al_20, al_21, al_22, al_23, al_24, al_25, al_26, al_28, al_30, al_31, al_32, al_33, al_34, al_36, al_41, al_42, al_43, al_44, al_49, al_50, al_51, al_52, al_54, al_55, al_56, al_57, al_58, al_59, al_60, al_61, al_62, al_63, al_64, al_65, al_66, al_67, al_68, al_69, al_70, al_71, al_72, al_73, al_74, al_75, al_76, al_77, al_78, al_79, al_80]; decide) | (simp (disch := omega) only [nL, nI_add, pk_mul, nc, Nat.zero_add, al_2, al_3, al_4, al_5, al_7, al_11, al_12, al_13, al_15, al_16, al_17, al_19, al_20, al_21, al_22, al_23, al_24, al_25, al_26, al_28, al_30, al_31, al_32, al_33, al_34, al_36, al_41, al_42, al_43, al_44, al_49, al_50, al_51, al_52, al_54, al_55, al_56, al_57, al_58, al_59, al_60, al_61, al_62, al_63, al_64, al_65, al_66, al_67, al_68, al_69, al_70, al_71, al_72, al_73, al_74, al_75, al_76, al_77, al_78, al_79, al_80]; exact vin (by omega) (by decide))), fun q3 => ?_, fun q3 => ⟨nI y, s2, ?_, y, ?_, hoc⟩⟩⟩
            · exfalso
              rw [nc (by omega), e11] at q3
              exact absurd q3 (by decide)
            · rw [nc (by omega), show nI j + 1 = nI (j + 1) from nI_add j 1, show d + 2 + 3 * m + 2 = d + 2 + 2 + 3 * m by omega]
              exact hc2
            · rw [Int32.one_mul]
          · rw [e1, n_lt (by omega) (by omega)] at q
            omega
        obtain ⟨z, s', hcall, x, rfl, hpost⟩ := z_metx hm
        exact ⟨x, s', hcall, hpost⟩
    · rw [if_neg (by rw [n_eq (by omega) (by omega)]; exact cl)] at cil
      by_cases cs : sd (ord j) = 0
      · -- any number
        have ch := c_stateAt (d + 2 + 3 * m + 1) (σ := σ) (g := g) (fun p hp6 => ⟨hg p hp6, h60 p hp6⟩) (j := j) (by omega)
        obtain ⟨x, hx, ex⟩ := note_ix (Int64.ofInt (cdN g j) * z_lc 1)
        have hcr := cdN_rng (j := j) (by omega) h60
        have hcm : Int64.ofInt (cdN g j) ≠ -1 := fun z => by
          have : Int64.ofInt (cdN g j) = Int64.ofInt (-1) := z
          have := l_inj hcr (by omega) this
          unfold cdN at this
          omega
        obtain ⟨yf, s2, hc2, w1, w2, w3, w4⟩ := c_free (d + 3 * m) hv hk hb hid (by rw [show d + 3 * m + 2 = d + 2 + 3 * m by omega]; exact ih d) hj h hp hg hbd hlev hnt cl
        rw [show d + 3 * m + 4 = d + 2 + 3 * m + 2 by omega] at hc2
        have hit : σ.2 x = Int64.ofInt (cdN g j) → ∃ y, σ.1 28 x = nI y ∧ oc σ σ N k b ord (m + 1) j g y := by
          intro z
          rcases hnt x hx with w | ⟨j', g', n1, n2, n3, n4, n5⟩
          · exact absurd (z.symm.trans w) hcm
          · have := l_inj hcr (cdN_rng (j := j') (by omega) n2) (z.symm.trans n3)
            obtain ⟨k1, k2⟩ := cdN_inj (by omega) (by omega) h60 n2 this
            subst k1
            rw [show gR N - j = m + 1 by omega, ← NC_congr k2] at n4 n5
            exact ⟨_, n4, fr.rf, hg, fun _ i _ => rfl, Or.inl ⟨hnt, rfl, n5⟩⟩
        have miss : oc σ (z_wr (z_wl s2 x (Int64.ofInt (cdN g j))) 28 x (nI yf)) N k b ord (m + 1) j g yf := by
          refine ⟨fr.wr (fr.wl w1 (by decide)) (by decide), fun p hp6 => by rw [wr_c (by decide)]; exact w2 p hp6, fun hb1 i hi => by rw [wr_c (by decide)]; exact w3 hb1 i hi, ?_⟩
          rcases w4 with ⟨u1, u2, u3⟩ | ⟨u1, u2, u3, τ, u4, u5⟩
          · refine Or.inl ⟨fun x' hx' => ?_, u2, u3⟩
            by_cases c : x' = x
            · right
              refine ⟨j, g, by omega, h60, ?_, ?_, fun hb1 => ?_⟩
              · rw [c]
                show (if x = x then _ else _) = _
                rw [if_pos rfl]
              · rw [c, wr_s, u2, show gR N - j = m + 1 by omega]
              · rw [show gR N - j = m + 1 by omega]
                exact u3 hb1
            · rw [wr_k c]
              show (if x' = x then _ else s2.2 x') = -1 ∨ ∃ (j : Nat) (g : Nat → Int), j < gR N ∧ (∀ p, p < 6 → -60 ≤ g p ∧ g p ≤ 60) ∧ (if x' = x then _ else s2.2 x') = _ ∧ s2.1 28 x' = _ ∧ _
              rw [if_neg c]
              exact u1 x' hx'
          · exact Or.inr ⟨u1, u2, u3, τ, u4, fun i h1 h2 => by rw [wr_c (by decide)]; exact u5 i h1 h2⟩
        have hm : z_met (d + 2 + 3 * m + 2) k_Nowheres_tally [.ref 18, .ref 1, .int (nI j)] σ (fun z s' => ∃ x : Nat, z = some (.int (nI x)) ∧ oc σ s' N k b ord (m + 1) j g x) := by
          refine ⟨rfl, z_go 120 [] ⟨fun q => ⟨by (first | exact vin (by simp only [al_2, al_3, al_4, al_5, al_7, al_11, al_12, al_13, al_15, al_16, al_17, al_19, al_20, al_21, al_22, al_23, al_24, al_25, al_26, al_28, al_30, al_31, al_32, al_33, al_34, al_36, al_41, al_42, al_43, al_44, al_49, al_50, al_51, al_52, al_54, al_55, al_56, al_57, al_58, al_59, al_60, al_61, al_62, al_63, al_64, al_65, al_66, al_67, al_68, al_69, al_70, al_71, al_72, al_73, al_74, al_75, al_76, al_77, al_78, al_79, al_80]; omega) (by simp only [al_2, al_3, al_4, al_5, al_7, al_11, al_12, al_13, al_15, al_16, al_17, al_19, al_20, al_21, al_22, al_23, al_24, al_25, al_26, al_28, al_30, al_31, al_32, al_33, al_34, al_36, al_41, al_42, al_43, al_44, al_49, al_50, al_51, al_52, al_54, al_55, al_56, al_57, al_58, al_59, al_60, al_61, al_62, al_63, al_64, al_65, al_66, al_67, al_68, al_69, al_70, al_71, al_72, al_73, al_74, al_75, al_76, al_77, al_78, al_79, al_80]; decide) | (simp (disch := omega) only [nL, nI_add, pk_mul, nc, Nat.zero_add, al_2, al_3, al_4, al_5, al_7, al_11, al_12, al_13, al_15, al_16, al_17, al_19, al_20, al_21, al_22, al_23, al_24, al_25, al_26, al_28, al_30, al_31, al_32, al_33, al_34, al_36, al_41, al_42, al_43, al_44, al_49, al_50, al_51, al_52, al_54, al_55, al_56, al_57, al_58, al_59, al_60, al_61, al_62, al_63, al_64, al_65, al_66, al_67, al_68, al_69, al_70, al_71, al_72, al_73, al_74, al_75, al_76, al_77, al_78, al_79, al_80]; exact vin (by omega) (by decide))), ?_⟩, fun q => ?_⟩⟩
          · rw [nc (by omega), o1]
            refine ⟨_, _, cil, fun q2 => ⟨by (first | exact vin (by simp only [al_2, al_3, al_4, al_5, al_7, al_11, al_12, al_13, al_15, al_16, al_17, al_19, al_20, al_21, al_22, al_23, al_24, al_25, al_26, al_28, al_30, al_31, al_32, al_33, al_34, al_36, al_41, al_42, al_43, al_44, al_49, al_50, al_51, al_52, al_54, al_55, al_56, al_57, al_58, al_59, al_60, al_61, al_62, al_63, al_64, al_65, al_66, al_67, al_68, al_69, al_70, al_71, al_72, al_73, al_74, al_75, al_76, al_77, al_78, al_79, al_80]; omega) (by simp only [al_2, al_3, al_4, al_5, al_7, al_11, al_12, al_13, al_15, al_16, al_17, al_19, al_20, al_21, al_22, al_23, al_24, al_25, al_26, al_28, al_30, al_31, al_32, al_33, al_34, al_36, al_41, al_42, al_43, al_44, al_49, al_50, al_51, al_52, al_54, al_55, al_56, al_57, al_58, al_59, al_60, al_61, al_62, al_63, al_64, al_65, al_66, al_67, al_68, al_69, al_70, al_71, al_72, al_73, al_74, al_75, al_76, al_77, al_78, al_79, al_80]; decide) | (simp (disch := omega) only [nL, nI_add, pk_mul, nc, Nat.zero_add, al_2, al_3, al_4, al_5, al_7, al_11, al_12, al_13, al_15, al_16, al_17, al_19, al_20, al_21, al_22, al_23, al_24, al_25, al_26, al_28, al_30, al_31, al_32, al_33, al_34, al_36, al_41, al_42, al_43, al_44, al_49, al_50, al_51, al_52, al_54, al_55, al_56, al_57, al_58, al_59, al_60, al_61, al_62, al_63, al_64, al_65, al_66, al_67, al_68, al_69, al_70, al_71, al_72, al_73, al_74, al_75, al_76, al_77, al_78, al_79, al_80]; exact vin (by omega) (by decide))), fun q3 => ⟨_, _, ch, ?_⟩, fun q3 => ?_⟩, fun q2 => absurd rfl q2⟩
            · refine ⟨?_, fun q4 => ⟨_, s2, hc2, ?_, ?_, yf, rfl, ?_⟩, fun q4 => ⟨?_, ?_⟩⟩
              · rw [ex]
                exact vin hx (by decide)
              · rw [ex]
                exact vin hx (by decide)
              · rw [ex]
                exact vin hx (by decide)
              · rw [ex, nc (by omega)]
                exact miss
              · rw [ex]
                exact vin hx (by decide)
              · rw [ex, nc (by omega)] at q4
                obtain ⟨y, h28, hoc⟩ := hit (lg_eq q4)
                refine ⟨y, ?_, hoc⟩
                rw [ex, nc (by omega), h28]
            · exfalso
              rw [nc (by omega), o5, cs] at q3
              exact q3 rfl
          · rw [e1, n_lt (by omega) (by omega)] at q
            omega
        obtain ⟨z, s', hcall, x, rfl, hpost⟩ := z_metx hm
        exact ⟨x, s', hcall, hpost⟩
      · -- the number is forced
        obtain ⟨q1, q2, q3, q4⟩ := o7 cs
        have cso := c_surplusOf (d + 2 + 3 * m + 1) (σ := σ) (C := sd (ord j)) (by omega) (g := g) hg
        have hcb := csum_b (C := sd (ord j)) h60
        obtain ⟨yf, s2, hc2, w1, w2, w3, w4⟩ := c_with (d + 3 * m + 1) hv hk hid (by rw [show d + 3 * m + 1 + 2 = d + 1 + 2 + 3 * m by omega]; exact ih (d + 1)) hj h hp hg hbd hlev hnt cl (v := -csum (sd (ord j)) g) (by omega) (by omega)
        have hF := NC_forced (k := k) (ord := ord) (C := sd (ord j)) (m := m) (j := j) (g := g) hord6 q2 q3 (fun i h1 h2 => q4 i h1 (by omega))
        have hoc : oc σ s2 N k b ord (m + 1) j g yf := by
          refine ⟨w1, w2, w3, ?_⟩
          rcases w4 with ⟨u1, u2, u3⟩ | ⟨u1, u2, u3, u4, u5, τ, u6, u7⟩
          · rw [← hF] at u2
            exact Or.inl ⟨u1, u2, fun hb1 => by rw [← u2]; exact u3 hb1⟩
          · obtain ⟨t, t1, t2⟩ := vl_ex (v := -csum (sd (ord j)) g) (k := k) u2.1 (by omega) (by omega)
            rw [← t2] at u3 u5 u6
            refine Or.inr ⟨u1, Nat.lt_of_lt_of_le u3 (NC_ge t1), u4, ?_⟩
            obtain ⟨τ', a1, a2, a3⟩ := FS_cons t1 (fun i hi => NC_force (C := sd (ord j)) hord6 q2 q3 (fun i h1 h2 => q4 i h1 (by omega)) (fun z => by have := vl_inj (z.trans t2.symm); omega)) u3 u6
            refine ⟨τ', a1, fun i h1 h2 => ?_⟩
            by_cases c : i = j
            · rw [c, a2]
              exact u5
            · rw [a3 i c]
              exact u7 i (by omega) h2
        have hm : z_met (d + 2 + 3 * m + 2) k_Nowheres_tally [.ref 18, .ref 1, .int (nI j)] σ (fun z s' => ∃ x : Nat, z = some (.int (nI x)) ∧ oc σ s' N k b ord (m + 1) j g x) := by
          refine ⟨rfl, z_go 120 [] ⟨fun q => ⟨by (first | exact vin (by simp only [al_2, al_3, al_4, al_5, al_7, al_11, al_12, al_13, al_15, al_16, al_17, al_19, al_20, al_21, al_22, al_23, al_24, al_25, al_26, al_28, al_30, al_31, al_32, al_33, al_34, al_36, al_41, al_42, al_43, al_44, al_49, al_50, al_51, al_52, al_54, al_55, al_56, al_57, al_58, al_59, al_60, al_61, al_62, al_63, al_64, al_65, al_66, al_67, al_68, al_69, al_70, al_71, al_72, al_73, al_74, al_75, al_76, al_77, al_78, al_79, al_80]; omega) (by simp only [al_2, al_3, al_4, al_5, al_7, al_11, al_12, al_13, al_15, al_16, al_17, al_19, al_20, al_21, al_22, al_23, al_24, al_25, al_26, al_28, al_30, al_31, al_32, al_33, al_34, al_36, al_41, al_42, al_43, al_44, al_49, al_50, al_51, al_52, al_54, al_55, al_56, al_57, al_58, al_59, al_60, al_61, al_62, al_63, al_64, al_65, al_66, al_67, al_68, al_69, al_70, al_71, al_72, al_73, al_74, al_75, al_76, al_77, al_78, al_79, al_80]; decide) | (simp (disch := omega) only [nL, nI_add, pk_mul, nc, Nat.zero_add, al_2, al_3, al_4, al_5, al_7, al_11, al_12, al_13, al_15, al_16, al_17, al_19, al_20, al_21, al_22, al_23, al_24, al_25, al_26, al_28, al_30, al_31, al_32, al_33, al_34, al_36, al_41, al_42, al_43, al_44, al_49, al_50, al_51, al_52, al_54, al_55, al_56, al_57, al_58, al_59, al_60, al_61, al_62, al_63, al_64, al_65, al_66, al_67, al_68, al_69, al_70, al_71, al_72, al_73, al_74, al_75, al_76, al_77, al_78, al_79, al_80]; exact vin (by omega) (by decide))), ?_⟩, fun q => ?_⟩⟩
          · rw [nc (by omega), o1]
            refine ⟨_, _, cil, fun q5 => ⟨by (first | exact vin (by simp only [al_2, al_3, al_4, al_5, al_7, al_11, al_12, al_13, al_15, al_16, al_17, al_19, al_20, al_21, al_22, al_23, al_24, al_25, al_26, al_28, al_30, al_31, al_32, al_33, al_34, al_36, al_41, al_42, al_43, al_44, al_49, al_50, al_51, al_52, al_54, al_55, al_56, al_57, al_58, al_59, al_60, al_61, al_62, al_63, al_64, al_65, al_66, al_67, al_68, al_69, al_70, al_71, al_72, al_73, al_74, al_75, al_76, al_77, al_78, al_79, al_80]; omega) (by simp only [al_2, al_3, al_4, al_5, al_7, al_11, al_12, al_13, al_15, al_16, al_17, al_19, al_20, al_21, al_22, al_23, al_24, al_25, al_26, al_28, al_30, al_31, al_32, al_33, al_34, al_36, al_41, al_42, al_43, al_44, al_49, al_50, al_51, al_52, al_54, al_55, al_56, al_57, al_58, al_59, al_60, al_61, al_62, al_63, al_64, al_65, al_66, al_67, al_68, al_69, al_70, al_71, al_72, al_73, al_74, al_75, al_76, al_77, al_78, al_79, al_80]; decide) | (simp (disch := omega) only [nL, nI_add, pk_mul, nc, Nat.zero_add, al_2, al_3, al_4, al_5, al_7, al_11, al_12, al_13, al_15, al_16, al_17, al_19, al_20, al_21, al_22, al_23, al_24, al_25, al_26, al_28, al_30, al_31, al_32, al_33, al_34, al_36, al_41, al_42, al_43, al_44, al_49, al_50, al_51, al_52, al_54, al_55, al_56, al_57, al_58, al_59, al_60, al_61, al_62, al_63, al_64, al_65, al_66, al_67, al_68, al_69, al_70, al_71, al_72, al_73, al_74, al_75, al_76, al_77, al_78, al_79, al_80]; exact vin (by omega) (by decide))), fun q6 => ?_, fun q6 => ⟨by (first | exact vin (by simp only [al_2, al_3, al_4, al_5, al_7, al_11, al_12, al_13, al_15, al_16, al_17, al_19, al_20, al_21, al_22, al_23, al_24, al_25, al_26, al_28, al_30, al_31, al_32, al_33, al_34, al_36, al_41, al_42, al_43, al_44, al_49, al_50, al_51, al_52, al_54, al_55, al_56, al_57, al_58, al_59, al_60, al_61, al_62, al_63, al_64, al_65, al_66, al_67, al_68, al_69, al_70, al_71, al_72, al_73, al_74, al_75, al_76, al_77, al_78, al_79, al_80]; omega) (by simp only [al_2, al_3, al_4, al_5, al_7, al_11, al_12, al_13, al_15, al_16, al_17, al_19, al_20, al_21, al_22, al_23, al_24, al_25, al_26, al_28, al_30, al_31, al_32, al_33, al_34, al_36, al_41, al_42, al_43, al_44, al_49, al_50, al_51, al_52, al_54, al_55, al_56, al_57, al_58, al_59, al_60, al_61, al_62, al_63, al_64, al_65, al_66, al_67, al_68, al_69, al_70, al_71, al_72, al_73, al_74, al_75, al_76, al_77, al_78, al_79, al_80]; decide) | (simp (disch := omega) only [nL, nI_add, pk_mul, nc, Nat.zero_add, al_2, al_3, al_4, al_5, al_7, al_11, al_12, al_13, al_15, al_16, al_17, al_19, al_20, al_21, al_22, al_23, al_24, al_25, al_26, al_28, al_30, al_31, al_32, al_33, al_34, al_36, al_41, al_42, al_43, al_44, al_49, al_50, al_51, al_52, al_54, al_55, al_56, al_57, al_58, al_59, al_60, al_61, al_62, al_63, al_64, al_65, al_66, al_67, al_68, al_69, al_70, al_71, al_72, al_73, al_74, al_75, al_76, al_77, al_78, al_79, al_80]; exact vin (by omega) (by decide))), ?_⟩⟩, fun q5 => absurd rfl q5⟩
            · exfalso
              rw [nc (by omega), o5] at q6
              have q6 : nI (sd (ord j)) = nI 0 := q6
              rw [n_eq (by omega) (by omega)] at q6
              exact cs q6
            · rw [nc (by omega), o5]
              refine ⟨_, _, cso, nI yf, s2, ?_, yf, rfl, hoc⟩
              rw [oI_neg, show d + 2 + 3 * m + 2 = d + 3 * m + 1 + 3 by omega]
              exact hc2
          · rw [e1, n_lt (by omega) (by omega)] at q
            omega
        obtain ⟨z, s', hcall, x, rfl, hpost⟩ := z_metx hm
        exact ⟨x, s', hcall, hpost⟩
