/-! the model's faces -/
theorem i_par : ∀ e, e < 20 → (nI e - nI e / 2 * 2 = nI (e % 2)) ∧ nI e / 2 = nI (e / 2) := by decide +kernel
theorem i_rem : ∀ a, a < 21 → ∀ b, b < 21 → 0 < b → nI a - nI a / nI b * nI b = nI (a % b) := by decide +kernel
theorem c_postOfD (d : Nat) {σ : z_M} {N : zN} (h : netD σ N) (hv : NV N) {x : Nat} (hx : x < 2 * gR N) : z_call (d + 1) k_Md_postOf [.ref 53, .int (nI x)] σ (some (.int (nI (poN N x)))) σ := by
  obtain ⟨P, R, eP, hP, egP, eR, hR, eg, hse⟩ := hv.nat
  obtain ⟨h1, h2⟩ := i_par x (by omega)
  obtain ⟨es, ee, -⟩ := hse (x / 2) (by omega)
  have f2 : σ.1 54 (x / 2) = nI (gs N (x / 2)) := by rw [(h.2.2.2 (x / 2) (by omega)).1, es]
  have f3 : σ.1 55 (x / 2) = nI (ge N (x / 2)) := by rw [(h.2.2.2 (x / 2) (by omega)).2.1, ee]
  refine ⟨rfl, z_go 30 [] ⟨by decide, fun q => ⟨by decide, ?_, ?_, rfl⟩, fun q => ⟨by decide, ?_, ?_, rfl⟩⟩⟩
  · rw [h2]
    (first | exact vin (by simp only [al_2, al_3, al_4, al_5, al_7, al_11, al_12, al_13, al_15, al_16, al_17, al_19, al_20, al_21, al_22, al_23, al_24, al_25, al_26, al_28, al_30, al_31, al_32, al_33, al_34, al_36, al_41, al_42, al_43, al_44, al_49, al_50, al_51, al_52, al_54, al_55, al_56, al_57, al_58, al_59, al_60, al_61, al_62, al_63, al_64, al_65, al_66, al_67, al_68, al_69, al_70, al_71, al_72, al_73, al_74, al_75, al_76, al_77, al_78, al_79, al_80]; omega) (by simp only [al_2, al_3, al_4, al_5, al_7, al_11, al_12, al_13, al_15, al_16, al_17, al_19, al_20, al_21, al_22, al_23, al_24, al_25, al_26, al_28, al_30, al_31, al_32, al_33, al_34, al_36, al_41, al_42, al_43, al_44, al_49, al_50, al_51, al_52, al_54, al_55, al_56, al_57, al_58, al_59, al_60, al_61, al_62, al_63, al_64, al_65, al_66, al_67, al_68, al_69, al_70, al_71, al_72, al_73, al_74, al_75, al_76, al_77, al_78, al_79, al_80]; decide) | (simp (disch := omega) only [nL, nI_add, pk_mul, nc, Nat.zero_add, al_2, al_3, al_4, al_5, al_7, al_11, al_12, al_13, al_15, al_16, al_17, al_19, al_20, al_21, al_22, al_23, al_24, al_25, al_26, al_28, al_30, al_31, al_32, al_33, al_34, al_36, al_41, al_42, al_43, al_44, al_49, al_50, al_51, al_52, al_54, al_55, al_56, al_57, al_58, al_59, al_60, al_61, al_62, al_63, al_64, al_65, al_66, al_67, al_68, al_69, al_70, al_71, al_72, al_73, al_74, al_75, al_76, al_77, al_78, al_79, al_80]; exact vin (by omega) (by decide)))
  · rw [h1] at q
    have q : ¬ nI (x % 2) = nI 0 := q
    rw [n_eq (by omega) (by omega)] at q
    rw [h2, nc (by omega), f3, poN, if_neg q]
  · rw [h2]
    (first | exact vin (by simp only [al_2, al_3, al_4, al_5, al_7, al_11, al_12, al_13, al_15, al_16, al_17, al_19, al_20, al_21, al_22, al_23, al_24, al_25, al_26, al_28, al_30, al_31, al_32, al_33, al_34, al_36, al_41, al_42, al_43, al_44, al_49, al_50, al_51, al_52, al_54, al_55, al_56, al_57, al_58, al_59, al_60, al_61, al_62, al_63, al_64, al_65, al_66, al_67, al_68, al_69, al_70, al_71, al_72, al_73, al_74, al_75, al_76, al_77, al_78, al_79, al_80]; omega) (by simp only [al_2, al_3, al_4, al_5, al_7, al_11, al_12, al_13, al_15, al_16, al_17, al_19, al_20, al_21, al_22, al_23, al_24, al_25, al_26, al_28, al_30, al_31, al_32, al_33, al_34, al_36, al_41, al_42, al_43, al_44, al_49, al_50, al_51, al_52, al_54, al_55, al_56, al_57, al_58, al_59, al_60, al_61, al_62, al_63, al_64, al_65, al_66, al_67, al_68, al_69, al_70, al_71, al_72, al_73, al_74, al_75, al_76, al_77, al_78, al_79, al_80]; decide) | (simp (disch := omega) only [nL, nI_add, pk_mul, nc, Nat.zero_add, al_2, al_3, al_4, al_5, al_7, al_11, al_12, al_13, al_15, al_16, al_17, al_19, al_20, al_21, al_22, al_23, al_24, al_25, al_26, al_28, al_30, al_31, al_32, al_33, al_34, al_36, al_41, al_42, al_43, al_44, al_49, al_50, al_51, al_52, al_54, al_55, al_56, al_57, al_58, al_59, al_60, al_61, al_62, al_63, al_64, al_65, al_66, al_67, al_68, al_69, al_70, al_71, al_72, al_73, al_74, al_75, al_76, al_77, al_78, al_79, al_80]; exact vin (by omega) (by decide)))
  · rw [h1] at q
    have q : nI (x % 2) = nI 0 := q
    rw [n_eq (by omega) (by omega)] at q
    rw [h2, nc (by omega), f2, poN, if_pos q]
theorem c_round (d : Nat) {σ : z_M} {N : zN} (h : netD σ N) (hv : NV N) {x f : Nat} (hx : x < 2 * gR N) (hf : NX (poN N) (2 * gR N) x f) : z_call (d + 2) k_Md_round [.ref 53, .int (nI x)] σ (some (.int (nI f))) σ := by
  obtain ⟨P, R, eP, hP, egP, eR, hR, eg, hse⟩ := hv.nat
  have e1 : σ.1 53 1 = nI R := by rw [h.2.1, eR]
  have e2 : (2 : Int32) * nI R = nI (2 * R) := by
    show nI 2 * nI R = _
    rw [pk_mul]
  have hpo := fun {y : Nat} (hy : y < 2 * gR N) => poN_lt hv hy
  rw [egP] at hpo
  obtain ⟨hf1, hf2, hf3⟩ := hf
  have loop : ∀ (n k : Nat), k < 2 * gR N → ((x < f ∧ x ≤ k ∧ k < f) ∨ (f ≤ x ∧ (x ≤ k ∨ k < f))) → (if k < f then f - k else 2 * gR N - k + f) = n →
      z_wp (z_call (d + 1)) none k_Md_round (fun r s => r = some (.int (nI f)) ∧ s = σ) 2 [some (.ref 53), some (.int (nI x)), some (.int (nI k))] [] σ := by
    intro n
    induction n with
    | zero =>
      intro k hk hi hn
      exfalso
      split at hn <;> omega
    | succ n ih =>
      intro k hk hi hn
      have hr := i_rem (k + 1) (by omega) (2 * R) (by omega) (by omega)
      have hml : (k + 1) % (2 * R) < 2 * gR N := by
        rw [eg]
        exact Nat.mod_lt _ (by omega)
      have p1 := c_postOfD d h hv hml
      have p2 := c_postOfD d h hv hx
      have b1 := hpo hml
      have b2 := hpo hx
      have hmod : (k + 1) % (2 * R) = if k + 1 = 2 * R then 0 else k + 1 := by
        split
        · rename_i z
          rw [z, Nat.mod_self]
        · exact Nat.mod_eq_of_lt (by omega)
      have hA : (nI k + 1) - (nI k + 1) / (σ.1 53 1 |> fun r => 2 * r) * (2 * σ.1 53 1) = nI ((k + 1) % (2 * R)) := by
        show (nI k + 1) - (nI k + 1) / (2 * σ.1 53 1) * (2 * σ.1 53 1) = nI ((k + 1) % (2 * R))
        rw [e1, e2, show nI k + 1 = nI (k + 1) from nI_add k 1]
        exact hr
      have hA : (nI k + 1) - (nI k + 1) / (2 * σ.1 53 1) * (2 * σ.1 53 1) = nI ((k + 1) % (2 * R)) := hA
      rw [← hA] at p1
      refine z_go 40 [2] ⟨?_, _, _, p1, _, _, p2, fun q => ?_, fun q => ?_⟩
      · rw [e1, e2]
        show ¬ nI (2 * R) = nI 0
        rw [n_eq (by omega) (by omega)]
        omega
      · show z_wp _ _ _ _ 2 _ _ _
        rw [n_eq (by omega) (by omega)] at q
        rw [hA]
        have hne : (k + 1) % (2 * R) ≠ f := fun z => q (by rw [z]; exact hf2)
        rw [hmod] at hne ⊢
        split at hne
        · rename_i z
          rw [if_pos z]
          refine ih 0 (by omega) ?_ ?_
          · rcases hi with ⟨i1, i2, i3⟩ | ⟨i1, i2⟩
            · omega
            · exact Or.inr ⟨i1, Or.inr (by omega)⟩
          · rw [if_pos (by omega)]
            split at hn <;> omega
        · rename_i z
          rw [if_neg z]
          refine ih (k + 1) (by omega) ?_ ?_
          · rcases hi with ⟨i1, i2, i3⟩ | ⟨i1, i2⟩
            · exact Or.inl ⟨i1, by omega, by omega⟩
            · rcases i2 with i2 | i2
              · exact Or.inr ⟨i1, Or.inl (by omega)⟩
              · exact Or.inr ⟨i1, Or.inr (by omega)⟩
          · by_cases c : k < f
            · rw [if_pos c] at hn
              rw [if_pos (by omega)]
              omega
            · rw [if_neg c] at hn
              rw [if_neg (by omega)]
              omega
      · rw [n_eq (by omega) (by omega)] at q
        refine ⟨?_, rfl⟩
        have hb : (k + 1) % (2 * R) = f := by
          refine Classical.byContradiction fun hne => ?_
          rw [hmod] at hne q
          split at hne
          · rename_i z
            rw [if_pos z] at q
            rcases hf3 with ⟨g1, g2⟩ | ⟨g1, g2, g3⟩
            · omega
            · exact g3 0 (by omega) q
          · rename_i z
            rw [if_neg z] at q
            rcases hf3 with ⟨g1, g2⟩ | ⟨g1, g2, g3⟩
            · exact g2 (k + 1) (by omega) (by omega) q
            · by_cases c : k < f
              · exact g3 (k + 1) (by omega) q
              · exact g2 (k + 1) (by omega) (by omega) q
        rw [hA, hb]
  exact ⟨rfl, z_go 40 [2] (loop _ x hx (by
    rcases hf3 with ⟨g1, g2⟩ | ⟨g1, g2, g3⟩
    · exact Or.inl ⟨g1, Nat.le_refl x, g1⟩
    · exact Or.inr ⟨g1, Or.inl (Nat.le_refl x)⟩) rfl)⟩
theorem c_roundF (d : Nat) {σ : z_M} {N : zN} (h : netD σ N) (hv : NV N) {e : Nat} (he : e < 2 * gR N) : z_call (d + 2) k_Md_round [.ref 53, .int (nI e ^^^ 1)] σ (some (.int (nI (fcN N e)))) σ := by
  obtain ⟨P, R, eP, hP, egP, eR, hR, eg, hse⟩ := hv.nat
  have hx := x1_in (R := gR N) (by omega) he
  obtain ⟨f, hf⟩ := NX_ex (po := poN N) hx
  have := c_round d h hv hx hf
  rw [(i_half e (by omega)).2.2]
  unfold fcN
  rw [nxf_eq hf]
  exact this
theorem c_faceOf (d : Nat) {σ : z_M} {N : zN} (h : netD σ N) (hv : NV N) {e : Nat} (he : e < 2 * gR N) : z_call (d + 3) k_Md_faceOf [.ref 53, .int (nI e)] σ (some (.int (nI (plen (fcN N) e)))) σ := by
  obtain ⟨P, R, eP, hP, egP, eR, hR, eg, hse⟩ := hv.nat
  obtain ⟨hF, hi⟩ := fc_ok (N := N) (by omega)
  obtain ⟨L, hL, hLM⟩ := isP_ex hF hi he
  rw [plen_eq hL]
  have loop : ∀ (n i : Nat), i + n = L → i < L → z_wp (z_call (d + 2)) none k_Md_faceOf (fun r s => r = some (.int (nI L)) ∧ s = σ) 4 [some (.ref 53), some (.int (nI e)), some (.int (nI i)), some (.int (nI (itF (fcN N) i e)))] [] σ := by
    intro n
    induction n with
    | zero =>
      intro i hn hi
      omega
    | succ n ih =>
      intro i hn hi2
      have hlt := itF_lt hF he i
      have hlt2 := itF_lt hF he (i + 1)
      refine z_go 40 [4] ⟨_, _, c_roundF d h hv hlt, fun q => ?_, fun q => ?_⟩
      · show z_wp _ _ _ _ 4 _ _ _
        have q : ¬ nI (itF (fcN N) (i + 1) e) = nI e := q
        rw [n_eq (by omega) (by omega)] at q
        rw [show nI i + 1 = nI (i + 1) from nI_add i 1]
        refine ih (i + 1) (by omega) ?_
        refine Classical.byContradiction fun z => q ?_
        rw [show i + 1 = L by omega]
        exact hL.2.1
      · have q : nI (itF (fcN N) (i + 1) e) = nI e := q
        rw [n_eq (by omega) (by omega)] at q
        refine ⟨?_, rfl⟩
        have : i + 1 = L := by
          refine Classical.byContradiction fun z => ?_
          exact hL.2.2 (i + 1) (by omega) (by omega) q
        rw [show nI i + 1 = nI (i + 1) from nI_add i 1, this]
  exact ⟨rfl, z_go 40 [4] (loop L 0 (by omega) hL.1)⟩
theorem y_face (d : Nat) {σ : z_M} {B : zB} (h : RepD σ B) (hv : VB B) (r b : Int32) : opD (d + 4) k_Md_face [.ref 53, .int r, .int b] σ (sFace r b B) := by
  obtain ⟨P, R, eP, hP, egP, eR, hR, eg, hse⟩ := hv.1.nat
  obtain ⟨σt, ht, hRt, hkt⟩ := c_finding (d + 2) h (-1000001)
  have ch := c_isRoad (d + 2) σ r
  rw [h.1.2.1] at ch
  unfold sFace
  refine z_metD ⟨rfl, z_go 60 [] ⟨_, _, ch, fun q => ⟨_, σt, ht, ?_⟩, fun q => ⟨fun q2 => ?_, fun q2 => ?_⟩⟩⟩
  · rw [if_pos q]
    exact ⟨rfl, hRt, hkt⟩
  · rw [if_neg q, if_pos q2]
    rw [eR] at q
    obtain ⟨j, hj, rfl⟩ := hasP_ne (by omega) q
    have cf := c_faceOf d h.1 hv.1 (e := 2 * j) (by omega)
    have e2 : (2 : Int32) * nI j + 0 = nI (2 * j) := by
      show nI 2 * nI j + nI 0 = _
      rw [pk_mul, nI_add]
      rfl
    rw [← e2] at cf
    refine ⟨_, _, cf, ?_, h, kD.rf⟩
    rw [nc (by omega)]
    rfl
  · rw [if_neg q, if_neg q2]
    rw [eR] at q
    obtain ⟨j, hj, rfl⟩ := hasP_ne (by omega) q
    have cf := c_faceOf d h.1 hv.1 (e := 2 * j + 1) (by omega)
    have e2 : (2 : Int32) * nI j + 1 = nI (2 * j + 1) := by
      show nI 2 * nI j + nI 1 = _
      rw [pk_mul, nI_add]
    rw [← e2] at cf
    refine ⟨_, _, cf, ?_, h, kD.rf⟩
    rw [nc (by omega)]
theorem alo_road {N : zN} (p : Nat) : aloN N p ↔ ∀ i, i < gR N → gs N i ≠ p ∧ ge N i ≠ p := by
  constructor
  · intro z i hi
    refine ⟨fun q => z (2 * i) (by omega) ?_, fun q => z (2 * i + 1) (by omega) ?_⟩
    · rw [poN, if_pos (by omega), show 2 * i / 2 = i by omega]
      exact q
    · rw [poN, if_neg (by omega), show (2 * i + 1) / 2 = i by omega]
      exact q
  · intro z x hx q
    have := z (x / 2) (by omega)
    unfold poN at q
    split at q
    · exact this.1 q
    · exact this.2 q
theorem i_a0 {x : Nat} : nI x &&& 0 = nI 0 := by
  show nI x &&& nI 0 = nI 0
  rw [i_and, Nat.and_zero]
theorem i_a1 {x : Nat} (h : x ≤ 1) : nI x &&& 1 = nI x := by
  rcases (show x = 0 ∨ x = 1 by omega) with rfl | rfl <;> rfl
theorem y_faces (d : Nat) {σ : z_M} {B : zB} (h : RepD σ B) (hv : VB B) : opD (d + 3) k_Md_faces [.ref 53] σ (sFaces B) := by
  obtain ⟨P, R, eP, hP, egP, eR, hR, eg, hse⟩ := hv.1.nat
  have e0 : σ.1 53 0 = nI P := by rw [h.1.1, eP]
  have e1 : σ.1 53 1 = nI R := by rw [h.1.2.1, eR]
  have e2 : (2 : Int32) * nI R = nI (2 * R) := by
    show nI 2 * nI R = _
    rw [pk_mul]
  obtain ⟨hF, hi⟩ := fc_ok (N := B.1) (by omega)
  have ends : ∀ (n e : Nat) (l3 l4 : Option Value), e + n = 2 * R →
      z_wp (z_call (d + 2)) none k_Md_faces (pD σ (sFaces B)) 82 [some (.ref 53), some (.int (nI (cn (aloN B.1) P + cn (leaF (fcN B.1)) e))), some (.int (nI e)), l3, l4] [] σ := by
    intro n
    induction n with
    | zero =>
      intro e l3 l4 hn
      obtain rfl : e = 2 * R := by omega
      refine z_go 40 [4, 17, 82, 103] ⟨fun q => ⟨?_, h, kD.rf⟩, fun q => ?_⟩
      · unfold sFaces
        rw [egP, eg]
      · rw [e1, e2] at q
        exact absurd (Int32.le_refl _) q
    | succ n ih =>
      intro e l3 l4 hn
      have he : e < 2 * gR B.1 := by omega
      obtain ⟨L, hL, hLM⟩ := isP_ex hF hi he
      have inner : ∀ (m i : Nat), i + m = L → 0 < i → z_wp (z_call (d + 2)) none k_Md_faces (pD σ (sFaces B)) 103 [some (.ref 53), some (.int (nI (cn (aloN B.1) P + cn (leaF (fcN B.1)) e))), some (.int (nI e)), some (.int (nI (pb (∀ k, 0 < k → k < i → e < itF (fcN B.1) k e)))), some (.int (nI (itF (fcN B.1) i e)))] [] σ := by
        intro m
        induction m with
        | zero =>
          intro i hm hi0
          obtain rfl : i = L := by omega
          have hpb := pb_le (∀ k, 0 < k → k < i → e < itF (fcN B.1) k e)
          have hle : (∀ k, 0 < k → k < i → e < itF (fcN B.1) k e) ↔ leaF (fcN B.1) e := by
            constructor
            · intro z k hk
              obtain ⟨j, hj, rfl⟩ := (onF_lt hL).mp hk
              by_cases c : j = 0
              · subst c
                exact Nat.le_refl e
              · have := z j (by omega) hj
                omega
            · intro z k hk0 hk
              have h1 := z _ ⟨k, rfl⟩
              have h2 := hL.2.2 k hk0 hk
              omega
          rw [hL.2.1, pb_iff hle]
          rw [pb_iff hle] at hpb
          have nx := ih (e + 1) (some (.int (nI (pb (leaF (fcN B.1) e))))) (some (.int (nI e))) (by omega)
          rw [cn_s, ← Nat.add_assoc] at nx
          refine z_go 40 [4, 17, 82, 103] ⟨fun q => ⟨fun q2 => ?_, fun q2 => ?_⟩, fun q => absurd rfl q⟩
          · show z_wp _ _ _ _ 82 _ _ _
            have q2 : nI (pb (leaF (fcN B.1) e)) = nI 0 := q2
            rw [n_eq (by omega) (by omega)] at q2
            rw [q2] at nx ⊢
            simp only [nL, nI_add]
            exact nx
          · show z_wp _ _ _ _ 82 _ _ _
            have q2 : ¬ nI (pb (leaF (fcN B.1) e)) = nI 0 := q2
            rw [n_eq (by omega) (by omega)] at q2
            have q3 : pb (leaF (fcN B.1) e) = 1 := by omega
            rw [q3] at nx ⊢
            simp only [nL, nI_add]
            exact nx
        | succ m ihm =>
          intro i hm hi0
          have hlt := itF_lt hF he i
          have hne := hL.2.2 i hi0 (by omega)
          have hpb := pb_le (∀ k, 0 < k → k < i → e < itF (fcN B.1) k e)
          have nx := ihm (i + 1) (by omega) (by omega)
          refine z_go 40 [4, 17, 82, 103] ⟨fun q => ?_, fun q => ⟨fun q2 => ⟨_, _, c_roundF d h.1 hv.1 hlt, ?_⟩, fun q2 => ⟨_, _, c_roundF d h.1 hv.1 hlt, ?_⟩⟩⟩
          · rw [n_eq (by omega) (by omega)] at q
            exact absurd q hne
          · show z_wp _ _ _ _ 103 _ _ _
            rw [n_le (by omega) (by omega)] at q2
            have e5 : pb (∀ k, 0 < k → k < i + 1 → e < itF (fcN B.1) k e) = 0 := pb_f (fun z => by
              have := z i hi0 (by omega)
              omega)
            rw [e5] at nx
            rw [i_a0]
            exact nx
          · show z_wp _ _ _ _ 103 _ _ _
            rw [n_le (by omega) (by omega)] at q2
            have e5 : pb (∀ k, 0 < k → k < i + 1 → e < itF (fcN B.1) k e) = pb (∀ k, 0 < k → k < i → e < itF (fcN B.1) k e) := pb_iff ⟨fun z k hk0 hk => z k hk0 (by omega), fun z k hk0 hk => by
              by_cases c : k = i
              · rw [c]
                omega
              · exact z k hk0 (by omega)⟩
            rw [e5] at nx
            rw [i_a1 hpb]
            exact nx
      have st := inner (L - 1) 1 (by have := hL.1; omega) (by omega)
      have e5 : pb (∀ k, 0 < k → k < 1 → e < itF (fcN B.1) k e) = 1 := pb_t (fun k hk0 hk => by omega)
      rw [e5] at st
      refine z_go 40 [4, 17, 82, 103] ⟨fun q => ?_, fun q => ⟨_, _, c_roundF d h.1 hv.1 he, ?_⟩⟩
      · rw [e1, e2] at q
        simp (disch := omega) only [nL, nI_add, pk_mul, n_le, n_lt, n_eq] at q
        omega
      · show z_wp _ _ _ _ 103 _ _ _
        exact st
  have posts : ∀ (n p : Nat) (l3 l4 : Option Value), p + n = P →
      z_wp (z_call (d + 2)) none k_Md_faces (pD σ (sFaces B)) 4 [some (.ref 53), some (.int (nI (cn (aloN B.1) p))), some (.int (nI p)), l3, l4] [] σ := by
    intro n
    induction n with
    | zero =>
      intro p l3 l4 hn
      obtain rfl : p = P := by omega
      refine z_go 40 [4, 17, 82, 103] ⟨fun q => ?_, fun q => ?_⟩
      · show z_wp _ _ _ _ 82 _ _ _
        exact ends (2 * R) 0 l3 l4 (by omega)
      · rw [e0] at q
        exact absurd (Int32.le_refl _) q
    | succ n ih =>
      intro p l3 l4 hn
      have inner : ∀ (m i : Nat), i + m = R → z_wp (z_call (d + 2)) none k_Md_faces (pD σ (sFaces B)) 17 [some (.ref 53), some (.int (nI (cn (aloN B.1) p))), some (.int (nI p)), some (.int (nI (pb (∀ k, k < i → gs B.1 k ≠ p ∧ ge B.1 k ≠ p)))), some (.int (nI i))] [] σ := by
        intro m
        induction m with
        | zero =>
          intro i hm
          obtain rfl : i = R := by omega
          have hle : (∀ k, k < i → gs B.1 k ≠ p ∧ ge B.1 k ≠ p) ↔ aloN B.1 p := by
            rw [alo_road, eg]
          have hpb := pb_le (aloN B.1 p)
          rw [pb_iff hle]
          have nx := ih (p + 1) (some (.int (nI (pb (aloN B.1 p))))) (some (.int (nI i))) (by omega)
          rw [cn_s] at nx
          refine z_go 40 [4, 17, 82, 103] ⟨fun q => ⟨fun q2 => ?_, fun q2 => ?_⟩, fun q => ?_⟩
          · show z_wp _ _ _ _ 4 _ _ _
            have q2 : nI (pb (aloN B.1 p)) = nI 0 := q2
            rw [n_eq (by omega) (by omega)] at q2
            rw [q2] at nx ⊢
            simp only [nL, nI_add]
            exact nx
          · show z_wp _ _ _ _ 4 _ _ _
            have q2 : ¬ nI (pb (aloN B.1 p)) = nI 0 := q2
            rw [n_eq (by omega) (by omega)] at q2
            have q3 : pb (aloN B.1 p) = 1 := by omega
            rw [q3] at nx ⊢
            simp only [nL, nI_add]
            exact nx
          · rw [e1] at q
            exact absurd (Int32.le_refl _) q
        | succ m ihm =>
          intro i hm
          obtain ⟨es, ee, hs, he⟩ := hse i (by omega)
          have f1 : σ.1 54 i = nI (gs B.1 i) := by rw [(h.1.2.2.2 i (by omega)).1, es]
          have f2 : σ.1 55 i = nI (ge B.1 i) := by rw [(h.1.2.2.2 i (by omega)).2.1, ee]
          have hpb := pb_le (∀ k, k < i → gs B.1 k ≠ p ∧ ge B.1 k ≠ p)
          have nx := ihm (i + 1) (by omega)
          have no : ¬ (gs B.1 i ≠ p ∧ ge B.1 i ≠ p) → pb (∀ k, k < i + 1 → gs B.1 k ≠ p ∧ ge B.1 k ≠ p) = 0 := fun z => pb_f (fun y => z (y i (by omega)))
          refine z_go 40 [4, 17, 82, 103] ⟨fun q => ?_, fun q => ⟨by (first | exact vin (by simp only [al_2, al_3, al_4, al_5, al_7, al_11, al_12, al_13, al_15, al_16, al_17, al_19, al_20, al_21, al_22, al_23, al_24, al_25, al_26, al_28, al_30, al_31, al_32, al_33, al_34, al_36, al_41, al_42, al_43, al_44, al_49, al_50, al_51, al_52, al_54, al_55, al_56, al_57, al_58, al_59, al_60, al_61, al_62, al_63, al_64, al_65, al_66, al_67, al_68, al_69, al_70, al_71, al_72, al_73, al_74, al_75, al_76, al_77, al_78, al_79, al_80]; omega) (by simp only [al_2, al_3, al_4, al_5, al_7, al_11, al_12, al_13, al_15, al_16, al_17, al_19, al_20, al_21, al_22, al_23, al_24, al_25, al_26, al_28, al_30, al_31, al_32, al_33, al_34, al_36, al_41, al_42, al_43, al_44, al_49, al_50, al_51, al_52, al_54, al_55, al_56, al_57, al_58, al_59, al_60, al_61, al_62, al_63, al_64, al_65, al_66, al_67, al_68, al_69, al_70, al_71, al_72, al_73, al_74, al_75, al_76, al_77, al_78, al_79, al_80]; decide) | (simp (disch := omega) only [nL, nI_add, pk_mul, nc, Nat.zero_add, al_2, al_3, al_4, al_5, al_7, al_11, al_12, al_13, al_15, al_16, al_17, al_19, al_20, al_21, al_22, al_23, al_24, al_25, al_26, al_28, al_30, al_31, al_32, al_33, al_34, al_36, al_41, al_42, al_43, al_44, al_49, al_50, al_51, al_52, al_54, al_55, al_56, al_57, al_58, al_59, al_60, al_61, al_62, al_63, al_64, al_65, al_66, al_67, al_68, al_69, al_70, al_71, al_72, al_73, al_74, al_75, al_76, al_77, al_78, al_79, al_80]; exact vin (by omega) (by decide))), fun q2 => ?_, fun q2 => ⟨by (first | exact vin (by simp only [al_2, al_3, al_4, al_5, al_7, al_11, al_12, al_13, al_15, al_16, al_17, al_19, al_20, al_21, al_22, al_23, al_24, al_25, al_26, al_28, al_30, al_31, al_32, al_33, al_34, al_36, al_41, al_42, al_43, al_44, al_49, al_50, al_51, al_52, al_54, al_55, al_56, al_57, al_58, al_59, al_60, al_61, al_62, al_63, al_64, al_65, al_66, al_67, al_68, al_69, al_70, al_71, al_72, al_73, al_74, al_75, al_76, al_77, al_78, al_79, al_80]; omega) (by simp only [al_2, al_3, al_4, al_5, al_7, al_11, al_12, al_13, al_15, al_16, al_17, al_19, al_20, al_21, al_22, al_23, al_24, al_25, al_26, al_28, al_30, al_31, al_32, al_33, al_34, al_36, al_41, al_42, al_43, al_44, al_49, al_50, al_51, al_52, al_54, al_55, al_56, al_57, al_58, al_59, al_60, al_61, al_62, al_63, al_64, al_65, al_66, al_67, al_68, al_69, al_70, al_71, al_72, al_73, al_74, al_75, al_76, al_77, al_78, al_79, al_80]; decide) | (simp (disch := omega) only [nL, nI_add, pk_mul, nc, Nat.zero_add, al_2, al_3, al_4, al_5, al_7, al_11, al_12, al_13, al_15, al_16, al_17, al_19, al_20, al_21, al_22, al_23, al_24, al_25, al_26, al_28, al_30, al_31, al_32, al_33, al_34, al_36, al_41, al_42, al_43, al_44, al_49, al_50, al_51, al_52, al_54, al_55, al_56, al_57, al_58, al_59, al_60, al_61, al_62, al_63, al_64, al_65, al_66, al_67, al_68, al_69, al_70, al_71, al_72, al_73, al_74, al_75, al_76, al_77, al_78, al_79, al_80]; exact vin (by omega) (by decide))), fun q3 => ?_, fun q3 => ?_⟩⟩⟩
          · rw [e1] at q
            simp (disch := omega) only [nL, nI_add, pk_mul, n_le, n_lt, n_eq] at q
            omega
          · show z_wp _ _ _ _ 17 _ _ _
            rw [nc (by omega), f1, n_eq (by omega) (by omega)] at q2
            rw [no (fun z => z.1 q2)] at nx
            rw [i_a0, show nI i + 1 = nI (i + 1) from nI_add i 1]
            exact nx
          · show z_wp _ _ _ _ 17 _ _ _
            rw [nc (by omega), f2, n_eq (by omega) (by omega)] at q3
            rw [no (fun z => z.2 q3)] at nx
            rw [i_a0, show nI i + 1 = nI (i + 1) from nI_add i 1]
            exact nx
          · show z_wp _ _ _ _ 17 _ _ _
            rw [nc (by omega), f1, n_eq (by omega) (by omega)] at q2
            rw [nc (by omega), f2, n_eq (by omega) (by omega)] at q3
            have e5 : pb (∀ k, k < i + 1 → gs B.1 k ≠ p ∧ ge B.1 k ≠ p) = pb (∀ k, k < i → gs B.1 k ≠ p ∧ ge B.1 k ≠ p) := pb_iff ⟨fun z k hk => z k (by omega), fun z k hk => by
              by_cases c : k = i
              · rw [c]
                exact ⟨q2, q3⟩
              · exact z k (by omega)⟩
            rw [e5] at nx
            rw [i_a1 hpb, show nI i + 1 = nI (i + 1) from nI_add i 1]
            exact nx
      have st := inner R 0 (by omega)
      have e5 : pb (∀ k, k < 0 → gs B.1 k ≠ p ∧ ge B.1 k ≠ p) = 1 := pb_t (fun k hk => absurd hk (Nat.not_lt_zero k))
      rw [e5] at st
      refine z_go 40 [4, 17, 82, 103] ⟨fun q => ?_, fun q => ?_⟩
      · rw [e0] at q
        simp (disch := omega) only [nL, nI_add, pk_mul, n_le, n_lt, n_eq] at q
        omega
      · exact st
  exact z_metD ⟨rfl, z_go 40 [4, 17, 82, 103] (posts P 0 _ _ (by omega))⟩
