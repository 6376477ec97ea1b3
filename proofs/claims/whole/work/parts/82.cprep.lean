/-! the component's NOWHERES: prepare's last loop -/
def lkd (σ : z_M) (N : zN) (ord : Nat → Nat) (m : Nat) : Prop := ∀ j, m ≤ j → j < gR N → σ.1 23 (ord j) = nI (ltr (gs N) (ge N) ord (j + 1) (gs N (ord j)) (gR N - (j + 1))) ∧ σ.1 24 (ord j) = nI (ltr (gs N) (ge N) ord (j + 1) (ge N (ord j)) (gR N - (j + 1))) ∧ ∃ w, w < 64 ∧ σ.1 22 (ord j) = nI w ∧ sdOK (gs N) (ge N) ord (fun _ => w) (gR N) j
theorem c_prep93 (d : Nat) {σ0 : z_M} {N : zN} (h : netC σ0 N) (hv : NV N) {ord : Nat → Nat} (ho : ∀ i, i < gR N → ord i < gR N) (hinj : ∀ i j, i < gR N → j < gR N → ord i = ord j → i = j) (h20 : ∀ x, x < gR N → σ0.1 20 x = nI (ord x)) (a2 a3 : Int32) : ∀ (m : Nat) (σi : z_M) (hg : Nat → Nat) (v : Int32), m ≤ gR N → v = nI m - 1 → fr [22, 23, 24, 25, 26] σ0 σi → HGI hg (gP N) → (∀ p, p < 6 → σi.1 25 p = nI (hg p)) → (∀ p, p < 6 → σi.1 26 p = nI (ltr (gs N) (ge N) ord m p (gR N - m))) → (∀ i, m ≤ i → i < gR N → hg (gs N (ord i)) = hg (ge N (ord i))) → lkd σi N ord m →
    z_wp (z_call (d + 1)) none k_Nowheres_prepare (fun z s => z = none ∧ (fr [22, 23, 24, 25, 26] σ0 s ∧ lkd s N ord 0)) 93 [some (.ref 18), some (.ref 1), some (.int a2), some (.int a3), some (.int v)] [] σi := by
  obtain ⟨P, R, eP, hP, egP, eR, hR, eg, hse⟩ := hv.nat
  have h6 : ∀ i, i < gR N → gs N (ord i) < gP N ∧ ge N (ord i) < gP N := fun i hi => by
    have := hse (ord i) (by have := ho i hi; omega)
    omega
  intro m
  induction m with
  | zero =>
    intro σi hg v hm hv1 hf hI h25 h26 hl hk
    exact z_go 20 [93] ⟨fun q => ⟨rfl, hf, hk⟩, fun q => absurd (by rw [hv1]; decide) q⟩
  | succ m ih =>
    intro σi hg v hm hv1 hf hI h25 h26 hl hk
    have ev : v = nI m := by
      rw [hv1, ← nI_add m 1]
      exact Int32.add_sub_cancel _ _
    have e20 : σi.1 20 m = nI (ord m) := by rw [hf.at (by decide)]; exact h20 m (by omega)
    have hom := ho m (by omega)
    obtain ⟨hS, hE⟩ := h6 m (by omega)
    have hNi : netC σi N := h.fr (hf.1 1 (by decide)) (hf.1 2 (by decide)) (hf.1 3 (by decide)) (hf.1 4 (by decide)) (hf.1 5 (by decide))
    obtain ⟨σ', hc, g1, g2, g3, g4, g5, g6, g7⟩ := c_lookAhead d hNi hv (r := ord m) hom (lt := fun p => ltr (gs N) (ge N) ord (m + 1) p (gR N - (m + 1))) (hg := hg) (fun p hp => ⟨h26 p hp, by have := ltr_le (gs N) (ge N) ord (m + 1) p (gR N - (m + 1)); show ltr (gs N) (ge N) ord (m + 1) p (gR N - (m + 1)) ≤ 100; omega⟩) (fun p hp => ⟨h25 p hp, hI.lt p hp⟩) (fun p hp => hI.hT (by omega) hS hE hp)
    have nx := ih σ' (hgM hg (gs N (ord m)) (ge N (ord m))) (nI m + -1) (by omega) (Int32.sub_eq_add_neg _ _).symm (fr.tr hf g1) (hI.next (by omega) hS hE) g7 (fun p hp => by
      rw [g6 p hp, show gR N - m = (gR N - (m + 1)) + 1 by omega, ltr_s]) (fun i h1 h2 => by
      obtain ⟨i1, i2⟩ := h6 i h2
      by_cases c : i = m
      · rw [c]
        exact hI.join (by omega) (by omega)
      · exact hI.keep (by omega) (by omega) (by omega) (by omega) (hl i (by omega) h2)) (fun j h1 h2 => by
      by_cases c : j = m
      · rw [c]
        have hsd := hI.side (s := gs N) (e := ge N) (ord := ord) (sd := fun _ => if gs N (ord m) = ge N (ord m) ∨ hg (gs N (ord m)) = hg (ge N (ord m)) then 0 else hg (ge N (ord m))) (R := gR N) (j := m) (fun i _ h2 => by
          have := h6 i h2
          omega) (by omega) (fun i h1 h2 => hl i (by omega) h2) rfl
        exact ⟨g3, g4, _, hsd.1, g5, hsd⟩
      · have hne : ord j ≠ ord m := fun z => c (hinj j m h2 (by omega) z)
        obtain ⟨k1, k2, k3⟩ := g2 (ord j) hne
        rw [k1, k2, k3]
        exact hk j (by omega) h2)
    refine z_go 40 [93] ⟨fun q => ?_, fun q => ⟨by rw [ev]; (first | exact vin (by simp only [al_2, al_3, al_4, al_5, al_7, al_11, al_12, al_13, al_15, al_16, al_17, al_19, al_20, al_21, al_22, al_23, al_24, al_25, al_26, al_28, al_30, al_31, al_32, al_33, al_34, al_36, al_41, al_42, al_43, al_44, al_49, al_50, al_51, al_52, al_54, al_55, al_56, al_57, al_58, al_59, al_60, al_61, al_62, al_63, al_64, al_65, al_66, al_67, al_68, al_69, al_70, al_71, al_72, al_73, al_74, al_75, al_76, al_77, al_78, al_79, al_80]; omega) (by simp only [al_2, al_3, al_4, al_5, al_7, al_11, al_12, al_13, al_15, al_16, al_17, al_19, al_20, al_21, al_22, al_23, al_24, al_25, al_26, al_28, al_30, al_31, al_32, al_33, al_34, al_36, al_41, al_42, al_43, al_44, al_49, al_50, al_51, al_52, al_54, al_55, al_56, al_57, al_58, al_59, al_60, al_61, al_62, al_63, al_64, al_65, al_66, al_67, al_68, al_69, al_70, al_71, al_72, al_73, al_74, al_75, al_76, al_77, al_78, al_79, al_80]; decide) | (simp (disch := omega) only [nL, nI_add, pk_mul, nc, Nat.zero_add, al_2, al_3, al_4, al_5, al_7, al_11, al_12, al_13, al_15, al_16, al_17, al_19, al_20, al_21, al_22, al_23, al_24, al_25, al_26, al_28, al_30, al_31, al_32, al_33, al_34, al_36, al_41, al_42, al_43, al_44, al_49, al_50, al_51, al_52, al_54, al_55, al_56, al_57, al_58, al_59, al_60, al_61, al_62, al_63, al_64, al_65, al_66, al_67, al_68, al_69, al_70, al_71, al_72, al_73, al_74, al_75, al_76, al_77, al_78, al_79, al_80]; exact vin (by omega) (by decide))), ?_⟩⟩
    · rw [ev] at q
      have q : nI m < nI 0 := q
      rw [n_lt (by omega) (by omega)] at q
      omega
    · rw [ev, nc (by omega), e20]
      refine ⟨_, hc, ?_⟩
      exact nx
