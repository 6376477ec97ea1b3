/-! find, sized, least: the component -/
theorem x_sized (d : Nat) {σ : z_M} {B : zB} (h : RepC σ B) (hv : VB B) (k : Int32) : opC (d + 36) k_RF_sized [.ref 0, .int k] σ (sSized k B) := by
  obtain ⟨P, R, eP, hP, egP, eR, hR, eg, hse⟩ := hv.1.nat
  have h10 : 2 ^ R ≤ 2 ^ 10 := Nat.pow_le_pow_right (by omega) hR
  obtain ⟨σt, ht, hRt, hkt⟩ := c_tell (d + 34) h (-1000001)
  obtain ⟨σ1, hc, hf, b1, b2, b3, b4, hg, hR2⟩ := c_growE (d + 33) h.1 hv.1
  have hR1 := h.scr hf (by decide)
  have hk1 := hf.kC (by decide)
  have hol := off_lt hv.1
  rw [eg] at hol
  obtain ⟨σu, hu, hRu, hku⟩ := c_tell (d + 34) hR1 (-1000007)
  unfold sSized
  refine z_metC ⟨rfl, z_go 60 [] ⟨fun q => ⟨_, σt, ht, ?_⟩, fun q => ⟨fun q2 => ⟨σ1, hc, fun q3 => ⟨_, _, c_bridgeC (d + 34) σ1, fun q4 => ?_, fun q4 => ?_⟩, fun q3 => ⟨_, σu, hu, ?_⟩⟩, fun q2 => ⟨_, σt, ht, ?_⟩⟩⟩⟩
  · rw [if_pos q]
    exact ⟨rfl, hRt, hkt⟩
  · rw [b3] at q3
    have q3 : nI (eG B.1) ≤ nI 6 := q3
    rw [n_le (by omega) (by omega)] at q3
    rw [b1] at q4
    have q4 : nI (offN B.1) = nI 0 := q4
    rw [n_eq (by omega) (by omega)] at q4
    obtain ⟨n, hn, rfl⟩ := nI_of (x := k) (fun z => q (by rw [Int32.lt_iff_toInt_lt] at z ⊢; have e2 : (2 : Int32).toInt = 2 := rfl; have e0 : (0 : Int32).toInt = 0 := rfl; omega))
    have q0 : ¬ nI n < nI 2 := q
    have q20 : nI n ≤ nI 4 := q2
    rw [n_lt (by omega) (by omega)] at q0
    rw [n_le (by omega) (by omega)] at q20
    obtain ⟨σ4, hc4, hf4⟩ := c_numberC (D := d + 34) hR1.1 hv.1 (k := n) ⟨by omega, by omega⟩ (by omega)
    rw [if_neg q, if_pos q2, if_pos q3, if_pos q4, nc (by omega)]
    exact ⟨_, σ4, hc4, rfl, hR1.scr hf4 (by decide), hk1.tr (hf4.kC (by decide))⟩
  · rw [b3] at q3
    have q3 : nI (eG B.1) ≤ nI 6 := q3
    rw [n_le (by omega) (by omega)] at q3
    rw [b1] at q4
    have q4 : ¬ nI (offN B.1) = nI 0 := q4
    rw [n_eq (by omega) (by omega)] at q4
    rw [if_neg q, if_pos q2, if_pos q3, if_neg q4]
    exact ⟨rfl, hR1, hk1⟩
  · rw [b3] at q3
    have q3 : ¬ nI (eG B.1) ≤ nI 6 := q3
    rw [n_le (by omega) (by omega)] at q3
    rw [if_neg q, if_pos q2, if_neg q3]
    exact ⟨rfl, hRu, hk1.tr hku⟩
  · rw [if_neg q, if_neg q2]
    exact ⟨rfl, hRt, hkt⟩
theorem x_least (d : Nat) {σ : z_M} {B : zB} (h : RepC σ B) (hv : VB B) : opC (d + 36) k_RF_least [.ref 0] σ (sLeast B) := by
  obtain ⟨P, R, eP, hP, egP, eR, hR, eg, hse⟩ := hv.1.nat
  have h10 : 2 ^ R ≤ 2 ^ 10 := Nat.pow_le_pow_right (by omega) hR
  obtain ⟨σ1, hc1, hf1, b1, b2, b3, b4, hg, hR2⟩ := c_growE (d + 33) h.1 hv.1
  have hR1 := h.scr hf1 (by decide)
  have hk1 := hf1.kC (by decide)
  have hol := off_lt hv.1
  rw [eg] at hol
  have e1 : σ.1 1 1 = nI R := by rw [h.1.2.1, eR]
  obtain ⟨σu, hu, hRu, hku⟩ := c_tell (d + 34) hR1 (-1000006)
  have step : ∀ (n : Nat) (σi : z_M) (o : Int32 × zB), 2 ≤ n → n ≤ 5 → RepC σi B → kC σ σi → (0 < nwN B.1 n → o = (nI n, B)) → (nwN B.1 n = 0 → ∀ σ2, RepC σ2 B → kC σ σ2 → z_wp (z_call (d + 35)) none k_RF_least (pC σ o) 42 [some (.ref 0), some (.int (nI (n + 1)))] [] σ2) → z_wp (z_call (d + 35)) none k_RF_least (pC σ o) 42 [some (.ref 0), some (.int (nI n))] [] σi := by
    intro n σi o n1 n2 hRi hki hy hn
    obtain ⟨y, σ2, hc2, hf2, hw⟩ := c_existsC (D := d + 34) hRi.1 hv.1 (k := n) ⟨n1, by omega⟩ (by omega)
    have hR2 := hRi.scr hf2 (by decide)
    have hk2 := hki.tr (hf2.kC (by decide))
    rcases hw with ⟨rfl, w0⟩ | ⟨rfl, w0, -⟩
    · refine z_go 40 [42] ⟨fun q => ?_, fun q => ⟨_, σ2, hc2, fun q2 => ?_, fun q2 => absurd rfl q2⟩⟩
      · have q : nI 6 ≤ nI n := q
        rw [n_le (by omega) (by omega)] at q
        omega
      · show z_wp _ _ _ _ 42 _ _ _
        rw [show nI n + 1 = nI (n + 1) from nI_add n 1]
        exact hn w0 σ2 hR2 hk2
    · refine z_go 40 [42] ⟨fun q => ?_, fun q => ⟨_, σ2, hc2, fun q2 => absurd q2 (by decide), fun q2 => ?_⟩⟩
      · have q : nI 6 ≤ nI n := q
        rw [n_le (by omega) (by omega)] at q
        omega
      · rw [hy w0]
        exact ⟨rfl, hR2, hk2⟩
  unfold sLeast
  refine z_metC ⟨rfl, z_go 60 [42] ⟨fun q2 => ⟨σ1, hc1, _, _, c_bridgeC (d + 34) σ1, fun q => ?_, fun q => ⟨_, σu, hu, ?_⟩⟩, fun q2 => ?_⟩⟩
  · rw [b1] at q
    have q : nI (offN B.1) = nI 0 := q
    rw [n_eq (by omega) (by omega)] at q
    rw [e1] at q2
    have q2 : ¬ nI R = nI 0 := q2
    rw [n_eq (by omega) (by omega)] at q2
    rw [if_pos q, if_neg (show ¬ gR B.1 = 0 by omega)]
    show z_wp _ _ _ _ 42 _ _ _
    by_cases c2 : 0 < nwN B.1 2
    · rw [if_pos c2]
      exact step 2 σ1 _ (by omega) (by omega) hR1 hk1 (fun _ => rfl) (fun z => by omega)
    · rw [if_neg c2]
      refine step 2 σ1 _ (by omega) (by omega) hR1 hk1 (fun z => by omega) (fun _ σ2 hR2 hk2 => ?_)
      by_cases c3 : 0 < nwN B.1 3
      · rw [if_pos c3]
        exact step 3 σ2 _ (by omega) (by omega) hR2 hk2 (fun _ => rfl) (fun z => by omega)
      · rw [if_neg c3]
        refine step 3 σ2 _ (by omega) (by omega) hR2 hk2 (fun z => by omega) (fun _ σ3 hR3 hk3 => ?_)
        have c4 := nw_4 hv.1 q
        exact step 4 σ3 _ (by omega) (by omega) hR3 hk3 (fun _ => rfl) (fun z => by omega)
  · rw [b1] at q
    have q : ¬ nI (offN B.1) = nI 0 := q
    rw [n_eq (by omega) (by omega)] at q
    rw [if_neg q]
    exact ⟨rfl, hRu, hk1.tr hku⟩
  · rw [e1] at q2
    have q2 : nI R = nI 0 := q2
    rw [n_eq (by omega) (by omega)] at q2
    have eR0 : gR B.1 = 0 := by omega
    have eo : offN B.1 = 0 := by
      have := off_lt hv.1
      rw [eR0] at this
      omega
    rw [if_pos eo, if_pos eR0]
    exact ⟨rfl, h, kC.rf⟩
theorem x_find (d : Nat) {σ : z_M} {B : zB} (h : RepC σ B) (hv : VB B) (k : Int32) : opC (d + 36) k_RF_find [.ref 0, .int k] σ (sFind k B) := by
  obtain ⟨P, R, eP, hP, egP, eR, hR, eg, hse⟩ := hv.1.nat
  have h10 : 2 ^ R ≤ 2 ^ 10 := Nat.pow_le_pow_right (by omega) hR
  obtain ⟨σt, ht, hRt, hkt⟩ := c_tell (d + 34) h (-1000001)
  obtain ⟨σ1, hc1, hf1, b1, b2, b3, b4, hg, hR2⟩ := c_growE (d + 33) h.1 hv.1
  have hR1 := h.scr hf1 (by decide)
  have hk1 := hf1.kC (by decide)
  have hol := off_lt hv.1
  rw [eg] at hol
  obtain ⟨σu, hu, hRu, hku⟩ := c_tell (d + 34) hR1 (-1000006)
  unfold sFind
  refine z_metC ⟨rfl, z_go 80 [] ⟨fun q => ⟨_, σt, ht, ?_⟩, fun q => ⟨fun q2 => ⟨σ1, hc1, _, _, c_bridgeC (d + 34) σ1, fun q3 => ⟨_, σu, hu, ?_⟩, fun q3 => ?_⟩, fun q2 => ⟨_, σt, ht, ?_⟩⟩⟩⟩
  · rw [if_pos q]
    exact ⟨rfl, hRt, hkt⟩
  · rw [b1] at q3
    have q3 : ¬ nI (offN B.1) = nI 0 := q3
    rw [n_eq (by omega) (by omega)] at q3
    rw [if_neg q, if_pos q2, if_neg (fun z => q3 z.1)]
    exact ⟨rfl, hRu, hk1.tr hku⟩
  · rw [b1] at q3
    have q3 : nI (offN B.1) = nI 0 := q3
    rw [n_eq (by omega) (by omega)] at q3
    obtain ⟨n, hn, rfl⟩ := nI_of (x := k) (fun z => q (by rw [Int32.lt_iff_toInt_lt] at z ⊢; have e2 : (2 : Int32).toInt = 2 := rfl; have e0 : (0 : Int32).toInt = 0 := rfl; omega))
    have q0 : ¬ nI n < nI 2 := q
    have q20 : nI n ≤ nI 6 := q2
    rw [n_lt (by omega) (by omega)] at q0
    rw [n_le (by omega) (by omega)] at q20
    rw [if_neg q, if_pos q2, nc (by omega)]
    obtain ⟨y, σ2, hc2, hf2, hy⟩ := c_existsC (D := d + 34) hR1.1 hv.1 (k := n) ⟨by omega, q20⟩ (by omega)
    have hR2 := hR1.scr hf2 (by decide)
    have hk2 := hk1.tr (hf2.kC (by decide))
    rcases hy with ⟨rfl, w0⟩ | ⟨rfl, w0, τ, hF, hT⟩
    · obtain ⟨σv, hv2, hRv, hkv⟩ := c_tell (d + 34) hR2 (-1000006)
      have w0 : nwN B.1 n = 0 := w0
      rw [if_neg (fun z => by omega)]
      exact ⟨_, σ2, hc2, fun q4 => absurd rfl q4, fun q4 => ⟨_, σv, hv2, rfl, hRv, hk2.tr hkv⟩⟩
    · have w0 : 0 < nwN B.1 n := w0
      rw [if_pos ⟨q3, w0⟩]
      obtain ⟨σ3, hc3, hN3, hs3, hk3, fin⟩ := c_beginB (d + 32) hR2
      have e1 : (z_wr σ3 1 2 0).1 1 1 = nI R := by rw [wr_k (by decide), hN3.2.1, eR]
      have hfr : fr [1, 2, 3, 4, 5] σ3 (z_cp (z_wr σ3 1 2 0) 19 5 0 0 R) := fr.cp (fr.wr fr.rf (by decide)) (by decide)
      obtain ⟨g1, g2⟩ := fin _ (fndN B.1 n) (nI n) hfr ⟨by rw [cp_ne (by decide), wr_k (by decide)]; exact hN3.1, by rw [cp_ne (by decide), wr_k (by decide)]; exact hN3.2.1, by rw [cp_ne (by decide), wr_s]; rfl, fun x hx => by
        obtain ⟨c1, c2, c3, c4⟩ := hN3.2.2.2 x hx
        rw [cp_ne (by decide), cp_ne (by decide), cp_ne (by decide), wr_c (by decide), wr_c (by decide), wr_c (by decide)]
        refine ⟨c1, c2, c3, ?_⟩
        show _ = (if x < gR B.1 then oI (vl (fst1 B.1 n x)) else nV B.1 x)
        by_cases e : x < gR B.1
        · rw [if_pos e, cp_in (by omega) (by omega), wr_c (by decide), show 0 + (x - 0) = x by omega, hk3 19 (by decide) (by decide) (by decide), hT x e, fst1_eq (τ := τ) hF x e]
        · rw [if_neg e, cp_hi (by omega), wr_c (by decide)]
          exact c4⟩
      refine ⟨_, σ2, hc2, fun q4 => ⟨σ3, hc3, ?_, ?_⟩, fun q4 => absurd q4 (by decide)⟩
      · rw [e1]
        (simp (disch := omega) only [nL, nI_add, pk_mul, nc, Nat.zero_add, al_2, al_3, al_4, al_5, al_7, al_11, al_12, al_13, al_15, al_16, al_17, al_19, al_20, al_21, al_22, al_23, al_24, al_25, al_26, al_28, al_30, al_31, al_32, al_33, al_34, al_36, al_41, al_42, al_43, al_44, al_49, al_50, al_51, al_52, al_54, al_55, al_56, al_57, al_58, al_59, al_60, al_61, al_62, al_63, al_64, al_65, al_66, al_67, al_68, al_69, al_70, al_71, al_72, al_73, al_74, al_75, al_76, al_77, al_78, al_79, al_80]; exact ⟨n_nn (by omega), n_nn (by omega), n_nn (by omega), by omega, by omega⟩)
      · rw [e1, nc (by omega)]
        exact ⟨rfl, g1, hk2.tr g2⟩
  · rw [if_neg q, if_neg q2]
    exact ⟨rfl, hRt, hkt⟩
