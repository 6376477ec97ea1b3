/-! the component's NOWHERES: arrangeRoads -/
def prN6 (N : zN) (i : Nat) : Nat := 6 * min (gs N i) (ge N i) + max (gs N i) (ge N i)
theorem c_pairOf (d : Nat) {σ : z_M} {N : zN} (h : netC σ N) (hv : NV N) {i : Nat} (hi : i < gR N) : z_call (d + 2) k_Nowheres_pairOf [.ref 1, .int (nI i)] σ (some (.int (nI (prN6 N i)))) σ := by
  obtain ⟨P, R, eP, hP, egP, eR, hR, eg, hse⟩ := hv.nat
  obtain ⟨es, ee, hs, he⟩ := hse i (by omega)
  have f2 : σ.1 2 i = nI (gs N i) := by rw [(h.2.2.2 i (by omega)).1, es]
  have f3 : σ.1 3 i = nI (ge N i) := by rw [(h.2.2.2 i (by omega)).2.1, ee]
  have c1 := c_min d σ (nI (gs N i)) (nI (ge N i))
  have c2 := c_max d σ (nI (gs N i)) (nI (ge N i))
  rw [imin_n (by omega) (by omega)] at c1
  rw [imax_n (by omega) (by omega)] at c2
  refine ⟨rfl, z_go 60 [] ⟨by (first | exact vin (by simp only [al_2, al_3, al_4, al_5, al_7, al_11, al_12, al_13, al_15, al_16, al_17, al_19, al_20, al_21, al_22, al_23, al_24, al_25, al_26, al_28, al_30, al_31, al_32, al_33, al_34, al_36, al_41, al_42, al_43, al_44, al_49, al_50, al_51, al_52, al_54, al_55, al_56, al_57, al_58, al_59, al_60, al_61, al_62, al_63, al_64, al_65, al_66, al_67, al_68, al_69, al_70, al_71, al_72, al_73, al_74, al_75, al_76, al_77, al_78, al_79, al_80]; omega) (by simp only [al_2, al_3, al_4, al_5, al_7, al_11, al_12, al_13, al_15, al_16, al_17, al_19, al_20, al_21, al_22, al_23, al_24, al_25, al_26, al_28, al_30, al_31, al_32, al_33, al_34, al_36, al_41, al_42, al_43, al_44, al_49, al_50, al_51, al_52, al_54, al_55, al_56, al_57, al_58, al_59, al_60, al_61, al_62, al_63, al_64, al_65, al_66, al_67, al_68, al_69, al_70, al_71, al_72, al_73, al_74, al_75, al_76, al_77, al_78, al_79, al_80]; decide) | (simp (disch := omega) only [nL, nI_add, pk_mul, nc, Nat.zero_add, al_2, al_3, al_4, al_5, al_7, al_11, al_12, al_13, al_15, al_16, al_17, al_19, al_20, al_21, al_22, al_23, al_24, al_25, al_26, al_28, al_30, al_31, al_32, al_33, al_34, al_36, al_41, al_42, al_43, al_44, al_49, al_50, al_51, al_52, al_54, al_55, al_56, al_57, al_58, al_59, al_60, al_61, al_62, al_63, al_64, al_65, al_66, al_67, al_68, al_69, al_70, al_71, al_72, al_73, al_74, al_75, al_76, al_77, al_78, al_79, al_80]; exact vin (by omega) (by decide))), by (first | exact vin (by simp only [al_2, al_3, al_4, al_5, al_7, al_11, al_12, al_13, al_15, al_16, al_17, al_19, al_20, al_21, al_22, al_23, al_24, al_25, al_26, al_28, al_30, al_31, al_32, al_33, al_34, al_36, al_41, al_42, al_43, al_44, al_49, al_50, al_51, al_52, al_54, al_55, al_56, al_57, al_58, al_59, al_60, al_61, al_62, al_63, al_64, al_65, al_66, al_67, al_68, al_69, al_70, al_71, al_72, al_73, al_74, al_75, al_76, al_77, al_78, al_79, al_80]; omega) (by simp only [al_2, al_3, al_4, al_5, al_7, al_11, al_12, al_13, al_15, al_16, al_17, al_19, al_20, al_21, al_22, al_23, al_24, al_25, al_26, al_28, al_30, al_31, al_32, al_33, al_34, al_36, al_41, al_42, al_43, al_44, al_49, al_50, al_51, al_52, al_54, al_55, al_56, al_57, al_58, al_59, al_60, al_61, al_62, al_63, al_64, al_65, al_66, al_67, al_68, al_69, al_70, al_71, al_72, al_73, al_74, al_75, al_76, al_77, al_78, al_79, al_80]; decide) | (simp (disch := omega) only [nL, nI_add, pk_mul, nc, Nat.zero_add, al_2, al_3, al_4, al_5, al_7, al_11, al_12, al_13, al_15, al_16, al_17, al_19, al_20, al_21, al_22, al_23, al_24, al_25, al_26, al_28, al_30, al_31, al_32, al_33, al_34, al_36, al_41, al_42, al_43, al_44, al_49, al_50, al_51, al_52, al_54, al_55, al_56, al_57, al_58, al_59, al_60, al_61, al_62, al_63, al_64, al_65, al_66, al_67, al_68, al_69, al_70, al_71, al_72, al_73, al_74, al_75, al_76, al_77, al_78, al_79, al_80]; exact vin (by omega) (by decide))), _, _, (by rw [nc (by omega), f2, f3]; exact c1), by (first | exact vin (by simp only [al_2, al_3, al_4, al_5, al_7, al_11, al_12, al_13, al_15, al_16, al_17, al_19, al_20, al_21, al_22, al_23, al_24, al_25, al_26, al_28, al_30, al_31, al_32, al_33, al_34, al_36, al_41, al_42, al_43, al_44, al_49, al_50, al_51, al_52, al_54, al_55, al_56, al_57, al_58, al_59, al_60, al_61, al_62, al_63, al_64, al_65, al_66, al_67, al_68, al_69, al_70, al_71, al_72, al_73, al_74, al_75, al_76, al_77, al_78, al_79, al_80]; omega) (by simp only [al_2, al_3, al_4, al_5, al_7, al_11, al_12, al_13, al_15, al_16, al_17, al_19, al_20, al_21, al_22, al_23, al_24, al_25, al_26, al_28, al_30, al_31, al_32, al_33, al_34, al_36, al_41, al_42, al_43, al_44, al_49, al_50, al_51, al_52, al_54, al_55, al_56, al_57, al_58, al_59, al_60, al_61, al_62, al_63, al_64, al_65, al_66, al_67, al_68, al_69, al_70, al_71, al_72, al_73, al_74, al_75, al_76, al_77, al_78, al_79, al_80]; decide) | (simp (disch := omega) only [nL, nI_add, pk_mul, nc, Nat.zero_add, al_2, al_3, al_4, al_5, al_7, al_11, al_12, al_13, al_15, al_16, al_17, al_19, al_20, al_21, al_22, al_23, al_24, al_25, al_26, al_28, al_30, al_31, al_32, al_33, al_34, al_36, al_41, al_42, al_43, al_44, al_49, al_50, al_51, al_52, al_54, al_55, al_56, al_57, al_58, al_59, al_60, al_61, al_62, al_63, al_64, al_65, al_66, al_67, al_68, al_69, al_70, al_71, al_72, al_73, al_74, al_75, al_76, al_77, al_78, al_79, al_80]; exact vin (by omega) (by decide))), by (first | exact vin (by simp only [al_2, al_3, al_4, al_5, al_7, al_11, al_12, al_13, al_15, al_16, al_17, al_19, al_20, al_21, al_22, al_23, al_24, al_25, al_26, al_28, al_30, al_31, al_32, al_33, al_34, al_36, al_41, al_42, al_43, al_44, al_49, al_50, al_51, al_52, al_54, al_55, al_56, al_57, al_58, al_59, al_60, al_61, al_62, al_63, al_64, al_65, al_66, al_67, al_68, al_69, al_70, al_71, al_72, al_73, al_74, al_75, al_76, al_77, al_78, al_79, al_80]; omega) (by simp only [al_2, al_3, al_4, al_5, al_7, al_11, al_12, al_13, al_15, al_16, al_17, al_19, al_20, al_21, al_22, al_23, al_24, al_25, al_26, al_28, al_30, al_31, al_32, al_33, al_34, al_36, al_41, al_42, al_43, al_44, al_49, al_50, al_51, al_52, al_54, al_55, al_56, al_57, al_58, al_59, al_60, al_61, al_62, al_63, al_64, al_65, al_66, al_67, al_68, al_69, al_70, al_71, al_72, al_73, al_74, al_75, al_76, al_77, al_78, al_79, al_80]; decide) | (simp (disch := omega) only [nL, nI_add, pk_mul, nc, Nat.zero_add, al_2, al_3, al_4, al_5, al_7, al_11, al_12, al_13, al_15, al_16, al_17, al_19, al_20, al_21, al_22, al_23, al_24, al_25, al_26, al_28, al_30, al_31, al_32, al_33, al_34, al_36, al_41, al_42, al_43, al_44, al_49, al_50, al_51, al_52, al_54, al_55, al_56, al_57, al_58, al_59, al_60, al_61, al_62, al_63, al_64, al_65, al_66, al_67, al_68, al_69, al_70, al_71, al_72, al_73, al_74, al_75, al_76, al_77, al_78, al_79, al_80]; exact vin (by omega) (by decide))), _, _, (by rw [nc (by omega), f2, f3]; exact c2), ?_, rfl⟩⟩
  have : (6 : Int32) * nI (min (gs N i) (ge N i)) + nI (max (gs N i) (ge N i)) = nI (prN6 N i) := by
    show nI 6 * nI _ + nI _ = _
    rw [pk_mul, nI_add]
    rfl
  rw [this]
theorem flen {p : Nat → Bool} {a : Nat} : ∀ {b : Nat}, a ≤ b → ((List.range a).filter p).length ≤ ((List.range b).filter p).length
  | 0, h => by rw [show a = 0 by omega]; exact Nat.le_refl _
  | b + 1, h => by
    by_cases c : a = b + 1
    · rw [c]; exact Nat.le_refl _
    · have ih := flen (p := p) (a := a) (b := b) (by omega)
      rw [List.range_succ, List.filter_append, List.length_append]
      omega
theorem lk_app : ∀ (A : List Nat) (v x : Nat), x < A.length + 1 → lk (A ++ [v]) x = if x = A.length then v else lk A x
  | [], v, x, h => by
    obtain rfl : x = 0 := by simp at h; omega
    rfl
  | a :: A, v, 0, _ => by
    rw [if_neg (by simp)]
    rfl
  | a :: A, v, x + 1, h => by
    have ih := lk_app A v x (by simp at h; omega)
    show lk (A ++ [v]) x = if x + 1 = A.length + 1 then v else lk A x
    rw [ih]
    by_cases c : x = A.length
    · rw [if_pos c, if_pos (by omega)]
    · rw [if_neg c, if_neg (by omega)]
/-- the order that is laid: by numbers for the first, by pairs for a count -/
def oB (b : Nat) (L : List Nat) (x : Nat) : Nat := if b = 1 then x else lk L x
def ordF (pr : Nat → Nat) (R n i : Nat) : List Nat := ordL pr R n ++ (List.range i).filter (fun y => decide (pr y = n))
theorem ordF_0 (pr : Nat → Nat) (R n : Nat) : ordF pr R n 0 = ordL pr R n := by
  unfold ordF
  rw [List.range_zero, List.filter_nil, List.append_nil]
theorem ordF_R (pr : Nat → Nat) (R n : Nat) : ordF pr R n R = ordL pr R (n + 1) := rfl
theorem ordF_y {pr : Nat → Nat} {R n i : Nat} (c : pr i = n) : ordF pr R n (i + 1) = ordF pr R n i ++ [i] := by
  unfold ordF
  rw [List.range_succ, List.filter_append, List.append_assoc]
  simp [c]
theorem ordF_n {pr : Nat → Nat} {R n i : Nat} (c : ¬ pr i = n) : ordF pr R n (i + 1) = ordF pr R n i := by
  unfold ordF
  rw [List.range_succ, List.filter_append]
  simp [c]
theorem ordF_len {pr : Nat → Nat} {R n i : Nat} (h : i ≤ R) : (ordF pr R n i).length ≤ R := by
  have l1 := flen (p := fun y => decide (pr y = n)) h
  have l2 : (ordL pr R (n + 1)).length ≤ R := by
    rw [(ordL_perm pr R (n + 1)).length_eq]
    have := List.length_filter_le (fun i => decide (pr i < n + 1)) (List.range R)
    rw [List.length_range] at this
    exact this
  rw [ordL, List.length_append] at l2
  unfold ordF
  rw [List.length_append]
  omega
theorem c_arrangeRoads (d : Nat) {σ : z_M} {N : zN} (h : netC σ N) (hv : NV N) {b : Nat} (hb : b = 0 ∨ b = 1) (h11 : σ.1 18 11 = nI b) : ∃ σ', z_call (d + 3) k_Nowheres_arrangeRoads [.ref 18, .ref 1] σ none σ' ∧ (fr [20] σ σ' ∧ ∀ x, x < gR N → σ'.1 20 x = nI (oB b (ordL (prN6 N) (gR N) 36) x)) := by
  obtain ⟨P, R, eP, hP, egP, eR, hR, eg, hse⟩ := hv.nat
  rw [eg]
  have hpr : ∀ i, i < R → prN6 N i < 36 := fun i hi => by
    have := (hse i hi).2.2
    unfold prN6
    omega
  have hfull : (ordL (prN6 N) R 36).length = R := by rw [(ordL_all hpr).length_eq, List.length_range]
  have hF : ∀ n, n = 36 → ordL (prN6 N) R n = ordL (prN6 N) R 36 := fun n e => by rw [e]
  generalize ordL (prN6 N) R 36 = F at hfull hF ⊢
  have outer : ∀ (m n : Nat) (σi : z_M) (l4 : Option Value), n + m = 36 → fr [20] σ σi → (∀ x, x < (ordL (prN6 N) R n).length → σi.1 20 x = nI (oB b (ordL (prN6 N) R n) x)) →
      z_wp (z_call (d + 2)) none k_Nowheres_arrangeRoads (fun z s => z = none ∧ (fr [20] σ s ∧ ∀ x, x < R → s.1 20 x = nI (oB b F x))) 4 [some (.ref 18), some (.ref 1), some (.int (nI (ordL (prN6 N) R n).length)), some (.int (nI n)), l4] [] σi := by
    intro m
    induction m with
    | zero =>
      intro n σi l4 hn hf hx
      have en : n = 36 := by omega
      rw [hF n en, hfull] at hx
      exact z_go 40 [4, 13] ⟨fun q => ⟨rfl, hf, hx⟩, fun q => absurd (by rw [en]; decide) q⟩
    | succ m ih =>
      intro n σi l4 hn hf hx
      have inner : ∀ (q i : Nat) (σk : z_M), i + q = R → fr [20] σ σk → (∀ x, x < (ordF (prN6 N) R n i).length → σk.1 20 x = nI (oB b (ordF (prN6 N) R n i) x)) →
          z_wp (z_call (d + 2)) none k_Nowheres_arrangeRoads (fun z s => z = none ∧ (fr [20] σ s ∧ ∀ x, x < R → s.1 20 x = nI (oB b F x))) 13 [some (.ref 18), some (.ref 1), some (.int (nI (ordF (prN6 N) R n i).length)), some (.int (nI n)), some (.int (nI i))] [] σk := by
        intro q
        induction q with
        | zero =>
          intro i σk hi hfk hxk
          obtain rfl : i = R := by omega
          have e1 : σk.1 1 1 = nI i := by rw [hfk.at (by decide), h.2.1, eR]
          refine z_go 40 [4, 13] ⟨fun z => ?_, fun z => ?_⟩
          · show z_wp _ _ _ _ 4 _ _ _
            rw [show nI n + 1 = nI (n + 1) from nI_add n 1]
            exact ih (n + 1) σk _ (by omega) hfk hxk
          · rw [e1] at z
            exact absurd (Int32.le_refl _) z
        | succ q ihq =>
          intro i σk hi hfk hxk
          have e1 : σk.1 1 1 = nI R := by rw [hfk.at (by decide), h.2.1, eR]
          have hNk : netC σk N := h.fr (hfk.1 1 (by decide)) (hfk.1 2 (by decide)) (hfk.1 3 (by decide)) (hfk.1 4 (by decide)) (hfk.1 5 (by decide))
          have hpi := hpr i (by omega)
          have e11 : σk.1 18 11 = nI b := by rw [hfk.at (by decide)]; exact h11
          have nx := ihq (i + 1)
          have hb1 : (ordF (prN6 N) R n i).length ≤ R := ordF_len (by omega)
          by_cases c : prN6 N i = n
          · have hb2 : (ordF (prN6 N) R n (i + 1)).length ≤ R := ordF_len (by omega)
            rw [ordF_y c] at nx hb2
            rw [List.length_append, List.length_singleton] at hb2
            generalize ordF (prN6 N) R n i = A at nx hb1 hb2 hxk ⊢
            have fin : ∀ w, w = oB b (A ++ [i]) A.length → z_wp (z_call (d + 2)) none k_Nowheres_arrangeRoads (fun z s => z = none ∧ (fr [20] σ s ∧ ∀ x, x < R → s.1 20 x = nI (oB b F x))) 13 [some (.ref 18), some (.ref 1), some (.int (nI (A.length + 1))), some (.int (nI n)), some (.int (nI (i + 1)))] [] (z_wr σk 20 A.length (nI w)) := by
              intro w hw
              have := nx (z_wr σk 20 A.length (nI w)) (by omega) (fr.wr hfk (by decide)) (fun x hx2 => by
                rw [List.length_append, List.length_singleton] at hx2
                by_cases cx : x = A.length
                · rw [cx, wr_s, hw]
                · rw [wr_k cx, hxk x (by omega)]
                  unfold oB
                  rw [lk_app A i x (by omega), if_neg cx])
              rw [List.length_append, List.length_singleton] at this
              exact this
            refine z_go 60 [4, 13] ⟨fun z => ?_, fun z => ⟨_, _, c_pairOf d hNk hv (i := i) (by omega), fun z2 => ?_, fun z2 => ⟨fun z3 => ⟨by (first | exact vin (by simp only [al_2, al_3, al_4, al_5, al_7, al_11, al_12, al_13, al_15, al_16, al_17, al_19, al_20, al_21, al_22, al_23, al_24, al_25, al_26, al_28, al_30, al_31, al_32, al_33, al_34, al_36, al_41, al_42, al_43, al_44, al_49, al_50, al_51, al_52, al_54, al_55, al_56, al_57, al_58, al_59, al_60, al_61, al_62, al_63, al_64, al_65, al_66, al_67, al_68, al_69, al_70, al_71, al_72, al_73, al_74, al_75, al_76, al_77, al_78, al_79, al_80]; omega) (by simp only [al_2, al_3, al_4, al_5, al_7, al_11, al_12, al_13, al_15, al_16, al_17, al_19, al_20, al_21, al_22, al_23, al_24, al_25, al_26, al_28, al_30, al_31, al_32, al_33, al_34, al_36, al_41, al_42, al_43, al_44, al_49, al_50, al_51, al_52, al_54, al_55, al_56, al_57, al_58, al_59, al_60, al_61, al_62, al_63, al_64, al_65, al_66, al_67, al_68, al_69, al_70, al_71, al_72, al_73, al_74, al_75, al_76, al_77, al_78, al_79, al_80]; decide) | (simp (disch := omega) only [nL, nI_add, pk_mul, nc, Nat.zero_add, al_2, al_3, al_4, al_5, al_7, al_11, al_12, al_13, al_15, al_16, al_17, al_19, al_20, al_21, al_22, al_23, al_24, al_25, al_26, al_28, al_30, al_31, al_32, al_33, al_34, al_36, al_41, al_42, al_43, al_44, al_49, al_50, al_51, al_52, al_54, al_55, al_56, al_57, al_58, al_59, al_60, al_61, al_62, al_63, al_64, al_65, al_66, al_67, al_68, al_69, al_70, al_71, al_72, al_73, al_74, al_75, al_76, al_77, al_78, al_79, al_80]; exact vin (by omega) (by decide))), ?_⟩, fun z3 => ⟨by (first | exact vin (by simp only [al_2, al_3, al_4, al_5, al_7, al_11, al_12, al_13, al_15, al_16, al_17, al_19, al_20, al_21, al_22, al_23, al_24, al_25, al_26, al_28, al_30, al_31, al_32, al_33, al_34, al_36, al_41, al_42, al_43, al_44, al_49, al_50, al_51, al_52, al_54, al_55, al_56, al_57, al_58, al_59, al_60, al_61, al_62, al_63, al_64, al_65, al_66, al_67, al_68, al_69, al_70, al_71, al_72, al_73, al_74, al_75, al_76, al_77, al_78, al_79, al_80]; omega) (by simp only [al_2, al_3, al_4, al_5, al_7, al_11, al_12, al_13, al_15, al_16, al_17, al_19, al_20, al_21, al_22, al_23, al_24, al_25, al_26, al_28, al_30, al_31, al_32, al_33, al_34, al_36, al_41, al_42, al_43, al_44, al_49, al_50, al_51, al_52, al_54, al_55, al_56, al_57, al_58, al_59, al_60, al_61, al_62, al_63, al_64, al_65, al_66, al_67, al_68, al_69, al_70, al_71, al_72, al_73, al_74, al_75, al_76, al_77, al_78, al_79, al_80]; decide) | (simp (disch := omega) only [nL, nI_add, pk_mul, nc, Nat.zero_add, al_2, al_3, al_4, al_5, al_7, al_11, al_12, al_13, al_15, al_16, al_17, al_19, al_20, al_21, al_22, al_23, al_24, al_25, al_26, al_28, al_30, al_31, al_32, al_33, al_34, al_36, al_41, al_42, al_43, al_44, al_49, al_50, al_51, al_52, al_54, al_55, al_56, al_57, al_58, al_59, al_60, al_61, al_62, al_63, al_64, al_65, al_66, al_67, al_68, al_69, al_70, al_71, al_72, al_73, al_74, al_75, al_76, al_77, al_78, al_79, al_80]; exact vin (by omega) (by decide))), ?_⟩⟩⟩⟩
            · rw [e1] at z
              simp (disch := omega) only [nL, nI_add, pk_mul, n_le, n_lt, n_eq] at z
              omega
            · rw [n_eq (by omega) (by omega)] at z2
              exact absurd c z2
            · show z_wp _ _ _ _ 13 _ _ _
              rw [e11] at z3
              have z3 : nI b = nI 0 := z3
              rw [n_eq (by omega) (by omega)] at z3
              rw [nc (by omega), show nI i + 1 = nI (i + 1) from nI_add i 1, show nI A.length + 1 = nI (A.length + 1) from nI_add _ 1]
              exact fin i (by unfold oB; rw [if_neg (by omega), lk_app A i _ (by omega), if_pos rfl])
            · show z_wp _ _ _ _ 13 _ _ _
              rw [e11] at z3
              have z3 : ¬ nI b = nI 0 := z3
              rw [n_eq (by omega) (by omega)] at z3
              rw [nc (by omega), show nI i + 1 = nI (i + 1) from nI_add i 1, show nI A.length + 1 = nI (A.length + 1) from nI_add _ 1]
              exact fin A.length (by unfold oB; rw [if_pos (by omega)])
          · rw [ordF_n c] at nx
            generalize ordF (prN6 N) R n i = A at nx hb1 hxk ⊢
            refine z_go 60 [4, 13] ⟨fun z => ?_, fun z => ⟨_, _, c_pairOf d hNk hv (i := i) (by omega), fun z2 => ?_, fun z2 => ?_⟩⟩
            · rw [e1] at z
              simp (disch := omega) only [nL, nI_add, pk_mul, n_le, n_lt, n_eq] at z
              omega
            · show z_wp _ _ _ _ 13 _ _ _
              rw [show nI i + 1 = nI (i + 1) from nI_add i 1]
              exact nx σk (by omega) hfk hxk
            · rw [n_eq (by omega) (by omega)] at z2
              exact absurd z2 c
      have st := inner R 0 σi (by omega) hf
      rw [ordF_0] at st
      have st := st hx
      refine z_go 40 [4, 13] ⟨fun q => ?_, fun q => ?_⟩
      · simp (disch := omega) only [nL, nI_add, pk_mul, n_le, n_lt, n_eq] at q
        omega
      · exact st
  exact z_metV ⟨rfl, z_go 40 [4, 13] (outer 36 0 σ _ (by omega) fr.rf (fun x hx => absurd hx (Nat.not_lt_zero x)))⟩
