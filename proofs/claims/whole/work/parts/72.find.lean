/-! find, sized, least: what they answer; the model -/
theorem FS_lt {s e : Nat → Nat} {T : Nat} {ord τ : Nat → Nat} : ∀ {m j : Nat} {g : Nat → Int}, FS s e T ord τ m j g → ∀ i, j ≤ i → i < j + m → τ i < T
  | 0, j, _, _, i, h1, h2 => by omega
  | m + 1, j, g, hF, i, h1, h2 => by
    by_cases c : i = j
    · rw [c]; exact hF.1
    · exact FS_lt hF.2.2.2 i (by omega) (by omega)
def FSN (N : zN) (k : Nat) (τ : Nat → Nat) : Prop := FS (gs N) (ge N) (2 * (k - 1)) (fun i => i) τ (gR N) 0 (fun _ => 0)
noncomputable def fst1 (N : zN) (k : Nat) : Nat → Nat := @dite _ (∃ τ, FSN N k τ) (Classical.propDecidable _) (fun h => Classical.choose h) (fun _ _ => 0)
theorem fst1_eq {N : zN} {k : Nat} {τ : Nat → Nat} (h : FSN N k τ) : ∀ i, i < gR N → fst1 N k i = τ i := by
  have hx : ∃ τ, FSN N k τ := ⟨τ, h⟩
  intro i hi
  unfold fst1
  rw [dif_pos hx]
  exact FS_fun (Classical.choose_spec hx) h i (by omega) (by omega)
noncomputable def fndN (N : zN) (k : Nat) : zN := ((nP N, nR N, 0), nS N, nE N, nD N, fun i => if i < gR N then oI (vl (fst1 N k i)) else nV N i)
noncomputable def sFind (k : Int32) (B : zB) : Int32 × zB := if k < 2 then oTell (-1000001) B else if k ≤ 6 then (if offN B.1 = 0 ∧ 0 < nwN B.1 k.toNatClampNeg then oAct k (fndN B.1 k.toNatClampNeg) B else oTell (-1000006) B) else oTell (-1000001) B
theorem FS_ex {s e : Nat → Nat} {T : Nat} {ord : Nat → Nat} : ∀ {m j : Nat} {g : Nat → Int}, 0 < NC s e T ord m j g → ∃ τ, FS s e T ord τ m j g
  | 0, _, _, _ => ⟨fun _ => 0, trivial⟩
  | m + 1, j, g, h => by
    obtain ⟨t, ht, hp⟩ := nsum_pos (show 0 < nsum (fun t => NC s e T ord m (j + 1) (ap s e (ord j) (vl t) g)) T from h)
    obtain ⟨u, u1, u2, u3⟩ := least_of (p := fun t => 0 < NC s e T ord m (j + 1) (ap s e (ord j) (vl t) g)) t hp
    obtain ⟨τ, hτ⟩ := FS_ex u2
    obtain ⟨τ', hτ'⟩ : ∃ τ' : Nat → Nat, τ' = fun i => if i = j then u else τ i := ⟨_, rfl⟩
    have tD : τ' j = u := (congrFun hτ' j).trans (if_pos rfl)
    have tn : ∀ i, i ≠ j → τ' i = τ i := fun i hi => (congrFun hτ' i).trans (if_neg hi)
    refine ⟨τ', by rw [tD]; omega, fun i hi => ?_, by rw [tD]; exact u2, ?_⟩
    · rw [tD] at hi
      have := u3 i hi
      omega
    · rw [tD]
      exact FS_congr (fun i h1 h2 => (tn i (by omega)).symm) hτ
theorem v_find {B : zB} (h : VB B) (k : Int32) : VB (sFind k B).2 := by
  unfold sFind
  split
  · exact h.tell _
  · split
    · split
      · rename_i q1 q2 q3
        refine h.act _ ?_
        obtain ⟨P, R, G, eP, hP, eR, hR, eG, hG, hi⟩ := id h.1
        have egR : gR B.1 = R := by unfold gR; rw [eR, nc (by omega)]
        obtain ⟨n, hn, rfl⟩ := nI_of (x := k) (fun z => q1 (by rw [Int32.lt_iff_toInt_lt] at z ⊢; have e2 : (2 : Int32).toInt = 2 := rfl; have e0 : (0 : Int32).toInt = 0 := rfl; omega))
        have q2 : nI n ≤ nI 6 := q2
        rw [n_le (by omega) (by omega)] at q2
        rw [nc (by omega)] at q3 ⊢
        obtain ⟨τ, hτ⟩ := FS_ex q3.2
        refine ⟨P, R, 0, eP, hP, eR, hR, rfl, Or.inl rfl, fun i hi2 => ⟨(hi i hi2).1, (hi i hi2).2.1, ?_⟩⟩
        have ht := FS_lt hτ i (by omega) (by omega)
        have hv := vl_rng (t := τ i) (k := n) ht
        have e1 : nV (fndN B.1 n) i = oI (vl (τ i)) := by
          show (if i < gR B.1 then oI (vl (fst1 B.1 n i)) else nV B.1 i) = _
          rw [if_pos (by omega), fst1_eq (τ := τ) hτ i (by omega)]
        rw [e1, oI_toInt (by omega) (by omega)]
        omega
      · exact h.tell _
    · exact h.tell _
noncomputable def sSized (k : Int32) (B : zB) : Int32 × zB := if k < 2 then oTell (-1000001) B else if k ≤ 4 then (if eG B.1 ≤ 6 then (if offN B.1 = 0 then nI (nwN B.1 k.toNatClampNeg) else 0, B) else oTell (-1000007) B) else oTell (-1000001) B
theorem v_sized {B : zB} (h : VB B) (k : Int32) : VB (sSized k B).2 := by
  unfold sSized
  repeat (first | exact h.tell _ | exact h | split)
noncomputable def sLeast (B : zB) : Int32 × zB := if offN B.1 = 0 then (if gR B.1 = 0 then 1 else if 0 < nwN B.1 2 then 2 else if 0 < nwN B.1 3 then 3 else 4, B) else oTell (-1000006) B
theorem v_least {B : zB} (h : VB B) : VB (sLeast B).2 := by
  unfold sLeast
  repeat (first | exact h.tell _ | exact h | split)
/-- a net without a bridge has one of size 4 -/
theorem nw_4 {N : zN} (hv : NV N) (h : offN N = 0) : 0 < nwN N 4 := by
  obtain ⟨f, f1, f2⟩ := nw4 hv h
  obtain ⟨τ, hτ⟩ : ∃ τ : Nat → Nat, ∀ i, i < gR N → τ i < 2 * (4 - 1) ∧ vl (τ i) = f i := by
    refine ⟨fun i => @dite _ (∃ t, t < 2 * (4 - 1) ∧ vl t = f i) (Classical.propDecidable _) (fun h => Classical.choose h) (fun _ => 0), fun i hi => ?_⟩
    have hx : ∃ t, t < 2 * (4 - 1) ∧ vl t = f i := vl_ex (k := 4) (f1 i hi).1 (by have := (f1 i hi).2.1; omega) (by have := (f1 i hi).2.2; omega)
    show (@dite _ (∃ t, t < 2 * (4 - 1) ∧ vl t = f i) (Classical.propDecidable _) (fun h => Classical.choose h) (fun _ => 0)) < _ ∧ vl (@dite _ (∃ t, t < 2 * (4 - 1) ∧ vl t = f i) (Classical.propDecidable _) (fun h => Classical.choose h) (fun _ => 0)) = _
    rw [dif_pos hx]
    exact Classical.choose_spec hx
  refine NC_iff.mpr ⟨τ, fun i _ h2 => (hτ i (by omega)).1, fun p _ => ?_⟩
  have := f2 p
  have e1 : fut (gs N) (ge N) (fun i => i) τ 0 p (gR N) = fsum (gR N) (gs N) (ge N) f p := by
    unfold fut fsum
    refine bsum_eq (fun i hi => ?_)
    rw [Nat.zero_add, (hτ i hi).2]
    rfl
  rw [e1, this]
  rfl
theorem lg_0 : lg_cmp (0 : Int64) 0 = 0 := by decide
theorem lg_1 : ¬ lg_cmp (1 : Int64) 0 = 0 := by decide
theorem y_find (d : Nat) {σ : z_M} {B : zB} (h : RepD σ B) (hv : VB B) (k : Int32) : opD (d + 5) k_Md_find [.ref 53, .int k] σ (sFind k B) := by
  obtain ⟨P, R, eP, hP, egP, eR, hR, eg, hse⟩ := hv.1.nat
  obtain ⟨σt, ht, hRt, hkt⟩ := c_finding (d + 3) h (-1000001)
  obtain ⟨σ1, hc1, hf1⟩ := c_bridgeSet (d + 1) h.1 hv.1
  have hR1 := h.scr hf1 (by decide)
  have hk1 := hf1.kD (by decide)
  have hol := off_lt hv.1
  have h10 : 2 ^ gR B.1 ≤ 2 ^ 10 := Nat.pow_le_pow_right (by omega) (by omega)
  obtain ⟨σu, hu, hRu, hku⟩ := c_finding (d + 3) hR1 (-1000006)
  unfold sFind
  refine z_metD ⟨rfl, z_go 60 [54] ⟨fun q => ⟨_, σt, ht, ?_⟩, fun q => ⟨fun q2 => ⟨_, σ1, hc1, fun q3 => ⟨_, σu, hu, ?_⟩, fun q3 => ?_⟩, fun q2 => ⟨_, σt, ht, ?_⟩⟩⟩⟩
  · rw [if_pos q]
    exact ⟨rfl, hRt, hkt⟩
  · have q3 : ¬ nI (offN B.1) = nI 0 := q3
    rw [n_eq (by omega) (by omega)] at q3
    rw [if_neg q, if_pos q2, if_neg (fun z => q3 z.1)]
    exact ⟨rfl, hRu, hk1.tr hku⟩
  · have q3 : nI (offN B.1) = nI 0 := q3
    rw [n_eq (by omega) (by omega)] at q3
    obtain ⟨n, hn, rfl⟩ := nI_of (x := k) (fun z => q (by rw [Int32.lt_iff_toInt_lt] at z ⊢; have e2 : (2 : Int32).toInt = 2 := rfl; have e0 : (0 : Int32).toInt = 0 := rfl; omega))
    have q0 : ¬ nI n < nI 2 := q
    have q20 : nI n ≤ nI 6 := q2
    rw [n_lt (by omega) (by omega)] at q0
    rw [n_le (by omega) (by omega)] at q20
    rw [if_neg q, if_pos q2, nc (by omega)]
    obtain ⟨y, σ2, hc2, hf2, hy⟩ := c_nowheres_B (d + 1) hR1.1 hv.1 (k := n) ⟨by omega, q20⟩
    have hR2 := hR1.scr hf2 (by decide)
    have hk2 := hk1.tr (hf2.kD (by decide))
    rcases hy with ⟨w0, rfl⟩ | ⟨w0, rfl, τ, hF, hT⟩
    · obtain ⟨σv, hv2, hRv, hkv⟩ := c_finding (d + 3) hR2 (-1000006)
      rw [if_neg (fun z => by omega)]
      exact ⟨_, σ2, hc2, fun q4 => absurd lg_0 q4, fun q4 => ⟨_, σv, hv2, rfl, hRv, hk2.tr hkv⟩⟩
    · rw [if_pos ⟨q3, w0⟩]
      obtain ⟨σ3, hc3, hN3, hs3, hk53, hk3, fin⟩ := c_keepB (d + 2) hR2
      have loop : ∀ (m i : Nat) (σi : z_M), i + m = R → fr [53, 57] σ3 σi → (∀ x, x ≠ 2 → σi.1 53 x = σ3.1 53 x) → σi.1 53 2 = 0 → (∀ x, x < 10 → σi.1 57 x = if x < i then oI (vl (fst1 B.1 n x)) else nV B.1 x) →
          z_wp (z_call (d + 4)) none k_Md_find (pD σ (oAct (nI n) (fndN B.1 n) B)) 54 [some (.ref 53), some (.int (nI n)), some (.int (nI i))] [] σi := by
        intro m
        induction m with
        | zero =>
          intro i σi hi hf k1 k2 k3
          obtain rfl : i = R := by omega
          have e1 : σi.1 53 1 = nI i := by rw [k1 1 (by decide), hN3.2.1, eR]
          refine z_go 60 [54] ⟨fun z => ?_, fun z => ?_⟩
          · obtain ⟨g1, g2⟩ := fin σi (fndN B.1 n) (nI n) (hf.wk _ (by decide)) (fun x hx => k1 x (by omega)) ⟨by rw [k1 0 (by decide)]; exact hN3.1, by rw [k1 1 (by decide)]; exact hN3.2.1, k2, fun x hx => by
              obtain ⟨b1, b2, b3, b4⟩ := hN3.2.2.2 x hx
              rw [hf.at (by decide), hf.at (by decide), hf.at (by decide), k3 x hx]
              refine ⟨b1, b2, b3, ?_⟩
              show _ = (if x < gR B.1 then oI (vl (fst1 B.1 n x)) else nV B.1 x)
              rw [eg]⟩
            exact ⟨rfl, g1, hk2.tr g2⟩
          · rw [e1] at z
            exact absurd (Int32.le_refl _) z
        | succ m ih =>
          intro i σi hi hf k1 k2 k3
          have e1 : σi.1 53 1 = nI R := by rw [k1 1 (by decide), hN3.2.1, eR]
          have t7 : σi.1 67 i = nI (fst1 B.1 n i) := by
            rw [hf.at (by decide), hk3 67 (by decide) (by decide), hT i (by omega), fst1_eq (τ := τ) hF i (by omega)]
          have tl : fst1 B.1 n i < 2 * (n - 1) := by
            rw [fst1_eq (τ := τ) hF i (by omega)]
            exact FS_lt hF i (by omega) (by omega)
          refine z_go 60 [54] ⟨fun z => ?_, fun z => ⟨by (first | exact vin (by simp only [al_2, al_3, al_4, al_5, al_7, al_11, al_12, al_13, al_15, al_16, al_17, al_19, al_20, al_21, al_22, al_23, al_24, al_25, al_26, al_28, al_30, al_31, al_32, al_33, al_34, al_36, al_41, al_42, al_43, al_44, al_49, al_50, al_51, al_52, al_54, al_55, al_56, al_57, al_58, al_59, al_60, al_61, al_62, al_63, al_64, al_65, al_66, al_67, al_68, al_69, al_70, al_71, al_72, al_73, al_74, al_75, al_76, al_77, al_78, al_79, al_80]; omega) (by simp only [al_2, al_3, al_4, al_5, al_7, al_11, al_12, al_13, al_15, al_16, al_17, al_19, al_20, al_21, al_22, al_23, al_24, al_25, al_26, al_28, al_30, al_31, al_32, al_33, al_34, al_36, al_41, al_42, al_43, al_44, al_49, al_50, al_51, al_52, al_54, al_55, al_56, al_57, al_58, al_59, al_60, al_61, al_62, al_63, al_64, al_65, al_66, al_67, al_68, al_69, al_70, al_71, al_72, al_73, al_74, al_75, al_76, al_77, al_78, al_79, al_80]; decide) | (simp (disch := omega) only [nL, nI_add, pk_mul, nc, Nat.zero_add, al_2, al_3, al_4, al_5, al_7, al_11, al_12, al_13, al_15, al_16, al_17, al_19, al_20, al_21, al_22, al_23, al_24, al_25, al_26, al_28, al_30, al_31, al_32, al_33, al_34, al_36, al_41, al_42, al_43, al_44, al_49, al_50, al_51, al_52, al_54, al_55, al_56, al_57, al_58, al_59, al_60, al_61, al_62, al_63, al_64, al_65, al_66, al_67, al_68, al_69, al_70, al_71, al_72, al_73, al_74, al_75, al_76, al_77, al_78, al_79, al_80]; exact vin (by omega) (by decide))), oI (vl (fst1 B.1 n i)), σi, ?_, by (first | exact vin (by simp only [al_2, al_3, al_4, al_5, al_7, al_11, al_12, al_13, al_15, al_16, al_17, al_19, al_20, al_21, al_22, al_23, al_24, al_25, al_26, al_28, al_30, al_31, al_32, al_33, al_34, al_36, al_41, al_42, al_43, al_44, al_49, al_50, al_51, al_52, al_54, al_55, al_56, al_57, al_58, al_59, al_60, al_61, al_62, al_63, al_64, al_65, al_66, al_67, al_68, al_69, al_70, al_71, al_72, al_73, al_74, al_75, al_76, al_77, al_78, al_79, al_80]; omega) (by simp only [al_2, al_3, al_4, al_5, al_7, al_11, al_12, al_13, al_15, al_16, al_17, al_19, al_20, al_21, al_22, al_23, al_24, al_25, al_26, al_28, al_30, al_31, al_32, al_33, al_34, al_36, al_41, al_42, al_43, al_44, al_49, al_50, al_51, al_52, al_54, al_55, al_56, al_57, al_58, al_59, al_60, al_61, al_62, al_63, al_64, al_65, al_66, al_67, al_68, al_69, al_70, al_71, al_72, al_73, al_74, al_75, al_76, al_77, al_78, al_79, al_80]; decide) | (simp (disch := omega) only [nL, nI_add, pk_mul, nc, Nat.zero_add, al_2, al_3, al_4, al_5, al_7, al_11, al_12, al_13, al_15, al_16, al_17, al_19, al_20, al_21, al_22, al_23, al_24, al_25, al_26, al_28, al_30, al_31, al_32, al_33, al_34, al_36, al_41, al_42, al_43, al_44, al_49, al_50, al_51, al_52, al_54, al_55, al_56, al_57, al_58, al_59, al_60, al_61, al_62, al_63, al_64, al_65, al_66, al_67, al_68, al_69, al_70, al_71, al_72, al_73, al_74, al_75, al_76, al_77, al_78, al_79, al_80]; exact vin (by omega) (by decide))), ?_⟩⟩
          · rw [e1] at z
            simp (disch := omega) only [nL, nI_add, pk_mul, n_le, n_lt, n_eq] at z
            omega
          · rw [nc (by omega), t7]
            exact c_value (d + 3) σi (by omega)
          · show z_wp _ _ _ _ 54 _ _ _
            rw [nc (by omega), show nI i + 1 = nI (i + 1) from nI_add i 1]
            refine ih (i + 1) _ (by omega) (fr.wr hf (by decide)) (fun x hx => by rw [wr_c (by decide)]; exact k1 x hx) (by rw [wr_c (by decide)]; exact k2) (fun x hx => ?_)
            by_cases e : x = i
            · rw [e, wr_s, if_pos (by omega)]
            · rw [wr_k e, k3 x hx]
              by_cases e2 : x < i
              · rw [if_pos e2, if_pos (by omega)]
              · rw [if_neg e2, if_neg (by omega)]
      refine ⟨_, σ2, hc2, fun q4 => ⟨σ3, hc3, ?_⟩, fun q4 => absurd q4 lg_1⟩
      show z_wp _ _ _ _ 54 _ _ _
      refine loop R 0 _ (by omega) (fr.wr fr.rf (by decide)) (fun x hx => wr_k hx) wr_s (fun x hx => ?_)
      rw [wr_c (by decide), if_neg (by omega)]
      exact (hN3.2.2.2 x hx).2.2.2
  · rw [if_neg q, if_neg q2]
    exact ⟨rfl, hRt, hkt⟩
theorem y_sized (d : Nat) {σ : z_M} {B : zB} (h : RepD σ B) (hv : VB B) (k : Int32) : opD (d + 5) k_Md_sized [.ref 53, .int k] σ (sSized k B) := by
  obtain ⟨P, R, eP, hP, egP, eR, hR, eg, hse⟩ := hv.1.nat
  have h10 : 2 ^ R ≤ 2 ^ 10 := Nat.pow_le_pow_right (by omega) hR
  have hpos : 0 < 2 ^ R := Nat.pow_pos (by omega)
  have hg := (eG_eq hv.1).1
  obtain ⟨σt, ht, hRt, hkt⟩ := c_finding (d + 3) h (-1000001)
  have e1 : σ.1 53 1 = nI R := by rw [h.1.2.1, eR]
  obtain ⟨σ2, hc2, hf2⟩ := c_genusOf (d + 1) h.1 hv.1 (S := 2 ^ R - 1) (by rw [eg]; omega)
  have ebc : ∀ n, n ≤ R → bc (2 ^ R - 1) n = n := by
    intro n
    induction n with
    | zero => intro _; rfl
    | succ n ih =>
      intro hn
      rw [bc, ih (by omega), if_pos (by rw [all_bit]; exact decide_eq_true (by omega))]
  have ea : mg (gs B.1) (ge B.1) (2 ^ R - 1) (gR B.1) = mga B.1 := by rw [mga, eg]
  have eb : bc (2 ^ R - 1) (gR B.1) = gR B.1 := by rw [eg]; exact ebc R (Nat.le_refl R)
  rw [ea, eb, ← hg] at hc2
  have hR2 := h.scr hf2 (by decide)
  have hk2 := hf2.kD (by decide)
  obtain ⟨σu, hu, hRu, hku⟩ := c_finding (d + 3) hR2 (-1000007)
  obtain ⟨σ3, hc3, hf3⟩ := c_bridgeSet (d + 1) hR2.1 hv.1
  have hR3 := hR2.scr hf3 (by decide)
  have hk3 := hk2.tr (hf3.kD (by decide))
  have hol := off_lt hv.1
  rw [eg] at hol
  unfold sSized
  refine z_metD ⟨rfl, z_go 60 [] ⟨fun q => ⟨_, σt, ht, ?_⟩, fun q => ⟨fun q2 => ⟨_, _, c_all (d + 3) e1 hR, _, σ2, hc2, fun q3 => ⟨_, σ3, hc3, fun q4 => ?_, fun q4 => ?_⟩, fun q3 => ⟨_, σu, hu, ?_⟩⟩, fun q2 => ⟨_, σt, ht, ?_⟩⟩⟩⟩
  · rw [if_pos q]
    exact ⟨rfl, hRt, hkt⟩
  · have q3 : nI (eG B.1) ≤ nI 6 := q3
    rw [n_le (by omega) (by omega)] at q3
    have q4 : nI (offN B.1) = nI 0 := q4
    rw [n_eq (by omega) (by omega)] at q4
    obtain ⟨n, hn, rfl⟩ := nI_of (x := k) (fun z => q (by rw [Int32.lt_iff_toInt_lt] at z ⊢; have e2 : (2 : Int32).toInt = 2 := rfl; have e0 : (0 : Int32).toInt = 0 := rfl; omega))
    have q0 : ¬ nI n < nI 2 := q
    have q20 : nI n ≤ nI 4 := q2
    rw [n_lt (by omega) (by omega)] at q0
    rw [n_le (by omega) (by omega)] at q20
    obtain ⟨y, σ4, hc4, rfl, hf4⟩ := c_nowheres_A (d + 1) hR3.1 hv.1 (k := n) ⟨by omega, by omega⟩
    rw [if_neg q, if_pos q2, if_pos q3, if_pos q4, nc (by omega)]
    refine ⟨_, σ4, hc4, ?_, hR3.scr hf4 (by decide), hk3.tr (hf4.kD (by decide))⟩
    rw [← Int64.ofInt_eq_ofNat, Int64.toInt32_ofInt]
    exact congrArg (fun x => some (Value.int x)) (oI_nat (nwN B.1 n))
  · have q3 : nI (eG B.1) ≤ nI 6 := q3
    rw [n_le (by omega) (by omega)] at q3
    have q4 : ¬ nI (offN B.1) = nI 0 := q4
    rw [n_eq (by omega) (by omega)] at q4
    rw [if_neg q, if_pos q2, if_pos q3, if_neg q4]
    exact ⟨rfl, hR3, hk3⟩
  · have q3 : ¬ nI (eG B.1) ≤ nI 6 := q3
    rw [n_le (by omega) (by omega)] at q3
    rw [if_neg q, if_pos q2, if_neg q3]
    exact ⟨rfl, hRu, hk2.tr hku⟩
  · rw [if_neg q, if_neg q2]
    exact ⟨rfl, hRt, hkt⟩
theorem y_least (d : Nat) {σ : z_M} {B : zB} (h : RepD σ B) (hv : VB B) : opD (d + 5) k_Md_least [.ref 53] σ (sLeast B) := by
  obtain ⟨P, R, eP, hP, egP, eR, hR, eg, hse⟩ := hv.1.nat
  have h10 : 2 ^ R ≤ 2 ^ 10 := Nat.pow_le_pow_right (by omega) hR
  obtain ⟨σ1, hc1, hf1⟩ := c_bridgeSet (d + 1) h.1 hv.1
  have hR1 := h.scr hf1 (by decide)
  have hk1 := hf1.kD (by decide)
  have hol := off_lt hv.1
  rw [eg] at hol
  have e1 : σ1.1 53 1 = nI R := by rw [hR1.1.2.1, eR]
  obtain ⟨σu, hu, hRu, hku⟩ := c_finding (d + 3) hR1 (-1000006)
  have step : ∀ (n : Nat) (σi : z_M) (o : Int32 × zB), 2 ≤ n → n ≤ 6 → RepD σi B → kD σ σi → (0 < nwN B.1 n → o = (nI n, B)) → (nwN B.1 n = 0 → ∀ σ2, RepD σ2 B → kD σ σ2 → z_wp (z_call (d + 4)) none k_Md_least (pD σ o) 27 [some (.ref 53), some (.int (nI (n + 1)))] [] σ2) → z_wp (z_call (d + 4)) none k_Md_least (pD σ o) 27 [some (.ref 53), some (.int (nI n))] [] σi := by
    intro n σi o n1 n2 hRi hki hy hn
    obtain ⟨y, σ2, hc2, hf2, hw⟩ := c_nowheres_B (d + 1) hRi.1 hv.1 (k := n) ⟨n1, n2⟩
    have hR2 := hRi.scr hf2 (by decide)
    have hk2 := hki.tr (hf2.kD (by decide))
    rcases hw with ⟨w0, rfl⟩ | ⟨w0, rfl, -⟩
    · refine z_go 40 [27] ⟨fun q => ?_, fun q => ⟨_, σ2, hc2, fun q2 => absurd lg_0 q2, fun q2 => ?_⟩⟩
      · have q : nI n ≤ nI 1 := q
        rw [n_le (by omega) (by omega)] at q
        omega
      · show z_wp _ _ _ _ 27 _ _ _
        rw [show nI n + 1 = nI (n + 1) from nI_add n 1]
        exact hn w0 σ2 hR2 hk2
    · refine z_go 40 [27] ⟨fun q => ?_, fun q => ⟨_, σ2, hc2, fun q2 => ?_, fun q2 => absurd q2 lg_1⟩⟩
      · have q : nI n ≤ nI 1 := q
        rw [n_le (by omega) (by omega)] at q
        omega
      · rw [hy w0]
        exact ⟨rfl, hR2, hk2⟩
  unfold sLeast
  refine z_metD ⟨rfl, z_go 60 [27] ⟨_, σ1, hc1, fun q => ⟨fun q2 => ?_, fun q2 => ?_⟩, fun q => ⟨_, σu, hu, ?_⟩⟩⟩
  · have q : nI (offN B.1) = nI 0 := q
    rw [n_eq (by omega) (by omega)] at q
    rw [e1] at q2
    have q2 : ¬ nI R = nI 0 := q2
    rw [n_eq (by omega) (by omega)] at q2
    rw [if_pos q, if_neg (show ¬ gR B.1 = 0 by omega)]
    show z_wp _ _ _ _ 27 _ _ _
    by_cases c2 : 0 < nwN B.1 2
    · rw [if_pos c2]
      exact step 2 σ1 _ (by omega) (by omega) hR1 hk1 (fun _ => rfl) (fun z => by omega)
    · rw [if_neg c2]
      refine step 2 σ1 _ (by omega) (by omega) hR1 hk1 (fun z => by omega) (fun _ σ2 hR2 hk2 => ?_)
      by_cases c3 : 0 < nwN B.1 3
      · rw [if_pos c3]
        exact step 3 σ2 _ (by omega) (by omega) hR2 hk2 (fun _ => rfl) (fun z => by omega)
      · rw [if_neg c3]
        refine step 3 σ2 _ (by omega) (by omega) hR2 hk2 (fun z => by omega) (fun _ σ3 hR3 hk3 => ?_)
        have c4 := nw_4 hv.1 q
        exact step 4 σ3 _ (by omega) (by omega) hR3 hk3 (fun _ => rfl) (fun z => by omega)
  · have q : nI (offN B.1) = nI 0 := q
    rw [n_eq (by omega) (by omega)] at q
    rw [e1] at q2
    have q2 : nI R = nI 0 := q2
    rw [n_eq (by omega) (by omega)] at q2
    rw [if_pos q, if_pos (show gR B.1 = 0 by omega)]
    show z_wp _ _ _ _ 27 _ _ _
    exact z_go 40 [27] ⟨fun z => ⟨rfl, hR1, hk1⟩, fun z => absurd (by decide) z⟩
  · have q : ¬ nI (offN B.1) = nI 0 := q
    rw [n_eq (by omega) (by omega)] at q
    rw [if_neg q]
    exact ⟨rfl, hRu, hk1.tr hku⟩
