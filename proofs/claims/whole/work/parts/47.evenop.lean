/-! even -/
theorem enum_cn {f : Nat → Nat} {m K : Nat} {Q : Nat → Prop} (up : ∀ i j, i < j → j < m → f i < f j) (on : ∀ T, T < K → Q T → ∃ i, i < m ∧ f i = T) : ∀ S, S ≤ K → (∀ i, i < m → Q (f i)) → cn Q S ≤ m ∧ ∀ i, i < m → (i < cn Q S ↔ f i < S)
  | 0, _, _ => ⟨Nat.zero_le m, fun i _ => ⟨fun h => absurd h (Nat.not_lt_zero i), fun h => absurd h (Nat.not_lt_zero _)⟩⟩
  | S + 1, hS, hQ => by
    obtain ⟨ih1, ih2⟩ := enum_cn up on S (by omega) hQ
    by_cases q : Q S
    · rw [cn_p q]
      obtain ⟨i0, h0, e0⟩ := on S (by omega) q
      have hi0 : i0 = cn Q S := by
        have h1 := ih2 i0 h0
        rw [e0] at h1
        have h2 : ¬ i0 < cn Q S := fun z => Nat.lt_irrefl _ (h1.mp z)
        refine Classical.byContradiction fun z => ?_
        have h3 := ih2 (cn Q S) (by omega)
        have h4 := up (cn Q S) i0 (by omega) h0
        rw [e0] at h4
        exact Nat.lt_irrefl _ (h3.mpr h4)
      refine ⟨by omega, fun i hi => ?_⟩
      rw [← hi0]
      constructor
      · intro z
        by_cases c : i = i0
        · rw [c, e0]; omega
        · have := up i i0 (by omega) h0
          omega
      · intro z
        refine Classical.byContradiction fun c => ?_
        have := up i0 i (by omega) hi
        omega
    · rw [cn_n q]
      refine ⟨ih1, fun i hi => (ih2 i hi).trans ⟨fun z => by omega, fun z => ?_⟩⟩
      have : f i ≠ S := fun c => q (c ▸ hQ i hi)
      omega
/-- how many even sets are below a number -/
noncomputable def ec (N : zN) (S : Nat) : Nat := cn (isE N) S
theorem ec_ok {N : zN} (hv : NV N) : (∀ S, S < 2 ^ gR N → isE N S → ec N S < 2 ^ eG N ∧ ev N (ec N S) = S) ∧ ec N (2 ^ gR N) = 2 ^ eG N ∧ ∀ S, S ≤ 2 ^ gR N → ec N S ≤ 2 ^ eG N := by
  obtain ⟨-, h1, h2, h3⟩ := ev_ok hv
  have key := enum_cn (f := ev N) (m := 2 ^ eG N) (K := 2 ^ gR N) (Q := isE N) h2 h3
  have hQ : ∀ i, i < 2 ^ eG N → isE N (ev N i) := fun i _ => (h1 i).2
  refine ⟨fun S hS hE => ?_, ?_, fun S hS => (key S hS hQ).1⟩
  · obtain ⟨i, hi, e⟩ := h3 S hS hE
    obtain ⟨k1, k2⟩ := key S (by omega) hQ
    have : i = ec N S := by
      have h4 : ¬ i < ec N S := fun z => by have := (k2 i hi).mp z; omega
      refine Classical.byContradiction fun z => ?_
      have h5 := h2 (ec N S) i (by omega) hi
      rw [e] at h5
      exact Nat.lt_irrefl _ ((k2 (ec N S) (by omega)).mpr h5)
    rw [← this]
    exact ⟨hi, e⟩
  · obtain ⟨k1, k2⟩ := key (2 ^ gR N) (Nat.le_refl _) hQ
    have hp : 0 < 2 ^ eG N := Nat.pow_pos (by omega)
    have h4 := (k2 (2 ^ eG N - 1) (by omega)).mpr (h1 _).1
    unfold ec
    omega
def offN (N : zN) : Nat := (gw (gR N) (gs N) (ge N) (gR N)).2.2.2.2
theorem c_growE (d : Nat) {σ : z_M} {N : zN} (h : netC σ N) (hv : NV N) : ∃ σ', z_call (d + 2) k_Forest_grow [.ref 10, .ref 1] σ none σ' ∧ fr [10, 11, 12, 13] σ σ' ∧ σ'.1 10 3 = nI (offN N) ∧ σ'.1 10 4 = nI (gP N - mga N) ∧ σ'.1 10 5 = nI (eG N) ∧ (∀ j, j < eG N → σ'.1 13 j = nI (ecl N j)) ∧ eG N ≤ gR N ∧ gR N ≤ 10 := by
  obtain ⟨P, R, eP, hP, egP, eR, hR, eg, hse⟩ := hv.nat
  obtain ⟨σ1, hc, hf, b1, b2, b3, b4, b5, b6, b7⟩ := c_growP d h hv
  have e1 := (eG_eq hv).1
  rw [← e1] at b3 b4
  exact ⟨σ1, hc, hf, b1, b2, b3, b4, by omega, by omega⟩
noncomputable def sEven (i : Int32) (B : zB) : Int32 × zB := if i = -1 then (nI (2 ^ eG B.1), B) else if i < 0 then oTell (-1000006) B else if i < nI (2 ^ eG B.1) then (nI (ev B.1 i.toNatClampNeg), B) else oTell (-1000006) B
theorem v_even {B : zB} (h : VB B) (i : Int32) : VB (sEven i B).2 := by
  unfold sEven
  repeat (first | exact h.tell _ | exact h | split)
theorem x_even (d : Nat) {σ : z_M} {B : zB} (h : RepC σ B) (hv : VB B) (i : Int32) : opC (d + 3) k_RF_even [.ref 0, .int i] σ (sEven i B) := by
  obtain ⟨σ1, hc, hf, b1, b2, b3, b4, hg, hR⟩ := c_growE d h.1 hv.1
  have hR1 := h.scr hf (by decide)
  have hk1 := hf.kC (by decide)
  obtain ⟨σt, ht, hRt, hkt⟩ := c_tell (d + 1) hR1 (-1000006)
  have hone := i_one (eG B.1) (by omega)
  have hp : 2 ^ eG B.1 ≤ 2 ^ 10 := Nat.pow_le_pow_right (by omega) (by omega)
  unfold sEven
  refine z_metC ⟨rfl, z_go 60 [] ⟨σ1, hc, fun q => ⟨fun q2 => ?_, fun q2 => ⟨fun q3 => ?_, fun q3 => ?_⟩⟩, fun q => ?_⟩⟩
  · rw [if_neg q, if_pos q2]
    exact ⟨_, σt, ht, rfl, hRt, hk1.tr hkt⟩
  · rw [b3, hone] at q3
    rw [if_neg q, if_neg q2, if_pos q3]
    obtain ⟨k, hk, rfl⟩ := nI_of (x := i) q2
    rw [n_lt (by omega) (by omega)] at q3
    exact ⟨_, _, c_evenSet (d + 1) (cl := ecl B.1) b3 (by omega) (by omega) b4, by rw [nc (by omega)]; rfl, hR1, hk1⟩
  · rw [b3, hone] at q3
    rw [if_neg q, if_neg q2, if_neg q3]
    exact ⟨_, σt, ht, rfl, hRt, hk1.tr hkt⟩
  · rw [if_pos q, b3, hone]
    exact ⟨rfl, hR1, hk1⟩
theorem y_even (d : Nat) {σ : z_M} {B : zB} (h : RepD σ B) (hv : VB B) (i : Int32) : opD (d + 3) k_Md_even [.ref 53, .int i] σ (sEven i B) := by
  obtain ⟨P, R, eP, hP, egP, eR, hR, eg, hse⟩ := hv.1.nat
  obtain ⟨c1, c2, c3⟩ := ec_ok hv.1
  have hg := (eG_eq hv.1).1
  have hp : 2 ^ eG B.1 ≤ 2 ^ 10 := Nat.pow_le_pow_right (by omega) (by omega)
  have h10 : 2 ^ R ≤ 2 ^ 10 := Nat.pow_le_pow_right (by omega) hR
  have hpos : 0 < 2 ^ R := Nat.pow_pos (by omega)
  rw [eg] at c1 c2 c3
  have e1 : σ.1 53 1 = nI R := by rw [h.1.2.1, eR]
  obtain ⟨σt, ht, hRt, hkt⟩ := c_finding (d + 1) h (-1000006)
  have loop : ∀ (n S : Nat), S + n = 2 ^ R → (∀ c, c < ec B.1 S → i ≠ nI c) →
      z_wp (z_call (d + 2)) none k_Md_even (pD σ (sEven i B)) 4 [some (.ref 53), some (.int i), some (.int (nI (ec B.1 S))), some (.int (nI S))] [] σ := by
    intro n
    induction n with
    | zero =>
      intro S hS hi
      obtain rfl : S = 2 ^ R := by omega
      rw [c2] at hi ⊢
      refine z_go 40 [4] ⟨_, _, c_all (d + 1) e1 hR, fun q => ⟨fun q2 => ⟨_, σt, ht, ?_⟩, fun q2 => ?_⟩, fun q => ?_⟩
      · have e : sEven i B = oTell (-1000006) B := by
          unfold sEven
          rw [if_neg q2]
          by_cases q3 : i < 0
          · rw [if_pos q3]
          · rw [if_neg q3, if_neg]
            intro q4
            obtain ⟨k, hk, rfl⟩ := nI_of (x := i) q3
            rw [n_lt (by omega) (by omega)] at q4
            exact hi k q4 rfl
        rw [e]
        exact ⟨rfl, hRt, hkt⟩
      · unfold sEven
        rw [if_pos q2]
        exact ⟨rfl, h, kD.rf⟩
      · rw [n_lt (by omega) (by omega)] at q
        omega
    | succ n ih =>
      intro S hS hi
      have hc3 := c3 S (by omega)
      have hpb := pb_le (isE B.1 S)
      refine z_go 40 [4] ⟨_, _, c_all (d + 1) e1 hR, fun q => ?_, fun q => ⟨_, _, c_isEven_0 d h.1 hv.1 (S := S) (by omega), fun q2 => ?_, fun q2 => ⟨fun q3 => ?_, fun q3 => ?_⟩⟩⟩
      · rw [n_lt (by omega) (by omega)] at q
        omega
      · show z_wp _ _ _ _ 4 _ _ _
        have q2 : nI (pb (isE B.1 S)) = nI 0 := q2
        rw [n_eq (by omega) (by omega)] at q2
        have e2 : ec B.1 (S + 1) = ec B.1 S := cn_n (pb_0 q2)
        rw [show nI S + 1 = nI (S + 1) from nI_add S 1, ← e2]
        exact ih (S + 1) (by omega) (by rw [e2]; exact hi)
      · show z_wp _ _ _ _ 4 _ _ _
        have q2 : ¬ nI (pb (isE B.1 S)) = nI 0 := q2
        rw [n_eq (by omega) (by omega)] at q2
        have e2 : ec B.1 (S + 1) = ec B.1 S + 1 := cn_p (pb_1 q2)
        have := ih (S + 1) (by omega) (by
          rw [e2]
          intro c hc z
          by_cases c0 : c = ec B.1 S
          · rw [c0] at z; exact q3 z.symm
          · exact hi c (by omega) z)
        rw [e2] at this
        rw [show nI S + 1 = nI (S + 1) from nI_add S 1, show nI (ec B.1 S) + 1 = nI (ec B.1 S + 1) from nI_add _ 1]
        exact this
      · have q2 : ¬ nI (pb (isE B.1 S)) = nI 0 := q2
        rw [n_eq (by omega) (by omega)] at q2
        obtain ⟨a1, a2⟩ := c1 S (by omega) (pb_1 q2)
        subst q3
        unfold sEven
        rw [if_neg, if_neg (n_nn (by omega)), if_pos (by rw [n_lt (by omega) (by omega)]; exact a1), nc (by omega), a2]
        · exact ⟨rfl, h, kD.rf⟩
        · intro z
          have := n_nn (a := ec B.1 S) (by omega)
          rw [z] at this
          exact this (by decide)
  have := loop (2 ^ R) 0 (by omega) (fun c hc => absurd hc (Nat.not_lt_zero c))
  exact z_metD ⟨rfl, z_go 40 [4] this⟩
theorem c_tellEvens (d : Nat) {σ : z_M} {N : zN} (h : netD σ N) (hv : NV N) : ∃ σ', z_call (d + 3) k_Md_tellEvens [.ref 53] σ (some (.int (nI (2 ^ eG N)))) σ' ∧ fr [77] σ σ' ∧ ∀ c, c < 2 ^ eG N → σ'.1 77 c = nI (ev N c) := by
  obtain ⟨P, R, eP, hP, egP, eR, hR, eg, hse⟩ := hv.nat
  obtain ⟨c1, c2, c3⟩ := ec_ok hv
  have hg := (eG_eq hv).1
  have hp : 2 ^ eG N ≤ 2 ^ 10 := Nat.pow_le_pow_right (by omega) (by omega)
  have h10 : 2 ^ R ≤ 2 ^ 10 := Nat.pow_le_pow_right (by omega) hR
  have hpos : 0 < 2 ^ R := Nat.pow_pos (by omega)
  rw [eg] at c1 c2 c3
  have loop : ∀ (n S : Nat) (σi : z_M), S + n = 2 ^ R → fr [77] σ σi → (∀ c, c < ec N S → σi.1 77 c = nI (ev N c)) →
      z_wp (z_call (d + 2)) none k_Md_tellEvens (fun r s => r = some (.int (nI (2 ^ eG N))) ∧ (fr [77] σ s ∧ ∀ c, c < 2 ^ eG N → s.1 77 c = nI (ev N c))) 4 [some (.ref 53), some (.int (nI (ec N S))), some (.int (nI S))] [] σi := by
    intro n
    induction n with
    | zero =>
      intro S σi hS hf hi
      obtain rfl : S = 2 ^ R := by omega
      have e1 : σi.1 53 1 = nI R := by rw [hf.at (by decide), h.2.1, eR]
      rw [c2] at hi ⊢
      refine z_go 40 [4] ⟨_, _, c_all (d + 1) e1 hR, fun q => ⟨rfl, hf, hi⟩, fun q => ?_⟩
      rw [n_lt (by omega) (by omega)] at q
      omega
    | succ n ih =>
      intro S σi hS hf hi
      have e1 : σi.1 53 1 = nI R := by rw [hf.at (by decide), h.2.1, eR]
      have hN : netD σi N := h.fr (hf.at (by decide) _) (hf.at (by decide) _) (hf.at (by decide) _) (hf.1 54 (by decide)) (hf.1 55 (by decide)) (hf.1 56 (by decide)) (hf.1 57 (by decide))
      have hc3 := c3 S (by omega)
      have hpb := pb_le (isE N S)
      have hE : isE N S → ec N S < 1024 := fun z => by have := (c1 S (by omega) z).1; omega
      refine z_go 40 [4] ⟨_, _, c_all (d + 1) e1 hR, fun q => ?_, fun q => ⟨_, _, c_isEven_0 d hN hv (S := S) (by omega), fun q2 => ?_, fun q2 => ?_⟩⟩
      · rw [n_lt (by omega) (by omega)] at q
        omega
      · show z_wp _ _ _ _ 4 _ _ _
        have q2 : nI (pb (isE N S)) = nI 0 := q2
        rw [n_eq (by omega) (by omega)] at q2
        have e2 : ec N (S + 1) = ec N S := cn_n (pb_0 q2)
        rw [show nI S + 1 = nI (S + 1) from nI_add S 1, ← e2]
        exact ih (S + 1) σi (by omega) hf (by rw [e2]; exact hi)
      · have q2 : ¬ nI (pb (isE N S)) = nI 0 := q2
        rw [n_eq (by omega) (by omega)] at q2
        have e2 : ec N (S + 1) = ec N S + 1 := cn_p (pb_1 q2)
        obtain ⟨a1, a2⟩ := c1 S (by omega) (pb_1 q2)
        refine ⟨by (first | exact vin (by simp only [al_2, al_3, al_4, al_5, al_7, al_11, al_12, al_13, al_15, al_16, al_17, al_19, al_20, al_21, al_22, al_23, al_24, al_25, al_26, al_28, al_30, al_31, al_32, al_33, al_34, al_36, al_41, al_42, al_43, al_44, al_49, al_50, al_51, al_52, al_54, al_55, al_56, al_57, al_58, al_59, al_60, al_61, al_62, al_63, al_64, al_65, al_66, al_67, al_68, al_69, al_70, al_71, al_72, al_73, al_74, al_75, al_76, al_77, al_78, al_79, al_80]; omega) (by simp only [al_2, al_3, al_4, al_5, al_7, al_11, al_12, al_13, al_15, al_16, al_17, al_19, al_20, al_21, al_22, al_23, al_24, al_25, al_26, al_28, al_30, al_31, al_32, al_33, al_34, al_36, al_41, al_42, al_43, al_44, al_49, al_50, al_51, al_52, al_54, al_55, al_56, al_57, al_58, al_59, al_60, al_61, al_62, al_63, al_64, al_65, al_66, al_67, al_68, al_69, al_70, al_71, al_72, al_73, al_74, al_75, al_76, al_77, al_78, al_79, al_80]; decide) | (simp (disch := omega) only [nL, nI_add, pk_mul, nc, Nat.zero_add, al_2, al_3, al_4, al_5, al_7, al_11, al_12, al_13, al_15, al_16, al_17, al_19, al_20, al_21, al_22, al_23, al_24, al_25, al_26, al_28, al_30, al_31, al_32, al_33, al_34, al_36, al_41, al_42, al_43, al_44, al_49, al_50, al_51, al_52, al_54, al_55, al_56, al_57, al_58, al_59, al_60, al_61, al_62, al_63, al_64, al_65, al_66, al_67, al_68, al_69, al_70, al_71, al_72, al_73, al_74, al_75, al_76, al_77, al_78, al_79, al_80]; exact vin (by omega) (by decide))), ?_⟩
        show z_wp _ _ _ _ 4 _ _ _
        have := ih (S + 1) (z_wr σi 77 (ec N S) (nI S)) (by omega) (fr.wr hf (by decide)) (by
          rw [e2]
          intro c hc
          by_cases c0 : c = ec N S
          · rw [c0, wr_s, a2]
          · rw [wr_k c0]
            exact hi c (by omega))
        rw [e2] at this
        rw [nc (by omega), show nI S + 1 = nI (S + 1) from nI_add S 1, show nI (ec N S) + 1 = nI (ec N S + 1) from nI_add _ 1]
        exact this
  exact z_metR ⟨rfl, z_go 40 [4] (loop (2 ^ R) 0 σ (by omega) fr.rf (fun c hc => absurd hc (Nat.not_lt_zero c)))⟩
