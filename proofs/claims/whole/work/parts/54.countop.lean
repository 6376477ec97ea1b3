/-! count -/
noncomputable def sCount (w : Int32) (B : zB) : Int32 × zB := if w = 0 then (nI (gP B.1 - mga B.1), B) else if w = 1 then (nI (eG B.1), B) else if w = 2 then (nI (cP 0 B.1), B) else if w = 3 then (nI (cP 1 B.1), B) else oTell (-1000001) B
theorem v_count {B : zB} (h : VB B) (w : Int32) : VB (sCount w B).2 := by
  unfold sCount
  repeat (first | exact h.tell _ | exact h | split)
theorem c_ways_0 (d : Nat) {σ : z_M} {B : zB} (h : RepC σ B) (hv : VB B) : ∃ σ', z_call (d + 16) k_RF_waysToPoint [.ref 0, .int 0] σ (some (.int (nI (cP 0 B.1)))) σ' ∧ RepC σ' B ∧ kC σ σ' := by
  obtain ⟨σ1, hc, hR1, hk1, y1, -⟩ := c_look d h hv
  have cw := c_worthAt_0 (d + 14) (σ := σ1) (f := trm 0 B.1) (fun i hi => (y1 i hi).1) (-1)
  obtain ⟨z, hz, hs, hl⟩ := hor_cP hv.1 0
  rw [hz] at cw
  have ca := c_absJ (d + 14) σ1 hl hs
  refine z_metR ⟨rfl, z_go 60 [] ⟨σ1, hc, fun _ => ⟨_, _, cw, _, _, ca, ?_, hR1, hk1⟩, fun z => absurd rfl z⟩⟩
  rw [Int64.toInt32_ofInt]
  rfl
theorem c_ways_1 (d : Nat) {σ : z_M} {B : zB} (h : RepC σ B) (hv : VB B) : ∃ σ', z_call (d + 16) k_RF_waysToPoint [.ref 0, .int 1] σ (some (.int (nI (cP 1 B.1)))) σ' ∧ RepC σ' B ∧ kC σ σ' := by
  obtain ⟨σ1, hc, hR1, hk1, y1, -⟩ := c_look d h hv
  have cw := c_worthAt_1 (d + 14) (σ := σ1) (f := trm 1 B.1) (fun i hi => (y1 i hi).2) (-1)
  obtain ⟨z, hz, hs, hl⟩ := hor_cP hv.1 1
  rw [hz] at cw
  have ca := c_absJ (d + 14) σ1 hl hs
  refine z_metR ⟨rfl, z_go 60 [] ⟨σ1, hc, fun z => absurd z (by decide), fun _ => ⟨_, _, cw, _, _, ca, ?_, hR1, hk1⟩⟩⟩
  rw [Int64.toInt32_ofInt]
  rfl
theorem x_count (d : Nat) {σ : z_M} {B : zB} (h : RepC σ B) (hv : VB B) (w : Int32) : opC (d + 17) k_RF_count [.ref 0, .int w] σ (sCount w B) := by
  obtain ⟨σt, ht, hRt, hkt⟩ := c_tell (d + 15) h (-1000001)
  obtain ⟨σ1, hc, hf, b1, b2, b3, b4, hg, hR⟩ := c_growE (d + 14) h.1 hv.1
  have hR1 := h.scr hf (by decide)
  have hk1 := hf.kC (by decide)
  obtain ⟨σ2, hc2, hR2, hk2⟩ := c_ways_0 d h hv
  obtain ⟨σ3, hc3, hR3, hk3⟩ := c_ways_1 d h hv
  have r0 : sCount (nI 0) B = (nI (gP B.1 - mga B.1), B) := by
    unfold sCount
    rw [if_pos (show nI 0 = 0 from rfl)]
  have r1 : sCount (nI 1) B = (nI (eG B.1), B) := by
    unfold sCount
    rw [if_neg (by decide), if_pos (show nI 1 = 1 from rfl)]
  have r2 : sCount (nI 2) B = (nI (cP 0 B.1), B) := by
    unfold sCount
    rw [if_neg (by decide), if_neg (by decide), if_pos (show nI 2 = 2 from rfl)]
  have r3 : sCount (nI 3) B = (nI (cP 1 B.1), B) := by
    unfold sCount
    rw [if_neg (by decide), if_neg (by decide), if_neg (by decide), if_pos (show nI 3 = 3 from rfl)]
  refine z_metC ⟨rfl, z_go 60 [] ⟨fun q => ⟨σ1, hc, ?_⟩, fun q => ⟨σ1, hc, ?_⟩, fun q => ⟨_, σ2, hc2, ?_⟩, fun q => ⟨_, σ3, hc3, ?_⟩, fun q => ⟨_, σt, ht, ?_⟩⟩⟩
  · have q : w = nI 0 := q
    rw [q, r0]
    refine ⟨?_, hR1, hk1⟩
    rw [b2]
  · have q : w = nI 1 := q
    rw [q, r1]
    refine ⟨?_, hR1, hk1⟩
    rw [b3]
  · have q : w = nI 2 := q
    rw [q, r2]
    exact ⟨rfl, hR2, hk2⟩
  · have q : w = nI 3 := q
    rw [q, r3]
    exact ⟨rfl, hR3, hk3⟩
  · have hne : ∀ n : Nat, n < 4 → ¬ w = nI n := by
      intro n hn z
      subst z
      rcases q with z | z
      · exact n_nn (by omega) z
      · have z : nI 4 ≤ nI n := z
        rw [n_le (by omega) (by omega)] at z
        omega
    have e : sCount w B = oTell (-1000001) B := by
      unfold sCount
      rw [if_neg (show ¬ w = 0 from hne 0 (by omega)), if_neg (show ¬ w = 1 from hne 1 (by omega)), if_neg (show ¬ w = 2 from hne 2 (by omega)), if_neg (show ¬ w = 3 from hne 3 (by omega))]
    rw [e]
    exact ⟨rfl, hRt, hkt⟩
theorem y_count (d : Nat) {σ : z_M} {B : zB} (h : RepD σ B) (hv : VB B) (w : Int32) : opD (d + 5) k_Md_count [.ref 53, .int w] σ (sCount w B) := by
  obtain ⟨P, R, eP, hP, egP, eR, hR, eg, hse⟩ := hv.1.nat
  have h10 : 2 ^ R ≤ 2 ^ 10 := Nat.pow_le_pow_right (by omega) hR
  have hpos : 0 < 2 ^ R := Nat.pow_pos (by omega)
  have e1 : σ.1 53 1 = nI R := by rw [h.1.2.1, eR]
  obtain ⟨σt, ht, hRt, hkt⟩ := c_finding (d + 3) h (-1000001)
  obtain ⟨σ1, hc1, hf1, -⟩ := c_piecesOf (d + 2) h.1 hv.1 (S := 2 ^ R - 1) (by omega)
  obtain ⟨σ2, hc2, hf2⟩ := c_genusOf (d + 1) h.1 hv.1 (S := 2 ^ R - 1) (by rw [eg]; omega)
  have cp0 := c_pointed_0 (d + 1) h.1 hv.1
  have cp1 := c_pointed_1 (d + 1) h.1 hv.1
  have ea : mg (gs B.1) (ge B.1) (2 ^ R - 1) (gR B.1) = mga B.1 := by rw [mga, eg]
  have ebc : ∀ n, n ≤ R → bc (2 ^ R - 1) n = n := by
    intro n
    induction n with
    | zero => intro _; rfl
    | succ n ih =>
      intro hn
      rw [bc, ih (by omega), if_pos (by rw [all_bit]; exact decide_eq_true (by omega))]
  have eb : bc (2 ^ R - 1) (gR B.1) = gR B.1 := by rw [eg]; exact ebc R (Nat.le_refl R)
  rw [ea] at hc1 hc2
  rw [eb, ← (eG_eq hv.1).1] at hc2
  unfold sCount
  refine z_metD ⟨rfl, z_go 60 [] ⟨fun q => ⟨_, σt, ht, ?_⟩, fun q => ⟨fun q2 => ⟨fun q3 => ⟨fun q4 => ⟨fun q5 => ⟨_, _, cp0, ?_⟩, fun q5 => ⟨_, _, cp1, ?_⟩⟩, fun q4 => ⟨_, _, c_all (d + 3) e1 hR, _, σ2, hc2, ?_⟩⟩, fun q3 => ⟨_, _, c_all (d + 3) e1 hR, _, σ1, hc1, ?_⟩⟩, fun q2 => ⟨_, σt, ht, ?_⟩⟩⟩⟩
  · have hne : ∀ n : Nat, n < 4 → ¬ w = nI n := by
      intro n hn z
      subst z
      exact n_nn (by omega) q
    rw [if_neg (show ¬ w = 0 from hne 0 (by omega)), if_neg (show ¬ w = 1 from hne 1 (by omega)), if_neg (show ¬ w = 2 from hne 2 (by omega)), if_neg (show ¬ w = 3 from hne 3 (by omega))]
    exact ⟨rfl, hRt, hkt⟩
  · obtain ⟨k, hk, rfl⟩ := nI_of (x := w) q
    have q2 : nI k ≤ nI 3 := q2
    have q3 : ¬ nI k = nI 0 := q3
    have q4 : ¬ nI k = nI 1 := q4
    have q5 : ¬ nI k = nI 2 := q5
    rw [n_le (by omega) (by omega)] at q2
    rw [n_eq (by omega) (by omega)] at q3 q4 q5
    obtain rfl : k = 3 := by omega
    rw [if_neg (by decide), if_neg (by decide), if_neg (by decide), if_pos (show nI 3 = 3 from rfl)]
    refine ⟨?_, h, kD.rf⟩
    unfold cP cA
    rw [if_neg (by decide)]
  · have q5 : w = 2 := q5
    subst q5
    rw [if_neg (by decide), if_neg (by decide), if_pos rfl]
    refine ⟨?_, h, kD.rf⟩
    unfold cP cT
    rw [if_pos rfl]
  · have q4 : w = 1 := q4
    subst q4
    rw [if_neg (by decide), if_pos rfl]
    exact ⟨rfl, h.scr hf2 (by decide), hf2.kD (by decide)⟩
  · have q3 : w = 0 := q3
    subst q3
    rw [if_pos rfl]
    exact ⟨rfl, h.scr hf1 (by decide), hf1.kD (by decide)⟩
  · have hne : ∀ n : Nat, n < 4 → ¬ w = nI n := by
      intro n hn z
      subst z
      have q2 : ¬ nI n ≤ nI 3 := q2
      rw [n_le (by omega) (by omega)] at q2
      omega
    rw [if_neg (show ¬ w = 0 from hne 0 (by omega)), if_neg (show ¬ w = 1 from hne 1 (by omega)), if_neg (show ¬ w = 2 from hne 2 (by omega)), if_neg (show ¬ w = 3 from hne 3 (by omega))]
    exact ⟨rfl, hRt, hkt⟩
