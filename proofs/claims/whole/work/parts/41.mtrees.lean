/-! trees, model -/
theorem y_trees (d : Nat) {σ : z_M} {B : zB} (h : RepD σ B) (hv : VB B) : opD (d + 5) k_Md_trees [.ref 53] σ (sTrees B) := by
  obtain ⟨P, R, eP, hP, egP, eR, hR, eg, hse⟩ := hv.1.nat
  have h10 : 2 ^ R ≤ 2 ^ 10 := Nat.pow_le_pow_right (by omega) hR
  have hpos : 0 < 2 ^ R := Nat.pow_pos (by omega)
  have hse2 : ∀ i, i < R → gs B.1 i < P ∧ ge B.1 i < P := fun i hi => (hse i hi).2.2
  have loop : ∀ (n S : Nat) (σi : z_M), S + n = 2 ^ R → fr [75] σ σi →
      z_wp (z_call (d + 4)) none k_Md_trees (pD σ (sTrees B)) 13 [some (.ref 53), some (.int (Int32.ofInt (bsum (fun S => if bc S R = mg (gs B.1) (ge B.1) S R ∧ P - mg (gs B.1) (ge B.1) S R = P - mga B.1 then 1 else 0) S))), some (.int (nI (P - mga B.1))), some (.int (nI S))] [] σi := by
    intro n
    induction n with
    | zero =>
      intro S σi hn hf
      obtain rfl : S = 2 ^ R := by omega
      have e1 : σi.1 53 1 = nI R := by rw [hf.at (by decide), h.1.2.1, eR]
      refine z_go 60 [13] ⟨_, _, c_all (d + 3) e1 hR, fun q => ⟨?_, h.scr hf (by decide), hf.kD (by decide)⟩, fun q => ?_⟩
      · rw [sTrees, egP, eg]
        rfl
      · rw [n_lt (by omega) (by omega)] at q
        omega
    | succ n ih =>
      intro S σi hn hf
      have e1 : σi.1 53 1 = nI R := by rw [hf.at (by decide), h.1.2.1, eR]
      have hN : ∀ σi, fr [75] σ σi → netD σi B.1 := fun σi hf => h.1.fr (hf.at (by decide) _) (hf.at (by decide) _) (hf.at (by decide) _) (hf.1 54 (by decide)) (hf.1 55 (by decide)) (hf.1 56 (by decide)) (hf.1 57 (by decide))
      obtain ⟨σ1, hc1, hf1, -⟩ := c_piecesOf (d + 2) (hN σi hf) hv.1 (S := S) (by omega)
      rw [egP, eg] at hc1
      have hf1 := hf.tr hf1
      obtain ⟨σ2, hc2, hf2⟩ := c_genusOf (d + 1) (hN σ1 hf1) hv.1 (S := S) (by rw [eg]; omega)
      rw [eg] at hc2
      have hf2 := hf1.tr hf2
      have m1 := mg_le (s := gs B.1) (e := ge B.1) (P := P) S (n := R) hse2
      have m2 := mg_bc (gs B.1) (ge B.1) S R
      have m3 := bc_le S R
      have off : ¬ (bc S R = mg (gs B.1) (ge B.1) S R ∧ P - mg (gs B.1) (ge B.1) S R = P - mga B.1) → ∀ v : Int32, v = Int32.ofInt (bsum (fun S => if bc S R = mg (gs B.1) (ge B.1) S R ∧ P - mg (gs B.1) (ge B.1) S R = P - mga B.1 then 1 else 0) S) + 0 → v = Int32.ofInt (bsum (fun S => if bc S R = mg (gs B.1) (ge B.1) S R ∧ P - mg (gs B.1) (ge B.1) S R = P - mga B.1 then 1 else 0) (S + 1)) := by
        rintro c v rfl
        rw [bsum, if_neg c, Int.add_zero, Int32.add_zero]
      refine z_go 60 [13] ⟨_, _, c_all (d + 3) e1 hR, fun q => ?_, fun q => ⟨_, σ1, hc1, fun q2 => ?_, fun q2 => ⟨_, σ2, hc2, fun q3 => ?_, fun q3 => ?_⟩⟩⟩
      · rw [n_lt (by omega) (by omega)] at q
        omega
      · show z_wp _ _ _ _ 13 _ _ _
        rw [n_eq (by omega) (by omega)] at q2
        rw [show nI S + 1 = nI (S + 1) from nI_add S 1, off (fun z => q2 z.2) _ rfl]
        exact ih (S + 1) σ1 (by omega) hf1
      · show z_wp _ _ _ _ 13 _ _ _
        have q3 : ¬ nI _ = nI 0 := q3
        rw [n_eq (by omega) (by omega)] at q3
        rw [show nI S + 1 = nI (S + 1) from nI_add S 1, off (fun z => q3 (by omega)) _ rfl]
        exact ih (S + 1) σ2 (by omega) hf2
      · show z_wp _ _ _ _ 13 _ _ _
        have q3 : nI _ = nI 0 := q3
        rw [n_eq (by omega) (by omega)] at q2 q3
        have e : Int32.ofInt (bsum (fun S => if bc S R = mg (gs B.1) (ge B.1) S R ∧ P - mg (gs B.1) (ge B.1) S R = P - mga B.1 then 1 else 0) S) + 1 = Int32.ofInt (bsum (fun S => if bc S R = mg (gs B.1) (ge B.1) S R ∧ P - mg (gs B.1) (ge B.1) S R = P - mga B.1 then 1 else 0) (S + 1)) := by
          rw [bsum, if_pos ⟨by omega, q2⟩, ← i_oi]
          rfl
        rw [show nI S + 1 = nI (S + 1) from nI_add S 1, e]
        exact ih (S + 1) σ2 (by omega) hf2
  have e1 : σ.1 53 1 = nI R := by rw [h.1.2.1, eR]
  obtain ⟨σ1, hc1, hf1, -⟩ := c_piecesOf (d + 2) h.1 hv.1 (S := 2 ^ R - 1) (by omega)
  rw [egP, eg] at hc1
  have ea : mg (gs B.1) (ge B.1) (2 ^ R - 1) R = mga B.1 := by rw [mga, eg]
  rw [ea] at hc1
  exact z_metD ⟨rfl, z_go 60 [13] ⟨_, _, c_all (d + 3) e1 hR, _, σ1, hc1, loop (2 ^ R) 0 σ1 (by omega) hf1⟩⟩
