/-! the component's NOWHERES: exists, number -/
theorem prep0 {σ : z_M} {N : zN} {k b : Nat} {ord : Nat → Nat} (h21 : ∀ p, p < 6 → σ.1 21 p = 0) (h27 : ∀ x, x < 128 → σ.2 x = -1) : surp σ (fun _ => 0) ∧ bdj 0 (fun _ => 0) ∧ levl (gs N) (ge N) ord 0 (gR N) (fun _ => 0) ∧ ntS σ N k b ord := by
  refine ⟨fun p hp => ?_, fun p => ?_, fun p _ _ => rfl, fun x hx => Or.inl (h27 x hx)⟩
  · rw [h21 p hp]
    rfl
  · show -(5 * ((0 : Nat) : Int)) ≤ 0 ∧ (0 : Int) ≤ 5 * ((0 : Nat) : Int)
    decide
theorem c_prepTally {D : Nat} {σ : z_M} {N : zN} (h : netC σ N) (hv : NV N) {k b : Nat} (hk : 2 ≤ k ∧ k ≤ 6) (hb : b = 0 ∨ b = 1) (hD : 4 + 3 * gR N ≤ D) : ∃ σ1, z_call D k_Nowheres_prepare [.ref 18, .ref 1, .int (nI k), .int (nI b)] σ none σ1 ∧ ∃ (y : Nat) (σ' : z_M), z_call D k_Nowheres_tally [.ref 18, .ref 1, .int (nI 0)] σ1 (some (.int (nI y))) σ' ∧ (fr [18, 19, 20, 21, 22, 23, 24, 25, 26, 27, 28] σ σ' ∧ oc σ1 σ' N k b (oB b (ordL (prN6 N) (gR N) 36)) (gR N) 0 (fun _ => 0) y) := by
  obtain ⟨d, rfl⟩ : ∃ d, D = d + 4 + 3 * gR N := ⟨D - (4 + 3 * gR N), by omega⟩
  obtain ⟨σ1, c1, f1, h21, h27, sd, hp⟩ := c_prepare (d + 3 * gR N) h hv hk hb
  rw [show d + 3 * gR N + 4 = d + 4 + 3 * gR N by omega] at c1
  have hN1 : netC σ1 N := h.fr (f1.1 1 (by decide)) (f1.1 2 (by decide)) (f1.1 3 (by decide)) (f1.1 4 (by decide)) (f1.1 5 (by decide))
  obtain ⟨p1, p2, p3, p4⟩ := prep0 (N := N) (k := k) (b := b) (ord := oB b (ordL (prN6 N) (gR N) 36)) h21 h27
  obtain ⟨y, σ', c2, ho⟩ := c_tally hv hk hb (ord := oB b (ordL (prN6 N) (gR N) 36)) (sd := sd) (fun e => by
    funext i
    unfold oB
    rw [if_pos e]) (gR N) (Nat.le_refl _) (d + 2) 0 (fun _ => 0) σ1 (by omega) hN1 hp p1 p2 p3 p4
  exact ⟨σ1, c1, y, σ', c2, fr.tr (fr.wk _ f1 (by decide)) (fr.wk _ ho.1 (by decide)), ho⟩
theorem c_numberC {D : Nat} {σ : z_M} {N : zN} (h : netC σ N) (hv : NV N) {k : Nat} (hk : 2 ≤ k ∧ k ≤ 6) (hD : 4 + 3 * gR N ≤ D) : ∃ σ', z_call (D + 1) k_Nowheres_number [.ref 18, .ref 1, .int (nI k)] σ (some (.int (nI (NC (gs N) (ge N) (2 * (k - 1)) (fun i => i) (gR N) 0 (fun _ => 0))))) σ' ∧ fr [18, 19, 20, 21, 22, 23, 24, 25, 26, 27, 28] σ σ' := by
  obtain ⟨P, R, eP, hP, egP, eR, hR, eg, hse⟩ := hv.nat
  have hpr : ∀ i, i < gR N → prN6 N i < 36 := fun i hi => by
    have := (hse i (by omega)).2.2
    unfold prN6
    omega
  obtain ⟨σ1, c1, y, σ', c2, f, ho⟩ := c_prepTally h hv hk (Or.inl rfl) hD
  have ey : y = NC (gs N) (ge N) (2 * (k - 1)) (fun i => i) (gR N) 0 (fun _ => 0) := by
    rcases ho.2.2.2 with z | z
    · rw [z.2.1]
      exact NC_perm (ordL_all hpr) (fun x _ => by unfold oB; rw [if_neg (by decide)]) _
    · exact absurd z.1 (by decide)
  rw [← ey]
  have hm : z_met D k_Nowheres_number [.ref 18, .ref 1, .int (nI k)] σ (fun z s => z = some (.int (nI y)) ∧ s = σ') := ⟨rfl, z_go 40 [] ⟨σ1, c1, _, σ', c2, rfl, rfl⟩⟩
  obtain ⟨z, s, hc, hz1, hz2⟩ := z_metx hm
  rw [hz1, hz2] at hc
  exact ⟨σ', hc, f⟩
theorem c_existsC {D : Nat} {σ : z_M} {N : zN} (h : netC σ N) (hv : NV N) {k : Nat} (hk : 2 ≤ k ∧ k ≤ 6) (hD : 4 + 3 * gR N ≤ D) : ∃ y σ', z_call (D + 1) k_Nowheres_exists [.ref 18, .ref 1, .int (nI k)] σ (some (.int y)) σ' ∧ (fr [18, 19, 20, 21, 22, 23, 24, 25, 26, 27, 28] σ σ' ∧ ((y = 0 ∧ NC (gs N) (ge N) (2 * (k - 1)) (fun i => i) (gR N) 0 (fun _ => 0) = 0) ∨ (y = 1 ∧ 0 < NC (gs N) (ge N) (2 * (k - 1)) (fun i => i) (gR N) 0 (fun _ => 0) ∧ ∃ τ, FS (gs N) (ge N) (2 * (k - 1)) (fun i => i) τ (gR N) 0 (fun _ => 0) ∧ ∀ i, i < gR N → σ'.1 19 i = oI (vl (τ i))))) := by
  obtain ⟨σ1, c1, y, σ', c2, f, ho⟩ := c_prepTally h hv hk (Or.inr rfl) hD
  have eo : oB 1 (ordL (prN6 N) (gR N) 36) = fun i => i := by
    funext i
    unfold oB
    rw [if_pos rfl]
  rw [eo] at ho
  have hm : z_met D k_Nowheres_exists [.ref 18, .ref 1, .int (nI k)] σ (fun z s => ∃ w, z = some (.int w) ∧ (fr [18, 19, 20, 21, 22, 23, 24, 25, 26, 27, 28] σ s ∧ ((w = 0 ∧ NC (gs N) (ge N) (2 * (k - 1)) (fun i => i) (gR N) 0 (fun _ => 0) = 0) ∨ (w = 1 ∧ 0 < NC (gs N) (ge N) (2 * (k - 1)) (fun i => i) (gR N) 0 (fun _ => 0) ∧ ∃ τ, FS (gs N) (ge N) (2 * (k - 1)) (fun i => i) τ (gR N) 0 (fun _ => 0) ∧ ∀ i, i < gR N → s.1 19 i = oI (vl (τ i)))))) := by
    refine ⟨rfl, z_go 40 [] ⟨σ1, c1, _, σ', c2, fun q => ⟨Or.inl rfl, _, rfl, f, ?_⟩, fun q => ⟨Or.inr rfl, _, rfl, f, ?_⟩⟩⟩
    · rcases ho.2.2.2 with z | z
      · exact Or.inl ⟨rfl, z.2.2 rfl⟩
      · rw [z.2.2.1] at q
        exact absurd q (by decide)
    · rcases ho.2.2.2 with z | z
      · rw [z.2.1, z.2.2 rfl] at q
        exact absurd rfl q
      · obtain ⟨τ, t1, t2⟩ := z.2.2.2
        exact Or.inr ⟨rfl, z.2.1, τ, t1, fun i hi => t2 i (Nat.zero_le i) hi⟩
  exact z_metI hm
