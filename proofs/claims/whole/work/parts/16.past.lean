/-! the abstract net, and the past on both sides -/
abbrev zN : Type := (Int32 × Int32 × Int32) × (Nat → Int32) × (Nat → Int32) × (Nat → Int32) × (Nat → Int32)
abbrev nP (N : zN) : Int32 := N.1.1
abbrev nR (N : zN) : Int32 := N.1.2.1
abbrev nG (N : zN) : Int32 := N.1.2.2
abbrev nS (N : zN) : Nat → Int32 := N.2.1
abbrev nE (N : zN) : Nat → Int32 := N.2.2.1
abbrev nD (N : zN) : Nat → Int32 := N.2.2.2.1
abbrev nV (N : zN) : Nat → Int32 := N.2.2.2.2
def netC (σ : z_M) (N : zN) : Prop := σ.1 1 0 = nP N ∧ σ.1 1 1 = nR N ∧ σ.1 1 2 = nG N ∧ ∀ i, i < 10 → σ.1 2 i = nS N i ∧ σ.1 3 i = nE N i ∧ σ.1 4 i = nD N i ∧ σ.1 5 i = nV N i
def netD (σ : z_M) (N : zN) : Prop := σ.1 53 0 = nP N ∧ σ.1 53 1 = nR N ∧ σ.1 53 2 = nG N ∧ ∀ i, i < 10 → σ.1 54 i = nS N i ∧ σ.1 55 i = nE N i ∧ σ.1 56 i = nD N i ∧ σ.1 57 i = nV N i
def snC (σ : z_M) (j : Nat) (N : zN) : Prop := σ.1 7 (43 * j) = nP N ∧ σ.1 7 (43 * j + 1) = nR N ∧ σ.1 7 (43 * j + 2) = nG N ∧ ∀ i, i < 10 → σ.1 7 (43 * j + 3 + i) = nS N i ∧ σ.1 7 (43 * j + 13 + i) = nE N i ∧ σ.1 7 (43 * j + 23 + i) = nD N i ∧ σ.1 7 (43 * j + 33 + i) = nV N i
def snD (σ : z_M) (j : Nat) (N : zN) : Prop := σ.1 58 (43 * j) = nP N ∧ σ.1 58 (43 * j + 1) = nR N ∧ σ.1 58 (43 * j + 2) = nG N ∧ ∀ i, i < 10 → σ.1 58 (43 * j + 3 + 4 * i) = nS N i ∧ σ.1 58 (43 * j + 3 + 4 * i + 1) = nE N i ∧ σ.1 58 (43 * j + 3 + 4 * i + 2) = nD N i ∧ σ.1 58 (43 * j + 3 + 4 * i + 3) = nV N i
def pastC (σ : z_M) (p : Nat × (Nat → zN)) : Prop := ∃ x, x < 25 ∧ p.1 ≤ 25 ∧ σ.1 6 1 = nI x ∧ σ.1 6 2 = nI p.1 ∧ ∀ j, j < p.1 → snC σ ((x + 25 - p.1 + j) % 25) (p.2 j)
def pastD (σ : z_M) (p : Nat × (Nat → zN)) : Prop := p.1 ≤ 25 ∧ σ.1 53 7 = nI p.1 ∧ ∀ j, j < p.1 → snD σ j (p.2 j)
/-- one more net is kept; of 25 the oldest goes -/
def pu (p : Nat × (Nat → zN)) (N : zN) : Nat × (Nat → zN) := if p.1 < 25 then (p.1 + 1, fun j => if j = p.1 then N else p.2 j) else (25, fun j => if j = 24 then N else p.2 (j + 1))
theorem snC_keep {σ σ' : z_M} {j : Nat} {N : zN} (h : snC σ j N) (hk : ∀ k, 43 * j ≤ k → k < 43 * j + 43 → σ'.1 7 k = σ.1 7 k) : snC σ' j N := by
  obtain ⟨h1, h2, h3, h4⟩ := h
  refine ⟨by rw [hk _ (by omega) (by omega)]; exact h1, by rw [hk _ (by omega) (by omega)]; exact h2, by rw [hk _ (by omega) (by omega)]; exact h3, fun i hi => ?_⟩
  obtain ⟨a, b, c, d⟩ := h4 i hi
  exact ⟨by rw [hk _ (by omega) (by omega)]; exact a, by rw [hk _ (by omega) (by omega)]; exact b, by rw [hk _ (by omega) (by omega)]; exact c, by rw [hk _ (by omega) (by omega)]; exact d⟩
theorem snD_keep {σ σ' : z_M} {j j' : Nat} {N : zN} (h : snD σ j N) (hk : ∀ k, k < 43 → σ'.1 58 (43 * j' + k) = σ.1 58 (43 * j + k)) : snD σ' j' N := by
  obtain ⟨h1, h2, h3, h4⟩ := h
  refine ⟨(hk 0 (by omega)).trans h1, (hk 1 (by omega)).trans h2, (hk 2 (by omega)).trans h3, fun i hi => ?_⟩
  obtain ⟨a, b, c, d⟩ := h4 i hi
  have e1 := hk (3 + 4 * i) (by omega)
  have e2 := hk (3 + 4 * i + 1) (by omega)
  have e3 := hk (3 + 4 * i + 2) (by omega)
  have e4 := hk (3 + 4 * i + 3) (by omega)
  simp only [← Nat.add_assoc] at e1 e2 e3 e4
  exact ⟨e1.trans a, e2.trans b, e3.trans c, e4.trans d⟩
theorem netC.fr {σ σ' : z_M} {N : zN} (h : netC σ N) (h1 : σ'.1 1 = σ.1 1) (h2 : σ'.1 2 = σ.1 2) (h3 : σ'.1 3 = σ.1 3) (h4 : σ'.1 4 = σ.1 4) (h5 : σ'.1 5 = σ.1 5) : netC σ' N := by
  unfold netC
  rw [h1, h2, h3, h4, h5]
  exact h
theorem pastC.fr {σ σ' : z_M} {p : Nat × (Nat → zN)} (h : pastC σ p) (h1 : σ'.1 6 = σ.1 6) (h2 : σ'.1 7 = σ.1 7) : pastC σ' p := by
  obtain ⟨x, a, b, c, d, e⟩ := h
  exact ⟨x, a, b, by rw [h1]; exact c, by rw [h1]; exact d, fun j hj => snC_keep (e j hj) (fun k _ _ => by rw [h2])⟩
theorem c_remember (d : Nat) (σ : z_M) (N : zN) (p : Nat × (Nat → zN)) (hN : netC σ N) (hp : pastC σ p) : ∃ σ', z_call (d + 2) k_Past_remember [.ref 6, .ref 1] σ none σ' ∧ fr [6, 7] σ σ' ∧ pastC σ' (pu p N) := by
  obtain ⟨x, hx, hn, hx1, hx2, hs⟩ := hp
  obtain ⟨σ1, hc1, hf1, hk, w0, w1, w2, w3⟩ := c_writeTo d σ (43 * x) (by omega)
  have e61 : σ1.1 6 1 = nI x := by rw [hf1.at (by decide)]; exact hx1
  have e62 : σ1.1 6 2 = nI p.1 := by rw [hf1.at (by decide)]; exact hx2
  have hnew : snC σ1 x N := by
    obtain ⟨n1, n2, n3, n4⟩ := hN
    refine ⟨w0.trans n1, w1.trans n2, w2.trans n3, fun i hi => ?_⟩
    obtain ⟨a, b, c, d⟩ := w3 i hi
    obtain ⟨a', b', c', d'⟩ := n4 i hi
    exact ⟨a.trans a', b.trans b', c.trans c', d.trans d'⟩
  have hold : ∀ j N, j ≠ x → snC σ j N → snC σ1 j N := fun j N hj h => snC_keep h (fun k h1 h2 => hk k (by omega))
  have fin : ∀ (σ2 : z_M) (y : Nat), (∀ c, c ≠ 6 → σ2.1 c = σ1.1 c) → y = (if x + 1 ≥ 25 then 0 else x + 1) → σ2.1 6 1 = nI y → σ2.1 6 2 = nI (min (p.1 + 1) 25) → pastC σ2 (pu p N) := by
    intro σ2 y h7 hy e1 e2
    have keep : ∀ j N, snC σ1 j N → snC σ2 j N := fun j N h => snC_keep h (fun k _ _ => by rw [h7 7 (by decide)])
    by_cases hc : p.1 < 25
    · rw [Nat.min_eq_left (by omega)] at e2
      refine ⟨y, by subst hy; split <;> omega, by simp [pu, hc]; omega, e1, by simpa [pu, hc] using e2, fun j hj => ?_⟩
      simp only [pu, hc, if_true] at hj ⊢
      apply keep
      by_cases hj2 : j = p.1
      · rw [if_pos hj2, show (y + 25 - (p.1 + 1) + j) % 25 = x by subst hy; split <;> omega]
        exact hnew
      · rw [if_neg hj2, show (y + 25 - (p.1 + 1) + j) % 25 = (x + 25 - p.1 + j) % 25 by subst hy; split <;> omega]
        exact hold _ _ (by omega) (hs j (by omega))
    · have h25 : p.1 = 25 := by omega
      rw [Nat.min_eq_right (by omega)] at e2
      refine ⟨y, by subst hy; split <;> omega, by simp [pu, hc], e1, by simpa [pu, hc] using e2, fun j hj => ?_⟩
      simp only [pu, hc, if_false] at hj ⊢
      apply keep
      by_cases hj2 : j = 24
      · rw [if_pos hj2, show (y + 25 - 25 + j) % 25 = x by subst hy; split <;> omega]
        exact hnew
      · rw [if_neg hj2, show (y + 25 - 25 + j) % 25 = (x + 25 - p.1 + (j + 1)) % 25 by subst hy; split <;> omega]
        exact hold _ _ (by omega) (hs (j + 1) (by omega))
  have emin : imin (σ1.1 6 2 + 1) 25 = nI (min (p.1 + 1) 25) := by
    rw [e62]
    simp (disch := omega) only [nL, nI_add, imin_n]
  refine z_metV ⟨rfl, z_go 40 [] ⟨σ1, by rw [hx1]; simp only [nL, pk_mul, Nat.mul_comm x 43]; exact hc1, fun h => ?_, fun h => ?_⟩⟩
  · refine ⟨_, _, c_min d _ _ _, rfl, ?_, ?_⟩
    · exact (fr.wr (fr.wr (hf1.wk [6, 7] (by decide)) (by decide)) (by decide))
    · rw [e61] at h
      simp (disch := omega) only [nL, nI_add, n_le] at h
      refine fin _ 0 (fun c hc => by rw [z_wr_ne hc, z_wr_ne hc]) (by rw [if_pos h]) ?_ ?_
      · simp (disch := omega) only [nL, nI_add, pk_mul, nc, cp_in, cp_lo, cp_hi, cp_ne, wr_s, wr_k, wr_c, wr_e, Nat.zero_add]
      · rw [wr_s, ← emin, wr_k (by decide)]
  · refine ⟨_, _, c_min d _ _ _, rfl, ?_, ?_⟩
    · exact (fr.wr (fr.wr (hf1.wk [6, 7] (by decide)) (by decide)) (by decide))
    · rw [e61] at h
      simp (disch := omega) only [nL, nI_add, n_le] at h
      refine fin _ (x + 1) (fun c hc => by rw [z_wr_ne hc, z_wr_ne hc]) (by rw [if_neg h]) ?_ ?_
      · rw [e61]
        simp (disch := omega) only [nL, nI_add, pk_mul, nc, cp_in, cp_lo, cp_hi, cp_ne, wr_s, wr_k, wr_c, wr_e, Nat.zero_add]
      · rw [wr_s, ← emin, wr_k (by decide)]
