/-! what the component's search rests on -/
def sdOK (s e ord sd : Nat → Nat) (R j : Nat) : Prop := sd (ord j) < 64 ∧ (sd (ord j) ≠ 0 → s (ord j) ≠ e (ord j) ∧ (sd (ord j)).testBit (e (ord j)) = true ∧ (sd (ord j)).testBit (s (ord j)) = false ∧ ∀ i, j < i → i < R → (sd (ord j)).testBit (s (ord i)) = (sd (ord j)).testBit (e (ord i)))
def prep (σ : z_M) (N : zN) (k b : Nat) (ord sd : Nat → Nat) : Prop := σ.1 18 10 = nI k ∧ σ.1 18 11 = nI b ∧ ∀ j, j < gR N → σ.1 20 j = nI (ord j) ∧ ord j < gR N ∧ σ.1 23 (ord j) = nI (ltr (gs N) (ge N) ord (j + 1) (gs N (ord j)) (gR N - (j + 1))) ∧ σ.1 24 (ord j) = nI (ltr (gs N) (ge N) ord (j + 1) (ge N (ord j)) (gR N - (j + 1))) ∧ σ.1 22 (ord j) = nI (sd (ord j)) ∧ sdOK (gs N) (ge N) ord sd (gR N) j
theorem prep.fr' {σ σ' : z_M} {N : zN} {k b : Nat} {ord sd : Nat → Nat} (h : prep σ N k b ord sd) (hf : fr [19, 21, 27, 28] σ σ') : prep σ' N k b ord sd := by
  obtain ⟨h1, h2, h3⟩ := h
  refine ⟨by rw [hf.at (by decide)]; exact h1, by rw [hf.at (by decide)]; exact h2, fun j hj => ?_⟩
  rw [hf.at (by decide), hf.at (by decide), hf.at (by decide), hf.at (by decide)]
  exact h3 j hj
/-- the numbers of the notes: all, or only 'none' while the first is sought -/
def ntS (σ : z_M) (N : zN) (k b : Nat) (ord : Nat → Nat) : Prop := ∀ x, x < 128 → σ.2 x = -1 ∨ ∃ (j : Nat) (g : Nat → Int), j < gR N ∧ (∀ p, p < 6 → -60 ≤ g p ∧ g p ≤ 60) ∧ σ.2 x = Int64.ofInt (cdN g j) ∧ σ.1 28 x = nI (NC (gs N) (ge N) (2 * (k - 1)) ord (gR N - j) j g) ∧ (b = 1 → NC (gs N) (ge N) (2 * (k - 1)) ord (gR N - j) j g = 0)
theorem ltr_le (s e ord : Nat → Nat) (j p m : Nat) : ltr s e ord j p m ≤ 2 * m := nsum_le (fun i _ => by
  split
  · omega
  · exact own_le _ _ _ _)
/-- only one number can do on a road that parts what is left -/
theorem NC_force {s e : Nat → Nat} {T : Nat} {ord : Nat → Nat} {C m j : Nat} {g : Nat → Int} {v : Int} (h6 : ∀ i, j ≤ i → i < j + (m + 1) → s (ord i) < 6 ∧ e (ord i) < 6) (he : C.testBit (e (ord j)) = true) (hs : C.testBit (s (ord j)) = false) (hc : ∀ i, j < i → i < j + (m + 1) → C.testBit (s (ord i)) = C.testBit (e (ord i))) (hv : v ≠ -csum C g) : NC s e T ord m (j + 1) (ap s e (ord j) v g) = 0 := by
  refine NC_cut (C := C) (fun i h1 h2 => ⟨(h6 i (by omega) (by omega)).1, (h6 i (by omega) (by omega)).2, hc i (by omega) (by omega)⟩) ?_
  obtain ⟨h7, h8⟩ := h6 j (by omega) (by omega)
  have e1 : csum C (ap s e (ord j) v g) = csum C g + csum C (dl s e (ord j) v) := csum_add C g (dl s e (ord j) v)
  rw [e1, csum_dl v C h7 h8, if_pos he, if_neg (by rw [hs]; decide)]
  omega
theorem NC_forced {s e : Nat → Nat} {k : Nat} {ord : Nat → Nat} {C m j : Nat} {g : Nat → Int} (h6 : ∀ i, j ≤ i → i < j + (m + 1) → s (ord i) < 6 ∧ e (ord i) < 6) (he : C.testBit (e (ord j)) = true) (hs : C.testBit (s (ord j)) = false) (hc : ∀ i, j < i → i < j + (m + 1) → C.testBit (s (ord i)) = C.testBit (e (ord i))) : NC s e (2 * (k - 1)) ord (m + 1) j g = if (-csum C g) ≠ 0 ∧ (-csum C g).natAbs ≤ k - 1 then NC s e (2 * (k - 1)) ord m (j + 1) (ap s e (ord j) (-csum C g) g) else 0 := by
  have key : ∀ t, vl t ≠ -csum C g → NC s e (2 * (k - 1)) ord m (j + 1) (ap s e (ord j) (vl t) g) = 0 := fun t ht => NC_force h6 he hs hc ht
  rw [NC]
  by_cases c : (-csum C g) ≠ 0 ∧ (-csum C g).natAbs ≤ k - 1
  · rw [if_pos c]
    obtain ⟨t, t1, t2⟩ := vl_ex (v := -csum C g) (k := k) c.1 (by omega) (by omega)
    rw [nsum_1 (f := fun t => NC s e (2 * (k - 1)) ord m (j + 1) (ap s e (ord j) (vl t) g)) t1 (fun i hi hne => key i (fun z => hne (vl_inj (z.trans t2.symm)))), t2]
  · rw [if_neg c]
    refine nsum_0 (fun t ht => key t (fun z => c ?_))
    have := vl_rng (k := k) ht
    rw [z] at this
    omega
/-- posts that have no road to come have no surplus -/
def levl (s e ord : Nat → Nat) (j m : Nat) (g : Nat → Int) : Prop := ∀ p, p < 6 → ltr s e ord j p m = 0 → g p = 0
theorem levl_next {s e ord : Nat → Nat} {j m k : Nat} {g : Nat → Int} {v : Int} (h : levl s e ord j (m + 1) g) (hne : s (ord j) ≠ e (ord j)) (h1 : cL k (ap s e (ord j) v g (s (ord j))) (ltr s e ord (j + 1) (s (ord j)) m)) (h2 : cL k (ap s e (ord j) v g (e (ord j))) (ltr s e ord (j + 1) (e (ord j)) m)) : levl s e ord (j + 1) m (ap s e (ord j) v g) := by
  intro p hp hz
  by_cases p1 : p = s (ord j)
  · rw [← p1, hz] at h1
    have := h1.2
    rw [Nat.mul_zero] at this
    omega
  · by_cases p2 : p = e (ord j)
    · rw [← p2, hz] at h2
      have := h2.2
      rw [Nat.mul_zero] at this
      omega
    · have n1 : ¬ s (ord j) = p := fun z => p1 z.symm
      have n2 : ¬ e (ord j) = p := fun z => p2 z.symm
      have := h p hp (by
        rw [ltr_s, hz, if_neg hne]
        unfold own
        rw [if_neg n1, if_neg n2])
      unfold ap dl
      rw [if_neg n1, if_neg n2, this]
      rfl
theorem levl_loop {s e ord : Nat → Nat} {j m : Nat} {g : Nat → Int} (h : levl s e ord j (m + 1) g) (hl : s (ord j) = e (ord j)) : levl s e ord (j + 1) m g := fun p hp hz => h p hp (by rw [ltr_s, hz, if_pos hl])
theorem NC_notL {s e ord : Nat → Nat} {k m j p : Nat} {g : Nat → Int} (hp : p < 6) (h : ¬ cL k (g p) (ltr s e ord j p m)) : NC s e (2 * (k - 1)) ord m j g = 0 := by
  by_cases c : ltr s e ord j p m = 1 ∧ g p = 0
  · exact NC_last hp c.2 c.1
  · have h2 : ¬ (g p).natAbs ≤ (k - 1) * ltr s e ord j p m := fun z => h ⟨c, z⟩
    refine NC_far (p := p) hp ?_
    have e1 : ((k - 1 : Nat) : Int) * (ltr s e ord j p m : Int) = (((k - 1) * ltr s e ord j p m : Nat) : Int) := (Int.natCast_mul _ _).symm
    rw [e1]
    omega
