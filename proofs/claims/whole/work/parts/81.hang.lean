/-! which posts hang together by the roads behind: what lookAhead keeps -/
def HGI (hg : Nat → Nat) (P : Nat) : Prop := (∀ p, p < 6 → hg p < 64) ∧ (∀ p q, p < 6 → q < 6 → ((hg p).testBit q = true ↔ hg p = hg q)) ∧ ∀ q, P ≤ q → q < 6 → hg q = 2 ^ q
theorem HGI.lt {hg : Nat → Nat} {P : Nat} (h : HGI hg P) : ∀ p, p < 6 → hg p < 64 := h.1
theorem HGI.iff {hg : Nat → Nat} {P : Nat} (h : HGI hg P) : ∀ p q, p < 6 → q < 6 → ((hg p).testBit q = true ↔ hg p = hg q) := h.2.1
theorem HGI.far {hg : Nat → Nat} {P : Nat} (h : HGI hg P) : ∀ q, P ≤ q → q < 6 → hg q = 2 ^ q := h.2.2
theorem HGI.T {hg : Nat → Nat} {P : Nat} (h : HGI hg P) {S E p : Nat} (hS : S < 6) (hE : E < 6) (hp : p < 6) : (hg S ||| hg E).testBit p = true ↔ (hg S = hg p ∨ hg E = hg p) := by
  rw [Nat.testBit_or, Bool.or_eq_true, h.iff S p hS hp, h.iff E p hE hp]
theorem HGI.hT {hg : Nat → Nat} {P : Nat} (h : HGI hg P) {S E p : Nat} (hP : P ≤ 6) (hS : S < P) (hE : E < P) (hp : P ≤ p) : (hg S ||| hg E).testBit p = false := by
  have one : ∀ A, A < P → (hg A).testBit p = false := fun A hA => by
    by_cases c : p < 6
    · cases hb : (hg A).testBit p with
      | false => rfl
      | true =>
        have e1 := (h.iff A p (by omega) c).1 hb
        have e2 := (h.iff A A (by omega) (by omega)).2 rfl
        rw [e1, h.far p hp c, Nat.testBit_two_pow] at e2
        have := of_decide_eq_true e2
        omega
    · have l1 := h.lt A (by omega)
      have l2 : 2 ^ 6 ≤ 2 ^ p := Nat.pow_le_pow_right (by omega) (by omega)
      exact Nat.testBit_lt_two_pow (by omega)
  rw [Nat.testBit_or, one S hS, one E hE]
  rfl
theorem HGI.next {hg : Nat → Nat} {P : Nat} (h : HGI hg P) {S E : Nat} (hP : P ≤ 6) (hS : S < P) (hE : E < P) : HGI (hgM hg S E) P := by
  have t : ∀ p, p < 6 → ((hg S ||| hg E).testBit p = true ↔ (hg S = hg p ∨ hg E = hg p)) := fun p hp => h.T (by omega) (by omega) hp
  have tf : ∀ p, P ≤ p → (hg S ||| hg E).testBit p = false := fun p hp => h.hT hP hS hE hp
  have tl : hg S ||| hg E < 64 := Nat.or_lt_two_pow (n := 6) (h.lt S (by omega)) (h.lt E (by omega))
  have own : ∀ p, p < 6 → (hg p).testBit p = true := fun p hp => (h.iff p p hp hp).2 rfl
  by_cases c : S ≠ E ∧ hg S ≠ hg E
  · have ey : ∀ p, (hg S ||| hg E).testBit p = true → hgM hg S E p = (hg S ||| hg E) := fun p hp => by unfold hgM; rw [if_pos ⟨c.1, c.2, hp⟩]
    have en : ∀ p, ¬ (hg S ||| hg E).testBit p = true → hgM hg S E p = hg p := fun p hp => by unfold hgM; rw [if_neg (fun z => hp z.2.2)]
    have ne : ∀ p, p < 6 → ¬ (hg S ||| hg E).testBit p = true → hg p ≠ (hg S ||| hg E) := fun p hp hn z => hn (by rw [← z]; exact own p hp)
    refine ⟨fun p hp => ?_, fun p q hp hq => ?_, fun q h1 h2 => ?_⟩
    · by_cases cp : (hg S ||| hg E).testBit p = true
      · rw [ey p cp]; exact tl
      · rw [en p cp]; exact h.lt p hp
    · by_cases cp : (hg S ||| hg E).testBit p = true
      · by_cases cq : (hg S ||| hg E).testBit q = true
        · rw [ey p cp, ey q cq]
          exact ⟨fun _ => rfl, fun _ => cq⟩
        · rw [ey p cp, en q cq]
          exact ⟨fun z => absurd z cq, fun z => absurd z.symm (ne q hq cq)⟩
      · by_cases cq : (hg S ||| hg E).testBit q = true
        · rw [en p cp, ey q cq]
          refine ⟨fun z => absurd ?_ cp, fun z => absurd z (ne p hp cp)⟩
          have e1 := (h.iff p q hp hq).1 z
          rw [t p hp, e1]
          exact (t q hq).1 cq
        · rw [en p cp, en q cq]
          exact h.iff p q hp hq
    · rw [en q (by rw [tf q h1]; decide)]
      exact h.far q h1 h2
  · have en : ∀ p, hgM hg S E p = hg p := fun p => by unfold hgM; rw [if_neg (fun z => c ⟨z.1, z.2.1⟩)]
    refine ⟨fun p hp => ?_, fun p q hp hq => ?_, fun q h1 h2 => ?_⟩
    · rw [en]; exact h.lt p hp
    · rw [en, en]; exact h.iff p q hp hq
    · rw [en]; exact h.far q h1 h2
theorem HGI.keep {hg : Nat → Nat} {P : Nat} (h : HGI hg P) {S E a b : Nat} (hS : S < 6) (hE : E < 6) (ha : a < 6) (hb : b < 6) (e : hg a = hg b) : hgM hg S E a = hgM hg S E b := by
  have t : ((hg S ||| hg E).testBit a = true) = ((hg S ||| hg E).testBit b = true) := propext (by rw [h.T hS hE ha, h.T hS hE hb, e])
  unfold hgM
  by_cases c : (hg S ||| hg E).testBit a = true
  · have c2 : (hg S ||| hg E).testBit b = true := t ▸ c
    by_cases d : S ≠ E ∧ hg S ≠ hg E
    · rw [if_pos ⟨d.1, d.2, c⟩, if_pos ⟨d.1, d.2, c2⟩]
    · rw [if_neg (fun z => d ⟨z.1, z.2.1⟩), if_neg (fun z => d ⟨z.1, z.2.1⟩), e]
  · have c2 : ¬ (hg S ||| hg E).testBit b = true := fun z => c (t ▸ z)
    rw [if_neg (fun z => c z.2.2), if_neg (fun z => c2 z.2.2), e]
theorem HGI.join {hg : Nat → Nat} {P : Nat} (h : HGI hg P) {S E : Nat} (hS : S < 6) (hE : E < 6) : hgM hg S E S = hgM hg S E E := by
  by_cases e : hg S = hg E
  · exact h.keep hS hE hS hE e
  · by_cases c : S = E
    · rw [c]
    · unfold hgM
      rw [if_pos ⟨c, e, (h.T hS hE hS).2 (Or.inl rfl)⟩, if_pos ⟨c, e, (h.T hS hE hE).2 (Or.inr rfl)⟩]
/-- the side that is noted parts what is left -/
theorem HGI.side {hg : Nat → Nat} {P : Nat} (h : HGI hg P) {s e ord sd : Nat → Nat} {R j : Nat} (h6 : ∀ i, j ≤ i → i < R → s (ord i) < 6 ∧ e (ord i) < 6) (hj : j < R) (hl : ∀ i, j < i → i < R → hg (s (ord i)) = hg (e (ord i))) (hsd : sd (ord j) = if s (ord j) = e (ord j) ∨ hg (s (ord j)) = hg (e (ord j)) then 0 else hg (e (ord j))) : sdOK s e ord sd R j := by
  obtain ⟨hS, hE⟩ := h6 j (Nat.le_refl j) hj
  unfold sdOK
  rw [hsd]
  by_cases c : s (ord j) = e (ord j) ∨ hg (s (ord j)) = hg (e (ord j))
  · rw [if_pos c]
    exact ⟨by decide, fun z => absurd rfl z⟩
  · rw [if_neg c]
    refine ⟨h.lt _ hE, fun _ => ⟨fun z => c (Or.inl z), (h.iff _ _ hE hE).2 rfl, ?_, fun i h1 h2 => ?_⟩⟩
    · cases hb : (hg (e (ord j))).testBit (s (ord j)) with
      | false => rfl
      | true => exact absurd (Or.inr ((h.iff _ _ hE hS).1 hb).symm) c
    · obtain ⟨i1, i2⟩ := h6 i (by omega) h2
      rw [Bool.eq_iff_iff, h.iff _ _ hE i1, h.iff _ _ hE i2, hl i h1 h2]
