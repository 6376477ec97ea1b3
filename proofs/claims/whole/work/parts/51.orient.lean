/-! pointed roads: what is reached; a road more, a road melted -/
def rch (n : Nat) (a b : Nat → Nat) (p q : Nat) : Prop := ∀ X : Nat → Prop, X p → (∀ i, i < n → X (a i) → X (b i)) → X q
theorem rch_rf {n : Nat} {a b : Nat → Nat} (p : Nat) : rch n a b p p := fun _ h _ => h
theorem rch_tr {n : Nat} {a b : Nat → Nat} {p q r : Nat} (h : rch n a b p q) (h2 : rch n a b q r) : rch n a b p r := fun X hp hc => h2 X (h X hp hc) hc
theorem rch_1 {n : Nat} {a b : Nat → Nat} {i : Nat} (hi : i < n) : rch n a b (a i) (b i) := fun _ h hc => hc i hi h
theorem rch_up {n m : Nat} {a b a' b' : Nat → Nat} (hm : n ≤ m) (he : ∀ i, i < n → a' i = a i ∧ b' i = b i) {p q : Nat} (h : rch n a b p q) : rch m a' b' p q := fun X hp hc => h X hp (fun i hi => by
  have := hc i (by omega)
  rw [(he i hi).1, (he i hi).2] at this
  exact this)
theorem rch_eq {n : Nat} {a b a' b' : Nat → Nat} (he : ∀ i, i < n → a' i = a i ∧ b' i = b i) {p q : Nat} : rch n a' b' p q ↔ rch n a b p q := ⟨rch_up (Nat.le_refl n) (fun i hi => ⟨(he i hi).1.symm, (he i hi).2.symm⟩), rch_up (Nat.le_refl n) he⟩
/-- a road more -/
theorem rch_add {n : Nat} {a b a' b' : Nat → Nat} (he : ∀ i, i < n → a' i = a i ∧ b' i = b i) {p q : Nat} : rch (n + 1) a' b' p q ↔ rch n a b p q ∨ (rch n a b p (a' n) ∧ rch n a b (b' n) q) := by
  constructor
  · intro h
    refine h (fun z => rch n a b p z ∨ (rch n a b p (a' n) ∧ rch n a b (b' n) z)) (Or.inl (rch_rf p)) (fun i hi hx => ?_)
    by_cases c : i = n
    · subst c
      rcases hx with hx | hx
      · exact Or.inr ⟨hx, rch_rf _⟩
      · exact Or.inr ⟨hx.1, rch_rf _⟩
    · rw [(he i (by omega)).1] at hx
      rw [(he i (by omega)).2]
      rcases hx with hx | hx
      · exact Or.inl (rch_tr hx (rch_1 (by omega)))
      · exact Or.inr ⟨hx.1, rch_tr hx.2 (rch_1 (by omega))⟩
  · rintro (h | ⟨h1, h2⟩)
    · exact rch_up (by omega) he h
    · exact rch_tr (rch_up (by omega) he h1) (rch_tr (rch_1 (i := n) (by omega)) (rch_up (by omega) he h2))
/-- c becomes d -/
def mlt (c d : Nat) (p : Nat) : Nat := if p = c then d else p
theorem mlt_eq {c d p q : Nat} (h : mlt c d p = mlt c d q) : p = q ∨ ((p = c ∨ p = d) ∧ (q = c ∨ q = d)) := by
  unfold mlt at h
  split at h <;> split at h
  · exact Or.inl (by omega)
  · exact Or.inr ⟨by omega, by omega⟩
  · exact Or.inr ⟨by omega, by omega⟩
  · exact Or.inl h
theorem rch_mlt {n : Nat} {a b : Nat → Nat} {c d p q : Nat} : rch n (fun i => mlt c d (a i)) (fun i => mlt c d (b i)) (mlt c d p) (mlt c d q) ↔ rch n a b p q ∨ ((rch n a b p c ∨ rch n a b p d) ∧ (rch n a b c q ∨ rch n a b d q)) := by
  have key : ∀ z w, (rch n a b p z ∨ ((rch n a b p c ∨ rch n a b p d) ∧ (rch n a b c z ∨ rch n a b d z))) → mlt c d z = mlt c d w → rch n a b p w ∨ ((rch n a b p c ∨ rch n a b p d) ∧ (rch n a b c w ∨ rch n a b d w)) := by
    intro z w hz e
    rcases mlt_eq e with rfl | ⟨h1, h2⟩
    · exact hz
    · refine Or.inr ⟨?_, ?_⟩
      · rcases hz with hz | hz
        · rcases h1 with rfl | rfl
          · exact Or.inl hz
          · exact Or.inr hz
        · exact hz.1
      · rcases h2 with rfl | rfl
        · exact Or.inl (rch_rf _)
        · exact Or.inr (rch_rf _)
  constructor
  · intro h
    obtain ⟨z, hz, hx⟩ := h (fun z' => ∃ z, mlt c d z = z' ∧ (rch n a b p z ∨ ((rch n a b p c ∨ rch n a b p d) ∧ (rch n a b c z ∨ rch n a b d z)))) ⟨p, rfl, Or.inl (rch_rf p)⟩ (fun i hi hx => by
      obtain ⟨z, hz, hx⟩ := hx
      refine ⟨b i, rfl, ?_⟩
      rcases key z (a i) hx hz with h1 | ⟨h1, h2⟩
      · exact Or.inl (rch_tr h1 (rch_1 hi))
      · refine Or.inr ⟨h1, ?_⟩
        rcases h2 with h2 | h2
        · exact Or.inl (rch_tr h2 (rch_1 hi))
        · exact Or.inr (rch_tr h2 (rch_1 hi)))
    exact key z q hx hz
  · have lift : ∀ {x y : Nat}, rch n a b x y → rch n (fun i => mlt c d (a i)) (fun i => mlt c d (b i)) (mlt c d x) (mlt c d y) := fun h X hx hc => h (fun z => X (mlt c d z)) hx hc
    have cd : mlt c d c = mlt c d d := by
      unfold mlt
      simp
    rintro (h | ⟨h1, h2⟩)
    · exact lift h
    · have l1 : rch n (fun i => mlt c d (a i)) (fun i => mlt c d (b i)) (mlt c d p) (mlt c d c) := by
        rcases h1 with h1 | h1
        · exact lift h1
        · rw [cd]; exact lift h1
      have l2 : rch n (fun i => mlt c d (a i)) (fun i => mlt c d (b i)) (mlt c d c) (mlt c d q) := by
        rcases h2 with h2 | h2
        · exact lift h2
        · rw [cd]; exact lift h2
      exact rch_tr l1 l2
theorem rch_road {n : Nat} {a b : Nat → Nat} {p q : Nat} (h : rch n a b p q) (hne : p ≠ q) : ∃ i, i < n ∧ rch n a b p (a i) ∧ rch n a b (b i) q := by
  have := h (fun z => p = z ∨ ∃ i, i < n ∧ rch n a b p (a i) ∧ rch n a b (b i) z) (Or.inl rfl) (fun i hi hx => by
    refine Or.inr ?_
    rcases hx with hx | ⟨j, hj, h1, h2⟩
    · exact ⟨i, hi, by rw [hx]; exact rch_rf _, rch_rf _⟩
    · exact ⟨j, hj, h1, rch_tr h2 (rch_1 hi)⟩)
  rcases this with h | h
  · exact absurd h hne
  · exact h
def acy (n : Nat) (a b : Nat → Nat) : Prop := ∀ i, i < n → ¬ rch n a b (b i) (a i)
def tot (n : Nat) (a b : Nat → Nat) : Prop := ∀ i, i < n → rch n a b (b i) (a i)
theorem acy_add {n : Nat} {a b a' b' : Nat → Nat} (he : ∀ i, i < n → a' i = a i ∧ b' i = b i) : acy (n + 1) a' b' ↔ acy n a b ∧ ¬ rch n a b (b' n) (a' n) := by
  constructor
  · intro h
    refine ⟨fun i hi z => ?_, fun z => h n (by omega) ((rch_add he).mpr (Or.inl z))⟩
    have := h i (by omega)
    rw [(he i hi).1, (he i hi).2] at this
    exact this ((rch_add he).mpr (Or.inl z))
  · rintro ⟨h1, h2⟩ i hi z
    rcases (rch_add he).mp z with z | ⟨z1, z2⟩
    · by_cases c : i = n
      · subst c
        exact h2 z
      · rw [(he i (by omega)).1, (he i (by omega)).2] at z
        exact h1 i (by omega) z
    · by_cases c : i = n
      · subst c
        exact h2 z1
      · rw [(he i (by omega)).2] at z1
        rw [(he i (by omega)).1] at z2
        exact h2 (rch_tr z2 (rch_tr (rch_1 (by omega)) z1))
theorem acy_mlt {n : Nat} {a b : Nat → Nat} {c d : Nat} (hne : c ≠ d) : acy n (fun i => mlt c d (a i)) (fun i => mlt c d (b i)) ↔ acy n a b ∧ ¬ rch n a b c d ∧ ¬ rch n a b d c := by
  constructor
  · intro h
    refine ⟨fun i hi z => h i hi (rch_mlt.mpr (Or.inl z)), fun z => ?_, fun z => ?_⟩
    · obtain ⟨i, hi, h1, h2⟩ := rch_road z hne
      exact h i hi (rch_mlt.mpr (Or.inr ⟨Or.inr h2, Or.inl h1⟩))
    · obtain ⟨i, hi, h1, h2⟩ := rch_road z (fun q => hne q.symm)
      exact h i hi (rch_mlt.mpr (Or.inr ⟨Or.inl h2, Or.inr h1⟩))
  · rintro ⟨h1, h2, h3⟩ i hi z
    have s1 : rch n a b (a i) (b i) := rch_1 hi
    rcases rch_mlt.mp z with z | ⟨z1 | z1, z2 | z2⟩
    · exact h1 i hi z
    · exact h1 i hi (rch_tr z1 z2)
    · exact h3 (rch_tr z2 (rch_tr s1 z1))
    · exact h2 (rch_tr z2 (rch_tr s1 z1))
    · exact h1 i hi (rch_tr z1 z2)
theorem acy_two {n : Nat} {a b : Nat → Nat} {c d : Nat} (hne : c ≠ d) (h : acy n a b) (h1 : rch n a b c d) (h2 : rch n a b d c) : False := by
  obtain ⟨i, hi, z1, z2⟩ := rch_road h1 hne
  exact h i hi (rch_tr z2 (rch_tr h2 z1))
/-- both ways of the last road, against without it and with it melted -/
theorem acy_cnt {n : Nat} {a b a1 b1 a2 b2 : Nat → Nat} {c d : Nat} (hne : c ≠ d) (h1 : ∀ i, i < n → a1 i = a i ∧ b1 i = b i) (h2 : ∀ i, i < n → a2 i = a i ∧ b2 i = b i) (e1 : a1 n = c ∧ b1 n = d) (e2 : a2 n = d ∧ b2 n = c) : pb (acy (n + 1) a1 b1) + pb (acy (n + 1) a2 b2) = pb (acy n a b) + pb (acy n (fun i => mlt c d (a i)) (fun i => mlt c d (b i))) := by
  have x1 : acy (n + 1) a1 b1 ↔ acy n a b ∧ ¬ rch n a b d c := by rw [acy_add h1, e1.1, e1.2]
  have x2 : acy (n + 1) a2 b2 ↔ acy n a b ∧ ¬ rch n a b c d := by rw [acy_add h2, e2.1, e2.2]
  have x3 := acy_mlt (n := n) (a := a) (b := b) hne
  rw [pb_iff x1, pb_iff x2, pb_iff x3]
  by_cases q : acy n a b
  · by_cases c1 : rch n a b c d <;> by_cases c2 : rch n a b d c
    · exact (acy_two hne q c1 c2).elim
    · rw [pb_t ⟨q, c2⟩, pb_f (fun z => z.2 c1), pb_t q, pb_f (fun z => z.2.1 c1)]
    · rw [pb_f (fun z => z.2 c2), pb_t ⟨q, c1⟩, pb_t q, pb_f (fun z => z.2.2 c2)]
    · rw [pb_t ⟨q, c2⟩, pb_t ⟨q, c1⟩, pb_t q, pb_t ⟨q, c1, c2⟩]
  · rw [pb_f (fun z => q z.1), pb_f (fun z => q z.1), pb_f q, pb_f (fun z => q z.1)]
theorem acy_loop {n : Nat} {a b : Nat → Nat} (h : a n = b n) : ¬ acy (n + 1) a b := fun z => z n (by omega) (by rw [h]; exact rch_rf _)
theorem tot_add {n : Nat} {a b a' b' : Nat → Nat} (he : ∀ i, i < n → a' i = a i ∧ b' i = b i) : tot (n + 1) a' b' ↔ (∀ i, i < n → rch n a b (b i) (a i) ∨ (rch n a b (b i) (a' n) ∧ rch n a b (b' n) (a i))) ∧ rch n a b (b' n) (a' n) := by
  constructor
  · intro h
    refine ⟨fun i hi => ?_, ?_⟩
    · have := h i (by omega)
      rw [(he i hi).1, (he i hi).2] at this
      exact (rch_add he).mp this
    · rcases (rch_add he).mp (h n (by omega)) with z | z
      · exact z
      · exact z.1
  · rintro ⟨h1, h2⟩ i hi
    by_cases c : i = n
    · subst c
      exact (rch_add he).mpr (Or.inl h2)
    · rw [(he i (by omega)).1, (he i (by omega)).2]
      exact (rch_add he).mpr (h1 i (by omega))
theorem tot_cnt {n : Nat} {a b a1 b1 a2 b2 : Nat → Nat} {c d : Nat} (hu : tot n a b → rch n a b c d ∧ rch n a b d c) (h1 : ∀ i, i < n → a1 i = a i ∧ b1 i = b i) (h2 : ∀ i, i < n → a2 i = a i ∧ b2 i = b i) (e1 : a1 n = c ∧ b1 n = d) (e2 : a2 n = d ∧ b2 n = c) : pb (tot (n + 1) a1 b1) + pb (tot (n + 1) a2 b2) = pb (tot n a b) + pb (tot n (fun i => mlt c d (a i)) (fun i => mlt c d (b i))) := by
  have x1 := tot_add (n := n) h1
  have x2 := tot_add (n := n) h2
  rw [e1.1, e1.2] at x1
  rw [e2.1, e2.2] at x2
  have x3 : tot n (fun i => mlt c d (a i)) (fun i => mlt c d (b i)) ↔ ∀ i, i < n → (rch n a b (b i) (a i) ∨ ((rch n a b (b i) c ∨ rch n a b (b i) d) ∧ (rch n a b c (a i) ∨ rch n a b d (a i)))) := ⟨fun h i hi => rch_mlt.mp (h i hi), fun h i hi => rch_mlt.mpr (h i hi)⟩
  rw [pb_iff x1, pb_iff x2, pb_iff x3]
  by_cases q : tot n a b
  · obtain ⟨hc, hd⟩ := hu q
    rw [pb_t ⟨fun i hi => Or.inl (q i hi), hd⟩, pb_t ⟨fun i hi => Or.inl (q i hi), hc⟩, pb_t q, pb_t (fun i hi => Or.inl (q i hi))]
  · rw [pb_f q]
    by_cases v : ∀ i, i < n → (rch n a b (b i) (a i) ∨ ((rch n a b (b i) c ∨ rch n a b (b i) d) ∧ (rch n a b c (a i) ∨ rch n a b d (a i))))
    · rw [pb_t v]
      obtain ⟨i, hi, hn⟩ : ∃ i, i < n ∧ ¬ rch n a b (b i) (a i) := Classical.byContradiction fun z => q (fun i hi => Classical.byContradiction fun y => z ⟨i, hi, y⟩)
      have s1 : rch n a b (a i) (b i) := rch_1 hi
      rcases v i hi with z | ⟨z1 | z1, z2 | z2⟩
      · exact absurd z hn
      · exact absurd (rch_tr z1 z2) hn
      · have dc : rch n a b d c := rch_tr z2 (rch_tr s1 z1)
        have ncd : ¬ rch n a b c d := fun z => hn (rch_tr z1 (rch_tr z z2))
        have hx : (∀ i, i < n → rch n a b (b i) (a i) ∨ (rch n a b (b i) c ∧ rch n a b d (a i))) ∧ rch n a b d c := by
          refine ⟨fun k hk => ?_, dc⟩
          rcases v k hk with y | ⟨y1 | y1, y2 | y2⟩
          · exact Or.inl y
          · exact Or.inr ⟨y1, rch_tr dc y2⟩
          · exact Or.inr ⟨y1, y2⟩
          · exact Or.inr ⟨rch_tr y1 dc, rch_tr dc y2⟩
          · exact Or.inr ⟨rch_tr y1 dc, y2⟩
        have hy : ¬ ((∀ i, i < n → rch n a b (b i) (a i) ∨ (rch n a b (b i) d ∧ rch n a b c (a i))) ∧ rch n a b c d) := fun z => ncd z.2
        rw [pb_t hx, pb_f hy]
      · have cd : rch n a b c d := rch_tr z2 (rch_tr s1 z1)
        have ndc : ¬ rch n a b d c := fun z => hn (rch_tr z1 (rch_tr z z2))
        have hx : ¬ ((∀ i, i < n → rch n a b (b i) (a i) ∨ (rch n a b (b i) c ∧ rch n a b d (a i))) ∧ rch n a b d c) := fun z => ndc z.2
        have hy : (∀ i, i < n → rch n a b (b i) (a i) ∨ (rch n a b (b i) d ∧ rch n a b c (a i))) ∧ rch n a b c d := by
          refine ⟨fun k hk => ?_, cd⟩
          rcases v k hk with y | ⟨y1 | y1, y2 | y2⟩
          · exact Or.inl y
          · exact Or.inr ⟨rch_tr y1 cd, y2⟩
          · exact Or.inr ⟨rch_tr y1 cd, rch_tr cd y2⟩
          · exact Or.inr ⟨y1, y2⟩
          · exact Or.inr ⟨y1, rch_tr cd y2⟩
        rw [pb_f hx, pb_t hy]
      · exact absurd (rch_tr z1 z2) hn
    · rw [pb_f v, pb_f, pb_f]
      · exact fun z => v (fun i hi => (z.1 i hi).imp id (fun y => ⟨Or.inr y.1, Or.inl y.2⟩))
      · exact fun z => v (fun i hi => (z.1 i hi).imp id (fun y => ⟨Or.inl y.1, Or.inr y.2⟩))
theorem tot_loop {n : Nat} {a b a' b' : Nat → Nat} (he : ∀ i, i < n → a' i = a i ∧ b' i = b i) (h : a' n = b' n) : tot (n + 1) a' b' ↔ tot n a b := by
  rw [tot_add he, h]
  constructor
  · rintro ⟨h1, -⟩ i hi
    rcases h1 i hi with z | z
    · exact z
    · exact rch_tr z.1 z.2
  · exact fun z => ⟨fun i hi => Or.inl (z i hi), rch_rf _⟩
/-- tails and heads, by the bits of turned roads -/
def tl (s e : Nat → Nat) (t : Nat) (i : Nat) : Nat := if t.testBit i = true then e i else s i
def hd (s e : Nat → Nat) (t : Nat) (i : Nat) : Nat := if t.testBit i = true then s i else e i
noncomputable def cA (s e : Nat → Nat) (n : Nat) : Nat := cn (fun t => acy n (tl s e t) (hd s e t)) (2 ^ n)
noncomputable def cT (s e : Nat → Nat) (n : Nat) : Nat := cn (fun t => tot n (tl s e t) (hd s e t)) (2 ^ n)
theorem cn_s (f : Nat → Prop) (n : Nat) : cn f (n + 1) = cn f n + pb (f n) := rfl
theorem cn_split (f : Nat → Prop) (m : Nat) : ∀ n, cn f (m + n) = cn f m + cn (fun t => f (m + t)) n
  | 0 => rfl
  | n + 1 => by
    rw [← Nat.add_assoc, cn_s, cn_s, cn_split f m n]
    omega
theorem cn_add {f g f' g' : Nat → Prop} : ∀ {n : Nat}, (∀ t, t < n → pb (f t) + pb (g t) = pb (f' t) + pb (g' t)) → cn f n + cn g n = cn f' n + cn g' n
  | 0, _ => rfl
  | n + 1, h => by
    have ih := cn_add (n := n) (fun t ht => h t (by omega))
    have := h n (by omega)
    rw [cn_s, cn_s, cn_s, cn_s]
    omega
theorem th_same {s e : Nat → Nat} {t n : Nat} : ∀ i, i < n → tl s e (2 ^ n + t) i = tl s e t i ∧ hd s e (2 ^ n + t) i = hd s e t i := by
  intro i hi
  unfold tl hd
  rw [Nat.testBit_two_pow_add_gt hi]
  exact ⟨rfl, rfl⟩
theorem th_0 {s e : Nat → Nat} {t n : Nat} (h : t < 2 ^ n) : tl s e t n = s n ∧ hd s e t n = e n := by
  unfold tl hd
  rw [Nat.testBit_lt_two_pow h]
  simp
theorem th_1 {s e : Nat → Nat} {t n : Nat} (h : t < 2 ^ n) : tl s e (2 ^ n + t) n = e n ∧ hd s e (2 ^ n + t) n = s n := by
  unfold tl hd
  rw [Nat.testBit_two_pow_add_eq, Nat.testBit_lt_two_pow h]
  simp
theorem th_mlt {s e : Nat → Nat} {t c d : Nat} : tl (fun i => mlt c d (s i)) (fun i => mlt c d (e i)) t = (fun i => mlt c d (tl s e t i)) ∧ hd (fun i => mlt c d (s i)) (fun i => mlt c d (e i)) t = (fun i => mlt c d (hd s e t i)) := by
  constructor
  · funext i
    unfold tl
    split <;> rfl
  · funext i
    unfold hd
    split <;> rfl
theorem cA_step {s e : Nat → Nat} {n : Nat} (h : s n ≠ e n) : cA s e (n + 1) = cA s e n + cA (fun i => mlt (s n) (e n) (s i)) (fun i => mlt (s n) (e n) (e i)) n := by
  unfold cA
  rw [Nat.pow_succ, Nat.mul_two, cn_split]
  refine cn_add (fun t ht => ?_)
  rw [th_mlt.1, th_mlt.2]
  exact acy_cnt h (fun i _ => ⟨rfl, rfl⟩) th_same (th_0 ht) (th_1 ht)
theorem cn_0 {f : Nat → Prop} : ∀ {n : Nat}, (∀ t, t < n → ¬ f t) → cn f n = 0
  | 0, _ => rfl
  | n + 1, h => by
    rw [cn_n (h n (by omega)), cn_0 (fun t ht => h t (by omega))]
theorem cA_loop {s e : Nat → Nat} {n : Nat} (h : s n = e n) : cA s e (n + 1) = 0 := by
  refine cn_0 (fun t _ => acy_loop ?_)
  unfold tl hd
  split
  · exact h.symm
  · exact h
theorem cT_loop {s e : Nat → Nat} {n : Nat} (h : s n = e n) : cT s e (n + 1) = 2 * cT s e n := by
  unfold cT
  rw [Nat.pow_succ, Nat.mul_two, cn_split]
  have e1 : cn (fun t => tot (n + 1) (tl s e t) (hd s e t)) (2 ^ n) = cn (fun t => tot n (tl s e t) (hd s e t)) (2 ^ n) := cn_eq (fun t ht => tot_loop (fun i _ => ⟨rfl, rfl⟩) (by rw [(th_0 ht).1, (th_0 ht).2]; exact h))
  have e2 : cn (fun t => tot (n + 1) (tl s e (2 ^ n + t)) (hd s e (2 ^ n + t))) (2 ^ n) = cn (fun t => tot n (tl s e t) (hd s e t)) (2 ^ n) := cn_eq (fun t ht => tot_loop th_same (by rw [(th_1 ht).1, (th_1 ht).2]; exact h.symm))
  rw [e1, e2]
  omega
/-- a set that no road leaves or enters is made of whole pieces -/
theorem lb_cls {s e : Nat → Nat} {S : Nat} {X : Nat → Prop} : ∀ {n : Nat}, (∀ i, i < n → S.testBit i = true → (X (s i) ↔ X (e i))) → ∀ {p q : Nat}, lb s e S n p = lb s e S n q → (X p ↔ X q)
  | 0, _, p, q, h => by
    have h : p = q := h
    rw [h]
  | n + 1, hX, p, q, h => by
    have ih := fun {p q : Nat} (h : lb s e S n p = lb s e S n q) => lb_cls (n := n) (fun i hi => hX i (by omega)) h
    by_cases c : S.testBit n = true
    · have hn := hX n (by omega) c
      rw [lb_mrg c] at h
      unfold mrg at h
      by_cases h1 : lb s e S n p = lb s e S n (s n) <;> by_cases h2 : lb s e S n q = lb s e S n (s n)
      · exact ih (h1.trans h2.symm)
      · rw [if_pos h1, if_neg h2] at h
        exact (ih h1).trans (hn.trans (ih h))
      · rw [if_neg h1, if_pos h2] at h
        exact (ih h).trans (hn.symm.trans (ih h2).symm)
      · rw [if_neg h1, if_neg h2] at h
        exact ih h
    · have c : S.testBit n = false := by simpa using c
      obtain ⟨o1, -⟩ := lb_off (s := s) (e := e) c
      rw [o1, o1] at h
      exact ih h
theorem tot_sym {s e : Nat → Nat} {n t : Nat} (h : tot n (tl s e t) (hd s e t)) {p q : Nat} (hl : lb s e (2 ^ n - 1) n p = lb s e (2 ^ n - 1) n q) : rch n (tl s e t) (hd s e t) p q := by
  refine (lb_cls (X := fun z => rch n (tl s e t) (hd s e t) p z) (fun i hi _ => ?_) hl).mp (rch_rf p)
  have h1 := h i hi
  have h2 : rch n (tl s e t) (hd s e t) (tl s e t i) (hd s e t i) := rch_1 hi
  unfold tl hd at h1 h2 ⊢
  by_cases c : t.testBit i = true
  · simp only [c, if_true] at h1 h2
    exact ⟨fun z => rch_tr z h1, fun z => rch_tr z h2⟩
  · simp only [c, if_false] at h1 h2
    exact ⟨fun z => rch_tr z h2, fun z => rch_tr z h1⟩
theorem cT_step {s e : Nat → Nat} {n : Nat} (h : lb s e (2 ^ n - 1) n (s n) = lb s e (2 ^ n - 1) n (e n)) : cT s e (n + 1) = cT s e n + cT (fun i => mlt (s n) (e n) (s i)) (fun i => mlt (s n) (e n) (e i)) n := by
  unfold cT
  rw [Nat.pow_succ, Nat.mul_two, cn_split]
  refine cn_add (fun t ht => ?_)
  rw [th_mlt.1, th_mlt.2]
  exact tot_cnt (fun z => ⟨tot_sym z h, tot_sym z h.symm⟩) (fun i _ => ⟨rfl, rfl⟩) th_same (th_0 ht) (th_1 ht)
theorem rch_lb {s e : Nat → Nat} {n t p q : Nat} (h : rch n (tl s e t) (hd s e t) p q) : lb s e (2 ^ n - 1) n p = lb s e (2 ^ n - 1) n q := by
  refine h (fun z => lb s e (2 ^ n - 1) n p = lb s e (2 ^ n - 1) n z) rfl (fun i hi hx => ?_)
  have hj := lb_join (s := s) (e := e) (S := 2 ^ n - 1) hi (by rw [all_bit]; exact decide_eq_true hi)
  unfold tl at hx
  unfold hd
  by_cases c : t.testBit i = true
  · rw [if_pos c] at hx ⊢
    rw [hx, hj]
  · rw [if_neg c] at hx ⊢
    rw [hx, hj]
theorem cT_bridge {s e : Nat → Nat} {n : Nat} (h : lb s e (2 ^ n - 1) n (s n) ≠ lb s e (2 ^ n - 1) n (e n)) : cT s e (n + 1) = 0 := by
  unfold cT
  rw [Nat.pow_succ, Nat.mul_two, cn_split, cn_0, cn_0]
  · intro t ht z
    have := ((tot_add (a' := tl s e (2 ^ n + t)) (b' := hd s e (2 ^ n + t)) th_same).mp z).2
    rw [(th_1 ht).1, (th_1 ht).2] at this
    exact h (rch_lb this)
  · intro t ht z
    have := ((tot_add (a' := tl s e t) (b' := hd s e t) (fun i _ => ⟨rfl, rfl⟩)).mp z).2
    rw [(th_0 ht).1, (th_0 ht).2] at this
    exact h (rch_lb this).symm
