/-! NOWHERES: how many, by steps; pure facts -/
def vl (t : Nat) : Int := if t % 2 = 0 then ((t / 2 + 1 : Nat) : Int) else -((t / 2 + 1 : Nat) : Int)
def dl (s e : Nat → Nat) (r : Nat) (v : Int) (p : Nat) : Int := (if e r = p then v else 0) - (if s r = p then v else 0)
def ap (s e : Nat → Nat) (r : Nat) (v : Int) (g : Nat → Int) : Nat → Int := fun p => g p + dl s e r v p
/-- in how many ways can the roads ord j .. ord (j + m - 1) have numbers, so that no post is off in the end -/
noncomputable def NC (s e : Nat → Nat) (T : Nat) (ord : Nat → Nat) : Nat → Nat → (Nat → Int) → Nat
  | 0, _, g => pb (∀ p, p < 6 → g p = 0)
  | m + 1, j, g => nsum (fun t => NC s e T ord m (j + 1) (ap s e (ord j) (vl t) g)) T
theorem vl_rng {t k : Nat} (h : t < 2 * (k - 1)) : vl t ≠ 0 ∧ -((k - 1 : Nat) : Int) ≤ vl t ∧ vl t ≤ ((k - 1 : Nat) : Int) := by
  unfold vl
  split <;> omega
theorem vl_ex {v : Int} {k : Nat} (h0 : v ≠ 0) (h1 : -((k - 1 : Nat) : Int) ≤ v) (h2 : v ≤ ((k - 1 : Nat) : Int)) : ∃ t, t < 2 * (k - 1) ∧ vl t = v := by
  by_cases c : 0 < v
  · refine ⟨2 * (v.toNat - 1), by omega, ?_⟩
    unfold vl
    rw [if_pos (by omega)]
    omega
  · refine ⟨2 * ((-v).toNat - 1) + 1, by omega, ?_⟩
    unfold vl
    rw [if_neg (by omega)]
    omega
theorem vl_inj {t t' : Nat} (h : vl t = vl t') : t = t' := by
  unfold vl at h
  split at h <;> split at h <;> omega
theorem nsum_0 {f : Nat → Nat} : ∀ {n : Nat}, (∀ i, i < n → f i = 0) → nsum f n = 0
  | 0, _ => rfl
  | n + 1, h => by
    rw [nsum, nsum_0 (fun i hi => h i (by omega)), h n (by omega)]
theorem nsum_1 {f : Nat → Nat} {k : Nat} : ∀ {n : Nat}, k < n → (∀ i, i < n → i ≠ k → f i = 0) → nsum f n = f k
  | 0, h, _ => absurd h (Nat.not_lt_zero k)
  | n + 1, h, h0 => by
    rw [nsum]
    by_cases c : k = n
    · subst c
      rw [nsum_0 (fun i hi => h0 i (by omega) (by omega))]
      omega
    · rw [nsum_1 (by omega) (fun i hi hik => h0 i (by omega) hik), h0 n (by omega) (fun z => c z.symm)]
      rfl
theorem nsum_c (c : Nat) : ∀ n, nsum (fun _ => c) n = n * c
  | 0 => by rw [nsum, Nat.zero_mul]
  | n + 1 => by rw [nsum, nsum_c c n, Nat.succ_mul]
theorem NC_congr {s e : Nat → Nat} {T : Nat} {ord : Nat → Nat} : ∀ {m j : Nat} {g g' : Nat → Int}, (∀ p, p < 6 → g p = g' p) → NC s e T ord m j g = NC s e T ord m j g'
  | 0, j, g, g', h => by
    rw [NC, NC]
    exact pb_iff ⟨fun z p hp => by rw [← h p hp]; exact z p hp, fun z p hp => by rw [h p hp]; exact z p hp⟩
  | m + 1, j, g, g', h => by
    rw [NC, NC]
    refine nsum_eq (fun t _ => NC_congr (fun p hp => ?_))
    unfold ap
    rw [h p hp]
theorem dl_loop {s e : Nat → Nat} {r : Nat} (h : s r = e r) (v : Int) (p : Nat) : dl s e r v p = 0 := by
  unfold dl
  rw [h]
  omega
theorem NC_loop {s e : Nat → Nat} {T : Nat} {ord : Nat → Nat} {m j : Nat} {g : Nat → Int} (h : s (ord j) = e (ord j)) : NC s e T ord (m + 1) j g = T * NC s e T ord m (j + 1) g := by
  rw [NC, ← nsum_c]
  refine nsum_eq (fun t _ => NC_congr (fun p _ => ?_))
  unfold ap
  rw [dl_loop h]
  omega
/-- what the roads to come bring to a post -/
def fut (s e : Nat → Nat) (ord τ : Nat → Nat) (j p : Nat) : Nat → Int := bsum (fun i => dl s e (ord (j + i)) (vl (τ (j + i))) p)
theorem bsum_sh (f : Nat → Int) : ∀ n, bsum f (n + 1) = f 0 + bsum (fun i => f (i + 1)) n
  | 0 => by
    rw [bsum, bsum, bsum]
    omega
  | n + 1 => by
    rw [bsum, bsum_sh f n, bsum]
    omega
theorem fut_s (s e : Nat → Nat) (ord τ : Nat → Nat) (j p m : Nat) : fut s e ord τ j p (m + 1) = dl s e (ord j) (vl (τ j)) p + fut s e ord τ (j + 1) p m := by
  unfold fut
  rw [bsum_sh]
  congr 1
  refine bsum_eq (fun i _ => ?_)
  rw [show j + (i + 1) = j + 1 + i by omega]
theorem fut_eq {s e : Nat → Nat} {ord τ τ' : Nat → Nat} {j p m : Nat} (h : ∀ i, j ≤ i → i < j + m → τ i = τ' i) : fut s e ord τ j p m = fut s e ord τ' j p m := by
  unfold fut
  refine bsum_eq (fun i hi => ?_)
  rw [h (j + i) (by omega) (by omega)]
theorem NC_iff {s e : Nat → Nat} {T : Nat} {ord : Nat → Nat} : ∀ {m j : Nat} {g : Nat → Int}, (0 < NC s e T ord m j g ↔ ∃ τ : Nat → Nat, (∀ i, j ≤ i → i < j + m → τ i < T) ∧ ∀ p, p < 6 → g p + fut s e ord τ j p m = 0)
  | 0, j, g => by
    rw [NC]
    constructor
    · intro h
      have := pb_1 (p := ∀ p, p < 6 → g p = 0) (by omega)
      refine ⟨fun _ => 0, fun i h1 h2 => by omega, fun p hp => ?_⟩
      rw [this p hp]
      rfl
    · rintro ⟨τ, -, h2⟩
      rw [pb_t (fun p hp => by have := h2 p hp; unfold fut at this; rw [bsum] at this; omega)]
      omega
  | m + 1, j, g => by
    rw [NC]
    constructor
    · intro h
      obtain ⟨t, ht, hp⟩ := nsum_pos h
      obtain ⟨τ, t1, t2⟩ := NC_iff.mp hp
      refine ⟨fun i => if i = j then t else τ i, fun i h1 h2 => ?_, fun p hp => ?_⟩
      · show (if i = j then t else τ i) < T
        by_cases c : i = j
        · rw [if_pos c]; exact ht
        · rw [if_neg c]; exact t1 i (by omega) (by omega)
      · have := t2 p hp
        rw [fut_s, if_pos rfl, fut_eq (τ' := τ) (fun i h1 _ => if_neg (by omega))]
        unfold ap at this
        omega
    · rintro ⟨τ, t1, t2⟩
      have : 0 < NC s e T ord m (j + 1) (ap s e (ord j) (vl (τ j)) g) := NC_iff.mpr ⟨τ, fun i h1 h2 => t1 i (by omega) (by omega), fun p hp => by
        have := t2 p hp
        rw [fut_s] at this
        unfold ap
        omega⟩
      have h2 := nsum_ge (f := fun t => NC s e T ord m (j + 1) (ap s e (ord j) (vl t) g)) (t1 j (by omega) (by omega))
      exact Nat.lt_of_lt_of_le this h2
theorem NC_le {s e : Nat → Nat} {T : Nat} {ord : Nat → Nat} : ∀ {m j : Nat} {g : Nat → Int}, NC s e T ord m j g ≤ T ^ m
  | 0, j, g => by
    rw [NC]
    exact pb_le _
  | m + 1, j, g => by
    rw [NC, Nat.pow_succ]
    exact nsum_le (fun t _ => NC_le)
/-- how many roads to come, no loops, a post has; c counts each road's ends -/
def ltr (s e : Nat → Nat) (ord : Nat → Nat) (j p : Nat) : Nat → Nat := nsum (fun i => if s (ord (j + i)) = e (ord (j + i)) then 0 else own s e (ord (j + i)) p)
theorem nsum_sh (f : Nat → Nat) : ∀ n, nsum f (n + 1) = f 0 + nsum (fun i => f (i + 1)) n
  | 0 => by
    rw [nsum, nsum, nsum]
    omega
  | n + 1 => by
    rw [nsum, nsum_sh f n, nsum]
    omega
theorem ltr_s (s e : Nat → Nat) (ord : Nat → Nat) (j p m : Nat) : ltr s e ord j p (m + 1) = (if s (ord j) = e (ord j) then 0 else own s e (ord j) p) + ltr s e ord (j + 1) p m := by
  unfold ltr
  rw [nsum_sh]
  congr 1
  refine nsum_eq (fun i _ => ?_)
  rw [show j + (i + 1) = j + 1 + i by omega]
theorem dl_abs {s e : Nat → Nat} {r k t p : Nat} (h : t < 2 * (k - 1)) : dl s e r (vl t) p ≤ (k - 1 : Nat) * ((if s r = e r then 0 else own s e r p : Nat) : Int) ∧ -((k - 1 : Nat) * ((if s r = e r then 0 else own s e r p : Nat) : Int)) ≤ dl s e r (vl t) p := by
  obtain ⟨-, v1, v2⟩ := vl_rng h
  unfold dl own
  by_cases c : s r = e r
  · rw [if_pos c, c]
    omega
  · rw [if_neg c]
    by_cases c1 : s r = p <;> by_cases c2 : e r = p
    · omega
    · rw [if_pos c1, if_neg c2, if_pos c1, if_neg c2]
      omega
    · rw [if_neg c1, if_pos c2, if_neg c1, if_pos c2]
      omega
    · rw [if_neg c1, if_neg c2, if_neg c1, if_neg c2]
      omega
/-- a surplus that the roads to come can't take -/
theorem fut_abs {s e : Nat → Nat} {ord τ : Nat → Nat} {k p : Nat} : ∀ {m j : Nat}, (∀ i, j ≤ i → i < j + m → τ i < 2 * (k - 1)) → fut s e ord τ j p m ≤ (k - 1 : Nat) * (ltr s e ord j p m : Int) ∧ -((k - 1 : Nat) * (ltr s e ord j p m : Int)) ≤ fut s e ord τ j p m
  | 0, j, _ => by
    show (0 : Int) ≤ (k - 1 : Nat) * ((0 : Nat) : Int) ∧ -((k - 1 : Nat) * ((0 : Nat) : Int)) ≤ (0 : Int)
    simp
  | m + 1, j, h => by
    obtain ⟨i1, i2⟩ := fut_abs (s := s) (e := e) (ord := ord) (τ := τ) (k := k) (p := p) (m := m) (j := j + 1) (fun i h1 h2 => h i (by omega) (by omega))
    obtain ⟨d1, d2⟩ := dl_abs (s := s) (e := e) (r := ord j) (k := k) (p := p) (h j (by omega) (by omega))
    rw [fut_s, ltr_s, Int.natCast_add, Int.mul_add]
    omega
theorem NC_far {s e : Nat → Nat} {ord : Nat → Nat} {k m j p : Nat} {g : Nat → Int} (hp : p < 6) (h : g p > (k - 1 : Nat) * (ltr s e ord j p m : Int) ∨ g p < -((k - 1 : Nat) * (ltr s e ord j p m : Int))) : NC s e (2 * (k - 1)) ord m j g = 0 := by
  refine Classical.byContradiction fun z => ?_
  obtain ⟨τ, t1, t2⟩ := NC_iff.mp (show 0 < NC s e (2 * (k - 1)) ord m j g by omega)
  have := t2 p hp
  obtain ⟨h1, h2⟩ := fut_abs (s := s) (e := e) (ord := ord) (p := p) t1
  omega
theorem fut_none {s e : Nat → Nat} {ord τ : Nat → Nat} {p : Nat} : ∀ {m j : Nat}, ltr s e ord j p m = 0 → fut s e ord τ j p m = 0
  | 0, j, _ => rfl
  | m + 1, j, h => by
    rw [ltr_s] at h
    have i1 := fut_none (s := s) (e := e) (ord := ord) (τ := τ) (p := p) (m := m) (j := j + 1) (by omega)
    have h1 : (if s (ord j) = e (ord j) then 0 else own s e (ord j) p) = 0 := by omega
    rw [fut_s, i1]
    unfold own at h1
    unfold dl
    by_cases c : s (ord j) = e (ord j)
    · rw [c]
      omega
    · rw [if_neg c] at h1
      by_cases c1 : s (ord j) = p <;> by_cases c2 : e (ord j) = p
      · omega
      · rw [if_pos c1] at h1
        omega
      · rw [if_pos c2] at h1
        omega
      · rw [if_neg c1, if_neg c2]
        omega
theorem fut_single {s e : Nat → Nat} {ord τ : Nat → Nat} {k p : Nat} : ∀ {m j : Nat}, (∀ i, j ≤ i → i < j + m → τ i < 2 * (k - 1)) → ltr s e ord j p m = 1 → fut s e ord τ j p m ≠ 0
  | 0, j, _, h => by
    have h : (0 : Nat) = 1 := h
    omega
  | m + 1, j, ht, h => by
    obtain ⟨v0, -, -⟩ := vl_rng (ht j (by omega) (by omega))
    rw [ltr_s] at h
    rw [fut_s]
    by_cases c : s (ord j) = e (ord j)
    · rw [if_pos c] at h
      rw [dl_loop c]
      have := fut_single (s := s) (e := e) (ord := ord) (τ := τ) (k := k) (p := p) (m := m) (j := j + 1) (fun i h1 h2 => ht i (by omega) (by omega)) (by omega)
      omega
    · rw [if_neg c] at h
      by_cases c1 : s (ord j) = p <;> by_cases c2 : e (ord j) = p
      · omega
      · have ho : own s e (ord j) p = 1 := by unfold own; rw [if_pos c1, if_neg c2]
        rw [fut_none (by omega)]
        unfold dl
        rw [if_pos c1, if_neg c2]
        omega
      · have ho : own s e (ord j) p = 1 := by unfold own; rw [if_neg c1, if_pos c2]
        rw [fut_none (by omega)]
        unfold dl
        rw [if_neg c1, if_pos c2]
        omega
      · have ho : own s e (ord j) p = 0 := by unfold own; rw [if_neg c1, if_neg c2]
        have := fut_single (s := s) (e := e) (ord := ord) (τ := τ) (k := k) (p := p) (m := m) (j := j + 1) (fun i h1 h2 => ht i (by omega) (by omega)) (by omega)
        unfold dl
        rw [if_neg c1, if_neg c2]
        omega
/-- a last road can't be nought -/
theorem NC_last {s e : Nat → Nat} {ord : Nat → Nat} {k m j p : Nat} {g : Nat → Int} (hp : p < 6) (h0 : g p = 0) (h1 : ltr s e ord j p m = 1) : NC s e (2 * (k - 1)) ord m j g = 0 := by
  refine Classical.byContradiction fun z => ?_
  obtain ⟨τ, t1, t2⟩ := NC_iff.mp (show 0 < NC s e (2 * (k - 1)) ord m j g by omega)
  have := t2 p hp
  exact fut_single t1 h1 (by omega)
/-- sums over a set of posts -/
def csum (C : Nat) (g : Nat → Int) : Int := bsum (fun p => if C.testBit p = true then g p else 0) 6
theorem csum_add (C : Nat) (g h : Nat → Int) : csum C (fun p => g p + h p) = csum C g + csum C h := by
  unfold csum
  rw [← bsum_add]
  refine bsum_eq (fun p _ => ?_)
  show (if C.testBit p = true then g p + h p else 0) = (if C.testBit p = true then g p else 0) + (if C.testBit p = true then h p else 0)
  split <;> omega
theorem csum_dl {s e : Nat → Nat} {r : Nat} (v : Int) (C : Nat) (hs : s r < 6) (he : e r < 6) : csum C (dl s e r v) = (if C.testBit (e r) = true then v else 0) - (if C.testBit (s r) = true then v else 0) := by
  have e1 : csum C (dl s e r v) = bsum (fun p => (if e r = p then (if C.testBit p = true then v else 0) else 0) + (if s r = p then (if C.testBit p = true then -v else 0) else 0)) 6 := by
    refine bsum_eq (fun p _ => ?_)
    unfold dl
    split <;> split <;> split <;> omega
  rw [e1, bsum_add, bsum_one (fun p => if C.testBit p = true then v else 0) he, bsum_one (fun p => if C.testBit p = true then -v else 0) hs]
  split <;> split <;> omega
theorem csum_fut {s e : Nat → Nat} {ord τ : Nat → Nat} {C : Nat} : ∀ {m j : Nat}, (∀ i, j ≤ i → i < j + m → s (ord i) < 6 ∧ e (ord i) < 6 ∧ C.testBit (s (ord i)) = C.testBit (e (ord i))) → csum C (fun p => fut s e ord τ j p m) = 0
  | 0, j, _ => bsum_0 (fun p _ => by
    show (if C.testBit p = true then (0 : Int) else 0) = 0
    split <;> rfl)
  | m + 1, j, h => by
    have ih := csum_fut (s := s) (e := e) (ord := ord) (τ := τ) (C := C) (m := m) (j := j + 1) (fun i h1 h2 => h i (by omega) (by omega))
    obtain ⟨h1, h2, h3⟩ := h j (by omega) (by omega)
    have e1 : csum C (fun p => fut s e ord τ j p (m + 1)) = csum C (dl s e (ord j) (vl (τ j))) + csum C (fun p => fut s e ord τ (j + 1) p m) := by
      rw [← csum_add]
      refine bsum_eq (fun p _ => ?_)
      show (if C.testBit p = true then fut s e ord τ j p (m + 1) else 0) = if C.testBit p = true then dl s e (ord j) (vl (τ j)) p + fut s e ord τ (j + 1) p m else 0
      rw [fut_s]
    rw [e1, ih, csum_dl _ _ h1 h2, h3]
    omega
/-- posts that no road to come leaves have no surplus together -/
theorem NC_cut {s e : Nat → Nat} {T : Nat} {ord : Nat → Nat} {C m j : Nat} {g : Nat → Int} (h : ∀ i, j ≤ i → i < j + m → s (ord i) < 6 ∧ e (ord i) < 6 ∧ C.testBit (s (ord i)) = C.testBit (e (ord i))) (hc : csum C g ≠ 0) : NC s e T ord m j g = 0 := by
  refine Classical.byContradiction fun z => ?_
  obtain ⟨τ, t1, t2⟩ := NC_iff.mp (show 0 < NC s e T ord m j g by omega)
  have e1 : csum C (fun p => g p + fut s e ord τ j p m) = 0 := bsum_0 (fun p hp => by
    show (if C.testBit p = true then g p + fut s e ord τ j p m else 0) = 0
    rw [t2 p hp]
    split <;> rfl)
  rw [csum_add, csum_fut h] at e1
  omega
