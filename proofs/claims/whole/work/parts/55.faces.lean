/-! ends in their order round the posts, and the faces: pure facts -/
def NX (po : Nat → Nat) (M e f : Nat) : Prop := f < M ∧ po f = po e ∧ ((e < f ∧ ∀ k, e < k → k < f → po k ≠ po e) ∨ (f ≤ e ∧ (∀ k, e < k → k < M → po k ≠ po e) ∧ ∀ k, k < f → po k ≠ po e))
theorem NX_fun {po : Nat → Nat} {M e f f' : Nat} (h : NX po M e f) (h' : NX po M e f') : f = f' := by
  obtain ⟨a1, a2, a3⟩ := h
  obtain ⟨b1, b2, b3⟩ := h'
  rcases a3 with ⟨a3, a4⟩ | ⟨a3, a4, a5⟩ <;> rcases b3 with ⟨b3, b4⟩ | ⟨b3, b4, b5⟩
  · refine Classical.byContradiction fun z => ?_
    by_cases c : f < f'
    · exact b4 f a3 c a2
    · exact a4 f' b3 (by omega) b2
  · exact absurd a2 (b4 f a3 a1)
  · exact absurd b2 (a4 f' b3 b1)
  · refine Classical.byContradiction fun z => ?_
    by_cases c : f < f'
    · exact b5 f c a2
    · exact a5 f' (by omega) b2
theorem NX_inj {po : Nat → Nat} {M e e' f : Nat} (he : e < M) (he' : e' < M) (h : NX po M e f) (h' : NX po M e' f) : e = e' := by
  have key : ∀ {e e' : Nat}, e < M → e' < M → NX po M e f → NX po M e' f → e < e' → False := by
    intro e e' he he' h h' hlt
    obtain ⟨a1, a2, a3⟩ := h
    obtain ⟨b1, b2, b3⟩ := h'
    have hp : po e' = po e := b2.symm.trans a2
    rcases a3 with ⟨a3, a4⟩ | ⟨a3, a4, a5⟩
    · rcases b3 with ⟨b3, b4⟩ | ⟨b3, b4, b5⟩
      · exact a4 e' hlt b3 hp
      · exact b5 e a3 hp.symm
    · exact a4 e' hlt he' hp
  refine Classical.byContradiction fun z => ?_
  by_cases c : e < e'
  · exact key he he' h h' c
  · exact key he' he h' h (by omega)
noncomputable def nxf (po : Nat → Nat) (M e : Nat) : Nat := @dite _ (∃ f, NX po M e f) (Classical.propDecidable _) (fun h => Classical.choose h) (fun _ => 0)
theorem nxf_eq {po : Nat → Nat} {M e f : Nat} (h : NX po M e f) : nxf po M e = f := by
  have hx : ∃ f, NX po M e f := ⟨f, h⟩
  unfold nxf
  rw [dif_pos hx]
  exact NX_fun (Classical.choose_spec hx) h
/-- going on n times -/
def itF (F : Nat → Nat) : Nat → Nat → Nat
  | 0, e => e
  | n + 1, e => F (itF F n e)
theorem itF_add (F : Nat → Nat) (n e : Nat) : ∀ m, itF F (m + n) e = itF F m (itF F n e)
  | 0 => by rw [Nat.zero_add]; rfl
  | m + 1 => by
    rw [Nat.add_right_comm]
    show F (itF F (m + n) e) = F (itF F m (itF F n e))
    rw [itF_add F n e m]
theorem itF_lt {F : Nat → Nat} {M : Nat} (hF : ∀ e, e < M → F e < M) {e : Nat} (he : e < M) : ∀ n, itF F n e < M
  | 0 => he
  | n + 1 => hF _ (itF_lt hF he n)
theorem itF_inj {F : Nat → Nat} {M : Nat} (hF : ∀ e, e < M → F e < M) (hi : ∀ e e', e < M → e' < M → F e = F e' → e = e') {e e' : Nat} (he : e < M) (he' : e' < M) : ∀ n, itF F n e = itF F n e' → e = e'
  | 0, h => h
  | n + 1, h => itF_inj hF hi he he' n (hi _ _ (itF_lt hF he n) (itF_lt hF he' n) h)
theorem php : ∀ (n : Nat) (f : Nat → Nat), (∀ i, i < n + 1 → f i < n) → (∀ i j, i < j → j < n + 1 → f i ≠ f j) → False
  | 0, f, h, _ => Nat.not_lt_zero _ (h 0 (by omega))
  | n + 1, f, h, hd => by
    refine php n (fun i => if f i < f (n + 1) then f i else f i - 1) (fun i hi => ?_) (fun i j hij hj => ?_)
    · have h1 := h i (by omega)
      have h2 := h (n + 1) (by omega)
      have h3 := hd i (n + 1) (by omega) (by omega)
      show (if f i < f (n + 1) then f i else f i - 1) < n
      split <;> omega
    · have h1 := hd i j hij (by omega)
      have h2 := hd i (n + 1) (by omega) (by omega)
      have h3 := hd j (n + 1) (by omega) (by omega)
      show (if f i < f (n + 1) then f i else f i - 1) ≠ (if f j < f (n + 1) then f j else f j - 1)
      split <;> split <;> omega
/-- after how many steps an end comes again first -/
def isP (F : Nat → Nat) (e L : Nat) : Prop := 0 < L ∧ itF F L e = e ∧ ∀ i, 0 < i → i < L → itF F i e ≠ e
theorem isP_fun {F : Nat → Nat} {e L L' : Nat} (h : isP F e L) (h' : isP F e L') : L = L' := by
  refine Classical.byContradiction fun z => ?_
  by_cases c : L < L'
  · exact h'.2.2 L h.1 c h.2.1
  · exact h.2.2 L' h'.1 (by omega) h'.2.1
theorem least_of {p : Nat → Prop} : ∀ n, p n → ∃ m, m ≤ n ∧ p m ∧ ∀ k, k < m → ¬ p k
  | 0, h => ⟨0, Nat.le_refl 0, h, fun k hk => absurd hk (Nat.not_lt_zero k)⟩
  | n + 1, h => by
    by_cases c : ∃ k, k < n + 1 ∧ p k
    · obtain ⟨k, hk, hp⟩ := c
      have : ∃ m, m ≤ n ∧ p m ∧ ∀ k, k < m → ¬ p k := by
        refine Classical.byContradiction fun z => ?_
        have all : ∀ j, ∀ i, i < j → i ≤ n → ¬ p i := by
          intro j
          induction j with
          | zero => intro i hi; omega
          | succ j ih =>
            intro i hi hin hpi
            by_cases q : i < j
            · exact ih i q hin hpi
            · exact z ⟨i, hin, hpi, fun k hk => ih k (by omega) (by omega)⟩
        exact all (k + 1) k (by omega) (by omega) hp
      obtain ⟨m, h1, h2, h3⟩ := this
      exact ⟨m, by omega, h2, h3⟩
    · exact ⟨n + 1, Nat.le_refl _, h, fun k hk hp => c ⟨k, hk, hp⟩⟩
theorem isP_ex {F : Nat → Nat} {M : Nat} (hF : ∀ e, e < M → F e < M) (hi : ∀ e e', e < M → e' < M → F e = F e' → e = e') {e : Nat} (he : e < M) : ∃ L, isP F e L ∧ L ≤ M := by
  have hx : ∃ L, 0 < L ∧ L ≤ M ∧ itF F L e = e := by
    refine Classical.byContradiction fun z => ?_
    refine php M (fun i => itF F i e) (fun i _ => itF_lt hF he i) (fun i j hij hj q => z ⟨j - i, by omega, by omega, ?_⟩)
    have q : itF F i e = itF F j e := q
    rw [show j = i + (j - i) by omega, itF_add] at q
    exact (itF_inj hF hi he (itF_lt hF he _) i q).symm
  obtain ⟨L, h1, h2, h3⟩ := hx
  obtain ⟨m, m1, ⟨m2, m3⟩, m4⟩ := least_of (p := fun n => 0 < n ∧ itF F n e = e) L ⟨h1, h3⟩
  exact ⟨m, ⟨m2, m3, fun i h0 hi2 z => m4 i hi2 ⟨h0, z⟩⟩, by omega⟩
theorem isP_ne {F : Nat → Nat} {M : Nat} (hF : ∀ e, e < M → F e < M) (hi : ∀ e e', e < M → e' < M → F e = F e' → e = e') {e L : Nat} (he : e < M) (h : isP F e L) {i j : Nat} (hij : i < j) (hj : j < L) : itF F i e ≠ itF F j e := by
  intro q
  rw [show j = i + (j - i) by omega, itF_add] at q
  exact h.2.2 (j - i) (by omega) (by omega) (itF_inj hF hi he (itF_lt hF he _) i q).symm
/-- an end is on the face of another -/
def onF (F : Nat → Nat) (e k : Nat) : Prop := ∃ i, itF F i e = k
theorem onF_rf (F : Nat → Nat) (e : Nat) : onF F e e := ⟨0, rfl⟩
theorem onF_tr {F : Nat → Nat} {a b c : Nat} (h : onF F a b) (h2 : onF F b c) : onF F a c := by
  obtain ⟨i, rfl⟩ := h
  obtain ⟨j, rfl⟩ := h2
  exact ⟨j + i, itF_add F i a j⟩
theorem onF_lt {F : Nat → Nat} {e k L : Nat} (h : isP F e L) : onF F e k ↔ ∃ i, i < L ∧ itF F i e = k := by
  constructor
  · rintro ⟨i, hi⟩
    induction i using Nat.strongRecOn with
    | ind i ih =>
      by_cases c : i < L
      · exact ⟨i, c, hi⟩
      · have h0 := h.1
        refine ih (i - L) (by omega) ?_
        rw [show i = (i - L) + L by omega, itF_add, h.2.1] at hi
        exact hi
  · rintro ⟨i, -, hi⟩
    exact ⟨i, hi⟩
theorem onF_sym {F : Nat → Nat} {e k L : Nat} (h : isP F e L) (hk : onF F e k) : onF F k e := by
  obtain ⟨i, hi, rfl⟩ := (onF_lt h).mp hk
  refine ⟨L - i, ?_⟩
  rw [← itF_add, show L - i + i = L by omega]
  exact h.2.1
/-- the set of ends met in n steps -/
def osF (F : Nat → Nat) (e : Nat) : Nat → Nat
  | 0 => 0
  | n + 1 => osF F e n ||| 2 ^ itF F n e
theorem osF_bit (F : Nat → Nat) (e k : Nat) : ∀ n, ((osF F e n).testBit k = true ↔ ∃ i, i < n ∧ itF F i e = k)
  | 0 => by
    rw [osF, Nat.zero_testBit]
    constructor
    · intro h
      cases h
    · rintro ⟨i, hi, -⟩
      exact absurd hi (Nat.not_lt_zero i)
  | n + 1 => by
    rw [osF, Nat.testBit_or, Bool.or_eq_true, osF_bit F e k n, Nat.testBit_two_pow, decide_eq_true_iff]
    constructor
    · rintro (⟨i, hi, h⟩ | h)
      · exact ⟨i, by omega, h⟩
      · exact ⟨n, by omega, h⟩
    · rintro ⟨i, hi, h⟩
      by_cases c : i = n
      · subst c
        exact Or.inr h
      · exact Or.inl ⟨i, by omega, h⟩
theorem osF_lt {F : Nat → Nat} {M : Nat} (hF : ∀ e, e < M → F e < M) {e : Nat} (he : e < M) : ∀ n, osF F e n < 2 ^ M
  | 0 => Nat.pow_pos (by omega)
  | n + 1 => Nat.or_lt_two_pow (osF_lt hF he n) (Nat.pow_lt_pow_right (by omega) (itF_lt hF he n))
theorem bc_or {a k : Nat} (h : a.testBit k = false) : ∀ n, bc (a ||| 2 ^ k) n = bc a n + (if k < n then 1 else 0)
  | 0 => by simp [bc]
  | n + 1 => by
    rw [bc, bc, bc_or h n, Nat.testBit_or, Nat.testBit_two_pow]
    by_cases c : k = n
    · subst c
      simp [h]
    · by_cases c2 : k < n
      · simp only [c, decide_false, Bool.or_false, c2, if_true, show k < n + 1 by omega]
        omega
      · simp only [c, decide_false, Bool.or_false, c2, if_false, show ¬ k < n + 1 by omega]
        omega
theorem bc_zero : ∀ n, bc 0 n = 0
  | 0 => rfl
  | n + 1 => by
    rw [bc, bc_zero n, Nat.zero_testBit]
    rfl
theorem osF_bc {F : Nat → Nat} {M : Nat} (hF : ∀ e, e < M → F e < M) (hi : ∀ e e', e < M → e' < M → F e = F e' → e = e') {e L : Nat} (he : e < M) (h : isP F e L) : ∀ n, n ≤ L → bc (osF F e n) M = n
  | 0, _ => bc_zero M
  | n + 1, hn => by
    have hb : (osF F e n).testBit (itF F n e) = false := by
      cases c : (osF F e n).testBit (itF F n e)
      · rfl
      · obtain ⟨i, hi2, z⟩ := (osF_bit F e _ n).mp c
        exact absurd z (isP_ne hF hi he h hi2 (by omega))
    rw [osF, bc_or hb, osF_bc hF hi he h n (by omega), if_pos (itF_lt hF he n)]
noncomputable def plen (F : Nat → Nat) (e : Nat) : Nat := @dite _ (∃ L, isP F e L) (Classical.propDecidable _) (fun h => Classical.choose h) (fun _ => 0)
theorem plen_eq {F : Nat → Nat} {e L : Nat} (h : isP F e L) : plen F e = L := by
  have hx : ∃ L, isP F e L := ⟨L, h⟩
  unfold plen
  rw [dif_pos hx]
  exact isP_fun (Classical.choose_spec hx) h
/-- the least end of its face -/
def leaF (F : Nat → Nat) (e : Nat) : Prop := ∀ k, onF F e k → e ≤ k
/-- of a net: posts of ends, the step along a face, posts without roads -/
def poN (N : zN) (x : Nat) : Nat := if x % 2 = 0 then gs N (x / 2) else ge N (x / 2)
noncomputable def fcN (N : zN) (e : Nat) : Nat := nxf (poN N) (2 * gR N) (e ^^^ 1)
def aloN (N : zN) (p : Nat) : Prop := ∀ x, x < 2 * gR N → poN N x ≠ p
theorem x1_lt : ∀ e, e < 20 → e ^^^ 1 = (if e % 2 = 0 then e + 1 else e - 1) := by decide
theorem x1_in {e R : Nat} (hR : R ≤ 10) (h : e < 2 * R) : e ^^^ 1 < 2 * R := by
  rw [x1_lt e (by omega)]
  split <;> omega
theorem x1_inj {e e' : Nat} (h : e < 20) (h' : e' < 20) (z : e ^^^ 1 = e' ^^^ 1) : e = e' := by
  rw [x1_lt e h, x1_lt e' h'] at z
  split at z <;> split at z <;> omega
/-- each end has a next one round its post -/
theorem NX_ex {po : Nat → Nat} {M e : Nat} (he : e < M) : ∃ f, NX po M e f := by
  by_cases c : ∃ k, e < k ∧ k < M ∧ po k = po e
  · obtain ⟨k, h1, h2, h3⟩ := c
    obtain ⟨m, m1, ⟨m2, m3⟩, m4⟩ := least_of (p := fun n => e < n ∧ po n = po e) k ⟨h1, h3⟩
    exact ⟨m, by omega, m3, Or.inl ⟨m2, fun j hj hjm z => m4 j hjm ⟨hj, z⟩⟩⟩
  · obtain ⟨m, m1, m3, m4⟩ := least_of (p := fun n => po n = po e) e rfl
    exact ⟨m, by omega, m3, Or.inr ⟨m1, fun j hj hjM z => c ⟨j, hj, hjM, z⟩, fun j hj => m4 j hj⟩⟩
theorem fc_ok {N : zN} (hR : gR N ≤ 10) : (∀ e, e < 2 * gR N → fcN N e < 2 * gR N) ∧ ∀ e e', e < 2 * gR N → e' < 2 * gR N → fcN N e = fcN N e' → e = e' := by
  refine ⟨fun e he => ?_, fun e e' he he' z => ?_⟩
  · obtain ⟨f, hf⟩ := NX_ex (po := poN N) (x1_in hR he)
    unfold fcN
    rw [nxf_eq hf]
    exact hf.1
  · obtain ⟨f, hf⟩ := NX_ex (po := poN N) (x1_in hR he)
    obtain ⟨f', hf'⟩ := NX_ex (po := poN N) (x1_in hR he')
    unfold fcN at z
    rw [nxf_eq hf, nxf_eq hf'] at z
    subst z
    exact x1_inj (by omega) (by omega) (NX_inj (x1_in hR he) (x1_in hR he') hf hf')
