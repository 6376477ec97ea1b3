/-! a flow parted into rounds: pure facts -/
def nsum (f : Nat → Nat) : Nat → Nat
  | 0 => 0
  | n + 1 => nsum f n + f n
theorem nsum_pos {f : Nat → Nat} : ∀ {n : Nat}, 0 < nsum f n → ∃ i, i < n ∧ 0 < f i
  | 0, h => absurd h (Nat.lt_irrefl 0)
  | n + 1, h => by
    by_cases c : 0 < f n
    · exact ⟨n, by omega, c⟩
    · rw [nsum] at h
      obtain ⟨i, hi, h2⟩ := nsum_pos (f := f) (n := n) (by omega)
      exact ⟨i, by omega, h2⟩
theorem nsum_ge {f : Nat → Nat} {i : Nat} : ∀ {n : Nat}, i < n → f i ≤ nsum f n
  | 0, h => absurd h (Nat.not_lt_zero i)
  | n + 1, h => by
    rw [nsum]
    by_cases c : i = n
    · subst c
      omega
    · have := nsum_ge (f := f) (i := i) (n := n) (by omega)
      omega
theorem nsum_eq {f g : Nat → Nat} : ∀ {n : Nat}, (∀ i, i < n → f i = g i) → nsum f n = nsum g n
  | 0, _ => rfl
  | n + 1, h => by
    rw [nsum, nsum, nsum_eq (fun i hi => h i (by omega)), h n (by omega)]
theorem nsum_drop {f g : Nat → Nat} {k c : Nat} (h1 : g k + c = f k) (h2 : ∀ i, i ≠ k → g i = f i) : ∀ {n : Nat}, k < n → nsum g n + c = nsum f n
  | 0, h => absurd h (Nat.not_lt_zero k)
  | n + 1, h => by
    rw [nsum, nsum]
    by_cases q : k = n
    · subst q
      rw [nsum_eq (g := f) (fun i hi => h2 i (by omega))]
      omega
    · have := nsum_drop h1 h2 (n := n) (by omega)
      rw [h2 n (fun z => q z.symm)]
      omega
/-- the first road with a property -/
def LR (R : Nat) (Q : Nat → Prop) (r : Nat) : Prop := r < R ∧ Q r ∧ ∀ j, j < r → ¬ Q j
theorem LR_fun {R : Nat} {Q : Nat → Prop} {r r' : Nat} (h : LR R Q r) (h' : LR R Q r') : r = r' := by
  refine Classical.byContradiction fun z => ?_
  by_cases c : r < r'
  · exact h'.2.2 r c h.2.1
  · exact h.2.2 r' (by omega) h'.2.1
theorem LR_ex {R : Nat} {Q : Nat → Prop} (h : ∃ i, i < R ∧ Q i) : ∃ r, LR R Q r := by
  obtain ⟨i, hi, hq⟩ := h
  obtain ⟨m, m1, m2, m3⟩ := least_of (p := Q) i hq
  exact ⟨m, by omega, m2, m3⟩
noncomputable def lrf (R : Nat) (Q : Nat → Prop) : Nat := @dite _ (∃ r, LR R Q r) (Classical.propDecidable _) (fun h => Classical.choose h) (fun _ => 0)
theorem lrf_eq {R : Nat} {Q : Nat → Prop} {r : Nat} (h : LR R Q r) : lrf R Q = r := by
  have hx : ∃ r, LR R Q r := ⟨r, h⟩
  unfold lrf
  rw [dif_pos hx]
  exact LR_fun (Classical.choose_spec hx) h
def outQ (s : Nat → Nat) (ρ : Nat → Nat) (p i : Nat) : Prop := 0 < ρ i ∧ s i = p
def posQ (ρ : Nat → Nat) (i : Nat) : Prop := 0 < ρ i
def bal (P R : Nat) (s e : Nat → Nat) (ρ : Nat → Nat) : Prop := ∀ p, p < P → nsum (fun i => if e i = p then ρ i else 0) R = nsum (fun i => if s i = p then ρ i else 0) R
/-- the road that goes on from a post, and the post that it comes to -/
noncomputable def wR (R : Nat) (s : Nat → Nat) (ρ : Nat → Nat) (p : Nat) : Nat := lrf R (outQ s ρ p)
noncomputable def wG (R : Nat) (s e : Nat → Nat) (ρ : Nat → Nat) (p : Nat) : Nat := e (wR R s ρ p)
theorem w_live {P R : Nat} {s e : Nat → Nat} {ρ : Nat → Nat} (hse : ∀ i, i < R → s i < P ∧ e i < P) (hb : bal P R s e ρ) {p : Nat} (h : ∃ i, i < R ∧ outQ s ρ p i) : LR R (outQ s ρ p) (wR R s ρ p) ∧ wG R s e ρ p < P ∧ ∃ i, i < R ∧ outQ s ρ (wG R s e ρ p) i := by
  obtain ⟨r, hr⟩ := LR_ex h
  have er : wR R s ρ p = r := lrf_eq hr
  refine ⟨by rw [er]; exact hr, ?_, ?_⟩
  · unfold wG
    rw [er]
    exact (hse r hr.1).2
  · unfold wG
    rw [er]
    have hp := (hse r hr.1).2
    have h1 := nsum_ge (f := fun i => if e i = e r then ρ i else 0) hr.1
    simp only [if_true] at h1
    have h2 := hb (e r) hp
    have h3 := hr.2.1.1
    obtain ⟨i, hi, h4⟩ := nsum_pos (f := fun i => if s i = e r then ρ i else 0) (n := R) (by omega)
    by_cases c : s i = e r
    · rw [if_pos c] at h4
      exact ⟨i, hi, h4, c⟩
    · rw [if_neg c] at h4
      omega
/-- the first post that comes again: place j comes again at place m -/
def isRp (G : Nat → Nat) (a j m : Nat) : Prop := j < m ∧ itF G j a = itF G m a ∧ ∀ i k, i < k → k < m → itF G i a ≠ itF G k a
theorem isRp_fun {G : Nat → Nat} {a j m j' m' : Nat} (h : isRp G a j m) (h' : isRp G a j' m') : j = j' ∧ m = m' := by
  have em : m = m' := by
    refine Classical.byContradiction fun z => ?_
    by_cases c : m < m'
    · exact h'.2.2 j m h.1 c h.2.1
    · exact h.2.2 j' m' h'.1 (by omega) h'.2.1
  subst em
  refine ⟨?_, rfl⟩
  refine Classical.byContradiction fun z => ?_
  have e : itF G j a = itF G j' a := h.2.1.trans h'.2.1.symm
  by_cases c : j < j'
  · exact h.2.2 j j' c h'.1 e
  · exact h.2.2 j' j (by omega) h.1 e.symm
theorem isRp_ex {G : Nat → Nat} {a P : Nat} (h : ∀ k, itF G k a < P) : ∃ j m, isRp G a j m ∧ m ≤ P := by
  have hx : ∃ m, m ≤ P ∧ ∃ j, j < m ∧ itF G j a = itF G m a := by
    refine Classical.byContradiction fun z => ?_
    exact php P (fun i => itF G i a) (fun i _ => h i) (fun i j hij hj q => z ⟨j, by omega, i, hij, q⟩)
  obtain ⟨m0, h0, hm0⟩ := hx
  obtain ⟨m, m1, ⟨j, hj, ej⟩, m3⟩ := least_of (p := fun m => ∃ j, j < m ∧ itF G j a = itF G m a) m0 hm0
  exact ⟨j, m, ⟨hj, ej, fun i k hik hk z => m3 k hk ⟨i, hik, z⟩⟩, by omega⟩
theorem w_all {P R : Nat} {s e : Nat → Nat} {ρ : Nat → Nat} (hse : ∀ i, i < R → s i < P ∧ e i < P) (hb : bal P R s e ρ) {a : Nat} (ha : a < P) (hl : ∃ i, i < R ∧ outQ s ρ a i) : ∀ k, itF (wG R s e ρ) k a < P ∧ (∃ i, i < R ∧ outQ s ρ (itF (wG R s e ρ) k a) i) ∧ LR R (outQ s ρ (itF (wG R s e ρ) k a)) (wR R s ρ (itF (wG R s e ρ) k a))
  | 0 => ⟨ha, hl, (w_live hse hb hl).1⟩
  | k + 1 => by
    obtain ⟨h1, h2, h3⟩ := w_all hse hb ha hl k
    obtain ⟨h4, h5, h6⟩ := w_live hse hb h2
    exact ⟨h5, h6, (w_live hse hb h6).1⟩
/-- roads of a round: its set, the least of their numbers, what is left -/
def rSet (w : Nat → Nat) (j : Nat) : Nat → Nat
  | 0 => 0
  | t + 1 => rSet w j t ||| 2 ^ w (j + t)
def rMin (ρ w : Nat → Nat) (c j : Nat) : Nat → Nat
  | 0 => c
  | t + 1 => min (rMin ρ w c j t) (ρ (w (j + t)))
def rSub (ρ w : Nat → Nat) (c j : Nat) : Nat → Nat → Nat
  | 0 => ρ
  | t + 1 => fun i => if i = w (j + t) then rSub ρ w c j t i - c else rSub ρ w c j t i
theorem rMin_le {ρ w : Nat → Nat} {c j : Nat} : ∀ {t k : Nat}, k < t → rMin ρ w c j t ≤ ρ (w (j + k))
  | 0, k, h => absurd h (Nat.not_lt_zero k)
  | t + 1, k, h => by
    rw [rMin]
    by_cases q : k = t
    · subst q
      exact Nat.min_le_right _ _
    · have := rMin_le (ρ := ρ) (w := w) (c := c) (j := j) (t := t) (k := k) (by omega)
      have := Nat.min_le_left (rMin ρ w c j t) (ρ (w (j + t)))
      omega
theorem rMin_at {ρ w : Nat → Nat} {c j : Nat} (hc : ∀ k, ρ (w k) ≤ c) : ∀ {t : Nat}, 0 < t → ∃ k, k < t ∧ rMin ρ w c j t = ρ (w (j + k))
  | 0, h => absurd h (Nat.lt_irrefl 0)
  | t + 1, _ => by
    rw [rMin]
    by_cases q : t = 0
    · subst q
      have := hc (j + 0)
      exact ⟨0, by omega, by rw [rMin]; omega⟩
    · obtain ⟨k, hk, e⟩ := rMin_at (j := j) hc (t := t) (by omega)
      by_cases q2 : rMin ρ w c j t ≤ ρ (w (j + t))
      · exact ⟨k, by omega, by rw [Nat.min_eq_left q2]; exact e⟩
      · exact ⟨t, by omega, by rw [Nat.min_eq_right (by omega)]⟩
theorem rMin_c {ρ w : Nat → Nat} {c c' j : Nat} (hc : ∀ k, ρ (w k) ≤ c) (hc' : ∀ k, ρ (w k) ≤ c') {t : Nat} (ht : 0 < t) : rMin ρ w c j t = rMin ρ w c' j t := by
  obtain ⟨k, hk, e⟩ := rMin_at (j := j) hc ht
  obtain ⟨k', hk', e'⟩ := rMin_at (j := j) hc' ht
  have h1 := rMin_le (ρ := ρ) (w := w) (c := c) (j := j) hk'
  have h2 := rMin_le (ρ := ρ) (w := w) (c := c') (j := j) hk
  omega
theorem rSub_le (ρ w : Nat → Nat) (c j i : Nat) : ∀ t, rSub ρ w c j t i ≤ ρ i
  | 0 => Nat.le_refl _
  | t + 1 => by
    have := rSub_le ρ w c j i t
    show (if i = w (j + t) then rSub ρ w c j t i - c else rSub ρ w c j t i) ≤ ρ i
    split <;> omega
theorem rSub_off {ρ w : Nat → Nat} {c j i : Nat} : ∀ {t : Nat}, (∀ k, k < t → i ≠ w (j + k)) → rSub ρ w c j t i = ρ i
  | 0, _ => rfl
  | t + 1, h => by
    show (if i = w (j + t) then rSub ρ w c j t i - c else rSub ρ w c j t i) = ρ i
    rw [if_neg (h t (by omega))]
    exact rSub_off (fun k hk => h k (by omega))
theorem rSub_on {ρ w : Nat → Nat} {c j k : Nat} : ∀ {t : Nat}, k < t → (∀ a b, a < b → b < t → w (j + a) ≠ w (j + b)) → rSub ρ w c j t (w (j + k)) = ρ (w (j + k)) - c
  | 0, h, _ => absurd h (Nat.not_lt_zero k)
  | t + 1, h, hd => by
    show (if w (j + k) = w (j + t) then rSub ρ w c j t (w (j + k)) - c else rSub ρ w c j t (w (j + k))) = ρ (w (j + k)) - c
    by_cases q : k = t
    · subst q
      rw [if_pos rfl, rSub_off (fun i hi => fun z => hd i k hi (by omega) z.symm)]
    · rw [if_neg (hd k t (by omega) (by omega))]
      exact rSub_on (by omega) (fun a b hab hb => hd a b hab (by omega))
/-- a round taken from a balanced flow leaves it balanced, and one road more without a number -/
theorem rd_bal {P R : Nat} {s e : Nat → Nat} {ρ : Nat → Nat} (hse : ∀ i, i < R → s i < P ∧ e i < P) (hb : bal P R s e ρ) {a : Nat} (ha : a < P) (hl : ∃ i, i < R ∧ outQ s ρ a i) {j m c : Nat} (hr : isRp (wG R s e ρ) a j m) (hc : ∀ k, k < m - j → c ≤ ρ (wR R s ρ (itF (wG R s e ρ) (j + k) a))) : bal P R s e (rSub ρ (fun k => wR R s ρ (itF (wG R s e ρ) k a)) c j (m - j)) := by
  obtain ⟨r1, r2, r3⟩ := hr
  have hw := w_all hse hb ha hl
  have hs : ∀ k, s (wR R s ρ (itF (wG R s e ρ) k a)) = itF (wG R s e ρ) k a := fun k => (hw k).2.2.2.1.2
  have hd : ∀ x y, x < y → y < m - j → wR R s ρ (itF (wG R s e ρ) (j + x) a) ≠ wR R s ρ (itF (wG R s e ρ) (j + y) a) := by
    intro x y hxy hy z
    refine r3 (j + x) (j + y) (by omega) (by omega) ?_
    rw [← hs (j + x), ← hs (j + y), z]
  have key : ∀ t, t ≤ m - j → ∀ p, p < P → nsum (fun i => if e i = p then rSub ρ (fun k => wR R s ρ (itF (wG R s e ρ) k a)) c j t i else 0) R + (if itF (wG R s e ρ) (j + t) a = p then c else 0) = nsum (fun i => if s i = p then rSub ρ (fun k => wR R s ρ (itF (wG R s e ρ) k a)) c j t i else 0) R + (if itF (wG R s e ρ) j a = p then c else 0) := by
    intro t
    induction t with
    | zero =>
      intro _ p hp
      have := hb p hp
      show nsum (fun i => if e i = p then ρ i else 0) R + _ = nsum (fun i => if s i = p then ρ i else 0) R + _
      rw [this]
      rfl
    | succ t ih =>
      intro ht p hp
      have ih := ih (by omega) p hp
      have hlt := (hw (j + t)).2.2.1
      have hcc := hc t (by omega)
      have ek : rSub ρ (fun k => wR R s ρ (itF (wG R s e ρ) k a)) c j t (wR R s ρ (itF (wG R s e ρ) (j + t) a)) = ρ (wR R s ρ (itF (wG R s e ρ) (j + t) a)) := rSub_off (fun i hi => fun z => hd i t hi (by omega) z.symm)
      have eS := hs (j + t)
      have eE : e (wR R s ρ (itF (wG R s e ρ) (j + t) a)) = itF (wG R s e ρ) (j + (t + 1)) a := rfl
      generalize hwk : wR R s ρ (itF (wG R s e ρ) (j + t) a) = q at hlt hcc ek eS eE
      have up : ∀ i, rSub ρ (fun k => wR R s ρ (itF (wG R s e ρ) k a)) c j (t + 1) i = if i = q then rSub ρ (fun k => wR R s ρ (itF (wG R s e ρ) k a)) c j t i - c else rSub ρ (fun k => wR R s ρ (itF (wG R s e ρ) k a)) c j t i := by
        intro i
        show (if i = wR R s ρ (itF (wG R s e ρ) (j + t) a) then _ else _) = _
        rw [hwk]
      have drop : ∀ f : Nat → Nat, nsum (fun i => if f i = p then rSub ρ (fun k => wR R s ρ (itF (wG R s e ρ) k a)) c j (t + 1) i else 0) R + (if f q = p then c else 0) = nsum (fun i => if f i = p then rSub ρ (fun k => wR R s ρ (itF (wG R s e ρ) k a)) c j t i else 0) R := by
        intro f
        by_cases z : f q = p
        · rw [if_pos z]
          refine nsum_drop (k := q) ?_ (fun i hi => ?_) hlt
          · rw [if_pos z, if_pos z, up, if_pos rfl, ek]
            omega
          · by_cases z2 : f i = p
            · rw [if_pos z2, if_pos z2, up, if_neg hi]
            · rw [if_neg z2, if_neg z2]
        · rw [if_neg z, Nat.add_zero]
          refine nsum_eq (fun i _ => ?_)
          by_cases z2 : f i = p
          · rw [if_pos z2, if_pos z2, up, if_neg (fun y => z (by rw [← y]; exact z2))]
          · rw [if_neg z2, if_neg z2]
      have d1 := drop e
      have d2 := drop s
      rw [eE] at d1
      rw [eS] at d2
      omega
  intro p hp
  have := key (m - j) (Nat.le_refl _) p hp
  rw [show j + (m - j) = m by omega, ← r2] at this
  omega
