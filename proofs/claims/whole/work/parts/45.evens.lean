/-! every even set is a xor of closed rounds, just once, and they go up -/
def xs (f : Nat → Bool) : Nat → Bool
  | 0 => false
  | n + 1 => Bool.xor (xs f n) (f n)
def cut (s e : Nat → Nat) (T : Nat) (X : Nat → Bool) : Nat → Bool
  | 0 => false
  | n + 1 => Bool.xor (cut s e T X n) (T.testBit n && Bool.xor (X (s n)) (X (e n)))
theorem xs_xor (f g : Nat → Bool) : ∀ n, xs (fun q => Bool.xor (f q) (g q)) n = Bool.xor (xs f n) (xs g n)
  | 0 => rfl
  | n + 1 => by
    rw [xs, xs, xs, xs_xor f g n]
    cases xs f n <;> cases xs g n <;> cases f n <;> cases g n <;> rfl
theorem xs_f {f : Nat → Bool} : ∀ {n : Nat}, (∀ q, q < n → f q = false) → xs f n = false
  | 0, _ => rfl
  | n + 1, h => by
    rw [xs, xs_f (fun q hq => h q (by omega)), h n (by omega)]
    rfl
theorem xs_eq {f g : Nat → Bool} : ∀ {n : Nat}, (∀ q, q < n → f q = g q) → xs f n = xs g n
  | 0, _ => rfl
  | n + 1, h => by
    rw [xs, xs, xs_eq (fun q hq => h q (by omega)), h n (by omega)]
theorem xs_one {X : Nat → Bool} {a : Nat} : ∀ {n : Nat}, xs (fun q => X q && decide (a = q)) n = (decide (a < n) && X a)
  | 0 => by simp [xs]
  | n + 1 => by
    rw [xs, xs_one (n := n)]
    by_cases h : a = n
    · subst h
      simp
    · by_cases h2 : a < n
      · simp [h, h2, show a < n + 1 by omega]
      · simp [h, h2, show ¬ a < n + 1 by omega]
theorem cut_od {s e : Nat → Nat} {P T : Nat} (X : Nat → Bool) : ∀ {n : Nat}, (∀ i, i < n → s i < P ∧ e i < P) → xs (fun q => X q && od s e T n q) P = cut s e T X n
  | 0, _ => by
    rw [cut]
    exact xs_f (fun q _ => by simp [od])
  | n + 1, h => by
    have ih := cut_od (s := s) (e := e) (P := P) (T := T) X (n := n) (fun i hi => h i (by omega))
    obtain ⟨hs, he⟩ := h n (by omega)
    rw [cut, ← ih]
    have e1 : ∀ q, q < P → (X q && od s e T (n + 1) q) = Bool.xor (X q && od s e T n q) (T.testBit n && Bool.xor (X q && decide (s n = q)) (X q && decide (e n = q))) := by
      intro q _
      rw [od]
      cases X q <;> cases od s e T n q <;> cases T.testBit n <;> cases decide (s n = q) <;> cases decide (e n = q) <;> rfl
    rw [xs_eq e1, xs_xor]
    congr 1
    cases T.testBit n
    · exact xs_f (fun q _ => rfl)
    · rw [show (fun q => (true && Bool.xor (X q && decide (s n = q)) (X q && decide (e n = q)))) = (fun q => Bool.xor (X q && decide (s n = q)) (X q && decide (e n = q))) from funext fun q => by rw [Bool.true_and], xs_xor, xs_one, xs_one, decide_eq_true hs, decide_eq_true he]
      rfl
/-- the sets of roads that are even at all posts -/
def evn (P R : Nat) (s e : Nat → Nat) (T : Nat) : Prop := ∀ q, q < P → od s e T R q = false
theorem evn_cut {P R : Nat} {s e : Nat → Nat} {T : Nat} (h : evn P R s e T) (hse : ∀ i, i < R → s i < P ∧ e i < P) (X : Nat → Bool) : cut s e T X R = false := by
  rw [← cut_od X hse]
  exact xs_f (fun q hq => by rw [h q hq, Bool.and_false])
theorem cut_one {s e : Nat → Nat} {T r : Nat} {X : Nat → Bool} (h1 : T.testBit r = true) (h2 : X (s r) ≠ X (e r)) : ∀ {n : Nat}, (∀ i, i < n → i ≠ r → T.testBit i = true → X (s i) = X (e i)) → cut s e T X n = decide (r < n)
  | 0, _ => rfl
  | n + 1, h => by
    have ih := cut_one h1 h2 (n := n) (fun i hi => h i (by omega))
    rw [cut, ih]
    by_cases q : n = r
    · subst q
      rw [h1, decide_eq_false (by omega), decide_eq_true (by omega)]
      cases hx : X (s n) <;> cases hy : X (e n) <;> simp_all
    · by_cases ht : T.testBit n = true
      · rw [h n (by omega) q ht, Bool.xor_self, Bool.and_false, Bool.xor_false]
        by_cases z : r < n
        · rw [decide_eq_true z, decide_eq_true (by omega)]
        · rw [decide_eq_false z, decide_eq_false (by omega)]
      · have ht : T.testBit n = false := by simpa using ht
        rw [ht, Bool.false_and, Bool.xor_false]
        by_cases z : r < n
        · rw [decide_eq_true z, decide_eq_true (by omega)]
        · rw [decide_eq_false z, decide_eq_false (by omega)]
theorem gw_join {R : Nat} {s e : Nat → Nat} : ∀ {n : Nat}, ∀ i, i < n → (gw R s e n).1 (s i) = (gw R s e n).1 (e i)
  | 0, i, h => absurd h (Nat.not_lt_zero i)
  | n + 1, i, h => by
    have ih := fun j (hj : j < n) => gw_join (R := R) (s := s) (e := e) (n := n) j hj
    rw [gw, gstep]
    by_cases c : (gw R s e n).1 (s n) = (gw R s e n).1 (e n)
    · rw [if_pos c]
      by_cases q : i = n
      · subst q; exact c
      · exact ih i (by omega)
    · rw [if_neg c]
      simp only
      by_cases q : i = n
      · subst q
        rw [if_pos rfl]
        split <;> rfl
      · rw [ih i (by omega)]
/-- a road that closes no round is no top -/
theorem gw_tree {R : Nat} {s e : Nat → Nat} : ∀ {n m : Nat}, m < n → (gw R s e m).1 (s m) = (gw R s e m).1 (e m) → ∃ j, j < (gw R s e n).2.2.1 ∧ tps R s e n j = m
  | 0, m, h, _ => absurd h (Nat.not_lt_zero m)
  | n + 1, m, h, hc => by
    by_cases c : (gw R s e n).1 (s n) = (gw R s e n).1 (e n)
    · by_cases q : m = n
      · subst q
        refine ⟨(gw R s e m).2.2.1, ?_, ?_⟩
        · rw [gw, gstep, if_pos c]
          exact Nat.lt_succ_self _
        · rw [tps, if_pos ⟨c, rfl⟩]
      · obtain ⟨j, h1, h2⟩ := gw_tree (R := R) (s := s) (e := e) (n := n) (m := m) (by omega) hc
        refine ⟨j, ?_, ?_⟩
        · rw [gw, gstep, if_pos c]
          exact Nat.lt_succ_of_lt h1
        · rw [tps, if_neg (fun z => by omega)]
          exact h2
    · by_cases q : m = n
      · subst q
        exact absurd hc c
      · obtain ⟨j, h1, h2⟩ := gw_tree (R := R) (s := s) (e := e) (n := n) (m := m) (by omega) hc
        refine ⟨j, ?_, ?_⟩
        · rw [gw, gstep, if_neg c]
          exact h1
        · rw [tps, if_neg (fun z => c z.1)]
          exact h2
theorem top_bit {T R : Nat} (h : T < 2 ^ R) (h0 : T ≠ 0) : ∃ n, n < R ∧ T.testBit n = true ∧ ∀ k, n < k → T.testBit k = false := by
  induction R with
  | zero => simp at h; omega
  | succ R ih =>
    by_cases c : T < 2 ^ R
    · obtain ⟨n, h1, h2⟩ := ih c
      exact ⟨n, by omega, h2⟩
    · refine ⟨R, by omega, ?_, fun k hk => Nat.testBit_lt_two_pow (Nat.lt_of_lt_of_le h (Nat.pow_le_pow_right (by omega) (by omega)))⟩
      rw [Nat.testBit_eq_decide_div_mod_eq]
      have : T / 2 ^ R = 1 := by
        rw [Nat.pow_succ] at h
        exact Nat.div_eq_of_lt_le (by omega) (by omega)
      rw [this]
      rfl
theorem mod_bit (x n : Nat) : x % 2 ^ (n + 1) = x % 2 ^ n ||| (if x.testBit n = true then 2 ^ n else 0) := by
  apply Nat.eq_of_testBit_eq
  intro k
  rw [Nat.testBit_or, Nat.testBit_mod_two_pow, Nat.testBit_mod_two_pow]
  by_cases c : x.testBit n = true
  · rw [if_pos c, Nat.testBit_two_pow]
    by_cases q : k = n
    · subst q
      rw [c]
      simp
    · rw [show decide (n = k) = false from decide_eq_false (fun z => q z.symm), Bool.or_false, show decide (k < n + 1) = decide (k < n) from decide_eq_decide.mpr (by omega)]
  · rw [if_neg c, Nat.zero_testBit, Bool.or_false]
    by_cases q : k = n
    · subst q
      have c : x.testBit k = false := by simpa using c
      rw [c]
      simp
    · rw [show decide (k < n + 1) = decide (k < n) from decide_eq_decide.mpr (by omega)]
theorem bit_lt {a b k : Nat} (h1 : a.testBit k = false) (h2 : b.testBit k = true) (h3 : ∀ m, k < m → a.testBit m = b.testBit m) : a < b := by
  have e : a / 2 ^ (k + 1) = b / 2 ^ (k + 1) := by
    apply Nat.eq_of_testBit_eq
    intro i
    rw [Nat.testBit_div_two_pow, Nat.testBit_div_two_pow]
    exact h3 _ (by omega)
  have l : a % 2 ^ (k + 1) < 2 ^ k := by
    apply Nat.lt_pow_two_of_testBit
    intro i hi
    rw [Nat.testBit_mod_two_pow]
    by_cases c : i = k
    · rw [c, h1, Bool.and_false]
    · rw [decide_eq_false (by omega), Bool.false_and]
  have g : 2 ^ k ≤ b % 2 ^ (k + 1) := Nat.ge_two_pow_of_testBit (by
    rw [Nat.testBit_mod_two_pow, h2, decide_eq_true (by omega)]
    rfl)
  have d1 := Nat.div_add_mod a (2 ^ (k + 1))
  have d2 := Nat.div_add_mod b (2 ^ (k + 1))
  rw [e] at d1
  omega
theorem xor_0 {a b : Nat} (h : a ^^^ b = 0) : a = b := by
  apply Nat.eq_of_testBit_eq
  intro i
  have := congrArg (fun x => x.testBit i) h
  simp only [Nat.testBit_xor, Nat.zero_testBit] at this
  revert this
  cases a.testBit i <;> cases b.testBit i <;> simp
theorem evn_tree {P R : Nat} {s e : Nat → Nat} (hse : ∀ i, i < R → s i < P ∧ e i < P) {T : Nat} (hT : T < 2 ^ R) (he : evn P R s e T) (ht : ∀ j, j < (gw R s e R).2.2.1 → T.testBit (tps R s e R j) = false) : T = 0 := by
  refine Classical.byContradiction fun h0 => ?_
  obtain ⟨n, hn, h1, h2⟩ := top_bit hT h0
  have hne : (gw R s e n).1 (s n) ≠ (gw R s e n).1 (e n) := by
    intro c
    obtain ⟨j, hj, ej⟩ := gw_tree (R := R) hn c
    have := ht j hj
    rw [ej, h1] at this
    cases this
  have hc := cut_one (s := s) (e := e) (T := T) (r := n) (X := fun p => decide ((gw R s e n).1 p = (gw R s e n).1 (s n))) h1 (by
    intro z
    have z : decide ((gw R s e n).1 (s n) = (gw R s e n).1 (s n)) = decide ((gw R s e n).1 (e n) = (gw R s e n).1 (s n)) := z
    rw [decide_eq_true rfl] at z
    exact hne (of_decide_eq_true z.symm).symm) (n := R) (fun i hi hin hti => by
    have : i < n := by
      refine Classical.byContradiction fun z => ?_
      rw [h2 i (by omega)] at hti
      cases hti
    show decide ((gw R s e n).1 (s i) = (gw R s e n).1 (s n)) = decide ((gw R s e n).1 (e i) = (gw R s e n).1 (s n))
    rw [gw_join i this])
  rw [evn_cut he hse, decide_eq_true hn] at hc
  cases hc
/-- the number whose bits are the tops in T -/
def tix (t : Nat → Nat) (T : Nat) : Nat → Nat
  | 0 => 0
  | g + 1 => tix t T g + (if T.testBit (t g) = true then 2 ^ g else 0)
theorem tix_lt (t : Nat → Nat) (T : Nat) : ∀ g, tix t T g < 2 ^ g
  | 0 => by simp [tix]
  | g + 1 => by
    have := tix_lt t T g
    rw [tix, Nat.pow_succ]
    split <;> omega
theorem tix_bit (t : Nat → Nat) (T : Nat) : ∀ {g j : Nat}, j < g → (tix t T g).testBit j = T.testBit (t j)
  | 0, j, h => absurd h (Nat.not_lt_zero j)
  | g + 1, j, h => by
    have hl := tix_lt t T g
    rw [tix]
    by_cases q : j = g
    · subst q
      by_cases c : T.testBit (t j) = true
      · rw [if_pos c, Nat.add_comm, Nat.testBit_two_pow_add_eq, Nat.testBit_lt_two_pow hl, c]
        rfl
      · rw [if_neg c, Nat.add_zero, Nat.testBit_lt_two_pow hl]
        simpa using c
    · have ih := tix_bit t T (g := g) (j := j) (by omega)
      by_cases c : T.testBit (t g) = true
      · rw [if_pos c, Nat.add_comm, Nat.testBit_two_pow_add_gt (by omega), ih]
      · rw [if_neg c, Nat.add_zero, ih]
theorem evs_bit {cl t : Nat → Nat} {i k : Nat} : ∀ {g : Nat}, (∀ j, j < g → i.testBit j = true → (cl j).testBit k = false) → (evs cl i g).testBit k = false
  | 0, _ => Nat.zero_testBit k
  | g + 1, h => by
    have ih := evs_bit (cl := cl) (t := t) (i := i) (k := k) (g := g) (fun j hj => h j (by omega))
    rw [evs]
    by_cases c : i.testBit g = true
    · rw [if_pos c, Nat.testBit_xor, ih, h g (by omega) c]
      rfl
    · rw [if_neg c]
      exact ih
theorem evs_top {cl t : Nat → Nat} {i m : Nat} (E : ∀ i j, i < m → j < m → (cl i).testBit (t j) = decide (i = j)) : ∀ {g j : Nat}, g ≤ m → j < m → (evs cl i g).testBit (t j) = (decide (j < g) && i.testBit j)
  | 0, j, _, _ => by
    rw [evs, Nat.zero_testBit]
    simp
  | g + 1, j, hg, hj => by
    have ih := evs_top (cl := cl) (t := t) (i := i) (m := m) E (g := g) (j := j) (by omega) hj
    rw [evs]
    by_cases q : j = g
    · subst q
      by_cases c : i.testBit j = true
      · rw [if_pos c, Nat.testBit_xor, ih, E j j (by omega) hj, c, decide_eq_false (Nat.lt_irrefl j), decide_eq_true (Nat.lt_succ_self j)]
        simp
      · rw [if_neg c, ih, decide_eq_false (Nat.lt_irrefl j)]
        have c : i.testBit j = false := by simpa using c
        rw [c]
        simp
    · have e2 : (evs cl i g).testBit (t j) = (decide (j < g + 1) && i.testBit j) := by
        rw [ih]
        congr 1
        exact decide_eq_decide.mpr (by omega)
      split
      · rw [Nat.testBit_xor, E g j (by omega) hj, decide_eq_false (fun z => q z.symm), Bool.xor_false]
        exact e2
      · exact e2
theorem evs_up {cl t : Nat → Nat} {m : Nat} (E : ∀ i j, i < m → j < m → (cl i).testBit (t j) = decide (i = j)) (F : ∀ j k, j < m → t j < k → (cl j).testBit k = false) (D : ∀ i j, i < j → j < m → t i < t j) {i i' : Nat} : ∀ {g : Nat}, g ≤ m → i % 2 ^ g < i' % 2 ^ g → ∃ j, j < g ∧ (evs cl i g).testBit (t j) = false ∧ (evs cl i' g).testBit (t j) = true ∧ ∀ k, t j < k → (evs cl i g).testBit k = (evs cl i' g).testBit k
  | 0, _, h => by
    simp at h
    omega
  | g + 1, hg, h => by
    have hb : ∀ x : Nat, x % 2 ^ (g + 1) = x % 2 ^ g + (if x.testBit g = true then 2 ^ g else 0) := by
      intro x
      rw [mod_bit]
      split
      · exact Nat.or_two_pow_eq_add_of_lt (Nat.mod_lt _ (Nat.pow_pos (by omega)))
      · rw [Nat.or_zero]
        rfl
    rw [hb, hb] at h
    have l1 : i % 2 ^ g < 2 ^ g := Nat.mod_lt _ (Nat.pow_pos (by omega))
    have l2 : i' % 2 ^ g < 2 ^ g := Nat.mod_lt _ (Nat.pow_pos (by omega))
    have lo : ∀ (x k : Nat), t g < k → (evs cl x g).testBit k = false := fun x k hk => evs_bit (t := t) (fun j hj _ => F j k (by omega) (by have := D j g (by omega) (by omega); omega))
    have lt' : ∀ (x : Nat), (evs cl x g).testBit (t g) = false := fun x => evs_bit (t := t) (fun j hj _ => F j _ (by omega) (D j g (by omega) (by omega)))
    by_cases c : i.testBit g = true <;> by_cases c' : i'.testBit g = true
    · rw [if_pos c, if_pos c'] at h
      obtain ⟨j, h1, h2, h3, h4⟩ := evs_up E F D (i := i) (i' := i') (g := g) (by omega) (by omega)
      refine ⟨j, by omega, ?_, ?_, fun k hk => ?_⟩
      · rw [evs, if_pos c, Nat.testBit_xor, h2, E g j (by omega) (by omega), decide_eq_false (by omega)]
        rfl
      · rw [evs, if_pos c', Nat.testBit_xor, h3, E g j (by omega) (by omega), decide_eq_false (by omega)]
        rfl
      · rw [evs, evs, if_pos c, if_pos c', Nat.testBit_xor, Nat.testBit_xor, h4 k hk]
    · rw [if_pos c, if_neg c'] at h
      omega
    · refine ⟨g, by omega, ?_, ?_, fun k hk => ?_⟩
      · rw [evs, if_neg c]
        exact lt' i
      · rw [evs, if_pos c', Nat.testBit_xor, lt' i', E g g (by omega) (by omega)]
        simp
      · rw [evs, evs, if_neg c, if_pos c', Nat.testBit_xor, lo i k hk, lo i' k hk, F g k (by omega) hk]
        rfl
    · rw [if_neg c, if_neg c'] at h
      obtain ⟨j, h1, h2, h3, h4⟩ := evs_up E F D (i := i) (i' := i') (g := g) (by omega) (by omega)
      refine ⟨j, by omega, ?_, ?_, fun k hk => ?_⟩
      · rw [evs, if_neg c]
        exact h2
      · rw [evs, if_neg c']
        exact h3
      · rw [evs, evs, if_neg c, if_neg c']
        exact h4 k hk
theorem evs_lt {cl : Nat → Nat} {i R : Nat} : ∀ {g : Nat}, (∀ j, j < g → cl j < 2 ^ R) → evs cl i g < 2 ^ R
  | 0, _ => Nat.pow_pos (by omega)
  | g + 1, h => by
    have ih := evs_lt (cl := cl) (i := i) (R := R) (g := g) (fun j hj => h j (by omega))
    rw [evs]
    split
    · exact Nat.xor_lt_two_pow ih (h g (by omega))
    · exact ih
theorem lt_pow {x R : Nat} (h : ∀ k, R ≤ k → x.testBit k = false) : x < 2 ^ R := Nat.lt_pow_two_of_testBit x (fun k hk => h k hk)
/-- the even sets, by numbers -/
def ecl (N : zN) : Nat → Nat := (gw (gR N) (gs N) (ge N) (gR N)).2.2.2.1
def eG (N : zN) : Nat := (gw (gR N) (gs N) (ge N) (gR N)).2.2.1
def ev (N : zN) (i : Nat) : Nat := evs (ecl N) i (eG N)
def isE (N : zN) (T : Nat) : Prop := evn (gP N) (gR N) (gs N) (ge N) T
theorem NV.se {N : zN} (hv : NV N) : ∀ i, i < gR N → gs N i < gP N ∧ ge N i < gP N := by
  obtain ⟨P, R, eP, hP, egP, eR, hR, eg, hse⟩ := hv.nat
  rw [egP, eg]
  exact fun i hi => (hse i hi).2.2
theorem ev_ok {N : zN} (hv : NV N) : (∀ j, j < eG N → ecl N j < 2 ^ gR N ∧ isE N (ecl N j)) ∧ (∀ i, ev N i < 2 ^ gR N ∧ isE N (ev N i)) ∧ (∀ i j, i < j → j < 2 ^ eG N → ev N i < ev N j) ∧ (∀ T, T < 2 ^ gR N → isE N T → ∃ i, i < 2 ^ eG N ∧ ev N i = T) := by
  have hse := hv.se
  obtain ⟨A, B, C, D, E, F⟩ := gw_top (R := gR N) (P := gP N) hse
  obtain ⟨-, O⟩ := gw_od (R := gR N) (P := gP N) (Nat.le_refl _) hse
  have E : ∀ i j, i < eG N → j < eG N → (ecl N i).testBit (tps (gR N) (gs N) (ge N) (gR N) j) = decide (i = j) := E
  have F : ∀ j k, j < eG N → tps (gR N) (gs N) (ge N) (gR N) j < k → (ecl N j).testBit k = false := F
  have D : ∀ i j, i < j → j < eG N → tps (gR N) (gs N) (ge N) (gR N) i < tps (gR N) (gs N) (ge N) (gR N) j := D
  have cl_lt : ∀ j, j < eG N → ecl N j < 2 ^ gR N := fun j hj => lt_pow (fun k hk => F j k hj (by have := C j hj; omega))
  have ev_e : ∀ i, isE N (ev N i) := fun i q _ => evs_od i (fun j q hj => O j q hj) q
  refine ⟨fun j hj => ⟨cl_lt j hj, fun q _ => O j q hj⟩, fun i => ⟨evs_lt cl_lt, ev_e i⟩, fun i j hij hj => ?_, fun T hT he => ?_⟩
  · obtain ⟨k, h1, h2, h3, h4⟩ := evs_up E F D (i := i) (i' := j) (g := eG N) (Nat.le_refl _) (by rw [Nat.mod_eq_of_lt hj, Nat.mod_eq_of_lt (by omega)]; exact hij)
    exact bit_lt h2 h3 h4
  · refine ⟨tix (tps (gR N) (gs N) (ge N) (gR N)) T (eG N), tix_lt _ _ _, ?_⟩
    have h0 := evn_tree (P := gP N) hse (T := T ^^^ ev N (tix (tps (gR N) (gs N) (ge N) (gR N)) T (eG N))) (Nat.xor_lt_two_pow hT (evs_lt cl_lt)) (fun q hq => by rw [od_xor, he q hq, ev_e _ q hq]; rfl) (fun j hj => by
      rw [Nat.testBit_xor, ev, evs_top E (Nat.le_refl _) (show j < eG N from hj), tix_bit _ _ (show j < eG N from hj), show decide (j < eG N) = true from decide_eq_true hj, Bool.true_and, Bool.xor_self])
    exact (xor_0 h0).symm
theorem eG_eq {N : zN} (hv : NV N) : eG N = gR N - mga N ∧ mga N ≤ gR N ∧ mga N ≤ gP N := by
  obtain ⟨-, hm⟩ := gw_lb (R := gR N) (P := gP N) (s := gs N) (e := ge N) (Nat.le_refl _) hv.se
  have hml : mga N ≤ gP N := mg_le _ hv.se
  have hm : eG N + mga N = gR N := hm
  exact ⟨by omega, by omega, hml⟩
