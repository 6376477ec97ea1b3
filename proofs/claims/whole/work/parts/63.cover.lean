/-! two even sets have all roads of a net of at most 6 posts without a bridge: melting pairs and triangles -/
abbrev zV : Type := BitVec 2
def vsum (f : Nat → zV) : Nat → zV
  | 0 => 0#2
  | n + 1 => vsum f n ^^^ f n
def inc (s e : Nat → Nat) (q i : Nat) : Bool := Bool.xor (decide (s i = q)) (decide (e i = q))
def vS (R : Nat) (s e : Nat → Nat) (x : Nat → zV) (q : Nat) : zV := vsum (fun i => bif inc s e q i then x i else 0#2) R
def vF (R : Nat) (s e : Nat → Nat) (x : Nat → zV) : Prop := (∀ q, vS R s e x q = 0#2) ∧ ∀ i, i < R → x i ≠ 0#2
/-- no set of posts with just one road out of it -/
def brl (R : Nat) (s e : Nat → Nat) : Prop := ∀ (X : Nat → Bool) (i : Nat), i < R → X (s i) ≠ X (e i) → ∃ j, j < R ∧ j ≠ i ∧ X (s j) ≠ X (e j)
theorem v_x4 (a b c d : zV) : (a ^^^ b) ^^^ (c ^^^ d) = (a ^^^ c) ^^^ (b ^^^ d) := by
  rw [BitVec.xor_assoc, BitVec.xor_assoc, ← BitVec.xor_assoc b, BitVec.xor_comm b c, BitVec.xor_assoc c]
theorem vsum_eq {f g : Nat → zV} : ∀ {n : Nat}, (∀ i, i < n → f i = g i) → vsum f n = vsum g n
  | 0, _ => rfl
  | n + 1, h => by
    rw [vsum, vsum, vsum_eq (fun i hi => h i (by omega)), h n (by omega)]
theorem vsum_x (f g : Nat → zV) : ∀ n, vsum (fun i => f i ^^^ g i) n = vsum f n ^^^ vsum g n
  | 0 => by
    rw [vsum, vsum, vsum]
    decide
  | n + 1 => by
    rw [vsum, vsum, vsum, vsum_x f g n, v_x4]
theorem vsum_0 {f : Nat → zV} : ∀ {n : Nat}, (∀ i, i < n → f i = 0#2) → vsum f n = 0#2
  | 0, _ => rfl
  | n + 1, h => by
    rw [vsum, vsum_0 (fun i hi => h i (by omega)), h n (by omega)]
    decide
theorem vsum_1 {f : Nat → zV} {k : Nat} : ∀ {n : Nat}, k < n → (∀ i, i < n → i ≠ k → f i = 0#2) → vsum f n = f k
  | 0, h, _ => absurd h (Nat.not_lt_zero k)
  | n + 1, h, h0 => by
    rw [vsum]
    by_cases c : k = n
    · subst c
      rw [vsum_0 (fun i hi => h0 i (by omega) (by omega)), BitVec.zero_xor]
    · rw [vsum_1 (by omega) (fun i hi hik => h0 i (by omega) hik), h0 n (by omega) (fun z => c z.symm), BitVec.xor_zero]
theorem bif_x (a b : Bool) (v : zV) : (bif Bool.xor a b then v else 0#2) = (bif a then v else 0#2) ^^^ (bif b then v else 0#2) := by
  cases a <;> cases b
  · exact (BitVec.xor_zero).symm
  · exact (BitVec.zero_xor).symm
  · exact (BitVec.xor_zero).symm
  · exact (BitVec.xor_self).symm
/-- a number changed at one road -/
def vup (x : Nat → zV) (k : Nat) (v : zV) (i : Nat) : zV := if i = k then v else x i
theorem vS_up {R : Nat} {s e : Nat → Nat} {x : Nat → zV} {k : Nat} (hk : k < R) (v : zV) (q : Nat) : vS R s e (vup x k v) q = vS R s e x q ^^^ (bif inc s e q k then x k ^^^ v else 0#2) := by
  have e1 : vS R s e (vup x k v) q = vsum (fun i => (bif inc s e q i then x i else 0#2) ^^^ (if i = k then (bif inc s e q k then x k ^^^ v else 0#2) else 0#2)) R := by
    refine vsum_eq (fun i _ => ?_)
    by_cases c : i = k
    · subst c
      rw [if_pos rfl, vup, if_pos rfl]
      cases inc s e q i
      · exact BitVec.xor_zero.symm
      · show v = x i ^^^ (x i ^^^ v)
        rw [← BitVec.xor_assoc, BitVec.xor_self, BitVec.zero_xor]
    · rw [if_neg c, vup, if_neg c, BitVec.xor_zero]
  rw [e1, vsum_x, vsum_1 (f := fun i => if i = k then (bif inc s e q k then x k ^^^ v else 0#2) else 0#2) hk (fun i _ hi => if_neg hi), if_pos rfl]
  rfl
/-- posts u and q become one -/
def isM (f : Nat → Nat) (u q : Nat) : Prop := f u = f q ∧ ∀ p p', f p = f p' → p = p' ∨ ((p = u ∨ p = q) ∧ (p' = u ∨ p' = q))
theorem m_off {f : Nat → Nat} {u q : Nat} (h : isM f u q) {R : Nat} {s e : Nat → Nat} (x : Nat → zV) {z : Nat} (hu : z ≠ u) (hq : z ≠ q) : vS R s e x z = vS R (fun i => f (s i)) (fun i => f (e i)) x (f z) := by
  have key : ∀ p, (f p = f z) = (p = z) := fun p => propext ⟨fun y => by
    rcases h.2 p z y with y | ⟨-, y | y⟩
    · exact y
    · exact absurd y hu
    · exact absurd y hq, fun y => by rw [y]⟩
  refine vsum_eq (fun i _ => ?_)
  unfold inc
  simp only [key]
theorem m_on {f : Nat → Nat} {u q : Nat} (h : isM f u q) (hne : u ≠ q) {R : Nat} {s e : Nat → Nat} (x : Nat → zV) : vS R s e x u ^^^ vS R s e x q = vS R (fun i => f (s i)) (fun i => f (e i)) x (f u) := by
  have key : ∀ p, decide (f p = f u) = Bool.xor (decide (p = u)) (decide (p = q)) := by
    intro p
    by_cases c1 : p = u
    · rw [c1, decide_eq_true rfl, decide_eq_true rfl, decide_eq_false hne]
      rfl
    · by_cases c2 : p = q
      · rw [c2, decide_eq_true h.1.symm, decide_eq_true rfl, decide_eq_false (fun y => hne y.symm)]
        rfl
      · rw [decide_eq_false c1, decide_eq_false c2, decide_eq_false]
        · rfl
        · intro y
          rcases h.2 p u y with y | ⟨y | y, -⟩
          · exact c1 y
          · exact c1 y
          · exact c2 y
  unfold vS
  rw [← vsum_x]
  refine vsum_eq (fun i _ => ?_)
  rw [← bif_x]
  congr 1
  unfold inc
  rw [key, key]
  cases decide (s i = u) <;> cases decide (s i = q) <;> cases decide (e i = u) <;> cases decide (e i = q) <;> rfl
theorem brl_m {R : Nat} {s e : Nat → Nat} (h : brl R s e) (f : Nat → Nat) : brl R (fun i => f (s i)) (fun i => f (e i)) := fun X i hi hx => h (fun p => X (f p)) i hi hx
/-- the post hi becomes lo, those behind it go one down -/
def mtd (lo hi p : Nat) : Nat := if p = hi then lo else if hi < p then p - 1 else p
theorem mtd_is {lo hi : Nat} (h : lo < hi) : isM (mtd lo hi) lo hi := by
  unfold isM mtd
  refine ⟨?_, fun p p' y => ?_⟩
  · rw [if_neg (by omega), if_neg (by omega), if_pos rfl]
  · split at y
    · split at y
      · omega
      · split at y <;> omega
    · split at y
      · split at y
        · omega
        · split at y <;> omega
      · split at y
        · omega
        · split at y <;> omega
theorem mtd_lt {lo hi n p : Nat} (h : lo < hi) (hn : hi < n + 1) (hp : p < n + 1) : mtd lo hi p < n := by
  unfold mtd
  split
  · omega
  · split <;> omega
/-- for two posts of n + 1 there is a melting to n posts -/
theorem m_ex {n u q : Nat} (hu : u < n + 1) (hq : q < n + 1) (hne : u ≠ q) : ∃ f, isM f u q ∧ ∀ p, p < n + 1 → f p < n := by
  by_cases c : u < q
  · exact ⟨mtd u q, mtd_is c, fun p hp => mtd_lt c hq hp⟩
  · have h := mtd_is (lo := q) (hi := u) (by omega)
    refine ⟨mtd q u, ⟨h.1.symm, fun p p' y => ?_⟩, fun p hp => mtd_lt (by omega) hu hp⟩
    rcases h.2 p p' y with y | ⟨y1, y2⟩
    · exact Or.inl y
    · exact Or.inr ⟨y1.symm, y2.symm⟩
theorem inc_t {s e : Nat → Nat} {q i : Nat} (h : inc s e q i = true) : (s i = q ∧ e i ≠ q) ∨ (s i ≠ q ∧ e i = q) := by
  unfold inc at h
  by_cases c1 : s i = q <;> by_cases c2 : e i = q <;> simp [c1, c2] at h
  · exact Or.inl ⟨c1, c2⟩
  · exact Or.inr ⟨c1, c2⟩
theorem inc_l {s e : Nat → Nat} {q i : Nat} (h1 : s i = q) (h2 : e i ≠ q) : inc s e q i = true := by
  unfold inc
  rw [decide_eq_true h1, decide_eq_false h2]
  rfl
theorem inc_r {s e : Nat → Nat} {q i : Nat} (h1 : s i ≠ q) (h2 : e i = q) : inc s e q i = true := by
  unfold inc
  rw [decide_eq_false h1, decide_eq_true h2]
  rfl
theorem inc_n {s e : Nat → Nat} {q i : Nat} (h1 : s i ≠ q) (h2 : e i ≠ q) : inc s e q i = false := by
  unfold inc
  rw [decide_eq_false h1, decide_eq_false h2]
  rfl
/-- road i joins the posts u and q -/
def jo (s e : Nat → Nat) (i u q : Nat) : Prop := (s i = u ∧ e i = q) ∨ (s i = q ∧ e i = u)
theorem jo_s {s e : Nat → Nat} {i u q : Nat} (h : jo s e i u q) : jo s e i q u := Or.symm h
theorem jo_inc {s e : Nat → Nat} {i u q z : Nat} (h : jo s e i u q) (hne : u ≠ q) : inc s e z i = (decide (z = u) || decide (z = q)) := by
  by_cases c1 : z = u
  · subst c1
    rcases h with ⟨h1, h2⟩ | ⟨h1, h2⟩
    · rw [inc_l h1 (by rw [h2]; exact fun y => hne y.symm)]
      simp
    · rw [inc_r (by rw [h1]; exact fun y => hne y.symm) h2]
      simp
  · by_cases c2 : z = q
    · subst c2
      rcases h with ⟨h1, h2⟩ | ⟨h1, h2⟩
      · rw [inc_r (by rw [h1]; exact hne) h2]
        simp
      · rw [inc_l h1 (by rw [h2]; exact hne)]
        simp
    · rw [inc_n]
      · simp [c1, c2]
      · rcases h with ⟨h1, h2⟩ | ⟨h1, h2⟩
        · rw [h1]; exact fun y => c1 y.symm
        · rw [h1]; exact fun y => c2 y.symm
      · rcases h with ⟨h1, h2⟩ | ⟨h1, h2⟩
        · rw [h2]; exact fun y => c2 y.symm
        · rw [h2]; exact fun y => c1 y.symm
theorem v_two : ∀ k : zV, ∃ a b : zV, a ≠ 0#2 ∧ b ≠ 0#2 ∧ a ^^^ b = k := by
  intro k
  have : ∀ k : zV, k = 0#2 ∨ k = 1#2 ∨ k = 2#2 ∨ k = 3#2 := by decide
  rcases this k with rfl | rfl | rfl | rfl
  · exact ⟨1#2, 1#2, by decide, by decide, by decide⟩
  · exact ⟨2#2, 3#2, by decide, by decide, by decide⟩
  · exact ⟨1#2, 3#2, by decide, by decide, by decide⟩
  · exact ⟨1#2, 2#2, by decide, by decide, by decide⟩
theorem v_avoid : ∀ p q r : zV, ∃ t : zV, t ≠ p ∧ t ≠ q ∧ t ≠ r := by decide
theorem v_ne {a b : zV} (h : b ≠ a) : a ^^^ b ≠ 0#2 := fun y => h (BitVec.xor_eq_zero_iff.mp y).symm
theorem v_par : ∀ S p q a b : zV, a ^^^ b = S ^^^ (p ^^^ q) → (S ^^^ (p ^^^ a)) ^^^ (q ^^^ b) = 0#2 := by decide +kernel
theorem v_tri1 : ∀ a x t y : zV, (a ^^^ (x ^^^ (x ^^^ t))) ^^^ (y ^^^ (y ^^^ (a ^^^ t))) = 0#2 := by decide +kernel
theorem v_tri2 : ∀ a b c y z t : zV, (a ^^^ b) ^^^ c = 0#2 → (c ^^^ (y ^^^ (y ^^^ (b ^^^ t)))) ^^^ (z ^^^ (z ^^^ (a ^^^ t))) = 0#2 := by decide +kernel
/-- two roads between two posts -/
theorem cov_par {R n : Nat} {s e : Nat → Nat} (IH : ∀ (s e : Nat → Nat), (∀ i, i < R → s i < n ∧ e i < n) → brl R s e → ∃ x, vF R s e x) (hse : ∀ i, i < R → s i < n + 1 ∧ e i < n + 1) (hb : brl R s e) {i j u q : Nat} (hi : i < R) (hj : j < R) (hij : i ≠ j) (hne : u ≠ q) (h1 : jo s e i u q) (h2 : jo s e j u q) : ∃ x, vF R s e x := by
  have hu : u < n + 1 := by
    rcases h1 with ⟨y1, y2⟩ | ⟨y1, y2⟩
    · rw [← y1]; exact (hse i hi).1
    · rw [← y2]; exact (hse i hi).2
  have hq : q < n + 1 := by
    rcases h1 with ⟨y1, y2⟩ | ⟨y1, y2⟩
    · rw [← y2]; exact (hse i hi).2
    · rw [← y1]; exact (hse i hi).1
  obtain ⟨f, hm, hf⟩ := m_ex hu hq hne
  obtain ⟨x, hx1, hx2⟩ := IH (fun k => f (s k)) (fun k => f (e k)) (fun k hk => ⟨hf _ (hse k hk).1, hf _ (hse k hk).2⟩) (brl_m hb f)
  have huq : vS R s e x u = vS R s e x q := by
    have := m_on hm hne (R := R) (s := s) (e := e) x
    rw [hx1] at this
    exact BitVec.xor_eq_zero_iff.mp this
  obtain ⟨a, b, ha, hb2, hab⟩ := v_two (vS R s e x q ^^^ (x i ^^^ x j))
  refine ⟨vup (vup x i a) j b, fun z => ?_, fun k hk => ?_⟩
  · have exj : vup x i a j = x j := by rw [vup, if_neg (fun y => hij y.symm)]
    rw [vS_up hj, vS_up hi, jo_inc h1 hne, jo_inc h2 hne, exj]
    have fin : ∀ S : zV, S = vS R s e x q → (S ^^^ (x i ^^^ a)) ^^^ (x j ^^^ b) = 0#2 := by
      intro S hS
      rw [← hS] at hab
      exact v_par _ _ _ _ _ hab
    by_cases c1 : z = u
    · subst c1
      simp only [decide_true, Bool.true_or, cond_true]
      exact fin _ huq
    · by_cases c2 : z = q
      · subst c2
        simp only [decide_true, Bool.or_true, cond_true]
        exact fin _ rfl
      · rw [decide_eq_false c1, decide_eq_false c2]
        simp only [Bool.or_self, cond_false, BitVec.xor_zero]
        rw [m_off hm x c1 c2]
        exact hx1 _
  · unfold vup
    split
    · exact hb2
    · split
      · exact ha
      · exact hx2 k hk
/-- three roads round three posts -/
theorem cov_tri {R n : Nat} {s e : Nat → Nat} (IH : ∀ (s e : Nat → Nat), (∀ i, i < R → s i < n ∧ e i < n) → brl R s e → ∃ x, vF R s e x) (hse : ∀ i, i < R → s i < n + 2 ∧ e i < n + 2) (hb : brl R s e) {i j k u q r : Nat} (hi : i < R) (hj : j < R) (hk : k < R) (huq : u ≠ q) (hqr : q ≠ r) (hru : r ≠ u) (h1 : jo s e i u q) (h2 : jo s e j q r) (h3 : jo s e k r u) : ∃ x, vF R s e x := by
  have ends : ∀ {i u q : Nat}, i < R → jo s e i u q → u < n + 2 ∧ q < n + 2 := by
    intro i u q hi h
    have := hse i hi
    rcases h with ⟨y1, y2⟩ | ⟨y1, y2⟩ <;> omega
  have hu := (ends hi h1).1
  have hq := (ends hi h1).2
  have hr := (ends hj h2).2
  obtain ⟨f, hm, hf⟩ := m_ex (n := n + 1) hu hq huq
  have fru : f u ≠ f r := fun y => by
    rcases hm.2 u r y with y | ⟨-, y | y⟩
    · exact hru y.symm
    · exact hru y
    · exact hqr y.symm
  obtain ⟨g, gm, hg⟩ := m_ex (n := n) (hf u hu) (hf r hr) fru
  obtain ⟨x, hx1, hx2⟩ := IH (fun k => g (f (s k))) (fun k => g (f (e k))) (fun k hk => ⟨hg _ (hf _ (hse k hk).1), hg _ (hf _ (hse k hk).2)⟩) (brl_m (brl_m hb f) g)
  have s1 := m_on hm huq (R := R) (s := s) (e := e) x
  have s2 := m_off hm (R := R) (s := s) (e := e) x (z := r) hru (fun y => hqr y.symm)
  have s3 := m_on gm fru (R := R) (s := fun k => f (s k)) (e := fun k => f (e k)) x
  rw [hx1, ← s1, ← s2] at s3
  obtain ⟨t, t1, t2, t3⟩ := v_avoid (x i) (x j ^^^ vS R s e x q) (x k ^^^ vS R s e x u)
  have nij : i ≠ j := fun y => by
    subst y
    rcases h1 with ⟨y1, y2⟩ | ⟨y1, y2⟩ <;> rcases h2 with ⟨y3, y4⟩ | ⟨y3, y4⟩ <;> omega
  have nik : i ≠ k := fun y => by
    subst y
    rcases h1 with ⟨y1, y2⟩ | ⟨y1, y2⟩ <;> rcases h3 with ⟨y3, y4⟩ | ⟨y3, y4⟩ <;> omega
  have njk : j ≠ k := fun y => by
    subst y
    rcases h2 with ⟨y1, y2⟩ | ⟨y1, y2⟩ <;> rcases h3 with ⟨y3, y4⟩ | ⟨y3, y4⟩ <;> omega
  refine ⟨vup (vup (vup x i (x i ^^^ t)) j (x j ^^^ (vS R s e x q ^^^ t))) k (x k ^^^ (vS R s e x u ^^^ t)), fun z => ?_, fun m hm2 => ?_⟩
  · have ej : vup x i (x i ^^^ t) j = x j := by rw [vup, if_neg (fun y => nij y.symm)]
    have ek : vup (vup x i (x i ^^^ t)) j (x j ^^^ (vS R s e x q ^^^ t)) k = x k := by rw [vup, if_neg (fun y => njk y.symm), vup, if_neg (fun y => nik y.symm)]
    rw [vS_up hk, vS_up hj, vS_up hi, jo_inc h1 huq, jo_inc h2 hqr, jo_inc h3 hru, ej, ek]
    by_cases c1 : z = u
    · rw [decide_eq_true c1, decide_eq_false (show ¬ z = q by omega), decide_eq_false (show ¬ z = r by omega), c1]
      simp only [Bool.true_or, Bool.or_true, Bool.or_self, cond_true, cond_false, BitVec.xor_zero]
      exact v_tri1 _ _ _ _
    · by_cases c2 : z = q
      · rw [decide_eq_false c1, decide_eq_true c2, decide_eq_false (show ¬ z = r by omega), c2]
        simp only [Bool.true_or, Bool.or_true, Bool.or_self, cond_true, cond_false, BitVec.xor_zero]
        exact v_tri1 _ _ _ _
      · by_cases c3 : z = r
        · rw [decide_eq_false c1, decide_eq_false c2, decide_eq_true c3, c3]
          simp only [Bool.true_or, Bool.or_true, Bool.or_self, cond_true, cond_false, BitVec.xor_zero]
          exact v_tri2 _ _ _ _ _ _ s3
        · rw [decide_eq_false c1, decide_eq_false c2, decide_eq_false c3]
          simp only [Bool.or_self, cond_false, BitVec.xor_zero]
          have fz : ∀ w, (w = u ∨ w = r) → f z ≠ f w := fun w hw y => by
            rcases hm.2 z w y with y | ⟨y | y, -⟩
            · rcases hw with hw | hw
              · exact c1 (y.trans hw)
              · exact c3 (y.trans hw)
            · exact c1 y
            · exact c2 y
          rw [m_off hm x c1 c2, m_off gm x (fz u (Or.inl rfl)) (fz r (Or.inr rfl))]
          exact hx1 _
  · unfold vup
    split
    · rw [← BitVec.xor_assoc]
      exact v_ne t3
    · split
      · rw [← BitVec.xor_assoc]
        exact v_ne t2
      · split
        · exact v_ne t1
        · exact hx2 m hm2
/-- a post with at most two roads -/
theorem cov_deg {R n : Nat} {s e : Nat → Nat} (IH : ∀ (s e : Nat → Nat), (∀ i, i < R → s i < n ∧ e i < n) → brl R s e → ∃ x, vF R s e x) (hse : ∀ i, i < R → s i < n + 1 ∧ e i < n + 1) (hb : brl R s e) {q u0 : Nat} (hq : q < n + 1) (hu0 : u0 < n + 1) (hne0 : u0 ≠ q) {i j : Nat} (h : ∀ k, k < R → inc s e q k = true → k = i ∨ k = j) : ∃ x, vF R s e x := by
  have other : ∀ {f : Nat → Nat} {u : Nat} {x : Nat → zV}, isM f u q → u ≠ q → (∀ z, vS R (fun i => f (s i)) (fun i => f (e i)) x z = 0#2) → vS R s e x u = vS R s e x q ∧ ∀ z, z ≠ u → z ≠ q → vS R s e x z = 0#2 := by
    intro f u x hm hne hx
    have := m_on hm hne (R := R) (s := s) (e := e) x
    rw [hx] at this
    exact ⟨BitVec.xor_eq_zero_iff.mp this, fun z h1 h2 => by rw [m_off hm x h1 h2]; exact hx _⟩
  by_cases c0 : ∃ k, k < R ∧ inc s e q k = true
  · obtain ⟨a, ha, hia⟩ := c0
    obtain ⟨b, hb1, hb2, hb3⟩ := hb (fun p => decide (p = q)) a ha (by
      rcases inc_t hia with ⟨y1, y2⟩ | ⟨y1, y2⟩
      · rw [decide_eq_true y1, decide_eq_false y2]; decide
      · rw [decide_eq_false y1, decide_eq_true y2]; decide)
    have hib : inc s e q b = true := by
      by_cases y1 : s b = q <;> by_cases y2 : e b = q
      · exact absurd (by rw [decide_eq_true y1, decide_eq_true y2]) hb3
      · exact inc_l y1 y2
      · exact inc_r y1 y2
      · exact absurd (by rw [decide_eq_false y1, decide_eq_false y2]) hb3
    have hall : ∀ k, k < R → k ≠ a → k ≠ b → inc s e q k = false := by
      intro k hk k1 k2
      cases y : inc s e q k
      · rfl
      · have h1 := h k hk y
        have h2 := h a ha hia
        have h3 := h b hb1 hib
        omega
    obtain ⟨u, hju, hnu, hul⟩ : ∃ u, jo s e a u q ∧ u ≠ q ∧ u < n + 1 := by
      rcases inc_t hia with ⟨y1, y2⟩ | ⟨y1, y2⟩
      · exact ⟨e a, Or.inr ⟨y1, rfl⟩, y2, (hse a ha).2⟩
      · exact ⟨s a, Or.inl ⟨rfl, y2⟩, y1, (hse a ha).1⟩
    obtain ⟨f, hm, hf⟩ := m_ex hul hq hnu
    obtain ⟨x, hx1, hx2⟩ := IH (fun k => f (s k)) (fun k => f (e k)) (fun k hk => ⟨hf _ (hse k hk).1, hf _ (hse k hk).2⟩) (brl_m hb f)
    obtain ⟨o1, o2⟩ := other hm hnu hx1
    have hsq : vS R s e x q = x a ^^^ x b := by
      have e1 : vS R s e x q = vsum (fun k => (if k = a then x a else 0#2) ^^^ (if k = b then x b else 0#2)) R := by
        refine vsum_eq (fun k hk => ?_)
        by_cases k1 : k = a
        · rw [if_pos k1, if_neg (show ¬ k = b from fun y => hb2 (y.symm.trans k1)), k1, hia, BitVec.xor_zero]
          rfl
        · by_cases k2 : k = b
          · rw [if_neg k1, if_pos k2, k2, hib, BitVec.zero_xor]
            rfl
          · rw [if_neg k1, if_neg k2, hall k hk k1 k2, BitVec.xor_zero]
            rfl
      rw [e1, vsum_x, vsum_1 (f := fun k => if k = a then x a else 0#2) ha (fun k _ hk => if_neg hk), vsum_1 (f := fun k => if k = b then x b else 0#2) hb1 (fun k _ hk => if_neg hk), if_pos rfl, if_pos rfl]
    refine ⟨vup x a (x b), fun z => ?_, fun k hk => ?_⟩
    · rw [vS_up ha, jo_inc hju hnu]
      by_cases c1 : z = u
      · rw [decide_eq_true c1, c1, o1, hsq]
        exact BitVec.xor_self
      · by_cases c2 : z = q
        · rw [decide_eq_false c1, decide_eq_true c2, c2, hsq]
          exact BitVec.xor_self
        · rw [decide_eq_false c1, decide_eq_false c2, o2 z c1 c2]
          exact BitVec.xor_self
    · unfold vup
      split
      · exact hx2 b hb1
      · exact hx2 k hk
  · obtain ⟨f, hm, hf⟩ := m_ex hu0 hq hne0
    obtain ⟨x, hx1, hx2⟩ := IH (fun k => f (s k)) (fun k => f (e k)) (fun k hk => ⟨hf _ (hse k hk).1, hf _ (hse k hk).2⟩) (brl_m hb f)
    obtain ⟨o1, o2⟩ := other hm hne0 hx1
    have hsq : vS R s e x q = 0#2 := vsum_0 (fun k hk => by
      cases y : inc s e q k
      · rfl
      · exact absurd ⟨k, hk, y⟩ c0)
    refine ⟨x, fun z => ?_, hx2⟩
    by_cases c1 : z = u0
    · rw [c1, o1, hsq]
    · by_cases c2 : z = q
      · rw [c2, hsq]
      · exact o2 z c1 c2
