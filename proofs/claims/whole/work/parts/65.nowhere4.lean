/-! two even sets that have all roads; a NOWHERE of size 4 -/
def bn (x : Nat → Bool) : Nat → Nat
  | 0 => 0
  | n + 1 => bn x n + (if x n = true then 2 ^ n else 0)
theorem bn_lt (x : Nat → Bool) : ∀ n, bn x n < 2 ^ n
  | 0 => by simp [bn]
  | n + 1 => by
    have := bn_lt x n
    rw [bn, Nat.pow_succ]
    split <;> omega
theorem bn_bit (x : Nat → Bool) : ∀ {n j : Nat}, j < n → (bn x n).testBit j = x j
  | 0, j, h => absurd h (Nat.not_lt_zero j)
  | n + 1, j, h => by
    have hl := bn_lt x n
    rw [bn]
    by_cases q : j = n
    · subst q
      by_cases c : x j = true
      · rw [if_pos c, Nat.add_comm, Nat.testBit_two_pow_add_eq, Nat.testBit_lt_two_pow hl, c]
        rfl
      · rw [if_neg c, Nat.add_zero, Nat.testBit_lt_two_pow hl]
        simpa using c
    · have ih := bn_bit x (n := n) (j := j) (by omega)
      by_cases c : x n = true
      · rw [if_pos c, Nat.add_comm, Nat.testBit_two_pow_add_gt (by omega), ih]
      · rw [if_neg c, Nat.add_zero, ih]
theorem od_xs (s e : Nat → Nat) (T : Nat) : ∀ n q, od s e T n q = xs (fun i => T.testBit i && inc s e q i) n
  | 0, _ => rfl
  | n + 1, q => by
    rw [od, xs, od_xs s e T n q]
    rfl
theorem vsum_bit (f : Nat → zV) (k : Nat) : ∀ n, (vsum f n).getLsbD k = xs (fun i => (f i).getLsbD k) n
  | 0 => by
    rw [vsum, xs, BitVec.getLsbD_zero]
  | n + 1 => by
    rw [vsum, xs, BitVec.getLsbD_xor, vsum_bit f k n]
theorem vF_even {P R : Nat} {s e : Nat → Nat} {x : Nat → zV} (h : vF R s e x) (k : Nat) : evn P R s e (bn (fun i => (x i).getLsbD k) R) := by
  intro q _
  rw [od_xs]
  have h1 := congrArg (fun v => BitVec.getLsbD v k) (h.1 q)
  simp only [BitVec.getLsbD_zero] at h1
  unfold vS at h1
  rw [vsum_bit] at h1
  rw [← h1]
  refine xs_eq (fun i hi => ?_)
  rw [bn_bit _ hi]
  cases inc s e q i
  · rw [Bool.and_false]
    exact (BitVec.getLsbD_zero).symm
  · rw [Bool.and_true]
    rfl
theorem v_some : ∀ v : zV, v ≠ 0#2 → (v.getLsbD 0 || v.getLsbD 1) = true := by decide
theorem off_brl {N : zN} (hv : NV N) (h : offN N = 0) : brl (gR N) (gs N) (ge N) := by
  intro X i hi hx
  refine Classical.byContradiction fun z => ?_
  have hnb : ¬ (offN N).testBit i = true := by
    rw [h, Nat.zero_testBit]
    decide
  obtain ⟨T, hT, hE, hTi⟩ : ∃ T, T < 2 ^ gR N ∧ isE N T ∧ T.testBit i = true := by
    refine Classical.byContradiction fun y => hnb ((off_bit hv i).mpr ⟨hi, fun T hT hE => ?_⟩)
    cases c : T.testBit i
    · rfl
    · exact absurd ⟨T, hT, hE, c⟩ y
  have hc := cut_one (s := gs N) (e := ge N) (T := T) (r := i) (X := X) hTi hx (n := gR N) (fun j hj hji _ => Classical.byContradiction fun y => z ⟨j, hj, hji, y⟩)
  rw [evn_cut hE hv.se, decide_eq_true hi] at hc
  cases hc
theorem two_even {N : zN} (hv : NV N) (h : offN N = 0) : ∃ A B, A < 2 ^ gR N ∧ B < 2 ^ gR N ∧ isE N A ∧ isE N B ∧ A ||| B = 2 ^ gR N - 1 := by
  obtain ⟨P, R, eP, hP, egP, eR, hR, eg, hse⟩ := hv.nat
  obtain ⟨x, hx⟩ := cov_all (R := gR N) (gP N) (by omega) (gs N) (ge N) hv.se (off_brl hv h)
  refine ⟨bn (fun i => (x i).getLsbD 0) (gR N), bn (fun i => (x i).getLsbD 1) (gR N), bn_lt _ _, bn_lt _ _, vF_even hx 0, vF_even hx 1, ?_⟩
  apply Nat.eq_of_testBit_eq
  intro j
  rw [Nat.testBit_or, all_bit]
  by_cases c : j < gR N
  · rw [bn_bit _ c, bn_bit _ c, decide_eq_true c]
    exact v_some _ (hx.2 j c)
  · have l1 : ∀ y : Nat → Bool, (bn y (gR N)).testBit j = false := fun y => Nat.testBit_lt_two_pow (Nat.lt_of_lt_of_le (bn_lt y _) (Nat.pow_le_pow_right (by omega) (by omega)))
    rw [l1, l1, decide_eq_false c]
    rfl
/-- what flows into a post less what flows out -/
def fsum (R : Nat) (s e : Nat → Nat) (f : Nat → Int) (q : Nat) : Int := bsum (fun i => (if e i = q then f i else 0) - (if s i = q then f i else 0)) R
theorem xs_other {g : Nat → Bool} {i R : Nat} (hi : i < R) (h1 : g i = true) (h2 : xs g R = false) : ∃ j, j < R ∧ j ≠ i ∧ g j = true := by
  refine Classical.byContradiction fun z => ?_
  have : xs g R = xs (fun k => true && decide (i = k)) R := xs_eq (fun k hk => by
    by_cases c : i = k
    · subst c
      rw [h1, decide_eq_true rfl]
      rfl
    · rw [decide_eq_false c]
      cases y : g k
      · rfl
      · exact absurd ⟨k, hk, fun w => c w.symm, y⟩ z)
  have e1 := xs_one (X := fun _ => true) (a := i) (n := R)
  rw [this, e1, decide_eq_true hi] at h2
  cases h2
theorem xs_pair {F G : Nat → Bool} {i j R : Nat} {α : Bool} (hi : i < R) (hj : j < R) (h : ∀ k, k < R → Bool.xor (F k) (G k) = Bool.xor (α && decide (i = k)) (α && decide (j = k))) : xs F R = xs G R := by
  have h1 := xs_xor F G R
  rw [xs_eq h, xs_xor, xs_one (X := fun _ => α), xs_one (X := fun _ => α), decide_eq_true hi, decide_eq_true hj, Bool.true_and, Bool.xor_self] at h1
  revert h1
  cases xs F R <;> cases xs G R <;> simp
theorem bsum_pair {F G : Nat → Int} {i j R : Nat} {A : Int} (hi : i < R) (hj : j < R) (h : ∀ k, k < R → F k = G k + ((if i = k then A else 0) + (if j = k then -A else 0))) : bsum F R = bsum G R := by
  rw [bsum_eq h, bsum_add, bsum_add, bsum_one (fun _ => A) hi, bsum_one (fun _ => -A) hj]
  omega
def rds (x : Nat → Nat) (j v k : Nat) : Nat := if k = j then v else x k
theorem rds_e (x : Nat → Nat) (j v : Nat) : rds x j v j = v := if_pos rfl
theorem rds_n {x : Nat → Nat} {j v k : Nat} (h : ¬ k = j) : rds x j v k = x k := if_neg h
def rdm (m : Nat → Bool) (i k : Nat) : Bool := if k = i then false else m k
theorem rdm_e (m : Nat → Bool) (i : Nat) : rdm m i i = false := if_pos rfl
theorem rdm_n {m : Nat → Bool} {i k : Nat} (h : ¬ k = i) : rdm m i k = m k := if_neg h
def rdf (f : Nat → Int) (sg : Int) (i j k : Nat) : Int := if k = i then f j else if k = j then sg * f j else f k
/-- an even set of roads carries ones, so that no post is off -/
theorem eul {R : Nat} : ∀ (c : Nat) (s e : Nat → Nat) (m : Nat → Bool), cn (fun i => m i = true) R = c → (∀ q, xs (fun i => m i && inc s e q i) R = false) → ∃ f : Nat → Int, (∀ i, i < R → m i = true → f i = 1 ∨ f i = -1) ∧ (∀ i, i < R → m i = false → f i = 0) ∧ ∀ q, fsum R s e f q = 0 := by
  intro c
  induction c with
  | zero =>
    intro s e m hc hq
    have no : ∀ i, i < R → m i = false := by
      intro i hi
      cases y : m i
      · rfl
      · have := cn_pos (f := fun i => m i = true) y hi
        omega
    refine ⟨fun _ => 0, fun i hi z => ?_, fun i _ _ => rfl, fun q => bsum_0 (fun i _ => ?_)⟩
    · rw [no i hi] at z
      cases z
    · simp
  | succ c ih =>
    intro s e m hc hq
    by_cases cl : ∃ i, i < R ∧ m i = true ∧ s i ≠ e i
    · obtain ⟨i, hi, hm, hne⟩ := cl
      obtain ⟨j, hj, hji, hg⟩ := xs_other (g := fun k => m k && inc s e (e i) k) hi (by
        show (m i && inc s e (e i) i) = true
        rw [hm, inc_r hne rfl]
        rfl) (hq (e i))
      have hg : (m j && inc s e (e i) j) = true := hg
      rw [Bool.and_eq_true] at hg
      obtain ⟨hmj, hij⟩ := hg
      have hij' : i ≠ j := fun y => hji y.symm
      -- road j from b = e i to its other end
      have key : ∀ (cc : Nat) (sg : Int), ((s j = e i ∧ e j = cc ∧ sg = 1) ∨ (e j = e i ∧ s j = cc ∧ sg = -1)) → ∃ f : Nat → Int, (∀ i, i < R → m i = true → f i = 1 ∨ f i = -1) ∧ (∀ i, i < R → m i = false → f i = 0) ∧ ∀ q, fsum R s e f q = 0 := by
        intro cc sg hcc
        obtain ⟨f, f1, f2, f3⟩ := ih (rds s j (s i)) (rds e j cc) (rdm m i) (by
          have := cn_drop (f := fun k => m k = true) (g := fun k => rdm m i k = true) (a := i) hm (fun k => by
            by_cases y : k = i
            · rw [y, rdm_e]
              simp
            · rw [rdm_n y]
              simp [y]) hi
          omega) (fun q => by
          refine (xs_pair (F := fun k => m k && inc s e q k) (i := i) (j := j) (α := inc s e q i) hi hj (fun k hk => ?_)).symm.trans (hq q)
          by_cases k1 : k = i
          · rw [k1, rdm_e, hm, decide_eq_true rfl, decide_eq_false hji]
            cases inc s e q i <;> rfl
          · by_cases k2 : k = j
            · rw [k2, rdm_n hji, hmj, decide_eq_false hij', decide_eq_true rfl]
              unfold inc
              rw [rds_e, rds_e]
              rcases hcc with ⟨y1, y2, -⟩ | ⟨y1, y2, -⟩
              · rw [y1, y2]
                cases decide (s i = q) <;> cases decide (e i = q) <;> cases decide (cc = q) <;> rfl
              · rw [y1, y2]
                cases decide (s i = q) <;> cases decide (e i = q) <;> cases decide (cc = q) <;> rfl
            · have e1 : inc (rds s j (s i)) (rds e j cc) q k = inc s e q k := by
                unfold inc
                rw [rds_n k2, rds_n k2]
              rw [rdm_n k1, e1, decide_eq_false (fun y => k1 y.symm), decide_eq_false (fun y => k2 y.symm), Bool.xor_self]
              simp)
        have f1j : f j = 1 ∨ f j = -1 := f1 j hj (by rw [rdm_n hji]; exact hmj)
        have f2i : f i = 0 := f2 i hi (rdm_e m i)
        refine ⟨rdf f sg i j, fun k hk hmk => ?_, fun k hk hmk => ?_, fun q => ?_⟩
        · by_cases k1 : k = i
          · rw [rdf, if_pos k1]
            exact f1j
          · by_cases k2 : k = j
            · rw [rdf, if_neg k1, if_pos k2]
              rcases hcc with ⟨-, -, rfl⟩ | ⟨-, -, rfl⟩ <;> rcases f1j with y | y <;> rw [y] <;> decide
            · rw [rdf, if_neg k1, if_neg k2]
              exact f1 k hk (by rw [rdm_n k1]; exact hmk)
        · rw [rdf, if_neg (fun y => by rw [y, hm] at hmk; cases hmk), if_neg (fun y => by rw [y, hmj] at hmk; cases hmk)]
          refine f2 k hk ?_
          by_cases k1 : k = i
          · rw [k1, rdm_e]
          · rw [rdm_n k1]
            exact hmk
        · refine (bsum_pair (i := i) (j := j) (A := (if e i = q then f j else 0) - (if s i = q then f j else 0)) hi hj (fun k hk => ?_)).trans (f3 q)
          by_cases k1 : k = i
          · have a1 : rds e j cc k = e k := rds_n (by rw [k1]; exact hij')
            have a2 : rds s j (s i) k = s k := rds_n (by rw [k1]; exact hij')
            rw [a1, a2, rdf, if_pos k1, k1, f2i, if_pos rfl, if_neg hji]
            simp
          · by_cases k2 : k = j
            · rw [k2, rds_e, rds_e, rdf, if_neg hji, if_pos rfl, if_neg hij', if_pos rfl]
              rcases hcc with ⟨y1, y2, rfl⟩ | ⟨y1, y2, rfl⟩
              · rw [y1, y2, Int.one_mul]
                omega
              · rw [y1, y2, Int.neg_mul, Int.one_mul]
                split <;> split <;> split <;> omega
            · have z1 : ¬ i = k := fun y => k1 y.symm
              have z2 : ¬ j = k := fun y => k2 y.symm
              rw [rds_n k2, rds_n k2, rdf, if_neg k1, if_neg k2, if_neg z1, if_neg z2]
              omega
      rcases inc_t hij with ⟨y1, y2⟩ | ⟨y1, y2⟩
      · exact key (e j) 1 (Or.inl ⟨y1, rfl, rfl⟩)
      · exact key (s j) (-1) (Or.inr ⟨y2, rfl, rfl⟩)
    · refine ⟨fun i => if m i = true then 1 else 0, fun i _ z => Or.inl (if_pos z), fun i _ z => if_neg (fun w => by rw [z] at w; cases w), fun q => bsum_0 (fun i hi => ?_)⟩
      · by_cases y : m i = true
        · have : s i = e i := Classical.byContradiction fun w => cl ⟨i, hi, y, w⟩
          rw [this]
          omega
        · simp [y]
/-- a NOWHERE of size 4 -/
theorem nw4 {N : zN} (hv : NV N) (h : offN N = 0) : ∃ f : Nat → Int, (∀ i, i < gR N → f i ≠ 0 ∧ -3 ≤ f i ∧ f i ≤ 3) ∧ ∀ q, fsum (gR N) (gs N) (ge N) f q = 0 := by
  obtain ⟨A, B, hA, hB, eA, eB, hAB⟩ := two_even hv h
  have ev : ∀ T, T < 2 ^ gR N → isE N T → ∃ f : Nat → Int, (∀ i, i < gR N → T.testBit i = true → f i = 1 ∨ f i = -1) ∧ (∀ i, i < gR N → T.testBit i = false → f i = 0) ∧ ∀ q, fsum (gR N) (gs N) (ge N) f q = 0 := by
    intro T hT hE
    refine eul _ (gs N) (ge N) (fun i => T.testBit i) rfl (fun q => ?_)
    by_cases c : q < gP N
    · have := hE q c
      rw [od_xs] at this
      exact this
    · refine xs_f (fun i hi => ?_)
      have := hv.se i hi
      rw [inc_n (by omega) (by omega), Bool.and_false]
  obtain ⟨f, f1, f2, f3⟩ := ev A hA eA
  obtain ⟨g, g1, g2, g3⟩ := ev B hB eB
  refine ⟨fun i => f i + 2 * g i, fun i hi => ?_, fun q => ?_⟩
  · have hb := congrArg (fun x => x.testBit i) hAB
    simp only [Nat.testBit_or, all_bit, decide_eq_true hi] at hb
    show f i + 2 * g i ≠ 0 ∧ -3 ≤ f i + 2 * g i ∧ f i + 2 * g i ≤ 3
    cases ca : A.testBit i <;> cases cb : B.testBit i
    · rw [ca, cb] at hb
      cases hb
    · have := f2 i hi ca
      have := g1 i hi cb
      omega
    · have := f1 i hi ca
      have := g2 i hi cb
      omega
    · have := f1 i hi ca
      have := g1 i hi cb
      omega
  · have e1 : fsum (gR N) (gs N) (ge N) (fun i => f i + 2 * g i) q = fsum (gR N) (gs N) (ge N) f q + (fsum (gR N) (gs N) (ge N) g q + fsum (gR N) (gs N) (ge N) g q) := by
      unfold fsum
      rw [← bsum_add, ← bsum_add]
      refine bsum_eq (fun i _ => ?_)
      show (if ge N i = q then f i + 2 * g i else 0) - (if gs N i = q then f i + 2 * g i else 0) = (if ge N i = q then f i else 0) - (if gs N i = q then f i else 0) + ((if ge N i = q then g i else 0) - (if gs N i = q then g i else 0) + ((if ge N i = q then g i else 0) - (if gs N i = q then g i else 0)))
      split <;> split <;> omega
    rw [e1, f3, g3]
    rfl
