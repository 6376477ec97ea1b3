/-! both polynomials at -1 count pointings -/
theorem bsum_split (f : Nat → Int) (m : Nat) : ∀ n, bsum f (m + n) = bsum f m + bsum (fun t => f (m + t)) n
  | 0 => by
    rw [Nat.add_zero, bsum, Int.add_zero]
  | n + 1 => by
    rw [← Nat.add_assoc, bsum, bsum, bsum_split f m n]
    omega
theorem bsum_add (f g : Nat → Int) : ∀ n, bsum (fun t => f t + g t) n = bsum f n + bsum g n
  | 0 => rfl
  | n + 1 => by
    rw [bsum, bsum, bsum, bsum_add f g n]
    omega
theorem bsum_neg (f : Nat → Int) : ∀ n, bsum (fun t => - f t) n = - bsum f n
  | 0 => rfl
  | n + 1 => by
    rw [bsum, bsum, bsum_neg f n]
    omega
theorem bsum_mul (c : Int) (f : Nat → Int) : ∀ n, bsum (fun t => c * f t) n = c * bsum f n
  | 0 => by rw [bsum, bsum, Int.mul_zero]
  | n + 1 => by
    rw [bsum, bsum, bsum_mul c f n, Int.mul_add]
theorem sgn_s (n : Nat) : sgn (n + 1) = - sgn n := by
  unfold sgn
  by_cases h : n % 2 = 0
  · rw [if_pos h, if_neg (by omega)]
  · rw [if_neg h, if_pos (by omega)]
    rfl
theorem sgn_add (a : Nat) : ∀ b, sgn (a + b) = sgn a * sgn b
  | 0 => by
    rw [Nat.add_zero, show sgn 0 = 1 from rfl, Int.mul_one]
  | b + 1 => by
    rw [← Nat.add_assoc, sgn_s, sgn_s, sgn_add a b, Int.mul_neg]
theorem sgn_sq (a : Nat) : sgn a * sgn a = 1 := by
  unfold sgn
  split <;> rfl
theorem sgn_sub {a b : Nat} (h : b ≤ a) : sgn (a - b) = sgn a * sgn b := by
  have := sgn_add (a - b) b
  rw [Nat.sub_add_cancel h] at this
  rw [this, Int.mul_assoc, sgn_sq, Int.mul_one]
theorem mlt_jn {P : Nat} {s e : Nat → Nat} {S c d : Nat} (hc : c < P) (hd' : d < P) (hne : c ≠ d) : ∀ {n : Nat}, (∀ i, i < n → s i < P ∧ e i < P) → jn P (lb s e S n) (fun p => lb (fun i => mlt c d (s i)) (fun i => mlt c d (e i)) S n (mlt c d p)) c d ∧ mg s e S n + (if lb s e S n c ≠ lb s e S n d then 1 else 0) = mg (fun i => mlt c d (s i)) (fun i => mlt c d (e i)) S n + 1
  | 0, _ => by
    refine ⟨fun p q _ _ => ?_, ?_⟩
    · show mlt c d p = mlt c d q ↔ (p = q ∨ (p = c ∧ d = q) ∨ (p = d ∧ c = q))
      unfold mlt
      by_cases h1 : p = c <;> by_cases h2 : q = c
      · rw [if_pos h1, if_pos h2]; omega
      · rw [if_pos h1, if_neg h2]; omega
      · rw [if_neg h1, if_pos h2]; omega
      · rw [if_neg h1, if_neg h2]; omega
    · show 0 + (if c ≠ d then 1 else 0) = 0 + 1
      rw [if_pos hne]
  | n + 1, h => by
    obtain ⟨J, hm⟩ := mlt_jn (s := s) (e := e) (S := S) hc hd' hne (n := n) (fun i hi => h i (by omega))
    obtain ⟨hu, hv⟩ := h n (by omega)
    by_cases k : S.testBit n = true
    · have hl : (fun p => lb (fun i => mlt c d (s i)) (fun i => mlt c d (e i)) S (n + 1) (mlt c d p)) = mrg (fun p => lb (fun i => mlt c d (s i)) (fun i => mlt c d (e i)) S n (mlt c d p)) (s n) (e n) := by
        rw [lb_mrg k]
        rfl
      rw [hl, lb_mrg k, mg_on k, mg_on k]
      refine ⟨jn_step hc hd' hu hv J, ?_⟩
      have := jn_cnt hu hv J
      omega
    · have k : S.testBit n = false := by simpa using k
      obtain ⟨o1, o2, -⟩ := lb_off (s := s) (e := e) k
      obtain ⟨o3, o4, -⟩ := lb_off (s := fun i => mlt c d (s i)) (e := fun i => mlt c d (e i)) k
      rw [show lb s e S (n + 1) = lb s e S n from funext o1, show lb (fun i => mlt c d (s i)) (fun i => mlt c d (e i)) S (n + 1) = lb (fun i => mlt c d (s i)) (fun i => mlt c d (e i)) S n from funext o3, o2, o4]
      exact ⟨J, hm⟩
theorem hi_bits {S n : Nat} (h : S < 2 ^ n) {s e : Nat → Nat} : (lb s e (2 ^ n + S) n = lb s e S n) ∧ (mg s e (2 ^ n + S) (n + 1) = mg s e S n + (if lb s e S n (s n) ≠ lb s e S n (e n) then 1 else 0)) ∧ bc (2 ^ n + S) (n + 1) = bc S n + 1 ∧ mg s e S (n + 1) = mg s e S n ∧ bc S (n + 1) = bc S n := by
  obtain ⟨l1, l2, l3⟩ := lmb (s := s) (e := e) (S := 2 ^ n + S) (S' := S) (n := n) (fun i hi => Nat.testBit_two_pow_add_gt hi S)
  have t1 : (2 ^ n + S).testBit n = true := by rw [Nat.testBit_two_pow_add_eq, Nat.testBit_lt_two_pow h]; rfl
  have l1 : lb s e (2 ^ n + S) n = lb s e S n := funext l1
  obtain ⟨-, o2, o3⟩ := lb_off (s := s) (e := e) (Nat.testBit_lt_two_pow h)
  refine ⟨l1, ?_, ?_, o2, o3⟩
  · rw [mg_on t1, l1, l2]
  · rw [bc, if_pos t1, l3]
def AA (s e : Nat → Nat) (n : Nat) : Int := bsum (fun S => sgn (bc S n - mg s e S n)) (2 ^ n)
def TT (s e : Nat → Nat) (n : Nat) : Int := bsum (fun S => sgn (mg s e S n)) (2 ^ n)
theorem AA_eq {P : Nat} : ∀ (n : Nat) (s e : Nat → Nat), (∀ i, i < n → s i < P ∧ e i < P) → AA s e n = (cA s e n : Int)
  | 0, s, e, _ => by
    have : cA s e 0 = 1 := cn_p (n := 0) (fun i hi => absurd hi (Nat.not_lt_zero i))
    rw [this]
    rfl
  | n + 1, s, e, h => by
    obtain ⟨hs, he⟩ := h n (by omega)
    have ih := AA_eq n s e (fun i hi => h i (by omega))
    unfold AA at ih ⊢
    rw [Nat.pow_succ, Nat.mul_two, bsum_split]
    have e1 : bsum (fun S => sgn (bc S (n + 1) - mg s e S (n + 1))) (2 ^ n) = bsum (fun S => sgn (bc S n - mg s e S n)) (2 ^ n) := bsum_eq (fun S hS => by
      obtain ⟨-, -, -, o2, o3⟩ := hi_bits hS (s := s) (e := e)
      rw [o2, o3])
    rw [e1]
    by_cases c : s n = e n
    · have e2 : bsum (fun S => sgn (bc (2 ^ n + S) (n + 1) - mg s e (2 ^ n + S) (n + 1))) (2 ^ n) = bsum (fun S => - sgn (bc S n - mg s e S n)) (2 ^ n) := bsum_eq (fun S hS => by
        obtain ⟨o1, o2, o3, -⟩ := hi_bits hS (s := s) (e := e)
        have := mg_bc s e S n
        rw [o2, o3, c, if_neg (by simp), Nat.add_zero, ← sgn_s]
        congr 1
        omega)
      rw [e2, bsum_neg, cA_loop c]
      omega
    · have e2 : bsum (fun S => sgn (bc (2 ^ n + S) (n + 1) - mg s e (2 ^ n + S) (n + 1))) (2 ^ n) = bsum (fun S => sgn (bc S n - mg (fun i => mlt (s n) (e n) (s i)) (fun i => mlt (s n) (e n) (e i)) S n)) (2 ^ n) := bsum_eq (fun S hS => by
        obtain ⟨o1, o2, o3, -⟩ := hi_bits hS (s := s) (e := e)
        obtain ⟨-, hm⟩ := mlt_jn (s := s) (e := e) (S := S) hs he c (n := n) (fun i hi => h i (by omega))
        rw [o2, o3, hm]
        congr 1
        omega)
      have ih2 := AA_eq n (fun i => mlt (s n) (e n) (s i)) (fun i => mlt (s n) (e n) (e i)) (fun i hi => by
        have := h i (by omega)
        unfold mlt
        constructor
        · split
          · exact he
          · exact this.1
        · split
          · exact he
          · exact this.2)
      unfold AA at ih2
      rw [e2, ih, ih2, cA_step c]
      omega
theorem lb_sub {s e : Nat → Nat} {S n : Nat} (hS : S < 2 ^ n) {p q : Nat} (h : lb s e S n p = lb s e S n q) : lb s e (2 ^ n - 1) n p = lb s e (2 ^ n - 1) n q :=
  ((lb_cls (X := fun z => lb s e (2 ^ n - 1) n p = lb s e (2 ^ n - 1) n z) (fun i hi _ => by
    rw [lb_join (s := s) (e := e) (S := 2 ^ n - 1) hi (by rw [all_bit]; exact decide_eq_true hi)]) h).mp rfl)
theorem TT_eq {P : Nat} : ∀ (n : Nat) (s e : Nat → Nat), (∀ i, i < n → s i < P ∧ e i < P) → TT s e n = sgn (mg s e (2 ^ n - 1) n) * (cT s e n : Int)
  | 0, s, e, _ => by
    have : cT s e 0 = 1 := cn_p (n := 0) (fun i hi => absurd hi (Nat.not_lt_zero i))
    rw [this]
    rfl
  | n + 1, s, e, h => by
    obtain ⟨hs, he⟩ := h n (by omega)
    have ih := TT_eq n s e (fun i hi => h i (by omega))
    have hpos : 0 < 2 ^ n := Nat.pow_pos (by omega)
    have ea : 2 ^ (n + 1) - 1 = 2 ^ n + (2 ^ n - 1) := by rw [Nat.pow_succ]; omega
    obtain ⟨-, a2, -⟩ := hi_bits (show 2 ^ n - 1 < 2 ^ n by omega) (s := s) (e := e)
    unfold TT at ih ⊢
    rw [ea, a2, Nat.pow_succ, Nat.mul_two, bsum_split]
    have e1 : bsum (fun S => sgn (mg s e S (n + 1))) (2 ^ n) = bsum (fun S => sgn (mg s e S n)) (2 ^ n) := bsum_eq (fun S hS => by
      obtain ⟨-, -, -, o2, o3⟩ := hi_bits hS (s := s) (e := e)
      rw [o2])
    rw [e1]
    by_cases c : s n = e n
    · have e2 : bsum (fun S => sgn (mg s e (2 ^ n + S) (n + 1))) (2 ^ n) = bsum (fun S => sgn (mg s e S n)) (2 ^ n) := bsum_eq (fun S hS => by
        obtain ⟨o1, o2, o3, -⟩ := hi_bits hS (s := s) (e := e)
        rw [o2, c, if_neg (by simp), Nat.add_zero])
      rw [e2, ih, cT_loop c, c, if_neg (by simp), Nat.add_zero, Int.natCast_mul]
      generalize sgn (mg s e (2 ^ n - 1) n) = x
      generalize ((cT s e n : Nat) : Int) = y
      have : x * (((2 : Nat) : Int) * y) = x * y + x * y := by
        rw [← Int.mul_assoc, Int.mul_comm x, Int.mul_assoc]
        generalize x * y = z
        omega
      rw [this]
    · have e2 : ∀ S, S < 2 ^ n → mg s e (2 ^ n + S) (n + 1) = mg (fun i => mlt (s n) (e n) (s i)) (fun i => mlt (s n) (e n) (e i)) S n + 1 := fun S hS => by
        obtain ⟨o1, o2, o3, -⟩ := hi_bits hS (s := s) (e := e)
        obtain ⟨-, hm⟩ := mlt_jn (s := s) (e := e) (S := S) hs he c (n := n) (fun i hi => h i (by omega))
        rw [o2, hm]
      have e3 : bsum (fun S => sgn (mg s e (2 ^ n + S) (n + 1))) (2 ^ n) = - bsum (fun S => sgn (mg (fun i => mlt (s n) (e n) (s i)) (fun i => mlt (s n) (e n) (e i)) S n)) (2 ^ n) := by
        rw [← bsum_neg]
        exact bsum_eq (fun S hS => by rw [e2 S hS, sgn_s])
      rw [e3]
      obtain ⟨-, hm⟩ := mlt_jn (s := s) (e := e) (S := 2 ^ n - 1) hs he c (n := n) (fun i hi => h i (by omega))
      by_cases b : lb s e (2 ^ n - 1) n (s n) = lb s e (2 ^ n - 1) n (e n)
      · have ih2 := TT_eq n (fun i => mlt (s n) (e n) (s i)) (fun i => mlt (s n) (e n) (e i)) (fun i hi => by
          have := h i (by omega)
          unfold mlt
          constructor
          · split
            · exact he
            · exact this.1
          · split
            · exact he
            · exact this.2)
        unfold TT at ih2
        rw [if_neg (fun z => z b), Nat.add_zero] at hm
        rw [ih, ih2, cT_step b, if_neg (fun z => z b), Nat.add_zero, hm, sgn_s, Int.natCast_add, Int.mul_add]
        generalize sgn (mg (fun i => mlt (s n) (e n) (s i)) (fun i => mlt (s n) (e n) (e i)) (2 ^ n - 1) n) = x
        rw [Int.neg_mul, Int.neg_mul]
      · have e4 : bsum (fun S => sgn (mg (fun i => mlt (s n) (e n) (s i)) (fun i => mlt (s n) (e n) (e i)) S n)) (2 ^ n) = bsum (fun S => sgn (mg s e S n)) (2 ^ n) := bsum_eq (fun S hS => by
          obtain ⟨-, hm2⟩ := mlt_jn (s := s) (e := e) (S := S) hs he c (n := n) (fun i hi => h i (by omega))
          rw [if_pos (fun z => b (lb_sub hS z))] at hm2
          congr 1
          omega)
        rw [e4, cT_bridge b]
        simp
        omega
/-- polynomials as whole numbers, at -1 -/
def horI (F : Nat → Int) (m : Int) : Nat → Int → Int
  | 0, v => v
  | n + 1, v => horI F m n (v * m + F n)
theorem hor_I {F : Nat → Int} {m : Int32} : ∀ {n : Nat} {v : Int}, (∀ i, i < n → -1024 ≤ F i ∧ F i ≤ 1024) → hor (fun i => Int32.ofInt (F i)) m n (Int64.ofInt v) = Int64.ofInt (horI F m.toInt n v)
  | 0, _, _ => rfl
  | n + 1, v, h => by
    obtain ⟨h1, h2⟩ := h n (by omega)
    rw [hor, horI, ← hor_I (n := n) (fun i hi => h i (by omega)), Int64.ofInt_add, Int64.ofInt_mul, Int64.ofInt_int32ToInt, Int32.toInt64_ofInt]
    · show (-2147483648 : Int) ≤ F n
      omega
    · show F n ≤ (2147483647 : Int)
      omega
theorem horI_1 (F : Nat → Int) : ∀ (n : Nat) (v : Int), horI F (-1) n v = sgn n * v + bsum (fun i => sgn i * F i) n
  | 0, v => by
    rw [horI, bsum, show sgn 0 = 1 from rfl, Int.one_mul, Int.add_zero]
  | n + 1, v => by
    rw [horI, horI_1 F n, bsum, sgn_s, Int.mul_add, Int.mul_neg, Int.mul_one, Int.mul_neg, Int.neg_mul]
    omega
theorem bsum_one {n k : Nat} (w : Nat → Int) (h : k < n) : bsum (fun i => if k = i then w i else 0) n = w k := by
  induction n with
  | zero => omega
  | succ n ih =>
    rw [bsum]
    by_cases c : k = n
    · subst c
      rw [if_pos rfl, bsum_0 (fun i hi => if_neg (by omega)), Int.zero_add]
    · rw [if_neg c, ih (by omega), Int.add_zero]
theorem bsum_swap {k : Nat → Nat} {w : Nat → Int} {n : Nat} : ∀ {M : Nat}, (∀ S, S < M → k S < n) → bsum (fun i => sgn i * bsum (fun S => if k S = i then w S else 0) M) n = bsum (fun S => sgn (k S) * w S) M
  | 0, _ => bsum_0 (fun i _ => by rw [bsum, Int.mul_zero])
  | M + 1, h => by
    have ih := bsum_swap (k := k) (w := w) (n := n) (M := M) (fun S hS => h S (by omega))
    have e1 : bsum (fun i => sgn i * bsum (fun S => if k S = i then w S else 0) (M + 1)) n = bsum (fun i => sgn i * bsum (fun S => if k S = i then w S else 0) M + (if k M = i then sgn i * w M else 0)) n := bsum_eq (fun i _ => by
      rw [bsum, Int.mul_add]
      split
      · rfl
      · rw [Int.mul_zero])
    rw [e1, bsum_add, ih, bsum_one (fun i => sgn i * w M) (h M (by omega)), bsum]
theorem bsum_abs {f : Nat → Int} : ∀ {n : Nat}, (∀ S, S < n → -1 ≤ f S ∧ f S ≤ 1) → -(n : Int) ≤ bsum f n ∧ bsum f n ≤ (n : Int)
  | 0, _ => ⟨by simp [bsum], by simp [bsum]⟩
  | n + 1, h => by
    have ih := bsum_abs (n := n) (fun S hS => h S (by omega))
    have := h n (by omega)
    rw [bsum]
    omega
theorem sgn_b (n : Nat) : -1 ≤ sgn n ∧ sgn n ≤ 1 := by
  unfold sgn
  split <;> omega
theorem poly_b {k : Nat → Nat} {w : Nat → Nat} {R i : Nat} (hR : R ≤ 10) : -1024 ≤ bsum (fun S => if k S = i then sgn (w S) else 0) (2 ^ R) ∧ bsum (fun S => if k S = i then sgn (w S) else 0) (2 ^ R) ≤ 1024 := by
  have h10 : 2 ^ R ≤ 2 ^ 10 := Nat.pow_le_pow_right (by omega) hR
  have := bsum_abs (f := fun S => if k S = i then sgn (w S) else 0) (n := 2 ^ R) (fun S _ => by
    split
    · exact sgn_b _
    · omega)
  omega
theorem fpo_1 {P R : Nat} {s e : Nat → Nat} (h : ∀ i, i < R → s i < P ∧ e i < P) (hR : R ≤ 10) : bsum (fun i => sgn i * fpo P R s e i) 11 = sgn R * TT s e R := by
  unfold fpo TT
  rw [bsum_swap (k := fun S => bc S R - mg s e S R) (w := fun S => sgn (R - bc S R)) (fun S _ => by have := bc_le S R; omega), ← bsum_mul]
  refine bsum_eq (fun S _ => ?_)
  have h1 := mg_bc s e S R
  have h2 := bc_le S R
  rw [← sgn_add, show bc S R - mg s e S R + (R - bc S R) = R - mg s e S R by omega, sgn_sub (by omega)]
theorem cpo_1 {P R : Nat} {s e : Nat → Nat} (h : ∀ i, i < R → s i < P ∧ e i < P) (hP : P ≤ 6) : bsum (fun i => sgn i * cpo P R s e i) 11 = sgn P * AA s e R := by
  unfold cpo AA
  rw [bsum_swap (k := fun S => P - mg s e S R) (w := fun S => sgn (bc S R)) (fun S _ => by omega), ← bsum_mul]
  refine bsum_eq (fun S _ => ?_)
  have h1 := mg_bc s e S R
  have h2 := mg_le (P := P) (s := s) (e := e) S h
  rw [sgn_sub h2, sgn_sub h1, Int.mul_assoc, Int.mul_comm (sgn (mg s e S R)) (sgn (bc S R))]
/-- the numbers of pointings, as both sides tell them -/
noncomputable def cP (b : Int32) (N : zN) : Nat := if b = 0 then cT (gs N) (ge N) (gR N) else cA (gs N) (ge N) (gR N)
theorem cn_le (f : Nat → Prop) : ∀ n, cn f n ≤ n
  | 0 => Nat.le_refl 0
  | n + 1 => by
    have := cn_le f n
    have := pb_le (f n)
    rw [cn_s]
    omega
theorem hor_cP {N : zN} (hv : NV N) (b : Int32) : ∃ z : Int, hor (trm b N) (-1) 11 0 = Int64.ofInt z ∧ (z = (cP b N : Int) ∨ z = -(cP b N : Int)) ∧ cP b N ≤ 1024 := by
  obtain ⟨P, R, eP, hP, egP, eR, hR, eg, hse⟩ := hv.nat
  have hs := hv.se
  have h10 : 2 ^ R ≤ 2 ^ 10 := Nat.pow_le_pow_right (by omega) hR
  have sg : ∀ (n : Nat) (c : Int) (w : Nat), c = (w : Int) ∨ c = -(w : Int) → sgn n * c = (w : Int) ∨ sgn n * c = -(w : Int) := by
    intro n c w h
    unfold sgn
    split <;> omega
  have m1 : (-1 : Int32).toInt = -1 := rfl
  unfold cP
  by_cases q : b = 0
  · refine ⟨horI (fpo (gP N) (gR N) (gs N) (ge N)) (-1) 11 0, ?_, ?_, ?_⟩
    · have := hor_I (F := fpo (gP N) (gR N) (gs N) (ge N)) (m := -1) (n := 11) (v := 0) (fun i _ => by unfold fpo; exact poly_b (by omega))
      rw [m1] at this
      rw [← this]
      unfold trm
      simp only [q, if_true]
      rfl
    · rw [if_pos q, horI_1, Int.mul_zero, Int.zero_add, fpo_1 hs (by omega), TT_eq _ _ _ hs]
      exact sg _ _ _ (sg _ _ _ (Or.inl rfl))
    · rw [if_pos q]
      have := cn_le (fun t => tot (gR N) (tl (gs N) (ge N) t) (hd (gs N) (ge N) t)) (2 ^ gR N)
      unfold cT
      rw [eg] at this ⊢
      omega
  · refine ⟨horI (cpo (gP N) (gR N) (gs N) (ge N)) (-1) 11 0, ?_, ?_, ?_⟩
    · have := hor_I (F := cpo (gP N) (gR N) (gs N) (ge N)) (m := -1) (n := 11) (v := 0) (fun i _ => by unfold cpo; exact poly_b (by omega))
      rw [m1] at this
      rw [← this]
      unfold trm
      simp only [q, if_false]
      rfl
    · rw [if_neg q, horI_1, Int.mul_zero, Int.zero_add, cpo_1 hs (by omega), AA_eq _ _ _ hs]
      exact sg _ _ _ (Or.inl rfl)
    · rw [if_neg q]
      have := cn_le (fun t => acy (gR N) (tl (gs N) (ge N) t) (hd (gs N) (ge N) t)) (2 ^ gR N)
      unfold cA
      rw [eg] at this ⊢
      omega
