/-! the road that closes a round is in no path and in no other closed round -/
def tps (R : Nat) (s e : Nat → Nat) : Nat → Nat → Nat
  | 0, _ => 0
  | n + 1, j => if (gw R s e n).1 (s n) = (gw R s e n).1 (e n) ∧ j = (gw R s e n).2.2.1 then n else tps R s e n j
theorem gw_top {R P : Nat} {s e : Nat → Nat} : ∀ {n : Nat}, (∀ i, i < n → s i < P ∧ e i < P) → (∀ p k, p < P → n ≤ k → ((gw R s e n).2.1 p).testBit k = false) ∧ (∀ p j, p < P → j < (gw R s e n).2.2.1 → ((gw R s e n).2.1 p).testBit (tps R s e n j) = false) ∧ (∀ j, j < (gw R s e n).2.2.1 → tps R s e n j < n) ∧ (∀ i j, i < j → j < (gw R s e n).2.2.1 → tps R s e n i < tps R s e n j) ∧ (∀ i j, i < (gw R s e n).2.2.1 → j < (gw R s e n).2.2.1 → ((gw R s e n).2.2.2.1 i).testBit (tps R s e n j) = decide (i = j)) ∧ ∀ j k, j < (gw R s e n).2.2.1 → tps R s e n j < k → ((gw R s e n).2.2.2.1 j).testBit k = false
  | 0, _ => ⟨fun p k _ _ => Nat.zero_testBit k, fun p j _ hj => absurd hj (Nat.not_lt_zero j), fun j hj => absurd hj (Nat.not_lt_zero j), fun i j _ hj => absurd hj (Nat.not_lt_zero j), fun i j _ hj => absurd hj (Nat.not_lt_zero j), fun j k hj => absurd hj (Nat.not_lt_zero j)⟩
  | n + 1, h => by
    obtain ⟨A, B, C, D, E, F⟩ := gw_top (R := R) (P := P) (s := s) (e := e) (n := n) (fun i hi => h i (by omega))
    obtain ⟨hs, he⟩ := h n (by omega)
    have w1 : ∀ k, n < k → (gway s e (gw R s e n) n).testBit k = false := by
      intro k hk
      rw [gway, Nat.testBit_xor, Nat.testBit_xor, A _ k hs (by omega), A _ k he (by omega), Nat.testBit_two_pow, decide_eq_false (by omega)]
      rfl
    have w2 : (gway s e (gw R s e n) n).testBit n = true := by
      rw [gway, Nat.testBit_xor, Nat.testBit_xor, A _ n hs (by omega), A _ n he (by omega), Nat.testBit_two_pow, decide_eq_true rfl]
      rfl
    have w3 : ∀ j, j < (gw R s e n).2.2.1 → (gway s e (gw R s e n) n).testBit (tps R s e n j) = false := by
      intro j hj
      have := C j hj
      rw [gway, Nat.testBit_xor, Nat.testBit_xor, B _ j hs hj, B _ j he hj, Nat.testBit_two_pow, decide_eq_false (by omega)]
      rfl
    by_cases c : (gw R s e n).1 (s n) = (gw R s e n).1 (e n)
    · have t1 : tps R s e (n + 1) (gw R s e n).2.2.1 = n := by rw [tps, if_pos ⟨c, rfl⟩]
      have t2 : ∀ j, j < (gw R s e n).2.2.1 → tps R s e (n + 1) j = tps R s e n j := fun j hj => by rw [tps, if_neg (fun z => by omega)]
      have eg : gw R s e (n + 1) = ((gw R s e n).1, (gw R s e n).2.1, (gw R s e n).2.2.1 + 1, (fun j => if j = (gw R s e n).2.2.1 then gway s e (gw R s e n) n else (gw R s e n).2.2.2.1 j), clr (gw R s e n).2.2.2.2 (gway s e (gw R s e n) n)) := by rw [gw, gstep, if_pos c]
      have cases' : ∀ j, j < (gw R s e n).2.2.1 + 1 → j = (gw R s e n).2.2.1 ∨ j < (gw R s e n).2.2.1 := fun j hj => by omega
      rw [eg]
      simp only
      refine ⟨fun p k hp hk => A p k hp (by omega), fun p j hp hj => ?_, fun j hj => ?_, fun i j hij hj => ?_, fun i j hi hj => ?_, fun j k hj hk => ?_⟩
      · rcases cases' j hj with rfl | hj
        · rw [t1]; exact A p n hp (by omega)
        · rw [t2 j hj]; exact B p j hp hj
      · rcases cases' j hj with rfl | hj
        · rw [t1]; omega
        · rw [t2 j hj]; have := C j hj; omega
      · rcases cases' j hj with rfl | hj
        · rw [t1, t2 i hij]; exact C i hij
        · rw [t2 j hj, t2 i (by omega)]; exact D i j hij hj
      · rcases cases' j hj with rfl | hj
        · rcases cases' i hi with rfl | hi
          · rw [t1, if_pos rfl, w2]; simp
          · rw [t1, if_neg (by omega), F i n hi (C i hi), decide_eq_false (by omega)]
        · rcases cases' i hi with rfl | hi
          · rw [t2 j hj, if_pos rfl, w3 j hj, decide_eq_false (by omega)]
          · rw [t2 j hj, if_neg (by omega)]; exact E i j hi hj
      · rcases cases' j hj with rfl | hj
        · rw [t1] at hk; rw [if_pos rfl]; exact w1 k hk
        · rw [t2 j hj] at hk; rw [if_neg (by omega)]; exact F j k hj hk
    · have t2 : ∀ j, tps R s e (n + 1) j = tps R s e n j := fun j => by rw [tps, if_neg (fun z => c z.1)]
      rw [gw, gstep, if_neg c]
      simp only [t2]
      refine ⟨fun p k hp hk => ?_, fun p j hp hj => ?_, fun j hj => by have := C j hj; omega, D, E, F⟩
      · split
        · rw [Nat.testBit_xor, A p k hp (by omega), w1 k (by omega)]; rfl
        · exact A p k hp (by omega)
      · split
        · rw [Nat.testBit_xor, B p j hp hj, w3 j hj]; rfl
        · exact B p j hp hj
