/-! posts where a set of roads has an odd number of ends; paths and closed rounds of the forest -/
def od (s e : Nat → Nat) (S : Nat) : Nat → Nat → Bool
  | 0, _ => false
  | n + 1, q => Bool.xor (od s e S n q) (S.testBit n && Bool.xor (decide (s n = q)) (decide (e n = q)))
theorem od_xor (s e : Nat → Nat) (S T : Nat) : ∀ n q, od s e (S ^^^ T) n q = Bool.xor (od s e S n q) (od s e T n q)
  | 0, _ => rfl
  | n + 1, q => by
    rw [od, od, od, od_xor s e S T n q, Nat.testBit_xor]
    cases od s e S n q <;> cases od s e T n q <;> cases S.testBit n <;> cases T.testBit n <;> cases (Bool.xor (decide (s n = q)) (decide (e n = q))) <;> rfl
theorem od_0 (s e : Nat → Nat) : ∀ n q, od s e 0 n q = false
  | 0, _ => rfl
  | n + 1, q => by
    rw [od, od_0 s e n q, Nat.zero_testBit]
    rfl
theorem od_one (s e : Nat → Nat) (k : Nat) : ∀ n q, od s e (2 ^ k) n q = (decide (k < n) && Bool.xor (decide (s k = q)) (decide (e k = q)))
  | 0, _ => by simp [od]
  | n + 1, q => by
    rw [od, od_one s e k n q, Nat.testBit_two_pow]
    by_cases h : k = n
    · subst h
      simp
    · by_cases h2 : k < n
      · simp [h, h2, show k < n + 1 by omega]
      · simp [h, h2, show ¬ k < n + 1 by omega]
/-- a path's odd ends are its post and its root; a closed round has none -/
theorem gw_od {R P : Nat} {s e : Nat → Nat} : ∀ {n : Nat}, n ≤ R → (∀ i, i < n → s i < P ∧ e i < P) → (∀ p q, p < P → od s e ((gw R s e n).2.1 p) R q = Bool.xor (decide (p = q)) (decide ((gw R s e n).1 p = q))) ∧ (∀ j q, j < (gw R s e n).2.2.1 → od s e ((gw R s e n).2.2.2.1 j) R q = false)
  | 0, _, _ => by
    refine ⟨fun p q hp => ?_, fun j q hj => absurd hj (Nat.not_lt_zero j)⟩
    show od s e 0 R q = Bool.xor (decide (p = q)) (decide (p = q))
    rw [od_0]
    cases decide (p = q) <;> rfl
  | n + 1, hn, h => by
    obtain ⟨E, C⟩ := gw_od (R := R) (P := P) (s := s) (e := e) (n := n) (by omega) (fun i hi => h i (by omega))
    obtain ⟨hs, he⟩ := h n (by omega)
    have hw : ∀ q, od s e (gway s e (gw R s e n) n) R q = Bool.xor (decide ((gw R s e n).1 (s n) = q)) (decide ((gw R s e n).1 (e n) = q)) := by
      intro q
      rw [gway, od_xor, od_xor, E _ q hs, E _ q he, od_one, decide_eq_true (show n < R by omega)]
      cases decide (s n = q) <;> cases decide (e n = q) <;> cases decide ((gw R s e n).1 (s n) = q) <;> cases decide ((gw R s e n).1 (e n) = q) <;> rfl
    by_cases c : (gw R s e n).1 (s n) = (gw R s e n).1 (e n)
    · rw [gw, gstep, if_pos c]
      refine ⟨E, fun j q hj => ?_⟩
      have hj : j < (gw R s e n).2.2.1 + 1 := hj
      show od s e (if j = (gw R s e n).2.2.1 then _ else _) R q = false
      by_cases e2 : j = (gw R s e n).2.2.1
      · rw [if_pos e2, hw, c]
        cases decide ((gw R s e n).1 (e n) = q) <;> rfl
      · rw [if_neg e2]
        exact C j q (by omega)
    · rw [gw, gstep, if_neg c]
      refine ⟨fun p q hp => ?_, C⟩
      show od s e (if (gw R s e n).1 p = (gw R s e n).1 (e n) then _ else _) R q = Bool.xor (decide (p = q)) (decide ((if (gw R s e n).1 p = (gw R s e n).1 (e n) then (gw R s e n).1 (s n) else (gw R s e n).1 p) = q))
      by_cases e2 : (gw R s e n).1 p = (gw R s e n).1 (e n)
      · rw [if_pos e2, if_pos e2, od_xor, E p q hp, hw, e2]
        cases decide (p = q) <;> cases decide ((gw R s e n).1 (s n) = q) <;> cases decide ((gw R s e n).1 (e n) = q) <;> rfl
      · rw [if_neg e2, if_neg e2]
        exact E p q hp
