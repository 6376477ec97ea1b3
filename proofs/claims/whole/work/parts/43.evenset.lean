/-! the i-th even set of the component -/
def evs (cl : Nat → Nat) (i : Nat) : Nat → Nat
  | 0 => 0
  | j + 1 => if i.testBit j = true then evs cl i j ^^^ cl j else evs cl i j
theorem c_evenSet (d : Nat) {σ : z_M} {g i : Nat} {cl : Nat → Nat} (hg : σ.1 10 5 = nI g) (h10 : g ≤ 10) (hi : i < 2147483648) (hc : ∀ j, j < g → σ.1 13 j = nI (cl j)) : z_call (d + 1) k_Forest_evenSet [.ref 10, .int (nI i)] σ (some (.int (nI (evs cl i g)))) σ := by
  have loop : ∀ (n j : Nat), j + n = g → z_wp (z_call d) none k_Forest_evenSet (fun r s => r = some (.int (nI (evs cl i g))) ∧ s = σ) 4 [some (.ref 10), some (.int (nI i)), some (.int (nI (evs cl i j))), some (.int (nI j))] [] σ := by
    intro n
    induction n with
    | zero =>
      intro j hj
      obtain rfl : j = g := by omega
      refine z_go 40 [4] ⟨fun q => ⟨rfl, rfl⟩, fun q => ?_⟩
      rw [hg] at q
      exact absurd (Int32.le_refl _) q
    | succ n ih =>
      intro j hj
      have hb := bq_le i j
      refine z_go 40 [4] ⟨fun q => ?_, fun q => ⟨fun q2 => ?_, fun q2 => ⟨by (first | exact vin (by simp only [al_2, al_3, al_4, al_5, al_7, al_11, al_12, al_13, al_15, al_16, al_17, al_19, al_20, al_21, al_22, al_23, al_24, al_25, al_26, al_28, al_30, al_31, al_32, al_33, al_34, al_36, al_41, al_42, al_43, al_44, al_49, al_50, al_51, al_52, al_54, al_55, al_56, al_57, al_58, al_59, al_60, al_61, al_62, al_63, al_64, al_65, al_66, al_67, al_68, al_69, al_70, al_71, al_72, al_73, al_74, al_75, al_76, al_77, al_78, al_79, al_80]; omega) (by simp only [al_2, al_3, al_4, al_5, al_7, al_11, al_12, al_13, al_15, al_16, al_17, al_19, al_20, al_21, al_22, al_23, al_24, al_25, al_26, al_28, al_30, al_31, al_32, al_33, al_34, al_36, al_41, al_42, al_43, al_44, al_49, al_50, al_51, al_52, al_54, al_55, al_56, al_57, al_58, al_59, al_60, al_61, al_62, al_63, al_64, al_65, al_66, al_67, al_68, al_69, al_70, al_71, al_72, al_73, al_74, al_75, al_76, al_77, al_78, al_79, al_80]; decide) | (simp (disch := omega) only [nL, nI_add, pk_mul, nc, Nat.zero_add, al_2, al_3, al_4, al_5, al_7, al_11, al_12, al_13, al_15, al_16, al_17, al_19, al_20, al_21, al_22, al_23, al_24, al_25, al_26, al_28, al_30, al_31, al_32, al_33, al_34, al_36, al_41, al_42, al_43, al_44, al_49, al_50, al_51, al_52, al_54, al_55, al_56, al_57, al_58, al_59, al_60, al_61, al_62, al_63, al_64, al_65, al_66, al_67, al_68, al_69, al_70, al_71, al_72, al_73, al_74, al_75, al_76, al_77, al_78, al_79, al_80]; exact vin (by omega) (by decide))), ?_⟩⟩⟩
      · rw [hg] at q
        simp (disch := omega) only [nL, nI_add, pk_mul, n_le, n_lt, n_eq] at q
        omega
      · show z_wp _ _ _ _ 4 _ _ _
        rw [i_bit hi (by omega)] at q2
        have q2 : nI (bq i j) = nI 0 := q2
        rw [n_eq (by omega) (by omega)] at q2
        have e : evs cl i j = evs cl i (j + 1) := by
          rw [evs, if_neg]
          intro z
          rw [bq, if_pos z] at q2
          omega
        rw [show nI j + 1 = nI (j + 1) from nI_add j 1, e]
        exact ih (j + 1) (by omega)
      · show z_wp _ _ _ _ 4 _ _ _
        rw [i_bit hi (by omega)] at q2
        have q2 : ¬ nI (bq i j) = nI 0 := q2
        rw [n_eq (by omega) (by omega)] at q2
        have e : evs cl i j ^^^ cl j = evs cl i (j + 1) := by
          rw [evs, if_pos]
          exact Classical.byContradiction fun z => q2 (by rw [bq, if_neg z])
        rw [show nI j + 1 = nI (j + 1) from nI_add j 1, nc (by omega), hc j (by omega), i_xor, e]
        exact ih (j + 1) (by omega)
  exact ⟨rfl, z_go 40 [4] (loop g 0 (by omega))⟩
theorem evs_od {s e : Nat → Nat} {R : Nat} {cl : Nat → Nat} (i : Nat) : ∀ {g : Nat}, (∀ j q, j < g → od s e (cl j) R q = false) → ∀ q, od s e (evs cl i g) R q = false
  | 0, _, q => od_0 s e R q
  | g + 1, h, q => by
    have ih := evs_od (s := s) (e := e) (R := R) (cl := cl) i (g := g) (fun j q hj => h j q (by omega)) q
    rw [evs]
    split
    · rw [od_xor, ih, h g q (by omega)]
      rfl
    · exact ih
