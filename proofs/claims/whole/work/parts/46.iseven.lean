/-! the model's isEven -/
noncomputable def pb (p : Prop) : Nat := @ite _ p (Classical.propDecidable _) 1 0
theorem pb_t {p : Prop} (h : p) : pb p = 1 := by rw [pb, if_pos h]
theorem pb_f {p : Prop} (h : ¬ p) : pb p = 0 := by rw [pb, if_neg h]
theorem pb_le (p : Prop) : pb p ≤ 1 := by
  unfold pb
  split <;> omega
theorem pb_iff {p q : Prop} (h : p ↔ q) : pb p = pb q := by rw [propext h]
theorem pb_1 {p : Prop} (h : pb p ≠ 0) : p := Classical.byContradiction fun z => h (pb_f z)
theorem pb_0 {p : Prop} (h : pb p = 0) : ¬ p := fun z => by rw [pb_t z] at h; omega
def own (s e : Nat → Nat) (i p : Nat) : Nat := (if s i = p then 1 else 0) + (if e i = p then 1 else 0)
def ens (s e : Nat → Nat) (S : Nat) (a : Bool) : Nat → Nat → Nat
  | 0, _ => 0
  | n + 1, p => ens s e S a n p + ((if S.testBit n = true then own s e n p else 0) + (if a = true then own s e n p else 0))
theorem own_le (s e : Nat → Nat) (i p : Nat) : own s e i p ≤ 2 := by
  unfold own
  split <;> split <;> omega
theorem ens_le (s e : Nat → Nat) (S : Nat) (a : Bool) : ∀ n p, ens s e S a n p ≤ 4 * n
  | 0, _ => Nat.le_refl 0
  | n + 1, p => by
    have := ens_le s e S a n p
    have := own_le s e n p
    rw [ens]
    split <;> split <;> omega
theorem i_odd2 : ∀ n, n < 64 → (nI n - nI n / 2 * 2 = 0) = (n % 2 = 0) := by decide +kernel
theorem ens_od {s e : Nat → Nat} {S R : Nat} {a : Bool} {p : Nat} : ∀ {n : Nat}, n ≤ R → (ens s e S a n p % 2 = 0 ↔ od s e (if a = true then S ^^^ (2 ^ R - 1) else S) n p = false)
  | 0, _ => by simp [ens, od]
  | n + 1, h => by
    have ih := ens_od (s := s) (e := e) (S := S) (R := R) (a := a) (p := p) (n := n) (by omega)
    have tb : (2 ^ R - 1).testBit n = true := by
      rw [Nat.testBit_two_pow_sub_one]
      exact decide_eq_true (by omega)
    have ow : own s e n p % 2 = 0 ↔ Bool.xor (decide (s n = p)) (decide (e n = p)) = false := by
      unfold own
      by_cases h1 : s n = p <;> by_cases h2 : e n = p <;> simp [h1, h2]
    rw [ens, od]
    generalize hx : od s e (if a = true then S ^^^ (2 ^ R - 1) else S) n p = x at ih ⊢
    generalize hy : Bool.xor (decide (s n = p)) (decide (e n = p)) = y at ow ⊢
    cases a
    · simp only [Bool.false_eq_true, if_false]
      cases S.testBit n <;> cases x <;> cases y <;> simp_all <;> omega
    · simp only [if_true, Nat.testBit_xor, tb]
      cases S.testBit n <;> cases x <;> cases y <;> simp_all <;> omega
theorem c_isEven_0 (d : Nat) {σ : z_M} {N : zN} (h : netD σ N) (hv : NV N) {S : Nat} (hS : S < 2147483648) : z_call (d + 2) k_Md_isEven [.ref 53, .int (nI S), .int 0] σ (some (.int (nI (pb (isE N (S)))))) σ := by
  obtain ⟨P, R, eP, hP, egP, eR, hR, eg, hse⟩ := hv.nat
  have e0 : σ.1 53 0 = nI P := by rw [h.1, eP]
  have e1 : σ.1 53 1 = nI R := by rw [h.2.1, eR]
  have st83 : ∀ (i k w o : Nat) (is : Int32), i < R → w = (if S.testBit i = true then own (gs N) (ge N) i k else 0) → o = own (gs N) (ge N) i k →
      z_wp (z_call (d + 1)) none k_Md_isEven (fun r s => r = some (.int (nI (pb (isE N (S))))) ∧ s = σ) 20 [some (.ref 53), some (.int (nI S)), some (.int 0), some (.int is), some (.int (nI k)), some (.int (nI (ens (gs N) (ge N) S false (i + 1) k))), some (.int (nI (i + 1))), some (.int (nI o))] [] σ →
      z_wp (z_call (d + 1)) none k_Md_isEven (fun r s => r = some (.int (nI (pb (isE N (S))))) ∧ s = σ) 83 [some (.ref 53), some (.int (nI S)), some (.int 0), some (.int is), some (.int (nI k)), some (.int (nI (ens (gs N) (ge N) S false i k))), some (.int (nI i)), some (.int (nI o))] [.int (nI w), .int (nI (ens (gs N) (ge N) S false i k))] σ := by
    intro i k w o is hi hw ho K
    refine z_go 30 [5, 20, 64, 83, 103] ⟨fun _ => ?_, fun z => absurd rfl z⟩
    show z_wp _ _ _ _ 20 _ _ _
    simp only [nL, nI_add]
    rw [ens, ← hw, ← ho] at K
    exact K
  have st64 : ∀ (i k o : Nat) (is : Int32) (l7 : Option Value), i < R → o = own (gs N) (ge N) i k →
      z_wp (z_call (d + 1)) none k_Md_isEven (fun r s => r = some (.int (nI (pb (isE N (S))))) ∧ s = σ) 20 [some (.ref 53), some (.int (nI S)), some (.int 0), some (.int is), some (.int (nI k)), some (.int (nI (ens (gs N) (ge N) S false (i + 1) k))), some (.int (nI (i + 1))), some (.int (nI o))] [] σ →
      z_wp (z_call (d + 1)) none k_Md_isEven (fun r s => r = some (.int (nI (pb (isE N (S))))) ∧ s = σ) 64 [some (.ref 53), some (.int (nI S)), some (.int 0), some (.int is), some (.int (nI k)), some (.int (nI (ens (gs N) (ge N) S false i k))), some (.int (nI i)), l7] [.int (nI o)] σ := by
    intro i k o is l7 hi ho K
    have hb := bq_le S i
    refine z_go 30 [5, 20, 64, 83, 103] ⟨_, _, c_in d σ hS (by omega), fun q => ?_, fun q => ?_⟩
    · have q : nI (bq S i) = nI 0 := q
      rw [n_eq (by omega) (by omega)] at q
      exact st83 i k 0 o is hi (by rw [if_neg]; intro z; rw [bq, if_pos z] at q; omega) ho K
    · have q : ¬ nI (bq S i) = nI 0 := q
      rw [n_eq (by omega) (by omega)] at q
      exact st83 i k o o is hi (by rw [if_pos, ho]; exact Classical.byContradiction fun z => q (by rw [bq, if_neg z])) ho K
  have inner : ∀ (n i k : Nat) (is : Int32) (l7 : Option Value), i + n = R → (∀ l7, z_wp (z_call (d + 1)) none k_Md_isEven (fun r s => r = some (.int (nI (pb (isE N (S))))) ∧ s = σ) 103 [some (.ref 53), some (.int (nI S)), some (.int 0), some (.int is), some (.int (nI k)), some (.int (nI (ens (gs N) (ge N) S false R k))), some (.int (nI R)), l7] [] σ) → k < P →
      z_wp (z_call (d + 1)) none k_Md_isEven (fun r s => r = some (.int (nI (pb (isE N (S))))) ∧ s = σ) 20 [some (.ref 53), some (.int (nI S)), some (.int 0), some (.int is), some (.int (nI k)), some (.int (nI (ens (gs N) (ge N) S false i k))), some (.int (nI i)), l7] [] σ := by
    intro n
    induction n with
    | zero =>
      intro i k is l7 hi K hk
      obtain rfl : i = R := by omega
      refine z_go 30 [5, 20, 64, 83, 103] ⟨fun q => K l7, fun q => ?_⟩
      rw [e1] at q
      exact absurd (Int32.le_refl _) q
    | succ n ih =>
      intro i k is l7 hi K hk
      obtain ⟨es, ee, hs, he⟩ := hse i (by omega)
      have f1 : σ.1 54 i = nI (gs N i) := by rw [(h.2.2.2 i (by omega)).1, es]
      have f2 : σ.1 55 i = nI (ge N i) := by rw [(h.2.2.2 i (by omega)).2.1, ee]
      have go := fun o ho => st64 i k o is l7 (by omega) ho (ih (i + 1) k is (some (.int (nI o))) (by omega) K hk)
      refine z_go 40 [5, 20, 64, 83, 103] ⟨fun q => ?_, fun q => ⟨by (first | exact vin (by simp only [al_2, al_3, al_4, al_5, al_7, al_11, al_12, al_13, al_15, al_16, al_17, al_19, al_20, al_21, al_22, al_23, al_24, al_25, al_26, al_28, al_30, al_31, al_32, al_33, al_34, al_36, al_41, al_42, al_43, al_44, al_49, al_50, al_51, al_52, al_54, al_55, al_56, al_57, al_58, al_59, al_60, al_61, al_62, al_63, al_64, al_65, al_66, al_67, al_68, al_69, al_70, al_71, al_72, al_73, al_74, al_75, al_76, al_77, al_78, al_79, al_80]; omega) (by simp only [al_2, al_3, al_4, al_5, al_7, al_11, al_12, al_13, al_15, al_16, al_17, al_19, al_20, al_21, al_22, al_23, al_24, al_25, al_26, al_28, al_30, al_31, al_32, al_33, al_34, al_36, al_41, al_42, al_43, al_44, al_49, al_50, al_51, al_52, al_54, al_55, al_56, al_57, al_58, al_59, al_60, al_61, al_62, al_63, al_64, al_65, al_66, al_67, al_68, al_69, al_70, al_71, al_72, al_73, al_74, al_75, al_76, al_77, al_78, al_79, al_80]; decide) | (simp (disch := omega) only [nL, nI_add, pk_mul, nc, Nat.zero_add, al_2, al_3, al_4, al_5, al_7, al_11, al_12, al_13, al_15, al_16, al_17, al_19, al_20, al_21, al_22, al_23, al_24, al_25, al_26, al_28, al_30, al_31, al_32, al_33, al_34, al_36, al_41, al_42, al_43, al_44, al_49, al_50, al_51, al_52, al_54, al_55, al_56, al_57, al_58, al_59, al_60, al_61, al_62, al_63, al_64, al_65, al_66, al_67, al_68, al_69, al_70, al_71, al_72, al_73, al_74, al_75, al_76, al_77, al_78, al_79, al_80]; exact vin (by omega) (by decide))), fun q1 => ⟨by (first | exact vin (by simp only [al_2, al_3, al_4, al_5, al_7, al_11, al_12, al_13, al_15, al_16, al_17, al_19, al_20, al_21, al_22, al_23, al_24, al_25, al_26, al_28, al_30, al_31, al_32, al_33, al_34, al_36, al_41, al_42, al_43, al_44, al_49, al_50, al_51, al_52, al_54, al_55, al_56, al_57, al_58, al_59, al_60, al_61, al_62, al_63, al_64, al_65, al_66, al_67, al_68, al_69, al_70, al_71, al_72, al_73, al_74, al_75, al_76, al_77, al_78, al_79, al_80]; omega) (by simp only [al_2, al_3, al_4, al_5, al_7, al_11, al_12, al_13, al_15, al_16, al_17, al_19, al_20, al_21, al_22, al_23, al_24, al_25, al_26, al_28, al_30, al_31, al_32, al_33, al_34, al_36, al_41, al_42, al_43, al_44, al_49, al_50, al_51, al_52, al_54, al_55, al_56, al_57, al_58, al_59, al_60, al_61, al_62, al_63, al_64, al_65, al_66, al_67, al_68, al_69, al_70, al_71, al_72, al_73, al_74, al_75, al_76, al_77, al_78, al_79, al_80]; decide) | (simp (disch := omega) only [nL, nI_add, pk_mul, nc, Nat.zero_add, al_2, al_3, al_4, al_5, al_7, al_11, al_12, al_13, al_15, al_16, al_17, al_19, al_20, al_21, al_22, al_23, al_24, al_25, al_26, al_28, al_30, al_31, al_32, al_33, al_34, al_36, al_41, al_42, al_43, al_44, al_49, al_50, al_51, al_52, al_54, al_55, al_56, al_57, al_58, al_59, al_60, al_61, al_62, al_63, al_64, al_65, al_66, al_67, al_68, al_69, al_70, al_71, al_72, al_73, al_74, al_75, al_76, al_77, al_78, al_79, al_80]; exact vin (by omega) (by decide))), fun q2 => ?_, fun q2 => ?_⟩, fun q1 => ⟨by (first | exact vin (by simp only [al_2, al_3, al_4, al_5, al_7, al_11, al_12, al_13, al_15, al_16, al_17, al_19, al_20, al_21, al_22, al_23, al_24, al_25, al_26, al_28, al_30, al_31, al_32, al_33, al_34, al_36, al_41, al_42, al_43, al_44, al_49, al_50, al_51, al_52, al_54, al_55, al_56, al_57, al_58, al_59, al_60, al_61, al_62, al_63, al_64, al_65, al_66, al_67, al_68, al_69, al_70, al_71, al_72, al_73, al_74, al_75, al_76, al_77, al_78, al_79, al_80]; omega) (by simp only [al_2, al_3, al_4, al_5, al_7, al_11, al_12, al_13, al_15, al_16, al_17, al_19, al_20, al_21, al_22, al_23, al_24, al_25, al_26, al_28, al_30, al_31, al_32, al_33, al_34, al_36, al_41, al_42, al_43, al_44, al_49, al_50, al_51, al_52, al_54, al_55, al_56, al_57, al_58, al_59, al_60, al_61, al_62, al_63, al_64, al_65, al_66, al_67, al_68, al_69, al_70, al_71, al_72, al_73, al_74, al_75, al_76, al_77, al_78, al_79, al_80]; decide) | (simp (disch := omega) only [nL, nI_add, pk_mul, nc, Nat.zero_add, al_2, al_3, al_4, al_5, al_7, al_11, al_12, al_13, al_15, al_16, al_17, al_19, al_20, al_21, al_22, al_23, al_24, al_25, al_26, al_28, al_30, al_31, al_32, al_33, al_34, al_36, al_41, al_42, al_43, al_44, al_49, al_50, al_51, al_52, al_54, al_55, al_56, al_57, al_58, al_59, al_60, al_61, al_62, al_63, al_64, al_65, al_66, al_67, al_68, al_69, al_70, al_71, al_72, al_73, al_74, al_75, al_76, al_77, al_78, al_79, al_80]; exact vin (by omega) (by decide))), fun q2 => ?_, fun q2 => ?_⟩⟩⟩
      · rw [e1] at q
        simp (disch := omega) only [nL, nI_add, pk_mul, n_le, n_lt, n_eq] at q
        omega
      · simp (disch := omega) only [nc, f1, f2, n_eq] at q1 q2
        exact go 0 (by rw [own, if_neg q1, if_neg q2])
      · simp (disch := omega) only [nc, f1, f2, n_eq] at q1 q2
        exact go 1 (by rw [own, if_neg q1, if_pos q2])
      · simp (disch := omega) only [nc, f1, f2, n_eq] at q1 q2
        exact go 1 (by rw [own, if_pos q1, if_neg q2])
      · simp (disch := omega) only [nc, f1, f2, n_eq] at q1 q2
        exact go 2 (by rw [own, if_pos q1, if_pos q2])
  have outer : ∀ (n k : Nat) (l5 l6 l7 : Option Value), k + n = P →
      z_wp (z_call (d + 1)) none k_Md_isEven (fun r s => r = some (.int (nI (pb (isE N (S))))) ∧ s = σ) 5 [some (.ref 53), some (.int (nI S)), some (.int 0), some (.int (nI (pb (∀ p, p < k → od (gs N) (ge N) (S) R p = false)))), some (.int (nI k)), l5, l6, l7] [] σ := by
    intro n
    induction n with
    | zero =>
      intro k l5 l6 l7 hk
      obtain rfl : k = P := by omega
      refine z_go 30 [5, 20, 64, 83, 103] ⟨fun q => ?_, fun q => ?_⟩
      · have e : pb (∀ p, p < k → od (gs N) (ge N) (S) R p = false) = pb (isE N (S)) := by
          unfold isE evn
          rw [egP, eg]
        rw [e]
        have := pb_le (isE N (S))
        refine ⟨?_, rfl, rfl⟩
        rcases (show pb (isE N (S)) = 0 ∨ pb (isE N (S)) = 1 by omega) with z | z
        · rw [z]; exact Or.inl rfl
        · rw [z]; exact Or.inr rfl
      · rw [e0] at q
        exact absurd (Int32.le_refl _) q
    | succ n ih =>
      intro k l5 l6 l7 hk
      refine z_go 30 [5, 20, 64, 83, 103] ⟨fun q => ?_, fun q => ?_⟩
      · rw [e0] at q
        simp (disch := omega) only [nL, nI_add, pk_mul, n_le, n_lt, n_eq] at q
        omega
      · show z_wp _ _ _ _ 20 _ _ _
        refine inner R 0 k _ _ (by omega) (fun l7 => ?_) (by omega)
        have hl := ens_le (gs N) (ge N) S false R k
        have ho : ens (gs N) (ge N) S false R k % 2 = 0 ↔ od (gs N) (ge N) (S) R k = false := by
          have ho := ens_od (s := gs N) (e := ge N) (S := S) (R := R) (a := false) (p := k) (Nat.le_refl R)
          simp only [Bool.false_eq_true, if_false] at ho
          skip
          exact ho
        have hpb := pb_le (∀ p, p < k → od (gs N) (ge N) (S) R p = false)
        refine z_go 30 [5, 20, 64, 83, 103] ⟨by decide, fun q => ?_, fun q => ?_⟩
        · show z_wp _ _ _ _ 5 _ _ _
          have q : ¬ (nI (ens (gs N) (ge N) S false R k) - nI (ens (gs N) (ge N) S false R k) / 2 * 2 = 0) := q
          rw [i_odd2 _ (by omega)] at q
          have := ih (k + 1) (some (.int (nI (ens (gs N) (ge N) S false R k)))) (some (.int (nI R))) l7 (by omega)
          have e5 : pb (∀ p, p < k + 1 → od (gs N) (ge N) (S) R p = false) = 0 := pb_f (fun z => q (ho.mpr (z k (by omega))))
          rw [e5] at this
          simp only [nL, nI_add, i_and, Nat.and_zero]
          exact this
        · show z_wp _ _ _ _ 5 _ _ _
          have q : nI (ens (gs N) (ge N) S false R k) - nI (ens (gs N) (ge N) S false R k) / 2 * 2 = 0 := q
          rw [i_odd2 _ (by omega)] at q
          have := ih (k + 1) (some (.int (nI (ens (gs N) (ge N) S false R k)))) (some (.int (nI R))) l7 (by omega)
          have e5 : pb (∀ p, p < k + 1 → od (gs N) (ge N) (S) R p = false) = pb (∀ p, p < k → od (gs N) (ge N) (S) R p = false) := pb_iff ⟨fun z p hp => z p (by omega), fun z p hp => by
            by_cases c : p = k
            · rw [c]
              exact ho.mp q
            · exact z p (by omega)⟩
          rw [e5] at this
          have ea : ∀ x : Nat, x ≤ 1 → x &&& 1 = x := by
            intro x hx
            rcases (show x = 0 ∨ x = 1 by omega) with rfl | rfl <;> rfl
          simp only [nL, nI_add, i_and, ea _ hpb]
          exact this
  have := outer P 0 none none none (by omega)
  rw [pb_t (fun p hp => absurd hp (Nat.not_lt_zero p))] at this
  exact ⟨rfl, z_go 30 [5, 20, 64, 83, 103] this⟩
theorem c_isEven_1 (d : Nat) {σ : z_M} {N : zN} (h : netD σ N) (hv : NV N) {S : Nat} (hS : S < 2147483648) : z_call (d + 2) k_Md_isEven [.ref 53, .int (nI S), .int 1] σ (some (.int (nI (pb (isE N (S ^^^ (2 ^ gR N - 1))))))) σ := by
  obtain ⟨P, R, eP, hP, egP, eR, hR, eg, hse⟩ := hv.nat
  have e0 : σ.1 53 0 = nI P := by rw [h.1, eP]
  have e1 : σ.1 53 1 = nI R := by rw [h.2.1, eR]
  have st83 : ∀ (i k w o : Nat) (is : Int32), i < R → w = (if S.testBit i = true then own (gs N) (ge N) i k else 0) → o = own (gs N) (ge N) i k →
      z_wp (z_call (d + 1)) none k_Md_isEven (fun r s => r = some (.int (nI (pb (isE N (S ^^^ (2 ^ gR N - 1)))))) ∧ s = σ) 20 [some (.ref 53), some (.int (nI S)), some (.int 1), some (.int is), some (.int (nI k)), some (.int (nI (ens (gs N) (ge N) S true (i + 1) k))), some (.int (nI (i + 1))), some (.int (nI o))] [] σ →
      z_wp (z_call (d + 1)) none k_Md_isEven (fun r s => r = some (.int (nI (pb (isE N (S ^^^ (2 ^ gR N - 1)))))) ∧ s = σ) 83 [some (.ref 53), some (.int (nI S)), some (.int 1), some (.int is), some (.int (nI k)), some (.int (nI (ens (gs N) (ge N) S true i k))), some (.int (nI i)), some (.int (nI o))] [.int (nI w), .int (nI (ens (gs N) (ge N) S true i k))] σ := by
    intro i k w o is hi hw ho K
    refine z_go 30 [5, 20, 64, 83, 103] ⟨fun z => absurd z (by decide), fun _ => ?_⟩
    show z_wp _ _ _ _ 20 _ _ _
    simp only [nL, nI_add]
    rw [ens, ← hw, ← ho] at K
    exact K
  have st64 : ∀ (i k o : Nat) (is : Int32) (l7 : Option Value), i < R → o = own (gs N) (ge N) i k →
      z_wp (z_call (d + 1)) none k_Md_isEven (fun r s => r = some (.int (nI (pb (isE N (S ^^^ (2 ^ gR N - 1)))))) ∧ s = σ) 20 [some (.ref 53), some (.int (nI S)), some (.int 1), some (.int is), some (.int (nI k)), some (.int (nI (ens (gs N) (ge N) S true (i + 1) k))), some (.int (nI (i + 1))), some (.int (nI o))] [] σ →
      z_wp (z_call (d + 1)) none k_Md_isEven (fun r s => r = some (.int (nI (pb (isE N (S ^^^ (2 ^ gR N - 1)))))) ∧ s = σ) 64 [some (.ref 53), some (.int (nI S)), some (.int 1), some (.int is), some (.int (nI k)), some (.int (nI (ens (gs N) (ge N) S true i k))), some (.int (nI i)), l7] [.int (nI o)] σ := by
    intro i k o is l7 hi ho K
    have hb := bq_le S i
    refine z_go 30 [5, 20, 64, 83, 103] ⟨_, _, c_in d σ hS (by omega), fun q => ?_, fun q => ?_⟩
    · have q : nI (bq S i) = nI 0 := q
      rw [n_eq (by omega) (by omega)] at q
      exact st83 i k 0 o is hi (by rw [if_neg]; intro z; rw [bq, if_pos z] at q; omega) ho K
    · have q : ¬ nI (bq S i) = nI 0 := q
      rw [n_eq (by omega) (by omega)] at q
      exact st83 i k o o is hi (by rw [if_pos, ho]; exact Classical.byContradiction fun z => q (by rw [bq, if_neg z])) ho K
  have inner : ∀ (n i k : Nat) (is : Int32) (l7 : Option Value), i + n = R → (∀ l7, z_wp (z_call (d + 1)) none k_Md_isEven (fun r s => r = some (.int (nI (pb (isE N (S ^^^ (2 ^ gR N - 1)))))) ∧ s = σ) 103 [some (.ref 53), some (.int (nI S)), some (.int 1), some (.int is), some (.int (nI k)), some (.int (nI (ens (gs N) (ge N) S true R k))), some (.int (nI R)), l7] [] σ) → k < P →
      z_wp (z_call (d + 1)) none k_Md_isEven (fun r s => r = some (.int (nI (pb (isE N (S ^^^ (2 ^ gR N - 1)))))) ∧ s = σ) 20 [some (.ref 53), some (.int (nI S)), some (.int 1), some (.int is), some (.int (nI k)), some (.int (nI (ens (gs N) (ge N) S true i k))), some (.int (nI i)), l7] [] σ := by
    intro n
    induction n with
    | zero =>
      intro i k is l7 hi K hk
      obtain rfl : i = R := by omega
      refine z_go 30 [5, 20, 64, 83, 103] ⟨fun q => K l7, fun q => ?_⟩
      rw [e1] at q
      exact absurd (Int32.le_refl _) q
    | succ n ih =>
      intro i k is l7 hi K hk
      obtain ⟨es, ee, hs, he⟩ := hse i (by omega)
      have f1 : σ.1 54 i = nI (gs N i) := by rw [(h.2.2.2 i (by omega)).1, es]
      have f2 : σ.1 55 i = nI (ge N i) := by rw [(h.2.2.2 i (by omega)).2.1, ee]
      have go := fun o ho => st64 i k o is l7 (by omega) ho (ih (i + 1) k is (some (.int (nI o))) (by omega) K hk)
      refine z_go 40 [5, 20, 64, 83, 103] ⟨fun q => ?_, fun q => ⟨by (first | exact vin (by simp only [al_2, al_3, al_4, al_5, al_7, al_11, al_12, al_13, al_15, al_16, al_17, al_19, al_20, al_21, al_22, al_23, al_24, al_25, al_26, al_28, al_30, al_31, al_32, al_33, al_34, al_36, al_41, al_42, al_43, al_44, al_49, al_50, al_51, al_52, al_54, al_55, al_56, al_57, al_58, al_59, al_60, al_61, al_62, al_63, al_64, al_65, al_66, al_67, al_68, al_69, al_70, al_71, al_72, al_73, al_74, al_75, al_76, al_77, al_78, al_79, al_80]; omega) (by simp only [al_2, al_3, al_4, al_5, al_7, al_11, al_12, al_13, al_15, al_16, al_17, al_19, al_20, al_21, al_22, al_23, al_24, al_25, al_26, al_28, al_30, al_31, al_32, al_33, al_34, al_36, al_41, al_42, al_43, al_44, al_49, al_50, al_51, al_52, al_54, al_55, al_56, al_57, al_58, al_59, al_60, al_61, al_62, al_63, al_64, al_65, al_66, al_67, al_68, al_69, al_70, al_71, al_72, al_73, al_74, al_75, al_76, al_77, al_78, al_79, al_80]; decide) | (simp (disch := omega) only [nL, nI_add, pk_mul, nc, Nat.zero_add, al_2, al_3, al_4, al_5, al_7, al_11, al_12, al_13, al_15, al_16, al_17, al_19, al_20, al_21, al_22, al_23, al_24, al_25, al_26, al_28, al_30, al_31, al_32, al_33, al_34, al_36, al_41, al_42, al_43, al_44, al_49, al_50, al_51, al_52, al_54, al_55, al_56, al_57, al_58, al_59, al_60, al_61, al_62, al_63, al_64, al_65, al_66, al_67, al_68, al_69, al_70, al_71, al_72, al_73, al_74, al_75, al_76, al_77, al_78, al_79, al_80]; exact vin (by omega) (by decide))), fun q1 => ⟨by (first | exact vin (by simp only [al_2, al_3, al_4, al_5, al_7, al_11, al_12, al_13, al_15, al_16, al_17, al_19, al_20, al_21, al_22, al_23, al_24, al_25, al_26, al_28, al_30, al_31, al_32, al_33, al_34, al_36, al_41, al_42, al_43, al_44, al_49, al_50, al_51, al_52, al_54, al_55, al_56, al_57, al_58, al_59, al_60, al_61, al_62, al_63, al_64, al_65, al_66, al_67, al_68, al_69, al_70, al_71, al_72, al_73, al_74, al_75, al_76, al_77, al_78, al_79, al_80]; omega) (by simp only [al_2, al_3, al_4, al_5, al_7, al_11, al_12, al_13, al_15, al_16, al_17, al_19, al_20, al_21, al_22, al_23, al_24, al_25, al_26, al_28, al_30, al_31, al_32, al_33, al_34, al_36, al_41, al_42, al_43, al_44, al_49, al_50, al_51, al_52, al_54, al_55, al_56, al_57, al_58, al_59, al_60, al_61, al_62, al_63, al_64, al_65, al_66, al_67, al_68, al_69, al_70, al_71, al_72, al_73, al_74, al_75, al_76, al_77, al_78, al_79, al_80]; decide) | (simp (disch := omega) only [nL, nI_add, pk_mul, nc, Nat.zero_add, al_2, al_3, al_4, al_5, al_7, al_11, al_12, al_13, al_15, al_16, al_17, al_19, al_20, al_21, al_22, al_23, al_24, al_25, al_26, al_28, al_30, al_31, al_32, al_33, al_34, al_36, al_41, al_42, al_43, al_44, al_49, al_50, al_51, al_52, al_54, al_55, al_56, al_57, al_58, al_59, al_60, al_61, al_62, al_63, al_64, al_65, al_66, al_67, al_68, al_69, al_70, al_71, al_72, al_73, al_74, al_75, al_76, al_77, al_78, al_79, al_80]; exact vin (by omega) (by decide))), fun q2 => ?_, fun q2 => ?_⟩, fun q1 => ⟨by (first | exact vin (by simp only [al_2, al_3, al_4, al_5, al_7, al_11, al_12, al_13, al_15, al_16, al_17, al_19, al_20, al_21, al_22, al_23, al_24, al_25, al_26, al_28, al_30, al_31, al_32, al_33, al_34, al_36, al_41, al_42, al_43, al_44, al_49, al_50, al_51, al_52, al_54, al_55, al_56, al_57, al_58, al_59, al_60, al_61, al_62, al_63, al_64, al_65, al_66, al_67, al_68, al_69, al_70, al_71, al_72, al_73, al_74, al_75, al_76, al_77, al_78, al_79, al_80]; omega) (by simp only [al_2, al_3, al_4, al_5, al_7, al_11, al_12, al_13, al_15, al_16, al_17, al_19, al_20, al_21, al_22, al_23, al_24, al_25, al_26, al_28, al_30, al_31, al_32, al_33, al_34, al_36, al_41, al_42, al_43, al_44, al_49, al_50, al_51, al_52, al_54, al_55, al_56, al_57, al_58, al_59, al_60, al_61, al_62, al_63, al_64, al_65, al_66, al_67, al_68, al_69, al_70, al_71, al_72, al_73, al_74, al_75, al_76, al_77, al_78, al_79, al_80]; decide) | (simp (disch := omega) only [nL, nI_add, pk_mul, nc, Nat.zero_add, al_2, al_3, al_4, al_5, al_7, al_11, al_12, al_13, al_15, al_16, al_17, al_19, al_20, al_21, al_22, al_23, al_24, al_25, al_26, al_28, al_30, al_31, al_32, al_33, al_34, al_36, al_41, al_42, al_43, al_44, al_49, al_50, al_51, al_52, al_54, al_55, al_56, al_57, al_58, al_59, al_60, al_61, al_62, al_63, al_64, al_65, al_66, al_67, al_68, al_69, al_70, al_71, al_72, al_73, al_74, al_75, al_76, al_77, al_78, al_79, al_80]; exact vin (by omega) (by decide))), fun q2 => ?_, fun q2 => ?_⟩⟩⟩
      · rw [e1] at q
        simp (disch := omega) only [nL, nI_add, pk_mul, n_le, n_lt, n_eq] at q
        omega
      · simp (disch := omega) only [nc, f1, f2, n_eq] at q1 q2
        exact go 0 (by rw [own, if_neg q1, if_neg q2])
      · simp (disch := omega) only [nc, f1, f2, n_eq] at q1 q2
        exact go 1 (by rw [own, if_neg q1, if_pos q2])
      · simp (disch := omega) only [nc, f1, f2, n_eq] at q1 q2
        exact go 1 (by rw [own, if_pos q1, if_neg q2])
      · simp (disch := omega) only [nc, f1, f2, n_eq] at q1 q2
        exact go 2 (by rw [own, if_pos q1, if_pos q2])
  have outer : ∀ (n k : Nat) (l5 l6 l7 : Option Value), k + n = P →
      z_wp (z_call (d + 1)) none k_Md_isEven (fun r s => r = some (.int (nI (pb (isE N (S ^^^ (2 ^ gR N - 1)))))) ∧ s = σ) 5 [some (.ref 53), some (.int (nI S)), some (.int 1), some (.int (nI (pb (∀ p, p < k → od (gs N) (ge N) (S ^^^ (2 ^ gR N - 1)) R p = false)))), some (.int (nI k)), l5, l6, l7] [] σ := by
    intro n
    induction n with
    | zero =>
      intro k l5 l6 l7 hk
      obtain rfl : k = P := by omega
      refine z_go 30 [5, 20, 64, 83, 103] ⟨fun q => ?_, fun q => ?_⟩
      · have e : pb (∀ p, p < k → od (gs N) (ge N) (S ^^^ (2 ^ gR N - 1)) R p = false) = pb (isE N (S ^^^ (2 ^ gR N - 1))) := by
          unfold isE evn
          rw [egP, eg]
        rw [e]
        have := pb_le (isE N (S ^^^ (2 ^ gR N - 1)))
        refine ⟨?_, rfl, rfl⟩
        rcases (show pb (isE N (S ^^^ (2 ^ gR N - 1))) = 0 ∨ pb (isE N (S ^^^ (2 ^ gR N - 1))) = 1 by omega) with z | z
        · rw [z]; exact Or.inl rfl
        · rw [z]; exact Or.inr rfl
      · rw [e0] at q
        exact absurd (Int32.le_refl _) q
    | succ n ih =>
      intro k l5 l6 l7 hk
      refine z_go 30 [5, 20, 64, 83, 103] ⟨fun q => ?_, fun q => ?_⟩
      · rw [e0] at q
        simp (disch := omega) only [nL, nI_add, pk_mul, n_le, n_lt, n_eq] at q
        omega
      · show z_wp _ _ _ _ 20 _ _ _
        refine inner R 0 k _ _ (by omega) (fun l7 => ?_) (by omega)
        have hl := ens_le (gs N) (ge N) S true R k
        have ho : ens (gs N) (ge N) S true R k % 2 = 0 ↔ od (gs N) (ge N) (S ^^^ (2 ^ gR N - 1)) R k = false := by
          have ho := ens_od (s := gs N) (e := ge N) (S := S) (R := R) (a := true) (p := k) (Nat.le_refl R)
          simp only [if_true] at ho
          rw [eg]
          exact ho
        have hpb := pb_le (∀ p, p < k → od (gs N) (ge N) (S ^^^ (2 ^ gR N - 1)) R p = false)
        refine z_go 30 [5, 20, 64, 83, 103] ⟨by decide, fun q => ?_, fun q => ?_⟩
        · show z_wp _ _ _ _ 5 _ _ _
          have q : ¬ (nI (ens (gs N) (ge N) S true R k) - nI (ens (gs N) (ge N) S true R k) / 2 * 2 = 0) := q
          rw [i_odd2 _ (by omega)] at q
          have := ih (k + 1) (some (.int (nI (ens (gs N) (ge N) S true R k)))) (some (.int (nI R))) l7 (by omega)
          have e5 : pb (∀ p, p < k + 1 → od (gs N) (ge N) (S ^^^ (2 ^ gR N - 1)) R p = false) = 0 := pb_f (fun z => q (ho.mpr (z k (by omega))))
          rw [e5] at this
          simp only [nL, nI_add, i_and, Nat.and_zero]
          exact this
        · show z_wp _ _ _ _ 5 _ _ _
          have q : nI (ens (gs N) (ge N) S true R k) - nI (ens (gs N) (ge N) S true R k) / 2 * 2 = 0 := q
          rw [i_odd2 _ (by omega)] at q
          have := ih (k + 1) (some (.int (nI (ens (gs N) (ge N) S true R k)))) (some (.int (nI R))) l7 (by omega)
          have e5 : pb (∀ p, p < k + 1 → od (gs N) (ge N) (S ^^^ (2 ^ gR N - 1)) R p = false) = pb (∀ p, p < k → od (gs N) (ge N) (S ^^^ (2 ^ gR N - 1)) R p = false) := pb_iff ⟨fun z p hp => z p (by omega), fun z p hp => by
            by_cases c : p = k
            · rw [c]
              exact ho.mp q
            · exact z p (by omega)⟩
          rw [e5] at this
          have ea : ∀ x : Nat, x ≤ 1 → x &&& 1 = x := by
            intro x hx
            rcases (show x = 0 ∨ x = 1 by omega) with rfl | rfl <;> rfl
          simp only [nL, nI_add, i_and, ea _ hpb]
          exact this
  have := outer P 0 none none none (by omega)
  rw [pb_t (fun p hp => absurd hp (Nat.not_lt_zero p))] at this
  exact ⟨rfl, z_go 30 [5, 20, 64, 83, 103] this⟩
