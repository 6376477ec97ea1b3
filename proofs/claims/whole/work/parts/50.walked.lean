/-! walked -/
def lsm (D : Nat → Int32) (S : Nat) : Nat → Int32
  | 0 => 0
  | n + 1 => if S.testBit n = true then lsm D S n + D n else lsm D S n
def lsn (N : zN) (S : Nat) : Int32 := lsm (nD N) S (gR N)
/-- the least sum, and of such sets the first -/
def wb (N : zN) (S : Nat) : Prop := S < 2 ^ gR N ∧ isE N (S ^^^ (2 ^ gR N - 1)) ∧ ∀ T, T < 2 ^ gR N → isE N (T ^^^ (2 ^ gR N - 1)) → (lsn N S).toInt ≤ (lsn N T).toInt ∧ ((lsn N S).toInt = (lsn N T).toInt → S ≤ T)
noncomputable def wst (N : zN) : Nat := @dite _ (∃ S, wb N S) (Classical.propDecidable _) (fun h => Classical.choose h) (fun _ => 0)
theorem wst_eq {N : zN} {S : Nat} (h : wb N S) : wst N = S := by
  have hx : ∃ S, wb N S := ⟨S, h⟩
  unfold wst
  rw [dif_pos hx]
  have h2 := Classical.choose_spec hx
  generalize Classical.choose hx = T at h2
  obtain ⟨a1, a2, a3⟩ := h
  obtain ⟨b1, b2, b3⟩ := h2
  have c1 := a3 T b1 b2
  have c2 := b3 S a1 a2
  have e : (lsn N S).toInt = (lsn N T).toInt := by omega
  have := c1.2 e
  have := c2.2 e.symm
  omega
noncomputable def sWalked (b : Int32) (B : zB) : Int32 × zB := (if b = 0 then lsn B.1 (wst B.1) else nI (wst B.1), B)
theorem v_walked {B : zB} (h : VB B) (b : Int32) : VB (sWalked b B).2 := h
theorem c_lengthOf (d : Nat) {σ : z_M} {N : zN} (h : netC σ N) (hv : NV N) {S : Nat} (hS : S < 2147483648) : z_call (d + 1) k_Net_lengthOf [.ref 1, .int (nI S)] σ (some (.int (lsn N S))) σ := by
  obtain ⟨P, R, eP, hP, egP, eR, hR, eg, hse⟩ := hv.nat
  have e1 : σ.1 1 1 = nI R := by rw [h.2.1, eR]
  have loop : ∀ (n i : Nat), i + n = R → z_wp (z_call d) none k_Net_lengthOf (fun r s => r = some (.int (lsn N S)) ∧ s = σ) 4 [some (.ref 1), some (.int (nI S)), some (.int (lsm (nD N) S i)), some (.int (nI i))] [] σ := by
    intro n
    induction n with
    | zero =>
      intro i hi
      obtain rfl : i = R := by omega
      refine z_go 40 [4] ⟨fun q => ⟨by rw [lsn, eg], rfl⟩, fun q => ?_⟩
      rw [e1] at q
      exact absurd (Int32.le_refl _) q
    | succ n ih =>
      intro i hi
      have hb := bq_le S i
      refine z_go 40 [4] ⟨fun q => ?_, fun q => ⟨fun q2 => ?_, fun q2 => ⟨by (first | exact vin (by simp only [al_2, al_3, al_4, al_5, al_7, al_11, al_12, al_13, al_15, al_16, al_17, al_19, al_20, al_21, al_22, al_23, al_24, al_25, al_26, al_28, al_30, al_31, al_32, al_33, al_34, al_36, al_41, al_42, al_43, al_44, al_49, al_50, al_51, al_52, al_54, al_55, al_56, al_57, al_58, al_59, al_60, al_61, al_62, al_63, al_64, al_65, al_66, al_67, al_68, al_69, al_70, al_71, al_72, al_73, al_74, al_75, al_76, al_77, al_78, al_79, al_80]; omega) (by simp only [al_2, al_3, al_4, al_5, al_7, al_11, al_12, al_13, al_15, al_16, al_17, al_19, al_20, al_21, al_22, al_23, al_24, al_25, al_26, al_28, al_30, al_31, al_32, al_33, al_34, al_36, al_41, al_42, al_43, al_44, al_49, al_50, al_51, al_52, al_54, al_55, al_56, al_57, al_58, al_59, al_60, al_61, al_62, al_63, al_64, al_65, al_66, al_67, al_68, al_69, al_70, al_71, al_72, al_73, al_74, al_75, al_76, al_77, al_78, al_79, al_80]; decide) | (simp (disch := omega) only [nL, nI_add, pk_mul, nc, Nat.zero_add, al_2, al_3, al_4, al_5, al_7, al_11, al_12, al_13, al_15, al_16, al_17, al_19, al_20, al_21, al_22, al_23, al_24, al_25, al_26, al_28, al_30, al_31, al_32, al_33, al_34, al_36, al_41, al_42, al_43, al_44, al_49, al_50, al_51, al_52, al_54, al_55, al_56, al_57, al_58, al_59, al_60, al_61, al_62, al_63, al_64, al_65, al_66, al_67, al_68, al_69, al_70, al_71, al_72, al_73, al_74, al_75, al_76, al_77, al_78, al_79, al_80]; exact vin (by omega) (by decide))), ?_⟩⟩⟩
      · rw [e1] at q
        simp (disch := omega) only [nL, nI_add, pk_mul, n_le, n_lt, n_eq] at q
        omega
      · show z_wp _ _ _ _ 4 _ _ _
        rw [i_bit hS (by omega)] at q2
        have q2 : nI (bq S i) = nI 0 := q2
        rw [n_eq (by omega) (by omega)] at q2
        have := ih (i + 1) (by omega)
        rw [lsm, if_neg (fun z => by rw [bq, if_pos z] at q2; omega)] at this
        rw [show nI i + 1 = nI (i + 1) from nI_add i 1]
        exact this
      · show z_wp _ _ _ _ 4 _ _ _
        rw [i_bit hS (by omega)] at q2
        have q2 : ¬ nI (bq S i) = nI 0 := q2
        rw [n_eq (by omega) (by omega)] at q2
        have := ih (i + 1) (by omega)
        rw [lsm, if_pos (Classical.byContradiction fun z => q2 (by rw [bq, if_neg z]))] at this
        rw [show nI i + 1 = nI (i + 1) from nI_add i 1, nc (by omega), (h.2.2.2 i (by omega)).2.2.1]
        exact this
  exact ⟨rfl, z_go 40 [4] (loop R 0 (by omega))⟩
theorem xor_all {x R : Nat} (h : x < 2 ^ R) : (2 ^ R - 1) ^^^ x = 2 ^ R - (x + 1) := by
  apply Nat.eq_of_testBit_eq
  intro i
  rw [Nat.testBit_xor, all_bit, Nat.testBit_two_pow_sub_succ h]
  by_cases c : i < R
  · rw [decide_eq_true c]
    cases x.testBit i <;> rfl
  · rw [decide_eq_false c, Nat.testBit_lt_two_pow (Nat.lt_of_lt_of_le h (Nat.pow_le_pow_right (by omega) (by omega)))]
    rfl
theorem x_walked (d : Nat) {σ : z_M} {B : zB} (h : RepC σ B) (hv : VB B) (b : Int32) : opC (d + 3) k_RF_walked [.ref 0, .int b] σ (sWalked b B) := by
  obtain ⟨P, R, eP, hP, egP, eR, hR, eg, hse⟩ := hv.1.nat
  obtain ⟨σ1, hc, hf, b1, b2, b3, b4, hg, hR'⟩ := c_growE d h.1 hv.1
  have hR1 := h.scr hf (by decide)
  have hk1 := hf.kC (by decide)
  have h10 : 2 ^ R ≤ 2 ^ 10 := Nat.pow_le_pow_right (by omega) hR
  have hpos : 0 < 2 ^ R := Nat.pow_pos (by omega)
  have hp : 2 ^ eG B.1 ≤ 2 ^ 10 := Nat.pow_le_pow_right (by omega) (by omega)
  have hone := i_one (eG B.1) (by omega)
  obtain ⟨-, hev, hup, hon⟩ := ev_ok hv.1
  rw [eg] at hev hon
  have e1 : σ1.1 1 1 = nI R := by rw [hR1.1.2.1, eR]
  have ce := fun i (hi : i < 2147483648) => c_evenSet (d + 1) (cl := ecl B.1) b3 (by omega) hi b4
  have loop : ∀ (n i c : Nat) (l6 l7 : Option Value), i + n = 2 ^ eG B.1 → c < i → (∀ k, k < i → (lsn B.1 ((2 ^ R - 1) ^^^ ev B.1 c)).toInt ≤ (lsn B.1 ((2 ^ R - 1) ^^^ ev B.1 k)).toInt ∧ ((lsn B.1 ((2 ^ R - 1) ^^^ ev B.1 c)).toInt = (lsn B.1 ((2 ^ R - 1) ^^^ ev B.1 k)).toInt → k ≤ c)) →
      z_wp (z_call (d + 2)) none k_RF_walked (pC σ (sWalked b B)) 34 [some (.ref 0), some (.int b), some (.int (nI (2 ^ R - 1))), some (.int (nI ((2 ^ R - 1) ^^^ ev B.1 c))), some (.int (lsn B.1 ((2 ^ R - 1) ^^^ ev B.1 c))), some (.int (nI i)), l6, l7] [] σ1 := by
    intro n
    induction n with
    | zero =>
      intro i c l6 l7 hi hci hb
      obtain rfl : i = 2 ^ eG B.1 := by omega
      have hlt : (2 ^ R - 1) ^^^ ev B.1 c < 2 ^ R := Nat.xor_lt_two_pow (by omega) (hev c).1
      have hw : wb B.1 ((2 ^ R - 1) ^^^ ev B.1 c) := by
        unfold wb
        rw [eg]
        refine ⟨hlt, ?_, fun T hT hE => ?_⟩
        · rw [Nat.xor_comm, ← Nat.xor_assoc, Nat.xor_self, Nat.zero_xor]
          exact (hev c).2
        · obtain ⟨k, hk, ek⟩ := hon (T ^^^ (2 ^ R - 1)) (Nat.xor_lt_two_pow hT (by omega)) hE
          have eT : T = (2 ^ R - 1) ^^^ ev B.1 k := by rw [ek, Nat.xor_comm T, ← Nat.xor_assoc, Nat.xor_self, Nat.zero_xor]
          have := hb k hk
          rw [← eT] at this
          refine ⟨this.1, fun z => ?_⟩
          have hkc := this.2 z
          rw [eT, xor_all (hev c).1, xor_all (hev k).1]
          have : ev B.1 k ≤ ev B.1 c := by
            by_cases q : k = c
            · rw [q]; exact Nat.le_refl _
            · have := hup k c (by omega) (by omega)
              omega
          omega
      have e := wst_eq hw
      unfold sWalked
      refine z_go 40 [34] ⟨fun q => ⟨fun q2 => ?_, fun q2 => ?_⟩, fun q => ?_⟩
      · rw [if_pos q2, e]
        exact ⟨rfl, hR1, hk1⟩
      · rw [if_neg q2, e]
        exact ⟨rfl, hR1, hk1⟩
      · rw [b3, hone] at q
        exact absurd (Int32.le_refl _) q
    | succ n ih =>
      intro i c l6 l7 hi hci hb
      have hlt : (2 ^ R - 1) ^^^ ev B.1 i < 2 ^ R := Nat.xor_lt_two_pow (by omega) (hev i).1
      refine z_go 60 [34] ⟨fun q => ?_, fun q => ⟨_, _, ce i (by omega), _, _, by rw [i_xor]; exact c_lengthOf (d + 1) hR1.1 hv.1 (S := (2 ^ R - 1) ^^^ ev B.1 i) (by omega), fun q2 => ?_, fun q2 => ?_⟩⟩
      · rw [b3, hone] at q
        simp (disch := omega) only [nL, nI_add, pk_mul, n_le, n_lt, n_eq] at q
        omega
      · show z_wp _ _ _ _ 34 _ _ _
        rw [show nI i + 1 = nI (i + 1) from nI_add i 1]
        refine ih (i + 1) c _ _ (by omega) (by omega) (fun k hk => ?_)
        by_cases c0 : k = i
        · subst c0
          rw [Int32.lt_iff_toInt_lt] at q2
          exact ⟨by omega, fun z => by omega⟩
        · exact hb k (by omega)
      · show z_wp _ _ _ _ 34 _ _ _
        rw [show nI i + 1 = nI (i + 1) from nI_add i 1]
        have := ih (i + 1) i (some (.int (nI ((2 ^ R - 1) ^^^ ev B.1 i)))) (some (.int (lsn B.1 ((2 ^ R - 1) ^^^ ev B.1 i)))) (by omega) (by omega) (fun k hk => by
          rw [Int32.lt_iff_toInt_lt] at q2
          by_cases c0 : k = i
          · subst c0
            exact ⟨Int.le_refl _, fun _ => Nat.le_refl _⟩
          · have := hb k (by omega)
            exact ⟨by omega, fun _ => by omega⟩)
        rw [← i_xor] at this
        exact this
  have hz : ev B.1 0 = 0 := by
    have := (hev 0).1
    refine Classical.byContradiction fun z => ?_
    obtain ⟨k, hk, ek⟩ := hon 0 hpos (fun q _ => od_0 _ _ _ q)
    by_cases c : k = 0
    · rw [c] at ek; exact z ek
    · have := hup 0 k (by omega) hk
      omega
  have e0 : (2 ^ R - 1) ^^^ ev B.1 0 = 2 ^ R - 1 := by rw [hz, Nat.xor_zero]
  have hp1 : 0 < 2 ^ eG B.1 := Nat.pow_pos (by omega)
  have start := loop (2 ^ eG B.1 - 1) 1 0 none none (by omega) (by omega) (fun k hk => by
    rw [show k = 0 by omega]
    exact ⟨Int.le_refl _, fun _ => Nat.le_refl _⟩)
  rw [e0] at start
  exact z_metC ⟨rfl, z_go 60 [34] ⟨σ1, hc, _, _, c_allRoads (d + 1) e1 hR, _, _, c_lengthOf (d + 1) hR1.1 hv.1 (S := 2 ^ R - 1) (by omega), start⟩⟩
theorem y_walked (d : Nat) {σ : z_M} {B : zB} (h : RepD σ B) (hv : VB B) (b : Int32) : opD (d + 3) k_Md_walked [.ref 53, .int b] σ (sWalked b B) := by
  obtain ⟨P, R, eP, hP, egP, eR, hR, eg, hse⟩ := hv.1.nat
  have h10 : 2 ^ R ≤ 2 ^ 10 := Nat.pow_le_pow_right (by omega) hR
  have hpos : 0 < 2 ^ R := Nat.pow_pos (by omega)
  have e1 : σ.1 53 1 = nI R := by rw [h.1.2.1, eR]
  have outer : ∀ (n S : Nat) (x y : Int32) (l5 l6 : Option Value), S + n = 2 ^ R → ((x = -1 ∧ ∀ T, T < S → ¬ isE B.1 (T ^^^ (2 ^ R - 1))) ∨ ∃ c, c < S ∧ x = nI c ∧ y = lsn B.1 c ∧ isE B.1 (c ^^^ (2 ^ R - 1)) ∧ ∀ T, T < S → isE B.1 (T ^^^ (2 ^ R - 1)) → (lsn B.1 c).toInt ≤ (lsn B.1 T).toInt ∧ ((lsn B.1 c).toInt = (lsn B.1 T).toInt → c ≤ T)) →
      z_wp (z_call (d + 2)) none k_Md_walked (pD σ (sWalked b B)) 7 [some (.ref 53), some (.int b), some (.int x), some (.int y), some (.int (nI S)), l5, l6] [] σ := by
    intro n
    induction n with
    | zero =>
      intro S x y l5 l6 hS hst
      obtain rfl : S = 2 ^ R := by omega
      rcases hst with ⟨-, hno⟩ | ⟨c, hc, rfl, rfl, hE, hb⟩
      · exfalso
        refine hno (2 ^ R - 1) (by omega) ?_
        rw [Nat.xor_self]
        exact fun q _ => od_0 _ _ _ q
      · have hw : wb B.1 c := by
          unfold wb
          rw [eg]
          exact ⟨hc, hE, hb⟩
        have e := wst_eq hw
        unfold sWalked
        refine z_go 40 [7, 22, 63] ⟨_, _, c_all (d + 1) e1 hR, fun q => ⟨fun q2 => ?_, fun q2 => ?_⟩, fun q => ?_⟩
        · rw [if_pos q2, e]
          exact ⟨rfl, h, kD.rf⟩
        · rw [if_neg q2, e]
          exact ⟨rfl, h, kD.rf⟩
        · rw [n_lt (by omega) (by omega)] at q
          omega
    | succ n ih =>
      intro S x y l5 l6 hS hst
      have fin : ∀ (l6 : Option Value), z_wp (z_call (d + 2)) none k_Md_walked (pD σ (sWalked b B)) 63 [some (.ref 53), some (.int b), some (.int x), some (.int y), some (.int (nI S)), some (.int (lsn B.1 S)), l6] [] σ := by
        intro l6
        have hpb := pb_le (isE B.1 (S ^^^ (2 ^ gR B.1 - 1)))
        have take : isE B.1 (S ^^^ (2 ^ R - 1)) → (∀ c, x = nI c → c < S → y = lsn B.1 c → (lsn B.1 S).toInt < (lsn B.1 c).toInt) → ∀ l5 l6, z_wp (z_call (d + 2)) none k_Md_walked (pD σ (sWalked b B)) 7 [some (.ref 53), some (.int b), some (.int (nI S)), some (.int (lsn B.1 S)), some (.int (nI (S + 1))), l5, l6] [] σ := by
          intro hE hlt l5 l6
          refine ih (S + 1) _ _ l5 l6 (by omega) (Or.inr ⟨S, by omega, rfl, rfl, hE, fun T hT hTE => ?_⟩)
          by_cases q : T = S
          · subst q
            exact ⟨Int.le_refl _, fun _ => Nat.le_refl _⟩
          · rcases hst with ⟨-, hno⟩ | ⟨c, hc, hx, hy, hcE, hb⟩
            · exact absurd hTE (hno T (by omega))
            · have := hlt c hx hc hy
              have := (hb T (by omega) hTE).1
              exact ⟨by omega, fun z => by omega⟩
        have skip : (isE B.1 (S ^^^ (2 ^ R - 1)) → ¬ x < 0 ∧ y.toInt ≤ (lsn B.1 S).toInt) → ∀ l5 l6, z_wp (z_call (d + 2)) none k_Md_walked (pD σ (sWalked b B)) 7 [some (.ref 53), some (.int b), some (.int x), some (.int y), some (.int (nI (S + 1))), l5, l6] [] σ := by
          intro hE l5 l6
          refine ih (S + 1) _ _ l5 l6 (by omega) ?_
          rcases hst with ⟨hx, hno⟩ | ⟨c, hc, hx, hy, hcE, hb⟩
          · refine Or.inl ⟨hx, fun T hT hTE => ?_⟩
            by_cases q : T = S
            · subst q
              have := (hE hTE).1
              rw [hx] at this
              exact this (by decide)
            · exact hno T (by omega) hTE
          · refine Or.inr ⟨c, by omega, hx, hy, hcE, fun T hT hTE => ?_⟩
            by_cases q : T = S
            · subst q
              have := (hE hTE).2
              rw [hy] at this
              exact ⟨this, fun _ => by omega⟩
            · exact hb T (by omega) hTE
        refine z_go 60 [7, 22] ⟨_, _, c_isEven_1 d h.1 hv.1 (S := S) (by omega), fun q => ?_, fun q => ⟨fun q2 => ?_, fun q2 => ⟨fun q3 => ?_, fun q3 => ?_⟩⟩⟩
        · show z_wp _ _ _ _ 7 _ _ _
          have q : nI (pb (isE B.1 (S ^^^ (2 ^ gR B.1 - 1)))) = nI 0 := q
          rw [n_eq (by omega) (by omega), eg] at q
          rw [show nI S + 1 = nI (S + 1) from nI_add S 1]
          exact skip (fun z => absurd z (pb_0 q)) _ _
        · show z_wp _ _ _ _ 7 _ _ _
          have q : ¬ nI (pb (isE B.1 (S ^^^ (2 ^ gR B.1 - 1)))) = nI 0 := q
          rw [n_eq (by omega) (by omega), eg] at q
          rw [show nI S + 1 = nI (S + 1) from nI_add S 1]
          refine take (pb_1 q) (fun c hx hc hy => ?_) _ _
          rw [hx] at q2
          exact absurd q2 (n_nn (by omega))
        · show z_wp _ _ _ _ 7 _ _ _
          rw [show nI S + 1 = nI (S + 1) from nI_add S 1]
          rw [Int32.le_iff_toInt_le] at q3
          exact skip (fun _ => ⟨q2, q3⟩) _ _
        · show z_wp _ _ _ _ 7 _ _ _
          have q : ¬ nI (pb (isE B.1 (S ^^^ (2 ^ gR B.1 - 1)))) = nI 0 := q
          rw [n_eq (by omega) (by omega), eg] at q
          rw [show nI S + 1 = nI (S + 1) from nI_add S 1]
          refine take (pb_1 q) (fun c hx hc hy => ?_) _ _
          rw [hy, Int32.le_iff_toInt_le] at q3
          omega
      have inner : ∀ (m i : Nat), i + m = R → z_wp (z_call (d + 2)) none k_Md_walked (pD σ (sWalked b B)) 22 [some (.ref 53), some (.int b), some (.int x), some (.int y), some (.int (nI S)), some (.int (lsm (nD B.1) S i)), some (.int (nI i))] [] σ := by
        intro m
        induction m with
        | zero =>
          intro i hi
          obtain rfl : i = R := by omega
          refine z_go 40 [7, 22, 63] ⟨fun q => ?_, fun q => ?_⟩
          · have := fin (some (.int (nI i)))
            rw [lsn, eg] at this
            exact this
          · rw [e1] at q
            exact absurd (Int32.le_refl _) q
        | succ m ihm =>
          intro i hi
          have hb := bq_le S i
          refine z_go 40 [7, 22, 63] ⟨fun q => ?_, fun q => ⟨_, _, c_in (d + 1) σ (S := S) (by omega) (by omega), fun q2 => ?_, fun q2 => ⟨by (first | exact vin (by simp only [al_2, al_3, al_4, al_5, al_7, al_11, al_12, al_13, al_15, al_16, al_17, al_19, al_20, al_21, al_22, al_23, al_24, al_25, al_26, al_28, al_30, al_31, al_32, al_33, al_34, al_36, al_41, al_42, al_43, al_44, al_49, al_50, al_51, al_52, al_54, al_55, al_56, al_57, al_58, al_59, al_60, al_61, al_62, al_63, al_64, al_65, al_66, al_67, al_68, al_69, al_70, al_71, al_72, al_73, al_74, al_75, al_76, al_77, al_78, al_79, al_80]; omega) (by simp only [al_2, al_3, al_4, al_5, al_7, al_11, al_12, al_13, al_15, al_16, al_17, al_19, al_20, al_21, al_22, al_23, al_24, al_25, al_26, al_28, al_30, al_31, al_32, al_33, al_34, al_36, al_41, al_42, al_43, al_44, al_49, al_50, al_51, al_52, al_54, al_55, al_56, al_57, al_58, al_59, al_60, al_61, al_62, al_63, al_64, al_65, al_66, al_67, al_68, al_69, al_70, al_71, al_72, al_73, al_74, al_75, al_76, al_77, al_78, al_79, al_80]; decide) | (simp (disch := omega) only [nL, nI_add, pk_mul, nc, Nat.zero_add, al_2, al_3, al_4, al_5, al_7, al_11, al_12, al_13, al_15, al_16, al_17, al_19, al_20, al_21, al_22, al_23, al_24, al_25, al_26, al_28, al_30, al_31, al_32, al_33, al_34, al_36, al_41, al_42, al_43, al_44, al_49, al_50, al_51, al_52, al_54, al_55, al_56, al_57, al_58, al_59, al_60, al_61, al_62, al_63, al_64, al_65, al_66, al_67, al_68, al_69, al_70, al_71, al_72, al_73, al_74, al_75, al_76, al_77, al_78, al_79, al_80]; exact vin (by omega) (by decide))), ?_⟩⟩⟩
          · rw [e1] at q
            simp (disch := omega) only [nL, nI_add, pk_mul, n_le, n_lt, n_eq] at q
            omega
          · show z_wp _ _ _ _ 22 _ _ _
            have q2 : nI (bq S i) = nI 0 := q2
            rw [n_eq (by omega) (by omega)] at q2
            have := ihm (i + 1) (by omega)
            rw [lsm, if_neg (fun z => by rw [bq, if_pos z] at q2; omega)] at this
            rw [show nI i + 1 = nI (i + 1) from nI_add i 1, Int32.add_zero]
            exact this
          · show z_wp _ _ _ _ 22 _ _ _
            have q2 : ¬ nI (bq S i) = nI 0 := q2
            rw [n_eq (by omega) (by omega)] at q2
            have := ihm (i + 1) (by omega)
            rw [lsm, if_pos (Classical.byContradiction fun z => q2 (by rw [bq, if_neg z]))] at this
            rw [show nI i + 1 = nI (i + 1) from nI_add i 1, nc (by omega), (h.1.2.2.2 i (by omega)).2.2.1]
            exact this
      refine z_go 40 [7, 22, 63] ⟨_, _, c_all (d + 1) e1 hR, fun q => ?_, fun q => ?_⟩
      · rw [n_lt (by omega) (by omega)] at q
        omega
      · exact inner R 0 (by omega)
  exact z_metD ⟨rfl, z_go 40 [7, 22, 63] (outer (2 ^ R) 0 _ _ _ _ (by omega) (Or.inl ⟨rfl, fun T hT => absurd hT (Nat.not_lt_zero T)⟩))⟩
