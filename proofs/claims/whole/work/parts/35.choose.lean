/-! the component's survey: the tree of choices is the sum over sets -/
theorem bsum_eo (g : Nat → Int) : ∀ n, bsum g (2 * n) = bsum (fun T => g (2 * T)) n + bsum (fun T => g (2 * T + 1)) n
  | 0 => rfl
  | n + 1 => by
    have ih := bsum_eo g n
    rw [show 2 * (n + 1) = 2 * n + 1 + 1 by omega]
    simp only [bsum]
    omega
theorem bsum_eq {f g : Nat → Int} : ∀ {n : Nat}, (∀ k, k < n → f k = g k) → bsum f n = bsum g n
  | 0, _ => rfl
  | n + 1, h => by
    simp only [bsum]
    rw [bsum_eq (fun k hk => h k (by omega)), h n (by omega)]
theorem bsum_two (f : Nat → Int) (S r m : Nat) : bsum (fun T => f (S + 2 ^ (r + 1) * T)) (2 ^ m) + bsum (fun T => f (2 ^ r + S + 2 ^ (r + 1) * T)) (2 ^ m) = bsum (fun T => f (S + 2 ^ r * T)) (2 ^ (m + 1)) := by
  rw [show 2 ^ (m + 1) = 2 * 2 ^ m by rw [Nat.pow_succ]; omega, bsum_eo]
  congr 1
  · apply bsum_eq
    intro k _
    rw [Nat.pow_succ, Nat.mul_assoc]
  · apply bsum_eq
    intro k _
    rw [Nat.pow_succ, Nat.mul_assoc, Nat.mul_add]
    congr 1
    omega
theorem lmb {s e : Nat → Nat} {S S' : Nat} : ∀ {n : Nat}, (∀ i, i < n → S.testBit i = S'.testBit i) → (∀ p, lb s e S n p = lb s e S' n p) ∧ mg s e S n = mg s e S' n ∧ bc S n = bc S' n
  | 0, _ => ⟨fun _ => rfl, rfl, rfl⟩
  | n + 1, h => by
    obtain ⟨h1, h2, h3⟩ := lmb (s := s) (e := e) (n := n) (fun i hi => h i (by omega))
    have hb := h n (by omega)
    refine ⟨fun p => ?_, ?_, ?_⟩
    · rw [lb_s, lb_s]
      simp only [h1, hb]
    · rw [mg, mg, h2]
      simp only [h1, hb]
    · rw [bc, bc, h3]
      simp only [hb]
theorem lb_off {s e : Nat → Nat} {S n : Nat} (h : S.testBit n = false) : (∀ p, lb s e S (n + 1) p = lb s e S n p) ∧ mg s e S (n + 1) = mg s e S n ∧ bc S (n + 1) = bc S n := by
  refine ⟨fun p => ?_, ?_, ?_⟩
  · rw [lb_s, if_neg (by rw [h]; simp)]
  · rw [mg, if_neg (by rw [h]; simp)]
    rfl
  · rw [bc, if_neg (by rw [h]; simp)]
    rfl
theorem lb_same {s e : Nat → Nat} {S n : Nat} (hq : lb s e S n (s n) = lb s e S n (e n)) : (∀ p, lb s e S (n + 1) p = lb s e S n p) ∧ mg s e S (n + 1) = mg s e S n := by
  refine ⟨fun p => ?_, ?_⟩
  · rw [lb_s]
    split
    · rename_i q
      rw [q.2, hq]
    · rfl
  · rw [mg, if_neg (fun z => z.2 hq)]
    rfl
theorem eqv_merge {P : Nat} {f g : Nat → Nat} (E : ∀ p q, p < P → q < P → (f p = f q ↔ g p = g q)) {a b : Nat} (ha : a < P) (hb : b < P) {p q : Nat} (hp : p < P) (hq : q < P) : ((if f p = f b then f a else f p) = (if f q = f b then f a else f q)) ↔ ((if g p = g a then g b else g p) = (if g q = g a then g b else g q)) := by
  have e1 := E p q hp hq
  have e2 := E p a hp ha
  have e3 := E p b hp hb
  have e4 := E q a hq ha
  have e5 := E q b hq hb
  have e6 := E a b ha hb
  grind
def tF (R : Nat) (s e : Nat → Nat) (i S : Nat) : Int := if bc S R - mg s e S R = i then sgn (R - bc S R) else 0
def tC (P R : Nat) (s e : Nat → Nat) (i S : Nat) : Int := if P - mg s e S R = i then sgn (bc S R) else 0
def tO (P R : Nat) (s e : Nat → Nat) (i S : Nat) : Int := if bc S R = mg s e S R ∧ P - mg s e S R = i then 1 else 0
theorem c_choose (d : Nat) {N : zN} (hv : NV N) : ∀ (m r S L : Nat) (σ : z_M), r + m = gR N → S < 2 ^ r → L < 262144 → (∀ p q, p < gP N → q < gP N → (fd L p = fd L q ↔ lb (gs N) (ge N) S r p = lb (gs N) (ge N) S r q)) → netC σ N →
    ∃ σ', z_call (d + 3 + m) k_Survey_choose [.ref 14, .ref 1, .int (nI r), .int (nI L), .int (nI (gP N - mg (gs N) (ge N) S r)), .int (nI (bc S r))] σ none σ' ∧ adP (fun i => bsum (fun T => tF (gR N) (gs N) (ge N) i (S + 2 ^ r * T)) (2 ^ m)) (fun i => bsum (fun T => tC (gP N) (gR N) (gs N) (ge N) i (S + 2 ^ r * T)) (2 ^ m)) (fun i => bsum (fun T => tO (gP N) (gR N) (gs N) (ge N) i (S + 2 ^ r * T)) (2 ^ m)) σ σ' := by
  obtain ⟨P, R, eP, hP, egP, eR, hR, eg, hse⟩ := hv.nat
  rw [egP, eg]
  have hse2 : ∀ i, i < R → gs N i < P ∧ ge N i < P := fun i hi => (hse i hi).2.2
  intro m
  induction m with
  | zero =>
    intro r S L σ hr hS hL E h
    obtain rfl : r = R := by omega
    obtain ⟨σ1, hc, ha⟩ := c_enter (d + 1) (σ := σ) (P := P) (R := r) (ch := bc S r) (m := mg (gs N) (ge N) S r) (by rw [h.1, eP]) (by rw [h.2.1, eR]) hP hR (mg_le S hse2) (mg_bc _ _ _ _) (bc_le _ _)
    refine z_metV ⟨rfl, z_go 60 [] ⟨fun q => ?_, fun q => ⟨σ1, hc, rfl, ?_⟩⟩⟩
    · rw [h.2.1, eR] at q
      exact absurd q Int32.lt_irrefl
    · refine ha.eq (fun i => ?_) (fun i => ?_) (fun i => ?_)
      · simp only [Nat.pow_zero, bsum, Nat.mul_zero, Nat.add_zero, Int.zero_add, tF]
      · simp only [Nat.pow_zero, bsum, Nat.mul_zero, Nat.add_zero, Int.zero_add, tC]
      · simp only [Nat.pow_zero, bsum, Nat.mul_zero, Nat.add_zero, Int.zero_add, tO]
  | succ m ih =>
    intro r S L σ hr hS hL E h
    have tb0 : S.testBit r = false := Nat.testBit_lt_two_pow hS
    have tb1 : (2 ^ r + S).testBit r = true := by rw [Nat.testBit_two_pow_add_eq, tb0]; rfl
    have tbl : ∀ i, i < r → S.testBit i = (2 ^ r + S).testBit i := fun i hi => (Nat.testBit_two_pow_add_gt hi S).symm
    obtain ⟨k1, k2, k3⟩ := lmb (s := gs N) (e := ge N) tbl
    obtain ⟨o1, o2, o3⟩ := lb_off (s := gs N) (e := ge N) tb0
    have hp2 : 2 ^ (r + 1) = 2 ^ r + 2 ^ r := by rw [Nat.pow_succ]; omega
    obtain ⟨es, ee, hs, he⟩ := hse r (by omega)
    obtain ⟨σ1, hc1, ha1⟩ := ih (r + 1) S L σ (by omega) (by omega) hL (fun p q hp hq => by rw [o1, o1]; exact E p q hp hq) h
    rw [o2, o3] at hc1
    have hN1 : netC σ1 N := h.fr (ha1.1.1 1 (by decide)) (ha1.1.1 2 (by decide)) (ha1.1.1 3 (by decide)) (ha1.1.1 4 (by decide)) (ha1.1.1 5 (by decide))
    have bc1 : bc (2 ^ r + S) (r + 1) = bc S r + 1 := by rw [bc, if_pos tb1, ← k3]
    have f2 : σ1.1 2 r = nI (gs N r) := by rw [(hN1.2.2.2 r (by omega)).1, es]
    have f3 : σ1.1 3 r = nI (ge N r) := by rw [(hN1.2.2.2 r (by omega)).2.1, ee]
    have fin : ∀ σ2, adP (fun i => bsum (fun T => tF R (gs N) (ge N) i (2 ^ r + S + 2 ^ (r + 1) * T)) (2 ^ m)) (fun i => bsum (fun T => tC P R (gs N) (ge N) i (2 ^ r + S + 2 ^ (r + 1) * T)) (2 ^ m)) (fun i => bsum (fun T => tO P R (gs N) (ge N) i (2 ^ r + S + 2 ^ (r + 1) * T)) (2 ^ m)) σ1 σ2 → adP (fun i => bsum (fun T => tF R (gs N) (ge N) i (S + 2 ^ r * T)) (2 ^ (m + 1))) (fun i => bsum (fun T => tC P R (gs N) (ge N) i (S + 2 ^ r * T)) (2 ^ (m + 1))) (fun i => bsum (fun T => tO P R (gs N) (ge N) i (S + 2 ^ r * T)) (2 ^ (m + 1))) σ σ2 := by
      intro σ2 ha2
      exact (ha1.tr ha2).eq (fun i => bsum_two (tF R (gs N) (ge N) i) S r m) (fun i => bsum_two (tC P R (gs N) (ge N) i) S r m) (fun i => bsum_two (tO P R (gs N) (ge N) i) S r m)
    have hfs := fd_lt L (gs N r)
    have hfe := fd_lt L (ge N r)
    have g2 : σ1.1 2 (nI r).toNatClampNeg = nI (gs N r) := by rw [nc (by omega)]; exact f2
    have g3 : σ1.1 3 (nI r).toNatClampNeg = nI (ge N r) := by rw [nc (by omega)]; exact f3
    have l1 := c_labelAt (d + 2 + m) σ1 hL (show gs N r < 6 by omega)
    have l2 := c_labelAt (d + 2 + m) σ1 hL (show ge N r < 6 by omega)
    rw [← g2, show d + 2 + m + 1 = d + 3 + m by omega] at l1
    rw [← g3, show d + 2 + m + 1 = d + 3 + m by omega] at l2
    rw [← nI_add r 1] at hc1
    have e10 : σ1.1 1 0 = nI P := by rw [hN1.1, eP]
    obtain ⟨L', hL', hrel, hfd⟩ := c_relabelled (d + 1 + m) σ1 hL hfe hfs hP
    rw [← e10, show d + 1 + m + 2 = d + 3 + m by omega] at hrel
    have mlt := mg_lt (s := gs N) (e := ge N) (P := P) S (n := r) (fun k hk2 => hse2 k (by omega)) (by omega)
    refine z_metV ⟨rfl, z_go 90 [] ⟨fun q => ⟨σ1, hc1, by (first | exact vin (by simp only [al_2, al_3, al_4, al_5, al_7, al_11, al_12, al_13, al_15, al_16, al_17, al_19, al_20, al_21, al_22, al_23, al_24, al_25, al_26, al_28, al_30, al_31, al_32, al_33, al_34, al_36, al_41, al_42, al_43, al_44, al_49, al_50, al_51, al_52, al_54, al_55, al_56, al_57, al_58, al_59, al_60, al_61, al_62, al_63, al_64, al_65, al_66, al_67, al_68, al_69, al_70, al_71, al_72, al_73, al_74, al_75, al_76, al_77, al_78, al_79, al_80]; omega) (by simp only [al_2, al_3, al_4, al_5, al_7, al_11, al_12, al_13, al_15, al_16, al_17, al_19, al_20, al_21, al_22, al_23, al_24, al_25, al_26, al_28, al_30, al_31, al_32, al_33, al_34, al_36, al_41, al_42, al_43, al_44, al_49, al_50, al_51, al_52, al_54, al_55, al_56, al_57, al_58, al_59, al_60, al_61, al_62, al_63, al_64, al_65, al_66, al_67, al_68, al_69, al_70, al_71, al_72, al_73, al_74, al_75, al_76, al_77, al_78, al_79, al_80]; decide) | (simp (disch := omega) only [nL, nI_add, pk_mul, nc, Nat.zero_add, al_2, al_3, al_4, al_5, al_7, al_11, al_12, al_13, al_15, al_16, al_17, al_19, al_20, al_21, al_22, al_23, al_24, al_25, al_26, al_28, al_30, al_31, al_32, al_33, al_34, al_36, al_41, al_42, al_43, al_44, al_49, al_50, al_51, al_52, al_54, al_55, al_56, al_57, al_58, al_59, al_60, al_61, al_62, al_63, al_64, al_65, al_66, al_67, al_68, al_69, al_70, al_71, al_72, al_73, al_74, al_75, al_76, al_77, al_78, al_79, al_80]; exact vin (by omega) (by decide))), _, _, l1, by (first | exact vin (by simp only [al_2, al_3, al_4, al_5, al_7, al_11, al_12, al_13, al_15, al_16, al_17, al_19, al_20, al_21, al_22, al_23, al_24, al_25, al_26, al_28, al_30, al_31, al_32, al_33, al_34, al_36, al_41, al_42, al_43, al_44, al_49, al_50, al_51, al_52, al_54, al_55, al_56, al_57, al_58, al_59, al_60, al_61, al_62, al_63, al_64, al_65, al_66, al_67, al_68, al_69, al_70, al_71, al_72, al_73, al_74, al_75, al_76, al_77, al_78, al_79, al_80]; omega) (by simp only [al_2, al_3, al_4, al_5, al_7, al_11, al_12, al_13, al_15, al_16, al_17, al_19, al_20, al_21, al_22, al_23, al_24, al_25, al_26, al_28, al_30, al_31, al_32, al_33, al_34, al_36, al_41, al_42, al_43, al_44, al_49, al_50, al_51, al_52, al_54, al_55, al_56, al_57, al_58, al_59, al_60, al_61, al_62, al_63, al_64, al_65, al_66, al_67, al_68, al_69, al_70, al_71, al_72, al_73, al_74, al_75, al_76, al_77, al_78, al_79, al_80]; decide) | (simp (disch := omega) only [nL, nI_add, pk_mul, nc, Nat.zero_add, al_2, al_3, al_4, al_5, al_7, al_11, al_12, al_13, al_15, al_16, al_17, al_19, al_20, al_21, al_22, al_23, al_24, al_25, al_26, al_28, al_30, al_31, al_32, al_33, al_34, al_36, al_41, al_42, al_43, al_44, al_49, al_50, al_51, al_52, al_54, al_55, al_56, al_57, al_58, al_59, al_60, al_61, al_62, al_63, al_64, al_65, al_66, al_67, al_68, al_69, al_70, al_71, al_72, al_73, al_74, al_75, al_76, al_77, al_78, al_79, al_80]; exact vin (by omega) (by decide))), _, _, l2, fun q2 => ⟨_, _, hrel, ?_⟩, fun q2 => ?_⟩, fun q => ?_⟩⟩
    · rw [n_eq (by omega) (by omega)] at q2
      have hne : lb (gs N) (ge N) (2 ^ r + S) r (gs N r) ≠ lb (gs N) (ge N) (2 ^ r + S) r (ge N r) := by
        rw [← k1, ← k1]
        exact fun z => q2 ((E _ _ hs he).mpr z)
      have m1 : mg (gs N) (ge N) (2 ^ r + S) (r + 1) = mg (gs N) (ge N) S r + 1 := by rw [mg, if_pos ⟨tb1, hne⟩, ← k2]
      obtain ⟨σ2, hc2, ha2⟩ := ih (r + 1) (2 ^ r + S) L' σ1 (by omega) (by omega) hL' (fun p q hp hq => by
        rw [hfd p hp, hfd q hq, lb_s, lb_s]
        simp only [tb1, true_and]
        exact eqv_merge (f := fd L) (g := lb (gs N) (ge N) (2 ^ r + S) r) (fun p q hp hq => by rw [← k1, ← k1]; exact E p q hp hq) hs he hp hq) hN1
      rw [m1, bc1, ← nI_add r 1, ← nI_add (bc S r) 1, ← Nat.sub_sub, ← i_sub (a := P - mg (gs N) (ge N) S r) (b := 1) (by omega)] at hc2
      exact ⟨σ2, hc2, rfl, fin σ2 ha2⟩
    · rw [n_eq (by omega) (by omega)] at q2
      have heq : lb (gs N) (ge N) (2 ^ r + S) r (gs N r) = lb (gs N) (ge N) (2 ^ r + S) r (ge N r) := by
        rw [← k1, ← k1]
        exact (E _ _ hs he).mp q2
      obtain ⟨s1, s2⟩ := lb_same heq
      obtain ⟨σ2, hc2, ha2⟩ := ih (r + 1) (2 ^ r + S) L σ1 (by omega) (by omega) hL (fun p q hp hq => by
        rw [s1, s1, ← k1, ← k1]
        exact E p q hp hq) hN1
      rw [s2, ← k2, bc1, ← nI_add r 1, ← nI_add (bc S r) 1] at hc2
      exact ⟨σ2, hc2, rfl, fin σ2 ha2⟩
    · rw [h.2.1, eR, n_lt (by omega) (by omega)] at q
      omega
