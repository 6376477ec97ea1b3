/-! pieces of a set of roads: pure facts, and the model's piecesOf -/
theorem z_metR {d M : Nat} {as : List Value} {σ : z_M} {x : Int32} {Post : z_M → Prop} (h : z_met d M as σ (fun r s => r = some (.int x) ∧ Post s)) : ∃ σ', z_call (d + 1) M as σ (some (.int x)) σ' ∧ Post σ' := by
  obtain ⟨r, σ', h1, rfl, h2⟩ := z_metx h
  exact ⟨σ', h1, h2⟩
/-- how many of 0 .. n-1 have a property -/
noncomputable def cn (f : Nat → Prop) : Nat → Nat
  | 0 => 0
  | n + 1 => cn f n + @ite _ (f n) (Classical.propDecidable _) 1 0
theorem cn_p {f : Nat → Prop} {n : Nat} (h : f n) : cn f (n + 1) = cn f n + 1 := by
  rw [cn, if_pos h]
theorem cn_n {f : Nat → Prop} {n : Nat} (h : ¬ f n) : cn f (n + 1) = cn f n := by
  rw [cn, if_neg h]
  rfl
theorem cn_eq {f g : Nat → Prop} : ∀ {n : Nat}, (∀ k, k < n → (f k ↔ g k)) → cn f n = cn g n
  | 0, _ => rfl
  | n + 1, h => by
    have ih := cn_eq (n := n) (fun k hk => h k (by omega))
    by_cases q : f n
    · rw [cn_p q, cn_p ((h n (by omega)).mp q), ih]
    · rw [cn_n q, cn_n (fun z => q ((h n (by omega)).mpr z)), ih]
theorem cn_all {f : Nat → Prop} : ∀ {n : Nat}, (∀ k, k < n → f k) → cn f n = n
  | 0, _ => rfl
  | n + 1, h => by rw [cn_p (h n (by omega)), cn_all (fun k hk => h k (by omega))]
theorem cn_drop {f g : Nat → Prop} {a : Nat} (ha : f a) (hg : ∀ k, g k ↔ (f k ∧ k ≠ a)) : ∀ {n : Nat}, a < n → cn g n + 1 = cn f n
  | 0, h => by omega
  | n + 1, h => by
    by_cases e : n = a
    · subst e
      rw [cn_p ha, cn_n (fun z => ((hg n).mp z).2 rfl), cn_eq (fun k hk => (hg k).trans ⟨fun z => z.1, fun z => ⟨z, by omega⟩⟩)]
    · have ih := cn_drop ha hg (n := n) (by omega)
      by_cases q : f n
      · rw [cn_p q, cn_p ((hg n).mpr ⟨q, e⟩)]
        omega
      · rw [cn_n q, cn_n (fun z => q ((hg n).mp z).1)]
        exact ih
theorem cn_pos {f : Nat → Prop} {a : Nat} (ha : f a) : ∀ {n : Nat}, a < n → 0 < cn f n
  | 0, h => by omega
  | n + 1, h => by
    by_cases e : n = a
    · subst e
      rw [cn_p ha]
      omega
    · have ih := cn_pos ha (n := n) (by omega)
      by_cases q : f n
      · rw [cn_p q]
        omega
      · rw [cn_n q]
        exact ih
theorem lb_s (s e : Nat → Nat) (S n p : Nat) : lb s e S (n + 1) p = if S.testBit n = true ∧ lb s e S n p = lb s e S n (s n) then lb s e S n (e n) else lb s e S n p := rfl
theorem lb_lt {P : Nat} {s e : Nat → Nat} (S : Nat) : ∀ {n : Nat}, (∀ i, i < n → s i < P ∧ e i < P) → ∀ {p : Nat}, p < P → lb s e S n p < P
  | 0, _, p, hp => hp
  | n + 1, h, p, hp => by
    have ih := fun {q : Nat} (hq : q < P) => lb_lt (P := P) (s := s) (e := e) S (n := n) (fun i hi => h i (by omega)) (p := q) hq
    rw [lb_s]
    split
    · exact ih (h n (by omega)).2
    · exact ih hp
def im (P : Nat) (s e : Nat → Nat) (S n q : Nat) : Prop := ∃ p, p < P ∧ lb s e S n p = q
theorem mg_cn {P : Nat} {s e : Nat → Nat} (S : Nat) : ∀ {n : Nat}, (∀ i, i < n → s i < P ∧ e i < P) → mg s e S n + cn (im P s e S n) P = P
  | 0, _ => by
    rw [mg, cn_all (fun k hk => ⟨k, hk, rfl⟩)]
    omega
  | n + 1, h => by
    have ih := mg_cn (P := P) (s := s) (e := e) S (n := n) (fun i hi => h i (by omega))
    have hl := fun {q : Nat} (hq : q < P) => lb_lt (P := P) (s := s) (e := e) S (n := n) (fun i hi => h i (by omega)) (p := q) hq
    obtain ⟨hs, he⟩ := h n (by omega)
    by_cases c : S.testBit n = true ∧ lb s e S n (s n) ≠ lb s e S n (e n)
    · have hd := cn_drop (f := im P s e S n) (g := im P s e S (n + 1)) (a := lb s e S n (s n)) ⟨s n, hs, rfl⟩ (fun k => ?_) (hl hs)
      · rw [mg, if_pos c]
        omega
      · constructor
        · rintro ⟨p, hp, rfl⟩
          rw [lb_s]
          split
          · exact ⟨⟨e n, he, rfl⟩, fun z => c.2 z.symm⟩
          · rename_i q
            exact ⟨⟨p, hp, rfl⟩, fun z => q ⟨c.1, z⟩⟩
        · rintro ⟨⟨p, hp, rfl⟩, z⟩
          refine ⟨p, hp, ?_⟩
          rw [lb_s, if_neg (fun y => z y.2)]
    · rw [mg, if_neg c, cn_eq (g := im P s e S n)]
      · omega
      · intro k hk
        have : ∀ p, lb s e S (n + 1) p = lb s e S n p := by
          intro p
          rw [lb_s]
          split
          · rename_i q
            rw [q.2]
            exact Classical.byContradiction fun z => c ⟨q.1, fun y => z y.symm⟩
          · rfl
        unfold im
        constructor
        · rintro ⟨p, hp, hq⟩
          exact ⟨p, hp, by rw [← this]; exact hq⟩
        · rintro ⟨p, hp, hq⟩
          exact ⟨p, hp, by rw [this]; exact hq⟩
theorem mg_lt {P : Nat} {s e : Nat → Nat} (S : Nat) {n : Nat} (h : ∀ i, i < n → s i < P ∧ e i < P) (hP : 0 < P) : mg s e S n < P := by
  have h1 := mg_cn S h
  have h2 := cn_pos (f := im P s e S n) (a := lb s e S n 0) ⟨0, hP, rfl⟩ (lb_lt S h hP)
  omega
theorem mg_le {P : Nat} {s e : Nat → Nat} (S : Nat) {n : Nat} (h : ∀ i, i < n → s i < P ∧ e i < P) : mg s e S n ≤ P := by
  have h1 := mg_cn S h
  omega
theorem mg_bc (s e : Nat → Nat) (S : Nat) : ∀ n, mg s e S n ≤ bc S n
  | 0 => Nat.le_refl 0
  | n + 1 => by
    have ih := mg_bc s e S n
    rw [mg, bc]
    by_cases c : S.testBit n = true ∧ lb s e S n (s n) ≠ lb s e S n (e n)
    · rw [if_pos c, if_pos c.1]
      omega
    · rw [if_neg c]
      omega
/-- the numbers of a good net, as Nat -/
theorem NV.nat {N : zN} (h : NV N) : ∃ P R : Nat, nP N = nI P ∧ P ≤ 6 ∧ gP N = P ∧ nR N = nI R ∧ R ≤ 10 ∧ gR N = R ∧ ∀ i, i < R → nS N i = nI (gs N i) ∧ nE N i = nI (ge N i) ∧ gs N i < P ∧ ge N i < P := by
  obtain ⟨P, R, G, eP, hP, eR, hR, eG, hG, hi⟩ := h
  refine ⟨P, R, eP, hP, by unfold gP; rw [eP, nc (by omega)], eR, hR, by unfold gR; rw [eR, nc (by omega)], fun i hi2 => ?_⟩
  obtain ⟨⟨a, ha, ea⟩, ⟨b, hb, eb⟩, -⟩ := hi i hi2
  unfold gs ge
  rw [ea, eb, nc (by omega), nc (by omega)]
  exact ⟨rfl, rfl, ha, hb⟩
theorem c_piecesOf (d : Nat) {σ : z_M} {N : zN} (h : netD σ N) (hv : NV N) {S : Nat} (hS : S < 2147483648) : ∃ σ', z_call (d + 2) k_Md_piecesOf [.ref 53, .int (nI S)] σ (some (.int (nI (gP N - mg (gs N) (ge N) S (gR N))))) σ' ∧ fr [75] σ σ' ∧ ∀ p, p < gP N → σ'.1 75 p = nI (lb (gs N) (ge N) S (gR N) p) := by
  obtain ⟨P, R, eP, hP, egP, eR, hR, eg, hse⟩ := hv.nat
  rw [egP, eg]
  have hlt : ∀ {n : Nat}, n ≤ R → ∀ {p : Nat}, p < P → lb (gs N) (ge N) S n p < P := fun hn _ hp => lb_lt S (fun i hi => ⟨(hse i (by omega)).2.2.1, (hse i (by omega)).2.2.2⟩) hp
  have loop2 : ∀ (n i : Nat) (σi : z_M) (l4 l5 l6 : Option Value), i + n = R → fr [75] σ σi → (∀ p, p < P → σi.1 75 p = nI (lb (gs N) (ge N) S i p)) →
      z_wp (z_call (d + 1)) none k_Md_piecesOf (fun r s => r = some (.int (nI (P - mg (gs N) (ge N) S R))) ∧ (fr [75] σ s ∧ ∀ p, p < P → s.1 75 p = nI (lb (gs N) (ge N) S R p))) 30 [some (.ref 53), some (.int (nI S)), some (.int (nI (P - mg (gs N) (ge N) S i))), some (.int (nI i)), l4, l5, l6] [] σi := by
    intro n
    induction n with
    | zero =>
      intro i σi l4 l5 l6 hi hf hk
      obtain rfl : i = R := by omega
      have e1 : σi.1 53 1 = nI i := by rw [hf.at (by decide), h.2.1, eR]
      refine z_go 60 [2, 30, 103] ⟨fun q => ⟨rfl, hf, hk⟩, fun q => ?_⟩
      rw [e1] at q
      exact absurd (Int32.le_refl _) q
    | succ n ih =>
      intro i σi l4 l5 l6 hi hf hk
      have e1 : σi.1 53 1 = nI R := by rw [hf.at (by decide), h.2.1, eR]
      have e0 : σi.1 53 0 = nI P := by rw [hf.at (by decide), h.1, eP]
      obtain ⟨es, ee, hs, he⟩ := hse i (by omega)
      have f1 : σi.1 54 i = nI (gs N i) := by rw [hf.at (by decide), (h.2.2.2 i (by omega)).1, es]
      have f2 : σi.1 55 i = nI (ge N i) := by rw [hf.at (by decide), (h.2.2.2 i (by omega)).2.1, ee]
      have ks := hk _ hs
      have ke := hk _ he
      have la := hlt (n := i) (by omega) hs
      have lb' := hlt (n := i) (by omega) he
      have hb := bq_le S i
      have mlt := mg_lt (s := gs N) (e := ge N) (P := P) S (n := i) (fun k hk2 => ⟨(hse k (by omega)).2.2.1, (hse k (by omega)).2.2.2⟩) (by omega)
      have stay : ¬ (S.testBit i = true ∧ lb (gs N) (ge N) S i (gs N i) ≠ lb (gs N) (ge N) S i (ge N i)) → mg (gs N) (ge N) S (i + 1) = mg (gs N) (ge N) S i ∧ ∀ p, lb (gs N) (ge N) S (i + 1) p = lb (gs N) (ge N) S i p := by
        intro c
        refine ⟨by rw [mg, if_neg c]; rfl, fun p => ?_⟩
        rw [lb_s]
        split
        · rename_i q
          rw [q.2]
          exact Classical.byContradiction fun z => c ⟨q.1, fun y => z y.symm⟩
        · rfl
      have inner : ∀ (m k : Nat) (σk : z_M), k + m = P → fr [75] σ σk → S.testBit i = true → (lb (gs N) (ge N) S i (gs N i) ≠ lb (gs N) (ge N) S i (ge N i)) → (∀ p, p < P → σk.1 75 p = nI (if p < k then lb (gs N) (ge N) S (i + 1) p else lb (gs N) (ge N) S i p)) →
          z_wp (z_call (d + 1)) none k_Md_piecesOf (fun r s => r = some (.int (nI (P - mg (gs N) (ge N) S R))) ∧ (fr [75] σ s ∧ ∀ p, p < P → s.1 75 p = nI (lb (gs N) (ge N) S R p))) 103 [some (.ref 53), some (.int (nI S)), some (.int (nI (P - mg (gs N) (ge N) S (i + 1)))), some (.int (nI i)), some (.int (nI (lb (gs N) (ge N) S i (gs N i)))), some (.int (nI (lb (gs N) (ge N) S i (ge N i)))), some (.int (nI k))] [] σk := by
        intro m
        induction m with
        | zero =>
          intro k σk hk2 hfk hb1 hb2 hp
          obtain rfl : k = P := by omega
          have e0 : σk.1 53 0 = nI k := by rw [hfk.at (by decide), h.1, eP]
          refine z_go 60 [2, 30, 103] ⟨fun q => ?_, fun q => ?_⟩
          · show z_wp _ _ _ _ 30 _ _ _
            simp only [nL, nI_add]
            exact ih (i + 1) σk _ _ _ (by omega) hfk (fun p hp2 => by rw [hp p hp2, if_pos hp2])
          · rw [e0] at q
            exact absurd (Int32.le_refl _) q
        | succ m ihm =>
          intro k σk hk2 hfk hb1 hb2 hp
          have e0 : σk.1 53 0 = nI P := by rw [hfk.at (by decide), h.1, eP]
          have ek := hp k (by omega)
          rw [if_neg (by omega)] at ek
          have lk := hlt (n := i) (by omega) (p := k) (by omega)
          refine z_go 60 [2, 30, 103] ⟨fun q => ?_, fun q => ⟨by (first | exact vin (by simp only [al_2, al_3, al_4, al_5, al_7, al_11, al_12, al_13, al_15, al_16, al_17, al_19, al_20, al_21, al_22, al_23, al_24, al_25, al_26, al_28, al_30, al_31, al_32, al_33, al_34, al_36, al_41, al_42, al_43, al_44, al_49, al_50, al_51, al_52, al_54, al_55, al_56, al_57, al_58, al_59, al_60, al_61, al_62, al_63, al_64, al_65, al_66, al_67, al_68, al_69, al_70, al_71, al_72, al_73, al_74, al_75, al_76, al_77, al_78, al_79, al_80]; omega) (by simp only [al_2, al_3, al_4, al_5, al_7, al_11, al_12, al_13, al_15, al_16, al_17, al_19, al_20, al_21, al_22, al_23, al_24, al_25, al_26, al_28, al_30, al_31, al_32, al_33, al_34, al_36, al_41, al_42, al_43, al_44, al_49, al_50, al_51, al_52, al_54, al_55, al_56, al_57, al_58, al_59, al_60, al_61, al_62, al_63, al_64, al_65, al_66, al_67, al_68, al_69, al_70, al_71, al_72, al_73, al_74, al_75, al_76, al_77, al_78, al_79, al_80]; decide) | (simp (disch := omega) only [nL, nI_add, pk_mul, nc, Nat.zero_add, al_2, al_3, al_4, al_5, al_7, al_11, al_12, al_13, al_15, al_16, al_17, al_19, al_20, al_21, al_22, al_23, al_24, al_25, al_26, al_28, al_30, al_31, al_32, al_33, al_34, al_36, al_41, al_42, al_43, al_44, al_49, al_50, al_51, al_52, al_54, al_55, al_56, al_57, al_58, al_59, al_60, al_61, al_62, al_63, al_64, al_65, al_66, al_67, al_68, al_69, al_70, al_71, al_72, al_73, al_74, al_75, al_76, al_77, al_78, al_79, al_80]; exact vin (by omega) (by decide))), fun q2 => ⟨by (first | exact vin (by simp only [al_2, al_3, al_4, al_5, al_7, al_11, al_12, al_13, al_15, al_16, al_17, al_19, al_20, al_21, al_22, al_23, al_24, al_25, al_26, al_28, al_30, al_31, al_32, al_33, al_34, al_36, al_41, al_42, al_43, al_44, al_49, al_50, al_51, al_52, al_54, al_55, al_56, al_57, al_58, al_59, al_60, al_61, al_62, al_63, al_64, al_65, al_66, al_67, al_68, al_69, al_70, al_71, al_72, al_73, al_74, al_75, al_76, al_77, al_78, al_79, al_80]; omega) (by simp only [al_2, al_3, al_4, al_5, al_7, al_11, al_12, al_13, al_15, al_16, al_17, al_19, al_20, al_21, al_22, al_23, al_24, al_25, al_26, al_28, al_30, al_31, al_32, al_33, al_34, al_36, al_41, al_42, al_43, al_44, al_49, al_50, al_51, al_52, al_54, al_55, al_56, al_57, al_58, al_59, al_60, al_61, al_62, al_63, al_64, al_65, al_66, al_67, al_68, al_69, al_70, al_71, al_72, al_73, al_74, al_75, al_76, al_77, al_78, al_79, al_80]; decide) | (simp (disch := omega) only [nL, nI_add, pk_mul, nc, Nat.zero_add, al_2, al_3, al_4, al_5, al_7, al_11, al_12, al_13, al_15, al_16, al_17, al_19, al_20, al_21, al_22, al_23, al_24, al_25, al_26, al_28, al_30, al_31, al_32, al_33, al_34, al_36, al_41, al_42, al_43, al_44, al_49, al_50, al_51, al_52, al_54, al_55, al_56, al_57, al_58, al_59, al_60, al_61, al_62, al_63, al_64, al_65, al_66, al_67, al_68, al_69, al_70, al_71, al_72, al_73, al_74, al_75, al_76, al_77, al_78, al_79, al_80]; exact vin (by omega) (by decide))), by (first | exact vin (by simp only [al_2, al_3, al_4, al_5, al_7, al_11, al_12, al_13, al_15, al_16, al_17, al_19, al_20, al_21, al_22, al_23, al_24, al_25, al_26, al_28, al_30, al_31, al_32, al_33, al_34, al_36, al_41, al_42, al_43, al_44, al_49, al_50, al_51, al_52, al_54, al_55, al_56, al_57, al_58, al_59, al_60, al_61, al_62, al_63, al_64, al_65, al_66, al_67, al_68, al_69, al_70, al_71, al_72, al_73, al_74, al_75, al_76, al_77, al_78, al_79, al_80]; omega) (by simp only [al_2, al_3, al_4, al_5, al_7, al_11, al_12, al_13, al_15, al_16, al_17, al_19, al_20, al_21, al_22, al_23, al_24, al_25, al_26, al_28, al_30, al_31, al_32, al_33, al_34, al_36, al_41, al_42, al_43, al_44, al_49, al_50, al_51, al_52, al_54, al_55, al_56, al_57, al_58, al_59, al_60, al_61, al_62, al_63, al_64, al_65, al_66, al_67, al_68, al_69, al_70, al_71, al_72, al_73, al_74, al_75, al_76, al_77, al_78, al_79, al_80]; decide) | (simp (disch := omega) only [nL, nI_add, pk_mul, nc, Nat.zero_add, al_2, al_3, al_4, al_5, al_7, al_11, al_12, al_13, al_15, al_16, al_17, al_19, al_20, al_21, al_22, al_23, al_24, al_25, al_26, al_28, al_30, al_31, al_32, al_33, al_34, al_36, al_41, al_42, al_43, al_44, al_49, al_50, al_51, al_52, al_54, al_55, al_56, al_57, al_58, al_59, al_60, al_61, al_62, al_63, al_64, al_65, al_66, al_67, al_68, al_69, al_70, al_71, al_72, al_73, al_74, al_75, al_76, al_77, al_78, al_79, al_80]; exact vin (by omega) (by decide))), ?_⟩, fun q2 => ⟨by (first | exact vin (by simp only [al_2, al_3, al_4, al_5, al_7, al_11, al_12, al_13, al_15, al_16, al_17, al_19, al_20, al_21, al_22, al_23, al_24, al_25, al_26, al_28, al_30, al_31, al_32, al_33, al_34, al_36, al_41, al_42, al_43, al_44, al_49, al_50, al_51, al_52, al_54, al_55, al_56, al_57, al_58, al_59, al_60, al_61, al_62, al_63, al_64, al_65, al_66, al_67, al_68, al_69, al_70, al_71, al_72, al_73, al_74, al_75, al_76, al_77, al_78, al_79, al_80]; omega) (by simp only [al_2, al_3, al_4, al_5, al_7, al_11, al_12, al_13, al_15, al_16, al_17, al_19, al_20, al_21, al_22, al_23, al_24, al_25, al_26, al_28, al_30, al_31, al_32, al_33, al_34, al_36, al_41, al_42, al_43, al_44, al_49, al_50, al_51, al_52, al_54, al_55, al_56, al_57, al_58, al_59, al_60, al_61, al_62, al_63, al_64, al_65, al_66, al_67, al_68, al_69, al_70, al_71, al_72, al_73, al_74, al_75, al_76, al_77, al_78, al_79, al_80]; decide) | (simp (disch := omega) only [nL, nI_add, pk_mul, nc, Nat.zero_add, al_2, al_3, al_4, al_5, al_7, al_11, al_12, al_13, al_15, al_16, al_17, al_19, al_20, al_21, al_22, al_23, al_24, al_25, al_26, al_28, al_30, al_31, al_32, al_33, al_34, al_36, al_41, al_42, al_43, al_44, al_49, al_50, al_51, al_52, al_54, al_55, al_56, al_57, al_58, al_59, al_60, al_61, al_62, al_63, al_64, al_65, al_66, al_67, al_68, al_69, al_70, al_71, al_72, al_73, al_74, al_75, al_76, al_77, al_78, al_79, al_80]; exact vin (by omega) (by decide))), ?_⟩⟩⟩
          · rw [e0] at q
            simp (disch := omega) only [nL, nI_add, pk_mul, n_le, n_lt, n_eq] at q
            omega
          · show z_wp _ _ _ _ 103 _ _ _
            rw [nc (by omega), ek, n_eq (by omega) (by omega)] at q2
            simp (disch := omega) only [nL, nI_add, nc, ek]
            refine ihm (k + 1) _ (by omega) (fr.wr hfk (by decide)) hb1 hb2 (fun p hp2 => ?_)
            by_cases e : p = k
            · subst e
              rw [wr_s, if_pos (by omega), lb_s, if_neg (fun z => q2 z.2)]
            · rw [wr_k e, hp p hp2]
              by_cases e2 : p < k
              · rw [if_pos e2, if_pos (by omega)]
              · rw [if_neg e2, if_neg (by omega)]
          · show z_wp _ _ _ _ 103 _ _ _
            rw [nc (by omega), ek, n_eq (by omega) (by omega)] at q2
            simp (disch := omega) only [nL, nI_add, nc, ek]
            refine ihm (k + 1) _ (by omega) (fr.wr hfk (by decide)) hb1 hb2 (fun p hp2 => ?_)
            by_cases e : p = k
            · subst e
              rw [wr_s, if_pos (by omega), lb_s, if_pos ⟨hb1, q2⟩]
            · rw [wr_k e, hp p hp2]
              by_cases e2 : p < k
              · rw [if_pos e2, if_pos (by omega)]
              · rw [if_neg e2, if_neg (by omega)]
      refine z_go 90 [2, 30, 103] ⟨fun q => ?_, fun q => ⟨_, _, c_in d σi hS (by omega), fun q2 => ?_, fun q2 => ⟨by (first | exact vin (by simp only [al_2, al_3, al_4, al_5, al_7, al_11, al_12, al_13, al_15, al_16, al_17, al_19, al_20, al_21, al_22, al_23, al_24, al_25, al_26, al_28, al_30, al_31, al_32, al_33, al_34, al_36, al_41, al_42, al_43, al_44, al_49, al_50, al_51, al_52, al_54, al_55, al_56, al_57, al_58, al_59, al_60, al_61, al_62, al_63, al_64, al_65, al_66, al_67, al_68, al_69, al_70, al_71, al_72, al_73, al_74, al_75, al_76, al_77, al_78, al_79, al_80]; omega) (by simp only [al_2, al_3, al_4, al_5, al_7, al_11, al_12, al_13, al_15, al_16, al_17, al_19, al_20, al_21, al_22, al_23, al_24, al_25, al_26, al_28, al_30, al_31, al_32, al_33, al_34, al_36, al_41, al_42, al_43, al_44, al_49, al_50, al_51, al_52, al_54, al_55, al_56, al_57, al_58, al_59, al_60, al_61, al_62, al_63, al_64, al_65, al_66, al_67, al_68, al_69, al_70, al_71, al_72, al_73, al_74, al_75, al_76, al_77, al_78, al_79, al_80]; decide) | (simp (disch := omega) only [nL, nI_add, pk_mul, nc, Nat.zero_add, al_2, al_3, al_4, al_5, al_7, al_11, al_12, al_13, al_15, al_16, al_17, al_19, al_20, al_21, al_22, al_23, al_24, al_25, al_26, al_28, al_30, al_31, al_32, al_33, al_34, al_36, al_41, al_42, al_43, al_44, al_49, al_50, al_51, al_52, al_54, al_55, al_56, al_57, al_58, al_59, al_60, al_61, al_62, al_63, al_64, al_65, al_66, al_67, al_68, al_69, al_70, al_71, al_72, al_73, al_74, al_75, al_76, al_77, al_78, al_79, al_80]; exact vin (by omega) (by decide))), by (rw [nc (by omega), f1]; (first | exact vin (by simp only [al_2, al_3, al_4, al_5, al_7, al_11, al_12, al_13, al_15, al_16, al_17, al_19, al_20, al_21, al_22, al_23, al_24, al_25, al_26, al_28, al_30, al_31, al_32, al_33, al_34, al_36, al_41, al_42, al_43, al_44, al_49, al_50, al_51, al_52, al_54, al_55, al_56, al_57, al_58, al_59, al_60, al_61, al_62, al_63, al_64, al_65, al_66, al_67, al_68, al_69, al_70, al_71, al_72, al_73, al_74, al_75, al_76, al_77, al_78, al_79, al_80]; omega) (by simp only [al_2, al_3, al_4, al_5, al_7, al_11, al_12, al_13, al_15, al_16, al_17, al_19, al_20, al_21, al_22, al_23, al_24, al_25, al_26, al_28, al_30, al_31, al_32, al_33, al_34, al_36, al_41, al_42, al_43, al_44, al_49, al_50, al_51, al_52, al_54, al_55, al_56, al_57, al_58, al_59, al_60, al_61, al_62, al_63, al_64, al_65, al_66, al_67, al_68, al_69, al_70, al_71, al_72, al_73, al_74, al_75, al_76, al_77, al_78, al_79, al_80]; decide) | (simp (disch := omega) only [nL, nI_add, pk_mul, nc, Nat.zero_add, al_2, al_3, al_4, al_5, al_7, al_11, al_12, al_13, al_15, al_16, al_17, al_19, al_20, al_21, al_22, al_23, al_24, al_25, al_26, al_28, al_30, al_31, al_32, al_33, al_34, al_36, al_41, al_42, al_43, al_44, al_49, al_50, al_51, al_52, al_54, al_55, al_56, al_57, al_58, al_59, al_60, al_61, al_62, al_63, al_64, al_65, al_66, al_67, al_68, al_69, al_70, al_71, al_72, al_73, al_74, al_75, al_76, al_77, al_78, al_79, al_80]; exact vin (by omega) (by decide)))), by (first | exact vin (by simp only [al_2, al_3, al_4, al_5, al_7, al_11, al_12, al_13, al_15, al_16, al_17, al_19, al_20, al_21, al_22, al_23, al_24, al_25, al_26, al_28, al_30, al_31, al_32, al_33, al_34, al_36, al_41, al_42, al_43, al_44, al_49, al_50, al_51, al_52, al_54, al_55, al_56, al_57, al_58, al_59, al_60, al_61, al_62, al_63, al_64, al_65, al_66, al_67, al_68, al_69, al_70, al_71, al_72, al_73, al_74, al_75, al_76, al_77, al_78, al_79, al_80]; omega) (by simp only [al_2, al_3, al_4, al_5, al_7, al_11, al_12, al_13, al_15, al_16, al_17, al_19, al_20, al_21, al_22, al_23, al_24, al_25, al_26, al_28, al_30, al_31, al_32, al_33, al_34, al_36, al_41, al_42, al_43, al_44, al_49, al_50, al_51, al_52, al_54, al_55, al_56, al_57, al_58, al_59, al_60, al_61, al_62, al_63, al_64, al_65, al_66, al_67, al_68, al_69, al_70, al_71, al_72, al_73, al_74, al_75, al_76, al_77, al_78, al_79, al_80]; decide) | (simp (disch := omega) only [nL, nI_add, pk_mul, nc, Nat.zero_add, al_2, al_3, al_4, al_5, al_7, al_11, al_12, al_13, al_15, al_16, al_17, al_19, al_20, al_21, al_22, al_23, al_24, al_25, al_26, al_28, al_30, al_31, al_32, al_33, al_34, al_36, al_41, al_42, al_43, al_44, al_49, al_50, al_51, al_52, al_54, al_55, al_56, al_57, al_58, al_59, al_60, al_61, al_62, al_63, al_64, al_65, al_66, al_67, al_68, al_69, al_70, al_71, al_72, al_73, al_74, al_75, al_76, al_77, al_78, al_79, al_80]; exact vin (by omega) (by decide))), by (rw [nc (by omega), f2]; (first | exact vin (by simp only [al_2, al_3, al_4, al_5, al_7, al_11, al_12, al_13, al_15, al_16, al_17, al_19, al_20, al_21, al_22, al_23, al_24, al_25, al_26, al_28, al_30, al_31, al_32, al_33, al_34, al_36, al_41, al_42, al_43, al_44, al_49, al_50, al_51, al_52, al_54, al_55, al_56, al_57, al_58, al_59, al_60, al_61, al_62, al_63, al_64, al_65, al_66, al_67, al_68, al_69, al_70, al_71, al_72, al_73, al_74, al_75, al_76, al_77, al_78, al_79, al_80]; omega) (by simp only [al_2, al_3, al_4, al_5, al_7, al_11, al_12, al_13, al_15, al_16, al_17, al_19, al_20, al_21, al_22, al_23, al_24, al_25, al_26, al_28, al_30, al_31, al_32, al_33, al_34, al_36, al_41, al_42, al_43, al_44, al_49, al_50, al_51, al_52, al_54, al_55, al_56, al_57, al_58, al_59, al_60, al_61, al_62, al_63, al_64, al_65, al_66, al_67, al_68, al_69, al_70, al_71, al_72, al_73, al_74, al_75, al_76, al_77, al_78, al_79, al_80]; decide) | (simp (disch := omega) only [nL, nI_add, pk_mul, nc, Nat.zero_add, al_2, al_3, al_4, al_5, al_7, al_11, al_12, al_13, al_15, al_16, al_17, al_19, al_20, al_21, al_22, al_23, al_24, al_25, al_26, al_28, al_30, al_31, al_32, al_33, al_34, al_36, al_41, al_42, al_43, al_44, al_49, al_50, al_51, al_52, al_54, al_55, al_56, al_57, al_58, al_59, al_60, al_61, al_62, al_63, al_64, al_65, al_66, al_67, al_68, al_69, al_70, al_71, al_72, al_73, al_74, al_75, al_76, al_77, al_78, al_79, al_80]; exact vin (by omega) (by decide)))), fun q3 => ?_, fun q3 => ⟨by (first | exact vin (by simp only [al_2, al_3, al_4, al_5, al_7, al_11, al_12, al_13, al_15, al_16, al_17, al_19, al_20, al_21, al_22, al_23, al_24, al_25, al_26, al_28, al_30, al_31, al_32, al_33, al_34, al_36, al_41, al_42, al_43, al_44, al_49, al_50, al_51, al_52, al_54, al_55, al_56, al_57, al_58, al_59, al_60, al_61, al_62, al_63, al_64, al_65, al_66, al_67, al_68, al_69, al_70, al_71, al_72, al_73, al_74, al_75, al_76, al_77, al_78, al_79, al_80]; omega) (by simp only [al_2, al_3, al_4, al_5, al_7, al_11, al_12, al_13, al_15, al_16, al_17, al_19, al_20, al_21, al_22, al_23, al_24, al_25, al_26, al_28, al_30, al_31, al_32, al_33, al_34, al_36, al_41, al_42, al_43, al_44, al_49, al_50, al_51, al_52, al_54, al_55, al_56, al_57, al_58, al_59, al_60, al_61, al_62, al_63, al_64, al_65, al_66, al_67, al_68, al_69, al_70, al_71, al_72, al_73, al_74, al_75, al_76, al_77, al_78, al_79, al_80]; decide) | (simp (disch := omega) only [nL, nI_add, pk_mul, nc, Nat.zero_add, al_2, al_3, al_4, al_5, al_7, al_11, al_12, al_13, al_15, al_16, al_17, al_19, al_20, al_21, al_22, al_23, al_24, al_25, al_26, al_28, al_30, al_31, al_32, al_33, al_34, al_36, al_41, al_42, al_43, al_44, al_49, al_50, al_51, al_52, al_54, al_55, al_56, al_57, al_58, al_59, al_60, al_61, al_62, al_63, al_64, al_65, al_66, al_67, al_68, al_69, al_70, al_71, al_72, al_73, al_74, al_75, al_76, al_77, al_78, al_79, al_80]; exact vin (by omega) (by decide))), by (rw [nc (by omega), f1]; (first | exact vin (by simp only [al_2, al_3, al_4, al_5, al_7, al_11, al_12, al_13, al_15, al_16, al_17, al_19, al_20, al_21, al_22, al_23, al_24, al_25, al_26, al_28, al_30, al_31, al_32, al_33, al_34, al_36, al_41, al_42, al_43, al_44, al_49, al_50, al_51, al_52, al_54, al_55, al_56, al_57, al_58, al_59, al_60, al_61, al_62, al_63, al_64, al_65, al_66, al_67, al_68, al_69, al_70, al_71, al_72, al_73, al_74, al_75, al_76, al_77, al_78, al_79, al_80]; omega) (by simp only [al_2, al_3, al_4, al_5, al_7, al_11, al_12, al_13, al_15, al_16, al_17, al_19, al_20, al_21, al_22, al_23, al_24, al_25, al_26, al_28, al_30, al_31, al_32, al_33, al_34, al_36, al_41, al_42, al_43, al_44, al_49, al_50, al_51, al_52, al_54, al_55, al_56, al_57, al_58, al_59, al_60, al_61, al_62, al_63, al_64, al_65, al_66, al_67, al_68, al_69, al_70, al_71, al_72, al_73, al_74, al_75, al_76, al_77, al_78, al_79, al_80]; decide) | (simp (disch := omega) only [nL, nI_add, pk_mul, nc, Nat.zero_add, al_2, al_3, al_4, al_5, al_7, al_11, al_12, al_13, al_15, al_16, al_17, al_19, al_20, al_21, al_22, al_23, al_24, al_25, al_26, al_28, al_30, al_31, al_32, al_33, al_34, al_36, al_41, al_42, al_43, al_44, al_49, al_50, al_51, al_52, al_54, al_55, al_56, al_57, al_58, al_59, al_60, al_61, al_62, al_63, al_64, al_65, al_66, al_67, al_68, al_69, al_70, al_71, al_72, al_73, al_74, al_75, al_76, al_77, al_78, al_79, al_80]; exact vin (by omega) (by decide)))), by (first | exact vin (by simp only [al_2, al_3, al_4, al_5, al_7, al_11, al_12, al_13, al_15, al_16, al_17, al_19, al_20, al_21, al_22, al_23, al_24, al_25, al_26, al_28, al_30, al_31, al_32, al_33, al_34, al_36, al_41, al_42, al_43, al_44, al_49, al_50, al_51, al_52, al_54, al_55, al_56, al_57, al_58, al_59, al_60, al_61, al_62, al_63, al_64, al_65, al_66, al_67, al_68, al_69, al_70, al_71, al_72, al_73, al_74, al_75, al_76, al_77, al_78, al_79, al_80]; omega) (by simp only [al_2, al_3, al_4, al_5, al_7, al_11, al_12, al_13, al_15, al_16, al_17, al_19, al_20, al_21, al_22, al_23, al_24, al_25, al_26, al_28, al_30, al_31, al_32, al_33, al_34, al_36, al_41, al_42, al_43, al_44, al_49, al_50, al_51, al_52, al_54, al_55, al_56, al_57, al_58, al_59, al_60, al_61, al_62, al_63, al_64, al_65, al_66, al_67, al_68, al_69, al_70, al_71, al_72, al_73, al_74, al_75, al_76, al_77, al_78, al_79, al_80]; decide) | (simp (disch := omega) only [nL, nI_add, pk_mul, nc, Nat.zero_add, al_2, al_3, al_4, al_5, al_7, al_11, al_12, al_13, al_15, al_16, al_17, al_19, al_20, al_21, al_22, al_23, al_24, al_25, al_26, al_28, al_30, al_31, al_32, al_33, al_34, al_36, al_41, al_42, al_43, al_44, al_49, al_50, al_51, al_52, al_54, al_55, al_56, al_57, al_58, al_59, al_60, al_61, al_62, al_63, al_64, al_65, al_66, al_67, al_68, al_69, al_70, al_71, al_72, al_73, al_74, al_75, al_76, al_77, al_78, al_79, al_80]; exact vin (by omega) (by decide))), by (rw [nc (by omega), f2]; (first | exact vin (by simp only [al_2, al_3, al_4, al_5, al_7, al_11, al_12, al_13, al_15, al_16, al_17, al_19, al_20, al_21, al_22, al_23, al_24, al_25, al_26, al_28, al_30, al_31, al_32, al_33, al_34, al_36, al_41, al_42, al_43, al_44, al_49, al_50, al_51, al_52, al_54, al_55, al_56, al_57, al_58, al_59, al_60, al_61, al_62, al_63, al_64, al_65, al_66, al_67, al_68, al_69, al_70, al_71, al_72, al_73, al_74, al_75, al_76, al_77, al_78, al_79, al_80]; omega) (by simp only [al_2, al_3, al_4, al_5, al_7, al_11, al_12, al_13, al_15, al_16, al_17, al_19, al_20, al_21, al_22, al_23, al_24, al_25, al_26, al_28, al_30, al_31, al_32, al_33, al_34, al_36, al_41, al_42, al_43, al_44, al_49, al_50, al_51, al_52, al_54, al_55, al_56, al_57, al_58, al_59, al_60, al_61, al_62, al_63, al_64, al_65, al_66, al_67, al_68, al_69, al_70, al_71, al_72, al_73, al_74, al_75, al_76, al_77, al_78, al_79, al_80]; decide) | (simp (disch := omega) only [nL, nI_add, pk_mul, nc, Nat.zero_add, al_2, al_3, al_4, al_5, al_7, al_11, al_12, al_13, al_15, al_16, al_17, al_19, al_20, al_21, al_22, al_23, al_24, al_25, al_26, al_28, al_30, al_31, al_32, al_33, al_34, al_36, al_41, al_42, al_43, al_44, al_49, al_50, al_51, al_52, al_54, al_55, al_56, al_57, al_58, al_59, al_60, al_61, al_62, al_63, al_64, al_65, al_66, al_67, al_68, al_69, al_70, al_71, al_72, al_73, al_74, al_75, al_76, al_77, al_78, al_79, al_80]; exact vin (by omega) (by decide)))), ?_⟩⟩⟩⟩
      · rw [e1] at q
        simp (disch := omega) only [nL, nI_add, pk_mul, n_le, n_lt, n_eq] at q
        omega
      · show z_wp _ _ _ _ 30 _ _ _
        have q2 : nI (bq S i) = nI 0 := q2
        rw [n_eq (by omega) (by omega)] at q2
        obtain ⟨t1, t2⟩ := stay (fun z => by rw [bq, if_pos z.1] at q2; omega)
        simp only [nL, nI_add]
        rw [← t1]
        exact ih (i + 1) σi _ _ _ (by omega) hf (fun p hp => by rw [hk p hp, t2])
      · show z_wp _ _ _ _ 30 _ _ _
        simp (disch := omega) only [nc, f1, f2, ks, ke, n_eq] at q3
        obtain ⟨t1, t2⟩ := stay (fun z => z.2 q3)
        simp only [nL, nI_add]
        rw [← t1]
        exact ih (i + 1) σi _ _ _ (by omega) hf (fun p hp => by rw [hk p hp, t2])
      · have q2 : ¬ nI (bq S i) = nI 0 := q2
        rw [n_eq (by omega) (by omega)] at q2
        have tb : S.testBit i = true := Classical.byContradiction fun z => q2 (by rw [bq, if_neg z])
        show z_wp _ _ _ _ 103 _ _ _
        simp (disch := omega) only [nc, f1, f2, ks, ke, n_eq] at q3
        simp (disch := omega) only [nc, f1, f2, ks, ke]
        have t1 : mg (gs N) (ge N) S (i + 1) = mg (gs N) (ge N) S i + 1 := by rw [mg, if_pos ⟨tb, q3⟩]
        have t3 : nI (P - mg (gs N) (ge N) S i) + -1 = nI (P - mg (gs N) (ge N) S (i + 1)) := by
          rw [t1, show (-1 : Int32) = - nI 1 from rfl, ← Int32.sub_eq_add_neg, i_sub (by omega), Nat.sub_sub]
        rw [t3]
        exact inner P 0 σi (by omega) hf tb q3 (fun p hp => by rw [hk p hp, if_neg (by omega)])
  have loop1 : ∀ (n i : Nat) (σi : z_M), i + n = P → fr [75] σ σi → (∀ p, p < i → σi.1 75 p = nI p) →
      z_wp (z_call (d + 1)) none k_Md_piecesOf (fun r s => r = some (.int (nI (P - mg (gs N) (ge N) S R))) ∧ (fr [75] σ s ∧ ∀ p, p < P → s.1 75 p = nI (lb (gs N) (ge N) S R p))) 2 [some (.ref 53), some (.int (nI S)), some (.int (nI i)), none, none, none, none] [] σi := by
    intro n
    induction n with
    | zero =>
      intro i σi hi hf hk
      obtain rfl : i = P := by omega
      have e0 : σi.1 53 0 = nI i := by rw [hf.at (by decide), h.1, eP]
      refine z_go 60 [2, 30, 103] ⟨fun q => ?_, fun q => ?_⟩
      · show z_wp _ _ _ _ 30 _ _ _
        rw [e0]
        exact loop2 R 0 σi _ _ _ (by omega) hf hk
      · rw [e0] at q
        exact absurd (Int32.le_refl _) q
    | succ n ih =>
      intro i σi hi hf hk
      have e0 : σi.1 53 0 = nI P := by rw [hf.at (by decide), h.1, eP]
      refine z_go 60 [2, 30, 103] ⟨fun q => ?_, fun q => ⟨by (first | exact vin (by simp only [al_2, al_3, al_4, al_5, al_7, al_11, al_12, al_13, al_15, al_16, al_17, al_19, al_20, al_21, al_22, al_23, al_24, al_25, al_26, al_28, al_30, al_31, al_32, al_33, al_34, al_36, al_41, al_42, al_43, al_44, al_49, al_50, al_51, al_52, al_54, al_55, al_56, al_57, al_58, al_59, al_60, al_61, al_62, al_63, al_64, al_65, al_66, al_67, al_68, al_69, al_70, al_71, al_72, al_73, al_74, al_75, al_76, al_77, al_78, al_79, al_80]; omega) (by simp only [al_2, al_3, al_4, al_5, al_7, al_11, al_12, al_13, al_15, al_16, al_17, al_19, al_20, al_21, al_22, al_23, al_24, al_25, al_26, al_28, al_30, al_31, al_32, al_33, al_34, al_36, al_41, al_42, al_43, al_44, al_49, al_50, al_51, al_52, al_54, al_55, al_56, al_57, al_58, al_59, al_60, al_61, al_62, al_63, al_64, al_65, al_66, al_67, al_68, al_69, al_70, al_71, al_72, al_73, al_74, al_75, al_76, al_77, al_78, al_79, al_80]; decide) | (simp (disch := omega) only [nL, nI_add, pk_mul, nc, Nat.zero_add, al_2, al_3, al_4, al_5, al_7, al_11, al_12, al_13, al_15, al_16, al_17, al_19, al_20, al_21, al_22, al_23, al_24, al_25, al_26, al_28, al_30, al_31, al_32, al_33, al_34, al_36, al_41, al_42, al_43, al_44, al_49, al_50, al_51, al_52, al_54, al_55, al_56, al_57, al_58, al_59, al_60, al_61, al_62, al_63, al_64, al_65, al_66, al_67, al_68, al_69, al_70, al_71, al_72, al_73, al_74, al_75, al_76, al_77, al_78, al_79, al_80]; exact vin (by omega) (by decide))), ?_⟩⟩
      · rw [e0] at q
        simp (disch := omega) only [nL, nI_add, pk_mul, n_le, n_lt, n_eq] at q
        omega
      · show z_wp _ _ _ _ 2 _ _ _
        simp (disch := omega) only [nL, nI_add, nc]
        refine ih (i + 1) _ (by omega) (fr.wr hf (by decide)) (fun p hp => ?_)
        by_cases e : p = i
        · subst e
          rw [wr_s]
        · rw [wr_k e]
          exact hk p (by omega)
  exact z_metR ⟨rfl, z_go 60 [2, 30, 103] (loop1 P 0 σ (by omega) fr.rf (fun p hp => by omega))⟩
