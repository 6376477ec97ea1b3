/-! fours -/
def ffb (c : Nat → Nat → Bool) (a : Nat) : Nat → Nat → Option (Nat × Nat)
  | 0, _ => none
  | n + 1, b => if c a b = true then some (a, b) else ffb c a n (b + 1)
def orE (x y : Option (Nat × Nat)) : Option (Nat × Nat) := match x with
  | some r => some r
  | none => y
def ffa (c : Nat → Nat → Bool) (m : Nat) : Nat → Nat → Option (Nat × Nat)
  | 0, _ => none
  | n + 1, a => orE (ffb c a (m - a) a) (ffa c m n (a + 1))
def cov (N : zN) (a b : Nat) : Bool := decide (ev N a ||| ev N b = 2 ^ gR N - 1)
def ffr (N : zN) : Option (Nat × Nat) := ffa (cov N) (2 ^ eG N) (2 ^ eG N) 0
def fv (N : zN) (x : Option (Nat × Nat)) : Int32 := match x with
  | some r => nI (2048 * ev N r.1 + ev N r.2)
  | none => -1
def sFours (B : zB) : Int32 × zB := match ffr B.1 with
  | some r => (nI (2048 * ev B.1 r.1 + ev B.1 r.2), B)
  | none => oTell (-1000006) B
theorem v_fours {B : zB} (h : VB B) : VB (sFours B).2 := by
  unfold sFours
  split
  · exact h
  · exact h.tell _
theorem ffb_none {c : Nat → Nat → Bool} {a : Nat} (h : ∀ b, c a b = false) : ∀ n b, ffb c a n b = none
  | 0, _ => rfl
  | n + 1, b => by
    rw [ffb, h b, if_neg (by simp)]
    exact ffb_none h n (b + 1)
theorem ffa_none {c : Nat → Nat → Bool} {m : Nat} (h : ∀ a b, c a b = false) : ∀ n a, ffa c m n a = none
  | 0, _ => rfl
  | n + 1, a => by
    rw [ffa, ffb_none (h a)]
    exact ffa_none h n (a + 1)
theorem ffr_off {N : zN} (hv : NV N) (h : offN N ≠ 0) : ffr N = none := by
  obtain ⟨k, -, hk, -⟩ := top_bit (off_lt hv) h
  obtain ⟨hk1, hk2⟩ := (off_bit hv k).mp hk
  refine ffa_none (fun a b => decide_eq_false fun z => ?_) _ _
  have e := congrArg (fun x => x.testBit k) z
  simp only [Nat.testBit_or, all_bit, decide_eq_true hk1] at e
  obtain ⟨-, h1, -⟩ := ev_ok hv
  rw [hk2 _ (h1 a).1 (h1 a).2, hk2 _ (h1 b).1 (h1 b).2] at e
  cases e
theorem c_firstFours (d : Nat) {σ : z_M} {N : zN} (h : netC σ N) (hv : NV N) (b3 : σ.1 10 5 = nI (eG N)) (b4 : ∀ j, j < eG N → σ.1 13 j = nI (ecl N j)) : z_call (d + 2) k_RF_firstFours [.ref 0] σ (some (.int (fv N (ffr N)))) σ := by
  obtain ⟨P, R, eP, hP, egP, eR, hR, eg, hse⟩ := hv.nat
  have hg := (eG_eq hv).1
  have hp : 2 ^ eG N ≤ 2 ^ 10 := Nat.pow_le_pow_right (by omega) (by omega)
  have h10 : 2 ^ R ≤ 2 ^ 10 := Nat.pow_le_pow_right (by omega) hR
  have hpos : 0 < 2 ^ R := Nat.pow_pos (by omega)
  obtain ⟨-, hev, -⟩ := ev_ok hv
  rw [eg] at hev
  have e1 : σ.1 1 1 = nI R := by rw [h.2.1, eR]
  have ce := fun i (hi : i < 2147483648) => c_evenSet d (cl := ecl N) b3 (by omega) hi b4
  have outer : ∀ (n a : Nat) (l4 l5 l6 : Option Value), a + n = 2 ^ eG N → ffa (cov N) (2 ^ eG N) n a = ffr N →
      z_wp (z_call (d + 1)) none k_RF_firstFours (fun r s => r = some (.int (fv N (ffr N))) ∧ s = σ) 20 [some (.ref 0), some (.int (nI (2 ^ R - 1))), some (.int (nI (2 ^ eG N))), some (.int (nI a)), l4, l5, l6] [] σ := by
    intro n
    induction n with
    | zero =>
      intro a l4 l5 l6 ha hr
      obtain rfl : a = 2 ^ eG N := by omega
      refine z_go 40 [20, 38] ⟨fun q => ⟨by rw [← hr]; rfl, rfl⟩, fun q => absurd (Int32.le_refl _) q⟩
    | succ n ih =>
      intro a l4 l5 l6 ha hr
      rw [ffa] at hr
      have inner : ∀ (m b : Nat) (l6 : Option Value), b + m = 2 ^ eG N → orE (ffb (cov N) a m b) (ffa (cov N) (2 ^ eG N) n (a + 1)) = ffr N →
          z_wp (z_call (d + 1)) none k_RF_firstFours (fun r s => r = some (.int (fv N (ffr N))) ∧ s = σ) 38 [some (.ref 0), some (.int (nI (2 ^ R - 1))), some (.int (nI (2 ^ eG N))), some (.int (nI a)), some (.int (nI (ev N a))), some (.int (nI b)), l6] [] σ := by
        intro m
        induction m with
        | zero =>
          intro b l6 hb hr
          obtain rfl : b = 2 ^ eG N := by omega
          refine z_go 40 [20, 38] ⟨fun q => ?_, fun q => absurd (Int32.le_refl _) q⟩
          show z_wp _ _ _ _ 20 _ _ _
          rw [show nI a + 1 = nI (a + 1) from nI_add a 1]
          exact ih (a + 1) _ _ _ (by omega) hr
        | succ m ihm =>
          intro b l6 hb hr
          have hea := (hev a).1
          have heb := (hev b).1
          rw [ffb] at hr
          refine z_go 40 [20, 38] ⟨fun q => ?_, fun q => ⟨_, _, ce b (by omega), fun q2 => ?_, fun q2 => ?_⟩⟩
          · simp (disch := omega) only [nL, nI_add, pk_mul, n_le, n_lt, n_eq] at q
            omega
          · show z_wp _ _ _ _ 38 _ _ _
            rw [i_or, n_eq (by have := Nat.or_lt_two_pow hea heb; unfold ev at this ⊢; omega) (by omega)] at q2
            rw [if_neg (by unfold cov; rw [eg]; intro z; exact q2 (of_decide_eq_true z))] at hr
            rw [show nI b + 1 = nI (b + 1) from nI_add b 1]
            exact ihm (b + 1) _ (by omega) hr
          · rw [i_or, n_eq (by have := Nat.or_lt_two_pow hea heb; unfold ev at this ⊢; omega) (by omega)] at q2
            rw [if_pos (by unfold cov; rw [eg]; exact decide_eq_true q2)] at hr
            refine ⟨?_, rfl⟩
            rw [← hr]
            simp only [nL, pk_mul, nI_add]
            rfl
      refine z_go 40 [20, 38] ⟨fun q => ?_, fun q => ⟨_, _, ce a (by omega), ?_⟩⟩
      · simp (disch := omega) only [nL, nI_add, pk_mul, n_le, n_lt, n_eq] at q
        omega
      · show z_wp _ _ _ _ 38 _ _ _
        exact inner (2 ^ eG N - a) a _ (by omega) hr
  have hone := i_one (eG N) (by omega)
  refine ⟨rfl, z_go 40 [20, 38] ⟨_, _, c_allRoads d e1 hR, ?_⟩⟩
  show z_wp _ _ _ _ 20 _ _ _
  rw [b3, hone]
  exact outer (2 ^ eG N) 0 _ _ _ (by omega) rfl
theorem x_fours (d : Nat) {σ : z_M} {B : zB} (h : RepC σ B) (hv : VB B) : opC (d + 3) k_RF_fours [.ref 0] σ (sFours B) := by
  obtain ⟨σ1, hc, hf, b1, b2, b3, b4, hg, hR⟩ := c_growE d h.1 hv.1
  have hR1 := h.scr hf (by decide)
  have hk1 := hf.kC (by decide)
  obtain ⟨σt, ht, hRt, hkt⟩ := c_tell (d + 1) hR1 (-1000006)
  have hol := off_lt hv.1
  have h10 : 2 ^ gR B.1 ≤ 2 ^ 10 := Nat.pow_le_pow_right (by omega) (by omega)
  obtain ⟨-, hev, -⟩ := ev_ok hv.1
  unfold sFours
  refine z_metC ⟨rfl, z_go 60 [] ⟨σ1, hc, _, _, c_bridgeC (d + 1) σ1, fun q => ⟨_, _, c_firstFours d hR1.1 hv.1 b3 b4, fun q2 => ?_, fun q2 => ⟨_, σt, ht, ?_⟩⟩, fun q => ⟨fun z => absurd z (by decide), fun _ => ⟨_, σt, ht, ?_⟩⟩⟩⟩
  · cases hx : ffr B.1 with
    | none => rw [hx] at q2; exact absurd (show (0 : Int32) ≤ -1 from q2) (by decide)
    | some r => exact ⟨rfl, hR1, hk1⟩
  · cases hx : ffr B.1 with
    | none => exact ⟨rfl, hRt, hk1.tr hkt⟩
    | some r =>
      rw [hx] at q2
      have q2 : ¬ nI 0 ≤ nI (2048 * ev B.1 r.1 + ev B.1 r.2) := q2
      have h1 := (hev r.1).1
      have h2 := (hev r.2).1
      rw [n_le (by omega) (by omega)] at q2
      omega
  · rw [b1] at q
    have q : ¬ nI (offN B.1) = nI 0 := q
    rw [n_eq (by omega) (by omega)] at q
    rw [ffr_off hv.1 q]
    exact ⟨rfl, hRt, hk1.tr hkt⟩
theorem y_fours (d : Nat) {σ : z_M} {B : zB} (h : RepD σ B) (hv : VB B) : opD (d + 4) k_Md_fours [.ref 53] σ (sFours B) := by
  obtain ⟨P, R, eP, hP, egP, eR, hR, eg, hse⟩ := hv.1.nat
  have hg := (eG_eq hv.1).1
  have hp : 2 ^ eG B.1 ≤ 2 ^ 10 := Nat.pow_le_pow_right (by omega) (by omega)
  have h10 : 2 ^ R ≤ 2 ^ 10 := Nat.pow_le_pow_right (by omega) hR
  have hpos : 0 < 2 ^ R := Nat.pow_pos (by omega)
  obtain ⟨-, hev, -⟩ := ev_ok hv.1
  rw [eg] at hev
  obtain ⟨σ1, hc, hf, he⟩ := c_tellEvens d h.1 hv.1
  have hR1 := h.scr hf (by decide)
  have hk1 := hf.kD (by decide)
  have e1 : σ1.1 53 1 = nI R := by rw [hR1.1.2.1, eR]
  obtain ⟨σt, ht, hRt, hkt⟩ := c_finding (d + 2) hR1 (-1000006)
  have outer : ∀ (n a : Nat) (l3 : Option Value), a + n = 2 ^ eG B.1 → ffa (cov B.1) (2 ^ eG B.1) n a = ffr B.1 →
      z_wp (z_call (d + 3)) none k_Md_fours (pD σ (sFours B)) 7 [some (.ref 53), some (.int (nI (2 ^ eG B.1))), some (.int (nI a)), l3] [] σ1 := by
    intro n
    induction n with
    | zero =>
      intro a l3 ha hr
      obtain rfl : a = 2 ^ eG B.1 := by omega
      refine z_go 40 [7, 14] ⟨fun q => ⟨_, σt, ht, ?_⟩, fun q => absurd (Int32.le_refl _) q⟩
      unfold sFours
      rw [← hr]
      exact ⟨rfl, hRt, hk1.tr hkt⟩
    | succ n ih =>
      intro a l3 ha hr
      rw [ffa] at hr
      have inner : ∀ (m b : Nat), b + m = 2 ^ eG B.1 → orE (ffb (cov B.1) a m b) (ffa (cov B.1) (2 ^ eG B.1) n (a + 1)) = ffr B.1 →
          z_wp (z_call (d + 3)) none k_Md_fours (pD σ (sFours B)) 14 [some (.ref 53), some (.int (nI (2 ^ eG B.1))), some (.int (nI a)), some (.int (nI b))] [] σ1 := by
        intro m
        induction m with
        | zero =>
          intro b hb hr
          obtain rfl : b = 2 ^ eG B.1 := by omega
          refine z_go 40 [7, 14] ⟨fun q => ?_, fun q => absurd (Int32.le_refl _) q⟩
          show z_wp _ _ _ _ 7 _ _ _
          rw [show nI a + 1 = nI (a + 1) from nI_add a 1]
          exact ih (a + 1) _ (by omega) hr
        | succ m ihm =>
          intro b hb hr
          have hea := (hev a).1
          have heb := (hev b).1
          have fa := he a (by omega)
          have fb := he b (by omega)
          rw [ffb] at hr
          refine z_go 60 [7, 14] ⟨fun q => ?_, fun q => ⟨by (first | exact vin (by simp only [al_2, al_3, al_4, al_5, al_7, al_11, al_12, al_13, al_15, al_16, al_17, al_19, al_20, al_21, al_22, al_23, al_24, al_25, al_26, al_28, al_30, al_31, al_32, al_33, al_34, al_36, al_41, al_42, al_43, al_44, al_49, al_50, al_51, al_52, al_54, al_55, al_56, al_57, al_58, al_59, al_60, al_61, al_62, al_63, al_64, al_65, al_66, al_67, al_68, al_69, al_70, al_71, al_72, al_73, al_74, al_75, al_76, al_77, al_78, al_79, al_80]; omega) (by simp only [al_2, al_3, al_4, al_5, al_7, al_11, al_12, al_13, al_15, al_16, al_17, al_19, al_20, al_21, al_22, al_23, al_24, al_25, al_26, al_28, al_30, al_31, al_32, al_33, al_34, al_36, al_41, al_42, al_43, al_44, al_49, al_50, al_51, al_52, al_54, al_55, al_56, al_57, al_58, al_59, al_60, al_61, al_62, al_63, al_64, al_65, al_66, al_67, al_68, al_69, al_70, al_71, al_72, al_73, al_74, al_75, al_76, al_77, al_78, al_79, al_80]; decide) | (simp (disch := omega) only [nL, nI_add, pk_mul, nc, Nat.zero_add, al_2, al_3, al_4, al_5, al_7, al_11, al_12, al_13, al_15, al_16, al_17, al_19, al_20, al_21, al_22, al_23, al_24, al_25, al_26, al_28, al_30, al_31, al_32, al_33, al_34, al_36, al_41, al_42, al_43, al_44, al_49, al_50, al_51, al_52, al_54, al_55, al_56, al_57, al_58, al_59, al_60, al_61, al_62, al_63, al_64, al_65, al_66, al_67, al_68, al_69, al_70, al_71, al_72, al_73, al_74, al_75, al_76, al_77, al_78, al_79, al_80]; exact vin (by omega) (by decide))), by (first | exact vin (by simp only [al_2, al_3, al_4, al_5, al_7, al_11, al_12, al_13, al_15, al_16, al_17, al_19, al_20, al_21, al_22, al_23, al_24, al_25, al_26, al_28, al_30, al_31, al_32, al_33, al_34, al_36, al_41, al_42, al_43, al_44, al_49, al_50, al_51, al_52, al_54, al_55, al_56, al_57, al_58, al_59, al_60, al_61, al_62, al_63, al_64, al_65, al_66, al_67, al_68, al_69, al_70, al_71, al_72, al_73, al_74, al_75, al_76, al_77, al_78, al_79, al_80]; omega) (by simp only [al_2, al_3, al_4, al_5, al_7, al_11, al_12, al_13, al_15, al_16, al_17, al_19, al_20, al_21, al_22, al_23, al_24, al_25, al_26, al_28, al_30, al_31, al_32, al_33, al_34, al_36, al_41, al_42, al_43, al_44, al_49, al_50, al_51, al_52, al_54, al_55, al_56, al_57, al_58, al_59, al_60, al_61, al_62, al_63, al_64, al_65, al_66, al_67, al_68, al_69, al_70, al_71, al_72, al_73, al_74, al_75, al_76, al_77, al_78, al_79, al_80]; decide) | (simp (disch := omega) only [nL, nI_add, pk_mul, nc, Nat.zero_add, al_2, al_3, al_4, al_5, al_7, al_11, al_12, al_13, al_15, al_16, al_17, al_19, al_20, al_21, al_22, al_23, al_24, al_25, al_26, al_28, al_30, al_31, al_32, al_33, al_34, al_36, al_41, al_42, al_43, al_44, al_49, al_50, al_51, al_52, al_54, al_55, al_56, al_57, al_58, al_59, al_60, al_61, al_62, al_63, al_64, al_65, al_66, al_67, al_68, al_69, al_70, al_71, al_72, al_73, al_74, al_75, al_76, al_77, al_78, al_79, al_80]; exact vin (by omega) (by decide))), _, _, c_all (d + 2) e1 hR, fun q2 => ?_, fun q2 => ⟨by (first | exact vin (by simp only [al_2, al_3, al_4, al_5, al_7, al_11, al_12, al_13, al_15, al_16, al_17, al_19, al_20, al_21, al_22, al_23, al_24, al_25, al_26, al_28, al_30, al_31, al_32, al_33, al_34, al_36, al_41, al_42, al_43, al_44, al_49, al_50, al_51, al_52, al_54, al_55, al_56, al_57, al_58, al_59, al_60, al_61, al_62, al_63, al_64, al_65, al_66, al_67, al_68, al_69, al_70, al_71, al_72, al_73, al_74, al_75, al_76, al_77, al_78, al_79, al_80]; omega) (by simp only [al_2, al_3, al_4, al_5, al_7, al_11, al_12, al_13, al_15, al_16, al_17, al_19, al_20, al_21, al_22, al_23, al_24, al_25, al_26, al_28, al_30, al_31, al_32, al_33, al_34, al_36, al_41, al_42, al_43, al_44, al_49, al_50, al_51, al_52, al_54, al_55, al_56, al_57, al_58, al_59, al_60, al_61, al_62, al_63, al_64, al_65, al_66, al_67, al_68, al_69, al_70, al_71, al_72, al_73, al_74, al_75, al_76, al_77, al_78, al_79, al_80]; decide) | (simp (disch := omega) only [nL, nI_add, pk_mul, nc, Nat.zero_add, al_2, al_3, al_4, al_5, al_7, al_11, al_12, al_13, al_15, al_16, al_17, al_19, al_20, al_21, al_22, al_23, al_24, al_25, al_26, al_28, al_30, al_31, al_32, al_33, al_34, al_36, al_41, al_42, al_43, al_44, al_49, al_50, al_51, al_52, al_54, al_55, al_56, al_57, al_58, al_59, al_60, al_61, al_62, al_63, al_64, al_65, al_66, al_67, al_68, al_69, al_70, al_71, al_72, al_73, al_74, al_75, al_76, al_77, al_78, al_79, al_80]; exact vin (by omega) (by decide))), by (first | exact vin (by simp only [al_2, al_3, al_4, al_5, al_7, al_11, al_12, al_13, al_15, al_16, al_17, al_19, al_20, al_21, al_22, al_23, al_24, al_25, al_26, al_28, al_30, al_31, al_32, al_33, al_34, al_36, al_41, al_42, al_43, al_44, al_49, al_50, al_51, al_52, al_54, al_55, al_56, al_57, al_58, al_59, al_60, al_61, al_62, al_63, al_64, al_65, al_66, al_67, al_68, al_69, al_70, al_71, al_72, al_73, al_74, al_75, al_76, al_77, al_78, al_79, al_80]; omega) (by simp only [al_2, al_3, al_4, al_5, al_7, al_11, al_12, al_13, al_15, al_16, al_17, al_19, al_20, al_21, al_22, al_23, al_24, al_25, al_26, al_28, al_30, al_31, al_32, al_33, al_34, al_36, al_41, al_42, al_43, al_44, al_49, al_50, al_51, al_52, al_54, al_55, al_56, al_57, al_58, al_59, al_60, al_61, al_62, al_63, al_64, al_65, al_66, al_67, al_68, al_69, al_70, al_71, al_72, al_73, al_74, al_75, al_76, al_77, al_78, al_79, al_80]; decide) | (simp (disch := omega) only [nL, nI_add, pk_mul, nc, Nat.zero_add, al_2, al_3, al_4, al_5, al_7, al_11, al_12, al_13, al_15, al_16, al_17, al_19, al_20, al_21, al_22, al_23, al_24, al_25, al_26, al_28, al_30, al_31, al_32, al_33, al_34, al_36, al_41, al_42, al_43, al_44, al_49, al_50, al_51, al_52, al_54, al_55, al_56, al_57, al_58, al_59, al_60, al_61, al_62, al_63, al_64, al_65, al_66, al_67, al_68, al_69, al_70, al_71, al_72, al_73, al_74, al_75, al_76, al_77, al_78, al_79, al_80]; exact vin (by omega) (by decide))), ?_⟩⟩⟩
          · simp (disch := omega) only [nL, nI_add, pk_mul, n_le, n_lt, n_eq] at q
            omega
          · show z_wp _ _ _ _ 14 _ _ _
            rw [nc (by omega), nc (by omega), fa, fb, i_or, n_eq (by have := Nat.or_lt_two_pow hea heb; omega) (by omega)] at q2
            rw [if_neg (by unfold cov; rw [eg]; intro z; exact q2 (of_decide_eq_true z))] at hr
            rw [show nI b + 1 = nI (b + 1) from nI_add b 1]
            exact ihm (b + 1) (by omega) hr
          · rw [nc (by omega), nc (by omega), fa, fb, i_or, n_eq (by have := Nat.or_lt_two_pow hea heb; omega) (by omega)] at q2
            rw [if_pos (by unfold cov; rw [eg]; exact decide_eq_true q2)] at hr
            unfold sFours
            rw [← hr]
            refine ⟨?_, hR1, hk1⟩
            rw [nc (by omega), nc (by omega), fa, fb]
            simp only [nL, pk_mul, nI_add]
            rfl
      refine z_go 40 [7, 14] ⟨fun q => ?_, fun q => ?_⟩
      · simp (disch := omega) only [nL, nI_add, pk_mul, n_le, n_lt, n_eq] at q
        omega
      · show z_wp _ _ _ _ 14 _ _ _
        exact inner (2 ^ eG B.1 - a) a (by omega) hr
  exact z_metD ⟨rfl, z_go 40 [7, 14] ⟨_, σ1, hc, outer (2 ^ eG B.1) 0 _ (by omega) rfl⟩⟩
