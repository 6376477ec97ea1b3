/-! worth: a polynomial at a place, as a long -/
def opCL (d M : Nat) (as : List Value) (σ : z_M) (o : Int64 × zB) : Prop := ∃ σ', z_call d M as σ (some (.long o.1)) σ' ∧ RepC σ' o.2 ∧ kC σ σ'
def opDL (d M : Nat) (as : List Value) (σ : z_M) (o : Int64 × zB) : Prop := ∃ σ', z_call d M as σ (some (.long o.1)) σ' ∧ RepD σ' o.2 ∧ kD σ σ'
abbrev pCL (σ : z_M) (o : Int64 × zB) : Option Value → z_M → Prop := fun r s => r = some (.long o.1) ∧ RepC s o.2 ∧ kC σ s
abbrev pDL (σ : z_M) (o : Int64 × zB) : Option Value → z_M → Prop := fun r s => r = some (.long o.1) ∧ RepD s o.2 ∧ kD σ s
theorem z_metCL {d M : Nat} {as : List Value} {σ : z_M} {o : Int64 × zB} (h : z_met d M as σ (pCL σ o)) : opCL (d + 1) M as σ o := by
  obtain ⟨r, σ', h1, rfl, h2, h3⟩ := z_metx h
  exact ⟨σ', h1, h2, h3⟩
theorem z_metDL {d M : Nat} {as : List Value} {σ : z_M} {o : Int64 × zB} (h : z_met d M as σ (pDL σ o)) : opDL (d + 1) M as σ o := by
  obtain ⟨r, σ', h1, rfl, h2, h3⟩ := z_metx h
  exact ⟨σ', h1, h2, h3⟩
def hor (f : Nat → Int32) (m : Int32) : Nat → Int64 → Int64
  | 0, v => v
  | n + 1, v => hor f m n (v * m.toInt64 + (f n).toInt64)
theorem i_dec (n : Nat) : nI (n + 1) + -1 = nI n := by
  rw [show (-1 : Int32) = - nI 1 from rfl, ← Int32.sub_eq_add_neg, i_sub (by omega)]
  rfl
def trm (b : Int32) (N : zN) (i : Nat) : Int32 := Int32.ofInt (if b = 0 then fpo (gP N) (gR N) (gs N) (ge N) i else cpo (gP N) (gR N) (gs N) (ge N) i)
theorem bsum_0 {f : Nat → Int} : ∀ {n : Nat}, (∀ k, k < n → f k = 0) → bsum f n = 0
  | 0, _ => rfl
  | n + 1, h => by
    rw [bsum, bsum_0 (fun k hk => h k (by omega)), h n (by omega)]
    rfl
theorem trm_11 (b : Int32) {N : zN} (hv : NV N) : trm b N 11 = 0 := by
  obtain ⟨P, R, eP, hP, egP, eR, hR, eg, hse⟩ := hv.nat
  unfold trm
  rw [egP, eg]
  split
  · rw [fpo, bsum_0]
    · rfl
    · intro S _
      have := bc_le S R
      rw [if_neg (by omega)]
  · rw [cpo, bsum_0]
    · rfl
    · intro S _
      rw [if_neg (by omega)]
def sWorth (b m : Int32) (B : zB) : Int64 × zB := if m < -6 then ((-1000001 : Int32).toInt64, (oTell (-1000001) B).2) else if m ≤ 12 then (hor (trm b B.1) m 11 0, B) else ((-1000001 : Int32).toInt64, (oTell (-1000001) B).2)
theorem v_worth {B : zB} (h : VB B) (b m : Int32) : VB (sWorth b m B).2 := by
  unfold sWorth
  repeat (first | exact h.tell _ | exact h | split)
theorem c_worthAt_0 (d : Nat) {σ : z_M} {f : Nat → Int32} (hf : ∀ i, i < 11 → σ.1 15 i = f i) (m : Int32) : z_call (d + 1) k_RF_worthAt [.ref 15, .int m] σ (some (.long (hor f m 11 0))) σ := by
  have loop : ∀ (n : Nat) (v : Int64), n ≤ 11 → hor f m n v = hor f m 11 0 → z_wp (z_call d) none k_RF_worthAt (fun r s => r = some (.long (hor f m 11 0)) ∧ s = σ) 6 [some (.ref 15), some (.int m), some (.long v), none, some (.int (nI n + -1))] [] σ := by
    intro n
    induction n with
    | zero =>
      intro v hn hv
      refine z_go 40 [6] ⟨fun q => ⟨by rw [← hv]; rfl, rfl⟩, fun q => absurd (show nI 0 + -1 < 0 by decide) q⟩
    | succ n ih =>
      intro v hn hv
      rw [i_dec]
      refine z_go 40 [6] ⟨fun q => absurd q (n_nn (by omega)), fun q => ⟨by (first | exact vin (by simp only [al_2, al_3, al_4, al_5, al_7, al_11, al_12, al_13, al_15, al_16, al_17, al_19, al_20, al_21, al_22, al_23, al_24, al_25, al_26, al_28, al_30, al_31, al_32, al_33, al_34, al_36, al_41, al_42, al_43, al_44, al_49, al_50, al_51, al_52, al_54, al_55, al_56, al_57, al_58, al_59, al_60, al_61, al_62, al_63, al_64, al_65, al_66, al_67, al_68, al_69, al_70, al_71, al_72, al_73, al_74, al_75, al_76, al_77, al_78, al_79, al_80]; omega) (by simp only [al_2, al_3, al_4, al_5, al_7, al_11, al_12, al_13, al_15, al_16, al_17, al_19, al_20, al_21, al_22, al_23, al_24, al_25, al_26, al_28, al_30, al_31, al_32, al_33, al_34, al_36, al_41, al_42, al_43, al_44, al_49, al_50, al_51, al_52, al_54, al_55, al_56, al_57, al_58, al_59, al_60, al_61, al_62, al_63, al_64, al_65, al_66, al_67, al_68, al_69, al_70, al_71, al_72, al_73, al_74, al_75, al_76, al_77, al_78, al_79, al_80]; decide) | (simp (disch := omega) only [nL, nI_add, pk_mul, nc, Nat.zero_add, al_2, al_3, al_4, al_5, al_7, al_11, al_12, al_13, al_15, al_16, al_17, al_19, al_20, al_21, al_22, al_23, al_24, al_25, al_26, al_28, al_30, al_31, al_32, al_33, al_34, al_36, al_41, al_42, al_43, al_44, al_49, al_50, al_51, al_52, al_54, al_55, al_56, al_57, al_58, al_59, al_60, al_61, al_62, al_63, al_64, al_65, al_66, al_67, al_68, al_69, al_70, al_71, al_72, al_73, al_74, al_75, al_76, al_77, al_78, al_79, al_80]; exact vin (by omega) (by decide))), ?_⟩⟩
      rw [nc (by omega), hf n (by omega)]
      exact ih _ (by omega) hv
  exact ⟨rfl, z_go 40 [6] (loop 11 0 (by omega) rfl)⟩
theorem x_worth_0 (d : Nat) {σ : z_M} {B : zB} (h : RepC σ B) (hv : VB B) (m : Int32) : opCL (d + 16) k_RF_worth [.ref 0, .int 0, .int m] σ (sWorth 0 m B) := by
  obtain ⟨σt, ht, hRt, hkt⟩ := c_tell (d + 14) h (-1000001)
  obtain ⟨σ1, hc, hR1, hk1, y1, -⟩ := c_look d h hv
  have cw := c_worthAt_0 (d + 14) (σ := σ1) (f := trm 0 B.1) (fun i hi => (y1 i hi).1) m
  unfold sWorth
  refine z_metCL ⟨rfl, z_go 60 [] ⟨fun q => ?_, fun q => ⟨fun q2 => ⟨σ1, hc, fun _ => ⟨_, _, cw, ?_⟩, fun z => absurd rfl z⟩, fun q2 => ?_⟩⟩⟩
  · rw [if_pos q]
    exact ⟨_, σt, ht, rfl, hRt, hkt⟩
  · rw [if_neg q, if_pos q2]
    exact ⟨rfl, hR1, hk1⟩
  · rw [if_neg q, if_neg q2]
    exact ⟨_, σt, ht, rfl, hRt, hkt⟩
theorem y_worth_0 (d : Nat) {σ : z_M} {B : zB} (h : RepD σ B) (hv : VB B) (m : Int32) : opDL (d + 5) k_Md_worth [.ref 53, .int 0, .int m] σ (sWorth 0 m B) := by
  obtain ⟨σt, ht, hRt, hkt⟩ := c_finding (d + 3) h (-1000001)
  obtain ⟨σ1, hc, hf, hp⟩ := c_tellPoly_0 d h.1 hv.1
  have hp : ∀ i, i < 12 → σ1.1 76 i = trm 0 B.1 i := hp
  have h12 : hor (trm 0 B.1) m 12 0 = hor (trm 0 B.1) m 11 0 := by
    rw [hor, trm_11 _ hv.1]
    congr 1
    rw [Int64.zero_mul]
    rfl
  have loop : ∀ (n : Nat) (v : Int64), n ≤ 12 → hor (trm 0 B.1) m n v = hor (trm 0 B.1) m 12 0 → z_wp (z_call (d + 4)) none k_Md_worth (pDL σ (hor (trm 0 B.1) m 11 0, B)) 31 [some (.ref 53), some (.int 0), some (.int m), some (.long v), none, some (.int (nI n + -1))] [] σ1 := by
    intro n
    induction n with
    | zero =>
      intro v hn hv2
      refine z_go 40 [31] ⟨fun q => ⟨by rw [← h12, ← hv2]; rfl, h.scr hf (by decide), hf.kD (by decide)⟩, fun q => absurd (show nI 0 + -1 < 0 by decide) q⟩
    | succ n ih =>
      intro v hn hv2
      rw [i_dec]
      refine z_go 40 [31] ⟨fun q => absurd q (n_nn (by omega)), fun q => ⟨by (first | exact vin (by simp only [al_2, al_3, al_4, al_5, al_7, al_11, al_12, al_13, al_15, al_16, al_17, al_19, al_20, al_21, al_22, al_23, al_24, al_25, al_26, al_28, al_30, al_31, al_32, al_33, al_34, al_36, al_41, al_42, al_43, al_44, al_49, al_50, al_51, al_52, al_54, al_55, al_56, al_57, al_58, al_59, al_60, al_61, al_62, al_63, al_64, al_65, al_66, al_67, al_68, al_69, al_70, al_71, al_72, al_73, al_74, al_75, al_76, al_77, al_78, al_79, al_80]; omega) (by simp only [al_2, al_3, al_4, al_5, al_7, al_11, al_12, al_13, al_15, al_16, al_17, al_19, al_20, al_21, al_22, al_23, al_24, al_25, al_26, al_28, al_30, al_31, al_32, al_33, al_34, al_36, al_41, al_42, al_43, al_44, al_49, al_50, al_51, al_52, al_54, al_55, al_56, al_57, al_58, al_59, al_60, al_61, al_62, al_63, al_64, al_65, al_66, al_67, al_68, al_69, al_70, al_71, al_72, al_73, al_74, al_75, al_76, al_77, al_78, al_79, al_80]; decide) | (simp (disch := omega) only [nL, nI_add, pk_mul, nc, Nat.zero_add, al_2, al_3, al_4, al_5, al_7, al_11, al_12, al_13, al_15, al_16, al_17, al_19, al_20, al_21, al_22, al_23, al_24, al_25, al_26, al_28, al_30, al_31, al_32, al_33, al_34, al_36, al_41, al_42, al_43, al_44, al_49, al_50, al_51, al_52, al_54, al_55, al_56, al_57, al_58, al_59, al_60, al_61, al_62, al_63, al_64, al_65, al_66, al_67, al_68, al_69, al_70, al_71, al_72, al_73, al_74, al_75, al_76, al_77, al_78, al_79, al_80]; exact vin (by omega) (by decide))), ?_⟩⟩
      rw [nc (by omega), hp n (by omega)]
      exact ih _ (by omega) hv2
  unfold sWorth
  refine z_metDL ⟨rfl, z_go 60 [31] ⟨fun q => ?_, fun q => ⟨fun q2 => ⟨σ1, hc, ?_⟩, fun q2 => ?_⟩⟩⟩
  · rw [if_pos q]
    exact ⟨_, σt, ht, rfl, hRt, hkt⟩
  · rw [if_neg q, if_pos q2]
    exact loop 12 0 (by omega) rfl
  · rw [if_neg q, if_neg q2]
    exact ⟨_, σt, ht, rfl, hRt, hkt⟩
theorem c_worthAt_1 (d : Nat) {σ : z_M} {f : Nat → Int32} (hf : ∀ i, i < 11 → σ.1 16 i = f i) (m : Int32) : z_call (d + 1) k_RF_worthAt [.ref 16, .int m] σ (some (.long (hor f m 11 0))) σ := by
  have loop : ∀ (n : Nat) (v : Int64), n ≤ 11 → hor f m n v = hor f m 11 0 → z_wp (z_call d) none k_RF_worthAt (fun r s => r = some (.long (hor f m 11 0)) ∧ s = σ) 6 [some (.ref 16), some (.int m), some (.long v), none, some (.int (nI n + -1))] [] σ := by
    intro n
    induction n with
    | zero =>
      intro v hn hv
      refine z_go 40 [6] ⟨fun q => ⟨by rw [← hv]; rfl, rfl⟩, fun q => absurd (show nI 0 + -1 < 0 by decide) q⟩
    | succ n ih =>
      intro v hn hv
      rw [i_dec]
      refine z_go 40 [6] ⟨fun q => absurd q (n_nn (by omega)), fun q => ⟨by (first | exact vin (by simp only [al_2, al_3, al_4, al_5, al_7, al_11, al_12, al_13, al_15, al_16, al_17, al_19, al_20, al_21, al_22, al_23, al_24, al_25, al_26, al_28, al_30, al_31, al_32, al_33, al_34, al_36, al_41, al_42, al_43, al_44, al_49, al_50, al_51, al_52, al_54, al_55, al_56, al_57, al_58, al_59, al_60, al_61, al_62, al_63, al_64, al_65, al_66, al_67, al_68, al_69, al_70, al_71, al_72, al_73, al_74, al_75, al_76, al_77, al_78, al_79, al_80]; omega) (by simp only [al_2, al_3, al_4, al_5, al_7, al_11, al_12, al_13, al_15, al_16, al_17, al_19, al_20, al_21, al_22, al_23, al_24, al_25, al_26, al_28, al_30, al_31, al_32, al_33, al_34, al_36, al_41, al_42, al_43, al_44, al_49, al_50, al_51, al_52, al_54, al_55, al_56, al_57, al_58, al_59, al_60, al_61, al_62, al_63, al_64, al_65, al_66, al_67, al_68, al_69, al_70, al_71, al_72, al_73, al_74, al_75, al_76, al_77, al_78, al_79, al_80]; decide) | (simp (disch := omega) only [nL, nI_add, pk_mul, nc, Nat.zero_add, al_2, al_3, al_4, al_5, al_7, al_11, al_12, al_13, al_15, al_16, al_17, al_19, al_20, al_21, al_22, al_23, al_24, al_25, al_26, al_28, al_30, al_31, al_32, al_33, al_34, al_36, al_41, al_42, al_43, al_44, al_49, al_50, al_51, al_52, al_54, al_55, al_56, al_57, al_58, al_59, al_60, al_61, al_62, al_63, al_64, al_65, al_66, al_67, al_68, al_69, al_70, al_71, al_72, al_73, al_74, al_75, al_76, al_77, al_78, al_79, al_80]; exact vin (by omega) (by decide))), ?_⟩⟩
      rw [nc (by omega), hf n (by omega)]
      exact ih _ (by omega) hv
  exact ⟨rfl, z_go 40 [6] (loop 11 0 (by omega) rfl)⟩
theorem x_worth_1 (d : Nat) {σ : z_M} {B : zB} (h : RepC σ B) (hv : VB B) (m : Int32) : opCL (d + 16) k_RF_worth [.ref 0, .int 1, .int m] σ (sWorth 1 m B) := by
  obtain ⟨σt, ht, hRt, hkt⟩ := c_tell (d + 14) h (-1000001)
  obtain ⟨σ1, hc, hR1, hk1, y1, -⟩ := c_look d h hv
  have cw := c_worthAt_1 (d + 14) (σ := σ1) (f := trm 1 B.1) (fun i hi => (y1 i hi).2) m
  unfold sWorth
  refine z_metCL ⟨rfl, z_go 60 [] ⟨fun q => ?_, fun q => ⟨fun q2 => ⟨σ1, hc, fun z => absurd z (by decide), fun _ => ⟨_, _, cw, ?_⟩⟩, fun q2 => ?_⟩⟩⟩
  · rw [if_pos q]
    exact ⟨_, σt, ht, rfl, hRt, hkt⟩
  · rw [if_neg q, if_pos q2]
    exact ⟨rfl, hR1, hk1⟩
  · rw [if_neg q, if_neg q2]
    exact ⟨_, σt, ht, rfl, hRt, hkt⟩
theorem y_worth_1 (d : Nat) {σ : z_M} {B : zB} (h : RepD σ B) (hv : VB B) (m : Int32) : opDL (d + 5) k_Md_worth [.ref 53, .int 1, .int m] σ (sWorth 1 m B) := by
  obtain ⟨σt, ht, hRt, hkt⟩ := c_finding (d + 3) h (-1000001)
  obtain ⟨σ1, hc, hf, hp⟩ := c_tellPoly_1 d h.1 hv.1
  have hp : ∀ i, i < 12 → σ1.1 76 i = trm 1 B.1 i := hp
  have h12 : hor (trm 1 B.1) m 12 0 = hor (trm 1 B.1) m 11 0 := by
    rw [hor, trm_11 _ hv.1]
    congr 1
    rw [Int64.zero_mul]
    rfl
  have loop : ∀ (n : Nat) (v : Int64), n ≤ 12 → hor (trm 1 B.1) m n v = hor (trm 1 B.1) m 12 0 → z_wp (z_call (d + 4)) none k_Md_worth (pDL σ (hor (trm 1 B.1) m 11 0, B)) 31 [some (.ref 53), some (.int 1), some (.int m), some (.long v), none, some (.int (nI n + -1))] [] σ1 := by
    intro n
    induction n with
    | zero =>
      intro v hn hv2
      refine z_go 40 [31] ⟨fun q => ⟨by rw [← h12, ← hv2]; rfl, h.scr hf (by decide), hf.kD (by decide)⟩, fun q => absurd (show nI 0 + -1 < 0 by decide) q⟩
    | succ n ih =>
      intro v hn hv2
      rw [i_dec]
      refine z_go 40 [31] ⟨fun q => absurd q (n_nn (by omega)), fun q => ⟨by (first | exact vin (by simp only [al_2, al_3, al_4, al_5, al_7, al_11, al_12, al_13, al_15, al_16, al_17, al_19, al_20, al_21, al_22, al_23, al_24, al_25, al_26, al_28, al_30, al_31, al_32, al_33, al_34, al_36, al_41, al_42, al_43, al_44, al_49, al_50, al_51, al_52, al_54, al_55, al_56, al_57, al_58, al_59, al_60, al_61, al_62, al_63, al_64, al_65, al_66, al_67, al_68, al_69, al_70, al_71, al_72, al_73, al_74, al_75, al_76, al_77, al_78, al_79, al_80]; omega) (by simp only [al_2, al_3, al_4, al_5, al_7, al_11, al_12, al_13, al_15, al_16, al_17, al_19, al_20, al_21, al_22, al_23, al_24, al_25, al_26, al_28, al_30, al_31, al_32, al_33, al_34, al_36, al_41, al_42, al_43, al_44, al_49, al_50, al_51, al_52, al_54, al_55, al_56, al_57, al_58, al_59, al_60, al_61, al_62, al_63, al_64, al_65, al_66, al_67, al_68, al_69, al_70, al_71, al_72, al_73, al_74, al_75, al_76, al_77, al_78, al_79, al_80]; decide) | (simp (disch := omega) only [nL, nI_add, pk_mul, nc, Nat.zero_add, al_2, al_3, al_4, al_5, al_7, al_11, al_12, al_13, al_15, al_16, al_17, al_19, al_20, al_21, al_22, al_23, al_24, al_25, al_26, al_28, al_30, al_31, al_32, al_33, al_34, al_36, al_41, al_42, al_43, al_44, al_49, al_50, al_51, al_52, al_54, al_55, al_56, al_57, al_58, al_59, al_60, al_61, al_62, al_63, al_64, al_65, al_66, al_67, al_68, al_69, al_70, al_71, al_72, al_73, al_74, al_75, al_76, al_77, al_78, al_79, al_80]; exact vin (by omega) (by decide))), ?_⟩⟩
      rw [nc (by omega), hp n (by omega)]
      exact ih _ (by omega) hv2
  unfold sWorth
  refine z_metDL ⟨rfl, z_go 60 [31] ⟨fun q => ?_, fun q => ⟨fun q2 => ⟨σ1, hc, ?_⟩, fun q2 => ?_⟩⟩⟩
  · rw [if_pos q]
    exact ⟨_, σt, ht, rfl, hRt, hkt⟩
  · rw [if_neg q, if_pos q2]
    exact loop 12 0 (by omega) rfl
  · rw [if_neg q, if_neg q2]
    exact ⟨_, σt, ht, rfl, hRt, hkt⟩
