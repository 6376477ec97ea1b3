/-! copying between sheets -/
theorem hol_ne {m : Nat} (hm : m ≤ 24) {a n : Int32} (h : ¬ hol (nI m) a n = 0) : ∃ a' n' : Nat, a = nI a' ∧ n = nI n' ∧ a' + n' ≤ m := by
  unfold hol at h
  split at h
  · exact absurd rfl h
  · rename_i h1
    split at h
    · exact absurd rfl h
    · rename_i h2
      split at h
      · exact absurd rfl h
      · rename_i h3
        obtain ⟨a', ha, rfl⟩ := nI_of h1
        obtain ⟨n', hn, rfl⟩ := nI_of h2
        refine ⟨a', n', rfl, rfl, ?_⟩
        rw [Int32.lt_iff_toInt_lt, Int32.toInt_sub, nI_toInt (by omega), nI_toInt (by omega), nI_toInt (by omega), Int.bmod_eq_of_le (by omega) (by omega)] at h3
        omega
def hpt (sz a n : Int32) : Int32 := if a < 0 then 0 else if n < 0 then 0 else if sz < n then 0 else if sz - n < a then 0 else 1
theorem hpt_hol {m : Nat} (hm : m ≤ 24) (a n : Int32) : hpt (nI m) a n = hol (nI m) a n := by
  unfold hpt hol
  by_cases h1 : a < 0
  · rw [if_pos h1, if_pos h1]
  · rw [if_neg h1, if_neg h1]
    by_cases h2 : n < 0
    · rw [if_pos h2, if_pos h2]
    · rw [if_neg h2, if_neg h2]
      by_cases h3 : nI m < n
      · rw [if_pos h3, if_pos]
        obtain ⟨a', ha, rfl⟩ := nI_of h1
        obtain ⟨n', hn, rfl⟩ := nI_of h2
        rw [n_lt (by omega) (by omega)] at h3
        rw [Int32.lt_iff_toInt_lt, Int32.toInt_sub, nI_toInt (by omega), nI_toInt (by omega), nI_toInt (by omega), Int.bmod_eq_of_le (by omega) (by omega)]
        omega
      · rw [if_neg h3]
theorem c_hasPart (d : Nat) (σ : z_M) {j : Nat} (hj : j < 4) {m : Nat} (hm : m ≤ 24) (e : σ.1 64 j = nI m) (a n : Int32) : z_call (d + 1) k_Md_hasPart [.ref 53, .int (nI j), .int a, .int n] σ (some (.int (hol (nI m) a n))) σ := by
  rw [← hpt_hol hm]
  unfold hpt
  refine ⟨rfl, z_go 30 [] ⟨fun h => ⟨Or.inl rfl, by rw [if_pos h], rfl⟩, fun h => ⟨fun h2 => ⟨Or.inl rfl, by rw [if_neg h, if_pos h2], rfl⟩, fun h2 => ⟨by (first | exact vin (by simp only [al_2, al_3, al_4, al_5, al_7, al_11, al_12, al_13, al_15, al_16, al_17, al_19, al_20, al_21, al_22, al_23, al_24, al_25, al_26, al_28, al_30, al_31, al_32, al_33, al_34, al_36, al_41, al_42, al_43, al_44, al_49, al_50, al_51, al_52, al_54, al_55, al_56, al_57, al_58, al_59, al_60, al_61, al_62, al_63, al_64, al_65, al_66, al_67, al_68, al_69, al_70, al_71, al_72, al_73, al_74, al_75, al_76, al_77, al_78, al_79, al_80]; omega) (by simp only [al_2, al_3, al_4, al_5, al_7, al_11, al_12, al_13, al_15, al_16, al_17, al_19, al_20, al_21, al_22, al_23, al_24, al_25, al_26, al_28, al_30, al_31, al_32, al_33, al_34, al_36, al_41, al_42, al_43, al_44, al_49, al_50, al_51, al_52, al_54, al_55, al_56, al_57, al_58, al_59, al_60, al_61, al_62, al_63, al_64, al_65, al_66, al_67, al_68, al_69, al_70, al_71, al_72, al_73, al_74, al_75, al_76, al_77, al_78, al_79, al_80]; decide) | (simp (disch := omega) only [nL, nI_add, pk_mul, nc, Nat.zero_add, al_2, al_3, al_4, al_5, al_7, al_11, al_12, al_13, al_15, al_16, al_17, al_19, al_20, al_21, al_22, al_23, al_24, al_25, al_26, al_28, al_30, al_31, al_32, al_33, al_34, al_36, al_41, al_42, al_43, al_44, al_49, al_50, al_51, al_52, al_54, al_55, al_56, al_57, al_58, al_59, al_60, al_61, al_62, al_63, al_64, al_65, al_66, al_67, al_68, al_69, al_70, al_71, al_72, al_73, al_74, al_75, al_76, al_77, al_78, al_79, al_80]; exact vin (by omega) (by decide))), fun h3 => ⟨Or.inl rfl, ?_, rfl⟩, fun h3 => ⟨by (first | exact vin (by simp only [al_2, al_3, al_4, al_5, al_7, al_11, al_12, al_13, al_15, al_16, al_17, al_19, al_20, al_21, al_22, al_23, al_24, al_25, al_26, al_28, al_30, al_31, al_32, al_33, al_34, al_36, al_41, al_42, al_43, al_44, al_49, al_50, al_51, al_52, al_54, al_55, al_56, al_57, al_58, al_59, al_60, al_61, al_62, al_63, al_64, al_65, al_66, al_67, al_68, al_69, al_70, al_71, al_72, al_73, al_74, al_75, al_76, al_77, al_78, al_79, al_80]; omega) (by simp only [al_2, al_3, al_4, al_5, al_7, al_11, al_12, al_13, al_15, al_16, al_17, al_19, al_20, al_21, al_22, al_23, al_24, al_25, al_26, al_28, al_30, al_31, al_32, al_33, al_34, al_36, al_41, al_42, al_43, al_44, al_49, al_50, al_51, al_52, al_54, al_55, al_56, al_57, al_58, al_59, al_60, al_61, al_62, al_63, al_64, al_65, al_66, al_67, al_68, al_69, al_70, al_71, al_72, al_73, al_74, al_75, al_76, al_77, al_78, al_79, al_80]; decide) | (simp (disch := omega) only [nL, nI_add, pk_mul, nc, Nat.zero_add, al_2, al_3, al_4, al_5, al_7, al_11, al_12, al_13, al_15, al_16, al_17, al_19, al_20, al_21, al_22, al_23, al_24, al_25, al_26, al_28, al_30, al_31, al_32, al_33, al_34, al_36, al_41, al_42, al_43, al_44, al_49, al_50, al_51, al_52, al_54, al_55, al_56, al_57, al_58, al_59, al_60, al_61, al_62, al_63, al_64, al_65, al_66, al_67, al_68, al_69, al_70, al_71, al_72, al_73, al_74, al_75, al_76, al_77, al_78, al_79, al_80]; exact vin (by omega) (by decide))), fun h4 => ⟨Or.inl rfl, ?_, rfl⟩, fun h4 => ⟨Or.inr rfl, ?_, rfl⟩⟩⟩⟩⟩⟩
  · rw [nc (by omega), e] at h3
    rw [if_neg h, if_neg h2, if_pos h3]
  · rw [nc (by omega), e] at h3 h4
    rw [if_neg h, if_neg h2, if_neg h3, if_pos h4]
  · rw [nc (by omega), e] at h3 h4
    rw [if_neg h, if_neg h2, if_neg h3, if_neg h4]
/-- n numbers of f from a on come to g from c on (a sheet's numbers stand from 2 on) -/
def cpS (f g : Nat → Int32) (a c n : Nat) : Nat → Int32 := fun k => if 2 + c ≤ k ∧ k < 2 + c + n then f (2 + a + (k - (2 + c))) else g k
def sCopy (s a t c n : Int32) (B : zB) : Int32 × zB := if hasP 4 s = 0 then oTell (-1000001) B else if hasP 4 t = 0 then oTell (-1000001) B else
  if B.2.2.2.1 s.toNatClampNeg 0 = 0 then oTell (-1000002) B else if B.2.2.2.1 t.toNatClampNeg 0 = 0 then oTell (-1000002) B else if B.2.2.2.1 s.toNatClampNeg 0 = B.2.2.2.1 t.toNatClampNeg 0 then
  (if hol (B.2.2.2.1 s.toNatClampNeg 1) a n = 0 then oTell (-1000001) B else if hol (B.2.2.2.1 t.toNatClampNeg 1) c n = 0 then oTell (-1000001) B else oSh n (upS B.2.2.2.1 t.toNatClampNeg (cpS (B.2.2.2.1 s.toNatClampNeg) (B.2.2.2.1 t.toNatClampNeg) a.toNatClampNeg c.toNatClampNeg n.toNatClampNeg)) B) else oTell (-1000004) B
theorem x_copy_0 (d : Nat) {σ : z_M} {B : zB} (h : RepC σ B) (hv : VB B) (a c n : Int32) : opC (d + 5) k_RF_copy [.ref 0, .int 0, .int a, .int 0, .int c, .int n] σ (sCopy 0 a 0 c n B) := by
  obtain ⟨σt, ht, hRt, hkt⟩ := c_tell (d + 3) h (-1000001)
  obtain ⟨σu, hu, hRu, hku⟩ := c_tell (d + 3) h (-1000002)
  obtain ⟨σw, hw, hRw, hkw⟩ := c_tell (d + 3) h (-1000004)
  have hs : ¬ hasP 4 0 = 0 := by decide
  have hs2 : ¬ hasP 4 0 = 0 := by decide
  obtain ⟨e0, e1, e2⟩ := h.2.2.2.1 0 (by decide)
  obtain ⟨g0, g1, g2⟩ := h.2.2.2.1 0 (by decide)
  obtain ⟨-, m1, hm1, hm24⟩ := hv.2.2.2.2 0 (by decide)
  obtain ⟨-, m2, hm2, hm25⟩ := hv.2.2.2.2 0 (by decide)
  have cm := c_isMissing_0 (d + 3) σ
  have cm2 := c_isMissing_0 (d + 3) σ
  have ch := c_holds_0 (d + 3) σ a n
  have ch2 := c_holds_0 (d + 3) σ c n
  rw [show σ.1 45 0 = _ from e0] at cm
  rw [show σ.1 45 0 = _ from g0] at cm2
  rw [show σ.1 45 1 = _ from e1] at ch
  rw [show σ.1 45 1 = _ from g1] at ch2
  rw [sCopy, if_neg hs, if_neg hs2]
  rw [tc_0]
  try rw [tc_0]
  refine z_metC ⟨rfl, z_go 90 [] ⟨_, _, c_isSheet (d + 3) σ _, fun q => absurd q hs, fun q => ⟨_, _, c_isSheet (d + 3) σ _, fun q => orj_0 ⟨rfl, _, _, cm, fun q2 => ?_, fun q2 => orj_0 ⟨rfl, _, _, cm2, fun q3 => orj_0 ⟨rfl, orj_0 ⟨rfl, fun q4 => orj_0 ⟨rfl, _, _, ch, fun q5 => ?_, fun q5 => orj_0 ⟨rfl, _, _, ch2, fun q6 => orj_0 ⟨rfl, orj_0 ⟨rfl, ?_⟩⟩, fun q6 => ?_⟩⟩, fun q4 => ?_⟩⟩, fun q3 => ?_⟩⟩, fun q => absurd q hs2⟩⟩⟩
  · rw [if_pos (by
      rcases Decidable.em (B.2.2.2.1 0 0 = 0) with z | z
      · exact z
      · rw [if_neg z] at q2
        exact absurd rfl q2)]
    exact ⟨_, σu, hu, rfl, hRu, hku⟩
  · have z1 : ¬ B.2.2.2.1 0 0 = 0 := fun z => by rw [if_pos z] at q2; exact absurd q2 (by decide)
    have z2 : ¬ B.2.2.2.1 0 0 = 0 := fun z => by rw [if_pos z] at q3; exact absurd q3 (by decide)
    have q4 : B.2.2.2.1 0 0 = B.2.2.2.1 0 0 := e0.symm.trans (q4.trans g0)
    rw [if_neg z1, if_neg z2, if_pos q4, if_pos q5]
    exact ⟨_, σt, ht, rfl, hRt, hkt⟩
  · have z1 : ¬ B.2.2.2.1 0 0 = 0 := fun z => by rw [if_pos z] at q2; exact absurd q2 (by decide)
    have z2 : ¬ B.2.2.2.1 0 0 = 0 := fun z => by rw [if_pos z] at q3; exact absurd q3 (by decide)
    have q4 : B.2.2.2.1 0 0 = B.2.2.2.1 0 0 := e0.symm.trans (q4.trans g0)
    rw [if_neg z1, if_neg z2, if_pos q4, if_neg q5, if_neg q6]
    rw [hm1] at q5
    rw [hm2] at q6
    obtain ⟨a', n', rfl, rfl, hle⟩ := hol_ne hm24 q5
    obtain ⟨c', n2, rfl, en, hle2⟩ := hol_ne hm25 q6
    rw [n_eq (by omega) (by omega)] at en
    subst en
    have t1 := nc (n := a') (by omega)
    have t2 := nc (n := c') (by omega)
    have t3 := nc (n := n') (by omega)
    refine ⟨⟨n_nn (by omega), n_nn (by omega), n_nn (by omega), by rw [t1, t3]; show _ ≤ 24; omega, by rw [t2, t3]; show _ ≤ 24; omega⟩, rfl, ?_⟩
    simp only [t1, t2, t3]
    refine h.sheets (fun c hc => z_cp_ne (by omega)) (h.2.2.2.1.up (by decide) (fun c _ _ a b => z_cp_ne (by omega)) ?_ ?_ ?_) _
    · rw [cp_ne (by decide), cpS, if_neg (by omega)]
      exact g0
    · rw [cp_ne (by decide), cpS, if_neg (by omega)]
      exact g1
    · intro i2 hi2
      rw [cpS]
      by_cases e : 2 + c' ≤ 2 + i2 ∧ 2 + i2 < 2 + c' + n'
      · rw [if_pos e, show 49 + 0 = 49 from rfl, cp_in (by omega) (by omega)]
        have := e2 (a' + (i2 - c')) (by omega)
        rw [show 2 + a' + (2 + i2 - (2 + c')) = 2 + (a' + (i2 - c')) by omega]
        exact this
      · rw [if_neg e]
        rcases Nat.lt_or_ge i2 c' with z | z
        · rw [show 49 + 0 = 49 from rfl, cp_lo z]
          exact g2 i2 hi2
        · rw [show 49 + 0 = 49 from rfl, cp_hi (by omega)]
          exact g2 i2 hi2
  · have z1 : ¬ B.2.2.2.1 0 0 = 0 := fun z => by rw [if_pos z] at q2; exact absurd q2 (by decide)
    have z2 : ¬ B.2.2.2.1 0 0 = 0 := fun z => by rw [if_pos z] at q3; exact absurd q3 (by decide)
    have q4 : B.2.2.2.1 0 0 = B.2.2.2.1 0 0 := e0.symm.trans (q4.trans g0)
    rw [if_neg z1, if_neg z2, if_pos q4, if_neg q5, if_pos q6]
    exact ⟨_, σt, ht, rfl, hRt, hkt⟩
  · have z1 : ¬ B.2.2.2.1 0 0 = 0 := fun z => by rw [if_pos z] at q2; exact absurd q2 (by decide)
    have z2 : ¬ B.2.2.2.1 0 0 = 0 := fun z => by rw [if_pos z] at q3; exact absurd q3 (by decide)
    have q4 : ¬ B.2.2.2.1 0 0 = B.2.2.2.1 0 0 := fun z => q4 (e0.trans (z.trans g0.symm))
    rw [if_neg z1, if_neg z2, if_neg q4]
    exact ⟨_, σw, hw, rfl, hRw, hkw⟩
  · have z1 : ¬ B.2.2.2.1 0 0 = 0 := fun z => by rw [if_pos z] at q2; exact absurd q2 (by decide)
    rw [if_neg z1, if_pos (by
      rcases Decidable.em (B.2.2.2.1 0 0 = 0) with z | z
      · exact z
      · rw [if_neg z] at q3
        exact absurd rfl q3)]
    exact ⟨_, σu, hu, rfl, hRu, hku⟩
theorem x_copy_1 (d : Nat) {σ : z_M} {B : zB} (h : RepC σ B) (hv : VB B) (a c n : Int32) : opC (d + 5) k_RF_copy [.ref 0, .int 0, .int a, .int 1, .int c, .int n] σ (sCopy 0 a 1 c n B) := by
  obtain ⟨σt, ht, hRt, hkt⟩ := c_tell (d + 3) h (-1000001)
  obtain ⟨σu, hu, hRu, hku⟩ := c_tell (d + 3) h (-1000002)
  obtain ⟨σw, hw, hRw, hkw⟩ := c_tell (d + 3) h (-1000004)
  have hs : ¬ hasP 4 0 = 0 := by decide
  have hs2 : ¬ hasP 4 1 = 0 := by decide
  obtain ⟨e0, e1, e2⟩ := h.2.2.2.1 0 (by decide)
  obtain ⟨g0, g1, g2⟩ := h.2.2.2.1 1 (by decide)
  obtain ⟨-, m1, hm1, hm24⟩ := hv.2.2.2.2 0 (by decide)
  obtain ⟨-, m2, hm2, hm25⟩ := hv.2.2.2.2 1 (by decide)
  have cm := c_isMissing_0 (d + 3) σ
  have cm2 := c_isMissing_1 (d + 3) σ
  have ch := c_holds_0 (d + 3) σ a n
  have ch2 := c_holds_1 (d + 3) σ c n
  rw [show σ.1 45 0 = _ from e0] at cm
  rw [show σ.1 46 0 = _ from g0] at cm2
  rw [show σ.1 45 1 = _ from e1] at ch
  rw [show σ.1 46 1 = _ from g1] at ch2
  rw [sCopy, if_neg hs, if_neg hs2]
  rw [tc_0]
  try rw [tc_1]
  refine z_metC ⟨rfl, z_go 90 [] ⟨_, _, c_isSheet (d + 3) σ _, fun q => absurd q hs, fun q => ⟨_, _, c_isSheet (d + 3) σ _, fun q => orj_0 ⟨rfl, _, _, cm, fun q2 => ?_, fun q2 => orj_1 ⟨rfl, _, _, cm2, fun q3 => orj_0 ⟨rfl, orj_1 ⟨rfl, fun q4 => orj_0 ⟨rfl, _, _, ch, fun q5 => ?_, fun q5 => orj_1 ⟨rfl, _, _, ch2, fun q6 => orj_0 ⟨rfl, orj_1 ⟨rfl, ?_⟩⟩, fun q6 => ?_⟩⟩, fun q4 => ?_⟩⟩, fun q3 => ?_⟩⟩, fun q => absurd q hs2⟩⟩⟩
  · rw [if_pos (by
      rcases Decidable.em (B.2.2.2.1 0 0 = 0) with z | z
      · exact z
      · rw [if_neg z] at q2
        exact absurd rfl q2)]
    exact ⟨_, σu, hu, rfl, hRu, hku⟩
  · have z1 : ¬ B.2.2.2.1 0 0 = 0 := fun z => by rw [if_pos z] at q2; exact absurd q2 (by decide)
    have z2 : ¬ B.2.2.2.1 1 0 = 0 := fun z => by rw [if_pos z] at q3; exact absurd q3 (by decide)
    have q4 : B.2.2.2.1 0 0 = B.2.2.2.1 1 0 := e0.symm.trans (q4.trans g0)
    rw [if_neg z1, if_neg z2, if_pos q4, if_pos q5]
    exact ⟨_, σt, ht, rfl, hRt, hkt⟩
  · have z1 : ¬ B.2.2.2.1 0 0 = 0 := fun z => by rw [if_pos z] at q2; exact absurd q2 (by decide)
    have z2 : ¬ B.2.2.2.1 1 0 = 0 := fun z => by rw [if_pos z] at q3; exact absurd q3 (by decide)
    have q4 : B.2.2.2.1 0 0 = B.2.2.2.1 1 0 := e0.symm.trans (q4.trans g0)
    rw [if_neg z1, if_neg z2, if_pos q4, if_neg q5, if_neg q6]
    rw [hm1] at q5
    rw [hm2] at q6
    obtain ⟨a', n', rfl, rfl, hle⟩ := hol_ne hm24 q5
    obtain ⟨c', n2, rfl, en, hle2⟩ := hol_ne hm25 q6
    rw [n_eq (by omega) (by omega)] at en
    subst en
    have t1 := nc (n := a') (by omega)
    have t2 := nc (n := c') (by omega)
    have t3 := nc (n := n') (by omega)
    refine ⟨⟨n_nn (by omega), n_nn (by omega), n_nn (by omega), by rw [t1, t3]; show _ ≤ 24; omega, by rw [t2, t3]; show _ ≤ 24; omega⟩, rfl, ?_⟩
    simp only [t1, t2, t3]
    refine h.sheets (fun c hc => z_cp_ne (by omega)) (h.2.2.2.1.up (by decide) (fun c _ _ a b => z_cp_ne (by omega)) ?_ ?_ ?_) _
    · rw [cp_ne (by decide), cpS, if_neg (by omega)]
      exact g0
    · rw [cp_ne (by decide), cpS, if_neg (by omega)]
      exact g1
    · intro i2 hi2
      rw [cpS]
      by_cases e : 2 + c' ≤ 2 + i2 ∧ 2 + i2 < 2 + c' + n'
      · rw [if_pos e, show 49 + 1 = 50 from rfl, cp_in (by omega) (by omega)]
        have := e2 (a' + (i2 - c')) (by omega)
        rw [show 2 + a' + (2 + i2 - (2 + c')) = 2 + (a' + (i2 - c')) by omega]
        exact this
      · rw [if_neg e]
        rcases Nat.lt_or_ge i2 c' with z | z
        · rw [show 49 + 1 = 50 from rfl, cp_lo z]
          exact g2 i2 hi2
        · rw [show 49 + 1 = 50 from rfl, cp_hi (by omega)]
          exact g2 i2 hi2
  · have z1 : ¬ B.2.2.2.1 0 0 = 0 := fun z => by rw [if_pos z] at q2; exact absurd q2 (by decide)
    have z2 : ¬ B.2.2.2.1 1 0 = 0 := fun z => by rw [if_pos z] at q3; exact absurd q3 (by decide)
    have q4 : B.2.2.2.1 0 0 = B.2.2.2.1 1 0 := e0.symm.trans (q4.trans g0)
    rw [if_neg z1, if_neg z2, if_pos q4, if_neg q5, if_pos q6]
    exact ⟨_, σt, ht, rfl, hRt, hkt⟩
  · have z1 : ¬ B.2.2.2.1 0 0 = 0 := fun z => by rw [if_pos z] at q2; exact absurd q2 (by decide)
    have z2 : ¬ B.2.2.2.1 1 0 = 0 := fun z => by rw [if_pos z] at q3; exact absurd q3 (by decide)
    have q4 : ¬ B.2.2.2.1 0 0 = B.2.2.2.1 1 0 := fun z => q4 (e0.trans (z.trans g0.symm))
    rw [if_neg z1, if_neg z2, if_neg q4]
    exact ⟨_, σw, hw, rfl, hRw, hkw⟩
  · have z1 : ¬ B.2.2.2.1 0 0 = 0 := fun z => by rw [if_pos z] at q2; exact absurd q2 (by decide)
    rw [if_neg z1, if_pos (by
      rcases Decidable.em (B.2.2.2.1 1 0 = 0) with z | z
      · exact z
      · rw [if_neg z] at q3
        exact absurd rfl q3)]
    exact ⟨_, σu, hu, rfl, hRu, hku⟩
theorem x_copy_2 (d : Nat) {σ : z_M} {B : zB} (h : RepC σ B) (hv : VB B) (a c n : Int32) : opC (d + 5) k_RF_copy [.ref 0, .int 0, .int a, .int 2, .int c, .int n] σ (sCopy 0 a 2 c n B) := by
  obtain ⟨σt, ht, hRt, hkt⟩ := c_tell (d + 3) h (-1000001)
  obtain ⟨σu, hu, hRu, hku⟩ := c_tell (d + 3) h (-1000002)
  obtain ⟨σw, hw, hRw, hkw⟩ := c_tell (d + 3) h (-1000004)
  have hs : ¬ hasP 4 0 = 0 := by decide
  have hs2 : ¬ hasP 4 2 = 0 := by decide
  obtain ⟨e0, e1, e2⟩ := h.2.2.2.1 0 (by decide)
  obtain ⟨g0, g1, g2⟩ := h.2.2.2.1 2 (by decide)
  obtain ⟨-, m1, hm1, hm24⟩ := hv.2.2.2.2 0 (by decide)
  obtain ⟨-, m2, hm2, hm25⟩ := hv.2.2.2.2 2 (by decide)
  have cm := c_isMissing_0 (d + 3) σ
  have cm2 := c_isMissing_2 (d + 3) σ
  have ch := c_holds_0 (d + 3) σ a n
  have ch2 := c_holds_2 (d + 3) σ c n
  rw [show σ.1 45 0 = _ from e0] at cm
  rw [show σ.1 47 0 = _ from g0] at cm2
  rw [show σ.1 45 1 = _ from e1] at ch
  rw [show σ.1 47 1 = _ from g1] at ch2
  rw [sCopy, if_neg hs, if_neg hs2]
  rw [tc_0]
  try rw [tc_2]
  refine z_metC ⟨rfl, z_go 90 [] ⟨_, _, c_isSheet (d + 3) σ _, fun q => absurd q hs, fun q => ⟨_, _, c_isSheet (d + 3) σ _, fun q => orj_0 ⟨rfl, _, _, cm, fun q2 => ?_, fun q2 => orj_2 ⟨rfl, _, _, cm2, fun q3 => orj_0 ⟨rfl, orj_2 ⟨rfl, fun q4 => orj_0 ⟨rfl, _, _, ch, fun q5 => ?_, fun q5 => orj_2 ⟨rfl, _, _, ch2, fun q6 => orj_0 ⟨rfl, orj_2 ⟨rfl, ?_⟩⟩, fun q6 => ?_⟩⟩, fun q4 => ?_⟩⟩, fun q3 => ?_⟩⟩, fun q => absurd q hs2⟩⟩⟩
  · rw [if_pos (by
      rcases Decidable.em (B.2.2.2.1 0 0 = 0) with z | z
      · exact z
      · rw [if_neg z] at q2
        exact absurd rfl q2)]
    exact ⟨_, σu, hu, rfl, hRu, hku⟩
  · have z1 : ¬ B.2.2.2.1 0 0 = 0 := fun z => by rw [if_pos z] at q2; exact absurd q2 (by decide)
    have z2 : ¬ B.2.2.2.1 2 0 = 0 := fun z => by rw [if_pos z] at q3; exact absurd q3 (by decide)
    have q4 : B.2.2.2.1 0 0 = B.2.2.2.1 2 0 := e0.symm.trans (q4.trans g0)
    rw [if_neg z1, if_neg z2, if_pos q4, if_pos q5]
    exact ⟨_, σt, ht, rfl, hRt, hkt⟩
  · have z1 : ¬ B.2.2.2.1 0 0 = 0 := fun z => by rw [if_pos z] at q2; exact absurd q2 (by decide)
    have z2 : ¬ B.2.2.2.1 2 0 = 0 := fun z => by rw [if_pos z] at q3; exact absurd q3 (by decide)
    have q4 : B.2.2.2.1 0 0 = B.2.2.2.1 2 0 := e0.symm.trans (q4.trans g0)
    rw [if_neg z1, if_neg z2, if_pos q4, if_neg q5, if_neg q6]
    rw [hm1] at q5
    rw [hm2] at q6
    obtain ⟨a', n', rfl, rfl, hle⟩ := hol_ne hm24 q5
    obtain ⟨c', n2, rfl, en, hle2⟩ := hol_ne hm25 q6
    rw [n_eq (by omega) (by omega)] at en
    subst en
    have t1 := nc (n := a') (by omega)
    have t2 := nc (n := c') (by omega)
    have t3 := nc (n := n') (by omega)
    refine ⟨⟨n_nn (by omega), n_nn (by omega), n_nn (by omega), by rw [t1, t3]; show _ ≤ 24; omega, by rw [t2, t3]; show _ ≤ 24; omega⟩, rfl, ?_⟩
    simp only [t1, t2, t3]
    refine h.sheets (fun c hc => z_cp_ne (by omega)) (h.2.2.2.1.up (by decide) (fun c _ _ a b => z_cp_ne (by omega)) ?_ ?_ ?_) _
    · rw [cp_ne (by decide), cpS, if_neg (by omega)]
      exact g0
    · rw [cp_ne (by decide), cpS, if_neg (by omega)]
      exact g1
    · intro i2 hi2
      rw [cpS]
      by_cases e : 2 + c' ≤ 2 + i2 ∧ 2 + i2 < 2 + c' + n'
      · rw [if_pos e, show 49 + 2 = 51 from rfl, cp_in (by omega) (by omega)]
        have := e2 (a' + (i2 - c')) (by omega)
        rw [show 2 + a' + (2 + i2 - (2 + c')) = 2 + (a' + (i2 - c')) by omega]
        exact this
      · rw [if_neg e]
        rcases Nat.lt_or_ge i2 c' with z | z
        · rw [show 49 + 2 = 51 from rfl, cp_lo z]
          exact g2 i2 hi2
        · rw [show 49 + 2 = 51 from rfl, cp_hi (by omega)]
          exact g2 i2 hi2
  · have z1 : ¬ B.2.2.2.1 0 0 = 0 := fun z => by rw [if_pos z] at q2; exact absurd q2 (by decide)
    have z2 : ¬ B.2.2.2.1 2 0 = 0 := fun z => by rw [if_pos z] at q3; exact absurd q3 (by decide)
    have q4 : B.2.2.2.1 0 0 = B.2.2.2.1 2 0 := e0.symm.trans (q4.trans g0)
    rw [if_neg z1, if_neg z2, if_pos q4, if_neg q5, if_pos q6]
    exact ⟨_, σt, ht, rfl, hRt, hkt⟩
  · have z1 : ¬ B.2.2.2.1 0 0 = 0 := fun z => by rw [if_pos z] at q2; exact absurd q2 (by decide)
    have z2 : ¬ B.2.2.2.1 2 0 = 0 := fun z => by rw [if_pos z] at q3; exact absurd q3 (by decide)
    have q4 : ¬ B.2.2.2.1 0 0 = B.2.2.2.1 2 0 := fun z => q4 (e0.trans (z.trans g0.symm))
    rw [if_neg z1, if_neg z2, if_neg q4]
    exact ⟨_, σw, hw, rfl, hRw, hkw⟩
  · have z1 : ¬ B.2.2.2.1 0 0 = 0 := fun z => by rw [if_pos z] at q2; exact absurd q2 (by decide)
    rw [if_neg z1, if_pos (by
      rcases Decidable.em (B.2.2.2.1 2 0 = 0) with z | z
      · exact z
      · rw [if_neg z] at q3
        exact absurd rfl q3)]
    exact ⟨_, σu, hu, rfl, hRu, hku⟩
theorem x_copy_3 (d : Nat) {σ : z_M} {B : zB} (h : RepC σ B) (hv : VB B) (a c n : Int32) : opC (d + 5) k_RF_copy [.ref 0, .int 0, .int a, .int 3, .int c, .int n] σ (sCopy 0 a 3 c n B) := by
  obtain ⟨σt, ht, hRt, hkt⟩ := c_tell (d + 3) h (-1000001)
  obtain ⟨σu, hu, hRu, hku⟩ := c_tell (d + 3) h (-1000002)
  obtain ⟨σw, hw, hRw, hkw⟩ := c_tell (d + 3) h (-1000004)
  have hs : ¬ hasP 4 0 = 0 := by decide
  have hs2 : ¬ hasP 4 3 = 0 := by decide
  obtain ⟨e0, e1, e2⟩ := h.2.2.2.1 0 (by decide)
  obtain ⟨g0, g1, g2⟩ := h.2.2.2.1 3 (by decide)
  obtain ⟨-, m1, hm1, hm24⟩ := hv.2.2.2.2 0 (by decide)
  obtain ⟨-, m2, hm2, hm25⟩ := hv.2.2.2.2 3 (by decide)
  have cm := c_isMissing_0 (d + 3) σ
  have cm2 := c_isMissing_3 (d + 3) σ
  have ch := c_holds_0 (d + 3) σ a n
  have ch2 := c_holds_3 (d + 3) σ c n
  rw [show σ.1 45 0 = _ from e0] at cm
  rw [show σ.1 48 0 = _ from g0] at cm2
  rw [show σ.1 45 1 = _ from e1] at ch
  rw [show σ.1 48 1 = _ from g1] at ch2
  rw [sCopy, if_neg hs, if_neg hs2]
  rw [tc_0]
  try rw [tc_3]
  refine z_metC ⟨rfl, z_go 90 [] ⟨_, _, c_isSheet (d + 3) σ _, fun q => absurd q hs, fun q => ⟨_, _, c_isSheet (d + 3) σ _, fun q => orj_0 ⟨rfl, _, _, cm, fun q2 => ?_, fun q2 => orj_3 ⟨rfl, _, _, cm2, fun q3 => orj_0 ⟨rfl, orj_3 ⟨rfl, fun q4 => orj_0 ⟨rfl, _, _, ch, fun q5 => ?_, fun q5 => orj_3 ⟨rfl, _, _, ch2, fun q6 => orj_0 ⟨rfl, orj_3 ⟨rfl, ?_⟩⟩, fun q6 => ?_⟩⟩, fun q4 => ?_⟩⟩, fun q3 => ?_⟩⟩, fun q => absurd q hs2⟩⟩⟩
  · rw [if_pos (by
      rcases Decidable.em (B.2.2.2.1 0 0 = 0) with z | z
      · exact z
      · rw [if_neg z] at q2
        exact absurd rfl q2)]
    exact ⟨_, σu, hu, rfl, hRu, hku⟩
  · have z1 : ¬ B.2.2.2.1 0 0 = 0 := fun z => by rw [if_pos z] at q2; exact absurd q2 (by decide)
    have z2 : ¬ B.2.2.2.1 3 0 = 0 := fun z => by rw [if_pos z] at q3; exact absurd q3 (by decide)
    have q4 : B.2.2.2.1 0 0 = B.2.2.2.1 3 0 := e0.symm.trans (q4.trans g0)
    rw [if_neg z1, if_neg z2, if_pos q4, if_pos q5]
    exact ⟨_, σt, ht, rfl, hRt, hkt⟩
  · have z1 : ¬ B.2.2.2.1 0 0 = 0 := fun z => by rw [if_pos z] at q2; exact absurd q2 (by decide)
    have z2 : ¬ B.2.2.2.1 3 0 = 0 := fun z => by rw [if_pos z] at q3; exact absurd q3 (by decide)
    have q4 : B.2.2.2.1 0 0 = B.2.2.2.1 3 0 := e0.symm.trans (q4.trans g0)
    rw [if_neg z1, if_neg z2, if_pos q4, if_neg q5, if_neg q6]
    rw [hm1] at q5
    rw [hm2] at q6
    obtain ⟨a', n', rfl, rfl, hle⟩ := hol_ne hm24 q5
    obtain ⟨c', n2, rfl, en, hle2⟩ := hol_ne hm25 q6
    rw [n_eq (by omega) (by omega)] at en
    subst en
    have t1 := nc (n := a') (by omega)
    have t2 := nc (n := c') (by omega)
    have t3 := nc (n := n') (by omega)
    refine ⟨⟨n_nn (by omega), n_nn (by omega), n_nn (by omega), by rw [t1, t3]; show _ ≤ 24; omega, by rw [t2, t3]; show _ ≤ 24; omega⟩, rfl, ?_⟩
    simp only [t1, t2, t3]
    refine h.sheets (fun c hc => z_cp_ne (by omega)) (h.2.2.2.1.up (by decide) (fun c _ _ a b => z_cp_ne (by omega)) ?_ ?_ ?_) _
    · rw [cp_ne (by decide), cpS, if_neg (by omega)]
      exact g0
    · rw [cp_ne (by decide), cpS, if_neg (by omega)]
      exact g1
    · intro i2 hi2
      rw [cpS]
      by_cases e : 2 + c' ≤ 2 + i2 ∧ 2 + i2 < 2 + c' + n'
      · rw [if_pos e, show 49 + 3 = 52 from rfl, cp_in (by omega) (by omega)]
        have := e2 (a' + (i2 - c')) (by omega)
        rw [show 2 + a' + (2 + i2 - (2 + c')) = 2 + (a' + (i2 - c')) by omega]
        exact this
      · rw [if_neg e]
        rcases Nat.lt_or_ge i2 c' with z | z
        · rw [show 49 + 3 = 52 from rfl, cp_lo z]
          exact g2 i2 hi2
        · rw [show 49 + 3 = 52 from rfl, cp_hi (by omega)]
          exact g2 i2 hi2
  · have z1 : ¬ B.2.2.2.1 0 0 = 0 := fun z => by rw [if_pos z] at q2; exact absurd q2 (by decide)
    have z2 : ¬ B.2.2.2.1 3 0 = 0 := fun z => by rw [if_pos z] at q3; exact absurd q3 (by decide)
    have q4 : B.2.2.2.1 0 0 = B.2.2.2.1 3 0 := e0.symm.trans (q4.trans g0)
    rw [if_neg z1, if_neg z2, if_pos q4, if_neg q5, if_pos q6]
    exact ⟨_, σt, ht, rfl, hRt, hkt⟩
  · have z1 : ¬ B.2.2.2.1 0 0 = 0 := fun z => by rw [if_pos z] at q2; exact absurd q2 (by decide)
    have z2 : ¬ B.2.2.2.1 3 0 = 0 := fun z => by rw [if_pos z] at q3; exact absurd q3 (by decide)
    have q4 : ¬ B.2.2.2.1 0 0 = B.2.2.2.1 3 0 := fun z => q4 (e0.trans (z.trans g0.symm))
    rw [if_neg z1, if_neg z2, if_neg q4]
    exact ⟨_, σw, hw, rfl, hRw, hkw⟩
  · have z1 : ¬ B.2.2.2.1 0 0 = 0 := fun z => by rw [if_pos z] at q2; exact absurd q2 (by decide)
    rw [if_neg z1, if_pos (by
      rcases Decidable.em (B.2.2.2.1 3 0 = 0) with z | z
      · exact z
      · rw [if_neg z] at q3
        exact absurd rfl q3)]
    exact ⟨_, σu, hu, rfl, hRu, hku⟩
theorem x_copy_4 (d : Nat) {σ : z_M} {B : zB} (h : RepC σ B) (hv : VB B) (a c n : Int32) : opC (d + 5) k_RF_copy [.ref 0, .int 1, .int a, .int 0, .int c, .int n] σ (sCopy 1 a 0 c n B) := by
  obtain ⟨σt, ht, hRt, hkt⟩ := c_tell (d + 3) h (-1000001)
  obtain ⟨σu, hu, hRu, hku⟩ := c_tell (d + 3) h (-1000002)
  obtain ⟨σw, hw, hRw, hkw⟩ := c_tell (d + 3) h (-1000004)
  have hs : ¬ hasP 4 1 = 0 := by decide
  have hs2 : ¬ hasP 4 0 = 0 := by decide
  obtain ⟨e0, e1, e2⟩ := h.2.2.2.1 1 (by decide)
  obtain ⟨g0, g1, g2⟩ := h.2.2.2.1 0 (by decide)
  obtain ⟨-, m1, hm1, hm24⟩ := hv.2.2.2.2 1 (by decide)
  obtain ⟨-, m2, hm2, hm25⟩ := hv.2.2.2.2 0 (by decide)
  have cm := c_isMissing_1 (d + 3) σ
  have cm2 := c_isMissing_0 (d + 3) σ
  have ch := c_holds_1 (d + 3) σ a n
  have ch2 := c_holds_0 (d + 3) σ c n
  rw [show σ.1 46 0 = _ from e0] at cm
  rw [show σ.1 45 0 = _ from g0] at cm2
  rw [show σ.1 46 1 = _ from e1] at ch
  rw [show σ.1 45 1 = _ from g1] at ch2
  rw [sCopy, if_neg hs, if_neg hs2]
  rw [tc_1]
  try rw [tc_0]
  refine z_metC ⟨rfl, z_go 90 [] ⟨_, _, c_isSheet (d + 3) σ _, fun q => absurd q hs, fun q => ⟨_, _, c_isSheet (d + 3) σ _, fun q => orj_1 ⟨rfl, _, _, cm, fun q2 => ?_, fun q2 => orj_0 ⟨rfl, _, _, cm2, fun q3 => orj_1 ⟨rfl, orj_0 ⟨rfl, fun q4 => orj_1 ⟨rfl, _, _, ch, fun q5 => ?_, fun q5 => orj_0 ⟨rfl, _, _, ch2, fun q6 => orj_1 ⟨rfl, orj_0 ⟨rfl, ?_⟩⟩, fun q6 => ?_⟩⟩, fun q4 => ?_⟩⟩, fun q3 => ?_⟩⟩, fun q => absurd q hs2⟩⟩⟩
  · rw [if_pos (by
      rcases Decidable.em (B.2.2.2.1 1 0 = 0) with z | z
      · exact z
      · rw [if_neg z] at q2
        exact absurd rfl q2)]
    exact ⟨_, σu, hu, rfl, hRu, hku⟩
  · have z1 : ¬ B.2.2.2.1 1 0 = 0 := fun z => by rw [if_pos z] at q2; exact absurd q2 (by decide)
    have z2 : ¬ B.2.2.2.1 0 0 = 0 := fun z => by rw [if_pos z] at q3; exact absurd q3 (by decide)
    have q4 : B.2.2.2.1 1 0 = B.2.2.2.1 0 0 := e0.symm.trans (q4.trans g0)
    rw [if_neg z1, if_neg z2, if_pos q4, if_pos q5]
    exact ⟨_, σt, ht, rfl, hRt, hkt⟩
  · have z1 : ¬ B.2.2.2.1 1 0 = 0 := fun z => by rw [if_pos z] at q2; exact absurd q2 (by decide)
    have z2 : ¬ B.2.2.2.1 0 0 = 0 := fun z => by rw [if_pos z] at q3; exact absurd q3 (by decide)
    have q4 : B.2.2.2.1 1 0 = B.2.2.2.1 0 0 := e0.symm.trans (q4.trans g0)
    rw [if_neg z1, if_neg z2, if_pos q4, if_neg q5, if_neg q6]
    rw [hm1] at q5
    rw [hm2] at q6
    obtain ⟨a', n', rfl, rfl, hle⟩ := hol_ne hm24 q5
    obtain ⟨c', n2, rfl, en, hle2⟩ := hol_ne hm25 q6
    rw [n_eq (by omega) (by omega)] at en
    subst en
    have t1 := nc (n := a') (by omega)
    have t2 := nc (n := c') (by omega)
    have t3 := nc (n := n') (by omega)
    refine ⟨⟨n_nn (by omega), n_nn (by omega), n_nn (by omega), by rw [t1, t3]; show _ ≤ 24; omega, by rw [t2, t3]; show _ ≤ 24; omega⟩, rfl, ?_⟩
    simp only [t1, t2, t3]
    refine h.sheets (fun c hc => z_cp_ne (by omega)) (h.2.2.2.1.up (by decide) (fun c _ _ a b => z_cp_ne (by omega)) ?_ ?_ ?_) _
    · rw [cp_ne (by decide), cpS, if_neg (by omega)]
      exact g0
    · rw [cp_ne (by decide), cpS, if_neg (by omega)]
      exact g1
    · intro i2 hi2
      rw [cpS]
      by_cases e : 2 + c' ≤ 2 + i2 ∧ 2 + i2 < 2 + c' + n'
      · rw [if_pos e, show 49 + 0 = 49 from rfl, cp_in (by omega) (by omega)]
        have := e2 (a' + (i2 - c')) (by omega)
        rw [show 2 + a' + (2 + i2 - (2 + c')) = 2 + (a' + (i2 - c')) by omega]
        exact this
      · rw [if_neg e]
        rcases Nat.lt_or_ge i2 c' with z | z
        · rw [show 49 + 0 = 49 from rfl, cp_lo z]
          exact g2 i2 hi2
        · rw [show 49 + 0 = 49 from rfl, cp_hi (by omega)]
          exact g2 i2 hi2
  · have z1 : ¬ B.2.2.2.1 1 0 = 0 := fun z => by rw [if_pos z] at q2; exact absurd q2 (by decide)
    have z2 : ¬ B.2.2.2.1 0 0 = 0 := fun z => by rw [if_pos z] at q3; exact absurd q3 (by decide)
    have q4 : B.2.2.2.1 1 0 = B.2.2.2.1 0 0 := e0.symm.trans (q4.trans g0)
    rw [if_neg z1, if_neg z2, if_pos q4, if_neg q5, if_pos q6]
    exact ⟨_, σt, ht, rfl, hRt, hkt⟩
  · have z1 : ¬ B.2.2.2.1 1 0 = 0 := fun z => by rw [if_pos z] at q2; exact absurd q2 (by decide)
    have z2 : ¬ B.2.2.2.1 0 0 = 0 := fun z => by rw [if_pos z] at q3; exact absurd q3 (by decide)
    have q4 : ¬ B.2.2.2.1 1 0 = B.2.2.2.1 0 0 := fun z => q4 (e0.trans (z.trans g0.symm))
    rw [if_neg z1, if_neg z2, if_neg q4]
    exact ⟨_, σw, hw, rfl, hRw, hkw⟩
  · have z1 : ¬ B.2.2.2.1 1 0 = 0 := fun z => by rw [if_pos z] at q2; exact absurd q2 (by decide)
    rw [if_neg z1, if_pos (by
      rcases Decidable.em (B.2.2.2.1 0 0 = 0) with z | z
      · exact z
      · rw [if_neg z] at q3
        exact absurd rfl q3)]
    exact ⟨_, σu, hu, rfl, hRu, hku⟩
theorem x_copy_5 (d : Nat) {σ : z_M} {B : zB} (h : RepC σ B) (hv : VB B) (a c n : Int32) : opC (d + 5) k_RF_copy [.ref 0, .int 1, .int a, .int 1, .int c, .int n] σ (sCopy 1 a 1 c n B) := by
  obtain ⟨σt, ht, hRt, hkt⟩ := c_tell (d + 3) h (-1000001)
  obtain ⟨σu, hu, hRu, hku⟩ := c_tell (d + 3) h (-1000002)
  obtain ⟨σw, hw, hRw, hkw⟩ := c_tell (d + 3) h (-1000004)
  have hs : ¬ hasP 4 1 = 0 := by decide
  have hs2 : ¬ hasP 4 1 = 0 := by decide
  obtain ⟨e0, e1, e2⟩ := h.2.2.2.1 1 (by decide)
  obtain ⟨g0, g1, g2⟩ := h.2.2.2.1 1 (by decide)
  obtain ⟨-, m1, hm1, hm24⟩ := hv.2.2.2.2 1 (by decide)
  obtain ⟨-, m2, hm2, hm25⟩ := hv.2.2.2.2 1 (by decide)
  have cm := c_isMissing_1 (d + 3) σ
  have cm2 := c_isMissing_1 (d + 3) σ
  have ch := c_holds_1 (d + 3) σ a n
  have ch2 := c_holds_1 (d + 3) σ c n
  rw [show σ.1 46 0 = _ from e0] at cm
  rw [show σ.1 46 0 = _ from g0] at cm2
  rw [show σ.1 46 1 = _ from e1] at ch
  rw [show σ.1 46 1 = _ from g1] at ch2
  rw [sCopy, if_neg hs, if_neg hs2]
  rw [tc_1]
  try rw [tc_1]
  refine z_metC ⟨rfl, z_go 90 [] ⟨_, _, c_isSheet (d + 3) σ _, fun q => absurd q hs, fun q => ⟨_, _, c_isSheet (d + 3) σ _, fun q => orj_1 ⟨rfl, _, _, cm, fun q2 => ?_, fun q2 => orj_1 ⟨rfl, _, _, cm2, fun q3 => orj_1 ⟨rfl, orj_1 ⟨rfl, fun q4 => orj_1 ⟨rfl, _, _, ch, fun q5 => ?_, fun q5 => orj_1 ⟨rfl, _, _, ch2, fun q6 => orj_1 ⟨rfl, orj_1 ⟨rfl, ?_⟩⟩, fun q6 => ?_⟩⟩, fun q4 => ?_⟩⟩, fun q3 => ?_⟩⟩, fun q => absurd q hs2⟩⟩⟩
  · rw [if_pos (by
      rcases Decidable.em (B.2.2.2.1 1 0 = 0) with z | z
      · exact z
      · rw [if_neg z] at q2
        exact absurd rfl q2)]
    exact ⟨_, σu, hu, rfl, hRu, hku⟩
  · have z1 : ¬ B.2.2.2.1 1 0 = 0 := fun z => by rw [if_pos z] at q2; exact absurd q2 (by decide)
    have z2 : ¬ B.2.2.2.1 1 0 = 0 := fun z => by rw [if_pos z] at q3; exact absurd q3 (by decide)
    have q4 : B.2.2.2.1 1 0 = B.2.2.2.1 1 0 := e0.symm.trans (q4.trans g0)
    rw [if_neg z1, if_neg z2, if_pos q4, if_pos q5]
    exact ⟨_, σt, ht, rfl, hRt, hkt⟩
  · have z1 : ¬ B.2.2.2.1 1 0 = 0 := fun z => by rw [if_pos z] at q2; exact absurd q2 (by decide)
    have z2 : ¬ B.2.2.2.1 1 0 = 0 := fun z => by rw [if_pos z] at q3; exact absurd q3 (by decide)
    have q4 : B.2.2.2.1 1 0 = B.2.2.2.1 1 0 := e0.symm.trans (q4.trans g0)
    rw [if_neg z1, if_neg z2, if_pos q4, if_neg q5, if_neg q6]
    rw [hm1] at q5
    rw [hm2] at q6
    obtain ⟨a', n', rfl, rfl, hle⟩ := hol_ne hm24 q5
    obtain ⟨c', n2, rfl, en, hle2⟩ := hol_ne hm25 q6
    rw [n_eq (by omega) (by omega)] at en
    subst en
    have t1 := nc (n := a') (by omega)
    have t2 := nc (n := c') (by omega)
    have t3 := nc (n := n') (by omega)
    refine ⟨⟨n_nn (by omega), n_nn (by omega), n_nn (by omega), by rw [t1, t3]; show _ ≤ 24; omega, by rw [t2, t3]; show _ ≤ 24; omega⟩, rfl, ?_⟩
    simp only [t1, t2, t3]
    refine h.sheets (fun c hc => z_cp_ne (by omega)) (h.2.2.2.1.up (by decide) (fun c _ _ a b => z_cp_ne (by omega)) ?_ ?_ ?_) _
    · rw [cp_ne (by decide), cpS, if_neg (by omega)]
      exact g0
    · rw [cp_ne (by decide), cpS, if_neg (by omega)]
      exact g1
    · intro i2 hi2
      rw [cpS]
      by_cases e : 2 + c' ≤ 2 + i2 ∧ 2 + i2 < 2 + c' + n'
      · rw [if_pos e, show 49 + 1 = 50 from rfl, cp_in (by omega) (by omega)]
        have := e2 (a' + (i2 - c')) (by omega)
        rw [show 2 + a' + (2 + i2 - (2 + c')) = 2 + (a' + (i2 - c')) by omega]
        exact this
      · rw [if_neg e]
        rcases Nat.lt_or_ge i2 c' with z | z
        · rw [show 49 + 1 = 50 from rfl, cp_lo z]
          exact g2 i2 hi2
        · rw [show 49 + 1 = 50 from rfl, cp_hi (by omega)]
          exact g2 i2 hi2
  · have z1 : ¬ B.2.2.2.1 1 0 = 0 := fun z => by rw [if_pos z] at q2; exact absurd q2 (by decide)
    have z2 : ¬ B.2.2.2.1 1 0 = 0 := fun z => by rw [if_pos z] at q3; exact absurd q3 (by decide)
    have q4 : B.2.2.2.1 1 0 = B.2.2.2.1 1 0 := e0.symm.trans (q4.trans g0)
    rw [if_neg z1, if_neg z2, if_pos q4, if_neg q5, if_pos q6]
    exact ⟨_, σt, ht, rfl, hRt, hkt⟩
  · have z1 : ¬ B.2.2.2.1 1 0 = 0 := fun z => by rw [if_pos z] at q2; exact absurd q2 (by decide)
    have z2 : ¬ B.2.2.2.1 1 0 = 0 := fun z => by rw [if_pos z] at q3; exact absurd q3 (by decide)
    have q4 : ¬ B.2.2.2.1 1 0 = B.2.2.2.1 1 0 := fun z => q4 (e0.trans (z.trans g0.symm))
    rw [if_neg z1, if_neg z2, if_neg q4]
    exact ⟨_, σw, hw, rfl, hRw, hkw⟩
  · have z1 : ¬ B.2.2.2.1 1 0 = 0 := fun z => by rw [if_pos z] at q2; exact absurd q2 (by decide)
    rw [if_neg z1, if_pos (by
      rcases Decidable.em (B.2.2.2.1 1 0 = 0) with z | z
      · exact z
      · rw [if_neg z] at q3
        exact absurd rfl q3)]
    exact ⟨_, σu, hu, rfl, hRu, hku⟩
theorem x_copy_6 (d : Nat) {σ : z_M} {B : zB} (h : RepC σ B) (hv : VB B) (a c n : Int32) : opC (d + 5) k_RF_copy [.ref 0, .int 1, .int a, .int 2, .int c, .int n] σ (sCopy 1 a 2 c n B) := by
  obtain ⟨σt, ht, hRt, hkt⟩ := c_tell (d + 3) h (-1000001)
  obtain ⟨σu, hu, hRu, hku⟩ := c_tell (d + 3) h (-1000002)
  obtain ⟨σw, hw, hRw, hkw⟩ := c_tell (d + 3) h (-1000004)
  have hs : ¬ hasP 4 1 = 0 := by decide
  have hs2 : ¬ hasP 4 2 = 0 := by decide
  obtain ⟨e0, e1, e2⟩ := h.2.2.2.1 1 (by decide)
  obtain ⟨g0, g1, g2⟩ := h.2.2.2.1 2 (by decide)
  obtain ⟨-, m1, hm1, hm24⟩ := hv.2.2.2.2 1 (by decide)
  obtain ⟨-, m2, hm2, hm25⟩ := hv.2.2.2.2 2 (by decide)
  have cm := c_isMissing_1 (d + 3) σ
  have cm2 := c_isMissing_2 (d + 3) σ
  have ch := c_holds_1 (d + 3) σ a n
  have ch2 := c_holds_2 (d + 3) σ c n
  rw [show σ.1 46 0 = _ from e0] at cm
  rw [show σ.1 47 0 = _ from g0] at cm2
  rw [show σ.1 46 1 = _ from e1] at ch
  rw [show σ.1 47 1 = _ from g1] at ch2
  rw [sCopy, if_neg hs, if_neg hs2]
  rw [tc_1]
  try rw [tc_2]
  refine z_metC ⟨rfl, z_go 90 [] ⟨_, _, c_isSheet (d + 3) σ _, fun q => absurd q hs, fun q => ⟨_, _, c_isSheet (d + 3) σ _, fun q => orj_1 ⟨rfl, _, _, cm, fun q2 => ?_, fun q2 => orj_2 ⟨rfl, _, _, cm2, fun q3 => orj_1 ⟨rfl, orj_2 ⟨rfl, fun q4 => orj_1 ⟨rfl, _, _, ch, fun q5 => ?_, fun q5 => orj_2 ⟨rfl, _, _, ch2, fun q6 => orj_1 ⟨rfl, orj_2 ⟨rfl, ?_⟩⟩, fun q6 => ?_⟩⟩, fun q4 => ?_⟩⟩, fun q3 => ?_⟩⟩, fun q => absurd q hs2⟩⟩⟩
  · rw [if_pos (by
      rcases Decidable.em (B.2.2.2.1 1 0 = 0) with z | z
      · exact z
      · rw [if_neg z] at q2
        exact absurd rfl q2)]
    exact ⟨_, σu, hu, rfl, hRu, hku⟩
  · have z1 : ¬ B.2.2.2.1 1 0 = 0 := fun z => by rw [if_pos z] at q2; exact absurd q2 (by decide)
    have z2 : ¬ B.2.2.2.1 2 0 = 0 := fun z => by rw [if_pos z] at q3; exact absurd q3 (by decide)
    have q4 : B.2.2.2.1 1 0 = B.2.2.2.1 2 0 := e0.symm.trans (q4.trans g0)
    rw [if_neg z1, if_neg z2, if_pos q4, if_pos q5]
    exact ⟨_, σt, ht, rfl, hRt, hkt⟩
  · have z1 : ¬ B.2.2.2.1 1 0 = 0 := fun z => by rw [if_pos z] at q2; exact absurd q2 (by decide)
    have z2 : ¬ B.2.2.2.1 2 0 = 0 := fun z => by rw [if_pos z] at q3; exact absurd q3 (by decide)
    have q4 : B.2.2.2.1 1 0 = B.2.2.2.1 2 0 := e0.symm.trans (q4.trans g0)
    rw [if_neg z1, if_neg z2, if_pos q4, if_neg q5, if_neg q6]
    rw [hm1] at q5
    rw [hm2] at q6
    obtain ⟨a', n', rfl, rfl, hle⟩ := hol_ne hm24 q5
    obtain ⟨c', n2, rfl, en, hle2⟩ := hol_ne hm25 q6
    rw [n_eq (by omega) (by omega)] at en
    subst en
    have t1 := nc (n := a') (by omega)
    have t2 := nc (n := c') (by omega)
    have t3 := nc (n := n') (by omega)
    refine ⟨⟨n_nn (by omega), n_nn (by omega), n_nn (by omega), by rw [t1, t3]; show _ ≤ 24; omega, by rw [t2, t3]; show _ ≤ 24; omega⟩, rfl, ?_⟩
    simp only [t1, t2, t3]
    refine h.sheets (fun c hc => z_cp_ne (by omega)) (h.2.2.2.1.up (by decide) (fun c _ _ a b => z_cp_ne (by omega)) ?_ ?_ ?_) _
    · rw [cp_ne (by decide), cpS, if_neg (by omega)]
      exact g0
    · rw [cp_ne (by decide), cpS, if_neg (by omega)]
      exact g1
    · intro i2 hi2
      rw [cpS]
      by_cases e : 2 + c' ≤ 2 + i2 ∧ 2 + i2 < 2 + c' + n'
      · rw [if_pos e, show 49 + 2 = 51 from rfl, cp_in (by omega) (by omega)]
        have := e2 (a' + (i2 - c')) (by omega)
        rw [show 2 + a' + (2 + i2 - (2 + c')) = 2 + (a' + (i2 - c')) by omega]
        exact this
      · rw [if_neg e]
        rcases Nat.lt_or_ge i2 c' with z | z
        · rw [show 49 + 2 = 51 from rfl, cp_lo z]
          exact g2 i2 hi2
        · rw [show 49 + 2 = 51 from rfl, cp_hi (by omega)]
          exact g2 i2 hi2
  · have z1 : ¬ B.2.2.2.1 1 0 = 0 := fun z => by rw [if_pos z] at q2; exact absurd q2 (by decide)
    have z2 : ¬ B.2.2.2.1 2 0 = 0 := fun z => by rw [if_pos z] at q3; exact absurd q3 (by decide)
    have q4 : B.2.2.2.1 1 0 = B.2.2.2.1 2 0 := e0.symm.trans (q4.trans g0)
    rw [if_neg z1, if_neg z2, if_pos q4, if_neg q5, if_pos q6]
    exact ⟨_, σt, ht, rfl, hRt, hkt⟩
  · have z1 : ¬ B.2.2.2.1 1 0 = 0 := fun z => by rw [if_pos z] at q2; exact absurd q2 (by decide)
    have z2 : ¬ B.2.2.2.1 2 0 = 0 := fun z => by rw [if_pos z] at q3; exact absurd q3 (by decide)
    have q4 : ¬ B.2.2.2.1 1 0 = B.2.2.2.1 2 0 := fun z => q4 (e0.trans (z.trans g0.symm))
    rw [if_neg z1, if_neg z2, if_neg q4]
    exact ⟨_, σw, hw, rfl, hRw, hkw⟩
  · have z1 : ¬ B.2.2.2.1 1 0 = 0 := fun z => by rw [if_pos z] at q2; exact absurd q2 (by decide)
    rw [if_neg z1, if_pos (by
      rcases Decidable.em (B.2.2.2.1 2 0 = 0) with z | z
      · exact z
      · rw [if_neg z] at q3
        exact absurd rfl q3)]
    exact ⟨_, σu, hu, rfl, hRu, hku⟩
theorem x_copy_7 (d : Nat) {σ : z_M} {B : zB} (h : RepC σ B) (hv : VB B) (a c n : Int32) : opC (d + 5) k_RF_copy [.ref 0, .int 1, .int a, .int 3, .int c, .int n] σ (sCopy 1 a 3 c n B) := by
  obtain ⟨σt, ht, hRt, hkt⟩ := c_tell (d + 3) h (-1000001)
  obtain ⟨σu, hu, hRu, hku⟩ := c_tell (d + 3) h (-1000002)
  obtain ⟨σw, hw, hRw, hkw⟩ := c_tell (d + 3) h (-1000004)
  have hs : ¬ hasP 4 1 = 0 := by decide
  have hs2 : ¬ hasP 4 3 = 0 := by decide
  obtain ⟨e0, e1, e2⟩ := h.2.2.2.1 1 (by decide)
  obtain ⟨g0, g1, g2⟩ := h.2.2.2.1 3 (by decide)
  obtain ⟨-, m1, hm1, hm24⟩ := hv.2.2.2.2 1 (by decide)
  obtain ⟨-, m2, hm2, hm25⟩ := hv.2.2.2.2 3 (by decide)
  have cm := c_isMissing_1 (d + 3) σ
  have cm2 := c_isMissing_3 (d + 3) σ
  have ch := c_holds_1 (d + 3) σ a n
  have ch2 := c_holds_3 (d + 3) σ c n
  rw [show σ.1 46 0 = _ from e0] at cm
  rw [show σ.1 48 0 = _ from g0] at cm2
  rw [show σ.1 46 1 = _ from e1] at ch
  rw [show σ.1 48 1 = _ from g1] at ch2
  rw [sCopy, if_neg hs, if_neg hs2]
  rw [tc_1]
  try rw [tc_3]
  refine z_metC ⟨rfl, z_go 90 [] ⟨_, _, c_isSheet (d + 3) σ _, fun q => absurd q hs, fun q => ⟨_, _, c_isSheet (d + 3) σ _, fun q => orj_1 ⟨rfl, _, _, cm, fun q2 => ?_, fun q2 => orj_3 ⟨rfl, _, _, cm2, fun q3 => orj_1 ⟨rfl, orj_3 ⟨rfl, fun q4 => orj_1 ⟨rfl, _, _, ch, fun q5 => ?_, fun q5 => orj_3 ⟨rfl, _, _, ch2, fun q6 => orj_1 ⟨rfl, orj_3 ⟨rfl, ?_⟩⟩, fun q6 => ?_⟩⟩, fun q4 => ?_⟩⟩, fun q3 => ?_⟩⟩, fun q => absurd q hs2⟩⟩⟩
  · rw [if_pos (by
      rcases Decidable.em (B.2.2.2.1 1 0 = 0) with z | z
      · exact z
      · rw [if_neg z] at q2
        exact absurd rfl q2)]
    exact ⟨_, σu, hu, rfl, hRu, hku⟩
  · have z1 : ¬ B.2.2.2.1 1 0 = 0 := fun z => by rw [if_pos z] at q2; exact absurd q2 (by decide)
    have z2 : ¬ B.2.2.2.1 3 0 = 0 := fun z => by rw [if_pos z] at q3; exact absurd q3 (by decide)
    have q4 : B.2.2.2.1 1 0 = B.2.2.2.1 3 0 := e0.symm.trans (q4.trans g0)
    rw [if_neg z1, if_neg z2, if_pos q4, if_pos q5]
    exact ⟨_, σt, ht, rfl, hRt, hkt⟩
  · have z1 : ¬ B.2.2.2.1 1 0 = 0 := fun z => by rw [if_pos z] at q2; exact absurd q2 (by decide)
    have z2 : ¬ B.2.2.2.1 3 0 = 0 := fun z => by rw [if_pos z] at q3; exact absurd q3 (by decide)
    have q4 : B.2.2.2.1 1 0 = B.2.2.2.1 3 0 := e0.symm.trans (q4.trans g0)
    rw [if_neg z1, if_neg z2, if_pos q4, if_neg q5, if_neg q6]
    rw [hm1] at q5
    rw [hm2] at q6
    obtain ⟨a', n', rfl, rfl, hle⟩ := hol_ne hm24 q5
    obtain ⟨c', n2, rfl, en, hle2⟩ := hol_ne hm25 q6
    rw [n_eq (by omega) (by omega)] at en
    subst en
    have t1 := nc (n := a') (by omega)
    have t2 := nc (n := c') (by omega)
    have t3 := nc (n := n') (by omega)
    refine ⟨⟨n_nn (by omega), n_nn (by omega), n_nn (by omega), by rw [t1, t3]; show _ ≤ 24; omega, by rw [t2, t3]; show _ ≤ 24; omega⟩, rfl, ?_⟩
    simp only [t1, t2, t3]
    refine h.sheets (fun c hc => z_cp_ne (by omega)) (h.2.2.2.1.up (by decide) (fun c _ _ a b => z_cp_ne (by omega)) ?_ ?_ ?_) _
    · rw [cp_ne (by decide), cpS, if_neg (by omega)]
      exact g0
    · rw [cp_ne (by decide), cpS, if_neg (by omega)]
      exact g1
    · intro i2 hi2
      rw [cpS]
      by_cases e : 2 + c' ≤ 2 + i2 ∧ 2 + i2 < 2 + c' + n'
      · rw [if_pos e, show 49 + 3 = 52 from rfl, cp_in (by omega) (by omega)]
        have := e2 (a' + (i2 - c')) (by omega)
        rw [show 2 + a' + (2 + i2 - (2 + c')) = 2 + (a' + (i2 - c')) by omega]
        exact this
      · rw [if_neg e]
        rcases Nat.lt_or_ge i2 c' with z | z
        · rw [show 49 + 3 = 52 from rfl, cp_lo z]
          exact g2 i2 hi2
        · rw [show 49 + 3 = 52 from rfl, cp_hi (by omega)]
          exact g2 i2 hi2
  · have z1 : ¬ B.2.2.2.1 1 0 = 0 := fun z => by rw [if_pos z] at q2; exact absurd q2 (by decide)
    have z2 : ¬ B.2.2.2.1 3 0 = 0 := fun z => by rw [if_pos z] at q3; exact absurd q3 (by decide)
    have q4 : B.2.2.2.1 1 0 = B.2.2.2.1 3 0 := e0.symm.trans (q4.trans g0)
    rw [if_neg z1, if_neg z2, if_pos q4, if_neg q5, if_pos q6]
    exact ⟨_, σt, ht, rfl, hRt, hkt⟩
  · have z1 : ¬ B.2.2.2.1 1 0 = 0 := fun z => by rw [if_pos z] at q2; exact absurd q2 (by decide)
    have z2 : ¬ B.2.2.2.1 3 0 = 0 := fun z => by rw [if_pos z] at q3; exact absurd q3 (by decide)
    have q4 : ¬ B.2.2.2.1 1 0 = B.2.2.2.1 3 0 := fun z => q4 (e0.trans (z.trans g0.symm))
    rw [if_neg z1, if_neg z2, if_neg q4]
    exact ⟨_, σw, hw, rfl, hRw, hkw⟩
  · have z1 : ¬ B.2.2.2.1 1 0 = 0 := fun z => by rw [if_pos z] at q2; exact absurd q2 (by decide)
    rw [if_neg z1, if_pos (by
      rcases Decidable.em (B.2.2.2.1 3 0 = 0) with z | z
      · exact z
      · rw [if_neg z] at q3
        exact absurd rfl q3)]
    exact ⟨_, σu, hu, rfl, hRu, hku⟩
theorem x_copy_8 (d : Nat) {σ : z_M} {B : zB} (h : RepC σ B) (hv : VB B) (a c n : Int32) : opC (d + 5) k_RF_copy [.ref 0, .int 2, .int a, .int 0, .int c, .int n] σ (sCopy 2 a 0 c n B) := by
  obtain ⟨σt, ht, hRt, hkt⟩ := c_tell (d + 3) h (-1000001)
  obtain ⟨σu, hu, hRu, hku⟩ := c_tell (d + 3) h (-1000002)
  obtain ⟨σw, hw, hRw, hkw⟩ := c_tell (d + 3) h (-1000004)
  have hs : ¬ hasP 4 2 = 0 := by decide
  have hs2 : ¬ hasP 4 0 = 0 := by decide
  obtain ⟨e0, e1, e2⟩ := h.2.2.2.1 2 (by decide)
  obtain ⟨g0, g1, g2⟩ := h.2.2.2.1 0 (by decide)
  obtain ⟨-, m1, hm1, hm24⟩ := hv.2.2.2.2 2 (by decide)
  obtain ⟨-, m2, hm2, hm25⟩ := hv.2.2.2.2 0 (by decide)
  have cm := c_isMissing_2 (d + 3) σ
  have cm2 := c_isMissing_0 (d + 3) σ
  have ch := c_holds_2 (d + 3) σ a n
  have ch2 := c_holds_0 (d + 3) σ c n
  rw [show σ.1 47 0 = _ from e0] at cm
  rw [show σ.1 45 0 = _ from g0] at cm2
  rw [show σ.1 47 1 = _ from e1] at ch
  rw [show σ.1 45 1 = _ from g1] at ch2
  rw [sCopy, if_neg hs, if_neg hs2]
  rw [tc_2]
  try rw [tc_0]
  refine z_metC ⟨rfl, z_go 90 [] ⟨_, _, c_isSheet (d + 3) σ _, fun q => absurd q hs, fun q => ⟨_, _, c_isSheet (d + 3) σ _, fun q => orj_2 ⟨rfl, _, _, cm, fun q2 => ?_, fun q2 => orj_0 ⟨rfl, _, _, cm2, fun q3 => orj_2 ⟨rfl, orj_0 ⟨rfl, fun q4 => orj_2 ⟨rfl, _, _, ch, fun q5 => ?_, fun q5 => orj_0 ⟨rfl, _, _, ch2, fun q6 => orj_2 ⟨rfl, orj_0 ⟨rfl, ?_⟩⟩, fun q6 => ?_⟩⟩, fun q4 => ?_⟩⟩, fun q3 => ?_⟩⟩, fun q => absurd q hs2⟩⟩⟩
  · rw [if_pos (by
      rcases Decidable.em (B.2.2.2.1 2 0 = 0) with z | z
      · exact z
      · rw [if_neg z] at q2
        exact absurd rfl q2)]
    exact ⟨_, σu, hu, rfl, hRu, hku⟩
  · have z1 : ¬ B.2.2.2.1 2 0 = 0 := fun z => by rw [if_pos z] at q2; exact absurd q2 (by decide)
    have z2 : ¬ B.2.2.2.1 0 0 = 0 := fun z => by rw [if_pos z] at q3; exact absurd q3 (by decide)
    have q4 : B.2.2.2.1 2 0 = B.2.2.2.1 0 0 := e0.symm.trans (q4.trans g0)
    rw [if_neg z1, if_neg z2, if_pos q4, if_pos q5]
    exact ⟨_, σt, ht, rfl, hRt, hkt⟩
  · have z1 : ¬ B.2.2.2.1 2 0 = 0 := fun z => by rw [if_pos z] at q2; exact absurd q2 (by decide)
    have z2 : ¬ B.2.2.2.1 0 0 = 0 := fun z => by rw [if_pos z] at q3; exact absurd q3 (by decide)
    have q4 : B.2.2.2.1 2 0 = B.2.2.2.1 0 0 := e0.symm.trans (q4.trans g0)
    rw [if_neg z1, if_neg z2, if_pos q4, if_neg q5, if_neg q6]
    rw [hm1] at q5
    rw [hm2] at q6
    obtain ⟨a', n', rfl, rfl, hle⟩ := hol_ne hm24 q5
    obtain ⟨c', n2, rfl, en, hle2⟩ := hol_ne hm25 q6
    rw [n_eq (by omega) (by omega)] at en
    subst en
    have t1 := nc (n := a') (by omega)
    have t2 := nc (n := c') (by omega)
    have t3 := nc (n := n') (by omega)
    refine ⟨⟨n_nn (by omega), n_nn (by omega), n_nn (by omega), by rw [t1, t3]; show _ ≤ 24; omega, by rw [t2, t3]; show _ ≤ 24; omega⟩, rfl, ?_⟩
    simp only [t1, t2, t3]
    refine h.sheets (fun c hc => z_cp_ne (by omega)) (h.2.2.2.1.up (by decide) (fun c _ _ a b => z_cp_ne (by omega)) ?_ ?_ ?_) _
    · rw [cp_ne (by decide), cpS, if_neg (by omega)]
      exact g0
    · rw [cp_ne (by decide), cpS, if_neg (by omega)]
      exact g1
    · intro i2 hi2
      rw [cpS]
      by_cases e : 2 + c' ≤ 2 + i2 ∧ 2 + i2 < 2 + c' + n'
      · rw [if_pos e, show 49 + 0 = 49 from rfl, cp_in (by omega) (by omega)]
        have := e2 (a' + (i2 - c')) (by omega)
        rw [show 2 + a' + (2 + i2 - (2 + c')) = 2 + (a' + (i2 - c')) by omega]
        exact this
      · rw [if_neg e]
        rcases Nat.lt_or_ge i2 c' with z | z
        · rw [show 49 + 0 = 49 from rfl, cp_lo z]
          exact g2 i2 hi2
        · rw [show 49 + 0 = 49 from rfl, cp_hi (by omega)]
          exact g2 i2 hi2
  · have z1 : ¬ B.2.2.2.1 2 0 = 0 := fun z => by rw [if_pos z] at q2; exact absurd q2 (by decide)
    have z2 : ¬ B.2.2.2.1 0 0 = 0 := fun z => by rw [if_pos z] at q3; exact absurd q3 (by decide)
    have q4 : B.2.2.2.1 2 0 = B.2.2.2.1 0 0 := e0.symm.trans (q4.trans g0)
    rw [if_neg z1, if_neg z2, if_pos q4, if_neg q5, if_pos q6]
    exact ⟨_, σt, ht, rfl, hRt, hkt⟩
  · have z1 : ¬ B.2.2.2.1 2 0 = 0 := fun z => by rw [if_pos z] at q2; exact absurd q2 (by decide)
    have z2 : ¬ B.2.2.2.1 0 0 = 0 := fun z => by rw [if_pos z] at q3; exact absurd q3 (by decide)
    have q4 : ¬ B.2.2.2.1 2 0 = B.2.2.2.1 0 0 := fun z => q4 (e0.trans (z.trans g0.symm))
    rw [if_neg z1, if_neg z2, if_neg q4]
    exact ⟨_, σw, hw, rfl, hRw, hkw⟩
  · have z1 : ¬ B.2.2.2.1 2 0 = 0 := fun z => by rw [if_pos z] at q2; exact absurd q2 (by decide)
    rw [if_neg z1, if_pos (by
      rcases Decidable.em (B.2.2.2.1 0 0 = 0) with z | z
      · exact z
      · rw [if_neg z] at q3
        exact absurd rfl q3)]
    exact ⟨_, σu, hu, rfl, hRu, hku⟩
theorem x_copy_9 (d : Nat) {σ : z_M} {B : zB} (h : RepC σ B) (hv : VB B) (a c n : Int32) : opC (d + 5) k_RF_copy [.ref 0, .int 2, .int a, .int 1, .int c, .int n] σ (sCopy 2 a 1 c n B) := by
  obtain ⟨σt, ht, hRt, hkt⟩ := c_tell (d + 3) h (-1000001)
  obtain ⟨σu, hu, hRu, hku⟩ := c_tell (d + 3) h (-1000002)
  obtain ⟨σw, hw, hRw, hkw⟩ := c_tell (d + 3) h (-1000004)
  have hs : ¬ hasP 4 2 = 0 := by decide
  have hs2 : ¬ hasP 4 1 = 0 := by decide
  obtain ⟨e0, e1, e2⟩ := h.2.2.2.1 2 (by decide)
  obtain ⟨g0, g1, g2⟩ := h.2.2.2.1 1 (by decide)
  obtain ⟨-, m1, hm1, hm24⟩ := hv.2.2.2.2 2 (by decide)
  obtain ⟨-, m2, hm2, hm25⟩ := hv.2.2.2.2 1 (by decide)
  have cm := c_isMissing_2 (d + 3) σ
  have cm2 := c_isMissing_1 (d + 3) σ
  have ch := c_holds_2 (d + 3) σ a n
  have ch2 := c_holds_1 (d + 3) σ c n
  rw [show σ.1 47 0 = _ from e0] at cm
  rw [show σ.1 46 0 = _ from g0] at cm2
  rw [show σ.1 47 1 = _ from e1] at ch
  rw [show σ.1 46 1 = _ from g1] at ch2
  rw [sCopy, if_neg hs, if_neg hs2]
  rw [tc_2]
  try rw [tc_1]
  refine z_metC ⟨rfl, z_go 90 [] ⟨_, _, c_isSheet (d + 3) σ _, fun q => absurd q hs, fun q => ⟨_, _, c_isSheet (d + 3) σ _, fun q => orj_2 ⟨rfl, _, _, cm, fun q2 => ?_, fun q2 => orj_1 ⟨rfl, _, _, cm2, fun q3 => orj_2 ⟨rfl, orj_1 ⟨rfl, fun q4 => orj_2 ⟨rfl, _, _, ch, fun q5 => ?_, fun q5 => orj_1 ⟨rfl, _, _, ch2, fun q6 => orj_2 ⟨rfl, orj_1 ⟨rfl, ?_⟩⟩, fun q6 => ?_⟩⟩, fun q4 => ?_⟩⟩, fun q3 => ?_⟩⟩, fun q => absurd q hs2⟩⟩⟩
  · rw [if_pos (by
      rcases Decidable.em (B.2.2.2.1 2 0 = 0) with z | z
      · exact z
      · rw [if_neg z] at q2
        exact absurd rfl q2)]
    exact ⟨_, σu, hu, rfl, hRu, hku⟩
  · have z1 : ¬ B.2.2.2.1 2 0 = 0 := fun z => by rw [if_pos z] at q2; exact absurd q2 (by decide)
    have z2 : ¬ B.2.2.2.1 1 0 = 0 := fun z => by rw [if_pos z] at q3; exact absurd q3 (by decide)
    have q4 : B.2.2.2.1 2 0 = B.2.2.2.1 1 0 := e0.symm.trans (q4.trans g0)
    rw [if_neg z1, if_neg z2, if_pos q4, if_pos q5]
    exact ⟨_, σt, ht, rfl, hRt, hkt⟩
  · have z1 : ¬ B.2.2.2.1 2 0 = 0 := fun z => by rw [if_pos z] at q2; exact absurd q2 (by decide)
    have z2 : ¬ B.2.2.2.1 1 0 = 0 := fun z => by rw [if_pos z] at q3; exact absurd q3 (by decide)
    have q4 : B.2.2.2.1 2 0 = B.2.2.2.1 1 0 := e0.symm.trans (q4.trans g0)
    rw [if_neg z1, if_neg z2, if_pos q4, if_neg q5, if_neg q6]
    rw [hm1] at q5
    rw [hm2] at q6
    obtain ⟨a', n', rfl, rfl, hle⟩ := hol_ne hm24 q5
    obtain ⟨c', n2, rfl, en, hle2⟩ := hol_ne hm25 q6
    rw [n_eq (by omega) (by omega)] at en
    subst en
    have t1 := nc (n := a') (by omega)
    have t2 := nc (n := c') (by omega)
    have t3 := nc (n := n') (by omega)
    refine ⟨⟨n_nn (by omega), n_nn (by omega), n_nn (by omega), by rw [t1, t3]; show _ ≤ 24; omega, by rw [t2, t3]; show _ ≤ 24; omega⟩, rfl, ?_⟩
    simp only [t1, t2, t3]
    refine h.sheets (fun c hc => z_cp_ne (by omega)) (h.2.2.2.1.up (by decide) (fun c _ _ a b => z_cp_ne (by omega)) ?_ ?_ ?_) _
    · rw [cp_ne (by decide), cpS, if_neg (by omega)]
      exact g0
    · rw [cp_ne (by decide), cpS, if_neg (by omega)]
      exact g1
    · intro i2 hi2
      rw [cpS]
      by_cases e : 2 + c' ≤ 2 + i2 ∧ 2 + i2 < 2 + c' + n'
      · rw [if_pos e, show 49 + 1 = 50 from rfl, cp_in (by omega) (by omega)]
        have := e2 (a' + (i2 - c')) (by omega)
        rw [show 2 + a' + (2 + i2 - (2 + c')) = 2 + (a' + (i2 - c')) by omega]
        exact this
      · rw [if_neg e]
        rcases Nat.lt_or_ge i2 c' with z | z
        · rw [show 49 + 1 = 50 from rfl, cp_lo z]
          exact g2 i2 hi2
        · rw [show 49 + 1 = 50 from rfl, cp_hi (by omega)]
          exact g2 i2 hi2
  · have z1 : ¬ B.2.2.2.1 2 0 = 0 := fun z => by rw [if_pos z] at q2; exact absurd q2 (by decide)
    have z2 : ¬ B.2.2.2.1 1 0 = 0 := fun z => by rw [if_pos z] at q3; exact absurd q3 (by decide)
    have q4 : B.2.2.2.1 2 0 = B.2.2.2.1 1 0 := e0.symm.trans (q4.trans g0)
    rw [if_neg z1, if_neg z2, if_pos q4, if_neg q5, if_pos q6]
    exact ⟨_, σt, ht, rfl, hRt, hkt⟩
  · have z1 : ¬ B.2.2.2.1 2 0 = 0 := fun z => by rw [if_pos z] at q2; exact absurd q2 (by decide)
    have z2 : ¬ B.2.2.2.1 1 0 = 0 := fun z => by rw [if_pos z] at q3; exact absurd q3 (by decide)
    have q4 : ¬ B.2.2.2.1 2 0 = B.2.2.2.1 1 0 := fun z => q4 (e0.trans (z.trans g0.symm))
    rw [if_neg z1, if_neg z2, if_neg q4]
    exact ⟨_, σw, hw, rfl, hRw, hkw⟩
  · have z1 : ¬ B.2.2.2.1 2 0 = 0 := fun z => by rw [if_pos z] at q2; exact absurd q2 (by decide)
    rw [if_neg z1, if_pos (by
      rcases Decidable.em (B.2.2.2.1 1 0 = 0) with z | z
      · exact z
      · rw [if_neg z] at q3
        exact absurd rfl q3)]
    exact ⟨_, σu, hu, rfl, hRu, hku⟩
theorem x_copy_10 (d : Nat) {σ : z_M} {B : zB} (h : RepC σ B) (hv : VB B) (a c n : Int32) : opC (d + 5) k_RF_copy [.ref 0, .int 2, .int a, .int 2, .int c, .int n] σ (sCopy 2 a 2 c n B) := by
  obtain ⟨σt, ht, hRt, hkt⟩ := c_tell (d + 3) h (-1000001)
  obtain ⟨σu, hu, hRu, hku⟩ := c_tell (d + 3) h (-1000002)
  obtain ⟨σw, hw, hRw, hkw⟩ := c_tell (d + 3) h (-1000004)
  have hs : ¬ hasP 4 2 = 0 := by decide
  have hs2 : ¬ hasP 4 2 = 0 := by decide
  obtain ⟨e0, e1, e2⟩ := h.2.2.2.1 2 (by decide)
  obtain ⟨g0, g1, g2⟩ := h.2.2.2.1 2 (by decide)
  obtain ⟨-, m1, hm1, hm24⟩ := hv.2.2.2.2 2 (by decide)
  obtain ⟨-, m2, hm2, hm25⟩ := hv.2.2.2.2 2 (by decide)
  have cm := c_isMissing_2 (d + 3) σ
  have cm2 := c_isMissing_2 (d + 3) σ
  have ch := c_holds_2 (d + 3) σ a n
  have ch2 := c_holds_2 (d + 3) σ c n
  rw [show σ.1 47 0 = _ from e0] at cm
  rw [show σ.1 47 0 = _ from g0] at cm2
  rw [show σ.1 47 1 = _ from e1] at ch
  rw [show σ.1 47 1 = _ from g1] at ch2
  rw [sCopy, if_neg hs, if_neg hs2]
  rw [tc_2]
  try rw [tc_2]
  refine z_metC ⟨rfl, z_go 90 [] ⟨_, _, c_isSheet (d + 3) σ _, fun q => absurd q hs, fun q => ⟨_, _, c_isSheet (d + 3) σ _, fun q => orj_2 ⟨rfl, _, _, cm, fun q2 => ?_, fun q2 => orj_2 ⟨rfl, _, _, cm2, fun q3 => orj_2 ⟨rfl, orj_2 ⟨rfl, fun q4 => orj_2 ⟨rfl, _, _, ch, fun q5 => ?_, fun q5 => orj_2 ⟨rfl, _, _, ch2, fun q6 => orj_2 ⟨rfl, orj_2 ⟨rfl, ?_⟩⟩, fun q6 => ?_⟩⟩, fun q4 => ?_⟩⟩, fun q3 => ?_⟩⟩, fun q => absurd q hs2⟩⟩⟩
  · rw [if_pos (by
      rcases Decidable.em (B.2.2.2.1 2 0 = 0) with z | z
      · exact z
      · rw [if_neg z] at q2
        exact absurd rfl q2)]
    exact ⟨_, σu, hu, rfl, hRu, hku⟩
  · have z1 : ¬ B.2.2.2.1 2 0 = 0 := fun z => by rw [if_pos z] at q2; exact absurd q2 (by decide)
    have z2 : ¬ B.2.2.2.1 2 0 = 0 := fun z => by rw [if_pos z] at q3; exact absurd q3 (by decide)
    have q4 : B.2.2.2.1 2 0 = B.2.2.2.1 2 0 := e0.symm.trans (q4.trans g0)
    rw [if_neg z1, if_neg z2, if_pos q4, if_pos q5]
    exact ⟨_, σt, ht, rfl, hRt, hkt⟩
  · have z1 : ¬ B.2.2.2.1 2 0 = 0 := fun z => by rw [if_pos z] at q2; exact absurd q2 (by decide)
    have z2 : ¬ B.2.2.2.1 2 0 = 0 := fun z => by rw [if_pos z] at q3; exact absurd q3 (by decide)
    have q4 : B.2.2.2.1 2 0 = B.2.2.2.1 2 0 := e0.symm.trans (q4.trans g0)
    rw [if_neg z1, if_neg z2, if_pos q4, if_neg q5, if_neg q6]
    rw [hm1] at q5
    rw [hm2] at q6
    obtain ⟨a', n', rfl, rfl, hle⟩ := hol_ne hm24 q5
    obtain ⟨c', n2, rfl, en, hle2⟩ := hol_ne hm25 q6
    rw [n_eq (by omega) (by omega)] at en
    subst en
    have t1 := nc (n := a') (by omega)
    have t2 := nc (n := c') (by omega)
    have t3 := nc (n := n') (by omega)
    refine ⟨⟨n_nn (by omega), n_nn (by omega), n_nn (by omega), by rw [t1, t3]; show _ ≤ 24; omega, by rw [t2, t3]; show _ ≤ 24; omega⟩, rfl, ?_⟩
    simp only [t1, t2, t3]
    refine h.sheets (fun c hc => z_cp_ne (by omega)) (h.2.2.2.1.up (by decide) (fun c _ _ a b => z_cp_ne (by omega)) ?_ ?_ ?_) _
    · rw [cp_ne (by decide), cpS, if_neg (by omega)]
      exact g0
    · rw [cp_ne (by decide), cpS, if_neg (by omega)]
      exact g1
    · intro i2 hi2
      rw [cpS]
      by_cases e : 2 + c' ≤ 2 + i2 ∧ 2 + i2 < 2 + c' + n'
      · rw [if_pos e, show 49 + 2 = 51 from rfl, cp_in (by omega) (by omega)]
        have := e2 (a' + (i2 - c')) (by omega)
        rw [show 2 + a' + (2 + i2 - (2 + c')) = 2 + (a' + (i2 - c')) by omega]
        exact this
      · rw [if_neg e]
        rcases Nat.lt_or_ge i2 c' with z | z
        · rw [show 49 + 2 = 51 from rfl, cp_lo z]
          exact g2 i2 hi2
        · rw [show 49 + 2 = 51 from rfl, cp_hi (by omega)]
          exact g2 i2 hi2
  · have z1 : ¬ B.2.2.2.1 2 0 = 0 := fun z => by rw [if_pos z] at q2; exact absurd q2 (by decide)
    have z2 : ¬ B.2.2.2.1 2 0 = 0 := fun z => by rw [if_pos z] at q3; exact absurd q3 (by decide)
    have q4 : B.2.2.2.1 2 0 = B.2.2.2.1 2 0 := e0.symm.trans (q4.trans g0)
    rw [if_neg z1, if_neg z2, if_pos q4, if_neg q5, if_pos q6]
    exact ⟨_, σt, ht, rfl, hRt, hkt⟩
  · have z1 : ¬ B.2.2.2.1 2 0 = 0 := fun z => by rw [if_pos z] at q2; exact absurd q2 (by decide)
    have z2 : ¬ B.2.2.2.1 2 0 = 0 := fun z => by rw [if_pos z] at q3; exact absurd q3 (by decide)
    have q4 : ¬ B.2.2.2.1 2 0 = B.2.2.2.1 2 0 := fun z => q4 (e0.trans (z.trans g0.symm))
    rw [if_neg z1, if_neg z2, if_neg q4]
    exact ⟨_, σw, hw, rfl, hRw, hkw⟩
  · have z1 : ¬ B.2.2.2.1 2 0 = 0 := fun z => by rw [if_pos z] at q2; exact absurd q2 (by decide)
    rw [if_neg z1, if_pos (by
      rcases Decidable.em (B.2.2.2.1 2 0 = 0) with z | z
      · exact z
      · rw [if_neg z] at q3
        exact absurd rfl q3)]
    exact ⟨_, σu, hu, rfl, hRu, hku⟩
theorem x_copy_11 (d : Nat) {σ : z_M} {B : zB} (h : RepC σ B) (hv : VB B) (a c n : Int32) : opC (d + 5) k_RF_copy [.ref 0, .int 2, .int a, .int 3, .int c, .int n] σ (sCopy 2 a 3 c n B) := by
  obtain ⟨σt, ht, hRt, hkt⟩ := c_tell (d + 3) h (-1000001)
  obtain ⟨σu, hu, hRu, hku⟩ := c_tell (d + 3) h (-1000002)
  obtain ⟨σw, hw, hRw, hkw⟩ := c_tell (d + 3) h (-1000004)
  have hs : ¬ hasP 4 2 = 0 := by decide
  have hs2 : ¬ hasP 4 3 = 0 := by decide
  obtain ⟨e0, e1, e2⟩ := h.2.2.2.1 2 (by decide)
  obtain ⟨g0, g1, g2⟩ := h.2.2.2.1 3 (by decide)
  obtain ⟨-, m1, hm1, hm24⟩ := hv.2.2.2.2 2 (by decide)
  obtain ⟨-, m2, hm2, hm25⟩ := hv.2.2.2.2 3 (by decide)
  have cm := c_isMissing_2 (d + 3) σ
  have cm2 := c_isMissing_3 (d + 3) σ
  have ch := c_holds_2 (d + 3) σ a n
  have ch2 := c_holds_3 (d + 3) σ c n
  rw [show σ.1 47 0 = _ from e0] at cm
  rw [show σ.1 48 0 = _ from g0] at cm2
  rw [show σ.1 47 1 = _ from e1] at ch
  rw [show σ.1 48 1 = _ from g1] at ch2
  rw [sCopy, if_neg hs, if_neg hs2]
  rw [tc_2]
  try rw [tc_3]
  refine z_metC ⟨rfl, z_go 90 [] ⟨_, _, c_isSheet (d + 3) σ _, fun q => absurd q hs, fun q => ⟨_, _, c_isSheet (d + 3) σ _, fun q => orj_2 ⟨rfl, _, _, cm, fun q2 => ?_, fun q2 => orj_3 ⟨rfl, _, _, cm2, fun q3 => orj_2 ⟨rfl, orj_3 ⟨rfl, fun q4 => orj_2 ⟨rfl, _, _, ch, fun q5 => ?_, fun q5 => orj_3 ⟨rfl, _, _, ch2, fun q6 => orj_2 ⟨rfl, orj_3 ⟨rfl, ?_⟩⟩, fun q6 => ?_⟩⟩, fun q4 => ?_⟩⟩, fun q3 => ?_⟩⟩, fun q => absurd q hs2⟩⟩⟩
  · rw [if_pos (by
      rcases Decidable.em (B.2.2.2.1 2 0 = 0) with z | z
      · exact z
      · rw [if_neg z] at q2
        exact absurd rfl q2)]
    exact ⟨_, σu, hu, rfl, hRu, hku⟩
  · have z1 : ¬ B.2.2.2.1 2 0 = 0 := fun z => by rw [if_pos z] at q2; exact absurd q2 (by decide)
    have z2 : ¬ B.2.2.2.1 3 0 = 0 := fun z => by rw [if_pos z] at q3; exact absurd q3 (by decide)
    have q4 : B.2.2.2.1 2 0 = B.2.2.2.1 3 0 := e0.symm.trans (q4.trans g0)
    rw [if_neg z1, if_neg z2, if_pos q4, if_pos q5]
    exact ⟨_, σt, ht, rfl, hRt, hkt⟩
  · have z1 : ¬ B.2.2.2.1 2 0 = 0 := fun z => by rw [if_pos z] at q2; exact absurd q2 (by decide)
    have z2 : ¬ B.2.2.2.1 3 0 = 0 := fun z => by rw [if_pos z] at q3; exact absurd q3 (by decide)
    have q4 : B.2.2.2.1 2 0 = B.2.2.2.1 3 0 := e0.symm.trans (q4.trans g0)
    rw [if_neg z1, if_neg z2, if_pos q4, if_neg q5, if_neg q6]
    rw [hm1] at q5
    rw [hm2] at q6
    obtain ⟨a', n', rfl, rfl, hle⟩ := hol_ne hm24 q5
    obtain ⟨c', n2, rfl, en, hle2⟩ := hol_ne hm25 q6
    rw [n_eq (by omega) (by omega)] at en
    subst en
    have t1 := nc (n := a') (by omega)
    have t2 := nc (n := c') (by omega)
    have t3 := nc (n := n') (by omega)
    refine ⟨⟨n_nn (by omega), n_nn (by omega), n_nn (by omega), by rw [t1, t3]; show _ ≤ 24; omega, by rw [t2, t3]; show _ ≤ 24; omega⟩, rfl, ?_⟩
    simp only [t1, t2, t3]
    refine h.sheets (fun c hc => z_cp_ne (by omega)) (h.2.2.2.1.up (by decide) (fun c _ _ a b => z_cp_ne (by omega)) ?_ ?_ ?_) _
    · rw [cp_ne (by decide), cpS, if_neg (by omega)]
      exact g0
    · rw [cp_ne (by decide), cpS, if_neg (by omega)]
      exact g1
    · intro i2 hi2
      rw [cpS]
      by_cases e : 2 + c' ≤ 2 + i2 ∧ 2 + i2 < 2 + c' + n'
      · rw [if_pos e, show 49 + 3 = 52 from rfl, cp_in (by omega) (by omega)]
        have := e2 (a' + (i2 - c')) (by omega)
        rw [show 2 + a' + (2 + i2 - (2 + c')) = 2 + (a' + (i2 - c')) by omega]
        exact this
      · rw [if_neg e]
        rcases Nat.lt_or_ge i2 c' with z | z
        · rw [show 49 + 3 = 52 from rfl, cp_lo z]
          exact g2 i2 hi2
        · rw [show 49 + 3 = 52 from rfl, cp_hi (by omega)]
          exact g2 i2 hi2
  · have z1 : ¬ B.2.2.2.1 2 0 = 0 := fun z => by rw [if_pos z] at q2; exact absurd q2 (by decide)
    have z2 : ¬ B.2.2.2.1 3 0 = 0 := fun z => by rw [if_pos z] at q3; exact absurd q3 (by decide)
    have q4 : B.2.2.2.1 2 0 = B.2.2.2.1 3 0 := e0.symm.trans (q4.trans g0)
    rw [if_neg z1, if_neg z2, if_pos q4, if_neg q5, if_pos q6]
    exact ⟨_, σt, ht, rfl, hRt, hkt⟩
  · have z1 : ¬ B.2.2.2.1 2 0 = 0 := fun z => by rw [if_pos z] at q2; exact absurd q2 (by decide)
    have z2 : ¬ B.2.2.2.1 3 0 = 0 := fun z => by rw [if_pos z] at q3; exact absurd q3 (by decide)
    have q4 : ¬ B.2.2.2.1 2 0 = B.2.2.2.1 3 0 := fun z => q4 (e0.trans (z.trans g0.symm))
    rw [if_neg z1, if_neg z2, if_neg q4]
    exact ⟨_, σw, hw, rfl, hRw, hkw⟩
  · have z1 : ¬ B.2.2.2.1 2 0 = 0 := fun z => by rw [if_pos z] at q2; exact absurd q2 (by decide)
    rw [if_neg z1, if_pos (by
      rcases Decidable.em (B.2.2.2.1 3 0 = 0) with z | z
      · exact z
      · rw [if_neg z] at q3
        exact absurd rfl q3)]
    exact ⟨_, σu, hu, rfl, hRu, hku⟩
theorem x_copy_12 (d : Nat) {σ : z_M} {B : zB} (h : RepC σ B) (hv : VB B) (a c n : Int32) : opC (d + 5) k_RF_copy [.ref 0, .int 3, .int a, .int 0, .int c, .int n] σ (sCopy 3 a 0 c n B) := by
  obtain ⟨σt, ht, hRt, hkt⟩ := c_tell (d + 3) h (-1000001)
  obtain ⟨σu, hu, hRu, hku⟩ := c_tell (d + 3) h (-1000002)
  obtain ⟨σw, hw, hRw, hkw⟩ := c_tell (d + 3) h (-1000004)
  have hs : ¬ hasP 4 3 = 0 := by decide
  have hs2 : ¬ hasP 4 0 = 0 := by decide
  obtain ⟨e0, e1, e2⟩ := h.2.2.2.1 3 (by decide)
  obtain ⟨g0, g1, g2⟩ := h.2.2.2.1 0 (by decide)
  obtain ⟨-, m1, hm1, hm24⟩ := hv.2.2.2.2 3 (by decide)
  obtain ⟨-, m2, hm2, hm25⟩ := hv.2.2.2.2 0 (by decide)
  have cm := c_isMissing_3 (d + 3) σ
  have cm2 := c_isMissing_0 (d + 3) σ
  have ch := c_holds_3 (d + 3) σ a n
  have ch2 := c_holds_0 (d + 3) σ c n
  rw [show σ.1 48 0 = _ from e0] at cm
  rw [show σ.1 45 0 = _ from g0] at cm2
  rw [show σ.1 48 1 = _ from e1] at ch
  rw [show σ.1 45 1 = _ from g1] at ch2
  rw [sCopy, if_neg hs, if_neg hs2]
  rw [tc_3]
  try rw [tc_0]
  refine z_metC ⟨rfl, z_go 90 [] ⟨_, _, c_isSheet (d + 3) σ _, fun q => absurd q hs, fun q => ⟨_, _, c_isSheet (d + 3) σ _, fun q => orj_3 ⟨rfl, _, _, cm, fun q2 => ?_, fun q2 => orj_0 ⟨rfl, _, _, cm2, fun q3 => orj_3 ⟨rfl, orj_0 ⟨rfl, fun q4 => orj_3 ⟨rfl, _, _, ch, fun q5 => ?_, fun q5 => orj_0 ⟨rfl, _, _, ch2, fun q6 => orj_3 ⟨rfl, orj_0 ⟨rfl, ?_⟩⟩, fun q6 => ?_⟩⟩, fun q4 => ?_⟩⟩, fun q3 => ?_⟩⟩, fun q => absurd q hs2⟩⟩⟩
  · rw [if_pos (by
      rcases Decidable.em (B.2.2.2.1 3 0 = 0) with z | z
      · exact z
      · rw [if_neg z] at q2
        exact absurd rfl q2)]
    exact ⟨_, σu, hu, rfl, hRu, hku⟩
  · have z1 : ¬ B.2.2.2.1 3 0 = 0 := fun z => by rw [if_pos z] at q2; exact absurd q2 (by decide)
    have z2 : ¬ B.2.2.2.1 0 0 = 0 := fun z => by rw [if_pos z] at q3; exact absurd q3 (by decide)
    have q4 : B.2.2.2.1 3 0 = B.2.2.2.1 0 0 := e0.symm.trans (q4.trans g0)
    rw [if_neg z1, if_neg z2, if_pos q4, if_pos q5]
    exact ⟨_, σt, ht, rfl, hRt, hkt⟩
  · have z1 : ¬ B.2.2.2.1 3 0 = 0 := fun z => by rw [if_pos z] at q2; exact absurd q2 (by decide)
    have z2 : ¬ B.2.2.2.1 0 0 = 0 := fun z => by rw [if_pos z] at q3; exact absurd q3 (by decide)
    have q4 : B.2.2.2.1 3 0 = B.2.2.2.1 0 0 := e0.symm.trans (q4.trans g0)
    rw [if_neg z1, if_neg z2, if_pos q4, if_neg q5, if_neg q6]
    rw [hm1] at q5
    rw [hm2] at q6
    obtain ⟨a', n', rfl, rfl, hle⟩ := hol_ne hm24 q5
    obtain ⟨c', n2, rfl, en, hle2⟩ := hol_ne hm25 q6
    rw [n_eq (by omega) (by omega)] at en
    subst en
    have t1 := nc (n := a') (by omega)
    have t2 := nc (n := c') (by omega)
    have t3 := nc (n := n') (by omega)
    refine ⟨⟨n_nn (by omega), n_nn (by omega), n_nn (by omega), by rw [t1, t3]; show _ ≤ 24; omega, by rw [t2, t3]; show _ ≤ 24; omega⟩, rfl, ?_⟩
    simp only [t1, t2, t3]
    refine h.sheets (fun c hc => z_cp_ne (by omega)) (h.2.2.2.1.up (by decide) (fun c _ _ a b => z_cp_ne (by omega)) ?_ ?_ ?_) _
    · rw [cp_ne (by decide), cpS, if_neg (by omega)]
      exact g0
    · rw [cp_ne (by decide), cpS, if_neg (by omega)]
      exact g1
    · intro i2 hi2
      rw [cpS]
      by_cases e : 2 + c' ≤ 2 + i2 ∧ 2 + i2 < 2 + c' + n'
      · rw [if_pos e, show 49 + 0 = 49 from rfl, cp_in (by omega) (by omega)]
        have := e2 (a' + (i2 - c')) (by omega)
        rw [show 2 + a' + (2 + i2 - (2 + c')) = 2 + (a' + (i2 - c')) by omega]
        exact this
      · rw [if_neg e]
        rcases Nat.lt_or_ge i2 c' with z | z
        · rw [show 49 + 0 = 49 from rfl, cp_lo z]
          exact g2 i2 hi2
        · rw [show 49 + 0 = 49 from rfl, cp_hi (by omega)]
          exact g2 i2 hi2
  · have z1 : ¬ B.2.2.2.1 3 0 = 0 := fun z => by rw [if_pos z] at q2; exact absurd q2 (by decide)
    have z2 : ¬ B.2.2.2.1 0 0 = 0 := fun z => by rw [if_pos z] at q3; exact absurd q3 (by decide)
    have q4 : B.2.2.2.1 3 0 = B.2.2.2.1 0 0 := e0.symm.trans (q4.trans g0)
    rw [if_neg z1, if_neg z2, if_pos q4, if_neg q5, if_pos q6]
    exact ⟨_, σt, ht, rfl, hRt, hkt⟩
  · have z1 : ¬ B.2.2.2.1 3 0 = 0 := fun z => by rw [if_pos z] at q2; exact absurd q2 (by decide)
    have z2 : ¬ B.2.2.2.1 0 0 = 0 := fun z => by rw [if_pos z] at q3; exact absurd q3 (by decide)
    have q4 : ¬ B.2.2.2.1 3 0 = B.2.2.2.1 0 0 := fun z => q4 (e0.trans (z.trans g0.symm))
    rw [if_neg z1, if_neg z2, if_neg q4]
    exact ⟨_, σw, hw, rfl, hRw, hkw⟩
  · have z1 : ¬ B.2.2.2.1 3 0 = 0 := fun z => by rw [if_pos z] at q2; exact absurd q2 (by decide)
    rw [if_neg z1, if_pos (by
      rcases Decidable.em (B.2.2.2.1 0 0 = 0) with z | z
      · exact z
      · rw [if_neg z] at q3
        exact absurd rfl q3)]
    exact ⟨_, σu, hu, rfl, hRu, hku⟩
theorem x_copy_13 (d : Nat) {σ : z_M} {B : zB} (h : RepC σ B) (hv : VB B) (a c n : Int32) : opC (d + 5) k_RF_copy [.ref 0, .int 3, .int a, .int 1, .int c, .int n] σ (sCopy 3 a 1 c n B) := by
  obtain ⟨σt, ht, hRt, hkt⟩ := c_tell (d + 3) h (-1000001)
  obtain ⟨σu, hu, hRu, hku⟩ := c_tell (d + 3) h (-1000002)
  obtain ⟨σw, hw, hRw, hkw⟩ := c_tell (d + 3) h (-1000004)
  have hs : ¬ hasP 4 3 = 0 := by decide
  have hs2 : ¬ hasP 4 1 = 0 := by decide
  obtain ⟨e0, e1, e2⟩ := h.2.2.2.1 3 (by decide)
  obtain ⟨g0, g1, g2⟩ := h.2.2.2.1 1 (by decide)
  obtain ⟨-, m1, hm1, hm24⟩ := hv.2.2.2.2 3 (by decide)
  obtain ⟨-, m2, hm2, hm25⟩ := hv.2.2.2.2 1 (by decide)
  have cm := c_isMissing_3 (d + 3) σ
  have cm2 := c_isMissing_1 (d + 3) σ
  have ch := c_holds_3 (d + 3) σ a n
  have ch2 := c_holds_1 (d + 3) σ c n
  rw [show σ.1 48 0 = _ from e0] at cm
  rw [show σ.1 46 0 = _ from g0] at cm2
  rw [show σ.1 48 1 = _ from e1] at ch
  rw [show σ.1 46 1 = _ from g1] at ch2
  rw [sCopy, if_neg hs, if_neg hs2]
  rw [tc_3]
  try rw [tc_1]
  refine z_metC ⟨rfl, z_go 90 [] ⟨_, _, c_isSheet (d + 3) σ _, fun q => absurd q hs, fun q => ⟨_, _, c_isSheet (d + 3) σ _, fun q => orj_3 ⟨rfl, _, _, cm, fun q2 => ?_, fun q2 => orj_1 ⟨rfl, _, _, cm2, fun q3 => orj_3 ⟨rfl, orj_1 ⟨rfl, fun q4 => orj_3 ⟨rfl, _, _, ch, fun q5 => ?_, fun q5 => orj_1 ⟨rfl, _, _, ch2, fun q6 => orj_3 ⟨rfl, orj_1 ⟨rfl, ?_⟩⟩, fun q6 => ?_⟩⟩, fun q4 => ?_⟩⟩, fun q3 => ?_⟩⟩, fun q => absurd q hs2⟩⟩⟩
  · rw [if_pos (by
      rcases Decidable.em (B.2.2.2.1 3 0 = 0) with z | z
      · exact z
      · rw [if_neg z] at q2
        exact absurd rfl q2)]
    exact ⟨_, σu, hu, rfl, hRu, hku⟩
  · have z1 : ¬ B.2.2.2.1 3 0 = 0 := fun z => by rw [if_pos z] at q2; exact absurd q2 (by decide)
    have z2 : ¬ B.2.2.2.1 1 0 = 0 := fun z => by rw [if_pos z] at q3; exact absurd q3 (by decide)
    have q4 : B.2.2.2.1 3 0 = B.2.2.2.1 1 0 := e0.symm.trans (q4.trans g0)
    rw [if_neg z1, if_neg z2, if_pos q4, if_pos q5]
    exact ⟨_, σt, ht, rfl, hRt, hkt⟩
  · have z1 : ¬ B.2.2.2.1 3 0 = 0 := fun z => by rw [if_pos z] at q2; exact absurd q2 (by decide)
    have z2 : ¬ B.2.2.2.1 1 0 = 0 := fun z => by rw [if_pos z] at q3; exact absurd q3 (by decide)
    have q4 : B.2.2.2.1 3 0 = B.2.2.2.1 1 0 := e0.symm.trans (q4.trans g0)
    rw [if_neg z1, if_neg z2, if_pos q4, if_neg q5, if_neg q6]
    rw [hm1] at q5
    rw [hm2] at q6
    obtain ⟨a', n', rfl, rfl, hle⟩ := hol_ne hm24 q5
    obtain ⟨c', n2, rfl, en, hle2⟩ := hol_ne hm25 q6
    rw [n_eq (by omega) (by omega)] at en
    subst en
    have t1 := nc (n := a') (by omega)
    have t2 := nc (n := c') (by omega)
    have t3 := nc (n := n') (by omega)
    refine ⟨⟨n_nn (by omega), n_nn (by omega), n_nn (by omega), by rw [t1, t3]; show _ ≤ 24; omega, by rw [t2, t3]; show _ ≤ 24; omega⟩, rfl, ?_⟩
    simp only [t1, t2, t3]
    refine h.sheets (fun c hc => z_cp_ne (by omega)) (h.2.2.2.1.up (by decide) (fun c _ _ a b => z_cp_ne (by omega)) ?_ ?_ ?_) _
    · rw [cp_ne (by decide), cpS, if_neg (by omega)]
      exact g0
    · rw [cp_ne (by decide), cpS, if_neg (by omega)]
      exact g1
    · intro i2 hi2
      rw [cpS]
      by_cases e : 2 + c' ≤ 2 + i2 ∧ 2 + i2 < 2 + c' + n'
      · rw [if_pos e, show 49 + 1 = 50 from rfl, cp_in (by omega) (by omega)]
        have := e2 (a' + (i2 - c')) (by omega)
        rw [show 2 + a' + (2 + i2 - (2 + c')) = 2 + (a' + (i2 - c')) by omega]
        exact this
      · rw [if_neg e]
        rcases Nat.lt_or_ge i2 c' with z | z
        · rw [show 49 + 1 = 50 from rfl, cp_lo z]
          exact g2 i2 hi2
        · rw [show 49 + 1 = 50 from rfl, cp_hi (by omega)]
          exact g2 i2 hi2
  · have z1 : ¬ B.2.2.2.1 3 0 = 0 := fun z => by rw [if_pos z] at q2; exact absurd q2 (by decide)
    have z2 : ¬ B.2.2.2.1 1 0 = 0 := fun z => by rw [if_pos z] at q3; exact absurd q3 (by decide)
    have q4 : B.2.2.2.1 3 0 = B.2.2.2.1 1 0 := e0.symm.trans (q4.trans g0)
    rw [if_neg z1, if_neg z2, if_pos q4, if_neg q5, if_pos q6]
    exact ⟨_, σt, ht, rfl, hRt, hkt⟩
  · have z1 : ¬ B.2.2.2.1 3 0 = 0 := fun z => by rw [if_pos z] at q2; exact absurd q2 (by decide)
    have z2 : ¬ B.2.2.2.1 1 0 = 0 := fun z => by rw [if_pos z] at q3; exact absurd q3 (by decide)
    have q4 : ¬ B.2.2.2.1 3 0 = B.2.2.2.1 1 0 := fun z => q4 (e0.trans (z.trans g0.symm))
    rw [if_neg z1, if_neg z2, if_neg q4]
    exact ⟨_, σw, hw, rfl, hRw, hkw⟩
  · have z1 : ¬ B.2.2.2.1 3 0 = 0 := fun z => by rw [if_pos z] at q2; exact absurd q2 (by decide)
    rw [if_neg z1, if_pos (by
      rcases Decidable.em (B.2.2.2.1 1 0 = 0) with z | z
      · exact z
      · rw [if_neg z] at q3
        exact absurd rfl q3)]
    exact ⟨_, σu, hu, rfl, hRu, hku⟩
theorem x_copy_14 (d : Nat) {σ : z_M} {B : zB} (h : RepC σ B) (hv : VB B) (a c n : Int32) : opC (d + 5) k_RF_copy [.ref 0, .int 3, .int a, .int 2, .int c, .int n] σ (sCopy 3 a 2 c n B) := by
  obtain ⟨σt, ht, hRt, hkt⟩ := c_tell (d + 3) h (-1000001)
  obtain ⟨σu, hu, hRu, hku⟩ := c_tell (d + 3) h (-1000002)
  obtain ⟨σw, hw, hRw, hkw⟩ := c_tell (d + 3) h (-1000004)
  have hs : ¬ hasP 4 3 = 0 := by decide
  have hs2 : ¬ hasP 4 2 = 0 := by decide
  obtain ⟨e0, e1, e2⟩ := h.2.2.2.1 3 (by decide)
  obtain ⟨g0, g1, g2⟩ := h.2.2.2.1 2 (by decide)
  obtain ⟨-, m1, hm1, hm24⟩ := hv.2.2.2.2 3 (by decide)
  obtain ⟨-, m2, hm2, hm25⟩ := hv.2.2.2.2 2 (by decide)
  have cm := c_isMissing_3 (d + 3) σ
  have cm2 := c_isMissing_2 (d + 3) σ
  have ch := c_holds_3 (d + 3) σ a n
  have ch2 := c_holds_2 (d + 3) σ c n
  rw [show σ.1 48 0 = _ from e0] at cm
  rw [show σ.1 47 0 = _ from g0] at cm2
  rw [show σ.1 48 1 = _ from e1] at ch
  rw [show σ.1 47 1 = _ from g1] at ch2
  rw [sCopy, if_neg hs, if_neg hs2]
  rw [tc_3]
  try rw [tc_2]
  refine z_metC ⟨rfl, z_go 90 [] ⟨_, _, c_isSheet (d + 3) σ _, fun q => absurd q hs, fun q => ⟨_, _, c_isSheet (d + 3) σ _, fun q => orj_3 ⟨rfl, _, _, cm, fun q2 => ?_, fun q2 => orj_2 ⟨rfl, _, _, cm2, fun q3 => orj_3 ⟨rfl, orj_2 ⟨rfl, fun q4 => orj_3 ⟨rfl, _, _, ch, fun q5 => ?_, fun q5 => orj_2 ⟨rfl, _, _, ch2, fun q6 => orj_3 ⟨rfl, orj_2 ⟨rfl, ?_⟩⟩, fun q6 => ?_⟩⟩, fun q4 => ?_⟩⟩, fun q3 => ?_⟩⟩, fun q => absurd q hs2⟩⟩⟩
  · rw [if_pos (by
      rcases Decidable.em (B.2.2.2.1 3 0 = 0) with z | z
      · exact z
      · rw [if_neg z] at q2
        exact absurd rfl q2)]
    exact ⟨_, σu, hu, rfl, hRu, hku⟩
  · have z1 : ¬ B.2.2.2.1 3 0 = 0 := fun z => by rw [if_pos z] at q2; exact absurd q2 (by decide)
    have z2 : ¬ B.2.2.2.1 2 0 = 0 := fun z => by rw [if_pos z] at q3; exact absurd q3 (by decide)
    have q4 : B.2.2.2.1 3 0 = B.2.2.2.1 2 0 := e0.symm.trans (q4.trans g0)
    rw [if_neg z1, if_neg z2, if_pos q4, if_pos q5]
    exact ⟨_, σt, ht, rfl, hRt, hkt⟩
  · have z1 : ¬ B.2.2.2.1 3 0 = 0 := fun z => by rw [if_pos z] at q2; exact absurd q2 (by decide)
    have z2 : ¬ B.2.2.2.1 2 0 = 0 := fun z => by rw [if_pos z] at q3; exact absurd q3 (by decide)
    have q4 : B.2.2.2.1 3 0 = B.2.2.2.1 2 0 := e0.symm.trans (q4.trans g0)
    rw [if_neg z1, if_neg z2, if_pos q4, if_neg q5, if_neg q6]
    rw [hm1] at q5
    rw [hm2] at q6
    obtain ⟨a', n', rfl, rfl, hle⟩ := hol_ne hm24 q5
    obtain ⟨c', n2, rfl, en, hle2⟩ := hol_ne hm25 q6
    rw [n_eq (by omega) (by omega)] at en
    subst en
    have t1 := nc (n := a') (by omega)
    have t2 := nc (n := c') (by omega)
    have t3 := nc (n := n') (by omega)
    refine ⟨⟨n_nn (by omega), n_nn (by omega), n_nn (by omega), by rw [t1, t3]; show _ ≤ 24; omega, by rw [t2, t3]; show _ ≤ 24; omega⟩, rfl, ?_⟩
    simp only [t1, t2, t3]
    refine h.sheets (fun c hc => z_cp_ne (by omega)) (h.2.2.2.1.up (by decide) (fun c _ _ a b => z_cp_ne (by omega)) ?_ ?_ ?_) _
    · rw [cp_ne (by decide), cpS, if_neg (by omega)]
      exact g0
    · rw [cp_ne (by decide), cpS, if_neg (by omega)]
      exact g1
    · intro i2 hi2
      rw [cpS]
      by_cases e : 2 + c' ≤ 2 + i2 ∧ 2 + i2 < 2 + c' + n'
      · rw [if_pos e, show 49 + 2 = 51 from rfl, cp_in (by omega) (by omega)]
        have := e2 (a' + (i2 - c')) (by omega)
        rw [show 2 + a' + (2 + i2 - (2 + c')) = 2 + (a' + (i2 - c')) by omega]
        exact this
      · rw [if_neg e]
        rcases Nat.lt_or_ge i2 c' with z | z
        · rw [show 49 + 2 = 51 from rfl, cp_lo z]
          exact g2 i2 hi2
        · rw [show 49 + 2 = 51 from rfl, cp_hi (by omega)]
          exact g2 i2 hi2
  · have z1 : ¬ B.2.2.2.1 3 0 = 0 := fun z => by rw [if_pos z] at q2; exact absurd q2 (by decide)
    have z2 : ¬ B.2.2.2.1 2 0 = 0 := fun z => by rw [if_pos z] at q3; exact absurd q3 (by decide)
    have q4 : B.2.2.2.1 3 0 = B.2.2.2.1 2 0 := e0.symm.trans (q4.trans g0)
    rw [if_neg z1, if_neg z2, if_pos q4, if_neg q5, if_pos q6]
    exact ⟨_, σt, ht, rfl, hRt, hkt⟩
  · have z1 : ¬ B.2.2.2.1 3 0 = 0 := fun z => by rw [if_pos z] at q2; exact absurd q2 (by decide)
    have z2 : ¬ B.2.2.2.1 2 0 = 0 := fun z => by rw [if_pos z] at q3; exact absurd q3 (by decide)
    have q4 : ¬ B.2.2.2.1 3 0 = B.2.2.2.1 2 0 := fun z => q4 (e0.trans (z.trans g0.symm))
    rw [if_neg z1, if_neg z2, if_neg q4]
    exact ⟨_, σw, hw, rfl, hRw, hkw⟩
  · have z1 : ¬ B.2.2.2.1 3 0 = 0 := fun z => by rw [if_pos z] at q2; exact absurd q2 (by decide)
    rw [if_neg z1, if_pos (by
      rcases Decidable.em (B.2.2.2.1 2 0 = 0) with z | z
      · exact z
      · rw [if_neg z] at q3
        exact absurd rfl q3)]
    exact ⟨_, σu, hu, rfl, hRu, hku⟩
theorem x_copy_15 (d : Nat) {σ : z_M} {B : zB} (h : RepC σ B) (hv : VB B) (a c n : Int32) : opC (d + 5) k_RF_copy [.ref 0, .int 3, .int a, .int 3, .int c, .int n] σ (sCopy 3 a 3 c n B) := by
  obtain ⟨σt, ht, hRt, hkt⟩ := c_tell (d + 3) h (-1000001)
  obtain ⟨σu, hu, hRu, hku⟩ := c_tell (d + 3) h (-1000002)
  obtain ⟨σw, hw, hRw, hkw⟩ := c_tell (d + 3) h (-1000004)
  have hs : ¬ hasP 4 3 = 0 := by decide
  have hs2 : ¬ hasP 4 3 = 0 := by decide
  obtain ⟨e0, e1, e2⟩ := h.2.2.2.1 3 (by decide)
  obtain ⟨g0, g1, g2⟩ := h.2.2.2.1 3 (by decide)
  obtain ⟨-, m1, hm1, hm24⟩ := hv.2.2.2.2 3 (by decide)
  obtain ⟨-, m2, hm2, hm25⟩ := hv.2.2.2.2 3 (by decide)
  have cm := c_isMissing_3 (d + 3) σ
  have cm2 := c_isMissing_3 (d + 3) σ
  have ch := c_holds_3 (d + 3) σ a n
  have ch2 := c_holds_3 (d + 3) σ c n
  rw [show σ.1 48 0 = _ from e0] at cm
  rw [show σ.1 48 0 = _ from g0] at cm2
  rw [show σ.1 48 1 = _ from e1] at ch
  rw [show σ.1 48 1 = _ from g1] at ch2
  rw [sCopy, if_neg hs, if_neg hs2]
  rw [tc_3]
  try rw [tc_3]
  refine z_metC ⟨rfl, z_go 90 [] ⟨_, _, c_isSheet (d + 3) σ _, fun q => absurd q hs, fun q => ⟨_, _, c_isSheet (d + 3) σ _, fun q => orj_3 ⟨rfl, _, _, cm, fun q2 => ?_, fun q2 => orj_3 ⟨rfl, _, _, cm2, fun q3 => orj_3 ⟨rfl, orj_3 ⟨rfl, fun q4 => orj_3 ⟨rfl, _, _, ch, fun q5 => ?_, fun q5 => orj_3 ⟨rfl, _, _, ch2, fun q6 => orj_3 ⟨rfl, orj_3 ⟨rfl, ?_⟩⟩, fun q6 => ?_⟩⟩, fun q4 => ?_⟩⟩, fun q3 => ?_⟩⟩, fun q => absurd q hs2⟩⟩⟩
  · rw [if_pos (by
      rcases Decidable.em (B.2.2.2.1 3 0 = 0) with z | z
      · exact z
      · rw [if_neg z] at q2
        exact absurd rfl q2)]
    exact ⟨_, σu, hu, rfl, hRu, hku⟩
  · have z1 : ¬ B.2.2.2.1 3 0 = 0 := fun z => by rw [if_pos z] at q2; exact absurd q2 (by decide)
    have z2 : ¬ B.2.2.2.1 3 0 = 0 := fun z => by rw [if_pos z] at q3; exact absurd q3 (by decide)
    have q4 : B.2.2.2.1 3 0 = B.2.2.2.1 3 0 := e0.symm.trans (q4.trans g0)
    rw [if_neg z1, if_neg z2, if_pos q4, if_pos q5]
    exact ⟨_, σt, ht, rfl, hRt, hkt⟩
  · have z1 : ¬ B.2.2.2.1 3 0 = 0 := fun z => by rw [if_pos z] at q2; exact absurd q2 (by decide)
    have z2 : ¬ B.2.2.2.1 3 0 = 0 := fun z => by rw [if_pos z] at q3; exact absurd q3 (by decide)
    have q4 : B.2.2.2.1 3 0 = B.2.2.2.1 3 0 := e0.symm.trans (q4.trans g0)
    rw [if_neg z1, if_neg z2, if_pos q4, if_neg q5, if_neg q6]
    rw [hm1] at q5
    rw [hm2] at q6
    obtain ⟨a', n', rfl, rfl, hle⟩ := hol_ne hm24 q5
    obtain ⟨c', n2, rfl, en, hle2⟩ := hol_ne hm25 q6
    rw [n_eq (by omega) (by omega)] at en
    subst en
    have t1 := nc (n := a') (by omega)
    have t2 := nc (n := c') (by omega)
    have t3 := nc (n := n') (by omega)
    refine ⟨⟨n_nn (by omega), n_nn (by omega), n_nn (by omega), by rw [t1, t3]; show _ ≤ 24; omega, by rw [t2, t3]; show _ ≤ 24; omega⟩, rfl, ?_⟩
    simp only [t1, t2, t3]
    refine h.sheets (fun c hc => z_cp_ne (by omega)) (h.2.2.2.1.up (by decide) (fun c _ _ a b => z_cp_ne (by omega)) ?_ ?_ ?_) _
    · rw [cp_ne (by decide), cpS, if_neg (by omega)]
      exact g0
    · rw [cp_ne (by decide), cpS, if_neg (by omega)]
      exact g1
    · intro i2 hi2
      rw [cpS]
      by_cases e : 2 + c' ≤ 2 + i2 ∧ 2 + i2 < 2 + c' + n'
      · rw [if_pos e, show 49 + 3 = 52 from rfl, cp_in (by omega) (by omega)]
        have := e2 (a' + (i2 - c')) (by omega)
        rw [show 2 + a' + (2 + i2 - (2 + c')) = 2 + (a' + (i2 - c')) by omega]
        exact this
      · rw [if_neg e]
        rcases Nat.lt_or_ge i2 c' with z | z
        · rw [show 49 + 3 = 52 from rfl, cp_lo z]
          exact g2 i2 hi2
        · rw [show 49 + 3 = 52 from rfl, cp_hi (by omega)]
          exact g2 i2 hi2
  · have z1 : ¬ B.2.2.2.1 3 0 = 0 := fun z => by rw [if_pos z] at q2; exact absurd q2 (by decide)
    have z2 : ¬ B.2.2.2.1 3 0 = 0 := fun z => by rw [if_pos z] at q3; exact absurd q3 (by decide)
    have q4 : B.2.2.2.1 3 0 = B.2.2.2.1 3 0 := e0.symm.trans (q4.trans g0)
    rw [if_neg z1, if_neg z2, if_pos q4, if_neg q5, if_pos q6]
    exact ⟨_, σt, ht, rfl, hRt, hkt⟩
  · have z1 : ¬ B.2.2.2.1 3 0 = 0 := fun z => by rw [if_pos z] at q2; exact absurd q2 (by decide)
    have z2 : ¬ B.2.2.2.1 3 0 = 0 := fun z => by rw [if_pos z] at q3; exact absurd q3 (by decide)
    have q4 : ¬ B.2.2.2.1 3 0 = B.2.2.2.1 3 0 := fun z => q4 (e0.trans (z.trans g0.symm))
    rw [if_neg z1, if_neg z2, if_neg q4]
    exact ⟨_, σw, hw, rfl, hRw, hkw⟩
  · have z1 : ¬ B.2.2.2.1 3 0 = 0 := fun z => by rw [if_pos z] at q2; exact absurd q2 (by decide)
    rw [if_neg z1, if_pos (by
      rcases Decidable.em (B.2.2.2.1 3 0 = 0) with z | z
      · exact z
      · rw [if_neg z] at q3
        exact absurd rfl q3)]
    exact ⟨_, σu, hu, rfl, hRu, hku⟩
theorem x_copy (d : Nat) {σ : z_M} {B : zB} (h : RepC σ B) (hv : VB B) (s a t c n : Int32) : opC (d + 5) k_RF_copy [.ref 0, .int s, .int a, .int t, .int c, .int n] σ (sCopy s a t c n B) := by
  obtain ⟨σt, ht, hRt, hkt⟩ := c_tell (d + 3) h (-1000001)
  by_cases hs : hasP 4 s = 0
  · refine z_metC ⟨rfl, z_go 20 [] ⟨_, _, c_isSheet (d + 3) σ s, fun q => ?_, fun q => absurd hs q⟩⟩
    rw [sCopy, if_pos hs]
    exact ⟨_, σt, ht, rfl, hRt, hkt⟩
  · by_cases hs2 : hasP 4 t = 0
    · refine z_metC ⟨rfl, z_go 20 [] ⟨_, _, c_isSheet (d + 3) σ s, fun q => absurd q hs, fun q => ⟨_, _, c_isSheet (d + 3) σ t, fun q2 => absurd hs2 q2, fun q2 => ?_⟩⟩⟩
      rw [sCopy, if_neg hs, if_pos hs2]
      exact ⟨_, σt, ht, rfl, hRt, hkt⟩
    · obtain ⟨j, hj, rfl⟩ := hasP_ne (n := 4) (by omega) hs
      obtain ⟨k, hk, rfl⟩ := hasP_ne (n := 4) (by omega) hs2
      refine four_cases (P := fun j => opC (d + 5) k_RF_copy [.ref 0, .int (nI j), .int a, .int (nI k), .int c, .int n] σ (sCopy (nI j) a (nI k) c n B)) ?_ ?_ ?_ ?_ hj
      · exact four_cases (P := fun k => opC (d + 5) k_RF_copy [.ref 0, .int (nI 0), .int a, .int (nI k), .int c, .int n] σ (sCopy (nI 0) a (nI k) c n B)) (x_copy_0 d h hv a c n) (x_copy_1 d h hv a c n) (x_copy_2 d h hv a c n) (x_copy_3 d h hv a c n) hk
      · exact four_cases (P := fun k => opC (d + 5) k_RF_copy [.ref 0, .int (nI 1), .int a, .int (nI k), .int c, .int n] σ (sCopy (nI 1) a (nI k) c n B)) (x_copy_4 d h hv a c n) (x_copy_5 d h hv a c n) (x_copy_6 d h hv a c n) (x_copy_7 d h hv a c n) hk
      · exact four_cases (P := fun k => opC (d + 5) k_RF_copy [.ref 0, .int (nI 2), .int a, .int (nI k), .int c, .int n] σ (sCopy (nI 2) a (nI k) c n B)) (x_copy_8 d h hv a c n) (x_copy_9 d h hv a c n) (x_copy_10 d h hv a c n) (x_copy_11 d h hv a c n) hk
      · exact four_cases (P := fun k => opC (d + 5) k_RF_copy [.ref 0, .int (nI 3), .int a, .int (nI k), .int c, .int n] σ (sCopy (nI 3) a (nI k) c n B)) (x_copy_12 d h hv a c n) (x_copy_13 d h hv a c n) (x_copy_14 d h hv a c n) (x_copy_15 d h hv a c n) hk
theorem y_copy (d : Nat) {σ : z_M} {B : zB} (h : RepD σ B) (hv : VB B) (s a t c n : Int32) : opD (d + 5) k_Md_copy [.ref 53, .int s, .int a, .int t, .int c, .int n] σ (sCopy s a t c n B) := by
  obtain ⟨σt, ht, hRt, hkt⟩ := c_finding (d + 3) h (-1000001)
  obtain ⟨σu, hu, hRu, hku⟩ := c_finding (d + 3) h (-1000002)
  obtain ⟨σw, hw, hRw, hkw⟩ := c_finding (d + 3) h (-1000004)
  refine z_metD ⟨rfl, z_go 90 [101] ⟨_, _, c_misSheet (d + 3) σ s, fun q => ?_, fun q => ⟨_, _, c_misSheet (d + 3) σ t, fun q2 => ?_, fun q2 => ?_⟩⟩⟩
  · rw [sCopy, if_pos q]
    exact ⟨_, σt, ht, rfl, hRt, hkt⟩
  · rw [sCopy, if_neg q, if_neg q2]
    obtain ⟨j, hj, rfl⟩ := hasP_ne (n := 4) (by omega) q
    obtain ⟨k, hk, rfl⟩ := hasP_ne (n := 4) (by omega) q2
    rw [nc (show j < 2147483648 by omega), nc (show k < 2147483648 by omega)]
    obtain ⟨e0, e1, e2⟩ := h.2.2.2.1 j hj
    obtain ⟨g0, g1, g2⟩ := h.2.2.2.1 k hk
    obtain ⟨-, m1, hm1, hm24⟩ := hv.2.2.2.2 j hj
    obtain ⟨-, m2, hm2, hm25⟩ := hv.2.2.2.2 k hk
    have ch := c_hasPart (d + 3) σ hj hm24 (e1.trans hm1) a n
    have ch2 := c_hasPart (d + 3) σ hk hm25 (g1.trans hm2) c n
    refine ⟨by (first | exact vin (by simp only [al_2, al_3, al_4, al_5, al_7, al_11, al_12, al_13, al_15, al_16, al_17, al_19, al_20, al_21, al_22, al_23, al_24, al_25, al_26, al_28, al_30, al_31, al_32, al_33, al_34, al_36, al_41, al_42, al_43, al_44, al_49, al_50, al_51, al_52, al_54, al_55, al_56, al_57, al_58, al_59, al_60, al_61, al_62, al_63, al_64, al_65, al_66, al_67, al_68, al_69, al_70, al_71, al_72, al_73, al_74, al_75, al_76, al_77, al_78, al_79, al_80]; omega) (by simp only [al_2, al_3, al_4, al_5, al_7, al_11, al_12, al_13, al_15, al_16, al_17, al_19, al_20, al_21, al_22, al_23, al_24, al_25, al_26, al_28, al_30, al_31, al_32, al_33, al_34, al_36, al_41, al_42, al_43, al_44, al_49, al_50, al_51, al_52, al_54, al_55, al_56, al_57, al_58, al_59, al_60, al_61, al_62, al_63, al_64, al_65, al_66, al_67, al_68, al_69, al_70, al_71, al_72, al_73, al_74, al_75, al_76, al_77, al_78, al_79, al_80]; decide) | (simp (disch := omega) only [nL, nI_add, pk_mul, nc, Nat.zero_add, al_2, al_3, al_4, al_5, al_7, al_11, al_12, al_13, al_15, al_16, al_17, al_19, al_20, al_21, al_22, al_23, al_24, al_25, al_26, al_28, al_30, al_31, al_32, al_33, al_34, al_36, al_41, al_42, al_43, al_44, al_49, al_50, al_51, al_52, al_54, al_55, al_56, al_57, al_58, al_59, al_60, al_61, al_62, al_63, al_64, al_65, al_66, al_67, al_68, al_69, al_70, al_71, al_72, al_73, al_74, al_75, al_76, al_77, al_78, al_79, al_80]; exact vin (by omega) (by decide))), fun q3 => ?_, fun q3 => ⟨by (first | exact vin (by simp only [al_2, al_3, al_4, al_5, al_7, al_11, al_12, al_13, al_15, al_16, al_17, al_19, al_20, al_21, al_22, al_23, al_24, al_25, al_26, al_28, al_30, al_31, al_32, al_33, al_34, al_36, al_41, al_42, al_43, al_44, al_49, al_50, al_51, al_52, al_54, al_55, al_56, al_57, al_58, al_59, al_60, al_61, al_62, al_63, al_64, al_65, al_66, al_67, al_68, al_69, al_70, al_71, al_72, al_73, al_74, al_75, al_76, al_77, al_78, al_79, al_80]; omega) (by simp only [al_2, al_3, al_4, al_5, al_7, al_11, al_12, al_13, al_15, al_16, al_17, al_19, al_20, al_21, al_22, al_23, al_24, al_25, al_26, al_28, al_30, al_31, al_32, al_33, al_34, al_36, al_41, al_42, al_43, al_44, al_49, al_50, al_51, al_52, al_54, al_55, al_56, al_57, al_58, al_59, al_60, al_61, al_62, al_63, al_64, al_65, al_66, al_67, al_68, al_69, al_70, al_71, al_72, al_73, al_74, al_75, al_76, al_77, al_78, al_79, al_80]; decide) | (simp (disch := omega) only [nL, nI_add, pk_mul, nc, Nat.zero_add, al_2, al_3, al_4, al_5, al_7, al_11, al_12, al_13, al_15, al_16, al_17, al_19, al_20, al_21, al_22, al_23, al_24, al_25, al_26, al_28, al_30, al_31, al_32, al_33, al_34, al_36, al_41, al_42, al_43, al_44, al_49, al_50, al_51, al_52, al_54, al_55, al_56, al_57, al_58, al_59, al_60, al_61, al_62, al_63, al_64, al_65, al_66, al_67, al_68, al_69, al_70, al_71, al_72, al_73, al_74, al_75, al_76, al_77, al_78, al_79, al_80]; exact vin (by omega) (by decide))), fun q4 => ⟨by (first | exact vin (by simp only [al_2, al_3, al_4, al_5, al_7, al_11, al_12, al_13, al_15, al_16, al_17, al_19, al_20, al_21, al_22, al_23, al_24, al_25, al_26, al_28, al_30, al_31, al_32, al_33, al_34, al_36, al_41, al_42, al_43, al_44, al_49, al_50, al_51, al_52, al_54, al_55, al_56, al_57, al_58, al_59, al_60, al_61, al_62, al_63, al_64, al_65, al_66, al_67, al_68, al_69, al_70, al_71, al_72, al_73, al_74, al_75, al_76, al_77, al_78, al_79, al_80]; omega) (by simp only [al_2, al_3, al_4, al_5, al_7, al_11, al_12, al_13, al_15, al_16, al_17, al_19, al_20, al_21, al_22, al_23, al_24, al_25, al_26, al_28, al_30, al_31, al_32, al_33, al_34, al_36, al_41, al_42, al_43, al_44, al_49, al_50, al_51, al_52, al_54, al_55, al_56, al_57, al_58, al_59, al_60, al_61, al_62, al_63, al_64, al_65, al_66, al_67, al_68, al_69, al_70, al_71, al_72, al_73, al_74, al_75, al_76, al_77, al_78, al_79, al_80]; decide) | (simp (disch := omega) only [nL, nI_add, pk_mul, nc, Nat.zero_add, al_2, al_3, al_4, al_5, al_7, al_11, al_12, al_13, al_15, al_16, al_17, al_19, al_20, al_21, al_22, al_23, al_24, al_25, al_26, al_28, al_30, al_31, al_32, al_33, al_34, al_36, al_41, al_42, al_43, al_44, al_49, al_50, al_51, al_52, al_54, al_55, al_56, al_57, al_58, al_59, al_60, al_61, al_62, al_63, al_64, al_65, al_66, al_67, al_68, al_69, al_70, al_71, al_72, al_73, al_74, al_75, al_76, al_77, al_78, al_79, al_80]; exact vin (by omega) (by decide))), by (first | exact vin (by simp only [al_2, al_3, al_4, al_5, al_7, al_11, al_12, al_13, al_15, al_16, al_17, al_19, al_20, al_21, al_22, al_23, al_24, al_25, al_26, al_28, al_30, al_31, al_32, al_33, al_34, al_36, al_41, al_42, al_43, al_44, al_49, al_50, al_51, al_52, al_54, al_55, al_56, al_57, al_58, al_59, al_60, al_61, al_62, al_63, al_64, al_65, al_66, al_67, al_68, al_69, al_70, al_71, al_72, al_73, al_74, al_75, al_76, al_77, al_78, al_79, al_80]; omega) (by simp only [al_2, al_3, al_4, al_5, al_7, al_11, al_12, al_13, al_15, al_16, al_17, al_19, al_20, al_21, al_22, al_23, al_24, al_25, al_26, al_28, al_30, al_31, al_32, al_33, al_34, al_36, al_41, al_42, al_43, al_44, al_49, al_50, al_51, al_52, al_54, al_55, al_56, al_57, al_58, al_59, al_60, al_61, al_62, al_63, al_64, al_65, al_66, al_67, al_68, al_69, al_70, al_71, al_72, al_73, al_74, al_75, al_76, al_77, al_78, al_79, al_80]; decide) | (simp (disch := omega) only [nL, nI_add, pk_mul, nc, Nat.zero_add, al_2, al_3, al_4, al_5, al_7, al_11, al_12, al_13, al_15, al_16, al_17, al_19, al_20, al_21, al_22, al_23, al_24, al_25, al_26, al_28, al_30, al_31, al_32, al_33, al_34, al_36, al_41, al_42, al_43, al_44, al_49, al_50, al_51, al_52, al_54, al_55, al_56, al_57, al_58, al_59, al_60, al_61, al_62, al_63, al_64, al_65, al_66, al_67, al_68, al_69, al_70, al_71, al_72, al_73, al_74, al_75, al_76, al_77, al_78, al_79, al_80]; exact vin (by omega) (by decide))), fun q5 => ⟨_, _, ch, fun q6 => ?_, fun q6 => ⟨_, _, ch2, fun q7 => ?_, fun q7 => ?_⟩⟩, fun q5 => ?_⟩, fun q4 => ?_⟩⟩
    · rw [nc (by omega), e0] at q3
      rw [if_pos q3]
      exact ⟨_, σu, hu, rfl, hRu, hku⟩
    · rw [nc (by omega), e0] at q3
      rw [nc (by omega), g0] at q4
      rw [nc (by omega), nc (by omega), e0, g0] at q5
      rw [if_neg q3, if_neg q4, if_pos q5, hm1, if_pos q6]
      exact ⟨_, σt, ht, rfl, hRt, hkt⟩
    · rw [nc (by omega), e0] at q3
      rw [nc (by omega), g0] at q4
      rw [nc (by omega), nc (by omega), e0, g0] at q5
      rw [if_neg q3, if_neg q4, if_pos q5, hm1, hm2, if_neg q6, if_neg q7]
      obtain ⟨a', n', rfl, rfl, hle⟩ := hol_ne hm24 q6
      obtain ⟨c', n2, rfl, en, hle2⟩ := hol_ne hm25 q7
      rw [n_eq (by omega) (by omega)] at en
      subst en
      simp (disch := omega) only [nc]
      have loop2 : ∀ (m i : Nat) (σi : z_M), i + m = n' → fr [65, 66] σ σi → (∀ x, x < n' → σi.1 66 x = σ.1 65 (24 * j + a' + x)) → (∀ x, (x < 24 * k + c' ∨ 24 * k + c' + i ≤ x) → σi.1 65 x = σ.1 65 x) → (∀ x, x < i → σi.1 65 (24 * k + c' + x) = σ.1 65 (24 * j + a' + x)) →
          z_wp (z_call (d + 4)) none k_Md_copy (pD σ (oSh (nI n') (upS B.2.2.2.1 k (cpS (B.2.2.2.1 j) (B.2.2.2.1 k) a' c' n')) B)) 138 [some (.ref 53), some (.int (nI j)), some (.int (nI a')), some (.int (nI k)), some (.int (nI c')), some (.int (nI n')), some (.int (nI i))] [] σi := by
        intro m
        induction m with
        | zero =>
          intro i σi hi hf h1 h2 h3
          refine z_go 30 [138] ⟨fun z => ⟨rfl, h.sheets (fun c hc => hf.1 c (by simp; omega)) (hf.2 (by decide)) (h.2.2.2.1.up hk (fun x _ => by rw [hf.at (by decide)]) (fun x _ => by rw [hf.at (by decide)]) (fun x hx => h2 x (by omega)) ?_ ?_ ?_) _⟩, fun z => ?_⟩
          · rw [hf.at (by decide), cpS, if_neg (by omega)]
            exact g0
          · rw [hf.at (by decide), cpS, if_neg (by omega)]
            exact g1
          · intro i2 hi2
            rw [cpS]
            by_cases e : 2 + c' ≤ 2 + i2 ∧ 2 + i2 < 2 + c' + n'
            · rw [if_pos e]
              have w1 := h3 (i2 - c') (by omega)
              have w2 := e2 (a' + (i2 - c')) (by omega)
              rw [show 24 * k + c' + (i2 - c') = 24 * k + i2 by omega] at w1
              rw [w1, show 2 + a' + (2 + i2 - (2 + c')) = 2 + (a' + (i2 - c')) by omega, ← w2, Nat.add_assoc]
            · rw [if_neg e, h2 _ (by omega)]
              exact g2 i2 hi2
          · rw [n_le (by omega) (by omega)] at z
            omega
        | succ m ih =>
          intro i σi hi hf h1 h2 h3
          refine z_go 30 [138] ⟨fun z => ?_, fun z => ⟨by (first | exact vin (by simp only [al_2, al_3, al_4, al_5, al_7, al_11, al_12, al_13, al_15, al_16, al_17, al_19, al_20, al_21, al_22, al_23, al_24, al_25, al_26, al_28, al_30, al_31, al_32, al_33, al_34, al_36, al_41, al_42, al_43, al_44, al_49, al_50, al_51, al_52, al_54, al_55, al_56, al_57, al_58, al_59, al_60, al_61, al_62, al_63, al_64, al_65, al_66, al_67, al_68, al_69, al_70, al_71, al_72, al_73, al_74, al_75, al_76, al_77, al_78, al_79, al_80]; omega) (by simp only [al_2, al_3, al_4, al_5, al_7, al_11, al_12, al_13, al_15, al_16, al_17, al_19, al_20, al_21, al_22, al_23, al_24, al_25, al_26, al_28, al_30, al_31, al_32, al_33, al_34, al_36, al_41, al_42, al_43, al_44, al_49, al_50, al_51, al_52, al_54, al_55, al_56, al_57, al_58, al_59, al_60, al_61, al_62, al_63, al_64, al_65, al_66, al_67, al_68, al_69, al_70, al_71, al_72, al_73, al_74, al_75, al_76, al_77, al_78, al_79, al_80]; decide) | (simp (disch := omega) only [nL, nI_add, pk_mul, nc, Nat.zero_add, al_2, al_3, al_4, al_5, al_7, al_11, al_12, al_13, al_15, al_16, al_17, al_19, al_20, al_21, al_22, al_23, al_24, al_25, al_26, al_28, al_30, al_31, al_32, al_33, al_34, al_36, al_41, al_42, al_43, al_44, al_49, al_50, al_51, al_52, al_54, al_55, al_56, al_57, al_58, al_59, al_60, al_61, al_62, al_63, al_64, al_65, al_66, al_67, al_68, al_69, al_70, al_71, al_72, al_73, al_74, al_75, al_76, al_77, al_78, al_79, al_80]; exact vin (by omega) (by decide))), by (first | exact vin (by simp only [al_2, al_3, al_4, al_5, al_7, al_11, al_12, al_13, al_15, al_16, al_17, al_19, al_20, al_21, al_22, al_23, al_24, al_25, al_26, al_28, al_30, al_31, al_32, al_33, al_34, al_36, al_41, al_42, al_43, al_44, al_49, al_50, al_51, al_52, al_54, al_55, al_56, al_57, al_58, al_59, al_60, al_61, al_62, al_63, al_64, al_65, al_66, al_67, al_68, al_69, al_70, al_71, al_72, al_73, al_74, al_75, al_76, al_77, al_78, al_79, al_80]; omega) (by simp only [al_2, al_3, al_4, al_5, al_7, al_11, al_12, al_13, al_15, al_16, al_17, al_19, al_20, al_21, al_22, al_23, al_24, al_25, al_26, al_28, al_30, al_31, al_32, al_33, al_34, al_36, al_41, al_42, al_43, al_44, al_49, al_50, al_51, al_52, al_54, al_55, al_56, al_57, al_58, al_59, al_60, al_61, al_62, al_63, al_64, al_65, al_66, al_67, al_68, al_69, al_70, al_71, al_72, al_73, al_74, al_75, al_76, al_77, al_78, al_79, al_80]; decide) | (simp (disch := omega) only [nL, nI_add, pk_mul, nc, Nat.zero_add, al_2, al_3, al_4, al_5, al_7, al_11, al_12, al_13, al_15, al_16, al_17, al_19, al_20, al_21, al_22, al_23, al_24, al_25, al_26, al_28, al_30, al_31, al_32, al_33, al_34, al_36, al_41, al_42, al_43, al_44, al_49, al_50, al_51, al_52, al_54, al_55, al_56, al_57, al_58, al_59, al_60, al_61, al_62, al_63, al_64, al_65, al_66, al_67, al_68, al_69, al_70, al_71, al_72, al_73, al_74, al_75, al_76, al_77, al_78, al_79, al_80]; exact vin (by omega) (by decide))), ?_⟩⟩
          · rw [n_le (by omega) (by omega)] at z
            omega
          · show z_wp _ _ _ _ 138 _ _ _
            simp (disch := omega) only [nL, nI_add, pk_mul, nc, h1]
            refine ih (i + 1) _ (by omega) (fr.wr hf (by decide)) (fun x hx => by rw [wr_c (by decide)]; exact h1 x hx) (fun x hx => by rw [wr_k (by omega)]; exact h2 x (by omega)) (fun x hx => ?_)
            by_cases e : x = i
            · subst e
              rw [wr_s]
            · rw [wr_k (by omega)]
              exact h3 x (by omega)
      have loop1 : ∀ (m i : Nat) (σi : z_M), i + m = n' → fr [66] σ σi → (∀ x, x < i → σi.1 66 x = σ.1 65 (24 * j + a' + x)) →
          z_wp (z_call (d + 4)) none k_Md_copy (pD σ (oSh (nI n') (upS B.2.2.2.1 k (cpS (B.2.2.2.1 j) (B.2.2.2.1 k) a' c' n')) B)) 101 [some (.ref 53), some (.int (nI j)), some (.int (nI a')), some (.int (nI k)), some (.int (nI c')), some (.int (nI n')), some (.int (nI i))] [] σi := by
        intro m
        induction m with
        | zero =>
          intro i σi hi hf h1
          refine z_go 30 [101, 138] ⟨fun z => loop2 n' 0 σi (by omega) (hf.wk _ (by decide)) (fun x hx => h1 x (by omega)) (fun x _ => by rw [hf.at (by decide)]) (fun x hx => by omega), fun z => ?_⟩
          rw [n_le (by omega) (by omega)] at z
          omega
        | succ m ih =>
          intro i σi hi hf h1
          refine z_go 30 [101, 138] ⟨fun z => ?_, fun z => ⟨by (first | exact vin (by simp only [al_2, al_3, al_4, al_5, al_7, al_11, al_12, al_13, al_15, al_16, al_17, al_19, al_20, al_21, al_22, al_23, al_24, al_25, al_26, al_28, al_30, al_31, al_32, al_33, al_34, al_36, al_41, al_42, al_43, al_44, al_49, al_50, al_51, al_52, al_54, al_55, al_56, al_57, al_58, al_59, al_60, al_61, al_62, al_63, al_64, al_65, al_66, al_67, al_68, al_69, al_70, al_71, al_72, al_73, al_74, al_75, al_76, al_77, al_78, al_79, al_80]; omega) (by simp only [al_2, al_3, al_4, al_5, al_7, al_11, al_12, al_13, al_15, al_16, al_17, al_19, al_20, al_21, al_22, al_23, al_24, al_25, al_26, al_28, al_30, al_31, al_32, al_33, al_34, al_36, al_41, al_42, al_43, al_44, al_49, al_50, al_51, al_52, al_54, al_55, al_56, al_57, al_58, al_59, al_60, al_61, al_62, al_63, al_64, al_65, al_66, al_67, al_68, al_69, al_70, al_71, al_72, al_73, al_74, al_75, al_76, al_77, al_78, al_79, al_80]; decide) | (simp (disch := omega) only [nL, nI_add, pk_mul, nc, Nat.zero_add, al_2, al_3, al_4, al_5, al_7, al_11, al_12, al_13, al_15, al_16, al_17, al_19, al_20, al_21, al_22, al_23, al_24, al_25, al_26, al_28, al_30, al_31, al_32, al_33, al_34, al_36, al_41, al_42, al_43, al_44, al_49, al_50, al_51, al_52, al_54, al_55, al_56, al_57, al_58, al_59, al_60, al_61, al_62, al_63, al_64, al_65, al_66, al_67, al_68, al_69, al_70, al_71, al_72, al_73, al_74, al_75, al_76, al_77, al_78, al_79, al_80]; exact vin (by omega) (by decide))), by (first | exact vin (by simp only [al_2, al_3, al_4, al_5, al_7, al_11, al_12, al_13, al_15, al_16, al_17, al_19, al_20, al_21, al_22, al_23, al_24, al_25, al_26, al_28, al_30, al_31, al_32, al_33, al_34, al_36, al_41, al_42, al_43, al_44, al_49, al_50, al_51, al_52, al_54, al_55, al_56, al_57, al_58, al_59, al_60, al_61, al_62, al_63, al_64, al_65, al_66, al_67, al_68, al_69, al_70, al_71, al_72, al_73, al_74, al_75, al_76, al_77, al_78, al_79, al_80]; omega) (by simp only [al_2, al_3, al_4, al_5, al_7, al_11, al_12, al_13, al_15, al_16, al_17, al_19, al_20, al_21, al_22, al_23, al_24, al_25, al_26, al_28, al_30, al_31, al_32, al_33, al_34, al_36, al_41, al_42, al_43, al_44, al_49, al_50, al_51, al_52, al_54, al_55, al_56, al_57, al_58, al_59, al_60, al_61, al_62, al_63, al_64, al_65, al_66, al_67, al_68, al_69, al_70, al_71, al_72, al_73, al_74, al_75, al_76, al_77, al_78, al_79, al_80]; decide) | (simp (disch := omega) only [nL, nI_add, pk_mul, nc, Nat.zero_add, al_2, al_3, al_4, al_5, al_7, al_11, al_12, al_13, al_15, al_16, al_17, al_19, al_20, al_21, al_22, al_23, al_24, al_25, al_26, al_28, al_30, al_31, al_32, al_33, al_34, al_36, al_41, al_42, al_43, al_44, al_49, al_50, al_51, al_52, al_54, al_55, al_56, al_57, al_58, al_59, al_60, al_61, al_62, al_63, al_64, al_65, al_66, al_67, al_68, al_69, al_70, al_71, al_72, al_73, al_74, al_75, al_76, al_77, al_78, al_79, al_80]; exact vin (by omega) (by decide))), ?_⟩⟩
          · rw [n_le (by omega) (by omega)] at z
            omega
          · show z_wp _ _ _ _ 101 _ _ _
            simp (disch := omega) only [nL, nI_add, pk_mul, nc]
            refine ih (i + 1) _ (by omega) (fr.wr hf (by decide)) (fun x hx => ?_)
            by_cases e : x = i
            · subst e
              rw [wr_s, hf.at (by decide)]
            · rw [wr_k (by omega)]
              exact h1 x (by omega)
      exact loop1 n' 0 σ (by omega) fr.rf (fun x hx => by omega)
    · rw [nc (by omega), e0] at q3
      rw [nc (by omega), g0] at q4
      rw [nc (by omega), nc (by omega), e0, g0] at q5
      rw [if_neg q3, if_neg q4, if_pos q5, hm1, hm2, if_neg q6, if_pos q7]
      exact ⟨_, σt, ht, rfl, hRt, hkt⟩
    · rw [nc (by omega), e0] at q3
      rw [nc (by omega), g0] at q4
      rw [nc (by omega), nc (by omega), e0, g0] at q5
      rw [if_neg q3, if_neg q4, if_neg q5]
      exact ⟨_, σw, hw, rfl, hRw, hkw⟩
    · rw [nc (by omega), e0] at q3
      rw [nc (by omega), g0] at q4
      rw [if_neg q3, if_pos q4]
      exact ⟨_, σu, hu, rfl, hRu, hku⟩
  · rw [sCopy, if_neg q, if_pos q2]
    exact ⟨_, σt, ht, rfl, hRt, hkt⟩
theorem v_copy {B : zB} (h : VB B) (s a t c n : Int32) : VB (sCopy s a t c n B).2 := by
  unfold sCopy
  split
  · exact h.tell _
  · split
    · exact h.tell _
    · rename_i q
      obtain ⟨k, hk, rfl⟩ := hasP_ne (n := 4) (by omega) q
      rw [nc (show k < 2147483648 by omega)]
      split
      · exact h.tell _
      · split
        · exact h.tell _
        · split
          · split
            · exact h.tell _
            · split
              · exact h.tell _
              · obtain ⟨hb, m, hm, hm24⟩ := h.2.2.2.2 k hk
                refine h.sheets _ ⟨?_, m, ?_, hm24⟩
                · rw [cpS, if_neg (by omega)]
                  exact hb
                · rw [cpS, if_neg (by omega)]
                  exact hm
          · exact h.tell _
