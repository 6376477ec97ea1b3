/-! slots: keep -/
def kof (N : zN) : Int32 := if nG N = 0 then (if wh N = 0 then 0 else 3) else (if nG N = 2 then 2 else 1)
theorem c_kindOfFlow (d : Nat) {σ : z_M} {N : zN} (h : netC σ N) (hv : NV N) : z_call (d + 6) k_Net_kindOfFlow [.ref 1] σ (some (.int (kof N))) σ := by
  unfold kof
  rw [← h.2.2.1]
  refine ⟨rfl, z_go 20 [] ⟨fun q => ⟨fun q2 => ⟨by rw [if_neg q, if_neg q2], rfl⟩, fun q2 => ⟨by rw [if_neg q, if_pos q2], rfl⟩⟩, fun q => ⟨_, _, c_isWhole d h hv, fun q2 => ⟨by rw [if_pos q, if_pos q2], rfl⟩, fun q2 => ⟨by rw [if_pos q, if_neg q2], rfl⟩⟩⟩⟩
def oSl (r : Int32) (sl : Nat → Nat → Int32) (B : zB) : Int32 × zB := (r, B.1, B.2.1, sl, B.2.2.2)
theorem RepC.slots {σ σ' : z_M} {B : zB} (h : RepC σ B) (hf : ∀ c, c < 37 ∨ 45 ≤ c → σ'.1 c = σ.1 c) {sl : Nat → Nat → Int32} (hs : slC σ' sl) (r : Int32) : RepC σ' (oSl r sl B).2 ∧ kC σ σ' := by
  obtain ⟨h1, h2, h3, h4, h5, h6⟩ := h
  refine ⟨⟨h1.fr (hf 1 (by omega)) (hf 2 (by omega)) (hf 3 (by omega)) (hf 4 (by omega)) (hf 5 (by omega)), h2.fr (hf 6 (by omega)) (hf 7 (by omega)), hs, h4.fr (fun c _ _ => hf c (by omega)), by rw [hf 0 (by omega)]; exact h5, ?_⟩, fun c hc => hf c (by omega)⟩
  show svC σ' B.1
  unfold svC
  rw [hf 0 (by omega), hf 15 (by omega), hf 16 (by omega), hf 17 (by omega)]
  exact h6
theorem RepD.slots {σ σ' : z_M} {B : zB} (h : RepD σ B) (hf : ∀ c, c < 59 ∨ 63 ≤ c → σ'.1 c = σ.1 c) (h2' : σ'.2 = σ.2) {sl : Nat → Nat → Int32} (hs : slD σ' sl) (r : Int32) : RepD σ' (oSl r sl B).2 ∧ kD σ σ' := by
  obtain ⟨h1, h2, h3, h4, h5⟩ := h
  have k53 := hf 53 (by omega)
  exact ⟨⟨h1.fr (by rw [k53]) (by rw [k53]) (by rw [k53]) (hf 54 (by omega)) (hf 55 (by omega)) (hf 56 (by omega)) (hf 57 (by omega)), h2.fr (by rw [k53]) (hf 58 (by omega)), hs, h4.fr (hf 63 (by omega)) (hf 64 (by omega)) (hf 65 (by omega)), by rw [k53]; exact h5⟩, fun c hc => hf c (by omega), h2'⟩
theorem slC.up {σ σ' : z_M} {sl : Nat → Nat → Int32} (h : slC σ sl) {j : Nat} (hj : j < 4) (hf : ∀ c, 37 ≤ c → c < 45 → c ≠ 37 + j → c ≠ 41 + j → σ'.1 c = σ.1 c) {f : Nat → Int32} (h0 : 0 ≤ f 0) (h1 : σ'.1 (37 + j) 0 = 1) (h2 : σ'.1 (37 + j) 3 = f 0) (h3 : σ'.1 (37 + j) 2 = f 1) (h4 : σ'.1 (37 + j) 1 = f 2) (h5 : ∀ i, i < 10 → σ'.1 (41 + j) i = f (3 + i)) : slC σ' (upS sl j f) := by
  intro k hk
  unfold upS
  by_cases q : k = j
  · subst q
    simp only [if_true]
    exact Or.inr ⟨h0, h1, h2, h3, h4, fun i hi _ => h5 i hi⟩
  · simp only [if_neg q]
    rw [hf (37 + k) (by omega) (by omega) (by omega) (by omega), hf (41 + k) (by omega) (by omega) (by omega) (by omega)]
    exact h k hk
theorem slD.up {σ σ' : z_M} {sl : Nat → Nat → Int32} (h : slD σ sl) {j : Nat} (hj : j < 4) (hf : ∀ c, 59 ≤ c → c < 62 → ∀ k, k ≠ j → σ'.1 c k = σ.1 c k) (hf2 : ∀ k, k < 10 * j ∨ 10 * j + 10 ≤ k → σ'.1 62 k = σ.1 62 k) {f : Nat → Int32} (h2 : σ'.1 59 j = f 0) (h3 : σ'.1 60 j = f 1) (h4 : σ'.1 61 j = f 2) (h5 : ∀ i, i < 10 → nI i < f 2 → σ'.1 62 (10 * j + i) = f (3 + i)) : slD σ' (upS sl j f) := by
  intro k hk
  unfold upS
  by_cases q : k = j
  · subst q
    simp only [if_true]
    exact ⟨h2, fun _ => ⟨h3, h4, h5⟩⟩
  · simp only [if_neg q]
    rw [hf 59 (by omega) (by omega) k q, hf 60 (by omega) (by omega) k q, hf 61 (by omega) (by omega) k q]
    obtain ⟨a, b⟩ := h k hk
    refine ⟨a, fun z => ⟨(b z).1, (b z).2.1, fun i hi hi2 => ?_⟩⟩
    rw [hf2 _ (by omega)]
    exact (b z).2.2 i hi hi2
theorem VB.slots {B : zB} (h : VB B) (r : Int32) {j : Nat} {f : Nat → Int32} (hf : SV f) : VB (oSl r (upS B.2.2.1 j f) B).2 := by
  obtain ⟨h1, h2, h3, h4, h5⟩ := h
  refine ⟨h1, h2, h3, fun k hk => ?_, h5⟩
  show SV (upS B.2.2.1 j f k)
  unfold upS
  split
  · exact hf
  · exact h4 k hk
def keepS (N : zN) : Nat → Int32 := fun k => if k = 0 then kof N else if k = 1 then nG N else if k = 2 then nR N else nV N (k - 3)
theorem keepS_n (N : zN) (i : Nat) : keepS N (3 + i) = nV N i := by
  rw [keepS, if_neg (by omega), if_neg (by omega), if_neg (by omega), show 3 + i - 3 = i by omega]
theorem kof_cases (N : zN) : kof N = 0 ∨ kof N = 1 ∨ kof N = 2 ∨ kof N = 3 := by
  unfold kof
  split
  · split <;> simp
  · split <;> simp
theorem kof_nn (N : zN) : 0 ≤ kof N := by
  rcases kof_cases N with e | e | e | e <;> rw [e] <;> decide
def sKeep (s : Int32) (B : zB) : Int32 × zB := if hasP 4 s = 0 then oTell (-1000001) B else oSl (kof B.1) (upS B.2.2.1 s.toNatClampNeg (keepS B.1)) B
theorem c_store_0 (d : Nat) {σ : z_M} {N : zN} (h : netC σ N) (hv : NV N) : ∃ σ', z_call (d + 7) k_Slot_store [.ref 37, .ref 1] σ none σ' ∧ fr [37, 41] σ σ' ∧ σ'.1 37 0 = 1 ∧ σ'.1 37 1 = nR N ∧ σ'.1 37 2 = nG N ∧ σ'.1 37 3 = kof N ∧ ∀ i, i < 10 → σ'.1 41 i = nV N i := by
  refine z_metV ⟨rfl, z_go 60 [] ⟨Or.inr rfl, _, _, c_kindOfFlow d (N := N) ?_ hv, ?_, rfl, ?_, ?_, ?_, ?_, ?_, fun i hi => ?_⟩⟩
  · exact h.fr (by rw [z_wr_ne (by decide), z_wr_ne (by decide), z_wr_ne (by decide)]) (by rw [z_wr_ne (by decide), z_wr_ne (by decide), z_wr_ne (by decide)]) (by rw [z_wr_ne (by decide), z_wr_ne (by decide), z_wr_ne (by decide)]) (by rw [z_wr_ne (by decide), z_wr_ne (by decide), z_wr_ne (by decide)]) (by rw [z_wr_ne (by decide), z_wr_ne (by decide), z_wr_ne (by decide)])
  · (simp (disch := omega) only [nL, nI_add, pk_mul, nc, Nat.zero_add, al_2, al_3, al_4, al_5, al_7, al_11, al_12, al_13, al_15, al_16, al_17, al_19, al_20, al_21, al_22, al_23, al_24, al_25, al_26, al_28, al_30, al_31, al_32, al_33, al_34, al_36, al_41, al_42, al_43, al_44, al_49, al_50, al_51, al_52, al_54, al_55, al_56, al_57, al_58, al_59, al_60, al_61, al_62, al_63, al_64, al_65, al_66, al_67, al_68, al_69, al_70, al_71, al_72, al_73, al_74, al_75, al_76, al_77, al_78, al_79, al_80]; exact ⟨n_nn (by omega), n_nn (by omega), n_nn (by omega), by omega, by omega⟩)
  · (repeat (first | exact fr.rf | refine fr.cp ?_ (by decide) | refine fr.wr ?_ (by decide) | refine fr.wl ?_ (by decide)))
  · simp (disch := omega) only [nL, nI_add, pk_mul, nc, cp_in, cp_lo, cp_hi, cp_ne, wr_s, wr_k, wr_c, wr_e, Nat.zero_add]
  · simp (disch := omega) only [nL, nI_add, pk_mul, nc, cp_in, cp_lo, cp_hi, cp_ne, wr_s, wr_k, wr_c, wr_e, Nat.zero_add]
    exact h.2.1
  · simp (disch := omega) only [nL, nI_add, pk_mul, nc, cp_in, cp_lo, cp_hi, cp_ne, wr_s, wr_k, wr_c, wr_e, Nat.zero_add]
    exact h.2.2.1
  · simp (disch := omega) only [nL, nI_add, pk_mul, nc, cp_in, cp_lo, cp_hi, cp_ne, wr_s, wr_k, wr_c, wr_e, Nat.zero_add]
  · simp (disch := omega) only [nL, nI_add, pk_mul, nc, cp_in, cp_lo, cp_hi, cp_ne, wr_s, wr_k, wr_c, wr_e, Nat.zero_add]
    exact (h.2.2.2 i hi).2.2.2
theorem x_keep_0 (d : Nat) {σ : z_M} {B : zB} (h : RepC σ B) (hv : VB B) : opC (d + 8) k_RF_keep [.ref 0, .int 0] σ (sKeep 0 B) := by
  obtain ⟨σ1, hc, hf, e0, e1, e2, e3, e4⟩ := c_store_0 d h.1 hv.1
  have hs : ¬ hasP 4 0 = 0 := by decide
  refine z_metC ⟨rfl, z_go 60 [] ⟨_, _, c_isSlot (d + 6) σ 0, fun q => orj_0 ⟨rfl, σ1, hc, orj_0 ⟨rfl, ?_⟩⟩, fun q => absurd q hs⟩⟩
  rw [sKeep, if_neg hs, tc_0]
  refine ⟨by rw [show σ1.1 37 3 = _ from e3]; rfl, h.slots (fun c hc => hf.1 c (by simp; omega)) (h.2.2.1.up (j := 0) (f := keepS B.1) (by decide) (fun c _ _ a b => hf.1 c (by simp; omega)) (kof_nn _) e0 e3 e2 e1 ?_) _⟩
  intro i hi
  rw [keepS_n]
  exact e4 i hi
theorem c_store_1 (d : Nat) {σ : z_M} {N : zN} (h : netC σ N) (hv : NV N) : ∃ σ', z_call (d + 7) k_Slot_store [.ref 38, .ref 1] σ none σ' ∧ fr [38, 42] σ σ' ∧ σ'.1 38 0 = 1 ∧ σ'.1 38 1 = nR N ∧ σ'.1 38 2 = nG N ∧ σ'.1 38 3 = kof N ∧ ∀ i, i < 10 → σ'.1 42 i = nV N i := by
  refine z_metV ⟨rfl, z_go 60 [] ⟨Or.inr rfl, _, _, c_kindOfFlow d (N := N) ?_ hv, ?_, rfl, ?_, ?_, ?_, ?_, ?_, fun i hi => ?_⟩⟩
  · exact h.fr (by rw [z_wr_ne (by decide), z_wr_ne (by decide), z_wr_ne (by decide)]) (by rw [z_wr_ne (by decide), z_wr_ne (by decide), z_wr_ne (by decide)]) (by rw [z_wr_ne (by decide), z_wr_ne (by decide), z_wr_ne (by decide)]) (by rw [z_wr_ne (by decide), z_wr_ne (by decide), z_wr_ne (by decide)]) (by rw [z_wr_ne (by decide), z_wr_ne (by decide), z_wr_ne (by decide)])
  · (simp (disch := omega) only [nL, nI_add, pk_mul, nc, Nat.zero_add, al_2, al_3, al_4, al_5, al_7, al_11, al_12, al_13, al_15, al_16, al_17, al_19, al_20, al_21, al_22, al_23, al_24, al_25, al_26, al_28, al_30, al_31, al_32, al_33, al_34, al_36, al_41, al_42, al_43, al_44, al_49, al_50, al_51, al_52, al_54, al_55, al_56, al_57, al_58, al_59, al_60, al_61, al_62, al_63, al_64, al_65, al_66, al_67, al_68, al_69, al_70, al_71, al_72, al_73, al_74, al_75, al_76, al_77, al_78, al_79, al_80]; exact ⟨n_nn (by omega), n_nn (by omega), n_nn (by omega), by omega, by omega⟩)
  · (repeat (first | exact fr.rf | refine fr.cp ?_ (by decide) | refine fr.wr ?_ (by decide) | refine fr.wl ?_ (by decide)))
  · simp (disch := omega) only [nL, nI_add, pk_mul, nc, cp_in, cp_lo, cp_hi, cp_ne, wr_s, wr_k, wr_c, wr_e, Nat.zero_add]
  · simp (disch := omega) only [nL, nI_add, pk_mul, nc, cp_in, cp_lo, cp_hi, cp_ne, wr_s, wr_k, wr_c, wr_e, Nat.zero_add]
    exact h.2.1
  · simp (disch := omega) only [nL, nI_add, pk_mul, nc, cp_in, cp_lo, cp_hi, cp_ne, wr_s, wr_k, wr_c, wr_e, Nat.zero_add]
    exact h.2.2.1
  · simp (disch := omega) only [nL, nI_add, pk_mul, nc, cp_in, cp_lo, cp_hi, cp_ne, wr_s, wr_k, wr_c, wr_e, Nat.zero_add]
  · simp (disch := omega) only [nL, nI_add, pk_mul, nc, cp_in, cp_lo, cp_hi, cp_ne, wr_s, wr_k, wr_c, wr_e, Nat.zero_add]
    exact (h.2.2.2 i hi).2.2.2
theorem x_keep_1 (d : Nat) {σ : z_M} {B : zB} (h : RepC σ B) (hv : VB B) : opC (d + 8) k_RF_keep [.ref 0, .int 1] σ (sKeep 1 B) := by
  obtain ⟨σ1, hc, hf, e0, e1, e2, e3, e4⟩ := c_store_1 d h.1 hv.1
  have hs : ¬ hasP 4 1 = 0 := by decide
  refine z_metC ⟨rfl, z_go 60 [] ⟨_, _, c_isSlot (d + 6) σ 1, fun q => orj_1 ⟨rfl, σ1, hc, orj_1 ⟨rfl, ?_⟩⟩, fun q => absurd q hs⟩⟩
  rw [sKeep, if_neg hs, tc_1]
  refine ⟨by rw [show σ1.1 38 3 = _ from e3]; rfl, h.slots (fun c hc => hf.1 c (by simp; omega)) (h.2.2.1.up (j := 1) (f := keepS B.1) (by decide) (fun c _ _ a b => hf.1 c (by simp; omega)) (kof_nn _) e0 e3 e2 e1 ?_) _⟩
  intro i hi
  rw [keepS_n]
  exact e4 i hi
theorem c_store_2 (d : Nat) {σ : z_M} {N : zN} (h : netC σ N) (hv : NV N) : ∃ σ', z_call (d + 7) k_Slot_store [.ref 39, .ref 1] σ none σ' ∧ fr [39, 43] σ σ' ∧ σ'.1 39 0 = 1 ∧ σ'.1 39 1 = nR N ∧ σ'.1 39 2 = nG N ∧ σ'.1 39 3 = kof N ∧ ∀ i, i < 10 → σ'.1 43 i = nV N i := by
  refine z_metV ⟨rfl, z_go 60 [] ⟨Or.inr rfl, _, _, c_kindOfFlow d (N := N) ?_ hv, ?_, rfl, ?_, ?_, ?_, ?_, ?_, fun i hi => ?_⟩⟩
  · exact h.fr (by rw [z_wr_ne (by decide), z_wr_ne (by decide), z_wr_ne (by decide)]) (by rw [z_wr_ne (by decide), z_wr_ne (by decide), z_wr_ne (by decide)]) (by rw [z_wr_ne (by decide), z_wr_ne (by decide), z_wr_ne (by decide)]) (by rw [z_wr_ne (by decide), z_wr_ne (by decide), z_wr_ne (by decide)]) (by rw [z_wr_ne (by decide), z_wr_ne (by decide), z_wr_ne (by decide)])
  · (simp (disch := omega) only [nL, nI_add, pk_mul, nc, Nat.zero_add, al_2, al_3, al_4, al_5, al_7, al_11, al_12, al_13, al_15, al_16, al_17, al_19, al_20, al_21, al_22, al_23, al_24, al_25, al_26, al_28, al_30, al_31, al_32, al_33, al_34, al_36, al_41, al_42, al_43, al_44, al_49, al_50, al_51, al_52, al_54, al_55, al_56, al_57, al_58, al_59, al_60, al_61, al_62, al_63, al_64, al_65, al_66, al_67, al_68, al_69, al_70, al_71, al_72, al_73, al_74, al_75, al_76, al_77, al_78, al_79, al_80]; exact ⟨n_nn (by omega), n_nn (by omega), n_nn (by omega), by omega, by omega⟩)
  · (repeat (first | exact fr.rf | refine fr.cp ?_ (by decide) | refine fr.wr ?_ (by decide) | refine fr.wl ?_ (by decide)))
  · simp (disch := omega) only [nL, nI_add, pk_mul, nc, cp_in, cp_lo, cp_hi, cp_ne, wr_s, wr_k, wr_c, wr_e, Nat.zero_add]
  · simp (disch := omega) only [nL, nI_add, pk_mul, nc, cp_in, cp_lo, cp_hi, cp_ne, wr_s, wr_k, wr_c, wr_e, Nat.zero_add]
    exact h.2.1
  · simp (disch := omega) only [nL, nI_add, pk_mul, nc, cp_in, cp_lo, cp_hi, cp_ne, wr_s, wr_k, wr_c, wr_e, Nat.zero_add]
    exact h.2.2.1
  · simp (disch := omega) only [nL, nI_add, pk_mul, nc, cp_in, cp_lo, cp_hi, cp_ne, wr_s, wr_k, wr_c, wr_e, Nat.zero_add]
  · simp (disch := omega) only [nL, nI_add, pk_mul, nc, cp_in, cp_lo, cp_hi, cp_ne, wr_s, wr_k, wr_c, wr_e, Nat.zero_add]
    exact (h.2.2.2 i hi).2.2.2
theorem x_keep_2 (d : Nat) {σ : z_M} {B : zB} (h : RepC σ B) (hv : VB B) : opC (d + 8) k_RF_keep [.ref 0, .int 2] σ (sKeep 2 B) := by
  obtain ⟨σ1, hc, hf, e0, e1, e2, e3, e4⟩ := c_store_2 d h.1 hv.1
  have hs : ¬ hasP 4 2 = 0 := by decide
  refine z_metC ⟨rfl, z_go 60 [] ⟨_, _, c_isSlot (d + 6) σ 2, fun q => orj_2 ⟨rfl, σ1, hc, orj_2 ⟨rfl, ?_⟩⟩, fun q => absurd q hs⟩⟩
  rw [sKeep, if_neg hs, tc_2]
  refine ⟨by rw [show σ1.1 39 3 = _ from e3]; rfl, h.slots (fun c hc => hf.1 c (by simp; omega)) (h.2.2.1.up (j := 2) (f := keepS B.1) (by decide) (fun c _ _ a b => hf.1 c (by simp; omega)) (kof_nn _) e0 e3 e2 e1 ?_) _⟩
  intro i hi
  rw [keepS_n]
  exact e4 i hi
theorem c_store_3 (d : Nat) {σ : z_M} {N : zN} (h : netC σ N) (hv : NV N) : ∃ σ', z_call (d + 7) k_Slot_store [.ref 40, .ref 1] σ none σ' ∧ fr [40, 44] σ σ' ∧ σ'.1 40 0 = 1 ∧ σ'.1 40 1 = nR N ∧ σ'.1 40 2 = nG N ∧ σ'.1 40 3 = kof N ∧ ∀ i, i < 10 → σ'.1 44 i = nV N i := by
  refine z_metV ⟨rfl, z_go 60 [] ⟨Or.inr rfl, _, _, c_kindOfFlow d (N := N) ?_ hv, ?_, rfl, ?_, ?_, ?_, ?_, ?_, fun i hi => ?_⟩⟩
  · exact h.fr (by rw [z_wr_ne (by decide), z_wr_ne (by decide), z_wr_ne (by decide)]) (by rw [z_wr_ne (by decide), z_wr_ne (by decide), z_wr_ne (by decide)]) (by rw [z_wr_ne (by decide), z_wr_ne (by decide), z_wr_ne (by decide)]) (by rw [z_wr_ne (by decide), z_wr_ne (by decide), z_wr_ne (by decide)]) (by rw [z_wr_ne (by decide), z_wr_ne (by decide), z_wr_ne (by decide)])
  · (simp (disch := omega) only [nL, nI_add, pk_mul, nc, Nat.zero_add, al_2, al_3, al_4, al_5, al_7, al_11, al_12, al_13, al_15, al_16, al_17, al_19, al_20, al_21, al_22, al_23, al_24, al_25, al_26, al_28, al_30, al_31, al_32, al_33, al_34, al_36, al_41, al_42, al_43, al_44, al_49, al_50, al_51, al_52, al_54, al_55, al_56, al_57, al_58, al_59, al_60, al_61, al_62, al_63, al_64, al_65, al_66, al_67, al_68, al_69, al_70, al_71, al_72, al_73, al_74, al_75, al_76, al_77, al_78, al_79, al_80]; exact ⟨n_nn (by omega), n_nn (by omega), n_nn (by omega), by omega, by omega⟩)
  · (repeat (first | exact fr.rf | refine fr.cp ?_ (by decide) | refine fr.wr ?_ (by decide) | refine fr.wl ?_ (by decide)))
  · simp (disch := omega) only [nL, nI_add, pk_mul, nc, cp_in, cp_lo, cp_hi, cp_ne, wr_s, wr_k, wr_c, wr_e, Nat.zero_add]
  · simp (disch := omega) only [nL, nI_add, pk_mul, nc, cp_in, cp_lo, cp_hi, cp_ne, wr_s, wr_k, wr_c, wr_e, Nat.zero_add]
    exact h.2.1
  · simp (disch := omega) only [nL, nI_add, pk_mul, nc, cp_in, cp_lo, cp_hi, cp_ne, wr_s, wr_k, wr_c, wr_e, Nat.zero_add]
    exact h.2.2.1
  · simp (disch := omega) only [nL, nI_add, pk_mul, nc, cp_in, cp_lo, cp_hi, cp_ne, wr_s, wr_k, wr_c, wr_e, Nat.zero_add]
  · simp (disch := omega) only [nL, nI_add, pk_mul, nc, cp_in, cp_lo, cp_hi, cp_ne, wr_s, wr_k, wr_c, wr_e, Nat.zero_add]
    exact (h.2.2.2 i hi).2.2.2
theorem x_keep_3 (d : Nat) {σ : z_M} {B : zB} (h : RepC σ B) (hv : VB B) : opC (d + 8) k_RF_keep [.ref 0, .int 3] σ (sKeep 3 B) := by
  obtain ⟨σ1, hc, hf, e0, e1, e2, e3, e4⟩ := c_store_3 d h.1 hv.1
  have hs : ¬ hasP 4 3 = 0 := by decide
  refine z_metC ⟨rfl, z_go 60 [] ⟨_, _, c_isSlot (d + 6) σ 3, fun q => orj_3 ⟨rfl, σ1, hc, orj_3 ⟨rfl, ?_⟩⟩, fun q => absurd q hs⟩⟩
  rw [sKeep, if_neg hs, tc_3]
  refine ⟨by rw [show σ1.1 40 3 = _ from e3]; rfl, h.slots (fun c hc => hf.1 c (by simp; omega)) (h.2.2.1.up (j := 3) (f := keepS B.1) (by decide) (fun c _ _ a b => hf.1 c (by simp; omega)) (kof_nn _) e0 e3 e2 e1 ?_) _⟩
  intro i hi
  rw [keepS_n]
  exact e4 i hi
theorem x_keep (d : Nat) {σ : z_M} {B : zB} (h : RepC σ B) (hv : VB B) (s : Int32) : opC (d + 8) k_RF_keep [.ref 0, .int s] σ (sKeep s B) := by
  by_cases hs : hasP 4 s = 0
  · obtain ⟨σt, ht, hRt, hkt⟩ := c_tell (d + 6) h (-1000001)
    refine z_metC ⟨rfl, z_go 20 [] ⟨_, _, c_isSlot (d + 6) σ s, fun q => absurd hs q, fun q => ?_⟩⟩
    rw [sKeep, if_pos hs]
    exact ⟨_, σt, ht, rfl, hRt, hkt⟩
  · obtain ⟨j, hj, rfl⟩ := hasP_ne (n := 4) (by omega) hs
    exact four_cases (P := fun j => opC (d + 8) k_RF_keep [.ref 0, .int (nI j)] σ (sKeep (nI j) B)) (x_keep_0 d h hv) (x_keep_1 d h hv) (x_keep_2 d h hv) (x_keep_3 d h hv) hj
theorem y_keep (d : Nat) {σ : z_M} {B : zB} (h : RepD σ B) (hv : VB B) (s : Int32) : opD (d + 8) k_Md_keep [.ref 53, .int s] σ (sKeep s B) := by
  refine z_metD ⟨rfl, z_go 60 [36] ⟨_, _, c_misSlot (d + 6) σ s, fun hs => ?_, fun hs => ?_⟩⟩
  · obtain ⟨P, R, G, eP, hP, eR, hR, eG, hG, hrest⟩ := id hv.1
    obtain ⟨h1, h2, h3, h4, h5⟩ := id h
    rw [sKeep, if_neg hs]
    obtain ⟨j, hj, rfl⟩ := hasP_ne (n := 4) (by omega) hs
    rw [nc (by omega)]
    have loop : ∀ (n i : Nat) (σi : z_M), i + n = R → fr [60, 61, 62] σ σi → (∀ k, k ≠ j → σi.1 60 k = σ.1 60 k ∧ σi.1 61 k = σ.1 61 k) → σi.1 60 j = nG B.1 → σi.1 61 j = nR B.1 → (∀ k, k < 10 * j ∨ 10 * j + 10 ≤ k → σi.1 62 k = σ.1 62 k) → (∀ k, k < i → σi.1 62 (10 * j + k) = nV B.1 k) →
        z_wp (z_call (d + 7)) none k_Md_keep (pD σ (oSl (kof B.1) (upS B.2.2.1 j (keepS B.1)) B)) 36 [some (.ref 53), some (.int (nI j)), some (.int (nI i))] [] σi := by
      intro n
      induction n with
      | zero =>
        intro i σi hi hf k1 k2 k3 k4 k5
        obtain rfl : i = R := by omega
        have hN : netD σi B.1 := h1.fr (hf.at (by decide) _) (hf.at (by decide) _) (hf.at (by decide) _) (hf.1 54 (by decide)) (hf.1 55 (by decide)) (hf.1 56 (by decide)) (hf.1 57 (by decide))
        have fin : RepD (z_wr σi 59 j (kof B.1)) (oSl (kof B.1) (upS B.2.2.1 j (keepS B.1)) B).2 ∧ kD σ (z_wr σi 59 j (kof B.1)) := by
          refine RepD.slots (σ' := z_wr σi 59 j (kof B.1)) h (fun c hc => by rw [z_wr_ne (by omega)]; exact hf.1 c (by simp; omega)) (hf.2 (by decide)) (slD.up (σ' := z_wr σi 59 j (kof B.1)) (f := keepS B.1) h3 hj (fun c a b k hk => ?_) (fun k hk => by rw [wr_c (by decide)]; exact k4 k hk) (by rw [wr_s]; rfl) (by rw [wr_c (by decide)]; exact k2) (by rw [wr_c (by decide)]; exact k3) (fun k hk hk2 => ?_)) _
          · rcases (show c = 59 ∨ c = 60 ∨ c = 61 by omega) with e | e | e <;> subst e
            · rw [wr_k hk, hf.at (by decide)]
            · rw [wr_c (by decide)]; exact (k1 k hk).1
            · rw [wr_c (by decide)]; exact (k1 k hk).2
          · rw [keepS_n, wr_c (by decide)]
            have hk2 : nI k < nR B.1 := hk2
            rw [eR, n_lt (by omega) (by omega)] at hk2
            exact k5 k hk2
        have e2 : σi.1 53 2 = nI G := by rw [hN.2.2.1, eG]
        have done : ∀ v : Int32, v = kof B.1 → pD σ (oSl (kof B.1) (upS B.2.2.1 j (keepS B.1)) B) (some (.int ((z_wr σi 59 j v).1 59 j))) (z_wr σi 59 j v) := by
          rintro v rfl
          exact ⟨by rw [wr_s]; rfl, fin⟩
        refine z_go 60 [36] ⟨fun q => ⟨fun q2 => ⟨fun q3 => ⟨_, _, c_mwhole (d + 1) hN hv.1, fun q4 => ⟨by (first | exact vin (by simp only [al_2, al_3, al_4, al_5, al_7, al_11, al_12, al_13, al_15, al_16, al_17, al_19, al_20, al_21, al_22, al_23, al_24, al_25, al_26, al_28, al_30, al_31, al_32, al_33, al_34, al_36, al_41, al_42, al_43, al_44, al_49, al_50, al_51, al_52, al_54, al_55, al_56, al_57, al_58, al_59, al_60, al_61, al_62, al_63, al_64, al_65, al_66, al_67, al_68, al_69, al_70, al_71, al_72, al_73, al_74, al_75, al_76, al_77, al_78, al_79, al_80]; omega) (by simp only [al_2, al_3, al_4, al_5, al_7, al_11, al_12, al_13, al_15, al_16, al_17, al_19, al_20, al_21, al_22, al_23, al_24, al_25, al_26, al_28, al_30, al_31, al_32, al_33, al_34, al_36, al_41, al_42, al_43, al_44, al_49, al_50, al_51, al_52, al_54, al_55, al_56, al_57, al_58, al_59, al_60, al_61, al_62, al_63, al_64, al_65, al_66, al_67, al_68, al_69, al_70, al_71, al_72, al_73, al_74, al_75, al_76, al_77, al_78, al_79, al_80]; decide) | (simp (disch := omega) only [nL, nI_add, pk_mul, nc, Nat.zero_add, al_2, al_3, al_4, al_5, al_7, al_11, al_12, al_13, al_15, al_16, al_17, al_19, al_20, al_21, al_22, al_23, al_24, al_25, al_26, al_28, al_30, al_31, al_32, al_33, al_34, al_36, al_41, al_42, al_43, al_44, al_49, al_50, al_51, al_52, al_54, al_55, al_56, al_57, al_58, al_59, al_60, al_61, al_62, al_63, al_64, al_65, al_66, al_67, al_68, al_69, al_70, al_71, al_72, al_73, al_74, al_75, al_76, al_77, al_78, al_79, al_80]; exact vin (by omega) (by decide))), by (first | exact vin (by simp only [al_2, al_3, al_4, al_5, al_7, al_11, al_12, al_13, al_15, al_16, al_17, al_19, al_20, al_21, al_22, al_23, al_24, al_25, al_26, al_28, al_30, al_31, al_32, al_33, al_34, al_36, al_41, al_42, al_43, al_44, al_49, al_50, al_51, al_52, al_54, al_55, al_56, al_57, al_58, al_59, al_60, al_61, al_62, al_63, al_64, al_65, al_66, al_67, al_68, al_69, al_70, al_71, al_72, al_73, al_74, al_75, al_76, al_77, al_78, al_79, al_80]; omega) (by simp only [al_2, al_3, al_4, al_5, al_7, al_11, al_12, al_13, al_15, al_16, al_17, al_19, al_20, al_21, al_22, al_23, al_24, al_25, al_26, al_28, al_30, al_31, al_32, al_33, al_34, al_36, al_41, al_42, al_43, al_44, al_49, al_50, al_51, al_52, al_54, al_55, al_56, al_57, al_58, al_59, al_60, al_61, al_62, al_63, al_64, al_65, al_66, al_67, al_68, al_69, al_70, al_71, al_72, al_73, al_74, al_75, al_76, al_77, al_78, al_79, al_80]; decide) | (simp (disch := omega) only [nL, nI_add, pk_mul, nc, Nat.zero_add, al_2, al_3, al_4, al_5, al_7, al_11, al_12, al_13, al_15, al_16, al_17, al_19, al_20, al_21, al_22, al_23, al_24, al_25, al_26, al_28, al_30, al_31, al_32, al_33, al_34, al_36, al_41, al_42, al_43, al_44, al_49, al_50, al_51, al_52, al_54, al_55, al_56, al_57, al_58, al_59, al_60, al_61, al_62, al_63, al_64, al_65, al_66, al_67, al_68, al_69, al_70, al_71, al_72, al_73, al_74, al_75, al_76, al_77, al_78, al_79, al_80]; exact vin (by omega) (by decide))), ?_⟩, fun q4 => ⟨by (first | exact vin (by simp only [al_2, al_3, al_4, al_5, al_7, al_11, al_12, al_13, al_15, al_16, al_17, al_19, al_20, al_21, al_22, al_23, al_24, al_25, al_26, al_28, al_30, al_31, al_32, al_33, al_34, al_36, al_41, al_42, al_43, al_44, al_49, al_50, al_51, al_52, al_54, al_55, al_56, al_57, al_58, al_59, al_60, al_61, al_62, al_63, al_64, al_65, al_66, al_67, al_68, al_69, al_70, al_71, al_72, al_73, al_74, al_75, al_76, al_77, al_78, al_79, al_80]; omega) (by simp only [al_2, al_3, al_4, al_5, al_7, al_11, al_12, al_13, al_15, al_16, al_17, al_19, al_20, al_21, al_22, al_23, al_24, al_25, al_26, al_28, al_30, al_31, al_32, al_33, al_34, al_36, al_41, al_42, al_43, al_44, al_49, al_50, al_51, al_52, al_54, al_55, al_56, al_57, al_58, al_59, al_60, al_61, al_62, al_63, al_64, al_65, al_66, al_67, al_68, al_69, al_70, al_71, al_72, al_73, al_74, al_75, al_76, al_77, al_78, al_79, al_80]; decide) | (simp (disch := omega) only [nL, nI_add, pk_mul, nc, Nat.zero_add, al_2, al_3, al_4, al_5, al_7, al_11, al_12, al_13, al_15, al_16, al_17, al_19, al_20, al_21, al_22, al_23, al_24, al_25, al_26, al_28, al_30, al_31, al_32, al_33, al_34, al_36, al_41, al_42, al_43, al_44, al_49, al_50, al_51, al_52, al_54, al_55, al_56, al_57, al_58, al_59, al_60, al_61, al_62, al_63, al_64, al_65, al_66, al_67, al_68, al_69, al_70, al_71, al_72, al_73, al_74, al_75, al_76, al_77, al_78, al_79, al_80]; exact vin (by omega) (by decide))), by (first | exact vin (by simp only [al_2, al_3, al_4, al_5, al_7, al_11, al_12, al_13, al_15, al_16, al_17, al_19, al_20, al_21, al_22, al_23, al_24, al_25, al_26, al_28, al_30, al_31, al_32, al_33, al_34, al_36, al_41, al_42, al_43, al_44, al_49, al_50, al_51, al_52, al_54, al_55, al_56, al_57, al_58, al_59, al_60, al_61, al_62, al_63, al_64, al_65, al_66, al_67, al_68, al_69, al_70, al_71, al_72, al_73, al_74, al_75, al_76, al_77, al_78, al_79, al_80]; omega) (by simp only [al_2, al_3, al_4, al_5, al_7, al_11, al_12, al_13, al_15, al_16, al_17, al_19, al_20, al_21, al_22, al_23, al_24, al_25, al_26, al_28, al_30, al_31, al_32, al_33, al_34, al_36, al_41, al_42, al_43, al_44, al_49, al_50, al_51, al_52, al_54, al_55, al_56, al_57, al_58, al_59, al_60, al_61, al_62, al_63, al_64, al_65, al_66, al_67, al_68, al_69, al_70, al_71, al_72, al_73, al_74, al_75, al_76, al_77, al_78, al_79, al_80]; decide) | (simp (disch := omega) only [nL, nI_add, pk_mul, nc, Nat.zero_add, al_2, al_3, al_4, al_5, al_7, al_11, al_12, al_13, al_15, al_16, al_17, al_19, al_20, al_21, al_22, al_23, al_24, al_25, al_26, al_28, al_30, al_31, al_32, al_33, al_34, al_36, al_41, al_42, al_43, al_44, al_49, al_50, al_51, al_52, al_54, al_55, al_56, al_57, al_58, al_59, al_60, al_61, al_62, al_63, al_64, al_65, al_66, al_67, al_68, al_69, al_70, al_71, al_72, al_73, al_74, al_75, al_76, al_77, al_78, al_79, al_80]; exact vin (by omega) (by decide))), ?_⟩⟩, fun q3 => ⟨by (first | exact vin (by simp only [al_2, al_3, al_4, al_5, al_7, al_11, al_12, al_13, al_15, al_16, al_17, al_19, al_20, al_21, al_22, al_23, al_24, al_25, al_26, al_28, al_30, al_31, al_32, al_33, al_34, al_36, al_41, al_42, al_43, al_44, al_49, al_50, al_51, al_52, al_54, al_55, al_56, al_57, al_58, al_59, al_60, al_61, al_62, al_63, al_64, al_65, al_66, al_67, al_68, al_69, al_70, al_71, al_72, al_73, al_74, al_75, al_76, al_77, al_78, al_79, al_80]; omega) (by simp only [al_2, al_3, al_4, al_5, al_7, al_11, al_12, al_13, al_15, al_16, al_17, al_19, al_20, al_21, al_22, al_23, al_24, al_25, al_26, al_28, al_30, al_31, al_32, al_33, al_34, al_36, al_41, al_42, al_43, al_44, al_49, al_50, al_51, al_52, al_54, al_55, al_56, al_57, al_58, al_59, al_60, al_61, al_62, al_63, al_64, al_65, al_66, al_67, al_68, al_69, al_70, al_71, al_72, al_73, al_74, al_75, al_76, al_77, al_78, al_79, al_80]; decide) | (simp (disch := omega) only [nL, nI_add, pk_mul, nc, Nat.zero_add, al_2, al_3, al_4, al_5, al_7, al_11, al_12, al_13, al_15, al_16, al_17, al_19, al_20, al_21, al_22, al_23, al_24, al_25, al_26, al_28, al_30, al_31, al_32, al_33, al_34, al_36, al_41, al_42, al_43, al_44, al_49, al_50, al_51, al_52, al_54, al_55, al_56, al_57, al_58, al_59, al_60, al_61, al_62, al_63, al_64, al_65, al_66, al_67, al_68, al_69, al_70, al_71, al_72, al_73, al_74, al_75, al_76, al_77, al_78, al_79, al_80]; exact vin (by omega) (by decide))), by (first | exact vin (by simp only [al_2, al_3, al_4, al_5, al_7, al_11, al_12, al_13, al_15, al_16, al_17, al_19, al_20, al_21, al_22, al_23, al_24, al_25, al_26, al_28, al_30, al_31, al_32, al_33, al_34, al_36, al_41, al_42, al_43, al_44, al_49, al_50, al_51, al_52, al_54, al_55, al_56, al_57, al_58, al_59, al_60, al_61, al_62, al_63, al_64, al_65, al_66, al_67, al_68, al_69, al_70, al_71, al_72, al_73, al_74, al_75, al_76, al_77, al_78, al_79, al_80]; omega) (by simp only [al_2, al_3, al_4, al_5, al_7, al_11, al_12, al_13, al_15, al_16, al_17, al_19, al_20, al_21, al_22, al_23, al_24, al_25, al_26, al_28, al_30, al_31, al_32, al_33, al_34, al_36, al_41, al_42, al_43, al_44, al_49, al_50, al_51, al_52, al_54, al_55, al_56, al_57, al_58, al_59, al_60, al_61, al_62, al_63, al_64, al_65, al_66, al_67, al_68, al_69, al_70, al_71, al_72, al_73, al_74, al_75, al_76, al_77, al_78, al_79, al_80]; decide) | (simp (disch := omega) only [nL, nI_add, pk_mul, nc, Nat.zero_add, al_2, al_3, al_4, al_5, al_7, al_11, al_12, al_13, al_15, al_16, al_17, al_19, al_20, al_21, al_22, al_23, al_24, al_25, al_26, al_28, al_30, al_31, al_32, al_33, al_34, al_36, al_41, al_42, al_43, al_44, al_49, al_50, al_51, al_52, al_54, al_55, al_56, al_57, al_58, al_59, al_60, al_61, al_62, al_63, al_64, al_65, al_66, al_67, al_68, al_69, al_70, al_71, al_72, al_73, al_74, al_75, al_76, al_77, al_78, al_79, al_80]; exact vin (by omega) (by decide))), ?_⟩⟩, fun q2 => ⟨by (first | exact vin (by simp only [al_2, al_3, al_4, al_5, al_7, al_11, al_12, al_13, al_15, al_16, al_17, al_19, al_20, al_21, al_22, al_23, al_24, al_25, al_26, al_28, al_30, al_31, al_32, al_33, al_34, al_36, al_41, al_42, al_43, al_44, al_49, al_50, al_51, al_52, al_54, al_55, al_56, al_57, al_58, al_59, al_60, al_61, al_62, al_63, al_64, al_65, al_66, al_67, al_68, al_69, al_70, al_71, al_72, al_73, al_74, al_75, al_76, al_77, al_78, al_79, al_80]; omega) (by simp only [al_2, al_3, al_4, al_5, al_7, al_11, al_12, al_13, al_15, al_16, al_17, al_19, al_20, al_21, al_22, al_23, al_24, al_25, al_26, al_28, al_30, al_31, al_32, al_33, al_34, al_36, al_41, al_42, al_43, al_44, al_49, al_50, al_51, al_52, al_54, al_55, al_56, al_57, al_58, al_59, al_60, al_61, al_62, al_63, al_64, al_65, al_66, al_67, al_68, al_69, al_70, al_71, al_72, al_73, al_74, al_75, al_76, al_77, al_78, al_79, al_80]; decide) | (simp (disch := omega) only [nL, nI_add, pk_mul, nc, Nat.zero_add, al_2, al_3, al_4, al_5, al_7, al_11, al_12, al_13, al_15, al_16, al_17, al_19, al_20, al_21, al_22, al_23, al_24, al_25, al_26, al_28, al_30, al_31, al_32, al_33, al_34, al_36, al_41, al_42, al_43, al_44, al_49, al_50, al_51, al_52, al_54, al_55, al_56, al_57, al_58, al_59, al_60, al_61, al_62, al_63, al_64, al_65, al_66, al_67, al_68, al_69, al_70, al_71, al_72, al_73, al_74, al_75, al_76, al_77, al_78, al_79, al_80]; exact vin (by omega) (by decide))), by (first | exact vin (by simp only [al_2, al_3, al_4, al_5, al_7, al_11, al_12, al_13, al_15, al_16, al_17, al_19, al_20, al_21, al_22, al_23, al_24, al_25, al_26, al_28, al_30, al_31, al_32, al_33, al_34, al_36, al_41, al_42, al_43, al_44, al_49, al_50, al_51, al_52, al_54, al_55, al_56, al_57, al_58, al_59, al_60, al_61, al_62, al_63, al_64, al_65, al_66, al_67, al_68, al_69, al_70, al_71, al_72, al_73, al_74, al_75, al_76, al_77, al_78, al_79, al_80]; omega) (by simp only [al_2, al_3, al_4, al_5, al_7, al_11, al_12, al_13, al_15, al_16, al_17, al_19, al_20, al_21, al_22, al_23, al_24, al_25, al_26, al_28, al_30, al_31, al_32, al_33, al_34, al_36, al_41, al_42, al_43, al_44, al_49, al_50, al_51, al_52, al_54, al_55, al_56, al_57, al_58, al_59, al_60, al_61, al_62, al_63, al_64, al_65, al_66, al_67, al_68, al_69, al_70, al_71, al_72, al_73, al_74, al_75, al_76, al_77, al_78, al_79, al_80]; decide) | (simp (disch := omega) only [nL, nI_add, pk_mul, nc, Nat.zero_add, al_2, al_3, al_4, al_5, al_7, al_11, al_12, al_13, al_15, al_16, al_17, al_19, al_20, al_21, al_22, al_23, al_24, al_25, al_26, al_28, al_30, al_31, al_32, al_33, al_34, al_36, al_41, al_42, al_43, al_44, al_49, al_50, al_51, al_52, al_54, al_55, al_56, al_57, al_58, al_59, al_60, al_61, al_62, al_63, al_64, al_65, al_66, al_67, al_68, al_69, al_70, al_71, al_72, al_73, al_74, al_75, al_76, al_77, al_78, al_79, al_80]; exact vin (by omega) (by decide))), ?_⟩⟩, fun q => ?_⟩
        · rw [e2] at q2 q3
          simp (disch := omega) only [nL, nI_add, pk_mul, n_le, n_lt, n_eq] at q2 q3
          obtain rfl : G = 0 := by omega
          rw [nc (by omega)]
          refine done _ ?_
          rw [kof, eG, if_pos (show nI 0 = 0 from rfl)]
          rcases wh_01 B.1 with e | e
          · rw [if_pos e]
          · exact absurd e q4
        · rw [e2] at q2 q3
          simp (disch := omega) only [nL, nI_add, pk_mul, n_le, n_lt, n_eq] at q2 q3
          obtain rfl : G = 0 := by omega
          rw [nc (by omega)]
          refine done _ ?_
          rw [kof, eG, if_pos (show nI 0 = 0 from rfl)]
          rw [if_neg (by rw [q4]; decide)]
        · rw [e2] at q2 q3
          simp (disch := omega) only [nL, nI_add, pk_mul, n_le, n_lt, n_eq] at q2 q3
          rw [nc (by omega)]
          refine done _ ?_
          rw [kof, eG, if_neg (by simp (disch := omega) only [nL, nI_add, pk_mul, n_le, n_lt, n_eq]; omega), if_neg (by simp (disch := omega) only [nL, nI_add, pk_mul, n_le, n_lt, n_eq]; exact q2)]
        · rw [e2] at q2
          simp (disch := omega) only [nL, nI_add, pk_mul, n_le, n_lt, n_eq] at q2
          rw [nc (by omega)]
          refine done _ ?_
          obtain rfl : G = 2 := by omega
          rw [kof, eG]
          rfl
        · rw [hN.2.1, eR] at q
          exact absurd (Int32.le_refl _) q
      | succ n ih =>
        intro i σi hi hf k1 k2 k3 k4 k5
        have e1 : σi.1 53 1 = nI R := by rw [hf.at (by decide), h1.2.1, eR]
        refine z_go 60 [36] ⟨fun q => ?_, fun q => ⟨by (first | exact vin (by simp only [al_2, al_3, al_4, al_5, al_7, al_11, al_12, al_13, al_15, al_16, al_17, al_19, al_20, al_21, al_22, al_23, al_24, al_25, al_26, al_28, al_30, al_31, al_32, al_33, al_34, al_36, al_41, al_42, al_43, al_44, al_49, al_50, al_51, al_52, al_54, al_55, al_56, al_57, al_58, al_59, al_60, al_61, al_62, al_63, al_64, al_65, al_66, al_67, al_68, al_69, al_70, al_71, al_72, al_73, al_74, al_75, al_76, al_77, al_78, al_79, al_80]; omega) (by simp only [al_2, al_3, al_4, al_5, al_7, al_11, al_12, al_13, al_15, al_16, al_17, al_19, al_20, al_21, al_22, al_23, al_24, al_25, al_26, al_28, al_30, al_31, al_32, al_33, al_34, al_36, al_41, al_42, al_43, al_44, al_49, al_50, al_51, al_52, al_54, al_55, al_56, al_57, al_58, al_59, al_60, al_61, al_62, al_63, al_64, al_65, al_66, al_67, al_68, al_69, al_70, al_71, al_72, al_73, al_74, al_75, al_76, al_77, al_78, al_79, al_80]; decide) | (simp (disch := omega) only [nL, nI_add, pk_mul, nc, Nat.zero_add, al_2, al_3, al_4, al_5, al_7, al_11, al_12, al_13, al_15, al_16, al_17, al_19, al_20, al_21, al_22, al_23, al_24, al_25, al_26, al_28, al_30, al_31, al_32, al_33, al_34, al_36, al_41, al_42, al_43, al_44, al_49, al_50, al_51, al_52, al_54, al_55, al_56, al_57, al_58, al_59, al_60, al_61, al_62, al_63, al_64, al_65, al_66, al_67, al_68, al_69, al_70, al_71, al_72, al_73, al_74, al_75, al_76, al_77, al_78, al_79, al_80]; exact vin (by omega) (by decide))), by (first | exact vin (by simp only [al_2, al_3, al_4, al_5, al_7, al_11, al_12, al_13, al_15, al_16, al_17, al_19, al_20, al_21, al_22, al_23, al_24, al_25, al_26, al_28, al_30, al_31, al_32, al_33, al_34, al_36, al_41, al_42, al_43, al_44, al_49, al_50, al_51, al_52, al_54, al_55, al_56, al_57, al_58, al_59, al_60, al_61, al_62, al_63, al_64, al_65, al_66, al_67, al_68, al_69, al_70, al_71, al_72, al_73, al_74, al_75, al_76, al_77, al_78, al_79, al_80]; omega) (by simp only [al_2, al_3, al_4, al_5, al_7, al_11, al_12, al_13, al_15, al_16, al_17, al_19, al_20, al_21, al_22, al_23, al_24, al_25, al_26, al_28, al_30, al_31, al_32, al_33, al_34, al_36, al_41, al_42, al_43, al_44, al_49, al_50, al_51, al_52, al_54, al_55, al_56, al_57, al_58, al_59, al_60, al_61, al_62, al_63, al_64, al_65, al_66, al_67, al_68, al_69, al_70, al_71, al_72, al_73, al_74, al_75, al_76, al_77, al_78, al_79, al_80]; decide) | (simp (disch := omega) only [nL, nI_add, pk_mul, nc, Nat.zero_add, al_2, al_3, al_4, al_5, al_7, al_11, al_12, al_13, al_15, al_16, al_17, al_19, al_20, al_21, al_22, al_23, al_24, al_25, al_26, al_28, al_30, al_31, al_32, al_33, al_34, al_36, al_41, al_42, al_43, al_44, al_49, al_50, al_51, al_52, al_54, al_55, al_56, al_57, al_58, al_59, al_60, al_61, al_62, al_63, al_64, al_65, al_66, al_67, al_68, al_69, al_70, al_71, al_72, al_73, al_74, al_75, al_76, al_77, al_78, al_79, al_80]; exact vin (by omega) (by decide))), ?_⟩⟩
        · rw [e1] at q
          simp (disch := omega) only [nL, nI_add, pk_mul, n_le, n_lt, n_eq] at q
          omega
        · show z_wp _ _ _ _ 36 _ _ _
          simp (disch := omega) only [nL, nI_add, pk_mul, nc]
          refine ih (i + 1) _ (by omega) (fr.wr hf (by decide)) (fun k hk => by rw [wr_c (by decide), wr_c (by decide)]; exact k1 k hk) (by rw [wr_c (by decide)]; exact k2) (by rw [wr_c (by decide)]; exact k3) (fun k hk => by rw [wr_k (by omega)]; exact k4 k hk) (fun k hk => ?_)
          by_cases e : k = i
          · subst e
            rw [wr_s, hf.at (by decide)]
            exact (h1.2.2.2 k (by omega)).2.2.2
          · rw [wr_k (by omega)]
            exact k5 k (by omega)
    refine ⟨by (first | exact vin (by simp only [al_2, al_3, al_4, al_5, al_7, al_11, al_12, al_13, al_15, al_16, al_17, al_19, al_20, al_21, al_22, al_23, al_24, al_25, al_26, al_28, al_30, al_31, al_32, al_33, al_34, al_36, al_41, al_42, al_43, al_44, al_49, al_50, al_51, al_52, al_54, al_55, al_56, al_57, al_58, al_59, al_60, al_61, al_62, al_63, al_64, al_65, al_66, al_67, al_68, al_69, al_70, al_71, al_72, al_73, al_74, al_75, al_76, al_77, al_78, al_79, al_80]; omega) (by simp only [al_2, al_3, al_4, al_5, al_7, al_11, al_12, al_13, al_15, al_16, al_17, al_19, al_20, al_21, al_22, al_23, al_24, al_25, al_26, al_28, al_30, al_31, al_32, al_33, al_34, al_36, al_41, al_42, al_43, al_44, al_49, al_50, al_51, al_52, al_54, al_55, al_56, al_57, al_58, al_59, al_60, al_61, al_62, al_63, al_64, al_65, al_66, al_67, al_68, al_69, al_70, al_71, al_72, al_73, al_74, al_75, al_76, al_77, al_78, al_79, al_80]; decide) | (simp (disch := omega) only [nL, nI_add, pk_mul, nc, Nat.zero_add, al_2, al_3, al_4, al_5, al_7, al_11, al_12, al_13, al_15, al_16, al_17, al_19, al_20, al_21, al_22, al_23, al_24, al_25, al_26, al_28, al_30, al_31, al_32, al_33, al_34, al_36, al_41, al_42, al_43, al_44, al_49, al_50, al_51, al_52, al_54, al_55, al_56, al_57, al_58, al_59, al_60, al_61, al_62, al_63, al_64, al_65, al_66, al_67, al_68, al_69, al_70, al_71, al_72, al_73, al_74, al_75, al_76, al_77, al_78, al_79, al_80]; exact vin (by omega) (by decide))), by (first | exact vin (by simp only [al_2, al_3, al_4, al_5, al_7, al_11, al_12, al_13, al_15, al_16, al_17, al_19, al_20, al_21, al_22, al_23, al_24, al_25, al_26, al_28, al_30, al_31, al_32, al_33, al_34, al_36, al_41, al_42, al_43, al_44, al_49, al_50, al_51, al_52, al_54, al_55, al_56, al_57, al_58, al_59, al_60, al_61, al_62, al_63, al_64, al_65, al_66, al_67, al_68, al_69, al_70, al_71, al_72, al_73, al_74, al_75, al_76, al_77, al_78, al_79, al_80]; omega) (by simp only [al_2, al_3, al_4, al_5, al_7, al_11, al_12, al_13, al_15, al_16, al_17, al_19, al_20, al_21, al_22, al_23, al_24, al_25, al_26, al_28, al_30, al_31, al_32, al_33, al_34, al_36, al_41, al_42, al_43, al_44, al_49, al_50, al_51, al_52, al_54, al_55, al_56, al_57, al_58, al_59, al_60, al_61, al_62, al_63, al_64, al_65, al_66, al_67, al_68, al_69, al_70, al_71, al_72, al_73, al_74, al_75, al_76, al_77, al_78, al_79, al_80]; decide) | (simp (disch := omega) only [nL, nI_add, pk_mul, nc, Nat.zero_add, al_2, al_3, al_4, al_5, al_7, al_11, al_12, al_13, al_15, al_16, al_17, al_19, al_20, al_21, al_22, al_23, al_24, al_25, al_26, al_28, al_30, al_31, al_32, al_33, al_34, al_36, al_41, al_42, al_43, al_44, al_49, al_50, al_51, al_52, al_54, al_55, al_56, al_57, al_58, al_59, al_60, al_61, al_62, al_63, al_64, al_65, al_66, al_67, al_68, al_69, al_70, al_71, al_72, al_73, al_74, al_75, al_76, al_77, al_78, al_79, al_80]; exact vin (by omega) (by decide))), ?_⟩
    show z_wp _ _ _ _ 36 _ _ _
    simp (disch := omega) only [nc, wr_c]
    refine loop R 0 _ (by omega) (by (repeat (first | exact fr.rf | refine fr.cp ?_ (by decide) | refine fr.wr ?_ (by decide) | refine fr.wl ?_ (by decide)))) (fun k hk => ⟨?_, ?_⟩) ?_ ?_ (fun k hk => ?_) (fun k hk => by omega)
    · rw [wr_c (by decide), wr_k hk]
    · rw [wr_k hk, wr_c (by decide)]
    · rw [wr_c (by decide), wr_s]
      exact h1.2.2.1
    · rw [wr_s]
      exact h1.2.1
    · rw [wr_c (by decide), wr_c (by decide)]
  · obtain ⟨σt, ht, hRt, hkt⟩ := c_finding (d + 6) h (-1000001)
    rw [sKeep, if_pos hs]
    exact ⟨_, σt, ht, rfl, hRt, hkt⟩
theorem v_keep {B : zB} (h : VB B) (s : Int32) : VB (sKeep s B).2 := by
  unfold sKeep
  split
  · exact h.tell _
  · refine h.slots _ (Or.inr ⟨?_, ?_⟩)
    · exact kof_cases _
    · obtain ⟨P, R, G, eP, hP, eR, hR, eG, hG, hi⟩ := h.1
      exact ⟨G, R, eG, hG, eR, hR, fun i hi2 => by rw [keepS_n]; exact (hi i hi2).2.2⟩
