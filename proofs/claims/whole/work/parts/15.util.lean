/-! numbers and memory -/
theorem nL (n : Nat) : (OfNat.ofNat n : Int32) = nI n := rfl
theorem nc {n : Nat} (h : n < 2147483648) : (nI n).toNatClampNeg = n := nI_clamp h
theorem vin {n N : Nat} (h : n < N) (hN : N < 2147483648) : vp_in (nI n) N := vp_in_nI h hN
theorem n_lt {a b : Nat} (ha : a < 2147483648) (hb : b < 2147483648) : (nI a < nI b) = (a < b) := propext (nI_ltI ha hb)
theorem n_le {a b : Nat} (ha : a < 2147483648) (hb : b < 2147483648) : (nI a ≤ nI b) = (a ≤ b) := propext (nI_leI ha hb)
theorem n_eq {a b : Nat} (ha : a < 2147483648) (hb : b < 2147483648) : (nI a = nI b) = (a = b) := propext (nI_eq ha hb)
theorem n_nn {a : Nat} (ha : a < 2147483648) : ¬ nI a < 0 := nI_pos ha
/-- nothing changes but in the cells of the list -/
def fr (cs : List Nat) (σ σ' : z_M) : Prop := (∀ c, c ∉ cs → σ'.1 c = σ.1 c) ∧ (27 ∉ cs → σ'.2 = σ.2)
theorem fr.rf {cs : List Nat} {σ : z_M} : fr cs σ σ := ⟨fun _ _ => rfl, fun _ => rfl⟩
theorem fr.tr {cs : List Nat} {σ σ' σ'' : z_M} (h : fr cs σ σ') (h2 : fr cs σ' σ'') : fr cs σ σ'' := ⟨fun c hc => (h2.1 c hc).trans (h.1 c hc), fun h27 => (h2.2 h27).trans (h.2 h27)⟩
theorem fr.wk {cs : List Nat} (ds : List Nat) {σ σ' : z_M} (h : fr cs σ σ') (hs : ∀ c ∈ cs, c ∈ ds) : fr ds σ σ' := ⟨fun c hc => h.1 c (fun q => hc (hs c q)), fun h27 => h.2 (fun q => h27 (hs 27 q))⟩
theorem fr.wr {cs : List Nat} {σ σ' : z_M} {c k : Nat} {v : Int32} (h : fr cs σ σ') (hc : c ∈ cs) : fr cs σ (z_wr σ' c k v) := ⟨fun c' hc' => by
  have hne : c' ≠ c := fun q => hc' (by rw [q]; exact hc)
  rw [z_wr_ne hne]
  exact h.1 c' hc', h.2⟩
theorem fr.cp {cs : List Nat} {σ σ' : z_M} {a d sp dp n : Nat} (h : fr cs σ σ') (hc : d ∈ cs) : fr cs σ (z_cp σ' a d sp dp n) := ⟨fun c' hc' => by
  have hne : c' ≠ d := fun q => hc' (by rw [q]; exact hc)
  rw [z_cp_ne hne]
  exact h.1 c' hc', h.2⟩
theorem fr.wl {cs : List Nat} {σ σ' : z_M} {k : Nat} {v : Int64} (h : fr cs σ σ') (hc : 27 ∈ cs) : fr cs σ (z_wl σ' k v) := ⟨h.1, fun q => absurd hc q⟩
theorem fr.at {cs : List Nat} {σ σ' : z_M} (h : fr cs σ σ') {c : Nat} (hc : c ∉ cs) (k : Nat) : σ'.1 c k = σ.1 c k := by rw [h.1 c hc]
theorem wr_s {σ : z_M} {c k : Nat} {v : Int32} : (z_wr σ c k v).1 c k = v := by simp [z_wr]
theorem wr_e {σ : z_M} {c k k' : Nat} {v : Int32} (h : k' = k) : (z_wr σ c k v).1 c k' = v := by simp [z_wr, h]
theorem wr_k {σ : z_M} {c k k' : Nat} {v : Int32} (h : k' ≠ k) : (z_wr σ c k v).1 c k' = σ.1 c k' := by simp [z_wr, h]
theorem wr_c {σ : z_M} {c c' k k' : Nat} {v : Int32} (h : c' ≠ c) : (z_wr σ c k v).1 c' k' = σ.1 c' k' := by simp [z_wr, h]
theorem wr_at (σ : z_M) (c k : Nat) (v : Int32) (c' k' : Nat) : (z_wr σ c k v).1 c' k' = if c' = c then (if k' = k then v else σ.1 c' k') else σ.1 c' k' := rfl
theorem cp_in {σ : z_M} {a d sp dp n k : Nat} (h1 : dp ≤ k) (h2 : k < dp + n) : (z_cp σ a d sp dp n).1 d k = σ.1 a (sp + (k - dp)) := by simp [z_cp, va_cpy, h1, h2]
theorem cp_lo {σ : z_M} {a d sp dp n k : Nat} (h1 : k < dp) : (z_cp σ a d sp dp n).1 d k = σ.1 d k := by
  have : ¬ dp ≤ k := by omega
  simp [z_cp, va_cpy, this]
theorem cp_hi {σ : z_M} {a d sp dp n k : Nat} (h1 : dp + n ≤ k) : (z_cp σ a d sp dp n).1 d k = σ.1 d k := by
  have : ¬ k < dp + n := by omega
  simp [z_cp, va_cpy, this]
theorem cp_ne {σ : z_M} {a d sp dp n c k : Nat} (h1 : c ≠ d) : (z_cp σ a d sp dp n).1 c k = σ.1 c k := by rw [z_cp_ne h1]
theorem al_2 : z_al 2 = 10 := rfl
theorem al_3 : z_al 3 = 10 := rfl
theorem al_4 : z_al 4 = 10 := rfl
theorem al_5 : z_al 5 = 10 := rfl
theorem al_7 : z_al 7 = 1075 := rfl
theorem al_11 : z_al 11 = 6 := rfl
theorem al_12 : z_al 12 = 6 := rfl
theorem al_13 : z_al 13 = 10 := rfl
theorem al_15 : z_al 15 = 11 := rfl
theorem al_16 : z_al 16 = 11 := rfl
theorem al_17 : z_al 17 = 7 := rfl
theorem al_19 : z_al 19 = 10 := rfl
theorem al_20 : z_al 20 = 10 := rfl
theorem al_21 : z_al 21 = 6 := rfl
theorem al_22 : z_al 22 = 10 := rfl
theorem al_23 : z_al 23 = 10 := rfl
theorem al_24 : z_al 24 = 10 := rfl
theorem al_25 : z_al 25 = 6 := rfl
theorem al_26 : z_al 26 = 6 := rfl
theorem al_28 : z_al 28 = 128 := rfl
theorem al_30 : z_al 30 = 10 := rfl
theorem al_31 : z_al 31 = 10 := rfl
theorem al_32 : z_al 32 = 10 := rfl
theorem al_33 : z_al 33 = 6 := rfl
theorem al_34 : z_al 34 = 6 := rfl
theorem al_36 : z_al 36 = 20 := rfl
theorem al_41 : z_al 41 = 10 := rfl
theorem al_42 : z_al 42 = 10 := rfl
theorem al_43 : z_al 43 = 10 := rfl
theorem al_44 : z_al 44 = 10 := rfl
theorem al_49 : z_al 49 = 24 := rfl
theorem al_50 : z_al 50 = 24 := rfl
theorem al_51 : z_al 51 = 24 := rfl
theorem al_52 : z_al 52 = 24 := rfl
theorem al_54 : z_al 54 = 10 := rfl
theorem al_55 : z_al 55 = 10 := rfl
theorem al_56 : z_al 56 = 10 := rfl
theorem al_57 : z_al 57 = 10 := rfl
theorem al_58 : z_al 58 = 1075 := rfl
theorem al_59 : z_al 59 = 4 := rfl
theorem al_60 : z_al 60 = 4 := rfl
theorem al_61 : z_al 61 = 4 := rfl
theorem al_62 : z_al 62 = 40 := rfl
theorem al_63 : z_al 63 = 4 := rfl
theorem al_64 : z_al 64 = 4 := rfl
theorem al_65 : z_al 65 = 96 := rfl
theorem al_66 : z_al 66 = 24 := rfl
theorem al_67 : z_al 67 = 11 := rfl
theorem al_68 : z_al 68 = 6 := rfl
theorem al_69 : z_al 69 = 6 := rfl
theorem al_70 : z_al 70 = 10 := rfl
theorem al_71 : z_al 71 = 10 := rfl
theorem al_72 : z_al 72 = 10 := rfl
theorem al_73 : z_al 73 = 12 := rfl
theorem al_74 : z_al 74 = 6 := rfl
theorem al_75 : z_al 75 = 6 := rfl
theorem al_76 : z_al 76 = 12 := rfl
theorem al_77 : z_al 77 = 1024 := rfl
theorem al_78 : z_al 78 = 24 := rfl
theorem al_79 : z_al 79 = 24 := rfl
theorem al_80 : z_al 80 = 24 := rfl
def imin (x y : Int32) : Int32 := if x ≤ y then x else y
def imax (x y : Int32) : Int32 := if y ≤ x then x else y
theorem imin_n {a b : Nat} (ha : a < 2147483648) (hb : b < 2147483648) : imin (nI a) (nI b) = nI (min a b) := by
  unfold imin
  by_cases h : a ≤ b
  · rw [if_pos ((nI_leI ha hb).mpr h), Nat.min_eq_left h]
  · rw [if_neg (fun q => h ((nI_leI ha hb).mp q)), Nat.min_eq_right (by omega)]
theorem imax_n {a b : Nat} (ha : a < 2147483648) (hb : b < 2147483648) : imax (nI a) (nI b) = nI (max a b) := by
  unfold imax
  by_cases h : b ≤ a
  · rw [if_pos ((nI_leI hb ha).mpr h), Nat.max_eq_left h]
  · rw [if_neg (fun q => h ((nI_leI hb ha).mp q)), Nat.max_eq_right (by omega)]
theorem c_min (d : Nat) (σ : z_M) (x y : Int32) : z_call (d + 1) k_Math_min [.int x, .int y] σ (some (.int (imin x y))) σ := by
  unfold imin
  refine ⟨rfl, z_go 10 [] ⟨fun h => ⟨?_, rfl⟩, fun h => ⟨?_, rfl⟩⟩⟩
  · rw [if_neg (by rw [Int32.not_le]; exact h)]
  · rw [if_pos (by rw [Int32.not_lt] at h; exact h)]
theorem c_max (d : Nat) (σ : z_M) (x y : Int32) : z_call (d + 1) k_Math_max [.int x, .int y] σ (some (.int (imax x y))) σ := by
  unfold imax
  refine ⟨rfl, z_go 10 [] ⟨fun h => ⟨?_, rfl⟩, fun h => ⟨?_, rfl⟩⟩⟩
  · rw [if_neg (by rw [Int32.not_le]; exact h)]
  · rw [if_pos (by rw [Int32.not_lt] at h; exact h)]
theorem c_writeTo (d : Nat) (σ : z_M) (a : Nat) (ha : a + 43 ≤ 1075) : ∃ σ', z_call (d + 1) k_Net_writeTo [.ref 1, .ref 7, .int (nI a)] σ none σ' ∧ fr [7] σ σ' ∧
    (∀ k, (k < a ∨ a + 43 ≤ k) → σ'.1 7 k = σ.1 7 k) ∧ σ'.1 7 a = σ.1 1 0 ∧ σ'.1 7 (a + 1) = σ.1 1 1 ∧ σ'.1 7 (a + 2) = σ.1 1 2 ∧ ∀ i, i < 10 → σ'.1 7 (a + 3 + i) = σ.1 2 i ∧ σ'.1 7 (a + 13 + i) = σ.1 3 i ∧ σ'.1 7 (a + 23 + i) = σ.1 4 i ∧ σ'.1 7 (a + 33 + i) = σ.1 5 i := by
  refine ⟨_, ⟨rfl, z_go 70 [] ⟨?_, ?_, ?_, ?_, ?_, ?_, ?_, rfl, rfl⟩⟩, by (repeat (first | exact fr.rf | refine fr.cp ?_ (by decide) | refine fr.wr ?_ (by decide) | refine fr.wl ?_ (by decide))), ?_⟩
  · exact vin (by show _ < 1075; omega) (by decide)
  · simp (disch := omega) only [nL, nI_add, pk_mul, nc, Nat.zero_add, Nat.add_assoc, Nat.reduceAdd]
    exact vin (by show _ < 1075; omega) (by decide)
  · simp (disch := omega) only [nL, nI_add, pk_mul, nc, Nat.zero_add, Nat.add_assoc, Nat.reduceAdd]
    exact vin (by show _ < 1075; omega) (by decide)
  · simp (disch := omega) only [nL, nI_add, pk_mul, nc, Nat.zero_add, Nat.add_assoc, Nat.reduceAdd]
    exact ⟨n_nn (by omega), n_nn (by omega), n_nn (by omega), by decide, by show _ ≤ 1075; omega⟩
  · simp (disch := omega) only [nL, nI_add, pk_mul, nc, Nat.zero_add, Nat.add_assoc, Nat.reduceAdd]
    exact ⟨n_nn (by omega), n_nn (by omega), n_nn (by omega), by decide, by show _ ≤ 1075; omega⟩
  · simp (disch := omega) only [nL, nI_add, pk_mul, nc, Nat.zero_add, Nat.add_assoc, Nat.reduceAdd]
    exact ⟨n_nn (by omega), n_nn (by omega), n_nn (by omega), by decide, by show _ ≤ 1075; omega⟩
  · simp (disch := omega) only [nL, nI_add, pk_mul, nc, Nat.zero_add, Nat.add_assoc, Nat.reduceAdd]
    exact ⟨n_nn (by omega), n_nn (by omega), n_nn (by omega), by decide, by show _ ≤ 1075; omega⟩
  · refine ⟨fun k hk => ?_, ?_, ?_, ?_, fun i hi => ⟨?_, ?_, ?_, ?_⟩⟩
    · rcases hk with hk | hk <;> simp (disch := omega) only [nL, nI_add, pk_mul, nc, cp_in, cp_lo, cp_hi, cp_ne, wr_s, wr_k, wr_c, wr_e, Nat.zero_add]
    · simp (disch := omega) only [nL, nI_add, pk_mul, nc, cp_in, cp_lo, cp_hi, cp_ne, wr_s, wr_k, wr_c, wr_e, Nat.zero_add]
    · simp (disch := omega) only [nL, nI_add, pk_mul, nc, cp_in, cp_lo, cp_hi, cp_ne, wr_s, wr_k, wr_c, wr_e, Nat.zero_add]
    · simp (disch := omega) only [nL, nI_add, pk_mul, nc, cp_in, cp_lo, cp_hi, cp_ne, wr_s, wr_k, wr_c, wr_e, Nat.zero_add]
    · simp (disch := omega) only [nL, nI_add, pk_mul, nc, cp_in, cp_lo, cp_hi, cp_ne, wr_s, wr_k, wr_c, wr_e, Nat.zero_add]
      rw [show a + 3 + i - (a + 3) = i by omega]
    · simp (disch := omega) only [nL, nI_add, pk_mul, nc, cp_in, cp_lo, cp_hi, cp_ne, wr_s, wr_k, wr_c, wr_e, Nat.zero_add]
      rw [show a + 13 + i - (a + 3 + 10) = i by omega]
    · simp (disch := omega) only [nL, nI_add, pk_mul, nc, cp_in, cp_lo, cp_hi, cp_ne, wr_s, wr_k, wr_c, wr_e, Nat.zero_add]
      rw [show a + 23 + i - (a + 3 + 20) = i by omega]
    · simp (disch := omega) only [nL, nI_add, pk_mul, nc, cp_in, cp_lo, cp_hi, cp_ne, wr_s, wr_k, wr_c, wr_e, Nat.zero_add]
      rw [show a + 33 + i - (a + 3 + 30) = i by omega]
