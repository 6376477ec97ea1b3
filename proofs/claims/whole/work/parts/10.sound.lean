/-! the world of 81 cells, and what the little machine says of the machine -/
def z_tr (ad : Nat → Nat) (v : Value) : Value := match v with
  | .ref a => .ref (ad a)
  | v => v
abbrev z_C4 : Type := ClassId × ClassId × ClassId × ClassId
def z_fs (ad : Nat → Nat) (σ : z_M) (c : Nat) : List Value := (List.range (z_N (z_kd c))).map (fun k => match z_rf c k with
  | some t => .ref (ad t)
  | none => .int (σ.1 c k))
def z_ce (ad : Nat → Nat) (cA : z_C4) (σ : z_M) (c : Nat) : va_E :=
  if z_kd c < 11 then .inr (z_kd c, z_fs ad σ c)
  else if z_ak c = 1 then .inl (cA.1, z_al c, .inl (σ.1 c))
  else if z_ak c = 2 then .inl (cA.2.1, 128, .inr (.inl σ.2))
  else if z_ak c = 3 then .inl (cA.2.2.1, 4, .inr (.inr (.inr (.inr (fun k => some (ad (37 + k)))))))
  else .inl (cA.2.2.2, 4, .inr (.inr (.inr (.inr (fun k => some (ad (45 + k)))))))
def z_ws (ad : Nat → Nat) (cA : z_C4) (σ : z_M) : va_W := (List.range 81).map (fun c => (ad c, z_ce ad cA σ c))
def z_tys (cA : z_C4) : List (ClassId × FieldType) := [(cA.1, .int), (cA.2.1, .long), (cA.2.2.1, .object RX7), (cA.2.2.2, .object RX6)]
theorem z_ws_get {ad : Nat → Nat} {cA : z_C4} {σ : z_M} {c : Nat} (h : c < 81) : (z_ws ad cA σ)[c]? = some (ad c, z_ce ad cA σ c) := by simp [z_ws, h]
theorem z_ws_set {ad : Nat → Nat} {cA : z_C4} {σ σ' : z_M} {c : Nat} (h : c < 81) {e : va_E} (h1 : z_ce ad cA σ' c = e) (h2 : ∀ c', c' ≠ c → z_ce ad cA σ' c' = z_ce ad cA σ c') : (z_ws ad cA σ).set c (ad c, e) = z_ws ad cA σ' := by
  apply List.ext_getElem?
  intro i
  rw [List.getElem?_set]
  by_cases hi : c = i
  · subst hi
    rw [if_pos rfl, if_pos (by simp [z_ws, h]), z_ws_get h, h1]
  · rw [if_neg hi]
    by_cases hl : i < 81
    · rw [z_ws_get hl, z_ws_get hl, h2 i (fun q => hi q.symm)]
    · simp [z_ws, hl]
theorem z_ce_congr {ad : Nat → Nat} {cA : z_C4} {σ σ' : z_M} {c : Nat} (h : σ'.1 c = σ.1 c) (h2 : σ'.2 = σ.2) : z_ce ad cA σ' c = z_ce ad cA σ c := by
  simp only [z_ce, z_fs, h, h2]
theorem z_ak_lt {c : Nat} (h : z_ak c = 1) : c < 81 := by
  rcases Nat.lt_or_ge c 81 with q | q
  · exact q
  · exfalso
    have hb : Nat.blt c 81 = false := by
      cases hz : Nat.blt c 81 with
      | false => rfl
      | true => exact absurd (Nat.le_of_ble_eq_true hz) (by omega)
    unfold z_ak at h
    rw [hb] at h
    cases h
theorem z_ce_arr {ad : Nat → Nat} {cA : z_C4} {σ : z_M} {c : Nat} (h : z_ak c = 1) : z_ce ad cA σ c = .inl (cA.1, z_al c, .inl (σ.1 c)) := by
  have h1 := (z_arrs c (z_ak_lt h)).1 h
  simp [z_ce, h1, h]
theorem z_ce_obj {ad : Nat → Nat} {cA : z_C4} {σ : z_M} {c ci : Nat} (h : z_kd c = ci) (hc : ci < 11) : z_ce ad cA σ c = .inr (ci, z_fs ad σ c) := by
  subst h
  simp [z_ce, hc]
theorem z_fs_get {ad : Nat → Nat} {σ : z_M} {c k : Nat} (h : k < z_N (z_kd c)) : (z_fs ad σ c)[k]? = some (match z_rf c k with
  | some t => .ref (ad t)
  | none => .int (σ.1 c k)) := by simp [z_fs, h]
theorem z_rf_fk : ∀ c, c < 81 → z_kd c < 11 → ∀ k, k < z_N (z_kd c) → z_fk (z_kd c) k ≠ 0 → z_rf c k = none := by decide +kernel
theorem z_fs_set {ad : Nat → Nat} {σ : z_M} {c k : Nat} (hc : c < 81) (h11 : z_kd c < 11) (h : k < z_N (z_kd c)) (hf : z_fk (z_kd c) k ≠ 0) (v : Int32) : (z_fs ad σ c).set k (.int v) = z_fs ad (z_wr σ c k v) c := by
  apply List.ext_getElem?
  intro i
  rw [List.getElem?_set]
  by_cases hi : k = i
  · subst hi
    rw [if_pos rfl, if_pos (by simp [z_fs, h]), z_fs_get h, z_rf_fk c hc h11 k h hf]
    simp [z_wr]
  · rw [if_neg hi]
    by_cases hl : i < z_N (z_kd c)
    · rw [z_fs_get hl, z_fs_get hl]
      cases z_rf c i with
      | some t => rfl
      | none =>
        have hi2 : ¬ i = k := fun q => hi q.symm
        simp [z_wr, hi2]
    · simp [z_fs, hl]
theorem z_cl_get {ci : Nat} (h : ci < 11) : vwCl[ci]? = some (z_cs ci, z_T ci, z_N ci) := by
  rcases (show ci = 0 ∨ ci = 1 ∨ ci = 2 ∨ ci = 3 ∨ ci = 4 ∨ ci = 5 ∨ ci = 6 ∨ ci = 7 ∨ ci = 8 ∨ ci = 9 ∨ ci = 10 by omega) with rfl | rfl | rfl | rfl | rfl | rfl | rfl | rfl | rfl | rfl | rfl <;> rfl
theorem z_lay {ci : Nat} (h : ci < 11) : ∀ w ∈ u_ws (z_cs ci) (z_T ci) (z_N ci), w ∈ z_tbl := by
  intro w hw
  obtain ⟨k, hk, rfl⟩ := List.mem_map.mp hw
  have h1 := z_lay_ok ci h k (List.mem_range.mp hk)
  exact z_tb_of h1.1 h1.2
/-- a state of the locals -/
def z_lv (ad : Nat → Nat) (ls : Array Slot) (nL : Nat) (L : z_L) : Prop := ls.size = nL ∧ lv_wf ls ∧ ∀ (i : Nat) (v : Value), z_get L i = some v → ls[i]? = some (.val (z_tr ad v))
def z_kl (ad : Nat → Nat) (nL : Nat) (L : z_L) : List (Nat × Value) := (List.range nL).filterMap (fun i => (z_get L i).map (fun v => (i, z_tr ad v)))
theorem z_kl_has {ad : Nat → Nat} {ls : Array Slot} {nL : Nat} {L : z_L} (h : z_lv ad ls nL L) : lv_has ls nL (z_kl ad nL L) := by
  refine ⟨h.1, h.2.1, fun q hq => ?_⟩
  obtain ⟨i, -, hi⟩ := List.mem_filterMap.mp hq
  cases hg : z_get L i with
  | none => rw [hg] at hi; cases hi
  | some v =>
    rw [hg] at hi
    cases hi
    exact h.2.2 i v hg
theorem z_tr_cat {ad : Nat → Nat} (v : Value) : (z_tr ad v).category = v.category := by cases v <;> rfl
theorem z_set_get : ∀ {L : z_L} {n : Nat} {v : Option Value} {k : z_L → Prop}, z_setK L n v k → ∃ L', k L' ∧ n < L.length ∧ ∀ i, z_get L' i = if i = n then v else z_get L i
  | [], _, _, _, h => h.elim
  | a :: l, 0, v, k, h => ⟨_, h, Nat.zero_lt_succ _, fun i => by cases i <;> simp [z_get]⟩
  | a :: l, n + 1, v, k, h => by
    obtain ⟨L', h1, h2, h3⟩ := z_set_get (L := l) (n := n) h
    refine ⟨a :: L', h1, Nat.succ_lt_succ h2, fun i => ?_⟩
    cases i with
    | zero => simp [z_get]
    | succ i => simp [z_get, h3]
/-- the list of what is held behind a store -/
theorem z_lv_1 {ad : Nat → Nat} {ls' ls : Array Slot} {nL i : Nat} {L L' : z_L} {v : Value} (hlv : z_lv ad ls nL L) (hn : z_nl L i = true) (hg : ∀ j, z_get L' j = if j = i then some v else z_get L j)
    (h : lv_has ls' nL ((i, z_tr ad v) :: (z_kl ad nL L).filter (fun q => !(q.1 == i) && !(q.1 + 1 == i && q.2.category == 2)))) : z_lv ad ls' nL L' := by
  refine ⟨h.1, h.2.1, fun j w hw => ?_⟩
  rw [hg] at hw
  by_cases hj : j = i
  · rw [if_pos hj] at hw
    cases hw
    subst hj
    exact h.2.2 (j, z_tr ad v) List.mem_cons_self
  · rw [if_neg hj] at hw
    refine h.2.2 (j, z_tr ad w) (List.mem_cons_of_mem _ (List.mem_filter.mpr ⟨List.mem_filterMap.mpr ⟨j, ?_, by rw [hw]; rfl⟩, ?_⟩))
    · have := hlv.2.2 j w hw
      have h2 := lv_lt this
      rw [hlv.1] at h2
      exact List.mem_range.mpr h2
    · have hcat : j + 1 = i → w.category ≠ 2 := by
        intro q
        subst q
        unfold z_nl at hn
        simp only [hw] at hn
        cases w <;> simp_all [Value.category]
      simp only [Bool.and_eq_true, Bool.not_eq_true', beq_eq_false_iff_ne, ne_eq, Bool.and_eq_false_iff, z_tr_cat]
      refine ⟨hj, ?_⟩
      by_cases q : j + 1 = i
      · exact Or.inr (hcat q)
      · exact Or.inl q
theorem z_lv_2 {ad : Nat → Nat} {ls' ls : Array Slot} {nL i : Nat} {L L' : z_L} {x : Int64} (hlv : z_lv ad ls nL L) (hn : z_nl L i = true) (hg : ∀ j, z_get L' j = if j = i + 1 then none else if j = i then some (.long x) else z_get L j)
    (h : lv_has ls' nL ((i, .long x) :: (z_kl ad nL L).filter (fun q => !(q.1 == i) && (!(q.1 == i + 1) && !(q.1 + 1 == i && q.2.category == 2))))) : z_lv ad ls' nL L' := by
  refine ⟨h.1, h.2.1, fun j w hw => ?_⟩
  rw [hg] at hw
  by_cases hj1 : j = i + 1
  · rw [if_pos hj1] at hw; cases hw
  rw [if_neg hj1] at hw
  by_cases hj : j = i
  · rw [if_pos hj] at hw
    cases hw
    subst hj
    exact h.2.2 (j, .long x) List.mem_cons_self
  · rw [if_neg hj] at hw
    refine h.2.2 (j, z_tr ad w) (List.mem_cons_of_mem _ (List.mem_filter.mpr ⟨List.mem_filterMap.mpr ⟨j, ?_, by rw [hw]; rfl⟩, ?_⟩))
    · have := hlv.2.2 j w hw
      have h2 := lv_lt this
      rw [hlv.1] at h2
      exact List.mem_range.mpr h2
    · have hcat : j + 1 = i → w.category ≠ 2 := by
        intro q
        subst q
        unfold z_nl at hn
        simp only [hw] at hn
        cases w <;> simp_all [Value.category]
      simp only [Bool.and_eq_true, Bool.not_eq_true', beq_eq_false_iff_ne, ne_eq, Bool.and_eq_false_iff, z_tr_cat]
      refine ⟨hj, hj1, ?_⟩
      by_cases q : j + 1 = i
      · exact Or.inr (hcat q)
      · exact Or.inl q
theorem z_cats_le {ad : Nat → Nat} : ∀ (st : List Value), ((st.map (z_tr ad)).map fun v => v.category).sum ≤ z_cats st
  | [] => Nat.le_refl _
  | v :: st => by
    have ih := z_cats_le (ad := ad) st
    have h1 : (z_tr ad v).category + z_cats st ≤ z_cats (v :: st) := by
      cases v <;> simp only [z_cats, z_tr, Value.category] <;> omega
    simp only [List.map_cons, List.sum_cons]
    omega
theorem z_pop_ok : ∀ {n : Nat} {st acc : List Value} {k : List Value → List Value → Prop}, z_popK n st acc k → ∃ as rest, k (as ++ acc) rest ∧ as.length = n ∧ st = as.reverse ++ rest
  | 0, st, acc, k, h => ⟨[], st, h, rfl, rfl⟩
  | _ + 1, [], _, _, h => h.elim
  | n + 1, v :: st, acc, k, h => by
    obtain ⟨as, rest, h1, h2, h3⟩ := z_pop_ok (n := n) (st := st) h
    exact ⟨as ++ [v], rest, by simpa using h1, by simp [h2], by simp [h3]⟩
theorem z_pi_el {st : List Value} {k : Int32 → List Value → Prop} (h : z_pi st k) : ∃ x r, st = .int x :: r ∧ k x r := by
  unfold z_pi at h
  split at h
  · exact ⟨_, _, rfl, h⟩
  · exact h.elim
theorem z_pl_el {st : List Value} {k : Int64 → List Value → Prop} (h : z_pl st k) : ∃ x r, st = .long x :: r ∧ k x r := by
  unfold z_pl at h
  split at h
  · exact ⟨_, _, rfl, h⟩
  · exact h.elim
theorem z_pr_el {st : List Value} {k : Nat → List Value → Prop} (h : z_pr st k) : ∃ x r, st = .ref x :: r ∧ k x r := by
  unfold z_pr at h
  split at h
  · exact ⟨_, _, rfl, h⟩
  · exact h.elim
theorem z_p1_el {st : List Value} {k : Value → List Value → Prop} (h : z_p1 st k) : ∃ x r, st = x :: r ∧ x.category = 1 ∧ k x r := by
  unfold z_p1 at h
  split at h
  · exact ⟨_, _, rfl, rfl, h⟩
  · exact ⟨_, _, rfl, rfl, h⟩
  · exact h.elim
theorem z_p0_el {st : List Value} {k : Prop} (h : z_p0 st k) : st = [] ∧ k := by
  unfold z_p0 at h
  split at h
  · exact ⟨rfl, h⟩
  · exact h.elim
theorem z_gi_el {v : Option Value} {k : Int32 → Prop} (h : z_gi v k) : ∃ x, v = some (.int x) ∧ k x := by
  unfold z_gi at h
  split at h
  · exact ⟨_, rfl, h⟩
  · exact h.elim
theorem z_gl_el {v : Option Value} {k : Int64 → Prop} (h : z_gl v k) : ∃ x, v = some (.long x) ∧ k x := by
  unfold z_gl at h
  split at h
  · exact ⟨_, rfl, h⟩
  · exact h.elim
theorem z_gr_el {v : Option Value} {k : Nat → Prop} (h : z_gr v k) : ∃ x, v = some (.ref x) ∧ k x := by
  unfold z_gr at h
  split at h
  · exact ⟨_, rfl, h⟩
  · exact h.elim
theorem z_bt {b : Bool} {A : Prop} (h : bif b then A else False) : b = true ∧ A := by
  cases b
  · exact h.elim
  · exact ⟨rfl, h⟩
theorem z_be {b : Bool} {A C : Prop} (h : bif b then A else C) : (b = true ∧ A) ∨ (b = false ∧ C) := by
  cases b
  · exact Or.inr ⟨rfl, h⟩
  · exact Or.inl ⟨rfl, h⟩
