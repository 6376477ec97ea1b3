/-! the walk of the law -/
theorem dLaw_0 : decode code 0 = .ok (.new 7, 3) := by decide +kernel
theorem dLaw_3 : decode code 3 = .ok (.dup, 1) := by decide +kernel
theorem dLaw_4 : decode code 4 = .ok (.invokespecial 9, 3) := by decide +kernel
theorem dLaw_7 : decode code 7 = .ok (.astore_n 1, 1) := by decide +kernel
theorem dLaw_8 : decode code 8 = .ok (.new 10, 3) := by decide +kernel
theorem dLaw_11 : decode code 11 = .ok (.dup, 1) := by decide +kernel
theorem dLaw_12 : decode code 12 = .ok (.invokespecial 12, 3) := by decide +kernel
theorem dLaw_15 : decode code 15 = .ok (.astore_n 2, 1) := by decide +kernel
theorem dLaw_16 : decode code 16 = .ok (.iconst 0, 1) := by decide +kernel
theorem dLaw_17 : decode code 17 = .ok (.istore_n 3, 1) := by decide +kernel
theorem n_nest_ok : ∀ q ∈ n_nest, Cond.methodLinkNest RX9 q.1 (n_y q.2) RX9 ∈ lw_tbl := by
  intro q hq
  simp only [n_nest, List.mem_cons, List.not_mem_nil, or_false] at hq
  rcases hq with rfl | rfl | rfl | rfl | rfl | rfl | rfl | rfl | rfl
  · exact List.mem_of_getElem? (i := 76) (by decide +kernel)
  · exact List.mem_of_getElem? (i := 136) (by decide +kernel)
  · exact List.mem_of_getElem? (i := 157) (by decide +kernel)
  · exact List.mem_of_getElem? (i := 184) (by decide +kernel)
  · exact List.mem_of_getElem? (i := 203) (by decide +kernel)
  · exact List.mem_of_getElem? (i := 248) (by decide +kernel)
  · exact List.mem_of_getElem? (i := 276) (by decide +kernel)
  · exact List.mem_of_getElem? (i := 288) (by decide +kernel)
  · exact List.mem_of_getElem? (i := 314) (by decide +kernel)
theorem n_inst : ∀ ci, ci < 11 → Cond.instantiable (z_cs ci) (z_N ci) ∈ z_tbl := by
  intro ci h
  rcases (show ci = 0 ∨ ci = 1 ∨ ci = 2 ∨ ci = 3 ∨ ci = 4 ∨ ci = 5 ∨ ci = 6 ∨ ci = 7 ∨ ci = 8 ∨ ci = 9 ∨ ci = 10 by omega) with rfl | rfl | rfl | rfl | rfl | rfl | rfl | rfl | rfl | rfl | rfl
  · exact z_tb_of (i := 156) (by decide +kernel) rfl
  · exact z_tb_of (i := 275) (by decide +kernel) rfl
  · exact z_tb_of (i := 75) (by decide +kernel) rfl
  · exact z_tb_of (i := 202) (by decide +kernel) rfl
  · exact z_tb_of (i := 247) (by decide +kernel) rfl
  · exact z_tb_of (i := 135) (by decide +kernel) rfl
  · exact z_tb_of (i := 313) (by decide +kernel) rfl
  · exact z_tb_of (i := 287) (by decide +kernel) rfl
  · exact z_tb_of (i := 183) (by decide +kernel) rfl
  · exact z_tb_of (i := 67) (by decide +kernel) rfl
  · exact z_tb_of (i := 832) (by decide +kernel) rfl
/-- the classes that the worlds know -/
theorem l_known {args : Array Value} {s : State} (hts : ∀ w ∈ z_tbl, w.before args s = true) : ∃ (dC : Nat → ClassId) (dI : Nat → Nat → Nat) (cI cL : ClassId), va_K (dC, dI) vwCl [(cI, .int), (cL, .long)] s := by
  have h1 : ∀ ci, ci < 11 → ∃ x : ClassId × (Nat → Nat), u_Kn s (z_cs ci) (z_T ci) (z_N ci) x.1 x.2 := fun ci h => by
    obtain ⟨cC, iS, hk⟩ := u_known (C := z_cs ci) (T := z_T ci) (N := z_N ci) (n := z_N ci) hts (z_lay h) (hts _ (n_inst ci h))
    exact ⟨(cC, iS), hk⟩
  have h2 : ∀ ci, ∃ x : ClassId × (Nat → Nat), ci < 11 → u_Kn s (z_cs ci) (z_T ci) (z_N ci) x.1 x.2 := fun ci => by
    by_cases h : ci < 11
    · obtain ⟨x, hx⟩ := h1 ci h
      exact ⟨x, fun _ => hx⟩
    · obtain ⟨x, -⟩ := h1 0 (by decide)
      exact ⟨x, fun h3 => absurd h3 h⟩
  obtain ⟨cI, kI, pI, a1, a2, a3⟩ := Cond.arrayClass_spec (hts _ (z_tb_of (i := 133) (w := .arrayClass .int) (by decide +kernel) rfl))
  obtain ⟨cL, kL, pL, b1, b2, b3⟩ := Cond.arrayClass_spec (hts _ (z_tb_of (i := 245) (w := .arrayClass .long) (by decide +kernel) rfl))
  refine ⟨fun ci => (Classical.choose (h2 ci)).1, fun ci => (Classical.choose (h2 ci)).2, cI, cL, fun c q hq => ?_, fun k q hk => ?_⟩
  · have hc : c < 11 := (List.getElem?_eq_some_iff.mp hq).1
    rw [z_cl_get hc] at hq
    cases hq
    exact Classical.choose_spec (h2 c) hc
  · match k, hk with
    | 0, hk => cases hk; exact ⟨fun n z => ⟨fun k h => (by cases h), kI, a2, pI, a3⟩, a1⟩
    | 1, hk => cases hk; exact ⟨fun n z => ⟨fun k h => (by cases h), kL, b2, pL, b3⟩, b1⟩
    | k + 2, hk => exact absurd hk (by simp)
/-- from the loop's head on, by the little machine -/
theorem l_go {p : Program} {e : Env} {s : State} {m : MethodId} {below : List Frame} {meth : Method} {c : Code} {l : Launch} {b L h0 h1 : Nat} {xs : Nat → Int32} {dC : Nat → ClassId} {dI : Nat → Nat → Nat} {cI cL cS cH : ClassId} {ad : Nat → Nat} {σ : z_M} {B : zB} {H : Heap} {locs : List Loc} {ls : Array Slot} (hL : L ≤ 3072) (C0 : lw_At p s m meth c b L xs) (hts2 : ∀ w ∈ z_tbl, w.before #[Value.ref b] s = true) (hK : va_K (dC, dI) vwCl [(cI, .int), (cL, .long), (cS, .object RX7), (cH, .object RX6)] s) (hB : lwP σ B) (hP : va_P (dC, dI) vwCl (z_ws ad (cI, cL, cS, cH) σ) H) (hD : va_D (fun q : Nat => s.heap.size ≤ q) (z_ws ad (cI, cL, cS, cH) σ)) (hS : va_S (fun q : Nat => s.heap.size ≤ q) s.heap H locs) (e0 : ad 0 = h0) (e1 : ad 53 = h1) (e2 : ad 100 = b) (hl : lv_has ls 4 [(3, .int 0), (2, .ref h1), (1, .ref h0), (0, .ref b)]) : W p l e room_1 s m #[Value.ref b] below meth c H locs 81 4290 (lw_Z below #[Value.ref b] s) (F0 m 18 ls []) := by
  obtain ⟨hx, hb, hr, hml, hown, hts, hX, hbl, hlocks, hgv⟩ := id C0
  have wp := l_loop (xs := xs) hL (L + 1) 0 σ B (by omega) (Nat.zero_le _) hB
  have hlv : z_lv ad ls (z_mx 189) [some (.ref 100), some (.ref 0), some (.ref 53), some (.int (nI 0))] := by
    refine ⟨hl.1, hl.2.1, fun i v hv => ?_⟩
    match i, hv with
    | 0, hv => cases hv; show ls[0]? = some (.val (.ref (ad 100))); rw [e2]; exact lv_at hl 3 rfl
    | 1, hv => cases hv; show ls[1]? = some (.val (.ref (ad 0))); rw [e0]; exact lv_at hl 2 rfl
    | 2, hv => cases hv; show ls[2]? = some (.val (.ref (ad 53))); rw [e1]; exact lv_at hl 1 rfl
    | 3, hv => cases hv; exact lv_at hl 0 rfl
    | i + 4, hv => cases hv
  refine wp (z_PP p l e room_1 s m #[Value.ref b] below meth c 81 4290 (lw_Z below #[Value.ref b] s) dC dI ad (cI, cL, cS, cH) (fun q : Nat => s.heap.size ≤ q) (z_mx 189)) (fun pc L2 st τ h => ?_) H locs ls hP hD hS hlv
  refine z_snd (d := 60) hx hb hml hown hts2 hK ⟨Nat.le_of_ble_eq_true rfl, Nat.le_of_ble_eq_true rfl⟩ ⟨Nat.le_of_ble_eq_true rfl, Nat.le_of_ble_eq_true rfl⟩ (z_sound l dC dI ad (cI, cL, cS, cH) _ 60) (fun n ys q => ?_) ?_ ?_ ?_ (z_ck (by decide) pc) h
  · cases q
    rw [e2]
    exact ⟨hX, hbl, Nat.not_le.mpr hbl⟩
  · intro x τ pc ls H locs hk hR hd hP hD hS
    cases hR
    exact va_forget (fun q hq => hS.2.2 q hq) (W.widen (k := 600000) (n := 7302250) (Nat.le_of_ble_eq_true rfl) (Nat.le_of_ble_eq_true rfl) (lw_ret hx hb hr hlocks hd))
  · intro x τ pc ls H locs hk
    exact absurd hk (by decide)
  · intro τ pc ls H locs hk
    exact absurd hk (by decide)
set_option maxHeartbeats 16000000 in
set_option maxRecDepth 100000 in
/-- YOUR PART: from the entry, for every script of at most 3072 ints, the law comes to its end with true -/
theorem whole_start {p : Program} {e : Env} {s : State} {m : MethodId} {below : List Frame} {meth : Method} {c : Code} (l : Launch) {b L : Nat} {xs : Nat → Int32} (hL : L ≤ 3072) (C0 : lw_At p s m meth c b L xs) : W p l e room_1 s m #[Value.ref b] below meth c s.heap [] 0 0 (lw_Z below #[Value.ref b] s) (entryFrame m ([Value.ref b] : List Value).toArray 4) := by
  obtain ⟨hx, hb, hr, hml, hown, hts, hX, hbl, hlocks, hgv⟩ := id C0
  have hts2 : ∀ w ∈ z_tbl, w.before #[Value.ref b] s = true := fun w hw => hts w (List.mem_filter.mp hw).1
  obtain ⟨dC, dI, cI, cL, hK⟩ := l_known hts2
  have hE : n_E s := ⟨va_AO.of (hts _ (List.mem_of_getElem? (i := 152) (by decide +kernel))), va_AO.of (hts _ (List.mem_of_getElem? (i := 154) (by decide +kernel))), fun q hq => va_Nw.of rfl (hts _ (n_nest_ok q hq))⟩
  have S : n_S p s m #[Value.ref b] c 13 code (dC, dI) (fun q : Nat => s.heap.size ≤ q) [(cI, .int), (cL, .long)] := ⟨hx, hb, hown, hts2, hK, fun _ h => h⟩
  have hS : va_S (fun q : Nat => s.heap.size ≤ q) s.heap s.heap [] := va_S.rf
  have hP : va_P (dC, dI) vwCl [] s.heap := fun k q h => absurd h (by simp)
  have hD : va_D (fun q : Nat => s.heap.size ≤ q) [] := ⟨fun i j p q h => absurd h (by simp), fun k q h => absurd h (by simp)⟩
  have hl := lv_entry ([.ref b]) (n := 4) (Nat.le_of_ble_eq_true rfl)
  rw [lg_entry_eq]
  generalize (lg_sl ([.ref b]) ++ List.replicate (4 - (lg_sl ([.ref b])).length) Slot.unset).toArray = ls at hl ⊢
  have hl : lv_has ls 4 [(0, .ref b)] := hl
  refine n_new S hml hl.1 hE hK (by decide) 66 67 52 69 70 (by decide +kernel) (by decide +kernel) (by decide +kernel) (Or.inl (hts2 _ (z_tb_of (i := 68) (by decide +kernel) rfl))) (by decide +kernel) (by decide +kernel) n_h9 n_d9 (n_ct9 l (dC, dI) cI cL) ⟨(Nat.le_of_ble_eq_true rfl), (Nat.le_of_ble_eq_true rfl)⟩ (Nat.le_of_ble_eq_true rfl) (Nat.le_of_ble_eq_true rfl) (Nat.le_of_ble_eq_true rfl) dLaw_0 dLaw_3 dLaw_4 hP hD hS (fun h0 u H locs hΦ hP hD hKu hS => ?_)
  obtain ⟨cS, cH, b2, a2_q0, a2_q1, a2_q2, a2_q3, b5, a5_q0, qa, qb, b0, a0_q0, a0_q1, a0_q2, b8, a8_q0, a8_q1, a8_q2, b3, a3_q0, a3_q1, a3_q2, a3_q3, a3_q4, a3_q5, a3_q6, a3_q7, a3_q8, a3_q9, b4, a4_q0, a4_q1, a4_q2, a4_q3, a4_q4, b1, a1_q0, s0, s0n, s1, s1n, s2, s2n, s3, s3n, t0, t0n, t1, t1n, t2, t2n, t3, t3n, rfl⟩ := hΦ
  have hP : va_P (dC, dI) vwCl [(h0, .inr (9, [.ref b2, .ref b5, .ref qa, .ref qb, .ref b0, .ref b8, .ref b3, .ref b4, .ref b1, .int 0, .int 0])), (qa, .inl (cS, 4, .inr (.inr (.inr (.inr (va_up (va_up (va_up (va_up (fun _ => none) 0 (some s0)) 1 (some s1)) 2 (some s2)) 3 (some s3))))))), (qb, .inl (cH, 4, .inr (.inr (.inr (.inr (va_up (va_up (va_up (va_up (fun _ => none) 0 (some t0)) 1 (some t1)) 2 (some t2)) 3 (some t3))))))), (b2, .inr (2, [.int 0, .int 0, .int 0, .ref a2_q0, .ref a2_q1, .ref a2_q2, .ref a2_q3])), (a2_q0, .inl (cI, 10, .inl (fun _ => 0))), (a2_q1, .inl (cI, 10, .inl (fun _ => 0))), (a2_q2, .inl (cI, 10, .inl (fun _ => 0))), (a2_q3, .inl (cI, 10, .inl (fun _ => 0))), (b5, .inr (5, [.ref a5_q0, .int 0, .int 0])), (a5_q0, .inl (cI, 1075, .inl (fun _ => 0))), (b0, .inr (0, [.ref a0_q0, .ref a0_q1, .ref a0_q2, .int 0, .int 0, .int 0])), (a0_q0, .inl (cI, 6, .inl (fun _ => 0))), (a0_q1, .inl (cI, 6, .inl (fun _ => 0))), (a0_q2, .inl (cI, 10, .inl (fun _ => 0))), (b8, .inr (8, [.ref a8_q0, .ref a8_q1, .ref a8_q2])), (a8_q0, .inl (cI, 11, .inl (fun _ => 0))), (a8_q1, .inl (cI, 11, .inl (fun _ => 0))), (a8_q2, .inl (cI, 7, .inl (fun _ => 0))), (b3, .inr (3, [.ref a3_q0, .ref a3_q1, .ref a3_q2, .ref a3_q3, .ref a3_q4, .ref a3_q5, .ref a3_q6, .ref a3_q7, .ref a3_q8, .ref a3_q9, .int 0, .int 0])), (a3_q0, .inl (cI, 10, .inl (fun _ => 0))), (a3_q1, .inl (cI, 10, .inl (fun _ => 0))), (a3_q2, .inl (cI, 6, .inl (fun _ => 0))), (a3_q3, .inl (cI, 10, .inl (fun _ => 0))), (a3_q4, .inl (cI, 10, .inl (fun _ => 0))), (a3_q5, .inl (cI, 10, .inl (fun _ => 0))), (a3_q6, .inl (cI, 6, .inl (fun _ => 0))), (a3_q7, .inl (cI, 6, .inl (fun _ => 0))), (a3_q8, .inl (cL, 128, .inr (.inl (fun _ => 0)))), (a3_q9, .inl (cI, 128, .inl (fun _ => 0))), (b4, .inr (4, [.ref a4_q0, .ref a4_q1, .int 0, .ref a4_q2, .ref a4_q3, .ref a4_q4])), (a4_q0, .inl (cI, 10, .inl (fun _ => 0))), (a4_q1, .inl (cI, 10, .inl (fun _ => 0))), (a4_q2, .inl (cI, 10, .inl (fun _ => 0))), (a4_q3, .inl (cI, 6, .inl (fun _ => 0))), (a4_q4, .inl (cI, 6, .inl (fun _ => 0))), (b1, .inr (1, [.ref a1_q0, .int 0])), (a1_q0, .inl (cI, 20, .inl (fun _ => 0))), (s0, .inr (7, [.int 0, .int 0, .int 0, .int 0, .ref s0n])), (s0n, .inl (cI, 10, .inl (fun _ => 0))), (s1, .inr (7, [.int 0, .int 0, .int 0, .int 0, .ref s1n])), (s1n, .inl (cI, 10, .inl (fun _ => 0))), (s2, .inr (7, [.int 0, .int 0, .int 0, .int 0, .ref s2n])), (s2n, .inl (cI, 10, .inl (fun _ => 0))), (s3, .inr (7, [.int 0, .int 0, .int 0, .int 0, .ref s3n])), (s3n, .inl (cI, 10, .inl (fun _ => 0))), (t0, .inr (6, [.int 0, .int 0, .ref t0n])), (t0n, .inl (cI, 24, .inl (fun _ => 0))), (t1, .inr (6, [.int 0, .int 0, .ref t1n])), (t1n, .inl (cI, 24, .inl (fun _ => 0))), (t2, .inr (6, [.int 0, .int 0, .ref t2n])), (t2n, .inl (cI, 24, .inl (fun _ => 0))), (t3, .inr (6, [.int 0, .int 0, .ref t3n])), (t3n, .inl (cI, 24, .inl (fun _ => 0)))] H := hP
  have hD : va_D (fun q : Nat => s.heap.size ≤ q) [(h0, .inr (9, [.ref b2, .ref b5, .ref qa, .ref qb, .ref b0, .ref b8, .ref b3, .ref b4, .ref b1, .int 0, .int 0])), (qa, .inl (cS, 4, .inr (.inr (.inr (.inr (va_up (va_up (va_up (va_up (fun _ => none) 0 (some s0)) 1 (some s1)) 2 (some s2)) 3 (some s3))))))), (qb, .inl (cH, 4, .inr (.inr (.inr (.inr (va_up (va_up (va_up (va_up (fun _ => none) 0 (some t0)) 1 (some t1)) 2 (some t2)) 3 (some t3))))))), (b2, .inr (2, [.int 0, .int 0, .int 0, .ref a2_q0, .ref a2_q1, .ref a2_q2, .ref a2_q3])), (a2_q0, .inl (cI, 10, .inl (fun _ => 0))), (a2_q1, .inl (cI, 10, .inl (fun _ => 0))), (a2_q2, .inl (cI, 10, .inl (fun _ => 0))), (a2_q3, .inl (cI, 10, .inl (fun _ => 0))), (b5, .inr (5, [.ref a5_q0, .int 0, .int 0])), (a5_q0, .inl (cI, 1075, .inl (fun _ => 0))), (b0, .inr (0, [.ref a0_q0, .ref a0_q1, .ref a0_q2, .int 0, .int 0, .int 0])), (a0_q0, .inl (cI, 6, .inl (fun _ => 0))), (a0_q1, .inl (cI, 6, .inl (fun _ => 0))), (a0_q2, .inl (cI, 10, .inl (fun _ => 0))), (b8, .inr (8, [.ref a8_q0, .ref a8_q1, .ref a8_q2])), (a8_q0, .inl (cI, 11, .inl (fun _ => 0))), (a8_q1, .inl (cI, 11, .inl (fun _ => 0))), (a8_q2, .inl (cI, 7, .inl (fun _ => 0))), (b3, .inr (3, [.ref a3_q0, .ref a3_q1, .ref a3_q2, .ref a3_q3, .ref a3_q4, .ref a3_q5, .ref a3_q6, .ref a3_q7, .ref a3_q8, .ref a3_q9, .int 0, .int 0])), (a3_q0, .inl (cI, 10, .inl (fun _ => 0))), (a3_q1, .inl (cI, 10, .inl (fun _ => 0))), (a3_q2, .inl (cI, 6, .inl (fun _ => 0))), (a3_q3, .inl (cI, 10, .inl (fun _ => 0))), (a3_q4, .inl (cI, 10, .inl (fun _ => 0))), (a3_q5, .inl (cI, 10, .inl (fun _ => 0))), (a3_q6, .inl (cI, 6, .inl (fun _ => 0))), (a3_q7, .inl (cI, 6, .inl (fun _ => 0))), (a3_q8, .inl (cL, 128, .inr (.inl (fun _ => 0)))), (a3_q9, .inl (cI, 128, .inl (fun _ => 0))), (b4, .inr (4, [.ref a4_q0, .ref a4_q1, .int 0, .ref a4_q2, .ref a4_q3, .ref a4_q4])), (a4_q0, .inl (cI, 10, .inl (fun _ => 0))), (a4_q1, .inl (cI, 10, .inl (fun _ => 0))), (a4_q2, .inl (cI, 10, .inl (fun _ => 0))), (a4_q3, .inl (cI, 6, .inl (fun _ => 0))), (a4_q4, .inl (cI, 6, .inl (fun _ => 0))), (b1, .inr (1, [.ref a1_q0, .int 0])), (a1_q0, .inl (cI, 20, .inl (fun _ => 0))), (s0, .inr (7, [.int 0, .int 0, .int 0, .int 0, .ref s0n])), (s0n, .inl (cI, 10, .inl (fun _ => 0))), (s1, .inr (7, [.int 0, .int 0, .int 0, .int 0, .ref s1n])), (s1n, .inl (cI, 10, .inl (fun _ => 0))), (s2, .inr (7, [.int 0, .int 0, .int 0, .int 0, .ref s2n])), (s2n, .inl (cI, 10, .inl (fun _ => 0))), (s3, .inr (7, [.int 0, .int 0, .int 0, .int 0, .ref s3n])), (s3n, .inl (cI, 10, .inl (fun _ => 0))), (t0, .inr (6, [.int 0, .int 0, .ref t0n])), (t0n, .inl (cI, 24, .inl (fun _ => 0))), (t1, .inr (6, [.int 0, .int 0, .ref t1n])), (t1n, .inl (cI, 24, .inl (fun _ => 0))), (t2, .inr (6, [.int 0, .int 0, .ref t2n])), (t2n, .inl (cI, 24, .inl (fun _ => 0))), (t3, .inr (6, [.int 0, .int 0, .ref t3n])), (t3n, .inl (cI, 24, .inl (fun _ => 0)))] := hD
  refine W.widen (k := 53) (n := 1778) (Nat.le_of_ble_eq_true rfl) (Nat.le_of_ble_eq_true rfl) ?_
  refine lv_astore_n (lv' := [(1, .ref h0), (0, .ref b)]) hx hb dLaw_7 rfl hl (by decide) rfl (fun ls hl => ?_)
  refine n_new S hml hl.1 hE hK (by decide) 831 832 62 834 835 (by decide +kernel) (by decide +kernel) (by decide +kernel) (Or.inl (hts2 _ (z_tb_of (i := 833) (by decide +kernel) rfl))) (by decide +kernel) (by decide +kernel) n_h10 n_d10 (n_ct10 l (dC, dI) cI cL) ⟨(Nat.le_of_ble_eq_true rfl), (Nat.le_of_ble_eq_true rfl)⟩ (Nat.le_of_ble_eq_true rfl) (Nat.le_of_ble_eq_true rfl) (Nat.le_of_ble_eq_true rfl) dLaw_8 dLaw_11 dLaw_12 hP hD hS (fun h1 u H locs hΦ hP hD _ hS => ?_)
  obtain ⟨f, mq0, mq1, mq2, mq3, mq4, mq5, mq6, mq7, mq8, mq9, mq10, mq11, mq12, mq13, mq14, mq15, mq16, mq17, mq18, mq19, mq20, mq21, mq22, mq23, mq24, mq25, mq26, hf, rfl⟩ := hΦ
  refine W.widen (k := 81) (n := 4290) (Nat.le_of_ble_eq_true rfl) (Nat.le_of_ble_eq_true rfl) ?_
  refine lv_astore_n (lv' := [(2, .ref h1), (1, .ref h0), (0, .ref b)]) hx hb dLaw_15 rfl hl (by decide) rfl (fun ls hl => ?_)
  refine lv_iconst (v := 0) hx hb dLaw_16 (by decide) ?_
  refine lv_istore_n (lv' := [(3, .int 0), (2, .ref h1), (1, .ref h0), (0, .ref b)]) hx hb dLaw_17 rfl hl (by decide) rfl (fun ls hl => ?_)
  obtain ⟨hP, hD⟩ := l_world (b := b) hP hD
  exact l_go hL C0 hts2 hKu (l_start hf) hP hD hS rfl rfl rfl hl
