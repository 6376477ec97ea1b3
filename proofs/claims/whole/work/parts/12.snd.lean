/-! THE STEPS, one by one -/
theorem z_sw_ok {x : Int32} {k : Nat → Prop} {d : Nat} : ∀ {ts : List Nat} {i : Nat}, z_swK x k d ts i → (∀ j, j < ts.length → x = Int32.ofNat (i + j) → ∃ t, ts[j]? = some t ∧ k t) ∧ ((x < 0 ∨ Int32.ofNat (i + ts.length) ≤ x) → k d)
  | [], i, h => ⟨(fun j hj => by simp at hj), h⟩
  | t :: ts, i, h => by
    obtain ⟨h1, h2⟩ := z_sw_ok (ts := ts) (i := i + 1) h.2
    refine ⟨fun j hj hx => ?_, fun q => h2 (by rw [show i + 1 + ts.length = i + (t :: ts).length by simp; omega]; exact q)⟩
    cases j with
    | zero => exact ⟨t, rfl, h.1 hx⟩
    | succ j =>
      obtain ⟨t', a, b⟩ := h1 j (by simpa using hj) (by rw [show i + 1 + j = i + (j + 1) by omega]; exact hx)
      exact ⟨t', by simpa using a, b⟩
theorem z_wr_ne {σ : z_M} {a k c : Nat} {x : Int32} (h : c ≠ a) : (z_wr σ a k x).1 c = σ.1 c := by
  funext j
  simp [z_wr, h]
theorem z_wr_eq {σ : z_M} {a k : Nat} {x : Int32} : (z_wr σ a k x).1 a = upd (σ.1 a) k x := by
  funext j
  simp [z_wr, upd]
theorem z_cp_ne {σ : z_M} {a d sp dp n c : Nat} (h : c ≠ d) : (z_cp σ a d sp dp n).1 c = σ.1 c := by
  simp [z_cp, h]
theorem z_sw_len : ∀ i, (z_sw i).length ≤ 40 := by
  intro i
  unfold z_sw
  repeat (first | decide | (cases Nat.blt i _ <;> simp only [cond]))
set_option maxHeartbeats 8000000 in
set_option maxRecDepth 10000 in
theorem z_snd {p : Program} {l : Launch} {e : Env} {R : Room} {s : State} {m : MethodId} {args : Array Value} {below : List Frame} {meth : Method} {c : Code} {cells slots : Nat} {Q : State → Prop}
    {dC : Nat → ClassId} {dI : Nat → Nat → Nat} {ad : Nat → Nat} {cA : z_C4} {A : Nat → Prop}
    (hx : p.tables.exec = Jvm.exec) {M d : Nat} (hb : c.code = z_by M) (hml : c.maxLocals = z_mx M) (hown : s.vm.findClass (z_cs (z_cn M)) = some m.cls) (hts : ∀ w ∈ z_tbl, w.before args s = true) (hK : va_K (dC, dI) vwCl (z_tys cA) s)
    (hR : d + 1 ≤ R.frames ∧ 64 * (d + 1) ≤ R.locals) (hcs : cells ≤ R.cells ∧ slots ≤ R.slots)
    {call : Nat → List Value → z_M → Option Value → z_M → Prop} (hcall : ∀ M' as σ r σ', call M' as σ r σ' → z_Mt l dC dI ad cA A d M' as σ r σ')
    {sc : Option (Nat × (Nat → Int32))} (hsc : ∀ n xs, sc = some (n, xs) → va_X (ad 100) n xs s s.heap ∧ ad 100 < s.heap.size ∧ ¬ A (ad 100))
    {RR : Option Value → z_M → Prop}
    (hRi : ∀ (x : Int32) (σ : z_M) (pc : Nat) (ls : Array Slot) (H : Heap) (locs : List Loc), (z_rk M = 1 ∨ (z_rk M = 3 ∧ (x = 0 ∨ x = 1))) → RR (some (.int x)) σ → decode (z_by M) pc = .ok (.ireturn, 1) → va_P (dC, dI) vwCl (z_ws ad cA σ) H → va_D A (z_ws ad cA σ) → va_S A s.heap H locs → W p l e R s m args below meth c H locs cells slots Q (F0 m pc ls [.int x]))
    (hRl : ∀ (x : Int64) (σ : z_M) (pc : Nat) (ls : Array Slot) (H : Heap) (locs : List Loc), z_rk M = 2 → RR (some (.long x)) σ → decode (z_by M) pc = .ok (.lreturn, 1) → va_P (dC, dI) vwCl (z_ws ad cA σ) H → va_D A (z_ws ad cA σ) → va_S A s.heap H locs → W p l e R s m args below meth c H locs cells slots Q (F0 m pc ls [.long x]))
    (hRv : ∀ (σ : z_M) (pc : Nat) (ls : Array Slot) (H : Heap) (locs : List Loc), z_rk M = 0 → RR none σ → decode (z_by M) pc = .ok (.return_, 1) → va_P (dC, dI) vwCl (z_ws ad cA σ) H → va_D A (z_ws ad cA σ) → va_S A s.heap H locs → W p l e R s m args below meth c H locs cells slots Q (F0 m pc ls []))
    {pc : Nat} (hck : z_okE M pc (z_tb M pc) = true) {L : z_L} {st : List Value} {σ : z_M}
    (h : z_step call sc M pc L st σ (z_PP p l e R s m args below meth c cells slots Q dC dI ad cA A (z_mx M)) RR) : z_PP p l e R s m args below meth c cells slots Q dC dI ad cA A (z_mx M) pc L st σ := by
  intro H locs ls hP hD hS hl
  unfold z_step at h
  generalize z_tb M pc = en at h hck
  obtain ⟨i, nx, r1, r2, cv⟩ := en
  have wst : ∀ {a k : Nat} {x : Int32} {en : va_E}, a < 81 → z_ce ad cA (z_wr σ a k x) a = en → (z_ws ad cA σ).set a (ad a, en) = z_ws ad cA (z_wr σ a k x) := fun ha he => z_ws_set ha he (fun c' hne => z_ce_congr (z_wr_ne hne) rfl)
  have hty0 : (z_tys cA)[0]? = some (cA.1, .int) := rfl
  have hty1 : (z_tys cA)[1]? = some (cA.2.1, .long) := rfl
  cases i with
  | iadd =>
    simp only [z_okE, Bool.and_eq_true, decide_eq_true_eq, Nat.beq_eq, Nat.blt_eq] at hck
    obtain ⟨hd, hn⟩ := hck
    subst hn
    rw [Nat.add_sub_cancel_left] at hd
    obtain ⟨y, st1, es1, h_1⟩ := z_pi_el h
    subst es1
    obtain ⟨x, st2, es2, h_2⟩ := z_pi_el h_1
    subst es2
    exact lv_iadd hx hb hd (h_2 H locs ls hP hD hS hl)
  | isub =>
    simp only [z_okE, Bool.and_eq_true, decide_eq_true_eq, Nat.beq_eq, Nat.blt_eq] at hck
    obtain ⟨hd, hn⟩ := hck
    subst hn
    rw [Nat.add_sub_cancel_left] at hd
    obtain ⟨y, st1, es1, h_1⟩ := z_pi_el h
    subst es1
    obtain ⟨x, st2, es2, h_2⟩ := z_pi_el h_1
    subst es2
    exact lv_isub hx hb hd (h_2 H locs ls hP hD hS hl)
  | imul =>
    simp only [z_okE, Bool.and_eq_true, decide_eq_true_eq, Nat.beq_eq, Nat.blt_eq] at hck
    obtain ⟨hd, hn⟩ := hck
    subst hn
    rw [Nat.add_sub_cancel_left] at hd
    obtain ⟨y, st1, es1, h_1⟩ := z_pi_el h
    subst es1
    obtain ⟨x, st2, es2, h_2⟩ := z_pi_el h_1
    subst es2
    exact lv_imul hx hb hd (h_2 H locs ls hP hD hS hl)
  | iand =>
    simp only [z_okE, Bool.and_eq_true, decide_eq_true_eq, Nat.beq_eq, Nat.blt_eq] at hck
    obtain ⟨hd, hn⟩ := hck
    subst hn
    rw [Nat.add_sub_cancel_left] at hd
    obtain ⟨y, st1, es1, h_1⟩ := z_pi_el h
    subst es1
    obtain ⟨x, st2, es2, h_2⟩ := z_pi_el h_1
    subst es2
    exact lv_iand hx hb hd (h_2 H locs ls hP hD hS hl)
  | ior =>
    simp only [z_okE, Bool.and_eq_true, decide_eq_true_eq, Nat.beq_eq, Nat.blt_eq] at hck
    obtain ⟨hd, hn⟩ := hck
    subst hn
    rw [Nat.add_sub_cancel_left] at hd
    obtain ⟨y, st1, es1, h_1⟩ := z_pi_el h
    subst es1
    obtain ⟨x, st2, es2, h_2⟩ := z_pi_el h_1
    subst es2
    exact lv_ior hx hb hd (h_2 H locs ls hP hD hS hl)
  | ixor =>
    simp only [z_okE, Bool.and_eq_true, decide_eq_true_eq, Nat.beq_eq, Nat.blt_eq] at hck
    obtain ⟨hd, hn⟩ := hck
    subst hn
    rw [Nat.add_sub_cancel_left] at hd
    obtain ⟨y, st1, es1, h_1⟩ := z_pi_el h
    subst es1
    obtain ⟨x, st2, es2, h_2⟩ := z_pi_el h_1
    subst es2
    exact lv_ixor hx hb hd (h_2 H locs ls hP hD hS hl)
  | ishl =>
    simp only [z_okE, Bool.and_eq_true, decide_eq_true_eq, Nat.beq_eq, Nat.blt_eq] at hck
    obtain ⟨hd, hn⟩ := hck
    subst hn
    rw [Nat.add_sub_cancel_left] at hd
    obtain ⟨y, st1, es1, h_1⟩ := z_pi_el h
    subst es1
    obtain ⟨x, st2, es2, h_2⟩ := z_pi_el h_1
    subst es2
    exact lv_ishl hx hb hd (h_2 H locs ls hP hD hS hl)
  | ishr =>
    simp only [z_okE, Bool.and_eq_true, decide_eq_true_eq, Nat.beq_eq, Nat.blt_eq] at hck
    obtain ⟨hd, hn⟩ := hck
    subst hn
    rw [Nat.add_sub_cancel_left] at hd
    obtain ⟨y, st1, es1, h_1⟩ := z_pi_el h
    subst es1
    obtain ⟨x, st2, es2, h_2⟩ := z_pi_el h_1
    subst es2
    exact lv_ishr hx hb hd (h_2 H locs ls hP hD hS hl)
  | iushr =>
    simp only [z_okE, Bool.and_eq_true, decide_eq_true_eq, Nat.beq_eq, Nat.blt_eq] at hck
    obtain ⟨hd, hn⟩ := hck
    subst hn
    rw [Nat.add_sub_cancel_left] at hd
    obtain ⟨y, st1, es1, h_1⟩ := z_pi_el h
    subst es1
    obtain ⟨x, st2, es2, h_2⟩ := z_pi_el h_1
    subst es2
    exact lv_iushr hx hb hd rfl (h_2 H locs ls hP hD hS hl)
  | idiv =>
    simp only [z_okE, Bool.and_eq_true, decide_eq_true_eq, Nat.beq_eq, Nat.blt_eq] at hck
    obtain ⟨hd, hn⟩ := hck
    subst hn
    rw [Nat.add_sub_cancel_left] at hd
    obtain ⟨y, st1, es1, h_1⟩ := z_pi_el h
    subst es1
    obtain ⟨x, st2, es2, h_2⟩ := z_pi_el h_1
    subst es2
    exact lv_idiv hx hb hd h_2.1 (h_2.2 H locs ls hP hD hS hl)
  | irem =>
    simp only [z_okE, Bool.and_eq_true, decide_eq_true_eq, Nat.beq_eq, Nat.blt_eq] at hck
    obtain ⟨hd, hn⟩ := hck
    subst hn
    rw [Nat.add_sub_cancel_left] at hd
    obtain ⟨y, st1, es1, h_1⟩ := z_pi_el h
    subst es1
    obtain ⟨x, st2, es2, h_2⟩ := z_pi_el h_1
    subst es2
    exact lv_irem hx hb hd h_2.1 (h_2.2 H locs ls hP hD hS hl)
  | ineg =>
    simp only [z_okE, Bool.and_eq_true, decide_eq_true_eq, Nat.beq_eq, Nat.blt_eq] at hck
    obtain ⟨hd, hn⟩ := hck
    subst hn
    rw [Nat.add_sub_cancel_left] at hd
    obtain ⟨x, st1, es1, h_1⟩ := z_pi_el h
    subst es1
    exact lv_ineg hx hb hd (h_1 H locs ls hP hD hS hl)
  | ladd =>
    simp only [z_okE, Bool.and_eq_true, decide_eq_true_eq, Nat.beq_eq, Nat.blt_eq] at hck
    obtain ⟨hd, hn⟩ := hck
    subst hn
    rw [Nat.add_sub_cancel_left] at hd
    obtain ⟨y, st1, es1, h_1⟩ := z_pl_el h
    subst es1
    obtain ⟨x, st2, es2, h_2⟩ := z_pl_el h_1
    subst es2
    exact lv_ladd hx hb hd (h_2 H locs ls hP hD hS hl)
  | lmul =>
    simp only [z_okE, Bool.and_eq_true, decide_eq_true_eq, Nat.beq_eq, Nat.blt_eq] at hck
    obtain ⟨hd, hn⟩ := hck
    subst hn
    rw [Nat.add_sub_cancel_left] at hd
    obtain ⟨y, st1, es1, h_1⟩ := z_pl_el h
    subst es1
    obtain ⟨x, st2, es2, h_2⟩ := z_pl_el h_1
    subst es2
    exact lv_lmul hx hb hd (h_2 H locs ls hP hD hS hl)
  | lneg =>
    simp only [z_okE, Bool.and_eq_true, decide_eq_true_eq, Nat.beq_eq, Nat.blt_eq] at hck
    obtain ⟨hd, hn⟩ := hck
    subst hn
    rw [Nat.add_sub_cancel_left] at hd
    obtain ⟨x, st1, es1, h_1⟩ := z_pl_el h
    subst es1
    exact lv_lneg hx hb hd (h_1 H locs ls hP hD hS hl)
  | lshl =>
    simp only [z_okE, Bool.and_eq_true, decide_eq_true_eq, Nat.beq_eq, Nat.blt_eq] at hck
    obtain ⟨hd, hn⟩ := hck
    subst hn
    rw [Nat.add_sub_cancel_left] at hd
    obtain ⟨y, st1, es1, h_1⟩ := z_pi_el h
    subst es1
    obtain ⟨x, st2, es2, h_2⟩ := z_pl_el h_1
    subst es2
    exact lv_lshl hx hb hd rfl (h_2 H locs ls hP hD hS hl)
  | lushr =>
    simp only [z_okE, Bool.and_eq_true, decide_eq_true_eq, Nat.beq_eq, Nat.blt_eq] at hck
    obtain ⟨hd, hn⟩ := hck
    subst hn
    rw [Nat.add_sub_cancel_left] at hd
    obtain ⟨y, st1, es1, h_1⟩ := z_pi_el h
    subst es1
    obtain ⟨x, st2, es2, h_2⟩ := z_pl_el h_1
    subst es2
    exact lv_lushr hx hb hd rfl (h_2 H locs ls hP hD hS hl)
  | lcmp =>
    simp only [z_okE, Bool.and_eq_true, decide_eq_true_eq, Nat.beq_eq, Nat.blt_eq] at hck
    obtain ⟨hd, hn⟩ := hck
    subst hn
    rw [Nat.add_sub_cancel_left] at hd
    obtain ⟨y, st1, es1, h_1⟩ := z_pl_el h
    subst es1
    obtain ⟨x, st2, es2, h_2⟩ := z_pl_el h_1
    subst es2
    exact W.lcmp hx hb hd (h_2 H locs ls hP hD hS hl)
  | i2l =>
    simp only [z_okE, Bool.and_eq_true, decide_eq_true_eq, Nat.beq_eq, Nat.blt_eq] at hck
    obtain ⟨hd, hn⟩ := hck
    subst hn
    rw [Nat.add_sub_cancel_left] at hd
    obtain ⟨x, st1, es1, h_1⟩ := z_pi_el h
    subst es1
    exact lv_i2l hx hb hd rfl (h_1 H locs ls hP hD hS hl)
  | i2b =>
    simp only [z_okE, Bool.and_eq_true, decide_eq_true_eq, Nat.beq_eq, Nat.blt_eq] at hck
    obtain ⟨hd, hn⟩ := hck
    subst hn
    rw [Nat.add_sub_cancel_left] at hd
    obtain ⟨x, st1, es1, h_1⟩ := z_pi_el h
    subst es1
    exact lv_i2b hx hb hd rfl (h_1 H locs ls hP hD hS hl)
  | i2s =>
    simp only [z_okE, Bool.and_eq_true, decide_eq_true_eq, Nat.beq_eq, Nat.blt_eq] at hck
    obtain ⟨hd, hn⟩ := hck
    subst hn
    rw [Nat.add_sub_cancel_left] at hd
    obtain ⟨x, st1, es1, h_1⟩ := z_pi_el h
    subst es1
    exact lv_i2s hx hb hd rfl (h_1 H locs ls hP hD hS hl)
  | l2i =>
    simp only [z_okE, Bool.and_eq_true, decide_eq_true_eq, Nat.beq_eq, Nat.blt_eq] at hck
    obtain ⟨hd, hn⟩ := hck
    subst hn
    rw [Nat.add_sub_cancel_left] at hd
    obtain ⟨x, st1, es1, h_1⟩ := z_pl_el h
    subst es1
    exact lv_l2i hx hb hd rfl (h_1 H locs ls hP hD hS hl)
  | dup =>
    simp only [z_okE, Bool.and_eq_true, decide_eq_true_eq, Nat.beq_eq, Nat.blt_eq] at hck
    obtain ⟨hd, hn⟩ := hck
    subst hn
    rw [Nat.add_sub_cancel_left] at hd
    obtain ⟨v, st1, es1, hv, h_1⟩ := z_p1_el h
    subst es1
    exact lv_dup hx hb hd (by rw [z_tr_cat]; exact hv) (h_1 H locs ls hP hD hS hl)
  | dup2 =>
    simp only [z_okE, Bool.and_eq_true, decide_eq_true_eq, Nat.beq_eq, Nat.blt_eq] at hck
    obtain ⟨hd, hn⟩ := hck
    subst hn
    rw [Nat.add_sub_cancel_left] at hd
    obtain ⟨v, st1, es1, hv, h_1⟩ := z_p1_el h
    subst es1
    obtain ⟨w, st2, es2, hw, h_2⟩ := z_p1_el h_1
    subst es2
    exact lv_dup2_11 hx hb hd (by rw [z_tr_cat]; exact hv) (by rw [z_tr_cat]; exact hw) (h_2 H locs ls hP hD hS hl)
  | iconst n =>
    simp only [z_okE, Bool.and_eq_true, decide_eq_true_eq, Nat.beq_eq, Nat.blt_eq] at hck
    obtain ⟨hd, hv, hn⟩ := hck
    subst hn
    rw [Nat.add_sub_cancel_left] at hd
    exact lv_iconst hx hb hd hv (h H locs ls hP hD hS hl)
  | bipush n =>
    simp only [z_okE, Bool.and_eq_true, decide_eq_true_eq, Nat.beq_eq, Nat.blt_eq] at hck
    obtain ⟨hd, hv, hn⟩ := hck
    subst hn
    rw [Nat.add_sub_cancel_left] at hd
    exact lv_bipush hx hb hd hv (h H locs ls hP hD hS hl)
  | sipush n =>
    simp only [z_okE, Bool.and_eq_true, decide_eq_true_eq, Nat.beq_eq, Nat.blt_eq] at hck
    obtain ⟨hd, hv, hn⟩ := hck
    subst hn
    rw [Nat.add_sub_cancel_left] at hd
    exact lv_sipush hx hb hd hv (h H locs ls hP hD hS hl)
  | lconst n =>
    simp only [z_okE, Bool.and_eq_true, decide_eq_true_eq, Nat.beq_eq, Nat.blt_eq] at hck
    obtain ⟨hd, hn⟩ := hck
    subst hn
    rw [Nat.add_sub_cancel_left] at hd
    exact lv_lconst hx hb hd rfl (h H locs ls hP hD hS hl)
  | ldc x =>
    simp only [z_okE, Bool.and_eq_true, decide_eq_true_eq, Nat.beq_eq, Nat.blt_eq] at hck
    obtain ⟨hd, hn, hany⟩ := hck
    subst hn
    rw [Nat.add_sub_cancel_left] at hd
    obtain ⟨q, hq, hqq⟩ := List.any_eq_true.mp hany
    simp only [Bool.and_eq_true, Nat.beq_eq, decide_eq_true_eq] at hqq
    obtain ⟨⟨e1, e2⟩, e3⟩ := hqq
    have h2 := z_cls_ok q hq
    rw [e1, e2, e3] at h2
    exact lv_ldc hx hb hown (hts _ (z_tb_of h2 rfl)) hd (h H locs ls hP hD hS hl)
  | ldc_w x =>
    simp only [z_okE, Bool.and_eq_true, decide_eq_true_eq, Nat.beq_eq, Nat.blt_eq] at hck
    obtain ⟨hd, hn, hany⟩ := hck
    subst hn
    rw [Nat.add_sub_cancel_left] at hd
    obtain ⟨q, hq, hqq⟩ := List.any_eq_true.mp hany
    simp only [Bool.and_eq_true, Nat.beq_eq, decide_eq_true_eq] at hqq
    obtain ⟨⟨e1, e2⟩, e3⟩ := hqq
    have h2 := z_cls_ok q hq
    rw [e1, e2, e3] at h2
    exact lv_ldcw hx hb hown (hts _ (z_tb_of h2 rfl)) hd (h H locs ls hP hD hS hl)
  | ldc2_w x =>
    simp only [z_okE, Bool.and_eq_true, decide_eq_true_eq, Nat.beq_eq, Nat.blt_eq] at hck
    obtain ⟨hd, hn, hany⟩ := hck
    subst hn
    rw [Nat.add_sub_cancel_left] at hd
    obtain ⟨q, hq, hqq⟩ := List.any_eq_true.mp hany
    simp only [Bool.and_eq_true, Nat.beq_eq, decide_eq_true_eq] at hqq
    obtain ⟨⟨e1, e2⟩, e3⟩ := hqq
    have h2 := z_lls_ok q hq
    rw [e1, e2, e3] at h2
    exact lv_ldc2 hx hb hown (hts _ (z_tb_of h2 rfl)) hd (h H locs ls hP hD hS hl)
  | iload j =>
    simp only [z_okE, Bool.and_eq_true, decide_eq_true_eq, Nat.beq_eq, Nat.blt_eq] at hck
    obtain ⟨hd, hn⟩ := hck
    subst hn
    rw [Nat.add_sub_cancel_left] at hd
    obtain ⟨x, hg, h_1⟩ := z_gi_el h
    exact lv_iload hx hb hd (hl.2.2 _ _ hg) (h_1 H locs ls hP hD hS hl)
  | iload_n j =>
    simp only [z_okE, Bool.and_eq_true, decide_eq_true_eq, Nat.beq_eq, Nat.blt_eq] at hck
    obtain ⟨hd, hn⟩ := hck
    subst hn
    rw [Nat.add_sub_cancel_left] at hd
    obtain ⟨x, hg, h_1⟩ := z_gi_el h
    exact lv_iload_n hx hb hd rfl (hl.2.2 _ _ hg) (h_1 H locs ls hP hD hS hl)
  | lload j =>
    simp only [z_okE, Bool.and_eq_true, decide_eq_true_eq, Nat.beq_eq, Nat.blt_eq] at hck
    obtain ⟨hd, hn⟩ := hck
    subst hn
    rw [Nat.add_sub_cancel_left] at hd
    obtain ⟨x, hg, h_1⟩ := z_gl_el h
    exact lv_lload hx hb hd (hl.2.2 _ _ hg) (h_1 H locs ls hP hD hS hl)
  | lload_n j =>
    simp only [z_okE, Bool.and_eq_true, decide_eq_true_eq, Nat.beq_eq, Nat.blt_eq] at hck
    obtain ⟨hd, hn⟩ := hck
    subst hn
    rw [Nat.add_sub_cancel_left] at hd
    obtain ⟨x, hg, h_1⟩ := z_gl_el h
    exact lv_lload_n hx hb hd rfl (hl.2.2 _ _ hg) (h_1 H locs ls hP hD hS hl)
  | aload j =>
    simp only [z_okE, Bool.and_eq_true, decide_eq_true_eq, Nat.beq_eq, Nat.blt_eq] at hck
    obtain ⟨hd, hn⟩ := hck
    subst hn
    rw [Nat.add_sub_cancel_left] at hd
    obtain ⟨x, hg, h_1⟩ := z_gr_el h
    exact lv_aload hx hb hd (hl.2.2 _ _ hg) (h_1 H locs ls hP hD hS hl)
  | aload_n j =>
    simp only [z_okE, Bool.and_eq_true, decide_eq_true_eq, Nat.beq_eq, Nat.blt_eq] at hck
    obtain ⟨hd, hn⟩ := hck
    subst hn
    rw [Nat.add_sub_cancel_left] at hd
    obtain ⟨x, hg, h_1⟩ := z_gr_el h
    exact lv_aload_n hx hb hd rfl (hl.2.2 _ _ hg) (h_1 H locs ls hP hD hS hl)
  | istore j =>
    simp only [z_okE, Bool.and_eq_true, decide_eq_true_eq, Nat.beq_eq, Nat.blt_eq] at hck
    obtain ⟨hd, hn, hj⟩ := hck
    subst hn
    rw [Nat.add_sub_cancel_left] at hd
    obtain ⟨x, st1, es1, h_1⟩ := z_pi_el h
    subst es1
    obtain ⟨hnl, h_2⟩ := z_bt h_1
    obtain ⟨L2, h_3, -, hg⟩ := z_set_get h_2
    exact lv_istore hx hb hd (z_kl_has hl) hj rfl (fun ls2 hl2 => h_3 H locs ls2 hP hD hS (z_lv_1 hl hnl hg hl2))
  | istore_n j =>
    simp only [z_okE, Bool.and_eq_true, decide_eq_true_eq, Nat.beq_eq, Nat.blt_eq] at hck
    obtain ⟨hd, hn, hj⟩ := hck
    subst hn
    rw [Nat.add_sub_cancel_left] at hd
    obtain ⟨x, st1, es1, h_1⟩ := z_pi_el h
    subst es1
    obtain ⟨hnl, h_2⟩ := z_bt h_1
    obtain ⟨L2, h_3, -, hg⟩ := z_set_get h_2
    exact lv_istore_n hx hb hd rfl (z_kl_has hl) hj rfl (fun ls2 hl2 => h_3 H locs ls2 hP hD hS (z_lv_1 hl hnl hg hl2))
  | astore j =>
    simp only [z_okE, Bool.and_eq_true, decide_eq_true_eq, Nat.beq_eq, Nat.blt_eq] at hck
    obtain ⟨hd, hn, hj⟩ := hck
    subst hn
    rw [Nat.add_sub_cancel_left] at hd
    obtain ⟨x, st1, es1, h_1⟩ := z_pr_el h
    subst es1
    obtain ⟨hnl, h_2⟩ := z_bt h_1
    obtain ⟨L2, h_3, -, hg⟩ := z_set_get h_2
    exact lv_astore hx hb hd (z_kl_has hl) hj rfl (fun ls2 hl2 => h_3 H locs ls2 hP hD hS (z_lv_1 hl hnl hg hl2))
  | astore_n j =>
    simp only [z_okE, Bool.and_eq_true, decide_eq_true_eq, Nat.beq_eq, Nat.blt_eq] at hck
    obtain ⟨hd, hn, hj⟩ := hck
    subst hn
    rw [Nat.add_sub_cancel_left] at hd
    obtain ⟨x, st1, es1, h_1⟩ := z_pr_el h
    subst es1
    obtain ⟨hnl, h_2⟩ := z_bt h_1
    obtain ⟨L2, h_3, -, hg⟩ := z_set_get h_2
    exact lv_astore_n hx hb hd rfl (z_kl_has hl) hj rfl (fun ls2 hl2 => h_3 H locs ls2 hP hD hS (z_lv_1 hl hnl hg hl2))
  | lstore j =>
    simp only [z_okE, Bool.and_eq_true, decide_eq_true_eq, Nat.beq_eq, Nat.blt_eq] at hck
    obtain ⟨hd, hn, hj⟩ := hck
    subst hn
    rw [Nat.add_sub_cancel_left] at hd
    obtain ⟨x, st1, es1, h_1⟩ := z_pl_el h
    subst es1
    obtain ⟨hnl, h_2⟩ := z_bt h_1
    obtain ⟨L2, h_3, -, hg⟩ := z_set_get h_2
    obtain ⟨L3, h_4, -, hg3⟩ := z_set_get h_3
    exact lv_lstore hx hb hd (z_kl_has hl) hj rfl (fun ls2 hl2 => h_4 H locs ls2 hP hD hS (z_lv_2 hl hnl (fun q => by rw [hg3, hg]) hl2))
  | lstore_n j =>
    simp only [z_okE, Bool.and_eq_true, decide_eq_true_eq, Nat.beq_eq, Nat.blt_eq] at hck
    obtain ⟨hd, hn, hj⟩ := hck
    subst hn
    rw [Nat.add_sub_cancel_left] at hd
    obtain ⟨x, st1, es1, h_1⟩ := z_pl_el h
    subst es1
    obtain ⟨hnl, h_2⟩ := z_bt h_1
    obtain ⟨L2, h_3, -, hg⟩ := z_set_get h_2
    obtain ⟨L3, h_4, -, hg3⟩ := z_set_get h_3
    exact lv_lstore_n hx hb hd rfl (z_kl_has hl) hj rfl (fun ls2 hl2 => h_4 H locs ls2 hP hD hS (z_lv_2 hl hnl (fun q => by rw [hg3, hg]) hl2))
  | iinc j n =>
    simp only [z_okE, Bool.and_eq_true, decide_eq_true_eq, Nat.beq_eq, Nat.blt_eq] at hck
    obtain ⟨hd, ⟨hv, hn⟩, hj⟩ := hck
    subst hn
    rw [Nat.add_sub_cancel_left] at hd
    obtain ⟨x, hgx, h_1⟩ := z_gi_el h
    obtain ⟨hnl, h_2⟩ := z_bt h_1
    obtain ⟨L2, h_3, -, hg⟩ := z_set_get h_2
    have hmem : (j, Value.int x) ∈ z_kl ad (z_mx M) L := List.mem_filterMap.mpr ⟨j, List.mem_range.mpr hj, by rw [hgx]; rfl⟩
    obtain ⟨k, hk⟩ := List.getElem?_of_mem hmem
    exact lv_iinc (v := x + cv) hx hb hd (z_kl_has hl) hk (by rw [hv]) hj rfl (fun ls2 hl2 => h_3 H locs ls2 hP hD hS (z_lv_1 hl hnl hg hl2))
  | goto off =>
    simp only [z_okE, Bool.and_eq_true, decide_eq_true_eq, Nat.beq_eq, Nat.blt_eq] at hck
    obtain ⟨hd, hn, ht⟩ := hck
    subst hn
    rw [Nat.add_sub_cancel_left] at hd
    exact lv_goto hx hb hd ht (h H locs ls hP hD hS hl)
  | ifCond cn off =>
    simp only [z_okE, Bool.and_eq_true, decide_eq_true_eq, Nat.beq_eq, Nat.blt_eq] at hck
    obtain ⟨hd, hn, ht⟩ := hck
    subst hn
    rw [Nat.add_sub_cancel_left] at hd
    obtain ⟨x, st1, es1, h_1⟩ := z_pi_el h
    subst es1
    cases cn with
    | eq => exact lv_if_eq hx hb hd ht (fun q => h_1.1 q H locs ls hP hD hS hl) (fun q => h_1.2 q H locs ls hP hD hS hl)
    | ne => exact lv_if_ne hx hb hd ht (fun q => h_1.1 q H locs ls hP hD hS hl) (fun q => h_1.2 q H locs ls hP hD hS hl)
    | lt => exact lv_if_lt hx hb hd ht (fun q => h_1.1 q H locs ls hP hD hS hl) (fun q => h_1.2 q H locs ls hP hD hS hl)
    | ge => exact lv_if_ge hx hb hd ht (fun q => h_1.1 q H locs ls hP hD hS hl) (fun q => h_1.2 q H locs ls hP hD hS hl)
    | gt => exact lv_if_gt hx hb hd ht (fun q => h_1.1 q H locs ls hP hD hS hl) (fun q => h_1.2 q H locs ls hP hD hS hl)
    | le => exact lv_if_le hx hb hd ht (fun q => h_1.1 q H locs ls hP hD hS hl) (fun q => h_1.2 q H locs ls hP hD hS hl)
  | if_icmp cn off =>
    simp only [z_okE, Bool.and_eq_true, decide_eq_true_eq, Nat.beq_eq, Nat.blt_eq] at hck
    obtain ⟨hd, hn, ht⟩ := hck
    subst hn
    rw [Nat.add_sub_cancel_left] at hd
    obtain ⟨y, st1, es1, h_1⟩ := z_pi_el h
    subst es1
    obtain ⟨x, st2, es2, h_2⟩ := z_pi_el h_1
    subst es2
    cases cn with
    | eq => exact lv_icmp_eq hx hb hd ht (fun q => h_2.1 q H locs ls hP hD hS hl) (fun q => h_2.2 q H locs ls hP hD hS hl)
    | ne => exact lv_icmp_ne hx hb hd ht (fun q => h_2.1 q H locs ls hP hD hS hl) (fun q => h_2.2 q H locs ls hP hD hS hl)
    | lt => exact lv_icmp_lt hx hb hd ht (fun q => h_2.1 q H locs ls hP hD hS hl) (fun q => h_2.2 q H locs ls hP hD hS hl)
    | ge => exact lv_icmp_ge hx hb hd ht (fun q => h_2.1 q H locs ls hP hD hS hl) (fun q => h_2.2 q H locs ls hP hD hS hl)
    | gt => exact lv_icmp_gt hx hb hd ht (fun q => h_2.1 q H locs ls hP hD hS hl) (fun q => h_2.2 q H locs ls hP hD hS hl)
    | le => exact lv_icmp_le hx hb hd ht (fun q => h_2.1 q H locs ls hP hD hS hl) (fun q => h_2.2 q H locs ls hP hD hS hl)
  | tableswitch df lo hi offs =>
    simp only [z_okE, Bool.and_eq_true, decide_eq_true_eq, Nat.beq_eq, Nat.blt_eq] at hck
    obtain ⟨hd, ⟨⟨hlo, hhi⟩, hdf⟩, hal⟩ := hck
    subst hlo
    obtain ⟨x, st1, es1, h_1⟩ := z_pi_el h
    subst es1
    obtain ⟨g1, g2⟩ := z_sw_ok h_1
    have hlen := z_sw_len r1
    by_cases hin : x.toInt < 0 ∨ hi < x.toInt
    · refine lv_tableOut hx hb hd hin hdf (g2 ?_ H locs ls hP hD hS hl)
      rcases hin with q | q
      · exact Or.inl (Int32.lt_iff_toInt_lt.mpr (by simpa using q))
      · right
        rw [Nat.zero_add]
        show nI _ ≤ x
        rw [Int32.le_iff_toInt_le, nI_toInt (by omega)]
        omega
    · have h0 : 0 ≤ x.toInt := by omega
      have h1 : x.toInt ≤ hi := by omega
      have hj : x.toInt.toNat < (z_sw r1).length := by omega
      obtain ⟨t, ht1, ht2⟩ := g1 x.toInt.toNat hj (by
        rw [Nat.zero_add]
        show x = nI _
        apply Int32.toInt_inj.mp
        rw [nI_toInt (by omega)]
        omega)
      have h3 := List.all_eq_true.mp hal x.toInt.toNat (List.mem_range.mpr hj)
      rw [decide_eq_true_eq, ht1] at h3
      obtain ⟨off, ho, hoe⟩ := Option.map_eq_some_iff.mp (show offs[x.toInt.toNat]?.map (fun o => (pc : Int) + o) = some (t : Int) from h3)
      exact lv_tableIn hx hb hd (by omega) (by omega) (by rw [Int.sub_zero]; exact ho) hoe (ht2 H locs ls hP hD hS hl)
  | getfield x =>
    simp only [z_okE, Bool.and_eq_true, decide_eq_true_eq, Nat.beq_eq, Nat.blt_eq] at hck
    obtain ⟨hd, hn, hany⟩ := hck
    subst hn
    rw [Nat.add_sub_cancel_left] at hd
    obtain ⟨q, hq, hqq⟩ := List.any_eq_true.mp hany
    simp only [Bool.and_eq_true, Nat.beq_eq] at hqq
    obtain ⟨⟨⟨e1, e2⟩, e3⟩, e4⟩ := hqq
    have h2 := z_fls_ok q hq
    rw [e1, e2, e3, e4] at h2
    obtain ⟨h11, hk, h2⟩ := h2
    obtain ⟨a, st1, es1, h_1⟩ := z_pr_el h
    subst es1
    obtain ⟨hc, h_2⟩ := z_bt h_1
    rw [Bool.and_eq_true, Nat.beq_eq, Nat.blt_eq] at hc
    obtain ⟨hkd, hlt⟩ := hc
    subst hkd
    cases hz : z_rf a r2 with
    | some t =>
      rw [hz] at h_2
      exact va_get (D := (dC, dI)) (v := .ref (ad t)) hx hb hts (z_lay h11) hown hK hP a (by rw [z_ws_get hlt, z_ce_obj rfl h11]) (z_cl_get h11) r2 hk (hts _ (z_tb_of h2 rfl)) (fun _ h9 => h9) (by rw [z_fs_get hk, hz]) hd (h_2 H locs ls hP hD hS hl)
    | none =>
      rw [hz] at h_2
      exact va_get (D := (dC, dI)) (v := .int (σ.1 a r2)) hx hb hts (z_lay h11) hown hK hP a (by rw [z_ws_get hlt, z_ce_obj rfl h11]) (z_cl_get h11) r2 hk (hts _ (z_tb_of h2 rfl)) (fun _ h9 => h9) (by rw [z_fs_get hk, hz]) hd (h_2 H locs ls hP hD hS hl)
  | putfield x =>
    simp only [z_okE, Bool.and_eq_true, decide_eq_true_eq, Nat.beq_eq, Nat.blt_eq] at hck
    obtain ⟨hd, hn, hany⟩ := hck
    subst hn
    rw [Nat.add_sub_cancel_left] at hd
    obtain ⟨q, hq, hqq⟩ := List.any_eq_true.mp hany
    simp only [Bool.and_eq_true, Nat.beq_eq] at hqq
    obtain ⟨⟨⟨e1, e2⟩, e3⟩, e4⟩ := hqq
    have h2 := z_fls_ok q hq
    rw [e1, e2, e3, e4] at h2
    obtain ⟨h11, hk, h2⟩ := h2
    obtain ⟨v, st1, es1, h_1⟩ := z_pi_el h
    subst es1
    obtain ⟨a, st2, es2, h_2⟩ := z_pr_el h_1
    subst es2
    obtain ⟨hc, h_3⟩ := z_bt h_2
    rw [Bool.and_eq_true, Nat.beq_eq, Nat.blt_eq] at hc
    obtain ⟨hkd, hlt⟩ := hc
    subst hkd
    rcases z_be h_3 with ⟨hfk, h_4⟩ | ⟨-, h_4⟩
    · rw [Nat.beq_eq] at hfk
      obtain ⟨hty, hfin⟩ := (z_fk_ok _ h11 r2 hk).1 hfk
      exact va_put (D := (dC, dI)) (v := .int v) (ty := .int) hx hb hts (z_lay h11) (z_ty (z_kd a)) (z_ty_ok _ h11) (z_nm_ok _ h11) hown hK hP hD hS a (by rw [z_ws_get hlt, z_ce_obj rfl h11]) (z_cl_get h11) r2 hk (hts _ (z_tb_of h2 rfl)) (fun _ h9 => h9) hfin (by rw [z_ty_ok _ h11 r2 hk, hty]) rfl rfl (by simp [z_fs, hk]) hd (fun H1 locs1 p1 p2 p3 => by
        rw [wst hlt (k := r2) (x := v) (by rw [z_ce_obj rfl h11, z_fs_set hlt h11 hk (by rw [hfk]; decide)])] at p1 p2
        exact h_4 H1 locs1 ls p1 p2 p3 hl)
    · obtain ⟨hfk, h_5⟩ := z_bt h_4
      rw [Nat.beq_eq] at hfk
      obtain ⟨hty, hfin⟩ := (z_fk_ok _ h11 r2 hk).2 hfk
      obtain ⟨h01, h_6⟩ := h_5
      exact va_put (D := (dC, dI)) (v := .int v) (ty := .boolean) hx hb hts (z_lay h11) (z_ty (z_kd a)) (z_ty_ok _ h11) (z_nm_ok _ h11) hown hK hP hD hS a (by rw [z_ws_get hlt, z_ce_obj rfl h11]) (z_cl_get h11) r2 hk (hts _ (z_tb_of h2 rfl)) (fun _ h9 => h9) hfin (by rw [z_ty_ok _ h11 r2 hk, hty]) (by rcases h01 with rfl | rfl <;> rfl) (by rcases h01 with rfl | rfl <;> rfl) (by simp [z_fs, hk]) hd (fun H1 locs1 p1 p2 p3 => by
        rw [wst hlt (k := r2) (x := v) (by rw [z_ce_obj rfl h11, z_fs_set hlt h11 hk (by rw [hfk]; decide)])] at p1 p2
        exact h_6 H1 locs1 ls p1 p2 p3 hl)
  | iaload =>
    simp only [z_okE, Bool.and_eq_true, decide_eq_true_eq, Nat.beq_eq, Nat.blt_eq] at hck
    obtain ⟨hd, hn⟩ := hck
    subst hn
    rw [Nat.add_sub_cancel_left] at hd
    obtain ⟨j, st1, es1, h_1⟩ := z_pi_el h
    subst es1
    obtain ⟨a, st2, es2, h_2⟩ := z_pr_el h_1
    subst es2
    rcases z_be h_2 with ⟨ha, h_3⟩ | ⟨-, h_3⟩
    · rw [Nat.beq_eq] at ha
      subst ha
      cases hs0 : sc with
      | none => rw [hs0] at h_3; exact h_3.elim
      | some qq =>
        obtain ⟨n, xs⟩ := qq
        rw [hs0] at h_3
        obtain ⟨x1, x2, x3⟩ := hsc n xs hs0
        exact va_sld hx hb x1 x2 x3 hS h_3.1 hd (h_3.2 H locs ls hP hD hS hl)
    · obtain ⟨hak, h_4⟩ := z_bt h_3
      rw [Nat.beq_eq] at hak
      exact va_iald (D := (dC, dI)) hx hb hK hP a 0 (by rw [z_ws_get (z_ak_lt hak), z_ce_arr hak]) hty0 h_4.1 hd (h_4.2 H locs ls hP hD hS hl)
  | iastore =>
    simp only [z_okE, Bool.and_eq_true, decide_eq_true_eq, Nat.beq_eq, Nat.blt_eq] at hck
    obtain ⟨hd, hn⟩ := hck
    subst hn
    rw [Nat.add_sub_cancel_left] at hd
    obtain ⟨v, st1, es1, h_1⟩ := z_pi_el h
    subst es1
    obtain ⟨j, st2, es2, h_2⟩ := z_pi_el h_1
    subst es2
    obtain ⟨a, st3, es3, h_3⟩ := z_pr_el h_2
    subst es3
    obtain ⟨hak, h_4⟩ := z_bt h_3
    rw [Nat.beq_eq] at hak
    exact va_iast (D := (dC, dI)) hx hb hK hP hD hS a 0 (by rw [z_ws_get (z_ak_lt hak), z_ce_arr hak]) hty0 h_4.1 hd (fun H1 locs1 p1 p2 p3 => by
        rw [wst (z_ak_lt hak) (k := j.toNatClampNeg) (x := v) (by rw [z_ce_arr hak, z_wr_eq])] at p1 p2
        exact h_4.2 H1 locs1 ls p1 p2 p3 hl)
  | laload =>
    simp only [z_okE, Bool.and_eq_true, decide_eq_true_eq, Nat.beq_eq, Nat.blt_eq] at hck
    obtain ⟨hd, hn⟩ := hck
    subst hn
    rw [Nat.add_sub_cancel_left] at hd
    obtain ⟨j, st1, es1, h_1⟩ := z_pi_el h
    subst es1
    obtain ⟨a, st2, es2, h_2⟩ := z_pr_el h_1
    subst es2
    obtain ⟨ha, h_3⟩ := z_bt h_2
    rw [Nat.beq_eq] at ha
    subst ha
    exact va_lald (D := (dC, dI)) (f := σ.2) (cA := cA.2.1) (n := 128) hx hb hK hP 27 1 (by rw [z_ws_get (by decide)]; rfl) hty1 h_3.1 hd (h_3.2 H locs ls hP hD hS hl)
  | lastore =>
    simp only [z_okE, Bool.and_eq_true, decide_eq_true_eq, Nat.beq_eq, Nat.blt_eq] at hck
    obtain ⟨hd, hn⟩ := hck
    subst hn
    rw [Nat.add_sub_cancel_left] at hd
    obtain ⟨v, st1, es1, h_1⟩ := z_pl_el h
    subst es1
    obtain ⟨j, st2, es2, h_2⟩ := z_pi_el h_1
    subst es2
    obtain ⟨a, st3, es3, h_3⟩ := z_pr_el h_2
    subst es3
    obtain ⟨ha, h_4⟩ := z_bt h_3
    rw [Nat.beq_eq] at ha
    subst ha
    exact va_last (D := (dC, dI)) (f := σ.2) (cA := cA.2.1) (n := 128) hx hb hK hP hD hS 27 1 (by rw [z_ws_get (by decide)]; rfl) hty1 h_4.1 hd (fun H1 locs1 p1 p2 p3 => by
      have e1 : (z_ws ad cA σ).set 27 (ad 27, .inl (cA.2.1, 128, .inr (.inl (vp_updL σ.2 j.toNatClampNeg v)))) = z_ws ad cA (z_wl σ j.toNatClampNeg v) := z_ws_set (by decide) rfl (fun c' hne => by
        rcases Nat.lt_or_ge c' 81 with q | q
        · have h3 := (z_arrs c' q).2.2
          simp only [z_ce, z_fs, z_wl]
          by_cases h27 : z_ak c' = 2
          · exact absurd (h3 h27) hne
          · simp [h27]
        · have h27 : z_ak c' = 0 := by
            have hb : Nat.blt c' 81 = false := by
              cases hz : Nat.blt c' 81 with
              | false => rfl
              | true => exact absurd (Nat.le_of_ble_eq_true hz) (by omega)
            unfold z_ak
            rw [hb]
            rfl
          simp [z_ce, z_fs, z_wl, h27])
      rw [e1] at p1 p2
      exact h_4.2 H1 locs1 ls p1 p2 p3 hl)
  | aaload =>
    simp only [z_okE, Bool.and_eq_true, decide_eq_true_eq, Nat.beq_eq, Nat.blt_eq] at hck
    obtain ⟨hd, hn⟩ := hck
    subst hn
    rw [Nat.add_sub_cancel_left] at hd
    obtain ⟨j, st1, es1, h_1⟩ := z_pi_el h
    subst es1
    obtain ⟨a, st2, es2, h_2⟩ := z_pr_el h_1
    subst es2
    rcases z_be h_2 with ⟨ha, h_3⟩ | ⟨-, h_3⟩
    · rw [Nat.beq_eq] at ha
      subst ha
      rcases h_3 with ⟨rfl, h_4⟩ | ⟨rfl, h_4⟩ | ⟨rfl, h_4⟩ | ⟨rfl, h_4⟩
      · exact va_aldq (D := (dC, dI)) (cA := cA.2.2.1) (C := RX7) (n := 4) (f := fun k => some (ad (37 + k))) hx hb hK hP 8 2 (by rw [z_ws_get (by decide)]; rfl) rfl (by unfold vp_in; decide) hd (h_4 H locs ls hP hD hS hl)
      · exact va_aldq (D := (dC, dI)) (cA := cA.2.2.1) (C := RX7) (n := 4) (f := fun k => some (ad (37 + k))) hx hb hK hP 8 2 (by rw [z_ws_get (by decide)]; rfl) rfl (by unfold vp_in; decide) hd (h_4 H locs ls hP hD hS hl)
      · exact va_aldq (D := (dC, dI)) (cA := cA.2.2.1) (C := RX7) (n := 4) (f := fun k => some (ad (37 + k))) hx hb hK hP 8 2 (by rw [z_ws_get (by decide)]; rfl) rfl (by unfold vp_in; decide) hd (h_4 H locs ls hP hD hS hl)
      · exact va_aldq (D := (dC, dI)) (cA := cA.2.2.1) (C := RX7) (n := 4) (f := fun k => some (ad (37 + k))) hx hb hK hP 8 2 (by rw [z_ws_get (by decide)]; rfl) rfl (by unfold vp_in; decide) hd (h_4 H locs ls hP hD hS hl)
    · obtain ⟨ha, h_5⟩ := z_bt h_3
      rw [Nat.beq_eq] at ha
      subst ha
      rcases h_5 with ⟨rfl, h_6⟩ | ⟨rfl, h_6⟩ | ⟨rfl, h_6⟩ | ⟨rfl, h_6⟩
      · exact va_aldq (D := (dC, dI)) (cA := cA.2.2.2) (C := RX6) (n := 4) (f := fun k => some (ad (45 + k))) hx hb hK hP 9 3 (by rw [z_ws_get (by decide)]; rfl) rfl (by unfold vp_in; decide) hd (h_6 H locs ls hP hD hS hl)
      · exact va_aldq (D := (dC, dI)) (cA := cA.2.2.2) (C := RX6) (n := 4) (f := fun k => some (ad (45 + k))) hx hb hK hP 9 3 (by rw [z_ws_get (by decide)]; rfl) rfl (by unfold vp_in; decide) hd (h_6 H locs ls hP hD hS hl)
      · exact va_aldq (D := (dC, dI)) (cA := cA.2.2.2) (C := RX6) (n := 4) (f := fun k => some (ad (45 + k))) hx hb hK hP 9 3 (by rw [z_ws_get (by decide)]; rfl) rfl (by unfold vp_in; decide) hd (h_6 H locs ls hP hD hS hl)
      · exact va_aldq (D := (dC, dI)) (cA := cA.2.2.2) (C := RX6) (n := 4) (f := fun k => some (ad (45 + k))) hx hb hK hP 9 3 (by rw [z_ws_get (by decide)]; rfl) rfl (by unfold vp_in; decide) hd (h_6 H locs ls hP hD hS hl)
  | arraylength =>
    simp only [z_okE, Bool.and_eq_true, decide_eq_true_eq, Nat.beq_eq, Nat.blt_eq] at hck
    obtain ⟨hd, hn⟩ := hck
    subst hn
    rw [Nat.add_sub_cancel_left] at hd
    obtain ⟨a, st1, es1, h_1⟩ := z_pr_el h
    subst es1
    rcases z_be h_1 with ⟨ha, h_2⟩ | ⟨-, h_2⟩
    · rw [Nat.beq_eq] at ha
      subst ha
      cases hs0 : sc with
      | none => rw [hs0] at h_2; exact h_2.elim
      | some qq =>
        obtain ⟨n, xs⟩ := qq
        rw [hs0] at h_2
        obtain ⟨x1, x2, x3⟩ := hsc n xs hs0
        exact va_slen hx hb x1 x2 x3 hS hd (h_2 H locs ls hP hD hS hl)
    · obtain ⟨hak, h_3⟩ := z_bt h_2
      rw [Nat.beq_eq] at hak
      exact va_alen (D := (dC, dI)) (x := (z_al a, .inl (σ.1 a))) hx hb hK hP a 0 (by rw [z_ws_get (z_ak_lt hak), z_ce_arr hak]) hty0 rfl hd (h_3 H locs ls hP hD hS hl)
  | invokevirtual x =>
    simp only [z_okE, Bool.and_eq_true, decide_eq_true_eq, Nat.beq_eq, Nat.blt_eq] at hck
    obtain ⟨hd, ⟨⟨⟨hn, hM2⟩, hrc⟩, hna⟩, hany⟩ := hck
    subst hn
    rw [Nat.add_sub_cancel_left] at hd
    obtain ⟨as, rest, h_1, hlen, rfl⟩ := z_pop_ok h
    rw [List.append_nil] at h_1
    obtain ⟨hrv, h_2⟩ := z_bt h_1
    unfold z_rcv at hrv
    split at hrv
    next a as =>
      rw [Bool.and_eq_true, Nat.beq_eq, Nat.blt_eq] at hrv
      have hlen2 : as.length = z_na r1 := by simp at hlen; omega
      rw [show List.map (z_tr ad) ((Value.ref a :: as).reverse ++ rest) = (as.map (z_tr ad)).reverse ++ .ref (ad a) :: rest.map (z_tr ad) by simp [z_tr]]
      obtain ⟨hcat, h_3⟩ := z_bt h_2
      have hcat := Nat.le_of_ble_eq_true hcat
      rcases z_be h_3 with ⟨-, σ2, hc, h_4⟩ | ⟨-, h_4⟩
      · exact z_call1 hx hb hml hown hts hK hR hcs hM2 (hcall _ _ _ _ _ hc) hcat hrc hrv.2 hrv.1 hlen2 hany hd hP hD hS hl.1 (fun H1 locs1 p1 p2 p3 => h_4 H1 locs1 ls p1 p2 p3 hl)
      · rcases z_be h_4 with ⟨-, r, σ2, hc, h_5⟩ | ⟨-, r, σ2, hc, h_5⟩
        · exact z_call1 hx hb hml hown hts hK hR hcs hM2 (hcall _ _ _ _ _ hc) hcat hrc hrv.2 hrv.1 hlen2 hany hd hP hD hS hl.1 (fun H1 locs1 p1 p2 p3 => h_5 H1 locs1 ls p1 p2 p3 hl)
        · exact z_call1 hx hb hml hown hts hK hR hcs hM2 (hcall _ _ _ _ _ hc) hcat hrc hrv.2 hrv.1 hlen2 hany hd hP hD hS hl.1 (fun H1 locs1 p1 p2 p3 => h_5 H1 locs1 ls p1 p2 p3 hl)
    next => cases hrv
  | invokestatic x =>
    simp only [z_okE, Bool.and_eq_true, decide_eq_true_eq, Nat.beq_eq, Nat.blt_eq] at hck
    obtain ⟨hd, hn, hck⟩ := hck
    subst hn
    rw [Nat.add_sub_cancel_left] at hd
    rcases z_be h with ⟨h9, h_1⟩ | ⟨h9, h_1⟩
    · rw [h9] at hck
      have hany : z_cps.any (fun q => Nat.beq q.1 (z_cn M) && Nat.beq q.2.1 x) = true := hck
      obtain ⟨q, hq, hqq⟩ := List.any_eq_true.mp hany
      simp only [Bool.and_eq_true, Nat.beq_eq] at hqq
      have h2 := z_cps_ok q hq
      rw [hqq.1, hqq.2] at h2
      obtain ⟨w1, w2, w3⟩ := z_sysW
      obtain ⟨n, st1, es1, h_2⟩ := z_pi_el h_1
      subst es1
      obtain ⟨dp, st2, es2, h_3⟩ := z_pi_el h_2
      subst es2
      obtain ⟨dd, st3, es3, h_4⟩ := z_pr_el h_3
      subst es3
      obtain ⟨sp, st4, es4, h_5⟩ := z_pi_el h_4
      subst es4
      obtain ⟨a, st5, es5, h_6⟩ := z_pr_el h_5
      subst es5
      obtain ⟨hc, h_7⟩ := z_bt h_6
      rw [Bool.and_eq_true, Bool.and_eq_true, Nat.beq_eq, Nat.beq_eq] at hc
      obtain ⟨⟨ha1, hd1⟩, hcat⟩ := hc
      have hcat := Nat.le_of_ble_eq_true hcat
      obtain ⟨⟨c1, c2, c3, c4, c5⟩, h_8⟩ := h_7
      have hcat2 := z_cats_le (ad := ad) st5
      exact va_copyi (D := (dC, dI)) hx hb (hml.trans hl.1.symm) hown (hts _ (z_tb_of h2 rfl)) (hts _ w1) (hts _ w2) (hts _ w3) hK hP hD hS a dd 0 0 (by rw [z_ws_get (z_ak_lt ha1), z_ce_arr ha1]) (by rw [z_ws_get (z_ak_lt hd1), z_ce_arr hd1]) hty0 hty0 rfl c1 c2 c3 c4 c5 (fun _ _ => rfl) (by omega) (by show _ + (7 + 11) ≤ _; omega) hd (fun H1 locs1 p1 p2 p3 => by
        have e1 : (z_ws ad cA σ).set dd (ad dd, .inl (cA.1, z_al dd, .inl (va_cpy (σ.1 a) (σ.1 dd) sp.toNatClampNeg dp.toNatClampNeg n.toNatClampNeg))) = z_ws ad cA (z_cp σ a dd sp.toNatClampNeg dp.toNatClampNeg n.toNatClampNeg) := z_ws_set (z_ak_lt hd1) (by rw [z_ce_arr hd1]; simp [z_cp]) (fun c' hne => z_ce_congr (z_cp_ne hne) rfl)
        rw [e1] at p1 p2
        exact h_8 H1 locs1 ls p1 p2 p3 hl)
    · rw [h9] at hck
      have hck : (((Nat.blt r1 189 && Nat.beq (z_rc r1) 99) && Nat.beq r2 (z_na r1)) && z_mls.any (fun q => Nat.beq q.1 (z_cn M) && Nat.beq q.2.1 x && Nat.beq q.2.2.1 r1)) = true := hck
      rw [Bool.and_eq_true, Bool.and_eq_true, Bool.and_eq_true, Nat.blt_eq, Nat.beq_eq, Nat.beq_eq] at hck
      obtain ⟨⟨⟨hM2, hrc⟩, hna⟩, hany⟩ := hck
      obtain ⟨as, rest, h_9, hlen, rfl⟩ := z_pop_ok h_1
      rw [List.append_nil] at h_9
      rw [show List.map (z_tr ad) (as.reverse ++ rest) = (as.map (z_tr ad)).reverse ++ rest.map (z_tr ad) by simp]
      obtain ⟨hcat, h_10⟩ := z_bt h_9
      have hcat := Nat.le_of_ble_eq_true hcat
      rcases z_be h_10 with ⟨-, σ2, hc, h_11⟩ | ⟨-, h_11⟩
      · exact z_call2 hx hb hml hown hts hK hR hcs hM2 (hcall _ _ _ _ _ hc) hcat hrc (hlen.trans hna) hany hd hP hD hS hl.1 (fun H1 locs1 p1 p2 p3 => h_11 H1 locs1 ls p1 p2 p3 hl)
      · rcases z_be h_11 with ⟨-, r, σ2, hc, h_12⟩ | ⟨-, r, σ2, hc, h_12⟩
        · exact z_call2 hx hb hml hown hts hK hR hcs hM2 (hcall _ _ _ _ _ hc) hcat hrc (hlen.trans hna) hany hd hP hD hS hl.1 (fun H1 locs1 p1 p2 p3 => h_12 H1 locs1 ls p1 p2 p3 hl)
        · exact z_call2 hx hb hml hown hts hK hR hcs hM2 (hcall _ _ _ _ _ hc) hcat hrc (hlen.trans hna) hany hd hP hD hS hl.1 (fun H1 locs1 p1 p2 p3 => h_12 H1 locs1 ls p1 p2 p3 hl)
  | ireturn =>
    simp only [z_okE, Bool.and_eq_true, decide_eq_true_eq, Nat.beq_eq, Nat.blt_eq] at hck
    obtain ⟨hd, hn⟩ := hck
    subst hn
    rw [Nat.add_sub_cancel_left] at hd
    obtain ⟨x, st1, es1, h_1⟩ := z_pi_el h
    subst es1
    obtain ⟨rfl, h_2⟩ := z_p0_el h_1
    rcases z_be h_2 with ⟨hk, h_3⟩ | ⟨-, h_3⟩
    · rw [Nat.beq_eq] at hk
      exact hRi x σ pc ls H locs (Or.inl hk) h_3 hd hP hD hS
    · obtain ⟨hk, h_4⟩ := z_bt h_3
      rw [Nat.beq_eq] at hk
      exact hRi x σ pc ls H locs (Or.inr ⟨hk, h_4.1⟩) h_4.2 hd hP hD hS
  | lreturn =>
    simp only [z_okE, Bool.and_eq_true, decide_eq_true_eq, Nat.beq_eq, Nat.blt_eq] at hck
    obtain ⟨hd, hn⟩ := hck
    subst hn
    rw [Nat.add_sub_cancel_left] at hd
    obtain ⟨x, st1, es1, h_1⟩ := z_pl_el h
    subst es1
    obtain ⟨rfl, h_2⟩ := z_p0_el h_1
    obtain ⟨hk, h_3⟩ := z_bt h_2
    rw [Nat.beq_eq] at hk
    exact hRl x σ pc ls H locs hk h_3 hd hP hD hS
  | return_ =>
    simp only [z_okE, Bool.and_eq_true, decide_eq_true_eq, Nat.beq_eq, Nat.blt_eq] at hck
    obtain ⟨hd, hn⟩ := hck
    subst hn
    rw [Nat.add_sub_cancel_left] at hd
    obtain ⟨rfl, h_1⟩ := z_p0_el h
    obtain ⟨hk, h_2⟩ := z_bt h_1
    rw [Nat.beq_eq] at hk
    exact hRv σ pc ls H locs hk h_2 hd hP hD hS
  | _ => exact h.elim
