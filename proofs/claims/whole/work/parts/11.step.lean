/-! THE STEPS: each step of the little machine is a row of the kit -/
section ZS
variable {p : Program} {l : Launch} {e : Env} {R : Room} {s : State} {m : MethodId} {args : Array Value} {below : List Frame} {meth : Method} {c : Code} {cells slots : Nat} {Q : State → Prop}
variable {dC : Nat → ClassId} {dI : Nat → Nat → Nat} {ad : Nat → Nat} {cA : z_C4} {A : Nat → Prop}
/-- what a place of a method means for the machine -/
def z_PP (p : Program) (l : Launch) (e : Env) (R : Room) (s : State) (m : MethodId) (args : Array Value) (below : List Frame) (meth : Method) (c : Code) (cells slots : Nat) (Q : State → Prop) (dC : Nat → ClassId) (dI : Nat → Nat → Nat) (ad : Nat → Nat) (cA : z_C4) (A : Nat → Prop) (nL : Nat) (pc : Nat) (L : z_L) (st : List Value) (σ : z_M) : Prop :=
  ∀ (H : Heap) (locs : List Loc) (ls : Array Slot), va_P (dC, dI) vwCl (z_ws ad cA σ) H → va_D A (z_ws ad cA σ) → va_S A s.heap H locs → z_lv ad ls nL L → W p l e R s m args below meth c H locs cells slots Q (F0 m pc ls (st.map (z_tr ad)))
def z_rm (d : Nat) : Room := { frames := d, cells := 0, slots := 0, locals := 64 * d }
def z_wd (M : Nat) : List Cond := Cond.code (z_y M) (z_by M) (z_mx M) (z_rt M) :: z_tbl
def z_Pc (dC : Nat → ClassId) (dI : Nat → Nat → Nat) (ad : Nat → Nat) (cA : z_C4) (A : Nat → Prop) (as : List Value) (σ : z_M) : Array Value → State → Prop := fun v U => v = (as.map (z_tr ad)).toArray ∧ va_P (dC, dI) vwCl (z_ws ad cA σ) U.heap ∧ va_K (dC, dI) vwCl (z_tys cA) U ∧ va_D A (z_ws ad cA σ)
def z_Qc (dC : Nat → ClassId) (dI : Nat → Nat → Nat) (ad : Nat → Nat) (cA : z_C4) (A : Nat → Prop) (r : Option Value) (σ : z_M) : Array Value → State → Outcome → State → Prop := fun _ st oc t => oc = .returned (r.map (z_tr ad)) ∧ va_P (dC, dI) vwCl (z_ws ad cA σ) t.heap ∧ va_D A (z_ws ad cA σ) ∧ va_F A st t
/-- a method's contract, for one memory -/
def z_Mt (l : Launch) (dC : Nat → ClassId) (dI : Nat → Nat → Nat) (ad : Nat → Nat) (cA : z_C4) (A : Nat → Prop) (d M : Nat) (as : List Value) (σ : z_M) (r : Option Value) (σ' : z_M) : Prop :=
  Met l (z_y M) (z_wd M) (z_rm d) (z_Pc dC dI ad cA A as σ) (z_Qc dC dI ad cA A r σ') 0 0 A
theorem z_callgo {H : Heap} {locs : List Loc} {pc : Nat} {ls : Array Slot} {st0 rest : List Value} {a : Array Value} {r : Option Value} {σ' : z_M} (hr : va_Run p l e R s m args below meth c H locs cells slots 0 0 (F0 m pc ls st0) rest (z_Qc dC dI ad cA A r σ' a) A) (hS : va_S A s.heap H locs)
    (kk : ∀ (H1 : Heap) (locs1 : List Loc), va_P (dC, dI) vwCl (z_ws ad cA σ') H1 → va_D A (z_ws ad cA σ') → va_S A s.heap H1 locs1 → W p l e R s m args below meth c H1 locs1 cells slots Q (F0 m (pc + 3) ls ((r.map (z_tr ad)).toList ++ rest))) : W p l e R s m args below meth c H locs cells slots Q (F0 m pc ls st0) := by
  intro T hT X
  obtain ⟨v, st₀, t, T', L, h0, X', hL, e1, e2, ⟨hv, hP, hD, hz, hk⟩, st⟩ := hr T hT X
  cases hv
  rw [h0] at hz hk
  obtain ⟨t2, a1, b1⟩ := kk T'.heap (locs ++ L) (by rw [e1]; exact hP) hD
    ⟨Nat.le_trans hS.1 (by rw [e1]; exact hz), fun q h1 h2 => by rw [e1, hk q (Nat.lt_of_lt_of_le h1 hS.1) h2]; exact hS.2.1 q h1 h2, fun q hq => by
      rcases List.mem_append.mp hq with h | h
      · exact hS.2.2 q h
      · exact hL q h⟩ T' rfl X'
  exact ⟨t2, st t2 a1, b1⟩
theorem z_blind (as : List Value) (σ : z_M) : FrameBlind (z_Pc dC dI ad cA A as σ) := fun a U g mk q => by
  obtain ⟨q0, qP, qK, qD⟩ := q
  exact ⟨q0, qP, va_K.moved (u := U) (U := U.calling g mk a) (Vm.Alike.refl U.vm) qK, qD⟩
theorem z_wd_good {M : Nat} (hM : M < 189) : GoodIn z_tbl (z_wd M) := by
  have hg : ∀ w ∈ z_tbl, w ∈ z_tbl ∧ ((w.onTables && w.keeps) = true ∨ ∃ ty, w = .arrayClass ty) := fun w hw => ⟨hw, good_of_word (List.mem_filter.mp hw).2⟩
  intro w hw
  rcases List.mem_cons.mp hw with rfl | hw
  · obtain ⟨i, hi⟩ := z_cq_189 M hM
    exact hg _ (z_tb_of hi rfl)
  · exact hg w hw
theorem z_cB {args : Array Value} (hts : ∀ w ∈ z_tbl, w.before args s = true) {d M M' x : Nat} (hM : M' < 189) (hl : z_mls.any (fun q => Nat.beq q.1 (z_cn M) && Nat.beq q.2.1 x && Nat.beq q.2.2.1 M') = true) (hR : d + 1 ≤ R.frames ∧ 64 * (d + 1) ≤ R.locals) :
    CallB R s args (z_cs (z_cn M)) x (z_y M') (z_by M') (z_mx M') (z_rt M') (z_wd M') (z_rm d) 0 0 (z_na M') := by
  obtain ⟨q, hq, h1⟩ := List.any_eq_true.mp hl
  simp only [Bool.and_eq_true, Nat.beq_eq] at h1
  obtain ⟨⟨e1, e2⟩, e3⟩ := h1
  have h2 := z_mls_ok q hq
  rw [e1, e2, e3] at h2
  obtain ⟨o1, o2, o3, o4⟩ := z_own_ok M' hM
  exact callB_of (z_na M') hts (z_wd_good hM) rfl rfl rfl (hts _ (z_tb_of (z_init_ok M' hM) rfl)) (hts _ (z_tb_of h2 rfl)) ⟨o3, o4, z_na_ok M' hM⟩ ⟨hR.1, by show 8 + (z_mx M' + 11) + 64 * d ≤ R.locals; omega⟩
variable (hx : p.tables.exec = Jvm.exec) {M d : Nat} (hM : M < 190) (hb : c.code = z_by M) (hml : c.maxLocals = z_mx M) (hown : s.vm.findClass (z_cs (z_cn M)) = some m.cls) (hts : ∀ w ∈ z_tbl, w.before args s = true) (hK : va_K (dC, dI) vwCl (z_tys cA) s)
  (hR : d + 1 ≤ R.frames ∧ 64 * (d + 1) ≤ R.locals) (hcs : cells ≤ R.cells ∧ slots ≤ R.slots)
  {call : Nat → List Value → z_M → Option Value → z_M → Prop} (hcall : ∀ M' as σ r σ', call M' as σ r σ' → z_Mt l dC dI ad cA A d M' as σ r σ')
theorem z_call1 (hx : p.tables.exec = Jvm.exec) {M d : Nat} (hb : c.code = z_by M) (hml : c.maxLocals = z_mx M) (hown : s.vm.findClass (z_cs (z_cn M)) = some m.cls) (hts : ∀ w ∈ z_tbl, w.before args s = true) (hK : va_K (dC, dI) vwCl (z_tys cA) s)
    (hR : d + 1 ≤ R.frames ∧ 64 * (d + 1) ≤ R.locals) (hcs : cells ≤ R.cells ∧ slots ≤ R.slots) {M' x pc : Nat} (hM' : M' < 189) {a : Nat} {as rest : List Value} {σ σ' : z_M} {r : Option Value} (hMt : z_Mt l dC dI ad cA A d M' (.ref a :: as) σ r σ') (hcat : z_cats rest ≤ 8)
    (hrc : z_rc M' < 11) (ha : a < 81) (hka : z_kd a = z_rc M') (hn : as.length = z_na M') (hl : z_mls.any (fun q => Nat.beq q.1 (z_cn M) && Nat.beq q.2.1 x && Nat.beq q.2.2.1 M') = true) (hdg : decode (z_by M) pc = .ok (.invokevirtual x, 3))
    {H : Heap} {locs : List Loc} {ls : Array Slot} (hP : va_P (dC, dI) vwCl (z_ws ad cA σ) H) (hD : va_D A (z_ws ad cA σ)) (hS : va_S A s.heap H locs) (hls : ls.size = z_mx M)
    (kk : ∀ (H1 : Heap) (locs1 : List Loc), va_P (dC, dI) vwCl (z_ws ad cA σ') H1 → va_D A (z_ws ad cA σ') → va_S A s.heap H1 locs1 → W p l e R s m args below meth c H1 locs1 cells slots Q (F0 m (pc + 3) ls ((r.map (z_tr ad)).toList ++ rest.map (z_tr ad)))) :
    W p l e R s m args below meth c H locs cells slots Q (F0 m pc ls ((as.map (z_tr ad)).reverse ++ .ref (ad a) :: rest.map (z_tr ad))) := by
  obtain ⟨v1, v2, v3⟩ := z_virt_ok M' hM' hrc
  have cw : CallW R s args (z_cs (z_cn M)) (z_y M').cls x (z_y M') (z_by M') (z_mx M') (z_rt M') (z_wd M') (z_rm d) 0 0 (z_na M') := ⟨z_cB hts hM' hl hR, hts _ (z_tb_of v1 rfl), hts _ (z_tb_of v2 rfl)⟩
  have hrec := va_recv hK hP (z_cl_get hrc) (q0 := a) (a := ad a) (fs := z_fs ad σ a) (by rw [z_ws_get ha, z_ce_obj hka hrc])
  rw [show (z_cs (z_rc M'), z_T (z_rc M'), z_N (z_rc M')).1 = (z_y M').cls from v3] at hrec
  exact z_callgo (va_runV (As := as.map (z_tr ad)) (rest := rest.map (z_tr ad)) (b := ad a) ⟨hx, hb, hml, hown, hts⟩ hMt cw ⟨z_blind _ _, hrec, fun U hU hW => ⟨rfl, by rw [hU]; exact hP, va_K.moved hW.alike hK, hD⟩⟩ rfl (by rw [List.length_map]; exact hn) hls rfl (lv_room (Nat.le_trans (z_cats_le rest) hcat)) hdg ⟨hcs.1, hcs.2⟩) hS kk
theorem z_call2 (hx : p.tables.exec = Jvm.exec) {M d : Nat} (hb : c.code = z_by M) (hml : c.maxLocals = z_mx M) (hown : s.vm.findClass (z_cs (z_cn M)) = some m.cls) (hts : ∀ w ∈ z_tbl, w.before args s = true) (hK : va_K (dC, dI) vwCl (z_tys cA) s)
    (hR : d + 1 ≤ R.frames ∧ 64 * (d + 1) ≤ R.locals) (hcs : cells ≤ R.cells ∧ slots ≤ R.slots) {M' x pc : Nat} (hM' : M' < 189) {as rest : List Value} {σ σ' : z_M} {r : Option Value} (hMt : z_Mt l dC dI ad cA A d M' as σ r σ') (hcat : z_cats rest ≤ 8)
    (hrc : z_rc M' = 99) (hn : as.length = z_na M') (hl : z_mls.any (fun q => Nat.beq q.1 (z_cn M) && Nat.beq q.2.1 x && Nat.beq q.2.2.1 M') = true) (hdg : decode (z_by M) pc = .ok (.invokestatic x, 3))
    {H : Heap} {locs : List Loc} {ls : Array Slot} (hP : va_P (dC, dI) vwCl (z_ws ad cA σ) H) (hD : va_D A (z_ws ad cA σ)) (hS : va_S A s.heap H locs) (hls : ls.size = z_mx M)
    (kk : ∀ (H1 : Heap) (locs1 : List Loc), va_P (dC, dI) vwCl (z_ws ad cA σ') H1 → va_D A (z_ws ad cA σ') → va_S A s.heap H1 locs1 → W p l e R s m args below meth c H1 locs1 cells slots Q (F0 m (pc + 3) ls ((r.map (z_tr ad)).toList ++ rest.map (z_tr ad)))) :
    W p l e R s m args below meth c H locs cells slots Q (F0 m pc ls ((as.map (z_tr ad)).reverse ++ rest.map (z_tr ad))) :=
  z_callgo (va_runS (As := as.map (z_tr ad)) (rest := rest.map (z_tr ad)) ⟨hx, hb, hml, hown, hts⟩ hMt ⟨z_cB hts hM' hl hR, hts _ (z_tb_of (z_stat_ok M' hM' hrc) rfl)⟩ ⟨z_blind _ _, fun U hU hW => ⟨rfl, by rw [hU]; exact hP, va_K.moved hW.alike hK, hD⟩⟩ rfl (by rw [List.length_map]; exact hn) hls rfl (lv_room (Nat.le_trans (z_cats_le rest) hcat)) hdg ⟨hcs.1, hcs.2⟩) hS kk
end ZS
/-- a contract from a walk of the body; of Math's methods too -/
theorem z_ofW {l : Launch} {y : MethodName} {ws ws' : List Cond} {rm : Room} {Pc : Array Value → State → Prop} {Qc : Array Value → State → Outcome → State → Prop} {mc ms : Nat} {free : Addr → Prop} {cc : ByteArray} {maxL : Nat} {ret : Option FieldType}
    (hy : Jvm.plainFor y = true) (hw : ws = Cond.code y cc maxL ret :: ws')
    (body : ∀ p e s m args below meth c s₁, BodyLoose p l y (headSpec ws rm) cc maxL ret e s m args below meth c s₁ → c.maxLocals = maxL → Pc args s →
      W p l e (headSpec ws rm).room s m args below meth c s.heap [] 0 0 (MQ below Qc args s mc ms free) (entryFrame m args maxL)) : Met l y ws rm Pc Qc mc ms free := by
  refine MetFree.of_bodySF (code := cc) (maxLocals := maxL) (ret := ret) hy ?_ ?_
  · intro args s m h hn
    obtain ⟨meth, c, h1, h2, h3, h4, h5, h6, -, -⟩ := Cond.code_spec hn (atoms_spec (ws := ws) h _ (by rw [hw]; exact List.mem_cons_self))
    exact ⟨meth, c, h1, h2, h3, h4, h5, h6⟩
  · intro p e s m args below meth c s₁ B hml hP _
    have hh0 : s₁.heap = s.heap := by rw [B.state]; rfl
    obtain ⟨t, a1, o, b1, b2, b3⟩ := body p e s m args below meth c s₁ B hml hP s₁ hh0 (Stand.of_body B)
    exact ⟨t, o, a1, b1, b2, ⟨b3.1, b3.2⟩⟩
