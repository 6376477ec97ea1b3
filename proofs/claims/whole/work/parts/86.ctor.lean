/-! constructors: the kit's rows put together -/
def n_y (ci : Nat) : MethodName := ⟨z_cs ci, "<init>", "()V"⟩
abbrev n_T : Type := va_W × List (ClassId × FieldType)
def n_S (p : Program) (s : State) (m : MethodId) (args : Array Value) (c : Code) (own : Nat) (cc : ByteArray) (D : va_G) (A : Nat → Prop) (tys : List (ClassId × FieldType)) : Prop := p.tables.exec = Jvm.exec ∧ c.code = cc ∧ s.vm.findClass (z_cs own) = some m.cls ∧ (∀ w ∈ z_tbl, w.before args s = true) ∧ va_K D vwCl tys s ∧ ∀ q : Nat, s.heap.size ≤ q → A q
/-- what the tables say besides: arrays of references, calls of nest mates -/
def n_nest : List (Nat × Nat) := [(9, 2), (18, 5), (37, 0), (44, 8), (51, 3), (58, 4), (65, 1), (78, 7), (79, 6)]
def n_E (U : State) : Prop := va_AO RX7 U ∧ va_AO RX6 U ∧ ∀ q ∈ n_nest, va_Nw (.methodLinkNest RX9 q.1 (n_y q.2) RX9) U
theorem n_E.same {u U : State} (h : u.vm = U.vm) (hE : n_E u) : n_E U := ⟨va_AO.moved (by rw [h]; exact Vm.Alike.refl U.vm) hE.1, va_AO.moved (by rw [h]; exact Vm.Alike.refl U.vm) hE.2.1, fun q hq => va_Nw.same rfl h (hE.2.2 q hq)⟩
theorem n_E.warm {u U : State} (h : u.WarmedH U.vm) (hE : n_E u) : n_E U := ⟨va_AO.moved h.alike hE.1, va_AO.moved h.alike hE.2.1, fun q hq => va_Nw.warmM h (hE.2.2 q hq)⟩
/-- a constructor's contract -/
def n_Ct (l : Launch) (D : va_G) (tys : List (ClassId × FieldType)) (ci : Nat) (b : ByteArray) (mx : Nat) (rm : Room) (fs : List Value) (Φ : Nat → n_T → Prop) : Prop := ∀ h0 sz : Nat, Met l (n_y ci) (Cond.code (n_y ci) b mx none :: z_tbl) rm (va_Pc [.ref h0] (fun U => U.heap.size = sz ∧ va_P D vwCl [(h0, .inr (ci, fs))] U.heap ∧ va_K D vwCl tys U ∧ va_D (fun _ => True) [(h0, .inr (ci, fs))] ∧ n_E U)) (va_Qv (fun u : n_T => Φ h0 u) (fun u t => va_P D vwCl u.1 t.heap ∧ va_K D vwCl u.2 t ∧ va_D (va_A [(h0, .inr (ci, fs))] sz) u.1) (va_A [(h0, .inr (ci, fs))] sz)) rm.cells rm.slots (va_A [(h0, .inr (ci, fs))] sz)
theorem n_oi : lw_tbl[72]? = some (.instanceMethod objectInit) := by decide +kernel
theorem n_oc : lw_tbl[73]? = some (.code objectInit ⟨#[0xb1]⟩ 1 none) := by decide +kernel
theorem n_pd : (parseMethodDescriptor "()V").map (fun d => d.parameters.length) = some 0 := by decide +kernel
section NCt
variable {p : Program} {l : Launch} {e : Env} {R : Room} {s : State} {m : MethodId} {args : Array Value} {below : List Frame} {meth : Method} {c : Code} {H : Heap} {locs : List Loc} {cells slots : Nat} {Q : State → Prop}
variable {D : va_G} {A : Nat → Prop} {tys : List (ClassId × FieldType)} {own pc : Nat} {cc : ByteArray} {ls : Array Slot} {ws w : va_W} {rest : List Value} {h0 : Nat} {fs : List Value}
theorem n_put (S : n_S p s m args c own cc D A tys) (hin : meth.name = "<init>") (ho : own < 11) (hP : va_P D vwCl ((h0, .inr (own, fs)) :: w) H) (hD : va_D A ((h0, .inr (own, fs)) :: w)) (hS : va_S A s.heap H locs) (k j : Nat) {idx : Nat} (hk : k < z_N own) (hlen : k < fs.length) (hli : lw_tbl[j]? = some (.fieldLink (z_cs own) idx (z_T own k).1 (z_T own k).2.1 (z_T own k).2.2.1)) (hdecl : (z_T own k).1 = z_cs own) {v : Value} (hn : narrow (z_ty own k) v = v) (hf : fits (z_ty own k) v = true) (hdg : decode cc pc = .ok (.putfield idx, 3))
    (kk : ∀ (H1 : Heap) (locs1 : List Loc), va_P D vwCl ((h0, .inr (own, fs.set k v)) :: w) H1 → va_D A ((h0, .inr (own, fs.set k v)) :: w) → va_S A s.heap H1 locs1 → W p l e R s m args below meth c H1 locs1 cells slots Q (F0 m (pc + 3) ls rest)) : W p l e R s m args below meth c H locs cells slots Q (F0 m pc ls (v :: .ref h0 :: rest)) := by
  obtain ⟨hx, hb, hown, hts, hK, hA⟩ := S
  cases hz : (z_T own k).2.2.2 with
  | false => exact va_put (D := D) hx hb hts (z_lay ho) (z_ty own) (z_ty_ok _ ho) (z_nm_ok _ ho) hown hK hP hD hS 0 rfl (z_cl_get ho) k hk (hts _ (z_tb_of hli rfl)) (fun _ h9 => h9) hz (z_ty_ok _ ho k hk) hn hf hlen hdg kk
  | true => exact va_putF (D := D) hx hb hts (z_lay ho) (z_ty own) (z_ty_ok _ ho) (z_nm_ok _ ho) hown hK hP hD hS 0 rfl (z_cl_get ho) k hk (hts _ (z_tb_of hli rfl)) (fun _ h9 => h9) hz hin hdecl (z_ty_ok _ ho k hk) hn hf hlen hdg kk
/-- a new array of numbers into a field -/
theorem n_arr (S : n_S p s m args c own cc D A tys) (hin : meth.name = "<init>") (ho : own < 11) (hP : va_P D vwCl ((h0, .inr (own, fs)) :: w) H) (hD : va_D A ((h0, .inr (own, fs)) :: w)) (hS : va_S A s.heap H locs) (t : Nat) {cT : ClassId} {ty : FieldType} (ht : tys[t]? = some (cT, ty)) {atype : ArrayType} (hty : newarray.typeOf atype = ty) (hra : ∀ (U : State) (x : ClassId), va_RA U x ty → U.vm.findClass ("[" ++ ty.toString) = some x) (ja : Nat) (hja : lw_tbl[ja]? = some (.arrayClass ty)) (hl0 : ls[0]? = some (.val (.ref h0))) (d0 : decode cc pc = .ok (.aload_n 0, 1)) {b : Nat} {n : Int32} {N' : Nat}
    (hpush : W p l e R s m args below meth c H locs cells slots Q (F0 m (pc + 1 + b) ls (.int n :: [.ref h0])) → W p l e R s m args below meth c H locs cells slots Q (F0 m (pc + 1) ls [.ref h0]))
    {a0 : vp_A} (ha : ∀ cA : ClassId, vp_cell cA a0 = arrV cA N' (fun _ => defaultValue ty)) (hn : ¬ n < 0) (hN : n.toNatClampNeg = N') (hbytes : N' * componentBytes ty ≤ 536870912) (hc : cells + 1 ≤ R.cells) (hs : slots + N' ≤ R.slots) (d2 : decode cc (pc + 1 + b) = .ok (.newarray atype, 2)) (k j : Nat) {idx : Nat} (hk : k < z_N own) (hlen : k < fs.length) (hli : lw_tbl[j]? = some (.fieldLink (z_cs own) idx (z_T own k).1 (z_T own k).2.1 (z_T own k).2.2.1)) (hdecl : (z_T own k).1 = z_cs own) (hf : ∀ q : Nat, narrow (z_ty own k) (.ref q) = .ref q ∧ fits (z_ty own k) (.ref q) = true) (d3 : decode cc (pc + 1 + b + 2) = .ok (.putfield idx, 3))
    (kk : ∀ (q : Nat) (H1 : Heap) (locs1 : List Loc), va_P D vwCl ((h0, .inr (own, fs.set k (.ref q))) :: (w ++ [(q, .inl (cT, a0))])) H1 → va_D A ((h0, .inr (own, fs.set k (.ref q))) :: (w ++ [(q, .inl (cT, a0))])) → va_S A s.heap H1 locs1 → W p l e R s m args below meth c H1 locs1 (cells + 1) (slots + N') Q (F0 m (pc + 1 + b + 2 + 3) ls [])) : W p l e R s m args below meth c H locs cells slots Q (F0 m pc ls []) := by
  obtain ⟨hx, hb, hown, hts, hK, hA⟩ := id S
  subst hty
  refine lv_aload_n hx hb d0 rfl hl0 (hpush ?_)
  refine va_newa hx hb (hts _ (z_tb_of hja rfl)) rfl hK hP hD hS hA ha hn hN hbytes hc hs d2 (fun q cA H1 hK1 hP1 hD1 hS1 => ?_)
  have e1 := hra _ _ (hK1.2 tys.length (cA, newarray.typeOf atype) (by simp)).2
  have e2 := hra _ _ (hK.2 t (cT, newarray.typeOf atype) ht).2
  obtain rfl : cA = cT := Option.some.inj (e1.symm.trans e2)
  exact n_put S hin ho hP1 hD1 hS1 k j hk hlen hli hdecl (hf q).1 (hf q).2 d3 (kk q)
/-- a field of numbers stays nought -/
theorem n_zero (S : n_S p s m args c own cc D A tys) (hin : meth.name = "<init>") (ho : own < 11) (hP : va_P D vwCl ((h0, .inr (own, fs)) :: w) H) (hD : va_D A ((h0, .inr (own, fs)) :: w)) (hS : va_S A s.heap H locs) (hl0 : ls[0]? = some (.val (.ref h0))) (d0 : decode cc pc = .ok (.aload_n 0, 1)) (d1 : decode cc (pc + 1) = .ok (.iconst 0, 1)) (k j : Nat) {idx : Nat} (hk : k < z_N own) (hv : fs[k]? = some (.int 0)) (hli : lw_tbl[j]? = some (.fieldLink (z_cs own) idx (z_T own k).1 (z_T own k).2.1 (z_T own k).2.2.1)) (hdecl : (z_T own k).1 = z_cs own) (hn : narrow (z_ty own k) (.int 0) = .int 0) (hf : fits (z_ty own k) (.int 0) = true) (d2 : decode cc (pc + 1 + 1) = .ok (.putfield idx, 3))
    (kk : ∀ (H1 : Heap) (locs1 : List Loc), va_P D vwCl ((h0, .inr (own, fs)) :: w) H1 → va_D A ((h0, .inr (own, fs)) :: w) → va_S A s.heap H1 locs1 → W p l e R s m args below meth c H1 locs1 cells slots Q (F0 m (pc + 1 + 1 + 3) ls [])) : W p l e R s m args below meth c H locs cells slots Q (F0 m pc ls []) := by
  have he : fs.set k (.int 0) = fs := by
    apply List.ext_getElem?
    intro i
    rw [List.getElem?_set]
    by_cases hi : k = i
    · subst hi
      rw [if_pos rfl, if_pos (List.getElem?_eq_some_iff.mp hv).1, hv]
    · rw [if_neg hi]
  refine lv_aload_n S.1 S.2.1 d0 rfl hl0 (lv_iconst S.1 S.2.1 (v := 0) d1 (by decide) ?_)
  refine n_put S hin ho hP hD hS k j hk (List.getElem?_eq_some_iff.mp hv).1 hli hdecl hn hf d2 (fun H1 locs1 a b c => ?_)
  rw [he] at a b
  exact kk H1 locs1 a b c
theorem n_obj (S : n_S p s m args c own cc D A tys) (hls : ls.size = c.maxLocals) (hl0 : ls[0]? = some (.val (.ref h0))) (d0 : decode cc 0 = .ok (.aload_n 0, 1)) {idx : Nat} (j : Nat) (hj : lw_tbl[j]? = some (.methodLink (z_cs own) idx objectInit)) (d1 : decode cc 1 = .ok (.invokespecial idx, 3)) (hR : 1 ≤ R.frames ∧ 12 ≤ R.locals)
    (kk : W p l e R s m args below meth c H locs cells slots Q (F0 m 4 ls [])) : W p l e R s m args below meth c H locs cells slots Q (F0 m 0 ls []) := by
  obtain ⟨hx, hb, hown, hts, hK, hA⟩ := id S
  refine lv_aload_n hx hb d0 rfl hl0 ?_
  refine W.objInit hx hb hown (hts _ (z_tb_of hj rfl)) (hts _ (z_tb_of n_oi rfl)) (hts _ (z_tb_of n_oc rfl)) rfl hls rfl d1 hR.1 (by show 2 * 0 + 0 + 12 ≤ R.locals; omega) ?_
  exact W.eq (g2 := F0 m 4 ls []) rfl kk
theorem n_end {Φ : Nat → n_T → Prop} (S : n_S p s m args c own cc D A tys) (hr : meth.sig.returnType = none) (hlocks : meth.locks = false) {u : va_W} (hP : va_P D vwCl u H) (hD : va_D A u) (hS : va_S A s.heap H locs) (hΦ : Φ h0 (u, tys)) (hdg : decode cc pc = .ok (.return_, 1)) : W p l e R s m args below meth c H locs cells slots (MQ below (va_Qv (fun u : n_T => Φ h0 u) (fun u t => va_P D vwCl u.1 t.heap ∧ va_K D vwCl u.2 t ∧ va_D A u.1) A) args s cells slots A) (F0 m pc ls []) :=
  W.vret S.1 S.2.1 hr (fun t ht hW => ⟨⟨(u, tys), rfl, hΦ, by rw [ht]; exact hP, va_K.moved hW.alike S.2.2.2.2.1, hD⟩, hS.F ht⟩) hS.2.2 hdg hlocks
theorem n_join {x : Nat × va_E} {u : va_W} {H1 H2 : Heap} (hP : va_P D vwCl (ws ++ [x]) H1) (hD : va_D A (ws ++ [x])) (hk : ∀ q : Nat, q < H1.size → ¬ va_A [x] H1.size q → H2[q]? = H1[q]?) (hF : ∀ q, va_A [x] H1.size q → A q) (hPu : va_P D vwCl u H2) (hDu : va_D (va_A [x] H1.size) u) : va_P D vwCl (ws ++ u) H2 ∧ va_D A (ws ++ u) := by
  have at1 : ∀ (k : Nat) (q : Nat × va_E), ws[k]? = some q → (ws ++ [x])[k]? = some q := fun k q h => by
    rw [List.getElem?_append_left ((List.getElem?_eq_some_iff.mp h).1)]
    exact h
  have atx : (ws ++ [x])[ws.length]? = some x := by simp
  have apart : ∀ (k : Nat) (q : Nat × va_E), ws[k]? = some q → q.1 < H1.size ∧ ¬ va_A [x] H1.size q.1 := by
    intro k q hq
    have hl := (hP k q (at1 k q hq)).lt
    refine ⟨hl, fun h => ?_⟩
    rcases h with ⟨k2, e, h⟩ | h
    · have hx2 : x = (q.1, e) := by
        cases k2 with
        | zero => exact Option.some.inj h
        | succ k2 => exact absurd h (by simp)
      have hij := hD.1 k ws.length q x (at1 k q hq) atx (by rw [hx2])
      have := (List.getElem?_eq_some_iff.mp hq).1
      omega
    · omega
  exact ⟨va_P.app (fun k q hq => (hP k q (at1 k q hq)).kept (hk q.1 (apart k q hq).1 (apart k q hq).2)) hPu, va_D.app ⟨fun i j a b h1 h2 h3 => hD.1 i j a b (at1 i a h1) (at1 j b h2) h3, fun k q hq => hD.2 k q (at1 k q hq)⟩ (hDu.weaken (fun k q _ h => hF q.1 h)) (fun i j a b ha hb hab => (apart i a ha).2 (by rw [hab]; exact hDu.2 j b hb))⟩
/-- a contract from the walk of a constructor's body -/
theorem n_of {ci mx : Nat} {b : ByteArray} {rm : Room} {Φ : Nat → n_T → Prop} (hpl : Jvm.plainFor (n_y ci) = true) (h1 : 1 ≤ mx)
    (body : ∀ (p : Program) (e : Env) (s : State) (m : MethodId) (below : List Frame) (meth : Method) (c : Code) (h0 : Nat) (A : Nat → Prop) (ls : Array Slot), n_S p s m #[.ref h0] c ci b D A tys → meth.sig.returnType = none → meth.locks = false → c.maxLocals = mx → meth.name = "<init>" → n_E s → va_P D vwCl [(h0, .inr (ci, fs))] s.heap → va_D A [(h0, .inr (ci, fs))] → lv_has ls mx [(0, .ref h0)] →
      W p l e rm s m #[.ref h0] below meth c s.heap [] 0 0 (MQ below (va_Qv (fun u : n_T => Φ h0 u) (fun u t => va_P D vwCl u.1 t.heap ∧ va_K D vwCl u.2 t ∧ va_D A u.1) A) #[.ref h0] s rm.cells rm.slots A) (F0 m 0 ls [])) : n_Ct l D tys ci b mx rm fs Φ := by
  intro h0 sz
  refine z_ofW (cc := b) (maxL := mx) (ret := none) hpl rfl ?_
  intro p e s m args below meth c s₁ B hml hv
  obtain ⟨rfl, hsz, hP, hK, hD0, hE⟩ := hv
  have hts : ∀ w ∈ z_tbl, w.before [Value.ref h0].toArray s = true := fun w hw => atoms_spec (ws := Cond.code (n_y ci) b mx none :: z_tbl) B.pre w (List.mem_cons_of_mem _ hw)
  have hown : s.vm.findClass (z_cs ci) = some m.cls := findClass_of_methodNamed B.named
  have hin : meth.name = "<init>" := (name_of_methodNamed B.named B.method).1
  subst hsz
  have hD := hD0.self (sz := s.heap.size)
  have hl := lv_entry ([.ref h0]) (n := mx) h1
  rw [lg_entry_eq]
  exact body p e s m below meth c h0 _ _ ⟨B.exec, B.bytes, hown, hts, hK, fun q h => Or.inr h⟩ B.returns B.notSynchronized hml hin hE hP hD hl
/-- new, dup, a constructor's call -/
theorem n_new {ci i1 i2 mx nL : Nat} {b : ByteArray} {rm : Room} {Φ : Nat → n_T → Prop} {tys0 : List (ClassId × FieldType)} (S : n_S p s m args c own cc D A tys) (hml : c.maxLocals = nL) (hls : ls.size = nL) (hE : n_E s) (hK0 : va_K D vwCl tys0 s) (hci : ci < 11) (j1 j2 j3 j5 j6 : Nat) (g1 : lw_tbl[j1]? = some (.classLink (z_cs own) i1 (z_cs ci))) (g2 : lw_tbl[j2]? = some (.instantiable (z_cs ci) (z_N ci))) (g3 : lw_tbl[j3]? = some (.initialized (z_cs ci))) (g4 : (Cond.methodLink (z_cs own) i2 (n_y ci)).before args s = true ∨ ∃ h : String, va_Nw (.methodLinkNest (z_cs own) i2 (n_y ci) h) s) (g5 : lw_tbl[j5]? = some (.instanceMethod (n_y ci))) (g6 : lw_tbl[j6]? = some (.code (n_y ci) b mx none)) (hd : (n_y ci).cls ≠ "java/lang/invoke/MethodHandle" ∧ (n_y ci).cls ≠ "java/lang/invoke/VarHandle")
    (hfs : ∀ j, j < z_N ci → defaultValue (z_ty ci j) = vp_V fs j) (hCt : n_Ct l D tys0 ci b mx rm fs Φ) (hR : rm.frames + 1 ≤ R.frames ∧ 8 + (mx + 11) + rm.locals ≤ R.locals) (hc : cells + 1 + rm.cells ≤ R.cells) (hs : slots + z_N ci + rm.slots ≤ R.slots) (hrest : 1 + (rest.map fun v => v.category).sum ≤ 8)
    (d0 : decode cc pc = .ok (.new i1, 3)) (d1 : decode cc (pc + 3) = .ok (.dup, 1)) (d2 : decode cc (pc + 3 + 1) = .ok (.invokespecial i2, 3)) (hP : va_P D vwCl ws H) (hD : va_D A ws) (hS : va_S A s.heap H locs)
    (kk : ∀ (q : Nat) (u : n_T) (H1 : Heap) (locs1 : List Loc), Φ q u → va_P D vwCl (ws ++ u.1) H1 → va_D A (ws ++ u.1) → va_K D vwCl u.2 s → va_S A s.heap H1 locs1 → W p l e R s m args below meth c H1 locs1 (cells + 1 + rm.cells) (slots + z_N ci + rm.slots) Q (F0 m (pc + 3 + 1 + 3) ls (.ref q :: rest))) : W p l e R s m args below meth c H locs cells slots Q (F0 m pc ls rest) := by
  obtain ⟨hx, hb, hown, hts, hK, hA⟩ := id S
  refine va_new (ci := ci) (fs := fs) (C := z_cs ci) (T := z_T ci) (N := z_N ci) hx hb hts (z_lay hci) (z_ty ci) (z_ty_ok _ hci) hown (hts _ (z_tb_of g1 rfl)) (hts _ (z_tb_of g2 rfl)) (hts _ (z_tb_of g3 rfl)) hK hP hD hS hA (z_cl_get hci) hfs (by omega) (by omega) d0 (fun q H1 hP1 hD1 hS1 => ?_)
  refine lv_dup hx hb d1 rfl ?_
  have hG : GoodIn z_tbl (Cond.code (n_y ci) b mx none :: z_tbl) := by
    intro w hw
    have hw2 : w ∈ z_tbl := by
      rcases List.mem_cons.mp hw with rfl | hw
      · exact z_tb_of g6 rfl
      · exact hw
    exact ⟨hw2, good_of_word (List.mem_filter.mp hw2).2⟩
  have atx : (ws ++ [((q, .inr (ci, fs)) : Nat × va_E)])[ws.length]? = some (q, .inr (ci, fs)) := by simp
  have at0 : ∀ (k : Nat) (x : Nat × va_E), [((q, .inr (ci, fs)) : Nat × va_E)][k]? = some x → k = 0 ∧ x = (q, .inr (ci, fs)) := fun k x h => by
    cases k with
    | zero => exact ⟨rfl, (Option.some.inj h).symm⟩
    | succ k => exact absurd h (by simp)
  have hPc : va_P D vwCl [((q, .inr (ci, fs)) : Nat × va_E)] H1 := fun k x hk => by
    obtain ⟨-, rfl⟩ := at0 k x hk
    exact hP1 _ _ atx
  have hDc : va_D (fun _ => True) [((q, .inr (ci, fs)) : Nat × va_E)] := ⟨fun i j a b h1 h2 _ => (at0 i a h1).1.trans (at0 j b h2).1.symm, fun _ _ _ => trivial⟩
  have hFc : ∀ x, va_A [((q, .inr (ci, fs)) : Nat × va_E)] H1.size x → A x := fun x h => by
    rcases h with ⟨k, ee, h⟩ | h
    · have := (at0 k _ h).2
      have e2 : x = q := congrArg Prod.fst this
      rw [e2]
      exact hD1.2 _ _ atx
    · exact hA x (Nat.le_trans hS1.1 h)
  have hpre : PreS s H1 (va_Pc [.ref q] (fun U => U.heap.size = H1.size ∧ va_P D vwCl [(q, .inr (ci, fs))] U.heap ∧ va_K D vwCl tys0 U ∧ va_D (fun _ => True) [(q, .inr (ci, fs))] ∧ n_E U)) [.ref q] := ⟨fun a U g mk z => by
    obtain ⟨z0, z1, z2, z3, z4, z5⟩ := z
    exact ⟨z0, z1, z2, va_K.moved (u := U) (U := U.calling g mk a) (Vm.Alike.refl U.vm) z3, z4, n_E.same (u := U) (U := U.calling g mk a) rfl z5⟩, fun U hU hW => ⟨rfl, by rw [hU], by rw [hU]; exact hPc, va_K.moved hW.alike hK0, hDc, n_E.warm hW hE⟩⟩
  have hrun : va_Run p l e R s m args below meth c H1 locs (cells + 1) (slots + z_N ci) rm.cells rm.slots (F0 m (pc + 3 + 1) ls (.ref q :: .ref q :: rest)) (.ref q :: rest) (va_Qv (fun u : n_T => Φ q u) (fun u t => va_P D vwCl u.1 t.heap ∧ va_K D vwCl u.2 t ∧ va_D (va_A [(q, .inr (ci, fs))] H1.size) u.1) (va_A [(q, .inr (ci, fs))] H1.size) [Value.ref q].toArray) (va_A [(q, .inr (ci, fs))] H1.size) := by
    rcases g4 with g4 | ⟨h, g4⟩
    · exact va_runI (As := []) (rest := .ref q :: rest) ⟨hx, hb, hml, hown, hts⟩ (hCt q H1.size) (cwI 0 hts hG rfl rfl rfl (hts _ (z_tb_of g3 rfl)) g4 (hts _ (z_tb_of g5 rfl)) rfl ⟨hd.1, hd.2, n_pd⟩ hR) hpre rfl rfl hls rfl (lv_room hrest) d2 ⟨hc, hs⟩
    · exact va_runIN (As := []) (rest := .ref q :: rest) ⟨hx, hb, hml, hown, hts⟩ (hCt q H1.size) ⟨va_cnB 0 hts hG rfl rfl rfl g4 (hts _ (z_tb_of g3 rfl)) ⟨hd.1, hd.2, n_pd⟩ hR, rfl, hts _ (z_tb_of g5 rfl)⟩ hpre rfl rfl hls rfl (lv_room hrest) d2 ⟨hc, hs⟩
  refine va_callv hrun hS1 (fun q _ h => hFc q h) hFc (fun u t H2 locs2 ht hvm hw hB hz1 hk1 hS2 => ?_)
  obtain ⟨hPu, hKu, hDu⟩ := hB
  rw [ht] at hPu
  obtain ⟨hP3, hD3⟩ := n_join hP1 hD1 hk1 hFc hPu hDu
  exact kk q u H2 locs2 hw hP3 hD3 (va_K.moved hvm.symm hKu) hS2
end NCt
