/-! the constructors of the small classes -/
theorem dX0_init_0 : decode cX0_init 0 = .ok (.aload_n 0, 1) := by decide +kernel
theorem dX0_init_1 : decode cX0_init 1 = .ok (.invokespecial 3, 3) := by decide +kernel
theorem dX0_init_4 : decode cX0_init 4 = .ok (.aload_n 0, 1) := by decide +kernel
theorem dX0_init_5 : decode cX0_init 5 = .ok (.bipush 6, 2) := by decide +kernel
theorem dX0_init_7 : decode cX0_init 7 = .ok (.newarray .int, 2) := by decide +kernel
theorem dX0_init_9 : decode cX0_init 9 = .ok (.putfield 9, 3) := by decide +kernel
theorem dX0_init_12 : decode cX0_init 12 = .ok (.aload_n 0, 1) := by decide +kernel
theorem dX0_init_13 : decode cX0_init 13 = .ok (.bipush 6, 2) := by decide +kernel
theorem dX0_init_15 : decode cX0_init 15 = .ok (.newarray .int, 2) := by decide +kernel
theorem dX0_init_17 : decode cX0_init 17 = .ok (.putfield 15, 3) := by decide +kernel
theorem dX0_init_20 : decode cX0_init 20 = .ok (.aload_n 0, 1) := by decide +kernel
theorem dX0_init_21 : decode cX0_init 21 = .ok (.bipush 10, 2) := by decide +kernel
theorem dX0_init_23 : decode cX0_init 23 = .ok (.newarray .int, 2) := by decide +kernel
theorem dX0_init_25 : decode cX0_init 25 = .ok (.putfield 18, 3) := by decide +kernel
theorem dX0_init_28 : decode cX0_init 28 = .ok (.aload_n 0, 1) := by decide +kernel
theorem dX0_init_29 : decode cX0_init 29 = .ok (.iconst 0, 1) := by decide +kernel
theorem dX0_init_30 : decode cX0_init 30 = .ok (.putfield 21, 3) := by decide +kernel
theorem dX0_init_33 : decode cX0_init 33 = .ok (.aload_n 0, 1) := by decide +kernel
theorem dX0_init_34 : decode cX0_init 34 = .ok (.iconst 0, 1) := by decide +kernel
theorem dX0_init_35 : decode cX0_init 35 = .ok (.putfield 25, 3) := by decide +kernel
theorem dX0_init_38 : decode cX0_init 38 = .ok (.aload_n 0, 1) := by decide +kernel
theorem dX0_init_39 : decode cX0_init 39 = .ok (.iconst 0, 1) := by decide +kernel
theorem dX0_init_40 : decode cX0_init 40 = .ok (.putfield 28, 3) := by decide +kernel
theorem dX0_init_43 : decode cX0_init 43 = .ok (.return_, 1) := by decide +kernel
def n_r0 : Room := { frames := 1, cells := 3, slots := 22, locals := 12 }
def n_F0 (cI cL : ClassId) (h0 : Nat) (u : n_T) : Prop := ∃ q0 q1 q2 : Nat, u = ([(h0, .inr (0, [.ref q0, .ref q1, .ref q2, .int 0, .int 0, .int 0])), (q0, .inl (cI, 6, .inl (fun _ => 0))), (q1, .inl (cI, 6, .inl (fun _ => 0))), (q2, .inl (cI, 10, .inl (fun _ => 0)))], [(cI, .int), (cL, .long)])
set_option maxHeartbeats 4000000 in
theorem n_ct0 (l : Launch) (D : va_G) (cI cL : ClassId) : n_Ct l D [(cI, .int), (cL, .long)] 0 cX0_init 1 n_r0 [.null, .null, .null, .int 0, .int 0, .int 0] (n_F0 cI cL) := by
  refine n_of (by decide +kernel) (by decide) ?_
  intro p e s m below meth c h0 A ls S hr hlocks hml hin hE hP hD hl
  have hl0 := lv_at hl 0 rfl
  have hS : va_S A s.heap s.heap [] := va_S.rf
  refine n_obj S (hl.1.trans hml.symm) hl0 dX0_init_0 160 (by decide +kernel) dX0_init_1 ⟨(Nat.le_of_ble_eq_true rfl), (Nat.le_of_ble_eq_true rfl)⟩ ?_
  refine n_arr S hin (by decide) hP hD hS 0 rfl (atype := .int) (ty := .int) rfl (fun _ _ h => h) 133 (by decide +kernel) hl0 dX0_init_4 (fun K => lv_bipush S.1 S.2.1 (n := 6) (v := 6) dX0_init_5 (by decide) K) (N' := 6) (a0 := (6, .inl (fun _ => 0))) (fun _ => rfl) (by decide) (by decide) (by decide) (Nat.le_of_ble_eq_true rfl) (Nat.le_of_ble_eq_true rfl) dX0_init_7 0 161 (by decide) (Nat.le_of_ble_eq_true rfl) (by decide +kernel) rfl (fun _ => ⟨rfl, rfl⟩) dX0_init_9 (fun q0 H locs hP hD hS => ?_)
  have hP : va_P D vwCl [(h0, .inr (0, [.ref q0, .null, .null, .int 0, .int 0, .int 0])), (q0, .inl (cI, 6, .inl (fun _ => 0)))] H := hP
  have hD : va_D A [(h0, .inr (0, [.ref q0, .null, .null, .int 0, .int 0, .int 0])), (q0, .inl (cI, 6, .inl (fun _ => 0)))] := hD
  refine n_arr S hin (by decide) hP hD hS 0 rfl (atype := .int) (ty := .int) rfl (fun _ _ h => h) 133 (by decide +kernel) hl0 dX0_init_12 (fun K => lv_bipush S.1 S.2.1 (n := 6) (v := 6) dX0_init_13 (by decide) K) (N' := 6) (a0 := (6, .inl (fun _ => 0))) (fun _ => rfl) (by decide) (by decide) (by decide) (Nat.le_of_ble_eq_true rfl) (Nat.le_of_ble_eq_true rfl) dX0_init_15 1 162 (by decide) (Nat.le_of_ble_eq_true rfl) (by decide +kernel) rfl (fun _ => ⟨rfl, rfl⟩) dX0_init_17 (fun q1 H locs hP hD hS => ?_)
  have hP : va_P D vwCl [(h0, .inr (0, [.ref q0, .ref q1, .null, .int 0, .int 0, .int 0])), (q0, .inl (cI, 6, .inl (fun _ => 0))), (q1, .inl (cI, 6, .inl (fun _ => 0)))] H := hP
  have hD : va_D A [(h0, .inr (0, [.ref q0, .ref q1, .null, .int 0, .int 0, .int 0])), (q0, .inl (cI, 6, .inl (fun _ => 0))), (q1, .inl (cI, 6, .inl (fun _ => 0)))] := hD
  refine n_arr S hin (by decide) hP hD hS 0 rfl (atype := .int) (ty := .int) rfl (fun _ _ h => h) 133 (by decide +kernel) hl0 dX0_init_20 (fun K => lv_bipush S.1 S.2.1 (n := 10) (v := 10) dX0_init_21 (by decide) K) (N' := 10) (a0 := (10, .inl (fun _ => 0))) (fun _ => rfl) (by decide) (by decide) (by decide) (Nat.le_of_ble_eq_true rfl) (Nat.le_of_ble_eq_true rfl) dX0_init_23 2 163 (by decide) (Nat.le_of_ble_eq_true rfl) (by decide +kernel) rfl (fun _ => ⟨rfl, rfl⟩) dX0_init_25 (fun q2 H locs hP hD hS => ?_)
  have hP : va_P D vwCl [(h0, .inr (0, [.ref q0, .ref q1, .ref q2, .int 0, .int 0, .int 0])), (q0, .inl (cI, 6, .inl (fun _ => 0))), (q1, .inl (cI, 6, .inl (fun _ => 0))), (q2, .inl (cI, 10, .inl (fun _ => 0)))] H := hP
  have hD : va_D A [(h0, .inr (0, [.ref q0, .ref q1, .ref q2, .int 0, .int 0, .int 0])), (q0, .inl (cI, 6, .inl (fun _ => 0))), (q1, .inl (cI, 6, .inl (fun _ => 0))), (q2, .inl (cI, 10, .inl (fun _ => 0)))] := hD
  refine n_zero S hin (by decide) hP hD hS hl0 dX0_init_28 dX0_init_29 3 164 (by decide) rfl (by decide +kernel) rfl rfl rfl dX0_init_30 (fun H locs hP hD hS => ?_)
  refine n_zero S hin (by decide) hP hD hS hl0 dX0_init_33 dX0_init_34 4 165 (by decide) rfl (by decide +kernel) rfl rfl rfl dX0_init_35 (fun H locs hP hD hS => ?_)
  refine n_zero S hin (by decide) hP hD hS hl0 dX0_init_38 dX0_init_39 5 167 (by decide) rfl (by decide +kernel) rfl rfl rfl dX0_init_40 (fun H locs hP hD hS => ?_)
  exact n_end (Φ := n_F0 cI cL) S hr hlocks hP hD hS ⟨q0, q1, q2, rfl⟩ dX0_init_43
theorem dX1_init_0 : decode cX1_init 0 = .ok (.aload_n 0, 1) := by decide +kernel
theorem dX1_init_1 : decode cX1_init 1 = .ok (.invokespecial 3, 3) := by decide +kernel
theorem dX1_init_4 : decode cX1_init 4 = .ok (.aload_n 0, 1) := by decide +kernel
theorem dX1_init_5 : decode cX1_init 5 = .ok (.bipush 20, 2) := by decide +kernel
theorem dX1_init_7 : decode cX1_init 7 = .ok (.newarray .int, 2) := by decide +kernel
theorem dX1_init_9 : decode cX1_init 9 = .ok (.putfield 9, 3) := by decide +kernel
theorem dX1_init_12 : decode cX1_init 12 = .ok (.aload_n 0, 1) := by decide +kernel
theorem dX1_init_13 : decode cX1_init 13 = .ok (.iconst 0, 1) := by decide +kernel
theorem dX1_init_14 : decode cX1_init 14 = .ok (.putfield 15, 3) := by decide +kernel
theorem dX1_init_17 : decode cX1_init 17 = .ok (.return_, 1) := by decide +kernel
def n_r1 : Room := { frames := 1, cells := 1, slots := 20, locals := 12 }
def n_F1 (cI cL : ClassId) (h0 : Nat) (u : n_T) : Prop := ∃ q0 : Nat, u = ([(h0, .inr (1, [.ref q0, .int 0])), (q0, .inl (cI, 20, .inl (fun _ => 0)))], [(cI, .int), (cL, .long)])
set_option maxHeartbeats 4000000 in
theorem n_ct1 (l : Launch) (D : va_G) (cI cL : ClassId) : n_Ct l D [(cI, .int), (cL, .long)] 1 cX1_init 1 n_r1 [.null, .int 0] (n_F1 cI cL) := by
  refine n_of (by decide +kernel) (by decide) ?_
  intro p e s m below meth c h0 A ls S hr hlocks hml hin hE hP hD hl
  have hl0 := lv_at hl 0 rfl
  have hS : va_S A s.heap s.heap [] := va_S.rf
  refine n_obj S (hl.1.trans hml.symm) hl0 dX1_init_0 279 (by decide +kernel) dX1_init_1 ⟨(Nat.le_of_ble_eq_true rfl), (Nat.le_of_ble_eq_true rfl)⟩ ?_
  refine n_arr S hin (by decide) hP hD hS 0 rfl (atype := .int) (ty := .int) rfl (fun _ _ h => h) 133 (by decide +kernel) hl0 dX1_init_4 (fun K => lv_bipush S.1 S.2.1 (n := 20) (v := 20) dX1_init_5 (by decide) K) (N' := 20) (a0 := (20, .inl (fun _ => 0))) (fun _ => rfl) (by decide) (by decide) (by decide) (Nat.le_of_ble_eq_true rfl) (Nat.le_of_ble_eq_true rfl) dX1_init_7 0 280 (by decide) (Nat.le_of_ble_eq_true rfl) (by decide +kernel) rfl (fun _ => ⟨rfl, rfl⟩) dX1_init_9 (fun q0 H locs hP hD hS => ?_)
  have hP : va_P D vwCl [(h0, .inr (1, [.ref q0, .int 0])), (q0, .inl (cI, 20, .inl (fun _ => 0)))] H := hP
  have hD : va_D A [(h0, .inr (1, [.ref q0, .int 0])), (q0, .inl (cI, 20, .inl (fun _ => 0)))] := hD
  refine n_zero S hin (by decide) hP hD hS hl0 dX1_init_12 dX1_init_13 1 281 (by decide) rfl (by decide +kernel) rfl rfl rfl dX1_init_14 (fun H locs hP hD hS => ?_)
  exact n_end (Φ := n_F1 cI cL) S hr hlocks hP hD hS ⟨q0, rfl⟩ dX1_init_17
theorem dX2_init_0 : decode cX2_init 0 = .ok (.aload_n 0, 1) := by decide +kernel
theorem dX2_init_1 : decode cX2_init 1 = .ok (.invokespecial 3, 3) := by decide +kernel
theorem dX2_init_4 : decode cX2_init 4 = .ok (.aload_n 0, 1) := by decide +kernel
theorem dX2_init_5 : decode cX2_init 5 = .ok (.iconst 0, 1) := by decide +kernel
theorem dX2_init_6 : decode cX2_init 6 = .ok (.putfield 9, 3) := by decide +kernel
theorem dX2_init_9 : decode cX2_init 9 = .ok (.aload_n 0, 1) := by decide +kernel
theorem dX2_init_10 : decode cX2_init 10 = .ok (.iconst 0, 1) := by decide +kernel
theorem dX2_init_11 : decode cX2_init 11 = .ok (.putfield 15, 3) := by decide +kernel
theorem dX2_init_14 : decode cX2_init 14 = .ok (.aload_n 0, 1) := by decide +kernel
theorem dX2_init_15 : decode cX2_init 15 = .ok (.iconst 0, 1) := by decide +kernel
theorem dX2_init_16 : decode cX2_init 16 = .ok (.putfield 18, 3) := by decide +kernel
theorem dX2_init_19 : decode cX2_init 19 = .ok (.aload_n 0, 1) := by decide +kernel
theorem dX2_init_20 : decode cX2_init 20 = .ok (.bipush 10, 2) := by decide +kernel
theorem dX2_init_22 : decode cX2_init 22 = .ok (.newarray .int, 2) := by decide +kernel
theorem dX2_init_24 : decode cX2_init 24 = .ok (.putfield 21, 3) := by decide +kernel
theorem dX2_init_27 : decode cX2_init 27 = .ok (.aload_n 0, 1) := by decide +kernel
theorem dX2_init_28 : decode cX2_init 28 = .ok (.bipush 10, 2) := by decide +kernel
theorem dX2_init_30 : decode cX2_init 30 = .ok (.newarray .int, 2) := by decide +kernel
theorem dX2_init_32 : decode cX2_init 32 = .ok (.putfield 25, 3) := by decide +kernel
theorem dX2_init_35 : decode cX2_init 35 = .ok (.aload_n 0, 1) := by decide +kernel
theorem dX2_init_36 : decode cX2_init 36 = .ok (.bipush 10, 2) := by decide +kernel
theorem dX2_init_38 : decode cX2_init 38 = .ok (.newarray .int, 2) := by decide +kernel
theorem dX2_init_40 : decode cX2_init 40 = .ok (.putfield 28, 3) := by decide +kernel
theorem dX2_init_43 : decode cX2_init 43 = .ok (.aload_n 0, 1) := by decide +kernel
theorem dX2_init_44 : decode cX2_init 44 = .ok (.bipush 10, 2) := by decide +kernel
theorem dX2_init_46 : decode cX2_init 46 = .ok (.newarray .int, 2) := by decide +kernel
theorem dX2_init_48 : decode cX2_init 48 = .ok (.putfield 31, 3) := by decide +kernel
theorem dX2_init_51 : decode cX2_init 51 = .ok (.return_, 1) := by decide +kernel
def n_r2 : Room := { frames := 1, cells := 4, slots := 40, locals := 12 }
def n_F2 (cI cL : ClassId) (h0 : Nat) (u : n_T) : Prop := ∃ q0 q1 q2 q3 : Nat, u = ([(h0, .inr (2, [.int 0, .int 0, .int 0, .ref q0, .ref q1, .ref q2, .ref q3])), (q0, .inl (cI, 10, .inl (fun _ => 0))), (q1, .inl (cI, 10, .inl (fun _ => 0))), (q2, .inl (cI, 10, .inl (fun _ => 0))), (q3, .inl (cI, 10, .inl (fun _ => 0)))], [(cI, .int), (cL, .long)])
set_option maxHeartbeats 4000000 in
theorem n_ct2 (l : Launch) (D : va_G) (cI cL : ClassId) : n_Ct l D [(cI, .int), (cL, .long)] 2 cX2_init 1 n_r2 [.int 0, .int 0, .int 0, .null, .null, .null, .null] (n_F2 cI cL) := by
  refine n_of (by decide +kernel) (by decide) ?_
  intro p e s m below meth c h0 A ls S hr hlocks hml hin hE hP hD hl
  have hl0 := lv_at hl 0 rfl
  have hS : va_S A s.heap s.heap [] := va_S.rf
  refine n_obj S (hl.1.trans hml.symm) hl0 dX2_init_0 79 (by decide +kernel) dX2_init_1 ⟨(Nat.le_of_ble_eq_true rfl), (Nat.le_of_ble_eq_true rfl)⟩ ?_
  refine n_zero S hin (by decide) hP hD hS hl0 dX2_init_4 dX2_init_5 0 80 (by decide) rfl (by decide +kernel) rfl rfl rfl dX2_init_6 (fun H locs hP hD hS => ?_)
  refine n_zero S hin (by decide) hP hD hS hl0 dX2_init_9 dX2_init_10 1 87 (by decide) rfl (by decide +kernel) rfl rfl rfl dX2_init_11 (fun H locs hP hD hS => ?_)
  refine n_zero S hin (by decide) hP hD hS hl0 dX2_init_14 dX2_init_15 2 95 (by decide) rfl (by decide +kernel) rfl rfl rfl dX2_init_16 (fun H locs hP hD hS => ?_)
  refine n_arr S hin (by decide) hP hD hS 0 rfl (atype := .int) (ty := .int) rfl (fun _ _ h => h) 133 (by decide +kernel) hl0 dX2_init_19 (fun K => lv_bipush S.1 S.2.1 (n := 10) (v := 10) dX2_init_20 (by decide) K) (N' := 10) (a0 := (10, .inl (fun _ => 0))) (fun _ => rfl) (by decide) (by decide) (by decide) (Nat.le_of_ble_eq_true rfl) (Nat.le_of_ble_eq_true rfl) dX2_init_22 3 98 (by decide) (Nat.le_of_ble_eq_true rfl) (by decide +kernel) rfl (fun _ => ⟨rfl, rfl⟩) dX2_init_24 (fun q0 H locs hP hD hS => ?_)
  have hP : va_P D vwCl [(h0, .inr (2, [.int 0, .int 0, .int 0, .ref q0, .null, .null, .null])), (q0, .inl (cI, 10, .inl (fun _ => 0)))] H := hP
  have hD : va_D A [(h0, .inr (2, [.int 0, .int 0, .int 0, .ref q0, .null, .null, .null])), (q0, .inl (cI, 10, .inl (fun _ => 0)))] := hD
  refine n_arr S hin (by decide) hP hD hS 0 rfl (atype := .int) (ty := .int) rfl (fun _ _ h => h) 133 (by decide +kernel) hl0 dX2_init_27 (fun K => lv_bipush S.1 S.2.1 (n := 10) (v := 10) dX2_init_28 (by decide) K) (N' := 10) (a0 := (10, .inl (fun _ => 0))) (fun _ => rfl) (by decide) (by decide) (by decide) (Nat.le_of_ble_eq_true rfl) (Nat.le_of_ble_eq_true rfl) dX2_init_30 4 105 (by decide) (Nat.le_of_ble_eq_true rfl) (by decide +kernel) rfl (fun _ => ⟨rfl, rfl⟩) dX2_init_32 (fun q1 H locs hP hD hS => ?_)
  have hP : va_P D vwCl [(h0, .inr (2, [.int 0, .int 0, .int 0, .ref q0, .ref q1, .null, .null])), (q0, .inl (cI, 10, .inl (fun _ => 0))), (q1, .inl (cI, 10, .inl (fun _ => 0)))] H := hP
  have hD : va_D A [(h0, .inr (2, [.int 0, .int 0, .int 0, .ref q0, .ref q1, .null, .null])), (q0, .inl (cI, 10, .inl (fun _ => 0))), (q1, .inl (cI, 10, .inl (fun _ => 0)))] := hD
  refine n_arr S hin (by decide) hP hD hS 0 rfl (atype := .int) (ty := .int) rfl (fun _ _ h => h) 133 (by decide +kernel) hl0 dX2_init_35 (fun K => lv_bipush S.1 S.2.1 (n := 10) (v := 10) dX2_init_36 (by decide) K) (N' := 10) (a0 := (10, .inl (fun _ => 0))) (fun _ => rfl) (by decide) (by decide) (by decide) (Nat.le_of_ble_eq_true rfl) (Nat.le_of_ble_eq_true rfl) dX2_init_38 5 112 (by decide) (Nat.le_of_ble_eq_true rfl) (by decide +kernel) rfl (fun _ => ⟨rfl, rfl⟩) dX2_init_40 (fun q2 H locs hP hD hS => ?_)
  have hP : va_P D vwCl [(h0, .inr (2, [.int 0, .int 0, .int 0, .ref q0, .ref q1, .ref q2, .null])), (q0, .inl (cI, 10, .inl (fun _ => 0))), (q1, .inl (cI, 10, .inl (fun _ => 0))), (q2, .inl (cI, 10, .inl (fun _ => 0)))] H := hP
  have hD : va_D A [(h0, .inr (2, [.int 0, .int 0, .int 0, .ref q0, .ref q1, .ref q2, .null])), (q0, .inl (cI, 10, .inl (fun _ => 0))), (q1, .inl (cI, 10, .inl (fun _ => 0))), (q2, .inl (cI, 10, .inl (fun _ => 0)))] := hD
  refine n_arr S hin (by decide) hP hD hS 0 rfl (atype := .int) (ty := .int) rfl (fun _ _ h => h) 133 (by decide +kernel) hl0 dX2_init_43 (fun K => lv_bipush S.1 S.2.1 (n := 10) (v := 10) dX2_init_44 (by decide) K) (N' := 10) (a0 := (10, .inl (fun _ => 0))) (fun _ => rfl) (by decide) (by decide) (by decide) (Nat.le_of_ble_eq_true rfl) (Nat.le_of_ble_eq_true rfl) dX2_init_46 6 114 (by decide) (Nat.le_of_ble_eq_true rfl) (by decide +kernel) rfl (fun _ => ⟨rfl, rfl⟩) dX2_init_48 (fun q3 H locs hP hD hS => ?_)
  have hP : va_P D vwCl [(h0, .inr (2, [.int 0, .int 0, .int 0, .ref q0, .ref q1, .ref q2, .ref q3])), (q0, .inl (cI, 10, .inl (fun _ => 0))), (q1, .inl (cI, 10, .inl (fun _ => 0))), (q2, .inl (cI, 10, .inl (fun _ => 0))), (q3, .inl (cI, 10, .inl (fun _ => 0)))] H := hP
  have hD : va_D A [(h0, .inr (2, [.int 0, .int 0, .int 0, .ref q0, .ref q1, .ref q2, .ref q3])), (q0, .inl (cI, 10, .inl (fun _ => 0))), (q1, .inl (cI, 10, .inl (fun _ => 0))), (q2, .inl (cI, 10, .inl (fun _ => 0))), (q3, .inl (cI, 10, .inl (fun _ => 0)))] := hD
  exact n_end (Φ := n_F2 cI cL) S hr hlocks hP hD hS ⟨q0, q1, q2, q3, rfl⟩ dX2_init_51
theorem dX3_init_0 : decode cX3_init 0 = .ok (.aload_n 0, 1) := by decide +kernel
theorem dX3_init_1 : decode cX3_init 1 = .ok (.invokespecial 3, 3) := by decide +kernel
theorem dX3_init_4 : decode cX3_init 4 = .ok (.aload_n 0, 1) := by decide +kernel
theorem dX3_init_5 : decode cX3_init 5 = .ok (.bipush 10, 2) := by decide +kernel
theorem dX3_init_7 : decode cX3_init 7 = .ok (.newarray .int, 2) := by decide +kernel
theorem dX3_init_9 : decode cX3_init 9 = .ok (.putfield 9, 3) := by decide +kernel
theorem dX3_init_12 : decode cX3_init 12 = .ok (.aload_n 0, 1) := by decide +kernel
theorem dX3_init_13 : decode cX3_init 13 = .ok (.bipush 10, 2) := by decide +kernel
theorem dX3_init_15 : decode cX3_init 15 = .ok (.newarray .int, 2) := by decide +kernel
theorem dX3_init_17 : decode cX3_init 17 = .ok (.putfield 15, 3) := by decide +kernel
theorem dX3_init_20 : decode cX3_init 20 = .ok (.aload_n 0, 1) := by decide +kernel
theorem dX3_init_21 : decode cX3_init 21 = .ok (.bipush 6, 2) := by decide +kernel
theorem dX3_init_23 : decode cX3_init 23 = .ok (.newarray .int, 2) := by decide +kernel
theorem dX3_init_25 : decode cX3_init 25 = .ok (.putfield 18, 3) := by decide +kernel
theorem dX3_init_28 : decode cX3_init 28 = .ok (.aload_n 0, 1) := by decide +kernel
theorem dX3_init_29 : decode cX3_init 29 = .ok (.bipush 10, 2) := by decide +kernel
theorem dX3_init_31 : decode cX3_init 31 = .ok (.newarray .int, 2) := by decide +kernel
theorem dX3_init_33 : decode cX3_init 33 = .ok (.putfield 21, 3) := by decide +kernel
theorem dX3_init_36 : decode cX3_init 36 = .ok (.aload_n 0, 1) := by decide +kernel
theorem dX3_init_37 : decode cX3_init 37 = .ok (.bipush 10, 2) := by decide +kernel
theorem dX3_init_39 : decode cX3_init 39 = .ok (.newarray .int, 2) := by decide +kernel
theorem dX3_init_41 : decode cX3_init 41 = .ok (.putfield 24, 3) := by decide +kernel
theorem dX3_init_44 : decode cX3_init 44 = .ok (.aload_n 0, 1) := by decide +kernel
theorem dX3_init_45 : decode cX3_init 45 = .ok (.bipush 10, 2) := by decide +kernel
theorem dX3_init_47 : decode cX3_init 47 = .ok (.newarray .int, 2) := by decide +kernel
theorem dX3_init_49 : decode cX3_init 49 = .ok (.putfield 27, 3) := by decide +kernel
theorem dX3_init_52 : decode cX3_init 52 = .ok (.aload_n 0, 1) := by decide +kernel
theorem dX3_init_53 : decode cX3_init 53 = .ok (.bipush 6, 2) := by decide +kernel
theorem dX3_init_55 : decode cX3_init 55 = .ok (.newarray .int, 2) := by decide +kernel
theorem dX3_init_57 : decode cX3_init 57 = .ok (.putfield 30, 3) := by decide +kernel
theorem dX3_init_60 : decode cX3_init 60 = .ok (.aload_n 0, 1) := by decide +kernel
theorem dX3_init_61 : decode cX3_init 61 = .ok (.bipush 6, 2) := by decide +kernel
theorem dX3_init_63 : decode cX3_init 63 = .ok (.newarray .int, 2) := by decide +kernel
theorem dX3_init_65 : decode cX3_init 65 = .ok (.putfield 33, 3) := by decide +kernel
theorem dX3_init_68 : decode cX3_init 68 = .ok (.aload_n 0, 1) := by decide +kernel
theorem dX3_init_69 : decode cX3_init 69 = .ok (.sipush 128, 3) := by decide +kernel
theorem dX3_init_72 : decode cX3_init 72 = .ok (.newarray .long, 2) := by decide +kernel
theorem dX3_init_74 : decode cX3_init 74 = .ok (.putfield 36, 3) := by decide +kernel
theorem dX3_init_77 : decode cX3_init 77 = .ok (.aload_n 0, 1) := by decide +kernel
theorem dX3_init_78 : decode cX3_init 78 = .ok (.sipush 128, 3) := by decide +kernel
theorem dX3_init_81 : decode cX3_init 81 = .ok (.newarray .int, 2) := by decide +kernel
theorem dX3_init_83 : decode cX3_init 83 = .ok (.putfield 40, 3) := by decide +kernel
theorem dX3_init_86 : decode cX3_init 86 = .ok (.aload_n 0, 1) := by decide +kernel
theorem dX3_init_87 : decode cX3_init 87 = .ok (.iconst 0, 1) := by decide +kernel
theorem dX3_init_88 : decode cX3_init 88 = .ok (.putfield 43, 3) := by decide +kernel
theorem dX3_init_91 : decode cX3_init 91 = .ok (.aload_n 0, 1) := by decide +kernel
theorem dX3_init_92 : decode cX3_init 92 = .ok (.iconst 0, 1) := by decide +kernel
theorem dX3_init_93 : decode cX3_init 93 = .ok (.putfield 47, 3) := by decide +kernel
theorem dX3_init_96 : decode cX3_init 96 = .ok (.return_, 1) := by decide +kernel
def n_r3 : Room := { frames := 1, cells := 10, slots := 324, locals := 12 }
def n_F3 (cI cL : ClassId) (h0 : Nat) (u : n_T) : Prop := ∃ q0 q1 q2 q3 q4 q5 q6 q7 q8 q9 : Nat, u = ([(h0, .inr (3, [.ref q0, .ref q1, .ref q2, .ref q3, .ref q4, .ref q5, .ref q6, .ref q7, .ref q8, .ref q9, .int 0, .int 0])), (q0, .inl (cI, 10, .inl (fun _ => 0))), (q1, .inl (cI, 10, .inl (fun _ => 0))), (q2, .inl (cI, 6, .inl (fun _ => 0))), (q3, .inl (cI, 10, .inl (fun _ => 0))), (q4, .inl (cI, 10, .inl (fun _ => 0))), (q5, .inl (cI, 10, .inl (fun _ => 0))), (q6, .inl (cI, 6, .inl (fun _ => 0))), (q7, .inl (cI, 6, .inl (fun _ => 0))), (q8, .inl (cL, 128, .inr (.inl (fun _ => 0)))), (q9, .inl (cI, 128, .inl (fun _ => 0)))], [(cI, .int), (cL, .long)])
set_option maxHeartbeats 4000000 in
theorem n_ct3 (l : Launch) (D : va_G) (cI cL : ClassId) : n_Ct l D [(cI, .int), (cL, .long)] 3 cX3_init 1 n_r3 [.null, .null, .null, .null, .null, .null, .null, .null, .null, .null, .int 0, .int 0] (n_F3 cI cL) := by
  refine n_of (by decide +kernel) (by decide) ?_
  intro p e s m below meth c h0 A ls S hr hlocks hml hin hE hP hD hl
  have hl0 := lv_at hl 0 rfl
  have hS : va_S A s.heap s.heap [] := va_S.rf
  refine n_obj S (hl.1.trans hml.symm) hl0 dX3_init_0 206 (by decide +kernel) dX3_init_1 ⟨(Nat.le_of_ble_eq_true rfl), (Nat.le_of_ble_eq_true rfl)⟩ ?_
  refine n_arr S hin (by decide) hP hD hS 0 rfl (atype := .int) (ty := .int) rfl (fun _ _ h => h) 133 (by decide +kernel) hl0 dX3_init_4 (fun K => lv_bipush S.1 S.2.1 (n := 10) (v := 10) dX3_init_5 (by decide) K) (N' := 10) (a0 := (10, .inl (fun _ => 0))) (fun _ => rfl) (by decide) (by decide) (by decide) (Nat.le_of_ble_eq_true rfl) (Nat.le_of_ble_eq_true rfl) dX3_init_7 0 207 (by decide) (Nat.le_of_ble_eq_true rfl) (by decide +kernel) rfl (fun _ => ⟨rfl, rfl⟩) dX3_init_9 (fun q0 H locs hP hD hS => ?_)
  have hP : va_P D vwCl [(h0, .inr (3, [.ref q0, .null, .null, .null, .null, .null, .null, .null, .null, .null, .int 0, .int 0])), (q0, .inl (cI, 10, .inl (fun _ => 0)))] H := hP
  have hD : va_D A [(h0, .inr (3, [.ref q0, .null, .null, .null, .null, .null, .null, .null, .null, .null, .int 0, .int 0])), (q0, .inl (cI, 10, .inl (fun _ => 0)))] := hD
  refine n_arr S hin (by decide) hP hD hS 0 rfl (atype := .int) (ty := .int) rfl (fun _ _ h => h) 133 (by decide +kernel) hl0 dX3_init_12 (fun K => lv_bipush S.1 S.2.1 (n := 10) (v := 10) dX3_init_13 (by decide) K) (N' := 10) (a0 := (10, .inl (fun _ => 0))) (fun _ => rfl) (by decide) (by decide) (by decide) (Nat.le_of_ble_eq_true rfl) (Nat.le_of_ble_eq_true rfl) dX3_init_15 1 209 (by decide) (Nat.le_of_ble_eq_true rfl) (by decide +kernel) rfl (fun _ => ⟨rfl, rfl⟩) dX3_init_17 (fun q1 H locs hP hD hS => ?_)
  have hP : va_P D vwCl [(h0, .inr (3, [.ref q0, .ref q1, .null, .null, .null, .null, .null, .null, .null, .null, .int 0, .int 0])), (q0, .inl (cI, 10, .inl (fun _ => 0))), (q1, .inl (cI, 10, .inl (fun _ => 0)))] H := hP
  have hD : va_D A [(h0, .inr (3, [.ref q0, .ref q1, .null, .null, .null, .null, .null, .null, .null, .null, .int 0, .int 0])), (q0, .inl (cI, 10, .inl (fun _ => 0))), (q1, .inl (cI, 10, .inl (fun _ => 0)))] := hD
  refine n_arr S hin (by decide) hP hD hS 0 rfl (atype := .int) (ty := .int) rfl (fun _ _ h => h) 133 (by decide +kernel) hl0 dX3_init_20 (fun K => lv_bipush S.1 S.2.1 (n := 6) (v := 6) dX3_init_21 (by decide) K) (N' := 6) (a0 := (6, .inl (fun _ => 0))) (fun _ => rfl) (by decide) (by decide) (by decide) (Nat.le_of_ble_eq_true rfl) (Nat.le_of_ble_eq_true rfl) dX3_init_23 2 210 (by decide) (Nat.le_of_ble_eq_true rfl) (by decide +kernel) rfl (fun _ => ⟨rfl, rfl⟩) dX3_init_25 (fun q2 H locs hP hD hS => ?_)
  have hP : va_P D vwCl [(h0, .inr (3, [.ref q0, .ref q1, .ref q2, .null, .null, .null, .null, .null, .null, .null, .int 0, .int 0])), (q0, .inl (cI, 10, .inl (fun _ => 0))), (q1, .inl (cI, 10, .inl (fun _ => 0))), (q2, .inl (cI, 6, .inl (fun _ => 0)))] H := hP
  have hD : va_D A [(h0, .inr (3, [.ref q0, .ref q1, .ref q2, .null, .null, .null, .null, .null, .null, .null, .int 0, .int 0])), (q0, .inl (cI, 10, .inl (fun _ => 0))), (q1, .inl (cI, 10, .inl (fun _ => 0))), (q2, .inl (cI, 6, .inl (fun _ => 0)))] := hD
  refine n_arr S hin (by decide) hP hD hS 0 rfl (atype := .int) (ty := .int) rfl (fun _ _ h => h) 133 (by decide +kernel) hl0 dX3_init_28 (fun K => lv_bipush S.1 S.2.1 (n := 10) (v := 10) dX3_init_29 (by decide) K) (N' := 10) (a0 := (10, .inl (fun _ => 0))) (fun _ => rfl) (by decide) (by decide) (by decide) (Nat.le_of_ble_eq_true rfl) (Nat.le_of_ble_eq_true rfl) dX3_init_31 3 211 (by decide) (Nat.le_of_ble_eq_true rfl) (by decide +kernel) rfl (fun _ => ⟨rfl, rfl⟩) dX3_init_33 (fun q3 H locs hP hD hS => ?_)
  have hP : va_P D vwCl [(h0, .inr (3, [.ref q0, .ref q1, .ref q2, .ref q3, .null, .null, .null, .null, .null, .null, .int 0, .int 0])), (q0, .inl (cI, 10, .inl (fun _ => 0))), (q1, .inl (cI, 10, .inl (fun _ => 0))), (q2, .inl (cI, 6, .inl (fun _ => 0))), (q3, .inl (cI, 10, .inl (fun _ => 0)))] H := hP
  have hD : va_D A [(h0, .inr (3, [.ref q0, .ref q1, .ref q2, .ref q3, .null, .null, .null, .null, .null, .null, .int 0, .int 0])), (q0, .inl (cI, 10, .inl (fun _ => 0))), (q1, .inl (cI, 10, .inl (fun _ => 0))), (q2, .inl (cI, 6, .inl (fun _ => 0))), (q3, .inl (cI, 10, .inl (fun _ => 0)))] := hD
  refine n_arr S hin (by decide) hP hD hS 0 rfl (atype := .int) (ty := .int) rfl (fun _ _ h => h) 133 (by decide +kernel) hl0 dX3_init_36 (fun K => lv_bipush S.1 S.2.1 (n := 10) (v := 10) dX3_init_37 (by decide) K) (N' := 10) (a0 := (10, .inl (fun _ => 0))) (fun _ => rfl) (by decide) (by decide) (by decide) (Nat.le_of_ble_eq_true rfl) (Nat.le_of_ble_eq_true rfl) dX3_init_39 4 212 (by decide) (Nat.le_of_ble_eq_true rfl) (by decide +kernel) rfl (fun _ => ⟨rfl, rfl⟩) dX3_init_41 (fun q4 H locs hP hD hS => ?_)
  have hP : va_P D vwCl [(h0, .inr (3, [.ref q0, .ref q1, .ref q2, .ref q3, .ref q4, .null, .null, .null, .null, .null, .int 0, .int 0])), (q0, .inl (cI, 10, .inl (fun _ => 0))), (q1, .inl (cI, 10, .inl (fun _ => 0))), (q2, .inl (cI, 6, .inl (fun _ => 0))), (q3, .inl (cI, 10, .inl (fun _ => 0))), (q4, .inl (cI, 10, .inl (fun _ => 0)))] H := hP
  have hD : va_D A [(h0, .inr (3, [.ref q0, .ref q1, .ref q2, .ref q3, .ref q4, .null, .null, .null, .null, .null, .int 0, .int 0])), (q0, .inl (cI, 10, .inl (fun _ => 0))), (q1, .inl (cI, 10, .inl (fun _ => 0))), (q2, .inl (cI, 6, .inl (fun _ => 0))), (q3, .inl (cI, 10, .inl (fun _ => 0))), (q4, .inl (cI, 10, .inl (fun _ => 0)))] := hD
  refine n_arr S hin (by decide) hP hD hS 0 rfl (atype := .int) (ty := .int) rfl (fun _ _ h => h) 133 (by decide +kernel) hl0 dX3_init_44 (fun K => lv_bipush S.1 S.2.1 (n := 10) (v := 10) dX3_init_45 (by decide) K) (N' := 10) (a0 := (10, .inl (fun _ => 0))) (fun _ => rfl) (by decide) (by decide) (by decide) (Nat.le_of_ble_eq_true rfl) (Nat.le_of_ble_eq_true rfl) dX3_init_47 5 213 (by decide) (Nat.le_of_ble_eq_true rfl) (by decide +kernel) rfl (fun _ => ⟨rfl, rfl⟩) dX3_init_49 (fun q5 H locs hP hD hS => ?_)
  have hP : va_P D vwCl [(h0, .inr (3, [.ref q0, .ref q1, .ref q2, .ref q3, .ref q4, .ref q5, .null, .null, .null, .null, .int 0, .int 0])), (q0, .inl (cI, 10, .inl (fun _ => 0))), (q1, .inl (cI, 10, .inl (fun _ => 0))), (q2, .inl (cI, 6, .inl (fun _ => 0))), (q3, .inl (cI, 10, .inl (fun _ => 0))), (q4, .inl (cI, 10, .inl (fun _ => 0))), (q5, .inl (cI, 10, .inl (fun _ => 0)))] H := hP
  have hD : va_D A [(h0, .inr (3, [.ref q0, .ref q1, .ref q2, .ref q3, .ref q4, .ref q5, .null, .null, .null, .null, .int 0, .int 0])), (q0, .inl (cI, 10, .inl (fun _ => 0))), (q1, .inl (cI, 10, .inl (fun _ => 0))), (q2, .inl (cI, 6, .inl (fun _ => 0))), (q3, .inl (cI, 10, .inl (fun _ => 0))), (q4, .inl (cI, 10, .inl (fun _ => 0))), (q5, .inl (cI, 10, .inl (fun _ => 0)))] := hD
  refine n_arr S hin (by decide) hP hD hS 0 rfl (atype := .int) (ty := .int) rfl (fun _ _ h => h) 133 (by decide +kernel) hl0 dX3_init_52 (fun K => lv_bipush S.1 S.2.1 (n := 6) (v := 6) dX3_init_53 (by decide) K) (N' := 6) (a0 := (6, .inl (fun _ => 0))) (fun _ => rfl) (by decide) (by decide) (by decide) (Nat.le_of_ble_eq_true rfl) (Nat.le_of_ble_eq_true rfl) dX3_init_55 6 214 (by decide) (Nat.le_of_ble_eq_true rfl) (by decide +kernel) rfl (fun _ => ⟨rfl, rfl⟩) dX3_init_57 (fun q6 H locs hP hD hS => ?_)
  have hP : va_P D vwCl [(h0, .inr (3, [.ref q0, .ref q1, .ref q2, .ref q3, .ref q4, .ref q5, .ref q6, .null, .null, .null, .int 0, .int 0])), (q0, .inl (cI, 10, .inl (fun _ => 0))), (q1, .inl (cI, 10, .inl (fun _ => 0))), (q2, .inl (cI, 6, .inl (fun _ => 0))), (q3, .inl (cI, 10, .inl (fun _ => 0))), (q4, .inl (cI, 10, .inl (fun _ => 0))), (q5, .inl (cI, 10, .inl (fun _ => 0))), (q6, .inl (cI, 6, .inl (fun _ => 0)))] H := hP
  have hD : va_D A [(h0, .inr (3, [.ref q0, .ref q1, .ref q2, .ref q3, .ref q4, .ref q5, .ref q6, .null, .null, .null, .int 0, .int 0])), (q0, .inl (cI, 10, .inl (fun _ => 0))), (q1, .inl (cI, 10, .inl (fun _ => 0))), (q2, .inl (cI, 6, .inl (fun _ => 0))), (q3, .inl (cI, 10, .inl (fun _ => 0))), (q4, .inl (cI, 10, .inl (fun _ => 0))), (q5, .inl (cI, 10, .inl (fun _ => 0))), (q6, .inl (cI, 6, .inl (fun _ => 0)))] := hD
  refine n_arr S hin (by decide) hP hD hS 0 rfl (atype := .int) (ty := .int) rfl (fun _ _ h => h) 133 (by decide +kernel) hl0 dX3_init_60 (fun K => lv_bipush S.1 S.2.1 (n := 6) (v := 6) dX3_init_61 (by decide) K) (N' := 6) (a0 := (6, .inl (fun _ => 0))) (fun _ => rfl) (by decide) (by decide) (by decide) (Nat.le_of_ble_eq_true rfl) (Nat.le_of_ble_eq_true rfl) dX3_init_63 7 215 (by decide) (Nat.le_of_ble_eq_true rfl) (by decide +kernel) rfl (fun _ => ⟨rfl, rfl⟩) dX3_init_65 (fun q7 H locs hP hD hS => ?_)
  have hP : va_P D vwCl [(h0, .inr (3, [.ref q0, .ref q1, .ref q2, .ref q3, .ref q4, .ref q5, .ref q6, .ref q7, .null, .null, .int 0, .int 0])), (q0, .inl (cI, 10, .inl (fun _ => 0))), (q1, .inl (cI, 10, .inl (fun _ => 0))), (q2, .inl (cI, 6, .inl (fun _ => 0))), (q3, .inl (cI, 10, .inl (fun _ => 0))), (q4, .inl (cI, 10, .inl (fun _ => 0))), (q5, .inl (cI, 10, .inl (fun _ => 0))), (q6, .inl (cI, 6, .inl (fun _ => 0))), (q7, .inl (cI, 6, .inl (fun _ => 0)))] H := hP
  have hD : va_D A [(h0, .inr (3, [.ref q0, .ref q1, .ref q2, .ref q3, .ref q4, .ref q5, .ref q6, .ref q7, .null, .null, .int 0, .int 0])), (q0, .inl (cI, 10, .inl (fun _ => 0))), (q1, .inl (cI, 10, .inl (fun _ => 0))), (q2, .inl (cI, 6, .inl (fun _ => 0))), (q3, .inl (cI, 10, .inl (fun _ => 0))), (q4, .inl (cI, 10, .inl (fun _ => 0))), (q5, .inl (cI, 10, .inl (fun _ => 0))), (q6, .inl (cI, 6, .inl (fun _ => 0))), (q7, .inl (cI, 6, .inl (fun _ => 0)))] := hD
  refine n_arr S hin (by decide) hP hD hS 1 rfl (atype := .long) (ty := .long) rfl (fun _ _ h => h) 245 (by decide +kernel) hl0 dX3_init_68 (fun K => lv_sipush S.1 S.2.1 (n := 128) (v := 128) dX3_init_69 (by decide) K) (N' := 128) (a0 := (128, .inr (.inl (fun _ => 0)))) (fun _ => rfl) (by decide) (by decide) (by decide) (Nat.le_of_ble_eq_true rfl) (Nat.le_of_ble_eq_true rfl) dX3_init_72 8 216 (by decide) (Nat.le_of_ble_eq_true rfl) (by decide +kernel) rfl (fun _ => ⟨rfl, rfl⟩) dX3_init_74 (fun q8 H locs hP hD hS => ?_)
  have hP : va_P D vwCl [(h0, .inr (3, [.ref q0, .ref q1, .ref q2, .ref q3, .ref q4, .ref q5, .ref q6, .ref q7, .ref q8, .null, .int 0, .int 0])), (q0, .inl (cI, 10, .inl (fun _ => 0))), (q1, .inl (cI, 10, .inl (fun _ => 0))), (q2, .inl (cI, 6, .inl (fun _ => 0))), (q3, .inl (cI, 10, .inl (fun _ => 0))), (q4, .inl (cI, 10, .inl (fun _ => 0))), (q5, .inl (cI, 10, .inl (fun _ => 0))), (q6, .inl (cI, 6, .inl (fun _ => 0))), (q7, .inl (cI, 6, .inl (fun _ => 0))), (q8, .inl (cL, 128, .inr (.inl (fun _ => 0))))] H := hP
  have hD : va_D A [(h0, .inr (3, [.ref q0, .ref q1, .ref q2, .ref q3, .ref q4, .ref q5, .ref q6, .ref q7, .ref q8, .null, .int 0, .int 0])), (q0, .inl (cI, 10, .inl (fun _ => 0))), (q1, .inl (cI, 10, .inl (fun _ => 0))), (q2, .inl (cI, 6, .inl (fun _ => 0))), (q3, .inl (cI, 10, .inl (fun _ => 0))), (q4, .inl (cI, 10, .inl (fun _ => 0))), (q5, .inl (cI, 10, .inl (fun _ => 0))), (q6, .inl (cI, 6, .inl (fun _ => 0))), (q7, .inl (cI, 6, .inl (fun _ => 0))), (q8, .inl (cL, 128, .inr (.inl (fun _ => 0))))] := hD
  refine n_arr S hin (by decide) hP hD hS 0 rfl (atype := .int) (ty := .int) rfl (fun _ _ h => h) 133 (by decide +kernel) hl0 dX3_init_77 (fun K => lv_sipush S.1 S.2.1 (n := 128) (v := 128) dX3_init_78 (by decide) K) (N' := 128) (a0 := (128, .inl (fun _ => 0))) (fun _ => rfl) (by decide) (by decide) (by decide) (Nat.le_of_ble_eq_true rfl) (Nat.le_of_ble_eq_true rfl) dX3_init_81 9 217 (by decide) (Nat.le_of_ble_eq_true rfl) (by decide +kernel) rfl (fun _ => ⟨rfl, rfl⟩) dX3_init_83 (fun q9 H locs hP hD hS => ?_)
  have hP : va_P D vwCl [(h0, .inr (3, [.ref q0, .ref q1, .ref q2, .ref q3, .ref q4, .ref q5, .ref q6, .ref q7, .ref q8, .ref q9, .int 0, .int 0])), (q0, .inl (cI, 10, .inl (fun _ => 0))), (q1, .inl (cI, 10, .inl (fun _ => 0))), (q2, .inl (cI, 6, .inl (fun _ => 0))), (q3, .inl (cI, 10, .inl (fun _ => 0))), (q4, .inl (cI, 10, .inl (fun _ => 0))), (q5, .inl (cI, 10, .inl (fun _ => 0))), (q6, .inl (cI, 6, .inl (fun _ => 0))), (q7, .inl (cI, 6, .inl (fun _ => 0))), (q8, .inl (cL, 128, .inr (.inl (fun _ => 0)))), (q9, .inl (cI, 128, .inl (fun _ => 0)))] H := hP
  have hD : va_D A [(h0, .inr (3, [.ref q0, .ref q1, .ref q2, .ref q3, .ref q4, .ref q5, .ref q6, .ref q7, .ref q8, .ref q9, .int 0, .int 0])), (q0, .inl (cI, 10, .inl (fun _ => 0))), (q1, .inl (cI, 10, .inl (fun _ => 0))), (q2, .inl (cI, 6, .inl (fun _ => 0))), (q3, .inl (cI, 10, .inl (fun _ => 0))), (q4, .inl (cI, 10, .inl (fun _ => 0))), (q5, .inl (cI, 10, .inl (fun _ => 0))), (q6, .inl (cI, 6, .inl (fun _ => 0))), (q7, .inl (cI, 6, .inl (fun _ => 0))), (q8, .inl (cL, 128, .inr (.inl (fun _ => 0)))), (q9, .inl (cI, 128, .inl (fun _ => 0)))] := hD
  refine n_zero S hin (by decide) hP hD hS hl0 dX3_init_86 dX3_init_87 10 218 (by decide) rfl (by decide +kernel) rfl rfl rfl dX3_init_88 (fun H locs hP hD hS => ?_)
  refine n_zero S hin (by decide) hP hD hS hl0 dX3_init_91 dX3_init_92 11 219 (by decide) rfl (by decide +kernel) rfl rfl rfl dX3_init_93 (fun H locs hP hD hS => ?_)
  exact n_end (Φ := n_F3 cI cL) S hr hlocks hP hD hS ⟨q0, q1, q2, q3, q4, q5, q6, q7, q8, q9, rfl⟩ dX3_init_96
theorem dX4_init_0 : decode cX4_init 0 = .ok (.aload_n 0, 1) := by decide +kernel
theorem dX4_init_1 : decode cX4_init 1 = .ok (.invokespecial 3, 3) := by decide +kernel
theorem dX4_init_4 : decode cX4_init 4 = .ok (.aload_n 0, 1) := by decide +kernel
theorem dX4_init_5 : decode cX4_init 5 = .ok (.bipush 10, 2) := by decide +kernel
theorem dX4_init_7 : decode cX4_init 7 = .ok (.newarray .int, 2) := by decide +kernel
theorem dX4_init_9 : decode cX4_init 9 = .ok (.putfield 9, 3) := by decide +kernel
theorem dX4_init_12 : decode cX4_init 12 = .ok (.aload_n 0, 1) := by decide +kernel
theorem dX4_init_13 : decode cX4_init 13 = .ok (.bipush 10, 2) := by decide +kernel
theorem dX4_init_15 : decode cX4_init 15 = .ok (.newarray .int, 2) := by decide +kernel
theorem dX4_init_17 : decode cX4_init 17 = .ok (.putfield 15, 3) := by decide +kernel
theorem dX4_init_20 : decode cX4_init 20 = .ok (.aload_n 0, 1) := by decide +kernel
theorem dX4_init_21 : decode cX4_init 21 = .ok (.iconst 0, 1) := by decide +kernel
theorem dX4_init_22 : decode cX4_init 22 = .ok (.putfield 18, 3) := by decide +kernel
theorem dX4_init_25 : decode cX4_init 25 = .ok (.aload_n 0, 1) := by decide +kernel
theorem dX4_init_26 : decode cX4_init 26 = .ok (.bipush 10, 2) := by decide +kernel
theorem dX4_init_28 : decode cX4_init 28 = .ok (.newarray .int, 2) := by decide +kernel
theorem dX4_init_30 : decode cX4_init 30 = .ok (.putfield 22, 3) := by decide +kernel
theorem dX4_init_33 : decode cX4_init 33 = .ok (.aload_n 0, 1) := by decide +kernel
theorem dX4_init_34 : decode cX4_init 34 = .ok (.bipush 6, 2) := by decide +kernel
theorem dX4_init_36 : decode cX4_init 36 = .ok (.newarray .int, 2) := by decide +kernel
theorem dX4_init_38 : decode cX4_init 38 = .ok (.putfield 25, 3) := by decide +kernel
theorem dX4_init_41 : decode cX4_init 41 = .ok (.aload_n 0, 1) := by decide +kernel
theorem dX4_init_42 : decode cX4_init 42 = .ok (.bipush 6, 2) := by decide +kernel
theorem dX4_init_44 : decode cX4_init 44 = .ok (.newarray .int, 2) := by decide +kernel
theorem dX4_init_46 : decode cX4_init 46 = .ok (.putfield 28, 3) := by decide +kernel
theorem dX4_init_49 : decode cX4_init 49 = .ok (.return_, 1) := by decide +kernel
def n_r4 : Room := { frames := 1, cells := 5, slots := 42, locals := 12 }
def n_F4 (cI cL : ClassId) (h0 : Nat) (u : n_T) : Prop := ∃ q0 q1 q2 q3 q4 : Nat, u = ([(h0, .inr (4, [.ref q0, .ref q1, .int 0, .ref q2, .ref q3, .ref q4])), (q0, .inl (cI, 10, .inl (fun _ => 0))), (q1, .inl (cI, 10, .inl (fun _ => 0))), (q2, .inl (cI, 10, .inl (fun _ => 0))), (q3, .inl (cI, 6, .inl (fun _ => 0))), (q4, .inl (cI, 6, .inl (fun _ => 0)))], [(cI, .int), (cL, .long)])
set_option maxHeartbeats 4000000 in
theorem n_ct4 (l : Launch) (D : va_G) (cI cL : ClassId) : n_Ct l D [(cI, .int), (cL, .long)] 4 cX4_init 1 n_r4 [.null, .null, .int 0, .null, .null, .null] (n_F4 cI cL) := by
  refine n_of (by decide +kernel) (by decide) ?_
  intro p e s m below meth c h0 A ls S hr hlocks hml hin hE hP hD hl
  have hl0 := lv_at hl 0 rfl
  have hS : va_S A s.heap s.heap [] := va_S.rf
  refine n_obj S (hl.1.trans hml.symm) hl0 dX4_init_0 251 (by decide +kernel) dX4_init_1 ⟨(Nat.le_of_ble_eq_true rfl), (Nat.le_of_ble_eq_true rfl)⟩ ?_
  refine n_arr S hin (by decide) hP hD hS 0 rfl (atype := .int) (ty := .int) rfl (fun _ _ h => h) 133 (by decide +kernel) hl0 dX4_init_4 (fun K => lv_bipush S.1 S.2.1 (n := 10) (v := 10) dX4_init_5 (by decide) K) (N' := 10) (a0 := (10, .inl (fun _ => 0))) (fun _ => rfl) (by decide) (by decide) (by decide) (Nat.le_of_ble_eq_true rfl) (Nat.le_of_ble_eq_true rfl) dX4_init_7 0 252 (by decide) (Nat.le_of_ble_eq_true rfl) (by decide +kernel) rfl (fun _ => ⟨rfl, rfl⟩) dX4_init_9 (fun q0 H locs hP hD hS => ?_)
  have hP : va_P D vwCl [(h0, .inr (4, [.ref q0, .null, .int 0, .null, .null, .null])), (q0, .inl (cI, 10, .inl (fun _ => 0)))] H := hP
  have hD : va_D A [(h0, .inr (4, [.ref q0, .null, .int 0, .null, .null, .null])), (q0, .inl (cI, 10, .inl (fun _ => 0)))] := hD
  refine n_arr S hin (by decide) hP hD hS 0 rfl (atype := .int) (ty := .int) rfl (fun _ _ h => h) 133 (by decide +kernel) hl0 dX4_init_12 (fun K => lv_bipush S.1 S.2.1 (n := 10) (v := 10) dX4_init_13 (by decide) K) (N' := 10) (a0 := (10, .inl (fun _ => 0))) (fun _ => rfl) (by decide) (by decide) (by decide) (Nat.le_of_ble_eq_true rfl) (Nat.le_of_ble_eq_true rfl) dX4_init_15 1 254 (by decide) (Nat.le_of_ble_eq_true rfl) (by decide +kernel) rfl (fun _ => ⟨rfl, rfl⟩) dX4_init_17 (fun q1 H locs hP hD hS => ?_)
  have hP : va_P D vwCl [(h0, .inr (4, [.ref q0, .ref q1, .int 0, .null, .null, .null])), (q0, .inl (cI, 10, .inl (fun _ => 0))), (q1, .inl (cI, 10, .inl (fun _ => 0)))] H := hP
  have hD : va_D A [(h0, .inr (4, [.ref q0, .ref q1, .int 0, .null, .null, .null])), (q0, .inl (cI, 10, .inl (fun _ => 0))), (q1, .inl (cI, 10, .inl (fun _ => 0)))] := hD
  refine n_zero S hin (by decide) hP hD hS hl0 dX4_init_20 dX4_init_21 2 256 (by decide) rfl (by decide +kernel) rfl rfl rfl dX4_init_22 (fun H locs hP hD hS => ?_)
  refine n_arr S hin (by decide) hP hD hS 0 rfl (atype := .int) (ty := .int) rfl (fun _ _ h => h) 133 (by decide +kernel) hl0 dX4_init_25 (fun K => lv_bipush S.1 S.2.1 (n := 10) (v := 10) dX4_init_26 (by decide) K) (N' := 10) (a0 := (10, .inl (fun _ => 0))) (fun _ => rfl) (by decide) (by decide) (by decide) (Nat.le_of_ble_eq_true rfl) (Nat.le_of_ble_eq_true rfl) dX4_init_28 3 258 (by decide) (Nat.le_of_ble_eq_true rfl) (by decide +kernel) rfl (fun _ => ⟨rfl, rfl⟩) dX4_init_30 (fun q2 H locs hP hD hS => ?_)
  have hP : va_P D vwCl [(h0, .inr (4, [.ref q0, .ref q1, .int 0, .ref q2, .null, .null])), (q0, .inl (cI, 10, .inl (fun _ => 0))), (q1, .inl (cI, 10, .inl (fun _ => 0))), (q2, .inl (cI, 10, .inl (fun _ => 0)))] H := hP
  have hD : va_D A [(h0, .inr (4, [.ref q0, .ref q1, .int 0, .ref q2, .null, .null])), (q0, .inl (cI, 10, .inl (fun _ => 0))), (q1, .inl (cI, 10, .inl (fun _ => 0))), (q2, .inl (cI, 10, .inl (fun _ => 0)))] := hD
  refine n_arr S hin (by decide) hP hD hS 0 rfl (atype := .int) (ty := .int) rfl (fun _ _ h => h) 133 (by decide +kernel) hl0 dX4_init_33 (fun K => lv_bipush S.1 S.2.1 (n := 6) (v := 6) dX4_init_34 (by decide) K) (N' := 6) (a0 := (6, .inl (fun _ => 0))) (fun _ => rfl) (by decide) (by decide) (by decide) (Nat.le_of_ble_eq_true rfl) (Nat.le_of_ble_eq_true rfl) dX4_init_36 4 259 (by decide) (Nat.le_of_ble_eq_true rfl) (by decide +kernel) rfl (fun _ => ⟨rfl, rfl⟩) dX4_init_38 (fun q3 H locs hP hD hS => ?_)
  have hP : va_P D vwCl [(h0, .inr (4, [.ref q0, .ref q1, .int 0, .ref q2, .ref q3, .null])), (q0, .inl (cI, 10, .inl (fun _ => 0))), (q1, .inl (cI, 10, .inl (fun _ => 0))), (q2, .inl (cI, 10, .inl (fun _ => 0))), (q3, .inl (cI, 6, .inl (fun _ => 0)))] H := hP
  have hD : va_D A [(h0, .inr (4, [.ref q0, .ref q1, .int 0, .ref q2, .ref q3, .null])), (q0, .inl (cI, 10, .inl (fun _ => 0))), (q1, .inl (cI, 10, .inl (fun _ => 0))), (q2, .inl (cI, 10, .inl (fun _ => 0))), (q3, .inl (cI, 6, .inl (fun _ => 0)))] := hD
  refine n_arr S hin (by decide) hP hD hS 0 rfl (atype := .int) (ty := .int) rfl (fun _ _ h => h) 133 (by decide +kernel) hl0 dX4_init_41 (fun K => lv_bipush S.1 S.2.1 (n := 6) (v := 6) dX4_init_42 (by decide) K) (N' := 6) (a0 := (6, .inl (fun _ => 0))) (fun _ => rfl) (by decide) (by decide) (by decide) (Nat.le_of_ble_eq_true rfl) (Nat.le_of_ble_eq_true rfl) dX4_init_44 5 260 (by decide) (Nat.le_of_ble_eq_true rfl) (by decide +kernel) rfl (fun _ => ⟨rfl, rfl⟩) dX4_init_46 (fun q4 H locs hP hD hS => ?_)
  have hP : va_P D vwCl [(h0, .inr (4, [.ref q0, .ref q1, .int 0, .ref q2, .ref q3, .ref q4])), (q0, .inl (cI, 10, .inl (fun _ => 0))), (q1, .inl (cI, 10, .inl (fun _ => 0))), (q2, .inl (cI, 10, .inl (fun _ => 0))), (q3, .inl (cI, 6, .inl (fun _ => 0))), (q4, .inl (cI, 6, .inl (fun _ => 0)))] H := hP
  have hD : va_D A [(h0, .inr (4, [.ref q0, .ref q1, .int 0, .ref q2, .ref q3, .ref q4])), (q0, .inl (cI, 10, .inl (fun _ => 0))), (q1, .inl (cI, 10, .inl (fun _ => 0))), (q2, .inl (cI, 10, .inl (fun _ => 0))), (q3, .inl (cI, 6, .inl (fun _ => 0))), (q4, .inl (cI, 6, .inl (fun _ => 0)))] := hD
  exact n_end (Φ := n_F4 cI cL) S hr hlocks hP hD hS ⟨q0, q1, q2, q3, q4, rfl⟩ dX4_init_49
theorem dX5_init_0 : decode cX5_init 0 = .ok (.aload_n 0, 1) := by decide +kernel
theorem dX5_init_1 : decode cX5_init 1 = .ok (.invokespecial 3, 3) := by decide +kernel
theorem dX5_init_4 : decode cX5_init 4 = .ok (.aload_n 0, 1) := by decide +kernel
theorem dX5_init_5 : decode cX5_init 5 = .ok (.sipush 1075, 3) := by decide +kernel
theorem dX5_init_8 : decode cX5_init 8 = .ok (.newarray .int, 2) := by decide +kernel
theorem dX5_init_10 : decode cX5_init 10 = .ok (.putfield 11, 3) := by decide +kernel
theorem dX5_init_13 : decode cX5_init 13 = .ok (.aload_n 0, 1) := by decide +kernel
theorem dX5_init_14 : decode cX5_init 14 = .ok (.iconst 0, 1) := by decide +kernel
theorem dX5_init_15 : decode cX5_init 15 = .ok (.putfield 17, 3) := by decide +kernel
theorem dX5_init_18 : decode cX5_init 18 = .ok (.aload_n 0, 1) := by decide +kernel
theorem dX5_init_19 : decode cX5_init 19 = .ok (.iconst 0, 1) := by decide +kernel
theorem dX5_init_20 : decode cX5_init 20 = .ok (.putfield 21, 3) := by decide +kernel
theorem dX5_init_23 : decode cX5_init 23 = .ok (.return_, 1) := by decide +kernel
def n_r5 : Room := { frames := 1, cells := 1, slots := 1075, locals := 12 }
def n_F5 (cI cL : ClassId) (h0 : Nat) (u : n_T) : Prop := ∃ q0 : Nat, u = ([(h0, .inr (5, [.ref q0, .int 0, .int 0])), (q0, .inl (cI, 1075, .inl (fun _ => 0)))], [(cI, .int), (cL, .long)])
set_option maxHeartbeats 4000000 in
theorem n_ct5 (l : Launch) (D : va_G) (cI cL : ClassId) : n_Ct l D [(cI, .int), (cL, .long)] 5 cX5_init 1 n_r5 [.null, .int 0, .int 0] (n_F5 cI cL) := by
  refine n_of (by decide +kernel) (by decide) ?_
  intro p e s m below meth c h0 A ls S hr hlocks hml hin hE hP hD hl
  have hl0 := lv_at hl 0 rfl
  have hS : va_S A s.heap s.heap [] := va_S.rf
  refine n_obj S (hl.1.trans hml.symm) hl0 dX5_init_0 139 (by decide +kernel) dX5_init_1 ⟨(Nat.le_of_ble_eq_true rfl), (Nat.le_of_ble_eq_true rfl)⟩ ?_
  refine n_arr S hin (by decide) hP hD hS 0 rfl (atype := .int) (ty := .int) rfl (fun _ _ h => h) 133 (by decide +kernel) hl0 dX5_init_4 (fun K => lv_sipush S.1 S.2.1 (n := 1075) (v := 1075) dX5_init_5 (by decide) K) (N' := 1075) (a0 := (1075, .inl (fun _ => 0))) (fun _ => rfl) (by decide) (by decide) (by decide) (Nat.le_of_ble_eq_true rfl) (Nat.le_of_ble_eq_true rfl) dX5_init_8 0 140 (by decide) (Nat.le_of_ble_eq_true rfl) (by decide +kernel) rfl (fun _ => ⟨rfl, rfl⟩) dX5_init_10 (fun q0 H locs hP hD hS => ?_)
  have hP : va_P D vwCl [(h0, .inr (5, [.ref q0, .int 0, .int 0])), (q0, .inl (cI, 1075, .inl (fun _ => 0)))] H := hP
  have hD : va_D A [(h0, .inr (5, [.ref q0, .int 0, .int 0])), (q0, .inl (cI, 1075, .inl (fun _ => 0)))] := hD
  refine n_zero S hin (by decide) hP hD hS hl0 dX5_init_13 dX5_init_14 1 141 (by decide) rfl (by decide +kernel) rfl rfl rfl dX5_init_15 (fun H locs hP hD hS => ?_)
  refine n_zero S hin (by decide) hP hD hS hl0 dX5_init_18 dX5_init_19 2 142 (by decide) rfl (by decide +kernel) rfl rfl rfl dX5_init_20 (fun H locs hP hD hS => ?_)
  exact n_end (Φ := n_F5 cI cL) S hr hlocks hP hD hS ⟨q0, rfl⟩ dX5_init_23
theorem dX6_init_0 : decode cX6_init 0 = .ok (.aload_n 0, 1) := by decide +kernel
theorem dX6_init_1 : decode cX6_init 1 = .ok (.invokespecial 3, 3) := by decide +kernel
theorem dX6_init_4 : decode cX6_init 4 = .ok (.aload_n 0, 1) := by decide +kernel
theorem dX6_init_5 : decode cX6_init 5 = .ok (.iconst 0, 1) := by decide +kernel
theorem dX6_init_6 : decode cX6_init 6 = .ok (.putfield 9, 3) := by decide +kernel
theorem dX6_init_9 : decode cX6_init 9 = .ok (.aload_n 0, 1) := by decide +kernel
theorem dX6_init_10 : decode cX6_init 10 = .ok (.iconst 0, 1) := by decide +kernel
theorem dX6_init_11 : decode cX6_init 11 = .ok (.putfield 15, 3) := by decide +kernel
theorem dX6_init_14 : decode cX6_init 14 = .ok (.aload_n 0, 1) := by decide +kernel
theorem dX6_init_15 : decode cX6_init 15 = .ok (.bipush 24, 2) := by decide +kernel
theorem dX6_init_17 : decode cX6_init 17 = .ok (.newarray .int, 2) := by decide +kernel
theorem dX6_init_19 : decode cX6_init 19 = .ok (.putfield 18, 3) := by decide +kernel
theorem dX6_init_22 : decode cX6_init 22 = .ok (.return_, 1) := by decide +kernel
def n_r6 : Room := { frames := 1, cells := 1, slots := 24, locals := 12 }
def n_F6 (cI cL : ClassId) (h0 : Nat) (u : n_T) : Prop := ∃ q0 : Nat, u = ([(h0, .inr (6, [.int 0, .int 0, .ref q0])), (q0, .inl (cI, 24, .inl (fun _ => 0)))], [(cI, .int), (cL, .long)])
set_option maxHeartbeats 4000000 in
theorem n_ct6 (l : Launch) (D : va_G) (cI cL : ClassId) : n_Ct l D [(cI, .int), (cL, .long)] 6 cX6_init 1 n_r6 [.int 0, .int 0, .null] (n_F6 cI cL) := by
  refine n_of (by decide +kernel) (by decide) ?_
  intro p e s m below meth c h0 A ls S hr hlocks hml hin hE hP hD hl
  have hl0 := lv_at hl 0 rfl
  have hS : va_S A s.heap s.heap [] := va_S.rf
  refine n_obj S (hl.1.trans hml.symm) hl0 dX6_init_0 317 (by decide +kernel) dX6_init_1 ⟨(Nat.le_of_ble_eq_true rfl), (Nat.le_of_ble_eq_true rfl)⟩ ?_
  refine n_zero S hin (by decide) hP hD hS hl0 dX6_init_4 dX6_init_5 0 318 (by decide) rfl (by decide +kernel) rfl rfl rfl dX6_init_6 (fun H locs hP hD hS => ?_)
  refine n_zero S hin (by decide) hP hD hS hl0 dX6_init_9 dX6_init_10 1 320 (by decide) rfl (by decide +kernel) rfl rfl rfl dX6_init_11 (fun H locs hP hD hS => ?_)
  refine n_arr S hin (by decide) hP hD hS 0 rfl (atype := .int) (ty := .int) rfl (fun _ _ h => h) 133 (by decide +kernel) hl0 dX6_init_14 (fun K => lv_bipush S.1 S.2.1 (n := 24) (v := 24) dX6_init_15 (by decide) K) (N' := 24) (a0 := (24, .inl (fun _ => 0))) (fun _ => rfl) (by decide) (by decide) (by decide) (Nat.le_of_ble_eq_true rfl) (Nat.le_of_ble_eq_true rfl) dX6_init_17 2 322 (by decide) (Nat.le_of_ble_eq_true rfl) (by decide +kernel) rfl (fun _ => ⟨rfl, rfl⟩) dX6_init_19 (fun q0 H locs hP hD hS => ?_)
  have hP : va_P D vwCl [(h0, .inr (6, [.int 0, .int 0, .ref q0])), (q0, .inl (cI, 24, .inl (fun _ => 0)))] H := hP
  have hD : va_D A [(h0, .inr (6, [.int 0, .int 0, .ref q0])), (q0, .inl (cI, 24, .inl (fun _ => 0)))] := hD
  exact n_end (Φ := n_F6 cI cL) S hr hlocks hP hD hS ⟨q0, rfl⟩ dX6_init_22
theorem dX7_init_0 : decode cX7_init 0 = .ok (.aload_n 0, 1) := by decide +kernel
theorem dX7_init_1 : decode cX7_init 1 = .ok (.invokespecial 3, 3) := by decide +kernel
theorem dX7_init_4 : decode cX7_init 4 = .ok (.aload_n 0, 1) := by decide +kernel
theorem dX7_init_5 : decode cX7_init 5 = .ok (.iconst 0, 1) := by decide +kernel
theorem dX7_init_6 : decode cX7_init 6 = .ok (.putfield 9, 3) := by decide +kernel
theorem dX7_init_9 : decode cX7_init 9 = .ok (.aload_n 0, 1) := by decide +kernel
theorem dX7_init_10 : decode cX7_init 10 = .ok (.iconst 0, 1) := by decide +kernel
theorem dX7_init_11 : decode cX7_init 11 = .ok (.putfield 15, 3) := by decide +kernel
theorem dX7_init_14 : decode cX7_init 14 = .ok (.aload_n 0, 1) := by decide +kernel
theorem dX7_init_15 : decode cX7_init 15 = .ok (.iconst 0, 1) := by decide +kernel
theorem dX7_init_16 : decode cX7_init 16 = .ok (.putfield 19, 3) := by decide +kernel
theorem dX7_init_19 : decode cX7_init 19 = .ok (.aload_n 0, 1) := by decide +kernel
theorem dX7_init_20 : decode cX7_init 20 = .ok (.iconst 0, 1) := by decide +kernel
theorem dX7_init_21 : decode cX7_init 21 = .ok (.putfield 22, 3) := by decide +kernel
theorem dX7_init_24 : decode cX7_init 24 = .ok (.aload_n 0, 1) := by decide +kernel
theorem dX7_init_25 : decode cX7_init 25 = .ok (.bipush 10, 2) := by decide +kernel
theorem dX7_init_27 : decode cX7_init 27 = .ok (.newarray .int, 2) := by decide +kernel
theorem dX7_init_29 : decode cX7_init 29 = .ok (.putfield 25, 3) := by decide +kernel
theorem dX7_init_32 : decode cX7_init 32 = .ok (.return_, 1) := by decide +kernel
def n_r7 : Room := { frames := 1, cells := 1, slots := 10, locals := 12 }
def n_F7 (cI cL : ClassId) (h0 : Nat) (u : n_T) : Prop := ∃ q0 : Nat, u = ([(h0, .inr (7, [.int 0, .int 0, .int 0, .int 0, .ref q0])), (q0, .inl (cI, 10, .inl (fun _ => 0)))], [(cI, .int), (cL, .long)])
set_option maxHeartbeats 4000000 in
theorem n_ct7 (l : Launch) (D : va_G) (cI cL : ClassId) : n_Ct l D [(cI, .int), (cL, .long)] 7 cX7_init 1 n_r7 [.int 0, .int 0, .int 0, .int 0, .null] (n_F7 cI cL) := by
  refine n_of (by decide +kernel) (by decide) ?_
  intro p e s m below meth c h0 A ls S hr hlocks hml hin hE hP hD hl
  have hl0 := lv_at hl 0 rfl
  have hS : va_S A s.heap s.heap [] := va_S.rf
  refine n_obj S (hl.1.trans hml.symm) hl0 dX7_init_0 291 (by decide +kernel) dX7_init_1 ⟨(Nat.le_of_ble_eq_true rfl), (Nat.le_of_ble_eq_true rfl)⟩ ?_
  refine n_zero S hin (by decide) hP hD hS hl0 dX7_init_4 dX7_init_5 0 292 (by decide) rfl (by decide +kernel) rfl rfl rfl dX7_init_6 (fun H locs hP hD hS => ?_)
  refine n_zero S hin (by decide) hP hD hS hl0 dX7_init_9 dX7_init_10 1 294 (by decide) rfl (by decide +kernel) rfl rfl rfl dX7_init_11 (fun H locs hP hD hS => ?_)
  refine n_zero S hin (by decide) hP hD hS hl0 dX7_init_14 dX7_init_15 2 296 (by decide) rfl (by decide +kernel) rfl rfl rfl dX7_init_16 (fun H locs hP hD hS => ?_)
  refine n_zero S hin (by decide) hP hD hS hl0 dX7_init_19 dX7_init_20 3 298 (by decide) rfl (by decide +kernel) rfl rfl rfl dX7_init_21 (fun H locs hP hD hS => ?_)
  refine n_arr S hin (by decide) hP hD hS 0 rfl (atype := .int) (ty := .int) rfl (fun _ _ h => h) 133 (by decide +kernel) hl0 dX7_init_24 (fun K => lv_bipush S.1 S.2.1 (n := 10) (v := 10) dX7_init_25 (by decide) K) (N' := 10) (a0 := (10, .inl (fun _ => 0))) (fun _ => rfl) (by decide) (by decide) (by decide) (Nat.le_of_ble_eq_true rfl) (Nat.le_of_ble_eq_true rfl) dX7_init_27 4 300 (by decide) (Nat.le_of_ble_eq_true rfl) (by decide +kernel) rfl (fun _ => ⟨rfl, rfl⟩) dX7_init_29 (fun q0 H locs hP hD hS => ?_)
  have hP : va_P D vwCl [(h0, .inr (7, [.int 0, .int 0, .int 0, .int 0, .ref q0])), (q0, .inl (cI, 10, .inl (fun _ => 0)))] H := hP
  have hD : va_D A [(h0, .inr (7, [.int 0, .int 0, .int 0, .int 0, .ref q0])), (q0, .inl (cI, 10, .inl (fun _ => 0)))] := hD
  exact n_end (Φ := n_F7 cI cL) S hr hlocks hP hD hS ⟨q0, rfl⟩ dX7_init_32
theorem dX8_init_0 : decode cX8_init 0 = .ok (.aload_n 0, 1) := by decide +kernel
theorem dX8_init_1 : decode cX8_init 1 = .ok (.invokespecial 3, 3) := by decide +kernel
theorem dX8_init_4 : decode cX8_init 4 = .ok (.aload_n 0, 1) := by decide +kernel
theorem dX8_init_5 : decode cX8_init 5 = .ok (.bipush 11, 2) := by decide +kernel
theorem dX8_init_7 : decode cX8_init 7 = .ok (.newarray .int, 2) := by decide +kernel
theorem dX8_init_9 : decode cX8_init 9 = .ok (.putfield 9, 3) := by decide +kernel
theorem dX8_init_12 : decode cX8_init 12 = .ok (.aload_n 0, 1) := by decide +kernel
theorem dX8_init_13 : decode cX8_init 13 = .ok (.bipush 11, 2) := by decide +kernel
theorem dX8_init_15 : decode cX8_init 15 = .ok (.newarray .int, 2) := by decide +kernel
theorem dX8_init_17 : decode cX8_init 17 = .ok (.putfield 15, 3) := by decide +kernel
theorem dX8_init_20 : decode cX8_init 20 = .ok (.aload_n 0, 1) := by decide +kernel
theorem dX8_init_21 : decode cX8_init 21 = .ok (.bipush 7, 2) := by decide +kernel
theorem dX8_init_23 : decode cX8_init 23 = .ok (.newarray .int, 2) := by decide +kernel
theorem dX8_init_25 : decode cX8_init 25 = .ok (.putfield 18, 3) := by decide +kernel
theorem dX8_init_28 : decode cX8_init 28 = .ok (.return_, 1) := by decide +kernel
def n_r8 : Room := { frames := 1, cells := 3, slots := 29, locals := 12 }
def n_F8 (cI cL : ClassId) (h0 : Nat) (u : n_T) : Prop := ∃ q0 q1 q2 : Nat, u = ([(h0, .inr (8, [.ref q0, .ref q1, .ref q2])), (q0, .inl (cI, 11, .inl (fun _ => 0))), (q1, .inl (cI, 11, .inl (fun _ => 0))), (q2, .inl (cI, 7, .inl (fun _ => 0)))], [(cI, .int), (cL, .long)])
set_option maxHeartbeats 4000000 in
theorem n_ct8 (l : Launch) (D : va_G) (cI cL : ClassId) : n_Ct l D [(cI, .int), (cL, .long)] 8 cX8_init 1 n_r8 [.null, .null, .null] (n_F8 cI cL) := by
  refine n_of (by decide +kernel) (by decide) ?_
  intro p e s m below meth c h0 A ls S hr hlocks hml hin hE hP hD hl
  have hl0 := lv_at hl 0 rfl
  have hS : va_S A s.heap s.heap [] := va_S.rf
  refine n_obj S (hl.1.trans hml.symm) hl0 dX8_init_0 187 (by decide +kernel) dX8_init_1 ⟨(Nat.le_of_ble_eq_true rfl), (Nat.le_of_ble_eq_true rfl)⟩ ?_
  refine n_arr S hin (by decide) hP hD hS 0 rfl (atype := .int) (ty := .int) rfl (fun _ _ h => h) 133 (by decide +kernel) hl0 dX8_init_4 (fun K => lv_bipush S.1 S.2.1 (n := 11) (v := 11) dX8_init_5 (by decide) K) (N' := 11) (a0 := (11, .inl (fun _ => 0))) (fun _ => rfl) (by decide) (by decide) (by decide) (Nat.le_of_ble_eq_true rfl) (Nat.le_of_ble_eq_true rfl) dX8_init_7 0 188 (by decide) (Nat.le_of_ble_eq_true rfl) (by decide +kernel) rfl (fun _ => ⟨rfl, rfl⟩) dX8_init_9 (fun q0 H locs hP hD hS => ?_)
  have hP : va_P D vwCl [(h0, .inr (8, [.ref q0, .null, .null])), (q0, .inl (cI, 11, .inl (fun _ => 0)))] H := hP
  have hD : va_D A [(h0, .inr (8, [.ref q0, .null, .null])), (q0, .inl (cI, 11, .inl (fun _ => 0)))] := hD
  refine n_arr S hin (by decide) hP hD hS 0 rfl (atype := .int) (ty := .int) rfl (fun _ _ h => h) 133 (by decide +kernel) hl0 dX8_init_12 (fun K => lv_bipush S.1 S.2.1 (n := 11) (v := 11) dX8_init_13 (by decide) K) (N' := 11) (a0 := (11, .inl (fun _ => 0))) (fun _ => rfl) (by decide) (by decide) (by decide) (Nat.le_of_ble_eq_true rfl) (Nat.le_of_ble_eq_true rfl) dX8_init_15 1 190 (by decide) (Nat.le_of_ble_eq_true rfl) (by decide +kernel) rfl (fun _ => ⟨rfl, rfl⟩) dX8_init_17 (fun q1 H locs hP hD hS => ?_)
  have hP : va_P D vwCl [(h0, .inr (8, [.ref q0, .ref q1, .null])), (q0, .inl (cI, 11, .inl (fun _ => 0))), (q1, .inl (cI, 11, .inl (fun _ => 0)))] H := hP
  have hD : va_D A [(h0, .inr (8, [.ref q0, .ref q1, .null])), (q0, .inl (cI, 11, .inl (fun _ => 0))), (q1, .inl (cI, 11, .inl (fun _ => 0)))] := hD
  refine n_arr S hin (by decide) hP hD hS 0 rfl (atype := .int) (ty := .int) rfl (fun _ _ h => h) 133 (by decide +kernel) hl0 dX8_init_20 (fun K => lv_bipush S.1 S.2.1 (n := 7) (v := 7) dX8_init_21 (by decide) K) (N' := 7) (a0 := (7, .inl (fun _ => 0))) (fun _ => rfl) (by decide) (by decide) (by decide) (Nat.le_of_ble_eq_true rfl) (Nat.le_of_ble_eq_true rfl) dX8_init_23 2 192 (by decide) (Nat.le_of_ble_eq_true rfl) (by decide +kernel) rfl (fun _ => ⟨rfl, rfl⟩) dX8_init_25 (fun q2 H locs hP hD hS => ?_)
  have hP : va_P D vwCl [(h0, .inr (8, [.ref q0, .ref q1, .ref q2])), (q0, .inl (cI, 11, .inl (fun _ => 0))), (q1, .inl (cI, 11, .inl (fun _ => 0))), (q2, .inl (cI, 7, .inl (fun _ => 0)))] H := hP
  have hD : va_D A [(h0, .inr (8, [.ref q0, .ref q1, .ref q2])), (q0, .inl (cI, 11, .inl (fun _ => 0))), (q1, .inl (cI, 11, .inl (fun _ => 0))), (q2, .inl (cI, 7, .inl (fun _ => 0)))] := hD
  exact n_end (Φ := n_F8 cI cL) S hr hlocks hP hD hS ⟨q0, q1, q2, rfl⟩ dX8_init_28
