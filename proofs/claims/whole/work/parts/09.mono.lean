/-! the steps are monotone; n steps at once -/
theorem z_pi_m {st : List Value} {k k' : Int32 → List Value → Prop} (h : z_pi st k) (hk : ∀ x r, k x r → k' x r) : z_pi st k' := by
  unfold z_pi at h ⊢
  split at h
  · exact hk _ _ h
  · exact h.elim
theorem z_pl_m {st : List Value} {k k' : Int64 → List Value → Prop} (h : z_pl st k) (hk : ∀ x r, k x r → k' x r) : z_pl st k' := by
  unfold z_pl at h ⊢
  split at h
  · exact hk _ _ h
  · exact h.elim
theorem z_pr_m {st : List Value} {k k' : Nat → List Value → Prop} (h : z_pr st k) (hk : ∀ x r, k x r → k' x r) : z_pr st k' := by
  unfold z_pr at h ⊢
  split at h
  · exact hk _ _ h
  · exact h.elim
theorem z_p1_m {st : List Value} {k k' : Value → List Value → Prop} (h : z_p1 st k) (hk : ∀ x r, k x r → k' x r) : z_p1 st k' := by
  unfold z_p1 at h ⊢
  split at h
  · exact hk _ _ h
  · exact hk _ _ h
  · exact h.elim
theorem z_p0_m {st : List Value} {k k' : Prop} (h : z_p0 st k) (hk : k → k') : z_p0 st k' := by
  unfold z_p0 at h ⊢
  split at h
  · exact hk h
  · exact h.elim
theorem z_gi_m {v : Option Value} {k k' : Int32 → Prop} (h : z_gi v k) (hk : ∀ x, k x → k' x) : z_gi v k' := by
  unfold z_gi at h ⊢
  split at h
  · exact hk _ h
  · exact h.elim
theorem z_gl_m {v : Option Value} {k k' : Int64 → Prop} (h : z_gl v k) (hk : ∀ x, k x → k' x) : z_gl v k' := by
  unfold z_gl at h ⊢
  split at h
  · exact hk _ h
  · exact h.elim
theorem z_gr_m {v : Option Value} {k k' : Nat → Prop} (h : z_gr v k) (hk : ∀ x, k x → k' x) : z_gr v k' := by
  unfold z_gr at h ⊢
  split at h
  · exact hk _ h
  · exact h.elim
theorem z_setK_m : ∀ {L : z_L} {n : Nat} {v : Option Value} {k k' : z_L → Prop}, z_setK L n v k → (∀ l, k l → k' l) → z_setK L n v k'
  | [], _, _, _, _, h, _ => h
  | _ :: _, 0, _, _, _, h, hk => hk _ h
  | _ :: l, n + 1, _, _, _, h, hk => z_setK_m (L := l) (n := n) h (fun _ h => hk _ h)
theorem z_popK_m : ∀ {n : Nat} {st acc : List Value} {k k' : List Value → List Value → Prop}, z_popK n st acc k → (∀ a r, k a r → k' a r) → z_popK n st acc k'
  | 0, _, _, _, _, h, hk => hk _ _ h
  | _ + 1, [], _, _, _, h, _ => h
  | n + 1, _ :: st, _, _, _, h, hk => z_popK_m (n := n) (st := st) h hk
theorem z_swK_m {x : Int32} {k k' : Nat → Prop} {d : Nat} (hk : ∀ t, k t → k' t) : ∀ {ts : List Nat} {i : Nat}, z_swK x k d ts i → z_swK x k' d ts i
  | [], _, h => fun q => hk _ (h q)
  | _ :: ts, i, h => ⟨fun q => hk _ (h.1 q), z_swK_m hk (ts := ts) (i := i + 1) h.2⟩
theorem z_bif_m {b : Bool} {A A' C C' : Prop} (h : bif b then A else C) (hA : A → A') (hC : C → C') : bif b then A' else C' := by
  cases b
  · exact hC h
  · exact hA h
theorem z_cal_m {call : Nat → List Value → z_M → Option Value → z_M → Prop} {M : Nat} {as rest : List Value} {σ : z_M} {k k' : List Value → z_M → Prop} (h : z_cal call M as rest σ k) (hk : ∀ st σ, k st σ → k' st σ) : z_cal call M as rest σ k' :=
  z_bif_m h (fun h => z_bif_m h (fun ⟨s, a, b⟩ => ⟨s, a, hk _ _ b⟩) (fun h => z_bif_m h (fun ⟨r, s, a, b⟩ => ⟨r, s, a, hk _ _ b⟩) (fun ⟨r, s, a, b⟩ => ⟨r, s, a, hk _ _ b⟩))) id
theorem z_br_m {a b A A' B B' : Prop} (h : (a → A) ∧ (b → B)) (hA : A → A') (hB : B → B') : (a → A') ∧ (b → B') := ⟨fun q => hA (h.1 q), fun q => hB (h.2 q)⟩
set_option maxHeartbeats 4000000 in
theorem z_mono {call : Nat → List Value → z_M → Option Value → z_M → Prop} {sc : Option (Nat × (Nat → Int32))} {M pc : Nat} {L : z_L} {st : List Value} {σ : z_M} {K K' : Nat → z_L → List Value → z_M → Prop} {R : Option Value → z_M → Prop}
    (hK : ∀ pc L st σ, K pc L st σ → K' pc L st σ) (h : z_step call sc M pc L st σ K R) : z_step call sc M pc L st σ K' R := by
  unfold z_step at h ⊢
  generalize z_tb M pc = e at h ⊢
  obtain ⟨i, nx, r1, r2, cv⟩ := e
  have s1 : ∀ {L : z_L} {n : Nat} {v : Option Value} {st : List Value}, (bif z_nl L n then z_setK L n v (fun L => K nx L st σ) else False) → (bif z_nl L n then z_setK L n v (fun L => K' nx L st σ) else False) := fun h => z_bif_m h (fun h => z_setK_m h (fun _ h => hK _ _ _ _ h)) id
  cases i with
  | iload j => exact z_gi_m h (fun _ h => hK _ _ _ _ h)
  | iload_n j => exact z_gi_m h (fun _ h => hK _ _ _ _ h)
  | lload j => exact z_gl_m h (fun _ h => hK _ _ _ _ h)
  | lload_n j => exact z_gl_m h (fun _ h => hK _ _ _ _ h)
  | aload j => exact z_gr_m h (fun _ h => hK _ _ _ _ h)
  | aload_n j => exact z_gr_m h (fun _ h => hK _ _ _ _ h)
  | istore j => exact z_pi_m h (fun _ _ h => s1 h)
  | istore_n j => exact z_pi_m h (fun _ _ h => s1 h)
  | astore j => exact z_pr_m h (fun _ _ h => s1 h)
  | astore_n j => exact z_pr_m h (fun _ _ h => s1 h)
  | lstore j => exact z_pl_m h (fun _ _ h => z_bif_m h (fun h => z_setK_m h (fun _ h => z_setK_m h (fun _ h => hK _ _ _ _ h))) id)
  | lstore_n j => exact z_pl_m h (fun _ _ h => z_bif_m h (fun h => z_setK_m h (fun _ h => z_setK_m h (fun _ h => hK _ _ _ _ h))) id)
  | iinc j n => exact z_gi_m h (fun _ h => s1 h)
  | iadd => exact z_pi_m h (fun _ _ h => z_pi_m h (fun _ _ h => hK _ _ _ _ h))
  | isub => exact z_pi_m h (fun _ _ h => z_pi_m h (fun _ _ h => hK _ _ _ _ h))
  | imul => exact z_pi_m h (fun _ _ h => z_pi_m h (fun _ _ h => hK _ _ _ _ h))
  | iand => exact z_pi_m h (fun _ _ h => z_pi_m h (fun _ _ h => hK _ _ _ _ h))
  | ior => exact z_pi_m h (fun _ _ h => z_pi_m h (fun _ _ h => hK _ _ _ _ h))
  | ixor => exact z_pi_m h (fun _ _ h => z_pi_m h (fun _ _ h => hK _ _ _ _ h))
  | ishl => exact z_pi_m h (fun _ _ h => z_pi_m h (fun _ _ h => hK _ _ _ _ h))
  | ishr => exact z_pi_m h (fun _ _ h => z_pi_m h (fun _ _ h => hK _ _ _ _ h))
  | iushr => exact z_pi_m h (fun _ _ h => z_pi_m h (fun _ _ h => hK _ _ _ _ h))
  | idiv => exact z_pi_m h (fun _ _ h => z_pi_m h (fun _ _ h => ⟨h.1, hK _ _ _ _ h.2⟩))
  | irem => exact z_pi_m h (fun _ _ h => z_pi_m h (fun _ _ h => ⟨h.1, hK _ _ _ _ h.2⟩))
  | ineg => exact z_pi_m h (fun _ _ h => hK _ _ _ _ h)
  | ladd => exact z_pl_m h (fun _ _ h => z_pl_m h (fun _ _ h => hK _ _ _ _ h))
  | lmul => exact z_pl_m h (fun _ _ h => z_pl_m h (fun _ _ h => hK _ _ _ _ h))
  | lneg => exact z_pl_m h (fun _ _ h => hK _ _ _ _ h)
  | lshl => exact z_pi_m h (fun _ _ h => z_pl_m h (fun _ _ h => hK _ _ _ _ h))
  | lushr => exact z_pi_m h (fun _ _ h => z_pl_m h (fun _ _ h => hK _ _ _ _ h))
  | lcmp => exact z_pl_m h (fun _ _ h => z_pl_m h (fun _ _ h => hK _ _ _ _ h))
  | i2l => exact z_pi_m h (fun _ _ h => hK _ _ _ _ h)
  | l2i => exact z_pl_m h (fun _ _ h => hK _ _ _ _ h)
  | i2b => exact z_pi_m h (fun _ _ h => hK _ _ _ _ h)
  | i2s => exact z_pi_m h (fun _ _ h => hK _ _ _ _ h)
  | dup => exact z_p1_m h (fun _ _ h => hK _ _ _ _ h)
  | dup2 => exact z_p1_m h (fun _ _ h => z_p1_m h (fun _ _ h => hK _ _ _ _ h))
  | iconst n => exact hK _ _ _ _ h
  | bipush n => exact hK _ _ _ _ h
  | sipush n => exact hK _ _ _ _ h
  | ldc n => exact hK _ _ _ _ h
  | ldc_w n => exact hK _ _ _ _ h
  | ldc2_w n => exact hK _ _ _ _ h
  | lconst n => exact hK _ _ _ _ h
  | goto n => exact hK _ _ _ _ h
  | ifCond c n => cases c <;> exact z_pi_m h (fun _ _ h => z_br_m h (hK _ _ _ _) (hK _ _ _ _))
  | if_icmp c n => cases c <;> exact z_pi_m h (fun _ _ h => z_pi_m h (fun _ _ h => z_br_m h (hK _ _ _ _) (hK _ _ _ _)))
  | tableswitch a b c d => exact z_pi_m h (fun _ _ h => z_swK_m (fun _ h => hK _ _ _ _ h) h)
  | getfield n => exact z_pr_m h (fun a _ h => z_bif_m h (fun h => by
      cases hz : z_rf a r2 with
      | none => rw [hz] at h; exact hK _ _ _ _ h
      | some t => rw [hz] at h; exact hK _ _ _ _ h) id)
  | putfield n => exact z_pi_m h (fun _ _ h => z_pr_m h (fun _ _ h => z_bif_m h (fun h => z_bif_m h (hK _ _ _ _) (fun h => z_bif_m h (fun h => ⟨h.1, hK _ _ _ _ h.2⟩) id)) id))
  | iaload => exact z_pi_m h (fun _ _ h => z_pr_m h (fun _ _ h => z_bif_m h (fun h => by
      cases sc with
      | none => exact h
      | some q => exact ⟨h.1, hK _ _ _ _ h.2⟩) (fun h => z_bif_m h (fun h => ⟨h.1, hK _ _ _ _ h.2⟩) id)))
  | iastore => exact z_pi_m h (fun _ _ h => z_pi_m h (fun _ _ h => z_pr_m h (fun _ _ h => z_bif_m h (fun h => ⟨h.1, hK _ _ _ _ h.2⟩) id)))
  | laload => exact z_pi_m h (fun _ _ h => z_pr_m h (fun _ _ h => z_bif_m h (fun h => ⟨h.1, hK _ _ _ _ h.2⟩) id))
  | lastore => exact z_pl_m h (fun _ _ h => z_pi_m h (fun _ _ h => z_pr_m h (fun _ _ h => z_bif_m h (fun h => ⟨h.1, hK _ _ _ _ h.2⟩) id)))
  | aaload =>
    have o4 : ∀ {a b c d A A' B B' C C' D D' : Prop}, (A → A') → (B → B') → (C → C') → (D → D') → (a ∧ A) ∨ (b ∧ B) ∨ (c ∧ C) ∨ (d ∧ D) → (a ∧ A') ∨ (b ∧ B') ∨ (c ∧ C') ∨ (d ∧ D') := fun f1 f2 f3 f4 h => h.imp (And.imp_right f1) (Or.imp (And.imp_right f2) (Or.imp (And.imp_right f3) (And.imp_right f4)))
    exact z_pi_m h (fun _ _ h => z_pr_m h (fun _ _ h => z_bif_m h (o4 (hK _ _ _ _) (hK _ _ _ _) (hK _ _ _ _) (hK _ _ _ _)) (fun h => z_bif_m h (o4 (hK _ _ _ _) (hK _ _ _ _) (hK _ _ _ _) (hK _ _ _ _)) id)))
  | arraylength => exact z_pr_m h (fun _ _ h => z_bif_m h (fun h => by
      cases sc with
      | none => exact h
      | some q => exact hK _ _ _ _ h) (fun h => z_bif_m h (hK _ _ _ _) id))
  | invokevirtual n => exact z_popK_m h (fun _ _ h => z_bif_m h (fun h => z_cal_m h (fun _ _ h => hK _ _ _ _ h)) id)
  | invokestatic n => exact z_bif_m h (fun h => z_pi_m h (fun _ _ h => z_pi_m h (fun _ _ h => z_pr_m h (fun _ _ h => z_pi_m h (fun _ _ h => z_pr_m h (fun _ _ h => z_bif_m h (fun h => ⟨h.1, hK _ _ _ _ h.2⟩) id)))))) (fun h => z_popK_m h (fun _ _ h => z_cal_m h (fun _ _ h => hK _ _ _ _ h)))
  | _ => exact h
theorem z_wp_step {call : Nat → List Value → z_M → Option Value → z_M → Prop} {sc : Option (Nat × (Nat → Int32))} {M pc : Nat} {L : z_L} {st : List Value} {σ : z_M} {R : Option Value → z_M → Prop}
    (h : z_step call sc M pc L st σ (z_wp call sc M R) R) : z_wp call sc M R pc L st σ := fun P hP => hP _ _ _ _ (z_mono (fun _ _ _ _ h => h P hP) h)
theorem z_vc_wp {call : Nat → List Value → z_M → Option Value → z_M → Prop} {sc : Option (Nat × (Nat → Int32))} {M : Nat} {stops : List Nat} {R : Option Value → z_M → Prop} : ∀ {n pc : Nat} {L : z_L} {st : List Value} {σ : z_M}, z_vc call sc M stops (z_wp call sc M R) R n pc L st σ → z_wp call sc M R pc L st σ
  | 0, _, _, _, _, h => h
  | n + 1, _, _, _, _, h => z_wp_step (z_mono (fun pc _ _ _ h => by
      cases hz : z_in stops pc with
      | true => rw [hz] at h; exact h
      | false => rw [hz] at h; exact z_vc_wp (n := n) h) h)
/-- n steps of a method, or as far as a place of the list -/
theorem z_go (n : Nat) (stops : List Nat) {d M pc : Nat} {L : z_L} {st : List Value} {σ : z_M} {R : Option Value → z_M → Prop} (h : z_vc (z_call d) none M stops (z_wp (z_call d) none M R) R n pc L st σ) : z_wp (z_call d) none M R pc L st σ := z_vc_wp h
theorem z_entK_m : ∀ {as : List Value} {n : Nat} {k k' : z_L → Prop}, z_entK as n k → (∀ l, k l → k' l) → z_entK as n k'
  | [], n, k, k', h, hk => by
    have hr : ∀ (n : Nat) (k k' : z_L → Prop), z_repK n k → (∀ l, k l → k' l) → z_repK n k' := by
      intro n
      induction n with
      | zero => intro k k' h hk; exact hk _ h
      | succ n ih => intro k k' h hk; exact ih _ _ h (fun _ h => hk _ h)
    cases n <;> exact hr _ _ _ h hk
  | .int x :: vs, n + 1, k, k', h, hk => z_entK_m (as := vs) (n := n) h (fun _ h => hk _ h)
  | .ref x :: vs, n + 1, k, k', h, hk => z_entK_m (as := vs) (n := n) h (fun _ h => hk _ h)
  | .long x :: vs, n + 2, k, k', h, hk => z_entK_m (as := vs) (n := n) h (fun _ h => hk _ h)
  | .int x :: vs, 0, k, k', h, hk => h.elim
  | .ref x :: vs, 0, k, k', h, hk => h.elim
  | .long x :: vs, 0, k, k', h, hk => h.elim
  | .long x :: vs, 1, k, k', h, hk => h.elim
  | .float x :: vs, n, k, k', h, hk => by cases n <;> exact h.elim
  | .double x :: vs, n, k, k', h, hk => by cases n <;> exact h.elim
  | .null :: vs, n, k, k', h, hk => by cases n <;> exact h.elim
  | .retAddr x :: vs, n, k, k', h, hk => by cases n <;> exact h.elim
