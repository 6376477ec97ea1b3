/-! what holds at every end holds at one: from a walk with a post to a call -/
section ZX
variable {α : Type} {P : α → Prop}
theorem z_pi_x {st : List Value} {k : α → Int32 → List Value → Prop} (h : z_pi st (fun x r => ∃ a, P a ∧ k a x r)) : ∃ a, P a ∧ z_pi st (k a) := by
  obtain ⟨x, r, rfl, a, h1, h2⟩ := z_pi_el h
  exact ⟨a, h1, h2⟩
theorem z_pl_x {st : List Value} {k : α → Int64 → List Value → Prop} (h : z_pl st (fun x r => ∃ a, P a ∧ k a x r)) : ∃ a, P a ∧ z_pl st (k a) := by
  obtain ⟨x, r, rfl, a, h1, h2⟩ := z_pl_el h
  exact ⟨a, h1, h2⟩
theorem z_pr_x {st : List Value} {k : α → Nat → List Value → Prop} (h : z_pr st (fun x r => ∃ a, P a ∧ k a x r)) : ∃ a, P a ∧ z_pr st (k a) := by
  obtain ⟨x, r, rfl, a, h1, h2⟩ := z_pr_el h
  exact ⟨a, h1, h2⟩
theorem z_p1_x {st : List Value} {k : α → Value → List Value → Prop} (h : z_p1 st (fun x r => ∃ a, P a ∧ k a x r)) : ∃ a, P a ∧ z_p1 st (k a) := by
  unfold z_p1 at h
  split at h
  · exact h
  · exact h
  · exact h.elim
theorem z_p0_x {st : List Value} {k : α → Prop} (h : z_p0 st (∃ a, P a ∧ k a)) : ∃ a, P a ∧ z_p0 st (k a) := by
  obtain ⟨rfl, a, h1, h2⟩ := z_p0_el h
  exact ⟨a, h1, h2⟩
theorem z_gi_x {v : Option Value} {k : α → Int32 → Prop} (h : z_gi v (fun x => ∃ a, P a ∧ k a x)) : ∃ a, P a ∧ z_gi v (k a) := by
  obtain ⟨x, rfl, a, h1, h2⟩ := z_gi_el h
  exact ⟨a, h1, h2⟩
theorem z_gl_x {v : Option Value} {k : α → Int64 → Prop} (h : z_gl v (fun x => ∃ a, P a ∧ k a x)) : ∃ a, P a ∧ z_gl v (k a) := by
  obtain ⟨x, rfl, a, h1, h2⟩ := z_gl_el h
  exact ⟨a, h1, h2⟩
theorem z_gr_x {v : Option Value} {k : α → Nat → Prop} (h : z_gr v (fun x => ∃ a, P a ∧ k a x)) : ∃ a, P a ∧ z_gr v (k a) := by
  obtain ⟨x, rfl, a, h1, h2⟩ := z_gr_el h
  exact ⟨a, h1, h2⟩
theorem z_setK_x : ∀ {L : z_L} {n : Nat} {v : Option Value} {k : α → z_L → Prop}, z_setK L n v (fun l => ∃ a, P a ∧ k a l) → ∃ a, P a ∧ z_setK L n v (k a)
  | [], _, _, _, h => h.elim
  | _ :: _, 0, _, _, h => h
  | b :: l, n + 1, _, k, h => z_setK_x (L := l) (n := n) (k := fun a l => k a (b :: l)) h
theorem z_popK_x : ∀ {n : Nat} {st acc : List Value} {k : α → List Value → List Value → Prop}, z_popK n st acc (fun x r => ∃ a, P a ∧ k a x r) → ∃ a, P a ∧ z_popK n st acc (k a)
  | 0, _, _, _, h => h
  | _ + 1, [], _, _, h => h.elim
  | n + 1, _ :: st, _, _, h => z_popK_x (n := n) (st := st) h
theorem z_bif_x {b : Bool} {A C : Prop} {A' C' : α → Prop} (h : bif b then A else C) (hA : A → ∃ a, P a ∧ A' a) (hC : C → ∃ a, P a ∧ C' a) : ∃ a, P a ∧ (bif b then A' a else C' a) := by
  cases b
  · exact hC h
  · exact hA h
theorem z_cal_x {call : Nat → List Value → z_M → Option Value → z_M → Prop} {M : Nat} {as rest : List Value} {σ : z_M} {k : α → List Value → z_M → Prop} (h : z_cal call M as rest σ (fun st σ => ∃ a, P a ∧ k a st σ)) : ∃ a, P a ∧ z_cal call M as rest σ (k a) :=
  z_bif_x h (fun h => z_bif_x h (fun ⟨s, c, a, h1, h2⟩ => ⟨a, h1, s, c, h2⟩) (fun h => z_bif_x h (fun ⟨r, s, c, a, h1, h2⟩ => ⟨a, h1, r, s, c, h2⟩) (fun ⟨r, s, c, a, h1, h2⟩ => ⟨a, h1, r, s, c, h2⟩))) (fun h => h.elim)
theorem z_br_x {c : Prop} {A B : α → Prop} (h : (c → ∃ a, P a ∧ A a) ∧ (¬ c → ∃ a, P a ∧ B a)) : ∃ a, P a ∧ ((c → A a) ∧ (¬ c → B a)) := by
  by_cases q : c
  · obtain ⟨a, h1, h2⟩ := h.1 q
    exact ⟨a, h1, fun _ => h2, fun z => absurd q z⟩
  · obtain ⟨a, h1, h2⟩ := h.2 q
    exact ⟨a, h1, fun z => absurd z q, fun _ => h2⟩
theorem z_br_y {c : Prop} {A B : α → Prop} (h : (¬ c → ∃ a, P a ∧ A a) ∧ (c → ∃ a, P a ∧ B a)) : ∃ a, P a ∧ ((¬ c → A a) ∧ (c → B a)) := by
  obtain ⟨a, h1, h2, h3⟩ := z_br_x (c := c) (A := B) (B := A) ⟨h.2, h.1⟩
  exact ⟨a, h1, h3, h2⟩
theorem z_an_x {c : Prop} {A : α → Prop} (h : c ∧ ∃ a, P a ∧ A a) : ∃ a, P a ∧ (c ∧ A a) := by
  obtain ⟨q, a, h1, h2⟩ := h
  exact ⟨a, h1, q, h2⟩
theorem z_o4_x {c1 c2 c3 c4 : Prop} {A1 A2 A3 A4 : α → Prop} (h : (c1 ∧ ∃ a, P a ∧ A1 a) ∨ (c2 ∧ ∃ a, P a ∧ A2 a) ∨ (c3 ∧ ∃ a, P a ∧ A3 a) ∨ (c4 ∧ ∃ a, P a ∧ A4 a)) : ∃ a, P a ∧ ((c1 ∧ A1 a) ∨ (c2 ∧ A2 a) ∨ (c3 ∧ A3 a) ∨ (c4 ∧ A4 a)) := by
  rcases h with ⟨q, a, h1, h2⟩ | ⟨q, a, h1, h2⟩ | ⟨q, a, h1, h2⟩ | ⟨q, a, h1, h2⟩
  · exact ⟨a, h1, Or.inl ⟨q, h2⟩⟩
  · exact ⟨a, h1, Or.inr (Or.inl ⟨q, h2⟩)⟩
  · exact ⟨a, h1, Or.inr (Or.inr (Or.inl ⟨q, h2⟩))⟩
  · exact ⟨a, h1, Or.inr (Or.inr (Or.inr ⟨q, h2⟩))⟩
theorem z_sw_none {x : Int32} {k : Nat → Prop} {d : Nat} : ∀ {ts : List Nat} {i : Nat}, (∀ j, j < ts.length → x ≠ Int32.ofNat (i + j)) → ¬ (x < 0 ∨ Int32.ofNat (i + ts.length) ≤ x) → z_swK x k d ts i
  | [], i, _, h => fun q => absurd q h
  | t :: ts, i, h1, h2 => ⟨fun q => absurd q (h1 0 (by simp)), z_sw_none (ts := ts) (i := i + 1) (fun j hj => by
      have := h1 (j + 1) (by simpa using hj)
      rwa [show i + (j + 1) = i + 1 + j by omega] at this) (by
      rwa [show i + (t :: ts).length = i + 1 + ts.length by simp; omega] at h2)⟩
theorem z_swK_x {x : Int32} {k : α → Nat → Prop} {d : Nat} : ∀ {ts : List Nat} {i : Nat}, i + ts.length ≤ 1000 → (x < 0 ∨ Int32.ofNat i ≤ x) → z_swK x (fun t => ∃ a, P a ∧ k a t) d ts i → ∃ a, P a ∧ z_swK x (k a) d ts i
  | [], i, _, hx, h => by
    obtain ⟨a, h1, h2⟩ := h hx
    exact ⟨a, h1, fun _ => h2⟩
  | t :: ts, i, hl, hx, h => by
    by_cases q : x = Int32.ofNat i
    · obtain ⟨a, h1, h2⟩ := h.1 q
      refine ⟨a, h1, fun _ => h2, z_sw_none (fun j hj e => ?_) ?_⟩
      · rw [q] at e
        have e : nI i = nI (i + 1 + j) := e
        rw [nI_eq (by simp at hl; omega) (by simp at hl; omega)] at e
        omega
      · rw [q]
        have h1 : ¬ nI i < 0 := nI_pos (by simp at hl; omega)
        have h2 : ¬ nI (i + 1 + ts.length) ≤ nI i := by
          rw [nI_leI (by simp at hl; omega) (by simp at hl; omega)]
          omega
        exact fun z => z.elim h1 h2
    · obtain ⟨a, h1, h2⟩ := z_swK_x (ts := ts) (i := i + 1) (by simp at hl; omega) (by
        rcases hx with hx | hx
        · exact Or.inl hx
        · right
          have hx : nI i ≤ x := hx
          show nI (i + 1) ≤ x
          have hq : x ≠ nI i := q
          rw [Int32.le_iff_toInt_le, nI_toInt (by simp at hl; omega)] at *
          have : x.toInt ≠ (i : Int) := fun z => hq (Int32.toInt_inj.mp (by rw [nI_toInt (by simp at hl; omega)]; exact z))
          omega) h.2
      exact ⟨a, h1, fun z => absurd z q, h2⟩
end ZX
theorem z_sw_dflt {x : Int32} {k : Nat → Prop} {d : Nat} : True := trivial
set_option maxHeartbeats 4000000 in
theorem z_ex {α : Type} {P : α → Prop} {call : Nat → List Value → z_M → Option Value → z_M → Prop} {sc : Option (Nat × (Nat → Int32))} {M pc : Nat} {L : z_L} {st : List Value} {σ : z_M} {S : α → Nat → z_L → List Value → z_M → Prop} {Qq : α → Option Value → z_M → Prop}
    (h : z_step call sc M pc L st σ (fun pc L st σ => ∃ a, P a ∧ S a pc L st σ) (fun r σ => ∃ a, P a ∧ Qq a r σ)) : ∃ a, P a ∧ z_step call sc M pc L st σ (S a) (Qq a) := by
  unfold z_step at h ⊢
  generalize z_tb M pc = e at h ⊢
  obtain ⟨i, nx, r1, r2, cv⟩ := e
  have s1 : ∀ {L : z_L} {n : Nat} {v : Option Value} {st : List Value}, (bif z_nl L n then z_setK L n v (fun L => ∃ a, P a ∧ S a nx L st σ) else False) → ∃ a, P a ∧ (bif z_nl L n then z_setK L n v (fun L => S a nx L st σ) else False) := fun h => z_bif_x h (fun h => z_setK_x (k := fun a L => S a nx L _ σ) h) (fun h => h.elim)
  cases i with
  | iconst n => exact h
  | bipush n => exact h
  | sipush n => exact h
  | ldc n => exact h
  | ldc_w n => exact h
  | ldc2_w n => exact h
  | lconst n => exact h
  | goto n => exact h
  | iload j => exact z_gi_x h
  | iload_n j => exact z_gi_x h
  | lload j => exact z_gl_x h
  | lload_n j => exact z_gl_x h
  | aload j => exact z_gr_x h
  | aload_n j => exact z_gr_x h
  | istore j => exact z_pi_x (z_pi_m h (fun _ _ h => s1 h))
  | istore_n j => exact z_pi_x (z_pi_m h (fun _ _ h => s1 h))
  | astore j => exact z_pr_x (z_pr_m h (fun _ _ h => s1 h))
  | astore_n j => exact z_pr_x (z_pr_m h (fun _ _ h => s1 h))
  | lstore j => exact z_pl_x (z_pl_m h (fun _ _ h => z_bif_x h (fun h => z_setK_x (z_setK_m h (fun _ h => z_setK_x h))) (fun h => h.elim)))
  | lstore_n j => exact z_pl_x (z_pl_m h (fun _ _ h => z_bif_x h (fun h => z_setK_x (z_setK_m h (fun _ h => z_setK_x h))) (fun h => h.elim)))
  | iinc j n => exact z_gi_x (z_gi_m h (fun _ h => s1 h))
  | iadd => exact z_pi_x (z_pi_m h (fun _ _ h => z_pi_x h))
  | isub => exact z_pi_x (z_pi_m h (fun _ _ h => z_pi_x h))
  | imul => exact z_pi_x (z_pi_m h (fun _ _ h => z_pi_x h))
  | iand => exact z_pi_x (z_pi_m h (fun _ _ h => z_pi_x h))
  | ior => exact z_pi_x (z_pi_m h (fun _ _ h => z_pi_x h))
  | ixor => exact z_pi_x (z_pi_m h (fun _ _ h => z_pi_x h))
  | ishl => exact z_pi_x (z_pi_m h (fun _ _ h => z_pi_x h))
  | ishr => exact z_pi_x (z_pi_m h (fun _ _ h => z_pi_x h))
  | iushr => exact z_pi_x (z_pi_m h (fun _ _ h => z_pi_x h))
  | idiv => exact z_pi_x (z_pi_m h (fun _ _ h => z_pi_x (z_pi_m h (fun _ _ h => z_an_x h))))
  | irem => exact z_pi_x (z_pi_m h (fun _ _ h => z_pi_x (z_pi_m h (fun _ _ h => z_an_x h))))
  | ineg => exact z_pi_x h
  | ladd => exact z_pl_x (z_pl_m h (fun _ _ h => z_pl_x h))
  | lmul => exact z_pl_x (z_pl_m h (fun _ _ h => z_pl_x h))
  | lcmp => exact z_pl_x (z_pl_m h (fun _ _ h => z_pl_x h))
  | lneg => exact z_pl_x h
  | lshl => exact z_pi_x (z_pi_m h (fun _ _ h => z_pl_x h))
  | lushr => exact z_pi_x (z_pi_m h (fun _ _ h => z_pl_x h))
  | i2l => exact z_pi_x h
  | i2b => exact z_pi_x h
  | i2s => exact z_pi_x h
  | l2i => exact z_pl_x h
  | dup => exact z_p1_x h
  | dup2 => exact z_p1_x (z_p1_m h (fun _ _ h => z_p1_x h))
  | ifCond cn n =>
    cases cn with
    | ne => exact z_pi_x (z_pi_m h (fun _ _ h => z_br_y h))
    | eq => exact z_pi_x (z_pi_m h (fun _ _ h => z_br_x h))
    | lt => exact z_pi_x (z_pi_m h (fun _ _ h => z_br_x h))
    | ge => exact z_pi_x (z_pi_m h (fun _ _ h => z_br_x h))
    | gt => exact z_pi_x (z_pi_m h (fun _ _ h => z_br_x h))
    | le => exact z_pi_x (z_pi_m h (fun _ _ h => z_br_x h))
  | if_icmp cn n =>
    cases cn with
    | ne => exact z_pi_x (z_pi_m h (fun _ _ h => z_pi_x (z_pi_m h (fun _ _ h => z_br_y h))))
    | eq => exact z_pi_x (z_pi_m h (fun _ _ h => z_pi_x (z_pi_m h (fun _ _ h => z_br_x h))))
    | lt => exact z_pi_x (z_pi_m h (fun _ _ h => z_pi_x (z_pi_m h (fun _ _ h => z_br_x h))))
    | ge => exact z_pi_x (z_pi_m h (fun _ _ h => z_pi_x (z_pi_m h (fun _ _ h => z_br_x h))))
    | gt => exact z_pi_x (z_pi_m h (fun _ _ h => z_pi_x (z_pi_m h (fun _ _ h => z_br_x h))))
    | le => exact z_pi_x (z_pi_m h (fun _ _ h => z_pi_x (z_pi_m h (fun _ _ h => z_br_x h))))
  | tableswitch a b c d => exact z_pi_x (z_pi_m h (fun x _ h => z_swK_x (k := fun a t => S a t L _ σ) (by have := z_sw_len r1; omega) ((Int32.lt_or_le x 0).imp id id) h))
  | getfield n => exact z_pr_x (z_pr_m h (fun a _ h => z_bif_x h (fun h => by
      cases hz : z_rf a r2 with
      | none => rw [hz] at h; exact h
      | some t => rw [hz] at h; exact h) (fun h => h.elim)))
  | putfield n => exact z_pi_x (z_pi_m h (fun _ _ h => z_pr_x (z_pr_m h (fun _ _ h => z_bif_x h (fun h => z_bif_x h id (fun h => z_bif_x h (fun h => z_an_x h) (fun h => h.elim))) (fun h => h.elim)))))
  | iaload => exact z_pi_x (z_pi_m h (fun _ _ h => z_pr_x (z_pr_m h (fun _ _ h => z_bif_x h (fun h => by
      cases sc with
      | none => exact h.elim
      | some q => exact z_an_x h) (fun h => z_bif_x h (fun h => z_an_x h) (fun h => h.elim))))))
  | iastore => exact z_pi_x (z_pi_m h (fun _ _ h => z_pi_x (z_pi_m h (fun _ _ h => z_pr_x (z_pr_m h (fun _ _ h => z_bif_x h (fun h => z_an_x h) (fun h => h.elim)))))))
  | laload => exact z_pi_x (z_pi_m h (fun _ _ h => z_pr_x (z_pr_m h (fun _ _ h => z_bif_x h (fun h => z_an_x h) (fun h => h.elim)))))
  | lastore => exact z_pl_x (z_pl_m h (fun _ _ h => z_pi_x (z_pi_m h (fun _ _ h => z_pr_x (z_pr_m h (fun _ _ h => z_bif_x h (fun h => z_an_x h) (fun h => h.elim)))))))
  | aaload => exact z_pi_x (z_pi_m h (fun _ _ h => z_pr_x (z_pr_m h (fun _ _ h => z_bif_x h (fun h => z_o4_x h) (fun h => z_bif_x h (fun h => z_o4_x h) (fun h => h.elim))))))
  | arraylength => exact z_pr_x (z_pr_m h (fun _ _ h => z_bif_x h (fun h => by
      cases sc with
      | none => exact h.elim
      | some q => exact h) (fun h => z_bif_x h id (fun h => h.elim))))
  | invokevirtual n => exact z_popK_x (z_popK_m h (fun _ _ h => z_bif_x h (fun h => z_cal_x h) (fun h => h.elim)))
  | invokestatic n => exact z_bif_x h (fun h => z_pi_x (z_pi_m h (fun _ _ h => z_pi_x (z_pi_m h (fun _ _ h => z_pr_x (z_pr_m h (fun _ _ h => z_pi_x (z_pi_m h (fun _ _ h => z_pr_x (z_pr_m h (fun _ _ h => z_bif_x h (fun h => z_an_x h) (fun h => h.elim))))))))))) ) (fun h => z_popK_x (z_popK_m h (fun _ _ h => z_cal_x h)))
  | ireturn => exact z_pi_x (z_pi_m h (fun _ _ h => z_p0_x (z_p0_m h (fun h => z_bif_x h id (fun h => z_bif_x h (fun h => z_an_x h) (fun h => h.elim))))))
  | lreturn => exact z_pl_x (z_pl_m h (fun _ _ h => z_p0_x (z_p0_m h (fun h => z_bif_x h id (fun h => h.elim)))))
  | return_ => exact z_p0_x (z_p0_m h (fun h => z_bif_x h id (fun h => h.elim)))
  | _ => exact h.elim
theorem z_monoR {call : Nat → List Value → z_M → Option Value → z_M → Prop} {sc : Option (Nat × (Nat → Int32))} {M pc : Nat} {L : z_L} {st : List Value} {σ : z_M} {K : Nat → z_L → List Value → z_M → Prop} {R R' : Option Value → z_M → Prop}
    (hR : ∀ r σ, R r σ → R' r σ) (h : z_step call sc M pc L st σ K R) : z_step call sc M pc L st σ K R' := by
  unfold z_step at h ⊢
  generalize z_tb M pc = e at h ⊢
  obtain ⟨i, nx, r1, r2, cv⟩ := e
  cases i with
  | ireturn => exact z_pi_m h (fun _ _ h => z_p0_m h (fun h => z_bif_m h (hR _ _) (fun h => z_bif_m h (fun h => ⟨h.1, hR _ _ h.2⟩) id)))
  | lreturn => exact z_pl_m h (fun _ _ h => z_p0_m h (fun h => z_bif_m h (hR _ _) id))
  | return_ => exact z_p0_m h (fun h => z_bif_m h (hR _ _) id)
  | _ => exact h
theorem z_ent_1 : ∀ {as : List Value} {n : Nat} {k : z_L → Prop}, z_entK as n k → ∃ L, k L ∧ ∀ k' : z_L → Prop, k' L → z_entK as n k'
  | [], n, k, h => by
    have hr : ∀ (n : Nat) (k : z_L → Prop), z_repK n k → ∃ L, k L ∧ ∀ k' : z_L → Prop, k' L → z_repK n k' := by
      intro n
      induction n with
      | zero => intro k h; exact ⟨_, h, fun _ h => h⟩
      | succ n ih =>
        intro k h
        obtain ⟨L, h1, h2⟩ := ih _ h
        exact ⟨_, h1, fun k' hk => h2 (fun l => k' (none :: l)) hk⟩
    have h' : z_repK n k := by cases n <;> exact h
    obtain ⟨L, h1, h2⟩ := hr n k h'
    exact ⟨L, h1, fun k' hk => by have := h2 k' hk; cases n <;> exact this⟩
  | .int x :: vs, n + 1, k, h => by
    obtain ⟨L, h1, h2⟩ := z_ent_1 (as := vs) (n := n) h
    exact ⟨_, h1, fun k' hk => h2 (fun l => k' (some (.int x) :: l)) hk⟩
  | .ref x :: vs, n + 1, k, h => by
    obtain ⟨L, h1, h2⟩ := z_ent_1 (as := vs) (n := n) h
    exact ⟨_, h1, fun k' hk => h2 (fun l => k' (some (.ref x) :: l)) hk⟩
  | .long x :: vs, n + 2, k, h => by
    obtain ⟨L, h1, h2⟩ := z_ent_1 (as := vs) (n := n) h
    exact ⟨_, h1, fun k' hk => h2 (fun l => k' (some (.long x) :: none :: l)) hk⟩
  | .int x :: vs, 0, k, h => h.elim
  | .ref x :: vs, 0, k, h => h.elim
  | .long x :: vs, 0, k, h => h.elim
  | .long x :: vs, 1, k, h => h.elim
  | .float x :: vs, n, k, h => by cases n <;> exact h.elim
  | .double x :: vs, n, k, h => by cases n <;> exact h.elim
  | .null :: vs, n, k, h => by cases n <;> exact h.elim
  | .retAddr x :: vs, n, k, h => by cases n <;> exact h.elim
theorem z_wp_ex {call : Nat → List Value → z_M → Option Value → z_M → Prop} {sc : Option (Nat × (Nat → Int32))} {M pc : Nat} {L : z_L} {st : List Value} {σ : z_M} {R : Option Value → z_M → Prop} (h : z_wp call sc M R pc L st σ) : ∃ x : Option Value × z_M, R x.1 x.2 ∧ z_wp call sc M (fun r s => r = x.1 ∧ s = x.2) pc L st σ := by
  refine h (fun pc L st σ => ∃ x : Option Value × z_M, R x.1 x.2 ∧ z_wp call sc M (fun r s => r = x.1 ∧ s = x.2) pc L st σ) (fun pc L st σ h => ?_)
  have h2 : z_step call sc M pc L st σ (fun pc L st σ => ∃ x : Option Value × z_M, R x.1 x.2 ∧ z_wp call sc M (fun r s => r = x.1 ∧ s = x.2) pc L st σ) (fun r s => ∃ x : Option Value × z_M, R x.1 x.2 ∧ (r = x.1 ∧ s = x.2)) := z_monoR (fun r s hr => ⟨(r, s), hr, rfl, rfl⟩) h
  obtain ⟨x, h3, h4⟩ := z_ex h2
  exact ⟨x, h3, z_wp_step h4⟩
/-- a method's walk with a post -/
def z_met (d M : Nat) (as : List Value) (σ : z_M) (Post : Option Value → z_M → Prop) : Prop := Nat.blt M 189 = true ∧ z_entK as (z_mx M) (fun L => z_wp (z_call d) none M Post 0 L [] σ)
theorem z_metx {d M : Nat} {as : List Value} {σ : z_M} {Post : Option Value → z_M → Prop} (h : z_met d M as σ Post) : ∃ r σ', z_call (d + 1) M as σ r σ' ∧ Post r σ' := by
  obtain ⟨hM, h⟩ := h
  have h2 : ∃ x : Option Value × z_M, Post x.1 x.2 ∧ z_entK as (z_mx M) (fun L => z_wp (z_call d) none M (fun r s => r = x.1 ∧ s = x.2) 0 L [] σ) := by
    have key : ∀ {as : List Value} {n : Nat} {P : Option Value × z_M → Prop} {k : Option Value × z_M → z_L → Prop}, z_entK as n (fun L => ∃ x, P x ∧ k x L) → ∃ x, P x ∧ z_entK as n (k x) := by
      intro as n P k h
      obtain ⟨L, ⟨x, h1, h2⟩, h3⟩ := z_ent_1 h
      exact ⟨x, h1, h3 _ h2⟩
    exact key (z_entK_m h (fun L hL => z_wp_ex hL))
  obtain ⟨x, h3, h4⟩ := h2
  exact ⟨x.1, x.2, ⟨hM, h4⟩, h3⟩
theorem z_metV {d M : Nat} {as : List Value} {σ : z_M} {Post : z_M → Prop} (h : z_met d M as σ (fun r s => r = none ∧ Post s)) : ∃ σ', z_call (d + 1) M as σ none σ' ∧ Post σ' := by
  obtain ⟨r, σ', h1, rfl, h2⟩ := z_metx h
  exact ⟨σ', h1, h2⟩
theorem z_metI {d M : Nat} {as : List Value} {σ : z_M} {Post : Int32 → z_M → Prop} (h : z_met d M as σ (fun r s => ∃ x, r = some (.int x) ∧ Post x s)) : ∃ x σ', z_call (d + 1) M as σ (some (.int x)) σ' ∧ Post x σ' := by
  obtain ⟨r, σ', h1, x, rfl, h2⟩ := z_metx h
  exact ⟨x, σ', h1, h2⟩
theorem z_metL {d M : Nat} {as : List Value} {σ : z_M} {Post : Int64 → z_M → Prop} (h : z_met d M as σ (fun r s => ∃ x, r = some (.long x) ∧ Post x s)) : ∃ x σ', z_call (d + 1) M as σ (some (.long x)) σ' ∧ Post x σ' := by
  obtain ⟨r, σ', h1, x, rfl, h2⟩ := z_metx h
  exact ⟨x, σ', h1, h2⟩
