/-! one road more, and one road melted: labels and merges; bridges -/
def jn (P : Nat) (f g : Nat → Nat) (a b : Nat) : Prop := ∀ p q, p < P → q < P → (g p = g q ↔ (f p = f q ∨ (f p = f a ∧ f b = f q) ∨ (f p = f b ∧ f a = f q)))
def mrg (f : Nat → Nat) (u v : Nat) : Nat → Nat := fun p => if f p = f u then f v else f p
theorem jn_step {P : Nat} {f g : Nat → Nat} {a b u v : Nat} (ha : a < P) (hb : b < P) (hu : u < P) (hv : v < P) (J : jn P f g a b) : jn P (mrg f u v) (mrg g u v) a b := by
  intro p q hp hq
  have j1 := J p q hp hq
  have j2 := J p u hp hu
  have j3 := J p v hp hv
  have j4 := J q u hq hu
  have j5 := J q v hq hv
  have j6 := J u v hu hv
  have j7 := J v q hv hq
  clear J
  unfold mrg
  generalize f p = fp at *
  generalize f q = fq at *
  generalize f u = fu at *
  generalize f v = fv at *
  generalize f a = fa at *
  generalize f b = fb at *
  generalize g p = gp at *
  generalize g q = gq at *
  generalize g u = gu at *
  generalize g v = gv at *
  grind
theorem jn_cnt {P : Nat} {f g : Nat → Nat} {a b u v : Nat} (hu : u < P) (hv : v < P) (J : jn P f g a b) : (if f u ≠ f v then 1 else 0) + (if mrg f u v a ≠ mrg f u v b then 1 else 0) = (if g u ≠ g v then 1 else 0) + (if f a ≠ f b then 1 else 0) := by
  have j6 := J u v hu hv
  clear J
  unfold mrg
  generalize f u = fu at *
  generalize f v = fv at *
  generalize f a = fa at *
  generalize f b = fb at *
  generalize g u = gu at *
  generalize g v = gv at *
  grind
theorem lb_mrg {s e : Nat → Nat} {S n : Nat} (h : S.testBit n = true) : lb s e S (n + 1) = mrg (lb s e S n) (s n) (e n) := by
  funext p
  rw [lb_s, mrg]
  simp only [h, true_and]
theorem mg_on {s e : Nat → Nat} {S n : Nat} (h : S.testBit n = true) : mg s e S (n + 1) = mg s e S n + (if lb s e S n (s n) ≠ lb s e S n (e n) then 1 else 0) := by
  rw [mg]
  simp only [h, true_and]
theorem ins {P : Nat} {s e : Nat → Nat} {S S' r : Nat} (h0 : S.testBit r = false) (h1 : S'.testBit r = true) (hk : ∀ k, k ≠ r → S'.testBit k = S.testBit k) : ∀ {n : Nat}, (∀ i, i < r + 1 + n → s i < P ∧ e i < P) → jn P (lb s e S (r + 1 + n)) (lb s e S' (r + 1 + n)) (s r) (e r) ∧ mg s e S (r + 1 + n) + (if lb s e S (r + 1 + n) (s r) ≠ lb s e S (r + 1 + n) (e r) then 1 else 0) = mg s e S' (r + 1 + n)
  | 0, h => by
    obtain ⟨l1, l2, -⟩ := lmb (s := s) (e := e) (S := S) (S' := S') (n := r) (fun i hi => (hk i (by omega)).symm)
    obtain ⟨o1, o2, -⟩ := lb_off (s := s) (e := e) h0
    have l1 : lb s e S r = lb s e S' r := funext l1
    have o1 : lb s e S (r + 1) = lb s e S r := funext o1
    show jn P (lb s e S (r + 1)) (lb s e S' (r + 1)) (s r) (e r) ∧ mg s e S (r + 1) + (if lb s e S (r + 1) (s r) ≠ lb s e S (r + 1) (e r) then 1 else 0) = mg s e S' (r + 1)
    rw [o1, o2, lb_mrg h1, mg_on h1, ← l1, l2]
    refine ⟨fun p q hp hq => ?_, rfl⟩
    unfold mrg
    grind
  | n + 1, h => by
    obtain ⟨J, hm⟩ := ins h0 h1 hk (n := n) (fun i hi => h i (by omega))
    obtain ⟨ha, hb⟩ := h r (by omega)
    obtain ⟨hu, hv⟩ := h (r + 1 + n) (by omega)
    have hkn := hk (r + 1 + n) (by omega)
    show jn P (lb s e S (r + 1 + n + 1)) (lb s e S' (r + 1 + n + 1)) (s r) (e r) ∧ mg s e S (r + 1 + n + 1) + (if lb s e S (r + 1 + n + 1) (s r) ≠ lb s e S (r + 1 + n + 1) (e r) then 1 else 0) = mg s e S' (r + 1 + n + 1)
    by_cases c : S.testBit (r + 1 + n) = true
    · have c' : S'.testBit (r + 1 + n) = true := by rw [hkn]; exact c
      rw [lb_mrg c, lb_mrg c', mg_on c, mg_on c']
      refine ⟨jn_step ha hb hu hv J, ?_⟩
      have := jn_cnt hu hv J
      omega
    · have c : S.testBit (r + 1 + n) = false := by simpa using c
      have c' : S'.testBit (r + 1 + n) = false := by rw [hkn]; exact c
      obtain ⟨o1, o2, -⟩ := lb_off (s := s) (e := e) c
      obtain ⟨o3, o4, -⟩ := lb_off (s := s) (e := e) c'
      rw [show lb s e S (r + 1 + n + 1) = lb s e S (r + 1 + n) from funext o1, show lb s e S' (r + 1 + n + 1) = lb s e S' (r + 1 + n) from funext o3, o2, o4]
      exact ⟨J, hm⟩
theorem lb_join {s e : Nat → Nat} {S : Nat} : ∀ {n : Nat} {i : Nat}, i < n → S.testBit i = true → lb s e S n (s i) = lb s e S n (e i)
  | 0, i, h, _ => absurd h (Nat.not_lt_zero i)
  | n + 1, i, h, hi => by
    by_cases c : S.testBit n = true
    · rw [lb_mrg c]
      unfold mrg
      by_cases q : i = n
      · subst q
        simp
      · rw [lb_join (n := n) (i := i) (by omega) hi]
    · have c : S.testBit n = false := by simpa using c
      obtain ⟨o1, -⟩ := lb_off (s := s) (e := e) c
      rw [o1, o1]
      exact lb_join (by
        refine Classical.byContradiction fun z => ?_
        rw [show i = n by omega, c] at hi
        cases hi) hi
/-- posts with one label: a set of roads with odd ends at just these two -/
theorem lb_path {s e : Nat → Nat} {S R : Nat} : ∀ {n : Nat}, n ≤ R → ∀ {p q : Nat}, lb s e S n p = lb s e S n q → ∃ T, (∀ k, T.testBit k = true → S.testBit k = true ∧ k < n) ∧ ∀ z, od s e T R z = Bool.xor (decide (p = z)) (decide (q = z))
  | 0, _, p, q, h => by
    have h : p = q := h
    subst h
    refine ⟨0, fun k hk => ?_, fun z => ?_⟩
    · rw [Nat.zero_testBit] at hk
      cases hk
    · rw [od_0, Bool.xor_self]
  | n + 1, hn, p, q, h => by
    have ih := fun {p q : Nat} (h : lb s e S n p = lb s e S n q) => lb_path (s := s) (e := e) (S := S) (R := R) (n := n) (by omega) h
    have wk : ∀ {p q : Nat}, lb s e S n p = lb s e S n q → ∃ T, (∀ k, T.testBit k = true → S.testBit k = true ∧ k < n + 1) ∧ ∀ z, od s e T R z = Bool.xor (decide (p = z)) (decide (q = z)) := by
      intro p q h
      obtain ⟨T, h1, h2⟩ := ih h
      exact ⟨T, fun k hk => ⟨(h1 k hk).1, by have := (h1 k hk).2; omega⟩, h2⟩
    by_cases c : S.testBit n = true
    · have two : ∀ {p q : Nat}, lb s e S n p = lb s e S n (s n) → lb s e S n q = lb s e S n (e n) → ∃ T, (∀ k, T.testBit k = true → S.testBit k = true ∧ k < n + 1) ∧ ∀ z, od s e T R z = Bool.xor (decide (p = z)) (decide (q = z)) := by
        intro p q h1 h2
        obtain ⟨T1, a1, a2⟩ := ih h1
        obtain ⟨T2, b1, b2⟩ := ih h2
        refine ⟨T1 ^^^ T2 ^^^ 2 ^ n, fun k hk => ?_, fun z => ?_⟩
        · by_cases k1 : T1.testBit k = true
          · exact ⟨(a1 k k1).1, by have := (a1 k k1).2; omega⟩
          · by_cases k2 : T2.testBit k = true
            · exact ⟨(b1 k k2).1, by have := (b1 k k2).2; omega⟩
            · rw [Nat.testBit_xor, Nat.testBit_xor, Nat.testBit_two_pow] at hk
              have k1 : T1.testBit k = false := by simpa using k1
              have k2 : T2.testBit k = false := by simpa using k2
              rw [k1, k2] at hk
              have hk : n = k := by simpa using hk
              subst hk
              exact ⟨c, by omega⟩
        · rw [od_xor, od_xor, a2, b2, od_one, decide_eq_true (show n < R by omega)]
          cases decide (p = z) <;> cases decide (q = z) <;> cases decide (s n = z) <;> cases decide (e n = z) <;> rfl
      rw [lb_mrg c] at h
      unfold mrg at h
      by_cases h1 : lb s e S n p = lb s e S n (s n) <;> by_cases h2 : lb s e S n q = lb s e S n (s n)
      · exact wk (h1.trans h2.symm)
      · rw [if_pos h1, if_neg h2] at h
        exact two h1 h.symm
      · rw [if_neg h1, if_pos h2] at h
        obtain ⟨T, t1, t2⟩ := two h2 h
        exact ⟨T, t1, fun z => by rw [t2, Bool.xor_comm]⟩
      · rw [if_neg h1, if_neg h2] at h
        exact wk h
    · have c : S.testBit n = false := by simpa using c
      obtain ⟨o1, -⟩ := lb_off (s := s) (e := e) c
      rw [o1, o1] at h
      exact wk h
theorem clr_bit (a b k : Nat) : (clr a b).testBit k = (a.testBit k && !b.testBit k) := by
  rw [clr, Nat.testBit_xor, Nat.testBit_and]
  cases a.testBit k <;> cases b.testBit k <;> rfl
theorem gw_off {R : Nat} {s e : Nat → Nat} {k : Nat} : ∀ n, ((gw R s e n).2.2.2.2.testBit k = true ↔ k < R ∧ ∀ j, j < (gw R s e n).2.2.1 → ((gw R s e n).2.2.2.1 j).testBit k = false)
  | 0 => by
    show (2 ^ R - 1).testBit k = true ↔ k < R ∧ ∀ j, j < 0 → _
    rw [Nat.testBit_two_pow_sub_one]
    simp
  | n + 1 => by
    have ih := gw_off (R := R) (s := s) (e := e) (k := k) n
    rw [gw, gstep]
    by_cases c : (gw R s e n).1 (s n) = (gw R s e n).1 (e n)
    · rw [if_pos c]
      simp only [clr_bit, Bool.and_eq_true, Bool.not_eq_true', ih]
      constructor
      · rintro ⟨⟨h1, h2⟩, h3⟩
        refine ⟨h1, fun j hj => ?_⟩
        split
        · exact h3
        · exact h2 j (by omega)
      · rintro ⟨h1, h2⟩
        refine ⟨⟨h1, fun j hj => ?_⟩, ?_⟩
        · have := h2 j (by omega)
          rw [if_neg (by omega)] at this
          exact this
        · have := h2 (gw R s e n).2.2.1 (by omega)
          rw [if_pos rfl] at this
          exact this
    · rw [if_neg c]
      exact ih
theorem off_bit {N : zN} (hv : NV N) (k : Nat) : (offN N).testBit k = true ↔ k < gR N ∧ ∀ T, T < 2 ^ gR N → isE N T → T.testBit k = false := by
  obtain ⟨h0, h1, h2, h3⟩ := ev_ok hv
  have key := gw_off (R := gR N) (s := gs N) (e := ge N) (k := k) (gR N)
  refine key.trans ⟨fun ⟨a, b⟩ => ⟨a, fun T hT he => ?_⟩, fun ⟨a, b⟩ => ⟨a, fun j hj => b _ (h0 j hj).1 (h0 j hj).2⟩⟩
  obtain ⟨i, -, rfl⟩ := h3 T hT he
  exact evs_bit (t := fun x => x) (fun j hj _ => b j hj)
theorem off_lt {N : zN} (hv : NV N) : offN N < 2 ^ gR N := lt_pow (fun k hk => by
  have := off_bit hv k
  cases c : (offN N).testBit k
  · rfl
  · have := (this.mp c).1
    omega)
theorem all_bit (R k : Nat) : (2 ^ R - 1).testBit k = decide (k < R) := Nat.testBit_two_pow_sub_one R k
/-- the roads of no round are just those without which there is a piece more -/
theorem off_mg {N : zN} (hv : NV N) {r : Nat} (hr : r < gR N) : ((offN N).testBit r = true ↔ gP N - mga N < gP N - mg (gs N) (ge N) (clr (2 ^ gR N - 1) (2 ^ r)) (gR N)) := by
  have hse := hv.se
  have b0 : (clr (2 ^ gR N - 1) (2 ^ r)).testBit r = false := by rw [clr_bit, Nat.testBit_two_pow]; simp
  have bk : ∀ k, k ≠ r → (2 ^ gR N - 1).testBit k = (clr (2 ^ gR N - 1) (2 ^ r)).testBit k := by
    intro k hk
    rw [clr_bit, Nat.testBit_two_pow, decide_eq_false (fun z => hk z.symm)]
    simp
  have b1 : (2 ^ gR N - 1).testBit r = true := by rw [all_bit]; exact decide_eq_true hr
  obtain ⟨J, hm⟩ := ins (P := gP N) (s := gs N) (e := ge N) b0 b1 bk (n := gR N - (r + 1)) (fun i hi => hse i (by omega))
  rw [show r + 1 + (gR N - (r + 1)) = gR N by omega] at hm
  have hle := (eG_eq hv).2.2
  have hm : mg (gs N) (ge N) (clr (2 ^ gR N - 1) (2 ^ r)) (gR N) + (if lb (gs N) (ge N) (clr (2 ^ gR N - 1) (2 ^ r)) (gR N) (gs N r) ≠ lb (gs N) (ge N) (clr (2 ^ gR N - 1) (2 ^ r)) (gR N) (ge N r) then 1 else 0) = mga N := hm
  refine (off_bit hv r).trans ⟨fun ⟨_, h⟩ => ?_, fun h => ⟨hr, fun T hT hE => ?_⟩⟩
  · by_cases c : lb (gs N) (ge N) (clr (2 ^ gR N - 1) (2 ^ r)) (gR N) (gs N r) = lb (gs N) (ge N) (clr (2 ^ gR N - 1) (2 ^ r)) (gR N) (ge N r)
    · exfalso
      obtain ⟨T, t1, t2⟩ := lb_path (R := gR N) (Nat.le_refl _) c
      have hT0 : T.testBit r = false := by
        cases z : T.testBit r
        · rfl
        · have := (t1 r z).1
          rw [b0] at this
          cases this
      have hlt : T < 2 ^ gR N := lt_pow (fun k hk => by
        cases z : T.testBit k
        · rfl
        · have := (t1 k z).2
          omega)
      have := h (T ^^^ 2 ^ r) (Nat.xor_lt_two_pow hlt (Nat.pow_lt_pow_right (by omega) hr)) (fun q _ => by
        rw [od_xor, t2, od_one, decide_eq_true hr]
        simp)
      rw [Nat.testBit_xor, hT0, Nat.testBit_two_pow, decide_eq_true rfl] at this
      cases this
    · rw [if_pos c] at hm
      omega
  · cases z : T.testBit r
    · rfl
    · exfalso
      have c : lb (gs N) (ge N) (clr (2 ^ gR N - 1) (2 ^ r)) (gR N) (gs N r) ≠ lb (gs N) (ge N) (clr (2 ^ gR N - 1) (2 ^ r)) (gR N) (ge N r) := by
        intro c
        rw [if_neg (fun y => y c)] at hm
        omega
      have hc := cut_one (s := gs N) (e := ge N) (T := T) (r := r) (X := fun p => decide (lb (gs N) (ge N) (clr (2 ^ gR N - 1) (2 ^ r)) (gR N) p = lb (gs N) (ge N) (clr (2 ^ gR N - 1) (2 ^ r)) (gR N) (gs N r))) z (by
        intro y
        have y : decide (lb (gs N) (ge N) (clr (2 ^ gR N - 1) (2 ^ r)) (gR N) (gs N r) = lb (gs N) (ge N) (clr (2 ^ gR N - 1) (2 ^ r)) (gR N) (gs N r)) = decide (lb (gs N) (ge N) (clr (2 ^ gR N - 1) (2 ^ r)) (gR N) (ge N r) = lb (gs N) (ge N) (clr (2 ^ gR N - 1) (2 ^ r)) (gR N) (gs N r)) := y
        rw [decide_eq_true rfl] at y
        exact c (of_decide_eq_true y.symm).symm) (n := gR N) (fun i hi hin hti => by
        show decide (lb (gs N) (ge N) (clr (2 ^ gR N - 1) (2 ^ r)) (gR N) (gs N i) = lb (gs N) (ge N) (clr (2 ^ gR N - 1) (2 ^ r)) (gR N) (gs N r)) = decide (lb (gs N) (ge N) (clr (2 ^ gR N - 1) (2 ^ r)) (gR N) (ge N i) = lb (gs N) (ge N) (clr (2 ^ gR N - 1) (2 ^ r)) (gR N) (gs N r))
        rw [lb_join hi (by rw [← bk i hin, all_bit]; exact decide_eq_true hi)])
      rw [evn_cut hE hse, decide_eq_true hr] at hc
      cases hc
theorem c_bridgeSet (d : Nat) {σ : z_M} {N : zN} (h : netD σ N) (hv : NV N) : ∃ σ', z_call (d + 3) k_Md_bridgeSet [.ref 53] σ (some (.int (nI (offN N)))) σ' ∧ fr [75] σ σ' := by
  obtain ⟨P, R, eP, hP, egP, eR, hR, eg, hse⟩ := hv.nat
  have h10 : 2 ^ R ≤ 2 ^ 10 := Nat.pow_le_pow_right (by omega) hR
  have hpos : 0 < 2 ^ R := Nat.pow_pos (by omega)
  have loop : ∀ (n i : Nat) (σi : z_M), i + n = R → fr [75] σ σi →
      z_wp (z_call (d + 2)) none k_Md_bridgeSet (fun r s => r = some (.int (nI (offN N))) ∧ fr [75] σ s) 4 [some (.ref 53), some (.int (nI (offN N % 2 ^ i))), some (.int (nI i))] [] σi := by
    intro n
    induction n with
    | zero =>
      intro i σi hi hf
      obtain rfl : i = R := by omega
      have e1 : σi.1 53 1 = nI i := by rw [hf.at (by decide), h.2.1, eR]
      refine z_go 60 [4] ⟨fun q => ⟨?_, hf⟩, fun q => ?_⟩
      · rw [← eg, Nat.mod_eq_of_lt (off_lt hv)]
      · rw [e1] at q
        exact absurd (Int32.le_refl _) q
    | succ n ih =>
      intro i σi hi hf
      have e1 : σi.1 53 1 = nI R := by rw [hf.at (by decide), h.2.1, eR]
      have hN : ∀ σi, fr [75] σ σi → netD σi N := fun σi hf => h.fr (hf.at (by decide) _) (hf.at (by decide) _) (hf.at (by decide) _) (hf.1 54 (by decide)) (hf.1 55 (by decide)) (hf.1 56 (by decide)) (hf.1 57 (by decide))
      have hone := i_one i (by omega)
      have hcl : clr (2 ^ R - 1) (2 ^ i) < 2 ^ R := lt_pow (fun k hk => by rw [clr_bit, all_bit, decide_eq_false (by omega)]; rfl)
      obtain ⟨σ1, hc1, hf1, -⟩ := c_piecesOf d (hN σi hf) hv (S := clr (2 ^ R - 1) (2 ^ i)) (by omega)
      have hf1 := hf.tr hf1
      have e2 : σ1.1 53 1 = nI R := by rw [hf1.at (by decide), h.2.1, eR]
      obtain ⟨σ2, hc2, hf2, -⟩ := c_piecesOf d (hN σ1 hf1) hv (S := 2 ^ R - 1) (by omega)
      have hf2 := hf1.tr hf2
      have key := off_mg hv (r := i) (by omega)
      unfold mga at key
      rw [egP, eg] at key hc1 hc2
      refine z_go 60 [4] ⟨fun q => ?_, fun q => ⟨_, _, c_all (d + 1) e1 hR, _, σ1, by rw [hone, i_clr]; exact hc1, _, _, c_all (d + 1) e2 hR, _, σ2, hc2, fun q2 => ?_, fun q2 => ?_⟩⟩
      · rw [e1] at q
        simp (disch := omega) only [nL, nI_add, pk_mul, n_le, n_lt, n_eq] at q
        omega
      · show z_wp _ _ _ _ 4 _ _ _
        rw [n_le (by omega) (by omega)] at q2
        rw [show nI i + 1 = nI (i + 1) from nI_add i 1]
        have := ih (i + 1) σ2 (by omega) hf2
        rw [mod_bit, if_neg (fun z => by have := key.mp z; omega)] at this
        simp only [nL, i_or]
        exact this
      · show z_wp _ _ _ _ 4 _ _ _
        rw [n_le (by omega) (by omega)] at q2
        rw [show nI i + 1 = nI (i + 1) from nI_add i 1, hone]
        have := ih (i + 1) σ2 (by omega) hf2
        rw [mod_bit, if_pos (key.mpr (by omega))] at this
        simp only [nL, i_or]
        exact this
  have := loop R 0 σ (by omega) fr.rf
  rw [Nat.pow_zero, Nat.mod_one] at this
  exact z_metR ⟨rfl, z_go 60 [4] this⟩
def sBridges (B : zB) : Int32 × zB := (nI (offN B.1), B)
theorem v_bridges {B : zB} (h : VB B) : VB (sBridges B).2 := h
theorem c_bridgeC (d : Nat) (σ : z_M) : z_call (d + 1) k_Forest_bridgeSet [.ref 10] σ (some (.int (σ.1 10 3))) σ := ⟨rfl, z_go 20 [] ⟨rfl, rfl⟩⟩
theorem x_bridges (d : Nat) {σ : z_M} {B : zB} (h : RepC σ B) (hv : VB B) : opC (d + 3) k_RF_bridges [.ref 0] σ (sBridges B) := by
  obtain ⟨σ1, hc, hf, b1, b2, b3, b4, hg, hR⟩ := c_growE d h.1 hv.1
  refine z_metC ⟨rfl, z_go 60 [] ⟨σ1, hc, _, _, c_bridgeC (d + 1) σ1, ?_, h.scr hf (by decide), hf.kC (by decide)⟩⟩
  rw [b1]
  rfl
theorem y_bridges (d : Nat) {σ : z_M} {B : zB} (h : RepD σ B) (hv : VB B) : opD (d + 4) k_Md_bridges [.ref 53] σ (sBridges B) := by
  obtain ⟨σ1, hc, hf⟩ := c_bridgeSet d h.1 hv.1
  exact z_metD ⟨rfl, z_go 60 [] ⟨_, σ1, hc, rfl, h.scr hf (by decide), hf.kD (by decide)⟩⟩
