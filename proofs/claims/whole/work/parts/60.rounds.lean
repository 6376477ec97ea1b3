/-! what rounds answers -/
noncomputable def rdA (R : Nat) (s : Nat → Nat) (ρ : Nat → Nat) : Nat := s (lrf R (posQ ρ))
noncomputable def rdJ (R : Nat) (s e : Nat → Nat) (ρ : Nat → Nat) : Nat × Nat := @dite _ (∃ x : Nat × Nat, isRp (wG R s e ρ) (rdA R s ρ) x.1 x.2) (Classical.propDecidable _) (fun h => Classical.choose h) (fun _ => (0, 0))
noncomputable def rdW (R : Nat) (s e : Nat → Nat) (ρ : Nat → Nat) (k : Nat) : Nat := wR R s ρ (itF (wG R s e ρ) k (rdA R s ρ))
noncomputable def rdS (R : Nat) (s e : Nat → Nat) (ρ : Nat → Nat) : Nat := rSet (rdW R s e ρ) (rdJ R s e ρ).1 ((rdJ R s e ρ).2 - (rdJ R s e ρ).1)
noncomputable def rdM (R : Nat) (s e : Nat → Nat) (ρ : Nat → Nat) : Nat := rMin ρ (rdW R s e ρ) 100 (rdJ R s e ρ).1 ((rdJ R s e ρ).2 - (rdJ R s e ρ).1)
noncomputable def rdP (R : Nat) (s e : Nat → Nat) (ρ : Nat → Nat) : Nat → Nat := rSub ρ (rdW R s e ρ) (rdM R s e ρ) (rdJ R s e ρ).1 ((rdJ R s e ρ).2 - (rdJ R s e ρ).1)
theorem cn_lt {f g : Nat → Prop} (h : ∀ i, f i → g i) {k : Nat} (hk : g k ∧ ¬ f k) : ∀ {n : Nat}, k < n → cn f n < cn g n
  | 0, h0 => absurd h0 (Nat.not_lt_zero k)
  | n + 1, h0 => by
    have mono : ∀ m, cn f m ≤ cn g m := by
      intro m
      induction m with
      | zero => exact Nat.le_refl _
      | succ m ih =>
        rw [cn_s, cn_s]
        by_cases c : f m
        · rw [pb_t c, pb_t (h m c)]
          omega
        · rw [pb_f c]
          omega
    by_cases q : k = n
    · subst q
      have := mono k
      rw [cn_n hk.2, cn_p hk.1]
      omega
    · have ih := cn_lt h hk (n := n) (by omega)
      rw [cn_s, cn_s]
      by_cases c : f n
      · rw [pb_t c, pb_t (h n c)]
        omega
      · rw [pb_f c]
        omega
/-- one round of a balanced flow that isn't nought -/
theorem rd_ok {P R : Nat} {s e : Nat → Nat} {ρ : Nat → Nat} (hse : ∀ i, i < R → s i < P ∧ e i < P) (hb : bal P R s e ρ) (hm : ∀ i, i < R → ρ i ≤ 100) (hp : ∃ i, i < R ∧ 0 < ρ i) :
    ∃ r j m, LR R (posQ ρ) r ∧ rdA R s ρ = s r ∧ rdJ R s e ρ = (j, m) ∧ isRp (wG R s e ρ) (s r) j m ∧ m ≤ P ∧ rdW R s e ρ 0 = r ∧ (∀ k, itF (wG R s e ρ) k (s r) < P ∧ LR R (outQ s ρ (itF (wG R s e ρ) k (s r))) (rdW R s e ρ k)) ∧ bal P R s e (rdP R s e ρ) ∧ (∀ i, rdP R s e ρ i ≤ ρ i) ∧ cn (posQ (rdP R s e ρ)) R < cn (posQ ρ) R ∧ ∀ k, ρ (rdW R s e ρ k) ≤ 100 := by
  obtain ⟨r, hr⟩ := LR_ex (Q := posQ ρ) hp
  have ea : rdA R s ρ = s r := by unfold rdA; rw [lrf_eq hr]
  have hl : ∃ i, i < R ∧ outQ s ρ (s r) i := ⟨r, hr.1, hr.2.1, rfl⟩
  have ha := (hse r hr.1).1
  have hw := w_all hse hb ha hl
  obtain ⟨j, m, hjm, hmP⟩ := isRp_ex (fun k => (hw k).1)
  have ej : rdJ R s e ρ = (j, m) := by
    have hx : ∃ x : Nat × Nat, isRp (wG R s e ρ) (rdA R s ρ) x.1 x.2 := ⟨(j, m), by rw [ea]; exact hjm⟩
    unfold rdJ
    rw [dif_pos hx]
    have h2 := Classical.choose_spec hx
    generalize Classical.choose hx = x at h2
    rw [ea] at h2
    obtain ⟨h3, h4⟩ := isRp_fun h2 hjm
    exact Prod.ext h3 h4
  have eW : rdW R s e ρ = fun k => wR R s ρ (itF (wG R s e ρ) k (s r)) := by
    funext k
    unfold rdW
    rw [ea]
  have h100 : ∀ k, ρ (rdW R s e ρ k) ≤ 100 := fun k => by
    rw [eW]
    exact hm _ (hw k).2.2.1
  have e0 : rdW R s e ρ 0 = r := by
    rw [eW]
    refine lrf_eq ⟨hr.1, ⟨hr.2.1, rfl⟩, fun i hi z => hr.2.2 i hi z.1⟩
  have hlt := hjm.1
  have hM : ∀ k, k < m - j → rdM R s e ρ ≤ ρ (rdW R s e ρ (j + k)) := fun k hk => by
    unfold rdM
    rw [ej]
    exact rMin_le hk
  have hbal : bal P R s e (rdP R s e ρ) := by
    have := rd_bal hse hb ha hl hjm (c := rdM R s e ρ) (fun k hk => by
      have := hM k hk
      rw [eW] at this
      exact this)
    unfold rdP
    rw [ej, eW]
    exact this
  have hle : ∀ i, rdP R s e ρ i ≤ ρ i := fun i => rSub_le _ _ _ _ _ _
  refine ⟨r, j, m, hr, ea, ej, hjm, hmP, e0, fun k => ⟨(hw k).1, by rw [eW]; exact (hw k).2.2⟩, hbal, hle, ?_, h100⟩
  obtain ⟨k, hk, ek⟩ := rMin_at (ρ := ρ) (w := rdW R s e ρ) (c := 100) (j := j) h100 (t := m - j) (by omega)
  have eM : rdM R s e ρ = ρ (rdW R s e ρ (j + k)) := by
    unfold rdM
    rw [ej]
    exact ek
  have hd : ∀ x y, x < y → y < m - j → rdW R s e ρ (j + x) ≠ rdW R s e ρ (j + y) := by
    intro x y hxy hy z
    rw [eW] at z
    have z : wR R s ρ (itF (wG R s e ρ) (j + x) (s r)) = wR R s ρ (itF (wG R s e ρ) (j + y) (s r)) := z
    refine hjm.2.2 (j + x) (j + y) (by omega) (by omega) ?_
    have z1 := (hw (j + x)).2.2.2.1.2
    have z2 := (hw (j + y)).2.2.2.1.2
    rw [← z1, ← z2, z]
  have hz : rdP R s e ρ (rdW R s e ρ (j + k)) = 0 := by
    unfold rdP
    rw [ej]
    have := rSub_on (ρ := ρ) (w := rdW R s e ρ) (c := rdM R s e ρ) (j := j) hk hd
    rw [this, eM]
    omega
  refine cn_lt (k := rdW R s e ρ (j + k)) (fun i hi => ?_) ⟨?_, ?_⟩ ?_
  · have := hle i
    unfold posQ at hi ⊢
    omega
  · rw [eW]
    exact (hw (j + k)).2.2.2.1.1
  · unfold posQ
    rw [hz]
    exact Nat.lt_irrefl 0
  · rw [eW]
    exact (hw (j + k)).2.2.1
def vN (N : zN) (i : Nat) : Nat := (nV N i).toNatClampNeg
noncomputable def prs (N : zN) : Nat → Nat → Nat
  | 0 => vN N
  | t + 1 => rdP (gR N) (gs N) (ge N) (prs N t)
def prZ (N : zN) (t : Nat) : Prop := ∀ i, i < gR N → prs N t i = 0
noncomputable def prN (N : zN) : Nat := lrf (gR N + 1) (prZ N)
theorem prs_inv {N : zN} (hse : ∀ i, i < gR N → gs N i < gP N ∧ ge N i < gP N) (hb : bal (gP N) (gR N) (gs N) (ge N) (vN N)) (hm : ∀ i, i < gR N → vN N i ≤ 100) : ∀ t, (∀ u, u < t → ¬ prZ N u) → bal (gP N) (gR N) (gs N) (ge N) (prs N t) ∧ (∀ i, i < gR N → prs N t i ≤ 100) ∧ cn (posQ (prs N t)) (gR N) + t ≤ gR N
  | 0, _ => ⟨hb, hm, cn_le _ _⟩
  | t + 1, h => by
    obtain ⟨h1, h2, h3⟩ := prs_inv hse hb hm t (fun u hu => h u (by omega))
    have hp : ∃ i, i < gR N ∧ 0 < prs N t i := by
      refine Classical.byContradiction fun z => h t (by omega) (fun i hi => ?_)
      refine Classical.byContradiction fun y => z ⟨i, hi, by omega⟩
    obtain ⟨r, j, m, -, -, -, -, -, -, -, k1, k2, k3, -⟩ := rd_ok hse h1 h2 hp
    refine ⟨k1, fun i hi => ?_, ?_⟩
    · have := k2 i
      have := h2 i hi
      show rdP (gR N) (gs N) (ge N) (prs N t) i ≤ 100
      omega
    · show cn (posQ (rdP (gR N) (gs N) (ge N) (prs N t))) (gR N) + (t + 1) ≤ gR N
      omega
theorem prN_ok {N : zN} (hse : ∀ i, i < gR N → gs N i < gP N ∧ ge N i < gP N) (hb : bal (gP N) (gR N) (gs N) (ge N) (vN N)) (hm : ∀ i, i < gR N → vN N i ≤ 100) : LR (gR N + 1) (prZ N) (prN N) := by
  have hx : ∃ t, t < gR N + 1 ∧ prZ N t := by
    refine Classical.byContradiction fun z => ?_
    have := (prs_inv hse hb hm (gR N + 1) (fun u hu y => z ⟨u, hu, y⟩)).2.2
    omega
  obtain ⟨r, hr⟩ := LR_ex hx
  unfold prN
  rw [lrf_eq hr]
  exact hr
theorem exc_nat {N : zN} (hv : NV N) (hn : ∀ i, i < gR N → nV N i = nI (vN N i)) {p : Nat} (hp : p < gP N) : ∀ n, n ≤ gR N → exc N (nI p) n = nI (nsum (fun i => if ge N i = p then vN N i else 0) n) - nI (nsum (fun i => if gs N i = p then vN N i else 0) n)
  | 0, _ => by
    show (0 : Int32) = nI 0 - nI 0
    decide
  | n + 1, h => by
    obtain ⟨P, R, eP, hP, egP, eR, hR, eg, hse⟩ := hv.nat
    obtain ⟨es, ee, hs, he⟩ := hse n (by omega)
    have ih := exc_nat hv hn hp n (by omega)
    have a1 : (if nE N n = nI p then nV N n else 0) = nI (if ge N n = p then vN N n else 0) := by
      rw [ee]
      by_cases c : ge N n = p
      · rw [if_pos c, if_pos (by rw [c]), hn n (by omega)]
      · rw [if_neg c, if_neg (by rw [n_eq (by omega) (by omega)]; exact c)]
        rfl
    have a2 : (if nS N n = nI p then nV N n else 0) = nI (if gs N n = p then vN N n else 0) := by
      rw [es]
      by_cases c : gs N n = p
      · rw [if_pos c, if_pos (by rw [c]), hn n (by omega)]
      · rw [if_neg c, if_neg (by rw [n_eq (by omega) (by omega)]; exact c)]
        rfl
    rw [exc, ih, a1, a2, nsum, nsum, ← nI_add, ← nI_add]
    generalize nI (nsum (fun i => if ge N i = p then vN N i else 0) n) = x
    generalize nI (nsum (fun i => if gs N i = p then vN N i else 0) n) = y
    generalize nI (if ge N n = p then vN N n else 0) = z
    generalize nI (if gs N n = p then vN N n else 0) = w
    grind
theorem nsum_le {f : Nat → Nat} {c : Nat} : ∀ {n : Nat}, (∀ i, i < n → f i ≤ c) → nsum f n ≤ c * n
  | 0, _ => Nat.zero_le _
  | n + 1, h => by
    have := nsum_le (f := f) (c := c) (n := n) (fun i hi => h i (by omega))
    have := h n (by omega)
    rw [nsum, Nat.mul_succ]
    omega
theorem off_0 {N : zN} : ∀ {n : Nat}, offn N n = 0 → ∀ p, p < n → exs N (nI p) = 0
  | 0, _, p, hp => absurd hp (Nat.not_lt_zero p)
  | n + 1, h, p, hp => by
    rw [offn] at h
    by_cases q : p = n
    · subst q
      refine Classical.byContradiction fun z => ?_
      rw [if_neg z] at h
      omega
    · exact off_0 (n := n) (by omega) p (by omega)
/-- a flow that no post is off, of numbers not below 0 -/
theorem fl_ok {N : zN} (hv : NV N) (hg : nG N = 0) (ho : offn N (gP N) = 0) (hn : ∀ i, i < gR N → ¬ nV N i < 0) : (∀ i, i < gR N → nV N i = nI (vN N i) ∧ vN N i ≤ 100) ∧ bal (gP N) (gR N) (gs N) (ge N) (vN N) := by
  obtain ⟨P, R, G, eP, hP, eR, hR, eG, hG, hi⟩ := id hv
  have egR : gR N = R := by unfold gR; rw [eR, nc (by omega)]
  have h1 : ∀ i, i < gR N → nV N i = nI (vN N i) ∧ vN N i ≤ 100 := by
    intro i hi2
    obtain ⟨k, hk, ek⟩ := nI_of (x := nV N i) (hn i hi2)
    have hr := (hi i (by omega)).2.2.2
    have ev : vN N i = k := by unfold vN; rw [ek, nc (by omega)]
    rw [ek, nI_toInt (by omega)] at hr
    exact ⟨by rw [ev]; exact ek, by omega⟩
  refine ⟨h1, fun p hp => ?_⟩
  have hx := off_0 ho p hp
  unfold exs bg at hx
  rw [if_pos hg, exc_nat hv (fun i hi2 => (h1 i hi2).1) hp _ (Nat.le_refl _)] at hx
  have b1 := nsum_le (f := fun i => if ge N i = p then vN N i else 0) (c := 100) (n := gR N) (fun i hi2 => by
    have := (h1 i hi2).2
    split <;> omega)
  have b2 := nsum_le (f := fun i => if gs N i = p then vN N i else 0) (c := 100) (n := gR N) (fun i hi2 => by
    have := (h1 i hi2).2
    split <;> omega)
  have hx2 : nI (nsum (fun i => if ge N i = p then vN N i else 0) (gR N)) = nI (nsum (fun i => if gs N i = p then vN N i else 0) (gR N)) := by
    generalize nI (nsum (fun i => if ge N i = p then vN N i else 0) (gR N)) = x at hx ⊢
    generalize nI (nsum (fun i => if gs N i = p then vN N i else 0) (gR N)) = y at hx ⊢
    have : x = x - y + y := (Int32.sub_add_cancel x y).symm
    rw [hx, Int32.zero_add] at this
    exact this
  rw [n_eq (by omega) (by omega)] at hx2
  exact hx2
noncomputable def sRounds (i b : Int32) (B : zB) : Int32 × zB := if nG B.1 = 0 then (if offn B.1 (gP B.1) = 0 then (@ite _ (∃ k, k < gR B.1 ∧ nV B.1 k < 0) (Classical.propDecidable _) (oTell (-1000003) B) (if i = -1 then (nI (prN B.1), B) else if i < 0 then oTell (-1000006) B else if i < nI (prN B.1) then (if b = 0 then nI (rdS (gR B.1) (gs B.1) (ge B.1) (prs B.1 i.toNatClampNeg)) else nI (rdM (gR B.1) (gs B.1) (ge B.1) (prs B.1 i.toNatClampNeg)), B) else oTell (-1000006) B)) else oTell (-1000008) B) else oTell (-1000004) B
theorem v_rounds {B : zB} (h : VB B) (i b : Int32) : VB (sRounds i b B).2 := by
  unfold sRounds
  repeat (first | exact h.tell _ | exact h | split)
