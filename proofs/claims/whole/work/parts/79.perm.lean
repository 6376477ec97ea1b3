/-! how many NOWHERES there are doesn't depend on the order of roads -/
noncomputable def NL (s e : Nat → Nat) (T : Nat) : List Nat → (Nat → Int) → Nat
  | [], g => pb (∀ p, p < 6 → g p = 0)
  | r :: l, g => nsum (fun t => NL s e T l (ap s e r (vl t) g)) T
def rl (ord : Nat → Nat) : Nat → Nat → List Nat
  | 0, _ => []
  | m + 1, j => ord j :: rl ord m (j + 1)
theorem NC_NL {s e : Nat → Nat} {T : Nat} {ord : Nat → Nat} : ∀ {m j : Nat} {g : Nat → Int}, NC s e T ord m j g = NL s e T (rl ord m j) g
  | 0, _, _ => rfl
  | m + 1, j, g => by
    rw [NC, rl, NL]
    exact nsum_eq (fun t _ => NC_NL)
theorem NL_congr {s e : Nat → Nat} {T : Nat} : ∀ {l : List Nat} {g g' : Nat → Int}, (∀ p, p < 6 → g p = g' p) → NL s e T l g = NL s e T l g'
  | [], g, g', h => pb_iff ⟨fun z p hp => by rw [← h p hp]; exact z p hp, fun z p hp => by rw [h p hp]; exact z p hp⟩
  | r :: l, g, g', h => by
    rw [NL, NL]
    refine nsum_eq (fun t _ => NL_congr (fun p hp => ?_))
    unfold ap
    rw [h p hp]
theorem nsum_add (f g : Nat → Nat) : ∀ n, nsum (fun i => f i + g i) n = nsum f n + nsum g n
  | 0 => rfl
  | n + 1 => by
    rw [nsum, nsum, nsum, nsum_add f g n]
    omega
theorem nsum_comm (F : Nat → Nat → Nat) (m : Nat) : ∀ n, nsum (fun t => nsum (fun u => F t u) m) n = nsum (fun u => nsum (fun t => F t u) n) m
  | 0 => by
    rw [nsum]
    exact (nsum_0 (fun i _ => rfl)).symm
  | n + 1 => by
    rw [nsum, nsum_comm F m n, ← nsum_add]
    rfl
theorem NL_perm {s e : Nat → Nat} {T : Nat} {l l' : List Nat} (h : l.Perm l') : ∀ g, NL s e T l g = NL s e T l' g := by
  induction h with
  | nil => exact fun g => rfl
  | cons x h ih =>
    intro g
    rw [NL, NL]
    exact nsum_eq (fun t _ => ih _)
  | swap x y l =>
    intro g
    have e1 : NL s e T (y :: x :: l) g = nsum (fun t => nsum (fun u => NL s e T l (ap s e x (vl u) (ap s e y (vl t) g))) T) T := rfl
    have e2 : NL s e T (x :: y :: l) g = nsum (fun u => nsum (fun t => NL s e T l (ap s e y (vl t) (ap s e x (vl u) g))) T) T := rfl
    rw [e1, e2, nsum_comm (fun t u => NL s e T l (ap s e x (vl u) (ap s e y (vl t) g)))]
    refine nsum_eq (fun u _ => nsum_eq (fun t _ => NL_congr (fun p _ => ?_)))
    unfold ap
    omega
  | trans h1 h2 ih1 ih2 => exact fun g => (ih1 g).trans (ih2 g)
def lk : List Nat → Nat → Nat
  | [], _ => 0
  | a :: _, 0 => a
  | _ :: l, n + 1 => lk l n
theorem rl_lk (a : Nat) (L : List Nat) : ∀ m j, rl (lk (a :: L)) m (j + 1) = rl (lk L) m j
  | 0, _ => rfl
  | m + 1, j => by
    rw [rl, rl, rl_lk a L m (j + 1)]
    rfl
theorem rl_all : ∀ L : List Nat, rl (lk L) L.length 0 = L
  | [] => rfl
  | a :: L => by
    show rl (lk (a :: L)) (L.length + 1) 0 = a :: L
    rw [rl, rl_lk, rl_all L]
    rfl
theorem rl_id : ∀ m j, rl (fun i => i) m j = List.range' j m
  | 0, _ => rfl
  | m + 1, j => by
    rw [rl, rl_id m (j + 1)]
    rfl
theorem rl_eq {ord ord' : Nat → Nat} : ∀ {m j : Nat}, (∀ i, j ≤ i → i < j + m → ord i = ord' i) → rl ord m j = rl ord' m j
  | 0, _, _ => rfl
  | m + 1, j, h => by
    rw [rl, rl, h j (by omega) (by omega), rl_eq (fun i h1 h2 => h i (by omega) (by omega))]
theorem NC_perm {s e : Nat → Nat} {T R : Nat} {ord : Nat → Nat} {L : List Nat} (hL : L.Perm (List.range R)) (ho : ∀ x, x < R → ord x = lk L x) (g : Nat → Int) : NC s e T ord R 0 g = NC s e T (fun i => i) R 0 g := by
  have hlen : L.length = R := by rw [hL.length_eq, List.length_range]
  have e1 : rl ord R 0 = L := by
    rw [rl_eq (ord' := lk L) (fun i _ h2 => ho i (by omega)), ← hlen, rl_all]
  have e2 : rl (fun i => i) R 0 = List.range R := by rw [rl_id, List.range_eq_range']
  rw [NC_NL, NC_NL, e1, e2]
  exact NL_perm hL g
/-- roads by pairs of posts -/
def ordL (pr : Nat → Nat) (R : Nat) : Nat → List Nat
  | 0 => []
  | n + 1 => ordL pr R n ++ (List.range R).filter (fun i => decide (pr i = n))
theorem ordL_perm (pr : Nat → Nat) (R : Nat) : ∀ n, (ordL pr R n).Perm ((List.range R).filter (fun i => decide (pr i < n)))
  | 0 => by
    have : (List.range R).filter (fun i => decide (pr i < 0)) = [] := List.filter_eq_nil_iff.mpr (fun a _ => by simp)
    rw [this]
    exact List.Perm.nil
  | n + 1 => by
    have ih := ordL_perm pr R n
    have h1 := List.filter_append_perm (fun i => decide (pr i < n)) ((List.range R).filter (fun i => decide (pr i < n + 1)))
    rw [List.filter_filter, List.filter_filter] at h1
    have e1 : (List.range R).filter (fun a => decide (pr a < n) && decide (pr a < n + 1)) = (List.range R).filter (fun i => decide (pr i < n)) := List.filter_congr (fun a _ => by
      by_cases c : pr a < n
      · simp [c, show pr a < n + 1 by omega]
      · simp [c])
    have e2 : (List.range R).filter (fun a => (!decide (pr a < n)) && decide (pr a < n + 1)) = (List.range R).filter (fun i => decide (pr i = n)) := List.filter_congr (fun a _ => by
      by_cases c : pr a = n
      · simp [c]
      · by_cases c2 : pr a < n
        · simp [c, c2]
        · simp [c, c2, show ¬ pr a < n + 1 by omega])
    rw [e1, e2] at h1
    exact (List.Perm.append_right _ ih).trans h1
theorem ordL_all {pr : Nat → Nat} {R n : Nat} (h : ∀ i, i < R → pr i < n) : (ordL pr R n).Perm (List.range R) := by
  have := ordL_perm pr R n
  rw [List.filter_eq_self.mpr (fun a ha => by
    rw [List.mem_range] at ha
    exact decide_eq_true (h a ha))] at this
  exact this
