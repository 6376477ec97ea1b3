/-! the component's search: tallyFree, tally -/
theorem vl_e (u : Nat) : vl (2 * u) = ((u + 1 : Nat) : Int) := by
  unfold vl
  rw [if_pos (by omega), show 2 * u / 2 = u by omega]
theorem vl_o (u : Nat) : vl (2 * u + 1) = -((u + 1 : Nat) : Int) := by
  unfold vl
  rw [if_neg (by omega), show (2 * u + 1) / 2 = u by omega]
/-- the first, a step earlier -/
theorem FS_cons {s e : Nat → Nat} {T : Nat} {ord τ : Nat → Nat} {m j t : Nat} {g : Nat → Int} (ht : t < T) (hz : ∀ i, i < t → NC s e T ord m (j + 1) (ap s e (ord j) (vl i) g) = 0) (hp : 0 < NC s e T ord m (j + 1) (ap s e (ord j) (vl t) g)) (hF : FS s e T ord τ m (j + 1) (ap s e (ord j) (vl t) g)) : ∃ τ', FS s e T ord τ' (m + 1) j g ∧ τ' j = t ∧ ∀ i, i ≠ j → τ' i = τ i := by
  obtain ⟨τ', hτ'⟩ : ∃ τ' : Nat → Nat, τ' = fun i => if i = j then t else τ i := ⟨_, rfl⟩
  have tD : τ' j = t := (congrFun hτ' j).trans (if_pos rfl)
  have tn : ∀ i, i ≠ j → τ' i = τ i := fun i hi => (congrFun hτ' i).trans (if_neg hi)
  refine ⟨τ', ⟨by rw [tD]; exact ht, fun i hi => hz i (by rw [tD] at hi; exact hi), by rw [tD]; exact hp, ?_⟩, tD, tn⟩
  rw [tD]
  exact FS_congr (fun i h1 h2 => (tn i (by omega)).symm) hF
theorem NC_ge {s e : Nat → Nat} {T : Nat} {ord : Nat → Nat} {m j t : Nat} {g : Nat → Int} (ht : t < T) : NC s e T ord m (j + 1) (ap s e (ord j) (vl t) g) ≤ NC s e T ord (m + 1) j g := nsum_ge (f := fun t => NC s e T ord m (j + 1) (ap s e (ord j) (vl t) g)) ht
theorem c_free (d : Nat) {N : zN} (hv : NV N) {k b : Nat} (hk : 2 ≤ k ∧ k ≤ 6) (hb : b = 0 ∨ b = 1) {ord sd : Nat → Nat} (hid : b = 1 → ord = fun i => i) {m : Nat} (ih : TL (d + 2) N k b ord sd m) {j : Nat} {g : Nat → Int} {σ : z_M} (hj : j + (m + 1) = gR N) (h : netC σ N) (hp : prep σ N k b ord sd) (hg : surp σ g) (hbd : bdj j g) (hlev : levl (gs N) (ge N) ord j (m + 1) g) (hnt : ntS σ N k b ord) (hne : gs N (ord j) ≠ ge N (ord j)) : ∃ (y : Nat) (σ' : z_M), z_call (d + 4) k_Nowheres_tallyFree [.ref 18, .ref 1, .int (nI j)] σ (some (.int (nI y))) σ' ∧ oc σ σ' N k b ord (m + 1) j g y := by
  obtain ⟨P, R, eP, hP, egP, eR, hR, eg, hse⟩ := hv.nat
  obtain ⟨f, hf⟩ : ∃ f : Nat → Nat, f = fun t => NC (gs N) (ge N) (2 * (k - 1)) ord m (j + 1) (ap (gs N) (ge N) (ord j) (vl t) g) := ⟨_, rfl⟩
  have hft : ∀ t, f t = NC (gs N) (ge N) (2 * (k - 1)) ord m (j + 1) (ap (gs N) (ge N) (ord j) (vl t) g) := fun t => congrFun hf t
  have hN : NC (gs N) (ge N) (2 * (k - 1)) ord (m + 1) j g = nsum f (2 * (k - 1)) := by rw [hf]; rfl
  have one : ∀ (t : Nat) (σi : z_M), t < 2 * (k - 1) → fr [19, 21, 27, 28] σ σi → surp σi g → (b = 1 → ∀ i, i < j → σi.1 19 (ord i) = σ.1 19 (ord i)) → ntS σi N k b ord → (b = 1 → ∀ x, x < t → f x = 0) → ∃ (y : Nat) (σ' : z_M), z_call (d + 3) k_Nowheres_tallyWith [.ref 18, .ref 1, .int (nI j), .int (oI (vl t))] σi (some (.int (nI y))) σ' ∧ fr [19, 21, 27, 28] σ σ' ∧ ((surp σ' g ∧ (b = 1 → ∀ i, i < j → σ'.1 19 (ord i) = σ.1 19 (ord i)) ∧ ntS σ' N k b ord ∧ y = f t ∧ (b = 1 → y = 0)) ∨ (b = 1 ∧ y = 1 ∧ oc σ σ' N k b ord (m + 1) j g 1)) := by
    intro t σi ht hfi hgi hvi hni hz
    have hNi : netC σi N := h.fr (hfi.1 1 (by decide)) (hfi.1 2 (by decide)) (hfi.1 3 (by decide)) (hfi.1 4 (by decide)) (hfi.1 5 (by decide))
    have hr := vl_rng ht
    have cv : vl t ≠ 0 ∧ (vl t).natAbs ≤ k - 1 := ⟨hr.1, by omega⟩
    obtain ⟨y, σ', hc, w1, w2, w3, w4⟩ := c_with d hv hk hid ih hj hNi (hp.fr' hfi) hgi hbd hlev hni hne (v := vl t) (by omega) (by omega)
    refine ⟨y, σ', hc, hfi.tr w1, ?_⟩
    rcases w4 with ⟨u1, u2, u3⟩ | ⟨u1, u2, u3, u4, u5, τ, u6, u7⟩
    · rw [if_pos cv, ← hft] at u2
      exact Or.inl ⟨w2, fun hb1 i hi => by rw [w3 hb1 i hi, hvi hb1 i hi], u1, u2, u3⟩
    · refine Or.inr ⟨u1, u4, hfi.tr w1, w2, fun hb1 i hi => by rw [w3 hb1 i hi, hvi hb1 i hi], Or.inr ⟨u1, Nat.lt_of_lt_of_le u3 (NC_ge ht), rfl, ?_⟩⟩
      obtain ⟨τ', t1, t2, t3⟩ := FS_cons ht (fun i hi => by rw [← hft]; exact hz u1 i hi) u3 u6
      refine ⟨τ', t1, fun i h1 h2 => ?_⟩
      by_cases c : i = j
      · rw [c, t2]
        exact u5
      · rw [t3 i c]
        exact u7 i (by omega) h2
  have loop : ∀ (q u : Nat) (σi : z_M), u + q = k - 1 → fr [19, 21, 27, 28] σ σi → surp σi g → (b = 1 → ∀ i, i < j → σi.1 19 (ord i) = σ.1 19 (ord i)) → ntS σi N k b ord → (b = 1 → ∀ x, x < 2 * u → f x = 0) →
      z_wp (z_call (d + 3)) none k_Nowheres_tallyFree (fun y s' => ∃ x : Nat, y = some (.int (nI x)) ∧ oc σ s' N k b ord (m + 1) j g x) 5 [some (.ref 18), some (.ref 1), some (.int (nI j)), some (.int (nI (nsum f (2 * u)))), some (.int (nI (u + 1)))] [] σi := by
    intro q
    induction q with
    | zero =>
      intro u σi hu hfi hgi hvi hni hz
      obtain rfl : u = k - 1 := by omega
      have e10 : σi.1 18 10 = nI k := by rw [hfi.at (by decide)]; exact hp.1
      refine z_go 60 [5] ⟨fun z => ⟨_, rfl, hfi, hgi, hvi, Or.inl ⟨hni, hN.symm, fun hb1 => ?_⟩⟩, fun z => ?_⟩
      · rw [hN]
        exact nsum_0 (hz hb1)
      · rw [e10, n_le (by omega) (by omega)] at z
        omega
    | succ q ihq =>
      intro u σi hu hfi hgi hvi hni hz
      have e10 : σi.1 18 10 = nI k := by rw [hfi.at (by decide)]; exact hp.1
      obtain ⟨y1, s1, hc1, hf1, hw1⟩ := one (2 * u) σi (by omega) hfi hgi hvi hni hz
      rw [vl_e, oI_nat] at hc1
      have b1 : s1.1 18 11 = nI b := by rw [hf1.at (by decide)]; exact hp.2.1
      have hns : b = 1 → nsum f (2 * u) = 0 := fun hb1 => nsum_0 (hz hb1)
      rcases hw1 with ⟨g1, v1, n1, e1, z1⟩ | ⟨hb1, rfl, hoc⟩
      · obtain ⟨y2, s2, hc2, hf2, hw2⟩ := one (2 * u + 1) s1 (by omega) hf1 g1 v1 n1 (fun hb1 x hx => by
          by_cases c : x = 2 * u
          · rw [c, ← e1]; exact z1 hb1
          · exact hz hb1 x (by omega))
        rw [vl_o] at hc2
        have hneg : -nI (u + 1) = oI (-((u + 1 : Nat) : Int)) := by rw [← oI_nat, oI_neg]
        rw [← hneg] at hc2
        have b2 : s2.1 18 11 = nI b := by rw [hf2.at (by decide)]; exact hp.2.1
        -- after both numbers
        have both : (b = 0 → z_wp (z_call (d + 3)) none k_Nowheres_tallyFree (fun y s' => ∃ x : Nat, y = some (.int (nI x)) ∧ oc σ s' N k b ord (m + 1) j g x) 5 [some (.ref 18), some (.ref 1), some (.int (nI j)), some (.int (nI (nsum f (2 * u)) + nI y1 + nI y2)), some (.int (nI (u + 1) + 1))] [] s2) ∧ (b = 1 → y2 = 0 → z_wp (z_call (d + 3)) none k_Nowheres_tallyFree (fun y s' => ∃ x : Nat, y = some (.int (nI x)) ∧ oc σ s' N k b ord (m + 1) j g x) 5 [some (.ref 18), some (.ref 1), some (.int (nI j)), some (.int (nI (nsum f (2 * u)) + nI y1 + nI y2)), some (.int (nI (u + 1) + 1))] [] s2) := by
          have go : (surp s2 g ∧ (b = 1 → ∀ i, i < j → s2.1 19 (ord i) = σ.1 19 (ord i)) ∧ ntS s2 N k b ord ∧ y2 = f (2 * u + 1) ∧ (b = 1 → y2 = 0)) → z_wp (z_call (d + 3)) none k_Nowheres_tallyFree (fun y s' => ∃ x : Nat, y = some (.int (nI x)) ∧ oc σ s' N k b ord (m + 1) j g x) 5 [some (.ref 18), some (.ref 1), some (.int (nI j)), some (.int (nI (nsum f (2 * u)) + nI y1 + nI y2)), some (.int (nI (u + 1) + 1))] [] s2 := by
            rintro ⟨g2, v2, n2, e2, z2⟩
            have := ihq (u + 1) s2 (by omega) hf2 g2 v2 n2 (fun hb1 x hx => by
              by_cases c : x = 2 * u
              · rw [c, ← e1]; exact z1 hb1
              · by_cases c2 : x = 2 * u + 1
                · rw [c2, ← e2]; exact z2 hb1
                · exact hz hb1 x (by omega))
            rw [show 2 * (u + 1) = 2 * u + 1 + 1 by omega, nsum, nsum, ← e1, ← e2] at this
            rw [nI_add, nI_add, show nI (u + 1) + 1 = nI (u + 1 + 1) from nI_add _ 1]
            exact this
          refine ⟨fun b0 => ?_, fun hb1 hy0 => ?_⟩
          · rcases hw2 with w | ⟨hb1, -, -⟩
            · exact go w
            · omega
          · rcases hw2 with w | ⟨-, hy1, -⟩
            · exact go w
            · omega
        have tail : z_wp (z_call (d + 3)) none k_Nowheres_tallyFree (fun y s' => ∃ x : Nat, y = some (.int (nI x)) ∧ oc σ s' N k b ord (m + 1) j g x) 38 [some (.ref 18), some (.ref 1), some (.int (nI j)), some (.int (nI (nsum f (2 * u)) + nI y1)), some (.int (nI (u + 1)))] [] s1 := by
          refine z_go 60 [5, 38] ⟨_, s2, hc2, fun z => ?_, fun z => ⟨fun z2 => ?_, fun z2 => ?_⟩⟩
          · rw [b2] at z
            have z : nI b = nI 0 := z
            rw [n_eq (by omega) (by omega)] at z
            exact both.1 z
          · rw [b2] at z
            have z : ¬ nI b = nI 0 := z
            rw [n_eq (by omega) (by omega)] at z
            have hb1 : b = 1 := by omega
            have y10 := z1 hb1
            rw [hns hb1, y10] at z2
            refine both.2 hb1 ?_
            rcases hw2 with ⟨-, -, -, -, w⟩ | ⟨-, w, -⟩
            · exact w hb1
            · exfalso
              rw [w] at z2
              exact absurd z2 (by decide)
          · rw [b2] at z
            have z : ¬ nI b = nI 0 := z
            rw [n_eq (by omega) (by omega)] at z
            have hb1 : b = 1 := by omega
            have y10 := z1 hb1
            rcases hw2 with ⟨-, -, -, -, w⟩ | ⟨-, w, hoc⟩
            · exfalso
              rw [hns hb1, y10, w hb1] at z2
              exact z2 rfl
            · refine ⟨1, ?_, hoc⟩
              rw [hns hb1, y10, w]
              rfl
        refine z_go 60 [5, 38] ⟨fun z => ?_, fun z => ⟨_, s1, hc1, fun z2 => tail, fun z2 => ⟨fun z3 => tail, fun z3 => ?_⟩⟩⟩
        · rw [e10, n_le (by omega) (by omega)] at z
          omega
        · exfalso
          rw [b1] at z2
          have z2 : ¬ nI b = nI 0 := z2
          rw [n_eq (by omega) (by omega)] at z2
          have hb1 : b = 1 := by omega
          rw [hns hb1, z1 hb1] at z3
          exact z3 rfl
      · refine z_go 60 [5, 38] ⟨fun z => ?_, fun z => ⟨_, s1, hc1, fun z2 => ?_, fun z2 => ⟨fun z3 => ?_, fun z3 => ⟨1, ?_, hoc⟩⟩⟩⟩
        · rw [e10, n_le (by omega) (by omega)] at z
          omega
        · exfalso
          rw [b1, hb1] at z2
          exact absurd z2 (by decide)
        · exfalso
          rw [hns hb1] at z3
          exact absurd z3 (by decide)
        · rw [hns hb1]
          rfl
  have hm : z_met (d + 3) k_Nowheres_tallyFree [.ref 18, .ref 1, .int (nI j)] σ (fun y s' => ∃ x : Nat, y = some (.int (nI x)) ∧ oc σ s' N k b ord (m + 1) j g x) := ⟨rfl, z_go 60 [5, 38] (loop (k - 1) 0 σ (by omega) fr.rf hg (fun _ i _ => rfl) hnt (fun _ x hx => by omega))⟩
  obtain ⟨y, s', hcall, x, rfl, hpost⟩ := z_metx hm
  exact ⟨x, s', hcall, hpost⟩
