/-! the law's cases -/
theorem z_goS (n : Nat) (stops : List Nat) {d M pc : Nat} {sc : Option (Nat × (Nat → Int32))} {L : z_L} {st : List Value} {σ : z_M} {R : Option Value → z_M → Prop} (h : z_vc (z_call d) sc M stops (z_wp (z_call d) sc M R) R n pc L st σ) : z_wp (z_call d) sc M R pc L st σ := z_vc_wp h
theorem RepD_kC {σ σ' : z_M} {B : zB} (h : RepD σ B) (k : kC σ σ') : RepD σ' B := by
  obtain ⟨h1, h2, h3, h4, h5⟩ := h
  have k53 := k 53 (by omega)
  exact ⟨h1.fr (by rw [k53]) (by rw [k53]) (by rw [k53]) (k 54 (by omega)) (k 55 (by omega)) (k 56 (by omega)) (k 57 (by omega)), h2.fr (by rw [k53]) (k 58 (by omega)), h3.fr (k 59 (by omega)) (k 60 (by omega)) (k 61 (by omega)) (k 62 (by omega)), h4.fr (k 63 (by omega)) (k 64 (by omega)) (k 65 (by omega)), by rw [k53]; exact h5⟩
theorem RepC_kD {σ σ' : z_M} {B : zB} (h : RepC σ B) (kk : kD σ σ') : RepC σ' B := by
  have k := kk.1
  obtain ⟨h1, h2, h3, h4, h5, h6⟩ := h
  refine ⟨h1.fr (k 1 (by omega)) (k 2 (by omega)) (k 3 (by omega)) (k 4 (by omega)) (k 5 (by omega)), h2.fr (k 6 (by omega)) (k 7 (by omega)), h3.fr (fun c _ _ => k c (by omega)), h4.fr (fun c _ _ => k c (by omega)), by rw [k 0 (by omega)]; exact h5, ?_⟩
  unfold svC
  rw [k 0 (by omega), k 15 (by omega), k 16 (by omega), k 17 (by omega)]
  exact h6
def lwP (σ : z_M) (B : zB) : Prop := RepC σ B ∧ RepD σ B ∧ VB B
theorem l_pair {σ : z_M} {B : zB} {o : Int32 × zB} {kx ky : Nat} {asx asy : List Value} (h : lwP σ B) (hx : opC 60 kx asx σ o) (hy : ∀ σ1, RepD σ1 B → opD 60 ky asy σ1 o) (hv : VB o.2) : ∃ σ1 σ2, z_call 60 kx asx σ (some (.int o.1)) σ1 ∧ z_call 60 ky asy σ1 (some (.int o.1)) σ2 ∧ lwP σ2 o.2 := by
  obtain ⟨σ1, h1, h2, h3⟩ := hx
  obtain ⟨σ2, g1, g2, g3⟩ := hy σ1 (RepD_kC h.2.1 h3)
  exact ⟨σ1, σ2, h1, g1, RepC_kD h2 g3, g2, hv⟩
theorem l_pairL {σ : z_M} {B : zB} {o : Int64 × zB} {kx ky : Nat} {asx asy : List Value} (h : lwP σ B) (hx : opCL 60 kx asx σ o) (hy : ∀ σ1, RepD σ1 B → opDL 60 ky asy σ1 o) (hv : VB o.2) : ∃ σ1 σ2, z_call 60 kx asx σ (some (.long o.1)) σ1 ∧ z_call 60 ky asy σ1 (some (.long o.1)) σ2 ∧ lwP σ2 o.2 := by
  obtain ⟨σ1, h1, h2, h3⟩ := hx
  obtain ⟨σ2, g1, g2, g3⟩ := hy σ1 (RepD_kC h.2.1 h3)
  exact ⟨σ1, σ2, h1, g1, RepC_kD h2 g3, g2, hv⟩
theorem l_cmp (a : Int64) : lg_cmp a a = 0 := by simp [lg_cmp]
abbrev lW (L : Nat) (xs : Nat → Int32) (pc i : Nat) (σ : z_M) : Prop := z_wp (z_call 60) (some (L, xs)) 189 (fun r _ => r = some (.int 1)) pc [some (.ref 100), some (.ref 0), some (.ref 53), some (.int (nI i))] [] σ
theorem l_in {L i : Nat} (hL : L ≤ 3072) (hi : i + 6 ≤ L) (k : Nat) (hk : k < 6) : vp_in (nI i + nI k) L := by
  rw [nI_add]
  exact vin (by omega) (by omega)
theorem l_nx {L i : Nat} {xs : Nat → Int32} {σ : z_M} (h : lW L xs 18 (i + 6) σ) : z_wp (z_call 60) (some (L, xs)) 189 (fun r _ => r = some (.int 1)) 18 [some (.ref 100), some (.ref 0), some (.ref 53), some (.int (nI i + 6))] [] σ := by
  rw [show nI i + 6 = nI (i + 6) from nI_add i 6]
  exact h
theorem l_c0 {L : Nat} {xs : Nat → Int32} {i : Nat} {σ : z_M} {B : zB} (hL : L ≤ 3072) (hi : i + 6 ≤ L) (h : lwP σ B) (kk : ∀ σ2 B2, lwP σ2 B2 → lW L xs 18 (i + 6) σ2) : lW L xs 208 i σ := by
  obtain ⟨σ1, σ2, h1, h2, h3⟩ := l_pair h (x_anew 55 h.1  ) (fun s g => y_anew 55 g  ) (v_anew h.2.2 )
  exact z_goS 80 [18] ⟨_, σ1, h1, _, σ2, h2, fun _ => l_nx (kk σ2 _ h3), fun q => absurd rfl q⟩
theorem l_c1 {L : Nat} {xs : Nat → Int32} {i : Nat} {σ : z_M} {B : zB} (hL : L ≤ 3072) (hi : i + 6 ≤ L) (h : lwP σ B) (kk : ∀ σ2 B2, lwP σ2 B2 → lW L xs 18 (i + 6) σ2) : lW L xs 221 i σ := by
  obtain ⟨σ1, σ2, h1, h2, h3⟩ := l_pair h (x_post 55 h.1  ) (fun s g => y_post 55 g h.2.2 ) (v_post h.2.2 )
  exact z_goS 80 [18] ⟨_, σ1, h1, _, σ2, h2, fun _ => l_nx (kk σ2 _ h3), fun q => absurd rfl q⟩
theorem l_c2 {L : Nat} {xs : Nat → Int32} {i : Nat} {σ : z_M} {B : zB} (hL : L ≤ 3072) (hi : i + 6 ≤ L) (h : lwP σ B) (kk : ∀ σ2 B2, lwP σ2 B2 → lW L xs 18 (i + 6) σ2) : lW L xs 234 i σ := by
  obtain ⟨σ1, σ2, h1, h2, h3⟩ := l_pair h (x_road 55 h.1 h.2.2 (xs (nI i + 1).toNatClampNeg) (xs (nI i + 2).toNatClampNeg)) (fun s g => y_road 55 g h.2.2 (xs (nI i + 1).toNatClampNeg) (xs (nI i + 2).toNatClampNeg)) (v_road h.2.2 _ _ )
  exact z_goS 80 [18] ⟨l_in hL hi 1 (by decide), l_in hL hi 2 (by decide), _, σ1, h1, l_in hL hi 1 (by decide), l_in hL hi 2 (by decide), _, σ2, h2, fun _ => l_nx (kk σ2 _ h3), fun q => absurd rfl q⟩
theorem l_c3 {L : Nat} {xs : Nat → Int32} {i : Nat} {σ : z_M} {B : zB} (hL : L ≤ 3072) (hi : i + 6 ≤ L) (h : lwP σ B) (kk : ∀ σ2 B2, lwP σ2 B2 → lW L xs 18 (i + 6) σ2) : lW L xs 267 i σ := by
  obtain ⟨σ1, σ2, h1, h2, h3⟩ := l_pair h (x_length 55 h.1 h.2.2 (xs (nI i + 1).toNatClampNeg) (xs (nI i + 2).toNatClampNeg)) (fun s g => y_length 55 g h.2.2 (xs (nI i + 1).toNatClampNeg) (xs (nI i + 2).toNatClampNeg)) (v_length h.2.2 _ _ )
  exact z_goS 80 [18] ⟨l_in hL hi 1 (by decide), l_in hL hi 2 (by decide), _, σ1, h1, l_in hL hi 1 (by decide), l_in hL hi 2 (by decide), _, σ2, h2, fun _ => l_nx (kk σ2 _ h3), fun q => absurd rfl q⟩
theorem l_c4 {L : Nat} {xs : Nat → Int32} {i : Nat} {σ : z_M} {B : zB} (hL : L ≤ 3072) (hi : i + 6 ≤ L) (h : lwP σ B) (kk : ∀ σ2 B2, lwP σ2 B2 → lW L xs 18 (i + 6) σ2) : lW L xs 300 i σ := by
  obtain ⟨σ1, σ2, h1, h2, h3⟩ := l_pair h (x_turn 55 h.1 h.2.2 (xs (nI i + 1).toNatClampNeg)) (fun s g => y_turn 55 g h.2.2 (xs (nI i + 1).toNatClampNeg)) (v_turn h.2.2 _ )
  exact z_goS 80 [18] ⟨l_in hL hi 1 (by decide), _, σ1, h1, l_in hL hi 1 (by decide), _, σ2, h2, fun _ => l_nx (kk σ2 _ h3), fun q => absurd rfl q⟩
theorem l_c5 {L : Nat} {xs : Nat → Int32} {i : Nat} {σ : z_M} {B : zB} (hL : L ≤ 3072) (hi : i + 6 ≤ L) (h : lwP σ B) (kk : ∀ σ2 B2, lwP σ2 B2 → lW L xs 18 (i + 6) σ2) : lW L xs 323 i σ := by
  obtain ⟨σ1, σ2, h1, h2, h3⟩ := l_pair h (x_take 55 h.1 h.2.2 (xs (nI i + 1).toNatClampNeg)) (fun s g => y_take 55 g h.2.2 (xs (nI i + 1).toNatClampNeg)) (v_take h.2.2 _ )
  exact z_goS 80 [18] ⟨l_in hL hi 1 (by decide), _, σ1, h1, l_in hL hi 1 (by decide), _, σ2, h2, fun _ => l_nx (kk σ2 _ h3), fun q => absurd rfl q⟩
theorem l_c6 {L : Nat} {xs : Nat → Int32} {i : Nat} {σ : z_M} {B : zB} (hL : L ≤ 3072) (hi : i + 6 ≤ L) (h : lwP σ B) (kk : ∀ σ2 B2, lwP σ2 B2 → lW L xs 18 (i + 6) σ2) : lW L xs 346 i σ := by
  obtain ⟨σ1, σ2, h1, h2, h3⟩ := l_pair h (x_melt 55 h.1 h.2.2 (xs (nI i + 1).toNatClampNeg)) (fun s g => y_melt 55 g h.2.2 (xs (nI i + 1).toNatClampNeg)) (v_melt h.2.2 _ )
  exact z_goS 80 [18] ⟨l_in hL hi 1 (by decide), _, σ1, h1, l_in hL hi 1 (by decide), _, σ2, h2, fun _ => l_nx (kk σ2 _ h3), fun q => absurd rfl q⟩
theorem l_c7 {L : Nat} {xs : Nat → Int32} {i : Nat} {σ : z_M} {B : zB} (hL : L ≤ 3072) (hi : i + 6 ≤ L) (h : lwP σ B) (kk : ∀ σ2 B2, lwP σ2 B2 → lW L xs 18 (i + 6) σ2) : lW L xs 369 i σ := by
  obtain ⟨σ1, σ2, h1, h2, h3⟩ := l_pair h (x_of 55 h.1 h.2.2 (xs (nI i + 1).toNatClampNeg) (xs (nI i + 2).toNatClampNeg)) (fun s g => y_of 55 g h.2.2 (xs (nI i + 1).toNatClampNeg) (xs (nI i + 2).toNatClampNeg)) (v_of h.2.2 _ _ )
  exact z_goS 80 [18] ⟨l_in hL hi 1 (by decide), l_in hL hi 2 (by decide), _, σ1, h1, l_in hL hi 1 (by decide), l_in hL hi 2 (by decide), _, σ2, h2, fun _ => l_nx (kk σ2 _ h3), fun q => absurd rfl q⟩
theorem l_c8 {L : Nat} {xs : Nat → Int32} {i : Nat} {σ : z_M} {B : zB} (hL : L ≤ 3072) (hi : i + 6 ≤ L) (h : lwP σ B) (kk : ∀ σ2 B2, lwP σ2 B2 → lW L xs 18 (i + 6) σ2) : lW L xs 402 i σ := by
  obtain ⟨σ1, σ2, h1, h2, h3⟩ := l_pair h (x_undo 55 h.1 h.2.2 ) (fun s g => y_undo 55 g h.2.2 ) (v_undo h.2.2 )
  exact z_goS 80 [18] ⟨_, σ1, h1, _, σ2, h2, fun _ => l_nx (kk σ2 _ h3), fun q => absurd rfl q⟩
theorem l_c9 {L : Nat} {xs : Nat → Int32} {i : Nat} {σ : z_M} {B : zB} (hL : L ≤ 3072) (hi : i + 6 ≤ L) (h : lwP σ B) (kk : ∀ σ2 B2, lwP σ2 B2 → lW L xs 18 (i + 6) σ2) : lW L xs 415 i σ := by
  obtain ⟨σ1, σ2, h1, h2, h3⟩ := l_pair h (x_sheet 55 h.1  (xs (nI i + 1).toNatClampNeg) (xs (nI i + 2).toNatClampNeg) (xs (nI i + 3).toNatClampNeg)) (fun s g => y_sheet 55 g  (xs (nI i + 1).toNatClampNeg) (xs (nI i + 2).toNatClampNeg) (xs (nI i + 3).toNatClampNeg)) (v_sheet h.2.2 _ _ _ )
  exact z_goS 80 [18] ⟨l_in hL hi 1 (by decide), l_in hL hi 2 (by decide), l_in hL hi 3 (by decide), _, σ1, h1, l_in hL hi 1 (by decide), l_in hL hi 2 (by decide), l_in hL hi 3 (by decide), _, σ2, h2, fun _ => l_nx (kk σ2 _ h3), fun q => absurd rfl q⟩
theorem l_c10 {L : Nat} {xs : Nat → Int32} {i : Nat} {σ : z_M} {B : zB} (hL : L ≤ 3072) (hi : i + 6 ≤ L) (h : lwP σ B) (kk : ∀ σ2 B2, lwP σ2 B2 → lW L xs 18 (i + 6) σ2) : lW L xs 458 i σ := by
  obtain ⟨σ1, σ2, h1, h2, h3⟩ := l_pair h (x_put 55 h.1 h.2.2 (xs (nI i + 1).toNatClampNeg) (xs (nI i + 2).toNatClampNeg) (xs (nI i + 3).toNatClampNeg)) (fun s g => y_put 55 g h.2.2 (xs (nI i + 1).toNatClampNeg) (xs (nI i + 2).toNatClampNeg) (xs (nI i + 3).toNatClampNeg)) (v_put h.2.2 _ _ _ )
  exact z_goS 80 [18] ⟨l_in hL hi 1 (by decide), l_in hL hi 2 (by decide), l_in hL hi 3 (by decide), _, σ1, h1, l_in hL hi 1 (by decide), l_in hL hi 2 (by decide), l_in hL hi 3 (by decide), _, σ2, h2, fun _ => l_nx (kk σ2 _ h3), fun q => absurd rfl q⟩
theorem l_c11 {L : Nat} {xs : Nat → Int32} {i : Nat} {σ : z_M} {B : zB} (hL : L ≤ 3072) (hi : i + 6 ≤ L) (h : lwP σ B) (kk : ∀ σ2 B2, lwP σ2 B2 → lW L xs 18 (i + 6) σ2) : lW L xs 501 i σ := by
  obtain ⟨σ1, σ2, h1, h2, h3⟩ := l_pair h (x_copy 55 h.1 h.2.2 (xs (nI i + 1).toNatClampNeg) (xs (nI i + 2).toNatClampNeg) (xs (nI i + 3).toNatClampNeg) (xs (nI i + 4).toNatClampNeg) (xs (nI i + 5).toNatClampNeg)) (fun s g => y_copy 55 g h.2.2 (xs (nI i + 1).toNatClampNeg) (xs (nI i + 2).toNatClampNeg) (xs (nI i + 3).toNatClampNeg) (xs (nI i + 4).toNatClampNeg) (xs (nI i + 5).toNatClampNeg)) (v_copy h.2.2 _ _ _ _ _ )
  exact z_goS 80 [18] ⟨l_in hL hi 1 (by decide), l_in hL hi 2 (by decide), l_in hL hi 3 (by decide), l_in hL hi 4 (by decide), l_in hL hi 5 (by decide), _, σ1, h1, l_in hL hi 1 (by decide), l_in hL hi 2 (by decide), l_in hL hi 3 (by decide), l_in hL hi 4 (by decide), l_in hL hi 5 (by decide), _, σ2, h2, fun _ => l_nx (kk σ2 _ h3), fun q => absurd rfl q⟩
theorem l_c12 {L : Nat} {xs : Nat → Int32} {i : Nat} {σ : z_M} {B : zB} (hL : L ≤ 3072) (hi : i + 6 ≤ L) (h : lwP σ B) (kk : ∀ σ2 B2, lwP σ2 B2 → lW L xs 18 (i + 6) σ2) : lW L xs 564 i σ := by
  obtain ⟨σ1, σ2, h1, h2, h3⟩ := l_pair h (x_lay 55 h.1 h.2.2 (xs (nI i + 1).toNatClampNeg)) (fun s g => y_lay 55 g h.2.2 (xs (nI i + 1).toNatClampNeg)) (v_lay h.2.2 _ )
  exact z_goS 80 [18] ⟨l_in hL hi 1 (by decide), _, σ1, h1, l_in hL hi 1 (by decide), _, σ2, h2, fun _ => l_nx (kk σ2 _ h3), fun q => absurd rfl q⟩
theorem l_c13 {L : Nat} {xs : Nat → Int32} {i : Nat} {σ : z_M} {B : zB} (hL : L ≤ 3072) (hi : i + 6 ≤ L) (h : lwP σ B) (kk : ∀ σ2 B2, lwP σ2 B2 → lW L xs 18 (i + 6) σ2) : lW L xs 587 i σ := by
  obtain ⟨σ1, σ2, h1, h2, h3⟩ := l_pair h (x_group 55 h.1  (xs (nI i + 1).toNatClampNeg)) (fun s g => y_group 55 g  (xs (nI i + 1).toNatClampNeg)) (v_group h.2.2 _ )
  exact z_goS 80 [18] ⟨l_in hL hi 1 (by decide), _, σ1, h1, l_in hL hi 1 (by decide), _, σ2, h2, fun _ => l_nx (kk σ2 _ h3), fun q => absurd rfl q⟩
theorem l_c14 {L : Nat} {xs : Nat → Int32} {i : Nat} {σ : z_M} {B : zB} (hL : L ≤ 3072) (hi : i + 6 ≤ L) (h : lwP σ B) (kk : ∀ σ2 B2, lwP σ2 B2 → lW L xs 18 (i + 6) σ2) : lW L xs 610 i σ := by
  obtain ⟨σ1, σ2, h1, h2, h3⟩ := l_pair h (x_set 55 h.1 h.2.2 (xs (nI i + 1).toNatClampNeg) (xs (nI i + 2).toNatClampNeg)) (fun s g => y_set 55 g h.2.2 (xs (nI i + 1).toNatClampNeg) (xs (nI i + 2).toNatClampNeg)) (v_set h.2.2 _ _ )
  exact z_goS 80 [18] ⟨l_in hL hi 1 (by decide), l_in hL hi 2 (by decide), _, σ1, h1, l_in hL hi 1 (by decide), l_in hL hi 2 (by decide), _, σ2, h2, fun _ => l_nx (kk σ2 _ h3), fun q => absurd rfl q⟩
theorem l_c15 {L : Nat} {xs : Nat → Int32} {i : Nat} {σ : z_M} {B : zB} (hL : L ≤ 3072) (hi : i + 6 ≤ L) (h : lwP σ B) (kk : ∀ σ2 B2, lwP σ2 B2 → lW L xs 18 (i + 6) σ2) : lW L xs 643 i σ := by
  obtain ⟨σ1, σ2, h1, h2, h3⟩ := l_pair h (x_excess 55 h.1 h.2.2 (xs (nI i + 1).toNatClampNeg)) (fun s g => y_excess 55 g h.2.2 (xs (nI i + 1).toNatClampNeg)) (v_excess h.2.2 _ )
  exact z_goS 80 [18] ⟨l_in hL hi 1 (by decide), _, σ1, h1, l_in hL hi 1 (by decide), _, σ2, h2, fun _ => l_nx (kk σ2 _ h3), fun q => absurd rfl q⟩
theorem l_c16 {L : Nat} {xs : Nat → Int32} {i : Nat} {σ : z_M} {B : zB} (hL : L ≤ 3072) (hi : i + 6 ≤ L) (h : lwP σ B) (kk : ∀ σ2 B2, lwP σ2 B2 → lW L xs 18 (i + 6) σ2) : lW L xs 666 i σ := by
  obtain ⟨σ1, σ2, h1, h2, h3⟩ := l_pair h (x_off 55 h.1 h.2.2 ) (fun s g => y_off 55 g h.2.2 ) h.2.2
  exact z_goS 80 [18] ⟨_, σ1, h1, _, σ2, h2, fun _ => l_nx (kk σ2 _ h3), fun q => absurd rfl q⟩
theorem l_c17 {L : Nat} {xs : Nat → Int32} {i : Nat} {σ : z_M} {B : zB} (hL : L ≤ 3072) (hi : i + 6 ≤ L) (h : lwP σ B) (kk : ∀ σ2 B2, lwP σ2 B2 → lW L xs 18 (i + 6) σ2) : lW L xs 679 i σ := by
  obtain ⟨σ1, σ2, h1, h2, h3⟩ := l_pair h (x_whole 54 h.1 h.2.2 ) (fun s g => y_whole 54 g h.2.2 ) h.2.2
  exact z_goS 80 [18] ⟨_, σ1, h1, _, σ2, h2, fun _ => l_nx (kk σ2 _ h3), fun q => absurd rfl q⟩
theorem l_c18 {L : Nat} {xs : Nat → Int32} {i : Nat} {σ : z_M} {B : zB} (hL : L ≤ 3072) (hi : i + 6 ≤ L) (h : lwP σ B) (kk : ∀ σ2 B2, lwP σ2 B2 → lW L xs 18 (i + 6) σ2) : lW L xs 692 i σ := by
  obtain ⟨σ1, σ2, h1, h2, h3⟩ := l_pair h (x_find 24 h.1 h.2.2 (xs (nI i + 1).toNatClampNeg)) (fun s g => y_find 55 g h.2.2 (xs (nI i + 1).toNatClampNeg)) (v_find h.2.2 _ )
  exact z_goS 80 [18] ⟨l_in hL hi 1 (by decide), _, σ1, h1, l_in hL hi 1 (by decide), _, σ2, h2, fun _ => l_nx (kk σ2 _ h3), fun q => absurd rfl q⟩
theorem l_c19 {L : Nat} {xs : Nat → Int32} {i : Nat} {σ : z_M} {B : zB} (hL : L ≤ 3072) (hi : i + 6 ≤ L) (h : lwP σ B) (kk : ∀ σ2 B2, lwP σ2 B2 → lW L xs 18 (i + 6) σ2) : lW L xs 715 i σ := by
  obtain ⟨σ1, σ2, h1, h2, h3⟩ := l_pair h (x_sized 24 h.1 h.2.2 (xs (nI i + 1).toNatClampNeg)) (fun s g => y_sized 55 g h.2.2 (xs (nI i + 1).toNatClampNeg)) (v_sized h.2.2 _ )
  exact z_goS 80 [18] ⟨l_in hL hi 1 (by decide), _, σ1, h1, l_in hL hi 1 (by decide), _, σ2, h2, fun _ => l_nx (kk σ2 _ h3), fun q => absurd rfl q⟩
theorem l_c20 {L : Nat} {xs : Nat → Int32} {i : Nat} {σ : z_M} {B : zB} (hL : L ≤ 3072) (hi : i + 6 ≤ L) (h : lwP σ B) (kk : ∀ σ2 B2, lwP σ2 B2 → lW L xs 18 (i + 6) σ2) : lW L xs 738 i σ := by
  obtain ⟨σ1, σ2, h1, h2, h3⟩ := l_pair h (x_least 24 h.1 h.2.2 ) (fun s g => y_least 55 g h.2.2 ) (v_least h.2.2 )
  exact z_goS 80 [18] ⟨_, σ1, h1, _, σ2, h2, fun _ => l_nx (kk σ2 _ h3), fun q => absurd rfl q⟩
theorem l_c21 {L : Nat} {xs : Nat → Int32} {i : Nat} {σ : z_M} {B : zB} (hL : L ≤ 3072) (hi : i + 6 ≤ L) (h : lwP σ B) (kk : ∀ σ2 B2, lwP σ2 B2 → lW L xs 18 (i + 6) σ2) : lW L xs 751 i σ := by
  obtain ⟨σ1, σ2, h1, h2, h3⟩ := l_pair h (x_rounds 55 h.1 h.2.2 (xs (nI i + 1).toNatClampNeg) 0) (fun s g => y_rounds 55 g h.2.2 (xs (nI i + 1).toNatClampNeg) 0) (v_rounds h.2.2 _ _ )
  obtain ⟨τ1, τ2, g1, g2, g3⟩ := l_pair h (x_rounds 55 h.1 h.2.2 (xs (nI i + 1).toNatClampNeg) 1) (fun s g => y_rounds 55 g h.2.2 (xs (nI i + 1).toNatClampNeg) 1) (v_rounds h.2.2 _ _ )
  exact z_goS 90 [18] ⟨l_in hL hi 1 (by decide), l_in hL hi 2 (by decide), fun c => ⟨_, σ1, h1, l_in hL hi 1 (by decide), l_in hL hi 2 (by decide), fun c2 => ⟨_, σ2, h2, fun _ => l_nx (kk σ2 _ h3), fun q => absurd (rfl) q⟩, fun c2 => absurd c c2⟩, fun c => ⟨_, τ1, g1, l_in hL hi 1 (by decide), l_in hL hi 2 (by decide), fun c2 => absurd c2 c, fun c2 => ⟨_, τ2, g2, fun _ => l_nx (kk τ2 _ g3), fun q => absurd (rfl) q⟩⟩⟩
theorem l_c22 {L : Nat} {xs : Nat → Int32} {i : Nat} {σ : z_M} {B : zB} (hL : L ≤ 3072) (hi : i + 6 ≤ L) (h : lwP σ B) (kk : ∀ σ2 B2, lwP σ2 B2 → lW L xs 18 (i + 6) σ2) : lW L xs 800 i σ := by
  obtain ⟨σ1, σ2, h1, h2, h3⟩ := l_pair h (x_flowPoly 44 h.1 h.2.2 (xs (nI i + 1).toNatClampNeg)) (fun s g => y_flowPoly 55 g h.2.2 (xs (nI i + 1).toNatClampNeg)) (v_poly h.2.2 _ _ )
  exact z_goS 80 [18] ⟨l_in hL hi 1 (by decide), _, σ1, h1, l_in hL hi 1 (by decide), _, σ2, h2, fun _ => l_nx (kk σ2 _ h3), fun q => absurd rfl q⟩
theorem l_c23 {L : Nat} {xs : Nat → Int32} {i : Nat} {σ : z_M} {B : zB} (hL : L ≤ 3072) (hi : i + 6 ≤ L) (h : lwP σ B) (kk : ∀ σ2 B2, lwP σ2 B2 → lW L xs 18 (i + 6) σ2) : lW L xs 823 i σ := by
  obtain ⟨σ1, σ2, h1, h2, h3⟩ := l_pair h (x_colourPoly 44 h.1 h.2.2 (xs (nI i + 1).toNatClampNeg)) (fun s g => y_colourPoly 55 g h.2.2 (xs (nI i + 1).toNatClampNeg)) (v_poly h.2.2 _ _ )
  exact z_goS 80 [18] ⟨l_in hL hi 1 (by decide), _, σ1, h1, l_in hL hi 1 (by decide), _, σ2, h2, fun _ => l_nx (kk σ2 _ h3), fun q => absurd rfl q⟩
theorem l_c24 {L : Nat} {xs : Nat → Int32} {i : Nat} {σ : z_M} {B : zB} (hL : L ≤ 3072) (hi : i + 6 ≤ L) (h : lwP σ B) (kk : ∀ σ2 B2, lwP σ2 B2 → lW L xs 18 (i + 6) σ2) : lW L xs 846 i σ := by
  obtain ⟨σ1, σ2, h1, h2, h3⟩ := l_pairL h (x_worth_0 44 h.1 h.2.2 (xs (nI i + 2).toNatClampNeg)) (fun s g => y_worth_0 55 g h.2.2 (xs (nI i + 2).toNatClampNeg)) (v_worth h.2.2 _ _)
  obtain ⟨τ1, τ2, g1, g2, g3⟩ := l_pairL h (x_worth_1 44 h.1 h.2.2 (xs (nI i + 2).toNatClampNeg)) (fun s g => y_worth_1 55 g h.2.2 (xs (nI i + 2).toNatClampNeg)) (v_worth h.2.2 _ _)
  exact z_goS 90 [18] ⟨l_in hL hi 1 (by decide), fun c => ⟨l_in hL hi 2 (by decide), _, σ1, h1, l_in hL hi 1 (by decide), fun c2 => ⟨l_in hL hi 2 (by decide), _, σ2, h2, fun _ => l_nx (kk σ2 _ h3), fun q => absurd (l_cmp _) q⟩, fun c2 => absurd c c2⟩, fun c => ⟨l_in hL hi 2 (by decide), _, τ1, g1, l_in hL hi 1 (by decide), fun c2 => absurd c2 c, fun c2 => ⟨l_in hL hi 2 (by decide), _, τ2, g2, fun _ => l_nx (kk τ2 _ g3), fun q => absurd (l_cmp _) q⟩⟩⟩
theorem l_c25 {L : Nat} {xs : Nat → Int32} {i : Nat} {σ : z_M} {B : zB} (hL : L ≤ 3072) (hi : i + 6 ≤ L) (h : lwP σ B) (kk : ∀ σ2 B2, lwP σ2 B2 → lW L xs 18 (i + 6) σ2) : lW L xs 896 i σ := by
  obtain ⟨σ1, σ2, h1, h2, h3⟩ := l_pair h (x_bridges 57 h.1 h.2.2 ) (fun s g => y_bridges 56 g h.2.2 ) (v_bridges h.2.2 )
  exact z_goS 80 [18] ⟨_, σ1, h1, _, σ2, h2, fun _ => l_nx (kk σ2 _ h3), fun q => absurd rfl q⟩
theorem l_c26 {L : Nat} {xs : Nat → Int32} {i : Nat} {σ : z_M} {B : zB} (hL : L ≤ 3072) (hi : i + 6 ≤ L) (h : lwP σ B) (kk : ∀ σ2 B2, lwP σ2 B2 → lW L xs 18 (i + 6) σ2) : lW L xs 909 i σ := by
  obtain ⟨σ1, σ2, h1, h2, h3⟩ := l_pair h (x_even 57 h.1 h.2.2 (xs (nI i + 1).toNatClampNeg)) (fun s g => y_even 57 g h.2.2 (xs (nI i + 1).toNatClampNeg)) (v_even h.2.2 _ )
  exact z_goS 80 [18] ⟨l_in hL hi 1 (by decide), _, σ1, h1, l_in hL hi 1 (by decide), _, σ2, h2, fun _ => l_nx (kk σ2 _ h3), fun q => absurd rfl q⟩
theorem l_c27 {L : Nat} {xs : Nat → Int32} {i : Nat} {σ : z_M} {B : zB} (hL : L ≤ 3072) (hi : i + 6 ≤ L) (h : lwP σ B) (kk : ∀ σ2 B2, lwP σ2 B2 → lW L xs 18 (i + 6) σ2) : lW L xs 932 i σ := by
  obtain ⟨σ1, σ2, h1, h2, h3⟩ := l_pair h (x_fours 57 h.1 h.2.2 ) (fun s g => y_fours 56 g h.2.2 ) (v_fours h.2.2 )
  exact z_goS 80 [18] ⟨_, σ1, h1, _, σ2, h2, fun _ => l_nx (kk σ2 _ h3), fun q => absurd rfl q⟩
theorem l_c28 {L : Nat} {xs : Nat → Int32} {i : Nat} {σ : z_M} {B : zB} (hL : L ≤ 3072) (hi : i + 6 ≤ L) (h : lwP σ B) (kk : ∀ σ2 B2, lwP σ2 B2 → lW L xs 18 (i + 6) σ2) : lW L xs 945 i σ := by
  obtain ⟨σ1, σ2, h1, h2, h3⟩ := l_pair h (x_twice 57 h.1 h.2.2 ) (fun s g => y_twice 56 g h.2.2 ) (v_twice h.2.2 )
  exact z_goS 80 [18] ⟨_, σ1, h1, _, σ2, h2, fun _ => l_nx (kk σ2 _ h3), fun q => absurd rfl q⟩
theorem l_c29 {L : Nat} {xs : Nat → Int32} {i : Nat} {σ : z_M} {B : zB} (hL : L ≤ 3072) (hi : i + 6 ≤ L) (h : lwP σ B) (kk : ∀ σ2 B2, lwP σ2 B2 → lW L xs 18 (i + 6) σ2) : lW L xs 958 i σ := by
  obtain ⟨σ1, σ2, h1, h2, h3⟩ := l_pair h (x_walked 57 h.1 h.2.2 0) (fun s g => y_walked 57 g h.2.2 0) (v_walked h.2.2 _ )
  obtain ⟨τ1, τ2, g1, g2, g3⟩ := l_pair h (x_walked 57 h.1 h.2.2 1) (fun s g => y_walked 57 g h.2.2 1) (v_walked h.2.2 _ )
  exact z_goS 90 [18] ⟨l_in hL hi 1 (by decide), fun c => ⟨_, σ1, h1, l_in hL hi 1 (by decide), fun c2 => ⟨_, σ2, h2, fun _ => l_nx (kk σ2 _ h3), fun q => absurd (rfl) q⟩, fun c2 => absurd c c2⟩, fun c => ⟨_, τ1, g1, l_in hL hi 1 (by decide), fun c2 => absurd c2 c, fun c2 => ⟨_, τ2, g2, fun _ => l_nx (kk τ2 _ g3), fun q => absurd (rfl) q⟩⟩⟩
theorem l_c30 {L : Nat} {xs : Nat → Int32} {i : Nat} {σ : z_M} {B : zB} (hL : L ≤ 3072) (hi : i + 6 ≤ L) (h : lwP σ B) (kk : ∀ σ2 B2, lwP σ2 B2 → lW L xs 18 (i + 6) σ2) : lW L xs 997 i σ := by
  obtain ⟨σ1, σ2, h1, h2, h3⟩ := l_pair h (x_trees 44 h.1 h.2.2 ) (fun s g => y_trees 55 g h.2.2 ) h.2.2
  exact z_goS 80 [18] ⟨_, σ1, h1, _, σ2, h2, fun _ => l_nx (kk σ2 _ h3), fun q => absurd rfl q⟩
theorem l_c31 {L : Nat} {xs : Nat → Int32} {i : Nat} {σ : z_M} {B : zB} (hL : L ≤ 3072) (hi : i + 6 ≤ L) (h : lwP σ B) (kk : ∀ σ2 B2, lwP σ2 B2 → lW L xs 18 (i + 6) σ2) : lW L xs 1010 i σ := by
  obtain ⟨σ1, σ2, h1, h2, h3⟩ := l_pair h (x_count 43 h.1 h.2.2 (xs (nI i + 1).toNatClampNeg)) (fun s g => y_count 55 g h.2.2 (xs (nI i + 1).toNatClampNeg)) (v_count h.2.2 _ )
  exact z_goS 80 [18] ⟨l_in hL hi 1 (by decide), _, σ1, h1, l_in hL hi 1 (by decide), _, σ2, h2, fun _ => l_nx (kk σ2 _ h3), fun q => absurd rfl q⟩
theorem l_c32 {L : Nat} {xs : Nat → Int32} {i : Nat} {σ : z_M} {B : zB} (hL : L ≤ 3072) (hi : i + 6 ≤ L) (h : lwP σ B) (kk : ∀ σ2 B2, lwP σ2 B2 → lW L xs 18 (i + 6) σ2) : lW L xs 1033 i σ := by
  obtain ⟨σ1, σ2, h1, h2, h3⟩ := l_pair h (x_faces 56 h.1 h.2.2 ) (fun s g => y_faces 57 g h.2.2 ) (v_faces h.2.2 )
  exact z_goS 80 [18] ⟨_, σ1, h1, _, σ2, h2, fun _ => l_nx (kk σ2 _ h3), fun q => absurd rfl q⟩
theorem l_c33 {L : Nat} {xs : Nat → Int32} {i : Nat} {σ : z_M} {B : zB} (hL : L ≤ 3072) (hi : i + 6 ≤ L) (h : lwP σ B) (kk : ∀ σ2 B2, lwP σ2 B2 → lW L xs 18 (i + 6) σ2) : lW L xs 1046 i σ := by
  obtain ⟨σ1, σ2, h1, h2, h3⟩ := l_pair h (x_face 56 h.1 h.2.2 (xs (nI i + 1).toNatClampNeg) 0) (fun s g => y_face 56 g h.2.2 (xs (nI i + 1).toNatClampNeg) 0) (v_face h.2.2 _ _ )
  obtain ⟨τ1, τ2, g1, g2, g3⟩ := l_pair h (x_face 56 h.1 h.2.2 (xs (nI i + 1).toNatClampNeg) 1) (fun s g => y_face 56 g h.2.2 (xs (nI i + 1).toNatClampNeg) 1) (v_face h.2.2 _ _ )
  exact z_goS 90 [18] ⟨l_in hL hi 1 (by decide), l_in hL hi 2 (by decide), fun c => ⟨_, σ1, h1, l_in hL hi 1 (by decide), l_in hL hi 2 (by decide), fun c2 => ⟨_, σ2, h2, fun _ => l_nx (kk σ2 _ h3), fun q => absurd (rfl) q⟩, fun c2 => absurd c c2⟩, fun c => ⟨_, τ1, g1, l_in hL hi 1 (by decide), l_in hL hi 2 (by decide), fun c2 => absurd c2 c, fun c2 => ⟨_, τ2, g2, fun _ => l_nx (kk τ2 _ g3), fun q => absurd (rfl) q⟩⟩⟩
theorem l_c34 {L : Nat} {xs : Nat → Int32} {i : Nat} {σ : z_M} {B : zB} (hL : L ≤ 3072) (hi : i + 6 ≤ L) (h : lwP σ B) (kk : ∀ σ2 B2, lwP σ2 B2 → lW L xs 18 (i + 6) σ2) : lW L xs 1095 i σ := by
  obtain ⟨σ1, σ2, h1, h2, h3⟩ := l_pair h (x_keep 52 h.1 h.2.2 (xs (nI i + 1).toNatClampNeg)) (fun s g => y_keep 52 g h.2.2 (xs (nI i + 1).toNatClampNeg)) (v_keep h.2.2 _ )
  exact z_goS 80 [18] ⟨l_in hL hi 1 (by decide), _, σ1, h1, l_in hL hi 1 (by decide), _, σ2, h2, fun _ => l_nx (kk σ2 _ h3), fun q => absurd rfl q⟩
theorem l_c35 {L : Nat} {xs : Nat → Int32} {i : Nat} {σ : z_M} {B : zB} (hL : L ≤ 3072) (hi : i + 6 ≤ L) (h : lwP σ B) (kk : ∀ σ2 B2, lwP σ2 B2 → lW L xs 18 (i + 6) σ2) : lW L xs 1118 i σ := by
  obtain ⟨σ1, σ2, h1, h2, h3⟩ := l_pair h (x_bring 55 h.1 h.2.2 (xs (nI i + 1).toNatClampNeg)) (fun s g => y_bring 55 g h.2.2 (xs (nI i + 1).toNatClampNeg)) (v_bring h.2.2 _ )
  exact z_goS 80 [18] ⟨l_in hL hi 1 (by decide), _, σ1, h1, l_in hL hi 1 (by decide), _, σ2, h2, fun _ => l_nx (kk σ2 _ h3), fun q => absurd rfl q⟩
theorem l_c36 {L : Nat} {xs : Nat → Int32} {i : Nat} {σ : z_M} {B : zB} (hL : L ≤ 3072) (hi : i + 6 ≤ L) (h : lwP σ B) (kk : ∀ σ2 B2, lwP σ2 B2 → lW L xs 18 (i + 6) σ2) : lW L xs 1141 i σ := by
  obtain ⟨σ1, σ2, h1, h2, h3⟩ := l_pair h (x_add 55 h.1 h.2.2 (xs (nI i + 1).toNatClampNeg)) (fun s g => y_add 55 g h.2.2 (xs (nI i + 1).toNatClampNeg)) (v_add h.2.2 _ )
  exact z_goS 80 [18] ⟨l_in hL hi 1 (by decide), _, σ1, h1, l_in hL hi 1 (by decide), _, σ2, h2, fun _ => l_nx (kk σ2 _ h3), fun q => absurd rfl q⟩
theorem l_c37 {L : Nat} {xs : Nat → Int32} {i : Nat} {σ : z_M} {B : zB} (hL : L ≤ 3072) (hi : i + 6 ≤ L) (h : lwP σ B) (kk : ∀ σ2 B2, lwP σ2 B2 → lW L xs 18 (i + 6) σ2) : lW L xs 1164 i σ := by
  obtain ⟨σ1, σ2, h1, h2, h3⟩ := l_pair h (x_times 55 h.1 h.2.2 (xs (nI i + 1).toNatClampNeg)) (fun s g => y_times 55 g h.2.2 (xs (nI i + 1).toNatClampNeg)) (v_times h.2.2 _ )
  exact z_goS 80 [18] ⟨l_in hL hi 1 (by decide), _, σ1, h1, l_in hL hi 1 (by decide), _, σ2, h2, fun _ => l_nx (kk σ2 _ h3), fun q => absurd rfl q⟩
theorem l_c38 {L : Nat} {xs : Nat → Int32} {i : Nat} {σ : z_M} {B : zB} (hL : L ≤ 3072) (hi : i + 6 ≤ L) (h : lwP σ B) (kk : ∀ σ2 B2, lwP σ2 B2 → lW L xs 18 (i + 6) σ2) : lW L xs 1187 i σ := by
  obtain ⟨σ1, σ2, h1, h2, h3⟩ := l_pair h (x_as 55 h.1  (xs (nI i + 1).toNatClampNeg) (xs (nI i + 2).toNatClampNeg)) (fun s g => y_as 55 g h.2.2 (xs (nI i + 1).toNatClampNeg) (xs (nI i + 2).toNatClampNeg)) (v_as h.2.2 _ _ )
  exact z_goS 80 [18] ⟨l_in hL hi 1 (by decide), l_in hL hi 2 (by decide), _, σ1, h1, l_in hL hi 1 (by decide), l_in hL hi 2 (by decide), _, σ2, h2, fun _ => l_nx (kk σ2 _ h3), fun q => absurd rfl q⟩
theorem l_c39 {L : Nat} {xs : Nat → Int32} {i : Nat} {σ : z_M} {B : zB} (hL : L ≤ 3072) (hi : i + 6 ≤ L) (h : lwP σ B) (kk : ∀ σ2 B2, lwP σ2 B2 → lW L xs 18 (i + 6) σ2) : lW L xs 1220 i σ := by
  obtain ⟨σ1, σ2, h1, h2, h3⟩ := l_pair h (x_told 55 h.1  (xs (nI i + 1).toNatClampNeg)) (fun s g => y_told 55 g  (xs (nI i + 1).toNatClampNeg)) (v_told h.2.2 _ )
  exact z_goS 80 [18] ⟨l_in hL hi 1 (by decide), _, σ1, h1, l_in hL hi 1 (by decide), _, σ2, h2, fun _ => l_nx (kk σ2 _ h3), fun q => absurd rfl q⟩
