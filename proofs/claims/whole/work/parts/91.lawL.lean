/-! the law's loop -/
theorem l_ge {L i : Nat} (hL : L ≤ 3072) (hi : i ≤ L) : (Int32.ofNat L - 6 < nI i) = (L < i + 6) := by
  apply propext
  by_cases c : 6 ≤ L
  · obtain ⟨m, rfl⟩ : ∃ m, L = m + 6 := ⟨L - 6, by omega⟩
    have e : Int32.ofNat (m + 6) - 6 = nI m := by
      have h1 : nI m + 6 = nI (m + 6) := nI_add m 6
      show nI (m + 6) - 6 = nI m
      rw [← h1]
      exact Int32.add_sub_cancel _ _
    rw [e, n_lt (by omega) (by omega)]
    omega
  · refine ⟨fun _ => by omega, fun _ => ?_⟩
    have h0 : nI 0 ≤ nI i := by rw [n_le (by omega) (by omega)]; omega
    refine Int32.lt_of_lt_of_le ?_ h0
    rcases (show L = 0 ∨ L = 1 ∨ L = 2 ∨ L = 3 ∨ L = 4 ∨ L = 5 by omega) with rfl | rfl | rfl | rfl | rfl | rfl <;> decide
set_option maxHeartbeats 4000000 in
theorem l_step {L : Nat} {xs : Nat → Int32} {i : Nat} {σ : z_M} {B : zB} (hL : L ≤ 3072) (hi : i ≤ L) (h : lwP σ B) (kk : i + 6 ≤ L → ∀ σ2 B2, lwP σ2 B2 → lW L xs 18 (i + 6) σ2) : lW L xs 18 i σ := by
  refine z_goS 60 [18, 208, 221, 234, 267, 300, 323, 346, 369, 402, 415, 458, 501, 564, 587, 610, 643, 666, 679, 692, 715, 738, 751, 800, 823, 846, 896, 909, 932, 945, 958, 997, 1010, 1033, 1046, 1095, 1118, 1141, 1164, 1187, 1220, 1243] ⟨fun _ => ⟨Or.inr rfl, rfl⟩, fun q => ?_⟩
  rw [l_ge hL hi] at q
  have hi : i + 6 ≤ L := by omega
  have kk := kk hi
  exact ⟨vin (by omega) (by omega), fun _ => l_c0 hL hi h kk, fun _ => l_c1 hL hi h kk, fun _ => l_c2 hL hi h kk, fun _ => l_c3 hL hi h kk, fun _ => l_c4 hL hi h kk, fun _ => l_c5 hL hi h kk, fun _ => l_c6 hL hi h kk, fun _ => l_c7 hL hi h kk, fun _ => l_c8 hL hi h kk, fun _ => l_c9 hL hi h kk, fun _ => l_c10 hL hi h kk, fun _ => l_c11 hL hi h kk, fun _ => l_c12 hL hi h kk, fun _ => l_c13 hL hi h kk, fun _ => l_c14 hL hi h kk, fun _ => l_c15 hL hi h kk, fun _ => l_c16 hL hi h kk, fun _ => l_c17 hL hi h kk, fun _ => l_c18 hL hi h kk, fun _ => l_c19 hL hi h kk, fun _ => l_c20 hL hi h kk, fun _ => l_c21 hL hi h kk, fun _ => l_c22 hL hi h kk, fun _ => l_c23 hL hi h kk, fun _ => l_c24 hL hi h kk, fun _ => l_c25 hL hi h kk, fun _ => l_c26 hL hi h kk, fun _ => l_c27 hL hi h kk, fun _ => l_c28 hL hi h kk, fun _ => l_c29 hL hi h kk, fun _ => l_c30 hL hi h kk, fun _ => l_c31 hL hi h kk, fun _ => l_c32 hL hi h kk, fun _ => l_c33 hL hi h kk, fun _ => l_c34 hL hi h kk, fun _ => l_c35 hL hi h kk, fun _ => l_c36 hL hi h kk, fun _ => l_c37 hL hi h kk, fun _ => l_c38 hL hi h kk, fun _ => l_c39 hL hi h kk, fun _ => z_goS 5 [18] (l_nx (kk σ B h))⟩
theorem l_loop {L : Nat} {xs : Nat → Int32} (hL : L ≤ 3072) : ∀ (n i : Nat) (σ : z_M) (B : zB), L < i + n → i ≤ L → lwP σ B → lW L xs 18 i σ := by
  intro n
  induction n with
  | zero => intro i σ B h1 h2; omega
  | succ n ih =>
    intro i σ B h1 h2 h
    exact l_step hL h2 h (fun h6 σ2 B2 h3 => ih (i + 6) σ2 B2 (by omega) h6 h3)
