/-! Integer.bitCount below 2^20; face of the component -/
theorem i_usm : ∀ k, k < 32 → ((nI k).toUInt32 &&& Int32.toUInt32 31).toBitVec % 32 = BitVec.ofNat 32 k := by decide +kernel
theorem i_ush {S k : Nat} (hS : S < 2147483648) (hk : k < 32) : ((nI S).toUInt32 >>> ((nI k).toUInt32 &&& Int32.toUInt32 31)).toInt32 = nI (S >>> k) := by
  apply Int32.toBitVec_inj.mp
  show ((nI S).toUInt32 >>> ((nI k).toUInt32 &&& Int32.toUInt32 31)).toBitVec = BitVec.ofNat 32 (S >>> k)
  rw [UInt32.toBitVec_shiftRight, i_usm k hk]
  show BitVec.ofNat 32 S >>> BitVec.ofNat 32 k = BitVec.ofNat 32 (S >>> k)
  apply BitVec.eq_of_toNat_eq
  have h2 : S >>> k ≤ S := Nat.shiftRight_le S k
  rw [BitVec.ushiftRight_eq', BitVec.toNat_ushiftRight, BitVec.toNat_ofNat, BitVec.toNat_ofNat, BitVec.toNat_ofNat, Nat.mod_eq_of_lt (by omega), Nat.mod_eq_of_lt (by omega), Nat.mod_eq_of_lt (by omega)]
theorem cat_bit {l h j : Nat} (hl : l < 256) : (256 * h + l).testBit j = if j < 8 then l.testBit j else h.testBit (j - 8) := by
  have := Nat.testBit_two_pow_mul_add h (b := l) (i := 8) (by omega) j
  exact this
theorem and_cat {l h m u : Nat} (hl : l < 256) (hm : m < 256) : (256 * h + l) &&& (256 * u + m) = 256 * (h &&& u) + (l &&& m) := by
  have hlm : l &&& m < 256 := Nat.lt_of_le_of_lt Nat.and_le_left hl
  apply Nat.eq_of_testBit_eq
  intro j
  rw [Nat.testBit_and, cat_bit hl, cat_bit hm, cat_bit hlm]
  by_cases c : j < 8
  · rw [if_pos c, if_pos c, if_pos c, Nat.testBit_and]
  · rw [if_neg c, if_neg c, if_neg c, Nat.testBit_and]
theorem sh_cat {l h m u k : Nat} (hl : l < 256) (hk : k ≤ 8) (hm : m < 2 ^ (8 - k)) : ((256 * h + l) >>> k) &&& (256 * u + m) = 256 * ((h >>> k) &&& u) + ((l >>> k) &&& m) := by
  have hp8 : 2 ^ (8 - k) ≤ 2 ^ 8 := Nat.pow_le_pow_right (by omega) (by omega)
  have hm2 : m < 256 := by omega
  have hlm : (l >>> k) &&& m < 256 := Nat.lt_of_le_of_lt Nat.and_le_right hm2
  apply Nat.eq_of_testBit_eq
  intro j
  rw [Nat.testBit_and, Nat.testBit_shiftRight, cat_bit hl, cat_bit hm2, cat_bit hlm]
  by_cases c : j < 8
  · rw [if_pos c, if_pos c, Nat.testBit_and, Nat.testBit_shiftRight]
    by_cases c2 : k + j < 8
    · rw [if_pos c2]
    · have : m.testBit j = false := Nat.testBit_lt_two_pow (Nat.lt_of_lt_of_le hm (Nat.pow_le_pow_right (by omega) (by omega)))
      rw [this, Bool.and_false, Bool.and_false]
  · rw [if_neg c, if_neg c, if_neg (by omega), Nat.testBit_and, Nat.testBit_shiftRight, show k + j - 8 = k + (j - 8) by omega]
def bh1 (a : Nat) : Nat := a - ((a >>> 1) &&& 85)
def bh2 (a : Nat) : Nat := (bh1 a &&& 51) + ((bh1 a >>> 2) &&& 51)
theorem bh_ok : ∀ a, a < 256 → ((a >>> 1) &&& 85 ≤ a) ∧ bh1 a < 256 ∧ bh2 a % 16 ≤ 4 ∧ bh2 a / 16 ≤ 4 ∧ bh2 a % 16 + bh2 a / 16 = bc a 8 := by decide +kernel
theorem bc_cat {l h : Nat} (hl : l < 256) : ∀ n, bc (256 * h + l) (8 + n) = bc l 8 + bc h n
  | 0 => by
    have := (lmb (s := fun _ => 0) (e := fun _ => 0) (S := 256 * h + l) (S' := l) (n := 8) (fun i hi => by rw [cat_bit hl, if_pos hi])).2.2
    show bc (256 * h + l) 8 = bc l 8 + 0
    rw [this]
    rfl
  | n + 1 => by
    have k1 : bc (256 * h + l) (8 + (n + 1)) = bc (256 * h + l) (8 + n) + (if (256 * h + l).testBit (8 + n) = true then 1 else 0) := rfl
    have k2 : bc h (n + 1) = bc h n + (if h.testBit n = true then 1 else 0) := rfl
    have k3 : (256 * h + l).testBit (8 + n) = h.testBit n := by
      rw [cat_bit hl, if_neg (by omega), show 8 + n - 8 = n by omega]
    rw [k1, k2, k3, bc_cat hl n, Nat.add_assoc]
theorem swar_end {A B C : Nat} (ha : A ≤ 8) (hb : B ≤ 8) (hc : C ≤ 8) : (256 * (256 * C + B) + A + (256 * (256 * C + B) + A) / 2 ^ 8 + (256 * (256 * C + B) + A + (256 * (256 * C + B) + A) / 2 ^ 8) / 2 ^ 16) % 64 = A + (B + C) := by
  have e1 : (256 * (256 * C + B) + A) / 2 ^ 8 = 256 * C + B := by omega
  rw [e1]
  have e2 : (256 * (256 * C + B) + A + (256 * C + B)) / 2 ^ 16 = C := by omega
  rw [e2]
  omega
theorem swar {x : Nat} (hx : x < 1048576) : ∃ y w z : Nat, (x >>> 1) &&& 1431655765 ≤ x ∧ x - ((x >>> 1) &&& 1431655765) = y ∧ (y &&& 858993459) + ((y >>> 2) &&& 858993459) = w ∧ (w + (w >>> 4)) &&& 252645135 = z ∧ y < 16777216 ∧ w < 16777216 ∧ z < 16777216 ∧ (z + (z >>> 8) + ((z + (z >>> 8)) >>> 16)) &&& 63 = bc x 20 := by
  obtain ⟨a, b, c, rfl, ha, hb, hc⟩ : ∃ a b c, x = 256 * (256 * c + b) + a ∧ a < 256 ∧ b < 256 ∧ c < 16 := ⟨x % 256, x / 256 % 256, x / 65536, by omega, by omega, by omega, by omega⟩
  obtain ⟨a1, a2, a3, a4, a5⟩ := bh_ok a ha
  obtain ⟨b1, b2, b3, b4, b5⟩ := bh_ok b hb
  obtain ⟨c1, c2, c3, c4, c5⟩ := bh_ok c (by omega)
  have m5 : (1431655765 : Nat) = 256 * (256 * (256 * 85 + 85) + 85) + 85 := by decide
  have m3 : (858993459 : Nat) = 256 * (256 * (256 * 51 + 51) + 51) + 51 := by decide
  have mf : (252645135 : Nat) = 256 * (256 * (256 * 15 + 15) + 15) + 15 := by decide
  have hc0 : c = 256 * 0 + c := by omega
  have s1 : ((256 * (256 * c + b) + a) >>> 1) &&& 1431655765 = 256 * (256 * ((c >>> 1) &&& 85) + ((b >>> 1) &&& 85)) + ((a >>> 1) &&& 85) := by
    rw [m5, sh_cat ha (by omega) (by decide), sh_cat hb (by omega) (by decide)]
    have := sh_cat (l := c) (h := 0) (m := 85) (u := 85) (k := 1) (by omega) (by omega) (by decide)
    rw [← hc0] at this
    rw [this, Nat.zero_shiftRight, Nat.zero_and, Nat.mul_zero, Nat.zero_add]
  have ey : (256 * (256 * c + b) + a) - (256 * (256 * ((c >>> 1) &&& 85) + ((b >>> 1) &&& 85)) + ((a >>> 1) &&& 85)) = 256 * (256 * bh1 c + bh1 b) + bh1 a := by
    unfold bh1
    omega
  have hz0 : bh1 c = 256 * 0 + bh1 c := by omega
  have s2 : (256 * (256 * bh1 c + bh1 b) + bh1 a) &&& 858993459 = 256 * (256 * (bh1 c &&& 51) + (bh1 b &&& 51)) + (bh1 a &&& 51) := by
    rw [m3, and_cat a2 (by decide), and_cat b2 (by decide)]
    have := and_cat (l := bh1 c) (h := 0) (m := 51) (u := 51) c2 (by decide)
    rw [← hz0] at this
    rw [show (256 * 51 + 51 : Nat) = 256 * 51 + 51 from rfl, this, Nat.zero_and, Nat.mul_zero, Nat.zero_add]
  have s3 : ((256 * (256 * bh1 c + bh1 b) + bh1 a) >>> 2) &&& 858993459 = 256 * (256 * ((bh1 c >>> 2) &&& 51) + ((bh1 b >>> 2) &&& 51)) + ((bh1 a >>> 2) &&& 51) := by
    rw [m3, sh_cat a2 (by omega) (by decide), sh_cat b2 (by omega) (by decide)]
    have := sh_cat (l := bh1 c) (h := 0) (m := 51) (u := 51) (k := 2) c2 (by omega) (by decide)
    rw [← hz0] at this
    rw [this, Nat.zero_shiftRight, Nat.zero_and, Nat.mul_zero, Nat.zero_add]
  have ew : 256 * (256 * (bh1 c &&& 51) + (bh1 b &&& 51)) + (bh1 a &&& 51) + (256 * (256 * ((bh1 c >>> 2) &&& 51) + ((bh1 b >>> 2) &&& 51)) + ((bh1 a >>> 2) &&& 51)) = 256 * (256 * bh2 c + bh2 b) + bh2 a := by
    unfold bh2
    omega
  have ez : (256 * (256 * bh2 c + bh2 b) + bh2 a + ((256 * (256 * bh2 c + bh2 b) + bh2 a) >>> 4)) &&& 252645135 = 256 * (256 * bc c 8 + bc b 8) + bc a 8 := by
    rw [Nat.shiftRight_eq_div_pow]
    have e1 : 256 * (256 * bh2 c + bh2 b) + bh2 a + (256 * (256 * bh2 c + bh2 b) + bh2 a) / 2 ^ 4 = 256 * (256 * (256 * 0 + (16 * (bh2 c / 16) + bc c 8)) + (16 * (bh2 b / 16 + bh2 c % 16) + bc b 8)) + (16 * (bh2 a / 16 + bh2 b % 16) + bc a 8) := by
      omega
    have am : ∀ n : Nat, n &&& 15 = n % 16 := fun n => Nat.and_two_pow_sub_one_eq_mod n 4
    rw [e1, mf, and_cat (by omega) (by decide), and_cat (by omega) (by decide), and_cat (by omega) (by decide)]
    have md : ∀ x y : Nat, y ≤ 8 → (16 * x + y) % 16 = y := fun x y h => by omega
    have hA : bc a 8 ≤ 8 := bc_le a 8
    have hB : bc b 8 ≤ 8 := bc_le b 8
    have hC : bc c 8 ≤ 8 := bc_le c 8
    simp only [am]
    rw [md _ _ hA, md _ _ hB, md _ _ hC]
    clear s1 ey s2 s3 ew e1 m5 m3 mf
    omega
  refine ⟨_, _, _, ?_, rfl, rfl, rfl, ?_, ?_, ?_, ?_⟩
  · rw [s1]
    omega
  · rw [s1, ey]
    omega
  · rw [s1, ey, s2, s3, ew]
    omega
  · rw [s1, ey, s2, s3, ew, ez]
    omega
  · rw [s1, ey, s2, s3, ew, ez]
    have hbc : bc (256 * (256 * c + b) + a) 20 = bc a 8 + (bc b 8 + bc c 8) := by
      have k1 := bc_cat (l := a) (h := 256 * c + b) ha 16
      have k2 := bc_cat (l := b) (h := c) hb 8
      have k3 := bc_hi (S := 256 * (256 * c + b) + a) (R := 20) (by omega) 4
      rw [show 8 + 8 = 16 from rfl] at k2
      rw [k2] at k1
      rw [← k1, ← k3]
    have am : ∀ n : Nat, n &&& 63 = n % 64 := fun n => Nat.and_two_pow_sub_one_eq_mod n 6
    rw [hbc, am, Nat.shiftRight_eq_div_pow, Nat.shiftRight_eq_div_pow]
    exact swar_end (by omega) (by omega) (by omega)
theorem c_bitCount (d : Nat) (σ : z_M) {x : Nat} (hx : x < 1048576) : z_call (d + 1) k_Integer_bitCount [.int (nI x)] σ (some (.int (nI (bc x 20)))) σ := by
  obtain ⟨y, w, z, h1, h2, h3, h4, h5, h6, h7, h8⟩ := swar hx
  have sh : ∀ {S : Nat} (k : Nat), S < 2147483648 → k < 32 → ((nI S).toUInt32 >>> ((nI k).toUInt32 &&& (nI 31).toUInt32)).toInt32 = nI (S >>> k) := fun k hS hk => i_ush hS hk
  have z8 : z >>> 8 ≤ z := Nat.shiftRight_le z 8
  have w4 : w >>> 4 ≤ w := Nat.shiftRight_le w 4
  refine ⟨rfl, z_go 60 [] ⟨?_, rfl⟩⟩
  simp (disch := omega) only [nL, sh, i_and, i_sub, nI_add, h2, h3, h4, h8]
theorem bc_20 {x M : Nat} (h : x < 2 ^ M) (hM : M ≤ 20) : bc x 20 = bc x M := by
  have := bc_hi h (20 - M)
  rw [show M + (20 - M) = 20 by omega] at this
  exact this
noncomputable def sFace (r b : Int32) (B : zB) : Int32 × zB := if hasP (nR B.1) r = 0 then oTell (-1000001) B else (nI (plen (fcN B.1) (2 * r.toNatClampNeg + (if b = 0 then 0 else 1))), B)
theorem v_face {B : zB} (h : VB B) (r b : Int32) : VB (sFace r b B).2 := by
  unfold sFace
  split
  · exact h.tell _
  · exact h
theorem x_face (d : Nat) {σ : z_M} {B : zB} (h : RepC σ B) (hv : VB B) (r b : Int32) : opC (d + 4) k_RF_face [.ref 0, .int r, .int b] σ (sFace r b B) := by
  obtain ⟨P, R, eP, hP, egP, eR, hR, eg, hse⟩ := hv.1.nat
  obtain ⟨σt, ht, hRt, hkt⟩ := c_tell (d + 2) h (-1000001)
  obtain ⟨σ1, hc, hf, k1, k2⟩ := c_arrange d h.1 hv.1
  have hR1 := h.scr hf (by decide)
  have hk1 := hf.kC (by decide)
  have hR' : gR B.1 ≤ 10 := by omega
  obtain ⟨hF, hi⟩ := fc_ok hR'
  have ch := c_hasRoad (d + 2) σ r
  rw [h.1.2.1] at ch
  unfold sFace
  have key : ∀ e, e < 2 * gR B.1 → ∃ S, S < 1048576 ∧ z_call (d + 3) k_Layout_orbit [.ref 35, .int (nI e)] σ1 (some (.int (nI S))) σ1 ∧ bc S 20 = plen (fcN B.1) e := by
    intro e he
    obtain ⟨L, hL, hLM⟩ := isP_ex hF hi he
    have h20 : 2 ^ (2 * gR B.1) ≤ 2 ^ 20 := Nat.pow_le_pow_right (by omega) (by omega)
    have hos := osF_lt hF he L
    refine ⟨_, by omega, c_orbit (d + 2) hR' k1 he hL, ?_⟩
    rw [bc_20 hos (by omega), osF_bc hF hi he hL L (Nat.le_refl L), plen_eq hL]
  refine z_metC ⟨rfl, z_go 60 [] ⟨_, _, ch, fun q => ⟨σ1, hc, fun q2 => ?_, fun q2 => ?_⟩, fun q => ⟨_, σt, ht, ?_⟩⟩⟩
  · rw [if_neg q, if_pos q2]
    rw [eR] at q
    obtain ⟨j, hj, rfl⟩ := hasP_ne (by omega) q
    obtain ⟨S, hS, hcS, hb⟩ := key (2 * j) (by omega)
    have e2 : (2 : Int32) * nI j = nI (2 * j) := by
      show nI 2 * nI j = _
      rw [pk_mul]
    rw [← e2] at hcS
    refine ⟨_, _, hcS, _, _, c_bitCount (d + 2) σ1 hS, ?_, hR1, hk1⟩
    rw [hb, nc (by omega)]
    rfl
  · rw [if_neg q, if_neg q2]
    rw [eR] at q
    obtain ⟨j, hj, rfl⟩ := hasP_ne (by omega) q
    obtain ⟨S, hS, hcS, hb⟩ := key (2 * j + 1) (by omega)
    have e2 : (2 : Int32) * nI j + 1 = nI (2 * j + 1) := by
      show nI 2 * nI j + nI 1 = _
      rw [pk_mul, nI_add]
    rw [← e2] at hcS
    refine ⟨_, _, hcS, _, _, c_bitCount (d + 2) σ1 hS, ?_, hR1, hk1⟩
    rw [hb, nc (by omega)]
  · rw [if_pos q]
    exact ⟨rfl, hRt, hkt⟩
