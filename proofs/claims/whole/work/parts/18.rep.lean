/-! the graph of a net, its sums over sets of roads; what both sides represent -/
def gP (N : zN) : Nat := (nP N).toNatClampNeg
def gR (N : zN) : Nat := (nR N).toNatClampNeg
def gs (N : zN) (i : Nat) : Nat := (nS N i).toNatClampNeg
def ge (N : zN) (i : Nat) : Nat := (nE N i).toNatClampNeg
/-- labels of posts by the first n roads of a set: s's label becomes e's -/
def lb (s e : Nat → Nat) (S : Nat) : Nat → Nat → Nat
  | 0 => fun p => p
  | n + 1 => fun p => if S.testBit n = true ∧ lb s e S n p = lb s e S n (s n) then lb s e S n (e n) else lb s e S n p
/-- how many of the first n roads of a set join two pieces -/
def mg (s e : Nat → Nat) (S : Nat) : Nat → Nat
  | 0 => 0
  | n + 1 => mg s e S n + (if S.testBit n = true ∧ lb s e S n (s n) ≠ lb s e S n (e n) then 1 else 0)
def bc (S : Nat) : Nat → Nat
  | 0 => 0
  | n + 1 => bc S n + (if S.testBit n = true then 1 else 0)
def bsum (f : Nat → Int) : Nat → Int
  | 0 => 0
  | n + 1 => bsum f n + f n
def sgn (n : Nat) : Int := if n % 2 = 0 then 1 else -1
/-- number i of the flow poly, of the colour poly, and forests with i pieces -/
def fpo (P R : Nat) (s e : Nat → Nat) (i : Nat) : Int := bsum (fun S => if bc S R - mg s e S R = i then sgn (R - bc S R) else 0) (2 ^ R)
def cpo (P R : Nat) (s e : Nat → Nat) (i : Nat) : Int := bsum (fun S => if P - mg s e S R = i then sgn (bc S R) else 0) (2 ^ R)
def fos (P R : Nat) (s e : Nat → Nat) (i : Nat) : Int := bsum (fun S => if bc S R = mg s e S R ∧ P - mg s e S R = i then 1 else 0) (2 ^ R)
def svC (σ : z_M) (N : zN) : Prop := σ.1 0 9 = 0 ∨ (σ.1 0 9 = 1 ∧ (∀ i, i < 11 → σ.1 15 i = Int32.ofInt (fpo (gP N) (gR N) (gs N) (ge N) i) ∧ σ.1 16 i = Int32.ofInt (cpo (gP N) (gR N) (gs N) (ge N) i)) ∧ ∀ i, i < 7 → σ.1 17 i = Int32.ofInt (fos (gP N) (gR N) (gs N) (ge N) i))
/-- a slot: kind (-1: empty), group, roads, numbers -/
def slC (σ : z_M) (sl : Nat → Nat → Int32) : Prop := ∀ j, j < 4 → (sl j 0 = -1 ∧ σ.1 (37 + j) 0 = 0) ∨ (0 ≤ sl j 0 ∧ σ.1 (37 + j) 0 = 1 ∧ σ.1 (37 + j) 3 = sl j 0 ∧ σ.1 (37 + j) 2 = sl j 1 ∧ σ.1 (37 + j) 1 = sl j 2 ∧ ∀ i, i < 10 → nI i < sl j 2 → σ.1 (41 + j) i = sl j (3 + i))
def slD (σ : z_M) (sl : Nat → Nat → Int32) : Prop := ∀ j, j < 4 → σ.1 59 j = sl j 0 ∧ (0 ≤ sl j 0 → σ.1 60 j = sl j 1 ∧ σ.1 61 j = sl j 2 ∧ ∀ i, i < 10 → nI i < sl j 2 → σ.1 62 (10 * j + i) = sl j (3 + i))
/-- a sheet: bits, size, numbers -/
def shC (σ : z_M) (sh : Nat → Nat → Int32) : Prop := ∀ j, j < 4 → σ.1 (45 + j) 0 = sh j 0 ∧ σ.1 (45 + j) 1 = sh j 1 ∧ ∀ i, i < 24 → σ.1 (49 + j) i = sh j (2 + i)
def shD (σ : z_M) (sh : Nat → Nat → Int32) : Prop := ∀ j, j < 4 → σ.1 63 j = sh j 0 ∧ σ.1 64 j = sh j 1 ∧ ∀ i, i < 24 → σ.1 65 (24 * j + i) = sh j (2 + i)
abbrev zB : Type := zN × (Nat × (Nat → zN)) × (Nat → Nat → Int32) × (Nat → Nat → Int32) × Int32
def RepC (σ : z_M) (B : zB) : Prop := netC σ B.1 ∧ pastC σ B.2.1 ∧ slC σ B.2.2.1 ∧ shC σ B.2.2.2.1 ∧ σ.1 0 10 = B.2.2.2.2 ∧ svC σ B.1
def RepD (σ : z_M) (B : zB) : Prop := netD σ B.1 ∧ pastD σ B.2.1 ∧ slD σ B.2.2.1 ∧ shD σ B.2.2.2.1 ∧ σ.1 53 16 = B.2.2.2.2
/-- a good net -/
def NV (N : zN) : Prop := ∃ P R G : Nat, nP N = nI P ∧ P ≤ 6 ∧ nR N = nI R ∧ R ≤ 10 ∧ nG N = nI G ∧ (G = 0 ∨ (2 ≤ G ∧ G ≤ 12)) ∧ ∀ i, i < R → (∃ a, a < P ∧ nS N i = nI a) ∧ (∃ b, b < P ∧ nE N i = nI b) ∧ -100 ≤ (nV N i).toInt ∧ (nV N i).toInt ≤ 100
def SV (sl : Nat → Int32) : Prop := sl 0 = -1 ∨ ((sl 0 = 0 ∨ sl 0 = 1 ∨ sl 0 = 2 ∨ sl 0 = 3) ∧ ∃ G R : Nat, sl 1 = nI G ∧ (G = 0 ∨ (2 ≤ G ∧ G ≤ 12)) ∧ sl 2 = nI R ∧ R ≤ 10 ∧ ∀ i, i < R → -100 ≤ (sl (3 + i)).toInt ∧ (sl (3 + i)).toInt ≤ 100)
def HV (sh : Nat → Int32) : Prop := (sh 0 = 0 ∨ sh 0 = 8 ∨ sh 0 = 16 ∨ sh 0 = 32) ∧ ∃ n : Nat, sh 1 = nI n ∧ n ≤ 24
def VB (B : zB) : Prop := NV B.1 ∧ B.2.1.1 ≤ 25 ∧ (∀ j, j < B.2.1.1 → NV (B.2.1.2 j)) ∧ (∀ j, j < 4 → SV (B.2.2.1 j)) ∧ ∀ j, j < 4 → HV (B.2.2.2.1 j)
def kC (σ σ' : z_M) : Prop := ∀ c, 53 ≤ c → σ'.1 c = σ.1 c
def kD (σ σ' : z_M) : Prop := (∀ c, c < 53 → σ'.1 c = σ.1 c) ∧ σ'.2 = σ.2
theorem kC.rf {σ : z_M} : kC σ σ := fun _ _ => rfl
theorem kD.rf {σ : z_M} : kD σ σ := ⟨fun _ _ => rfl, rfl⟩
theorem kC.tr {σ σ' σ'' : z_M} (h : kC σ σ') (h2 : kC σ' σ'') : kC σ σ'' := fun c hc => (h2 c hc).trans (h c hc)
theorem kD.tr {σ σ' σ'' : z_M} (h : kD σ σ') (h2 : kD σ' σ'') : kD σ σ'' := ⟨fun c hc => (h2.1 c hc).trans (h.1 c hc), h2.2.trans h.2⟩
theorem fr.kC {cs : List Nat} {σ σ' : z_M} (h : fr cs σ σ') (hc : ∀ c ∈ cs, c < 53) : kC σ σ' := fun c hc2 => h.1 c (fun q => by have := hc c q; omega)
theorem fr.kD {cs : List Nat} {σ σ' : z_M} (h : fr cs σ σ') (hc : ∀ c ∈ cs, 53 ≤ c) : kD σ σ' := ⟨fun c hc2 => h.1 c (fun q => by have := hc c q; omega), h.2 (fun q => by have := hc 27 q; omega)⟩
def oTell (f : Int32) (B : zB) : Int32 × zB := (f, B.1, B.2.1, B.2.2.1, B.2.2.2.1, B.2.2.2.2 + 1)
def oAct (r : Int32) (N' : zN) (B : zB) : Int32 × zB := (r, N', pu B.2.1 B.1, B.2.2.1, B.2.2.2.1, B.2.2.2.2)
def opC (d M : Nat) (as : List Value) (σ : z_M) (o : Int32 × zB) : Prop := ∃ σ', z_call d M as σ (some (.int o.1)) σ' ∧ RepC σ' o.2 ∧ kC σ σ'
def opD (d M : Nat) (as : List Value) (σ : z_M) (o : Int32 × zB) : Prop := ∃ σ', z_call d M as σ (some (.int o.1)) σ' ∧ RepD σ' o.2 ∧ kD σ σ'
abbrev pC (σ : z_M) (o : Int32 × zB) : Option Value → z_M → Prop := fun r s => r = some (.int o.1) ∧ RepC s o.2 ∧ kC σ s
abbrev pD (σ : z_M) (o : Int32 × zB) : Option Value → z_M → Prop := fun r s => r = some (.int o.1) ∧ RepD s o.2 ∧ kD σ s
theorem z_metC {d M : Nat} {as : List Value} {σ : z_M} {o : Int32 × zB} (h : z_met d M as σ (pC σ o)) : opC (d + 1) M as σ o := by
  obtain ⟨r, σ', h1, rfl, h2, h3⟩ := z_metx h
  exact ⟨σ', h1, h2, h3⟩
theorem z_metD {d M : Nat} {as : List Value} {σ : z_M} {o : Int32 × zB} (h : z_met d M as σ (pD σ o)) : opD (d + 1) M as σ o := by
  obtain ⟨r, σ', h1, rfl, h2, h3⟩ := z_metx h
  exact ⟨σ', h1, h2, h3⟩
theorem netD.fr {σ σ' : z_M} {N : zN} (h : netD σ N) (h1 : σ'.1 53 0 = σ.1 53 0) (h1' : σ'.1 53 1 = σ.1 53 1) (h1'' : σ'.1 53 2 = σ.1 53 2) (h2 : σ'.1 54 = σ.1 54) (h3 : σ'.1 55 = σ.1 55) (h4 : σ'.1 56 = σ.1 56) (h5 : σ'.1 57 = σ.1 57) : netD σ' N := by
  unfold netD
  rw [h1, h1', h1'', h2, h3, h4, h5]
  exact h
theorem pastD.fr {σ σ' : z_M} {p : Nat × (Nat → zN)} (h : pastD σ p) (h1 : σ'.1 53 7 = σ.1 53 7) (h2 : σ'.1 58 = σ.1 58) : pastD σ' p := ⟨h.1, by rw [h1]; exact h.2.1, fun j hj => snD_keep (h.2.2 j hj) (fun k _ => by rw [h2])⟩
theorem slC.fr {σ σ' : z_M} {sl : Nat → Nat → Int32} (h : slC σ sl) (hf : ∀ c, 37 ≤ c → c < 45 → σ'.1 c = σ.1 c) : slC σ' sl := by
  intro j hj
  rw [hf (37 + j) (by omega) (by omega), hf (41 + j) (by omega) (by omega)]
  exact h j hj
theorem shC.fr {σ σ' : z_M} {sh : Nat → Nat → Int32} (h : shC σ sh) (hf : ∀ c, 45 ≤ c → c < 53 → σ'.1 c = σ.1 c) : shC σ' sh := by
  intro j hj
  rw [hf (45 + j) (by omega) (by omega), hf (49 + j) (by omega) (by omega)]
  exact h j hj
theorem slD.fr {σ σ' : z_M} {sl : Nat → Nat → Int32} (h : slD σ sl) (h1 : σ'.1 59 = σ.1 59) (h2 : σ'.1 60 = σ.1 60) (h3 : σ'.1 61 = σ.1 61) (h4 : σ'.1 62 = σ.1 62) : slD σ' sl := by
  unfold slD
  rw [h1, h2, h3, h4]
  exact h
theorem shD.fr {σ σ' : z_M} {sh : Nat → Nat → Int32} (h : shD σ sh) (h1 : σ'.1 63 = σ.1 63) (h2 : σ'.1 64 = σ.1 64) (h3 : σ'.1 65 = σ.1 65) : shD σ' sh := by
  unfold shD
  rw [h1, h2, h3]
  exact h
/-- a call that touches scratch cells alone -/
theorem RepC.scr {cs : List Nat} {σ σ' : z_M} {B : zB} (h : RepC σ B) (hf : fr cs σ σ') (hc : ∀ c ∈ cs, (10 ≤ c ∧ c < 14) ∨ (18 ≤ c ∧ c < 37)) : RepC σ' B := by
  have k : ∀ c, ¬ ((10 ≤ c ∧ c < 14) ∨ (18 ≤ c ∧ c < 37)) → σ'.1 c = σ.1 c := fun c hn => hf.1 c (fun q => hn (hc c q))
  obtain ⟨h1, h2, h3, h4, h5, h6⟩ := h
  refine ⟨h1.fr (k 1 (by omega)) (k 2 (by omega)) (k 3 (by omega)) (k 4 (by omega)) (k 5 (by omega)), h2.fr (k 6 (by omega)) (k 7 (by omega)), h3.fr (fun c _ _ => k c (by omega)), h4.fr (fun c _ _ => k c (by omega)), by rw [k 0 (by omega)]; exact h5, ?_⟩
  unfold svC
  rw [k 0 (by omega), k 15 (by omega), k 16 (by omega), k 17 (by omega)]
  exact h6
theorem RepD.scr {cs : List Nat} {σ σ' : z_M} {B : zB} (h : RepD σ B) (hf : fr cs σ σ') (hc : ∀ c ∈ cs, 66 ≤ c) : RepD σ' B := by
  have k : ∀ c, c < 66 → σ'.1 c = σ.1 c := fun c hn => hf.1 c (fun q => by have := hc c q; omega)
  obtain ⟨h1, h2, h3, h4, h5⟩ := h
  have k53 := k 53 (by omega)
  exact ⟨h1.fr (by rw [k53]) (by rw [k53]) (by rw [k53]) (k 54 (by omega)) (k 55 (by omega)) (k 56 (by omega)) (k 57 (by omega)), h2.fr (by rw [k53]) (k 58 (by omega)), h3.fr (k 59 (by omega)) (k 60 (by omega)) (k 61 (by omega)) (k 62 (by omega)), h4.fr (k 63 (by omega)) (k 64 (by omega)) (k 65 (by omega)), by rw [k53]; exact h5⟩
theorem c_tell (d : Nat) {σ : z_M} {B : zB} (h : RepC σ B) (f : Int32) : opC (d + 1) k_RF_tell [.ref 0, .int f] σ (oTell f B) := by
  refine z_metC ⟨rfl, z_go 20 [] ⟨rfl, ?_, fun c hc => z_wr_ne (by omega)⟩⟩
  obtain ⟨h1, h2, h3, h4, h5, h6⟩ := h
  refine ⟨h1.fr (z_wr_ne (by decide)) (z_wr_ne (by decide)) (z_wr_ne (by decide)) (z_wr_ne (by decide)) (z_wr_ne (by decide)), h2.fr (z_wr_ne (by decide)) (z_wr_ne (by decide)), h3.fr (fun c _ _ => z_wr_ne (by omega)), h4.fr (fun c _ _ => z_wr_ne (by omega)), ?_, ?_⟩
  · rw [wr_s, h5]
    rfl
  · unfold svC
    rw [wr_k (by decide), z_wr_ne (by decide), z_wr_ne (by decide), z_wr_ne (by decide)]
    exact h6
theorem c_finding (d : Nat) {σ : z_M} {B : zB} (h : RepD σ B) (f : Int32) : opD (d + 1) k_Md_finding [.ref 53, .int f] σ (oTell f B) := by
  refine z_metD ⟨rfl, z_go 20 [] ⟨rfl, ?_, ⟨fun c hc => z_wr_ne (by omega), rfl⟩⟩⟩
  obtain ⟨h1, h2, h3, h4, h5⟩ := h
  refine ⟨h1.fr (wr_k (by decide)) (wr_k (by decide)) (wr_k (by decide)) (z_wr_ne (by decide)) (z_wr_ne (by decide)) (z_wr_ne (by decide)) (z_wr_ne (by decide)), h2.fr (wr_k (by decide)) (z_wr_ne (by decide)), h3.fr (z_wr_ne (by decide)) (z_wr_ne (by decide)) (z_wr_ne (by decide)) (z_wr_ne (by decide)), h4.fr (z_wr_ne (by decide)) (z_wr_ne (by decide)) (z_wr_ne (by decide)), ?_⟩
  rw [wr_s, h5]
  rfl
/-- an act that is done: the past grows, then the net changes -/
theorem c_beginB (d : Nat) {σ : z_M} {B : zB} (h : RepC σ B) : ∃ σ1, z_call (d + 3) k_RF_begin [.ref 0] σ none σ1 ∧ netC σ1 B.1 ∧ slC σ1 B.2.2.1 ∧ (∀ c, c ≠ 0 → c ≠ 6 → c ≠ 7 → σ1.1 c = σ.1 c) ∧ ∀ (σ2 : z_M) (N' : zN) (r : Int32), fr [1, 2, 3, 4, 5] σ1 σ2 → netC σ2 N' → RepC σ2 (oAct r N' B).2 ∧ kC σ σ2 := by
  obtain ⟨h1, h2, h3, h4, h5, h6⟩ := h
  obtain ⟨σ1, hc, hf, hp, h9, hk⟩ := c_begin d σ B.1 B.2.1 h1 h2
  have k : ∀ c, c ≠ 0 → c ≠ 6 → c ≠ 7 → σ1.1 c = σ.1 c := fun c a b e => hf.1 c (by simp [a, b, e])
  have hs := h3.fr (σ' := σ1) (fun c _ _ => k c (by omega) (by omega) (by omega))
  refine ⟨σ1, hc, h1.fr (k 1 (by decide) (by decide) (by decide)) (k 2 (by decide) (by decide) (by decide)) (k 3 (by decide) (by decide) (by decide)) (k 4 (by decide) (by decide) (by decide)) (k 5 (by decide) (by decide) (by decide)), hs, k, fun σ2 N' r hf2 hN => ⟨⟨hN, hp.fr (hf2.1 6 (by decide)) (hf2.1 7 (by decide)), hs.fr (fun c _ _ => hf2.1 c (by simp; omega)), h4.fr (fun c _ _ => by rw [hf2.1 c (by simp; omega), k c (by omega) (by omega) (by omega)]), ?_, ?_⟩, fun c hc => by rw [hf2.1 c (by simp; omega), k c (by omega) (by omega) (by omega)]⟩⟩
  · rw [hf2.at (by decide), hk 10 (by decide)]
    exact h5
  · left
    rw [hf2.at (by decide)]
    exact h9
theorem c_keepB (d : Nat) {σ : z_M} {B : zB} (h : RepD σ B) : ∃ σ1, z_call (d + 2) k_Md_keepNet [.ref 53] σ none σ1 ∧ netD σ1 B.1 ∧ slD σ1 B.2.2.1 ∧ (∀ k, k ≠ 7 → σ1.1 53 k = σ.1 53 k) ∧ (∀ c, c ≠ 53 → c ≠ 58 → σ1.1 c = σ.1 c) ∧ ∀ (σ2 : z_M) (N' : zN) (r : Int32), fr [53, 54, 55, 56, 57] σ1 σ2 → (∀ k, 2 < k → σ2.1 53 k = σ1.1 53 k) → netD σ2 N' → RepD σ2 (oAct r N' B).2 ∧ kD σ σ2 := by
  obtain ⟨h1, h2, h3, h4, h5⟩ := h
  obtain ⟨σ1, hc, hf, hk, hp⟩ := c_keepNet d σ B.1 B.2.1 h1 h2
  have k : ∀ c, c ≠ 53 → c ≠ 58 → σ1.1 c = σ.1 c := fun c a b => hf.1 c (by simp [a, b])
  have hs := h3.fr (σ' := σ1) (k 59 (by decide) (by decide)) (k 60 (by decide) (by decide)) (k 61 (by decide) (by decide)) (k 62 (by decide) (by decide))
  refine ⟨σ1, hc, h1.fr (hk 0 (by decide)) (hk 1 (by decide)) (hk 2 (by decide)) (k 54 (by decide) (by decide)) (k 55 (by decide) (by decide)) (k 56 (by decide) (by decide)) (k 57 (by decide) (by decide)), hs, hk, k, fun σ2 N' r hf2 hk2 hN => ⟨⟨hN, hp.fr (hk2 7 (by decide)) (hf2.1 58 (by decide)), hs.fr (hf2.1 59 (by decide)) (hf2.1 60 (by decide)) (hf2.1 61 (by decide)) (hf2.1 62 (by decide)), h4.fr (by rw [hf2.1 63 (by decide), k 63 (by decide) (by decide)]) (by rw [hf2.1 64 (by decide), k 64 (by decide) (by decide)]) (by rw [hf2.1 65 (by decide), k 65 (by decide) (by decide)]), ?_⟩, ?_⟩⟩
  · rw [hk2 16 (by decide), hk 16 (by decide)]
    exact h5
  · exact ⟨fun c hc => by rw [hf2.1 c (by simp; omega), k c (by omega) (by omega)], by rw [hf2.2 (by decide), hf.2 (by decide)]⟩
theorem VB.tell {B : zB} (h : VB B) (f : Int32) : VB (oTell f B).2 := h
theorem VB.act {B : zB} (h : VB B) (r : Int32) {N' : zN} (hN : NV N') : VB (oAct r N' B).2 := by
  obtain ⟨h1, h2, h3, h4⟩ := h
  refine ⟨hN, ?_, fun j hj => ?_, h4⟩
  · show (pu B.2.1 B.1).1 ≤ 25
    unfold pu
    split <;> simp <;> omega
  · show NV ((pu B.2.1 B.1).2 j)
    have hj : j < (pu B.2.1 B.1).1 := hj
    unfold pu at hj ⊢
    split at hj
    · rename_i hc
      simp only [hc, if_true] at hj ⊢
      by_cases q : j = B.2.1.1
      · rw [if_pos q]; exact h1
      · rw [if_neg q]; exact h3 j (by omega)
    · rename_i hc
      simp only [hc, if_false] at hj ⊢
      by_cases q : j = 24
      · rw [if_pos q]; exact h1
      · rw [if_neg q]; exact h3 (j + 1) (by omega)
