/-! what is left: three posts against three; every net without a bridge -/
theorem seven {v : Nat → Nat} (hl : ∀ i, i < 7 → v i < 6) (hd : ∀ i j, i < j → j < 7 → v i ≠ v j) : False := php 6 v hl hd
theorem six {a b c x y z p : Nat} (ha : a < 6) (hb : b < 6) (hc : c < 6) (hx : x < 6) (hy : y < 6) (hz : z < 6) (hp : p < 6) (ab : a ≠ b) (ac : a ≠ c) (ax : a ≠ x) (ay : a ≠ y) (az : a ≠ z) (bc : b ≠ c) (bx : b ≠ x) (bY : b ≠ y) (bz : b ≠ z) (cx : c ≠ x) (cy : c ≠ y) (cz : c ≠ z) (xy : x ≠ y) (xz : x ≠ z) (yz : y ≠ z) : p = a ∨ p = b ∨ p = c ∨ p = x ∨ p = y ∨ p = z := by
  refine Classical.byContradiction fun h => ?_
  have pa : a ≠ p := fun q => h (Or.inl q.symm)
  have pB : b ≠ p := fun q => h (Or.inr (Or.inl q.symm))
  have pc : c ≠ p := fun q => h (Or.inr (Or.inr (Or.inl q.symm)))
  have px : x ≠ p := fun q => h (Or.inr (Or.inr (Or.inr (Or.inl q.symm))))
  have py : y ≠ p := fun q => h (Or.inr (Or.inr (Or.inr (Or.inr (Or.inl q.symm)))))
  have pz : z ≠ p := fun q => h (Or.inr (Or.inr (Or.inr (Or.inr (Or.inr q.symm)))))
  clear h
  refine seven (v := fun i => if i = 0 then a else if i = 1 then b else if i = 2 then c else if i = 3 then x else if i = 4 then y else if i = 5 then z else p) (fun i hi => ?_) (fun i j hij hj => ?_)
  · split
    · exact ha
    · split
      · exact hb
      · split
        · exact hc
        · split
          · exact hx
          · split
            · exact hy
            · split
              · exact hz
              · exact hp
  · have hi7 : i = 0 ∨ i = 1 ∨ i = 2 ∨ i = 3 ∨ i = 4 ∨ i = 5 := by clear ab ac ax ay az bc bx bY bz cx cy cz xy xz yz pa pB pc px py pz; omega
    have hj7 : j = 1 ∨ j = 2 ∨ j = 3 ∨ j = 4 ∨ j = 5 ∨ j = 6 := by clear ab ac ax ay az bc bx bY bz cx cy cz xy xz yz pa pB pc px py pz; omega
    rcases hi7 with rfl | rfl | rfl | rfl | rfl | rfl <;> rcases hj7 with rfl | rfl | rfl | rfl | rfl | rfl <;> first | (exact absurd hij (by decide)) | (simp only [reduceIte, Nat.reduceEqDiff]; assumption) | (simp; assumption)
def lat (i j : Nat) : zV := if (i + j) % 3 = 0 then 1#2 else if (i + j) % 3 = 1 then 2#2 else 3#2
theorem lat_nz (i j : Nat) : lat i j ≠ 0#2 := by
  unfold lat
  split
  · decide
  · split
    · decide
    · decide
theorem lat_c (i j : Nat) : lat i j = lat j i := by
  unfold lat
  rw [Nat.add_comm]
theorem lat_3 : ∀ l, l < 3 → (lat l 0 ^^^ lat l 1) ^^^ lat l 2 = 0#2 := by decide
def lval (s e : Nat → Nat) (ℓ : Nat → Nat) (k : Nat) : zV := if s k = e k then 1#2 else lat (ℓ (s k)) (ℓ (e k))
theorem lval_jo {s e : Nat → Nat} {ℓ : Nat → Nat} {k q o : Nat} (h : jo s e k q o) (hne : q ≠ o) : lval s e ℓ k = lat (ℓ q) (ℓ o) := by
  unfold lval
  rcases h with ⟨y1, y2⟩ | ⟨y1, y2⟩
  · rw [y1, y2, if_neg hne]
  · rw [y1, y2, if_neg (fun y => hne y.symm), lat_c]
theorem tri_sum {R : Nat} {s e : Nat → Nat} {ℓ : Nat → Nat} {q r1 r2 r3 o1 o2 o3 : Nat} (h1 : r1 < R) (h2 : r2 < R) (h3 : r3 < R) (j1 : jo s e r1 q o1) (j2 : jo s e r2 q o2) (j3 : jo s e r3 q o3) (n1 : q ≠ o1) (n2 : q ≠ o2) (n3 : q ≠ o3) (l1 : ℓ o1 = 0) (l2 : ℓ o2 = 1) (l3 : ℓ o3 = 2) (lq : ℓ q < 3) (hall : ∀ k, k < R → inc s e q k = true → k = r1 ∨ k = r2 ∨ k = r3) : vS R s e (lval s e ℓ) q = 0#2 := by
  have ne : ∀ {r r' o o' : Nat}, jo s e r q o → jo s e r' q o' → q ≠ o → q ≠ o' → ℓ o ≠ ℓ o' → r ≠ r' := by
    intro r r' o o' a1 a2 a3 a4 a5 a6
    subst a6
    refine a5 ?_
    rcases a1 with ⟨y1, y2⟩ | ⟨y1, y2⟩ <;> rcases a2 with ⟨y3, y4⟩ | ⟨y3, y4⟩
    · rw [← y2, ← y4]
    · exact absurd (y1.symm.trans y3) a4
    · exact absurd (y3.symm.trans y1) a3
    · rw [← y1, ← y3]
  have d12 := ne j1 j2 n1 n2 (by omega)
  have d13 := ne j1 j3 n1 n3 (by omega)
  have d23 := ne j2 j3 n2 n3 (by omega)
  have i1 : inc s e q r1 = true := by rw [jo_inc j1 n1]; simp
  have i2 : inc s e q r2 = true := by rw [jo_inc j2 n2]; simp
  have i3 : inc s e q r3 = true := by rw [jo_inc j3 n3]; simp
  have v1 : lval s e ℓ r1 = lat (ℓ q) 0 := by rw [lval_jo j1 n1, l1]
  have v2 : lval s e ℓ r2 = lat (ℓ q) 1 := by rw [lval_jo j2 n2, l2]
  have v3 : lval s e ℓ r3 = lat (ℓ q) 2 := by rw [lval_jo j3 n3, l3]
  have e1 : vS R s e (lval s e ℓ) q = vsum (fun k => ((if k = r1 then lat (ℓ q) 0 else 0#2) ^^^ (if k = r2 then lat (ℓ q) 1 else 0#2)) ^^^ (if k = r3 then lat (ℓ q) 2 else 0#2)) R := by
    refine vsum_eq (fun k hk => ?_)
    by_cases k1 : k = r1
    · rw [if_pos k1, if_neg (show ¬ k = r2 by omega), if_neg (show ¬ k = r3 by omega), k1, i1, BitVec.xor_zero, BitVec.xor_zero]
      exact v1
    · by_cases k2 : k = r2
      · rw [if_neg k1, if_pos k2, if_neg (show ¬ k = r3 by omega), k2, i2, BitVec.zero_xor, BitVec.xor_zero]
        exact v2
      · by_cases k3 : k = r3
        · rw [if_neg k1, if_neg k2, if_pos k3, k3, i3, BitVec.xor_zero, BitVec.zero_xor]
          exact v3
        · rw [if_neg k1, if_neg k2, if_neg k3, BitVec.xor_zero, BitVec.xor_zero]
          cases y : inc s e q k
          · rfl
          · have := hall k hk y
            omega
  rw [e1, vsum_x, vsum_x, vsum_1 (f := fun k => if k = r1 then lat (ℓ q) 0 else 0#2) h1 (fun k _ hk => if_neg hk), vsum_1 (f := fun k => if k = r2 then lat (ℓ q) 1 else 0#2) h2 (fun k _ hk => if_neg hk), vsum_1 (f := fun k => if k = r3 then lat (ℓ q) 2 else 0#2) h3 (fun k _ hk => if_neg hk), if_pos rfl, if_pos rfl, if_pos rfl]
  exact lat_3 _ lq
def lbl (a b x p : Nat) : Nat := if p = a ∨ p = 0 then 0 else if p = b ∨ p = x then 1 else 2
theorem cov_k33 {R n : Nat} {s e : Nat → Nat} (hn : n ≤ 6) (h0 : 0 < n) (hse : ∀ i, i < R → s i < n ∧ e i < n)
    (np : ∀ i j u q, i < R → j < R → i ≠ j → u ≠ q → jo s e i u q → jo s e j u q → False)
    (nt : ∀ i j k u q r, i < R → j < R → k < R → u ≠ q → q ≠ r → r ≠ u → jo s e i u q → jo s e j q r → jo s e k r u → False)
    (dg : ∀ q, q < n → ∀ i j, ∃ k, k < R ∧ inc s e q k = true ∧ k ≠ i ∧ k ≠ j) : ∃ x, vF R s e x := by
  have oth : ∀ {q k : Nat}, k < R → inc s e q k = true → ∃ o, o < n ∧ o ≠ q ∧ jo s e k q o := by
    intro q k hk hi
    rcases inc_t hi with ⟨y1, y2⟩ | ⟨y1, y2⟩
    · exact ⟨e k, (hse k hk).2, y2, Or.inl ⟨y1, rfl⟩⟩
    · exact ⟨s k, (hse k hk).1, y1, Or.inr ⟨rfl, y2⟩⟩
  -- two more neighbours of a post beside one
  have two : ∀ {q k o : Nat}, q < n → k < R → o ≠ q → jo s e k q o → ∃ k1 k2 o1 o2, k1 < R ∧ k2 < R ∧ o1 < n ∧ o2 < n ∧ jo s e k1 q o1 ∧ jo s e k2 q o2 ∧ o1 ≠ q ∧ o2 ≠ q ∧ o1 ≠ o ∧ o2 ≠ o ∧ o1 ≠ o2 := by
    intro q k o hq hk hoq hj
    obtain ⟨k1, a1, a2, a3, -⟩ := dg q hq k k
    obtain ⟨k2, b1, b2, b3, b4⟩ := dg q hq k k1
    obtain ⟨o1, c1, c2, c3⟩ := oth a1 a2
    obtain ⟨o2, d1, d2, d3⟩ := oth b1 b2
    refine ⟨k1, k2, o1, o2, a1, b1, c1, d1, c3, d3, c2, d2, fun y => ?_, fun y => ?_, fun y => ?_⟩
    · rw [y] at c3
      exact np k1 k q o a1 hk a3 (fun z => hoq z.symm) c3 hj
    · rw [y] at d3
      exact np k2 k q o b1 hk b3 (fun z => hoq z.symm) d3 hj
    · rw [y] at c3
      exact np k1 k2 q o2 a1 b1 (fun z => b4 z.symm) (fun z => d2 z.symm) c3 d3
  obtain ⟨k0, p1, p2, -⟩ := dg 0 h0 0 0
  obtain ⟨a, ha, ha0, ja⟩ := oth p1 p2
  obtain ⟨kb, kc, b, c, hkb, hkc, hb, hc, jb, jc, hb0, hc0, hba, hca, hbc⟩ := two h0 p1 ha0 ja
  obtain ⟨kx, ky, x, y, hkx, hky, hx, hy, jx, jy, hxa, hya, hx0, hy0, hxy⟩ := two ha p1 (fun z => ha0 z.symm) (jo_s ja)
  -- no road inside either side
  have nab : ∀ k, k < R → ¬ jo s e k a b := fun k hk z => nt k0 k kb 0 a b p1 hk hkb (fun w => ha0 w.symm) (fun w => hba w.symm) hb0 ja z (jo_s jb)
  have nac : ∀ k, k < R → ¬ jo s e k a c := fun k hk z => nt k0 k kc 0 a c p1 hk hkc (fun w => ha0 w.symm) (fun w => hca w.symm) hc0 ja z (jo_s jc)
  have nbc : ∀ k, k < R → ¬ jo s e k b c := fun k hk z => nt kb k kc 0 b c hkb hk hkc (fun w => hb0 w.symm) hbc hc0 jb z (jo_s jc)
  have hxb : x ≠ b := fun z => nab kx hkx (by rw [← z]; exact jx)
  have hxc : x ≠ c := fun z => nac kx hkx (by rw [← z]; exact jx)
  have hyb : y ≠ b := fun z => nab ky hky (by rw [← z]; exact jy)
  have hyc : y ≠ c := fun z => nac ky hky (by rw [← z]; exact jy)
  have n0x : ∀ k, k < R → ¬ jo s e k 0 x := fun k hk z => nt k0 k kx a 0 x p1 hk hkx ha0 (fun w => hx0 w.symm) hxa (jo_s ja) z (jo_s jx)
  have n0y : ∀ k, k < R → ¬ jo s e k 0 y := fun k hk z => nt k0 k ky a 0 y p1 hk hky ha0 (fun w => hy0 w.symm) hya (jo_s ja) z (jo_s jy)
  have nxy : ∀ k, k < R → ¬ jo s e k x y := fun k hk z => nt kx k ky a x y hkx hk hky (fun w => hxa w.symm) hxy hya jx z (jo_s jy)
  have cover : ∀ p, p < n → p = a ∨ p = b ∨ p = c ∨ p = 0 ∨ p = x ∨ p = y := fun p hp => six (by omega) (by omega) (by omega) (by omega) (by omega) (by omega) (by omega) (fun z => hba z.symm) (fun z => hca z.symm) ha0 (fun z => hxa z.symm) (fun z => hya z.symm) hbc hb0 (fun z => hxb z.symm) (fun z => hyb z.symm) hc0 (fun z => hxc z.symm) (fun z => hyc z.symm) (fun z => hx0 z.symm) (fun z => hy0 z.symm) hxy
  obtain ⟨kbx, kby, hkbx, hkby, jbx, jby⟩ : ∃ k1 k2, k1 < R ∧ k2 < R ∧ jo s e k1 b x ∧ jo s e k2 b y := by
    obtain ⟨k1, k2, o1, o2, q1, q2, q3, q4, q5, q6, q7, q8, q9, q10, q11⟩ := two hb hkb (fun z => hb0 z.symm) (jo_s jb)
    have pick : ∀ {k o : Nat}, k < R → o < n → o ≠ 0 → o ≠ b → jo s e k b o → o = x ∨ o = y := by
      intro k o hk ho ho0 hob jk
      rcases cover o ho with z | z | z | z | z | z
      · rw [z] at jk; exact absurd (jo_s jk) (nab k hk)
      · exact absurd z hob
      · rw [z] at jk; exact absurd jk (nbc k hk)
      · exact absurd z ho0
      · exact Or.inl z
      · exact Or.inr z
    rcases pick q1 q3 q9 q7 q5 with z1 | z1 <;> rcases pick q2 q4 q10 q8 q6 with z2 | z2
    · exact absurd (z1.trans z2.symm) q11
    · rw [z1] at q5
      rw [z2] at q6
      exact ⟨k1, k2, q1, q2, q5, q6⟩
    · rw [z1] at q5
      rw [z2] at q6
      exact ⟨k2, k1, q2, q1, q6, q5⟩
    · exact absurd (z1.trans z2.symm) q11
  obtain ⟨kcx, kcy, hkcx, hkcy, jcx, jcy⟩ : ∃ k1 k2, k1 < R ∧ k2 < R ∧ jo s e k1 c x ∧ jo s e k2 c y := by
    obtain ⟨k1, k2, o1, o2, q1, q2, q3, q4, q5, q6, q7, q8, q9, q10, q11⟩ := two hc hkc (fun z => hc0 z.symm) (jo_s jc)
    have pick : ∀ {k o : Nat}, k < R → o < n → o ≠ 0 → o ≠ c → jo s e k c o → o = x ∨ o = y := by
      intro k o hk ho ho0 hoc jk
      rcases cover o ho with z | z | z | z | z | z
      · rw [z] at jk; exact absurd (jo_s jk) (nac k hk)
      · rw [z] at jk; exact absurd (jo_s jk) (nbc k hk)
      · exact absurd z hoc
      · exact absurd z ho0
      · exact Or.inl z
      · exact Or.inr z
    rcases pick q1 q3 q9 q7 q5 with z1 | z1 <;> rcases pick q2 q4 q10 q8 q6 with z2 | z2
    · exact absurd (z1.trans z2.symm) q11
    · rw [z1] at q5
      rw [z2] at q6
      exact ⟨k1, k2, q1, q2, q5, q6⟩
    · rw [z1] at q5
      rw [z2] at q6
      exact ⟨k2, k1, q2, q1, q6, q5⟩
    · exact absurd (z1.trans z2.symm) q11
  have la : lbl a b x a = 0 := by rw [lbl, if_pos (Or.inl rfl)]
  have l0 : lbl a b x 0 = 0 := by rw [lbl, if_pos (Or.inr rfl)]
  have lB : lbl a b x b = 1 := by rw [lbl, if_neg (fun z => z.elim hba hb0), if_pos (Or.inl rfl)]
  have lx : lbl a b x x = 1 := by rw [lbl, if_neg (fun z => z.elim hxa hx0), if_pos (Or.inr rfl)]
  have lc : lbl a b x c = 2 := by rw [lbl, if_neg (fun z => z.elim hca hc0), if_neg (fun z => z.elim (fun w => hbc w.symm) (fun w => hxc w.symm))]
  have ly : lbl a b x y = 2 := by rw [lbl, if_neg (fun z => z.elim hya hy0), if_neg (fun z => z.elim hyb (fun w => hxy w.symm))]
  have lall : ∀ p, lbl a b x p < 3 := fun p => by
    unfold lbl
    split
    · omega
    · split <;> omega
  have uq : ∀ {q k r o : Nat}, k < R → r < R → q ≠ o → jo s e k q o → jo s e r q o → k = r := fun {q k r o} hk hr hqo z1 z2 => Classical.byContradiction fun w => np k r q o hk hr w hqo z1 z2
  refine ⟨lval s e (lbl a b x), fun q => ?_, fun k hk => ?_⟩
  · by_cases cq : q < n
    · rcases cover q cq with z | z | z | z | z | z
      · rw [z]
        refine tri_sum p1 hkx hky (jo_s ja) jx jy ha0 (fun w => hxa w.symm) (fun w => hya w.symm) l0 lx ly (lall a) (fun k hk hi => ?_)
        obtain ⟨o, ho, hoq, jk⟩ := oth hk hi
        rcases cover o ho with w | w | w | w | w | w
        · exact absurd w hoq
        · rw [w] at jk; exact absurd jk (nab k hk)
        · rw [w] at jk; exact absurd jk (nac k hk)
        · rw [w] at jk; exact Or.inl (uq hk p1 ha0 jk (jo_s ja))
        · rw [w] at jk; exact Or.inr (Or.inl (uq hk hkx (fun v => hxa v.symm) jk jx))
        · rw [w] at jk; exact Or.inr (Or.inr (uq hk hky (fun v => hya v.symm) jk jy))
      · rw [z]
        refine tri_sum hkb hkbx hkby (jo_s jb) jbx jby hb0 (fun w => hxb w.symm) (fun w => hyb w.symm) l0 lx ly (lall b) (fun k hk hi => ?_)
        obtain ⟨o, ho, hoq, jk⟩ := oth hk hi
        rcases cover o ho with w | w | w | w | w | w
        · rw [w] at jk; exact absurd (jo_s jk) (nab k hk)
        · exact absurd w hoq
        · rw [w] at jk; exact absurd jk (nbc k hk)
        · rw [w] at jk; exact Or.inl (uq hk hkb hb0 jk (jo_s jb))
        · rw [w] at jk; exact Or.inr (Or.inl (uq hk hkbx (fun v => hxb v.symm) jk jbx))
        · rw [w] at jk; exact Or.inr (Or.inr (uq hk hkby (fun v => hyb v.symm) jk jby))
      · rw [z]
        refine tri_sum hkc hkcx hkcy (jo_s jc) jcx jcy hc0 (fun w => hxc w.symm) (fun w => hyc w.symm) l0 lx ly (lall c) (fun k hk hi => ?_)
        obtain ⟨o, ho, hoq, jk⟩ := oth hk hi
        rcases cover o ho with w | w | w | w | w | w
        · rw [w] at jk; exact absurd (jo_s jk) (nac k hk)
        · rw [w] at jk; exact absurd (jo_s jk) (nbc k hk)
        · exact absurd w hoq
        · rw [w] at jk; exact Or.inl (uq hk hkc hc0 jk (jo_s jc))
        · rw [w] at jk; exact Or.inr (Or.inl (uq hk hkcx (fun v => hxc v.symm) jk jcx))
        · rw [w] at jk; exact Or.inr (Or.inr (uq hk hkcy (fun v => hyc v.symm) jk jcy))
      · rw [z]
        refine tri_sum p1 hkb hkc ja jb jc (fun w => ha0 w.symm) (fun w => hb0 w.symm) (fun w => hc0 w.symm) la lB lc (lall 0) (fun k hk hi => ?_)
        obtain ⟨o, ho, hoq, jk⟩ := oth hk hi
        rcases cover o ho with w | w | w | w | w | w
        · rw [w] at jk; exact Or.inl (uq hk p1 (fun v => ha0 v.symm) jk ja)
        · rw [w] at jk; exact Or.inr (Or.inl (uq hk hkb (fun v => hb0 v.symm) jk jb))
        · rw [w] at jk; exact Or.inr (Or.inr (uq hk hkc (fun v => hc0 v.symm) jk jc))
        · exact absurd w hoq
        · rw [w] at jk; exact absurd jk (n0x k hk)
        · rw [w] at jk; exact absurd jk (n0y k hk)
      · rw [z]
        refine tri_sum hkx hkbx hkcx (jo_s jx) (jo_s jbx) (jo_s jcx) hxa hxb hxc la lB lc (lall x) (fun k hk hi => ?_)
        obtain ⟨o, ho, hoq, jk⟩ := oth hk hi
        rcases cover o ho with w | w | w | w | w | w
        · rw [w] at jk; exact Or.inl (uq hk hkx hxa jk (jo_s jx))
        · rw [w] at jk; exact Or.inr (Or.inl (uq hk hkbx hxb jk (jo_s jbx)))
        · rw [w] at jk; exact Or.inr (Or.inr (uq hk hkcx hxc jk (jo_s jcx)))
        · rw [w] at jk; exact absurd (jo_s jk) (n0x k hk)
        · exact absurd w hoq
        · rw [w] at jk; exact absurd jk (nxy k hk)
      · rw [z]
        refine tri_sum hky hkby hkcy (jo_s jy) (jo_s jby) (jo_s jcy) hya hyb hyc la lB lc (lall y) (fun k hk hi => ?_)
        obtain ⟨o, ho, hoq, jk⟩ := oth hk hi
        rcases cover o ho with w | w | w | w | w | w
        · rw [w] at jk; exact Or.inl (uq hk hky hya jk (jo_s jy))
        · rw [w] at jk; exact Or.inr (Or.inl (uq hk hkby hyb jk (jo_s jby)))
        · rw [w] at jk; exact Or.inr (Or.inr (uq hk hkcy hyc jk (jo_s jcy)))
        · rw [w] at jk; exact absurd (jo_s jk) (n0y k hk)
        · rw [w] at jk; exact absurd (jo_s jk) (nxy k hk)
        · exact absurd w hoq
    · refine vsum_0 (fun k hk => ?_)
      have := hse k hk
      rw [inc_n (by omega) (by omega)]
      rfl
  · unfold lval
    split
    · decide
    · exact lat_nz _ _
/-- every net without a bridge, of at most 6 posts -/
theorem cov_all {R : Nat} : ∀ (n : Nat), n ≤ 6 → ∀ (s e : Nat → Nat), (∀ i, i < R → s i < n ∧ e i < n) → brl R s e → ∃ x, vF R s e x := by
  intro n
  induction n using Nat.strongRecOn with
  | ind n IH =>
    intro hn s e hse hb
    by_cases c1 : n ≤ 1
    · refine ⟨fun _ => 1#2, fun q => vsum_0 (fun i hi => ?_), fun i _ => (by decide : (1#2 : zV) ≠ 0#2)⟩
      have := hse i hi
      have h2 : s i = e i := by omega
      unfold inc
      rw [h2]
      cases decide (e i = q) <;> rfl
    · obtain ⟨m, rfl⟩ : ∃ m, n = m + 2 := ⟨n - 2, by omega⟩
      by_cases cp : ∃ i j u q, i < R ∧ j < R ∧ i ≠ j ∧ u ≠ q ∧ jo s e i u q ∧ jo s e j u q
      · obtain ⟨i, j, u, q, h1, h2, h3, h4, h5, h6⟩ := cp
        exact cov_par (n := m + 1) (fun s e h1 h2 => IH (m + 1) (by omega) (by omega) s e h1 h2) hse hb h1 h2 h3 h4 h5 h6
      · by_cases ct : ∃ i j k u q r, i < R ∧ j < R ∧ k < R ∧ u ≠ q ∧ q ≠ r ∧ r ≠ u ∧ jo s e i u q ∧ jo s e j q r ∧ jo s e k r u
        · obtain ⟨i, j, k, u, q, r, h1, h2, h3, h4, h5, h6, h7, h8, h9⟩ := ct
          exact cov_tri (n := m) (fun s e h1 h2 => IH m (by omega) (by omega) s e h1 h2) hse hb h1 h2 h3 h4 h5 h6 h7 h8 h9
        · by_cases cd : ∃ q i j, q < m + 2 ∧ ∀ k, k < R → inc s e q k = true → k = i ∨ k = j
          · obtain ⟨q, i, j, hq, h1⟩ := cd
            by_cases q0 : q = 0
            · exact cov_deg (n := m + 1) (fun s e h1 h2 => IH (m + 1) (by omega) (by omega) s e h1 h2) hse hb (u0 := 1) hq (by omega) (by omega) h1
            · exact cov_deg (n := m + 1) (fun s e h1 h2 => IH (m + 1) (by omega) (by omega) s e h1 h2) hse hb (u0 := 0) hq (by omega) (by omega) h1
          · refine cov_k33 hn (by omega) hse (fun i j u q h1 h2 h3 h4 h5 h6 => cp ⟨i, j, u, q, h1, h2, h3, h4, h5, h6⟩) (fun i j k u q r h1 h2 h3 h4 h5 h6 h7 h8 h9 => ct ⟨i, j, k, u, q, r, h1, h2, h3, h4, h5, h6, h7, h8, h9⟩) (fun q hq i j => ?_)
            refine Classical.byContradiction fun z => cd ⟨q, i, j, hq, fun k hk hi => ?_⟩
            refine Classical.byContradiction fun w => z ⟨k, hk, hi, fun v => w (Or.inl v), fun v => w (Or.inr v)⟩
