/-! A LITTLE MACHINE over the table: its steps are the kit's rows (the next part says so); what is proved of it is proved of the bytecode -/
abbrev z_M : Type := (Nat → Nat → Int32) × (Nat → Int64)
abbrev z_L : Type := List (Option Value)
def z_wr (σ : z_M) (c k : Nat) (v : Int32) : z_M := (fun c' k' => if c' = c then (if k' = k then v else σ.1 c' k') else σ.1 c' k', σ.2)
def z_wl (σ : z_M) (k : Nat) (v : Int64) : z_M := (σ.1, fun k' => if k' = k then v else σ.2 k')
def z_cp (σ : z_M) (c d sp dp n : Nat) : z_M := (fun c' => if c' = d then va_cpy (σ.1 c) (σ.1 d) sp dp n else σ.1 c', σ.2)
def z_get : z_L → Nat → Option Value
  | [], _ => none
  | v :: _, 0 => v
  | _ :: l, n + 1 => z_get l n
def z_setK : z_L → Nat → Option Value → (z_L → Prop) → Prop
  | [], _, _, _ => False
  | _ :: l, 0, v, k => k (v :: l)
  | a :: l, n + 1, v, k => z_setK l n v (fun l' => k (a :: l'))
/-- the local ahead is no long -/
def z_nl (L : z_L) (i : Nat) : Bool := match i with
  | 0 => true
  | j + 1 => match z_get L j with
    | some (.long _) => false
    | some (.double _) => false
    | _ => true
def z_pi (st : List Value) (k : Int32 → List Value → Prop) : Prop := match st with
  | .int x :: r => k x r
  | _ => False
def z_pl (st : List Value) (k : Int64 → List Value → Prop) : Prop := match st with
  | .long x :: r => k x r
  | _ => False
def z_pr (st : List Value) (k : Nat → List Value → Prop) : Prop := match st with
  | .ref x :: r => k x r
  | _ => False
/-- a value of one slot -/
def z_p1 (st : List Value) (k : Value → List Value → Prop) : Prop := match st with
  | .int x :: r => k (.int x) r
  | .ref x :: r => k (.ref x) r
  | _ => False
def z_p0 (st : List Value) (k : Prop) : Prop := match st with
  | [] => k
  | _ => False
def z_gi (v : Option Value) (k : Int32 → Prop) : Prop := match v with
  | some (.int x) => k x
  | _ => False
def z_gl (v : Option Value) (k : Int64 → Prop) : Prop := match v with
  | some (.long x) => k x
  | _ => False
def z_gr (v : Option Value) (k : Nat → Prop) : Prop := match v with
  | some (.ref x) => k x
  | _ => False
def z_popK : Nat → List Value → List Value → (List Value → List Value → Prop) → Prop
  | 0, st, acc, k => k acc st
  | n + 1, v :: st, acc, k => z_popK n st (v :: acc) k
  | _ + 1, [], _, _ => False
def z_cats : List Value → Nat
  | [] => 0
  | .long _ :: r => z_cats r + 2
  | .int _ :: r => z_cats r + 1
  | .ref _ :: r => z_cats r + 1
  | _ :: r => z_cats r + 100
def z_swK (x : Int32) (k : Nat → Prop) (d : Nat) : List Nat → Nat → Prop
  | [], i => (x < 0 ∨ Int32.ofNat i ≤ x) → k d
  | t :: ts, i => (x = Int32.ofNat i → k t) ∧ z_swK x k d ts (i + 1)
/-- a receiver of the callee's kind -/
def z_rcv (M : Nat) (as : List Value) : Bool := match as with
  | .ref c :: _ => Nat.beq (z_kd c) (z_rc M) && Nat.blt c z_NC
  | _ => false
def z_cal (call : Nat → List Value → z_M → Option Value → z_M → Prop) (M : Nat) (as rest : List Value) (σ : z_M) (k : List Value → z_M → Prop) : Prop :=
  bif Nat.ble (z_cats rest) 8 then
    bif Nat.beq (z_rk M) 0 then ∃ σ' : z_M, call M as σ none σ' ∧ k rest σ'
    else bif Nat.beq (z_rk M) 2 then ∃ (r : Int64) (σ' : z_M), call M as σ (some (.long r)) σ' ∧ k (.long r :: rest) σ'
    else ∃ (r : Int32) (σ' : z_M), call M as σ (some (.int r)) σ' ∧ k (.int r :: rest) σ'
  else False
def z_step (call : Nat → List Value → z_M → Option Value → z_M → Prop) (sc : Option (Nat × (Nat → Int32))) (M pc : Nat) (L : z_L) (st : List Value) (σ : z_M) (K : Nat → z_L → List Value → z_M → Prop) (R : Option Value → z_M → Prop) : Prop :=
  match z_tb M pc with
  | (i, nx, r1, r2, cv) => match i with
    | .iconst _ => K nx L (.int cv :: st) σ
    | .bipush _ => K nx L (.int cv :: st) σ
    | .sipush _ => K nx L (.int cv :: st) σ
    | .ldc _ => K nx L (.int cv :: st) σ
    | .ldc_w _ => K nx L (.int cv :: st) σ
    | .ldc2_w _ => K nx L (.long (z_lc r1) :: st) σ
    | .lconst j => K nx L (.long (Int64.ofNat j.val) :: st) σ
    | .iload j => z_gi (z_get L j) fun x => K nx L (.int x :: st) σ
    | .iload_n j => z_gi (z_get L j.val) fun x => K nx L (.int x :: st) σ
    | .lload j => z_gl (z_get L j) fun x => K nx L (.long x :: st) σ
    | .lload_n j => z_gl (z_get L j.val) fun x => K nx L (.long x :: st) σ
    | .aload j => z_gr (z_get L j) fun x => K nx L (.ref x :: st) σ
    | .aload_n j => z_gr (z_get L j.val) fun x => K nx L (.ref x :: st) σ
    | .istore j => z_pi st fun x st => bif z_nl L j then z_setK L j (some (.int x)) (fun L => K nx L st σ) else False
    | .istore_n j => z_pi st fun x st => bif z_nl L j.val then z_setK L j.val (some (.int x)) (fun L => K nx L st σ) else False
    | .astore j => z_pr st fun x st => bif z_nl L j then z_setK L j (some (.ref x)) (fun L => K nx L st σ) else False
    | .astore_n j => z_pr st fun x st => bif z_nl L j.val then z_setK L j.val (some (.ref x)) (fun L => K nx L st σ) else False
    | .lstore j => z_pl st fun x st => bif z_nl L j then z_setK L j (some (.long x)) (fun L => z_setK L (j + 1) none (fun L => K nx L st σ)) else False
    | .lstore_n j => z_pl st fun x st => bif z_nl L j.val then z_setK L j.val (some (.long x)) (fun L => z_setK L (j.val + 1) none (fun L => K nx L st σ)) else False
    | .iinc j _ => z_gi (z_get L j) fun x => bif z_nl L j then z_setK L j (some (.int (x + cv))) (fun L => K nx L st σ) else False
    | .iadd => z_pi st fun y st => z_pi st fun x st => K nx L (.int (x + y) :: st) σ
    | .isub => z_pi st fun y st => z_pi st fun x st => K nx L (.int (x - y) :: st) σ
    | .imul => z_pi st fun y st => z_pi st fun x st => K nx L (.int (x * y) :: st) σ
    | .iand => z_pi st fun y st => z_pi st fun x st => K nx L (.int (x &&& y) :: st) σ
    | .ior => z_pi st fun y st => z_pi st fun x st => K nx L (.int (x ||| y) :: st) σ
    | .ixor => z_pi st fun y st => z_pi st fun x st => K nx L (.int (x ^^^ y) :: st) σ
    | .idiv => z_pi st fun y st => z_pi st fun x st => ¬ y = 0 ∧ K nx L (.int (x / y) :: st) σ
    | .irem => z_pi st fun y st => z_pi st fun x st => ¬ y = 0 ∧ K nx L (.int (x - x / y * y) :: st) σ
    | .ineg => z_pi st fun x st => K nx L (.int (-x) :: st) σ
    | .ishl => z_pi st fun y st => z_pi st fun x st => K nx L (.int (x <<< (y &&& 31)) :: st) σ
    | .ishr => z_pi st fun y st => z_pi st fun x st => K nx L (.int (x >>> (y &&& 31)) :: st) σ
    | .iushr => z_pi st fun y st => z_pi st fun x st => K nx L (.int ((x.toUInt32 >>> (y.toUInt32 &&& Int32.toUInt32 31)).toInt32) :: st) σ
    | .ladd => z_pl st fun y st => z_pl st fun x st => K nx L (.long (x + y) :: st) σ
    | .lmul => z_pl st fun y st => z_pl st fun x st => K nx L (.long (x * y) :: st) σ
    | .lneg => z_pl st fun x st => K nx L (.long (-x) :: st) σ
    | .lshl => z_pi st fun y st => z_pl st fun x st => K nx L (.long (x <<< (y.toInt64 &&& 63)) :: st) σ
    | .lushr => z_pi st fun y st => z_pl st fun x st => K nx L (.long ((x.toUInt64 >>> (y.toInt64.toUInt64 &&& Int64.toUInt64 63)).toInt64) :: st) σ
    | .lcmp => z_pl st fun y st => z_pl st fun x st => K nx L (.int (lg_cmp x y) :: st) σ
    | .i2l => z_pi st fun x st => K nx L (.long x.toInt64 :: st) σ
    | .l2i => z_pl st fun x st => K nx L (.int x.toInt32 :: st) σ
    | .i2b => z_pi st fun x st => K nx L (.int x.toInt8.toInt32 :: st) σ
    | .i2s => z_pi st fun x st => K nx L (.int x.toInt16.toInt32 :: st) σ
    | .dup => z_p1 st fun v st => K nx L (v :: v :: st) σ
    | .dup2 => z_p1 st fun v st => z_p1 st fun w st => K nx L (v :: w :: v :: w :: st) σ
    | .goto _ => K r1 L st σ
    | .ifCond cnd _ => z_pi st fun x st => match cnd with
      | .eq => (x = 0 → K r1 L st σ) ∧ (¬ x = 0 → K nx L st σ)
      | .ne => (¬ x = 0 → K r1 L st σ) ∧ (x = 0 → K nx L st σ)
      | .lt => (x < 0 → K r1 L st σ) ∧ (¬ x < 0 → K nx L st σ)
      | .ge => (0 ≤ x → K r1 L st σ) ∧ (¬ 0 ≤ x → K nx L st σ)
      | .gt => (0 < x → K r1 L st σ) ∧ (¬ 0 < x → K nx L st σ)
      | .le => (x ≤ 0 → K r1 L st σ) ∧ (¬ x ≤ 0 → K nx L st σ)
    | .if_icmp cnd _ => z_pi st fun y st => z_pi st fun x st => match cnd with
      | .eq => (x = y → K r1 L st σ) ∧ (¬ x = y → K nx L st σ)
      | .ne => (¬ x = y → K r1 L st σ) ∧ (x = y → K nx L st σ)
      | .lt => (x < y → K r1 L st σ) ∧ (¬ x < y → K nx L st σ)
      | .ge => (y ≤ x → K r1 L st σ) ∧ (¬ y ≤ x → K nx L st σ)
      | .gt => (y < x → K r1 L st σ) ∧ (¬ y < x → K nx L st σ)
      | .le => (x ≤ y → K r1 L st σ) ∧ (¬ x ≤ y → K nx L st σ)
    | .tableswitch _ _ _ _ => z_pi st fun x st => z_swK x (fun t => K t L st σ) r2 (z_sw r1) 0
    | .getfield _ => z_pr st fun a st => bif Nat.beq (z_kd a) r1 && Nat.blt a z_NC then (match z_rf a r2 with
      | some t => K nx L (.ref t :: st) σ
      | none => K nx L (.int (σ.1 a r2) :: st) σ) else False
    | .putfield _ => z_pi st fun x st => z_pr st fun a st => bif Nat.beq (z_kd a) r1 && Nat.blt a z_NC then
      (bif Nat.beq (z_fk r1 r2) 1 then K nx L st (z_wr σ a r2 x) else bif Nat.beq (z_fk r1 r2) 2 then (x = 0 ∨ x = 1) ∧ K nx L st (z_wr σ a r2 x) else False) else False
    | .iaload => z_pi st fun j st => z_pr st fun a st => bif Nat.beq a 100 then (match sc with
      | some (n, xs) => vp_in j n ∧ K nx L (.int (xs j.toNatClampNeg) :: st) σ
      | none => False) else bif Nat.beq (z_ak a) 1 then vp_in j (z_al a) ∧ K nx L (.int (σ.1 a j.toNatClampNeg) :: st) σ else False
    | .iastore => z_pi st fun x st => z_pi st fun j st => z_pr st fun a st => bif Nat.beq (z_ak a) 1 then vp_in j (z_al a) ∧ K nx L st (z_wr σ a j.toNatClampNeg x) else False
    | .laload => z_pi st fun j st => z_pr st fun a st => bif Nat.beq a 27 then vp_in j 128 ∧ K nx L (.long (σ.2 j.toNatClampNeg) :: st) σ else False
    | .lastore => z_pl st fun x st => z_pi st fun j st => z_pr st fun a st => bif Nat.beq a 27 then vp_in j 128 ∧ K nx L st (z_wl σ j.toNatClampNeg x) else False
    | .aaload => z_pi st fun j st => z_pr st fun a st =>
      bif Nat.beq a 8 then (j = 0 ∧ K nx L (.ref 37 :: st) σ) ∨ (j = 1 ∧ K nx L (.ref 38 :: st) σ) ∨ (j = 2 ∧ K nx L (.ref 39 :: st) σ) ∨ (j = 3 ∧ K nx L (.ref 40 :: st) σ)
      else bif Nat.beq a 9 then (j = 0 ∧ K nx L (.ref 45 :: st) σ) ∨ (j = 1 ∧ K nx L (.ref 46 :: st) σ) ∨ (j = 2 ∧ K nx L (.ref 47 :: st) σ) ∨ (j = 3 ∧ K nx L (.ref 48 :: st) σ)
      else False
    | .arraylength => z_pr st fun a st => bif Nat.beq a 100 then (match sc with
      | some (n, _) => K nx L (.int (Int32.ofNat n) :: st) σ
      | none => False) else bif Nat.beq (z_ak a) 1 then K nx L (.int (Int32.ofNat (z_al a)) :: st) σ else False
    | .invokevirtual _ => z_popK (r2 + 1) st [] fun as rest => bif z_rcv r1 as then z_cal call r1 as rest σ (fun st σ => K nx L st σ) else False
    | .invokestatic _ => bif Nat.beq r1 999 then
        z_pi st fun n st => z_pi st fun dp st => z_pr st fun d st => z_pi st fun sp st => z_pr st fun a st =>
          bif Nat.beq (z_ak a) 1 && Nat.beq (z_ak d) 1 && Nat.ble (z_cats st) 8 then (¬ sp < 0 ∧ ¬ dp < 0 ∧ ¬ n < 0 ∧ sp.toNatClampNeg + n.toNatClampNeg ≤ z_al a ∧ dp.toNatClampNeg + n.toNatClampNeg ≤ z_al d) ∧ K nx L st (z_cp σ a d sp.toNatClampNeg dp.toNatClampNeg n.toNatClampNeg) else False
      else z_popK r2 st [] fun as rest => z_cal call r1 as rest σ (fun st σ => K nx L st σ)
    | .ireturn => z_pi st fun x st => z_p0 st (bif Nat.beq (z_rk M) 1 then R (some (.int x)) σ else bif Nat.beq (z_rk M) 3 then (x = 0 ∨ x = 1) ∧ R (some (.int x)) σ else False)
    | .lreturn => z_pl st fun x st => z_p0 st (bif Nat.beq (z_rk M) 2 then R (some (.long x)) σ else False)
    | .return_ => z_p0 st (bif Nat.beq (z_rk M) 0 then R none σ else False)
    | _ => False
/-- the least predicate that is closed under the steps -/
def z_wp (call : Nat → List Value → z_M → Option Value → z_M → Prop) (sc : Option (Nat × (Nat → Int32))) (M : Nat) (R : Option Value → z_M → Prop) (pc : Nat) (L : z_L) (st : List Value) (σ : z_M) : Prop :=
  ∀ P : Nat → z_L → List Value → z_M → Prop, (∀ pc L st σ, z_step call sc M pc L st σ P R → P pc L st σ) → P pc L st σ
def z_repK : Nat → (z_L → Prop) → Prop
  | 0, k => k []
  | n + 1, k => z_repK n (fun l => k (none :: l))
/-- the locals at a method's entry -/
def z_entK : List Value → Nat → (z_L → Prop) → Prop
  | [], n, k => z_repK n k
  | .int x :: vs, n + 1, k => z_entK vs n (fun l => k (some (.int x) :: l))
  | .ref x :: vs, n + 1, k => z_entK vs n (fun l => k (some (.ref x) :: l))
  | .long x :: vs, n + 2, k => z_entK vs n (fun l => k (some (.long x) :: none :: l))
  | _, _, _ => False
def z_call : Nat → Nat → List Value → z_M → Option Value → z_M → Prop
  | 0, _, _, _, _, _ => False
  | d + 1, M, as, σ, r, σ' => Nat.blt M 189 = true ∧ z_entK as (z_mx M) (fun L => z_wp (z_call d) none M (fun r2 σ2 => r2 = r ∧ σ2 = σ') 0 L [] σ)
def z_in (l : List Nat) (n : Nat) : Bool := match l with
  | [] => false
  | a :: l => bif Nat.beq a n then true else z_in l n
/-- n steps, or as far as a place of the list -/
def z_vc (call : Nat → List Value → z_M → Option Value → z_M → Prop) (sc : Option (Nat × (Nat → Int32))) (M : Nat) (stops : List Nat) (K : Nat → z_L → List Value → z_M → Prop) (R : Option Value → z_M → Prop) : Nat → Nat → z_L → List Value → z_M → Prop
  | 0, pc, L, st, σ => K pc L st σ
  | n + 1, pc, L, st, σ => z_step call sc M pc L st σ (fun pc L st σ => bif z_in stops pc then K pc L st σ else z_vc call sc M stops K R n pc L st σ) R
