/-! A SMALL MACHINE over the tables: a heap of cells by number, one instruction as a law of goals (mj_s1), whole runs by fuel (mj_XF) -/
-- values: an int, a long, a reference (0 null, 1 the script, 2 the system's empty row, from 3 on what the law makes)
abbrev mj_V : Type := Int32 ⊕ (Int64 ⊕ Nat)
abbrev mj_vi (x : Int32) : mj_V := .inl x
abbrev mj_vl (x : Int64) : mj_V := .inr (.inl x)
abbrev mj_vr (r : Nat) : mj_V := .inr (.inr r)
-- heaps: the next number, slots used, kinds, lengths, ints, references, longs
abbrev mj_G : Type := Nat × Nat × (Nat → Nat) × (Nat → Nat) × (Nat → Nat → Int32) × (Nat → Nat → Nat) × (Nat → Nat → Int64)
def mj_n (G : mj_G) : Nat := G.1
def mj_u (G : mj_G) : Nat := G.2.1
def mj_k (G : mj_G) : Nat → Nat := G.2.2.1
def mj_l (G : mj_G) : Nat → Nat := G.2.2.2.1
def mj_i (G : mj_G) : Nat → Nat → Int32 := G.2.2.2.2.1
def mj_r (G : mj_G) : Nat → Nat → Nat := G.2.2.2.2.2.1
def mj_j (G : mj_G) : Nat → Nat → Int64 := G.2.2.2.2.2.2
def mj_u1 {α : Type} (f : Nat → α) (a : Nat) (v : α) : Nat → α := fun x => if x = a then v else f x
def mj_u2 {α : Type} (f : Nat → Nat → α) (a k : Nat) (v : α) : Nat → Nat → α := fun x y => if x = a ∧ y = k then v else f x y
def mj_pI (G : mj_G) (a k : Nat) (v : Int32) : mj_G := (mj_n G, mj_u G, mj_k G, mj_l G, mj_u2 (mj_i G) a k v, mj_r G, mj_j G)
def mj_pR (G : mj_G) (a k : Nat) (v : Nat) : mj_G := (mj_n G, mj_u G, mj_k G, mj_l G, mj_i G, mj_u2 (mj_r G) a k v, mj_j G)
def mj_pJ (G : mj_G) (a k : Nat) (v : Int64) : mj_G := (mj_n G, mj_u G, mj_k G, mj_l G, mj_i G, mj_r G, mj_u2 (mj_j G) a k v)
/-- a new cell of a kind and a length, its ints as told, all else 0 -/
def mj_al (G : mj_G) (kind len : Nat) (row : Nat → Int32) : mj_G :=
  (mj_n G + 1, mj_u G + len, mj_u1 (mj_k G) (mj_n G) kind, mj_u1 (mj_l G) (mj_n G) len,
   fun x y => if x = mj_n G then row y else mj_i G x y, fun x y => if x = mj_n G then 0 else mj_r G x y, fun x y => if x = mj_n G then 0 else mj_j G x y)
def mj_cp (G : mj_G) (a0 sp a dp n : Nat) : mj_G :=
  (mj_n G, mj_u G, mj_k G, mj_l G, fun x y => if x = a ∧ dp ≤ y ∧ y < dp + n then mj_i G a0 (sp + (y - dp)) else mj_i G x y, mj_r G, mj_j G)
-- locals
def mj_g : List (Option mj_V) → Nat → Option mj_V
  | [], _ => none
  | x :: _, 0 => x
  | _ :: xs, n + 1 => mj_g xs n
def mj_p : List (Option mj_V) → Nat → Option mj_V → List (Option mj_V)
  | [], _, _ => []
  | _ :: xs, 0, v => v :: xs
  | x :: xs, n + 1, v => x :: mj_p xs n v
def mj_L (v : Option mj_V) : Bool := match v with
  | some (.inr (.inl _)) => true
  | _ => false
/-- a long that reaches into place k goes -/
def mj_cl0 (ls : List (Option mj_V)) (k : Nat) : List (Option mj_V) := match k with
  | 0 => ls
  | k + 1 => bif mj_L (mj_g ls k) then mj_p ls k none else ls
def mj_s (ls : List (Option mj_V)) (k : Nat) (v : mj_V) : List (Option mj_V) := mj_p (mj_cl0 ls k) k (some v)
def mj_sL (ls : List (Option mj_V)) (k : Nat) (v : mj_V) : List (Option mj_V) := mj_p (mj_p (mj_cl0 ls k) k (some v)) (k + 1) none
def mj_e : List mj_V → List (Option mj_V)
  | [] => []
  | .inr (.inl x) :: vs => some (.inr (.inl x)) :: none :: mj_e vs
  | v :: vs => some v :: mj_e vs
def mj_en (vs : List mj_V) (n : Nat) : List (Option mj_V) := mj_e vs ++ List.replicate (n - (mj_e vs).length) none
-- words of the operand stack
def mj_w : List mj_V → Nat
  | [] => 0
  | .inr (.inl _) :: vs => mj_w vs + 2
  | _ :: vs => mj_w vs + 1
abbrev mj_K : Type := Nat → List (Option mj_V) → List mj_V → mj_G → Prop
-- conditions
def mj_b (x : Int32) : Prop := x = 0 ∨ x = 1
def mj_c (x : Int32) : Prop := 0 ≤ x ∧ x ≤ 65535
def mj_fit (t : Nat) (x : Int32) : Prop := match t with
  | 0 => True
  | 1 => mj_b x
  | _ => mj_c x
def mj_br (pc : Nat) (off : Int) (K : Nat → Prop) : Prop := match (pc : Int) + off with
  | .ofNat t => K t
  | .negSucc _ => False
def mj_sw (x : Int32) (d : Prop) (K : Int → Prop) : List (Int × Int) → Prop
  | [] => d
  | (k, o) :: ps => (x = Int32.ofInt k → K o) ∧ (¬ x = Int32.ofInt k → mj_sw x d K ps)
def mj_tb2 (lo : Int) : List Int → List (Int × Int)
  | [] => []
  | o :: os => (lo, o) :: mj_tb2 (lo + 1) os
def mj_ic (c : ClassFile.Cond) (x y : Int32) : Prop := match c with
  | .eq => x = y
  | .ne => ¬ x = y
  | .lt => x < y
  | .ge => y ≤ x
  | .gt => y < x
  | .le => x ≤ y
def mj_b2 (f : Int32 → Int32 → Int32) (st : List mj_V) (K : List mj_V → Prop) : Prop := match st with
  | .inl y :: .inl x :: st => K (.inl (f x y) :: st)
  | _ => False
def mj_b2l (f : Int64 → Int64 → Int64) (st : List mj_V) (K : List mj_V → Prop) : Prop := match st with
  | .inr (.inl y) :: .inr (.inl x) :: st => K (.inr (.inl (f x y)) :: st)
  | _ => False
def mj_ldi (ls : List (Option mj_V)) (k : Nat) (K : mj_V → Prop) : Prop := match mj_g ls k with
  | some (.inl x) => K (.inl x)
  | _ => False
def mj_ldl (ls : List (Option mj_V)) (k : Nat) (K : mj_V → Prop) : Prop := match mj_g ls k with
  | some (.inr (.inl x)) => K (.inr (.inl x))
  | _ => False
def mj_lda (ls : List (Option mj_V)) (k : Nat) (K : mj_V → Prop) : Prop := match mj_g ls k with
  | some (.inr (.inr x)) => K (.inr (.inr x))
  | _ => False
def mj_sti (ls : List (Option mj_V)) (k : Nat) (st : List mj_V) (K : List (Option mj_V) → List mj_V → Prop) : Prop := match st with
  | .inl x :: st => (bif k < ls.length then K (mj_s ls k (.inl x)) st else False)
  | _ => False
def mj_stl (ls : List (Option mj_V)) (k : Nat) (st : List mj_V) (K : List (Option mj_V) → List mj_V → Prop) : Prop := match st with
  | .inr (.inl x) :: st => (bif k + 1 < ls.length then K (mj_sL ls k (.inr (.inl x))) st else False)
  | _ => False
def mj_sta (ls : List (Option mj_V)) (k : Nat) (st : List mj_V) (K : List (Option mj_V) → List mj_V → Prop) : Prop := match st with
  | .inr (.inr x) :: st => (bif k < ls.length then K (mj_s ls k (.inr (.inr x))) st else False)
  | _ => False
def mj_ald (G : mj_G) (kind : Nat) (st : List mj_V) (K : List mj_V → Prop) : Prop := match st with
  | .inl i :: .inr (.inr a) :: st => mj_k G a = kind ∧ vp_in i (mj_l G a) ∧ K (.inl (mj_i G a i.toNatClampNeg) :: st)
  | _ => False
def mj_ast (G : mj_G) (kind t : Nat) (st : List mj_V) (K : List mj_V → mj_G → Prop) : Prop := match st with
  | .inl x :: .inl i :: .inr (.inr a) :: st => mj_k G a = kind ∧ 3 ≤ a ∧ vp_in i (mj_l G a) ∧ mj_fit t x ∧ K st (mj_pI G a i.toNatClampNeg x)
  | _ => False
def mj_aty : ArrayType → Nat
  | .int => 20
  | .long => 21
  | .char => 22
  | .boolean => 23
  | _ => 0
def mj_mn (x y : Int32) : Int32 := if y < x then y else x
def mj_mx (x y : Int32) : Int32 := if x < y then y else x
def mj_gs (own k : Nat) : Bool := match own, k with
  | 11, 15 => true
  | 8, 55 => true
  | 0, 7 => true
  | 12, 211 => true
  | _, _ => false
def mj_ao (c : Nat) : Bool := match c with
  | 3 => true
  | 4 => true
  | 5 => true
  | 10 => true
  | 11 => true
  | _ => false
/-- one instruction that calls no method of the tables: what must hold, and where it goes on -/
def mj_s1 (own : Nat) (ini : Bool) (i : Instr) (len pc : Nat) (ls : List (Option mj_V)) (st : List mj_V) (G : mj_G) (K : mj_K) : Prop := match i with
  | .iconst n => K (pc + len) ls (.inl (Int32.ofInt n) :: st) G
  | .bipush n => K (pc + len) ls (.inl (Int8.ofInt n).toInt32 :: st) G
  | .sipush n => K (pc + len) ls (.inl (Int16.ofInt n).toInt32 :: st) G
  | .lconst n => K (pc + len) ls (.inr (.inl (Int64.ofNat (n : Nat))) :: st) G
  | .aconst_null => K (pc + len) ls (.inr (.inr 0) :: st) G
  | .ldc k => (match mj_ki own k with | some v => K (pc + len) ls (.inl v :: st) G | none => False)
  | .ldc_w k => (match mj_ki own k with | some v => K (pc + len) ls (.inl v :: st) G | none => False)
  | .ldc2_w k => (match mj_kl own k with | some v => K (pc + len) ls (.inr (.inl v) :: st) G | none => False)
  | .iload k => mj_ldi ls k (fun v => K (pc + len) ls (v :: st) G)
  | .iload_n k => mj_ldi ls k (fun v => K (pc + len) ls (v :: st) G)
  | .lload k => mj_ldl ls k (fun v => K (pc + len) ls (v :: st) G)
  | .lload_n k => mj_ldl ls k (fun v => K (pc + len) ls (v :: st) G)
  | .aload k => mj_lda ls k (fun v => K (pc + len) ls (v :: st) G)
  | .aload_n k => mj_lda ls k (fun v => K (pc + len) ls (v :: st) G)
  | .istore k => mj_sti ls k st (fun ls st => K (pc + len) ls st G)
  | .istore_n k => mj_sti ls k st (fun ls st => K (pc + len) ls st G)
  | .lstore k => mj_stl ls k st (fun ls st => K (pc + len) ls st G)
  | .lstore_n k => mj_stl ls k st (fun ls st => K (pc + len) ls st G)
  | .astore k => mj_sta ls k st (fun ls st => K (pc + len) ls st G)
  | .astore_n k => mj_sta ls k st (fun ls st => K (pc + len) ls st G)
  | .iinc k n => (match mj_g ls k with | some (.inl x) => (bif k < ls.length then K (pc + len) (mj_s ls k (.inl (x + Int32.ofInt n))) st G else False) | _ => False)
  | .iadd => mj_b2 (fun x y => x + y) st (fun st => K (pc + len) ls st G)
  | .isub => mj_b2 (fun x y => x - y) st (fun st => K (pc + len) ls st G)
  | .imul => mj_b2 (fun x y => x * y) st (fun st => K (pc + len) ls st G)
  | .iand => mj_b2 (fun x y => x &&& y) st (fun st => K (pc + len) ls st G)
  | .ior => mj_b2 (fun x y => x ||| y) st (fun st => K (pc + len) ls st G)
  | .ixor => mj_b2 (fun x y => x ^^^ y) st (fun st => K (pc + len) ls st G)
  | .ishl => mj_b2 (fun x y => x <<< (y &&& 31)) st (fun st => K (pc + len) ls st G)
  | .ishr => mj_b2 (fun x y => x >>> (y &&& 31)) st (fun st => K (pc + len) ls st G)
  | .idiv => (match st with | .inl y :: .inl x :: st => ¬ y = 0 ∧ K (pc + len) ls (.inl (x / y) :: st) G | _ => False)
  | .irem => (match st with | .inl y :: .inl x :: st => ¬ y = 0 ∧ K (pc + len) ls (.inl (x - x / y * y) :: st) G | _ => False)
  | .ineg => (match st with | .inl x :: st => K (pc + len) ls (.inl (-x) :: st) G | _ => False)
  | .ladd => mj_b2l (fun x y => x + y) st (fun st => K (pc + len) ls st G)
  | .lsub => mj_b2l (fun x y => x - y) st (fun st => K (pc + len) ls st G)
  | .lmul => mj_b2l (fun x y => x * y) st (fun st => K (pc + len) ls st G)
  | .ldiv => (match st with | .inr (.inl y) :: .inr (.inl x) :: st => ¬ y = 0 ∧ K (pc + len) ls (.inr (.inl (x / y)) :: st) G | _ => False)
  | .lrem => (match st with | .inr (.inl y) :: .inr (.inl x) :: st => ¬ y = 0 ∧ K (pc + len) ls (.inr (.inl (x - x / y * y)) :: st) G | _ => False)
  | .lneg => (match st with | .inr (.inl x) :: st => K (pc + len) ls (.inr (.inl (-x)) :: st) G | _ => False)
  | .lcmp => (match st with | .inr (.inl y) :: .inr (.inl x) :: st => K (pc + len) ls (.inl (lg_cmp x y) :: st) G | _ => False)
  | .i2l => (match st with | .inl x :: st => K (pc + len) ls (.inr (.inl x.toInt64) :: st) G | _ => False)
  | .l2i => (match st with | .inr (.inl x) :: st => K (pc + len) ls (.inl x.toInt32 :: st) G | _ => False)
  | .i2c => (match st with | .inl x :: st => K (pc + len) ls (.inl (x.toUInt32 % 65536).toInt32 :: st) G | _ => False)
  | .dup => (match st with | .inl x :: st => K (pc + len) ls (.inl x :: .inl x :: st) G | .inr (.inr x) :: st => K (pc + len) ls (.inr (.inr x) :: .inr (.inr x) :: st) G | _ => False)
  | .pop => (match st with | .inl _ :: st => K (pc + len) ls st G | .inr (.inr _) :: st => K (pc + len) ls st G | _ => False)
  | .dup2 => (match st with | .inl y :: .inr (.inr x) :: st => K (pc + len) ls (.inl y :: .inr (.inr x) :: .inl y :: .inr (.inr x) :: st) G | _ => False)
  | .goto off => mj_br pc off (fun t => K t ls st G)
  | .ifCond c off => (match st with | .inl x :: st => (mj_ic c x 0 → mj_br pc off (fun t => K t ls st G)) ∧ (¬ mj_ic c x 0 → K (pc + len) ls st G) | _ => False)
  | .if_icmp c off => (match st with | .inl y :: .inl x :: st => (mj_ic c x y → mj_br pc off (fun t => K t ls st G)) ∧ (¬ mj_ic c x y → K (pc + len) ls st G) | _ => False)
  | .if_acmp .ne off => (match st with | .inr (.inr y) :: .inr (.inr x) :: st => x ≠ 1 ∧ x ≠ 2 ∧ y ≠ 1 ∧ y ≠ 2 ∧ (¬ x = y → mj_br pc off (fun t => K t ls st G)) ∧ (x = y → K (pc + len) ls st G) | _ => False)
  | .ifnull off => (match st with | .inr (.inr x) :: st => (x = 0 → mj_br pc off (fun t => K t ls st G)) ∧ (¬ x = 0 → K (pc + len) ls st G) | _ => False)
  | .ifnonnull off => (match st with | .inr (.inr x) :: st => (¬ x = 0 → mj_br pc off (fun t => K t ls st G)) ∧ (x = 0 → K (pc + len) ls st G) | _ => False)
  | .tableswitch d lo _ offs => (match st with | .inl x :: st => mj_sw x (mj_br pc d (fun t => K t ls st G)) (fun o => mj_br pc o (fun t => K t ls st G)) (mj_tb2 lo offs.toList) | _ => False)
  | .lookupswitch d ps => (match st with | .inl x :: st => mj_sw x (mj_br pc d (fun t => K t ls st G)) (fun o => mj_br pc o (fun t => K t ls st G)) ps.toList | _ => False)
  | .getstatic k => (bif mj_gs own k then K (pc + len) ls (.inr (.inr 2) :: st) G else False)
  | .getfield k => (match st, mj_fl own k with
      | .inr (.inr a) :: st, some (c, j) => mj_k G a = c + 1 ∧ (match mj_T c j with | 3 => K (pc + len) ls (.inr (.inr (mj_r G a j)) :: st) G | _ => K (pc + len) ls (.inl (mj_i G a j) :: st) G)
      | _, _ => False)
  | .putfield k => (match mj_fl own k with
      | none => False
      | some (c, j) => (bif (mj_F c j).2.2.2 then ini = true ∧ own = c else True) ∧ (match st with
        | .inl x :: .inr (.inr a) :: st => mj_k G a = c + 1 ∧ (bif mj_T c j == 3 then False else True) ∧ mj_fit (mj_T c j) x ∧ K (pc + len) ls st (mj_pI G a j x)
        | .inr (.inr x) :: .inr (.inr a) :: st => mj_k G a = c + 1 ∧ (bif mj_T c j == 3 then True else False) ∧ K (pc + len) ls st (mj_pR G a j x)
        | _ => False))
  | .iaload => mj_ald G 20 st (fun st => K (pc + len) ls st G)
  | .caload => mj_ald G 22 st (fun st => K (pc + len) ls st G)
  | .baload => mj_ald G 23 st (fun st => K (pc + len) ls st G)
  | .laload => (match st with | .inl i :: .inr (.inr a) :: st => mj_k G a = 21 ∧ vp_in i (mj_l G a) ∧ K (pc + len) ls (.inr (.inl (mj_j G a i.toNatClampNeg)) :: st) G | _ => False)
  | .aaload => (match st with | .inl i :: .inr (.inr a) :: st => 30 ≤ mj_k G a ∧ vp_in i (mj_l G a) ∧ K (pc + len) ls (.inr (.inr (mj_r G a i.toNatClampNeg)) :: st) G | _ => False)
  | .iastore => mj_ast G 20 0 st (fun st G => K (pc + len) ls st G)
  | .castore => mj_ast G 22 2 st (fun st G => K (pc + len) ls st G)
  | .bastore => mj_ast G 23 1 st (fun st G => K (pc + len) ls st G)
  | .lastore => (match st with | .inr (.inl x) :: .inl i :: .inr (.inr a) :: st => mj_k G a = 21 ∧ vp_in i (mj_l G a) ∧ K (pc + len) ls st (mj_pJ G a i.toNatClampNeg x) | _ => False)
  | .aastore => (match st with | .inr (.inr x) :: .inl i :: .inr (.inr a) :: st => 30 ≤ mj_k G a ∧ vp_in i (mj_l G a) ∧ (x = 0 ∨ mj_k G x + 29 = mj_k G a) ∧ K (pc + len) ls st (mj_pR G a i.toNatClampNeg x) | _ => False)
  | .arraylength => (match st with | .inr (.inr a) :: st => 20 ≤ mj_k G a ∧ K (pc + len) ls (.inl (Int32.ofNat (mj_l G a)) :: st) G | _ => False)
  | .newarray t => (match st with | .inl n :: st => ¬ n < 0 ∧ n.toNatClampNeg ≤ 1000000 ∧ (bif mj_aty t == 0 then False else True) ∧ K (pc + len) ls (.inr (.inr (mj_n G)) :: st) (mj_al G (mj_aty t) n.toNatClampNeg (fun _ => 0)) | _ => False)
  | .anewarray k => (match st, mj_cl own k with | .inl n :: st, some c => ¬ n < 0 ∧ n.toNatClampNeg ≤ 1000000 ∧ (bif mj_ao c then K (pc + len) ls (.inr (.inr (mj_n G)) :: st) (mj_al G (c + 30) n.toNatClampNeg (fun _ => 0)) else False) | _, _ => False)
  | .new k => (match mj_cl own k with | some c => (bif Nat.ble 15 c then False else K (pc + len) ls (.inr (.inr (mj_n G)) :: st) (mj_al G (c + 1) (mj_N c) (fun _ => 0))) | none => False)
  | .checkcast k => (match st with | .inr (.inr a) :: st => mj_k G a = 20 ∧ 3 ≤ a ∧ (bif Nat.beq own 2 && Nat.beq k 73 then K (pc + len) ls (.inr (.inr a) :: st) G else False) | _ => False)
  | .invokespecial k => (match st, mj_me own k with | .inr (.inr a) :: st, some 900001 => mj_k G a ≠ 0 ∧ mj_w st ≤ 8 ∧ K (pc + len) ls st G | _, _ => False)
  | .invokestatic k => (match mj_me own k, st with
      | some 900002, .inl y :: .inl x :: st => mj_w st ≤ 8 ∧ K (pc + len) ls (.inl (mj_mn x y) :: st) G
      | some 900003, .inl y :: .inl x :: st => mj_w st ≤ 8 ∧ K (pc + len) ls (.inl (mj_mx x y) :: st) G
      | some 900004, .inl n :: .inl dp :: .inr (.inr a) :: .inl sp :: .inr (.inr a0) :: st => mj_w st ≤ 8 ∧ (mj_k G a = 20 ∨ mj_k G a = 22) ∧ mj_k G a0 = mj_k G a ∧ 2 ≤ a0 ∧ 3 ≤ a ∧ ¬ sp < 0 ∧ ¬ dp < 0 ∧ ¬ n < 0 ∧ sp.toNatClampNeg + n.toNatClampNeg ≤ mj_l G a0 ∧ dp.toNatClampNeg + n.toNatClampNeg ≤ mj_l G a ∧ K (pc + len) ls st (mj_cp G a0 sp.toNatClampNeg a dp.toNatClampNeg n.toNatClampNeg)
      | _, _ => False)
  | .invokevirtual k => (match st, mj_me own k with | .inr (.inr a) :: st, some 900005 => mj_w st ≤ 8 ∧ mj_k G a = 20 ∧ 3 ≤ a ∧ mj_l G a ≤ 1000000 ∧ K (pc + len) ls (.inr (.inr (mj_n G)) :: st) (mj_al G 20 (mj_l G a) (mj_i G a)) | _, _ => False)
  | _ => False
-- a method's row, its instructions
abbrev mj_MT : Type := ByteArray × Nat × Option FieldType × MethodName × Bool × Nat × Nat × List (Nat × Nat × Nat × Nat)
def mj_m (mi : Nat) : mj_MT := (mj_M (mi / 1000)).getD (mi % 1000) (⟨#[]⟩, 0, none, ⟨"", "", ""⟩, false, 0, 9, [])
def mj_fd (pc : Nat) : List (Nat × Instr × Nat) → Option (Instr × Nat)
  | [] => none
  | (q, i, n) :: l => bif Nat.beq q pc then some (i, n) else mj_fd pc l
def mj_nth : List (List (Nat × Instr × Nat)) → Nat → List (Nat × Instr × Nat)
  | [], _ => []
  | x :: _, 0 => x
  | _ :: xs, n + 1 => mj_nth xs n
def mj_at (mi pc : Nat) : Option (Instr × Nat) := mj_fd pc (mj_nth (mj_C (mi / 1000)) (mi % 1000))
def mj_mL (mi : Nat) : Nat := (mj_m mi).2.1
def mj_rt (mi : Nat) : Option FieldType := (mj_m mi).2.2.1
def mj_y (mi : Nat) : MethodName := (mj_m mi).2.2.2.1
def mj_sc (mi : Nat) : Bool := (mj_m mi).2.2.2.2.1
def mj_na (mi : Nat) : Nat := (mj_m mi).2.2.2.2.2.1
def mj_kd (mi : Nat) : Nat := (mj_m mi).2.2.2.2.2.2.1
/-- handlers of the law's wrappers: what is thrown, behind the store of the thrown thing, in which place that lies -/
def mj_hn (mi k : Nat) : Option (Nat × Nat) := match mi, k with
  | 14000, 15 => some (13, 3) | 14000, 16 => some (16, 3)
  | 14001, 17 => some (13, 3) | 14001, 15 => some (16, 3)
  | 14002, 17 => some (15, 4) | 14002, 15 => some (19, 4)
  | 14003, 15 => some (10, 3)
  | 14004, 15 => some (13, 3)
  | 14005, 15 => some (9, 2)
  | 14006, 15 => some (15, 4) | 14006, 16 => some (19, 4)
  | 14007, 15 => some (13, 3) | 14007, 16 => some (16, 3)
  | 14008, 15 => some (20, 3)
  | 14009, 15 => some (13, 3)
  | 14010, 17 => some (13, 3) | 14011, 17 => some (13, 3) | 14012, 17 => some (13, 3) | 14013, 17 => some (13, 3) | 14014, 17 => some (13, 3) | 14015, 17 => some (13, 3)
  | 14016, 15 => some (15, 4)
  | 14017, 17 => some (13, 3)
  | _, _ => none
abbrev mj_O : Type := Option mj_V ⊕ Nat
def mj_ro (mi : Nat) (x : Int32) : Prop := match mj_rt mi with
  | some .int => True
  | some .boolean => mj_b x
  | some .char => mj_c x
  | _ => False
def mj_rr (mi : Nat) : Bool := match mj_rt mi with
  | some (.object _) => true
  | some (.array _) => true
  | _ => false
/-- n values off the stack, in the order of the parameters -/
def mj_tk : Nat → List mj_V → List mj_V → Option (List mj_V × List mj_V)
  | 0, acc, st => some (acc, st)
  | _ + 1, _, [] => none
  | n + 1, acc, v :: st => mj_tk n (v :: acc) st
/-- a call's target among the tables, by the way of the call -/
def mj_tg (own : Nat) (i : Instr) : Option Nat := match i with
  | .invokestatic k => (match mj_me own k with | some t => bif Nat.ble 900000 t then none else some t | none => none)
  | .invokevirtual k => (match mj_me own k with | some t => bif Nat.ble 900000 t then none else some t | none => none)
  | .invokespecial k => (match mj_me own k with | some t => bif Nat.ble 900000 t then none else some t | none => none)
  | _ => none
/-- a receiver is an object that has the method -/
def mj_rc (G : mj_G) (mj : Nat) (as : List mj_V) : Prop := (mj_e as).length ≤ mj_mL mj ∧ (match mj_sc mj, as with
  | true, _ => True
  | false, .inr (.inr a) :: _ => mj_k G a = mj / 1000 + 1
  | false, _ => False)
def mj_XF : Nat → Nat → Nat → Nat → List (Option mj_V) → List mj_V → mj_G → (mj_O → mj_G → Prop) → Prop
  | 0, _, _, _, _, _, _, _ => False
  | f + 1, d, mi, pc, ls, st, G, Q => match mj_at mi pc with
    | none => False
    | some (i, len) => match mj_tg (mi / 1000) i with
      | some mt => (match mj_tk (mj_na mt) [] st with
          | none => False
          | some (as, rest) => mj_w rest ≤ 8 ∧ mj_rc G mt as ∧ ∃ d', d = d' + 1 ∧ mj_XF f d' mt 0 (mj_en as (mj_mL mt)) [] G (fun o G' => match o with
              | .inl none => mj_XF f d mi (pc + len) ls rest G' Q
              | .inl (some v) => mj_XF f d mi (pc + len) ls (v :: rest) G' Q
              | .inr k => mj_kd mi = 2 ∧ mj_kd mt = 1 ∧ (match mj_hn mi k with | none => False | some (q, x) => mj_XF f d mi q (mj_p (mj_cl0 ls x) x none) [] G' Q)))
      | none => (match i with
          | .ireturn => (match st with | [.inl x] => mj_ro mi x ∧ Q (.inl (some (.inl x))) G | _ => False)
          | .lreturn => (match st with | [.inr (.inl x)] => mj_rt mi = some .long ∧ Q (.inl (some (.inr (.inl x)))) G | _ => False)
          | .areturn => (match st with | [.inr (.inr x)] => mj_rr mi = true ∧ Q (.inl (some (.inr (.inr x)))) G | _ => False)
          | .return_ => (match st with | [] => mj_rt mi = none ∧ Q (.inl none) G | _ => False)
          | .new k => (match mj_cl (mi / 1000) k with
              | some c => (bif Nat.ble 15 c then st = [] ∧ mj_kd mi = 1 ∧ 8 ≤ d ∧ Q (.inr c) (mj_al G (c + 1) 6 (fun _ => 0)) else mj_s1 (mi / 1000) (bif (mj_y mi).name == "<init>" then true else false) i len pc ls st G (fun pc ls st G => mj_XF f d mi pc ls st G Q))
              | none => False)
          | i => mj_s1 (mi / 1000) (bif (mj_y mi).name == "<init>" then true else false) i len pc ls st G (fun pc ls st G => mj_XF f d mi pc ls st G Q))
def mj_stop (mi : Nat) (i : Instr) : Bool := match mj_tg (mi / 1000) i with
  | some _ => true
  | none => (match i with
    | .ireturn => true
    | .lreturn => true
    | .areturn => true
    | .return_ => true
    | .new k => (match mj_cl (mi / 1000) k with | some c => Nat.ble 15 c | none => true)
    | _ => false)
/-- a stretch without calls: up to a call, a return, a way back -/
def mj_sp : Nat → Nat → Nat → List (Option mj_V) → List mj_V → mj_G → mj_K → Prop
  | 0, _, pc, ls, st, G, K => K pc ls st G
  | f + 1, mi, pc, ls, st, G, K => match mj_at mi pc with
    | none => False
    | some (i, len) => bif mj_stop mi i then K pc ls st G else
        mj_s1 (mi / 1000) (bif (mj_y mi).name == "<init>" then true else false) i len pc ls st G (fun q ls st G => bif Nat.ble q pc then K q ls st G else mj_sp f mi q ls st G K)
