/-! THE EVALUATOR'S STEP -/
def mv_ops (o : Nat) (x y : Int32) : Int32 := match o with
  | 0 => x + y
  | 1 => x - y
  | 2 => x * y
  | 3 => x &&& y
  | 4 => x ||| y
  | 5 => x ^^^ y
  | 6 => x <<< (y &&& 31)
  | 7 => x >>> (y &&& 31)
  | 8 => (x.toUInt32 % 65536).toInt32
  | _ => x
def mv_tb : mv_T → Nat → mv_I → mv_I → Option mv_I
  | [], _, _, _ => none
  | (o', a', b', r) :: l, o, a, b => bif Nat.beq o' o && (decide (a' = a) && decide (b' = b)) then some r else mv_tb l o a b
def mv_okT (ρ : Nat → Int32) (tb : mv_T) : Prop := ¬ ρ 0 < 0 ∧ ∀ e ∈ tb, mv_dI ρ e.2.2.2 = mv_ops e.1 (mv_dI ρ e.2.1) (mv_dI ρ e.2.2.1)
def mv_bin (tb : mv_T) (o : Nat) (a b : mv_I) : Option mv_I := match a, b with
  | .inl x, .inl y => some (.inl (mv_ops o x y))
  | a, b => mv_tb tb o a b
def mv_cn (c : ClassFile.Cond) : Nat := match c with
  | .eq => 0
  | .ne => 1
  | .lt => 2
  | .ge => 3
  | .gt => 4
  | .le => 5
def mv_icn (n : Nat) (x y : Int32) : Prop := match n with
  | 0 => x = y
  | 1 => ¬ x = y
  | 2 => x < y
  | 3 => y ≤ x
  | 4 => y < x
  | 5 => x ≤ y
  | _ => mj_c x
def mv_icb (c : ClassFile.Cond) (x y : Int32) : Bool := match c with
  | .eq => decide (x = y)
  | .ne => !decide (x = y)
  | .lt => decide (x < y)
  | .ge => decide (y ≤ x)
  | .gt => decide (y < x)
  | .le => decide (x ≤ y)
def mv_hold (ρ : Nat → Int32) (f : Nat × mv_I × mv_I × Bool) : Prop := mv_icn f.1 (mv_dI ρ f.2.1) (mv_dI ρ f.2.2.1) ↔ f.2.2.2 = true
def mv_cmp (c : ClassFile.Cond) (x y : mv_I) (bs : List Bool) (fs : mv_F) : Option (Bool × List Bool × mv_F) := match x, y with
  | .inl a, .inl b => some (mv_icb c a b, bs, fs)
  | x, y => (match bs with
    | [] => none
    | b :: bs => some (b, bs, (mv_cn c, x, y, b) :: fs))
def mv_br (pc : Nat) (off : Int) : Option Nat := match (pc : Int) + off with
  | .ofNat t => some t
  | .negSucc _ => none
def mv_sw (x : Int32) (d : Int) : List (Int × Int) → Int
  | [] => d
  | (k, o) :: ps => bif decide (x = Int32.ofInt k) then o else mv_sw x d ps
def mv_fit (t : Nat) (x : mv_I) (fs : mv_F) : Option mv_F := match t, x with
  | 0, _ => some fs
  | 1, .inl x => bif decide (x = 0) || decide (x = 1) then some fs else none
  | 1, .inr _ => none
  | _, .inl x => bif decide (0 ≤ x) && decide (x ≤ 65535) then some fs else none
  | _, .inr k => some ((6, .inr k, .inl 0, true) :: fs)
def mv_in (i : Int32) (n : Nat) : Bool := !(decide (i < 0)) && Nat.blt i.toNatClampNeg n
def mv_cpl (f : Nat → mv_I) (dp : Nat) : Nat → List (Nat × mv_I) → List (Nat × mv_I)
  | 0, l => l
  | n + 1, l => (dp + n, f n) :: mv_cpl f dp n l
def mv_cp (H : mv_H) (a0 sp a dp n : Nat) : Option mv_H := match mv_get H.2.2 a with
  | some c => bif Nat.beq a0 1 then none else mv_wr H a (c.1, c.2.1, mv_cpl (fun j => mv_ic H.2.2 a0 (sp + j)) dp n c.2.2.1, c.2.2.2.1, c.2.2.2.2)
  | none => none
abbrev mv_R : Type := Option (Nat × mv_L × List mv_V × mv_H × List Bool × mv_F)
def mv_b2 (tb : mv_T) (o pc : Nat) (ls : mv_L) (st : List mv_V) (H : mv_H) (bs : List Bool) (fs : mv_F) : mv_R := match st with
  | .inl y :: .inl x :: st => (match mv_bin tb o x y with | some r => some (pc, ls, .inl r :: st, H, bs, fs) | none => none)
  | _ => none
def mv_b2l (f : Int64 → Int64 → Int64) (pc : Nat) (ls : mv_L) (st : List mv_V) (H : mv_H) (bs : List Bool) (fs : mv_F) : mv_R := match st with
  | .inr (.inl y) :: .inr (.inl x) :: st => some (pc, ls, .inr (.inl (f x y)) :: st, H, bs, fs)
  | _ => none
def mv_ldi (ls : mv_L) (k pc : Nat) (st : List mv_V) (H : mv_H) (bs : List Bool) (fs : mv_F) : mv_R := match mv_g ls k with
  | some (.inl x) => some (pc, ls, .inl x :: st, H, bs, fs)
  | _ => none
def mv_ldl (ls : mv_L) (k pc : Nat) (st : List mv_V) (H : mv_H) (bs : List Bool) (fs : mv_F) : mv_R := match mv_g ls k with
  | some (.inr (.inl x)) => some (pc, ls, .inr (.inl x) :: st, H, bs, fs)
  | _ => none
def mv_lda (ls : mv_L) (k pc : Nat) (st : List mv_V) (H : mv_H) (bs : List Bool) (fs : mv_F) : mv_R := match mv_g ls k with
  | some (.inr (.inr x)) => some (pc, ls, .inr (.inr x) :: st, H, bs, fs)
  | _ => none
def mv_sti (ls : mv_L) (k pc : Nat) (st : List mv_V) (H : mv_H) (bs : List Bool) (fs : mv_F) : mv_R := match st with
  | .inl x :: st => bif Nat.blt k ls.length then some (pc, mv_s ls k (.inl x), st, H, bs, fs) else none
  | _ => none
def mv_stl (ls : mv_L) (k pc : Nat) (st : List mv_V) (H : mv_H) (bs : List Bool) (fs : mv_F) : mv_R := match st with
  | .inr (.inl x) :: st => bif Nat.blt (k + 1) ls.length then some (pc, mv_sL ls k (.inr (.inl x)), st, H, bs, fs) else none
  | _ => none
def mv_sta (ls : mv_L) (k pc : Nat) (st : List mv_V) (H : mv_H) (bs : List Bool) (fs : mv_F) : mv_R := match st with
  | .inr (.inr x) :: st => bif Nat.blt k ls.length then some (pc, mv_s ls k (.inr (.inr x)), st, H, bs, fs) else none
  | _ => none
/-- what is known of a symbol -/
def mv_rd (tb : mv_T) (s : Nat) : mv_I := match mv_tb tb 9 (.inr s) (.inl 0) with
  | some r => r
  | none => .inr s
def mv_ald (tb : mv_T) (kind pc : Nat) (ls : mv_L) (st : List mv_V) (H : mv_H) (bs : List Bool) (fs : mv_F) : mv_R := match st with
  | .inl (.inl i) :: .inr (.inr a) :: st => bif Nat.beq (mv_kc H.2.2 a) kind then (bif Nat.beq a 1 then (bif decide (i < 0) then none else some (pc, ls, .inl (mv_rd tb (2 * i.toNatClampNeg + 1)) :: st, H, bs, (2, .inl i, .inr 0, true) :: fs)) else bif mv_in i (mv_lc H.2.2 a) then some (pc, ls, .inl (mv_ic H.2.2 a i.toNatClampNeg) :: st, H, bs, fs) else none) else none
  | _ => none
def mv_ast (kind t pc : Nat) (ls : mv_L) (st : List mv_V) (H : mv_H) (bs : List Bool) (fs : mv_F) : mv_R := match st with
  | .inl x :: .inl (.inl i) :: .inr (.inr a) :: st => bif Nat.beq (mv_kc H.2.2 a) kind && Nat.ble 3 a && mv_in i (mv_lc H.2.2 a) then (match mv_fit t x fs with
      | some fs => (match mv_pI H a i.toNatClampNeg x with | some H => some (pc, ls, st, H, bs, fs) | none => none)
      | none => none) else none
  | _ => none
def mv_jmp (pc : Nat) (off : Int) (ls : mv_L) (st : List mv_V) (H : mv_H) (bs : List Bool) (fs : mv_F) : mv_R := match mv_br pc off with
  | some t => some (t, ls, st, H, bs, fs)
  | none => none
def mv_if (c : ClassFile.Cond) (x y : mv_I) (off : Int) (len pc : Nat) (ls : mv_L) (st : List mv_V) (H : mv_H) (bs : List Bool) (fs : mv_F) : mv_R := match mv_cmp c x y bs fs with
  | some (true, bs, fs) => mv_jmp pc off ls st H bs fs
  | some (false, bs, fs) => some (pc + len, ls, st, H, bs, fs)
  | none => none
def mv_new (kind len pc : Nat) (row : List (Nat × mv_I)) (ls : mv_L) (st : List mv_V) (H : mv_H) (bs : List Bool) (fs : mv_F) : mv_R := match mv_al H kind len row with
  | some H' => some (pc, ls, .inr (.inr H.1) :: st, H', bs, fs)
  | none => none
def mv_s1 (tb : mv_T) (own : Nat) (ini : Bool) (i : Instr) (len pc : Nat) (ls : mv_L) (st : List mv_V) (H : mv_H) (bs : List Bool) (fs : mv_F) : mv_R := match i with
  | .iconst n => some (pc + len, ls, .inl (.inl (Int32.ofInt n)) :: st, H, bs, fs)
  | .bipush n => some (pc + len, ls, .inl (.inl (Int8.ofInt n).toInt32) :: st, H, bs, fs)
  | .sipush n => some (pc + len, ls, .inl (.inl (Int16.ofInt n).toInt32) :: st, H, bs, fs)
  | .lconst n => some (pc + len, ls, .inr (.inl (Int64.ofNat (n : Nat))) :: st, H, bs, fs)
  | .aconst_null => some (pc + len, ls, .inr (.inr 0) :: st, H, bs, fs)
  | .ldc k => (match mj_ki own k with | some v => some (pc + len, ls, .inl (.inl v) :: st, H, bs, fs) | none => none)
  | .ldc_w k => (match mj_ki own k with | some v => some (pc + len, ls, .inl (.inl v) :: st, H, bs, fs) | none => none)
  | .ldc2_w k => (match mj_kl own k with | some v => some (pc + len, ls, .inr (.inl v) :: st, H, bs, fs) | none => none)
  | .iload k => mv_ldi ls k (pc + len) st H bs fs
  | .iload_n k => mv_ldi ls k (pc + len) st H bs fs
  | .lload k => mv_ldl ls k (pc + len) st H bs fs
  | .lload_n k => mv_ldl ls k (pc + len) st H bs fs
  | .aload k => mv_lda ls k (pc + len) st H bs fs
  | .aload_n k => mv_lda ls k (pc + len) st H bs fs
  | .istore k => mv_sti ls k (pc + len) st H bs fs
  | .istore_n k => mv_sti ls k (pc + len) st H bs fs
  | .lstore k => mv_stl ls k (pc + len) st H bs fs
  | .lstore_n k => mv_stl ls k (pc + len) st H bs fs
  | .astore k => mv_sta ls k (pc + len) st H bs fs
  | .astore_n k => mv_sta ls k (pc + len) st H bs fs
  | .iinc k n => (match mv_g ls k with | some (.inl x) => (match mv_bin tb 0 x (.inl (Int32.ofInt n)) with | some r => some (pc + len, mv_s ls k (.inl r), st, H, bs, fs) | none => none) | _ => none)
  | .iadd => mv_b2 tb 0 (pc + len) ls st H bs fs
  | .isub => mv_b2 tb 1 (pc + len) ls st H bs fs
  | .imul => mv_b2 tb 2 (pc + len) ls st H bs fs
  | .iand => mv_b2 tb 3 (pc + len) ls st H bs fs
  | .ior => mv_b2 tb 4 (pc + len) ls st H bs fs
  | .ixor => mv_b2 tb 5 (pc + len) ls st H bs fs
  | .ishl => mv_b2 tb 6 (pc + len) ls st H bs fs
  | .ishr => mv_b2 tb 7 (pc + len) ls st H bs fs
  | .idiv => (match st with | .inl (.inl y) :: .inl (.inl x) :: st => bif decide (y = 0) then none else some (pc + len, ls, .inl (.inl (x / y)) :: st, H, bs, fs) | _ => none)
  | .irem => (match st with | .inl (.inl y) :: .inl (.inl x) :: st => bif decide (y = 0) then none else some (pc + len, ls, .inl (.inl (x - x / y * y)) :: st, H, bs, fs) | _ => none)
  | .ineg => (match st with | .inl (.inl x) :: st => some (pc + len, ls, .inl (.inl (-x)) :: st, H, bs, fs) | _ => none)
  | .ladd => mv_b2l (fun x y => x + y) (pc + len) ls st H bs fs
  | .lsub => mv_b2l (fun x y => x - y) (pc + len) ls st H bs fs
  | .lmul => mv_b2l (fun x y => x * y) (pc + len) ls st H bs fs
  | .lneg => (match st with | .inr (.inl x) :: st => some (pc + len, ls, .inr (.inl (-x)) :: st, H, bs, fs) | _ => none)
  | .lcmp => (match st with | .inr (.inl y) :: .inr (.inl x) :: st => some (pc + len, ls, .inl (.inl (lg_cmp x y)) :: st, H, bs, fs) | _ => none)
  | .i2l => (match st with | .inl (.inl x) :: st => some (pc + len, ls, .inr (.inl x.toInt64) :: st, H, bs, fs) | _ => none)
  | .l2i => (match st with | .inr (.inl x) :: st => some (pc + len, ls, .inl (.inl x.toInt32) :: st, H, bs, fs) | _ => none)
  | .i2c => (match st with | .inl x :: st => (match mv_bin tb 8 x (.inl 0) with | some r => some (pc + len, ls, .inl r :: st, H, bs, fs) | none => none) | _ => none)
  | .dup => (match st with | .inl x :: st => some (pc + len, ls, .inl x :: .inl x :: st, H, bs, fs) | .inr (.inr x) :: st => some (pc + len, ls, .inr (.inr x) :: .inr (.inr x) :: st, H, bs, fs) | _ => none)
  | .pop => (match st with | .inl _ :: st => some (pc + len, ls, st, H, bs, fs) | .inr (.inr _) :: st => some (pc + len, ls, st, H, bs, fs) | _ => none)
  | .dup2 => (match st with | .inl y :: .inr (.inr x) :: st => some (pc + len, ls, .inl y :: .inr (.inr x) :: .inl y :: .inr (.inr x) :: st, H, bs, fs) | _ => none)
  | .goto off => mv_jmp pc off ls st H bs fs
  | .ifCond c off => (match st with | .inl x :: st => mv_if c x (.inl 0) off len pc ls st H bs fs | _ => none)
  | .if_icmp c off => (match st with | .inl y :: .inl x :: st => mv_if c x y off len pc ls st H bs fs | _ => none)
  | .if_acmp .ne off => (match st with | .inr (.inr y) :: .inr (.inr x) :: st => bif Nat.beq x 1 || Nat.beq x 2 || Nat.beq y 1 || Nat.beq y 2 then none else bif Nat.beq x y then some (pc + len, ls, st, H, bs, fs) else mv_jmp pc off ls st H bs fs | _ => none)
  | .ifnull off => (match st with | .inr (.inr x) :: st => bif Nat.beq x 0 then mv_jmp pc off ls st H bs fs else some (pc + len, ls, st, H, bs, fs) | _ => none)
  | .ifnonnull off => (match st with | .inr (.inr x) :: st => bif Nat.beq x 0 then some (pc + len, ls, st, H, bs, fs) else mv_jmp pc off ls st H bs fs | _ => none)
  | .tableswitch d lo _ offs => (match st with | .inl (.inl x) :: st => mv_jmp pc (mv_sw x d (mj_tb2 lo offs.toList)) ls st H bs fs | _ => none)
  | .lookupswitch d ps => (match st with | .inl (.inl x) :: st => mv_jmp pc (mv_sw x d ps.toList) ls st H bs fs | _ => none)
  | .getstatic k => bif mj_gs own k then some (pc + len, ls, .inr (.inr 2) :: st, H, bs, fs) else none
  | .getfield k => (match st, mj_fl own k with
      | .inr (.inr a) :: st, some (c, j) => bif Nat.beq a 1 then none else bif Nat.beq (mv_kc H.2.2 a) (c + 1) then (bif Nat.beq (mj_T c j) 3 then some (pc + len, ls, .inr (.inr (mv_rc H.2.2 a j)) :: st, H, bs, fs) else some (pc + len, ls, .inl (mv_ic H.2.2 a j) :: st, H, bs, fs)) else none
      | _, _ => none)
  | .putfield k => (match mj_fl own k with
      | none => none
      | some (c, j) => bif (bif (mj_F c j).2.2.2 then ini && Nat.beq own c else true) then (match st with
        | .inl x :: .inr (.inr a) :: st => bif Nat.beq (mv_kc H.2.2 a) (c + 1) && !(Nat.beq (mj_T c j) 3) then (match mv_fit (mj_T c j) x fs with
            | some fs => (match mv_pI H a j x with | some H => some (pc + len, ls, st, H, bs, fs) | none => none)
            | none => none) else none
        | .inr (.inr x) :: .inr (.inr a) :: st => bif Nat.beq (mv_kc H.2.2 a) (c + 1) && Nat.beq (mj_T c j) 3 then (match mv_pR H a j x with | some H => some (pc + len, ls, st, H, bs, fs) | none => none) else none
        | _ => none) else none)
  | .iaload => mv_ald tb 20 (pc + len) ls st H bs fs
  | .caload => mv_ald tb 22 (pc + len) ls st H bs fs
  | .baload => mv_ald tb 23 (pc + len) ls st H bs fs
  | .laload => (match st with | .inl (.inl i) :: .inr (.inr a) :: st => bif Nat.beq (mv_kc H.2.2 a) 21 && !(Nat.beq a 1) && mv_in i (mv_lc H.2.2 a) then some (pc + len, ls, .inr (.inl (mv_jc H.2.2 a i.toNatClampNeg)) :: st, H, bs, fs) else none | _ => none)
  | .aaload => (match st with | .inl (.inl i) :: .inr (.inr a) :: st => bif Nat.ble 30 (mv_kc H.2.2 a) && !(Nat.beq a 1) && mv_in i (mv_lc H.2.2 a) then some (pc + len, ls, .inr (.inr (mv_rc H.2.2 a i.toNatClampNeg)) :: st, H, bs, fs) else none | _ => none)
  | .iastore => mv_ast 20 0 (pc + len) ls st H bs fs
  | .castore => mv_ast 22 2 (pc + len) ls st H bs fs
  | .bastore => mv_ast 23 1 (pc + len) ls st H bs fs
  | .lastore => (match st with | .inr (.inl x) :: .inl (.inl i) :: .inr (.inr a) :: st => bif Nat.beq (mv_kc H.2.2 a) 21 && !(Nat.beq a 1) && mv_in i (mv_lc H.2.2 a) then (match mv_pJ H a i.toNatClampNeg x with | some H => some (pc + len, ls, st, H, bs, fs) | none => none) else none | _ => none)
  | .aastore => (match st with | .inr (.inr x) :: .inl (.inl i) :: .inr (.inr a) :: st => bif Nat.ble 30 (mv_kc H.2.2 a) && !(Nat.beq a 1) && mv_in i (mv_lc H.2.2 a) && (Nat.beq x 0 || Nat.beq (mv_kc H.2.2 x + 29) (mv_kc H.2.2 a)) then (match mv_pR H a i.toNatClampNeg x with | some H => some (pc + len, ls, st, H, bs, fs) | none => none) else none | _ => none)
  | .arraylength => (match st with | .inr (.inr a) :: st => bif Nat.ble 20 (mv_kc H.2.2 a) then some (pc + len, ls, .inl (bif Nat.beq a 1 then .inr 0 else .inl (Int32.ofNat (mv_lc H.2.2 a))) :: st, H, bs, fs) else none | _ => none)
  | .newarray t => (match st with | .inl (.inl n) :: st => bif !(decide (n < 0)) && Nat.ble n.toNatClampNeg 1000000 && !(Nat.beq (mj_aty t) 0) then mv_new (mj_aty t) n.toNatClampNeg (pc + len) [] ls st H bs fs else none | _ => none)
  | .anewarray k => (match st, mj_cl own k with | .inl (.inl n) :: st, some c => bif !(decide (n < 0)) && Nat.ble n.toNatClampNeg 1000000 && mj_ao c then mv_new (c + 30) n.toNatClampNeg (pc + len) [] ls st H bs fs else none | _, _ => none)
  | .new k => (match mj_cl own k with | some c => bif Nat.ble 15 c then none else mv_new (c + 1) (mj_N c) (pc + len) [] ls st H bs fs | none => none)
  | .invokespecial k => (match st, mj_me own k with | .inr (.inr a) :: st, some 900001 => bif !(Nat.beq (mv_kc H.2.2 a) 0) && Nat.ble (mv_w st) 8 then some (pc + len, ls, st, H, bs, fs) else none | _, _ => none)
  | .invokestatic k => (match mj_me own k, st with
      | some 900002, .inl (.inl y) :: .inl (.inl x) :: st => bif Nat.ble (mv_w st) 8 then some (pc + len, ls, .inl (.inl (mj_mn x y)) :: st, H, bs, fs) else none
      | some 900003, .inl (.inl y) :: .inl (.inl x) :: st => bif Nat.ble (mv_w st) 8 then some (pc + len, ls, .inl (.inl (mj_mx x y)) :: st, H, bs, fs) else none
      | some 900004, .inl (.inl n) :: .inl (.inl dp) :: .inr (.inr a) :: .inl (.inl sp) :: .inr (.inr a0) :: st => bif (Nat.ble (mv_w st) 8 && (Nat.beq (mv_kc H.2.2 a) 20 || Nat.beq (mv_kc H.2.2 a) 22)) && (Nat.beq (mv_kc H.2.2 a0) (mv_kc H.2.2 a) && Nat.ble 2 a0) && (Nat.ble 3 a && !(decide (sp < 0))) && (!(decide (dp < 0)) && !(decide (n < 0))) && (Nat.ble (sp.toNatClampNeg + n.toNatClampNeg) (mv_lc H.2.2 a0) && Nat.ble (dp.toNatClampNeg + n.toNatClampNeg) (mv_lc H.2.2 a)) then (match mv_cp H a0 sp.toNatClampNeg a dp.toNatClampNeg n.toNatClampNeg with | some H => some (pc + len, ls, st, H, bs, fs) | none => none) else none
      | _, _ => none)
  | _ => none
-- the laws
theorem mv_tb_e {ρ : Nat → Int32} {tb : mv_T} (ht : mv_okT ρ tb) {o : Nat} {a b r : mv_I} (h : mv_tb tb o a b = some r) : mv_dI ρ r = mv_ops o (mv_dI ρ a) (mv_dI ρ b) := by
  induction tb with
  | nil => cases h
  | cons e l ih =>
    obtain ⟨o', a', b', r'⟩ := e
    unfold mv_tb at h
    cases hc : (Nat.beq o' o && (decide (a' = a) && decide (b' = b))) with
    | true =>
      rw [hc] at h
      cases h
      rw [Bool.and_eq_true, Bool.and_eq_true, decide_eq_true_eq, decide_eq_true_eq] at hc
      obtain ⟨h1, rfl, rfl⟩ := hc
      obtain rfl := Nat.eq_of_beq_eq_true h1
      exact ht.2 _ List.mem_cons_self
    | false =>
      rw [hc] at h
      exact ih ⟨ht.1, fun e he => ht.2 e (List.mem_cons_of_mem _ he)⟩ h
theorem mv_rd_e {ρ : Nat → Int32} {tb : mv_T} (ht : mv_okT ρ tb) (s : Nat) : mv_dI ρ (mv_rd tb s) = ρ s := by
  unfold mv_rd
  split
  · rename_i r hr
    exact mv_tb_e ht hr
  · rfl
theorem mv_bin_e {ρ : Nat → Int32} {tb : mv_T} (ht : mv_okT ρ tb) {o : Nat} {a b r : mv_I} (h : mv_bin tb o a b = some r) : mv_dI ρ r = mv_ops o (mv_dI ρ a) (mv_dI ρ b) := by
  unfold mv_bin at h
  split at h
  · cases h
    rfl
  · exact mv_tb_e ht h
theorem mv_icb_e (c : ClassFile.Cond) (x y : Int32) : mv_icb c x y = true ↔ mj_ic c x y := by
  cases c <;> simp [mv_icb, mj_ic]
theorem mv_cn_e (c : ClassFile.Cond) (x y : Int32) : mv_icn (mv_cn c) x y ↔ mj_ic c x y := by
  cases c <;> exact Iff.rfl
theorem mv_cmp_e {ρ : Nat → Int32} {c : ClassFile.Cond} {x y : mv_I} {bs bs' : List Bool} {fs fs' : mv_F} {b : Bool} (h : mv_cmp c x y bs fs = some (b, bs', fs')) : (∀ z ∈ fs, z ∈ fs') ∧ ((∀ z ∈ fs', mv_hold ρ z) → (mj_ic c (mv_dI ρ x) (mv_dI ρ y) ↔ b = true)) := by
  unfold mv_cmp at h
  split at h
  · cases h
    exact ⟨fun z hz => hz, fun _ => (mv_icb_e c _ _).symm⟩
  · split at h
    · cases h
    · cases h
      refine ⟨fun z hz => List.mem_cons_of_mem _ hz, fun hf => ?_⟩
      exact (mv_cn_e c _ _).symm.trans (hf _ List.mem_cons_self)
theorem mv_br_e {pc t : Nat} {off : Int} {F : Nat → Prop} (h : mv_br pc off = some t) (hF : F t) : mj_br pc off F := by
  unfold mv_br at h
  unfold mj_br
  split at h
  · rename_i t' ht
    cases h
    rw [ht]
    exact hF
  · cases h
theorem mv_sw_e {x : Int32} {d : Int} {F : Int → Prop} : ∀ {l : List (Int × Int)}, F (mv_sw x d l) → mj_sw x (F d) F l
  | [], h => h
  | (k, o) :: ps, h => by
    unfold mv_sw at h
    by_cases hx : x = Int32.ofInt k
    · rw [decide_eq_true hx] at h
      exact ⟨fun _ => h, fun q => absurd hx q⟩
    · rw [decide_eq_false hx] at h
      exact ⟨fun q => absurd q hx, fun _ => mv_sw_e h⟩
theorem mv_fit_e {ρ : Nat → Int32} {t : Nat} {x : mv_I} {fs fs' : mv_F} (h : mv_fit t x fs = some fs') : (∀ z ∈ fs, z ∈ fs') ∧ ((∀ z ∈ fs', mv_hold ρ z) → mj_fit t (mv_dI ρ x)) := by
  unfold mv_fit at h
  split at h
  · cases h
    exact ⟨fun z hz => hz, fun _ => trivial⟩
  · rename_i x
    cases hb : (decide (x = 0) || decide (x = 1)) with
    | true =>
      rw [hb] at h
      cases h
      rw [Bool.or_eq_true, decide_eq_true_eq, decide_eq_true_eq] at hb
      exact ⟨fun z hz => hz, fun _ => hb⟩
    | false => rw [hb] at h; cases h
  · cases h
  · rename_i x h0 h1
    cases hb : (decide (0 ≤ x) && decide (x ≤ 65535)) with
    | true =>
      rw [hb] at h
      cases h
      rw [Bool.and_eq_true, decide_eq_true_eq, decide_eq_true_eq] at hb
      refine ⟨fun z hz => hz, fun _ => ?_⟩
      unfold mj_fit
      split
      · trivial
      · exact absurd rfl h1
      · exact hb
    | false => rw [hb] at h; cases h
  · rename_i k h0 h1
    cases h
    refine ⟨fun z hz => List.mem_cons_of_mem _ hz, fun hf => ?_⟩
    have h2 := (hf _ List.mem_cons_self).mpr rfl
    unfold mj_fit
    split
    · trivial
    · exact absurd rfl h1
    · exact h2
theorem mv_in_e {i : Int32} {n : Nat} (h : mv_in i n = true) : vp_in i n := by
  unfold mv_in at h
  rw [Bool.and_eq_true, Bool.not_eq_true', decide_eq_false_iff_not, Nat.blt_eq] at h
  exact fun q => q.elim h.1 (fun q => absurd h.2 (Nat.not_lt.mpr q))
theorem mv_cpl_e (z : mv_I) (f : Nat → mv_I) (dp : Nat) (l : List (Nat × mv_I)) : ∀ (n j : Nat), mv_lk z (mv_cpl f dp n l) j = if dp ≤ j ∧ j < dp + n then f (j - dp) else mv_lk z l j
  | 0, j => by rw [if_neg (by omega)]; rfl
  | n + 1, j => by
    unfold mv_cpl
    rw [mv_lk_c, mv_cpl_e z f dp l n j]
    by_cases h : j = dp + n
    · subst h
      rw [if_pos rfl, if_pos (by omega)]
      congr 1
      omega
    · rw [if_neg h]
      by_cases h2 : dp ≤ j ∧ j < dp + n
      · rw [if_pos h2, if_pos (by omega)]
      · rw [if_neg h2, if_neg (by omega)]
theorem mv_cp_e {ρ : Nat → Int32} {H H' : mv_H} {a0 sp a dp n : Nat} (h : mv_cp H a0 sp a dp n = some H') : mv_dG ρ H' = mj_cp (mv_dG ρ H) a0 sp a dp n := by
  unfold mv_cp at h
  split at h
  · rename_i c hc
    cases hb0 : Nat.beq a0 1 with
    | true => rw [hb0] at h; cases h
    | false =>
    rw [hb0] at h
    have h5 : a0 ≠ 1 := fun e => by rw [e] at hb0; cases hb0
    obtain ⟨h1, h2, h3, h4⟩ := mv_wr_e h
    unfold mv_dG mj_cp
    refine Prod.ext h1 (Prod.ext h2 (Prod.ext ?_ (Prod.ext ?_ (Prod.ext ?_ (Prod.ext ?_ ?_))))) <;> funext b
    · show mv_kc _ b = mv_kc _ b
      unfold mv_kc
      rw [h3 b]
      by_cases hb : b = a
      · rw [if_pos hb, hb, hc]
      · rw [if_neg hb]
    · show (if b = 1 then _ else mv_lc _ b) = (if b = 1 then _ else mv_lc _ b)
      congr 1
      unfold mv_lc
      rw [h3 b]
      by_cases hb : b = a
      · rw [if_pos hb, hb, hc]
      · rw [if_neg hb]
    · funext j
      show (if b = 1 then ρ (2 * j + 1) else mv_dI ρ (mv_ic H'.2.2 b j)) = if b = a ∧ dp ≤ j ∧ j < dp + n then (if a0 = 1 then ρ (2 * (sp + (j - dp)) + 1) else mv_dI ρ (mv_ic H.2.2 a0 (sp + (j - dp)))) else if b = 1 then ρ (2 * j + 1) else mv_dI ρ (mv_ic H.2.2 b j)
      unfold mv_ic
      rw [h3 b, if_neg h5]
      by_cases hb : b = a
      · subst hb
        rw [if_pos rfl, if_neg h4, if_neg h4]
        dsimp only
        rw [mv_cpl_e, hc]
        by_cases hj : dp ≤ j ∧ j < dp + n
        · rw [if_pos hj, if_pos ⟨rfl, hj⟩]
          rfl
        · rw [if_neg hj, if_neg (fun h => hj h.2)]
      · rw [if_neg hb, if_neg (show ¬ (b = a ∧ dp ≤ j ∧ j < dp + n) from fun h => hb h.1)]
    · funext j
      show mv_rc _ b j = mv_rc _ b j
      unfold mv_rc
      rw [h3 b]
      by_cases hb : b = a
      · rw [if_pos hb, hb, hc]
      · rw [if_neg hb]
    · funext j
      show mv_jc _ b j = mv_jc _ b j
      unfold mv_jc
      rw [h3 b]
      by_cases hb : b = a
      · rw [if_pos hb, hb, hc]
      · rw [if_neg hb]
  · cases h
