/-! THE REAL MACHINE: p28's tables; what does not depend on tables is the ghost's (wip/p28/real.py) -/
def rj_aty : ArrayType → Nat
  | .int => 20
  | .char => 22
  | _ => 0
/-- one instruction that calls no method of the tables: what must hold, and where it goes on -/
def rj_s1 (own : Nat) (ini : Bool) (i : Instr) (len pc : Nat) (ls : List (Option mj_V)) (st : List mj_V) (G : mj_G) (K : mj_K) : Prop := match i with
  | .iconst n => K (pc + len) ls (.inl (Int32.ofInt n) :: st) G
  | .bipush n => K (pc + len) ls (.inl (Int8.ofInt n).toInt32 :: st) G
  | .sipush n => K (pc + len) ls (.inl (Int16.ofInt n).toInt32 :: st) G
  | .lconst n => K (pc + len) ls (.inr (.inl (Int64.ofNat (n : Nat))) :: st) G
  | .aconst_null => K (pc + len) ls (.inr (.inr 0) :: st) G
  | .ldc k => (match rj_ki own k with | some v => K (pc + len) ls (.inl v :: st) G | none => False)
  | .ldc_w k => (match rj_ki own k with | some v => K (pc + len) ls (.inl v :: st) G | none => False)
  | .ldc2_w k => (match rj_kl own k with | some v => K (pc + len) ls (.inr (.inl v) :: st) G | none => False)
  | .iload k => mj_ldi ls k (fun v => K (pc + len) ls (v :: st) G)
  | .iload_n k => mj_ldi ls k (fun v => K (pc + len) ls (v :: st) G)
  | .lload k => mj_ldl ls k (fun v => K (pc + len) ls (v :: st) G)
  | .lload_n k => mj_ldl ls k (fun v => K (pc + len) ls (v :: st) G)
  | .aload k => mj_lda ls k (fun v => K (pc + len) ls (v :: st) G)
  | .aload_n k => mj_lda ls k (fun v => K (pc + len) ls (v :: st) G)
  | .istore k => mj_sti ls k st (fun ls st => K (pc + len) ls st G)
  | .istore_n k => mj_sti ls k st (fun ls st => K (pc + len) ls st G)
  | .lstore k => mj_stl ls k st (fun ls st => K (pc + len) ls st G)
  | .lstore_n k => mj_stl ls k st (fun ls st => K (pc + len) ls st G)
  | .astore k => mj_sta ls k st (fun ls st => K (pc + len) ls st G)
  | .astore_n k => mj_sta ls k st (fun ls st => K (pc + len) ls st G)
  | .iinc k n => (match mj_g ls k with | some (.inl x) => (bif k < ls.length then K (pc + len) (mj_s ls k (.inl (x + Int32.ofInt n))) st G else False) | _ => False)
  | .iadd => mj_b2 (fun x y => x + y) st (fun st => K (pc + len) ls st G)
  | .isub => mj_b2 (fun x y => x - y) st (fun st => K (pc + len) ls st G)
  | .imul => mj_b2 (fun x y => x * y) st (fun st => K (pc + len) ls st G)
  | .iand => mj_b2 (fun x y => x &&& y) st (fun st => K (pc + len) ls st G)
  | .ior => mj_b2 (fun x y => x ||| y) st (fun st => K (pc + len) ls st G)
  | .ixor => mj_b2 (fun x y => x ^^^ y) st (fun st => K (pc + len) ls st G)
  | .ishl => mj_b2 (fun x y => x <<< (y &&& 31)) st (fun st => K (pc + len) ls st G)
  | .ishr => mj_b2 (fun x y => x >>> (y &&& 31)) st (fun st => K (pc + len) ls st G)
  | .idiv => (match st with | .inl y :: .inl x :: st => ¬ y = 0 ∧ K (pc + len) ls (.inl (x / y) :: st) G | _ => False)
  | .irem => (match st with | .inl y :: .inl x :: st => ¬ y = 0 ∧ K (pc + len) ls (.inl (x - x / y * y) :: st) G | _ => False)
  | .ineg => (match st with | .inl x :: st => K (pc + len) ls (.inl (-x) :: st) G | _ => False)
  | .ladd => mj_b2l (fun x y => x + y) st (fun st => K (pc + len) ls st G)
  | .lsub => mj_b2l (fun x y => x - y) st (fun st => K (pc + len) ls st G)
  | .lmul => mj_b2l (fun x y => x * y) st (fun st => K (pc + len) ls st G)
  | .land => mj_b2l (fun x y => x &&& y) st (fun st => K (pc + len) ls st G)
  | .lshr => (match st with | .inl y :: .inr (.inl x) :: st => K (pc + len) ls (.inr (.inl (x >>> (y.toInt64 &&& 63))) :: st) G | _ => False)
  | .ldiv => (match st with | .inr (.inl y) :: .inr (.inl x) :: st => ¬ y = 0 ∧ K (pc + len) ls (.inr (.inl (x / y)) :: st) G | _ => False)
  | .lrem => (match st with | .inr (.inl y) :: .inr (.inl x) :: st => ¬ y = 0 ∧ K (pc + len) ls (.inr (.inl (x - x / y * y)) :: st) G | _ => False)
  | .lneg => (match st with | .inr (.inl x) :: st => K (pc + len) ls (.inr (.inl (-x)) :: st) G | _ => False)
  | .lcmp => (match st with | .inr (.inl y) :: .inr (.inl x) :: st => K (pc + len) ls (.inl (lg_cmp x y) :: st) G | _ => False)
  | .i2l => (match st with | .inl x :: st => K (pc + len) ls (.inr (.inl x.toInt64) :: st) G | _ => False)
  | .l2i => (match st with | .inr (.inl x) :: st => K (pc + len) ls (.inl x.toInt32 :: st) G | _ => False)
  | .i2c => (match st with | .inl x :: st => K (pc + len) ls (.inl (x.toUInt32 % 65536).toInt32 :: st) G | _ => False)
  | .dup => (match st with | .inl x :: st => K (pc + len) ls (.inl x :: .inl x :: st) G | .inr (.inr x) :: st => K (pc + len) ls (.inr (.inr x) :: .inr (.inr x) :: st) G | _ => False)
  | .pop => (match st with | .inl _ :: st => K (pc + len) ls st G | .inr (.inr _) :: st => K (pc + len) ls st G | _ => False)
  | .dup2 => (match st with | .inl y :: .inr (.inr x) :: st => K (pc + len) ls (.inl y :: .inr (.inr x) :: .inl y :: .inr (.inr x) :: st) G | _ => False)
  | .goto off => mj_br pc off (fun t => K t ls st G)
  | .ifCond c off => (match st with | .inl x :: st => (mj_ic c x 0 → mj_br pc off (fun t => K t ls st G)) ∧ (¬ mj_ic c x 0 → K (pc + len) ls st G) | _ => False)
  | .if_icmp c off => (match st with | .inl y :: .inl x :: st => (mj_ic c x y → mj_br pc off (fun t => K t ls st G)) ∧ (¬ mj_ic c x y → K (pc + len) ls st G) | _ => False)
  | .if_acmp .ne off => (match st with | .inr (.inr y) :: .inr (.inr x) :: st => x ≠ 1 ∧ x ≠ 2 ∧ y ≠ 1 ∧ y ≠ 2 ∧ (¬ x = y → mj_br pc off (fun t => K t ls st G)) ∧ (x = y → K (pc + len) ls st G) | _ => False)
  | .ifnull off => (match st with | .inr (.inr x) :: st => (x = 0 → mj_br pc off (fun t => K t ls st G)) ∧ (¬ x = 0 → K (pc + len) ls st G) | _ => False)
  | .ifnonnull off => (match st with | .inr (.inr x) :: st => (¬ x = 0 → mj_br pc off (fun t => K t ls st G)) ∧ (x = 0 → K (pc + len) ls st G) | _ => False)
  | .tableswitch d lo _ offs => (match st with | .inl x :: st => mj_sw x (mj_br pc d (fun t => K t ls st G)) (fun o => mj_br pc o (fun t => K t ls st G)) (mj_tb2 lo offs.toList) | _ => False)
  | .lookupswitch d ps => (match st with | .inl x :: st => mj_sw x (mj_br pc d (fun t => K t ls st G)) (fun o => mj_br pc o (fun t => K t ls st G)) ps.toList | _ => False)
  | .getstatic k => (bif mj_gs own k then K (pc + len) ls (.inr (.inr 2) :: st) G else False)
  | .getfield k => (match st, rj_fl own k with
      | .inr (.inr a) :: st, some (c, j) => mj_k G a = c + 1 ∧ (match rj_T c j with | 3 => K (pc + len) ls (.inr (.inr (mj_r G a j)) :: st) G | _ => K (pc + len) ls (.inl (mj_i G a j) :: st) G)
      | _, _ => False)
  | .putfield k => (match rj_fl own k with
      | none => False
      | some (c, j) => (bif (rj_F c j).2.2.2 then ini = true ∧ own = c else True) ∧ (match st with
        | .inl x :: .inr (.inr a) :: st => mj_k G a = c + 1 ∧ (bif rj_T c j == 3 then False else True) ∧ mj_fit (rj_T c j) x ∧ K (pc + len) ls st (mj_pI G a j x)
        | .inr (.inr x) :: .inr (.inr a) :: st => mj_k G a = c + 1 ∧ (bif rj_T c j == 3 then True else False) ∧ K (pc + len) ls st (mj_pR G a j x)
        | _ => False))
  | .iaload => mj_ald G 20 st (fun st => K (pc + len) ls st G)
  | .caload => mj_ald G 22 st (fun st => K (pc + len) ls st G)
  | .baload => mj_ald G 23 st (fun st => K (pc + len) ls st G)
  | .laload => (match st with | .inl i :: .inr (.inr a) :: st => mj_k G a = 21 ∧ vp_in i (mj_l G a) ∧ K (pc + len) ls (.inr (.inl (mj_j G a i.toNatClampNeg)) :: st) G | _ => False)
  | .aaload => (match st with | .inl i :: .inr (.inr a) :: st => 30 ≤ mj_k G a ∧ vp_in i (mj_l G a) ∧ K (pc + len) ls (.inr (.inr (mj_r G a i.toNatClampNeg)) :: st) G | _ => False)
  | .iastore => mj_ast G 20 0 st (fun st G => K (pc + len) ls st G)
  | .castore => mj_ast G 22 2 st (fun st G => K (pc + len) ls st G)
  | .bastore => mj_ast G 23 1 st (fun st G => K (pc + len) ls st G)
  | .lastore => (match st with | .inr (.inl x) :: .inl i :: .inr (.inr a) :: st => mj_k G a = 21 ∧ vp_in i (mj_l G a) ∧ K (pc + len) ls st (mj_pJ G a i.toNatClampNeg x) | _ => False)
  | .aastore => (match st with | .inr (.inr x) :: .inl i :: .inr (.inr a) :: st => 30 ≤ mj_k G a ∧ vp_in i (mj_l G a) ∧ (x = 0 ∨ mj_k G x + 29 = mj_k G a) ∧ K (pc + len) ls st (mj_pR G a i.toNatClampNeg x) | _ => False)
  | .arraylength => (match st with | .inr (.inr a) :: st => 20 ≤ mj_k G a ∧ K (pc + len) ls (.inl (Int32.ofNat (mj_l G a)) :: st) G | _ => False)
  | .newarray t => (match st with | .inl n :: st => ¬ n < 0 ∧ n.toNatClampNeg ≤ 1000000 ∧ (bif rj_aty t == 0 then False else True) ∧ K (pc + len) ls (.inr (.inr (mj_n G)) :: st) (mj_al G (rj_aty t) n.toNatClampNeg (fun _ => 0)) | _ => False)
  | .anewarray k => (match st, rj_cl own k with | .inl n :: st, some c => ¬ n < 0 ∧ n.toNatClampNeg ≤ 1000000 ∧ (bif mj_ao c then K (pc + len) ls (.inr (.inr (mj_n G)) :: st) (mj_al G (c + 30) n.toNatClampNeg (fun _ => 0)) else False) | _, _ => False)
  | .new k => (match rj_cl own k with | some c => (bif Nat.ble 15 c then False else K (pc + len) ls (.inr (.inr (mj_n G)) :: st) (mj_al G (c + 1) (rj_N c) (fun _ => 0))) | none => False)
  | .checkcast k => (match st with | .inr (.inr a) :: st => mj_k G a = 20 ∧ 3 ≤ a ∧ (bif Nat.beq own 2 && Nat.beq k 73 then K (pc + len) ls (.inr (.inr a) :: st) G else False) | _ => False)
  | .invokespecial k => (match st, rj_me own k with | .inr (.inr a) :: st, some 900001 => mj_k G a ≠ 0 ∧ mj_w st ≤ 8 ∧ K (pc + len) ls st G | _, _ => False)
  | .invokestatic k => (match rj_me own k, st with
      | some 900002, .inl y :: .inl x :: st => mj_w st ≤ 8 ∧ K (pc + len) ls (.inl (mj_mn x y) :: st) G
      | some 900003, .inl y :: .inl x :: st => mj_w st ≤ 8 ∧ K (pc + len) ls (.inl (mj_mx x y) :: st) G
      | some 900004, .inl n :: .inl dp :: .inr (.inr a) :: .inl sp :: .inr (.inr a0) :: st => mj_w st ≤ 8 ∧ (mj_k G a = 20 ∨ mj_k G a = 22) ∧ mj_k G a0 = mj_k G a ∧ 2 ≤ a0 ∧ 3 ≤ a ∧ ¬ sp < 0 ∧ ¬ dp < 0 ∧ ¬ n < 0 ∧ sp.toNatClampNeg + n.toNatClampNeg ≤ mj_l G a0 ∧ dp.toNatClampNeg + n.toNatClampNeg ≤ mj_l G a ∧ K (pc + len) ls st (mj_cp G a0 sp.toNatClampNeg a dp.toNatClampNeg n.toNatClampNeg)
      | _, _ => False)
  | .invokevirtual k => (match st, rj_me own k with | .inr (.inr a) :: st, some 900005 => mj_w st ≤ 8 ∧ mj_k G a = 20 ∧ 3 ≤ a ∧ mj_l G a ≤ 1000000 ∧ K (pc + len) ls (.inr (.inr (mj_n G)) :: st) (mj_al G 20 (mj_l G a) (mj_i G a)) | _, _ => False)
  | _ => False
def rj_m (mi : Nat) : mj_MT := (rj_M (mi / 1000)).getD (mi % 1000) (⟨#[]⟩, 0, none, ⟨"", "", ""⟩, false, 0, 9, [])
def rj_at (mi pc : Nat) : Option (Instr × Nat) := mj_fd pc (mj_nth (rj_C (mi / 1000)) (mi % 1000))
def rj_mL (mi : Nat) : Nat := (rj_m mi).2.1
def rj_rt (mi : Nat) : Option FieldType := (rj_m mi).2.2.1
def rj_y (mi : Nat) : MethodName := (rj_m mi).2.2.2.1
def rj_sc (mi : Nat) : Bool := (rj_m mi).2.2.2.2.1
def rj_na (mi : Nat) : Nat := (rj_m mi).2.2.2.2.2.1
def rj_kd (mi : Nat) : Nat := (rj_m mi).2.2.2.2.2.2.1
/-- handlers of the law's wrappers: what is thrown, behind the store of the thrown thing, in which place that lies -/
def rj_hn (mi k : Nat) : Option (Nat × Nat) := match mi, k with
  | 14003, 15 => some (8, 2) | 14003, 16 => some (12, 2)
  | 14004, 17 => some (249, 5) | 14004, 15 => some (254, 5) | 14004, 16 => some (259, 5)
  | _, _ => none
def rj_ro (mi : Nat) (x : Int32) : Prop := match rj_rt mi with
  | some .int => True
  | some .boolean => mj_b x
  | some .char => mj_c x
  | _ => False
def rj_rr (mi : Nat) : Bool := match rj_rt mi with
  | some (.object _) => true
  | some (.array _) => true
  | _ => false
/-- a call's target among the tables, by the way of the call -/
def rj_tg (own : Nat) (i : Instr) : Option Nat := match i with
  | .invokestatic k => (match rj_me own k with | some t => bif Nat.ble 900000 t then none else some t | none => none)
  | .invokevirtual k => (match rj_me own k with | some t => bif Nat.ble 900000 t then none else some t | none => none)
  | .invokespecial k => (match rj_me own k with | some t => bif Nat.ble 900000 t then none else some t | none => none)
  | _ => none
/-- a receiver is an object that has the method -/
def rj_rc (G : mj_G) (mj : Nat) (as : List mj_V) : Prop := (mj_e as).length ≤ rj_mL mj ∧ (match rj_sc mj, as with
  | true, _ => True
  | false, .inr (.inr a) :: _ => mj_k G a = mj / 1000 + 1
  | false, _ => False)
def rj_XF : Nat → Nat → Nat → Nat → List (Option mj_V) → List mj_V → mj_G → (mj_O → mj_G → Prop) → Prop
  | 0, _, _, _, _, _, _, _ => False
  | f + 1, d, mi, pc, ls, st, G, Q => match rj_at mi pc with
    | none => False
    | some (i, len) => match rj_tg (mi / 1000) i with
      | some mt => (match mj_tk (rj_na mt) [] st with
          | none => False
          | some (as, rest) => mj_w rest ≤ 8 ∧ rj_rc G mt as ∧ ∃ d', d = d' + 1 ∧ rj_XF f d' mt 0 (mj_en as (rj_mL mt)) [] G (fun o G' => match o with
              | .inl none => rj_XF f d mi (pc + len) ls rest G' Q
              | .inl (some v) => rj_XF f d mi (pc + len) ls (v :: rest) G' Q
              | .inr k => rj_kd mt = 1 ∧ (match rj_hn mi k with | none => rj_kd mi = 1 ∧ Q (.inr k) G' | some (q, x) => rj_kd mi = 2 ∧ rj_XF f d mi q (mj_p (mj_cl0 ls x) x none) [] G' Q)))
      | none => (match i with
          | .ireturn => (match st with | [.inl x] => rj_ro mi x ∧ Q (.inl (some (.inl x))) G | _ => False)
          | .lreturn => (match st with | [.inr (.inl x)] => rj_rt mi = some .long ∧ Q (.inl (some (.inr (.inl x)))) G | _ => False)
          | .areturn => (match st with | [.inr (.inr x)] => rj_rr mi = true ∧ Q (.inl (some (.inr (.inr x)))) G | _ => False)
          | .return_ => (match st with | [] => rj_rt mi = none ∧ Q (.inl none) G | _ => False)
          | .new k => (match rj_cl (mi / 1000) k with
              | some c => (bif Nat.ble 15 c then st = [] ∧ rj_kd mi = 1 ∧ 8 ≤ d ∧ Q (.inr c) (mj_al G (c + 1) 6 (fun _ => 0)) else rj_s1 (mi / 1000) (bif (rj_y mi).name == "<init>" then true else false) i len pc ls st G (fun pc ls st G => rj_XF f d mi pc ls st G Q))
              | none => False)
          | i => rj_s1 (mi / 1000) (bif (rj_y mi).name == "<init>" then true else false) i len pc ls st G (fun pc ls st G => rj_XF f d mi pc ls st G Q))
def rj_stop (mi : Nat) (i : Instr) : Bool := match rj_tg (mi / 1000) i with
  | some _ => true
  | none => (match i with
    | .ireturn => true
    | .lreturn => true
    | .areturn => true
    | .return_ => true
    | .new k => (match rj_cl (mi / 1000) k with | some c => Nat.ble 15 c | none => true)
    | _ => false)
/-- a stretch without calls: up to a call, a return, a way back -/
def rj_sp : Nat → Nat → Nat → List (Option mj_V) → List mj_V → mj_G → mj_K → Prop
  | 0, _, pc, ls, st, G, K => K pc ls st G
  | f + 1, mi, pc, ls, st, G, K => match rj_at mi pc with
    | none => False
    | some (i, len) => bif rj_stop mi i then K pc ls st G else
        rj_s1 (mi / 1000) (bif (rj_y mi).name == "<init>" then true else false) i len pc ls st G (fun q ls st G => bif Nat.ble q pc then K q ls st G else rj_sp f mi q ls st G K)

