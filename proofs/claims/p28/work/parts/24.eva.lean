/-! THE EVALUATOR'S RUNS -/
def mv_ro (mi : Nat) (x : mv_I) (fs : mv_F) : Option mv_F := match mj_rt mi with
  | some .int => some fs
  | some .boolean => mv_fit 1 x fs
  | some .char => mv_fit 2 x fs
  | _ => none
def mv_rcv (H : mv_H) (mt : Nat) (as : List mv_V) : Bool := Nat.ble (mv_e as).length (mj_mL mt) && (match mj_sc mt, as with
  | true, _ => true
  | false, .inr (.inr a) :: _ => Nat.beq (mv_kc H.2.2 a) (mt / 1000 + 1)
  | false, _ => false)
abbrev mv_O : Type := Option mv_V ⊕ Nat
def mv_ini (mi : Nat) : Bool := bif (mj_y mi).name == "<init>" then true else false
/-- the end of a frame's run by an instruction that is no call: none if it isn't an end -/
def mv_end (d mi : Nat) (i : Instr) (st : List mv_V) (H : mv_H) (fs : mv_F) : Option (mv_O × mv_H × mv_F) := match i with
  | .ireturn => (match st with | [.inl x] => (match mv_ro mi x fs with | some fs => some (.inl (some (.inl x)), H, fs) | none => none) | _ => none)
  | .lreturn => (match st with | [.inr (.inl x)] => bif decide (mj_rt mi = some .long) then some (.inl (some (.inr (.inl x))), H, fs) else none | _ => none)
  | .areturn => (match st with | [.inr (.inr x)] => bif mj_rr mi then some (.inl (some (.inr (.inr x))), H, fs) else none | _ => none)
  | .return_ => (match st with | [] => bif decide (mj_rt mi = none) then some (.inl none, H, fs) else none | _ => none)
  | .new k => (match mj_cl (mi / 1000) k with
    | some c => bif Nat.ble 15 c && (Nat.beq (mj_kd mi) 1 && Nat.ble 8 d) then (match st with | [] => (match mv_al H (c + 1) 6 [] with | some H => some (.inr c, H, fs) | none => none) | _ => none) else none
    | none => none)
  | _ => none
def mv_ev (tb : mv_T) : Nat → Nat → Nat → Nat → mv_L → List mv_V → mv_H → List Bool → mv_F → Option (mv_O × mv_H × List Bool × mv_F)
  | 0, _, _, _, _, _, _, _, _ => none
  | f + 1, d, mi, pc, ls, st, H, bs, fs => match mj_at mi pc with
    | none => none
    | some (i, len) => match mj_tg (mi / 1000) i with
      | some mt => (match mv_tk (mj_na mt) [] st, d with
        | some (as, rest), d' + 1 => bif Nat.ble (mv_w rest) 8 && mv_rcv H mt as then
          (match mv_ev tb f d' mt 0 (mv_en as (mj_mL mt)) [] H bs fs with
            | none => none
            | some (.inl none, H, bs, fs) => mv_ev tb f (d' + 1) mi (pc + len) ls rest H bs fs
            | some (.inl (some v), H, bs, fs) => mv_ev tb f (d' + 1) mi (pc + len) ls (v :: rest) H bs fs
            | some (.inr k, H, bs, fs) => bif Nat.beq (mj_kd mi) 2 && Nat.beq (mj_kd mt) 1 then (match mj_hn mi k with
              | none => none
              | some (q, x) => mv_ev tb f (d' + 1) mi q (mv_p (mv_cl0 ls x) x none) [] H bs fs) else none) else none
        | _, _ => none)
      | none => (match mv_end d mi i st H fs with
        | some (o, H, fs) => some (o, H, bs, fs)
        | none => (match mv_s1 tb (mi / 1000) (mv_ini mi) i len pc ls st H bs fs with
          | some (pc, ls, st, H, bs, fs) => mv_ev tb f d mi pc ls st H bs fs
          | none => none))
def mv_H0 : mv_H := (3, 0, [[(0, 0, [], [], []), (20, 0, [], [], []), (22, 0, [], [], [])]])
