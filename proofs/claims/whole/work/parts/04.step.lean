/-! one instruction of the machine of positions -/
def rx_p1 : List Value → Option (Int32 × List Value)
  | .int x :: r => some (x, r)
  | _ => none
def rx_p2 : List Value → Option (Int32 × Int32 × List Value)
  | .int y :: .int x :: r => some (x, y, r)
  | _ => none
def rx_pl : List Value → Option (Int64 × Int64 × List Value)
  | .long y :: .long x :: r => some (x, y, r)
  | _ => none
def rx_pr : List Value → Option (Nat × List Value)
  | .ref k :: r => some (k, r)
  | _ => none
/-- a value over a reference (putfield) -/
def rx_pv : List Value → Option (Value × Nat × List Value)
  | v :: .ref k :: r => some (v, k, r)
  | _ => none
/-- an index over an array; none: over the script -/
def rx_pa : List Value → Option (Int32 × Option Nat × List Value)
  | .int i :: .ref k :: r => some (i, some k, r)
  | .int i :: .retAddr _ :: r => some (i, none, r)
  | _ => none
/-- a value to store, its index, the array -/
def rx_ps : List Value → Option (Int32 × Int32 × Nat × List Value)
  | .int x :: .int i :: .ref k :: r => some (x, i, k, r)
  | _ => none
/-- an array's reference; none: the script's -/
def rx_pq : List Value → Option (Option Nat × List Value)
  | .ref k :: r => some (some k, r)
  | .retAddr _ :: r => some (none, r)
  | _ => none
/-- a value of one word -/
def rx_pw : List Value → Option (Value × List Value)
  | v :: r => if v.category = 1 then some (v, r) else none
  | _ => none
def rx_pw2 : List Value → Option (Value × Value × List Value)
  | v :: w :: r => if v.category = 1 ∧ w.category = 1 then some (v, w, r) else none
  | _ => none
/-- a reference to load or to store in a local -/
def rx_isr : Value → Bool
  | .ref _ => true
  | .retAddr _ => true
  | _ => false
def rx_tgt (pc : Nat) (off : Int) : Option Nat := if 0 ≤ (pc : Int) + off then some ((pc : Int) + off).toNat else none
def rx_gf (h : rx_H) (q ci k : Nat) : Option Value := match h[q]? with
  | some (.inr (c, fs)) => if c = ci then fs[k]? else none
  | _ => none
def rx_pf (h : rx_H) (q ci k : Nat) (v : Value) : Option rx_H := match h[q]? with
  | some (.inr (c, fs)) => if c = ci then (if k < fs.length then some (h.set q (.inr (c, fs.set k v))) else none) else none
  | _ => none
/-- may a value stand in a field of a kind -/
def rx_okf : Nat → Value → Bool
  | 0, .int _ => true
  | 1, .int x => x == 0 || x == 1
  | 2, .ref _ => true
  | _, _ => false
def rx_ga (h : rx_H) (q t : Nat) : Option (Nat × (Nat → Int32)) := match h[q]? with
  | some (.inl (c, n, .inl f)) => if c = t then some (n, f) else none
  | _ => none
def rx_gq (h : rx_H) (q : Nat) : Option (Nat × (Nat → Option Nat)) := match h[q]? with
  | some (.inl (c, n, .inr (.inr (.inr (.inr f))))) => if c = 2 then some (n, f) else none
  | _ => none
def rx_gl (h : rx_H) (q : Nat) : Option Nat := match h[q]? with
  | some (.inl (c, n, .inl _)) => if c = 0 ∨ c = 1 then some n else none
  | _ => none
/-- int arrays: type 0 int, 1 boolean -/
def rx_nar (t : Nat) (x : Int32) : Int32 := if t = 1 then vp_nar .boolean x else x
def rx_ald (h : rx_H) (q t : Nat) (i : Int32) : Option Int32 := match rx_ga h q t with
  | some (n, f) => if 0 ≤ i.toInt ∧ i.toInt < (n : Int) then some (f i.toNatClampNeg) else none
  | none => none
def rx_ast (h : rx_H) (q t : Nat) (i x : Int32) : Option rx_H := match rx_ga h q t with
  | some (n, f) => if 0 ≤ i.toInt ∧ i.toInt < (n : Int) then some (h.set q (.inl (t, n, .inl (upd f i.toNatClampNeg (rx_nar t x))))) else none
  | none => none
def rx_qld (h : rx_H) (q : Nat) (i : Int32) : Option Nat := match rx_gq h q with
  | some (n, f) => if 0 ≤ i.toInt ∧ i.toInt < (n : Int) then f i.toNatClampNeg else none
  | none => none
def rx_sld (sc : rx_S) (i : Int32) : Option Int32 := if 0 ≤ i.toInt ∧ i.toInt < (sc.1 : Int) then some (sc.2 i.toNatClampNeg) else none
/-- a switch by table: an offset -/
def rx_tsw : List Int → Int → Int → Int → Int
  | [], _, d, _ => d
  | o :: os, lo, d, x => if x = lo then o else rx_tsw os (lo + 1) d x
/-- the arguments of a call, and what stays on the stack -/
def rx_pop (n : Nat) (st : List Value) : Option (List Value × List Value) := if n ≤ st.length then some ((st.take n).reverse, st.drop n) else none
/-- is the receiver an object of the class -/
def rx_rcv (h : rx_H) (ci : Nat) : List Value → Bool
  | .ref q :: _ => match h[q]? with
    | some (.inr (c, _)) => c == ci
    | _ => false
  | _ => false
def rx_isref : List Value → Bool
  | .ref _ :: _ => true
  | _ => false
def rx_chk (i : Nat) (h : rx_H) (j kd : Nat) (As rest : List Value) (bc bs : Nat) : Bool :=
  decide (rx_fr j + 1 ≤ rx_fr i) && decide (8 + (rx_ml j + 11) + rx_lo j ≤ rx_lo i) && As.all (fun v => v.category == 1) && decide ((rest.map fun v => v.category).sum ≤ 8) && decide (rx_mc j ≤ bc) && decide (rx_ms j ≤ bs) && (if kd = 0 then rx_rcv h (rx_ow j) As else if kd = 1 then true else rx_isref As)
def rx_do (i pc : Nat) (lv : rx_L) (rest : List Value) (bc bs j : Nat) (As : List Value) (h : rx_H) : rx_R :=
  some (.inr (.inr ((j, 0, As.map some ++ List.replicate (rx_ml j - rx_na j) none, [], h, rx_mc j, rx_ms j), fun r => some (i, pc + 3, lv, r.1.toList ++ rest, r.2, bc - rx_mc j, bs - rx_ms j))))
def rx_cal (kd0 : Nat → Bool) (i pc : Nat) (lv : rx_L) (st : List Value) (h : rx_H) (bc bs idx : Nat) : rx_R :=
  match rx_mll.lookup (rx_ow i, idx) with
  | none => none
  | some (j, kd) => if kd0 kd = true then
      (if kd = 4 then (match st with
        | .ref _ :: r => if 1 ≤ rx_fr i ∧ 20 ≤ rx_lo i ∧ (r.map fun v => v.category).sum ≤ 8 then some (.inl (i, pc + 3, lv, r, h, bc, bs)) else none
        | _ => none)
      else match rx_pop (rx_na j) st with
        | none => none
        | some (As, rest) => if rx_chk i h j kd As rest bc bs = true then rx_do i pc lv rest bc bs j As h else none)
    else none
/-- the value that a method answers -/
def rx_rets (i : Nat) (st : List Value) : Option (Option Value) := match st, rx_rt i with
  | [], none => some none
  | [.int x], some .int => some (some (.int x))
  | [.int x], some .boolean => if x = 0 ∨ x = 1 then some (some (.int x)) else none
  | _, _ => none
def rx_len : Instr → Nat → Nat
  | .bipush _, _ => 2
  | .iload _, _ => 2
  | .istore _, _ => 2
  | .aload _, _ => 2
  | .astore _, _ => 2
  | .ldc _, _ => 2
  | .newarray _, _ => 2
  | .sipush _, _ => 3
  | .ldc2_w _, _ => 3
  | .iinc _ _, _ => 3
  | .getfield _, _ => 3
  | .putfield _, _ => 3
  | .new _, _ => 3
  | .goto _, _ => 3
  | .ifCond _ _, _ => 3
  | .if_icmp _ _, _ => 3
  | .invokevirtual _, _ => 3
  | .invokespecial _, _ => 3
  | .invokestatic _, _ => 3
  | .multianewarray _ _, _ => 4
  | .tableswitch _ _ _ _, n => n
  | .lookupswitch _ _, n => n
  | _, _ => 1
def rx_cz (c : Jvm.ClassFile.Cond) (x : Int32) : Bool := match c with
  | .eq => decide (x = 0)
  | .ne => decide (¬ x = 0)
  | .lt => decide (x < 0)
  | .ge => decide (0 ≤ x)
  | .gt => decide (0 < x)
  | .le => decide (x ≤ 0)
def rx_cc (c : Jvm.ClassFile.Cond) (x y : Int32) : Bool := match c with
  | .eq => decide (x = y)
  | .ne => decide (¬ x = y)
  | .lt => decide (x < y)
  | .ge => decide (y ≤ x)
  | .gt => decide (y < x)
  | .le => decide (x ≤ y)
abbrev rx_nx (i pc : Nat) (lv : rx_L) (st : List Value) (h : rx_H) (bc bs : Nat) : rx_R := some (.inl (i, pc, lv, st, h, bc, bs))
def rx_aty : ArrayType → Option Nat
  | .int => some 0
  | .boolean => some 1
  | _ => none
def rx_ins (sc : rx_S) (ins : Instr) (i pc : Nat) (lv : rx_L) (st : List Value) (h : rx_H) (bc bs : Nat) : rx_R := match ins with
  | .iconst n => rx_nx i (pc + 1) lv (.int (Int32.ofInt n) :: st) h bc bs
  | .bipush n => rx_nx i (pc + 2) lv (.int (Int8.ofInt n).toInt32 :: st) h bc bs
  | .sipush n => rx_nx i (pc + 3) lv (.int (Int16.ofInt n).toInt32 :: st) h bc bs
  | .ldc idx => (rx_kl.lookup (rx_ow i, idx)).bind fun v => rx_nx i (pc + 2) lv (.int v :: st) h bc bs
  | .ldc2_w idx => (rx_k2.lookup (rx_ow i, idx)).bind fun v => rx_nx i (pc + 3) lv (.long v :: st) h bc bs
  | .iload_n k => match lv[(k : Nat)]? with
    | some (some (.int x)) => rx_nx i (pc + 1) lv (.int x :: st) h bc bs
    | _ => none
  | .iload k => match lv[k]? with
    | some (some (.int x)) => rx_nx i (pc + 2) lv (.int x :: st) h bc bs
    | _ => none
  | .aload_n k => match lv[(k : Nat)]? with
    | some (some v) => if rx_isr v = true then rx_nx i (pc + 1) lv (v :: st) h bc bs else none
    | _ => none
  | .aload k => match lv[k]? with
    | some (some v) => if rx_isr v = true then rx_nx i (pc + 2) lv (v :: st) h bc bs else none
    | _ => none
  | .istore_n k => (rx_p1 st).bind fun q => if (k : Nat) < rx_ml i then rx_nx i (pc + 1) (lv.set k (some (.int q.1))) q.2 h bc bs else none
  | .istore k => (rx_p1 st).bind fun q => if k < rx_ml i then rx_nx i (pc + 2) (lv.set k (some (.int q.1))) q.2 h bc bs else none
  | .astore_n k => (rx_pr st).bind fun q => if (k : Nat) < rx_ml i then rx_nx i (pc + 1) (lv.set k (some (.ref q.1))) q.2 h bc bs else none
  | .astore k => (rx_pr st).bind fun q => if k < rx_ml i then rx_nx i (pc + 2) (lv.set k (some (.ref q.1))) q.2 h bc bs else none
  | .iinc k n => match lv[k]? with
    | some (some (.int x)) => if k < rx_ml i then rx_nx i (pc + 3) (lv.set k (some (.int (x + Int32.ofInt n)))) st h bc bs else none
    | _ => none
  | .iadd => (rx_p2 st).bind fun q => rx_nx i (pc + 1) lv (.int (q.1 + q.2.1) :: q.2.2) h bc bs
  | .isub => (rx_p2 st).bind fun q => rx_nx i (pc + 1) lv (.int (q.1 - q.2.1) :: q.2.2) h bc bs
  | .imul => (rx_p2 st).bind fun q => rx_nx i (pc + 1) lv (.int (q.1 * q.2.1) :: q.2.2) h bc bs
  | .iand => (rx_p2 st).bind fun q => rx_nx i (pc + 1) lv (.int (q.1 &&& q.2.1) :: q.2.2) h bc bs
  | .ior => (rx_p2 st).bind fun q => rx_nx i (pc + 1) lv (.int (q.1 ||| q.2.1) :: q.2.2) h bc bs
  | .ixor => (rx_p2 st).bind fun q => rx_nx i (pc + 1) lv (.int (q.1 ^^^ q.2.1) :: q.2.2) h bc bs
  | .irem => (rx_p2 st).bind fun q => if q.2.1 = 0 then none else rx_nx i (pc + 1) lv (.int (q.1 - q.1 / q.2.1 * q.2.1) :: q.2.2) h bc bs
  | .ishr => (rx_p2 st).bind fun q => rx_nx i (pc + 1) lv (.int (q.1 >>> (q.2.1 &&& 31)) :: q.2.2) h bc bs
  | .i2l => (rx_p1 st).bind fun q => rx_nx i (pc + 1) lv (.long q.1.toInt64 :: q.2) h bc bs
  | .ladd => (rx_pl st).bind fun q => rx_nx i (pc + 1) lv (.long (q.1 + q.2.1) :: q.2.2) h bc bs
  | .lcmp => (rx_pl st).bind fun q => rx_nx i (pc + 1) lv (.int (lg_cmp q.1 q.2.1) :: q.2.2) h bc bs
  | .dup => (rx_pw st).bind fun q => rx_nx i (pc + 1) lv (q.1 :: q.1 :: q.2) h bc bs
  | .pop => (rx_pw st).bind fun q => rx_nx i (pc + 1) lv q.2 h bc bs
  | .dup2 => (rx_pw2 st).bind fun q => rx_nx i (pc + 1) lv (q.1 :: q.2.1 :: q.1 :: q.2.1 :: q.2.2) h bc bs
  | .goto off => (rx_tgt pc off).bind fun t => rx_nx i t lv st h bc bs
  | .ifCond c off => (rx_tgt pc off).bind fun t => (rx_p1 st).bind fun q => if rx_cz c q.1 = true then rx_nx i t lv q.2 h bc bs else rx_nx i (pc + 3) lv q.2 h bc bs
  | .if_icmp c off => (rx_tgt pc off).bind fun t => (rx_p2 st).bind fun q => if rx_cc c q.1 q.2.1 = true then rx_nx i t lv q.2.2 h bc bs else rx_nx i (pc + 3) lv q.2.2 h bc bs
  | .tableswitch d lo hi offs => (rx_p1 st).bind fun q => if hi = lo + (offs.toList.length : Int) - 1 then ((rx_tgt pc (rx_tsw offs.toList lo d q.1.toInt)).bind fun t => rx_nx i t lv q.2 h bc bs) else none
  | .lookupswitch d ps => (rx_p1 st).bind fun q => if (ps.toList.zip (ps.toList.drop 1)).all (fun (a, next) => a.1 < next.1) = true then ((rx_tgt pc (Op.lookupswitch.offset ps.toList d q.1.toInt)).bind fun t => rx_nx i t lv q.2 h bc bs) else none
  | .getfield idx => (rx_fl.lookup (rx_ow i, idx)).bind fun f => (rx_pr st).bind fun q => (rx_gf h q.1 f.1 f.2.1).bind fun v => rx_nx i (pc + 3) lv (v :: q.2) h bc bs
  | .putfield idx => (rx_fl.lookup (rx_ow i, idx)).bind fun f => (rx_pv st).bind fun q => if rx_okf f.2.2.1 q.1 = true ∧ (f.2.2.2 = 0 ∨ (rx_ini i = 1 ∧ f.1 = rx_ow i)) then ((rx_pf h q.2.1 f.1 f.2.1 q.1).bind fun h2 => rx_nx i (pc + 3) lv q.2.2 h2 bc bs) else none
  | .iaload => (rx_pa st).bind fun q => match q.2.1 with
    | some k => (rx_ald h k 0 q.1).bind fun x => rx_nx i (pc + 1) lv (.int x :: q.2.2) h bc bs
    | none => (rx_sld sc q.1).bind fun x => rx_nx i (pc + 1) lv (.int x :: q.2.2) h bc bs
  | .baload => (rx_pa st).bind fun q => match q.2.1 with
    | some k => (rx_ald h k 1 q.1).bind fun x => rx_nx i (pc + 1) lv (.int x :: q.2.2) h bc bs
    | none => none
  | .iastore => (rx_ps st).bind fun q => (rx_ast h q.2.2.1 0 q.2.1 q.1).bind fun h2 => rx_nx i (pc + 1) lv q.2.2.2 h2 bc bs
  | .bastore => (rx_ps st).bind fun q => (rx_ast h q.2.2.1 1 q.2.1 q.1).bind fun h2 => rx_nx i (pc + 1) lv q.2.2.2 h2 bc bs
  | .aaload => (rx_pa st).bind fun q => match q.2.1 with
    | some k => (rx_qld h k q.1).bind fun x => rx_nx i (pc + 1) lv (.ref x :: q.2.2) h bc bs
    | none => none
  | .arraylength => (rx_pq st).bind fun q => match q.1 with
    | some k => (rx_gl h k).bind fun n => rx_nx i (pc + 1) lv (.int (Int32.ofNat n) :: q.2) h bc bs
    | none => rx_nx i (pc + 1) lv (.int (Int32.ofNat sc.1) :: q.2) h bc bs
  | .invokevirtual idx => rx_cal (fun kd => kd == 0) i pc lv st h bc bs idx
  | .invokestatic idx => rx_cal (fun kd => kd == 1) i pc lv st h bc bs idx
  | .invokespecial idx => rx_cal (fun kd => kd == 2 || kd == 3 || kd == 4) i pc lv st h bc bs idx
  | .new idx => (rx_nl.lookup (rx_ow i, idx)).bind fun ci => if 1 ≤ bc ∧ (rx_df.getD ci []).length ≤ bs then rx_nx i (pc + 3) lv (.ref h.length :: st) (h ++ [.inr (ci, rx_df.getD ci [])]) (bc - 1) (bs - (rx_df.getD ci []).length) else none
  | .newarray at_ => (rx_aty at_).bind fun t => (rx_p1 st).bind fun q => if 0 ≤ q.1.toInt ∧ q.1.toInt ≤ 10000 ∧ 1 ≤ bc ∧ q.1.toNatClampNeg ≤ bs then rx_nx i (pc + 2) lv (.ref h.length :: q.2) (h ++ [.inl (t, q.1.toNatClampNeg, .inl (fun _ => 0))]) (bc - 1) (bs - q.1.toNatClampNeg) else none
  | .multianewarray idx dim => (rx_p2 st).bind fun q => if rx_ow i = 0 ∧ idx = 18 ∧ dim = 2 ∧ 0 ≤ q.1.toInt ∧ q.1.toInt ≤ 10000 ∧ 0 ≤ q.2.1.toInt ∧ q.2.1.toInt ≤ 10000 ∧ 1 + q.1.toNatClampNeg ≤ bc ∧ q.1.toNatClampNeg + q.1.toNatClampNeg * q.2.1.toNatClampNeg ≤ bs then
      rx_nx i (pc + 4) lv (.ref h.length :: q.2.2) (h ++ [.inl (2, q.1.toNatClampNeg, .inr (.inr (.inr (.inr (fun j => if j < q.1.toNatClampNeg then some (h.length + 1 + j) else none)))))] ++ List.replicate q.1.toNatClampNeg (.inl (0, q.2.1.toNatClampNeg, .inl (fun _ => 0)))) (bc - (1 + q.1.toNatClampNeg)) (bs - (q.1.toNatClampNeg + q.1.toNatClampNeg * q.2.1.toNatClampNeg)) else none
  | .ireturn => (rx_rets i st).bind fun v => if v.isSome = true ∧ (bc = 0 ∨ i = 147) then some (.inr (.inl (v, h))) else none
  | .return_ => (rx_rets i st).bind fun v => if v.isSome = false ∧ (bc = 0 ∨ i = 147) then some (.inr (.inl (v, h))) else none
  | _ => none
def rx_sel (i : Nat) (o : rx_R) : rx_R := match o with
  | some (.inl c2) => if c2.1 = i then some (.inl c2) else none
  | r => r
def rx_stp (sc : rx_S) (c : rx_C) : rx_R := match decode (rx_cd c.1) c.2.1 with
  | .error _ => none
  | .ok q => if q.2 = rx_len q.1 q.2 then rx_sel c.1 (rx_ins sc q.1 c.1 c.2.1 c.2.2.1 c.2.2.2.1 c.2.2.2.2.1 c.2.2.2.2.2.1 c.2.2.2.2.2.2) else none
/-- the value of a point -/
noncomputable def rx_V (sc : rx_S) (i pc : Nat) (lv : rx_L) (st : List Value) (h : rx_H) (bc bs : Nat) : Option rx_O := rx_lim (rx_stp sc) (i, pc, lv, st, h, bc, bs)
