/-! THE CHECK of a method's table against its bytes and the tables' words -/
/-- an instruction's length; 0: it varies -/
def x_ln : Instr → Nat
  | .aload _ => 2
  | .anewarray _ => 3
  | .astore _ => 2
  | .bipush _ => 2
  | .checkcast _ => 3
  | .getfield _ => 3
  | .getstatic _ => 3
  | .goto _ => 3
  | .if_acmp _ _ => 3
  | .if_icmp _ _ => 3
  | .ifCond _ _ => 3
  | .ifnonnull _ => 3
  | .ifnull _ => 3
  | .iinc _ _ => 3
  | .iload _ => 2
  | .instanceof _ => 3
  | .invokespecial _ => 3
  | .invokestatic _ => 3
  | .invokevirtual _ => 3
  | .istore _ => 2
  | .ldc _ => 2
  | .ldc_w _ => 3
  | .ldc2_w _ => 3
  | .lload _ => 2
  | .lookupswitch _ _ => 0
  | .lstore _ => 2
  | .new _ => 3
  | .newarray _ => 2
  | .putfield _ => 3
  | .sipush _ => 3
  | .tableswitch _ _ _ _ => 0
  | _ => 1
/-- where a switch goes -/
def x_tgt (ins : Instr) (pc : Nat) (x : Int) : Nat := match ins with
  | .tableswitch d lo hi offs => if x < lo ∨ hi < x then ((pc : Int) + d).toNat else ((pc : Int) + offs.getD (x - lo).toNat 0).toNat
  | .lookupswitch d ps => ((pc : Int) + Op.lookupswitch.offset ps.toList d x).toNat
  | _ => 0
def x_ckt (t code : Nat) : Bool := match t with
  | 1 => Nat.beq code 1
  | 2 => Nat.beq code 2
  | 4 => Nat.beq code 4
  | 0 => Nat.beq code 0
  | _ => false
def x_ckF (y i t a b g : Nat) : Bool := match x_cls[g - 1000]? with
  | some q => Nat.blt (a - 1000 - 64 * (g - 1000)) q.2.2 && (Nat.ble 1000 g && (Nat.beq a (1000 + 64 * (g - 1000) + (a - 1000 - 64 * (g - 1000))) && (x_ckt t (x_tcode (x_fty (g - 1000) (a - 1000 - 64 * (g - 1000)))) &&
    (decide (lw_tbl[b]? = some (.fieldLink (x_nm y).cls i (q.2.1 (a - 1000 - 64 * (g - 1000))).1 (q.2.1 (a - 1000 - 64 * (g - 1000))).2.1 (q.2.1 (a - 1000 - 64 * (g - 1000))).2.2.1)) || decide (lw_tbl[b]? = some (.fieldLinkNest (x_nm y).cls i (q.2.1 (a - 1000 - 64 * (g - 1000))).1 (q.2.1 (a - 1000 - 64 * (g - 1000))).2.1 (q.2.1 (a - 1000 - 64 * (g - 1000))).2.2.1 (x_host y)))))))
  | none => false
/-- a final field is written by its class's constructor alone -/
def x_ckP (y b a g : Nat) : Bool := match x_cls[g - 1000]? with
  | some q => !(q.2.1 (a - 1000 - 64 * (g - 1000))).2.2.2 || (decide ((x_nm y).name = "<init>") && (decide ((q.2.1 (a - 1000 - 64 * (g - 1000))).1 = (x_nm y).cls) && !(x_isN ((lw_tbl[b]?).getD .tt))))
  | none => false
def x_ckS (y i a b : Nat) : Bool := match x_zs[a]? with
  | some q => decide (lw_tbl[b]? = some (.fieldLink (x_nm y).cls i q.1 q.2.1 q.2.2)) || decide (lw_tbl[b]? = some (.fieldLinkNest (x_nm y).cls i q.1 q.2.1 q.2.2 (x_host y)))
  | none => false
/-- a field of a constant object -/
def x_ckO (y i a b : Nat) : Bool := match x_sfl[a]? with
  | some q => decide (lw_tbl[b]? = some (.fieldLink (x_nm y).cls i q.1 q.2.1 q.2.2)) || decide (lw_tbl[b]? = some (.fieldLinkNest (x_nm y).cls i q.1 q.2.1 q.2.2 (x_host y)))
  | none => false
def x_ckM (y i a b : Nat) : Bool := Nat.blt a x_nM && (decide (lw_tbl[b]? = some (.methodLink (x_nm y).cls i (x_nm a))) || decide (lw_tbl[b]? = some (.methodLinkNest (x_nm y).cls i (x_nm a) (x_host y))))
def x_chk (y pc : Nat) (ins : Instr) (nx t a b g : Nat) (v : Int32) (l : Int64) : Bool := match ins with
  | .iconst n => decide (Int32.ofInt n = v)
  | .bipush n => decide ((Int8.ofInt n).toInt32 = v)
  | .sipush n => decide ((Int16.ofInt n).toInt32 = v)
  | .lconst n => decide (Int64.ofNat n.val = l)
  | .iload_n n => Nat.blt n.val (x_ml y)
  | .iload n => Nat.blt n (x_ml y)
  | .lload_n n => Nat.blt n.val (x_ml y)
  | .lload n => Nat.blt n (x_ml y)
  | .aload_n n => Nat.blt n.val (x_ml y)
  | .aload n => Nat.blt n (x_ml y)
  | .istore_n n => Nat.blt n.val (x_ml y)
  | .istore n => Nat.blt n (x_ml y)
  | .lstore_n n => Nat.blt (n.val + 1) (x_ml y)
  | .lstore n => Nat.blt (n + 1) (x_ml y)
  | .astore_n n => Nat.blt n.val (x_ml y)
  | .astore n => Nat.blt n (x_ml y)
  | .iinc i n => Nat.blt i (x_ml y) && decide (Int32.ofInt n = v)
  | .ifCond _ o => decide ((pc : Int) + o = (a : Int))
  | .if_icmp _ o => decide ((pc : Int) + o = (a : Int))
  | .if_acmp _ o => decide ((pc : Int) + o = (a : Int))
  | .ifnull o => decide ((pc : Int) + o = (a : Int))
  | .ifnonnull o => decide ((pc : Int) + o = (a : Int))
  | .goto o => decide ((pc : Int) + o = (a : Int))
  | .ldc i => (Nat.beq t 0 && decide (lw_tbl[b]? = some (.constant (x_nm y).cls i v))) || (Nat.beq t 1 && match x_ks[a]? with | some q => decide (q.1 = (x_nm y).cls) && Nat.beq q.2.1 i | none => false)
  | .ldc2_w i => decide (lw_tbl[b]? = some (.constantLong (x_nm y).cls i l))
  | .ldc_w i => decide (lw_tbl[b]? = some (.constant (x_nm y).cls i v))
  | .getfield i => (Nat.beq t 3 && x_ckO y i a b) || (!(Nat.beq t 3) && x_ckF y i t a b g)
  | .putfield i => x_ckF y i t a b g && x_ckP y b a g
  | .getstatic i => x_ckS y i a b
  | .invokevirtual i => (Nat.beq t 0 && x_ckM y i a b) || (Nat.beq t 1 && decide (lw_tbl[b]? = some (.methodLink (x_nm y).cls i ⟨x_ecl g, (x_nm a).name, (x_nm a).desc⟩) ∧ lw_tbl[x_esm g]? = some (.sameMethod (x_ecl g) (x_nm a).cls (x_nm a).name (x_nm a).desc) ∧ lw_tbl[x_ese g]? = some (.selects (x_ecl g) ⟨x_ecl g, (x_nm a).name, (x_nm a).desc⟩ (x_nm a))) && Nat.blt a x_nM)
  | .invokestatic i => (Nat.beq t 0 && x_ckM y i a b) || (Nat.beq t 5 && decide (lw_tbl[b]? = some (.methodLink (x_nm y).cls i arraycopyName)))
  | .invokespecial i => (Nat.beq t 0 && x_ckM y i a b) || (Nat.beq t 1 && decide (lw_tbl[b]? = some (.methodLink (x_nm y).cls i Lib.objectInit)))
  | .new i => match x_cls[g - 1000]? with | some q => Nat.ble 1000 g && decide (lw_tbl[b]? = some (.classLink (x_nm y).cls i q.1)) | none => false
  | .newarray at_ => decide (newarray.typeOf at_ = x_aty a) && (decide (a ∈ x_aks) && decide (lw_tbl[b]? = some (.arrayClass (x_aty a))))
  | .anewarray i => match x_aty a with | .object C => decide (a ∈ x_aks) && (decide (lw_tbl[b]? = some (.classLink (x_nm y).cls i C)) && decide (C ∈ x_aos)) | _ => false
  | .tableswitch d lo hi offs => decide (0 ≤ (pc : Int) + d) && (offs.toList.all (fun o => decide (0 ≤ (pc : Int) + o)) && decide ((offs.size : Int) = hi - lo + 1))
  | .lookupswitch d ps => decide (0 ≤ (pc : Int) + d) && (ps.toList.all (fun o => decide (0 ≤ (pc : Int) + o.2)) && (ps.toList.zip (ps.toList.drop 1)).all (fun (a, next) => a.1 < next.1))
  | _ => true
def x_one (y pc : Nat) (o : Option x_I) : Bool := match o with
  | none => true
  | some (ins, nx, t, a, b, g, v, l) => decide (decode (x_by y) pc = .ok (ins, nx - pc)) && (Nat.blt pc nx && ((Nat.beq (x_ln ins) 0 || Nat.beq nx (pc + x_ln ins)) && x_chk y pc ins nx t a b g v l))
theorem x_all {y n : Nat} {f : Nat → Option x_I} (h1 : ∀ pc, Nat.blt pc n = false → x_one y pc (f pc) = true) (h2 : (List.range n).all (fun pc => x_one y pc (f pc)) = true) : ∀ pc, x_one y pc (f pc) = true := fun pc => by
  cases hb : Nat.blt pc n with
  | false => exact h1 pc hb
  | true => exact List.all_eq_true.mp h2 pc (List.mem_range.mpr (Nat.le_of_ble_eq_true hb))
