/-! THE PURE MACHINE: a heap of typed rows, a step, a run; 'pGo' is what a run comes to -/
abbrev pm_H : Type := (Nat → Nat × Nat) × (Nat → Nat → Int32) × (Nat → Nat → Int64) × (Nat → Nat → Option Nat) × Nat × Nat
abbrev pm_L : Type := List (Option Value)
/-- the kind of a cell: (1, class) an object, (2, n) ints, (3, n) the script, (4 + j, n) references of kind j -/
def rK (h : pm_H) (a : Nat) : Nat × Nat := h.1 a
def rI (h : pm_H) (a : Nat) : Nat → Int32 := h.2.1 a
def rJ (h : pm_H) (a : Nat) : Nat → Int64 := h.2.2.1 a
def rP (h : pm_H) (a : Nat) : Nat → Option Nat := h.2.2.2.1 a
def rz (h : pm_H) : Nat := h.2.2.2.2.1
def rs (h : pm_H) : Nat := h.2.2.2.2.2
/-- a row of ints written whole; one int; one long; one reference; a new cell -/
def uA (h : pm_H) (a : Nat) (f : Nat → Int32) : pm_H := (h.1, fun b => if b = a then f else h.2.1 b, h.2.2)
def uI (h : pm_H) (a k : Nat) (v : Int32) : pm_H := uA h a (upd (rI h a) k v)
def uJ (h : pm_H) (a k : Nat) (v : Int64) : pm_H := (h.1, h.2.1, fun b => if b = a then vp_updL (rJ h a) k v else h.2.2.1 b, h.2.2.2)
def uP (h : pm_H) (a k : Nat) (v : Option Nat) : pm_H := (h.1, h.2.1, h.2.2.1, fun b => if b = a then va_up (rP h a) k v else h.2.2.2.1 b, h.2.2.2.2)
def aN (h : pm_H) (kd : Nat × Nat) (n : Nat) : pm_H := (fun a => if a = rz h then kd else rK h a, fun a => if a = rz h then (fun _ => 0) else rI h a, fun a => if a = rz h then (fun _ => 0) else rJ h a, fun a => if a = rz h then (fun _ => none) else rP h a, rz h + 1, rs h + n)
theorem rK_uA (h : pm_H) (a : Nat) (f : Nat → Int32) : rK (uA h a f) = rK h := rfl
theorem rI_uA (h : pm_H) (a : Nat) (f : Nat → Int32) (b : Nat) : rI (uA h a f) b = if b = a then f else rI h b := rfl
theorem rJ_uA (h : pm_H) (a : Nat) (f : Nat → Int32) : rJ (uA h a f) = rJ h := rfl
theorem rP_uA (h : pm_H) (a : Nat) (f : Nat → Int32) : rP (uA h a f) = rP h := rfl
theorem rz_uA (h : pm_H) (a : Nat) (f : Nat → Int32) : rz (uA h a f) = rz h := rfl
theorem rs_uA (h : pm_H) (a : Nat) (f : Nat → Int32) : rs (uA h a f) = rs h := rfl
theorem rK_uI (h : pm_H) (a k : Nat) (v : Int32) : rK (uI h a k v) = rK h := rfl
theorem rI_uI (h : pm_H) (a k : Nat) (v : Int32) (b : Nat) : rI (uI h a k v) b = if b = a then upd (rI h a) k v else rI h b := rfl
theorem rJ_uI (h : pm_H) (a k : Nat) (v : Int32) : rJ (uI h a k v) = rJ h := rfl
theorem rP_uI (h : pm_H) (a k : Nat) (v : Int32) : rP (uI h a k v) = rP h := rfl
theorem rz_uI (h : pm_H) (a k : Nat) (v : Int32) : rz (uI h a k v) = rz h := rfl
theorem rs_uI (h : pm_H) (a k : Nat) (v : Int32) : rs (uI h a k v) = rs h := rfl
theorem rK_uJ (h : pm_H) (a k : Nat) (v : Int64) : rK (uJ h a k v) = rK h := rfl
theorem rI_uJ (h : pm_H) (a k : Nat) (v : Int64) : rI (uJ h a k v) = rI h := rfl
theorem rJ_uJ (h : pm_H) (a k : Nat) (v : Int64) (b : Nat) : rJ (uJ h a k v) b = if b = a then vp_updL (rJ h a) k v else rJ h b := rfl
theorem rP_uJ (h : pm_H) (a k : Nat) (v : Int64) : rP (uJ h a k v) = rP h := rfl
theorem rz_uJ (h : pm_H) (a k : Nat) (v : Int64) : rz (uJ h a k v) = rz h := rfl
theorem rs_uJ (h : pm_H) (a k : Nat) (v : Int64) : rs (uJ h a k v) = rs h := rfl
theorem rK_uP (h : pm_H) (a k : Nat) (v : Option Nat) : rK (uP h a k v) = rK h := rfl
theorem rI_uP (h : pm_H) (a k : Nat) (v : Option Nat) : rI (uP h a k v) = rI h := rfl
theorem rJ_uP (h : pm_H) (a k : Nat) (v : Option Nat) : rJ (uP h a k v) = rJ h := rfl
theorem rP_uP (h : pm_H) (a k : Nat) (v : Option Nat) (b : Nat) : rP (uP h a k v) b = if b = a then va_up (rP h a) k v else rP h b := rfl
theorem rz_uP (h : pm_H) (a k : Nat) (v : Option Nat) : rz (uP h a k v) = rz h := rfl
theorem rs_uP (h : pm_H) (a k : Nat) (v : Option Nat) : rs (uP h a k v) = rs h := rfl
theorem rK_aN (h : pm_H) (kd : Nat × Nat) (n a : Nat) : rK (aN h kd n) a = if a = rz h then kd else rK h a := rfl
theorem rI_aN (h : pm_H) (kd : Nat × Nat) (n a : Nat) : rI (aN h kd n) a = if a = rz h then (fun _ => 0) else rI h a := rfl
theorem rJ_aN (h : pm_H) (kd : Nat × Nat) (n a : Nat) : rJ (aN h kd n) a = if a = rz h then (fun _ => 0) else rJ h a := rfl
theorem rP_aN (h : pm_H) (kd : Nat × Nat) (n a : Nat) : rP (aN h kd n) a = if a = rz h then (fun _ => none) else rP h a := rfl
theorem rz_aN (h : pm_H) (kd : Nat × Nat) (n : Nat) : rz (aN h kd n) = rz h + 1 := rfl
theorem rs_aN (h : pm_H) (kd : Nat × Nat) (n : Nat) : rs (aN h kd n) = rs h + n := rfl
/-- what a step gives: the next frame and heap; an end; a call -/
abbrev pm_R : Type := Option ((Nat × pm_L × List Value × pm_H) ⊕ (Option Value × pm_H) ⊕ (Nat × List Value × List Value))
def pm_nx (pc : Nat) (L : pm_L) (st : List Value) (h : pm_H) : pm_R := some (.inl (pc, L, st, h))
def pm_fkk (ci k : Nat) : Nat := (pm_fk.getD ci []).getD k 0
def pm_fff (ci k : Nat) : Bool := (pm_ff.getD ci []).getD k false
def pm_nf (ci : Nat) : Nat := (pm_fk.getD ci []).length
def pm_fv (h : pm_H) (a t k : Nat) : Value := if t = 0 then .int (rI h a k) else if t = 1 then .long (rJ h a k) else va_rf (rP h a k)
def pm_fs (h : pm_H) (a ci : Nat) : List Value := (List.range (pm_nf ci)).map (fun k => pm_fv h a (pm_fkk ci k) k)
/-- classes of the elements of rows of references -/
def pm_el (j : Nat) : Nat := [0, 1, 4, 6].getD j 99
def pm_ej (ci : Nat) : Option Nat := if ci = 0 then some 0 else if ci = 1 then some 1 else if ci = 4 then some 2 else if ci = 6 then some 3 else none
/-- is the local ahead of i a long -/
def pm_lg (L : pm_L) (i : Nat) : Bool := match i with
  | 0 => false
  | j + 1 => match L.getD j none with
    | some v => v.category == 2
    | none => false
def pm_put (L : pm_L) (i : Nat) (v : Value) : Option pm_L := if i < L.length ∧ pm_lg L i = false then some (L.set i (some v)) else none
def pm_put2 (L : pm_L) (i : Nat) (v : Value) : Option pm_L := if i + 1 < L.length ∧ pm_lg L i = false then some ((L.set i (some v)).set (i + 1) none) else none
def pm_ent (vs : List Value) : pm_L := vs.flatMap fun v => if v.category = 2 then [some v, none] else [some v]
def pm_entry (z : Nat) (vs : List Value) : pm_L := pm_ent vs ++ List.replicate (pm_mx z - (pm_ent vs).length) none
def pm_jmp (pc : Nat) (off : Int) (L : pm_L) (st : List Value) (h : pm_H) : pm_R := if 0 ≤ (pc : Int) + off then pm_nx ((pc : Int) + off).toNat L st h else none
def pm_br (pc : Nat) (off : Int) (b : Bool) (L : pm_L) (st : List Value) (h : pm_H) : pm_R := if 0 ≤ (pc : Int) + off then (if b = true then pm_nx ((pc : Int) + off).toNat L st h else pm_nx (pc + 3) L st h) else none
def pm_cmp (c : ClassFile.Cond) (x y : Int32) : Bool := match c with
  | .eq => decide (x = y)
  | .ne => decide (¬ x = y)
  | .lt => decide (x < y)
  | .ge => decide (y ≤ x)
  | .gt => decide (y < x)
  | .le => decide (x ≤ y)
def pm_sw (x : Int32) (d : Int) : Int → List Int → Int
  | _, [] => d
  | k, o :: os => if x.toInt = k then o else pm_sw x d (k + 1) os
def pm_callee (y z : Nat) (args rest : List Value) : pm_R := if z < 185 ∧ pm_fr z + 1 ≤ pm_fr y ∧ 19 + pm_mx z + pm_lc z ≤ pm_lc y ∧ rest.length ≤ 4 ∧ (pm_ent args).length ≤ pm_mx z then some (.inr (.inr (z, args, rest))) else none
def pm_bin (n pc : Nat) (L : pm_L) (st : List Value) (h : pm_H) (f : Int32 → Int32 → Int32) : pm_R := match n, st with
  | 1, .int y :: .int x :: r => pm_nx (pc + 1) L (.int (f x y) :: r) h
  | _, _ => none
def pm_binL (n pc : Nat) (L : pm_L) (st : List Value) (h : pm_H) (f : Int64 → Int64 → Int64) : pm_R := match n, st with
  | 1, .long y :: .long x :: r => pm_nx (pc + 1) L (.long (f x y) :: r) h
  | _, _ => none
def pm_shL (n pc : Nat) (L : pm_L) (st : List Value) (h : pm_H) (f : Int64 → Int32 → Int64) : pm_R := match n, st with
  | 1, .int y :: .long x :: r => pm_nx (pc + 1) L (.long (f x y) :: r) h
  | _, _ => none
def pm_dv (n pc : Nat) (L : pm_L) (st : List Value) (h : pm_H) (f : Int32 → Int32 → Int32) : pm_R := match n, st with
  | 1, .int y :: .int x :: r => if y = 0 then none else pm_nx (pc + 1) L (.int (f x y) :: r) h
  | _, _ => none
def pm_ldi (n m pc k : Nat) (L : pm_L) (st : List Value) (h : pm_H) : pm_R := if n = m then (match L.getD k none with
  | some (.int x) => pm_nx (pc + n) L (.int x :: st) h
  | _ => none) else none
def pm_lda (n m pc k : Nat) (L : pm_L) (st : List Value) (h : pm_H) : pm_R := if n = m then (match L.getD k none with
  | some (.ref x) => pm_nx (pc + n) L (.ref x :: st) h
  | some .null => pm_nx (pc + n) L (.null :: st) h
  | _ => none) else none
def pm_ldl (n m pc k : Nat) (L : pm_L) (st : List Value) (h : pm_H) : pm_R := if n = m then (match L.getD k none with
  | some (.long x) => pm_nx (pc + n) L (.long x :: st) h
  | _ => none) else none
def pm_sti (n m pc k : Nat) (L : pm_L) (st : List Value) (h : pm_H) : pm_R := if n = m then (match st with
  | .int x :: r => (pm_put L k (.int x)).bind fun L' => pm_nx (pc + n) L' r h
  | _ => none) else none
def pm_sta (n m pc k : Nat) (L : pm_L) (st : List Value) (h : pm_H) : pm_R := if n = m then (match st with
  | .ref x :: r => (pm_put L k (.ref x)).bind fun L' => pm_nx (pc + n) L' r h
  | .null :: r => (pm_put L k .null).bind fun L' => pm_nx (pc + n) L' r h
  | _ => none) else none
def pm_stl (n m pc k : Nat) (L : pm_L) (st : List Value) (h : pm_H) : pm_R := if n = m then (match st with
  | .long x :: r => (pm_put2 L k (.long x)).bind fun L' => pm_nx (pc + n) L' r h
  | _ => none) else none
def pm_getf (y ix n pc : Nat) (L : pm_L) (st : List Value) (h : pm_H) : pm_R := match n, st, pm_fl (pm_oc y) ix with
  | 3, .ref a :: r, some (ci, k) => if rK h a = (1, ci) then pm_nx (pc + 3) L (pm_fv h a (pm_fkk ci k) k :: r) h else none
  | _, _, _ => none
def pm_stv (h : pm_H) (a t k : Nat) (v : Value) : Option pm_H := match v with
  | .int x => if t = 0 then some (uI h a k x) else none
  | .long x => if t = 1 then some (uJ h a k x) else none
  | .ref b => if t = 2 then some (uP h a k (some b)) else none
  | _ => none
def pm_putf (y ix n pc : Nat) (L : pm_L) (st : List Value) (h : pm_H) : pm_R := match n, st, pm_fl (pm_oc y) ix with
  | 3, v :: .ref a :: r, some (ci, k) => if rK h a = (1, ci) ∧ (pm_fff ci k = true → pm_kd y = 2 ∧ pm_oc y = ci) then (pm_stv h a (pm_fkk ci k) k v).bind fun h' => pm_nx (pc + 3) L r h' else none
  | _, _, _ => none
def pm_virt (y ix n : Nat) (st : List Value) (h : pm_H) : pm_R := match n, pm_lk (pm_oc y) ix with
  | 3, some (z, b) => if pm_kd z = 1 then (match st.drop (pm_na z) with
    | .ref a :: rest => if (st.take (pm_na z)).length = pm_na z ∧ rK h a = (1, pm_oc z) ∧ b = false then pm_callee y z (.ref a :: (st.take (pm_na z)).reverse) rest else none
    | _ => none) else none
  | _, _ => none
def pm_stat (y ix n pc : Nat) (L : pm_L) (st : List Value) (h : pm_H) : pm_R :=
  if n = 3 then (if (pm_oc y, ix) ∈ pm_cpy then (match st with
    | .int c :: .int dp :: .ref a :: .int sp :: .ref a0 :: rest => if rK h a = (2, (rK h a).2) ∧ rK h a0 = (2, (rK h a0).2) ∧ ¬ sp < 0 ∧ ¬ dp < 0 ∧ ¬ c < 0 ∧ sp.toNatClampNeg + c.toNatClampNeg ≤ (rK h a0).2 ∧ dp.toNatClampNeg + c.toNatClampNeg ≤ (rK h a).2 ∧ rest.length ≤ 4 ∧ 1 ≤ pm_fr y ∧ 26 ≤ pm_lc y then pm_nx (pc + 3) L rest (uA h a (va_cpy (rI h a0) (rI h a) sp.toNatClampNeg dp.toNatClampNeg c.toNatClampNeg)) else none
    | _ => none)
  else (match pm_lk (pm_oc y) ix with
    | some (z, b) => if pm_kd z = 0 ∧ (st.take (pm_na z)).length = pm_na z then pm_callee y z (st.take (pm_na z)).reverse (st.drop (pm_na z)) else none
    | none => none)) else none
def pm_spec (y ix n pc : Nat) (L : pm_L) (st : List Value) (h : pm_H) : pm_R :=
  if n = 3 then (if (pm_oc y, ix) ∈ pm_obj then (match st with
    | .ref _ :: rest => if rest.length ≤ 4 ∧ 1 ≤ pm_fr y ∧ 20 ≤ pm_lc y then pm_nx (pc + 3) L rest h else none
    | _ => none)
  else (match pm_lk (pm_oc y) ix with
    | some (z, _) => if pm_kd z = 2 then (match st.drop (pm_na z) with
      | .ref a :: rest => if (st.take (pm_na z)).length = pm_na z then pm_callee y z (.ref a :: (st.take (pm_na z)).reverse) rest else none
      | _ => none) else none
    | none => none)) else none
def pm_newo (y ix n pc : Nat) (L : pm_L) (st : List Value) (h : pm_H) : pm_R := match n, pm_kl (pm_oc y) ix with
  | 3, some ci => if ci < 10 then pm_nx (pc + 3) L (.ref (rz h) :: st) (aN h (1, ci) (pm_nf ci)) else none
  | _, _ => none
def pm_newi (n pc : Nat) (L : pm_L) (st : List Value) (h : pm_H) : pm_R := match n, st with
  | 2, .int x :: r => if ¬ x < 0 ∧ x.toNatClampNeg ≤ 100000 then pm_nx (pc + 2) L (.ref (rz h) :: r) (aN h (2, x.toNatClampNeg) x.toNatClampNeg) else none
  | _, _ => none
def pm_newr (y ix n pc : Nat) (L : pm_L) (st : List Value) (h : pm_H) : pm_R := match n, st, (pm_kl (pm_oc y) ix).bind pm_ej with
  | 3, .int x :: r, some j => if ¬ x < 0 ∧ x.toNatClampNeg ≤ 100000 then pm_nx (pc + 3) L (.ref (rz h) :: r) (aN h (4 + j, x.toNatClampNeg) x.toNatClampNeg) else none
  | _, _, _ => none
def pm_stp (y : Nat) (i : Instr) (n pc : Nat) (L : pm_L) (st : List Value) (h : pm_H) : pm_R := match i with
  | .iconst k => if n = 1 then pm_nx (pc + 1) L (.int (Int32.ofInt k) :: st) h else none
  | .bipush k => if n = 2 then pm_nx (pc + 2) L (.int (Int8.ofInt k).toInt32 :: st) h else none
  | .sipush k => if n = 3 then pm_nx (pc + 3) L (.int (Int16.ofInt k).toInt32 :: st) h else none
  | .lconst k => if n = 1 then pm_nx (pc + 1) L (.long (Int64.ofNat (k : Nat)) :: st) h else none
  | .ldc ix => if n = 2 then (match pm_ki (pm_oc y) ix with | some v => pm_nx (pc + 2) L (.int v :: st) h | none => none) else none
  | .ldc2_w ix => if n = 3 then (match pm_kj (pm_oc y) ix with | some v => pm_nx (pc + 3) L (.long v :: st) h | none => none) else none
  | .iload_n k => pm_ldi n 1 pc k L st h
  | .iload k => pm_ldi n 2 pc k L st h
  | .aload_n k => pm_lda n 1 pc k L st h
  | .aload k => pm_lda n 2 pc k L st h
  | .lload_n k => pm_ldl n 1 pc k L st h
  | .istore_n k => pm_sti n 1 pc k L st h
  | .istore k => pm_sti n 2 pc k L st h
  | .astore_n k => pm_sta n 1 pc k L st h
  | .astore k => pm_sta n 2 pc k L st h
  | .lstore_n k => pm_stl n 1 pc k L st h
  | .iinc k c => if n = 3 then (match L.getD k none with
    | some (.int x) => (pm_put L k (.int (x + Int32.ofInt c))).bind fun L' => pm_nx (pc + 3) L' st h
    | _ => none) else none
  | .iadd => pm_bin n pc L st h (fun x y => x + y)
  | .isub => pm_bin n pc L st h (fun x y => x - y)
  | .imul => pm_bin n pc L st h (fun x y => x * y)
  | .iand => pm_bin n pc L st h (fun x y => x &&& y)
  | .ixor => pm_bin n pc L st h (fun x y => x ^^^ y)
  | .idiv => pm_dv n pc L st h (fun x y => x / y)
  | .irem => pm_dv n pc L st h (fun x y => x - x / y * y)
  | .ladd => pm_binL n pc L st h (fun x y => x + y)
  | .lsub => pm_binL n pc L st h (fun x y => x - y)
  | .lmul => pm_binL n pc L st h (fun x y => x * y)
  | .land => pm_binL n pc L st h (fun x y => x &&& y)
  | .lor => pm_binL n pc L st h (fun x y => x ||| y)
  | .lxor => pm_binL n pc L st h (fun x y => x ^^^ y)
  | .lshl => pm_shL n pc L st h (fun x y => x <<< (y.toInt64 &&& 63))
  | .lshr => pm_shL n pc L st h (fun x y => x >>> (y.toInt64 &&& 63))
  | .lushr => pm_shL n pc L st h (fun x y => (x.toUInt64 >>> (y.toInt64.toUInt64 &&& Int64.toUInt64 63)).toInt64)
  | .i2l => (match n, st with | 1, .int x :: r => pm_nx (pc + 1) L (.long x.toInt64 :: r) h | _, _ => none)
  | .l2i => (match n, st with | 1, .long x :: r => pm_nx (pc + 1) L (.int x.toInt32 :: r) h | _, _ => none)
  | .lcmp => (match n, st with | 1, .long y :: .long x :: r => pm_nx (pc + 1) L (.int (lg_cmp x y) :: r) h | _, _ => none)
  | .dup => (match n, st with | 1, v :: r => if v.category = 1 then pm_nx (pc + 1) L (v :: v :: r) h else none | _, _ => none)
  | .dup2 => (match n, st with | 1, v :: w :: r => if v.category = 1 ∧ w.category = 1 then pm_nx (pc + 1) L (v :: w :: v :: w :: r) h else none | _, _ => none)
  | .pop => (match n, st with | 1, v :: r => if v.category = 1 then pm_nx (pc + 1) L r h else none | _, _ => none)
  | .goto off => if n = 3 then pm_jmp pc off L st h else none
  | .ifCond c off => (match n, st with | 3, .int x :: r => pm_br pc off (pm_cmp c x 0) L r h | _, _ => none)
  | .if_icmp c off => (match n, st with | 3, .int y :: .int x :: r => pm_br pc off (pm_cmp c x y) L r h | _, _ => none)
  | .if_acmp .ne off => (match n, st with | 3, .ref y :: .ref x :: r => pm_br pc off (decide (¬ x = y)) L r h | _, _ => none)
  | .ifnonnull off => (match n, st with
    | 3, .ref _ :: r => pm_jmp pc off L r h
    | 3, .null :: r => pm_nx (pc + 3) L r h
    | _, _ => none)
  | .tableswitch d lo hi offs => (match st with | .int x :: r => if hi = lo + offs.size - 1 then pm_jmp pc (pm_sw x d lo offs.toList) L r h else none | _ => none)
  | .getfield ix => pm_getf y ix n pc L st h
  | .putfield ix => pm_putf y ix n pc L st h
  | .new ix => pm_newo y ix n pc L st h
  | .newarray .int => pm_newi n pc L st h
  | .anewarray ix => pm_newr y ix n pc L st h
  | .arraylength => (match n, st with | 1, .ref a :: r => if 2 ≤ (rK h a).1 ∧ (rK h a).1 < 8 then pm_nx (pc + 1) L (.int (Int32.ofNat (rK h a).2) :: r) h else none | _, _ => none)
  | .iaload => (match n, st with | 1, .int i :: .ref a :: r => if ((rK h a).1 = 2 ∨ (rK h a).1 = 3) ∧ ¬ (i < 0 ∨ (rK h a).2 ≤ i.toNatClampNeg) then pm_nx (pc + 1) L (.int (rI h a i.toNatClampNeg) :: r) h else none | _, _ => none)
  | .iastore => (match n, st with | 1, .int x :: .int i :: .ref a :: r => if (rK h a).1 = 2 ∧ ¬ (i < 0 ∨ (rK h a).2 ≤ i.toNatClampNeg) then pm_nx (pc + 1) L r (uI h a i.toNatClampNeg x) else none | _, _ => none)
  | .aaload => (match n, st with | 1, .int i :: .ref a :: r => if 4 ≤ (rK h a).1 ∧ (rK h a).1 < 8 ∧ ¬ (i < 0 ∨ (rK h a).2 ≤ i.toNatClampNeg) then pm_nx (pc + 1) L (va_rf (rP h a i.toNatClampNeg) :: r) h else none | _, _ => none)
  | .aastore => (match n, st with | 1, .ref b :: .int i :: .ref a :: r => if 4 ≤ (rK h a).1 ∧ (rK h a).1 < 8 ∧ rK h b = (1, pm_el ((rK h a).1 - 4)) ∧ ¬ (i < 0 ∨ (rK h a).2 ≤ i.toNatClampNeg) then pm_nx (pc + 1) L r (uP h a i.toNatClampNeg (some b)) else none | _, _ => none)
  | .invokevirtual ix => pm_virt y ix n st h
  | .invokestatic ix => pm_stat y ix n pc L st h
  | .invokespecial ix => pm_spec y ix n pc L st h
  | .ireturn => (match n, st with | 1, [.int v] => if pm_rt y = some .int ∨ (pm_rt y = some .boolean ∧ (v = 0 ∨ v = 1)) then some (.inr (.inl (some (.int v), h))) else none | _, _ => none)
  | .lreturn => (match n, st with | 1, [.long v] => if pm_rt y = some .long then some (.inr (.inl (some (.long v), h))) else none | _, _ => none)
  | .areturn => (match n, st with | 1, [.ref a] => (match pm_rt y with | some (.object _) => some (.inr (.inl (some (.ref a), h))) | _ => none) | _, _ => none)
  | .return_ => (match n, st with | 1, [] => if pm_rt y = none then some (.inr (.inl (none, h))) else none | _, _ => none)
  | _ => none
def pm_run : Nat → Nat → Nat → pm_L → List Value → pm_H → Option (Option Value × pm_H)
  | 0, _, _, _, _, _ => none
  | n + 1, y, pc, L, st, h => match decode (pm_mb y) pc with
    | .ok (i, k) => match pm_stp y i k pc L st h with
      | some (.inl (pc', L', st', h')) => pm_run n y pc' L' st' h'
      | some (.inr (.inl r)) => some r
      | some (.inr (.inr (z, args, rest))) => match pm_run n z 0 (pm_entry z args) [] h with
        | some r => pm_run n y (pc + 3) L (r.1.toList ++ rest) r.2
        | none => none
      | none => none
    | .error _ => none
def pGo (y pc : Nat) (L : pm_L) (st : List Value) (h : pm_H) (Q : Option Value × pm_H → Prop) : Prop := ∃ n r, pm_run n y pc L st h = some r ∧ Q r
theorem pm_mono1 : ∀ (n y pc : Nat) (L : pm_L) (st : List Value) (h : pm_H) (r : Option Value × pm_H), pm_run n y pc L st h = some r → pm_run (n + 1) y pc L st h = some r := by
  intro n
  induction n with
  | zero => intro y pc L st h r hr; cases hr
  | succ n ih =>
    intro y pc L st h r hr
    rw [pm_run] at hr ⊢
    cases hd : decode (pm_mb y) pc with
    | error e => rw [hd] at hr; cases hr
    | ok x =>
      obtain ⟨i, k⟩ := x
      rw [hd] at hr
      dsimp only at hr ⊢
      cases hs : pm_stp y i k pc L st h with
      | none => rw [hs] at hr; cases hr
      | some v =>
        rw [hs] at hr
        rcases v with ⟨pc', L', st', h'⟩ | r' | ⟨z, as, rest⟩
        · exact ih _ _ _ _ _ _ hr
        · exact hr
        · dsimp only at hr ⊢
          cases hc : pm_run n z 0 (pm_entry z as) [] h with
          | none => rw [hc] at hr; cases hr
          | some q =>
            rw [hc] at hr
            rw [ih _ _ _ _ _ _ hc]
            exact ih _ _ _ _ _ _ hr
theorem pm_mono {n m y pc : Nat} {L : pm_L} {st : List Value} {h : pm_H} {r : Option Value × pm_H} (hr : pm_run n y pc L st h = some r) (hm : n ≤ m) : pm_run m y pc L st h = some r := by
  induction hm with
  | refl => exact hr
  | step _ ih => exact pm_mono1 _ _ _ _ _ _ _ ih
theorem pGo.mono {y pc : Nat} {L : pm_L} {st : List Value} {h : pm_H} {Q Q' : Option Value × pm_H → Prop} (hg : pGo y pc L st h Q) (hq : ∀ r, Q r → Q' r) : pGo y pc L st h Q' := by
  obtain ⟨n, r, h1, h2⟩ := hg
  exact ⟨n, r, h1, hq r h2⟩
/-- what a step's result asks for -/
def pm_G (y pc : Nat) (L : pm_L) (h : pm_H) (Q : Option Value × pm_H → Prop) (x : pm_R) : Prop := match x with
  | some (.inl (pc', L', st', h')) => pGo y pc' L' st' h' Q
  | some (.inr (.inl r)) => Q r
  | some (.inr (.inr (z, args, rest))) => pGo z 0 (pm_entry z args) [] h (fun r => pGo y (pc + 3) L (r.1.toList ++ rest) r.2 Q)
  | none => False
theorem go_at {y pc : Nat} {i : Instr} {k : Nat} (hd : decode (pm_mb y) pc = .ok (i, k)) (L : pm_L) (st : List Value) (h : pm_H) (Q : Option Value × pm_H → Prop) : pGo y pc L st h Q = pm_G y pc L h Q (pm_stp y i k pc L st h) := by
  apply propext
  constructor
  · rintro ⟨n, r, hr, hq⟩
    cases n with
    | zero => cases hr
    | succ n =>
      rw [pm_run, hd] at hr
      dsimp only at hr
      cases hs : pm_stp y i k pc L st h with
      | none => rw [hs] at hr; cases hr
      | some v =>
        rw [hs] at hr
        rcases v with ⟨pc', L', st', h'⟩ | r' | ⟨z, as, rest⟩
        · exact ⟨n, r, hr, hq⟩
        · cases hr; exact hq
        · dsimp only at hr
          cases hc : pm_run n z 0 (pm_entry z as) [] h with
          | none => rw [hc] at hr; cases hr
          | some q =>
            rw [hc] at hr
            exact ⟨n, q, hc, n, r, hr, hq⟩
  · intro hg
    cases hs : pm_stp y i k pc L st h with
    | none => rw [hs] at hg; exact absurd hg id
    | some v =>
      rw [hs] at hg
      rcases v with ⟨pc', L', st', h'⟩ | r' | ⟨z, as, rest⟩
      · obtain ⟨n, r, hr, hq⟩ := hg
        refine ⟨n + 1, r, ?_, hq⟩
        rw [pm_run, hd]; dsimp only; rw [hs]; exact hr
      · refine ⟨1, r', ?_, hg⟩
        rw [pm_run, hd]; dsimp only; rw [hs]
      · obtain ⟨n, q, hc, m, r, hr, hq⟩ := hg
        refine ⟨max n m + 1, r, ?_, hq⟩
        rw [pm_run, hd]; dsimp only; rw [hs]; dsimp only
        rw [pm_mono hc (Nat.le_max_left n m)]
        exact pm_mono hr (Nat.le_max_right n m)
