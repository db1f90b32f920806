/-! HOW MANY BITS -/
def N64 (x : Int64) : Nat := x.toBitVec.toNat
theorem N64_lt (x : Int64) : N64 x < 2 ^ 64 := x.toBitVec.isLt
theorem N64_and (x y : Int64) : N64 (x &&& y) = N64 x &&& N64 y := by
  rw [N64, Int64.toBitVec_and, BitVec.toNat_and]; rfl
theorem N64_add {x y : Int64} (h : N64 x + N64 y < 2 ^ 64) : N64 (x + y) = N64 x + N64 y := by
  rw [N64, Int64.toBitVec_add, BitVec.toNat_add]
  exact Nat.mod_eq_of_lt h
theorem N64_sub {x y : Int64} (h : N64 y ≤ N64 x) : N64 (x - y) = N64 x - N64 y := by
  have h1 := N64_lt x
  have h2 := N64_lt y
  rw [N64, Int64.toBitVec_sub, BitVec.toNat_sub]
  show (2 ^ 64 - N64 y + N64 x) % 2 ^ 64 = _
  omega
theorem lsr_k : ∀ k, k < 40 → ((nI k).toInt64.toUInt64 &&& Int64.toUInt64 63) = UInt64.ofNat k := by decide +kernel
theorem N64_lsr (x : Int64) {k : Nat} (hk : k < 40) : N64 ((x.toUInt64 >>> ((nI k).toInt64.toUInt64 &&& Int64.toUInt64 63)).toInt64) = N64 x / 2 ^ k := by
  rw [lsr_k k hk]
  show (x.toUInt64 >>> UInt64.ofNat k).toBitVec.toNat = _
  rw [UInt64.toBitVec_shiftRight]
  have e : (UInt64.ofNat k).toBitVec % 64 = BitVec.ofNat 64 k := by
    have : ∀ k, k < 40 → (UInt64.ofNat k).toBitVec % 64 = BitVec.ofNat 64 k := by decide +kernel
    exact this k hk
  rw [e, BitVec.ushiftRight_eq', BitVec.toNat_ofNat, Nat.mod_eq_of_lt (by omega), BitVec.toNat_ushiftRight, Nat.shiftRight_eq_div_pow]
  rfl
theorem land8 {a b m M : Nat} (ha : a < 256) (hm : m < 256) : (256 * b + a) &&& (256 * M + m) = 256 * (b &&& M) + (a &&& m) := by
  have e : (256 : Nat) = 2 ^ 8 := by decide
  have h3 : a &&& m < 2 ^ 8 := Nat.and_lt_two_pow a (by omega)
  apply Nat.eq_of_testBit_eq
  intro j
  rw [Nat.testBit_and, e, Nat.testBit_two_pow_mul_add b (by omega), Nat.testBit_two_pow_mul_add M (by omega), Nat.testBit_two_pow_mul_add _ h3]
  split
  · rw [Nat.testBit_and]
  · rw [Nat.testBit_and]
/-- a number of bytes -/
def bval : List Nat → Nat
  | [] => 0
  | d :: ds => 256 * bval ds + d
def mskN (m : Nat) : Nat → Nat
  | 0 => 0
  | k + 1 => 256 * mskN m k + m
def g1 (d : Nat) : Nat := d - (d / 2 &&& 85)
def g2 (d : Nat) : Nat := (d &&& 51) + (d / 4 &&& 51)
def g3 (d : Nat) : Nat := (d + d / 16) &&& 15
theorem g1_t : ∀ d, d < 256 → (∀ e, e < 2 → (128 * e + d / 2) &&& 85 = d / 2 &&& 85) ∧ (d / 2 &&& 85) ≤ d ∧ g1 d < 256 := by decide +kernel
theorem g2_t : ∀ d, d < 256 → (∀ e, e < 4 → (64 * e + d / 4) &&& 51 = d / 4 &&& 51) ∧ g2 d < 256 ∧ g2 d % 16 ≤ 6 ∧ g2 d / 16 ≤ 6 := by decide +kernel
theorem g3_t : ∀ d, d < 256 → ∀ e, e < 8 → (16 * e + (d + d / 16)) &&& 15 = g3 d := by decide +kernel
theorem s1_bv : ∀ ds : List Nat, (∀ d ∈ ds, d < 256) → bval ds - (bval ds / 2 &&& mskN 85 ds.length) = bval (ds.map g1) := by
  intro ds
  induction ds with
  | nil => intro _; rfl
  | cons d ds ih =>
    intro h
    have hd := h d (List.mem_cons_self ..)
    obtain ⟨t1, t2, t3⟩ := g1_t d hd
    have i := ih (fun x hx => h x (List.mem_cons_of_mem _ hx))
    show 256 * bval ds + d - ((256 * bval ds + d) / 2 &&& (256 * mskN 85 ds.length + 85)) = 256 * bval (ds.map g1) + g1 d
    generalize bval ds = y at *
    rw [show (256 * y + d) / 2 = 256 * (y / 2) + (128 * (y % 2) + d / 2) by omega, land8 (by omega) (by decide), t1 (y % 2) (by omega), ← i, g1]
    have hl : y / 2 &&& mskN 85 ds.length ≤ y / 2 := Nat.and_le_left
    generalize y / 2 &&& mskN 85 ds.length = u at *
    generalize d / 2 &&& 85 = t at *
    omega
theorem s2_bv : ∀ ds : List Nat, (∀ d ∈ ds, d < 256) → (bval ds &&& mskN 51 ds.length) + (bval ds / 4 &&& mskN 51 ds.length) = bval (ds.map g2) := by
  intro ds
  induction ds with
  | nil => intro _; rfl
  | cons d ds ih =>
    intro h
    have hd := h d (List.mem_cons_self ..)
    obtain ⟨t1, t2, t3⟩ := g2_t d hd
    have i := ih (fun x hx => h x (List.mem_cons_of_mem _ hx))
    show ((256 * bval ds + d) &&& (256 * mskN 51 ds.length + 51)) + ((256 * bval ds + d) / 4 &&& (256 * mskN 51 ds.length + 51)) = 256 * bval (ds.map g2) + g2 d
    generalize bval ds = y at *
    rw [show (256 * y + d) / 4 = 256 * (y / 4) + (64 * (y % 4) + d / 4) by omega, land8 hd (by decide), land8 (by omega) (by decide), t1 (y % 4) (by omega), ← i, g2]
    omega
theorem bval_low {d : Nat} {ds : List Nat} : bval (d :: ds) % 16 = d % 16 := by
  show (256 * bval ds + d) % 16 = d % 16
  omega
theorem s3_bv : ∀ ds : List Nat, (∀ d ∈ ds, d < 256 ∧ d % 16 ≤ 6 ∧ d / 16 ≤ 6) → (bval ds + bval ds / 16) &&& mskN 15 ds.length = bval (ds.map g3) := by
  intro ds
  induction ds with
  | nil => intro _; rfl
  | cons d ds ih =>
    intro h
    have hd := h d (List.mem_cons_self ..)
    have i := ih (fun x hx => h x (List.mem_cons_of_mem _ hx))
    have hl : bval ds % 16 ≤ 6 := by
      cases ds with
      | nil => exact Nat.zero_le _
      | cons e es =>
        rw [bval_low]
        exact (h e (List.mem_cons_of_mem _ (List.mem_cons_self ..))).2.1
    show (256 * bval ds + d + (256 * bval ds + d) / 16) &&& (256 * mskN 15 ds.length + 15) = 256 * bval (ds.map g3) + g3 d
    generalize bval ds = y at *
    rw [show 256 * y + d + (256 * y + d) / 16 = 256 * (y + y / 16) + (16 * (y % 16) + (d + d / 16)) by omega, land8 (by omega) (by decide), g3_t d hd.1 (y % 16) (by omega), i]
theorem pop8 : ∀ d, d < 256 → g3 (g2 (g1 d)) = cntB (fun b => d.testBit b) 8 := by decide +kernel
theorem cnt8 (f : Nat → Bool) (a m : Nat) : cntB f (a + m) = cntB f a + cntB (fun b => f (a + b)) m := by
  induction m with
  | zero => rfl
  | succ m ih =>
    show cntB f (a + m) + (if f (a + m) = true then 1 else 0) = _
    rw [ih, cntB]
    omega
theorem cnt_bv : ∀ ds : List Nat, (∀ d ∈ ds, d < 256) → cntB (fun b => (bval ds).testBit b) (8 * ds.length) = (ds.map (fun d => g3 (g2 (g1 d)))).foldr (· + ·) 0 := by
  intro ds
  induction ds with
  | nil => intro _; rfl
  | cons d ds ih =>
    intro h
    have hd := h d (List.mem_cons_self ..)
    have i := ih (fun x hx => h x (List.mem_cons_of_mem _ hx))
    show cntB (fun b => (bval (d :: ds)).testBit b) (8 * (ds.length + 1)) = g3 (g2 (g1 d)) + (ds.map (fun d => g3 (g2 (g1 d)))).foldr (· + ·) 0
    rw [show 8 * (ds.length + 1) = 8 + 8 * ds.length by omega, cnt8, ← i, pop8 d hd]
    have e : ∀ b, (bval (d :: ds)).testBit b = if b < 8 then d.testBit b else (bval ds).testBit (b - 8) := fun b => by
      show (256 * bval ds + d).testBit b = _
      rw [show (256 : Nat) = 2 ^ 8 by decide, Nat.testBit_two_pow_mul_add _ (by omega)]
    have c : ∀ (f g : Nat → Bool) m, (∀ b, b < m → f b = g b) → cntB f m = cntB g m := by
      intro f g m
      induction m with
      | zero => intro _; rfl
      | succ m ih => intro h; rw [cntB, cntB, ih (fun b hb => h b (by omega)), h m (by omega)]
    rw [c _ (fun b => d.testBit b) 8 (fun b hb => by rw [e b, if_pos hb]), c _ (fun b => (bval ds).testBit b) (8 * ds.length) (fun b hb => by rw [e (8 + b), if_neg (by omega), show 8 + b - 8 = b by omega])]
def LS64 (x : Int64) (k : Nat) : Int64 := (x.toUInt64 >>> ((nI k).toInt64.toUInt64 &&& Int64.toUInt64 63)).toInt64
def bc1 (x : Int64) : Int64 := x - (LS64 x 1 &&& 6148914691236517205)
def bc2 (x : Int64) : Int64 := (x &&& 3689348814741910323) + (LS64 x 2 &&& 3689348814741910323)
def bc3 (x : Int64) : Int64 := (x + LS64 x 4) &&& 1085102592571150095
def bc4 (x : Int64) (k : Nat) : Int64 := x + LS64 x k
def bc5 (x : Int64) : Int32 := x.toInt32 &&& nI 127
theorem bc_ex : ∃ f : Int64 → Int32, ∀ x, f x = bc5 (bc4 (bc4 (bc4 (bc3 (bc2 (bc1 x))) 8) 16) 32) := ⟨_, fun _ => rfl⟩
noncomputable def bcF : Int64 → Int32 := Classical.choose bc_ex
theorem bcF_eq (x : Int64) : bcF x = bc5 (bc4 (bc4 (bc4 (bc3 (bc2 (bc1 x))) 8) 16) 32) := Classical.choose_spec bc_ex x
theorem s_bitCount (x : Int64) (h : pm_H) (Q : Option Value × pm_H → Prop) : pGo 184 0 [some (.long x), none] [] h Q = Q (some (.int (bcF x)), h) := by
  simp only [k184_0, k184_1, k184_2, k184_3, k184_4, k184_7, k184_8, k184_9, k184_10, k184_11, k184_14, k184_15, k184_16, k184_17, k184_18, k184_21, k184_22, k184_23, k184_24, k184_25, k184_26, k184_27, k184_28, k184_29, k184_32, k184_33, k184_34, k184_35, k184_36, k184_38, k184_39, k184_40, k184_41, k184_42, k184_43, k184_45, k184_46, k184_47, k184_48, k184_49, k184_50, k184_52, k184_53, k184_54, k184_55, k184_56, k184_57, k184_59, k184_60, if_true, if_false, ite_true, ite_false, not_true_eq_false, not_false_eq_true, true_or, or_true, false_or, or_false, and_self, ok_n0, ok_ni, ok_nr, ok_nl, va_rf_some, va_rf_none, true_and, and_true, List.length_nil, List.length_cons, Option.toList_some, Option.toList_none, List.cons_append, List.nil_append, rK_uA, rK_uI, rK_uJ, rK_uP, rP_uA, rP_uI, rP_uJ, rJ_uA, rJ_uI, rJ_uP, rI_uJ, rI_uP, rz_uA, rz_uI, rz_uJ, rz_uP, rs_uA, rs_uI, rs_uJ, rs_uP, Nat.reduceAdd, Nat.reduceMul, Nat.reduceSub, Nat.reduceLeDiff, Nat.reduceLT, Nat.reduceEqDiff, Nat.add_zero, Nat.zero_add, Nat.zero_le, bcF_eq, bc5, bc4, bc3, bc2, bc1, LS64]
theorem bytes {X : Nat} (hX : X < 2 ^ 64) : bval [X % 256, X / 256 % 256, X / 65536 % 256, X / 16777216 % 256, X / 4294967296 % 256, X / 1099511627776 % 256, X / 281474976710656 % 256, X / 72057594037927936 % 256] = X := by
  simp only [bval]
  omega
theorem bc5_eq (x : Int64) : bc5 x = nI (N64 x % 128) := by
  apply Int32.toBitVec_inj.mp
  apply BitVec.eq_of_toNat_eq
  rw [bc5, Int32.toBitVec_and, BitVec.toNat_and]
  have e1 : (x.toInt32).toBitVec.toNat = N64 x % 2 ^ 32 := by
    rw [Int64.toBitVec_toInt32, BitVec.signExtend_eq_setWidth_of_le _ (by decide), BitVec.toNat_setWidth]; rfl
  have e2 : (nI 127).toBitVec.toNat = 2 ^ 7 - 1 := by decide +kernel
  have e3 : (nI (N64 x % 128)).toBitVec.toNat = N64 x % 128 := by
    show (BitVec.ofNat 32 (N64 x % 128)).toNat = _
    rw [BitVec.toNat_ofNat]
    omega
  rw [e1, e2, e3, Nat.and_two_pow_sub_one_eq_mod]
  omega
theorem sum8 {p0 p1 p2 p3 p4 p5 p6 p7 : Nat} (h0 : p0 ≤ 8) (h1 : p1 ≤ 8) (h2 : p2 ≤ 8) (h3 : p3 ≤ 8) (h4 : p4 ≤ 8) (h5 : p5 ≤ 8) (h6 : p6 ≤ 8) (h7 : p7 ≤ 8) {x : Int64} (hx : N64 x = bval [p0, p1, p2, p3, p4, p5, p6, p7]) : bc5 (bc4 (bc4 (bc4 x 8) 16) 32) = nI (p0 + p1 + p2 + p3 + p4 + p5 + p6 + p7) := by
  simp only [bval] at hx
  have a1 : N64 (bc4 x 8) = bval [p0 + p1, p1 + p2, p2 + p3, p3 + p4, p4 + p5, p5 + p6, p6 + p7, p7] := by
    have e : N64 (LS64 x 8) = N64 x / 256 := N64_lsr x (by decide)
    rw [bc4, N64_add (by omega)]
    simp only [bval]
    omega
  have a2 : N64 (bc4 (bc4 x 8) 16) = bval [p0 + p1 + p2 + p3, p1 + p2 + p3 + p4, p2 + p3 + p4 + p5, p3 + p4 + p5 + p6, p4 + p5 + p6 + p7, p5 + p6 + p7, p6 + p7, p7] := by
    have e : N64 (LS64 (bc4 x 8) 16) = N64 (bc4 x 8) / 65536 := N64_lsr _ (by decide)
    simp only [bval] at a1
    rw [bc4, N64_add (by omega)]
    simp only [bval]
    omega
  have a3 : N64 (bc4 (bc4 (bc4 x 8) 16) 32) % 128 = p0 + p1 + p2 + p3 + p4 + p5 + p6 + p7 := by
    have e : N64 (LS64 (bc4 (bc4 x 8) 16) 32) = N64 (bc4 (bc4 x 8) 16) / 4294967296 := N64_lsr _ (by decide)
    simp only [bval] at a2
    clear a1 hx
    have e2 : N64 (bc4 (bc4 x 8) 16) / 4294967296 = (p4 + p5 + p6 + p7) + 256 * (p5 + p6 + p7) + 65536 * (p6 + p7) + 16777216 * p7 := by omega
    rw [bc4, N64_add (by omega), e, e2, a2]
    clear e e2 a2
    omega
  rw [bc5_eq, a3]
theorem g3_8 : ∀ d, d < 256 → g3 (g2 (g1 d)) ≤ 8 := by decide +kernel
theorem bcF_cnt (x : Int64) : bcF x = nI (cntB (fun b => x.toBitVec.getLsbD b) 64) := by
  have hX := N64_lt x
  have hb := bytes hX
  have hm : ∀ d ∈ [N64 x % 256, N64 x / 256 % 256, N64 x / 65536 % 256, N64 x / 16777216 % 256, N64 x / 4294967296 % 256, N64 x / 1099511627776 % 256, N64 x / 281474976710656 % 256, N64 x / 72057594037927936 % 256], d < 256 := by
    intro d hd
    simp only [List.mem_cons, List.not_mem_nil, or_false] at hd
    omega
  have hc := cnt_bv _ hm
  have e1 := s1_bv _ hm
  have m1 : ∀ d ∈ List.map g1 [N64 x % 256, N64 x / 256 % 256, N64 x / 65536 % 256, N64 x / 16777216 % 256, N64 x / 4294967296 % 256, N64 x / 1099511627776 % 256, N64 x / 281474976710656 % 256, N64 x / 72057594037927936 % 256], d < 256 := by
    intro d hd
    obtain ⟨y, hy, rfl⟩ := List.mem_map.mp hd
    exact (g1_t y (hm y hy)).2.2
  have e2 := s2_bv _ m1
  have m2 : ∀ d ∈ List.map g2 (List.map g1 [N64 x % 256, N64 x / 256 % 256, N64 x / 65536 % 256, N64 x / 16777216 % 256, N64 x / 4294967296 % 256, N64 x / 1099511627776 % 256, N64 x / 281474976710656 % 256, N64 x / 72057594037927936 % 256]), d < 256 ∧ d % 16 ≤ 6 ∧ d / 16 ≤ 6 := by
    intro d hd
    obtain ⟨y, hy, rfl⟩ := List.mem_map.mp hd
    exact (g2_t y (m1 y hy)).2
  have e3 := s3_bv _ m2
  rw [hb] at e1 hc
  generalize N64 x % 256 = d0 at *
  generalize N64 x / 256 % 256 = d1 at *
  generalize N64 x / 65536 % 256 = d2 at *
  generalize N64 x / 16777216 % 256 = d3 at *
  generalize N64 x / 4294967296 % 256 = d4 at *
  generalize N64 x / 1099511627776 % 256 = d5 at *
  generalize N64 x / 281474976710656 % 256 = d6 at *
  generalize N64 x / 72057594037927936 % 256 = d7 at *
  simp only [List.map_cons, List.map_nil, List.length_cons, List.length_nil] at e1 e2 e3 hc m2
  have k1 : mskN 85 (0 + 1 + 1 + 1 + 1 + 1 + 1 + 1 + 1) = 6148914691236517205 := by decide +kernel
  have k2 : mskN 51 (0 + 1 + 1 + 1 + 1 + 1 + 1 + 1 + 1) = 3689348814741910323 := by decide +kernel
  have k3 : mskN 15 (0 + 1 + 1 + 1 + 1 + 1 + 1 + 1 + 1) = 1085102592571150095 := by decide +kernel
  rw [k1] at e1
  rw [k2] at e2
  rw [k3] at e3
  have l2 : N64 (bc1 x) = bval [g1 d0, g1 d1, g1 d2, g1 d3, g1 d4, g1 d5, g1 d6, g1 d7] := by
    have q : N64 (LS64 x 1 &&& 6148914691236517205) = (N64 x / 2 &&& 6148914691236517205) := by
      rw [N64_and, show N64 (LS64 x 1) = N64 x / 2 from N64_lsr x (by decide), show N64 6148914691236517205 = 6148914691236517205 by decide +kernel]
    have q2 : N64 x / 2 &&& 6148914691236517205 ≤ N64 x / 2 := Nat.and_le_left
    rw [bc1, N64_sub (by rw [q]; omega), q, e1]
  have l3 : N64 (bc2 (bc1 x)) = bval [g2 (g1 d0), g2 (g1 d1), g2 (g1 d2), g2 (g1 d3), g2 (g1 d4), g2 (g1 d5), g2 (g1 d6), g2 (g1 d7)] := by
    have q1 : N64 (bc1 x &&& 3689348814741910323) = (N64 (bc1 x) &&& 3689348814741910323) := by
      rw [N64_and, show N64 3689348814741910323 = 3689348814741910323 by decide +kernel]
    have q2 : N64 (LS64 (bc1 x) 2 &&& 3689348814741910323) = (N64 (bc1 x) / 4 &&& 3689348814741910323) := by
      rw [N64_and, show N64 (LS64 (bc1 x) 2) = N64 (bc1 x) / 4 from N64_lsr _ (by decide), show N64 3689348814741910323 = 3689348814741910323 by decide +kernel]
    have q3 : N64 (bc1 x) &&& 3689348814741910323 ≤ 3689348814741910323 := Nat.and_le_right
    have q4 : N64 (bc1 x) / 4 &&& 3689348814741910323 ≤ 3689348814741910323 := Nat.and_le_right
    rw [bc2, N64_add (by rw [q1, q2]; omega), q1, q2, l2, e2]
  have hb3 : bval [g2 (g1 d0), g2 (g1 d1), g2 (g1 d2), g2 (g1 d3), g2 (g1 d4), g2 (g1 d5), g2 (g1 d6), g2 (g1 d7)] ≤ 7378697629483820646 := by
    rw [← e2]
    have q3 : bval [g1 d0, g1 d1, g1 d2, g1 d3, g1 d4, g1 d5, g1 d6, g1 d7] &&& 3689348814741910323 ≤ 3689348814741910323 := Nat.and_le_right
    have q4 : bval [g1 d0, g1 d1, g1 d2, g1 d3, g1 d4, g1 d5, g1 d6, g1 d7] / 4 &&& 3689348814741910323 ≤ 3689348814741910323 := Nat.and_le_right
    omega
  have l4 : N64 (bc3 (bc2 (bc1 x))) = bval [g3 (g2 (g1 d0)), g3 (g2 (g1 d1)), g3 (g2 (g1 d2)), g3 (g2 (g1 d3)), g3 (g2 (g1 d4)), g3 (g2 (g1 d5)), g3 (g2 (g1 d6)), g3 (g2 (g1 d7))] := by
    have q : N64 (LS64 (bc2 (bc1 x)) 4) = N64 (bc2 (bc1 x)) / 16 := N64_lsr _ (by decide)
    rw [bc3, N64_and, N64_add (by rw [q, l3]; omega), q, l3, show N64 1085102592571150095 = 1085102592571150095 by decide +kernel, e3]
  have z : ∀ d ∈ [d0, d1, d2, d3, d4, d5, d6, d7], g3 (g2 (g1 d)) ≤ 8 := fun d hd => g3_8 d (hm d hd)
  rw [bcF_eq, sum8 (z d0 (by simp)) (z d1 (by simp)) (z d2 (by simp)) (z d3 (by simp)) (z d4 (by simp)) (z d5 (by simp)) (z d6 (by simp)) (z d7 (by simp)) l4]
  congr 1
  have hc2 : cntB (fun b => x.toBitVec.getLsbD b) 64 = g3 (g2 (g1 d0)) + (g3 (g2 (g1 d1)) + (g3 (g2 (g1 d2)) + (g3 (g2 (g1 d3)) + (g3 (g2 (g1 d4)) + (g3 (g2 (g1 d5)) + (g3 (g2 (g1 d6)) + (g3 (g2 (g1 d7)) + 0))))))) := hc
  rw [hc2]
  omega
theorem cntB_cg {f g : Nat → Bool} : ∀ m, (∀ b, b < m → f b = g b) → cntB f m = cntB g m := by
  intro m
  induction m with
  | zero => intro _; rfl
  | succ m ih => intro h; rw [cntB, cntB, ih (fun b hb => h b (by omega)), h m (by omega)]
theorem s_Floats_many {a b : Nat} {h : pm_H} (t : FLT h a b) (Q : Option Value × pm_H → Prop) : pGo 32 0 [some (.ref a)] [] h Q = Q (some (.int (nI (cntB (fun b => (rJ h a 0).toBitVec.getLsbD b) 64))), h) := by
  simp only [k32_0, k32_1, k32_4, k32_7, s_bitCount, bcF_cnt, if_true, if_false, ite_true, ite_false, not_true_eq_false, not_false_eq_true, true_or, or_true, false_or, or_false, and_self, ok_n0, ok_ni, ok_nr, ok_nl, va_rf_some, va_rf_none, true_and, and_true, List.length_nil, List.length_cons, Option.toList_some, Option.toList_none, List.cons_append, List.nil_append, rK_uA, rK_uI, rK_uJ, rK_uP, rP_uA, rP_uI, rP_uJ, rJ_uA, rJ_uI, rJ_uP, rI_uJ, rI_uP, rz_uA, rz_uI, rz_uJ, rz_uP, rs_uA, rs_uI, rs_uJ, rs_uP, Nat.reduceAdd, Nat.reduceMul, Nat.reduceSub, Nat.reduceLeDiff, Nat.reduceLT, Nat.reduceEqDiff, Nat.add_zero, Nat.zero_add, Nat.zero_le, t.1]
theorem DV.many_f {v : Nat → Int32} {n : Nat} {C H : Nat → Nat} {h : pm_H} {d : Nat} (t : DV h d v n C H) : cntB (fun b => (rJ h (d + 50) 0).toBitVec.getLsbD b) 64 = cntB (fun w => decide (v (620 + 6 * w + 1) = nI 1)) 60 := by
  show cntB (fun b => (rJ h (d + 50) 0).toBitVec.getLsbD b) (60 + 4) = _
  rw [cnt8, cntB_cg 60 (g := fun w => decide (v (620 + 6 * w + 1) = nI 1)) (fun b hb => by rw [t.bit]; simp [hb]), cntB_cg 4 (g := fun _ => false) (fun b hb => by rw [t.bit]; exact decide_eq_false (fun q => by omega))]
  simp [cntB]
