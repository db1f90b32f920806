/-! BITS -/
theorem sh_w : ∀ w, w < 60 → ((nI w).toInt64 &&& 63) = Int64.ofNat w := by decide +kernel
theorem smod_w : ∀ w, w < 60 → (Int64.ofNat w).toBitVec.smod 64 = BitVec.ofNat 64 w := by decide +kernel
theorem i64_0 (x : Int64) : (x = 0) ↔ x.toBitVec = 0#64 := by
  constructor
  · intro h; rw [h]; rfl
  · intro h; exact Int64.toBitVec_inj.mp h
theorem bv_and1 (y : BitVec 64) : (y &&& 1#64 = 0#64) ↔ y.getLsbD 0 = false := by
  constructor
  · intro h
    have := congrArg (fun z : BitVec 64 => z.getLsbD 0) h
    simpa using this
  · intro h
    apply BitVec.eq_of_getLsbD_eq
    intro i hi
    by_cases h0 : i = 0
    · subst h0
      rw [BitVec.getLsbD_and, h]; simp
    · simp [h0]
theorem fbit_g (x : Int64) {w : Nat} (hw : w < 60) : fbit x (nI w) = x.toBitVec.getLsbD w := by
  rw [fbit_eq]
  simp only [lg_cmp_0, sh_w w hw]
  have e : ((x >>> Int64.ofNat w &&& 1) = 0) ↔ x.toBitVec.getLsbD w = false := by
    rw [i64_0, Int64.toBitVec_and, Int64.toBitVec_shiftRight, smod_w w hw]
    show (x.toBitVec.sshiftRight' (BitVec.ofNat 64 w)) &&& 1#64 = 0#64 ↔ _
    rw [bv_and1, BitVec.sshiftRight', BitVec.toNat_ofNat, Nat.mod_eq_of_lt (by omega), BitVec.getLsbD_sshiftRight]
    simp [show ¬ 64 ≤ w by omega, show w < 64 by omega]
  simp only [e]
  cases x.toBitVec.getLsbD w <;> simp
theorem fset_g (x : Int64) {w : Nat} (hw : w < 60) (j : Nat) : (fset x (nI w)).toBitVec.getLsbD j = (x.toBitVec.getLsbD j || decide (j = w)) := by
  rw [fset_eq, sh_w w hw, Int64.toBitVec_or, Int64.toBitVec_shiftLeft, smod_w w hw, BitVec.getLsbD_or]
  congr 1
  show (1#64 <<< BitVec.ofNat 64 w).getLsbD j = _
  rw [BitVec.shiftLeft_eq', BitVec.toNat_ofNat, Nat.mod_eq_of_lt (by omega), BitVec.getLsbD_shiftLeft]
  by_cases h1 : j = w
  · subst h1; simp; omega
  · by_cases h2 : j < w
    · simp [h1, h2]
    · by_cases h3 : j < 64
      · simp [h1, h2, h3, show ¬ j - w = 0 by omega]
      · simp [h1, h3]
theorem fclr_g (x : Int64) {w : Nat} (hw : w < 60) (j : Nat) : (fclr x (nI w)).toBitVec.getLsbD j = (x.toBitVec.getLsbD j && !decide (j = w)) := by
  rw [fclr_eq, sh_w w hw, Int64.toBitVec_and, Int64.toBitVec_xor, Int64.toBitVec_shiftLeft, smod_w w hw, BitVec.getLsbD_and, BitVec.getLsbD_xor]
  by_cases hj : j < 64
  · congr 1
    have e1 : (1#64 <<< BitVec.ofNat 64 w).getLsbD j = decide (j = w) := by
      rw [BitVec.shiftLeft_eq', BitVec.toNat_ofNat, Nat.mod_eq_of_lt (by omega), BitVec.getLsbD_shiftLeft]
      by_cases h1 : j = w
      · subst h1; simp; omega
      · by_cases h2 : j < w
        · simp [h1, h2]
        · simp [h1, h2, hj, show ¬ j - w = 0 by omega]
    have e2 : (Int64.toBitVec (-1)).getLsbD j = true := by
      have : Int64.toBitVec (-1) = BitVec.allOnes 64 := by decide +kernel
      rw [this, BitVec.getLsbD_allOnes]; simp [hj]
    show ((1#64 <<< BitVec.ofNat 64 w).getLsbD j ^^ (Int64.toBitVec (-1)).getLsbD j) = _
    rw [e1, e2]; simp
  · rw [BitVec.getLsbD_of_ge _ _ (by omega)]; simp
theorem i64_ext {x y : Int64} (h : ∀ j, x.toBitVec.getLsbD j = y.toBitVec.getLsbD j) : x = y := by
  apply Int64.toBitVec_inj.mp
  apply BitVec.eq_of_getLsbD_eq
  intro i _
  exact h i
section INV
variable {v : Nat → Int32} {n c : Nat} {p lo r rl C H P : Nat → Nat} {h : pm_H} {d : Nat}
theorem DV.fh (t : DV h d v n C H) {w : Nat} (hw : w < 60) : fhas (rJ h (d + 50) 0) (nI w) = decide (v (620 + 6 * w + 1) = nI 1) := by
  rw [fhas, fbit_g _ hw, t.bit]
  have c1 : nI 0 ≤ nI w ∧ nI w < nI 60 := by
    rw [ar_le (by omega) (by omega), ar_lt (by omega) (by omega)]; omega
  simp [c1, hw]
theorem fh_m1 (x : Int64) : fhas x (-1) = false := by
  rw [fhas]
  have : ¬ (nI 0 ≤ (-1 : Int32)) := by decide +kernel
  simp [this]
theorem tcnt_tz (t : DV h d v n C H) (q : RI v C H P) {i : Nat} (hi : i < 9) : ∀ m k, k + m ≤ C i → tcnt (rJ h (d + 50) 0) (rI h (d + 5 + 4 * i)) m k (tz v i k) = tz v i (k + m) := by
  intro m
  induction m with
  | zero => intro k _; rfl
  | succ m ih =>
    intro k hk
    obtain ⟨h1, h2, -⟩ := q.od i k hi (by omega)
    rw [tcnt, t.ord i k hi (by omega), h2, t.fh h1]
    have := ih (k + 1) (by omega)
    rw [tz] at this
    rw [show k + (m + 1) = k + 1 + m by omega, ← this]
    simp only [decide_eq_true_eq]
theorem tcnt_0 (t : DV h d v n C H) (q : RI v C H P) {i k : Nat} (hi : i < 9) (hk : k ≤ C i) : tcnt (rJ h (d + 50) 0) (rI h (d + 5 + 4 * i)) k 0 0 = tz v i k := by
  have := tcnt_tz t q hi k 0 (by omega)
  rw [Nat.zero_add] at this
  exact this
end INV
