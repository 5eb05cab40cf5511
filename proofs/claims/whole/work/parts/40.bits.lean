/-! bits -/
theorem bI_ext {x y : Int32} (h : ∀ i, i < 32 → bI x i = bI y i) : x = y := Int32.toBitVec_inj.mp (BitVec.eq_of_getLsbD_eq (fun i hi => h i hi))
theorem bI_or (x y : Int32) (i : Nat) : bI (x ||| y) i = (bI x i || bI y i) := by unfold bI; rw [Int32.toBitVec_or, BitVec.getLsbD_or]
theorem bI_and (x y : Int32) (i : Nat) : bI (x &&& y) i = (bI x i && bI y i) := by unfold bI; rw [Int32.toBitVec_and, BitVec.getLsbD_and]
theorem bI_0 (i : Nat) : bI 0 i = false := BitVec.getLsbD_zero
theorem bI_m1 : ∀ i, i < 32 → bI (-1) i = true := by decide +kernel
theorem bI_1 (i : Nat) : bI 1 i = decide (i = 0) := by
  rcases Nat.lt_or_ge i 32 with h | h
  · exact (by decide +kernel : ∀ i, i < 32 → bI 1 i = decide (i = 0)) i h
  · rw [show bI 1 i = false from BitVec.getLsbD_of_ge _ _ h, decide_eq_false (by omega)]
theorem bI_big {x : Int32} {i : Nat} (h : 32 ≤ i) : bI x i = false := BitVec.getLsbD_of_ge _ _ h
theorem s31 : ∀ n, n < 32 → ((nI n &&& 31).toBitVec.smod 32).toNat = n := by decide +kernel
theorem bI_one : ∀ l, l < 32 → ((1 : Int32) <<< (nI l &&& 31)).toBitVec = BitVec.twoPow 32 l := by decide +kernel
theorem bI_sh {l : Nat} (hl : l < 32) (i : Nat) : bI ((1 : Int32) <<< (nI l &&& 31)) i = decide (l = i) := by
  unfold bI
  rw [bI_one l hl, BitVec.getLsbD_twoPow]
  simp [hl]
theorem bI_not (x : Int32) {i : Nat} (hi : i < 32) : bI (x ^^^ (-1)) i = !bI x i := by
  have := bI_m1 i hi
  unfold bI at this ⊢
  rw [Int32.toBitVec_xor, BitVec.getLsbD_xor, this]
  cases x.toBitVec.getLsbD i <;> rfl
theorem bI_sr {n : Nat} (hn : n < 32) (x : Int32) : bI (x >>> (nI n &&& 31)) 0 = bI x n := by
  unfold bI
  rw [Int32.toBitVec_shiftRight]
  show (x.toBitVec.sshiftRight ((nI n &&& 31).toBitVec.smod 32).toNat).getLsbD 0 = _
  rw [s31 n hn, BitVec.getLsbD_sshiftRight]
  simp [hn]
theorem sr1 {n : Nat} (hn : n < 32) (x : Int32) : (x >>> (nI n &&& 31)) &&& 1 = if bI x n = true then 1 else 0 := by
  apply bI_ext
  intro i hi
  rw [bI_and, bI_1]
  by_cases e : i = 0
  · subst e
    rw [bI_sr hn]
    cases bI x n <;> rfl
  · cases bI x n <;> simp [e, bI_0, bI_1]
theorem hb_1 {x : Int32} {n : Nat} {h : Hp} {Q : Int32 → Prop} (hn : n < 32) (a : bI x n = true) : wp_X10_hasBit x (nI n) h Q = Q 1 := by
  unfold wp_X10_hasBit
  rw [sr1 hn, a]
  simp
theorem hb_0 {x : Int32} {n : Nat} {h : Hp} {Q : Int32 → Prop} (hn : n < 32) (a : bI x n = false) : wp_X10_hasBit x (nI n) h Q = Q 0 := by
  unfold wp_X10_hasBit
  rw [sr1 hn, a]
  simp
/-! longs -/
theorem bJ_ext {x y : Int64} (h : ∀ i, i < 64 → bJ x i = bJ y i) : x = y := Int64.toBitVec_inj.mp (BitVec.eq_of_getLsbD_eq (fun i hi => h i hi))
theorem bJ_or (x y : Int64) (i : Nat) : bJ (x ||| y) i = (bJ x i || bJ y i) := by unfold bJ; rw [Int64.toBitVec_or, BitVec.getLsbD_or]
theorem bJ_and (x y : Int64) (i : Nat) : bJ (x &&& y) i = (bJ x i && bJ y i) := by unfold bJ; rw [Int64.toBitVec_and, BitVec.getLsbD_and]
theorem bJ_0 (i : Nat) : bJ 0 i = false := BitVec.getLsbD_zero
theorem bJ_big {x : Int64} {i : Nat} (h : 64 ≤ i) : bJ x i = false := BitVec.getLsbD_of_ge _ _ h
theorem bJ_m1 : ∀ i, i < 64 → bJ (-1) i = true := by decide +kernel
theorem bJ_not (x : Int64) {i : Nat} (hi : i < 64) : bJ (x ^^^ (-1)) i = !bJ x i := by
  have := bJ_m1 i hi
  unfold bJ at this ⊢
  rw [Int64.toBitVec_xor, BitVec.getLsbD_xor, this]
  cases x.toBitVec.getLsbD i <;> rfl
theorem bJ_1 (i : Nat) : bJ 1 i = decide (i = 0) := by
  rcases Nat.lt_or_ge i 64 with h | h
  · exact (by decide +kernel : ∀ i, i < 64 → bJ 1 i = decide (i = 0)) i h
  · rw [bJ_big h, decide_eq_false (by omega)]
theorem s63 : ∀ k, k < 64 → (((nI k).toInt64 &&& 63).toBitVec.smod 64).toNat = k := by decide +kernel
theorem bJ_one : ∀ l, l < 64 → ((1 : Int64) <<< ((nI l).toInt64 &&& 63)).toBitVec = BitVec.twoPow 64 l := by decide +kernel
theorem bJ_sh {l : Nat} (hl : l < 64) (i : Nat) : bJ ((1 : Int64) <<< ((nI l).toInt64 &&& 63)) i = decide (l = i) := by
  unfold bJ
  rw [bJ_one l hl, BitVec.getLsbD_twoPow]
  simp [hl]
theorem bJ_sr {n : Nat} (hn : n < 64) (x : Int64) : bJ (x >>> ((nI n).toInt64 &&& 63)) 0 = bJ x n := by
  unfold bJ
  rw [Int64.toBitVec_shiftRight]
  show (x.toBitVec.sshiftRight (((nI n).toInt64 &&& 63).toBitVec.smod 64).toNat).getLsbD 0 = _
  rw [s63 n hn, BitVec.getLsbD_sshiftRight]
  simp [hn]
theorem sr1J {n : Nat} (hn : n < 64) (x : Int64) : (x >>> ((nI n).toInt64 &&& 63)) &&& 1 = if bJ x n = true then 1 else 0 := by
  apply bJ_ext
  intro i hi
  rw [bJ_and, bJ_1]
  by_cases e : i = 0
  · subst e
    rw [bJ_sr hn]
    cases bJ x n <;> rfl
  · cases bJ x n <;> simp [e, bJ_0, bJ_1]
theorem hbJ_1 {x : Int64} {n : Nat} {h : Hp} {Q : Int32 → Prop} (hn : n < 64) (a : bJ x n = true) : wp_X10_hasBit_ x (nI n) h Q = Q 1 := by
  unfold wp_X10_hasBit_
  rw [sr1J hn, a]
  simp
theorem hbJ_0 {x : Int64} {n : Nat} {h : Hp} {Q : Int32 → Prop} (hn : n < 64) (a : bJ x n = false) : wp_X10_hasBit_ x (nI n) h Q = Q 0 := by
  unfold wp_X10_hasBit_
  rw [sr1J hn, a]
  simp
