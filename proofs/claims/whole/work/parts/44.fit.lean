/-! a test without parts for a mail: M 0 sender, 1 receivers, 2 subject, 3 body, 4 size, 5 weekday, 6 flags -/
def pcn (n : Nat) : Nat := ((List.range 10).filter (fun k => n.testBit k)).length
def bcN (p0 : Int32) : Int32 :=
  let v1 := p0 - (((p0.toUInt32 >>> ((1 : Int32).toUInt32 &&& Int32.toUInt32 31)).toInt32) &&& 1431655765)
  let v2 := (v1 &&& 858993459) + (((v1.toUInt32 >>> ((2 : Int32).toUInt32 &&& Int32.toUInt32 31)).toInt32) &&& 858993459)
  let v3 := (v2 + ((v2.toUInt32 >>> ((4 : Int32).toUInt32 &&& Int32.toUInt32 31)).toInt32)) &&& 252645135
  let v4 := v3 + ((v3.toUInt32 >>> ((8 : Int32).toUInt32 &&& Int32.toUInt32 31)).toInt32)
  let v5 := v4 + ((v4.toUInt32 >>> ((16 : Int32).toUInt32 &&& Int32.toUInt32 31)).toInt32)
  v5 &&& 63
theorem bc_all : ∀ n, n < 1024 → bcN (nI n) = nI (pcn n) := by decide +kernel
theorem bc_w {n : Nat} {h : Hp} {Q : Int32 → Prop} (hn : n < 1024) : wp_J6_bitCount_0f7a4 (nI n) h Q = Q (nI (pcn n)) := by
  unfold wp_J6_bitCount_0f7a4 LET
  simp only [forall_eq]
  rw [← bc_all n hn]
  rfl
def bsN (x : Int32) : Nat → Int32
  | 0 => 0
  | k + 1 => bsN x k + (x >>> (nI k &&& 31) &&& 1)
theorem bs_all : ∀ n, n < 1024 → bsN (nI n) 16 = nI (pcn n) := by decide +kernel
theorem bits_w {n : Nat} {h : Hp} {Q : Int32 → Prop} (hn : n < 1024) (f : Q (nI (pcn n))) : wp_X11_bits (nI n) h Q := by
  unfold wp_X11_bits wp_X11_bits_b4
  refine LFP2.by (I := fun x y => ∃ k, k ≤ 16 ∧ y = nI k ∧ x = bsN (nI n) k) (μ := fun _ y => 16 - y.toNatClampNeg) ⟨0, by omega, rfl, rfl⟩ ?_
  rintro x y ⟨k, hk, rfl, rfl⟩ P hP
  unfold wp_X11_bits_b4F LET
  by_cases c : k = 16
  · subst c
    rw [if_pos (by decide), bs_all n hn]
    exact f
  · rw [if_neg (show ¬ (16 : Int32) ≤ nI k from nI_ge (b := 16) (show k < 16 by omega) (by omega))]
    simp only [forall_eq]
    exact hP _ _ ⟨k + 1, by omega, nI_1 k, rfl⟩ (by rw [nI_1, nI_clamp (by omega), nI_clamp (by omega)]; omega)
def cl (x : Int32) : Nat := x.toNatClampNeg
def fit (M : Nat → Int32) (k a : Int32) : Bool :=
  if k = 98 then bI (M 3) (cl a) else if k = 100 then decide (M 5 = a) else if k = 102 then decide (M 0 = a) else if k = 107 then bI (M 6) (cl a)
  else if k = 110 then decide (¬ nI (pcn (cl (M 1))) < a) else if k = 115 then bI (M 2) (cl a) else if k = 116 then bI (M 1) (cl a) else if k = 122 then decide (¬ M 4 ≤ a) else true
def mC (h : Hp) (m : Nat) (fl : Int32) : Nat → Int32 := fun i => if i = 6 then fl else gI h 2 m i
def bit01 (b : Bool) : Int32 := if b = true then 1 else 0
theorem hb_w {x a : Int32} {h : Hp} {Q : Int32 → Prop} {n : Nat} (ha : inN a n) (hn : n ≤ 32) : wp_X10_hasBit x a h Q = Q (bit01 (bI x (cl a))) := by
  obtain ⟨j, hj, rfl⟩ := ha
  rw [show cl (nI j) = j from nI_clamp (by omega)]
  cases b : bI x j
  · rw [hb_0 (by omega) b]; rfl
  · rw [hb_1 (by omega) b]; rfl
theorem fits_w {k a : Int32} {m : Nat} {fl : Int32} {h : Hp} {Q : Int32 → Prop} (o : leafOK k a) (hr : inN (gI h 2 m 1) 1024) : wp_X9_fits k a m fl h Q = Q (bit01 (fit (mC h m fl) k a)) := by
  unfold wp_X9_fits fit mC
  rcases o with rfl | ⟨rfl | rfl, o⟩ | ⟨rfl | rfl, o⟩ | ⟨rfl, o⟩ | ⟨rfl, o⟩ | ⟨rfl, o⟩ | ⟨rfl, o⟩
  · simp [bit01]
  · simp only [show ((102 : Int32) = 98) = False by decide, show ((102 : Int32) = 100) = False by decide, gI_sI, gI_sJ, gI_sR, gI_sD, gJ_sI, gJ_sJ, gJ_sR, gJ_sD, gR_sI, gR_sJ, gR_sR, gR_sD, gD_sI, gD_sJ, gD_sR, gD_sD, Nat.reduceEqDiff, false_and, and_false, true_and, and_true, and_self, reduceIte, if_true, if_false, ite_true, ite_false]
    by_cases e : gI h 2 m 0 = a <;> simp [e, bit01]
  · simp only [show ((116 : Int32) = 98) = False by decide, show ((116 : Int32) = 100) = False by decide, show ((116 : Int32) = 102) = False by decide, show ((116 : Int32) = 107) = False by decide, show ((116 : Int32) = 110) = False by decide, show ((116 : Int32) = 115) = False by decide, gI_sI, gI_sJ, gI_sR, gI_sD, gJ_sI, gJ_sJ, gJ_sR, gJ_sD, gR_sI, gR_sJ, gR_sR, gR_sD, gD_sI, gD_sJ, gD_sR, gD_sD, Nat.reduceEqDiff, false_and, and_false, true_and, and_true, and_self, reduceIte, if_true, if_false, ite_true, ite_false, hb_w o (by decide)]
    simp
  · simp only [show ((115 : Int32) = 98) = False by decide, show ((115 : Int32) = 100) = False by decide, show ((115 : Int32) = 102) = False by decide, show ((115 : Int32) = 107) = False by decide, show ((115 : Int32) = 110) = False by decide, gI_sI, gI_sJ, gI_sR, gI_sD, gJ_sI, gJ_sJ, gJ_sR, gJ_sD, gR_sI, gR_sJ, gR_sR, gR_sD, gD_sI, gD_sJ, gD_sR, gD_sD, Nat.reduceEqDiff, false_and, and_false, true_and, and_true, and_self, reduceIte, if_true, if_false, ite_true, ite_false, hb_w o (by decide)]
    simp
  · simp only [gI_sI, gI_sJ, gI_sR, gI_sD, gJ_sI, gJ_sJ, gJ_sR, gJ_sD, gR_sI, gR_sJ, gR_sR, gR_sD, gD_sI, gD_sJ, gD_sR, gD_sD, Nat.reduceEqDiff, false_and, and_false, true_and, and_true, and_self, reduceIte, if_true, if_false, ite_true, ite_false, hb_w o (by decide)]
    simp
  · simp only [show ((122 : Int32) = 98) = False by decide, show ((122 : Int32) = 100) = False by decide, show ((122 : Int32) = 102) = False by decide, show ((122 : Int32) = 107) = False by decide, show ((122 : Int32) = 110) = False by decide, show ((122 : Int32) = 115) = False by decide, show ((122 : Int32) = 116) = False by decide, gI_sI, gI_sJ, gI_sR, gI_sD, gJ_sI, gJ_sJ, gJ_sR, gJ_sD, gR_sI, gR_sJ, gR_sR, gR_sD, gD_sI, gD_sJ, gD_sR, gD_sD, Nat.reduceEqDiff, false_and, and_false, true_and, and_true, and_self, reduceIte, if_true, if_false, ite_true, ite_false]
    by_cases e : gI h 2 m 4 ≤ a <;> simp [e, bit01]
  · simp only [show ((100 : Int32) = 98) = False by decide, gI_sI, gI_sJ, gI_sR, gI_sD, gJ_sI, gJ_sJ, gJ_sR, gJ_sD, gR_sI, gR_sJ, gR_sR, gR_sD, gD_sI, gD_sJ, gD_sR, gD_sD, Nat.reduceEqDiff, false_and, and_false, true_and, and_true, and_self, reduceIte, if_true, if_false, ite_true, ite_false]
    by_cases e : gI h 2 m 5 = a <;> simp [e, bit01]
  · obtain ⟨r, hr', er⟩ := hr
    simp only [show ((110 : Int32) = 98) = False by decide, show ((110 : Int32) = 100) = False by decide, show ((110 : Int32) = 102) = False by decide, show ((110 : Int32) = 107) = False by decide, gI_sI, gI_sJ, gI_sR, gI_sD, gJ_sI, gJ_sJ, gJ_sR, gJ_sD, gR_sI, gR_sJ, gR_sR, gR_sD, gD_sI, gD_sJ, gD_sR, gD_sD, Nat.reduceEqDiff, false_and, and_false, true_and, and_true, and_self, reduceIte, if_true, if_false, ite_true, ite_false, er, bc_w hr']
    simp only [show cl (nI r) = r from nI_clamp (by omega), show (1 : Nat) = 6 ↔ False by decide, gI_sI, gI_sJ, gI_sR, gI_sD, gJ_sI, gJ_sJ, gJ_sR, gJ_sD, gR_sI, gR_sJ, gR_sR, gR_sD, gD_sI, gD_sJ, gD_sR, gD_sD, Nat.reduceEqDiff, false_and, and_false, true_and, and_true, and_self, reduceIte, if_true, if_false, ite_true, ite_false, er]
    by_cases e : nI (pcn r) < a <;> simp [e, bit01, er, show cl (nI r) = r from nI_clamp (by omega)]
  · simp only [show ((107 : Int32) = 98) = False by decide, show ((107 : Int32) = 100) = False by decide, show ((107 : Int32) = 102) = False by decide, gI_sI, gI_sJ, gI_sR, gI_sD, gJ_sI, gJ_sJ, gJ_sR, gJ_sD, gR_sI, gR_sJ, gR_sR, gR_sD, gD_sI, gD_sJ, gD_sR, gD_sD, Nat.reduceEqDiff, false_and, and_false, true_and, and_true, and_self, reduceIte, if_true, if_false, ite_true, ite_false, hb_w o (by decide)]
