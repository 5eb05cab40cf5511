/-! a test without parts for a mail: M 0 sender, 1 receivers, 2 subject, 3 body, 4 size, 5 weekday, 6 flags -/
def pcn (n : Nat) : Nat := ((List.range 10).filter (fun k => n.testBit k)).length
def bcN (p0 : Int32) : Int32 :=
  let v1 := p0 - (((p0.toUInt32 >>> ((1 : Int32).toUInt32 &&& Int32.toUInt32 31)).toInt32) &&& 1431655765)
  let v2 := (v1 &&& 858993459) + (((v1.toUInt32 >>> ((2 : Int32).toUInt32 &&& Int32.toUInt32 31)).toInt32) &&& 858993459)
  let v3 := (v2 + ((v2.toUInt32 >>> ((4 : Int32).toUInt32 &&& Int32.toUInt32 31)).toInt32)) &&& 252645135
  let v4 := v3 + ((v3.toUInt32 >>> ((8 : Int32).toUInt32 &&& Int32.toUInt32 31)).toInt32)
  let v5 := v4 + ((v4.toUInt32 >>> ((16 : Int32).toUInt32 &&& Int32.toUInt32 31)).toInt32)
  v5 &&& 63
theorem bc_all : ∀ n, n < 1024 → bcN (nI n) = nI (pcn n) := by decide +kernel
theorem bc_w {n : Nat} {h : Hp} {Q : Int32 → Prop} (hn : n < 1024) : wp_J6_bitCount_0f7a4 (nI n) h Q = Q (nI (pcn n)) := by
  unfold wp_J6_bitCount_0f7a4 LET
  simp only [forall_eq]
  rw [← bc_all n hn]
  rfl
def bsN (x : Int32) : Nat → Int32
  | 0 => 0
  | k + 1 => bsN x k + (x >>> (nI k &&& 31) &&& 1)
theorem bs_all : ∀ n, n < 1024 → bsN (nI n) 16 = nI (pcn n) := by decide +kernel
theorem bits_w {n : Nat} {h : Hp} {Q : Int32 → Prop} (hn : n < 1024) (f : Q (nI (pcn n))) : wp_X11_bits (nI n) h Q := by
  unfold wp_X11_bits wp_X11_bits_b4
  refine LFP2.by (I := fun x y => ∃ k, k ≤ 16 ∧ y = nI k ∧ x = bsN (nI n) k) (μ := fun _ y => 16 - y.toNatClampNeg) ⟨0, by omega, rfl, rfl⟩ ?_
  rintro x y ⟨k, hk, rfl, rfl⟩ P hP
  unfold wp_X11_bits_b4F LET
  by_cases c : k = 16
  · subst c
    rw [if_pos (by decide), bs_all n hn]
    exact f
  · rw [if_neg (show ¬ (16 : Int32) ≤ nI k from nI_ge (b := 16) (show k < 16 by omega) (by omega))]
    simp only [forall_eq]
    exact hP _ _ ⟨k + 1, by omega, nI_1 k, rfl⟩ (by rw [nI_1, nI_clamp (by omega), nI_clamp (by omega)]; omega)
