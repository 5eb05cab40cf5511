/-! the two shares: no NaN comes up -/
theorem fs_all : ∀ n, n < 41 → ∀ m, m < 41 → m ≠ 0 → (FP.fdiv (FP.i2f (Int32.ofNat n)) (FP.i2f (Int32.ofNat m)) &&& 0x7fffffff ≤ 0x7f800000) ∧ (FP.f2d (FP.fdiv (FP.i2f (Int32.ofNat n)) (FP.i2f (Int32.ofNat m))) &&& 0x7fffffffffffffff ≤ 0x7ff0000000000000) := by decide +kernel
theorem id_all : ∀ n, n < 41 → n ≠ 0 → (match FP.Core.decode FP.Core.b64 (FP.i2d (Int32.ofNat n)).toNat with | .fin _ d _ => d ≠ 0 | _ => False) := by
  intro n hn h0
  have : ∀ n, n < 41 → n ≠ 0 → (match FP.Core.decode FP.Core.b64 (FP.i2d (Int32.ofNat n)).toNat with | .fin _ d _ => decide (d ≠ 0) | _ => false) = true := by decide +kernel
  have := this n hn h0
  split at this <;> simp_all
theorem enc_ok {d : FP.Core.Datum} (h : ∀ s c q, d = .fin s c q → c < 2 ^ 53 ∧ q ≤ FP.Core.b64.qmax) (hn : d ≠ .nan) : FP.Core.encode FP.Core.b64 d < 2 ^ 64 ∧ FP.Core.encode FP.Core.b64 d % 2 ^ 63 ≤ 2047 * 2 ^ 52 := by
  have e1 : FP.Core.b64.tails = 2 ^ 52 := rfl
  have e2 : FP.Core.b64.exps = 2048 := rfl
  have e3 : FP.Core.b64.qmax = 971 := rfl
  have e4 : FP.Core.b64.qmin = -1074 := rfl
  have key : ∀ (s : Bool) (e t : Nat), e ≤ 2046 → t < 2 ^ 52 → FP.Core.assemble FP.Core.b64 s e t < 2 ^ 64 ∧ FP.Core.assemble FP.Core.b64 s e t % 2 ^ 63 ≤ 2047 * 2 ^ 52 := by
    intro s e t he ht
    unfold FP.Core.assemble
    rw [e1, e2]
    cases s <;> simp only [Bool.toNat_false, Bool.toNat_true] <;> omega
  cases d with
  | nan => exact absurd rfl hn
  | inf s =>
    unfold FP.Core.encode FP.Core.assemble
    simp only [e1, e2]
    cases s <;> decide
  | fin s c q =>
    obtain ⟨hc, hq⟩ := h s c q rfl
    unfold FP.Core.encode
    simp only [e1, e4]
    rw [e3] at hq
    by_cases k : c < 2 ^ 52
    · rw [if_pos k]; exact key s 0 c (by omega) k
    · rw [if_neg k]; exact key s _ _ (by omega) (by omega)
theorem rr_ok (s : Bool) (c d : Nat) (q : Int) : FP.Core.roundRatio FP.Core.b64 s c d q ≠ .nan ∧ ∀ s' c' q', FP.Core.roundRatio FP.Core.b64 s c d q = .fin s' c' q' → c' < 2 ^ 53 ∧ q' ≤ FP.Core.b64.qmax := by
  unfold FP.Core.roundRatio
  split
  · refine ⟨by simp, fun s' c' q' e => ?_⟩
    cases e
    exact ⟨by decide, by decide⟩
  · unfold FP.Core.roundAt FP.Core.settle FP.Core.bound
    have e1 : FP.Core.b64.p = 53 := rfl
    rw [e1]
    split
    · split
      · refine ⟨by simp, fun s' c' q' e => ?_⟩
        cases e
        rename_i a b
        exact ⟨a, b⟩
      · refine ⟨by simp, fun s' c' q' e => by cases e⟩
    · split
      · refine ⟨by simp, fun s' c' q' e => ?_⟩
        cases e
        rename_i a b
        exact ⟨by decide, b⟩
      · refine ⟨by simp, fun s' c' q' e => by cases e⟩
theorem dec_ok {n : Nat} (h : n < 2 ^ 64 ∧ n % 2 ^ 63 ≤ 2047 * 2 ^ 52) : FP.Core.decode FP.Core.b64 n ≠ .nan := by
  unfold FP.Core.decode FP.Core.fieldE FP.Core.fieldT
  have e1 : FP.Core.b64.tails = 2 ^ 52 := rfl
  have e2 : FP.Core.b64.exps = 2048 := rfl
  rw [e1, e2]
  split
  · split
    · simp
    · rename_i a b
      omega
  · split <;> simp
theorem mean_ok {a b : UInt64} (ha : FP.Core.decode FP.Core.b64 a.toNat ≠ .nan) (hb : match FP.Core.decode FP.Core.b64 b.toNat with | .fin _ d _ => d ≠ 0 | _ => False) : FP.ddiv a b &&& 0x7fffffffffffffff ≤ 0x7ff0000000000000 := by
  have k : ∀ m : Nat, m < 2 ^ 64 ∧ m % 2 ^ 63 ≤ 2047 * 2 ^ 52 → UInt64.ofNat m &&& 0x7fffffffffffffff ≤ 0x7ff0000000000000 := by
    intro m hm
    rw [UInt64.le_iff_toNat_le, UInt64.toNat_and, UInt64.toNat_ofNat_of_lt' (by exact hm.1), show (0x7fffffffffffffff : UInt64).toNat = 2 ^ 63 - 1 from rfl, Nat.and_two_pow_sub_one_eq_mod, show (0x7ff0000000000000 : UInt64).toNat = 2047 * 2 ^ 52 from rfl]
    exact hm.2
  unfold FP.ddiv FP.Core.ddiv FP.Core.div
  apply k
  cases eb : FP.Core.decode FP.Core.b64 b.toNat with
  | nan => rw [eb] at hb; exact hb.elim
  | inf s => rw [eb] at hb; exact hb.elim
  | fin t d r =>
    rw [eb] at hb
    have hd : d ≠ 0 := hb
    cases ea : FP.Core.decode FP.Core.b64 a.toNat with
    | nan => exact absurd ea ha
    | inf s =>
      refine enc_ok (fun s c q e => by cases e) (by simp [FP.Core.quotient])
    | fin s c q =>
      unfold FP.Core.quotient
      simp only [hd, if_false]
      obtain ⟨x, y⟩ := rr_ok (s != t) c d (q - r)
      exact enc_ok y x
theorem i2d_ok (x : Int32) : FP.Core.decode FP.Core.b64 (FP.i2d x).toNat ≠ .nan := by
  unfold FP.i2d FP.Core.i2d FP.Core.fromInt FP.Core.ofInt FP.Core.round
  obtain ⟨x, y⟩ := rr_ok (decide (x.toInt < 0)) x.toInt.natAbs 1 0
  have := enc_ok y x
  rw [UInt64.toNat_ofNat_of_lt' this.1]
  exact dec_ok this
theorem gs_ok {n m : Nat} (hn : n ≤ 40) (hm : m ≤ 40) (h0 : m ≠ 0) : vf_n32 (FP.fdiv (FP.i2f (nI n)) (FP.i2f (nI m))) ∧ vf_n64 (FP.f2d (FP.fdiv (FP.i2f (nI n)) (FP.i2f (nI m)))) := fs_all n (by omega) m (by omega) h0
theorem gs_cmp : ∀ n, n < 41 → ∀ m, m < 41 → m ≠ 0 → Op.cmpValue (FP.dcmp (FP.f2d (FP.fdiv (FP.i2f (Int32.ofNat n)) (FP.i2f (Int32.ofNat m)))) (FP.f2d (FP.fdiv (FP.i2f (Int32.ofNat n)) (FP.i2f (Int32.ofNat m))))) .l = 0 := by decide +kernel
theorem ms_ok {x : Int32} {m : Nat} (hm : m ≤ 40) (h0 : m ≠ 0) : vf_n64 (FP.ddiv (FP.i2d x) (FP.i2d (nI m))) := mean_ok (i2d_ok x) (id_all m (by omega) h0)
