/-! mails that are looked for: the sketch -/
def VM (M : Nat → Int32) : Prop := inN (M 0) 10 ∧ inZ (M 1) 1 1023 ∧ inN (M 2) 65536 ∧ inN (M 3) 65536 ∧ inZ (M 4) 1 999 ∧ inN (M 5) 7
theorem bI_nI {n k : Nat} (hk : k < 32) : bI (nI n) k = n.testBit k := by
  unfold bI
  rw [show (nI n).toBitVec = BitVec.ofNat 32 n from rfl, BitVec.getLsbD_ofNat]
  simp [hk]
theorem pcn_ct : ∀ n, n < 1024 → pcn n = ct (fun k => n.testBit k) 10 := by decide +kernel
theorem pcn_or : ∀ n, n < 1024 → ∀ i, i < 10 → n.testBit i = false → pcn (n ||| 2 ^ i) = pcn n + 1 := by decide +kernel
theorem ct_cover {f g : Nat → Bool} : ∀ n, (∀ i, i < n → f i = true ∨ g i = true) → n ≤ ct f n + ct g n := by
  intro n
  induction n with
  | zero => intro _; omega
  | succ n ih =>
    intro h
    have := ih (fun i hi => h i (by omega))
    simp only [ct]
    rcases h n (by omega) with e | e <;> rw [e] <;> simp <;> omega
theorem ct_mono {f g : Nat → Bool} : ∀ n, (∀ i, i < n → f i = true → g i = true) → ct f n ≤ ct g n := by
  intro n
  induction n with
  | zero => intro _; exact Nat.le_refl _
  | succ n ih =>
    intro h
    have := ih (fun i hi => h i (by omega))
    simp only [ct]
    cases e : f n
    · simp; omega
    · rw [h n (by omega) e]; simp; omega
theorem ct_dis {f g : Nat → Bool} : ∀ n, (∀ i, i < n → ¬ (f i = true ∧ g i = true)) → ct f n + ct g n ≤ n := by
  intro n
  induction n with
  | zero => intro _; exact Nat.le_refl _
  | succ n ih =>
    intro h
    have := ih (fun i hi => h i (by omega))
    have := h n (by omega)
    simp only [ct]
    cases e : f n <;> cases e' : g n <;> simp [e, e'] at this ⊢ <;> omega
theorem or_lt {n i : Nat} (hn : n < 1024) (hi : i < 10) : n ||| 2 ^ i < 1024 := Nat.or_lt_two_pow (n := 10) hn (Nat.pow_lt_pow_right (by decide) hi)
theorem exR {no k : Nat} (hno : no < 1024) : ∀ d rec, rec < 1024 → (∀ i, i < 10 → ¬ (rec.testBit i = true ∧ no.testBit i = true)) → pcn rec + d = k → k + pcn no ≤ 10 → ∃ R, R < 1024 ∧ (∀ i, i < 10 → rec.testBit i = true → R.testBit i = true) ∧ (∀ i, i < 10 → no.testBit i = true → R.testBit i = false) ∧ pcn R = k := by
  intro d
  induction d with
  | zero =>
    intro rec hr hd hk _
    exact ⟨rec, hr, fun _ _ e => e, fun i hi e => by cases q : rec.testBit i; rfl; exact absurd ⟨q, e⟩ (hd i hi), hk⟩
  | succ d ih =>
    intro rec hr hd hk hl
    have : ∃ i, i < 10 ∧ rec.testBit i = false ∧ no.testBit i = false := by
      refine Classical.byContradiction (fun q => ?_)
      have c := ct_cover (f := fun k => rec.testBit k) (g := fun k => no.testBit k) 10 (fun i hi => by
        cases e : rec.testBit i
        · cases e' : no.testBit i
          · exact absurd ⟨i, hi, e, e'⟩ q
          · exact Or.inr rfl
        · exact Or.inl rfl)
      rw [← pcn_ct _ hr, ← pcn_ct _ hno] at c
      omega
    obtain ⟨i, hi, e1, e2⟩ := this
    obtain ⟨R, r1, r2, r3, r4⟩ := ih (rec ||| 2 ^ i) (or_lt hr hi) (fun j hj q => by
      rw [Nat.testBit_or, Nat.testBit_two_pow] at q
      by_cases e : i = j
      · subst e
        rw [e2] at q; exact absurd q.2 (by decide)
      · rw [decide_eq_false e, Bool.or_false] at q
        exact hd j hj q) (by rw [pcn_or _ hr i hi e1]; omega) hl
    refine ⟨R, r1, fun j hj q => r2 j hj (by rw [Nat.testBit_or, q]; rfl), r3, r4⟩
/-- c: the sketch's cells -/
def cnt (M : Nat → Int32) : Int32 := nI (pcn (cl (M 1)))
def InSk (c M : Nat → Int32) : Prop := bI (c 0) (cl (M 0)) = true ∧ bI (c 1) (cl (M 5)) = true ∧ ¬ M 4 < c 2 ∧ ¬ c 3 < M 4 ∧ (∀ i, i < 10 → bI (c 4) i = true → bI (M 1) i = true) ∧ (∀ i, i < 10 → bI (c 5) i = true → bI (M 1) i = false) ∧ ¬ cnt M < c 6 ∧ ¬ c 7 < cnt M
  ∧ (∀ i, i < 16 → bI (c 10) i = true → bI (M 2) i = true) ∧ (∀ i, i < 16 → bI (c 11) i = true → bI (M 2) i = false) ∧ (∀ i, i < 16 → bI (c 12) i = true → bI (M 3) i = true) ∧ (∀ i, i < 16 → bI (c 13) i = true → bI (M 3) i = false)
/-- the bits of a cell lie below n -/
def bb (x : Int32) (n : Nat) : Prop := ∀ i, n ≤ i → i < 32 → bI x i = false
def SSh (c : Nat → Int32) : Prop := bb (c 0) 10 ∧ bb (c 1) 7 ∧ (∃ x, 1 ≤ x ∧ x ≤ 1000 ∧ c 2 = nI x) ∧ (∃ x, x ≤ 999 ∧ c 3 = nI x) ∧ bb (c 4) 10 ∧ bb (c 5) 10 ∧ (∃ x, 1 ≤ x ∧ x ≤ 10 ∧ c 6 = nI x) ∧ (∃ x, x ≤ 10 ∧ c 7 = nI x) ∧ bb (c 10) 16 ∧ bb (c 11) 16 ∧ bb (c 12) 16 ∧ bb (c 13) 16
/-- the kinds that look at the mail alone -/
def skK (k : Int32) : Prop := k = 98 ∨ k = 100 ∨ k = 102 ∨ k = 110 ∨ k = 115 ∨ k = 116 ∨ k = 122
/-- what stands in the sketch once a test without parts must hold (p) or fail -/
def SkF (c : Nat → Int32) (k a : Int32) (p : Bool) : Prop :=
  (k = 98 → bI (if p = true then c 12 else c 13) (cl a) = true) ∧ (k = 100 → if p = true then ∀ i, i < 7 → i ≠ cl a → bI (c 1) i = false else bI (c 1) (cl a) = false) ∧ (k = 102 → if p = true then ∀ i, i < 10 → i ≠ cl a → bI (c 0) i = false else bI (c 0) (cl a) = false)
  ∧ (k = 110 → if p = true then ¬ c 6 < a else c 7 < a) ∧ (k = 115 → bI (if p = true then c 10 else c 11) (cl a) = true) ∧ (k = 116 → bI (if p = true then c 4 else c 5) (cl a) = true) ∧ (k = 122 → if p = true then a < c 2 else ¬ a < c 3)
/-- what the sketch says a test may do -/
def skM (c : Nat → Int32) (k a : Int32) (p : Bool) : Bool :=
  if p = true then
    (if k = 98 then !bI (c 13) (cl a) else if k = 100 then bI (c 1) (cl a) else if k = 102 then bI (c 0) (cl a) else if k = 110 then decide (¬ c 9 < a) else if k = 115 then !bI (c 11) (cl a) else if k = 116 then (bI (c 4) (cl a) || (!bI (c 5) (cl a) && decide (¬ c 9 ≤ nI (pcn (cl (c 4)))))) else if k = 122 then decide (¬ c 3 ≤ a) else true)
  else (if k = 98 then !bI (c 12) (cl a) else if k = 100 then decide (¬ (c 1 &&& ((1 <<< (a &&& 31)) ^^^ (-1)) = 0)) else if k = 102 then decide (¬ (c 0 &&& ((1 <<< (a &&& 31)) ^^^ (-1)) = 0)) else if k = 110 then decide (¬ a ≤ c 8) else if k = 115 then !bI (c 10) (cl a) else if k = 116 then (bI (c 5) (cl a) || (!bI (c 4) (cl a) && decide (¬ 10 - nI (pcn (cl (c 5))) ≤ c 8))) else if k = 122 then decide (¬ a < c 2) else false)
/-- the two ends that hasMail sets -/
def SEn (c : Nat → Int32) : Prop := c 8 = (if c 6 < nI (pcn (cl (c 4))) then nI (pcn (cl (c 4))) else c 6) ∧ c 9 = (if 10 - nI (pcn (cl (c 5))) < c 7 then 10 - nI (pcn (cl (c 5))) else c 7)
theorem bb_inN {x : Int32} {n : Nat} (hn : n ≤ 30) (h : bb x n) : inN x (2 ^ n) := by
  have hp : (2 : Nat) ^ n ≤ 2 ^ 30 := Nat.pow_le_pow_right (by decide) hn
  have e : x = nI (x.toBitVec.toNat % 2 ^ n) := bI_ext (fun i hi => by
    rw [bI_nI hi, Nat.testBit_mod_two_pow]
    rcases Nat.lt_or_ge i n with l | l
    · rw [decide_eq_true l, Bool.true_and]; rfl
    · rw [decide_eq_false (by omega), Bool.false_and, h i l hi])
  exact ⟨_, Nat.mod_lt _ (Nat.two_pow_pos n), e⟩
theorem inN_bb {x : Int32} {n : Nat} (hn : n ≤ 30) (h : inN x (2 ^ n)) : bb x n := by
  obtain ⟨j, hj, rfl⟩ := h
  intro i h1 h2
  rw [bI_nI h2]
  exact Nat.testBit_lt_two_pow (Nat.lt_of_lt_of_le hj (Nat.pow_le_pow_right (by decide) h1))
theorem bb0 (n : Nat) : bb 0 n := fun i _ _ => bI_0 i
theorem bb_or {x : Int32} {n j : Nat} (h : bb x n) (hj : j < n) (hn : n ≤ 32) : bb (x ||| (1 <<< (nI j &&& 31))) n := fun i h1 h2 => by
  rw [bI_or, h i h1 h2, bI_sh (by omega), Bool.false_or, decide_eq_false (by omega)]
theorem bb_and {x y : Int32} {n : Nat} (h : bb x n) : bb (x &&& y) n := fun i h1 h2 => by rw [bI_and, h i h1 h2, Bool.false_and]
theorem i32_ne {a b : Int32} (h : ¬ a < b) : b.toInt ≤ a.toInt := by
  rw [Int32.lt_iff_toInt_lt] at h
  omega
theorem one_sender {c M : Nat → Int32} {M' : Nat → Int32} (s : InSk c M) (e0 : bI (c 0) (cl (M' 0)) = true) (e : ∀ i, i ≠ 0 → M' i = M i) : InSk c M' := by
  obtain ⟨_, s2⟩ := s
  unfold InSk cnt
  rw [e 1 (by decide), e 2 (by decide), e 3 (by decide), e 4 (by decide), e 5 (by decide)]
  exact ⟨e0, s2⟩
