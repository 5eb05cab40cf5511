/-! reading behind writing -/
section
variable (h : Hp) (j o k j' o' k' : Nat)
theorem gI_sI (v : Int32) : gI (sI h j o k v) j' o' k' = if j' = j ∧ o' = o ∧ k' = k then v else gI h j' o' k' := rfl
theorem gI_sJ (v : Int64) : gI (sJ h j o k v) j' o' k' = gI h j' o' k' := rfl
theorem gI_sR (v : Nat) : gI (sR h j o k v) j' o' k' = gI h j' o' k' := rfl
theorem gI_sD (v : UInt64) : gI (sD h j o k v) j' o' k' = gI h j' o' k' := rfl
theorem gJ_sI (v : Int32) : gJ (sI h j o k v) j' o' k' = gJ h j' o' k' := rfl
theorem gJ_sJ (v : Int64) : gJ (sJ h j o k v) j' o' k' = if j' = j ∧ o' = o ∧ k' = k then v else gJ h j' o' k' := rfl
theorem gJ_sR (v : Nat) : gJ (sR h j o k v) j' o' k' = gJ h j' o' k' := rfl
theorem gJ_sD (v : UInt64) : gJ (sD h j o k v) j' o' k' = gJ h j' o' k' := rfl
theorem gR_sI (v : Int32) : gR (sI h j o k v) j' o' k' = gR h j' o' k' := rfl
theorem gR_sJ (v : Int64) : gR (sJ h j o k v) j' o' k' = gR h j' o' k' := rfl
theorem gR_sR (v : Nat) : gR (sR h j o k v) j' o' k' = if j' = j ∧ o' = o ∧ k' = k then v else gR h j' o' k' := rfl
theorem gR_sD (v : UInt64) : gR (sD h j o k v) j' o' k' = gR h j' o' k' := rfl
theorem gD_sI (v : Int32) : gD (sI h j o k v) j' o' k' = gD h j' o' k' := rfl
theorem gD_sJ (v : Int64) : gD (sJ h j o k v) j' o' k' = gD h j' o' k' := rfl
theorem gD_sR (v : Nat) : gD (sR h j o k v) j' o' k' = gD h j' o' k' := rfl
theorem gD_sD (v : UInt64) : gD (sD h j o k v) j' o' k' = if j' = j ∧ o' = o ∧ k' = k then v else gD h j' o' k' := rfl
end
/-! what a piece of the program leaves alone: W says where it may write -/
def ag (W : Nat → Nat → Bool) (h h' : Hp) : Prop := ∀ j k, W j k = false → ∀ o, gI h' j o k = gI h j o k ∧ gJ h' j o k = gJ h j o k ∧ gR h' j o k = gR h j o k ∧ gD h' j o k = gD h j o k
theorem ag.rfl {W : Nat → Nat → Bool} {h : Hp} : ag W h h := fun _ _ _ _ => ⟨Eq.refl _, Eq.refl _, Eq.refl _, Eq.refl _⟩
theorem ag.trans {W : Nat → Nat → Bool} {h h' h'' : Hp} (a : ag W h h') (b : ag W h' h'') : ag W h h'' := fun j k hw o => by
  obtain ⟨a1, a2, a3, a4⟩ := a j k hw o
  obtain ⟨b1, b2, b3, b4⟩ := b j k hw o
  exact ⟨b1.trans a1, b2.trans a2, b3.trans a3, b4.trans a4⟩
theorem ag.mono {W W' : Nat → Nat → Bool} {h h' : Hp} (a : ag W h h') (hw : ∀ j k, W' j k = false → W j k = false) : ag W' h h' := fun j k q o => a j k (hw j k q) o
theorem ag.I {W : Nat → Nat → Bool} {h h' : Hp} (a : ag W h h') (j o k : Nat) (hw : W j k = false := by rfl) : gI h' j o k = gI h j o k := (a j k hw o).1
theorem ag.J {W : Nat → Nat → Bool} {h h' : Hp} (a : ag W h h') (j o k : Nat) (hw : W j k = false := by rfl) : gJ h' j o k = gJ h j o k := (a j k hw o).2.1
theorem ag.R {W : Nat → Nat → Bool} {h h' : Hp} (a : ag W h h') (j o k : Nat) (hw : W j k = false := by rfl) : gR h' j o k = gR h j o k := (a j k hw o).2.2.1
theorem ag.D {W : Nat → Nat → Bool} {h h' : Hp} (a : ag W h h') (j o k : Nat) (hw : W j k = false := by rfl) : gD h' j o k = gD h j o k := (a j k hw o).2.2.2
theorem ag.sI {W : Nat → Nat → Bool} {h h' : Hp} (a : ag W h h') {j o k : Nat} {v : Int32} (hw : W j k = true := by rfl) : ag W h (sI h' j o k v) := fun j' k' q o' => by
  obtain ⟨a1, a2, a3, a4⟩ := a j' k' q o'
  refine ⟨?_, a2, a3, a4⟩
  rw [gI_sI, if_neg, a1]
  intro e
  rw [e.1, e.2.2, hw] at q
  cases q
theorem ag.sJ {W : Nat → Nat → Bool} {h h' : Hp} (a : ag W h h') {j o k : Nat} {v : Int64} (hw : W j k = true := by rfl) : ag W h (sJ h' j o k v) := fun j' k' q o' => by
  obtain ⟨a1, a2, a3, a4⟩ := a j' k' q o'
  refine ⟨a1, ?_, a3, a4⟩
  rw [gJ_sJ, if_neg, a2]
  intro e
  rw [e.1, e.2.2, hw] at q
  cases q
theorem ag.sR {W : Nat → Nat → Bool} {h h' : Hp} (a : ag W h h') {j o k : Nat} {v : Nat} (hw : W j k = true := by rfl) : ag W h (sR h' j o k v) := fun j' k' q o' => by
  obtain ⟨a1, a2, a3, a4⟩ := a j' k' q o'
  refine ⟨a1, a2, ?_, a4⟩
  rw [gR_sR, if_neg, a3]
  intro e
  rw [e.1, e.2.2, hw] at q
  cases q
theorem ag.sD {W : Nat → Nat → Bool} {h h' : Hp} (a : ag W h h') {j o k : Nat} {v : UInt64} (hw : W j k = true := by rfl) : ag W h (sD h' j o k v) := fun j' k' q o' => by
  obtain ⟨a1, a2, a3, a4⟩ := a j' k' q o'
  refine ⟨a1, a2, a3, ?_⟩
  rw [gD_sD, if_neg, a4]
  intro e
  rw [e.1, e.2.2, hw] at q
  cases q
/-- cells by pairs (clause, field), whole clauses by their number -/
def wS (L : List Nat) (F : List (Nat × Nat)) : Nat → Nat → Bool := fun j k => L.contains j || F.contains (j, k)
theorem wS_mono {L L' : List Nat} {F F' : List (Nat × Nat)} (hL : L.all (fun j => L'.contains j) = true) (hF : F.all (fun p => L'.contains p.1 || F'.contains p) = true) : ∀ j k, wS L' F' j k = false → wS L F j k = false := by
  intro j k q
  rw [← Bool.not_eq_true] at q ⊢
  intro e
  apply q
  simp only [wS, Bool.or_eq_true, List.contains_iff_mem] at e ⊢
  rcases e with e | e
  · have := List.all_eq_true.mp hL j e
    exact Or.inl (by simpa using this)
  · have := List.all_eq_true.mp hF (j, k) e
    simpa using this
/-! ranges -/
def inZ (x lo hi : Int32) : Prop := lo.toInt ≤ x.toInt ∧ x.toInt ≤ hi.toInt
def inN (x : Int32) (n : Nat) : Prop := ∃ j, j < n ∧ x = nI j
theorem inN_iff {x : Int32} {n : Nat} (hn : n < 2 ^ 31) : inN x n ↔ 0 ≤ x.toInt ∧ x.toInt < n := by
  constructor
  · rintro ⟨j, hj, rfl⟩
    rw [nI_toInt (by omega)]
    omega
  · rintro ⟨a, b⟩
    obtain ⟨j, hj, e⟩ := nI_of (x := x) (fun q => by
      rw [Int32.lt_iff_toInt_lt] at q
      have z : (0 : Int32).toInt = 0 := rfl
      omega)
    refine ⟨j, ?_, e⟩
    rw [e, nI_toInt hj] at b
    omega
theorem in_1 {p lo hi : Int32} {h : Hp} {Q : Int32 → Prop} (a : inZ p lo hi) : wp_X11_in p lo hi h Q = Q 1 := by
  unfold wp_X11_in
  simp only [Int32.lt_iff_toInt_lt]
  rw [if_neg (by have := a.1; omega), if_neg (by have := a.2; omega)]
theorem in_0 {p lo hi : Int32} {h : Hp} {Q : Int32 → Prop} (a : ¬ inZ p lo hi) : wp_X11_in p lo hi h Q = Q 0 := by
  unfold wp_X11_in
  simp only [Int32.lt_iff_toInt_lt]
  by_cases b : p.toInt < lo.toInt
  · rw [if_pos b]
  · rw [if_neg b, if_pos (Int.not_le.mp fun c => a ⟨by omega, c⟩)]
theorem lies_1 {p lo hi : Int32} {h : Hp} {Q : Int32 → Prop} (a : inZ p lo hi) : wp_X10_lies p lo hi h Q = Q 1 := in_1 (h := h) a
theorem lies_0 {p lo hi : Int32} {h : Hp} {Q : Int32 → Prop} (a : ¬ inZ p lo hi) : wp_X10_lies p lo hi h Q = Q 0 := in_0 (h := h) a
theorem inZ_inN {p x : Int32} {n : Nat} (hx : x + 1 = nI n) (hn : n < 2 ^ 30) : inZ p 0 x ↔ inN p n := by
  have e : x.toInt = (n : Int) - 1 := by
    have : x = nI n - nI 1 := by rw [← hx, show nI 1 = (1 : Int32) from rfl]; simp
    rw [this, pk_sub_toInt hn (by decide)]
    rfl
  rw [inN_iff (by omega), inZ, e, show (0 : Int32).toInt = 0 from rfl]
  omega
theorem inn_1 {p x : Int32} {h : Hp} {Q : Int32 → Prop} (n : Nat) (a : inN p n) (hx : x + 1 = nI n := by rfl) (hn : n < 2 ^ 30 := by omega) : wp_X11_in p 0 x h Q = Q 1 := in_1 ((inZ_inN hx hn).mpr a)
theorem inn_0 {p x : Int32} {h : Hp} {Q : Int32 → Prop} (n : Nat) (a : ¬ inN p n) (hx : x + 1 = nI n := by rfl) (hn : n < 2 ^ 30 := by omega) : wp_X11_in p 0 x h Q = Q 0 := in_0 (fun q => a ((inZ_inN hx hn).mp q))
theorem lyn_1 {p x : Int32} {h : Hp} {Q : Int32 → Prop} (n : Nat) (a : inN p n) (hx : x + 1 = nI n := by rfl) (hn : n < 2 ^ 30 := by omega) : wp_X10_lies p 0 x h Q = Q 1 := lies_1 ((inZ_inN hx hn).mpr a)
theorem lyn_0 {p x : Int32} {h : Hp} {Q : Int32 → Prop} (n : Nat) (a : ¬ inN p n) (hx : x + 1 = nI n := by rfl) (hn : n < 2 ^ 30 := by omega) : wp_X10_lies p 0 x h Q = Q 0 := lies_0 (fun q => a ((inZ_inN hx hn).mp q))
theorem below_1 {p x : Int32} {h : Hp} {Q : Int32 → Prop} (n : Nat) (a : inN p n) (hx : x = nI n := by rfl) (hn : n < 2 ^ 30 := by omega) : wp_X10_isBelow p x h Q = Q 1 := by
  obtain ⟨j, hj, rfl⟩ := a
  subst hx
  unfold wp_X10_isBelow
  rw [if_neg (nI_pos (by omega)), if_neg (nI_ge hj (by omega))]
theorem below_0 {p x : Int32} {h : Hp} {Q : Int32 → Prop} (n : Nat) (a : ¬ inN p n) (hx : x = nI n := by rfl) (hn : n < 2 ^ 30 := by omega) : wp_X10_isBelow p x h Q = Q 0 := by
  subst hx
  unfold wp_X10_isBelow
  by_cases b : p < 0
  · rw [if_pos b]
  · rw [if_neg b, if_pos]
    obtain ⟨j, hj, rfl⟩ := nI_of b
    exact nI_le (Nat.le_of_not_lt fun c => a ⟨j, c, rfl⟩) (by omega)
theorem rb_1 {p x : Int32} {h : Hp} {Q : Prop} {Z : String → Prop} (n : Nat) (a : inN p n) (hx : x = nI n := by rfl) (hn : n < 2 ^ 30 := by omega) : wp_X10_requireBelow p x h Q Z = Q := by
  unfold wp_X10_requireBelow
  rw [below_1 n a hx hn]
  simp
theorem rb_0 {p x : Int32} {h : Hp} {Q : Prop} {Z : String → Prop} (n : Nat) (a : ¬ inN p n) (hx : x = nI n := by rfl) (hn : n < 2 ^ 30 := by omega) : wp_X10_requireBelow p x h Q Z = Z "java/lang/IndexOutOfBoundsException" := by
  unfold wp_X10_requireBelow
  rw [below_0 n a hx hn]
  simp
theorem b4_1 {p : Int32} {h : Hp} {Q : Int32 → Prop} (a : inN p 4) : wp_X10_isBelow p 4 h Q = Q 1 := below_1 4 a
theorem b4_0 {p : Int32} {h : Hp} {Q : Int32 → Prop} (a : ¬ inN p 4) : wp_X10_isBelow p 4 h Q = Q 0 := below_0 4 a
theorem rb4_1 {p : Int32} {h : Hp} {Q : Prop} {Z : String → Prop} (a : inN p 4) : wp_X10_requireBelow p 4 h Q Z = Q := rb_1 4 a
theorem rb4_0 {p : Int32} {h : Hp} {Q : Prop} {Z : String → Prop} (a : ¬ inN p 4) : wp_X10_requireBelow p 4 h Q Z = Z "java/lang/IndexOutOfBoundsException" := rb_0 4 a
theorem b7_1 {p : Int32} {h : Hp} {Q : Int32 → Prop} (a : inN p 7) : wp_X10_isBelow p 7 h Q = Q 1 := below_1 7 a
theorem b7_0 {p : Int32} {h : Hp} {Q : Int32 → Prop} (a : ¬ inN p 7) : wp_X10_isBelow p 7 h Q = Q 0 := below_0 7 a
theorem rb7_1 {p : Int32} {h : Hp} {Q : Prop} {Z : String → Prop} (a : inN p 7) : wp_X10_requireBelow p 7 h Q Z = Q := rb_1 7 a
theorem rb7_0 {p : Int32} {h : Hp} {Q : Prop} {Z : String → Prop} (a : ¬ inN p 7) : wp_X10_requireBelow p 7 h Q Z = Z "java/lang/IndexOutOfBoundsException" := rb_0 7 a
theorem b8_1 {p : Int32} {h : Hp} {Q : Int32 → Prop} (a : inN p 8) : wp_X10_isBelow p 8 h Q = Q 1 := below_1 8 a
theorem b8_0 {p : Int32} {h : Hp} {Q : Int32 → Prop} (a : ¬ inN p 8) : wp_X10_isBelow p 8 h Q = Q 0 := below_0 8 a
theorem rb8_1 {p : Int32} {h : Hp} {Q : Prop} {Z : String → Prop} (a : inN p 8) : wp_X10_requireBelow p 8 h Q Z = Q := rb_1 8 a
theorem rb8_0 {p : Int32} {h : Hp} {Q : Prop} {Z : String → Prop} (a : ¬ inN p 8) : wp_X10_requireBelow p 8 h Q Z = Z "java/lang/IndexOutOfBoundsException" := rb_0 8 a
theorem b10_1 {p : Int32} {h : Hp} {Q : Int32 → Prop} (a : inN p 10) : wp_X10_isBelow p 10 h Q = Q 1 := below_1 10 a
theorem b10_0 {p : Int32} {h : Hp} {Q : Int32 → Prop} (a : ¬ inN p 10) : wp_X10_isBelow p 10 h Q = Q 0 := below_0 10 a
theorem rb10_1 {p : Int32} {h : Hp} {Q : Prop} {Z : String → Prop} (a : inN p 10) : wp_X10_requireBelow p 10 h Q Z = Q := rb_1 10 a
theorem rb10_0 {p : Int32} {h : Hp} {Q : Prop} {Z : String → Prop} (a : ¬ inN p 10) : wp_X10_requireBelow p 10 h Q Z = Z "java/lang/IndexOutOfBoundsException" := rb_0 10 a
theorem b16_1 {p : Int32} {h : Hp} {Q : Int32 → Prop} (a : inN p 16) : wp_X10_isBelow p 16 h Q = Q 1 := below_1 16 a
theorem b16_0 {p : Int32} {h : Hp} {Q : Int32 → Prop} (a : ¬ inN p 16) : wp_X10_isBelow p 16 h Q = Q 0 := below_0 16 a
theorem rb16_1 {p : Int32} {h : Hp} {Q : Prop} {Z : String → Prop} (a : inN p 16) : wp_X10_requireBelow p 16 h Q Z = Q := rb_1 16 a
theorem rb16_0 {p : Int32} {h : Hp} {Q : Prop} {Z : String → Prop} (a : ¬ inN p 16) : wp_X10_requireBelow p 16 h Q Z = Z "java/lang/IndexOutOfBoundsException" := rb_0 16 a
theorem b65536_1 {p : Int32} {h : Hp} {Q : Int32 → Prop} (a : inN p 65536) : wp_X10_isBelow p 65536 h Q = Q 1 := below_1 65536 a
theorem b65536_0 {p : Int32} {h : Hp} {Q : Int32 → Prop} (a : ¬ inN p 65536) : wp_X10_isBelow p 65536 h Q = Q 0 := below_0 65536 a
theorem rb65536_1 {p : Int32} {h : Hp} {Q : Prop} {Z : String → Prop} (a : inN p 65536) : wp_X10_requireBelow p 65536 h Q Z = Q := rb_1 65536 a
theorem rb65536_0 {p : Int32} {h : Hp} {Q : Prop} {Z : String → Prop} (a : ¬ inN p 65536) : wp_X10_requireBelow p 65536 h Q Z = Z "java/lang/IndexOutOfBoundsException" := rb_0 65536 a
theorem i4_1 {p : Int32} {h : Hp} {Q : Int32 → Prop} (a : inN p 4) : wp_X11_in p 0 3 h Q = Q 1 := inn_1 4 a
theorem i4_0 {p : Int32} {h : Hp} {Q : Int32 → Prop} (a : ¬ inN p 4) : wp_X11_in p 0 3 h Q = Q 0 := inn_0 4 a
theorem i7_1 {p : Int32} {h : Hp} {Q : Int32 → Prop} (a : inN p 7) : wp_X11_in p 0 6 h Q = Q 1 := inn_1 7 a
theorem i7_0 {p : Int32} {h : Hp} {Q : Int32 → Prop} (a : ¬ inN p 7) : wp_X11_in p 0 6 h Q = Q 0 := inn_0 7 a
theorem i8_1 {p : Int32} {h : Hp} {Q : Int32 → Prop} (a : inN p 8) : wp_X11_in p 0 7 h Q = Q 1 := inn_1 8 a
theorem i8_0 {p : Int32} {h : Hp} {Q : Int32 → Prop} (a : ¬ inN p 8) : wp_X11_in p 0 7 h Q = Q 0 := inn_0 8 a
theorem i10_1 {p : Int32} {h : Hp} {Q : Int32 → Prop} (a : inN p 10) : wp_X11_in p 0 9 h Q = Q 1 := inn_1 10 a
theorem i10_0 {p : Int32} {h : Hp} {Q : Int32 → Prop} (a : ¬ inN p 10) : wp_X11_in p 0 9 h Q = Q 0 := inn_0 10 a
theorem i16_1 {p : Int32} {h : Hp} {Q : Int32 → Prop} (a : inN p 16) : wp_X11_in p 0 15 h Q = Q 1 := inn_1 16 a
theorem i16_0 {p : Int32} {h : Hp} {Q : Int32 → Prop} (a : ¬ inN p 16) : wp_X11_in p 0 15 h Q = Q 0 := inn_0 16 a
theorem i1000_1 {p : Int32} {h : Hp} {Q : Int32 → Prop} (a : inN p 1000) : wp_X11_in p 0 999 h Q = Q 1 := inn_1 1000 a
theorem i1000_0 {p : Int32} {h : Hp} {Q : Int32 → Prop} (a : ¬ inN p 1000) : wp_X11_in p 0 999 h Q = Q 0 := inn_0 1000 a
theorem i10000_1 {p : Int32} {h : Hp} {Q : Int32 → Prop} (a : inN p 10000) : wp_X11_in p 0 9999 h Q = Q 1 := inn_1 10000 a
theorem i10000_0 {p : Int32} {h : Hp} {Q : Int32 → Prop} (a : ¬ inN p 10000) : wp_X11_in p 0 9999 h Q = Q 0 := inn_0 10000 a
theorem i65536_1 {p : Int32} {h : Hp} {Q : Int32 → Prop} (a : inN p 65536) : wp_X11_in p 0 65535 h Q = Q 1 := inn_1 65536 a
theorem i65536_0 {p : Int32} {h : Hp} {Q : Int32 → Prop} (a : ¬ inN p 65536) : wp_X11_in p 0 65535 h Q = Q 0 := inn_0 65536 a
theorem y1000_1 {p : Int32} {h : Hp} {Q : Int32 → Prop} (a : inN p 1000) : wp_X10_lies p 0 999 h Q = Q 1 := lyn_1 1000 a
theorem y1000_0 {p : Int32} {h : Hp} {Q : Int32 → Prop} (a : ¬ inN p 1000) : wp_X10_lies p 0 999 h Q = Q 0 := lyn_0 1000 a
theorem y10000_1 {p : Int32} {h : Hp} {Q : Int32 → Prop} (a : inN p 10000) : wp_X10_lies p 0 9999 h Q = Q 1 := lyn_1 10000 a
theorem y10000_0 {p : Int32} {h : Hp} {Q : Int32 → Prop} (a : ¬ inN p 10000) : wp_X10_lies p 0 9999 h Q = Q 0 := lyn_0 10000 a
theorem z_10 : ((1 : Int32) = 0) = False := by decide
theorem z_01 : ((0 : Int32) = 1) = False := by decide
theorem z_in : vp_in 0 1 = True := eq_true (vp_in_nI (n := 0) (by decide) (by decide))
theorem z_cl : (0 : Int32).toNatClampNeg = 0 := rfl
theorem z_as (x : Int32) : x + 1 - 1 = x := by simp
