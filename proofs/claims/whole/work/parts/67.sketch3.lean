/-! the sketch: its cells one by one -/
def ikc (j : Nat) (x : Int32) (M : Nat → Int32) : Prop :=
  (j = 0 → bI x (cl (M 0)) = true) ∧ (j = 1 → bI x (cl (M 5)) = true) ∧ (j = 2 → ¬ M 4 < x) ∧ (j = 3 → ¬ x < M 4) ∧ (j = 4 → ∀ i, i < 10 → bI x i = true → bI (M 1) i = true) ∧ (j = 5 → ∀ i, i < 10 → bI x i = true → bI (M 1) i = false) ∧ (j = 6 → ¬ cnt M < x) ∧ (j = 7 → ¬ x < cnt M)
  ∧ (j = 10 → ∀ i, i < 16 → bI x i = true → bI (M 2) i = true) ∧ (j = 11 → ∀ i, i < 16 → bI x i = true → bI (M 2) i = false) ∧ (j = 12 → ∀ i, i < 16 → bI x i = true → bI (M 3) i = true) ∧ (j = 13 → ∀ i, i < 16 → bI x i = true → bI (M 3) i = false)
def shc (j : Nat) (x : Int32) : Prop :=
  (j = 0 → bb x 10) ∧ (j = 1 → bb x 7) ∧ (j = 2 → ∃ y, 1 ≤ y ∧ y ≤ 1000 ∧ x = nI y) ∧ (j = 3 → ∃ y, y ≤ 999 ∧ x = nI y) ∧ (j = 4 → bb x 10) ∧ (j = 5 → bb x 10) ∧ (j = 6 → ∃ y, 1 ≤ y ∧ y ≤ 10 ∧ x = nI y) ∧ (j = 7 → ∃ y, y ≤ 10 ∧ x = nI y)
  ∧ (j = 10 → bb x 16) ∧ (j = 11 → bb x 16) ∧ (j = 12 → bb x 16) ∧ (j = 13 → bb x 16)
def lec (j : Nat) (x y : Int32) : Prop :=
  (j = 0 ∨ j = 1 → ∀ i, bI y i = true → bI x i = true) ∧ (j = 2 ∨ j = 6 → x.toInt ≤ y.toInt) ∧ (j = 3 ∨ j = 7 → y.toInt ≤ x.toInt) ∧ (j = 4 ∨ j = 5 ∨ j = 10 ∨ j = 11 ∨ j = 12 ∨ j = 13 → ∀ i, bI x i = true → bI y i = true)
theorem InSk_i {c M : Nat → Int32} : InSk c M ↔ ∀ j, ikc j (c j) M := by
  constructor
  · rintro ⟨a0, a1, a2, a3, a4, a5, a6, a7, a8, a9, a10, a11⟩ j
    refine ⟨?_, ?_, ?_, ?_, ?_, ?_, ?_, ?_, ?_, ?_, ?_, ?_⟩ <;> rintro rfl <;> assumption
  · intro h
    exact ⟨(h 0).1 rfl, (h 1).2.1 rfl, (h 2).2.2.1 rfl, (h 3).2.2.2.1 rfl, (h 4).2.2.2.2.1 rfl, (h 5).2.2.2.2.2.1 rfl, (h 6).2.2.2.2.2.2.1 rfl, (h 7).2.2.2.2.2.2.2.1 rfl, (h 10).2.2.2.2.2.2.2.2.1 rfl, (h 11).2.2.2.2.2.2.2.2.2.1 rfl, (h 12).2.2.2.2.2.2.2.2.2.2.1 rfl, (h 13).2.2.2.2.2.2.2.2.2.2.2 rfl⟩
theorem SSh_i {c : Nat → Int32} : SSh c ↔ ∀ j, shc j (c j) := by
  constructor
  · rintro ⟨a0, a1, a2, a3, a4, a5, a6, a7, a8, a9, a10, a11⟩ j
    refine ⟨?_, ?_, ?_, ?_, ?_, ?_, ?_, ?_, ?_, ?_, ?_, ?_⟩ <;> rintro rfl <;> assumption
  · intro h
    exact ⟨(h 0).1 rfl, (h 1).2.1 rfl, (h 2).2.2.1 rfl, (h 3).2.2.2.1 rfl, (h 4).2.2.2.2.1 rfl, (h 5).2.2.2.2.2.1 rfl, (h 6).2.2.2.2.2.2.1 rfl, (h 7).2.2.2.2.2.2.2.1 rfl, (h 10).2.2.2.2.2.2.2.2.1 rfl, (h 11).2.2.2.2.2.2.2.2.2.1 rfl, (h 12).2.2.2.2.2.2.2.2.2.2.1 rfl, (h 13).2.2.2.2.2.2.2.2.2.2.2 rfl⟩
def LE (c c' : Nat → Int32) : Prop := ∀ j, lec j (c j) (c' j)
theorem lec_rfl {j : Nat} {x : Int32} : lec j x x := ⟨fun _ _ q => q, fun _ => Int.le_refl _, fun _ => Int.le_refl _, fun _ _ q => q⟩
theorem LE.rfl {c : Nat → Int32} : LE c c := fun _ => lec_rfl
theorem LE.trans {c c' c'' : Nat → Int32} (a : LE c c') (b : LE c' c'') : LE c c'' := fun j =>
  ⟨fun q i e => (a j).1 q i ((b j).1 q i e), fun q => Int.le_trans ((a j).2.1 q) ((b j).2.1 q), fun q => Int.le_trans ((b j).2.2.1 q) ((a j).2.2.1 q), fun q i e => (b j).2.2.2 q i ((a j).2.2.2 q i e)⟩
section
variable {c : Nat → Int32} {j : Nat} {v : Int32}
theorem sk_up {M : Nat → Int32} (s : InSk c M) (q : ikc j v M) : InSk (up c j v) M := InSk_i.mpr (fun i => by
  by_cases e : i = j
  · subst e; rw [up_e]; exact q
  · rw [up_n e]; exact InSk_i.mp s i)
theorem sh_up (s : SSh c) (q : shc j v) : SSh (up c j v) := SSh_i.mpr (fun i => by
  by_cases e : i = j
  · subst e; rw [up_e]; exact q
  · rw [up_n e]; exact SSh_i.mp s i)
theorem le_up (q : lec j (c j) v) : LE c (up c j v) := fun i => by
  by_cases e : i = j
  · subst e; rw [up_e]; exact q
  · rw [up_n e]; exact lec_rfl
end
theorem LE.skf {c c' : Nat → Int32} {k a : Int32} {p : Bool} (l : LE c c') (s : SkF c k a p) : SkF c' k a p := by
  obtain ⟨f1, f2, f3, f4, f5, f6, f7⟩ := s
  have z : ∀ {x y : Int32}, (∀ i, bI y i = true → bI x i = true) → ∀ i, bI x i = false → bI y i = false := fun h i q => by
    cases e : bI _ i
    · rfl
    · rw [h i e] at q; cases q
  refine ⟨fun q => ?_, fun q => ?_, fun q => ?_, fun q => ?_, fun q => ?_, fun q => ?_, fun q => ?_⟩
  · have f := f1 q
    cases p
    · exact (l 13).2.2.2 (by omega) _ f
    · exact (l 12).2.2.2 (by omega) _ f
  · have f := f2 q
    cases p
    · exact z ((l 1).1 (by omega)) _ f
    · exact fun i hi n => z ((l 1).1 (by omega)) _ (f i hi n)
  · have f := f3 q
    cases p
    · exact z ((l 0).1 (by omega)) _ f
    · exact fun i hi n => z ((l 0).1 (by omega)) _ (f i hi n)
  · have f := f4 q
    cases p
    · have := (l 7).2.2.1 (by omega)
      simp only [Bool.false_eq_true, if_false, Int32.lt_iff_toInt_lt] at f ⊢
      omega
    · have := (l 6).2.1 (by omega)
      simp only [if_true, Int32.lt_iff_toInt_lt] at f ⊢
      omega
  · have f := f5 q
    cases p
    · exact (l 11).2.2.2 (by omega) _ f
    · exact (l 10).2.2.2 (by omega) _ f
  · have f := f6 q
    cases p
    · exact (l 5).2.2.2 (by omega) _ f
    · exact (l 4).2.2.2 (by omega) _ f
  · have f := f7 q
    cases p
    · have := (l 3).2.2.1 (by omega)
      simp only [Bool.false_eq_true, if_false, Int32.lt_iff_toInt_lt] at f ⊢
      omega
    · have := (l 2).2.1 (by omega)
      simp only [if_true, Int32.lt_iff_toInt_lt] at f ⊢
      omega
/-- what adding a test does to the cells -/
def ADD (c c' : Nat → Int32) (k a : Int32) (p : Bool) : Prop := SSh c' ∧ LE c c' ∧ SkF c' k a p ∧ ∀ M, VM M → InSk c M → fit M k a = p → InSk c' M
theorem gI_up {h : Hp} {j : Nat} {v : Int32} : gI (sI h 8 0 j v) 8 0 = up (gI h 8 0) j v := by
  funext k
  unfold up
  rw [gI_sI]
  simp
section
variable {c : Nat → Int32} {a : Int32}
/-- a bit more in a cell of bits -/
theorem or_le {j n : Nat} {x a : Int32} (hj : j = 4 ∨ j = 5 ∨ j = 10 ∨ j = 11 ∨ j = 12 ∨ j = 13) (o : inN a n) (hn : n ≤ 16) : lec j x (x ||| (1 <<< (a &&& 31))) := ⟨fun q => by omega, fun q => by omega, fun q => by omega, fun _ i q => by rw [bI_or, q]; rfl⟩
theorem or_bb {n : Nat} {x a : Int32} (h : bb x n) (o : inN a n) (hn : n ≤ 16) : bb (x ||| (1 <<< (a &&& 31))) n := by
  obtain ⟨j, hj, rfl⟩ := o
  exact bb_or h hj (by omega)
theorem or_bit {n : Nat} {x a : Int32} {i : Nat} (o : inN a n) (hn : n ≤ 16) : bI (x ||| (1 <<< (a &&& 31))) i = (bI x i || decide (cl a = i)) := by
  obtain ⟨j, hj, rfl⟩ := o
  rw [bI_or, bI_sh (by omega), show cl (nI j) = j from nI_clamp (by omega)]
theorem and_bit {n : Nat} {x a : Int32} {i : Nat} (o : inN a n) (hn : n ≤ 16) : bI (x &&& (1 <<< (a &&& 31))) i = (bI x i && decide (cl a = i)) := by
  obtain ⟨j, hj, rfl⟩ := o
  rw [bI_and, bI_sh (by omega), show cl (nI j) = j from nI_clamp (by omega)]
theorem andn_bit {n : Nat} {x a : Int32} {i : Nat} (o : inN a n) (hn : n ≤ 16) (hi : i < 32) : bI (x &&& ((1 <<< (a &&& 31)) ^^^ (-1))) i = (bI x i && decide (¬ i = cl a)) := by
  obtain ⟨j, hj, rfl⟩ := o
  rw [not_bit (by omega) hi, show cl (nI j) = j from nI_clamp (by omega)]
theorem no {j n : Nat} (h : j ≠ n) {P : Prop} : j = n → P := fun q => absurd q h
theorem z110 {a : Int32} (o : inZ a 1 10) : ∃ x, 1 ≤ x ∧ x ≤ 10 ∧ a = nI x := by
  obtain ⟨o1, o2⟩ := o
  rw [show (1 : Int32).toInt = 1 from rfl] at o1
  rw [show (10 : Int32).toInt = 10 from rfl] at o2
  obtain ⟨x, hx, rfl⟩ := (inN_iff (x := a) (n := 11) (by decide)).mpr ⟨by omega, by omega⟩
  rw [nI_toInt (by omega)] at o1
  exact ⟨x, by omega, by omega, rfl⟩
theorem add_98_true (h : SSh c) (o : inN a 16) : ADD c (up c 12 (c 12 ||| (1 <<< (a &&& 31)))) 98 a true := by
  refine ⟨sh_up h ⟨no (by decide), no (by decide), no (by decide), no (by decide), no (by decide), no (by decide), no (by decide), no (by decide), no (by decide), no (by decide), fun _ => or_bb ((SSh_i.mp h 12).2.2.2.2.2.2.2.2.2.2.1 rfl) o (by decide), no (by decide)⟩, le_up (or_le (by decide) o (by decide)), ⟨fun _ => by show bI (up c 12 (c 12 ||| (1 <<< (a &&& 31))) 12) (cl a) = true; rw [up_e, or_bit o (by decide)]; simp, fun q => absurd q (by decide), fun q => absurd q (by decide), fun q => absurd q (by decide), fun q => absurd q (by decide), fun q => absurd q (by decide), fun q => absurd q (by decide)⟩, fun M v s f => sk_up s ⟨no (by decide), no (by decide), no (by decide), no (by decide), no (by decide), no (by decide), no (by decide), no (by decide), no (by decide), no (by decide), fun _ => ?_, no (by decide)⟩⟩
  intro i hi q
  rw [or_bit o (by decide)] at q
  unfold fit at f
  simp at f q
  rcases q with q | q
  · exact (InSk_i.mp s 12).2.2.2.2.2.2.2.2.2.2.1 rfl i hi q
  · rw [← q]; exact f
theorem add_98_false (h : SSh c) (o : inN a 16) : ADD c (up c 13 (c 13 ||| (1 <<< (a &&& 31)))) 98 a false := by
  refine ⟨sh_up h ⟨no (by decide), no (by decide), no (by decide), no (by decide), no (by decide), no (by decide), no (by decide), no (by decide), no (by decide), no (by decide), no (by decide), fun _ => or_bb ((SSh_i.mp h 13).2.2.2.2.2.2.2.2.2.2.2 rfl) o (by decide)⟩, le_up (or_le (by decide) o (by decide)), ⟨fun _ => by show bI (up c 13 (c 13 ||| (1 <<< (a &&& 31))) 13) (cl a) = true; rw [up_e, or_bit o (by decide)]; simp, fun q => absurd q (by decide), fun q => absurd q (by decide), fun q => absurd q (by decide), fun q => absurd q (by decide), fun q => absurd q (by decide), fun q => absurd q (by decide)⟩, fun M v s f => sk_up s ⟨no (by decide), no (by decide), no (by decide), no (by decide), no (by decide), no (by decide), no (by decide), no (by decide), no (by decide), no (by decide), no (by decide), fun _ => ?_⟩⟩
  intro i hi q
  rw [or_bit o (by decide)] at q
  unfold fit at f
  simp at f q
  rcases q with q | q
  · exact (InSk_i.mp s 13).2.2.2.2.2.2.2.2.2.2.2 rfl i hi q
  · rw [← q]; exact f
theorem add_115_true (h : SSh c) (o : inN a 16) : ADD c (up c 10 (c 10 ||| (1 <<< (a &&& 31)))) 115 a true := by
  refine ⟨sh_up h ⟨no (by decide), no (by decide), no (by decide), no (by decide), no (by decide), no (by decide), no (by decide), no (by decide), fun _ => or_bb ((SSh_i.mp h 10).2.2.2.2.2.2.2.2.1 rfl) o (by decide), no (by decide), no (by decide), no (by decide)⟩, le_up (or_le (by decide) o (by decide)), ⟨fun q => absurd q (by decide), fun q => absurd q (by decide), fun q => absurd q (by decide), fun q => absurd q (by decide), fun _ => by show bI (up c 10 (c 10 ||| (1 <<< (a &&& 31))) 10) (cl a) = true; rw [up_e, or_bit o (by decide)]; simp, fun q => absurd q (by decide), fun q => absurd q (by decide)⟩, fun M v s f => sk_up s ⟨no (by decide), no (by decide), no (by decide), no (by decide), no (by decide), no (by decide), no (by decide), no (by decide), fun _ => ?_, no (by decide), no (by decide), no (by decide)⟩⟩
  intro i hi q
  rw [or_bit o (by decide)] at q
  unfold fit at f
  simp at f q
  rcases q with q | q
  · exact (InSk_i.mp s 10).2.2.2.2.2.2.2.2.1 rfl i hi q
  · rw [← q]; exact f
theorem add_115_false (h : SSh c) (o : inN a 16) : ADD c (up c 11 (c 11 ||| (1 <<< (a &&& 31)))) 115 a false := by
  refine ⟨sh_up h ⟨no (by decide), no (by decide), no (by decide), no (by decide), no (by decide), no (by decide), no (by decide), no (by decide), no (by decide), fun _ => or_bb ((SSh_i.mp h 11).2.2.2.2.2.2.2.2.2.1 rfl) o (by decide), no (by decide), no (by decide)⟩, le_up (or_le (by decide) o (by decide)), ⟨fun q => absurd q (by decide), fun q => absurd q (by decide), fun q => absurd q (by decide), fun q => absurd q (by decide), fun _ => by show bI (up c 11 (c 11 ||| (1 <<< (a &&& 31))) 11) (cl a) = true; rw [up_e, or_bit o (by decide)]; simp, fun q => absurd q (by decide), fun q => absurd q (by decide)⟩, fun M v s f => sk_up s ⟨no (by decide), no (by decide), no (by decide), no (by decide), no (by decide), no (by decide), no (by decide), no (by decide), no (by decide), fun _ => ?_, no (by decide), no (by decide)⟩⟩
  intro i hi q
  rw [or_bit o (by decide)] at q
  unfold fit at f
  simp at f q
  rcases q with q | q
  · exact (InSk_i.mp s 11).2.2.2.2.2.2.2.2.2.1 rfl i hi q
  · rw [← q]; exact f
theorem add_116_true (h : SSh c) (o : inN a 10) : ADD c (up c 4 (c 4 ||| (1 <<< (a &&& 31)))) 116 a true := by
  refine ⟨sh_up h ⟨no (by decide), no (by decide), no (by decide), no (by decide), fun _ => or_bb ((SSh_i.mp h 4).2.2.2.2.1 rfl) o (by decide), no (by decide), no (by decide), no (by decide), no (by decide), no (by decide), no (by decide), no (by decide)⟩, le_up (or_le (by decide) o (by decide)), ⟨fun q => absurd q (by decide), fun q => absurd q (by decide), fun q => absurd q (by decide), fun q => absurd q (by decide), fun q => absurd q (by decide), fun _ => by show bI (up c 4 (c 4 ||| (1 <<< (a &&& 31))) 4) (cl a) = true; rw [up_e, or_bit o (by decide)]; simp, fun q => absurd q (by decide)⟩, fun M v s f => sk_up s ⟨no (by decide), no (by decide), no (by decide), no (by decide), fun _ => ?_, no (by decide), no (by decide), no (by decide), no (by decide), no (by decide), no (by decide), no (by decide)⟩⟩
  intro i hi q
  rw [or_bit o (by decide)] at q
  unfold fit at f
  simp at f q
  rcases q with q | q
  · exact (InSk_i.mp s 4).2.2.2.2.1 rfl i hi q
  · rw [← q]; exact f
theorem add_116_false (h : SSh c) (o : inN a 10) : ADD c (up c 5 (c 5 ||| (1 <<< (a &&& 31)))) 116 a false := by
  refine ⟨sh_up h ⟨no (by decide), no (by decide), no (by decide), no (by decide), no (by decide), fun _ => or_bb ((SSh_i.mp h 5).2.2.2.2.2.1 rfl) o (by decide), no (by decide), no (by decide), no (by decide), no (by decide), no (by decide), no (by decide)⟩, le_up (or_le (by decide) o (by decide)), ⟨fun q => absurd q (by decide), fun q => absurd q (by decide), fun q => absurd q (by decide), fun q => absurd q (by decide), fun q => absurd q (by decide), fun _ => by show bI (up c 5 (c 5 ||| (1 <<< (a &&& 31))) 5) (cl a) = true; rw [up_e, or_bit o (by decide)]; simp, fun q => absurd q (by decide)⟩, fun M v s f => sk_up s ⟨no (by decide), no (by decide), no (by decide), no (by decide), no (by decide), fun _ => ?_, no (by decide), no (by decide), no (by decide), no (by decide), no (by decide), no (by decide)⟩⟩
  intro i hi q
  rw [or_bit o (by decide)] at q
  unfold fit at f
  simp at f q
  rcases q with q | q
  · exact (InSk_i.mp s 5).2.2.2.2.2.1 rfl i hi q
  · rw [← q]; exact f
theorem add_102_true (h : SSh c) (o : inN a 10) : ADD c (up c 0 (c 0 &&& (1 <<< (a &&& 31)))) 102 a true := by
  refine ⟨sh_up h ⟨fun _ => bb_and ((SSh_i.mp h 0).1 rfl), no (by decide), no (by decide), no (by decide), no (by decide), no (by decide), no (by decide), no (by decide), no (by decide), no (by decide), no (by decide), no (by decide)⟩, le_up ⟨fun _ i q => by rw [bI_and] at q; simp at q; exact q.1, fun q => by omega, fun q => by omega, fun q => by omega⟩, ⟨fun q => absurd q (by decide), fun q => absurd q (by decide), fun _ i hi q => by rw [up_e, and_bit o (by decide), decide_eq_false (fun e => q e.symm), Bool.and_false], fun q => absurd q (by decide), fun q => absurd q (by decide), fun q => absurd q (by decide), fun q => absurd q (by decide)⟩, fun M v s f => sk_up s ⟨fun _ => ?_, no (by decide), no (by decide), no (by decide), no (by decide), no (by decide), no (by decide), no (by decide), no (by decide), no (by decide), no (by decide), no (by decide)⟩⟩
  unfold fit at f
  simp at f
  rw [and_bit o (by decide), (InSk_i.mp s 0).1 rfl, f]
  simp
theorem add_102_false (h : SSh c) (o : inN a 10) : ADD c (up c 0 (c 0 &&& ((1 <<< (a &&& 31)) ^^^ (-1)))) 102 a false := by
  refine ⟨sh_up h ⟨fun _ => bb_and ((SSh_i.mp h 0).1 rfl), no (by decide), no (by decide), no (by decide), no (by decide), no (by decide), no (by decide), no (by decide), no (by decide), no (by decide), no (by decide), no (by decide)⟩, le_up ⟨fun _ i q => by rw [bI_and] at q; simp at q; exact q.1, fun q => by omega, fun q => by omega, fun q => by omega⟩, ⟨fun q => absurd q (by decide), fun q => absurd q (by decide), fun _ => by show bI (up c 0 _ 0) _ = false; rw [up_e, andn_bit o (by decide) (by have := cl_lt o (by decide); omega)]; simp, fun q => absurd q (by decide), fun q => absurd q (by decide), fun q => absurd q (by decide), fun q => absurd q (by decide)⟩, fun M v s f => sk_up s ⟨fun _ => ?_, no (by decide), no (by decide), no (by decide), no (by decide), no (by decide), no (by decide), no (by decide), no (by decide), no (by decide), no (by decide), no (by decide)⟩⟩
  unfold fit at f
  have f : M 0 ≠ a := by simpa using f
  have b := (InSk_i.mp s 0).1 rfl
  have hv : inN (M 0) 10 := v.1
  have hc := cl_lt hv (by decide)
  rw [andn_bit o (by decide) (by omega), b]
  simp
  exact fun q => f (cl_inj hv o (by decide) q)
theorem add_100_true (h : SSh c) (o : inN a 7) : ADD c (up c 1 (c 1 &&& (1 <<< (a &&& 31)))) 100 a true := by
  refine ⟨sh_up h ⟨no (by decide), fun _ => bb_and ((SSh_i.mp h 1).2.1 rfl), no (by decide), no (by decide), no (by decide), no (by decide), no (by decide), no (by decide), no (by decide), no (by decide), no (by decide), no (by decide)⟩, le_up ⟨fun _ i q => by rw [bI_and] at q; simp at q; exact q.1, fun q => by omega, fun q => by omega, fun q => by omega⟩, ⟨fun q => absurd q (by decide), fun _ i hi q => by rw [up_e, and_bit o (by decide), decide_eq_false (fun e => q e.symm), Bool.and_false], fun q => absurd q (by decide), fun q => absurd q (by decide), fun q => absurd q (by decide), fun q => absurd q (by decide), fun q => absurd q (by decide)⟩, fun M v s f => sk_up s ⟨no (by decide), fun _ => ?_, no (by decide), no (by decide), no (by decide), no (by decide), no (by decide), no (by decide), no (by decide), no (by decide), no (by decide), no (by decide)⟩⟩
  unfold fit at f
  simp at f
  rw [and_bit o (by decide), (InSk_i.mp s 1).2.1 rfl, f]
  simp
theorem add_100_false (h : SSh c) (o : inN a 7) : ADD c (up c 1 (c 1 &&& ((1 <<< (a &&& 31)) ^^^ (-1)))) 100 a false := by
  refine ⟨sh_up h ⟨no (by decide), fun _ => bb_and ((SSh_i.mp h 1).2.1 rfl), no (by decide), no (by decide), no (by decide), no (by decide), no (by decide), no (by decide), no (by decide), no (by decide), no (by decide), no (by decide)⟩, le_up ⟨fun _ i q => by rw [bI_and] at q; simp at q; exact q.1, fun q => by omega, fun q => by omega, fun q => by omega⟩, ⟨fun q => absurd q (by decide), fun _ => by show bI (up c 1 _ 1) _ = false; rw [up_e, andn_bit o (by decide) (by have := cl_lt o (by decide); omega)]; simp, fun q => absurd q (by decide), fun q => absurd q (by decide), fun q => absurd q (by decide), fun q => absurd q (by decide), fun q => absurd q (by decide)⟩, fun M v s f => sk_up s ⟨no (by decide), fun _ => ?_, no (by decide), no (by decide), no (by decide), no (by decide), no (by decide), no (by decide), no (by decide), no (by decide), no (by decide), no (by decide)⟩⟩
  unfold fit at f
  have f : M 5 ≠ a := by simpa using f
  have b := (InSk_i.mp s 1).2.1 rfl
  have hv : inN (M 5) 7 := v.2.2.2.2.2
  have hc := cl_lt hv (by decide)
  rw [andn_bit o (by decide) (by omega), b]
  simp
  exact fun q => f (cl_inj hv o (by decide) q)
theorem add_122_true (h : SSh c) (o : inN a 1000) : ADD c (up c 2 (if c 2 < a + 1 then a + 1 else c 2)) 122 a true := by
  obtain ⟨x, hx, rfl⟩ := o
  obtain ⟨y, y1, y2, ey⟩ := (SSh_i.mp h 2).2.2.1 rfl
  have e : (if c 2 < nI x + 1 then nI x + 1 else c 2) = nI (max y (x + 1)) := by
    rw [ey, nI_1]
    by_cases l : y < x + 1
    · rw [if_pos (nI_lt l (by omega)), Nat.max_eq_right (by omega)]
    · rw [if_neg (nI_nlt (by omega) (by omega)), Nat.max_eq_left (by omega)]
  rw [e]
  have t := nI_toInt (n := max y (x + 1)) (by omega)
  have tx := nI_toInt (n := x) (by omega)
  have ty := nI_toInt (n := y) (by omega)
  refine ⟨sh_up h ⟨no (by decide), no (by decide), fun _ => ⟨max y (x + 1), by omega, by omega, rfl⟩, no (by decide), no (by decide), no (by decide), no (by decide), no (by decide), no (by decide), no (by decide), no (by decide), no (by decide)⟩, le_up ⟨fun q => by omega, fun _ => by rw [ey, t, ty]; omega, fun q => by omega, fun q => by omega⟩, ⟨fun q => absurd q (by decide), fun q => absurd q (by decide), fun q => absurd q (by decide), fun q => absurd q (by decide), fun q => absurd q (by decide), fun q => absurd q (by decide), fun _ => by show nI x < up c 2 _ 2; rw [up_e, Int32.lt_iff_toInt_lt, t, tx]; omega⟩, fun M v s f => sk_up s ⟨no (by decide), no (by decide), fun _ => ?_, no (by decide), no (by decide), no (by decide), no (by decide), no (by decide), no (by decide), no (by decide), no (by decide), no (by decide)⟩⟩
  unfold fit at f
  have f : ¬ M 4 ≤ nI x := by simpa using f
  have b := (InSk_i.mp s 2).2.2.1 rfl
  rw [ey] at b
  rw [Int32.lt_iff_toInt_lt] at b ⊢
  rw [Int32.le_iff_toInt_le] at f
  omega
theorem add_122_false (h : SSh c) (o : inN a 1000) : ADD c (up c 3 (if a < c 3 then a else c 3)) 122 a false := by
  obtain ⟨x, hx, rfl⟩ := o
  obtain ⟨y, y2, ey⟩ := (SSh_i.mp h 3).2.2.2.1 rfl
  have e : (if nI x < c 3 then nI x else c 3) = nI (min x y) := by
    rw [ey]
    by_cases l : x < y
    · rw [if_pos (nI_lt l (by omega)), Nat.min_eq_left (by omega)]
    · rw [if_neg (nI_nlt (by omega) (by omega)), Nat.min_eq_right (by omega)]
  rw [e]
  have t := nI_toInt (n := min x y) (by omega)
  have tx := nI_toInt (n := x) (by omega)
  have ty := nI_toInt (n := y) (by omega)
  refine ⟨sh_up h ⟨no (by decide), no (by decide), no (by decide), fun _ => ⟨min x y, by omega, rfl⟩, no (by decide), no (by decide), no (by decide), no (by decide), no (by decide), no (by decide), no (by decide), no (by decide)⟩, le_up ⟨fun q => by omega, fun q => by omega, fun _ => by rw [ey, t, ty]; omega, fun q => by omega⟩, ⟨fun q => absurd q (by decide), fun q => absurd q (by decide), fun q => absurd q (by decide), fun q => absurd q (by decide), fun q => absurd q (by decide), fun q => absurd q (by decide), fun _ => by show ¬ nI x < up c 3 _ 3; rw [up_e, Int32.lt_iff_toInt_lt, t, tx]; omega⟩, fun M v s f => sk_up s ⟨no (by decide), no (by decide), no (by decide), fun _ => ?_, no (by decide), no (by decide), no (by decide), no (by decide), no (by decide), no (by decide), no (by decide), no (by decide)⟩⟩
  unfold fit at f
  have f : M 4 ≤ nI x := by simpa using f
  have b := (InSk_i.mp s 3).2.2.2.1 rfl
  rw [ey] at b
  rw [Int32.lt_iff_toInt_lt] at b ⊢
  rw [Int32.le_iff_toInt_le] at f
  omega
theorem add_110_true (h : SSh c) (o : inZ a 1 10) : ADD c (up c 6 (if c 6 < a then a else c 6)) 110 a true := by
  obtain ⟨x, x1, x2, rfl⟩ := z110 o
  obtain ⟨y, y1, y2, ey⟩ := (SSh_i.mp h 6).2.2.2.2.2.2.1 rfl
  have e : (if c 6 < nI x then nI x else c 6) = nI (max y x) := by
    rw [ey]
    by_cases l : y < x
    · rw [if_pos (nI_lt l (by omega)), Nat.max_eq_right (by omega)]
    · rw [if_neg (nI_nlt (by omega) (by omega)), Nat.max_eq_left (by omega)]
  rw [e]
  have t := nI_toInt (n := max y x) (by omega)
  have tx := nI_toInt (n := x) (by omega)
  have ty := nI_toInt (n := y) (by omega)
  refine ⟨sh_up h ⟨no (by decide), no (by decide), no (by decide), no (by decide), no (by decide), no (by decide), fun _ => ⟨max y x, by omega, by omega, rfl⟩, no (by decide), no (by decide), no (by decide), no (by decide), no (by decide)⟩, le_up ⟨fun q => by omega, fun _ => by rw [ey, t, ty]; omega, fun q => by omega, fun q => by omega⟩, ⟨fun q => absurd q (by decide), fun q => absurd q (by decide), fun q => absurd q (by decide), fun _ => by show ¬ up c 6 _ 6 < nI x; rw [up_e, Int32.lt_iff_toInt_lt, t, tx]; omega, fun q => absurd q (by decide), fun q => absurd q (by decide), fun q => absurd q (by decide)⟩, fun M v s f => sk_up s ⟨no (by decide), no (by decide), no (by decide), no (by decide), no (by decide), no (by decide), fun _ => ?_, no (by decide), no (by decide), no (by decide), no (by decide), no (by decide)⟩⟩
  unfold fit at f
  have f : ¬ cnt M < nI x := by simpa [cnt] using f
  have b := (InSk_i.mp s 6).2.2.2.2.2.2.1 rfl
  rw [ey] at b
  rw [Int32.lt_iff_toInt_lt] at b f ⊢
  omega
theorem add_110_false (h : SSh c) (o : inZ a 1 10) : ADD c (up c 7 (if a - 1 < c 7 then a - 1 else c 7)) 110 a false := by
  obtain ⟨x, x1, x2, rfl⟩ := z110 o
  obtain ⟨y, y2, ey⟩ := (SSh_i.mp h 7).2.2.2.2.2.2.2.1 rfl
  have e : (if nI x - 1 < c 7 then nI x - 1 else c 7) = nI (min (x - 1) y) := by
    rw [ey, nI_sub1 x1]
    by_cases l : x - 1 < y
    · rw [if_pos (nI_lt l (by omega)), Nat.min_eq_left (by omega)]
    · rw [if_neg (nI_nlt (by omega) (by omega)), Nat.min_eq_right (by omega)]
  rw [e]
  have t := nI_toInt (n := min (x - 1) y) (by omega)
  have tx := nI_toInt (n := x) (by omega)
  have ty := nI_toInt (n := y) (by omega)
  refine ⟨sh_up h ⟨no (by decide), no (by decide), no (by decide), no (by decide), no (by decide), no (by decide), no (by decide), fun _ => ⟨min (x - 1) y, by omega, rfl⟩, no (by decide), no (by decide), no (by decide), no (by decide)⟩, le_up ⟨fun q => by omega, fun q => by omega, fun _ => by rw [ey, t, ty]; omega, fun q => by omega⟩, ⟨fun q => absurd q (by decide), fun q => absurd q (by decide), fun q => absurd q (by decide), fun _ => by show up c 7 _ 7 < nI x; rw [up_e, Int32.lt_iff_toInt_lt, t, tx]; omega, fun q => absurd q (by decide), fun q => absurd q (by decide), fun q => absurd q (by decide)⟩, fun M v s f => sk_up s ⟨no (by decide), no (by decide), no (by decide), no (by decide), no (by decide), no (by decide), no (by decide), fun _ => ?_, no (by decide), no (by decide), no (by decide), no (by decide)⟩⟩
  unfold fit at f
  have f : cnt M < nI x := by simpa [cnt] using f
  have b := (InSk_i.mp s 7).2.2.2.2.2.2.2.1 rfl
  rw [ey] at b
  rw [Int32.lt_iff_toInt_lt] at b f ⊢
  omega
end
