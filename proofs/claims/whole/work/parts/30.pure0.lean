/-! reading behind writing -/
section
variable (h : Hp) (j o k j' o' k' : Nat)
theorem gI_sI (v : Int32) : gI (sI h j o k v) j' o' k' = if j' = j ∧ o' = o ∧ k' = k then v else gI h j' o' k' := rfl
theorem gI_sJ (v : Int64) : gI (sJ h j o k v) j' o' k' = gI h j' o' k' := rfl
theorem gI_sR (v : Nat) : gI (sR h j o k v) j' o' k' = gI h j' o' k' := rfl
theorem gI_sD (v : UInt64) : gI (sD h j o k v) j' o' k' = gI h j' o' k' := rfl
theorem gJ_sI (v : Int32) : gJ (sI h j o k v) j' o' k' = gJ h j' o' k' := rfl
theorem gJ_sJ (v : Int64) : gJ (sJ h j o k v) j' o' k' = if j' = j ∧ o' = o ∧ k' = k then v else gJ h j' o' k' := rfl
theorem gJ_sR (v : Nat) : gJ (sR h j o k v) j' o' k' = gJ h j' o' k' := rfl
theorem gJ_sD (v : UInt64) : gJ (sD h j o k v) j' o' k' = gJ h j' o' k' := rfl
theorem gR_sI (v : Int32) : gR (sI h j o k v) j' o' k' = gR h j' o' k' := rfl
theorem gR_sJ (v : Int64) : gR (sJ h j o k v) j' o' k' = gR h j' o' k' := rfl
theorem gR_sR (v : Nat) : gR (sR h j o k v) j' o' k' = if j' = j ∧ o' = o ∧ k' = k then v else gR h j' o' k' := rfl
theorem gR_sD (v : UInt64) : gR (sD h j o k v) j' o' k' = gR h j' o' k' := rfl
theorem gD_sI (v : Int32) : gD (sI h j o k v) j' o' k' = gD h j' o' k' := rfl
theorem gD_sJ (v : Int64) : gD (sJ h j o k v) j' o' k' = gD h j' o' k' := rfl
theorem gD_sR (v : Nat) : gD (sR h j o k v) j' o' k' = gD h j' o' k' := rfl
theorem gD_sD (v : UInt64) : gD (sD h j o k v) j' o' k' = if j' = j ∧ o' = o ∧ k' = k then v else gD h j' o' k' := rfl
end
/-! what a piece of the program leaves alone: W says where it may write -/
def ag (W : Nat → Nat → Bool) (h h' : Hp) : Prop := ∀ j k, W j k = false → ∀ o, gI h' j o k = gI h j o k ∧ gJ h' j o k = gJ h j o k ∧ gR h' j o k = gR h j o k ∧ gD h' j o k = gD h j o k
theorem ag.rfl {W : Nat → Nat → Bool} {h : Hp} : ag W h h := fun _ _ _ _ => ⟨Eq.refl _, Eq.refl _, Eq.refl _, Eq.refl _⟩
theorem ag.trans {W : Nat → Nat → Bool} {h h' h'' : Hp} (a : ag W h h') (b : ag W h' h'') : ag W h h'' := fun j k hw o => by
  obtain ⟨a1, a2, a3, a4⟩ := a j k hw o
  obtain ⟨b1, b2, b3, b4⟩ := b j k hw o
  exact ⟨b1.trans a1, b2.trans a2, b3.trans a3, b4.trans a4⟩
theorem ag.mono {W W' : Nat → Nat → Bool} {h h' : Hp} (a : ag W h h') (hw : ∀ j k, W' j k = false → W j k = false) : ag W' h h' := fun j k q o => a j k (hw j k q) o
theorem ag.I {W : Nat → Nat → Bool} {h h' : Hp} (a : ag W h h') (j o k : Nat) (hw : W j k = false := by rfl) : gI h' j o k = gI h j o k := (a j k hw o).1
theorem ag.J {W : Nat → Nat → Bool} {h h' : Hp} (a : ag W h h') (j o k : Nat) (hw : W j k = false := by rfl) : gJ h' j o k = gJ h j o k := (a j k hw o).2.1
theorem ag.R {W : Nat → Nat → Bool} {h h' : Hp} (a : ag W h h') (j o k : Nat) (hw : W j k = false := by rfl) : gR h' j o k = gR h j o k := (a j k hw o).2.2.1
theorem ag.D {W : Nat → Nat → Bool} {h h' : Hp} (a : ag W h h') (j o k : Nat) (hw : W j k = false := by rfl) : gD h' j o k = gD h j o k := (a j k hw o).2.2.2
theorem ag.sI {W : Nat → Nat → Bool} {h h' : Hp} (a : ag W h h') {j o k : Nat} {v : Int32} (hw : W j k = true := by rfl) : ag W h (sI h' j o k v) := fun j' k' q o' => by
  obtain ⟨a1, a2, a3, a4⟩ := a j' k' q o'
  refine ⟨?_, a2, a3, a4⟩
  rw [gI_sI, if_neg, a1]
  intro e
  rw [e.1, e.2.2, hw] at q
  cases q
theorem ag.sJ {W : Nat → Nat → Bool} {h h' : Hp} (a : ag W h h') {j o k : Nat} {v : Int64} (hw : W j k = true := by rfl) : ag W h (sJ h' j o k v) := fun j' k' q o' => by
  obtain ⟨a1, a2, a3, a4⟩ := a j' k' q o'
  refine ⟨a1, ?_, a3, a4⟩
  rw [gJ_sJ, if_neg, a2]
  intro e
  rw [e.1, e.2.2, hw] at q
  cases q
theorem ag.sR {W : Nat → Nat → Bool} {h h' : Hp} (a : ag W h h') {j o k : Nat} {v : Nat} (hw : W j k = true := by rfl) : ag W h (sR h' j o k v) := fun j' k' q o' => by
  obtain ⟨a1, a2, a3, a4⟩ := a j' k' q o'
  refine ⟨a1, a2, ?_, a4⟩
  rw [gR_sR, if_neg, a3]
  intro e
  rw [e.1, e.2.2, hw] at q
  cases q
theorem ag.sD {W : Nat → Nat → Bool} {h h' : Hp} (a : ag W h h') {j o k : Nat} {v : UInt64} (hw : W j k = true := by rfl) : ag W h (sD h' j o k v) := fun j' k' q o' => by
  obtain ⟨a1, a2, a3, a4⟩ := a j' k' q o'
  refine ⟨a1, a2, a3, ?_⟩
  rw [gD_sD, if_neg, a4]
  intro e
  rw [e.1, e.2.2, hw] at q
  cases q
/-- cells by pairs (clause, field), whole clauses by their number -/
def wS (L : List Nat) (F : List (Nat × Nat)) : Nat → Nat → Bool := fun j k => L.contains j || F.contains (j, k)
theorem wS_mono {L L' : List Nat} {F F' : List (Nat × Nat)} (hL : L.all (fun j => L'.contains j) = true) (hF : F.all (fun p => L'.contains p.1 || F'.contains p) = true) : ∀ j k, wS L' F' j k = false → wS L F j k = false := by
  intro j k q
  rw [← Bool.not_eq_true] at q ⊢
  intro e
  apply q
  simp only [wS, Bool.or_eq_true, List.contains_iff_mem] at e ⊢
  rcases e with e | e
  · have := List.all_eq_true.mp hL j e
    exact Or.inl (by simpa using this)
  · have := List.all_eq_true.mp hF (j, k) e
    simpa using this
/-! ranges -/
def inZ (x lo hi : Int32) : Prop := lo.toInt ≤ x.toInt ∧ x.toInt ≤ hi.toInt
theorem in_w {p lo hi : Int32} {h : Hp} {Q : Int32 → Prop} (h1 : inZ p lo hi → Q 1) (h0 : ¬ inZ p lo hi → Q 0) : wp_X11_in p lo hi h Q := by
  unfold wp_X11_in
  simp only [Int32.lt_iff_toInt_lt]
  by_cases a : p.toInt < lo.toInt
  · rw [if_pos a]; exact h0 (fun e => by have := e.1; omega)
  · rw [if_neg a]
    by_cases b : hi.toInt < p.toInt
    · rw [if_pos b]; exact h0 (fun e => by have := e.2; omega)
    · rw [if_neg b]; exact h1 ⟨by omega, by omega⟩
theorem lies_w {p lo hi : Int32} {h : Hp} {Q : Int32 → Prop} (h1 : inZ p lo hi → Q 1) (h0 : ¬ inZ p lo hi → Q 0) : wp_X10_lies p lo hi h Q := in_w (h := h) h1 h0
theorem below_w {p n hi : Int32} {h : Hp} {Q : Int32 → Prop} (hn : n.toInt = hi.toInt + 1) (h1 : inZ p 0 hi → Q 1) (h0 : ¬ inZ p 0 hi → Q 0) : wp_X10_isBelow p n h Q := by
  unfold wp_X10_isBelow
  simp only [Int32.lt_iff_toInt_lt, Int32.le_iff_toInt_le]
  have z : (0 : Int32).toInt = 0 := rfl
  by_cases a : p.toInt < (0 : Int32).toInt
  · rw [if_pos a]; exact h0 (fun e => by have := e.1; omega)
  · rw [if_neg a]
    by_cases b : n.toInt ≤ p.toInt
    · rw [if_pos b]; exact h0 (fun e => by have := e.2; omega)
    · rw [if_neg b]; exact h1 ⟨by omega, by omega⟩
theorem inZ_nI {p hi : Int32} {n : Nat} (hn : hi.toInt + 1 = n) (h : inZ p 0 hi) : ∃ j, j < n ∧ p = nI j := by
  obtain ⟨j, hj, e⟩ := nI_of (x := p) (fun q => by have := h.1; rw [Int32.lt_iff_toInt_lt] at q; omega)
  refine ⟨j, ?_, e⟩
  have := h.2
  rw [e, nI_toInt hj] at this
  omega
