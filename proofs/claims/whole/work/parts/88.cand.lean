/-! learn: the tests that may be learnt, in their order -/
theorem ct_hit {f : Nat → Bool} {a : Nat} (h : f a = true) : ct f (a + 1) = ct f a + 1 := by simp [ct, h]
theorem ct_miss {f : Nat → Bool} {a : Nat} (h : f a = false) : ct f (a + 1) = ct f a := by simp [ct, h]
theorem ct_hitlt {f : Nat → Bool} {a n : Nat} (h : f a = true) (hn : a < n) : ct f a < ct f n := by
  have := ct_hit h
  have := ct_up (f := f) n (a + 1) (by omega)
  omega
theorem ct_inj {f : Nat → Bool} {a b : Nat} (ha : f a = true) (hb : f b = true) (e : ct f a = ct f b) : a = b := by
  rcases Nat.lt_trichotomy a b with q | q | q
  · have := ct_hitlt ha q; omega
  · exact q
  · have := ct_hitlt hb q; omega
/-- between two counts there is the one that is counted -/
theorem ct_find {f : Nat → Bool} {k : Nat} : ∀ n, k < ct f n → ∃ a, a < n ∧ f a = true ∧ ct f a = k := by
  intro n
  induction n with
  | zero => intro h; simp [ct] at h
  | succ n ih =>
    intro h
    by_cases q : k < ct f n
    · obtain ⟨a, ha, x⟩ := ih q
      exact ⟨a, by omega, x⟩
    · cases e : f n
      · rw [ct_miss e] at h; omega
      · rw [ct_hit e] at h
        exact ⟨n, by omega, e, by omega⟩
theorem ct_one {f g : Nat → Bool} {t n : Nat} (h : ∀ i, i < n → g i = true → f i = true ∨ i = t) : ct g n ≤ ct f n + 1 := by
  induction n with
  | zero => simp [ct]
  | succ n ih =>
    have key : ∀ m, m ≤ n → (∀ i, i < m → i ≠ t) → ct g m ≤ ct f m := fun m hmn hm => ct_mono m (fun i hi e => by
      rcases h i (by omega) e with q | q
      · exact q
      · exact absurd q (hm i hi))
    have ih := ih (fun i hi => h i (by omega))
    simp only [ct]
    by_cases e : n = t
    · have := key n (Nat.le_refl _) (fun i hi q => by omega)
      split <;> split <;> omega
    · cases b : g n
      · simp; omega
      · rcases h n (by omega) b with q | q
        · rw [q]; simp; omega
        · exact absurd q e
theorem ct_any {P : Nat → Nat → Bool} {N : Nat} (u : ∀ m a a', a < N → a' < N → P m a = true → P m a' = true → a = a') : ∀ n, ct (fun a => (List.range n).any (fun m => P m a)) N ≤ n := by
  intro n
  induction n with
  | zero =>
    have : ∀ N, ct (fun a => (List.range 0).any (fun m => P m a)) N = 0 := by
      intro N
      induction N with
      | zero => rfl
      | succ N ih => simp only [ct, ih]; simp
    rw [this]
    exact Nat.le_refl _
  | succ n ih =>
    by_cases e : ∃ t, t < N ∧ P n t = true
    · obtain ⟨t, ht, pt⟩ := e
      have := ct_one (f := fun a => (List.range n).any (fun m => P m a)) (g := fun a => (List.range (n + 1)).any (fun m => P m a)) (t := t) (n := N) (fun i hi q => by
        simp only [List.range_succ, List.any_append, Bool.or_eq_true, List.any_cons, List.any_nil, Bool.or_false] at q
        rcases q with q | q
        · exact Or.inl q
        · exact Or.inr (u n i t hi ht q pt))
      omega
    · have := ct_mono (f := fun a => (List.range (n + 1)).any (fun m => P m a)) (g := fun a => (List.range n).any (fun m => P m a)) N (fun i hi q => by
        simp only [List.range_succ, List.any_append, Bool.or_eq_true, List.any_cons, List.any_nil, Bool.or_false] at q
        rcases q with q | q
        · exact q
        · exact absurd ⟨i, hi, q⟩ e)
      omega
theorem ct_pair {f : Nat → Bool} (u : ∀ j, f (2 * j) = true → f (2 * j + 1) = true → False) : ∀ n, ct f (2 * n) ≤ n := by
  intro n
  induction n with
  | zero => exact Nat.le_refl _
  | succ n ih =>
    rw [show 2 * (n + 1) = 2 * n + 1 + 1 by omega]
    cases e : f (2 * n)
    · have := ct_miss e
      cases e' : f (2 * n + 1)
      · rw [ct_miss e']; omega
      · rw [ct_hit e']; omega
    · have := ct_hit e
      cases e' : f (2 * n + 1)
      · rw [ct_miss e']; omega
      · exact absurd e' (fun q => u n e q)
/-- the number below n that is counted as the k-th -/
def nth (f : Nat → Bool) (k : Nat) : Nat → Nat
  | 0 => 0
  | n + 1 => if f n = true ∧ ct f n = k then n else nth f k n
theorem nth_lt {f : Nat → Bool} {k : Nat} : ∀ n, nth f k n < n + 1 := by
  intro n
  induction n with
  | zero => exact Nat.lt_succ_self _
  | succ n ih => simp only [nth]; split <;> omega
theorem nth_e {f : Nat → Bool} {a : Nat} (h : f a = true) : ∀ n, a < n → nth f (ct f a) n = a := by
  intro n
  induction n with
  | zero => intro q; omega
  | succ n ih =>
    intro q
    simp only [nth]
    by_cases e : f n = true ∧ ct f n = ct f a
    · rw [if_pos e]; exact ct_inj e.1 h e.2
    · rw [if_neg e]
      refine ih ?_
      rcases Nat.lt_or_ge a n with w | w
      · exact w
      · exact absurd (by rw [show n = a by omega]; exact ⟨h, rfl⟩) e
def cK (z j : Nat) : Int32 := if j < 10 then 102 else if j < 20 then 116 else if j < 36 then 115 else if j < 52 then 98 else if j < 52 + z then 122 else 100
def cA (f : Nat → Bool) (z j : Nat) : Int32 := nI (if j < 10 then j else if j < 20 then j - 10 else if j < 36 then j - 20 else if j < 52 then j - 36 else if j < 52 + z then nth f (j - 52) 999 else j - (52 + z))
theorem cK_ok (f : Nat → Bool) {z j : Nat} (hj : j < 59 + z) : leafOK (cK z j) (cA f z j) ∧ cK z j ≠ 97 ∧ cK z j ≠ 107 ∧ vp_nar .char (cK z j) = cK z j := by
  unfold cK cA
  by_cases a : j < 10
  · simp only [if_pos a]; exact ⟨Or.inr (Or.inl ⟨Or.inl rfl, j, a, rfl⟩), by decide, by decide, by decide⟩
  by_cases b : j < 20
  · simp only [if_neg a, if_pos b]; exact ⟨Or.inr (Or.inl ⟨Or.inr rfl, j - 10, by omega, rfl⟩), by decide, by decide, by decide⟩
  by_cases c : j < 36
  · simp only [if_neg a, if_neg b, if_pos c]; exact ⟨Or.inr (Or.inr (Or.inl ⟨Or.inl rfl, j - 20, by omega, rfl⟩)), by decide, by decide, by decide⟩
  by_cases d : j < 52
  · simp only [if_neg a, if_neg b, if_neg c, if_pos d]; exact ⟨Or.inr (Or.inr (Or.inl ⟨Or.inr rfl, j - 36, by omega, rfl⟩)), by decide, by decide, by decide⟩
  by_cases e : j < 52 + z
  · simp only [if_neg a, if_neg b, if_neg c, if_neg d, if_pos e]; exact ⟨Or.inr (Or.inr (Or.inr (Or.inl ⟨rfl, nth f (j - 52) 999, nth_lt 999, rfl⟩))), by decide, by decide, by decide⟩
  · simp only [if_neg a, if_neg b, if_neg c, if_neg d, if_neg e]; exact ⟨Or.inr (Or.inr (Or.inr (Or.inr (Or.inl ⟨rfl, j - (52 + z), by omega, rfl⟩)))), by decide, by decide, by decide⟩
section
variable (h : Hp) (nm : Nat) (b : Int32)
/-- is there a kept mail of the size a + 1 -/
def lS (a : Nat) : Bool := (List.range nm).any (fun m => decide (kM h m ∧ gI h 37 0 m = nI (a + 1)))
def lZ : Nat := ct (lS h nm) 999
def lK (j : Nat) : Int32 := cK (lZ h nm) j
def lA (j : Nat) : Int32 := cA (lS h nm) (lZ h nm) j
def lP (m : Nat) : Bool := decide (kM h m ∧ gI h 41 0 m = b ∧ gI h 43 0 m = b)
def lV (j m : Nat) : Bool := fit (mM h m 0) (lK h nm j) (lA h nm j)
def lHd (c m : Nat) : Bool := lV h nm (c / 2) m == decide (c % 2 = 0)
def lG (c : Nat) : Bool := (List.range nm).all (fun m => !lP h b m || lHd h nm c m)
def lM (c m : Nat) : Bool := decide (kM h m) && !lP h b m && lHd h nm c m
end
section
variable {h : Hp} {nm : Nat} {b : Int32}
theorem lS_iff {a : Nat} : lS h nm a = true ↔ ∃ m, m < nm ∧ kM h m ∧ gI h 37 0 m = nI (a + 1) := by
  unfold lS
  rw [List.any_eq_true]
  constructor
  · rintro ⟨m, hm, q⟩; exact ⟨m, List.mem_range.mp hm, of_decide_eq_true q⟩
  · rintro ⟨m, hm, q⟩; exact ⟨m, List.mem_range.mpr hm, decide_eq_true q⟩
theorem lS_ct (N : Nat) (hN : N < 2 ^ 30) : ct (lS h nm) N ≤ nm := by
  refine ct_any (fun m a a' ha ha' q q' => ?_) nm
  have q := of_decide_eq_true q
  have q' := of_decide_eq_true q'
  have := (nI_eq (a := a + 1) (b := a' + 1) (by omega) (by omega)).mp (by rw [← q.2, ← q'.2])
  omega
theorem lG_iff {c : Nat} : lG h nm b c = true ↔ ∀ m, m < nm → lP h b m = true → lHd h nm c m = true := by
  unfold lG
  rw [List.all_eq_true]
  constructor
  · intro q m hm p
    have := q m (List.mem_range.mpr hm)
    simpa [p] using this
  · intro q m hm
    cases p : lP h b m
    · rfl
    · simpa using q m (List.mem_range.mp hm) p
theorem lHd_0 (j m : Nat) : lHd h nm (2 * j) m = lV h nm j m := by
  unfold lHd
  rw [show 2 * j / 2 = j by omega, show 2 * j % 2 = 0 by omega]
  simp
theorem lHd_1 (j m : Nat) : lHd h nm (2 * j + 1) m = !lV h nm j m := by
  unfold lHd
  rw [show (2 * j + 1) / 2 = j by omega, show (2 * j + 1) % 2 = 1 by omega]
  cases lV h nm j m <;> rfl
theorem lG_x (hp : ∃ m, m < nm ∧ lP h b m = true) (j : Nat) (q : lG h nm b (2 * j) = true) (q' : lG h nm b (2 * j + 1) = true) : False := by
  obtain ⟨m, hm, p⟩ := hp
  have a := lG_iff.mp q m hm p
  have a' := lG_iff.mp q' m hm p
  rw [lHd_0] at a
  rw [lHd_1, a] at a'
  cases a'
theorem lP_k {m : Nat} (p : lP h b m = true) : kM h m := (of_decide_eq_true p).1
/-- what a single test that tells them apart is -/
theorem f1_iff {c : Nat} : (∀ m, m < nm → kM h m → lHd h nm c m = lP h b m) ↔ (lG h nm b c = true ∧ ∀ m, m < nm → lM h nm b c m = false) := by
  constructor
  · intro q
    refine ⟨lG_iff.mpr (fun m hm p => by rw [q m hm (lP_k p), p]), fun m hm => ?_⟩
    unfold lM
    by_cases k : kM h m
    · rw [q m hm k]; cases lP h b m <;> simp
    · simp [k]
  · rintro ⟨g, q⟩ m hm k
    cases p : lP h b m
    · have := q m hm
      unfold lM at this
      rw [p] at this
      simpa [k] using this
    · exact lG_iff.mp g m hm p
theorem f2_iff {c d : Nat} : (∀ m, m < nm → kM h m → (lHd h nm c m && lHd h nm d m) = lP h b m) ↔ (lG h nm b c = true ∧ lG h nm b d = true ∧ ∀ m, m < nm → (lM h nm b c m && lM h nm b d m) = false) := by
  constructor
  · intro q
    refine ⟨lG_iff.mpr (fun m hm p => ?_), lG_iff.mpr (fun m hm p => ?_), fun m hm => ?_⟩
    · have := q m hm (lP_k p); rw [p] at this; exact (Bool.and_eq_true _ _ ▸ this : _ ∧ _).1
    · have := q m hm (lP_k p); rw [p] at this; exact (Bool.and_eq_true _ _ ▸ this : _ ∧ _).2
    · unfold lM
      by_cases k : kM h m
      · have := q m hm k
        revert this
        cases lP h b m <;> cases lHd h nm c m <;> cases lHd h nm d m <;> simp
      · simp [k]
  · rintro ⟨g, g', q⟩ m hm k
    cases p : lP h b m
    · have := q m hm
      unfold lM at this
      rw [p] at this
      simpa [k] using this
    · rw [lG_iff.mp g m hm p, lG_iff.mp g' m hm p]; rfl
end
