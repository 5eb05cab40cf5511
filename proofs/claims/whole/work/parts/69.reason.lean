/-! what a test can do: with p = true hold, with p = false fail; 'k' can do both -/
def cst (M : Nat → Int32) (f : Nat → Bool → Bool) (k a b : Int32) (p : Bool) : Bool :=
  if k = 33 then f (cl a) (!p) else if k = 38 ∨ k = 124 then (if decide (k = 38) = p then f (cl a) p && f (cl b) p else f (cl a) p || f (cl b) p) else if k = 107 then true else (fit M k a == p)
def cvs (K A B M : Nat → Int32) : Nat → Nat → Bool → Bool
  | 0 => fun _ _ => false
  | n + 1 => fun t p => if t = n then cst M (cvs K A B M n) (K n) (A n) (B n) p else cvs K A B M n t p
def cv (K A B M : Nat → Int32) (t : Nat) (p : Bool) : Bool := cvs K A B M (t + 1) t p
theorem cvs_up (K A B M : Nat → Int32) : ∀ n t p, t < n → cvs K A B M n t p = cv K A B M t p := by
  intro n
  induction n with
  | zero => intro t p ht; omega
  | succ n ih =>
    intro t p ht
    by_cases e : t = n
    · subst e; rfl
    · rw [← ih t p (by omega)]
      show (if t = n then _ else cvs K A B M n t p) = _
      rw [if_neg e]
/-- the tests: nt of them, each made of earlier ones -/
def TV (K A B : Nat → Int32) (nt : Nat) : Prop := nt ≤ 60 ∧ ∀ t, t < nt → StV (K t) (A t) (B t) t
/-- leaves, and tests that are made -/
def mk (k : Int32) : Prop := k = 33 ∨ k = 38 ∨ k = 124
theorem StV_mk {k a b : Int32} {t : Nat} (v : StV k a b t) (m : mk k) : inN a t ∧ (k ≠ 33 → inN b t) := by
  rcases v with v | ⟨-, ⟨x, hx, ex⟩, v2⟩
  · obtain ⟨n1, n2, n3⟩ := leaf_k v
    rcases m with q | q | q
    · exact absurd q n1
    · exact absurd q n2
    · exact absurd q n3
  · exact ⟨⟨x, hx, ex⟩, fun q => v2 q⟩
theorem StV_lf {k a b : Int32} {t : Nat} (v : StV k a b t) (m : ¬ mk k) : leafOK k a := by
  rcases v with v | ⟨k3, -⟩
  · exact v
  · exact absurd k3 m
section
variable {K A B : Nat → Int32} {nt : Nat} {M : Nat → Int32}
theorem cv_eq (T : TV K A B nt) {t : Nat} (ht : t < nt) (p : Bool) : cv K A B M t p = cst M (cv K A B M) (K t) (A t) (B t) p := by
  have v := T.2 t ht
  unfold cv
  show (if t = t then cst M (cvs K A B M t) (K t) (A t) (B t) p else _) = _
  rw [if_pos rfl]
  unfold cst
  by_cases m : mk (K t)
  · obtain ⟨ha, hb⟩ := StV_mk v m
    have n60 := T.1
    have la := cl_lt ha (by omega)
    by_cases k33 : K t = 33
    · rw [if_pos k33, if_pos k33]
      exact cvs_up K A B M t _ _ la
    · have lb := cl_lt (hb k33) (by omega)
      rw [if_neg k33, if_neg k33]
      have kk : K t = 38 ∨ K t = 124 := by rcases m with q | q; exact absurd q k33; exact q
      rw [if_pos kk, if_pos kk, cvs_up K A B M t _ _ la, cvs_up K A B M t _ _ lb]
      rfl
  · unfold mk at m
    simp only [not_or] at m
    have n2 : ¬ (K t = 38 ∨ K t = 124) := fun q => by rcases q with q | q; exact m.2.1 q; exact m.2.2 q
    rw [if_neg m.1, if_neg m.1, if_neg n2, if_neg n2]
theorem cv_not (T : TV K A B nt) {t : Nat} (ht : t < nt) (k : K t = 33) (p : Bool) : cv K A B M t p = cv K A B M (cl (A t)) (!p) := by
  rw [cv_eq T ht]
  unfold cst
  rw [if_pos k]
theorem cv_and (T : TV K A B nt) {t : Nat} (ht : t < nt) (k : K t = 38 ∨ K t = 124) (p : Bool) (e : decide (K t = 38) = p) : cv K A B M t p = (cv K A B M (cl (A t)) p && cv K A B M (cl (B t)) p) := by
  rw [cv_eq T ht]
  unfold cst
  rw [if_neg (fun q => by rcases k with k | k <;> rw [k] at q <;> exact absurd q (by decide)), if_pos k, if_pos e]
theorem cv_or (T : TV K A B nt) {t : Nat} (ht : t < nt) (k : K t = 38 ∨ K t = 124) (p : Bool) (e : decide (K t = 38) ≠ p) : cv K A B M t p = (cv K A B M (cl (A t)) p || cv K A B M (cl (B t)) p) := by
  rw [cv_eq T ht]
  unfold cst
  rw [if_neg (fun q => by rcases k with k | k <;> rw [k] at q <;> exact absurd q (by decide)), if_pos k, if_neg e]
theorem cv_lf (T : TV K A B nt) {t : Nat} (ht : t < nt) (k : ¬ mk (K t)) (p : Bool) : cv K A B M t p = if K t = 107 then true else (fit M (K t) (A t) == p) := by
  rw [cv_eq T ht]
  unfold mk at k
  simp only [not_or] at k
  unfold cst
  rw [if_neg k.1, if_neg (fun q => by rcases q with q | q; exact k.2.1 q; exact k.2.2 q)]
/-- a test can do one of the two -/
theorem cv_some (T : TV K A B nt) : ∀ t, t < nt → cv K A B M t true = true ∨ cv K A B M t false = true := by
  intro t
  induction t using Nat.strongRecOn with
  | ind t ih =>
    intro ht
    have v := T.2 t ht
    have n60 := T.1
    by_cases m : mk (K t)
    · obtain ⟨ha, hb⟩ := StV_mk v m
      have la := cl_lt ha (by omega)
      have ia := ih _ la (by omega)
      by_cases k33 : K t = 33
      · rw [cv_not T ht k33, cv_not T ht k33]
        exact ia.symm
      · have lb := cl_lt (hb k33) (by omega)
        have ib := ih _ lb (by omega)
        have kk : K t = 38 ∨ K t = 124 := by rcases m with q | q; exact absurd q k33; exact q
        by_cases e : decide (K t = 38) = true
        · rw [cv_and T ht kk true e, cv_or T ht kk false (by rw [e]; decide)]
          rcases ia with x | x <;> rcases ib with y | y <;> simp [x, y]
        · rw [cv_or T ht kk true e, cv_and T ht kk false (by simpa using e)]
          rcases ia with x | x <;> rcases ib with y | y <;> simp [x, y]
    · rw [cv_lf T ht m, cv_lf T ht m]
      by_cases k : K t = 107
      · rw [if_pos k]; exact Or.inl rfl
      · rw [if_neg k, if_neg k]
        cases fit M (K t) (A t) <;> simp
/-- a steady test just one of them -/
theorem cv_steady (T : TV K A B nt) {st : Nat → Bool} (hst : ∀ t, t < nt → st t = true → K t ≠ 107 ∧ (mk (K t) → st (cl (A t)) = true) ∧ (K t = 38 ∨ K t = 124 → st (cl (B t)) = true)) : ∀ t, t < nt → st t = true → ∀ p, cv K A B M t (!p) = !cv K A B M t p := by
  intro t
  induction t using Nat.strongRecOn with
  | ind t ih =>
    intro ht hs p
    obtain ⟨s1, s2, s3⟩ := hst t ht hs
    have v := T.2 t ht
    have n60 := T.1
    by_cases m : mk (K t)
    · obtain ⟨ha, hb⟩ := StV_mk v m
      have la := cl_lt ha (by omega)
      have ia := ih _ la (by omega) (s2 m)
      by_cases k33 : K t = 33
      · rw [cv_not T ht k33, cv_not T ht k33]
        exact ia _
      · have lb := cl_lt (hb k33) (by omega)
        have kk : K t = 38 ∨ K t = 124 := by rcases m with q | q; exact absurd q k33; exact q
        have ib := ih _ lb (by omega) (s3 kk)
        by_cases e : decide (K t = 38) = p
        · rw [cv_and T ht kk p e, cv_or T ht kk (!p) (by rw [e]; cases p <;> decide), ia, ib]
          cases cv K A B M (cl (A t)) p <;> cases cv K A B M (cl (B t)) p <;> rfl
        · rw [cv_or T ht kk p e, cv_and T ht kk (!p) (by revert e; cases decide (K t = 38) <;> cases p <;> decide), ia, ib]
          cases cv K A B M (cl (A t)) p <;> cases cv K A B M (cl (B t)) p <;> rfl
    · rw [cv_lf T ht m, cv_lf T ht m, if_neg s1, if_neg s1]
      cases fit M (K t) (A t) <;> cases p <;> rfl
end
/-! the class's tests that are asked for: as, ac of them, rising, with all their parts -/
def AK (K A B : Nat → Int32) (nt : Nat) (as : Nat → Nat) (ac : Nat) : Prop := ac ≤ 60 ∧ (∀ i, i < ac → as i < nt) ∧ (∀ i j, i < j → j < ac → as i < as j) ∧ ∀ i, i < ac → (mk (K (as i)) → ∃ j, j < i ∧ as j = cl (A (as i))) ∧ (K (as i) = 38 ∨ K (as i) = 124 → ∃ j, j < i ∧ as j = cl (B (as i)))
def isA (as : Nat → Nat) (ac t : Nat) : Prop := ∃ i, i < ac ∧ as i = t
/-- sets by their two polarities -/
def pb (x y : Int64) (p : Bool) (t : Nat) : Bool := if p = true then bJ x t else bJ y t
/-- a mail that does all that must be -/
def SOL (K A B : Nat → Int32) (as : Nat → Nat) (ac : Nat) (must : Bool → Nat → Bool) (M : Nat → Int32) : Prop := VM M ∧ ∀ t p, isA as ac t → must p t = true → cv K A B M t p = true
/-- the class's reasoner in the heap -/
def AH (h0 : Hp) (as : Nat → Nat) (ac : Nat) (h : Hp) : Prop := ag (wS [4, 8, 28] []) h0 h ∧ gI h 4 0 3 = nI ac ∧ ∀ i, i < ac → gI h 28 0 i = nI (as i)
theorem AH.ag {h0 h h' : Hp} {as : Nat → Nat} {ac : Nat} (s : AH h0 as ac h) (a : ag (wS [8] [(4, 4), (4, 5), (4, 6), (4, 7), (4, 8), (4, 9), (4, 10)]) h h') : AH h0 as ac h' :=
  ⟨s.1.trans (a.mono (wS_mono (by decide) (by decide))), by rw [a.I 4 0 3]; exact s.2.1, fun i hi => by rw [a.I 28 0 i]; exact s.2.2 i hi⟩
