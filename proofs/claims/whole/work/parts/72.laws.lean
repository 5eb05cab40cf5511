/-! what weighing says is right -/
theorem fit97 {M : Nat → Int32} {a : Int32} : fit M 97 a = true := by unfold fit; simp
/-- the tests of the class, as the reasoner sees them -/
def TT (h0 : Hp) (nt : Nat) : Prop := TV (gI h0 12 0) (gI h0 13 0) (gI h0 14 0) nt ∧ ∀ t, t < nt → bJ (gJ h0 9 0 3) t = true → gI h0 12 0 t ≠ 107 ∧ (mk (gI h0 12 0 t) → bJ (gJ h0 9 0 3) (cl (gI h0 13 0 t)) = true) ∧ (gI h0 12 0 t = 38 ∨ gI h0 12 0 t = 124 → bJ (gJ h0 9 0 3) (cl (gI h0 14 0 t)) = true)
theorem STest.tt {nt : Nat} {h : Hp} (s : STest nt h) : TT h nt := by
  refine ⟨⟨s.1, fun t ht => (s.2.2.2.1 t ht).2.2.2.1⟩, fun t ht e => ?_⟩
  rw [(s.2.2.2.1 t ht).2.2.2.2] at e
  unfold isSt at e
  simp only [Bool.and_eq_true, Bool.or_eq_true, decide_eq_true_eq] at e
  obtain ⟨⟨e1, e2⟩, e3⟩ := e
  refine ⟨e1, fun m => ?_, fun m => ?_⟩
  · rcases e2 with q | q
    · unfold tP at q
      rcases m with m | m | m <;> rw [m] at q <;> simp at q
    · exact q
  · rcases e3 with q | q
    · unfold tP at q
      rcases m with m | m <;> rw [m] at q <;> simp at q
    · exact q
section
variable {h0 : Hp} {nt ac : Nat} {as : Nat → Nat} {H F mH mF sH sF : Int64} {c M : Nat → Int32}
abbrev cvh (h0 : Hp) (M : Nat → Int32) : Nat → Bool → Bool := cv (gI h0 12 0) (gI h0 13 0) (gI h0 14 0) M
theorem may_sol (T : TT h0 nt) (K : AK (gI h0 12 0) (gI h0 13 0) (gI h0 14 0) nt as ac) (W : WGH h0 as ac H F c mH mF sH sF) (S : SSh c) (E : SEn c) (v : VM M) (I : InSk c M) (so : ∀ i p, i < ac → pb H F p (as i) = true → cvh h0 M (as i) p = true) :
    ∀ i, i < ac → ∀ p, cvh h0 M (as i) p = true → pb mH mF p (as i) = true := by
  obtain ⟨T1, T2⟩ := T
  obtain ⟨k60, k1, k2, k3⟩ := K
  intro i
  induction i using Nat.strongRecOn with
  | ind i ih =>
    intro hi p cp
    rw [W.1 i p hi]
    have vv := T1.2 (as i) (k1 i hi)
    have st : (!(bJ (gJ h0 9 0 3) (as i) && pb H F (!p) (as i))) = true := by
      cases a : bJ (gJ h0 9 0 3) (as i)
      · rfl
      · cases b : pb H F (!p) (as i)
        · rfl
        · have := so i (!p) hi b
          rw [show cvh h0 M (as i) (!p) = !cvh h0 M (as i) p from cv_steady T1 T2 (as i) (k1 i hi) a p, cp] at this
          cases this
    rw [st, Bool.and_true]
    unfold cw
    by_cases m : mk (gI h0 12 0 (as i))
    · obtain ⟨j, hj, ej⟩ := (k3 i hi).1 m
      by_cases k33 : gI h0 12 0 (as i) = 33
      · rw [if_pos k33]
        have cp : cvh h0 M (as i) p = true := cp
        rw [show cvh h0 M (as i) p = _ from cv_not T1 (k1 i hi) k33 p, ← ej] at cp
        rw [← ej]
        exact ih j hj (by omega) _ cp
      · have kk : gI h0 12 0 (as i) = 38 ∨ gI h0 12 0 (as i) = 124 := by rcases m with q | q; exact absurd q k33; exact q
        obtain ⟨j', hj', ej'⟩ := (k3 i hi).2 kk
        rw [if_neg k33, if_pos kk]
        by_cases e : decide (gI h0 12 0 (as i) = 38) = p
        · rw [if_pos e]
          rw [show cvh h0 M (as i) p = _ from cv_and T1 (k1 i hi) kk p e, ← ej, ← ej'] at cp
          simp at cp
          rw [← ej, ← ej', show pg mH mF (as j) p = true from ih j hj (by omega) p cp.1, show pg mH mF (as j') p = true from ih j' hj' (by omega) p cp.2]
          rfl
        · rw [if_neg e]
          rw [show cvh h0 M (as i) p = _ from cv_or T1 (k1 i hi) kk p e, ← ej, ← ej'] at cp
          simp at cp
          rw [← ej, ← ej']
          rcases cp with q | q
          · rw [show pg mH mF (as j) p = true from ih j hj (by omega) p q]; rfl
          · rw [show pg mH mF (as j') p = true from ih j' hj' (by omega) p q]; simp
    · rw [show cvh h0 M (as i) p = _ from cv_lf T1 (k1 i hi) m p] at cp
      have o := StV_lf vv m
      unfold mk at m
      simp only [not_or] at m
      rw [if_neg m.1, if_neg (fun q => by rcases q with q | q; exact m.2.1 q; exact m.2.2 q)]
      unfold lvM
      by_cases k7 : gI h0 12 0 (as i) = 107
      · rw [if_pos k7]
      · rw [if_neg k7] at cp ⊢
        have cp : fit M (gI h0 12 0 (as i)) (gI h0 13 0 (as i)) = p := by simpa using cp
        by_cases k97 : gI h0 12 0 (as i) = 97
        · rw [k97, fit97] at cp
          rw [k97, ← cp]
          unfold skM
          simp
        · exact may_ok v S E I o (nmk_skK o k7 k97) cp
theorem sure_ok (T : TT h0 nt) (K : AK (gI h0 12 0) (gI h0 13 0) (gI h0 14 0) nt as ac) (W : WGH h0 as ac H F c mH mF sH sF) (S : SSh c) (E : SEn c) (v : VM M) (I : InSk c M) :
    ∀ i, i < ac → ∀ p, pb sH sF p (as i) = true → cvh h0 M (as i) p = true := by
  obtain ⟨T1, T2⟩ := T
  obtain ⟨k60, k1, k2, k3⟩ := K
  intro i
  induction i using Nat.strongRecOn with
  | ind i ih =>
    intro hi p cp
    rw [W.2.1 i p hi] at cp
    have vv := T1.2 (as i) (k1 i hi)
    unfold cw at cp
    by_cases m : mk (gI h0 12 0 (as i))
    · obtain ⟨j, hj, ej⟩ := (k3 i hi).1 m
      by_cases k33 : gI h0 12 0 (as i) = 33
      · rw [if_pos k33, ← ej] at cp
        rw [show cvh h0 M (as i) p = _ from cv_not T1 (k1 i hi) k33 p, ← ej]
        exact ih j hj (by omega) _ cp
      · have kk : gI h0 12 0 (as i) = 38 ∨ gI h0 12 0 (as i) = 124 := by rcases m with q | q; exact absurd q k33; exact q
        obtain ⟨j', hj', ej'⟩ := (k3 i hi).2 kk
        rw [if_neg k33, if_pos kk, ← ej, ← ej'] at cp
        by_cases e : decide (gI h0 12 0 (as i) = 38) = p
        · rw [if_pos e] at cp
          simp at cp
          rw [show cvh h0 M (as i) p = _ from cv_and T1 (k1 i hi) kk p e, ← ej, ← ej', show cv _ _ _ M (as j) p = true from ih j hj (by omega) p cp.1, show cv _ _ _ M (as j') p = true from ih j' hj' (by omega) p cp.2]
          rfl
        · rw [if_neg e] at cp
          simp at cp
          rw [show cvh h0 M (as i) p = _ from cv_or T1 (k1 i hi) kk p e, ← ej, ← ej']
          rcases cp with q | q
          · rw [show cv _ _ _ M (as j) p = true from ih j hj (by omega) p q]; rfl
          · rw [show cv _ _ _ M (as j') p = true from ih j' hj' (by omega) p q]; simp
    · rw [show cvh h0 M (as i) p = _ from cv_lf T1 (k1 i hi) m p]
      have o := StV_lf vv m
      unfold mk at m
      simp only [not_or] at m
      rw [if_neg m.1, if_neg (fun q => by rcases q with q | q; exact m.2.1 q; exact m.2.2 q)] at cp
      unfold lvS at cp
      by_cases k7 : gI h0 12 0 (as i) = 107
      · rw [if_pos k7]
      · rw [if_neg k7] at cp ⊢
        by_cases k97 : gI h0 12 0 (as i) = 97
        · rw [k97] at cp ⊢
          rw [fit97]
          cases p
          · unfold skM at cp; simp at cp
          · rfl
        · have cp : skM c (gI h0 12 0 (as i)) (gI h0 13 0 (as i)) (!p) = false := by simpa using cp
          cases b : (fit M (gI h0 12 0 (as i)) (gI h0 13 0 (as i)) == p)
          · have : fit M (gI h0 12 0 (as i)) (gI h0 13 0 (as i)) = !p := by
              revert b
              cases fit M (gI h0 12 0 (as i)) (gI h0 13 0 (as i)) <;> cases p <;> decide
            rw [may_ok v S E I o (nmk_skK o k7 k97) this] at cp
            cases cp
          · rfl
/-- a test without parts that would help is not settled -/
theorem leaf_free (T : TT h0 nt) (K : AK (gI h0 12 0) (gI h0 13 0) (gI h0 14 0) nt as ac) (W : WGH h0 as ac H F c mH mF sH sF) (S : SSh c) (E : SEn c) (I : ∃ M, InSk c M)
    (D : ∀ i p, i < ac → pb H F p (as i) = true → skK (gI h0 12 0 (as i)) → SkF c (gI h0 12 0 (as i)) (gI h0 13 0 (as i)) p) {i : Nat} (hi : i < ac) (m : ¬ mk (gI h0 12 0 (as i))) {p : Bool} (a : pb mH mF p (as i) = true) (b : pb sH sF p (as i) = false) : ∀ q, pb H F q (as i) = false := by
  obtain ⟨T1, T2⟩ := T
  obtain ⟨k60, k1, k2, k3⟩ := K
  have o := StV_lf (T1.2 (as i) (k1 i hi)) m
  rw [W.1 i p hi] at a
  rw [W.2.1 i p hi] at b
  unfold mk at m
  simp only [not_or] at m
  have n2 : ¬ (gI h0 12 0 (as i) = 38 ∨ gI h0 12 0 (as i) = 124) := fun q => by rcases q with q | q; exact m.2.1 q; exact m.2.2 q
  unfold cw lvS at b
  unfold cw lvM at a
  rw [if_neg m.1, if_neg n2] at a b
  by_cases k7 : gI h0 12 0 (as i) = 107
  · rw [if_pos k7] at b; cases b
  rw [if_neg k7] at a b
  by_cases k97 : gI h0 12 0 (as i) = 97
  · rw [k97] at a b
    unfold skM at a b
    cases p <;> simp at a b
  have hk := nmk_skK o k7 k97
  have a : skM c (gI h0 12 0 (as i)) (gI h0 13 0 (as i)) p = true := by
    simp at a
    exact a.1
  have b : skM c (gI h0 12 0 (as i)) (gI h0 13 0 (as i)) (!p) = true := by simpa using b
  intro q
  cases z : pb H F q (as i)
  · rfl
  · have := not_ok S E I o hk (D i q hi z hk)
    cases p <;> cases q <;> simp_all
end
