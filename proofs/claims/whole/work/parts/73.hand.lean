/-! handing down -/
def HD (k a b : Int32) (p : Bool) (may : Nat → Bool → Bool) (q : Bool) (x : Nat) : Bool :=
  if k = 33 then (decide (q = !p) && decide (x = cl a)) else if decide (k = 38) = p then (decide (q = p) && (decide (x = cl a) || decide (x = cl b)))
  else (decide (q = p) && (if may (cl a) p = false then decide (x = cl b) else if may (cl b) p = false then decide (x = cl a) else false))
theorem shB {a : Int32} {n : Nat} (ha : inN a n) (hn : n ≤ 64) (x : Nat) : bJ ((1 : Int64) <<< (a.toInt64 &&& 63)) x = decide (x = cl a) := by
  obtain ⟨j, hj, rfl⟩ := ha
  rw [bJ_sh (by omega), show cl (nI j) = j from nI_clamp (by omega)]
  by_cases e : j = x
  · simp [e]
  · simp [e, show ¬ x = j from fun q => e q.symm]
theorem andB {a : Int32} {n : Nat} {z : Int64} (ha : inN a n) (hn : n ≤ 64) : (z &&& ((1 : Int64) <<< (a.toInt64 &&& 63)) = 0) ↔ bJ z (cl a) = false := by
  obtain ⟨j, hj, rfl⟩ := id ha
  constructor
  · intro e
    have : bJ (z &&& ((1 : Int64) <<< ((nI j).toInt64 &&& 63))) (cl (nI j)) = false := by rw [e, bJ_0]
    rw [bJ_and, shB ha hn] at this
    simpa using this
  · intro e
    refine bJ_ext (fun i hi => ?_)
    rw [bJ_and, shB ha hn, bJ_0]
    by_cases q : i = cl (nI j)
    · rw [q, e]; rfl
    · rw [decide_eq_false q, Bool.and_false]
section
variable {k a b : Int32} {n : Nat} {h : Hp} {Q : Hp → Prop}
theorem hdH_w {y : Int64} (m : mk k) (ha : inN a n) (hb : k ≠ 33 → inN b n ∧ y = (1 : Int64) <<< (b.toInt64 &&& 63)) (hn : n ≤ 64)
    (f : ∀ h', ag (wS [] [(4, 4), (4, 5)]) h h' → (∀ q x, pb (gJ h' 4 0 4) (gJ h' 4 0 5) q x = (pb (gJ h 4 0 4) (gJ h 4 0 5) q x || HD k a b true (pg (gJ h 4 0 6) (gJ h 4 0 7)) q x)) → Q h') : wp_X4_handDownHold k ((1 : Int64) <<< (a.toInt64 &&& 63)) y h Q := by
  unfold wp_X4_handDownHold LET
  simp only [forall_eq]
  unfold HD at f
  by_cases k33 : k = 33
  · rw [if_pos k33]
    refine f _ (by repeat first | exact ag.rfl | refine ag.sI ?_ rfl | refine ag.sJ ?_ rfl | refine ag.sR ?_ rfl | refine ag.sD ?_ rfl) (fun q x => ?_)
    rw [if_pos k33]
    cases q
    · simp only [pb, gI_sI, gI_sJ, gI_sR, gI_sD, gJ_sI, gJ_sJ, gJ_sR, gJ_sD, gR_sI, gR_sJ, gR_sR, gR_sD, gD_sI, gD_sJ, gD_sR, gD_sD, Nat.reduceEqDiff, false_and, and_false, true_and, and_true, and_self, reduceIte, if_true, if_false, ite_true, ite_false, Bool.false_eq_true, bJ_or, shB ha hn]; simp
    · simp [pb, gI_sI, gI_sJ, gI_sR, gI_sD, gJ_sI, gJ_sJ, gJ_sR, gJ_sD, gR_sI, gR_sJ, gR_sR, gR_sD, gD_sI, gD_sJ, gD_sR, gD_sD]
  · rw [if_neg k33]
    obtain ⟨hb2, rfl⟩ := hb k33
    by_cases k38 : k = 38
    · rw [if_pos k38]
      refine f _ (by repeat first | exact ag.rfl | refine ag.sI ?_ rfl | refine ag.sJ ?_ rfl | refine ag.sR ?_ rfl | refine ag.sD ?_ rfl) (fun q x => ?_)
      rw [if_neg k33, if_pos (decide_eq_true k38)]
      cases q
      · simp [pb, gI_sI, gI_sJ, gI_sR, gI_sD, gJ_sI, gJ_sJ, gJ_sR, gJ_sD, gR_sI, gR_sJ, gR_sR, gR_sD, gD_sI, gD_sJ, gD_sR, gD_sD]
      · simp only [pb, gI_sI, gI_sJ, gI_sR, gI_sD, gJ_sI, gJ_sJ, gJ_sR, gJ_sD, gR_sI, gR_sJ, gR_sR, gR_sD, gD_sI, gD_sJ, gD_sR, gD_sD, Nat.reduceEqDiff, false_and, and_false, true_and, and_true, and_self, reduceIte, if_true, if_false, ite_true, ite_false, bJ_or, shB ha hn, shB hb2 hn]; simp
    · rw [if_neg k38]
      simp only [andB ha hn, andB hb2 hn]
      have d38 : ¬ decide (k = 38) = true := by simpa using k38
      by_cases e1 : bJ (gJ h 4 0 6) (cl a) = false
      · rw [if_pos e1]
        refine f _ (by repeat first | exact ag.rfl | refine ag.sI ?_ rfl | refine ag.sJ ?_ rfl | refine ag.sR ?_ rfl | refine ag.sD ?_ rfl) (fun q x => ?_)
        rw [if_neg k33, if_neg d38, if_pos (show pg (gJ h 4 0 6) (gJ h 4 0 7) (cl a) true = false from e1)]
        cases q
        · simp [pb, gI_sI, gI_sJ, gI_sR, gI_sD, gJ_sI, gJ_sJ, gJ_sR, gJ_sD, gR_sI, gR_sJ, gR_sR, gR_sD, gD_sI, gD_sJ, gD_sR, gD_sD]
        · simp only [pb, gI_sI, gI_sJ, gI_sR, gI_sD, gJ_sI, gJ_sJ, gJ_sR, gJ_sD, gR_sI, gR_sJ, gR_sR, gR_sD, gD_sI, gD_sJ, gD_sR, gD_sD, Nat.reduceEqDiff, false_and, and_false, true_and, and_true, and_self, reduceIte, if_true, if_false, ite_true, ite_false, bJ_or, shB hb2 hn]; simp
      · rw [if_neg e1]
        by_cases e2 : bJ (gJ h 4 0 6) (cl b) = false
        · rw [if_pos e2]
          refine f _ (by repeat first | exact ag.rfl | refine ag.sI ?_ rfl | refine ag.sJ ?_ rfl | refine ag.sR ?_ rfl | refine ag.sD ?_ rfl) (fun q x => ?_)
          rw [if_neg k33, if_neg d38, if_neg (show ¬ pg (gJ h 4 0 6) (gJ h 4 0 7) (cl a) true = false from e1), if_pos (show pg (gJ h 4 0 6) (gJ h 4 0 7) (cl b) true = false from e2)]
          cases q
          · simp [pb, gI_sI, gI_sJ, gI_sR, gI_sD, gJ_sI, gJ_sJ, gJ_sR, gJ_sD, gR_sI, gR_sJ, gR_sR, gR_sD, gD_sI, gD_sJ, gD_sR, gD_sD]
          · simp only [pb, gI_sI, gI_sJ, gI_sR, gI_sD, gJ_sI, gJ_sJ, gJ_sR, gJ_sD, gR_sI, gR_sJ, gR_sR, gR_sD, gD_sI, gD_sJ, gD_sR, gD_sD, Nat.reduceEqDiff, false_and, and_false, true_and, and_true, and_self, reduceIte, if_true, if_false, ite_true, ite_false, bJ_or, shB ha hn]; simp
        · rw [if_neg e2]
          refine f h ag.rfl (fun q x => ?_)
          rw [if_neg k33, if_neg d38, if_neg (show ¬ pg (gJ h 4 0 6) (gJ h 4 0 7) (cl a) true = false from e1), if_neg (show ¬ pg (gJ h 4 0 6) (gJ h 4 0 7) (cl b) true = false from e2)]
          simp
theorem hdF_w {y : Int64} (m : mk k) (ha : inN a n) (hb : k ≠ 33 → inN b n ∧ y = (1 : Int64) <<< (b.toInt64 &&& 63)) (hn : n ≤ 64)
    (f : ∀ h', ag (wS [] [(4, 4), (4, 5)]) h h' → (∀ q x, pb (gJ h' 4 0 4) (gJ h' 4 0 5) q x = (pb (gJ h 4 0 4) (gJ h 4 0 5) q x || HD k a b false (pg (gJ h 4 0 6) (gJ h 4 0 7)) q x)) → Q h') : wp_X4_handDownFail k ((1 : Int64) <<< (a.toInt64 &&& 63)) y h Q := by
  unfold wp_X4_handDownFail LET
  simp only [forall_eq]
  unfold HD at f
  by_cases k33 : k = 33
  · rw [if_pos k33]
    refine f _ (by repeat first | exact ag.rfl | refine ag.sI ?_ rfl | refine ag.sJ ?_ rfl | refine ag.sR ?_ rfl | refine ag.sD ?_ rfl) (fun q x => ?_)
    rw [if_pos k33]
    cases q
    · simp [pb, gI_sI, gI_sJ, gI_sR, gI_sD, gJ_sI, gJ_sJ, gJ_sR, gJ_sD, gR_sI, gR_sJ, gR_sR, gR_sD, gD_sI, gD_sJ, gD_sR, gD_sD]
    · simp only [pb, gI_sI, gI_sJ, gI_sR, gI_sD, gJ_sI, gJ_sJ, gJ_sR, gJ_sD, gR_sI, gR_sJ, gR_sR, gR_sD, gD_sI, gD_sJ, gD_sR, gD_sD, Nat.reduceEqDiff, false_and, and_false, true_and, and_true, and_self, reduceIte, if_true, if_false, ite_true, ite_false, bJ_or, shB ha hn]; simp
  · rw [if_neg k33]
    obtain ⟨hb2, rfl⟩ := hb k33
    by_cases k124 : k = 124
    · rw [if_pos k124]
      have d38 : decide (k = 38) = false := by rw [k124]; decide
      refine f _ (by repeat first | exact ag.rfl | refine ag.sI ?_ rfl | refine ag.sJ ?_ rfl | refine ag.sR ?_ rfl | refine ag.sD ?_ rfl) (fun q x => ?_)
      rw [if_neg k33, if_pos d38]
      cases q
      · simp only [pb, gI_sI, gI_sJ, gI_sR, gI_sD, gJ_sI, gJ_sJ, gJ_sR, gJ_sD, gR_sI, gR_sJ, gR_sR, gR_sD, gD_sI, gD_sJ, gD_sR, gD_sD, Nat.reduceEqDiff, false_and, and_false, true_and, and_true, and_self, reduceIte, if_true, if_false, ite_true, ite_false, Bool.false_eq_true, bJ_or, shB ha hn, shB hb2 hn]; simp
      · simp [pb, gI_sI, gI_sJ, gI_sR, gI_sD, gJ_sI, gJ_sJ, gJ_sR, gJ_sD, gR_sI, gR_sJ, gR_sR, gR_sD, gD_sI, gD_sJ, gD_sR, gD_sD]
    · rw [if_neg k124]
      have k38 : k = 38 := by rcases m with q | q | q; exact absurd q k33; exact q; exact absurd q k124
      simp only [andB ha hn, andB hb2 hn]
      have d38 : ¬ decide (k = 38) = false := by rw [k38]; decide
      by_cases e1 : bJ (gJ h 4 0 7) (cl a) = false
      · rw [if_pos e1]
        refine f _ (by repeat first | exact ag.rfl | refine ag.sI ?_ rfl | refine ag.sJ ?_ rfl | refine ag.sR ?_ rfl | refine ag.sD ?_ rfl) (fun q x => ?_)
        rw [if_neg k33, if_neg d38, if_pos (show pg (gJ h 4 0 6) (gJ h 4 0 7) (cl a) false = false from e1)]
        cases q
        · simp only [pb, gI_sI, gI_sJ, gI_sR, gI_sD, gJ_sI, gJ_sJ, gJ_sR, gJ_sD, gR_sI, gR_sJ, gR_sR, gR_sD, gD_sI, gD_sJ, gD_sR, gD_sD, Nat.reduceEqDiff, false_and, and_false, true_and, and_true, and_self, reduceIte, if_true, if_false, ite_true, ite_false, Bool.false_eq_true, bJ_or, shB hb2 hn]; simp
        · simp [pb, gI_sI, gI_sJ, gI_sR, gI_sD, gJ_sI, gJ_sJ, gJ_sR, gJ_sD, gR_sI, gR_sJ, gR_sR, gR_sD, gD_sI, gD_sJ, gD_sR, gD_sD]
      · rw [if_neg e1]
        by_cases e2 : bJ (gJ h 4 0 7) (cl b) = false
        · rw [if_pos e2]
          refine f _ (by repeat first | exact ag.rfl | refine ag.sI ?_ rfl | refine ag.sJ ?_ rfl | refine ag.sR ?_ rfl | refine ag.sD ?_ rfl) (fun q x => ?_)
          rw [if_neg k33, if_neg d38, if_neg (show ¬ pg (gJ h 4 0 6) (gJ h 4 0 7) (cl a) false = false from e1), if_pos (show pg (gJ h 4 0 6) (gJ h 4 0 7) (cl b) false = false from e2)]
          cases q
          · simp only [pb, gI_sI, gI_sJ, gI_sR, gI_sD, gJ_sI, gJ_sJ, gJ_sR, gJ_sD, gR_sI, gR_sJ, gR_sR, gR_sD, gD_sI, gD_sJ, gD_sR, gD_sD, Nat.reduceEqDiff, false_and, and_false, true_and, and_true, and_self, reduceIte, if_true, if_false, ite_true, ite_false, Bool.false_eq_true, bJ_or, shB ha hn]; simp
          · simp [pb, gI_sI, gI_sJ, gI_sR, gI_sD, gJ_sI, gJ_sJ, gJ_sR, gJ_sD, gR_sI, gR_sJ, gR_sR, gR_sD, gD_sI, gD_sJ, gD_sR, gD_sD]
        · rw [if_neg e2]
          refine f h ag.rfl (fun q x => ?_)
          rw [if_neg k33, if_neg d38, if_neg (show ¬ pg (gJ h 4 0 6) (gJ h 4 0 7) (cl a) false = false from e1), if_neg (show ¬ pg (gJ h 4 0 6) (gJ h 4 0 7) (cl b) false = false from e2)]
          simp
end
section
variable {h0 : Hp} {nt ac : Nat} {as : Nat → Nat} {M : Nat → Int32} {may : Nat → Bool → Bool}
/-- what is handed down touches parts alone -/
theorem HD_part {k a b : Int32} {p q : Bool} {x : Nat} (m : mk k) (e : HD k a b p may q x = true) : x = cl a ∨ (k ≠ 33 ∧ x = cl b) := by
  unfold HD at e
  by_cases k33 : k = 33
  · rw [if_pos k33] at e
    simp at e
    exact Or.inl e.2
  · rw [if_neg k33] at e
    split at e
    · simp at e
      rcases e.2 with q | q
      · exact Or.inl q
      · exact Or.inr ⟨k33, q⟩
    · rw [Bool.and_eq_true] at e
      obtain ⟨-, e⟩ := e
      split at e
      · exact Or.inr ⟨k33, by simpa using e⟩
      · split at e
        · exact Or.inl (by simpa using e)
        · cases e
/-- and is right for the mails that are looked for -/
theorem HD_sol (T : TT h0 nt) {t : Nat} (ht : t < nt) (m : mk (gI h0 12 0 t)) {p q : Bool} {x : Nat} (c : cvh h0 M t p = true) (ma : cvh h0 M (cl (gI h0 13 0 t)) p = true → may (cl (gI h0 13 0 t)) p = true) (mb : (gI h0 12 0 t = 38 ∨ gI h0 12 0 t = 124) → cvh h0 M (cl (gI h0 14 0 t)) p = true → may (cl (gI h0 14 0 t)) p = true)
    (e : HD (gI h0 12 0 t) (gI h0 13 0 t) (gI h0 14 0 t) p may q x = true) : cvh h0 M x q = true := by
  obtain ⟨T1, T2⟩ := T
  unfold HD at e
  by_cases k33 : gI h0 12 0 t = 33
  · rw [if_pos k33] at e
    simp at e
    rw [show cvh h0 M t p = _ from cv_not T1 ht k33 p] at c
    rw [e.1, e.2]
    exact c
  · have kk : gI h0 12 0 t = 38 ∨ gI h0 12 0 t = 124 := by rcases m with q | q; exact absurd q k33; exact q
    have mb := mb kk
    rw [if_neg k33] at e
    by_cases al : decide (gI h0 12 0 t = 38) = p
    · rw [if_pos al] at e
      rw [show cvh h0 M t p = _ from cv_and T1 ht kk p al] at c
      simp at e c
      rw [e.1]
      rcases e.2 with z | z
      · rw [z]; exact c.1
      · rw [z]; exact c.2
    · rw [if_neg al] at e
      rw [show cvh h0 M t p = _ from cv_or T1 ht kk p al] at c
      simp at c
      rw [Bool.and_eq_true] at e
      obtain ⟨e1, e⟩ := e
      rw [of_decide_eq_true e1]
      split at e
      · rename_i z
        have e : x = cl (gI h0 14 0 t) := by simpa using e
        rw [e]
        rcases c with c | c
        · rw [ma c] at z; cases z
        · exact c
      · split at e
        · rename_i z
          have e : x = cl (gI h0 13 0 t) := by simpa using e
          rw [e]
          rcases c with c | c
          · exact c
          · rw [mb c] at z; cases z
        · cases e
/-- closed under what is handed down, but for the choices -/
def CLO (h0 : Hp) (H F : Int64) (t : Nat) : Prop := ∀ p, pb H F p t = true → (gI h0 12 0 t = 33 → pb H F (!p) (cl (gI h0 13 0 t)) = true) ∧ ((gI h0 12 0 t = 38 ∨ gI h0 12 0 t = 124) → decide (gI h0 12 0 t = 38) = p → pb H F p (cl (gI h0 13 0 t)) = true ∧ pb H F p (cl (gI h0 14 0 t)) = true)
theorem hand_w {h : Hp} {Q : Int32 → Hp → Prop} (T : TT h0 nt) (K : AK (gI h0 12 0) (gI h0 13 0) (gI h0 14 0) nt as ac) (a : AH h0 as ac h)
    (f : ∀ r h', ag (wS [] [(4, 4), (4, 5)]) h h' → (∀ q x, pb (gJ h 4 0 4) (gJ h 4 0 5) q x = true → pb (gJ h' 4 0 4) (gJ h' 4 0 5) q x = true) → (∀ q x, pb (gJ h' 4 0 4) (gJ h' 4 0 5) q x = true → pb (gJ h 4 0 4) (gJ h 4 0 5) q x = true ∨ isA as ac x)
      → (∀ i, i < ac → CLO h0 (gJ h' 4 0 4) (gJ h' 4 0 5) (as i)) → (∀ M, (∀ i p, i < ac → cvh h0 M (as i) p = true → pb (gJ h 4 0 6) (gJ h 4 0 7) p (as i) = true) → (∀ q i, i < ac → pb (gJ h 4 0 4) (gJ h 4 0 5) q (as i) = true → cvh h0 M (as i) q = true) → ∀ q i, i < ac → pb (gJ h' 4 0 4) (gJ h' 4 0 5) q (as i) = true → cvh h0 M (as i) q = true)
      → (r = 0 ∧ gJ h' 4 0 4 = gJ h 4 0 4 ∧ gJ h' 4 0 5 = gJ h 4 0 5 ∨ r = 1 ∧ ¬ (gJ h' 4 0 4 = gJ h 4 0 4 ∧ gJ h' 4 0 5 = gJ h 4 0 5)) → Q r h') : wp_X4_handDown h Q := by
  have K' := K
  obtain ⟨k60, k1, k2, k3⟩ := K'
  have n60 := T.1.1
  unfold wp_X4_handDown LET wp_X4_handDown_b18
  simp only [forall_eq]
  rw [a.2.1]
  refine LFP2.by (I := fun y h1 => ∃ n, n ≤ ac ∧ y = nI n - 1 ∧ ag (wS [] [(4, 4), (4, 5)]) h h1 ∧ (∀ q x, pb (gJ h 4 0 4) (gJ h 4 0 5) q x = true → pb (gJ h1 4 0 4) (gJ h1 4 0 5) q x = true) ∧ (∀ q x, pb (gJ h1 4 0 4) (gJ h1 4 0 5) q x = true → pb (gJ h 4 0 4) (gJ h 4 0 5) q x = true ∨ isA as ac x)
      ∧ (∀ i, n ≤ i → i < ac → CLO h0 (gJ h1 4 0 4) (gJ h1 4 0 5) (as i)) ∧ (∀ M, (∀ i p, i < ac → cvh h0 M (as i) p = true → pb (gJ h 4 0 6) (gJ h 4 0 7) p (as i) = true) → (∀ q i, i < ac → pb (gJ h 4 0 4) (gJ h 4 0 5) q (as i) = true → cvh h0 M (as i) q = true) → ∀ q i, i < ac → pb (gJ h1 4 0 4) (gJ h1 4 0 5) q (as i) = true → cvh h0 M (as i) q = true)) (μ := fun y _ => (y + 1).toNatClampNeg)
    ⟨ac, Nat.le_refl _, rfl, ag.rfl, fun _ _ e => e, fun _ _ e => Or.inl e, fun i h1 h2 => by omega, fun M _ s => s⟩ ?_
  rintro y h1 ⟨n, hn, rfl, A1, mono, only, clo, sol⟩ P hP
  unfold wp_X4_handDown_b18F wp_X4_handDown_b92 wp_X4_handDown_b116 wp_X4_handDown_b138 LET
  simp only [forall_eq]
  by_cases n0 : n = 0
  · subst n0
    rw [if_pos (by decide)]
    by_cases e1 : gJ h1 4 0 4 = gJ h 4 0 4
    · rw [if_pos e1]
      by_cases e2 : gJ h1 4 0 5 = gJ h 4 0 5
      · rw [if_pos e2]
        exact f 0 h1 A1 mono only (fun i hi => clo i (by omega) hi) sol (Or.inl ⟨rfl, e1, e2⟩)
      · rw [if_neg e2]
        exact f 1 h1 A1 mono only (fun i hi => clo i (by omega) hi) sol (Or.inr ⟨rfl, fun q => e2 q.2⟩)
    · rw [if_neg e1]
      exact f 1 h1 A1 mono only (fun i hi => clo i (by omega) hi) sol (Or.inr ⟨rfl, fun q => e1 q.1⟩)
  obtain ⟨i, rfl⟩ : ∃ i, n = i + 1 := ⟨n - 1, by omega⟩
  rw [nI_sub1 (by omega), show i + 1 - 1 = i by omega, if_neg (nI_pos (by omega)), nI_clamp (show i < 2 ^ 31 by omega)]
  have ht := k1 i (by omega)
  have vv := T.1.2 (as i) ht
  have ei : gI h1 28 0 i = nI (as i) := by rw [A1.I 28 0 i]; exact a.2.2 i (by omega)
  refine ⟨vp_in_nI (by omega) (by decide), ?_⟩
  rw [ei, nI_clamp (show as i < 2 ^ 31 by omega), A1.I 12 0 (as i), A1.I 13 0 (as i), A1.I 14 0 (as i), a.1.I 12 0 (as i), a.1.I 13 0 (as i), a.1.I 14 0 (as i)]
  refine ⟨vp_in_nI (by omega) (by decide), ?_⟩
  simp only [pt_e]
  have hin : inN (nI (as i)) 64 := ⟨as i, by omega, rfl⟩
  have ct : cl (nI (as i)) = as i := nI_clamp (by omega)
  have go : ∀ h2, ag (wS [] [(4, 4), (4, 5)]) h1 h2 → (∀ q x, pb (gJ h1 4 0 4) (gJ h1 4 0 5) q x = true → pb (gJ h2 4 0 4) (gJ h2 4 0 5) q x = true) → (∀ q x, pb (gJ h2 4 0 4) (gJ h2 4 0 5) q x = true → pb (gJ h1 4 0 4) (gJ h1 4 0 5) q x = true ∨ (isA as ac x ∧ x < as i)) → CLO h0 (gJ h2 4 0 4) (gJ h2 4 0 5) (as i)
      → (∀ M, (∀ i p, i < ac → cvh h0 M (as i) p = true → pb (gJ h 4 0 6) (gJ h 4 0 7) p (as i) = true) → (∀ q i, i < ac → pb (gJ h1 4 0 4) (gJ h1 4 0 5) q (as i) = true → cvh h0 M (as i) q = true) → ∀ q i, i < ac → pb (gJ h2 4 0 4) (gJ h2 4 0 5) q (as i) = true → cvh h0 M (as i) q = true) → P (nI i + (-1)) h2 := by
    intro h2 A2 m2 o2 c2 s2
    rw [show nI i + (-1) = nI i - 1 from (Int32.sub_eq_add_neg _ _).symm]
    refine hP _ _ ⟨i, by omega, rfl, A1.trans A2, fun q x e => m2 q x (mono q x e), fun q x e => ?_, fun j hj1 hj2 => ?_, fun M z1 z2 => s2 M z1 (sol M z1 z2)⟩ (by rw [Int32.sub_add_cancel, Int32.sub_add_cancel, nI_clamp (by omega), nI_clamp (by omega)]; omega)
    · rcases o2 q x e with e | e
      · exact only q x e
      · exact Or.inr e.1
    · by_cases e : j = i
      · subst e; exact c2
      · have old := clo j (by omega) hj2
        intro p e2
        have e1 : pb (gJ h1 4 0 4) (gJ h1 4 0 5) p (as j) = true := by
          rcases o2 p _ e2 with q | q
          · exact q
          · have := k2 i j (by omega) hj2
            omega
        obtain ⟨d1, d2⟩ := old p e1
        exact ⟨fun k => m2 _ _ (d1 k), fun k al => ⟨m2 _ _ (d2 k al).1, m2 _ _ (d2 k al).2⟩⟩
  by_cases m : mk (gI h0 12 0 (as i))
  case neg =>
    have t0 : tP (gI h0 12 0 (as i)) = 0 := by
      unfold mk at m
      simp only [not_or] at m
      unfold tP
      rw [if_neg (fun q => by rcases q with q | q; exact m.2.1 q; exact m.2.2 q), if_neg m.1]
    rw [t0, if_pos (by decide)]
    refine go h1 ag.rfl (fun _ _ e => e) (fun _ _ e => Or.inl e) (fun p e => ⟨fun k => absurd (Or.inl k) m, fun k => absurd (Or.inr k) m⟩) (fun M _ s => s)
  obtain ⟨ha, hb⟩ := StV_mk vv m
  have ha' : inN (gI h0 13 0 (as i)) 64 := by obtain ⟨j, hj, e⟩ := ha; exact ⟨j, by omega, e⟩
  have la := cl_lt ha (by omega)
  obtain ⟨ja, hja, eja⟩ := (k3 i (by omega)).1 m
  have t1 : ¬ nI (tP (gI h0 12 0 (as i))) ≤ 0 := by
    rcases m with q | q | q <;> rw [q] <;> decide
  rw [if_neg t1]
  -- hold, then fail
  have main : ∀ y : Int64, (gI h0 12 0 (as i) ≠ 33 → inN (gI h0 14 0 (as i)) 64 ∧ y = (1 : Int64) <<< ((gI h0 14 0 (as i)).toInt64 &&& 63)) → wp_X10_hasBit_ (gJ h1 4 0 4) (nI (as i)) h1 (fun r1 => if r1 = 0 then wp_X10_hasBit_ (gJ h1 4 0 5) (nI (as i)) h1 (fun r1 => if r1 = 0 then P (nI i + (-1)) h1 else wp_X4_handDownFail (gI h0 12 0 (as i)) ((1 : Int64) <<< ((gI h0 13 0 (as i)).toInt64 &&& 63)) y h1 (fun h3 => P (nI i + (-1)) h3))
      else wp_X4_handDownHold (gI h0 12 0 (as i)) ((1 : Int64) <<< ((gI h0 13 0 (as i)).toInt64 &&& 63)) y h1 (fun h3 => wp_X10_hasBit_ (gJ h3 4 0 5) (nI (as i)) h3 (fun r1 => if r1 = 0 then P (nI i + (-1)) h3 else wp_X4_handDownFail (gI h0 12 0 (as i)) ((1 : Int64) <<< ((gI h0 13 0 (as i)).toInt64 &&& 63)) y h3 (fun h3 => P (nI i + (-1)) h3)))) := by
    intro y hy
    have partx : ∀ {p q x may}, HD (gI h0 12 0 (as i)) (gI h0 13 0 (as i)) (gI h0 14 0 (as i)) p may q x = true → isA as ac x ∧ x < as i := fun e => by
      rcases HD_part m e with q | ⟨k33, q⟩
      · exact ⟨⟨ja, by omega, by rw [eja, q]⟩, by rw [q]; exact la⟩
      · have kk : gI h0 12 0 (as i) = 38 ∨ gI h0 12 0 (as i) = 124 := by rcases m with z | z; exact absurd z k33; exact z
        obtain ⟨jb, hjb, ejb⟩ := (k3 i (by omega)).2 kk
        have := k2 jb i hjb (by omega)
        exact ⟨⟨jb, by omega, by rw [ejb, q]⟩, by rw [q, ← ejb]; exact this⟩
    -- one polarity's part of being closed
    have cl1 : ∀ p (H F H' F' : Int64) may, (∀ q x, pb H' F' q x = (pb H F q x || HD (gI h0 12 0 (as i)) (gI h0 13 0 (as i)) (gI h0 14 0 (as i)) p may q x)) → (gI h0 12 0 (as i) = 33 → pb H' F' (!p) (cl (gI h0 13 0 (as i))) = true) ∧ ((gI h0 12 0 (as i) = 38 ∨ gI h0 12 0 (as i) = 124) → decide (gI h0 12 0 (as i) = 38) = p → pb H' F' p (cl (gI h0 13 0 (as i))) = true ∧ pb H' F' p (cl (gI h0 14 0 (as i))) = true) := fun p H F H' F' may e => by
      refine ⟨fun k => ?_, fun k al => ?_⟩
      · rw [e]
        unfold HD
        rw [if_pos k]
        simp
      · have k33 : ¬ gI h0 12 0 (as i) = 33 := fun q => by rcases k with k | k <;> rw [k] at q <;> exact absurd q (by decide)
        rw [e, e]
        unfold HD
        rw [if_neg k33, if_neg k33, if_pos al, if_pos al]
        simp
    have solx : ∀ p (h2 : Hp), gJ h2 4 0 6 = gJ h 4 0 6 → gJ h2 4 0 7 = gJ h 4 0 7 → ∀ M, (∀ i p, i < ac → cvh h0 M (as i) p = true → pb (gJ h 4 0 6) (gJ h 4 0 7) p (as i) = true) → cvh h0 M (as i) p = true → ∀ q x, HD (gI h0 12 0 (as i)) (gI h0 13 0 (as i)) (gI h0 14 0 (as i)) p (pg (gJ h2 4 0 6) (gJ h2 4 0 7)) q x = true → cvh h0 M x q = true := fun p h2 e6 e7 M z1 z2 q x e => by
      rw [e6, e7] at e
      refine HD_sol T ht m z2 (fun z => ?_) (fun kk z => ?_) e
      · rw [← eja] at z ⊢
        exact z1 ja p (by omega) z
      · obtain ⟨jb, hjb, ejb⟩ := (k3 i (by omega)).2 kk
        rw [← ejb] at z ⊢
        exact z1 jb p (by omega) z
    have e6 : gJ h1 4 0 6 = gJ h 4 0 6 := A1.J 4 0 6
    have e7 : gJ h1 4 0 7 = gJ h 4 0 7 := A1.J 4 0 7
    -- the second half
    have half : ∀ h2, ag (wS [] [(4, 4), (4, 5)]) h1 h2 → (∀ q x, pb (gJ h1 4 0 4) (gJ h1 4 0 5) q x = true → pb (gJ h2 4 0 4) (gJ h2 4 0 5) q x = true) → (∀ q x, pb (gJ h2 4 0 4) (gJ h2 4 0 5) q x = true → pb (gJ h1 4 0 4) (gJ h1 4 0 5) q x = true ∨ (isA as ac x ∧ x < as i))
        → (pb (gJ h2 4 0 4) (gJ h2 4 0 5) true (as i) = true → (gI h0 12 0 (as i) = 33 → pb (gJ h2 4 0 4) (gJ h2 4 0 5) (!true) (cl (gI h0 13 0 (as i))) = true) ∧ ((gI h0 12 0 (as i) = 38 ∨ gI h0 12 0 (as i) = 124) → decide (gI h0 12 0 (as i) = 38) = true → pb (gJ h2 4 0 4) (gJ h2 4 0 5) true (cl (gI h0 13 0 (as i))) = true ∧ pb (gJ h2 4 0 4) (gJ h2 4 0 5) true (cl (gI h0 14 0 (as i))) = true))
        → (∀ M, (∀ i p, i < ac → cvh h0 M (as i) p = true → pb (gJ h 4 0 6) (gJ h 4 0 7) p (as i) = true) → (∀ q i, i < ac → pb (gJ h1 4 0 4) (gJ h1 4 0 5) q (as i) = true → cvh h0 M (as i) q = true) → ∀ q i, i < ac → pb (gJ h2 4 0 4) (gJ h2 4 0 5) q (as i) = true → cvh h0 M (as i) q = true)
        → wp_X10_hasBit_ (gJ h2 4 0 5) (nI (as i)) h2 (fun r1 => if r1 = 0 then P (nI i + (-1)) h2 else wp_X4_handDownFail (gI h0 12 0 (as i)) ((1 : Int64) <<< ((gI h0 13 0 (as i)).toInt64 &&& 63)) y h2 (fun h3 => P (nI i + (-1)) h3)) := by
      intro h2 A2 m2 o2 c2 s2
      rw [hbJ_w hin (by decide), ct]
      cases b : bJ (gJ h2 4 0 5) (as i)
      · rw [if_pos (show bit01 false = 0 from rfl)]
        refine go h2 A2 m2 o2 (fun p e => ?_) s2
        cases p
        · have e : bJ (gJ h2 4 0 5) (as i) = true := e
          rw [b] at e; cases e
        · exact c2 e
      · rw [if_neg (show ¬ bit01 true = 0 by decide)]
        refine hdF_w m ha' hy (by decide) (fun h3 A3 E3 => ?_)
        have m3 : ∀ q x, pb (gJ h2 4 0 4) (gJ h2 4 0 5) q x = true → pb (gJ h3 4 0 4) (gJ h3 4 0 5) q x = true := fun q x e => by rw [E3, e]; rfl
        refine go h3 (A2.trans A3) (fun q x e => m3 q x (m2 q x e)) (fun q x e => ?_) (fun p e => ?_) (fun M z1 z2 q j hj e => ?_)
        · rw [E3] at e
          simp only [Bool.or_eq_true] at e
          rcases e with e | e
          · exact o2 q x e
          · exact Or.inr (partx e)
        · cases p
          · exact cl1 false _ _ _ _ _ E3
          · have e2 : pb (gJ h2 4 0 4) (gJ h2 4 0 5) true (as i) = true := by
              rw [E3] at e
              simp only [Bool.or_eq_true] at e
              rcases e with e | e
              · exact e
              · have := (partx e).2; omega
            obtain ⟨d1, d2⟩ := c2 e2
            exact ⟨fun k => m3 _ _ (d1 k), fun k al => ⟨m3 _ _ (d2 k al).1, m3 _ _ (d2 k al).2⟩⟩
        · rw [E3] at e
          simp only [Bool.or_eq_true] at e
          rcases e with e | e
          · exact s2 M z1 z2 q j hj e
          · exact solx false h2 (by rw [A2.J 4 0 6, e6]) (by rw [A2.J 4 0 7, e7]) M z1 (s2 M z1 z2 false i (by omega) b) q _ e
    rw [hbJ_w hin (by decide), ct]
    cases b : bJ (gJ h1 4 0 4) (as i)
    · rw [if_pos (show bit01 false = 0 from rfl)]
      refine half h1 ag.rfl (fun _ _ e => e) (fun _ _ e => Or.inl e) (fun e => ?_) (fun M _ s => s)
      have e : bJ (gJ h1 4 0 4) (as i) = true := e
      rw [b] at e; cases e
    · rw [if_neg (show ¬ bit01 true = 0 by decide)]
      refine hdH_w m ha' hy (by decide) (fun h3 A3 E3 => ?_)
      refine half h3 A3 (fun q x e => by rw [E3, e]; rfl) (fun q x e => ?_) (fun _ => cl1 true _ _ _ _ _ E3) (fun M z1 z2 q j hj e => ?_)
      · rw [E3] at e
        simp only [Bool.or_eq_true] at e
        rcases e with e | e
        · exact Or.inl e
        · exact Or.inr (partx e)
      · rw [E3] at e
        simp only [Bool.or_eq_true] at e
        rcases e with e | e
        · exact z2 q j hj e
        · exact solx true h1 e6 e7 M z1 (z2 true i (by omega) b) q _ e
  by_cases k33 : gI h0 12 0 (as i) = 33
  · rw [if_pos (by rw [k33]; decide)]
    exact main _ (fun q => absurd k33 q)
  · rw [if_neg (by rcases m with q | q | q; exact absurd q k33; rw [q]; decide; rw [q]; decide)]
    obtain ⟨j, hj, e⟩ := hb k33
    exact main _ (fun _ => ⟨⟨j, by omega, e⟩, rfl⟩)
end
