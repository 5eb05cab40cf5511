/-! the class draws and weighs -/
theorem skK_nmk {k : Int32} (h : skK k) : ¬ mk k := by
  unfold mk
  rcases h with rfl | rfl | rfl | rfl | rfl | rfl | rfl <;> decide
theorem nmk_skK {k a : Int32} (o : leafOK k a) (h1 : k ≠ 107) (h2 : k ≠ 97) : skK k := by
  unfold skK
  rcases o with rfl | ⟨rfl | rfl, o⟩ | ⟨rfl | rfl, o⟩ | ⟨rfl, o⟩ | ⟨rfl, o⟩ | ⟨rfl, o⟩ | ⟨rfl, o⟩
  · exact absurd rfl h2
  · simp
  · simp
  · simp
  · simp
  · simp
  · simp
  · simp
  · exact absurd rfl h1
section
variable {h0 : Hp} {nt ac : Nat} {as : Nat → Nat}
theorem draw_w {h : Hp} {Q : Hp → Prop} (T : TV (gI h0 12 0) (gI h0 13 0) (gI h0 14 0) nt) (K : AK (gI h0 12 0) (gI h0 13 0) (gI h0 14 0) nt as ac) (a : AH h0 as ac h)
    (f : ∀ h', ag (wS [8] []) h h' → SSh (gI h' 8 0) → (∀ i p, i < ac → pb (gJ h 4 0 4) (gJ h 4 0 5) p (as i) = true → skK (gI h0 12 0 (as i)) → SkF (gI h' 8 0) (gI h0 12 0 (as i)) (gI h0 13 0 (as i)) p) → (∀ M, VM M → (∀ i p, i < ac → pb (gJ h 4 0 4) (gJ h 4 0 5) p (as i) = true → skK (gI h0 12 0 (as i)) → fit M (gI h0 12 0 (as i)) (gI h0 13 0 (as i)) = p) → InSk (gI h' 8 0) M) → Q h') : wp_X4_draw h Q := by
  unfold wp_X4_draw wp_X4_draw_b9
  refine bl_w (fun h1 A1 S1 I1 => ?_)
  refine LFP2.by (I := fun y h2 => ∃ n, n ≤ ac ∧ y = nI n ∧ ag (wS [8] []) h h2 ∧ SSh (gI h2 8 0) ∧ (∀ i p, i < n → pb (gJ h 4 0 4) (gJ h 4 0 5) p (as i) = true → skK (gI h0 12 0 (as i)) → SkF (gI h2 8 0) (gI h0 12 0 (as i)) (gI h0 13 0 (as i)) p) ∧ (∀ M, VM M → (∀ i p, i < n → pb (gJ h 4 0 4) (gJ h 4 0 5) p (as i) = true → skK (gI h0 12 0 (as i)) → fit M (gI h0 12 0 (as i)) (gI h0 13 0 (as i)) = p) → InSk (gI h2 8 0) M)) (μ := fun y _ => 60 - y.toNatClampNeg) ⟨0, by omega, rfl, A1, S1, fun i p hi => by omega, fun M v _ => I1 M v⟩ ?_
  rintro y h2 ⟨n, hn, rfl, A2, S2, C2, I2⟩ P hP
  obtain ⟨k60, k1, k2, k3⟩ := K
  unfold wp_X4_draw_b9F wp_X4_draw_b60 wp_X4_draw_b96 LET
  simp only [forall_eq]
  have e3 : gI h2 4 0 3 = nI ac := by rw [A2.I 4 0 3]; exact a.2.1
  rw [e3]
  by_cases c : n = ac
  · subst c
    rw [if_pos (nI_le (Nat.le_refl _) (by omega))]
    exact f h2 A2 S2 C2 I2
  rw [if_neg (nI_ge (show n < ac by omega) (by omega))]
  have n60 := T.1
  have ht := k1 n (by omega)
  have ei : gI h2 28 0 n = nI (as n) := by rw [A2.I 28 0 n]; exact a.2.2 n (by omega)
  refine ⟨vp_in_nI (by omega) (by decide), ?_⟩
  rw [nI_clamp (show n < 2 ^ 31 by omega), ei, nI_clamp (show as n < 2 ^ 31 by omega)]
  have vt : vp_in (nI (as n)) 60 := vp_in_nI (by omega) (by decide)
  have hin : inN (nI (as n)) 64 := ⟨as n, by omega, rfl⟩
  have ct : cl (nI (as n)) = as n := nI_clamp (by omega)
  have vv := T.2 (as n) ht
  -- a polarity is taken up, or not
  have go : ∀ h3, ag (wS [8] []) h h3 → SSh (gI h3 8 0) → LE (gI h2 8 0) (gI h3 8 0) → (∀ p, pb (gJ h 4 0 4) (gJ h 4 0 5) p (as n) = true → skK (gI h0 12 0 (as n)) → SkF (gI h3 8 0) (gI h0 12 0 (as n)) (gI h0 13 0 (as n)) p) → (∀ M, VM M → InSk (gI h2 8 0) M → (∀ p, pb (gJ h 4 0 4) (gJ h 4 0 5) p (as n) = true → skK (gI h0 12 0 (as n)) → fit M (gI h0 12 0 (as n)) (gI h0 13 0 (as n)) = p) → InSk (gI h3 8 0) M) → P (nI n + 1) h3 := by
    intro h3 A3 S3 L3 C3 I3
    refine hP _ _ ⟨n + 1, by omega, nI_1 n, A3, S3, fun i p hi q s => ?_, fun M v q => ?_⟩ (by rw [nI_1, nI_clamp (by omega), nI_clamp (by omega)]; omega)
    · by_cases e : i = n
      · subst e; exact C3 p q s
      · exact L3.skf (C2 i p (by omega) q s)
    · exact I3 M v (I2 M v (fun i p hi => q i p (by omega))) (fun p => q n p (by omega))
  have tail : ∀ h3, ag (wS [8] []) h h3 → SSh (gI h3 8 0) → LE (gI h2 8 0) (gI h3 8 0) → (bJ (gJ h 4 0 4) (as n) = true → skK (gI h0 12 0 (as n)) → SkF (gI h3 8 0) (gI h0 12 0 (as n)) (gI h0 13 0 (as n)) true) → (∀ M, VM M → InSk (gI h2 8 0) M → (bJ (gJ h 4 0 4) (as n) = true → skK (gI h0 12 0 (as n)) → fit M (gI h0 12 0 (as n)) (gI h0 13 0 (as n)) = true) → InSk (gI h3 8 0) M) →
      wp_X10_hasBit_ (gJ h3 4 0 5) (nI (as n)) h3 (fun r1 => if r1 = 0 then P (nI n + 1) h3 else vp_in (nI (as n)) 60 ∧ wp_X8_addFailing (gI h3 12 0 (as n)) (gI h3 13 0 (as n)) h3 (fun h4 => P (nI n + 1) h4)) := by
    intro h3 A3 S3 L3 C3 I3
    rw [A3.J 4 0 5, hbJ_w hin (by decide), ct]
    cases b : bJ (gJ h 4 0 5) (as n)
    · rw [if_pos (show bit01 false = 0 from rfl)]
      refine go h3 A3 S3 L3 (fun p q s => ?_) (fun M v i q => I3 M v i (fun b s => q true b s))
      cases p
      · have q : bJ (gJ h 4 0 5) (as n) = true := q
        rw [b] at q; cases q
      · exact C3 q s
    · rw [if_neg (show ¬ bit01 true = 0 by decide), A3.I 12 0 (as n), A3.I 13 0 (as n), a.1.I 12 0 (as n), a.1.I 13 0 (as n)]
      refine ⟨vt, ?_⟩
      by_cases s : skK (gI h0 12 0 (as n))
      · refine addF_w S3 (StV_lf vv (skK_nmk s)) s (fun h4 A4 AD => ?_)
        obtain ⟨d1, d2, d3, d4⟩ := AD
        refine go h4 (A3.trans A4) d1 (L3.trans d2) (fun p q s => ?_) (fun M v i q => d4 M v (I3 M v i (fun b s => q true b s)) (q false b s))
        cases p
        · exact d3
        · exact d2.skf (C3 q s)
      · refine addF_n s ?_
        exact go h3 A3 S3 L3 (fun p _ q => absurd q s) (fun M v i _ => I3 M v i (fun _ q => absurd q s))
  rw [A2.J 4 0 4, hbJ_w hin (by decide), ct]
  cases b : bJ (gJ h 4 0 4) (as n)
  · rw [if_pos (show bit01 false = 0 from rfl)]
    exact tail h2 A2 S2 LE.rfl (fun q => by rw [b] at q; cases q) (fun M _ i _ => i)
  · rw [if_neg (show ¬ bit01 true = 0 by decide), A2.I 12 0 (as n), A2.I 13 0 (as n), a.1.I 12 0 (as n), a.1.I 13 0 (as n)]
    refine ⟨vt, ?_⟩
    by_cases s : skK (gI h0 12 0 (as n))
    · refine addH_w S2 (StV_lf vv (skK_nmk s)) s (fun h3 A3 AD => ?_)
      obtain ⟨d1, d2, d3, d4⟩ := AD
      exact tail h3 (A2.trans A3) d1 d2 (fun _ _ => d3) (fun M v i q => d4 M v i (q b s))
    · refine addH_n s ?_
      exact tail h2 A2 S2 LE.rfl (fun _ q => absurd q s) (fun M _ i _ => i)
end
theorem and_bitJ {x y : Int64} {t : Nat} (ht : t < 64) : ((x &&& ((1 : Int64) <<< ((nI t).toInt64 &&& 63))) &&& y = 0) ↔ (bJ x t && bJ y t) = false := by
  constructor
  · intro e
    have : bJ ((x &&& ((1 : Int64) <<< ((nI t).toInt64 &&& 63))) &&& y) t = false := by rw [e, bJ_0]
    rw [bJ_and, bJ_and, bJ_sh ht] at this
    simpa using this
  · intro e
    refine bJ_ext (fun i hi => ?_)
    rw [bJ_and, bJ_and, bJ_sh ht, bJ_0]
    by_cases q : t = i
    · subst q; simpa using e
    · simp [q]
/-- what may be of a test is noted -/
theorem nm_w {t : Nat} {b1 b2 : Bool} {h : Hp} {Q : Hp → Prop} (ht : t < 64) (f : ∀ h', ag (wS [] [(4, 6), (4, 7)]) h h' → (∀ x p, x < 64 → pb (gJ h' 4 0 6) (gJ h' 4 0 7) p x = (pb (gJ h 4 0 6) (gJ h 4 0 7) p x || (decide (t = x) && ((if p = true then b1 else b2) && !(bJ (gJ h 9 0 3) t && pb (gJ h 4 0 4) (gJ h 4 0 5) (!p) t))))) → Q h') : wp_X4_noteMay (nI t) (bit01 b1) (bit01 b2) h Q := by
  unfold wp_X4_noteMay wp_X4_noteMay_b44 LET
  simp only [forall_eq, and_bitJ ht]
  have hJ : ∀ h1, (gJ h1 9 0 3 &&& ((1 : Int64) <<< ((nI t).toInt64 &&& 63)) &&& gJ h1 4 0 4 = 0) ↔ (bJ (gJ h1 9 0 3) t && bJ (gJ h1 4 0 4) t) = false := fun h1 => and_bitJ ht
  have bor : ∀ z x, x < 64 → bJ (z ||| ((1 : Int64) <<< ((nI t).toInt64 &&& 63))) x = (bJ z x || decide (t = x)) := fun z x _ => by rw [bJ_or, bJ_sh ht]
  cases b1
  · rw [if_pos (show bit01 false = 0 from rfl)]
    cases b2
    · rw [if_pos (show bit01 false = 0 from rfl)]
      refine f h ag.rfl (fun x p hx => ?_)
      cases p <;> simp [pb]
    · rw [if_neg (show ¬ bit01 true = 0 by decide)]
      by_cases q : (bJ (gJ h 9 0 3) t && bJ (gJ h 4 0 4) t) = false
      · rw [if_pos q]
        refine f _ (by repeat first | exact ag.rfl | refine ag.sI ?_ rfl | refine ag.sJ ?_ rfl | refine ag.sR ?_ rfl | refine ag.sD ?_ rfl) (fun x p hx => ?_)
        cases p
        · simp only [pb, gI_sI, gI_sJ, gI_sR, gI_sD, gJ_sI, gJ_sJ, gJ_sR, gJ_sD, gR_sI, gR_sJ, gR_sR, gR_sD, gD_sI, gD_sJ, gD_sR, gD_sD, Nat.reduceEqDiff, false_and, and_false, true_and, and_true, and_self, reduceIte, if_true, if_false, ite_true, ite_false, bor _ x hx, Bool.false_eq_true, Bool.not_false, q]
          simp
        · simp [pb, gI_sI, gI_sJ, gI_sR, gI_sD, gJ_sI, gJ_sJ, gJ_sR, gJ_sD, gR_sI, gR_sJ, gR_sR, gR_sD, gD_sI, gD_sJ, gD_sR, gD_sD]
      · rw [if_neg q]
        refine f h ag.rfl (fun x p hx => ?_)
        have q : (bJ (gJ h 9 0 3) t && bJ (gJ h 4 0 4) t) = true := by simpa using q
        cases p <;> simp [pb, q]
  · rw [if_neg (show ¬ bit01 true = 0 by decide)]
    by_cases r : (bJ (gJ h 9 0 3) t && bJ (gJ h 4 0 5) t) = false
    · rw [if_pos r]
      cases b2
      · rw [if_pos (show bit01 false = 0 from rfl)]
        refine f _ (by repeat first | exact ag.rfl | refine ag.sI ?_ rfl | refine ag.sJ ?_ rfl | refine ag.sR ?_ rfl | refine ag.sD ?_ rfl) (fun x p hx => ?_)
        cases p
        · simp [pb, gI_sI, gI_sJ, gI_sR, gI_sD, gJ_sI, gJ_sJ, gJ_sR, gJ_sD, gR_sI, gR_sJ, gR_sR, gR_sD, gD_sI, gD_sJ, gD_sR, gD_sD]
        · simp only [pb, gI_sI, gI_sJ, gI_sR, gI_sD, gJ_sI, gJ_sJ, gJ_sR, gJ_sD, gR_sI, gR_sJ, gR_sR, gR_sD, gD_sI, gD_sJ, gD_sR, gD_sD, Nat.reduceEqDiff, false_and, and_false, true_and, and_true, and_self, reduceIte, if_true, if_false, ite_true, ite_false, bor _ x hx, Bool.not_true, Bool.false_eq_true, r]
          simp
      · rw [if_neg (show ¬ bit01 true = 0 by decide)]
        simp only [gI_sI, gI_sJ, gI_sR, gI_sD, gJ_sI, gJ_sJ, gJ_sR, gJ_sD, gR_sI, gR_sJ, gR_sR, gR_sD, gD_sI, gD_sJ, gD_sR, gD_sD, Nat.reduceEqDiff, false_and, and_false, true_and, and_true, and_self, reduceIte, if_true, if_false, ite_true, ite_false]
        by_cases q : (bJ (gJ h 9 0 3) t && bJ (gJ h 4 0 4) t) = false
        · rw [if_pos q]
          refine f _ (by repeat first | exact ag.rfl | refine ag.sI ?_ rfl | refine ag.sJ ?_ rfl | refine ag.sR ?_ rfl | refine ag.sD ?_ rfl) (fun x p hx => ?_)
          cases p
          · simp only [pb, gI_sI, gI_sJ, gI_sR, gI_sD, gJ_sI, gJ_sJ, gJ_sR, gJ_sD, gR_sI, gR_sJ, gR_sR, gR_sD, gD_sI, gD_sJ, gD_sR, gD_sD, Nat.reduceEqDiff, false_and, and_false, true_and, and_true, and_self, reduceIte, if_true, if_false, ite_true, ite_false, bor _ x hx, Bool.false_eq_true, Bool.not_false, q]
            simp
          · simp only [pb, gI_sI, gI_sJ, gI_sR, gI_sD, gJ_sI, gJ_sJ, gJ_sR, gJ_sD, gR_sI, gR_sJ, gR_sR, gR_sD, gD_sI, gD_sJ, gD_sR, gD_sD, Nat.reduceEqDiff, false_and, and_false, true_and, and_true, and_self, reduceIte, if_true, if_false, ite_true, ite_false, bor _ x hx, Bool.not_true, Bool.false_eq_true, r]
            simp
        · rw [if_neg q]
          have q : (bJ (gJ h 9 0 3) t && bJ (gJ h 4 0 4) t) = true := by simpa using q
          refine f _ (by repeat first | exact ag.rfl | refine ag.sI ?_ rfl | refine ag.sJ ?_ rfl | refine ag.sR ?_ rfl | refine ag.sD ?_ rfl) (fun x p hx => ?_)
          cases p
          · simp [pb, gI_sI, gI_sJ, gI_sR, gI_sD, gJ_sI, gJ_sJ, gJ_sR, gJ_sD, gR_sI, gR_sJ, gR_sR, gR_sD, gD_sI, gD_sJ, gD_sR, gD_sD, q]
          · simp only [pb, gI_sI, gI_sJ, gI_sR, gI_sD, gJ_sI, gJ_sJ, gJ_sR, gJ_sD, gR_sI, gR_sJ, gR_sR, gR_sD, gD_sI, gD_sJ, gD_sR, gD_sD, Nat.reduceEqDiff, false_and, and_false, true_and, and_true, and_self, reduceIte, if_true, if_false, ite_true, ite_false, bor _ x hx, Bool.not_true, Bool.false_eq_true, r]
            simp
    · rw [if_neg r]
      have r : (bJ (gJ h 9 0 3) t && bJ (gJ h 4 0 5) t) = true := by simpa using r
      cases b2
      · rw [if_pos (show bit01 false = 0 from rfl)]
        refine f h ag.rfl (fun x p hx => ?_)
        cases p <;> simp [pb, r]
      · rw [if_neg (show ¬ bit01 true = 0 by decide)]
        by_cases q : (bJ (gJ h 9 0 3) t && bJ (gJ h 4 0 4) t) = false
        · rw [if_pos q]
          refine f _ (by repeat first | exact ag.rfl | refine ag.sI ?_ rfl | refine ag.sJ ?_ rfl | refine ag.sR ?_ rfl | refine ag.sD ?_ rfl) (fun x p hx => ?_)
          cases p
          · simp only [pb, gI_sI, gI_sJ, gI_sR, gI_sD, gJ_sI, gJ_sJ, gJ_sR, gJ_sD, gR_sI, gR_sJ, gR_sR, gR_sD, gD_sI, gD_sJ, gD_sR, gD_sD, Nat.reduceEqDiff, false_and, and_false, true_and, and_true, and_self, reduceIte, if_true, if_false, ite_true, ite_false, bor _ x hx, Bool.false_eq_true, Bool.not_false, q]
            simp
          · simp [pb, gI_sI, gI_sJ, gI_sR, gI_sD, gJ_sI, gJ_sJ, gJ_sR, gJ_sD, gR_sI, gR_sJ, gR_sR, gR_sD, gD_sI, gD_sJ, gD_sR, gD_sD, r]
        · rw [if_neg q]
          have q : (bJ (gJ h 9 0 3) t && bJ (gJ h 4 0 4) t) = true := by simpa using q
          refine f h ag.rfl (fun x p hx => ?_)
          cases p <;> simp [pb, q, r]
theorem ns_w {t : Nat} {b1 b2 : Bool} {h : Hp} {Q : Hp → Prop} (ht : t < 64) (f : ∀ h', ag (wS [] [(4, 8), (4, 9)]) h h' → (∀ x p, x < 64 → pb (gJ h' 4 0 8) (gJ h' 4 0 9) p x = (pb (gJ h 4 0 8) (gJ h 4 0 9) p x || (decide (t = x) && (if p = true then b1 else b2)))) → Q h') : wp_X4_noteSure (nI t) (bit01 b1) (bit01 b2) h Q := by
  unfold wp_X4_noteSure wp_X4_noteSure_b20 LET
  simp only [forall_eq]
  have bor : ∀ z x, x < 64 → bJ (z ||| ((1 : Int64) <<< ((nI t).toInt64 &&& 63))) x = (bJ z x || decide (t = x)) := fun z x _ => by rw [bJ_or, bJ_sh ht]
  cases b1
  · rw [if_pos (show bit01 false = 0 from rfl)]
    cases b2
    · rw [if_pos (show bit01 false = 0 from rfl)]
      refine f h ag.rfl (fun x p hx => ?_)
      cases p <;> simp [pb]
    · rw [if_neg (show ¬ bit01 true = 0 by decide)]
      refine f _ (by repeat first | exact ag.rfl | refine ag.sI ?_ rfl | refine ag.sJ ?_ rfl | refine ag.sR ?_ rfl | refine ag.sD ?_ rfl) (fun x p hx => ?_)
      cases p
      · simp only [pb, gI_sI, gI_sJ, gI_sR, gI_sD, gJ_sI, gJ_sJ, gJ_sR, gJ_sD, gR_sI, gR_sJ, gR_sR, gR_sD, gD_sI, gD_sJ, gD_sR, gD_sD, Nat.reduceEqDiff, false_and, and_false, true_and, and_true, and_self, reduceIte, if_true, if_false, ite_true, ite_false, bor _ x hx, Bool.false_eq_true]
        simp
      · simp [pb, gI_sI, gI_sJ, gI_sR, gI_sD, gJ_sI, gJ_sJ, gJ_sR, gJ_sD, gR_sI, gR_sJ, gR_sR, gR_sD, gD_sI, gD_sJ, gD_sR, gD_sD]
  · rw [if_neg (show ¬ bit01 true = 0 by decide)]
    cases b2
    · rw [if_pos (show bit01 false = 0 from rfl)]
      refine f _ (by repeat first | exact ag.rfl | refine ag.sI ?_ rfl | refine ag.sJ ?_ rfl | refine ag.sR ?_ rfl | refine ag.sD ?_ rfl) (fun x p hx => ?_)
      cases p
      · simp [pb, gI_sI, gI_sJ, gI_sR, gI_sD, gJ_sI, gJ_sJ, gJ_sR, gJ_sD, gR_sI, gR_sJ, gR_sR, gR_sD, gD_sI, gD_sJ, gD_sR, gD_sD]
      · simp only [pb, gI_sI, gI_sJ, gI_sR, gI_sD, gJ_sI, gJ_sJ, gJ_sR, gJ_sD, gR_sI, gR_sJ, gR_sR, gR_sD, gD_sI, gD_sJ, gD_sR, gD_sD, Nat.reduceEqDiff, false_and, and_false, true_and, and_true, and_self, reduceIte, if_true, if_false, ite_true, ite_false, bor _ x hx, Bool.false_eq_true]
        simp
    · rw [if_neg (show ¬ bit01 true = 0 by decide)]
      refine f _ (by repeat first | exact ag.rfl | refine ag.sI ?_ rfl | refine ag.sJ ?_ rfl | refine ag.sR ?_ rfl | refine ag.sD ?_ rfl) (fun x p hx => ?_)
      cases p
      · simp only [pb, gI_sI, gI_sJ, gI_sR, gI_sD, gJ_sI, gJ_sJ, gJ_sR, gJ_sD, gR_sI, gR_sJ, gR_sR, gR_sD, gD_sI, gD_sJ, gD_sR, gD_sD, Nat.reduceEqDiff, false_and, and_false, true_and, and_true, and_self, reduceIte, if_true, if_false, ite_true, ite_false, bor _ x hx, Bool.false_eq_true]
        simp
      · simp only [pb, gI_sI, gI_sJ, gI_sR, gI_sD, gJ_sI, gJ_sJ, gJ_sR, gJ_sD, gR_sI, gR_sJ, gR_sR, gR_sD, gD_sI, gD_sJ, gD_sR, gD_sD, Nat.reduceEqDiff, false_and, and_false, true_and, and_true, and_self, reduceIte, if_true, if_false, ite_true, ite_false, bor _ x hx, Bool.false_eq_true]
        simp
theorem he_w {x : Int64} {a b : Int32} {h : Hp} {Q : Int32 → Prop} {n : Nat} (ha : inN a n) (hb : inN b n) (hn : n ≤ 64) : wp_X4_hasEither x a b h Q = Q (bit01 (bJ x (cl a) || bJ x (cl b))) := by
  unfold wp_X4_hasEither
  rw [hbJ_w ha hn]
  cases e : bJ x (cl a)
  · rw [if_pos (show bit01 false = 0 from rfl), hbJ_w hb hn]
    cases e' : bJ x (cl b)
    · rw [if_pos (show bit01 false = 0 from rfl)]; rfl
    · rw [if_neg (show ¬ bit01 true = 0 by decide)]; rfl
  · rw [if_neg (show ¬ bit01 true = 0 by decide)]; rfl
