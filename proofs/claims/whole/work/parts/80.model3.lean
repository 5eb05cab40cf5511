/-! the model's reasoner in the heap -/
theorem i3n (i : Nat) : (3 : Int32) + nI i = nI (3 + i) := by rw [show (3 : Int32) = nI 3 from rfl, nI_add]
theorem ctd_w {b : Bool} {h : Hp} {Q : Int32 → Prop} (f : Q (nI (cnN (gI h 64 0) b))) : wp_X11_counted (bit01 b) h Q := by
  unfold wp_X11_counted wp_X11_counted_b4
  refine LFP2.by (I := fun x y => ∃ n, n ≤ 10 ∧ y = nI n ∧ x = nI (ct (fun i => decide (gI h 64 0 (3 + i) = 1) || (b && decide (gI h 64 0 (3 + i) = -1))) n)) (μ := fun _ y => 10 - y.toNatClampNeg) ⟨0, by omega, rfl, rfl⟩ ?_
  rintro x y ⟨n, hn, rfl, rfl⟩ P hP
  unfold wp_X11_counted_b4F wp_X11_counted_b39 wp_X11_counted_b43 wp_X11_counted_b44 LET
  simp only [forall_eq]
  by_cases c : n = 10
  · subst c
    rw [if_pos (by decide)]
    exact f
  rw [if_neg (show ¬ (10 : Int32) ≤ nI n from nI_ge (b := 10) (show n < 10 by omega) (by omega)), i3n]
  refine ⟨vp_in_nI (by omega) (by decide), ?_⟩
  rw [nI_clamp (by omega)]
  have step : ∀ v, v = nI (ct (fun i => decide (gI h 64 0 (3 + i) = 1) || (b && decide (gI h 64 0 (3 + i) = -1))) (n + 1)) → P v (nI n + 1) := fun v hv => hP _ _ ⟨n + 1, by omega, nI_1 n, hv⟩ (by rw [nI_1, nI_clamp (by omega), nI_clamp (by omega)]; omega)
  by_cases q1 : gI h 64 0 (3 + n) = 1
  · rw [if_pos q1, nI_1]
    refine step _ ?_
    show _ = nI (ct _ n + (if (decide (gI h 64 0 (3 + n) = 1) || _) = true then 1 else 0))
    rw [decide_eq_true q1]; rfl
  · rw [if_neg q1]
    cases b
    · rw [if_pos (show bit01 false = 0 from rfl), Int32.add_zero]
      refine step _ ?_
      show _ = nI (ct _ n + (if (decide (gI h 64 0 (3 + n) = 1) || (false && _)) = true then 1 else 0))
      rw [decide_eq_false q1]; rfl
    · rw [if_neg (show ¬ bit01 true = 0 by decide)]
      by_cases q2 : gI h 64 0 (3 + n) = -1
      · rw [if_pos q2, nI_1]
        refine step _ ?_
        show _ = nI (ct _ n + (if (decide (gI h 64 0 (3 + n) = 1) || (true && decide (gI h 64 0 (3 + n) = -1))) = true then 1 else 0))
        rw [decide_eq_false q1, decide_eq_true q2]; rfl
      · rw [if_neg q2, Int32.add_zero]
        refine step _ ?_
        show _ = nI (ct _ n + (if (decide (gI h 64 0 (3 + n) = 1) || (true && decide (gI h 64 0 (3 + n) = -1))) = true then 1 else 0))
        rw [decide_eq_false q1, decide_eq_false q2]; rfl
theorem b254 {b p : Bool} {h : Hp} {Q : Int32 → Prop} : wp_X11_canBe_b254 (bit01 p) (bit01 b) h Q = Q (bit01 (b == p)) := by
  unfold wp_X11_canBe_b254
  cases b <;> cases p <;> simp [bit01]
theorem cbe_w {sz : Nat} {k a : Int32} {p : Bool} {h : Hp} {Q : Int32 → Prop} (V : VAL (gI h 64 0) sz) (hsz : sz ≤ 61) (o : leafOK k a) (f : Q (bit01 (cb (gI h 64 0) (gI h 71 0) k a p))) : wp_X11_canBe k a (bit01 p) h Q := by
  have bt : ∀ {Q : Int32 → Prop}, wp_X11_canBe_b254 (bit01 p) 1 h Q = Q (bit01 (true == p)) := b254 (b := true)
  have bf : ∀ {Q : Int32 → Prop}, wp_X11_canBe_b254 (bit01 p) 0 h Q = Q (bit01 (false == p)) := b254 (b := false)
  have b189 : ∀ {v : Nat}, v < 45 → wp_X11_canBe_b189 a (bit01 p) (nI v) h Q = Q (bit01 (decide (gI h 64 0 v = a) == p)) := fun {v} hv => by
    unfold wp_X11_canBe_b189
    rw [nI_clamp (by omega)]
    simp only [vp_in_nI hv (by decide), true_and]
    by_cases q : gI h 64 0 v = a
    · rw [if_pos q, bt, decide_eq_true q]
    · rw [if_neg q, bf, decide_eq_false q]
  -- a variable of two values
  have bin : ∀ v, v < 45 → (∀ Q' : Prop, True) → ∀ (c1 : k ≠ 97) (c2 : k ≠ 107) (c3 : k ≠ 110) (c4 : k ≠ 122) (c5 : k ≠ 102) (c6 : k ≠ 100), vr k a = v → wp_X11_canBe_b59 k a (bit01 p) (nI v) h Q := fun v hv _ c1 c2 c3 c4 c5 c6 ev => by
    unfold cb at f
    rw [if_neg c1, if_neg c2, if_neg c3, ev] at f
    unfold wp_X11_canBe_b59
    rw [if_neg c1, if_neg c2, if_neg c3, nI_clamp (by omega)]
    refine ⟨vp_in_nI hv (by decide), ?_⟩
    by_cases un : gI h 64 0 v = -1
    · rw [if_pos un, if_neg c4]
      rw [if_pos un, if_neg c4] at f
      exact f
    · rw [if_neg un, if_neg c5, if_neg c6, if_neg c4]
      rw [if_neg un, if_neg (fun q => by rcases q with q | q; exact c5 q; exact c6 q), if_neg c4] at f
      by_cases q : gI h 64 0 v = 1
      · rw [if_pos q, bt]
        rw [decide_eq_true q] at f
        exact f
      · rw [if_neg q, bf]
        rw [decide_eq_false q] at f
        exact f
  unfold wp_X11_canBe
  rcases o with rfl | ⟨rfl | rfl, o⟩ | ⟨rfl | rfl, o⟩ | ⟨rfl, o⟩ | ⟨rfl, o⟩ | ⟨rfl, o⟩ | ⟨rfl, o⟩
  · simp only [show ((97 : Int32) = 102) = False by decide, show ((97 : Int32) = 100) = False by decide, show ((97 : Int32) = 122) = False by decide, show ((97 : Int32) = 116) = False by decide, show ((97 : Int32) = 115) = False by decide, if_false]
    unfold wp_X11_canBe_b59 wp_X11_canBe_b73
    unfold cb at f
    simp only [if_true] at f
    simp only [if_true, show ((97 : Int32) = 107) = False by decide, if_false]
    cases p
    · rw [if_pos (show bit01 false = 0 from rfl)]; exact f
    · rw [if_neg (show ¬ bit01 true = 0 by decide)]; exact f
  · rw [if_pos rfl]
    unfold cb at f
    simp only [show ((102 : Int32) = 97) = False by decide, show ((102 : Int32) = 107) = False by decide, show ((102 : Int32) = 110) = False by decide, show ((102 : Int32) = 122) = False by decide, show vr 102 a = 0 from by unfold vr; simp, true_or, if_true, if_false] at f
    unfold wp_X11_canBe_b59
    simp only [show ((102 : Int32) = 97) = False by decide, show ((102 : Int32) = 107) = False by decide, show ((102 : Int32) = 110) = False by decide, show ((102 : Int32) = 122) = False by decide, if_true, if_false]
    refine ⟨vp_in_nI (n := 0) (by decide) (by decide), ?_⟩
    rw [show (0 : Int32).toNatClampNeg = 0 from rfl]
    by_cases un : gI h 64 0 0 = -1
    · rw [if_pos un]; rw [if_pos un] at f; exact f
    · rw [if_neg un]; rw [if_neg un] at f
      have := b189 (v := 0) (by omega)
      rw [show nI 0 = (0 : Int32) from rfl] at this
      rw [this]; exact f
  · have hx := cl_lt o (by decide)
    obtain ⟨j, hj, rfl⟩ := o
    simp only [show ((116 : Int32) = 102) = False by decide, show ((116 : Int32) = 100) = False by decide, show ((116 : Int32) = 122) = False by decide, if_false, if_true]
    rw [i3n]
    exact bin (3 + j) (by omega) (fun _ => trivial) (by decide) (by decide) (by decide) (by decide) (by decide) (by decide) (by unfold vr; simp [show cl (nI j) = j from nI_clamp (by omega)])
  · obtain ⟨j, hj, rfl⟩ := o
    simp only [show ((115 : Int32) = 102) = False by decide, show ((115 : Int32) = 100) = False by decide, show ((115 : Int32) = 122) = False by decide, show ((115 : Int32) = 116) = False by decide, if_false, if_true]
    rw [show (13 : Int32) + nI j = nI (13 + j) by rw [show (13 : Int32) = nI 13 from rfl, nI_add]]
    exact bin (13 + j) (by omega) (fun _ => trivial) (by decide) (by decide) (by decide) (by decide) (by decide) (by decide) (by unfold vr; simp [show cl (nI j) = j from nI_clamp (by omega)])
  · obtain ⟨j, hj, rfl⟩ := o
    simp only [show ((98 : Int32) = 102) = False by decide, show ((98 : Int32) = 100) = False by decide, show ((98 : Int32) = 122) = False by decide, show ((98 : Int32) = 116) = False by decide, show ((98 : Int32) = 115) = False by decide, if_false]
    rw [show (29 : Int32) + nI j = nI (29 + j) by rw [show (29 : Int32) = nI 29 from rfl, nI_add]]
    exact bin (29 + j) (by omega) (fun _ => trivial) (by decide) (by decide) (by decide) (by decide) (by decide) (by decide) (by unfold vr; simp [show cl (nI j) = j from nI_clamp (by omega)])
  · simp only [show ((122 : Int32) = 102) = False by decide, show ((122 : Int32) = 100) = False by decide, if_false, if_true]
    unfold cb at f
    simp only [show ((122 : Int32) = 97) = False by decide, show ((122 : Int32) = 107) = False by decide, show ((122 : Int32) = 110) = False by decide, show ((122 : Int32) = 102) = False by decide, show ((122 : Int32) = 100) = False by decide, show vr 122 a = 2 from by unfold vr; simp, or_self, if_true, if_false] at f
    unfold wp_X11_canBe_b59
    simp only [show ((122 : Int32) = 97) = False by decide, show ((122 : Int32) = 107) = False by decide, show ((122 : Int32) = 110) = False by decide, show ((122 : Int32) = 102) = False by decide, show ((122 : Int32) = 100) = False by decide, if_true, if_false]
    refine ⟨vp_in_nI (n := 2) (by decide) (by decide), ?_⟩
    rw [show (2 : Int32).toNatClampNeg = 2 from rfl]
    by_cases un : gI h 64 0 2 = -1
    · rw [if_pos un]; rw [if_pos un] at f
      cases p
      · rw [if_pos (show bit01 false = 0 from rfl)]
        rw [if_neg (by decide)] at f
        by_cases q : a ≤ 0
        · rw [if_pos q]; rw [decide_eq_false (fun z => z q)] at f; exact f
        · rw [if_neg q]; rw [decide_eq_true q] at f; exact f
      · rw [if_neg (show ¬ bit01 true = 0 by decide)]
        rw [if_pos rfl] at f
        by_cases q : (999 : Int32) ≤ a
        · rw [if_pos q]; rw [decide_eq_false (fun z => z q)] at f; exact f
        · rw [if_neg q]; rw [decide_eq_true q] at f; exact f
    · rw [if_neg un]; rw [if_neg un] at f
      obtain ⟨x, hx, ex⟩ : ∃ x, x < dm sz 2 ∧ gI h 64 0 2 = nI x := by
        rcases V 2 (by omega) with q | q
        · exact absurd q un
        · exact q
      have hx61 : x < 61 := by
        have : dm sz 2 = sz := by unfold dm; simp
        omega
      refine ⟨by rw [ex]; exact vp_in_nI hx61 (by decide), ?_⟩
      rw [show (gI h 64 0 2).toNatClampNeg = cl (gI h 64 0 2) from rfl]
      by_cases q : gI h 71 0 (cl (gI h 64 0 2)) ≤ a
      · rw [if_pos q, bf]; rw [decide_eq_false (fun z => z q)] at f; exact f
      · rw [if_neg q, bt]; rw [decide_eq_true q] at f; exact f
  · simp only [show ((100 : Int32) = 102) = False by decide, if_false, if_true]
    unfold cb at f
    simp only [show ((100 : Int32) = 97) = False by decide, show ((100 : Int32) = 107) = False by decide, show ((100 : Int32) = 110) = False by decide, show ((100 : Int32) = 122) = False by decide, show ((100 : Int32) = 102) = False by decide, show vr 100 a = 1 from by unfold vr; simp, or_true, if_true, if_false] at f
    unfold wp_X11_canBe_b59
    simp only [show ((100 : Int32) = 97) = False by decide, show ((100 : Int32) = 107) = False by decide, show ((100 : Int32) = 110) = False by decide, show ((100 : Int32) = 122) = False by decide, show ((100 : Int32) = 102) = False by decide, if_true, if_false]
    refine ⟨vp_in_nI (n := 1) (by decide) (by decide), ?_⟩
    rw [show (1 : Int32).toNatClampNeg = 1 from rfl]
    by_cases un : gI h 64 0 1 = -1
    · rw [if_pos un]; rw [if_pos un] at f; exact f
    · rw [if_neg un]; rw [if_neg un] at f
      have := b189 (v := 1) (by omega)
      rw [show nI 1 = (1 : Int32) from rfl] at this
      rw [this]; exact f
  · simp only [show ((110 : Int32) = 102) = False by decide, show ((110 : Int32) = 100) = False by decide, show ((110 : Int32) = 122) = False by decide, show ((110 : Int32) = 116) = False by decide, show ((110 : Int32) = 115) = False by decide, if_false]
    unfold cb at f
    simp only [show ((110 : Int32) = 97) = False by decide, show ((110 : Int32) = 107) = False by decide, if_true, if_false] at f
    unfold wp_X11_canBe_b59
    simp only [show ((110 : Int32) = 97) = False by decide, show ((110 : Int32) = 107) = False by decide, if_true, if_false]
    cases p
    · rw [if_pos (show bit01 false = 0 from rfl)]
      rw [if_neg (by decide)] at f
      by_cases q : a ≤ 1
      · rw [if_pos q]; rw [decide_eq_false (fun z => z q)] at f; exact f
      · rw [if_neg q]; rw [decide_eq_true q] at f
        refine ctd_w (b := false) ?_
        by_cases q : a ≤ nI (cnN (gI h 64 0) false)
        · rw [if_pos q]; rw [decide_eq_false (fun z => z q)] at f; exact f
        · rw [if_neg q]; rw [decide_eq_true q] at f; exact f
    · rw [if_neg (show ¬ bit01 true = 0 by decide)]
      rw [if_pos rfl] at f
      refine ctd_w (b := true) ?_
      by_cases q : nI (cnN (gI h 64 0) true) < a
      · rw [if_pos q]; rw [decide_eq_false (fun z => z q)] at f; exact f
      · rw [if_neg q]; rw [decide_eq_true q] at f; exact f
  · simp only [show ((107 : Int32) = 102) = False by decide, show ((107 : Int32) = 100) = False by decide, show ((107 : Int32) = 122) = False by decide, show ((107 : Int32) = 116) = False by decide, show ((107 : Int32) = 115) = False by decide, if_false]
    unfold wp_X11_canBe_b59 wp_X11_canBe_b73
    unfold cb at f
    simp only [show ((107 : Int32) = 97) = False by decide, if_true, if_false] at f
    simp only [show ((107 : Int32) = 97) = False by decide, if_true, if_false]
    exact f
/-- one test is looked at: canHold is set -/
theorem chk_w {n : Nat} {b1 b2 wH wF : Bool} {h1 : Hp} {P : Int32 → Hp → Prop} {Q : Int32 → Hp → Prop} (hn : n < 60) (e1 : gI h1 69 0 n = bit01 b1) (ew : gI h1 72 0 n = nI ((if wH = true then 1 else 0) + (if wF = true then 2 else 0)))
    (f0 : (wH = true ∧ b1 = false ∨ wF = true ∧ b2 = false) → Q 0 (sI h1 70 0 n (bit01 b2))) (f1 : (wH = true → b1 = true) → (wF = true → b2 = true) → P (nI n + 1) (sI h1 70 0 n (bit01 b2))) : wp_X11_isPossible_b276 (nI n) (nI n) (bit01 b2) h1 P Q := by
  unfold wp_X11_isPossible_b276 wp_X11_isPossible_b298 wp_X11_isPossible_b319 LET
  have vn : vp_in (nI n) 60 := vp_in_nI hn (by decide)
  refine ⟨vn, ?_⟩
  rw [nI_clamp (by omega), vnb]
  simp only [forall_eq]
  rw [gI_o (show (72 : Nat) ≠ 70 ∨ _ from Or.inl (by decide)), gI_o (show (69 : Nat) ≠ 70 ∨ _ from Or.inl (by decide)), gI_e, ew, e1]
  refine ⟨vn, ?_⟩
  cases wH <;> cases wF
  · rw [if_neg (by decide)]
    refine ⟨vn, ?_⟩
    rw [if_pos (by decide)]
    exact f1 (fun q => by cases q) (fun q => by cases q)
  · rw [if_neg (by decide)]
    refine ⟨vn, ?_⟩
    rw [if_neg (by decide)]
    cases b2
    · rw [if_pos (show bit01 false = 0 from rfl)]; exact f0 (Or.inr ⟨rfl, rfl⟩)
    · rw [if_neg (show ¬ bit01 true = 0 by decide)]; exact f1 (fun q => by cases q) (fun _ => rfl)
  · rw [if_pos (by decide)]
    cases b1
    · rw [if_pos (show bit01 false = 0 from rfl)]; exact f0 (Or.inl ⟨rfl, rfl⟩)
    · rw [if_neg (show ¬ bit01 true = 0 by decide)]
      refine ⟨vn, ?_⟩
      rw [if_pos (by decide)]
      exact f1 (fun _ => rfl) (fun q => by cases q)
  · rw [if_pos (by decide)]
    cases b1
    · rw [if_pos (show bit01 false = 0 from rfl)]; exact f0 (Or.inl ⟨rfl, rfl⟩)
    · rw [if_neg (show ¬ bit01 true = 0 by decide)]
      refine ⟨vn, ?_⟩
      rw [if_neg (by decide)]
      cases b2
      · rw [if_pos (show bit01 false = 0 from rfl)]; exact f0 (Or.inr ⟨rfl, rfl⟩)
      · rw [if_neg (show ¬ bit01 true = 0 by decide)]; exact f1 (fun _ => rfl) (fun _ => rfl)
