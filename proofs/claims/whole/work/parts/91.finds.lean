/-! learn: what the class finds -/
section
variable (h : Hp) (nm : Nat) (b : Int32)
def F1 (c : Nat) : Prop := lG h nm b c = true ∧ ∀ m, m < nm → lM h nm b c m = false
def F2 (c d : Nat) : Prop := lG h nm b c = true ∧ lG h nm b d = true ∧ ∀ m, m < nm → (lM h nm b c m && lM h nm b d m) = false
end
section
variable {h : Hp} {d nm : Nat} {b : Int32}
theorem lP_iff (s : SMail d nm h) (hb : inN b 8) {m : Nat} (hm : m < nm) : lP h b m = true ↔ ((kB h m ∧ gI h 2 m 6 = b) ∧ gI h 2 m 10 ≠ 0) := by
  obtain ⟨q1, q2, i1, i2, q3, q4, q5⟩ := s.2.2.2.2.1 m (by have := s.1; omega)
  unfold lP
  rw [decide_eq_true_iff, s.kBM hm]
  constructor
  · rintro ⟨k, e1, e2⟩
    have k1 : gI h 39 0 m = 1 := by
      rcases i1 with q | q
      · exact absurd q k.1
      · exact q
    obtain ⟨w1, w2, w3, w4⟩ := q5 k1 k.2
    refine ⟨⟨k, by rw [w1, e1]⟩, fun z => ?_⟩
    have := w3 z
    rw [e2] at this
    obtain ⟨j, hj, rfl⟩ := hb
    have n0 := nI_pos (n := j) (by omega)
    rw [this] at n0
    exact n0 (by decide)
  · rintro ⟨⟨k, e1⟩, e2⟩
    have k1 : gI h 39 0 m = 1 := by
      rcases i1 with q | q
      · exact absurd q k.1
      · exact q
    obtain ⟨w1, w2, w3, w4⟩ := q5 k1 k.2
    rw [w1] at e1
    exact ⟨k, e1, by rw [w4 e2, e1]⟩
theorem sort_w (s : SMail d nm h) (hb : inN b 8) {Q : Hp → Prop} (f : ∀ h', ag lW h h' → (∀ m, bJ (gJ h' 1 0 6) m = (decide (m < nm) && lP h b m)) → (∀ m, bJ (gJ h' 1 0 7) m = (decide (m < nm) && (decide (kM h m) && !lP h b m))) → Q h') : wp_X1_sortMails b h Q := by
  obtain ⟨n40, c1, c2, sv, sd, sx⟩ := id s
  unfold wp_X1_sortMails LET
  rintro y1 rfl y2 rfl
  unfold wp_X1_sortMails_b12
  refine LFP2.by (I := fun x z => ∃ n, n ≤ nm ∧ x = nI n ∧ ag lW h z ∧ (∀ m, bJ (gJ z 1 0 6) m = (decide (m < n) && lP h b m)) ∧ (∀ m, bJ (gJ z 1 0 7) m = (decide (m < n) && (decide (kM h m) && !lP h b m)))) (μ := fun x _ => 40 - x.toNatClampNeg) ⟨0, by omega, rfl, (ag.rfl.sJ rfl).sJ rfl, fun m => by simp only [gI_sI, gI_sJ, gI_sR, gI_sD, gJ_sI, gJ_sJ, gJ_sR, gJ_sD, gR_sI, gR_sJ, gR_sR, gR_sD, gD_sI, gD_sJ, gD_sR, gD_sD, Nat.reduceEqDiff, false_and, and_false, true_and, and_true, and_self, reduceIte, if_true, if_false, ite_true, ite_false]; rw [bJ_0]; simp, fun m => by simp only [gI_sI, gI_sJ, gI_sR, gI_sD, gJ_sI, gJ_sJ, gJ_sR, gJ_sD, gR_sI, gR_sJ, gR_sR, gR_sD, gD_sI, gD_sJ, gD_sR, gD_sD, Nat.reduceEqDiff, false_and, and_false, true_and, and_true, and_self, reduceIte, if_true, if_false, ite_true, ite_false]; rw [bJ_0]; simp⟩ ?_
  rintro x z ⟨n, hn, rfl, A, g6, g7⟩ P hP
  unfold wp_X1_sortMails_b12F
  rw [show gI z 3 0 6 = nI nm from by rw [A.I 3 0 6, c1]]
  by_cases c : n = nm
  · subst c
    rw [if_pos (nI_le (Nat.le_refl _) (by omega))]
    exact f _ A g6 g7
  · rw [if_neg (nI_ge (show n < nm by omega) (by omega))]
    refine ⟨vp_in_nI (by omega) (by decide), ?_⟩
    rw [nI_clamp (by omega)]
    have kk : kB z n ↔ kB h n := by unfold kB; rw [A.I 2 n 8, A.I 2 n 9]
    have kkM := s.kBM (show n < nm by omega)
    have pp := lP_iff s hb (show n < nm by omega)
    have dn : ∀ i, i ≠ n → decide (i < n + 1) = decide (i < n) := fun i q => by rw [decide_eq_decide]; omega
    have step : ∀ h2, ag lW h h2 → (∀ m, bJ (gJ h2 1 0 6) m = (decide (m < n + 1) && lP h b m)) → (∀ m, bJ (gJ h2 1 0 7) m = (decide (m < n + 1) && (decide (kM h m) && !lP h b m))) → wp_X1_sortMails_b82 b (nI n) h2 P Q := by
      intro h2 A2 a1 a2
      unfold wp_X1_sortMails_b82 LET
      rintro y rfl
      exact hP _ _ ⟨n + 1, by omega, nI_1 n, A2, a1, a2⟩ (by rw [nI_1, nI_clamp (by omega), nI_clamp (by omega)]; omega)
    have other : lP h b n = false → wp_X1_sortMails_b63 b (nI n) n z P Q := by
      intro p
      unfold wp_X1_sortMails_b63 LET
      have a1 : ∀ m, bJ (gJ z 1 0 6) m = (decide (m < n + 1) && lP h b m) := fun m => by
        rw [g6]
        by_cases e : m = n
        · subst e; simp [p]
        · rw [dn m e]
      by_cases k : kB h n
      · rw [kept_1 (kk.mpr k), if_neg z_10.mp]
        rintro y rfl
        refine step _ (A.sJ rfl) (fun m => by simp only [gI_sI, gI_sJ, gI_sR, gI_sD, gJ_sI, gJ_sJ, gJ_sR, gJ_sD, gR_sI, gR_sJ, gR_sR, gR_sD, gD_sI, gD_sJ, gD_sR, gD_sD, Nat.reduceEqDiff, false_and, and_false, true_and, and_true, and_self, reduceIte, if_true, if_false, ite_true, ite_false]; exact a1 m) (fun m => ?_)
        simp only [gI_sI, gI_sJ, gI_sR, gI_sD, gJ_sI, gJ_sJ, gJ_sR, gJ_sD, gR_sI, gR_sJ, gR_sR, gR_sD, gD_sI, gD_sJ, gD_sR, gD_sD, Nat.reduceEqDiff, false_and, and_false, true_and, and_true, and_self, reduceIte, if_true, if_false, ite_true, ite_false]
        rw [bJ_or, g7, bJ_sh (by omega)]
        by_cases e : m = n
        · subst e; simp [p, kkM.mp k]
        · rw [dn m e]; simp [show ¬ n = m from fun q => e q.symm]
      · rw [kept_0 (fun q => k (kk.mp q)), if_pos rfl]
        refine step _ A a1 (fun m => ?_)
        rw [g7]
        by_cases e : m = n
        · subst e; simp [show ¬ kM h m from fun q => k (kkM.mpr q)]
        · rw [dn m e]
    by_cases l : kB h n ∧ gI h 2 n 6 = b
    · rw [lie_1 (by rw [kk, A.I 2 n 6]; exact l), if_neg z_10.mp, A.I 2 n 10]
      by_cases mv : gI h 2 n 10 = 0
      · rw [if_pos mv]
        refine other ?_
        cases q : lP h b n
        · rfl
        · exact absurd mv (pp.mp q).2
      · rw [if_neg mv]
        have p := pp.mpr ⟨l, mv⟩
        unfold LET
        rintro y rfl
        refine step _ (A.sJ rfl) (fun m => ?_) (fun m => ?_)
        · simp only [gI_sI, gI_sJ, gI_sR, gI_sD, gJ_sI, gJ_sJ, gJ_sR, gJ_sD, gR_sI, gR_sJ, gR_sR, gR_sD, gD_sI, gD_sJ, gD_sR, gD_sD, Nat.reduceEqDiff, false_and, and_false, true_and, and_true, and_self, reduceIte, if_true, if_false, ite_true, ite_false]
          rw [bJ_or, g6, bJ_sh (by omega)]
          by_cases e : m = n
          · subst e; simp [p]
          · rw [dn m e]; simp [show ¬ n = m from fun q => e q.symm]
        · simp only [gI_sI, gI_sJ, gI_sR, gI_sD, gJ_sI, gJ_sJ, gJ_sR, gJ_sD, gR_sI, gR_sJ, gR_sR, gR_sD, gD_sI, gD_sJ, gD_sR, gD_sD, Nat.reduceEqDiff, false_and, and_false, true_and, and_true, and_self, reduceIte, if_true, if_false, ite_true, ite_false]
          rw [g7]
          by_cases e : m = n
          · subst e; simp [p]
          · rw [dn m e]
    · rw [lie_0 (by rw [kk, A.I 2 n 6]; exact l), if_pos rfl]
      refine other ?_
      cases q : lP h b n
      · rfl
      · exact absurd (pp.mp q).1 l
theorem LC.set {n : Nat} {h' : Hp} (L : LC h nm b n h') (x y : Int32) : LC h nm b n (sI (sI h' 1 0 8 x) 1 0 9 y) := by
  obtain ⟨A, a1, a2, a3, a4⟩ := L
  refine ⟨(A.sI rfl).sI rfl, by simp only [gI_sI, gI_sJ, gI_sR, gI_sD, gJ_sI, gJ_sJ, gJ_sR, gJ_sD, gR_sI, gR_sJ, gR_sR, gR_sD, gD_sI, gD_sJ, gD_sR, gD_sD, Nat.reduceEqDiff, false_and, and_false, true_and, and_true, and_self, reduceIte, if_true, if_false, ite_true, ite_false]; exact a1, fun m => by simp only [gI_sI, gI_sJ, gI_sR, gI_sD, gJ_sI, gJ_sJ, gJ_sR, gJ_sD, gR_sI, gR_sJ, gR_sR, gR_sD, gD_sI, gD_sJ, gD_sR, gD_sD, Nat.reduceEqDiff, false_and, and_false, true_and, and_true, and_self, reduceIte, if_true, if_false, ite_true, ite_false]; exact a2 m, fun m => by simp only [gI_sI, gI_sJ, gI_sR, gI_sD, gJ_sI, gJ_sJ, gJ_sR, gJ_sD, gR_sI, gR_sJ, gR_sR, gR_sD, gD_sI, gD_sJ, gD_sR, gD_sD, Nat.reduceEqDiff, false_and, and_false, true_and, and_true, and_self, reduceIte, if_true, if_false, ite_true, ite_false]; exact a3 m, fun c hc g => ?_⟩
  simp only [gI_sI, gI_sJ, gI_sR, gI_sD, gJ_sI, gJ_sJ, gJ_sR, gJ_sD, gR_sI, gR_sJ, gR_sR, gR_sD, gD_sI, gD_sJ, gD_sR, gD_sD, Nat.reduceEqDiff, false_and, and_false, true_and, and_true, and_self, reduceIte, if_true, if_false, ite_true, ite_false]
  exact a4 c hc g
theorem zero_all {x : Int64} {n : Nat} {f : Nat → Bool} (e : ∀ m, bJ x m = (decide (m < n) && f m)) : x = 0 ↔ ∀ m, m < n → f m = false := by
  constructor
  · rintro rfl m hm
    have := e m
    rw [bJ_0] at this
    simpa [hm] using this.symm
  · intro q
    refine bJ_ext (fun i _ => ?_)
    rw [bJ_0, e]
    by_cases hi : i < n
    · simp [q i hi]
    · simp [hi]
theorem one_w (hp : ∃ m, m < nm ∧ lP h b m = true) {N : Nat} (hN : N ≤ 99) {h' : Hp} {Q : Int32 → Hp → Prop} (L : LC h nm b N h')
    (f0 : (∀ c, c < 2 * N → ¬ F1 h nm b c) → Q 0 h')
    (f1 : ∀ c, c < 2 * N → F1 h nm b c → (∀ c', c' < c → ¬ F1 h nm b c') → Q 1 (sI (sI h' 1 0 8 (nI (ct (lG h nm b) c))) 1 0 9 (-1))) : wp_X1_findsOne h' Q := by
  obtain ⟨A, a1, a2, a3, a4⟩ := L
  have le := ct_pair (lG_x hp) N
  unfold wp_X1_findsOne wp_X1_findsOne_b2
  refine LFP2.by (I := fun x z => z = h' ∧ ∃ e, e ≤ ct (lG h nm b) (2 * N) ∧ x = nI e ∧ ∀ c, c < 2 * N → lG h nm b c = true → ct (lG h nm b) c < e → ¬ F1 h nm b c) (μ := fun x _ => 100 - x.toNatClampNeg) ⟨rfl, 0, by omega, rfl, fun c _ _ q => by omega⟩ ?_
  rintro x z ⟨rfl, e, he, rfl, no⟩ P hP
  unfold wp_X1_findsOne_b2F LET
  rw [a1]
  by_cases c : e = ct (lG h nm b) (2 * N)
  · rw [if_pos (by rw [c]; exact nI_le (Nat.le_refl _) (by omega))]
    exact f0 (fun c' hc' q => no c' hc' q.1 (by rw [c]; exact ct_hitlt q.1 hc') q)
  · rw [if_neg (nI_ge (show e < ct (lG h nm b) (2 * N) by omega) (by omega))]
    refine ⟨vp_in_nI (by omega) (by decide), ?_⟩
    rw [nI_clamp (by omega)]
    obtain ⟨c', hc', g, ec⟩ := ct_find (2 * N) (show e < ct (lG h nm b) (2 * N) by omega)
    obtain ⟨-, -, -, m4⟩ := a4 c' hc' g
    rw [ec] at m4
    by_cases q : gJ z 32 0 e = 0
    · rw [if_pos q]
      simp only [forall_eq]
      rw [← ec]
      refine f1 c' hc' ⟨g, (zero_all m4).mp q⟩ (fun c2 hc2 w => ?_)
      exact no c2 (by omega) w.1 (by rw [← ec]; exact ct_hitlt w.1 hc2) w
    · rw [if_neg q]
      simp only [forall_eq]
      refine hP _ _ ⟨rfl, e + 1, by omega, nI_1 e, fun c2 hc2 g2 l2 w => ?_⟩ (by rw [nI_1, nI_clamp (by omega), nI_clamp (by omega)]; omega)
      by_cases l : ct (lG h nm b) c2 < e
      · exact no c2 hc2 g2 l w
      · have : c2 = c' := ct_inj g2 g (by omega)
        subst this
        exact q ((zero_all m4).mpr w.2)
theorem pair_w (hp : ∃ m, m < nm ∧ lP h b m = true) {N : Nat} (hN : N ≤ 99) {h' : Hp} {Q : Int32 → Hp → Prop} (L : LC h nm b N h')
    (f0 : (∀ c d, c < d → d < 2 * N → ¬ F2 h nm b c d) → Q 0 h')
    (f1 : ∀ c d, c < d → d < 2 * N → F2 h nm b c d → (∀ c' d', c' < c → c' < d' → d' < 2 * N → ¬ F2 h nm b c' d') → (∀ d', c < d' → d' < d → ¬ F2 h nm b c d') → Q 1 (sI (sI h' 1 0 8 (nI (ct (lG h nm b) c))) 1 0 9 (nI (ct (lG h nm b) d)))) : wp_X1_findsPair h' Q := by
  obtain ⟨A, a1, a2, a3, a4⟩ := L
  have le := ct_pair (lG_x hp) N
  unfold wp_X1_findsPair wp_X1_findsPair_b2
  refine LFP2.by (I := fun x z => z = h' ∧ ∃ e, e ≤ ct (lG h nm b) (2 * N) ∧ x = nI e ∧ ∀ c d, c < d → d < 2 * N → lG h nm b c = true → ct (lG h nm b) c < e → ¬ F2 h nm b c d) (μ := fun x _ => 100 - x.toNatClampNeg) ⟨rfl, 0, by omega, rfl, fun c _ _ _ _ q => by omega⟩ ?_
  rintro x z ⟨rfl, e, he, rfl, no⟩ P hP
  unfold wp_X1_findsPair_b2F LET
  rw [a1]
  by_cases c : e = ct (lG h nm b) (2 * N)
  · rw [if_pos (by rw [c]; exact nI_le (Nat.le_refl _) (by omega))]
    exact f0 (fun c' d' hcd hd' q => no c' d' hcd hd' q.1 (by rw [c]; exact ct_hitlt q.1 (by omega)) q)
  · rw [if_neg (nI_ge (show e < ct (lG h nm b) (2 * N) by omega) (by omega))]
    simp only [forall_eq]
    obtain ⟨c', hc', g, ec⟩ := ct_find (2 * N) (show e < ct (lG h nm b) (2 * N) by omega)
    obtain ⟨-, -, -, m4⟩ := a4 c' hc' g
    rw [ec] at m4
    unfold wp_X1_findsPair_b14
    refine LFP2.by (I := fun x y => y = z ∧ ∃ e', e < e' ∧ e' ≤ ct (lG h nm b) (2 * N) ∧ x = nI e' ∧ ∀ d, c' < d → d < 2 * N → lG h nm b d = true → ct (lG h nm b) d < e' → ¬ F2 h nm b c' d) (μ := fun x _ => 100 - x.toNatClampNeg) ⟨rfl, e + 1, by omega, by omega, nI_1 e, fun d h1 h2 g2 q => by have := ct_hitlt g h1; omega⟩ ?_
    rintro x y ⟨rfl, e', he1, he2, rfl, no'⟩ P' hP'
    unfold wp_X1_findsPair_b14F LET
    rw [a1]
    by_cases k : e' = ct (lG h nm b) (2 * N)
    · rw [if_pos (by rw [k]; exact nI_le (Nat.le_refl _) (by omega))]
      simp only [forall_eq]
      refine hP _ _ ⟨rfl, e + 1, by omega, nI_1 e, fun c2 d2 h1 h2 g2 l2 w => ?_⟩ (by rw [nI_1, nI_clamp (by omega), nI_clamp (by omega)]; omega)
      by_cases l : ct (lG h nm b) c2 < e
      · exact no c2 d2 h1 h2 g2 l w
      · have : c2 = c' := ct_inj g2 g (by omega)
        subst this
        exact no' d2 h1 h2 w.2.1 (by rw [k]; exact ct_hitlt w.2.1 h2) w
    · rw [if_neg (nI_ge (show e' < ct (lG h nm b) (2 * N) by omega) (by omega))]
      refine ⟨vp_in_nI (by omega) (by decide), vp_in_nI (by omega) (by decide), ?_⟩
      rw [nI_clamp (by omega), nI_clamp (by omega)]
      obtain ⟨d', hd', g', ed⟩ := ct_find (2 * N) (show e' < ct (lG h nm b) (2 * N) by omega)
      obtain ⟨-, -, -, n4⟩ := a4 d' hd' g'
      rw [ed] at n4
      have cd : c' < d' := by
        rcases Nat.lt_or_ge c' d' with q | q
        · exact q
        · have := ct_up (f := lG h nm b) c' d' q
          omega
      have both : ∀ m, bJ (gJ y 32 0 e &&& gJ y 32 0 e') m = (decide (m < nm) && (lM h nm b c' m && lM h nm b d' m)) := fun m => by
        rw [bJ_and, m4, n4]
        cases decide (m < nm) <;> simp
      by_cases q : gJ y 32 0 e &&& gJ y 32 0 e' = 0
      · rw [if_pos q]
        simp only [forall_eq]
        rw [← ec, ← ed]
        refine f1 c' d' cd hd' ⟨g, g', (zero_all both).mp q⟩ (fun c2 d2 h1 h2 h3 w => ?_) (fun d2 h1 h2 w => ?_)
        · exact no c2 d2 h2 h3 w.1 (by rw [← ec]; exact ct_hitlt w.1 h1) w
        · exact no' d2 h1 (by omega) w.2.1 (by rw [← ed]; exact ct_hitlt w.2.1 h2) w
      · rw [if_neg q]
        simp only [forall_eq]
        refine hP' _ _ ⟨rfl, e' + 1, by omega, by omega, nI_1 e', fun d2 h1 h2 g2 l2 w => ?_⟩ (by rw [nI_1, nI_clamp (by omega), nI_clamp (by omega)]; omega)
        by_cases l : ct (lG h nm b) d2 < e'
        · exact no' d2 h1 h2 g2 l w
        · have : d2 = d' := ct_inj g2 g' (by omega)
          subst this
          exact q ((zero_all both).mpr w.2.2)
/-- what the two sides find: x the first, y the second, as the model numbers them -/
def LFd (h : Hp) (nm : Nat) (b : Int32) (N : Nat) (x : Nat) (y : Option Nat) : Prop :=
  x < 2 * N ∧ match y with
  | none => F1 h nm b x ∧ ∀ c', c' < x → ¬ F1 h nm b c'
  | some d => (∀ c, c < 2 * N → ¬ F1 h nm b c) ∧ x < d ∧ d < 2 * N ∧ F2 h nm b x d ∧ (∀ c' d', c' < x → c' < d' → d' < 2 * N → ¬ F2 h nm b c' d') ∧ (∀ d', x < d' → d' < d → ¬ F2 h nm b x d')
def yI (f : Nat → Nat) : Option Nat → Int32
  | none => -1
  | some d => nI (f d)
theorem finds_w (s : SMail d nm h) (hb : inN b 8) {Q : Int32 → Hp → Prop}
    (f0 : (∀ m, m < nm → lP h b m = false) → ∀ h', ag lW h h' → Q 0 h')
    (f1 : (∃ m, m < nm ∧ lP h b m = true) → (∀ c, c < 2 * (59 + lZ h nm) → ¬ F1 h nm b c) → (∀ c d, c < d → d < 2 * (59 + lZ h nm) → ¬ F2 h nm b c d) → ∀ h', ag lW h h' → Q 0 h')
    (f2 : (∃ m, m < nm ∧ lP h b m = true) → ∀ x y, LFd h nm b (59 + lZ h nm) x y → ∀ h', LC h nm b (59 + lZ h nm) h' → gI h' 1 0 8 = nI (ct (lG h nm b) x) → gI h' 1 0 9 = yI (ct (lG h nm b)) y → Q 1 h') : wp_X1_finds b h Q := by
  have z40 : lZ h nm ≤ 40 := Nat.le_trans (lS_ct 999 (by decide)) s.1
  unfold wp_X1_finds
  refine sort_w s hb (fun h1 A1 e6 e7 => ?_)
  by_cases z : gJ h1 1 0 6 = 0
  · rw [if_pos z]
    exact f0 ((zero_all e6).mp z) h1 A1
  · rw [if_neg z]
    have hp : ∃ m, m < nm ∧ lP h b m = true := by
      refine Classical.byContradiction (fun q => z ((zero_all e6).mpr (fun m hm => ?_)))
      cases p : lP h b m
      · rfl
      · exact absurd ⟨m, hm, p⟩ q
    refine tests_w s hp A1 e6 e7 (fun h2 L => ?_)
    refine one_w hp (by omega) L (fun no => ?_) (fun c hc q w => ?_)
    · rw [if_pos rfl]
      refine pair_w hp (by omega) L (fun no2 => ?_) (fun c d hcd hd q w1 w2 => ?_)
      · rw [if_pos rfl]
        exact f1 hp no no2 h2 L.1
      · rw [if_neg z_10.mp]
        exact f2 hp c (some d) ⟨by omega, no, hcd, hd, q, w1, w2⟩ _ (L.set _ _) (by simp only [gI_sI, gI_sJ, gI_sR, gI_sD, gJ_sI, gJ_sJ, gJ_sR, gJ_sD, gR_sI, gR_sJ, gR_sR, gR_sD, gD_sI, gD_sJ, gD_sR, gD_sD, Nat.reduceEqDiff, false_and, and_false, true_and, and_true, and_self, reduceIte, if_true, if_false, ite_true, ite_false]) (by simp only [gI_sI, gI_sJ, gI_sR, gI_sD, gJ_sI, gJ_sJ, gJ_sR, gJ_sD, gR_sI, gR_sJ, gR_sR, gR_sD, gD_sI, gD_sJ, gD_sR, gD_sD, Nat.reduceEqDiff, false_and, and_false, true_and, and_true, and_self, reduceIte, if_true, if_false, ite_true, ite_false]; rfl)
    · rw [if_neg z_10.mp]
      exact f2 hp c none ⟨hc, q, w⟩ _ (L.set _ _) (by simp only [gI_sI, gI_sJ, gI_sR, gI_sD, gJ_sI, gJ_sJ, gJ_sR, gJ_sD, gR_sI, gR_sJ, gR_sR, gR_sD, gD_sI, gD_sJ, gD_sR, gD_sD, Nat.reduceEqDiff, false_and, and_false, true_and, and_true, and_self, reduceIte, if_true, if_false, ite_true, ite_false]) (by simp only [gI_sI, gI_sJ, gI_sR, gI_sD, gJ_sI, gJ_sJ, gJ_sR, gJ_sD, gR_sI, gR_sJ, gR_sR, gR_sD, gD_sI, gD_sJ, gD_sR, gD_sD, Nat.reduceEqDiff, false_and, and_false, true_and, and_true, and_self, reduceIte, if_true, if_false, ite_true, ite_false]; rfl)
end
