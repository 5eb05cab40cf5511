/-! learn: the class lists the tests -/
theorem ct_pairs {f : Nat → Bool} (u : ∀ j, f (2 * j) = true → f (2 * j + 1) = true → False) {n c : Nat} (hc : c = 2 * n ∨ c = 2 * n + 1) (h : f c = true) : ct f c = ct f (2 * n) ∧ ct f (2 * (n + 1)) = ct f (2 * n) + 1 ∧ ∀ x, x < 2 * (n + 1) → f x = true → x < 2 * n ∨ x = c := by
  rw [show 2 * (n + 1) = 2 * n + 1 + 1 by omega]
  rcases hc with rfl | rfl
  · have g : f (2 * n + 1) = false := by
      cases q : f (2 * n + 1)
      · rfl
      · exact absurd q (fun q => u n h q)
    refine ⟨rfl, by rw [ct_miss g, ct_hit h], fun x hx fx => ?_⟩
    by_cases e : x = 2 * n + 1
    · rw [e, g] at fx; cases fx
    · omega
  · have g : f (2 * n) = false := by
      cases q : f (2 * n)
      · rfl
      · exact absurd h (fun h => u n q h)
    refine ⟨ct_miss g, by rw [ct_hit h, ct_miss g], fun x hx fx => ?_⟩
    by_cases e : x = 2 * n
    · rw [e, g] at fx; cases fx
    · omega
def lW : Nat → Nat → Bool := wS [29, 30, 31, 32] [(1, 5), (1, 6), (1, 7), (1, 8), (1, 9)]
section
variable (h : Hp) (nm : Nat) (b : Int32)
def LC (n : Nat) (h' : Hp) : Prop :=
  ag lW h h' ∧ gI h' 1 0 5 = nI (ct (lG h nm b) (2 * n)) ∧ (∀ m, bJ (gJ h' 1 0 6) m = (decide (m < nm) && lP h b m)) ∧ (∀ m, bJ (gJ h' 1 0 7) m = (decide (m < nm) && (decide (kM h m) && !lP h b m)))
  ∧ ∀ c, c < 2 * n → lG h nm b c = true → gI h' 29 0 (ct (lG h nm b) c) = lK h nm (c / 2) ∧ gI h' 30 0 (ct (lG h nm b) c) = lA h nm (c / 2) ∧ gI h' 31 0 (ct (lG h nm b) c) = nI (c % 2) ∧ ∀ m, bJ (gJ h' 32 0 (ct (lG h nm b) c)) m = (decide (m < nm) && lM h nm b c m)
end
section
variable {h : Hp} {d nm : Nat} {b : Int32}
theorem SMail.kBM (s : SMail d nm h) {m : Nat} (hm : m < nm) : kB h m ↔ kM h m := by
  obtain ⟨q1, q2, -⟩ := s.2.2.2.2.1 m (by have := s.1; omega)
  unfold kB kM
  rw [q1, q2]
theorem put_w (hp : ∃ m, m < nm ∧ lP h b m = true) {n c : Nat} {h' : Hp} {met : Int64} {Q : Hp → Prop} (hn : n < 99) (hz : n < 59 + lZ h nm) (hc : c = 2 * n ∨ c = 2 * n + 1) (g : lG h nm b c = true) (L : LC h nm b n h') (hm : ∀ m, bJ met m = (decide (m < nm) && lV h nm n m)) (n40 : nm ≤ 40)
    (f : ∀ h'', LC h nm b (n + 1) h'' → Q h'') : wp_X1_list_b96 (lK h nm n) (lA h nm n) met (nI (c % 2)) h' Q := by
  obtain ⟨A, e5, e6, e7, en⟩ := L
  have hx := lG_x hp
  have le := ct_pair hx n
  obtain ⟨g1, g2, g3⟩ := ct_pairs hx hc g
  have hc2 : c / 2 = n := by omega
  obtain ⟨-, -, -, nar⟩ := cK_ok (lS h nm) hz
  have v99 : vp_in (nI (ct (lG h nm b) (2 * n))) 99 := vp_in_nI (by omega) (by decide)
  have nar' : vp_nar .char (lK h nm n) = lK h nm n := nar
  have bn : vp_nar .boolean (nI (c % 2)) = nI (c % 2) := by
    rcases hc with rfl | rfl
    · rw [show 2 * n % 2 = 0 by omega]; decide
    · rw [show (2 * n + 1) % 2 = 1 by omega]; decide
  have fin : ∀ w : Int64, (∀ m, bJ w m = (decide (m < nm) && lM h nm b c m)) → Q (sI (sJ (sI (sI (sI h' 29 0 (ct (lG h nm b) (2 * n)) (lK h nm n)) 30 0 (ct (lG h nm b) (2 * n)) (lA h nm n)) 31 0 (ct (lG h nm b) (2 * n)) (nI (c % 2))) 32 0 (ct (lG h nm b) (2 * n)) w) 1 0 5 (nI (ct (lG h nm b) (2 * n)) + 1)) := by
    intro w hw
    refine f _ ⟨?_, ?_, ?_, ?_, ?_⟩
    · exact (((((A.sI rfl).sI rfl).sI rfl).sJ rfl).sI rfl)
    · rw [g2]; simp only [gI_sI, gI_sJ, gI_sR, gI_sD, gJ_sI, gJ_sJ, gJ_sR, gJ_sD, gR_sI, gR_sJ, gR_sR, gR_sD, gD_sI, gD_sJ, gD_sR, gD_sD, Nat.reduceEqDiff, false_and, and_false, true_and, and_true, and_self, reduceIte, if_true, if_false, ite_true, ite_false, nI_1]
    · intro m; simp only [gI_sI, gI_sJ, gI_sR, gI_sD, gJ_sI, gJ_sJ, gJ_sR, gJ_sD, gR_sI, gR_sJ, gR_sR, gR_sD, gD_sI, gD_sJ, gD_sR, gD_sD, Nat.reduceEqDiff, false_and, and_false, true_and, and_true, and_self, reduceIte, if_true, if_false, ite_true, ite_false]; exact e6 m
    · intro m; simp only [gI_sI, gI_sJ, gI_sR, gI_sD, gJ_sI, gJ_sJ, gJ_sR, gJ_sD, gR_sI, gR_sJ, gR_sR, gR_sD, gD_sI, gD_sJ, gD_sR, gD_sD, Nat.reduceEqDiff, false_and, and_false, true_and, and_true, and_self, reduceIte, if_true, if_false, ite_true, ite_false]; exact e7 m
    · intro x hx' gx
      rcases g3 x hx' gx with q | q
      · have ne : ct (lG h nm b) x ≠ ct (lG h nm b) (2 * n) := Nat.ne_of_lt (ct_hitlt gx q)
        simp only [gI_sI, gI_sJ, gI_sR, gI_sD, gJ_sI, gJ_sJ, gJ_sR, gJ_sD, gR_sI, gR_sJ, gR_sR, gR_sD, gD_sI, gD_sJ, gD_sR, gD_sD, Nat.reduceEqDiff, false_and, and_false, true_and, and_true, and_self, reduceIte, if_true, if_false, ite_true, ite_false, ne]
        exact en x q gx
      · subst q
        rw [g1, hc2]
        simp only [gI_sI, gI_sJ, gI_sR, gI_sD, gJ_sI, gJ_sJ, gJ_sR, gJ_sD, gR_sI, gR_sJ, gR_sR, gR_sD, gD_sI, gD_sJ, gD_sR, gD_sD, Nat.reduceEqDiff, false_and, and_false, true_and, and_true, and_self, reduceIte, if_true, if_false, ite_true, ite_false]
        exact hw
  unfold wp_X1_list_b96 LET
  simp only [forall_eq, gI_sI, gI_sJ, gI_sR, gI_sD, gJ_sI, gJ_sJ, gJ_sR, gJ_sD, gR_sI, gR_sJ, gR_sR, gR_sD, gD_sI, gD_sJ, gD_sR, gD_sD, Nat.reduceEqDiff, false_and, and_false, true_and, and_true, and_self, reduceIte, if_true, if_false, ite_true, ite_false, e5, v99, nI_clamp (show ct (lG h nm b) (2 * n) < 2 ^ 31 by omega), nar', bn]
  unfold wp_X1_list_b153 LET
  simp only [forall_eq, gI_sI, gI_sJ, gI_sR, gI_sD, gJ_sI, gJ_sJ, gJ_sR, gJ_sD, gR_sI, gR_sJ, gR_sR, gR_sD, gD_sI, gD_sJ, gD_sR, gD_sD, Nat.reduceEqDiff, false_and, and_false, true_and, and_true, and_self, reduceIte, if_true, if_false, ite_true, ite_false, e5, v99, nI_clamp (show ct (lG h nm b) (2 * n) < 2 ^ 31 by omega)]
  rcases hc with rfl | rfl
  · rw [show 2 * n % 2 = 0 by omega] at fin ⊢
    rw [if_pos (show nI 0 = 0 from rfl)]
    refine fin _ (fun m => ?_)
    rw [bJ_and, e7, hm]
    unfold lM
    rw [lHd_0]
    cases decide (m < nm) <;> simp
  · rw [show (2 * n + 1) % 2 = 1 by omega] at fin ⊢
    rw [if_neg (show ¬ nI 1 = 0 by decide)]
    refine fin _ (fun m => ?_)
    by_cases m64 : m < 64
    · rw [bJ_and, e7, bJ_not _ m64, hm]
      unfold lM
      rw [lHd_1]
      cases decide (m < nm) <;> simp
    · rw [bJ_big (by omega)]
      simp [show ¬ m < nm by omega]
theorem list_w (s : SMail d nm h) (hp : ∃ m, m < nm ∧ lP h b m = true) {n : Nat} {h' : Hp} {k a : Int32} {Q : Hp → Prop} (hn : n < 99) (hz : n < 59 + lZ h nm) (hk : k = lK h nm n) (ha : a = lA h nm n) (L : LC h nm b n h')
    (f : ∀ h'', LC h nm b (n + 1) h'' → Q h'') : wp_X1_list k a h' Q := by
  obtain ⟨n40, c1, c2, sv, sd, sx⟩ := id s
  obtain ⟨A, e5, e6, e7, en⟩ := id L
  subst hk ha
  have hx := lG_x hp
  have le := ct_pair hx n
  have lf : leafOK (lK h nm n) (lA h nm n) := (cK_ok (lS h nm) hz).1
  have e36 : gI h' 3 0 6 = nI nm := by rw [A.I 3 0 6, c1]
  unfold wp_X1_list wp_X1_list_b5
  refine LFP3.by (I := fun x y z => z = h' ∧ ∃ m, m ≤ nm ∧ y = nI m ∧ ∀ i, bJ x i = (decide (i < m) && lV h nm n i)) (μ := fun _ y _ => 40 - y.toNatClampNeg) ⟨rfl, 0, by omega, rfl, fun i => by rw [bJ_0]; simp⟩ ?_
  rintro x y z ⟨rfl, m, hm, rfl, hb⟩ P hP
  unfold wp_X1_list_b5F
  rw [e36]
  by_cases c : m = nm
  · subst c
    rw [if_pos (nI_le (Nat.le_refl _) (by omega))]
    have ne5 : ¬ (99 : Int32) ≤ gI z 1 0 5 := by rw [e5]; exact nI_ge (b := 99) (show ct (lG h m b) (2 * n) < 99 by omega) (by omega)
    by_cases q : x &&& gJ z 1 0 6 = 0
    · rw [if_pos q]
      unfold wp_X1_list_b65
      rw [if_neg ne5, if_neg z_10.mp]
      have g : lG h m b (2 * n + 1) = true := by
        rw [lG_iff]
        intro i hi p
        have := congrArg (fun v => bJ v i) q
        simp only [bJ_and, bJ_0, hb, e6, hi, p, decide_true, Bool.true_and, Bool.and_true] at this
        rw [lHd_1, this]; rfl
      have r := put_w (c := 2 * n + 1) hp hn hz (Or.inr rfl) g L hb n40 f
      rw [show (2 * n + 1) % 2 = 1 by omega] at r
      exact r
    · rw [if_neg q]
      have g1 : lG h m b (2 * n + 1) = false := by
        cases g : lG h m b (2 * n + 1)
        · rfl
        · refine absurd (bJ_ext (fun i _ => ?_)) q
          rw [bJ_and, bJ_0, hb, e6]
          by_cases hi : i < m
          · cases p : lP h b i
            · simp
            · have := lG_iff.mp g i hi p
              rw [lHd_1] at this
              simp at this
              simp [this]
          · simp [hi]
      unfold wp_X1_list_b65
      rw [if_neg ne5, if_pos rfl]
      by_cases q' : gJ z 1 0 6 &&& (x ^^^ (-1)) = 0
      · rw [if_pos q']
        have g : lG h m b (2 * n) = true := by
          rw [lG_iff]
          intro i hi p
          have := congrArg (fun v => bJ v i) q'
          simp only [bJ_and, bJ_0, bJ_not _ (show i < 64 by omega), hb, e6, hi, p, decide_true, Bool.true_and] at this
          rw [lHd_0]
          simpa using this
        have r := put_w (c := 2 * n) hp hn hz (Or.inl rfl) g L hb n40 f
        rw [show 2 * n % 2 = 0 by omega] at r
        exact r
      · rw [if_neg q']
        have g0 : lG h m b (2 * n) = false := by
          cases g : lG h m b (2 * n)
          · rfl
          · refine absurd (bJ_ext (fun i i64 => ?_)) q'
            rw [bJ_and, bJ_0, bJ_not _ i64, hb, e6]
            by_cases hi : i < m
            · cases p : lP h b i
              · simp
              · have := lG_iff.mp g i hi p
                rw [lHd_0] at this
                simp [this]
            · simp [hi]
        refine f _ ⟨A, ?_, e6, e7, fun c hc g => ?_⟩
        · rw [e5, show 2 * (n + 1) = 2 * n + 1 + 1 by omega, ct_miss g1, ct_miss g0]
        · refine en c ?_ g
          by_cases w : c = 2 * n
          · rw [w, g0] at g; cases g
          by_cases w : c = 2 * n + 1
          · rw [w, g1] at g; cases g
          omega
  · rw [if_neg (nI_ge (show m < nm by omega) (by omega))]
    refine ⟨vp_in_nI (by omega) (by decide), ?_⟩
    rw [nI_clamp (by omega)]
    obtain ⟨V, E⟩ := sv m (by omega)
    rw [fits_w lf (by rw [A.I 2 m 1, E.2.1]; exact recv_ok V.2.1)]
    have t : fit (mC z m 0) (lK h nm n) (lA h nm n) = lV h nm n m := by
      rw [show mC z m 0 = mC h m 0 from by unfold mC; simp only [fun k => A.I 2 m k]]
      exact mM_mC E
    rw [t]
    unfold wp_X1_list_b43 LET
    simp only [forall_eq]
    have step : ∀ v, (∀ i, bJ v i = (decide (i < m + 1) && lV h nm n i)) → P v (nI m + 1) z := fun v hv => hP _ _ _ ⟨rfl, m + 1, by omega, nI_1 m, hv⟩ (by rw [nI_1, nI_clamp (by omega), nI_clamp (by omega)]; omega)
    cases v : lV h nm n m
    · rw [if_pos (show bit01 false = 0 from rfl)]
      refine step _ (fun i => ?_)
      rw [hb]
      by_cases e : i = m
      · subst e; simp [v]
      · rw [show decide (i < m + 1) = decide (i < m) by rw [decide_eq_decide]; omega]
    · rw [if_neg (show ¬ bit01 true = 0 by decide)]
      refine step _ (fun i => ?_)
      rw [bJ_or, hb, bJ_sh (by omega)]
      by_cases e : i = m
      · subst e; simp [v]
      · rw [show decide (i < m + 1) = decide (i < m) by rw [decide_eq_decide]; omega]
        simp [show ¬ m = i from fun q => e q.symm]
theorem lkind_w (s : SMail d nm h) (hp : ∃ m, m < nm ∧ lP h b m = true) {n N : Nat} {h' : Hp} {k : Int32} {Q : Hp → Prop} (hn : n + N ≤ 99) (hz : n + N ≤ 59 + lZ h nm) (hk : ∀ j, j < N → k = lK h nm (n + j) ∧ nI j = lA h nm (n + j)) (L : LC h nm b n h')
    (f : ∀ h'', LC h nm b (n + N) h'' → Q h'') : wp_X1_listKind k (nI N) h' Q := by
  unfold wp_X1_listKind wp_X1_listKind_b2
  refine LFP2.by (I := fun x z => ∃ j, j ≤ N ∧ x = nI j ∧ LC h nm b (n + j) z) (μ := fun x _ => 100 - x.toNatClampNeg) ⟨0, by omega, rfl, L⟩ ?_
  rintro x z ⟨j, hj, rfl, L'⟩ P hP
  unfold wp_X1_listKind_b2F LET
  by_cases c : j = N
  · subst c
    rw [if_pos (nI_le (Nat.le_refl _) (by omega))]
    exact f _ L'
  · rw [if_neg (nI_ge (show j < N by omega) (by omega))]
    refine list_w s hp (n := n + j) (by omega) (by omega) (hk j (by omega)).1 (hk j (by omega)).2 L' (fun h'' L'' => ?_)
    simp only [forall_eq]
    exact hP _ _ ⟨j + 1, by omega, nI_1 j, L''⟩ (by rw [nI_1, nI_clamp (by omega), nI_clamp (by omega)]; omega)
end
