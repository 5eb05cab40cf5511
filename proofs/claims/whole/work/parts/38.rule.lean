/-! rules and their actions -/
theorem it_1 {p : Int32} {h : Hp} {Q : Int32 → Prop} {nt : Nat} (e : gI h 11 0 19 = nI nt) (hn : nt ≤ 60) (a : inN p nt) : wp_X11_isTest p h Q = Q 1 := by
  unfold wp_X11_isTest
  rw [inn_1 nt a (by rw [e]; simp) (by omega)]
theorem it_0 {p : Int32} {h : Hp} {Q : Int32 → Prop} {nt : Nat} (e : gI h 11 0 19 = nI nt) (hn : nt ≤ 60) (a : ¬ inN p nt) : wp_X11_isTest p h Q = Q 0 := by
  unfold wp_X11_isTest
  rw [inn_0 nt a (by rw [e]; simp) (by omega)]
theorem ix12 (s r : Nat) : (12 : Int32) * nI s + nI r = nI (12 * s + r) := by rw [show (12 : Int32) = nI 12 from rfl, pk_mul, nI_add]
theorem ix5 (s r : Nat) : (5 : Int32) * nI s + nI r = nI (5 * s + r) := by rw [show (5 : Int32) = nI 5 from rfl, pk_mul, nI_add]
theorem c_rule {i : Nat} {h : Hp} (S : Sim i h) (p1 p2 : Int32) {K : Int32 → Int32 → Hp → Prop} (hK : SK i K) :
    wp_L_rule p1 p2 h (fun r h1 => wp_X11_rule p1 p2 h1 (fun b h2 => K r b h2)) := by
  unfold wp_L_rule wp_X10_rule wp_X11_rule wp_X11_rule_b22 wp_X11_fails wp_X7_append LET
  obtain ⟨d, nm, nt, hd, s1, s2, s3, s4, s5, s6, s7⟩ := id S
  obtain ⟨n60, u1, u2, u3⟩ := id s5
  have f2 : gI (sI h 11 0 0 0) 11 0 19 = nI nt := by simp [gI_sI, gI_sJ, gI_sR, gI_sD, gJ_sI, gJ_sJ, gJ_sR, gJ_sD, gR_sI, gR_sJ, gR_sR, gR_sD, gD_sI, gD_sJ, gD_sR, gD_sD, u2]
  by_cases a1 : inN p1 4
  case neg => simp [rb4_0 a1, i4_0 a1]; exact hK.fail S 1 (by decide) (by exact ag.rfl.sI)
  by_cases a2 : inN p2 nt
  case neg => simp [rb4_1 a1, i4_1 a1, rb_0 nt a2 u1 (by omega), it_0 f2 n60 a2]; exact hK.fail S 1 (by decide) (by exact ag.rfl.sI)
  obtain ⟨m, hm, rfl⟩ := id a1
  have c3 : vp_in (nI m) 4 := vp_in_nI (by omega) (by decide)
  obtain ⟨nr, t1, t2, t3, q, t4, t5, t6⟩ := s6 m hm
  have f3 : ∀ e v x w y z, gI (sI (sJ (sI (sI (sI h 6 e 2 v) 6 e 3 x) 7 m 1 w) 75 0 y z) 11 0 0 0) 11 0 19 = nI nt := fun e v x w y z => by simp [gI_sI, gI_sJ, gI_sR, gI_sD, gJ_sI, gJ_sJ, gJ_sR, gJ_sD, gR_sI, gR_sJ, gR_sR, gR_sD, gD_sI, gD_sJ, gD_sR, gD_sD, u2]
  simp only [rb4_1 a1, i4_1 a1, rb_1 nt a2 u1 (by omega), gI_sI, gI_sJ, gI_sR, gI_sD, gJ_sI, gJ_sJ, gJ_sR, gJ_sD, gR_sI, gR_sJ, gR_sR, gR_sD, gD_sI, gD_sJ, gD_sR, gD_sD, Nat.reduceEqDiff, false_and, and_false, true_and, and_true, and_self, reduceIte, if_true, if_false, ite_true, ite_false, forall_eq, z_10, z_01, z_in, z_cl, z_as, c3, nI_clamp (show m < 2 ^ 31 by omega), t2]
  rcases Nat.lt_or_ge nr 12 with hn | hn
  · have c1 : (nI nr) < 12 := nI_lt hn (by decide)
    have c2 : ¬ nI nr = 12 := fun q => by have := (nI_eq (b := 12) (by omega) (by omega)).mp q; omega
    have c4 : vp_in (nI nr) 12 := vp_in_nI hn (by decide)
    have c5 : vp_in (nI (12 * m + nr)) 48 := vp_in_nI (by omega) (by decide)
    obtain ⟨v1, v2, v3⟩ := t4 nr hn
    have c6 : q nr < 48 := by omega
    simp only [it_1 (f3 _ _ _ _ _ _) n60 a2, gI_sI, gI_sJ, gI_sR, gI_sD, gJ_sI, gJ_sJ, gJ_sR, gJ_sD, gR_sI, gR_sJ, gR_sR, gR_sD, gD_sI, gD_sJ, gD_sR, gD_sD, Nat.reduceEqDiff, false_and, and_false, true_and, and_true, and_self, reduceIte, if_true, if_false, ite_true, ite_false, forall_eq, z_10, z_01, z_in, z_cl, z_as, c1, c2, c4, c5, c6, v1, t2, t3, ix12, nI_clamp (show nr < 2 ^ 31 by omega), nI_clamp (show 12 * m + nr < 2 ^ 31 by omega), Nat.add_right_cancel_iff, exists_eq_left']
    refine hK.go (h := h) (wS [6, 7, 53, 54, 55, 75] [(11, 0)]) (by repeat first | exact ag.rfl | refine ag.sI ?_ rfl | refine ag.sJ ?_ rfl | refine ag.sR ?_ rfl | refine ag.sD ?_ rfl) (fun A => ⟨d, nm, nt, by omega, s1.ag A (wS_dis (by decide)), s2.ag A (wS_dis (by decide)), s3.ag A (wS_dis (by decide)), (s4.mono (by omega) (by omega)).ag A (wS_dis (by decide)), s5.ag A (wS_dis (by decide)), ?_, s7.ag A (wS_dis (by decide))⟩) (by simp [gI_sI, gI_sJ, gI_sR, gI_sD, gJ_sI, gJ_sJ, gJ_sR, gJ_sD, gR_sI, gR_sJ, gR_sR, gR_sD, gD_sI, gD_sJ, gD_sR, gD_sD]) (fun _ => by simp [gI_sI, gI_sJ, gI_sR, gI_sD, gJ_sI, gJ_sJ, gJ_sR, gJ_sD, gR_sI, gR_sJ, gR_sR, gR_sD, gD_sI, gD_sJ, gD_sR, gD_sD])
    intro s hs
    by_cases e : s = m
    · subst e
      refine ⟨nr + 1, by omega, by simp [gI_sI, gI_sJ, gI_sR, gI_sD, gJ_sI, gJ_sJ, gJ_sR, gJ_sD, gR_sI, gR_sJ, gR_sR, gR_sD, gD_sI, gD_sJ, gD_sR, gD_sD, nI_1], by simp [gI_sI, gI_sJ, gI_sR, gI_sD, gJ_sI, gJ_sJ, gJ_sR, gJ_sD, gR_sI, gR_sJ, gR_sR, gR_sD, gD_sI, gD_sJ, gD_sR, gD_sD, nI_1], q, ?_, t5, fun r hr => ?_⟩
      · simp only [gI_sI, gI_sJ, gI_sR, gI_sD, gJ_sI, gJ_sJ, gJ_sR, gJ_sD, gR_sI, gR_sJ, gR_sR, gR_sD, gD_sI, gD_sJ, gD_sR, gD_sD]
        exact t4
      · by_cases er : r = nr
        · subst er
          obtain ⟨y, hy, rfl⟩ := a2
          refine ⟨by simp [gI_sI, gI_sJ, gI_sR, gI_sD, gJ_sI, gJ_sJ, gJ_sR, gJ_sD, gR_sI, gR_sJ, gR_sR, gR_sD, gD_sI, gD_sJ, gD_sR, gD_sD], by simp [gI_sI, gI_sJ, gI_sR, gI_sD, gJ_sI, gJ_sJ, gJ_sR, gJ_sD, gR_sI, gR_sJ, gR_sR, gR_sD, gD_sI, gD_sJ, gD_sR, gD_sD], ⟨y, hy, by simp [gI_sI, gI_sJ, gI_sR, gI_sD, gJ_sI, gJ_sJ, gJ_sR, gJ_sD, gR_sI, gR_sJ, gR_sR, gR_sD, gD_sI, gD_sJ, gD_sR, gD_sD]⟩, 0, by omega, by simp [gI_sI, gI_sJ, gI_sR, gI_sD, gJ_sI, gJ_sJ, gJ_sR, gJ_sD, gR_sI, gR_sJ, gR_sR, gR_sD, gD_sI, gD_sJ, gD_sR, gD_sD]; rfl, fun a ha => absurd ha (by omega)⟩
        · have g1 : ¬ q r = q nr := fun e => er (t5 r nr (by omega) hn e)
          have g2 : ¬ 12 * s + r = 12 * s + nr := by omega
          unfold SrE
          simp only [gI_sI, gI_sJ, gI_sR, gI_sD, gJ_sI, gJ_sJ, gJ_sR, gJ_sD, gR_sI, gR_sJ, gR_sR, gR_sD, gD_sI, gD_sJ, gD_sR, gD_sD, Nat.reduceEqDiff, false_and, and_false, true_and, and_true, and_self, reduceIte, if_true, if_false, ite_true, ite_false, g1, g2]
          exact t6 r (by omega)
    · obtain ⟨nr', t1', t2', t3', q', t4', t5', t6'⟩ := s6 s hs
      refine ⟨nr', t1', by simp [gI_sI, gI_sJ, gI_sR, gI_sD, gJ_sI, gJ_sJ, gJ_sR, gJ_sD, gR_sI, gR_sJ, gR_sR, gR_sD, gD_sI, gD_sJ, gD_sR, gD_sD, e, t2'], by simp [gI_sI, gI_sJ, gI_sR, gI_sD, gJ_sI, gJ_sJ, gJ_sR, gJ_sD, gR_sI, gR_sJ, gR_sR, gR_sD, gD_sI, gD_sJ, gD_sR, gD_sD, e, t3'], q', ?_, t5', fun r hr => ?_⟩
      · simp only [gI_sI, gI_sJ, gI_sR, gI_sD, gJ_sI, gJ_sJ, gJ_sR, gJ_sD, gR_sI, gR_sJ, gR_sR, gR_sD, gD_sI, gD_sJ, gD_sR, gD_sD]
        exact t4'
      · obtain ⟨w1, w2, w3⟩ := t4' r (by omega)
        have g1 : ¬ q' r = q nr := by omega
        have g2 : ¬ 12 * s + r = 12 * m + nr := by omega
        unfold SrE
        simp only [gI_sI, gI_sJ, gI_sR, gI_sD, gJ_sI, gJ_sJ, gJ_sR, gJ_sD, gR_sI, gR_sJ, gR_sR, gR_sD, gD_sI, gD_sJ, gD_sR, gD_sD, Nat.reduceEqDiff, false_and, and_false, true_and, and_true, and_self, reduceIte, if_true, if_false, ite_true, ite_false, g1, g2]
        exact t6' r hr
  · have hn : nr = 12 := by omega
    subst hn
    simp only [it_1 f2 n60 a2, t3, gI_sI, gI_sJ, gI_sR, gI_sD, gJ_sI, gJ_sJ, gJ_sR, gJ_sD, gR_sI, gR_sJ, gR_sR, gR_sD, gD_sI, gD_sJ, gD_sR, gD_sD, Nat.reduceEqDiff, false_and, and_false, true_and, and_true, and_self, reduceIte, if_true, if_false, ite_true, ite_false, forall_eq, z_10, z_01, z_in, z_cl, z_as, show ¬ nI 12 < 12 by decide, show nI 12 = 12 by rfl, show ¬ (12 : Int32) < 12 by decide, String.reduceEq]
    exact hK.fail S 2 (by decide) (by exact ag.rfl.sI)
