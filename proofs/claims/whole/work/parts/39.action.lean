/-! actions -/
theorem ir_1 {s r : Nat} {h : Hp} {Q : Int32 → Prop} {nr : Nat} (hs : s < 4) (hn : nr ≤ 12) (e : gI h 53 0 s = nI nr) (a : inN (nI r) nr) : wp_X11_isRule (nI s) (nI r) h Q = Q 1 := by
  unfold wp_X11_isRule
  simp only [i4_1 ⟨s, hs, rfl⟩, gI_sI, gI_sJ, gI_sR, gI_sD, gJ_sI, gJ_sJ, gJ_sR, gJ_sD, gR_sI, gR_sJ, gR_sR, gR_sD, gD_sI, gD_sJ, gD_sR, gD_sD, Nat.reduceEqDiff, false_and, and_false, true_and, and_true, and_self, reduceIte, if_true, if_false, ite_true, ite_false, forall_eq, z_10, z_01, z_in, z_cl, z_as, vp_in_nI (N := 4) hs (by decide), nI_clamp (show s < 2 ^ 31 by omega), inn_1 nr a (show gI h 53 0 s - 1 + 1 = nI nr by rw [e]; simp) (by omega)]
theorem ir_0 {s : Nat} {p : Int32} {h : Hp} {Q : Int32 → Prop} {nr : Nat} (hs : s < 4) (hn : nr ≤ 12) (e : gI h 53 0 s = nI nr) (a : ¬ inN p nr) : wp_X11_isRule (nI s) p h Q = Q 0 := by
  unfold wp_X11_isRule
  simp only [i4_1 ⟨s, hs, rfl⟩, gI_sI, gI_sJ, gI_sR, gI_sD, gJ_sI, gJ_sJ, gJ_sR, gJ_sD, gR_sI, gR_sJ, gR_sR, gR_sD, gD_sI, gD_sJ, gD_sR, gD_sD, Nat.reduceEqDiff, false_and, and_false, true_and, and_true, and_self, reduceIte, if_true, if_false, ite_true, ite_false, forall_eq, z_10, z_01, z_in, z_cl, z_as, vp_in_nI (N := 4) hs (by decide), nI_clamp (show s < 2 ^ 31 by omega), inn_0 nr a (show gI h 53 0 s - 1 + 1 = nI nr by rw [e]; simp) (by omega)]
theorem ir_n {p p' : Int32} {h : Hp} {Q : Int32 → Prop} (a : ¬ inN p 4) : wp_X11_isRule p p' h Q = Q 0 := by
  unfold wp_X11_isRule
  simp only [i4_0 a, gI_sI, gI_sJ, gI_sR, gI_sD, gJ_sI, gJ_sJ, gJ_sR, gJ_sD, gR_sI, gR_sJ, gR_sR, gR_sD, gD_sI, gD_sJ, gD_sR, gD_sD, Nat.reduceEqDiff, false_and, and_false, true_and, and_true, and_self, reduceIte, if_true, if_false, ite_true, ite_false, forall_eq, z_10, z_01, z_in, z_cl, z_as]
theorem rr_1 {s r : Nat} {h : Hp} {Q : Prop} {Z : String → Prop} {nr : Nat} (hs : s < 4) (hn : nr ≤ 12) (e : gI h 7 s 1 = nI nr) (a : inN (nI r) nr) : wp_X10_requireRule (nI s) (nI r) h Q Z = Q := by
  unfold wp_X10_requireRule
  simp only [rb4_1 ⟨s, hs, rfl⟩, gI_sI, gI_sJ, gI_sR, gI_sD, gJ_sI, gJ_sJ, gJ_sR, gJ_sD, gR_sI, gR_sJ, gR_sR, gR_sD, gD_sI, gD_sJ, gD_sR, gD_sD, Nat.reduceEqDiff, false_and, and_false, true_and, and_true, and_self, reduceIte, if_true, if_false, ite_true, ite_false, forall_eq, z_10, z_01, z_in, z_cl, z_as, vp_in_nI (N := 4) hs (by decide), nI_clamp (show s < 2 ^ 31 by omega), rb_1 nr a e (by omega)]
theorem rr_0 {s : Nat} {p : Int32} {h : Hp} {Q : Prop} {Z : String → Prop} {nr : Nat} (hs : s < 4) (hn : nr ≤ 12) (e : gI h 7 s 1 = nI nr) (a : ¬ inN p nr) : wp_X10_requireRule (nI s) p h Q Z = Z "java/lang/IndexOutOfBoundsException" := by
  unfold wp_X10_requireRule
  simp only [rb4_1 ⟨s, hs, rfl⟩, gI_sI, gI_sJ, gI_sR, gI_sD, gJ_sI, gJ_sJ, gJ_sR, gJ_sD, gR_sI, gR_sJ, gR_sR, gR_sD, gD_sI, gD_sJ, gD_sR, gD_sD, Nat.reduceEqDiff, false_and, and_false, true_and, and_true, and_self, reduceIte, if_true, if_false, ite_true, ite_false, forall_eq, z_10, z_01, z_in, z_cl, z_as, vp_in_nI (N := 4) hs (by decide), nI_clamp (show s < 2 ^ 31 by omega), rb_0 nr a e (by omega)]
theorem rr_n {p p' : Int32} {h : Hp} {Q : Prop} {Z : String → Prop} (a : ¬ inN p 4) : wp_X10_requireRule p p' h Q Z = Z "java/lang/IndexOutOfBoundsException" := by
  unfold wp_X10_requireRule
  simp only [rb4_0 a]
theorem c_action {i : Nat} {h : Hp} (S : Sim i h) (p1 p2 p3 p4 : Int32) (hc : vp_nar .char p3 = p3) {K : Int32 → Int32 → Hp → Prop} (hK : SK i K) :
    wp_L_action p1 p2 p3 p4 h (fun r h1 => wp_X11_action p1 p2 p3 p4 h1 (fun b h2 => K r b h2)) := by
  unfold wp_L_action wp_X10_action wp_X11_action wp_X11_fails wp_X6_append LET
  obtain ⟨d, nm, nt, hd, s1, s2, s3, s4, s5, s6, s7⟩ := id S
  by_cases a1 : inN p1 4
  case neg => simp [rr_n a1, ir_n a1]; exact hK.fail S 1 (by decide) (by exact ag.rfl.sI)
  obtain ⟨m, hm, rfl⟩ := id a1
  have c3 : vp_in (nI m) 4 := vp_in_nI (by omega) (by decide)
  obtain ⟨nr, t1, t2, t3, q, t4, t5, t6⟩ := id (s6 m hm)
  have f2 : gI (sI h 11 0 0 0) 53 0 m = nI nr := by simp [gI_sI, gI_sJ, gI_sR, gI_sD, gJ_sI, gJ_sJ, gJ_sR, gJ_sD, gR_sI, gR_sJ, gR_sR, gR_sD, gD_sI, gD_sJ, gD_sR, gD_sD, t3]
  by_cases a2 : inN p2 nr
  case neg => simp [rr_0 hm t1 t2 a2, ir_0 hm t1 f2 a2]; exact hK.fail S 1 (by decide) (by exact ag.rfl.sI)
  obtain ⟨r, hr, rfl⟩ := id a2
  by_cases a3 : SaV p3 p4
  case neg => simp [rr_1 hm t1 t2 a2, ir_1 hm t1 f2 a2, aa_0 a3, ia_0 a3]; exact hK.fail S 2 (by decide) (by exact ag.rfl.sI)
  have c4 : vp_in (nI r) 12 := vp_in_nI (by omega) (by decide)
  have c5 : vp_in (nI (12 * m + r)) 48 := vp_in_nI (by omega) (by decide)
  obtain ⟨v1, v2, v3⟩ := t4 r (by omega)
  have c6 : q r < 48 := by omega
  obtain ⟨x1, x2, x3, c, y1, y2, y3⟩ := id (t6 r hr)
  rw [y2] at x2
  simp only [rr_1 hm t1 t2 a2, aa_1 a3, gI_sI, gI_sJ, gI_sR, gI_sD, gJ_sI, gJ_sJ, gJ_sR, gJ_sD, gR_sI, gR_sJ, gR_sR, gR_sD, gD_sI, gD_sJ, gD_sR, gD_sD, Nat.reduceEqDiff, false_and, and_false, true_and, and_true, and_self, reduceIte, if_true, if_false, ite_true, ite_false, forall_eq, z_10, z_01, z_in, z_cl, z_as, c3, c4, nI_clamp (show m < 2 ^ 31 by omega), nI_clamp (show r < 2 ^ 31 by omega), v1, c6, x2, Nat.add_right_cancel_iff, exists_eq_left', hc]
  rcases Nat.lt_or_ge c 5 with hn | hn
  · have c1 : (nI c) < 5 := nI_lt hn (by decide)
    have c2 : ¬ nI c = 5 := fun q => by have := (nI_eq (b := 5) (by omega) (by omega)).mp q; omega
    have c7 : vp_in (nI c) 5 := vp_in_nI hn (by decide)
    have c8 : vp_in (nI (5 * (12 * m + r) + c)) 240 := vp_in_nI (by omega) (by decide)
    have f3 : ∀ a b v w x y z y', gI (sI (sJ (sI (sI (sI h 23 a b v) 24 a b w) 6 a 3 x) 75 0 y z) 11 0 0 y') 53 0 m = nI nr := fun a b v w x y z y' => by simp [gI_sI, gI_sJ, gI_sR, gI_sD, gJ_sI, gJ_sJ, gJ_sR, gJ_sD, gR_sI, gR_sJ, gR_sR, gR_sD, gD_sI, gD_sJ, gD_sR, gD_sD, t3]
    simp only [ir_1 hm t1 (f3 _ _ _ _ _ _ _ _) a2, ia_1 a3, gI_sI, gI_sJ, gI_sR, gI_sD, gJ_sI, gJ_sJ, gJ_sR, gJ_sD, gR_sI, gR_sJ, gR_sR, gR_sD, gD_sI, gD_sJ, gD_sR, gD_sD, Nat.reduceEqDiff, false_and, and_false, true_and, and_true, and_self, reduceIte, if_true, if_false, ite_true, ite_false, forall_eq, z_10, z_01, z_in, z_cl, z_as, c1, c2, c5, c7, c8, x2, y2, ix12, ix5, nI_clamp (show c < 2 ^ 31 by omega), nI_clamp (show 12 * m + r < 2 ^ 31 by omega), nI_clamp (show 5 * (12 * m + r) + c < 2 ^ 31 by omega), hc]
    refine hK.go (h := h) (wS [6, 23, 24, 55, 56, 57, 75] [(11, 0)]) (by repeat first | exact ag.rfl | refine ag.sI ?_ rfl | refine ag.sJ ?_ rfl | refine ag.sR ?_ rfl | refine ag.sD ?_ rfl) (fun A => ⟨d, nm, nt, by omega, s1.ag A (wS_dis (by decide)), s2.ag A (wS_dis (by decide)), s3.ag A (wS_dis (by decide)), (s4.mono (by omega) (by omega)).ag A (wS_dis (by decide)), s5.ag A (wS_dis (by decide)), ?_, s7.ag A (wS_dis (by decide))⟩) (by simp [gI_sI, gI_sJ, gI_sR, gI_sD, gJ_sI, gJ_sJ, gJ_sR, gJ_sD, gR_sI, gR_sJ, gR_sR, gR_sD, gD_sI, gD_sJ, gD_sR, gD_sD]) (fun _ => by simp [gI_sI, gI_sJ, gI_sR, gI_sD, gJ_sI, gJ_sJ, gJ_sR, gJ_sD, gR_sI, gR_sJ, gR_sR, gR_sD, gD_sI, gD_sJ, gD_sR, gD_sD])
    intro s hs
    by_cases e : s = m
    · subst e
      refine ⟨nr, t1, by simp [gI_sI, gI_sJ, gI_sR, gI_sD, gJ_sI, gJ_sJ, gJ_sR, gJ_sD, gR_sI, gR_sJ, gR_sR, gR_sD, gD_sI, gD_sJ, gD_sR, gD_sD, t2], by simp [gI_sI, gI_sJ, gI_sR, gI_sD, gJ_sI, gJ_sJ, gJ_sR, gJ_sD, gR_sI, gR_sJ, gR_sR, gR_sD, gD_sI, gD_sJ, gD_sR, gD_sD, t3], q, ?_, t5, fun r' hr' => ?_⟩
      · simp only [gI_sI, gI_sJ, gI_sR, gI_sD, gJ_sI, gJ_sJ, gJ_sR, gJ_sD, gR_sI, gR_sJ, gR_sR, gR_sD, gD_sI, gD_sJ, gD_sR, gD_sD]
        exact t4
      · by_cases er : r' = r
        · subst er
          refine ⟨by simp [gI_sI, gI_sJ, gI_sR, gI_sD, gJ_sI, gJ_sJ, gJ_sR, gJ_sD, gR_sI, gR_sJ, gR_sR, gR_sD, gD_sI, gD_sJ, gD_sR, gD_sD, x1], by simp [gI_sI, gI_sJ, gI_sR, gI_sD, gJ_sI, gJ_sJ, gJ_sR, gJ_sD, gR_sI, gR_sJ, gR_sR, gR_sD, gD_sI, gD_sJ, gD_sR, gD_sD], by simpa [gI_sI, gI_sJ, gI_sR, gI_sD, gJ_sI, gJ_sJ, gJ_sR, gJ_sD, gR_sI, gR_sJ, gR_sR, gR_sD, gD_sI, gD_sJ, gD_sR, gD_sD] using x3, c + 1, by omega, by simp [gI_sI, gI_sJ, gI_sR, gI_sD, gJ_sI, gJ_sJ, gJ_sR, gJ_sD, gR_sI, gR_sJ, gR_sR, gR_sD, gD_sI, gD_sJ, gD_sR, gD_sD, nI_1], fun a ha => ?_⟩
          by_cases ea : a = c
          · subst ea
            simp [gI_sI, gI_sJ, gI_sR, gI_sD, gJ_sI, gJ_sJ, gJ_sR, gJ_sD, gR_sI, gR_sJ, gR_sR, gR_sD, gD_sI, gD_sJ, gD_sR, gD_sD, a3]
          · simp only [gI_sI, gI_sJ, gI_sR, gI_sD, gJ_sI, gJ_sJ, gJ_sR, gJ_sD, gR_sI, gR_sJ, gR_sR, gR_sD, gD_sI, gD_sJ, gD_sR, gD_sD, Nat.reduceEqDiff, false_and, and_false, true_and, and_true, and_self, reduceIte, if_true, if_false, ite_true, ite_false, ea, show ¬ 5 * (12 * s + r') + a = 5 * (12 * s + r') + c by omega]
            exact y3 a (by omega)
        · have g1 : ¬ q r' = q r := fun e => er (t5 r' r (by omega) (by omega) e)
          have g2 : ¬ 12 * s + r' = 12 * s + r := by omega
          obtain ⟨x1', x2', x3', c', y1', y2', y3'⟩ := t6 r' hr'
          refine ⟨by simp [gI_sI, gI_sJ, gI_sR, gI_sD, gJ_sI, gJ_sJ, gJ_sR, gJ_sD, gR_sI, gR_sJ, gR_sR, gR_sD, gD_sI, gD_sJ, gD_sR, gD_sD, x1', g1], by simp [gI_sI, gI_sJ, gI_sR, gI_sD, gJ_sI, gJ_sJ, gJ_sR, gJ_sD, gR_sI, gR_sJ, gR_sR, gR_sD, gD_sI, gD_sJ, gD_sR, gD_sD, x2', g1, er], by simpa [gI_sI, gI_sJ, gI_sR, gI_sD, gJ_sI, gJ_sJ, gJ_sR, gJ_sD, gR_sI, gR_sJ, gR_sR, gR_sD, gD_sI, gD_sJ, gD_sR, gD_sD] using x3', c', y1', by simp [gI_sI, gI_sJ, gI_sR, gI_sD, gJ_sI, gJ_sJ, gJ_sR, gJ_sD, gR_sI, gR_sJ, gR_sR, gR_sD, gD_sI, gD_sJ, gD_sR, gD_sD, y2', er], fun a ha => ?_⟩
          simp only [gI_sI, gI_sJ, gI_sR, gI_sD, gJ_sI, gJ_sJ, gJ_sR, gJ_sD, gR_sI, gR_sJ, gR_sR, gR_sD, gD_sI, gD_sJ, gD_sR, gD_sD, Nat.reduceEqDiff, false_and, and_false, true_and, and_true, and_self, reduceIte, if_true, if_false, ite_true, ite_false, g1, show ¬ 5 * (12 * s + r') + a = 5 * (12 * s + r) + c by omega]
          exact y3' a ha
    · obtain ⟨nr', t1', t2', t3', q', t4', t5', t6'⟩ := s6 s hs
      refine ⟨nr', t1', by simp [gI_sI, gI_sJ, gI_sR, gI_sD, gJ_sI, gJ_sJ, gJ_sR, gJ_sD, gR_sI, gR_sJ, gR_sR, gR_sD, gD_sI, gD_sJ, gD_sR, gD_sD, e, t2'], by simp [gI_sI, gI_sJ, gI_sR, gI_sD, gJ_sI, gJ_sJ, gJ_sR, gJ_sD, gR_sI, gR_sJ, gR_sR, gR_sD, gD_sI, gD_sJ, gD_sR, gD_sD, e, t3'], q', ?_, t5', fun r' hr' => ?_⟩
      · simp only [gI_sI, gI_sJ, gI_sR, gI_sD, gJ_sI, gJ_sJ, gJ_sR, gJ_sD, gR_sI, gR_sJ, gR_sR, gR_sD, gD_sI, gD_sJ, gD_sR, gD_sD]
        exact t4'
      · obtain ⟨w1, w2, w3⟩ := t4' r' (by omega)
        have g1 : ¬ q' r' = q r := by omega
        have g2 : ¬ 12 * s + r' = 12 * m + r := by omega
        obtain ⟨x1', x2', x3', c', y1', y2', y3'⟩ := t6' r' hr'
        refine ⟨by simp [gI_sI, gI_sJ, gI_sR, gI_sD, gJ_sI, gJ_sJ, gJ_sR, gJ_sD, gR_sI, gR_sJ, gR_sR, gR_sD, gD_sI, gD_sJ, gD_sR, gD_sD, x1', g1], by simp [gI_sI, gI_sJ, gI_sR, gI_sD, gJ_sI, gJ_sJ, gJ_sR, gJ_sD, gR_sI, gR_sJ, gR_sR, gR_sD, gD_sI, gD_sJ, gD_sR, gD_sD, x2', g1, g2], by simpa [gI_sI, gI_sJ, gI_sR, gI_sD, gJ_sI, gJ_sJ, gJ_sR, gJ_sD, gR_sI, gR_sJ, gR_sR, gR_sD, gD_sI, gD_sJ, gD_sR, gD_sD] using x3', c', y1', by simp [gI_sI, gI_sJ, gI_sR, gI_sD, gJ_sI, gJ_sJ, gJ_sR, gJ_sD, gR_sI, gR_sJ, gR_sR, gR_sD, gD_sI, gD_sJ, gD_sR, gD_sD, y2', g2], fun a ha => ?_⟩
        simp only [gI_sI, gI_sJ, gI_sR, gI_sD, gJ_sI, gJ_sJ, gJ_sR, gJ_sD, gR_sI, gR_sJ, gR_sR, gR_sD, gD_sI, gD_sJ, gD_sR, gD_sD, Nat.reduceEqDiff, false_and, and_false, true_and, and_true, and_self, reduceIte, if_true, if_false, ite_true, ite_false, g1, show ¬ 5 * (12 * s + r') + a = 5 * (12 * m + r) + c by omega]
        exact y3' a ha
  · have hn : c = 5 := by omega
    subst hn
    simp only [ir_1 hm t1 f2 a2, ia_1 a3, y2, gI_sI, gI_sJ, gI_sR, gI_sD, gJ_sI, gJ_sJ, gJ_sR, gJ_sD, gR_sI, gR_sJ, gR_sR, gR_sD, gD_sI, gD_sJ, gD_sR, gD_sD, Nat.reduceEqDiff, false_and, and_false, true_and, and_true, and_self, reduceIte, if_true, if_false, ite_true, ite_false, forall_eq, z_10, z_01, z_in, z_cl, z_as, ix12, c5, nI_clamp (show 12 * m + r < 2 ^ 31 by omega), show ¬ nI 5 < 5 by decide, show nI 5 = 5 by rfl, show ¬ (5 : Int32) < 5 by decide, String.reduceEq]
    exact hK.fail S 3 (by decide) (by exact ag.rfl.sI)
