/-! move, clear, done, clashes, flags -/
theorem c_move {i : Nat} {h : Hp} (S : Sim i h) (p1 p2 : Int32) {K : Int32 → Int32 → Hp → Prop} (hK : SK i K) :
    wp_L_move p1 p2 h (fun r h1 => wp_X11_move p1 p2 h1 (fun b h2 => K r b h2)) := by
  unfold wp_L_move wp_X10_move wp_X11_move wp_X11_move_b23 wp_X11_move_b47 wp_X11_fails LET wp_X10_requireInBox wp_X2_isKept
  obtain ⟨d, nm, nt, hd, s1, ⟨n40, e1, e2, s2, s2', s2''⟩, s3, s4, s5, s6, s7⟩ := id S
  have f2 : gI (sI h 11 0 0 0) 11 0 2 = nI nm := by simp [gI_sI, gI_sJ, gI_sR, gI_sD, gJ_sI, gJ_sJ, gJ_sR, gJ_sD, gR_sI, gR_sJ, gR_sR, gR_sD, gD_sI, gD_sJ, gD_sR, gD_sD, e2]
  by_cases a1 : inN p1 nm
  case neg => simp [rb_0 nm a1 e1 (by omega), im_0 f2 n40 a1]; exact hK.fail S 1 (by decide) (by exact ag.rfl.sI)
  by_cases a2 : inN p2 8
  case neg => simp [rb_1 nm a1 e1 (by omega), im_1 f2 n40 a1, rb8_0 a2, i8_0 a2]; exact hK.fail S 1 (by decide) (by exact ag.rfl.sI)
  obtain ⟨m, hm, rfl⟩ := id a1
  have c3 : vp_in (nI m) 40 := vp_in_nI (by omega) (by decide)
  obtain ⟨q1, q2, q3, q4, q5, q6, q7⟩ := s2' m (by omega)
  have g2 : ∀ v w, gI (sI (sJ (sI (sI h 2 m 6 p2) 2 m 10 1) 75 0 v w) 11 0 0 0) 11 0 2 = nI nm := fun v w => by simp [gI_sI, gI_sJ, gI_sR, gI_sD, gJ_sI, gJ_sJ, gJ_sR, gJ_sD, gR_sI, gR_sJ, gR_sR, gR_sD, gD_sI, gD_sJ, gD_sR, gD_sD, e2]
  simp only [rb_1 nm a1 e1 (by omega), rb8_1 a2, i8_1 a2, gI_sI, gI_sJ, gI_sR, gI_sD, gJ_sI, gJ_sJ, gJ_sR, gJ_sD, gR_sI, gR_sJ, gR_sR, gR_sD, gD_sI, gD_sJ, gD_sR, gD_sD, Nat.reduceEqDiff, false_and, and_false, true_and, and_true, and_self, reduceIte, if_true, if_false, ite_true, ite_false, forall_eq, z_10, z_01, z_in, z_cl, z_as, c3, nI_clamp (show m < 2 ^ 31 by omega), q1, q2]
  rcases q3 with k1 | k1
  · simp [k1, im_1 f2 n40 a1, gI_sI, gI_sJ, gI_sR, gI_sD, gJ_sI, gJ_sJ, gJ_sR, gJ_sD, gR_sI, gR_sJ, gR_sR, gR_sD, gD_sI, gD_sJ, gD_sR, gD_sD]; exact hK.fail S 2 (by decide) (by exact ag.rfl.sI)
  rcases q4 with k2 | k2
  · simp only [k1, k2, im_1 (g2 _ _) n40 a1, gI_sI, gI_sJ, gI_sR, gI_sD, gJ_sI, gJ_sJ, gJ_sR, gJ_sD, gR_sI, gR_sJ, gR_sR, gR_sD, gD_sI, gD_sJ, gD_sR, gD_sD, Nat.reduceEqDiff, false_and, and_false, true_and, and_true, and_self, reduceIte, if_true, if_false, ite_true, ite_false, forall_eq, z_10, z_01, z_in, z_cl, z_as]
    refine hK.go (h := h) (wS [2, 41, 43, 75] [(11, 0)]) (by repeat first | exact ag.rfl | refine ag.sI ?_ rfl | refine ag.sJ ?_ rfl | refine ag.sR ?_ rfl | refine ag.sD ?_ rfl) (fun A => ⟨d, nm, nt, by omega, s1.ag A (wS_dis (by decide)), ?_, s3.ag A (wS_dis (by decide)), (s4.mono (by omega) (by omega)).ag A (wS_dis (by decide)), s5.ag A (wS_dis (by decide)), s6.ag A (wS_dis (by decide)), s7.ag A (wS_dis (by decide))⟩) (by simp [gI_sI, gI_sJ, gI_sR, gI_sD, gJ_sI, gJ_sJ, gJ_sR, gJ_sD, gR_sI, gR_sJ, gR_sR, gR_sD, gD_sI, gD_sJ, gD_sR, gD_sD]) (fun _ => by simp [gI_sI, gI_sJ, gI_sR, gI_sD, gJ_sI, gJ_sJ, gJ_sR, gJ_sD, gR_sI, gR_sJ, gR_sR, gR_sD, gD_sI, gD_sJ, gD_sR, gD_sD, (q7 k1 k2).1])
    refine ⟨n40, by simp [gI_sI, gI_sJ, gI_sR, gI_sD, gJ_sI, gJ_sJ, gJ_sR, gJ_sD, gR_sI, gR_sJ, gR_sR, gR_sD, gD_sI, gD_sJ, gD_sR, gD_sD, e1], by simp [gI_sI, gI_sJ, gI_sR, gI_sD, gJ_sI, gJ_sJ, gJ_sR, gJ_sD, gR_sI, gR_sJ, gR_sR, gR_sD, gD_sI, gD_sJ, gD_sR, gD_sD, e2], fun x hx => ?_, fun x hx => ?_, fun x hx hx' => ?_⟩
    · obtain ⟨u1, u2⟩ := s2 x hx
      unfold SmV SmE
      simp only [gI_sI, gI_sJ, gI_sR, gI_sD, gJ_sI, gJ_sJ, gJ_sR, gJ_sD, gR_sI, gR_sJ, gR_sR, gR_sD, gD_sI, gD_sJ, gD_sR, gD_sD, Nat.reduceEqDiff, false_and, and_false, true_and, and_true, and_self, reduceIte, if_true, if_false, ite_true, ite_false]
      exact ⟨u1, u2⟩
    · by_cases e : x = m
      · subst e
        refine ⟨by simp [gI_sI, gI_sJ, gI_sR, gI_sD, gJ_sI, gJ_sJ, gJ_sR, gJ_sD, gR_sI, gR_sJ, gR_sR, gR_sD, gD_sI, gD_sJ, gD_sR, gD_sD, q1], by simp [gI_sI, gI_sJ, gI_sR, gI_sD, gJ_sI, gJ_sJ, gJ_sR, gJ_sD, gR_sI, gR_sJ, gR_sR, gR_sD, gD_sI, gD_sJ, gD_sR, gD_sD, q2], by simp [gI_sI, gI_sJ, gI_sR, gI_sD, gJ_sI, gJ_sJ, gJ_sR, gJ_sD, gR_sI, gR_sJ, gR_sR, gR_sD, gD_sI, gD_sJ, gD_sR, gD_sD, k1, isB], by simp [gI_sI, gI_sJ, gI_sR, gI_sD, gJ_sI, gJ_sJ, gJ_sR, gJ_sD, gR_sI, gR_sJ, gR_sR, gR_sD, gD_sI, gD_sJ, gD_sR, gD_sD, k2, isB], by simp [gI_sI, gI_sJ, gI_sR, gI_sD, gJ_sI, gJ_sJ, gJ_sR, gJ_sD, gR_sI, gR_sJ, gR_sR, gR_sD, gD_sI, gD_sJ, gD_sR, gD_sD, k2], by simp [gI_sI, gI_sJ, gI_sR, gI_sD, gJ_sI, gJ_sJ, gJ_sR, gJ_sD, gR_sI, gR_sJ, gR_sR, gR_sD, gD_sI, gD_sJ, gD_sR, gD_sD, q6], fun _ _ => ⟨by simp [gI_sI, gI_sJ, gI_sR, gI_sD, gJ_sI, gJ_sJ, gJ_sR, gJ_sD, gR_sI, gR_sJ, gR_sR, gR_sD, gD_sI, gD_sJ, gD_sR, gD_sD], by simpa [gI_sI, gI_sJ, gI_sR, gI_sD, gJ_sI, gJ_sJ, gJ_sR, gJ_sD, gR_sI, gR_sJ, gR_sR, gR_sD, gD_sI, gD_sJ, gD_sR, gD_sD] using a2, by simp [gI_sI, gI_sJ, gI_sR, gI_sD, gJ_sI, gJ_sJ, gJ_sR, gJ_sD, gR_sI, gR_sJ, gR_sR, gR_sD, gD_sI, gD_sJ, gD_sR, gD_sD], by simp [gI_sI, gI_sJ, gI_sR, gI_sD, gJ_sI, gJ_sJ, gJ_sR, gJ_sD, gR_sI, gR_sJ, gR_sR, gR_sD, gD_sI, gD_sJ, gD_sR, gD_sD]⟩⟩
      · unfold SmD
        simp only [gI_sI, gI_sJ, gI_sR, gI_sD, gJ_sI, gJ_sJ, gJ_sR, gJ_sD, gR_sI, gR_sJ, gR_sR, gR_sD, gD_sI, gD_sJ, gD_sR, gD_sD, Nat.reduceEqDiff, false_and, and_false, true_and, and_true, and_self, reduceIte, if_true, if_false, ite_true, ite_false, e]
        exact s2' x hx
    · simp only [gI_sI, gI_sJ, gI_sR, gI_sD, gJ_sI, gJ_sJ, gJ_sR, gJ_sD, gR_sI, gR_sJ, gR_sR, gR_sD, gD_sI, gD_sJ, gD_sR, gD_sD, Nat.reduceEqDiff, false_and, and_false, true_and, and_true, and_self, reduceIte, if_true, if_false, ite_true, ite_false]
      exact s2'' x hx hx'
  · simp [k1, k2, im_1 f2 n40 a1, gI_sI, gI_sJ, gI_sR, gI_sD, gJ_sI, gJ_sJ, gJ_sR, gJ_sD, gR_sI, gR_sJ, gR_sR, gR_sD, gD_sI, gD_sJ, gD_sR, gD_sD]; exact hK.fail S 2 (by decide) (by exact ag.rfl.sI)
theorem c_clear {i : Nat} {h : Hp} (S : Sim i h) (p1 : Int32) {K : Int32 → Int32 → Hp → Prop} (hK : SK i K) :
    wp_L_clear p1 h (fun r h1 => wp_X11_clear p1 h1 (fun b h2 => K r b h2)) := by
  unfold wp_L_clear wp_X10_clear wp_X11_clear wp_X11_fails LET
  by_cases a1 : inN p1 4
  case neg => simp [rb4_0 a1, i4_0 a1]; exact hK.fail S 1 (by decide) (by exact ag.rfl.sI)
  obtain ⟨d, nm, nt, hd, s1, s2, s3, s4, s5, s6, s7⟩ := id S
  obtain ⟨m, hm, rfl⟩ := id a1
  have c3 : vp_in (nI m) 4 := vp_in_nI (by omega) (by decide)
  simp only [rb4_1 a1, i4_1 a1, gI_sI, gI_sJ, gI_sR, gI_sD, gJ_sI, gJ_sJ, gJ_sR, gJ_sD, gR_sI, gR_sJ, gR_sR, gR_sD, gD_sI, gD_sJ, gD_sR, gD_sD, Nat.reduceEqDiff, false_and, and_false, true_and, and_true, and_self, reduceIte, if_true, if_false, ite_true, ite_false, forall_eq, z_10, z_01, z_in, z_cl, z_as, c3, nI_clamp (show m < 2 ^ 31 by omega)]
  obtain ⟨nr, t1, t2, t3, q, t4⟩ := s6 m hm
  refine hK.go (h := h) (wS [7, 53, 75] [(11, 0)]) (by repeat first | exact ag.rfl | refine ag.sI ?_ rfl | refine ag.sJ ?_ rfl | refine ag.sR ?_ rfl | refine ag.sD ?_ rfl) (fun A => ⟨d, nm, nt, by omega, s1.ag A (wS_dis (by decide)), s2.ag A (wS_dis (by decide)), s3.ag A (wS_dis (by decide)), (s4.mono (by omega) (by omega)).ag A (wS_dis (by decide)), s5.ag A (wS_dis (by decide)), ?_, s7.ag A (wS_dis (by decide))⟩) (by simp [gI_sI, gI_sJ, gI_sR, gI_sD, gJ_sI, gJ_sJ, gJ_sR, gJ_sD, gR_sI, gR_sJ, gR_sR, gR_sD, gD_sI, gD_sJ, gD_sR, gD_sD]) (fun _ => by simp [gI_sI, gI_sJ, gI_sR, gI_sD, gJ_sI, gJ_sJ, gJ_sR, gJ_sD, gR_sI, gR_sJ, gR_sR, gR_sD, gD_sI, gD_sJ, gD_sR, gD_sD, t2, t3])
  intro s hs
  by_cases e : s = m
  · subst e
    refine ⟨0, by omega, by simp [gI_sI, gI_sJ, gI_sR, gI_sD, gJ_sI, gJ_sJ, gJ_sR, gJ_sD, gR_sI, gR_sJ, gR_sR, gR_sD, gD_sI, gD_sJ, gD_sR, gD_sD]; rfl, by simp [gI_sI, gI_sJ, gI_sR, gI_sD, gJ_sI, gJ_sJ, gJ_sR, gJ_sD, gR_sI, gR_sJ, gR_sR, gR_sD, gD_sI, gD_sJ, gD_sR, gD_sD]; rfl, q, ?_, t4.2.1, fun r hr => absurd hr (by omega)⟩
    simp only [gI_sI, gI_sJ, gI_sR, gI_sD, gJ_sI, gJ_sJ, gJ_sR, gJ_sD, gR_sI, gR_sJ, gR_sR, gR_sD, gD_sI, gD_sJ, gD_sR, gD_sD]
    exact t4.1
  · obtain ⟨nr, t1, t2, t3, q, t4⟩ := s6 s hs
    unfold SrE
    refine ⟨nr, t1, by simp [gI_sI, gI_sJ, gI_sR, gI_sD, gJ_sI, gJ_sJ, gJ_sR, gJ_sD, gR_sI, gR_sJ, gR_sR, gR_sD, gD_sI, gD_sJ, gD_sR, gD_sD, e, t2], by simp [gI_sI, gI_sJ, gI_sR, gI_sD, gJ_sI, gJ_sJ, gJ_sR, gJ_sD, gR_sI, gR_sJ, gR_sR, gR_sD, gD_sI, gD_sJ, gD_sR, gD_sD, e, t3], q, ?_⟩
    simp only [gI_sI, gI_sJ, gI_sR, gI_sD, gJ_sI, gJ_sJ, gJ_sR, gJ_sD, gR_sI, gR_sJ, gR_sR, gR_sD, gD_sI, gD_sJ, gD_sR, gD_sD, Nat.reduceEqDiff, false_and, and_false, true_and, and_true, and_self, reduceIte, if_true, if_false, ite_true, ite_false]
    exact t4
/-- calls that cannot fail -/
def SKN (i : Nat) (K : Int32 → Int32 → Hp → Prop) : Prop := ∀ r h, Sim (i + 1) h → K r r h
theorem c_done {i : Nat} {h : Hp} (S : Sim i h) {K : Int32 → Int32 → Hp → Prop} (hK : SKN i K) : wp_X10_done h (fun r => wp_X11_done h (fun b h2 => K r b h2)) := by
  unfold wp_X10_done wp_X11_done LET
  obtain ⟨d, nm, nt, hd, s1, s2, s3, s4, s5, s6, ⟨c, hc, l1, l2, l3, l4, l5, l6, l7, l8⟩⟩ := id S
  simp only [gI_sI, gI_sJ, gI_sR, gI_sD, gJ_sI, gJ_sJ, gJ_sR, gJ_sD, gR_sI, gR_sJ, gR_sR, gR_sD, gD_sI, gD_sJ, gD_sR, gD_sD, Nat.reduceEqDiff, false_and, and_false, true_and, and_true, and_self, reduceIte, if_true, if_false, ite_true, ite_false, forall_eq, z_10, z_01, z_in, z_cl, z_as, l1, l2]
  exact hK _ _ (S.quiet ag.rfl.sI)
theorem c_clashes {i : Nat} {h : Hp} (S : Sim i h) {K : Int32 → Int32 → Hp → Prop} (hK : SKN i K) : wp_X10_clashes h (fun r => wp_X11_clashes h (fun b h2 => K r b h2)) := by
  unfold wp_X10_clashes wp_X11_clashes LET
  obtain ⟨d, nm, nt, hd, s1, s2, s3, s4, s5, s6, ⟨c, hc, l1, l2, l3, l4, l5, l6, l7, l8⟩⟩ := id S
  simp only [gI_sI, gI_sJ, gI_sR, gI_sD, gJ_sI, gJ_sJ, gJ_sR, gJ_sD, gR_sI, gR_sJ, gR_sR, gR_sD, gD_sI, gD_sJ, gD_sR, gD_sD, Nat.reduceEqDiff, false_and, and_false, true_and, and_true, and_self, reduceIte, if_true, if_false, ite_true, ite_false, forall_eq, z_10, z_01, z_in, z_cl, z_as, l4]
  exact hK _ _ (S.quiet ag.rfl.sI)
theorem c_flags {i : Nat} {h : Hp} (S : Sim i h) {K : Int32 → Int32 → Hp → Prop} (hK : SKN i K) : wp_X10_flags h (fun r => wp_X11_flags h (fun b h2 => K r b h2)) := by
  unfold wp_X10_flags wp_X11_flags LET
  obtain ⟨d, nm, nt, hd, s1, s2, s3, s4, s5, s6, ⟨c, hc, l1, l2, l3, l4, l5, l6, l7, l8⟩⟩ := id S
  simp only [gI_sI, gI_sJ, gI_sR, gI_sD, gJ_sI, gJ_sJ, gJ_sR, gJ_sD, gR_sI, gR_sJ, gR_sR, gR_sD, gD_sI, gD_sJ, gD_sR, gD_sD, Nat.reduceEqDiff, false_and, and_false, true_and, and_true, and_self, reduceIte, if_true, if_false, ite_true, ite_false, forall_eq, z_10, z_01, z_in, z_cl, z_as, l8]
  exact hK _ _ (S.quiet ag.rfl.sI)
