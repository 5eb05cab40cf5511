/-! more calls without loops -/
theorem c_hasFlag {i : Nat} {h : Hp} (S : Sim i h) (p1 p2 : Int32) {K : Int32 → Int32 → Hp → Prop} (hK : SKB i K) :
    wp_L_hasFlag p1 p2 h (fun r h1 => wp_X11_hasFlag p1 p2 h1 (fun b h2 => K r b h2)) := by
  unfold wp_L_hasFlag wp_X10_hasFlag wp_X11_hasFlag wp_X11_hasFlag_b23 wp_X11_hasFlag_b24 wp_L_hasFlag_b16 wp_X10_hasBit LET
  obtain ⟨d, nm, nt, hd, s1, ⟨n40, e1, e2, s2, s2', s2''⟩, s3, s4, s5, s6, s7⟩ := id S
  have g2 : ∀ v, gI (sJ h 75 0 0 v) 11 0 2 = nI nm := fun v => by simp [gI_sI, gI_sJ, gI_sR, gI_sD, gJ_sI, gJ_sJ, gJ_sR, gJ_sD, gR_sI, gR_sJ, gR_sR, gR_sD, gD_sI, gD_sJ, gD_sR, gD_sD, e2]
  by_cases a1 : inN p1 nm
  case neg =>
    simp [rb_0 nm a1 e1 (by omega), im_0 e2 n40 a1, gI_sI, gI_sJ, gI_sR, gI_sD, gJ_sI, gJ_sJ, gJ_sR, gJ_sD, gR_sI, gR_sJ, gR_sR, gR_sD, gD_sI, gD_sJ, gD_sR, gD_sD]
    exact hK.go (h := h) (wS [75, 76] [(11, 0)]) (by repeat first | exact ag.rfl | refine ag.sI ?_ rfl | refine ag.sJ ?_ rfl | refine ag.sR ?_ rfl | refine ag.sD ?_ rfl) (fun A => S.quiet A) (by simp [gI_sI, gI_sJ, gI_sR, gI_sD, gJ_sI, gJ_sJ, gJ_sR, gJ_sD, gR_sI, gR_sJ, gR_sR, gR_sD, gD_sI, gD_sJ, gD_sR, gD_sD]) (fun q => by cases q)
  by_cases a2 : inN p2 8
  case neg =>
    simp [rb_1 nm a1 e1 (by omega), im_1 e2 n40 a1, rb8_0 a2, i8_0 a2, gI_sI, gI_sJ, gI_sR, gI_sD, gJ_sI, gJ_sJ, gJ_sR, gJ_sD, gR_sI, gR_sJ, gR_sR, gR_sD, gD_sI, gD_sJ, gD_sR, gD_sD]
    exact hK.go (h := h) (wS [75, 76] [(11, 0)]) (by repeat first | exact ag.rfl | refine ag.sI ?_ rfl | refine ag.sJ ?_ rfl | refine ag.sR ?_ rfl | refine ag.sD ?_ rfl) (fun A => S.quiet A) (by simp [gI_sI, gI_sJ, gI_sR, gI_sD, gJ_sI, gJ_sJ, gJ_sR, gJ_sD, gR_sI, gR_sJ, gR_sR, gR_sD, gD_sI, gD_sJ, gD_sR, gD_sD]) (fun q => by cases q)
  obtain ⟨m, hm, rfl⟩ := id a1
  have c3 : vp_in (nI m) 40 := vp_in_nI (by omega) (by decide)
  obtain ⟨q1, q2, q3, q4, q5, q6, q7⟩ := s2' m (by omega)
  simp only [rb_1 nm a1 e1 (by omega), im_1 e2 n40 a1, im_1 (g2 _) n40 a1, rb8_1 a2, i8_1 a2, gI_sI, gI_sJ, gI_sR, gI_sD, gJ_sI, gJ_sJ, gJ_sR, gJ_sD, gR_sI, gR_sJ, gR_sR, gR_sD, gD_sI, gD_sJ, gD_sR, gD_sD, Nat.reduceEqDiff, false_and, and_false, true_and, and_true, and_self, reduceIte, if_true, if_false, ite_true, ite_false, forall_eq, z_10, z_01, z_in, z_cl, z_as, c3, nI_clamp (show m < 2 ^ 31 by omega), q6]
  rcases and1 (gI h 42 0 m >>> (p2 &&& 31)) with e | e
  · simp only [e, gI_sI, gI_sJ, gI_sR, gI_sD, gJ_sI, gJ_sJ, gJ_sR, gJ_sD, gR_sI, gR_sJ, gR_sR, gR_sD, gD_sI, gD_sJ, gD_sR, gD_sD, Nat.reduceEqDiff, false_and, and_false, true_and, and_true, and_self, reduceIte, if_true, if_false, ite_true, ite_false, forall_eq, z_10, z_01, z_in, z_cl, z_as]
    exact hK.go (h := h) (wS [75, 76] [(11, 0)]) (by repeat first | exact ag.rfl | refine ag.sI ?_ rfl | refine ag.sJ ?_ rfl | refine ag.sR ?_ rfl | refine ag.sD ?_ rfl) (fun A => S.quiet A) (by simp [gI_sI, gI_sJ, gI_sR, gI_sD, gJ_sI, gJ_sJ, gJ_sR, gJ_sD, gR_sI, gR_sJ, gR_sR, gR_sD, gD_sI, gD_sJ, gD_sR, gD_sD]) (fun q => ⟨Or.inl rfl, by simp [gI_sI, gI_sJ, gI_sR, gI_sD, gJ_sI, gJ_sJ, gJ_sR, gJ_sD, gR_sI, gR_sJ, gR_sR, gR_sD, gD_sI, gD_sJ, gD_sR, gD_sD]⟩)
  · simp only [e, gI_sI, gI_sJ, gI_sR, gI_sD, gJ_sI, gJ_sJ, gJ_sR, gJ_sD, gR_sI, gR_sJ, gR_sR, gR_sD, gD_sI, gD_sJ, gD_sR, gD_sD, Nat.reduceEqDiff, false_and, and_false, true_and, and_true, and_self, reduceIte, if_true, if_false, ite_true, ite_false, forall_eq, z_10, z_01, z_in, z_cl, z_as]
    exact hK.go (h := h) (wS [75, 76] [(11, 0)]) (by repeat first | exact ag.rfl | refine ag.sI ?_ rfl | refine ag.sJ ?_ rfl | refine ag.sR ?_ rfl | refine ag.sD ?_ rfl) (fun A => S.quiet A) (by simp [gI_sI, gI_sJ, gI_sR, gI_sD, gJ_sI, gJ_sJ, gJ_sR, gJ_sD, gR_sI, gR_sJ, gR_sR, gR_sD, gD_sI, gD_sJ, gD_sR, gD_sD]) (fun q => ⟨Or.inr rfl, by simp [gI_sI, gI_sJ, gI_sR, gI_sD, gJ_sI, gJ_sJ, gJ_sR, gJ_sD, gR_sI, gR_sJ, gR_sR, gR_sD, gD_sI, gD_sJ, gD_sR, gD_sD]⟩)
theorem c_doneAt {i : Nat} {h : Hp} (S : Sim i h) (p1 : Int32) {K : Int32 → Int32 → Hp → Prop} (hK : SK i K) :
    wp_L_doneAt p1 h (fun r h1 => wp_X11_doneAt p1 h1 (fun b h2 => K r b h2)) := by
  unfold wp_L_doneAt wp_X10_doneAt wp_X11_doneAt wp_X11_fails LET
  obtain ⟨d, nm, nt, hd, s1, s2, s3, s4, s5, s6, ⟨c, hc, l1, l2, l3, l4⟩⟩ := id S
  have g2 : gI (sI h 11 0 0 0) 11 0 47 - 1 + 1 = nI c := by simp [gI_sI, gI_sJ, gI_sR, gI_sD, gJ_sI, gJ_sJ, gJ_sR, gJ_sD, gR_sI, gR_sJ, gR_sR, gR_sD, gD_sI, gD_sJ, gD_sR, gD_sD, l2]
  have g3 : ∀ v, gI (sI (sJ h 75 0 0 v) 11 0 0 0) 11 0 47 - 1 + 1 = nI c := fun v => by simp [gI_sI, gI_sJ, gI_sR, gI_sD, gJ_sI, gJ_sJ, gJ_sR, gJ_sD, gR_sI, gR_sJ, gR_sR, gR_sD, gD_sI, gD_sJ, gD_sR, gD_sD, l2]
  by_cases a1 : inN p1 c
  case neg => simp [rb_0 c a1 l1 (by omega), inn_0 c a1 g2 (by omega)]; exact hK.fail S 1 (by decide) (by exact ag.rfl.sI)
  obtain ⟨m, hm, rfl⟩ := id a1
  have c3 : vp_in (nI m) 200 := vp_in_nI (by omega) (by decide)
  rw [rb_1 c a1 l1 (by omega)]
  simp only [gI_sI, gI_sJ, gI_sR, gI_sD, gJ_sI, gJ_sJ, gJ_sR, gJ_sD, gR_sI, gR_sJ, gR_sR, gR_sD, gD_sI, gD_sJ, gD_sR, gD_sD, Nat.reduceEqDiff, false_and, and_false, true_and, and_true, and_self, reduceIte, if_true, if_false, ite_true, ite_false, forall_eq, z_10, z_01, z_in, z_cl, z_as, c3, inn_1 c a1 (g3 _) (by omega), nI_clamp (show m < 2 ^ 31 by omega)]
  simp only [inn_1 c a1 (show nI c - 1 + 1 = nI c by simp) (by omega), l2, gI_sI, gI_sJ, gI_sR, gI_sD, gJ_sI, gJ_sJ, gJ_sR, gJ_sD, gR_sI, gR_sJ, gR_sR, gR_sD, gD_sI, gD_sJ, gD_sR, gD_sD, Nat.reduceEqDiff, false_and, and_false, true_and, and_true, and_self, reduceIte, if_true, if_false, ite_true, ite_false, forall_eq, z_10, z_01, z_in, z_cl, z_as]
  exact hK.go (h := h) (wS [75, 76] [(11, 0)]) (by repeat first | exact ag.rfl | refine ag.sI ?_ rfl | refine ag.sJ ?_ rfl | refine ag.sR ?_ rfl | refine ag.sD ?_ rfl) (fun A => S.quiet A) (by simp [gI_sI, gI_sJ, gI_sR, gI_sD, gJ_sI, gJ_sJ, gJ_sR, gJ_sD, gR_sI, gR_sJ, gR_sR, gR_sD, gD_sI, gD_sJ, gD_sR, gD_sD]) (fun q => by simp [gI_sI, gI_sJ, gI_sR, gI_sD, gJ_sI, gJ_sJ, gJ_sR, gJ_sD, gR_sI, gR_sJ, gR_sR, gR_sD, gD_sI, gD_sJ, gD_sR, gD_sD, l3 m hm])
theorem c_replies {i : Nat} {h : Hp} (S : Sim i h) (p1 : Int32) {K : Int32 → Int32 → Hp → Prop} (hK : SK i K) :
    wp_L_replies p1 h (fun r h1 => wp_X11_replies p1 h1 (fun b h2 => K r b h2)) := by
  unfold wp_L_replies wp_X10_replies wp_X11_replies wp_X11_fails LET
  obtain ⟨d, nm, nt, hd, s1, s2, s3, s4, s5, s6, s7⟩ := id S
  by_cases a1 : inN p1 10
  case neg => simp [rb10_0 a1, i10_0 a1]; exact hK.fail S 1 (by decide) (by exact ag.rfl.sI)
  obtain ⟨m, hm, rfl⟩ := id a1
  have c3 : vp_in (nI m) 10 := vp_in_nI (by omega) (by decide)
  simp only [rb10_1 a1, i10_1 a1, gI_sI, gI_sJ, gI_sR, gI_sD, gJ_sI, gJ_sJ, gJ_sR, gJ_sD, gR_sI, gR_sJ, gR_sR, gR_sD, gD_sI, gD_sJ, gD_sR, gD_sD, Nat.reduceEqDiff, false_and, and_false, true_and, and_true, and_self, reduceIte, if_true, if_false, ite_true, ite_false, forall_eq, z_10, z_01, z_in, z_cl, z_as, c3, nI_clamp (show m < 2 ^ 31 by omega)]
  exact hK.go (h := h) (wS [75, 76] [(11, 0)]) (by repeat first | exact ag.rfl | refine ag.sI ?_ rfl | refine ag.sJ ?_ rfl | refine ag.sR ?_ rfl | refine ag.sD ?_ rfl) (fun A => S.quiet A) (by simp [gI_sI, gI_sJ, gI_sR, gI_sD, gJ_sI, gJ_sJ, gJ_sR, gJ_sD, gR_sI, gR_sJ, gR_sR, gR_sD, gD_sI, gD_sJ, gD_sR, gD_sD]) (fun q => by simp [gI_sI, gI_sJ, gI_sR, gI_sD, gJ_sI, gJ_sJ, gJ_sR, gJ_sD, gR_sI, gR_sJ, gR_sR, gR_sD, gD_sI, gD_sJ, gD_sR, gD_sD, s4 m hm])
theorem c_forwarded {i : Nat} {h : Hp} (S : Sim i h) (p1 : Int32) {K : Int32 → Int32 → Hp → Prop} (hK : SK i K) :
    wp_L_forwarded p1 h (fun r h1 => wp_X11_forwarded p1 h1 (fun b h2 => K r b h2)) := by
  unfold wp_L_forwarded wp_X10_forwarded wp_X11_forwarded wp_X11_fails LET
  obtain ⟨d, nm, nt, hd, s1, s2, s3, s4, s5, s6, s7⟩ := id S
  by_cases a1 : inN p1 10
  case neg => simp [rb10_0 a1, i10_0 a1]; exact hK.fail S 1 (by decide) (by exact ag.rfl.sI)
  obtain ⟨m, hm, rfl⟩ := id a1
  have c3 : vp_in (nI m) 10 := vp_in_nI (by omega) (by decide)
  simp only [rb10_1 a1, i10_1 a1, gI_sI, gI_sJ, gI_sR, gI_sD, gJ_sI, gJ_sJ, gJ_sR, gJ_sD, gR_sI, gR_sJ, gR_sR, gR_sD, gD_sI, gD_sJ, gD_sR, gD_sD, Nat.reduceEqDiff, false_and, and_false, true_and, and_true, and_self, reduceIte, if_true, if_false, ite_true, ite_false, forall_eq, z_10, z_01, z_in, z_cl, z_as, c3, nI_clamp (show m < 2 ^ 31 by omega)]
  exact hK.go (h := h) (wS [75, 76] [(11, 0)]) (by repeat first | exact ag.rfl | refine ag.sI ?_ rfl | refine ag.sJ ?_ rfl | refine ag.sR ?_ rfl | refine ag.sD ?_ rfl) (fun A => S.quiet A) (by simp [gI_sI, gI_sJ, gI_sR, gI_sD, gJ_sI, gJ_sJ, gJ_sR, gJ_sD, gR_sI, gR_sJ, gR_sR, gR_sD, gD_sI, gD_sJ, gD_sR, gD_sD]) (fun q => by simp [gI_sI, gI_sJ, gI_sR, gI_sD, gJ_sI, gJ_sJ, gJ_sR, gJ_sD, gR_sI, gR_sJ, gR_sR, gR_sD, gD_sI, gD_sJ, gD_sR, gD_sD, s4 m hm])
theorem c_faults {i : Nat} {h : Hp} (S : Sim i h) (p1 : Int32) {K : Int32 → Int32 → Hp → Prop} (hK : SK i K) :
    wp_L_faults p1 h (fun r h1 => wp_X11_faults p1 h1 (fun b h2 => K r b h2)) := by
  unfold wp_L_faults wp_X10_faults wp_X11_faults wp_X11_fails LET
  obtain ⟨d, nm, nt, hd, s1, s2, s3, s4, s5, s6, ⟨c, hc, l1, l2, l3, l4, l5, l6, l7, l8⟩⟩ := id S
  by_cases a1 : p1 = 105
  · subst a1
    simp only [gI_sI, gI_sJ, gI_sR, gI_sD, gJ_sI, gJ_sJ, gJ_sR, gJ_sD, gR_sI, gR_sJ, gR_sR, gR_sD, gD_sI, gD_sJ, gD_sR, gD_sD, Nat.reduceEqDiff, false_and, and_false, true_and, and_true, and_self, reduceIte, if_true, if_false, ite_true, ite_false, forall_eq, z_10, z_01, z_in, z_cl, z_as]
    exact hK.go (h := h) (wS [75, 76] [(11, 0)]) (by repeat first | exact ag.rfl | refine ag.sI ?_ rfl | refine ag.sJ ?_ rfl | refine ag.sR ?_ rfl | refine ag.sD ?_ rfl) (fun A => S.quiet A) (by simp [gI_sI, gI_sJ, gI_sR, gI_sD, gJ_sI, gJ_sJ, gJ_sR, gJ_sD, gR_sI, gR_sJ, gR_sR, gR_sD, gD_sI, gD_sJ, gD_sR, gD_sD]) (fun q => by simp [gI_sI, gI_sJ, gI_sR, gI_sD, gJ_sI, gJ_sJ, gJ_sR, gJ_sD, gR_sI, gR_sJ, gR_sR, gR_sD, gD_sI, gD_sJ, gD_sR, gD_sD, l5])
  by_cases a2 : p1 = 119
  · subst a2
    simp only [gI_sI, gI_sJ, gI_sR, gI_sD, gJ_sI, gJ_sJ, gJ_sR, gJ_sD, gR_sI, gR_sJ, gR_sR, gR_sD, gD_sI, gD_sJ, gD_sR, gD_sD, Nat.reduceEqDiff, false_and, and_false, true_and, and_true, and_self, reduceIte, if_true, if_false, ite_true, ite_false, forall_eq, z_10, z_01, z_in, z_cl, z_as, show ((119 : Int32) = 105) = False by decide, show ((119 : Int32) = 113) = False by decide]
    exact hK.go (h := h) (wS [75, 76] [(11, 0)]) (by repeat first | exact ag.rfl | refine ag.sI ?_ rfl | refine ag.sJ ?_ rfl | refine ag.sR ?_ rfl | refine ag.sD ?_ rfl) (fun A => S.quiet A) (by simp [gI_sI, gI_sJ, gI_sR, gI_sD, gJ_sI, gJ_sJ, gJ_sR, gJ_sD, gR_sI, gR_sJ, gR_sR, gR_sD, gD_sI, gD_sJ, gD_sR, gD_sD]) (fun q => by simp [gI_sI, gI_sJ, gI_sR, gI_sD, gJ_sI, gJ_sJ, gJ_sR, gJ_sD, gR_sI, gR_sJ, gR_sR, gR_sD, gD_sI, gD_sJ, gD_sR, gD_sD, l6])
  by_cases a3 : p1 = 113
  · subst a3
    simp only [gI_sI, gI_sJ, gI_sR, gI_sD, gJ_sI, gJ_sJ, gJ_sR, gJ_sD, gR_sI, gR_sJ, gR_sR, gR_sD, gD_sI, gD_sJ, gD_sR, gD_sD, Nat.reduceEqDiff, false_and, and_false, true_and, and_true, and_self, reduceIte, if_true, if_false, ite_true, ite_false, forall_eq, z_10, z_01, z_in, z_cl, z_as, show ((113 : Int32) = 105) = False by decide, show ((113 : Int32) = 119) = False by decide]
    exact hK.go (h := h) (wS [75, 76] [(11, 0)]) (by repeat first | exact ag.rfl | refine ag.sI ?_ rfl | refine ag.sJ ?_ rfl | refine ag.sR ?_ rfl | refine ag.sD ?_ rfl) (fun A => S.quiet A) (by simp [gI_sI, gI_sJ, gI_sR, gI_sD, gJ_sI, gJ_sJ, gJ_sR, gJ_sD, gR_sI, gR_sJ, gR_sR, gR_sD, gD_sI, gD_sJ, gD_sR, gD_sD]) (fun q => by simp [gI_sI, gI_sJ, gI_sR, gI_sD, gJ_sI, gJ_sJ, gJ_sR, gJ_sD, gR_sI, gR_sJ, gR_sR, gR_sD, gD_sI, gD_sJ, gD_sR, gD_sD, l7])
  · simp only [a1, a2, a3, gI_sI, gI_sJ, gI_sR, gI_sD, gJ_sI, gJ_sJ, gJ_sR, gJ_sD, gR_sI, gR_sJ, gR_sR, gR_sD, gD_sI, gD_sJ, gD_sR, gD_sD, Nat.reduceEqDiff, false_and, and_false, true_and, and_true, and_self, reduceIte, if_true, if_false, ite_true, ite_false, forall_eq, z_10, z_01, z_in, z_cl, z_as]
    exact hK.fail S 1 (by decide) (by exact ag.rfl.sI)
