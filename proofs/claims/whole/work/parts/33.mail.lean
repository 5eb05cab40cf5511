/-! the calls, one after another: the class's, then the model's -/
/-- what a pair of calls must end with -/
def SK (i : Nat) (K : Int32 → Int32 → Hp → Prop) : Prop := ∀ r b h, Sim (i + 1) h → gI h 11 0 0 = r → (r = 0 → gJ h 75 0 0 = b.toInt64) → K r b h
theorem SK.fail {i : Nat} {K : Int32 → Int32 → Hp → Prop} {h h2 : Hp} (hK : SK i K) (S : Sim i h) (e : Int32) (he : e ≠ 0) (a : ag (wS [75, 76] [(11, 0)]) h h2) : K e 0 (sI h2 11 0 0 e) :=
  hK e 0 _ (S.quiet a.sI) (by simp [gI_sI, gI_sJ, gI_sR, gI_sD, gJ_sI, gJ_sJ, gJ_sR, gJ_sD, gR_sI, gR_sJ, gR_sR, gR_sD, gD_sI, gD_sJ, gD_sR, gD_sD]) (fun q => absurd q he)
theorem SK.go {i : Nat} {K : Int32 → Int32 → Hp → Prop} {r b : Int32} {h h2 : Hp} (hK : SK i K) (W : Nat → Nat → Bool) (A : ag W h h2) (f : ag W h h2 → Sim (i + 1) h2) (c : gI h2 11 0 0 = r) (o : r = 0 → gJ h2 75 0 0 = b.toInt64) : K r b h2 := hK r b h2 (f A) c o
theorem c_mail {i : Nat} {h : Hp} (S : Sim i h) (p1 p2 p3 p4 p5 : Int32) {K : Int32 → Int32 → Hp → Prop} (hK : SK i K) :
    wp_L_mail p1 p2 p3 p4 p5 h (fun r h1 => wp_X11_mail p1 p2 p3 p4 p5 h1 (fun b h2 => K r b h2)) := by
  unfold wp_L_mail wp_X10_mail wp_X11_mail wp_X10_mail_b51 wp_X11_mail_b59 wp_X11_fails LET
  by_cases a1 : inN p1 10
  case neg => simp [b10_0 a1, i10_0 a1]; exact hK.fail S 1 (by decide) (by exact ag.rfl.sI)
  by_cases a2 : inZ p2 1 1023
  case neg => simp [b10_1 a1, i10_1 a1, lies_0 a2, in_0 a2]; exact hK.fail S 1 (by decide) (by exact ag.rfl.sI)
  by_cases a3 : inN p3 65536
  case neg => simp [b10_1 a1, i10_1 a1, lies_1 a2, in_1 a2, b65536_0 a3, i65536_0 a3]; exact hK.fail S 1 (by decide) (by exact ag.rfl.sI)
  by_cases a4 : inN p4 65536
  case neg => simp [b10_1 a1, i10_1 a1, lies_1 a2, in_1 a2, b65536_1 a3, i65536_1 a3, b65536_0 a4, i65536_0 a4]; exact hK.fail S 1 (by decide) (by exact ag.rfl.sI)
  by_cases a5 : inZ p5 1 999
  case neg => simp [b10_1 a1, i10_1 a1, lies_1 a2, in_1 a2, b65536_1 a3, i65536_1 a3, b65536_1 a4, i65536_1 a4, lies_0 a5, in_0 a5]; exact hK.fail S 1 (by decide) (by exact ag.rfl.sI)
  simp only [b10_1 a1, i10_1 a1, lies_1 a2, in_1 a2, b65536_1 a3, i65536_1 a3, b65536_1 a4, i65536_1 a4, lies_1 a5, in_1 a5, forall_eq]
  obtain ⟨d, nm, nt, hd, s1, ⟨n40, e1, e2, s2, s2', s2''⟩, s3, s4, s5, s6, s7⟩ := id S
  rcases Nat.lt_or_ge nm 40 with hn | hn
  · have c1 : (nI nm) < 40 := nI_lt hn (by decide)
    have c2 : ¬ nI nm = 40 := fun q => by have := (nI_eq (b := 40) (by omega) (by omega)).mp q; omega
    have c3 : vp_in (nI nm) 40 := vp_in_nI hn (by decide)
    unfold wp_X3_takeIn LET
    simp only [e1, e2, gI_sI, gI_sJ, gI_sR, gI_sD, gJ_sI, gJ_sJ, gJ_sR, gJ_sD, gR_sI, gR_sJ, gR_sR, gR_sD, gD_sI, gD_sJ, gD_sR, gD_sD, Nat.reduceEqDiff, false_and, and_false, true_and, and_true, and_self, reduceIte, if_true, if_false, ite_true, ite_false, forall_eq, z_10, z_01, z_in, z_cl, z_as, c1, c2, c3, nI_clamp (show nm < 2 ^ 31 by omega)]
    refine hK.go (h := h) (wS [2, 33, 34, 35, 36, 37, 38, 43, 75] [(3, 6), (11, 0), (11, 2)]) (by repeat first | exact ag.rfl | refine ag.sI ?_ rfl | refine ag.sJ ?_ rfl | refine ag.sR ?_ rfl | refine ag.sD ?_ rfl) (fun A => ⟨d, nm + 1, nt, by omega, s1.ag A (wS_dis (by decide)), ?_, s3.ag A (wS_dis (by decide)), (s4.mono (by omega) (by omega)).ag A (wS_dis (by decide)), s5.ag A (wS_dis (by decide)), s6.ag A (wS_dis (by decide)), s7.ag A (wS_dis (by decide))⟩) (by simp [gI_sI, gI_sJ, gI_sR, gI_sD, gJ_sI, gJ_sJ, gJ_sR, gJ_sD, gR_sI, gR_sJ, gR_sR, gR_sD, gD_sI, gD_sJ, gD_sR, gD_sD]) (fun _ => by simp [gI_sI, gI_sJ, gI_sR, gI_sD, gJ_sI, gJ_sJ, gJ_sR, gJ_sD, gR_sI, gR_sJ, gR_sR, gR_sD, gD_sI, gD_sJ, gD_sR, gD_sD])
    clear A
    refine ⟨by omega, by simp [gI_sI, gI_sJ, gI_sR, gI_sD, gJ_sI, gJ_sJ, gJ_sR, gJ_sD, gR_sI, gR_sJ, gR_sR, gR_sD, gD_sI, gD_sJ, gD_sR, gD_sD, nI_1], by simp [gI_sI, gI_sJ, gI_sR, gI_sD, gJ_sI, gJ_sJ, gJ_sR, gJ_sD, gR_sI, gR_sJ, gR_sR, gR_sD, gD_sI, gD_sJ, gD_sR, gD_sD, nI_1], fun m hm => ?_, fun m hm => ?_, fun m hm hm' => ?_⟩
    · by_cases hmn : m = nm
      · subst hmn
        refine ⟨⟨?_, ?_, ?_, ?_, ?_, d, by omega, ?_⟩, ?_, ?_, ?_, ?_, ?_, ?_⟩ <;> simp [gI_sI, gI_sJ, gI_sR, gI_sD, gJ_sI, gJ_sJ, gJ_sR, gJ_sD, gR_sI, gR_sJ, gR_sR, gR_sD, gD_sI, gD_sJ, gD_sR, gD_sD, s1.1, s1.2, a1, a2, a3, a4, a5]
      · obtain ⟨q1, q2⟩ := s2 m (by omega)
        unfold SmV SmE
        simp only [gI_sI, gI_sJ, gI_sR, gI_sD, gJ_sI, gJ_sJ, gJ_sR, gJ_sD, gR_sI, gR_sJ, gR_sR, gR_sD, gD_sI, gD_sJ, gD_sR, gD_sD, Nat.reduceEqDiff, false_and, and_false, true_and, and_true, and_self, reduceIte, if_true, if_false, ite_true, ite_false, hmn]
        exact ⟨q1, q2⟩
    · unfold SmD
      simp only [gI_sI, gI_sJ, gI_sR, gI_sD, gJ_sI, gJ_sJ, gJ_sR, gJ_sD, gR_sI, gR_sJ, gR_sR, gR_sD, gD_sI, gD_sJ, gD_sR, gD_sD, Nat.reduceEqDiff, false_and, and_false, true_and, and_true, and_self, reduceIte, if_true, if_false, ite_true, ite_false]
      obtain ⟨q1, q2, q3, q4, q5, q6, q7⟩ := s2' m hm
      refine ⟨q1, q2, q3, q4, q5, q6, fun a b => ?_⟩
      rw [if_neg (fun e => by rw [s2'' m (by omega) hm] at a; cases a)]
      exact q7 a b
    · simp only [gI_sI, gI_sJ, gI_sR, gI_sD, gJ_sI, gJ_sJ, gJ_sR, gJ_sD, gR_sI, gR_sJ, gR_sR, gR_sD, gD_sI, gD_sJ, gD_sR, gD_sD, Nat.reduceEqDiff, false_and, and_false, true_and, and_true, and_self, reduceIte, if_true, if_false, ite_true, ite_false]
      exact s2'' m (by omega) hm'
  · have hn : nm = 40 := by omega
    subst hn
    simp only [e1, e2, gI_sI, gI_sJ, gI_sR, gI_sD, gJ_sI, gJ_sJ, gJ_sR, gJ_sD, gR_sI, gR_sJ, gR_sR, gR_sD, gD_sI, gD_sJ, gD_sR, gD_sD, Nat.reduceEqDiff, false_and, and_false, true_and, and_true, and_self, reduceIte, if_true, if_false, ite_true, ite_false, forall_eq, z_10, z_01, z_in, z_cl, z_as, show ¬ nI 40 < 40 by decide, show nI 40 = 40 by rfl, show ¬ (40 : Int32) < 40 by decide, String.reduceEq]
    exact hK.fail S 2 (by decide) (by exact ag.rfl.sI)
