/-! calls without loops -/
theorem and1 (x : Int32) : x &&& 1 = 0 ∨ x &&& 1 = 1 := by
  rw [pk_and x 1 rfl]
  rcases Nat.mod_two_eq_zero_or_one x.toBitVec.toNat with e | e
  · left; rw [show x.toBitVec.toNat % 2 ^ 1 = 0 from e]; rfl
  · right; rw [show x.toBitVec.toNat % 2 ^ 1 = 1 from e]; rfl
def SKB (i : Nat) (K : Int32 → Int32 → Hp → Prop) : Prop := ∀ r b h, Sim (i + 1) h → gI h 11 0 0 = r → (r = 0 → (b = 0 ∨ b = 1) ∧ gJ h 75 0 0 = b.toInt64) → K r b h
theorem SKB.go {i : Nat} {K : Int32 → Int32 → Hp → Prop} {r b : Int32} {h h2 : Hp} (hK : SKB i K) (W : Nat → Nat → Bool) (A : ag W h h2) (f : ag W h h2 → Sim (i + 1) h2) (c : gI h2 11 0 0 = r) (o : r = 0 → (b = 0 ∨ b = 1) ∧ gJ h2 75 0 0 = b.toInt64) : K r b h2 := hK r b h2 (f A) c o
theorem pass_len {x : Int32} (a : inZ x 1 100) : ∃ n, n ≤ 100 ∧ x = nI n := by
  obtain ⟨j, hj, e⟩ := (inN_iff (x := x) (n := 101) (by decide)).mpr ⟨by have := a.1; rw [show (1 : Int32).toInt = 1 from rfl] at this; omega, by have := a.2; rw [show (100 : Int32).toInt = 100 from rfl] at this; omega⟩
  exact ⟨j, by omega, e⟩
theorem c_pass {i : Nat} {h : Hp} (S : Sim i h) (p1 : Int32) {K : Int32 → Int32 → Hp → Prop} (hK : SK i K) :
    wp_L_pass p1 h (fun r h1 => wp_X11_pass p1 h1 (fun b h2 => K r b h2)) := by
  unfold wp_L_pass wp_X10_pass wp_X11_pass wp_X11_fails LET
  by_cases a1 : inZ p1 1 100
  case neg => simp [lies_0 a1, in_0 a1]; exact hK.fail S 1 (by decide) (by exact ag.rfl.sI)
  obtain ⟨d, nm, nt, hd, s1, s2, s3, s4, s5, s6, s7⟩ := id S
  obtain ⟨n, hn, rfl⟩ := pass_len a1
  simp only [lies_1 a1, in_1 a1, gI_sI, gI_sJ, gI_sR, gI_sD, gJ_sI, gJ_sJ, gJ_sR, gJ_sD, gR_sI, gR_sJ, gR_sR, gR_sD, gD_sI, gD_sJ, gD_sR, gD_sD, Nat.reduceEqDiff, false_and, and_false, true_and, and_true, and_self, reduceIte, if_true, if_false, ite_true, ite_false, forall_eq, z_10, z_01, z_in, z_cl, z_as, s1.1, s1.2]
  refine hK.go (h := h) (wS [75] [(3, 7), (11, 1), (11, 0)]) (by repeat first | exact ag.rfl | refine ag.sI ?_ rfl | refine ag.sJ ?_ rfl | refine ag.sR ?_ rfl | refine ag.sD ?_ rfl) (fun A => ⟨d + n, nm, nt, by omega, ?_, (s2.mono (by omega)).ag A (wS_dis (by decide)), s3.ag A (wS_dis (by decide)), (s4.mono (by omega) (by omega)).ag A (wS_dis (by decide)), s5.ag A (wS_dis (by decide)), s6.ag A (wS_dis (by decide)), s7.ag A (wS_dis (by decide))⟩) (by simp [gI_sI, gI_sJ, gI_sR, gI_sD, gJ_sI, gJ_sJ, gJ_sR, gJ_sD, gR_sI, gR_sJ, gR_sR, gR_sD, gD_sI, gD_sJ, gD_sR, gD_sD]) (fun _ => by simp [gI_sI, gI_sJ, gI_sR, gI_sD, gJ_sI, gJ_sJ, gJ_sR, gJ_sD, gR_sI, gR_sJ, gR_sR, gR_sD, gD_sI, gD_sJ, gD_sR, gD_sD])
  constructor <;> simp [gI_sI, gI_sJ, gI_sR, gI_sD, gJ_sI, gJ_sJ, gJ_sR, gJ_sD, gR_sI, gR_sJ, gR_sR, gR_sD, gD_sI, gD_sJ, gD_sR, gD_sD, nI_add]
theorem c_setQuota {i : Nat} {h : Hp} (S : Sim i h) (p1 p2 : Int32) {K : Int32 → Int32 → Hp → Prop} (hK : SK i K) :
    wp_L_setQuota p1 p2 h (fun r h1 => wp_X11_setQuota p1 p2 h1 (fun b h2 => K r b h2)) := by
  unfold wp_L_setQuota wp_X10_setQuota wp_X11_setQuota wp_X11_fails LET
  by_cases a1 : inZ p1 1 7
  case neg => simp [lies_0 a1, in_0 a1]; exact hK.fail S 1 (by decide) (by exact ag.rfl.sI)
  by_cases a2 : inN p2 10000
  case neg => simp [lies_1 a1, in_1 a1, y10000_0 a2, i10000_0 a2]; exact hK.fail S 2 (by decide) (by exact ag.rfl.sI)
  obtain ⟨d, nm, nt, hd, s1, s2, s3, s4, s5, s6, s7⟩ := id S
  obtain ⟨n, hn, rfl⟩ : inN p1 8 := (inN_iff (by decide)).mpr ⟨by have := a1.1; rw [show (1 : Int32).toInt = 1 from rfl] at this; omega, by have := a1.2; rw [show (7 : Int32).toInt = 7 from rfl] at this; omega⟩
  have c3 : vp_in (nI n) 8 := vp_in_nI hn (by decide)
  simp only [lies_1 a1, in_1 a1, y10000_1 a2, i10000_1 a2, gI_sI, gI_sJ, gI_sR, gI_sD, gJ_sI, gJ_sJ, gJ_sR, gJ_sD, gR_sI, gR_sJ, gR_sR, gR_sD, gD_sI, gD_sJ, gD_sR, gD_sD, Nat.reduceEqDiff, false_and, and_false, true_and, and_true, and_self, reduceIte, if_true, if_false, ite_true, ite_false, forall_eq, z_10, z_01, z_in, z_cl, z_as, c3, nI_clamp (show n < 2 ^ 31 by omega)]
  refine hK.go (h := h) (wS [16, 44, 75] [(11, 0)]) (by repeat first | exact ag.rfl | refine ag.sI ?_ rfl | refine ag.sJ ?_ rfl | refine ag.sR ?_ rfl | refine ag.sD ?_ rfl) (fun A => ⟨d, nm, nt, by omega, s1.ag A (wS_dis (by decide)), s2.ag A (wS_dis (by decide)), ?_, (s4.mono (by omega) (by omega)).ag A (wS_dis (by decide)), s5.ag A (wS_dis (by decide)), s6.ag A (wS_dis (by decide)), s7.ag A (wS_dis (by decide))⟩) (by simp [gI_sI, gI_sJ, gI_sR, gI_sD, gJ_sI, gJ_sJ, gJ_sR, gJ_sD, gR_sI, gR_sJ, gR_sR, gR_sD, gD_sI, gD_sJ, gD_sR, gD_sD]) (fun _ => by simp [gI_sI, gI_sJ, gI_sR, gI_sD, gJ_sI, gJ_sJ, gJ_sR, gJ_sD, gR_sI, gR_sJ, gR_sR, gR_sD, gD_sI, gD_sJ, gD_sR, gD_sD, (s3 n hn).1])
  intro b hb
  by_cases e : b = n <;> simp [gI_sI, gI_sJ, gI_sR, gI_sD, gJ_sI, gJ_sJ, gJ_sR, gJ_sD, gR_sI, gR_sJ, gR_sR, gR_sD, gD_sI, gD_sJ, gD_sR, gD_sD, e, s3 b hb, s3 n hn]
theorem im_1 {p : Int32} {h : Hp} {Q : Int32 → Prop} {nm : Nat} (e : gI h 11 0 2 = nI nm) (hn : nm ≤ 40) (a : inN p nm) : wp_X11_isMail p h Q = Q 1 := by
  unfold wp_X11_isMail
  rw [inn_1 nm a (by rw [e]; simp) (by omega)]
theorem im_0 {p : Int32} {h : Hp} {Q : Int32 → Prop} {nm : Nat} (e : gI h 11 0 2 = nI nm) (hn : nm ≤ 40) (a : ¬ inN p nm) : wp_X11_isMail p h Q = Q 0 := by
  unfold wp_X11_isMail
  rw [inn_0 nm a (by rw [e]; simp) (by omega)]
theorem c_boxOf {i : Nat} {h : Hp} (S : Sim i h) (p1 : Int32) {K : Int32 → Int32 → Hp → Prop} (hK : SK i K) :
    wp_L_boxOf p1 h (fun r h1 => wp_X11_boxOf p1 h1 (fun b h2 => K r b h2)) := by
  unfold wp_L_boxOf wp_X10_boxOf wp_X11_boxOf wp_X11_boxOf_b46 wp_X11_fails LET wp_X10_requireInBox wp_X2_isKept
  obtain ⟨d, nm, nt, hd, s1, ⟨n40, e1, e2, s2, s2', s2''⟩, s3, s4, s5, s6, s7⟩ := id S
  have f2 : gI (sI h 11 0 0 0) 11 0 2 = nI nm := by simp [gI_sI, gI_sJ, gI_sR, gI_sD, gJ_sI, gJ_sJ, gJ_sR, gJ_sD, gR_sI, gR_sJ, gR_sR, gR_sD, gD_sI, gD_sJ, gD_sR, gD_sD, e2]
  have f3 : gI (sI (sJ h 75 0 0 (gI h 41 0 nm).toInt64) 11 0 0 0) 11 0 2 = nI nm := by simp [gI_sI, gI_sJ, gI_sR, gI_sD, gJ_sI, gJ_sJ, gJ_sR, gJ_sD, gR_sI, gR_sJ, gR_sR, gR_sD, gD_sI, gD_sJ, gD_sR, gD_sD, e2]
  by_cases a1 : inN p1 nm
  case neg => simp [rb_0 nm a1 e1 (by omega), im_0 f2 n40 a1]; exact hK.fail S 1 (by decide) (by exact ag.rfl.sI)
  obtain ⟨m, hm, rfl⟩ := id a1
  have c3 : vp_in (nI m) 40 := vp_in_nI (by omega) (by decide)
  obtain ⟨q1, q2, q3, q4, q5, q6, q7⟩ := s2' m (by omega)
  have g2 : ∀ v, gI (sI (sJ h 75 0 0 v) 11 0 0 0) 11 0 2 = nI nm := fun v => by simp [gI_sI, gI_sJ, gI_sR, gI_sD, gJ_sI, gJ_sJ, gJ_sR, gJ_sD, gR_sI, gR_sJ, gR_sR, gR_sD, gD_sI, gD_sJ, gD_sR, gD_sD, e2]
  simp only [rb_1 nm a1 e1 (by omega), im_1 f2 n40 a1, im_1 (g2 _) n40 a1, gI_sI, gI_sJ, gI_sR, gI_sD, gJ_sI, gJ_sJ, gJ_sR, gJ_sD, gR_sI, gR_sJ, gR_sR, gR_sD, gD_sI, gD_sJ, gD_sR, gD_sD, Nat.reduceEqDiff, false_and, and_false, true_and, and_true, and_self, reduceIte, if_true, if_false, ite_true, ite_false, forall_eq, z_10, z_01, z_in, z_cl, z_as, c3, nI_clamp (show m < 2 ^ 31 by omega), q1, q2]
  rcases q3 with k1 | k1
  · simp [k1, im_1 f2 n40 a1, gI_sI, gI_sJ, gI_sR, gI_sD, gJ_sI, gJ_sJ, gJ_sR, gJ_sD, gR_sI, gR_sJ, gR_sR, gR_sD, gD_sI, gD_sJ, gD_sR, gD_sD]; exact hK.fail S 2 (by decide) (by exact ag.rfl.sI)
  rcases q4 with k2 | k2
  · simp [k1, k2, im_1 (g2 _) n40 a1, gI_sI, gI_sJ, gI_sR, gI_sD, gJ_sI, gJ_sJ, gJ_sR, gJ_sD, gR_sI, gR_sJ, gR_sR, gR_sD, gD_sI, gD_sJ, gD_sR, gD_sD]
    refine hK.go (h := h) (wS [75, 76] [(11, 0)]) (by repeat first | exact ag.rfl | refine ag.sI ?_ rfl | refine ag.sJ ?_ rfl | refine ag.sR ?_ rfl | refine ag.sD ?_ rfl) (fun A => S.quiet A) (by simp [gI_sI, gI_sJ, gI_sR, gI_sD, gJ_sI, gJ_sJ, gJ_sR, gJ_sD, gR_sI, gR_sJ, gR_sR, gR_sD, gD_sI, gD_sJ, gD_sR, gD_sD]) (fun _ => by simp [gI_sI, gI_sJ, gI_sR, gI_sD, gJ_sI, gJ_sJ, gJ_sR, gJ_sD, gR_sI, gR_sJ, gR_sR, gR_sD, gD_sI, gD_sJ, gD_sR, gD_sD, (q7 k1 k2).1])
  · simp [k1, k2, im_1 f2 n40 a1, gI_sI, gI_sJ, gI_sR, gI_sD, gJ_sI, gJ_sJ, gJ_sR, gJ_sD, gR_sI, gR_sJ, gR_sR, gR_sD, gD_sI, gD_sJ, gD_sR, gD_sD]; exact hK.fail S 2 (by decide) (by exact ag.rfl.sI)
