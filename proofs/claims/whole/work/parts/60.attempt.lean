/-! attempt and difference -/
theorem kp_w {c : Nat} {h : Hp} {Q : Int32 → Hp → Prop} (e : gI h 11 0 41 = nI c) (hc : c ≤ 200)
    (f : ∀ h', ag (wS [63] [(11, 47), (11, 48), (11, 49), (11, 50), (11, 51), (11, 52)]) h h' → gI h' 11 0 47 = nI c → gI h' 11 0 48 = gI h 11 0 42 → gI h' 11 0 49 = gI h 11 0 43 → gI h' 11 0 50 = gI h 11 0 44 → gI h' 11 0 51 = gI h 11 0 45 → gI h' 11 0 52 = gI h 11 0 35 → (∀ k, k < c → gI h' 63 0 k = gI h 62 0 k) → Q (gI h 11 0 40) h') : wp_X11_keeps h Q := by
  unfold wp_X11_keeps wp_X11_keeps_b50 LET
  simp only [forall_eq, gI_sI, gI_sJ, gI_sR, gI_sD, gJ_sI, gJ_sJ, gJ_sR, gJ_sD, gR_sI, gR_sJ, gR_sR, gR_sD, gD_sI, gD_sJ, gD_sR, gD_sD, Nat.reduceEqDiff, false_and, and_false, true_and, and_true, and_self, reduceIte, if_true, if_false, ite_true, ite_false, e]
  refine LFP2.by (I := fun y h' => ∃ k, k ≤ c ∧ y = nI k ∧ ag (wS [63] [(11, 47), (11, 48), (11, 49), (11, 50), (11, 51), (11, 52)]) h h' ∧ (gI h' 11 0 47 = nI c ∧ gI h' 11 0 48 = gI h 11 0 42 ∧ gI h' 11 0 49 = gI h 11 0 43 ∧ gI h' 11 0 50 = gI h 11 0 44 ∧ gI h' 11 0 51 = gI h 11 0 45 ∧ gI h' 11 0 52 = gI h 11 0 35) ∧ ∀ j, j < k → gI h' 63 0 j = gI h 62 0 j) (μ := fun y _ => 200 - y.toNatClampNeg)
    ⟨0, by omega, rfl, (by repeat first | exact ag.rfl | refine ag.sI ?_ rfl | refine ag.sJ ?_ rfl | refine ag.sR ?_ rfl | refine ag.sD ?_ rfl), by simp [gI_sI, gI_sJ, gI_sR, gI_sD, gJ_sI, gJ_sJ, gJ_sR, gJ_sD, gR_sI, gR_sJ, gR_sR, gR_sD, gD_sI, gD_sJ, gD_sR, gD_sD], fun j hj => by omega⟩ ?_
  rintro y h' ⟨k, hk, rfl, A, C, D⟩ P hP
  unfold wp_X11_keeps_b50F LET
  rw [A.I 11 0 41, e]
  by_cases ck : k = c
  · subst ck
    rw [if_pos (nI_le (Nat.le_refl _) (by omega)), A.I 11 0 40]
    obtain ⟨c1, c2, c3, c4, c5, c6⟩ := C
    exact f h' A c1 c2 c3 c4 c5 c6 D
  · rw [if_neg (nI_ge (show k < c by omega) (by omega))]
    refine ⟨vp_in_nI (by omega) (by decide), ?_⟩
    rw [nI_clamp (by omega)]
    simp only [forall_eq]
    refine hP _ _ ⟨k + 1, by omega, nI_1 k, A.sI rfl, ?_, fun j hj => ?_⟩ (by rw [nI_1, nI_clamp (by omega), nI_clamp (by omega)]; omega)
    · simp only [gI_sI, gI_sJ, gI_sR, gI_sD, gJ_sI, gJ_sJ, gJ_sR, gJ_sD, gR_sI, gR_sJ, gR_sR, gR_sD, gD_sI, gD_sJ, gD_sR, gD_sD, Nat.reduceEqDiff, false_and, and_false, true_and, and_true, and_self, reduceIte, if_true, if_false, ite_true, ite_false]
      exact C
    · by_cases ej : j = k
      · subst ej
        rw [gI_e, A.I 62 0 j]
      · rw [gI_o (by omega)]
        exact D j (by omega)
theorem Sim.bf {i : Nat} {h : Hp} {d nm nt m : Nat} (hi : i < 2 ^ 20) (hd : d ≤ 100 * i) (s1 : SDay d h) (s2 : SMail d nm h) (s3 : SBox h) (s4 : SReply i d h) (s5 : STest nt h) (s6 : SScr nt h) (hm : m < nm) : BF h m nm nt := ⟨d, i, hi, by omega, s1, s2, s3, s4, s5, s6, hm⟩
theorem xFin_o {σ : Nat → Int32} {i : Nat} (h : i ≠ 0) : xFin σ i = σ i := by
  unfold xFin
  split
  · exact up_n h
  · rfl
theorem xFin_10 {h : Hp} {m nm : Nat} {σ : Nat → Int32} (w : XW h m nm σ) : inN (xFin σ 0) 10 := by
  unfold xFin
  split
  · rw [up_e]; exact ⟨0, by omega, rfl⟩
  · rename_i q
    rcases w.2.1 with x | x
    · exact absurd x q
    · exact x
/-- the last run, kept by both -/
theorem SLast.of {h m nt nm σ h1 h0 h3 h4} (w : XW h m nm σ) (rc : RC h m nt 1 (xFin σ) h1) (ms : MS h h0 σ h3) (A : ∀ o k, gI h4 5 o k = gI h1 5 o k ∧ gI h4 26 o k = gI h1 26 o k) {c : Nat} (hc : c ≤ 200) (e : gI h3 11 0 41 = nI c)
    (k1 : gI h4 11 0 47 = nI c) (k2 : gI h4 11 0 48 = gI h3 11 0 42) (k3 : gI h4 11 0 49 = gI h3 11 0 43) (k4 : gI h4 11 0 50 = gI h3 11 0 44) (k5 : gI h4 11 0 51 = gI h3 11 0 45) (k6 : gI h4 11 0 52 = gI h3 11 0 35) (k7 : ∀ k, k < c → gI h4 63 0 k = gI h3 62 0 k) : SLast h4 := by
  have c5 := rc.2.2.2.2.1
  have b := ms.2.1
  have g1 : gI h1 5 1 3 = σ 1 := by rw [← xFin_o (σ := σ) (show 1 ≠ 0 by omega)]; exact c5 1 (by omega)
  have g2 : gI h1 5 1 4 = σ 2 := by rw [← xFin_o (σ := σ) (show 2 ≠ 0 by omega)]; exact c5 2 (by omega)
  have g3 : gI h1 5 1 5 = σ 3 := by rw [← xFin_o (σ := σ) (show 3 ≠ 0 by omega)]; exact c5 3 (by omega)
  have g4 : gI h1 5 1 6 = σ 4 := by rw [← xFin_o (σ := σ) (show 4 ≠ 0 by omega)]; exact c5 4 (by omega)
  have g5 : gI h1 5 1 7 = σ 5 := by rw [← xFin_o (σ := σ) (show 5 ≠ 0 by omega)]; exact c5 5 (by omega)
  have g6 : gI h1 5 1 8 = σ 6 := by rw [← xFin_o (σ := σ) (show 6 ≠ 0 by omega)]; exact c5 6 (by omega)
  have m1 : gI h3 11 0 35 = σ 1 := b 1 (by omega) (by omega) (by omega)
  have m2 : gI h3 11 0 41 = σ 2 := b 2 (by omega) (by omega) (by omega)
  have m3 : gI h3 11 0 42 = σ 3 := b 3 (by omega) (by omega) (by omega)
  have m4 : gI h3 11 0 43 = σ 4 := b 4 (by omega) (by omega) (by omega)
  have m5 : gI h3 11 0 44 = σ 5 := b 5 (by omega) (by omega) (by omega)
  have m6 : gI h3 11 0 45 = σ 6 := b 6 (by omega) (by omega) (by omega)
  have e2 : σ 2 = nI c := by rw [← m2, e]
  refine ⟨c, hc, ?_, k1, fun k hk => ?_, ?_, ?_, ?_, ?_, ?_⟩
  · rw [(A 1 4).1, g2, e2]
  · rw [(A 1 k).2, k7 k hk, rc.2.2.2.2.2.2.2.2.2.1 k (by omega), xFin_o (by omega), ms.2.2.2.1 k (by rw [e2]; rw [show cl (nI c) = c from nI_clamp (by omega)]; exact hk)]
  · rw [(A 1 5).1, g3, k2, m3]
  · rw [(A 1 6).1, g4, k3, m4]
  · rw [(A 1 7).1, g5, k4, m5]
  · rw [(A 1 8).1, g6, k5, m6]
  · rw [(A 1 3).1, g1, k6, m1]
theorem c_attempt {i : Nat} {h : Hp} (hi : i < 2 ^ 20) (S : Sim i h) (p1 p2 : Int32) {K : Int32 → Int32 → Hp → Prop} (hK : SK i K) :
    wp_L_attempt p1 p2 h (fun r h1 => wp_X11_attempt p1 p2 h1 (fun b h2 => K r b h2)) := by
  unfold wp_L_attempt wp_X10_attempt wp_X11_attempt wp_X11_attempt_b20 wp_X11_fails wp_X11_isScript LET
  obtain ⟨d, nm, nt, hd, s1, s2, s3, s4, s5, s6, s7⟩ := id S
  obtain ⟨n40, e1, e2, q2, q2', q2''⟩ := id s2
  have f2 : gI (sI h 11 0 0 0) 11 0 2 = nI nm := by simp [gI_sI, gI_sJ, gI_sR, gI_sD, gJ_sI, gJ_sJ, gJ_sR, gJ_sD, gR_sI, gR_sJ, gR_sR, gR_sD, gD_sI, gD_sJ, gD_sR, gD_sD, e2]
  by_cases a1 : inN p1 4
  case neg => simp [rb4_0 a1, i4_0 a1]; exact hK.fail S 1 (by decide) (by exact ag.rfl.sI)
  by_cases a2 : inN p2 nm
  case neg => simp [rb4_1 a1, i4_1 a1, rb_0 nm a2 e1 (by omega), im_0 f2 n40 a2]; exact hK.fail S 1 (by decide) (by exact ag.rfl.sI)
  obtain ⟨m, hm, rfl⟩ := id a2
  have B : BF h m nm nt := Sim.bf hi hd s1 s2 s3 s4 s5 s6 hm
  rw [rb4_1 a1, rb_1 nm a2 e1 (by omega)]
  refine perf_w B (by omega) a1 ag.rfl (fun o k _ => ⟨rfl, rfl⟩) (fun g h1 rc => ?_)
  refine ⟨z_in ▸ trivial, ?_⟩
  rintro y rfl y rfl
  rw [z_cl]
  have hw := XW.run B 4 p1 _ a1 (XW.init g)
  have f3 : gI (sI (sJ h1 75 0 0 (gI h1 5 1 2).toInt64) 11 0 0 0) 11 0 2 = nI nm := by
    simp only [gI_sI, gI_sJ, gI_sR, gI_sD, gJ_sI, gJ_sJ, gJ_sR, gJ_sD, gR_sI, gR_sJ, gR_sR, gR_sD, gD_sI, gD_sJ, gD_sR, gD_sD, Nat.reduceEqDiff, false_and, and_false, true_and, and_true, and_self, reduceIte, if_true, if_false, ite_true, ite_false]
    rw [rc.I 11 0 2, e2]
  rw [i4_1 a1]
  dsimp only
  rw [if_neg (by decide), im_1 f3 n40 a2, if_neg (by decide)]
  have A0 : ag WM h (sI (sJ h1 75 0 0 (gI h1 5 1 2).toInt64) 11 0 0 0) := ((rc.1.mono (wS_mono (by decide) (by decide))).sJ rfl).sI rfl
  refine mruns_w (g := g) B a1 A0 (fun h3 ms e40 => ?_)
  obtain ⟨⟨c, hc, ec⟩, -⟩ := id hw
  have e41 : gI h3 11 0 41 = nI c := by rw [← ec]; exact ms.2.1 2 (by omega) (by omega) (by omega)
  refine kp_w e41 hc (fun h4 A4 k1 k2 k3 k4 k5 k6 k7 => ?_)
  have A34 : ag (wS [52, 58, 59, 60, 61, 62, 63] [(11, 29), (11, 33), (11, 34), (11, 35), (11, 36), (11, 37), (11, 38), (11, 40), (11, 41), (11, 42), (11, 43), (11, 44), (11, 45), (11, 47), (11, 48), (11, 49), (11, 50), (11, 51), (11, 52)]) (sI (sJ h1 75 0 0 (gI h1 5 1 2).toInt64) 11 0 0 0) h4 := (ms.1.2.mono (wS_mono (by decide) (by decide))).trans (A4.mono (wS_mono (by decide) (by decide)))
  have AA : ag (wS [0, 5, 25, 26, 27, 52, 58, 59, 60, 61, 62, 63, 75] [(11, 0), (11, 29), (11, 33), (11, 34), (11, 35), (11, 36), (11, 37), (11, 38), (11, 40), (11, 41), (11, 42), (11, 43), (11, 44), (11, 45), (11, 47), (11, 48), (11, 49), (11, 50), (11, 51), (11, 52)]) h h4 := (((rc.1.mono (wS_mono (by decide) (by decide))).sJ rfl).sI rfl).trans (A34.mono (wS_mono (by decide) (by decide)))
  refine hK.go _ AA (fun A => ⟨d, nm, nt, by omega, s1.ag A (wS_dis (by decide)), s2.ag A (wS_dis (by decide)), s3.ag A (wS_dis (by decide)), (s4.mono (by omega) (by omega)).ag A (wS_dis (by decide)), s5.ag A (wS_dis (by decide)), s6.ag A (wS_dis (by decide)), ?_⟩) ?_ (fun _ => ?_)
  · exact SLast.of hw rc ms (fun o k => ⟨by rw [A34.I 5 o k]; rfl, by rw [A34.I 26 o k]; rfl⟩) hc e41 k1 k2 k3 k4 k5 k6 k7
  · rw [A34.I 11 0 0]; simp [gI_sI, gI_sJ, gI_sR, gI_sD, gJ_sI, gJ_sJ, gJ_sR, gJ_sD, gR_sI, gR_sJ, gR_sR, gR_sD, gD_sI, gD_sJ, gD_sR, gD_sD]
  · rw [A34.J 75 0 0]
    simp only [gI_sI, gI_sJ, gI_sR, gI_sD, gJ_sI, gJ_sJ, gJ_sR, gJ_sD, gR_sI, gR_sJ, gR_sR, gR_sD, gD_sI, gD_sJ, gD_sR, gD_sD, Nat.reduceEqDiff, false_and, and_false, true_and, and_true, and_self, reduceIte, if_true, if_false, ite_true, ite_false]
    rw [e40]
    have : gI h1 5 1 2 = xFin (xRun h m 4 p1 (xInit h m nm g)) 0 := rc.2.2.2.2.1 0 (by omega)
    rw [this]
