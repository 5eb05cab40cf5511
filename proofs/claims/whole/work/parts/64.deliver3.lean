/-! deliver: the call -/
theorem c_deliver {i : Nat} {h : Hp} (hi : i < 2 ^ 20) (S : Sim i h) (p1 : Int32) {K : Int32 → Int32 → Hp → Prop} (hK : SK i K) :
    wp_L_deliver p1 h (fun r h1 => wp_X11_deliver p1 h1 (fun b h2 => K r b h2)) := by
  unfold wp_L_deliver wp_X10_deliver wp_X11_deliver wp_X11_fails
  obtain ⟨d, nm, nt, hd, s1, s2, s3, s4, s5, s6, s7⟩ := id S
  obtain ⟨n40, e1, e2, q2, q2', q2''⟩ := id s2
  have f2 : gI (sI h 11 0 0 0) 11 0 2 = nI nm := by simp [gI_sI, gI_sJ, gI_sR, gI_sD, gJ_sI, gJ_sJ, gJ_sR, gJ_sD, gR_sI, gR_sJ, gR_sR, gR_sD, gD_sI, gD_sJ, gD_sR, gD_sD, e2]
  by_cases a2 : inN p1 nm
  case neg => unfold LET; simp [rb_0 nm a2 e1 (by omega), im_0 f2 n40 a2]; exact hK.fail S 1 (by decide) (by exact ag.rfl.sI)
  obtain ⟨m, hm, rfl⟩ := id a2
  have a0 : inN 0 4 := ⟨0, by omega, rfl⟩
  have B : BF h m nm nt := Sim.bf hi hd s1 s2 s3 s4 s5 s6 hm
  have hm40 : m < 40 := by omega
  have hs33 := (q2 m hm).1.1
  rw [rb_1 nm a2 e1 (by omega)]
  refine perf_w B (by omega) a0 ag.rfl (fun o k _ => ⟨rfl, rfl⟩) (fun g h1 rc => ?_)
  have hw := XW.run B 4 0 _ a0 (XW.init g)
  obtain ⟨o, ho, eo⟩ := xFin_10 hw
  have c5 := rc.2.2.2.2.1
  have eo1 : gI h1 5 1 2 = nI o := by rw [← eo]; exact c5 0 (by omega)
  have m0 : gI h1 2 m 0 = gI h 33 0 m := by rw [rc.I 2 m 0]; exact (q2 m hm).2.1
  refine cu_w hm40 ho eo1 (by rw [m0]; exact hs33) (fun h2 A2 u1 u2 u3 u4 u5 u6 u7 u8 u9 u10 u11 => ?_)
  refine ⟨z_in ▸ trivial, ?_⟩
  unfold LET
  rintro y rfl y rfl
  have A0 : ag (wS [0, 2, 5, 17, 18, 19, 20, 25, 26, 27, 75] [(11, 0)]) h (sI (sJ h2 75 0 (0 : Int32).toNatClampNeg (gI h2 5 1 2).toInt64) 11 0 0 0) := (((rc.1.mono (wS_mono (by decide) (by decide))).trans (A2.mono (wS_mono (by decide) (by decide)))).sJ rfl).sI rfl
  have f3 : gI (sI (sJ h2 75 0 (0 : Int32).toNatClampNeg (gI h2 5 1 2).toInt64) 11 0 0 0) 11 0 2 = nI nm := by rw [A0.I 11 0 2, e2]
  rw [im_1 f3 n40 a2, if_neg (by decide)]
  refine mruns_w (g := g) B a0 (A0.mono (wS_mono (by decide) (by decide))) (fun h3 ms e40 => ?_)
  obtain ⟨⟨c, hc, ec⟩, -⟩ := id hw
  have ms2 := ms.2.1
  have A3 := ms.1.2
  refine dm_w hm40 ho (by rw [e40, eo]) (by rw [ms.I 33 0 m]; exact hs33) (fun h4 A4 v1 v2 v3 v4 v5 v6 v7 v8 v9 v10 => ?_)
  have e41 : gI h4 11 0 41 = nI c := by rw [A4.I 11 0 41, ← ec]; exact ms2 2 (by omega) (by omega) (by omega)
  refine kp_w e41 hc (fun h5 A5 k1 k2 k3 k4 k5 k6 k7 => ?_)
  have A25 : ag (wS [39, 40, 41, 42, 43, 45, 46, 47, 48, 52, 58, 59, 60, 61, 62, 63] [(11, 29), (11, 33), (11, 34), (11, 35), (11, 36), (11, 37), (11, 38), (11, 40), (11, 41), (11, 42), (11, 43), (11, 44), (11, 45), (11, 47), (11, 48), (11, 49), (11, 50), (11, 51), (11, 52)]) (sI (sJ h2 75 0 (0 : Int32).toNatClampNeg (gI h2 5 1 2).toInt64) 11 0 0 0) h5 := (A3.mono (wS_mono (by decide) (by decide))).trans ((A4.mono (wS_mono (by decide) (by decide))).trans (A5.mono (wS_mono (by decide) (by decide))))
  have AA : ag (wS [0, 2, 5, 17, 18, 19, 20, 25, 26, 27, 39, 40, 41, 42, 43, 45, 46, 47, 48, 52, 58, 59, 60, 61, 62, 63, 75] [(11, 0), (11, 29), (11, 33), (11, 34), (11, 35), (11, 36), (11, 37), (11, 38), (11, 40), (11, 41), (11, 42), (11, 43), (11, 44), (11, 45), (11, 47), (11, 48), (11, 49), (11, 50), (11, 51), (11, 52)]) h h5 := (A0.mono (wS_mono (by decide) (by decide))).trans (A25.mono (wS_mono (by decide) (by decide)))
  have H2 : ∀ j o k, wS [39, 40, 41, 42, 43, 45, 46, 47, 48, 52, 58, 59, 60, 61, 62, 63] [(11, 29), (11, 33), (11, 34), (11, 35), (11, 36), (11, 37), (11, 38), (11, 40), (11, 41), (11, 42), (11, 43), (11, 44), (11, 45), (11, 47), (11, 48), (11, 49), (11, 50), (11, 51), (11, 52)] j k = false → j ≠ 11 → gI h5 j o k = gI h2 j o k := fun j o k hj h11 => by
    rw [A25.I j o k hj, gI_o (Or.inl h11)]
    rfl
  have H24 : ∀ j o k, wS [39, 40, 41, 42, 43, 45, 46, 47, 48] [] j k = false → gI h4 j o k = gI h3 j o k := fun j o k hj => A4.I j o k hj
  have H5 : ∀ j o k, wS [63] [(11, 47), (11, 48), (11, 49), (11, 50), (11, 51), (11, 52)] j k = false → gI h5 j o k = gI h4 j o k := fun j o k hj => A5.I j o k hj
  have x1 : gI h1 5 1 3 = xRun h m 4 0 (xInit h m nm g) 1 := by rw [← xFin_o (σ := xRun h m 4 0 (xInit h m nm g)) (show 1 ≠ 0 by omega)]; exact c5 1 (by omega)
  have x7 : gI h1 5 1 9 = xRun h m 4 0 (xInit h m nm g) 7 := by rw [← xFin_o (σ := xRun h m 4 0 (xInit h m nm g)) (show 7 ≠ 0 by omega)]; exact c5 7 (by omega)
  have x9 : gI h1 5 1 11 = xRun h m 4 0 (xInit h m nm g) 9 := by rw [← xFin_o (σ := xRun h m 4 0 (xInit h m nm g)) (show 9 ≠ 0 by omega)]; exact c5 9 (by omega)
  have y1 : gI h3 11 0 35 = xRun h m 4 0 (xInit h m nm g) 1 := ms2 1 (by omega) (by omega) (by omega)
  have y7 : gI h3 11 0 37 = xRun h m 4 0 (xInit h m nm g) 7 := ms2 7 (by omega) (by omega) (by omega)
  have y9 : gI h3 11 0 38 = xRun h m 4 0 (xInit h m nm g) 9 := ms2 9 (by omega) (by omega) (by omega)
  refine hK.go _ AA (fun A => ⟨d, nm, nt, by omega, s1.ag A (wS_dis (by decide)), ?_, ?_, ?_, s5.ag A (wS_dis (by decide)), s6.ag A (wS_dis (by decide)), ?_⟩) ?_ (fun _ => ?_)
  · refine ⟨n40, by rw [A.I 3 0 6, e1], by rw [A.I 11 0 2, e2], fun k hk => ⟨?_, ?_⟩, fun k hk => ?_, fun k hk1 hk2 => ?_⟩
    · unfold SmV
      rw [A.I 33 0 k, A.I 34 0 k, A.I 35 0 k, A.I 36 0 k, A.I 37 0 k, A.I 38 0 k]
      exact (q2 k hk).1
    · have e : ∀ x, x < 6 → gI h5 2 k x = gI h 2 k x := fun x hx => by
        rw [H2 2 k x rfl (by decide)]
        by_cases ek : k = m
        · subst ek
          rw [u2 x hx, rc.I 2 k x]
        · rw [u1 k x ek, rc.I 2 k x]
      unfold SmE
      rw [e 0 (by omega), e 1 (by omega), e 2 (by omega), e 3 (by omega), e 4 (by omega), e 5 (by omega), A.I 33 0 k, A.I 34 0 k, A.I 35 0 k, A.I 36 0 k, A.I 37 0 k, A.I 38 0 k]
      exact (q2 k hk).2
    · by_cases ek : k = m
      · subst ek
        have w8 : gI h5 2 k 8 = 1 := by rw [H2 2 k 8 rfl (by decide), u3]
        have w10 : gI h5 2 k 10 = 0 := by rw [H2 2 k 10 rfl (by decide), u4]
        have w9 : gI h5 2 k 9 = if o < 8 then 0 else 1 := by rw [H2 2 k 9 rfl (by decide), u5]
        have w6 : gI h5 2 k 6 = if o < 8 then nI o else 0 := by rw [H2 2 k 6 rfl (by decide), u6]
        have w7 : gI h5 2 k 7 = xRun h k 4 0 (xInit h k nm g) 1 := by rw [H2 2 k 7 rfl (by decide), u7, x1]
        have z39 : gI h5 39 0 k = 1 := by rw [H5 39 0 k rfl, v2]
        have z40 : gI h5 40 0 k = if o < 8 then 0 else 1 := by rw [H5 40 0 k rfl, v3]
        have z41 : gI h5 41 0 k = if o < 8 then nI o else gI h3 41 0 k := by rw [H5 41 0 k rfl, v4]
        have z42 : gI h5 42 0 k = xRun h k 4 0 (xInit h k nm g) 1 := by rw [H5 42 0 k rfl, v5, y1]
        have z43 : gI h5 43 0 k = -1 := by rw [H5 43 0 k rfl, v6]
        refine ⟨by rw [w8, z39], by rw [w9, z40], by rw [z39]; exact Or.inr rfl, ?_, fun q => ?_, by rw [w7, z42], fun _ q => ?_⟩
        · rw [z40]
          split
          · exact Or.inl rfl
          · exact Or.inr rfl
        · rw [z39] at q; exact absurd q (by decide)
        · have l : o < 8 := by
            rw [z40] at q
            by_cases l : o < 8
            · exact l
            · rw [if_neg l] at q; exact absurd q (by decide)
          rw [w6, z41, if_pos l, if_pos l]
          exact ⟨rfl, ⟨o, l, rfl⟩, fun _ => z43, fun q => absurd w10 q⟩
      · obtain ⟨t1, t2, t3, t4, t5⟩ := v1 k ek
        unfold SmD
        rw [H2 2 k 6 rfl (by decide), H2 2 k 7 rfl (by decide), H2 2 k 8 rfl (by decide), H2 2 k 9 rfl (by decide), H2 2 k 10 rfl (by decide), u1 k 6 ek, u1 k 7 ek, u1 k 8 ek, u1 k 9 ek, u1 k 10 ek, rc.I 2 k 6, rc.I 2 k 7, rc.I 2 k 8, rc.I 2 k 9, rc.I 2 k 10,
          H5 39 0 k rfl, H5 40 0 k rfl, H5 41 0 k rfl, H5 42 0 k rfl, H5 43 0 k rfl, t1, t2, t3, t4, t5, ms.I 39 0 k, ms.I 40 0 k, ms.I 41 0 k, ms.I 42 0 k, ms.I 43 0 k]
        exact q2' k hk
    · have ek : k ≠ m := by omega
      rw [H5 39 0 k rfl, (v1 k ek).1, ms.I 39 0 k]
      exact q2'' k hk1 hk2
  · intro b hb
    rw [A.I 16 0 b, A.I 44 0 b, H2 17 0 b rfl (by decide), u8 b hb, rc.I 17 0 b, H5 45 0 b rfl, v7 b hb, ms.I 45 0 b, ms.2.2.1 b hb]
    have : gI h1 27 1 b = xRun h m 4 0 (xInit h m nm g) (20 + b) := by rw [← xFin_o (σ := xRun h m 4 0 (xInit h m nm g)) (show 20 + b ≠ 0 by omega)]; exact rc.2.2.2.2.2.2.2.1 b hb
    rw [this, (s3 b hb).2]
    exact ⟨(s3 b hb).1, rfl⟩
  · intro p hp
    obtain ⟨g1, g2, cc, g3, g4, g5, g6⟩ := s4 p hp
    rw [H2 18 0 p rfl (by decide), H2 19 0 p rfl (by decide), H2 20 0 p rfl (by decide), u9 p hp, u10 p hp, u11 p hp, H5 46 0 p rfl, H5 47 0 p rfl, H5 48 0 p rfl, v8 p hp, v9 p hp, v10 p hp, x7, x9, y7, y9, m0, ms.I 33 0 m, ms.I 46 0 p, ms.I 47 0 p, ms.I 48 0 p, ms.I 11 0 1, rc.I 18 0 p, rc.I 19 0 p, rc.I 20 0 p, rc.I 3 0 7, s1.1, s1.2, g2]
    by_cases r : xRun h m 4 0 (xInit h m nm g) 9 ≠ 0 ∧ nI p = gI h 33 0 m
    · simp only [if_pos r]
      refine ⟨by rw [g1], by trivial, cc + 1, by omega, by rw [g4, nI_1], fun q => by omega, fun _ => ⟨by trivial, d, Nat.le_refl _, by trivial⟩⟩
    · simp only [if_neg r]
      exact ⟨g1, by trivial, cc, by omega, g4, g5, g6⟩
  · refine SLast.of hw rc ms (fun o' k => ⟨?_, ?_⟩) hc (by rw [← H24 11 0 41 rfl]; exact e41) k1 (by rw [k2, H24 11 0 42 rfl]) (by rw [k3, H24 11 0 43 rfl]) (by rw [k4, H24 11 0 44 rfl]) (by rw [k5, H24 11 0 45 rfl]) (by rw [k6, H24 11 0 35 rfl]) (fun k hk => by rw [k7 k hk, H24 62 0 k rfl])
    · rw [H2 5 o' k rfl (by decide), A2.I 5 o' k]
    · rw [H2 26 o' k rfl (by decide), A2.I 26 o' k]
  · rw [A25.I 11 0 0]; simp [gI_sI, gI_sJ, gI_sR, gI_sD, gJ_sI, gJ_sJ, gJ_sR, gJ_sD, gR_sI, gR_sJ, gR_sR, gR_sD, gD_sI, gD_sJ, gD_sR, gD_sD]
  · rw [A25.J 75 0 0]
    simp only [gI_sI, gI_sJ, gI_sR, gI_sD, gJ_sI, gJ_sJ, gJ_sR, gJ_sD, gR_sI, gR_sJ, gR_sR, gR_sD, gD_sI, gD_sJ, gD_sR, gD_sD, Nat.reduceEqDiff, false_and, and_false, true_and, and_true, and_self, reduceIte, if_true, if_false, ite_true, ite_false, z_cl]
    rw [A4.I 11 0 40, e40, eo, A2.I 5 1 2, eo1]
