/-! difference -/
theorem f8 {x : Int32} (h : ∀ i, 8 ≤ i → i < 32 → bI x i = false) : inN x 256 := by
  have e : x &&& 255 = x := bI_ext (fun i hi => by
    rw [bI_and]
    rcases Nat.lt_or_ge i 8 with l | l
    · rw [(by decide +kernel : ∀ i, i < 8 → bI 255 i = true) i l, Bool.and_true]
    · rw [h i l hi, Bool.false_and])
  exact ⟨x.toBitVec.toNat % 2 ^ 8, Nat.mod_lt _ (by decide), by rw [← pk_and x (m := 255) 8 rfl, e]⟩
theorem SLast.eq {h h' : Hp} (s : SLast h) (a : ∀ k, gI h' 5 1 k = gI h 5 1 k) (b : ∀ k, gI h' 26 1 k = gI h 26 1 k) (c : ∀ k, gI h' 63 0 k = gI h 63 0 k) (d : ∀ k, 47 ≤ k → k ≤ 52 → gI h' 11 0 k = gI h 11 0 k) : SLast h' := by
  unfold SLast
  simp only [a, b, c, d 47 (by omega) (by omega), d 48 (by omega) (by omega), d 49 (by omega) (by omega), d 50 (by omega) (by omega), d 51 (by omega) (by omega), d 52 (by omega) (by omega)]
  exact s
/-- what comes of a script for a mail -/
def xF (h : Hp) (nm m : Nat) (a : Int32) (g : Nat → Int32) : Nat → Int32 := xFin (xRun h m 4 a (xInit h m nm g))
def dF (h : Hp) (nm : Nat) (a b : Int32) (G1 G2 : Nat → Nat → Int32) (m : Nat) : Bool := !(decide (xF h nm m b (G2 m) 0 = xF h nm m a (G1 m) 0) && decide (xF h nm m b (G2 m) 1 = xF h nm m a (G1 m) 1))
theorem upd_e {α : Type} (f : Nat → α) (n : Nat) (v : α) : (fun k => if k = n then v else f k) n = v := by simp
theorem difC {h h' : Hp} {nm nt : Nat} {a b : Int32} {Q : Int32 → Hp → Prop} {Z : String → Hp → Prop} (hB : ∀ m, m < nm → BF h m nm nt) (e1 : gI h 3 0 6 = nI nm) (n40 : nm ≤ 40) (ha : inN a 4) (hb : inN b 4) (A : ag (wS [0, 5, 25, 26, 27] []) h h') (O : ∀ o k, o ≠ 2 → gI h' 5 o k = gI h 5 o k ∧ gI h' 26 o k = gI h 26 o k)
    (f : ∀ G1 G2 h'', ag (wS [0, 5, 25, 26, 27] []) h h'' → (∀ o k, o ≠ 2 → gI h'' 5 o k = gI h 5 o k ∧ gI h'' 26 o k = gI h 26 o k) → Q (nI (ct (dF h nm a b G1 G2) nm)) h'') : wp_X10_difference_b15 a b 0 0 h' Q Z := by
  unfold wp_X10_difference_b15
  refine LFP3.by (I := fun x y h1 => ∃ n G1 G2, n ≤ nm ∧ y = nI n ∧ x = nI (ct (dF h nm a b G1 G2) n) ∧ ag (wS [0, 5, 25, 26, 27] []) h h1 ∧ (∀ o k, o ≠ 2 → gI h1 5 o k = gI h 5 o k ∧ gI h1 26 o k = gI h 26 o k)) (μ := fun _ y _ => 40 - y.toNatClampNeg) ⟨0, fun _ _ => 0, fun _ _ => 0, by omega, rfl, rfl, A, O⟩ ?_
  rintro x y h1 ⟨n, G1, G2, hn, rfl, rfl, A1, O1⟩ P hP
  unfold wp_X10_difference_b15F wp_X10_difference_b97 wp_X10_difference_b100 LET
  rw [A1.I 3 0 6, e1]
  by_cases c : n = nm
  · subst c
    rw [if_pos (nI_le (Nat.le_refl _) (by omega))]
    exact f G1 G2 h1 A1 O1
  rw [if_neg (nI_ge (show n < nm by omega) (by omega))]
  refine perf_w (hB n (by omega)) (by omega) ha A1 O1 (fun g1 h2 r1 => ?_)
  rintro v3 rfl v4 rfl
  refine perf_w (hB n (by omega)) (by omega) hb r1.1 r1.2.1 (fun g2 h3 r2 => ?_)
  have x0 : gI h2 5 2 2 = xF h nm n a g1 0 := r1.2.2.2.2.1 0 (by omega)
  have x1 : gI h2 5 2 3 = xF h nm n a g1 1 := r1.2.2.2.2.1 1 (by omega)
  have y0 : gI h3 5 2 2 = xF h nm n b g2 0 := r2.2.2.2.2.1 0 (by omega)
  have y1 : gI h3 5 2 3 = xF h nm n b g2 1 := r2.2.2.2.2.1 1 (by omega)
  rw [x0, x1, y0, y1]
  simp only [forall_eq]
  have go : ∀ v, v = ct (dF h nm a b G1 G2) n + (if (!(decide (xF h nm n b g2 0 = xF h nm n a g1 0) && decide (xF h nm n b g2 1 = xF h nm n a g1 1))) = true then 1 else 0) → P (nI v) (nI n + 1) h3 := fun v hv => by
    refine hP _ _ _ ⟨n + 1, fun k => if k = n then g1 else G1 k, fun k => if k = n then g2 else G2 k, by omega, nI_1 n, ?_, r2.1, r2.2.1⟩ (by rw [nI_1, nI_clamp (by omega), nI_clamp (by omega)]; omega)
    rw [hv]
    show _ = nI (ct _ n + (if dF h nm a b _ _ n = true then 1 else 0))
    rw [ct_ext (f := dF h nm a b (fun k => if k = n then g1 else G1 k) (fun k => if k = n then g2 else G2 k)) (g := dF h nm a b G1 G2) (fun m hm => by unfold dF; simp only [show ¬ m = n by omega, if_false])]
    unfold dF
    simp only [if_true]
  by_cases q0 : xF h nm n b g2 0 = xF h nm n a g1 0
  · rw [if_pos q0]
    by_cases q1 : xF h nm n b g2 1 = xF h nm n a g1 1
    · rw [if_pos q1]
      exact go _ (by simp [q0, q1])
    · rw [if_neg q1, nI_1]
      exact go _ (by simp [q0, q1])
  · rw [if_neg q0, nI_1]
    exact go _ (by simp [q0])
theorem difM {h h0 : Hp} {nm nt : Nat} {a b : Int32} {G1 G2 : Nat → Nat → Int32} {Q : Int32 → Hp → Prop} (hB : ∀ m, m < nm → BF h m nm nt) (e2 : gI h 11 0 2 = nI nm) (n40 : nm ≤ 40) (ha : inN a 4) (hb : inN b 4) (A : ag WM h h0)
    (f : ∀ h'', ag WR h0 h'' → Q (nI (ct (dF h nm a b G1 G2) nm)) h'') : wp_X11_difference_b30 a b 0 0 h0 Q := by
  unfold wp_X11_difference_b30
  have WW : ∀ {h'}, ag WR h0 h' → ag WM h h' := fun r => A.trans (r.mono (wS_mono (by decide) (by decide)))
  refine LFP3.by (I := fun x y h1 => ∃ n, n ≤ nm ∧ y = nI n ∧ x = nI (ct (dF h nm a b G1 G2) n) ∧ ag WR h0 h1) (μ := fun _ y _ => 40 - y.toNatClampNeg) ⟨0, by omega, rfl, rfl, ag.rfl⟩ ?_
  rintro x y h1 ⟨n, hn, rfl, rfl, A1⟩ P hP
  unfold wp_X11_difference_b30F wp_X11_difference_b90 LET
  rw [(WW A1).I 11 0 2, e2]
  by_cases c : n = nm
  · subst c
    rw [if_pos (nI_le (Nat.le_refl _) (by omega))]
    exact f h1 A1
  rw [if_neg (nI_ge (show n < nm by omega) (by omega))]
  have B := hB n (by omega)
  refine mruns_w (g := G1 n) B ha (WW A1) (fun h2 m1 t1 => ?_)
  rintro v3 rfl
  refine mruns_w (g := G2 n) B hb (WW (A1.trans m1.1.2)) (fun h3 m2 t2 => ?_)
  have x1 : gI h2 11 0 35 = xF h nm n a (G1 n) 1 := by unfold xF; rw [xFin_o (by omega)]; exact m1.2.1 1 (by omega) (by omega) (by omega)
  have y1 : gI h3 11 0 35 = xF h nm n b (G2 n) 1 := by unfold xF; rw [xFin_o (by omega)]; exact m2.2.1 1 (by omega) (by omega) (by omega)
  have x0 : gI h2 11 0 40 = xF h nm n a (G1 n) 0 := t1
  have y0 : gI h3 11 0 40 = xF h nm n b (G2 n) 0 := t2
  rw [x1, y1, x0, y0]
  simp only [forall_eq]
  have w1 := XW.run B 4 a _ ha (XW.init (G1 n))
  have w2 := XW.run B 4 b _ hb (XW.init (G2 n))
  obtain ⟨o1, ho1, eo1⟩ : inN (xF h nm n a (G1 n) 0) 10 := xFin_10 w1
  obtain ⟨o2, ho2, eo2⟩ : inN (xF h nm n b (G2 n) 0) 10 := xFin_10 w2
  obtain ⟨u1, hu1, eu1⟩ : inN (xF h nm n a (G1 n) 1) 256 := by unfold xF; rw [xFin_o (by omega)]; exact f8 w1.2.2.1
  obtain ⟨u2, hu2, eu2⟩ : inN (xF h nm n b (G2 n) 1) 256 := by unfold xF; rw [xFin_o (by omega)]; exact f8 w2.2.2.1
  have go : ∀ v, v = nI (ct (dF h nm a b G1 G2) (n + 1)) → P v (nI n + 1) h3 := fun v hv => hP _ _ _ ⟨n + 1, by omega, nI_1 n, hv, A1.trans (m1.1.2.trans m2.1.2)⟩ (by rw [nI_1, nI_clamp (by omega), nI_clamp (by omega)]; omega)
  have dd : dF h nm a b G1 G2 n = !(decide (o2 = o1) && decide (u2 = u1)) := by
    unfold dF
    rw [eo1, eo2, eu1, eu2]
    rw [show decide (nI o2 = nI o1) = decide (o2 = o1) from decide_eq_decide.mpr (nI_eq (by omega) (by omega)), show decide (nI u2 = nI u1) = decide (u2 = u1) from decide_eq_decide.mpr (nI_eq (by omega) (by omega))]
  have e10 : ∀ u o, (10 : Int32) * nI u + nI o = nI (10 * u + o) := fun u o => by rw [show (10 : Int32) = nI 10 from rfl, pk_mul, nI_add]
  rw [eo1, eo2, eu1, eu2, e10, e10]
  by_cases q : 10 * u1 + o1 = 10 * u2 + o2
  · rw [if_pos (by rw [q])]
    refine go _ ?_
    show _ = nI (ct _ n + (if dF h nm a b G1 G2 n = true then 1 else 0))
    rw [dd]
    simp [show o2 = o1 by omega, show u2 = u1 by omega]
  · rw [if_neg (nI_ne (by omega) (by omega) q), nI_1]
    refine go _ ?_
    show _ = nI (ct _ n + (if dF h nm a b G1 G2 n = true then 1 else 0))
    rw [dd]
    by_cases q0 : o2 = o1
    · have : ¬ u2 = u1 := by omega
      simp [q0, this]
    · simp [q0]
theorem c_difference {i : Nat} {h : Hp} (hi : i < 2 ^ 20) (S : Sim i h) (p1 p2 : Int32) {K : Int32 → Int32 → Hp → Prop} (hK : SK i K) :
    wp_L_difference p1 p2 h (fun r h1 => wp_X11_difference p1 p2 h1 (fun b h2 => K r b h2)) := by
  unfold wp_L_difference wp_X10_difference wp_X11_difference wp_X11_difference_b19 wp_X11_fails wp_X11_isScript LET
  obtain ⟨d, nm, nt, hd, s1, s2, s3, s4, s5, s6, s7⟩ := id S
  obtain ⟨n40, e1, e2, q2, q2', q2''⟩ := id s2
  by_cases a1 : inN p1 4
  case neg => simp [rb4_0 a1, i4_0 a1]; exact hK.fail S 1 (by decide) (by exact ag.rfl.sI)
  by_cases a2 : inN p2 4
  case neg => simp [rb4_1 a1, i4_1 a1, rb4_0 a2, i4_0 a2]; exact hK.fail S 1 (by decide) (by exact ag.rfl.sI)
  have hB : ∀ m, m < nm → BF h m nm nt := fun m hm => Sim.bf hi hd s1 s2 s3 s4 s5 s6 hm
  rw [rb4_1 a1, rb4_1 a2]
  refine difC hB e1 n40 a1 a2 ag.rfl (fun o k _ => ⟨rfl, rfl⟩) (fun G1 G2 h1 A1 O1 => ?_)
  refine ⟨z_in ▸ trivial, ?_⟩
  rintro y rfl y rfl
  rw [z_cl, i4_1 a1]
  dsimp only
  rw [if_neg (by decide), i4_1 a2, if_neg (by decide)]
  have A0 : ag (wS [0, 5, 25, 26, 27, 75] [(11, 0)]) h (sI (sJ h1 75 0 0 (nI (ct (dF h nm p1 p2 G1 G2) nm)).toInt64) 11 0 0 0) := ((A1.mono (wS_mono (by decide) (by decide))).sJ rfl).sI rfl
  refine difM (G1 := G1) (G2 := G2) hB e2 n40 a1 a2 (A0.mono (wS_mono (by decide) (by decide))) (fun h2 A2 => ?_)
  have AA : ag (wS [0, 5, 25, 26, 27, 52, 58, 59, 60, 61, 62, 75] [(11, 0), (11, 29), (11, 33), (11, 34), (11, 35), (11, 36), (11, 37), (11, 38), (11, 40), (11, 41), (11, 42), (11, 43), (11, 44), (11, 45)]) h h2 := (A0.mono (wS_mono (by decide) (by decide))).trans (A2.mono (wS_mono (by decide) (by decide)))
  refine hK.go _ AA (fun A => ⟨d, nm, nt, by omega, s1.ag A (wS_dis (by decide)), s2.ag A (wS_dis (by decide)), s3.ag A (wS_dis (by decide)), (s4.mono (by omega) (by omega)).ag A (wS_dis (by decide)), s5.ag A (wS_dis (by decide)), s6.ag A (wS_dis (by decide)), ?_⟩) ?_ (fun _ => ?_)
  · refine s7.eq (fun k => ?_) (fun k => ?_) (fun k => A.I 63 0 k) (fun k k1 k2 => ?_)
    · rw [A2.I 5 1 k]
      exact (O1 1 k (by omega)).1
    · rw [A2.I 26 1 k]
      exact (O1 1 k (by omega)).2
    · rcases (show k = 47 ∨ k = 48 ∨ k = 49 ∨ k = 50 ∨ k = 51 ∨ k = 52 by omega) with rfl | rfl | rfl | rfl | rfl | rfl
      · exact A.I 11 0 47
      · exact A.I 11 0 48
      · exact A.I 11 0 49
      · exact A.I 11 0 50
      · exact A.I 11 0 51
      · exact A.I 11 0 52
  · rw [A2.I 11 0 0]; simp [gI_sI, gI_sJ, gI_sR, gI_sD, gJ_sI, gJ_sJ, gJ_sR, gJ_sD, gR_sI, gR_sJ, gR_sR, gR_sD, gD_sI, gD_sJ, gD_sR, gD_sD]
  · rw [A2.J 75 0 0]; simp [gI_sI, gI_sJ, gI_sR, gI_sD, gJ_sI, gJ_sJ, gJ_sR, gJ_sD, gR_sI, gR_sJ, gR_sR, gR_sD, gD_sI, gD_sJ, gD_sR, gD_sD]
