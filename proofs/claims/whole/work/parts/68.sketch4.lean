/-! the sketch: the class's calls -/
theorem up_eq8 {h : Hp} {j : Nat} {v : Int32} {P : Hp → Prop} : LET (sI h 8 0 j v) P = P (sI h 8 0 j v) := propext ⟨fun q => q _ rfl, fun q y e => by rw [e]; exact q⟩
theorem nz_bit {x : Int32} {n : Nat} (h : bb x n) (e : x ≠ 0) : ∃ i, i < n ∧ bI x i = true := by
  refine Classical.byContradiction (fun q => e ?_)
  refine bI_ext (fun i hi => ?_)
  rw [bI_0]
  rcases Nat.lt_or_ge i n with l | l
  · cases b : bI x i
    · rfl
    · exact absurd ⟨i, l, b⟩ q
  · exact h i l hi
theorem dis_bit {x y : Int32} (e : x &&& y = 0) (i : Nat) : bI x i = true → bI y i = false := fun q => by
  have : bI (x &&& y) i = false := by rw [e, bI_0]
  rw [bI_and, q, Bool.true_and] at this
  exact this
theorem and_bb {x y : Int32} {n : Nat} (h : bb x n) : bb (x &&& y) n := bb_and h
/-- the class adds a test that must hold or fail -/
theorem addH_w {k a : Int32} {h : Hp} {Q : Hp → Prop} (s : SSh (gI h 8 0)) (o : leafOK k a) (hk : skK k) (f : ∀ h', ag (wS [8] []) h h' → ADD (gI h 8 0) (gI h' 8 0) k a true → Q h') : wp_X8_addHolding k a h Q := by
  have fin : ∀ j v, ADD (gI h 8 0) (up (gI h 8 0) j v) k a true → Q (sI h 8 0 j v) := fun j v q => f _ (ag.rfl.sI rfl) (by rw [gI_up]; exact q)
  unfold wp_X8_addHolding
  simp only [up_eq8]
  rcases o with rfl | ⟨rfl | rfl, o⟩ | ⟨rfl | rfl, o⟩ | ⟨rfl, o⟩ | ⟨rfl, o⟩ | ⟨rfl, o⟩ | ⟨rfl, o⟩
  · exact absurd hk (by unfold skK; decide)
  · exact fin _ _ (add_102_true s o)
  · exact fin _ _ (add_116_true s o)
  · exact fin _ _ (add_115_true s o)
  · exact fin _ _ (add_98_true s o)
  · exact fin _ _ (add_122_true s o)
  · exact fin _ _ (add_100_true s o)
  · exact fin _ _ (add_110_true s o)
  · exact absurd hk (by unfold skK; decide)
theorem addF_w {k a : Int32} {h : Hp} {Q : Hp → Prop} (s : SSh (gI h 8 0)) (o : leafOK k a) (hk : skK k) (f : ∀ h', ag (wS [8] []) h h' → ADD (gI h 8 0) (gI h' 8 0) k a false → Q h') : wp_X8_addFailing k a h Q := by
  have fin : ∀ j v, ADD (gI h 8 0) (up (gI h 8 0) j v) k a false → Q (sI h 8 0 j v) := fun j v q => f _ (ag.rfl.sI rfl) (by rw [gI_up]; exact q)
  unfold wp_X8_addFailing
  simp only [up_eq8]
  rcases o with rfl | ⟨rfl | rfl, o⟩ | ⟨rfl | rfl, o⟩ | ⟨rfl, o⟩ | ⟨rfl, o⟩ | ⟨rfl, o⟩ | ⟨rfl, o⟩
  · exact absurd hk (by unfold skK; decide)
  · exact fin _ _ (add_102_false s o)
  · exact fin _ _ (add_116_false s o)
  · exact fin _ _ (add_115_false s o)
  · exact fin _ _ (add_98_false s o)
  · exact fin _ _ (add_122_false s o)
  · exact fin _ _ (add_100_false s o)
  · exact fin _ _ (add_110_false s o)
  · exact absurd hk (by unfold skK; decide)
theorem addH_n {k a : Int32} {h : Hp} {Q : Hp → Prop} (hk : ¬ skK k) (f : Q h) : wp_X8_addHolding k a h Q := by
  unfold skK at hk
  simp only [not_or] at hk
  obtain ⟨k1, k2, k3, k4, k5, k6, k7⟩ := hk
  unfold wp_X8_addHolding
  rw [if_neg k1, if_neg k2, if_neg k3, if_neg k4, if_neg k5, if_neg k6, if_neg k7]
  exact f
theorem addF_n {k a : Int32} {h : Hp} {Q : Hp → Prop} (hk : ¬ skK k) (f : Q h) : wp_X8_addFailing k a h Q := by
  unfold skK at hk
  simp only [not_or] at hk
  obtain ⟨k1, k2, k3, k4, k5, k6, k7⟩ := hk
  unfold wp_X8_addFailing
  rw [if_neg k1, if_neg k2, if_neg k3, if_neg k4, if_neg k5, if_neg k6, if_neg k7]
  exact f
/-- all mails -/
theorem bl_w {h : Hp} {Q : Hp → Prop} (f : ∀ h', ag (wS [8] []) h h' → SSh (gI h' 8 0) → (∀ M, VM M → InSk (gI h' 8 0) M) → Q h') : wp_X8_blank h Q := by
  unfold wp_X8_blank
  simp only [up_eq8]
  have a1023 : ∀ i, i < 10 → bI 1023 i = true := by decide +kernel
  have a127 : ∀ i, i < 7 → bI 127 i = true := by decide +kernel
  refine f _ (by repeat first | exact ag.rfl | refine ag.sI ?_ rfl | refine ag.sJ ?_ rfl | refine ag.sR ?_ rfl | refine ag.sD ?_ rfl) ?_ ?_
  · simp only [gI_up]
    refine ⟨?_, ?_, ⟨1, by omega, by omega, rfl⟩, ⟨999, by omega, rfl⟩, ?_, ?_, ⟨1, by omega, by omega, rfl⟩, ⟨10, by omega, rfl⟩, ?_, ?_, ?_, ?_⟩
    · exact inN_bb (n := 10) (by decide) ⟨1023, by decide, rfl⟩
    · exact inN_bb (n := 7) (by decide) ⟨127, by decide, rfl⟩
    · exact bb0 _
    · exact bb0 _
    · exact bb0 _
    · exact bb0 _
    · exact bb0 _
    · exact bb0 _
  · intro M v
    simp only [gI_up]
    obtain ⟨R, hR, r1, r2, r3⟩ := recv_n v
    have z0 : ∀ i, ¬ bI 0 i = true := fun i => by rw [bI_0]; decide
    have hl := pcn_le hR
    have h1 : 1 ≤ pcn R := by
      have : R ≠ 0 := fun q => by
        have := v.2.1.1
        rw [r1, q] at this
        exact absurd this (by decide)
      have : ∀ n, n < 1024 → n ≠ 0 → 1 ≤ pcn n := by decide +kernel
      exact this R hR (by assumption)
    have t := nI_toInt (n := pcn R) (by omega)
    refine ⟨?_, ?_, ?_, ?_, fun i _ q => absurd q (z0 i), fun i _ q => absurd q (z0 i), ?_, ?_, fun i _ q => absurd q (z0 i), fun i _ q => absurd q (z0 i), fun i _ q => absurd q (z0 i), fun i _ q => absurd q (z0 i)⟩
    · exact a1023 _ (cl_lt v.1 (by decide))
    · exact a127 _ (cl_lt v.2.2.2.2.2 (by decide))
    · show ¬ M 4 < 1
      have := v.2.2.2.2.1.1
      rw [Int32.lt_iff_toInt_lt]
      omega
    · show ¬ (999 : Int32) < M 4
      have := v.2.2.2.2.1.2
      rw [Int32.lt_iff_toInt_lt]
      omega
    · show ¬ cnt M < 1
      rw [r3, Int32.lt_iff_toInt_lt, t, show (1 : Int32).toInt = 1 from rfl]
      omega
    · show ¬ (10 : Int32) < cnt M
      rw [r3, Int32.lt_iff_toInt_lt, t, show (10 : Int32).toInt = 10 from rfl]
      omega
theorem bb16 {x : Int32} (h : bb x 16) : inN x 65536 := by
  have q := bb_inN (n := 16) (by decide) h
  rw [show (2 : Nat) ^ 16 = 65536 by decide] at q
  exact q
/-- is there such a mail? -/
theorem hm_w {h : Hp} {Q : Int32 → Hp → Prop} (s : SSh (gI h 8 0)) (f1 : ∀ h', ag (wS [8] []) h h' → SSh (gI h' 8 0) → SEn (gI h' 8 0) → (∀ k, k ≠ 8 → k ≠ 9 → gI h' 8 0 k = gI h 8 0 k) → (∃ M, VM M ∧ InSk (gI h' 8 0) M) → Q 1 h') (f0 : ∀ h', ag (wS [8] []) h h' → (∀ M, VM M → ¬ InSk (gI h 8 0) M) → Q 0 h') : wp_X8_hasMail h Q := by
  obtain ⟨b0, b1, ⟨ls, ls1, ls2, e2⟩, ⟨ms, ms2, e3⟩, b4, b5, ⟨l, l1, l2, e6⟩, ⟨u, u2, e7⟩, b10, b11, b12, b13⟩ := id s
  obtain ⟨r, hr, er⟩ : inN (gI h 8 0 4) 1024 := bb_inN (n := 10) (by decide) b4
  obtain ⟨n, hn, en⟩ : inN (gI h 8 0 5) 1024 := bb_inN (n := 10) (by decide) b5
  have cr : cl (gI h 8 0 4) = r := by rw [er]; exact nI_clamp (by omega)
  have cn : cl (gI h 8 0 5) = n := by rw [en]; exact nI_clamp (by omega)
  have lr := pcn_le hr
  have ln := pcn_le hn
  unfold wp_X8_hasMail
  rw [er, bc_w hr]
  simp only [up_eq8]
  rw [gI_o (show (8 : Nat) ≠ 8 ∨ 0 ≠ 0 ∨ 5 ≠ 8 from Or.inr (Or.inr (by decide))), en, bc_w hn]
  have hmax : (if nI l < nI (pcn r) then nI (pcn r) else nI l) = nI (max l (pcn r)) := by
    by_cases q : l < pcn r
    · rw [if_pos (nI_lt q (by omega)), Nat.max_eq_right (by omega)]
    · rw [if_neg (nI_nlt (by omega) (by omega)), Nat.max_eq_left (by omega)]
  have hmin : (if 10 - nI (pcn n) < nI u then 10 - nI (pcn n) else nI u) = nI (min (10 - pcn n) u) := by
    have : (10 : Int32) - nI (pcn n) = nI (10 - pcn n) := by
      rw [show (10 : Int32) = nI (10 - pcn n + pcn n) by rw [Nat.sub_add_cancel ln]; rfl, ← nI_add]
      simp
    rw [this]
    by_cases q : 10 - pcn n < u
    · rw [if_pos (nI_lt q (by omega)), Nat.min_eq_left (by omega)]
    · rw [if_neg (nI_nlt (by omega) (by omega)), Nat.min_eq_right (by omega)]
  have sm : ∀ v v' k, k ≠ 8 → k ≠ 9 → gI (sI (sI h 8 0 8 v) 8 0 9 v') 8 0 k = gI h 8 0 k := fun v v' k k1 k2 => by rw [gI_o (by omega), gI_o (by omega)]
  have s8 : ∀ v v', gI (sI (sI h 8 0 8 v) 8 0 9 v') 8 0 8 = v := fun v v' => by rw [gI_o (by omega), gI_e]
  have s9 : ∀ v v', gI (sI (sI h 8 0 8 v) 8 0 9 v') 8 0 9 = v' := fun v v' => gI_e
  have s7 : ∀ v, gI (sI h 8 0 8 v) 8 0 7 = gI h 8 0 7 := fun v => gI_o (by omega)
  rw [s7, e6, e7, hmax, hmin, s8, s9, sm _ _ 0 (by decide) (by decide), sm _ _ 1 (by decide) (by decide), sm _ _ 2 (by decide) (by decide), sm _ _ 3 (by decide) (by decide), sm _ _ 4 (by decide) (by decide), sm _ _ 5 (by decide) (by decide), sm _ _ 10 (by decide) (by decide), sm _ _ 11 (by decide) (by decide), sm _ _ 12 (by decide) (by decide), sm _ _ 13 (by decide) (by decide)]
  have A : ag (wS [8] []) h (sI (sI h 8 0 8 (nI (max l (pcn r)))) 8 0 9 (nI (min (10 - pcn n) u))) := (by repeat first | exact ag.rfl | refine ag.sI ?_ rfl | refine ag.sJ ?_ rfl | refine ag.sR ?_ rfl | refine ag.sD ?_ rfl)
  have same : ∀ k, k ≠ 8 → k ≠ 9 → gI (sI (sI h 8 0 8 (nI (max l (pcn r)))) 8 0 9 (nI (min (10 - pcn n) u))) 8 0 k = gI h 8 0 k := fun k k1 k2 => by rw [gI_o (by omega), gI_o (by omega)]
  have ene : SEn (gI (sI (sI h 8 0 8 (nI (max l (pcn r)))) 8 0 9 (nI (min (10 - pcn n) u))) 8 0) := by
    unfold SEn
    rw [same 4 (by decide) (by decide), same 5 (by decide) (by decide), same 6 (by decide) (by decide), same 7 (by decide) (by decide), cr, cn, e6, e7, hmax, hmin]
    exact ⟨by rw [gI_o (by omega), gI_e], gI_e⟩
  have no : (∀ M, VM M → ¬ InSk (gI h 8 0) M) → Q 0 (sI (sI h 8 0 8 (nI (max l (pcn r)))) 8 0 9 (nI (min (10 - pcn n) u))) := f0 _ A
  generalize hh : sI (sI h 8 0 8 (nI (max l (pcn r)))) 8 0 9 (nI (min (10 - pcn n) u)) = h2 at *
  by_cases c0 : gI h 8 0 0 = 0
  · rw [if_pos c0]
    exact no (fun M v q => by have := q.1; rw [c0, bI_0] at this; cases this)
  rw [if_neg c0]
  by_cases c1 : gI h 8 0 1 = 0
  · rw [if_pos c1]
    exact no (fun M v q => by have := q.2.1; rw [c1, bI_0] at this; cases this)
  rw [if_neg c1]
  by_cases c2 : gI h 8 0 3 < gI h 8 0 2
  · rw [if_pos c2]
    refine no (fun M v q => ?_)
    have q1 := i32_ne q.2.2.1
    have q2 := i32_ne q.2.2.2.1
    rw [Int32.lt_iff_toInt_lt] at c2
    omega
  rw [if_neg c2]
  by_cases c4 : gI h 8 0 4 &&& gI h 8 0 5 = 0
  case neg =>
    rw [if_neg c4]
    obtain ⟨i, hi, hb⟩ := nz_bit (and_bb b4) c4
    rw [bI_and] at hb
    simp at hb
    refine no (fun M v q => ?_)
    have q1 := q.2.2.2.2.1 i hi hb.1
    have q2 := q.2.2.2.2.2.1 i hi hb.2
    rw [q1] at q2; cases q2
  rw [if_pos c4]
  by_cases c9 : nI (min (10 - pcn n) u) < nI (max l (pcn r))
  · rw [if_pos c9]
    refine no (fun M v q => ?_)
    have s2 : InSk (gI h2 8 0) M := by
      unfold InSk
      rw [same 0 (by decide) (by decide), same 1 (by decide) (by decide), same 2 (by decide) (by decide), same 3 (by decide) (by decide), same 4 (by decide) (by decide), same 5 (by decide) (by decide), same 6 (by decide) (by decide), same 7 (by decide) (by decide), same 10 (by decide) (by decide), same 11 (by decide) (by decide), same 12 (by decide) (by decide), same 13 (by decide) (by decide)]
      exact q
    have sh2 : SSh (gI h2 8 0) := by
      unfold SSh
      rw [same 0 (by decide) (by decide), same 1 (by decide) (by decide), same 2 (by decide) (by decide), same 3 (by decide) (by decide), same 4 (by decide) (by decide), same 5 (by decide) (by decide), same 6 (by decide) (by decide), same 7 (by decide) (by decide), same 10 (by decide) (by decide), same 11 (by decide) (by decide), same 12 (by decide) (by decide), same 13 (by decide) (by decide)]
      exact s
    obtain ⟨z1, z2⟩ := cnt_ends v sh2 ene s2
    rw [← hh] at z1 z2
    rw [gI_o (by omega), gI_e] at z1
    rw [gI_e] at z2
    rw [Int32.lt_iff_toInt_lt] at c9
    omega
  rw [if_neg c9]
  by_cases c10 : gI h 8 0 10 &&& gI h 8 0 11 = 0
  case neg =>
    rw [if_neg c10]
    obtain ⟨i, hi, hb⟩ := nz_bit (and_bb b10) c10
    rw [bI_and] at hb
    simp at hb
    refine no (fun M v q => ?_)
    have q1 := q.2.2.2.2.2.2.2.2.1 i hi hb.1
    have q2 := q.2.2.2.2.2.2.2.2.2.1 i hi hb.2
    rw [q1] at q2; cases q2
  rw [if_pos c10]
  by_cases c12 : gI h 8 0 12 &&& gI h 8 0 13 = 0
  case neg =>
    rw [if_neg c12]
    obtain ⟨i, hi, hb⟩ := nz_bit (and_bb b12) c12
    rw [bI_and] at hb
    simp at hb
    refine no (fun M v q => ?_)
    have q1 := q.2.2.2.2.2.2.2.2.2.2.1 i hi hb.1
    have q2 := q.2.2.2.2.2.2.2.2.2.2.2 i hi hb.2
    rw [q1] at q2; cases q2
  rw [if_pos c12]
  have sh2 : SSh (gI h2 8 0) := by
    unfold SSh
    rw [same 0 (by decide) (by decide), same 1 (by decide) (by decide), same 2 (by decide) (by decide), same 3 (by decide) (by decide), same 4 (by decide) (by decide), same 5 (by decide) (by decide), same 6 (by decide) (by decide), same 7 (by decide) (by decide), same 10 (by decide) (by decide), same 11 (by decide) (by decide), same 12 (by decide) (by decide), same 13 (by decide) (by decide)]
    exact s
  refine f1 _ A sh2 ene same ?_
  -- a mail
  have k9 : max l (pcn r) ≤ min (10 - pcn n) u := by
    rcases Nat.lt_or_ge (min (10 - pcn n) u) (max l (pcn r)) with q | q
    · exact absurd (nI_lt q (by omega)) c9
    · exact q
  obtain ⟨s0, hs0, es0⟩ := nz_bit b0 c0
  obtain ⟨w0, hw0, ew0⟩ := nz_bit b1 c1
  obtain ⟨R, hR, R1, R2, R3⟩ := exR hn (max l (pcn r) - pcn r) r hr (fun i hi q => by
    have := dis_bit c4 i (by rw [er, bI_nI (by omega)]; exact q.1)
    rw [en, bI_nI (by omega)] at this
    rw [this] at q; exact absurd q.2 (by decide)) (show pcn r + _ = max l (pcn r) by omega) (by omega)
  have R0 : R ≠ 0 := fun q => by
    rw [q, show pcn 0 = 0 from rfl] at R3
    omega
  have tR := nI_toInt (n := R) (by omega)
  have cR : cl (nI R) = R := nI_clamp (by omega)
  have tl := nI_toInt (n := ls) (by omega)
  have tm := nI_toInt (n := ms) (by omega)
  have lm : ls ≤ ms := by
    rw [e2, e3, Int32.lt_iff_toInt_lt, tl, tm] at c2
    omega
  refine ⟨fun i => if i = 0 then nI s0 else if i = 1 then nI R else if i = 2 then gI h 8 0 10 else if i = 3 then gI h 8 0 12 else if i = 4 then gI h 8 0 2 else nI w0, ⟨⟨s0, hs0, rfl⟩, ⟨?_, ?_⟩, bb16 b10, bb16 b12, ⟨?_, ?_⟩, ⟨w0, hw0, rfl⟩⟩, ?_⟩
  · show (1 : Int32).toInt ≤ (nI R).toInt
    rw [tR, show (1 : Int32).toInt = 1 from rfl]; omega
  · show (nI R).toInt ≤ (1023 : Int32).toInt
    rw [tR, show (1023 : Int32).toInt = 1023 from rfl]; omega
  · show (1 : Int32).toInt ≤ (gI h 8 0 2).toInt
    rw [e2, tl, show (1 : Int32).toInt = 1 from rfl]; omega
  · show (gI h 8 0 2).toInt ≤ (999 : Int32).toInt
    rw [e2, tl, show (999 : Int32).toInt = 999 from rfl]; omega
  · unfold InSk cnt
    rw [same 0 (by decide) (by decide), same 1 (by decide) (by decide), same 2 (by decide) (by decide), same 3 (by decide) (by decide), same 4 (by decide) (by decide), same 5 (by decide) (by decide), same 6 (by decide) (by decide), same 7 (by decide) (by decide), same 10 (by decide) (by decide), same 11 (by decide) (by decide), same 12 (by decide) (by decide), same 13 (by decide) (by decide)]
    have tk := nI_toInt (n := pcn R) (by omega)
    have tl' := nI_toInt (n := l) (by omega)
    have tu := nI_toInt (n := u) (by omega)
    refine ⟨?_, ?_, ?_, ?_, fun i hi q => ?_, fun i hi q => ?_, ?_, ?_, fun i _ q => q, fun i _ q => ?_, fun i _ q => q, fun i _ q => ?_⟩
    · show bI (gI h 8 0 0) (cl (nI s0)) = true
      rw [show cl (nI s0) = s0 from nI_clamp (by omega)]; exact es0
    · show bI (gI h 8 0 1) (cl (nI w0)) = true
      rw [show cl (nI w0) = w0 from nI_clamp (by omega)]; exact ew0
    · show ¬ gI h 8 0 2 < gI h 8 0 2
      rw [Int32.lt_iff_toInt_lt]; omega
    · exact c2
    · show bI (nI R) i = true
      rw [bI_nI (by omega)]
      refine R1 i hi ?_
      rw [er, bI_nI (by omega)] at q
      exact q
    · show bI (nI R) i = false
      rw [bI_nI (by omega)]
      refine R2 i hi ?_
      rw [en, bI_nI (by omega)] at q
      exact q
    · show ¬ nI (pcn (cl (nI R))) < gI h 8 0 6
      rw [cR, e6, Int32.lt_iff_toInt_lt, tk, tl', R3]
      omega
    · show ¬ gI h 8 0 7 < nI (pcn (cl (nI R)))
      rw [cR, e7, Int32.lt_iff_toInt_lt, tk, tu, R3]
      omega
    · show bI (gI h 8 0 10) i = false
      cases b : bI (gI h 8 0 10) i
      · rfl
      · rw [dis_bit c10 i b] at q; cases q
    · show bI (gI h 8 0 12) i = false
      cases b : bI (gI h 8 0 12) i
      · rfl
      · rw [dis_bit c12 i b] at q; cases q
