/-! the class: a script for a mail from the start -/
def xInit (h : Hp) (m nm : Nat) (g : Nat → Int32) (i : Nat) : Int32 := if i = 0 then -1 else if 30 ≤ i ∧ i < 38 then xLo h m nm (i - 30) else if 100 ≤ i then g i else 0
def xFin (σ : Nat → Int32) : Nat → Int32 := if σ 0 = -1 then up σ 0 0 else σ
section
variable {h : Hp} {m nm nt rep : Nat}
theorem XW.init (g : Nat → Int32) : XW h m nm (xInit h m nm g) := by
  refine ⟨⟨0, by omega, rfl⟩, Or.inl rfl, fun i _ _ => by rw [show xInit h m nm g 1 = 0 from rfl, bI_0], Or.inl rfl, fun b h1 h2 => ?_⟩
  have m1 : ∀ b, b < 8 → ¬ (-1 : Int32) = nI b := by decide +kernel
  rw [show xInit h m nm g 0 = -1 from rfl, if_neg (m1 b h2)]
  unfold xInit
  rw [if_neg (by omega), if_pos (by omega), if_neg (by omega), if_neg (by omega), if_neg (by omega), show 30 + b - 30 = b by omega]
  simp
theorem lw_w {h1 : Hp} {Q : Hp → Prop} (B : BF h m nm nt) (A : ag (wS [0, 5, 25, 26, 27] []) h h1) (f : ∀ h2, ag (wS [25] []) h1 h2 → (∀ b, b < 8 → gI h2 25 0 b = xLo h m nm b) → Q h2) : wp_X3_loadWithout (nI m) h1 Q := by
  obtain ⟨d, i, hi, hd, s1, ⟨n40, e1, e2, s2, s2', s2''⟩, s3, s4, s5, s6, hm⟩ := id B
  unfold wp_X3_loadWithout wp_X3_loadWithout_b2
  refine LFP2.by (I := fun y h2 => ∃ k, k ≤ 8 ∧ y = nI k ∧ ag (wS [25] []) h1 h2 ∧ ∀ b, b < k → gI h2 25 0 b = gI h 45 0 b) (μ := fun y _ => 8 - y.toNatClampNeg) ⟨0, by omega, rfl, ag.rfl, fun b hb => by omega⟩ ?_
  rintro y h2 ⟨k, hk, rfl, A2, C⟩ P hP
  unfold wp_X3_loadWithout_b2F LET
  by_cases ck : k = 8
  · subst ck
    rw [if_pos (by decide)]
    unfold wp_X3_loadWithout_b25
    refine LFP2.by (I := fun y h2 => ∃ n, n ≤ nm ∧ y = nI n ∧ ag (wS [25] []) h1 h2 ∧ ∀ b, b < 8 → gI h2 25 0 b = gI h 45 0 b + sz (gM h (nI b) (nI m)) n) (μ := fun y _ => 40 - y.toNatClampNeg) ⟨0, by omega, rfl, A2, fun b hb => by rw [C b hb]; simp [sz]⟩ ?_
    rintro y h2 ⟨n, hn, rfl, A2, C⟩ P hP
    unfold wp_X3_loadWithout_b25F wp_X3_loadWithout_b73 LET
    have AA : ag (wS [0, 5, 25, 26, 27] []) h h2 := A.trans (A2.mono (wS_mono (by decide) (by decide)))
    rw [AA.I 3 0 6, e1]
    by_cases c : n = nm
    · subst c
      rw [if_pos (nI_le (Nat.le_refl _) (by omega))]
      exact f h2 A2 C
    rw [if_neg (nI_ge (show n < nm by omega) (by omega))]
    have go : ∀ h3, ag (wS [25] []) h1 h3 → (∀ b, b < 8 → gI h3 25 0 b = gI h 45 0 b + sz (gM h (nI b) (nI m)) (n + 1)) → P (nI n + 1) h3 := fun h3 A3 C3 =>
      hP _ _ ⟨n + 1, by omega, nI_1 n, A3, C3⟩ (by rw [nI_1, nI_clamp (by omega), nI_clamp (by omega)]; omega)
    simp only [forall_eq]
    by_cases cm : nI n = nI m
    · rw [if_pos cm]
      refine go h2 A2 (fun b hb => ?_)
      rw [C b hb]
      simp [sz, gM, cm]
    rw [if_neg cm]
    refine ⟨vp_in_nI (by omega) (by decide), ?_⟩
    rw [nI_clamp (by omega)]
    obtain ⟨x1, x2, x3, x4, x5, x6, x7⟩ := s2' n (by omega)
    have hk : kB h2 n ↔ kM h n := by
      unfold kB kM
      rw [AA.I 2 n 8, AA.I 2 n 9, x1, x2]
    by_cases ck : kM h n
    · rw [kept_1 (hk.mpr ck), if_neg (by decide)]
      have k1 : gI h 39 0 n = 1 := by rcases x3 with q | q; exact absurd q ck.1; exact q
      obtain ⟨y1, y2, -⟩ := x7 k1 ck.2
      obtain ⟨hb0, eb0⟩ := cl_n y2 (by decide)
      rw [AA.I 2 n 6, y1, show (gI h 41 0 n).toNatClampNeg = cl (gI h 41 0 n) from rfl]
      refine ⟨inN_vp y2 (by decide), ?_⟩
      refine go _ (A2.sI rfl) (fun b hb => ?_)
      have zz : sz (gM h (nI b) (nI m)) (n + 1) = sz (gM h (nI b) (nI m)) n + (if gI h 41 0 n = nI b then gI h 37 0 n else 0) := by
        show sz _ n + gM h (nI b) (nI m) n = _
        rw [show gM h (nI b) (nI m) n = if gI h 41 0 n = nI b then gI h 37 0 n else 0 from by
          unfold gM
          by_cases q : gI h 41 0 n = nI b
          · rw [if_pos ⟨cm, ck, q⟩, if_pos q]
          · rw [if_neg (fun x => q x.2.2), if_neg q]]
      rw [zz]
      by_cases e : b = cl (gI h 41 0 n)
      · rw [e, gI_e, C _ hb0, if_pos eb0, AA.I 2 n 4, (s2 n (by omega)).2.2.2.2.2.1]
        ac_rfl
      · rw [gI_o (by omega), C b hb, if_neg (fun q => e ((nI_eq (by omega) (by omega)).mp (by rw [← eb0, q])).symm), Int32.add_zero]
    · rw [kept_0 (fun q => ck (hk.mp q)), if_pos rfl]
      refine go h2 A2 (fun b hb => ?_)
      rw [C b hb]
      show _ = _ + (sz _ n + gM h (nI b) (nI m) n)
      unfold gM
      rw [if_neg (show ¬ (¬ nI n = nI m ∧ kM h n ∧ gI h 41 0 n = nI b) from fun q => ck q.2.1), Int32.add_zero]
  · rw [if_neg (show ¬ (8 : Int32) ≤ nI k from nI_ge (b := 8) (show k < 8 by omega) (by omega))]
    refine ⟨vp_in_nI (by omega) (by decide), ?_⟩
    rw [nI_clamp (by omega)]
    simp only [forall_eq]
    refine hP _ _ ⟨k + 1, by omega, nI_1 k, A2.sI rfl, fun b hb => ?_⟩ (by rw [nI_1, nI_clamp (by omega), nI_clamp (by omega)]; omega)
    by_cases e : b = k
    · subst e
      rw [gI_e, A2.I 17 0 b, A.I 17 0 b]
      exact (s3 b (by omega)).2
    · rw [gI_o (by omega)]
      exact C b (by omega)
theorem perf_w {p0 : Int32} {h' : Hp} {Q : Hp → Prop} (B : BF h m nm nt) (hr : rep < 3) (hs : inN p0 4) (A : ag (wS [0, 5, 25, 26, 27] []) h h') (O : ∀ o k, o ≠ rep → gI h' 5 o k = gI h 5 o k ∧ gI h' 26 o k = gI h 26 o k)
    (f : ∀ g h'', RC h m nt rep (xFin (xRun h m 4 p0 (xInit h m nm g))) h'' → Q h'') : wp_X0_perform p0 (nI m) rep h' Q := by
  obtain ⟨d, i, hi, hd, s1, ⟨n40, e1, e2, s2, s2', s2''⟩, s3, s4, s5, s6, hm⟩ := id B
  unfold wp_X0_perform wp_X5_reset wp_X5_reset_b52 LET
  simp only [forall_eq]
  refine LFP2.by (I := fun y h1 => ∃ k, k ≤ 8 ∧ y = nI k ∧ ag (wS [0, 5, 25, 26, 27] []) h h1 ∧ (∀ o k, o ≠ rep → gI h1 5 o k = gI h 5 o k ∧ gI h1 26 o k = gI h 26 o k) ∧ (∀ i, i < 10 → gI h1 5 rep (i + 2) = if i = 0 then -1 else 0) ∧ ∀ b, b < k → gI h1 27 rep b = 0) (μ := fun y _ => 8 - y.toNatClampNeg)
    ⟨0, by omega, rfl, A.trans (by repeat first | exact ag.rfl | refine ag.sI ?_ rfl | refine ag.sJ ?_ rfl | refine ag.sR ?_ rfl | refine ag.sD ?_ rfl), fun o k ho => ?_, fun i hi => ?_, fun b hb => by omega⟩ ?_
  · simp only [gI_sI, ho, false_and, and_false, if_false, show (26 : Nat) = 5 ↔ False by decide]
    exact O o k ho
  · simp only [gI_sI, true_and]
    rcases (show i = 0 ∨ i = 1 ∨ i = 2 ∨ i = 3 ∨ i = 4 ∨ i = 5 ∨ i = 6 ∨ i = 7 ∨ i = 8 ∨ i = 9 by omega) with rfl | rfl | rfl | rfl | rfl | rfl | rfl | rfl | rfl | rfl <;> simp
  rintro y h1 ⟨k, hk, rfl, A1, O1, C1, D1⟩ P hP
  unfold wp_X5_reset_b52F LET
  by_cases ck : k = 8
  · subst ck
    rw [if_pos (by decide)]
    refine ⟨vp_in_nI (by omega) (by decide), ?_⟩
    rw [nI_clamp (by omega)]
    refine lw_w B (by repeat first | exact A1 | refine ag.sI ?_ rfl | refine ag.sR ?_ rfl) (fun h2 A2 L => ?_)
    have rc : RC h m nt rep (xInit h m nm (fun i => gI h1 26 rep (i - 100))) h2 := by
      refine ⟨?_, fun o k ho => ?_, ?_, ?_, fun i hi => ?_, ?_, ?_, fun b hb => ?_, fun b hb => ?_, fun k hk => ?_, fun q => ?_⟩
      · refine ag.trans ?_ (A2.mono (wS_mono (by decide) (by decide)))
        repeat first | exact A1 | refine ag.sI ?_ rfl | refine ag.sR ?_ rfl
      · rw [A2.I 5 o k, A2.I 26 o k]
        simp only [gI_sI, gI_sJ, gI_sR, gI_sD, gJ_sI, gJ_sJ, gJ_sR, gJ_sD, gR_sI, gR_sJ, gR_sR, gR_sD, gD_sI, gD_sJ, gD_sR, gD_sD, Nat.reduceEqDiff, false_and, and_false, true_and, and_true, and_self, reduceIte, if_true, if_false, ite_true, ite_false]
        exact O1 o k ho
      · rw [A2.R 0 0 4]; simp [gI_sI, gI_sJ, gI_sR, gI_sD, gJ_sI, gJ_sJ, gJ_sR, gJ_sD, gR_sI, gR_sJ, gR_sR, gR_sD, gD_sI, gD_sJ, gD_sR, gD_sD]
      · rw [A2.R 0 0 5]; simp [gI_sI, gI_sJ, gI_sR, gI_sD, gJ_sI, gJ_sJ, gJ_sR, gJ_sD, gR_sI, gR_sJ, gR_sR, gR_sD, gD_sI, gD_sJ, gD_sR, gD_sD]
      · rw [A2.I 5 rep (i + 2)]
        simp only [gI_sI, gI_sJ, gI_sR, gI_sD, gJ_sI, gJ_sJ, gJ_sR, gJ_sD, gR_sI, gR_sJ, gR_sR, gR_sD, gD_sI, gD_sJ, gD_sR, gD_sD, Nat.reduceEqDiff, false_and, and_false, true_and, and_true, and_self, reduceIte, if_true, if_false, ite_true, ite_false]
        rw [C1 i hi]
        unfold xInit
        by_cases e : i = 0
        · rw [if_pos e, if_pos e]
        · rw [if_neg e, if_neg e, if_neg (by omega), if_neg (by omega)]
      · rw [A2.I 0 0 8]; simp [gI_sI, gI_sJ, gI_sR, gI_sD, gJ_sI, gJ_sJ, gJ_sR, gJ_sD, gR_sI, gR_sJ, gR_sR, gR_sD, gD_sI, gD_sJ, gD_sR, gD_sD]; rfl
      · rw [A2.I 0 0 9]; simp [gI_sI, gI_sJ, gI_sR, gI_sD, gJ_sI, gJ_sJ, gJ_sR, gJ_sD, gR_sI, gR_sJ, gR_sR, gR_sD, gD_sI, gD_sJ, gD_sR, gD_sD]; rfl
      · rw [A2.I 27 rep b]
        simp only [gI_sI, gI_sJ, gI_sR, gI_sD, gJ_sI, gJ_sJ, gJ_sR, gJ_sD, gR_sI, gR_sJ, gR_sR, gR_sD, gD_sI, gD_sJ, gD_sR, gD_sD, Nat.reduceEqDiff, false_and, and_false, true_and, and_true, and_self, reduceIte, if_true, if_false, ite_true, ite_false]
        rw [D1 b hb]
        unfold xInit
        rw [if_neg (by omega), if_neg (by omega), if_neg (by omega)]
      · rw [L b hb]
        unfold xInit
        rw [if_neg (by omega), if_pos (by omega), show 30 + b - 30 = b by omega]
      · rw [A2.I 26 rep k]
        simp only [gI_sI, gI_sJ, gI_sR, gI_sD, gJ_sI, gJ_sJ, gJ_sR, gJ_sD, gR_sI, gR_sJ, gR_sR, gR_sD, gD_sI, gD_sJ, gD_sR, gD_sD, Nat.reduceEqDiff, false_and, and_false, true_and, and_true, and_self, reduceIte, if_true, if_false, ite_true, ite_false]
        unfold xInit
        rw [if_neg (by omega), if_neg (by omega), if_pos (by omega)]
        show _ = gI h1 26 rep (100 + k - 100)
        rw [show 100 + k - 100 = k by omega]
      · rw [A2.I 0 0 7] at q
        simp [gI_sI, gI_sJ, gI_sR, gI_sD, gJ_sI, gJ_sJ, gJ_sR, gJ_sD, gR_sI, gR_sJ, gR_sR, gR_sD, gD_sI, gD_sJ, gD_sR, gD_sD] at q
    refine run_w B hr 4 (Nat.le_refl _) 1 p0 _ h2 _ hs rc (XW.init _) (fun h3 r3 => ?_)
    rw [r3.2.2.1, dref hr]
    unfold wp_X5_isPlaced
    have g0 : gI h3 5 rep 2 = _ := r3.2.2.2.2.1 0 (by omega)
    rw [g0]
    have f := f (fun i => gI h1 26 rep (i - 100))
    unfold xFin at f
    by_cases z : xRun h m 4 p0 (xInit h m nm (fun i => gI h1 26 rep (i - 100))) 0 = -1
    · rw [if_pos z] at f
      rw [if_pos z]
      dsimp only
      rw [if_pos rfl, dref hr]
      exact f _ (r3.s5 (i := 0) (by omega) (by omega))
    · rw [if_neg z] at f
      rw [if_neg z]
      dsimp only
      rw [if_neg (by decide)]
      exact f h3 r3
  · rw [if_neg (show ¬ (8 : Int32) ≤ nI k from nI_ge (b := 8) (show k < 8 by omega) (by omega))]
    refine ⟨vp_in_nI (by omega) (by decide), ?_⟩
    rw [nI_clamp (by omega)]
    simp only [forall_eq]
    refine hP _ _ ⟨k + 1, by omega, nI_1 k, A1.sI rfl, fun o k ho => ?_, fun i hi => ?_, fun b hb => ?_⟩ (by rw [nI_1, nI_clamp (by omega), nI_clamp (by omega)]; omega)
    · rw [gI_o (by omega), gI_o (by omega)]
      exact O1 o k ho
    · rw [gI_o (by omega)]
      exact C1 i hi
    · by_cases e : b = k
      · subst e; rw [gI_e]
      · rw [gI_o (by omega)]
        exact D1 b (by omega)
end
