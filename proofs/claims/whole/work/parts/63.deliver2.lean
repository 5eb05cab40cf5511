/-! deliver: the model, and the call -/
theorem dm_w {m o : Nat} {h : Hp} {Q : Int32 → Hp → Prop} (hm : m < 40) (ho : o < 10) (eo : gI h 11 0 40 = nI o) (hs : inN (gI h 33 0 m) 10)
    (f : ∀ h', ag (wS [39, 40, 41, 42, 43, 45, 46, 47, 48] []) h h' → (∀ k, k ≠ m → gI h' 39 0 k = gI h 39 0 k ∧ gI h' 40 0 k = gI h 40 0 k ∧ gI h' 41 0 k = gI h 41 0 k ∧ gI h' 42 0 k = gI h 42 0 k ∧ gI h' 43 0 k = gI h 43 0 k)
      → gI h' 39 0 m = 1 → gI h' 40 0 m = (if o < 8 then 0 else 1) → gI h' 41 0 m = (if o < 8 then nI o else gI h 41 0 m) → gI h' 42 0 m = gI h 11 0 35 → gI h' 43 0 m = -1
      → (∀ b, b < 8 → gI h' 45 0 b = gI h 45 0 b + gI h 61 0 b) → (∀ p, p < 10 → gI h' 48 0 p = gI h 48 0 p + (if bI (gI h 11 0 37) p = true then 1 else 0))
      → (∀ p, p < 10 → gI h' 47 0 p = if gI h 11 0 38 ≠ 0 ∧ nI p = gI h 33 0 m then gI h 47 0 p + 1 else gI h 47 0 p) → (∀ p, p < 10 → gI h' 46 0 p = if gI h 11 0 38 ≠ 0 ∧ nI p = gI h 33 0 m then gI h 11 0 1 else gI h 46 0 p) → wp_X11_keeps h' Q) :
    vp_in (nI m) 40 ∧ LET (sI h 39 0 (nI m).toNatClampNeg (vp_nar .boolean 1)) fun h8 => if (gI h8 11 0 40) ≤ 7 then (wp_X11_deliver_b51 (nI m) (nI m) 0 h8 Q) else (wp_X11_deliver_b51 (nI m) (nI m) 1 h8 Q) := by
  have cm : (nI m).toNatClampNeg = m := nI_clamp (by omega)
  have vm : vp_in (nI m) 40 := vp_in_nI hm (by decide)
  have main : ∀ h2, ag (wS [39, 40, 41, 42, 43] []) h h2 → (∀ k, k ≠ m → gI h2 39 0 k = gI h 39 0 k ∧ gI h2 40 0 k = gI h 40 0 k ∧ gI h2 41 0 k = gI h 41 0 k ∧ gI h2 42 0 k = gI h 42 0 k ∧ gI h2 43 0 k = gI h 43 0 k)
      → gI h2 39 0 m = 1 → gI h2 40 0 m = (if o < 8 then 0 else 1) → gI h2 41 0 m = (if o < 8 then nI o else gI h 41 0 m) → gI h2 42 0 m = gI h 11 0 35 → gI h2 43 0 m = -1 → wp_X11_deliver_b99 (nI m) 0 h2 Q := by
    intro h2 A2 q1 q2 q3 q4 q5 q6
    unfold wp_X11_deliver_b99
    refine LFP2.by (I := fun y h' => ∃ k, k ≤ 8 ∧ y = nI k ∧ ag (wS [45] []) h2 h' ∧ ∀ b, b < 8 → gI h' 45 0 b = if b < k then gI h 45 0 b + gI h 61 0 b else gI h 45 0 b) (μ := fun y _ => 8 - y.toNatClampNeg) ⟨0, by omega, rfl, ag.rfl, fun b hb => by rw [if_neg (by omega), A2.I 45 0 b]⟩ ?_
    rintro y h' ⟨k, hk, rfl, A3, C3⟩ P hP
    unfold wp_X11_deliver_b99F LET
    by_cases ck : k = 8
    · subst ck
      rw [if_pos (by decide)]
      unfold wp_X11_deliver_b128
      refine LFP2.by (I := fun y h'' => ∃ k, k ≤ 10 ∧ y = nI k ∧ ag (wS [48] []) h' h'' ∧ ∀ p, p < 10 → gI h'' 48 0 p = if p < k then gI h 48 0 p + (if bI (gI h 11 0 37) p = true then 1 else 0) else gI h 48 0 p) (μ := fun y _ => 10 - y.toNatClampNeg) ⟨0, by omega, rfl, ag.rfl, fun p hp => by rw [if_neg (by omega), A3.I 48 0 p, A2.I 48 0 p]⟩ ?_
      rintro y h'' ⟨k, hk, rfl, A4, C4⟩ P hP
      have A24 : ag (wS [39, 40, 41, 42, 43, 45, 48] []) h h'' := (A2.mono (wS_mono (by decide) (by decide))).trans ((A3.mono (wS_mono (by decide) (by decide))).trans (A4.mono (wS_mono (by decide) (by decide))))
      have A34 : ag (wS [45, 48] []) h2 h'' := (A3.mono (wS_mono (by decide) (by decide))).trans (A4.mono (wS_mono (by decide) (by decide)))
      unfold wp_X11_deliver_b128F LET
      by_cases ck : k = 10
      · subst ck
        have C45 : ∀ b, b < 8 → gI h'' 45 0 b = gI h 45 0 b + gI h 61 0 b := fun b hb => by rw [A4.I 45 0 b, C3 b hb, if_pos hb]
        have C48 : ∀ p, p < 10 → gI h'' 48 0 p = gI h 48 0 p + (if bI (gI h 11 0 37) p = true then 1 else 0) := fun p hp => by rw [C4 p hp, if_pos hp]
        have K : ∀ h3, (∀ j k, j = 39 ∨ j = 40 ∨ j = 41 ∨ j = 42 ∨ j = 43 → gI h3 j 0 k = gI h'' j 0 k) → (∀ k, k ≠ m → gI h3 39 0 k = gI h 39 0 k ∧ gI h3 40 0 k = gI h 40 0 k ∧ gI h3 41 0 k = gI h 41 0 k ∧ gI h3 42 0 k = gI h 42 0 k ∧ gI h3 43 0 k = gI h 43 0 k) ∧ gI h3 39 0 m = 1 ∧ gI h3 40 0 m = (if o < 8 then 0 else 1) ∧ gI h3 41 0 m = (if o < 8 then nI o else gI h 41 0 m) ∧ gI h3 42 0 m = gI h 11 0 35 ∧ gI h3 43 0 m = -1 := fun h3 e => by
          refine ⟨fun k hk => ?_, ?_, ?_, ?_, ?_, ?_⟩
          · rw [e 39 k (by omega), e 40 k (by omega), e 41 k (by omega), e 42 k (by omega), e 43 k (by omega), A34.I 39 0 k, A34.I 40 0 k, A34.I 41 0 k, A34.I 42 0 k, A34.I 43 0 k]
            exact q1 k hk
          · rw [e 39 m (by omega), A34.I 39 0 m]; exact q2
          · rw [e 40 m (by omega), A34.I 40 0 m]; exact q3
          · rw [e 41 m (by omega), A34.I 41 0 m]; exact q4
          · rw [e 42 m (by omega), A34.I 42 0 m]; exact q5
          · rw [e 43 m (by omega), A34.I 43 0 m]; exact q6
        rw [if_pos (by decide), A24.I 11 0 38]
        by_cases r : gI h 11 0 38 = 0
        · rw [if_pos r]
          obtain ⟨k1, k2, k3, k4, k5, k6⟩ := K h'' (fun _ _ _ => rfl)
          refine f h'' (A24.mono (wS_mono (by decide) (by decide))) k1 k2 k3 k4 k5 k6 C45 C48 (fun p hp => ?_) (fun p hp => ?_)
          · rw [if_neg (fun q => q.1 r), A24.I 47 0 p]
          · rw [if_neg (fun q => q.1 r), A24.I 46 0 p]
        · obtain ⟨hx, ex⟩ := cl_n hs (by decide)
          rw [if_neg r, cm, A24.I 33 0 m]
          simp only [forall_eq]
          rw [gI_o (show (33 : Nat) ≠ 46 ∨ _ from Or.inl (by decide)), gI_o (show (47 : Nat) ≠ 46 ∨ _ from Or.inl (by decide)), A24.I 33 0 m, A24.I 11 0 1, show (gI h 33 0 m).toNatClampNeg = cl (gI h 33 0 m) from rfl, A24.I 47 0 (cl (gI h 33 0 m))]
          refine ⟨vm, inN_vp hs (by decide), inN_vp hs (by decide), ?_⟩
          have np : ∀ p, p < 10 → (nI p = gI h 33 0 m ↔ p = cl (gI h 33 0 m)) := fun p hp => by
            constructor
            · intro q; exact (nI_eq (by omega) (by omega)).mp (q.trans ex)
            · intro q; rw [q]; exact ex.symm
          obtain ⟨k1, k2, k3, k4, k5, k6⟩ := K (sI (sI h'' 46 0 (cl (gI h 33 0 m)) (gI h 11 0 1)) 47 0 (cl (gI h 33 0 m)) (gI h 47 0 (cl (gI h 33 0 m)) + 1)) (fun j k hj => by rw [gI_o (by omega), gI_o (by omega)])
          refine f _ (((A24.mono (wS_mono (by decide) (by decide))).sI rfl).sI rfl) k1 k2 k3 k4 k5 k6 (fun b hb => by rw [gI_o (by omega), gI_o (by omega), C45 b hb]) (fun p hp => by rw [gI_o (by omega), gI_o (by omega), C48 p hp]) (fun p hp => ?_) (fun p hp => ?_)
          · by_cases e : p = cl (gI h 33 0 m)
            · rw [if_pos ⟨r, (np p hp).mpr e⟩, e, gI_e]
            · rw [if_neg (fun q => e ((np p hp).mp q.2)), gI_o (by omega), gI_o (by omega), A24.I 47 0 p]
          · rw [gI_o (Or.inl (by decide))]
            by_cases e : p = cl (gI h 33 0 m)
            · rw [if_pos ⟨r, (np p hp).mpr e⟩, e, gI_e]
            · rw [if_neg (fun q => e ((np p hp).mp q.2)), gI_o (by omega), A24.I 46 0 p]
      · rw [if_neg (show ¬ (10 : Int32) ≤ nI k from nI_ge (b := 10) (show k < 10 by omega) (by omega)), nI_clamp (show k < 2 ^ 31 by omega), A24.I 11 0 37, sr1 (by omega)]
        refine ⟨vp_in_nI (by omega) (by decide), ?_⟩
        simp only [forall_eq]
        refine hP _ _ ⟨k + 1, by omega, nI_1 k, A4.sI rfl, fun p hp => ?_⟩ (by rw [nI_1, nI_clamp (by omega), nI_clamp (by omega)]; omega)
        by_cases e : p = k
        · subst e
          rw [gI_e, C4 p hp, if_neg (show ¬ p < p by omega), if_pos (show p < p + 1 by omega)]
        · rw [gI_o (by omega), C4 p hp]
          by_cases l : p < k
          · rw [if_pos l, if_pos (show p < k + 1 by omega)]
          · rw [if_neg l, if_neg (show ¬ p < k + 1 by omega)]
    · rw [if_neg (show ¬ (8 : Int32) ≤ nI k from nI_ge (b := 8) (show k < 8 by omega) (by omega))]
      refine ⟨vp_in_nI (by omega) (by decide), ?_⟩
      rw [nI_clamp (by omega)]
      simp only [forall_eq]
      refine hP _ _ ⟨k + 1, by omega, nI_1 k, A3.sI rfl, fun b hb => ?_⟩ (by rw [nI_1, nI_clamp (by omega), nI_clamp (by omega)]; omega)
      by_cases e : b = k
      · subst e
        rw [gI_e, C3 b hb, if_neg (by omega), if_pos (by omega), A3.I 61 0 b, A2.I 61 0 b]
      · rw [gI_o (by omega), C3 b hb]
        by_cases l : b < k
        · rw [if_pos l, if_pos (by omega)]
        · rw [if_neg l, if_neg (by omega)]
  unfold wp_X11_deliver_b51 wp_X11_deliver_b79 LET
  refine ⟨vm, ?_⟩
  rw [cm]
  simp only [forall_eq, show vp_nar .boolean 1 = 1 from vnb true, show vp_nar .boolean 0 = 0 from vnb false, gI_sI, gI_sJ, gI_sR, gI_sD, gJ_sI, gJ_sJ, gJ_sR, gJ_sD, gR_sI, gR_sJ, gR_sR, gR_sD, gD_sI, gD_sJ, gD_sR, gD_sD, Nat.reduceEqDiff, false_and, and_false, true_and, and_true, and_self, reduceIte, if_true, if_false, ite_true, ite_false, eo, gI_o (show (11 : Nat) ≠ 39 ∨ _ from Or.inl (by decide)), vm]
  by_cases l : o < 8
  · rw [if_pos (show nI o ≤ 7 from nI_le (b := 7) (show o ≤ 7 by omega) (by decide)), if_pos (show nI o ≤ 7 from nI_le (b := 7) (show o ≤ 7 by omega) (by decide))]
    refine main _ (by repeat first | exact ag.rfl | refine ag.sI ?_ rfl | refine ag.sJ ?_ rfl | refine ag.sR ?_ rfl | refine ag.sD ?_ rfl) (fun k hk => ?_) ?_ ?_ ?_ ?_ ?_
    · simp [gI_sI, hk]
    · simp [gI_sI, gI_sJ, gI_sR, gI_sD, gJ_sI, gJ_sJ, gJ_sR, gJ_sD, gR_sI, gR_sJ, gR_sR, gR_sD, gD_sI, gD_sJ, gD_sR, gD_sD]
    · rw [if_pos l]; simp [gI_sI, gI_sJ, gI_sR, gI_sD, gJ_sI, gJ_sJ, gJ_sR, gJ_sD, gR_sI, gR_sJ, gR_sR, gR_sD, gD_sI, gD_sJ, gD_sR, gD_sD]
    · rw [if_pos l]; simp [gI_sI, gI_sJ, gI_sR, gI_sD, gJ_sI, gJ_sJ, gJ_sR, gJ_sD, gR_sI, gR_sJ, gR_sR, gR_sD, gD_sI, gD_sJ, gD_sR, gD_sD]
    · simp [gI_sI, gI_sJ, gI_sR, gI_sD, gJ_sI, gJ_sJ, gJ_sR, gJ_sD, gR_sI, gR_sJ, gR_sR, gR_sD, gD_sI, gD_sJ, gD_sR, gD_sD]
    · simp [gI_sI, gI_sJ, gI_sR, gI_sD, gJ_sI, gJ_sJ, gJ_sR, gJ_sD, gR_sI, gR_sJ, gR_sR, gR_sD, gD_sI, gD_sJ, gD_sR, gD_sD]
  · have n7 : ¬ nI o ≤ 7 := nI_ge (b := o) (a := 7) (show 7 < o by omega) (by omega)
    rw [if_neg n7, if_neg n7]
    refine main _ (by repeat first | exact ag.rfl | refine ag.sI ?_ rfl | refine ag.sJ ?_ rfl | refine ag.sR ?_ rfl | refine ag.sD ?_ rfl) (fun k hk => ?_) ?_ ?_ ?_ ?_ ?_
    · simp [gI_sI, hk]
    · simp [gI_sI, gI_sJ, gI_sR, gI_sD, gJ_sI, gJ_sJ, gJ_sR, gJ_sD, gR_sI, gR_sJ, gR_sR, gR_sD, gD_sI, gD_sJ, gD_sR, gD_sD]
    · rw [if_neg l]; simp [gI_sI, gI_sJ, gI_sR, gI_sD, gJ_sI, gJ_sJ, gJ_sR, gJ_sD, gR_sI, gR_sJ, gR_sR, gR_sD, gD_sI, gD_sJ, gD_sR, gD_sD]
    · rw [if_neg l]; simp [gI_sI, gI_sJ, gI_sR, gI_sD, gJ_sI, gJ_sJ, gJ_sR, gJ_sD, gR_sI, gR_sJ, gR_sR, gR_sD, gD_sI, gD_sJ, gD_sR, gD_sD]
    · simp [gI_sI, gI_sJ, gI_sR, gI_sD, gJ_sI, gJ_sJ, gJ_sR, gJ_sD, gR_sI, gR_sJ, gR_sR, gR_sD, gD_sI, gD_sJ, gD_sR, gD_sD]
    · simp [gI_sI, gI_sJ, gI_sR, gI_sD, gJ_sI, gJ_sJ, gJ_sR, gJ_sD, gR_sI, gR_sJ, gR_sR, gR_sD, gD_sI, gD_sJ, gD_sR, gD_sD]
