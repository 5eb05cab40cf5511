/-! deliver -/
def bz (b : Bool) (v : Int32) : Int32 := if b = true then v else 0
theorem cu_w {m rep o : Nat} {h : Hp} {Q : Hp → Prop} (hm : m < 40) (ho : o < 10) (eo : gI h 5 rep 2 = nI o) (hs : inN (gI h 2 m 0) 10)
    (f : ∀ h', ag (wS [2, 17, 18, 19, 20] []) h h' → (∀ o' k, o' ≠ m → gI h' 2 o' k = gI h 2 o' k) → (∀ k, k < 6 → gI h' 2 m k = gI h 2 m k) → gI h' 2 m 8 = 1 → gI h' 2 m 10 = 0 → gI h' 2 m 9 = (if o < 8 then 0 else 1) → gI h' 2 m 6 = (if o < 8 then nI o else 0) → gI h' 2 m 7 = gI h 5 rep 3
      → (∀ b, b < 8 → gI h' 17 0 b = gI h 17 0 b + gI h 27 rep b) → (∀ p, p < 10 → gI h' 19 0 p = gI h 19 0 p + (if bI (gI h 5 rep 9) p = true then 1 else 0))
      → (∀ p, p < 10 → gI h' 18 0 p = if gI h 5 rep 11 ≠ 0 ∧ nI p = gI h 2 m 0 then gI h 18 0 p + 1 else gI h 18 0 p) → (∀ p, p < 10 → gI h' 20 0 p = if gI h 5 rep 11 ≠ 0 ∧ nI p = gI h 2 m 0 then gI h 3 0 7 else gI h 20 0 p) → Q h') : wp_X3_carryOut (nI m) rep h Q := by
  have cm : (nI m).toNatClampNeg = m := nI_clamp (by omega)
  have main : ∀ h2, ag (wS [2] []) h h2 → (∀ o' k, o' ≠ m → gI h2 2 o' k = gI h 2 o' k) → (∀ k, k < 6 → gI h2 2 m k = gI h 2 m k) → gI h2 2 m 8 = 1 → gI h2 2 m 10 = 0 → gI h2 2 m 9 = (if o < 8 then 0 else 1) → gI h2 2 m 6 = (if o < 8 then nI o else 0) → gI h2 2 m 7 = gI h 5 rep 3 → wp_X3_carryOut_b65 rep m 0 h2 Q := by
    intro h2 A2 q1 q2 q3 q4 q5 q6 q7
    unfold wp_X3_carryOut_b65
    refine LFP2.by (I := fun y h' => ∃ k, k ≤ 8 ∧ y = nI k ∧ ag (wS [17] []) h2 h' ∧ ∀ b, b < 8 → gI h' 17 0 b = if b < k then gI h 17 0 b + gI h 27 rep b else gI h 17 0 b) (μ := fun y _ => 8 - y.toNatClampNeg) ⟨0, by omega, rfl, ag.rfl, fun b hb => by rw [if_neg (by omega), A2.I 17 0 b]⟩ ?_
    rintro y h' ⟨k, hk, rfl, A3, C3⟩ P hP
    unfold wp_X3_carryOut_b65F LET
    by_cases ck : k = 8
    · subst ck
      rw [if_pos (by decide)]
      unfold wp_X3_carryOut_b98
      refine LFP2.by (I := fun y h'' => ∃ k, k ≤ 10 ∧ y = nI k ∧ ag (wS [19] []) h' h'' ∧ ∀ p, p < 10 → gI h'' 19 0 p = if p < k then gI h 19 0 p + (if bI (gI h 5 rep 9) p = true then 1 else 0) else gI h 19 0 p) (μ := fun y _ => 10 - y.toNatClampNeg) ⟨0, by omega, rfl, ag.rfl, fun p hp => by rw [if_neg (by omega), A3.I 19 0 p, A2.I 19 0 p]⟩ ?_
      rintro y h'' ⟨k, hk, rfl, A4, C4⟩ P hP
      have A24 : ag (wS [2, 17, 19] []) h h'' := (A2.mono (wS_mono (by decide) (by decide))).trans ((A3.mono (wS_mono (by decide) (by decide))).trans (A4.mono (wS_mono (by decide) (by decide))))
      have l2 : ∀ o' k, gI h'' 2 o' k = gI h2 2 o' k := fun o' k => by rw [A4.I 2 o' k, A3.I 2 o' k]
      unfold wp_X3_carryOut_b98F wp_X3_carryOut_b128 LET
      by_cases ck : k = 10
      · subst ck
        have C17 : ∀ b, b < 8 → gI h'' 17 0 b = gI h 17 0 b + gI h 27 rep b := fun b hb => by rw [A4.I 17 0 b, C3 b hb, if_pos hb]
        have C19 : ∀ p, p < 10 → gI h'' 19 0 p = gI h 19 0 p + (if bI (gI h 5 rep 9) p = true then 1 else 0) := fun p hp => by rw [C4 p hp, if_pos hp]
        rw [if_pos (by decide), A24.I 5 rep 11]
        have i5 : ∀ j' v v' a b, j' ≠ 18 → j' ≠ 20 → ∀ o k, gI (sI (sI h'' 18 0 a v) 20 0 b v') j' o k = gI h'' j' o k := fun j' v v' a b h1 h2 o k => by rw [gI_o (Or.inl h2), gI_o (Or.inl h1)]
        by_cases r : gI h 5 rep 11 = 0
        · rw [if_pos r]
          refine f h'' (A24.mono (wS_mono (by decide) (by decide))) (fun o' k ho => by rw [l2, q1 o' k ho]) (fun k hk => by rw [l2, q2 k hk]) (by rw [l2, q3]) (by rw [l2, q4]) (by rw [l2, q5]) (by rw [l2, q6]) (by rw [l2, q7]) C17 C19 (fun p hp => ?_) (fun p hp => ?_)
          · rw [if_neg (fun q => q.1 r), A24.I 18 0 p]
          · rw [if_neg (fun q => q.1 r), A24.I 20 0 p]
        · obtain ⟨hx, ex⟩ := cl_n hs (by decide)
          have e0 : gI h'' 2 m 0 = gI h 2 m 0 := by rw [l2, q2 0 (by omega)]
          rw [if_neg r, e0]
          simp only [forall_eq]
          rw [gI_o (show (2 : Nat) ≠ 18 ∨ _ from Or.inl (by decide)), gI_o (show (3 : Nat) ≠ 18 ∨ _ from Or.inl (by decide)), e0, show (gI h 2 m 0).toNatClampNeg = cl (gI h 2 m 0) from rfl]
          refine ⟨inN_vp hs (by decide), inN_vp hs (by decide), ?_⟩
          have np : ∀ p, p < 10 → (nI p = gI h 2 m 0 ↔ p = cl (gI h 2 m 0)) := fun p hp => by
            constructor
            · intro q; exact (nI_eq (by omega) (by omega)).mp (q.trans ex)
            · intro q; rw [q]; exact ex.symm
          refine f _ (((A24.mono (wS_mono (by decide) (by decide))).sI rfl).sI rfl) (fun o' k ho => by rw [i5 2 _ _ _ _ (by decide) (by decide), l2, q1 o' k ho]) (fun k hk => by rw [i5 2 _ _ _ _ (by decide) (by decide), l2, q2 k hk]) (by rw [i5 2 _ _ _ _ (by decide) (by decide), l2, q3]) (by rw [i5 2 _ _ _ _ (by decide) (by decide), l2, q4]) (by rw [i5 2 _ _ _ _ (by decide) (by decide), l2, q5]) (by rw [i5 2 _ _ _ _ (by decide) (by decide), l2, q6]) (by rw [i5 2 _ _ _ _ (by decide) (by decide), l2, q7])
            (fun b hb => by rw [i5 17 _ _ _ _ (by decide) (by decide), C17 b hb]) (fun p hp => by rw [i5 19 _ _ _ _ (by decide) (by decide), C19 p hp]) (fun p hp => ?_) (fun p hp => ?_)
          · rw [gI_o (Or.inl (by decide))]
            by_cases e : p = cl (gI h 2 m 0)
            · rw [if_pos ⟨r, (np p hp).mpr e⟩, e, gI_e, A24.I 18 0 _]
            · rw [if_neg (fun q => e ((np p hp).mp q.2)), gI_o (Or.inr (Or.inr e)), A24.I 18 0 p]
          · by_cases e : p = cl (gI h 2 m 0)
            · rw [if_pos ⟨r, (np p hp).mpr e⟩, e, gI_e, A24.I 3 0 7]
            · rw [if_neg (fun q => e ((np p hp).mp q.2)), gI_o (Or.inr (Or.inr e)), gI_o (Or.inl (by decide)), A24.I 20 0 p]
      · rw [if_neg (show ¬ (10 : Int32) ≤ nI k from nI_ge (b := 10) (show k < 10 by omega) (by omega)), A24.I 5 rep 9, hb_w (n := 10) ⟨k, by omega, rfl⟩ (by decide), show cl (nI k) = k from nI_clamp (by omega)]
        have go : ∀ h3, ag (wS [19] []) h' h3 → (∀ p, p < 10 → gI h3 19 0 p = if p < k + 1 then gI h 19 0 p + (if bI (gI h 5 rep 9) p = true then 1 else 0) else gI h 19 0 p) → P (nI k + 1) h3 := fun h3 A3 C3 => hP _ _ ⟨k + 1, by omega, nI_1 k, A3, C3⟩ (by rw [nI_1, nI_clamp (by omega), nI_clamp (by omega)]; omega)
        simp only [forall_eq]
        cases b : bI (gI h 5 rep 9) k
        · rw [if_pos (show bit01 false = 0 from rfl)]
          refine go h'' A4 (fun p hp => ?_)
          rw [C4 p hp]
          by_cases e : p = k
          · subst e
            rw [if_neg (by omega), if_pos (by omega), b]
            simp
          · by_cases l : p < k
            · rw [if_pos l, if_pos (show p < k + 1 by omega)]
            · rw [if_neg l, if_neg (show ¬ p < k + 1 by omega)]
        · rw [if_neg (show ¬ bit01 true = 0 by decide)]
          refine ⟨vp_in_nI (by omega) (by decide), ?_⟩
          rw [nI_clamp (by omega)]
          refine go _ (A4.sI rfl) (fun p hp => ?_)
          by_cases e : p = k
          · subst e
            rw [gI_e, C4 p hp, if_neg (by omega), if_pos (by omega), b]
            simp
          · rw [gI_o (by omega), C4 p hp]
            by_cases l : p < k
            · rw [if_pos l, if_pos (show p < k + 1 by omega)]
            · rw [if_neg l, if_neg (show ¬ p < k + 1 by omega)]
    · rw [if_neg (show ¬ (8 : Int32) ≤ nI k from nI_ge (b := 8) (show k < 8 by omega) (by omega))]
      refine ⟨vp_in_nI (by omega) (by decide), ?_⟩
      rw [nI_clamp (by omega)]
      simp only [forall_eq]
      refine hP _ _ ⟨k + 1, by omega, nI_1 k, A3.sI rfl, fun b hb => ?_⟩ (by rw [nI_1, nI_clamp (by omega), nI_clamp (by omega)]; omega)
      by_cases e : b = k
      · subst e
        rw [gI_e, C3 b hb, if_neg (by omega), if_pos (by omega), A3.I 27 rep b, A2.I 27 rep b]
      · rw [gI_o (by omega), C3 b hb]
        by_cases l : b < k
        · rw [if_pos l, if_pos (by omega)]
        · rw [if_neg l, if_neg (by omega)]
  unfold wp_X3_carryOut wp_X3_carryOut_b32 wp_X3_carryOut_b51 LET
  refine ⟨vp_in_nI hm (by decide), ?_⟩
  rw [cm]
  simp only [forall_eq]
  rw [gI_o (show (5 : Nat) ≠ 2 ∨ _ from Or.inl (by decide)), gI_o (show (5 : Nat) ≠ 2 ∨ _ from Or.inl (by decide)), eo]
  by_cases l : o < 8
  · rw [if_pos (show nI o < 8 from nI_lt (b := 8) l (by decide))]
    refine ⟨Or.inl rfl, ?_⟩
    rw [if_pos gI_e]
    simp only [gI_o (show (5 : Nat) ≠ 2 ∨ _ from Or.inl (by decide)), eo]
    refine main _ (by repeat first | exact ag.rfl | refine ag.sI ?_ rfl | refine ag.sJ ?_ rfl | refine ag.sR ?_ rfl | refine ag.sD ?_ rfl) (fun o' k ho => ?_) (fun k hk => ?_) ?_ ?_ ?_ ?_ ?_
    · simp only [gI_sI, ho, false_and, and_false, if_false]
    · simp only [gI_sI, true_and, show ¬ k = 8 by omega, show ¬ k = 10 by omega, show ¬ k = 9 by omega, show ¬ k = 6 by omega, show ¬ k = 7 by omega, and_false, if_false]
    · simp [gI_sI, gI_sJ, gI_sR, gI_sD, gJ_sI, gJ_sJ, gJ_sR, gJ_sD, gR_sI, gR_sJ, gR_sR, gR_sD, gD_sI, gD_sJ, gD_sR, gD_sD]
    · simp [gI_sI, gI_sJ, gI_sR, gI_sD, gJ_sI, gJ_sJ, gJ_sR, gJ_sD, gR_sI, gR_sJ, gR_sR, gR_sD, gD_sI, gD_sJ, gD_sR, gD_sD]
    · rw [if_pos l]; simp [gI_sI, gI_sJ, gI_sR, gI_sD, gJ_sI, gJ_sJ, gJ_sR, gJ_sD, gR_sI, gR_sJ, gR_sR, gR_sD, gD_sI, gD_sJ, gD_sR, gD_sD]
    · rw [if_pos l]; simp [gI_sI, gI_sJ, gI_sR, gI_sD, gJ_sI, gJ_sJ, gJ_sR, gJ_sD, gR_sI, gR_sJ, gR_sR, gR_sD, gD_sI, gD_sJ, gD_sR, gD_sD]
    · simp [gI_sI, gI_sJ, gI_sR, gI_sD, gJ_sI, gJ_sJ, gJ_sR, gJ_sD, gR_sI, gR_sJ, gR_sR, gR_sD, gD_sI, gD_sJ, gD_sR, gD_sD]
  · rw [if_neg (show ¬ nI o < 8 from nI_nlt (b := 8) (show 8 ≤ o by omega) (by omega))]
    refine ⟨Or.inr rfl, ?_⟩
    rw [if_neg (by rw [gI_e]; decide)]
    simp only [gI_o (show (5 : Nat) ≠ 2 ∨ _ from Or.inl (by decide))]
    refine main _ (by repeat first | exact ag.rfl | refine ag.sI ?_ rfl | refine ag.sJ ?_ rfl | refine ag.sR ?_ rfl | refine ag.sD ?_ rfl) (fun o' k ho => ?_) (fun k hk => ?_) ?_ ?_ ?_ ?_ ?_
    · simp only [gI_sI, ho, false_and, and_false, if_false]
    · simp only [gI_sI, true_and, show ¬ k = 8 by omega, show ¬ k = 10 by omega, show ¬ k = 9 by omega, show ¬ k = 6 by omega, show ¬ k = 7 by omega, and_false, if_false]
    · simp [gI_sI, gI_sJ, gI_sR, gI_sD, gJ_sI, gJ_sJ, gJ_sR, gJ_sD, gR_sI, gR_sJ, gR_sR, gR_sD, gD_sI, gD_sJ, gD_sR, gD_sD]
    · simp [gI_sI, gI_sJ, gI_sR, gI_sD, gJ_sI, gJ_sJ, gJ_sR, gJ_sD, gR_sI, gR_sJ, gR_sR, gR_sD, gD_sI, gD_sJ, gD_sR, gD_sD]
    · rw [if_neg l]; simp [gI_sI, gI_sJ, gI_sR, gI_sD, gJ_sI, gJ_sJ, gJ_sR, gJ_sD, gR_sI, gR_sJ, gR_sR, gR_sD, gD_sI, gD_sJ, gD_sR, gD_sD]
    · rw [if_neg l]; simp [gI_sI, gI_sJ, gI_sR, gI_sD, gJ_sI, gJ_sJ, gJ_sR, gJ_sD, gR_sI, gR_sJ, gR_sR, gR_sD, gD_sI, gD_sJ, gD_sR, gD_sD]
    · simp [gI_sI, gI_sJ, gI_sR, gI_sD, gJ_sI, gJ_sJ, gJ_sR, gJ_sD, gR_sI, gR_sJ, gR_sR, gR_sD, gD_sI, gD_sJ, gD_sR, gD_sD]
