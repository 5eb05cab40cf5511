/-! learn: the model offers the tests -/
def oW : Nat → Nat → Bool := wS [73, 74] [(11, 67)]
def lX : Nat → Nat → Bool := wS [12, 13, 14, 29, 30, 31, 32, 73, 74, 75] [(1, 5), (1, 6), (1, 7), (1, 8), (1, 9), (9, 3), (9, 4), (11, 0), (11, 67)]
section
variable (h h1 : Hp) (nm : Nat)
def MLo (n : Nat) (h' : Hp) : Prop := ag oW h1 h' ∧ gI h' 11 0 67 = nI n ∧ ∀ j, j < n → gI h' 73 0 j = lK h nm j ∧ gI h' 74 0 j = lA h nm j
end
section
variable {h h1 : Hp} {d nm : Nat}
theorem MLo.ag {n : Nat} {h' : Hp} (M : MLo h h1 nm n h') (A1 : ag lX h h1) : ag lX h h' := A1.trans (M.1.mono (wS_mono (by decide) (by decide)))
theorem offer_w {n : Nat} {h' : Hp} {k a : Int32} {Q : Hp → Prop} (hn : n < 99) (hz : n < 59 + lZ h nm) (hk : k = lK h nm n) (ha : a = lA h nm n) (M : MLo h h1 nm n h') (f : ∀ h'', MLo h h1 nm (n + 1) h'' → Q h'') : wp_X11_offers k a h' Q := by
  subst hk ha
  obtain ⟨A, e, g⟩ := M
  obtain ⟨-, -, -, nar⟩ := cK_ok (lS h nm) hz
  have nar' : vp_nar .char (lK h nm n) = lK h nm n := nar
  have v : vp_in (nI n) 200 := vp_in_nI (by omega) (by decide)
  unfold wp_X11_offers LET
  simp only [forall_eq, gI_sI, gI_sJ, gI_sR, gI_sD, gJ_sI, gJ_sJ, gJ_sR, gJ_sD, gR_sI, gR_sJ, gR_sR, gR_sD, gD_sI, gD_sJ, gD_sR, gD_sD, Nat.reduceEqDiff, false_and, and_false, true_and, and_true, and_self, reduceIte, if_true, if_false, ite_true, ite_false, e, v, nI_clamp (show n < 2 ^ 31 by omega), nar']
  refine f _ ⟨((A.sI rfl).sI rfl).sI rfl, by simp only [gI_sI, gI_sJ, gI_sR, gI_sD, gJ_sI, gJ_sJ, gJ_sR, gJ_sD, gR_sI, gR_sJ, gR_sR, gR_sD, gD_sI, gD_sJ, gD_sR, gD_sD, Nat.reduceEqDiff, false_and, and_false, true_and, and_true, and_self, reduceIte, if_true, if_false, ite_true, ite_false, nI_1], fun j hj => ?_⟩
  by_cases q : j = n
  · subst q
    simp only [gI_sI, gI_sJ, gI_sR, gI_sD, gJ_sI, gJ_sJ, gJ_sR, gJ_sD, gR_sI, gR_sJ, gR_sR, gR_sD, gD_sI, gD_sJ, gD_sR, gD_sD, Nat.reduceEqDiff, false_and, and_false, true_and, and_true, and_self, reduceIte, if_true, if_false, ite_true, ite_false]
  · simp only [gI_sI, gI_sJ, gI_sR, gI_sD, gJ_sI, gJ_sJ, gJ_sR, gJ_sD, gR_sI, gR_sJ, gR_sR, gR_sD, gD_sI, gD_sJ, gD_sR, gD_sD, Nat.reduceEqDiff, false_and, and_false, true_and, and_true, and_self, reduceIte, if_true, if_false, ite_true, ite_false, q]
    exact g j (by omega)
theorem flag_w (s : SMail d nm h) (A1 : ag lX h h1) {n a : Nat} (ha : a < 999) {h' : Hp} {P91 : Int32 → Hp → Prop} {Q : Hp → Prop} (M : MLo h h1 nm n h')
    (f0 : lS h nm a = false → P91 (nI a + 1) h') (f1 : lS h nm a = true → wp_X11_offers 122 (nI a) h' (fun h3 => P91 (nI a + 1) h3)) : wp_X11_offersAll_b102 (nI a) 0 0 h' P91 Q := by
  have B := M.ag A1
  obtain ⟨n40, c1, c2, sv, sd, sx⟩ := id s
  unfold wp_X11_offersAll_b102
  refine LFP3.by (I := fun x y z => z = h' ∧ ∃ m, m ≤ nm ∧ y = nI m ∧ ((x = 0 ∧ ∀ i, i < m → ¬ (kM h i ∧ gI h 37 0 i = nI (a + 1))) ∨ (x = 1 ∧ ∃ i, i < m ∧ kM h i ∧ gI h 37 0 i = nI (a + 1)))) (μ := fun _ y _ => 40 - y.toNatClampNeg) ⟨rfl, 0, by omega, rfl, Or.inl ⟨rfl, fun i hi => by omega⟩⟩ ?_
  rintro x y z ⟨rfl, m, hm, rfl, w⟩ P hP
  unfold wp_X11_offersAll_b102F
  rw [show gI z 11 0 2 = nI nm from by rw [B.I 11 0 2, c2]]
  by_cases c : m = nm
  · subst c
    rw [if_pos (nI_le (Nat.le_refl _) (by omega))]
    unfold wp_X11_offersAll_b167 LET
    rcases w with ⟨rfl, w⟩ | ⟨rfl, w⟩
    · rw [if_pos rfl]
      rintro v rfl
      refine f0 ?_
      cases q : lS h m a
      · rfl
      · obtain ⟨i, hi, k⟩ := lS_iff.mp q
        exact absurd k (w i hi)
    · rw [if_neg z_10.mp]
      simp only [forall_eq]
      exact f1 (lS_iff.mpr w)
  · rw [if_neg (nI_ge (show m < nm by omega) (by omega))]
    have step : ∀ v, ((v = 0 ∧ ∀ i, i < m + 1 → ¬ (kM h i ∧ gI h 37 0 i = nI (a + 1))) ∨ (v = 1 ∧ ∃ i, i < m + 1 ∧ kM h i ∧ gI h 37 0 i = nI (a + 1))) → wp_X11_offersAll_b149 (nI a) (nI m) v z P91 P Q := by
      intro v hv
      unfold wp_X11_offersAll_b149 LET
      rintro y rfl
      exact hP _ _ _ ⟨rfl, m + 1, by omega, nI_1 m, hv⟩ (by rw [nI_1, nI_clamp (by omega), nI_clamp (by omega)]; omega)
    rcases w with ⟨rfl, w⟩ | ⟨rfl, i, hi, w⟩
    · rw [if_pos rfl]
      refine ⟨vp_in_nI (by omega) (by decide), ?_⟩
      rw [nI_clamp (by omega), B.I 39 0 m, B.I 40 0 m, B.I 37 0 m]
      unfold wp_X11_offersAll_b148 wp_X11_offersAll_b144
      have no : ¬ (kM h m ∧ gI h 37 0 m = nI (a + 1)) → wp_X11_offersAll_b149 (nI a) (nI m) 0 z P91 P Q := fun q => step 0 (Or.inl ⟨rfl, fun i hi => by
        by_cases e : i = m
        · subst e; exact q
        · exact w i (by omega)⟩)
      by_cases g1 : gI h 39 0 m = 0
      · rw [if_pos g1]
        exact no (fun q => q.1.1 g1)
      · rw [if_neg g1]
        by_cases g2 : gI h 40 0 m = 0
        · rw [if_pos g2]
          obtain ⟨a', ha', ea⟩ := s.zs (show m < nm by omega)
          rw [ea, ← nI_1, z_as]
          by_cases g3 : a' = a
          · subst g3
            rw [if_pos rfl]
            exact step 1 (Or.inr ⟨rfl, m, by omega, ⟨g1, g2⟩, ea⟩)
          · rw [if_neg (fun q => g3 ((nI_eq (by omega) (by omega)).mp q))]
            refine no (fun q => g3 ?_)
            have := (nI_eq (a := a' + 1) (b := a + 1) (by omega) (by omega)).mp (by rw [← ea, q.2])
            omega
        · rw [if_neg g2]
          exact no (fun q => g2 q.1.2)
    · rw [if_neg z_10.mp]
      unfold wp_X11_offersAll_b144
      exact step 1 (Or.inr ⟨rfl, i, by omega, w⟩)
theorem offers_w (s : SMail d nm h) (A1 : ag lX h h1) {Q : Hp → Prop} (f : ∀ h'', MLo h h1 nm (59 + lZ h nm) h'' → Q h'') : wp_X11_offersAll h1 Q := by
  have z40 : lZ h nm ≤ 40 := Nat.le_trans (lS_ct 999 (by decide)) s.1
  have end7 : ∀ z, MLo h h1 nm (52 + lZ h nm) z → wp_X11_offersAll_b175 0 z Q := by
    intro z M
    unfold wp_X11_offersAll_b175
    refine LFP2.by (I := fun x z => ∃ j, j ≤ 7 ∧ x = nI j ∧ MLo h h1 nm (52 + lZ h nm + j) z) (μ := fun x _ => 20 - x.toNatClampNeg) ⟨0, by omega, rfl, M⟩ ?_
    rintro x z ⟨j, hj, rfl, M⟩ P hP
    unfold wp_X11_offersAll_b175F LET
    by_cases c : j = 7
    · subst c
      rw [if_pos (by decide)]
      rw [show 52 + lZ h nm + 7 = 59 + lZ h nm by omega] at M
      exact f _ M
    · rw [if_neg (show ¬ (7 : Int32) ≤ nI j from nI_ge (b := 7) (show j < 7 by omega) (by omega))]
      refine offer_w (n := 52 + lZ h nm + j) (by omega) (by omega) lk_d.1.symm lk_d.2.symm M (fun h2 M2 => ?_)
      simp only [forall_eq]
      exact hP _ _ ⟨j + 1, by omega, nI_1 j, M2⟩ (by rw [nI_1, nI_clamp (by omega), nI_clamp (by omega)]; omega)
  have sizes : ∀ z, MLo h h1 nm 52 z → wp_X11_offersAll_b91 0 z Q := by
    intro z M
    unfold wp_X11_offersAll_b91
    refine LFP2.by (I := fun x z => ∃ a, a ≤ 999 ∧ x = nI a ∧ MLo h h1 nm (52 + ct (lS h nm) a) z) (μ := fun x _ => 1000 - x.toNatClampNeg) ⟨0, by omega, rfl, M⟩ ?_
    rintro x z ⟨a, ha, rfl, M⟩ P hP
    unfold wp_X11_offersAll_b91F
    by_cases c : a = 999
    · subst c
      rw [if_pos (by decide)]
      exact end7 z M
    · rw [if_neg (show ¬ (999 : Int32) ≤ nI a from nI_ge (b := 999) (show a < 999 by omega) (by omega))]
      refine flag_w s A1 (show a < 999 by omega) M (fun q => ?_) (fun q => ?_)
      · exact hP _ _ ⟨a + 1, by omega, nI_1 a, by rw [ct_miss q]; exact M⟩ (by rw [nI_1, nI_clamp (by omega), nI_clamp (by omega)]; omega)
      · obtain ⟨k1, k2, k3⟩ := lk_z (show a < 999 by omega) q
        refine offer_w (n := 52 + ct (lS h nm) a) (by omega) (by omega) k1.symm k2.symm M (fun h2 M2 => ?_)
        exact hP _ _ ⟨a + 1, by omega, nI_1 a, by rw [ct_hit q]; exact M2⟩ (by rw [nI_1, nI_clamp (by omega), nI_clamp (by omega)]; omega)
  have l4 : ∀ z, MLo h h1 nm 36 z → wp_X11_offersAll_b70 0 z Q := by
    intro z M
    unfold wp_X11_offersAll_b70
    refine LFP2.by (I := fun x z => ∃ j, j ≤ 16 ∧ x = nI j ∧ MLo h h1 nm (36 + j) z) (μ := fun x _ => 20 - x.toNatClampNeg) ⟨0, by omega, rfl, M⟩ ?_
    rintro x z ⟨j, hj, rfl, M⟩ P hP
    unfold wp_X11_offersAll_b70F LET
    by_cases c : j = 16
    · subst c
      rw [if_pos (by decide)]
      exact sizes z M
    · rw [if_neg (show ¬ (16 : Int32) ≤ nI j from nI_ge (b := 16) (show j < 16 by omega) (by omega))]
      refine offer_w (n := 36 + j) (by omega) (by omega) (lk_b (by omega)).1.symm (lk_b (by omega)).2.symm M (fun h2 M2 => ?_)
      simp only [forall_eq]
      exact hP _ _ ⟨j + 1, by omega, nI_1 j, M2⟩ (by rw [nI_1, nI_clamp (by omega), nI_clamp (by omega)]; omega)
  have l3 : ∀ z, MLo h h1 nm 20 z → wp_X11_offersAll_b49 0 z Q := by
    intro z M
    unfold wp_X11_offersAll_b49
    refine LFP2.by (I := fun x z => ∃ j, j ≤ 16 ∧ x = nI j ∧ MLo h h1 nm (20 + j) z) (μ := fun x _ => 20 - x.toNatClampNeg) ⟨0, by omega, rfl, M⟩ ?_
    rintro x z ⟨j, hj, rfl, M⟩ P hP
    unfold wp_X11_offersAll_b49F LET
    by_cases c : j = 16
    · subst c
      rw [if_pos (by decide)]
      exact l4 z M
    · rw [if_neg (show ¬ (16 : Int32) ≤ nI j from nI_ge (b := 16) (show j < 16 by omega) (by omega))]
      refine offer_w (n := 20 + j) (by omega) (by omega) (lk_s (by omega)).1.symm (lk_s (by omega)).2.symm M (fun h2 M2 => ?_)
      simp only [forall_eq]
      exact hP _ _ ⟨j + 1, by omega, nI_1 j, M2⟩ (by rw [nI_1, nI_clamp (by omega), nI_clamp (by omega)]; omega)
  have l2 : ∀ z, MLo h h1 nm 10 z → wp_X11_offersAll_b28 0 z Q := by
    intro z M
    unfold wp_X11_offersAll_b28
    refine LFP2.by (I := fun x z => ∃ j, j ≤ 10 ∧ x = nI j ∧ MLo h h1 nm (10 + j) z) (μ := fun x _ => 20 - x.toNatClampNeg) ⟨0, by omega, rfl, M⟩ ?_
    rintro x z ⟨j, hj, rfl, M⟩ P hP
    unfold wp_X11_offersAll_b28F LET
    by_cases c : j = 10
    · subst c
      rw [if_pos (by decide)]
      exact l3 z M
    · rw [if_neg (show ¬ (10 : Int32) ≤ nI j from nI_ge (b := 10) (show j < 10 by omega) (by omega))]
      refine offer_w (n := 10 + j) (by omega) (by omega) (lk_t (by omega)).1.symm (lk_t (by omega)).2.symm M (fun h2 M2 => ?_)
      simp only [forall_eq]
      exact hP _ _ ⟨j + 1, by omega, nI_1 j, M2⟩ (by rw [nI_1, nI_clamp (by omega), nI_clamp (by omega)]; omega)
  unfold wp_X11_offersAll LET
  rintro y rfl
  have M0 : MLo h h1 nm 0 (sI h1 11 0 67 0) := ⟨ag.rfl.sI rfl, by simp only [gI_sI, gI_sJ, gI_sR, gI_sD, gJ_sI, gJ_sJ, gJ_sR, gJ_sD, gR_sI, gR_sJ, gR_sR, gR_sD, gD_sI, gD_sJ, gD_sR, gD_sD, Nat.reduceEqDiff, false_and, and_false, true_and, and_true, and_self, reduceIte, if_true, if_false, ite_true, ite_false]; rfl, fun j hj => by omega⟩
  unfold wp_X11_offersAll_b7
  refine LFP2.by (I := fun x z => ∃ j, j ≤ 10 ∧ x = nI j ∧ MLo h h1 nm (0 + j) z) (μ := fun x _ => 20 - x.toNatClampNeg) ⟨0, by omega, rfl, M0⟩ ?_
  rintro x z ⟨j, hj, rfl, M⟩ P hP
  unfold wp_X11_offersAll_b7F LET
  by_cases c : j = 10
  · subst c
    rw [if_pos (by decide)]
    exact l2 z M
  · rw [if_neg (show ¬ (10 : Int32) ≤ nI j from nI_ge (b := 10) (show j < 10 by omega) (by omega))]
    refine offer_w (n := 0 + j) (by omega) (by omega) (lk_f (by omega)).1.symm (lk_f (by omega)).2.symm M (fun h2 M2 => ?_)
    simp only [forall_eq]
    exact hP _ _ ⟨j + 1, by omega, nI_1 j, M2⟩ (by rw [nI_1, nI_clamp (by omega), nI_clamp (by omega)]; omega)
end
