/-! learn: the class goes through the sizes -/
section
variable {h : Hp} {d nm : Nat} {b : Int32}
theorem SMail.zs (s : SMail d nm h) {m : Nat} (hm : m < nm) : ∃ a, a < 999 ∧ gI h 37 0 m = nI (a + 1) := by
  obtain ⟨q1, q2⟩ := (s.2.2.2.1 m hm).1.2.2.2.2.1
  rw [show (1 : Int32).toInt = 1 from rfl] at q1
  rw [show (999 : Int32).toInt = 999 from rfl] at q2
  obtain ⟨j, hj, e⟩ := (inN_iff (x := gI h 37 0 m) (n := 1000) (by decide)).mpr ⟨by omega, by omega⟩
  rw [e, nI_toInt (by omega)] at q1
  exact ⟨j - 1, by omega, by rw [e, show j - 1 + 1 = j by omega]⟩
theorem ct_flat {f : Nat → Bool} {p : Nat} : ∀ a, p ≤ a → (∀ x, p ≤ x → x < a → f x = false) → ct f a = ct f p := by
  intro a
  induction a with
  | zero => intro q _; rw [show p = 0 by omega]
  | succ a ih =>
    intro q w
    by_cases e : p = a + 1
    · rw [e]
    · rw [ct_miss (w a (by omega) (by omega)), ih (by omega) (fun x h1 h2 => w x h1 (by omega))]
/-- the smallest size after p of the mails before n -/
def lNx (h : Hp) (n p : Nat) (r : Int32) : Prop := (r = 0 ∧ ∀ m, m < n → kM h m → ∀ a, gI h 37 0 m = nI (a + 1) → a < 999 → a < p) ∨ (∃ a, r = nI (a + 1) ∧ p ≤ a ∧ a < 999 ∧ (∃ m, m < n ∧ kM h m ∧ gI h 37 0 m = nI (a + 1)) ∧ ∀ m, m < n → kM h m → ∀ a', gI h 37 0 m = nI (a' + 1) → a' < 999 → a' < p ∨ a ≤ a')
theorem next_w (s : SMail d nm h) {p : Nat} {h' : Hp} {Q : Int32 → Prop} (hp : p ≤ 999) (A : ag lW h h') (f : ∀ r, lNx h nm p r → Q r) : wp_X1_nextSize (nI p) h' Q := by
  obtain ⟨n40, c1, c2, sv, sd, sx⟩ := id s
  unfold wp_X1_nextSize wp_X1_nextSize_b4
  refine LFP2.by (I := fun x y => ∃ m, m ≤ nm ∧ y = nI m ∧ lNx h m p x) (μ := fun _ y => 40 - y.toNatClampNeg) ⟨0, by omega, rfl, Or.inl ⟨rfl, fun m hm => by omega⟩⟩ ?_
  rintro x y ⟨m, hm, rfl, N⟩ P hP
  unfold wp_X1_nextSize_b4F wp_X1_nextSize_b56 wp_X1_nextSize_b62 LET
  rw [show gI h' 3 0 6 = nI nm from by rw [A.I 3 0 6, c1]]
  by_cases c : m = nm
  · subst c
    rw [if_pos (nI_le (Nat.le_refl _) (by omega))]
    exact f _ N
  · rw [if_neg (nI_ge (show m < nm by omega) (by omega))]
    refine ⟨vp_in_nI (by omega) (by decide), ?_⟩
    rw [nI_clamp (by omega)]
    simp only [forall_eq]
    obtain ⟨V, E⟩ := sv m (by omega)
    obtain ⟨a, ha, ea⟩ := s.zs (show m < nm by omega)
    have e4 : gI h' 2 m 4 = nI (a + 1) := by rw [A.I 2 m 4, E.2.2.2.2.1, ea]
    have kk : kB h' m ↔ kM h m := by
      rw [← s.kBM (show m < nm by omega)]
      unfold kB
      rw [A.I 2 m 8, A.I 2 m 9]
    have step : ∀ v, lNx h (m + 1) p v → P v (nI m + 1) := fun v hv => hP _ _ ⟨m + 1, by omega, nI_1 m, hv⟩ (by rw [nI_1, nI_clamp (by omega), nI_clamp (by omega)]; omega)
    have ea' : ∀ a', gI h 37 0 m = nI (a' + 1) → a' < 999 → a' = a := fun a' q w => by
      have := (nI_eq (a := a' + 1) (b := a + 1) (by omega) (by omega)).mp (by rw [← q, ea])
      omega
    have stay : (kM h m → a < p ∨ ∃ a0, x = nI (a0 + 1) ∧ a0 < 999 ∧ a0 ≤ a) → lNx h (m + 1) p x := by
      intro w
      rcases N with ⟨r0, N⟩ | ⟨a0, r0, l1, l2, ⟨m0, hm0, k0, e0⟩, N⟩
      · refine Or.inl ⟨r0, fun m' hm' k a' q q' => ?_⟩
        by_cases e : m' = m
        · subst e
          rcases w k with w | ⟨a0, w, w', -⟩
          · rw [ea' a' q q']; exact w
          · rw [r0] at w
            have := (nI_eq (a := 0) (b := a0 + 1) (by omega) (by omega)).mp w
            omega
        · exact N m' (by omega) k a' q q'
      · refine Or.inr ⟨a0, r0, l1, l2, ⟨m0, by omega, k0, e0⟩, fun m' hm' k a' q q' => ?_⟩
        by_cases e : m' = m
        · subst e
          rw [ea' a' q q']
          rcases w k with w | ⟨a1, w, w', w''⟩
          · exact Or.inl w
          · have := (nI_eq (a := a0 + 1) (b := a1 + 1) (by omega) (by omega)).mp (by rw [← r0, w])
            exact Or.inr (by omega)
        · exact N m' (by omega) k a' q q'
    have take : kM h m → p ≤ a → (x = 0 ∨ ∃ a0, x = nI (a0 + 1) ∧ a0 < 999 ∧ a < a0) → lNx h (m + 1) p (nI (a + 1)) := by
      intro k l w
      refine Or.inr ⟨a, rfl, l, ha, ⟨m, by omega, k, ea⟩, fun m' hm' k a' q q' => ?_⟩
      by_cases e : m' = m
      · subst e; rw [ea' a' q q']; exact Or.inr (Nat.le_refl _)
      · rcases N with ⟨r0, N⟩ | ⟨a0, r0, l1, l2, -, N⟩
        · exact Or.inl (N m' (by omega) k a' q q')
        · rcases N m' (by omega) k a' q q' with q | q
          · exact Or.inl q
          · rcases w with w | ⟨a1, w, w', w''⟩
            · rw [r0] at w
              have := (nI_eq (a := a0 + 1) (b := 0) (by omega) (by omega)).mp w
              omega
            · have := (nI_eq (a := a0 + 1) (b := a1 + 1) (by omega) (by omega)).mp (by rw [← r0, w])
              exact Or.inr (by omega)
    by_cases k : kM h m
    · rw [kept_1 (kk.mpr k), if_neg z_10.mp, e4]
      by_cases l : a < p
      · rw [if_pos (nI_le (by omega) (by omega))]
        exact step _ (stay (fun _ => Or.inl l))
      · rw [if_neg (nI_ge (by omega) (by omega))]
        by_cases z : x = 0
        · rw [if_pos z]
          exact step _ (take k (by omega) (Or.inl z))
        · rw [if_neg z]
          rcases id N with ⟨r0, -⟩ | ⟨a0, r0, l1, l2, -, -⟩
          · exact absurd r0 z
          · by_cases q : a0 ≤ a
            · rw [if_pos (by rw [r0]; exact nI_le (by omega) (by omega))]
              exact step _ (stay (fun _ => Or.inr ⟨a0, r0, l2, q⟩))
            · rw [if_neg (by rw [r0]; exact nI_ge (by omega) (by omega))]
              exact step _ (take k (by omega) (Or.inr ⟨a0, r0, l2, by omega⟩))
    · rw [kept_0 (fun q => k (kk.mp q)), if_pos rfl]
      exact step _ (stay (fun q => absurd q k))
theorem lN_s (s : SMail d nm h) {p : Nat} {r : Int32} (N : lNx h nm p r) : (r = 0 ∧ ∀ a, p ≤ a → a < 999 → lS h nm a = false) ∨ ∃ a, r = nI (a + 1) ∧ p ≤ a ∧ a < 999 ∧ lS h nm a = true ∧ ∀ x, p ≤ x → x < a → lS h nm x = false := by
  rcases N with ⟨r0, N⟩ | ⟨a, r0, l1, l2, w, N⟩
  · refine Or.inl ⟨r0, fun a l1 l2 => ?_⟩
    cases e : lS h nm a
    · rfl
    · obtain ⟨m, hm, k, q⟩ := lS_iff.mp e
      have := N m hm k a q l2
      omega
  · refine Or.inr ⟨a, r0, l1, l2, lS_iff.mpr w, fun x q1 q2 => ?_⟩
    cases e : lS h nm x
    · rfl
    · obtain ⟨m, hm, k, q⟩ := lS_iff.mp e
      rcases N m hm k x q (by omega) with q | q <;> omega
theorem lk_f {j : Nat} (hj : j < 10) : lK h nm (0 + j) = 102 ∧ lA h nm (0 + j) = nI j := by
  unfold lK lA cK cA
  simp only [Nat.zero_add, hj, if_true, and_self]
theorem lk_t {j : Nat} (hj : j < 10) : lK h nm (10 + j) = 116 ∧ lA h nm (10 + j) = nI j := by
  unfold lK lA cK cA
  simp only [show ¬ 10 + j < 10 by omega, show 10 + j < 20 by omega, if_true, if_false, show 10 + j - 10 = j by omega, and_self]
theorem lk_s {j : Nat} (hj : j < 16) : lK h nm (20 + j) = 115 ∧ lA h nm (20 + j) = nI j := by
  unfold lK lA cK cA
  simp only [show ¬ 20 + j < 10 by omega, show ¬ 20 + j < 20 by omega, show 20 + j < 36 by omega, if_true, if_false, show 20 + j - 20 = j by omega, and_self]
theorem lk_b {j : Nat} (hj : j < 16) : lK h nm (36 + j) = 98 ∧ lA h nm (36 + j) = nI j := by
  unfold lK lA cK cA
  simp only [show ¬ 36 + j < 10 by omega, show ¬ 36 + j < 20 by omega, show ¬ 36 + j < 36 by omega, show 36 + j < 52 by omega, if_true, if_false, show 36 + j - 36 = j by omega, and_self]
theorem lk_z {a : Nat} (ha : a < 999) (e : lS h nm a = true) : lK h nm (52 + ct (lS h nm) a) = 122 ∧ lA h nm (52 + ct (lS h nm) a) = nI a ∧ ct (lS h nm) a < lZ h nm := by
  have l : ct (lS h nm) a < lZ h nm := ct_hitlt e ha
  unfold lK lA cK cA
  simp only [show ¬ 52 + ct (lS h nm) a < 10 by omega, show ¬ 52 + ct (lS h nm) a < 20 by omega, show ¬ 52 + ct (lS h nm) a < 36 by omega, show ¬ 52 + ct (lS h nm) a < 52 by omega, show 52 + ct (lS h nm) a < 52 + lZ h nm by omega, if_true, if_false, show 52 + ct (lS h nm) a - 52 = ct (lS h nm) a by omega, nth_e e 999 ha, l, and_self]
theorem lk_d {j : Nat} : lK h nm (52 + lZ h nm + j) = 100 ∧ lA h nm (52 + lZ h nm + j) = nI j := by
  unfold lK lA cK cA
  simp only [show ¬ 52 + lZ h nm + j < 10 by omega, show ¬ 52 + lZ h nm + j < 20 by omega, show ¬ 52 + lZ h nm + j < 36 by omega, show ¬ 52 + lZ h nm + j < 52 by omega, show ¬ 52 + lZ h nm + j < 52 + lZ h nm by omega, if_false, show 52 + lZ h nm + j - (52 + lZ h nm) = j by omega, and_self]
theorem tests_w (s : SMail d nm h) (hp : ∃ m, m < nm ∧ lP h b m = true) {h' : Hp} {Q : Hp → Prop} (A : ag lW h h') (e6 : ∀ m, bJ (gJ h' 1 0 6) m = (decide (m < nm) && lP h b m)) (e7 : ∀ m, bJ (gJ h' 1 0 7) m = (decide (m < nm) && (decide (kM h m) && !lP h b m)))
    (f : ∀ h'', LC h nm b (59 + lZ h nm) h'' → Q h'') : wp_X1_listTests h' Q := by
  have z40 : lZ h nm ≤ 40 := Nat.le_trans (lS_ct 999 (by decide)) s.1
  unfold wp_X1_listTests LET
  rintro y rfl
  have L0 : LC h nm b 0 (sI h' 1 0 5 0) := ⟨A.sI rfl, by simp only [gI_sI, gI_sJ, gI_sR, gI_sD, gJ_sI, gJ_sJ, gJ_sR, gJ_sD, gR_sI, gR_sJ, gR_sR, gR_sD, gD_sI, gD_sJ, gD_sR, gD_sD, Nat.reduceEqDiff, false_and, and_false, true_and, and_true, and_self, reduceIte, if_true, if_false, ite_true, ite_false]; rfl, fun m => by simp only [gI_sI, gI_sJ, gI_sR, gI_sD, gJ_sI, gJ_sJ, gJ_sR, gJ_sD, gR_sI, gR_sJ, gR_sR, gR_sD, gD_sI, gD_sJ, gD_sR, gD_sD, Nat.reduceEqDiff, false_and, and_false, true_and, and_true, and_self, reduceIte, if_true, if_false, ite_true, ite_false]; exact e6 m, fun m => by simp only [gI_sI, gI_sJ, gI_sR, gI_sD, gJ_sI, gJ_sJ, gJ_sR, gJ_sD, gR_sI, gR_sJ, gR_sR, gR_sD, gD_sI, gD_sJ, gD_sR, gD_sD, Nat.reduceEqDiff, false_and, and_false, true_and, and_true, and_self, reduceIte, if_true, if_false, ite_true, ite_false]; exact e7 m, fun c hc => by omega⟩
  refine lkind_w s hp (n := 0) (N := 10) (by omega) (by omega) (fun j hj => ⟨(lk_f hj).1.symm, (lk_f hj).2.symm⟩) L0 (fun h1 L1 => ?_)
  refine lkind_w s hp (n := 10) (N := 10) (by omega) (by omega) (fun j hj => ⟨(lk_t hj).1.symm, (lk_t hj).2.symm⟩) L1 (fun h2 L2 => ?_)
  refine lkind_w s hp (n := 20) (N := 16) (by omega) (by omega) (fun j hj => ⟨(lk_s hj).1.symm, (lk_s hj).2.symm⟩) L2 (fun h3 L3 => ?_)
  refine lkind_w s hp (n := 36) (N := 16) (by omega) (by omega) (fun j hj => ⟨(lk_b hj).1.symm, (lk_b hj).2.symm⟩) L3 (fun h4 L4 => ?_)
  refine next_w s (p := 0) (by omega) L4.1 (fun r N => ?_)
  unfold wp_X1_listTests_b45
  refine LFP3.by (I := fun x y z => ∃ p t, p ≤ 999 ∧ t = ct (lS h nm) p ∧ lNx h nm p x ∧ y = nI t ∧ LC h nm b (52 + t) z) (μ := fun _ y _ => 41 - y.toNatClampNeg) ⟨0, 0, by omega, rfl, N, rfl, L4⟩ ?_
  rintro x y z ⟨p, t, hp', et, N, rfl, L⟩ P hP
  have tz : t ≤ lZ h nm := by rw [et]; exact ct_up 999 p hp'
  have rest : t = lZ h nm → wp_X1_listTests_b76 z Q := by
    intro e
    unfold wp_X1_listTests_b76
    rw [e] at L
    refine lkind_w s hp (n := 52 + lZ h nm) (N := 7) (by omega) (by omega) (fun j hj => ⟨lk_d.1.symm, lk_d.2.symm⟩) L (fun h2 L2 => ?_)
    rw [show 52 + lZ h nm + 7 = 59 + lZ h nm by omega] at L2
    exact f _ L2
  unfold wp_X1_listTests_b45F LET
  by_cases c : t = 40
  · rw [if_pos (show (40 : Int32) ≤ nI t by rw [c]; decide)]
    exact rest (by omega)
  · rw [if_neg (show ¬ (40 : Int32) ≤ nI t from nI_ge (b := 40) (show t < 40 by omega) (by omega))]
    rcases lN_s s N with ⟨r0, w⟩ | ⟨a, r0, l1, l2, w, w'⟩
    · rw [if_pos (by rw [r0]; decide)]
      refine rest ?_
      rw [et]
      exact (ct_flat 999 hp' w).symm
    · have ea : t = ct (lS h nm) a := by rw [et]; exact (ct_flat a l1 w').symm
      obtain ⟨k1, k2, k3⟩ := lk_z l2 w
      rw [if_neg (by rw [r0]; exact nI_ge (a := 0) (b := a + 1) (by omega) (by omega))]
      refine list_w s hp (n := 52 + t) (by omega) (by omega) (by rw [ea, k1]) (by rw [ea, k2, r0, ← nI_1, z_as]) L (fun h5 L5 => ?_)
      rw [r0]
      refine next_w s (p := a + 1) (by omega) L5.1 (fun r' N' => ?_)
      simp only [forall_eq]
      exact hP _ _ _ ⟨a + 1, t + 1, by omega, by rw [ct_hit w, ea], N', nI_1 t, L5⟩ (by rw [nI_1, nI_clamp (by omega), nI_clamp (by omega)]; omega)
end
