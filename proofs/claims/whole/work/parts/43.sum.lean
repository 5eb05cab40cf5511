/-! the sum of the sizes -/
def szJ (g : Nat → Int64) : Nat → Int64
  | 0 => 0
  | n + 1 => szJ g n + g n
def gS (h : Hp) (m : Nat) : Int64 := if gI h 40 0 m = 0 then (gI h 37 0 m).toInt64 else 0
def SKJ (i : Nat) (K : Int64 → Int64 → Hp → Prop) : Prop := ∀ r h, Sim (i + 1) h → K r r h
theorem c_sum {i : Nat} {h : Hp} (S : Sim i h) {K : Int64 → Int64 → Hp → Prop} (hK : SKJ i K) : wp_X10_sum h (fun r => wp_X11_sum h (fun b h2 => K r b h2)) := by
  obtain ⟨d, nm, nt, hd, s1, ⟨n40, e1, e2, s2, s2', s2''⟩, s3, s4, s5, s6, s7⟩ := id S
  unfold wp_X10_sum wp_X10_sum_b4
  refine LFP2.by (I := fun x y => ∃ n, n ≤ nm ∧ y = nI n ∧ x = szJ (gS h) n) (μ := fun _ y => 40 - y.toNatClampNeg) ⟨0, by omega, rfl, rfl⟩ ?_
  rintro x y ⟨n, hn', rfl, rfl⟩ P hP
  unfold wp_X10_sum_b4F wp_X10_sum_b46 LET
  by_cases c : n = nm
  · subst c
    rw [e1, if_pos (nI_le (Nat.le_refl _) (by omega))]
    unfold wp_X11_sum LET wp_X11_sum_b9
    rintro h1 rfl
    refine LFP3.by (I := fun x y z => z = sI h 11 0 0 0 ∧ ∃ m, m ≤ n ∧ y = nI m ∧ x = szJ (gS h) m) (μ := fun _ y _ => 40 - y.toNatClampNeg) ⟨rfl, 0, by omega, rfl, rfl⟩ ?_
    rintro x y z ⟨rfl, m, hm', rfl, rfl⟩ P hP
    unfold wp_X11_sum_b9F wp_X11_sum_b38 LET
    simp only [gI_sI, gI_sJ, gI_sR, gI_sD, gJ_sI, gJ_sJ, gJ_sR, gJ_sD, gR_sI, gR_sJ, gR_sR, gR_sD, gD_sI, gD_sJ, gD_sR, gD_sD, Nat.reduceEqDiff, false_and, and_false, true_and, and_true, and_self, reduceIte, if_true, if_false, ite_true, ite_false, e2]
    by_cases c : m = n
    · subst c
      rw [if_pos (nI_le (Nat.le_refl _) (by omega))]
      exact hK _ _ (S.quiet ag.rfl.sI)
    · rw [if_neg (nI_ge (show m < n by omega) (by omega))]
      refine ⟨vp_in_nI (by omega) (by decide), ?_⟩
      rw [nI_clamp (by omega)]
      simp only [forall_eq]
      have step : ∀ v, v = szJ (gS h) (m + 1) → P v (nI m + 1) (sI h 11 0 0 0) := fun v hv => hP _ _ _ ⟨rfl, m + 1, by omega, nI_1 m, hv⟩ (by rw [nI_1, nI_clamp (by omega), nI_clamp (by omega)]; omega)
      by_cases a : gI h 40 0 m = 0
      · rw [if_pos a]
        exact step _ (by simp [szJ, gS, a])
      · rw [if_neg a]
        exact step _ (by simp [szJ, gS, a])
  · rw [e1, if_neg (nI_ge (show n < nm by omega) (by omega))]
    refine ⟨vp_in_nI (by omega) (by decide), ?_⟩
    rw [nI_clamp (by omega), (s2' n (by omega)).2.1, (s2 n (by omega)).2.2.2.2.2.1]
    simp only [forall_eq]
    have step : ∀ v, v = szJ (gS h) (n + 1) → P v (nI n + 1) := fun v hv => hP _ _ ⟨n + 1, by omega, nI_1 n, hv⟩ (by rw [nI_1, nI_clamp (by omega), nI_clamp (by omega)]; omega)
    by_cases a : gI h 40 0 n = 0
    · rw [if_pos a]
      exact step _ (by simp [szJ, gS, a])
    · rw [if_neg a]
      exact step _ (by simp [szJ, gS, a])
