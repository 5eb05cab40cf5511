/-! the start: the constructors -/
theorem LET_i {α : Type} {e : α} {f : α → Prop} (h : f e) : LET e f := by
  rintro y rfl
  exact h
theorem gR_zer (h : Hp) (j o j' o' k' : Nat) : gR (zer h j o) j' o' k' = if j' = j ∧ o' = o then 0 else gR h j' o' k' := rfl
def hRu (s : Nat) (h : Hp) : Nat → Hp
  | 0 => h
  | r + 1 => sR (sR (zer (sR (zer (zer (hRu s h r) 6 (12 * s + r)) 23 (12 * s + r)) 6 (12 * s + r) 0 (12 * s + r + 1)) 24 (12 * s + r)) 6 (12 * s + r) 1 (12 * s + r + 1)) 22 s r (12 * s + r + 1)
def hSc (h : Hp) : Nat → Hp
  | 0 => h
  | s + 1 => sR (hRu s (sR (zer (zer (hSc h s) 7 s) 22 s) 7 s 0 (s + 1)) 12) 21 0 s (s + 1)
def hMl (h : Hp) : Nat → Hp
  | 0 => h
  | m + 1 => sR (zer (hMl h m) 2 m) 15 0 m (m + 1)
def hFi (j : Nat) (v : Int32) (h : Hp) : Nat → Hp
  | 0 => h
  | m + 1 => sI (hFi j v h m) j 0 m v
theorem gR_hFi (j : Nat) (v : Int32) (h : Hp) (j' o' k' : Nat) : ∀ n, gR (hFi j v h n) j' o' k' = gR h j' o' k' := by
  intro n
  induction n with
  | zero => rfl
  | succ n ih => exact ih
theorem gR_hMl (h : Hp) {j' : Nat} (o' k' : Nat) (h2 : j' ≠ 2) (h15 : j' ≠ 15) : ∀ n, gR (hMl h n) j' o' k' = gR h j' o' k' := by
  intro n
  induction n with
  | zero => rfl
  | succ n ih => simp only [hMl, gR_sR, gR_zer, h2, h15, false_and, if_false]; exact ih
theorem gR_hRu (s : Nat) (h : Hp) {j' : Nat} (o' k' : Nat) (h6 : j' ≠ 6) (h23 : j' ≠ 23) (h24 : j' ≠ 24) (h22 : j' ≠ 22) : ∀ n, gR (hRu s h n) j' o' k' = gR h j' o' k' := by
  intro n
  induction n with
  | zero => rfl
  | succ n ih => simp only [hRu, gR_sR, gR_zer, h6, h23, h24, h22, false_and, if_false]; exact ih
theorem gR_hSc (h : Hp) {j' : Nat} (o' k' : Nat) (h6 : j' ≠ 6) (h23 : j' ≠ 23) (h24 : j' ≠ 24) (h22 : j' ≠ 22) (h7 : j' ≠ 7) (h21 : j' ≠ 21) : ∀ n, gR (hSc h n) j' o' k' = gR h j' o' k' := by
  intro n
  induction n with
  | zero => rfl
  | succ n ih => simp only [hSc, gR_sR, gR_zer, gR_hRu _ _ _ _ h6 h23 h24 h22, h7, h22, h21, false_and, if_false]; exact ih
theorem lay_r : ∀ s, s < 4 → ∀ r, r < 12 → lay (55 + 38 * s + 3 * r) = (6, 12 * s + r) ∧ lay (55 + 38 * s + 3 * r + 1) = (23, 12 * s + r) ∧ lay (55 + 38 * s + 3 * r + 1 + 1) = (24, 12 * s + r) := by decide +kernel
theorem lay_s : ∀ s, s < 4 → lay (53 + 38 * s) = (7, s) ∧ lay (53 + 38 * s + 1) = (22, s) ∧ adr 22 s = 54 + 38 * s := by decide +kernel
theorem lay_m : ∀ m, m < 40 → lay (12 + m) = (2, m) := by decide +kernel
theorem rules_w {s : Nat} (hs : s < 4) {h : Hp} {Q : Hp → Prop} (g : gR h 7 s 0 = s + 1) (f : Q (hRu s h 12)) : wp_X7_init_b15 (53 + 38 * s + 38) s 0 (53 + 38 * s + 1 + 1) h Q := by
  unfold wp_X7_init_b15
  refine LFP3.by (I := fun x n u => ∃ r, r ≤ 12 ∧ x = nI r ∧ n = 55 + 38 * s + 3 * r ∧ u = hRu s h r) (μ := fun x _ _ => 20 - x.toNatClampNeg) ⟨0, by omega, rfl, by omega, rfl⟩ ?_
  rintro x n u ⟨r, hr, rfl, rfl, rfl⟩ P hP
  unfold wp_X7_init_b15F
  by_cases c : r = 12
  · subst c
    rw [if_pos (by decide)]
    exact ⟨by omega, f⟩
  · rw [if_neg (show ¬ (12 : Int32) ≤ nI r from nI_ge (b := 12) (show r < 12 by omega) (by omega))]
    obtain ⟨l1, l2, l3⟩ := lay_r s hs r (by omega)
    have l4 := (lay_s s hs).2.2
    refine ⟨by rw [gR_hRu _ _ _ _ (by decide) (by decide) (by decide) (by decide)]; exact g, hs, by rw [l4]; omega, 12 * s + r, l1, by omega, by show _ < 270; omega, by omega, LET_i ⟨by omega, ?_⟩⟩
    unfold wp_X6_init
    refine ⟨12 * s + r, l2, by omega, by show _ < 270; omega, by omega, LET_i ⟨by show _ < 270; omega, LET_i ⟨12 * s + r, l3, by omega, by show _ < 270; omega, by omega, LET_i ⟨by show _ < 270; omega, LET_i ⟨by omega, vp_in_nI (by omega) (by decide), by show _ < 270; omega, LET_i (LET_i ?_)⟩⟩⟩⟩⟩
    rw [nI_clamp (by omega)]
    exact hP _ _ _ ⟨r + 1, by omega, nI_1 r, by omega, rfl⟩ (by rw [nI_1, nI_clamp (by omega), nI_clamp (by omega)]; omega)
theorem scripts_w {h : Hp} {Q : Hp → Prop} (g : gR h 10 0 2 = 0 + 1) (f : ∀ P, wp_X10_init_b36F 225 Q P 4 205 (hSc h 4)) : wp_X10_init_b36 225 0 53 h Q := by
  unfold wp_X10_init_b36
  refine LFP3.by (I := fun x n u => ∃ s, s ≤ 4 ∧ x = nI s ∧ n = 53 + 38 * s ∧ u = hSc h s) (μ := fun x _ _ => 20 - x.toNatClampNeg) ⟨0, by omega, rfl, by omega, rfl⟩ ?_
  rintro x n u ⟨s, hs, rfl, rfl, rfl⟩ P hP
  by_cases c : s = 4
  · subst c
    exact f P
  · unfold wp_X10_init_b36F
    rw [if_neg (show ¬ (4 : Int32) ≤ nI s from nI_ge (b := 4) (show s < 4 by omega) (by omega))]
    obtain ⟨l1, l2, l3⟩ := lay_s s (by omega)
    have a21 : adr 21 0 = 52 := by decide
    refine ⟨by rw [gR_hSc _ _ _ (by decide) (by decide) (by decide) (by decide) (by decide) (by decide)]; exact g, by omega, by rw [a21]; omega, s, l1, by omega, by show _ < 270; omega, by omega, LET_i ⟨by omega, ?_⟩⟩
    unfold wp_X7_init
    refine ⟨s, l2, by omega, by show _ < 270; omega, by omega, LET_i ⟨by show _ < 270; omega, LET_i (rules_w (by omega) (by simp only [gR_sR, and_self, if_true]) ?_)⟩⟩
    refine ⟨vp_in_nI (by omega) (by decide), by show _ < 270; omega, LET_i (LET_i ?_)⟩
    rw [nI_clamp (by omega)]
    exact hP _ _ _ ⟨s + 1, by omega, nI_1 s, by omega, rfl⟩ (by rw [nI_1, nI_clamp (by omega), nI_clamp (by omega)]; omega)
theorem quota_w {h : Hp} {Q : Hp → Prop} (g : gR h 3 0 1 = 0 + 1) (f : Q (hFi 16 2000 h 8)) : wp_X3_init_b82 52 0 52 h Q := by
  unfold wp_X3_init_b82
  refine LFP3.by (I := fun x n u => ∃ r, r ≤ 8 ∧ x = nI r ∧ n = 52 ∧ u = hFi 16 2000 h r) (μ := fun x _ _ => 20 - x.toNatClampNeg) ⟨0, by omega, rfl, by omega, rfl⟩ ?_
  rintro x n u ⟨r, hr, rfl, rfl, rfl⟩ P hP
  unfold wp_X3_init_b82F
  by_cases c : r = 8
  · subst c
    rw [if_pos (by decide)]
    exact ⟨by omega, f⟩
  · rw [if_neg (show ¬ (8 : Int32) ≤ nI r from nI_ge (b := 8) (show r < 8 by omega) (by omega))]
    refine ⟨by rw [gR_hFi]; exact g, by omega, by decide, vp_in_nI (by omega) (by decide), LET_i (LET_i ?_)⟩
    rw [nI_clamp (by omega)]
    exact hP _ _ _ ⟨r + 1, by omega, nI_1 r, by omega, rfl⟩ (by rw [nI_1, nI_clamp (by omega), nI_clamp (by omega)]; omega)
theorem mails_w {h : Hp} {Q : Hp → Prop} (g : gR h 3 0 0 = 0 + 1) (g1 : gR h 3 0 1 = 0 + 1) (f : Q (hFi 16 2000 (hMl h 40) 8)) : wp_X3_init_b55 52 0 12 h Q := by
  unfold wp_X3_init_b55
  refine LFP3.by (I := fun x n u => ∃ r, r ≤ 40 ∧ x = nI r ∧ n = 12 + r ∧ u = hMl h r) (μ := fun x _ _ => 50 - x.toNatClampNeg) ⟨0, by omega, rfl, by omega, rfl⟩ ?_
  rintro x n u ⟨r, hr, rfl, rfl, rfl⟩ P hP
  unfold wp_X3_init_b55F
  by_cases c : r = 40
  · subst c
    rw [if_pos (by decide)]
    exact quota_w (by rw [gR_hMl _ _ _ (by decide) (by decide)]; exact g1) f
  · rw [if_neg (show ¬ (40 : Int32) ≤ nI r from nI_ge (b := 40) (show r < 40 by omega) (by omega))]
    have a15 : adr 15 0 = 6 := by decide
    refine ⟨by rw [gR_hMl _ _ _ (by decide) (by decide)]; exact g, by omega, by rw [a15]; omega, r, lay_m r (by omega), by omega, by show _ < 270; omega, by omega, LET_i ⟨by omega, ?_⟩⟩
    unfold wp_X2_init
    refine ⟨rfl, vp_in_nI (by omega) (by decide), by show _ < 270; omega, LET_i (LET_i ?_)⟩
    rw [nI_clamp (by omega)]
    exact hP _ _ _ ⟨r + 1, by omega, nI_1 r, by omega, rfl⟩ (by rw [nI_1, nI_clamp (by omega), nI_clamp (by omega)]; omega)
theorem quota2_w {h : Hp} {Q : Hp → Prop} (g : gR h 11 0 14 = 0 + 1) (g1 : gR h 11 0 16 = 0 + 1) (f : Q (hFi 46 (-1) (hFi 44 2000 h 8) 10)) : wp_X11_init_b347 268 0 268 h Q := by
  unfold wp_X11_init_b347
  refine LFP3.by (I := fun x n u => ∃ r, r ≤ 8 ∧ x = nI r ∧ n = 268 ∧ u = hFi 44 2000 h r) (μ := fun x _ _ => 20 - x.toNatClampNeg) ⟨0, by omega, rfl, by omega, rfl⟩ ?_
  rintro x n u ⟨r, hr, rfl, rfl, rfl⟩ P hP
  unfold wp_X11_init_b347F
  by_cases c : r = 8
  · subst c
    rw [if_pos (by decide)]
    unfold wp_X11_init_b370
    refine LFP3.by (I := fun x n u => ∃ r, r ≤ 10 ∧ x = nI r ∧ n = 268 ∧ u = hFi 46 (-1) (hFi 44 2000 h 8) r) (μ := fun x _ _ => 20 - x.toNatClampNeg) ⟨0, by omega, rfl, by omega, rfl⟩ ?_
    rintro x n u ⟨r, hr, rfl, rfl, rfl⟩ P hP
    unfold wp_X11_init_b370F
    by_cases c : r = 10
    · subst c
      rw [if_pos (by decide)]
      exact ⟨by omega, f⟩
    · rw [if_neg (show ¬ (10 : Int32) ≤ nI r from nI_ge (b := 10) (show r < 10 by omega) (by omega))]
      refine ⟨by rw [gR_hFi, gR_hFi]; exact g1, by omega, by decide, vp_in_nI (by omega) (by decide), LET_i (LET_i ?_)⟩
      rw [nI_clamp (by omega)]
      exact hP _ _ _ ⟨r + 1, by omega, nI_1 r, by omega, rfl⟩ (by rw [nI_1, nI_clamp (by omega), nI_clamp (by omega)]; omega)
  · rw [if_neg (show ¬ (8 : Int32) ≤ nI r from nI_ge (b := 8) (show r < 8 by omega) (by omega))]
    refine ⟨by rw [gR_hFi]; exact g, by omega, by decide, vp_in_nI (by omega) (by decide), LET_i (LET_i ?_)⟩
    rw [nI_clamp (by omega)]
    exact hP _ _ _ ⟨r + 1, by omega, nI_1 r, by omega, rfl⟩ (by rw [nI_1, nI_clamp (by omega), nI_clamp (by omega)]; omega)
