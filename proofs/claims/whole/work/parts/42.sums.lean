/-! what lies in a box -/
def sz (g : Nat → Int32) : Nat → Int32
  | 0 => 0
  | n + 1 => sz g n + g n
theorem sz_ext {g g' : Nat → Int32} {n : Nat} (h : ∀ m, m < n → g m = g' m) : sz g n = sz g' n := by
  induction n with
  | zero => rfl
  | succ n ih => simp only [sz]; rw [ih (fun m hm => h m (by omega)), h n (by omega)]
/-- of the class: is it there, delivered and not gone -/
abbrev kB (h : Hp) (m : Nat) : Prop := gI h 2 m 8 ≠ 0 ∧ gI h 2 m 9 = 0
theorem kept_1 {h : Hp} {m : Nat} {Q : Int32 → Prop} (a : kB h m) : wp_X2_isKept m h Q = Q 1 := by
  unfold wp_X2_isKept
  rw [if_neg a.1, if_pos a.2]
theorem kept_0 {h : Hp} {m : Nat} {Q : Int32 → Prop} (a : ¬ kB h m) : wp_X2_isKept m h Q = Q 0 := by
  unfold wp_X2_isKept
  by_cases b : gI h 2 m 8 = 0
  · rw [if_pos b]
  · rw [if_neg b, if_neg (fun c => a ⟨b, c⟩)]
theorem lie_1 {h : Hp} {m : Nat} {b : Int32} {Q : Int32 → Prop} (a : kB h m ∧ gI h 2 m 6 = b) : wp_X2_liesIn m b h Q = Q 1 := by
  unfold wp_X2_liesIn
  rw [kept_1 a.1]
  simp only [z_10, if_false, a.2, if_true]
theorem lie_0 {h : Hp} {m : Nat} {b : Int32} {Q : Int32 → Prop} (a : ¬ (kB h m ∧ gI h 2 m 6 = b)) : wp_X2_liesIn m b h Q = Q 0 := by
  unfold wp_X2_liesIn
  by_cases c : kB h m
  · rw [kept_1 c]
    simp only [z_10, if_false]
    rw [if_neg (fun e => a ⟨c, e⟩)]
  · rw [kept_0 c]
    simp
theorem loop_le {n N : Nat} (hN : N < 2 ^ 31) (hn : n ≤ N) : (nI N ≤ nI n) ↔ n = N := by
  rw [nI_leI hN (by omega)]
  omega
def gB (h : Hp) (b : Int32) (m : Nat) : Int32 := if kB h m ∧ gI h 2 m 6 = b then gI h 2 m 4 else 0
theorem sizesIn_w {h : Hp} {b : Int32} {nm : Nat} {Q : Int32 → Prop} (e : gI h 3 0 6 = nI nm) (hn : nm ≤ 40) (f : Q (sz (gB h b) nm)) : wp_X3_sizesIn b h Q := by
  unfold wp_X3_sizesIn wp_X3_sizesIn_b4
  refine LFP2.by (I := fun x y => ∃ n, n ≤ nm ∧ y = nI n ∧ x = sz (gB h b) n) (μ := fun _ y => 40 - y.toNatClampNeg) ⟨0, by omega, rfl, rfl⟩ ?_
  rintro x y ⟨n, hn', rfl, rfl⟩ P hP
  unfold wp_X3_sizesIn_b4F wp_X3_sizesIn_b37 LET
  by_cases c : n = nm
  · subst c
    rw [e, if_pos (nI_le (Nat.le_refl _) (by omega))]
    exact f
  · rw [e, if_neg (nI_ge (show n < nm by omega) (by omega))]
    refine ⟨vp_in_nI (by omega) (by decide), ?_⟩
    rw [nI_clamp (by omega)]
    have step : ∀ v, v = sz (gB h b) (n + 1) → P v (nI n + 1) := fun v hv => hP _ _ ⟨n + 1, by omega, nI_1 n, hv⟩ (by rw [nI_1, nI_clamp (by omega), nI_clamp (by omega)]; omega)
    by_cases a : kB h n ∧ gI h 2 n 6 = b
    · rw [lie_1 a]
      simp only [z_10, if_false, forall_eq]
      exact step _ (by simp [sz, gB, a])
    · rw [lie_0 a]
      simp only [if_true, forall_eq]
      exact step _ (by simp [sz, gB, a])
