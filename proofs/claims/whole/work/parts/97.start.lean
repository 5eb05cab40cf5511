/-! the start gives Sim 0 -/
theorem sim0 {H : Hp} (r : ∀ s, s < 4 → ∀ r, r < 12 → gR H 22 s r = 12 * s + r + 1) (z : ∀ m, m < 40 → gI H 2 m 8 = 0 ∧ gI H 2 m 9 = 0 ∧ gI H 2 m 7 = 0 ∧ gI H 39 0 m = 0 ∧ gI H 40 0 m = 0 ∧ gI H 42 0 m = 0)
    (b : ∀ b, b < 8 → gI H 16 0 b = gI H 44 0 b ∧ gI H 17 0 b = gI H 45 0 b) (p : ∀ p, p < 10 → gI H 18 0 p = 0 ∧ gI H 47 0 p = 0 ∧ gI H 19 0 p = gI H 48 0 p ∧ gI H 46 0 p = -1) (s : ∀ s, s < 4 → gI H 7 s 1 = 0 ∧ gI H 53 0 s = 0)
    (c : gI H 3 0 7 = 0 ∧ gI H 11 0 1 = 0 ∧ gI H 3 0 6 = 0 ∧ gI H 11 0 2 = 0 ∧ gI H 9 0 4 = 0 ∧ gI H 11 0 19 = 0 ∧ gJ H 9 0 3 = 0)
    (l : gI H 5 1 4 = 0 ∧ gI H 11 0 47 = 0 ∧ gI H 5 1 5 = 0 ∧ gI H 11 0 48 = 0 ∧ gI H 5 1 6 = 0 ∧ gI H 11 0 49 = 0 ∧ gI H 5 1 7 = 0 ∧ gI H 11 0 50 = 0 ∧ gI H 5 1 8 = 0 ∧ gI H 11 0 51 = 0 ∧ gI H 5 1 3 = 0 ∧ gI H 11 0 52 = 0) : Sim 0 H := by
  obtain ⟨c1, c2, c3, c4, c5, c6, c7⟩ := c
  obtain ⟨l1, l2, l3, l4, l5, l6, l7, l8, l9, l10, l11, l12⟩ := l
  refine ⟨0, 0, 0, by omega, ⟨c1, c2⟩, ⟨by omega, c3, c4, fun m hm => by omega, fun m hm => ?_, fun m _ hm => (z m hm).2.2.2.1⟩, b, fun q hq => ?_, ⟨by omega, c5, c6, fun t ht => by omega, fun t _ _ => by rw [c7, bJ_0]⟩, fun q hq => ?_, 0, by omega, l1, l2, fun k hk => by omega, by rw [l3, l4], by rw [l5, l6], by rw [l7, l8], by rw [l9, l10], by rw [l11, l12]⟩
  · obtain ⟨z1, z2, z3, z4, z5, z6⟩ := z m hm
    exact ⟨by rw [z1, z4], by rw [z2, z5], Or.inl z4, Or.inl z5, fun _ => z5, by rw [z3, z6], fun w => absurd (z4.symm.trans w) (by decide)⟩
  · obtain ⟨p1, p2, p3, p4⟩ := p q hq
    exact ⟨by rw [p1, p2], p3, 0, by omega, p1, fun _ => p4, fun w => absurd rfl w⟩
  · obtain ⟨s1, s2⟩ := s q hq
    exact ⟨0, by omega, s1, s2, fun x => 12 * q + x, fun x hx => ⟨r q hq x hx, Nat.le_add_right _ _, by show 12 * q + x < 12 * q + 12; omega⟩, fun x y _ _ w => by have w : 12 * q + x = 12 * q + y := w; omega, fun x hx => by omega⟩
theorem St_of {H : Hp} (f : ∀ j, j < 77 → ∀ o, o < nobj j → ∀ k, k < ntab j → srf j o k ≠ 0 → gR H j o k = srf j o k) : St H := fun j o k ho hk => f j (nobj_lt ho) o ho k hk
theorem start_w {Q : Hp → Prop} (f : ∀ H, Sim 0 H → Q H) : wp_L_start 270 hp0 Q := by
  repeat first | refine LET_i ?_ | refine ⟨by decide +kernel, ?_⟩
  refine mails_w (by decide +kernel) (by decide +kernel) ?_
  repeat first | refine LET_i ?_ | refine ⟨by decide +kernel, ?_⟩
  refine scripts_w (by decide +kernel) (fun P => ?_)
  unfold wp_X10_init_b36F
  rw [if_pos (by decide)]
  repeat first | refine LET_i ?_ | refine ⟨by decide +kernel, ?_⟩
  refine ⟨0, ?_⟩
  repeat first | refine LET_i ?_ | refine ⟨by decide +kernel, ?_⟩
  refine ⟨0, ?_⟩
  repeat first | refine LET_i ?_ | refine ⟨by decide +kernel, ?_⟩
  refine ⟨0, ?_⟩
  repeat first | refine LET_i ?_ | refine ⟨by decide +kernel, ?_⟩
  refine ⟨40, ?_⟩
  repeat first | refine LET_i ?_ | refine ⟨by decide +kernel, ?_⟩
  refine ⟨1, ?_⟩
  repeat first | refine LET_i ?_ | refine ⟨by decide +kernel, ?_⟩
  refine ⟨1, ?_⟩
  repeat first | refine LET_i ?_ | refine ⟨by decide +kernel, ?_⟩
  refine ⟨1, ?_⟩
  repeat first | refine LET_i ?_ | refine ⟨by decide +kernel, ?_⟩
  refine ⟨2, ?_⟩
  repeat first | refine LET_i ?_ | refine ⟨by decide +kernel, ?_⟩
  refine ⟨2, ?_⟩
  repeat first | refine LET_i ?_ | refine ⟨by decide +kernel, ?_⟩
  refine ⟨2, ?_⟩
  repeat first | refine LET_i ?_ | refine ⟨by decide +kernel, ?_⟩
  refine quota2_w (by decide +kernel) (by decide +kernel) ?_
  repeat first | refine LET_i ?_ | refine ⟨by decide +kernel, ?_⟩
  refine ⟨Or.inl (by decide), ?_⟩
  repeat first | refine LET_i ?_ | refine ⟨by decide +kernel, ?_⟩
  refine ⟨Or.inr ⟨rfl, St_of ?_⟩, ?_⟩
  · decide +kernel
  repeat first | refine LET_i ?_ | refine ⟨by decide +kernel, ?_⟩
  refine f _ (sim0 ?_ ?_ ?_ ?_ ?_ ?_ ?_)
  · decide +kernel
  · decide +kernel
  · decide +kernel
  · decide +kernel
  · decide +kernel
  · decide +kernel
  · decide +kernel
