/-! the class does it -/
theorem gI_o {h : Hp} {j o k j' o' k' : Nat} {v : Int32} (e : j' ≠ j ∨ o' ≠ o ∨ k' ≠ k) : gI (sI h j o k v) j' o' k' = gI h j' o' k' := by rw [gI_sI, if_neg (by omega)]
theorem gI_e {h : Hp} {j o k : Nat} {v : Int32} : gI (sI h j o k v) j o k = v := by rw [gI_sI, if_pos ⟨rfl, rfl, rfl⟩]
theorem inN_vp {x : Int32} {n : Nat} (a : inN x n) (hn : n < 2 ^ 31) : vp_in x n := by
  obtain ⟨j, hj, rfl⟩ := a
  exact vp_in_nI hj hn
/-- what a call stands on -/
def BF (h : Hp) (m nm nt : Nat) : Prop := ∃ d i, i < 2 ^ 20 ∧ d < 2 ^ 30 ∧ SDay d h ∧ SMail d nm h ∧ SBox h ∧ SReply i d h ∧ STest nt h ∧ SScr nt h ∧ m < nm
def RC (h : Hp) (m nt rep : Nat) (σ : Nat → Int32) (h' : Hp) : Prop :=
  ag (wS [0, 5, 25, 26, 27] []) h h' ∧ (∀ o k, o ≠ rep → gI h' 5 o k = gI h 5 o k ∧ gI h' 26 o k = gI h 26 o k) ∧ gR h' 0 0 4 = rep + 1 ∧ gR h' 0 0 5 = m + 1 ∧ (∀ i, i < 10 → gI h' 5 rep (i + 2) = σ i) ∧ gI h' 0 0 8 = σ 10 ∧ gI h' 0 0 9 = σ 11
  ∧ (∀ b, b < 8 → gI h' 27 rep b = σ (20 + b)) ∧ (∀ b, b < 8 → gI h' 25 0 b = σ (30 + b)) ∧ (∀ k, k < 200 → gI h' 26 rep k = σ (100 + k)) ∧ (gI h' 0 0 7 = 0 → ∀ t, t < nt → bJ (gJ h' 0 0 6) t = tT h m (σ 1) t)
section
variable {h h' : Hp} {m nm nt rep : Nat} {σ : Nat → Int32}
theorem RC.s5 {i : Nat} {v : Int32} (rc : RC h m nt rep σ h') (hi : i < 10) (h1 : i ≠ 1) : RC h m nt rep (up σ i v) (sI h' 5 rep (i + 2) v) := by
  obtain ⟨c1, c2, c3, c4, c5, c6, c7, c8, c9, c10, c11⟩ := rc
  refine ⟨c1.sI rfl, fun o k ho => ⟨by rw [gI_o (by omega)]; exact (c2 o k ho).1, by rw [gI_o (by omega)]; exact (c2 o k ho).2⟩, c3, c4, fun j hj => ?_, by rw [gI_o (by omega), up_n (by omega)]; exact c6, by rw [gI_o (by omega), up_n (by omega)]; exact c7,
    fun b hb => by rw [gI_o (by omega), up_n (by omega)]; exact c8 b hb, fun b hb => by rw [gI_o (by omega), up_n (by omega)]; exact c9 b hb, fun k hk => by rw [gI_o (by omega), up_n (by omega)]; exact c10 k hk, fun q => ?_⟩
  · by_cases e : j = i
    · subst e; rw [gI_e, up_e]
    · rw [gI_o (by omega), up_n e]; exact c5 j hj
  · rw [gI_o (by omega)] at q
    rw [up_n (by omega)]
    exact c11 q
theorem RC.s1 {v s : Int32} (rc : RC h m nt rep σ h') (hs : s = 0 → v = σ 1 ∧ gI h' 0 0 7 = 0) : RC h m nt rep (up σ 1 v) (sI (sI h' 0 0 7 s) 5 rep 3 v) := by
  obtain ⟨c1, c2, c3, c4, c5, c6, c7, c8, c9, c10, c11⟩ := rc
  refine ⟨(c1.sI rfl).sI rfl, fun o k ho => ⟨by rw [gI_o (by omega), gI_o (by omega)]; exact (c2 o k ho).1, by rw [gI_o (by omega), gI_o (by omega)]; exact (c2 o k ho).2⟩, c3, c4, fun j hj => ?_, by rw [gI_o (by omega), gI_o (by omega), up_n (by omega)]; exact c6, by rw [gI_o (by omega), gI_o (by omega), up_n (by omega)]; exact c7,
    fun b hb => by rw [gI_o (by omega), gI_o (by omega), up_n (by omega)]; exact c8 b hb, fun b hb => by rw [gI_o (by omega), gI_o (by omega), up_n (by omega)]; exact c9 b hb, fun k hk => by rw [gI_o (by omega), gI_o (by omega), up_n (by omega)]; exact c10 k hk, fun q => ?_⟩
  · by_cases e : j = 1
    · subst e; rw [gI_e, up_e]
    · rw [gI_o (by omega), gI_o (by omega), up_n e]; exact c5 j hj
  · rw [gI_o (by omega), gI_e] at q
    obtain ⟨q1, q2⟩ := hs q
    rw [up_e, q1]
    exact c11 q2
theorem RC.s8 {v : Int32} (rc : RC h m nt rep σ h') : RC h m nt rep (up σ 10 v) (sI h' 0 0 8 v) := by
  obtain ⟨c1, c2, c3, c4, c5, c6, c7, c8, c9, c10, c11⟩ := rc
  refine ⟨c1.sI rfl, fun o k ho => ⟨by rw [gI_o (by omega)]; exact (c2 o k ho).1, by rw [gI_o (by omega)]; exact (c2 o k ho).2⟩, c3, c4, fun j hj => by rw [gI_o (by omega), up_n (by omega)]; exact c5 j hj, by rw [gI_e, up_e], by rw [gI_o (by omega), up_n (by omega)]; exact c7,
    fun b hb => by rw [gI_o (by omega), up_n (by omega)]; exact c8 b hb, fun b hb => by rw [gI_o (by omega), up_n (by omega)]; exact c9 b hb, fun k hk => by rw [gI_o (by omega), up_n (by omega)]; exact c10 k hk, fun q => ?_⟩
  rw [gI_o (by omega)] at q
  rw [up_n (by omega)]
  exact c11 q
theorem RC.s9 {v : Int32} (rc : RC h m nt rep σ h') : RC h m nt rep (up σ 11 v) (sI h' 0 0 9 v) := by
  obtain ⟨c1, c2, c3, c4, c5, c6, c7, c8, c9, c10, c11⟩ := rc
  refine ⟨c1.sI rfl, fun o k ho => ⟨by rw [gI_o (by omega)]; exact (c2 o k ho).1, by rw [gI_o (by omega)]; exact (c2 o k ho).2⟩, c3, c4, fun j hj => by rw [gI_o (by omega), up_n (by omega)]; exact c5 j hj, by rw [gI_o (by omega), up_n (by omega)]; exact c6, by rw [gI_e, up_e],
    fun b hb => by rw [gI_o (by omega), up_n (by omega)]; exact c8 b hb, fun b hb => by rw [gI_o (by omega), up_n (by omega)]; exact c9 b hb, fun k hk => by rw [gI_o (by omega), up_n (by omega)]; exact c10 k hk, fun q => ?_⟩
  rw [gI_o (by omega)] at q
  rw [up_n (by omega)]
  exact c11 q
theorem RC.s27 {i : Nat} {v : Int32} (rc : RC h m nt rep σ h') (hi : i < 8) : RC h m nt rep (up σ (20 + i) v) (sI h' 27 rep i v) := by
  obtain ⟨c1, c2, c3, c4, c5, c6, c7, c8, c9, c10, c11⟩ := rc
  refine ⟨c1.sI rfl, fun o k ho => ⟨by rw [gI_o (by omega)]; exact (c2 o k ho).1, by rw [gI_o (by omega)]; exact (c2 o k ho).2⟩, c3, c4, fun j hj => by rw [gI_o (by omega), up_n (by omega)]; exact c5 j hj, by rw [gI_o (by omega), up_n (by omega)]; exact c6, by rw [gI_o (by omega), up_n (by omega)]; exact c7,
    fun b hb => ?_, fun b hb => by rw [gI_o (by omega), up_n (by omega)]; exact c9 b hb, fun k hk => by rw [gI_o (by omega), up_n (by omega)]; exact c10 k hk, fun q => ?_⟩
  · by_cases e : b = i
    · subst e; rw [gI_e, up_e]
    · rw [gI_o (by omega), up_n (by omega)]; exact c8 b hb
  · rw [gI_o (by omega)] at q
    rw [up_n (by omega)]
    exact c11 q
theorem RC.s25 {i : Nat} {v : Int32} (rc : RC h m nt rep σ h') (hi : i < 8) : RC h m nt rep (up σ (30 + i) v) (sI h' 25 0 i v) := by
  obtain ⟨c1, c2, c3, c4, c5, c6, c7, c8, c9, c10, c11⟩ := rc
  refine ⟨c1.sI rfl, fun o k ho => ⟨by rw [gI_o (by omega)]; exact (c2 o k ho).1, by rw [gI_o (by omega)]; exact (c2 o k ho).2⟩, c3, c4, fun j hj => by rw [gI_o (by omega), up_n (by omega)]; exact c5 j hj, by rw [gI_o (by omega), up_n (by omega)]; exact c6, by rw [gI_o (by omega), up_n (by omega)]; exact c7,
    fun b hb => by rw [gI_o (by omega), up_n (by omega)]; exact c8 b hb, fun b hb => ?_, fun k hk => by rw [gI_o (by omega), up_n (by omega)]; exact c10 k hk, fun q => ?_⟩
  · by_cases e : b = i
    · subst e; rw [gI_e, up_e]
    · rw [gI_o (by omega), up_n (by omega)]; exact c9 b hb
  · rw [gI_o (by omega)] at q
    rw [up_n (by omega)]
    exact c11 q
theorem RC.s26 {i : Nat} {v : Int32} (rc : RC h m nt rep σ h') (hi : i < 200) : RC h m nt rep (up σ (100 + i) v) (sI h' 26 rep i v) := by
  obtain ⟨c1, c2, c3, c4, c5, c6, c7, c8, c9, c10, c11⟩ := rc
  refine ⟨c1.sI rfl, fun o k ho => ⟨by rw [gI_o (by omega)]; exact (c2 o k ho).1, by rw [gI_o (by omega)]; exact (c2 o k ho).2⟩, c3, c4, fun j hj => by rw [gI_o (by omega), up_n (by omega)]; exact c5 j hj, by rw [gI_o (by omega), up_n (by omega)]; exact c6, by rw [gI_o (by omega), up_n (by omega)]; exact c7,
    fun b hb => by rw [gI_o (by omega), up_n (by omega)]; exact c8 b hb, fun b hb => by rw [gI_o (by omega), up_n (by omega)]; exact c9 b hb, fun k hk => ?_, fun q => ?_⟩
  · by_cases e : k = i
    · subst e; rw [gI_e, up_e]
    · rw [gI_o (by omega), up_n (by omega)]; exact c10 k hk
  · rw [gI_o (by omega)] at q
    rw [up_n (by omega)]
    exact c11 q
theorem RC.st {h'' : Hp} (rc : RC h m nt rep σ h') (h7 : gI h'' 0 0 7 = 0 → ∀ t, t < nt → bJ (gJ h'' 0 0 6) t = tT h m (σ 1) t) (e : ∀ j o k, ¬ (j = 0 ∧ k = 7) → gI h'' j o k = gI h' j o k) (eR : ∀ j o k, gR h'' j o k = gR h' j o k) (A : ag (wS [0] []) h' h'') : RC h m nt rep σ h'' := by
  obtain ⟨c1, c2, c3, c4, c5, c6, c7, c8, c9, c10, c11⟩ := rc
  refine ⟨c1.trans (A.mono (wS_mono (by decide) (by decide))), fun o k ho => ⟨by rw [e _ _ _ (by omega)]; exact (c2 o k ho).1, by rw [e _ _ _ (by omega)]; exact (c2 o k ho).2⟩, by rw [eR]; exact c3, by rw [eR]; exact c4, fun j hj => by rw [e _ _ _ (by omega)]; exact c5 j hj, by rw [e _ _ _ (by omega)]; exact c6, by rw [e _ _ _ (by omega)]; exact c7,
    fun b hb => by rw [e _ _ _ (by omega)]; exact c8 b hb, fun b hb => by rw [e _ _ _ (by omega)]; exact c9 b hb, fun k hk => by rw [e _ _ _ (by omega)]; exact c10 k hk, h7⟩
/-- reading, out of what stands -/
theorem RC.I (rc : RC h m nt rep σ h') (j o k : Nat) (hj : wS [0, 5, 25, 26, 27] [] j k = false := by rfl) : gI h' j o k = gI h j o k := rc.1.I j o k hj
theorem dref {P : Nat → Prop} {x N : Nat} (hx : x < N) : (∃ e, x + 1 = e + 1 ∧ e < N ∧ P e) = P x := propext ⟨fun ⟨e, q, _, p⟩ => by cases (show x = e by omega); exact p, fun p => ⟨x, rfl, hx, p⟩⟩
theorem xcl_w {k a : Int32} {Q : Int32 → Prop} (rc : RC h m nt rep σ h') (hr : rep < 3) (v : SaV k a) (f : Q (bit01 (xClash k σ))) : wp_X0_isClash k h' Q := by
  obtain ⟨c1, c2, c3, c4, c5, c6, c7, c8, c9, c10, c11⟩ := rc
  have g0 : gI h' 5 rep 2 = σ 0 := c5 0 (by omega)
  unfold wp_X0_isClash wp_X5_isPlaced
  unfold xClash at f
  rcases v with (rfl | rfl | rfl | rfl | rfl) | ⟨rfl | rfl, o⟩ | ⟨rfl, o⟩ | ⟨rfl | rfl, o⟩ | ⟨rfl, o⟩ | ⟨rfl, o⟩ <;>
    simp only [kd_45_70, kd_45_83, kd_45_85, kd_45_99, kd_45_105, kd_45_107, kd_45_109, kd_45_114, kd_45_115, kd_45_118, kd_45_119, kd_45_120, kd_70_45, kd_70_83, kd_70_85, kd_70_99, kd_70_105, kd_70_107, kd_70_109, kd_70_114, kd_70_115, kd_70_118, kd_70_119, kd_70_120, kd_83_45, kd_83_70, kd_83_85, kd_83_99, kd_83_105, kd_83_107, kd_83_109, kd_83_114, kd_83_115, kd_83_118, kd_83_119, kd_83_120, kd_85_45, kd_85_70, kd_85_83, kd_85_99, kd_85_105, kd_85_107, kd_85_109, kd_85_114, kd_85_115, kd_85_118, kd_85_119, kd_85_120, kd_99_45, kd_99_70, kd_99_83, kd_99_85, kd_99_105, kd_99_107, kd_99_109, kd_99_114, kd_99_115, kd_99_118, kd_99_119, kd_99_120, kd_105_45, kd_105_70, kd_105_83, kd_105_85, kd_105_99, kd_105_107, kd_105_109, kd_105_114, kd_105_115, kd_105_118, kd_105_119, kd_105_120, kd_107_45, kd_107_70, kd_107_83, kd_107_85, kd_107_99, kd_107_105, kd_107_109, kd_107_114, kd_107_115, kd_107_118, kd_107_119, kd_107_120, kd_109_45, kd_109_70, kd_109_83, kd_109_85, kd_109_99, kd_109_105, kd_109_107, kd_109_114, kd_109_115, kd_109_118, kd_109_119, kd_109_120, kd_114_45, kd_114_70, kd_114_83, kd_114_85, kd_114_99, kd_114_105, kd_114_107, kd_114_109, kd_114_115, kd_114_118, kd_114_119, kd_114_120, kd_115_45, kd_115_70, kd_115_83, kd_115_85, kd_115_99, kd_115_105, kd_115_107, kd_115_109, kd_115_114, kd_115_118, kd_115_119, kd_115_120, kd_118_45, kd_118_70, kd_118_83, kd_118_85, kd_118_99, kd_118_105, kd_118_107, kd_118_109, kd_118_114, kd_118_115, kd_118_119, kd_118_120, kd_119_45, kd_119_70, kd_119_83, kd_119_85, kd_119_99, kd_119_105, kd_119_107, kd_119_109, kd_119_114, kd_119_115, kd_119_118, kd_119_120, kd_120_45, kd_120_70, kd_120_83, kd_120_85, kd_120_99, kd_120_105, kd_120_107, kd_120_109, kd_120_114, kd_120_115, kd_120_118, kd_120_119, or_false, or_true, false_or, true_or, or_self, if_false, if_true, c3, dref hr, g0, c6] at f ⊢
  · by_cases e : σ 0 = -1 <;> simpa [e, bit01] using f
  · by_cases e : σ 0 = -1 <;> simpa [e, bit01] using f
  · by_cases e : σ 0 = -1 <;> by_cases e' : σ 10 = 0 <;> simpa [e, e', bit01] using f
  · exact f
  · exact f
  · by_cases e : σ 0 = -1 <;> simpa [e, bit01] using f
  · by_cases e : σ 0 = 9 <;> simpa [e, bit01] using f
  · by_cases e : σ 0 = 9 <;> simpa [e, bit01] using f
  · exact f
  · exact f
  · by_cases e : σ 0 = 9 <;> simpa [e, bit01] using f
  · exact f
theorem xmu_w {a : Int32} {Q : Int32 → Prop} (B : BF h m nm nt) (rc : RC h m nt rep σ h') (ha : inN a 8) (f : Q (bit01 (xMuch h m a σ))) : wp_X0_isTooMuch a h' Q := by
  obtain ⟨d, i, hi, hd, s1, ⟨n40, e1, e2, s2, s2', s2''⟩, s3, s4, s5, s6, hm⟩ := B
  obtain ⟨hx, ex⟩ := cl_n ha (by decide)
  have q1 : gI h' 25 0 (cl a) = σ (30 + cl a) := rc.2.2.2.2.2.2.2.2.1 _ hx
  have q2 : gI h' 2 m 4 = gI h 37 0 m := by rw [rc.I 2 m 4]; exact (s2 m hm).2.2.2.2.2.1
  have q3 : gI h' 16 0 (cl a) = gI h 44 0 (cl a) := by rw [rc.I 16 0 (cl a)]; exact (s3 _ hx).1
  unfold wp_X0_isTooMuch
  unfold xMuch at f
  by_cases e : a = 0
  · rw [if_pos e]
    simpa [e, bit01] using f
  · rw [if_neg e, rc.2.2.2.1, dref (show m < 41 by omega)]
    refine ⟨by rw [ex]; exact vp_in_nI hx (by decide), ?_⟩
    rw [show a.toNatClampNeg = cl a from rfl, q1, q2, q3]
    by_cases c : σ (30 + cl a) + gI h 37 0 m ≤ gI h 44 0 (cl a) <;> simpa [e, c, bit01] using f
theorem hb_or {x a : Int32} {Q : Int32 → Prop} (ha : inN a 10) : wp_X10_hasBit x a h' Q = Q (bit01 (bI x (cl a))) := hb_w ha (by decide)
theorem xfa_w {k a : Int32} {e : Nat} {Q : Int32 → Hp → Prop} (B : BF h m nm nt) (rc : RC h m nt rep σ h') (hr : rep < 3) (he : e ≤ 4) (v : SaV k a) (f : xFault h m e k a σ = 0 → Q 0 h') (f' : xFault h m e k a σ ≠ 0 → Q 1 (sI h' 5 rep (xFault h m e k a σ + 2) (σ (xFault h m e k a σ) + 1))) : wp_X0_isFault k a (nI (4 - e)) h' Q := by
  obtain ⟨d, i, hi, hd, s1, ⟨n40, e1, e2, s2, s2', s2''⟩, s3, s4, s5, s6, hm⟩ := id B
  have c5 := rc.2.2.2.2.1
  have g4 : gI h' 5 rep 6 = σ 4 := c5 4 (by omega)
  have g5 : gI h' 5 rep 7 = σ 5 := c5 5 (by omega)
  have g6 : gI h' 5 rep 8 = σ 6 := c5 6 (by omega)
  have g7 : gI h' 5 rep 9 = σ 7 := c5 7 (by omega)
  have q0 : gI h' 2 m 0 = gI h 33 0 m := by rw [rc.I 2 m 0]; exact (s2 m hm).2.1
  have q1 : gI h' 2 m 1 = gI h 34 0 m := by rw [rc.I 2 m 1]; exact (s2 m hm).2.2.1
  have c3 := rc.2.2.1
  have c4 := rc.2.2.2.1
  have hm41 : m < 41 := by omega
  unfold wp_X0_isFault wp_X0_isFault_b26 wp_X0_isFault_b65 wp_X0_isFault_b80 LET
  simp only [c3, c4, dref hr, dref hm41, g4, g5, g6, g7, q0, q1, forall_eq]
  by_cases k5 : k = 105
  · subst k5
    by_cases e0 : e = 0
    · subst e0
      have x : xFault h m 0 105 a σ = 4 := by unfold xFault; simp
      rw [x] at f'
      rw [if_pos rfl, if_neg (by decide)]
      exact f' (by decide)
    · have x : xFault h m e 105 a σ = 0 := by unfold xFault; simp [e0]
      rw [if_pos rfl, if_pos (show nI (4 - e) < 4 from nI_lt (b := 4) (show 4 - e < 4 by omega) (by decide)), if_neg (by decide), if_neg (by decide)]
      exact f x
  rw [if_neg k5]
  by_cases k9 : k = 119
  · subst k9
    have ha : inN a 10 := by
      unfold SaV at v
      simpa [kd_45_70, kd_45_83, kd_45_85, kd_45_99, kd_45_105, kd_45_107, kd_45_109, kd_45_114, kd_45_115, kd_45_118, kd_45_119, kd_45_120, kd_70_45, kd_70_83, kd_70_85, kd_70_99, kd_70_105, kd_70_107, kd_70_109, kd_70_114, kd_70_115, kd_70_118, kd_70_119, kd_70_120, kd_83_45, kd_83_70, kd_83_85, kd_83_99, kd_83_105, kd_83_107, kd_83_109, kd_83_114, kd_83_115, kd_83_118, kd_83_119, kd_83_120, kd_85_45, kd_85_70, kd_85_83, kd_85_99, kd_85_105, kd_85_107, kd_85_109, kd_85_114, kd_85_115, kd_85_118, kd_85_119, kd_85_120, kd_99_45, kd_99_70, kd_99_83, kd_99_85, kd_99_105, kd_99_107, kd_99_109, kd_99_114, kd_99_115, kd_99_118, kd_99_119, kd_99_120, kd_105_45, kd_105_70, kd_105_83, kd_105_85, kd_105_99, kd_105_107, kd_105_109, kd_105_114, kd_105_115, kd_105_118, kd_105_119, kd_105_120, kd_107_45, kd_107_70, kd_107_83, kd_107_85, kd_107_99, kd_107_105, kd_107_109, kd_107_114, kd_107_115, kd_107_118, kd_107_119, kd_107_120, kd_109_45, kd_109_70, kd_109_83, kd_109_85, kd_109_99, kd_109_105, kd_109_107, kd_109_114, kd_109_115, kd_109_118, kd_109_119, kd_109_120, kd_114_45, kd_114_70, kd_114_83, kd_114_85, kd_114_99, kd_114_105, kd_114_107, kd_114_109, kd_114_115, kd_114_118, kd_114_119, kd_114_120, kd_115_45, kd_115_70, kd_115_83, kd_115_85, kd_115_99, kd_115_105, kd_115_107, kd_115_109, kd_115_114, kd_115_118, kd_115_119, kd_115_120, kd_118_45, kd_118_70, kd_118_83, kd_118_85, kd_118_99, kd_118_105, kd_118_107, kd_118_109, kd_118_114, kd_118_115, kd_118_119, kd_118_120, kd_119_45, kd_119_70, kd_119_83, kd_119_85, kd_119_99, kd_119_105, kd_119_107, kd_119_109, kd_119_114, kd_119_115, kd_119_118, kd_119_120, kd_120_45, kd_120_70, kd_120_83, kd_120_85, kd_120_99, kd_120_105, kd_120_107, kd_120_109, kd_120_114, kd_120_115, kd_120_118, kd_120_119] using v
    have x : xFault h m e 119 a σ = if xKnown h m a σ = true then 5 else 0 := by unfold xFault; simp
    rw [if_pos rfl, hb_or ha]
    unfold xKnown at x
    by_cases ea : a = gI h 33 0 m
    · have x5 : xFault h m e 119 a σ = 5 := by rw [x]; simp [ea]
      rw [x5] at f'
      rw [if_pos ea]
      exact f' (by decide)
    · rw [if_neg ea]
      cases eb : bI (gI h 34 0 m ||| σ 7) (cl a)
      · have x5 : xFault h m e 119 a σ = 0 := by rw [x]; simp [ea, eb]
        rw [if_pos (show bit01 false = 0 from rfl), if_neg (by decide)]
        exact f x5
      · have x5 : xFault h m e 119 a σ = 5 := by rw [x]; simp [eb]
        rw [x5] at f'
        rw [if_neg (show ¬ bit01 true = 0 by decide)]
        exact f' (by decide)
  rw [if_neg k9]
  by_cases k99 : k = 99
  · subst k99
    have ha : inN a 8 := by
      unfold SaV at v
      simpa [kd_45_70, kd_45_83, kd_45_85, kd_45_99, kd_45_105, kd_45_107, kd_45_109, kd_45_114, kd_45_115, kd_45_118, kd_45_119, kd_45_120, kd_70_45, kd_70_83, kd_70_85, kd_70_99, kd_70_105, kd_70_107, kd_70_109, kd_70_114, kd_70_115, kd_70_118, kd_70_119, kd_70_120, kd_83_45, kd_83_70, kd_83_85, kd_83_99, kd_83_105, kd_83_107, kd_83_109, kd_83_114, kd_83_115, kd_83_118, kd_83_119, kd_83_120, kd_85_45, kd_85_70, kd_85_83, kd_85_99, kd_85_105, kd_85_107, kd_85_109, kd_85_114, kd_85_115, kd_85_118, kd_85_119, kd_85_120, kd_99_45, kd_99_70, kd_99_83, kd_99_85, kd_99_105, kd_99_107, kd_99_109, kd_99_114, kd_99_115, kd_99_118, kd_99_119, kd_99_120, kd_105_45, kd_105_70, kd_105_83, kd_105_85, kd_105_99, kd_105_107, kd_105_109, kd_105_114, kd_105_115, kd_105_118, kd_105_119, kd_105_120, kd_107_45, kd_107_70, kd_107_83, kd_107_85, kd_107_99, kd_107_105, kd_107_109, kd_107_114, kd_107_115, kd_107_118, kd_107_119, kd_107_120, kd_109_45, kd_109_70, kd_109_83, kd_109_85, kd_109_99, kd_109_105, kd_109_107, kd_109_114, kd_109_115, kd_109_118, kd_109_119, kd_109_120, kd_114_45, kd_114_70, kd_114_83, kd_114_85, kd_114_99, kd_114_105, kd_114_107, kd_114_109, kd_114_115, kd_114_118, kd_114_119, kd_114_120, kd_115_45, kd_115_70, kd_115_83, kd_115_85, kd_115_99, kd_115_105, kd_115_107, kd_115_109, kd_115_114, kd_115_118, kd_115_119, kd_115_120, kd_118_45, kd_118_70, kd_118_83, kd_118_85, kd_118_99, kd_118_105, kd_118_107, kd_118_109, kd_118_114, kd_118_115, kd_118_119, kd_118_120, kd_119_45, kd_119_70, kd_119_83, kd_119_85, kd_119_99, kd_119_105, kd_119_107, kd_119_109, kd_119_114, kd_119_115, kd_119_118, kd_119_120, kd_120_45, kd_120_70, kd_120_83, kd_120_85, kd_120_99, kd_120_105, kd_120_107, kd_120_109, kd_120_114, kd_120_115, kd_120_118, kd_120_119] using v
    have x : xFault h m e 99 a σ = if xMuch h m a σ = true then 6 else 0 := by unfold xFault; simp
    rw [if_pos rfl]
    refine xmu_w B rc ha ?_
    cases eb : xMuch h m a σ
    · have x5 : xFault h m e 99 a σ = 0 := by rw [x]; simp [eb]
      rw [if_pos (show bit01 false = 0 from rfl)]
      exact f x5
    · have x5 : xFault h m e 99 a σ = 6 := by rw [x]; simp [eb]
      rw [x5] at f'
      rw [if_neg (show ¬ bit01 true = 0 by decide)]
      exact f' (by decide)
  · rw [if_neg k99]
    exact f (by unfold xFault; simp [k5, k9, k99])
end
