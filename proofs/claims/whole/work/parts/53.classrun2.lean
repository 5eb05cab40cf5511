/-! the class does it: actions, rules, scripts -/
section
variable {h h' : Hp} {m nm nt rep : Nat} {σ : Nat → Int32}
theorem chf_w {x : Int32} {Q : Hp → Prop} (rc : RC h m nt rep σ h') (hr : rep < 3) (f : ∀ h'', RC h m nt rep (up σ 1 x) h'' → Q h'') : wp_X0_changeFlags x h' Q := by
  have g1 : gI h' 5 rep 3 = σ 1 := rc.2.2.2.2.1 1 (by omega)
  have c3 := rc.2.2.1
  unfold wp_X0_changeFlags wp_X0_changeFlags_b19 wp_X0_changeFlags_b24 LET
  simp only [forall_eq, gR_sI, c3, dref hr, g1]
  by_cases e : gI h' 0 0 7 = 0
  · rw [if_pos e]
    by_cases e' : x = σ 1
    · rw [if_pos e']
      exact ⟨Or.inl rfl, f _ (rc.s1 (fun _ => ⟨e', e⟩))⟩
    · rw [if_neg e']
      exact ⟨Or.inr rfl, f _ (rc.s1 (fun q => by cases q))⟩
  · rw [if_neg e]
    exact ⟨Or.inr rfl, f _ (rc.s1 (fun q => by cases q))⟩
theorem due_w {a : Int32} {Q : Int32 → Prop} (B : BF h m nm nt) (rc : RC h m nt rep σ h') (f : Q (bit01 (xDue h m a))) : wp_X3_isReplyDue (gI h 33 0 m) a h' Q := by
  obtain ⟨d, i, hi, hd, s1, ⟨n40, e1, e2, s2, s2', s2''⟩, s3, s4, s5, s6, hm⟩ := id B
  obtain ⟨hx, ex⟩ := cl_n (s2 m hm).1.1 (by decide)
  obtain ⟨u1, u2, c, u3, u4, u5, u6⟩ := s4 _ hx
  unfold wp_X3_isReplyDue
  refine ⟨inN_vp (s2 m hm).1.1 (by decide), ?_⟩
  unfold xDue at f
  rw [show (gI h 33 0 m).toNatClampNeg = cl (gI h 33 0 m) from rfl, rc.I 18 0, rc.I 3 0 7, rc.I 20 0, s1.1, u4]
  rw [s1.2] at f
  by_cases z : c = 0
  · rw [u5 z] at f
    rw [z, if_pos (show nI 0 = 0 from rfl)]
    exact f
  · obtain ⟨v1, e, v2, v3⟩ := u6 z
    rw [if_neg (show ¬ nI c = 0 from nI_ne (b := 0) (by omega) (by omega) z)]
    have n1 : ¬ nI e = -1 := fun q => by
      have := congrArg Int32.toInt q
      rw [nI_toInt (by omega)] at this
      have : (e : Int) = -1 := this
      omega
    rw [v3] at f
    rw [← v1, v3]
    by_cases l : nI d - nI e < a <;> simpa [n1, l, bit01] using f
theorem xac_w {k a dp : Int32} {RS : Int32 → Int32 → Hp → (Hp → Prop) → Prop} {Q : Hp → Prop} (B : BF h m nm nt) (rc : RC h m nt rep σ h') (hr : rep < 3) (v : SaV k a) (k5 : k ≠ 105) (f : ∀ h'', RC h m nt rep (xAct h m k a σ) h'' → Q h'') : wp_X0_act RS k a dp h' Q := by
  obtain ⟨d, i, hi, hd, s1, ⟨n40, e1, e2, s2, s2', s2''⟩, s3, s4, s5, s6, hm⟩ := id B
  have c5 := rc.2.2.2.2.1
  have g0 : gI h' 5 rep 2 = σ 0 := c5 0 (by omega)
  have g1 : gI h' 5 rep 3 = σ 1 := c5 1 (by omega)
  have g6 : gI h' 5 rep 8 = σ 6 := c5 6 (by omega)
  have g7 : gI h' 5 rep 9 = σ 7 := c5 7 (by omega)
  have q0 : gI h' 2 m 0 = gI h 33 0 m := by rw [rc.I 2 m 0]; exact (s2 m hm).2.1
  have q4 : gI h' 2 m 4 = gI h 37 0 m := by rw [rc.I 2 m 4]; exact (s2 m hm).2.2.2.2.2.1
  have c3 := rc.2.2.1
  have c4 := rc.2.2.2.1
  have hm41 : m < 41 := by omega
  unfold wp_X0_act
  unfold xAct at f
  rcases v with (rfl | rfl | rfl | rfl | rfl) | ⟨rfl | rfl, o⟩ | ⟨rfl, o⟩ | ⟨rfl | rfl, o⟩ | ⟨rfl, o⟩ | ⟨rfl, o⟩ <;>
    simp only [kd_45_70, kd_45_83, kd_45_85, kd_45_99, kd_45_105, kd_45_107, kd_45_109, kd_45_114, kd_45_115, kd_45_118, kd_45_119, kd_45_120, kd_70_45, kd_70_83, kd_70_85, kd_70_99, kd_70_105, kd_70_107, kd_70_109, kd_70_114, kd_70_115, kd_70_118, kd_70_119, kd_70_120, kd_83_45, kd_83_70, kd_83_85, kd_83_99, kd_83_105, kd_83_107, kd_83_109, kd_83_114, kd_83_115, kd_83_118, kd_83_119, kd_83_120, kd_85_45, kd_85_70, kd_85_83, kd_85_99, kd_85_105, kd_85_107, kd_85_109, kd_85_114, kd_85_115, kd_85_118, kd_85_119, kd_85_120, kd_99_45, kd_99_70, kd_99_83, kd_99_85, kd_99_105, kd_99_107, kd_99_109, kd_99_114, kd_99_115, kd_99_118, kd_99_119, kd_99_120, kd_105_45, kd_105_70, kd_105_83, kd_105_85, kd_105_99, kd_105_107, kd_105_109, kd_105_114, kd_105_115, kd_105_118, kd_105_119, kd_105_120, kd_107_45, kd_107_70, kd_107_83, kd_107_85, kd_107_99, kd_107_105, kd_107_109, kd_107_114, kd_107_115, kd_107_118, kd_107_119, kd_107_120, kd_109_45, kd_109_70, kd_109_83, kd_109_85, kd_109_99, kd_109_105, kd_109_107, kd_109_114, kd_109_115, kd_109_118, kd_109_119, kd_109_120, kd_114_45, kd_114_70, kd_114_83, kd_114_85, kd_114_99, kd_114_105, kd_114_107, kd_114_109, kd_114_115, kd_114_118, kd_114_119, kd_114_120, kd_115_45, kd_115_70, kd_115_83, kd_115_85, kd_115_99, kd_115_105, kd_115_107, kd_115_109, kd_115_114, kd_115_118, kd_115_119, kd_115_120, kd_118_45, kd_118_70, kd_118_83, kd_118_85, kd_118_99, kd_118_105, kd_118_107, kd_118_109, kd_118_114, kd_118_115, kd_118_119, kd_118_120, kd_119_45, kd_119_70, kd_119_83, kd_119_85, kd_119_99, kd_119_105, kd_119_107, kd_119_109, kd_119_114, kd_119_115, kd_119_118, kd_119_120, kd_120_45, kd_120_70, kd_120_83, kd_120_85, kd_120_99, kd_120_105, kd_120_107, kd_120_109, kd_120_114, kd_120_115, kd_120_118, kd_120_119, if_false, if_true, c3, dref hr, g0, g1] at f ⊢
  · unfold LET
    rintro y rfl
    exact f _ (rc.s5 (by omega) (by omega))
  · unfold LET
    rintro y rfl
    exact f _ (rc.s5 (by omega) (by omega))
  · unfold LET
    rintro y rfl
    exact f _ (rc.s5 (by omega) (by omega))
  · exact f _ rc
  · unfold LET
    rintro y rfl
    exact f _ rc.s9
  · -- put into
    obtain ⟨hx, ex⟩ := cl_n o (by decide)
    unfold wp_X0_putInto wp_X0_putInto_b25
    refine xmu_w B rc o ?_
    cases c : xMuch h m a σ
    · rw [c, if_neg (by decide)] at f
      rw [if_pos (show bit01 false = 0 from rfl)]
      unfold LET
      simp only [forall_eq, gR_sI, c3, c4, dref hr, dref hm41]
      refine ⟨inN_vp o (by decide), ?_⟩
      refine f _ ?_
      rw [show a.toNatClampNeg = cl a from rfl, gI_o (show (25 : Nat) ≠ 5 ∨ _ from Or.inl (by decide)), gI_o (show (2 : Nat) ≠ 5 ∨ _ from Or.inl (by decide)), q4, rc.2.2.2.2.2.2.2.2.1 _ hx]
      exact (rc.s5 (i := 0) (by omega) (by omega)).s25 hx
    · rw [c, if_pos rfl] at f
      rw [if_neg (show ¬ bit01 true = 0 by decide)]
      unfold LET
      simp only [forall_eq, gR_sI, c3, c4, dref hr, dref hm41, g6]
      refine ⟨vp_in_nI (n := 0) (by decide) (by decide), ?_⟩
      refine f _ ?_
      rw [show (0 : Int32).toNatClampNeg = 0 from rfl, gI_o (show (25 : Nat) ≠ 5 ∨ _ from Or.inl (by decide)), gI_o (show (25 : Nat) ≠ 5 ∨ _ from Or.inl (by decide)), gI_o (show (2 : Nat) ≠ 5 ∨ _ from Or.inl (by decide)), gI_o (show (2 : Nat) ≠ 5 ∨ _ from Or.inl (by decide)), q4, rc.2.2.2.2.2.2.2.2.1 0 (by omega)]
      exact ((rc.s5 (i := 6) (by omega) (by omega)).s5 (i := 0) (by omega) (by omega)).s25 (i := 0) (by omega)
  · -- copy
    obtain ⟨hx, ex⟩ := cl_n o (by decide)
    unfold wp_X0_sendOut LET
    simp only [forall_eq, gR_sI, c3, c4, dref hr, dref hm41, if_true, show a.toNatClampNeg = cl a from rfl]
    refine ⟨inN_vp o (by decide), ?_⟩
    refine f _ ?_
    have r8 := rc.s8 (v := 1)
    rw [gI_o (show (27 : Nat) ≠ 0 ∨ _ from Or.inl (by decide)), gI_o (show (2 : Nat) ≠ 0 ∨ _ from Or.inl (by decide)), gI_o (show (25 : Nat) ≠ 27 ∨ _ from Or.inl (by decide)), gI_o (show (25 : Nat) ≠ 0 ∨ _ from Or.inl (by decide)), gI_o (show (2 : Nat) ≠ 27 ∨ _ from Or.inl (by decide)), gI_o (show (2 : Nat) ≠ 0 ∨ _ from Or.inl (by decide)), q4, rc.2.2.2.2.2.2.2.2.1 _ hx, rc.2.2.2.2.2.2.2.1 _ hx]
    exact (r8.s27 hx).s25 hx
  · -- forward
    unfold wp_X0_sendOut LET
    simp only [forall_eq, gR_sI, c3, dref hr, kd_45_70, kd_45_83, kd_45_85, kd_45_99, kd_45_105, kd_45_107, kd_45_109, kd_45_114, kd_45_115, kd_45_118, kd_45_119, kd_45_120, kd_70_45, kd_70_83, kd_70_85, kd_70_99, kd_70_105, kd_70_107, kd_70_109, kd_70_114, kd_70_115, kd_70_118, kd_70_119, kd_70_120, kd_83_45, kd_83_70, kd_83_85, kd_83_99, kd_83_105, kd_83_107, kd_83_109, kd_83_114, kd_83_115, kd_83_118, kd_83_119, kd_83_120, kd_85_45, kd_85_70, kd_85_83, kd_85_99, kd_85_105, kd_85_107, kd_85_109, kd_85_114, kd_85_115, kd_85_118, kd_85_119, kd_85_120, kd_99_45, kd_99_70, kd_99_83, kd_99_85, kd_99_105, kd_99_107, kd_99_109, kd_99_114, kd_99_115, kd_99_118, kd_99_119, kd_99_120, kd_105_45, kd_105_70, kd_105_83, kd_105_85, kd_105_99, kd_105_107, kd_105_109, kd_105_114, kd_105_115, kd_105_118, kd_105_119, kd_105_120, kd_107_45, kd_107_70, kd_107_83, kd_107_85, kd_107_99, kd_107_105, kd_107_109, kd_107_114, kd_107_115, kd_107_118, kd_107_119, kd_107_120, kd_109_45, kd_109_70, kd_109_83, kd_109_85, kd_109_99, kd_109_105, kd_109_107, kd_109_114, kd_109_115, kd_109_118, kd_109_119, kd_109_120, kd_114_45, kd_114_70, kd_114_83, kd_114_85, kd_114_99, kd_114_105, kd_114_107, kd_114_109, kd_114_115, kd_114_118, kd_114_119, kd_114_120, kd_115_45, kd_115_70, kd_115_83, kd_115_85, kd_115_99, kd_115_105, kd_115_107, kd_115_109, kd_115_114, kd_115_118, kd_115_119, kd_115_120, kd_118_45, kd_118_70, kd_118_83, kd_118_85, kd_118_99, kd_118_105, kd_118_107, kd_118_109, kd_118_114, kd_118_115, kd_118_119, kd_118_120, kd_119_45, kd_119_70, kd_119_83, kd_119_85, kd_119_99, kd_119_105, kd_119_107, kd_119_109, kd_119_114, kd_119_115, kd_119_118, kd_119_120, kd_120_45, kd_120_70, kd_120_83, kd_120_85, kd_120_99, kd_120_105, kd_120_107, kd_120_109, kd_120_114, kd_120_115, kd_120_118, kd_120_119, if_true, if_false]
    refine f _ ?_
    rw [gI_o (show (5 : Nat) ≠ 0 ∨ _ from Or.inl (by decide)), g7]
    exact (rc.s8 (v := 1)).s5 (i := 7) (by omega) (by omega)
  · exact chf_w rc hr f
  · exact chf_w rc hr f
  · -- reply
    unfold wp_X0_sendOut LET
    simp only [forall_eq, gR_sI, c3, c4, dref hr, dref hm41, kd_45_70, kd_45_83, kd_45_85, kd_45_99, kd_45_105, kd_45_107, kd_45_109, kd_45_114, kd_45_115, kd_45_118, kd_45_119, kd_45_120, kd_70_45, kd_70_83, kd_70_85, kd_70_99, kd_70_105, kd_70_107, kd_70_109, kd_70_114, kd_70_115, kd_70_118, kd_70_119, kd_70_120, kd_83_45, kd_83_70, kd_83_85, kd_83_99, kd_83_105, kd_83_107, kd_83_109, kd_83_114, kd_83_115, kd_83_118, kd_83_119, kd_83_120, kd_85_45, kd_85_70, kd_85_83, kd_85_99, kd_85_105, kd_85_107, kd_85_109, kd_85_114, kd_85_115, kd_85_118, kd_85_119, kd_85_120, kd_99_45, kd_99_70, kd_99_83, kd_99_85, kd_99_105, kd_99_107, kd_99_109, kd_99_114, kd_99_115, kd_99_118, kd_99_119, kd_99_120, kd_105_45, kd_105_70, kd_105_83, kd_105_85, kd_105_99, kd_105_107, kd_105_109, kd_105_114, kd_105_115, kd_105_118, kd_105_119, kd_105_120, kd_107_45, kd_107_70, kd_107_83, kd_107_85, kd_107_99, kd_107_105, kd_107_109, kd_107_114, kd_107_115, kd_107_118, kd_107_119, kd_107_120, kd_109_45, kd_109_70, kd_109_83, kd_109_85, kd_109_99, kd_109_105, kd_109_107, kd_109_114, kd_109_115, kd_109_118, kd_109_119, kd_109_120, kd_114_45, kd_114_70, kd_114_83, kd_114_85, kd_114_99, kd_114_105, kd_114_107, kd_114_109, kd_114_115, kd_114_118, kd_114_119, kd_114_120, kd_115_45, kd_115_70, kd_115_83, kd_115_85, kd_115_99, kd_115_105, kd_115_107, kd_115_109, kd_115_114, kd_115_118, kd_115_119, kd_115_120, kd_118_45, kd_118_70, kd_118_83, kd_118_85, kd_118_99, kd_118_105, kd_118_107, kd_118_109, kd_118_114, kd_118_115, kd_118_119, kd_118_120, kd_119_45, kd_119_70, kd_119_83, kd_119_85, kd_119_99, kd_119_105, kd_119_107, kd_119_109, kd_119_114, kd_119_115, kd_119_118, kd_119_120, kd_120_45, kd_120_70, kd_120_83, kd_120_85, kd_120_99, kd_120_105, kd_120_107, kd_120_109, kd_120_114, kd_120_115, kd_120_118, kd_120_119, if_true, if_false]
    rw [gI_o (show (2 : Nat) ≠ 0 ∨ _ from Or.inl (by decide)), q0]
    have r8 := rc.s8 (v := 1)
    refine due_w B r8 ?_
    cases c : xDue h m a
    · rw [c, if_neg (by decide)] at f
      rw [if_pos (show bit01 false = 0 from rfl)]
      exact f _ r8
    · rw [c, if_pos rfl] at f
      rw [if_neg (show ¬ bit01 true = 0 by decide)]
      exact f _ (r8.s5 (i := 9) (by omega) (by omega))
  · exact absurd rfl k5
theorem xActs_over {e : Nat} {RS : Int32 → (Nat → Int32) → Nat → Int32} {p : Nat} {c : Int32} {n i : Nat} (o : σ 11 ≠ 0) : xActs h m e RS p c n i σ = (σ, false) := by
  cases n with
  | zero => rfl
  | succ n => show (if σ 11 ≠ 0 then _ else _) = _; rw [if_pos o]
theorem xRules_over {e : Nat} {RS : Int32 → (Nat → Int32) → Nat → Int32} {s : Nat} {n r : Nat} (o : σ 11 ≠ 0) : xRules h m e RS s n r σ = σ := by
  cases n with
  | zero => rfl
  | succ n => show (if σ 11 ≠ 0 then _ else _) = _; rw [if_pos o]
end
/-- a rule as both hold it -/
def RE (h : Hp) (q p cn : Nat) : Prop := cn ≤ 5 ∧ gI h 6 q 3 = nI cn ∧ gI h 55 0 p = nI cn ∧ ∀ a, a < cn → gI h 23 q a = gI h 56 0 (5 * p + a) ∧ gI h 24 q a = gI h 57 0 (5 * p + a) ∧ SaV (gI h 56 0 (5 * p + a)) (gI h 57 0 (5 * p + a))
section
variable {h : Hp} {m nm nt rep : Nat}
theorem a105 {a : Int32} (v : SaV 105 a) : inN a 4 := by
  unfold SaV at v
  simpa [kd_45_70, kd_45_83, kd_45_85, kd_45_99, kd_45_105, kd_45_107, kd_45_109, kd_45_114, kd_45_115, kd_45_118, kd_45_119, kd_45_120, kd_70_45, kd_70_83, kd_70_85, kd_70_99, kd_70_105, kd_70_107, kd_70_109, kd_70_114, kd_70_115, kd_70_118, kd_70_119, kd_70_120, kd_83_45, kd_83_70, kd_83_85, kd_83_99, kd_83_105, kd_83_107, kd_83_109, kd_83_114, kd_83_115, kd_83_118, kd_83_119, kd_83_120, kd_85_45, kd_85_70, kd_85_83, kd_85_99, kd_85_105, kd_85_107, kd_85_109, kd_85_114, kd_85_115, kd_85_118, kd_85_119, kd_85_120, kd_99_45, kd_99_70, kd_99_83, kd_99_85, kd_99_105, kd_99_107, kd_99_109, kd_99_114, kd_99_115, kd_99_118, kd_99_119, kd_99_120, kd_105_45, kd_105_70, kd_105_83, kd_105_85, kd_105_99, kd_105_107, kd_105_109, kd_105_114, kd_105_115, kd_105_118, kd_105_119, kd_105_120, kd_107_45, kd_107_70, kd_107_83, kd_107_85, kd_107_99, kd_107_105, kd_107_109, kd_107_114, kd_107_115, kd_107_118, kd_107_119, kd_107_120, kd_109_45, kd_109_70, kd_109_83, kd_109_85, kd_109_99, kd_109_105, kd_109_107, kd_109_114, kd_109_115, kd_109_118, kd_109_119, kd_109_120, kd_114_45, kd_114_70, kd_114_83, kd_114_85, kd_114_99, kd_114_105, kd_114_107, kd_114_109, kd_114_115, kd_114_118, kd_114_119, kd_114_120, kd_115_45, kd_115_70, kd_115_83, kd_115_85, kd_115_99, kd_115_105, kd_115_107, kd_115_109, kd_115_114, kd_115_118, kd_115_119, kd_115_120, kd_118_45, kd_118_70, kd_118_83, kd_118_85, kd_118_99, kd_118_105, kd_118_107, kd_118_109, kd_118_114, kd_118_115, kd_118_119, kd_118_120, kd_119_45, kd_119_70, kd_119_83, kd_119_85, kd_119_99, kd_119_105, kd_119_107, kd_119_109, kd_119_114, kd_119_115, kd_119_118, kd_119_120, kd_120_45, kd_120_70, kd_120_83, kd_120_85, kd_120_99, kd_120_105, kd_120_107, kd_120_109, kd_120_114, kd_120_115, kd_120_118, kd_120_119] using v
theorem xen_w {e q p cn : Nat} {R : Int32 → (Nat → Int32) → Nat → Int32} {RS : Int32 → Int32 → Hp → (Hp → Prop) → Prop} {c : Int32} {σ : Nat → Int32} {h' : Hp} {Q : Int32 → Hp → Prop} (B : BF h m nm nt) (hr : rep < 3) (he : e ≤ 4) (E : RE h q p cn)
    (hRS : ∀ a σ' h'' Q', inN a 4 → e ≠ 0 → RC h m nt rep σ' h'' → XW h m nm σ' → (∀ h3, RC h m nt rep (R a σ') h3 → Q' h3) → RS a (nI (4 - e) + 1) h'' Q')
    (hRX : ∀ a σ', inN a 4 → e ≠ 0 → XW h m nm σ' → XW h m nm (R a σ'))
    (rc : RC h m nt rep σ h') (w : XW h m nm σ) (f : ∀ h'', RC h m nt rep (xActs h m e R p c cn 0 σ).1 h'' → Q (bit01 (xActs h m e R p c cn 0 σ).2) h'') : wp_X0_endsBy RS q c (nI (4 - e)) h' Q := by
  obtain ⟨E1, E2, E3, E4⟩ := E
  unfold wp_X0_endsBy wp_X0_endsBy_b3
  refine LFP2.by (I := fun y h1 => ∃ i σ1, i ≤ cn ∧ y = nI i ∧ RC h m nt rep σ1 h1 ∧ XW h m nm σ1 ∧ xActs h m e R p c (cn - i) i σ1 = xActs h m e R p c cn 0 σ) (μ := fun y _ => 5 - y.toNatClampNeg) ⟨0, σ, by omega, rfl, rc, w, rfl⟩ ?_
  rintro y h1 ⟨i, σ1, hi, rfl, rc, w, ex⟩ P hP
  rw [← ex] at f
  unfold wp_X0_endsBy_b3F wp_X0_endsBy_b144
  rw [rc.I 6 q 3, E2]
  by_cases ci : i = cn
  · subst ci
    rw [Nat.sub_self] at f
    rw [if_pos (nI_le (Nat.le_refl _) (by omega))]
    exact f h1 rc
  rw [if_neg (nI_ge (show i < cn by omega) (by omega)), rc.2.2.2.2.2.2.1]
  obtain ⟨n, hn⟩ : ∃ n, cn - i = n + 1 := ⟨cn - i - 1, by omega⟩
  by_cases o : σ1 11 = 0
  case neg =>
    rw [if_neg o]
    rw [xActs_over o] at f
    exact f h1 rc
  rw [if_pos o]
  obtain ⟨a1, a2, v⟩ := E4 i (by omega)
  refine ⟨vp_in_nI (by omega) (by decide), ?_⟩
  rw [nI_clamp (by omega), rc.I 23 q i, rc.I 24 q i, a1, a2]
  generalize hK : gI h 56 0 (5 * p + i) = k at *
  generalize hA : gI h 57 0 (5 * p + i) = a at *
  rw [hn] at f ex
  have fx : xActs h m e R p c (n + 1) i σ1 = if xEnds k σ1 = true then (xOne h m e R k a (c + nI i) σ1, true) else xActs h m e R p c n (i + 1) (xOne h m e R k a (c + nI i) σ1) := by
    show (if σ1 11 ≠ 0 then _ else _) = _
    rw [if_neg (fun q => q o), hK, hA]
  have fw : XW h m nm (xOne h m e R k a (c + nI i) σ1) := w.one v (fun k5 e0 w' => hRX _ _ (a105 (k5 ▸ v)) e0 w')
  rw [fx] at f ex
  have go : xEnds k σ1 = false → ∀ h2, RC h m nt rep (xOne h m e R k a (c + nI i) σ1) h2 → P (nI i + 1) h2 := fun z h2 r2 => by
    rw [z, if_neg (by decide)] at ex
    exact hP _ _ ⟨i + 1, _, by omega, nI_1 i, r2, fw, by rw [show cn - (i + 1) = n by omega]; exact ex⟩ (by rw [nI_1, nI_clamp (by omega), nI_clamp (by omega)]; omega)
  have c3 := rc.2.2.1
  obtain ⟨⟨cc, hcc, ecc⟩, -⟩ := id w
  have g2 : gI h1 5 rep 4 = σ1 2 := rc.2.2.2.2.1 2 (by omega)
  have g3 : gI h1 5 rep 5 = σ1 3 := rc.2.2.2.2.1 3 (by omega)
  unfold LET
  simp only [forall_eq]
  refine xcl_w rc hr v ?_
  cases cl0 : xClash k σ1
  case true =>
    rw [if_neg (show ¬ bit01 true = 0 by decide), c3, dref hr, g3]
    refine go ?_ _ ?_
    · unfold xEnds
      by_cases k115 : k = 115
      · subst k115
        unfold xClash at cl0
        simp [kd_45_70, kd_45_83, kd_45_85, kd_45_99, kd_45_105, kd_45_107, kd_45_109, kd_45_114, kd_45_115, kd_45_118, kd_45_119, kd_45_120, kd_70_45, kd_70_83, kd_70_85, kd_70_99, kd_70_105, kd_70_107, kd_70_109, kd_70_114, kd_70_115, kd_70_118, kd_70_119, kd_70_120, kd_83_45, kd_83_70, kd_83_85, kd_83_99, kd_83_105, kd_83_107, kd_83_109, kd_83_114, kd_83_115, kd_83_118, kd_83_119, kd_83_120, kd_85_45, kd_85_70, kd_85_83, kd_85_99, kd_85_105, kd_85_107, kd_85_109, kd_85_114, kd_85_115, kd_85_118, kd_85_119, kd_85_120, kd_99_45, kd_99_70, kd_99_83, kd_99_85, kd_99_105, kd_99_107, kd_99_109, kd_99_114, kd_99_115, kd_99_118, kd_99_119, kd_99_120, kd_105_45, kd_105_70, kd_105_83, kd_105_85, kd_105_99, kd_105_107, kd_105_109, kd_105_114, kd_105_115, kd_105_118, kd_105_119, kd_105_120, kd_107_45, kd_107_70, kd_107_83, kd_107_85, kd_107_99, kd_107_105, kd_107_109, kd_107_114, kd_107_115, kd_107_118, kd_107_119, kd_107_120, kd_109_45, kd_109_70, kd_109_83, kd_109_85, kd_109_99, kd_109_105, kd_109_107, kd_109_114, kd_109_115, kd_109_118, kd_109_119, kd_109_120, kd_114_45, kd_114_70, kd_114_83, kd_114_85, kd_114_99, kd_114_105, kd_114_107, kd_114_109, kd_114_115, kd_114_118, kd_114_119, kd_114_120, kd_115_45, kd_115_70, kd_115_83, kd_115_85, kd_115_99, kd_115_105, kd_115_107, kd_115_109, kd_115_114, kd_115_118, kd_115_119, kd_115_120, kd_118_45, kd_118_70, kd_118_83, kd_118_85, kd_118_99, kd_118_105, kd_118_107, kd_118_109, kd_118_114, kd_118_115, kd_118_119, kd_118_120, kd_119_45, kd_119_70, kd_119_83, kd_119_85, kd_119_99, kd_119_105, kd_119_107, kd_119_109, kd_119_114, kd_119_115, kd_119_118, kd_119_120, kd_120_45, kd_120_70, kd_120_83, kd_120_85, kd_120_99, kd_120_105, kd_120_107, kd_120_109, kd_120_114, kd_120_115, kd_120_118, kd_120_119] at cl0
      · simp [k115]
    · unfold xOne
      rw [if_pos cl0]
      exact rc.s5 (i := 3) (by omega) (by omega)
  rw [if_pos (show bit01 false = 0 from rfl)]
  refine xfa_w B rc hr he v (fun z => ?_) (fun z => ?_)
  case refine_2 =>
    rw [if_neg (by decide)]
    have q := xFault_le (h := h) (m := m) e k a σ1
    refine go ?_ _ ?_
    · unfold xEnds
      by_cases k115 : k = 115
      · subst k115
        exact absurd (by unfold xFault; simp [kd_45_70, kd_45_83, kd_45_85, kd_45_99, kd_45_105, kd_45_107, kd_45_109, kd_45_114, kd_45_115, kd_45_118, kd_45_119, kd_45_120, kd_70_45, kd_70_83, kd_70_85, kd_70_99, kd_70_105, kd_70_107, kd_70_109, kd_70_114, kd_70_115, kd_70_118, kd_70_119, kd_70_120, kd_83_45, kd_83_70, kd_83_85, kd_83_99, kd_83_105, kd_83_107, kd_83_109, kd_83_114, kd_83_115, kd_83_118, kd_83_119, kd_83_120, kd_85_45, kd_85_70, kd_85_83, kd_85_99, kd_85_105, kd_85_107, kd_85_109, kd_85_114, kd_85_115, kd_85_118, kd_85_119, kd_85_120, kd_99_45, kd_99_70, kd_99_83, kd_99_85, kd_99_105, kd_99_107, kd_99_109, kd_99_114, kd_99_115, kd_99_118, kd_99_119, kd_99_120, kd_105_45, kd_105_70, kd_105_83, kd_105_85, kd_105_99, kd_105_107, kd_105_109, kd_105_114, kd_105_115, kd_105_118, kd_105_119, kd_105_120, kd_107_45, kd_107_70, kd_107_83, kd_107_85, kd_107_99, kd_107_105, kd_107_109, kd_107_114, kd_107_115, kd_107_118, kd_107_119, kd_107_120, kd_109_45, kd_109_70, kd_109_83, kd_109_85, kd_109_99, kd_109_105, kd_109_107, kd_109_114, kd_109_115, kd_109_118, kd_109_119, kd_109_120, kd_114_45, kd_114_70, kd_114_83, kd_114_85, kd_114_99, kd_114_105, kd_114_107, kd_114_109, kd_114_115, kd_114_118, kd_114_119, kd_114_120, kd_115_45, kd_115_70, kd_115_83, kd_115_85, kd_115_99, kd_115_105, kd_115_107, kd_115_109, kd_115_114, kd_115_118, kd_115_119, kd_115_120, kd_118_45, kd_118_70, kd_118_83, kd_118_85, kd_118_99, kd_118_105, kd_118_107, kd_118_109, kd_118_114, kd_118_115, kd_118_119, kd_118_120, kd_119_45, kd_119_70, kd_119_83, kd_119_85, kd_119_99, kd_119_105, kd_119_107, kd_119_109, kd_119_114, kd_119_115, kd_119_118, kd_119_120, kd_120_45, kd_120_70, kd_120_83, kd_120_85, kd_120_99, kd_120_105, kd_120_107, kd_120_109, kd_120_114, kd_120_115, kd_120_118, kd_120_119]) z
      · simp [k115]
    · unfold xOne
      rw [if_neg (by rw [cl0]; decide), if_pos z]
      exact rc.s5 (by omega) (by omega)
  rw [if_pos rfl]
  simp only [gR_sI, c3, dref hr, g2]
  rw [ecc]
  rcases Nat.lt_or_ge cc 200 with hlt | hge
  · rw [if_pos (show nI cc < 200 from nI_lt (b := 200) hlt (by decide))]
    have n200 : σ1 2 ≠ 200 := by rw [ecc]; exact nI_ne (b := 200) (by omega) (by omega) (by omega)
    refine ⟨vp_in_nI hlt (by decide), ?_⟩
    rw [gI_o (show (5 : Nat) ≠ 26 ∨ _ from Or.inl (by decide)), g2]
    have r2 : RC h m nt rep (xDid σ1 (c + nI i)) (sI (sI h1 26 rep (nI cc).toNatClampNeg (c + nI i)) 5 rep 4 (σ1 2 + 1)) := by
      unfold xDid
      rw [ecc, show cl (nI cc) = (nI cc).toNatClampNeg from rfl, nI_clamp (by omega)]
      exact (rc.s26 hlt).s5 (i := 2) (by omega) (by omega)
    by_cases k5 : k = 105
    · subst k5
      have e0 : e ≠ 0 := fun q => by
        unfold xFault at z
        rw [if_pos ⟨rfl, q⟩] at z
        cases z
      have x1 : xOne h m e R 105 a (c + nI i) σ1 = R a (xDid σ1 (c + nI i)) := by
        unfold xOne
        rw [if_neg (by rw [cl0]; decide), if_neg (fun q => q z), if_neg n200, if_pos rfl]
      unfold wp_X0_act
      simp only [kd_45_70, kd_45_83, kd_45_85, kd_45_99, kd_45_105, kd_45_107, kd_45_109, kd_45_114, kd_45_115, kd_45_118, kd_45_119, kd_45_120, kd_70_45, kd_70_83, kd_70_85, kd_70_99, kd_70_105, kd_70_107, kd_70_109, kd_70_114, kd_70_115, kd_70_118, kd_70_119, kd_70_120, kd_83_45, kd_83_70, kd_83_85, kd_83_99, kd_83_105, kd_83_107, kd_83_109, kd_83_114, kd_83_115, kd_83_118, kd_83_119, kd_83_120, kd_85_45, kd_85_70, kd_85_83, kd_85_99, kd_85_105, kd_85_107, kd_85_109, kd_85_114, kd_85_115, kd_85_118, kd_85_119, kd_85_120, kd_99_45, kd_99_70, kd_99_83, kd_99_85, kd_99_105, kd_99_107, kd_99_109, kd_99_114, kd_99_115, kd_99_118, kd_99_119, kd_99_120, kd_105_45, kd_105_70, kd_105_83, kd_105_85, kd_105_99, kd_105_107, kd_105_109, kd_105_114, kd_105_115, kd_105_118, kd_105_119, kd_105_120, kd_107_45, kd_107_70, kd_107_83, kd_107_85, kd_107_99, kd_107_105, kd_107_109, kd_107_114, kd_107_115, kd_107_118, kd_107_119, kd_107_120, kd_109_45, kd_109_70, kd_109_83, kd_109_85, kd_109_99, kd_109_105, kd_109_107, kd_109_114, kd_109_115, kd_109_118, kd_109_119, kd_109_120, kd_114_45, kd_114_70, kd_114_83, kd_114_85, kd_114_99, kd_114_105, kd_114_107, kd_114_109, kd_114_115, kd_114_118, kd_114_119, kd_114_120, kd_115_45, kd_115_70, kd_115_83, kd_115_85, kd_115_99, kd_115_105, kd_115_107, kd_115_109, kd_115_114, kd_115_118, kd_115_119, kd_115_120, kd_118_45, kd_118_70, kd_118_83, kd_118_85, kd_118_99, kd_118_105, kd_118_107, kd_118_109, kd_118_114, kd_118_115, kd_118_119, kd_118_120, kd_119_45, kd_119_70, kd_119_83, kd_119_85, kd_119_99, kd_119_105, kd_119_107, kd_119_109, kd_119_114, kd_119_115, kd_119_118, kd_119_120, kd_120_45, kd_120_70, kd_120_83, kd_120_85, kd_120_99, kd_120_105, kd_120_107, kd_120_109, kd_120_114, kd_120_115, kd_120_118, kd_120_119, if_false, if_true]
      refine hRS _ _ _ _ (a105 v) e0 r2 (w.did n200) (fun h3 r3 => ?_)
      exact go (by unfold xEnds; simp [kd_45_70, kd_45_83, kd_45_85, kd_45_99, kd_45_105, kd_45_107, kd_45_109, kd_45_114, kd_45_115, kd_45_118, kd_45_119, kd_45_120, kd_70_45, kd_70_83, kd_70_85, kd_70_99, kd_70_105, kd_70_107, kd_70_109, kd_70_114, kd_70_115, kd_70_118, kd_70_119, kd_70_120, kd_83_45, kd_83_70, kd_83_85, kd_83_99, kd_83_105, kd_83_107, kd_83_109, kd_83_114, kd_83_115, kd_83_118, kd_83_119, kd_83_120, kd_85_45, kd_85_70, kd_85_83, kd_85_99, kd_85_105, kd_85_107, kd_85_109, kd_85_114, kd_85_115, kd_85_118, kd_85_119, kd_85_120, kd_99_45, kd_99_70, kd_99_83, kd_99_85, kd_99_105, kd_99_107, kd_99_109, kd_99_114, kd_99_115, kd_99_118, kd_99_119, kd_99_120, kd_105_45, kd_105_70, kd_105_83, kd_105_85, kd_105_99, kd_105_107, kd_105_109, kd_105_114, kd_105_115, kd_105_118, kd_105_119, kd_105_120, kd_107_45, kd_107_70, kd_107_83, kd_107_85, kd_107_99, kd_107_105, kd_107_109, kd_107_114, kd_107_115, kd_107_118, kd_107_119, kd_107_120, kd_109_45, kd_109_70, kd_109_83, kd_109_85, kd_109_99, kd_109_105, kd_109_107, kd_109_114, kd_109_115, kd_109_118, kd_109_119, kd_109_120, kd_114_45, kd_114_70, kd_114_83, kd_114_85, kd_114_99, kd_114_105, kd_114_107, kd_114_109, kd_114_115, kd_114_118, kd_114_119, kd_114_120, kd_115_45, kd_115_70, kd_115_83, kd_115_85, kd_115_99, kd_115_105, kd_115_107, kd_115_109, kd_115_114, kd_115_118, kd_115_119, kd_115_120, kd_118_45, kd_118_70, kd_118_83, kd_118_85, kd_118_99, kd_118_105, kd_118_107, kd_118_109, kd_118_114, kd_118_115, kd_118_119, kd_118_120, kd_119_45, kd_119_70, kd_119_83, kd_119_85, kd_119_99, kd_119_105, kd_119_107, kd_119_109, kd_119_114, kd_119_115, kd_119_118, kd_119_120, kd_120_45, kd_120_70, kd_120_83, kd_120_85, kd_120_99, kd_120_105, kd_120_107, kd_120_109, kd_120_114, kd_120_115, kd_120_118, kd_120_119]) _ (by rw [x1]; exact r3)
    · have x1 : xOne h m e R k a (c + nI i) σ1 = xAct h m k a (xDid σ1 (c + nI i)) := by
        unfold xOne
        rw [if_neg (by rw [cl0]; decide), if_neg (fun q => q z), if_neg n200, if_neg k5]
      refine xac_w B r2 hr v k5 (fun h3 r3 => ?_)
      rw [← x1] at r3
      by_cases k115 : k = 115
      · rw [if_pos k115]
        have z1 : xEnds k σ1 = true := by unfold xEnds; simp [k115, n200]
        rw [z1, if_pos rfl] at f
        exact f h3 r3
      · rw [if_neg k115]
        exact go (by unfold xEnds; simp [k115]) _ r3
  · have hcc : cc = 200 := by omega
    subst hcc
    have e200 : σ1 2 = 200 := ecc
    rw [if_neg (by decide)]
    have x1 : xOne h m e R k a (c + nI i) σ1 = up σ1 11 1 := by
      unfold xOne
      rw [if_neg (by rw [cl0]; decide), if_neg (fun q => q z), if_pos e200]
    have z1 : xEnds k σ1 = false := by unfold xEnds; simp [e200]
    rw [z1, if_neg (by decide), x1, xActs_over (by rw [up_e]; decide)] at f
    exact f _ rc.s9
theorem me_w {t : Nat} {σ : Nat → Int32} {h' : Hp} {Q : Int32 → Hp → Prop} (B : BF h m nm nt) (rc : RC h m nt rep σ h') (hr : rep < 3) (ht : t < nt) (f : ∀ h'', RC h m nt rep σ h'' → Q (bit01 (tT h m (σ 1) t)) h'') : wp_X0_isMet (nI t) h' Q := by
  obtain ⟨d, i, hi, hd, s1, ⟨n40, e1, e2, s2, s2', s2''⟩, s3, s4, s5, s6, hm⟩ := id B
  have c3 := rc.2.2.1
  have c4 := rc.2.2.2.1
  have n60 := s5.1
  have hn : inN (nI t) 64 := ⟨t, by omega, rfl⟩
  have ct : cl (nI t) = t := nI_clamp (by omega)
  unfold wp_X0_isMet wp_X0_isMet_b34
  by_cases e : gI h' 0 0 7 = 0
  · rw [if_pos e, hbJ_w hn (by decide), ct, rc.2.2.2.2.2.2.2.2.2.2 e t ht]
    exact f h' rc
  · rw [if_neg e, c4, dref (show m < 41 by omega), c3, dref hr]
    have g1 : gI h' 5 rep 3 = σ 1 := rc.2.2.2.2.1 1 (by omega)
    refine truthFor_w (nt := nt) (s5.ct.ag rc.1 (wS_dis (by decide))) (by rw [rc.I 2 m 1, (s2 m hm).2.2.1]; exact recv_ok (s2 m hm).1.2.1) (fun x hx => ?_)
    have tv : ∀ t', t' < nt → bJ x t' = tT h m (σ 1) t' := fun t' ht' => by
      rw [hx t' (by omega), ← s5.tv (s2 m hm).2 (σ 1) ht']
      have e12 : gI h' 12 0 = gI h 12 0 := funext (fun k => rc.I 12 0 k)
      have e13 : gI h' 13 0 = gI h 13 0 := funext (fun k => rc.I 13 0 k)
      have e14 : gI h' 14 0 = gI h 14 0 := funext (fun k => rc.I 14 0 k)
      have eM : mC h' m (gI h' 5 rep 3) = mC h m (σ 1) := funext (fun k => by
        unfold mC
        rw [g1, rc.I 2 m k])
      show tvs (gI h' 12 0) (gI h' 13 0) (gI h' 14 0) _ nt t' = _
      rw [e12, e13, e14, eM]
    unfold LET
    simp only [forall_eq]
    rw [hbJ_w hn (by decide), ct]
    have gx : gJ (sI (sJ h' 0 0 6 x) 0 0 7 0) 0 0 6 = x := by simp [gI_sI, gI_sJ, gI_sR, gI_sD, gJ_sI, gJ_sJ, gJ_sR, gJ_sD, gR_sI, gR_sJ, gR_sR, gR_sD, gD_sI, gD_sJ, gD_sR, gD_sD]
    rw [gx, tv t ht]
    refine f _ (rc.st (fun _ t' ht' => by rw [gx]; exact tv t' ht') (fun j o k q => by rw [gI_o (by omega)]; rfl) (fun _ _ _ => rfl) (by repeat first | exact ag.rfl | refine ag.sI ?_ rfl | refine ag.sJ ?_ rfl | refine ag.sR ?_ rfl | refine ag.sD ?_ rfl))
/-- the rules of a script -/
theorem SScr.re (B : BF h m nm nt) {s : Nat} (hs : s < 4) : ∃ nr, nr ≤ 12 ∧ gI h 7 s 1 = nI nr ∧ gI h 53 0 s = nI nr ∧ ∀ r, r < nr → ∃ q t cn, gR h 22 s r = q + 1 ∧ q < 48 ∧ gI h 6 q 2 = nI t ∧ gI h 54 0 (12 * s + r) = nI t ∧ t < nt ∧ RE h q (12 * s + r) cn := by
  obtain ⟨d, i, hi, hd, s1, s2, s3, s4, s5, s6, hm⟩ := B
  obtain ⟨nr, t1, t2, t3, q, t4, t5, t6⟩ := s6 s hs
  refine ⟨nr, t1, t2, t3, fun r hr => ?_⟩
  obtain ⟨x1, x2, ⟨t, ht, x3⟩, c, y1, y2, y3⟩ := t6 r hr
  obtain ⟨v1, v2, v3⟩ := t4 r (by omega)
  exact ⟨q r, t, c, v1, by omega, by rw [x1, x3], x3, ht, y1, by rw [x2, y2], y2, y3⟩
theorem XW.acts {e q p cn : Nat} {R : Int32 → (Nat → Int32) → Nat → Int32} {c : Int32} (E : RE h q p cn) (hRX : ∀ a σ', inN a 4 → e ≠ 0 → XW h m nm σ' → XW h m nm (R a σ')) : ∀ n i σ, i + n ≤ cn → XW h m nm σ → XW h m nm (xActs h m e R p c n i σ).1 := by
  intro n
  induction n with
  | zero => intro i σ _ w; exact w
  | succ n ih =>
    intro i σ hi w
    obtain ⟨E1, E2, E3, E4⟩ := E
    have v := (E4 i (by omega)).2.2
    have fw : XW h m nm (xOne h m e R (gI h 56 0 (5 * p + i)) (gI h 57 0 (5 * p + i)) (c + nI i) σ) := w.one v (fun k5 e0 w' => hRX _ _ (a105 (k5 ▸ v)) e0 w')
    show XW h m nm (if σ 11 ≠ 0 then (σ, false) else _).1
    split
    · exact w
    · split
      · exact fw
      · exact ih (i + 1) _ (by omega) fw
theorem XW.mark {e r : Nat} {σ : Nat → Int32} (w : XW h m nm σ) : XW h m nm (xMark e r σ) := by
  unfold xMark
  split
  · exact w.cell (by omega)
  · exact w
theorem XW.rules {e s : Nat} {R : Int32 → (Nat → Int32) → Nat → Int32} (B : BF h m nm nt) (hs : s < 4) (hRX : ∀ a σ', inN a 4 → e ≠ 0 → XW h m nm σ' → XW h m nm (R a σ')) : ∀ n r σ, r + n ≤ cl (gI h 53 0 s) → XW h m nm σ → XW h m nm (xRules h m e R s n r σ) := by
  obtain ⟨nr, t1, t2, t3, t4⟩ := SScr.re B hs
  intro n
  rw [t3, show cl (nI nr) = nr from nI_clamp (by omega)]
  induction n with
  | zero => intro r σ _ w; exact w
  | succ n ih =>
    intro r σ hr w
    obtain ⟨q, t, cn, g1, g2, g3, g4, g5, E⟩ := t4 r (by omega)
    have ec : cl (gI h 55 0 (12 * s + r)) = cn := by rw [E.2.2.1]; exact nI_clamp (by have := E.1; omega)
    have fw := XW.acts (c := 1000 * nI s + 10 * nI r) E hRX cn 0 _ (by omega) (w.mark (e := e) (r := r))
    show XW h m nm (if σ 11 ≠ 0 then σ else _)
    rw [ec]
    split
    · exact w
    · split
      · split
        · exact fw
        · exact ih (r + 1) _ (by omega) fw
      · exact ih (r + 1) _ (by omega) w
theorem XW.run (B : BF h m nm nt) : ∀ e s σ, inN s 4 → XW h m nm σ → XW h m nm (xRun h m e s σ) := by
  intro e
  induction e with
  | zero =>
    rintro s σ ⟨s, hs, rfl⟩ w
    unfold xRun
    rw [show cl (nI s) = s from nI_clamp (by omega)]
    exact XW.rules B hs (fun _ _ _ q => absurd rfl q) _ _ _ (by omega) w
  | succ e ih =>
    rintro s σ ⟨s, hs, rfl⟩ w
    unfold xRun
    rw [show cl (nI s) = s from nI_clamp (by omega)]
    exact XW.rules B hs (fun a σ' ha _ w' => ih a σ' ha w') _ _ _ (by omega) w
theorem xru_w {e s d : Nat} {R : Int32 → (Nat → Int32) → Nat → Int32} {σ : Nat → Int32} {h' : Hp} {Q : Hp → Prop} (B : BF h m nm nt) (hr : rep < 3) (he : e ≤ 4) (hs : s < 4)
    (hRS : ∀ a σ' h'' Q', inN a 4 → e ≠ 0 → RC h m nt rep σ' h'' → XW h m nm σ' → (∀ h3, RC h m nt rep (R a σ') h3 → Q' h3) → wp_X0_runScript d a (nI (4 - e) + 1) h'' Q')
    (hRX : ∀ a σ', inN a 4 → e ≠ 0 → XW h m nm σ' → XW h m nm (R a σ'))
    (rc : RC h m nt rep σ h') (w : XW h m nm σ) (f : ∀ h'', RC h m nt rep (xRules h m e R s (cl (gI h 53 0 s)) 0 σ) h'' → Q h'') : wp_X0_runScript (d + 1) (nI s) (nI (4 - e)) h' Q := by
  obtain ⟨nr, t1, t2, t3, t4⟩ := SScr.re B hs
  rw [t3, show cl (nI nr) = nr from nI_clamp (by omega)] at f
  show wp_X0_runScriptB (wp_X0_runScript d) (nI s) (nI (4 - e)) h' Q
  unfold wp_X0_runScriptB wp_X0_runScriptB_b16
  rw [if_pos (show nI (4 - e) ≤ 4 from nI_le (b := 4) (show 4 - e ≤ 4 by omega) (by decide)), nI_clamp (by omega)]
  refine ⟨vp_in_nI hs (by decide), ?_⟩
  refine LFP2.by (I := fun y h1 => ∃ r σ1, r ≤ nr ∧ y = nI r ∧ RC h m nt rep σ1 h1 ∧ XW h m nm σ1 ∧ xRules h m e R s (nr - r) r σ1 = xRules h m e R s nr 0 σ) (μ := fun y _ => 12 - y.toNatClampNeg) ⟨0, σ, by omega, rfl, rc, w, rfl⟩ ?_
  rintro y h1 ⟨r, σ1, hr1, rfl, rc, w, ex⟩ P hP
  rw [← ex] at f
  unfold wp_X0_runScriptB_b16F wp_X0_runScriptB_b73 wp_X0_runScriptB_b95
  rw [rc.I 7 s 1, t2]
  by_cases cr : r = nr
  · subst cr
    rw [Nat.sub_self] at f
    rw [if_pos (nI_le (Nat.le_refl _) (by omega))]
    exact f h1 rc
  rw [if_neg (nI_ge (show r < nr by omega) (by omega)), rc.2.2.2.2.2.2.1]
  obtain ⟨n, hn⟩ : ∃ n, nr - r = n + 1 := ⟨nr - r - 1, by omega⟩
  by_cases o : σ1 11 = 0
  case neg =>
    rw [if_neg o]
    rw [xRules_over o] at f
    exact f h1 rc
  rw [if_pos o]
  obtain ⟨q, t, cn, g1, g2, g3, g4, g5, E⟩ := t4 r (by omega)
  have ec : cl (gI h 55 0 (12 * s + r)) = cn := by rw [E.2.2.1]; exact nI_clamp (by have := E.1; omega)
  have n60 : nt ≤ 60 := by
    obtain ⟨d, i, hi, hd, s1, s2, s3, s4, s5, s6, hm⟩ := B
    exact s5.1
  refine ⟨vp_in_nI (by omega) (by decide), ?_⟩
  rw [nI_clamp (by omega), rc.1.R 22 s r, g1, dref g2, rc.I 6 q 2, g3]
  refine me_w B rc hr g5 (fun h2 rc => ?_)
  rw [hn] at f ex
  have fx : xRules h m e R s (n + 1) r σ1 = if tT h m (σ1 1) t = true then (if (xActs h m e R (12 * s + r) (1000 * nI s + 10 * nI r) cn 0 (xMark e r σ1)).2 = true then (xActs h m e R (12 * s + r) (1000 * nI s + 10 * nI r) cn 0 (xMark e r σ1)).1
        else xRules h m e R s n (r + 1) (xActs h m e R (12 * s + r) (1000 * nI s + 10 * nI r) cn 0 (xMark e r σ1)).1) else xRules h m e R s n (r + 1) σ1 := by
    show (if σ1 11 ≠ 0 then _ else _) = _
    rw [if_neg (fun q => q o), ec, g4, show cl (nI t) = t from nI_clamp (by omega)]
  rw [fx] at f ex
  have go : ∀ σ2 h3, XW h m nm σ2 → RC h m nt rep σ2 h3 → xRules h m e R s n (r + 1) σ2 = xRules h m e R s nr 0 σ → P (nI r + 1) h3 := fun σ2 h3 w2 r2 e2 =>
    hP _ _ ⟨r + 1, σ2, by omega, nI_1 r, r2, w2, by rw [show nr - (r + 1) = n by omega]; exact e2⟩ (by rw [nI_1, nI_clamp (by omega), nI_clamp (by omega)]; omega)
  unfold LET
  simp only [forall_eq]
  cases tt : tT h m (σ1 1) t
  · rw [if_pos (show bit01 false = 0 from rfl)]
    rw [tt, if_neg (by decide)] at ex
    exact go σ1 h2 w rc ex
  rw [if_neg (show ¬ bit01 true = 0 by decide)]
  rw [tt, if_pos rfl] at f ex
  have after : ∀ h3, RC h m nt rep (xMark e r σ1) h3 → wp_X0_endsBy (wp_X0_runScript d) q (1000 * nI s + 10 * nI r) (nI (4 - e)) h3 (fun r1 h2 => if r1 = 0 then P (nI r + 1) h2 else Q h2) := fun h3 r3 => by
    refine xen_w B hr he E hRS hRX r3 w.mark (fun h4 r4 => ?_)
    have w4 := XW.acts (c := 1000 * nI s + 10 * nI r) E hRX cn 0 _ (by omega) (w.mark (e := e) (r := r))
    cases z : (xActs h m e R (12 * s + r) (1000 * nI s + 10 * nI r) cn 0 (xMark e r σ1)).2
    · rw [if_pos (show bit01 false = 0 from rfl)]
      rw [z, if_neg (by decide)] at ex
      exact go _ h4 w4 r4 ex
    · rw [if_neg (show ¬ bit01 true = 0 by decide)]
      rw [z, if_pos rfl] at f
      exact f h4 r4
  by_cases e4 : e = 4
  · subst e4
    rw [if_pos (show nI (4 - 4) = 0 from rfl), rc.2.2.1, dref hr]
    refine after _ ?_
    have g8 : gI h2 5 rep 10 = σ1 8 := rc.2.2.2.2.1 8 (by omega)
    rw [g8]
    exact rc.s5 (i := 8) (by omega) (by omega)
  · rw [if_neg (show ¬ nI (4 - e) = 0 from nI_ne (b := 0) (by omega) (by omega) (by omega))]
    refine after _ ?_
    unfold xMark
    rw [if_neg e4]
    exact rc
theorem run_w (B : BF h m nm nt) (hr : rep < 3) : ∀ e, e ≤ 4 → ∀ d, ∀ s σ h' Q, inN s 4 → RC h m nt rep σ h' → XW h m nm σ → (∀ h'', RC h m nt rep (xRun h m e s σ) h'' → Q h'') → wp_X0_runScript (e + 1 + d) s (nI (4 - e)) h' Q := by
  intro e
  induction e with
  | zero =>
    rintro he d s σ h' Q ⟨s, hs, rfl⟩ rc w f
    rw [show 0 + 1 + d = d + 1 by omega]
    unfold xRun at f
    rw [show cl (nI s) = s from nI_clamp (by omega)] at f
    exact xru_w B hr he hs (fun _ _ _ _ _ q => absurd rfl q) (fun _ _ _ q => absurd rfl q) rc w f
  | succ e ih =>
    rintro he d s σ h' Q ⟨s, hs, rfl⟩ rc w f
    rw [show e + 1 + 1 + d = (e + 1 + d) + 1 by omega]
    unfold xRun at f
    rw [show cl (nI s) = s from nI_clamp (by omega)] at f
    refine xru_w B hr he hs (fun a σ' h'' Q' ha _ rc' w' f' => ?_) (fun a σ' ha _ w' => XW.run B e a σ' ha w') rc w f
    rw [nI_1, show 4 - (e + 1) + 1 = 4 - e by omega]
    exact ih (by omega) d a σ' h'' Q' ha rc' w' f'
end
