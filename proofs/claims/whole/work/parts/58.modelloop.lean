/-! the model: actions, rules, scripts -/
section
variable {h h0 h' : Hp} {m nm nt : Nat} {σ : Nat → Int32}
theorem mac_w {e : Nat} {R : Int32 → (Nat → Int32) → Nat → Int32} {k a code : Int32} {Q : Hp → Prop} (B : BF h m nm nt) (s : MS h h0 σ h') (w : XW h m nm σ) (o : σ 11 = 0) (v : SaV k a) (k5 : k ≠ 105)
    (f : ∀ h'', AA h h0 σ (xOne h m e R k a code σ) k h' h'' → Q h'') : wp_X11_acts k a (nI m) code h' Q := by
  -- what is done at once
  have dn : xClash k σ = false → xFault h m e k a σ = 0 → ∀ Q' : Int32 → Hp → Prop, (∀ h2, AA h h0 σ (xOne h m e R k a code σ) k h' h2 → Q' 0 h2) → (σ 2 ≠ 200 → ∀ h2, MS h h0 (xDid σ code) h2 → SF h' h2 → Q' 1 h2) → wp_X11_does code h' Q' := fun c z Q' q0 q1 => by
    refine does_w s w (fun n h2 s2 f2 d2 => ?_) (fun n h2 s2 f2 => q1 n h2 s2 f2)
    refine q0 h2 ?_
    rw [one_over c z n]
    exact AA.over s2 f2 d2
  unfold wp_X11_acts
  rcases v with (rfl | rfl | rfl | rfl | rfl) | ⟨rfl | rfl, ha⟩ | ⟨rfl, ha⟩ | ⟨rfl | rfl, ha⟩ | ⟨rfl, ha⟩ | ⟨rfl, ha⟩ <;> simp only [kd_45_70, kd_45_83, kd_45_85, kd_45_99, kd_45_105, kd_45_107, kd_45_109, kd_45_114, kd_45_115, kd_45_118, kd_45_119, kd_45_120, kd_70_45, kd_70_83, kd_70_85, kd_70_99, kd_70_105, kd_70_107, kd_70_109, kd_70_114, kd_70_115, kd_70_118, kd_70_119, kd_70_120, kd_83_45, kd_83_70, kd_83_85, kd_83_99, kd_83_105, kd_83_107, kd_83_109, kd_83_114, kd_83_115, kd_83_118, kd_83_119, kd_83_120, kd_85_45, kd_85_70, kd_85_83, kd_85_99, kd_85_105, kd_85_107, kd_85_109, kd_85_114, kd_85_115, kd_85_118, kd_85_119, kd_85_120, kd_99_45, kd_99_70, kd_99_83, kd_99_85, kd_99_105, kd_99_107, kd_99_109, kd_99_114, kd_99_115, kd_99_118, kd_99_119, kd_99_120, kd_105_45, kd_105_70, kd_105_83, kd_105_85, kd_105_99, kd_105_107, kd_105_109, kd_105_114, kd_105_115, kd_105_118, kd_105_119, kd_105_120, kd_107_45, kd_107_70, kd_107_83, kd_107_85, kd_107_99, kd_107_105, kd_107_109, kd_107_114, kd_107_115, kd_107_118, kd_107_119, kd_107_120, kd_109_45, kd_109_70, kd_109_83, kd_109_85, kd_109_99, kd_109_105, kd_109_107, kd_109_114, kd_109_115, kd_109_118, kd_109_119, kd_109_120, kd_114_45, kd_114_70, kd_114_83, kd_114_85, kd_114_99, kd_114_105, kd_114_107, kd_114_109, kd_114_115, kd_114_118, kd_114_119, kd_114_120, kd_115_45, kd_115_70, kd_115_83, kd_115_85, kd_115_99, kd_115_105, kd_115_107, kd_115_109, kd_115_114, kd_115_118, kd_115_119, kd_115_120, kd_118_45, kd_118_70, kd_118_83, kd_118_85, kd_118_99, kd_118_105, kd_118_107, kd_118_109, kd_118_114, kd_118_115, kd_118_119, kd_118_120, kd_119_45, kd_119_70, kd_119_83, kd_119_85, kd_119_99, kd_119_105, kd_119_107, kd_119_109, kd_119_114, kd_119_115, kd_119_118, kd_119_120, kd_120_45, kd_120_70, kd_120_83, kd_120_85, kd_120_99, kd_120_105, kd_120_107, kd_120_109, kd_120_114, kd_120_115, kd_120_118, kd_120_119, if_false, if_true]
  · exact ch_w B s w o (Or.inl rfl) f
  · exact ch_w B s w o (Or.inr (Or.inr (Or.inl rfl))) f
  · exact ch_w B s w o (Or.inr (Or.inl rfl)) f
  · have c : xClash 115 σ = false := by unfold xClash; simp [kd_45_70, kd_45_83, kd_45_85, kd_45_99, kd_45_105, kd_45_107, kd_45_109, kd_45_114, kd_45_115, kd_45_118, kd_45_119, kd_45_120, kd_70_45, kd_70_83, kd_70_85, kd_70_99, kd_70_105, kd_70_107, kd_70_109, kd_70_114, kd_70_115, kd_70_118, kd_70_119, kd_70_120, kd_83_45, kd_83_70, kd_83_85, kd_83_99, kd_83_105, kd_83_107, kd_83_109, kd_83_114, kd_83_115, kd_83_118, kd_83_119, kd_83_120, kd_85_45, kd_85_70, kd_85_83, kd_85_99, kd_85_105, kd_85_107, kd_85_109, kd_85_114, kd_85_115, kd_85_118, kd_85_119, kd_85_120, kd_99_45, kd_99_70, kd_99_83, kd_99_85, kd_99_105, kd_99_107, kd_99_109, kd_99_114, kd_99_115, kd_99_118, kd_99_119, kd_99_120, kd_105_45, kd_105_70, kd_105_83, kd_105_85, kd_105_99, kd_105_107, kd_105_109, kd_105_114, kd_105_115, kd_105_118, kd_105_119, kd_105_120, kd_107_45, kd_107_70, kd_107_83, kd_107_85, kd_107_99, kd_107_105, kd_107_109, kd_107_114, kd_107_115, kd_107_118, kd_107_119, kd_107_120, kd_109_45, kd_109_70, kd_109_83, kd_109_85, kd_109_99, kd_109_105, kd_109_107, kd_109_114, kd_109_115, kd_109_118, kd_109_119, kd_109_120, kd_114_45, kd_114_70, kd_114_83, kd_114_85, kd_114_99, kd_114_105, kd_114_107, kd_114_109, kd_114_115, kd_114_118, kd_114_119, kd_114_120, kd_115_45, kd_115_70, kd_115_83, kd_115_85, kd_115_99, kd_115_105, kd_115_107, kd_115_109, kd_115_114, kd_115_118, kd_115_119, kd_115_120, kd_118_45, kd_118_70, kd_118_83, kd_118_85, kd_118_99, kd_118_105, kd_118_107, kd_118_109, kd_118_114, kd_118_115, kd_118_119, kd_118_120, kd_119_45, kd_119_70, kd_119_83, kd_119_85, kd_119_99, kd_119_105, kd_119_107, kd_119_109, kd_119_114, kd_119_115, kd_119_118, kd_119_120, kd_120_45, kd_120_70, kd_120_83, kd_120_85, kd_120_99, kd_120_105, kd_120_107, kd_120_109, kd_120_114, kd_120_115, kd_120_118, kd_120_119]
    have z : xFault h m e 115 a σ = 0 := by unfold xFault; simp [kd_45_70, kd_45_83, kd_45_85, kd_45_99, kd_45_105, kd_45_107, kd_45_109, kd_45_114, kd_45_115, kd_45_118, kd_45_119, kd_45_120, kd_70_45, kd_70_83, kd_70_85, kd_70_99, kd_70_105, kd_70_107, kd_70_109, kd_70_114, kd_70_115, kd_70_118, kd_70_119, kd_70_120, kd_83_45, kd_83_70, kd_83_85, kd_83_99, kd_83_105, kd_83_107, kd_83_109, kd_83_114, kd_83_115, kd_83_118, kd_83_119, kd_83_120, kd_85_45, kd_85_70, kd_85_83, kd_85_99, kd_85_105, kd_85_107, kd_85_109, kd_85_114, kd_85_115, kd_85_118, kd_85_119, kd_85_120, kd_99_45, kd_99_70, kd_99_83, kd_99_85, kd_99_105, kd_99_107, kd_99_109, kd_99_114, kd_99_115, kd_99_118, kd_99_119, kd_99_120, kd_105_45, kd_105_70, kd_105_83, kd_105_85, kd_105_99, kd_105_107, kd_105_109, kd_105_114, kd_105_115, kd_105_118, kd_105_119, kd_105_120, kd_107_45, kd_107_70, kd_107_83, kd_107_85, kd_107_99, kd_107_105, kd_107_109, kd_107_114, kd_107_115, kd_107_118, kd_107_119, kd_107_120, kd_109_45, kd_109_70, kd_109_83, kd_109_85, kd_109_99, kd_109_105, kd_109_107, kd_109_114, kd_109_115, kd_109_118, kd_109_119, kd_109_120, kd_114_45, kd_114_70, kd_114_83, kd_114_85, kd_114_99, kd_114_105, kd_114_107, kd_114_109, kd_114_115, kd_114_118, kd_114_119, kd_114_120, kd_115_45, kd_115_70, kd_115_83, kd_115_85, kd_115_99, kd_115_105, kd_115_107, kd_115_109, kd_115_114, kd_115_118, kd_115_119, kd_115_120, kd_118_45, kd_118_70, kd_118_83, kd_118_85, kd_118_99, kd_118_105, kd_118_107, kd_118_109, kd_118_114, kd_118_115, kd_118_119, kd_118_120, kd_119_45, kd_119_70, kd_119_83, kd_119_85, kd_119_99, kd_119_105, kd_119_107, kd_119_109, kd_119_114, kd_119_115, kd_119_118, kd_119_120, kd_120_45, kd_120_70, kd_120_83, kd_120_85, kd_120_99, kd_120_105, kd_120_107, kd_120_109, kd_120_114, kd_120_115, kd_120_118, kd_120_119]
    refine dn c z _ (fun h2 q => by rw [if_pos rfl]; exact f h2 q) (fun n h2 s2 f2 => ?_)
    rw [if_neg (by decide)]
    unfold LET
    rintro y rfl
    rw [one_act c z n (by decide)] at f
    have o2 : xDid σ code 11 = 0 := by rw [did_o (by omega) (by omega)]; exact o
    have x : xAct h m 115 a (xDid σ code) = xDid σ code := by unfold xAct; simp only [kd_45_70, kd_45_83, kd_45_85, kd_45_99, kd_45_105, kd_45_107, kd_45_109, kd_45_114, kd_45_115, kd_45_118, kd_45_119, kd_45_120, kd_70_45, kd_70_83, kd_70_85, kd_70_99, kd_70_105, kd_70_107, kd_70_109, kd_70_114, kd_70_115, kd_70_118, kd_70_119, kd_70_120, kd_83_45, kd_83_70, kd_83_85, kd_83_99, kd_83_105, kd_83_107, kd_83_109, kd_83_114, kd_83_115, kd_83_118, kd_83_119, kd_83_120, kd_85_45, kd_85_70, kd_85_83, kd_85_99, kd_85_105, kd_85_107, kd_85_109, kd_85_114, kd_85_115, kd_85_118, kd_85_119, kd_85_120, kd_99_45, kd_99_70, kd_99_83, kd_99_85, kd_99_105, kd_99_107, kd_99_109, kd_99_114, kd_99_115, kd_99_118, kd_99_119, kd_99_120, kd_105_45, kd_105_70, kd_105_83, kd_105_85, kd_105_99, kd_105_107, kd_105_109, kd_105_114, kd_105_115, kd_105_118, kd_105_119, kd_105_120, kd_107_45, kd_107_70, kd_107_83, kd_107_85, kd_107_99, kd_107_105, kd_107_109, kd_107_114, kd_107_115, kd_107_118, kd_107_119, kd_107_120, kd_109_45, kd_109_70, kd_109_83, kd_109_85, kd_109_99, kd_109_105, kd_109_107, kd_109_114, kd_109_115, kd_109_118, kd_109_119, kd_109_120, kd_114_45, kd_114_70, kd_114_83, kd_114_85, kd_114_99, kd_114_105, kd_114_107, kd_114_109, kd_114_115, kd_114_118, kd_114_119, kd_114_120, kd_115_45, kd_115_70, kd_115_83, kd_115_85, kd_115_99, kd_115_105, kd_115_107, kd_115_109, kd_115_114, kd_115_118, kd_115_119, kd_115_120, kd_118_45, kd_118_70, kd_118_83, kd_118_85, kd_118_99, kd_118_105, kd_118_107, kd_118_109, kd_118_114, kd_118_115, kd_118_119, kd_118_120, kd_119_45, kd_119_70, kd_119_83, kd_119_85, kd_119_99, kd_119_105, kd_119_107, kd_119_109, kd_119_114, kd_119_115, kd_119_118, kd_119_120, kd_120_45, kd_120_70, kd_120_83, kd_120_85, kd_120_99, kd_120_105, kd_120_107, kd_120_109, kd_120_114, kd_120_115, kd_120_118, kd_120_119, if_false]
    rw [x] at f
    refine f _ ⟨s2.fr (Or.inl ⟨rfl, rfl⟩), fun j => by rw [gI_o (by omega), gI_o (by omega), gI_o (by omega)]; exact f2.2 j, fun q => absurd o2 q, fun _ => ?_⟩
    rw [gI_e, f2.1, if_pos (by unfold xEnds; simp [n])]
  · have c : xClash 83 σ = false := by unfold xClash; simp [kd_45_70, kd_45_83, kd_45_85, kd_45_99, kd_45_105, kd_45_107, kd_45_109, kd_45_114, kd_45_115, kd_45_118, kd_45_119, kd_45_120, kd_70_45, kd_70_83, kd_70_85, kd_70_99, kd_70_105, kd_70_107, kd_70_109, kd_70_114, kd_70_115, kd_70_118, kd_70_119, kd_70_120, kd_83_45, kd_83_70, kd_83_85, kd_83_99, kd_83_105, kd_83_107, kd_83_109, kd_83_114, kd_83_115, kd_83_118, kd_83_119, kd_83_120, kd_85_45, kd_85_70, kd_85_83, kd_85_99, kd_85_105, kd_85_107, kd_85_109, kd_85_114, kd_85_115, kd_85_118, kd_85_119, kd_85_120, kd_99_45, kd_99_70, kd_99_83, kd_99_85, kd_99_105, kd_99_107, kd_99_109, kd_99_114, kd_99_115, kd_99_118, kd_99_119, kd_99_120, kd_105_45, kd_105_70, kd_105_83, kd_105_85, kd_105_99, kd_105_107, kd_105_109, kd_105_114, kd_105_115, kd_105_118, kd_105_119, kd_105_120, kd_107_45, kd_107_70, kd_107_83, kd_107_85, kd_107_99, kd_107_105, kd_107_109, kd_107_114, kd_107_115, kd_107_118, kd_107_119, kd_107_120, kd_109_45, kd_109_70, kd_109_83, kd_109_85, kd_109_99, kd_109_105, kd_109_107, kd_109_114, kd_109_115, kd_109_118, kd_109_119, kd_109_120, kd_114_45, kd_114_70, kd_114_83, kd_114_85, kd_114_99, kd_114_105, kd_114_107, kd_114_109, kd_114_115, kd_114_118, kd_114_119, kd_114_120, kd_115_45, kd_115_70, kd_115_83, kd_115_85, kd_115_99, kd_115_105, kd_115_107, kd_115_109, kd_115_114, kd_115_118, kd_115_119, kd_115_120, kd_118_45, kd_118_70, kd_118_83, kd_118_85, kd_118_99, kd_118_105, kd_118_107, kd_118_109, kd_118_114, kd_118_115, kd_118_119, kd_118_120, kd_119_45, kd_119_70, kd_119_83, kd_119_85, kd_119_99, kd_119_105, kd_119_107, kd_119_109, kd_119_114, kd_119_115, kd_119_118, kd_119_120, kd_120_45, kd_120_70, kd_120_83, kd_120_85, kd_120_99, kd_120_105, kd_120_107, kd_120_109, kd_120_114, kd_120_115, kd_120_118, kd_120_119]
    have z : xFault h m e 83 a σ = 0 := by unfold xFault; simp [kd_45_70, kd_45_83, kd_45_85, kd_45_99, kd_45_105, kd_45_107, kd_45_109, kd_45_114, kd_45_115, kd_45_118, kd_45_119, kd_45_120, kd_70_45, kd_70_83, kd_70_85, kd_70_99, kd_70_105, kd_70_107, kd_70_109, kd_70_114, kd_70_115, kd_70_118, kd_70_119, kd_70_120, kd_83_45, kd_83_70, kd_83_85, kd_83_99, kd_83_105, kd_83_107, kd_83_109, kd_83_114, kd_83_115, kd_83_118, kd_83_119, kd_83_120, kd_85_45, kd_85_70, kd_85_83, kd_85_99, kd_85_105, kd_85_107, kd_85_109, kd_85_114, kd_85_115, kd_85_118, kd_85_119, kd_85_120, kd_99_45, kd_99_70, kd_99_83, kd_99_85, kd_99_105, kd_99_107, kd_99_109, kd_99_114, kd_99_115, kd_99_118, kd_99_119, kd_99_120, kd_105_45, kd_105_70, kd_105_83, kd_105_85, kd_105_99, kd_105_107, kd_105_109, kd_105_114, kd_105_115, kd_105_118, kd_105_119, kd_105_120, kd_107_45, kd_107_70, kd_107_83, kd_107_85, kd_107_99, kd_107_105, kd_107_109, kd_107_114, kd_107_115, kd_107_118, kd_107_119, kd_107_120, kd_109_45, kd_109_70, kd_109_83, kd_109_85, kd_109_99, kd_109_105, kd_109_107, kd_109_114, kd_109_115, kd_109_118, kd_109_119, kd_109_120, kd_114_45, kd_114_70, kd_114_83, kd_114_85, kd_114_99, kd_114_105, kd_114_107, kd_114_109, kd_114_115, kd_114_118, kd_114_119, kd_114_120, kd_115_45, kd_115_70, kd_115_83, kd_115_85, kd_115_99, kd_115_105, kd_115_107, kd_115_109, kd_115_114, kd_115_118, kd_115_119, kd_115_120, kd_118_45, kd_118_70, kd_118_83, kd_118_85, kd_118_99, kd_118_105, kd_118_107, kd_118_109, kd_118_114, kd_118_115, kd_118_119, kd_118_120, kd_119_45, kd_119_70, kd_119_83, kd_119_85, kd_119_99, kd_119_105, kd_119_107, kd_119_109, kd_119_114, kd_119_115, kd_119_118, kd_119_120, kd_120_45, kd_120_70, kd_120_83, kd_120_85, kd_120_99, kd_120_105, kd_120_107, kd_120_109, kd_120_114, kd_120_115, kd_120_118, kd_120_119]
    refine dn c z _ (fun h2 q => by rw [if_pos rfl]; exact f h2 q) (fun n h2 s2 f2 => ?_)
    rw [if_neg (by decide)]
    unfold LET
    rintro y rfl
    rw [one_act c z n (by decide)] at f
    have x : xAct h m 83 a (xDid σ code) = up (xDid σ code) 11 1 := by unfold xAct; simp only [kd_45_70, kd_45_83, kd_45_85, kd_45_99, kd_45_105, kd_45_107, kd_45_109, kd_45_114, kd_45_115, kd_45_118, kd_45_119, kd_45_120, kd_70_45, kd_70_83, kd_70_85, kd_70_99, kd_70_105, kd_70_107, kd_70_109, kd_70_114, kd_70_115, kd_70_118, kd_70_119, kd_70_120, kd_83_45, kd_83_70, kd_83_85, kd_83_99, kd_83_105, kd_83_107, kd_83_109, kd_83_114, kd_83_115, kd_83_118, kd_83_119, kd_83_120, kd_85_45, kd_85_70, kd_85_83, kd_85_99, kd_85_105, kd_85_107, kd_85_109, kd_85_114, kd_85_115, kd_85_118, kd_85_119, kd_85_120, kd_99_45, kd_99_70, kd_99_83, kd_99_85, kd_99_105, kd_99_107, kd_99_109, kd_99_114, kd_99_115, kd_99_118, kd_99_119, kd_99_120, kd_105_45, kd_105_70, kd_105_83, kd_105_85, kd_105_99, kd_105_107, kd_105_109, kd_105_114, kd_105_115, kd_105_118, kd_105_119, kd_105_120, kd_107_45, kd_107_70, kd_107_83, kd_107_85, kd_107_99, kd_107_105, kd_107_109, kd_107_114, kd_107_115, kd_107_118, kd_107_119, kd_107_120, kd_109_45, kd_109_70, kd_109_83, kd_109_85, kd_109_99, kd_109_105, kd_109_107, kd_109_114, kd_109_115, kd_109_118, kd_109_119, kd_109_120, kd_114_45, kd_114_70, kd_114_83, kd_114_85, kd_114_99, kd_114_105, kd_114_107, kd_114_109, kd_114_115, kd_114_118, kd_114_119, kd_114_120, kd_115_45, kd_115_70, kd_115_83, kd_115_85, kd_115_99, kd_115_105, kd_115_107, kd_115_109, kd_115_114, kd_115_118, kd_115_119, kd_115_120, kd_118_45, kd_118_70, kd_118_83, kd_118_85, kd_118_99, kd_118_105, kd_118_107, kd_118_109, kd_118_114, kd_118_115, kd_118_119, kd_118_120, kd_119_45, kd_119_70, kd_119_83, kd_119_85, kd_119_99, kd_119_105, kd_119_107, kd_119_109, kd_119_114, kd_119_115, kd_119_118, kd_119_120, kd_120_45, kd_120_70, kd_120_83, kd_120_85, kd_120_99, kd_120_105, kd_120_107, kd_120_109, kd_120_114, kd_120_115, kd_120_118, kd_120_119, if_false, if_true]
    rw [x] at f
    refine f _ ⟨(s2.fr (Or.inl ⟨rfl, rfl⟩)).loc (fun j _ h2 _ => up_n h2), fun j => by rw [gI_o (by omega), gI_o (by omega), gI_o (by omega)]; exact f2.2 j, fun _ => gI_e, fun q => by rw [up_e] at q; cases q⟩
  · exact ch_w B s w o (Or.inr (Or.inr (Or.inr ⟨rfl, ha⟩))) f
  · exact snd_w B s w o (Or.inr (Or.inr ⟨rfl, ha⟩)) f
  · exact snd_w B s w o (Or.inr (Or.inl ⟨rfl, ha⟩)) f
  · have c : xClash 70 σ = false := by unfold xClash; simp [kd_45_70, kd_45_83, kd_45_85, kd_45_99, kd_45_105, kd_45_107, kd_45_109, kd_45_114, kd_45_115, kd_45_118, kd_45_119, kd_45_120, kd_70_45, kd_70_83, kd_70_85, kd_70_99, kd_70_105, kd_70_107, kd_70_109, kd_70_114, kd_70_115, kd_70_118, kd_70_119, kd_70_120, kd_83_45, kd_83_70, kd_83_85, kd_83_99, kd_83_105, kd_83_107, kd_83_109, kd_83_114, kd_83_115, kd_83_118, kd_83_119, kd_83_120, kd_85_45, kd_85_70, kd_85_83, kd_85_99, kd_85_105, kd_85_107, kd_85_109, kd_85_114, kd_85_115, kd_85_118, kd_85_119, kd_85_120, kd_99_45, kd_99_70, kd_99_83, kd_99_85, kd_99_105, kd_99_107, kd_99_109, kd_99_114, kd_99_115, kd_99_118, kd_99_119, kd_99_120, kd_105_45, kd_105_70, kd_105_83, kd_105_85, kd_105_99, kd_105_107, kd_105_109, kd_105_114, kd_105_115, kd_105_118, kd_105_119, kd_105_120, kd_107_45, kd_107_70, kd_107_83, kd_107_85, kd_107_99, kd_107_105, kd_107_109, kd_107_114, kd_107_115, kd_107_118, kd_107_119, kd_107_120, kd_109_45, kd_109_70, kd_109_83, kd_109_85, kd_109_99, kd_109_105, kd_109_107, kd_109_114, kd_109_115, kd_109_118, kd_109_119, kd_109_120, kd_114_45, kd_114_70, kd_114_83, kd_114_85, kd_114_99, kd_114_105, kd_114_107, kd_114_109, kd_114_115, kd_114_118, kd_114_119, kd_114_120, kd_115_45, kd_115_70, kd_115_83, kd_115_85, kd_115_99, kd_115_105, kd_115_107, kd_115_109, kd_115_114, kd_115_118, kd_115_119, kd_115_120, kd_118_45, kd_118_70, kd_118_83, kd_118_85, kd_118_99, kd_118_105, kd_118_107, kd_118_109, kd_118_114, kd_118_115, kd_118_119, kd_118_120, kd_119_45, kd_119_70, kd_119_83, kd_119_85, kd_119_99, kd_119_105, kd_119_107, kd_119_109, kd_119_114, kd_119_115, kd_119_118, kd_119_120, kd_120_45, kd_120_70, kd_120_83, kd_120_85, kd_120_99, kd_120_105, kd_120_107, kd_120_109, kd_120_114, kd_120_115, kd_120_118, kd_120_119]
    have z : xFault h m e 70 a σ = 0 := by unfold xFault; simp [kd_45_70, kd_45_83, kd_45_85, kd_45_99, kd_45_105, kd_45_107, kd_45_109, kd_45_114, kd_45_115, kd_45_118, kd_45_119, kd_45_120, kd_70_45, kd_70_83, kd_70_85, kd_70_99, kd_70_105, kd_70_107, kd_70_109, kd_70_114, kd_70_115, kd_70_118, kd_70_119, kd_70_120, kd_83_45, kd_83_70, kd_83_85, kd_83_99, kd_83_105, kd_83_107, kd_83_109, kd_83_114, kd_83_115, kd_83_118, kd_83_119, kd_83_120, kd_85_45, kd_85_70, kd_85_83, kd_85_99, kd_85_105, kd_85_107, kd_85_109, kd_85_114, kd_85_115, kd_85_118, kd_85_119, kd_85_120, kd_99_45, kd_99_70, kd_99_83, kd_99_85, kd_99_105, kd_99_107, kd_99_109, kd_99_114, kd_99_115, kd_99_118, kd_99_119, kd_99_120, kd_105_45, kd_105_70, kd_105_83, kd_105_85, kd_105_99, kd_105_107, kd_105_109, kd_105_114, kd_105_115, kd_105_118, kd_105_119, kd_105_120, kd_107_45, kd_107_70, kd_107_83, kd_107_85, kd_107_99, kd_107_105, kd_107_109, kd_107_114, kd_107_115, kd_107_118, kd_107_119, kd_107_120, kd_109_45, kd_109_70, kd_109_83, kd_109_85, kd_109_99, kd_109_105, kd_109_107, kd_109_114, kd_109_115, kd_109_118, kd_109_119, kd_109_120, kd_114_45, kd_114_70, kd_114_83, kd_114_85, kd_114_99, kd_114_105, kd_114_107, kd_114_109, kd_114_115, kd_114_118, kd_114_119, kd_114_120, kd_115_45, kd_115_70, kd_115_83, kd_115_85, kd_115_99, kd_115_105, kd_115_107, kd_115_109, kd_115_114, kd_115_118, kd_115_119, kd_115_120, kd_118_45, kd_118_70, kd_118_83, kd_118_85, kd_118_99, kd_118_105, kd_118_107, kd_118_109, kd_118_114, kd_118_115, kd_118_119, kd_118_120, kd_119_45, kd_119_70, kd_119_83, kd_119_85, kd_119_99, kd_119_105, kd_119_107, kd_119_109, kd_119_114, kd_119_115, kd_119_118, kd_119_120, kd_120_45, kd_120_70, kd_120_83, kd_120_85, kd_120_99, kd_120_105, kd_120_107, kd_120_109, kd_120_114, kd_120_115, kd_120_118, kd_120_119]
    refine dn c z _ (fun h2 q => by rw [if_pos rfl]; exact f h2 q) (fun n h2 s2 f2 => ?_)
    rw [if_neg (by decide)]
    unfold LET
    rintro y rfl
    rw [one_act c z n (by decide)] at f
    have o2 : xDid σ code 11 = 0 := by rw [did_o (by omega) (by omega)]; exact o
    have x : xAct h m 70 a (xDid σ code) = up (xDid σ code) 1 (xDid σ code 1 ||| (1 <<< (a &&& 31))) := by unfold xAct; simp only [kd_45_70, kd_45_83, kd_45_85, kd_45_99, kd_45_105, kd_45_107, kd_45_109, kd_45_114, kd_45_115, kd_45_118, kd_45_119, kd_45_120, kd_70_45, kd_70_83, kd_70_85, kd_70_99, kd_70_105, kd_70_107, kd_70_109, kd_70_114, kd_70_115, kd_70_118, kd_70_119, kd_70_120, kd_83_45, kd_83_70, kd_83_85, kd_83_99, kd_83_105, kd_83_107, kd_83_109, kd_83_114, kd_83_115, kd_83_118, kd_83_119, kd_83_120, kd_85_45, kd_85_70, kd_85_83, kd_85_99, kd_85_105, kd_85_107, kd_85_109, kd_85_114, kd_85_115, kd_85_118, kd_85_119, kd_85_120, kd_99_45, kd_99_70, kd_99_83, kd_99_85, kd_99_105, kd_99_107, kd_99_109, kd_99_114, kd_99_115, kd_99_118, kd_99_119, kd_99_120, kd_105_45, kd_105_70, kd_105_83, kd_105_85, kd_105_99, kd_105_107, kd_105_109, kd_105_114, kd_105_115, kd_105_118, kd_105_119, kd_105_120, kd_107_45, kd_107_70, kd_107_83, kd_107_85, kd_107_99, kd_107_105, kd_107_109, kd_107_114, kd_107_115, kd_107_118, kd_107_119, kd_107_120, kd_109_45, kd_109_70, kd_109_83, kd_109_85, kd_109_99, kd_109_105, kd_109_107, kd_109_114, kd_109_115, kd_109_118, kd_109_119, kd_109_120, kd_114_45, kd_114_70, kd_114_83, kd_114_85, kd_114_99, kd_114_105, kd_114_107, kd_114_109, kd_114_115, kd_114_118, kd_114_119, kd_114_120, kd_115_45, kd_115_70, kd_115_83, kd_115_85, kd_115_99, kd_115_105, kd_115_107, kd_115_109, kd_115_114, kd_115_118, kd_115_119, kd_115_120, kd_118_45, kd_118_70, kd_118_83, kd_118_85, kd_118_99, kd_118_105, kd_118_107, kd_118_109, kd_118_114, kd_118_115, kd_118_119, kd_118_120, kd_119_45, kd_119_70, kd_119_83, kd_119_85, kd_119_99, kd_119_105, kd_119_107, kd_119_109, kd_119_114, kd_119_115, kd_119_118, kd_119_120, kd_120_45, kd_120_70, kd_120_83, kd_120_85, kd_120_99, kd_120_105, kd_120_107, kd_120_109, kd_120_114, kd_120_115, kd_120_118, kd_120_119, if_false, if_true]
    rw [x] at f
    have g : gI h2 11 0 35 = xDid σ code 1 := s2.2.1 1 (by omega) (by omega) (by omega)
    rw [g]
    exact f _ (AA.of (s2.s (i := 1) (by omega) (by omega) (by omega) (by omega)) (f2.f (by decide)) (by rw [up_n (by omega)]; exact o2) (by decide))
  · have c : xClash 85 σ = false := by unfold xClash; simp [kd_45_70, kd_45_83, kd_45_85, kd_45_99, kd_45_105, kd_45_107, kd_45_109, kd_45_114, kd_45_115, kd_45_118, kd_45_119, kd_45_120, kd_70_45, kd_70_83, kd_70_85, kd_70_99, kd_70_105, kd_70_107, kd_70_109, kd_70_114, kd_70_115, kd_70_118, kd_70_119, kd_70_120, kd_83_45, kd_83_70, kd_83_85, kd_83_99, kd_83_105, kd_83_107, kd_83_109, kd_83_114, kd_83_115, kd_83_118, kd_83_119, kd_83_120, kd_85_45, kd_85_70, kd_85_83, kd_85_99, kd_85_105, kd_85_107, kd_85_109, kd_85_114, kd_85_115, kd_85_118, kd_85_119, kd_85_120, kd_99_45, kd_99_70, kd_99_83, kd_99_85, kd_99_105, kd_99_107, kd_99_109, kd_99_114, kd_99_115, kd_99_118, kd_99_119, kd_99_120, kd_105_45, kd_105_70, kd_105_83, kd_105_85, kd_105_99, kd_105_107, kd_105_109, kd_105_114, kd_105_115, kd_105_118, kd_105_119, kd_105_120, kd_107_45, kd_107_70, kd_107_83, kd_107_85, kd_107_99, kd_107_105, kd_107_109, kd_107_114, kd_107_115, kd_107_118, kd_107_119, kd_107_120, kd_109_45, kd_109_70, kd_109_83, kd_109_85, kd_109_99, kd_109_105, kd_109_107, kd_109_114, kd_109_115, kd_109_118, kd_109_119, kd_109_120, kd_114_45, kd_114_70, kd_114_83, kd_114_85, kd_114_99, kd_114_105, kd_114_107, kd_114_109, kd_114_115, kd_114_118, kd_114_119, kd_114_120, kd_115_45, kd_115_70, kd_115_83, kd_115_85, kd_115_99, kd_115_105, kd_115_107, kd_115_109, kd_115_114, kd_115_118, kd_115_119, kd_115_120, kd_118_45, kd_118_70, kd_118_83, kd_118_85, kd_118_99, kd_118_105, kd_118_107, kd_118_109, kd_118_114, kd_118_115, kd_118_119, kd_118_120, kd_119_45, kd_119_70, kd_119_83, kd_119_85, kd_119_99, kd_119_105, kd_119_107, kd_119_109, kd_119_114, kd_119_115, kd_119_118, kd_119_120, kd_120_45, kd_120_70, kd_120_83, kd_120_85, kd_120_99, kd_120_105, kd_120_107, kd_120_109, kd_120_114, kd_120_115, kd_120_118, kd_120_119]
    have z : xFault h m e 85 a σ = 0 := by unfold xFault; simp [kd_45_70, kd_45_83, kd_45_85, kd_45_99, kd_45_105, kd_45_107, kd_45_109, kd_45_114, kd_45_115, kd_45_118, kd_45_119, kd_45_120, kd_70_45, kd_70_83, kd_70_85, kd_70_99, kd_70_105, kd_70_107, kd_70_109, kd_70_114, kd_70_115, kd_70_118, kd_70_119, kd_70_120, kd_83_45, kd_83_70, kd_83_85, kd_83_99, kd_83_105, kd_83_107, kd_83_109, kd_83_114, kd_83_115, kd_83_118, kd_83_119, kd_83_120, kd_85_45, kd_85_70, kd_85_83, kd_85_99, kd_85_105, kd_85_107, kd_85_109, kd_85_114, kd_85_115, kd_85_118, kd_85_119, kd_85_120, kd_99_45, kd_99_70, kd_99_83, kd_99_85, kd_99_105, kd_99_107, kd_99_109, kd_99_114, kd_99_115, kd_99_118, kd_99_119, kd_99_120, kd_105_45, kd_105_70, kd_105_83, kd_105_85, kd_105_99, kd_105_107, kd_105_109, kd_105_114, kd_105_115, kd_105_118, kd_105_119, kd_105_120, kd_107_45, kd_107_70, kd_107_83, kd_107_85, kd_107_99, kd_107_105, kd_107_109, kd_107_114, kd_107_115, kd_107_118, kd_107_119, kd_107_120, kd_109_45, kd_109_70, kd_109_83, kd_109_85, kd_109_99, kd_109_105, kd_109_107, kd_109_114, kd_109_115, kd_109_118, kd_109_119, kd_109_120, kd_114_45, kd_114_70, kd_114_83, kd_114_85, kd_114_99, kd_114_105, kd_114_107, kd_114_109, kd_114_115, kd_114_118, kd_114_119, kd_114_120, kd_115_45, kd_115_70, kd_115_83, kd_115_85, kd_115_99, kd_115_105, kd_115_107, kd_115_109, kd_115_114, kd_115_118, kd_115_119, kd_115_120, kd_118_45, kd_118_70, kd_118_83, kd_118_85, kd_118_99, kd_118_105, kd_118_107, kd_118_109, kd_118_114, kd_118_115, kd_118_119, kd_118_120, kd_119_45, kd_119_70, kd_119_83, kd_119_85, kd_119_99, kd_119_105, kd_119_107, kd_119_109, kd_119_114, kd_119_115, kd_119_118, kd_119_120, kd_120_45, kd_120_70, kd_120_83, kd_120_85, kd_120_99, kd_120_105, kd_120_107, kd_120_109, kd_120_114, kd_120_115, kd_120_118, kd_120_119]
    refine dn c z _ (fun h2 q => by rw [if_pos rfl]; exact f h2 q) (fun n h2 s2 f2 => ?_)
    rw [if_neg (by decide)]
    unfold LET
    rintro y rfl
    rw [one_act c z n (by decide)] at f
    have o2 : xDid σ code 11 = 0 := by rw [did_o (by omega) (by omega)]; exact o
    have x : xAct h m 85 a (xDid σ code) = up (xDid σ code) 1 (xDid σ code 1 &&& ((1 <<< (a &&& 31)) ^^^ (-1))) := by unfold xAct; simp only [kd_45_70, kd_45_83, kd_45_85, kd_45_99, kd_45_105, kd_45_107, kd_45_109, kd_45_114, kd_45_115, kd_45_118, kd_45_119, kd_45_120, kd_70_45, kd_70_83, kd_70_85, kd_70_99, kd_70_105, kd_70_107, kd_70_109, kd_70_114, kd_70_115, kd_70_118, kd_70_119, kd_70_120, kd_83_45, kd_83_70, kd_83_85, kd_83_99, kd_83_105, kd_83_107, kd_83_109, kd_83_114, kd_83_115, kd_83_118, kd_83_119, kd_83_120, kd_85_45, kd_85_70, kd_85_83, kd_85_99, kd_85_105, kd_85_107, kd_85_109, kd_85_114, kd_85_115, kd_85_118, kd_85_119, kd_85_120, kd_99_45, kd_99_70, kd_99_83, kd_99_85, kd_99_105, kd_99_107, kd_99_109, kd_99_114, kd_99_115, kd_99_118, kd_99_119, kd_99_120, kd_105_45, kd_105_70, kd_105_83, kd_105_85, kd_105_99, kd_105_107, kd_105_109, kd_105_114, kd_105_115, kd_105_118, kd_105_119, kd_105_120, kd_107_45, kd_107_70, kd_107_83, kd_107_85, kd_107_99, kd_107_105, kd_107_109, kd_107_114, kd_107_115, kd_107_118, kd_107_119, kd_107_120, kd_109_45, kd_109_70, kd_109_83, kd_109_85, kd_109_99, kd_109_105, kd_109_107, kd_109_114, kd_109_115, kd_109_118, kd_109_119, kd_109_120, kd_114_45, kd_114_70, kd_114_83, kd_114_85, kd_114_99, kd_114_105, kd_114_107, kd_114_109, kd_114_115, kd_114_118, kd_114_119, kd_114_120, kd_115_45, kd_115_70, kd_115_83, kd_115_85, kd_115_99, kd_115_105, kd_115_107, kd_115_109, kd_115_114, kd_115_118, kd_115_119, kd_115_120, kd_118_45, kd_118_70, kd_118_83, kd_118_85, kd_118_99, kd_118_105, kd_118_107, kd_118_109, kd_118_114, kd_118_115, kd_118_119, kd_118_120, kd_119_45, kd_119_70, kd_119_83, kd_119_85, kd_119_99, kd_119_105, kd_119_107, kd_119_109, kd_119_114, kd_119_115, kd_119_118, kd_119_120, kd_120_45, kd_120_70, kd_120_83, kd_120_85, kd_120_99, kd_120_105, kd_120_107, kd_120_109, kd_120_114, kd_120_115, kd_120_118, kd_120_119, if_false, if_true]
    rw [x] at f
    have g : gI h2 11 0 35 = xDid σ code 1 := s2.2.1 1 (by omega) (by omega) (by omega)
    rw [g]
    exact f _ (AA.of (s2.s (i := 1) (by omega) (by omega) (by omega) (by omega)) (f2.f (by decide)) (by rw [up_n (by omega)]; exact o2) (by decide))
  · exact snd_w B s w o (Or.inl rfl) f
  · exact absurd rfl k5
/-- at the level k: script s, rule r, action a -/
def MC (h h0 : Hp) (σ : Nat → Int32) (k : Nat) (s r a : Int32) (h' : Hp) : Prop := MS h h0 σ h' ∧ gI h' 11 0 29 = nI k ∧ gI h' 58 0 k = s ∧ gI h' 59 0 k = r ∧ gI h' 60 0 k = a
def FR (h' h'' : Hp) (k : Nat) : Prop := ∀ j, j < k → gI h'' 58 0 j = gI h' 58 0 j ∧ gI h'' 59 0 j = gI h' 59 0 j ∧ gI h'' 60 0 j = gI h' 60 0 j
theorem FR.rfl {h : Hp} {k : Nat} : FR h h k := fun _ _ => ⟨Eq.refl _, Eq.refl _, Eq.refl _⟩
theorem FR.trans {h h' h'' : Hp} {k : Nat} (a : FR h h' k) (b : FR h' h'' k) : FR h h'' k := fun j hj => ⟨(b j hj).1.trans (a j hj).1, (b j hj).2.1.trans (a j hj).2.1, (b j hj).2.2.trans (a j hj).2.2⟩
/-- at the end of a script -/
def ME (h h0 : Hp) (σ : Nat → Int32) (k : Nat) (h' h'' : Hp) : Prop := MS h h0 σ h'' ∧ FR h' h'' k ∧ (σ 11 ≠ 0 → gI h'' 11 0 29 = -1) ∧ (σ 11 = 0 → gI h'' 11 0 29 = nI k - 1)
/-- at the end of a rule's actions -/
def MA (h h0 : Hp) (x : (Nat → Int32) × Bool) (k : Nat) (s : Int32) (r : Nat) (h' h'' : Hp) : Prop := FR h' h'' k ∧ (x.1 11 ≠ 0 → MS h h0 x.1 h'' ∧ gI h'' 11 0 29 = -1) ∧ (x.1 11 = 0 → x.2 = true → MS h h0 x.1 h'' ∧ gI h'' 11 0 29 = nI k - 1) ∧ (x.1 11 = 0 → x.2 = false → MC h h0 x.1 k s (nI (r + 1)) (-1) h'')
end
theorem nI_nm1 {i : Nat} (hi : i < 2 ^ 31) : ¬ nI i = -1 := fun q => by
  have := congrArg Int32.toInt q
  rw [nI_toInt hi] at this
  have : (i : Int) = -1 := this
  omega
section
variable {h h0 : Hp} {m nm nt : Nat} {P : Hp → Prop} {Q : Hp → Prop}
/-- the loop's one step, where an action is next -/
theorem step_act {σ : Nat → Int32} {h' : Hp} {k s r cn i nr : Nat} (hP : ∀ h', wp_X11_runs_b87F (nI m) Q P h' → P h') (B : BF h m nm nt) (hk : k ≤ 4) (hs : s < 4) (hr : r < nr) (h12 : nr ≤ 12) (e53 : gI h 53 0 s = nI nr) (e55 : gI h 55 0 (12 * s + r) = nI cn) (hc : cn ≤ 5)
    (c : MC h h0 σ k (nI s) (nI r) (nI i) h') (hi : i ≤ cn)
    (f1 : i = cn → ∀ h'', MC h h0 σ k (nI s) (nI (r + 1)) (-1) h'' → FR h' h'' k → P h'')
    (f2 : i < cn → ∀ h'', MC h h0 σ k (nI s) (nI r) (nI (i + 1)) h'' → FR h' h'' k → wp_X11_acts (gI h 56 0 (5 * (12 * s + r) + i)) (gI h 57 0 (5 * (12 * s + r) + i)) (nI m) (1000 * nI s + 10 * nI r + nI i) h'' P) : P h' := by
  obtain ⟨s1, d1, g58, g59, g60⟩ := c
  apply hP
  unfold wp_X11_runs_b87F wp_X11_runs_b345 LET
  simp only [forall_eq]
  have ck : (nI k).toNatClampNeg = k := nI_clamp (by omega)
  have cs : (nI s).toNatClampNeg = s := nI_clamp (by omega)
  have v6 : vp_in (nI k) 6 := vp_in_nI (by omega) (by decide)
  rw [d1, if_neg (nI_pos (by omega)), ck, g58, g59, g60, cs, s1.I 53 0 s, e53]
  refine ⟨v6, vp_in_nI hs (by decide), ?_⟩
  rw [if_pos (nI_lt hr (by omega)), if_neg (nI_nm1 (by omega)), ix12, nI_clamp (show 12 * s + r < 2 ^ 31 by omega), s1.I 55 0, e55]
  refine ⟨vp_in_nI (by omega) (by decide), ?_⟩
  by_cases e : i = cn
  · rw [if_pos (by rw [e])]
    rw [gI_o (show (11 : Nat) ≠ 59 ∨ _ from Or.inl (by decide)), d1, ck, nI_1]
    refine ⟨v6, f1 e _ ⟨(s1.fr (Or.inr (Or.inr (Or.inl rfl)))).fr (Or.inr (Or.inr (Or.inr rfl))), ?_, ?_, ?_, ?_⟩ (fun j hj => ?_)⟩
    · rw [gI_o (by omega), gI_o (by omega)]; exact d1
    · rw [gI_o (by omega), gI_o (by omega)]; exact g58
    · rw [gI_o (by omega), gI_e]
    · rw [gI_e]
    · rw [gI_o (by omega), gI_o (by omega), gI_o (by omega), gI_o (by omega), gI_o (by omega), gI_o (by omega)]; exact ⟨rfl, rfl, rfl⟩
  · rw [if_neg (nI_ne (by omega) (by omega) e), ix5, nI_clamp (show 5 * (12 * s + r) + i < 2 ^ 31 by omega), nI_1]
    rw [gI_o (show (11 : Nat) ≠ 60 ∨ _ from Or.inl (by decide)), d1, ck, gI_o (show (59 : Nat) ≠ 60 ∨ _ from Or.inl (by decide)), g59, gI_o (show (56 : Nat) ≠ 60 ∨ _ from Or.inl (by decide)), gI_o (show (57 : Nat) ≠ 60 ∨ _ from Or.inl (by decide)), s1.I 56 0, s1.I 57 0]
    refine ⟨vp_in_nI (by omega) (by decide), v6, f2 (by omega) _ ⟨s1.fr (Or.inr (Or.inr (Or.inr rfl))), ?_, ?_, ?_, ?_⟩ (fun j hj => ?_)⟩
    · rw [gI_o (by omega)]; exact d1
    · rw [gI_o (by omega)]; exact g58
    · rw [gI_o (by omega)]; exact g59
    · rw [gI_e]
    · rw [gI_o (by omega), gI_o (by omega), gI_o (by omega)]; exact ⟨rfl, rfl, rfl⟩
theorem mact_l {e k s r cn q nr : Nat} {R : Int32 → (Nat → Int32) → Nat → Int32} (hP : ∀ h', wp_X11_runs_b87F (nI m) Q P h' → P h') (B : BF h m nm nt) (hk : k + e = 4) (hs : s < 4) (hr : r < nr) (h12 : nr ≤ 12) (e53 : gI h 53 0 s = nI nr) (E : RE h q (12 * s + r) cn)
    (hRX : ∀ a σ', inN a 4 → e ≠ 0 → XW h m nm σ' → XW h m nm (R a σ'))
    (hRS : ∀ a σ' h', inN a 4 → e ≠ 0 → MC h h0 σ' (k + 1) a 0 (-1) h' → XW h m nm σ' → σ' 11 = 0 → (∀ h'', ME h h0 (R a σ') (k + 1) h' h'' → P h'') → P h') :
    ∀ n i σ h', i + n = cn → MC h h0 σ k (nI s) (nI r) (nI i) h' → XW h m nm σ → σ 11 = 0 → (∀ h'', MA h h0 (xActs h m e R (12 * s + r) (1000 * nI s + 10 * nI r) n i σ) k (nI s) r h' h'' → P h'') → P h' := by
  obtain ⟨E1, E2, E3, E4⟩ := E
  intro n
  induction n with
  | zero =>
    intro i σ h' hi c w o f
    refine step_act hP B (by omega) hs hr h12 e53 E3 E1 c (by omega) (fun _ h'' c'' fr => ?_) (fun q => by omega)
    exact f h'' ⟨fr, fun q => absurd o q, fun _ q => (by cases q), fun _ _ => c''⟩
  | succ n ih =>
    intro i σ h' hi c w o f
    refine step_act hP B (by omega) hs hr h12 e53 E3 E1 c (by omega) (fun q => by omega) (fun _ h2 c2 fr2 => ?_)
    have v := (E4 i (by omega)).2.2
    generalize hK : gI h 56 0 (5 * (12 * s + r) + i) = kk at *
    generalize hA : gI h 57 0 (5 * (12 * s + r) + i) = a at *
    generalize hC : 1000 * nI s + 10 * nI r + nI i = code at *
    have fw : XW h m nm (xOne h m e R kk a code σ) := w.one v (fun k5 e0 w' => hRX _ _ (a105 (k5 ▸ v)) e0 w')
    have fx : xActs h m e R (12 * s + r) (1000 * nI s + 10 * nI r) (n + 1) i σ = if xEnds kk σ = true then (xOne h m e R kk a code σ, true) else xActs h m e R (12 * s + r) (1000 * nI s + 10 * nI r) n (i + 1) (xOne h m e R kk a code σ) := by
      show (if σ 11 ≠ 0 then _ else _) = _
      rw [if_neg (fun q => q o), hK, hA, hC]
    rw [fx] at f
    obtain ⟨s2, d2, g58, g59, g60⟩ := id c2
    -- on with the next action
    have go : ∀ h3, xEnds kk σ = false → xOne h m e R kk a code σ 11 = 0 → MC h h0 (xOne h m e R kk a code σ) k (nI s) (nI r) (nI (i + 1)) h3 → FR h2 h3 k → P h3 := fun h3 x o3 c3 fr3 => by
      rw [if_neg (by rw [x]; decide)] at f
      exact ih (i + 1) _ h3 (by omega) c3 fw o3 (fun h4 q => f h4 ⟨(fr2.trans fr3).trans q.1, q.2⟩)
    -- all is over
    have over : ∀ h3, xOne h m e R kk a code σ 11 ≠ 0 → MS h h0 (xOne h m e R kk a code σ) h3 → gI h3 11 0 29 = -1 → FR h2 h3 k → P h3 := fun h3 o3 s3 d3 fr3 => by
      have : (if xEnds kk σ = true then (xOne h m e R kk a code σ, true) else xActs h m e R (12 * s + r) (1000 * nI s + 10 * nI r) n (i + 1) (xOne h m e R kk a code σ)).1 = xOne h m e R kk a code σ := by
        split
        · rfl
        · rw [xActs_over o3]
      refine f h3 ⟨fr2.trans fr3, fun _ => ?_, fun q => ?_, fun q => ?_⟩
      · rw [this]; exact ⟨s3, d3⟩
      · rw [this] at q; exact absurd q o3
      · rw [this] at q; exact absurd q o3
    by_cases k5 : kk = 105
    · subst k5
      have x115 : xEnds 105 σ = false := by unfold xEnds; simp [kd_45_70, kd_45_83, kd_45_85, kd_45_99, kd_45_105, kd_45_107, kd_45_109, kd_45_114, kd_45_115, kd_45_118, kd_45_119, kd_45_120, kd_70_45, kd_70_83, kd_70_85, kd_70_99, kd_70_105, kd_70_107, kd_70_109, kd_70_114, kd_70_115, kd_70_118, kd_70_119, kd_70_120, kd_83_45, kd_83_70, kd_83_85, kd_83_99, kd_83_105, kd_83_107, kd_83_109, kd_83_114, kd_83_115, kd_83_118, kd_83_119, kd_83_120, kd_85_45, kd_85_70, kd_85_83, kd_85_99, kd_85_105, kd_85_107, kd_85_109, kd_85_114, kd_85_115, kd_85_118, kd_85_119, kd_85_120, kd_99_45, kd_99_70, kd_99_83, kd_99_85, kd_99_105, kd_99_107, kd_99_109, kd_99_114, kd_99_115, kd_99_118, kd_99_119, kd_99_120, kd_105_45, kd_105_70, kd_105_83, kd_105_85, kd_105_99, kd_105_107, kd_105_109, kd_105_114, kd_105_115, kd_105_118, kd_105_119, kd_105_120, kd_107_45, kd_107_70, kd_107_83, kd_107_85, kd_107_99, kd_107_105, kd_107_109, kd_107_114, kd_107_115, kd_107_118, kd_107_119, kd_107_120, kd_109_45, kd_109_70, kd_109_83, kd_109_85, kd_109_99, kd_109_105, kd_109_107, kd_109_114, kd_109_115, kd_109_118, kd_109_119, kd_109_120, kd_114_45, kd_114_70, kd_114_83, kd_114_85, kd_114_99, kd_114_105, kd_114_107, kd_114_109, kd_114_115, kd_114_118, kd_114_119, kd_114_120, kd_115_45, kd_115_70, kd_115_83, kd_115_85, kd_115_99, kd_115_105, kd_115_107, kd_115_109, kd_115_114, kd_115_118, kd_115_119, kd_115_120, kd_118_45, kd_118_70, kd_118_83, kd_118_85, kd_118_99, kd_118_105, kd_118_107, kd_118_109, kd_118_114, kd_118_115, kd_118_119, kd_118_120, kd_119_45, kd_119_70, kd_119_83, kd_119_85, kd_119_99, kd_119_105, kd_119_107, kd_119_109, kd_119_114, kd_119_115, kd_119_118, kd_119_120, kd_120_45, kd_120_70, kd_120_83, kd_120_85, kd_120_99, kd_120_105, kd_120_107, kd_120_109, kd_120_114, kd_120_115, kd_120_118, kd_120_119]
      have c0 : xClash 105 σ = false := by unfold xClash; simp [kd_45_70, kd_45_83, kd_45_85, kd_45_99, kd_45_105, kd_45_107, kd_45_109, kd_45_114, kd_45_115, kd_45_118, kd_45_119, kd_45_120, kd_70_45, kd_70_83, kd_70_85, kd_70_99, kd_70_105, kd_70_107, kd_70_109, kd_70_114, kd_70_115, kd_70_118, kd_70_119, kd_70_120, kd_83_45, kd_83_70, kd_83_85, kd_83_99, kd_83_105, kd_83_107, kd_83_109, kd_83_114, kd_83_115, kd_83_118, kd_83_119, kd_83_120, kd_85_45, kd_85_70, kd_85_83, kd_85_99, kd_85_105, kd_85_107, kd_85_109, kd_85_114, kd_85_115, kd_85_118, kd_85_119, kd_85_120, kd_99_45, kd_99_70, kd_99_83, kd_99_85, kd_99_105, kd_99_107, kd_99_109, kd_99_114, kd_99_115, kd_99_118, kd_99_119, kd_99_120, kd_105_45, kd_105_70, kd_105_83, kd_105_85, kd_105_99, kd_105_107, kd_105_109, kd_105_114, kd_105_115, kd_105_118, kd_105_119, kd_105_120, kd_107_45, kd_107_70, kd_107_83, kd_107_85, kd_107_99, kd_107_105, kd_107_109, kd_107_114, kd_107_115, kd_107_118, kd_107_119, kd_107_120, kd_109_45, kd_109_70, kd_109_83, kd_109_85, kd_109_99, kd_109_105, kd_109_107, kd_109_114, kd_109_115, kd_109_118, kd_109_119, kd_109_120, kd_114_45, kd_114_70, kd_114_83, kd_114_85, kd_114_99, kd_114_105, kd_114_107, kd_114_109, kd_114_115, kd_114_118, kd_114_119, kd_114_120, kd_115_45, kd_115_70, kd_115_83, kd_115_85, kd_115_99, kd_115_105, kd_115_107, kd_115_109, kd_115_114, kd_115_118, kd_115_119, kd_115_120, kd_118_45, kd_118_70, kd_118_83, kd_118_85, kd_118_99, kd_118_105, kd_118_107, kd_118_109, kd_118_114, kd_118_115, kd_118_119, kd_118_120, kd_119_45, kd_119_70, kd_119_83, kd_119_85, kd_119_99, kd_119_105, kd_119_107, kd_119_109, kd_119_114, kd_119_115, kd_119_118, kd_119_120, kd_120_45, kd_120_70, kd_120_83, kd_120_85, kd_120_99, kd_120_105, kd_120_107, kd_120_109, kd_120_114, kd_120_115, kd_120_118, kd_120_119]
      unfold wp_X11_acts
      simp only [kd_45_70, kd_45_83, kd_45_85, kd_45_99, kd_45_105, kd_45_107, kd_45_109, kd_45_114, kd_45_115, kd_45_118, kd_45_119, kd_45_120, kd_70_45, kd_70_83, kd_70_85, kd_70_99, kd_70_105, kd_70_107, kd_70_109, kd_70_114, kd_70_115, kd_70_118, kd_70_119, kd_70_120, kd_83_45, kd_83_70, kd_83_85, kd_83_99, kd_83_105, kd_83_107, kd_83_109, kd_83_114, kd_83_115, kd_83_118, kd_83_119, kd_83_120, kd_85_45, kd_85_70, kd_85_83, kd_85_99, kd_85_105, kd_85_107, kd_85_109, kd_85_114, kd_85_115, kd_85_118, kd_85_119, kd_85_120, kd_99_45, kd_99_70, kd_99_83, kd_99_85, kd_99_105, kd_99_107, kd_99_109, kd_99_114, kd_99_115, kd_99_118, kd_99_119, kd_99_120, kd_105_45, kd_105_70, kd_105_83, kd_105_85, kd_105_99, kd_105_107, kd_105_109, kd_105_114, kd_105_115, kd_105_118, kd_105_119, kd_105_120, kd_107_45, kd_107_70, kd_107_83, kd_107_85, kd_107_99, kd_107_105, kd_107_109, kd_107_114, kd_107_115, kd_107_118, kd_107_119, kd_107_120, kd_109_45, kd_109_70, kd_109_83, kd_109_85, kd_109_99, kd_109_105, kd_109_107, kd_109_114, kd_109_115, kd_109_118, kd_109_119, kd_109_120, kd_114_45, kd_114_70, kd_114_83, kd_114_85, kd_114_99, kd_114_105, kd_114_107, kd_114_109, kd_114_115, kd_114_118, kd_114_119, kd_114_120, kd_115_45, kd_115_70, kd_115_83, kd_115_85, kd_115_99, kd_115_105, kd_115_107, kd_115_109, kd_115_114, kd_115_118, kd_115_119, kd_115_120, kd_118_45, kd_118_70, kd_118_83, kd_118_85, kd_118_99, kd_118_105, kd_118_107, kd_118_109, kd_118_114, kd_118_115, kd_118_119, kd_118_120, kd_119_45, kd_119_70, kd_119_83, kd_119_85, kd_119_99, kd_119_105, kd_119_107, kd_119_109, kd_119_114, kd_119_115, kd_119_118, kd_119_120, kd_120_45, kd_120_70, kd_120_83, kd_120_85, kd_120_99, kd_120_105, kd_120_107, kd_120_109, kd_120_114, kd_120_115, kd_120_118, kd_120_119, if_false, if_true]
      rw [d2]
      by_cases e0 : e = 0
      · have k4 : k = 4 := by omega
        have z : xFault h m e 105 a σ = 4 := by unfold xFault; simp [e0]
        have x1 : xOne h m e R 105 a code σ = up σ 4 (σ 4 + 1) := by rw [one_fault c0 (by rw [z]; decide), z]
        rw [if_pos (by rw [k4]; rfl)]
        unfold LET
        rintro y rfl
        have g43 : gI h2 11 0 43 = σ 4 := s2.2.1 4 (by omega) (by omega) (by omega)
        rw [g43]
        refine go _ x115 (by rw [x1, up_n (by omega)]; exact o) ?_ (fun j hj => ?_)
        · rw [x1]
          refine ⟨s2.s (i := 4) (by omega) (by omega) (by omega) (by omega), ?_, ?_, ?_, ?_⟩
          · rw [gI_o (by omega)]; exact d2
          · rw [gI_o (by omega)]; exact g58
          · rw [gI_o (by omega)]; exact g59
          · rw [gI_o (by omega)]; exact g60
        · rw [gI_o (by omega), gI_o (by omega), gI_o (by omega)]; exact ⟨rfl, rfl, rfl⟩
      · have z : xFault h m e 105 a σ = 0 := by unfold xFault; simp [e0]
        rw [if_neg (show ¬ nI k = 4 from nI_ne (b := 4) (by omega) (by omega) (by omega))]
        refine does_w s2 w (fun n2 h3 s3 f3 d3 => ?_) (fun n2 h3 s3 f3 => ?_)
        · rw [if_pos rfl]
          have x1 := one_over (R := R) (code := code) c0 z n2
          refine over h3 (by rw [x1, up_e]; decide) ?_ d3 (fun j _ => f3 j)
          rw [x1]
          exact s3.loc (fun j _ h2 _ => up_n h2)
        · rw [if_neg (by decide)]
          have x1 : xOne h m e R 105 a code σ = R a (xDid σ code) := by
            unfold xOne
            rw [if_neg (by rw [c0]; decide), if_neg (fun q => q z), if_neg n2, if_pos rfl]
          have o3 : xDid σ code 11 = 0 := by rw [did_o (by omega) (by omega)]; exact o
          have ck : (nI (k + 1)).toNatClampNeg = k + 1 := nI_clamp (by omega)
          have v6 : vp_in (nI (k + 1)) 6 := vp_in_nI (by omega) (by decide)
          unfold wp_X11_begins LET
          simp only [forall_eq]
          rw [f3.1, d2, nI_1, gI_o (show (11 : Nat) ≠ 59 ∨ _ from Or.inl (by decide)), gI_o (show (11 : Nat) ≠ 58 ∨ _ from Or.inl (by decide)), gI_e, ck]
          refine ⟨v6, v6, v6, ?_⟩
          have fr4 : FR h2 (sI (sI (sI (sI h3 11 0 29 (nI (k + 1))) 58 0 (k + 1) a) 59 0 (k + 1) 0) 60 0 (k + 1) (-1)) (k + 1) := fun j hj => by
            rw [gI_o (by omega), gI_o (by omega), gI_o (by omega), gI_o (by omega), gI_o (by omega), gI_o (by omega), gI_o (by omega), gI_o (by omega), gI_o (by omega), gI_o (by omega), gI_o (by omega), gI_o (by omega)]
            exact f3.2 j
          refine hRS a (xDid σ code) _ (a105 v) e0 ⟨(((s3.fr (Or.inl ⟨rfl, rfl⟩)).fr (Or.inr (Or.inl rfl))).fr (Or.inr (Or.inr (Or.inl rfl)))).fr (Or.inr (Or.inr (Or.inr rfl))), ?_, ?_, ?_, ?_⟩ (w.did n2) o3 (fun h4 q => ?_)
          · rw [gI_o (by omega), gI_o (by omega), gI_o (by omega), gI_e]
          · rw [gI_o (by omega), gI_o (by omega), gI_e]
          · rw [gI_o (by omega), gI_e]
          · rw [gI_e]
          · obtain ⟨q1, q2, q3, q4⟩ := q
            rw [← x1] at q1 q3 q4
            have fr5 : FR h2 h4 (k + 1) := fr4.trans q2
            by_cases o4 : xOne h m e R 105 a code σ 11 = 0
            · refine go h4 x115 o4 ⟨q1, ?_, ?_, ?_, ?_⟩ (fun j hj => fr5 j (by omega))
              · rw [q4 o4, nI_sub1 (by omega), Nat.add_sub_cancel]
              · rw [(fr5 k (by omega)).1]; exact g58
              · rw [(fr5 k (by omega)).2.1]; exact g59
              · rw [(fr5 k (by omega)).2.2]; exact g60
            · exact over h4 o4 q1 (q3 o4) (fun j hj => fr5 j (by omega))
    · refine mac_w (e := e) (R := R) B s2 w o v k5 (fun h3 q => ?_)
      obtain ⟨q1, q2, q3, q4⟩ := q
      by_cases o4 : xOne h m e R kk a code σ 11 = 0
      · have d3 := q4 o4
        cases x : xEnds kk σ
        · rw [x, if_neg (by decide), d2] at d3
          exact go h3 x o4 ⟨q1, d3, by rw [(q2 k).1]; exact g58, by rw [(q2 k).2.1]; exact g59, by rw [(q2 k).2.2]; exact g60⟩ (fun j _ => q2 j)
        · rw [x, if_pos rfl, d2] at d3
          rw [x, if_pos rfl] at f
          exact f h3 ⟨fr2.trans (fun j _ => q2 j), fun z => absurd o4 z, fun _ _ => ⟨q1, d3⟩, fun _ z => by cases z⟩
      · exact over h3 o4 q1 (q3 o4) (fun j _ => q2 j)
end
