/-! the model sends, and does all other actions -/
section
variable {h h0 h' : Hp} {m nm nt : Nat} {σ : Nat → Int32}
theorem rem10 : ∀ x, x < 10 → nI x - nI x / 10 * 10 = nI x := by decide +kernel
theorem snd_w {e : Nat} {R : Int32 → (Nat → Int32) → Nat → Int32} {k a code : Int32} {Q : Hp → Prop} (B : BF h m nm nt) (s : MS h h0 σ h') (w : XW h m nm σ) (o : σ 11 = 0) (kk : k = 118 ∨ (k = 119 ∧ inN a 10) ∨ (k = 99 ∧ inN a 8))
    (f : ∀ h'', AA h h0 σ (xOne h m e R k a code σ) k h' h'' → Q h'') : wp_X11_sends k a (nI m) code h' Q := by
  obtain ⟨d, i, hi, hd, s1, ⟨n40, e1, e2, s2, s2', s2''⟩, s3, s4, s5, s6, hm⟩ := id B
  have k115 : k ≠ 115 := by rcases kk with rfl | ⟨rfl, -⟩ | ⟨rfl, -⟩ <;> decide
  have k5 : k ≠ 105 := by rcases kk with rfl | ⟨rfl, -⟩ | ⟨rfl, -⟩ <;> decide
  have vm : vp_in (nI m) 40 := vp_in_nI (by omega) (by decide)
  have g37 : gI h' 11 0 37 = σ 7 := s.2.1 7 (by omega) (by omega) (by omega)
  have g42 : gI h' 11 0 42 = σ 3 := s.2.1 3 (by omega) (by omega) (by omega)
  have g44 : gI h' 11 0 44 = σ 5 := s.2.1 5 (by omega) (by omega) (by omega)
  have g45 : gI h' 11 0 45 = σ 6 := s.2.1 6 (by omega) (by omega) (by omega)
  have hsn := (s2 m hm).1.1
  obtain ⟨hx33, ex33⟩ := cl_n hsn (by decide)
  have ch9 : gI h' 11 0 33 = 114 ↔ σ 0 = 9 := by
    rcases s.2.2.2.2 with ⟨c, o, g⟩ | ⟨c, o, g⟩ | ⟨c, o, g⟩ | ⟨c, o, g⟩ | ⟨c, o, x, hx, g⟩ <;> rw [c, o]
    · decide
    · decide
    · decide
    · decide
    · have : ∀ x, x < 8 → ¬ nI x = 9 := by decide +kernel
      rw [g]
      exact ⟨fun q => absurd q (by decide), fun q => absurd q (this x hx)⟩
  have cl9 : xClash k σ = decide (σ 0 = 9) := by rcases kk with rfl | ⟨rfl, -⟩ | ⟨rfl, -⟩ <;> unfold xClash <;> simp [kd_45_70, kd_45_83, kd_45_85, kd_45_99, kd_45_105, kd_45_107, kd_45_109, kd_45_114, kd_45_115, kd_45_118, kd_45_119, kd_45_120, kd_70_45, kd_70_83, kd_70_85, kd_70_99, kd_70_105, kd_70_107, kd_70_109, kd_70_114, kd_70_115, kd_70_118, kd_70_119, kd_70_120, kd_83_45, kd_83_70, kd_83_85, kd_83_99, kd_83_105, kd_83_107, kd_83_109, kd_83_114, kd_83_115, kd_83_118, kd_83_119, kd_83_120, kd_85_45, kd_85_70, kd_85_83, kd_85_99, kd_85_105, kd_85_107, kd_85_109, kd_85_114, kd_85_115, kd_85_118, kd_85_119, kd_85_120, kd_99_45, kd_99_70, kd_99_83, kd_99_85, kd_99_105, kd_99_107, kd_99_109, kd_99_114, kd_99_115, kd_99_118, kd_99_119, kd_99_120, kd_105_45, kd_105_70, kd_105_83, kd_105_85, kd_105_99, kd_105_107, kd_105_109, kd_105_114, kd_105_115, kd_105_118, kd_105_119, kd_105_120, kd_107_45, kd_107_70, kd_107_83, kd_107_85, kd_107_99, kd_107_105, kd_107_109, kd_107_114, kd_107_115, kd_107_118, kd_107_119, kd_107_120, kd_109_45, kd_109_70, kd_109_83, kd_109_85, kd_109_99, kd_109_105, kd_109_107, kd_109_114, kd_109_115, kd_109_118, kd_109_119, kd_109_120, kd_114_45, kd_114_70, kd_114_83, kd_114_85, kd_114_99, kd_114_105, kd_114_107, kd_114_109, kd_114_115, kd_114_118, kd_114_119, kd_114_120, kd_115_45, kd_115_70, kd_115_83, kd_115_85, kd_115_99, kd_115_105, kd_115_107, kd_115_109, kd_115_114, kd_115_118, kd_115_119, kd_115_120, kd_118_45, kd_118_70, kd_118_83, kd_118_85, kd_118_99, kd_118_105, kd_118_107, kd_118_109, kd_118_114, kd_118_115, kd_118_119, kd_118_120, kd_119_45, kd_119_70, kd_119_83, kd_119_85, kd_119_99, kd_119_105, kd_119_107, kd_119_109, kd_119_114, kd_119_115, kd_119_118, kd_119_120, kd_120_45, kd_120_70, kd_120_83, kd_120_85, kd_120_99, kd_120_105, kd_120_107, kd_120_109, kd_120_114, kd_120_115, kd_120_118, kd_120_119]
  -- it is done
  have dn : xClash k σ = false → xFault h m e k a σ = 0 → wp_X11_sends_b120 k a (nI m) code h' Q := fun c z => by
    unfold wp_X11_sends_b120
    refine does_w s w (fun n h2 s2 f2 d2 => ?_) (fun n h2 s2 f2 => ?_)
    · rw [if_pos rfl]
      refine f _ ?_
      rw [one_over c z n]
      exact AA.over s2 f2 d2
    rw [if_neg (by decide)]
    have w2 := w.did (code := code) n
    rw [one_act c z n k5] at f
    have o2 : xDid σ code 11 = 0 := by rw [did_o (by omega) (by omega)]; exact o
    have t3 := s2.s (i := 10) (v := 1) (by omega) (by omega) (by omega) (by omega)
    have f3 : SF h' (sI h2 11 0 (mf 10) 1) := f2.trans (SF.rfl.f (by decide))
    unfold wp_X11_sends_b149 wp_X11_sends_b167 wp_X11_sends_b187 wp_X11_sends_b235 LET
    simp only [forall_eq]
    rw [show (36 : Nat) = mf 10 from rfl]
    rcases kk with rfl | ⟨rfl, ha⟩ | ⟨rfl, ha⟩
    · simp only [kd_45_70, kd_45_83, kd_45_85, kd_45_99, kd_45_105, kd_45_107, kd_45_109, kd_45_114, kd_45_115, kd_45_118, kd_45_119, kd_45_120, kd_70_45, kd_70_83, kd_70_85, kd_70_99, kd_70_105, kd_70_107, kd_70_109, kd_70_114, kd_70_115, kd_70_118, kd_70_119, kd_70_120, kd_83_45, kd_83_70, kd_83_85, kd_83_99, kd_83_105, kd_83_107, kd_83_109, kd_83_114, kd_83_115, kd_83_118, kd_83_119, kd_83_120, kd_85_45, kd_85_70, kd_85_83, kd_85_99, kd_85_105, kd_85_107, kd_85_109, kd_85_114, kd_85_115, kd_85_118, kd_85_119, kd_85_120, kd_99_45, kd_99_70, kd_99_83, kd_99_85, kd_99_105, kd_99_107, kd_99_109, kd_99_114, kd_99_115, kd_99_118, kd_99_119, kd_99_120, kd_105_45, kd_105_70, kd_105_83, kd_105_85, kd_105_99, kd_105_107, kd_105_109, kd_105_114, kd_105_115, kd_105_118, kd_105_119, kd_105_120, kd_107_45, kd_107_70, kd_107_83, kd_107_85, kd_107_99, kd_107_105, kd_107_109, kd_107_114, kd_107_115, kd_107_118, kd_107_119, kd_107_120, kd_109_45, kd_109_70, kd_109_83, kd_109_85, kd_109_99, kd_109_105, kd_109_107, kd_109_114, kd_109_115, kd_109_118, kd_109_119, kd_109_120, kd_114_45, kd_114_70, kd_114_83, kd_114_85, kd_114_99, kd_114_105, kd_114_107, kd_114_109, kd_114_115, kd_114_118, kd_114_119, kd_114_120, kd_115_45, kd_115_70, kd_115_83, kd_115_85, kd_115_99, kd_115_105, kd_115_107, kd_115_109, kd_115_114, kd_115_118, kd_115_119, kd_115_120, kd_118_45, kd_118_70, kd_118_83, kd_118_85, kd_118_99, kd_118_105, kd_118_107, kd_118_109, kd_118_114, kd_118_115, kd_118_119, kd_118_120, kd_119_45, kd_119_70, kd_119_83, kd_119_85, kd_119_99, kd_119_105, kd_119_107, kd_119_109, kd_119_114, kd_119_115, kd_119_118, kd_119_120, kd_120_45, kd_120_70, kd_120_83, kd_120_85, kd_120_99, kd_120_105, kd_120_107, kd_120_109, kd_120_114, kd_120_115, kd_120_118, kd_120_119, if_false, if_true, z_cl]
      refine ⟨vp_in_nI (n := 0) (by decide) (by decide), vp_in_nI (n := 0) (by decide) (by decide), ?_⟩
      have t4 := t3.s61 (b := 0) (v := gI (sI h2 11 0 (mf 10) 1) 61 0 0 + 0) (by omega)
      have f4 := f3.c (j := 61) (k := 0) (v := gI (sI h2 11 0 (mf 10) 1) 61 0 0 + 0) (by omega)
      rw [show (37 : Nat) = mf 7 from rfl, t4.2.1 7 (by omega) (by omega) (by omega)]
      have t5 := t4.s (i := 7) (v := up (up (xDid σ code) 10 1) (20 + 0) (gI (sI h2 11 0 (mf 10) 1) 61 0 0 + 0) 7 ||| 0) (by omega) (by omega) (by omega) (by omega)
      have f5 := f4.f (k := mf 7) (v := up (up (xDid σ code) 10 1) (20 + 0) (gI (sI h2 11 0 (mf 10) 1) 61 0 0 + 0) 7 ||| 0) (by decide)
      generalize hh : sI (sI (sI h2 11 0 (mf 10) 1) 61 0 0 (gI (sI h2 11 0 (mf 10) 1) 61 0 0 + 0)) 11 0 (mf 7) (up (up (xDid σ code) 10 1) (20 + 0) (gI (sI h2 11 0 (mf 10) 1) 61 0 0 + 0) 7 ||| 0) = h5 at *
      have eσ : MS h h0 (up (xDid σ code) 10 1) h5 := t5.loc (fun j _ _ _ => by
        have c61 : gI (sI h2 11 0 (mf 10) 1) 61 0 0 = xDid σ code 20 := by rw [gI_o (by omega)]; exact s2.2.2.1 0 (by omega)
        rw [c61]
        by_cases e : j = 7
        · subst e; rw [up_e, up_n (show 7 ≠ 20 + 0 by omega), up_n (by omega)]; simp
        · rw [up_n e]
          by_cases e' : j = 20
          · subst e'; rw [up_n (show 20 ≠ 10 by omega)]; rw [show (20 : Nat) + 0 = 20 from rfl, up_e, Int32.add_zero]
          · rw [up_n (show j ≠ 20 + 0 by omega)])
      clear t3 t4 t5 f3 f4
      rw [nI_clamp (by omega), eσ.I 33 0 m, show (gI h 33 0 m).toNatClampNeg = cl (gI h 33 0 m) from rfl, eσ.I 46 0 (cl (gI h 33 0 m)), eσ.I 11 0 1]
      refine ⟨vm, inN_vp hsn (by decide), ?_⟩
      rw [show (38 : Nat) = mf 9 from rfl, eσ.2.1 9 (by omega) (by omega) (by omega), up_n (show 9 ≠ 10 by omega), did_o (by omega) (by omega)]
      have fin1 : (σ 9 ≠ 0 ∨ xDue h m a = true) → Q (sI h5 11 0 (mf 9) 1) := fun q => by
        refine f _ (AA.of (σ := σ) ?_ (f5.f (by decide)) ?_ k115)
        · unfold xAct
          simp only [kd_45_70, kd_45_83, kd_45_85, kd_45_99, kd_45_105, kd_45_107, kd_45_109, kd_45_114, kd_45_115, kd_45_118, kd_45_119, kd_45_120, kd_70_45, kd_70_83, kd_70_85, kd_70_99, kd_70_105, kd_70_107, kd_70_109, kd_70_114, kd_70_115, kd_70_118, kd_70_119, kd_70_120, kd_83_45, kd_83_70, kd_83_85, kd_83_99, kd_83_105, kd_83_107, kd_83_109, kd_83_114, kd_83_115, kd_83_118, kd_83_119, kd_83_120, kd_85_45, kd_85_70, kd_85_83, kd_85_99, kd_85_105, kd_85_107, kd_85_109, kd_85_114, kd_85_115, kd_85_118, kd_85_119, kd_85_120, kd_99_45, kd_99_70, kd_99_83, kd_99_85, kd_99_105, kd_99_107, kd_99_109, kd_99_114, kd_99_115, kd_99_118, kd_99_119, kd_99_120, kd_105_45, kd_105_70, kd_105_83, kd_105_85, kd_105_99, kd_105_107, kd_105_109, kd_105_114, kd_105_115, kd_105_118, kd_105_119, kd_105_120, kd_107_45, kd_107_70, kd_107_83, kd_107_85, kd_107_99, kd_107_105, kd_107_109, kd_107_114, kd_107_115, kd_107_118, kd_107_119, kd_107_120, kd_109_45, kd_109_70, kd_109_83, kd_109_85, kd_109_99, kd_109_105, kd_109_107, kd_109_114, kd_109_115, kd_109_118, kd_109_119, kd_109_120, kd_114_45, kd_114_70, kd_114_83, kd_114_85, kd_114_99, kd_114_105, kd_114_107, kd_114_109, kd_114_115, kd_114_118, kd_114_119, kd_114_120, kd_115_45, kd_115_70, kd_115_83, kd_115_85, kd_115_99, kd_115_105, kd_115_107, kd_115_109, kd_115_114, kd_115_118, kd_115_119, kd_115_120, kd_118_45, kd_118_70, kd_118_83, kd_118_85, kd_118_99, kd_118_105, kd_118_107, kd_118_109, kd_118_114, kd_118_115, kd_118_119, kd_118_120, kd_119_45, kd_119_70, kd_119_83, kd_119_85, kd_119_99, kd_119_105, kd_119_107, kd_119_109, kd_119_114, kd_119_115, kd_119_118, kd_119_120, kd_120_45, kd_120_70, kd_120_83, kd_120_85, kd_120_99, kd_120_105, kd_120_107, kd_120_109, kd_120_114, kd_120_115, kd_120_118, kd_120_119, if_false, if_true]
          by_cases c : xDue h m a = true
          · rw [if_pos c]
            exact eσ.s (i := 9) (by omega) (by omega) (by omega) (by omega)
          · rw [if_neg c]
            have q9 : σ 9 ≠ 0 := by rcases q with q | q; exact q; exact absurd q c
            refine (eσ.s (i := 9) (v := 1) (by omega) (by omega) (by omega) (by omega)).loc (fun j _ _ _ => ?_)
            by_cases e : j = 9
            · subst e
              rw [up_n (show 9 ≠ 10 by omega), up_e, did_o (by omega) (by omega)]
              rcases w.2.2.2.1 with x | x
              · exact absurd x q9
              · exact x
            · rw [up_n (i := 9) e]
        · unfold xAct
          simp only [kd_45_70, kd_45_83, kd_45_85, kd_45_99, kd_45_105, kd_45_107, kd_45_109, kd_45_114, kd_45_115, kd_45_118, kd_45_119, kd_45_120, kd_70_45, kd_70_83, kd_70_85, kd_70_99, kd_70_105, kd_70_107, kd_70_109, kd_70_114, kd_70_115, kd_70_118, kd_70_119, kd_70_120, kd_83_45, kd_83_70, kd_83_85, kd_83_99, kd_83_105, kd_83_107, kd_83_109, kd_83_114, kd_83_115, kd_83_118, kd_83_119, kd_83_120, kd_85_45, kd_85_70, kd_85_83, kd_85_99, kd_85_105, kd_85_107, kd_85_109, kd_85_114, kd_85_115, kd_85_118, kd_85_119, kd_85_120, kd_99_45, kd_99_70, kd_99_83, kd_99_85, kd_99_105, kd_99_107, kd_99_109, kd_99_114, kd_99_115, kd_99_118, kd_99_119, kd_99_120, kd_105_45, kd_105_70, kd_105_83, kd_105_85, kd_105_99, kd_105_107, kd_105_109, kd_105_114, kd_105_115, kd_105_118, kd_105_119, kd_105_120, kd_107_45, kd_107_70, kd_107_83, kd_107_85, kd_107_99, kd_107_105, kd_107_109, kd_107_114, kd_107_115, kd_107_118, kd_107_119, kd_107_120, kd_109_45, kd_109_70, kd_109_83, kd_109_85, kd_109_99, kd_109_105, kd_109_107, kd_109_114, kd_109_115, kd_109_118, kd_109_119, kd_109_120, kd_114_45, kd_114_70, kd_114_83, kd_114_85, kd_114_99, kd_114_105, kd_114_107, kd_114_109, kd_114_115, kd_114_118, kd_114_119, kd_114_120, kd_115_45, kd_115_70, kd_115_83, kd_115_85, kd_115_99, kd_115_105, kd_115_107, kd_115_109, kd_115_114, kd_115_118, kd_115_119, kd_115_120, kd_118_45, kd_118_70, kd_118_83, kd_118_85, kd_118_99, kd_118_105, kd_118_107, kd_118_109, kd_118_114, kd_118_115, kd_118_119, kd_118_120, kd_119_45, kd_119_70, kd_119_83, kd_119_85, kd_119_99, kd_119_105, kd_119_107, kd_119_109, kd_119_114, kd_119_115, kd_119_118, kd_119_120, kd_120_45, kd_120_70, kd_120_83, kd_120_85, kd_120_99, kd_120_105, kd_120_107, kd_120_109, kd_120_114, kd_120_115, kd_120_118, kd_120_119, if_false, if_true]
          split
          · rw [up_n (by omega), up_n (by omega)]; exact o2
          · rw [up_n (by omega)]; exact o2
      have fin0 : σ 9 = 0 → xDue h m a = false → Q (sI h5 11 0 (mf 9) 0) := fun q c => by
        refine f _ (AA.of (σ := σ) ?_ (f5.f (by decide)) ?_ k115)
        · unfold xAct
          simp only [kd_45_70, kd_45_83, kd_45_85, kd_45_99, kd_45_105, kd_45_107, kd_45_109, kd_45_114, kd_45_115, kd_45_118, kd_45_119, kd_45_120, kd_70_45, kd_70_83, kd_70_85, kd_70_99, kd_70_105, kd_70_107, kd_70_109, kd_70_114, kd_70_115, kd_70_118, kd_70_119, kd_70_120, kd_83_45, kd_83_70, kd_83_85, kd_83_99, kd_83_105, kd_83_107, kd_83_109, kd_83_114, kd_83_115, kd_83_118, kd_83_119, kd_83_120, kd_85_45, kd_85_70, kd_85_83, kd_85_99, kd_85_105, kd_85_107, kd_85_109, kd_85_114, kd_85_115, kd_85_118, kd_85_119, kd_85_120, kd_99_45, kd_99_70, kd_99_83, kd_99_85, kd_99_105, kd_99_107, kd_99_109, kd_99_114, kd_99_115, kd_99_118, kd_99_119, kd_99_120, kd_105_45, kd_105_70, kd_105_83, kd_105_85, kd_105_99, kd_105_107, kd_105_109, kd_105_114, kd_105_115, kd_105_118, kd_105_119, kd_105_120, kd_107_45, kd_107_70, kd_107_83, kd_107_85, kd_107_99, kd_107_105, kd_107_109, kd_107_114, kd_107_115, kd_107_118, kd_107_119, kd_107_120, kd_109_45, kd_109_70, kd_109_83, kd_109_85, kd_109_99, kd_109_105, kd_109_107, kd_109_114, kd_109_115, kd_109_118, kd_109_119, kd_109_120, kd_114_45, kd_114_70, kd_114_83, kd_114_85, kd_114_99, kd_114_105, kd_114_107, kd_114_109, kd_114_115, kd_114_118, kd_114_119, kd_114_120, kd_115_45, kd_115_70, kd_115_83, kd_115_85, kd_115_99, kd_115_105, kd_115_107, kd_115_109, kd_115_114, kd_115_118, kd_115_119, kd_115_120, kd_118_45, kd_118_70, kd_118_83, kd_118_85, kd_118_99, kd_118_105, kd_118_107, kd_118_109, kd_118_114, kd_118_115, kd_118_119, kd_118_120, kd_119_45, kd_119_70, kd_119_83, kd_119_85, kd_119_99, kd_119_105, kd_119_107, kd_119_109, kd_119_114, kd_119_115, kd_119_118, kd_119_120, kd_120_45, kd_120_70, kd_120_83, kd_120_85, kd_120_99, kd_120_105, kd_120_107, kd_120_109, kd_120_114, kd_120_115, kd_120_118, kd_120_119, if_false, if_true, c, Bool.false_eq_true]
          refine (eσ.s (i := 9) (v := 0) (by omega) (by omega) (by omega) (by omega)).loc (fun j _ _ _ => ?_)
          by_cases e : j = 9
          · subst e
            rw [up_n (show 9 ≠ 10 by omega), up_e, did_o (by omega) (by omega), q]
          · rw [up_n (i := 9) e]
        · unfold xAct
          simp only [kd_45_70, kd_45_83, kd_45_85, kd_45_99, kd_45_105, kd_45_107, kd_45_109, kd_45_114, kd_45_115, kd_45_118, kd_45_119, kd_45_120, kd_70_45, kd_70_83, kd_70_85, kd_70_99, kd_70_105, kd_70_107, kd_70_109, kd_70_114, kd_70_115, kd_70_118, kd_70_119, kd_70_120, kd_83_45, kd_83_70, kd_83_85, kd_83_99, kd_83_105, kd_83_107, kd_83_109, kd_83_114, kd_83_115, kd_83_118, kd_83_119, kd_83_120, kd_85_45, kd_85_70, kd_85_83, kd_85_99, kd_85_105, kd_85_107, kd_85_109, kd_85_114, kd_85_115, kd_85_118, kd_85_119, kd_85_120, kd_99_45, kd_99_70, kd_99_83, kd_99_85, kd_99_105, kd_99_107, kd_99_109, kd_99_114, kd_99_115, kd_99_118, kd_99_119, kd_99_120, kd_105_45, kd_105_70, kd_105_83, kd_105_85, kd_105_99, kd_105_107, kd_105_109, kd_105_114, kd_105_115, kd_105_118, kd_105_119, kd_105_120, kd_107_45, kd_107_70, kd_107_83, kd_107_85, kd_107_99, kd_107_105, kd_107_109, kd_107_114, kd_107_115, kd_107_118, kd_107_119, kd_107_120, kd_109_45, kd_109_70, kd_109_83, kd_109_85, kd_109_99, kd_109_105, kd_109_107, kd_109_114, kd_109_115, kd_109_118, kd_109_119, kd_109_120, kd_114_45, kd_114_70, kd_114_83, kd_114_85, kd_114_99, kd_114_105, kd_114_107, kd_114_109, kd_114_115, kd_114_118, kd_114_119, kd_114_120, kd_115_45, kd_115_70, kd_115_83, kd_115_85, kd_115_99, kd_115_105, kd_115_107, kd_115_109, kd_115_114, kd_115_118, kd_115_119, kd_115_120, kd_118_45, kd_118_70, kd_118_83, kd_118_85, kd_118_99, kd_118_105, kd_118_107, kd_118_109, kd_118_114, kd_118_115, kd_118_119, kd_118_120, kd_119_45, kd_119_70, kd_119_83, kd_119_85, kd_119_99, kd_119_105, kd_119_107, kd_119_109, kd_119_114, kd_119_115, kd_119_118, kd_119_120, kd_120_45, kd_120_70, kd_120_83, kd_120_85, kd_120_99, kd_120_105, kd_120_107, kd_120_109, kd_120_114, kd_120_115, kd_120_118, kd_120_119, if_false, if_true, c, Bool.false_eq_true]
          rw [up_n (by omega)]; exact o2
      by_cases q : σ 9 = 0
      · rw [if_pos q]
        by_cases c1 : gI h 46 0 (cl (gI h 33 0 m)) = -1
        · rw [if_pos c1]
          exact fin1 (Or.inr (by unfold xDue; simp [c1]))
        · rw [if_neg c1]
          by_cases c2 : gI h 11 0 1 - gI h 46 0 (cl (gI h 33 0 m)) < a
          · rw [if_pos c2]
            exact fin0 q (by unfold xDue; simp [c1, c2])
          · rw [if_neg c2]
            exact fin1 (Or.inr (by unfold xDue; simp [c2]))
      · rw [if_neg q]
        exact fin1 (Or.inl q)
    · simp only [kd_45_70, kd_45_83, kd_45_85, kd_45_99, kd_45_105, kd_45_107, kd_45_109, kd_45_114, kd_45_115, kd_45_118, kd_45_119, kd_45_120, kd_70_45, kd_70_83, kd_70_85, kd_70_99, kd_70_105, kd_70_107, kd_70_109, kd_70_114, kd_70_115, kd_70_118, kd_70_119, kd_70_120, kd_83_45, kd_83_70, kd_83_85, kd_83_99, kd_83_105, kd_83_107, kd_83_109, kd_83_114, kd_83_115, kd_83_118, kd_83_119, kd_83_120, kd_85_45, kd_85_70, kd_85_83, kd_85_99, kd_85_105, kd_85_107, kd_85_109, kd_85_114, kd_85_115, kd_85_118, kd_85_119, kd_85_120, kd_99_45, kd_99_70, kd_99_83, kd_99_85, kd_99_105, kd_99_107, kd_99_109, kd_99_114, kd_99_115, kd_99_118, kd_99_119, kd_99_120, kd_105_45, kd_105_70, kd_105_83, kd_105_85, kd_105_99, kd_105_107, kd_105_109, kd_105_114, kd_105_115, kd_105_118, kd_105_119, kd_105_120, kd_107_45, kd_107_70, kd_107_83, kd_107_85, kd_107_99, kd_107_105, kd_107_109, kd_107_114, kd_107_115, kd_107_118, kd_107_119, kd_107_120, kd_109_45, kd_109_70, kd_109_83, kd_109_85, kd_109_99, kd_109_105, kd_109_107, kd_109_114, kd_109_115, kd_109_118, kd_109_119, kd_109_120, kd_114_45, kd_114_70, kd_114_83, kd_114_85, kd_114_99, kd_114_105, kd_114_107, kd_114_109, kd_114_115, kd_114_118, kd_114_119, kd_114_120, kd_115_45, kd_115_70, kd_115_83, kd_115_85, kd_115_99, kd_115_105, kd_115_107, kd_115_109, kd_115_114, kd_115_118, kd_115_119, kd_115_120, kd_118_45, kd_118_70, kd_118_83, kd_118_85, kd_118_99, kd_118_105, kd_118_107, kd_118_109, kd_118_114, kd_118_115, kd_118_119, kd_118_120, kd_119_45, kd_119_70, kd_119_83, kd_119_85, kd_119_99, kd_119_105, kd_119_107, kd_119_109, kd_119_114, kd_119_115, kd_119_118, kd_119_120, kd_120_45, kd_120_70, kd_120_83, kd_120_85, kd_120_99, kd_120_105, kd_120_107, kd_120_109, kd_120_114, kd_120_115, kd_120_118, kd_120_119, if_false, if_true, z_cl]
      refine ⟨vp_in_nI (n := 0) (by decide) (by decide), vp_in_nI (n := 0) (by decide) (by decide), ?_⟩
      have t4 := t3.s61 (b := 0) (v := gI (sI h2 11 0 (mf 10) 1) 61 0 0 + 0) (by omega)
      have f4 := f3.c (j := 61) (k := 0) (v := gI (sI h2 11 0 (mf 10) 1) 61 0 0 + 0) (by omega)
      rw [show (37 : Nat) = mf 7 from rfl, t4.2.1 7 (by omega) (by omega) (by omega)]
      have t5 := t4.s (i := 7) (v := up (up (xDid σ code) 10 1) (20 + 0) (gI (sI h2 11 0 (mf 10) 1) 61 0 0 + 0) 7 ||| (1 <<< (a &&& 31))) (by omega) (by omega) (by omega) (by omega)
      have f5 := f4.f (k := mf 7) (v := up (up (xDid σ code) 10 1) (20 + 0) (gI (sI h2 11 0 (mf 10) 1) 61 0 0 + 0) 7 ||| (1 <<< (a &&& 31))) (by decide)
      generalize hh : sI (sI (sI h2 11 0 (mf 10) 1) 61 0 0 (gI (sI h2 11 0 (mf 10) 1) 61 0 0 + 0)) 11 0 (mf 7) (up (up (xDid σ code) 10 1) (20 + 0) (gI (sI h2 11 0 (mf 10) 1) 61 0 0 + 0) 7 ||| (1 <<< (a &&& 31))) = h5 at *
      have eσ : MS h h0 (xAct h m 119 a (xDid σ code)) h5 := t5.loc (fun j _ _ _ => by
        have c61 : gI (sI h2 11 0 (mf 10) 1) 61 0 0 = xDid σ code 20 := by rw [gI_o (by omega)]; exact s2.2.2.1 0 (by omega)
        rw [c61]
        unfold xAct
        simp only [kd_45_70, kd_45_83, kd_45_85, kd_45_99, kd_45_105, kd_45_107, kd_45_109, kd_45_114, kd_45_115, kd_45_118, kd_45_119, kd_45_120, kd_70_45, kd_70_83, kd_70_85, kd_70_99, kd_70_105, kd_70_107, kd_70_109, kd_70_114, kd_70_115, kd_70_118, kd_70_119, kd_70_120, kd_83_45, kd_83_70, kd_83_85, kd_83_99, kd_83_105, kd_83_107, kd_83_109, kd_83_114, kd_83_115, kd_83_118, kd_83_119, kd_83_120, kd_85_45, kd_85_70, kd_85_83, kd_85_99, kd_85_105, kd_85_107, kd_85_109, kd_85_114, kd_85_115, kd_85_118, kd_85_119, kd_85_120, kd_99_45, kd_99_70, kd_99_83, kd_99_85, kd_99_105, kd_99_107, kd_99_109, kd_99_114, kd_99_115, kd_99_118, kd_99_119, kd_99_120, kd_105_45, kd_105_70, kd_105_83, kd_105_85, kd_105_99, kd_105_107, kd_105_109, kd_105_114, kd_105_115, kd_105_118, kd_105_119, kd_105_120, kd_107_45, kd_107_70, kd_107_83, kd_107_85, kd_107_99, kd_107_105, kd_107_109, kd_107_114, kd_107_115, kd_107_118, kd_107_119, kd_107_120, kd_109_45, kd_109_70, kd_109_83, kd_109_85, kd_109_99, kd_109_105, kd_109_107, kd_109_114, kd_109_115, kd_109_118, kd_109_119, kd_109_120, kd_114_45, kd_114_70, kd_114_83, kd_114_85, kd_114_99, kd_114_105, kd_114_107, kd_114_109, kd_114_115, kd_114_118, kd_114_119, kd_114_120, kd_115_45, kd_115_70, kd_115_83, kd_115_85, kd_115_99, kd_115_105, kd_115_107, kd_115_109, kd_115_114, kd_115_118, kd_115_119, kd_115_120, kd_118_45, kd_118_70, kd_118_83, kd_118_85, kd_118_99, kd_118_105, kd_118_107, kd_118_109, kd_118_114, kd_118_115, kd_118_119, kd_118_120, kd_119_45, kd_119_70, kd_119_83, kd_119_85, kd_119_99, kd_119_105, kd_119_107, kd_119_109, kd_119_114, kd_119_115, kd_119_118, kd_119_120, kd_120_45, kd_120_70, kd_120_83, kd_120_85, kd_120_99, kd_120_105, kd_120_107, kd_120_109, kd_120_114, kd_120_115, kd_120_118, kd_120_119, if_false, if_true]
        by_cases e : j = 7
        · subst e; rw [up_e, up_e, up_n (show 7 ≠ 20 + 0 by omega), up_n (show 7 ≠ 10 by omega)]
        · rw [up_n e, up_n e]
          by_cases e' : j = 20
          · subst e'; rw [up_n (show 20 ≠ 10 by omega)]; rw [show (20 : Nat) + 0 = 20 from rfl, up_e, Int32.add_zero]
          · rw [up_n (show j ≠ 20 + 0 by omega)])
      clear t3 t4 t5 f3 f4
      rw [nI_clamp (by omega), eσ.I 33 0 m]
      refine ⟨vm, inN_vp hsn (by decide), ?_⟩
      have e9 : xAct h m 119 a (xDid σ code) 9 = σ 9 := by
        unfold xAct
        simp only [kd_45_70, kd_45_83, kd_45_85, kd_45_99, kd_45_105, kd_45_107, kd_45_109, kd_45_114, kd_45_115, kd_45_118, kd_45_119, kd_45_120, kd_70_45, kd_70_83, kd_70_85, kd_70_99, kd_70_105, kd_70_107, kd_70_109, kd_70_114, kd_70_115, kd_70_118, kd_70_119, kd_70_120, kd_83_45, kd_83_70, kd_83_85, kd_83_99, kd_83_105, kd_83_107, kd_83_109, kd_83_114, kd_83_115, kd_83_118, kd_83_119, kd_83_120, kd_85_45, kd_85_70, kd_85_83, kd_85_99, kd_85_105, kd_85_107, kd_85_109, kd_85_114, kd_85_115, kd_85_118, kd_85_119, kd_85_120, kd_99_45, kd_99_70, kd_99_83, kd_99_85, kd_99_105, kd_99_107, kd_99_109, kd_99_114, kd_99_115, kd_99_118, kd_99_119, kd_99_120, kd_105_45, kd_105_70, kd_105_83, kd_105_85, kd_105_99, kd_105_107, kd_105_109, kd_105_114, kd_105_115, kd_105_118, kd_105_119, kd_105_120, kd_107_45, kd_107_70, kd_107_83, kd_107_85, kd_107_99, kd_107_105, kd_107_109, kd_107_114, kd_107_115, kd_107_118, kd_107_119, kd_107_120, kd_109_45, kd_109_70, kd_109_83, kd_109_85, kd_109_99, kd_109_105, kd_109_107, kd_109_114, kd_109_115, kd_109_118, kd_109_119, kd_109_120, kd_114_45, kd_114_70, kd_114_83, kd_114_85, kd_114_99, kd_114_105, kd_114_107, kd_114_109, kd_114_115, kd_114_118, kd_114_119, kd_114_120, kd_115_45, kd_115_70, kd_115_83, kd_115_85, kd_115_99, kd_115_105, kd_115_107, kd_115_109, kd_115_114, kd_115_118, kd_115_119, kd_115_120, kd_118_45, kd_118_70, kd_118_83, kd_118_85, kd_118_99, kd_118_105, kd_118_107, kd_118_109, kd_118_114, kd_118_115, kd_118_119, kd_118_120, kd_119_45, kd_119_70, kd_119_83, kd_119_85, kd_119_99, kd_119_105, kd_119_107, kd_119_109, kd_119_114, kd_119_115, kd_119_118, kd_119_120, kd_120_45, kd_120_70, kd_120_83, kd_120_85, kd_120_99, kd_120_105, kd_120_107, kd_120_109, kd_120_114, kd_120_115, kd_120_118, kd_120_119, if_false, if_true]
        rw [up_n (by omega), up_n (by omega), did_o (by omega) (by omega)]
      have e11 : xAct h m 119 a (xDid σ code) 11 = 0 := by
        unfold xAct
        simp only [kd_45_70, kd_45_83, kd_45_85, kd_45_99, kd_45_105, kd_45_107, kd_45_109, kd_45_114, kd_45_115, kd_45_118, kd_45_119, kd_45_120, kd_70_45, kd_70_83, kd_70_85, kd_70_99, kd_70_105, kd_70_107, kd_70_109, kd_70_114, kd_70_115, kd_70_118, kd_70_119, kd_70_120, kd_83_45, kd_83_70, kd_83_85, kd_83_99, kd_83_105, kd_83_107, kd_83_109, kd_83_114, kd_83_115, kd_83_118, kd_83_119, kd_83_120, kd_85_45, kd_85_70, kd_85_83, kd_85_99, kd_85_105, kd_85_107, kd_85_109, kd_85_114, kd_85_115, kd_85_118, kd_85_119, kd_85_120, kd_99_45, kd_99_70, kd_99_83, kd_99_85, kd_99_105, kd_99_107, kd_99_109, kd_99_114, kd_99_115, kd_99_118, kd_99_119, kd_99_120, kd_105_45, kd_105_70, kd_105_83, kd_105_85, kd_105_99, kd_105_107, kd_105_109, kd_105_114, kd_105_115, kd_105_118, kd_105_119, kd_105_120, kd_107_45, kd_107_70, kd_107_83, kd_107_85, kd_107_99, kd_107_105, kd_107_109, kd_107_114, kd_107_115, kd_107_118, kd_107_119, kd_107_120, kd_109_45, kd_109_70, kd_109_83, kd_109_85, kd_109_99, kd_109_105, kd_109_107, kd_109_114, kd_109_115, kd_109_118, kd_109_119, kd_109_120, kd_114_45, kd_114_70, kd_114_83, kd_114_85, kd_114_99, kd_114_105, kd_114_107, kd_114_109, kd_114_115, kd_114_118, kd_114_119, kd_114_120, kd_115_45, kd_115_70, kd_115_83, kd_115_85, kd_115_99, kd_115_105, kd_115_107, kd_115_109, kd_115_114, kd_115_118, kd_115_119, kd_115_120, kd_118_45, kd_118_70, kd_118_83, kd_118_85, kd_118_99, kd_118_105, kd_118_107, kd_118_109, kd_118_114, kd_118_115, kd_118_119, kd_118_120, kd_119_45, kd_119_70, kd_119_83, kd_119_85, kd_119_99, kd_119_105, kd_119_107, kd_119_109, kd_119_114, kd_119_115, kd_119_118, kd_119_120, kd_120_45, kd_120_70, kd_120_83, kd_120_85, kd_120_99, kd_120_105, kd_120_107, kd_120_109, kd_120_114, kd_120_115, kd_120_118, kd_120_119, if_false, if_true]
        rw [up_n (by omega), up_n (by omega)]; exact o2
      rw [show (38 : Nat) = mf 9 from rfl, eσ.2.1 9 (by omega) (by omega) (by omega), e9]
      have fin : ∀ v, v = σ 9 → Q (sI h5 11 0 (mf 9) v) := fun v hv => by
        refine f _ (AA.of (σ := σ) ?_ (f5.f (by decide)) e11 k115)
        refine (eσ.s (i := 9) (v := v) (by omega) (by omega) (by omega) (by omega)).loc (fun j _ _ _ => ?_)
        by_cases e : j = 9
        · subst e; rw [up_e, e9, hv]
        · rw [up_n e]
      by_cases q : σ 9 = 0
      · rw [if_pos q]
        exact fin 0 q.symm
      · rw [if_neg q]
        refine fin 1 ?_
        rcases w.2.2.2.1 with x | x
        · exact absurd x q
        · exact x.symm
    · simp only [kd_45_70, kd_45_83, kd_45_85, kd_45_99, kd_45_105, kd_45_107, kd_45_109, kd_45_114, kd_45_115, kd_45_118, kd_45_119, kd_45_120, kd_70_45, kd_70_83, kd_70_85, kd_70_99, kd_70_105, kd_70_107, kd_70_109, kd_70_114, kd_70_115, kd_70_118, kd_70_119, kd_70_120, kd_83_45, kd_83_70, kd_83_85, kd_83_99, kd_83_105, kd_83_107, kd_83_109, kd_83_114, kd_83_115, kd_83_118, kd_83_119, kd_83_120, kd_85_45, kd_85_70, kd_85_83, kd_85_99, kd_85_105, kd_85_107, kd_85_109, kd_85_114, kd_85_115, kd_85_118, kd_85_119, kd_85_120, kd_99_45, kd_99_70, kd_99_83, kd_99_85, kd_99_105, kd_99_107, kd_99_109, kd_99_114, kd_99_115, kd_99_118, kd_99_119, kd_99_120, kd_105_45, kd_105_70, kd_105_83, kd_105_85, kd_105_99, kd_105_107, kd_105_109, kd_105_114, kd_105_115, kd_105_118, kd_105_119, kd_105_120, kd_107_45, kd_107_70, kd_107_83, kd_107_85, kd_107_99, kd_107_105, kd_107_109, kd_107_114, kd_107_115, kd_107_118, kd_107_119, kd_107_120, kd_109_45, kd_109_70, kd_109_83, kd_109_85, kd_109_99, kd_109_105, kd_109_107, kd_109_114, kd_109_115, kd_109_118, kd_109_119, kd_109_120, kd_114_45, kd_114_70, kd_114_83, kd_114_85, kd_114_99, kd_114_105, kd_114_107, kd_114_109, kd_114_115, kd_114_118, kd_114_119, kd_114_120, kd_115_45, kd_115_70, kd_115_83, kd_115_85, kd_115_99, kd_115_105, kd_115_107, kd_115_109, kd_115_114, kd_115_118, kd_115_119, kd_115_120, kd_118_45, kd_118_70, kd_118_83, kd_118_85, kd_118_99, kd_118_105, kd_118_107, kd_118_109, kd_118_114, kd_118_115, kd_118_119, kd_118_120, kd_119_45, kd_119_70, kd_119_83, kd_119_85, kd_119_99, kd_119_105, kd_119_107, kd_119_109, kd_119_114, kd_119_115, kd_119_118, kd_119_120, kd_120_45, kd_120_70, kd_120_83, kd_120_85, kd_120_99, kd_120_105, kd_120_107, kd_120_109, kd_120_114, kd_120_115, kd_120_118, kd_120_119, if_false, if_true]
      obtain ⟨hx, ex⟩ := cl_n ha (by decide)
      have va : vp_in a 8 := inN_vp ha (by decide)
      refine ⟨va, vm, va, ?_⟩
      rw [show a.toNatClampNeg = cl a from rfl, nI_clamp (show m < 2 ^ 31 by omega), gI_o (show (61 : Nat) ≠ 11 ∨ _ from Or.inl (by decide)), s2.2.2.1 _ hx, t3.I 37 0 m]
      have t4 := t3.s61 (b := cl a) (v := xDid σ code (20 + cl a) + gI h 37 0 m) hx
      have f4 := f3.c (j := 61) (k := cl a) (v := xDid σ code (20 + cl a) + gI h 37 0 m) (by omega)
      have g7 : gI (sI (sI h2 11 0 (mf 10) 1) 61 0 (cl a) (xDid σ code (20 + cl a) + gI h 37 0 m)) 11 0 37 = _ := t4.2.1 7 (by omega) (by omega) (by omega)
      rw [g7]
      have t5 : MS h h0 _ (sI (sI (sI h2 11 0 (mf 10) 1) 61 0 (cl a) (xDid σ code (20 + cl a) + gI h 37 0 m)) 11 0 37 (up (up (xDid σ code) 10 1) (20 + cl a) (xDid σ code (20 + cl a) + gI h 37 0 m) 7 ||| 0)) := t4.s (i := 7) (v := up (up (xDid σ code) 10 1) (20 + cl a) (xDid σ code (20 + cl a) + gI h 37 0 m) 7 ||| 0) (by omega) (by omega) (by omega) (by omega)
      have f5 := f4.f (k := 37) (v := up (up (xDid σ code) 10 1) (20 + cl a) (xDid σ code (20 + cl a) + gI h 37 0 m) 7 ||| 0) (by decide)
      generalize hh : sI (sI (sI h2 11 0 (mf 10) 1) 61 0 (cl a) (xDid σ code (20 + cl a) + gI h 37 0 m)) 11 0 37 (up (up (xDid σ code) 10 1) (20 + cl a) (xDid σ code (20 + cl a) + gI h 37 0 m) 7 ||| 0) = h5 at *
      have eσ : MS h h0 (xAct h m 99 a (xDid σ code)) h5 := t5.loc (fun j _ _ h3 => by
        unfold xAct
        simp only [kd_45_70, kd_45_83, kd_45_85, kd_45_99, kd_45_105, kd_45_107, kd_45_109, kd_45_114, kd_45_115, kd_45_118, kd_45_119, kd_45_120, kd_70_45, kd_70_83, kd_70_85, kd_70_99, kd_70_105, kd_70_107, kd_70_109, kd_70_114, kd_70_115, kd_70_118, kd_70_119, kd_70_120, kd_83_45, kd_83_70, kd_83_85, kd_83_99, kd_83_105, kd_83_107, kd_83_109, kd_83_114, kd_83_115, kd_83_118, kd_83_119, kd_83_120, kd_85_45, kd_85_70, kd_85_83, kd_85_99, kd_85_105, kd_85_107, kd_85_109, kd_85_114, kd_85_115, kd_85_118, kd_85_119, kd_85_120, kd_99_45, kd_99_70, kd_99_83, kd_99_85, kd_99_105, kd_99_107, kd_99_109, kd_99_114, kd_99_115, kd_99_118, kd_99_119, kd_99_120, kd_105_45, kd_105_70, kd_105_83, kd_105_85, kd_105_99, kd_105_107, kd_105_109, kd_105_114, kd_105_115, kd_105_118, kd_105_119, kd_105_120, kd_107_45, kd_107_70, kd_107_83, kd_107_85, kd_107_99, kd_107_105, kd_107_109, kd_107_114, kd_107_115, kd_107_118, kd_107_119, kd_107_120, kd_109_45, kd_109_70, kd_109_83, kd_109_85, kd_109_99, kd_109_105, kd_109_107, kd_109_114, kd_109_115, kd_109_118, kd_109_119, kd_109_120, kd_114_45, kd_114_70, kd_114_83, kd_114_85, kd_114_99, kd_114_105, kd_114_107, kd_114_109, kd_114_115, kd_114_118, kd_114_119, kd_114_120, kd_115_45, kd_115_70, kd_115_83, kd_115_85, kd_115_99, kd_115_105, kd_115_107, kd_115_109, kd_115_114, kd_115_118, kd_115_119, kd_115_120, kd_118_45, kd_118_70, kd_118_83, kd_118_85, kd_118_99, kd_118_105, kd_118_107, kd_118_109, kd_118_114, kd_118_115, kd_118_119, kd_118_120, kd_119_45, kd_119_70, kd_119_83, kd_119_85, kd_119_99, kd_119_105, kd_119_107, kd_119_109, kd_119_114, kd_119_115, kd_119_118, kd_119_120, kd_120_45, kd_120_70, kd_120_83, kd_120_85, kd_120_99, kd_120_105, kd_120_107, kd_120_109, kd_120_114, kd_120_115, kd_120_118, kd_120_119, if_false, if_true]
        rw [up_n (show j ≠ 30 + cl a by omega)]
        by_cases e : j = 7
        · subst e; rw [up_e]; simp
        · rw [up_n e])
      clear t3 t4 t5 f3 f4
      rw [eσ.I 33 0 m]
      refine ⟨vm, inN_vp hsn (by decide), ?_⟩
      have e9 : xAct h m 99 a (xDid σ code) 9 = σ 9 := by
        unfold xAct
        simp only [kd_45_70, kd_45_83, kd_45_85, kd_45_99, kd_45_105, kd_45_107, kd_45_109, kd_45_114, kd_45_115, kd_45_118, kd_45_119, kd_45_120, kd_70_45, kd_70_83, kd_70_85, kd_70_99, kd_70_105, kd_70_107, kd_70_109, kd_70_114, kd_70_115, kd_70_118, kd_70_119, kd_70_120, kd_83_45, kd_83_70, kd_83_85, kd_83_99, kd_83_105, kd_83_107, kd_83_109, kd_83_114, kd_83_115, kd_83_118, kd_83_119, kd_83_120, kd_85_45, kd_85_70, kd_85_83, kd_85_99, kd_85_105, kd_85_107, kd_85_109, kd_85_114, kd_85_115, kd_85_118, kd_85_119, kd_85_120, kd_99_45, kd_99_70, kd_99_83, kd_99_85, kd_99_105, kd_99_107, kd_99_109, kd_99_114, kd_99_115, kd_99_118, kd_99_119, kd_99_120, kd_105_45, kd_105_70, kd_105_83, kd_105_85, kd_105_99, kd_105_107, kd_105_109, kd_105_114, kd_105_115, kd_105_118, kd_105_119, kd_105_120, kd_107_45, kd_107_70, kd_107_83, kd_107_85, kd_107_99, kd_107_105, kd_107_109, kd_107_114, kd_107_115, kd_107_118, kd_107_119, kd_107_120, kd_109_45, kd_109_70, kd_109_83, kd_109_85, kd_109_99, kd_109_105, kd_109_107, kd_109_114, kd_109_115, kd_109_118, kd_109_119, kd_109_120, kd_114_45, kd_114_70, kd_114_83, kd_114_85, kd_114_99, kd_114_105, kd_114_107, kd_114_109, kd_114_115, kd_114_118, kd_114_119, kd_114_120, kd_115_45, kd_115_70, kd_115_83, kd_115_85, kd_115_99, kd_115_105, kd_115_107, kd_115_109, kd_115_114, kd_115_118, kd_115_119, kd_115_120, kd_118_45, kd_118_70, kd_118_83, kd_118_85, kd_118_99, kd_118_105, kd_118_107, kd_118_109, kd_118_114, kd_118_115, kd_118_119, kd_118_120, kd_119_45, kd_119_70, kd_119_83, kd_119_85, kd_119_99, kd_119_105, kd_119_107, kd_119_109, kd_119_114, kd_119_115, kd_119_118, kd_119_120, kd_120_45, kd_120_70, kd_120_83, kd_120_85, kd_120_99, kd_120_105, kd_120_107, kd_120_109, kd_120_114, kd_120_115, kd_120_118, kd_120_119, if_false, if_true]
        rw [up_n (by omega), up_n (by omega), up_n (by omega), did_o (by omega) (by omega)]
      have e11 : xAct h m 99 a (xDid σ code) 11 = 0 := by
        unfold xAct
        simp only [kd_45_70, kd_45_83, kd_45_85, kd_45_99, kd_45_105, kd_45_107, kd_45_109, kd_45_114, kd_45_115, kd_45_118, kd_45_119, kd_45_120, kd_70_45, kd_70_83, kd_70_85, kd_70_99, kd_70_105, kd_70_107, kd_70_109, kd_70_114, kd_70_115, kd_70_118, kd_70_119, kd_70_120, kd_83_45, kd_83_70, kd_83_85, kd_83_99, kd_83_105, kd_83_107, kd_83_109, kd_83_114, kd_83_115, kd_83_118, kd_83_119, kd_83_120, kd_85_45, kd_85_70, kd_85_83, kd_85_99, kd_85_105, kd_85_107, kd_85_109, kd_85_114, kd_85_115, kd_85_118, kd_85_119, kd_85_120, kd_99_45, kd_99_70, kd_99_83, kd_99_85, kd_99_105, kd_99_107, kd_99_109, kd_99_114, kd_99_115, kd_99_118, kd_99_119, kd_99_120, kd_105_45, kd_105_70, kd_105_83, kd_105_85, kd_105_99, kd_105_107, kd_105_109, kd_105_114, kd_105_115, kd_105_118, kd_105_119, kd_105_120, kd_107_45, kd_107_70, kd_107_83, kd_107_85, kd_107_99, kd_107_105, kd_107_109, kd_107_114, kd_107_115, kd_107_118, kd_107_119, kd_107_120, kd_109_45, kd_109_70, kd_109_83, kd_109_85, kd_109_99, kd_109_105, kd_109_107, kd_109_114, kd_109_115, kd_109_118, kd_109_119, kd_109_120, kd_114_45, kd_114_70, kd_114_83, kd_114_85, kd_114_99, kd_114_105, kd_114_107, kd_114_109, kd_114_115, kd_114_118, kd_114_119, kd_114_120, kd_115_45, kd_115_70, kd_115_83, kd_115_85, kd_115_99, kd_115_105, kd_115_107, kd_115_109, kd_115_114, kd_115_118, kd_115_119, kd_115_120, kd_118_45, kd_118_70, kd_118_83, kd_118_85, kd_118_99, kd_118_105, kd_118_107, kd_118_109, kd_118_114, kd_118_115, kd_118_119, kd_118_120, kd_119_45, kd_119_70, kd_119_83, kd_119_85, kd_119_99, kd_119_105, kd_119_107, kd_119_109, kd_119_114, kd_119_115, kd_119_118, kd_119_120, kd_120_45, kd_120_70, kd_120_83, kd_120_85, kd_120_99, kd_120_105, kd_120_107, kd_120_109, kd_120_114, kd_120_115, kd_120_118, kd_120_119, if_false, if_true]
        rw [up_n (by omega), up_n (by omega), up_n (by omega)]; exact o2
      rw [show (38 : Nat) = mf 9 from rfl, eσ.2.1 9 (by omega) (by omega) (by omega), e9]
      have fin : ∀ v, v = σ 9 → Q (sI h5 11 0 (mf 9) v) := fun v hv => by
        refine f _ (AA.of (σ := σ) ?_ (f5.f (by decide)) e11 k115)
        refine (eσ.s (i := 9) (v := v) (by omega) (by omega) (by omega) (by omega)).loc (fun j _ _ _ => ?_)
        by_cases e : j = 9
        · subst e; rw [up_e, e9, hv]
        · rw [up_n e]
      by_cases q : σ 9 = 0
      · rw [if_pos q]
        exact fin 0 q.symm
      · rw [if_neg q]
        refine fin 1 ?_
        rcases w.2.2.2.1 with x | x
        · exact absurd x q
        · exact x.symm
  -- the way there
  have way : ∀ b : Bool, (k = 119 → b = xKnown h m a σ) → wp_X11_sends_b44 k a (nI m) code (bit01 b) h' Q := fun b hb => by
    unfold wp_X11_sends_b44 wp_X11_sends_b96 LET
    simp only [forall_eq]
    by_cases c : gI h' 11 0 33 = 114
    · rw [if_pos c, g42]
      have cc : xClash k σ = true := by rw [cl9]; exact decide_eq_true (ch9.mp c)
      refine f _ (AA.of (σ := σ) ?_ (SF.rfl.f (by decide)) ?_ k115)
      · rw [one_clash cc]
        exact s.s (i := 3) (by omega) (by omega) (by omega) (by omega)
      · rw [one_clash cc, up_n (by omega)]; exact o
    rw [if_neg c]
    have cc : xClash k σ = false := by rw [cl9]; exact decide_eq_false (fun q => c (ch9.mpr q))
    rcases kk with rfl | ⟨rfl, ha⟩ | ⟨rfl, ha⟩
    · simp only [kd_45_70, kd_45_83, kd_45_85, kd_45_99, kd_45_105, kd_45_107, kd_45_109, kd_45_114, kd_45_115, kd_45_118, kd_45_119, kd_45_120, kd_70_45, kd_70_83, kd_70_85, kd_70_99, kd_70_105, kd_70_107, kd_70_109, kd_70_114, kd_70_115, kd_70_118, kd_70_119, kd_70_120, kd_83_45, kd_83_70, kd_83_85, kd_83_99, kd_83_105, kd_83_107, kd_83_109, kd_83_114, kd_83_115, kd_83_118, kd_83_119, kd_83_120, kd_85_45, kd_85_70, kd_85_83, kd_85_99, kd_85_105, kd_85_107, kd_85_109, kd_85_114, kd_85_115, kd_85_118, kd_85_119, kd_85_120, kd_99_45, kd_99_70, kd_99_83, kd_99_85, kd_99_105, kd_99_107, kd_99_109, kd_99_114, kd_99_115, kd_99_118, kd_99_119, kd_99_120, kd_105_45, kd_105_70, kd_105_83, kd_105_85, kd_105_99, kd_105_107, kd_105_109, kd_105_114, kd_105_115, kd_105_118, kd_105_119, kd_105_120, kd_107_45, kd_107_70, kd_107_83, kd_107_85, kd_107_99, kd_107_105, kd_107_109, kd_107_114, kd_107_115, kd_107_118, kd_107_119, kd_107_120, kd_109_45, kd_109_70, kd_109_83, kd_109_85, kd_109_99, kd_109_105, kd_109_107, kd_109_114, kd_109_115, kd_109_118, kd_109_119, kd_109_120, kd_114_45, kd_114_70, kd_114_83, kd_114_85, kd_114_99, kd_114_105, kd_114_107, kd_114_109, kd_114_115, kd_114_118, kd_114_119, kd_114_120, kd_115_45, kd_115_70, kd_115_83, kd_115_85, kd_115_99, kd_115_105, kd_115_107, kd_115_109, kd_115_114, kd_115_118, kd_115_119, kd_115_120, kd_118_45, kd_118_70, kd_118_83, kd_118_85, kd_118_99, kd_118_105, kd_118_107, kd_118_109, kd_118_114, kd_118_115, kd_118_119, kd_118_120, kd_119_45, kd_119_70, kd_119_83, kd_119_85, kd_119_99, kd_119_105, kd_119_107, kd_119_109, kd_119_114, kd_119_115, kd_119_118, kd_119_120, kd_120_45, kd_120_70, kd_120_83, kd_120_85, kd_120_99, kd_120_105, kd_120_107, kd_120_109, kd_120_114, kd_120_115, kd_120_118, kd_120_119, if_false]
      exact dn cc (by unfold xFault; simp [kd_45_70, kd_45_83, kd_45_85, kd_45_99, kd_45_105, kd_45_107, kd_45_109, kd_45_114, kd_45_115, kd_45_118, kd_45_119, kd_45_120, kd_70_45, kd_70_83, kd_70_85, kd_70_99, kd_70_105, kd_70_107, kd_70_109, kd_70_114, kd_70_115, kd_70_118, kd_70_119, kd_70_120, kd_83_45, kd_83_70, kd_83_85, kd_83_99, kd_83_105, kd_83_107, kd_83_109, kd_83_114, kd_83_115, kd_83_118, kd_83_119, kd_83_120, kd_85_45, kd_85_70, kd_85_83, kd_85_99, kd_85_105, kd_85_107, kd_85_109, kd_85_114, kd_85_115, kd_85_118, kd_85_119, kd_85_120, kd_99_45, kd_99_70, kd_99_83, kd_99_85, kd_99_105, kd_99_107, kd_99_109, kd_99_114, kd_99_115, kd_99_118, kd_99_119, kd_99_120, kd_105_45, kd_105_70, kd_105_83, kd_105_85, kd_105_99, kd_105_107, kd_105_109, kd_105_114, kd_105_115, kd_105_118, kd_105_119, kd_105_120, kd_107_45, kd_107_70, kd_107_83, kd_107_85, kd_107_99, kd_107_105, kd_107_109, kd_107_114, kd_107_115, kd_107_118, kd_107_119, kd_107_120, kd_109_45, kd_109_70, kd_109_83, kd_109_85, kd_109_99, kd_109_105, kd_109_107, kd_109_114, kd_109_115, kd_109_118, kd_109_119, kd_109_120, kd_114_45, kd_114_70, kd_114_83, kd_114_85, kd_114_99, kd_114_105, kd_114_107, kd_114_109, kd_114_115, kd_114_118, kd_114_119, kd_114_120, kd_115_45, kd_115_70, kd_115_83, kd_115_85, kd_115_99, kd_115_105, kd_115_107, kd_115_109, kd_115_114, kd_115_118, kd_115_119, kd_115_120, kd_118_45, kd_118_70, kd_118_83, kd_118_85, kd_118_99, kd_118_105, kd_118_107, kd_118_109, kd_118_114, kd_118_115, kd_118_119, kd_118_120, kd_119_45, kd_119_70, kd_119_83, kd_119_85, kd_119_99, kd_119_105, kd_119_107, kd_119_109, kd_119_114, kd_119_115, kd_119_118, kd_119_120, kd_120_45, kd_120_70, kd_120_83, kd_120_85, kd_120_99, kd_120_105, kd_120_107, kd_120_109, kd_120_114, kd_120_115, kd_120_118, kd_120_119])
    · simp only [kd_45_70, kd_45_83, kd_45_85, kd_45_99, kd_45_105, kd_45_107, kd_45_109, kd_45_114, kd_45_115, kd_45_118, kd_45_119, kd_45_120, kd_70_45, kd_70_83, kd_70_85, kd_70_99, kd_70_105, kd_70_107, kd_70_109, kd_70_114, kd_70_115, kd_70_118, kd_70_119, kd_70_120, kd_83_45, kd_83_70, kd_83_85, kd_83_99, kd_83_105, kd_83_107, kd_83_109, kd_83_114, kd_83_115, kd_83_118, kd_83_119, kd_83_120, kd_85_45, kd_85_70, kd_85_83, kd_85_99, kd_85_105, kd_85_107, kd_85_109, kd_85_114, kd_85_115, kd_85_118, kd_85_119, kd_85_120, kd_99_45, kd_99_70, kd_99_83, kd_99_85, kd_99_105, kd_99_107, kd_99_109, kd_99_114, kd_99_115, kd_99_118, kd_99_119, kd_99_120, kd_105_45, kd_105_70, kd_105_83, kd_105_85, kd_105_99, kd_105_107, kd_105_109, kd_105_114, kd_105_115, kd_105_118, kd_105_119, kd_105_120, kd_107_45, kd_107_70, kd_107_83, kd_107_85, kd_107_99, kd_107_105, kd_107_109, kd_107_114, kd_107_115, kd_107_118, kd_107_119, kd_107_120, kd_109_45, kd_109_70, kd_109_83, kd_109_85, kd_109_99, kd_109_105, kd_109_107, kd_109_114, kd_109_115, kd_109_118, kd_109_119, kd_109_120, kd_114_45, kd_114_70, kd_114_83, kd_114_85, kd_114_99, kd_114_105, kd_114_107, kd_114_109, kd_114_115, kd_114_118, kd_114_119, kd_114_120, kd_115_45, kd_115_70, kd_115_83, kd_115_85, kd_115_99, kd_115_105, kd_115_107, kd_115_109, kd_115_114, kd_115_118, kd_115_119, kd_115_120, kd_118_45, kd_118_70, kd_118_83, kd_118_85, kd_118_99, kd_118_105, kd_118_107, kd_118_109, kd_118_114, kd_118_115, kd_118_119, kd_118_120, kd_119_45, kd_119_70, kd_119_83, kd_119_85, kd_119_99, kd_119_105, kd_119_107, kd_119_109, kd_119_114, kd_119_115, kd_119_118, kd_119_120, kd_120_45, kd_120_70, kd_120_83, kd_120_85, kd_120_99, kd_120_105, kd_120_107, kd_120_109, kd_120_114, kd_120_115, kd_120_118, kd_120_119, if_false, if_true]
      have hb := hb rfl
      cases kn : xKnown h m a σ
      · rw [hb, kn, if_pos (show bit01 false = 0 from rfl)]
        exact dn cc (by unfold xFault; simp [kd_45_70, kd_45_83, kd_45_85, kd_45_99, kd_45_105, kd_45_107, kd_45_109, kd_45_114, kd_45_115, kd_45_118, kd_45_119, kd_45_120, kd_70_45, kd_70_83, kd_70_85, kd_70_99, kd_70_105, kd_70_107, kd_70_109, kd_70_114, kd_70_115, kd_70_118, kd_70_119, kd_70_120, kd_83_45, kd_83_70, kd_83_85, kd_83_99, kd_83_105, kd_83_107, kd_83_109, kd_83_114, kd_83_115, kd_83_118, kd_83_119, kd_83_120, kd_85_45, kd_85_70, kd_85_83, kd_85_99, kd_85_105, kd_85_107, kd_85_109, kd_85_114, kd_85_115, kd_85_118, kd_85_119, kd_85_120, kd_99_45, kd_99_70, kd_99_83, kd_99_85, kd_99_105, kd_99_107, kd_99_109, kd_99_114, kd_99_115, kd_99_118, kd_99_119, kd_99_120, kd_105_45, kd_105_70, kd_105_83, kd_105_85, kd_105_99, kd_105_107, kd_105_109, kd_105_114, kd_105_115, kd_105_118, kd_105_119, kd_105_120, kd_107_45, kd_107_70, kd_107_83, kd_107_85, kd_107_99, kd_107_105, kd_107_109, kd_107_114, kd_107_115, kd_107_118, kd_107_119, kd_107_120, kd_109_45, kd_109_70, kd_109_83, kd_109_85, kd_109_99, kd_109_105, kd_109_107, kd_109_114, kd_109_115, kd_109_118, kd_109_119, kd_109_120, kd_114_45, kd_114_70, kd_114_83, kd_114_85, kd_114_99, kd_114_105, kd_114_107, kd_114_109, kd_114_115, kd_114_118, kd_114_119, kd_114_120, kd_115_45, kd_115_70, kd_115_83, kd_115_85, kd_115_99, kd_115_105, kd_115_107, kd_115_109, kd_115_114, kd_115_118, kd_115_119, kd_115_120, kd_118_45, kd_118_70, kd_118_83, kd_118_85, kd_118_99, kd_118_105, kd_118_107, kd_118_109, kd_118_114, kd_118_115, kd_118_119, kd_118_120, kd_119_45, kd_119_70, kd_119_83, kd_119_85, kd_119_99, kd_119_105, kd_119_107, kd_119_109, kd_119_114, kd_119_115, kd_119_118, kd_119_120, kd_120_45, kd_120_70, kd_120_83, kd_120_85, kd_120_99, kd_120_105, kd_120_107, kd_120_109, kd_120_114, kd_120_115, kd_120_118, kd_120_119, kn])
      · rw [hb, kn, if_neg (show ¬ bit01 true = 0 by decide), g44]
        have z : xFault h m e 119 a σ = 5 := by unfold xFault; simp [kd_45_70, kd_45_83, kd_45_85, kd_45_99, kd_45_105, kd_45_107, kd_45_109, kd_45_114, kd_45_115, kd_45_118, kd_45_119, kd_45_120, kd_70_45, kd_70_83, kd_70_85, kd_70_99, kd_70_105, kd_70_107, kd_70_109, kd_70_114, kd_70_115, kd_70_118, kd_70_119, kd_70_120, kd_83_45, kd_83_70, kd_83_85, kd_83_99, kd_83_105, kd_83_107, kd_83_109, kd_83_114, kd_83_115, kd_83_118, kd_83_119, kd_83_120, kd_85_45, kd_85_70, kd_85_83, kd_85_99, kd_85_105, kd_85_107, kd_85_109, kd_85_114, kd_85_115, kd_85_118, kd_85_119, kd_85_120, kd_99_45, kd_99_70, kd_99_83, kd_99_85, kd_99_105, kd_99_107, kd_99_109, kd_99_114, kd_99_115, kd_99_118, kd_99_119, kd_99_120, kd_105_45, kd_105_70, kd_105_83, kd_105_85, kd_105_99, kd_105_107, kd_105_109, kd_105_114, kd_105_115, kd_105_118, kd_105_119, kd_105_120, kd_107_45, kd_107_70, kd_107_83, kd_107_85, kd_107_99, kd_107_105, kd_107_109, kd_107_114, kd_107_115, kd_107_118, kd_107_119, kd_107_120, kd_109_45, kd_109_70, kd_109_83, kd_109_85, kd_109_99, kd_109_105, kd_109_107, kd_109_114, kd_109_115, kd_109_118, kd_109_119, kd_109_120, kd_114_45, kd_114_70, kd_114_83, kd_114_85, kd_114_99, kd_114_105, kd_114_107, kd_114_109, kd_114_115, kd_114_118, kd_114_119, kd_114_120, kd_115_45, kd_115_70, kd_115_83, kd_115_85, kd_115_99, kd_115_105, kd_115_107, kd_115_109, kd_115_114, kd_115_118, kd_115_119, kd_115_120, kd_118_45, kd_118_70, kd_118_83, kd_118_85, kd_118_99, kd_118_105, kd_118_107, kd_118_109, kd_118_114, kd_118_115, kd_118_119, kd_118_120, kd_119_45, kd_119_70, kd_119_83, kd_119_85, kd_119_99, kd_119_105, kd_119_107, kd_119_109, kd_119_114, kd_119_115, kd_119_118, kd_119_120, kd_120_45, kd_120_70, kd_120_83, kd_120_85, kd_120_99, kd_120_105, kd_120_107, kd_120_109, kd_120_114, kd_120_115, kd_120_118, kd_120_119, kn]
        refine f _ (AA.of (σ := σ) ?_ (SF.rfl.f (by decide)) ?_ k115)
        · rw [one_fault cc (by rw [z]; decide), z]
          exact s.s (i := 5) (by omega) (by omega) (by omega) (by omega)
        · rw [one_fault cc (by rw [z]; decide), z, up_n (by omega)]; exact o
    · simp only [kd_45_70, kd_45_83, kd_45_85, kd_45_99, kd_45_105, kd_45_107, kd_45_109, kd_45_114, kd_45_115, kd_45_118, kd_45_119, kd_45_120, kd_70_45, kd_70_83, kd_70_85, kd_70_99, kd_70_105, kd_70_107, kd_70_109, kd_70_114, kd_70_115, kd_70_118, kd_70_119, kd_70_120, kd_83_45, kd_83_70, kd_83_85, kd_83_99, kd_83_105, kd_83_107, kd_83_109, kd_83_114, kd_83_115, kd_83_118, kd_83_119, kd_83_120, kd_85_45, kd_85_70, kd_85_83, kd_85_99, kd_85_105, kd_85_107, kd_85_109, kd_85_114, kd_85_115, kd_85_118, kd_85_119, kd_85_120, kd_99_45, kd_99_70, kd_99_83, kd_99_85, kd_99_105, kd_99_107, kd_99_109, kd_99_114, kd_99_115, kd_99_118, kd_99_119, kd_99_120, kd_105_45, kd_105_70, kd_105_83, kd_105_85, kd_105_99, kd_105_107, kd_105_109, kd_105_114, kd_105_115, kd_105_118, kd_105_119, kd_105_120, kd_107_45, kd_107_70, kd_107_83, kd_107_85, kd_107_99, kd_107_105, kd_107_109, kd_107_114, kd_107_115, kd_107_118, kd_107_119, kd_107_120, kd_109_45, kd_109_70, kd_109_83, kd_109_85, kd_109_99, kd_109_105, kd_109_107, kd_109_114, kd_109_115, kd_109_118, kd_109_119, kd_109_120, kd_114_45, kd_114_70, kd_114_83, kd_114_85, kd_114_99, kd_114_105, kd_114_107, kd_114_109, kd_114_115, kd_114_118, kd_114_119, kd_114_120, kd_115_45, kd_115_70, kd_115_83, kd_115_85, kd_115_99, kd_115_105, kd_115_107, kd_115_109, kd_115_114, kd_115_118, kd_115_119, kd_115_120, kd_118_45, kd_118_70, kd_118_83, kd_118_85, kd_118_99, kd_118_105, kd_118_107, kd_118_109, kd_118_114, kd_118_115, kd_118_119, kd_118_120, kd_119_45, kd_119_70, kd_119_83, kd_119_85, kd_119_99, kd_119_105, kd_119_107, kd_119_109, kd_119_114, kd_119_115, kd_119_118, kd_119_120, kd_120_45, kd_120_70, kd_120_83, kd_120_85, kd_120_99, kd_120_105, kd_120_107, kd_120_109, kd_120_114, kd_120_115, kd_120_118, kd_120_119, if_false, if_true]
      refine fu_w B s w ha ?_
      cases mu : xMuch h m a σ
      · rw [if_pos (show bit01 false = 0 from rfl)]
        exact dn cc (by unfold xFault; simp [kd_45_70, kd_45_83, kd_45_85, kd_45_99, kd_45_105, kd_45_107, kd_45_109, kd_45_114, kd_45_115, kd_45_118, kd_45_119, kd_45_120, kd_70_45, kd_70_83, kd_70_85, kd_70_99, kd_70_105, kd_70_107, kd_70_109, kd_70_114, kd_70_115, kd_70_118, kd_70_119, kd_70_120, kd_83_45, kd_83_70, kd_83_85, kd_83_99, kd_83_105, kd_83_107, kd_83_109, kd_83_114, kd_83_115, kd_83_118, kd_83_119, kd_83_120, kd_85_45, kd_85_70, kd_85_83, kd_85_99, kd_85_105, kd_85_107, kd_85_109, kd_85_114, kd_85_115, kd_85_118, kd_85_119, kd_85_120, kd_99_45, kd_99_70, kd_99_83, kd_99_85, kd_99_105, kd_99_107, kd_99_109, kd_99_114, kd_99_115, kd_99_118, kd_99_119, kd_99_120, kd_105_45, kd_105_70, kd_105_83, kd_105_85, kd_105_99, kd_105_107, kd_105_109, kd_105_114, kd_105_115, kd_105_118, kd_105_119, kd_105_120, kd_107_45, kd_107_70, kd_107_83, kd_107_85, kd_107_99, kd_107_105, kd_107_109, kd_107_114, kd_107_115, kd_107_118, kd_107_119, kd_107_120, kd_109_45, kd_109_70, kd_109_83, kd_109_85, kd_109_99, kd_109_105, kd_109_107, kd_109_114, kd_109_115, kd_109_118, kd_109_119, kd_109_120, kd_114_45, kd_114_70, kd_114_83, kd_114_85, kd_114_99, kd_114_105, kd_114_107, kd_114_109, kd_114_115, kd_114_118, kd_114_119, kd_114_120, kd_115_45, kd_115_70, kd_115_83, kd_115_85, kd_115_99, kd_115_105, kd_115_107, kd_115_109, kd_115_114, kd_115_118, kd_115_119, kd_115_120, kd_118_45, kd_118_70, kd_118_83, kd_118_85, kd_118_99, kd_118_105, kd_118_107, kd_118_109, kd_118_114, kd_118_115, kd_118_119, kd_118_120, kd_119_45, kd_119_70, kd_119_83, kd_119_85, kd_119_99, kd_119_105, kd_119_107, kd_119_109, kd_119_114, kd_119_115, kd_119_118, kd_119_120, kd_120_45, kd_120_70, kd_120_83, kd_120_85, kd_120_99, kd_120_105, kd_120_107, kd_120_109, kd_120_114, kd_120_115, kd_120_118, kd_120_119, mu])
      · rw [if_neg (show ¬ bit01 true = 0 by decide), g45]
        have z : xFault h m e 99 a σ = 6 := by unfold xFault; simp [kd_45_70, kd_45_83, kd_45_85, kd_45_99, kd_45_105, kd_45_107, kd_45_109, kd_45_114, kd_45_115, kd_45_118, kd_45_119, kd_45_120, kd_70_45, kd_70_83, kd_70_85, kd_70_99, kd_70_105, kd_70_107, kd_70_109, kd_70_114, kd_70_115, kd_70_118, kd_70_119, kd_70_120, kd_83_45, kd_83_70, kd_83_85, kd_83_99, kd_83_105, kd_83_107, kd_83_109, kd_83_114, kd_83_115, kd_83_118, kd_83_119, kd_83_120, kd_85_45, kd_85_70, kd_85_83, kd_85_99, kd_85_105, kd_85_107, kd_85_109, kd_85_114, kd_85_115, kd_85_118, kd_85_119, kd_85_120, kd_99_45, kd_99_70, kd_99_83, kd_99_85, kd_99_105, kd_99_107, kd_99_109, kd_99_114, kd_99_115, kd_99_118, kd_99_119, kd_99_120, kd_105_45, kd_105_70, kd_105_83, kd_105_85, kd_105_99, kd_105_107, kd_105_109, kd_105_114, kd_105_115, kd_105_118, kd_105_119, kd_105_120, kd_107_45, kd_107_70, kd_107_83, kd_107_85, kd_107_99, kd_107_105, kd_107_109, kd_107_114, kd_107_115, kd_107_118, kd_107_119, kd_107_120, kd_109_45, kd_109_70, kd_109_83, kd_109_85, kd_109_99, kd_109_105, kd_109_107, kd_109_114, kd_109_115, kd_109_118, kd_109_119, kd_109_120, kd_114_45, kd_114_70, kd_114_83, kd_114_85, kd_114_99, kd_114_105, kd_114_107, kd_114_109, kd_114_115, kd_114_118, kd_114_119, kd_114_120, kd_115_45, kd_115_70, kd_115_83, kd_115_85, kd_115_99, kd_115_105, kd_115_107, kd_115_109, kd_115_114, kd_115_118, kd_115_119, kd_115_120, kd_118_45, kd_118_70, kd_118_83, kd_118_85, kd_118_99, kd_118_105, kd_118_107, kd_118_109, kd_118_114, kd_118_115, kd_118_119, kd_118_120, kd_119_45, kd_119_70, kd_119_83, kd_119_85, kd_119_99, kd_119_105, kd_119_107, kd_119_109, kd_119_114, kd_119_115, kd_119_118, kd_119_120, kd_120_45, kd_120_70, kd_120_83, kd_120_85, kd_120_99, kd_120_105, kd_120_107, kd_120_109, kd_120_114, kd_120_115, kd_120_118, kd_120_119, mu]
        refine f _ (AA.of (σ := σ) ?_ (SF.rfl.f (by decide)) ?_ k115)
        · rw [one_fault cc (by rw [z]; decide), z]
          exact s.s (i := 6) (by omega) (by omega) (by omega) (by omega)
        · rw [one_fault cc (by rw [z]; decide), z, up_n (by omega)]; exact o
  unfold wp_X11_sends wp_X11_sends_b39
  refine ⟨vm, ?_⟩
  rw [nI_clamp (by omega), s.I 33 0 m, s.I 34 0 m, g37]
  by_cases q1 : a = gI h 33 0 m
  · rw [if_pos q1]
    exact way true (fun _ => by unfold xKnown; simp [q1])
  rw [if_neg q1]
  by_cases k119 : k = 119
  · have ha : inN a 10 := by
      rcases kk with rfl | ⟨rfl, ha⟩ | ⟨rfl, ha⟩
      · exact absurd k119 (by decide)
      · exact ha
      · exact absurd k119 (by decide)
    obtain ⟨hx, ex⟩ := cl_n ha (by decide)
    rw [show a - a / 10 * 10 = a by rw [ex]; exact rem10 _ hx]
    have kn : xKnown h m a σ = (bI (gI h 34 0 m) (cl a) || bI (σ 7) (cl a)) := by unfold xKnown; rw [bI_or]; simp [q1]
    by_cases q2 : (gI h 34 0 m >>> (a &&& 31)) &&& 1 = 1
    · rw [if_pos q2]
      exact way true (fun _ => by rw [kn, (sr_w ha (by decide)).mp q2]; rfl)
    rw [if_neg q2]
    have b2 : bI (gI h 34 0 m) (cl a) = false := by
      cases b : bI (gI h 34 0 m) (cl a)
      · rfl
      · exact absurd ((sr_w ha (by decide)).mpr b) q2
    by_cases q3 : (σ 7 >>> (a &&& 31)) &&& 1 = 1
    · rw [if_pos q3]
      exact way true (fun _ => by rw [kn, (sr_w ha (by decide)).mp q3]; simp)
    rw [if_neg q3]
    have b3 : bI (σ 7) (cl a) = false := by
      cases b : bI (σ 7) (cl a)
      · rfl
      · exact absurd ((sr_w ha (by decide)).mpr b) q3
    exact way false (fun _ => by rw [kn, b2, b3]; rfl)
  · have wy : ∀ b, wp_X11_sends_b44 k a (nI m) code (bit01 b) h' Q := fun b => way b (fun q => absurd q k119)
    split
    · exact wy true
    · split
      · exact wy true
      · exact wy false
end
