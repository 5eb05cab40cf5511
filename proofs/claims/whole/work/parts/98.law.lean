/-! the law: every call keeps Sim, and no answer differs -/
section
variable {i : Nat} {G Z : Hp → Prop}
theorem sk_of (g : ∀ h, Sim (i + 1) h → G h) : SK i (fun r b h => wp_X11_thrown h (fun t => if t = r then (if r = 0 then (vp_in 0 1 ∧ if (gJ h 75 0 (0 : Int32).toNatClampNeg) = b.toInt64 then (G h) else (Z h)) else (G h)) else (Z h))) := by
  intro r b h S e o
  unfold wp_X11_thrown
  dsimp only
  rw [if_pos e]
  by_cases r0 : r = 0
  · rw [if_pos r0, z_cl, if_pos (o r0)]
    exact ⟨z_in.mpr trivial, g h S⟩
  · rw [if_neg r0]
    exact g h S
theorem skb_of (g : ∀ h, Sim (i + 1) h → G h) : SKB i (fun r b h => wp_X11_thrown h (fun t => if t = r then (if r = 0 then (vp_in 0 1 ∧ if b = 0 then (if (gJ h 75 0 (0 : Int32).toNatClampNeg) = 0 then (G h) else (Z h)) else (if (gJ h 75 0 (0 : Int32).toNatClampNeg) = 1 then (G h) else (Z h))) else (G h)) else (Z h))) := by
  intro r b h S e o
  unfold wp_X11_thrown
  dsimp only
  rw [if_pos e]
  by_cases r0 : r = 0
  · obtain ⟨b0 | b0, o⟩ := o r0
    · subst b0
      rw [if_pos r0, z_cl, if_pos rfl, if_pos (show gJ h 75 0 0 = 0 from o)]
      exact ⟨z_in.mpr trivial, g h S⟩
    · subst b0
      rw [if_pos r0, z_cl, if_neg z_10.mp, if_pos (show gJ h 75 0 0 = 1 from o)]
      exact ⟨z_in.mpr trivial, g h S⟩
  · rw [if_neg r0]
    exact g h S
theorem skn_of (g : ∀ h, Sim (i + 1) h → G h) : SKN i (fun r b h => if r = b then (G h) else (Z h)) := by
  intro r h S
  show if r = r then (G h) else (Z h)
  rw [if_pos rfl]
  exact g h S
theorem skj_of (g : ∀ h, Sim (i + 1) h → G h) : SKJ i (fun r b h => if r = b then (G h) else (Z h)) := by
  intro r h S
  show if r = r then (G h) else (Z h)
  rw [if_pos rfl]
  exact g h S
theorem skf_of (g : ∀ h, Sim (i + 1) h → G h) : SKF i (fun r b h => wp_X11_thrown h (fun t => if t = r then (if r = 0 then (vp_in 0 1 ∧ vf_n64 (FP.f2d b) ∧ if (Op.cmpValue (FP.dcmp (gD h 76 0 (0 : Int32).toNatClampNeg) (FP.f2d b)) .l) = 0 then (G h) else (if (Op.cmpValue (FP.dcmp (gD h 76 0 (0 : Int32).toNatClampNeg) (gD h 76 0 (0 : Int32).toNatClampNeg)) .l) = 0 then (Z h) else (if (Op.cmpValue (FP.fcmp b b) .l) = 0 then (Z h) else (G h)))) else (G h)) else (Z h))) := by
  intro r b h S e o
  unfold wp_X11_thrown
  dsimp only
  rw [if_pos e]
  by_cases r0 : r = 0
  · obtain ⟨o1, o2, o3⟩ := o r0
    rw [if_pos r0, z_cl, o1, if_pos o3]
    exact ⟨z_in.mpr trivial, o2, g h S⟩
  · rw [if_neg r0]
    exact g h S
theorem skd_of (g : ∀ h, Sim (i + 1) h → G h) : SKD i (fun r b h => wp_X11_thrown h (fun t => if t = r then (if r = 0 then (vp_in 0 1 ∧ if (Op.cmpValue (FP.dcmp (gD h 76 0 (0 : Int32).toNatClampNeg) b) .l) = 0 then (G h) else (if (Op.cmpValue (FP.dcmp (gD h 76 0 (0 : Int32).toNatClampNeg) (gD h 76 0 (0 : Int32).toNatClampNeg)) .l) = 0 then (Z h) else (if (Op.cmpValue (FP.dcmp b b) .l) = 0 then (Z h) else (G h)))) else (G h)) else (Z h))) := by
  intro r b h S e o
  unfold wp_X11_thrown
  dsimp only
  rw [if_pos e]
  by_cases r0 : r = 0
  · have o1 := o r0
    rw [if_pos r0, z_cl, o1]
    refine ⟨z_in.mpr trivial, ?_⟩
    by_cases c : (Op.cmpValue (FP.dcmp b b) .l) = 0
    · rw [if_pos c]
      exact g h S
    · rw [if_neg c, if_neg c, if_neg c]
      exact g h S
  · rw [if_neg r0]
    exact g h S
end
theorem law_step {Ls i : Nat} {xs : Nat → Int32} {x5 : Int32} {h : Hp} {P Q : Int32 → Hp → Prop} (hi : i < 2 ^ 20) (S : Sim i h) (v0 : vp_in x5 Ls) (v1 : vp_in (x5 + 1) Ls) (v2 : vp_in (x5 + 2) Ls) (v3 : vp_in (x5 + 3) Ls) (v4 : vp_in (x5 + 4) Ls) (v5 : vp_in (x5 + 5) Ls) (hq : Q 1 h) (hP : ∀ h', Sim (i + 1) h' → P (x5 + 6) h') : wp_L_law_b28F Ls xs Q P x5 h := by
  have g : ∀ h', Sim (i + 1) h' → wp_L_law_b1951 Ls xs x5 h' P Q := by
    intro h' S'
    unfold wp_L_law_b1951 LET
    rintro y rfl
    exact hP h' S'
  unfold wp_L_law_b28F
  by_cases e : (nI Ls - 6) < x5
  · rw [if_pos e]
    exact hq
  rw [if_neg e]
  refine ⟨v0, ?_⟩
  by_cases c0 : (xs x5.toNatClampNeg) &&& 31 = 0
  · rw [if_pos c0]
    refine ⟨v1, v2, v3, v4, v5, c_mail S _ _ _ _ _ (sk_of ?_)⟩
    exact g
  rw [if_neg c0]
  by_cases c1 : (xs x5.toNatClampNeg) &&& 31 = 1
  · rw [if_pos c1]
    refine ⟨v1, c_pass S _ (sk_of ?_)⟩
    exact g
  rw [if_neg c1]
  by_cases c2 : (xs x5.toNatClampNeg) &&& 31 = 2
  · rw [if_pos c2]
    refine ⟨v1, v2, c_setQuota S _ _ (sk_of ?_)⟩
    exact g
  rw [if_neg c2]
  by_cases c3 : (xs x5.toNatClampNeg) &&& 31 = 3
  · rw [if_pos c3]
    refine ⟨v1, c_inBox S _ (sk_of ?_)⟩
    exact g
  rw [if_neg c3]
  by_cases c4 : (xs x5.toNatClampNeg) &&& 31 = 4
  · rw [if_pos c4]
    refine ⟨v1, c_boxOf S _ (sk_of ?_)⟩
    exact g
  rw [if_neg c4]
  by_cases c5 : (xs x5.toNatClampNeg) &&& 31 = 5
  · rw [if_pos c5]
    refine ⟨v1, v2, c_hasFlag S _ _ (skb_of ?_)⟩
    exact g
  rw [if_neg c5]
  by_cases c6 : (xs x5.toNatClampNeg) &&& 31 = 6
  · rw [if_pos c6]
    refine ⟨v1, v2, c_move S _ _ (sk_of ?_)⟩
    exact g
  rw [if_neg c6]
  by_cases c7 : (xs x5.toNatClampNeg) &&& 31 = 7
  · rw [if_pos c7]
    refine ⟨v1, v2, v3, c_test S _ _ _ (pk_vc _) (sk_of ?_)⟩
    exact g
  rw [if_neg c7]
  by_cases c8 : (xs x5.toNatClampNeg) &&& 31 = 8
  · rw [if_pos c8]
    refine ⟨v1, v2, c_holds S _ _ (skb_of ?_)⟩
    exact g
  rw [if_neg c8]
  by_cases c9 : (xs x5.toNatClampNeg) &&& 31 = 9
  · rw [if_pos c9]
    refine ⟨v1, v2, c_rule S _ _ (sk_of ?_)⟩
    exact g
  rw [if_neg c9]
  by_cases c10 : (xs x5.toNatClampNeg) &&& 31 = 10
  · rw [if_pos c10]
    refine ⟨v1, v2, v3, v4, c_action S _ _ _ _ (pk_vc _) (sk_of ?_)⟩
    exact g
  rw [if_neg c10]
  by_cases c11 : (xs x5.toNatClampNeg) &&& 31 = 11
  · rw [if_pos c11]
    refine ⟨v1, c_clear S _ (sk_of ?_)⟩
    exact g
  rw [if_neg c11]
  by_cases c12 : (xs x5.toNatClampNeg) &&& 31 = 12
  · rw [if_pos c12]
    refine ⟨v1, v2, v3, c_reorder S _ _ _ (sk_of ?_)⟩
    exact g
  rw [if_neg c12]
  by_cases c13 : (xs x5.toNatClampNeg) &&& 31 = 13
  · rw [if_pos c13]
    refine ⟨v1, c_deliver hi S _ (sk_of ?_)⟩
    exact g
  rw [if_neg c13]
  by_cases c14 : (xs x5.toNatClampNeg) &&& 31 = 14
  · rw [if_pos c14]
    refine ⟨v1, v2, c_attempt hi S _ _ (sk_of ?_)⟩
    exact g
  rw [if_neg c14]
  by_cases c15 : (xs x5.toNatClampNeg) &&& 31 = 15
  · rw [if_pos c15]
    refine c_done S (skn_of ?_)
    exact g
  rw [if_neg c15]
  by_cases c16 : (xs x5.toNatClampNeg) &&& 31 = 16
  · rw [if_pos c16]
    refine ⟨v1, c_doneAt S _ (sk_of ?_)⟩
    exact g
  rw [if_neg c16]
  by_cases c17 : (xs x5.toNatClampNeg) &&& 31 = 17
  · rw [if_pos c17]
    refine c_clashes S (skn_of ?_)
    exact g
  rw [if_neg c17]
  by_cases c18 : (xs x5.toNatClampNeg) &&& 31 = 18
  · rw [if_pos c18]
    refine ⟨v1, c_faults S _ (sk_of ?_)⟩
    exact g
  rw [if_neg c18]
  by_cases c19 : (xs x5.toNatClampNeg) &&& 31 = 19
  · rw [if_pos c19]
    refine c_flags S (skn_of ?_)
    exact g
  rw [if_neg c19]
  by_cases c20 : (xs x5.toNatClampNeg) &&& 31 = 20
  · rw [if_pos c20]
    refine ⟨v1, c_replies S _ (sk_of ?_)⟩
    exact g
  rw [if_neg c20]
  by_cases c21 : (xs x5.toNatClampNeg) &&& 31 = 21
  · rw [if_pos c21]
    refine ⟨v1, c_forwarded S _ (sk_of ?_)⟩
    exact g
  rw [if_neg c21]
  by_cases c22 : (xs x5.toNatClampNeg) &&& 31 = 22
  · rw [if_pos c22]
    refine ⟨v1, v2, c_difference hi S _ _ (sk_of ?_)⟩
    exact g
  rw [if_neg c22]
  by_cases c23 : (xs x5.toNatClampNeg) &&& 31 = 23
  · rw [if_pos c23]
    refine ⟨v1, v2, c_isShadowed S _ _ (skb_of ?_)⟩
    exact g
  rw [if_neg c23]
  by_cases c24 : (xs x5.toNatClampNeg) &&& 31 = 24
  · rw [if_pos c24]
    refine ⟨v1, v2, c_areSame S _ _ (skb_of ?_)⟩
    exact g
  rw [if_neg c24]
  by_cases c25 : (xs x5.toNatClampNeg) &&& 31 = 25
  · rw [if_pos c25]
    refine ⟨v1, c_learn S _ (sk_of ?_)⟩
    exact g
  rw [if_neg c25]
  by_cases c26 : (xs x5.toNatClampNeg) &&& 31 = 26
  · rw [if_pos c26]
    refine c_sum S (skj_of ?_)
    exact g
  rw [if_neg c26]
  by_cases c27 : (xs x5.toNatClampNeg) &&& 31 = 27
  · rw [if_pos c27]
    refine c_goneShare S (skf_of ?_)
    exact g
  rw [if_neg c27]
  by_cases c28 : (xs x5.toNatClampNeg) &&& 31 = 28
  · rw [if_pos c28]
    refine ⟨v1, c_meanSize S _ (skd_of ?_)⟩
    exact g
  rw [if_neg c28]
  by_cases c29 : (xs x5.toNatClampNeg) &&& 31 = 29
  · rw [if_pos c29]
    refine c_isTrue hi S (skn_of ?_)
    exact g
  rw [if_neg c29]
  exact g h (S.mono (by omega))
theorem law_all : LawOK := by
  intro Ls xs hL
  refine start_w (fun H S0 => ?_)
  unfold wp_L_law_b28
  refine LFP2.by (I := fun x h => ∃ i, 6 * i ≤ 3072 ∧ x = nI (6 * i) ∧ Sim i h) (μ := fun x _ => 4000 - x.toNatClampNeg) ⟨0, by omega, rfl, S0⟩ ?_
  rintro x h ⟨i, hi, rfl, S⟩ P hP
  by_cases e : (nI Ls - 6) < nI (6 * i)
  · unfold wp_L_law_b28F
    rw [if_pos e]
  · have b := law_bound hL hi e
    have v : ∀ k, k < 6 → vp_in (nI (6 * i) + nI k) Ls := fun k hk => by rw [nI_plus]; exact vp_in_nI (by omega) (by omega)
    refine law_step (i := i) (by omega) S (vp_in_nI (by omega) (by omega)) (v 1 (by omega)) (v 2 (by omega)) (v 3 (by omega)) (v 4 (by omega)) (v 5 (by omega)) rfl (fun h' S' => ?_)
    refine hP _ _ ⟨i + 1, by omega, ?_, S'⟩ ?_
    · rw [show (6 : Int32) = nI 6 from rfl, nI_plus]; rfl
    · rw [show (6 : Int32) = nI 6 from rfl, nI_plus, nI_clamp (by omega), nI_clamp (by omega)]; omega
