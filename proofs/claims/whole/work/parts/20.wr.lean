def rm_L_mail : Room := { frames := 7, cells := 1, slots := 6, locals := 145 }
def wp_L_mail (p1 : Int32) (p2 : Int32) (p3 : Int32) (p4 : Int32) (p5 : Int32) (h : Hp) (Q : Int32 → Hp → Prop) : Prop := wp_X10_mail p1 p2 p3 p4 p5 h (fun r1 h2 => vp_in 0 1 ∧ LET (sJ h2 75 0 (0 : Int32).toNatClampNeg r1.toInt64) fun h8 => Q 0 h8) (fun e u4 => if e = "java/lang/IllegalArgumentException" then (Q 1 u4) else if e = "java/lang/IllegalStateException" then (Q 2 u4) else False)
def rm_L_pass : Room := { frames := 7, cells := 1, slots := 6, locals := 141 }
def wp_L_pass (p1 : Int32) (h : Hp) (Q : Int32 → Hp → Prop) : Prop := wp_X10_pass p1 h (fun r1 h2 => vp_in 0 1 ∧ LET (sJ h2 75 0 (0 : Int32).toNatClampNeg r1.toInt64) fun h7 => Q 0 h7) (fun e u4 => if e = "java/lang/IllegalArgumentException" then (Q 1 u4) else False)
def rm_L_setQuota : Room := { frames := 7, cells := 1, slots := 6, locals := 143 }
def wp_L_setQuota (p1 : Int32) (p2 : Int32) (h : Hp) (Q : Int32 → Hp → Prop) : Prop := wp_X10_setQuota p1 p2 h (fun r1 h2 => vp_in 0 1 ∧ LET (sJ h2 75 0 (0 : Int32).toNatClampNeg r1.toInt64) fun h8 => Q 0 h8) (fun e u4 => if e = "java/lang/IndexOutOfBoundsException" then (Q 1 u4) else if e = "java/lang/IllegalArgumentException" then (Q 2 u4) else False)
def rm_L_inBox : Room := { frames := 8, cells := 1, slots := 6, locals := 162 }
def wp_L_inBox (p1 : Int32) (h : Hp) (Q : Int32 → Hp → Prop) : Prop := wp_X10_inBox p1 h (fun r1 => vp_in 0 1 ∧ LET (sJ h 75 0 (0 : Int32).toNatClampNeg r1.toInt64) fun h5 => Q 0 h5) (fun e => if e = "java/lang/IndexOutOfBoundsException" then (Q 1 h) else False)
def rm_L_boxOf : Room := { frames := 8, cells := 2, slots := 12, locals := 162 }
def wp_L_boxOf (p1 : Int32) (h : Hp) (Q : Int32 → Hp → Prop) : Prop := wp_X10_boxOf p1 h (fun r1 => vp_in 0 1 ∧ LET (sJ h 75 0 (0 : Int32).toNatClampNeg r1.toInt64) fun h6 => Q 0 h6) (fun e => if e = "java/lang/IndexOutOfBoundsException" then (Q 1 h) else if e = "java/util/NoSuchElementException" then (Q 2 h) else False)
def rm_L_hasFlag : Room := { frames := 8, cells := 2, slots := 12, locals := 163 }
def wp_L_hasFlag_b16 (s1 : Int32) (s2 : Int64) (h : Hp)  (Q : Int32 → Hp → Prop) : Prop := vp_in s1 1 ∧ LET (sJ h 75 0 s1.toNatClampNeg s2) fun h2 => Q 0 h2
def wp_L_hasFlag (p1 : Int32) (p2 : Int32) (h : Hp) (Q : Int32 → Hp → Prop) : Prop := wp_X10_hasFlag p1 p2 h (fun r1 => if r1 = 0 then (wp_L_hasFlag_b16 0 0 h Q) else (wp_L_hasFlag_b16 0 1 h Q)) (fun e => if e = "java/lang/IndexOutOfBoundsException" then (Q 1 h) else False)
def rm_L_move : Room := { frames := 8, cells := 3, slots := 18, locals := 165 }
def wp_L_move (p1 : Int32) (p2 : Int32) (h : Hp) (Q : Int32 → Hp → Prop) : Prop := wp_X10_move p1 p2 h (fun r1 h2 => vp_in 0 1 ∧ LET (sJ h2 75 0 (0 : Int32).toNatClampNeg r1.toInt64) fun h8 => Q 0 h8) (fun e u4 => if e = "java/lang/IndexOutOfBoundsException" then (Q 1 u4) else if e = "java/util/NoSuchElementException" then (Q 2 u4) else False)
def rm_L_test : Room := { frames := 8, cells := 3, slots := 18, locals := 165 }
def wp_L_test (p1 : Int32) (p2 : Int32) (p3 : Int32) (h : Hp) (Q : Int32 → Hp → Prop) : Prop := wp_X10_test p1 p2 p3 h (fun r1 h2 => vp_in 0 1 ∧ LET (sJ h2 75 0 (0 : Int32).toNatClampNeg r1.toInt64) fun h9 => Q 0 h9) (fun e u4 => if e = "java/lang/IllegalArgumentException" then (Q 1 u4) else if e = "java/lang/IndexOutOfBoundsException" then (Q 2 u4) else if e = "java/lang/IllegalStateException" then (Q 3 u4) else False)
def rm_L_holds : Room := { frames := 8, cells := 2, slots := 12, locals := 164 }
def wp_L_holds_b16 (s1 : Int32) (s2 : Int64) (h : Hp)  (Q : Int32 → Hp → Prop) : Prop := vp_in s1 1 ∧ LET (sJ h 75 0 s1.toNatClampNeg s2) fun h2 => Q 0 h2
def wp_L_holds (p1 : Int32) (p2 : Int32) (h : Hp) (Q : Int32 → Hp → Prop) : Prop := wp_X10_holds p1 p2 h (fun r1 => if r1 = 0 then (wp_L_holds_b16 0 0 h Q) else (wp_L_holds_b16 0 1 h Q)) (fun e => if e = "java/lang/IndexOutOfBoundsException" then (Q 1 h) else False)
def rm_L_rule : Room := { frames := 8, cells := 3, slots := 18, locals := 164 }
def wp_L_rule (p1 : Int32) (p2 : Int32) (h : Hp) (Q : Int32 → Hp → Prop) : Prop := wp_X10_rule p1 p2 h (fun r1 h2 => vp_in 0 1 ∧ LET (sJ h2 75 0 (0 : Int32).toNatClampNeg r1.toInt64) fun h8 => Q 0 h8) (fun e u4 => if e = "java/lang/IndexOutOfBoundsException" then (Q 1 u4) else if e = "java/lang/IllegalStateException" then (Q 2 u4) else False)
def rm_L_action : Room := { frames := 9, cells := 3, slots := 18, locals := 188 }
def wp_L_action (p1 : Int32) (p2 : Int32) (p3 : Int32) (p4 : Int32) (h : Hp) (Q : Int32 → Hp → Prop) : Prop := wp_X10_action p1 p2 p3 p4 h (fun r1 h2 => vp_in 0 1 ∧ LET (sJ h2 75 0 (0 : Int32).toNatClampNeg r1.toInt64) fun h9 => Q 0 h9) (fun e u4 => if e = "java/lang/IndexOutOfBoundsException" then (Q 1 u4) else if e = "java/lang/IllegalArgumentException" then (Q 2 u4) else if e = "java/lang/IllegalStateException" then (Q 3 u4) else False)
def rm_L_clear : Room := { frames := 8, cells := 1, slots := 6, locals := 163 }
def wp_L_clear (p1 : Int32) (h : Hp) (Q : Int32 → Hp → Prop) : Prop := wp_X10_clear p1 h (fun r1 h2 => vp_in 0 1 ∧ LET (sJ h2 75 0 (0 : Int32).toNatClampNeg r1.toInt64) fun h7 => Q 0 h7) (fun e u4 => if e = "java/lang/IndexOutOfBoundsException" then (Q 1 u4) else False)
def rm_L_reorder : Room := { frames := 9, cells := 4, slots := 24, locals := 186 }
def wp_L_reorder (p1 : Int32) (p2 : Int32) (p3 : Int32) (h : Hp) (Q : Int32 → Hp → Prop) : Prop := wp_X10_reorder p1 p2 p3 h (fun r1 h2 => vp_in 0 1 ∧ LET (sJ h2 75 0 (0 : Int32).toNatClampNeg r1.toInt64) fun h7 => Q 0 h7) (fun e u4 => if e = "java/lang/IndexOutOfBoundsException" then (Q 1 u4) else False)
def rm_L_deliver : Room := { frames := 27, cells := 1, slots := 6, locals := 653 }
def wp_L_deliver (p1 : Int32) (h : Hp) (Q : Int32 → Hp → Prop) : Prop := wp_X10_deliver p1 h (fun r1 h2 => vp_in 0 1 ∧ LET (sJ h2 75 0 (0 : Int32).toNatClampNeg r1.toInt64) fun h7 => Q 0 h7) (fun e u4 => if e = "java/lang/IndexOutOfBoundsException" then (Q 1 u4) else False)
def rm_L_attempt : Room := { frames := 27, cells := 2, slots := 12, locals := 654 }
def wp_L_attempt (p1 : Int32) (p2 : Int32) (h : Hp) (Q : Int32 → Hp → Prop) : Prop := wp_X10_attempt p1 p2 h (fun r1 h2 => vp_in 0 1 ∧ LET (sJ h2 75 0 (0 : Int32).toNatClampNeg r1.toInt64) fun h7 => Q 0 h7) (fun e u4 => if e = "java/lang/IndexOutOfBoundsException" then (Q 1 u4) else False)
def rm_L_doneAt : Room := { frames := 8, cells := 1, slots := 6, locals := 162 }
def wp_L_doneAt (p1 : Int32) (h : Hp) (Q : Int32 → Hp → Prop) : Prop := wp_X10_doneAt p1 h (fun r1 => vp_in 0 1 ∧ LET (sJ h 75 0 (0 : Int32).toNatClampNeg r1.toInt64) fun h5 => Q 0 h5) (fun e => if e = "java/lang/IndexOutOfBoundsException" then (Q 1 h) else False)
def rm_L_faults : Room := { frames := 7, cells := 1, slots := 6, locals := 141 }
def wp_L_faults (p1 : Int32) (h : Hp) (Q : Int32 → Hp → Prop) : Prop := wp_X10_faults p1 h (fun r1 => vp_in 0 1 ∧ LET (sJ h 75 0 (0 : Int32).toNatClampNeg r1.toInt64) fun h5 => Q 0 h5) (fun e => if e = "java/lang/IllegalArgumentException" then (Q 1 h) else False)
def rm_L_replies : Room := { frames := 8, cells := 1, slots := 6, locals := 162 }
def wp_L_replies (p1 : Int32) (h : Hp) (Q : Int32 → Hp → Prop) : Prop := wp_X10_replies p1 h (fun r1 => vp_in 0 1 ∧ LET (sJ h 75 0 (0 : Int32).toNatClampNeg r1.toInt64) fun h5 => Q 0 h5) (fun e => if e = "java/lang/IndexOutOfBoundsException" then (Q 1 h) else False)
def rm_L_forwarded : Room := { frames := 8, cells := 1, slots := 6, locals := 162 }
def wp_L_forwarded (p1 : Int32) (h : Hp) (Q : Int32 → Hp → Prop) : Prop := wp_X10_forwarded p1 h (fun r1 => vp_in 0 1 ∧ LET (sJ h 75 0 (0 : Int32).toNatClampNeg r1.toInt64) fun h5 => Q 0 h5) (fun e => if e = "java/lang/IndexOutOfBoundsException" then (Q 1 h) else False)
def rm_L_difference : Room := { frames := 27, cells := 2, slots := 12, locals := 658 }
def wp_L_difference (p1 : Int32) (p2 : Int32) (h : Hp) (Q : Int32 → Hp → Prop) : Prop := wp_X10_difference p1 p2 h (fun r1 h2 => vp_in 0 1 ∧ LET (sJ h2 75 0 (0 : Int32).toNatClampNeg r1.toInt64) fun h7 => Q 0 h7) (fun e u4 => if e = "java/lang/IndexOutOfBoundsException" then (Q 1 u4) else False)
def rm_L_isShadowed : Room := { frames := 47, cells := 2, slots := 12, locals := 1442 }
def wp_L_isShadowed_b16 (s1 : Int32) (s2 : Int64) (h : Hp)  (Q : Int32 → Hp → Prop) : Prop := vp_in s1 1 ∧ LET (sJ h 75 0 s1.toNatClampNeg s2) fun h2 => Q 0 h2
def wp_L_isShadowed (p1 : Int32) (p2 : Int32) (h : Hp) (Q : Int32 → Hp → Prop) : Prop := wp_X10_isShadowed p1 p2 h (fun r1 h2 => if r1 = 0 then (wp_L_isShadowed_b16 0 0 h2 Q) else (wp_L_isShadowed_b16 0 1 h2 Q)) (fun e u4 => if e = "java/lang/IndexOutOfBoundsException" then (Q 1 u4) else False)
def rm_L_areSame : Room := { frames := 46, cells := 2, slots := 12, locals := 1416 }
def wp_L_areSame_b16 (s1 : Int32) (s2 : Int64) (h : Hp)  (Q : Int32 → Hp → Prop) : Prop := vp_in s1 1 ∧ LET (sJ h 75 0 s1.toNatClampNeg s2) fun h2 => Q 0 h2
def wp_L_areSame (p1 : Int32) (p2 : Int32) (h : Hp) (Q : Int32 → Hp → Prop) : Prop := wp_X10_areSame p1 p2 h (fun r1 h2 => if r1 = 0 then (wp_L_areSame_b16 0 0 h2 Q) else (wp_L_areSame_b16 0 1 h2 Q)) (fun e u4 => if e = "java/lang/IndexOutOfBoundsException" then (Q 1 u4) else False)
def rm_L_learn : Room := { frames := 8, cells := 2, slots := 12, locals := 180 }
def wp_L_learn (p1 : Int32) (h : Hp) (Q : Int32 → Hp → Prop) : Prop := wp_X10_learn p1 h (fun r1 h2 => vp_in 0 1 ∧ LET (sJ h2 75 0 (0 : Int32).toNatClampNeg r1.toInt64) fun h9 => Q 0 h9) (fun e u4 => if e = "java/lang/IndexOutOfBoundsException" then (Q 1 u4) else if e = "java/util/NoSuchElementException" then (Q 2 u4) else if e = "java/lang/IllegalStateException" then (Q 3 u4) else False)
def rm_L_goneShare : Room := { frames := 7, cells := 1, slots := 6, locals := 143 }
def wp_L_goneShare  (h : Hp) (Q : Int32 → Hp → Prop) : Prop := wp_X10_goneShare h (fun r1 => vf_n64 (FP.f2d r1) ∧ vp_in 0 1 ∧ LET (sD h 76 0 (0 : Int32).toNatClampNeg (FP.f2d r1)) fun h6 => Q 0 h6) (fun e => if e = "java/lang/ArithmeticException" then (Q 1 h) else False)
def rm_L_meanSize : Room := { frames := 8, cells := 2, slots := 12, locals := 164 }
def wp_L_meanSize (p1 : Int32) (h : Hp) (Q : Int32 → Hp → Prop) : Prop := wp_X10_meanSize p1 h (fun r1 => vp_in 0 1 ∧ LET (sD h 76 0 (0 : Int32).toNatClampNeg r1) fun h6 => Q 0 h6) (fun e => if e = "java/lang/IndexOutOfBoundsException" then (Q 1 h) else if e = "java/lang/ArithmeticException" then (Q 2 h) else False)
set_option maxRecDepth 20000 in
theorem m_L_mail {l : Launch} (hl : l.stackTraces = false) (G : Gq) (p1 : Int32) (p2 : Int32) (p3 : Int32) (p4 : Int32) (p5 : Int32)  (h : Hp) (Q : Int32 → Hp → Prop) (hw : wp_L_mail p1 p2 p3 p4 p5 h Q) : WI l G yL_mail cL_mail 8 (some .int) [(0, 16, 19, 13), (0, 16, 23, 15)] rm_L_mail NT NT h (fun r => [r 10 0, .int p1, .int p2, .int p3, .int p4, .int p5, r 75 0]) Q := by
  refine WI_of (L0 := (fun X => [some (rf X 10 0), some (.int p1), some (.int p2), some (.int p3), some (.int p4), some (.int p5), some (rf X 75 0), none])) hl (by decide +kernel) rfl (fun _ => Nat.le_of_ble_eq_true rfl) (fun _ => rfl) fun X hXl hXG E hT hE => ?_
  subst hXl; subst hXG
  unfold wp_L_mail at hw
  refine r_aload E 75 0 rfl dL_mail_0 ?_
  refine r_iconst E 0 rfl dL_mail_2 ?_
  refine r_aload_n E 10 0 rfl dL_mail_3 ?_
  refine r_iload_n E p1 rfl dL_mail_4 ?_
  refine r_iload_n E p2 rfl dL_mail_5 ?_
  refine r_iload_n E p3 rfl dL_mail_6 ?_
  refine r_iload E p4 rfl dL_mail_7 ?_
  refine r_iload E p5 rfl dL_mail_9 ?_
  refine r_xcallVIc E hT (m_X10_mail (EE_st E) (GX X) p1 p2 p3 p4 p5 h _ _ hw) lk_L_7 (RM_mk (Nat.le_of_ble_eq_true rfl) (Nat.le_of_ble_eq_true rfl)) rfl rfl rfl rfl (Nat.le_of_ble_eq_true rfl) (adr_lt (Nat.le_of_ble_eq_true rfl)) (Nat.le_of_ble_eq_true rfl) rfl rfl (Nat.le_of_ble_eq_true rfl) (Nat.le_of_ble_eq_true rfl) dL_mail_11 (fun e u4 q3 hx => ?_) (fun r1 h2 hw => ?_)
  · have hx := hx
    rcases Decidable.em (e = "java/lang/IllegalArgumentException") with c5 | c5
    · have hw := ite_t hx c5
      subst c5
      refine ⟨19, ⟨[], ⟨0, 16, 19, 13⟩, [⟨0, 16, 23, 15⟩], "java/lang/IllegalArgumentException", rfl, (fun z hz => nomatch hz), by decide, by decide, cl_L_13, by decide +kernel, rfl⟩, ?_⟩
      refine r_astoreXw E [some (rf X 10 0), some (.int p1), some (.int p2), some (.int p3), some (.int p4), some (.int p5), some (rf X 75 0), some (.ref q3)] (Nat.le_of_ble_eq_true rfl) rfl dL_mail_19 ?_
      refine r_iconst E 1 rfl dL_mail_21 ?_
      exact hE _ _ _ _ _ _ (Nat.le_of_ble_eq_true rfl) (Nat.le_of_ble_eq_true rfl) dL_mail_22 rfl hw
    · have hx := ite_f hx c5
      rcases Decidable.em (e = "java/lang/IllegalStateException") with c6 | c6
      · have hw := ite_t hx c6
        subst c6
        refine ⟨23, ⟨[⟨0, 16, 19, 13⟩], ⟨0, 16, 23, 15⟩, [], "java/lang/IllegalStateException", rfl, (List.forall_mem_cons.mpr ⟨Or.inr ⟨by decide, "java/lang/IllegalArgumentException", cl_L_13, by decide +kernel⟩, (fun z hz => nomatch hz)⟩), by decide, by decide, cl_L_15, by decide +kernel, rfl⟩, ?_⟩
        refine r_astoreXw E [some (rf X 10 0), some (.int p1), some (.int p2), some (.int p3), some (.int p4), some (.int p5), some (rf X 75 0), some (.ref q3)] (Nat.le_of_ble_eq_true rfl) rfl dL_mail_23 ?_
        refine r_iconst E 2 rfl dL_mail_25 ?_
        exact hE _ _ _ _ _ _ (Nat.le_of_ble_eq_true rfl) (Nat.le_of_ble_eq_true rfl) dL_mail_26 rfl hw
      · have hx := ite_f hx c6
        exact hx.elim
  · have hw := hw
    refine r_i2l E dL_mail_14 ?_
    obtain ⟨i7, hw⟩ := hw
    refine r_last E rfl rfl rfl (Nat.le_of_ble_eq_true rfl) (adr_lt (Nat.le_of_ble_eq_true rfl)) i7 rfl dL_mail_15 ?_
    refine GG_toph fun h8 hh8 => ?_
    have hw := hw h8 hh8
    refine r_goto E 27 (by decide) dL_mail_16 ?_
    refine r_iconst E 0 rfl dL_mail_27 ?_
    exact hE _ _ _ _ _ _ (Nat.le_of_ble_eq_true rfl) (Nat.le_of_ble_eq_true rfl) dL_mail_28 rfl hw
set_option maxRecDepth 20000 in
theorem m_L_pass {l : Launch} (hl : l.stackTraces = false) (G : Gq) (p1 : Int32)  (h : Hp) (Q : Int32 → Hp → Prop) (hw : wp_L_pass p1 h Q) : WI l G yL_pass cL_pass 4 (some .int) [(0, 9, 12, 13)] rm_L_pass NT NT h (fun r => [r 10 0, .int p1, r 75 0]) Q := by
  refine WI_of (L0 := (fun X => [some (rf X 10 0), some (.int p1), some (rf X 75 0), none])) hl (by decide +kernel) rfl (fun _ => Nat.le_of_ble_eq_true rfl) (fun _ => rfl) fun X hXl hXG E hT hE => ?_
  subst hXl; subst hXG
  unfold wp_L_pass at hw
  refine r_aload_n E 75 0 rfl dL_pass_0 ?_
  refine r_iconst E 0 rfl dL_pass_1 ?_
  refine r_aload_n E 10 0 rfl dL_pass_2 ?_
  refine r_iload_n E p1 rfl dL_pass_3 ?_
  refine r_xcallVIc E hT (m_X10_pass (EE_st E) (GX X) p1 h _ _ hw) lk_L_17 (RM_mk (Nat.le_of_ble_eq_true rfl) (Nat.le_of_ble_eq_true rfl)) rfl rfl rfl rfl (Nat.le_of_ble_eq_true rfl) (adr_lt (Nat.le_of_ble_eq_true rfl)) (Nat.le_of_ble_eq_true rfl) rfl rfl (Nat.le_of_ble_eq_true rfl) (Nat.le_of_ble_eq_true rfl) dL_pass_4 (fun e u4 q3 hx => ?_) (fun r1 h2 hw => ?_)
  · have hx := hx
    rcases Decidable.em (e = "java/lang/IllegalArgumentException") with c5 | c5
    · have hw := ite_t hx c5
      subst c5
      refine ⟨12, ⟨[], ⟨0, 9, 12, 13⟩, [], "java/lang/IllegalArgumentException", rfl, (fun z hz => nomatch hz), by decide, by decide, cl_L_13, by decide +kernel, rfl⟩, ?_⟩
      refine r_astoreX E [some (rf X 10 0), some (.int p1), some (rf X 75 0), some (.ref q3)] rfl (Nat.le_of_ble_eq_true rfl) rfl dL_pass_12 ?_
      refine r_iconst E 1 rfl dL_pass_13 ?_
      exact hE _ _ _ _ _ _ (Nat.le_of_ble_eq_true rfl) (Nat.le_of_ble_eq_true rfl) dL_pass_14 rfl hw
    · have hx := ite_f hx c5
      exact hx.elim
  · have hw := hw
    refine r_i2l E dL_pass_7 ?_
    obtain ⟨i6, hw⟩ := hw
    refine r_last E rfl rfl rfl (Nat.le_of_ble_eq_true rfl) (adr_lt (Nat.le_of_ble_eq_true rfl)) i6 rfl dL_pass_8 ?_
    refine GG_toph fun h7 hh7 => ?_
    have hw := hw h7 hh7
    refine r_goto E 15 (by decide) dL_pass_9 ?_
    refine r_iconst E 0 rfl dL_pass_15 ?_
    exact hE _ _ _ _ _ _ (Nat.le_of_ble_eq_true rfl) (Nat.le_of_ble_eq_true rfl) dL_pass_16 rfl hw
set_option maxRecDepth 20000 in
theorem m_L_setQuota {l : Launch} (hl : l.stackTraces = false) (G : Gq) (p1 : Int32) (p2 : Int32)  (h : Hp) (Q : Int32 → Hp → Prop) (hw : wp_L_setQuota p1 p2 h Q) : WI l G yL_setQuota cL_setQuota 5 (some .int) [(0, 10, 13, 25), (0, 10, 17, 13)] rm_L_setQuota NT NT h (fun r => [r 10 0, .int p1, .int p2, r 75 0]) Q := by
  refine WI_of (L0 := (fun X => [some (rf X 10 0), some (.int p1), some (.int p2), some (rf X 75 0), none])) hl (by decide +kernel) rfl (fun _ => Nat.le_of_ble_eq_true rfl) (fun _ => rfl) fun X hXl hXG E hT hE => ?_
  subst hXl; subst hXG
  unfold wp_L_setQuota at hw
  refine r_aload_n E 75 0 rfl dL_setQuota_0 ?_
  refine r_iconst E 0 rfl dL_setQuota_1 ?_
  refine r_aload_n E 10 0 rfl dL_setQuota_2 ?_
  refine r_iload_n E p1 rfl dL_setQuota_3 ?_
  refine r_iload_n E p2 rfl dL_setQuota_4 ?_
  refine r_xcallVIc E hT (m_X10_setQuota (EE_st E) (GX X) p1 p2 h _ _ hw) lk_L_21 (RM_mk (Nat.le_of_ble_eq_true rfl) (Nat.le_of_ble_eq_true rfl)) rfl rfl rfl rfl (Nat.le_of_ble_eq_true rfl) (adr_lt (Nat.le_of_ble_eq_true rfl)) (Nat.le_of_ble_eq_true rfl) rfl rfl (Nat.le_of_ble_eq_true rfl) (Nat.le_of_ble_eq_true rfl) dL_setQuota_5 (fun e u4 q3 hx => ?_) (fun r1 h2 hw => ?_)
  · have hx := hx
    rcases Decidable.em (e = "java/lang/IndexOutOfBoundsException") with c5 | c5
    · have hw := ite_t hx c5
      subst c5
      refine ⟨13, ⟨[], ⟨0, 10, 13, 25⟩, [⟨0, 10, 17, 13⟩], "java/lang/IndexOutOfBoundsException", rfl, (fun z hz => nomatch hz), by decide, by decide, cl_L_25, by decide +kernel, rfl⟩, ?_⟩
      refine r_astoreXw E [some (rf X 10 0), some (.int p1), some (.int p2), some (rf X 75 0), some (.ref q3)] (Nat.le_of_ble_eq_true rfl) rfl dL_setQuota_13 ?_
      refine r_iconst E 1 rfl dL_setQuota_15 ?_
      exact hE _ _ _ _ _ _ (Nat.le_of_ble_eq_true rfl) (Nat.le_of_ble_eq_true rfl) dL_setQuota_16 rfl hw
    · have hx := ite_f hx c5
      rcases Decidable.em (e = "java/lang/IllegalArgumentException") with c6 | c6
      · have hw := ite_t hx c6
        subst c6
        refine ⟨17, ⟨[⟨0, 10, 13, 25⟩], ⟨0, 10, 17, 13⟩, [], "java/lang/IllegalArgumentException", rfl, (List.forall_mem_cons.mpr ⟨Or.inr ⟨by decide, "java/lang/IndexOutOfBoundsException", cl_L_25, by decide +kernel⟩, (fun z hz => nomatch hz)⟩), by decide, by decide, cl_L_13, by decide +kernel, rfl⟩, ?_⟩
        refine r_astoreXw E [some (rf X 10 0), some (.int p1), some (.int p2), some (rf X 75 0), some (.ref q3)] (Nat.le_of_ble_eq_true rfl) rfl dL_setQuota_17 ?_
        refine r_iconst E 2 rfl dL_setQuota_19 ?_
        exact hE _ _ _ _ _ _ (Nat.le_of_ble_eq_true rfl) (Nat.le_of_ble_eq_true rfl) dL_setQuota_20 rfl hw
      · have hx := ite_f hx c6
        exact hx.elim
  · have hw := hw
    refine r_i2l E dL_setQuota_8 ?_
    obtain ⟨i7, hw⟩ := hw
    refine r_last E rfl rfl rfl (Nat.le_of_ble_eq_true rfl) (adr_lt (Nat.le_of_ble_eq_true rfl)) i7 rfl dL_setQuota_9 ?_
    refine GG_toph fun h8 hh8 => ?_
    have hw := hw h8 hh8
    refine r_goto E 21 (by decide) dL_setQuota_10 ?_
    refine r_iconst E 0 rfl dL_setQuota_21 ?_
    exact hE _ _ _ _ _ _ (Nat.le_of_ble_eq_true rfl) (Nat.le_of_ble_eq_true rfl) dL_setQuota_22 rfl hw
set_option maxRecDepth 20000 in
theorem m_L_inBox {l : Launch} (hl : l.stackTraces = false) (G : Gq) (p1 : Int32)  (h : Hp) (Q : Int32 → Hp → Prop) (hw : wp_L_inBox p1 h Q) : WI l G yL_inBox cL_inBox 4 (some .int) [(0, 9, 12, 25)] rm_L_inBox NT NT h (fun r => [r 10 0, .int p1, r 75 0]) Q := by
  refine WI_of (L0 := (fun X => [some (rf X 10 0), some (.int p1), some (rf X 75 0), none])) hl (by decide +kernel) rfl (fun _ => Nat.le_of_ble_eq_true rfl) (fun _ => rfl) fun X hXl hXG E hT hE => ?_
  subst hXl; subst hXG
  unfold wp_L_inBox at hw
  refine r_aload_n E 75 0 rfl dL_inBox_0 ?_
  refine r_iconst E 0 rfl dL_inBox_1 ?_
  refine r_aload_n E 10 0 rfl dL_inBox_2 ?_
  refine r_iload_n E p1 rfl dL_inBox_3 ?_
  refine r_xcallVIc E hT (m_X10_inBox (EE_st E) (GX X) p1 h _ _ hw) lk_L_27 (RM_mk (Nat.le_of_ble_eq_true rfl) (Nat.le_of_ble_eq_true rfl)) rfl rfl rfl rfl (Nat.le_of_ble_eq_true rfl) (adr_lt (Nat.le_of_ble_eq_true rfl)) (Nat.le_of_ble_eq_true rfl) rfl rfl (Nat.le_of_ble_eq_true rfl) (Nat.le_of_ble_eq_true rfl) dL_inBox_4 (fun e u9 q2 hx => ?_) (fun r1 u9 hw => ?_)
  · obtain ⟨rfl, hx⟩ := hx
    rcases Decidable.em (e = "java/lang/IndexOutOfBoundsException") with c3 | c3
    · have hw := ite_t hx c3
      subst c3
      refine ⟨12, ⟨[], ⟨0, 9, 12, 25⟩, [], "java/lang/IndexOutOfBoundsException", rfl, (fun z hz => nomatch hz), by decide, by decide, cl_L_25, by decide +kernel, rfl⟩, ?_⟩
      refine r_astoreX E [some (rf X 10 0), some (.int p1), some (rf X 75 0), some (.ref q2)] rfl (Nat.le_of_ble_eq_true rfl) rfl dL_inBox_12 ?_
      refine r_iconst E 1 rfl dL_inBox_13 ?_
      exact hE _ _ _ _ _ _ (Nat.le_of_ble_eq_true rfl) (Nat.le_of_ble_eq_true rfl) dL_inBox_14 rfl hw
    · have hx := ite_f hx c3
      exact hx.elim
  · obtain ⟨rfl, hw⟩ := hw
    refine r_i2l E dL_inBox_7 ?_
    obtain ⟨i4, hw⟩ := hw
    refine r_last E rfl rfl rfl (Nat.le_of_ble_eq_true rfl) (adr_lt (Nat.le_of_ble_eq_true rfl)) i4 rfl dL_inBox_8 ?_
    refine GG_toph fun h5 hh5 => ?_
    have hw := hw h5 hh5
    refine r_goto E 15 (by decide) dL_inBox_9 ?_
    refine r_iconst E 0 rfl dL_inBox_15 ?_
    exact hE _ _ _ _ _ _ (Nat.le_of_ble_eq_true rfl) (Nat.le_of_ble_eq_true rfl) dL_inBox_16 rfl hw
set_option maxRecDepth 20000 in
theorem m_L_boxOf {l : Launch} (hl : l.stackTraces = false) (G : Gq) (p1 : Int32)  (h : Hp) (Q : Int32 → Hp → Prop) (hw : wp_L_boxOf p1 h Q) : WI l G yL_boxOf cL_boxOf 4 (some .int) [(0, 9, 12, 25), (0, 9, 15, 33)] rm_L_boxOf NT NT h (fun r => [r 10 0, .int p1, r 75 0]) Q := by
  refine WI_of (L0 := (fun X => [some (rf X 10 0), some (.int p1), some (rf X 75 0), none])) hl (by decide +kernel) rfl (fun _ => Nat.le_of_ble_eq_true rfl) (fun _ => rfl) fun X hXl hXG E hT hE => ?_
  subst hXl; subst hXG
  unfold wp_L_boxOf at hw
  refine r_aload_n E 75 0 rfl dL_boxOf_0 ?_
  refine r_iconst E 0 rfl dL_boxOf_1 ?_
  refine r_aload_n E 10 0 rfl dL_boxOf_2 ?_
  refine r_iload_n E p1 rfl dL_boxOf_3 ?_
  refine r_xcallVIc E hT (m_X10_boxOf (EE_st E) (GX X) p1 h _ _ hw) lk_L_30 (RM_mk (Nat.le_of_ble_eq_true rfl) (Nat.le_of_ble_eq_true rfl)) rfl rfl rfl rfl (Nat.le_of_ble_eq_true rfl) (adr_lt (Nat.le_of_ble_eq_true rfl)) (Nat.le_of_ble_eq_true rfl) rfl rfl (Nat.le_of_ble_eq_true rfl) (Nat.le_of_ble_eq_true rfl) dL_boxOf_4 (fun e u9 q2 hx => ?_) (fun r1 u9 hw => ?_)
  · obtain ⟨rfl, hx⟩ := hx
    rcases Decidable.em (e = "java/lang/IndexOutOfBoundsException") with c3 | c3
    · have hw := ite_t hx c3
      subst c3
      refine ⟨12, ⟨[], ⟨0, 9, 12, 25⟩, [⟨0, 9, 15, 33⟩], "java/lang/IndexOutOfBoundsException", rfl, (fun z hz => nomatch hz), by decide, by decide, cl_L_25, by decide +kernel, rfl⟩, ?_⟩
      refine r_astoreX E [some (rf X 10 0), some (.int p1), some (rf X 75 0), some (.ref q2)] rfl (Nat.le_of_ble_eq_true rfl) rfl dL_boxOf_12 ?_
      refine r_iconst E 1 rfl dL_boxOf_13 ?_
      exact hE _ _ _ _ _ _ (Nat.le_of_ble_eq_true rfl) (Nat.le_of_ble_eq_true rfl) dL_boxOf_14 rfl hw
    · have hx := ite_f hx c3
      rcases Decidable.em (e = "java/util/NoSuchElementException") with c4 | c4
      · have hw := ite_t hx c4
        subst c4
        refine ⟨15, ⟨[⟨0, 9, 12, 25⟩], ⟨0, 9, 15, 33⟩, [], "java/util/NoSuchElementException", rfl, (List.forall_mem_cons.mpr ⟨Or.inr ⟨by decide, "java/lang/IndexOutOfBoundsException", cl_L_25, by decide +kernel⟩, (fun z hz => nomatch hz)⟩), by decide, by decide, cl_L_33, by decide +kernel, rfl⟩, ?_⟩
        refine r_astoreX E [some (rf X 10 0), some (.int p1), some (rf X 75 0), some (.ref q2)] rfl (Nat.le_of_ble_eq_true rfl) rfl dL_boxOf_15 ?_
        refine r_iconst E 2 rfl dL_boxOf_16 ?_
        exact hE _ _ _ _ _ _ (Nat.le_of_ble_eq_true rfl) (Nat.le_of_ble_eq_true rfl) dL_boxOf_17 rfl hw
      · have hx := ite_f hx c4
        exact hx.elim
  · obtain ⟨rfl, hw⟩ := hw
    refine r_i2l E dL_boxOf_7 ?_
    obtain ⟨i5, hw⟩ := hw
    refine r_last E rfl rfl rfl (Nat.le_of_ble_eq_true rfl) (adr_lt (Nat.le_of_ble_eq_true rfl)) i5 rfl dL_boxOf_8 ?_
    refine GG_toph fun h6 hh6 => ?_
    have hw := hw h6 hh6
    refine r_goto E 18 (by decide) dL_boxOf_9 ?_
    refine r_iconst E 0 rfl dL_boxOf_18 ?_
    exact hE _ _ _ _ _ _ (Nat.le_of_ble_eq_true rfl) (Nat.le_of_ble_eq_true rfl) dL_boxOf_19 rfl hw
set_option maxRecDepth 20000 in
theorem t_L_hasFlag_b16 {X : Ctx} (h : Hp) (s1 : Int32) (s2 : Int64)  (E : EE X cL_hasFlag RL 5 8 163 2 12) {Q : Int32 → Hp → Prop} (hE : ENDi X cL_hasFlag .int Q NT 2 12)  (hw : wp_L_hasFlag_b16 s1 s2 h  Q) : GG X 2 12 NT h [none, none, none, none, none] 16 [.long s2, .int s1, rf X 75 0] := by
  unfold wp_L_hasFlag_b16 at hw
  obtain ⟨i1, hw⟩ := hw
  refine r_last E rfl rfl rfl (Nat.le_of_ble_eq_true rfl) (adr_lt (Nat.le_of_ble_eq_true rfl)) i1 rfl dL_hasFlag_16 ?_
  refine GG_toph fun h2 hh2 => ?_
  have hw := hw h2 hh2
  refine r_goto E 24 (by decide) dL_hasFlag_17 ?_
  refine r_iconst E 0 rfl dL_hasFlag_24 ?_
  exact hE _ _ _ _ _ _ (Nat.le_of_ble_eq_true rfl) (Nat.le_of_ble_eq_true rfl) dL_hasFlag_25 rfl hw
set_option maxRecDepth 20000 in
theorem m_L_hasFlag {l : Launch} (hl : l.stackTraces = false) (G : Gq) (p1 : Int32) (p2 : Int32)  (h : Hp) (Q : Int32 → Hp → Prop) (hw : wp_L_hasFlag p1 p2 h Q) : WI l G yL_hasFlag cL_hasFlag 5 (some .int) [(0, 17, 20, 25)] rm_L_hasFlag NT NT h (fun r => [r 10 0, .int p1, .int p2, r 75 0]) Q := by
  refine WI_of (L0 := (fun X => [some (rf X 10 0), some (.int p1), some (.int p2), some (rf X 75 0), none])) hl (by decide +kernel) rfl (fun _ => Nat.le_of_ble_eq_true rfl) (fun _ => rfl) fun X hXl hXG E hT hE => ?_
  subst hXl; subst hXG
  unfold wp_L_hasFlag at hw
  refine r_aload_n E 75 0 rfl dL_hasFlag_0 ?_
  refine r_iconst E 0 rfl dL_hasFlag_1 ?_
  refine r_aload_n E 10 0 rfl dL_hasFlag_2 ?_
  refine r_iload_n E p1 rfl dL_hasFlag_3 ?_
  refine r_iload_n E p2 rfl dL_hasFlag_4 ?_
  refine r_xcallVIc E hT (m_X10_hasFlag (EE_st E) (GX X) p1 p2 h _ _ hw) lk_L_35 (RM_mk (Nat.le_of_ble_eq_true rfl) (Nat.le_of_ble_eq_true rfl)) rfl rfl rfl rfl (Nat.le_of_ble_eq_true rfl) (adr_lt (Nat.le_of_ble_eq_true rfl)) (Nat.le_of_ble_eq_true rfl) rfl rfl (Nat.le_of_ble_eq_true rfl) (Nat.le_of_ble_eq_true rfl) dL_hasFlag_5 (fun e u9 q2 hx => ?_) (fun r1 u9 hw => ?_)
  · obtain ⟨rfl, hx⟩ := hx
    rcases Decidable.em (e = "java/lang/IndexOutOfBoundsException") with c3 | c3
    · have hw := ite_t hx c3
      subst c3
      refine ⟨20, ⟨[], ⟨0, 17, 20, 25⟩, [], "java/lang/IndexOutOfBoundsException", rfl, (fun z hz => nomatch hz), by decide, by decide, cl_L_25, by decide +kernel, rfl⟩, ?_⟩
      refine r_astoreXw E [some (rf X 10 0), some (.int p1), some (.int p2), some (rf X 75 0), some (.ref q2)] (Nat.le_of_ble_eq_true rfl) rfl dL_hasFlag_20 ?_
      refine r_iconst E 1 rfl dL_hasFlag_22 ?_
      exact hE _ _ _ _ _ _ (Nat.le_of_ble_eq_true rfl) (Nat.le_of_ble_eq_true rfl) dL_hasFlag_23 rfl hw
    · have hx := ite_f hx c3
      exact hx.elim
  · obtain ⟨rfl, zr1, hw⟩ := hw
    refine r_if_eq E 15 (by decide) dL_hasFlag_8 (fun c4 => ?_) (fun c4 => ?_)
    · have hw := ite_t hw c4
      refine r_lconst E 0 rfl dL_hasFlag_15 ?_
      exact GG_weak [false, false, false, false, false] rfl (t_L_hasFlag_b16 h 0 0 E hE  hw)
    · have hw := ite_f hw c4
      refine r_lconst E 1 rfl dL_hasFlag_11 ?_
      refine r_goto E 16 (by decide) dL_hasFlag_12 ?_
      exact GG_weak [false, false, false, false, false] rfl (t_L_hasFlag_b16 h 0 1 E hE  hw)
set_option maxRecDepth 20000 in
theorem m_L_move {l : Launch} (hl : l.stackTraces = false) (G : Gq) (p1 : Int32) (p2 : Int32)  (h : Hp) (Q : Int32 → Hp → Prop) (hw : wp_L_move p1 p2 h Q) : WI l G yL_move cL_move 5 (some .int) [(0, 10, 13, 25), (0, 10, 17, 33)] rm_L_move NT NT h (fun r => [r 10 0, .int p1, .int p2, r 75 0]) Q := by
  refine WI_of (L0 := (fun X => [some (rf X 10 0), some (.int p1), some (.int p2), some (rf X 75 0), none])) hl (by decide +kernel) rfl (fun _ => Nat.le_of_ble_eq_true rfl) (fun _ => rfl) fun X hXl hXG E hT hE => ?_
  subst hXl; subst hXG
  unfold wp_L_move at hw
  refine r_aload_n E 75 0 rfl dL_move_0 ?_
  refine r_iconst E 0 rfl dL_move_1 ?_
  refine r_aload_n E 10 0 rfl dL_move_2 ?_
  refine r_iload_n E p1 rfl dL_move_3 ?_
  refine r_iload_n E p2 rfl dL_move_4 ?_
  refine r_xcallVIc E hT (m_X10_move (EE_st E) (GX X) p1 p2 h _ _ hw) lk_L_39 (RM_mk (Nat.le_of_ble_eq_true rfl) (Nat.le_of_ble_eq_true rfl)) rfl rfl rfl rfl (Nat.le_of_ble_eq_true rfl) (adr_lt (Nat.le_of_ble_eq_true rfl)) (Nat.le_of_ble_eq_true rfl) rfl rfl (Nat.le_of_ble_eq_true rfl) (Nat.le_of_ble_eq_true rfl) dL_move_5 (fun e u4 q3 hx => ?_) (fun r1 h2 hw => ?_)
  · have hx := hx
    rcases Decidable.em (e = "java/lang/IndexOutOfBoundsException") with c5 | c5
    · have hw := ite_t hx c5
      subst c5
      refine ⟨13, ⟨[], ⟨0, 10, 13, 25⟩, [⟨0, 10, 17, 33⟩], "java/lang/IndexOutOfBoundsException", rfl, (fun z hz => nomatch hz), by decide, by decide, cl_L_25, by decide +kernel, rfl⟩, ?_⟩
      refine r_astoreXw E [some (rf X 10 0), some (.int p1), some (.int p2), some (rf X 75 0), some (.ref q3)] (Nat.le_of_ble_eq_true rfl) rfl dL_move_13 ?_
      refine r_iconst E 1 rfl dL_move_15 ?_
      exact hE _ _ _ _ _ _ (Nat.le_of_ble_eq_true rfl) (Nat.le_of_ble_eq_true rfl) dL_move_16 rfl hw
    · have hx := ite_f hx c5
      rcases Decidable.em (e = "java/util/NoSuchElementException") with c6 | c6
      · have hw := ite_t hx c6
        subst c6
        refine ⟨17, ⟨[⟨0, 10, 13, 25⟩], ⟨0, 10, 17, 33⟩, [], "java/util/NoSuchElementException", rfl, (List.forall_mem_cons.mpr ⟨Or.inr ⟨by decide, "java/lang/IndexOutOfBoundsException", cl_L_25, by decide +kernel⟩, (fun z hz => nomatch hz)⟩), by decide, by decide, cl_L_33, by decide +kernel, rfl⟩, ?_⟩
        refine r_astoreXw E [some (rf X 10 0), some (.int p1), some (.int p2), some (rf X 75 0), some (.ref q3)] (Nat.le_of_ble_eq_true rfl) rfl dL_move_17 ?_
        refine r_iconst E 2 rfl dL_move_19 ?_
        exact hE _ _ _ _ _ _ (Nat.le_of_ble_eq_true rfl) (Nat.le_of_ble_eq_true rfl) dL_move_20 rfl hw
      · have hx := ite_f hx c6
        exact hx.elim
  · have hw := hw
    refine r_i2l E dL_move_8 ?_
    obtain ⟨i7, hw⟩ := hw
    refine r_last E rfl rfl rfl (Nat.le_of_ble_eq_true rfl) (adr_lt (Nat.le_of_ble_eq_true rfl)) i7 rfl dL_move_9 ?_
    refine GG_toph fun h8 hh8 => ?_
    have hw := hw h8 hh8
    refine r_goto E 21 (by decide) dL_move_10 ?_
    refine r_iconst E 0 rfl dL_move_21 ?_
    exact hE _ _ _ _ _ _ (Nat.le_of_ble_eq_true rfl) (Nat.le_of_ble_eq_true rfl) dL_move_22 rfl hw
set_option maxRecDepth 20000 in
theorem m_L_test {l : Launch} (hl : l.stackTraces = false) (G : Gq) (p1 : Int32) (p2 : Int32) (p3 : Int32)  (h : Hp) (Q : Int32 → Hp → Prop) (hw : wp_L_test p1 p2 p3 h Q) : WI l G yL_test cL_test 6 (some .int) [(0, 12, 15, 13), (0, 12, 19, 25), (0, 12, 23, 15)] rm_L_test NT NT h (fun r => [r 10 0, .int p1, .int p2, .int p3, r 75 0]) Q := by
  refine WI_of (L0 := (fun X => [some (rf X 10 0), some (.int p1), some (.int p2), some (.int p3), some (rf X 75 0), none])) hl (by decide +kernel) rfl (fun _ => Nat.le_of_ble_eq_true rfl) (fun _ => rfl) fun X hXl hXG E hT hE => ?_
  subst hXl; subst hXG
  unfold wp_L_test at hw
  refine r_aload E 75 0 rfl dL_test_0 ?_
  refine r_iconst E 0 rfl dL_test_2 ?_
  refine r_aload_n E 10 0 rfl dL_test_3 ?_
  refine r_iload_n E p1 rfl dL_test_4 ?_
  refine r_iload_n E p2 rfl dL_test_5 ?_
  refine r_iload_n E p3 rfl dL_test_6 ?_
  refine r_xcallVIc E hT (m_X10_test (EE_st E) (GX X) p1 p2 p3 h _ _ hw) lk_L_42 (RM_mk (Nat.le_of_ble_eq_true rfl) (Nat.le_of_ble_eq_true rfl)) rfl rfl rfl rfl (Nat.le_of_ble_eq_true rfl) (adr_lt (Nat.le_of_ble_eq_true rfl)) (Nat.le_of_ble_eq_true rfl) rfl rfl (Nat.le_of_ble_eq_true rfl) (Nat.le_of_ble_eq_true rfl) dL_test_7 (fun e u4 q3 hx => ?_) (fun r1 h2 hw => ?_)
  · have hx := hx
    rcases Decidable.em (e = "java/lang/IllegalArgumentException") with c5 | c5
    · have hw := ite_t hx c5
      subst c5
      refine ⟨15, ⟨[], ⟨0, 12, 15, 13⟩, [⟨0, 12, 19, 25⟩, ⟨0, 12, 23, 15⟩], "java/lang/IllegalArgumentException", rfl, (fun z hz => nomatch hz), by decide, by decide, cl_L_13, by decide +kernel, rfl⟩, ?_⟩
      refine r_astoreXw E [some (rf X 10 0), some (.int p1), some (.int p2), some (.int p3), some (rf X 75 0), some (.ref q3)] (Nat.le_of_ble_eq_true rfl) rfl dL_test_15 ?_
      refine r_iconst E 1 rfl dL_test_17 ?_
      exact hE _ _ _ _ _ _ (Nat.le_of_ble_eq_true rfl) (Nat.le_of_ble_eq_true rfl) dL_test_18 rfl hw
    · have hx := ite_f hx c5
      rcases Decidable.em (e = "java/lang/IndexOutOfBoundsException") with c6 | c6
      · have hw := ite_t hx c6
        subst c6
        refine ⟨19, ⟨[⟨0, 12, 15, 13⟩], ⟨0, 12, 19, 25⟩, [⟨0, 12, 23, 15⟩], "java/lang/IndexOutOfBoundsException", rfl, (List.forall_mem_cons.mpr ⟨Or.inr ⟨by decide, "java/lang/IllegalArgumentException", cl_L_13, by decide +kernel⟩, (fun z hz => nomatch hz)⟩), by decide, by decide, cl_L_25, by decide +kernel, rfl⟩, ?_⟩
        refine r_astoreXw E [some (rf X 10 0), some (.int p1), some (.int p2), some (.int p3), some (rf X 75 0), some (.ref q3)] (Nat.le_of_ble_eq_true rfl) rfl dL_test_19 ?_
        refine r_iconst E 2 rfl dL_test_21 ?_
        exact hE _ _ _ _ _ _ (Nat.le_of_ble_eq_true rfl) (Nat.le_of_ble_eq_true rfl) dL_test_22 rfl hw
      · have hx := ite_f hx c6
        rcases Decidable.em (e = "java/lang/IllegalStateException") with c7 | c7
        · have hw := ite_t hx c7
          subst c7
          refine ⟨23, ⟨[⟨0, 12, 15, 13⟩, ⟨0, 12, 19, 25⟩], ⟨0, 12, 23, 15⟩, [], "java/lang/IllegalStateException", rfl, (List.forall_mem_cons.mpr ⟨Or.inr ⟨by decide, "java/lang/IllegalArgumentException", cl_L_13, by decide +kernel⟩, (List.forall_mem_cons.mpr ⟨Or.inr ⟨by decide, "java/lang/IndexOutOfBoundsException", cl_L_25, by decide +kernel⟩, (fun z hz => nomatch hz)⟩)⟩), by decide, by decide, cl_L_15, by decide +kernel, rfl⟩, ?_⟩
          refine r_astoreXw E [some (rf X 10 0), some (.int p1), some (.int p2), some (.int p3), some (rf X 75 0), some (.ref q3)] (Nat.le_of_ble_eq_true rfl) rfl dL_test_23 ?_
          refine r_iconst E 3 rfl dL_test_25 ?_
          exact hE _ _ _ _ _ _ (Nat.le_of_ble_eq_true rfl) (Nat.le_of_ble_eq_true rfl) dL_test_26 rfl hw
        · have hx := ite_f hx c7
          exact hx.elim
  · have hw := hw
    refine r_i2l E dL_test_10 ?_
    obtain ⟨i8, hw⟩ := hw
    refine r_last E rfl rfl rfl (Nat.le_of_ble_eq_true rfl) (adr_lt (Nat.le_of_ble_eq_true rfl)) i8 rfl dL_test_11 ?_
    refine GG_toph fun h9 hh9 => ?_
    have hw := hw h9 hh9
    refine r_goto E 27 (by decide) dL_test_12 ?_
    refine r_iconst E 0 rfl dL_test_27 ?_
    exact hE _ _ _ _ _ _ (Nat.le_of_ble_eq_true rfl) (Nat.le_of_ble_eq_true rfl) dL_test_28 rfl hw
set_option maxRecDepth 20000 in
theorem t_L_holds_b16 {X : Ctx} (h : Hp) (s1 : Int32) (s2 : Int64)  (E : EE X cL_holds RL 5 8 164 2 12) {Q : Int32 → Hp → Prop} (hE : ENDi X cL_holds .int Q NT 2 12)  (hw : wp_L_holds_b16 s1 s2 h  Q) : GG X 2 12 NT h [none, none, none, none, none] 16 [.long s2, .int s1, rf X 75 0] := by
  unfold wp_L_holds_b16 at hw
  obtain ⟨i1, hw⟩ := hw
  refine r_last E rfl rfl rfl (Nat.le_of_ble_eq_true rfl) (adr_lt (Nat.le_of_ble_eq_true rfl)) i1 rfl dL_holds_16 ?_
  refine GG_toph fun h2 hh2 => ?_
  have hw := hw h2 hh2
  refine r_goto E 24 (by decide) dL_holds_17 ?_
  refine r_iconst E 0 rfl dL_holds_24 ?_
  exact hE _ _ _ _ _ _ (Nat.le_of_ble_eq_true rfl) (Nat.le_of_ble_eq_true rfl) dL_holds_25 rfl hw
set_option maxRecDepth 20000 in
theorem m_L_holds {l : Launch} (hl : l.stackTraces = false) (G : Gq) (p1 : Int32) (p2 : Int32)  (h : Hp) (Q : Int32 → Hp → Prop) (hw : wp_L_holds p1 p2 h Q) : WI l G yL_holds cL_holds 5 (some .int) [(0, 17, 20, 25)] rm_L_holds NT NT h (fun r => [r 10 0, .int p1, .int p2, r 75 0]) Q := by
  refine WI_of (L0 := (fun X => [some (rf X 10 0), some (.int p1), some (.int p2), some (rf X 75 0), none])) hl (by decide +kernel) rfl (fun _ => Nat.le_of_ble_eq_true rfl) (fun _ => rfl) fun X hXl hXG E hT hE => ?_
  subst hXl; subst hXG
  unfold wp_L_holds at hw
  refine r_aload_n E 75 0 rfl dL_holds_0 ?_
  refine r_iconst E 0 rfl dL_holds_1 ?_
  refine r_aload_n E 10 0 rfl dL_holds_2 ?_
  refine r_iload_n E p1 rfl dL_holds_3 ?_
  refine r_iload_n E p2 rfl dL_holds_4 ?_
  refine r_xcallVIc E hT (m_X10_holds (EE_st E) (GX X) p1 p2 h _ _ hw) lk_L_46 (RM_mk (Nat.le_of_ble_eq_true rfl) (Nat.le_of_ble_eq_true rfl)) rfl rfl rfl rfl (Nat.le_of_ble_eq_true rfl) (adr_lt (Nat.le_of_ble_eq_true rfl)) (Nat.le_of_ble_eq_true rfl) rfl rfl (Nat.le_of_ble_eq_true rfl) (Nat.le_of_ble_eq_true rfl) dL_holds_5 (fun e u9 q2 hx => ?_) (fun r1 u9 hw => ?_)
  · obtain ⟨rfl, hx⟩ := hx
    rcases Decidable.em (e = "java/lang/IndexOutOfBoundsException") with c3 | c3
    · have hw := ite_t hx c3
      subst c3
      refine ⟨20, ⟨[], ⟨0, 17, 20, 25⟩, [], "java/lang/IndexOutOfBoundsException", rfl, (fun z hz => nomatch hz), by decide, by decide, cl_L_25, by decide +kernel, rfl⟩, ?_⟩
      refine r_astoreXw E [some (rf X 10 0), some (.int p1), some (.int p2), some (rf X 75 0), some (.ref q2)] (Nat.le_of_ble_eq_true rfl) rfl dL_holds_20 ?_
      refine r_iconst E 1 rfl dL_holds_22 ?_
      exact hE _ _ _ _ _ _ (Nat.le_of_ble_eq_true rfl) (Nat.le_of_ble_eq_true rfl) dL_holds_23 rfl hw
    · have hx := ite_f hx c3
      exact hx.elim
  · obtain ⟨rfl, zr1, hw⟩ := hw
    refine r_if_eq E 15 (by decide) dL_holds_8 (fun c4 => ?_) (fun c4 => ?_)
    · have hw := ite_t hw c4
      refine r_lconst E 0 rfl dL_holds_15 ?_
      exact GG_weak [false, false, false, false, false] rfl (t_L_holds_b16 h 0 0 E hE  hw)
    · have hw := ite_f hw c4
      refine r_lconst E 1 rfl dL_holds_11 ?_
      refine r_goto E 16 (by decide) dL_holds_12 ?_
      exact GG_weak [false, false, false, false, false] rfl (t_L_holds_b16 h 0 1 E hE  hw)
set_option maxRecDepth 20000 in
theorem m_L_rule {l : Launch} (hl : l.stackTraces = false) (G : Gq) (p1 : Int32) (p2 : Int32)  (h : Hp) (Q : Int32 → Hp → Prop) (hw : wp_L_rule p1 p2 h Q) : WI l G yL_rule cL_rule 5 (some .int) [(0, 10, 13, 25), (0, 10, 17, 15)] rm_L_rule NT NT h (fun r => [r 10 0, .int p1, .int p2, r 75 0]) Q := by
  refine WI_of (L0 := (fun X => [some (rf X 10 0), some (.int p1), some (.int p2), some (rf X 75 0), none])) hl (by decide +kernel) rfl (fun _ => Nat.le_of_ble_eq_true rfl) (fun _ => rfl) fun X hXl hXG E hT hE => ?_
  subst hXl; subst hXG
  unfold wp_L_rule at hw
  refine r_aload_n E 75 0 rfl dL_rule_0 ?_
  refine r_iconst E 0 rfl dL_rule_1 ?_
  refine r_aload_n E 10 0 rfl dL_rule_2 ?_
  refine r_iload_n E p1 rfl dL_rule_3 ?_
  refine r_iload_n E p2 rfl dL_rule_4 ?_
  refine r_xcallVIc E hT (m_X10_rule (EE_st E) (GX X) p1 p2 h _ _ hw) lk_L_49 (RM_mk (Nat.le_of_ble_eq_true rfl) (Nat.le_of_ble_eq_true rfl)) rfl rfl rfl rfl (Nat.le_of_ble_eq_true rfl) (adr_lt (Nat.le_of_ble_eq_true rfl)) (Nat.le_of_ble_eq_true rfl) rfl rfl (Nat.le_of_ble_eq_true rfl) (Nat.le_of_ble_eq_true rfl) dL_rule_5 (fun e u4 q3 hx => ?_) (fun r1 h2 hw => ?_)
  · have hx := hx
    rcases Decidable.em (e = "java/lang/IndexOutOfBoundsException") with c5 | c5
    · have hw := ite_t hx c5
      subst c5
      refine ⟨13, ⟨[], ⟨0, 10, 13, 25⟩, [⟨0, 10, 17, 15⟩], "java/lang/IndexOutOfBoundsException", rfl, (fun z hz => nomatch hz), by decide, by decide, cl_L_25, by decide +kernel, rfl⟩, ?_⟩
      refine r_astoreXw E [some (rf X 10 0), some (.int p1), some (.int p2), some (rf X 75 0), some (.ref q3)] (Nat.le_of_ble_eq_true rfl) rfl dL_rule_13 ?_
      refine r_iconst E 1 rfl dL_rule_15 ?_
      exact hE _ _ _ _ _ _ (Nat.le_of_ble_eq_true rfl) (Nat.le_of_ble_eq_true rfl) dL_rule_16 rfl hw
    · have hx := ite_f hx c5
      rcases Decidable.em (e = "java/lang/IllegalStateException") with c6 | c6
      · have hw := ite_t hx c6
        subst c6
        refine ⟨17, ⟨[⟨0, 10, 13, 25⟩], ⟨0, 10, 17, 15⟩, [], "java/lang/IllegalStateException", rfl, (List.forall_mem_cons.mpr ⟨Or.inr ⟨by decide, "java/lang/IndexOutOfBoundsException", cl_L_25, by decide +kernel⟩, (fun z hz => nomatch hz)⟩), by decide, by decide, cl_L_15, by decide +kernel, rfl⟩, ?_⟩
        refine r_astoreXw E [some (rf X 10 0), some (.int p1), some (.int p2), some (rf X 75 0), some (.ref q3)] (Nat.le_of_ble_eq_true rfl) rfl dL_rule_17 ?_
        refine r_iconst E 2 rfl dL_rule_19 ?_
        exact hE _ _ _ _ _ _ (Nat.le_of_ble_eq_true rfl) (Nat.le_of_ble_eq_true rfl) dL_rule_20 rfl hw
      · have hx := ite_f hx c6
        exact hx.elim
  · have hw := hw
    refine r_i2l E dL_rule_8 ?_
    obtain ⟨i7, hw⟩ := hw
    refine r_last E rfl rfl rfl (Nat.le_of_ble_eq_true rfl) (adr_lt (Nat.le_of_ble_eq_true rfl)) i7 rfl dL_rule_9 ?_
    refine GG_toph fun h8 hh8 => ?_
    have hw := hw h8 hh8
    refine r_goto E 21 (by decide) dL_rule_10 ?_
    refine r_iconst E 0 rfl dL_rule_21 ?_
    exact hE _ _ _ _ _ _ (Nat.le_of_ble_eq_true rfl) (Nat.le_of_ble_eq_true rfl) dL_rule_22 rfl hw
set_option maxRecDepth 20000 in
theorem m_L_action {l : Launch} (hl : l.stackTraces = false) (G : Gq) (p1 : Int32) (p2 : Int32) (p3 : Int32) (p4 : Int32)  (h : Hp) (Q : Int32 → Hp → Prop) (hw : wp_L_action p1 p2 p3 p4 h Q) : WI l G yL_action cL_action 7 (some .int) [(0, 14, 17, 25), (0, 14, 21, 13), (0, 14, 25, 15)] rm_L_action NT NT h (fun r => [r 10 0, .int p1, .int p2, .int p3, .int p4, r 75 0]) Q := by
  refine WI_of (L0 := (fun X => [some (rf X 10 0), some (.int p1), some (.int p2), some (.int p3), some (.int p4), some (rf X 75 0), none])) hl (by decide +kernel) rfl (fun _ => Nat.le_of_ble_eq_true rfl) (fun _ => rfl) fun X hXl hXG E hT hE => ?_
  subst hXl; subst hXG
  unfold wp_L_action at hw
  refine r_aload E 75 0 rfl dL_action_0 ?_
  refine r_iconst E 0 rfl dL_action_2 ?_
  refine r_aload_n E 10 0 rfl dL_action_3 ?_
  refine r_iload_n E p1 rfl dL_action_4 ?_
  refine r_iload_n E p2 rfl dL_action_5 ?_
  refine r_iload_n E p3 rfl dL_action_6 ?_
  refine r_iload E p4 rfl dL_action_7 ?_
  refine r_xcallVIc E hT (m_X10_action (EE_st E) (GX X) p1 p2 p3 p4 h _ _ hw) lk_L_52 (RM_mk (Nat.le_of_ble_eq_true rfl) (Nat.le_of_ble_eq_true rfl)) rfl rfl rfl rfl (Nat.le_of_ble_eq_true rfl) (adr_lt (Nat.le_of_ble_eq_true rfl)) (Nat.le_of_ble_eq_true rfl) rfl rfl (Nat.le_of_ble_eq_true rfl) (Nat.le_of_ble_eq_true rfl) dL_action_9 (fun e u4 q3 hx => ?_) (fun r1 h2 hw => ?_)
  · have hx := hx
    rcases Decidable.em (e = "java/lang/IndexOutOfBoundsException") with c5 | c5
    · have hw := ite_t hx c5
      subst c5
      refine ⟨17, ⟨[], ⟨0, 14, 17, 25⟩, [⟨0, 14, 21, 13⟩, ⟨0, 14, 25, 15⟩], "java/lang/IndexOutOfBoundsException", rfl, (fun z hz => nomatch hz), by decide, by decide, cl_L_25, by decide +kernel, rfl⟩, ?_⟩
      refine r_astoreXw E [some (rf X 10 0), some (.int p1), some (.int p2), some (.int p3), some (.int p4), some (rf X 75 0), some (.ref q3)] (Nat.le_of_ble_eq_true rfl) rfl dL_action_17 ?_
      refine r_iconst E 1 rfl dL_action_19 ?_
      exact hE _ _ _ _ _ _ (Nat.le_of_ble_eq_true rfl) (Nat.le_of_ble_eq_true rfl) dL_action_20 rfl hw
    · have hx := ite_f hx c5
      rcases Decidable.em (e = "java/lang/IllegalArgumentException") with c6 | c6
      · have hw := ite_t hx c6
        subst c6
        refine ⟨21, ⟨[⟨0, 14, 17, 25⟩], ⟨0, 14, 21, 13⟩, [⟨0, 14, 25, 15⟩], "java/lang/IllegalArgumentException", rfl, (List.forall_mem_cons.mpr ⟨Or.inr ⟨by decide, "java/lang/IndexOutOfBoundsException", cl_L_25, by decide +kernel⟩, (fun z hz => nomatch hz)⟩), by decide, by decide, cl_L_13, by decide +kernel, rfl⟩, ?_⟩
        refine r_astoreXw E [some (rf X 10 0), some (.int p1), some (.int p2), some (.int p3), some (.int p4), some (rf X 75 0), some (.ref q3)] (Nat.le_of_ble_eq_true rfl) rfl dL_action_21 ?_
        refine r_iconst E 2 rfl dL_action_23 ?_
        exact hE _ _ _ _ _ _ (Nat.le_of_ble_eq_true rfl) (Nat.le_of_ble_eq_true rfl) dL_action_24 rfl hw
      · have hx := ite_f hx c6
        rcases Decidable.em (e = "java/lang/IllegalStateException") with c7 | c7
        · have hw := ite_t hx c7
          subst c7
          refine ⟨25, ⟨[⟨0, 14, 17, 25⟩, ⟨0, 14, 21, 13⟩], ⟨0, 14, 25, 15⟩, [], "java/lang/IllegalStateException", rfl, (List.forall_mem_cons.mpr ⟨Or.inr ⟨by decide, "java/lang/IndexOutOfBoundsException", cl_L_25, by decide +kernel⟩, (List.forall_mem_cons.mpr ⟨Or.inr ⟨by decide, "java/lang/IllegalArgumentException", cl_L_13, by decide +kernel⟩, (fun z hz => nomatch hz)⟩)⟩), by decide, by decide, cl_L_15, by decide +kernel, rfl⟩, ?_⟩
          refine r_astoreXw E [some (rf X 10 0), some (.int p1), some (.int p2), some (.int p3), some (.int p4), some (rf X 75 0), some (.ref q3)] (Nat.le_of_ble_eq_true rfl) rfl dL_action_25 ?_
          refine r_iconst E 3 rfl dL_action_27 ?_
          exact hE _ _ _ _ _ _ (Nat.le_of_ble_eq_true rfl) (Nat.le_of_ble_eq_true rfl) dL_action_28 rfl hw
        · have hx := ite_f hx c7
          exact hx.elim
  · have hw := hw
    refine r_i2l E dL_action_12 ?_
    obtain ⟨i8, hw⟩ := hw
    refine r_last E rfl rfl rfl (Nat.le_of_ble_eq_true rfl) (adr_lt (Nat.le_of_ble_eq_true rfl)) i8 rfl dL_action_13 ?_
    refine GG_toph fun h9 hh9 => ?_
    have hw := hw h9 hh9
    refine r_goto E 29 (by decide) dL_action_14 ?_
    refine r_iconst E 0 rfl dL_action_29 ?_
    exact hE _ _ _ _ _ _ (Nat.le_of_ble_eq_true rfl) (Nat.le_of_ble_eq_true rfl) dL_action_30 rfl hw
set_option maxRecDepth 20000 in
theorem m_L_clear {l : Launch} (hl : l.stackTraces = false) (G : Gq) (p1 : Int32)  (h : Hp) (Q : Int32 → Hp → Prop) (hw : wp_L_clear p1 h Q) : WI l G yL_clear cL_clear 4 (some .int) [(0, 9, 12, 25)] rm_L_clear NT NT h (fun r => [r 10 0, .int p1, r 75 0]) Q := by
  refine WI_of (L0 := (fun X => [some (rf X 10 0), some (.int p1), some (rf X 75 0), none])) hl (by decide +kernel) rfl (fun _ => Nat.le_of_ble_eq_true rfl) (fun _ => rfl) fun X hXl hXG E hT hE => ?_
  subst hXl; subst hXG
  unfold wp_L_clear at hw
  refine r_aload_n E 75 0 rfl dL_clear_0 ?_
  refine r_iconst E 0 rfl dL_clear_1 ?_
  refine r_aload_n E 10 0 rfl dL_clear_2 ?_
  refine r_iload_n E p1 rfl dL_clear_3 ?_
  refine r_xcallVIc E hT (m_X10_clear (EE_st E) (GX X) p1 h _ _ hw) lk_L_56 (RM_mk (Nat.le_of_ble_eq_true rfl) (Nat.le_of_ble_eq_true rfl)) rfl rfl rfl rfl (Nat.le_of_ble_eq_true rfl) (adr_lt (Nat.le_of_ble_eq_true rfl)) (Nat.le_of_ble_eq_true rfl) rfl rfl (Nat.le_of_ble_eq_true rfl) (Nat.le_of_ble_eq_true rfl) dL_clear_4 (fun e u4 q3 hx => ?_) (fun r1 h2 hw => ?_)
  · have hx := hx
    rcases Decidable.em (e = "java/lang/IndexOutOfBoundsException") with c5 | c5
    · have hw := ite_t hx c5
      subst c5
      refine ⟨12, ⟨[], ⟨0, 9, 12, 25⟩, [], "java/lang/IndexOutOfBoundsException", rfl, (fun z hz => nomatch hz), by decide, by decide, cl_L_25, by decide +kernel, rfl⟩, ?_⟩
      refine r_astoreX E [some (rf X 10 0), some (.int p1), some (rf X 75 0), some (.ref q3)] rfl (Nat.le_of_ble_eq_true rfl) rfl dL_clear_12 ?_
      refine r_iconst E 1 rfl dL_clear_13 ?_
      exact hE _ _ _ _ _ _ (Nat.le_of_ble_eq_true rfl) (Nat.le_of_ble_eq_true rfl) dL_clear_14 rfl hw
    · have hx := ite_f hx c5
      exact hx.elim
  · have hw := hw
    refine r_i2l E dL_clear_7 ?_
    obtain ⟨i6, hw⟩ := hw
    refine r_last E rfl rfl rfl (Nat.le_of_ble_eq_true rfl) (adr_lt (Nat.le_of_ble_eq_true rfl)) i6 rfl dL_clear_8 ?_
    refine GG_toph fun h7 hh7 => ?_
    have hw := hw h7 hh7
    refine r_goto E 15 (by decide) dL_clear_9 ?_
    refine r_iconst E 0 rfl dL_clear_15 ?_
    exact hE _ _ _ _ _ _ (Nat.le_of_ble_eq_true rfl) (Nat.le_of_ble_eq_true rfl) dL_clear_16 rfl hw
set_option maxRecDepth 20000 in
theorem m_L_reorder {l : Launch} (hl : l.stackTraces = false) (G : Gq) (p1 : Int32) (p2 : Int32) (p3 : Int32)  (h : Hp) (Q : Int32 → Hp → Prop) (hw : wp_L_reorder p1 p2 p3 h Q) : WI l G yL_reorder cL_reorder 6 (some .int) [(0, 12, 15, 25)] rm_L_reorder NT NT h (fun r => [r 10 0, .int p1, .int p2, .int p3, r 75 0]) Q := by
  refine WI_of (L0 := (fun X => [some (rf X 10 0), some (.int p1), some (.int p2), some (.int p3), some (rf X 75 0), none])) hl (by decide +kernel) rfl (fun _ => Nat.le_of_ble_eq_true rfl) (fun _ => rfl) fun X hXl hXG E hT hE => ?_
  subst hXl; subst hXG
  unfold wp_L_reorder at hw
  refine r_aload E 75 0 rfl dL_reorder_0 ?_
  refine r_iconst E 0 rfl dL_reorder_2 ?_
  refine r_aload_n E 10 0 rfl dL_reorder_3 ?_
  refine r_iload_n E p1 rfl dL_reorder_4 ?_
  refine r_iload_n E p2 rfl dL_reorder_5 ?_
  refine r_iload_n E p3 rfl dL_reorder_6 ?_
  refine r_xcallVIc E hT (m_X10_reorder (EE_st E) (GX X) p1 p2 p3 h _ _ hw) lk_L_59 (RM_mk (Nat.le_of_ble_eq_true rfl) (Nat.le_of_ble_eq_true rfl)) rfl rfl rfl rfl (Nat.le_of_ble_eq_true rfl) (adr_lt (Nat.le_of_ble_eq_true rfl)) (Nat.le_of_ble_eq_true rfl) rfl rfl (Nat.le_of_ble_eq_true rfl) (Nat.le_of_ble_eq_true rfl) dL_reorder_7 (fun e u4 q3 hx => ?_) (fun r1 h2 hw => ?_)
  · have hx := hx
    rcases Decidable.em (e = "java/lang/IndexOutOfBoundsException") with c5 | c5
    · have hw := ite_t hx c5
      subst c5
      refine ⟨15, ⟨[], ⟨0, 12, 15, 25⟩, [], "java/lang/IndexOutOfBoundsException", rfl, (fun z hz => nomatch hz), by decide, by decide, cl_L_25, by decide +kernel, rfl⟩, ?_⟩
      refine r_astoreXw E [some (rf X 10 0), some (.int p1), some (.int p2), some (.int p3), some (rf X 75 0), some (.ref q3)] (Nat.le_of_ble_eq_true rfl) rfl dL_reorder_15 ?_
      refine r_iconst E 1 rfl dL_reorder_17 ?_
      exact hE _ _ _ _ _ _ (Nat.le_of_ble_eq_true rfl) (Nat.le_of_ble_eq_true rfl) dL_reorder_18 rfl hw
    · have hx := ite_f hx c5
      exact hx.elim
  · have hw := hw
    refine r_i2l E dL_reorder_10 ?_
    obtain ⟨i6, hw⟩ := hw
    refine r_last E rfl rfl rfl (Nat.le_of_ble_eq_true rfl) (adr_lt (Nat.le_of_ble_eq_true rfl)) i6 rfl dL_reorder_11 ?_
    refine GG_toph fun h7 hh7 => ?_
    have hw := hw h7 hh7
    refine r_goto E 19 (by decide) dL_reorder_12 ?_
    refine r_iconst E 0 rfl dL_reorder_19 ?_
    exact hE _ _ _ _ _ _ (Nat.le_of_ble_eq_true rfl) (Nat.le_of_ble_eq_true rfl) dL_reorder_20 rfl hw
set_option maxRecDepth 20000 in
theorem m_L_deliver {l : Launch} (hl : l.stackTraces = false) (G : Gq) (p1 : Int32)  (h : Hp) (Q : Int32 → Hp → Prop) (hw : wp_L_deliver p1 h Q) : WI l G yL_deliver cL_deliver 4 (some .int) [(0, 9, 12, 25)] rm_L_deliver NT NT h (fun r => [r 10 0, .int p1, r 75 0]) Q := by
  refine WI_of (L0 := (fun X => [some (rf X 10 0), some (.int p1), some (rf X 75 0), none])) hl (by decide +kernel) rfl (fun _ => Nat.le_of_ble_eq_true rfl) (fun _ => rfl) fun X hXl hXG E hT hE => ?_
  subst hXl; subst hXG
  unfold wp_L_deliver at hw
  refine r_aload_n E 75 0 rfl dL_deliver_0 ?_
  refine r_iconst E 0 rfl dL_deliver_1 ?_
  refine r_aload_n E 10 0 rfl dL_deliver_2 ?_
  refine r_iload_n E p1 rfl dL_deliver_3 ?_
  refine r_xcallVIc E hT (m_X10_deliver (EE_st E) (GX X) p1 h _ _ hw) lk_L_63 (RM_mk (Nat.le_of_ble_eq_true rfl) (Nat.le_of_ble_eq_true rfl)) rfl rfl rfl rfl (Nat.le_of_ble_eq_true rfl) (adr_lt (Nat.le_of_ble_eq_true rfl)) (Nat.le_of_ble_eq_true rfl) rfl rfl (Nat.le_of_ble_eq_true rfl) (Nat.le_of_ble_eq_true rfl) dL_deliver_4 (fun e u4 q3 hx => ?_) (fun r1 h2 hw => ?_)
  · have hx := hx
    rcases Decidable.em (e = "java/lang/IndexOutOfBoundsException") with c5 | c5
    · have hw := ite_t hx c5
      subst c5
      refine ⟨12, ⟨[], ⟨0, 9, 12, 25⟩, [], "java/lang/IndexOutOfBoundsException", rfl, (fun z hz => nomatch hz), by decide, by decide, cl_L_25, by decide +kernel, rfl⟩, ?_⟩
      refine r_astoreX E [some (rf X 10 0), some (.int p1), some (rf X 75 0), some (.ref q3)] rfl (Nat.le_of_ble_eq_true rfl) rfl dL_deliver_12 ?_
      refine r_iconst E 1 rfl dL_deliver_13 ?_
      exact hE _ _ _ _ _ _ (Nat.le_of_ble_eq_true rfl) (Nat.le_of_ble_eq_true rfl) dL_deliver_14 rfl hw
    · have hx := ite_f hx c5
      exact hx.elim
  · have hw := hw
    refine r_i2l E dL_deliver_7 ?_
    obtain ⟨i6, hw⟩ := hw
    refine r_last E rfl rfl rfl (Nat.le_of_ble_eq_true rfl) (adr_lt (Nat.le_of_ble_eq_true rfl)) i6 rfl dL_deliver_8 ?_
    refine GG_toph fun h7 hh7 => ?_
    have hw := hw h7 hh7
    refine r_goto E 15 (by decide) dL_deliver_9 ?_
    refine r_iconst E 0 rfl dL_deliver_15 ?_
    exact hE _ _ _ _ _ _ (Nat.le_of_ble_eq_true rfl) (Nat.le_of_ble_eq_true rfl) dL_deliver_16 rfl hw
set_option maxRecDepth 20000 in
theorem m_L_attempt {l : Launch} (hl : l.stackTraces = false) (G : Gq) (p1 : Int32) (p2 : Int32)  (h : Hp) (Q : Int32 → Hp → Prop) (hw : wp_L_attempt p1 p2 h Q) : WI l G yL_attempt cL_attempt 5 (some .int) [(0, 10, 13, 25)] rm_L_attempt NT NT h (fun r => [r 10 0, .int p1, .int p2, r 75 0]) Q := by
  refine WI_of (L0 := (fun X => [some (rf X 10 0), some (.int p1), some (.int p2), some (rf X 75 0), none])) hl (by decide +kernel) rfl (fun _ => Nat.le_of_ble_eq_true rfl) (fun _ => rfl) fun X hXl hXG E hT hE => ?_
  subst hXl; subst hXG
  unfold wp_L_attempt at hw
  refine r_aload_n E 75 0 rfl dL_attempt_0 ?_
  refine r_iconst E 0 rfl dL_attempt_1 ?_
  refine r_aload_n E 10 0 rfl dL_attempt_2 ?_
  refine r_iload_n E p1 rfl dL_attempt_3 ?_
  refine r_iload_n E p2 rfl dL_attempt_4 ?_
  refine r_xcallVIc E hT (m_X10_attempt (EE_st E) (GX X) p1 p2 h _ _ hw) lk_L_66 (RM_mk (Nat.le_of_ble_eq_true rfl) (Nat.le_of_ble_eq_true rfl)) rfl rfl rfl rfl (Nat.le_of_ble_eq_true rfl) (adr_lt (Nat.le_of_ble_eq_true rfl)) (Nat.le_of_ble_eq_true rfl) rfl rfl (Nat.le_of_ble_eq_true rfl) (Nat.le_of_ble_eq_true rfl) dL_attempt_5 (fun e u4 q3 hx => ?_) (fun r1 h2 hw => ?_)
  · have hx := hx
    rcases Decidable.em (e = "java/lang/IndexOutOfBoundsException") with c5 | c5
    · have hw := ite_t hx c5
      subst c5
      refine ⟨13, ⟨[], ⟨0, 10, 13, 25⟩, [], "java/lang/IndexOutOfBoundsException", rfl, (fun z hz => nomatch hz), by decide, by decide, cl_L_25, by decide +kernel, rfl⟩, ?_⟩
      refine r_astoreXw E [some (rf X 10 0), some (.int p1), some (.int p2), some (rf X 75 0), some (.ref q3)] (Nat.le_of_ble_eq_true rfl) rfl dL_attempt_13 ?_
      refine r_iconst E 1 rfl dL_attempt_15 ?_
      exact hE _ _ _ _ _ _ (Nat.le_of_ble_eq_true rfl) (Nat.le_of_ble_eq_true rfl) dL_attempt_16 rfl hw
    · have hx := ite_f hx c5
      exact hx.elim
  · have hw := hw
    refine r_i2l E dL_attempt_8 ?_
    obtain ⟨i6, hw⟩ := hw
    refine r_last E rfl rfl rfl (Nat.le_of_ble_eq_true rfl) (adr_lt (Nat.le_of_ble_eq_true rfl)) i6 rfl dL_attempt_9 ?_
    refine GG_toph fun h7 hh7 => ?_
    have hw := hw h7 hh7
    refine r_goto E 17 (by decide) dL_attempt_10 ?_
    refine r_iconst E 0 rfl dL_attempt_17 ?_
    exact hE _ _ _ _ _ _ (Nat.le_of_ble_eq_true rfl) (Nat.le_of_ble_eq_true rfl) dL_attempt_18 rfl hw
set_option maxRecDepth 20000 in
theorem m_L_doneAt {l : Launch} (hl : l.stackTraces = false) (G : Gq) (p1 : Int32)  (h : Hp) (Q : Int32 → Hp → Prop) (hw : wp_L_doneAt p1 h Q) : WI l G yL_doneAt cL_doneAt 4 (some .int) [(0, 9, 12, 25)] rm_L_doneAt NT NT h (fun r => [r 10 0, .int p1, r 75 0]) Q := by
  refine WI_of (L0 := (fun X => [some (rf X 10 0), some (.int p1), some (rf X 75 0), none])) hl (by decide +kernel) rfl (fun _ => Nat.le_of_ble_eq_true rfl) (fun _ => rfl) fun X hXl hXG E hT hE => ?_
  subst hXl; subst hXG
  unfold wp_L_doneAt at hw
  refine r_aload_n E 75 0 rfl dL_doneAt_0 ?_
  refine r_iconst E 0 rfl dL_doneAt_1 ?_
  refine r_aload_n E 10 0 rfl dL_doneAt_2 ?_
  refine r_iload_n E p1 rfl dL_doneAt_3 ?_
  refine r_xcallVIc E hT (m_X10_doneAt (EE_st E) (GX X) p1 h _ _ hw) lk_L_69 (RM_mk (Nat.le_of_ble_eq_true rfl) (Nat.le_of_ble_eq_true rfl)) rfl rfl rfl rfl (Nat.le_of_ble_eq_true rfl) (adr_lt (Nat.le_of_ble_eq_true rfl)) (Nat.le_of_ble_eq_true rfl) rfl rfl (Nat.le_of_ble_eq_true rfl) (Nat.le_of_ble_eq_true rfl) dL_doneAt_4 (fun e u9 q2 hx => ?_) (fun r1 u9 hw => ?_)
  · obtain ⟨rfl, hx⟩ := hx
    rcases Decidable.em (e = "java/lang/IndexOutOfBoundsException") with c3 | c3
    · have hw := ite_t hx c3
      subst c3
      refine ⟨12, ⟨[], ⟨0, 9, 12, 25⟩, [], "java/lang/IndexOutOfBoundsException", rfl, (fun z hz => nomatch hz), by decide, by decide, cl_L_25, by decide +kernel, rfl⟩, ?_⟩
      refine r_astoreX E [some (rf X 10 0), some (.int p1), some (rf X 75 0), some (.ref q2)] rfl (Nat.le_of_ble_eq_true rfl) rfl dL_doneAt_12 ?_
      refine r_iconst E 1 rfl dL_doneAt_13 ?_
      exact hE _ _ _ _ _ _ (Nat.le_of_ble_eq_true rfl) (Nat.le_of_ble_eq_true rfl) dL_doneAt_14 rfl hw
    · have hx := ite_f hx c3
      exact hx.elim
  · obtain ⟨rfl, hw⟩ := hw
    refine r_i2l E dL_doneAt_7 ?_
    obtain ⟨i4, hw⟩ := hw
    refine r_last E rfl rfl rfl (Nat.le_of_ble_eq_true rfl) (adr_lt (Nat.le_of_ble_eq_true rfl)) i4 rfl dL_doneAt_8 ?_
    refine GG_toph fun h5 hh5 => ?_
    have hw := hw h5 hh5
    refine r_goto E 15 (by decide) dL_doneAt_9 ?_
    refine r_iconst E 0 rfl dL_doneAt_15 ?_
    exact hE _ _ _ _ _ _ (Nat.le_of_ble_eq_true rfl) (Nat.le_of_ble_eq_true rfl) dL_doneAt_16 rfl hw
set_option maxRecDepth 20000 in
theorem m_L_faults {l : Launch} (hl : l.stackTraces = false) (G : Gq) (p1 : Int32)  (h : Hp) (Q : Int32 → Hp → Prop) (hw : wp_L_faults p1 h Q) : WI l G yL_faults cL_faults 4 (some .int) [(0, 9, 12, 13)] rm_L_faults NT NT h (fun r => [r 10 0, .int p1, r 75 0]) Q := by
  refine WI_of (L0 := (fun X => [some (rf X 10 0), some (.int p1), some (rf X 75 0), none])) hl (by decide +kernel) rfl (fun _ => Nat.le_of_ble_eq_true rfl) (fun _ => rfl) fun X hXl hXG E hT hE => ?_
  subst hXl; subst hXG
  unfold wp_L_faults at hw
  refine r_aload_n E 75 0 rfl dL_faults_0 ?_
  refine r_iconst E 0 rfl dL_faults_1 ?_
  refine r_aload_n E 10 0 rfl dL_faults_2 ?_
  refine r_iload_n E p1 rfl dL_faults_3 ?_
  refine r_xcallVIc E hT (m_X10_faults (EE_st E) (GX X) p1 h _ _ hw) lk_L_72 (RM_mk (Nat.le_of_ble_eq_true rfl) (Nat.le_of_ble_eq_true rfl)) rfl rfl rfl rfl (Nat.le_of_ble_eq_true rfl) (adr_lt (Nat.le_of_ble_eq_true rfl)) (Nat.le_of_ble_eq_true rfl) rfl rfl (Nat.le_of_ble_eq_true rfl) (Nat.le_of_ble_eq_true rfl) dL_faults_4 (fun e u9 q2 hx => ?_) (fun r1 u9 hw => ?_)
  · obtain ⟨rfl, hx⟩ := hx
    rcases Decidable.em (e = "java/lang/IllegalArgumentException") with c3 | c3
    · have hw := ite_t hx c3
      subst c3
      refine ⟨12, ⟨[], ⟨0, 9, 12, 13⟩, [], "java/lang/IllegalArgumentException", rfl, (fun z hz => nomatch hz), by decide, by decide, cl_L_13, by decide +kernel, rfl⟩, ?_⟩
      refine r_astoreX E [some (rf X 10 0), some (.int p1), some (rf X 75 0), some (.ref q2)] rfl (Nat.le_of_ble_eq_true rfl) rfl dL_faults_12 ?_
      refine r_iconst E 1 rfl dL_faults_13 ?_
      exact hE _ _ _ _ _ _ (Nat.le_of_ble_eq_true rfl) (Nat.le_of_ble_eq_true rfl) dL_faults_14 rfl hw
    · have hx := ite_f hx c3
      exact hx.elim
  · obtain ⟨rfl, hw⟩ := hw
    refine r_i2l E dL_faults_7 ?_
    obtain ⟨i4, hw⟩ := hw
    refine r_last E rfl rfl rfl (Nat.le_of_ble_eq_true rfl) (adr_lt (Nat.le_of_ble_eq_true rfl)) i4 rfl dL_faults_8 ?_
    refine GG_toph fun h5 hh5 => ?_
    have hw := hw h5 hh5
    refine r_goto E 15 (by decide) dL_faults_9 ?_
    refine r_iconst E 0 rfl dL_faults_15 ?_
    exact hE _ _ _ _ _ _ (Nat.le_of_ble_eq_true rfl) (Nat.le_of_ble_eq_true rfl) dL_faults_16 rfl hw
set_option maxRecDepth 20000 in
theorem m_L_replies {l : Launch} (hl : l.stackTraces = false) (G : Gq) (p1 : Int32)  (h : Hp) (Q : Int32 → Hp → Prop) (hw : wp_L_replies p1 h Q) : WI l G yL_replies cL_replies 4 (some .int) [(0, 9, 12, 25)] rm_L_replies NT NT h (fun r => [r 10 0, .int p1, r 75 0]) Q := by
  refine WI_of (L0 := (fun X => [some (rf X 10 0), some (.int p1), some (rf X 75 0), none])) hl (by decide +kernel) rfl (fun _ => Nat.le_of_ble_eq_true rfl) (fun _ => rfl) fun X hXl hXG E hT hE => ?_
  subst hXl; subst hXG
  unfold wp_L_replies at hw
  refine r_aload_n E 75 0 rfl dL_replies_0 ?_
  refine r_iconst E 0 rfl dL_replies_1 ?_
  refine r_aload_n E 10 0 rfl dL_replies_2 ?_
  refine r_iload_n E p1 rfl dL_replies_3 ?_
  refine r_xcallVIc E hT (m_X10_replies (EE_st E) (GX X) p1 h _ _ hw) lk_L_76 (RM_mk (Nat.le_of_ble_eq_true rfl) (Nat.le_of_ble_eq_true rfl)) rfl rfl rfl rfl (Nat.le_of_ble_eq_true rfl) (adr_lt (Nat.le_of_ble_eq_true rfl)) (Nat.le_of_ble_eq_true rfl) rfl rfl (Nat.le_of_ble_eq_true rfl) (Nat.le_of_ble_eq_true rfl) dL_replies_4 (fun e u9 q2 hx => ?_) (fun r1 u9 hw => ?_)
  · obtain ⟨rfl, hx⟩ := hx
    rcases Decidable.em (e = "java/lang/IndexOutOfBoundsException") with c3 | c3
    · have hw := ite_t hx c3
      subst c3
      refine ⟨12, ⟨[], ⟨0, 9, 12, 25⟩, [], "java/lang/IndexOutOfBoundsException", rfl, (fun z hz => nomatch hz), by decide, by decide, cl_L_25, by decide +kernel, rfl⟩, ?_⟩
      refine r_astoreX E [some (rf X 10 0), some (.int p1), some (rf X 75 0), some (.ref q2)] rfl (Nat.le_of_ble_eq_true rfl) rfl dL_replies_12 ?_
      refine r_iconst E 1 rfl dL_replies_13 ?_
      exact hE _ _ _ _ _ _ (Nat.le_of_ble_eq_true rfl) (Nat.le_of_ble_eq_true rfl) dL_replies_14 rfl hw
    · have hx := ite_f hx c3
      exact hx.elim
  · obtain ⟨rfl, hw⟩ := hw
    refine r_i2l E dL_replies_7 ?_
    obtain ⟨i4, hw⟩ := hw
    refine r_last E rfl rfl rfl (Nat.le_of_ble_eq_true rfl) (adr_lt (Nat.le_of_ble_eq_true rfl)) i4 rfl dL_replies_8 ?_
    refine GG_toph fun h5 hh5 => ?_
    have hw := hw h5 hh5
    refine r_goto E 15 (by decide) dL_replies_9 ?_
    refine r_iconst E 0 rfl dL_replies_15 ?_
    exact hE _ _ _ _ _ _ (Nat.le_of_ble_eq_true rfl) (Nat.le_of_ble_eq_true rfl) dL_replies_16 rfl hw
set_option maxRecDepth 20000 in
theorem m_L_forwarded {l : Launch} (hl : l.stackTraces = false) (G : Gq) (p1 : Int32)  (h : Hp) (Q : Int32 → Hp → Prop) (hw : wp_L_forwarded p1 h Q) : WI l G yL_forwarded cL_forwarded 4 (some .int) [(0, 9, 12, 25)] rm_L_forwarded NT NT h (fun r => [r 10 0, .int p1, r 75 0]) Q := by
  refine WI_of (L0 := (fun X => [some (rf X 10 0), some (.int p1), some (rf X 75 0), none])) hl (by decide +kernel) rfl (fun _ => Nat.le_of_ble_eq_true rfl) (fun _ => rfl) fun X hXl hXG E hT hE => ?_
  subst hXl; subst hXG
  unfold wp_L_forwarded at hw
  refine r_aload_n E 75 0 rfl dL_forwarded_0 ?_
  refine r_iconst E 0 rfl dL_forwarded_1 ?_
  refine r_aload_n E 10 0 rfl dL_forwarded_2 ?_
  refine r_iload_n E p1 rfl dL_forwarded_3 ?_
  refine r_xcallVIc E hT (m_X10_forwarded (EE_st E) (GX X) p1 h _ _ hw) lk_L_79 (RM_mk (Nat.le_of_ble_eq_true rfl) (Nat.le_of_ble_eq_true rfl)) rfl rfl rfl rfl (Nat.le_of_ble_eq_true rfl) (adr_lt (Nat.le_of_ble_eq_true rfl)) (Nat.le_of_ble_eq_true rfl) rfl rfl (Nat.le_of_ble_eq_true rfl) (Nat.le_of_ble_eq_true rfl) dL_forwarded_4 (fun e u9 q2 hx => ?_) (fun r1 u9 hw => ?_)
  · obtain ⟨rfl, hx⟩ := hx
    rcases Decidable.em (e = "java/lang/IndexOutOfBoundsException") with c3 | c3
    · have hw := ite_t hx c3
      subst c3
      refine ⟨12, ⟨[], ⟨0, 9, 12, 25⟩, [], "java/lang/IndexOutOfBoundsException", rfl, (fun z hz => nomatch hz), by decide, by decide, cl_L_25, by decide +kernel, rfl⟩, ?_⟩
      refine r_astoreX E [some (rf X 10 0), some (.int p1), some (rf X 75 0), some (.ref q2)] rfl (Nat.le_of_ble_eq_true rfl) rfl dL_forwarded_12 ?_
      refine r_iconst E 1 rfl dL_forwarded_13 ?_
      exact hE _ _ _ _ _ _ (Nat.le_of_ble_eq_true rfl) (Nat.le_of_ble_eq_true rfl) dL_forwarded_14 rfl hw
    · have hx := ite_f hx c3
      exact hx.elim
  · obtain ⟨rfl, hw⟩ := hw
    refine r_i2l E dL_forwarded_7 ?_
    obtain ⟨i4, hw⟩ := hw
    refine r_last E rfl rfl rfl (Nat.le_of_ble_eq_true rfl) (adr_lt (Nat.le_of_ble_eq_true rfl)) i4 rfl dL_forwarded_8 ?_
    refine GG_toph fun h5 hh5 => ?_
    have hw := hw h5 hh5
    refine r_goto E 15 (by decide) dL_forwarded_9 ?_
    refine r_iconst E 0 rfl dL_forwarded_15 ?_
    exact hE _ _ _ _ _ _ (Nat.le_of_ble_eq_true rfl) (Nat.le_of_ble_eq_true rfl) dL_forwarded_16 rfl hw
set_option maxRecDepth 20000 in
theorem m_L_difference {l : Launch} (hl : l.stackTraces = false) (G : Gq) (p1 : Int32) (p2 : Int32)  (h : Hp) (Q : Int32 → Hp → Prop) (hw : wp_L_difference p1 p2 h Q) : WI l G yL_difference cL_difference 5 (some .int) [(0, 10, 13, 25)] rm_L_difference NT NT h (fun r => [r 10 0, .int p1, .int p2, r 75 0]) Q := by
  refine WI_of (L0 := (fun X => [some (rf X 10 0), some (.int p1), some (.int p2), some (rf X 75 0), none])) hl (by decide +kernel) rfl (fun _ => Nat.le_of_ble_eq_true rfl) (fun _ => rfl) fun X hXl hXG E hT hE => ?_
  subst hXl; subst hXG
  unfold wp_L_difference at hw
  refine r_aload_n E 75 0 rfl dL_difference_0 ?_
  refine r_iconst E 0 rfl dL_difference_1 ?_
  refine r_aload_n E 10 0 rfl dL_difference_2 ?_
  refine r_iload_n E p1 rfl dL_difference_3 ?_
  refine r_iload_n E p2 rfl dL_difference_4 ?_
  refine r_xcallVIc E hT (m_X10_difference (EE_st E) (GX X) p1 p2 h _ _ hw) lk_L_82 (RM_mk (Nat.le_of_ble_eq_true rfl) (Nat.le_of_ble_eq_true rfl)) rfl rfl rfl rfl (Nat.le_of_ble_eq_true rfl) (adr_lt (Nat.le_of_ble_eq_true rfl)) (Nat.le_of_ble_eq_true rfl) rfl rfl (Nat.le_of_ble_eq_true rfl) (Nat.le_of_ble_eq_true rfl) dL_difference_5 (fun e u4 q3 hx => ?_) (fun r1 h2 hw => ?_)
  · have hx := hx
    rcases Decidable.em (e = "java/lang/IndexOutOfBoundsException") with c5 | c5
    · have hw := ite_t hx c5
      subst c5
      refine ⟨13, ⟨[], ⟨0, 10, 13, 25⟩, [], "java/lang/IndexOutOfBoundsException", rfl, (fun z hz => nomatch hz), by decide, by decide, cl_L_25, by decide +kernel, rfl⟩, ?_⟩
      refine r_astoreXw E [some (rf X 10 0), some (.int p1), some (.int p2), some (rf X 75 0), some (.ref q3)] (Nat.le_of_ble_eq_true rfl) rfl dL_difference_13 ?_
      refine r_iconst E 1 rfl dL_difference_15 ?_
      exact hE _ _ _ _ _ _ (Nat.le_of_ble_eq_true rfl) (Nat.le_of_ble_eq_true rfl) dL_difference_16 rfl hw
    · have hx := ite_f hx c5
      exact hx.elim
  · have hw := hw
    refine r_i2l E dL_difference_8 ?_
    obtain ⟨i6, hw⟩ := hw
    refine r_last E rfl rfl rfl (Nat.le_of_ble_eq_true rfl) (adr_lt (Nat.le_of_ble_eq_true rfl)) i6 rfl dL_difference_9 ?_
    refine GG_toph fun h7 hh7 => ?_
    have hw := hw h7 hh7
    refine r_goto E 17 (by decide) dL_difference_10 ?_
    refine r_iconst E 0 rfl dL_difference_17 ?_
    exact hE _ _ _ _ _ _ (Nat.le_of_ble_eq_true rfl) (Nat.le_of_ble_eq_true rfl) dL_difference_18 rfl hw
set_option maxRecDepth 20000 in
theorem t_L_isShadowed_b16 {X : Ctx} (h : Hp) (s1 : Int32) (s2 : Int64)  (E : EE X cL_isShadowed RL 5 47 1442 2 12) {Q : Int32 → Hp → Prop} (hE : ENDi X cL_isShadowed .int Q NT 2 12)  (hw : wp_L_isShadowed_b16 s1 s2 h  Q) : GG X 2 12 NT h [none, none, none, none, none] 16 [.long s2, .int s1, rf X 75 0] := by
  unfold wp_L_isShadowed_b16 at hw
  obtain ⟨i1, hw⟩ := hw
  refine r_last E rfl rfl rfl (Nat.le_of_ble_eq_true rfl) (adr_lt (Nat.le_of_ble_eq_true rfl)) i1 rfl dL_isShadowed_16 ?_
  refine GG_toph fun h2 hh2 => ?_
  have hw := hw h2 hh2
  refine r_goto E 24 (by decide) dL_isShadowed_17 ?_
  refine r_iconst E 0 rfl dL_isShadowed_24 ?_
  exact hE _ _ _ _ _ _ (Nat.le_of_ble_eq_true rfl) (Nat.le_of_ble_eq_true rfl) dL_isShadowed_25 rfl hw
set_option maxRecDepth 20000 in
theorem m_L_isShadowed {l : Launch} (hl : l.stackTraces = false) (G : Gq) (p1 : Int32) (p2 : Int32)  (h : Hp) (Q : Int32 → Hp → Prop) (hw : wp_L_isShadowed p1 p2 h Q) : WI l G yL_isShadowed cL_isShadowed 5 (some .int) [(0, 17, 20, 25)] rm_L_isShadowed NT NT h (fun r => [r 10 0, .int p1, .int p2, r 75 0]) Q := by
  refine WI_of (L0 := (fun X => [some (rf X 10 0), some (.int p1), some (.int p2), some (rf X 75 0), none])) hl (by decide +kernel) rfl (fun _ => Nat.le_of_ble_eq_true rfl) (fun _ => rfl) fun X hXl hXG E hT hE => ?_
  subst hXl; subst hXG
  unfold wp_L_isShadowed at hw
  refine r_aload_n E 75 0 rfl dL_isShadowed_0 ?_
  refine r_iconst E 0 rfl dL_isShadowed_1 ?_
  refine r_aload_n E 10 0 rfl dL_isShadowed_2 ?_
  refine r_iload_n E p1 rfl dL_isShadowed_3 ?_
  refine r_iload_n E p2 rfl dL_isShadowed_4 ?_
  refine r_xcallVIc E hT (m_X10_isShadowed (EE_st E) (GX X) p1 p2 h _ _ hw) lk_L_85 (RM_mk (Nat.le_of_ble_eq_true rfl) (Nat.le_of_ble_eq_true rfl)) rfl rfl rfl rfl (Nat.le_of_ble_eq_true rfl) (adr_lt (Nat.le_of_ble_eq_true rfl)) (Nat.le_of_ble_eq_true rfl) rfl rfl (Nat.le_of_ble_eq_true rfl) (Nat.le_of_ble_eq_true rfl) dL_isShadowed_5 (fun e u4 q3 hx => ?_) (fun r1 h2 hw => ?_)
  · have hx := hx
    rcases Decidable.em (e = "java/lang/IndexOutOfBoundsException") with c5 | c5
    · have hw := ite_t hx c5
      subst c5
      refine ⟨20, ⟨[], ⟨0, 17, 20, 25⟩, [], "java/lang/IndexOutOfBoundsException", rfl, (fun z hz => nomatch hz), by decide, by decide, cl_L_25, by decide +kernel, rfl⟩, ?_⟩
      refine r_astoreXw E [some (rf X 10 0), some (.int p1), some (.int p2), some (rf X 75 0), some (.ref q3)] (Nat.le_of_ble_eq_true rfl) rfl dL_isShadowed_20 ?_
      refine r_iconst E 1 rfl dL_isShadowed_22 ?_
      exact hE _ _ _ _ _ _ (Nat.le_of_ble_eq_true rfl) (Nat.le_of_ble_eq_true rfl) dL_isShadowed_23 rfl hw
    · have hx := ite_f hx c5
      exact hx.elim
  · obtain ⟨zr1, hw⟩ := hw
    refine r_if_eq E 15 (by decide) dL_isShadowed_8 (fun c6 => ?_) (fun c6 => ?_)
    · have hw := ite_t hw c6
      refine r_lconst E 0 rfl dL_isShadowed_15 ?_
      exact GG_weak [false, false, false, false, false] rfl (t_L_isShadowed_b16 h2 0 0 E hE  hw)
    · have hw := ite_f hw c6
      refine r_lconst E 1 rfl dL_isShadowed_11 ?_
      refine r_goto E 16 (by decide) dL_isShadowed_12 ?_
      exact GG_weak [false, false, false, false, false] rfl (t_L_isShadowed_b16 h2 0 1 E hE  hw)
set_option maxRecDepth 20000 in
theorem t_L_areSame_b16 {X : Ctx} (h : Hp) (s1 : Int32) (s2 : Int64)  (E : EE X cL_areSame RL 5 46 1416 2 12) {Q : Int32 → Hp → Prop} (hE : ENDi X cL_areSame .int Q NT 2 12)  (hw : wp_L_areSame_b16 s1 s2 h  Q) : GG X 2 12 NT h [none, none, none, none, none] 16 [.long s2, .int s1, rf X 75 0] := by
  unfold wp_L_areSame_b16 at hw
  obtain ⟨i1, hw⟩ := hw
  refine r_last E rfl rfl rfl (Nat.le_of_ble_eq_true rfl) (adr_lt (Nat.le_of_ble_eq_true rfl)) i1 rfl dL_areSame_16 ?_
  refine GG_toph fun h2 hh2 => ?_
  have hw := hw h2 hh2
  refine r_goto E 24 (by decide) dL_areSame_17 ?_
  refine r_iconst E 0 rfl dL_areSame_24 ?_
  exact hE _ _ _ _ _ _ (Nat.le_of_ble_eq_true rfl) (Nat.le_of_ble_eq_true rfl) dL_areSame_25 rfl hw
set_option maxRecDepth 20000 in
theorem m_L_areSame {l : Launch} (hl : l.stackTraces = false) (G : Gq) (p1 : Int32) (p2 : Int32)  (h : Hp) (Q : Int32 → Hp → Prop) (hw : wp_L_areSame p1 p2 h Q) : WI l G yL_areSame cL_areSame 5 (some .int) [(0, 17, 20, 25)] rm_L_areSame NT NT h (fun r => [r 10 0, .int p1, .int p2, r 75 0]) Q := by
  refine WI_of (L0 := (fun X => [some (rf X 10 0), some (.int p1), some (.int p2), some (rf X 75 0), none])) hl (by decide +kernel) rfl (fun _ => Nat.le_of_ble_eq_true rfl) (fun _ => rfl) fun X hXl hXG E hT hE => ?_
  subst hXl; subst hXG
  unfold wp_L_areSame at hw
  refine r_aload_n E 75 0 rfl dL_areSame_0 ?_
  refine r_iconst E 0 rfl dL_areSame_1 ?_
  refine r_aload_n E 10 0 rfl dL_areSame_2 ?_
  refine r_iload_n E p1 rfl dL_areSame_3 ?_
  refine r_iload_n E p2 rfl dL_areSame_4 ?_
  refine r_xcallVIc E hT (m_X10_areSame (EE_st E) (GX X) p1 p2 h _ _ hw) lk_L_88 (RM_mk (Nat.le_of_ble_eq_true rfl) (Nat.le_of_ble_eq_true rfl)) rfl rfl rfl rfl (Nat.le_of_ble_eq_true rfl) (adr_lt (Nat.le_of_ble_eq_true rfl)) (Nat.le_of_ble_eq_true rfl) rfl rfl (Nat.le_of_ble_eq_true rfl) (Nat.le_of_ble_eq_true rfl) dL_areSame_5 (fun e u4 q3 hx => ?_) (fun r1 h2 hw => ?_)
  · have hx := hx
    rcases Decidable.em (e = "java/lang/IndexOutOfBoundsException") with c5 | c5
    · have hw := ite_t hx c5
      subst c5
      refine ⟨20, ⟨[], ⟨0, 17, 20, 25⟩, [], "java/lang/IndexOutOfBoundsException", rfl, (fun z hz => nomatch hz), by decide, by decide, cl_L_25, by decide +kernel, rfl⟩, ?_⟩
      refine r_astoreXw E [some (rf X 10 0), some (.int p1), some (.int p2), some (rf X 75 0), some (.ref q3)] (Nat.le_of_ble_eq_true rfl) rfl dL_areSame_20 ?_
      refine r_iconst E 1 rfl dL_areSame_22 ?_
      exact hE _ _ _ _ _ _ (Nat.le_of_ble_eq_true rfl) (Nat.le_of_ble_eq_true rfl) dL_areSame_23 rfl hw
    · have hx := ite_f hx c5
      exact hx.elim
  · obtain ⟨zr1, hw⟩ := hw
    refine r_if_eq E 15 (by decide) dL_areSame_8 (fun c6 => ?_) (fun c6 => ?_)
    · have hw := ite_t hw c6
      refine r_lconst E 0 rfl dL_areSame_15 ?_
      exact GG_weak [false, false, false, false, false] rfl (t_L_areSame_b16 h2 0 0 E hE  hw)
    · have hw := ite_f hw c6
      refine r_lconst E 1 rfl dL_areSame_11 ?_
      refine r_goto E 16 (by decide) dL_areSame_12 ?_
      exact GG_weak [false, false, false, false, false] rfl (t_L_areSame_b16 h2 0 1 E hE  hw)
set_option maxRecDepth 20000 in
theorem m_L_learn {l : Launch} (hl : l.stackTraces = false) (G : Gq) (p1 : Int32)  (h : Hp) (Q : Int32 → Hp → Prop) (hw : wp_L_learn p1 h Q) : WI l G yL_learn cL_learn 4 (some .int) [(0, 9, 12, 25), (0, 9, 15, 33), (0, 9, 18, 15)] rm_L_learn NT NT h (fun r => [r 10 0, .int p1, r 75 0]) Q := by
  refine WI_of (L0 := (fun X => [some (rf X 10 0), some (.int p1), some (rf X 75 0), none])) hl (by decide +kernel) rfl (fun _ => Nat.le_of_ble_eq_true rfl) (fun _ => rfl) fun X hXl hXG E hT hE => ?_
  subst hXl; subst hXG
  unfold wp_L_learn at hw
  refine r_aload_n E 75 0 rfl dL_learn_0 ?_
  refine r_iconst E 0 rfl dL_learn_1 ?_
  refine r_aload_n E 10 0 rfl dL_learn_2 ?_
  refine r_iload_n E p1 rfl dL_learn_3 ?_
  refine r_xcallVIc E hT (m_X10_learn (EE_st E) (GX X) p1 h _ _ hw) lk_L_91 (RM_mk (Nat.le_of_ble_eq_true rfl) (Nat.le_of_ble_eq_true rfl)) rfl rfl rfl rfl (Nat.le_of_ble_eq_true rfl) (adr_lt (Nat.le_of_ble_eq_true rfl)) (Nat.le_of_ble_eq_true rfl) rfl rfl (Nat.le_of_ble_eq_true rfl) (Nat.le_of_ble_eq_true rfl) dL_learn_4 (fun e u4 q3 hx => ?_) (fun r1 h2 hw => ?_)
  · have hx := hx
    rcases Decidable.em (e = "java/lang/IndexOutOfBoundsException") with c5 | c5
    · have hw := ite_t hx c5
      subst c5
      refine ⟨12, ⟨[], ⟨0, 9, 12, 25⟩, [⟨0, 9, 15, 33⟩, ⟨0, 9, 18, 15⟩], "java/lang/IndexOutOfBoundsException", rfl, (fun z hz => nomatch hz), by decide, by decide, cl_L_25, by decide +kernel, rfl⟩, ?_⟩
      refine r_astoreX E [some (rf X 10 0), some (.int p1), some (rf X 75 0), some (.ref q3)] rfl (Nat.le_of_ble_eq_true rfl) rfl dL_learn_12 ?_
      refine r_iconst E 1 rfl dL_learn_13 ?_
      exact hE _ _ _ _ _ _ (Nat.le_of_ble_eq_true rfl) (Nat.le_of_ble_eq_true rfl) dL_learn_14 rfl hw
    · have hx := ite_f hx c5
      rcases Decidable.em (e = "java/util/NoSuchElementException") with c6 | c6
      · have hw := ite_t hx c6
        subst c6
        refine ⟨15, ⟨[⟨0, 9, 12, 25⟩], ⟨0, 9, 15, 33⟩, [⟨0, 9, 18, 15⟩], "java/util/NoSuchElementException", rfl, (List.forall_mem_cons.mpr ⟨Or.inr ⟨by decide, "java/lang/IndexOutOfBoundsException", cl_L_25, by decide +kernel⟩, (fun z hz => nomatch hz)⟩), by decide, by decide, cl_L_33, by decide +kernel, rfl⟩, ?_⟩
        refine r_astoreX E [some (rf X 10 0), some (.int p1), some (rf X 75 0), some (.ref q3)] rfl (Nat.le_of_ble_eq_true rfl) rfl dL_learn_15 ?_
        refine r_iconst E 2 rfl dL_learn_16 ?_
        exact hE _ _ _ _ _ _ (Nat.le_of_ble_eq_true rfl) (Nat.le_of_ble_eq_true rfl) dL_learn_17 rfl hw
      · have hx := ite_f hx c6
        rcases Decidable.em (e = "java/lang/IllegalStateException") with c7 | c7
        · have hw := ite_t hx c7
          subst c7
          refine ⟨18, ⟨[⟨0, 9, 12, 25⟩, ⟨0, 9, 15, 33⟩], ⟨0, 9, 18, 15⟩, [], "java/lang/IllegalStateException", rfl, (List.forall_mem_cons.mpr ⟨Or.inr ⟨by decide, "java/lang/IndexOutOfBoundsException", cl_L_25, by decide +kernel⟩, (List.forall_mem_cons.mpr ⟨Or.inr ⟨by decide, "java/util/NoSuchElementException", cl_L_33, by decide +kernel⟩, (fun z hz => nomatch hz)⟩)⟩), by decide, by decide, cl_L_15, by decide +kernel, rfl⟩, ?_⟩
          refine r_astoreX E [some (rf X 10 0), some (.int p1), some (rf X 75 0), some (.ref q3)] rfl (Nat.le_of_ble_eq_true rfl) rfl dL_learn_18 ?_
          refine r_iconst E 3 rfl dL_learn_19 ?_
          exact hE _ _ _ _ _ _ (Nat.le_of_ble_eq_true rfl) (Nat.le_of_ble_eq_true rfl) dL_learn_20 rfl hw
        · have hx := ite_f hx c7
          exact hx.elim
  · have hw := hw
    refine r_i2l E dL_learn_7 ?_
    obtain ⟨i8, hw⟩ := hw
    refine r_last E rfl rfl rfl (Nat.le_of_ble_eq_true rfl) (adr_lt (Nat.le_of_ble_eq_true rfl)) i8 rfl dL_learn_8 ?_
    refine GG_toph fun h9 hh9 => ?_
    have hw := hw h9 hh9
    refine r_goto E 21 (by decide) dL_learn_9 ?_
    refine r_iconst E 0 rfl dL_learn_21 ?_
    exact hE _ _ _ _ _ _ (Nat.le_of_ble_eq_true rfl) (Nat.le_of_ble_eq_true rfl) dL_learn_22 rfl hw
set_option maxRecDepth 20000 in
theorem m_L_goneShare {l : Launch} (hl : l.stackTraces = false) (G : Gq)   (h : Hp) (Q : Int32 → Hp → Prop) (hw : wp_L_goneShare  h Q) : WI l G yL_goneShare cL_goneShare 3 (some .int) [(0, 8, 11, 98)] rm_L_goneShare NT NT h (fun r => [r 10 0, r 76 0]) Q := by
  refine WI_of (L0 := (fun X => [some (rf X 10 0), some (rf X 76 0), none])) hl (by decide +kernel) rfl (fun _ => Nat.le_of_ble_eq_true rfl) (fun _ => rfl) fun X hXl hXG E hT hE => ?_
  subst hXl; subst hXG
  unfold wp_L_goneShare at hw
  refine r_aload_n E 76 0 rfl dL_goneShare_0 ?_
  refine r_iconst E 0 rfl dL_goneShare_1 ?_
  refine r_aload_n E 10 0 rfl dL_goneShare_2 ?_
  refine r_xcallVFc E hT (m_X10_goneShare (EE_st E) (GX X)  h _ _ hw) lk_L_94 (RM_mk (Nat.le_of_ble_eq_true rfl) (Nat.le_of_ble_eq_true rfl)) rfl rfl rfl rfl (Nat.le_of_ble_eq_true rfl) (adr_lt (Nat.le_of_ble_eq_true rfl)) (Nat.le_of_ble_eq_true rfl) rfl rfl (Nat.le_of_ble_eq_true rfl) (Nat.le_of_ble_eq_true rfl) dL_goneShare_3 (fun e u9 q2 hx => ?_) (fun r1 u9 hw => ?_)
  · obtain ⟨rfl, hx⟩ := hx
    rcases Decidable.em (e = "java/lang/ArithmeticException") with c3 | c3
    · have hw := ite_t hx c3
      subst c3
      refine ⟨11, ⟨[], ⟨0, 8, 11, 98⟩, [], "java/lang/ArithmeticException", rfl, (fun z hz => nomatch hz), by decide, by decide, cl_L_98, by decide +kernel, rfl⟩, ?_⟩
      refine r_astoreX E [some (rf X 10 0), some (rf X 76 0), some (.ref q2)] rfl (Nat.le_of_ble_eq_true rfl) rfl dL_goneShare_11 ?_
      refine r_iconst E 1 rfl dL_goneShare_12 ?_
      exact hE _ _ _ _ _ _ (Nat.le_of_ble_eq_true rfl) (Nat.le_of_ble_eq_true rfl) dL_goneShare_13 rfl hw
    · have hx := ite_f hx c3
      exact hx.elim
  · obtain ⟨rfl, hw⟩ := hw
    obtain ⟨n4, hw⟩ := hw
    refine r_f2d E n4 dL_goneShare_6 ?_
    obtain ⟨i5, hw⟩ := hw
    refine r_dast E rfl rfl rfl (Nat.le_of_ble_eq_true rfl) (adr_lt (Nat.le_of_ble_eq_true rfl)) i5 rfl dL_goneShare_7 ?_
    refine GG_toph fun h6 hh6 => ?_
    have hw := hw h6 hh6
    refine r_goto E 14 (by decide) dL_goneShare_8 ?_
    refine r_iconst E 0 rfl dL_goneShare_14 ?_
    exact hE _ _ _ _ _ _ (Nat.le_of_ble_eq_true rfl) (Nat.le_of_ble_eq_true rfl) dL_goneShare_15 rfl hw
set_option maxRecDepth 20000 in
theorem m_L_meanSize {l : Launch} (hl : l.stackTraces = false) (G : Gq) (p1 : Int32)  (h : Hp) (Q : Int32 → Hp → Prop) (hw : wp_L_meanSize p1 h Q) : WI l G yL_meanSize cL_meanSize 4 (some .int) [(0, 8, 11, 25), (0, 8, 14, 98)] rm_L_meanSize NT NT h (fun r => [r 10 0, .int p1, r 76 0]) Q := by
  refine WI_of (L0 := (fun X => [some (rf X 10 0), some (.int p1), some (rf X 76 0), none])) hl (by decide +kernel) rfl (fun _ => Nat.le_of_ble_eq_true rfl) (fun _ => rfl) fun X hXl hXG E hT hE => ?_
  subst hXl; subst hXG
  unfold wp_L_meanSize at hw
  refine r_aload_n E 76 0 rfl dL_meanSize_0 ?_
  refine r_iconst E 0 rfl dL_meanSize_1 ?_
  refine r_aload_n E 10 0 rfl dL_meanSize_2 ?_
  refine r_iload_n E p1 rfl dL_meanSize_3 ?_
  refine r_xcallVDc E hT (m_X10_meanSize (EE_st E) (GX X) p1 h _ _ hw) lk_L_100 (RM_mk (Nat.le_of_ble_eq_true rfl) (Nat.le_of_ble_eq_true rfl)) rfl rfl rfl rfl (Nat.le_of_ble_eq_true rfl) (adr_lt (Nat.le_of_ble_eq_true rfl)) (Nat.le_of_ble_eq_true rfl) rfl rfl (Nat.le_of_ble_eq_true rfl) (Nat.le_of_ble_eq_true rfl) dL_meanSize_4 (fun e u9 q2 hx => ?_) (fun r1 u9 hw => ?_)
  · obtain ⟨rfl, hx⟩ := hx
    rcases Decidable.em (e = "java/lang/IndexOutOfBoundsException") with c3 | c3
    · have hw := ite_t hx c3
      subst c3
      refine ⟨11, ⟨[], ⟨0, 8, 11, 25⟩, [⟨0, 8, 14, 98⟩], "java/lang/IndexOutOfBoundsException", rfl, (fun z hz => nomatch hz), by decide, by decide, cl_L_25, by decide +kernel, rfl⟩, ?_⟩
      refine r_astoreX E [some (rf X 10 0), some (.int p1), some (rf X 76 0), some (.ref q2)] rfl (Nat.le_of_ble_eq_true rfl) rfl dL_meanSize_11 ?_
      refine r_iconst E 1 rfl dL_meanSize_12 ?_
      exact hE _ _ _ _ _ _ (Nat.le_of_ble_eq_true rfl) (Nat.le_of_ble_eq_true rfl) dL_meanSize_13 rfl hw
    · have hx := ite_f hx c3
      rcases Decidable.em (e = "java/lang/ArithmeticException") with c4 | c4
      · have hw := ite_t hx c4
        subst c4
        refine ⟨14, ⟨[⟨0, 8, 11, 25⟩], ⟨0, 8, 14, 98⟩, [], "java/lang/ArithmeticException", rfl, (List.forall_mem_cons.mpr ⟨Or.inr ⟨by decide, "java/lang/IndexOutOfBoundsException", cl_L_25, by decide +kernel⟩, (fun z hz => nomatch hz)⟩), by decide, by decide, cl_L_98, by decide +kernel, rfl⟩, ?_⟩
        refine r_astoreX E [some (rf X 10 0), some (.int p1), some (rf X 76 0), some (.ref q2)] rfl (Nat.le_of_ble_eq_true rfl) rfl dL_meanSize_14 ?_
        refine r_iconst E 2 rfl dL_meanSize_15 ?_
        exact hE _ _ _ _ _ _ (Nat.le_of_ble_eq_true rfl) (Nat.le_of_ble_eq_true rfl) dL_meanSize_16 rfl hw
      · have hx := ite_f hx c4
        exact hx.elim
  · obtain ⟨rfl, hw⟩ := hw
    obtain ⟨i5, hw⟩ := hw
    refine r_dast E rfl rfl rfl (Nat.le_of_ble_eq_true rfl) (adr_lt (Nat.le_of_ble_eq_true rfl)) i5 rfl dL_meanSize_7 ?_
    refine GG_toph fun h6 hh6 => ?_
    have hw := hw h6 hh6
    refine r_goto E 17 (by decide) dL_meanSize_8 ?_
    refine r_iconst E 0 rfl dL_meanSize_17 ?_
    exact hE _ _ _ _ _ _ (Nat.le_of_ble_eq_true rfl) (Nat.le_of_ble_eq_true rfl) dL_meanSize_18 rfl hw
