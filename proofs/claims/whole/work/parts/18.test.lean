theorem RM_mk {rm : Room} {maxL fr lo : Nat} (h1 : rm.frames + 1 ≤ fr) (h2 : 8 + (maxL + 11) + rm.locals ≤ lo) : RM rm maxL fr lo := ⟨h1, h2⟩
def rm_X10_isBelow : Room := { frames := 1, cells := 0, slots := 0, locals := 24 }
def wp_X10_isBelow (p0 : Int32) (p1 : Int32) (h : Hp) (Q : Int32 → Prop) : Prop := if p0 < 0 then (Q 0) else (if p1 ≤ p0 then (Q 0) else (Q 1))
def rm_X10_hasBit_ : Room := { frames := 1, cells := 0, slots := 0, locals := 24 }
def wp_X10_hasBit_ (p0 : Int64) (p1 : Int32) (h : Hp) (Q : Int32 → Prop) : Prop := if (((p0 : Int64) >>> ((p1 : Int32).toInt64 &&& 63)) &&& 1) = 0 then (Q 0) else (Q 1)
def rm_X10_hasBit : Room := { frames := 1, cells := 0, slots := 0, locals := 24 }
def wp_X10_hasBit (p0 : Int32) (p1 : Int32) (h : Hp) (Q : Int32 → Prop) : Prop := if ((p0 >>> (p1 &&& 31)) &&& 1) = 0 then (Q 0) else (Q 1)
def rm_X2_isKept : Room := { frames := 1, cells := 0, slots := 0, locals := 24 }
def wp_X2_isKept (o0 : Nat) (h : Hp) (Q : Int32 → Prop) : Prop := if (gI h 2 o0 8) = 0 then (Q 0) else (if (gI h 2 o0 9) = 0 then (Q 1) else (Q 0))
def rm_X2_liesIn : Room := { frames := 2, cells := 0, slots := 0, locals := 44 }
def wp_X2_liesIn (o0 : Nat) (p0 : Int32) (h : Hp) (Q : Int32 → Prop) : Prop := wp_X2_isKept o0 h (fun r1 => if r1 = 0 then (Q 0) else (if (gI h 2 o0 6) = p0 then (Q 1) else (Q 0)))
def rm_X3_sizesIn : Room := { frames := 3, cells := 0, slots := 0, locals := 65 }
def wp_X3_sizesIn_b37 (x1 : Int32) (x2 : Int32) (x3 : Int32) (h : Hp) (P4 : Int32 → Int32 → Prop) (Q : Int32 → Prop) : Prop := LET (x3 + 1) fun v1 => P4 x2 v1
def wp_X3_sizesIn_b4F (x1 : Int32) (h : Hp)  (Q : Int32 → Prop) (P4 : Int32 → Int32 → Prop) (x2 : Int32) (x3 : Int32)  : Prop := if (gI h 3 0 6) ≤ x3 then (Q x2) else (vp_in x3 40 ∧ wp_X2_liesIn x3.toNatClampNeg x1 h (fun r3 => if r3 = 0 then (wp_X3_sizesIn_b37 x1 x2 x3 h P4 Q) else (LET (x2 + (gI h 2 x3.toNatClampNeg 4)) fun v5 => wp_X3_sizesIn_b37 x1 v5 x3 h P4 Q)))
def wp_X3_sizesIn_b4 (x1 : Int32) (x2 : Int32) (x3 : Int32) (h : Hp)  (Q : Int32 → Prop) : Prop := LFP2 (wp_X3_sizesIn_b4F x1 h  Q) x2 x3 
def wp_X3_sizesIn (p0 : Int32) (h : Hp) (Q : Int32 → Prop) : Prop := wp_X3_sizesIn_b4 p0 0 0 h Q
def rm_J6_bitCount_0f7a4 : Room := { frames := 1, cells := 0, slots := 0, locals := 24 }
def wp_J6_bitCount_0f7a4 (p0 : Int32) (h : Hp) (Q : Int32 → Prop) : Prop := LET (p0 - (((p0.toUInt32 >>> ((1 : Int32).toUInt32 &&& Int32.toUInt32 31)).toInt32) &&& 1431655765)) fun v1 => LET ((v1 &&& 858993459) + (((v1.toUInt32 >>> ((2 : Int32).toUInt32 &&& Int32.toUInt32 31)).toInt32) &&& 858993459)) fun v2 => LET ((v2 + ((v2.toUInt32 >>> ((4 : Int32).toUInt32 &&& Int32.toUInt32 31)).toInt32)) &&& 252645135) fun v3 => LET (v3 + ((v3.toUInt32 >>> ((8 : Int32).toUInt32 &&& Int32.toUInt32 31)).toInt32)) fun v4 => LET (v4 + ((v4.toUInt32 >>> ((16 : Int32).toUInt32 &&& Int32.toUInt32 31)).toInt32)) fun v5 => Q (v5 &&& 63)
def rm_X9_fits : Room := { frames := 2, cells := 0, slots := 0, locals := 45 }
def wp_X9_fits (p0 : Int32) (p1 : Int32) (p2 : Nat) (p3 : Int32) (h : Hp) (Q : Int32 → Prop) : Prop := if p0 = 98 then (wp_X10_hasBit (gI h 2 p2 3) p1 h (fun r2 => Q r2)) else if p0 = 100 then (if (gI h 2 p2 5) = p1 then (Q 1) else (Q 0)) else if p0 = 102 then (if (gI h 2 p2 0) = p1 then (Q 1) else (Q 0)) else if p0 = 107 then (wp_X10_hasBit p3 p1 h (fun r8 => Q r8)) else if p0 = 110 then (wp_J6_bitCount_0f7a4 (gI h 2 p2 1) h (fun r10 => if r10 < p1 then (Q 0) else (Q 1))) else if p0 = 115 then (wp_X10_hasBit (gI h 2 p2 2) p1 h (fun r13 => Q r13)) else if p0 = 116 then (wp_X10_hasBit (gI h 2 p2 1) p1 h (fun r15 => Q r15)) else if p0 = 122 then (if (gI h 2 p2 4) ≤ p1 then (Q 0) else (Q 1)) else (Q 1)
def rm_X9_isTrueBy : Room := { frames := 3, cells := 0, slots := 0, locals := 68 }
def wp_X9_isTrueBy (p0 : Int32) (p1 : Int64) (p2 : Nat) (p3 : Int32) (h : Hp) (Q : Int32 → Prop) : Prop := vp_in p0 60 ∧ LET (gI h 13 0 p0.toNatClampNeg) fun v2 => if (gI h 12 0 p0.toNatClampNeg) = 33 then (wp_X10_hasBit_ p1 v2 h (fun r4 => if r4 = 0 then (Q 1) else (Q 0))) else if (gI h 12 0 p0.toNatClampNeg) = 38 then (wp_X10_hasBit_ p1 v2 h (fun r7 => if r7 = 0 then (Q 0) else (wp_X10_hasBit_ p1 (gI h 14 0 p0.toNatClampNeg) h (fun r9 => if r9 = 0 then (Q 0) else (Q 1))))) else if (gI h 12 0 p0.toNatClampNeg) = 124 then (wp_X10_hasBit_ p1 v2 h (fun r12 => if r12 = 0 then (wp_X10_hasBit_ p1 (gI h 14 0 p0.toNatClampNeg) h (fun r14 => if r14 = 0 then (Q 0) else (Q 1))) else (Q 1))) else (wp_X9_fits (gI h 12 0 p0.toNatClampNeg) v2 p2 p3 h (fun r16 => Q r16))
def rm_X9_truthFor : Room := { frames := 4, cells := 0, slots := 0, locals := 94 }
def wp_X9_truthFor_b33 (o1 : Nat) (x2 : Int32) (x3 : Int64) (x5 : Int32) (h : Hp) (P5 : Int64 → Int32 → Prop) (Q : Int64 → Prop) : Prop := LET (x5 + 1) fun v1 => P5 x3 v1
def wp_X9_truthFor_b5F (o1 : Nat) (x2 : Int32) (h : Hp)  (Q : Int64 → Prop) (P5 : Int64 → Int32 → Prop) (x3 : Int64) (x5 : Int32)  : Prop := if (gI h 9 0 4) ≤ x5 then (Q x3) else (wp_X9_isTrueBy x5 x3 o1 x2 h (fun r2 => if r2 = 0 then (wp_X9_truthFor_b33 o1 x2 x3 x5 h P5 Q) else (LET (x3 ||| ((1 : Int64) <<< ((x5 : Int32).toInt64 &&& 63))) fun v4 => wp_X9_truthFor_b33 o1 x2 v4 x5 h P5 Q)))
def wp_X9_truthFor_b5 (o1 : Nat) (x2 : Int32) (x3 : Int64) (x5 : Int32) (h : Hp)  (Q : Int64 → Prop) : Prop := LFP2 (wp_X9_truthFor_b5F o1 x2 h  Q) x3 x5 
def wp_X9_truthFor (p0 : Nat) (p1 : Int32) (h : Hp) (Q : Int64 → Prop) : Prop := wp_X9_truthFor_b5 p0 p1 0 0 h Q
set_option maxRecDepth 20000 in
theorem m_X10_isBelow {l : Launch} (hl : l.stackTraces = false) (G : Gq) (p0 : Int32) (p1 : Int32)  (h : Hp) (Q : Int32 → Prop) (hw : wp_X10_isBelow p0 p1 h Q) : MI l G yX10_isBelow cX10_isBelow 2 (some .boolean) rm_X10_isBelow NT NT h (fun r => [.int p0, .int p1]) (fun r u => h = u ∧ isB r ∧ Q r) := by
  refine MI_of (L0 := (fun X => [some (.int p0), some (.int p1)])) hl (by decide +kernel) rfl (fun _ => Nat.le_of_ble_eq_true rfl) (fun _ => rfl) fun X hXl hXG E hE => ?_
  subst hXl; subst hXG
  unfold wp_X10_isBelow at hw
  refine r_iload_n E p0 rfl dX10_isBelow_0 ?_
  refine r_if_lt E 13 (by decide) dX10_isBelow_1 (fun c1 => ?_) (fun c1 => ?_)
  · have hw := ite_t hw c1
    refine r_iconst E 0 rfl dX10_isBelow_13 ?_
    exact hE _ _ _ _ _ _ (Nat.le_of_ble_eq_true rfl) (Nat.le_of_ble_eq_true rfl) dX10_isBelow_14 (isB_nar isB_0) ⟨rfl, isB_0, hw⟩
  · have hw := ite_f hw c1
    refine r_iload_n E p0 rfl dX10_isBelow_4 ?_
    refine r_iload_n E p1 rfl dX10_isBelow_5 ?_
    refine r_icmp_ge E 13 (by decide) dX10_isBelow_6 (fun c2 => ?_) (fun c2 => ?_)
    · have hw := ite_t hw c2
      refine r_iconst E 0 rfl dX10_isBelow_13 ?_
      exact hE _ _ _ _ _ _ (Nat.le_of_ble_eq_true rfl) (Nat.le_of_ble_eq_true rfl) dX10_isBelow_14 (isB_nar isB_0) ⟨rfl, isB_0, hw⟩
    · have hw := ite_f hw c2
      refine r_iconst E 1 rfl dX10_isBelow_9 ?_
      refine r_goto E 14 (by decide) dX10_isBelow_10 ?_
      exact hE _ _ _ _ _ _ (Nat.le_of_ble_eq_true rfl) (Nat.le_of_ble_eq_true rfl) dX10_isBelow_14 (isB_nar isB_1) ⟨rfl, isB_1, hw⟩
set_option maxRecDepth 20000 in
theorem m_X10_hasBit_ {l : Launch} (hl : l.stackTraces = false) (G : Gq) (p0 : Int64) (p1 : Int32)  (h : Hp) (Q : Int32 → Prop) (hw : wp_X10_hasBit_ p0 p1 h Q) : MI l G yX10_hasBit_ cX10_hasBit_ 3 (some .boolean) rm_X10_hasBit_ NT NT h (fun r => [.long p0, .int p1]) (fun r u => h = u ∧ isB r ∧ Q r) := by
  refine MI_of (L0 := (fun X => [some (.long p0), none, some (.int p1)])) hl (by decide +kernel) rfl (fun _ => Nat.le_of_ble_eq_true rfl) (fun _ => rfl) fun X hXl hXG E hE => ?_
  subst hXl; subst hXG
  unfold wp_X10_hasBit_ at hw
  refine r_lload_n E p0 rfl dX10_hasBit__0 ?_
  refine r_iload_n E p1 rfl dX10_hasBit__1 ?_
  refine r_lshr E dX10_hasBit__2 ?_
  refine r_lconst E 1 rfl dX10_hasBit__3 ?_
  refine r_land E dX10_hasBit__4 ?_
  refine r_lconst E 0 rfl dX10_hasBit__5 ?_
  refine r_lcmp_eq E 14 (by decide) dX10_hasBit__6 dX10_hasBit__7 (fun c1 => ?_) (fun c1 => ?_)
  · have hw := ite_t hw c1
    refine r_iconst E 0 rfl dX10_hasBit__14 ?_
    exact hE _ _ _ _ _ _ (Nat.le_of_ble_eq_true rfl) (Nat.le_of_ble_eq_true rfl) dX10_hasBit__15 (isB_nar isB_0) ⟨rfl, isB_0, hw⟩
  · have hw := ite_f hw c1
    refine r_iconst E 1 rfl dX10_hasBit__10 ?_
    refine r_goto E 15 (by decide) dX10_hasBit__11 ?_
    exact hE _ _ _ _ _ _ (Nat.le_of_ble_eq_true rfl) (Nat.le_of_ble_eq_true rfl) dX10_hasBit__15 (isB_nar isB_1) ⟨rfl, isB_1, hw⟩
set_option maxRecDepth 20000 in
theorem m_X10_hasBit {l : Launch} (hl : l.stackTraces = false) (G : Gq) (p0 : Int32) (p1 : Int32)  (h : Hp) (Q : Int32 → Prop) (hw : wp_X10_hasBit p0 p1 h Q) : MI l G yX10_hasBit cX10_hasBit 2 (some .boolean) rm_X10_hasBit NT NT h (fun r => [.int p0, .int p1]) (fun r u => h = u ∧ isB r ∧ Q r) := by
  refine MI_of (L0 := (fun X => [some (.int p0), some (.int p1)])) hl (by decide +kernel) rfl (fun _ => Nat.le_of_ble_eq_true rfl) (fun _ => rfl) fun X hXl hXG E hE => ?_
  subst hXl; subst hXG
  unfold wp_X10_hasBit at hw
  refine r_iload_n E p0 rfl dX10_hasBit_0 ?_
  refine r_iload_n E p1 rfl dX10_hasBit_1 ?_
  refine r_ishr E dX10_hasBit_2 ?_
  refine r_iconst E 1 rfl dX10_hasBit_3 ?_
  refine r_iand E dX10_hasBit_4 ?_
  refine r_if_eq E 12 (by decide) dX10_hasBit_5 (fun c1 => ?_) (fun c1 => ?_)
  · have hw := ite_t hw c1
    refine r_iconst E 0 rfl dX10_hasBit_12 ?_
    exact hE _ _ _ _ _ _ (Nat.le_of_ble_eq_true rfl) (Nat.le_of_ble_eq_true rfl) dX10_hasBit_13 (isB_nar isB_0) ⟨rfl, isB_0, hw⟩
  · have hw := ite_f hw c1
    refine r_iconst E 1 rfl dX10_hasBit_8 ?_
    refine r_goto E 13 (by decide) dX10_hasBit_9 ?_
    exact hE _ _ _ _ _ _ (Nat.le_of_ble_eq_true rfl) (Nat.le_of_ble_eq_true rfl) dX10_hasBit_13 (isB_nar isB_1) ⟨rfl, isB_1, hw⟩
set_option maxRecDepth 20000 in
theorem m_X2_isKept {l : Launch} (hl : l.stackTraces = false) (G : Gq) (o0 : Nat) (ho0 : o0 < 41) (h : Hp) (Q : Int32 → Prop) (hw : wp_X2_isKept o0 h Q) : MI l G yX2_isKept cX2_isKept 1 (some .boolean) rm_X2_isKept NT NT h (fun r => [r 2 o0]) (fun r u => h = u ∧ isB r ∧ Q r) := by
  refine MI_of (L0 := (fun X => [some (rf X 2 o0)])) hl (by decide +kernel) rfl (fun _ => Nat.le_of_ble_eq_true rfl) (fun _ => rfl) fun X hXl hXG E hE => ?_
  subst hXl; subst hXG
  unfold wp_X2_isKept at hw
  refine r_aload_n E 2 o0 rfl dX2_isKept_0 ?_
  refine r_getI E fd_X2_7 rfl ho0 (adr_lt ho0) dX2_isKept_1 ?_
  refine r_if_eq E 18 (by decide) dX2_isKept_4 (fun c1 => ?_) (fun c1 => ?_)
  · have hw := ite_t hw c1
    refine r_iconst E 0 rfl dX2_isKept_18 ?_
    exact hE _ _ _ _ _ _ (Nat.le_of_ble_eq_true rfl) (Nat.le_of_ble_eq_true rfl) dX2_isKept_19 (isB_nar isB_0) ⟨rfl, isB_0, hw⟩
  · have hw := ite_f hw c1
    refine r_aload_n E 2 o0 rfl dX2_isKept_7 ?_
    refine r_getI E fd_X2_13 rfl ho0 (adr_lt ho0) dX2_isKept_8 ?_
    refine r_if_ne E 18 (by decide) dX2_isKept_11 (fun c2 => ?_) (fun c2 => ?_)
    · have hw := ite_t hw c2
      refine r_iconst E 1 rfl dX2_isKept_14 ?_
      refine r_goto E 19 (by decide) dX2_isKept_15 ?_
      exact hE _ _ _ _ _ _ (Nat.le_of_ble_eq_true rfl) (Nat.le_of_ble_eq_true rfl) dX2_isKept_19 (isB_nar isB_1) ⟨rfl, isB_1, hw⟩
    · have hw := ite_f hw c2
      refine r_iconst E 0 rfl dX2_isKept_18 ?_
      exact hE _ _ _ _ _ _ (Nat.le_of_ble_eq_true rfl) (Nat.le_of_ble_eq_true rfl) dX2_isKept_19 (isB_nar isB_0) ⟨rfl, isB_0, hw⟩
set_option maxRecDepth 20000 in
theorem m_X2_liesIn {l : Launch} (hl : l.stackTraces = false) (G : Gq) (o0 : Nat) (p0 : Int32) (ho0 : o0 < 41) (h : Hp) (Q : Int32 → Prop) (hw : wp_X2_liesIn o0 p0 h Q) : MI l G yX2_liesIn cX2_liesIn 2 (some .boolean) rm_X2_liesIn NT NT h (fun r => [r 2 o0, .int p0]) (fun r u => h = u ∧ isB r ∧ Q r) := by
  refine MI_of (L0 := (fun X => [some (rf X 2 o0), some (.int p0)])) hl (by decide +kernel) rfl (fun _ => Nat.le_of_ble_eq_true rfl) (fun _ => rfl) fun X hXl hXG E hE => ?_
  subst hXl; subst hXG
  unfold wp_X2_liesIn at hw
  refine r_aload_n E 2 o0 rfl dX2_liesIn_0 ?_
  refine r_callVI E (m_X2_isKept (EE_st E) (GX X) o0 ho0 h _ hw) lk_X2_16 (RM_mk (Nat.le_of_ble_eq_true rfl) (Nat.le_of_ble_eq_true rfl)) rfl rfl rfl rfl ho0 (adr_lt ho0) (Nat.le_of_ble_eq_true rfl) rfl rfl (Nat.le_of_ble_eq_true rfl) (Nat.le_of_ble_eq_true rfl) dX2_liesIn_1 (fun r1 u9 hw => ?_)
  obtain ⟨rfl, zr1, hw⟩ := hw
  refine r_if_eq E 19 (by decide) dX2_liesIn_4 (fun c2 => ?_) (fun c2 => ?_)
  · have hw := ite_t hw c2
    refine r_iconst E 0 rfl dX2_liesIn_19 ?_
    exact hE _ _ _ _ _ _ (Nat.le_of_ble_eq_true rfl) (Nat.le_of_ble_eq_true rfl) dX2_liesIn_20 (isB_nar isB_0) ⟨rfl, isB_0, hw⟩
  · have hw := ite_f hw c2
    refine r_aload_n E 2 o0 rfl dX2_liesIn_7 ?_
    refine r_getI E fd_X2_20 rfl ho0 (adr_lt ho0) dX2_liesIn_8 ?_
    refine r_iload_n E p0 rfl dX2_liesIn_11 ?_
    refine r_icmp_ne E 19 (by decide) dX2_liesIn_12 (fun c3 => ?_) (fun c3 => ?_)
    · have hw := ite_t hw c3
      refine r_iconst E 1 rfl dX2_liesIn_15 ?_
      refine r_goto E 20 (by decide) dX2_liesIn_16 ?_
      exact hE _ _ _ _ _ _ (Nat.le_of_ble_eq_true rfl) (Nat.le_of_ble_eq_true rfl) dX2_liesIn_20 (isB_nar isB_1) ⟨rfl, isB_1, hw⟩
    · have hw := ite_f hw c3
      refine r_iconst E 0 rfl dX2_liesIn_19 ?_
      exact hE _ _ _ _ _ _ (Nat.le_of_ble_eq_true rfl) (Nat.le_of_ble_eq_true rfl) dX2_liesIn_20 (isB_nar isB_0) ⟨rfl, isB_0, hw⟩
set_option maxRecDepth 20000 in
theorem t_X3_sizesIn_b37 {X : Ctx} (h : Hp) (x1 : Int32) (x2 : Int32) (x3 : Int32)  (E : EE X cX3_sizesIn RX3 4 3 65 0 0) {Q : Int32 → Prop} (hE : ENDi X cX3_sizesIn .int (fun r u => h = u ∧ Q r) NT 0 0) (P4 : Int32 → Int32 → Prop) (hP4 : ∀ (y2 : Int32) (y3 : Int32), P4 y2 y3 → GG X 0 0 NT h [some (rf X 3 0), some (.int x1), some (.int y2), some (.int y3)] 4 []) (hw : wp_X3_sizesIn_b37 x1 x2 x3 h P4 Q) : GG X 0 0 NT h [some (rf X 3 0), some (.int x1), some (.int x2), some (.int x3)] 37 [] := by
  unfold wp_X3_sizesIn_b37 at hw
  obtain ⟨v1, hv1⟩ : ∃ y : Int32, y = x3 + 1 := ⟨_, rfl⟩
  have hw := hw v1 hv1
  refine r_iinc E x3 v1 [some (rf X 3 0), some (.int x1), some (.int x2), some (.int v1)] rfl (by rw [hv1]; rfl) (Nat.le_of_ble_eq_true rfl) rfl dX3_sizesIn_37 ?_
  refine r_goto E 4 (by decide) dX3_sizesIn_40 ?_
  exact GG_weak [true, true, true, true] rfl (hP4 _ _ hw)
set_option maxRecDepth 20000 in
theorem t_X3_sizesIn_b4F {X : Ctx} (h : Hp) (x1 : Int32) (x2 : Int32) (x3 : Int32)  (E : EE X cX3_sizesIn RX3 4 3 65 0 0) {Q : Int32 → Prop} (hE : ENDi X cX3_sizesIn .int (fun r u => h = u ∧ Q r) NT 0 0)  (P4 : Int32 → Int32 → Prop) (hP4 : ∀ (y2 : Int32) (y3 : Int32), P4 y2 y3 → GG X 0 0 NT h [some (rf X 3 0), some (.int x1), some (.int y2), some (.int y3)] 4 []) (hw : wp_X3_sizesIn_b4F x1 h  Q P4 x2 x3 ) : GG X 0 0 NT h [some (rf X 3 0), some (.int x1), some (.int x2), some (.int x3)] 4 [] := by
  unfold wp_X3_sizesIn_b4F at hw
  refine r_iload_n E x3 rfl dX3_sizesIn_4 ?_
  refine r_aload_n E 3 0 rfl dX3_sizesIn_5 ?_
  refine r_getI E fd_X3_34 rfl (Nat.le_of_ble_eq_true rfl) (adr_lt (Nat.le_of_ble_eq_true rfl)) dX3_sizesIn_6 ?_
  refine r_icmp_ge E 43 (by decide) dX3_sizesIn_9 (fun c1 => ?_) (fun c1 => ?_)
  · have hw := ite_t hw c1
    refine r_iload_n E x2 rfl dX3_sizesIn_43 ?_
    exact hE _ _ _ _ _ _ (Nat.le_of_ble_eq_true rfl) (Nat.le_of_ble_eq_true rfl) dX3_sizesIn_44 rfl ⟨rfl, hw⟩
  · have hw := ite_f hw c1
    refine r_aload_n E 3 0 rfl dX3_sizesIn_12 ?_
    refine r_getS E fd_X3_13 (t := 0) (j1 := 15) rfl rfl rfl rfl (Nat.le_of_ble_eq_true rfl) (adr_lt (Nat.le_of_ble_eq_true rfl)) dX3_sizesIn_13 ?_
    refine r_iload_n E x3 rfl dX3_sizesIn_16 ?_
    obtain ⟨i2, hw⟩ := hw
    refine r_aaldS E (j1 := 2) (ta := 4) rfl rfl (Nat.le_of_ble_eq_true rfl) rfl rfl rfl (Nat.le_of_ble_eq_true rfl) (adr_lt (Nat.le_of_ble_eq_true rfl)) i2 rfl rfl dX3_sizesIn_17 ?_
    refine r_iload_n E x1 rfl dX3_sizesIn_18 ?_
    refine r_callVI E (m_X2_liesIn (EE_st E) (GX X) x3.toNatClampNeg x1 (Nat.lt_of_lt_of_le (vp_in_lt i2) (Nat.le_of_ble_eq_true rfl)) h _ hw) lk_X3_59 (RM_mk (Nat.le_of_ble_eq_true rfl) (Nat.le_of_ble_eq_true rfl)) rfl rfl rfl rfl (Nat.lt_of_lt_of_le (vp_in_lt i2) (Nat.le_of_ble_eq_true rfl)) (adr_lt (Nat.lt_of_lt_of_le (vp_in_lt i2) (Nat.le_of_ble_eq_true rfl))) (Nat.le_of_ble_eq_true rfl) rfl rfl (Nat.le_of_ble_eq_true rfl) (Nat.le_of_ble_eq_true rfl) dX3_sizesIn_19 (fun r3 u9 hw => ?_)
    obtain ⟨rfl, zr3, hw⟩ := hw
    refine r_if_eq E 37 (by decide) dX3_sizesIn_22 (fun c4 => ?_) (fun c4 => ?_)
    · have hw := ite_t hw c4
      exact GG_weak [true, true, true, true] rfl (t_X3_sizesIn_b37 h x1 x2 x3 E hE P4 hP4  hw)
    · have hw := ite_f hw c4
      refine r_iload_n E x2 rfl dX3_sizesIn_25 ?_
      refine r_aload_n E 3 0 rfl dX3_sizesIn_26 ?_
      refine r_getS E fd_X3_13 (t := 0) (j1 := 15) rfl rfl rfl rfl (Nat.le_of_ble_eq_true rfl) (adr_lt (Nat.le_of_ble_eq_true rfl)) dX3_sizesIn_27 ?_
      refine r_iload_n E x3 rfl dX3_sizesIn_30 ?_
      refine r_aaldS E (j1 := 2) (ta := 4) rfl rfl (Nat.le_of_ble_eq_true rfl) rfl rfl rfl (Nat.le_of_ble_eq_true rfl) (adr_lt (Nat.le_of_ble_eq_true rfl)) i2 rfl rfl dX3_sizesIn_31 ?_
      refine r_getI E fd_X3_50 rfl (Nat.lt_of_lt_of_le (vp_in_lt i2) (Nat.le_of_ble_eq_true rfl)) (adr_lt (Nat.lt_of_lt_of_le (vp_in_lt i2) (Nat.le_of_ble_eq_true rfl))) dX3_sizesIn_32 ?_
      refine r_iadd E dX3_sizesIn_35 ?_
      refine GG_topI fun v5 hv5 => ?_
      have hw := hw v5 hv5
      refine r_istore_n E [some (rf X 3 0), some (.int x1), some (.int v5), some (.int x3)] rfl (Nat.le_of_ble_eq_true rfl) rfl dX3_sizesIn_36 ?_
      exact GG_weak [true, true, true, true] rfl (t_X3_sizesIn_b37 h x1 v5 x3 E hE P4 hP4  hw)
set_option maxRecDepth 20000 in
theorem t_X3_sizesIn_b4 {X : Ctx} (h : Hp) (x1 : Int32) (x2 : Int32) (x3 : Int32)  (E : EE X cX3_sizesIn RX3 4 3 65 0 0) {Q : Int32 → Prop} (hE : ENDi X cX3_sizesIn .int (fun r u => h = u ∧ Q r) NT 0 0)  (hw : wp_X3_sizesIn_b4 x1 x2 x3 h  Q) : GG X 0 0 NT h [some (rf X 3 0), some (.int x1), some (.int x2), some (.int x3)] 4 [] :=
  hw (fun y2 y3  => GG X 0 0 NT h [some (rf X 3 0), some (.int x1), some (.int y2), some (.int y3)] 4 []) (fun y2 y3  hq => t_X3_sizesIn_b4F h x1 y2 y3  E hE  (fun y2 y3  => GG X 0 0 NT h [some (rf X 3 0), some (.int x1), some (.int y2), some (.int y3)] 4 []) (fun y2 y3  q => q) hq)
set_option maxRecDepth 20000 in
theorem m_X3_sizesIn {l : Launch} (hl : l.stackTraces = false) (G : Gq) (p0 : Int32)  (h : Hp) (Q : Int32 → Prop) (hw : wp_X3_sizesIn p0 h Q) : MI l G yX3_sizesIn cX3_sizesIn 4 (some .int) rm_X3_sizesIn NT NT h (fun r => [r 3 0, .int p0]) (fun r u => h = u ∧ Q r) := by
  refine MI_of (L0 := (fun X => [some (rf X 3 0), some (.int p0), none, none])) hl (by decide +kernel) rfl (fun _ => Nat.le_of_ble_eq_true rfl) (fun _ => rfl) fun X hXl hXG E hE => ?_
  subst hXl; subst hXG
  unfold wp_X3_sizesIn at hw
  refine r_iconst E 0 rfl dX3_sizesIn_0 ?_
  refine r_istore_n E [some (rf X 3 0), some (.int p0), some (.int 0), none] rfl (Nat.le_of_ble_eq_true rfl) rfl dX3_sizesIn_1 ?_
  refine r_iconst E 0 rfl dX3_sizesIn_2 ?_
  refine r_istore_n E [some (rf X 3 0), some (.int p0), some (.int 0), some (.int 0)] rfl (Nat.le_of_ble_eq_true rfl) rfl dX3_sizesIn_3 ?_
  exact GG_weak [true, true, true, true] rfl (t_X3_sizesIn_b4 h p0 0 0 E hE  hw)
set_option maxRecDepth 20000 in
theorem m_J6_bitCount_0f7a4 {l : Launch} (hl : l.stackTraces = false) (G : Gq) (p0 : Int32)  (h : Hp) (Q : Int32 → Prop) (hw : wp_J6_bitCount_0f7a4 p0 h Q) : MI l G yJ6_bitCount_0f7a4 cJ6_bitCount_0f7a4 1 (some .int) rm_J6_bitCount_0f7a4 NT NT h (fun r => [.int p0]) (fun r u => h = u ∧ Q r) := by
  refine MI_of (L0 := (fun X => [some (.int p0)])) hl (by decide +kernel) rfl (fun _ => Nat.le_of_ble_eq_true rfl) (fun _ => rfl) fun X hXl hXG E hE => ?_
  subst hXl; subst hXG
  unfold wp_J6_bitCount_0f7a4 at hw
  refine r_iload_n E p0 rfl dJ6_bitCount_0f7a4_0 ?_
  refine r_iload_n E p0 rfl dJ6_bitCount_0f7a4_1 ?_
  refine r_iconst E 1 rfl dJ6_bitCount_0f7a4_2 ?_
  refine r_iushr E dJ6_bitCount_0f7a4_3 ?_
  refine r_ldcw E 1431655765 kc_J6_265 dJ6_bitCount_0f7a4_4 ?_
  refine r_iand E dJ6_bitCount_0f7a4_7 ?_
  refine r_isub E dJ6_bitCount_0f7a4_8 ?_
  refine GG_topI fun v1 hv1 => ?_
  have hw := hw v1 hv1
  refine r_istore_n E [some (.int v1)] rfl (Nat.le_of_ble_eq_true rfl) rfl dJ6_bitCount_0f7a4_9 ?_
  refine r_iload_n E v1 rfl dJ6_bitCount_0f7a4_10 ?_
  refine r_ldcw E 858993459 kc_J6_266 dJ6_bitCount_0f7a4_11 ?_
  refine r_iand E dJ6_bitCount_0f7a4_14 ?_
  refine r_iload_n E v1 rfl dJ6_bitCount_0f7a4_15 ?_
  refine r_iconst E 2 rfl dJ6_bitCount_0f7a4_16 ?_
  refine r_iushr E dJ6_bitCount_0f7a4_17 ?_
  refine r_ldcw E 858993459 kc_J6_266 dJ6_bitCount_0f7a4_18 ?_
  refine r_iand E dJ6_bitCount_0f7a4_21 ?_
  refine r_iadd E dJ6_bitCount_0f7a4_22 ?_
  refine GG_topI fun v2 hv2 => ?_
  have hw := hw v2 hv2
  refine r_istore_n E [some (.int v2)] rfl (Nat.le_of_ble_eq_true rfl) rfl dJ6_bitCount_0f7a4_23 ?_
  refine r_iload_n E v2 rfl dJ6_bitCount_0f7a4_24 ?_
  refine r_iload_n E v2 rfl dJ6_bitCount_0f7a4_25 ?_
  refine r_iconst E 4 rfl dJ6_bitCount_0f7a4_26 ?_
  refine r_iushr E dJ6_bitCount_0f7a4_27 ?_
  refine r_iadd E dJ6_bitCount_0f7a4_28 ?_
  refine r_ldcw E 252645135 kc_J6_267 dJ6_bitCount_0f7a4_29 ?_
  refine r_iand E dJ6_bitCount_0f7a4_32 ?_
  refine GG_topI fun v3 hv3 => ?_
  have hw := hw v3 hv3
  refine r_istore_n E [some (.int v3)] rfl (Nat.le_of_ble_eq_true rfl) rfl dJ6_bitCount_0f7a4_33 ?_
  refine r_iload_n E v3 rfl dJ6_bitCount_0f7a4_34 ?_
  refine r_iload_n E v3 rfl dJ6_bitCount_0f7a4_35 ?_
  refine r_bipush E 8 rfl dJ6_bitCount_0f7a4_36 ?_
  refine r_iushr E dJ6_bitCount_0f7a4_38 ?_
  refine r_iadd E dJ6_bitCount_0f7a4_39 ?_
  refine GG_topI fun v4 hv4 => ?_
  have hw := hw v4 hv4
  refine r_istore_n E [some (.int v4)] rfl (Nat.le_of_ble_eq_true rfl) rfl dJ6_bitCount_0f7a4_40 ?_
  refine r_iload_n E v4 rfl dJ6_bitCount_0f7a4_41 ?_
  refine r_iload_n E v4 rfl dJ6_bitCount_0f7a4_42 ?_
  refine r_bipush E 16 rfl dJ6_bitCount_0f7a4_43 ?_
  refine r_iushr E dJ6_bitCount_0f7a4_45 ?_
  refine r_iadd E dJ6_bitCount_0f7a4_46 ?_
  refine GG_topI fun v5 hv5 => ?_
  have hw := hw v5 hv5
  refine r_istore_n E [some (.int v5)] rfl (Nat.le_of_ble_eq_true rfl) rfl dJ6_bitCount_0f7a4_47 ?_
  refine r_iload_n E v5 rfl dJ6_bitCount_0f7a4_48 ?_
  refine r_bipush E 63 rfl dJ6_bitCount_0f7a4_49 ?_
  refine r_iand E dJ6_bitCount_0f7a4_51 ?_
  exact hE _ _ _ _ _ _ (Nat.le_of_ble_eq_true rfl) (Nat.le_of_ble_eq_true rfl) dJ6_bitCount_0f7a4_52 rfl ⟨rfl, hw⟩
set_option maxRecDepth 20000 in
theorem m_X9_fits {l : Launch} (hl : l.stackTraces = false) (G : Gq) (p0 : Int32) (p1 : Int32) (p2 : Nat) (p3 : Int32) (hp2 : p2 < 41) (h : Hp) (Q : Int32 → Prop) (hw : wp_X9_fits p0 p1 p2 p3 h Q) : MI l G yX9_fits cX9_fits 4 (some .boolean) rm_X9_fits NT NT h (fun r => [.int p0, .int p1, r 2 p2, .int p3]) (fun r u => h = u ∧ isB r ∧ Q r) := by
  refine MI_of (L0 := (fun X => [some (.int p0), some (.int p1), some (rf X 2 p2), some (.int p3)])) hl (by decide +kernel) rfl (fun _ => Nat.le_of_ble_eq_true rfl) (fun _ => rfl) fun X hXl hXG E hE => ?_
  subst hXl; subst hXG
  unfold wp_X9_fits at hw
  refine r_iload_n E p0 rfl dX9_fits_0 ?_
  rcases Decidable.em (p0 = 98) with c1 | c1
  · have hw := ite_t hw c1
    refine r_tableI E 98 c1 (off := 147) 148 dX9_fits_1 (by decide) (by decide) rfl (by decide) ?_
    refine r_aload_n E 2 p2 rfl dX9_fits_148 ?_
    refine r_getI E fd_X9_71 rfl hp2 (adr_lt hp2) dX9_fits_149 ?_
    refine r_iload_n E p1 rfl dX9_fits_152 ?_
    refine r_callSNI E (m_X10_hasBit (EE_st E) (GX X) (gI h 2 p2 3) p1 h _ hw) lk_X9_66 (RM_mk (Nat.le_of_ble_eq_true rfl) (Nat.le_of_ble_eq_true rfl)) rfl rfl rfl rfl (Nat.le_of_ble_eq_true rfl) rfl rfl (Nat.le_of_ble_eq_true rfl) (Nat.le_of_ble_eq_true rfl) dX9_fits_153 (fun r2 u9 hw => ?_)
    obtain ⟨rfl, zr2, hw⟩ := hw
    exact hE _ _ _ _ _ _ (Nat.le_of_ble_eq_true rfl) (Nat.le_of_ble_eq_true rfl) dX9_fits_156 (isB_nar zr2) ⟨rfl, zr2, hw⟩
  · have hw := ite_f hw c1
    rcases Decidable.em (p0 = 100) with c3 | c3
    · have hw := ite_t hw c3
      refine r_tableI E 100 c3 (off := 170) 171 dX9_fits_1 (by decide) (by decide) rfl (by decide) ?_
      refine r_aload_n E 2 p2 rfl dX9_fits_171 ?_
      refine r_getI E fd_X9_77 rfl hp2 (adr_lt hp2) dX9_fits_172 ?_
      refine r_iload_n E p1 rfl dX9_fits_175 ?_
      refine r_icmp_ne E 183 (by decide) dX9_fits_176 (fun c4 => ?_) (fun c4 => ?_)
      · have hw := ite_t hw c4
        refine r_iconst E 1 rfl dX9_fits_179 ?_
        refine r_goto E 184 (by decide) dX9_fits_180 ?_
        exact hE _ _ _ _ _ _ (Nat.le_of_ble_eq_true rfl) (Nat.le_of_ble_eq_true rfl) dX9_fits_184 (isB_nar isB_1) ⟨rfl, isB_1, hw⟩
      · have hw := ite_f hw c4
        refine r_iconst E 0 rfl dX9_fits_183 ?_
        exact hE _ _ _ _ _ _ (Nat.le_of_ble_eq_true rfl) (Nat.le_of_ble_eq_true rfl) dX9_fits_184 (isB_nar isB_0) ⟨rfl, isB_0, hw⟩
    · have hw := ite_f hw c3
      rcases Decidable.em (p0 = 102) with c5 | c5
      · have hw := ite_t hw c5
        refine r_tableI E 102 c5 (off := 115) 116 dX9_fits_1 (by decide) (by decide) rfl (by decide) ?_
        refine r_aload_n E 2 p2 rfl dX9_fits_116 ?_
        refine r_getI E fd_X9_58 rfl hp2 (adr_lt hp2) dX9_fits_117 ?_
        refine r_iload_n E p1 rfl dX9_fits_120 ?_
        refine r_icmp_ne E 128 (by decide) dX9_fits_121 (fun c6 => ?_) (fun c6 => ?_)
        · have hw := ite_t hw c6
          refine r_iconst E 1 rfl dX9_fits_124 ?_
          refine r_goto E 129 (by decide) dX9_fits_125 ?_
          exact hE _ _ _ _ _ _ (Nat.le_of_ble_eq_true rfl) (Nat.le_of_ble_eq_true rfl) dX9_fits_129 (isB_nar isB_1) ⟨rfl, isB_1, hw⟩
        · have hw := ite_f hw c6
          refine r_iconst E 0 rfl dX9_fits_128 ?_
          exact hE _ _ _ _ _ _ (Nat.le_of_ble_eq_true rfl) (Nat.le_of_ble_eq_true rfl) dX9_fits_129 (isB_nar isB_0) ⟨rfl, isB_0, hw⟩
      · have hw := ite_f hw c5
        rcases Decidable.em (p0 = 107) with c7 | c7
        · have hw := ite_t hw c7
          refine r_tableI E 107 c7 (off := 201) 202 dX9_fits_1 (by decide) (by decide) rfl (by decide) ?_
          refine r_iload_n E p3 rfl dX9_fits_202 ?_
          refine r_iload_n E p1 rfl dX9_fits_203 ?_
          refine r_callSNI E (m_X10_hasBit (EE_st E) (GX X) p3 p1 h _ hw) lk_X9_66 (RM_mk (Nat.le_of_ble_eq_true rfl) (Nat.le_of_ble_eq_true rfl)) rfl rfl rfl rfl (Nat.le_of_ble_eq_true rfl) rfl rfl (Nat.le_of_ble_eq_true rfl) (Nat.le_of_ble_eq_true rfl) dX9_fits_204 (fun r8 u9 hw => ?_)
          obtain ⟨rfl, zr8, hw⟩ := hw
          exact hE _ _ _ _ _ _ (Nat.le_of_ble_eq_true rfl) (Nat.le_of_ble_eq_true rfl) dX9_fits_207 (isB_nar zr8) ⟨rfl, zr8, hw⟩
        · have hw := ite_f hw c7
          rcases Decidable.em (p0 = 110) with c9 | c9
          · have hw := ite_t hw c9
            refine r_tableI E 110 c9 (off := 184) 185 dX9_fits_1 (by decide) (by decide) rfl (by decide) ?_
            refine r_aload_n E 2 p2 rfl dX9_fits_185 ?_
            refine r_getI E fd_X9_63 rfl hp2 (adr_lt hp2) dX9_fits_186 ?_
            refine r_callSI E (m_J6_bitCount_0f7a4 (EE_st E) (GX X) (gI h 2 p2 1) h _ hw) lk_X9_80 (RM_mk (Nat.le_of_ble_eq_true rfl) (Nat.le_of_ble_eq_true rfl)) rfl rfl rfl rfl (Nat.le_of_ble_eq_true rfl) rfl rfl (Nat.le_of_ble_eq_true rfl) (Nat.le_of_ble_eq_true rfl) dX9_fits_189 (fun r10 u9 hw => ?_)
            obtain ⟨rfl, hw⟩ := hw
            refine r_iload_n E p1 rfl dX9_fits_192 ?_
            refine r_icmp_lt E 200 (by decide) dX9_fits_193 (fun c11 => ?_) (fun c11 => ?_)
            · have hw := ite_t hw c11
              refine r_iconst E 0 rfl dX9_fits_200 ?_
              exact hE _ _ _ _ _ _ (Nat.le_of_ble_eq_true rfl) (Nat.le_of_ble_eq_true rfl) dX9_fits_201 (isB_nar isB_0) ⟨rfl, isB_0, hw⟩
            · have hw := ite_f hw c11
              refine r_iconst E 1 rfl dX9_fits_196 ?_
              refine r_goto E 201 (by decide) dX9_fits_197 ?_
              exact hE _ _ _ _ _ _ (Nat.le_of_ble_eq_true rfl) (Nat.le_of_ble_eq_true rfl) dX9_fits_201 (isB_nar isB_1) ⟨rfl, isB_1, hw⟩
          · have hw := ite_f hw c9
            rcases Decidable.em (p0 = 115) with c12 | c12
            · have hw := ite_t hw c12
              refine r_tableI E 115 c12 (off := 138) 139 dX9_fits_1 (by decide) (by decide) rfl (by decide) ?_
              refine r_aload_n E 2 p2 rfl dX9_fits_139 ?_
              refine r_getI E fd_X9_68 rfl hp2 (adr_lt hp2) dX9_fits_140 ?_
              refine r_iload_n E p1 rfl dX9_fits_143 ?_
              refine r_callSNI E (m_X10_hasBit (EE_st E) (GX X) (gI h 2 p2 2) p1 h _ hw) lk_X9_66 (RM_mk (Nat.le_of_ble_eq_true rfl) (Nat.le_of_ble_eq_true rfl)) rfl rfl rfl rfl (Nat.le_of_ble_eq_true rfl) rfl rfl (Nat.le_of_ble_eq_true rfl) (Nat.le_of_ble_eq_true rfl) dX9_fits_144 (fun r13 u9 hw => ?_)
              obtain ⟨rfl, zr13, hw⟩ := hw
              exact hE _ _ _ _ _ _ (Nat.le_of_ble_eq_true rfl) (Nat.le_of_ble_eq_true rfl) dX9_fits_147 (isB_nar zr13) ⟨rfl, zr13, hw⟩
            · have hw := ite_f hw c12
              rcases Decidable.em (p0 = 116) with c14 | c14
              · have hw := ite_t hw c14
                refine r_tableI E 116 c14 (off := 129) 130 dX9_fits_1 (by decide) (by decide) rfl (by decide) ?_
                refine r_aload_n E 2 p2 rfl dX9_fits_130 ?_
                refine r_getI E fd_X9_63 rfl hp2 (adr_lt hp2) dX9_fits_131 ?_
                refine r_iload_n E p1 rfl dX9_fits_134 ?_
                refine r_callSNI E (m_X10_hasBit (EE_st E) (GX X) (gI h 2 p2 1) p1 h _ hw) lk_X9_66 (RM_mk (Nat.le_of_ble_eq_true rfl) (Nat.le_of_ble_eq_true rfl)) rfl rfl rfl rfl (Nat.le_of_ble_eq_true rfl) rfl rfl (Nat.le_of_ble_eq_true rfl) (Nat.le_of_ble_eq_true rfl) dX9_fits_135 (fun r15 u9 hw => ?_)
                obtain ⟨rfl, zr15, hw⟩ := hw
                exact hE _ _ _ _ _ _ (Nat.le_of_ble_eq_true rfl) (Nat.le_of_ble_eq_true rfl) dX9_fits_138 (isB_nar zr15) ⟨rfl, zr15, hw⟩
              · have hw := ite_f hw c14
                rcases Decidable.em (p0 = 122) with c16 | c16
                · have hw := ite_t hw c16
                  refine r_tableI E 122 c16 (off := 156) 157 dX9_fits_1 (by decide) (by decide) rfl (by decide) ?_
                  refine r_aload_n E 2 p2 rfl dX9_fits_157 ?_
                  refine r_getI E fd_X9_74 rfl hp2 (adr_lt hp2) dX9_fits_158 ?_
                  refine r_iload_n E p1 rfl dX9_fits_161 ?_
                  refine r_icmp_le E 169 (by decide) dX9_fits_162 (fun c17 => ?_) (fun c17 => ?_)
                  · have hw := ite_t hw c17
                    refine r_iconst E 0 rfl dX9_fits_169 ?_
                    exact hE _ _ _ _ _ _ (Nat.le_of_ble_eq_true rfl) (Nat.le_of_ble_eq_true rfl) dX9_fits_170 (isB_nar isB_0) ⟨rfl, isB_0, hw⟩
                  · have hw := ite_f hw c17
                    refine r_iconst E 1 rfl dX9_fits_165 ?_
                    refine r_goto E 170 (by decide) dX9_fits_166 ?_
                    exact hE _ _ _ _ _ _ (Nat.le_of_ble_eq_true rfl) (Nat.le_of_ble_eq_true rfl) dX9_fits_170 (isB_nar isB_1) ⟨rfl, isB_1, hw⟩
                · have hw := ite_f hw c16
                  have key : GG X 0 0 NT h [some (.int p0), some (.int p1), some (rf X 2 p2), some (.int p3)] 208 ([]) := by
                    refine r_iconst E 1 rfl dX9_fits_208 ?_
                    exact hE _ _ _ _ _ _ (Nat.le_of_ble_eq_true rfl) (Nat.le_of_ble_eq_true rfl) dX9_fits_209 (isB_nar isB_1) ⟨rfl, isB_1, hw⟩
                  rcases Decidable.em (p0.toInt < 98 ∨ 122 < p0.toInt) with cz | cz
                  · exact r_tableO E 208 dX9_fits_1 cz (by decide) key
                  · have hh : p0 = 99 ∨ p0 = 101 ∨ p0 = 103 ∨ p0 = 104 ∨ p0 = 105 ∨ p0 = 106 ∨ p0 = 108 ∨ p0 = 109 ∨ p0 = 111 ∨ p0 = 112 ∨ p0 = 113 ∨ p0 = 114 ∨ p0 = 117 ∨ p0 = 118 ∨ p0 = 119 ∨ p0 = 120 ∨ p0 = 121 := by
                      have ec1 := lv_neT c1 (a := 98) rfl
                      have ec3 := lv_neT c3 (a := 100) rfl
                      have ec5 := lv_neT c5 (a := 102) rfl
                      have ec7 := lv_neT c7 (a := 107) rfl
                      have ec9 := lv_neT c9 (a := 110) rfl
                      have ec12 := lv_neT c12 (a := 115) rfl
                      have ec14 := lv_neT c14 (a := 116) rfl
                      have ec16 := lv_neT c16 (a := 122) rfl
                      have hz : p0.toInt = 99 ∨ p0.toInt = 101 ∨ p0.toInt = 103 ∨ p0.toInt = 104 ∨ p0.toInt = 105 ∨ p0.toInt = 106 ∨ p0.toInt = 108 ∨ p0.toInt = 109 ∨ p0.toInt = 111 ∨ p0.toInt = 112 ∨ p0.toInt = 113 ∨ p0.toInt = 114 ∨ p0.toInt = 117 ∨ p0.toInt = 118 ∨ p0.toInt = 119 ∨ p0.toInt = 120 ∨ p0.toInt = 121 := by omega
                      rcases hz with hz | hz | hz | hz | hz | hz | hz | hz | hz | hz | hz | hz | hz | hz | hz | hz | hz
                      · exact Or.inl (Int32.toInt_inj.mp (hz.trans (rfl : (99 : Int) = (99 : Int32).toInt)))
                      · exact Or.inr (Or.inl (Int32.toInt_inj.mp (hz.trans (rfl : (101 : Int) = (101 : Int32).toInt))))
                      · exact Or.inr (Or.inr (Or.inl (Int32.toInt_inj.mp (hz.trans (rfl : (103 : Int) = (103 : Int32).toInt)))))
                      · exact Or.inr (Or.inr (Or.inr (Or.inl (Int32.toInt_inj.mp (hz.trans (rfl : (104 : Int) = (104 : Int32).toInt))))))
                      · exact Or.inr (Or.inr (Or.inr (Or.inr (Or.inl (Int32.toInt_inj.mp (hz.trans (rfl : (105 : Int) = (105 : Int32).toInt)))))))
                      · exact Or.inr (Or.inr (Or.inr (Or.inr (Or.inr (Or.inl (Int32.toInt_inj.mp (hz.trans (rfl : (106 : Int) = (106 : Int32).toInt))))))))
                      · exact Or.inr (Or.inr (Or.inr (Or.inr (Or.inr (Or.inr (Or.inl (Int32.toInt_inj.mp (hz.trans (rfl : (108 : Int) = (108 : Int32).toInt)))))))))
                      · exact Or.inr (Or.inr (Or.inr (Or.inr (Or.inr (Or.inr (Or.inr (Or.inl (Int32.toInt_inj.mp (hz.trans (rfl : (109 : Int) = (109 : Int32).toInt))))))))))
                      · exact Or.inr (Or.inr (Or.inr (Or.inr (Or.inr (Or.inr (Or.inr (Or.inr (Or.inl (Int32.toInt_inj.mp (hz.trans (rfl : (111 : Int) = (111 : Int32).toInt)))))))))))
                      · exact Or.inr (Or.inr (Or.inr (Or.inr (Or.inr (Or.inr (Or.inr (Or.inr (Or.inr (Or.inl (Int32.toInt_inj.mp (hz.trans (rfl : (112 : Int) = (112 : Int32).toInt))))))))))))
                      · exact Or.inr (Or.inr (Or.inr (Or.inr (Or.inr (Or.inr (Or.inr (Or.inr (Or.inr (Or.inr (Or.inl (Int32.toInt_inj.mp (hz.trans (rfl : (113 : Int) = (113 : Int32).toInt)))))))))))))
                      · exact Or.inr (Or.inr (Or.inr (Or.inr (Or.inr (Or.inr (Or.inr (Or.inr (Or.inr (Or.inr (Or.inr (Or.inl (Int32.toInt_inj.mp (hz.trans (rfl : (114 : Int) = (114 : Int32).toInt))))))))))))))
                      · exact Or.inr (Or.inr (Or.inr (Or.inr (Or.inr (Or.inr (Or.inr (Or.inr (Or.inr (Or.inr (Or.inr (Or.inr (Or.inl (Int32.toInt_inj.mp (hz.trans (rfl : (117 : Int) = (117 : Int32).toInt)))))))))))))))
                      · exact Or.inr (Or.inr (Or.inr (Or.inr (Or.inr (Or.inr (Or.inr (Or.inr (Or.inr (Or.inr (Or.inr (Or.inr (Or.inr (Or.inl (Int32.toInt_inj.mp (hz.trans (rfl : (118 : Int) = (118 : Int32).toInt))))))))))))))))
                      · exact Or.inr (Or.inr (Or.inr (Or.inr (Or.inr (Or.inr (Or.inr (Or.inr (Or.inr (Or.inr (Or.inr (Or.inr (Or.inr (Or.inr (Or.inl (Int32.toInt_inj.mp (hz.trans (rfl : (119 : Int) = (119 : Int32).toInt)))))))))))))))))
                      · exact Or.inr (Or.inr (Or.inr (Or.inr (Or.inr (Or.inr (Or.inr (Or.inr (Or.inr (Or.inr (Or.inr (Or.inr (Or.inr (Or.inr (Or.inr (Or.inl (Int32.toInt_inj.mp (hz.trans (rfl : (120 : Int) = (120 : Int32).toInt))))))))))))))))))
                      · exact Or.inr (Or.inr (Or.inr (Or.inr (Or.inr (Or.inr (Or.inr (Or.inr (Or.inr (Or.inr (Or.inr (Or.inr (Or.inr (Or.inr (Or.inr (Or.inr (Int32.toInt_inj.mp (hz.trans (rfl : (121 : Int) = (121 : Int32).toInt))))))))))))))))))
                    rcases hh with hh | hh | hh | hh | hh | hh | hh | hh | hh | hh | hh | hh | hh | hh | hh | hh | hh
                    · exact r_tableI E 99 hh (off := 207) 208 dX9_fits_1 (by decide) (by decide) rfl (by decide) key
                    · exact r_tableI E 101 hh (off := 207) 208 dX9_fits_1 (by decide) (by decide) rfl (by decide) key
                    · exact r_tableI E 103 hh (off := 207) 208 dX9_fits_1 (by decide) (by decide) rfl (by decide) key
                    · exact r_tableI E 104 hh (off := 207) 208 dX9_fits_1 (by decide) (by decide) rfl (by decide) key
                    · exact r_tableI E 105 hh (off := 207) 208 dX9_fits_1 (by decide) (by decide) rfl (by decide) key
                    · exact r_tableI E 106 hh (off := 207) 208 dX9_fits_1 (by decide) (by decide) rfl (by decide) key
                    · exact r_tableI E 108 hh (off := 207) 208 dX9_fits_1 (by decide) (by decide) rfl (by decide) key
                    · exact r_tableI E 109 hh (off := 207) 208 dX9_fits_1 (by decide) (by decide) rfl (by decide) key
                    · exact r_tableI E 111 hh (off := 207) 208 dX9_fits_1 (by decide) (by decide) rfl (by decide) key
                    · exact r_tableI E 112 hh (off := 207) 208 dX9_fits_1 (by decide) (by decide) rfl (by decide) key
                    · exact r_tableI E 113 hh (off := 207) 208 dX9_fits_1 (by decide) (by decide) rfl (by decide) key
                    · exact r_tableI E 114 hh (off := 207) 208 dX9_fits_1 (by decide) (by decide) rfl (by decide) key
                    · exact r_tableI E 117 hh (off := 207) 208 dX9_fits_1 (by decide) (by decide) rfl (by decide) key
                    · exact r_tableI E 118 hh (off := 207) 208 dX9_fits_1 (by decide) (by decide) rfl (by decide) key
                    · exact r_tableI E 119 hh (off := 207) 208 dX9_fits_1 (by decide) (by decide) rfl (by decide) key
                    · exact r_tableI E 120 hh (off := 207) 208 dX9_fits_1 (by decide) (by decide) rfl (by decide) key
                    · exact r_tableI E 121 hh (off := 207) 208 dX9_fits_1 (by decide) (by decide) rfl (by decide) key
set_option maxRecDepth 20000 in
theorem m_X9_isTrueBy {l : Launch} (hl : l.stackTraces = false) (G : Gq) (p0 : Int32) (p1 : Int64) (p2 : Nat) (p3 : Int32) (hp2 : p2 < 41) (h : Hp) (Q : Int32 → Prop) (hw : wp_X9_isTrueBy p0 p1 p2 p3 h Q) : MI l G yX9_isTrueBy cX9_isTrueBy 7 (some .boolean) rm_X9_isTrueBy NT NT h (fun r => [r 9 0, .int p0, .long p1, r 2 p2, .int p3]) (fun r u => h = u ∧ isB r ∧ Q r) := by
  refine MI_of (L0 := (fun X => [some (rf X 9 0), some (.int p0), some (.long p1), none, some (rf X 2 p2), some (.int p3), none])) hl (by decide +kernel) rfl (fun _ => Nat.le_of_ble_eq_true rfl) (fun _ => rfl) fun X hXl hXG E hE => ?_
  subst hXl; subst hXG
  unfold wp_X9_isTrueBy at hw
  refine r_aload_n E 9 0 rfl dX9_isTrueBy_0 ?_
  refine r_getS E fd_X9_15 (t := 0) (j1 := 13) rfl rfl rfl rfl (Nat.le_of_ble_eq_true rfl) (adr_lt (Nat.le_of_ble_eq_true rfl)) dX9_isTrueBy_1 ?_
  refine r_iload_n E p0 rfl dX9_isTrueBy_4 ?_
  obtain ⟨i1, hw⟩ := hw
  refine r_iald E rfl rfl rfl (Nat.le_of_ble_eq_true rfl) (adr_lt (Nat.le_of_ble_eq_true rfl)) i1 dX9_isTrueBy_5 ?_
  refine GG_topI fun v2 hv2 => ?_
  have hw := hw v2 hv2
  refine r_istore E [some (rf X 9 0), some (.int p0), some (.long p1), none, some (rf X 2 p2), some (.int p3), some (.int v2)] (Nat.le_of_ble_eq_true rfl) rfl dX9_isTrueBy_6 ?_
  refine r_aload_n E 9 0 rfl dX9_isTrueBy_8 ?_
  refine r_getS E fd_X9_11 (t := 0) (j1 := 12) rfl rfl rfl rfl (Nat.le_of_ble_eq_true rfl) (adr_lt (Nat.le_of_ble_eq_true rfl)) dX9_isTrueBy_9 ?_
  refine r_iload_n E p0 rfl dX9_isTrueBy_12 ?_
  refine r_cald E rfl rfl rfl (Nat.le_of_ble_eq_true rfl) (adr_lt (Nat.le_of_ble_eq_true rfl)) i1 dX9_isTrueBy_13 ?_
  rcases Decidable.em ((gI h 12 0 p0.toNatClampNeg) = 33) with c3 | c3
  · have hw := ite_t hw c3
    refine r_lookup E (off := 34) 48 dX9_isTrueBy_14 (by decide) (by rw [c3]; rfl) (by decide) ?_
    refine r_lload_n E p1 rfl dX9_isTrueBy_48 ?_
    refine r_iload E v2 rfl dX9_isTrueBy_49 ?_
    refine r_callSNI E (m_X10_hasBit_ (EE_st E) (GX X) p1 v2 h _ hw) lk_X9_46 (RM_mk (Nat.le_of_ble_eq_true rfl) (Nat.le_of_ble_eq_true rfl)) rfl rfl rfl rfl (Nat.le_of_ble_eq_true rfl) rfl rfl (Nat.le_of_ble_eq_true rfl) (Nat.le_of_ble_eq_true rfl) dX9_isTrueBy_51 (fun r4 u9 hw => ?_)
    obtain ⟨rfl, zr4, hw⟩ := hw
    refine r_if_ne E 61 (by decide) dX9_isTrueBy_54 (fun c5 => ?_) (fun c5 => ?_)
    · have hw := ite_t hw c5
      refine r_iconst E 1 rfl dX9_isTrueBy_57 ?_
      refine r_goto E 62 (by decide) dX9_isTrueBy_58 ?_
      exact hE _ _ _ _ _ _ (Nat.le_of_ble_eq_true rfl) (Nat.le_of_ble_eq_true rfl) dX9_isTrueBy_62 (isB_nar isB_1) ⟨rfl, isB_1, hw⟩
    · have hw := ite_f hw c5
      refine r_iconst E 0 rfl dX9_isTrueBy_61 ?_
      exact hE _ _ _ _ _ _ (Nat.le_of_ble_eq_true rfl) (Nat.le_of_ble_eq_true rfl) dX9_isTrueBy_62 (isB_nar isB_0) ⟨rfl, isB_0, hw⟩
  · have hw := ite_f hw c3
    rcases Decidable.em ((gI h 12 0 p0.toNatClampNeg) = 38) with c6 | c6
    · have hw := ite_t hw c6
      refine r_lookup E (off := 49) 63 dX9_isTrueBy_14 (by decide) (by rw [c6]; rfl) (by decide) ?_
      refine r_lload_n E p1 rfl dX9_isTrueBy_63 ?_
      refine r_iload E v2 rfl dX9_isTrueBy_64 ?_
      refine r_callSNI E (m_X10_hasBit_ (EE_st E) (GX X) p1 v2 h _ hw) lk_X9_46 (RM_mk (Nat.le_of_ble_eq_true rfl) (Nat.le_of_ble_eq_true rfl)) rfl rfl rfl rfl (Nat.le_of_ble_eq_true rfl) rfl rfl (Nat.le_of_ble_eq_true rfl) (Nat.le_of_ble_eq_true rfl) dX9_isTrueBy_66 (fun r7 u9 hw => ?_)
      obtain ⟨rfl, zr7, hw⟩ := hw
      refine r_if_eq E 89 (by decide) dX9_isTrueBy_69 (fun c8 => ?_) (fun c8 => ?_)
      · have hw := ite_t hw c8
        refine r_iconst E 0 rfl dX9_isTrueBy_89 ?_
        exact hE _ _ _ _ _ _ (Nat.le_of_ble_eq_true rfl) (Nat.le_of_ble_eq_true rfl) dX9_isTrueBy_90 (isB_nar isB_0) ⟨rfl, isB_0, hw⟩
      · have hw := ite_f hw c8
        refine r_lload_n E p1 rfl dX9_isTrueBy_72 ?_
        refine r_aload_n E 9 0 rfl dX9_isTrueBy_73 ?_
        refine r_getS E fd_X9_19 (t := 0) (j1 := 14) rfl rfl rfl rfl (Nat.le_of_ble_eq_true rfl) (adr_lt (Nat.le_of_ble_eq_true rfl)) dX9_isTrueBy_74 ?_
        refine r_iload_n E p0 rfl dX9_isTrueBy_77 ?_
        refine r_iald E rfl rfl rfl (Nat.le_of_ble_eq_true rfl) (adr_lt (Nat.le_of_ble_eq_true rfl)) i1 dX9_isTrueBy_78 ?_
        refine r_callSNI E (m_X10_hasBit_ (EE_st E) (GX X) p1 (gI h 14 0 p0.toNatClampNeg) h _ hw) lk_X9_46 (RM_mk (Nat.le_of_ble_eq_true rfl) (Nat.le_of_ble_eq_true rfl)) rfl rfl rfl rfl (Nat.le_of_ble_eq_true rfl) rfl rfl (Nat.le_of_ble_eq_true rfl) (Nat.le_of_ble_eq_true rfl) dX9_isTrueBy_79 (fun r9 u9 hw => ?_)
        obtain ⟨rfl, zr9, hw⟩ := hw
        refine r_if_eq E 89 (by decide) dX9_isTrueBy_82 (fun c10 => ?_) (fun c10 => ?_)
        · have hw := ite_t hw c10
          refine r_iconst E 0 rfl dX9_isTrueBy_89 ?_
          exact hE _ _ _ _ _ _ (Nat.le_of_ble_eq_true rfl) (Nat.le_of_ble_eq_true rfl) dX9_isTrueBy_90 (isB_nar isB_0) ⟨rfl, isB_0, hw⟩
        · have hw := ite_f hw c10
          refine r_iconst E 1 rfl dX9_isTrueBy_85 ?_
          refine r_goto E 90 (by decide) dX9_isTrueBy_86 ?_
          exact hE _ _ _ _ _ _ (Nat.le_of_ble_eq_true rfl) (Nat.le_of_ble_eq_true rfl) dX9_isTrueBy_90 (isB_nar isB_1) ⟨rfl, isB_1, hw⟩
    · have hw := ite_f hw c6
      rcases Decidable.em ((gI h 12 0 p0.toNatClampNeg) = 124) with c11 | c11
      · have hw := ite_t hw c11
        refine r_lookup E (off := 77) 91 dX9_isTrueBy_14 (by decide) (by rw [c11]; rfl) (by decide) ?_
        refine r_lload_n E p1 rfl dX9_isTrueBy_91 ?_
        refine r_iload E v2 rfl dX9_isTrueBy_92 ?_
        refine r_callSNI E (m_X10_hasBit_ (EE_st E) (GX X) p1 v2 h _ hw) lk_X9_46 (RM_mk (Nat.le_of_ble_eq_true rfl) (Nat.le_of_ble_eq_true rfl)) rfl rfl rfl rfl (Nat.le_of_ble_eq_true rfl) rfl rfl (Nat.le_of_ble_eq_true rfl) (Nat.le_of_ble_eq_true rfl) dX9_isTrueBy_94 (fun r12 u9 hw => ?_)
        obtain ⟨rfl, zr12, hw⟩ := hw
        refine r_if_ne E 113 (by decide) dX9_isTrueBy_97 (fun c13 => ?_) (fun c13 => ?_)
        · have hw := ite_t hw c13
          refine r_lload_n E p1 rfl dX9_isTrueBy_100 ?_
          refine r_aload_n E 9 0 rfl dX9_isTrueBy_101 ?_
          refine r_getS E fd_X9_19 (t := 0) (j1 := 14) rfl rfl rfl rfl (Nat.le_of_ble_eq_true rfl) (adr_lt (Nat.le_of_ble_eq_true rfl)) dX9_isTrueBy_102 ?_
          refine r_iload_n E p0 rfl dX9_isTrueBy_105 ?_
          refine r_iald E rfl rfl rfl (Nat.le_of_ble_eq_true rfl) (adr_lt (Nat.le_of_ble_eq_true rfl)) i1 dX9_isTrueBy_106 ?_
          refine r_callSNI E (m_X10_hasBit_ (EE_st E) (GX X) p1 (gI h 14 0 p0.toNatClampNeg) h _ hw) lk_X9_46 (RM_mk (Nat.le_of_ble_eq_true rfl) (Nat.le_of_ble_eq_true rfl)) rfl rfl rfl rfl (Nat.le_of_ble_eq_true rfl) rfl rfl (Nat.le_of_ble_eq_true rfl) (Nat.le_of_ble_eq_true rfl) dX9_isTrueBy_107 (fun r14 u9 hw => ?_)
          obtain ⟨rfl, zr14, hw⟩ := hw
          refine r_if_eq E 117 (by decide) dX9_isTrueBy_110 (fun c15 => ?_) (fun c15 => ?_)
          · have hw := ite_t hw c15
            refine r_iconst E 0 rfl dX9_isTrueBy_117 ?_
            exact hE _ _ _ _ _ _ (Nat.le_of_ble_eq_true rfl) (Nat.le_of_ble_eq_true rfl) dX9_isTrueBy_118 (isB_nar isB_0) ⟨rfl, isB_0, hw⟩
          · have hw := ite_f hw c15
            refine r_iconst E 1 rfl dX9_isTrueBy_113 ?_
            refine r_goto E 118 (by decide) dX9_isTrueBy_114 ?_
            exact hE _ _ _ _ _ _ (Nat.le_of_ble_eq_true rfl) (Nat.le_of_ble_eq_true rfl) dX9_isTrueBy_118 (isB_nar isB_1) ⟨rfl, isB_1, hw⟩
        · have hw := ite_f hw c13
          refine r_iconst E 1 rfl dX9_isTrueBy_113 ?_
          refine r_goto E 118 (by decide) dX9_isTrueBy_114 ?_
          exact hE _ _ _ _ _ _ (Nat.le_of_ble_eq_true rfl) (Nat.le_of_ble_eq_true rfl) dX9_isTrueBy_118 (isB_nar isB_1) ⟨rfl, isB_1, hw⟩
      · have hw := ite_f hw c11
        refine r_lookup E (off := 105) 119 dX9_isTrueBy_14 (by decide) (by show Op.lookupswitch.offset [(33, 34), (38, 49), (124, 77)] 105 _ = 105; rw [lv_osw (a := 33) c3 rfl, lv_osw (a := 38) c6 rfl, lv_osw (a := 124) c11 rfl]; rfl) (by decide) ?_
        refine r_aload_n E 9 0 rfl dX9_isTrueBy_119 ?_
        refine r_getS E fd_X9_11 (t := 0) (j1 := 12) rfl rfl rfl rfl (Nat.le_of_ble_eq_true rfl) (adr_lt (Nat.le_of_ble_eq_true rfl)) dX9_isTrueBy_120 ?_
        refine r_iload_n E p0 rfl dX9_isTrueBy_123 ?_
        refine r_cald E rfl rfl rfl (Nat.le_of_ble_eq_true rfl) (adr_lt (Nat.le_of_ble_eq_true rfl)) i1 dX9_isTrueBy_124 ?_
        refine r_iload E v2 rfl dX9_isTrueBy_125 ?_
        refine r_aload E 2 p2 rfl dX9_isTrueBy_127 ?_
        refine r_iload E p3 rfl dX9_isTrueBy_129 ?_
        refine r_callSI E (m_X9_fits (EE_st E) (GX X) (gI h 12 0 p0.toNatClampNeg) v2 p2 p3 hp2 h _ hw) lk_X9_54 (RM_mk (Nat.le_of_ble_eq_true rfl) (Nat.le_of_ble_eq_true rfl)) rfl rfl rfl rfl (Nat.le_of_ble_eq_true rfl) rfl rfl (Nat.le_of_ble_eq_true rfl) (Nat.le_of_ble_eq_true rfl) dX9_isTrueBy_131 (fun r16 u9 hw => ?_)
        obtain ⟨rfl, zr16, hw⟩ := hw
        exact hE _ _ _ _ _ _ (Nat.le_of_ble_eq_true rfl) (Nat.le_of_ble_eq_true rfl) dX9_isTrueBy_134 (isB_nar zr16) ⟨rfl, zr16, hw⟩
set_option maxRecDepth 20000 in
theorem t_X9_truthFor_b33 {X : Ctx} (h : Hp) (o1 : Nat) (x2 : Int32) (x3 : Int64) (x5 : Int32) (ho1 : o1 < 41) (E : EE X cX9_truthFor RX9 6 4 94 0 0) {Q : Int64 → Prop} (hE : ENDl X cX9_truthFor (fun r u => h = u ∧ Q r) NT 0 0) (P5 : Int64 → Int32 → Prop) (hP5 : ∀ (y3 : Int64) (y5 : Int32), P5 y3 y5 → GG X 0 0 NT h [some (rf X 9 0), some (rf X 2 o1), some (.int x2), some (.long y3), none, some (.int y5)] 5 []) (hw : wp_X9_truthFor_b33 o1 x2 x3 x5 h P5 Q) : GG X 0 0 NT h [some (rf X 9 0), some (rf X 2 o1), some (.int x2), some (.long x3), none, some (.int x5)] 33 [] := by
  unfold wp_X9_truthFor_b33 at hw
  obtain ⟨v1, hv1⟩ : ∃ y : Int32, y = x5 + 1 := ⟨_, rfl⟩
  have hw := hw v1 hv1
  refine r_iinc E x5 v1 [some (rf X 9 0), some (rf X 2 o1), some (.int x2), some (.long x3), none, some (.int v1)] rfl (by rw [hv1]; rfl) (Nat.le_of_ble_eq_true rfl) rfl dX9_truthFor_33 ?_
  refine r_goto E 5 (by decide) dX9_truthFor_36 ?_
  exact GG_weak [true, true, true, true, false, true] rfl (hP5 _ _ hw)
set_option maxRecDepth 20000 in
theorem t_X9_truthFor_b5F {X : Ctx} (h : Hp) (o1 : Nat) (x2 : Int32) (x3 : Int64) (x5 : Int32) (ho1 : o1 < 41) (E : EE X cX9_truthFor RX9 6 4 94 0 0) {Q : Int64 → Prop} (hE : ENDl X cX9_truthFor (fun r u => h = u ∧ Q r) NT 0 0)  (P5 : Int64 → Int32 → Prop) (hP5 : ∀ (y3 : Int64) (y5 : Int32), P5 y3 y5 → GG X 0 0 NT h [some (rf X 9 0), some (rf X 2 o1), some (.int x2), some (.long y3), none, some (.int y5)] 5 []) (hw : wp_X9_truthFor_b5F o1 x2 h  Q P5 x3 x5 ) : GG X 0 0 NT h [some (rf X 9 0), some (rf X 2 o1), some (.int x2), some (.long x3), none, some (.int x5)] 5 [] := by
  unfold wp_X9_truthFor_b5F at hw
  refine r_iload E x5 rfl dX9_truthFor_5 ?_
  refine r_aload_n E 9 0 rfl dX9_truthFor_7 ?_
  refine r_getI E fd_X9_30 rfl (Nat.le_of_ble_eq_true rfl) (adr_lt (Nat.le_of_ble_eq_true rfl)) dX9_truthFor_8 ?_
  refine r_icmp_ge E 39 (by decide) dX9_truthFor_11 (fun c1 => ?_) (fun c1 => ?_)
  · have hw := ite_t hw c1
    refine r_lload_n E x3 rfl dX9_truthFor_39 ?_
    exact hE _ _ _ _ _ _ (Nat.le_of_ble_eq_true rfl) (Nat.le_of_ble_eq_true rfl) dX9_truthFor_40 ⟨rfl, hw⟩
  · have hw := ite_f hw c1
    refine r_aload_n E 9 0 rfl dX9_truthFor_14 ?_
    refine r_iload E x5 rfl dX9_truthFor_15 ?_
    refine r_lload_n E x3 rfl dX9_truthFor_17 ?_
    refine r_aload_n E 2 o1 rfl dX9_truthFor_18 ?_
    refine r_iload_n E x2 rfl dX9_truthFor_19 ?_
    refine r_callVI E (m_X9_isTrueBy (EE_st E) (GX X) x5 x3 o1 x2 ho1 h _ hw) lk_X9_50 (RM_mk (Nat.le_of_ble_eq_true rfl) (Nat.le_of_ble_eq_true rfl)) rfl rfl rfl rfl (Nat.le_of_ble_eq_true rfl) (adr_lt (Nat.le_of_ble_eq_true rfl)) (Nat.le_of_ble_eq_true rfl) rfl rfl (Nat.le_of_ble_eq_true rfl) (Nat.le_of_ble_eq_true rfl) dX9_truthFor_20 (fun r2 u9 hw => ?_)
    obtain ⟨rfl, zr2, hw⟩ := hw
    refine r_if_eq E 33 (by decide) dX9_truthFor_23 (fun c3 => ?_) (fun c3 => ?_)
    · have hw := ite_t hw c3
      exact GG_weak [true, true, true, true, false, true] rfl (t_X9_truthFor_b33 h o1 x2 x3 x5 ho1 E hE P5 hP5  hw)
    · have hw := ite_f hw c3
      refine r_lload_n E x3 rfl dX9_truthFor_26 ?_
      refine r_lconst E 1 rfl dX9_truthFor_27 ?_
      refine r_iload E x5 rfl dX9_truthFor_28 ?_
      refine r_lshl E dX9_truthFor_30 ?_
      refine r_lor E dX9_truthFor_31 ?_
      refine GG_topJ fun v4 hv4 => ?_
      have hw := hw v4 hv4
      refine r_lstore_n E [some (rf X 9 0), some (rf X 2 o1), some (.int x2), some (.long v4), none, some (.int x5)] rfl (Nat.le_of_ble_eq_true rfl) rfl dX9_truthFor_32 ?_
      exact GG_weak [true, true, true, true, false, true] rfl (t_X9_truthFor_b33 h o1 x2 v4 x5 ho1 E hE P5 hP5  hw)
set_option maxRecDepth 20000 in
theorem t_X9_truthFor_b5 {X : Ctx} (h : Hp) (o1 : Nat) (x2 : Int32) (x3 : Int64) (x5 : Int32) (ho1 : o1 < 41) (E : EE X cX9_truthFor RX9 6 4 94 0 0) {Q : Int64 → Prop} (hE : ENDl X cX9_truthFor (fun r u => h = u ∧ Q r) NT 0 0)  (hw : wp_X9_truthFor_b5 o1 x2 x3 x5 h  Q) : GG X 0 0 NT h [some (rf X 9 0), some (rf X 2 o1), some (.int x2), some (.long x3), none, some (.int x5)] 5 [] :=
  hw (fun y3 y5  => GG X 0 0 NT h [some (rf X 9 0), some (rf X 2 o1), some (.int x2), some (.long y3), none, some (.int y5)] 5 []) (fun y3 y5  hq => t_X9_truthFor_b5F h o1 x2 y3 y5 ho1 E hE  (fun y3 y5  => GG X 0 0 NT h [some (rf X 9 0), some (rf X 2 o1), some (.int x2), some (.long y3), none, some (.int y5)] 5 []) (fun y3 y5  q => q) hq)
set_option maxRecDepth 20000 in
theorem m_X9_truthFor {l : Launch} (hl : l.stackTraces = false) (G : Gq) (p0 : Nat) (p1 : Int32) (hp0 : p0 < 41) (h : Hp) (Q : Int64 → Prop) (hw : wp_X9_truthFor p0 p1 h Q) : ML l G yX9_truthFor cX9_truthFor 6 (some .long) rm_X9_truthFor NT NT h (fun r => [r 9 0, r 2 p0, .int p1]) (fun r u => h = u ∧ Q r) := by
  refine ML_of (L0 := (fun X => [some (rf X 9 0), some (rf X 2 p0), some (.int p1), none, none, none])) hl (by decide +kernel) rfl (fun _ => Nat.le_of_ble_eq_true rfl) (fun _ => rfl) fun X hXl hXG E hE => ?_
  subst hXl; subst hXG
  unfold wp_X9_truthFor at hw
  refine r_lconst E 0 rfl dX9_truthFor_0 ?_
  refine r_lstore_n E [some (rf X 9 0), some (rf X 2 p0), some (.int p1), some (.long 0), none, none] rfl (Nat.le_of_ble_eq_true rfl) rfl dX9_truthFor_1 ?_
  refine r_iconst E 0 rfl dX9_truthFor_2 ?_
  refine r_istore E [some (rf X 9 0), some (rf X 2 p0), some (.int p1), some (.long 0), none, some (.int 0)] (Nat.le_of_ble_eq_true rfl) rfl dX9_truthFor_3 ?_
  exact GG_weak [true, true, true, true, false, true] rfl (t_X9_truthFor_b5 h p0 p1 0 0 hp0 E hE  hw)
