theorem RM_mk {rm : Room} {maxL fr lo : Nat} (h1 : rm.frames + 1 ≤ fr) (h2 : 8 + (maxL + 11) + rm.locals ≤ lo) : RM rm maxL fr lo := ⟨h1, h2⟩
def rm_X5_reset : Room := { frames := 1, cells := 0, slots := 0, locals := 24 }
def wp_X5_reset_b52F (o0 : Nat)   (Q : Hp → Prop) (P52 : Int32 → Hp → Prop) (x1 : Int32) (h : Hp) : Prop := if 8 ≤ x1 then (Q h) else (vp_in x1 8 ∧ LET (sI h 27 o0 x1.toNatClampNeg 0) fun h3 => LET (x1 + 1) fun v4 => P52 v4 h3)
def wp_X5_reset_b52 (o0 : Nat) (x1 : Int32) (h : Hp)  (Q : Hp → Prop) : Prop := LFP2 (wp_X5_reset_b52F o0   Q) x1 h
def wp_X5_reset (o0 : Nat) (h : Hp) (Q : Hp → Prop) : Prop := LET (sI h 5 o0 2 (-1)) fun h1 => LET (sI h1 5 o0 3 0) fun h2 => LET (sI h2 5 o0 4 0) fun h3 => LET (sI h3 5 o0 5 0) fun h4 => LET (sI h4 5 o0 6 0) fun h5 => LET (sI h5 5 o0 7 0) fun h6 => LET (sI h6 5 o0 8 0) fun h7 => LET (sI h7 5 o0 9 0) fun h8 => LET (sI h8 5 o0 10 0) fun h9 => LET (sI h9 5 o0 11 0) fun h10 => wp_X5_reset_b52 o0 0 h10 Q
def rm_X2_isKept : Room := { frames := 1, cells := 0, slots := 0, locals := 24 }
def wp_X2_isKept (o0 : Nat) (h : Hp) (Q : Int32 → Prop) : Prop := if (gI h 2 o0 8) = 0 then (Q 0) else (if (gI h 2 o0 9) = 0 then (Q 1) else (Q 0))
def rm_X3_loadWithout : Room := { frames := 2, cells := 0, slots := 0, locals := 44 }
def wp_X3_loadWithout_b73 (x1 : Int32) (x3 : Int32) (h : Hp) (P25 : Int32 → Hp → Prop) (Q : Hp → Prop) : Prop := LET (x3 + 1) fun v1 => P25 v1 h
def wp_X3_loadWithout_b25F (x1 : Int32)   (Q : Hp → Prop) (P25 : Int32 → Hp → Prop) (x3 : Int32) (h : Hp) : Prop := if (gI h 3 0 6) ≤ x3 then (Q h) else (if x3 = x1 then (wp_X3_loadWithout_b73 x1 x3 h P25 Q) else (vp_in x3 40 ∧ wp_X2_isKept x3.toNatClampNeg h (fun r4 => if r4 = 0 then (wp_X3_loadWithout_b73 x1 x3 h P25 Q) else (vp_in (gI h 2 x3.toNatClampNeg 6) 8 ∧ LET (sI h 25 0 (gI h 2 x3.toNatClampNeg 6).toNatClampNeg ((gI h 25 0 (gI h 2 x3.toNatClampNeg 6).toNatClampNeg) + (gI h 2 x3.toNatClampNeg 4))) fun h7 => wp_X3_loadWithout_b73 x1 x3 h7 P25 Q))))
def wp_X3_loadWithout_b25 (x1 : Int32) (x3 : Int32) (h : Hp)  (Q : Hp → Prop) : Prop := LFP2 (wp_X3_loadWithout_b25F x1   Q) x3 h
def wp_X3_loadWithout_b2F (x1 : Int32)   (Q : Hp → Prop) (P2 : Int32 → Hp → Prop) (x3 : Int32) (h : Hp) : Prop := if 8 ≤ x3 then (wp_X3_loadWithout_b25 x1 0 h Q) else (vp_in x3 8 ∧ LET (sI h 25 0 x3.toNatClampNeg (gI h 17 0 x3.toNatClampNeg)) fun h3 => LET (x3 + 1) fun v4 => P2 v4 h3)
def wp_X3_loadWithout_b2 (x1 : Int32) (x3 : Int32) (h : Hp)  (Q : Hp → Prop) : Prop := LFP2 (wp_X3_loadWithout_b2F x1   Q) x3 h
def wp_X3_loadWithout (p0 : Int32) (h : Hp) (Q : Hp → Prop) : Prop := wp_X3_loadWithout_b2 p0 0 h Q
def rm_X0_isTooMuch : Room := { frames := 1, cells := 0, slots := 0, locals := 24 }
def wp_X0_isTooMuch (p0 : Int32) (h : Hp) (Q : Int32 → Prop) : Prop := if p0 = 0 then (Q 0) else (vp_in p0 8 ∧ ∃ e3 : Nat, gR h 0 0 5 = e3 + 1 ∧ e3 < 41 ∧ if ((gI h 25 0 p0.toNatClampNeg) + (gI h 2 e3 4)) ≤ (gI h 16 0 p0.toNatClampNeg) then (Q 0) else (Q 1))
def rm_X0_putInto : Room := { frames := 2, cells := 0, slots := 0, locals := 45 }
def wp_X0_putInto_b25 (x2 : Int32) (h : Hp)  (Q : Hp → Prop) : Prop := ∃ e1 : Nat, gR h 0 0 4 = e1 + 1 ∧ e1 < 3 ∧ LET (sI h 5 e1 2 x2) fun h2 => vp_in x2 8 ∧ ∃ e4 : Nat, gR h2 0 0 5 = e4 + 1 ∧ e4 < 41 ∧ LET (sI h2 25 0 x2.toNatClampNeg ((gI h2 25 0 x2.toNatClampNeg) + (gI h2 2 e4 4))) fun h5 => Q h5
def wp_X0_putInto (p0 : Int32) (h : Hp) (Q : Hp → Prop) : Prop := wp_X0_isTooMuch p0 h (fun r1 => if r1 = 0 then (wp_X0_putInto_b25 p0 h Q) else (∃ e3 : Nat, gR h 0 0 4 = e3 + 1 ∧ e3 < 3 ∧ LET (sI h 5 e3 8 ((gI h 5 e3 8) + 1)) fun h4 => wp_X0_putInto_b25 0 h4 Q))
def rm_X3_isReplyDue : Room := { frames := 1, cells := 0, slots := 0, locals := 24 }
def wp_X3_isReplyDue (p0 : Int32) (p1 : Int32) (h : Hp) (Q : Int32 → Prop) : Prop := vp_in p0 10 ∧ if (gI h 18 0 p0.toNatClampNeg) = 0 then (Q 1) else (if ((gI h 3 0 7) - (gI h 20 0 p0.toNatClampNeg)) < p1 then (Q 0) else (Q 1))
def rm_X0_sendOut : Room := { frames := 2, cells := 0, slots := 0, locals := 46 }
def wp_X0_sendOut (p0 : Int32) (p1 : Int32) (h : Hp) (Q : Hp → Prop) : Prop := if p0 = 99 then (∃ e2 : Nat, gR h 0 0 4 = e2 + 1 ∧ e2 < 3 ∧ vp_in p1 8 ∧ ∃ e4 : Nat, gR h 0 0 5 = e4 + 1 ∧ e4 < 41 ∧ LET (sI h 27 e2 p1.toNatClampNeg ((gI h 27 e2 p1.toNatClampNeg) + (gI h 2 e4 4))) fun h5 => ∃ e6 : Nat, gR h5 0 0 5 = e6 + 1 ∧ e6 < 41 ∧ LET (sI h5 25 0 p1.toNatClampNeg ((gI h5 25 0 p1.toNatClampNeg) + (gI h5 2 e6 4))) fun h7 => Q h7) else (if p0 = 119 then (∃ e9 : Nat, gR h 0 0 4 = e9 + 1 ∧ e9 < 3 ∧ LET (sI h 5 e9 9 ((gI h 5 e9 9) ||| (1 <<< (p1 &&& 31)))) fun h10 => Q h10) else (∃ e11 : Nat, gR h 0 0 5 = e11 + 1 ∧ e11 < 41 ∧ wp_X3_isReplyDue (gI h 2 e11 0) p1 h (fun r12 => if r12 = 0 then (Q h) else (∃ e14 : Nat, gR h 0 0 4 = e14 + 1 ∧ e14 < 3 ∧ LET (sI h 5 e14 11 1) fun h15 => Q h15))))
def rm_X0_changeFlags : Room := { frames := 1, cells := 0, slots := 0, locals := 24 }
def wp_X0_changeFlags_b24 (x1 : Int32) (s1 : Int32) (h : Hp)  (Q : Hp → Prop) : Prop := isB s1 ∧ LET (sI h 0 0 7 s1) fun h2 => ∃ e3 : Nat, gR h2 0 0 4 = e3 + 1 ∧ e3 < 3 ∧ LET (sI h2 5 e3 3 x1) fun h4 => Q h4
def wp_X0_changeFlags_b19 (x1 : Int32) (h : Hp)  (Q : Hp → Prop) : Prop := wp_X0_changeFlags_b24 x1 1 h Q
def wp_X0_changeFlags (p0 : Int32) (h : Hp) (Q : Hp → Prop) : Prop := if (gI h 0 0 7) = 0 then (∃ e2 : Nat, gR h 0 0 4 = e2 + 1 ∧ e2 < 3 ∧ if p0 = (gI h 5 e2 3) then (wp_X0_changeFlags_b24 p0 0 h Q) else (wp_X0_changeFlags_b19 p0 h Q)) else (wp_X0_changeFlags_b19 p0 h Q)
def rm_X5_isPlaced : Room := { frames := 1, cells := 0, slots := 0, locals := 24 }
def wp_X5_isPlaced (o0 : Nat) (h : Hp) (Q : Int32 → Prop) : Prop := if (gI h 5 o0 2) = (-1) then (Q 0) else (Q 1)
def rm_X0_isClash : Room := { frames := 2, cells := 0, slots := 0, locals := 44 }
def wp_X0_isClash (p0 : Int32) (h : Hp) (Q : Int32 → Prop) : Prop := if p0 = 99 then (∃ e2 : Nat, gR h 0 0 4 = e2 + 1 ∧ e2 < 3 ∧ if (gI h 5 e2 2) = 9 then (Q 1) else (Q 0)) else if p0 = 107 then (∃ e5 : Nat, gR h 0 0 4 = e5 + 1 ∧ e5 < 3 ∧ wp_X5_isPlaced e5 h (fun r6 => Q r6)) else if p0 = 109 then (∃ e8 : Nat, gR h 0 0 4 = e8 + 1 ∧ e8 < 3 ∧ wp_X5_isPlaced e8 h (fun r9 => Q r9)) else if p0 = 114 then (∃ e11 : Nat, gR h 0 0 4 = e11 + 1 ∧ e11 < 3 ∧ wp_X5_isPlaced e11 h (fun r12 => if r12 = 0 then (if (gI h 0 0 8) = 0 then (Q 0) else (Q 1)) else (Q 1))) else if p0 = 118 then (∃ e16 : Nat, gR h 0 0 4 = e16 + 1 ∧ e16 < 3 ∧ if (gI h 5 e16 2) = 9 then (Q 1) else (Q 0)) else if p0 = 119 then (∃ e19 : Nat, gR h 0 0 4 = e19 + 1 ∧ e19 < 3 ∧ if (gI h 5 e19 2) = 9 then (Q 1) else (Q 0)) else if p0 = 120 then (∃ e22 : Nat, gR h 0 0 4 = e22 + 1 ∧ e22 < 3 ∧ wp_X5_isPlaced e22 h (fun r23 => Q r23)) else (Q 0)
def rm_X10_hasBit : Room := { frames := 1, cells := 0, slots := 0, locals := 24 }
def wp_X10_hasBit (p0 : Int32) (p1 : Int32) (h : Hp) (Q : Int32 → Prop) : Prop := if ((p0 >>> (p1 &&& 31)) &&& 1) = 0 then (Q 0) else (Q 1)
def rm_X0_isFault : Room := { frames := 2, cells := 0, slots := 0, locals := 45 }
def wp_X0_isFault_b80 (x1 : Int32) (x2 : Int32) (h : Hp)  (Q : Int32 → Hp → Prop) : Prop := if x1 = 99 then (wp_X0_isTooMuch x2 h (fun r2 => if r2 = 0 then (Q 0 h) else (∃ e4 : Nat, gR h 0 0 4 = e4 + 1 ∧ e4 < 3 ∧ LET (sI h 5 e4 8 ((gI h 5 e4 8) + 1)) fun h5 => Q 1 h5))) else (Q 0 h)
def wp_X0_isFault_b65  (h : Hp)  (Q : Int32 → Hp → Prop) : Prop := ∃ e1 : Nat, gR h 0 0 4 = e1 + 1 ∧ e1 < 3 ∧ LET (sI h 5 e1 7 ((gI h 5 e1 7) + 1)) fun h2 => Q 1 h2
def wp_X0_isFault_b26 (x1 : Int32) (x2 : Int32) (h : Hp)  (Q : Int32 → Hp → Prop) : Prop := if x1 = 119 then (∃ e2 : Nat, gR h 0 0 5 = e2 + 1 ∧ e2 < 41 ∧ if x2 = (gI h 2 e2 0) then (wp_X0_isFault_b65 h Q) else (∃ e4 : Nat, gR h 0 0 5 = e4 + 1 ∧ e4 < 41 ∧ ∃ e5 : Nat, gR h 0 0 4 = e5 + 1 ∧ e5 < 3 ∧ wp_X10_hasBit ((gI h 2 e4 1) ||| (gI h 5 e5 9)) x2 h (fun r6 => if r6 = 0 then (wp_X0_isFault_b80 x1 x2 h Q) else (wp_X0_isFault_b65 h Q)))) else (wp_X0_isFault_b80 x1 x2 h Q)
def wp_X0_isFault (p0 : Int32) (p1 : Int32) (p2 : Int32) (h : Hp) (Q : Int32 → Hp → Prop) : Prop := if p0 = 105 then (if p2 < 4 then (wp_X0_isFault_b26 p0 p1 h Q) else (∃ e3 : Nat, gR h 0 0 4 = e3 + 1 ∧ e3 < 3 ∧ LET (sI h 5 e3 6 ((gI h 5 e3 6) + 1)) fun h4 => Q 1 h4)) else (wp_X0_isFault_b26 p0 p1 h Q)
def rm_X10_hasBit_ : Room := { frames := 1, cells := 0, slots := 0, locals := 24 }
def wp_X10_hasBit_ (p0 : Int64) (p1 : Int32) (h : Hp) (Q : Int32 → Prop) : Prop := if (((p0 : Int64) >>> ((p1 : Int32).toInt64 &&& 63)) &&& 1) = 0 then (Q 0) else (Q 1)
def rm_J6_bitCount_0f7a4 : Room := { frames := 1, cells := 0, slots := 0, locals := 24 }
def wp_J6_bitCount_0f7a4 (p0 : Int32) (h : Hp) (Q : Int32 → Prop) : Prop := LET (p0 - (((p0.toUInt32 >>> ((1 : Int32).toUInt32 &&& Int32.toUInt32 31)).toInt32) &&& 1431655765)) fun v1 => LET ((v1 &&& 858993459) + (((v1.toUInt32 >>> ((2 : Int32).toUInt32 &&& Int32.toUInt32 31)).toInt32) &&& 858993459)) fun v2 => LET ((v2 + ((v2.toUInt32 >>> ((4 : Int32).toUInt32 &&& Int32.toUInt32 31)).toInt32)) &&& 252645135) fun v3 => LET (v3 + ((v3.toUInt32 >>> ((8 : Int32).toUInt32 &&& Int32.toUInt32 31)).toInt32)) fun v4 => LET (v4 + ((v4.toUInt32 >>> ((16 : Int32).toUInt32 &&& Int32.toUInt32 31)).toInt32)) fun v5 => Q (v5 &&& 63)
def rm_X9_fits : Room := { frames := 2, cells := 0, slots := 0, locals := 45 }
def wp_X9_fits (p0 : Int32) (p1 : Int32) (p2 : Nat) (p3 : Int32) (h : Hp) (Q : Int32 → Prop) : Prop := if p0 = 98 then (wp_X10_hasBit (gI h 2 p2 3) p1 h (fun r2 => Q r2)) else if p0 = 100 then (if (gI h 2 p2 5) = p1 then (Q 1) else (Q 0)) else if p0 = 102 then (if (gI h 2 p2 0) = p1 then (Q 1) else (Q 0)) else if p0 = 107 then (wp_X10_hasBit p3 p1 h (fun r8 => Q r8)) else if p0 = 110 then (wp_J6_bitCount_0f7a4 (gI h 2 p2 1) h (fun r10 => if r10 < p1 then (Q 0) else (Q 1))) else if p0 = 115 then (wp_X10_hasBit (gI h 2 p2 2) p1 h (fun r13 => Q r13)) else if p0 = 116 then (wp_X10_hasBit (gI h 2 p2 1) p1 h (fun r15 => Q r15)) else if p0 = 122 then (if (gI h 2 p2 4) ≤ p1 then (Q 0) else (Q 1)) else (Q 1)
def rm_X9_isTrueBy : Room := { frames := 3, cells := 0, slots := 0, locals := 68 }
def wp_X9_isTrueBy (p0 : Int32) (p1 : Int64) (p2 : Nat) (p3 : Int32) (h : Hp) (Q : Int32 → Prop) : Prop := vp_in p0 60 ∧ LET (gI h 13 0 p0.toNatClampNeg) fun v2 => if (gI h 12 0 p0.toNatClampNeg) = 33 then (wp_X10_hasBit_ p1 v2 h (fun r4 => if r4 = 0 then (Q 1) else (Q 0))) else if (gI h 12 0 p0.toNatClampNeg) = 38 then (wp_X10_hasBit_ p1 v2 h (fun r7 => if r7 = 0 then (Q 0) else (wp_X10_hasBit_ p1 (gI h 14 0 p0.toNatClampNeg) h (fun r9 => if r9 = 0 then (Q 0) else (Q 1))))) else if (gI h 12 0 p0.toNatClampNeg) = 124 then (wp_X10_hasBit_ p1 v2 h (fun r12 => if r12 = 0 then (wp_X10_hasBit_ p1 (gI h 14 0 p0.toNatClampNeg) h (fun r14 => if r14 = 0 then (Q 0) else (Q 1))) else (Q 1))) else (wp_X9_fits (gI h 12 0 p0.toNatClampNeg) v2 p2 p3 h (fun r16 => Q r16))
def rm_X9_truthFor : Room := { frames := 4, cells := 0, slots := 0, locals := 94 }
def wp_X9_truthFor_b33 (o1 : Nat) (x2 : Int32) (x3 : Int64) (x5 : Int32) (h : Hp) (P5 : Int64 → Int32 → Prop) (Q : Int64 → Prop) : Prop := LET (x5 + 1) fun v1 => P5 x3 v1
def wp_X9_truthFor_b5F (o1 : Nat) (x2 : Int32) (h : Hp)  (Q : Int64 → Prop) (P5 : Int64 → Int32 → Prop) (x3 : Int64) (x5 : Int32)  : Prop := if (gI h 9 0 4) ≤ x5 then (Q x3) else (wp_X9_isTrueBy x5 x3 o1 x2 h (fun r2 => if r2 = 0 then (wp_X9_truthFor_b33 o1 x2 x3 x5 h P5 Q) else (LET (x3 ||| ((1 : Int64) <<< ((x5 : Int32).toInt64 &&& 63))) fun v4 => wp_X9_truthFor_b33 o1 x2 v4 x5 h P5 Q)))
def wp_X9_truthFor_b5 (o1 : Nat) (x2 : Int32) (x3 : Int64) (x5 : Int32) (h : Hp)  (Q : Int64 → Prop) : Prop := LFP2 (wp_X9_truthFor_b5F o1 x2 h  Q) x3 x5 
def wp_X9_truthFor (p0 : Nat) (p1 : Int32) (h : Hp) (Q : Int64 → Prop) : Prop := wp_X9_truthFor_b5 p0 p1 0 0 h Q
def rm_X0_isMet : Room := { frames := 5, cells := 0, slots := 0, locals := 119 }
def wp_X0_isMet_b34 (x1 : Int32) (h : Hp)  (Q : Int32 → Hp → Prop) : Prop := wp_X10_hasBit_ (gJ h 0 0 6) x1 h (fun r1 => Q r1 h)
def wp_X0_isMet (p0 : Int32) (h : Hp) (Q : Int32 → Hp → Prop) : Prop := if (gI h 0 0 7) = 0 then (wp_X0_isMet_b34 p0 h Q) else (∃ e2 : Nat, gR h 0 0 5 = e2 + 1 ∧ e2 < 41 ∧ ∃ e3 : Nat, gR h 0 0 4 = e3 + 1 ∧ e3 < 3 ∧ wp_X9_truthFor e2 (gI h 5 e3 3) h (fun r4 => LET (sJ h 0 0 6 r4) fun h5 => LET (sI h5 0 0 7 0) fun h6 => wp_X0_isMet_b34 p0 h6 Q))
def rm_X0_runScript (d : Nat) : Room := { frames := 6 + 3 * d, cells := 0, slots := 0, locals := 140 + 74 * d }
def rm_X0_act (d : Nat) : Room := { frames := 7 + 3 * d, cells := 0, slots := 0, locals := 165 + 74 * d }
def rm_X0_endsBy (d : Nat) : Room := { frames := 8 + 3 * d, cells := 0, slots := 0, locals := 188 + 74 * d }
def wp_X0_act (RS : Int32 → Int32 → Hp → (Hp → Prop) → Prop) (p0 : Int32) (p1 : Int32) (p2 : Int32) (h : Hp) (Q : Hp → Prop) : Prop := if p0 = 70 then (∃ e2 : Nat, gR h 0 0 4 = e2 + 1 ∧ e2 < 3 ∧ wp_X0_changeFlags ((gI h 5 e2 3) ||| (1 <<< (p1 &&& 31))) h (fun h3 => Q h3)) else if p0 = 83 then (LET (sI h 0 0 9 1) fun h5 => Q h5) else if p0 = 85 then (∃ e7 : Nat, gR h 0 0 4 = e7 + 1 ∧ e7 < 3 ∧ wp_X0_changeFlags ((gI h 5 e7 3) &&& ((1 <<< (p1 &&& 31)) ^^^ (-1))) h (fun h8 => Q h8)) else if p0 = 99 then (LET (sI h 0 0 8 1) fun h10 => wp_X0_sendOut p0 p1 h10 (fun h11 => Q h11)) else if p0 = 105 then (RS p1 (p2 + 1) h (fun h13 => Q h13)) else if p0 = 107 then (∃ e15 : Nat, gR h 0 0 4 = e15 + 1 ∧ e15 < 3 ∧ LET (sI h 5 e15 2 0) fun h16 => Q h16) else if p0 = 109 then (wp_X0_putInto p1 h (fun h18 => Q h18)) else if p0 = 114 then (∃ e20 : Nat, gR h 0 0 4 = e20 + 1 ∧ e20 < 3 ∧ LET (sI h 5 e20 2 9) fun h21 => Q h21) else if p0 = 118 then (LET (sI h 0 0 8 1) fun h23 => wp_X0_sendOut p0 p1 h23 (fun h24 => Q h24)) else if p0 = 119 then (LET (sI h 0 0 8 1) fun h26 => wp_X0_sendOut p0 p1 h26 (fun h27 => Q h27)) else if p0 = 120 then (∃ e29 : Nat, gR h 0 0 4 = e29 + 1 ∧ e29 < 3 ∧ LET (sI h 5 e29 2 8) fun h30 => Q h30) else (Q h)
def wp_X0_endsBy_b144 (RS : Int32 → Int32 → Hp → (Hp → Prop) → Prop) (o1 : Nat) (x2 : Int32) (x3 : Int32) (x4 : Int32) (h : Hp) (P3 : Int32 → Hp → Prop) (Q : Int32 → Hp → Prop) : Prop := LET (x4 + 1) fun v1 => P3 v1 h
def wp_X0_endsBy_b3F (RS : Int32 → Int32 → Hp → (Hp → Prop) → Prop) (o1 : Nat) (x2 : Int32) (x3 : Int32)   (Q : Int32 → Hp → Prop) (P3 : Int32 → Hp → Prop) (x4 : Int32) (h : Hp) : Prop := if (gI h 6 o1 3) ≤ x4 then (Q 0 h) else (if (gI h 0 0 9) = 0 then (vp_in x4 5 ∧ LET (gI h 23 o1 x4.toNatClampNeg) fun v4 => LET (gI h 24 o1 x4.toNatClampNeg) fun v5 => wp_X0_isClash v4 h (fun r6 => if r6 = 0 then (wp_X0_isFault v4 v5 x3 h (fun r8 h9 => if r8 = 0 then (∃ e11 : Nat, gR h9 0 0 4 = e11 + 1 ∧ e11 < 3 ∧ if (gI h9 5 e11 4) < 200 then (∃ e13 : Nat, gR h9 0 0 4 = e13 + 1 ∧ e13 < 3 ∧ ∃ e14 : Nat, gR h9 0 0 4 = e14 + 1 ∧ e14 < 3 ∧ vp_in (gI h9 5 e14 4) 200 ∧ LET (sI h9 26 e13 (gI h9 5 e14 4).toNatClampNeg (x2 + x4)) fun h16 => ∃ e17 : Nat, gR h16 0 0 4 = e17 + 1 ∧ e17 < 3 ∧ LET (sI h16 5 e17 4 ((gI h16 5 e17 4) + 1)) fun h18 => wp_X0_act RS v4 v5 x3 h18 (fun h19 => if v4 = 115 then (Q 1 h19) else (wp_X0_endsBy_b144 RS o1 x2 x3 x4 h19 P3 Q))) else (LET (sI h9 0 0 9 1) fun h21 => Q 0 h21)) else (wp_X0_endsBy_b144 RS o1 x2 x3 x4 h9 P3 Q))) else (∃ e22 : Nat, gR h 0 0 4 = e22 + 1 ∧ e22 < 3 ∧ LET (sI h 5 e22 5 ((gI h 5 e22 5) + 1)) fun h23 => wp_X0_endsBy_b144 RS o1 x2 x3 x4 h23 P3 Q))) else (Q 0 h))
def wp_X0_endsBy_b3 (RS : Int32 → Int32 → Hp → (Hp → Prop) → Prop) (o1 : Nat) (x2 : Int32) (x3 : Int32) (x4 : Int32) (h : Hp)  (Q : Int32 → Hp → Prop) : Prop := LFP2 (wp_X0_endsBy_b3F RS o1 x2 x3   Q) x4 h
def wp_X0_endsBy (RS : Int32 → Int32 → Hp → (Hp → Prop) → Prop) (p0 : Nat) (p1 : Int32) (p2 : Int32) (h : Hp) (Q : Int32 → Hp → Prop) : Prop := wp_X0_endsBy_b3 RS p0 p1 p2 0 h Q
def wp_X0_runScriptB_b95 (RS : Int32 → Int32 → Hp → (Hp → Prop) → Prop) (x1 : Int32) (x2 : Int32) (o3 : Nat) (x4 : Int32) (h : Hp) (P16 : Int32 → Hp → Prop) (Q : Hp → Prop) : Prop := LET (x4 + 1) fun v1 => P16 v1 h
def wp_X0_runScriptB_b73 (RS : Int32 → Int32 → Hp → (Hp → Prop) → Prop) (x1 : Int32) (x2 : Int32) (o3 : Nat) (x4 : Int32) (o5 : Nat) (h : Hp) (P16 : Int32 → Hp → Prop) (Q : Hp → Prop) : Prop := wp_X0_endsBy RS o5 ((1000 * x1) + (10 * x4)) x2 h (fun r1 h2 => if r1 = 0 then (wp_X0_runScriptB_b95 RS x1 x2 o3 x4 h2 P16 Q) else (Q h2))
def wp_X0_runScriptB_b16F (RS : Int32 → Int32 → Hp → (Hp → Prop) → Prop) (x1 : Int32) (x2 : Int32) (o3 : Nat)   (Q : Hp → Prop) (P16 : Int32 → Hp → Prop) (x4 : Int32) (h : Hp) : Prop := if (gI h 7 o3 1) ≤ x4 then (Q h) else (if (gI h 0 0 9) = 0 then (vp_in x4 12 ∧ ∃ e4 : Nat, gR h 22 o3 x4.toNatClampNeg = e4 + 1 ∧ e4 < 48 ∧ wp_X0_isMet (gI h 6 e4 2) h (fun r5 h6 => if r5 = 0 then (wp_X0_runScriptB_b95 RS x1 x2 o3 x4 h6 P16 Q) else (if x2 = 0 then (∃ e9 : Nat, gR h6 0 0 4 = e9 + 1 ∧ e9 < 3 ∧ LET (sI h6 5 e9 10 ((gI h6 5 e9 10) ||| (1 <<< (x4 &&& 31)))) fun h10 => wp_X0_runScriptB_b73 RS x1 x2 o3 x4 e4 h10 P16 Q) else (wp_X0_runScriptB_b73 RS x1 x2 o3 x4 e4 h6 P16 Q)))) else (Q h))
def wp_X0_runScriptB_b16 (RS : Int32 → Int32 → Hp → (Hp → Prop) → Prop) (x1 : Int32) (x2 : Int32) (o3 : Nat) (x4 : Int32) (h : Hp)  (Q : Hp → Prop) : Prop := LFP2 (wp_X0_runScriptB_b16F RS x1 x2 o3   Q) x4 h
def wp_X0_runScriptB (RS : Int32 → Int32 → Hp → (Hp → Prop) → Prop) (p0 : Int32) (p1 : Int32) (h : Hp) (Q : Hp → Prop) : Prop := if p1 ≤ 4 then (vp_in p0 4 ∧ wp_X0_runScriptB_b16 RS p0 p1 p0.toNatClampNeg 0 h Q) else (Q h)
def wp_X0_runScript : Nat → Int32 → Int32 → Hp → (Hp → Prop) → Prop
  | 0, _, _, _, _ => False
  | d + 1, a, b, h, Q => wp_X0_runScriptB (wp_X0_runScript d) a b h Q
def rm_X0_perform : Room := { frames := 25, cells := 0, slots := 0, locals := 609 }
def wp_X0_perform (p0 : Int32) (p1 : Int32) (p2 : Nat) (h : Hp) (Q : Hp → Prop) : Prop := wp_X5_reset p2 h (fun h1 => LET (sR h1 0 0 4 (p2 + 1)) fun h2 => vp_in p1 40 ∧ LET (sR h2 0 0 5 (p1.toNatClampNeg + 1)) fun h4 => LET (sI h4 0 0 7 1) fun h5 => LET (sI h5 0 0 8 0) fun h6 => LET (sI h6 0 0 9 0) fun h7 => wp_X3_loadWithout p1 h7 (fun h8 => wp_X0_runScript 6 p0 0 h8 (fun h9 => ∃ e10 : Nat, gR h9 0 0 4 = e10 + 1 ∧ e10 < 3 ∧ wp_X5_isPlaced e10 h9 (fun r11 => if r11 = 0 then (∃ e13 : Nat, gR h9 0 0 4 = e13 + 1 ∧ e13 < 3 ∧ LET (sI h9 5 e13 2 0) fun h14 => Q h14) else (Q h9)))))
def rm_X2_liesIn : Room := { frames := 2, cells := 0, slots := 0, locals := 44 }
def wp_X2_liesIn (o0 : Nat) (p0 : Int32) (h : Hp) (Q : Int32 → Prop) : Prop := wp_X2_isKept o0 h (fun r1 => if r1 = 0 then (Q 0) else (if (gI h 2 o0 6) = p0 then (Q 1) else (Q 0)))
def rm_X1_sortMails : Room := { frames := 3, cells := 0, slots := 0, locals := 65 }
def wp_X1_sortMails_b82 (x1 : Int32) (x2 : Int32) (h : Hp) (P12 : Int32 → Hp → Prop) (Q : Hp → Prop) : Prop := LET (x2 + 1) fun v1 => P12 v1 h
def wp_X1_sortMails_b63 (x1 : Int32) (x2 : Int32) (o3 : Nat) (h : Hp) (P12 : Int32 → Hp → Prop) (Q : Hp → Prop) : Prop := wp_X2_isKept o3 h (fun r1 => if r1 = 0 then (wp_X1_sortMails_b82 x1 x2 h P12 Q) else (LET (sJ h 1 0 7 ((gJ h 1 0 7) ||| ((1 : Int64) <<< ((x2 : Int32).toInt64 &&& 63)))) fun h3 => wp_X1_sortMails_b82 x1 x2 h3 P12 Q))
def wp_X1_sortMails_b12F (x1 : Int32)   (Q : Hp → Prop) (P12 : Int32 → Hp → Prop) (x2 : Int32) (h : Hp) : Prop := if (gI h 3 0 6) ≤ x2 then (Q h) else (vp_in x2 40 ∧ wp_X2_liesIn x2.toNatClampNeg x1 h (fun r3 => if r3 = 0 then (wp_X1_sortMails_b63 x1 x2 x2.toNatClampNeg h P12 Q) else (if (gI h 2 x2.toNatClampNeg 10) = 0 then (wp_X1_sortMails_b63 x1 x2 x2.toNatClampNeg h P12 Q) else (LET (sJ h 1 0 6 ((gJ h 1 0 6) ||| ((1 : Int64) <<< ((x2 : Int32).toInt64 &&& 63)))) fun h6 => wp_X1_sortMails_b82 x1 x2 h6 P12 Q))))
def wp_X1_sortMails_b12 (x1 : Int32) (x2 : Int32) (h : Hp)  (Q : Hp → Prop) : Prop := LFP2 (wp_X1_sortMails_b12F x1   Q) x2 h
def wp_X1_sortMails (p0 : Int32) (h : Hp) (Q : Hp → Prop) : Prop := LET (sJ h 1 0 6 0) fun h1 => LET (sJ h1 1 0 7 0) fun h2 => wp_X1_sortMails_b12 p0 0 h2 Q
def rm_X1_list : Room := { frames := 3, cells := 0, slots := 0, locals := 68 }
def wp_X1_list_b153 (s1 : Int32) (s2 : Int64) (s3 : Int64) (h : Hp)  (Q : Hp → Prop) : Prop := vp_in s1 99 ∧ LET (sJ h 32 0 s1.toNatClampNeg (s2 &&& s3)) fun h2 => LET (sI h2 1 0 5 ((gI h2 1 0 5) + 1)) fun h3 => Q h3
def wp_X1_list_b96 (x1 : Int32) (x2 : Int32) (x3 : Int64) (x5 : Int32) (h : Hp)  (Q : Hp → Prop) : Prop := vp_in (gI h 1 0 5) 99 ∧ LET (sI h 29 0 (gI h 1 0 5).toNatClampNeg (vp_nar .char x1)) fun h2 => vp_in (gI h2 1 0 5) 99 ∧ LET (sI h2 30 0 (gI h2 1 0 5).toNatClampNeg x2) fun h4 => vp_in (gI h4 1 0 5) 99 ∧ LET (sI h4 31 0 (gI h4 1 0 5).toNatClampNeg (vp_nar .boolean x5)) fun h6 => if x5 = 0 then (wp_X1_list_b153 (gI h6 1 0 5) (gJ h6 1 0 7) x3 h6 Q) else (wp_X1_list_b153 (gI h6 1 0 5) (gJ h6 1 0 7) (x3 ^^^ (-1)) h6 Q)
def wp_X1_list_b65 (x1 : Int32) (x2 : Int32) (x3 : Int64) (s0 : Int32) (h : Hp)  (Q : Hp → Prop) : Prop := if 99 ≤ (gI h 1 0 5) then (Q h) else (if s0 = 0 then (if ((gJ h 1 0 6) &&& (x3 ^^^ (-1))) = 0 then (wp_X1_list_b96 x1 x2 x3 s0 h Q) else (Q h)) else (wp_X1_list_b96 x1 x2 x3 s0 h Q))
def wp_X1_list_b43 (x1 : Int32) (x2 : Int32) (x3 : Int64) (x5 : Int32) (h : Hp) (P5 : Int64 → Int32 → Hp → Prop) (Q : Hp → Prop) : Prop := LET (x5 + 1) fun v1 => P5 x3 v1 h
def wp_X1_list_b5F (x1 : Int32) (x2 : Int32)   (Q : Hp → Prop) (P5 : Int64 → Int32 → Hp → Prop) (x3 : Int64) (x5 : Int32) (h : Hp) : Prop := if (gI h 3 0 6) ≤ x5 then (if (x3 &&& (gJ h 1 0 6)) = 0 then (wp_X1_list_b65 x1 x2 x3 1 h Q) else (wp_X1_list_b65 x1 x2 x3 0 h Q)) else (vp_in x5 40 ∧ wp_X9_fits x1 x2 x5.toNatClampNeg 0 h (fun r4 => if r4 = 0 then (wp_X1_list_b43 x1 x2 x3 x5 h P5 Q) else (LET (x3 ||| ((1 : Int64) <<< ((x5 : Int32).toInt64 &&& 63))) fun v6 => wp_X1_list_b43 x1 x2 v6 x5 h P5 Q)))
def wp_X1_list_b5 (x1 : Int32) (x2 : Int32) (x3 : Int64) (x5 : Int32) (h : Hp)  (Q : Hp → Prop) : Prop := LFP3 (wp_X1_list_b5F x1 x2   Q) x3 x5 h
def wp_X1_list (p0 : Int32) (p1 : Int32) (h : Hp) (Q : Hp → Prop) : Prop := wp_X1_list_b5 p0 p1 0 0 h Q
def rm_X1_listKind : Room := { frames := 4, cells := 0, slots := 0, locals := 93 }
def wp_X1_listKind_b2F (x1 : Int32) (x2 : Int32)   (Q : Hp → Prop) (P2 : Int32 → Hp → Prop) (x3 : Int32) (h : Hp) : Prop := if x2 ≤ x3 then (Q h) else (wp_X1_list x1 x3 h (fun h2 => LET (x3 + 1) fun v3 => P2 v3 h2))
def wp_X1_listKind_b2 (x1 : Int32) (x2 : Int32) (x3 : Int32) (h : Hp)  (Q : Hp → Prop) : Prop := LFP2 (wp_X1_listKind_b2F x1 x2   Q) x3 h
def wp_X1_listKind (p0 : Int32) (p1 : Int32) (h : Hp) (Q : Hp → Prop) : Prop := wp_X1_listKind_b2 p0 p1 0 h Q
def rm_X1_nextSize : Room := { frames := 2, cells := 0, slots := 0, locals := 44 }
def wp_X1_nextSize_b62 (x1 : Int32) (x2 : Int32) (x3 : Int32) (h : Hp) (P4 : Int32 → Int32 → Prop) (Q : Int32 → Prop) : Prop := LET (x3 + 1) fun v1 => P4 x2 v1
def wp_X1_nextSize_b56 (x1 : Int32) (x3 : Int32) (o4 : Nat) (h : Hp) (P4 : Int32 → Int32 → Prop) (Q : Int32 → Prop) : Prop := LET (gI h 2 o4 4) fun v1 => wp_X1_nextSize_b62 x1 v1 x3 h P4 Q
def wp_X1_nextSize_b4F (x1 : Int32) (h : Hp)  (Q : Int32 → Prop) (P4 : Int32 → Int32 → Prop) (x2 : Int32) (x3 : Int32)  : Prop := if (gI h 3 0 6) ≤ x3 then (Q x2) else (vp_in x3 40 ∧ wp_X2_isKept x3.toNatClampNeg h (fun r3 => if r3 = 0 then (wp_X1_nextSize_b62 x1 x2 x3 h P4 Q) else (if (gI h 2 x3.toNatClampNeg 4) ≤ x1 then (wp_X1_nextSize_b62 x1 x2 x3 h P4 Q) else (if x2 = 0 then (wp_X1_nextSize_b56 x1 x3 x3.toNatClampNeg h P4 Q) else (if x2 ≤ (gI h 2 x3.toNatClampNeg 4) then (wp_X1_nextSize_b62 x1 x2 x3 h P4 Q) else (wp_X1_nextSize_b56 x1 x3 x3.toNatClampNeg h P4 Q))))))
def wp_X1_nextSize_b4 (x1 : Int32) (x2 : Int32) (x3 : Int32) (h : Hp)  (Q : Int32 → Prop) : Prop := LFP2 (wp_X1_nextSize_b4F x1 h  Q) x2 x3 
def wp_X1_nextSize (p0 : Int32) (h : Hp) (Q : Int32 → Prop) : Prop := wp_X1_nextSize_b4 p0 0 0 h Q
def rm_X1_listTests : Room := { frames := 5, cells := 0, slots := 0, locals := 116 }
def wp_X1_listTests_b76  (h : Hp)  (Q : Hp → Prop) : Prop := wp_X1_listKind 100 7 h (fun h1 => Q h1)
def wp_X1_listTests_b45F    (Q : Hp → Prop) (P45 : Int32 → Int32 → Hp → Prop) (x1 : Int32) (x2 : Int32) (h : Hp) : Prop := if 40 ≤ x2 then (wp_X1_listTests_b76 h Q) else (if x1 ≤ 0 then (wp_X1_listTests_b76 h Q) else (wp_X1_list 122 (x1 - 1) h (fun h3 => wp_X1_nextSize x1 h3 (fun r4 => LET (x2 + 1) fun v5 => P45 r4 v5 h3))))
def wp_X1_listTests_b45 (x1 : Int32) (x2 : Int32) (h : Hp)  (Q : Hp → Prop) : Prop := LFP3 (wp_X1_listTests_b45F    Q) x1 x2 h
def wp_X1_listTests  (h : Hp) (Q : Hp → Prop) : Prop := LET (sI h 1 0 5 0) fun h1 => wp_X1_listKind 102 10 h1 (fun h2 => wp_X1_listKind 116 10 h2 (fun h3 => wp_X1_listKind 115 16 h3 (fun h4 => wp_X1_listKind 98 16 h4 (fun h5 => wp_X1_nextSize 0 h5 (fun r6 => wp_X1_listTests_b45 r6 0 h5 Q)))))
def rm_X1_findsOne : Room := { frames := 1, cells := 0, slots := 0, locals := 24 }
def wp_X1_findsOne_b2F    (Q : Int32 → Hp → Prop) (P2 : Int32 → Hp → Prop) (x1 : Int32) (h : Hp) : Prop := if (gI h 1 0 5) ≤ x1 then (Q 0 h) else (vp_in x1 99 ∧ if (gJ h 32 0 x1.toNatClampNeg) = 0 then (LET (sI h 1 0 8 x1) fun h4 => LET (sI h4 1 0 9 (-1)) fun h5 => Q 1 h5) else (LET (x1 + 1) fun v6 => P2 v6 h))
def wp_X1_findsOne_b2 (x1 : Int32) (h : Hp)  (Q : Int32 → Hp → Prop) : Prop := LFP2 (wp_X1_findsOne_b2F    Q) x1 h
def wp_X1_findsOne  (h : Hp) (Q : Int32 → Hp → Prop) : Prop := wp_X1_findsOne_b2 0 h Q
def rm_X1_findsPair : Room := { frames := 1, cells := 0, slots := 0, locals := 24 }
def wp_X1_findsPair_b14F (x1 : Int32)  (P2 : Int32 → Hp → Prop) (Q : Int32 → Hp → Prop) (P14 : Int32 → Hp → Prop) (x2 : Int32) (h : Hp) : Prop := if (gI h 1 0 5) ≤ x2 then (LET (x1 + 1) fun v2 => P2 v2 h) else (vp_in x1 99 ∧ vp_in x2 99 ∧ if ((gJ h 32 0 x1.toNatClampNeg) &&& (gJ h 32 0 x2.toNatClampNeg)) = 0 then (LET (sI h 1 0 8 x1) fun h6 => LET (sI h6 1 0 9 x2) fun h7 => Q 1 h7) else (LET (x2 + 1) fun v8 => P14 v8 h))
def wp_X1_findsPair_b14 (x1 : Int32) (x2 : Int32) (h : Hp) (P2 : Int32 → Hp → Prop) (Q : Int32 → Hp → Prop) : Prop := LFP2 (wp_X1_findsPair_b14F x1  P2 Q) x2 h
def wp_X1_findsPair_b2F    (Q : Int32 → Hp → Prop) (P2 : Int32 → Hp → Prop) (x1 : Int32) (h : Hp) : Prop := if (gI h 1 0 5) ≤ x1 then (Q 0 h) else (LET (x1 + 1) fun v2 => wp_X1_findsPair_b14 x1 v2 h P2 Q)
def wp_X1_findsPair_b2 (x1 : Int32) (h : Hp)  (Q : Int32 → Hp → Prop) : Prop := LFP2 (wp_X1_findsPair_b2F    Q) x1 h
def wp_X1_findsPair  (h : Hp) (Q : Int32 → Hp → Prop) : Prop := wp_X1_findsPair_b2 0 h Q
def rm_X1_finds : Room := { frames := 6, cells := 0, slots := 0, locals := 138 }
def wp_X1_finds (p0 : Int32) (h : Hp) (Q : Int32 → Hp → Prop) : Prop := wp_X1_sortMails p0 h (fun h1 => if (gJ h1 1 0 6) = 0 then (Q 0 h1) else (wp_X1_listTests h1 (fun h3 => wp_X1_findsOne h3 (fun r4 h5 => if r4 = 0 then (wp_X1_findsPair h5 (fun r7 h8 => if r7 = 0 then (Q 0 h8) else (Q 1 h8))) else (Q 1 h5)))))
def rm_X1_testsNeeded : Room := { frames := 1, cells := 0, slots := 0, locals := 24 }
def wp_X1_testsNeeded_b43 (s0 : Int32) (s1 : Int32) (h : Hp)  (Q : Int32 → Prop) : Prop := LET (s0 + s1) fun v1 => Q v1
def wp_X1_testsNeeded_b17 (s0 : Int32) (h : Hp)  (Q : Int32 → Prop) : Prop := if (gI h 1 0 9) < 0 then (Q s0) else (vp_in (gI h 1 0 9) 99 ∧ if (gI h 31 0 (gI h 1 0 9).toNatClampNeg) = 0 then (wp_X1_testsNeeded_b43 s0 2 h Q) else (wp_X1_testsNeeded_b43 s0 3 h Q))
def wp_X1_testsNeeded  (h : Hp) (Q : Int32 → Prop) : Prop := vp_in (gI h 1 0 8) 99 ∧ if (gI h 31 0 (gI h 1 0 8).toNatClampNeg) = 0 then (wp_X1_testsNeeded_b17 1 h Q) else (wp_X1_testsNeeded_b17 2 h Q)
def rm_X9_partsOf : Room := { frames := 1, cells := 0, slots := 0, locals := 24 }
def wp_X9_partsOf (p0 : Int32) (h : Hp) (Q : Int32 → Prop) : Prop := if p0 = 38 then (Q 2) else (if p0 = 124 then (Q 2) else (if p0 = 33 then (Q 1) else (Q 0)))
def rm_X9_isSteady : Room := { frames := 2, cells := 0, slots := 0, locals := 46 }
def wp_X9_isSteady_b42 (x1 : Int32) (x2 : Int32) (h : Hp)  (Q : Int32 → Prop) : Prop := if x2 < 2 then (Q 1) else (vp_in x1 60 ∧ wp_X10_hasBit_ (gJ h 9 0 3) (gI h 14 0 x1.toNatClampNeg) h (fun r3 => if r3 = 0 then (Q 0) else (Q 1)))
def wp_X9_isSteady (p0 : Int32) (h : Hp) (Q : Int32 → Prop) : Prop := vp_in p0 60 ∧ wp_X9_partsOf (gI h 12 0 p0.toNatClampNeg) h (fun r2 => if (gI h 12 0 p0.toNatClampNeg) = 107 then (Q 0) else (if r2 < 1 then (wp_X9_isSteady_b42 p0 r2 h Q) else (wp_X10_hasBit_ (gJ h 9 0 3) (gI h 13 0 p0.toNatClampNeg) h (fun r5 => if r5 = 0 then (Q 0) else (wp_X9_isSteady_b42 p0 r2 h Q)))))
def rm_X9_append : Room := { frames := 3, cells := 0, slots := 0, locals := 68 }
def wp_X9_append (p0 : Int32) (p1 : Int32) (p2 : Int32) (h : Hp) (Q : Int32 → Hp → Prop) : Prop := LET (gI h 9 0 4) fun v1 => vp_in v1 60 ∧ LET (sI h 12 0 v1.toNatClampNeg (vp_nar .char p0)) fun h3 => LET (sI h3 13 0 v1.toNatClampNeg p1) fun h4 => LET (sI h4 14 0 v1.toNatClampNeg p2) fun h5 => LET (sI h5 9 0 4 ((gI h5 9 0 4) + 1)) fun h6 => wp_X9_isSteady v1 h6 (fun r7 => if r7 = 0 then (Q v1 h6) else (LET (sJ h6 9 0 3 ((gJ h6 9 0 3) ||| ((1 : Int64) <<< ((v1 : Int32).toInt64 &&& 63)))) fun h9 => Q v1 h9))
def rm_X1_writePart : Room := { frames := 4, cells := 0, slots := 0, locals := 92 }
def wp_X1_writePart (p1 : Int32) (h : Hp) (Q : Int32 → Hp → Prop) : Prop := vp_in p1 99 ∧ wp_X9_append (gI h 29 0 p1.toNatClampNeg) (gI h 30 0 p1.toNatClampNeg) 0 h (fun r2 h3 => if (gI h3 31 0 p1.toNatClampNeg) = 0 then (Q r2 h3) else (wp_X9_append 33 r2 0 h3 (fun r5 h6 => Q r5 h6)))
def rm_X1_writeInto : Room := { frames := 5, cells := 0, slots := 0, locals := 115 }
def wp_X1_writeInto  (h : Hp) (Q : Int32 → Hp → Prop) : Prop := wp_X1_writePart (gI h 1 0 8) h (fun r1 h2 => if (gI h2 1 0 9) < 0 then (Q r1 h2) else (wp_X1_writePart (gI h2 1 0 9) h2 (fun r4 h5 => wp_X9_append 38 r1 r4 h5 (fun r6 h7 => Q r6 h7))))
set_option maxRecDepth 20000 in
theorem t_X5_reset_b52F {X : Ctx} (h : Hp) (o0 : Nat) (x1 : Int32) (ho0 : o0 < 3) (E : EE X cX5_reset RX5 2 1 24 0 0) {Q : Hp → Prop} (hE : ENDv X cX5_reset Q NT 0 0)  (P52 : Int32 → Hp → Prop) (hP52 : ∀ (y1 : Int32) (u : Hp), P52 y1 u → GG X 0 0 NT u [some (rf X 5 o0), some (.int y1)] 52 []) (hw : wp_X5_reset_b52F o0   Q P52 x1 h) : GG X 0 0 NT h [some (rf X 5 o0), some (.int x1)] 52 [] := by
  unfold wp_X5_reset_b52F at hw
  refine r_iload_n E x1 rfl dX5_reset_52 ?_
  refine r_bipush E 8 rfl dX5_reset_53 ?_
  refine r_icmp_ge E 71 (by decide) dX5_reset_55 (fun c1 => ?_) (fun c1 => ?_)
  · have hw := ite_t hw c1
    exact hE _ _ _ _ _ (Nat.le_of_ble_eq_true rfl) (Nat.le_of_ble_eq_true rfl) dX5_reset_71 hw
  · have hw := ite_f hw c1
    refine r_aload_n E 5 o0 rfl dX5_reset_58 ?_
    refine r_getS E fd_X5_15 (t := o0) (j1 := 27) rfl rfl rfl rfl ho0 (adr_lt ho0) dX5_reset_59 ?_
    refine r_iload_n E x1 rfl dX5_reset_62 ?_
    refine r_iconst E 0 rfl dX5_reset_63 ?_
    obtain ⟨i2, hw⟩ := hw
    refine r_iast E rfl rfl rfl ho0 (adr_lt ho0) i2 dX5_reset_64 ?_
    refine GG_toph fun h3 hh3 => ?_
    have hw := hw h3 hh3
    obtain ⟨v4, hv4⟩ : ∃ y : Int32, y = x1 + 1 := ⟨_, rfl⟩
    have hw := hw v4 hv4
    refine r_iinc E x1 v4 [some (rf X 5 o0), some (.int v4)] rfl (by rw [hv4]; rfl) (Nat.le_of_ble_eq_true rfl) rfl dX5_reset_65 ?_
    refine r_goto E 52 (by decide) dX5_reset_68 ?_
    exact GG_weak [true, true] rfl (hP52 _ _ hw)
set_option maxRecDepth 20000 in
theorem t_X5_reset_b52 {X : Ctx} (h : Hp) (o0 : Nat) (x1 : Int32) (ho0 : o0 < 3) (E : EE X cX5_reset RX5 2 1 24 0 0) {Q : Hp → Prop} (hE : ENDv X cX5_reset Q NT 0 0)  (hw : wp_X5_reset_b52 o0 x1 h  Q) : GG X 0 0 NT h [some (rf X 5 o0), some (.int x1)] 52 [] :=
  hw (fun y1 u => GG X 0 0 NT u [some (rf X 5 o0), some (.int y1)] 52 []) (fun y1 u hq => t_X5_reset_b52F u o0 y1 ho0 E hE  (fun y1 u => GG X 0 0 NT u [some (rf X 5 o0), some (.int y1)] 52 []) (fun y1 u q => q) hq)
set_option maxRecDepth 20000 in
theorem m_X5_reset {l : Launch} (hl : l.stackTraces = false) (G : Gq) (o0 : Nat) (ho0 : o0 < 3) (h : Hp) (Q : Hp → Prop) (hw : wp_X5_reset o0 h Q) : MV l G yX5_reset cX5_reset 2 none rm_X5_reset NT NT h (fun r => [r 5 o0]) Q := by
  refine MV_of (L0 := (fun X => [some (rf X 5 o0), none])) hl (by decide +kernel) rfl (fun _ => Nat.le_of_ble_eq_true rfl) (fun _ => rfl) fun X hXl hXG E hE => ?_
  subst hXl; subst hXG
  unfold wp_X5_reset at hw
  refine r_aload_n E 5 o0 rfl dX5_reset_0 ?_
  refine r_iconst E (-1) rfl dX5_reset_1 ?_
  refine r_putI E fd_X5_18 rfl PI_int ho0 (adr_lt ho0) rfl dX5_reset_2 ?_
  refine GG_toph fun h1 hh1 => ?_
  have hw := hw h1 hh1
  refine r_aload_n E 5 o0 rfl dX5_reset_5 ?_
  refine r_iconst E 0 rfl dX5_reset_6 ?_
  refine r_putI E fd_X5_22 rfl PI_int ho0 (adr_lt ho0) rfl dX5_reset_7 ?_
  refine GG_toph fun h2 hh2 => ?_
  have hw := hw h2 hh2
  refine r_aload_n E 5 o0 rfl dX5_reset_10 ?_
  refine r_iconst E 0 rfl dX5_reset_11 ?_
  refine r_putI E fd_X5_25 rfl PI_int ho0 (adr_lt ho0) rfl dX5_reset_12 ?_
  refine GG_toph fun h3 hh3 => ?_
  have hw := hw h3 hh3
  refine r_aload_n E 5 o0 rfl dX5_reset_15 ?_
  refine r_iconst E 0 rfl dX5_reset_16 ?_
  refine r_putI E fd_X5_28 rfl PI_int ho0 (adr_lt ho0) rfl dX5_reset_17 ?_
  refine GG_toph fun h4 hh4 => ?_
  have hw := hw h4 hh4
  refine r_aload_n E 5 o0 rfl dX5_reset_20 ?_
  refine r_iconst E 0 rfl dX5_reset_21 ?_
  refine r_putI E fd_X5_31 rfl PI_int ho0 (adr_lt ho0) rfl dX5_reset_22 ?_
  refine GG_toph fun h5 hh5 => ?_
  have hw := hw h5 hh5
  refine r_aload_n E 5 o0 rfl dX5_reset_25 ?_
  refine r_iconst E 0 rfl dX5_reset_26 ?_
  refine r_putI E fd_X5_34 rfl PI_int ho0 (adr_lt ho0) rfl dX5_reset_27 ?_
  refine GG_toph fun h6 hh6 => ?_
  have hw := hw h6 hh6
  refine r_aload_n E 5 o0 rfl dX5_reset_30 ?_
  refine r_iconst E 0 rfl dX5_reset_31 ?_
  refine r_putI E fd_X5_37 rfl PI_int ho0 (adr_lt ho0) rfl dX5_reset_32 ?_
  refine GG_toph fun h7 hh7 => ?_
  have hw := hw h7 hh7
  refine r_aload_n E 5 o0 rfl dX5_reset_35 ?_
  refine r_iconst E 0 rfl dX5_reset_36 ?_
  refine r_putI E fd_X5_40 rfl PI_int ho0 (adr_lt ho0) rfl dX5_reset_37 ?_
  refine GG_toph fun h8 hh8 => ?_
  have hw := hw h8 hh8
  refine r_aload_n E 5 o0 rfl dX5_reset_40 ?_
  refine r_iconst E 0 rfl dX5_reset_41 ?_
  refine r_putI E fd_X5_43 rfl PI_int ho0 (adr_lt ho0) rfl dX5_reset_42 ?_
  refine GG_toph fun h9 hh9 => ?_
  have hw := hw h9 hh9
  refine r_aload_n E 5 o0 rfl dX5_reset_45 ?_
  refine r_iconst E 0 rfl dX5_reset_46 ?_
  refine r_putI E fd_X5_46 rfl (PI_z isB_0) ho0 (adr_lt ho0) rfl dX5_reset_47 ?_
  refine GG_toph fun h10 hh10 => ?_
  have hw := hw h10 hh10
  refine r_iconst E 0 rfl dX5_reset_50 ?_
  refine r_istore_n E [some (rf X 5 o0), some (.int 0)] rfl (Nat.le_of_ble_eq_true rfl) rfl dX5_reset_51 ?_
  exact GG_weak [true, true] rfl (t_X5_reset_b52 h10 o0 0 ho0 E hE  hw)
set_option maxRecDepth 20000 in
theorem m_X2_isKept {l : Launch} (hl : l.stackTraces = false) (G : Gq) (o0 : Nat) (ho0 : o0 < 41) (h : Hp) (Q : Int32 → Prop) (hw : wp_X2_isKept o0 h Q) : MI l G yX2_isKept cX2_isKept 1 (some .boolean) rm_X2_isKept NT NT h (fun r => [r 2 o0]) (fun r u => h = u ∧ isB r ∧ Q r) := by
  refine MI_of (L0 := (fun X => [some (rf X 2 o0)])) hl (by decide +kernel) rfl (fun _ => Nat.le_of_ble_eq_true rfl) (fun _ => rfl) fun X hXl hXG E hE => ?_
  subst hXl; subst hXG
  unfold wp_X2_isKept at hw
  refine r_aload_n E 2 o0 rfl dX2_isKept_0 ?_
  refine r_getI E fd_X2_7 rfl ho0 (adr_lt ho0) dX2_isKept_1 ?_
  refine r_if_eq E 18 (by decide) dX2_isKept_4 (fun c1 => ?_) (fun c1 => ?_)
  · have hw := ite_t hw c1
    refine r_iconst E 0 rfl dX2_isKept_18 ?_
    exact hE _ _ _ _ _ _ (Nat.le_of_ble_eq_true rfl) (Nat.le_of_ble_eq_true rfl) dX2_isKept_19 (isB_nar isB_0) ⟨rfl, isB_0, hw⟩
  · have hw := ite_f hw c1
    refine r_aload_n E 2 o0 rfl dX2_isKept_7 ?_
    refine r_getI E fd_X2_13 rfl ho0 (adr_lt ho0) dX2_isKept_8 ?_
    refine r_if_ne E 18 (by decide) dX2_isKept_11 (fun c2 => ?_) (fun c2 => ?_)
    · have hw := ite_t hw c2
      refine r_iconst E 1 rfl dX2_isKept_14 ?_
      refine r_goto E 19 (by decide) dX2_isKept_15 ?_
      exact hE _ _ _ _ _ _ (Nat.le_of_ble_eq_true rfl) (Nat.le_of_ble_eq_true rfl) dX2_isKept_19 (isB_nar isB_1) ⟨rfl, isB_1, hw⟩
    · have hw := ite_f hw c2
      refine r_iconst E 0 rfl dX2_isKept_18 ?_
      exact hE _ _ _ _ _ _ (Nat.le_of_ble_eq_true rfl) (Nat.le_of_ble_eq_true rfl) dX2_isKept_19 (isB_nar isB_0) ⟨rfl, isB_0, hw⟩
set_option maxRecDepth 20000 in
theorem t_X3_loadWithout_b73 {X : Ctx} (h : Hp) (x1 : Int32) (x3 : Int32)  (E : EE X cX3_loadWithout RX3 4 2 44 0 0) {Q : Hp → Prop} (hE : ENDv X cX3_loadWithout Q NT 0 0) (P25 : Int32 → Hp → Prop) (hP25 : ∀ (y3 : Int32) (u : Hp), P25 y3 u → GG X 0 0 NT u [some (rf X 3 0), some (.int x1), some (rf X 25 0), some (.int y3)] 25 []) (hw : wp_X3_loadWithout_b73 x1 x3 h P25 Q) : GG X 0 0 NT h [some (rf X 3 0), some (.int x1), some (rf X 25 0), some (.int x3)] 73 [] := by
  unfold wp_X3_loadWithout_b73 at hw
  obtain ⟨v1, hv1⟩ : ∃ y : Int32, y = x3 + 1 := ⟨_, rfl⟩
  have hw := hw v1 hv1
  refine r_iinc E x3 v1 [some (rf X 3 0), some (.int x1), some (rf X 25 0), some (.int v1)] rfl (by rw [hv1]; rfl) (Nat.le_of_ble_eq_true rfl) rfl dX3_loadWithout_73 ?_
  refine r_goto E 25 (by decide) dX3_loadWithout_76 ?_
  exact GG_weak [true, true, true, true] rfl (hP25 _ _ hw)
set_option maxRecDepth 20000 in
theorem t_X3_loadWithout_b25F {X : Ctx} (h : Hp) (x1 : Int32) (x3 : Int32)  (E : EE X cX3_loadWithout RX3 4 2 44 0 0) {Q : Hp → Prop} (hE : ENDv X cX3_loadWithout Q NT 0 0)  (P25 : Int32 → Hp → Prop) (hP25 : ∀ (y3 : Int32) (u : Hp), P25 y3 u → GG X 0 0 NT u [some (rf X 3 0), some (.int x1), some (rf X 25 0), some (.int y3)] 25 []) (hw : wp_X3_loadWithout_b25F x1   Q P25 x3 h) : GG X 0 0 NT h [some (rf X 3 0), some (.int x1), some (rf X 25 0), some (.int x3)] 25 [] := by
  unfold wp_X3_loadWithout_b25F at hw
  refine r_iload_n E x3 rfl dX3_loadWithout_25 ?_
  refine r_aload_n E 3 0 rfl dX3_loadWithout_26 ?_
  refine r_getI E fd_X3_34 rfl (Nat.le_of_ble_eq_true rfl) (adr_lt (Nat.le_of_ble_eq_true rfl)) dX3_loadWithout_27 ?_
  refine r_icmp_ge E 79 (by decide) dX3_loadWithout_30 (fun c1 => ?_) (fun c1 => ?_)
  · have hw := ite_t hw c1
    exact hE _ _ _ _ _ (Nat.le_of_ble_eq_true rfl) (Nat.le_of_ble_eq_true rfl) dX3_loadWithout_79 hw
  · have hw := ite_f hw c1
    refine r_iload_n E x3 rfl dX3_loadWithout_33 ?_
    refine r_iload_n E x1 rfl dX3_loadWithout_34 ?_
    refine r_icmp_eq E 73 (by decide) dX3_loadWithout_35 (fun c2 => ?_) (fun c2 => ?_)
    · have hw := ite_t hw c2
      exact GG_weak [true, true, true, true] rfl (t_X3_loadWithout_b73 h x1 x3 E hE P25 hP25  hw)
    · have hw := ite_f hw c2
      refine r_aload_n E 3 0 rfl dX3_loadWithout_38 ?_
      refine r_getS E fd_X3_13 (t := 0) (j1 := 15) rfl rfl rfl rfl (Nat.le_of_ble_eq_true rfl) (adr_lt (Nat.le_of_ble_eq_true rfl)) dX3_loadWithout_39 ?_
      refine r_iload_n E x3 rfl dX3_loadWithout_42 ?_
      obtain ⟨i3, hw⟩ := hw
      refine r_aaldS E (j1 := 2) (ta := 4) rfl rfl (Nat.le_of_ble_eq_true rfl) rfl rfl rfl (Nat.le_of_ble_eq_true rfl) (adr_lt (Nat.le_of_ble_eq_true rfl)) i3 rfl rfl dX3_loadWithout_43 ?_
      refine r_callVI E (m_X2_isKept (EE_st E) (GX X) x3.toNatClampNeg (Nat.lt_of_lt_of_le (vp_in_lt i3) (Nat.le_of_ble_eq_true rfl)) h _ hw) lk_X3_63 (RM_mk (Nat.le_of_ble_eq_true rfl) (Nat.le_of_ble_eq_true rfl)) rfl rfl rfl rfl (Nat.lt_of_lt_of_le (vp_in_lt i3) (Nat.le_of_ble_eq_true rfl)) (adr_lt (Nat.lt_of_lt_of_le (vp_in_lt i3) (Nat.le_of_ble_eq_true rfl))) (Nat.le_of_ble_eq_true rfl) rfl rfl (Nat.le_of_ble_eq_true rfl) (Nat.le_of_ble_eq_true rfl) dX3_loadWithout_44 (fun r4 u9 hw => ?_)
      obtain ⟨rfl, zr4, hw⟩ := hw
      refine r_if_eq E 73 (by decide) dX3_loadWithout_47 (fun c5 => ?_) (fun c5 => ?_)
      · have hw := ite_t hw c5
        exact GG_weak [true, true, true, true] rfl (t_X3_loadWithout_b73 h x1 x3 E hE P25 hP25  hw)
      · have hw := ite_f hw c5
        refine r_aload_n E 25 0 rfl dX3_loadWithout_50 ?_
        refine r_aload_n E 3 0 rfl dX3_loadWithout_51 ?_
        refine r_getS E fd_X3_13 (t := 0) (j1 := 15) rfl rfl rfl rfl (Nat.le_of_ble_eq_true rfl) (adr_lt (Nat.le_of_ble_eq_true rfl)) dX3_loadWithout_52 ?_
        refine r_iload_n E x3 rfl dX3_loadWithout_55 ?_
        refine r_aaldS E (j1 := 2) (ta := 4) rfl rfl (Nat.le_of_ble_eq_true rfl) rfl rfl rfl (Nat.le_of_ble_eq_true rfl) (adr_lt (Nat.le_of_ble_eq_true rfl)) i3 rfl rfl dX3_loadWithout_56 ?_
        refine r_getI E fd_X3_67 rfl (Nat.lt_of_lt_of_le (vp_in_lt i3) (Nat.le_of_ble_eq_true rfl)) (adr_lt (Nat.lt_of_lt_of_le (vp_in_lt i3) (Nat.le_of_ble_eq_true rfl))) dX3_loadWithout_57 ?_
        refine r_dup2 E rfl rfl dX3_loadWithout_60 ?_
        obtain ⟨i6, hw⟩ := hw
        refine r_iald E rfl rfl rfl (Nat.le_of_ble_eq_true rfl) (adr_lt (Nat.le_of_ble_eq_true rfl)) i6 dX3_loadWithout_61 ?_
        refine r_aload_n E 3 0 rfl dX3_loadWithout_62 ?_
        refine r_getS E fd_X3_13 (t := 0) (j1 := 15) rfl rfl rfl rfl (Nat.le_of_ble_eq_true rfl) (adr_lt (Nat.le_of_ble_eq_true rfl)) dX3_loadWithout_63 ?_
        refine r_iload_n E x3 rfl dX3_loadWithout_66 ?_
        refine r_aaldS E (j1 := 2) (ta := 4) rfl rfl (Nat.le_of_ble_eq_true rfl) rfl rfl rfl (Nat.le_of_ble_eq_true rfl) (adr_lt (Nat.le_of_ble_eq_true rfl)) i3 rfl rfl dX3_loadWithout_67 ?_
        refine r_getI E fd_X3_50 rfl (Nat.lt_of_lt_of_le (vp_in_lt i3) (Nat.le_of_ble_eq_true rfl)) (adr_lt (Nat.lt_of_lt_of_le (vp_in_lt i3) (Nat.le_of_ble_eq_true rfl))) dX3_loadWithout_68 ?_
        refine r_iadd E dX3_loadWithout_71 ?_
        refine r_iast E rfl rfl rfl (Nat.le_of_ble_eq_true rfl) (adr_lt (Nat.le_of_ble_eq_true rfl)) i6 dX3_loadWithout_72 ?_
        refine GG_toph fun h7 hh7 => ?_
        have hw := hw h7 hh7
        exact GG_weak [true, true, true, true] rfl (t_X3_loadWithout_b73 h7 x1 x3 E hE P25 hP25  hw)
set_option maxRecDepth 20000 in
theorem t_X3_loadWithout_b25 {X : Ctx} (h : Hp) (x1 : Int32) (x3 : Int32)  (E : EE X cX3_loadWithout RX3 4 2 44 0 0) {Q : Hp → Prop} (hE : ENDv X cX3_loadWithout Q NT 0 0)  (hw : wp_X3_loadWithout_b25 x1 x3 h  Q) : GG X 0 0 NT h [some (rf X 3 0), some (.int x1), some (rf X 25 0), some (.int x3)] 25 [] :=
  hw (fun y3 u => GG X 0 0 NT u [some (rf X 3 0), some (.int x1), some (rf X 25 0), some (.int y3)] 25 []) (fun y3 u hq => t_X3_loadWithout_b25F u x1 y3  E hE  (fun y3 u => GG X 0 0 NT u [some (rf X 3 0), some (.int x1), some (rf X 25 0), some (.int y3)] 25 []) (fun y3 u q => q) hq)
set_option maxRecDepth 20000 in
theorem t_X3_loadWithout_b2F {X : Ctx} (h : Hp) (x1 : Int32) (x3 : Int32)  (E : EE X cX3_loadWithout RX3 4 2 44 0 0) {Q : Hp → Prop} (hE : ENDv X cX3_loadWithout Q NT 0 0)  (P2 : Int32 → Hp → Prop) (hP2 : ∀ (y3 : Int32) (u : Hp), P2 y3 u → GG X 0 0 NT u [some (rf X 3 0), some (.int x1), some (rf X 25 0), some (.int y3)] 2 []) (hw : wp_X3_loadWithout_b2F x1   Q P2 x3 h) : GG X 0 0 NT h [some (rf X 3 0), some (.int x1), some (rf X 25 0), some (.int x3)] 2 [] := by
  unfold wp_X3_loadWithout_b2F at hw
  refine r_iload_n E x3 rfl dX3_loadWithout_2 ?_
  refine r_bipush E 8 rfl dX3_loadWithout_3 ?_
  refine r_icmp_ge E 23 (by decide) dX3_loadWithout_5 (fun c1 => ?_) (fun c1 => ?_)
  · have hw := ite_t hw c1
    refine r_iconst E 0 rfl dX3_loadWithout_23 ?_
    refine r_istore_n E [some (rf X 3 0), some (.int x1), some (rf X 25 0), some (.int 0)] rfl (Nat.le_of_ble_eq_true rfl) rfl dX3_loadWithout_24 ?_
    exact GG_weak [true, true, true, true] rfl (t_X3_loadWithout_b25 h x1 0 E hE  hw)
  · have hw := ite_f hw c1
    refine r_aload_n E 25 0 rfl dX3_loadWithout_8 ?_
    refine r_iload_n E x3 rfl dX3_loadWithout_9 ?_
    refine r_aload_n E 3 0 rfl dX3_loadWithout_10 ?_
    refine r_getS E fd_X3_21 (t := 0) (j1 := 17) rfl rfl rfl rfl (Nat.le_of_ble_eq_true rfl) (adr_lt (Nat.le_of_ble_eq_true rfl)) dX3_loadWithout_11 ?_
    refine r_iload_n E x3 rfl dX3_loadWithout_14 ?_
    obtain ⟨i2, hw⟩ := hw
    refine r_iald E rfl rfl rfl (Nat.le_of_ble_eq_true rfl) (adr_lt (Nat.le_of_ble_eq_true rfl)) i2 dX3_loadWithout_15 ?_
    refine r_iast E rfl rfl rfl (Nat.le_of_ble_eq_true rfl) (adr_lt (Nat.le_of_ble_eq_true rfl)) i2 dX3_loadWithout_16 ?_
    refine GG_toph fun h3 hh3 => ?_
    have hw := hw h3 hh3
    obtain ⟨v4, hv4⟩ : ∃ y : Int32, y = x3 + 1 := ⟨_, rfl⟩
    have hw := hw v4 hv4
    refine r_iinc E x3 v4 [some (rf X 3 0), some (.int x1), some (rf X 25 0), some (.int v4)] rfl (by rw [hv4]; rfl) (Nat.le_of_ble_eq_true rfl) rfl dX3_loadWithout_17 ?_
    refine r_goto E 2 (by decide) dX3_loadWithout_20 ?_
    exact GG_weak [true, true, true, true] rfl (hP2 _ _ hw)
set_option maxRecDepth 20000 in
theorem t_X3_loadWithout_b2 {X : Ctx} (h : Hp) (x1 : Int32) (x3 : Int32)  (E : EE X cX3_loadWithout RX3 4 2 44 0 0) {Q : Hp → Prop} (hE : ENDv X cX3_loadWithout Q NT 0 0)  (hw : wp_X3_loadWithout_b2 x1 x3 h  Q) : GG X 0 0 NT h [some (rf X 3 0), some (.int x1), some (rf X 25 0), some (.int x3)] 2 [] :=
  hw (fun y3 u => GG X 0 0 NT u [some (rf X 3 0), some (.int x1), some (rf X 25 0), some (.int y3)] 2 []) (fun y3 u hq => t_X3_loadWithout_b2F u x1 y3  E hE  (fun y3 u => GG X 0 0 NT u [some (rf X 3 0), some (.int x1), some (rf X 25 0), some (.int y3)] 2 []) (fun y3 u q => q) hq)
set_option maxRecDepth 20000 in
theorem m_X3_loadWithout {l : Launch} (hl : l.stackTraces = false) (G : Gq) (p0 : Int32)  (h : Hp) (Q : Hp → Prop) (hw : wp_X3_loadWithout p0 h Q) : MV l G yX3_loadWithout cX3_loadWithout 4 none rm_X3_loadWithout NT NT h (fun r => [r 3 0, .int p0, r 25 0]) Q := by
  refine MV_of (L0 := (fun X => [some (rf X 3 0), some (.int p0), some (rf X 25 0), none])) hl (by decide +kernel) rfl (fun _ => Nat.le_of_ble_eq_true rfl) (fun _ => rfl) fun X hXl hXG E hE => ?_
  subst hXl; subst hXG
  unfold wp_X3_loadWithout at hw
  refine r_iconst E 0 rfl dX3_loadWithout_0 ?_
  refine r_istore_n E [some (rf X 3 0), some (.int p0), some (rf X 25 0), some (.int 0)] rfl (Nat.le_of_ble_eq_true rfl) rfl dX3_loadWithout_1 ?_
  exact GG_weak [true, true, true, true] rfl (t_X3_loadWithout_b2 h p0 0 E hE  hw)
set_option maxRecDepth 20000 in
theorem m_X0_isTooMuch {l : Launch} (hl : l.stackTraces = false) (G : Gq) (p0 : Int32)  (h : Hp) (Q : Int32 → Prop) (hw : wp_X0_isTooMuch p0 h Q) : MI l G yX0_isTooMuch cX0_isTooMuch 2 (some .boolean) rm_X0_isTooMuch NT NT h (fun r => [r 0 0, .int p0]) (fun r u => h = u ∧ isB r ∧ Q r) := by
  refine MI_of (L0 := (fun X => [some (rf X 0 0), some (.int p0)])) hl (by decide +kernel) rfl (fun _ => Nat.le_of_ble_eq_true rfl) (fun _ => rfl) fun X hXl hXG E hE => ?_
  subst hXl; subst hXG
  unfold wp_X0_isTooMuch at hw
  refine r_iload_n E p0 rfl dX0_isTooMuch_0 ?_
  refine r_if_eq E 34 (by decide) dX0_isTooMuch_1 (fun c1 => ?_) (fun c1 => ?_)
  · have hw := ite_t hw c1
    refine r_iconst E 0 rfl dX0_isTooMuch_34 ?_
    exact hE _ _ _ _ _ _ (Nat.le_of_ble_eq_true rfl) (Nat.le_of_ble_eq_true rfl) dX0_isTooMuch_35 (isB_nar isB_0) ⟨rfl, isB_0, hw⟩
  · have hw := ite_f hw c1
    refine r_aload_n E 0 0 rfl dX0_isTooMuch_4 ?_
    refine r_getS E fd_X0_9 (t := 0) (j1 := 25) rfl rfl rfl rfl (Nat.le_of_ble_eq_true rfl) (adr_lt (Nat.le_of_ble_eq_true rfl)) dX0_isTooMuch_5 ?_
    refine r_iload_n E p0 rfl dX0_isTooMuch_8 ?_
    obtain ⟨i2, hw⟩ := hw
    refine r_iald E rfl rfl rfl (Nat.le_of_ble_eq_true rfl) (adr_lt (Nat.le_of_ble_eq_true rfl)) i2 dX0_isTooMuch_9 ?_
    refine r_aload_n E 0 0 rfl dX0_isTooMuch_10 ?_
    obtain ⟨e3, hve3, hbe3, hw⟩ := hw
    refine r_getR E fd_X0_37 (t := e3) (j1 := 2) rfl hve3 rfl (Nat.le_of_ble_eq_true rfl) (adr_lt (Nat.le_of_ble_eq_true rfl)) dX0_isTooMuch_11 ?_
    refine r_getI E fd_X0_171 rfl hbe3 (adr_lt hbe3) dX0_isTooMuch_14 ?_
    refine r_iadd E dX0_isTooMuch_17 ?_
    refine r_aload_n E 0 0 rfl dX0_isTooMuch_18 ?_
    refine r_getS E fd_X0_23 (t := 0) (j1 := 3) rfl rfl rfl rfl (Nat.le_of_ble_eq_true rfl) (adr_lt (Nat.le_of_ble_eq_true rfl)) dX0_isTooMuch_19 ?_
    refine r_getS E fd_X0_174 (t := 0) (j1 := 16) rfl rfl rfl rfl (Nat.le_of_ble_eq_true rfl) (adr_lt (Nat.le_of_ble_eq_true rfl)) dX0_isTooMuch_22 ?_
    refine r_iload_n E p0 rfl dX0_isTooMuch_25 ?_
    refine r_iald E rfl rfl rfl (Nat.le_of_ble_eq_true rfl) (adr_lt (Nat.le_of_ble_eq_true rfl)) i2 dX0_isTooMuch_26 ?_
    refine r_icmp_le E 34 (by decide) dX0_isTooMuch_27 (fun c4 => ?_) (fun c4 => ?_)
    · have hw := ite_t hw c4
      refine r_iconst E 0 rfl dX0_isTooMuch_34 ?_
      exact hE _ _ _ _ _ _ (Nat.le_of_ble_eq_true rfl) (Nat.le_of_ble_eq_true rfl) dX0_isTooMuch_35 (isB_nar isB_0) ⟨rfl, isB_0, hw⟩
    · have hw := ite_f hw c4
      refine r_iconst E 1 rfl dX0_isTooMuch_30 ?_
      refine r_goto E 35 (by decide) dX0_isTooMuch_31 ?_
      exact hE _ _ _ _ _ _ (Nat.le_of_ble_eq_true rfl) (Nat.le_of_ble_eq_true rfl) dX0_isTooMuch_35 (isB_nar isB_1) ⟨rfl, isB_1, hw⟩
set_option maxRecDepth 20000 in
theorem t_X0_putInto_b25 {X : Ctx} (h : Hp) (x2 : Int32)  (E : EE X cX0_putInto RX0 3 2 45 0 0) {Q : Hp → Prop} (hE : ENDv X cX0_putInto Q NT 0 0)  (hw : wp_X0_putInto_b25 x2 h  Q) : GG X 0 0 NT h [some (rf X 0 0), none, some (.int x2)] 25 [] := by
  unfold wp_X0_putInto_b25 at hw
  refine r_aload_n E 0 0 rfl dX0_putInto_25 ?_
  obtain ⟨e1, hve1, hbe1, hw⟩ := hw
  refine r_getR E fd_X0_30 (t := e1) (j1 := 5) rfl hve1 rfl (Nat.le_of_ble_eq_true rfl) (adr_lt (Nat.le_of_ble_eq_true rfl)) dX0_putInto_26 ?_
  refine r_iload_n E x2 rfl dX0_putInto_29 ?_
  refine r_putI E fd_X0_72 rfl PI_int hbe1 (adr_lt hbe1) rfl dX0_putInto_30 ?_
  refine GG_toph fun h2 hh2 => ?_
  have hw := hw h2 hh2
  refine r_aload_n E 0 0 rfl dX0_putInto_33 ?_
  refine r_getS E fd_X0_9 (t := 0) (j1 := 25) rfl rfl rfl rfl (Nat.le_of_ble_eq_true rfl) (adr_lt (Nat.le_of_ble_eq_true rfl)) dX0_putInto_34 ?_
  refine r_iload_n E x2 rfl dX0_putInto_37 ?_
  refine r_dup2 E rfl rfl dX0_putInto_38 ?_
  obtain ⟨i3, hw⟩ := hw
  refine r_iald E rfl rfl rfl (Nat.le_of_ble_eq_true rfl) (adr_lt (Nat.le_of_ble_eq_true rfl)) i3 dX0_putInto_39 ?_
  refine r_aload_n E 0 0 rfl dX0_putInto_40 ?_
  obtain ⟨e4, hve4, hbe4, hw⟩ := hw
  refine r_getR E fd_X0_37 (t := e4) (j1 := 2) rfl hve4 rfl (Nat.le_of_ble_eq_true rfl) (adr_lt (Nat.le_of_ble_eq_true rfl)) dX0_putInto_41 ?_
  refine r_getI E fd_X0_171 rfl hbe4 (adr_lt hbe4) dX0_putInto_44 ?_
  refine r_iadd E dX0_putInto_47 ?_
  refine r_iast E rfl rfl rfl (Nat.le_of_ble_eq_true rfl) (adr_lt (Nat.le_of_ble_eq_true rfl)) i3 dX0_putInto_48 ?_
  refine GG_toph fun h5 hh5 => ?_
  have hw := hw h5 hh5
  exact hE _ _ _ _ _ (Nat.le_of_ble_eq_true rfl) (Nat.le_of_ble_eq_true rfl) dX0_putInto_49 hw
set_option maxRecDepth 20000 in
theorem m_X0_putInto {l : Launch} (hl : l.stackTraces = false) (G : Gq) (p0 : Int32)  (h : Hp) (Q : Hp → Prop) (hw : wp_X0_putInto p0 h Q) : MV l G yX0_putInto cX0_putInto 3 none rm_X0_putInto NT NT h (fun r => [r 0 0, .int p0]) Q := by
  refine MV_of (L0 := (fun X => [some (rf X 0 0), some (.int p0), none])) hl (by decide +kernel) rfl (fun _ => Nat.le_of_ble_eq_true rfl) (fun _ => rfl) fun X hXl hXG E hE => ?_
  subst hXl; subst hXG
  unfold wp_X0_putInto at hw
  refine r_iload_n E p0 rfl dX0_putInto_0 ?_
  refine r_istore_n E [some (rf X 0 0), some (.int p0), some (.int p0)] rfl (Nat.le_of_ble_eq_true rfl) rfl dX0_putInto_1 ?_
  refine r_aload_n E 0 0 rfl dX0_putInto_2 ?_
  refine r_iload_n E p0 rfl dX0_putInto_3 ?_
  refine r_callVI E (m_X0_isTooMuch (EE_st E) (GX X) p0 h _ hw) lk_X0_165 (RM_mk (Nat.le_of_ble_eq_true rfl) (Nat.le_of_ble_eq_true rfl)) rfl rfl rfl rfl (Nat.le_of_ble_eq_true rfl) (adr_lt (Nat.le_of_ble_eq_true rfl)) (Nat.le_of_ble_eq_true rfl) rfl rfl (Nat.le_of_ble_eq_true rfl) (Nat.le_of_ble_eq_true rfl) dX0_putInto_4 (fun r1 u9 hw => ?_)
  obtain ⟨rfl, zr1, hw⟩ := hw
  refine r_if_eq E 25 (by decide) dX0_putInto_7 (fun c2 => ?_) (fun c2 => ?_)
  · have hw := ite_t hw c2
    exact GG_weak [true, false, true] rfl (t_X0_putInto_b25 h p0 E hE  hw)
  · have hw := ite_f hw c2
    refine r_aload_n E 0 0 rfl dX0_putInto_10 ?_
    obtain ⟨e3, hve3, hbe3, hw⟩ := hw
    refine r_getR E fd_X0_30 (t := e3) (j1 := 5) rfl hve3 rfl (Nat.le_of_ble_eq_true rfl) (adr_lt (Nat.le_of_ble_eq_true rfl)) dX0_putInto_11 ?_
    refine r_dup E rfl dX0_putInto_14 ?_
    refine r_getI E fd_X0_168 rfl hbe3 (adr_lt hbe3) dX0_putInto_15 ?_
    refine r_iconst E 1 rfl dX0_putInto_18 ?_
    refine r_iadd E dX0_putInto_19 ?_
    refine r_putI E fd_X0_168 rfl PI_int hbe3 (adr_lt hbe3) rfl dX0_putInto_20 ?_
    refine GG_toph fun h4 hh4 => ?_
    have hw := hw h4 hh4
    refine r_iconst E 0 rfl dX0_putInto_23 ?_
    refine r_istore_n E [some (rf X 0 0), some (.int p0), some (.int 0)] rfl (Nat.le_of_ble_eq_true rfl) rfl dX0_putInto_24 ?_
    exact GG_weak [true, false, true] rfl (t_X0_putInto_b25 h4 0 E hE  hw)
set_option maxRecDepth 20000 in
theorem m_X3_isReplyDue {l : Launch} (hl : l.stackTraces = false) (G : Gq) (p0 : Int32) (p1 : Int32)  (h : Hp) (Q : Int32 → Prop) (hw : wp_X3_isReplyDue p0 p1 h Q) : MI l G yX3_isReplyDue cX3_isReplyDue 3 (some .boolean) rm_X3_isReplyDue NT NT h (fun r => [r 3 0, .int p0, .int p1]) (fun r u => h = u ∧ isB r ∧ Q r) := by
  refine MI_of (L0 := (fun X => [some (rf X 3 0), some (.int p0), some (.int p1)])) hl (by decide +kernel) rfl (fun _ => Nat.le_of_ble_eq_true rfl) (fun _ => rfl) fun X hXl hXG E hE => ?_
  subst hXl; subst hXG
  unfold wp_X3_isReplyDue at hw
  refine r_aload_n E 3 0 rfl dX3_isReplyDue_0 ?_
  refine r_getS E fd_X3_24 (t := 0) (j1 := 18) rfl rfl rfl rfl (Nat.le_of_ble_eq_true rfl) (adr_lt (Nat.le_of_ble_eq_true rfl)) dX3_isReplyDue_1 ?_
  refine r_iload_n E p0 rfl dX3_isReplyDue_4 ?_
  obtain ⟨i1, hw⟩ := hw
  refine r_iald E rfl rfl rfl (Nat.le_of_ble_eq_true rfl) (adr_lt (Nat.le_of_ble_eq_true rfl)) i1 dX3_isReplyDue_5 ?_
  refine r_if_eq E 24 (by decide) dX3_isReplyDue_6 (fun c2 => ?_) (fun c2 => ?_)
  · have hw := ite_t hw c2
    refine r_iconst E 1 rfl dX3_isReplyDue_24 ?_
    refine r_goto E 29 (by decide) dX3_isReplyDue_25 ?_
    exact hE _ _ _ _ _ _ (Nat.le_of_ble_eq_true rfl) (Nat.le_of_ble_eq_true rfl) dX3_isReplyDue_29 (isB_nar isB_1) ⟨rfl, isB_1, hw⟩
  · have hw := ite_f hw c2
    refine r_aload_n E 3 0 rfl dX3_isReplyDue_9 ?_
    refine r_getI E fd_X3_53 rfl (Nat.le_of_ble_eq_true rfl) (adr_lt (Nat.le_of_ble_eq_true rfl)) dX3_isReplyDue_10 ?_
    refine r_aload_n E 3 0 rfl dX3_isReplyDue_13 ?_
    refine r_getS E fd_X3_30 (t := 0) (j1 := 20) rfl rfl rfl rfl (Nat.le_of_ble_eq_true rfl) (adr_lt (Nat.le_of_ble_eq_true rfl)) dX3_isReplyDue_14 ?_
    refine r_iload_n E p0 rfl dX3_isReplyDue_17 ?_
    refine r_iald E rfl rfl rfl (Nat.le_of_ble_eq_true rfl) (adr_lt (Nat.le_of_ble_eq_true rfl)) i1 dX3_isReplyDue_18 ?_
    refine r_isub E dX3_isReplyDue_19 ?_
    refine r_iload_n E p1 rfl dX3_isReplyDue_20 ?_
    refine r_icmp_lt E 28 (by decide) dX3_isReplyDue_21 (fun c3 => ?_) (fun c3 => ?_)
    · have hw := ite_t hw c3
      refine r_iconst E 0 rfl dX3_isReplyDue_28 ?_
      exact hE _ _ _ _ _ _ (Nat.le_of_ble_eq_true rfl) (Nat.le_of_ble_eq_true rfl) dX3_isReplyDue_29 (isB_nar isB_0) ⟨rfl, isB_0, hw⟩
    · have hw := ite_f hw c3
      refine r_iconst E 1 rfl dX3_isReplyDue_24 ?_
      refine r_goto E 29 (by decide) dX3_isReplyDue_25 ?_
      exact hE _ _ _ _ _ _ (Nat.le_of_ble_eq_true rfl) (Nat.le_of_ble_eq_true rfl) dX3_isReplyDue_29 (isB_nar isB_1) ⟨rfl, isB_1, hw⟩
set_option maxRecDepth 20000 in
theorem m_X0_sendOut {l : Launch} (hl : l.stackTraces = false) (G : Gq) (p0 : Int32) (p1 : Int32)  (h : Hp) (Q : Hp → Prop) (hw : wp_X0_sendOut p0 p1 h Q) : MV l G yX0_sendOut cX0_sendOut 3 none rm_X0_sendOut NT NT h (fun r => [r 0 0, .int p0, .int p1]) Q := by
  refine MV_of (L0 := (fun X => [some (rf X 0 0), some (.int p0), some (.int p1)])) hl (by decide +kernel) rfl (fun _ => Nat.le_of_ble_eq_true rfl) (fun _ => rfl) fun X hXl hXG E hE => ?_
  subst hXl; subst hXG
  unfold wp_X0_sendOut at hw
  refine r_iload_n E p0 rfl dX0_sendOut_0 ?_
  refine r_bipush E 99 rfl dX0_sendOut_1 ?_
  refine r_icmp_ne E 44 (by decide) dX0_sendOut_3 (fun c1 => ?_) (fun c1 => ?_)
  · have hw := ite_t hw c1
    refine r_aload_n E 0 0 rfl dX0_sendOut_6 ?_
    obtain ⟨e2, hve2, hbe2, hw⟩ := hw
    refine r_getR E fd_X0_30 (t := e2) (j1 := 5) rfl hve2 rfl (Nat.le_of_ble_eq_true rfl) (adr_lt (Nat.le_of_ble_eq_true rfl)) dX0_sendOut_7 ?_
    refine r_getS E fd_X0_188 (t := e2) (j1 := 27) rfl rfl rfl rfl hbe2 (adr_lt hbe2) dX0_sendOut_10 ?_
    refine r_iload_n E p1 rfl dX0_sendOut_13 ?_
    refine r_dup2 E rfl rfl dX0_sendOut_14 ?_
    obtain ⟨i3, hw⟩ := hw
    refine r_iald E rfl rfl rfl hbe2 (adr_lt hbe2) i3 dX0_sendOut_15 ?_
    refine r_aload_n E 0 0 rfl dX0_sendOut_16 ?_
    obtain ⟨e4, hve4, hbe4, hw⟩ := hw
    refine r_getR E fd_X0_37 (t := e4) (j1 := 2) rfl hve4 rfl (Nat.le_of_ble_eq_true rfl) (adr_lt (Nat.le_of_ble_eq_true rfl)) dX0_sendOut_17 ?_
    refine r_getI E fd_X0_171 rfl hbe4 (adr_lt hbe4) dX0_sendOut_20 ?_
    refine r_iadd E dX0_sendOut_23 ?_
    refine r_iast E rfl rfl rfl hbe2 (adr_lt hbe2) i3 dX0_sendOut_24 ?_
    refine GG_toph fun h5 hh5 => ?_
    have hw := hw h5 hh5
    refine r_aload_n E 0 0 rfl dX0_sendOut_25 ?_
    refine r_getS E fd_X0_9 (t := 0) (j1 := 25) rfl rfl rfl rfl (Nat.le_of_ble_eq_true rfl) (adr_lt (Nat.le_of_ble_eq_true rfl)) dX0_sendOut_26 ?_
    refine r_iload_n E p1 rfl dX0_sendOut_29 ?_
    refine r_dup2 E rfl rfl dX0_sendOut_30 ?_
    refine r_iald E rfl rfl rfl (Nat.le_of_ble_eq_true rfl) (adr_lt (Nat.le_of_ble_eq_true rfl)) i3 dX0_sendOut_31 ?_
    refine r_aload_n E 0 0 rfl dX0_sendOut_32 ?_
    obtain ⟨e6, hve6, hbe6, hw⟩ := hw
    refine r_getR E fd_X0_37 (t := e6) (j1 := 2) rfl hve6 rfl (Nat.le_of_ble_eq_true rfl) (adr_lt (Nat.le_of_ble_eq_true rfl)) dX0_sendOut_33 ?_
    refine r_getI E fd_X0_171 rfl hbe6 (adr_lt hbe6) dX0_sendOut_36 ?_
    refine r_iadd E dX0_sendOut_39 ?_
    refine r_iast E rfl rfl rfl (Nat.le_of_ble_eq_true rfl) (adr_lt (Nat.le_of_ble_eq_true rfl)) i3 dX0_sendOut_40 ?_
    refine GG_toph fun h7 hh7 => ?_
    have hw := hw h7 hh7
    refine r_goto E 94 (by decide) dX0_sendOut_41 ?_
    exact hE _ _ _ _ _ (Nat.le_of_ble_eq_true rfl) (Nat.le_of_ble_eq_true rfl) dX0_sendOut_94 hw
  · have hw := ite_f hw c1
    refine r_iload_n E p0 rfl dX0_sendOut_44 ?_
    refine r_bipush E 119 rfl dX0_sendOut_45 ?_
    refine r_icmp_ne E 68 (by decide) dX0_sendOut_47 (fun c8 => ?_) (fun c8 => ?_)
    · have hw := ite_t hw c8
      refine r_aload_n E 0 0 rfl dX0_sendOut_50 ?_
      obtain ⟨e9, hve9, hbe9, hw⟩ := hw
      refine r_getR E fd_X0_30 (t := e9) (j1 := 5) rfl hve9 rfl (Nat.le_of_ble_eq_true rfl) (adr_lt (Nat.le_of_ble_eq_true rfl)) dX0_sendOut_51 ?_
      refine r_dup E rfl dX0_sendOut_54 ?_
      refine r_getI E fd_X0_156 rfl hbe9 (adr_lt hbe9) dX0_sendOut_55 ?_
      refine r_iconst E 1 rfl dX0_sendOut_58 ?_
      refine r_iload_n E p1 rfl dX0_sendOut_59 ?_
      refine r_ishl E dX0_sendOut_60 ?_
      refine r_ior E dX0_sendOut_61 ?_
      refine r_putI E fd_X0_156 rfl PI_int hbe9 (adr_lt hbe9) rfl dX0_sendOut_62 ?_
      refine GG_toph fun h10 hh10 => ?_
      have hw := hw h10 hh10
      refine r_goto E 94 (by decide) dX0_sendOut_65 ?_
      exact hE _ _ _ _ _ (Nat.le_of_ble_eq_true rfl) (Nat.le_of_ble_eq_true rfl) dX0_sendOut_94 hw
    · have hw := ite_f hw c8
      refine r_aload_n E 0 0 rfl dX0_sendOut_68 ?_
      refine r_getS E fd_X0_23 (t := 0) (j1 := 3) rfl rfl rfl rfl (Nat.le_of_ble_eq_true rfl) (adr_lt (Nat.le_of_ble_eq_true rfl)) dX0_sendOut_69 ?_
      refine r_aload_n E 0 0 rfl dX0_sendOut_72 ?_
      obtain ⟨e11, hve11, hbe11, hw⟩ := hw
      refine r_getR E fd_X0_37 (t := e11) (j1 := 2) rfl hve11 rfl (Nat.le_of_ble_eq_true rfl) (adr_lt (Nat.le_of_ble_eq_true rfl)) dX0_sendOut_73 ?_
      refine r_getI E fd_X0_150 rfl hbe11 (adr_lt hbe11) dX0_sendOut_76 ?_
      refine r_iload_n E p1 rfl dX0_sendOut_79 ?_
      refine r_callVI E (m_X3_isReplyDue (EE_st E) (GX X) (gI h 2 e11 0) p1 h _ hw) lk_X0_191 (RM_mk (Nat.le_of_ble_eq_true rfl) (Nat.le_of_ble_eq_true rfl)) rfl rfl rfl rfl (Nat.le_of_ble_eq_true rfl) (adr_lt (Nat.le_of_ble_eq_true rfl)) (Nat.le_of_ble_eq_true rfl) rfl rfl (Nat.le_of_ble_eq_true rfl) (Nat.le_of_ble_eq_true rfl) dX0_sendOut_80 (fun r12 u9 hw => ?_)
      obtain ⟨rfl, zr12, hw⟩ := hw
      refine r_if_eq E 94 (by decide) dX0_sendOut_83 (fun c13 => ?_) (fun c13 => ?_)
      · have hw := ite_t hw c13
        exact hE _ _ _ _ _ (Nat.le_of_ble_eq_true rfl) (Nat.le_of_ble_eq_true rfl) dX0_sendOut_94 hw
      · have hw := ite_f hw c13
        refine r_aload_n E 0 0 rfl dX0_sendOut_86 ?_
        obtain ⟨e14, hve14, hbe14, hw⟩ := hw
        refine r_getR E fd_X0_30 (t := e14) (j1 := 5) rfl hve14 rfl (Nat.le_of_ble_eq_true rfl) (adr_lt (Nat.le_of_ble_eq_true rfl)) dX0_sendOut_87 ?_
        refine r_iconst E 1 rfl dX0_sendOut_90 ?_
        refine r_putI E fd_X0_194 rfl (PI_z isB_1) hbe14 (adr_lt hbe14) rfl dX0_sendOut_91 ?_
        refine GG_toph fun h15 hh15 => ?_
        have hw := hw h15 hh15
        exact hE _ _ _ _ _ (Nat.le_of_ble_eq_true rfl) (Nat.le_of_ble_eq_true rfl) dX0_sendOut_94 hw
set_option maxRecDepth 20000 in
theorem t_X0_changeFlags_b24 {X : Ctx} (h : Hp) (x1 : Int32) (s1 : Int32)  (E : EE X cX0_changeFlags RX0 2 1 24 0 0) {Q : Hp → Prop} (hE : ENDv X cX0_changeFlags Q NT 0 0)  (hw : wp_X0_changeFlags_b24 x1 s1 h  Q) : GG X 0 0 NT h [some (rf X 0 0), some (.int x1)] 24 [.int s1, rf X 0 0] := by
  unfold wp_X0_changeFlags_b24 at hw
  obtain ⟨z1, hw⟩ := hw
  refine r_putI E fd_X0_50 rfl (PI_z z1) (Nat.le_of_ble_eq_true rfl) (adr_lt (Nat.le_of_ble_eq_true rfl)) rfl dX0_changeFlags_24 ?_
  refine GG_toph fun h2 hh2 => ?_
  have hw := hw h2 hh2
  refine r_aload_n E 0 0 rfl dX0_changeFlags_27 ?_
  obtain ⟨e3, hve3, hbe3, hw⟩ := hw
  refine r_getR E fd_X0_30 (t := e3) (j1 := 5) rfl hve3 rfl (Nat.le_of_ble_eq_true rfl) (adr_lt (Nat.le_of_ble_eq_true rfl)) dX0_changeFlags_28 ?_
  refine r_iload_n E x1 rfl dX0_changeFlags_31 ?_
  refine r_putI E fd_X0_101 rfl PI_int hbe3 (adr_lt hbe3) rfl dX0_changeFlags_32 ?_
  refine GG_toph fun h4 hh4 => ?_
  have hw := hw h4 hh4
  exact hE _ _ _ _ _ (Nat.le_of_ble_eq_true rfl) (Nat.le_of_ble_eq_true rfl) dX0_changeFlags_35 hw
set_option maxRecDepth 20000 in
theorem t_X0_changeFlags_b19 {X : Ctx} (h : Hp) (x1 : Int32)  (E : EE X cX0_changeFlags RX0 2 1 24 0 0) {Q : Hp → Prop} (hE : ENDv X cX0_changeFlags Q NT 0 0)  (hw : wp_X0_changeFlags_b19 x1 h  Q) : GG X 0 0 NT h [some (rf X 0 0), some (.int x1)] 19 [rf X 0 0] := by
  unfold wp_X0_changeFlags_b19 at hw
  refine r_iconst E 1 rfl dX0_changeFlags_19 ?_
  refine r_goto E 24 (by decide) dX0_changeFlags_20 ?_
  exact GG_weak [true, true] rfl (t_X0_changeFlags_b24 h x1 1 E hE  hw)
set_option maxRecDepth 20000 in
theorem m_X0_changeFlags {l : Launch} (hl : l.stackTraces = false) (G : Gq) (p0 : Int32)  (h : Hp) (Q : Hp → Prop) (hw : wp_X0_changeFlags p0 h Q) : MV l G yX0_changeFlags cX0_changeFlags 2 none rm_X0_changeFlags NT NT h (fun r => [r 0 0, .int p0]) Q := by
  refine MV_of (L0 := (fun X => [some (rf X 0 0), some (.int p0)])) hl (by decide +kernel) rfl (fun _ => Nat.le_of_ble_eq_true rfl) (fun _ => rfl) fun X hXl hXG E hE => ?_
  subst hXl; subst hXG
  unfold wp_X0_changeFlags at hw
  refine r_aload_n E 0 0 rfl dX0_changeFlags_0 ?_
  refine r_aload_n E 0 0 rfl dX0_changeFlags_1 ?_
  refine r_getI E fd_X0_50 rfl (Nat.le_of_ble_eq_true rfl) (adr_lt (Nat.le_of_ble_eq_true rfl)) dX0_changeFlags_2 ?_
  refine r_if_ne E 19 (by decide) dX0_changeFlags_5 (fun c1 => ?_) (fun c1 => ?_)
  · have hw := ite_t hw c1
    refine r_iload_n E p0 rfl dX0_changeFlags_8 ?_
    refine r_aload_n E 0 0 rfl dX0_changeFlags_9 ?_
    obtain ⟨e2, hve2, hbe2, hw⟩ := hw
    refine r_getR E fd_X0_30 (t := e2) (j1 := 5) rfl hve2 rfl (Nat.le_of_ble_eq_true rfl) (adr_lt (Nat.le_of_ble_eq_true rfl)) dX0_changeFlags_10 ?_
    refine r_getI E fd_X0_101 rfl hbe2 (adr_lt hbe2) dX0_changeFlags_13 ?_
    refine r_icmp_eq E 23 (by decide) dX0_changeFlags_16 (fun c3 => ?_) (fun c3 => ?_)
    · have hw := ite_t hw c3
      refine r_iconst E 0 rfl dX0_changeFlags_23 ?_
      exact GG_weak [true, true] rfl (t_X0_changeFlags_b24 h p0 0 E hE  hw)
    · have hw := ite_f hw c3
      exact GG_weak [true, true] rfl (t_X0_changeFlags_b19 h p0 E hE  hw)
  · have hw := ite_f hw c1
    exact GG_weak [true, true] rfl (t_X0_changeFlags_b19 h p0 E hE  hw)
set_option maxRecDepth 20000 in
theorem m_X5_isPlaced {l : Launch} (hl : l.stackTraces = false) (G : Gq) (o0 : Nat) (ho0 : o0 < 3) (h : Hp) (Q : Int32 → Prop) (hw : wp_X5_isPlaced o0 h Q) : MI l G yX5_isPlaced cX5_isPlaced 1 (some .boolean) rm_X5_isPlaced NT NT h (fun r => [r 5 o0]) (fun r u => h = u ∧ isB r ∧ Q r) := by
  refine MI_of (L0 := (fun X => [some (rf X 5 o0)])) hl (by decide +kernel) rfl (fun _ => Nat.le_of_ble_eq_true rfl) (fun _ => rfl) fun X hXl hXG E hE => ?_
  subst hXl; subst hXG
  unfold wp_X5_isPlaced at hw
  refine r_aload_n E 5 o0 rfl dX5_isPlaced_0 ?_
  refine r_getI E fd_X5_18 rfl ho0 (adr_lt ho0) dX5_isPlaced_1 ?_
  refine r_iconst E (-1) rfl dX5_isPlaced_4 ?_
  refine r_icmp_eq E 12 (by decide) dX5_isPlaced_5 (fun c1 => ?_) (fun c1 => ?_)
  · have hw := ite_t hw c1
    refine r_iconst E 0 rfl dX5_isPlaced_12 ?_
    exact hE _ _ _ _ _ _ (Nat.le_of_ble_eq_true rfl) (Nat.le_of_ble_eq_true rfl) dX5_isPlaced_13 (isB_nar isB_0) ⟨rfl, isB_0, hw⟩
  · have hw := ite_f hw c1
    refine r_iconst E 1 rfl dX5_isPlaced_8 ?_
    refine r_goto E 13 (by decide) dX5_isPlaced_9 ?_
    exact hE _ _ _ _ _ _ (Nat.le_of_ble_eq_true rfl) (Nat.le_of_ble_eq_true rfl) dX5_isPlaced_13 (isB_nar isB_1) ⟨rfl, isB_1, hw⟩
set_option maxRecDepth 20000 in
theorem m_X0_isClash {l : Launch} (hl : l.stackTraces = false) (G : Gq) (p0 : Int32)  (h : Hp) (Q : Int32 → Prop) (hw : wp_X0_isClash p0 h Q) : MI l G yX0_isClash cX0_isClash 2 (some .boolean) rm_X0_isClash NT NT h (fun r => [r 0 0, .int p0]) (fun r u => h = u ∧ isB r ∧ Q r) := by
  refine MI_of (L0 := (fun X => [some (rf X 0 0), some (.int p0)])) hl (by decide +kernel) rfl (fun _ => Nat.le_of_ble_eq_true rfl) (fun _ => rfl) fun X hXl hXG E hE => ?_
  subst hXl; subst hXG
  unfold wp_X0_isClash at hw
  refine r_iload_n E p0 rfl dX0_isClash_0 ?_
  rcases Decidable.em (p0 = 99) with c1 | c1
  · have hw := ite_t hw c1
    refine r_tableI E 99 c1 (off := 134) 135 dX0_isClash_1 (by decide) (by decide) rfl (by decide) ?_
    refine r_aload_n E 0 0 rfl dX0_isClash_135 ?_
    obtain ⟨e2, hve2, hbe2, hw⟩ := hw
    refine r_getR E fd_X0_30 (t := e2) (j1 := 5) rfl hve2 rfl (Nat.le_of_ble_eq_true rfl) (adr_lt (Nat.le_of_ble_eq_true rfl)) dX0_isClash_136 ?_
    refine r_getI E fd_X0_72 rfl hbe2 (adr_lt hbe2) dX0_isClash_139 ?_
    refine r_bipush E 9 rfl dX0_isClash_142 ?_
    refine r_icmp_ne E 151 (by decide) dX0_isClash_144 (fun c3 => ?_) (fun c3 => ?_)
    · have hw := ite_t hw c3
      refine r_iconst E 1 rfl dX0_isClash_147 ?_
      refine r_goto E 152 (by decide) dX0_isClash_148 ?_
      exact hE _ _ _ _ _ _ (Nat.le_of_ble_eq_true rfl) (Nat.le_of_ble_eq_true rfl) dX0_isClash_152 (isB_nar isB_1) ⟨rfl, isB_1, hw⟩
    · have hw := ite_f hw c3
      refine r_iconst E 0 rfl dX0_isClash_151 ?_
      exact hE _ _ _ _ _ _ (Nat.le_of_ble_eq_true rfl) (Nat.le_of_ble_eq_true rfl) dX0_isClash_152 (isB_nar isB_0) ⟨rfl, isB_0, hw⟩
  · have hw := ite_f hw c1
    rcases Decidable.em (p0 = 107) with c4 | c4
    · have hw := ite_t hw c4
      refine r_tableI E 107 c4 (off := 103) 104 dX0_isClash_1 (by decide) (by decide) rfl (by decide) ?_
      refine r_aload_n E 0 0 rfl dX0_isClash_104 ?_
      obtain ⟨e5, hve5, hbe5, hw⟩ := hw
      refine r_getR E fd_X0_30 (t := e5) (j1 := 5) rfl hve5 rfl (Nat.le_of_ble_eq_true rfl) (adr_lt (Nat.le_of_ble_eq_true rfl)) dX0_isClash_105 ?_
      refine r_callVI E (m_X5_isPlaced (EE_st E) (GX X) e5 hbe5 h _ hw) lk_X0_68 (RM_mk (Nat.le_of_ble_eq_true rfl) (Nat.le_of_ble_eq_true rfl)) rfl rfl rfl rfl hbe5 (adr_lt hbe5) (Nat.le_of_ble_eq_true rfl) rfl rfl (Nat.le_of_ble_eq_true rfl) (Nat.le_of_ble_eq_true rfl) dX0_isClash_108 (fun r6 u9 hw => ?_)
      obtain ⟨rfl, zr6, hw⟩ := hw
      exact hE _ _ _ _ _ _ (Nat.le_of_ble_eq_true rfl) (Nat.le_of_ble_eq_true rfl) dX0_isClash_111 (isB_nar zr6) ⟨rfl, zr6, hw⟩
    · have hw := ite_f hw c4
      rcases Decidable.em (p0 = 109) with c7 | c7
      · have hw := ite_t hw c7
        refine r_tableI E 109 c7 (off := 103) 104 dX0_isClash_1 (by decide) (by decide) rfl (by decide) ?_
        refine r_aload_n E 0 0 rfl dX0_isClash_104 ?_
        obtain ⟨e8, hve8, hbe8, hw⟩ := hw
        refine r_getR E fd_X0_30 (t := e8) (j1 := 5) rfl hve8 rfl (Nat.le_of_ble_eq_true rfl) (adr_lt (Nat.le_of_ble_eq_true rfl)) dX0_isClash_105 ?_
        refine r_callVI E (m_X5_isPlaced (EE_st E) (GX X) e8 hbe8 h _ hw) lk_X0_68 (RM_mk (Nat.le_of_ble_eq_true rfl) (Nat.le_of_ble_eq_true rfl)) rfl rfl rfl rfl hbe8 (adr_lt hbe8) (Nat.le_of_ble_eq_true rfl) rfl rfl (Nat.le_of_ble_eq_true rfl) (Nat.le_of_ble_eq_true rfl) dX0_isClash_108 (fun r9 u9 hw => ?_)
        obtain ⟨rfl, zr9, hw⟩ := hw
        exact hE _ _ _ _ _ _ (Nat.le_of_ble_eq_true rfl) (Nat.le_of_ble_eq_true rfl) dX0_isClash_111 (isB_nar zr9) ⟨rfl, zr9, hw⟩
      · have hw := ite_f hw c7
        rcases Decidable.em (p0 = 114) with c10 | c10
        · have hw := ite_t hw c10
          refine r_tableI E 114 c10 (off := 111) 112 dX0_isClash_1 (by decide) (by decide) rfl (by decide) ?_
          refine r_aload_n E 0 0 rfl dX0_isClash_112 ?_
          obtain ⟨e11, hve11, hbe11, hw⟩ := hw
          refine r_getR E fd_X0_30 (t := e11) (j1 := 5) rfl hve11 rfl (Nat.le_of_ble_eq_true rfl) (adr_lt (Nat.le_of_ble_eq_true rfl)) dX0_isClash_113 ?_
          refine r_callVI E (m_X5_isPlaced (EE_st E) (GX X) e11 hbe11 h _ hw) lk_X0_68 (RM_mk (Nat.le_of_ble_eq_true rfl) (Nat.le_of_ble_eq_true rfl)) rfl rfl rfl rfl hbe11 (adr_lt hbe11) (Nat.le_of_ble_eq_true rfl) rfl rfl (Nat.le_of_ble_eq_true rfl) (Nat.le_of_ble_eq_true rfl) dX0_isClash_116 (fun r12 u9 hw => ?_)
          obtain ⟨rfl, zr12, hw⟩ := hw
          refine r_if_ne E 129 (by decide) dX0_isClash_119 (fun c13 => ?_) (fun c13 => ?_)
          · have hw := ite_t hw c13
            refine r_aload_n E 0 0 rfl dX0_isClash_122 ?_
            refine r_getI E fd_X0_54 rfl (Nat.le_of_ble_eq_true rfl) (adr_lt (Nat.le_of_ble_eq_true rfl)) dX0_isClash_123 ?_
            refine r_if_eq E 133 (by decide) dX0_isClash_126 (fun c14 => ?_) (fun c14 => ?_)
            · have hw := ite_t hw c14
              refine r_iconst E 0 rfl dX0_isClash_133 ?_
              exact hE _ _ _ _ _ _ (Nat.le_of_ble_eq_true rfl) (Nat.le_of_ble_eq_true rfl) dX0_isClash_134 (isB_nar isB_0) ⟨rfl, isB_0, hw⟩
            · have hw := ite_f hw c14
              refine r_iconst E 1 rfl dX0_isClash_129 ?_
              refine r_goto E 134 (by decide) dX0_isClash_130 ?_
              exact hE _ _ _ _ _ _ (Nat.le_of_ble_eq_true rfl) (Nat.le_of_ble_eq_true rfl) dX0_isClash_134 (isB_nar isB_1) ⟨rfl, isB_1, hw⟩
          · have hw := ite_f hw c13
            refine r_iconst E 1 rfl dX0_isClash_129 ?_
            refine r_goto E 134 (by decide) dX0_isClash_130 ?_
            exact hE _ _ _ _ _ _ (Nat.le_of_ble_eq_true rfl) (Nat.le_of_ble_eq_true rfl) dX0_isClash_134 (isB_nar isB_1) ⟨rfl, isB_1, hw⟩
        · have hw := ite_f hw c10
          rcases Decidable.em (p0 = 118) with c15 | c15
          · have hw := ite_t hw c15
            refine r_tableI E 118 c15 (off := 134) 135 dX0_isClash_1 (by decide) (by decide) rfl (by decide) ?_
            refine r_aload_n E 0 0 rfl dX0_isClash_135 ?_
            obtain ⟨e16, hve16, hbe16, hw⟩ := hw
            refine r_getR E fd_X0_30 (t := e16) (j1 := 5) rfl hve16 rfl (Nat.le_of_ble_eq_true rfl) (adr_lt (Nat.le_of_ble_eq_true rfl)) dX0_isClash_136 ?_
            refine r_getI E fd_X0_72 rfl hbe16 (adr_lt hbe16) dX0_isClash_139 ?_
            refine r_bipush E 9 rfl dX0_isClash_142 ?_
            refine r_icmp_ne E 151 (by decide) dX0_isClash_144 (fun c17 => ?_) (fun c17 => ?_)
            · have hw := ite_t hw c17
              refine r_iconst E 1 rfl dX0_isClash_147 ?_
              refine r_goto E 152 (by decide) dX0_isClash_148 ?_
              exact hE _ _ _ _ _ _ (Nat.le_of_ble_eq_true rfl) (Nat.le_of_ble_eq_true rfl) dX0_isClash_152 (isB_nar isB_1) ⟨rfl, isB_1, hw⟩
            · have hw := ite_f hw c17
              refine r_iconst E 0 rfl dX0_isClash_151 ?_
              exact hE _ _ _ _ _ _ (Nat.le_of_ble_eq_true rfl) (Nat.le_of_ble_eq_true rfl) dX0_isClash_152 (isB_nar isB_0) ⟨rfl, isB_0, hw⟩
          · have hw := ite_f hw c15
            rcases Decidable.em (p0 = 119) with c18 | c18
            · have hw := ite_t hw c18
              refine r_tableI E 119 c18 (off := 134) 135 dX0_isClash_1 (by decide) (by decide) rfl (by decide) ?_
              refine r_aload_n E 0 0 rfl dX0_isClash_135 ?_
              obtain ⟨e19, hve19, hbe19, hw⟩ := hw
              refine r_getR E fd_X0_30 (t := e19) (j1 := 5) rfl hve19 rfl (Nat.le_of_ble_eq_true rfl) (adr_lt (Nat.le_of_ble_eq_true rfl)) dX0_isClash_136 ?_
              refine r_getI E fd_X0_72 rfl hbe19 (adr_lt hbe19) dX0_isClash_139 ?_
              refine r_bipush E 9 rfl dX0_isClash_142 ?_
              refine r_icmp_ne E 151 (by decide) dX0_isClash_144 (fun c20 => ?_) (fun c20 => ?_)
              · have hw := ite_t hw c20
                refine r_iconst E 1 rfl dX0_isClash_147 ?_
                refine r_goto E 152 (by decide) dX0_isClash_148 ?_
                exact hE _ _ _ _ _ _ (Nat.le_of_ble_eq_true rfl) (Nat.le_of_ble_eq_true rfl) dX0_isClash_152 (isB_nar isB_1) ⟨rfl, isB_1, hw⟩
              · have hw := ite_f hw c20
                refine r_iconst E 0 rfl dX0_isClash_151 ?_
                exact hE _ _ _ _ _ _ (Nat.le_of_ble_eq_true rfl) (Nat.le_of_ble_eq_true rfl) dX0_isClash_152 (isB_nar isB_0) ⟨rfl, isB_0, hw⟩
            · have hw := ite_f hw c18
              rcases Decidable.em (p0 = 120) with c21 | c21
              · have hw := ite_t hw c21
                refine r_tableI E 120 c21 (off := 103) 104 dX0_isClash_1 (by decide) (by decide) rfl (by decide) ?_
                refine r_aload_n E 0 0 rfl dX0_isClash_104 ?_
                obtain ⟨e22, hve22, hbe22, hw⟩ := hw
                refine r_getR E fd_X0_30 (t := e22) (j1 := 5) rfl hve22 rfl (Nat.le_of_ble_eq_true rfl) (adr_lt (Nat.le_of_ble_eq_true rfl)) dX0_isClash_105 ?_
                refine r_callVI E (m_X5_isPlaced (EE_st E) (GX X) e22 hbe22 h _ hw) lk_X0_68 (RM_mk (Nat.le_of_ble_eq_true rfl) (Nat.le_of_ble_eq_true rfl)) rfl rfl rfl rfl hbe22 (adr_lt hbe22) (Nat.le_of_ble_eq_true rfl) rfl rfl (Nat.le_of_ble_eq_true rfl) (Nat.le_of_ble_eq_true rfl) dX0_isClash_108 (fun r23 u9 hw => ?_)
                obtain ⟨rfl, zr23, hw⟩ := hw
                exact hE _ _ _ _ _ _ (Nat.le_of_ble_eq_true rfl) (Nat.le_of_ble_eq_true rfl) dX0_isClash_111 (isB_nar zr23) ⟨rfl, zr23, hw⟩
              · have hw := ite_f hw c21
                have key : GG X 0 0 NT h [some (rf X 0 0), some (.int p0)] 153 ([]) := by
                  refine r_iconst E 0 rfl dX0_isClash_153 ?_
                  exact hE _ _ _ _ _ _ (Nat.le_of_ble_eq_true rfl) (Nat.le_of_ble_eq_true rfl) dX0_isClash_154 (isB_nar isB_0) ⟨rfl, isB_0, hw⟩
                rcases Decidable.em (p0.toInt < 99 ∨ 120 < p0.toInt) with cz | cz
                · exact r_tableO E 153 dX0_isClash_1 cz (by decide) key
                · have hh : p0 = 100 ∨ p0 = 101 ∨ p0 = 102 ∨ p0 = 103 ∨ p0 = 104 ∨ p0 = 105 ∨ p0 = 106 ∨ p0 = 108 ∨ p0 = 110 ∨ p0 = 111 ∨ p0 = 112 ∨ p0 = 113 ∨ p0 = 115 ∨ p0 = 116 ∨ p0 = 117 := by
                    have ec1 := lv_neT c1 (a := 99) rfl
                    have ec4 := lv_neT c4 (a := 107) rfl
                    have ec7 := lv_neT c7 (a := 109) rfl
                    have ec10 := lv_neT c10 (a := 114) rfl
                    have ec15 := lv_neT c15 (a := 118) rfl
                    have ec18 := lv_neT c18 (a := 119) rfl
                    have ec21 := lv_neT c21 (a := 120) rfl
                    have hz : p0.toInt = 100 ∨ p0.toInt = 101 ∨ p0.toInt = 102 ∨ p0.toInt = 103 ∨ p0.toInt = 104 ∨ p0.toInt = 105 ∨ p0.toInt = 106 ∨ p0.toInt = 108 ∨ p0.toInt = 110 ∨ p0.toInt = 111 ∨ p0.toInt = 112 ∨ p0.toInt = 113 ∨ p0.toInt = 115 ∨ p0.toInt = 116 ∨ p0.toInt = 117 := by omega
                    rcases hz with hz | hz | hz | hz | hz | hz | hz | hz | hz | hz | hz | hz | hz | hz | hz
                    · exact Or.inl (Int32.toInt_inj.mp (hz.trans (rfl : (100 : Int) = (100 : Int32).toInt)))
                    · exact Or.inr (Or.inl (Int32.toInt_inj.mp (hz.trans (rfl : (101 : Int) = (101 : Int32).toInt))))
                    · exact Or.inr (Or.inr (Or.inl (Int32.toInt_inj.mp (hz.trans (rfl : (102 : Int) = (102 : Int32).toInt)))))
                    · exact Or.inr (Or.inr (Or.inr (Or.inl (Int32.toInt_inj.mp (hz.trans (rfl : (103 : Int) = (103 : Int32).toInt))))))
                    · exact Or.inr (Or.inr (Or.inr (Or.inr (Or.inl (Int32.toInt_inj.mp (hz.trans (rfl : (104 : Int) = (104 : Int32).toInt)))))))
                    · exact Or.inr (Or.inr (Or.inr (Or.inr (Or.inr (Or.inl (Int32.toInt_inj.mp (hz.trans (rfl : (105 : Int) = (105 : Int32).toInt))))))))
                    · exact Or.inr (Or.inr (Or.inr (Or.inr (Or.inr (Or.inr (Or.inl (Int32.toInt_inj.mp (hz.trans (rfl : (106 : Int) = (106 : Int32).toInt)))))))))
                    · exact Or.inr (Or.inr (Or.inr (Or.inr (Or.inr (Or.inr (Or.inr (Or.inl (Int32.toInt_inj.mp (hz.trans (rfl : (108 : Int) = (108 : Int32).toInt))))))))))
                    · exact Or.inr (Or.inr (Or.inr (Or.inr (Or.inr (Or.inr (Or.inr (Or.inr (Or.inl (Int32.toInt_inj.mp (hz.trans (rfl : (110 : Int) = (110 : Int32).toInt)))))))))))
                    · exact Or.inr (Or.inr (Or.inr (Or.inr (Or.inr (Or.inr (Or.inr (Or.inr (Or.inr (Or.inl (Int32.toInt_inj.mp (hz.trans (rfl : (111 : Int) = (111 : Int32).toInt))))))))))))
                    · exact Or.inr (Or.inr (Or.inr (Or.inr (Or.inr (Or.inr (Or.inr (Or.inr (Or.inr (Or.inr (Or.inl (Int32.toInt_inj.mp (hz.trans (rfl : (112 : Int) = (112 : Int32).toInt)))))))))))))
                    · exact Or.inr (Or.inr (Or.inr (Or.inr (Or.inr (Or.inr (Or.inr (Or.inr (Or.inr (Or.inr (Or.inr (Or.inl (Int32.toInt_inj.mp (hz.trans (rfl : (113 : Int) = (113 : Int32).toInt))))))))))))))
                    · exact Or.inr (Or.inr (Or.inr (Or.inr (Or.inr (Or.inr (Or.inr (Or.inr (Or.inr (Or.inr (Or.inr (Or.inr (Or.inl (Int32.toInt_inj.mp (hz.trans (rfl : (115 : Int) = (115 : Int32).toInt)))))))))))))))
                    · exact Or.inr (Or.inr (Or.inr (Or.inr (Or.inr (Or.inr (Or.inr (Or.inr (Or.inr (Or.inr (Or.inr (Or.inr (Or.inr (Or.inl (Int32.toInt_inj.mp (hz.trans (rfl : (116 : Int) = (116 : Int32).toInt))))))))))))))))
                    · exact Or.inr (Or.inr (Or.inr (Or.inr (Or.inr (Or.inr (Or.inr (Or.inr (Or.inr (Or.inr (Or.inr (Or.inr (Or.inr (Or.inr (Int32.toInt_inj.mp (hz.trans (rfl : (117 : Int) = (117 : Int32).toInt))))))))))))))))
                  rcases hh with hh | hh | hh | hh | hh | hh | hh | hh | hh | hh | hh | hh | hh | hh | hh
                  · exact r_tableI E 100 hh (off := 152) 153 dX0_isClash_1 (by decide) (by decide) rfl (by decide) key
                  · exact r_tableI E 101 hh (off := 152) 153 dX0_isClash_1 (by decide) (by decide) rfl (by decide) key
                  · exact r_tableI E 102 hh (off := 152) 153 dX0_isClash_1 (by decide) (by decide) rfl (by decide) key
                  · exact r_tableI E 103 hh (off := 152) 153 dX0_isClash_1 (by decide) (by decide) rfl (by decide) key
                  · exact r_tableI E 104 hh (off := 152) 153 dX0_isClash_1 (by decide) (by decide) rfl (by decide) key
                  · exact r_tableI E 105 hh (off := 152) 153 dX0_isClash_1 (by decide) (by decide) rfl (by decide) key
                  · exact r_tableI E 106 hh (off := 152) 153 dX0_isClash_1 (by decide) (by decide) rfl (by decide) key
                  · exact r_tableI E 108 hh (off := 152) 153 dX0_isClash_1 (by decide) (by decide) rfl (by decide) key
                  · exact r_tableI E 110 hh (off := 152) 153 dX0_isClash_1 (by decide) (by decide) rfl (by decide) key
                  · exact r_tableI E 111 hh (off := 152) 153 dX0_isClash_1 (by decide) (by decide) rfl (by decide) key
                  · exact r_tableI E 112 hh (off := 152) 153 dX0_isClash_1 (by decide) (by decide) rfl (by decide) key
                  · exact r_tableI E 113 hh (off := 152) 153 dX0_isClash_1 (by decide) (by decide) rfl (by decide) key
                  · exact r_tableI E 115 hh (off := 152) 153 dX0_isClash_1 (by decide) (by decide) rfl (by decide) key
                  · exact r_tableI E 116 hh (off := 152) 153 dX0_isClash_1 (by decide) (by decide) rfl (by decide) key
                  · exact r_tableI E 117 hh (off := 152) 153 dX0_isClash_1 (by decide) (by decide) rfl (by decide) key
set_option maxRecDepth 20000 in
theorem m_X10_hasBit {l : Launch} (hl : l.stackTraces = false) (G : Gq) (p0 : Int32) (p1 : Int32)  (h : Hp) (Q : Int32 → Prop) (hw : wp_X10_hasBit p0 p1 h Q) : MI l G yX10_hasBit cX10_hasBit 2 (some .boolean) rm_X10_hasBit NT NT h (fun r => [.int p0, .int p1]) (fun r u => h = u ∧ isB r ∧ Q r) := by
  refine MI_of (L0 := (fun X => [some (.int p0), some (.int p1)])) hl (by decide +kernel) rfl (fun _ => Nat.le_of_ble_eq_true rfl) (fun _ => rfl) fun X hXl hXG E hE => ?_
  subst hXl; subst hXG
  unfold wp_X10_hasBit at hw
  refine r_iload_n E p0 rfl dX10_hasBit_0 ?_
  refine r_iload_n E p1 rfl dX10_hasBit_1 ?_
  refine r_ishr E dX10_hasBit_2 ?_
  refine r_iconst E 1 rfl dX10_hasBit_3 ?_
  refine r_iand E dX10_hasBit_4 ?_
  refine r_if_eq E 12 (by decide) dX10_hasBit_5 (fun c1 => ?_) (fun c1 => ?_)
  · have hw := ite_t hw c1
    refine r_iconst E 0 rfl dX10_hasBit_12 ?_
    exact hE _ _ _ _ _ _ (Nat.le_of_ble_eq_true rfl) (Nat.le_of_ble_eq_true rfl) dX10_hasBit_13 (isB_nar isB_0) ⟨rfl, isB_0, hw⟩
  · have hw := ite_f hw c1
    refine r_iconst E 1 rfl dX10_hasBit_8 ?_
    refine r_goto E 13 (by decide) dX10_hasBit_9 ?_
    exact hE _ _ _ _ _ _ (Nat.le_of_ble_eq_true rfl) (Nat.le_of_ble_eq_true rfl) dX10_hasBit_13 (isB_nar isB_1) ⟨rfl, isB_1, hw⟩
set_option maxRecDepth 20000 in
theorem t_X0_isFault_b80 {X : Ctx} (h : Hp) (x1 : Int32) (x2 : Int32)  (E : EE X cX0_isFault RX0 4 2 45 0 0) {Q : Int32 → Hp → Prop} (hE : ENDi X cX0_isFault .boolean (fun r u => isB r ∧ Q r u) NT 0 0)  (hw : wp_X0_isFault_b80 x1 x2 h  Q) : GG X 0 0 NT h [some (rf X 0 0), some (.int x1), some (.int x2), none] 80 [] := by
  unfold wp_X0_isFault_b80 at hw
  refine r_iload_n E x1 rfl dX0_isFault_80 ?_
  refine r_bipush E 99 rfl dX0_isFault_81 ?_
  refine r_icmp_ne E 109 (by decide) dX0_isFault_83 (fun c1 => ?_) (fun c1 => ?_)
  · have hw := ite_t hw c1
    refine r_aload_n E 0 0 rfl dX0_isFault_86 ?_
    refine r_iload_n E x2 rfl dX0_isFault_87 ?_
    refine r_callVI E (m_X0_isTooMuch (EE_st E) (GX X) x2 h _ hw) lk_X0_165 (RM_mk (Nat.le_of_ble_eq_true rfl) (Nat.le_of_ble_eq_true rfl)) rfl rfl rfl rfl (Nat.le_of_ble_eq_true rfl) (adr_lt (Nat.le_of_ble_eq_true rfl)) (Nat.le_of_ble_eq_true rfl) rfl rfl (Nat.le_of_ble_eq_true rfl) (Nat.le_of_ble_eq_true rfl) dX0_isFault_88 (fun r2 u9 hw => ?_)
    obtain ⟨rfl, zr2, hw⟩ := hw
    refine r_if_eq E 109 (by decide) dX0_isFault_91 (fun c3 => ?_) (fun c3 => ?_)
    · have hw := ite_t hw c3
      refine r_iconst E 0 rfl dX0_isFault_109 ?_
      exact hE _ _ _ _ _ _ (Nat.le_of_ble_eq_true rfl) (Nat.le_of_ble_eq_true rfl) dX0_isFault_110 (isB_nar isB_0) ⟨isB_0, hw⟩
    · have hw := ite_f hw c3
      refine r_aload_n E 0 0 rfl dX0_isFault_94 ?_
      obtain ⟨e4, hve4, hbe4, hw⟩ := hw
      refine r_getR E fd_X0_30 (t := e4) (j1 := 5) rfl hve4 rfl (Nat.le_of_ble_eq_true rfl) (adr_lt (Nat.le_of_ble_eq_true rfl)) dX0_isFault_95 ?_
      refine r_dup E rfl dX0_isFault_98 ?_
      refine r_getI E fd_X0_168 rfl hbe4 (adr_lt hbe4) dX0_isFault_99 ?_
      refine r_iconst E 1 rfl dX0_isFault_102 ?_
      refine r_iadd E dX0_isFault_103 ?_
      refine r_putI E fd_X0_168 rfl PI_int hbe4 (adr_lt hbe4) rfl dX0_isFault_104 ?_
      refine GG_toph fun h5 hh5 => ?_
      have hw := hw h5 hh5
      refine r_iconst E 1 rfl dX0_isFault_107 ?_
      exact hE _ _ _ _ _ _ (Nat.le_of_ble_eq_true rfl) (Nat.le_of_ble_eq_true rfl) dX0_isFault_108 (isB_nar isB_1) ⟨isB_1, hw⟩
  · have hw := ite_f hw c1
    refine r_iconst E 0 rfl dX0_isFault_109 ?_
    exact hE _ _ _ _ _ _ (Nat.le_of_ble_eq_true rfl) (Nat.le_of_ble_eq_true rfl) dX0_isFault_110 (isB_nar isB_0) ⟨isB_0, hw⟩
set_option maxRecDepth 20000 in
theorem t_X0_isFault_b65 {X : Ctx} (h : Hp)   (E : EE X cX0_isFault RX0 4 2 45 0 0) {Q : Int32 → Hp → Prop} (hE : ENDi X cX0_isFault .boolean (fun r u => isB r ∧ Q r u) NT 0 0)  (hw : wp_X0_isFault_b65  h  Q) : GG X 0 0 NT h [some (rf X 0 0), none, none, none] 65 [] := by
  unfold wp_X0_isFault_b65 at hw
  refine r_aload_n E 0 0 rfl dX0_isFault_65 ?_
  obtain ⟨e1, hve1, hbe1, hw⟩ := hw
  refine r_getR E fd_X0_30 (t := e1) (j1 := 5) rfl hve1 rfl (Nat.le_of_ble_eq_true rfl) (adr_lt (Nat.le_of_ble_eq_true rfl)) dX0_isFault_66 ?_
  refine r_dup E rfl dX0_isFault_69 ?_
  refine r_getI E fd_X0_162 rfl hbe1 (adr_lt hbe1) dX0_isFault_70 ?_
  refine r_iconst E 1 rfl dX0_isFault_73 ?_
  refine r_iadd E dX0_isFault_74 ?_
  refine r_putI E fd_X0_162 rfl PI_int hbe1 (adr_lt hbe1) rfl dX0_isFault_75 ?_
  refine GG_toph fun h2 hh2 => ?_
  have hw := hw h2 hh2
  refine r_iconst E 1 rfl dX0_isFault_78 ?_
  exact hE _ _ _ _ _ _ (Nat.le_of_ble_eq_true rfl) (Nat.le_of_ble_eq_true rfl) dX0_isFault_79 (isB_nar isB_1) ⟨isB_1, hw⟩
set_option maxRecDepth 20000 in
theorem t_X0_isFault_b26 {X : Ctx} (h : Hp) (x1 : Int32) (x2 : Int32)  (E : EE X cX0_isFault RX0 4 2 45 0 0) {Q : Int32 → Hp → Prop} (hE : ENDi X cX0_isFault .boolean (fun r u => isB r ∧ Q r u) NT 0 0)  (hw : wp_X0_isFault_b26 x1 x2 h  Q) : GG X 0 0 NT h [some (rf X 0 0), some (.int x1), some (.int x2), none] 26 [] := by
  unfold wp_X0_isFault_b26 at hw
  refine r_iload_n E x1 rfl dX0_isFault_26 ?_
  refine r_bipush E 119 rfl dX0_isFault_27 ?_
  refine r_icmp_ne E 80 (by decide) dX0_isFault_29 (fun c1 => ?_) (fun c1 => ?_)
  · have hw := ite_t hw c1
    refine r_iload_n E x2 rfl dX0_isFault_32 ?_
    refine r_aload_n E 0 0 rfl dX0_isFault_33 ?_
    obtain ⟨e2, hve2, hbe2, hw⟩ := hw
    refine r_getR E fd_X0_37 (t := e2) (j1 := 2) rfl hve2 rfl (Nat.le_of_ble_eq_true rfl) (adr_lt (Nat.le_of_ble_eq_true rfl)) dX0_isFault_34 ?_
    refine r_getI E fd_X0_150 rfl hbe2 (adr_lt hbe2) dX0_isFault_37 ?_
    refine r_icmp_eq E 65 (by decide) dX0_isFault_40 (fun c3 => ?_) (fun c3 => ?_)
    · have hw := ite_t hw c3
      exact GG_weak [true, false, false, false] rfl (t_X0_isFault_b65 h  E hE  hw)
    · have hw := ite_f hw c3
      refine r_aload_n E 0 0 rfl dX0_isFault_43 ?_
      obtain ⟨e4, hve4, hbe4, hw⟩ := hw
      refine r_getR E fd_X0_37 (t := e4) (j1 := 2) rfl hve4 rfl (Nat.le_of_ble_eq_true rfl) (adr_lt (Nat.le_of_ble_eq_true rfl)) dX0_isFault_44 ?_
      refine r_getI E fd_X0_153 rfl hbe4 (adr_lt hbe4) dX0_isFault_47 ?_
      refine r_aload_n E 0 0 rfl dX0_isFault_50 ?_
      obtain ⟨e5, hve5, hbe5, hw⟩ := hw
      refine r_getR E fd_X0_30 (t := e5) (j1 := 5) rfl hve5 rfl (Nat.le_of_ble_eq_true rfl) (adr_lt (Nat.le_of_ble_eq_true rfl)) dX0_isFault_51 ?_
      refine r_getI E fd_X0_156 rfl hbe5 (adr_lt hbe5) dX0_isFault_54 ?_
      refine r_ior E dX0_isFault_57 ?_
      refine r_iload_n E x2 rfl dX0_isFault_58 ?_
      refine r_callSNI E (m_X10_hasBit (EE_st E) (GX X) ((gI h 2 e4 1) ||| (gI h 5 e5 9)) x2 h _ hw) lk_X0_159 (RM_mk (Nat.le_of_ble_eq_true rfl) (Nat.le_of_ble_eq_true rfl)) rfl rfl rfl rfl (Nat.le_of_ble_eq_true rfl) rfl rfl (Nat.le_of_ble_eq_true rfl) (Nat.le_of_ble_eq_true rfl) dX0_isFault_59 (fun r6 u9 hw => ?_)
      obtain ⟨rfl, zr6, hw⟩ := hw
      refine r_if_eq E 80 (by decide) dX0_isFault_62 (fun c7 => ?_) (fun c7 => ?_)
      · have hw := ite_t hw c7
        exact GG_weak [true, true, true, false] rfl (t_X0_isFault_b80 h x1 x2 E hE  hw)
      · have hw := ite_f hw c7
        exact GG_weak [true, false, false, false] rfl (t_X0_isFault_b65 h  E hE  hw)
  · have hw := ite_f hw c1
    exact GG_weak [true, true, true, false] rfl (t_X0_isFault_b80 h x1 x2 E hE  hw)
set_option maxRecDepth 20000 in
theorem m_X0_isFault {l : Launch} (hl : l.stackTraces = false) (G : Gq) (p0 : Int32) (p1 : Int32) (p2 : Int32)  (h : Hp) (Q : Int32 → Hp → Prop) (hw : wp_X0_isFault p0 p1 p2 h Q) : MI l G yX0_isFault cX0_isFault 4 (some .boolean) rm_X0_isFault NT NT h (fun r => [r 0 0, .int p0, .int p1, .int p2]) (fun r u => isB r ∧ Q r u) := by
  refine MI_of (L0 := (fun X => [some (rf X 0 0), some (.int p0), some (.int p1), some (.int p2)])) hl (by decide +kernel) rfl (fun _ => Nat.le_of_ble_eq_true rfl) (fun _ => rfl) fun X hXl hXG E hE => ?_
  subst hXl; subst hXG
  unfold wp_X0_isFault at hw
  refine r_iload_n E p0 rfl dX0_isFault_0 ?_
  refine r_bipush E 105 rfl dX0_isFault_1 ?_
  refine r_icmp_ne E 26 (by decide) dX0_isFault_3 (fun c1 => ?_) (fun c1 => ?_)
  · have hw := ite_t hw c1
    refine r_iload_n E p2 rfl dX0_isFault_6 ?_
    refine r_iconst E 4 rfl dX0_isFault_7 ?_
    refine r_icmp_lt E 26 (by decide) dX0_isFault_8 (fun c2 => ?_) (fun c2 => ?_)
    · have hw := ite_t hw c2
      exact GG_weak [true, true, true, false] rfl (t_X0_isFault_b26 h p0 p1 E hE  hw)
    · have hw := ite_f hw c2
      refine r_aload_n E 0 0 rfl dX0_isFault_11 ?_
      obtain ⟨e3, hve3, hbe3, hw⟩ := hw
      refine r_getR E fd_X0_30 (t := e3) (j1 := 5) rfl hve3 rfl (Nat.le_of_ble_eq_true rfl) (adr_lt (Nat.le_of_ble_eq_true rfl)) dX0_isFault_12 ?_
      refine r_dup E rfl dX0_isFault_15 ?_
      refine r_getI E fd_X0_147 rfl hbe3 (adr_lt hbe3) dX0_isFault_16 ?_
      refine r_iconst E 1 rfl dX0_isFault_19 ?_
      refine r_iadd E dX0_isFault_20 ?_
      refine r_putI E fd_X0_147 rfl PI_int hbe3 (adr_lt hbe3) rfl dX0_isFault_21 ?_
      refine GG_toph fun h4 hh4 => ?_
      have hw := hw h4 hh4
      refine r_iconst E 1 rfl dX0_isFault_24 ?_
      exact hE _ _ _ _ _ _ (Nat.le_of_ble_eq_true rfl) (Nat.le_of_ble_eq_true rfl) dX0_isFault_25 (isB_nar isB_1) ⟨isB_1, hw⟩
  · have hw := ite_f hw c1
    exact GG_weak [true, true, true, false] rfl (t_X0_isFault_b26 h p0 p1 E hE  hw)
set_option maxRecDepth 20000 in
theorem m_X10_hasBit_ {l : Launch} (hl : l.stackTraces = false) (G : Gq) (p0 : Int64) (p1 : Int32)  (h : Hp) (Q : Int32 → Prop) (hw : wp_X10_hasBit_ p0 p1 h Q) : MI l G yX10_hasBit_ cX10_hasBit_ 3 (some .boolean) rm_X10_hasBit_ NT NT h (fun r => [.long p0, .int p1]) (fun r u => h = u ∧ isB r ∧ Q r) := by
  refine MI_of (L0 := (fun X => [some (.long p0), none, some (.int p1)])) hl (by decide +kernel) rfl (fun _ => Nat.le_of_ble_eq_true rfl) (fun _ => rfl) fun X hXl hXG E hE => ?_
  subst hXl; subst hXG
  unfold wp_X10_hasBit_ at hw
  refine r_lload_n E p0 rfl dX10_hasBit__0 ?_
  refine r_iload_n E p1 rfl dX10_hasBit__1 ?_
  refine r_lshr E dX10_hasBit__2 ?_
  refine r_lconst E 1 rfl dX10_hasBit__3 ?_
  refine r_land E dX10_hasBit__4 ?_
  refine r_lconst E 0 rfl dX10_hasBit__5 ?_
  refine r_lcmp_eq E 14 (by decide) dX10_hasBit__6 dX10_hasBit__7 (fun c1 => ?_) (fun c1 => ?_)
  · have hw := ite_t hw c1
    refine r_iconst E 0 rfl dX10_hasBit__14 ?_
    exact hE _ _ _ _ _ _ (Nat.le_of_ble_eq_true rfl) (Nat.le_of_ble_eq_true rfl) dX10_hasBit__15 (isB_nar isB_0) ⟨rfl, isB_0, hw⟩
  · have hw := ite_f hw c1
    refine r_iconst E 1 rfl dX10_hasBit__10 ?_
    refine r_goto E 15 (by decide) dX10_hasBit__11 ?_
    exact hE _ _ _ _ _ _ (Nat.le_of_ble_eq_true rfl) (Nat.le_of_ble_eq_true rfl) dX10_hasBit__15 (isB_nar isB_1) ⟨rfl, isB_1, hw⟩
set_option maxRecDepth 20000 in
theorem m_J6_bitCount_0f7a4 {l : Launch} (hl : l.stackTraces = false) (G : Gq) (p0 : Int32)  (h : Hp) (Q : Int32 → Prop) (hw : wp_J6_bitCount_0f7a4 p0 h Q) : MI l G yJ6_bitCount_0f7a4 cJ6_bitCount_0f7a4 1 (some .int) rm_J6_bitCount_0f7a4 NT NT h (fun r => [.int p0]) (fun r u => h = u ∧ Q r) := by
  refine MI_of (L0 := (fun X => [some (.int p0)])) hl (by decide +kernel) rfl (fun _ => Nat.le_of_ble_eq_true rfl) (fun _ => rfl) fun X hXl hXG E hE => ?_
  subst hXl; subst hXG
  unfold wp_J6_bitCount_0f7a4 at hw
  refine r_iload_n E p0 rfl dJ6_bitCount_0f7a4_0 ?_
  refine r_iload_n E p0 rfl dJ6_bitCount_0f7a4_1 ?_
  refine r_iconst E 1 rfl dJ6_bitCount_0f7a4_2 ?_
  refine r_iushr E dJ6_bitCount_0f7a4_3 ?_
  refine r_ldcw E 1431655765 kc_J6_265 dJ6_bitCount_0f7a4_4 ?_
  refine r_iand E dJ6_bitCount_0f7a4_7 ?_
  refine r_isub E dJ6_bitCount_0f7a4_8 ?_
  refine GG_topI fun v1 hv1 => ?_
  have hw := hw v1 hv1
  refine r_istore_n E [some (.int v1)] rfl (Nat.le_of_ble_eq_true rfl) rfl dJ6_bitCount_0f7a4_9 ?_
  refine r_iload_n E v1 rfl dJ6_bitCount_0f7a4_10 ?_
  refine r_ldcw E 858993459 kc_J6_266 dJ6_bitCount_0f7a4_11 ?_
  refine r_iand E dJ6_bitCount_0f7a4_14 ?_
  refine r_iload_n E v1 rfl dJ6_bitCount_0f7a4_15 ?_
  refine r_iconst E 2 rfl dJ6_bitCount_0f7a4_16 ?_
  refine r_iushr E dJ6_bitCount_0f7a4_17 ?_
  refine r_ldcw E 858993459 kc_J6_266 dJ6_bitCount_0f7a4_18 ?_
  refine r_iand E dJ6_bitCount_0f7a4_21 ?_
  refine r_iadd E dJ6_bitCount_0f7a4_22 ?_
  refine GG_topI fun v2 hv2 => ?_
  have hw := hw v2 hv2
  refine r_istore_n E [some (.int v2)] rfl (Nat.le_of_ble_eq_true rfl) rfl dJ6_bitCount_0f7a4_23 ?_
  refine r_iload_n E v2 rfl dJ6_bitCount_0f7a4_24 ?_
  refine r_iload_n E v2 rfl dJ6_bitCount_0f7a4_25 ?_
  refine r_iconst E 4 rfl dJ6_bitCount_0f7a4_26 ?_
  refine r_iushr E dJ6_bitCount_0f7a4_27 ?_
  refine r_iadd E dJ6_bitCount_0f7a4_28 ?_
  refine r_ldcw E 252645135 kc_J6_267 dJ6_bitCount_0f7a4_29 ?_
  refine r_iand E dJ6_bitCount_0f7a4_32 ?_
  refine GG_topI fun v3 hv3 => ?_
  have hw := hw v3 hv3
  refine r_istore_n E [some (.int v3)] rfl (Nat.le_of_ble_eq_true rfl) rfl dJ6_bitCount_0f7a4_33 ?_
  refine r_iload_n E v3 rfl dJ6_bitCount_0f7a4_34 ?_
  refine r_iload_n E v3 rfl dJ6_bitCount_0f7a4_35 ?_
  refine r_bipush E 8 rfl dJ6_bitCount_0f7a4_36 ?_
  refine r_iushr E dJ6_bitCount_0f7a4_38 ?_
  refine r_iadd E dJ6_bitCount_0f7a4_39 ?_
  refine GG_topI fun v4 hv4 => ?_
  have hw := hw v4 hv4
  refine r_istore_n E [some (.int v4)] rfl (Nat.le_of_ble_eq_true rfl) rfl dJ6_bitCount_0f7a4_40 ?_
  refine r_iload_n E v4 rfl dJ6_bitCount_0f7a4_41 ?_
  refine r_iload_n E v4 rfl dJ6_bitCount_0f7a4_42 ?_
  refine r_bipush E 16 rfl dJ6_bitCount_0f7a4_43 ?_
  refine r_iushr E dJ6_bitCount_0f7a4_45 ?_
  refine r_iadd E dJ6_bitCount_0f7a4_46 ?_
  refine GG_topI fun v5 hv5 => ?_
  have hw := hw v5 hv5
  refine r_istore_n E [some (.int v5)] rfl (Nat.le_of_ble_eq_true rfl) rfl dJ6_bitCount_0f7a4_47 ?_
  refine r_iload_n E v5 rfl dJ6_bitCount_0f7a4_48 ?_
  refine r_bipush E 63 rfl dJ6_bitCount_0f7a4_49 ?_
  refine r_iand E dJ6_bitCount_0f7a4_51 ?_
  exact hE _ _ _ _ _ _ (Nat.le_of_ble_eq_true rfl) (Nat.le_of_ble_eq_true rfl) dJ6_bitCount_0f7a4_52 rfl ⟨rfl, hw⟩
set_option maxRecDepth 20000 in
theorem m_X9_fits {l : Launch} (hl : l.stackTraces = false) (G : Gq) (p0 : Int32) (p1 : Int32) (p2 : Nat) (p3 : Int32) (hp2 : p2 < 41) (h : Hp) (Q : Int32 → Prop) (hw : wp_X9_fits p0 p1 p2 p3 h Q) : MI l G yX9_fits cX9_fits 4 (some .boolean) rm_X9_fits NT NT h (fun r => [.int p0, .int p1, r 2 p2, .int p3]) (fun r u => h = u ∧ isB r ∧ Q r) := by
  refine MI_of (L0 := (fun X => [some (.int p0), some (.int p1), some (rf X 2 p2), some (.int p3)])) hl (by decide +kernel) rfl (fun _ => Nat.le_of_ble_eq_true rfl) (fun _ => rfl) fun X hXl hXG E hE => ?_
  subst hXl; subst hXG
  unfold wp_X9_fits at hw
  refine r_iload_n E p0 rfl dX9_fits_0 ?_
  rcases Decidable.em (p0 = 98) with c1 | c1
  · have hw := ite_t hw c1
    refine r_tableI E 98 c1 (off := 147) 148 dX9_fits_1 (by decide) (by decide) rfl (by decide) ?_
    refine r_aload_n E 2 p2 rfl dX9_fits_148 ?_
    refine r_getI E fd_X9_71 rfl hp2 (adr_lt hp2) dX9_fits_149 ?_
    refine r_iload_n E p1 rfl dX9_fits_152 ?_
    refine r_callSNI E (m_X10_hasBit (EE_st E) (GX X) (gI h 2 p2 3) p1 h _ hw) lk_X9_66 (RM_mk (Nat.le_of_ble_eq_true rfl) (Nat.le_of_ble_eq_true rfl)) rfl rfl rfl rfl (Nat.le_of_ble_eq_true rfl) rfl rfl (Nat.le_of_ble_eq_true rfl) (Nat.le_of_ble_eq_true rfl) dX9_fits_153 (fun r2 u9 hw => ?_)
    obtain ⟨rfl, zr2, hw⟩ := hw
    exact hE _ _ _ _ _ _ (Nat.le_of_ble_eq_true rfl) (Nat.le_of_ble_eq_true rfl) dX9_fits_156 (isB_nar zr2) ⟨rfl, zr2, hw⟩
  · have hw := ite_f hw c1
    rcases Decidable.em (p0 = 100) with c3 | c3
    · have hw := ite_t hw c3
      refine r_tableI E 100 c3 (off := 170) 171 dX9_fits_1 (by decide) (by decide) rfl (by decide) ?_
      refine r_aload_n E 2 p2 rfl dX9_fits_171 ?_
      refine r_getI E fd_X9_77 rfl hp2 (adr_lt hp2) dX9_fits_172 ?_
      refine r_iload_n E p1 rfl dX9_fits_175 ?_
      refine r_icmp_ne E 183 (by decide) dX9_fits_176 (fun c4 => ?_) (fun c4 => ?_)
      · have hw := ite_t hw c4
        refine r_iconst E 1 rfl dX9_fits_179 ?_
        refine r_goto E 184 (by decide) dX9_fits_180 ?_
        exact hE _ _ _ _ _ _ (Nat.le_of_ble_eq_true rfl) (Nat.le_of_ble_eq_true rfl) dX9_fits_184 (isB_nar isB_1) ⟨rfl, isB_1, hw⟩
      · have hw := ite_f hw c4
        refine r_iconst E 0 rfl dX9_fits_183 ?_
        exact hE _ _ _ _ _ _ (Nat.le_of_ble_eq_true rfl) (Nat.le_of_ble_eq_true rfl) dX9_fits_184 (isB_nar isB_0) ⟨rfl, isB_0, hw⟩
    · have hw := ite_f hw c3
      rcases Decidable.em (p0 = 102) with c5 | c5
      · have hw := ite_t hw c5
        refine r_tableI E 102 c5 (off := 115) 116 dX9_fits_1 (by decide) (by decide) rfl (by decide) ?_
        refine r_aload_n E 2 p2 rfl dX9_fits_116 ?_
        refine r_getI E fd_X9_58 rfl hp2 (adr_lt hp2) dX9_fits_117 ?_
        refine r_iload_n E p1 rfl dX9_fits_120 ?_
        refine r_icmp_ne E 128 (by decide) dX9_fits_121 (fun c6 => ?_) (fun c6 => ?_)
        · have hw := ite_t hw c6
          refine r_iconst E 1 rfl dX9_fits_124 ?_
          refine r_goto E 129 (by decide) dX9_fits_125 ?_
          exact hE _ _ _ _ _ _ (Nat.le_of_ble_eq_true rfl) (Nat.le_of_ble_eq_true rfl) dX9_fits_129 (isB_nar isB_1) ⟨rfl, isB_1, hw⟩
        · have hw := ite_f hw c6
          refine r_iconst E 0 rfl dX9_fits_128 ?_
          exact hE _ _ _ _ _ _ (Nat.le_of_ble_eq_true rfl) (Nat.le_of_ble_eq_true rfl) dX9_fits_129 (isB_nar isB_0) ⟨rfl, isB_0, hw⟩
      · have hw := ite_f hw c5
        rcases Decidable.em (p0 = 107) with c7 | c7
        · have hw := ite_t hw c7
          refine r_tableI E 107 c7 (off := 201) 202 dX9_fits_1 (by decide) (by decide) rfl (by decide) ?_
          refine r_iload_n E p3 rfl dX9_fits_202 ?_
          refine r_iload_n E p1 rfl dX9_fits_203 ?_
          refine r_callSNI E (m_X10_hasBit (EE_st E) (GX X) p3 p1 h _ hw) lk_X9_66 (RM_mk (Nat.le_of_ble_eq_true rfl) (Nat.le_of_ble_eq_true rfl)) rfl rfl rfl rfl (Nat.le_of_ble_eq_true rfl) rfl rfl (Nat.le_of_ble_eq_true rfl) (Nat.le_of_ble_eq_true rfl) dX9_fits_204 (fun r8 u9 hw => ?_)
          obtain ⟨rfl, zr8, hw⟩ := hw
          exact hE _ _ _ _ _ _ (Nat.le_of_ble_eq_true rfl) (Nat.le_of_ble_eq_true rfl) dX9_fits_207 (isB_nar zr8) ⟨rfl, zr8, hw⟩
        · have hw := ite_f hw c7
          rcases Decidable.em (p0 = 110) with c9 | c9
          · have hw := ite_t hw c9
            refine r_tableI E 110 c9 (off := 184) 185 dX9_fits_1 (by decide) (by decide) rfl (by decide) ?_
            refine r_aload_n E 2 p2 rfl dX9_fits_185 ?_
            refine r_getI E fd_X9_63 rfl hp2 (adr_lt hp2) dX9_fits_186 ?_
            refine r_callSI E (m_J6_bitCount_0f7a4 (EE_st E) (GX X) (gI h 2 p2 1) h _ hw) lk_X9_80 (RM_mk (Nat.le_of_ble_eq_true rfl) (Nat.le_of_ble_eq_true rfl)) rfl rfl rfl rfl (Nat.le_of_ble_eq_true rfl) rfl rfl (Nat.le_of_ble_eq_true rfl) (Nat.le_of_ble_eq_true rfl) dX9_fits_189 (fun r10 u9 hw => ?_)
            obtain ⟨rfl, hw⟩ := hw
            refine r_iload_n E p1 rfl dX9_fits_192 ?_
            refine r_icmp_lt E 200 (by decide) dX9_fits_193 (fun c11 => ?_) (fun c11 => ?_)
            · have hw := ite_t hw c11
              refine r_iconst E 0 rfl dX9_fits_200 ?_
              exact hE _ _ _ _ _ _ (Nat.le_of_ble_eq_true rfl) (Nat.le_of_ble_eq_true rfl) dX9_fits_201 (isB_nar isB_0) ⟨rfl, isB_0, hw⟩
            · have hw := ite_f hw c11
              refine r_iconst E 1 rfl dX9_fits_196 ?_
              refine r_goto E 201 (by decide) dX9_fits_197 ?_
              exact hE _ _ _ _ _ _ (Nat.le_of_ble_eq_true rfl) (Nat.le_of_ble_eq_true rfl) dX9_fits_201 (isB_nar isB_1) ⟨rfl, isB_1, hw⟩
          · have hw := ite_f hw c9
            rcases Decidable.em (p0 = 115) with c12 | c12
            · have hw := ite_t hw c12
              refine r_tableI E 115 c12 (off := 138) 139 dX9_fits_1 (by decide) (by decide) rfl (by decide) ?_
              refine r_aload_n E 2 p2 rfl dX9_fits_139 ?_
              refine r_getI E fd_X9_68 rfl hp2 (adr_lt hp2) dX9_fits_140 ?_
              refine r_iload_n E p1 rfl dX9_fits_143 ?_
              refine r_callSNI E (m_X10_hasBit (EE_st E) (GX X) (gI h 2 p2 2) p1 h _ hw) lk_X9_66 (RM_mk (Nat.le_of_ble_eq_true rfl) (Nat.le_of_ble_eq_true rfl)) rfl rfl rfl rfl (Nat.le_of_ble_eq_true rfl) rfl rfl (Nat.le_of_ble_eq_true rfl) (Nat.le_of_ble_eq_true rfl) dX9_fits_144 (fun r13 u9 hw => ?_)
              obtain ⟨rfl, zr13, hw⟩ := hw
              exact hE _ _ _ _ _ _ (Nat.le_of_ble_eq_true rfl) (Nat.le_of_ble_eq_true rfl) dX9_fits_147 (isB_nar zr13) ⟨rfl, zr13, hw⟩
            · have hw := ite_f hw c12
              rcases Decidable.em (p0 = 116) with c14 | c14
              · have hw := ite_t hw c14
                refine r_tableI E 116 c14 (off := 129) 130 dX9_fits_1 (by decide) (by decide) rfl (by decide) ?_
                refine r_aload_n E 2 p2 rfl dX9_fits_130 ?_
                refine r_getI E fd_X9_63 rfl hp2 (adr_lt hp2) dX9_fits_131 ?_
                refine r_iload_n E p1 rfl dX9_fits_134 ?_
                refine r_callSNI E (m_X10_hasBit (EE_st E) (GX X) (gI h 2 p2 1) p1 h _ hw) lk_X9_66 (RM_mk (Nat.le_of_ble_eq_true rfl) (Nat.le_of_ble_eq_true rfl)) rfl rfl rfl rfl (Nat.le_of_ble_eq_true rfl) rfl rfl (Nat.le_of_ble_eq_true rfl) (Nat.le_of_ble_eq_true rfl) dX9_fits_135 (fun r15 u9 hw => ?_)
                obtain ⟨rfl, zr15, hw⟩ := hw
                exact hE _ _ _ _ _ _ (Nat.le_of_ble_eq_true rfl) (Nat.le_of_ble_eq_true rfl) dX9_fits_138 (isB_nar zr15) ⟨rfl, zr15, hw⟩
              · have hw := ite_f hw c14
                rcases Decidable.em (p0 = 122) with c16 | c16
                · have hw := ite_t hw c16
                  refine r_tableI E 122 c16 (off := 156) 157 dX9_fits_1 (by decide) (by decide) rfl (by decide) ?_
                  refine r_aload_n E 2 p2 rfl dX9_fits_157 ?_
                  refine r_getI E fd_X9_74 rfl hp2 (adr_lt hp2) dX9_fits_158 ?_
                  refine r_iload_n E p1 rfl dX9_fits_161 ?_
                  refine r_icmp_le E 169 (by decide) dX9_fits_162 (fun c17 => ?_) (fun c17 => ?_)
                  · have hw := ite_t hw c17
                    refine r_iconst E 0 rfl dX9_fits_169 ?_
                    exact hE _ _ _ _ _ _ (Nat.le_of_ble_eq_true rfl) (Nat.le_of_ble_eq_true rfl) dX9_fits_170 (isB_nar isB_0) ⟨rfl, isB_0, hw⟩
                  · have hw := ite_f hw c17
                    refine r_iconst E 1 rfl dX9_fits_165 ?_
                    refine r_goto E 170 (by decide) dX9_fits_166 ?_
                    exact hE _ _ _ _ _ _ (Nat.le_of_ble_eq_true rfl) (Nat.le_of_ble_eq_true rfl) dX9_fits_170 (isB_nar isB_1) ⟨rfl, isB_1, hw⟩
                · have hw := ite_f hw c16
                  have key : GG X 0 0 NT h [some (.int p0), some (.int p1), some (rf X 2 p2), some (.int p3)] 208 ([]) := by
                    refine r_iconst E 1 rfl dX9_fits_208 ?_
                    exact hE _ _ _ _ _ _ (Nat.le_of_ble_eq_true rfl) (Nat.le_of_ble_eq_true rfl) dX9_fits_209 (isB_nar isB_1) ⟨rfl, isB_1, hw⟩
                  rcases Decidable.em (p0.toInt < 98 ∨ 122 < p0.toInt) with cz | cz
                  · exact r_tableO E 208 dX9_fits_1 cz (by decide) key
                  · have hh : p0 = 99 ∨ p0 = 101 ∨ p0 = 103 ∨ p0 = 104 ∨ p0 = 105 ∨ p0 = 106 ∨ p0 = 108 ∨ p0 = 109 ∨ p0 = 111 ∨ p0 = 112 ∨ p0 = 113 ∨ p0 = 114 ∨ p0 = 117 ∨ p0 = 118 ∨ p0 = 119 ∨ p0 = 120 ∨ p0 = 121 := by
                      have ec1 := lv_neT c1 (a := 98) rfl
                      have ec3 := lv_neT c3 (a := 100) rfl
                      have ec5 := lv_neT c5 (a := 102) rfl
                      have ec7 := lv_neT c7 (a := 107) rfl
                      have ec9 := lv_neT c9 (a := 110) rfl
                      have ec12 := lv_neT c12 (a := 115) rfl
                      have ec14 := lv_neT c14 (a := 116) rfl
                      have ec16 := lv_neT c16 (a := 122) rfl
                      have hz : p0.toInt = 99 ∨ p0.toInt = 101 ∨ p0.toInt = 103 ∨ p0.toInt = 104 ∨ p0.toInt = 105 ∨ p0.toInt = 106 ∨ p0.toInt = 108 ∨ p0.toInt = 109 ∨ p0.toInt = 111 ∨ p0.toInt = 112 ∨ p0.toInt = 113 ∨ p0.toInt = 114 ∨ p0.toInt = 117 ∨ p0.toInt = 118 ∨ p0.toInt = 119 ∨ p0.toInt = 120 ∨ p0.toInt = 121 := by omega
                      rcases hz with hz | hz | hz | hz | hz | hz | hz | hz | hz | hz | hz | hz | hz | hz | hz | hz | hz
                      · exact Or.inl (Int32.toInt_inj.mp (hz.trans (rfl : (99 : Int) = (99 : Int32).toInt)))
                      · exact Or.inr (Or.inl (Int32.toInt_inj.mp (hz.trans (rfl : (101 : Int) = (101 : Int32).toInt))))
                      · exact Or.inr (Or.inr (Or.inl (Int32.toInt_inj.mp (hz.trans (rfl : (103 : Int) = (103 : Int32).toInt)))))
                      · exact Or.inr (Or.inr (Or.inr (Or.inl (Int32.toInt_inj.mp (hz.trans (rfl : (104 : Int) = (104 : Int32).toInt))))))
                      · exact Or.inr (Or.inr (Or.inr (Or.inr (Or.inl (Int32.toInt_inj.mp (hz.trans (rfl : (105 : Int) = (105 : Int32).toInt)))))))
                      · exact Or.inr (Or.inr (Or.inr (Or.inr (Or.inr (Or.inl (Int32.toInt_inj.mp (hz.trans (rfl : (106 : Int) = (106 : Int32).toInt))))))))
                      · exact Or.inr (Or.inr (Or.inr (Or.inr (Or.inr (Or.inr (Or.inl (Int32.toInt_inj.mp (hz.trans (rfl : (108 : Int) = (108 : Int32).toInt)))))))))
                      · exact Or.inr (Or.inr (Or.inr (Or.inr (Or.inr (Or.inr (Or.inr (Or.inl (Int32.toInt_inj.mp (hz.trans (rfl : (109 : Int) = (109 : Int32).toInt))))))))))
                      · exact Or.inr (Or.inr (Or.inr (Or.inr (Or.inr (Or.inr (Or.inr (Or.inr (Or.inl (Int32.toInt_inj.mp (hz.trans (rfl : (111 : Int) = (111 : Int32).toInt)))))))))))
                      · exact Or.inr (Or.inr (Or.inr (Or.inr (Or.inr (Or.inr (Or.inr (Or.inr (Or.inr (Or.inl (Int32.toInt_inj.mp (hz.trans (rfl : (112 : Int) = (112 : Int32).toInt))))))))))))
                      · exact Or.inr (Or.inr (Or.inr (Or.inr (Or.inr (Or.inr (Or.inr (Or.inr (Or.inr (Or.inr (Or.inl (Int32.toInt_inj.mp (hz.trans (rfl : (113 : Int) = (113 : Int32).toInt)))))))))))))
                      · exact Or.inr (Or.inr (Or.inr (Or.inr (Or.inr (Or.inr (Or.inr (Or.inr (Or.inr (Or.inr (Or.inr (Or.inl (Int32.toInt_inj.mp (hz.trans (rfl : (114 : Int) = (114 : Int32).toInt))))))))))))))
                      · exact Or.inr (Or.inr (Or.inr (Or.inr (Or.inr (Or.inr (Or.inr (Or.inr (Or.inr (Or.inr (Or.inr (Or.inr (Or.inl (Int32.toInt_inj.mp (hz.trans (rfl : (117 : Int) = (117 : Int32).toInt)))))))))))))))
                      · exact Or.inr (Or.inr (Or.inr (Or.inr (Or.inr (Or.inr (Or.inr (Or.inr (Or.inr (Or.inr (Or.inr (Or.inr (Or.inr (Or.inl (Int32.toInt_inj.mp (hz.trans (rfl : (118 : Int) = (118 : Int32).toInt))))))))))))))))
                      · exact Or.inr (Or.inr (Or.inr (Or.inr (Or.inr (Or.inr (Or.inr (Or.inr (Or.inr (Or.inr (Or.inr (Or.inr (Or.inr (Or.inr (Or.inl (Int32.toInt_inj.mp (hz.trans (rfl : (119 : Int) = (119 : Int32).toInt)))))))))))))))))
                      · exact Or.inr (Or.inr (Or.inr (Or.inr (Or.inr (Or.inr (Or.inr (Or.inr (Or.inr (Or.inr (Or.inr (Or.inr (Or.inr (Or.inr (Or.inr (Or.inl (Int32.toInt_inj.mp (hz.trans (rfl : (120 : Int) = (120 : Int32).toInt))))))))))))))))))
                      · exact Or.inr (Or.inr (Or.inr (Or.inr (Or.inr (Or.inr (Or.inr (Or.inr (Or.inr (Or.inr (Or.inr (Or.inr (Or.inr (Or.inr (Or.inr (Or.inr (Int32.toInt_inj.mp (hz.trans (rfl : (121 : Int) = (121 : Int32).toInt))))))))))))))))))
                    rcases hh with hh | hh | hh | hh | hh | hh | hh | hh | hh | hh | hh | hh | hh | hh | hh | hh | hh
                    · exact r_tableI E 99 hh (off := 207) 208 dX9_fits_1 (by decide) (by decide) rfl (by decide) key
                    · exact r_tableI E 101 hh (off := 207) 208 dX9_fits_1 (by decide) (by decide) rfl (by decide) key
                    · exact r_tableI E 103 hh (off := 207) 208 dX9_fits_1 (by decide) (by decide) rfl (by decide) key
                    · exact r_tableI E 104 hh (off := 207) 208 dX9_fits_1 (by decide) (by decide) rfl (by decide) key
                    · exact r_tableI E 105 hh (off := 207) 208 dX9_fits_1 (by decide) (by decide) rfl (by decide) key
                    · exact r_tableI E 106 hh (off := 207) 208 dX9_fits_1 (by decide) (by decide) rfl (by decide) key
                    · exact r_tableI E 108 hh (off := 207) 208 dX9_fits_1 (by decide) (by decide) rfl (by decide) key
                    · exact r_tableI E 109 hh (off := 207) 208 dX9_fits_1 (by decide) (by decide) rfl (by decide) key
                    · exact r_tableI E 111 hh (off := 207) 208 dX9_fits_1 (by decide) (by decide) rfl (by decide) key
                    · exact r_tableI E 112 hh (off := 207) 208 dX9_fits_1 (by decide) (by decide) rfl (by decide) key
                    · exact r_tableI E 113 hh (off := 207) 208 dX9_fits_1 (by decide) (by decide) rfl (by decide) key
                    · exact r_tableI E 114 hh (off := 207) 208 dX9_fits_1 (by decide) (by decide) rfl (by decide) key
                    · exact r_tableI E 117 hh (off := 207) 208 dX9_fits_1 (by decide) (by decide) rfl (by decide) key
                    · exact r_tableI E 118 hh (off := 207) 208 dX9_fits_1 (by decide) (by decide) rfl (by decide) key
                    · exact r_tableI E 119 hh (off := 207) 208 dX9_fits_1 (by decide) (by decide) rfl (by decide) key
                    · exact r_tableI E 120 hh (off := 207) 208 dX9_fits_1 (by decide) (by decide) rfl (by decide) key
                    · exact r_tableI E 121 hh (off := 207) 208 dX9_fits_1 (by decide) (by decide) rfl (by decide) key
set_option maxRecDepth 20000 in
theorem m_X9_isTrueBy {l : Launch} (hl : l.stackTraces = false) (G : Gq) (p0 : Int32) (p1 : Int64) (p2 : Nat) (p3 : Int32) (hp2 : p2 < 41) (h : Hp) (Q : Int32 → Prop) (hw : wp_X9_isTrueBy p0 p1 p2 p3 h Q) : MI l G yX9_isTrueBy cX9_isTrueBy 7 (some .boolean) rm_X9_isTrueBy NT NT h (fun r => [r 9 0, .int p0, .long p1, r 2 p2, .int p3]) (fun r u => h = u ∧ isB r ∧ Q r) := by
  refine MI_of (L0 := (fun X => [some (rf X 9 0), some (.int p0), some (.long p1), none, some (rf X 2 p2), some (.int p3), none])) hl (by decide +kernel) rfl (fun _ => Nat.le_of_ble_eq_true rfl) (fun _ => rfl) fun X hXl hXG E hE => ?_
  subst hXl; subst hXG
  unfold wp_X9_isTrueBy at hw
  refine r_aload_n E 9 0 rfl dX9_isTrueBy_0 ?_
  refine r_getS E fd_X9_15 (t := 0) (j1 := 13) rfl rfl rfl rfl (Nat.le_of_ble_eq_true rfl) (adr_lt (Nat.le_of_ble_eq_true rfl)) dX9_isTrueBy_1 ?_
  refine r_iload_n E p0 rfl dX9_isTrueBy_4 ?_
  obtain ⟨i1, hw⟩ := hw
  refine r_iald E rfl rfl rfl (Nat.le_of_ble_eq_true rfl) (adr_lt (Nat.le_of_ble_eq_true rfl)) i1 dX9_isTrueBy_5 ?_
  refine GG_topI fun v2 hv2 => ?_
  have hw := hw v2 hv2
  refine r_istore E [some (rf X 9 0), some (.int p0), some (.long p1), none, some (rf X 2 p2), some (.int p3), some (.int v2)] (Nat.le_of_ble_eq_true rfl) rfl dX9_isTrueBy_6 ?_
  refine r_aload_n E 9 0 rfl dX9_isTrueBy_8 ?_
  refine r_getS E fd_X9_11 (t := 0) (j1 := 12) rfl rfl rfl rfl (Nat.le_of_ble_eq_true rfl) (adr_lt (Nat.le_of_ble_eq_true rfl)) dX9_isTrueBy_9 ?_
  refine r_iload_n E p0 rfl dX9_isTrueBy_12 ?_
  refine r_cald E rfl rfl rfl (Nat.le_of_ble_eq_true rfl) (adr_lt (Nat.le_of_ble_eq_true rfl)) i1 dX9_isTrueBy_13 ?_
  rcases Decidable.em ((gI h 12 0 p0.toNatClampNeg) = 33) with c3 | c3
  · have hw := ite_t hw c3
    refine r_lookup E (off := 34) 48 dX9_isTrueBy_14 (by decide) (by rw [c3]; rfl) (by decide) ?_
    refine r_lload_n E p1 rfl dX9_isTrueBy_48 ?_
    refine r_iload E v2 rfl dX9_isTrueBy_49 ?_
    refine r_callSNI E (m_X10_hasBit_ (EE_st E) (GX X) p1 v2 h _ hw) lk_X9_46 (RM_mk (Nat.le_of_ble_eq_true rfl) (Nat.le_of_ble_eq_true rfl)) rfl rfl rfl rfl (Nat.le_of_ble_eq_true rfl) rfl rfl (Nat.le_of_ble_eq_true rfl) (Nat.le_of_ble_eq_true rfl) dX9_isTrueBy_51 (fun r4 u9 hw => ?_)
    obtain ⟨rfl, zr4, hw⟩ := hw
    refine r_if_ne E 61 (by decide) dX9_isTrueBy_54 (fun c5 => ?_) (fun c5 => ?_)
    · have hw := ite_t hw c5
      refine r_iconst E 1 rfl dX9_isTrueBy_57 ?_
      refine r_goto E 62 (by decide) dX9_isTrueBy_58 ?_
      exact hE _ _ _ _ _ _ (Nat.le_of_ble_eq_true rfl) (Nat.le_of_ble_eq_true rfl) dX9_isTrueBy_62 (isB_nar isB_1) ⟨rfl, isB_1, hw⟩
    · have hw := ite_f hw c5
      refine r_iconst E 0 rfl dX9_isTrueBy_61 ?_
      exact hE _ _ _ _ _ _ (Nat.le_of_ble_eq_true rfl) (Nat.le_of_ble_eq_true rfl) dX9_isTrueBy_62 (isB_nar isB_0) ⟨rfl, isB_0, hw⟩
  · have hw := ite_f hw c3
    rcases Decidable.em ((gI h 12 0 p0.toNatClampNeg) = 38) with c6 | c6
    · have hw := ite_t hw c6
      refine r_lookup E (off := 49) 63 dX9_isTrueBy_14 (by decide) (by rw [c6]; rfl) (by decide) ?_
      refine r_lload_n E p1 rfl dX9_isTrueBy_63 ?_
      refine r_iload E v2 rfl dX9_isTrueBy_64 ?_
      refine r_callSNI E (m_X10_hasBit_ (EE_st E) (GX X) p1 v2 h _ hw) lk_X9_46 (RM_mk (Nat.le_of_ble_eq_true rfl) (Nat.le_of_ble_eq_true rfl)) rfl rfl rfl rfl (Nat.le_of_ble_eq_true rfl) rfl rfl (Nat.le_of_ble_eq_true rfl) (Nat.le_of_ble_eq_true rfl) dX9_isTrueBy_66 (fun r7 u9 hw => ?_)
      obtain ⟨rfl, zr7, hw⟩ := hw
      refine r_if_eq E 89 (by decide) dX9_isTrueBy_69 (fun c8 => ?_) (fun c8 => ?_)
      · have hw := ite_t hw c8
        refine r_iconst E 0 rfl dX9_isTrueBy_89 ?_
        exact hE _ _ _ _ _ _ (Nat.le_of_ble_eq_true rfl) (Nat.le_of_ble_eq_true rfl) dX9_isTrueBy_90 (isB_nar isB_0) ⟨rfl, isB_0, hw⟩
      · have hw := ite_f hw c8
        refine r_lload_n E p1 rfl dX9_isTrueBy_72 ?_
        refine r_aload_n E 9 0 rfl dX9_isTrueBy_73 ?_
        refine r_getS E fd_X9_19 (t := 0) (j1 := 14) rfl rfl rfl rfl (Nat.le_of_ble_eq_true rfl) (adr_lt (Nat.le_of_ble_eq_true rfl)) dX9_isTrueBy_74 ?_
        refine r_iload_n E p0 rfl dX9_isTrueBy_77 ?_
        refine r_iald E rfl rfl rfl (Nat.le_of_ble_eq_true rfl) (adr_lt (Nat.le_of_ble_eq_true rfl)) i1 dX9_isTrueBy_78 ?_
        refine r_callSNI E (m_X10_hasBit_ (EE_st E) (GX X) p1 (gI h 14 0 p0.toNatClampNeg) h _ hw) lk_X9_46 (RM_mk (Nat.le_of_ble_eq_true rfl) (Nat.le_of_ble_eq_true rfl)) rfl rfl rfl rfl (Nat.le_of_ble_eq_true rfl) rfl rfl (Nat.le_of_ble_eq_true rfl) (Nat.le_of_ble_eq_true rfl) dX9_isTrueBy_79 (fun r9 u9 hw => ?_)
        obtain ⟨rfl, zr9, hw⟩ := hw
        refine r_if_eq E 89 (by decide) dX9_isTrueBy_82 (fun c10 => ?_) (fun c10 => ?_)
        · have hw := ite_t hw c10
          refine r_iconst E 0 rfl dX9_isTrueBy_89 ?_
          exact hE _ _ _ _ _ _ (Nat.le_of_ble_eq_true rfl) (Nat.le_of_ble_eq_true rfl) dX9_isTrueBy_90 (isB_nar isB_0) ⟨rfl, isB_0, hw⟩
        · have hw := ite_f hw c10
          refine r_iconst E 1 rfl dX9_isTrueBy_85 ?_
          refine r_goto E 90 (by decide) dX9_isTrueBy_86 ?_
          exact hE _ _ _ _ _ _ (Nat.le_of_ble_eq_true rfl) (Nat.le_of_ble_eq_true rfl) dX9_isTrueBy_90 (isB_nar isB_1) ⟨rfl, isB_1, hw⟩
    · have hw := ite_f hw c6
      rcases Decidable.em ((gI h 12 0 p0.toNatClampNeg) = 124) with c11 | c11
      · have hw := ite_t hw c11
        refine r_lookup E (off := 77) 91 dX9_isTrueBy_14 (by decide) (by rw [c11]; rfl) (by decide) ?_
        refine r_lload_n E p1 rfl dX9_isTrueBy_91 ?_
        refine r_iload E v2 rfl dX9_isTrueBy_92 ?_
        refine r_callSNI E (m_X10_hasBit_ (EE_st E) (GX X) p1 v2 h _ hw) lk_X9_46 (RM_mk (Nat.le_of_ble_eq_true rfl) (Nat.le_of_ble_eq_true rfl)) rfl rfl rfl rfl (Nat.le_of_ble_eq_true rfl) rfl rfl (Nat.le_of_ble_eq_true rfl) (Nat.le_of_ble_eq_true rfl) dX9_isTrueBy_94 (fun r12 u9 hw => ?_)
        obtain ⟨rfl, zr12, hw⟩ := hw
        refine r_if_ne E 113 (by decide) dX9_isTrueBy_97 (fun c13 => ?_) (fun c13 => ?_)
        · have hw := ite_t hw c13
          refine r_lload_n E p1 rfl dX9_isTrueBy_100 ?_
          refine r_aload_n E 9 0 rfl dX9_isTrueBy_101 ?_
          refine r_getS E fd_X9_19 (t := 0) (j1 := 14) rfl rfl rfl rfl (Nat.le_of_ble_eq_true rfl) (adr_lt (Nat.le_of_ble_eq_true rfl)) dX9_isTrueBy_102 ?_
          refine r_iload_n E p0 rfl dX9_isTrueBy_105 ?_
          refine r_iald E rfl rfl rfl (Nat.le_of_ble_eq_true rfl) (adr_lt (Nat.le_of_ble_eq_true rfl)) i1 dX9_isTrueBy_106 ?_
          refine r_callSNI E (m_X10_hasBit_ (EE_st E) (GX X) p1 (gI h 14 0 p0.toNatClampNeg) h _ hw) lk_X9_46 (RM_mk (Nat.le_of_ble_eq_true rfl) (Nat.le_of_ble_eq_true rfl)) rfl rfl rfl rfl (Nat.le_of_ble_eq_true rfl) rfl rfl (Nat.le_of_ble_eq_true rfl) (Nat.le_of_ble_eq_true rfl) dX9_isTrueBy_107 (fun r14 u9 hw => ?_)
          obtain ⟨rfl, zr14, hw⟩ := hw
          refine r_if_eq E 117 (by decide) dX9_isTrueBy_110 (fun c15 => ?_) (fun c15 => ?_)
          · have hw := ite_t hw c15
            refine r_iconst E 0 rfl dX9_isTrueBy_117 ?_
            exact hE _ _ _ _ _ _ (Nat.le_of_ble_eq_true rfl) (Nat.le_of_ble_eq_true rfl) dX9_isTrueBy_118 (isB_nar isB_0) ⟨rfl, isB_0, hw⟩
          · have hw := ite_f hw c15
            refine r_iconst E 1 rfl dX9_isTrueBy_113 ?_
            refine r_goto E 118 (by decide) dX9_isTrueBy_114 ?_
            exact hE _ _ _ _ _ _ (Nat.le_of_ble_eq_true rfl) (Nat.le_of_ble_eq_true rfl) dX9_isTrueBy_118 (isB_nar isB_1) ⟨rfl, isB_1, hw⟩
        · have hw := ite_f hw c13
          refine r_iconst E 1 rfl dX9_isTrueBy_113 ?_
          refine r_goto E 118 (by decide) dX9_isTrueBy_114 ?_
          exact hE _ _ _ _ _ _ (Nat.le_of_ble_eq_true rfl) (Nat.le_of_ble_eq_true rfl) dX9_isTrueBy_118 (isB_nar isB_1) ⟨rfl, isB_1, hw⟩
      · have hw := ite_f hw c11
        refine r_lookup E (off := 105) 119 dX9_isTrueBy_14 (by decide) (by show Op.lookupswitch.offset [(33, 34), (38, 49), (124, 77)] 105 _ = 105; rw [lv_osw (a := 33) c3 rfl, lv_osw (a := 38) c6 rfl, lv_osw (a := 124) c11 rfl]; rfl) (by decide) ?_
        refine r_aload_n E 9 0 rfl dX9_isTrueBy_119 ?_
        refine r_getS E fd_X9_11 (t := 0) (j1 := 12) rfl rfl rfl rfl (Nat.le_of_ble_eq_true rfl) (adr_lt (Nat.le_of_ble_eq_true rfl)) dX9_isTrueBy_120 ?_
        refine r_iload_n E p0 rfl dX9_isTrueBy_123 ?_
        refine r_cald E rfl rfl rfl (Nat.le_of_ble_eq_true rfl) (adr_lt (Nat.le_of_ble_eq_true rfl)) i1 dX9_isTrueBy_124 ?_
        refine r_iload E v2 rfl dX9_isTrueBy_125 ?_
        refine r_aload E 2 p2 rfl dX9_isTrueBy_127 ?_
        refine r_iload E p3 rfl dX9_isTrueBy_129 ?_
        refine r_callSI E (m_X9_fits (EE_st E) (GX X) (gI h 12 0 p0.toNatClampNeg) v2 p2 p3 hp2 h _ hw) lk_X9_54 (RM_mk (Nat.le_of_ble_eq_true rfl) (Nat.le_of_ble_eq_true rfl)) rfl rfl rfl rfl (Nat.le_of_ble_eq_true rfl) rfl rfl (Nat.le_of_ble_eq_true rfl) (Nat.le_of_ble_eq_true rfl) dX9_isTrueBy_131 (fun r16 u9 hw => ?_)
        obtain ⟨rfl, zr16, hw⟩ := hw
        exact hE _ _ _ _ _ _ (Nat.le_of_ble_eq_true rfl) (Nat.le_of_ble_eq_true rfl) dX9_isTrueBy_134 (isB_nar zr16) ⟨rfl, zr16, hw⟩
set_option maxRecDepth 20000 in
theorem t_X9_truthFor_b33 {X : Ctx} (h : Hp) (o1 : Nat) (x2 : Int32) (x3 : Int64) (x5 : Int32) (ho1 : o1 < 41) (E : EE X cX9_truthFor RX9 6 4 94 0 0) {Q : Int64 → Prop} (hE : ENDl X cX9_truthFor (fun r u => h = u ∧ Q r) NT 0 0) (P5 : Int64 → Int32 → Prop) (hP5 : ∀ (y3 : Int64) (y5 : Int32), P5 y3 y5 → GG X 0 0 NT h [some (rf X 9 0), some (rf X 2 o1), some (.int x2), some (.long y3), none, some (.int y5)] 5 []) (hw : wp_X9_truthFor_b33 o1 x2 x3 x5 h P5 Q) : GG X 0 0 NT h [some (rf X 9 0), some (rf X 2 o1), some (.int x2), some (.long x3), none, some (.int x5)] 33 [] := by
  unfold wp_X9_truthFor_b33 at hw
  obtain ⟨v1, hv1⟩ : ∃ y : Int32, y = x5 + 1 := ⟨_, rfl⟩
  have hw := hw v1 hv1
  refine r_iinc E x5 v1 [some (rf X 9 0), some (rf X 2 o1), some (.int x2), some (.long x3), none, some (.int v1)] rfl (by rw [hv1]; rfl) (Nat.le_of_ble_eq_true rfl) rfl dX9_truthFor_33 ?_
  refine r_goto E 5 (by decide) dX9_truthFor_36 ?_
  exact GG_weak [true, true, true, true, false, true] rfl (hP5 _ _ hw)
set_option maxRecDepth 20000 in
theorem t_X9_truthFor_b5F {X : Ctx} (h : Hp) (o1 : Nat) (x2 : Int32) (x3 : Int64) (x5 : Int32) (ho1 : o1 < 41) (E : EE X cX9_truthFor RX9 6 4 94 0 0) {Q : Int64 → Prop} (hE : ENDl X cX9_truthFor (fun r u => h = u ∧ Q r) NT 0 0)  (P5 : Int64 → Int32 → Prop) (hP5 : ∀ (y3 : Int64) (y5 : Int32), P5 y3 y5 → GG X 0 0 NT h [some (rf X 9 0), some (rf X 2 o1), some (.int x2), some (.long y3), none, some (.int y5)] 5 []) (hw : wp_X9_truthFor_b5F o1 x2 h  Q P5 x3 x5 ) : GG X 0 0 NT h [some (rf X 9 0), some (rf X 2 o1), some (.int x2), some (.long x3), none, some (.int x5)] 5 [] := by
  unfold wp_X9_truthFor_b5F at hw
  refine r_iload E x5 rfl dX9_truthFor_5 ?_
  refine r_aload_n E 9 0 rfl dX9_truthFor_7 ?_
  refine r_getI E fd_X9_30 rfl (Nat.le_of_ble_eq_true rfl) (adr_lt (Nat.le_of_ble_eq_true rfl)) dX9_truthFor_8 ?_
  refine r_icmp_ge E 39 (by decide) dX9_truthFor_11 (fun c1 => ?_) (fun c1 => ?_)
  · have hw := ite_t hw c1
    refine r_lload_n E x3 rfl dX9_truthFor_39 ?_
    exact hE _ _ _ _ _ _ (Nat.le_of_ble_eq_true rfl) (Nat.le_of_ble_eq_true rfl) dX9_truthFor_40 ⟨rfl, hw⟩
  · have hw := ite_f hw c1
    refine r_aload_n E 9 0 rfl dX9_truthFor_14 ?_
    refine r_iload E x5 rfl dX9_truthFor_15 ?_
    refine r_lload_n E x3 rfl dX9_truthFor_17 ?_
    refine r_aload_n E 2 o1 rfl dX9_truthFor_18 ?_
    refine r_iload_n E x2 rfl dX9_truthFor_19 ?_
    refine r_callVI E (m_X9_isTrueBy (EE_st E) (GX X) x5 x3 o1 x2 ho1 h _ hw) lk_X9_50 (RM_mk (Nat.le_of_ble_eq_true rfl) (Nat.le_of_ble_eq_true rfl)) rfl rfl rfl rfl (Nat.le_of_ble_eq_true rfl) (adr_lt (Nat.le_of_ble_eq_true rfl)) (Nat.le_of_ble_eq_true rfl) rfl rfl (Nat.le_of_ble_eq_true rfl) (Nat.le_of_ble_eq_true rfl) dX9_truthFor_20 (fun r2 u9 hw => ?_)
    obtain ⟨rfl, zr2, hw⟩ := hw
    refine r_if_eq E 33 (by decide) dX9_truthFor_23 (fun c3 => ?_) (fun c3 => ?_)
    · have hw := ite_t hw c3
      exact GG_weak [true, true, true, true, false, true] rfl (t_X9_truthFor_b33 h o1 x2 x3 x5 ho1 E hE P5 hP5  hw)
    · have hw := ite_f hw c3
      refine r_lload_n E x3 rfl dX9_truthFor_26 ?_
      refine r_lconst E 1 rfl dX9_truthFor_27 ?_
      refine r_iload E x5 rfl dX9_truthFor_28 ?_
      refine r_lshl E dX9_truthFor_30 ?_
      refine r_lor E dX9_truthFor_31 ?_
      refine GG_topJ fun v4 hv4 => ?_
      have hw := hw v4 hv4
      refine r_lstore_n E [some (rf X 9 0), some (rf X 2 o1), some (.int x2), some (.long v4), none, some (.int x5)] rfl (Nat.le_of_ble_eq_true rfl) rfl dX9_truthFor_32 ?_
      exact GG_weak [true, true, true, true, false, true] rfl (t_X9_truthFor_b33 h o1 x2 v4 x5 ho1 E hE P5 hP5  hw)
set_option maxRecDepth 20000 in
theorem t_X9_truthFor_b5 {X : Ctx} (h : Hp) (o1 : Nat) (x2 : Int32) (x3 : Int64) (x5 : Int32) (ho1 : o1 < 41) (E : EE X cX9_truthFor RX9 6 4 94 0 0) {Q : Int64 → Prop} (hE : ENDl X cX9_truthFor (fun r u => h = u ∧ Q r) NT 0 0)  (hw : wp_X9_truthFor_b5 o1 x2 x3 x5 h  Q) : GG X 0 0 NT h [some (rf X 9 0), some (rf X 2 o1), some (.int x2), some (.long x3), none, some (.int x5)] 5 [] :=
  hw (fun y3 y5  => GG X 0 0 NT h [some (rf X 9 0), some (rf X 2 o1), some (.int x2), some (.long y3), none, some (.int y5)] 5 []) (fun y3 y5  hq => t_X9_truthFor_b5F h o1 x2 y3 y5 ho1 E hE  (fun y3 y5  => GG X 0 0 NT h [some (rf X 9 0), some (rf X 2 o1), some (.int x2), some (.long y3), none, some (.int y5)] 5 []) (fun y3 y5  q => q) hq)
set_option maxRecDepth 20000 in
theorem m_X9_truthFor {l : Launch} (hl : l.stackTraces = false) (G : Gq) (p0 : Nat) (p1 : Int32) (hp0 : p0 < 41) (h : Hp) (Q : Int64 → Prop) (hw : wp_X9_truthFor p0 p1 h Q) : ML l G yX9_truthFor cX9_truthFor 6 (some .long) rm_X9_truthFor NT NT h (fun r => [r 9 0, r 2 p0, .int p1]) (fun r u => h = u ∧ Q r) := by
  refine ML_of (L0 := (fun X => [some (rf X 9 0), some (rf X 2 p0), some (.int p1), none, none, none])) hl (by decide +kernel) rfl (fun _ => Nat.le_of_ble_eq_true rfl) (fun _ => rfl) fun X hXl hXG E hE => ?_
  subst hXl; subst hXG
  unfold wp_X9_truthFor at hw
  refine r_lconst E 0 rfl dX9_truthFor_0 ?_
  refine r_lstore_n E [some (rf X 9 0), some (rf X 2 p0), some (.int p1), some (.long 0), none, none] rfl (Nat.le_of_ble_eq_true rfl) rfl dX9_truthFor_1 ?_
  refine r_iconst E 0 rfl dX9_truthFor_2 ?_
  refine r_istore E [some (rf X 9 0), some (rf X 2 p0), some (.int p1), some (.long 0), none, some (.int 0)] (Nat.le_of_ble_eq_true rfl) rfl dX9_truthFor_3 ?_
  exact GG_weak [true, true, true, true, false, true] rfl (t_X9_truthFor_b5 h p0 p1 0 0 hp0 E hE  hw)
set_option maxRecDepth 20000 in
theorem t_X0_isMet_b34 {X : Ctx} (h : Hp) (x1 : Int32)  (E : EE X cX0_isMet RX0 2 5 119 0 0) {Q : Int32 → Hp → Prop} (hE : ENDi X cX0_isMet .boolean (fun r u => isB r ∧ Q r u) NT 0 0)  (hw : wp_X0_isMet_b34 x1 h  Q) : GG X 0 0 NT h [some (rf X 0 0), some (.int x1)] 34 [] := by
  unfold wp_X0_isMet_b34 at hw
  refine r_aload_n E 0 0 rfl dX0_isMet_34 ?_
  refine r_getJ E fd_X0_110 rfl (Nat.le_of_ble_eq_true rfl) (adr_lt (Nat.le_of_ble_eq_true rfl)) dX0_isMet_35 ?_
  refine r_iload_n E x1 rfl dX0_isMet_38 ?_
  refine r_callSNI E (m_X10_hasBit_ (EE_st E) (GX X) (gJ h 0 0 6) x1 h _ hw) lk_X0_114 (RM_mk (Nat.le_of_ble_eq_true rfl) (Nat.le_of_ble_eq_true rfl)) rfl rfl rfl rfl (Nat.le_of_ble_eq_true rfl) rfl rfl (Nat.le_of_ble_eq_true rfl) (Nat.le_of_ble_eq_true rfl) dX0_isMet_39 (fun r1 u9 hw => ?_)
  obtain ⟨rfl, zr1, hw⟩ := hw
  exact hE _ _ _ _ _ _ (Nat.le_of_ble_eq_true rfl) (Nat.le_of_ble_eq_true rfl) dX0_isMet_42 (isB_nar zr1) ⟨zr1, hw⟩
set_option maxRecDepth 20000 in
theorem m_X0_isMet {l : Launch} (hl : l.stackTraces = false) (G : Gq) (p0 : Int32)  (h : Hp) (Q : Int32 → Hp → Prop) (hw : wp_X0_isMet p0 h Q) : MI l G yX0_isMet cX0_isMet 2 (some .boolean) rm_X0_isMet NT NT h (fun r => [r 0 0, .int p0]) (fun r u => isB r ∧ Q r u) := by
  refine MI_of (L0 := (fun X => [some (rf X 0 0), some (.int p0)])) hl (by decide +kernel) rfl (fun _ => Nat.le_of_ble_eq_true rfl) (fun _ => rfl) fun X hXl hXG E hE => ?_
  subst hXl; subst hXG
  unfold wp_X0_isMet at hw
  refine r_aload_n E 0 0 rfl dX0_isMet_0 ?_
  refine r_getI E fd_X0_50 rfl (Nat.le_of_ble_eq_true rfl) (adr_lt (Nat.le_of_ble_eq_true rfl)) dX0_isMet_1 ?_
  refine r_if_eq E 34 (by decide) dX0_isMet_4 (fun c1 => ?_) (fun c1 => ?_)
  · have hw := ite_t hw c1
    exact GG_weak [true, true] rfl (t_X0_isMet_b34 h p0 E hE  hw)
  · have hw := ite_f hw c1
    refine r_aload_n E 0 0 rfl dX0_isMet_7 ?_
    refine r_aload_n E 0 0 rfl dX0_isMet_8 ?_
    refine r_getS E fd_X0_15 (t := 0) (j1 := 9) rfl rfl rfl rfl (Nat.le_of_ble_eq_true rfl) (adr_lt (Nat.le_of_ble_eq_true rfl)) dX0_isMet_9 ?_
    refine r_aload_n E 0 0 rfl dX0_isMet_12 ?_
    obtain ⟨e2, hve2, hbe2, hw⟩ := hw
    refine r_getR E fd_X0_37 (t := e2) (j1 := 2) rfl hve2 rfl (Nat.le_of_ble_eq_true rfl) (adr_lt (Nat.le_of_ble_eq_true rfl)) dX0_isMet_13 ?_
    refine r_aload_n E 0 0 rfl dX0_isMet_16 ?_
    obtain ⟨e3, hve3, hbe3, hw⟩ := hw
    refine r_getR E fd_X0_30 (t := e3) (j1 := 5) rfl hve3 rfl (Nat.le_of_ble_eq_true rfl) (adr_lt (Nat.le_of_ble_eq_true rfl)) dX0_isMet_17 ?_
    refine r_getI E fd_X0_101 rfl hbe3 (adr_lt hbe3) dX0_isMet_20 ?_
    refine r_callVL E (m_X9_truthFor (EE_st E) (GX X) e2 (gI h 5 e3 3) hbe2 h _ hw) lk_X0_104 (RM_mk (Nat.le_of_ble_eq_true rfl) (Nat.le_of_ble_eq_true rfl)) rfl rfl rfl rfl (Nat.le_of_ble_eq_true rfl) (adr_lt (Nat.le_of_ble_eq_true rfl)) (Nat.le_of_ble_eq_true rfl) rfl rfl (Nat.le_of_ble_eq_true rfl) (Nat.le_of_ble_eq_true rfl) dX0_isMet_23 (fun r4 u9 hw => ?_)
    obtain ⟨rfl, hw⟩ := hw
    refine r_putJ E fd_X0_110 rfl rfl (Nat.le_of_ble_eq_true rfl) (adr_lt (Nat.le_of_ble_eq_true rfl)) rfl dX0_isMet_26 ?_
    refine GG_toph fun h5 hh5 => ?_
    have hw := hw h5 hh5
    refine r_aload_n E 0 0 rfl dX0_isMet_29 ?_
    refine r_iconst E 0 rfl dX0_isMet_30 ?_
    refine r_putI E fd_X0_50 rfl (PI_z isB_0) (Nat.le_of_ble_eq_true rfl) (adr_lt (Nat.le_of_ble_eq_true rfl)) rfl dX0_isMet_31 ?_
    refine GG_toph fun h6 hh6 => ?_
    have hw := hw h6 hh6
    exact GG_weak [true, true] rfl (t_X0_isMet_b34 h6 p0 E hE  hw)
set_option maxRecDepth 20000 in
theorem m_X0_act {l : Launch} (hl : l.stackTraces = false) (G : Gq) (d : Nat) (RS : Int32 → Int32 → Hp → (Hp → Prop) → Prop) (hRS : ∀ (a b : Int32) (u : Hp) (Q : Hp → Prop), RS a b u Q → MV l G yX0_runScript cX0_runScript 6 none (rm_X0_runScript d) NT NT u (fun r => [r 0 0, .int a, .int b]) Q) (p0 : Int32) (p1 : Int32) (p2 : Int32)  (h : Hp) (Q : Hp → Prop) (hw : wp_X0_act RS p0 p1 p2 h Q) : MV l G yX0_act cX0_act 4 none (rm_X0_act d) NT NT h (fun r => [r 0 0, .int p0, .int p1, .int p2]) Q := by
  refine MV_of (L0 := (fun X => [some (rf X 0 0), some (.int p0), some (.int p1), some (.int p2)])) hl (by decide +kernel) rfl (fun _ => Nat.le_of_ble_eq_true rfl) (fun _ => rfl) fun X hXl hXG E hE => ?_
  subst hXl; subst hXG
  unfold wp_X0_act at hw
  refine r_iload_n E p0 rfl dX0_act_0 ?_
  rcases Decidable.em (p0 = 70) with c1 | c1
  · have hw := ite_t hw c1
    refine r_lookup E (off := 156) 157 dX0_act_1 (by decide) (by rw [c1]; rfl) (by decide) ?_
    refine r_aload_n E 0 0 rfl dX0_act_157 ?_
    refine r_aload_n E 0 0 rfl dX0_act_158 ?_
    obtain ⟨e2, hve2, hbe2, hw⟩ := hw
    refine r_getR E fd_X0_30 (t := e2) (j1 := 5) rfl hve2 rfl (Nat.le_of_ble_eq_true rfl) (adr_lt (Nat.le_of_ble_eq_true rfl)) dX0_act_159 ?_
    refine r_getI E fd_X0_101 rfl hbe2 (adr_lt hbe2) dX0_act_162 ?_
    refine r_iconst E 1 rfl dX0_act_165 ?_
    refine r_iload_n E p1 rfl dX0_act_166 ?_
    refine r_ishl E dX0_act_167 ?_
    refine r_ior E dX0_act_168 ?_
    refine r_callVV E (m_X0_changeFlags (EE_st E) (GX X) ((gI h 5 e2 3) ||| (1 <<< (p1 &&& 31))) h _ hw) lk_X0_185 (RM_mk (by simp only [rm_X0_changeFlags, rm_X0_act]; omega) (by simp only [rm_X0_changeFlags, rm_X0_act]; omega)) rfl rfl rfl rfl (Nat.le_of_ble_eq_true rfl) (adr_lt (Nat.le_of_ble_eq_true rfl)) (Nat.le_of_ble_eq_true rfl) rfl rfl (Nat.le_of_ble_eq_true rfl) (Nat.le_of_ble_eq_true rfl) dX0_act_169 (fun h3 hw => ?_)
    refine r_goto E 214 (by decide) dX0_act_172 ?_
    exact hE _ _ _ _ _ (Nat.le_of_ble_eq_true rfl) (Nat.le_of_ble_eq_true rfl) dX0_act_214 hw
  · have hw := ite_f hw c1
    rcases Decidable.em (p0 = 83) with c4 | c4
    · have hw := ite_t hw c4
      refine r_lookup E (off := 205) 206 dX0_act_1 (by decide) (by rw [c4]; rfl) (by decide) ?_
      refine r_aload_n E 0 0 rfl dX0_act_206 ?_
      refine r_iconst E 1 rfl dX0_act_207 ?_
      refine r_putI E fd_X0_57 rfl (PI_z isB_1) (Nat.le_of_ble_eq_true rfl) (adr_lt (Nat.le_of_ble_eq_true rfl)) rfl dX0_act_208 ?_
      refine GG_toph fun h5 hh5 => ?_
      have hw := hw h5 hh5
      refine r_goto E 214 (by decide) dX0_act_211 ?_
      exact hE _ _ _ _ _ (Nat.le_of_ble_eq_true rfl) (Nat.le_of_ble_eq_true rfl) dX0_act_214 hw
    · have hw := ite_f hw c4
      rcases Decidable.em (p0 = 85) with c6 | c6
      · have hw := ite_t hw c6
        refine r_lookup E (off := 174) 175 dX0_act_1 (by decide) (by rw [c6]; rfl) (by decide) ?_
        refine r_aload_n E 0 0 rfl dX0_act_175 ?_
        refine r_aload_n E 0 0 rfl dX0_act_176 ?_
        obtain ⟨e7, hve7, hbe7, hw⟩ := hw
        refine r_getR E fd_X0_30 (t := e7) (j1 := 5) rfl hve7 rfl (Nat.le_of_ble_eq_true rfl) (adr_lt (Nat.le_of_ble_eq_true rfl)) dX0_act_177 ?_
        refine r_getI E fd_X0_101 rfl hbe7 (adr_lt hbe7) dX0_act_180 ?_
        refine r_iconst E 1 rfl dX0_act_183 ?_
        refine r_iload_n E p1 rfl dX0_act_184 ?_
        refine r_ishl E dX0_act_185 ?_
        refine r_iconst E (-1) rfl dX0_act_186 ?_
        refine r_ixor E dX0_act_187 ?_
        refine r_iand E dX0_act_188 ?_
        refine r_callVV E (m_X0_changeFlags (EE_st E) (GX X) ((gI h 5 e7 3) &&& ((1 <<< (p1 &&& 31)) ^^^ (-1))) h _ hw) lk_X0_185 (RM_mk (by simp only [rm_X0_changeFlags, rm_X0_act]; omega) (by simp only [rm_X0_changeFlags, rm_X0_act]; omega)) rfl rfl rfl rfl (Nat.le_of_ble_eq_true rfl) (adr_lt (Nat.le_of_ble_eq_true rfl)) (Nat.le_of_ble_eq_true rfl) rfl rfl (Nat.le_of_ble_eq_true rfl) (Nat.le_of_ble_eq_true rfl) dX0_act_189 (fun h8 hw => ?_)
        refine r_goto E 214 (by decide) dX0_act_192 ?_
        exact hE _ _ _ _ _ (Nat.le_of_ble_eq_true rfl) (Nat.le_of_ble_eq_true rfl) dX0_act_214 hw
      · have hw := ite_f hw c6
        rcases Decidable.em (p0 = 99) with c9 | c9
        · have hw := ite_t hw c9
          refine r_lookup E (off := 142) 143 dX0_act_1 (by decide) (by rw [c9]; rfl) (by decide) ?_
          refine r_aload_n E 0 0 rfl dX0_act_143 ?_
          refine r_iconst E 1 rfl dX0_act_144 ?_
          refine r_putI E fd_X0_54 rfl (PI_z isB_1) (Nat.le_of_ble_eq_true rfl) (adr_lt (Nat.le_of_ble_eq_true rfl)) rfl dX0_act_145 ?_
          refine GG_toph fun h10 hh10 => ?_
          have hw := hw h10 hh10
          refine r_aload_n E 0 0 rfl dX0_act_148 ?_
          refine r_iload_n E p0 rfl dX0_act_149 ?_
          refine r_iload_n E p1 rfl dX0_act_150 ?_
          refine r_callVV E (m_X0_sendOut (EE_st E) (GX X) p0 p1 h10 _ hw) lk_X0_181 (RM_mk (by simp only [rm_X0_sendOut, rm_X0_act]; omega) (by simp only [rm_X0_sendOut, rm_X0_act]; omega)) rfl rfl rfl rfl (Nat.le_of_ble_eq_true rfl) (adr_lt (Nat.le_of_ble_eq_true rfl)) (Nat.le_of_ble_eq_true rfl) rfl rfl (Nat.le_of_ble_eq_true rfl) (Nat.le_of_ble_eq_true rfl) dX0_act_151 (fun h11 hw => ?_)
          refine r_goto E 214 (by decide) dX0_act_154 ?_
          exact hE _ _ _ _ _ (Nat.le_of_ble_eq_true rfl) (Nat.le_of_ble_eq_true rfl) dX0_act_214 hw
        · have hw := ite_f hw c9
          rcases Decidable.em (p0 = 105) with c12 | c12
          · have hw := ite_t hw c12
            refine r_lookup E (off := 194) 195 dX0_act_1 (by decide) (by rw [c12]; rfl) (by decide) ?_
            refine r_aload_n E 0 0 rfl dX0_act_195 ?_
            refine r_iload_n E p1 rfl dX0_act_196 ?_
            refine r_iload_n E p2 rfl dX0_act_197 ?_
            refine r_iconst E 1 rfl dX0_act_198 ?_
            refine r_iadd E dX0_act_199 ?_
            refine r_callVV E (hRS p1 (p2 + 1) h _ hw) lk_X0_64 (RM_mk (by simp only [rm_X0_runScript, rm_X0_act]; omega) (by simp only [rm_X0_runScript, rm_X0_act]; omega)) rfl rfl rfl rfl (Nat.le_of_ble_eq_true rfl) (adr_lt (Nat.le_of_ble_eq_true rfl)) (Nat.le_of_ble_eq_true rfl) rfl rfl (Nat.le_of_ble_eq_true rfl) (Nat.le_of_ble_eq_true rfl) dX0_act_200 (fun h13 hw => ?_)
            refine r_goto E 214 (by decide) dX0_act_203 ?_
            exact hE _ _ _ _ _ (Nat.le_of_ble_eq_true rfl) (Nat.le_of_ble_eq_true rfl) dX0_act_214 hw
          · have hw := ite_f hw c12
            rcases Decidable.em (p0 = 107) with c14 | c14
            · have hw := ite_t hw c14
              refine r_lookup E (off := 107) 108 dX0_act_1 (by decide) (by rw [c14]; rfl) (by decide) ?_
              refine r_aload_n E 0 0 rfl dX0_act_108 ?_
              obtain ⟨e15, hve15, hbe15, hw⟩ := hw
              refine r_getR E fd_X0_30 (t := e15) (j1 := 5) rfl hve15 rfl (Nat.le_of_ble_eq_true rfl) (adr_lt (Nat.le_of_ble_eq_true rfl)) dX0_act_109 ?_
              refine r_iconst E 0 rfl dX0_act_112 ?_
              refine r_putI E fd_X0_72 rfl PI_int hbe15 (adr_lt hbe15) rfl dX0_act_113 ?_
              refine GG_toph fun h16 hh16 => ?_
              have hw := hw h16 hh16
              refine r_goto E 214 (by decide) dX0_act_116 ?_
              exact hE _ _ _ _ _ (Nat.le_of_ble_eq_true rfl) (Nat.le_of_ble_eq_true rfl) dX0_act_214 hw
            · have hw := ite_f hw c14
              rcases Decidable.em (p0 = 109) with c17 | c17
              · have hw := ite_t hw c17
                refine r_lookup E (off := 99) 100 dX0_act_1 (by decide) (by rw [c17]; rfl) (by decide) ?_
                refine r_aload_n E 0 0 rfl dX0_act_100 ?_
                refine r_iload_n E p1 rfl dX0_act_101 ?_
                refine r_callVV E (m_X0_putInto (EE_st E) (GX X) p1 h _ hw) lk_X0_177 (RM_mk (by simp only [rm_X0_putInto, rm_X0_act]; omega) (by simp only [rm_X0_putInto, rm_X0_act]; omega)) rfl rfl rfl rfl (Nat.le_of_ble_eq_true rfl) (adr_lt (Nat.le_of_ble_eq_true rfl)) (Nat.le_of_ble_eq_true rfl) rfl rfl (Nat.le_of_ble_eq_true rfl) (Nat.le_of_ble_eq_true rfl) dX0_act_102 (fun h18 hw => ?_)
                refine r_goto E 214 (by decide) dX0_act_105 ?_
                exact hE _ _ _ _ _ (Nat.le_of_ble_eq_true rfl) (Nat.le_of_ble_eq_true rfl) dX0_act_214 hw
              · have hw := ite_f hw c17
                rcases Decidable.em (p0 = 114) with c19 | c19
                · have hw := ite_t hw c19
                  refine r_lookup E (off := 130) 131 dX0_act_1 (by decide) (by rw [c19]; rfl) (by decide) ?_
                  refine r_aload_n E 0 0 rfl dX0_act_131 ?_
                  obtain ⟨e20, hve20, hbe20, hw⟩ := hw
                  refine r_getR E fd_X0_30 (t := e20) (j1 := 5) rfl hve20 rfl (Nat.le_of_ble_eq_true rfl) (adr_lt (Nat.le_of_ble_eq_true rfl)) dX0_act_132 ?_
                  refine r_bipush E 9 rfl dX0_act_135 ?_
                  refine r_putI E fd_X0_72 rfl PI_int hbe20 (adr_lt hbe20) rfl dX0_act_137 ?_
                  refine GG_toph fun h21 hh21 => ?_
                  have hw := hw h21 hh21
                  refine r_goto E 214 (by decide) dX0_act_140 ?_
                  exact hE _ _ _ _ _ (Nat.le_of_ble_eq_true rfl) (Nat.le_of_ble_eq_true rfl) dX0_act_214 hw
                · have hw := ite_f hw c19
                  rcases Decidable.em (p0 = 118) with c22 | c22
                  · have hw := ite_t hw c22
                    refine r_lookup E (off := 142) 143 dX0_act_1 (by decide) (by rw [c22]; rfl) (by decide) ?_
                    refine r_aload_n E 0 0 rfl dX0_act_143 ?_
                    refine r_iconst E 1 rfl dX0_act_144 ?_
                    refine r_putI E fd_X0_54 rfl (PI_z isB_1) (Nat.le_of_ble_eq_true rfl) (adr_lt (Nat.le_of_ble_eq_true rfl)) rfl dX0_act_145 ?_
                    refine GG_toph fun h23 hh23 => ?_
                    have hw := hw h23 hh23
                    refine r_aload_n E 0 0 rfl dX0_act_148 ?_
                    refine r_iload_n E p0 rfl dX0_act_149 ?_
                    refine r_iload_n E p1 rfl dX0_act_150 ?_
                    refine r_callVV E (m_X0_sendOut (EE_st E) (GX X) p0 p1 h23 _ hw) lk_X0_181 (RM_mk (by simp only [rm_X0_sendOut, rm_X0_act]; omega) (by simp only [rm_X0_sendOut, rm_X0_act]; omega)) rfl rfl rfl rfl (Nat.le_of_ble_eq_true rfl) (adr_lt (Nat.le_of_ble_eq_true rfl)) (Nat.le_of_ble_eq_true rfl) rfl rfl (Nat.le_of_ble_eq_true rfl) (Nat.le_of_ble_eq_true rfl) dX0_act_151 (fun h24 hw => ?_)
                    refine r_goto E 214 (by decide) dX0_act_154 ?_
                    exact hE _ _ _ _ _ (Nat.le_of_ble_eq_true rfl) (Nat.le_of_ble_eq_true rfl) dX0_act_214 hw
                  · have hw := ite_f hw c22
                    rcases Decidable.em (p0 = 119) with c25 | c25
                    · have hw := ite_t hw c25
                      refine r_lookup E (off := 142) 143 dX0_act_1 (by decide) (by rw [c25]; rfl) (by decide) ?_
                      refine r_aload_n E 0 0 rfl dX0_act_143 ?_
                      refine r_iconst E 1 rfl dX0_act_144 ?_
                      refine r_putI E fd_X0_54 rfl (PI_z isB_1) (Nat.le_of_ble_eq_true rfl) (adr_lt (Nat.le_of_ble_eq_true rfl)) rfl dX0_act_145 ?_
                      refine GG_toph fun h26 hh26 => ?_
                      have hw := hw h26 hh26
                      refine r_aload_n E 0 0 rfl dX0_act_148 ?_
                      refine r_iload_n E p0 rfl dX0_act_149 ?_
                      refine r_iload_n E p1 rfl dX0_act_150 ?_
                      refine r_callVV E (m_X0_sendOut (EE_st E) (GX X) p0 p1 h26 _ hw) lk_X0_181 (RM_mk (by simp only [rm_X0_sendOut, rm_X0_act]; omega) (by simp only [rm_X0_sendOut, rm_X0_act]; omega)) rfl rfl rfl rfl (Nat.le_of_ble_eq_true rfl) (adr_lt (Nat.le_of_ble_eq_true rfl)) (Nat.le_of_ble_eq_true rfl) rfl rfl (Nat.le_of_ble_eq_true rfl) (Nat.le_of_ble_eq_true rfl) dX0_act_151 (fun h27 hw => ?_)
                      refine r_goto E 214 (by decide) dX0_act_154 ?_
                      exact hE _ _ _ _ _ (Nat.le_of_ble_eq_true rfl) (Nat.le_of_ble_eq_true rfl) dX0_act_214 hw
                    · have hw := ite_f hw c25
                      rcases Decidable.em (p0 = 120) with c28 | c28
                      · have hw := ite_t hw c28
                        refine r_lookup E (off := 118) 119 dX0_act_1 (by decide) (by rw [c28]; rfl) (by decide) ?_
                        refine r_aload_n E 0 0 rfl dX0_act_119 ?_
                        obtain ⟨e29, hve29, hbe29, hw⟩ := hw
                        refine r_getR E fd_X0_30 (t := e29) (j1 := 5) rfl hve29 rfl (Nat.le_of_ble_eq_true rfl) (adr_lt (Nat.le_of_ble_eq_true rfl)) dX0_act_120 ?_
                        refine r_bipush E 8 rfl dX0_act_123 ?_
                        refine r_putI E fd_X0_72 rfl PI_int hbe29 (adr_lt hbe29) rfl dX0_act_125 ?_
                        refine GG_toph fun h30 hh30 => ?_
                        have hw := hw h30 hh30
                        refine r_goto E 214 (by decide) dX0_act_128 ?_
                        exact hE _ _ _ _ _ (Nat.le_of_ble_eq_true rfl) (Nat.le_of_ble_eq_true rfl) dX0_act_214 hw
                      · have hw := ite_f hw c28
                        refine r_lookup E (off := 213) 214 dX0_act_1 (by decide) (by show Op.lookupswitch.offset [(70, 156), (83, 205), (85, 174), (99, 142), (105, 194), (107, 107), (109, 99), (114, 130), (118, 142), (119, 142), (120, 118)] 213 _ = 213; rw [lv_osw (a := 70) c1 rfl, lv_osw (a := 83) c4 rfl, lv_osw (a := 85) c6 rfl, lv_osw (a := 99) c9 rfl, lv_osw (a := 105) c12 rfl, lv_osw (a := 107) c14 rfl, lv_osw (a := 109) c17 rfl, lv_osw (a := 114) c19 rfl, lv_osw (a := 118) c22 rfl, lv_osw (a := 119) c25 rfl, lv_osw (a := 120) c28 rfl]; rfl) (by decide) ?_
                        exact hE _ _ _ _ _ (Nat.le_of_ble_eq_true rfl) (Nat.le_of_ble_eq_true rfl) dX0_act_214 hw
set_option maxRecDepth 20000 in
theorem t_X0_endsBy_b144 {X : Ctx} (h : Hp) (o1 : Nat) (x2 : Int32) (x3 : Int32) (x4 : Int32) (ho1 : o1 < 48) (d : Nat) (RS : Int32 → Int32 → Hp → (Hp → Prop) → Prop) (hRS : ∀ (a b : Int32) (u : Hp) (Q : Hp → Prop), RS a b u Q → MV (xL X) (GX X) yX0_runScript cX0_runScript 6 none (rm_X0_runScript d) NT NT u (fun r => [r 0 0, .int a, .int b]) Q) (E : EE X cX0_endsBy RX0 7 (rm_X0_endsBy d).frames (rm_X0_endsBy d).locals 0 0) {Q : Int32 → Hp → Prop} (hE : ENDi X cX0_endsBy .boolean (fun r u => isB r ∧ Q r u) NT 0 0) (P3 : Int32 → Hp → Prop) (hP3 : ∀ (y4 : Int32) (u : Hp), P3 y4 u → GG X 0 0 NT u [some (rf X 0 0), some (rf X 6 o1), some (.int x2), some (.int x3), some (.int y4), none, none] 3 []) (hw : wp_X0_endsBy_b144 RS o1 x2 x3 x4 h P3 Q) : GG X 0 0 NT h [some (rf X 0 0), some (rf X 6 o1), some (.int x2), some (.int x3), some (.int x4), none, none] 144 [] := by
  unfold wp_X0_endsBy_b144 at hw
  obtain ⟨v1, hv1⟩ : ∃ y : Int32, y = x4 + 1 := ⟨_, rfl⟩
  have hw := hw v1 hv1
  refine r_iinc E x4 v1 [some (rf X 0 0), some (rf X 6 o1), some (.int x2), some (.int x3), some (.int v1), none, none] rfl (by rw [hv1]; rfl) (Nat.le_of_ble_eq_true rfl) rfl dX0_endsBy_144 ?_
  refine r_goto E 3 (by decide) dX0_endsBy_147 ?_
  exact GG_weak [true, true, true, true, true, false, false] rfl (hP3 _ _ hw)
set_option maxRecDepth 20000 in
theorem t_X0_endsBy_b3F {X : Ctx} (h : Hp) (o1 : Nat) (x2 : Int32) (x3 : Int32) (x4 : Int32) (ho1 : o1 < 48) (d : Nat) (RS : Int32 → Int32 → Hp → (Hp → Prop) → Prop) (hRS : ∀ (a b : Int32) (u : Hp) (Q : Hp → Prop), RS a b u Q → MV (xL X) (GX X) yX0_runScript cX0_runScript 6 none (rm_X0_runScript d) NT NT u (fun r => [r 0 0, .int a, .int b]) Q) (E : EE X cX0_endsBy RX0 7 (rm_X0_endsBy d).frames (rm_X0_endsBy d).locals 0 0) {Q : Int32 → Hp → Prop} (hE : ENDi X cX0_endsBy .boolean (fun r u => isB r ∧ Q r u) NT 0 0)  (P3 : Int32 → Hp → Prop) (hP3 : ∀ (y4 : Int32) (u : Hp), P3 y4 u → GG X 0 0 NT u [some (rf X 0 0), some (rf X 6 o1), some (.int x2), some (.int x3), some (.int y4), none, none] 3 []) (hw : wp_X0_endsBy_b3F RS o1 x2 x3   Q P3 x4 h) : GG X 0 0 NT h [some (rf X 0 0), some (rf X 6 o1), some (.int x2), some (.int x3), some (.int x4), none, none] 3 [] := by
  unfold wp_X0_endsBy_b3F at hw
  refine r_iload E x4 rfl dX0_endsBy_3 ?_
  refine r_aload_n E 6 o1 rfl dX0_endsBy_5 ?_
  refine r_getI E fd_X0_118 rfl ho1 (adr_lt ho1) dX0_endsBy_6 ?_
  refine r_icmp_ge E 150 (by decide) dX0_endsBy_9 (fun c1 => ?_) (fun c1 => ?_)
  · have hw := ite_t hw c1
    refine r_iconst E 0 rfl dX0_endsBy_150 ?_
    exact hE _ _ _ _ _ _ (Nat.le_of_ble_eq_true rfl) (Nat.le_of_ble_eq_true rfl) dX0_endsBy_151 (isB_nar isB_0) ⟨isB_0, hw⟩
  · have hw := ite_f hw c1
    refine r_aload_n E 0 0 rfl dX0_endsBy_12 ?_
    refine r_getI E fd_X0_57 rfl (Nat.le_of_ble_eq_true rfl) (adr_lt (Nat.le_of_ble_eq_true rfl)) dX0_endsBy_13 ?_
    refine r_if_ne E 150 (by decide) dX0_endsBy_16 (fun c2 => ?_) (fun c2 => ?_)
    · have hw := ite_t hw c2
      refine r_aload_n E 6 o1 rfl dX0_endsBy_19 ?_
      refine r_getS E fd_X0_119 (t := o1) (j1 := 23) rfl rfl rfl rfl ho1 (adr_lt ho1) dX0_endsBy_20 ?_
      refine r_iload E x4 rfl dX0_endsBy_23 ?_
      obtain ⟨i3, hw⟩ := hw
      refine r_cald E rfl rfl rfl ho1 (adr_lt ho1) i3 dX0_endsBy_25 ?_
      refine GG_topI fun v4 hv4 => ?_
      have hw := hw v4 hv4
      refine r_istore E [some (rf X 0 0), some (rf X 6 o1), some (.int x2), some (.int x3), some (.int x4), some (.int v4), none] (Nat.le_of_ble_eq_true rfl) rfl dX0_endsBy_26 ?_
      refine r_aload_n E 6 o1 rfl dX0_endsBy_28 ?_
      refine r_getS E fd_X0_123 (t := o1) (j1 := 24) rfl rfl rfl rfl ho1 (adr_lt ho1) dX0_endsBy_29 ?_
      refine r_iload E x4 rfl dX0_endsBy_32 ?_
      refine r_iald E rfl rfl rfl ho1 (adr_lt ho1) i3 dX0_endsBy_34 ?_
      refine GG_topI fun v5 hv5 => ?_
      have hw := hw v5 hv5
      refine r_istore E [some (rf X 0 0), some (rf X 6 o1), some (.int x2), some (.int x3), some (.int x4), some (.int v4), some (.int v5)] (Nat.le_of_ble_eq_true rfl) rfl dX0_endsBy_35 ?_
      refine r_aload_n E 0 0 rfl dX0_endsBy_37 ?_
      refine r_iload E v4 rfl dX0_endsBy_38 ?_
      refine r_callVI E (m_X0_isClash (EE_st E) (GX X) v4 h _ hw) lk_X0_126 (RM_mk (by simp only [rm_X0_isClash, rm_X0_endsBy]; omega) (by simp only [rm_X0_isClash, rm_X0_endsBy]; omega)) rfl rfl rfl rfl (Nat.le_of_ble_eq_true rfl) (adr_lt (Nat.le_of_ble_eq_true rfl)) (Nat.le_of_ble_eq_true rfl) rfl rfl (Nat.le_of_ble_eq_true rfl) (Nat.le_of_ble_eq_true rfl) dX0_endsBy_40 (fun r6 u9 hw => ?_)
      obtain ⟨rfl, zr6, hw⟩ := hw
      refine r_if_eq E 62 (by decide) dX0_endsBy_43 (fun c7 => ?_) (fun c7 => ?_)
      · have hw := ite_t hw c7
        refine r_aload_n E 0 0 rfl dX0_endsBy_62 ?_
        refine r_iload E v4 rfl dX0_endsBy_63 ?_
        refine r_iload E v5 rfl dX0_endsBy_65 ?_
        refine r_iload_n E x3 rfl dX0_endsBy_67 ?_
        refine r_callVI E (m_X0_isFault (EE_st E) (GX X) v4 v5 x3 h _ hw) lk_X0_133 (RM_mk (by simp only [rm_X0_isFault, rm_X0_endsBy]; omega) (by simp only [rm_X0_isFault, rm_X0_endsBy]; omega)) rfl rfl rfl rfl (Nat.le_of_ble_eq_true rfl) (adr_lt (Nat.le_of_ble_eq_true rfl)) (Nat.le_of_ble_eq_true rfl) rfl rfl (Nat.le_of_ble_eq_true rfl) (Nat.le_of_ble_eq_true rfl) dX0_endsBy_68 (fun r8 h9 hw => ?_)
        obtain ⟨zr8, hw⟩ := hw
        refine r_if_ne E 144 (by decide) dX0_endsBy_71 (fun c10 => ?_) (fun c10 => ?_)
        · have hw := ite_t hw c10
          refine r_aload_n E 0 0 rfl dX0_endsBy_74 ?_
          obtain ⟨e11, hve11, hbe11, hw⟩ := hw
          refine r_getR E fd_X0_30 (t := e11) (j1 := 5) rfl hve11 rfl (Nat.le_of_ble_eq_true rfl) (adr_lt (Nat.le_of_ble_eq_true rfl)) dX0_endsBy_75 ?_
          refine r_getI E fd_X0_137 rfl hbe11 (adr_lt hbe11) dX0_endsBy_78 ?_
          refine r_sipush E 200 rfl dX0_endsBy_81 ?_
          refine r_icmp_lt E 94 (by decide) dX0_endsBy_84 (fun c12 => ?_) (fun c12 => ?_)
          · have hw := ite_t hw c12
            refine r_aload_n E 0 0 rfl dX0_endsBy_94 ?_
            obtain ⟨e13, hve13, hbe13, hw⟩ := hw
            refine r_getR E fd_X0_30 (t := e13) (j1 := 5) rfl hve13 rfl (Nat.le_of_ble_eq_true rfl) (adr_lt (Nat.le_of_ble_eq_true rfl)) dX0_endsBy_95 ?_
            refine r_getS E fd_X0_140 (t := e13) (j1 := 26) rfl rfl rfl rfl hbe13 (adr_lt hbe13) dX0_endsBy_98 ?_
            refine r_aload_n E 0 0 rfl dX0_endsBy_101 ?_
            obtain ⟨e14, hve14, hbe14, hw⟩ := hw
            refine r_getR E fd_X0_30 (t := e14) (j1 := 5) rfl hve14 rfl (Nat.le_of_ble_eq_true rfl) (adr_lt (Nat.le_of_ble_eq_true rfl)) dX0_endsBy_102 ?_
            refine r_getI E fd_X0_137 rfl hbe14 (adr_lt hbe14) dX0_endsBy_105 ?_
            refine r_iload_n E x2 rfl dX0_endsBy_108 ?_
            refine r_iload E x4 rfl dX0_endsBy_109 ?_
            refine r_iadd E dX0_endsBy_111 ?_
            obtain ⟨i15, hw⟩ := hw
            refine r_iast E rfl rfl rfl hbe13 (adr_lt hbe13) i15 dX0_endsBy_112 ?_
            refine GG_toph fun h16 hh16 => ?_
            have hw := hw h16 hh16
            refine r_aload_n E 0 0 rfl dX0_endsBy_113 ?_
            obtain ⟨e17, hve17, hbe17, hw⟩ := hw
            refine r_getR E fd_X0_30 (t := e17) (j1 := 5) rfl hve17 rfl (Nat.le_of_ble_eq_true rfl) (adr_lt (Nat.le_of_ble_eq_true rfl)) dX0_endsBy_114 ?_
            refine r_dup E rfl dX0_endsBy_117 ?_
            refine r_getI E fd_X0_137 rfl hbe17 (adr_lt hbe17) dX0_endsBy_118 ?_
            refine r_iconst E 1 rfl dX0_endsBy_121 ?_
            refine r_iadd E dX0_endsBy_122 ?_
            refine r_putI E fd_X0_137 rfl PI_int hbe17 (adr_lt hbe17) rfl dX0_endsBy_123 ?_
            refine GG_toph fun h18 hh18 => ?_
            have hw := hw h18 hh18
            refine r_aload_n E 0 0 rfl dX0_endsBy_126 ?_
            refine r_iload E v4 rfl dX0_endsBy_127 ?_
            refine r_iload E v5 rfl dX0_endsBy_129 ?_
            refine r_iload_n E x3 rfl dX0_endsBy_131 ?_
            refine r_callVV E (m_X0_act (EE_st E) (GX X) d RS hRS v4 v5 x3 h18 _ hw) lk_X0_143 (RM_mk (by simp only [rm_X0_act, rm_X0_endsBy]; omega) (by simp only [rm_X0_act, rm_X0_endsBy]; omega)) rfl rfl rfl rfl (Nat.le_of_ble_eq_true rfl) (adr_lt (Nat.le_of_ble_eq_true rfl)) (Nat.le_of_ble_eq_true rfl) rfl rfl (Nat.le_of_ble_eq_true rfl) (Nat.le_of_ble_eq_true rfl) dX0_endsBy_132 (fun h19 hw => ?_)
            refine r_iload E v4 rfl dX0_endsBy_135 ?_
            refine r_bipush E 115 rfl dX0_endsBy_137 ?_
            refine r_icmp_ne E 144 (by decide) dX0_endsBy_139 (fun c20 => ?_) (fun c20 => ?_)
            · have hw := ite_t hw c20
              refine r_iconst E 1 rfl dX0_endsBy_142 ?_
              exact hE _ _ _ _ _ _ (Nat.le_of_ble_eq_true rfl) (Nat.le_of_ble_eq_true rfl) dX0_endsBy_143 (isB_nar isB_1) ⟨isB_1, hw⟩
            · have hw := ite_f hw c20
              exact GG_weak [true, true, true, true, true, false, false] rfl (t_X0_endsBy_b144 h19 o1 x2 x3 x4 ho1 d RS hRS E hE P3 hP3  hw)
          · have hw := ite_f hw c12
            refine r_aload_n E 0 0 rfl dX0_endsBy_87 ?_
            refine r_iconst E 1 rfl dX0_endsBy_88 ?_
            refine r_putI E fd_X0_57 rfl (PI_z isB_1) (Nat.le_of_ble_eq_true rfl) (adr_lt (Nat.le_of_ble_eq_true rfl)) rfl dX0_endsBy_89 ?_
            refine GG_toph fun h21 hh21 => ?_
            have hw := hw h21 hh21
            refine r_iconst E 0 rfl dX0_endsBy_92 ?_
            exact hE _ _ _ _ _ _ (Nat.le_of_ble_eq_true rfl) (Nat.le_of_ble_eq_true rfl) dX0_endsBy_93 (isB_nar isB_0) ⟨isB_0, hw⟩
        · have hw := ite_f hw c10
          exact GG_weak [true, true, true, true, true, false, false] rfl (t_X0_endsBy_b144 h9 o1 x2 x3 x4 ho1 d RS hRS E hE P3 hP3  hw)
      · have hw := ite_f hw c7
        refine r_aload_n E 0 0 rfl dX0_endsBy_46 ?_
        obtain ⟨e22, hve22, hbe22, hw⟩ := hw
        refine r_getR E fd_X0_30 (t := e22) (j1 := 5) rfl hve22 rfl (Nat.le_of_ble_eq_true rfl) (adr_lt (Nat.le_of_ble_eq_true rfl)) dX0_endsBy_47 ?_
        refine r_dup E rfl dX0_endsBy_50 ?_
        refine r_getI E fd_X0_130 rfl hbe22 (adr_lt hbe22) dX0_endsBy_51 ?_
        refine r_iconst E 1 rfl dX0_endsBy_54 ?_
        refine r_iadd E dX0_endsBy_55 ?_
        refine r_putI E fd_X0_130 rfl PI_int hbe22 (adr_lt hbe22) rfl dX0_endsBy_56 ?_
        refine GG_toph fun h23 hh23 => ?_
        have hw := hw h23 hh23
        refine r_goto E 144 (by decide) dX0_endsBy_59 ?_
        exact GG_weak [true, true, true, true, true, false, false] rfl (t_X0_endsBy_b144 h23 o1 x2 x3 x4 ho1 d RS hRS E hE P3 hP3  hw)
    · have hw := ite_f hw c2
      refine r_iconst E 0 rfl dX0_endsBy_150 ?_
      exact hE _ _ _ _ _ _ (Nat.le_of_ble_eq_true rfl) (Nat.le_of_ble_eq_true rfl) dX0_endsBy_151 (isB_nar isB_0) ⟨isB_0, hw⟩
set_option maxRecDepth 20000 in
theorem t_X0_endsBy_b3 {X : Ctx} (h : Hp) (o1 : Nat) (x2 : Int32) (x3 : Int32) (x4 : Int32) (ho1 : o1 < 48) (d : Nat) (RS : Int32 → Int32 → Hp → (Hp → Prop) → Prop) (hRS : ∀ (a b : Int32) (u : Hp) (Q : Hp → Prop), RS a b u Q → MV (xL X) (GX X) yX0_runScript cX0_runScript 6 none (rm_X0_runScript d) NT NT u (fun r => [r 0 0, .int a, .int b]) Q) (E : EE X cX0_endsBy RX0 7 (rm_X0_endsBy d).frames (rm_X0_endsBy d).locals 0 0) {Q : Int32 → Hp → Prop} (hE : ENDi X cX0_endsBy .boolean (fun r u => isB r ∧ Q r u) NT 0 0)  (hw : wp_X0_endsBy_b3 RS o1 x2 x3 x4 h  Q) : GG X 0 0 NT h [some (rf X 0 0), some (rf X 6 o1), some (.int x2), some (.int x3), some (.int x4), none, none] 3 [] :=
  hw (fun y4 u => GG X 0 0 NT u [some (rf X 0 0), some (rf X 6 o1), some (.int x2), some (.int x3), some (.int y4), none, none] 3 []) (fun y4 u hq => t_X0_endsBy_b3F u o1 x2 x3 y4 ho1 d RS hRS E hE  (fun y4 u => GG X 0 0 NT u [some (rf X 0 0), some (rf X 6 o1), some (.int x2), some (.int x3), some (.int y4), none, none] 3 []) (fun y4 u q => q) hq)
set_option maxRecDepth 20000 in
theorem m_X0_endsBy {l : Launch} (hl : l.stackTraces = false) (G : Gq) (d : Nat) (RS : Int32 → Int32 → Hp → (Hp → Prop) → Prop) (hRS : ∀ (a b : Int32) (u : Hp) (Q : Hp → Prop), RS a b u Q → MV l G yX0_runScript cX0_runScript 6 none (rm_X0_runScript d) NT NT u (fun r => [r 0 0, .int a, .int b]) Q) (p0 : Nat) (p1 : Int32) (p2 : Int32) (hp0 : p0 < 48) (h : Hp) (Q : Int32 → Hp → Prop) (hw : wp_X0_endsBy RS p0 p1 p2 h Q) : MI l G yX0_endsBy cX0_endsBy 7 (some .boolean) (rm_X0_endsBy d) NT NT h (fun r => [r 0 0, r 6 p0, .int p1, .int p2]) (fun r u => isB r ∧ Q r u) := by
  refine MI_of (L0 := (fun X => [some (rf X 0 0), some (rf X 6 p0), some (.int p1), some (.int p2), none, none, none])) hl (by decide +kernel) rfl (fun _ => Nat.le_of_ble_eq_true rfl) (fun _ => rfl) fun X hXl hXG E hE => ?_
  subst hXl; subst hXG
  unfold wp_X0_endsBy at hw
  refine r_iconst E 0 rfl dX0_endsBy_0 ?_
  refine r_istore E [some (rf X 0 0), some (rf X 6 p0), some (.int p1), some (.int p2), some (.int 0), none, none] (Nat.le_of_ble_eq_true rfl) rfl dX0_endsBy_1 ?_
  exact GG_weak [true, true, true, true, true, false, false] rfl (t_X0_endsBy_b3 h p0 p1 p2 0 hp0 d RS hRS E hE  hw)
set_option maxRecDepth 20000 in
theorem t_X0_runScriptB_b95 {X : Ctx} (h : Hp) (x1 : Int32) (x2 : Int32) (o3 : Nat) (x4 : Int32) (ho3 : o3 < 4) (d : Nat) (RS : Int32 → Int32 → Hp → (Hp → Prop) → Prop) (hRS : ∀ (a b : Int32) (u : Hp) (Q : Hp → Prop), RS a b u Q → MV (xL X) (GX X) yX0_runScript cX0_runScript 6 none (rm_X0_runScript d) NT NT u (fun r => [r 0 0, .int a, .int b]) Q) (E : EE X cX0_runScript RX0 6 (rm_X0_runScript (d + 1)).frames (rm_X0_runScript (d + 1)).locals 0 0) {Q : Hp → Prop} (hE : ENDv X cX0_runScript Q NT 0 0) (P16 : Int32 → Hp → Prop) (hP16 : ∀ (y4 : Int32) (u : Hp), P16 y4 u → GG X 0 0 NT u [some (rf X 0 0), some (.int x1), some (.int x2), some (rf X 7 o3), some (.int y4), none] 16 []) (hw : wp_X0_runScriptB_b95 RS x1 x2 o3 x4 h P16 Q) : GG X 0 0 NT h [some (rf X 0 0), some (.int x1), some (.int x2), some (rf X 7 o3), some (.int x4), none] 95 [] := by
  unfold wp_X0_runScriptB_b95 at hw
  obtain ⟨v1, hv1⟩ : ∃ y : Int32, y = x4 + 1 := ⟨_, rfl⟩
  have hw := hw v1 hv1
  refine r_iinc E x4 v1 [some (rf X 0 0), some (.int x1), some (.int x2), some (rf X 7 o3), some (.int v1), none] rfl (by rw [hv1]; rfl) (Nat.le_of_ble_eq_true rfl) rfl dX0_runScript_95 ?_
  refine r_goto E 16 (by decide) dX0_runScript_98 ?_
  exact GG_weak [true, true, true, true, true, false] rfl (hP16 _ _ hw)
set_option maxRecDepth 20000 in
theorem t_X0_runScriptB_b73 {X : Ctx} (h : Hp) (x1 : Int32) (x2 : Int32) (o3 : Nat) (x4 : Int32) (o5 : Nat) (ho3 : o3 < 4) (ho5 : o5 < 48) (d : Nat) (RS : Int32 → Int32 → Hp → (Hp → Prop) → Prop) (hRS : ∀ (a b : Int32) (u : Hp) (Q : Hp → Prop), RS a b u Q → MV (xL X) (GX X) yX0_runScript cX0_runScript 6 none (rm_X0_runScript d) NT NT u (fun r => [r 0 0, .int a, .int b]) Q) (E : EE X cX0_runScript RX0 6 (rm_X0_runScript (d + 1)).frames (rm_X0_runScript (d + 1)).locals 0 0) {Q : Hp → Prop} (hE : ENDv X cX0_runScript Q NT 0 0) (P16 : Int32 → Hp → Prop) (hP16 : ∀ (y4 : Int32) (u : Hp), P16 y4 u → GG X 0 0 NT u [some (rf X 0 0), some (.int x1), some (.int x2), some (rf X 7 o3), some (.int y4), none] 16 []) (hw : wp_X0_runScriptB_b73 RS x1 x2 o3 x4 o5 h P16 Q) : GG X 0 0 NT h [some (rf X 0 0), some (.int x1), some (.int x2), some (rf X 7 o3), some (.int x4), some (rf X 6 o5)] 73 [] := by
  unfold wp_X0_runScriptB_b73 at hw
  refine r_aload_n E 0 0 rfl dX0_runScript_73 ?_
  refine r_aload E 6 o5 rfl dX0_runScript_74 ?_
  refine r_sipush E 1000 rfl dX0_runScript_76 ?_
  refine r_iload_n E x1 rfl dX0_runScript_79 ?_
  refine r_imul E dX0_runScript_80 ?_
  refine r_bipush E 10 rfl dX0_runScript_81 ?_
  refine r_iload E x4 rfl dX0_runScript_83 ?_
  refine r_imul E dX0_runScript_85 ?_
  refine r_iadd E dX0_runScript_86 ?_
  refine r_iload_n E x2 rfl dX0_runScript_87 ?_
  refine r_callVI E (m_X0_endsBy (EE_st E) (GX X) d RS hRS o5 ((1000 * x1) + (10 * x4)) x2 ho5 h _ hw) lk_X0_97 (RM_mk (by simp only [rm_X0_endsBy, rm_X0_runScript]; omega) (by simp only [rm_X0_endsBy, rm_X0_runScript]; omega)) rfl rfl rfl rfl (Nat.le_of_ble_eq_true rfl) (adr_lt (Nat.le_of_ble_eq_true rfl)) (Nat.le_of_ble_eq_true rfl) rfl rfl (Nat.le_of_ble_eq_true rfl) (Nat.le_of_ble_eq_true rfl) dX0_runScript_88 (fun r1 h2 hw => ?_)
  obtain ⟨zr1, hw⟩ := hw
  refine r_if_eq E 95 (by decide) dX0_runScript_91 (fun c3 => ?_) (fun c3 => ?_)
  · have hw := ite_t hw c3
    exact GG_weak [true, true, true, true, true, false] rfl (t_X0_runScriptB_b95 h2 x1 x2 o3 x4 ho3 d RS hRS E hE P16 hP16  hw)
  · have hw := ite_f hw c3
    exact hE _ _ _ _ _ (Nat.le_of_ble_eq_true rfl) (Nat.le_of_ble_eq_true rfl) dX0_runScript_94 hw
set_option maxRecDepth 20000 in
theorem t_X0_runScriptB_b16F {X : Ctx} (h : Hp) (x1 : Int32) (x2 : Int32) (o3 : Nat) (x4 : Int32) (ho3 : o3 < 4) (d : Nat) (RS : Int32 → Int32 → Hp → (Hp → Prop) → Prop) (hRS : ∀ (a b : Int32) (u : Hp) (Q : Hp → Prop), RS a b u Q → MV (xL X) (GX X) yX0_runScript cX0_runScript 6 none (rm_X0_runScript d) NT NT u (fun r => [r 0 0, .int a, .int b]) Q) (E : EE X cX0_runScript RX0 6 (rm_X0_runScript (d + 1)).frames (rm_X0_runScript (d + 1)).locals 0 0) {Q : Hp → Prop} (hE : ENDv X cX0_runScript Q NT 0 0)  (P16 : Int32 → Hp → Prop) (hP16 : ∀ (y4 : Int32) (u : Hp), P16 y4 u → GG X 0 0 NT u [some (rf X 0 0), some (.int x1), some (.int x2), some (rf X 7 o3), some (.int y4), none] 16 []) (hw : wp_X0_runScriptB_b16F RS x1 x2 o3   Q P16 x4 h) : GG X 0 0 NT h [some (rf X 0 0), some (.int x1), some (.int x2), some (rf X 7 o3), some (.int x4), none] 16 [] := by
  unfold wp_X0_runScriptB_b16F at hw
  refine r_iload E x4 rfl dX0_runScript_16 ?_
  refine r_aload_n E 7 o3 rfl dX0_runScript_18 ?_
  refine r_getI E fd_X0_76 rfl ho3 (adr_lt ho3) dX0_runScript_19 ?_
  refine r_icmp_ge E 101 (by decide) dX0_runScript_22 (fun c1 => ?_) (fun c1 => ?_)
  · have hw := ite_t hw c1
    exact hE _ _ _ _ _ (Nat.le_of_ble_eq_true rfl) (Nat.le_of_ble_eq_true rfl) dX0_runScript_101 hw
  · have hw := ite_f hw c1
    refine r_aload_n E 0 0 rfl dX0_runScript_25 ?_
    refine r_getI E fd_X0_57 rfl (Nat.le_of_ble_eq_true rfl) (adr_lt (Nat.le_of_ble_eq_true rfl)) dX0_runScript_26 ?_
    refine r_if_ne E 101 (by decide) dX0_runScript_29 (fun c2 => ?_) (fun c2 => ?_)
    · have hw := ite_t hw c2
      refine r_aload_n E 7 o3 rfl dX0_runScript_32 ?_
      refine r_getS E fd_X0_81 (t := o3) (j1 := 22) rfl rfl rfl rfl ho3 (adr_lt ho3) dX0_runScript_33 ?_
      refine r_iload E x4 rfl dX0_runScript_36 ?_
      obtain ⟨i3, hw⟩ := hw
      obtain ⟨e4, hve4, hbe4, hw⟩ := hw
      refine r_aald E (t := e4) (j1 := 6) (ta := 5) rfl rfl (Nat.le_of_ble_eq_true rfl) rfl rfl rfl ho3 (adr_lt ho3) i3 hve4 dX0_runScript_38 ?_
      refine r_astore E [some (rf X 0 0), some (.int x1), some (.int x2), some (rf X 7 o3), some (.int x4), some (rf X 6 e4)] (Nat.le_of_ble_eq_true rfl) rfl dX0_runScript_39 ?_
      refine r_aload_n E 0 0 rfl dX0_runScript_41 ?_
      refine r_aload E 6 e4 rfl dX0_runScript_42 ?_
      refine r_getI E fd_X0_85 rfl hbe4 (adr_lt hbe4) dX0_runScript_44 ?_
      refine r_callVI E (m_X0_isMet (EE_st E) (GX X) (gI h 6 e4 2) h _ hw) lk_X0_90 (RM_mk (by simp only [rm_X0_isMet, rm_X0_runScript]; omega) (by simp only [rm_X0_isMet, rm_X0_runScript]; omega)) rfl rfl rfl rfl (Nat.le_of_ble_eq_true rfl) (adr_lt (Nat.le_of_ble_eq_true rfl)) (Nat.le_of_ble_eq_true rfl) rfl rfl (Nat.le_of_ble_eq_true rfl) (Nat.le_of_ble_eq_true rfl) dX0_runScript_47 (fun r5 h6 hw => ?_)
      obtain ⟨zr5, hw⟩ := hw
      refine r_if_eq E 95 (by decide) dX0_runScript_50 (fun c7 => ?_) (fun c7 => ?_)
      · have hw := ite_t hw c7
        exact GG_weak [true, true, true, true, true, false] rfl (t_X0_runScriptB_b95 h6 x1 x2 o3 x4 ho3 d RS hRS E hE P16 hP16  hw)
      · have hw := ite_f hw c7
        refine r_iload_n E x2 rfl dX0_runScript_53 ?_
        refine r_if_ne E 73 (by decide) dX0_runScript_54 (fun c8 => ?_) (fun c8 => ?_)
        · have hw := ite_t hw c8
          refine r_aload_n E 0 0 rfl dX0_runScript_57 ?_
          obtain ⟨e9, hve9, hbe9, hw⟩ := hw
          refine r_getR E fd_X0_30 (t := e9) (j1 := 5) rfl hve9 rfl (Nat.le_of_ble_eq_true rfl) (adr_lt (Nat.le_of_ble_eq_true rfl)) dX0_runScript_58 ?_
          refine r_dup E rfl dX0_runScript_61 ?_
          refine r_getI E fd_X0_94 rfl hbe9 (adr_lt hbe9) dX0_runScript_62 ?_
          refine r_iconst E 1 rfl dX0_runScript_65 ?_
          refine r_iload E x4 rfl dX0_runScript_66 ?_
          refine r_ishl E dX0_runScript_68 ?_
          refine r_ior E dX0_runScript_69 ?_
          refine r_putI E fd_X0_94 rfl PI_int hbe9 (adr_lt hbe9) rfl dX0_runScript_70 ?_
          refine GG_toph fun h10 hh10 => ?_
          have hw := hw h10 hh10
          exact GG_weak [true, true, true, true, true, true] rfl (t_X0_runScriptB_b73 h10 x1 x2 o3 x4 e4 ho3 hbe4 d RS hRS E hE P16 hP16  hw)
        · have hw := ite_f hw c8
          exact GG_weak [true, true, true, true, true, true] rfl (t_X0_runScriptB_b73 h6 x1 x2 o3 x4 e4 ho3 hbe4 d RS hRS E hE P16 hP16  hw)
    · have hw := ite_f hw c2
      exact hE _ _ _ _ _ (Nat.le_of_ble_eq_true rfl) (Nat.le_of_ble_eq_true rfl) dX0_runScript_101 hw
set_option maxRecDepth 20000 in
theorem t_X0_runScriptB_b16 {X : Ctx} (h : Hp) (x1 : Int32) (x2 : Int32) (o3 : Nat) (x4 : Int32) (ho3 : o3 < 4) (d : Nat) (RS : Int32 → Int32 → Hp → (Hp → Prop) → Prop) (hRS : ∀ (a b : Int32) (u : Hp) (Q : Hp → Prop), RS a b u Q → MV (xL X) (GX X) yX0_runScript cX0_runScript 6 none (rm_X0_runScript d) NT NT u (fun r => [r 0 0, .int a, .int b]) Q) (E : EE X cX0_runScript RX0 6 (rm_X0_runScript (d + 1)).frames (rm_X0_runScript (d + 1)).locals 0 0) {Q : Hp → Prop} (hE : ENDv X cX0_runScript Q NT 0 0)  (hw : wp_X0_runScriptB_b16 RS x1 x2 o3 x4 h  Q) : GG X 0 0 NT h [some (rf X 0 0), some (.int x1), some (.int x2), some (rf X 7 o3), some (.int x4), none] 16 [] :=
  hw (fun y4 u => GG X 0 0 NT u [some (rf X 0 0), some (.int x1), some (.int x2), some (rf X 7 o3), some (.int y4), none] 16 []) (fun y4 u hq => t_X0_runScriptB_b16F u x1 x2 o3 y4 ho3 d RS hRS E hE  (fun y4 u => GG X 0 0 NT u [some (rf X 0 0), some (.int x1), some (.int x2), some (rf X 7 o3), some (.int y4), none] 16 []) (fun y4 u q => q) hq)
set_option maxRecDepth 20000 in
theorem m_X0_runScriptB {l : Launch} (hl : l.stackTraces = false) (G : Gq) (d : Nat) (RS : Int32 → Int32 → Hp → (Hp → Prop) → Prop) (hRS : ∀ (a b : Int32) (u : Hp) (Q : Hp → Prop), RS a b u Q → MV l G yX0_runScript cX0_runScript 6 none (rm_X0_runScript d) NT NT u (fun r => [r 0 0, .int a, .int b]) Q) (p0 : Int32) (p1 : Int32)  (h : Hp) (Q : Hp → Prop) (hw : wp_X0_runScriptB RS p0 p1 h Q) : MV l G yX0_runScript cX0_runScript 6 none (rm_X0_runScript (d + 1)) NT NT h (fun r => [r 0 0, .int p0, .int p1]) Q := by
  refine MV_of (L0 := (fun X => [some (rf X 0 0), some (.int p0), some (.int p1), none, none, none])) hl (by decide +kernel) rfl (fun _ => Nat.le_of_ble_eq_true rfl) (fun _ => rfl) fun X hXl hXG E hE => ?_
  subst hXl; subst hXG
  unfold wp_X0_runScriptB at hw
  refine r_iload_n E p1 rfl dX0_runScript_0 ?_
  refine r_iconst E 4 rfl dX0_runScript_1 ?_
  refine r_icmp_le E 6 (by decide) dX0_runScript_2 (fun c1 => ?_) (fun c1 => ?_)
  · have hw := ite_t hw c1
    refine r_aload_n E 0 0 rfl dX0_runScript_6 ?_
    refine r_getS E fd_X0_19 (t := 0) (j1 := 21) rfl rfl rfl rfl (Nat.le_of_ble_eq_true rfl) (adr_lt (Nat.le_of_ble_eq_true rfl)) dX0_runScript_7 ?_
    refine r_iload_n E p0 rfl dX0_runScript_10 ?_
    obtain ⟨i2, hw⟩ := hw
    refine r_aaldS E (j1 := 7) (ta := 6) rfl rfl (Nat.le_of_ble_eq_true rfl) rfl rfl rfl (Nat.le_of_ble_eq_true rfl) (adr_lt (Nat.le_of_ble_eq_true rfl)) i2 rfl rfl dX0_runScript_11 ?_
    refine r_astore_n E [some (rf X 0 0), some (.int p0), some (.int p1), some (rf X 7 p0.toNatClampNeg), none, none] rfl (Nat.le_of_ble_eq_true rfl) rfl dX0_runScript_12 ?_
    refine r_iconst E 0 rfl dX0_runScript_13 ?_
    refine r_istore E [some (rf X 0 0), some (.int p0), some (.int p1), some (rf X 7 p0.toNatClampNeg), some (.int 0), none] (Nat.le_of_ble_eq_true rfl) rfl dX0_runScript_14 ?_
    exact GG_weak [true, true, true, true, true, false] rfl (t_X0_runScriptB_b16 h p0 p1 p0.toNatClampNeg 0 (Nat.lt_of_lt_of_le (vp_in_lt i2) (Nat.le_of_ble_eq_true rfl)) d RS hRS E hE  hw)
  · have hw := ite_f hw c1
    exact hE _ _ _ _ _ (Nat.le_of_ble_eq_true rfl) (Nat.le_of_ble_eq_true rfl) dX0_runScript_5 hw
set_option maxRecDepth 20000 in
theorem m_X0_runScript {l : Launch} (hl : l.stackTraces = false) (G : Gq) (d : Nat) : ∀ (a b : Int32) (h : Hp) (Q : Hp → Prop), wp_X0_runScript d a b h Q → MV l G yX0_runScript cX0_runScript 6 none (rm_X0_runScript d) NT NT h (fun r => [r 0 0, .int a, .int b]) Q := by
  induction d with
  | zero => intro a b h Q hw; exact hw.elim
  | succ d ih => intro a b h Q hw; exact m_X0_runScriptB hl G d (wp_X0_runScript d) ih a b h Q hw
set_option maxRecDepth 20000 in
theorem m_X0_perform {l : Launch} (hl : l.stackTraces = false) (G : Gq) (p0 : Int32) (p1 : Int32) (p2 : Nat) (hp2 : p2 < 3) (h : Hp) (Q : Hp → Prop) (hw : wp_X0_perform p0 p1 p2 h Q) : MV l G yX0_perform cX0_perform 4 none rm_X0_perform NT NT h (fun r => [r 0 0, .int p0, .int p1, r 5 p2]) Q := by
  refine MV_of (L0 := (fun X => [some (rf X 0 0), some (.int p0), some (.int p1), some (rf X 5 p2)])) hl (by decide +kernel) rfl (fun _ => Nat.le_of_ble_eq_true rfl) (fun _ => rfl) fun X hXl hXG E hE => ?_
  subst hXl; subst hXG
  unfold wp_X0_perform at hw
  refine r_aload_n E 5 p2 rfl dX0_perform_0 ?_
  refine r_callVV E (m_X5_reset (EE_st E) (GX X) p2 hp2 h _ hw) lk_X0_41 (RM_mk (Nat.le_of_ble_eq_true rfl) (Nat.le_of_ble_eq_true rfl)) rfl rfl rfl rfl hp2 (adr_lt hp2) (Nat.le_of_ble_eq_true rfl) rfl rfl (Nat.le_of_ble_eq_true rfl) (Nat.le_of_ble_eq_true rfl) dX0_perform_1 (fun h1 hw => ?_)
  refine r_aload_n E 0 0 rfl dX0_perform_4 ?_
  refine r_aload_n E 5 p2 rfl dX0_perform_5 ?_
  refine r_putR E fd_X0_30 (t := p2) (j1 := 5) rfl rfl ⟨rfl, rfl⟩ rfl (Nat.le_of_ble_eq_true rfl) (adr_lt (Nat.le_of_ble_eq_true rfl)) rfl dX0_perform_6 ?_
  refine GG_toph fun h2 hh2 => ?_
  have hw := hw h2 hh2
  refine r_aload_n E 0 0 rfl dX0_perform_9 ?_
  refine r_aload_n E 0 0 rfl dX0_perform_10 ?_
  refine r_getS E fd_X0_23 (t := 0) (j1 := 3) rfl rfl rfl rfl (Nat.le_of_ble_eq_true rfl) (adr_lt (Nat.le_of_ble_eq_true rfl)) dX0_perform_11 ?_
  refine r_getS E fd_X0_44 (t := 0) (j1 := 15) rfl rfl rfl rfl (Nat.le_of_ble_eq_true rfl) (adr_lt (Nat.le_of_ble_eq_true rfl)) dX0_perform_14 ?_
  refine r_iload_n E p1 rfl dX0_perform_17 ?_
  obtain ⟨i3, hw⟩ := hw
  refine r_aaldS E (j1 := 2) (ta := 4) rfl rfl (Nat.le_of_ble_eq_true rfl) rfl rfl rfl (Nat.le_of_ble_eq_true rfl) (adr_lt (Nat.le_of_ble_eq_true rfl)) i3 rfl rfl dX0_perform_18 ?_
  refine r_putR E fd_X0_37 (t := p1.toNatClampNeg) (j1 := 2) rfl rfl ⟨rfl, rfl⟩ rfl (Nat.le_of_ble_eq_true rfl) (adr_lt (Nat.le_of_ble_eq_true rfl)) rfl dX0_perform_19 ?_
  refine GG_toph fun h4 hh4 => ?_
  have hw := hw h4 hh4
  refine r_aload_n E 0 0 rfl dX0_perform_22 ?_
  refine r_iconst E 1 rfl dX0_perform_23 ?_
  refine r_putI E fd_X0_50 rfl (PI_z isB_1) (Nat.le_of_ble_eq_true rfl) (adr_lt (Nat.le_of_ble_eq_true rfl)) rfl dX0_perform_24 ?_
  refine GG_toph fun h5 hh5 => ?_
  have hw := hw h5 hh5
  refine r_aload_n E 0 0 rfl dX0_perform_27 ?_
  refine r_iconst E 0 rfl dX0_perform_28 ?_
  refine r_putI E fd_X0_54 rfl (PI_z isB_0) (Nat.le_of_ble_eq_true rfl) (adr_lt (Nat.le_of_ble_eq_true rfl)) rfl dX0_perform_29 ?_
  refine GG_toph fun h6 hh6 => ?_
  have hw := hw h6 hh6
  refine r_aload_n E 0 0 rfl dX0_perform_32 ?_
  refine r_iconst E 0 rfl dX0_perform_33 ?_
  refine r_putI E fd_X0_57 rfl (PI_z isB_0) (Nat.le_of_ble_eq_true rfl) (adr_lt (Nat.le_of_ble_eq_true rfl)) rfl dX0_perform_34 ?_
  refine GG_toph fun h7 hh7 => ?_
  have hw := hw h7 hh7
  refine r_aload_n E 0 0 rfl dX0_perform_37 ?_
  refine r_getS E fd_X0_23 (t := 0) (j1 := 3) rfl rfl rfl rfl (Nat.le_of_ble_eq_true rfl) (adr_lt (Nat.le_of_ble_eq_true rfl)) dX0_perform_38 ?_
  refine r_iload_n E p1 rfl dX0_perform_41 ?_
  refine r_aload_n E 0 0 rfl dX0_perform_42 ?_
  refine r_getS E fd_X0_9 (t := 0) (j1 := 25) rfl rfl rfl rfl (Nat.le_of_ble_eq_true rfl) (adr_lt (Nat.le_of_ble_eq_true rfl)) dX0_perform_43 ?_
  refine r_callVV E (m_X3_loadWithout (EE_st E) (GX X) p1 h7 _ hw) lk_X0_60 (RM_mk (Nat.le_of_ble_eq_true rfl) (Nat.le_of_ble_eq_true rfl)) rfl rfl rfl rfl (Nat.le_of_ble_eq_true rfl) (adr_lt (Nat.le_of_ble_eq_true rfl)) (Nat.le_of_ble_eq_true rfl) rfl rfl (Nat.le_of_ble_eq_true rfl) (Nat.le_of_ble_eq_true rfl) dX0_perform_46 (fun h8 hw => ?_)
  refine r_aload_n E 0 0 rfl dX0_perform_49 ?_
  refine r_iload_n E p0 rfl dX0_perform_50 ?_
  refine r_iconst E 0 rfl dX0_perform_51 ?_
  refine r_callVV E (m_X0_runScript (EE_st E) (GX X) 6 p0 0 h8 _ hw) lk_X0_64 (RM_mk (Nat.le_of_ble_eq_true rfl) (Nat.le_of_ble_eq_true rfl)) rfl rfl rfl rfl (Nat.le_of_ble_eq_true rfl) (adr_lt (Nat.le_of_ble_eq_true rfl)) (Nat.le_of_ble_eq_true rfl) rfl rfl (Nat.le_of_ble_eq_true rfl) (Nat.le_of_ble_eq_true rfl) dX0_perform_52 (fun h9 hw => ?_)
  refine r_aload_n E 0 0 rfl dX0_perform_55 ?_
  obtain ⟨e10, hve10, hbe10, hw⟩ := hw
  refine r_getR E fd_X0_30 (t := e10) (j1 := 5) rfl hve10 rfl (Nat.le_of_ble_eq_true rfl) (adr_lt (Nat.le_of_ble_eq_true rfl)) dX0_perform_56 ?_
  refine r_callVI E (m_X5_isPlaced (EE_st E) (GX X) e10 hbe10 h9 _ hw) lk_X0_68 (RM_mk (Nat.le_of_ble_eq_true rfl) (Nat.le_of_ble_eq_true rfl)) rfl rfl rfl rfl hbe10 (adr_lt hbe10) (Nat.le_of_ble_eq_true rfl) rfl rfl (Nat.le_of_ble_eq_true rfl) (Nat.le_of_ble_eq_true rfl) dX0_perform_59 (fun r11 u9 hw => ?_)
  obtain ⟨rfl, zr11, hw⟩ := hw
  refine r_if_ne E 73 (by decide) dX0_perform_62 (fun c12 => ?_) (fun c12 => ?_)
  · have hw := ite_t hw c12
    refine r_aload_n E 0 0 rfl dX0_perform_65 ?_
    obtain ⟨e13, hve13, hbe13, hw⟩ := hw
    refine r_getR E fd_X0_30 (t := e13) (j1 := 5) rfl hve13 rfl (Nat.le_of_ble_eq_true rfl) (adr_lt (Nat.le_of_ble_eq_true rfl)) dX0_perform_66 ?_
    refine r_iconst E 0 rfl dX0_perform_69 ?_
    refine r_putI E fd_X0_72 rfl PI_int hbe13 (adr_lt hbe13) rfl dX0_perform_70 ?_
    refine GG_toph fun h14 hh14 => ?_
    have hw := hw h14 hh14
    exact hE _ _ _ _ _ (Nat.le_of_ble_eq_true rfl) (Nat.le_of_ble_eq_true rfl) dX0_perform_73 hw
  · have hw := ite_f hw c12
    exact hE _ _ _ _ _ (Nat.le_of_ble_eq_true rfl) (Nat.le_of_ble_eq_true rfl) dX0_perform_73 hw
set_option maxRecDepth 20000 in
theorem m_X2_liesIn {l : Launch} (hl : l.stackTraces = false) (G : Gq) (o0 : Nat) (p0 : Int32) (ho0 : o0 < 41) (h : Hp) (Q : Int32 → Prop) (hw : wp_X2_liesIn o0 p0 h Q) : MI l G yX2_liesIn cX2_liesIn 2 (some .boolean) rm_X2_liesIn NT NT h (fun r => [r 2 o0, .int p0]) (fun r u => h = u ∧ isB r ∧ Q r) := by
  refine MI_of (L0 := (fun X => [some (rf X 2 o0), some (.int p0)])) hl (by decide +kernel) rfl (fun _ => Nat.le_of_ble_eq_true rfl) (fun _ => rfl) fun X hXl hXG E hE => ?_
  subst hXl; subst hXG
  unfold wp_X2_liesIn at hw
  refine r_aload_n E 2 o0 rfl dX2_liesIn_0 ?_
  refine r_callVI E (m_X2_isKept (EE_st E) (GX X) o0 ho0 h _ hw) lk_X2_16 (RM_mk (Nat.le_of_ble_eq_true rfl) (Nat.le_of_ble_eq_true rfl)) rfl rfl rfl rfl ho0 (adr_lt ho0) (Nat.le_of_ble_eq_true rfl) rfl rfl (Nat.le_of_ble_eq_true rfl) (Nat.le_of_ble_eq_true rfl) dX2_liesIn_1 (fun r1 u9 hw => ?_)
  obtain ⟨rfl, zr1, hw⟩ := hw
  refine r_if_eq E 19 (by decide) dX2_liesIn_4 (fun c2 => ?_) (fun c2 => ?_)
  · have hw := ite_t hw c2
    refine r_iconst E 0 rfl dX2_liesIn_19 ?_
    exact hE _ _ _ _ _ _ (Nat.le_of_ble_eq_true rfl) (Nat.le_of_ble_eq_true rfl) dX2_liesIn_20 (isB_nar isB_0) ⟨rfl, isB_0, hw⟩
  · have hw := ite_f hw c2
    refine r_aload_n E 2 o0 rfl dX2_liesIn_7 ?_
    refine r_getI E fd_X2_20 rfl ho0 (adr_lt ho0) dX2_liesIn_8 ?_
    refine r_iload_n E p0 rfl dX2_liesIn_11 ?_
    refine r_icmp_ne E 19 (by decide) dX2_liesIn_12 (fun c3 => ?_) (fun c3 => ?_)
    · have hw := ite_t hw c3
      refine r_iconst E 1 rfl dX2_liesIn_15 ?_
      refine r_goto E 20 (by decide) dX2_liesIn_16 ?_
      exact hE _ _ _ _ _ _ (Nat.le_of_ble_eq_true rfl) (Nat.le_of_ble_eq_true rfl) dX2_liesIn_20 (isB_nar isB_1) ⟨rfl, isB_1, hw⟩
    · have hw := ite_f hw c3
      refine r_iconst E 0 rfl dX2_liesIn_19 ?_
      exact hE _ _ _ _ _ _ (Nat.le_of_ble_eq_true rfl) (Nat.le_of_ble_eq_true rfl) dX2_liesIn_20 (isB_nar isB_0) ⟨rfl, isB_0, hw⟩
set_option maxRecDepth 20000 in
theorem t_X1_sortMails_b82 {X : Ctx} (h : Hp) (x1 : Int32) (x2 : Int32)  (E : EE X cX1_sortMails RX1 4 3 65 0 0) {Q : Hp → Prop} (hE : ENDv X cX1_sortMails Q NT 0 0) (P12 : Int32 → Hp → Prop) (hP12 : ∀ (y2 : Int32) (u : Hp), P12 y2 u → GG X 0 0 NT u [some (rf X 1 0), some (.int x1), some (.int y2), none] 12 []) (hw : wp_X1_sortMails_b82 x1 x2 h P12 Q) : GG X 0 0 NT h [some (rf X 1 0), some (.int x1), some (.int x2), none] 82 [] := by
  unfold wp_X1_sortMails_b82 at hw
  obtain ⟨v1, hv1⟩ : ∃ y : Int32, y = x2 + 1 := ⟨_, rfl⟩
  have hw := hw v1 hv1
  refine r_iinc E x2 v1 [some (rf X 1 0), some (.int x1), some (.int v1), none] rfl (by rw [hv1]; rfl) (Nat.le_of_ble_eq_true rfl) rfl dX1_sortMails_82 ?_
  refine r_goto E 12 (by decide) dX1_sortMails_85 ?_
  exact GG_weak [true, true, true, false] rfl (hP12 _ _ hw)
set_option maxRecDepth 20000 in
theorem t_X1_sortMails_b63 {X : Ctx} (h : Hp) (x1 : Int32) (x2 : Int32) (o3 : Nat) (ho3 : o3 < 41) (E : EE X cX1_sortMails RX1 4 3 65 0 0) {Q : Hp → Prop} (hE : ENDv X cX1_sortMails Q NT 0 0) (P12 : Int32 → Hp → Prop) (hP12 : ∀ (y2 : Int32) (u : Hp), P12 y2 u → GG X 0 0 NT u [some (rf X 1 0), some (.int x1), some (.int y2), none] 12 []) (hw : wp_X1_sortMails_b63 x1 x2 o3 h P12 Q) : GG X 0 0 NT h [some (rf X 1 0), some (.int x1), some (.int x2), some (rf X 2 o3)] 63 [] := by
  unfold wp_X1_sortMails_b63 at hw
  refine r_aload_n E 2 o3 rfl dX1_sortMails_63 ?_
  refine r_callVI E (m_X2_isKept (EE_st E) (GX X) o3 ho3 h _ hw) lk_X1_72 (RM_mk (Nat.le_of_ble_eq_true rfl) (Nat.le_of_ble_eq_true rfl)) rfl rfl rfl rfl ho3 (adr_lt ho3) (Nat.le_of_ble_eq_true rfl) rfl rfl (Nat.le_of_ble_eq_true rfl) (Nat.le_of_ble_eq_true rfl) dX1_sortMails_64 (fun r1 u9 hw => ?_)
  obtain ⟨rfl, zr1, hw⟩ := hw
  refine r_if_eq E 82 (by decide) dX1_sortMails_67 (fun c2 => ?_) (fun c2 => ?_)
  · have hw := ite_t hw c2
    exact GG_weak [true, true, true, false] rfl (t_X1_sortMails_b82 h x1 x2 E hE P12 hP12  hw)
  · have hw := ite_f hw c2
    refine r_aload_n E 1 0 rfl dX1_sortMails_70 ?_
    refine r_dup E rfl dX1_sortMails_71 ?_
    refine r_getJ E fd_X1_51 rfl (Nat.le_of_ble_eq_true rfl) (adr_lt (Nat.le_of_ble_eq_true rfl)) dX1_sortMails_72 ?_
    refine r_lconst E 1 rfl dX1_sortMails_75 ?_
    refine r_iload_n E x2 rfl dX1_sortMails_76 ?_
    refine r_lshl E dX1_sortMails_77 ?_
    refine r_lor E dX1_sortMails_78 ?_
    refine r_putJ E fd_X1_51 rfl rfl (Nat.le_of_ble_eq_true rfl) (adr_lt (Nat.le_of_ble_eq_true rfl)) rfl dX1_sortMails_79 ?_
    refine GG_toph fun h3 hh3 => ?_
    have hw := hw h3 hh3
    exact GG_weak [true, true, true, false] rfl (t_X1_sortMails_b82 h3 x1 x2 E hE P12 hP12  hw)
set_option maxRecDepth 20000 in
theorem t_X1_sortMails_b12F {X : Ctx} (h : Hp) (x1 : Int32) (x2 : Int32)  (E : EE X cX1_sortMails RX1 4 3 65 0 0) {Q : Hp → Prop} (hE : ENDv X cX1_sortMails Q NT 0 0)  (P12 : Int32 → Hp → Prop) (hP12 : ∀ (y2 : Int32) (u : Hp), P12 y2 u → GG X 0 0 NT u [some (rf X 1 0), some (.int x1), some (.int y2), none] 12 []) (hw : wp_X1_sortMails_b12F x1   Q P12 x2 h) : GG X 0 0 NT h [some (rf X 1 0), some (.int x1), some (.int x2), none] 12 [] := by
  unfold wp_X1_sortMails_b12F at hw
  refine r_iload_n E x2 rfl dX1_sortMails_12 ?_
  refine r_aload_n E 1 0 rfl dX1_sortMails_13 ?_
  refine r_getS E fd_X1_29 (t := 0) (j1 := 3) rfl rfl rfl rfl (Nat.le_of_ble_eq_true rfl) (adr_lt (Nat.le_of_ble_eq_true rfl)) dX1_sortMails_14 ?_
  refine r_getI E fd_X1_54 rfl (Nat.le_of_ble_eq_true rfl) (adr_lt (Nat.le_of_ble_eq_true rfl)) dX1_sortMails_17 ?_
  refine r_icmp_ge E 88 (by decide) dX1_sortMails_20 (fun c1 => ?_) (fun c1 => ?_)
  · have hw := ite_t hw c1
    exact hE _ _ _ _ _ (Nat.le_of_ble_eq_true rfl) (Nat.le_of_ble_eq_true rfl) dX1_sortMails_88 hw
  · have hw := ite_f hw c1
    refine r_aload_n E 1 0 rfl dX1_sortMails_23 ?_
    refine r_getS E fd_X1_29 (t := 0) (j1 := 3) rfl rfl rfl rfl (Nat.le_of_ble_eq_true rfl) (adr_lt (Nat.le_of_ble_eq_true rfl)) dX1_sortMails_24 ?_
    refine r_getS E fd_X1_58 (t := 0) (j1 := 15) rfl rfl rfl rfl (Nat.le_of_ble_eq_true rfl) (adr_lt (Nat.le_of_ble_eq_true rfl)) dX1_sortMails_27 ?_
    refine r_iload_n E x2 rfl dX1_sortMails_30 ?_
    obtain ⟨i2, hw⟩ := hw
    refine r_aaldS E (j1 := 2) (ta := 4) rfl rfl (Nat.le_of_ble_eq_true rfl) rfl rfl rfl (Nat.le_of_ble_eq_true rfl) (adr_lt (Nat.le_of_ble_eq_true rfl)) i2 rfl rfl dX1_sortMails_31 ?_
    refine r_astore_n E [some (rf X 1 0), some (.int x1), some (.int x2), some (rf X 2 x2.toNatClampNeg)] rfl (Nat.le_of_ble_eq_true rfl) rfl dX1_sortMails_32 ?_
    refine r_aload_n E 2 x2.toNatClampNeg rfl dX1_sortMails_33 ?_
    refine r_iload_n E x1 rfl dX1_sortMails_34 ?_
    refine r_callVI E (m_X2_liesIn (EE_st E) (GX X) x2.toNatClampNeg x1 (Nat.lt_of_lt_of_le (vp_in_lt i2) (Nat.le_of_ble_eq_true rfl)) h _ hw) lk_X1_62 (RM_mk (Nat.le_of_ble_eq_true rfl) (Nat.le_of_ble_eq_true rfl)) rfl rfl rfl rfl (Nat.lt_of_lt_of_le (vp_in_lt i2) (Nat.le_of_ble_eq_true rfl)) (adr_lt (Nat.lt_of_lt_of_le (vp_in_lt i2) (Nat.le_of_ble_eq_true rfl))) (Nat.le_of_ble_eq_true rfl) rfl rfl (Nat.le_of_ble_eq_true rfl) (Nat.le_of_ble_eq_true rfl) dX1_sortMails_35 (fun r3 u9 hw => ?_)
    obtain ⟨rfl, zr3, hw⟩ := hw
    refine r_if_eq E 63 (by decide) dX1_sortMails_38 (fun c4 => ?_) (fun c4 => ?_)
    · have hw := ite_t hw c4
      exact GG_weak [true, true, true, true] rfl (t_X1_sortMails_b63 h x1 x2 x2.toNatClampNeg (Nat.lt_of_lt_of_le (vp_in_lt i2) (Nat.le_of_ble_eq_true rfl)) E hE P12 hP12  hw)
    · have hw := ite_f hw c4
      refine r_aload_n E 2 x2.toNatClampNeg rfl dX1_sortMails_41 ?_
      refine r_getI E fd_X1_68 rfl (Nat.lt_of_lt_of_le (vp_in_lt i2) (Nat.le_of_ble_eq_true rfl)) (adr_lt (Nat.lt_of_lt_of_le (vp_in_lt i2) (Nat.le_of_ble_eq_true rfl))) dX1_sortMails_42 ?_
      refine r_if_eq E 63 (by decide) dX1_sortMails_45 (fun c5 => ?_) (fun c5 => ?_)
      · have hw := ite_t hw c5
        exact GG_weak [true, true, true, true] rfl (t_X1_sortMails_b63 h x1 x2 x2.toNatClampNeg (Nat.lt_of_lt_of_le (vp_in_lt i2) (Nat.le_of_ble_eq_true rfl)) E hE P12 hP12  hw)
      · have hw := ite_f hw c5
        refine r_aload_n E 1 0 rfl dX1_sortMails_48 ?_
        refine r_dup E rfl dX1_sortMails_49 ?_
        refine r_getJ E fd_X1_37 rfl (Nat.le_of_ble_eq_true rfl) (adr_lt (Nat.le_of_ble_eq_true rfl)) dX1_sortMails_50 ?_
        refine r_lconst E 1 rfl dX1_sortMails_53 ?_
        refine r_iload_n E x2 rfl dX1_sortMails_54 ?_
        refine r_lshl E dX1_sortMails_55 ?_
        refine r_lor E dX1_sortMails_56 ?_
        refine r_putJ E fd_X1_37 rfl rfl (Nat.le_of_ble_eq_true rfl) (adr_lt (Nat.le_of_ble_eq_true rfl)) rfl dX1_sortMails_57 ?_
        refine GG_toph fun h6 hh6 => ?_
        have hw := hw h6 hh6
        refine r_goto E 82 (by decide) dX1_sortMails_60 ?_
        exact GG_weak [true, true, true, false] rfl (t_X1_sortMails_b82 h6 x1 x2 E hE P12 hP12  hw)
set_option maxRecDepth 20000 in
theorem t_X1_sortMails_b12 {X : Ctx} (h : Hp) (x1 : Int32) (x2 : Int32)  (E : EE X cX1_sortMails RX1 4 3 65 0 0) {Q : Hp → Prop} (hE : ENDv X cX1_sortMails Q NT 0 0)  (hw : wp_X1_sortMails_b12 x1 x2 h  Q) : GG X 0 0 NT h [some (rf X 1 0), some (.int x1), some (.int x2), none] 12 [] :=
  hw (fun y2 u => GG X 0 0 NT u [some (rf X 1 0), some (.int x1), some (.int y2), none] 12 []) (fun y2 u hq => t_X1_sortMails_b12F u x1 y2  E hE  (fun y2 u => GG X 0 0 NT u [some (rf X 1 0), some (.int x1), some (.int y2), none] 12 []) (fun y2 u q => q) hq)
set_option maxRecDepth 20000 in
theorem m_X1_sortMails {l : Launch} (hl : l.stackTraces = false) (G : Gq) (p0 : Int32)  (h : Hp) (Q : Hp → Prop) (hw : wp_X1_sortMails p0 h Q) : MV l G yX1_sortMails cX1_sortMails 4 none rm_X1_sortMails NT NT h (fun r => [r 1 0, .int p0]) Q := by
  refine MV_of (L0 := (fun X => [some (rf X 1 0), some (.int p0), none, none])) hl (by decide +kernel) rfl (fun _ => Nat.le_of_ble_eq_true rfl) (fun _ => rfl) fun X hXl hXG E hE => ?_
  subst hXl; subst hXG
  unfold wp_X1_sortMails at hw
  refine r_aload_n E 1 0 rfl dX1_sortMails_0 ?_
  refine r_lconst E 0 rfl dX1_sortMails_1 ?_
  refine r_putJ E fd_X1_37 rfl rfl (Nat.le_of_ble_eq_true rfl) (adr_lt (Nat.le_of_ble_eq_true rfl)) rfl dX1_sortMails_2 ?_
  refine GG_toph fun h1 hh1 => ?_
  have hw := hw h1 hh1
  refine r_aload_n E 1 0 rfl dX1_sortMails_5 ?_
  refine r_lconst E 0 rfl dX1_sortMails_6 ?_
  refine r_putJ E fd_X1_51 rfl rfl (Nat.le_of_ble_eq_true rfl) (adr_lt (Nat.le_of_ble_eq_true rfl)) rfl dX1_sortMails_7 ?_
  refine GG_toph fun h2 hh2 => ?_
  have hw := hw h2 hh2
  refine r_iconst E 0 rfl dX1_sortMails_10 ?_
  refine r_istore_n E [some (rf X 1 0), some (.int p0), some (.int 0), none] rfl (Nat.le_of_ble_eq_true rfl) rfl dX1_sortMails_11 ?_
  exact GG_weak [true, true, true, false] rfl (t_X1_sortMails_b12 h2 p0 0 E hE  hw)
set_option maxRecDepth 20000 in
theorem t_X1_list_b153 {X : Ctx} (h : Hp) (s1 : Int32) (s2 : Int64) (s3 : Int64)  (E : EE X cX1_list RX1 6 3 68 0 0) {Q : Hp → Prop} (hE : ENDv X cX1_list Q NT 0 0)  (hw : wp_X1_list_b153 s1 s2 s3 h  Q) : GG X 0 0 NT h [some (rf X 1 0), none, none, none, none, none] 153 [.long s3, .long s2, .int s1, rf X 32 0] := by
  unfold wp_X1_list_b153 at hw
  refine r_land E dX1_list_153 ?_
  obtain ⟨i1, hw⟩ := hw
  refine r_last E rfl rfl rfl (Nat.le_of_ble_eq_true rfl) (adr_lt (Nat.le_of_ble_eq_true rfl)) i1 rfl dX1_list_154 ?_
  refine GG_toph fun h2 hh2 => ?_
  have hw := hw h2 hh2
  refine r_aload_n E 1 0 rfl dX1_list_155 ?_
  refine r_dup E rfl dX1_list_156 ?_
  refine r_getI E fd_X1_75 rfl (Nat.le_of_ble_eq_true rfl) (adr_lt (Nat.le_of_ble_eq_true rfl)) dX1_list_157 ?_
  refine r_iconst E 1 rfl dX1_list_160 ?_
  refine r_iadd E dX1_list_161 ?_
  refine r_putI E fd_X1_75 rfl PI_int (Nat.le_of_ble_eq_true rfl) (adr_lt (Nat.le_of_ble_eq_true rfl)) rfl dX1_list_162 ?_
  refine GG_toph fun h3 hh3 => ?_
  have hw := hw h3 hh3
  exact hE _ _ _ _ _ (Nat.le_of_ble_eq_true rfl) (Nat.le_of_ble_eq_true rfl) dX1_list_165 hw
set_option maxRecDepth 20000 in
theorem t_X1_list_b96 {X : Ctx} (h : Hp) (x1 : Int32) (x2 : Int32) (x3 : Int64) (x5 : Int32)  (E : EE X cX1_list RX1 6 3 68 0 0) {Q : Hp → Prop} (hE : ENDv X cX1_list Q NT 0 0)  (hw : wp_X1_list_b96 x1 x2 x3 x5 h  Q) : GG X 0 0 NT h [some (rf X 1 0), some (.int x1), some (.int x2), some (.long x3), none, some (.int x5)] 96 [] := by
  unfold wp_X1_list_b96 at hw
  refine r_aload_n E 1 0 rfl dX1_list_96 ?_
  refine r_getS E fd_X1_13 (t := 0) (j1 := 29) rfl rfl rfl rfl (Nat.le_of_ble_eq_true rfl) (adr_lt (Nat.le_of_ble_eq_true rfl)) dX1_list_97 ?_
  refine r_aload_n E 1 0 rfl dX1_list_100 ?_
  refine r_getI E fd_X1_75 rfl (Nat.le_of_ble_eq_true rfl) (adr_lt (Nat.le_of_ble_eq_true rfl)) dX1_list_101 ?_
  refine r_iload_n E x1 rfl dX1_list_104 ?_
  obtain ⟨i1, hw⟩ := hw
  refine r_cast E rfl rfl rfl (Nat.le_of_ble_eq_true rfl) (adr_lt (Nat.le_of_ble_eq_true rfl)) i1 rfl dX1_list_105 ?_
  refine GG_toph fun h2 hh2 => ?_
  have hw := hw h2 hh2
  refine r_aload_n E 1 0 rfl dX1_list_106 ?_
  refine r_getS E fd_X1_17 (t := 0) (j1 := 30) rfl rfl rfl rfl (Nat.le_of_ble_eq_true rfl) (adr_lt (Nat.le_of_ble_eq_true rfl)) dX1_list_107 ?_
  refine r_aload_n E 1 0 rfl dX1_list_110 ?_
  refine r_getI E fd_X1_75 rfl (Nat.le_of_ble_eq_true rfl) (adr_lt (Nat.le_of_ble_eq_true rfl)) dX1_list_111 ?_
  refine r_iload_n E x2 rfl dX1_list_114 ?_
  obtain ⟨i3, hw⟩ := hw
  refine r_iast E rfl rfl rfl (Nat.le_of_ble_eq_true rfl) (adr_lt (Nat.le_of_ble_eq_true rfl)) i3 dX1_list_115 ?_
  refine GG_toph fun h4 hh4 => ?_
  have hw := hw h4 hh4
  refine r_aload_n E 1 0 rfl dX1_list_116 ?_
  refine r_getS E fd_X1_21 (t := 0) (j1 := 31) rfl rfl rfl rfl (Nat.le_of_ble_eq_true rfl) (adr_lt (Nat.le_of_ble_eq_true rfl)) dX1_list_117 ?_
  refine r_aload_n E 1 0 rfl dX1_list_120 ?_
  refine r_getI E fd_X1_75 rfl (Nat.le_of_ble_eq_true rfl) (adr_lt (Nat.le_of_ble_eq_true rfl)) dX1_list_121 ?_
  refine r_iload E x5 rfl dX1_list_124 ?_
  obtain ⟨i5, hw⟩ := hw
  refine r_zast E rfl rfl rfl (Nat.le_of_ble_eq_true rfl) (adr_lt (Nat.le_of_ble_eq_true rfl)) i5 rfl dX1_list_126 ?_
  refine GG_toph fun h6 hh6 => ?_
  have hw := hw h6 hh6
  refine r_aload_n E 1 0 rfl dX1_list_127 ?_
  refine r_getS E fd_X1_25 (t := 0) (j1 := 32) rfl rfl rfl rfl (Nat.le_of_ble_eq_true rfl) (adr_lt (Nat.le_of_ble_eq_true rfl)) dX1_list_128 ?_
  refine r_aload_n E 1 0 rfl dX1_list_131 ?_
  refine r_getI E fd_X1_75 rfl (Nat.le_of_ble_eq_true rfl) (adr_lt (Nat.le_of_ble_eq_true rfl)) dX1_list_132 ?_
  refine r_aload_n E 1 0 rfl dX1_list_135 ?_
  refine r_getJ E fd_X1_51 rfl (Nat.le_of_ble_eq_true rfl) (adr_lt (Nat.le_of_ble_eq_true rfl)) dX1_list_136 ?_
  refine r_iload E x5 rfl dX1_list_139 ?_
  refine r_if_eq E 152 (by decide) dX1_list_141 (fun c7 => ?_) (fun c7 => ?_)
  · have hw := ite_t hw c7
    refine r_lload_n E x3 rfl dX1_list_152 ?_
    exact GG_weak [true, false, false, false, false, false] rfl (t_X1_list_b153 h6 (gI h6 1 0 5) (gJ h6 1 0 7) x3 E hE  hw)
  · have hw := ite_f hw c7
    refine r_lload_n E x3 rfl dX1_list_144 ?_
    refine r_ldc2 E (-1) kl_X1_98 dX1_list_145 ?_
    refine r_lxor E dX1_list_148 ?_
    refine r_goto E 153 (by decide) dX1_list_149 ?_
    exact GG_weak [true, false, false, false, false, false] rfl (t_X1_list_b153 h6 (gI h6 1 0 5) (gJ h6 1 0 7) (x3 ^^^ (-1)) E hE  hw)
set_option maxRecDepth 20000 in
theorem t_X1_list_b65 {X : Ctx} (h : Hp) (x1 : Int32) (x2 : Int32) (x3 : Int64) (s0 : Int32)  (E : EE X cX1_list RX1 6 3 68 0 0) {Q : Hp → Prop} (hE : ENDv X cX1_list Q NT 0 0)  (hw : wp_X1_list_b65 x1 x2 x3 s0 h  Q) : GG X 0 0 NT h [some (rf X 1 0), some (.int x1), some (.int x2), some (.long x3), none, none] 65 [.int s0] := by
  unfold wp_X1_list_b65 at hw
  refine r_istore E [some (rf X 1 0), some (.int x1), some (.int x2), some (.long x3), none, some (.int s0)] (Nat.le_of_ble_eq_true rfl) rfl dX1_list_65 ?_
  refine r_aload_n E 1 0 rfl dX1_list_67 ?_
  refine r_getI E fd_X1_75 rfl (Nat.le_of_ble_eq_true rfl) (adr_lt (Nat.le_of_ble_eq_true rfl)) dX1_list_68 ?_
  refine r_bipush E 99 rfl dX1_list_71 ?_
  refine r_icmp_ge E 165 (by decide) dX1_list_73 (fun c1 => ?_) (fun c1 => ?_)
  · have hw := ite_t hw c1
    exact hE _ _ _ _ _ (Nat.le_of_ble_eq_true rfl) (Nat.le_of_ble_eq_true rfl) dX1_list_165 hw
  · have hw := ite_f hw c1
    refine r_iload E s0 rfl dX1_list_76 ?_
    refine r_if_ne E 96 (by decide) dX1_list_78 (fun c2 => ?_) (fun c2 => ?_)
    · have hw := ite_t hw c2
      refine r_aload_n E 1 0 rfl dX1_list_81 ?_
      refine r_getJ E fd_X1_37 rfl (Nat.le_of_ble_eq_true rfl) (adr_lt (Nat.le_of_ble_eq_true rfl)) dX1_list_82 ?_
      refine r_lload_n E x3 rfl dX1_list_85 ?_
      refine r_ldc2 E (-1) kl_X1_98 dX1_list_86 ?_
      refine r_lxor E dX1_list_89 ?_
      refine r_land E dX1_list_90 ?_
      refine r_lconst E 0 rfl dX1_list_91 ?_
      refine r_lcmp_ne E 165 (by decide) dX1_list_92 dX1_list_93 (fun c3 => ?_) (fun c3 => ?_)
      · have hw := ite_t hw c3
        exact GG_weak [true, true, true, true, false, true] rfl (t_X1_list_b96 h x1 x2 x3 s0 E hE  hw)
      · have hw := ite_f hw c3
        exact hE _ _ _ _ _ (Nat.le_of_ble_eq_true rfl) (Nat.le_of_ble_eq_true rfl) dX1_list_165 hw
    · have hw := ite_f hw c2
      exact GG_weak [true, true, true, true, false, true] rfl (t_X1_list_b96 h x1 x2 x3 s0 E hE  hw)
set_option maxRecDepth 20000 in
theorem t_X1_list_b43 {X : Ctx} (h : Hp) (x1 : Int32) (x2 : Int32) (x3 : Int64) (x5 : Int32)  (E : EE X cX1_list RX1 6 3 68 0 0) {Q : Hp → Prop} (hE : ENDv X cX1_list Q NT 0 0) (P5 : Int64 → Int32 → Hp → Prop) (hP5 : ∀ (y3 : Int64) (y5 : Int32) (u : Hp), P5 y3 y5 u → GG X 0 0 NT u [some (rf X 1 0), some (.int x1), some (.int x2), some (.long y3), none, some (.int y5)] 5 []) (hw : wp_X1_list_b43 x1 x2 x3 x5 h P5 Q) : GG X 0 0 NT h [some (rf X 1 0), some (.int x1), some (.int x2), some (.long x3), none, some (.int x5)] 43 [] := by
  unfold wp_X1_list_b43 at hw
  obtain ⟨v1, hv1⟩ : ∃ y : Int32, y = x5 + 1 := ⟨_, rfl⟩
  have hw := hw v1 hv1
  refine r_iinc E x5 v1 [some (rf X 1 0), some (.int x1), some (.int x2), some (.long x3), none, some (.int v1)] rfl (by rw [hv1]; rfl) (Nat.le_of_ble_eq_true rfl) rfl dX1_list_43 ?_
  refine r_goto E 5 (by decide) dX1_list_46 ?_
  exact GG_weak [true, true, true, true, false, true] rfl (hP5 _ _ _ hw)
set_option maxRecDepth 20000 in
theorem t_X1_list_b5F {X : Ctx} (h : Hp) (x1 : Int32) (x2 : Int32) (x3 : Int64) (x5 : Int32)  (E : EE X cX1_list RX1 6 3 68 0 0) {Q : Hp → Prop} (hE : ENDv X cX1_list Q NT 0 0)  (P5 : Int64 → Int32 → Hp → Prop) (hP5 : ∀ (y3 : Int64) (y5 : Int32) (u : Hp), P5 y3 y5 u → GG X 0 0 NT u [some (rf X 1 0), some (.int x1), some (.int x2), some (.long y3), none, some (.int y5)] 5 []) (hw : wp_X1_list_b5F x1 x2   Q P5 x3 x5 h) : GG X 0 0 NT h [some (rf X 1 0), some (.int x1), some (.int x2), some (.long x3), none, some (.int x5)] 5 [] := by
  unfold wp_X1_list_b5F at hw
  refine r_iload E x5 rfl dX1_list_5 ?_
  refine r_aload_n E 1 0 rfl dX1_list_7 ?_
  refine r_getS E fd_X1_29 (t := 0) (j1 := 3) rfl rfl rfl rfl (Nat.le_of_ble_eq_true rfl) (adr_lt (Nat.le_of_ble_eq_true rfl)) dX1_list_8 ?_
  refine r_getI E fd_X1_54 rfl (Nat.le_of_ble_eq_true rfl) (adr_lt (Nat.le_of_ble_eq_true rfl)) dX1_list_11 ?_
  refine r_icmp_ge E 49 (by decide) dX1_list_14 (fun c1 => ?_) (fun c1 => ?_)
  · have hw := ite_t hw c1
    refine r_lload_n E x3 rfl dX1_list_49 ?_
    refine r_aload_n E 1 0 rfl dX1_list_50 ?_
    refine r_getJ E fd_X1_37 rfl (Nat.le_of_ble_eq_true rfl) (adr_lt (Nat.le_of_ble_eq_true rfl)) dX1_list_51 ?_
    refine r_land E dX1_list_54 ?_
    refine r_lconst E 0 rfl dX1_list_55 ?_
    refine r_lcmp_ne E 64 (by decide) dX1_list_56 dX1_list_57 (fun c2 => ?_) (fun c2 => ?_)
    · have hw := ite_t hw c2
      refine r_iconst E 1 rfl dX1_list_60 ?_
      refine r_goto E 65 (by decide) dX1_list_61 ?_
      exact GG_weak [true, true, true, true, false, false] rfl (t_X1_list_b65 h x1 x2 x3 1 E hE  hw)
    · have hw := ite_f hw c2
      refine r_iconst E 0 rfl dX1_list_64 ?_
      exact GG_weak [true, true, true, true, false, false] rfl (t_X1_list_b65 h x1 x2 x3 0 E hE  hw)
  · have hw := ite_f hw c1
    refine r_iload_n E x1 rfl dX1_list_17 ?_
    refine r_iload_n E x2 rfl dX1_list_18 ?_
    refine r_aload_n E 1 0 rfl dX1_list_19 ?_
    refine r_getS E fd_X1_29 (t := 0) (j1 := 3) rfl rfl rfl rfl (Nat.le_of_ble_eq_true rfl) (adr_lt (Nat.le_of_ble_eq_true rfl)) dX1_list_20 ?_
    refine r_getS E fd_X1_58 (t := 0) (j1 := 15) rfl rfl rfl rfl (Nat.le_of_ble_eq_true rfl) (adr_lt (Nat.le_of_ble_eq_true rfl)) dX1_list_23 ?_
    refine r_iload E x5 rfl dX1_list_26 ?_
    obtain ⟨i3, hw⟩ := hw
    refine r_aaldS E (j1 := 2) (ta := 4) rfl rfl (Nat.le_of_ble_eq_true rfl) rfl rfl rfl (Nat.le_of_ble_eq_true rfl) (adr_lt (Nat.le_of_ble_eq_true rfl)) i3 rfl rfl dX1_list_28 ?_
    refine r_iconst E 0 rfl dX1_list_29 ?_
    refine r_callSI E (m_X9_fits (EE_st E) (GX X) x1 x2 x5.toNatClampNeg 0 (Nat.lt_of_lt_of_le (vp_in_lt i3) (Nat.le_of_ble_eq_true rfl)) h _ hw) lk_X1_92 (RM_mk (Nat.le_of_ble_eq_true rfl) (Nat.le_of_ble_eq_true rfl)) rfl rfl rfl rfl (Nat.le_of_ble_eq_true rfl) rfl rfl (Nat.le_of_ble_eq_true rfl) (Nat.le_of_ble_eq_true rfl) dX1_list_30 (fun r4 u9 hw => ?_)
    obtain ⟨rfl, zr4, hw⟩ := hw
    refine r_if_eq E 43 (by decide) dX1_list_33 (fun c5 => ?_) (fun c5 => ?_)
    · have hw := ite_t hw c5
      exact GG_weak [true, true, true, true, false, true] rfl (t_X1_list_b43 h x1 x2 x3 x5 E hE P5 hP5  hw)
    · have hw := ite_f hw c5
      refine r_lload_n E x3 rfl dX1_list_36 ?_
      refine r_lconst E 1 rfl dX1_list_37 ?_
      refine r_iload E x5 rfl dX1_list_38 ?_
      refine r_lshl E dX1_list_40 ?_
      refine r_lor E dX1_list_41 ?_
      refine GG_topJ fun v6 hv6 => ?_
      have hw := hw v6 hv6
      refine r_lstore_n E [some (rf X 1 0), some (.int x1), some (.int x2), some (.long v6), none, some (.int x5)] rfl (Nat.le_of_ble_eq_true rfl) rfl dX1_list_42 ?_
      exact GG_weak [true, true, true, true, false, true] rfl (t_X1_list_b43 h x1 x2 v6 x5 E hE P5 hP5  hw)
set_option maxRecDepth 20000 in
theorem t_X1_list_b5 {X : Ctx} (h : Hp) (x1 : Int32) (x2 : Int32) (x3 : Int64) (x5 : Int32)  (E : EE X cX1_list RX1 6 3 68 0 0) {Q : Hp → Prop} (hE : ENDv X cX1_list Q NT 0 0)  (hw : wp_X1_list_b5 x1 x2 x3 x5 h  Q) : GG X 0 0 NT h [some (rf X 1 0), some (.int x1), some (.int x2), some (.long x3), none, some (.int x5)] 5 [] :=
  hw (fun y3 y5 u => GG X 0 0 NT u [some (rf X 1 0), some (.int x1), some (.int x2), some (.long y3), none, some (.int y5)] 5 []) (fun y3 y5 u hq => t_X1_list_b5F u x1 x2 y3 y5  E hE  (fun y3 y5 u => GG X 0 0 NT u [some (rf X 1 0), some (.int x1), some (.int x2), some (.long y3), none, some (.int y5)] 5 []) (fun y3 y5 u q => q) hq)
set_option maxRecDepth 20000 in
theorem m_X1_list {l : Launch} (hl : l.stackTraces = false) (G : Gq) (p0 : Int32) (p1 : Int32)  (h : Hp) (Q : Hp → Prop) (hw : wp_X1_list p0 p1 h Q) : MV l G yX1_list cX1_list 6 none rm_X1_list NT NT h (fun r => [r 1 0, .int p0, .int p1]) Q := by
  refine MV_of (L0 := (fun X => [some (rf X 1 0), some (.int p0), some (.int p1), none, none, none])) hl (by decide +kernel) rfl (fun _ => Nat.le_of_ble_eq_true rfl) (fun _ => rfl) fun X hXl hXG E hE => ?_
  subst hXl; subst hXG
  unfold wp_X1_list at hw
  refine r_lconst E 0 rfl dX1_list_0 ?_
  refine r_lstore_n E [some (rf X 1 0), some (.int p0), some (.int p1), some (.long 0), none, none] rfl (Nat.le_of_ble_eq_true rfl) rfl dX1_list_1 ?_
  refine r_iconst E 0 rfl dX1_list_2 ?_
  refine r_istore E [some (rf X 1 0), some (.int p0), some (.int p1), some (.long 0), none, some (.int 0)] (Nat.le_of_ble_eq_true rfl) rfl dX1_list_3 ?_
  exact GG_weak [true, true, true, true, false, true] rfl (t_X1_list_b5 h p0 p1 0 0 E hE  hw)
set_option maxRecDepth 20000 in
theorem t_X1_listKind_b2F {X : Ctx} (h : Hp) (x1 : Int32) (x2 : Int32) (x3 : Int32)  (E : EE X cX1_listKind RX1 4 4 93 0 0) {Q : Hp → Prop} (hE : ENDv X cX1_listKind Q NT 0 0)  (P2 : Int32 → Hp → Prop) (hP2 : ∀ (y3 : Int32) (u : Hp), P2 y3 u → GG X 0 0 NT u [some (rf X 1 0), some (.int x1), some (.int x2), some (.int y3)] 2 []) (hw : wp_X1_listKind_b2F x1 x2   Q P2 x3 h) : GG X 0 0 NT h [some (rf X 1 0), some (.int x1), some (.int x2), some (.int x3)] 2 [] := by
  unfold wp_X1_listKind_b2F at hw
  refine r_iload_n E x3 rfl dX1_listKind_2 ?_
  refine r_iload_n E x2 rfl dX1_listKind_3 ?_
  refine r_icmp_ge E 19 (by decide) dX1_listKind_4 (fun c1 => ?_) (fun c1 => ?_)
  · have hw := ite_t hw c1
    exact hE _ _ _ _ _ (Nat.le_of_ble_eq_true rfl) (Nat.le_of_ble_eq_true rfl) dX1_listKind_19 hw
  · have hw := ite_f hw c1
    refine r_aload_n E 1 0 rfl dX1_listKind_7 ?_
    refine r_iload_n E x1 rfl dX1_listKind_8 ?_
    refine r_iload_n E x3 rfl dX1_listKind_9 ?_
    refine r_callVV E (m_X1_list (EE_st E) (GX X) x1 x3 h _ hw) lk_X1_86 (RM_mk (Nat.le_of_ble_eq_true rfl) (Nat.le_of_ble_eq_true rfl)) rfl rfl rfl rfl (Nat.le_of_ble_eq_true rfl) (adr_lt (Nat.le_of_ble_eq_true rfl)) (Nat.le_of_ble_eq_true rfl) rfl rfl (Nat.le_of_ble_eq_true rfl) (Nat.le_of_ble_eq_true rfl) dX1_listKind_10 (fun h2 hw => ?_)
    obtain ⟨v3, hv3⟩ : ∃ y : Int32, y = x3 + 1 := ⟨_, rfl⟩
    have hw := hw v3 hv3
    refine r_iinc E x3 v3 [some (rf X 1 0), some (.int x1), some (.int x2), some (.int v3)] rfl (by rw [hv3]; rfl) (Nat.le_of_ble_eq_true rfl) rfl dX1_listKind_13 ?_
    refine r_goto E 2 (by decide) dX1_listKind_16 ?_
    exact GG_weak [true, true, true, true] rfl (hP2 _ _ hw)
set_option maxRecDepth 20000 in
theorem t_X1_listKind_b2 {X : Ctx} (h : Hp) (x1 : Int32) (x2 : Int32) (x3 : Int32)  (E : EE X cX1_listKind RX1 4 4 93 0 0) {Q : Hp → Prop} (hE : ENDv X cX1_listKind Q NT 0 0)  (hw : wp_X1_listKind_b2 x1 x2 x3 h  Q) : GG X 0 0 NT h [some (rf X 1 0), some (.int x1), some (.int x2), some (.int x3)] 2 [] :=
  hw (fun y3 u => GG X 0 0 NT u [some (rf X 1 0), some (.int x1), some (.int x2), some (.int y3)] 2 []) (fun y3 u hq => t_X1_listKind_b2F u x1 x2 y3  E hE  (fun y3 u => GG X 0 0 NT u [some (rf X 1 0), some (.int x1), some (.int x2), some (.int y3)] 2 []) (fun y3 u q => q) hq)
set_option maxRecDepth 20000 in
theorem m_X1_listKind {l : Launch} (hl : l.stackTraces = false) (G : Gq) (p0 : Int32) (p1 : Int32)  (h : Hp) (Q : Hp → Prop) (hw : wp_X1_listKind p0 p1 h Q) : MV l G yX1_listKind cX1_listKind 4 none rm_X1_listKind NT NT h (fun r => [r 1 0, .int p0, .int p1]) Q := by
  refine MV_of (L0 := (fun X => [some (rf X 1 0), some (.int p0), some (.int p1), none])) hl (by decide +kernel) rfl (fun _ => Nat.le_of_ble_eq_true rfl) (fun _ => rfl) fun X hXl hXG E hE => ?_
  subst hXl; subst hXG
  unfold wp_X1_listKind at hw
  refine r_iconst E 0 rfl dX1_listKind_0 ?_
  refine r_istore_n E [some (rf X 1 0), some (.int p0), some (.int p1), some (.int 0)] rfl (Nat.le_of_ble_eq_true rfl) rfl dX1_listKind_1 ?_
  exact GG_weak [true, true, true, true] rfl (t_X1_listKind_b2 h p0 p1 0 E hE  hw)
set_option maxRecDepth 20000 in
theorem t_X1_nextSize_b62 {X : Ctx} (h : Hp) (x1 : Int32) (x2 : Int32) (x3 : Int32)  (E : EE X cX1_nextSize RX1 5 2 44 0 0) {Q : Int32 → Prop} (hE : ENDi X cX1_nextSize .int (fun r u => h = u ∧ Q r) NT 0 0) (P4 : Int32 → Int32 → Prop) (hP4 : ∀ (y2 : Int32) (y3 : Int32), P4 y2 y3 → GG X 0 0 NT h [some (rf X 1 0), some (.int x1), some (.int y2), some (.int y3), none] 4 []) (hw : wp_X1_nextSize_b62 x1 x2 x3 h P4 Q) : GG X 0 0 NT h [some (rf X 1 0), some (.int x1), some (.int x2), some (.int x3), none] 62 [] := by
  unfold wp_X1_nextSize_b62 at hw
  obtain ⟨v1, hv1⟩ : ∃ y : Int32, y = x3 + 1 := ⟨_, rfl⟩
  have hw := hw v1 hv1
  refine r_iinc E x3 v1 [some (rf X 1 0), some (.int x1), some (.int x2), some (.int v1), none] rfl (by rw [hv1]; rfl) (Nat.le_of_ble_eq_true rfl) rfl dX1_nextSize_62 ?_
  refine r_goto E 4 (by decide) dX1_nextSize_65 ?_
  exact GG_weak [true, true, true, true, false] rfl (hP4 _ _ hw)
set_option maxRecDepth 20000 in
theorem t_X1_nextSize_b56 {X : Ctx} (h : Hp) (x1 : Int32) (x3 : Int32) (o4 : Nat) (ho4 : o4 < 41) (E : EE X cX1_nextSize RX1 5 2 44 0 0) {Q : Int32 → Prop} (hE : ENDi X cX1_nextSize .int (fun r u => h = u ∧ Q r) NT 0 0) (P4 : Int32 → Int32 → Prop) (hP4 : ∀ (y2 : Int32) (y3 : Int32), P4 y2 y3 → GG X 0 0 NT h [some (rf X 1 0), some (.int x1), some (.int y2), some (.int y3), none] 4 []) (hw : wp_X1_nextSize_b56 x1 x3 o4 h P4 Q) : GG X 0 0 NT h [some (rf X 1 0), some (.int x1), none, some (.int x3), some (rf X 2 o4)] 56 [] := by
  unfold wp_X1_nextSize_b56 at hw
  refine r_aload E 2 o4 rfl dX1_nextSize_56 ?_
  refine r_getI E fd_X1_89 rfl ho4 (adr_lt ho4) dX1_nextSize_58 ?_
  refine GG_topI fun v1 hv1 => ?_
  have hw := hw v1 hv1
  refine r_istore_n E [some (rf X 1 0), some (.int x1), some (.int v1), some (.int x3), some (rf X 2 o4)] rfl (Nat.le_of_ble_eq_true rfl) rfl dX1_nextSize_61 ?_
  exact GG_weak [true, true, true, true, false] rfl (t_X1_nextSize_b62 h x1 v1 x3 E hE P4 hP4  hw)
set_option maxRecDepth 20000 in
theorem t_X1_nextSize_b4F {X : Ctx} (h : Hp) (x1 : Int32) (x2 : Int32) (x3 : Int32)  (E : EE X cX1_nextSize RX1 5 2 44 0 0) {Q : Int32 → Prop} (hE : ENDi X cX1_nextSize .int (fun r u => h = u ∧ Q r) NT 0 0)  (P4 : Int32 → Int32 → Prop) (hP4 : ∀ (y2 : Int32) (y3 : Int32), P4 y2 y3 → GG X 0 0 NT h [some (rf X 1 0), some (.int x1), some (.int y2), some (.int y3), none] 4 []) (hw : wp_X1_nextSize_b4F x1 h  Q P4 x2 x3 ) : GG X 0 0 NT h [some (rf X 1 0), some (.int x1), some (.int x2), some (.int x3), none] 4 [] := by
  unfold wp_X1_nextSize_b4F at hw
  refine r_iload_n E x3 rfl dX1_nextSize_4 ?_
  refine r_aload_n E 1 0 rfl dX1_nextSize_5 ?_
  refine r_getS E fd_X1_29 (t := 0) (j1 := 3) rfl rfl rfl rfl (Nat.le_of_ble_eq_true rfl) (adr_lt (Nat.le_of_ble_eq_true rfl)) dX1_nextSize_6 ?_
  refine r_getI E fd_X1_54 rfl (Nat.le_of_ble_eq_true rfl) (adr_lt (Nat.le_of_ble_eq_true rfl)) dX1_nextSize_9 ?_
  refine r_icmp_ge E 68 (by decide) dX1_nextSize_12 (fun c1 => ?_) (fun c1 => ?_)
  · have hw := ite_t hw c1
    refine r_iload_n E x2 rfl dX1_nextSize_68 ?_
    exact hE _ _ _ _ _ _ (Nat.le_of_ble_eq_true rfl) (Nat.le_of_ble_eq_true rfl) dX1_nextSize_69 rfl ⟨rfl, hw⟩
  · have hw := ite_f hw c1
    refine r_aload_n E 1 0 rfl dX1_nextSize_15 ?_
    refine r_getS E fd_X1_29 (t := 0) (j1 := 3) rfl rfl rfl rfl (Nat.le_of_ble_eq_true rfl) (adr_lt (Nat.le_of_ble_eq_true rfl)) dX1_nextSize_16 ?_
    refine r_getS E fd_X1_58 (t := 0) (j1 := 15) rfl rfl rfl rfl (Nat.le_of_ble_eq_true rfl) (adr_lt (Nat.le_of_ble_eq_true rfl)) dX1_nextSize_19 ?_
    refine r_iload_n E x3 rfl dX1_nextSize_22 ?_
    obtain ⟨i2, hw⟩ := hw
    refine r_aaldS E (j1 := 2) (ta := 4) rfl rfl (Nat.le_of_ble_eq_true rfl) rfl rfl rfl (Nat.le_of_ble_eq_true rfl) (adr_lt (Nat.le_of_ble_eq_true rfl)) i2 rfl rfl dX1_nextSize_23 ?_
    refine r_astore E [some (rf X 1 0), some (.int x1), some (.int x2), some (.int x3), some (rf X 2 x3.toNatClampNeg)] (Nat.le_of_ble_eq_true rfl) rfl dX1_nextSize_24 ?_
    refine r_aload E 2 x3.toNatClampNeg rfl dX1_nextSize_26 ?_
    refine r_callVI E (m_X2_isKept (EE_st E) (GX X) x3.toNatClampNeg (Nat.lt_of_lt_of_le (vp_in_lt i2) (Nat.le_of_ble_eq_true rfl)) h _ hw) lk_X1_72 (RM_mk (Nat.le_of_ble_eq_true rfl) (Nat.le_of_ble_eq_true rfl)) rfl rfl rfl rfl (Nat.lt_of_lt_of_le (vp_in_lt i2) (Nat.le_of_ble_eq_true rfl)) (adr_lt (Nat.lt_of_lt_of_le (vp_in_lt i2) (Nat.le_of_ble_eq_true rfl))) (Nat.le_of_ble_eq_true rfl) rfl rfl (Nat.le_of_ble_eq_true rfl) (Nat.le_of_ble_eq_true rfl) dX1_nextSize_28 (fun r3 u9 hw => ?_)
    obtain ⟨rfl, zr3, hw⟩ := hw
    refine r_if_eq E 62 (by decide) dX1_nextSize_31 (fun c4 => ?_) (fun c4 => ?_)
    · have hw := ite_t hw c4
      exact GG_weak [true, true, true, true, false] rfl (t_X1_nextSize_b62 h x1 x2 x3 E hE P4 hP4  hw)
    · have hw := ite_f hw c4
      refine r_aload E 2 x3.toNatClampNeg rfl dX1_nextSize_34 ?_
      refine r_getI E fd_X1_89 rfl (Nat.lt_of_lt_of_le (vp_in_lt i2) (Nat.le_of_ble_eq_true rfl)) (adr_lt (Nat.lt_of_lt_of_le (vp_in_lt i2) (Nat.le_of_ble_eq_true rfl))) dX1_nextSize_36 ?_
      refine r_iload_n E x1 rfl dX1_nextSize_39 ?_
      refine r_icmp_le E 62 (by decide) dX1_nextSize_40 (fun c5 => ?_) (fun c5 => ?_)
      · have hw := ite_t hw c5
        exact GG_weak [true, true, true, true, false] rfl (t_X1_nextSize_b62 h x1 x2 x3 E hE P4 hP4  hw)
      · have hw := ite_f hw c5
        refine r_iload_n E x2 rfl dX1_nextSize_43 ?_
        refine r_if_eq E 56 (by decide) dX1_nextSize_44 (fun c6 => ?_) (fun c6 => ?_)
        · have hw := ite_t hw c6
          exact GG_weak [true, true, false, true, true] rfl (t_X1_nextSize_b56 h x1 x3 x3.toNatClampNeg (Nat.lt_of_lt_of_le (vp_in_lt i2) (Nat.le_of_ble_eq_true rfl)) E hE P4 hP4  hw)
        · have hw := ite_f hw c6
          refine r_aload E 2 x3.toNatClampNeg rfl dX1_nextSize_47 ?_
          refine r_getI E fd_X1_89 rfl (Nat.lt_of_lt_of_le (vp_in_lt i2) (Nat.le_of_ble_eq_true rfl)) (adr_lt (Nat.lt_of_lt_of_le (vp_in_lt i2) (Nat.le_of_ble_eq_true rfl))) dX1_nextSize_49 ?_
          refine r_iload_n E x2 rfl dX1_nextSize_52 ?_
          refine r_icmp_ge E 62 (by decide) dX1_nextSize_53 (fun c7 => ?_) (fun c7 => ?_)
          · have hw := ite_t hw c7
            exact GG_weak [true, true, true, true, false] rfl (t_X1_nextSize_b62 h x1 x2 x3 E hE P4 hP4  hw)
          · have hw := ite_f hw c7
            exact GG_weak [true, true, false, true, true] rfl (t_X1_nextSize_b56 h x1 x3 x3.toNatClampNeg (Nat.lt_of_lt_of_le (vp_in_lt i2) (Nat.le_of_ble_eq_true rfl)) E hE P4 hP4  hw)
set_option maxRecDepth 20000 in
theorem t_X1_nextSize_b4 {X : Ctx} (h : Hp) (x1 : Int32) (x2 : Int32) (x3 : Int32)  (E : EE X cX1_nextSize RX1 5 2 44 0 0) {Q : Int32 → Prop} (hE : ENDi X cX1_nextSize .int (fun r u => h = u ∧ Q r) NT 0 0)  (hw : wp_X1_nextSize_b4 x1 x2 x3 h  Q) : GG X 0 0 NT h [some (rf X 1 0), some (.int x1), some (.int x2), some (.int x3), none] 4 [] :=
  hw (fun y2 y3  => GG X 0 0 NT h [some (rf X 1 0), some (.int x1), some (.int y2), some (.int y3), none] 4 []) (fun y2 y3  hq => t_X1_nextSize_b4F h x1 y2 y3  E hE  (fun y2 y3  => GG X 0 0 NT h [some (rf X 1 0), some (.int x1), some (.int y2), some (.int y3), none] 4 []) (fun y2 y3  q => q) hq)
set_option maxRecDepth 20000 in
theorem m_X1_nextSize {l : Launch} (hl : l.stackTraces = false) (G : Gq) (p0 : Int32)  (h : Hp) (Q : Int32 → Prop) (hw : wp_X1_nextSize p0 h Q) : MI l G yX1_nextSize cX1_nextSize 5 (some .int) rm_X1_nextSize NT NT h (fun r => [r 1 0, .int p0]) (fun r u => h = u ∧ Q r) := by
  refine MI_of (L0 := (fun X => [some (rf X 1 0), some (.int p0), none, none, none])) hl (by decide +kernel) rfl (fun _ => Nat.le_of_ble_eq_true rfl) (fun _ => rfl) fun X hXl hXG E hE => ?_
  subst hXl; subst hXG
  unfold wp_X1_nextSize at hw
  refine r_iconst E 0 rfl dX1_nextSize_0 ?_
  refine r_istore_n E [some (rf X 1 0), some (.int p0), some (.int 0), none, none] rfl (Nat.le_of_ble_eq_true rfl) rfl dX1_nextSize_1 ?_
  refine r_iconst E 0 rfl dX1_nextSize_2 ?_
  refine r_istore_n E [some (rf X 1 0), some (.int p0), some (.int 0), some (.int 0), none] rfl (Nat.le_of_ble_eq_true rfl) rfl dX1_nextSize_3 ?_
  exact GG_weak [true, true, true, true, false] rfl (t_X1_nextSize_b4 h p0 0 0 E hE  hw)
set_option maxRecDepth 20000 in
theorem t_X1_listTests_b76 {X : Ctx} (h : Hp)   (E : EE X cX1_listTests RX1 3 5 116 0 0) {Q : Hp → Prop} (hE : ENDv X cX1_listTests Q NT 0 0)  (hw : wp_X1_listTests_b76  h  Q) : GG X 0 0 NT h [some (rf X 1 0), none, none] 76 [] := by
  unfold wp_X1_listTests_b76 at hw
  refine r_aload_n E 1 0 rfl dX1_listTests_76 ?_
  refine r_bipush E 100 rfl dX1_listTests_77 ?_
  refine r_bipush E 7 rfl dX1_listTests_79 ?_
  refine r_callVV E (m_X1_listKind (EE_st E) (GX X) 100 7 h _ hw) lk_X1_78 (RM_mk (Nat.le_of_ble_eq_true rfl) (Nat.le_of_ble_eq_true rfl)) rfl rfl rfl rfl (Nat.le_of_ble_eq_true rfl) (adr_lt (Nat.le_of_ble_eq_true rfl)) (Nat.le_of_ble_eq_true rfl) rfl rfl (Nat.le_of_ble_eq_true rfl) (Nat.le_of_ble_eq_true rfl) dX1_listTests_81 (fun h1 hw => ?_)
  exact hE _ _ _ _ _ (Nat.le_of_ble_eq_true rfl) (Nat.le_of_ble_eq_true rfl) dX1_listTests_84 hw
set_option maxRecDepth 20000 in
theorem t_X1_listTests_b45F {X : Ctx} (h : Hp) (x1 : Int32) (x2 : Int32)  (E : EE X cX1_listTests RX1 3 5 116 0 0) {Q : Hp → Prop} (hE : ENDv X cX1_listTests Q NT 0 0)  (P45 : Int32 → Int32 → Hp → Prop) (hP45 : ∀ (y1 : Int32) (y2 : Int32) (u : Hp), P45 y1 y2 u → GG X 0 0 NT u [some (rf X 1 0), some (.int y1), some (.int y2)] 45 []) (hw : wp_X1_listTests_b45F    Q P45 x1 x2 h) : GG X 0 0 NT h [some (rf X 1 0), some (.int x1), some (.int x2)] 45 [] := by
  unfold wp_X1_listTests_b45F at hw
  refine r_iload_n E x2 rfl dX1_listTests_45 ?_
  refine r_bipush E 40 rfl dX1_listTests_46 ?_
  refine r_icmp_ge E 76 (by decide) dX1_listTests_48 (fun c1 => ?_) (fun c1 => ?_)
  · have hw := ite_t hw c1
    exact GG_weak [true, false, false] rfl (t_X1_listTests_b76 h  E hE  hw)
  · have hw := ite_f hw c1
    refine r_iload_n E x1 rfl dX1_listTests_51 ?_
    refine r_if_le E 76 (by decide) dX1_listTests_52 (fun c2 => ?_) (fun c2 => ?_)
    · have hw := ite_t hw c2
      exact GG_weak [true, false, false] rfl (t_X1_listTests_b76 h  E hE  hw)
    · have hw := ite_f hw c2
      refine r_aload_n E 1 0 rfl dX1_listTests_55 ?_
      refine r_bipush E 122 rfl dX1_listTests_56 ?_
      refine r_iload_n E x1 rfl dX1_listTests_58 ?_
      refine r_iconst E 1 rfl dX1_listTests_59 ?_
      refine r_isub E dX1_listTests_60 ?_
      refine r_callVV E (m_X1_list (EE_st E) (GX X) 122 (x1 - 1) h _ hw) lk_X1_86 (RM_mk (Nat.le_of_ble_eq_true rfl) (Nat.le_of_ble_eq_true rfl)) rfl rfl rfl rfl (Nat.le_of_ble_eq_true rfl) (adr_lt (Nat.le_of_ble_eq_true rfl)) (Nat.le_of_ble_eq_true rfl) rfl rfl (Nat.le_of_ble_eq_true rfl) (Nat.le_of_ble_eq_true rfl) dX1_listTests_61 (fun h3 hw => ?_)
      refine r_aload_n E 1 0 rfl dX1_listTests_64 ?_
      refine r_iload_n E x1 rfl dX1_listTests_65 ?_
      refine r_callVI E (m_X1_nextSize (EE_st E) (GX X) x1 h3 _ hw) lk_X1_82 (RM_mk (Nat.le_of_ble_eq_true rfl) (Nat.le_of_ble_eq_true rfl)) rfl rfl rfl rfl (Nat.le_of_ble_eq_true rfl) (adr_lt (Nat.le_of_ble_eq_true rfl)) (Nat.le_of_ble_eq_true rfl) rfl rfl (Nat.le_of_ble_eq_true rfl) (Nat.le_of_ble_eq_true rfl) dX1_listTests_66 (fun r4 u9 hw => ?_)
      obtain ⟨rfl, hw⟩ := hw
      refine r_istore_n E [some (rf X 1 0), some (.int r4), some (.int x2)] rfl (Nat.le_of_ble_eq_true rfl) rfl dX1_listTests_69 ?_
      obtain ⟨v5, hv5⟩ : ∃ y : Int32, y = x2 + 1 := ⟨_, rfl⟩
      have hw := hw v5 hv5
      refine r_iinc E x2 v5 [some (rf X 1 0), some (.int r4), some (.int v5)] rfl (by rw [hv5]; rfl) (Nat.le_of_ble_eq_true rfl) rfl dX1_listTests_70 ?_
      refine r_goto E 45 (by decide) dX1_listTests_73 ?_
      exact GG_weak [true, true, true] rfl (hP45 _ _ _ hw)
set_option maxRecDepth 20000 in
theorem t_X1_listTests_b45 {X : Ctx} (h : Hp) (x1 : Int32) (x2 : Int32)  (E : EE X cX1_listTests RX1 3 5 116 0 0) {Q : Hp → Prop} (hE : ENDv X cX1_listTests Q NT 0 0)  (hw : wp_X1_listTests_b45 x1 x2 h  Q) : GG X 0 0 NT h [some (rf X 1 0), some (.int x1), some (.int x2)] 45 [] :=
  hw (fun y1 y2 u => GG X 0 0 NT u [some (rf X 1 0), some (.int y1), some (.int y2)] 45 []) (fun y1 y2 u hq => t_X1_listTests_b45F u y1 y2  E hE  (fun y1 y2 u => GG X 0 0 NT u [some (rf X 1 0), some (.int y1), some (.int y2)] 45 []) (fun y1 y2 u q => q) hq)
set_option maxRecDepth 20000 in
theorem m_X1_listTests {l : Launch} (hl : l.stackTraces = false) (G : Gq)   (h : Hp) (Q : Hp → Prop) (hw : wp_X1_listTests  h Q) : MV l G yX1_listTests cX1_listTests 3 none rm_X1_listTests NT NT h (fun r => [r 1 0]) Q := by
  refine MV_of (L0 := (fun X => [some (rf X 1 0), none, none])) hl (by decide +kernel) rfl (fun _ => Nat.le_of_ble_eq_true rfl) (fun _ => rfl) fun X hXl hXG E hE => ?_
  subst hXl; subst hXG
  unfold wp_X1_listTests at hw
  refine r_aload_n E 1 0 rfl dX1_listTests_0 ?_
  refine r_iconst E 0 rfl dX1_listTests_1 ?_
  refine r_putI E fd_X1_75 rfl PI_int (Nat.le_of_ble_eq_true rfl) (adr_lt (Nat.le_of_ble_eq_true rfl)) rfl dX1_listTests_2 ?_
  refine GG_toph fun h1 hh1 => ?_
  have hw := hw h1 hh1
  refine r_aload_n E 1 0 rfl dX1_listTests_5 ?_
  refine r_bipush E 102 rfl dX1_listTests_6 ?_
  refine r_bipush E 10 rfl dX1_listTests_8 ?_
  refine r_callVV E (m_X1_listKind (EE_st E) (GX X) 102 10 h1 _ hw) lk_X1_78 (RM_mk (Nat.le_of_ble_eq_true rfl) (Nat.le_of_ble_eq_true rfl)) rfl rfl rfl rfl (Nat.le_of_ble_eq_true rfl) (adr_lt (Nat.le_of_ble_eq_true rfl)) (Nat.le_of_ble_eq_true rfl) rfl rfl (Nat.le_of_ble_eq_true rfl) (Nat.le_of_ble_eq_true rfl) dX1_listTests_10 (fun h2 hw => ?_)
  refine r_aload_n E 1 0 rfl dX1_listTests_13 ?_
  refine r_bipush E 116 rfl dX1_listTests_14 ?_
  refine r_bipush E 10 rfl dX1_listTests_16 ?_
  refine r_callVV E (m_X1_listKind (EE_st E) (GX X) 116 10 h2 _ hw) lk_X1_78 (RM_mk (Nat.le_of_ble_eq_true rfl) (Nat.le_of_ble_eq_true rfl)) rfl rfl rfl rfl (Nat.le_of_ble_eq_true rfl) (adr_lt (Nat.le_of_ble_eq_true rfl)) (Nat.le_of_ble_eq_true rfl) rfl rfl (Nat.le_of_ble_eq_true rfl) (Nat.le_of_ble_eq_true rfl) dX1_listTests_18 (fun h3 hw => ?_)
  refine r_aload_n E 1 0 rfl dX1_listTests_21 ?_
  refine r_bipush E 115 rfl dX1_listTests_22 ?_
  refine r_bipush E 16 rfl dX1_listTests_24 ?_
  refine r_callVV E (m_X1_listKind (EE_st E) (GX X) 115 16 h3 _ hw) lk_X1_78 (RM_mk (Nat.le_of_ble_eq_true rfl) (Nat.le_of_ble_eq_true rfl)) rfl rfl rfl rfl (Nat.le_of_ble_eq_true rfl) (adr_lt (Nat.le_of_ble_eq_true rfl)) (Nat.le_of_ble_eq_true rfl) rfl rfl (Nat.le_of_ble_eq_true rfl) (Nat.le_of_ble_eq_true rfl) dX1_listTests_26 (fun h4 hw => ?_)
  refine r_aload_n E 1 0 rfl dX1_listTests_29 ?_
  refine r_bipush E 98 rfl dX1_listTests_30 ?_
  refine r_bipush E 16 rfl dX1_listTests_32 ?_
  refine r_callVV E (m_X1_listKind (EE_st E) (GX X) 98 16 h4 _ hw) lk_X1_78 (RM_mk (Nat.le_of_ble_eq_true rfl) (Nat.le_of_ble_eq_true rfl)) rfl rfl rfl rfl (Nat.le_of_ble_eq_true rfl) (adr_lt (Nat.le_of_ble_eq_true rfl)) (Nat.le_of_ble_eq_true rfl) rfl rfl (Nat.le_of_ble_eq_true rfl) (Nat.le_of_ble_eq_true rfl) dX1_listTests_34 (fun h5 hw => ?_)
  refine r_aload_n E 1 0 rfl dX1_listTests_37 ?_
  refine r_iconst E 0 rfl dX1_listTests_38 ?_
  refine r_callVI E (m_X1_nextSize (EE_st E) (GX X) 0 h5 _ hw) lk_X1_82 (RM_mk (Nat.le_of_ble_eq_true rfl) (Nat.le_of_ble_eq_true rfl)) rfl rfl rfl rfl (Nat.le_of_ble_eq_true rfl) (adr_lt (Nat.le_of_ble_eq_true rfl)) (Nat.le_of_ble_eq_true rfl) rfl rfl (Nat.le_of_ble_eq_true rfl) (Nat.le_of_ble_eq_true rfl) dX1_listTests_39 (fun r6 u9 hw => ?_)
  obtain ⟨rfl, hw⟩ := hw
  refine r_istore_n E [some (rf X 1 0), some (.int r6), none] rfl (Nat.le_of_ble_eq_true rfl) rfl dX1_listTests_42 ?_
  refine r_iconst E 0 rfl dX1_listTests_43 ?_
  refine r_istore_n E [some (rf X 1 0), some (.int r6), some (.int 0)] rfl (Nat.le_of_ble_eq_true rfl) rfl dX1_listTests_44 ?_
  exact GG_weak [true, true, true] rfl (t_X1_listTests_b45 h5 r6 0 E hE  hw)
set_option maxRecDepth 20000 in
theorem t_X1_findsOne_b2F {X : Ctx} (h : Hp) (x1 : Int32)  (E : EE X cX1_findsOne RX1 2 1 24 0 0) {Q : Int32 → Hp → Prop} (hE : ENDi X cX1_findsOne .boolean (fun r u => isB r ∧ Q r u) NT 0 0)  (P2 : Int32 → Hp → Prop) (hP2 : ∀ (y1 : Int32) (u : Hp), P2 y1 u → GG X 0 0 NT u [some (rf X 1 0), some (.int y1)] 2 []) (hw : wp_X1_findsOne_b2F    Q P2 x1 h) : GG X 0 0 NT h [some (rf X 1 0), some (.int x1)] 2 [] := by
  unfold wp_X1_findsOne_b2F at hw
  refine r_iload_n E x1 rfl dX1_findsOne_2 ?_
  refine r_aload_n E 1 0 rfl dX1_findsOne_3 ?_
  refine r_getI E fd_X1_75 rfl (Nat.le_of_ble_eq_true rfl) (adr_lt (Nat.le_of_ble_eq_true rfl)) dX1_findsOne_4 ?_
  refine r_icmp_ge E 39 (by decide) dX1_findsOne_7 (fun c1 => ?_) (fun c1 => ?_)
  · have hw := ite_t hw c1
    refine r_iconst E 0 rfl dX1_findsOne_39 ?_
    exact hE _ _ _ _ _ _ (Nat.le_of_ble_eq_true rfl) (Nat.le_of_ble_eq_true rfl) dX1_findsOne_40 (isB_nar isB_0) ⟨isB_0, hw⟩
  · have hw := ite_f hw c1
    refine r_aload_n E 1 0 rfl dX1_findsOne_10 ?_
    refine r_getS E fd_X1_25 (t := 0) (j1 := 32) rfl rfl rfl rfl (Nat.le_of_ble_eq_true rfl) (adr_lt (Nat.le_of_ble_eq_true rfl)) dX1_findsOne_11 ?_
    refine r_iload_n E x1 rfl dX1_findsOne_14 ?_
    obtain ⟨i2, hw⟩ := hw
    refine r_lald E rfl rfl rfl (Nat.le_of_ble_eq_true rfl) (adr_lt (Nat.le_of_ble_eq_true rfl)) i2 dX1_findsOne_15 ?_
    refine r_lconst E 0 rfl dX1_findsOne_16 ?_
    refine r_lcmp_ne E 33 (by decide) dX1_findsOne_17 dX1_findsOne_18 (fun c3 => ?_) (fun c3 => ?_)
    · have hw := ite_t hw c3
      refine r_aload_n E 1 0 rfl dX1_findsOne_21 ?_
      refine r_iload_n E x1 rfl dX1_findsOne_22 ?_
      refine r_putI E fd_X1_100 rfl PI_int (Nat.le_of_ble_eq_true rfl) (adr_lt (Nat.le_of_ble_eq_true rfl)) rfl dX1_findsOne_23 ?_
      refine GG_toph fun h4 hh4 => ?_
      have hw := hw h4 hh4
      refine r_aload_n E 1 0 rfl dX1_findsOne_26 ?_
      refine r_iconst E (-1) rfl dX1_findsOne_27 ?_
      refine r_putI E fd_X1_103 rfl PI_int (Nat.le_of_ble_eq_true rfl) (adr_lt (Nat.le_of_ble_eq_true rfl)) rfl dX1_findsOne_28 ?_
      refine GG_toph fun h5 hh5 => ?_
      have hw := hw h5 hh5
      refine r_iconst E 1 rfl dX1_findsOne_31 ?_
      exact hE _ _ _ _ _ _ (Nat.le_of_ble_eq_true rfl) (Nat.le_of_ble_eq_true rfl) dX1_findsOne_32 (isB_nar isB_1) ⟨isB_1, hw⟩
    · have hw := ite_f hw c3
      obtain ⟨v6, hv6⟩ : ∃ y : Int32, y = x1 + 1 := ⟨_, rfl⟩
      have hw := hw v6 hv6
      refine r_iinc E x1 v6 [some (rf X 1 0), some (.int v6)] rfl (by rw [hv6]; rfl) (Nat.le_of_ble_eq_true rfl) rfl dX1_findsOne_33 ?_
      refine r_goto E 2 (by decide) dX1_findsOne_36 ?_
      exact GG_weak [true, true] rfl (hP2 _ _ hw)
set_option maxRecDepth 20000 in
theorem t_X1_findsOne_b2 {X : Ctx} (h : Hp) (x1 : Int32)  (E : EE X cX1_findsOne RX1 2 1 24 0 0) {Q : Int32 → Hp → Prop} (hE : ENDi X cX1_findsOne .boolean (fun r u => isB r ∧ Q r u) NT 0 0)  (hw : wp_X1_findsOne_b2 x1 h  Q) : GG X 0 0 NT h [some (rf X 1 0), some (.int x1)] 2 [] :=
  hw (fun y1 u => GG X 0 0 NT u [some (rf X 1 0), some (.int y1)] 2 []) (fun y1 u hq => t_X1_findsOne_b2F u y1  E hE  (fun y1 u => GG X 0 0 NT u [some (rf X 1 0), some (.int y1)] 2 []) (fun y1 u q => q) hq)
set_option maxRecDepth 20000 in
theorem m_X1_findsOne {l : Launch} (hl : l.stackTraces = false) (G : Gq)   (h : Hp) (Q : Int32 → Hp → Prop) (hw : wp_X1_findsOne  h Q) : MI l G yX1_findsOne cX1_findsOne 2 (some .boolean) rm_X1_findsOne NT NT h (fun r => [r 1 0]) (fun r u => isB r ∧ Q r u) := by
  refine MI_of (L0 := (fun X => [some (rf X 1 0), none])) hl (by decide +kernel) rfl (fun _ => Nat.le_of_ble_eq_true rfl) (fun _ => rfl) fun X hXl hXG E hE => ?_
  subst hXl; subst hXG
  unfold wp_X1_findsOne at hw
  refine r_iconst E 0 rfl dX1_findsOne_0 ?_
  refine r_istore_n E [some (rf X 1 0), some (.int 0)] rfl (Nat.le_of_ble_eq_true rfl) rfl dX1_findsOne_1 ?_
  exact GG_weak [true, true] rfl (t_X1_findsOne_b2 h 0 E hE  hw)
set_option maxRecDepth 20000 in
theorem t_X1_findsPair_b14F {X : Ctx} (h : Hp) (x1 : Int32) (x2 : Int32)  (E : EE X cX1_findsPair RX1 3 1 24 0 0) {Q : Int32 → Hp → Prop} (hE : ENDi X cX1_findsPair .boolean (fun r u => isB r ∧ Q r u) NT 0 0) (P2 : Int32 → Hp → Prop) (hP2 : ∀ (y1 : Int32) (u : Hp), P2 y1 u → GG X 0 0 NT u [some (rf X 1 0), some (.int y1), none] 2 []) (P14 : Int32 → Hp → Prop) (hP14 : ∀ (y2 : Int32) (u : Hp), P14 y2 u → GG X 0 0 NT u [some (rf X 1 0), some (.int x1), some (.int y2)] 14 []) (hw : wp_X1_findsPair_b14F x1  P2 Q P14 x2 h) : GG X 0 0 NT h [some (rf X 1 0), some (.int x1), some (.int x2)] 14 [] := by
  unfold wp_X1_findsPair_b14F at hw
  refine r_iload_n E x2 rfl dX1_findsPair_14 ?_
  refine r_aload_n E 1 0 rfl dX1_findsPair_15 ?_
  refine r_getI E fd_X1_75 rfl (Nat.le_of_ble_eq_true rfl) (adr_lt (Nat.le_of_ble_eq_true rfl)) dX1_findsPair_16 ?_
  refine r_icmp_ge E 58 (by decide) dX1_findsPair_19 (fun c1 => ?_) (fun c1 => ?_)
  · have hw := ite_t hw c1
    obtain ⟨v2, hv2⟩ : ∃ y : Int32, y = x1 + 1 := ⟨_, rfl⟩
    have hw := hw v2 hv2
    refine r_iinc E x1 v2 [some (rf X 1 0), some (.int v2), some (.int x2)] rfl (by rw [hv2]; rfl) (Nat.le_of_ble_eq_true rfl) rfl dX1_findsPair_58 ?_
    refine r_goto E 2 (by decide) dX1_findsPair_61 ?_
    exact GG_weak [true, true, false] rfl (hP2 _ _ hw)
  · have hw := ite_f hw c1
    refine r_aload_n E 1 0 rfl dX1_findsPair_22 ?_
    refine r_getS E fd_X1_25 (t := 0) (j1 := 32) rfl rfl rfl rfl (Nat.le_of_ble_eq_true rfl) (adr_lt (Nat.le_of_ble_eq_true rfl)) dX1_findsPair_23 ?_
    refine r_iload_n E x1 rfl dX1_findsPair_26 ?_
    obtain ⟨i3, hw⟩ := hw
    refine r_lald E rfl rfl rfl (Nat.le_of_ble_eq_true rfl) (adr_lt (Nat.le_of_ble_eq_true rfl)) i3 dX1_findsPair_27 ?_
    refine r_aload_n E 1 0 rfl dX1_findsPair_28 ?_
    refine r_getS E fd_X1_25 (t := 0) (j1 := 32) rfl rfl rfl rfl (Nat.le_of_ble_eq_true rfl) (adr_lt (Nat.le_of_ble_eq_true rfl)) dX1_findsPair_29 ?_
    refine r_iload_n E x2 rfl dX1_findsPair_32 ?_
    obtain ⟨i4, hw⟩ := hw
    refine r_lald E rfl rfl rfl (Nat.le_of_ble_eq_true rfl) (adr_lt (Nat.le_of_ble_eq_true rfl)) i4 dX1_findsPair_33 ?_
    refine r_land E dX1_findsPair_34 ?_
    refine r_lconst E 0 rfl dX1_findsPair_35 ?_
    refine r_lcmp_ne E 52 (by decide) dX1_findsPair_36 dX1_findsPair_37 (fun c5 => ?_) (fun c5 => ?_)
    · have hw := ite_t hw c5
      refine r_aload_n E 1 0 rfl dX1_findsPair_40 ?_
      refine r_iload_n E x1 rfl dX1_findsPair_41 ?_
      refine r_putI E fd_X1_100 rfl PI_int (Nat.le_of_ble_eq_true rfl) (adr_lt (Nat.le_of_ble_eq_true rfl)) rfl dX1_findsPair_42 ?_
      refine GG_toph fun h6 hh6 => ?_
      have hw := hw h6 hh6
      refine r_aload_n E 1 0 rfl dX1_findsPair_45 ?_
      refine r_iload_n E x2 rfl dX1_findsPair_46 ?_
      refine r_putI E fd_X1_103 rfl PI_int (Nat.le_of_ble_eq_true rfl) (adr_lt (Nat.le_of_ble_eq_true rfl)) rfl dX1_findsPair_47 ?_
      refine GG_toph fun h7 hh7 => ?_
      have hw := hw h7 hh7
      refine r_iconst E 1 rfl dX1_findsPair_50 ?_
      exact hE _ _ _ _ _ _ (Nat.le_of_ble_eq_true rfl) (Nat.le_of_ble_eq_true rfl) dX1_findsPair_51 (isB_nar isB_1) ⟨isB_1, hw⟩
    · have hw := ite_f hw c5
      obtain ⟨v8, hv8⟩ : ∃ y : Int32, y = x2 + 1 := ⟨_, rfl⟩
      have hw := hw v8 hv8
      refine r_iinc E x2 v8 [some (rf X 1 0), some (.int x1), some (.int v8)] rfl (by rw [hv8]; rfl) (Nat.le_of_ble_eq_true rfl) rfl dX1_findsPair_52 ?_
      refine r_goto E 14 (by decide) dX1_findsPair_55 ?_
      exact GG_weak [true, true, true] rfl (hP14 _ _ hw)
set_option maxRecDepth 20000 in
theorem t_X1_findsPair_b14 {X : Ctx} (h : Hp) (x1 : Int32) (x2 : Int32)  (E : EE X cX1_findsPair RX1 3 1 24 0 0) {Q : Int32 → Hp → Prop} (hE : ENDi X cX1_findsPair .boolean (fun r u => isB r ∧ Q r u) NT 0 0) (P2 : Int32 → Hp → Prop) (hP2 : ∀ (y1 : Int32) (u : Hp), P2 y1 u → GG X 0 0 NT u [some (rf X 1 0), some (.int y1), none] 2 []) (hw : wp_X1_findsPair_b14 x1 x2 h P2 Q) : GG X 0 0 NT h [some (rf X 1 0), some (.int x1), some (.int x2)] 14 [] :=
  hw (fun y2 u => GG X 0 0 NT u [some (rf X 1 0), some (.int x1), some (.int y2)] 14 []) (fun y2 u hq => t_X1_findsPair_b14F u x1 y2  E hE P2 hP2 (fun y2 u => GG X 0 0 NT u [some (rf X 1 0), some (.int x1), some (.int y2)] 14 []) (fun y2 u q => q) hq)
set_option maxRecDepth 20000 in
theorem t_X1_findsPair_b2F {X : Ctx} (h : Hp) (x1 : Int32)  (E : EE X cX1_findsPair RX1 3 1 24 0 0) {Q : Int32 → Hp → Prop} (hE : ENDi X cX1_findsPair .boolean (fun r u => isB r ∧ Q r u) NT 0 0)  (P2 : Int32 → Hp → Prop) (hP2 : ∀ (y1 : Int32) (u : Hp), P2 y1 u → GG X 0 0 NT u [some (rf X 1 0), some (.int y1), none] 2 []) (hw : wp_X1_findsPair_b2F    Q P2 x1 h) : GG X 0 0 NT h [some (rf X 1 0), some (.int x1), none] 2 [] := by
  unfold wp_X1_findsPair_b2F at hw
  refine r_iload_n E x1 rfl dX1_findsPair_2 ?_
  refine r_aload_n E 1 0 rfl dX1_findsPair_3 ?_
  refine r_getI E fd_X1_75 rfl (Nat.le_of_ble_eq_true rfl) (adr_lt (Nat.le_of_ble_eq_true rfl)) dX1_findsPair_4 ?_
  refine r_icmp_ge E 64 (by decide) dX1_findsPair_7 (fun c1 => ?_) (fun c1 => ?_)
  · have hw := ite_t hw c1
    refine r_iconst E 0 rfl dX1_findsPair_64 ?_
    exact hE _ _ _ _ _ _ (Nat.le_of_ble_eq_true rfl) (Nat.le_of_ble_eq_true rfl) dX1_findsPair_65 (isB_nar isB_0) ⟨isB_0, hw⟩
  · have hw := ite_f hw c1
    refine r_iload_n E x1 rfl dX1_findsPair_10 ?_
    refine r_iconst E 1 rfl dX1_findsPair_11 ?_
    refine r_iadd E dX1_findsPair_12 ?_
    refine GG_topI fun v2 hv2 => ?_
    have hw := hw v2 hv2
    refine r_istore_n E [some (rf X 1 0), some (.int x1), some (.int v2)] rfl (Nat.le_of_ble_eq_true rfl) rfl dX1_findsPair_13 ?_
    exact GG_weak [true, true, true] rfl (t_X1_findsPair_b14 h x1 v2 E hE P2 hP2  hw)
set_option maxRecDepth 20000 in
theorem t_X1_findsPair_b2 {X : Ctx} (h : Hp) (x1 : Int32)  (E : EE X cX1_findsPair RX1 3 1 24 0 0) {Q : Int32 → Hp → Prop} (hE : ENDi X cX1_findsPair .boolean (fun r u => isB r ∧ Q r u) NT 0 0)  (hw : wp_X1_findsPair_b2 x1 h  Q) : GG X 0 0 NT h [some (rf X 1 0), some (.int x1), none] 2 [] :=
  hw (fun y1 u => GG X 0 0 NT u [some (rf X 1 0), some (.int y1), none] 2 []) (fun y1 u hq => t_X1_findsPair_b2F u y1  E hE  (fun y1 u => GG X 0 0 NT u [some (rf X 1 0), some (.int y1), none] 2 []) (fun y1 u q => q) hq)
set_option maxRecDepth 20000 in
theorem m_X1_findsPair {l : Launch} (hl : l.stackTraces = false) (G : Gq)   (h : Hp) (Q : Int32 → Hp → Prop) (hw : wp_X1_findsPair  h Q) : MI l G yX1_findsPair cX1_findsPair 3 (some .boolean) rm_X1_findsPair NT NT h (fun r => [r 1 0]) (fun r u => isB r ∧ Q r u) := by
  refine MI_of (L0 := (fun X => [some (rf X 1 0), none, none])) hl (by decide +kernel) rfl (fun _ => Nat.le_of_ble_eq_true rfl) (fun _ => rfl) fun X hXl hXG E hE => ?_
  subst hXl; subst hXG
  unfold wp_X1_findsPair at hw
  refine r_iconst E 0 rfl dX1_findsPair_0 ?_
  refine r_istore_n E [some (rf X 1 0), some (.int 0), none] rfl (Nat.le_of_ble_eq_true rfl) rfl dX1_findsPair_1 ?_
  exact GG_weak [true, true, false] rfl (t_X1_findsPair_b2 h 0 E hE  hw)
set_option maxRecDepth 20000 in
theorem m_X1_finds {l : Launch} (hl : l.stackTraces = false) (G : Gq) (p0 : Int32)  (h : Hp) (Q : Int32 → Hp → Prop) (hw : wp_X1_finds p0 h Q) : MI l G yX1_finds cX1_finds 2 (some .boolean) rm_X1_finds NT NT h (fun r => [r 1 0, .int p0]) (fun r u => isB r ∧ Q r u) := by
  refine MI_of (L0 := (fun X => [some (rf X 1 0), some (.int p0)])) hl (by decide +kernel) rfl (fun _ => Nat.le_of_ble_eq_true rfl) (fun _ => rfl) fun X hXl hXG E hE => ?_
  subst hXl; subst hXG
  unfold wp_X1_finds at hw
  refine r_aload_n E 1 0 rfl dX1_finds_0 ?_
  refine r_iload_n E p0 rfl dX1_finds_1 ?_
  refine r_callVV E (m_X1_sortMails (EE_st E) (GX X) p0 h _ hw) lk_X1_33 (RM_mk (Nat.le_of_ble_eq_true rfl) (Nat.le_of_ble_eq_true rfl)) rfl rfl rfl rfl (Nat.le_of_ble_eq_true rfl) (adr_lt (Nat.le_of_ble_eq_true rfl)) (Nat.le_of_ble_eq_true rfl) rfl rfl (Nat.le_of_ble_eq_true rfl) (Nat.le_of_ble_eq_true rfl) dX1_finds_2 (fun h1 hw => ?_)
  refine r_aload_n E 1 0 rfl dX1_finds_5 ?_
  refine r_getJ E fd_X1_37 rfl (Nat.le_of_ble_eq_true rfl) (adr_lt (Nat.le_of_ble_eq_true rfl)) dX1_finds_6 ?_
  refine r_lconst E 0 rfl dX1_finds_9 ?_
  refine r_lcmp_ne E 16 (by decide) dX1_finds_10 dX1_finds_11 (fun c2 => ?_) (fun c2 => ?_)
  · have hw := ite_t hw c2
    refine r_iconst E 0 rfl dX1_finds_14 ?_
    exact hE _ _ _ _ _ _ (Nat.le_of_ble_eq_true rfl) (Nat.le_of_ble_eq_true rfl) dX1_finds_15 (isB_nar isB_0) ⟨isB_0, hw⟩
  · have hw := ite_f hw c2
    refine r_aload_n E 1 0 rfl dX1_finds_16 ?_
    refine r_callVV E (m_X1_listTests (EE_st E) (GX X)  h1 _ hw) lk_X1_41 (RM_mk (Nat.le_of_ble_eq_true rfl) (Nat.le_of_ble_eq_true rfl)) rfl rfl rfl rfl (Nat.le_of_ble_eq_true rfl) (adr_lt (Nat.le_of_ble_eq_true rfl)) (Nat.le_of_ble_eq_true rfl) rfl rfl (Nat.le_of_ble_eq_true rfl) (Nat.le_of_ble_eq_true rfl) dX1_finds_17 (fun h3 hw => ?_)
    refine r_aload_n E 1 0 rfl dX1_finds_20 ?_
    refine r_callVI E (m_X1_findsOne (EE_st E) (GX X)  h3 _ hw) lk_X1_44 (RM_mk (Nat.le_of_ble_eq_true rfl) (Nat.le_of_ble_eq_true rfl)) rfl rfl rfl rfl (Nat.le_of_ble_eq_true rfl) (adr_lt (Nat.le_of_ble_eq_true rfl)) (Nat.le_of_ble_eq_true rfl) rfl rfl (Nat.le_of_ble_eq_true rfl) (Nat.le_of_ble_eq_true rfl) dX1_finds_21 (fun r4 h5 hw => ?_)
    obtain ⟨zr4, hw⟩ := hw
    refine r_if_ne E 34 (by decide) dX1_finds_24 (fun c6 => ?_) (fun c6 => ?_)
    · have hw := ite_t hw c6
      refine r_aload_n E 1 0 rfl dX1_finds_27 ?_
      refine r_callVI E (m_X1_findsPair (EE_st E) (GX X)  h5 _ hw) lk_X1_48 (RM_mk (Nat.le_of_ble_eq_true rfl) (Nat.le_of_ble_eq_true rfl)) rfl rfl rfl rfl (Nat.le_of_ble_eq_true rfl) (adr_lt (Nat.le_of_ble_eq_true rfl)) (Nat.le_of_ble_eq_true rfl) rfl rfl (Nat.le_of_ble_eq_true rfl) (Nat.le_of_ble_eq_true rfl) dX1_finds_28 (fun r7 h8 hw => ?_)
      obtain ⟨zr7, hw⟩ := hw
      refine r_if_eq E 38 (by decide) dX1_finds_31 (fun c9 => ?_) (fun c9 => ?_)
      · have hw := ite_t hw c9
        refine r_iconst E 0 rfl dX1_finds_38 ?_
        exact hE _ _ _ _ _ _ (Nat.le_of_ble_eq_true rfl) (Nat.le_of_ble_eq_true rfl) dX1_finds_39 (isB_nar isB_0) ⟨isB_0, hw⟩
      · have hw := ite_f hw c9
        refine r_iconst E 1 rfl dX1_finds_34 ?_
        refine r_goto E 39 (by decide) dX1_finds_35 ?_
        exact hE _ _ _ _ _ _ (Nat.le_of_ble_eq_true rfl) (Nat.le_of_ble_eq_true rfl) dX1_finds_39 (isB_nar isB_1) ⟨isB_1, hw⟩
    · have hw := ite_f hw c6
      refine r_iconst E 1 rfl dX1_finds_34 ?_
      refine r_goto E 39 (by decide) dX1_finds_35 ?_
      exact hE _ _ _ _ _ _ (Nat.le_of_ble_eq_true rfl) (Nat.le_of_ble_eq_true rfl) dX1_finds_39 (isB_nar isB_1) ⟨isB_1, hw⟩
set_option maxRecDepth 20000 in
theorem t_X1_testsNeeded_b43 {X : Ctx} (h : Hp) (s0 : Int32) (s1 : Int32)  (E : EE X cX1_testsNeeded RX1 2 1 24 0 0) {Q : Int32 → Prop} (hE : ENDi X cX1_testsNeeded .int (fun r u => h = u ∧ Q r) NT 0 0)  (hw : wp_X1_testsNeeded_b43 s0 s1 h  Q) : GG X 0 0 NT h [none, none] 43 [.int s1, .int s0] := by
  unfold wp_X1_testsNeeded_b43 at hw
  refine r_iadd E dX1_testsNeeded_43 ?_
  refine GG_topI fun v1 hv1 => ?_
  have hw := hw v1 hv1
  refine r_istore_n E [none, some (.int v1)] rfl (Nat.le_of_ble_eq_true rfl) rfl dX1_testsNeeded_44 ?_
  refine r_iload_n E v1 rfl dX1_testsNeeded_45 ?_
  exact hE _ _ _ _ _ _ (Nat.le_of_ble_eq_true rfl) (Nat.le_of_ble_eq_true rfl) dX1_testsNeeded_46 rfl ⟨rfl, hw⟩
set_option maxRecDepth 20000 in
theorem t_X1_testsNeeded_b17 {X : Ctx} (h : Hp) (s0 : Int32)  (E : EE X cX1_testsNeeded RX1 2 1 24 0 0) {Q : Int32 → Prop} (hE : ENDi X cX1_testsNeeded .int (fun r u => h = u ∧ Q r) NT 0 0)  (hw : wp_X1_testsNeeded_b17 s0 h  Q) : GG X 0 0 NT h [some (rf X 1 0), none] 17 [.int s0] := by
  unfold wp_X1_testsNeeded_b17 at hw
  refine r_istore_n E [some (rf X 1 0), some (.int s0)] rfl (Nat.le_of_ble_eq_true rfl) rfl dX1_testsNeeded_17 ?_
  refine r_aload_n E 1 0 rfl dX1_testsNeeded_18 ?_
  refine r_getI E fd_X1_103 rfl (Nat.le_of_ble_eq_true rfl) (adr_lt (Nat.le_of_ble_eq_true rfl)) dX1_testsNeeded_19 ?_
  refine r_if_lt E 45 (by decide) dX1_testsNeeded_22 (fun c1 => ?_) (fun c1 => ?_)
  · have hw := ite_t hw c1
    refine r_iload_n E s0 rfl dX1_testsNeeded_45 ?_
    exact hE _ _ _ _ _ _ (Nat.le_of_ble_eq_true rfl) (Nat.le_of_ble_eq_true rfl) dX1_testsNeeded_46 rfl ⟨rfl, hw⟩
  · have hw := ite_f hw c1
    refine r_iload_n E s0 rfl dX1_testsNeeded_25 ?_
    refine r_aload_n E 1 0 rfl dX1_testsNeeded_26 ?_
    refine r_getS E fd_X1_21 (t := 0) (j1 := 31) rfl rfl rfl rfl (Nat.le_of_ble_eq_true rfl) (adr_lt (Nat.le_of_ble_eq_true rfl)) dX1_testsNeeded_27 ?_
    refine r_aload_n E 1 0 rfl dX1_testsNeeded_30 ?_
    refine r_getI E fd_X1_103 rfl (Nat.le_of_ble_eq_true rfl) (adr_lt (Nat.le_of_ble_eq_true rfl)) dX1_testsNeeded_31 ?_
    obtain ⟨i2, hw⟩ := hw
    refine r_zald E rfl rfl rfl (Nat.le_of_ble_eq_true rfl) (adr_lt (Nat.le_of_ble_eq_true rfl)) i2 dX1_testsNeeded_34 ?_
    refine r_if_eq E 42 (by decide) dX1_testsNeeded_35 (fun c3 => ?_) (fun c3 => ?_)
    · have hw := ite_t hw c3
      refine r_iconst E 2 rfl dX1_testsNeeded_42 ?_
      exact GG_weak [false, false] rfl (t_X1_testsNeeded_b43 h s0 2 E hE  hw)
    · have hw := ite_f hw c3
      refine r_iconst E 3 rfl dX1_testsNeeded_38 ?_
      refine r_goto E 43 (by decide) dX1_testsNeeded_39 ?_
      exact GG_weak [false, false] rfl (t_X1_testsNeeded_b43 h s0 3 E hE  hw)
set_option maxRecDepth 20000 in
theorem m_X1_testsNeeded {l : Launch} (hl : l.stackTraces = false) (G : Gq)   (h : Hp) (Q : Int32 → Prop) (hw : wp_X1_testsNeeded  h Q) : MI l G yX1_testsNeeded cX1_testsNeeded 2 (some .int) rm_X1_testsNeeded NT NT h (fun r => [r 1 0]) (fun r u => h = u ∧ Q r) := by
  refine MI_of (L0 := (fun X => [some (rf X 1 0), none])) hl (by decide +kernel) rfl (fun _ => Nat.le_of_ble_eq_true rfl) (fun _ => rfl) fun X hXl hXG E hE => ?_
  subst hXl; subst hXG
  unfold wp_X1_testsNeeded at hw
  refine r_aload_n E 1 0 rfl dX1_testsNeeded_0 ?_
  refine r_getS E fd_X1_21 (t := 0) (j1 := 31) rfl rfl rfl rfl (Nat.le_of_ble_eq_true rfl) (adr_lt (Nat.le_of_ble_eq_true rfl)) dX1_testsNeeded_1 ?_
  refine r_aload_n E 1 0 rfl dX1_testsNeeded_4 ?_
  refine r_getI E fd_X1_100 rfl (Nat.le_of_ble_eq_true rfl) (adr_lt (Nat.le_of_ble_eq_true rfl)) dX1_testsNeeded_5 ?_
  obtain ⟨i1, hw⟩ := hw
  refine r_zald E rfl rfl rfl (Nat.le_of_ble_eq_true rfl) (adr_lt (Nat.le_of_ble_eq_true rfl)) i1 dX1_testsNeeded_8 ?_
  refine r_if_eq E 16 (by decide) dX1_testsNeeded_9 (fun c2 => ?_) (fun c2 => ?_)
  · have hw := ite_t hw c2
    refine r_iconst E 1 rfl dX1_testsNeeded_16 ?_
    exact GG_weak [true, false] rfl (t_X1_testsNeeded_b17 h 1 E hE  hw)
  · have hw := ite_f hw c2
    refine r_iconst E 2 rfl dX1_testsNeeded_12 ?_
    refine r_goto E 17 (by decide) dX1_testsNeeded_13 ?_
    exact GG_weak [true, false] rfl (t_X1_testsNeeded_b17 h 2 E hE  hw)
set_option maxRecDepth 20000 in
theorem m_X9_partsOf {l : Launch} (hl : l.stackTraces = false) (G : Gq) (p0 : Int32)  (h : Hp) (Q : Int32 → Prop) (hw : wp_X9_partsOf p0 h Q) : MI l G yX9_partsOf cX9_partsOf 1 (some .int) rm_X9_partsOf NT NT h (fun r => [.int p0]) (fun r u => h = u ∧ Q r) := by
  refine MI_of (L0 := (fun X => [some (.int p0)])) hl (by decide +kernel) rfl (fun _ => Nat.le_of_ble_eq_true rfl) (fun _ => rfl) fun X hXl hXG E hE => ?_
  subst hXl; subst hXG
  unfold wp_X9_partsOf at hw
  refine r_iload_n E p0 rfl dX9_partsOf_0 ?_
  refine r_bipush E 38 rfl dX9_partsOf_1 ?_
  refine r_icmp_eq E 12 (by decide) dX9_partsOf_3 (fun c1 => ?_) (fun c1 => ?_)
  · have hw := ite_t hw c1
    refine r_iconst E 2 rfl dX9_partsOf_12 ?_
    refine r_goto E 27 (by decide) dX9_partsOf_13 ?_
    exact hE _ _ _ _ _ _ (Nat.le_of_ble_eq_true rfl) (Nat.le_of_ble_eq_true rfl) dX9_partsOf_27 rfl ⟨rfl, hw⟩
  · have hw := ite_f hw c1
    refine r_iload_n E p0 rfl dX9_partsOf_6 ?_
    refine r_bipush E 124 rfl dX9_partsOf_7 ?_
    refine r_icmp_ne E 16 (by decide) dX9_partsOf_9 (fun c2 => ?_) (fun c2 => ?_)
    · have hw := ite_t hw c2
      refine r_iconst E 2 rfl dX9_partsOf_12 ?_
      refine r_goto E 27 (by decide) dX9_partsOf_13 ?_
      exact hE _ _ _ _ _ _ (Nat.le_of_ble_eq_true rfl) (Nat.le_of_ble_eq_true rfl) dX9_partsOf_27 rfl ⟨rfl, hw⟩
    · have hw := ite_f hw c2
      refine r_iload_n E p0 rfl dX9_partsOf_16 ?_
      refine r_bipush E 33 rfl dX9_partsOf_17 ?_
      refine r_icmp_ne E 26 (by decide) dX9_partsOf_19 (fun c3 => ?_) (fun c3 => ?_)
      · have hw := ite_t hw c3
        refine r_iconst E 1 rfl dX9_partsOf_22 ?_
        refine r_goto E 27 (by decide) dX9_partsOf_23 ?_
        exact hE _ _ _ _ _ _ (Nat.le_of_ble_eq_true rfl) (Nat.le_of_ble_eq_true rfl) dX9_partsOf_27 rfl ⟨rfl, hw⟩
      · have hw := ite_f hw c3
        refine r_iconst E 0 rfl dX9_partsOf_26 ?_
        exact hE _ _ _ _ _ _ (Nat.le_of_ble_eq_true rfl) (Nat.le_of_ble_eq_true rfl) dX9_partsOf_27 rfl ⟨rfl, hw⟩
set_option maxRecDepth 20000 in
theorem t_X9_isSteady_b42 {X : Ctx} (h : Hp) (x1 : Int32) (x2 : Int32)  (E : EE X cX9_isSteady RX9 3 2 46 0 0) {Q : Int32 → Prop} (hE : ENDi X cX9_isSteady .boolean (fun r u => h = u ∧ isB r ∧ Q r) NT 0 0)  (hw : wp_X9_isSteady_b42 x1 x2 h  Q) : GG X 0 0 NT h [some (rf X 9 0), some (.int x1), some (.int x2)] 42 [] := by
  unfold wp_X9_isSteady_b42 at hw
  refine r_iload_n E x2 rfl dX9_isSteady_42 ?_
  refine r_iconst E 2 rfl dX9_isSteady_43 ?_
  refine r_icmp_lt E 63 (by decide) dX9_isSteady_44 (fun c1 => ?_) (fun c1 => ?_)
  · have hw := ite_t hw c1
    refine r_iconst E 1 rfl dX9_isSteady_63 ?_
    refine r_goto E 68 (by decide) dX9_isSteady_64 ?_
    exact hE _ _ _ _ _ _ (Nat.le_of_ble_eq_true rfl) (Nat.le_of_ble_eq_true rfl) dX9_isSteady_68 (isB_nar isB_1) ⟨rfl, isB_1, hw⟩
  · have hw := ite_f hw c1
    refine r_aload_n E 9 0 rfl dX9_isSteady_47 ?_
    refine r_getJ E fd_X9_38 rfl (Nat.le_of_ble_eq_true rfl) (adr_lt (Nat.le_of_ble_eq_true rfl)) dX9_isSteady_48 ?_
    refine r_aload_n E 9 0 rfl dX9_isSteady_51 ?_
    refine r_getS E fd_X9_19 (t := 0) (j1 := 14) rfl rfl rfl rfl (Nat.le_of_ble_eq_true rfl) (adr_lt (Nat.le_of_ble_eq_true rfl)) dX9_isSteady_52 ?_
    refine r_iload_n E x1 rfl dX9_isSteady_55 ?_
    obtain ⟨i2, hw⟩ := hw
    refine r_iald E rfl rfl rfl (Nat.le_of_ble_eq_true rfl) (adr_lt (Nat.le_of_ble_eq_true rfl)) i2 dX9_isSteady_56 ?_
    refine r_callSNI E (m_X10_hasBit_ (EE_st E) (GX X) (gJ h 9 0 3) (gI h 14 0 x1.toNatClampNeg) h _ hw) lk_X9_46 (RM_mk (Nat.le_of_ble_eq_true rfl) (Nat.le_of_ble_eq_true rfl)) rfl rfl rfl rfl (Nat.le_of_ble_eq_true rfl) rfl rfl (Nat.le_of_ble_eq_true rfl) (Nat.le_of_ble_eq_true rfl) dX9_isSteady_57 (fun r3 u9 hw => ?_)
    obtain ⟨rfl, zr3, hw⟩ := hw
    refine r_if_eq E 67 (by decide) dX9_isSteady_60 (fun c4 => ?_) (fun c4 => ?_)
    · have hw := ite_t hw c4
      refine r_iconst E 0 rfl dX9_isSteady_67 ?_
      exact hE _ _ _ _ _ _ (Nat.le_of_ble_eq_true rfl) (Nat.le_of_ble_eq_true rfl) dX9_isSteady_68 (isB_nar isB_0) ⟨rfl, isB_0, hw⟩
    · have hw := ite_f hw c4
      refine r_iconst E 1 rfl dX9_isSteady_63 ?_
      refine r_goto E 68 (by decide) dX9_isSteady_64 ?_
      exact hE _ _ _ _ _ _ (Nat.le_of_ble_eq_true rfl) (Nat.le_of_ble_eq_true rfl) dX9_isSteady_68 (isB_nar isB_1) ⟨rfl, isB_1, hw⟩
set_option maxRecDepth 20000 in
theorem m_X9_isSteady {l : Launch} (hl : l.stackTraces = false) (G : Gq) (p0 : Int32)  (h : Hp) (Q : Int32 → Prop) (hw : wp_X9_isSteady p0 h Q) : MI l G yX9_isSteady cX9_isSteady 3 (some .boolean) rm_X9_isSteady NT NT h (fun r => [r 9 0, .int p0]) (fun r u => h = u ∧ isB r ∧ Q r) := by
  refine MI_of (L0 := (fun X => [some (rf X 9 0), some (.int p0), none])) hl (by decide +kernel) rfl (fun _ => Nat.le_of_ble_eq_true rfl) (fun _ => rfl) fun X hXl hXG E hE => ?_
  subst hXl; subst hXG
  unfold wp_X9_isSteady at hw
  refine r_aload_n E 9 0 rfl dX9_isSteady_0 ?_
  refine r_getS E fd_X9_11 (t := 0) (j1 := 12) rfl rfl rfl rfl (Nat.le_of_ble_eq_true rfl) (adr_lt (Nat.le_of_ble_eq_true rfl)) dX9_isSteady_1 ?_
  refine r_iload_n E p0 rfl dX9_isSteady_4 ?_
  obtain ⟨i1, hw⟩ := hw
  refine r_cald E rfl rfl rfl (Nat.le_of_ble_eq_true rfl) (adr_lt (Nat.le_of_ble_eq_true rfl)) i1 dX9_isSteady_5 ?_
  refine r_callSI E (m_X9_partsOf (EE_st E) (GX X) (gI h 12 0 p0.toNatClampNeg) h _ hw) lk_X9_42 (RM_mk (Nat.le_of_ble_eq_true rfl) (Nat.le_of_ble_eq_true rfl)) rfl rfl rfl rfl (Nat.le_of_ble_eq_true rfl) rfl rfl (Nat.le_of_ble_eq_true rfl) (Nat.le_of_ble_eq_true rfl) dX9_isSteady_6 (fun r2 u9 hw => ?_)
  obtain ⟨rfl, hw⟩ := hw
  refine r_istore_n E [some (rf X 9 0), some (.int p0), some (.int r2)] rfl (Nat.le_of_ble_eq_true rfl) rfl dX9_isSteady_9 ?_
  refine r_aload_n E 9 0 rfl dX9_isSteady_10 ?_
  refine r_getS E fd_X9_11 (t := 0) (j1 := 12) rfl rfl rfl rfl (Nat.le_of_ble_eq_true rfl) (adr_lt (Nat.le_of_ble_eq_true rfl)) dX9_isSteady_11 ?_
  refine r_iload_n E p0 rfl dX9_isSteady_14 ?_
  refine r_cald E rfl rfl rfl (Nat.le_of_ble_eq_true rfl) (adr_lt (Nat.le_of_ble_eq_true rfl)) i1 dX9_isSteady_15 ?_
  refine r_bipush E 107 rfl dX9_isSteady_16 ?_
  refine r_icmp_eq E 67 (by decide) dX9_isSteady_18 (fun c3 => ?_) (fun c3 => ?_)
  · have hw := ite_t hw c3
    refine r_iconst E 0 rfl dX9_isSteady_67 ?_
    exact hE _ _ _ _ _ _ (Nat.le_of_ble_eq_true rfl) (Nat.le_of_ble_eq_true rfl) dX9_isSteady_68 (isB_nar isB_0) ⟨rfl, isB_0, hw⟩
  · have hw := ite_f hw c3
    refine r_iload_n E r2 rfl dX9_isSteady_21 ?_
    refine r_iconst E 1 rfl dX9_isSteady_22 ?_
    refine r_icmp_lt E 42 (by decide) dX9_isSteady_23 (fun c4 => ?_) (fun c4 => ?_)
    · have hw := ite_t hw c4
      exact GG_weak [true, true, true] rfl (t_X9_isSteady_b42 h p0 r2 E hE  hw)
    · have hw := ite_f hw c4
      refine r_aload_n E 9 0 rfl dX9_isSteady_26 ?_
      refine r_getJ E fd_X9_38 rfl (Nat.le_of_ble_eq_true rfl) (adr_lt (Nat.le_of_ble_eq_true rfl)) dX9_isSteady_27 ?_
      refine r_aload_n E 9 0 rfl dX9_isSteady_30 ?_
      refine r_getS E fd_X9_15 (t := 0) (j1 := 13) rfl rfl rfl rfl (Nat.le_of_ble_eq_true rfl) (adr_lt (Nat.le_of_ble_eq_true rfl)) dX9_isSteady_31 ?_
      refine r_iload_n E p0 rfl dX9_isSteady_34 ?_
      refine r_iald E rfl rfl rfl (Nat.le_of_ble_eq_true rfl) (adr_lt (Nat.le_of_ble_eq_true rfl)) i1 dX9_isSteady_35 ?_
      refine r_callSNI E (m_X10_hasBit_ (EE_st E) (GX X) (gJ h 9 0 3) (gI h 13 0 p0.toNatClampNeg) h _ hw) lk_X9_46 (RM_mk (Nat.le_of_ble_eq_true rfl) (Nat.le_of_ble_eq_true rfl)) rfl rfl rfl rfl (Nat.le_of_ble_eq_true rfl) rfl rfl (Nat.le_of_ble_eq_true rfl) (Nat.le_of_ble_eq_true rfl) dX9_isSteady_36 (fun r5 u9 hw => ?_)
      obtain ⟨rfl, zr5, hw⟩ := hw
      refine r_if_eq E 67 (by decide) dX9_isSteady_39 (fun c6 => ?_) (fun c6 => ?_)
      · have hw := ite_t hw c6
        refine r_iconst E 0 rfl dX9_isSteady_67 ?_
        exact hE _ _ _ _ _ _ (Nat.le_of_ble_eq_true rfl) (Nat.le_of_ble_eq_true rfl) dX9_isSteady_68 (isB_nar isB_0) ⟨rfl, isB_0, hw⟩
      · have hw := ite_f hw c6
        exact GG_weak [true, true, true] rfl (t_X9_isSteady_b42 h p0 r2 E hE  hw)
set_option maxRecDepth 20000 in
theorem m_X9_append {l : Launch} (hl : l.stackTraces = false) (G : Gq) (p0 : Int32) (p1 : Int32) (p2 : Int32)  (h : Hp) (Q : Int32 → Hp → Prop) (hw : wp_X9_append p0 p1 p2 h Q) : MI l G yX9_append cX9_append 5 (some .int) rm_X9_append NT NT h (fun r => [r 9 0, .int p0, .int p1, .int p2]) Q := by
  refine MI_of (L0 := (fun X => [some (rf X 9 0), some (.int p0), some (.int p1), some (.int p2), none])) hl (by decide +kernel) rfl (fun _ => Nat.le_of_ble_eq_true rfl) (fun _ => rfl) fun X hXl hXG E hE => ?_
  subst hXl; subst hXG
  unfold wp_X9_append at hw
  refine r_aload_n E 9 0 rfl dX9_append_0 ?_
  refine r_getI E fd_X9_30 rfl (Nat.le_of_ble_eq_true rfl) (adr_lt (Nat.le_of_ble_eq_true rfl)) dX9_append_1 ?_
  refine GG_topI fun v1 hv1 => ?_
  have hw := hw v1 hv1
  refine r_istore E [some (rf X 9 0), some (.int p0), some (.int p1), some (.int p2), some (.int v1)] (Nat.le_of_ble_eq_true rfl) rfl dX9_append_4 ?_
  refine r_aload_n E 9 0 rfl dX9_append_6 ?_
  refine r_getS E fd_X9_11 (t := 0) (j1 := 12) rfl rfl rfl rfl (Nat.le_of_ble_eq_true rfl) (adr_lt (Nat.le_of_ble_eq_true rfl)) dX9_append_7 ?_
  refine r_iload E v1 rfl dX9_append_10 ?_
  refine r_iload_n E p0 rfl dX9_append_12 ?_
  obtain ⟨i2, hw⟩ := hw
  refine r_cast E rfl rfl rfl (Nat.le_of_ble_eq_true rfl) (adr_lt (Nat.le_of_ble_eq_true rfl)) i2 rfl dX9_append_13 ?_
  refine GG_toph fun h3 hh3 => ?_
  have hw := hw h3 hh3
  refine r_aload_n E 9 0 rfl dX9_append_14 ?_
  refine r_getS E fd_X9_15 (t := 0) (j1 := 13) rfl rfl rfl rfl (Nat.le_of_ble_eq_true rfl) (adr_lt (Nat.le_of_ble_eq_true rfl)) dX9_append_15 ?_
  refine r_iload E v1 rfl dX9_append_18 ?_
  refine r_iload_n E p1 rfl dX9_append_20 ?_
  refine r_iast E rfl rfl rfl (Nat.le_of_ble_eq_true rfl) (adr_lt (Nat.le_of_ble_eq_true rfl)) i2 dX9_append_21 ?_
  refine GG_toph fun h4 hh4 => ?_
  have hw := hw h4 hh4
  refine r_aload_n E 9 0 rfl dX9_append_22 ?_
  refine r_getS E fd_X9_19 (t := 0) (j1 := 14) rfl rfl rfl rfl (Nat.le_of_ble_eq_true rfl) (adr_lt (Nat.le_of_ble_eq_true rfl)) dX9_append_23 ?_
  refine r_iload E v1 rfl dX9_append_26 ?_
  refine r_iload_n E p2 rfl dX9_append_28 ?_
  refine r_iast E rfl rfl rfl (Nat.le_of_ble_eq_true rfl) (adr_lt (Nat.le_of_ble_eq_true rfl)) i2 dX9_append_29 ?_
  refine GG_toph fun h5 hh5 => ?_
  have hw := hw h5 hh5
  refine r_aload_n E 9 0 rfl dX9_append_30 ?_
  refine r_dup E rfl dX9_append_31 ?_
  refine r_getI E fd_X9_30 rfl (Nat.le_of_ble_eq_true rfl) (adr_lt (Nat.le_of_ble_eq_true rfl)) dX9_append_32 ?_
  refine r_iconst E 1 rfl dX9_append_35 ?_
  refine r_iadd E dX9_append_36 ?_
  refine r_putI E fd_X9_30 rfl PI_int (Nat.le_of_ble_eq_true rfl) (adr_lt (Nat.le_of_ble_eq_true rfl)) rfl dX9_append_37 ?_
  refine GG_toph fun h6 hh6 => ?_
  have hw := hw h6 hh6
  refine r_aload_n E 9 0 rfl dX9_append_40 ?_
  refine r_iload E v1 rfl dX9_append_41 ?_
  refine r_callVI E (m_X9_isSteady (EE_st E) (GX X) v1 h6 _ hw) lk_X9_34 (RM_mk (Nat.le_of_ble_eq_true rfl) (Nat.le_of_ble_eq_true rfl)) rfl rfl rfl rfl (Nat.le_of_ble_eq_true rfl) (adr_lt (Nat.le_of_ble_eq_true rfl)) (Nat.le_of_ble_eq_true rfl) rfl rfl (Nat.le_of_ble_eq_true rfl) (Nat.le_of_ble_eq_true rfl) dX9_append_43 (fun r7 u9 hw => ?_)
  obtain ⟨rfl, zr7, hw⟩ := hw
  refine r_if_eq E 62 (by decide) dX9_append_46 (fun c8 => ?_) (fun c8 => ?_)
  · have hw := ite_t hw c8
    refine r_iload E v1 rfl dX9_append_62 ?_
    exact hE _ _ _ _ _ _ (Nat.le_of_ble_eq_true rfl) (Nat.le_of_ble_eq_true rfl) dX9_append_64 rfl hw
  · have hw := ite_f hw c8
    refine r_aload_n E 9 0 rfl dX9_append_49 ?_
    refine r_dup E rfl dX9_append_50 ?_
    refine r_getJ E fd_X9_38 rfl (Nat.le_of_ble_eq_true rfl) (adr_lt (Nat.le_of_ble_eq_true rfl)) dX9_append_51 ?_
    refine r_lconst E 1 rfl dX9_append_54 ?_
    refine r_iload E v1 rfl dX9_append_55 ?_
    refine r_lshl E dX9_append_57 ?_
    refine r_lor E dX9_append_58 ?_
    refine r_putJ E fd_X9_38 rfl rfl (Nat.le_of_ble_eq_true rfl) (adr_lt (Nat.le_of_ble_eq_true rfl)) rfl dX9_append_59 ?_
    refine GG_toph fun h9 hh9 => ?_
    have hw := hw h9 hh9
    refine r_iload E v1 rfl dX9_append_62 ?_
    exact hE _ _ _ _ _ _ (Nat.le_of_ble_eq_true rfl) (Nat.le_of_ble_eq_true rfl) dX9_append_64 rfl hw
set_option maxRecDepth 20000 in
theorem m_X1_writePart {l : Launch} (hl : l.stackTraces = false) (G : Gq) (p1 : Int32)  (h : Hp) (Q : Int32 → Hp → Prop) (hw : wp_X1_writePart p1 h Q) : MI l G yX1_writePart cX1_writePart 4 (some .int) rm_X1_writePart NT NT h (fun r => [r 1 0, r 9 0, .int p1]) Q := by
  refine MI_of (L0 := (fun X => [some (rf X 1 0), some (rf X 9 0), some (.int p1), none])) hl (by decide +kernel) rfl (fun _ => Nat.le_of_ble_eq_true rfl) (fun _ => rfl) fun X hXl hXG E hE => ?_
  subst hXl; subst hXG
  unfold wp_X1_writePart at hw
  refine r_aload_n E 9 0 rfl dX1_writePart_0 ?_
  refine r_aload_n E 1 0 rfl dX1_writePart_1 ?_
  refine r_getS E fd_X1_13 (t := 0) (j1 := 29) rfl rfl rfl rfl (Nat.le_of_ble_eq_true rfl) (adr_lt (Nat.le_of_ble_eq_true rfl)) dX1_writePart_2 ?_
  refine r_iload_n E p1 rfl dX1_writePart_5 ?_
  obtain ⟨i1, hw⟩ := hw
  refine r_cald E rfl rfl rfl (Nat.le_of_ble_eq_true rfl) (adr_lt (Nat.le_of_ble_eq_true rfl)) i1 dX1_writePart_6 ?_
  refine r_aload_n E 1 0 rfl dX1_writePart_7 ?_
  refine r_getS E fd_X1_17 (t := 0) (j1 := 30) rfl rfl rfl rfl (Nat.le_of_ble_eq_true rfl) (adr_lt (Nat.le_of_ble_eq_true rfl)) dX1_writePart_8 ?_
  refine r_iload_n E p1 rfl dX1_writePart_11 ?_
  refine r_iald E rfl rfl rfl (Nat.le_of_ble_eq_true rfl) (adr_lt (Nat.le_of_ble_eq_true rfl)) i1 dX1_writePart_12 ?_
  refine r_iconst E 0 rfl dX1_writePart_13 ?_
  refine r_callVI E (m_X9_append (EE_st E) (GX X) (gI h 29 0 p1.toNatClampNeg) (gI h 30 0 p1.toNatClampNeg) 0 h _ hw) lk_X1_110 (RM_mk (Nat.le_of_ble_eq_true rfl) (Nat.le_of_ble_eq_true rfl)) rfl rfl rfl rfl (Nat.le_of_ble_eq_true rfl) (adr_lt (Nat.le_of_ble_eq_true rfl)) (Nat.le_of_ble_eq_true rfl) rfl rfl (Nat.le_of_ble_eq_true rfl) (Nat.le_of_ble_eq_true rfl) dX1_writePart_14 (fun r2 h3 hw => ?_)
  refine r_istore_n E [some (rf X 1 0), some (rf X 9 0), some (.int p1), some (.int r2)] rfl (Nat.le_of_ble_eq_true rfl) rfl dX1_writePart_17 ?_
  refine r_aload_n E 1 0 rfl dX1_writePart_18 ?_
  refine r_getS E fd_X1_21 (t := 0) (j1 := 31) rfl rfl rfl rfl (Nat.le_of_ble_eq_true rfl) (adr_lt (Nat.le_of_ble_eq_true rfl)) dX1_writePart_19 ?_
  refine r_iload_n E p1 rfl dX1_writePart_22 ?_
  refine r_zald E rfl rfl rfl (Nat.le_of_ble_eq_true rfl) (adr_lt (Nat.le_of_ble_eq_true rfl)) i1 dX1_writePart_23 ?_
  refine r_if_eq E 38 (by decide) dX1_writePart_24 (fun c4 => ?_) (fun c4 => ?_)
  · have hw := ite_t hw c4
    refine r_iload_n E r2 rfl dX1_writePart_38 ?_
    exact hE _ _ _ _ _ _ (Nat.le_of_ble_eq_true rfl) (Nat.le_of_ble_eq_true rfl) dX1_writePart_39 rfl hw
  · have hw := ite_f hw c4
    refine r_aload_n E 9 0 rfl dX1_writePart_27 ?_
    refine r_bipush E 33 rfl dX1_writePart_28 ?_
    refine r_iload_n E r2 rfl dX1_writePart_30 ?_
    refine r_iconst E 0 rfl dX1_writePart_31 ?_
    refine r_callVI E (m_X9_append (EE_st E) (GX X) 33 r2 0 h3 _ hw) lk_X1_110 (RM_mk (Nat.le_of_ble_eq_true rfl) (Nat.le_of_ble_eq_true rfl)) rfl rfl rfl rfl (Nat.le_of_ble_eq_true rfl) (adr_lt (Nat.le_of_ble_eq_true rfl)) (Nat.le_of_ble_eq_true rfl) rfl rfl (Nat.le_of_ble_eq_true rfl) (Nat.le_of_ble_eq_true rfl) dX1_writePart_32 (fun r5 h6 hw => ?_)
    refine r_goto E 39 (by decide) dX1_writePart_35 ?_
    exact hE _ _ _ _ _ _ (Nat.le_of_ble_eq_true rfl) (Nat.le_of_ble_eq_true rfl) dX1_writePart_39 rfl hw
set_option maxRecDepth 20000 in
theorem m_X1_writeInto {l : Launch} (hl : l.stackTraces = false) (G : Gq)   (h : Hp) (Q : Int32 → Hp → Prop) (hw : wp_X1_writeInto  h Q) : MI l G yX1_writeInto cX1_writeInto 4 (some .int) rm_X1_writeInto NT NT h (fun r => [r 1 0, r 9 0]) Q := by
  refine MI_of (L0 := (fun X => [some (rf X 1 0), some (rf X 9 0), none, none])) hl (by decide +kernel) rfl (fun _ => Nat.le_of_ble_eq_true rfl) (fun _ => rfl) fun X hXl hXG E hE => ?_
  subst hXl; subst hXG
  unfold wp_X1_writeInto at hw
  refine r_aload_n E 1 0 rfl dX1_writeInto_0 ?_
  refine r_aload_n E 9 0 rfl dX1_writeInto_1 ?_
  refine r_aload_n E 1 0 rfl dX1_writeInto_2 ?_
  refine r_getI E fd_X1_100 rfl (Nat.le_of_ble_eq_true rfl) (adr_lt (Nat.le_of_ble_eq_true rfl)) dX1_writeInto_3 ?_
  refine r_callVI E (m_X1_writePart (EE_st E) (GX X) (gI h 1 0 8) h _ hw) lk_X1_106 (RM_mk (Nat.le_of_ble_eq_true rfl) (Nat.le_of_ble_eq_true rfl)) rfl rfl rfl rfl (Nat.le_of_ble_eq_true rfl) (adr_lt (Nat.le_of_ble_eq_true rfl)) (Nat.le_of_ble_eq_true rfl) rfl rfl (Nat.le_of_ble_eq_true rfl) (Nat.le_of_ble_eq_true rfl) dX1_writeInto_6 (fun r1 h2 hw => ?_)
  refine r_istore_n E [some (rf X 1 0), some (rf X 9 0), some (.int r1), none] rfl (Nat.le_of_ble_eq_true rfl) rfl dX1_writeInto_9 ?_
  refine r_aload_n E 1 0 rfl dX1_writeInto_10 ?_
  refine r_getI E fd_X1_103 rfl (Nat.le_of_ble_eq_true rfl) (adr_lt (Nat.le_of_ble_eq_true rfl)) dX1_writeInto_11 ?_
  refine r_if_lt E 36 (by decide) dX1_writeInto_14 (fun c3 => ?_) (fun c3 => ?_)
  · have hw := ite_t hw c3
    refine r_iload_n E r1 rfl dX1_writeInto_36 ?_
    exact hE _ _ _ _ _ _ (Nat.le_of_ble_eq_true rfl) (Nat.le_of_ble_eq_true rfl) dX1_writeInto_37 rfl hw
  · have hw := ite_f hw c3
    refine r_aload_n E 1 0 rfl dX1_writeInto_17 ?_
    refine r_aload_n E 9 0 rfl dX1_writeInto_18 ?_
    refine r_aload_n E 1 0 rfl dX1_writeInto_19 ?_
    refine r_getI E fd_X1_103 rfl (Nat.le_of_ble_eq_true rfl) (adr_lt (Nat.le_of_ble_eq_true rfl)) dX1_writeInto_20 ?_
    refine r_callVI E (m_X1_writePart (EE_st E) (GX X) (gI h2 1 0 9) h2 _ hw) lk_X1_106 (RM_mk (Nat.le_of_ble_eq_true rfl) (Nat.le_of_ble_eq_true rfl)) rfl rfl rfl rfl (Nat.le_of_ble_eq_true rfl) (adr_lt (Nat.le_of_ble_eq_true rfl)) (Nat.le_of_ble_eq_true rfl) rfl rfl (Nat.le_of_ble_eq_true rfl) (Nat.le_of_ble_eq_true rfl) dX1_writeInto_23 (fun r4 h5 hw => ?_)
    refine r_istore_n E [some (rf X 1 0), some (rf X 9 0), some (.int r1), some (.int r4)] rfl (Nat.le_of_ble_eq_true rfl) rfl dX1_writeInto_26 ?_
    refine r_aload_n E 9 0 rfl dX1_writeInto_27 ?_
    refine r_bipush E 38 rfl dX1_writeInto_28 ?_
    refine r_iload_n E r1 rfl dX1_writeInto_30 ?_
    refine r_iload_n E r4 rfl dX1_writeInto_31 ?_
    refine r_callVI E (m_X9_append (EE_st E) (GX X) 38 r1 r4 h5 _ hw) lk_X1_110 (RM_mk (Nat.le_of_ble_eq_true rfl) (Nat.le_of_ble_eq_true rfl)) rfl rfl rfl rfl (Nat.le_of_ble_eq_true rfl) (adr_lt (Nat.le_of_ble_eq_true rfl)) (Nat.le_of_ble_eq_true rfl) rfl rfl (Nat.le_of_ble_eq_true rfl) (Nat.le_of_ble_eq_true rfl) dX1_writeInto_32 (fun r6 h7 hw => ?_)
    refine r_istore_n E [some (rf X 1 0), some (rf X 9 0), some (.int r6), some (.int r4)] rfl (Nat.le_of_ble_eq_true rfl) rfl dX1_writeInto_35 ?_
    refine r_iload_n E r6 rfl dX1_writeInto_36 ?_
    exact hE _ _ _ _ _ _ (Nat.le_of_ble_eq_true rfl) (Nat.le_of_ble_eq_true rfl) dX1_writeInto_37 rfl hw
