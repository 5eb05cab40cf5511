def rm_X4_unsettledUnder : Room := { frames := 2, cells := 0, slots := 0, locals := 46 }
def wp_X4_unsettledUnder_b154 (x2 : Int32) (x3 : Int32) (h : Hp)  (Q : Int32 → Hp → Prop) : Prop := isB x3 ∧ LET (sI h 4 0 10 x3) fun h2 => Q x2 h2
def wp_X4_unsettledUnder_b148 (x2 : Int32) (x3 : Int32) (x4 : Int32) (h : Hp) (P25 : Int32 → Int32 → Int32 → Hp → Prop) (Q : Int32 → Hp → Prop) : Prop := LET (x4 + 1) fun v1 => P25 x2 x3 v1 h
def wp_X4_unsettledUnder_b147 (x3 : Int32) (x4 : Int32) (s0 : Int32) (h : Hp) (P25 : Int32 → Int32 → Int32 → Hp → Prop) (Q : Int32 → Hp → Prop) : Prop := wp_X4_unsettledUnder_b148 s0 x3 x4 h P25 Q
def wp_X4_unsettledUnder_b116 (x4 : Int32) (x5 : Int32) (s0 : Int32) (h : Hp) (P25 : Int32 → Int32 → Int32 → Hp → Prop) (Q : Int32 → Hp → Prop) : Prop := wp_X4_unsettledUnder_b148 x5 s0 x4 h P25 Q
def wp_X4_unsettledUnder_b91 (x2 : Int32) (x3 : Int32) (x4 : Int32) (x5 : Int32) (s0 : Int64) (h : Hp) (P25 : Int32 → Int32 → Int32 → Hp → Prop) (Q : Int32 → Hp → Prop) : Prop := vp_in x2 60 ∧ if (gI h 12 0 x2.toNatClampNeg) = 33 then (if x3 = 0 then (wp_X4_unsettledUnder_b116 x4 x5 1 h P25 Q) else (wp_X4_unsettledUnder_b116 x4 x5 0 h P25 Q)) else (wp_X10_hasBit_ s0 x5 h (fun r4 => if r4 = 0 then (wp_X4_unsettledUnder_b147 x3 x4 (gI h 14 0 x2.toNatClampNeg) h P25 Q) else (wp_X4_unsettledUnder_b147 x3 x4 x5 h P25 Q)))
def wp_X4_unsettledUnder_b25F    (Q : Int32 → Hp → Prop) (P25 : Int32 → Int32 → Int32 → Hp → Prop) (x2 : Int32) (x3 : Int32) (x4 : Int32) (h : Hp) : Prop := if 60 ≤ x4 then (wp_X4_unsettledUnder_b154 x2 x3 h Q) else (vp_in x2 60 ∧ wp_X9_partsOf (gI h 12 0 x2.toNatClampNeg) h (fun r3 => if r3 ≤ 0 then (wp_X4_unsettledUnder_b154 x2 x3 h Q) else (LET (gI h 13 0 x2.toNatClampNeg) fun v5 => if x3 = 0 then (wp_X4_unsettledUnder_b91 x2 x3 x4 v5 ((gJ h 4 0 7) &&& ((gJ h 4 0 9) ^^^ (-1))) h P25 Q) else (wp_X4_unsettledUnder_b91 x2 x3 x4 v5 ((gJ h 4 0 6) &&& ((gJ h 4 0 8) ^^^ (-1))) h P25 Q))))
def wp_X4_unsettledUnder_b25 (x2 : Int32) (x3 : Int32) (x4 : Int32) (h : Hp)  (Q : Int32 → Hp → Prop) : Prop := LFP4 (wp_X4_unsettledUnder_b25F    Q) x2 x3 x4 h
def wp_X4_unsettledUnder_b21 (x2 : Int32) (s0 : Int32) (h : Hp)  (Q : Int32 → Hp → Prop) : Prop := wp_X4_unsettledUnder_b25 x2 s0 0 h Q
def wp_X4_unsettledUnder (p0 : Int32) (h : Hp) (Q : Int32 → Hp → Prop) : Prop := vp_in p0 60 ∧ if (gI h 12 0 p0.toNatClampNeg) = 124 then (wp_X4_unsettledUnder_b21 p0 1 h Q) else (wp_X4_unsettledUnder_b21 p0 0 h Q)
def rm_X4_hasMail (d : Nat) : Room := { frames := 5 + d, cells := 0, slots := 0, locals := 122 + 32 * d }
def wp_X4_hasMailB (RS : Int64 → Int64 → Int32 → Hp → (Int32 → Hp → Prop) → Prop) (p0 : Int64) (p1 : Int64) (p2 : Int32) (h : Hp) (Q : Int32 → Hp → Prop) : Prop := if 36 < p2 then (Q 0 h) else (wp_X4_follow p0 p1 h (fun r2 h3 => if r2 = 0 then (Q 0 h3) else (wp_X4_lastOpen h3 (fun r5 => if 0 ≤ r5 then (LET (gJ h3 4 0 4) fun v7 => LET (gJ h3 4 0 5) fun v8 => wp_X4_unsettledUnder r5 h3 (fun r9 h10 => LET ((1 : Int64) <<< ((r9 : Int32).toInt64 &&& 63)) fun v11 => if (gI h10 4 0 10) = 0 then (RS v7 (v8 ||| v11) (p2 + 1) h10 (fun r13 h14 => if r13 = 0 then (RS (v7 ||| v11) v8 (p2 + 1) h14 (fun r16 h17 => if r16 = 0 then (Q 0 h17) else (Q 1 h17))) else (Q 1 h14))) else (RS (v7 ||| v11) v8 (p2 + 1) h10 (fun r19 h20 => if r19 = 0 then (RS v7 (v8 ||| v11) (p2 + 1) h20 (fun r22 h23 => if r22 = 0 then (Q 0 h23) else (Q 1 h23))) else (Q 1 h20))))) else (Q 1 h3)))))
def wp_X4_hasMail : Nat → Int64 → Int64 → Int32 → Hp → (Int32 → Hp → Prop) → Prop
  | 0, _, _, _, _, _ => False
  | d + 1, a, b, c, h, Q => wp_X4_hasMailB (wp_X4_hasMail d) a b c h Q
def rm_X4_isPossible : Room := { frames := 44, cells := 0, slots := 0, locals := 1370 }
def wp_X4_isPossible (p0 : Int64) (p1 : Int64) (h : Hp) (Q : Int32 → Hp → Prop) : Prop := wp_X4_gather (p0 ||| p1) h (fun h1 => wp_X4_hasMail 38 p0 p1 0 h1 (fun r2 h3 => Q r2 h3))
def rm_X10_isBelow : Room := { frames := 1, cells := 0, slots := 0, locals := 24 }
def wp_X10_isBelow (p0 : Int32) (p1 : Int32) (h : Hp) (Q : Int32 → Prop) : Prop := if p0 < 0 then (Q 0) else (if p1 ≤ p0 then (Q 0) else (Q 1))
def rm_X10_lies : Room := { frames := 1, cells := 0, slots := 0, locals := 24 }
def wp_X10_lies (p0 : Int32) (p1 : Int32) (p2 : Int32) (h : Hp) (Q : Int32 → Prop) : Prop := if p0 < p1 then (Q 0) else (if p2 < p0 then (Q 0) else (Q 1))
def rm_X6_allows : Room := { frames := 2, cells := 0, slots := 0, locals := 46 }
def wp_X6_allows (p0 : Int32) (p1 : Int32) (h : Hp) (Q : Int32 → Prop) : Prop := if p0 = 70 then (wp_X10_isBelow p1 8 h (fun r2 => Q r2)) else if p0 = 83 then (Q 1) else if p0 = 85 then (wp_X10_isBelow p1 8 h (fun r5 => Q r5)) else if p0 = 99 then (wp_X10_isBelow p1 8 h (fun r7 => Q r7)) else if p0 = 105 then (wp_X10_isBelow p1 4 h (fun r9 => Q r9)) else if p0 = 107 then (Q 1) else if p0 = 109 then (wp_X10_isBelow p1 8 h (fun r12 => Q r12)) else if p0 = 114 then (Q 1) else if p0 = 115 then (Q 1) else if p0 = 118 then (wp_X10_lies p1 1 30 h (fun r16 => Q r16)) else if p0 = 119 then (wp_X10_isBelow p1 10 h (fun r18 => Q r18)) else if p0 = 120 then (Q 1) else (Q 0)
def rm_X6_append : Room := { frames := 1, cells := 0, slots := 0, locals := 24 }
def wp_X6_append (o0 : Nat) (p0 : Int32) (p1 : Int32) (h : Hp) (Q : Int32 → Hp → Prop) : Prop := vp_in (gI h 6 o0 3) 5 ∧ LET (sI h 23 o0 (gI h 6 o0 3).toNatClampNeg (vp_nar .char p0)) fun h2 => vp_in (gI h2 6 o0 3) 5 ∧ LET (sI h2 24 o0 (gI h2 6 o0 3).toNatClampNeg p1) fun h4 => LET (sI h4 6 o0 3 ((gI h4 6 o0 3) + 1)) fun h5 => Q (gI h5 6 o0 3) h5
def rm_X6_endsScript : Room := { frames := 1, cells := 0, slots := 0, locals := 24 }
def wp_X6_endsScript_b2F (o0 : Nat) (h : Hp)  (Q : Int32 → Prop) (P2 : Int32 → Prop) (x1 : Int32)  : Prop := if (gI h 6 o0 3) ≤ x1 then (Q 0) else (vp_in x1 5 ∧ if (gI h 23 o0 x1.toNatClampNeg) = 115 then (Q 1) else (if (gI h 23 o0 x1.toNatClampNeg) = 83 then (Q 1) else (LET (x1 + 1) fun v5 => P2 v5)))
def wp_X6_endsScript_b2 (o0 : Nat) (x1 : Int32) (h : Hp)  (Q : Int32 → Prop) : Prop := LFP1 (wp_X6_endsScript_b2F o0 h  Q) x1 
def wp_X6_endsScript (o0 : Nat) (h : Hp) (Q : Int32 → Prop) : Prop := wp_X6_endsScript_b2 o0 0 h Q
def rm_X7_append : Room := { frames := 1, cells := 0, slots := 0, locals := 24 }
def wp_X7_append (o0 : Nat) (p0 : Int32) (h : Hp) (Q : Int32 → Hp → Prop) : Prop := vp_in (gI h 7 o0 1) 12 ∧ ∃ e2 : Nat, gR h 22 o0 (gI h 7 o0 1).toNatClampNeg = e2 + 1 ∧ e2 < 48 ∧ LET (sI h 6 e2 2 p0) fun h3 => LET (sI h3 6 e2 3 0) fun h4 => LET (sI h4 7 o0 1 ((gI h4 7 o0 1) + 1)) fun h5 => Q ((gI h5 7 o0 1) - 1) h5
def rm_X7_shift : Room := { frames := 1, cells := 0, slots := 0, locals := 24 }
def wp_X7_shift_b41F (o0 : Nat) (x2 : Int32) (o3 : Nat)   (Q : Hp → Prop) (P41 : Int32 → Hp → Prop) (x4 : Int32) (h : Hp) : Prop := if x4 ≤ x2 then (vp_in x2 12 ∧ LET (sR h 22 o0 x2.toNatClampNeg (o3 + 1)) fun h3 => Q h3) else (vp_in (x4 - 1) 12 ∧ ∃ e5 : Nat, gR h 22 o0 (x4 - 1).toNatClampNeg = e5 + 1 ∧ e5 < 48 ∧ vp_in x4 12 ∧ LET (sR h 22 o0 x4.toNatClampNeg (e5 + 1)) fun h7 => LET (x4 + (-1)) fun v8 => P41 v8 h7)
def wp_X7_shift_b41 (o0 : Nat) (x2 : Int32) (o3 : Nat) (x4 : Int32) (h : Hp)  (Q : Hp → Prop) : Prop := LFP2 (wp_X7_shift_b41F o0 x2 o3   Q) x4 h
def wp_X7_shift_b10F (o0 : Nat) (x1 : Int32) (x2 : Int32) (o3 : Nat)   (Q : Hp → Prop) (P10 : Int32 → Hp → Prop) (x4 : Int32) (h : Hp) : Prop := if x2 ≤ x4 then (wp_X7_shift_b41 o0 x2 o3 x1 h Q) else (vp_in (x4 + 1) 12 ∧ ∃ e3 : Nat, gR h 22 o0 (x4 + 1).toNatClampNeg = e3 + 1 ∧ e3 < 48 ∧ vp_in x4 12 ∧ LET (sR h 22 o0 x4.toNatClampNeg (e3 + 1)) fun h5 => LET (x4 + 1) fun v6 => P10 v6 h5)
def wp_X7_shift_b10 (o0 : Nat) (x1 : Int32) (x2 : Int32) (o3 : Nat) (x4 : Int32) (h : Hp)  (Q : Hp → Prop) : Prop := LFP2 (wp_X7_shift_b10F o0 x1 x2 o3   Q) x4 h
def wp_X7_shift (o0 : Nat) (p0 : Int32) (p1 : Int32) (h : Hp) (Q : Hp → Prop) : Prop := vp_in p0 12 ∧ ∃ e2 : Nat, gR h 22 o0 p0.toNatClampNeg = e2 + 1 ∧ e2 < 48 ∧ wp_X7_shift_b10 o0 p0 p1 e2 p0 h Q
def rm_X9_allows : Room := { frames := 2, cells := 0, slots := 0, locals := 46 }
def wp_X9_allows (p0 : Int32) (p1 : Int32) (h : Hp) (Q : Int32 → Prop) : Prop := if p0 = 33 then (Q 1) else if p0 = 38 then (Q 1) else if p0 = 97 then (Q 1) else if p0 = 98 then (wp_X10_isBelow p1 16 h (fun r5 => Q r5)) else if p0 = 100 then (wp_X10_isBelow p1 7 h (fun r7 => Q r7)) else if p0 = 102 then (wp_X10_isBelow p1 10 h (fun r9 => Q r9)) else if p0 = 107 then (wp_X10_isBelow p1 8 h (fun r11 => Q r11)) else if p0 = 110 then (wp_X10_lies p1 1 10 h (fun r13 => Q r13)) else if p0 = 115 then (wp_X10_isBelow p1 16 h (fun r15 => Q r15)) else if p0 = 116 then (wp_X10_isBelow p1 10 h (fun r17 => Q r17)) else if p0 = 122 then (wp_X10_lies p1 0 999 h (fun r19 => Q r19)) else if p0 = 124 then (Q 1) else (Q 0)
def rm_X10_mail : Room := { frames := 6, cells := 1, slots := 6, locals := 120 }
def wp_X10_mail_b51  (h : Hp)  (Q : Int32 → Hp → Prop) (Z : String → Hp → Prop) : Prop := Z "java/lang/IllegalArgumentException" h
def wp_X10_mail (p0 : Int32) (p1 : Int32) (p2 : Int32) (p3 : Int32) (p4 : Int32) (h : Hp) (Q : Int32 → Hp → Prop) (Z : String → Hp → Prop) : Prop := wp_X10_isBelow p0 10 h (fun r1 => if r1 = 0 then (wp_X10_mail_b51 h Q Z) else (wp_X10_lies p1 1 1023 h (fun r3 => if r3 = 0 then (wp_X10_mail_b51 h Q Z) else (wp_X10_isBelow p2 65536 h (fun r5 => if r5 = 0 then (wp_X10_mail_b51 h Q Z) else (wp_X10_isBelow p3 65536 h (fun r7 => if r7 = 0 then (wp_X10_mail_b51 h Q Z) else (wp_X10_lies p4 1 999 h (fun r9 => if r9 = 0 then (wp_X10_mail_b51 h Q Z) else (if (gI h 3 0 6) < 40 then (wp_X3_takeIn p0 p1 p2 p3 p4 h (fun r12 h13 => Q r12 h13)) else (Z "java/lang/IllegalStateException" h)))))))))))
def rm_X10_pass : Room := { frames := 6, cells := 1, slots := 6, locals := 120 }
def wp_X10_pass (p0 : Int32) (h : Hp) (Q : Int32 → Hp → Prop) (Z : String → Hp → Prop) : Prop := wp_X10_lies p0 1 100 h (fun r1 => if r1 = 0 then (Z "java/lang/IllegalArgumentException" h) else (LET (sI h 3 0 7 ((gI h 3 0 7) + p0)) fun h3 => Q (gI h3 3 0 7) h3))
def rm_X10_setQuota : Room := { frames := 6, cells := 1, slots := 6, locals := 120 }
def wp_X10_setQuota (p0 : Int32) (p1 : Int32) (h : Hp) (Q : Int32 → Hp → Prop) (Z : String → Hp → Prop) : Prop := wp_X10_lies p0 1 7 h (fun r1 => if r1 = 0 then (Z "java/lang/IndexOutOfBoundsException" h) else (wp_X10_lies p1 0 9999 h (fun r3 => if r3 = 0 then (Z "java/lang/IllegalArgumentException" h) else (vp_in p0 8 ∧ LET (gI h 16 0 p0.toNatClampNeg) fun v6 => LET (sI h 16 0 p0.toNatClampNeg p1) fun h7 => Q v6 h7))))
def rm_X10_requireBelow : Room := { frames := 6, cells := 1, slots := 6, locals := 120 }
def wp_X10_requireBelow (p0 : Int32) (p1 : Int32) (h : Hp) (Q : Prop) (Z : String → Prop) : Prop := wp_X10_isBelow p0 p1 h (fun r1 => if r1 = 0 then (Z "java/lang/IndexOutOfBoundsException") else (Q))
def rm_X10_inBox : Room := { frames := 7, cells := 1, slots := 6, locals := 141 }
def wp_X10_inBox (p0 : Int32) (h : Hp) (Q : Int32 → Prop) (Z : String → Prop) : Prop := wp_X10_requireBelow p0 8 h (vp_in p0 8 ∧ wp_X3_sizesIn p0 h (fun r2 => Q ((gI h 17 0 p0.toNatClampNeg) + r2))) Z
def rm_X10_requireInBox : Room := { frames := 6, cells := 1, slots := 6, locals := 120 }
def wp_X10_requireInBox (p0 : Int32) (h : Hp) (Q : Prop) (Z : String → Prop) : Prop := vp_in p0 40 ∧ wp_X2_isKept p0.toNatClampNeg h (fun r2 => if r2 = 0 then (Z "java/util/NoSuchElementException") else (Q))
def rm_X10_boxOf : Room := { frames := 7, cells := 2, slots := 12, locals := 141 }
def wp_X10_boxOf (p0 : Int32) (h : Hp) (Q : Int32 → Prop) (Z : String → Prop) : Prop := wp_X10_requireBelow p0 (gI h 3 0 6) h (wp_X10_requireInBox p0 h (vp_in p0 40 ∧ Q (gI h 2 p0.toNatClampNeg 6)) Z) Z
def rm_X10_hasFlag : Room := { frames := 7, cells := 2, slots := 12, locals := 141 }
def wp_X10_hasFlag (p0 : Int32) (p1 : Int32) (h : Hp) (Q : Int32 → Prop) (Z : String → Prop) : Prop := wp_X10_requireBelow p0 (gI h 3 0 6) h (wp_X10_requireBelow p1 8 h (vp_in p0 40 ∧ wp_X10_hasBit (gI h 2 p0.toNatClampNeg 7) p1 h (fun r2 => Q r2)) Z) Z
def rm_X10_move : Room := { frames := 7, cells := 3, slots := 18, locals := 141 }
def wp_X10_move (p0 : Int32) (p1 : Int32) (h : Hp) (Q : Int32 → Hp → Prop) (Z : String → Hp → Prop) : Prop := wp_X10_requireBelow p0 (gI h 3 0 6) h (wp_X10_requireBelow p1 8 h (wp_X10_requireInBox p0 h (vp_in p0 40 ∧ LET (gI h 2 p0.toNatClampNeg 6) fun v2 => LET (sI h 2 p0.toNatClampNeg 6 p1) fun h3 => LET (sI h3 2 p0.toNatClampNeg 10 1) fun h4 => Q v2 h4) (fun e => Z e h)) (fun e => Z e h)) (fun e => Z e h)
def rm_X10_requireRoomForTests : Room := { frames := 6, cells := 1, slots := 6, locals := 120 }
def wp_X10_requireRoomForTests (p0 : Int32) (h : Hp) (Q : Prop) (Z : String → Prop) : Prop := if ((gI h 9 0 4) + p0) ≤ 60 then (Q) else (Z "java/lang/IllegalStateException")
def rm_X10_test : Room := { frames := 7, cells := 3, slots := 18, locals := 141 }
def wp_X10_test_b57 (x1 : Int32) (x2 : Int32) (x3 : Int32) (h : Hp)  (Q : Int32 → Hp → Prop) (Z : String → Hp → Prop) : Prop := wp_X10_requireRoomForTests 1 h (wp_X9_append x1 x2 x3 h (fun r1 h2 => Q r1 h2)) (fun e => Z e h)
def wp_X10_test_b40 (x1 : Int32) (x2 : Int32) (x3 : Int32) (x4 : Int32) (h : Hp)  (Q : Int32 → Hp → Prop) (Z : String → Hp → Prop) : Prop := if x4 ≤ 1 then (wp_X10_test_b57 x1 x2 x3 h Q Z) else (wp_X10_requireBelow x3 (gI h 9 0 4) h (wp_X10_test_b57 x1 x2 x3 h Q Z) (fun e => Z e h))
def wp_X10_test (p0 : Int32) (p1 : Int32) (p2 : Int32) (h : Hp) (Q : Int32 → Hp → Prop) (Z : String → Hp → Prop) : Prop := wp_X9_allows p0 p1 h (fun r1 => if r1 = 0 then (Z "java/lang/IllegalArgumentException" h) else (wp_X9_partsOf p0 h (fun r3 => if r3 ≤ 0 then (wp_X10_test_b40 p0 p1 p2 r3 h Q Z) else (wp_X10_requireBelow p1 (gI h 9 0 4) h (wp_X10_test_b40 p0 p1 p2 r3 h Q Z) (fun e => Z e h)))))
def rm_X10_holds : Room := { frames := 7, cells := 2, slots := 12, locals := 141 }
def wp_X10_holds (p0 : Int32) (p1 : Int32) (h : Hp) (Q : Int32 → Prop) (Z : String → Prop) : Prop := wp_X10_requireBelow p0 (gI h 9 0 4) h (wp_X10_requireBelow p1 (gI h 3 0 6) h (vp_in p1 40 ∧ wp_X9_truthFor p1.toNatClampNeg (gI h 2 p1.toNatClampNeg 7) h (fun r2 => wp_X10_hasBit_ r2 p0 h (fun r3 => Q r3))) Z) Z
def rm_X10_rule : Room := { frames := 7, cells := 3, slots := 18, locals := 141 }
def wp_X10_rule (p0 : Int32) (p1 : Int32) (h : Hp) (Q : Int32 → Hp → Prop) (Z : String → Hp → Prop) : Prop := wp_X10_requireBelow p0 4 h (wp_X10_requireBelow p1 (gI h 9 0 4) h (vp_in p0 4 ∧ if (gI h 7 p0.toNatClampNeg 1) < 12 then (wp_X7_append p0.toNatClampNeg p1 h (fun r3 h4 => Q r3 h4)) else (Z "java/lang/IllegalStateException" h)) (fun e => Z e h)) (fun e => Z e h)
def rm_X10_requireRule : Room := { frames := 7, cells := 2, slots := 12, locals := 141 }
def wp_X10_requireRule (p0 : Int32) (p1 : Int32) (h : Hp) (Q : Prop) (Z : String → Prop) : Prop := wp_X10_requireBelow p0 4 h (vp_in p0 4 ∧ wp_X10_requireBelow p1 (gI h 7 p0.toNatClampNeg 1) h (Q) Z) Z
def rm_X10_action : Room := { frames := 8, cells := 3, slots := 18, locals := 163 }
def wp_X10_action (p0 : Int32) (p1 : Int32) (p2 : Int32) (p3 : Int32) (h : Hp) (Q : Int32 → Hp → Prop) (Z : String → Hp → Prop) : Prop := wp_X10_requireRule p0 p1 h (wp_X6_allows p2 p3 h (fun r1 => if r1 = 0 then (Z "java/lang/IllegalArgumentException" h) else (vp_in p0 4 ∧ vp_in p1 12 ∧ ∃ e5 : Nat, gR h 22 p0.toNatClampNeg p1.toNatClampNeg = e5 + 1 ∧ e5 < 48 ∧ if (gI h 6 e5 3) < 5 then (wp_X6_append e5 p2 p3 h (fun r7 h8 => Q r7 h8)) else (Z "java/lang/IllegalStateException" h)))) (fun e => Z e h)
def rm_X10_clear : Room := { frames := 7, cells := 1, slots := 6, locals := 141 }
def wp_X10_clear (p0 : Int32) (h : Hp) (Q : Int32 → Hp → Prop) (Z : String → Hp → Prop) : Prop := wp_X10_requireBelow p0 4 h (vp_in p0 4 ∧ LET (gI h 7 p0.toNatClampNeg 1) fun v2 => LET (sI h 7 p0.toNatClampNeg 1 0) fun h3 => Q v2 h3) (fun e => Z e h)
def rm_X10_reorder : Room := { frames := 8, cells := 4, slots := 24, locals := 163 }
def wp_X10_reorder (p0 : Int32) (p1 : Int32) (p2 : Int32) (h : Hp) (Q : Int32 → Hp → Prop) (Z : String → Hp → Prop) : Prop := wp_X10_requireRule p0 p1 h (wp_X10_requireRule p0 p2 h (vp_in p0 4 ∧ wp_X7_shift p0.toNatClampNeg p1 p2 h (fun h2 => Q (gI h2 7 p0.toNatClampNeg 1) h2)) (fun e => Z e h)) (fun e => Z e h)
def rm_X10_deliver : Room := { frames := 26, cells := 1, slots := 6, locals := 632 }
def wp_X10_deliver (p0 : Int32) (h : Hp) (Q : Int32 → Hp → Prop) (Z : String → Hp → Prop) : Prop := wp_X10_requireBelow p0 (gI h 3 0 6) h (wp_X0_perform 0 p0 1 h (fun h1 => wp_X3_carryOut p0 1 h1 (fun h2 => Q (gI h2 5 1 2) h2))) (fun e => Z e h)
def rm_X10_attempt : Room := { frames := 26, cells := 2, slots := 12, locals := 632 }
def wp_X10_attempt (p0 : Int32) (p1 : Int32) (h : Hp) (Q : Int32 → Hp → Prop) (Z : String → Hp → Prop) : Prop := wp_X10_requireBelow p0 4 h (wp_X10_requireBelow p1 (gI h 3 0 6) h (wp_X0_perform p0 p1 1 h (fun h1 => Q (gI h1 5 1 2) h1)) (fun e => Z e h)) (fun e => Z e h)
def rm_X10_done : Room := { frames := 1, cells := 0, slots := 0, locals := 24 }
def wp_X10_done  (h : Hp) (Q : Int32 → Prop) : Prop := Q (gI h 5 1 4)
def rm_X10_doneAt : Room := { frames := 7, cells := 1, slots := 6, locals := 141 }
def wp_X10_doneAt (p0 : Int32) (h : Hp) (Q : Int32 → Prop) (Z : String → Prop) : Prop := wp_X10_requireBelow p0 (gI h 5 1 4) h (vp_in p0 200 ∧ Q (gI h 26 1 p0.toNatClampNeg)) Z
def rm_X10_clashes : Room := { frames := 1, cells := 0, slots := 0, locals := 24 }
def wp_X10_clashes  (h : Hp) (Q : Int32 → Prop) : Prop := Q (gI h 5 1 5)
def rm_X10_faults : Room := { frames := 6, cells := 1, slots := 6, locals := 120 }
def wp_X10_faults (p0 : Int32) (h : Hp) (Q : Int32 → Prop) (Z : String → Prop) : Prop := if p0 = 105 then (Q (gI h 5 1 6)) else if p0 = 113 then (Q (gI h 5 1 8)) else if p0 = 119 then (Q (gI h 5 1 7)) else (Z "java/lang/IllegalArgumentException")
def rm_X10_flags : Room := { frames := 1, cells := 0, slots := 0, locals := 24 }
def wp_X10_flags  (h : Hp) (Q : Int32 → Prop) : Prop := Q (gI h 5 1 3)
def rm_X10_replies : Room := { frames := 7, cells := 1, slots := 6, locals := 141 }
def wp_X10_replies (p0 : Int32) (h : Hp) (Q : Int32 → Prop) (Z : String → Prop) : Prop := wp_X10_requireBelow p0 10 h (vp_in p0 10 ∧ Q (gI h 18 0 p0.toNatClampNeg)) Z
def rm_X10_forwarded : Room := { frames := 7, cells := 1, slots := 6, locals := 141 }
def wp_X10_forwarded (p0 : Int32) (h : Hp) (Q : Int32 → Prop) (Z : String → Prop) : Prop := wp_X10_requireBelow p0 10 h (vp_in p0 10 ∧ Q (gI h 19 0 p0.toNatClampNeg)) Z
def rm_X10_difference : Room := { frames := 26, cells := 2, slots := 12, locals := 632 }
def wp_X10_difference_b100 (x1 : Int32) (x2 : Int32) (x3 : Int32) (x4 : Int32) (h : Hp) (P15 : Int32 → Int32 → Hp → Prop) (Q : Int32 → Hp → Prop) (Z : String → Hp → Prop) : Prop := LET (x4 + 1) fun v1 => P15 x3 v1 h
def wp_X10_difference_b97 (x1 : Int32) (x2 : Int32) (x3 : Int32) (x4 : Int32) (h : Hp) (P15 : Int32 → Int32 → Hp → Prop) (Q : Int32 → Hp → Prop) (Z : String → Hp → Prop) : Prop := LET (x3 + 1) fun v1 => wp_X10_difference_b100 x1 x2 v1 x4 h P15 Q Z
def wp_X10_difference_b15F (x1 : Int32) (x2 : Int32)   (Q : Int32 → Hp → Prop) (Z : String → Hp → Prop) (P15 : Int32 → Int32 → Hp → Prop) (x3 : Int32) (x4 : Int32) (h : Hp) : Prop := if (gI h 3 0 6) ≤ x4 then (Q x3 h) else (wp_X0_perform x1 x4 2 h (fun h2 => LET (gI h2 5 2 2) fun v3 => LET (gI h2 5 2 3) fun v4 => wp_X0_perform x2 x4 2 h2 (fun h5 => if (gI h5 5 2 2) = v3 then (if (gI h5 5 2 3) = v4 then (wp_X10_difference_b100 x1 x2 x3 x4 h5 P15 Q Z) else (wp_X10_difference_b97 x1 x2 x3 x4 h5 P15 Q Z)) else (wp_X10_difference_b97 x1 x2 x3 x4 h5 P15 Q Z))))
def wp_X10_difference_b15 (x1 : Int32) (x2 : Int32) (x3 : Int32) (x4 : Int32) (h : Hp)  (Q : Int32 → Hp → Prop) (Z : String → Hp → Prop) : Prop := LFP3 (wp_X10_difference_b15F x1 x2   Q Z) x3 x4 h
def wp_X10_difference (p0 : Int32) (p1 : Int32) (h : Hp) (Q : Int32 → Hp → Prop) (Z : String → Hp → Prop) : Prop := wp_X10_requireBelow p0 4 h (wp_X10_requireBelow p1 4 h (wp_X10_difference_b15 p0 p1 0 0 h Q Z) (fun e => Z e h)) (fun e => Z e h)
def rm_X10_isNeverDone : Room := { frames := 45, cells := 0, slots := 0, locals := 1394 }
def wp_X10_isNeverDone_b46 (x2 : Int32) (o3 : Nat) (x4 : Int64) (x6 : Int32) (h : Hp) (P16 : Int64 → Int32 → Hp → Prop) (Q : Int32 → Hp → Prop) : Prop := LET (x6 + 1) fun v1 => P16 x4 v1 h
def wp_X10_isNeverDone_b16F (x2 : Int32) (o3 : Nat)   (Q : Int32 → Hp → Prop) (P16 : Int64 → Int32 → Hp → Prop) (x4 : Int64) (x6 : Int32) (h : Hp) : Prop := if x2 ≤ x6 then (vp_in x2 12 ∧ ∃ e3 : Nat, gR h 22 o3 x2.toNatClampNeg = e3 + 1 ∧ e3 < 48 ∧ wp_X4_isPossible ((1 : Int64) <<< ((gI h 6 e3 2 : Int32).toInt64 &&& 63)) x4 h (fun r4 h5 => if r4 = 0 then (Q 1 h5) else (Q 0 h5))) else (vp_in x6 12 ∧ ∃ e8 : Nat, gR h 22 o3 x6.toNatClampNeg = e8 + 1 ∧ e8 < 48 ∧ wp_X6_endsScript e8 h (fun r9 => if r9 = 0 then (wp_X10_isNeverDone_b46 x2 o3 x4 x6 h P16 Q) else (∃ e11 : Nat, gR h 22 o3 x6.toNatClampNeg = e11 + 1 ∧ e11 < 48 ∧ LET (x4 ||| ((1 : Int64) <<< ((gI h 6 e11 2 : Int32).toInt64 &&& 63))) fun v12 => wp_X10_isNeverDone_b46 x2 o3 v12 x6 h P16 Q)))
def wp_X10_isNeverDone_b16 (x2 : Int32) (o3 : Nat) (x4 : Int64) (x6 : Int32) (h : Hp)  (Q : Int32 → Hp → Prop) : Prop := LFP3 (wp_X10_isNeverDone_b16F x2 o3   Q) x4 x6 h
def wp_X10_isNeverDone (p0 : Int32) (p1 : Int32) (h : Hp) (Q : Int32 → Hp → Prop) : Prop := vp_in p0 4 ∧ wp_X10_isNeverDone_b16 p1 p0.toNatClampNeg 0 0 h Q
def rm_X10_isShadowed : Room := { frames := 46, cells := 2, slots := 12, locals := 1420 }
def wp_X10_isShadowed (p0 : Int32) (p1 : Int32) (h : Hp) (Q : Int32 → Hp → Prop) (Z : String → Hp → Prop) : Prop := wp_X10_requireRule p0 p1 h (wp_X10_isNeverDone p0 p1 h (fun r1 h2 => Q r1 h2)) (fun e => Z e h)
def rm_X10_areSame : Room := { frames := 45, cells := 2, slots := 12, locals := 1394 }
def wp_X10_areSame (p0 : Int32) (p1 : Int32) (h : Hp) (Q : Int32 → Hp → Prop) (Z : String → Hp → Prop) : Prop := wp_X10_requireBelow p0 (gI h 9 0 4) h (wp_X10_requireBelow p1 (gI h 9 0 4) h (wp_X4_isPossible ((1 : Int64) <<< ((p0 : Int32).toInt64 &&& 63)) ((1 : Int64) <<< ((p1 : Int32).toInt64 &&& 63)) h (fun r1 h2 => if r1 = 0 then (wp_X4_isPossible ((1 : Int64) <<< ((p1 : Int32).toInt64 &&& 63)) ((1 : Int64) <<< ((p0 : Int32).toInt64 &&& 63)) h2 (fun r4 h5 => if r4 = 0 then (Q 1 h5) else (Q 0 h5))) else (Q 0 h2))) (fun e => Z e h)) (fun e => Z e h)
def rm_X10_learn : Room := { frames := 7, cells := 2, slots := 12, locals := 159 }
def wp_X10_learn (p0 : Int32) (h : Hp) (Q : Int32 → Hp → Prop) (Z : String → Hp → Prop) : Prop := wp_X10_requireBelow p0 8 h (wp_X1_finds p0 h (fun r1 h2 => if r1 = 0 then (Z "java/util/NoSuchElementException" h2) else (wp_X1_testsNeeded h2 (fun r4 => wp_X10_requireRoomForTests r4 h2 (wp_X1_writeInto h2 (fun r5 h6 => Q r5 h6)) (fun e => Z e h2))))) (fun e => Z e h)
def rm_X10_sum : Room := { frames := 1, cells := 0, slots := 0, locals := 24 }
def wp_X10_sum_b46 (x1 : Int64) (x3 : Int32) (h : Hp) (P4 : Int64 → Int32 → Prop) (Q : Int64 → Prop) : Prop := LET (x3 + 1) fun v1 => P4 x1 v1
def wp_X10_sum_b4F  (h : Hp)  (Q : Int64 → Prop) (P4 : Int64 → Int32 → Prop) (x1 : Int64) (x3 : Int32)  : Prop := if (gI h 3 0 6) ≤ x3 then (Q x1) else (vp_in x3 40 ∧ if (gI h 2 x3.toNatClampNeg 9) = 0 then (LET (x1 + ((gI h 2 x3.toNatClampNeg 4).toInt64)) fun v4 => wp_X10_sum_b46 v4 x3 h P4 Q) else (wp_X10_sum_b46 x1 x3 h P4 Q))
def wp_X10_sum_b4 (x1 : Int64) (x3 : Int32) (h : Hp)  (Q : Int64 → Prop) : Prop := LFP2 (wp_X10_sum_b4F  h  Q) x1 x3 
def wp_X10_sum  (h : Hp) (Q : Int64 → Prop) : Prop := wp_X10_sum_b4 0 0 h Q
def rm_X10_goneShare : Room := { frames := 6, cells := 1, slots := 6, locals := 120 }
def wp_X10_goneShare_b53 (x1 : Int32) (x2 : Int32) (x3 : Int32) (h : Hp) (P6 : Int32 → Int32 → Int32 → Prop) (Q : UInt32 → Prop) (Z : String → Prop) : Prop := LET (x3 + 1) fun v1 => P6 x1 x2 v1
def wp_X10_goneShare_b35 (x1 : Int32) (x2 : Int32) (x3 : Int32) (h : Hp) (P6 : Int32 → Int32 → Int32 → Prop) (Q : UInt32 → Prop) (Z : String → Prop) : Prop := vp_in x3 40 ∧ if (gI h 2 x3.toNatClampNeg 9) = 0 then (wp_X10_goneShare_b53 x1 x2 x3 h P6 Q Z) else (LET (x2 + 1) fun v3 => wp_X10_goneShare_b53 x1 v3 x3 h P6 Q Z)
def wp_X10_goneShare_b6F  (h : Hp)  (Q : UInt32 → Prop) (Z : String → Prop) (P6 : Int32 → Int32 → Int32 → Prop) (x1 : Int32) (x2 : Int32) (x3 : Int32)  : Prop := if (gI h 3 0 6) ≤ x3 then (if x1 = 0 then (Z "java/lang/ArithmeticException") else (vf_n32 (FP.fdiv (FP.i2f x2) (FP.i2f x1)) ∧ Q (FP.fdiv (FP.i2f x2) (FP.i2f x1)))) else (vp_in x3 40 ∧ if (gI h 2 x3.toNatClampNeg 8) = 0 then (wp_X10_goneShare_b35 x1 x2 x3 h P6 Q Z) else (LET (x1 + 1) fun v6 => wp_X10_goneShare_b35 v6 x2 x3 h P6 Q Z))
def wp_X10_goneShare_b6 (x1 : Int32) (x2 : Int32) (x3 : Int32) (h : Hp)  (Q : UInt32 → Prop) (Z : String → Prop) : Prop := LFP3 (wp_X10_goneShare_b6F  h  Q Z) x1 x2 x3 
def wp_X10_goneShare  (h : Hp) (Q : UInt32 → Prop) (Z : String → Prop) : Prop := wp_X10_goneShare_b6 0 0 0 h Q Z
def rm_X10_meanSize : Room := { frames := 7, cells := 2, slots := 12, locals := 141 }
def wp_X10_meanSize_b40 (x1 : Int32) (x2 : Int32) (x3 : Int32) (h : Hp) (P10 : Int32 → Int32 → Prop) (Q : UInt64 → Prop) (Z : String → Prop) : Prop := LET (x3 + 1) fun v1 => P10 x2 v1
def wp_X10_meanSize_b10F (x1 : Int32) (h : Hp)  (Q : UInt64 → Prop) (Z : String → Prop) (P10 : Int32 → Int32 → Prop) (x2 : Int32) (x3 : Int32)  : Prop := if (gI h 3 0 6) ≤ x3 then (if x2 = 0 then (Z "java/lang/ArithmeticException") else (wp_X3_sizesIn x1 h (fun r3 => vf_n64 (FP.ddiv (FP.i2d r3) (FP.i2d x2)) ∧ Q (FP.ddiv (FP.i2d r3) (FP.i2d x2))))) else (vp_in x3 40 ∧ wp_X2_liesIn x3.toNatClampNeg x1 h (fun r6 => if r6 = 0 then (wp_X10_meanSize_b40 x1 x2 x3 h P10 Q Z) else (LET (x2 + 1) fun v8 => wp_X10_meanSize_b40 x1 v8 x3 h P10 Q Z)))
def wp_X10_meanSize_b10 (x1 : Int32) (x2 : Int32) (x3 : Int32) (h : Hp)  (Q : UInt64 → Prop) (Z : String → Prop) : Prop := LFP2 (wp_X10_meanSize_b10F x1 h  Q Z) x2 x3 
def wp_X10_meanSize (p0 : Int32) (h : Hp) (Q : UInt64 → Prop) (Z : String → Prop) : Prop := wp_X10_requireBelow p0 8 h (wp_X10_meanSize_b10 p0 0 0 h Q Z) Z
def rm_X10_isTrue : Room := { frames := 46, cells := 0, slots := 0, locals := 1420 }
def wp_X10_isTrue_b85 (x1 : Int32) (x2 : Int32) (x3 : Int32) (h : Hp) (P2 : Int32 → Hp → Prop) (P53 : Int32 → Hp → Prop) (Q : Int32 → Hp → Prop) : Prop := LET (x3 + 1) fun v1 => P53 v1 h
def wp_X10_isTrue_b53F (x1 : Int32) (x2 : Int32)  (P2 : Int32 → Hp → Prop) (Q : Int32 → Hp → Prop) (P53 : Int32 → Hp → Prop) (x3 : Int32) (h : Hp) : Prop := vp_in x1 4 ∧ if (gI h 7 x1.toNatClampNeg 1) ≤ x3 then (LET (x1 + 1) fun v3 => P2 v3 h) else (wp_X10_hasBit x2 x3 h (fun r4 => if r4 = 0 then (wp_X10_isTrue_b85 x1 x2 x3 h P2 P53 Q) else (wp_X10_isNeverDone x1 x3 h (fun r6 h7 => if r6 = 0 then (wp_X10_isTrue_b85 x1 x2 x3 h7 P2 P53 Q) else (Q 0 h7)))))
def wp_X10_isTrue_b53 (x1 : Int32) (x2 : Int32) (x3 : Int32) (h : Hp) (P2 : Int32 → Hp → Prop) (Q : Int32 → Hp → Prop) : Prop := LFP2 (wp_X10_isTrue_b53F x1 x2  P2 Q) x3 h
def wp_X10_isTrue_b11F (x1 : Int32)  (P2 : Int32 → Hp → Prop) (Q : Int32 → Hp → Prop) (P11 : Int32 → Int32 → Hp → Prop) (x2 : Int32) (x3 : Int32) (h : Hp) : Prop := if (gI h 3 0 6) ≤ x3 then (wp_X10_isTrue_b53 x1 x2 0 h P2 Q) else (wp_X0_perform x1 x3 2 h (fun h2 => LET (x2 ||| (gI h2 5 2 10)) fun v3 => LET (x3 + 1) fun v4 => P11 v3 v4 h2))
def wp_X10_isTrue_b11 (x1 : Int32) (x2 : Int32) (x3 : Int32) (h : Hp) (P2 : Int32 → Hp → Prop) (Q : Int32 → Hp → Prop) : Prop := LFP3 (wp_X10_isTrue_b11F x1  P2 Q) x2 x3 h
def wp_X10_isTrue_b2F    (Q : Int32 → Hp → Prop) (P2 : Int32 → Hp → Prop) (x1 : Int32) (h : Hp) : Prop := if 4 ≤ x1 then (Q 1 h) else (wp_X10_isTrue_b11 x1 0 0 h P2 Q)
def wp_X10_isTrue_b2 (x1 : Int32) (h : Hp)  (Q : Int32 → Hp → Prop) : Prop := LFP2 (wp_X10_isTrue_b2F    Q) x1 h
def wp_X10_isTrue  (h : Hp) (Q : Int32 → Hp → Prop) : Prop := wp_X10_isTrue_b2 0 h Q
def rm_X11_thrown : Room := { frames := 1, cells := 0, slots := 0, locals := 24 }
def wp_X11_thrown  (h : Hp) (Q : Int32 → Prop) : Prop := Q (gI h 11 0 0)
def rm_X11_in : Room := { frames := 1, cells := 0, slots := 0, locals := 24 }
def wp_X11_in (p0 : Int32) (p1 : Int32) (p2 : Int32) (h : Hp) (Q : Int32 → Prop) : Prop := if p0 < p1 then (Q 0) else (if p2 < p0 then (Q 0) else (Q 1))
def rm_X11_fails : Room := { frames := 1, cells := 0, slots := 0, locals := 24 }
def wp_X11_fails (p0 : Int32) (h : Hp) (Q : Int32 → Hp → Prop) : Prop := LET (sI h 11 0 0 p0) fun h1 => Q 0 h1
def rm_X11_mail : Room := { frames := 2, cells := 0, slots := 0, locals := 46 }
def wp_X11_mail_b59  (h : Hp)  (Q : Int32 → Hp → Prop) : Prop := wp_X11_fails 1 h (fun r1 h2 => Q r1 h2)
def wp_X11_mail (p0 : Int32) (p1 : Int32) (p2 : Int32) (p3 : Int32) (p4 : Int32) (h : Hp) (Q : Int32 → Hp → Prop) : Prop := LET (sI h 11 0 0 0) fun h1 => wp_X11_in p0 0 9 h1 (fun r2 => if r2 = 0 then (wp_X11_mail_b59 h1 Q) else (wp_X11_in p1 1 1023 h1 (fun r4 => if r4 = 0 then (wp_X11_mail_b59 h1 Q) else (wp_X11_in p2 0 65535 h1 (fun r6 => if r6 = 0 then (wp_X11_mail_b59 h1 Q) else (wp_X11_in p3 0 65535 h1 (fun r8 => if r8 = 0 then (wp_X11_mail_b59 h1 Q) else (wp_X11_in p4 1 999 h1 (fun r10 => if r10 = 0 then (wp_X11_mail_b59 h1 Q) else (if (gI h1 11 0 2) = 40 then (wp_X11_fails 2 h1 (fun r13 h14 => Q r13 h14)) else (vp_in (gI h1 11 0 2) 40 ∧ LET (sI h1 33 0 (gI h1 11 0 2).toNatClampNeg p0) fun h16 => vp_in (gI h16 11 0 2) 40 ∧ LET (sI h16 34 0 (gI h16 11 0 2).toNatClampNeg p1) fun h18 => vp_in (gI h18 11 0 2) 40 ∧ LET (sI h18 35 0 (gI h18 11 0 2).toNatClampNeg p2) fun h20 => vp_in (gI h20 11 0 2) 40 ∧ LET (sI h20 36 0 (gI h20 11 0 2).toNatClampNeg p3) fun h22 => vp_in (gI h22 11 0 2) 40 ∧ LET (sI h22 37 0 (gI h22 11 0 2).toNatClampNeg p4) fun h24 => vp_in (gI h24 11 0 2) 40 ∧ LET (sI h24 38 0 (gI h24 11 0 2).toNatClampNeg (gI h24 11 0 1)) fun h26 => vp_in (gI h26 11 0 2) 40 ∧ LET (sI h26 43 0 (gI h26 11 0 2).toNatClampNeg (-1)) fun h28 => LET (sI h28 11 0 2 ((gI h28 11 0 2) + 1)) fun h29 => Q ((gI h29 11 0 2) - 1) h29)))))))))))
set_option maxRecDepth 20000 in
theorem t_X4_unsettledUnder_b154 {X : Ctx} (h : Hp) (x2 : Int32) (x3 : Int32)  (E : EE X cX4_unsettledUnder RX4 8 2 46 0 0) {Q : Int32 → Hp → Prop} (hE : ENDi X cX4_unsettledUnder .int Q NT 0 0)  (hw : wp_X4_unsettledUnder_b154 x2 x3 h  Q) : GG X 0 0 NT h [some (rf X 4 0), none, some (.int x2), some (.int x3), none, none, none, none] 154 [] := by
  unfold wp_X4_unsettledUnder_b154 at hw
  refine r_aload_n E 4 0 rfl dX4_unsettledUnder_154 ?_
  refine r_iload_n E x3 rfl dX4_unsettledUnder_155 ?_
  obtain ⟨z1, hw⟩ := hw
  refine r_putI E fd_X4_80 rfl (PI_z z1) (Nat.le_of_ble_eq_true rfl) (adr_lt (Nat.le_of_ble_eq_true rfl)) rfl dX4_unsettledUnder_156 ?_
  refine GG_toph fun h2 hh2 => ?_
  have hw := hw h2 hh2
  refine r_iload_n E x2 rfl dX4_unsettledUnder_159 ?_
  exact hE _ _ _ _ _ _ (Nat.le_of_ble_eq_true rfl) (Nat.le_of_ble_eq_true rfl) dX4_unsettledUnder_160 rfl hw
set_option maxRecDepth 20000 in
theorem t_X4_unsettledUnder_b148 {X : Ctx} (h : Hp) (x2 : Int32) (x3 : Int32) (x4 : Int32)  (E : EE X cX4_unsettledUnder RX4 8 2 46 0 0) {Q : Int32 → Hp → Prop} (hE : ENDi X cX4_unsettledUnder .int Q NT 0 0) (P25 : Int32 → Int32 → Int32 → Hp → Prop) (hP25 : ∀ (y2 : Int32) (y3 : Int32) (y4 : Int32) (u : Hp), P25 y2 y3 y4 u → GG X 0 0 NT u [some (rf X 4 0), none, some (.int y2), some (.int y3), some (.int y4), none, none, none] 25 []) (hw : wp_X4_unsettledUnder_b148 x2 x3 x4 h P25 Q) : GG X 0 0 NT h [some (rf X 4 0), none, some (.int x2), some (.int x3), some (.int x4), none, none, none] 148 [] := by
  unfold wp_X4_unsettledUnder_b148 at hw
  obtain ⟨v1, hv1⟩ : ∃ y : Int32, y = x4 + 1 := ⟨_, rfl⟩
  have hw := hw v1 hv1
  refine r_iinc E x4 v1 [some (rf X 4 0), none, some (.int x2), some (.int x3), some (.int v1), none, none, none] rfl (by rw [hv1]; rfl) (Nat.le_of_ble_eq_true rfl) rfl dX4_unsettledUnder_148 ?_
  refine r_goto E 25 (by decide) dX4_unsettledUnder_151 ?_
  exact GG_weak [true, false, true, true, true, false, false, false] rfl (hP25 _ _ _ _ hw)
set_option maxRecDepth 20000 in
theorem t_X4_unsettledUnder_b147 {X : Ctx} (h : Hp) (x3 : Int32) (x4 : Int32) (s0 : Int32)  (E : EE X cX4_unsettledUnder RX4 8 2 46 0 0) {Q : Int32 → Hp → Prop} (hE : ENDi X cX4_unsettledUnder .int Q NT 0 0) (P25 : Int32 → Int32 → Int32 → Hp → Prop) (hP25 : ∀ (y2 : Int32) (y3 : Int32) (y4 : Int32) (u : Hp), P25 y2 y3 y4 u → GG X 0 0 NT u [some (rf X 4 0), none, some (.int y2), some (.int y3), some (.int y4), none, none, none] 25 []) (hw : wp_X4_unsettledUnder_b147 x3 x4 s0 h P25 Q) : GG X 0 0 NT h [some (rf X 4 0), none, none, some (.int x3), some (.int x4), none, none, none] 147 [.int s0] := by
  unfold wp_X4_unsettledUnder_b147 at hw
  refine r_istore_n E [some (rf X 4 0), none, some (.int s0), some (.int x3), some (.int x4), none, none, none] rfl (Nat.le_of_ble_eq_true rfl) rfl dX4_unsettledUnder_147 ?_
  exact GG_weak [true, false, true, true, true, false, false, false] rfl (t_X4_unsettledUnder_b148 h s0 x3 x4 E hE P25 hP25  hw)
set_option maxRecDepth 20000 in
theorem t_X4_unsettledUnder_b116 {X : Ctx} (h : Hp) (x4 : Int32) (x5 : Int32) (s0 : Int32)  (E : EE X cX4_unsettledUnder RX4 8 2 46 0 0) {Q : Int32 → Hp → Prop} (hE : ENDi X cX4_unsettledUnder .int Q NT 0 0) (P25 : Int32 → Int32 → Int32 → Hp → Prop) (hP25 : ∀ (y2 : Int32) (y3 : Int32) (y4 : Int32) (u : Hp), P25 y2 y3 y4 u → GG X 0 0 NT u [some (rf X 4 0), none, some (.int y2), some (.int y3), some (.int y4), none, none, none] 25 []) (hw : wp_X4_unsettledUnder_b116 x4 x5 s0 h P25 Q) : GG X 0 0 NT h [some (rf X 4 0), none, none, none, some (.int x4), some (.int x5), none, none] 116 [.int s0] := by
  unfold wp_X4_unsettledUnder_b116 at hw
  refine r_istore_n E [some (rf X 4 0), none, none, some (.int s0), some (.int x4), some (.int x5), none, none] rfl (Nat.le_of_ble_eq_true rfl) rfl dX4_unsettledUnder_116 ?_
  refine r_iload E x5 rfl dX4_unsettledUnder_117 ?_
  refine r_istore_n E [some (rf X 4 0), none, some (.int x5), some (.int s0), some (.int x4), some (.int x5), none, none] rfl (Nat.le_of_ble_eq_true rfl) rfl dX4_unsettledUnder_119 ?_
  refine r_goto E 148 (by decide) dX4_unsettledUnder_120 ?_
  exact GG_weak [true, false, true, true, true, false, false, false] rfl (t_X4_unsettledUnder_b148 h x5 s0 x4 E hE P25 hP25  hw)
set_option maxRecDepth 20000 in
theorem t_X4_unsettledUnder_b91 {X : Ctx} (h : Hp) (x2 : Int32) (x3 : Int32) (x4 : Int32) (x5 : Int32) (s0 : Int64)  (E : EE X cX4_unsettledUnder RX4 8 2 46 0 0) {Q : Int32 → Hp → Prop} (hE : ENDi X cX4_unsettledUnder .int Q NT 0 0) (P25 : Int32 → Int32 → Int32 → Hp → Prop) (hP25 : ∀ (y2 : Int32) (y3 : Int32) (y4 : Int32) (u : Hp), P25 y2 y3 y4 u → GG X 0 0 NT u [some (rf X 4 0), none, some (.int y2), some (.int y3), some (.int y4), none, none, none] 25 []) (hw : wp_X4_unsettledUnder_b91 x2 x3 x4 x5 s0 h P25 Q) : GG X 0 0 NT h [some (rf X 4 0), none, some (.int x2), some (.int x3), some (.int x4), some (.int x5), none, none] 91 [.long s0] := by
  unfold wp_X4_unsettledUnder_b91 at hw
  refine r_lstore E [some (rf X 4 0), none, some (.int x2), some (.int x3), some (.int x4), some (.int x5), some (.long s0), none] (Nat.le_of_ble_eq_true rfl) rfl dX4_unsettledUnder_91 ?_
  refine r_aload_n E 4 0 rfl dX4_unsettledUnder_93 ?_
  refine r_getS E fd_X4_22 (t := 0) (j1 := 9) rfl rfl rfl rfl (Nat.le_of_ble_eq_true rfl) (adr_lt (Nat.le_of_ble_eq_true rfl)) dX4_unsettledUnder_94 ?_
  refine r_getSN E fd_X4_44 (t := 0) (j1 := 12) rfl rfl rfl rfl (Nat.le_of_ble_eq_true rfl) (adr_lt (Nat.le_of_ble_eq_true rfl)) dX4_unsettledUnder_97 ?_
  refine r_iload_n E x2 rfl dX4_unsettledUnder_100 ?_
  obtain ⟨i1, hw⟩ := hw
  refine r_cald E rfl rfl rfl (Nat.le_of_ble_eq_true rfl) (adr_lt (Nat.le_of_ble_eq_true rfl)) i1 dX4_unsettledUnder_101 ?_
  refine r_bipush E 33 rfl dX4_unsettledUnder_102 ?_
  refine r_icmp_ne E 123 (by decide) dX4_unsettledUnder_104 (fun c2 => ?_) (fun c2 => ?_)
  · have hw := ite_t hw c2
    refine r_iload_n E x3 rfl dX4_unsettledUnder_107 ?_
    refine r_if_ne E 115 (by decide) dX4_unsettledUnder_108 (fun c3 => ?_) (fun c3 => ?_)
    · have hw := ite_t hw c3
      refine r_iconst E 1 rfl dX4_unsettledUnder_111 ?_
      refine r_goto E 116 (by decide) dX4_unsettledUnder_112 ?_
      exact GG_weak [true, false, false, false, true, true, false, false] rfl (t_X4_unsettledUnder_b116 h x4 x5 1 E hE P25 hP25  hw)
    · have hw := ite_f hw c3
      refine r_iconst E 0 rfl dX4_unsettledUnder_115 ?_
      exact GG_weak [true, false, false, false, true, true, false, false] rfl (t_X4_unsettledUnder_b116 h x4 x5 0 E hE P25 hP25  hw)
  · have hw := ite_f hw c2
    refine r_lload E s0 rfl dX4_unsettledUnder_123 ?_
    refine r_iload E x5 rfl dX4_unsettledUnder_125 ?_
    refine r_callSNI E (m_X10_hasBit_ (EE_st E) (GX X) s0 x5 h _ hw) lk_X4_38 (RM_mk (Nat.le_of_ble_eq_true rfl) (Nat.le_of_ble_eq_true rfl)) rfl rfl rfl rfl (Nat.le_of_ble_eq_true rfl) rfl rfl (Nat.le_of_ble_eq_true rfl) (Nat.le_of_ble_eq_true rfl) dX4_unsettledUnder_127 (fun r4 u9 hw => ?_)
    obtain ⟨rfl, zr4, hw⟩ := hw
    refine r_if_eq E 138 (by decide) dX4_unsettledUnder_130 (fun c5 => ?_) (fun c5 => ?_)
    · have hw := ite_t hw c5
      refine r_aload_n E 4 0 rfl dX4_unsettledUnder_138 ?_
      refine r_getS E fd_X4_22 (t := 0) (j1 := 9) rfl rfl rfl rfl (Nat.le_of_ble_eq_true rfl) (adr_lt (Nat.le_of_ble_eq_true rfl)) dX4_unsettledUnder_139 ?_
      refine r_getSN E fd_X4_55 (t := 0) (j1 := 14) rfl rfl rfl rfl (Nat.le_of_ble_eq_true rfl) (adr_lt (Nat.le_of_ble_eq_true rfl)) dX4_unsettledUnder_142 ?_
      refine r_iload_n E x2 rfl dX4_unsettledUnder_145 ?_
      refine r_iald E rfl rfl rfl (Nat.le_of_ble_eq_true rfl) (adr_lt (Nat.le_of_ble_eq_true rfl)) i1 dX4_unsettledUnder_146 ?_
      exact GG_weak [true, false, false, true, true, false, false, false] rfl (t_X4_unsettledUnder_b147 h x3 x4 (gI h 14 0 x2.toNatClampNeg) E hE P25 hP25  hw)
    · have hw := ite_f hw c5
      refine r_iload E x5 rfl dX4_unsettledUnder_133 ?_
      refine r_goto E 147 (by decide) dX4_unsettledUnder_135 ?_
      exact GG_weak [true, false, false, true, true, false, false, false] rfl (t_X4_unsettledUnder_b147 h x3 x4 x5 E hE P25 hP25  hw)
set_option maxRecDepth 20000 in
theorem t_X4_unsettledUnder_b25F {X : Ctx} (h : Hp) (x2 : Int32) (x3 : Int32) (x4 : Int32)  (E : EE X cX4_unsettledUnder RX4 8 2 46 0 0) {Q : Int32 → Hp → Prop} (hE : ENDi X cX4_unsettledUnder .int Q NT 0 0)  (P25 : Int32 → Int32 → Int32 → Hp → Prop) (hP25 : ∀ (y2 : Int32) (y3 : Int32) (y4 : Int32) (u : Hp), P25 y2 y3 y4 u → GG X 0 0 NT u [some (rf X 4 0), none, some (.int y2), some (.int y3), some (.int y4), none, none, none] 25 []) (hw : wp_X4_unsettledUnder_b25F    Q P25 x2 x3 x4 h) : GG X 0 0 NT h [some (rf X 4 0), none, some (.int x2), some (.int x3), some (.int x4), none, none, none] 25 [] := by
  unfold wp_X4_unsettledUnder_b25F at hw
  refine r_iload E x4 rfl dX4_unsettledUnder_25 ?_
  refine r_bipush E 60 rfl dX4_unsettledUnder_27 ?_
  refine r_icmp_ge E 154 (by decide) dX4_unsettledUnder_29 (fun c1 => ?_) (fun c1 => ?_)
  · have hw := ite_t hw c1
    exact GG_weak [true, false, true, true, false, false, false, false] rfl (t_X4_unsettledUnder_b154 h x2 x3 E hE  hw)
  · have hw := ite_f hw c1
    refine r_aload_n E 4 0 rfl dX4_unsettledUnder_32 ?_
    refine r_getS E fd_X4_22 (t := 0) (j1 := 9) rfl rfl rfl rfl (Nat.le_of_ble_eq_true rfl) (adr_lt (Nat.le_of_ble_eq_true rfl)) dX4_unsettledUnder_33 ?_
    refine r_getSN E fd_X4_44 (t := 0) (j1 := 12) rfl rfl rfl rfl (Nat.le_of_ble_eq_true rfl) (adr_lt (Nat.le_of_ble_eq_true rfl)) dX4_unsettledUnder_36 ?_
    refine r_iload_n E x2 rfl dX4_unsettledUnder_39 ?_
    obtain ⟨i2, hw⟩ := hw
    refine r_cald E rfl rfl rfl (Nat.le_of_ble_eq_true rfl) (adr_lt (Nat.le_of_ble_eq_true rfl)) i2 dX4_unsettledUnder_40 ?_
    refine r_callSI E (m_X9_partsOf (EE_st E) (GX X) (gI h 12 0 x2.toNatClampNeg) h _ hw) lk_X4_48 (RM_mk (Nat.le_of_ble_eq_true rfl) (Nat.le_of_ble_eq_true rfl)) rfl rfl rfl rfl (Nat.le_of_ble_eq_true rfl) rfl rfl (Nat.le_of_ble_eq_true rfl) (Nat.le_of_ble_eq_true rfl) dX4_unsettledUnder_41 (fun r3 u9 hw => ?_)
    obtain ⟨rfl, hw⟩ := hw
    refine r_if_le E 154 (by decide) dX4_unsettledUnder_44 (fun c4 => ?_) (fun c4 => ?_)
    · have hw := ite_t hw c4
      exact GG_weak [true, false, true, true, false, false, false, false] rfl (t_X4_unsettledUnder_b154 h x2 x3 E hE  hw)
    · have hw := ite_f hw c4
      refine r_aload_n E 4 0 rfl dX4_unsettledUnder_47 ?_
      refine r_getS E fd_X4_22 (t := 0) (j1 := 9) rfl rfl rfl rfl (Nat.le_of_ble_eq_true rfl) (adr_lt (Nat.le_of_ble_eq_true rfl)) dX4_unsettledUnder_48 ?_
      refine r_getSN E fd_X4_52 (t := 0) (j1 := 13) rfl rfl rfl rfl (Nat.le_of_ble_eq_true rfl) (adr_lt (Nat.le_of_ble_eq_true rfl)) dX4_unsettledUnder_51 ?_
      refine r_iload_n E x2 rfl dX4_unsettledUnder_54 ?_
      refine r_iald E rfl rfl rfl (Nat.le_of_ble_eq_true rfl) (adr_lt (Nat.le_of_ble_eq_true rfl)) i2 dX4_unsettledUnder_55 ?_
      refine GG_topI fun v5 hv5 => ?_
      have hw := hw v5 hv5
      refine r_istore E [some (rf X 4 0), none, some (.int x2), some (.int x3), some (.int x4), some (.int v5), none, none] (Nat.le_of_ble_eq_true rfl) rfl dX4_unsettledUnder_56 ?_
      refine r_iload_n E x3 rfl dX4_unsettledUnder_58 ?_
      refine r_if_eq E 78 (by decide) dX4_unsettledUnder_59 (fun c6 => ?_) (fun c6 => ?_)
      · have hw := ite_t hw c6
        refine r_aload_n E 4 0 rfl dX4_unsettledUnder_78 ?_
        refine r_getJ E fd_X4_92 rfl (Nat.le_of_ble_eq_true rfl) (adr_lt (Nat.le_of_ble_eq_true rfl)) dX4_unsettledUnder_79 ?_
        refine r_aload_n E 4 0 rfl dX4_unsettledUnder_82 ?_
        refine r_getJ E fd_X4_95 rfl (Nat.le_of_ble_eq_true rfl) (adr_lt (Nat.le_of_ble_eq_true rfl)) dX4_unsettledUnder_83 ?_
        refine r_ldc2 E (-1) kl_X4_90 dX4_unsettledUnder_86 ?_
        refine r_lxor E dX4_unsettledUnder_89 ?_
        refine r_land E dX4_unsettledUnder_90 ?_
        exact GG_weak [true, false, true, true, true, true, false, false] rfl (t_X4_unsettledUnder_b91 h x2 x3 x4 v5 ((gJ h 4 0 7) &&& ((gJ h 4 0 9) ^^^ (-1))) E hE P25 hP25  hw)
      · have hw := ite_f hw c6
        refine r_aload_n E 4 0 rfl dX4_unsettledUnder_62 ?_
        refine r_getJ E fd_X4_84 rfl (Nat.le_of_ble_eq_true rfl) (adr_lt (Nat.le_of_ble_eq_true rfl)) dX4_unsettledUnder_63 ?_
        refine r_aload_n E 4 0 rfl dX4_unsettledUnder_66 ?_
        refine r_getJ E fd_X4_87 rfl (Nat.le_of_ble_eq_true rfl) (adr_lt (Nat.le_of_ble_eq_true rfl)) dX4_unsettledUnder_67 ?_
        refine r_ldc2 E (-1) kl_X4_90 dX4_unsettledUnder_70 ?_
        refine r_lxor E dX4_unsettledUnder_73 ?_
        refine r_land E dX4_unsettledUnder_74 ?_
        refine r_goto E 91 (by decide) dX4_unsettledUnder_75 ?_
        exact GG_weak [true, false, true, true, true, true, false, false] rfl (t_X4_unsettledUnder_b91 h x2 x3 x4 v5 ((gJ h 4 0 6) &&& ((gJ h 4 0 8) ^^^ (-1))) E hE P25 hP25  hw)
set_option maxRecDepth 20000 in
theorem t_X4_unsettledUnder_b25 {X : Ctx} (h : Hp) (x2 : Int32) (x3 : Int32) (x4 : Int32)  (E : EE X cX4_unsettledUnder RX4 8 2 46 0 0) {Q : Int32 → Hp → Prop} (hE : ENDi X cX4_unsettledUnder .int Q NT 0 0)  (hw : wp_X4_unsettledUnder_b25 x2 x3 x4 h  Q) : GG X 0 0 NT h [some (rf X 4 0), none, some (.int x2), some (.int x3), some (.int x4), none, none, none] 25 [] :=
  hw (fun y2 y3 y4 u => GG X 0 0 NT u [some (rf X 4 0), none, some (.int y2), some (.int y3), some (.int y4), none, none, none] 25 []) (fun y2 y3 y4 u hq => t_X4_unsettledUnder_b25F u y2 y3 y4  E hE  (fun y2 y3 y4 u => GG X 0 0 NT u [some (rf X 4 0), none, some (.int y2), some (.int y3), some (.int y4), none, none, none] 25 []) (fun y2 y3 y4 u q => q) hq)
set_option maxRecDepth 20000 in
theorem t_X4_unsettledUnder_b21 {X : Ctx} (h : Hp) (x2 : Int32) (s0 : Int32)  (E : EE X cX4_unsettledUnder RX4 8 2 46 0 0) {Q : Int32 → Hp → Prop} (hE : ENDi X cX4_unsettledUnder .int Q NT 0 0)  (hw : wp_X4_unsettledUnder_b21 x2 s0 h  Q) : GG X 0 0 NT h [some (rf X 4 0), none, some (.int x2), none, none, none, none, none] 21 [.int s0] := by
  unfold wp_X4_unsettledUnder_b21 at hw
  refine r_istore_n E [some (rf X 4 0), none, some (.int x2), some (.int s0), none, none, none, none] rfl (Nat.le_of_ble_eq_true rfl) rfl dX4_unsettledUnder_21 ?_
  refine r_iconst E 0 rfl dX4_unsettledUnder_22 ?_
  refine r_istore E [some (rf X 4 0), none, some (.int x2), some (.int s0), some (.int 0), none, none, none] (Nat.le_of_ble_eq_true rfl) rfl dX4_unsettledUnder_23 ?_
  exact GG_weak [true, false, true, true, true, false, false, false] rfl (t_X4_unsettledUnder_b25 h x2 s0 0 E hE  hw)
set_option maxRecDepth 20000 in
theorem m_X4_unsettledUnder {l : Launch} (hl : l.stackTraces = false) (G : Gq) (p0 : Int32)  (h : Hp) (Q : Int32 → Hp → Prop) (hw : wp_X4_unsettledUnder p0 h Q) : MI l G yX4_unsettledUnder cX4_unsettledUnder 8 (some .int) rm_X4_unsettledUnder NT NT h (fun r => [r 4 0, .int p0]) Q := by
  refine MI_of (L0 := (fun X => [some (rf X 4 0), some (.int p0), none, none, none, none, none, none])) hl (by decide +kernel) rfl (fun _ => Nat.le_of_ble_eq_true rfl) (fun _ => rfl) fun X hXl hXG E hE => ?_
  subst hXl; subst hXG
  unfold wp_X4_unsettledUnder at hw
  refine r_iload_n E p0 rfl dX4_unsettledUnder_0 ?_
  refine r_istore_n E [some (rf X 4 0), some (.int p0), some (.int p0), none, none, none, none, none] rfl (Nat.le_of_ble_eq_true rfl) rfl dX4_unsettledUnder_1 ?_
  refine r_aload_n E 4 0 rfl dX4_unsettledUnder_2 ?_
  refine r_getS E fd_X4_22 (t := 0) (j1 := 9) rfl rfl rfl rfl (Nat.le_of_ble_eq_true rfl) (adr_lt (Nat.le_of_ble_eq_true rfl)) dX4_unsettledUnder_3 ?_
  refine r_getSN E fd_X4_44 (t := 0) (j1 := 12) rfl rfl rfl rfl (Nat.le_of_ble_eq_true rfl) (adr_lt (Nat.le_of_ble_eq_true rfl)) dX4_unsettledUnder_6 ?_
  refine r_iload_n E p0 rfl dX4_unsettledUnder_9 ?_
  obtain ⟨i1, hw⟩ := hw
  refine r_cald E rfl rfl rfl (Nat.le_of_ble_eq_true rfl) (adr_lt (Nat.le_of_ble_eq_true rfl)) i1 dX4_unsettledUnder_10 ?_
  refine r_bipush E 124 rfl dX4_unsettledUnder_11 ?_
  refine r_icmp_ne E 20 (by decide) dX4_unsettledUnder_13 (fun c2 => ?_) (fun c2 => ?_)
  · have hw := ite_t hw c2
    refine r_iconst E 1 rfl dX4_unsettledUnder_16 ?_
    refine r_goto E 21 (by decide) dX4_unsettledUnder_17 ?_
    exact GG_weak [true, false, true, false, false, false, false, false] rfl (t_X4_unsettledUnder_b21 h p0 1 E hE  hw)
  · have hw := ite_f hw c2
    refine r_iconst E 0 rfl dX4_unsettledUnder_20 ?_
    exact GG_weak [true, false, true, false, false, false, false, false] rfl (t_X4_unsettledUnder_b21 h p0 0 E hE  hw)
set_option maxRecDepth 20000 in
theorem m_X4_hasMailB {l : Launch} (hl : l.stackTraces = false) (G : Gq) (d : Nat) (RS : Int64 → Int64 → Int32 → Hp → (Int32 → Hp → Prop) → Prop) (hRS : ∀ (a b : Int64) (c : Int32) (u : Hp) (Q : Int32 → Hp → Prop), RS a b c u Q → MI l G yX4_hasMail cX4_hasMail 13 (some .boolean) (rm_X4_hasMail d) NT NT u (fun r => [r 4 0, .long a, .long b, .int c]) (fun r u => isB r ∧ Q r u)) (p0 : Int64) (p1 : Int64) (p2 : Int32)  (h : Hp) (Q : Int32 → Hp → Prop) (hw : wp_X4_hasMailB RS p0 p1 p2 h Q) : MI l G yX4_hasMail cX4_hasMail 13 (some .boolean) (rm_X4_hasMail (d + 1)) NT NT h (fun r => [r 4 0, .long p0, .long p1, .int p2]) (fun r u => isB r ∧ Q r u) := by
  refine MI_of (L0 := (fun X => [some (rf X 4 0), some (.long p0), none, some (.long p1), none, some (.int p2), none, none, none, none, none, none, none])) hl (by decide +kernel) rfl (fun _ => Nat.le_of_ble_eq_true rfl) (fun _ => rfl) fun X hXl hXG E hE => ?_
  subst hXl; subst hXG
  unfold wp_X4_hasMailB at hw
  refine r_iload E p2 rfl dX4_hasMail_0 ?_
  refine r_bipush E 36 rfl dX4_hasMail_2 ?_
  refine r_icmp_gt E 16 (by decide) dX4_hasMail_4 (fun c1 => ?_) (fun c1 => ?_)
  · have hw := ite_t hw c1
    refine r_iconst E 0 rfl dX4_hasMail_16 ?_
    exact hE _ _ _ _ _ _ (Nat.le_of_ble_eq_true rfl) (Nat.le_of_ble_eq_true rfl) dX4_hasMail_17 (isB_nar isB_0) ⟨isB_0, hw⟩
  · have hw := ite_f hw c1
    refine r_aload_n E 4 0 rfl dX4_hasMail_7 ?_
    refine r_lload_n E p0 rfl dX4_hasMail_8 ?_
    refine r_lload_n E p1 rfl dX4_hasMail_9 ?_
    refine r_callVI E (m_X4_follow (EE_st E) (GX X) p0 p1 h _ hw) lk_X4_61 (RM_mk (by simp only [rm_X4_follow, rm_X4_hasMail]; omega) (by simp only [rm_X4_follow, rm_X4_hasMail]; omega)) rfl rfl rfl rfl (Nat.le_of_ble_eq_true rfl) (adr_lt (Nat.le_of_ble_eq_true rfl)) (Nat.le_of_ble_eq_true rfl) rfl rfl (Nat.le_of_ble_eq_true rfl) (Nat.le_of_ble_eq_true rfl) dX4_hasMail_10 (fun r2 h3 hw => ?_)
    obtain ⟨zr2, hw⟩ := hw
    refine r_if_ne E 18 (by decide) dX4_hasMail_13 (fun c4 => ?_) (fun c4 => ?_)
    · have hw := ite_t hw c4
      refine r_iconst E 0 rfl dX4_hasMail_16 ?_
      exact hE _ _ _ _ _ _ (Nat.le_of_ble_eq_true rfl) (Nat.le_of_ble_eq_true rfl) dX4_hasMail_17 (isB_nar isB_0) ⟨isB_0, hw⟩
    · have hw := ite_f hw c4
      refine r_aload_n E 4 0 rfl dX4_hasMail_18 ?_
      refine r_callVI E (m_X4_lastOpen (EE_st E) (GX X)  h3 _ hw) lk_X4_65 (RM_mk (by simp only [rm_X4_lastOpen, rm_X4_hasMail]; omega) (by simp only [rm_X4_lastOpen, rm_X4_hasMail]; omega)) rfl rfl rfl rfl (Nat.le_of_ble_eq_true rfl) (adr_lt (Nat.le_of_ble_eq_true rfl)) (Nat.le_of_ble_eq_true rfl) rfl rfl (Nat.le_of_ble_eq_true rfl) (Nat.le_of_ble_eq_true rfl) dX4_hasMail_19 (fun r5 u9 hw => ?_)
      obtain ⟨rfl, hw⟩ := hw
      refine r_istore E [some (rf X 4 0), some (.long p0), none, some (.long p1), none, some (.int p2), some (.int r5), none, none, none, none, none, none] (Nat.le_of_ble_eq_true rfl) rfl dX4_hasMail_22 ?_
      refine r_iload E r5 rfl dX4_hasMail_24 ?_
      refine r_if_ge E 31 (by decide) dX4_hasMail_26 (fun c6 => ?_) (fun c6 => ?_)
      · have hw := ite_t hw c6
        refine r_aload_n E 4 0 rfl dX4_hasMail_31 ?_
        refine r_getJ E fd_X4_69 rfl (Nat.le_of_ble_eq_true rfl) (adr_lt (Nat.le_of_ble_eq_true rfl)) dX4_hasMail_32 ?_
        refine GG_topJ fun v7 hv7 => ?_
        have hw := hw v7 hv7
        refine r_lstore E [some (rf X 4 0), some (.long p0), none, some (.long p1), none, some (.int p2), some (.int r5), some (.long v7), none, none, none, none, none] (Nat.le_of_ble_eq_true rfl) rfl dX4_hasMail_35 ?_
        refine r_aload_n E 4 0 rfl dX4_hasMail_37 ?_
        refine r_getJ E fd_X4_73 rfl (Nat.le_of_ble_eq_true rfl) (adr_lt (Nat.le_of_ble_eq_true rfl)) dX4_hasMail_38 ?_
        refine GG_topJ fun v8 hv8 => ?_
        have hw := hw v8 hv8
        refine r_lstore E [some (rf X 4 0), some (.long p0), none, some (.long p1), none, some (.int p2), some (.int r5), some (.long v7), none, some (.long v8), none, none, none] (Nat.le_of_ble_eq_true rfl) rfl dX4_hasMail_41 ?_
        refine r_lconst E 1 rfl dX4_hasMail_43 ?_
        refine r_aload_n E 4 0 rfl dX4_hasMail_44 ?_
        refine r_iload E r5 rfl dX4_hasMail_45 ?_
        refine r_callVI E (m_X4_unsettledUnder (EE_st E) (GX X) r5 h3 _ hw) lk_X4_76 (RM_mk (by simp only [rm_X4_unsettledUnder, rm_X4_hasMail]; omega) (by simp only [rm_X4_unsettledUnder, rm_X4_hasMail]; omega)) rfl rfl rfl rfl (Nat.le_of_ble_eq_true rfl) (adr_lt (Nat.le_of_ble_eq_true rfl)) (Nat.le_of_ble_eq_true rfl) rfl rfl (Nat.le_of_ble_eq_true rfl) (Nat.le_of_ble_eq_true rfl) dX4_hasMail_47 (fun r9 h10 hw => ?_)
        refine r_lshl E dX4_hasMail_50 ?_
        refine GG_topJ fun v11 hv11 => ?_
        have hw := hw v11 hv11
        refine r_lstore E [some (rf X 4 0), some (.long p0), none, some (.long p1), none, some (.int p2), some (.int r5), some (.long v7), none, some (.long v8), none, some (.long v11), none] (Nat.le_of_ble_eq_true rfl) rfl dX4_hasMail_51 ?_
        refine r_aload_n E 4 0 rfl dX4_hasMail_53 ?_
        refine r_getI E fd_X4_80 rfl (Nat.le_of_ble_eq_true rfl) (adr_lt (Nat.le_of_ble_eq_true rfl)) dX4_hasMail_54 ?_
        refine r_if_eq E 102 (by decide) dX4_hasMail_57 (fun c12 => ?_) (fun c12 => ?_)
        · have hw := ite_t hw c12
          refine r_aload_n E 4 0 rfl dX4_hasMail_102 ?_
          refine r_lload E v7 rfl dX4_hasMail_103 ?_
          refine r_lload E v8 rfl dX4_hasMail_105 ?_
          refine r_lload E v11 rfl dX4_hasMail_107 ?_
          refine r_lor E dX4_hasMail_109 ?_
          refine r_iload E p2 rfl dX4_hasMail_110 ?_
          refine r_iconst E 1 rfl dX4_hasMail_112 ?_
          refine r_iadd E dX4_hasMail_113 ?_
          refine r_callVI E (hRS v7 (v8 ||| v11) (p2 + 1) h10 _ hw) lk_X4_30 (RM_mk (by simp only [rm_X4_hasMail, rm_X4_hasMail]; omega) (by simp only [rm_X4_hasMail, rm_X4_hasMail]; omega)) rfl rfl rfl rfl (Nat.le_of_ble_eq_true rfl) (adr_lt (Nat.le_of_ble_eq_true rfl)) (Nat.le_of_ble_eq_true rfl) rfl rfl (Nat.le_of_ble_eq_true rfl) (Nat.le_of_ble_eq_true rfl) dX4_hasMail_114 (fun r13 h14 hw => ?_)
          obtain ⟨zr13, hw⟩ := hw
          refine r_if_ne E 138 (by decide) dX4_hasMail_117 (fun c15 => ?_) (fun c15 => ?_)
          · have hw := ite_t hw c15
            refine r_aload_n E 4 0 rfl dX4_hasMail_120 ?_
            refine r_lload E v7 rfl dX4_hasMail_121 ?_
            refine r_lload E v11 rfl dX4_hasMail_123 ?_
            refine r_lor E dX4_hasMail_125 ?_
            refine r_lload E v8 rfl dX4_hasMail_126 ?_
            refine r_iload E p2 rfl dX4_hasMail_128 ?_
            refine r_iconst E 1 rfl dX4_hasMail_130 ?_
            refine r_iadd E dX4_hasMail_131 ?_
            refine r_callVI E (hRS (v7 ||| v11) v8 (p2 + 1) h14 _ hw) lk_X4_30 (RM_mk (by simp only [rm_X4_hasMail, rm_X4_hasMail]; omega) (by simp only [rm_X4_hasMail, rm_X4_hasMail]; omega)) rfl rfl rfl rfl (Nat.le_of_ble_eq_true rfl) (adr_lt (Nat.le_of_ble_eq_true rfl)) (Nat.le_of_ble_eq_true rfl) rfl rfl (Nat.le_of_ble_eq_true rfl) (Nat.le_of_ble_eq_true rfl) dX4_hasMail_132 (fun r16 h17 hw => ?_)
            obtain ⟨zr16, hw⟩ := hw
            refine r_if_eq E 142 (by decide) dX4_hasMail_135 (fun c18 => ?_) (fun c18 => ?_)
            · have hw := ite_t hw c18
              refine r_iconst E 0 rfl dX4_hasMail_142 ?_
              exact hE _ _ _ _ _ _ (Nat.le_of_ble_eq_true rfl) (Nat.le_of_ble_eq_true rfl) dX4_hasMail_143 (isB_nar isB_0) ⟨isB_0, hw⟩
            · have hw := ite_f hw c18
              refine r_iconst E 1 rfl dX4_hasMail_138 ?_
              refine r_goto E 143 (by decide) dX4_hasMail_139 ?_
              exact hE _ _ _ _ _ _ (Nat.le_of_ble_eq_true rfl) (Nat.le_of_ble_eq_true rfl) dX4_hasMail_143 (isB_nar isB_1) ⟨isB_1, hw⟩
          · have hw := ite_f hw c15
            refine r_iconst E 1 rfl dX4_hasMail_138 ?_
            refine r_goto E 143 (by decide) dX4_hasMail_139 ?_
            exact hE _ _ _ _ _ _ (Nat.le_of_ble_eq_true rfl) (Nat.le_of_ble_eq_true rfl) dX4_hasMail_143 (isB_nar isB_1) ⟨isB_1, hw⟩
        · have hw := ite_f hw c12
          refine r_aload_n E 4 0 rfl dX4_hasMail_60 ?_
          refine r_lload E v7 rfl dX4_hasMail_61 ?_
          refine r_lload E v11 rfl dX4_hasMail_63 ?_
          refine r_lor E dX4_hasMail_65 ?_
          refine r_lload E v8 rfl dX4_hasMail_66 ?_
          refine r_iload E p2 rfl dX4_hasMail_68 ?_
          refine r_iconst E 1 rfl dX4_hasMail_70 ?_
          refine r_iadd E dX4_hasMail_71 ?_
          refine r_callVI E (hRS (v7 ||| v11) v8 (p2 + 1) h10 _ hw) lk_X4_30 (RM_mk (by simp only [rm_X4_hasMail, rm_X4_hasMail]; omega) (by simp only [rm_X4_hasMail, rm_X4_hasMail]; omega)) rfl rfl rfl rfl (Nat.le_of_ble_eq_true rfl) (adr_lt (Nat.le_of_ble_eq_true rfl)) (Nat.le_of_ble_eq_true rfl) rfl rfl (Nat.le_of_ble_eq_true rfl) (Nat.le_of_ble_eq_true rfl) dX4_hasMail_72 (fun r19 h20 hw => ?_)
          obtain ⟨zr19, hw⟩ := hw
          refine r_if_ne E 96 (by decide) dX4_hasMail_75 (fun c21 => ?_) (fun c21 => ?_)
          · have hw := ite_t hw c21
            refine r_aload_n E 4 0 rfl dX4_hasMail_78 ?_
            refine r_lload E v7 rfl dX4_hasMail_79 ?_
            refine r_lload E v8 rfl dX4_hasMail_81 ?_
            refine r_lload E v11 rfl dX4_hasMail_83 ?_
            refine r_lor E dX4_hasMail_85 ?_
            refine r_iload E p2 rfl dX4_hasMail_86 ?_
            refine r_iconst E 1 rfl dX4_hasMail_88 ?_
            refine r_iadd E dX4_hasMail_89 ?_
            refine r_callVI E (hRS v7 (v8 ||| v11) (p2 + 1) h20 _ hw) lk_X4_30 (RM_mk (by simp only [rm_X4_hasMail, rm_X4_hasMail]; omega) (by simp only [rm_X4_hasMail, rm_X4_hasMail]; omega)) rfl rfl rfl rfl (Nat.le_of_ble_eq_true rfl) (adr_lt (Nat.le_of_ble_eq_true rfl)) (Nat.le_of_ble_eq_true rfl) rfl rfl (Nat.le_of_ble_eq_true rfl) (Nat.le_of_ble_eq_true rfl) dX4_hasMail_90 (fun r22 h23 hw => ?_)
            obtain ⟨zr22, hw⟩ := hw
            refine r_if_eq E 100 (by decide) dX4_hasMail_93 (fun c24 => ?_) (fun c24 => ?_)
            · have hw := ite_t hw c24
              refine r_iconst E 0 rfl dX4_hasMail_100 ?_
              exact hE _ _ _ _ _ _ (Nat.le_of_ble_eq_true rfl) (Nat.le_of_ble_eq_true rfl) dX4_hasMail_101 (isB_nar isB_0) ⟨isB_0, hw⟩
            · have hw := ite_f hw c24
              refine r_iconst E 1 rfl dX4_hasMail_96 ?_
              refine r_goto E 101 (by decide) dX4_hasMail_97 ?_
              exact hE _ _ _ _ _ _ (Nat.le_of_ble_eq_true rfl) (Nat.le_of_ble_eq_true rfl) dX4_hasMail_101 (isB_nar isB_1) ⟨isB_1, hw⟩
          · have hw := ite_f hw c21
            refine r_iconst E 1 rfl dX4_hasMail_96 ?_
            refine r_goto E 101 (by decide) dX4_hasMail_97 ?_
            exact hE _ _ _ _ _ _ (Nat.le_of_ble_eq_true rfl) (Nat.le_of_ble_eq_true rfl) dX4_hasMail_101 (isB_nar isB_1) ⟨isB_1, hw⟩
      · have hw := ite_f hw c6
        refine r_iconst E 1 rfl dX4_hasMail_29 ?_
        exact hE _ _ _ _ _ _ (Nat.le_of_ble_eq_true rfl) (Nat.le_of_ble_eq_true rfl) dX4_hasMail_30 (isB_nar isB_1) ⟨isB_1, hw⟩
set_option maxRecDepth 20000 in
theorem m_X4_hasMail {l : Launch} (hl : l.stackTraces = false) (G : Gq) (d : Nat) : ∀ (a b : Int64) (c : Int32) (h : Hp) (Q : Int32 → Hp → Prop), wp_X4_hasMail d a b c h Q → MI l G yX4_hasMail cX4_hasMail 13 (some .boolean) (rm_X4_hasMail d) NT NT h (fun r => [r 4 0, .long a, .long b, .int c]) (fun r u => isB r ∧ Q r u) := by
  induction d with
  | zero => intro a b c h Q hw; exact hw.elim
  | succ d ih => intro a b c h Q hw; exact m_X4_hasMailB hl G d (wp_X4_hasMail d) ih a b c h Q hw
set_option maxRecDepth 20000 in
theorem m_X4_isPossible {l : Launch} (hl : l.stackTraces = false) (G : Gq) (p0 : Int64) (p1 : Int64)  (h : Hp) (Q : Int32 → Hp → Prop) (hw : wp_X4_isPossible p0 p1 h Q) : MI l G yX4_isPossible cX4_isPossible 5 (some .boolean) rm_X4_isPossible NT NT h (fun r => [r 4 0, .long p0, .long p1]) (fun r u => isB r ∧ Q r u) := by
  refine MI_of (L0 := (fun X => [some (rf X 4 0), some (.long p0), none, some (.long p1), none])) hl (by decide +kernel) rfl (fun _ => Nat.le_of_ble_eq_true rfl) (fun _ => rfl) fun X hXl hXG E hE => ?_
  subst hXl; subst hXG
  unfold wp_X4_isPossible at hw
  refine r_aload_n E 4 0 rfl dX4_isPossible_0 ?_
  refine r_lload_n E p0 rfl dX4_isPossible_1 ?_
  refine r_lload_n E p1 rfl dX4_isPossible_2 ?_
  refine r_lor E dX4_isPossible_3 ?_
  refine r_callVV E (m_X4_gather (EE_st E) (GX X) (p0 ||| p1) h _ hw) lk_X4_26 (RM_mk (Nat.le_of_ble_eq_true rfl) (Nat.le_of_ble_eq_true rfl)) rfl rfl rfl rfl (Nat.le_of_ble_eq_true rfl) (adr_lt (Nat.le_of_ble_eq_true rfl)) (Nat.le_of_ble_eq_true rfl) rfl rfl (Nat.le_of_ble_eq_true rfl) (Nat.le_of_ble_eq_true rfl) dX4_isPossible_4 (fun h1 hw => ?_)
  refine r_aload_n E 4 0 rfl dX4_isPossible_7 ?_
  refine r_lload_n E p0 rfl dX4_isPossible_8 ?_
  refine r_lload_n E p1 rfl dX4_isPossible_9 ?_
  refine r_iconst E 0 rfl dX4_isPossible_10 ?_
  refine r_callVI E (m_X4_hasMail (EE_st E) (GX X) 38 p0 p1 0 h1 _ hw) lk_X4_30 (RM_mk (Nat.le_of_ble_eq_true rfl) (Nat.le_of_ble_eq_true rfl)) rfl rfl rfl rfl (Nat.le_of_ble_eq_true rfl) (adr_lt (Nat.le_of_ble_eq_true rfl)) (Nat.le_of_ble_eq_true rfl) rfl rfl (Nat.le_of_ble_eq_true rfl) (Nat.le_of_ble_eq_true rfl) dX4_isPossible_11 (fun r2 h3 hw => ?_)
  obtain ⟨zr2, hw⟩ := hw
  exact hE _ _ _ _ _ _ (Nat.le_of_ble_eq_true rfl) (Nat.le_of_ble_eq_true rfl) dX4_isPossible_14 (isB_nar zr2) ⟨zr2, hw⟩
set_option maxRecDepth 20000 in
theorem m_X10_isBelow {l : Launch} (hl : l.stackTraces = false) (G : Gq) (p0 : Int32) (p1 : Int32)  (h : Hp) (Q : Int32 → Prop) (hw : wp_X10_isBelow p0 p1 h Q) : MI l G yX10_isBelow cX10_isBelow 2 (some .boolean) rm_X10_isBelow NT NT h (fun r => [.int p0, .int p1]) (fun r u => h = u ∧ isB r ∧ Q r) := by
  refine MI_of (L0 := (fun X => [some (.int p0), some (.int p1)])) hl (by decide +kernel) rfl (fun _ => Nat.le_of_ble_eq_true rfl) (fun _ => rfl) fun X hXl hXG E hE => ?_
  subst hXl; subst hXG
  unfold wp_X10_isBelow at hw
  refine r_iload_n E p0 rfl dX10_isBelow_0 ?_
  refine r_if_lt E 13 (by decide) dX10_isBelow_1 (fun c1 => ?_) (fun c1 => ?_)
  · have hw := ite_t hw c1
    refine r_iconst E 0 rfl dX10_isBelow_13 ?_
    exact hE _ _ _ _ _ _ (Nat.le_of_ble_eq_true rfl) (Nat.le_of_ble_eq_true rfl) dX10_isBelow_14 (isB_nar isB_0) ⟨rfl, isB_0, hw⟩
  · have hw := ite_f hw c1
    refine r_iload_n E p0 rfl dX10_isBelow_4 ?_
    refine r_iload_n E p1 rfl dX10_isBelow_5 ?_
    refine r_icmp_ge E 13 (by decide) dX10_isBelow_6 (fun c2 => ?_) (fun c2 => ?_)
    · have hw := ite_t hw c2
      refine r_iconst E 0 rfl dX10_isBelow_13 ?_
      exact hE _ _ _ _ _ _ (Nat.le_of_ble_eq_true rfl) (Nat.le_of_ble_eq_true rfl) dX10_isBelow_14 (isB_nar isB_0) ⟨rfl, isB_0, hw⟩
    · have hw := ite_f hw c2
      refine r_iconst E 1 rfl dX10_isBelow_9 ?_
      refine r_goto E 14 (by decide) dX10_isBelow_10 ?_
      exact hE _ _ _ _ _ _ (Nat.le_of_ble_eq_true rfl) (Nat.le_of_ble_eq_true rfl) dX10_isBelow_14 (isB_nar isB_1) ⟨rfl, isB_1, hw⟩
set_option maxRecDepth 20000 in
theorem m_X10_lies {l : Launch} (hl : l.stackTraces = false) (G : Gq) (p0 : Int32) (p1 : Int32) (p2 : Int32)  (h : Hp) (Q : Int32 → Prop) (hw : wp_X10_lies p0 p1 p2 h Q) : MI l G yX10_lies cX10_lies 3 (some .boolean) rm_X10_lies NT NT h (fun r => [.int p0, .int p1, .int p2]) (fun r u => h = u ∧ isB r ∧ Q r) := by
  refine MI_of (L0 := (fun X => [some (.int p0), some (.int p1), some (.int p2)])) hl (by decide +kernel) rfl (fun _ => Nat.le_of_ble_eq_true rfl) (fun _ => rfl) fun X hXl hXG E hE => ?_
  subst hXl; subst hXG
  unfold wp_X10_lies at hw
  refine r_iload_n E p0 rfl dX10_lies_0 ?_
  refine r_iload_n E p1 rfl dX10_lies_1 ?_
  refine r_icmp_lt E 14 (by decide) dX10_lies_2 (fun c1 => ?_) (fun c1 => ?_)
  · have hw := ite_t hw c1
    refine r_iconst E 0 rfl dX10_lies_14 ?_
    exact hE _ _ _ _ _ _ (Nat.le_of_ble_eq_true rfl) (Nat.le_of_ble_eq_true rfl) dX10_lies_15 (isB_nar isB_0) ⟨rfl, isB_0, hw⟩
  · have hw := ite_f hw c1
    refine r_iload_n E p0 rfl dX10_lies_5 ?_
    refine r_iload_n E p2 rfl dX10_lies_6 ?_
    refine r_icmp_gt E 14 (by decide) dX10_lies_7 (fun c2 => ?_) (fun c2 => ?_)
    · have hw := ite_t hw c2
      refine r_iconst E 0 rfl dX10_lies_14 ?_
      exact hE _ _ _ _ _ _ (Nat.le_of_ble_eq_true rfl) (Nat.le_of_ble_eq_true rfl) dX10_lies_15 (isB_nar isB_0) ⟨rfl, isB_0, hw⟩
    · have hw := ite_f hw c2
      refine r_iconst E 1 rfl dX10_lies_10 ?_
      refine r_goto E 15 (by decide) dX10_lies_11 ?_
      exact hE _ _ _ _ _ _ (Nat.le_of_ble_eq_true rfl) (Nat.le_of_ble_eq_true rfl) dX10_lies_15 (isB_nar isB_1) ⟨rfl, isB_1, hw⟩
set_option maxRecDepth 20000 in
theorem m_X6_allows {l : Launch} (hl : l.stackTraces = false) (G : Gq) (p0 : Int32) (p1 : Int32)  (h : Hp) (Q : Int32 → Prop) (hw : wp_X6_allows p0 p1 h Q) : MI l G yX6_allows cX6_allows 2 (some .boolean) rm_X6_allows NT NT h (fun r => [.int p0, .int p1]) (fun r u => h = u ∧ isB r ∧ Q r) := by
  refine MI_of (L0 := (fun X => [some (.int p0), some (.int p1)])) hl (by decide +kernel) rfl (fun _ => Nat.le_of_ble_eq_true rfl) (fun _ => rfl) fun X hXl hXG E hE => ?_
  subst hXl; subst hXG
  unfold wp_X6_allows at hw
  refine r_iload_n E p0 rfl dX6_allows_0 ?_
  rcases Decidable.em (p0 = 70) with c1 | c1
  · have hw := ite_t hw c1
    refine r_lookup E (off := 123) 124 dX6_allows_1 (by decide) (by rw [c1]; rfl) (by decide) ?_
    refine r_iload_n E p1 rfl dX6_allows_124 ?_
    refine r_bipush E 8 rfl dX6_allows_125 ?_
    refine r_callSNI E (m_X10_isBelow (EE_st E) (GX X) p1 8 h _ hw) lk_X6_19 (RM_mk (Nat.le_of_ble_eq_true rfl) (Nat.le_of_ble_eq_true rfl)) rfl rfl rfl rfl (Nat.le_of_ble_eq_true rfl) rfl rfl (Nat.le_of_ble_eq_true rfl) (Nat.le_of_ble_eq_true rfl) dX6_allows_127 (fun r2 u9 hw => ?_)
    obtain ⟨rfl, zr2, hw⟩ := hw
    exact hE _ _ _ _ _ _ (Nat.le_of_ble_eq_true rfl) (Nat.le_of_ble_eq_true rfl) dX6_allows_130 (isB_nar zr2) ⟨rfl, zr2, hw⟩
  · have hw := ite_f hw c1
    rcases Decidable.em (p0 = 83) with c3 | c3
    · have hw := ite_t hw c3
      refine r_lookup E (off := 107) 108 dX6_allows_1 (by decide) (by rw [c3]; rfl) (by decide) ?_
      refine r_iconst E 1 rfl dX6_allows_108 ?_
      exact hE _ _ _ _ _ _ (Nat.le_of_ble_eq_true rfl) (Nat.le_of_ble_eq_true rfl) dX6_allows_109 (isB_nar isB_1) ⟨rfl, isB_1, hw⟩
    · have hw := ite_f hw c3
      rcases Decidable.em (p0 = 85) with c4 | c4
      · have hw := ite_t hw c4
        refine r_lookup E (off := 123) 124 dX6_allows_1 (by decide) (by rw [c4]; rfl) (by decide) ?_
        refine r_iload_n E p1 rfl dX6_allows_124 ?_
        refine r_bipush E 8 rfl dX6_allows_125 ?_
        refine r_callSNI E (m_X10_isBelow (EE_st E) (GX X) p1 8 h _ hw) lk_X6_19 (RM_mk (Nat.le_of_ble_eq_true rfl) (Nat.le_of_ble_eq_true rfl)) rfl rfl rfl rfl (Nat.le_of_ble_eq_true rfl) rfl rfl (Nat.le_of_ble_eq_true rfl) (Nat.le_of_ble_eq_true rfl) dX6_allows_127 (fun r5 u9 hw => ?_)
        obtain ⟨rfl, zr5, hw⟩ := hw
        exact hE _ _ _ _ _ _ (Nat.le_of_ble_eq_true rfl) (Nat.le_of_ble_eq_true rfl) dX6_allows_130 (isB_nar zr5) ⟨rfl, zr5, hw⟩
      · have hw := ite_f hw c4
        rcases Decidable.em (p0 = 99) with c6 | c6
        · have hw := ite_t hw c6
          refine r_lookup E (off := 109) 110 dX6_allows_1 (by decide) (by rw [c6]; rfl) (by decide) ?_
          refine r_iload_n E p1 rfl dX6_allows_110 ?_
          refine r_bipush E 8 rfl dX6_allows_111 ?_
          refine r_callSNI E (m_X10_isBelow (EE_st E) (GX X) p1 8 h _ hw) lk_X6_19 (RM_mk (Nat.le_of_ble_eq_true rfl) (Nat.le_of_ble_eq_true rfl)) rfl rfl rfl rfl (Nat.le_of_ble_eq_true rfl) rfl rfl (Nat.le_of_ble_eq_true rfl) (Nat.le_of_ble_eq_true rfl) dX6_allows_113 (fun r7 u9 hw => ?_)
          obtain ⟨rfl, zr7, hw⟩ := hw
          exact hE _ _ _ _ _ _ (Nat.le_of_ble_eq_true rfl) (Nat.le_of_ble_eq_true rfl) dX6_allows_116 (isB_nar zr7) ⟨rfl, zr7, hw⟩
        · have hw := ite_f hw c6
          rcases Decidable.em (p0 = 105) with c8 | c8
          · have hw := ite_t hw c8
            refine r_lookup E (off := 138) 139 dX6_allows_1 (by decide) (by rw [c8]; rfl) (by decide) ?_
            refine r_iload_n E p1 rfl dX6_allows_139 ?_
            refine r_iconst E 4 rfl dX6_allows_140 ?_
            refine r_callSNI E (m_X10_isBelow (EE_st E) (GX X) p1 4 h _ hw) lk_X6_19 (RM_mk (Nat.le_of_ble_eq_true rfl) (Nat.le_of_ble_eq_true rfl)) rfl rfl rfl rfl (Nat.le_of_ble_eq_true rfl) rfl rfl (Nat.le_of_ble_eq_true rfl) (Nat.le_of_ble_eq_true rfl) dX6_allows_141 (fun r9 u9 hw => ?_)
            obtain ⟨rfl, zr9, hw⟩ := hw
            exact hE _ _ _ _ _ _ (Nat.le_of_ble_eq_true rfl) (Nat.le_of_ble_eq_true rfl) dX6_allows_144 (isB_nar zr9) ⟨rfl, zr9, hw⟩
          · have hw := ite_f hw c8
            rcases Decidable.em (p0 = 107) with c10 | c10
            · have hw := ite_t hw c10
              refine r_lookup E (off := 107) 108 dX6_allows_1 (by decide) (by rw [c10]; rfl) (by decide) ?_
              refine r_iconst E 1 rfl dX6_allows_108 ?_
              exact hE _ _ _ _ _ _ (Nat.le_of_ble_eq_true rfl) (Nat.le_of_ble_eq_true rfl) dX6_allows_109 (isB_nar isB_1) ⟨rfl, isB_1, hw⟩
            · have hw := ite_f hw c10
              rcases Decidable.em (p0 = 109) with c11 | c11
              · have hw := ite_t hw c11
                refine r_lookup E (off := 109) 110 dX6_allows_1 (by decide) (by rw [c11]; rfl) (by decide) ?_
                refine r_iload_n E p1 rfl dX6_allows_110 ?_
                refine r_bipush E 8 rfl dX6_allows_111 ?_
                refine r_callSNI E (m_X10_isBelow (EE_st E) (GX X) p1 8 h _ hw) lk_X6_19 (RM_mk (Nat.le_of_ble_eq_true rfl) (Nat.le_of_ble_eq_true rfl)) rfl rfl rfl rfl (Nat.le_of_ble_eq_true rfl) rfl rfl (Nat.le_of_ble_eq_true rfl) (Nat.le_of_ble_eq_true rfl) dX6_allows_113 (fun r12 u9 hw => ?_)
                obtain ⟨rfl, zr12, hw⟩ := hw
                exact hE _ _ _ _ _ _ (Nat.le_of_ble_eq_true rfl) (Nat.le_of_ble_eq_true rfl) dX6_allows_116 (isB_nar zr12) ⟨rfl, zr12, hw⟩
              · have hw := ite_f hw c11
                rcases Decidable.em (p0 = 114) with c13 | c13
                · have hw := ite_t hw c13
                  refine r_lookup E (off := 107) 108 dX6_allows_1 (by decide) (by rw [c13]; rfl) (by decide) ?_
                  refine r_iconst E 1 rfl dX6_allows_108 ?_
                  exact hE _ _ _ _ _ _ (Nat.le_of_ble_eq_true rfl) (Nat.le_of_ble_eq_true rfl) dX6_allows_109 (isB_nar isB_1) ⟨rfl, isB_1, hw⟩
                · have hw := ite_f hw c13
                  rcases Decidable.em (p0 = 115) with c14 | c14
                  · have hw := ite_t hw c14
                    refine r_lookup E (off := 107) 108 dX6_allows_1 (by decide) (by rw [c14]; rfl) (by decide) ?_
                    refine r_iconst E 1 rfl dX6_allows_108 ?_
                    exact hE _ _ _ _ _ _ (Nat.le_of_ble_eq_true rfl) (Nat.le_of_ble_eq_true rfl) dX6_allows_109 (isB_nar isB_1) ⟨rfl, isB_1, hw⟩
                  · have hw := ite_f hw c14
                    rcases Decidable.em (p0 = 118) with c15 | c15
                    · have hw := ite_t hw c15
                      refine r_lookup E (off := 130) 131 dX6_allows_1 (by decide) (by rw [c15]; rfl) (by decide) ?_
                      refine r_iload_n E p1 rfl dX6_allows_131 ?_
                      refine r_iconst E 1 rfl dX6_allows_132 ?_
                      refine r_bipush E 30 rfl dX6_allows_133 ?_
                      refine r_callSNI E (m_X10_lies (EE_st E) (GX X) p1 1 30 h _ hw) lk_X6_23 (RM_mk (Nat.le_of_ble_eq_true rfl) (Nat.le_of_ble_eq_true rfl)) rfl rfl rfl rfl (Nat.le_of_ble_eq_true rfl) rfl rfl (Nat.le_of_ble_eq_true rfl) (Nat.le_of_ble_eq_true rfl) dX6_allows_135 (fun r16 u9 hw => ?_)
                      obtain ⟨rfl, zr16, hw⟩ := hw
                      exact hE _ _ _ _ _ _ (Nat.le_of_ble_eq_true rfl) (Nat.le_of_ble_eq_true rfl) dX6_allows_138 (isB_nar zr16) ⟨rfl, zr16, hw⟩
                    · have hw := ite_f hw c15
                      rcases Decidable.em (p0 = 119) with c17 | c17
                      · have hw := ite_t hw c17
                        refine r_lookup E (off := 116) 117 dX6_allows_1 (by decide) (by rw [c17]; rfl) (by decide) ?_
                        refine r_iload_n E p1 rfl dX6_allows_117 ?_
                        refine r_bipush E 10 rfl dX6_allows_118 ?_
                        refine r_callSNI E (m_X10_isBelow (EE_st E) (GX X) p1 10 h _ hw) lk_X6_19 (RM_mk (Nat.le_of_ble_eq_true rfl) (Nat.le_of_ble_eq_true rfl)) rfl rfl rfl rfl (Nat.le_of_ble_eq_true rfl) rfl rfl (Nat.le_of_ble_eq_true rfl) (Nat.le_of_ble_eq_true rfl) dX6_allows_120 (fun r18 u9 hw => ?_)
                        obtain ⟨rfl, zr18, hw⟩ := hw
                        exact hE _ _ _ _ _ _ (Nat.le_of_ble_eq_true rfl) (Nat.le_of_ble_eq_true rfl) dX6_allows_123 (isB_nar zr18) ⟨rfl, zr18, hw⟩
                      · have hw := ite_f hw c17
                        rcases Decidable.em (p0 = 120) with c19 | c19
                        · have hw := ite_t hw c19
                          refine r_lookup E (off := 107) 108 dX6_allows_1 (by decide) (by rw [c19]; rfl) (by decide) ?_
                          refine r_iconst E 1 rfl dX6_allows_108 ?_
                          exact hE _ _ _ _ _ _ (Nat.le_of_ble_eq_true rfl) (Nat.le_of_ble_eq_true rfl) dX6_allows_109 (isB_nar isB_1) ⟨rfl, isB_1, hw⟩
                        · have hw := ite_f hw c19
                          refine r_lookup E (off := 144) 145 dX6_allows_1 (by decide) (by show Op.lookupswitch.offset [(70, 123), (83, 107), (85, 123), (99, 109), (105, 138), (107, 107), (109, 109), (114, 107), (115, 107), (118, 130), (119, 116), (120, 107)] 144 _ = 144; rw [lv_osw (a := 70) c1 rfl, lv_osw (a := 83) c3 rfl, lv_osw (a := 85) c4 rfl, lv_osw (a := 99) c6 rfl, lv_osw (a := 105) c8 rfl, lv_osw (a := 107) c10 rfl, lv_osw (a := 109) c11 rfl, lv_osw (a := 114) c13 rfl, lv_osw (a := 115) c14 rfl, lv_osw (a := 118) c15 rfl, lv_osw (a := 119) c17 rfl, lv_osw (a := 120) c19 rfl]; rfl) (by decide) ?_
                          refine r_iconst E 0 rfl dX6_allows_145 ?_
                          exact hE _ _ _ _ _ _ (Nat.le_of_ble_eq_true rfl) (Nat.le_of_ble_eq_true rfl) dX6_allows_146 (isB_nar isB_0) ⟨rfl, isB_0, hw⟩
set_option maxRecDepth 20000 in
theorem m_X6_append {l : Launch} (hl : l.stackTraces = false) (G : Gq) (o0 : Nat) (p0 : Int32) (p1 : Int32) (ho0 : o0 < 48) (h : Hp) (Q : Int32 → Hp → Prop) (hw : wp_X6_append o0 p0 p1 h Q) : MI l G yX6_append cX6_append 3 (some .int) rm_X6_append NT NT h (fun r => [r 6 o0, .int p0, .int p1]) Q := by
  refine MI_of (L0 := (fun X => [some (rf X 6 o0), some (.int p0), some (.int p1)])) hl (by decide +kernel) rfl (fun _ => Nat.le_of_ble_eq_true rfl) (fun _ => rfl) fun X hXl hXG E hE => ?_
  subst hXl; subst hXG
  unfold wp_X6_append at hw
  refine r_aload_n E 6 o0 rfl dX6_append_0 ?_
  refine r_getS E fd_X6_11 (t := o0) (j1 := 23) rfl rfl rfl rfl ho0 (adr_lt ho0) dX6_append_1 ?_
  refine r_aload_n E 6 o0 rfl dX6_append_4 ?_
  refine r_getI E fd_X6_27 rfl ho0 (adr_lt ho0) dX6_append_5 ?_
  refine r_iload_n E p0 rfl dX6_append_8 ?_
  obtain ⟨i1, hw⟩ := hw
  refine r_cast E rfl rfl rfl ho0 (adr_lt ho0) i1 rfl dX6_append_9 ?_
  refine GG_toph fun h2 hh2 => ?_
  have hw := hw h2 hh2
  refine r_aload_n E 6 o0 rfl dX6_append_10 ?_
  refine r_getS E fd_X6_15 (t := o0) (j1 := 24) rfl rfl rfl rfl ho0 (adr_lt ho0) dX6_append_11 ?_
  refine r_aload_n E 6 o0 rfl dX6_append_14 ?_
  refine r_getI E fd_X6_27 rfl ho0 (adr_lt ho0) dX6_append_15 ?_
  refine r_iload_n E p1 rfl dX6_append_18 ?_
  obtain ⟨i3, hw⟩ := hw
  refine r_iast E rfl rfl rfl ho0 (adr_lt ho0) i3 dX6_append_19 ?_
  refine GG_toph fun h4 hh4 => ?_
  have hw := hw h4 hh4
  refine r_aload_n E 6 o0 rfl dX6_append_20 ?_
  refine r_dup E rfl dX6_append_21 ?_
  refine r_getI E fd_X6_27 rfl ho0 (adr_lt ho0) dX6_append_22 ?_
  refine r_iconst E 1 rfl dX6_append_25 ?_
  refine r_iadd E dX6_append_26 ?_
  refine r_putI E fd_X6_27 rfl PI_int ho0 (adr_lt ho0) rfl dX6_append_27 ?_
  refine GG_toph fun h5 hh5 => ?_
  have hw := hw h5 hh5
  refine r_aload_n E 6 o0 rfl dX6_append_30 ?_
  refine r_getI E fd_X6_27 rfl ho0 (adr_lt ho0) dX6_append_31 ?_
  exact hE _ _ _ _ _ _ (Nat.le_of_ble_eq_true rfl) (Nat.le_of_ble_eq_true rfl) dX6_append_34 rfl hw
set_option maxRecDepth 20000 in
theorem t_X6_endsScript_b2F {X : Ctx} (h : Hp) (o0 : Nat) (x1 : Int32) (ho0 : o0 < 48) (E : EE X cX6_endsScript RX6 2 1 24 0 0) {Q : Int32 → Prop} (hE : ENDi X cX6_endsScript .boolean (fun r u => h = u ∧ isB r ∧ Q r) NT 0 0)  (P2 : Int32 → Prop) (hP2 : ∀ (y1 : Int32), P2 y1 → GG X 0 0 NT h [some (rf X 6 o0), some (.int y1)] 2 []) (hw : wp_X6_endsScript_b2F o0 h  Q P2 x1 ) : GG X 0 0 NT h [some (rf X 6 o0), some (.int x1)] 2 [] := by
  unfold wp_X6_endsScript_b2F at hw
  refine r_iload_n E x1 rfl dX6_endsScript_2 ?_
  refine r_aload_n E 6 o0 rfl dX6_endsScript_3 ?_
  refine r_getI E fd_X6_27 rfl ho0 (adr_lt ho0) dX6_endsScript_4 ?_
  refine r_icmp_ge E 40 (by decide) dX6_endsScript_7 (fun c1 => ?_) (fun c1 => ?_)
  · have hw := ite_t hw c1
    refine r_iconst E 0 rfl dX6_endsScript_40 ?_
    exact hE _ _ _ _ _ _ (Nat.le_of_ble_eq_true rfl) (Nat.le_of_ble_eq_true rfl) dX6_endsScript_41 (isB_nar isB_0) ⟨rfl, isB_0, hw⟩
  · have hw := ite_f hw c1
    refine r_aload_n E 6 o0 rfl dX6_endsScript_10 ?_
    refine r_getS E fd_X6_11 (t := o0) (j1 := 23) rfl rfl rfl rfl ho0 (adr_lt ho0) dX6_endsScript_11 ?_
    refine r_iload_n E x1 rfl dX6_endsScript_14 ?_
    obtain ⟨i2, hw⟩ := hw
    refine r_cald E rfl rfl rfl ho0 (adr_lt ho0) i2 dX6_endsScript_15 ?_
    refine r_bipush E 115 rfl dX6_endsScript_16 ?_
    refine r_icmp_eq E 32 (by decide) dX6_endsScript_18 (fun c3 => ?_) (fun c3 => ?_)
    · have hw := ite_t hw c3
      refine r_iconst E 1 rfl dX6_endsScript_32 ?_
      exact hE _ _ _ _ _ _ (Nat.le_of_ble_eq_true rfl) (Nat.le_of_ble_eq_true rfl) dX6_endsScript_33 (isB_nar isB_1) ⟨rfl, isB_1, hw⟩
    · have hw := ite_f hw c3
      refine r_aload_n E 6 o0 rfl dX6_endsScript_21 ?_
      refine r_getS E fd_X6_11 (t := o0) (j1 := 23) rfl rfl rfl rfl ho0 (adr_lt ho0) dX6_endsScript_22 ?_
      refine r_iload_n E x1 rfl dX6_endsScript_25 ?_
      refine r_cald E rfl rfl rfl ho0 (adr_lt ho0) i2 dX6_endsScript_26 ?_
      refine r_bipush E 83 rfl dX6_endsScript_27 ?_
      refine r_icmp_ne E 34 (by decide) dX6_endsScript_29 (fun c4 => ?_) (fun c4 => ?_)
      · have hw := ite_t hw c4
        refine r_iconst E 1 rfl dX6_endsScript_32 ?_
        exact hE _ _ _ _ _ _ (Nat.le_of_ble_eq_true rfl) (Nat.le_of_ble_eq_true rfl) dX6_endsScript_33 (isB_nar isB_1) ⟨rfl, isB_1, hw⟩
      · have hw := ite_f hw c4
        obtain ⟨v5, hv5⟩ : ∃ y : Int32, y = x1 + 1 := ⟨_, rfl⟩
        have hw := hw v5 hv5
        refine r_iinc E x1 v5 [some (rf X 6 o0), some (.int v5)] rfl (by rw [hv5]; rfl) (Nat.le_of_ble_eq_true rfl) rfl dX6_endsScript_34 ?_
        refine r_goto E 2 (by decide) dX6_endsScript_37 ?_
        exact GG_weak [true, true] rfl (hP2 _ hw)
set_option maxRecDepth 20000 in
theorem t_X6_endsScript_b2 {X : Ctx} (h : Hp) (o0 : Nat) (x1 : Int32) (ho0 : o0 < 48) (E : EE X cX6_endsScript RX6 2 1 24 0 0) {Q : Int32 → Prop} (hE : ENDi X cX6_endsScript .boolean (fun r u => h = u ∧ isB r ∧ Q r) NT 0 0)  (hw : wp_X6_endsScript_b2 o0 x1 h  Q) : GG X 0 0 NT h [some (rf X 6 o0), some (.int x1)] 2 [] :=
  hw (fun y1  => GG X 0 0 NT h [some (rf X 6 o0), some (.int y1)] 2 []) (fun y1  hq => t_X6_endsScript_b2F h o0 y1 ho0 E hE  (fun y1  => GG X 0 0 NT h [some (rf X 6 o0), some (.int y1)] 2 []) (fun y1  q => q) hq)
set_option maxRecDepth 20000 in
theorem m_X6_endsScript {l : Launch} (hl : l.stackTraces = false) (G : Gq) (o0 : Nat) (ho0 : o0 < 48) (h : Hp) (Q : Int32 → Prop) (hw : wp_X6_endsScript o0 h Q) : MI l G yX6_endsScript cX6_endsScript 2 (some .boolean) rm_X6_endsScript NT NT h (fun r => [r 6 o0]) (fun r u => h = u ∧ isB r ∧ Q r) := by
  refine MI_of (L0 := (fun X => [some (rf X 6 o0), none])) hl (by decide +kernel) rfl (fun _ => Nat.le_of_ble_eq_true rfl) (fun _ => rfl) fun X hXl hXG E hE => ?_
  subst hXl; subst hXG
  unfold wp_X6_endsScript at hw
  refine r_iconst E 0 rfl dX6_endsScript_0 ?_
  refine r_istore_n E [some (rf X 6 o0), some (.int 0)] rfl (Nat.le_of_ble_eq_true rfl) rfl dX6_endsScript_1 ?_
  exact GG_weak [true, true] rfl (t_X6_endsScript_b2 h o0 0 ho0 E hE  hw)
set_option maxRecDepth 20000 in
theorem m_X7_append {l : Launch} (hl : l.stackTraces = false) (G : Gq) (o0 : Nat) (p0 : Int32) (ho0 : o0 < 4) (h : Hp) (Q : Int32 → Hp → Prop) (hw : wp_X7_append o0 p0 h Q) : MI l G yX7_append cX7_append 3 (some .int) rm_X7_append NT NT h (fun r => [r 7 o0, .int p0]) Q := by
  refine MI_of (L0 := (fun X => [some (rf X 7 o0), some (.int p0), none])) hl (by decide +kernel) rfl (fun _ => Nat.le_of_ble_eq_true rfl) (fun _ => rfl) fun X hXl hXG E hE => ?_
  subst hXl; subst hXG
  unfold wp_X7_append at hw
  refine r_aload_n E 7 o0 rfl dX7_append_0 ?_
  refine r_getS E fd_X7_11 (t := o0) (j1 := 22) rfl rfl rfl rfl ho0 (adr_lt ho0) dX7_append_1 ?_
  refine r_aload_n E 7 o0 rfl dX7_append_4 ?_
  refine r_getI E fd_X7_16 rfl ho0 (adr_lt ho0) dX7_append_5 ?_
  obtain ⟨i1, hw⟩ := hw
  obtain ⟨e2, hve2, hbe2, hw⟩ := hw
  refine r_aald E (t := e2) (j1 := 6) (ta := 5) rfl rfl (Nat.le_of_ble_eq_true rfl) rfl rfl rfl ho0 (adr_lt ho0) i1 hve2 dX7_append_8 ?_
  refine r_astore_n E [some (rf X 7 o0), some (.int p0), some (rf X 6 e2)] rfl (Nat.le_of_ble_eq_true rfl) rfl dX7_append_9 ?_
  refine r_aload_n E 6 e2 rfl dX7_append_10 ?_
  refine r_iload_n E p0 rfl dX7_append_11 ?_
  refine r_putI E fd_X7_20 rfl PI_int hbe2 (adr_lt hbe2) rfl dX7_append_12 ?_
  refine GG_toph fun h3 hh3 => ?_
  have hw := hw h3 hh3
  refine r_aload_n E 6 e2 rfl dX7_append_15 ?_
  refine r_iconst E 0 rfl dX7_append_16 ?_
  refine r_putI E fd_X7_23 rfl PI_int hbe2 (adr_lt hbe2) rfl dX7_append_17 ?_
  refine GG_toph fun h4 hh4 => ?_
  have hw := hw h4 hh4
  refine r_aload_n E 7 o0 rfl dX7_append_20 ?_
  refine r_dup E rfl dX7_append_21 ?_
  refine r_getI E fd_X7_16 rfl ho0 (adr_lt ho0) dX7_append_22 ?_
  refine r_iconst E 1 rfl dX7_append_25 ?_
  refine r_iadd E dX7_append_26 ?_
  refine r_putI E fd_X7_16 rfl PI_int ho0 (adr_lt ho0) rfl dX7_append_27 ?_
  refine GG_toph fun h5 hh5 => ?_
  have hw := hw h5 hh5
  refine r_aload_n E 7 o0 rfl dX7_append_30 ?_
  refine r_getI E fd_X7_16 rfl ho0 (adr_lt ho0) dX7_append_31 ?_
  refine r_iconst E 1 rfl dX7_append_34 ?_
  refine r_isub E dX7_append_35 ?_
  exact hE _ _ _ _ _ _ (Nat.le_of_ble_eq_true rfl) (Nat.le_of_ble_eq_true rfl) dX7_append_36 rfl hw
set_option maxRecDepth 20000 in
theorem t_X7_shift_b41F {X : Ctx} (h : Hp) (o0 : Nat) (x2 : Int32) (o3 : Nat) (x4 : Int32) (ho0 : o0 < 4) (ho3 : o3 < 48) (E : EE X cX7_shift RX7 5 1 24 0 0) {Q : Hp → Prop} (hE : ENDv X cX7_shift Q NT 0 0)  (P41 : Int32 → Hp → Prop) (hP41 : ∀ (y4 : Int32) (u : Hp), P41 y4 u → GG X 0 0 NT u [some (rf X 7 o0), none, some (.int x2), some (rf X 6 o3), some (.int y4)] 41 []) (hw : wp_X7_shift_b41F o0 x2 o3   Q P41 x4 h) : GG X 0 0 NT h [some (rf X 7 o0), none, some (.int x2), some (rf X 6 o3), some (.int x4)] 41 [] := by
  unfold wp_X7_shift_b41F at hw
  refine r_iload E x4 rfl dX7_shift_41 ?_
  refine r_iload_n E x2 rfl dX7_shift_43 ?_
  refine r_icmp_le E 69 (by decide) dX7_shift_44 (fun c1 => ?_) (fun c1 => ?_)
  · have hw := ite_t hw c1
    refine r_aload_n E 7 o0 rfl dX7_shift_69 ?_
    refine r_getS E fd_X7_11 (t := o0) (j1 := 22) rfl rfl rfl rfl ho0 (adr_lt ho0) dX7_shift_70 ?_
    refine r_iload_n E x2 rfl dX7_shift_73 ?_
    refine r_aload_n E 6 o3 rfl dX7_shift_74 ?_
    obtain ⟨i2, hw⟩ := hw
    refine r_aast E (t := o3) (j1 := 6) (ta := 5) rfl rfl (Nat.le_of_ble_eq_true rfl) rfl (Nat.le_of_ble_eq_true rfl) rfl rfl ho0 (adr_lt ho0) ho3 (adr_lt ho3) i2 (Or.inr rfl) dX7_shift_75 ?_
    refine GG_toph fun h3 hh3 => ?_
    have hw := hw h3 hh3
    exact hE _ _ _ _ _ (Nat.le_of_ble_eq_true rfl) (Nat.le_of_ble_eq_true rfl) dX7_shift_76 hw
  · have hw := ite_f hw c1
    refine r_aload_n E 7 o0 rfl dX7_shift_47 ?_
    refine r_getS E fd_X7_11 (t := o0) (j1 := 22) rfl rfl rfl rfl ho0 (adr_lt ho0) dX7_shift_48 ?_
    refine r_iload E x4 rfl dX7_shift_51 ?_
    refine r_aload_n E 7 o0 rfl dX7_shift_53 ?_
    refine r_getS E fd_X7_11 (t := o0) (j1 := 22) rfl rfl rfl rfl ho0 (adr_lt ho0) dX7_shift_54 ?_
    refine r_iload E x4 rfl dX7_shift_57 ?_
    refine r_iconst E 1 rfl dX7_shift_59 ?_
    refine r_isub E dX7_shift_60 ?_
    obtain ⟨i4, hw⟩ := hw
    obtain ⟨e5, hve5, hbe5, hw⟩ := hw
    refine r_aald E (t := e5) (j1 := 6) (ta := 5) rfl rfl (Nat.le_of_ble_eq_true rfl) rfl rfl rfl ho0 (adr_lt ho0) i4 hve5 dX7_shift_61 ?_
    obtain ⟨i6, hw⟩ := hw
    refine r_aast E (t := e5) (j1 := 6) (ta := 5) rfl rfl (Nat.le_of_ble_eq_true rfl) rfl (Nat.le_of_ble_eq_true rfl) rfl rfl ho0 (adr_lt ho0) hbe5 (adr_lt hbe5) i6 (Or.inr rfl) dX7_shift_62 ?_
    refine GG_toph fun h7 hh7 => ?_
    have hw := hw h7 hh7
    obtain ⟨v8, hv8⟩ : ∃ y : Int32, y = x4 + (-1) := ⟨_, rfl⟩
    have hw := hw v8 hv8
    refine r_iinc E x4 v8 [some (rf X 7 o0), none, some (.int x2), some (rf X 6 o3), some (.int v8)] rfl (by rw [hv8]; rfl) (Nat.le_of_ble_eq_true rfl) rfl dX7_shift_63 ?_
    refine r_goto E 41 (by decide) dX7_shift_66 ?_
    exact GG_weak [true, false, true, true, true] rfl (hP41 _ _ hw)
set_option maxRecDepth 20000 in
theorem t_X7_shift_b41 {X : Ctx} (h : Hp) (o0 : Nat) (x2 : Int32) (o3 : Nat) (x4 : Int32) (ho0 : o0 < 4) (ho3 : o3 < 48) (E : EE X cX7_shift RX7 5 1 24 0 0) {Q : Hp → Prop} (hE : ENDv X cX7_shift Q NT 0 0)  (hw : wp_X7_shift_b41 o0 x2 o3 x4 h  Q) : GG X 0 0 NT h [some (rf X 7 o0), none, some (.int x2), some (rf X 6 o3), some (.int x4)] 41 [] :=
  hw (fun y4 u => GG X 0 0 NT u [some (rf X 7 o0), none, some (.int x2), some (rf X 6 o3), some (.int y4)] 41 []) (fun y4 u hq => t_X7_shift_b41F u o0 x2 o3 y4 ho0 ho3 E hE  (fun y4 u => GG X 0 0 NT u [some (rf X 7 o0), none, some (.int x2), some (rf X 6 o3), some (.int y4)] 41 []) (fun y4 u q => q) hq)
set_option maxRecDepth 20000 in
theorem t_X7_shift_b10F {X : Ctx} (h : Hp) (o0 : Nat) (x1 : Int32) (x2 : Int32) (o3 : Nat) (x4 : Int32) (ho0 : o0 < 4) (ho3 : o3 < 48) (E : EE X cX7_shift RX7 5 1 24 0 0) {Q : Hp → Prop} (hE : ENDv X cX7_shift Q NT 0 0)  (P10 : Int32 → Hp → Prop) (hP10 : ∀ (y4 : Int32) (u : Hp), P10 y4 u → GG X 0 0 NT u [some (rf X 7 o0), some (.int x1), some (.int x2), some (rf X 6 o3), some (.int y4)] 10 []) (hw : wp_X7_shift_b10F o0 x1 x2 o3   Q P10 x4 h) : GG X 0 0 NT h [some (rf X 7 o0), some (.int x1), some (.int x2), some (rf X 6 o3), some (.int x4)] 10 [] := by
  unfold wp_X7_shift_b10F at hw
  refine r_iload E x4 rfl dX7_shift_10 ?_
  refine r_iload_n E x2 rfl dX7_shift_12 ?_
  refine r_icmp_ge E 38 (by decide) dX7_shift_13 (fun c1 => ?_) (fun c1 => ?_)
  · have hw := ite_t hw c1
    refine r_iload_n E x1 rfl dX7_shift_38 ?_
    refine r_istore E [some (rf X 7 o0), some (.int x1), some (.int x2), some (rf X 6 o3), some (.int x1)] (Nat.le_of_ble_eq_true rfl) rfl dX7_shift_39 ?_
    exact GG_weak [true, false, true, true, true] rfl (t_X7_shift_b41 h o0 x2 o3 x1 ho0 ho3 E hE  hw)
  · have hw := ite_f hw c1
    refine r_aload_n E 7 o0 rfl dX7_shift_16 ?_
    refine r_getS E fd_X7_11 (t := o0) (j1 := 22) rfl rfl rfl rfl ho0 (adr_lt ho0) dX7_shift_17 ?_
    refine r_iload E x4 rfl dX7_shift_20 ?_
    refine r_aload_n E 7 o0 rfl dX7_shift_22 ?_
    refine r_getS E fd_X7_11 (t := o0) (j1 := 22) rfl rfl rfl rfl ho0 (adr_lt ho0) dX7_shift_23 ?_
    refine r_iload E x4 rfl dX7_shift_26 ?_
    refine r_iconst E 1 rfl dX7_shift_28 ?_
    refine r_iadd E dX7_shift_29 ?_
    obtain ⟨i2, hw⟩ := hw
    obtain ⟨e3, hve3, hbe3, hw⟩ := hw
    refine r_aald E (t := e3) (j1 := 6) (ta := 5) rfl rfl (Nat.le_of_ble_eq_true rfl) rfl rfl rfl ho0 (adr_lt ho0) i2 hve3 dX7_shift_30 ?_
    obtain ⟨i4, hw⟩ := hw
    refine r_aast E (t := e3) (j1 := 6) (ta := 5) rfl rfl (Nat.le_of_ble_eq_true rfl) rfl (Nat.le_of_ble_eq_true rfl) rfl rfl ho0 (adr_lt ho0) hbe3 (adr_lt hbe3) i4 (Or.inr rfl) dX7_shift_31 ?_
    refine GG_toph fun h5 hh5 => ?_
    have hw := hw h5 hh5
    obtain ⟨v6, hv6⟩ : ∃ y : Int32, y = x4 + 1 := ⟨_, rfl⟩
    have hw := hw v6 hv6
    refine r_iinc E x4 v6 [some (rf X 7 o0), some (.int x1), some (.int x2), some (rf X 6 o3), some (.int v6)] rfl (by rw [hv6]; rfl) (Nat.le_of_ble_eq_true rfl) rfl dX7_shift_32 ?_
    refine r_goto E 10 (by decide) dX7_shift_35 ?_
    exact GG_weak [true, true, true, true, true] rfl (hP10 _ _ hw)
set_option maxRecDepth 20000 in
theorem t_X7_shift_b10 {X : Ctx} (h : Hp) (o0 : Nat) (x1 : Int32) (x2 : Int32) (o3 : Nat) (x4 : Int32) (ho0 : o0 < 4) (ho3 : o3 < 48) (E : EE X cX7_shift RX7 5 1 24 0 0) {Q : Hp → Prop} (hE : ENDv X cX7_shift Q NT 0 0)  (hw : wp_X7_shift_b10 o0 x1 x2 o3 x4 h  Q) : GG X 0 0 NT h [some (rf X 7 o0), some (.int x1), some (.int x2), some (rf X 6 o3), some (.int x4)] 10 [] :=
  hw (fun y4 u => GG X 0 0 NT u [some (rf X 7 o0), some (.int x1), some (.int x2), some (rf X 6 o3), some (.int y4)] 10 []) (fun y4 u hq => t_X7_shift_b10F u o0 x1 x2 o3 y4 ho0 ho3 E hE  (fun y4 u => GG X 0 0 NT u [some (rf X 7 o0), some (.int x1), some (.int x2), some (rf X 6 o3), some (.int y4)] 10 []) (fun y4 u q => q) hq)
set_option maxRecDepth 20000 in
theorem m_X7_shift {l : Launch} (hl : l.stackTraces = false) (G : Gq) (o0 : Nat) (p0 : Int32) (p1 : Int32) (ho0 : o0 < 4) (h : Hp) (Q : Hp → Prop) (hw : wp_X7_shift o0 p0 p1 h Q) : MV l G yX7_shift cX7_shift 5 none rm_X7_shift NT NT h (fun r => [r 7 o0, .int p0, .int p1]) Q := by
  refine MV_of (L0 := (fun X => [some (rf X 7 o0), some (.int p0), some (.int p1), none, none])) hl (by decide +kernel) rfl (fun _ => Nat.le_of_ble_eq_true rfl) (fun _ => rfl) fun X hXl hXG E hE => ?_
  subst hXl; subst hXG
  unfold wp_X7_shift at hw
  refine r_aload_n E 7 o0 rfl dX7_shift_0 ?_
  refine r_getS E fd_X7_11 (t := o0) (j1 := 22) rfl rfl rfl rfl ho0 (adr_lt ho0) dX7_shift_1 ?_
  refine r_iload_n E p0 rfl dX7_shift_4 ?_
  obtain ⟨i1, hw⟩ := hw
  obtain ⟨e2, hve2, hbe2, hw⟩ := hw
  refine r_aald E (t := e2) (j1 := 6) (ta := 5) rfl rfl (Nat.le_of_ble_eq_true rfl) rfl rfl rfl ho0 (adr_lt ho0) i1 hve2 dX7_shift_5 ?_
  refine r_astore_n E [some (rf X 7 o0), some (.int p0), some (.int p1), some (rf X 6 e2), none] rfl (Nat.le_of_ble_eq_true rfl) rfl dX7_shift_6 ?_
  refine r_iload_n E p0 rfl dX7_shift_7 ?_
  refine r_istore E [some (rf X 7 o0), some (.int p0), some (.int p1), some (rf X 6 e2), some (.int p0)] (Nat.le_of_ble_eq_true rfl) rfl dX7_shift_8 ?_
  exact GG_weak [true, true, true, true, true] rfl (t_X7_shift_b10 h o0 p0 p1 e2 p0 ho0 hbe2 E hE  hw)
set_option maxRecDepth 20000 in
theorem m_X9_allows {l : Launch} (hl : l.stackTraces = false) (G : Gq) (p0 : Int32) (p1 : Int32)  (h : Hp) (Q : Int32 → Prop) (hw : wp_X9_allows p0 p1 h Q) : MI l G yX9_allows cX9_allows 2 (some .boolean) rm_X9_allows NT NT h (fun r => [.int p0, .int p1]) (fun r u => h = u ∧ isB r ∧ Q r) := by
  refine MI_of (L0 := (fun X => [some (.int p0), some (.int p1)])) hl (by decide +kernel) rfl (fun _ => Nat.le_of_ble_eq_true rfl) (fun _ => rfl) fun X hXl hXG E hE => ?_
  subst hXl; subst hXG
  unfold wp_X9_allows at hw
  refine r_iload_n E p0 rfl dX9_allows_0 ?_
  rcases Decidable.em (p0 = 33) with c1 | c1
  · have hw := ite_t hw c1
    refine r_lookup E (off := 107) 108 dX9_allows_1 (by decide) (by rw [c1]; rfl) (by decide) ?_
    refine r_iconst E 1 rfl dX9_allows_108 ?_
    exact hE _ _ _ _ _ _ (Nat.le_of_ble_eq_true rfl) (Nat.le_of_ble_eq_true rfl) dX9_allows_109 (isB_nar isB_1) ⟨rfl, isB_1, hw⟩
  · have hw := ite_f hw c1
    rcases Decidable.em (p0 = 38) with c2 | c2
    · have hw := ite_t hw c2
      refine r_lookup E (off := 107) 108 dX9_allows_1 (by decide) (by rw [c2]; rfl) (by decide) ?_
      refine r_iconst E 1 rfl dX9_allows_108 ?_
      exact hE _ _ _ _ _ _ (Nat.le_of_ble_eq_true rfl) (Nat.le_of_ble_eq_true rfl) dX9_allows_109 (isB_nar isB_1) ⟨rfl, isB_1, hw⟩
    · have hw := ite_f hw c2
      rcases Decidable.em (p0 = 97) with c3 | c3
      · have hw := ite_t hw c3
        refine r_lookup E (off := 107) 108 dX9_allows_1 (by decide) (by rw [c3]; rfl) (by decide) ?_
        refine r_iconst E 1 rfl dX9_allows_108 ?_
        exact hE _ _ _ _ _ _ (Nat.le_of_ble_eq_true rfl) (Nat.le_of_ble_eq_true rfl) dX9_allows_109 (isB_nar isB_1) ⟨rfl, isB_1, hw⟩
      · have hw := ite_f hw c3
        rcases Decidable.em (p0 = 98) with c4 | c4
        · have hw := ite_t hw c4
          refine r_lookup E (off := 116) 117 dX9_allows_1 (by decide) (by rw [c4]; rfl) (by decide) ?_
          refine r_iload_n E p1 rfl dX9_allows_117 ?_
          refine r_bipush E 16 rfl dX9_allows_118 ?_
          refine r_callSNI E (m_X10_isBelow (EE_st E) (GX X) p1 16 h _ hw) lk_X9_22 (RM_mk (Nat.le_of_ble_eq_true rfl) (Nat.le_of_ble_eq_true rfl)) rfl rfl rfl rfl (Nat.le_of_ble_eq_true rfl) rfl rfl (Nat.le_of_ble_eq_true rfl) (Nat.le_of_ble_eq_true rfl) dX9_allows_120 (fun r5 u9 hw => ?_)
          obtain ⟨rfl, zr5, hw⟩ := hw
          exact hE _ _ _ _ _ _ (Nat.le_of_ble_eq_true rfl) (Nat.le_of_ble_eq_true rfl) dX9_allows_123 (isB_nar zr5) ⟨rfl, zr5, hw⟩
        · have hw := ite_f hw c4
          rcases Decidable.em (p0 = 100) with c6 | c6
          · have hw := ite_t hw c6
            refine r_lookup E (off := 132) 133 dX9_allows_1 (by decide) (by rw [c6]; rfl) (by decide) ?_
            refine r_iload_n E p1 rfl dX9_allows_133 ?_
            refine r_bipush E 7 rfl dX9_allows_134 ?_
            refine r_callSNI E (m_X10_isBelow (EE_st E) (GX X) p1 7 h _ hw) lk_X9_22 (RM_mk (Nat.le_of_ble_eq_true rfl) (Nat.le_of_ble_eq_true rfl)) rfl rfl rfl rfl (Nat.le_of_ble_eq_true rfl) rfl rfl (Nat.le_of_ble_eq_true rfl) (Nat.le_of_ble_eq_true rfl) dX9_allows_136 (fun r7 u9 hw => ?_)
            obtain ⟨rfl, zr7, hw⟩ := hw
            exact hE _ _ _ _ _ _ (Nat.le_of_ble_eq_true rfl) (Nat.le_of_ble_eq_true rfl) dX9_allows_139 (isB_nar zr7) ⟨rfl, zr7, hw⟩
          · have hw := ite_f hw c6
            rcases Decidable.em (p0 = 102) with c8 | c8
            · have hw := ite_t hw c8
              refine r_lookup E (off := 109) 110 dX9_allows_1 (by decide) (by rw [c8]; rfl) (by decide) ?_
              refine r_iload_n E p1 rfl dX9_allows_110 ?_
              refine r_bipush E 10 rfl dX9_allows_111 ?_
              refine r_callSNI E (m_X10_isBelow (EE_st E) (GX X) p1 10 h _ hw) lk_X9_22 (RM_mk (Nat.le_of_ble_eq_true rfl) (Nat.le_of_ble_eq_true rfl)) rfl rfl rfl rfl (Nat.le_of_ble_eq_true rfl) rfl rfl (Nat.le_of_ble_eq_true rfl) (Nat.le_of_ble_eq_true rfl) dX9_allows_113 (fun r9 u9 hw => ?_)
              obtain ⟨rfl, zr9, hw⟩ := hw
              exact hE _ _ _ _ _ _ (Nat.le_of_ble_eq_true rfl) (Nat.le_of_ble_eq_true rfl) dX9_allows_116 (isB_nar zr9) ⟨rfl, zr9, hw⟩
            · have hw := ite_f hw c8
              rcases Decidable.em (p0 = 107) with c10 | c10
              · have hw := ite_t hw c10
                refine r_lookup E (off := 147) 148 dX9_allows_1 (by decide) (by rw [c10]; rfl) (by decide) ?_
                refine r_iload_n E p1 rfl dX9_allows_148 ?_
                refine r_bipush E 8 rfl dX9_allows_149 ?_
                refine r_callSNI E (m_X10_isBelow (EE_st E) (GX X) p1 8 h _ hw) lk_X9_22 (RM_mk (Nat.le_of_ble_eq_true rfl) (Nat.le_of_ble_eq_true rfl)) rfl rfl rfl rfl (Nat.le_of_ble_eq_true rfl) rfl rfl (Nat.le_of_ble_eq_true rfl) (Nat.le_of_ble_eq_true rfl) dX9_allows_151 (fun r11 u9 hw => ?_)
                obtain ⟨rfl, zr11, hw⟩ := hw
                exact hE _ _ _ _ _ _ (Nat.le_of_ble_eq_true rfl) (Nat.le_of_ble_eq_true rfl) dX9_allows_154 (isB_nar zr11) ⟨rfl, zr11, hw⟩
              · have hw := ite_f hw c10
                rcases Decidable.em (p0 = 110) with c12 | c12
                · have hw := ite_t hw c12
                  refine r_lookup E (off := 139) 140 dX9_allows_1 (by decide) (by rw [c12]; rfl) (by decide) ?_
                  refine r_iload_n E p1 rfl dX9_allows_140 ?_
                  refine r_iconst E 1 rfl dX9_allows_141 ?_
                  refine r_bipush E 10 rfl dX9_allows_142 ?_
                  refine r_callSNI E (m_X10_lies (EE_st E) (GX X) p1 1 10 h _ hw) lk_X9_26 (RM_mk (Nat.le_of_ble_eq_true rfl) (Nat.le_of_ble_eq_true rfl)) rfl rfl rfl rfl (Nat.le_of_ble_eq_true rfl) rfl rfl (Nat.le_of_ble_eq_true rfl) (Nat.le_of_ble_eq_true rfl) dX9_allows_144 (fun r13 u9 hw => ?_)
                  obtain ⟨rfl, zr13, hw⟩ := hw
                  exact hE _ _ _ _ _ _ (Nat.le_of_ble_eq_true rfl) (Nat.le_of_ble_eq_true rfl) dX9_allows_147 (isB_nar zr13) ⟨rfl, zr13, hw⟩
                · have hw := ite_f hw c12
                  rcases Decidable.em (p0 = 115) with c14 | c14
                  · have hw := ite_t hw c14
                    refine r_lookup E (off := 116) 117 dX9_allows_1 (by decide) (by rw [c14]; rfl) (by decide) ?_
                    refine r_iload_n E p1 rfl dX9_allows_117 ?_
                    refine r_bipush E 16 rfl dX9_allows_118 ?_
                    refine r_callSNI E (m_X10_isBelow (EE_st E) (GX X) p1 16 h _ hw) lk_X9_22 (RM_mk (Nat.le_of_ble_eq_true rfl) (Nat.le_of_ble_eq_true rfl)) rfl rfl rfl rfl (Nat.le_of_ble_eq_true rfl) rfl rfl (Nat.le_of_ble_eq_true rfl) (Nat.le_of_ble_eq_true rfl) dX9_allows_120 (fun r15 u9 hw => ?_)
                    obtain ⟨rfl, zr15, hw⟩ := hw
                    exact hE _ _ _ _ _ _ (Nat.le_of_ble_eq_true rfl) (Nat.le_of_ble_eq_true rfl) dX9_allows_123 (isB_nar zr15) ⟨rfl, zr15, hw⟩
                  · have hw := ite_f hw c14
                    rcases Decidable.em (p0 = 116) with c16 | c16
                    · have hw := ite_t hw c16
                      refine r_lookup E (off := 109) 110 dX9_allows_1 (by decide) (by rw [c16]; rfl) (by decide) ?_
                      refine r_iload_n E p1 rfl dX9_allows_110 ?_
                      refine r_bipush E 10 rfl dX9_allows_111 ?_
                      refine r_callSNI E (m_X10_isBelow (EE_st E) (GX X) p1 10 h _ hw) lk_X9_22 (RM_mk (Nat.le_of_ble_eq_true rfl) (Nat.le_of_ble_eq_true rfl)) rfl rfl rfl rfl (Nat.le_of_ble_eq_true rfl) rfl rfl (Nat.le_of_ble_eq_true rfl) (Nat.le_of_ble_eq_true rfl) dX9_allows_113 (fun r17 u9 hw => ?_)
                      obtain ⟨rfl, zr17, hw⟩ := hw
                      exact hE _ _ _ _ _ _ (Nat.le_of_ble_eq_true rfl) (Nat.le_of_ble_eq_true rfl) dX9_allows_116 (isB_nar zr17) ⟨rfl, zr17, hw⟩
                    · have hw := ite_f hw c16
                      rcases Decidable.em (p0 = 122) with c18 | c18
                      · have hw := ite_t hw c18
                        refine r_lookup E (off := 123) 124 dX9_allows_1 (by decide) (by rw [c18]; rfl) (by decide) ?_
                        refine r_iload_n E p1 rfl dX9_allows_124 ?_
                        refine r_iconst E 0 rfl dX9_allows_125 ?_
                        refine r_sipush E 999 rfl dX9_allows_126 ?_
                        refine r_callSNI E (m_X10_lies (EE_st E) (GX X) p1 0 999 h _ hw) lk_X9_26 (RM_mk (Nat.le_of_ble_eq_true rfl) (Nat.le_of_ble_eq_true rfl)) rfl rfl rfl rfl (Nat.le_of_ble_eq_true rfl) rfl rfl (Nat.le_of_ble_eq_true rfl) (Nat.le_of_ble_eq_true rfl) dX9_allows_129 (fun r19 u9 hw => ?_)
                        obtain ⟨rfl, zr19, hw⟩ := hw
                        exact hE _ _ _ _ _ _ (Nat.le_of_ble_eq_true rfl) (Nat.le_of_ble_eq_true rfl) dX9_allows_132 (isB_nar zr19) ⟨rfl, zr19, hw⟩
                      · have hw := ite_f hw c18
                        rcases Decidable.em (p0 = 124) with c20 | c20
                        · have hw := ite_t hw c20
                          refine r_lookup E (off := 107) 108 dX9_allows_1 (by decide) (by rw [c20]; rfl) (by decide) ?_
                          refine r_iconst E 1 rfl dX9_allows_108 ?_
                          exact hE _ _ _ _ _ _ (Nat.le_of_ble_eq_true rfl) (Nat.le_of_ble_eq_true rfl) dX9_allows_109 (isB_nar isB_1) ⟨rfl, isB_1, hw⟩
                        · have hw := ite_f hw c20
                          refine r_lookup E (off := 154) 155 dX9_allows_1 (by decide) (by show Op.lookupswitch.offset [(33, 107), (38, 107), (97, 107), (98, 116), (100, 132), (102, 109), (107, 147), (110, 139), (115, 116), (116, 109), (122, 123), (124, 107)] 154 _ = 154; rw [lv_osw (a := 33) c1 rfl, lv_osw (a := 38) c2 rfl, lv_osw (a := 97) c3 rfl, lv_osw (a := 98) c4 rfl, lv_osw (a := 100) c6 rfl, lv_osw (a := 102) c8 rfl, lv_osw (a := 107) c10 rfl, lv_osw (a := 110) c12 rfl, lv_osw (a := 115) c14 rfl, lv_osw (a := 116) c16 rfl, lv_osw (a := 122) c18 rfl, lv_osw (a := 124) c20 rfl]; rfl) (by decide) ?_
                          refine r_iconst E 0 rfl dX9_allows_155 ?_
                          exact hE _ _ _ _ _ _ (Nat.le_of_ble_eq_true rfl) (Nat.le_of_ble_eq_true rfl) dX9_allows_156 (isB_nar isB_0) ⟨rfl, isB_0, hw⟩
set_option maxRecDepth 20000 in
theorem t_X10_mail_b51 {X : Ctx} (h : Hp)   (E : EE X cX10_mail RX10 6 6 120 1 6) {Q : Int32 → Hp → Prop} {Z : String → Hp → Prop} (hE : ENDi X cX10_mail .int Q NT 1 6) (hX : QX X Z 1 6 NT)  (hw : wp_X10_mail_b51  h  Q Z) : GG X 0 0 NT h [none, none, none, none, none, none] 51 [] := by
  unfold wp_X10_mail_b51 at hw
  exact r_throw E hX rfl rfl (names := ["java/lang/RuntimeException", "java/lang/Exception"]) (by decide) (by decide) cl_X10_76 th_IllegalArgumentException.2.2.2 (text := "a number of the mail is out of range") (by decide) th_IllegalArgumentException.1 th_IllegalArgumentException.2.1 th_IllegalArgumentException.2.2.1 rfl hw dX10_mail_51 dX10_mail_54 dX10_mail_55 dX10_mail_57 dX10_mail_60 (Nat.le_of_ble_eq_true rfl) (Nat.le_of_ble_eq_true rfl) (Nat.le_of_ble_eq_true rfl) (Nat.le_of_ble_eq_true rfl) (Nat.le_of_ble_eq_true rfl) (Nat.le_of_ble_eq_true rfl)
set_option maxRecDepth 20000 in
theorem m_X10_mail {l : Launch} (hl : l.stackTraces = false) (G : Gq) (p0 : Int32) (p1 : Int32) (p2 : Int32) (p3 : Int32) (p4 : Int32)  (h : Hp) (Q : Int32 → Hp → Prop) (Z : String → Hp → Prop) (hw : wp_X10_mail p0 p1 p2 p3 p4 h Q Z) : XI l G yX10_mail cX10_mail 6 (some .int) rm_X10_mail NT NT h (fun r => [r 10 0, .int p0, .int p1, .int p2, .int p3, .int p4]) Q Z := by
  refine XI_of (L0 := (fun X => [some (rf X 10 0), some (.int p0), some (.int p1), some (.int p2), some (.int p3), some (.int p4)])) hl (by decide +kernel) rfl (fun _ => Nat.le_of_ble_eq_true rfl) (fun _ => rfl) fun X hXl hXG E hE hX => ?_
  subst hXl; subst hXG
  unfold wp_X10_mail at hw
  refine r_iload_n E p0 rfl dX10_mail_0 ?_
  refine r_bipush E 10 rfl dX10_mail_1 ?_
  refine r_callSI E (m_X10_isBelow (EE_st E) (GX X) p0 10 h _ hw) lk_X10_67 (RM_mk (Nat.le_of_ble_eq_true rfl) (Nat.le_of_ble_eq_true rfl)) rfl rfl rfl rfl (Nat.le_of_ble_eq_true rfl) rfl rfl (Nat.le_of_ble_eq_true rfl) (Nat.le_of_ble_eq_true rfl) dX10_mail_3 (fun r1 u9 hw => ?_)
  obtain ⟨rfl, zr1, hw⟩ := hw
  refine r_if_eq E 51 (by decide) dX10_mail_6 (fun c2 => ?_) (fun c2 => ?_)
  · have hw := ite_t hw c2
    exact GG_weak [false, false, false, false, false, false] rfl (t_X10_mail_b51 h  E hE hX  hw)
  · have hw := ite_f hw c2
    refine r_iload_n E p1 rfl dX10_mail_9 ?_
    refine r_iconst E 1 rfl dX10_mail_10 ?_
    refine r_sipush E 1023 rfl dX10_mail_11 ?_
    refine r_callSI E (m_X10_lies (EE_st E) (GX X) p1 1 1023 h _ hw) lk_X10_71 (RM_mk (Nat.le_of_ble_eq_true rfl) (Nat.le_of_ble_eq_true rfl)) rfl rfl rfl rfl (Nat.le_of_ble_eq_true rfl) rfl rfl (Nat.le_of_ble_eq_true rfl) (Nat.le_of_ble_eq_true rfl) dX10_mail_14 (fun r3 u9 hw => ?_)
    obtain ⟨rfl, zr3, hw⟩ := hw
    refine r_if_eq E 51 (by decide) dX10_mail_17 (fun c4 => ?_) (fun c4 => ?_)
    · have hw := ite_t hw c4
      exact GG_weak [false, false, false, false, false, false] rfl (t_X10_mail_b51 h  E hE hX  hw)
    · have hw := ite_f hw c4
      refine r_iload_n E p2 rfl dX10_mail_20 ?_
      refine r_ldc E 65536 kc_X10_75 dX10_mail_21 ?_
      refine r_callSI E (m_X10_isBelow (EE_st E) (GX X) p2 65536 h _ hw) lk_X10_67 (RM_mk (Nat.le_of_ble_eq_true rfl) (Nat.le_of_ble_eq_true rfl)) rfl rfl rfl rfl (Nat.le_of_ble_eq_true rfl) rfl rfl (Nat.le_of_ble_eq_true rfl) (Nat.le_of_ble_eq_true rfl) dX10_mail_23 (fun r5 u9 hw => ?_)
      obtain ⟨rfl, zr5, hw⟩ := hw
      refine r_if_eq E 51 (by decide) dX10_mail_26 (fun c6 => ?_) (fun c6 => ?_)
      · have hw := ite_t hw c6
        exact GG_weak [false, false, false, false, false, false] rfl (t_X10_mail_b51 h  E hE hX  hw)
      · have hw := ite_f hw c6
        refine r_iload E p3 rfl dX10_mail_29 ?_
        refine r_ldc E 65536 kc_X10_75 dX10_mail_31 ?_
        refine r_callSI E (m_X10_isBelow (EE_st E) (GX X) p3 65536 h _ hw) lk_X10_67 (RM_mk (Nat.le_of_ble_eq_true rfl) (Nat.le_of_ble_eq_true rfl)) rfl rfl rfl rfl (Nat.le_of_ble_eq_true rfl) rfl rfl (Nat.le_of_ble_eq_true rfl) (Nat.le_of_ble_eq_true rfl) dX10_mail_33 (fun r7 u9 hw => ?_)
        obtain ⟨rfl, zr7, hw⟩ := hw
        refine r_if_eq E 51 (by decide) dX10_mail_36 (fun c8 => ?_) (fun c8 => ?_)
        · have hw := ite_t hw c8
          exact GG_weak [false, false, false, false, false, false] rfl (t_X10_mail_b51 h  E hE hX  hw)
        · have hw := ite_f hw c8
          refine r_iload E p4 rfl dX10_mail_39 ?_
          refine r_iconst E 1 rfl dX10_mail_41 ?_
          refine r_sipush E 999 rfl dX10_mail_42 ?_
          refine r_callSI E (m_X10_lies (EE_st E) (GX X) p4 1 999 h _ hw) lk_X10_71 (RM_mk (Nat.le_of_ble_eq_true rfl) (Nat.le_of_ble_eq_true rfl)) rfl rfl rfl rfl (Nat.le_of_ble_eq_true rfl) rfl rfl (Nat.le_of_ble_eq_true rfl) (Nat.le_of_ble_eq_true rfl) dX10_mail_45 (fun r9 u9 hw => ?_)
          obtain ⟨rfl, zr9, hw⟩ := hw
          refine r_if_ne E 61 (by decide) dX10_mail_48 (fun c10 => ?_) (fun c10 => ?_)
          · have hw := ite_t hw c10
            exact GG_weak [false, false, false, false, false, false] rfl (t_X10_mail_b51 h  E hE hX  hw)
          · have hw := ite_f hw c10
            refine r_aload_n E 10 0 rfl dX10_mail_61 ?_
            refine r_getS E fd_X10_19 (t := 0) (j1 := 3) rfl rfl rfl rfl (Nat.le_of_ble_eq_true rfl) (adr_lt (Nat.le_of_ble_eq_true rfl)) dX10_mail_62 ?_
            refine r_getI E fd_X10_83 rfl (Nat.le_of_ble_eq_true rfl) (adr_lt (Nat.le_of_ble_eq_true rfl)) dX10_mail_65 ?_
            refine r_bipush E 40 rfl dX10_mail_68 ?_
            refine r_icmp_lt E 83 (by decide) dX10_mail_70 (fun c11 => ?_) (fun c11 => ?_)
            · have hw := ite_t hw c11
              refine r_aload_n E 10 0 rfl dX10_mail_83 ?_
              refine r_getS E fd_X10_19 (t := 0) (j1 := 3) rfl rfl rfl rfl (Nat.le_of_ble_eq_true rfl) (adr_lt (Nat.le_of_ble_eq_true rfl)) dX10_mail_84 ?_
              refine r_iload_n E p0 rfl dX10_mail_87 ?_
              refine r_iload_n E p1 rfl dX10_mail_88 ?_
              refine r_iload_n E p2 rfl dX10_mail_89 ?_
              refine r_iload E p3 rfl dX10_mail_90 ?_
              refine r_iload E p4 rfl dX10_mail_92 ?_
              refine r_callVI E (m_X3_takeIn (EE_st E) (GX X) p0 p1 p2 p3 p4 h _ hw) lk_X10_92 (RM_mk (Nat.le_of_ble_eq_true rfl) (Nat.le_of_ble_eq_true rfl)) rfl rfl rfl rfl (Nat.le_of_ble_eq_true rfl) (adr_lt (Nat.le_of_ble_eq_true rfl)) (Nat.le_of_ble_eq_true rfl) rfl rfl (Nat.le_of_ble_eq_true rfl) (Nat.le_of_ble_eq_true rfl) dX10_mail_94 (fun r12 h13 hw => ?_)
              exact hE _ _ _ _ _ _ (Nat.le_of_ble_eq_true rfl) (Nat.le_of_ble_eq_true rfl) dX10_mail_97 rfl hw
            · have hw := ite_f hw c11
              exact r_throw E hX rfl rfl (names := ["java/lang/RuntimeException", "java/lang/Exception"]) (by decide) (by decide) cl_X10_87 th_IllegalStateException.2.2.2 (text := "there are 40 mails") (by decide) th_IllegalStateException.1 th_IllegalStateException.2.1 th_IllegalStateException.2.2.1 rfl hw dX10_mail_73 dX10_mail_76 dX10_mail_77 dX10_mail_79 dX10_mail_82 (Nat.le_of_ble_eq_true rfl) (Nat.le_of_ble_eq_true rfl) (Nat.le_of_ble_eq_true rfl) (Nat.le_of_ble_eq_true rfl) (Nat.le_of_ble_eq_true rfl) (Nat.le_of_ble_eq_true rfl)
set_option maxRecDepth 20000 in
theorem m_X10_pass {l : Launch} (hl : l.stackTraces = false) (G : Gq) (p0 : Int32)  (h : Hp) (Q : Int32 → Hp → Prop) (Z : String → Hp → Prop) (hw : wp_X10_pass p0 h Q Z) : XI l G yX10_pass cX10_pass 2 (some .int) rm_X10_pass NT NT h (fun r => [r 10 0, .int p0]) Q Z := by
  refine XI_of (L0 := (fun X => [some (rf X 10 0), some (.int p0)])) hl (by decide +kernel) rfl (fun _ => Nat.le_of_ble_eq_true rfl) (fun _ => rfl) fun X hXl hXG E hE hX => ?_
  subst hXl; subst hXG
  unfold wp_X10_pass at hw
  refine r_iload_n E p0 rfl dX10_pass_0 ?_
  refine r_iconst E 1 rfl dX10_pass_1 ?_
  refine r_bipush E 100 rfl dX10_pass_2 ?_
  refine r_callSI E (m_X10_lies (EE_st E) (GX X) p0 1 100 h _ hw) lk_X10_71 (RM_mk (Nat.le_of_ble_eq_true rfl) (Nat.le_of_ble_eq_true rfl)) rfl rfl rfl rfl (Nat.le_of_ble_eq_true rfl) rfl rfl (Nat.le_of_ble_eq_true rfl) (Nat.le_of_ble_eq_true rfl) dX10_pass_4 (fun r1 u9 hw => ?_)
  obtain ⟨rfl, zr1, hw⟩ := hw
  refine r_if_ne E 20 (by decide) dX10_pass_7 (fun c2 => ?_) (fun c2 => ?_)
  · have hw := ite_t hw c2
    exact r_throw E hX rfl rfl (names := ["java/lang/RuntimeException", "java/lang/Exception"]) (by decide) (by decide) cl_X10_76 th_IllegalArgumentException.2.2.2 (text := "the number of days is out of range") (by decide) th_IllegalArgumentException.1 th_IllegalArgumentException.2.1 th_IllegalArgumentException.2.2.1 rfl hw dX10_pass_10 dX10_pass_13 dX10_pass_14 dX10_pass_16 dX10_pass_19 (Nat.le_of_ble_eq_true rfl) (Nat.le_of_ble_eq_true rfl) (Nat.le_of_ble_eq_true rfl) (Nat.le_of_ble_eq_true rfl) (Nat.le_of_ble_eq_true rfl) (Nat.le_of_ble_eq_true rfl)
  · have hw := ite_f hw c2
    refine r_aload_n E 10 0 rfl dX10_pass_20 ?_
    refine r_getS E fd_X10_19 (t := 0) (j1 := 3) rfl rfl rfl rfl (Nat.le_of_ble_eq_true rfl) (adr_lt (Nat.le_of_ble_eq_true rfl)) dX10_pass_21 ?_
    refine r_dup E rfl dX10_pass_24 ?_
    refine r_getI E fd_X10_98 rfl (Nat.le_of_ble_eq_true rfl) (adr_lt (Nat.le_of_ble_eq_true rfl)) dX10_pass_25 ?_
    refine r_iload_n E p0 rfl dX10_pass_28 ?_
    refine r_iadd E dX10_pass_29 ?_
    refine r_putI E fd_X10_98 rfl PI_int (Nat.le_of_ble_eq_true rfl) (adr_lt (Nat.le_of_ble_eq_true rfl)) rfl dX10_pass_30 ?_
    refine GG_toph fun h3 hh3 => ?_
    have hw := hw h3 hh3
    refine r_aload_n E 10 0 rfl dX10_pass_33 ?_
    refine r_getS E fd_X10_19 (t := 0) (j1 := 3) rfl rfl rfl rfl (Nat.le_of_ble_eq_true rfl) (adr_lt (Nat.le_of_ble_eq_true rfl)) dX10_pass_34 ?_
    refine r_getI E fd_X10_98 rfl (Nat.le_of_ble_eq_true rfl) (adr_lt (Nat.le_of_ble_eq_true rfl)) dX10_pass_37 ?_
    exact hE _ _ _ _ _ _ (Nat.le_of_ble_eq_true rfl) (Nat.le_of_ble_eq_true rfl) dX10_pass_40 rfl hw
set_option maxRecDepth 20000 in
theorem m_X10_setQuota {l : Launch} (hl : l.stackTraces = false) (G : Gq) (p0 : Int32) (p1 : Int32)  (h : Hp) (Q : Int32 → Hp → Prop) (Z : String → Hp → Prop) (hw : wp_X10_setQuota p0 p1 h Q Z) : XI l G yX10_setQuota cX10_setQuota 4 (some .int) rm_X10_setQuota NT NT h (fun r => [r 10 0, .int p0, .int p1]) Q Z := by
  refine XI_of (L0 := (fun X => [some (rf X 10 0), some (.int p0), some (.int p1), none])) hl (by decide +kernel) rfl (fun _ => Nat.le_of_ble_eq_true rfl) (fun _ => rfl) fun X hXl hXG E hE hX => ?_
  subst hXl; subst hXG
  unfold wp_X10_setQuota at hw
  refine r_iload_n E p0 rfl dX10_setQuota_0 ?_
  refine r_iconst E 1 rfl dX10_setQuota_1 ?_
  refine r_bipush E 7 rfl dX10_setQuota_2 ?_
  refine r_callSI E (m_X10_lies (EE_st E) (GX X) p0 1 7 h _ hw) lk_X10_71 (RM_mk (Nat.le_of_ble_eq_true rfl) (Nat.le_of_ble_eq_true rfl)) rfl rfl rfl rfl (Nat.le_of_ble_eq_true rfl) rfl rfl (Nat.le_of_ble_eq_true rfl) (Nat.le_of_ble_eq_true rfl) dX10_setQuota_4 (fun r1 u9 hw => ?_)
  obtain ⟨rfl, zr1, hw⟩ := hw
  refine r_if_ne E 20 (by decide) dX10_setQuota_7 (fun c2 => ?_) (fun c2 => ?_)
  · have hw := ite_t hw c2
    exact r_throw E hX rfl rfl (names := ["java/lang/RuntimeException", "java/lang/Exception"]) (by decide) (by decide) cl_X10_101 th_IndexOutOfBoundsException.2.2.2 (text := "no box with a quota") (by decide) th_IndexOutOfBoundsException.1 th_IndexOutOfBoundsException.2.1 th_IndexOutOfBoundsException.2.2.1 rfl hw dX10_setQuota_10 dX10_setQuota_13 dX10_setQuota_14 dX10_setQuota_16 dX10_setQuota_19 (Nat.le_of_ble_eq_true rfl) (Nat.le_of_ble_eq_true rfl) (Nat.le_of_ble_eq_true rfl) (Nat.le_of_ble_eq_true rfl) (Nat.le_of_ble_eq_true rfl) (Nat.le_of_ble_eq_true rfl)
  · have hw := ite_f hw c2
    refine r_iload_n E p1 rfl dX10_setQuota_20 ?_
    refine r_iconst E 0 rfl dX10_setQuota_21 ?_
    refine r_sipush E 9999 rfl dX10_setQuota_22 ?_
    refine r_callSI E (m_X10_lies (EE_st E) (GX X) p1 0 9999 h _ hw) lk_X10_71 (RM_mk (Nat.le_of_ble_eq_true rfl) (Nat.le_of_ble_eq_true rfl)) rfl rfl rfl rfl (Nat.le_of_ble_eq_true rfl) rfl rfl (Nat.le_of_ble_eq_true rfl) (Nat.le_of_ble_eq_true rfl) dX10_setQuota_25 (fun r3 u9 hw => ?_)
    obtain ⟨rfl, zr3, hw⟩ := hw
    refine r_if_ne E 41 (by decide) dX10_setQuota_28 (fun c4 => ?_) (fun c4 => ?_)
    · have hw := ite_t hw c4
      exact r_throw E hX rfl rfl (names := ["java/lang/RuntimeException", "java/lang/Exception"]) (by decide) (by decide) cl_X10_76 th_IllegalArgumentException.2.2.2 (text := "the quota is out of range") (by decide) th_IllegalArgumentException.1 th_IllegalArgumentException.2.1 th_IllegalArgumentException.2.2.1 rfl hw dX10_setQuota_31 dX10_setQuota_34 dX10_setQuota_35 dX10_setQuota_37 dX10_setQuota_40 (Nat.le_of_ble_eq_true rfl) (Nat.le_of_ble_eq_true rfl) (Nat.le_of_ble_eq_true rfl) (Nat.le_of_ble_eq_true rfl) (Nat.le_of_ble_eq_true rfl) (Nat.le_of_ble_eq_true rfl)
    · have hw := ite_f hw c4
      refine r_aload_n E 10 0 rfl dX10_setQuota_41 ?_
      refine r_getS E fd_X10_19 (t := 0) (j1 := 3) rfl rfl rfl rfl (Nat.le_of_ble_eq_true rfl) (adr_lt (Nat.le_of_ble_eq_true rfl)) dX10_setQuota_42 ?_
      refine r_getS E fd_X10_108 (t := 0) (j1 := 16) rfl rfl rfl rfl (Nat.le_of_ble_eq_true rfl) (adr_lt (Nat.le_of_ble_eq_true rfl)) dX10_setQuota_45 ?_
      refine r_iload_n E p0 rfl dX10_setQuota_48 ?_
      obtain ⟨i5, hw⟩ := hw
      refine r_iald E rfl rfl rfl (Nat.le_of_ble_eq_true rfl) (adr_lt (Nat.le_of_ble_eq_true rfl)) i5 dX10_setQuota_49 ?_
      refine GG_topI fun v6 hv6 => ?_
      have hw := hw v6 hv6
      refine r_istore_n E [some (rf X 10 0), some (.int p0), some (.int p1), some (.int v6)] rfl (Nat.le_of_ble_eq_true rfl) rfl dX10_setQuota_50 ?_
      refine r_aload_n E 10 0 rfl dX10_setQuota_51 ?_
      refine r_getS E fd_X10_19 (t := 0) (j1 := 3) rfl rfl rfl rfl (Nat.le_of_ble_eq_true rfl) (adr_lt (Nat.le_of_ble_eq_true rfl)) dX10_setQuota_52 ?_
      refine r_getS E fd_X10_108 (t := 0) (j1 := 16) rfl rfl rfl rfl (Nat.le_of_ble_eq_true rfl) (adr_lt (Nat.le_of_ble_eq_true rfl)) dX10_setQuota_55 ?_
      refine r_iload_n E p0 rfl dX10_setQuota_58 ?_
      refine r_iload_n E p1 rfl dX10_setQuota_59 ?_
      refine r_iast E rfl rfl rfl (Nat.le_of_ble_eq_true rfl) (adr_lt (Nat.le_of_ble_eq_true rfl)) i5 dX10_setQuota_60 ?_
      refine GG_toph fun h7 hh7 => ?_
      have hw := hw h7 hh7
      refine r_iload_n E v6 rfl dX10_setQuota_61 ?_
      exact hE _ _ _ _ _ _ (Nat.le_of_ble_eq_true rfl) (Nat.le_of_ble_eq_true rfl) dX10_setQuota_62 rfl hw
set_option maxRecDepth 20000 in
theorem m_X10_requireBelow {l : Launch} (hl : l.stackTraces = false) (G : Gq) (p0 : Int32) (p1 : Int32)  (h : Hp) (Q : Prop) (Z : String → Prop) (hw : wp_X10_requireBelow p0 p1 h Q Z) : XV l G yX10_requireBelow cX10_requireBelow 2 none rm_X10_requireBelow NT NT h (fun r => [.int p0, .int p1]) (fun u => h = u ∧ Q) (fun e u => h = u ∧ Z e) := by
  refine XV_of (L0 := (fun X => [some (.int p0), some (.int p1)])) hl (by decide +kernel) rfl (fun _ => Nat.le_of_ble_eq_true rfl) (fun _ => rfl) fun X hXl hXG E hE hX => ?_
  subst hXl; subst hXG
  unfold wp_X10_requireBelow at hw
  refine r_iload_n E p0 rfl dX10_requireBelow_0 ?_
  refine r_iload_n E p1 rfl dX10_requireBelow_1 ?_
  refine r_callSI E (m_X10_isBelow (EE_st E) (GX X) p0 p1 h _ hw) lk_X10_67 (RM_mk (Nat.le_of_ble_eq_true rfl) (Nat.le_of_ble_eq_true rfl)) rfl rfl rfl rfl (Nat.le_of_ble_eq_true rfl) rfl rfl (Nat.le_of_ble_eq_true rfl) (Nat.le_of_ble_eq_true rfl) dX10_requireBelow_2 (fun r1 u9 hw => ?_)
  obtain ⟨rfl, zr1, hw⟩ := hw
  refine r_if_ne E 19 (by decide) dX10_requireBelow_5 (fun c2 => ?_) (fun c2 => ?_)
  · have hw := ite_t hw c2
    exact r_throwW E hX rfl rfl (names := ["java/lang/RuntimeException", "java/lang/Exception"]) (by decide) (by decide) cl_X10_101 th_IndexOutOfBoundsException.2.2.2 (text := "no such number") (by decide) th_IndexOutOfBoundsException.1 th_IndexOutOfBoundsException.2.1 th_IndexOutOfBoundsException.2.2.1 rfl ⟨rfl, hw⟩ dX10_requireBelow_8 dX10_requireBelow_11 dX10_requireBelow_12 dX10_requireBelow_15 dX10_requireBelow_18 (Nat.le_of_ble_eq_true rfl) (Nat.le_of_ble_eq_true rfl) (Nat.le_of_ble_eq_true rfl) (Nat.le_of_ble_eq_true rfl) (Nat.le_of_ble_eq_true rfl) (Nat.le_of_ble_eq_true rfl)
  · have hw := ite_f hw c2
    exact hE _ _ _ _ _ (Nat.le_of_ble_eq_true rfl) (Nat.le_of_ble_eq_true rfl) dX10_requireBelow_19 ⟨rfl, hw⟩
set_option maxRecDepth 20000 in
theorem m_X10_inBox {l : Launch} (hl : l.stackTraces = false) (G : Gq) (p0 : Int32)  (h : Hp) (Q : Int32 → Prop) (Z : String → Prop) (hw : wp_X10_inBox p0 h Q Z) : XI l G yX10_inBox cX10_inBox 2 (some .int) rm_X10_inBox NT NT h (fun r => [r 10 0, .int p0]) (fun r u => h = u ∧ Q r) (fun e u => h = u ∧ Z e) := by
  refine XI_of (L0 := (fun X => [some (rf X 10 0), some (.int p0)])) hl (by decide +kernel) rfl (fun _ => Nat.le_of_ble_eq_true rfl) (fun _ => rfl) fun X hXl hXG E hE hX => ?_
  subst hXl; subst hXG
  unfold wp_X10_inBox at hw
  refine r_iload_n E p0 rfl dX10_inBox_0 ?_
  refine r_bipush E 8 rfl dX10_inBox_1 ?_
  refine r_xcallSV E hX (fun e u hx => hx) (Nat.le_of_ble_eq_true rfl) (Nat.le_of_ble_eq_true rfl) (m_X10_requireBelow (EE_st E) (GX X) p0 8 h _ _ hw) lk_X10_112 (RM_mk (Nat.le_of_ble_eq_true rfl) (Nat.le_of_ble_eq_true rfl)) rfl rfl rfl rfl (Nat.le_of_ble_eq_true rfl) rfl rfl (Nat.le_of_ble_eq_true rfl) (Nat.le_of_ble_eq_true rfl) dX10_inBox_3 (fun u9 hw => ?_)
  obtain ⟨rfl, hw⟩ := hw
  refine r_aload_n E 10 0 rfl dX10_inBox_6 ?_
  refine r_getS E fd_X10_19 (t := 0) (j1 := 3) rfl rfl rfl rfl (Nat.le_of_ble_eq_true rfl) (adr_lt (Nat.le_of_ble_eq_true rfl)) dX10_inBox_7 ?_
  refine r_getS E fd_X10_116 (t := 0) (j1 := 17) rfl rfl rfl rfl (Nat.le_of_ble_eq_true rfl) (adr_lt (Nat.le_of_ble_eq_true rfl)) dX10_inBox_10 ?_
  refine r_iload_n E p0 rfl dX10_inBox_13 ?_
  obtain ⟨i1, hw⟩ := hw
  refine r_iald E rfl rfl rfl (Nat.le_of_ble_eq_true rfl) (adr_lt (Nat.le_of_ble_eq_true rfl)) i1 dX10_inBox_14 ?_
  refine r_aload_n E 10 0 rfl dX10_inBox_15 ?_
  refine r_getS E fd_X10_19 (t := 0) (j1 := 3) rfl rfl rfl rfl (Nat.le_of_ble_eq_true rfl) (adr_lt (Nat.le_of_ble_eq_true rfl)) dX10_inBox_16 ?_
  refine r_iload_n E p0 rfl dX10_inBox_19 ?_
  refine r_callVI E (m_X3_sizesIn (EE_st E) (GX X) p0 h _ hw) lk_X10_119 (RM_mk (Nat.le_of_ble_eq_true rfl) (Nat.le_of_ble_eq_true rfl)) rfl rfl rfl rfl (Nat.le_of_ble_eq_true rfl) (adr_lt (Nat.le_of_ble_eq_true rfl)) (Nat.le_of_ble_eq_true rfl) rfl rfl (Nat.le_of_ble_eq_true rfl) (Nat.le_of_ble_eq_true rfl) dX10_inBox_20 (fun r2 u9 hw => ?_)
  obtain ⟨rfl, hw⟩ := hw
  refine r_iadd E dX10_inBox_23 ?_
  exact hE _ _ _ _ _ _ (Nat.le_of_ble_eq_true rfl) (Nat.le_of_ble_eq_true rfl) dX10_inBox_24 rfl ⟨rfl, hw⟩
set_option maxRecDepth 20000 in
theorem m_X10_requireInBox {l : Launch} (hl : l.stackTraces = false) (G : Gq) (p0 : Int32)  (h : Hp) (Q : Prop) (Z : String → Prop) (hw : wp_X10_requireInBox p0 h Q Z) : XV l G yX10_requireInBox cX10_requireInBox 2 none rm_X10_requireInBox NT NT h (fun r => [r 10 0, .int p0]) (fun u => h = u ∧ Q) (fun e u => h = u ∧ Z e) := by
  refine XV_of (L0 := (fun X => [some (rf X 10 0), some (.int p0)])) hl (by decide +kernel) rfl (fun _ => Nat.le_of_ble_eq_true rfl) (fun _ => rfl) fun X hXl hXG E hE hX => ?_
  subst hXl; subst hXG
  unfold wp_X10_requireInBox at hw
  refine r_aload_n E 10 0 rfl dX10_requireInBox_0 ?_
  refine r_getS E fd_X10_19 (t := 0) (j1 := 3) rfl rfl rfl rfl (Nat.le_of_ble_eq_true rfl) (adr_lt (Nat.le_of_ble_eq_true rfl)) dX10_requireInBox_1 ?_
  refine r_getS E fd_X10_127 (t := 0) (j1 := 15) rfl rfl rfl rfl (Nat.le_of_ble_eq_true rfl) (adr_lt (Nat.le_of_ble_eq_true rfl)) dX10_requireInBox_4 ?_
  refine r_iload_n E p0 rfl dX10_requireInBox_7 ?_
  obtain ⟨i1, hw⟩ := hw
  refine r_aaldS E (j1 := 2) (ta := 4) rfl rfl (Nat.le_of_ble_eq_true rfl) rfl rfl rfl (Nat.le_of_ble_eq_true rfl) (adr_lt (Nat.le_of_ble_eq_true rfl)) i1 rfl rfl dX10_requireInBox_8 ?_
  refine r_callVI E (m_X2_isKept (EE_st E) (GX X) p0.toNatClampNeg (Nat.lt_of_lt_of_le (vp_in_lt i1) (Nat.le_of_ble_eq_true rfl)) h _ hw) lk_X10_288 (RM_mk (Nat.le_of_ble_eq_true rfl) (Nat.le_of_ble_eq_true rfl)) rfl rfl rfl rfl (Nat.lt_of_lt_of_le (vp_in_lt i1) (Nat.le_of_ble_eq_true rfl)) (adr_lt (Nat.lt_of_lt_of_le (vp_in_lt i1) (Nat.le_of_ble_eq_true rfl))) (Nat.le_of_ble_eq_true rfl) rfl rfl (Nat.le_of_ble_eq_true rfl) (Nat.le_of_ble_eq_true rfl) dX10_requireInBox_9 (fun r2 u9 hw => ?_)
  obtain ⟨rfl, zr2, hw⟩ := hw
  refine r_if_ne E 26 (by decide) dX10_requireInBox_12 (fun c3 => ?_) (fun c3 => ?_)
  · have hw := ite_t hw c3
    exact r_throwXW E hX rfl rfl (names := ["java/lang/RuntimeException", "java/lang/Exception"]) (by decide) (by decide) cl_X10_246 th_NoSuchElementException.2.2.2 (text := "the mail was not delivered, or is gone") (by decide) th_NoSuchElementException.1 th_NoSuchElementException.2.1 th_NoSuchElementException.2.2.1 rfl ⟨rfl, hw⟩ dX10_requireInBox_15 dX10_requireInBox_18 dX10_requireInBox_19 dX10_requireInBox_22 dX10_requireInBox_25 (Nat.le_of_ble_eq_true rfl) (Nat.le_of_ble_eq_true rfl) (Nat.le_of_ble_eq_true rfl) (Nat.le_of_ble_eq_true rfl) (Nat.le_of_ble_eq_true rfl) (Nat.le_of_ble_eq_true rfl)
  · have hw := ite_f hw c3
    exact hE _ _ _ _ _ (Nat.le_of_ble_eq_true rfl) (Nat.le_of_ble_eq_true rfl) dX10_requireInBox_26 ⟨rfl, hw⟩
set_option maxRecDepth 20000 in
theorem m_X10_boxOf {l : Launch} (hl : l.stackTraces = false) (G : Gq) (p0 : Int32)  (h : Hp) (Q : Int32 → Prop) (Z : String → Prop) (hw : wp_X10_boxOf p0 h Q Z) : XI l G yX10_boxOf cX10_boxOf 2 (some .int) rm_X10_boxOf NT NT h (fun r => [r 10 0, .int p0]) (fun r u => h = u ∧ Q r) (fun e u => h = u ∧ Z e) := by
  refine XI_of (L0 := (fun X => [some (rf X 10 0), some (.int p0)])) hl (by decide +kernel) rfl (fun _ => Nat.le_of_ble_eq_true rfl) (fun _ => rfl) fun X hXl hXG E hE hX => ?_
  subst hXl; subst hXG
  unfold wp_X10_boxOf at hw
  refine r_iload_n E p0 rfl dX10_boxOf_0 ?_
  refine r_aload_n E 10 0 rfl dX10_boxOf_1 ?_
  refine r_getS E fd_X10_19 (t := 0) (j1 := 3) rfl rfl rfl rfl (Nat.le_of_ble_eq_true rfl) (adr_lt (Nat.le_of_ble_eq_true rfl)) dX10_boxOf_2 ?_
  refine r_getI E fd_X10_83 rfl (Nat.le_of_ble_eq_true rfl) (adr_lt (Nat.le_of_ble_eq_true rfl)) dX10_boxOf_5 ?_
  refine r_xcallSV E hX (fun e u hx => hx) (Nat.le_of_ble_eq_true rfl) (Nat.le_of_ble_eq_true rfl) (m_X10_requireBelow (EE_st E) (GX X) p0 (gI h 3 0 6) h _ _ hw) lk_X10_112 (RM_mk (Nat.le_of_ble_eq_true rfl) (Nat.le_of_ble_eq_true rfl)) rfl rfl rfl rfl (Nat.le_of_ble_eq_true rfl) rfl rfl (Nat.le_of_ble_eq_true rfl) (Nat.le_of_ble_eq_true rfl) dX10_boxOf_8 (fun u9 hw => ?_)
  obtain ⟨rfl, hw⟩ := hw
  refine r_aload_n E 10 0 rfl dX10_boxOf_11 ?_
  refine r_iload_n E p0 rfl dX10_boxOf_12 ?_
  refine r_xcallVV E hX (fun e u hx => hx) (Nat.le_of_ble_eq_true rfl) (Nat.le_of_ble_eq_true rfl) (m_X10_requireInBox (EE_st E) (GX X) p0 h _ _ hw) lk_X10_123 (RM_mk (Nat.le_of_ble_eq_true rfl) (Nat.le_of_ble_eq_true rfl)) rfl rfl rfl rfl (Nat.le_of_ble_eq_true rfl) (adr_lt (Nat.le_of_ble_eq_true rfl)) (Nat.le_of_ble_eq_true rfl) rfl rfl (Nat.le_of_ble_eq_true rfl) (Nat.le_of_ble_eq_true rfl) dX10_boxOf_13 (fun u9 hw => ?_)
  obtain ⟨rfl, hw⟩ := hw
  refine r_aload_n E 10 0 rfl dX10_boxOf_16 ?_
  refine r_getS E fd_X10_19 (t := 0) (j1 := 3) rfl rfl rfl rfl (Nat.le_of_ble_eq_true rfl) (adr_lt (Nat.le_of_ble_eq_true rfl)) dX10_boxOf_17 ?_
  refine r_getS E fd_X10_127 (t := 0) (j1 := 15) rfl rfl rfl rfl (Nat.le_of_ble_eq_true rfl) (adr_lt (Nat.le_of_ble_eq_true rfl)) dX10_boxOf_20 ?_
  refine r_iload_n E p0 rfl dX10_boxOf_23 ?_
  obtain ⟨i1, hw⟩ := hw
  refine r_aaldS E (j1 := 2) (ta := 4) rfl rfl (Nat.le_of_ble_eq_true rfl) rfl rfl rfl (Nat.le_of_ble_eq_true rfl) (adr_lt (Nat.le_of_ble_eq_true rfl)) i1 rfl rfl dX10_boxOf_24 ?_
  refine r_getI E fd_X10_131 rfl (Nat.lt_of_lt_of_le (vp_in_lt i1) (Nat.le_of_ble_eq_true rfl)) (adr_lt (Nat.lt_of_lt_of_le (vp_in_lt i1) (Nat.le_of_ble_eq_true rfl))) dX10_boxOf_25 ?_
  exact hE _ _ _ _ _ _ (Nat.le_of_ble_eq_true rfl) (Nat.le_of_ble_eq_true rfl) dX10_boxOf_28 rfl ⟨rfl, hw⟩
set_option maxRecDepth 20000 in
theorem m_X10_hasFlag {l : Launch} (hl : l.stackTraces = false) (G : Gq) (p0 : Int32) (p1 : Int32)  (h : Hp) (Q : Int32 → Prop) (Z : String → Prop) (hw : wp_X10_hasFlag p0 p1 h Q Z) : XI l G yX10_hasFlag cX10_hasFlag 3 (some .boolean) rm_X10_hasFlag NT NT h (fun r => [r 10 0, .int p0, .int p1]) (fun r u => h = u ∧ isB r ∧ Q r) (fun e u => h = u ∧ Z e) := by
  refine XI_of (L0 := (fun X => [some (rf X 10 0), some (.int p0), some (.int p1)])) hl (by decide +kernel) rfl (fun _ => Nat.le_of_ble_eq_true rfl) (fun _ => rfl) fun X hXl hXG E hE hX => ?_
  subst hXl; subst hXG
  unfold wp_X10_hasFlag at hw
  refine r_iload_n E p0 rfl dX10_hasFlag_0 ?_
  refine r_aload_n E 10 0 rfl dX10_hasFlag_1 ?_
  refine r_getS E fd_X10_19 (t := 0) (j1 := 3) rfl rfl rfl rfl (Nat.le_of_ble_eq_true rfl) (adr_lt (Nat.le_of_ble_eq_true rfl)) dX10_hasFlag_2 ?_
  refine r_getI E fd_X10_83 rfl (Nat.le_of_ble_eq_true rfl) (adr_lt (Nat.le_of_ble_eq_true rfl)) dX10_hasFlag_5 ?_
  refine r_xcallSV E hX (fun e u hx => hx) (Nat.le_of_ble_eq_true rfl) (Nat.le_of_ble_eq_true rfl) (m_X10_requireBelow (EE_st E) (GX X) p0 (gI h 3 0 6) h _ _ hw) lk_X10_112 (RM_mk (Nat.le_of_ble_eq_true rfl) (Nat.le_of_ble_eq_true rfl)) rfl rfl rfl rfl (Nat.le_of_ble_eq_true rfl) rfl rfl (Nat.le_of_ble_eq_true rfl) (Nat.le_of_ble_eq_true rfl) dX10_hasFlag_8 (fun u9 hw => ?_)
  obtain ⟨rfl, hw⟩ := hw
  refine r_iload_n E p1 rfl dX10_hasFlag_11 ?_
  refine r_bipush E 8 rfl dX10_hasFlag_12 ?_
  refine r_xcallSV E hX (fun e u hx => hx) (Nat.le_of_ble_eq_true rfl) (Nat.le_of_ble_eq_true rfl) (m_X10_requireBelow (EE_st E) (GX X) p1 8 h _ _ hw) lk_X10_112 (RM_mk (Nat.le_of_ble_eq_true rfl) (Nat.le_of_ble_eq_true rfl)) rfl rfl rfl rfl (Nat.le_of_ble_eq_true rfl) rfl rfl (Nat.le_of_ble_eq_true rfl) (Nat.le_of_ble_eq_true rfl) dX10_hasFlag_14 (fun u9 hw => ?_)
  obtain ⟨rfl, hw⟩ := hw
  refine r_aload_n E 10 0 rfl dX10_hasFlag_17 ?_
  refine r_getS E fd_X10_19 (t := 0) (j1 := 3) rfl rfl rfl rfl (Nat.le_of_ble_eq_true rfl) (adr_lt (Nat.le_of_ble_eq_true rfl)) dX10_hasFlag_18 ?_
  refine r_getS E fd_X10_127 (t := 0) (j1 := 15) rfl rfl rfl rfl (Nat.le_of_ble_eq_true rfl) (adr_lt (Nat.le_of_ble_eq_true rfl)) dX10_hasFlag_21 ?_
  refine r_iload_n E p0 rfl dX10_hasFlag_24 ?_
  obtain ⟨i1, hw⟩ := hw
  refine r_aaldS E (j1 := 2) (ta := 4) rfl rfl (Nat.le_of_ble_eq_true rfl) rfl rfl rfl (Nat.le_of_ble_eq_true rfl) (adr_lt (Nat.le_of_ble_eq_true rfl)) i1 rfl rfl dX10_hasFlag_25 ?_
  refine r_getI E fd_X10_136 rfl (Nat.lt_of_lt_of_le (vp_in_lt i1) (Nat.le_of_ble_eq_true rfl)) (adr_lt (Nat.lt_of_lt_of_le (vp_in_lt i1) (Nat.le_of_ble_eq_true rfl))) dX10_hasFlag_26 ?_
  refine r_iload_n E p1 rfl dX10_hasFlag_29 ?_
  refine r_callSI E (m_X10_hasBit (EE_st E) (GX X) (gI h 2 p0.toNatClampNeg 7) p1 h _ hw) lk_X10_139 (RM_mk (Nat.le_of_ble_eq_true rfl) (Nat.le_of_ble_eq_true rfl)) rfl rfl rfl rfl (Nat.le_of_ble_eq_true rfl) rfl rfl (Nat.le_of_ble_eq_true rfl) (Nat.le_of_ble_eq_true rfl) dX10_hasFlag_30 (fun r2 u9 hw => ?_)
  obtain ⟨rfl, zr2, hw⟩ := hw
  exact hE _ _ _ _ _ _ (Nat.le_of_ble_eq_true rfl) (Nat.le_of_ble_eq_true rfl) dX10_hasFlag_33 (isB_nar zr2) ⟨rfl, zr2, hw⟩
set_option maxRecDepth 20000 in
theorem m_X10_move {l : Launch} (hl : l.stackTraces = false) (G : Gq) (p0 : Int32) (p1 : Int32)  (h : Hp) (Q : Int32 → Hp → Prop) (Z : String → Hp → Prop) (hw : wp_X10_move p0 p1 h Q Z) : XI l G yX10_move cX10_move 5 (some .int) rm_X10_move NT NT h (fun r => [r 10 0, .int p0, .int p1]) Q Z := by
  refine XI_of (L0 := (fun X => [some (rf X 10 0), some (.int p0), some (.int p1), none, none])) hl (by decide +kernel) rfl (fun _ => Nat.le_of_ble_eq_true rfl) (fun _ => rfl) fun X hXl hXG E hE hX => ?_
  subst hXl; subst hXG
  unfold wp_X10_move at hw
  refine r_iload_n E p0 rfl dX10_move_0 ?_
  refine r_aload_n E 10 0 rfl dX10_move_1 ?_
  refine r_getS E fd_X10_19 (t := 0) (j1 := 3) rfl rfl rfl rfl (Nat.le_of_ble_eq_true rfl) (adr_lt (Nat.le_of_ble_eq_true rfl)) dX10_move_2 ?_
  refine r_getI E fd_X10_83 rfl (Nat.le_of_ble_eq_true rfl) (adr_lt (Nat.le_of_ble_eq_true rfl)) dX10_move_5 ?_
  refine r_xcallSV E hX (fun e u hx => by obtain ⟨rfl, hx⟩ := hx; exact hx) (Nat.le_of_ble_eq_true rfl) (Nat.le_of_ble_eq_true rfl) (m_X10_requireBelow (EE_st E) (GX X) p0 (gI h 3 0 6) h _ _ hw) lk_X10_112 (RM_mk (Nat.le_of_ble_eq_true rfl) (Nat.le_of_ble_eq_true rfl)) rfl rfl rfl rfl (Nat.le_of_ble_eq_true rfl) rfl rfl (Nat.le_of_ble_eq_true rfl) (Nat.le_of_ble_eq_true rfl) dX10_move_8 (fun u9 hw => ?_)
  obtain ⟨rfl, hw⟩ := hw
  refine r_iload_n E p1 rfl dX10_move_11 ?_
  refine r_bipush E 8 rfl dX10_move_12 ?_
  refine r_xcallSV E hX (fun e u hx => by obtain ⟨rfl, hx⟩ := hx; exact hx) (Nat.le_of_ble_eq_true rfl) (Nat.le_of_ble_eq_true rfl) (m_X10_requireBelow (EE_st E) (GX X) p1 8 h _ _ hw) lk_X10_112 (RM_mk (Nat.le_of_ble_eq_true rfl) (Nat.le_of_ble_eq_true rfl)) rfl rfl rfl rfl (Nat.le_of_ble_eq_true rfl) rfl rfl (Nat.le_of_ble_eq_true rfl) (Nat.le_of_ble_eq_true rfl) dX10_move_14 (fun u9 hw => ?_)
  obtain ⟨rfl, hw⟩ := hw
  refine r_aload_n E 10 0 rfl dX10_move_17 ?_
  refine r_iload_n E p0 rfl dX10_move_18 ?_
  refine r_xcallVV E hX (fun e u hx => by obtain ⟨rfl, hx⟩ := hx; exact hx) (Nat.le_of_ble_eq_true rfl) (Nat.le_of_ble_eq_true rfl) (m_X10_requireInBox (EE_st E) (GX X) p0 h _ _ hw) lk_X10_123 (RM_mk (Nat.le_of_ble_eq_true rfl) (Nat.le_of_ble_eq_true rfl)) rfl rfl rfl rfl (Nat.le_of_ble_eq_true rfl) (adr_lt (Nat.le_of_ble_eq_true rfl)) (Nat.le_of_ble_eq_true rfl) rfl rfl (Nat.le_of_ble_eq_true rfl) (Nat.le_of_ble_eq_true rfl) dX10_move_19 (fun u9 hw => ?_)
  obtain ⟨rfl, hw⟩ := hw
  refine r_aload_n E 10 0 rfl dX10_move_22 ?_
  refine r_getS E fd_X10_19 (t := 0) (j1 := 3) rfl rfl rfl rfl (Nat.le_of_ble_eq_true rfl) (adr_lt (Nat.le_of_ble_eq_true rfl)) dX10_move_23 ?_
  refine r_getS E fd_X10_127 (t := 0) (j1 := 15) rfl rfl rfl rfl (Nat.le_of_ble_eq_true rfl) (adr_lt (Nat.le_of_ble_eq_true rfl)) dX10_move_26 ?_
  refine r_iload_n E p0 rfl dX10_move_29 ?_
  obtain ⟨i1, hw⟩ := hw
  refine r_aaldS E (j1 := 2) (ta := 4) rfl rfl (Nat.le_of_ble_eq_true rfl) rfl rfl rfl (Nat.le_of_ble_eq_true rfl) (adr_lt (Nat.le_of_ble_eq_true rfl)) i1 rfl rfl dX10_move_30 ?_
  refine r_astore_n E [some (rf X 10 0), some (.int p0), some (.int p1), some (rf X 2 p0.toNatClampNeg), none] rfl (Nat.le_of_ble_eq_true rfl) rfl dX10_move_31 ?_
  refine r_aload_n E 2 p0.toNatClampNeg rfl dX10_move_32 ?_
  refine r_getI E fd_X10_131 rfl (Nat.lt_of_lt_of_le (vp_in_lt i1) (Nat.le_of_ble_eq_true rfl)) (adr_lt (Nat.lt_of_lt_of_le (vp_in_lt i1) (Nat.le_of_ble_eq_true rfl))) dX10_move_33 ?_
  refine GG_topI fun v2 hv2 => ?_
  have hw := hw v2 hv2
  refine r_istore E [some (rf X 10 0), some (.int p0), some (.int p1), some (rf X 2 p0.toNatClampNeg), some (.int v2)] (Nat.le_of_ble_eq_true rfl) rfl dX10_move_36 ?_
  refine r_aload_n E 2 p0.toNatClampNeg rfl dX10_move_38 ?_
  refine r_iload_n E p1 rfl dX10_move_39 ?_
  refine r_putI E fd_X10_131 rfl PI_int (Nat.lt_of_lt_of_le (vp_in_lt i1) (Nat.le_of_ble_eq_true rfl)) (adr_lt (Nat.lt_of_lt_of_le (vp_in_lt i1) (Nat.le_of_ble_eq_true rfl))) rfl dX10_move_40 ?_
  refine GG_toph fun h3 hh3 => ?_
  have hw := hw h3 hh3
  refine r_aload_n E 2 p0.toNatClampNeg rfl dX10_move_43 ?_
  refine r_iconst E 1 rfl dX10_move_44 ?_
  refine r_putI E fd_X10_142 rfl (PI_z isB_1) (Nat.lt_of_lt_of_le (vp_in_lt i1) (Nat.le_of_ble_eq_true rfl)) (adr_lt (Nat.lt_of_lt_of_le (vp_in_lt i1) (Nat.le_of_ble_eq_true rfl))) rfl dX10_move_45 ?_
  refine GG_toph fun h4 hh4 => ?_
  have hw := hw h4 hh4
  refine r_iload E v2 rfl dX10_move_48 ?_
  exact hE _ _ _ _ _ _ (Nat.le_of_ble_eq_true rfl) (Nat.le_of_ble_eq_true rfl) dX10_move_50 rfl hw
set_option maxRecDepth 20000 in
theorem m_X10_requireRoomForTests {l : Launch} (hl : l.stackTraces = false) (G : Gq) (p0 : Int32)  (h : Hp) (Q : Prop) (Z : String → Prop) (hw : wp_X10_requireRoomForTests p0 h Q Z) : XV l G yX10_requireRoomForTests cX10_requireRoomForTests 2 none rm_X10_requireRoomForTests NT NT h (fun r => [r 10 0, .int p0]) (fun u => h = u ∧ Q) (fun e u => h = u ∧ Z e) := by
  refine XV_of (L0 := (fun X => [some (rf X 10 0), some (.int p0)])) hl (by decide +kernel) rfl (fun _ => Nat.le_of_ble_eq_true rfl) (fun _ => rfl) fun X hXl hXG E hE hX => ?_
  subst hXl; subst hXG
  unfold wp_X10_requireRoomForTests at hw
  refine r_aload_n E 10 0 rfl dX10_requireRoomForTests_0 ?_
  refine r_getS E fd_X10_10 (t := 0) (j1 := 9) rfl rfl rfl rfl (Nat.le_of_ble_eq_true rfl) (adr_lt (Nat.le_of_ble_eq_true rfl)) dX10_requireRoomForTests_1 ?_
  refine r_getI E fd_X10_156 rfl (Nat.le_of_ble_eq_true rfl) (adr_lt (Nat.le_of_ble_eq_true rfl)) dX10_requireRoomForTests_4 ?_
  refine r_iload_n E p0 rfl dX10_requireRoomForTests_7 ?_
  refine r_iadd E dX10_requireRoomForTests_8 ?_
  refine r_bipush E 60 rfl dX10_requireRoomForTests_9 ?_
  refine r_icmp_le E 25 (by decide) dX10_requireRoomForTests_11 (fun c1 => ?_) (fun c1 => ?_)
  · have hw := ite_t hw c1
    exact hE _ _ _ _ _ (Nat.le_of_ble_eq_true rfl) (Nat.le_of_ble_eq_true rfl) dX10_requireRoomForTests_25 ⟨rfl, hw⟩
  · have hw := ite_f hw c1
    exact r_throwW E hX rfl rfl (names := ["java/lang/RuntimeException", "java/lang/Exception"]) (by decide) (by decide) cl_X10_87 th_IllegalStateException.2.2.2 (text := "there would be more than 60 tests") (by decide) th_IllegalStateException.1 th_IllegalStateException.2.1 th_IllegalStateException.2.2.1 rfl ⟨rfl, hw⟩ dX10_requireRoomForTests_14 dX10_requireRoomForTests_17 dX10_requireRoomForTests_18 dX10_requireRoomForTests_21 dX10_requireRoomForTests_24 (Nat.le_of_ble_eq_true rfl) (Nat.le_of_ble_eq_true rfl) (Nat.le_of_ble_eq_true rfl) (Nat.le_of_ble_eq_true rfl) (Nat.le_of_ble_eq_true rfl) (Nat.le_of_ble_eq_true rfl)
set_option maxRecDepth 20000 in
theorem t_X10_test_b57 {X : Ctx} (h : Hp) (x1 : Int32) (x2 : Int32) (x3 : Int32)  (E : EE X cX10_test RX10 5 7 141 3 18) {Q : Int32 → Hp → Prop} {Z : String → Hp → Prop} (hE : ENDi X cX10_test .int Q NT 3 18) (hX : QX X Z 3 18 NT)  (hw : wp_X10_test_b57 x1 x2 x3 h  Q Z) : GG X 2 12 NT h [some (rf X 10 0), some (.int x1), some (.int x2), some (.int x3), none] 57 [] := by
  unfold wp_X10_test_b57 at hw
  refine r_aload_n E 10 0 rfl dX10_test_57 ?_
  refine r_iconst E 1 rfl dX10_test_58 ?_
  refine r_xcallVV E hX (fun e u hx => by obtain ⟨rfl, hx⟩ := hx; exact hx) (Nat.le_of_ble_eq_true rfl) (Nat.le_of_ble_eq_true rfl) (m_X10_requireRoomForTests (EE_st E) (GX X) 1 h _ _ hw) lk_X10_159 (RM_mk (Nat.le_of_ble_eq_true rfl) (Nat.le_of_ble_eq_true rfl)) rfl rfl rfl rfl (Nat.le_of_ble_eq_true rfl) (adr_lt (Nat.le_of_ble_eq_true rfl)) (Nat.le_of_ble_eq_true rfl) rfl rfl (Nat.le_of_ble_eq_true rfl) (Nat.le_of_ble_eq_true rfl) dX10_test_59 (fun u9 hw => ?_)
  obtain ⟨rfl, hw⟩ := hw
  refine r_aload_n E 10 0 rfl dX10_test_62 ?_
  refine r_getS E fd_X10_10 (t := 0) (j1 := 9) rfl rfl rfl rfl (Nat.le_of_ble_eq_true rfl) (adr_lt (Nat.le_of_ble_eq_true rfl)) dX10_test_63 ?_
  refine r_iload_n E x1 rfl dX10_test_66 ?_
  refine r_iload_n E x2 rfl dX10_test_67 ?_
  refine r_iload_n E x3 rfl dX10_test_68 ?_
  refine r_callVI E (m_X9_append (EE_st E) (GX X) x1 x2 x3 h _ hw) lk_X10_162 (RM_mk (Nat.le_of_ble_eq_true rfl) (Nat.le_of_ble_eq_true rfl)) rfl rfl rfl rfl (Nat.le_of_ble_eq_true rfl) (adr_lt (Nat.le_of_ble_eq_true rfl)) (Nat.le_of_ble_eq_true rfl) rfl rfl (Nat.le_of_ble_eq_true rfl) (Nat.le_of_ble_eq_true rfl) dX10_test_69 (fun r1 h2 hw => ?_)
  exact hE _ _ _ _ _ _ (Nat.le_of_ble_eq_true rfl) (Nat.le_of_ble_eq_true rfl) dX10_test_72 rfl hw
set_option maxRecDepth 20000 in
theorem t_X10_test_b40 {X : Ctx} (h : Hp) (x1 : Int32) (x2 : Int32) (x3 : Int32) (x4 : Int32)  (E : EE X cX10_test RX10 5 7 141 3 18) {Q : Int32 → Hp → Prop} {Z : String → Hp → Prop} (hE : ENDi X cX10_test .int Q NT 3 18) (hX : QX X Z 3 18 NT)  (hw : wp_X10_test_b40 x1 x2 x3 x4 h  Q Z) : GG X 1 6 NT h [some (rf X 10 0), some (.int x1), some (.int x2), some (.int x3), some (.int x4)] 40 [] := by
  unfold wp_X10_test_b40 at hw
  refine r_iload E x4 rfl dX10_test_40 ?_
  refine r_iconst E 1 rfl dX10_test_42 ?_
  refine r_icmp_le E 57 (by decide) dX10_test_43 (fun c1 => ?_) (fun c1 => ?_)
  · have hw := ite_t hw c1
    exact GG_wid (Nat.le_of_ble_eq_true rfl) (Nat.le_of_ble_eq_true rfl) (GG_weak [true, true, true, true, false] rfl (t_X10_test_b57 h x1 x2 x3 E hE hX  hw))
  · have hw := ite_f hw c1
    refine r_iload_n E x3 rfl dX10_test_46 ?_
    refine r_aload_n E 10 0 rfl dX10_test_47 ?_
    refine r_getS E fd_X10_10 (t := 0) (j1 := 9) rfl rfl rfl rfl (Nat.le_of_ble_eq_true rfl) (adr_lt (Nat.le_of_ble_eq_true rfl)) dX10_test_48 ?_
    refine r_getI E fd_X10_156 rfl (Nat.le_of_ble_eq_true rfl) (adr_lt (Nat.le_of_ble_eq_true rfl)) dX10_test_51 ?_
    refine r_xcallSV E hX (fun e u hx => by obtain ⟨rfl, hx⟩ := hx; exact hx) (Nat.le_of_ble_eq_true rfl) (Nat.le_of_ble_eq_true rfl) (m_X10_requireBelow (EE_st E) (GX X) x3 (gI h 9 0 4) h _ _ hw) lk_X10_112 (RM_mk (Nat.le_of_ble_eq_true rfl) (Nat.le_of_ble_eq_true rfl)) rfl rfl rfl rfl (Nat.le_of_ble_eq_true rfl) rfl rfl (Nat.le_of_ble_eq_true rfl) (Nat.le_of_ble_eq_true rfl) dX10_test_54 (fun u9 hw => ?_)
    obtain ⟨rfl, hw⟩ := hw
    exact GG_weak [true, true, true, true, false] rfl (t_X10_test_b57 h x1 x2 x3 E hE hX  hw)
set_option maxRecDepth 20000 in
theorem m_X10_test {l : Launch} (hl : l.stackTraces = false) (G : Gq) (p0 : Int32) (p1 : Int32) (p2 : Int32)  (h : Hp) (Q : Int32 → Hp → Prop) (Z : String → Hp → Prop) (hw : wp_X10_test p0 p1 p2 h Q Z) : XI l G yX10_test cX10_test 5 (some .int) rm_X10_test NT NT h (fun r => [r 10 0, .int p0, .int p1, .int p2]) Q Z := by
  refine XI_of (L0 := (fun X => [some (rf X 10 0), some (.int p0), some (.int p1), some (.int p2), none])) hl (by decide +kernel) rfl (fun _ => Nat.le_of_ble_eq_true rfl) (fun _ => rfl) fun X hXl hXG E hE hX => ?_
  subst hXl; subst hXG
  unfold wp_X10_test at hw
  refine r_iload_n E p0 rfl dX10_test_0 ?_
  refine r_iload_n E p1 rfl dX10_test_1 ?_
  refine r_callSI E (m_X9_allows (EE_st E) (GX X) p0 p1 h _ hw) lk_X10_146 (RM_mk (Nat.le_of_ble_eq_true rfl) (Nat.le_of_ble_eq_true rfl)) rfl rfl rfl rfl (Nat.le_of_ble_eq_true rfl) rfl rfl (Nat.le_of_ble_eq_true rfl) (Nat.le_of_ble_eq_true rfl) dX10_test_2 (fun r1 u9 hw => ?_)
  obtain ⟨rfl, zr1, hw⟩ := hw
  refine r_if_ne E 18 (by decide) dX10_test_5 (fun c2 => ?_) (fun c2 => ?_)
  · have hw := ite_t hw c2
    exact r_throw E hX rfl rfl (names := ["java/lang/RuntimeException", "java/lang/Exception"]) (by decide) (by decide) cl_X10_76 th_IllegalArgumentException.2.2.2 (text := "no such kind, or its number is out of range") (by decide) th_IllegalArgumentException.1 th_IllegalArgumentException.2.1 th_IllegalArgumentException.2.2.1 rfl hw dX10_test_8 dX10_test_11 dX10_test_12 dX10_test_14 dX10_test_17 (Nat.le_of_ble_eq_true rfl) (Nat.le_of_ble_eq_true rfl) (Nat.le_of_ble_eq_true rfl) (Nat.le_of_ble_eq_true rfl) (Nat.le_of_ble_eq_true rfl) (Nat.le_of_ble_eq_true rfl)
  · have hw := ite_f hw c2
    refine r_iload_n E p0 rfl dX10_test_18 ?_
    refine r_callSI E (m_X9_partsOf (EE_st E) (GX X) p0 h _ hw) lk_X10_152 (RM_mk (Nat.le_of_ble_eq_true rfl) (Nat.le_of_ble_eq_true rfl)) rfl rfl rfl rfl (Nat.le_of_ble_eq_true rfl) rfl rfl (Nat.le_of_ble_eq_true rfl) (Nat.le_of_ble_eq_true rfl) dX10_test_19 (fun r3 u9 hw => ?_)
    obtain ⟨rfl, hw⟩ := hw
    refine r_istore E [some (rf X 10 0), some (.int p0), some (.int p1), some (.int p2), some (.int r3)] (Nat.le_of_ble_eq_true rfl) rfl dX10_test_22 ?_
    refine r_iload E r3 rfl dX10_test_24 ?_
    refine r_if_le E 40 (by decide) dX10_test_26 (fun c4 => ?_) (fun c4 => ?_)
    · have hw := ite_t hw c4
      exact GG_wid (Nat.le_of_ble_eq_true rfl) (Nat.le_of_ble_eq_true rfl) (GG_weak [true, true, true, true, true] rfl (t_X10_test_b40 h p0 p1 p2 r3 E hE hX  hw))
    · have hw := ite_f hw c4
      refine r_iload_n E p1 rfl dX10_test_29 ?_
      refine r_aload_n E 10 0 rfl dX10_test_30 ?_
      refine r_getS E fd_X10_10 (t := 0) (j1 := 9) rfl rfl rfl rfl (Nat.le_of_ble_eq_true rfl) (adr_lt (Nat.le_of_ble_eq_true rfl)) dX10_test_31 ?_
      refine r_getI E fd_X10_156 rfl (Nat.le_of_ble_eq_true rfl) (adr_lt (Nat.le_of_ble_eq_true rfl)) dX10_test_34 ?_
      refine r_xcallSV E hX (fun e u hx => by obtain ⟨rfl, hx⟩ := hx; exact hx) (Nat.le_of_ble_eq_true rfl) (Nat.le_of_ble_eq_true rfl) (m_X10_requireBelow (EE_st E) (GX X) p1 (gI h 9 0 4) h _ _ hw) lk_X10_112 (RM_mk (Nat.le_of_ble_eq_true rfl) (Nat.le_of_ble_eq_true rfl)) rfl rfl rfl rfl (Nat.le_of_ble_eq_true rfl) rfl rfl (Nat.le_of_ble_eq_true rfl) (Nat.le_of_ble_eq_true rfl) dX10_test_37 (fun u9 hw => ?_)
      obtain ⟨rfl, hw⟩ := hw
      exact GG_weak [true, true, true, true, true] rfl (t_X10_test_b40 h p0 p1 p2 r3 E hE hX  hw)
set_option maxRecDepth 20000 in
theorem m_X10_holds {l : Launch} (hl : l.stackTraces = false) (G : Gq) (p0 : Int32) (p1 : Int32)  (h : Hp) (Q : Int32 → Prop) (Z : String → Prop) (hw : wp_X10_holds p0 p1 h Q Z) : XI l G yX10_holds cX10_holds 4 (some .boolean) rm_X10_holds NT NT h (fun r => [r 10 0, .int p0, .int p1]) (fun r u => h = u ∧ isB r ∧ Q r) (fun e u => h = u ∧ Z e) := by
  refine XI_of (L0 := (fun X => [some (rf X 10 0), some (.int p0), some (.int p1), none])) hl (by decide +kernel) rfl (fun _ => Nat.le_of_ble_eq_true rfl) (fun _ => rfl) fun X hXl hXG E hE hX => ?_
  subst hXl; subst hXG
  unfold wp_X10_holds at hw
  refine r_iload_n E p0 rfl dX10_holds_0 ?_
  refine r_aload_n E 10 0 rfl dX10_holds_1 ?_
  refine r_getS E fd_X10_10 (t := 0) (j1 := 9) rfl rfl rfl rfl (Nat.le_of_ble_eq_true rfl) (adr_lt (Nat.le_of_ble_eq_true rfl)) dX10_holds_2 ?_
  refine r_getI E fd_X10_156 rfl (Nat.le_of_ble_eq_true rfl) (adr_lt (Nat.le_of_ble_eq_true rfl)) dX10_holds_5 ?_
  refine r_xcallSV E hX (fun e u hx => hx) (Nat.le_of_ble_eq_true rfl) (Nat.le_of_ble_eq_true rfl) (m_X10_requireBelow (EE_st E) (GX X) p0 (gI h 9 0 4) h _ _ hw) lk_X10_112 (RM_mk (Nat.le_of_ble_eq_true rfl) (Nat.le_of_ble_eq_true rfl)) rfl rfl rfl rfl (Nat.le_of_ble_eq_true rfl) rfl rfl (Nat.le_of_ble_eq_true rfl) (Nat.le_of_ble_eq_true rfl) dX10_holds_8 (fun u9 hw => ?_)
  obtain ⟨rfl, hw⟩ := hw
  refine r_iload_n E p1 rfl dX10_holds_11 ?_
  refine r_aload_n E 10 0 rfl dX10_holds_12 ?_
  refine r_getS E fd_X10_19 (t := 0) (j1 := 3) rfl rfl rfl rfl (Nat.le_of_ble_eq_true rfl) (adr_lt (Nat.le_of_ble_eq_true rfl)) dX10_holds_13 ?_
  refine r_getI E fd_X10_83 rfl (Nat.le_of_ble_eq_true rfl) (adr_lt (Nat.le_of_ble_eq_true rfl)) dX10_holds_16 ?_
  refine r_xcallSV E hX (fun e u hx => hx) (Nat.le_of_ble_eq_true rfl) (Nat.le_of_ble_eq_true rfl) (m_X10_requireBelow (EE_st E) (GX X) p1 (gI h 3 0 6) h _ _ hw) lk_X10_112 (RM_mk (Nat.le_of_ble_eq_true rfl) (Nat.le_of_ble_eq_true rfl)) rfl rfl rfl rfl (Nat.le_of_ble_eq_true rfl) rfl rfl (Nat.le_of_ble_eq_true rfl) (Nat.le_of_ble_eq_true rfl) dX10_holds_19 (fun u9 hw => ?_)
  obtain ⟨rfl, hw⟩ := hw
  refine r_aload_n E 10 0 rfl dX10_holds_22 ?_
  refine r_getS E fd_X10_19 (t := 0) (j1 := 3) rfl rfl rfl rfl (Nat.le_of_ble_eq_true rfl) (adr_lt (Nat.le_of_ble_eq_true rfl)) dX10_holds_23 ?_
  refine r_getS E fd_X10_127 (t := 0) (j1 := 15) rfl rfl rfl rfl (Nat.le_of_ble_eq_true rfl) (adr_lt (Nat.le_of_ble_eq_true rfl)) dX10_holds_26 ?_
  refine r_iload_n E p1 rfl dX10_holds_29 ?_
  obtain ⟨i1, hw⟩ := hw
  refine r_aaldS E (j1 := 2) (ta := 4) rfl rfl (Nat.le_of_ble_eq_true rfl) rfl rfl rfl (Nat.le_of_ble_eq_true rfl) (adr_lt (Nat.le_of_ble_eq_true rfl)) i1 rfl rfl dX10_holds_30 ?_
  refine r_astore_n E [some (rf X 10 0), some (.int p0), some (.int p1), some (rf X 2 p1.toNatClampNeg)] rfl (Nat.le_of_ble_eq_true rfl) rfl dX10_holds_31 ?_
  refine r_aload_n E 10 0 rfl dX10_holds_32 ?_
  refine r_getS E fd_X10_10 (t := 0) (j1 := 9) rfl rfl rfl rfl (Nat.le_of_ble_eq_true rfl) (adr_lt (Nat.le_of_ble_eq_true rfl)) dX10_holds_33 ?_
  refine r_aload_n E 2 p1.toNatClampNeg rfl dX10_holds_36 ?_
  refine r_aload_n E 2 p1.toNatClampNeg rfl dX10_holds_37 ?_
  refine r_getI E fd_X10_136 rfl (Nat.lt_of_lt_of_le (vp_in_lt i1) (Nat.le_of_ble_eq_true rfl)) (adr_lt (Nat.lt_of_lt_of_le (vp_in_lt i1) (Nat.le_of_ble_eq_true rfl))) dX10_holds_38 ?_
  refine r_callVL E (m_X9_truthFor (EE_st E) (GX X) p1.toNatClampNeg (gI h 2 p1.toNatClampNeg 7) (Nat.lt_of_lt_of_le (vp_in_lt i1) (Nat.le_of_ble_eq_true rfl)) h _ hw) lk_X10_166 (RM_mk (Nat.le_of_ble_eq_true rfl) (Nat.le_of_ble_eq_true rfl)) rfl rfl rfl rfl (Nat.le_of_ble_eq_true rfl) (adr_lt (Nat.le_of_ble_eq_true rfl)) (Nat.le_of_ble_eq_true rfl) rfl rfl (Nat.le_of_ble_eq_true rfl) (Nat.le_of_ble_eq_true rfl) dX10_holds_41 (fun r2 u9 hw => ?_)
  obtain ⟨rfl, hw⟩ := hw
  refine r_iload_n E p0 rfl dX10_holds_44 ?_
  refine r_callSI E (m_X10_hasBit_ (EE_st E) (GX X) r2 p0 h _ hw) lk_X10_170 (RM_mk (Nat.le_of_ble_eq_true rfl) (Nat.le_of_ble_eq_true rfl)) rfl rfl rfl rfl (Nat.le_of_ble_eq_true rfl) rfl rfl (Nat.le_of_ble_eq_true rfl) (Nat.le_of_ble_eq_true rfl) dX10_holds_45 (fun r3 u9 hw => ?_)
  obtain ⟨rfl, zr3, hw⟩ := hw
  exact hE _ _ _ _ _ _ (Nat.le_of_ble_eq_true rfl) (Nat.le_of_ble_eq_true rfl) dX10_holds_48 (isB_nar zr3) ⟨rfl, zr3, hw⟩
set_option maxRecDepth 20000 in
theorem m_X10_rule {l : Launch} (hl : l.stackTraces = false) (G : Gq) (p0 : Int32) (p1 : Int32)  (h : Hp) (Q : Int32 → Hp → Prop) (Z : String → Hp → Prop) (hw : wp_X10_rule p0 p1 h Q Z) : XI l G yX10_rule cX10_rule 4 (some .int) rm_X10_rule NT NT h (fun r => [r 10 0, .int p0, .int p1]) Q Z := by
  refine XI_of (L0 := (fun X => [some (rf X 10 0), some (.int p0), some (.int p1), none])) hl (by decide +kernel) rfl (fun _ => Nat.le_of_ble_eq_true rfl) (fun _ => rfl) fun X hXl hXG E hE hX => ?_
  subst hXl; subst hXG
  unfold wp_X10_rule at hw
  refine r_iload_n E p0 rfl dX10_rule_0 ?_
  refine r_iconst E 4 rfl dX10_rule_1 ?_
  refine r_xcallSV E hX (fun e u hx => by obtain ⟨rfl, hx⟩ := hx; exact hx) (Nat.le_of_ble_eq_true rfl) (Nat.le_of_ble_eq_true rfl) (m_X10_requireBelow (EE_st E) (GX X) p0 4 h _ _ hw) lk_X10_112 (RM_mk (Nat.le_of_ble_eq_true rfl) (Nat.le_of_ble_eq_true rfl)) rfl rfl rfl rfl (Nat.le_of_ble_eq_true rfl) rfl rfl (Nat.le_of_ble_eq_true rfl) (Nat.le_of_ble_eq_true rfl) dX10_rule_2 (fun u9 hw => ?_)
  obtain ⟨rfl, hw⟩ := hw
  refine r_iload_n E p1 rfl dX10_rule_5 ?_
  refine r_aload_n E 10 0 rfl dX10_rule_6 ?_
  refine r_getS E fd_X10_10 (t := 0) (j1 := 9) rfl rfl rfl rfl (Nat.le_of_ble_eq_true rfl) (adr_lt (Nat.le_of_ble_eq_true rfl)) dX10_rule_7 ?_
  refine r_getI E fd_X10_156 rfl (Nat.le_of_ble_eq_true rfl) (adr_lt (Nat.le_of_ble_eq_true rfl)) dX10_rule_10 ?_
  refine r_xcallSV E hX (fun e u hx => by obtain ⟨rfl, hx⟩ := hx; exact hx) (Nat.le_of_ble_eq_true rfl) (Nat.le_of_ble_eq_true rfl) (m_X10_requireBelow (EE_st E) (GX X) p1 (gI h 9 0 4) h _ _ hw) lk_X10_112 (RM_mk (Nat.le_of_ble_eq_true rfl) (Nat.le_of_ble_eq_true rfl)) rfl rfl rfl rfl (Nat.le_of_ble_eq_true rfl) rfl rfl (Nat.le_of_ble_eq_true rfl) (Nat.le_of_ble_eq_true rfl) dX10_rule_13 (fun u9 hw => ?_)
  obtain ⟨rfl, hw⟩ := hw
  refine r_aload_n E 10 0 rfl dX10_rule_16 ?_
  refine r_getS E fd_X10_25 (t := 0) (j1 := 21) rfl rfl rfl rfl (Nat.le_of_ble_eq_true rfl) (adr_lt (Nat.le_of_ble_eq_true rfl)) dX10_rule_17 ?_
  refine r_iload_n E p0 rfl dX10_rule_20 ?_
  obtain ⟨i1, hw⟩ := hw
  refine r_aaldS E (j1 := 7) (ta := 6) rfl rfl (Nat.le_of_ble_eq_true rfl) rfl rfl rfl (Nat.le_of_ble_eq_true rfl) (adr_lt (Nat.le_of_ble_eq_true rfl)) i1 rfl rfl dX10_rule_21 ?_
  refine r_astore_n E [some (rf X 10 0), some (.int p0), some (.int p1), some (rf X 7 p0.toNatClampNeg)] rfl (Nat.le_of_ble_eq_true rfl) rfl dX10_rule_22 ?_
  refine r_aload_n E 7 p0.toNatClampNeg rfl dX10_rule_23 ?_
  refine r_getI E fd_X10_173 rfl (Nat.lt_of_lt_of_le (vp_in_lt i1) (Nat.le_of_ble_eq_true rfl)) (adr_lt (Nat.lt_of_lt_of_le (vp_in_lt i1) (Nat.le_of_ble_eq_true rfl))) dX10_rule_24 ?_
  refine r_bipush E 12 rfl dX10_rule_27 ?_
  refine r_icmp_lt E 42 (by decide) dX10_rule_29 (fun c2 => ?_) (fun c2 => ?_)
  · have hw := ite_t hw c2
    refine r_aload_n E 7 p0.toNatClampNeg rfl dX10_rule_42 ?_
    refine r_iload_n E p1 rfl dX10_rule_43 ?_
    refine r_callVI E (m_X7_append (EE_st E) (GX X) p0.toNatClampNeg p1 (Nat.lt_of_lt_of_le (vp_in_lt i1) (Nat.le_of_ble_eq_true rfl)) h _ hw) lk_X10_176 (RM_mk (Nat.le_of_ble_eq_true rfl) (Nat.le_of_ble_eq_true rfl)) rfl rfl rfl rfl (Nat.lt_of_lt_of_le (vp_in_lt i1) (Nat.le_of_ble_eq_true rfl)) (adr_lt (Nat.lt_of_lt_of_le (vp_in_lt i1) (Nat.le_of_ble_eq_true rfl))) (Nat.le_of_ble_eq_true rfl) rfl rfl (Nat.le_of_ble_eq_true rfl) (Nat.le_of_ble_eq_true rfl) dX10_rule_44 (fun r3 h4 hw => ?_)
    exact hE _ _ _ _ _ _ (Nat.le_of_ble_eq_true rfl) (Nat.le_of_ble_eq_true rfl) dX10_rule_47 rfl hw
  · have hw := ite_f hw c2
    exact r_throw E hX rfl rfl (names := ["java/lang/RuntimeException", "java/lang/Exception"]) (by decide) (by decide) cl_X10_87 th_IllegalStateException.2.2.2 (text := "the script has 12 rules") (by decide) th_IllegalStateException.1 th_IllegalStateException.2.1 th_IllegalStateException.2.2.1 rfl hw dX10_rule_32 dX10_rule_35 dX10_rule_36 dX10_rule_38 dX10_rule_41 (Nat.le_of_ble_eq_true rfl) (Nat.le_of_ble_eq_true rfl) (Nat.le_of_ble_eq_true rfl) (Nat.le_of_ble_eq_true rfl) (Nat.le_of_ble_eq_true rfl) (Nat.le_of_ble_eq_true rfl)
set_option maxRecDepth 20000 in
theorem m_X10_requireRule {l : Launch} (hl : l.stackTraces = false) (G : Gq) (p0 : Int32) (p1 : Int32)  (h : Hp) (Q : Prop) (Z : String → Prop) (hw : wp_X10_requireRule p0 p1 h Q Z) : XV l G yX10_requireRule cX10_requireRule 3 none rm_X10_requireRule NT NT h (fun r => [r 10 0, .int p0, .int p1]) (fun u => h = u ∧ Q) (fun e u => h = u ∧ Z e) := by
  refine XV_of (L0 := (fun X => [some (rf X 10 0), some (.int p0), some (.int p1)])) hl (by decide +kernel) rfl (fun _ => Nat.le_of_ble_eq_true rfl) (fun _ => rfl) fun X hXl hXG E hE hX => ?_
  subst hXl; subst hXG
  unfold wp_X10_requireRule at hw
  refine r_iload_n E p0 rfl dX10_requireRule_0 ?_
  refine r_iconst E 4 rfl dX10_requireRule_1 ?_
  refine r_xcallSV E hX (fun e u hx => hx) (Nat.le_of_ble_eq_true rfl) (Nat.le_of_ble_eq_true rfl) (m_X10_requireBelow (EE_st E) (GX X) p0 4 h _ _ hw) lk_X10_112 (RM_mk (Nat.le_of_ble_eq_true rfl) (Nat.le_of_ble_eq_true rfl)) rfl rfl rfl rfl (Nat.le_of_ble_eq_true rfl) rfl rfl (Nat.le_of_ble_eq_true rfl) (Nat.le_of_ble_eq_true rfl) dX10_requireRule_2 (fun u9 hw => ?_)
  obtain ⟨rfl, hw⟩ := hw
  refine r_iload_n E p1 rfl dX10_requireRule_5 ?_
  refine r_aload_n E 10 0 rfl dX10_requireRule_6 ?_
  refine r_getS E fd_X10_25 (t := 0) (j1 := 21) rfl rfl rfl rfl (Nat.le_of_ble_eq_true rfl) (adr_lt (Nat.le_of_ble_eq_true rfl)) dX10_requireRule_7 ?_
  refine r_iload_n E p0 rfl dX10_requireRule_10 ?_
  obtain ⟨i1, hw⟩ := hw
  refine r_aaldS E (j1 := 7) (ta := 6) rfl rfl (Nat.le_of_ble_eq_true rfl) rfl rfl rfl (Nat.le_of_ble_eq_true rfl) (adr_lt (Nat.le_of_ble_eq_true rfl)) i1 rfl rfl dX10_requireRule_11 ?_
  refine r_getI E fd_X10_173 rfl (Nat.lt_of_lt_of_le (vp_in_lt i1) (Nat.le_of_ble_eq_true rfl)) (adr_lt (Nat.lt_of_lt_of_le (vp_in_lt i1) (Nat.le_of_ble_eq_true rfl))) dX10_requireRule_12 ?_
  refine r_xcallSV E hX (fun e u hx => hx) (Nat.le_of_ble_eq_true rfl) (Nat.le_of_ble_eq_true rfl) (m_X10_requireBelow (EE_st E) (GX X) p1 (gI h 7 p0.toNatClampNeg 1) h _ _ hw) lk_X10_112 (RM_mk (Nat.le_of_ble_eq_true rfl) (Nat.le_of_ble_eq_true rfl)) rfl rfl rfl rfl (Nat.le_of_ble_eq_true rfl) rfl rfl (Nat.le_of_ble_eq_true rfl) (Nat.le_of_ble_eq_true rfl) dX10_requireRule_15 (fun u9 hw => ?_)
  obtain ⟨rfl, hw⟩ := hw
  exact hE _ _ _ _ _ (Nat.le_of_ble_eq_true rfl) (Nat.le_of_ble_eq_true rfl) dX10_requireRule_18 ⟨rfl, hw⟩
set_option maxRecDepth 20000 in
theorem m_X10_action {l : Launch} (hl : l.stackTraces = false) (G : Gq) (p0 : Int32) (p1 : Int32) (p2 : Int32) (p3 : Int32)  (h : Hp) (Q : Int32 → Hp → Prop) (Z : String → Hp → Prop) (hw : wp_X10_action p0 p1 p2 p3 h Q Z) : XI l G yX10_action cX10_action 6 (some .int) rm_X10_action NT NT h (fun r => [r 10 0, .int p0, .int p1, .int p2, .int p3]) Q Z := by
  refine XI_of (L0 := (fun X => [some (rf X 10 0), some (.int p0), some (.int p1), some (.int p2), some (.int p3), none])) hl (by decide +kernel) rfl (fun _ => Nat.le_of_ble_eq_true rfl) (fun _ => rfl) fun X hXl hXG E hE hX => ?_
  subst hXl; subst hXG
  unfold wp_X10_action at hw
  refine r_aload_n E 10 0 rfl dX10_action_0 ?_
  refine r_iload_n E p0 rfl dX10_action_1 ?_
  refine r_iload_n E p1 rfl dX10_action_2 ?_
  refine r_xcallVV E hX (fun e u hx => by obtain ⟨rfl, hx⟩ := hx; exact hx) (Nat.le_of_ble_eq_true rfl) (Nat.le_of_ble_eq_true rfl) (m_X10_requireRule (EE_st E) (GX X) p0 p1 h _ _ hw) lk_X10_178 (RM_mk (Nat.le_of_ble_eq_true rfl) (Nat.le_of_ble_eq_true rfl)) rfl rfl rfl rfl (Nat.le_of_ble_eq_true rfl) (adr_lt (Nat.le_of_ble_eq_true rfl)) (Nat.le_of_ble_eq_true rfl) rfl rfl (Nat.le_of_ble_eq_true rfl) (Nat.le_of_ble_eq_true rfl) dX10_action_3 (fun u9 hw => ?_)
  obtain ⟨rfl, hw⟩ := hw
  refine r_iload_n E p2 rfl dX10_action_6 ?_
  refine r_iload E p3 rfl dX10_action_7 ?_
  refine r_callSI E (m_X6_allows (EE_st E) (GX X) p2 p3 h _ hw) lk_X10_181 (RM_mk (Nat.le_of_ble_eq_true rfl) (Nat.le_of_ble_eq_true rfl)) rfl rfl rfl rfl (Nat.le_of_ble_eq_true rfl) rfl rfl (Nat.le_of_ble_eq_true rfl) (Nat.le_of_ble_eq_true rfl) dX10_action_9 (fun r1 u9 hw => ?_)
  obtain ⟨rfl, zr1, hw⟩ := hw
  refine r_if_ne E 25 (by decide) dX10_action_12 (fun c2 => ?_) (fun c2 => ?_)
  · have hw := ite_t hw c2
    exact r_throw E hX rfl rfl (names := ["java/lang/RuntimeException", "java/lang/Exception"]) (by decide) (by decide) cl_X10_76 th_IllegalArgumentException.2.2.2 (text := "no such kind, or its number is out of range") (by decide) th_IllegalArgumentException.1 th_IllegalArgumentException.2.1 th_IllegalArgumentException.2.2.1 rfl hw dX10_action_15 dX10_action_18 dX10_action_19 dX10_action_21 dX10_action_24 (Nat.le_of_ble_eq_true rfl) (Nat.le_of_ble_eq_true rfl) (Nat.le_of_ble_eq_true rfl) (Nat.le_of_ble_eq_true rfl) (Nat.le_of_ble_eq_true rfl) (Nat.le_of_ble_eq_true rfl)
  · have hw := ite_f hw c2
    refine r_aload_n E 10 0 rfl dX10_action_25 ?_
    refine r_getS E fd_X10_25 (t := 0) (j1 := 21) rfl rfl rfl rfl (Nat.le_of_ble_eq_true rfl) (adr_lt (Nat.le_of_ble_eq_true rfl)) dX10_action_26 ?_
    refine r_iload_n E p0 rfl dX10_action_29 ?_
    obtain ⟨i3, hw⟩ := hw
    refine r_aaldS E (j1 := 7) (ta := 6) rfl rfl (Nat.le_of_ble_eq_true rfl) rfl rfl rfl (Nat.le_of_ble_eq_true rfl) (adr_lt (Nat.le_of_ble_eq_true rfl)) i3 rfl rfl dX10_action_30 ?_
    refine r_getS E fd_X10_184 (t := p0.toNatClampNeg) (j1 := 22) rfl rfl rfl rfl (Nat.lt_of_lt_of_le (vp_in_lt i3) (Nat.le_of_ble_eq_true rfl)) (adr_lt (Nat.lt_of_lt_of_le (vp_in_lt i3) (Nat.le_of_ble_eq_true rfl))) dX10_action_31 ?_
    refine r_iload_n E p1 rfl dX10_action_34 ?_
    obtain ⟨i4, hw⟩ := hw
    obtain ⟨e5, hve5, hbe5, hw⟩ := hw
    refine r_aald E (t := e5) (j1 := 6) (ta := 5) rfl rfl (Nat.le_of_ble_eq_true rfl) rfl rfl rfl (Nat.lt_of_lt_of_le (vp_in_lt i3) (Nat.le_of_ble_eq_true rfl)) (adr_lt (Nat.lt_of_lt_of_le (vp_in_lt i3) (Nat.le_of_ble_eq_true rfl))) i4 hve5 dX10_action_35 ?_
    refine r_astore E [some (rf X 10 0), some (.int p0), some (.int p1), some (.int p2), some (.int p3), some (rf X 6 e5)] (Nat.le_of_ble_eq_true rfl) rfl dX10_action_36 ?_
    refine r_aload E 6 e5 rfl dX10_action_38 ?_
    refine r_getI E fd_X10_188 rfl hbe5 (adr_lt hbe5) dX10_action_40 ?_
    refine r_iconst E 5 rfl dX10_action_43 ?_
    refine r_icmp_lt E 57 (by decide) dX10_action_44 (fun c6 => ?_) (fun c6 => ?_)
    · have hw := ite_t hw c6
      refine r_aload E 6 e5 rfl dX10_action_57 ?_
      refine r_iload_n E p2 rfl dX10_action_59 ?_
      refine r_iload E p3 rfl dX10_action_60 ?_
      refine r_callVI E (m_X6_append (EE_st E) (GX X) e5 p2 p3 hbe5 h _ hw) lk_X10_191 (RM_mk (Nat.le_of_ble_eq_true rfl) (Nat.le_of_ble_eq_true rfl)) rfl rfl rfl rfl hbe5 (adr_lt hbe5) (Nat.le_of_ble_eq_true rfl) rfl rfl (Nat.le_of_ble_eq_true rfl) (Nat.le_of_ble_eq_true rfl) dX10_action_62 (fun r7 h8 hw => ?_)
      exact hE _ _ _ _ _ _ (Nat.le_of_ble_eq_true rfl) (Nat.le_of_ble_eq_true rfl) dX10_action_65 rfl hw
    · have hw := ite_f hw c6
      exact r_throw E hX rfl rfl (names := ["java/lang/RuntimeException", "java/lang/Exception"]) (by decide) (by decide) cl_X10_87 th_IllegalStateException.2.2.2 (text := "the rule has 5 actions") (by decide) th_IllegalStateException.1 th_IllegalStateException.2.1 th_IllegalStateException.2.2.1 rfl hw dX10_action_47 dX10_action_50 dX10_action_51 dX10_action_53 dX10_action_56 (Nat.le_of_ble_eq_true rfl) (Nat.le_of_ble_eq_true rfl) (Nat.le_of_ble_eq_true rfl) (Nat.le_of_ble_eq_true rfl) (Nat.le_of_ble_eq_true rfl) (Nat.le_of_ble_eq_true rfl)
set_option maxRecDepth 20000 in
theorem m_X10_clear {l : Launch} (hl : l.stackTraces = false) (G : Gq) (p0 : Int32)  (h : Hp) (Q : Int32 → Hp → Prop) (Z : String → Hp → Prop) (hw : wp_X10_clear p0 h Q Z) : XI l G yX10_clear cX10_clear 3 (some .int) rm_X10_clear NT NT h (fun r => [r 10 0, .int p0]) Q Z := by
  refine XI_of (L0 := (fun X => [some (rf X 10 0), some (.int p0), none])) hl (by decide +kernel) rfl (fun _ => Nat.le_of_ble_eq_true rfl) (fun _ => rfl) fun X hXl hXG E hE hX => ?_
  subst hXl; subst hXG
  unfold wp_X10_clear at hw
  refine r_iload_n E p0 rfl dX10_clear_0 ?_
  refine r_iconst E 4 rfl dX10_clear_1 ?_
  refine r_xcallSV E hX (fun e u hx => by obtain ⟨rfl, hx⟩ := hx; exact hx) (Nat.le_of_ble_eq_true rfl) (Nat.le_of_ble_eq_true rfl) (m_X10_requireBelow (EE_st E) (GX X) p0 4 h _ _ hw) lk_X10_112 (RM_mk (Nat.le_of_ble_eq_true rfl) (Nat.le_of_ble_eq_true rfl)) rfl rfl rfl rfl (Nat.le_of_ble_eq_true rfl) rfl rfl (Nat.le_of_ble_eq_true rfl) (Nat.le_of_ble_eq_true rfl) dX10_clear_2 (fun u9 hw => ?_)
  obtain ⟨rfl, hw⟩ := hw
  refine r_aload_n E 10 0 rfl dX10_clear_5 ?_
  refine r_getS E fd_X10_25 (t := 0) (j1 := 21) rfl rfl rfl rfl (Nat.le_of_ble_eq_true rfl) (adr_lt (Nat.le_of_ble_eq_true rfl)) dX10_clear_6 ?_
  refine r_iload_n E p0 rfl dX10_clear_9 ?_
  obtain ⟨i1, hw⟩ := hw
  refine r_aaldS E (j1 := 7) (ta := 6) rfl rfl (Nat.le_of_ble_eq_true rfl) rfl rfl rfl (Nat.le_of_ble_eq_true rfl) (adr_lt (Nat.le_of_ble_eq_true rfl)) i1 rfl rfl dX10_clear_10 ?_
  refine r_getI E fd_X10_173 rfl (Nat.lt_of_lt_of_le (vp_in_lt i1) (Nat.le_of_ble_eq_true rfl)) (adr_lt (Nat.lt_of_lt_of_le (vp_in_lt i1) (Nat.le_of_ble_eq_true rfl))) dX10_clear_11 ?_
  refine GG_topI fun v2 hv2 => ?_
  have hw := hw v2 hv2
  refine r_istore_n E [some (rf X 10 0), some (.int p0), some (.int v2)] rfl (Nat.le_of_ble_eq_true rfl) rfl dX10_clear_14 ?_
  refine r_aload_n E 10 0 rfl dX10_clear_15 ?_
  refine r_getS E fd_X10_25 (t := 0) (j1 := 21) rfl rfl rfl rfl (Nat.le_of_ble_eq_true rfl) (adr_lt (Nat.le_of_ble_eq_true rfl)) dX10_clear_16 ?_
  refine r_iload_n E p0 rfl dX10_clear_19 ?_
  refine r_aaldS E (j1 := 7) (ta := 6) rfl rfl (Nat.le_of_ble_eq_true rfl) rfl rfl rfl (Nat.le_of_ble_eq_true rfl) (adr_lt (Nat.le_of_ble_eq_true rfl)) i1 rfl rfl dX10_clear_20 ?_
  refine r_iconst E 0 rfl dX10_clear_21 ?_
  refine r_putI E fd_X10_173 rfl PI_int (Nat.lt_of_lt_of_le (vp_in_lt i1) (Nat.le_of_ble_eq_true rfl)) (adr_lt (Nat.lt_of_lt_of_le (vp_in_lt i1) (Nat.le_of_ble_eq_true rfl))) rfl dX10_clear_22 ?_
  refine GG_toph fun h3 hh3 => ?_
  have hw := hw h3 hh3
  refine r_iload_n E v2 rfl dX10_clear_25 ?_
  exact hE _ _ _ _ _ _ (Nat.le_of_ble_eq_true rfl) (Nat.le_of_ble_eq_true rfl) dX10_clear_26 rfl hw
set_option maxRecDepth 20000 in
theorem m_X10_reorder {l : Launch} (hl : l.stackTraces = false) (G : Gq) (p0 : Int32) (p1 : Int32) (p2 : Int32)  (h : Hp) (Q : Int32 → Hp → Prop) (Z : String → Hp → Prop) (hw : wp_X10_reorder p0 p1 p2 h Q Z) : XI l G yX10_reorder cX10_reorder 4 (some .int) rm_X10_reorder NT NT h (fun r => [r 10 0, .int p0, .int p1, .int p2]) Q Z := by
  refine XI_of (L0 := (fun X => [some (rf X 10 0), some (.int p0), some (.int p1), some (.int p2)])) hl (by decide +kernel) rfl (fun _ => Nat.le_of_ble_eq_true rfl) (fun _ => rfl) fun X hXl hXG E hE hX => ?_
  subst hXl; subst hXG
  unfold wp_X10_reorder at hw
  refine r_aload_n E 10 0 rfl dX10_reorder_0 ?_
  refine r_iload_n E p0 rfl dX10_reorder_1 ?_
  refine r_iload_n E p1 rfl dX10_reorder_2 ?_
  refine r_xcallVV E hX (fun e u hx => by obtain ⟨rfl, hx⟩ := hx; exact hx) (Nat.le_of_ble_eq_true rfl) (Nat.le_of_ble_eq_true rfl) (m_X10_requireRule (EE_st E) (GX X) p0 p1 h _ _ hw) lk_X10_178 (RM_mk (Nat.le_of_ble_eq_true rfl) (Nat.le_of_ble_eq_true rfl)) rfl rfl rfl rfl (Nat.le_of_ble_eq_true rfl) (adr_lt (Nat.le_of_ble_eq_true rfl)) (Nat.le_of_ble_eq_true rfl) rfl rfl (Nat.le_of_ble_eq_true rfl) (Nat.le_of_ble_eq_true rfl) dX10_reorder_3 (fun u9 hw => ?_)
  obtain ⟨rfl, hw⟩ := hw
  refine r_aload_n E 10 0 rfl dX10_reorder_6 ?_
  refine r_iload_n E p0 rfl dX10_reorder_7 ?_
  refine r_iload_n E p2 rfl dX10_reorder_8 ?_
  refine r_xcallVV E hX (fun e u hx => by obtain ⟨rfl, hx⟩ := hx; exact hx) (Nat.le_of_ble_eq_true rfl) (Nat.le_of_ble_eq_true rfl) (m_X10_requireRule (EE_st E) (GX X) p0 p2 h _ _ hw) lk_X10_178 (RM_mk (Nat.le_of_ble_eq_true rfl) (Nat.le_of_ble_eq_true rfl)) rfl rfl rfl rfl (Nat.le_of_ble_eq_true rfl) (adr_lt (Nat.le_of_ble_eq_true rfl)) (Nat.le_of_ble_eq_true rfl) rfl rfl (Nat.le_of_ble_eq_true rfl) (Nat.le_of_ble_eq_true rfl) dX10_reorder_9 (fun u9 hw => ?_)
  obtain ⟨rfl, hw⟩ := hw
  refine r_aload_n E 10 0 rfl dX10_reorder_12 ?_
  refine r_getS E fd_X10_25 (t := 0) (j1 := 21) rfl rfl rfl rfl (Nat.le_of_ble_eq_true rfl) (adr_lt (Nat.le_of_ble_eq_true rfl)) dX10_reorder_13 ?_
  refine r_iload_n E p0 rfl dX10_reorder_16 ?_
  obtain ⟨i1, hw⟩ := hw
  refine r_aaldS E (j1 := 7) (ta := 6) rfl rfl (Nat.le_of_ble_eq_true rfl) rfl rfl rfl (Nat.le_of_ble_eq_true rfl) (adr_lt (Nat.le_of_ble_eq_true rfl)) i1 rfl rfl dX10_reorder_17 ?_
  refine r_iload_n E p1 rfl dX10_reorder_18 ?_
  refine r_iload_n E p2 rfl dX10_reorder_19 ?_
  refine r_callVV E (m_X7_shift (EE_st E) (GX X) p0.toNatClampNeg p1 p2 (Nat.lt_of_lt_of_le (vp_in_lt i1) (Nat.le_of_ble_eq_true rfl)) h _ hw) lk_X10_194 (RM_mk (Nat.le_of_ble_eq_true rfl) (Nat.le_of_ble_eq_true rfl)) rfl rfl rfl rfl (Nat.lt_of_lt_of_le (vp_in_lt i1) (Nat.le_of_ble_eq_true rfl)) (adr_lt (Nat.lt_of_lt_of_le (vp_in_lt i1) (Nat.le_of_ble_eq_true rfl))) (Nat.le_of_ble_eq_true rfl) rfl rfl (Nat.le_of_ble_eq_true rfl) (Nat.le_of_ble_eq_true rfl) dX10_reorder_20 (fun h2 hw => ?_)
  refine r_aload_n E 10 0 rfl dX10_reorder_23 ?_
  refine r_getS E fd_X10_25 (t := 0) (j1 := 21) rfl rfl rfl rfl (Nat.le_of_ble_eq_true rfl) (adr_lt (Nat.le_of_ble_eq_true rfl)) dX10_reorder_24 ?_
  refine r_iload_n E p0 rfl dX10_reorder_27 ?_
  refine r_aaldS E (j1 := 7) (ta := 6) rfl rfl (Nat.le_of_ble_eq_true rfl) rfl rfl rfl (Nat.le_of_ble_eq_true rfl) (adr_lt (Nat.le_of_ble_eq_true rfl)) i1 rfl rfl dX10_reorder_28 ?_
  refine r_getI E fd_X10_173 rfl (Nat.lt_of_lt_of_le (vp_in_lt i1) (Nat.le_of_ble_eq_true rfl)) (adr_lt (Nat.lt_of_lt_of_le (vp_in_lt i1) (Nat.le_of_ble_eq_true rfl))) dX10_reorder_29 ?_
  exact hE _ _ _ _ _ _ (Nat.le_of_ble_eq_true rfl) (Nat.le_of_ble_eq_true rfl) dX10_reorder_32 rfl hw
set_option maxRecDepth 20000 in
theorem m_X10_deliver {l : Launch} (hl : l.stackTraces = false) (G : Gq) (p0 : Int32)  (h : Hp) (Q : Int32 → Hp → Prop) (Z : String → Hp → Prop) (hw : wp_X10_deliver p0 h Q Z) : XI l G yX10_deliver cX10_deliver 2 (some .int) rm_X10_deliver NT NT h (fun r => [r 10 0, .int p0]) Q Z := by
  refine XI_of (L0 := (fun X => [some (rf X 10 0), some (.int p0)])) hl (by decide +kernel) rfl (fun _ => Nat.le_of_ble_eq_true rfl) (fun _ => rfl) fun X hXl hXG E hE hX => ?_
  subst hXl; subst hXG
  unfold wp_X10_deliver at hw
  refine r_iload_n E p0 rfl dX10_deliver_0 ?_
  refine r_aload_n E 10 0 rfl dX10_deliver_1 ?_
  refine r_getS E fd_X10_19 (t := 0) (j1 := 3) rfl rfl rfl rfl (Nat.le_of_ble_eq_true rfl) (adr_lt (Nat.le_of_ble_eq_true rfl)) dX10_deliver_2 ?_
  refine r_getI E fd_X10_83 rfl (Nat.le_of_ble_eq_true rfl) (adr_lt (Nat.le_of_ble_eq_true rfl)) dX10_deliver_5 ?_
  refine r_xcallSV E hX (fun e u hx => by obtain ⟨rfl, hx⟩ := hx; exact hx) (Nat.le_of_ble_eq_true rfl) (Nat.le_of_ble_eq_true rfl) (m_X10_requireBelow (EE_st E) (GX X) p0 (gI h 3 0 6) h _ _ hw) lk_X10_112 (RM_mk (Nat.le_of_ble_eq_true rfl) (Nat.le_of_ble_eq_true rfl)) rfl rfl rfl rfl (Nat.le_of_ble_eq_true rfl) rfl rfl (Nat.le_of_ble_eq_true rfl) (Nat.le_of_ble_eq_true rfl) dX10_deliver_8 (fun u9 hw => ?_)
  obtain ⟨rfl, hw⟩ := hw
  refine r_aload_n E 10 0 rfl dX10_deliver_11 ?_
  refine r_getS E fd_X10_35 (t := 0) (j1 := 0) rfl rfl rfl rfl (Nat.le_of_ble_eq_true rfl) (adr_lt (Nat.le_of_ble_eq_true rfl)) dX10_deliver_12 ?_
  refine r_iconst E 0 rfl dX10_deliver_15 ?_
  refine r_iload_n E p0 rfl dX10_deliver_16 ?_
  refine r_aload_n E 10 0 rfl dX10_deliver_17 ?_
  refine r_getS E fd_X10_42 (t := 1) (j1 := 5) rfl rfl rfl rfl (Nat.le_of_ble_eq_true rfl) (adr_lt (Nat.le_of_ble_eq_true rfl)) dX10_deliver_18 ?_
  refine r_callVV E (m_X0_perform (EE_st E) (GX X) 0 p0 1 (Nat.le_of_ble_eq_true rfl) h _ hw) lk_X10_197 (RM_mk (Nat.le_of_ble_eq_true rfl) (Nat.le_of_ble_eq_true rfl)) rfl rfl rfl rfl (Nat.le_of_ble_eq_true rfl) (adr_lt (Nat.le_of_ble_eq_true rfl)) (Nat.le_of_ble_eq_true rfl) rfl rfl (Nat.le_of_ble_eq_true rfl) (Nat.le_of_ble_eq_true rfl) dX10_deliver_21 (fun h1 hw => ?_)
  refine r_aload_n E 10 0 rfl dX10_deliver_24 ?_
  refine r_getS E fd_X10_19 (t := 0) (j1 := 3) rfl rfl rfl rfl (Nat.le_of_ble_eq_true rfl) (adr_lt (Nat.le_of_ble_eq_true rfl)) dX10_deliver_25 ?_
  refine r_iload_n E p0 rfl dX10_deliver_28 ?_
  refine r_aload_n E 10 0 rfl dX10_deliver_29 ?_
  refine r_getS E fd_X10_42 (t := 1) (j1 := 5) rfl rfl rfl rfl (Nat.le_of_ble_eq_true rfl) (adr_lt (Nat.le_of_ble_eq_true rfl)) dX10_deliver_30 ?_
  refine r_callVV E (m_X3_carryOut (EE_st E) (GX X) p0 1 (Nat.le_of_ble_eq_true rfl) h1 _ hw) lk_X10_201 (RM_mk (Nat.le_of_ble_eq_true rfl) (Nat.le_of_ble_eq_true rfl)) rfl rfl rfl rfl (Nat.le_of_ble_eq_true rfl) (adr_lt (Nat.le_of_ble_eq_true rfl)) (Nat.le_of_ble_eq_true rfl) rfl rfl (Nat.le_of_ble_eq_true rfl) (Nat.le_of_ble_eq_true rfl) dX10_deliver_33 (fun h2 hw => ?_)
  refine r_aload_n E 10 0 rfl dX10_deliver_36 ?_
  refine r_getS E fd_X10_42 (t := 1) (j1 := 5) rfl rfl rfl rfl (Nat.le_of_ble_eq_true rfl) (adr_lt (Nat.le_of_ble_eq_true rfl)) dX10_deliver_37 ?_
  refine r_getI E fd_X10_205 rfl (Nat.le_of_ble_eq_true rfl) (adr_lt (Nat.le_of_ble_eq_true rfl)) dX10_deliver_40 ?_
  exact hE _ _ _ _ _ _ (Nat.le_of_ble_eq_true rfl) (Nat.le_of_ble_eq_true rfl) dX10_deliver_43 rfl hw
set_option maxRecDepth 20000 in
theorem m_X10_attempt {l : Launch} (hl : l.stackTraces = false) (G : Gq) (p0 : Int32) (p1 : Int32)  (h : Hp) (Q : Int32 → Hp → Prop) (Z : String → Hp → Prop) (hw : wp_X10_attempt p0 p1 h Q Z) : XI l G yX10_attempt cX10_attempt 3 (some .int) rm_X10_attempt NT NT h (fun r => [r 10 0, .int p0, .int p1]) Q Z := by
  refine XI_of (L0 := (fun X => [some (rf X 10 0), some (.int p0), some (.int p1)])) hl (by decide +kernel) rfl (fun _ => Nat.le_of_ble_eq_true rfl) (fun _ => rfl) fun X hXl hXG E hE hX => ?_
  subst hXl; subst hXG
  unfold wp_X10_attempt at hw
  refine r_iload_n E p0 rfl dX10_attempt_0 ?_
  refine r_iconst E 4 rfl dX10_attempt_1 ?_
  refine r_xcallSV E hX (fun e u hx => by obtain ⟨rfl, hx⟩ := hx; exact hx) (Nat.le_of_ble_eq_true rfl) (Nat.le_of_ble_eq_true rfl) (m_X10_requireBelow (EE_st E) (GX X) p0 4 h _ _ hw) lk_X10_112 (RM_mk (Nat.le_of_ble_eq_true rfl) (Nat.le_of_ble_eq_true rfl)) rfl rfl rfl rfl (Nat.le_of_ble_eq_true rfl) rfl rfl (Nat.le_of_ble_eq_true rfl) (Nat.le_of_ble_eq_true rfl) dX10_attempt_2 (fun u9 hw => ?_)
  obtain ⟨rfl, hw⟩ := hw
  refine r_iload_n E p1 rfl dX10_attempt_5 ?_
  refine r_aload_n E 10 0 rfl dX10_attempt_6 ?_
  refine r_getS E fd_X10_19 (t := 0) (j1 := 3) rfl rfl rfl rfl (Nat.le_of_ble_eq_true rfl) (adr_lt (Nat.le_of_ble_eq_true rfl)) dX10_attempt_7 ?_
  refine r_getI E fd_X10_83 rfl (Nat.le_of_ble_eq_true rfl) (adr_lt (Nat.le_of_ble_eq_true rfl)) dX10_attempt_10 ?_
  refine r_xcallSV E hX (fun e u hx => by obtain ⟨rfl, hx⟩ := hx; exact hx) (Nat.le_of_ble_eq_true rfl) (Nat.le_of_ble_eq_true rfl) (m_X10_requireBelow (EE_st E) (GX X) p1 (gI h 3 0 6) h _ _ hw) lk_X10_112 (RM_mk (Nat.le_of_ble_eq_true rfl) (Nat.le_of_ble_eq_true rfl)) rfl rfl rfl rfl (Nat.le_of_ble_eq_true rfl) rfl rfl (Nat.le_of_ble_eq_true rfl) (Nat.le_of_ble_eq_true rfl) dX10_attempt_13 (fun u9 hw => ?_)
  obtain ⟨rfl, hw⟩ := hw
  refine r_aload_n E 10 0 rfl dX10_attempt_16 ?_
  refine r_getS E fd_X10_35 (t := 0) (j1 := 0) rfl rfl rfl rfl (Nat.le_of_ble_eq_true rfl) (adr_lt (Nat.le_of_ble_eq_true rfl)) dX10_attempt_17 ?_
  refine r_iload_n E p0 rfl dX10_attempt_20 ?_
  refine r_iload_n E p1 rfl dX10_attempt_21 ?_
  refine r_aload_n E 10 0 rfl dX10_attempt_22 ?_
  refine r_getS E fd_X10_42 (t := 1) (j1 := 5) rfl rfl rfl rfl (Nat.le_of_ble_eq_true rfl) (adr_lt (Nat.le_of_ble_eq_true rfl)) dX10_attempt_23 ?_
  refine r_callVV E (m_X0_perform (EE_st E) (GX X) p0 p1 1 (Nat.le_of_ble_eq_true rfl) h _ hw) lk_X10_197 (RM_mk (Nat.le_of_ble_eq_true rfl) (Nat.le_of_ble_eq_true rfl)) rfl rfl rfl rfl (Nat.le_of_ble_eq_true rfl) (adr_lt (Nat.le_of_ble_eq_true rfl)) (Nat.le_of_ble_eq_true rfl) rfl rfl (Nat.le_of_ble_eq_true rfl) (Nat.le_of_ble_eq_true rfl) dX10_attempt_26 (fun h1 hw => ?_)
  refine r_aload_n E 10 0 rfl dX10_attempt_29 ?_
  refine r_getS E fd_X10_42 (t := 1) (j1 := 5) rfl rfl rfl rfl (Nat.le_of_ble_eq_true rfl) (adr_lt (Nat.le_of_ble_eq_true rfl)) dX10_attempt_30 ?_
  refine r_getI E fd_X10_205 rfl (Nat.le_of_ble_eq_true rfl) (adr_lt (Nat.le_of_ble_eq_true rfl)) dX10_attempt_33 ?_
  exact hE _ _ _ _ _ _ (Nat.le_of_ble_eq_true rfl) (Nat.le_of_ble_eq_true rfl) dX10_attempt_36 rfl hw
set_option maxRecDepth 20000 in
theorem m_X10_done {l : Launch} (hl : l.stackTraces = false) (G : Gq)   (h : Hp) (Q : Int32 → Prop) (hw : wp_X10_done  h Q) : MI l G yX10_done cX10_done 1 (some .int) rm_X10_done NT NT h (fun r => [r 10 0]) (fun r u => h = u ∧ Q r) := by
  refine MI_of (L0 := (fun X => [some (rf X 10 0)])) hl (by decide +kernel) rfl (fun _ => Nat.le_of_ble_eq_true rfl) (fun _ => rfl) fun X hXl hXG E hE => ?_
  subst hXl; subst hXG
  unfold wp_X10_done at hw
  refine r_aload_n E 10 0 rfl dX10_done_0 ?_
  refine r_getS E fd_X10_42 (t := 1) (j1 := 5) rfl rfl rfl rfl (Nat.le_of_ble_eq_true rfl) (adr_lt (Nat.le_of_ble_eq_true rfl)) dX10_done_1 ?_
  refine r_getI E fd_X10_208 rfl (Nat.le_of_ble_eq_true rfl) (adr_lt (Nat.le_of_ble_eq_true rfl)) dX10_done_4 ?_
  exact hE _ _ _ _ _ _ (Nat.le_of_ble_eq_true rfl) (Nat.le_of_ble_eq_true rfl) dX10_done_7 rfl ⟨rfl, hw⟩
set_option maxRecDepth 20000 in
theorem m_X10_doneAt {l : Launch} (hl : l.stackTraces = false) (G : Gq) (p0 : Int32)  (h : Hp) (Q : Int32 → Prop) (Z : String → Prop) (hw : wp_X10_doneAt p0 h Q Z) : XI l G yX10_doneAt cX10_doneAt 2 (some .int) rm_X10_doneAt NT NT h (fun r => [r 10 0, .int p0]) (fun r u => h = u ∧ Q r) (fun e u => h = u ∧ Z e) := by
  refine XI_of (L0 := (fun X => [some (rf X 10 0), some (.int p0)])) hl (by decide +kernel) rfl (fun _ => Nat.le_of_ble_eq_true rfl) (fun _ => rfl) fun X hXl hXG E hE hX => ?_
  subst hXl; subst hXG
  unfold wp_X10_doneAt at hw
  refine r_iload_n E p0 rfl dX10_doneAt_0 ?_
  refine r_aload_n E 10 0 rfl dX10_doneAt_1 ?_
  refine r_getS E fd_X10_42 (t := 1) (j1 := 5) rfl rfl rfl rfl (Nat.le_of_ble_eq_true rfl) (adr_lt (Nat.le_of_ble_eq_true rfl)) dX10_doneAt_2 ?_
  refine r_getI E fd_X10_208 rfl (Nat.le_of_ble_eq_true rfl) (adr_lt (Nat.le_of_ble_eq_true rfl)) dX10_doneAt_5 ?_
  refine r_xcallSV E hX (fun e u hx => hx) (Nat.le_of_ble_eq_true rfl) (Nat.le_of_ble_eq_true rfl) (m_X10_requireBelow (EE_st E) (GX X) p0 (gI h 5 1 4) h _ _ hw) lk_X10_112 (RM_mk (Nat.le_of_ble_eq_true rfl) (Nat.le_of_ble_eq_true rfl)) rfl rfl rfl rfl (Nat.le_of_ble_eq_true rfl) rfl rfl (Nat.le_of_ble_eq_true rfl) (Nat.le_of_ble_eq_true rfl) dX10_doneAt_8 (fun u9 hw => ?_)
  obtain ⟨rfl, hw⟩ := hw
  refine r_aload_n E 10 0 rfl dX10_doneAt_11 ?_
  refine r_getS E fd_X10_42 (t := 1) (j1 := 5) rfl rfl rfl rfl (Nat.le_of_ble_eq_true rfl) (adr_lt (Nat.le_of_ble_eq_true rfl)) dX10_doneAt_12 ?_
  refine r_getS E fd_X10_211 (t := 1) (j1 := 26) rfl rfl rfl rfl (Nat.le_of_ble_eq_true rfl) (adr_lt (Nat.le_of_ble_eq_true rfl)) dX10_doneAt_15 ?_
  refine r_iload_n E p0 rfl dX10_doneAt_18 ?_
  obtain ⟨i1, hw⟩ := hw
  refine r_iald E rfl rfl rfl (Nat.le_of_ble_eq_true rfl) (adr_lt (Nat.le_of_ble_eq_true rfl)) i1 dX10_doneAt_19 ?_
  exact hE _ _ _ _ _ _ (Nat.le_of_ble_eq_true rfl) (Nat.le_of_ble_eq_true rfl) dX10_doneAt_20 rfl ⟨rfl, hw⟩
set_option maxRecDepth 20000 in
theorem m_X10_clashes {l : Launch} (hl : l.stackTraces = false) (G : Gq)   (h : Hp) (Q : Int32 → Prop) (hw : wp_X10_clashes  h Q) : MI l G yX10_clashes cX10_clashes 1 (some .int) rm_X10_clashes NT NT h (fun r => [r 10 0]) (fun r u => h = u ∧ Q r) := by
  refine MI_of (L0 := (fun X => [some (rf X 10 0)])) hl (by decide +kernel) rfl (fun _ => Nat.le_of_ble_eq_true rfl) (fun _ => rfl) fun X hXl hXG E hE => ?_
  subst hXl; subst hXG
  unfold wp_X10_clashes at hw
  refine r_aload_n E 10 0 rfl dX10_clashes_0 ?_
  refine r_getS E fd_X10_42 (t := 1) (j1 := 5) rfl rfl rfl rfl (Nat.le_of_ble_eq_true rfl) (adr_lt (Nat.le_of_ble_eq_true rfl)) dX10_clashes_1 ?_
  refine r_getI E fd_X10_214 rfl (Nat.le_of_ble_eq_true rfl) (adr_lt (Nat.le_of_ble_eq_true rfl)) dX10_clashes_4 ?_
  exact hE _ _ _ _ _ _ (Nat.le_of_ble_eq_true rfl) (Nat.le_of_ble_eq_true rfl) dX10_clashes_7 rfl ⟨rfl, hw⟩
set_option maxRecDepth 20000 in
theorem m_X10_faults {l : Launch} (hl : l.stackTraces = false) (G : Gq) (p0 : Int32)  (h : Hp) (Q : Int32 → Prop) (Z : String → Prop) (hw : wp_X10_faults p0 h Q Z) : XI l G yX10_faults cX10_faults 2 (some .int) rm_X10_faults NT NT h (fun r => [r 10 0, .int p0]) (fun r u => h = u ∧ Q r) (fun e u => h = u ∧ Z e) := by
  refine XI_of (L0 := (fun X => [some (rf X 10 0), some (.int p0)])) hl (by decide +kernel) rfl (fun _ => Nat.le_of_ble_eq_true rfl) (fun _ => rfl) fun X hXl hXG E hE hX => ?_
  subst hXl; subst hXG
  unfold wp_X10_faults at hw
  refine r_iload_n E p0 rfl dX10_faults_0 ?_
  rcases Decidable.em (p0 = 105) with c1 | c1
  · have hw := ite_t hw c1
    refine r_lookup E (off := 35) 36 dX10_faults_1 (by decide) (by rw [c1]; rfl) (by decide) ?_
    refine r_aload_n E 10 0 rfl dX10_faults_36 ?_
    refine r_getS E fd_X10_42 (t := 1) (j1 := 5) rfl rfl rfl rfl (Nat.le_of_ble_eq_true rfl) (adr_lt (Nat.le_of_ble_eq_true rfl)) dX10_faults_37 ?_
    refine r_getI E fd_X10_217 rfl (Nat.le_of_ble_eq_true rfl) (adr_lt (Nat.le_of_ble_eq_true rfl)) dX10_faults_40 ?_
    exact hE _ _ _ _ _ _ (Nat.le_of_ble_eq_true rfl) (Nat.le_of_ble_eq_true rfl) dX10_faults_43 rfl ⟨rfl, hw⟩
  · have hw := ite_f hw c1
    rcases Decidable.em (p0 = 113) with c2 | c2
    · have hw := ite_t hw c2
      refine r_lookup E (off := 51) 52 dX10_faults_1 (by decide) (by rw [c2]; rfl) (by decide) ?_
      refine r_aload_n E 10 0 rfl dX10_faults_52 ?_
      refine r_getS E fd_X10_42 (t := 1) (j1 := 5) rfl rfl rfl rfl (Nat.le_of_ble_eq_true rfl) (adr_lt (Nat.le_of_ble_eq_true rfl)) dX10_faults_53 ?_
      refine r_getI E fd_X10_223 rfl (Nat.le_of_ble_eq_true rfl) (adr_lt (Nat.le_of_ble_eq_true rfl)) dX10_faults_56 ?_
      exact hE _ _ _ _ _ _ (Nat.le_of_ble_eq_true rfl) (Nat.le_of_ble_eq_true rfl) dX10_faults_59 rfl ⟨rfl, hw⟩
    · have hw := ite_f hw c2
      rcases Decidable.em (p0 = 119) with c3 | c3
      · have hw := ite_t hw c3
        refine r_lookup E (off := 43) 44 dX10_faults_1 (by decide) (by rw [c3]; rfl) (by decide) ?_
        refine r_aload_n E 10 0 rfl dX10_faults_44 ?_
        refine r_getS E fd_X10_42 (t := 1) (j1 := 5) rfl rfl rfl rfl (Nat.le_of_ble_eq_true rfl) (adr_lt (Nat.le_of_ble_eq_true rfl)) dX10_faults_45 ?_
        refine r_getI E fd_X10_220 rfl (Nat.le_of_ble_eq_true rfl) (adr_lt (Nat.le_of_ble_eq_true rfl)) dX10_faults_48 ?_
        exact hE _ _ _ _ _ _ (Nat.le_of_ble_eq_true rfl) (Nat.le_of_ble_eq_true rfl) dX10_faults_51 rfl ⟨rfl, hw⟩
      · have hw := ite_f hw c3
        refine r_lookup E (off := 59) 60 dX10_faults_1 (by decide) (by show Op.lookupswitch.offset [(105, 35), (113, 51), (119, 43)] 59 _ = 59; rw [lv_osw (a := 105) c1 rfl, lv_osw (a := 113) c2 rfl, lv_osw (a := 119) c3 rfl]; rfl) (by decide) ?_
        exact r_throw E hX rfl rfl (names := ["java/lang/RuntimeException", "java/lang/Exception"]) (by decide) (by decide) cl_X10_76 th_IllegalArgumentException.2.2.2 (text := "no such kind of fault") (by decide) th_IllegalArgumentException.1 th_IllegalArgumentException.2.1 th_IllegalArgumentException.2.2.1 rfl ⟨rfl, hw⟩ dX10_faults_60 dX10_faults_63 dX10_faults_64 dX10_faults_66 dX10_faults_69 (Nat.le_of_ble_eq_true rfl) (Nat.le_of_ble_eq_true rfl) (Nat.le_of_ble_eq_true rfl) (Nat.le_of_ble_eq_true rfl) (Nat.le_of_ble_eq_true rfl) (Nat.le_of_ble_eq_true rfl)
set_option maxRecDepth 20000 in
theorem m_X10_flags {l : Launch} (hl : l.stackTraces = false) (G : Gq)   (h : Hp) (Q : Int32 → Prop) (hw : wp_X10_flags  h Q) : MI l G yX10_flags cX10_flags 1 (some .int) rm_X10_flags NT NT h (fun r => [r 10 0]) (fun r u => h = u ∧ Q r) := by
  refine MI_of (L0 := (fun X => [some (rf X 10 0)])) hl (by decide +kernel) rfl (fun _ => Nat.le_of_ble_eq_true rfl) (fun _ => rfl) fun X hXl hXG E hE => ?_
  subst hXl; subst hXG
  unfold wp_X10_flags at hw
  refine r_aload_n E 10 0 rfl dX10_flags_0 ?_
  refine r_getS E fd_X10_42 (t := 1) (j1 := 5) rfl rfl rfl rfl (Nat.le_of_ble_eq_true rfl) (adr_lt (Nat.le_of_ble_eq_true rfl)) dX10_flags_1 ?_
  refine r_getI E fd_X10_228 rfl (Nat.le_of_ble_eq_true rfl) (adr_lt (Nat.le_of_ble_eq_true rfl)) dX10_flags_4 ?_
  exact hE _ _ _ _ _ _ (Nat.le_of_ble_eq_true rfl) (Nat.le_of_ble_eq_true rfl) dX10_flags_7 rfl ⟨rfl, hw⟩
set_option maxRecDepth 20000 in
theorem m_X10_replies {l : Launch} (hl : l.stackTraces = false) (G : Gq) (p0 : Int32)  (h : Hp) (Q : Int32 → Prop) (Z : String → Prop) (hw : wp_X10_replies p0 h Q Z) : XI l G yX10_replies cX10_replies 2 (some .int) rm_X10_replies NT NT h (fun r => [r 10 0, .int p0]) (fun r u => h = u ∧ Q r) (fun e u => h = u ∧ Z e) := by
  refine XI_of (L0 := (fun X => [some (rf X 10 0), some (.int p0)])) hl (by decide +kernel) rfl (fun _ => Nat.le_of_ble_eq_true rfl) (fun _ => rfl) fun X hXl hXG E hE hX => ?_
  subst hXl; subst hXG
  unfold wp_X10_replies at hw
  refine r_iload_n E p0 rfl dX10_replies_0 ?_
  refine r_bipush E 10 rfl dX10_replies_1 ?_
  refine r_xcallSV E hX (fun e u hx => hx) (Nat.le_of_ble_eq_true rfl) (Nat.le_of_ble_eq_true rfl) (m_X10_requireBelow (EE_st E) (GX X) p0 10 h _ _ hw) lk_X10_112 (RM_mk (Nat.le_of_ble_eq_true rfl) (Nat.le_of_ble_eq_true rfl)) rfl rfl rfl rfl (Nat.le_of_ble_eq_true rfl) rfl rfl (Nat.le_of_ble_eq_true rfl) (Nat.le_of_ble_eq_true rfl) dX10_replies_3 (fun u9 hw => ?_)
  obtain ⟨rfl, hw⟩ := hw
  refine r_aload_n E 10 0 rfl dX10_replies_6 ?_
  refine r_getS E fd_X10_19 (t := 0) (j1 := 3) rfl rfl rfl rfl (Nat.le_of_ble_eq_true rfl) (adr_lt (Nat.le_of_ble_eq_true rfl)) dX10_replies_7 ?_
  refine r_getS E fd_X10_229 (t := 0) (j1 := 18) rfl rfl rfl rfl (Nat.le_of_ble_eq_true rfl) (adr_lt (Nat.le_of_ble_eq_true rfl)) dX10_replies_10 ?_
  refine r_iload_n E p0 rfl dX10_replies_13 ?_
  obtain ⟨i1, hw⟩ := hw
  refine r_iald E rfl rfl rfl (Nat.le_of_ble_eq_true rfl) (adr_lt (Nat.le_of_ble_eq_true rfl)) i1 dX10_replies_14 ?_
  exact hE _ _ _ _ _ _ (Nat.le_of_ble_eq_true rfl) (Nat.le_of_ble_eq_true rfl) dX10_replies_15 rfl ⟨rfl, hw⟩
set_option maxRecDepth 20000 in
theorem m_X10_forwarded {l : Launch} (hl : l.stackTraces = false) (G : Gq) (p0 : Int32)  (h : Hp) (Q : Int32 → Prop) (Z : String → Prop) (hw : wp_X10_forwarded p0 h Q Z) : XI l G yX10_forwarded cX10_forwarded 2 (some .int) rm_X10_forwarded NT NT h (fun r => [r 10 0, .int p0]) (fun r u => h = u ∧ Q r) (fun e u => h = u ∧ Z e) := by
  refine XI_of (L0 := (fun X => [some (rf X 10 0), some (.int p0)])) hl (by decide +kernel) rfl (fun _ => Nat.le_of_ble_eq_true rfl) (fun _ => rfl) fun X hXl hXG E hE hX => ?_
  subst hXl; subst hXG
  unfold wp_X10_forwarded at hw
  refine r_iload_n E p0 rfl dX10_forwarded_0 ?_
  refine r_bipush E 10 rfl dX10_forwarded_1 ?_
  refine r_xcallSV E hX (fun e u hx => hx) (Nat.le_of_ble_eq_true rfl) (Nat.le_of_ble_eq_true rfl) (m_X10_requireBelow (EE_st E) (GX X) p0 10 h _ _ hw) lk_X10_112 (RM_mk (Nat.le_of_ble_eq_true rfl) (Nat.le_of_ble_eq_true rfl)) rfl rfl rfl rfl (Nat.le_of_ble_eq_true rfl) rfl rfl (Nat.le_of_ble_eq_true rfl) (Nat.le_of_ble_eq_true rfl) dX10_forwarded_3 (fun u9 hw => ?_)
  obtain ⟨rfl, hw⟩ := hw
  refine r_aload_n E 10 0 rfl dX10_forwarded_6 ?_
  refine r_getS E fd_X10_19 (t := 0) (j1 := 3) rfl rfl rfl rfl (Nat.le_of_ble_eq_true rfl) (adr_lt (Nat.le_of_ble_eq_true rfl)) dX10_forwarded_7 ?_
  refine r_getS E fd_X10_232 (t := 0) (j1 := 19) rfl rfl rfl rfl (Nat.le_of_ble_eq_true rfl) (adr_lt (Nat.le_of_ble_eq_true rfl)) dX10_forwarded_10 ?_
  refine r_iload_n E p0 rfl dX10_forwarded_13 ?_
  obtain ⟨i1, hw⟩ := hw
  refine r_iald E rfl rfl rfl (Nat.le_of_ble_eq_true rfl) (adr_lt (Nat.le_of_ble_eq_true rfl)) i1 dX10_forwarded_14 ?_
  exact hE _ _ _ _ _ _ (Nat.le_of_ble_eq_true rfl) (Nat.le_of_ble_eq_true rfl) dX10_forwarded_15 rfl ⟨rfl, hw⟩
set_option maxRecDepth 20000 in
theorem t_X10_difference_b100 {X : Ctx} (h : Hp) (x1 : Int32) (x2 : Int32) (x3 : Int32) (x4 : Int32)  (E : EE X cX10_difference RX10 7 26 632 2 12) {Q : Int32 → Hp → Prop} {Z : String → Hp → Prop} (hE : ENDi X cX10_difference .int Q NT 2 12) (hX : QX X Z 2 12 NT) (P15 : Int32 → Int32 → Hp → Prop) (hP15 : ∀ (y3 : Int32) (y4 : Int32) (u : Hp), P15 y3 y4 u → GG X 2 12 NT u [some (rf X 10 0), some (.int x1), some (.int x2), some (.int y3), some (.int y4), none, none] 15 []) (hw : wp_X10_difference_b100 x1 x2 x3 x4 h P15 Q Z) : GG X 2 12 NT h [some (rf X 10 0), some (.int x1), some (.int x2), some (.int x3), some (.int x4), none, none] 100 [] := by
  unfold wp_X10_difference_b100 at hw
  obtain ⟨v1, hv1⟩ : ∃ y : Int32, y = x4 + 1 := ⟨_, rfl⟩
  have hw := hw v1 hv1
  refine r_iinc E x4 v1 [some (rf X 10 0), some (.int x1), some (.int x2), some (.int x3), some (.int v1), none, none] rfl (by rw [hv1]; rfl) (Nat.le_of_ble_eq_true rfl) rfl dX10_difference_100 ?_
  refine r_goto E 15 (by decide) dX10_difference_103 ?_
  exact GG_weak [true, true, true, true, true, false, false] rfl (hP15 _ _ _ hw)
set_option maxRecDepth 20000 in
theorem t_X10_difference_b97 {X : Ctx} (h : Hp) (x1 : Int32) (x2 : Int32) (x3 : Int32) (x4 : Int32)  (E : EE X cX10_difference RX10 7 26 632 2 12) {Q : Int32 → Hp → Prop} {Z : String → Hp → Prop} (hE : ENDi X cX10_difference .int Q NT 2 12) (hX : QX X Z 2 12 NT) (P15 : Int32 → Int32 → Hp → Prop) (hP15 : ∀ (y3 : Int32) (y4 : Int32) (u : Hp), P15 y3 y4 u → GG X 2 12 NT u [some (rf X 10 0), some (.int x1), some (.int x2), some (.int y3), some (.int y4), none, none] 15 []) (hw : wp_X10_difference_b97 x1 x2 x3 x4 h P15 Q Z) : GG X 2 12 NT h [some (rf X 10 0), some (.int x1), some (.int x2), some (.int x3), some (.int x4), none, none] 97 [] := by
  unfold wp_X10_difference_b97 at hw
  obtain ⟨v1, hv1⟩ : ∃ y : Int32, y = x3 + 1 := ⟨_, rfl⟩
  have hw := hw v1 hv1
  refine r_iinc E x3 v1 [some (rf X 10 0), some (.int x1), some (.int x2), some (.int v1), some (.int x4), none, none] rfl (by rw [hv1]; rfl) (Nat.le_of_ble_eq_true rfl) rfl dX10_difference_97 ?_
  exact GG_weak [true, true, true, true, true, false, false] rfl (t_X10_difference_b100 h x1 x2 v1 x4 E hE hX P15 hP15  hw)
set_option maxRecDepth 20000 in
theorem t_X10_difference_b15F {X : Ctx} (h : Hp) (x1 : Int32) (x2 : Int32) (x3 : Int32) (x4 : Int32)  (E : EE X cX10_difference RX10 7 26 632 2 12) {Q : Int32 → Hp → Prop} {Z : String → Hp → Prop} (hE : ENDi X cX10_difference .int Q NT 2 12) (hX : QX X Z 2 12 NT)  (P15 : Int32 → Int32 → Hp → Prop) (hP15 : ∀ (y3 : Int32) (y4 : Int32) (u : Hp), P15 y3 y4 u → GG X 2 12 NT u [some (rf X 10 0), some (.int x1), some (.int x2), some (.int y3), some (.int y4), none, none] 15 []) (hw : wp_X10_difference_b15F x1 x2   Q Z P15 x3 x4 h) : GG X 2 12 NT h [some (rf X 10 0), some (.int x1), some (.int x2), some (.int x3), some (.int x4), none, none] 15 [] := by
  unfold wp_X10_difference_b15F at hw
  refine r_iload E x4 rfl dX10_difference_15 ?_
  refine r_aload_n E 10 0 rfl dX10_difference_17 ?_
  refine r_getS E fd_X10_19 (t := 0) (j1 := 3) rfl rfl rfl rfl (Nat.le_of_ble_eq_true rfl) (adr_lt (Nat.le_of_ble_eq_true rfl)) dX10_difference_18 ?_
  refine r_getI E fd_X10_83 rfl (Nat.le_of_ble_eq_true rfl) (adr_lt (Nat.le_of_ble_eq_true rfl)) dX10_difference_21 ?_
  refine r_icmp_ge E 106 (by decide) dX10_difference_24 (fun c1 => ?_) (fun c1 => ?_)
  · have hw := ite_t hw c1
    refine r_iload_n E x3 rfl dX10_difference_106 ?_
    exact hE _ _ _ _ _ _ (Nat.le_of_ble_eq_true rfl) (Nat.le_of_ble_eq_true rfl) dX10_difference_107 rfl hw
  · have hw := ite_f hw c1
    refine r_aload_n E 10 0 rfl dX10_difference_27 ?_
    refine r_getS E fd_X10_35 (t := 0) (j1 := 0) rfl rfl rfl rfl (Nat.le_of_ble_eq_true rfl) (adr_lt (Nat.le_of_ble_eq_true rfl)) dX10_difference_28 ?_
    refine r_iload_n E x1 rfl dX10_difference_31 ?_
    refine r_iload E x4 rfl dX10_difference_32 ?_
    refine r_aload_n E 10 0 rfl dX10_difference_34 ?_
    refine r_getS E fd_X10_46 (t := 2) (j1 := 5) rfl rfl rfl rfl (Nat.le_of_ble_eq_true rfl) (adr_lt (Nat.le_of_ble_eq_true rfl)) dX10_difference_35 ?_
    refine r_callVV E (m_X0_perform (EE_st E) (GX X) x1 x4 2 (Nat.le_of_ble_eq_true rfl) h _ hw) lk_X10_197 (RM_mk (Nat.le_of_ble_eq_true rfl) (Nat.le_of_ble_eq_true rfl)) rfl rfl rfl rfl (Nat.le_of_ble_eq_true rfl) (adr_lt (Nat.le_of_ble_eq_true rfl)) (Nat.le_of_ble_eq_true rfl) rfl rfl (Nat.le_of_ble_eq_true rfl) (Nat.le_of_ble_eq_true rfl) dX10_difference_38 (fun h2 hw => ?_)
    refine r_aload_n E 10 0 rfl dX10_difference_41 ?_
    refine r_getS E fd_X10_46 (t := 2) (j1 := 5) rfl rfl rfl rfl (Nat.le_of_ble_eq_true rfl) (adr_lt (Nat.le_of_ble_eq_true rfl)) dX10_difference_42 ?_
    refine r_getI E fd_X10_205 rfl (Nat.le_of_ble_eq_true rfl) (adr_lt (Nat.le_of_ble_eq_true rfl)) dX10_difference_45 ?_
    refine GG_topI fun v3 hv3 => ?_
    have hw := hw v3 hv3
    refine r_istore E [some (rf X 10 0), some (.int x1), some (.int x2), some (.int x3), some (.int x4), some (.int v3), none] (Nat.le_of_ble_eq_true rfl) rfl dX10_difference_48 ?_
    refine r_aload_n E 10 0 rfl dX10_difference_50 ?_
    refine r_getS E fd_X10_46 (t := 2) (j1 := 5) rfl rfl rfl rfl (Nat.le_of_ble_eq_true rfl) (adr_lt (Nat.le_of_ble_eq_true rfl)) dX10_difference_51 ?_
    refine r_getI E fd_X10_228 rfl (Nat.le_of_ble_eq_true rfl) (adr_lt (Nat.le_of_ble_eq_true rfl)) dX10_difference_54 ?_
    refine GG_topI fun v4 hv4 => ?_
    have hw := hw v4 hv4
    refine r_istore E [some (rf X 10 0), some (.int x1), some (.int x2), some (.int x3), some (.int x4), some (.int v3), some (.int v4)] (Nat.le_of_ble_eq_true rfl) rfl dX10_difference_57 ?_
    refine r_aload_n E 10 0 rfl dX10_difference_59 ?_
    refine r_getS E fd_X10_35 (t := 0) (j1 := 0) rfl rfl rfl rfl (Nat.le_of_ble_eq_true rfl) (adr_lt (Nat.le_of_ble_eq_true rfl)) dX10_difference_60 ?_
    refine r_iload_n E x2 rfl dX10_difference_63 ?_
    refine r_iload E x4 rfl dX10_difference_64 ?_
    refine r_aload_n E 10 0 rfl dX10_difference_66 ?_
    refine r_getS E fd_X10_46 (t := 2) (j1 := 5) rfl rfl rfl rfl (Nat.le_of_ble_eq_true rfl) (adr_lt (Nat.le_of_ble_eq_true rfl)) dX10_difference_67 ?_
    refine r_callVV E (m_X0_perform (EE_st E) (GX X) x2 x4 2 (Nat.le_of_ble_eq_true rfl) h2 _ hw) lk_X10_197 (RM_mk (Nat.le_of_ble_eq_true rfl) (Nat.le_of_ble_eq_true rfl)) rfl rfl rfl rfl (Nat.le_of_ble_eq_true rfl) (adr_lt (Nat.le_of_ble_eq_true rfl)) (Nat.le_of_ble_eq_true rfl) rfl rfl (Nat.le_of_ble_eq_true rfl) (Nat.le_of_ble_eq_true rfl) dX10_difference_70 (fun h5 hw => ?_)
    refine r_aload_n E 10 0 rfl dX10_difference_73 ?_
    refine r_getS E fd_X10_46 (t := 2) (j1 := 5) rfl rfl rfl rfl (Nat.le_of_ble_eq_true rfl) (adr_lt (Nat.le_of_ble_eq_true rfl)) dX10_difference_74 ?_
    refine r_getI E fd_X10_205 rfl (Nat.le_of_ble_eq_true rfl) (adr_lt (Nat.le_of_ble_eq_true rfl)) dX10_difference_77 ?_
    refine r_iload E v3 rfl dX10_difference_80 ?_
    refine r_icmp_ne E 97 (by decide) dX10_difference_82 (fun c6 => ?_) (fun c6 => ?_)
    · have hw := ite_t hw c6
      refine r_aload_n E 10 0 rfl dX10_difference_85 ?_
      refine r_getS E fd_X10_46 (t := 2) (j1 := 5) rfl rfl rfl rfl (Nat.le_of_ble_eq_true rfl) (adr_lt (Nat.le_of_ble_eq_true rfl)) dX10_difference_86 ?_
      refine r_getI E fd_X10_228 rfl (Nat.le_of_ble_eq_true rfl) (adr_lt (Nat.le_of_ble_eq_true rfl)) dX10_difference_89 ?_
      refine r_iload E v4 rfl dX10_difference_92 ?_
      refine r_icmp_eq E 100 (by decide) dX10_difference_94 (fun c7 => ?_) (fun c7 => ?_)
      · have hw := ite_t hw c7
        exact GG_weak [true, true, true, true, true, false, false] rfl (t_X10_difference_b100 h5 x1 x2 x3 x4 E hE hX P15 hP15  hw)
      · have hw := ite_f hw c7
        exact GG_weak [true, true, true, true, true, false, false] rfl (t_X10_difference_b97 h5 x1 x2 x3 x4 E hE hX P15 hP15  hw)
    · have hw := ite_f hw c6
      exact GG_weak [true, true, true, true, true, false, false] rfl (t_X10_difference_b97 h5 x1 x2 x3 x4 E hE hX P15 hP15  hw)
set_option maxRecDepth 20000 in
theorem t_X10_difference_b15 {X : Ctx} (h : Hp) (x1 : Int32) (x2 : Int32) (x3 : Int32) (x4 : Int32)  (E : EE X cX10_difference RX10 7 26 632 2 12) {Q : Int32 → Hp → Prop} {Z : String → Hp → Prop} (hE : ENDi X cX10_difference .int Q NT 2 12) (hX : QX X Z 2 12 NT)  (hw : wp_X10_difference_b15 x1 x2 x3 x4 h  Q Z) : GG X 2 12 NT h [some (rf X 10 0), some (.int x1), some (.int x2), some (.int x3), some (.int x4), none, none] 15 [] :=
  hw (fun y3 y4 u => GG X 2 12 NT u [some (rf X 10 0), some (.int x1), some (.int x2), some (.int y3), some (.int y4), none, none] 15 []) (fun y3 y4 u hq => t_X10_difference_b15F u x1 x2 y3 y4  E hE hX  (fun y3 y4 u => GG X 2 12 NT u [some (rf X 10 0), some (.int x1), some (.int x2), some (.int y3), some (.int y4), none, none] 15 []) (fun y3 y4 u q => q) hq)
set_option maxRecDepth 20000 in
theorem m_X10_difference {l : Launch} (hl : l.stackTraces = false) (G : Gq) (p0 : Int32) (p1 : Int32)  (h : Hp) (Q : Int32 → Hp → Prop) (Z : String → Hp → Prop) (hw : wp_X10_difference p0 p1 h Q Z) : XI l G yX10_difference cX10_difference 7 (some .int) rm_X10_difference NT NT h (fun r => [r 10 0, .int p0, .int p1]) Q Z := by
  refine XI_of (L0 := (fun X => [some (rf X 10 0), some (.int p0), some (.int p1), none, none, none, none])) hl (by decide +kernel) rfl (fun _ => Nat.le_of_ble_eq_true rfl) (fun _ => rfl) fun X hXl hXG E hE hX => ?_
  subst hXl; subst hXG
  unfold wp_X10_difference at hw
  refine r_iload_n E p0 rfl dX10_difference_0 ?_
  refine r_iconst E 4 rfl dX10_difference_1 ?_
  refine r_xcallSV E hX (fun e u hx => by obtain ⟨rfl, hx⟩ := hx; exact hx) (Nat.le_of_ble_eq_true rfl) (Nat.le_of_ble_eq_true rfl) (m_X10_requireBelow (EE_st E) (GX X) p0 4 h _ _ hw) lk_X10_112 (RM_mk (Nat.le_of_ble_eq_true rfl) (Nat.le_of_ble_eq_true rfl)) rfl rfl rfl rfl (Nat.le_of_ble_eq_true rfl) rfl rfl (Nat.le_of_ble_eq_true rfl) (Nat.le_of_ble_eq_true rfl) dX10_difference_2 (fun u9 hw => ?_)
  obtain ⟨rfl, hw⟩ := hw
  refine r_iload_n E p1 rfl dX10_difference_5 ?_
  refine r_iconst E 4 rfl dX10_difference_6 ?_
  refine r_xcallSV E hX (fun e u hx => by obtain ⟨rfl, hx⟩ := hx; exact hx) (Nat.le_of_ble_eq_true rfl) (Nat.le_of_ble_eq_true rfl) (m_X10_requireBelow (EE_st E) (GX X) p1 4 h _ _ hw) lk_X10_112 (RM_mk (Nat.le_of_ble_eq_true rfl) (Nat.le_of_ble_eq_true rfl)) rfl rfl rfl rfl (Nat.le_of_ble_eq_true rfl) rfl rfl (Nat.le_of_ble_eq_true rfl) (Nat.le_of_ble_eq_true rfl) dX10_difference_7 (fun u9 hw => ?_)
  obtain ⟨rfl, hw⟩ := hw
  refine r_iconst E 0 rfl dX10_difference_10 ?_
  refine r_istore_n E [some (rf X 10 0), some (.int p0), some (.int p1), some (.int 0), none, none, none] rfl (Nat.le_of_ble_eq_true rfl) rfl dX10_difference_11 ?_
  refine r_iconst E 0 rfl dX10_difference_12 ?_
  refine r_istore E [some (rf X 10 0), some (.int p0), some (.int p1), some (.int 0), some (.int 0), none, none] (Nat.le_of_ble_eq_true rfl) rfl dX10_difference_13 ?_
  exact GG_weak [true, true, true, true, true, false, false] rfl (t_X10_difference_b15 h p0 p1 0 0 E hE hX  hw)
set_option maxRecDepth 20000 in
theorem t_X10_isNeverDone_b46 {X : Ctx} (h : Hp) (x2 : Int32) (o3 : Nat) (x4 : Int64) (x6 : Int32) (ho3 : o3 < 4) (E : EE X cX10_isNeverDone RX10 7 45 1394 0 0) {Q : Int32 → Hp → Prop} (hE : ENDi X cX10_isNeverDone .boolean (fun r u => isB r ∧ Q r u) NT 0 0) (P16 : Int64 → Int32 → Hp → Prop) (hP16 : ∀ (y4 : Int64) (y6 : Int32) (u : Hp), P16 y4 y6 u → GG X 0 0 NT u [some (rf X 10 0), none, some (.int x2), some (rf X 22 o3), some (.long y4), none, some (.int y6)] 16 []) (hw : wp_X10_isNeverDone_b46 x2 o3 x4 x6 h P16 Q) : GG X 0 0 NT h [some (rf X 10 0), none, some (.int x2), some (rf X 22 o3), some (.long x4), none, some (.int x6)] 46 [] := by
  unfold wp_X10_isNeverDone_b46 at hw
  obtain ⟨v1, hv1⟩ : ∃ y : Int32, y = x6 + 1 := ⟨_, rfl⟩
  have hw := hw v1 hv1
  refine r_iinc E x6 v1 [some (rf X 10 0), none, some (.int x2), some (rf X 22 o3), some (.long x4), none, some (.int v1)] rfl (by rw [hv1]; rfl) (Nat.le_of_ble_eq_true rfl) rfl dX10_isNeverDone_46 ?_
  refine r_goto E 16 (by decide) dX10_isNeverDone_49 ?_
  exact GG_weak [true, false, true, true, true, false, true] rfl (hP16 _ _ _ hw)
set_option maxRecDepth 20000 in
theorem t_X10_isNeverDone_b16F {X : Ctx} (h : Hp) (x2 : Int32) (o3 : Nat) (x4 : Int64) (x6 : Int32) (ho3 : o3 < 4) (E : EE X cX10_isNeverDone RX10 7 45 1394 0 0) {Q : Int32 → Hp → Prop} (hE : ENDi X cX10_isNeverDone .boolean (fun r u => isB r ∧ Q r u) NT 0 0)  (P16 : Int64 → Int32 → Hp → Prop) (hP16 : ∀ (y4 : Int64) (y6 : Int32) (u : Hp), P16 y4 y6 u → GG X 0 0 NT u [some (rf X 10 0), none, some (.int x2), some (rf X 22 o3), some (.long y4), none, some (.int y6)] 16 []) (hw : wp_X10_isNeverDone_b16F x2 o3   Q P16 x4 x6 h) : GG X 0 0 NT h [some (rf X 10 0), none, some (.int x2), some (rf X 22 o3), some (.long x4), none, some (.int x6)] 16 [] := by
  unfold wp_X10_isNeverDone_b16F at hw
  refine r_iload E x6 rfl dX10_isNeverDone_16 ?_
  refine r_iload_n E x2 rfl dX10_isNeverDone_18 ?_
  refine r_icmp_ge E 52 (by decide) dX10_isNeverDone_19 (fun c1 => ?_) (fun c1 => ?_)
  · have hw := ite_t hw c1
    refine r_aload_n E 10 0 rfl dX10_isNeverDone_52 ?_
    refine r_getS E fd_X10_54 (t := 0) (j1 := 4) rfl rfl rfl rfl (Nat.le_of_ble_eq_true rfl) (adr_lt (Nat.le_of_ble_eq_true rfl)) dX10_isNeverDone_53 ?_
    refine r_lconst E 1 rfl dX10_isNeverDone_56 ?_
    refine r_aload_n E 22 o3 rfl dX10_isNeverDone_57 ?_
    refine r_iload_n E x2 rfl dX10_isNeverDone_58 ?_
    obtain ⟨i2, hw⟩ := hw
    obtain ⟨e3, hve3, hbe3, hw⟩ := hw
    refine r_aald E (t := e3) (j1 := 6) (ta := 5) rfl rfl (Nat.le_of_ble_eq_true rfl) rfl rfl rfl ho3 (adr_lt ho3) i2 hve3 dX10_isNeverDone_59 ?_
    refine r_getI E fd_X10_285 rfl hbe3 (adr_lt hbe3) dX10_isNeverDone_60 ?_
    refine r_lshl E dX10_isNeverDone_63 ?_
    refine r_lload E x4 rfl dX10_isNeverDone_64 ?_
    refine r_callVI E (m_X4_isPossible (EE_st E) (GX X) ((1 : Int64) <<< ((gI h 6 e3 2 : Int32).toInt64 &&& 63)) x4 h _ hw) lk_X10_238 (RM_mk (Nat.le_of_ble_eq_true rfl) (Nat.le_of_ble_eq_true rfl)) rfl rfl rfl rfl (Nat.le_of_ble_eq_true rfl) (adr_lt (Nat.le_of_ble_eq_true rfl)) (Nat.le_of_ble_eq_true rfl) rfl rfl (Nat.le_of_ble_eq_true rfl) (Nat.le_of_ble_eq_true rfl) dX10_isNeverDone_66 (fun r4 h5 hw => ?_)
    obtain ⟨zr4, hw⟩ := hw
    refine r_if_ne E 76 (by decide) dX10_isNeverDone_69 (fun c6 => ?_) (fun c6 => ?_)
    · have hw := ite_t hw c6
      refine r_iconst E 1 rfl dX10_isNeverDone_72 ?_
      refine r_goto E 77 (by decide) dX10_isNeverDone_73 ?_
      exact hE _ _ _ _ _ _ (Nat.le_of_ble_eq_true rfl) (Nat.le_of_ble_eq_true rfl) dX10_isNeverDone_77 (isB_nar isB_1) ⟨isB_1, hw⟩
    · have hw := ite_f hw c6
      refine r_iconst E 0 rfl dX10_isNeverDone_76 ?_
      exact hE _ _ _ _ _ _ (Nat.le_of_ble_eq_true rfl) (Nat.le_of_ble_eq_true rfl) dX10_isNeverDone_77 (isB_nar isB_0) ⟨isB_0, hw⟩
  · have hw := ite_f hw c1
    refine r_aload_n E 22 o3 rfl dX10_isNeverDone_22 ?_
    refine r_iload E x6 rfl dX10_isNeverDone_23 ?_
    obtain ⟨i7, hw⟩ := hw
    obtain ⟨e8, hve8, hbe8, hw⟩ := hw
    refine r_aald E (t := e8) (j1 := 6) (ta := 5) rfl rfl (Nat.le_of_ble_eq_true rfl) rfl rfl rfl ho3 (adr_lt ho3) i7 hve8 dX10_isNeverDone_25 ?_
    refine r_callVI E (m_X6_endsScript (EE_st E) (GX X) e8 hbe8 h _ hw) lk_X10_281 (RM_mk (Nat.le_of_ble_eq_true rfl) (Nat.le_of_ble_eq_true rfl)) rfl rfl rfl rfl hbe8 (adr_lt hbe8) (Nat.le_of_ble_eq_true rfl) rfl rfl (Nat.le_of_ble_eq_true rfl) (Nat.le_of_ble_eq_true rfl) dX10_isNeverDone_26 (fun r9 u9 hw => ?_)
    obtain ⟨rfl, zr9, hw⟩ := hw
    refine r_if_eq E 46 (by decide) dX10_isNeverDone_29 (fun c10 => ?_) (fun c10 => ?_)
    · have hw := ite_t hw c10
      exact GG_weak [true, false, true, true, true, false, true] rfl (t_X10_isNeverDone_b46 h x2 o3 x4 x6 ho3 E hE P16 hP16  hw)
    · have hw := ite_f hw c10
      refine r_lload E x4 rfl dX10_isNeverDone_32 ?_
      refine r_lconst E 1 rfl dX10_isNeverDone_34 ?_
      refine r_aload_n E 22 o3 rfl dX10_isNeverDone_35 ?_
      refine r_iload E x6 rfl dX10_isNeverDone_36 ?_
      obtain ⟨e11, hve11, hbe11, hw⟩ := hw
      refine r_aald E (t := e11) (j1 := 6) (ta := 5) rfl rfl (Nat.le_of_ble_eq_true rfl) rfl rfl rfl ho3 (adr_lt ho3) i7 hve11 dX10_isNeverDone_38 ?_
      refine r_getI E fd_X10_285 rfl hbe11 (adr_lt hbe11) dX10_isNeverDone_39 ?_
      refine r_lshl E dX10_isNeverDone_42 ?_
      refine r_lor E dX10_isNeverDone_43 ?_
      refine GG_topJ fun v12 hv12 => ?_
      have hw := hw v12 hv12
      refine r_lstore E [some (rf X 10 0), none, some (.int x2), some (rf X 22 o3), some (.long v12), none, some (.int x6)] (Nat.le_of_ble_eq_true rfl) rfl dX10_isNeverDone_44 ?_
      exact GG_weak [true, false, true, true, true, false, true] rfl (t_X10_isNeverDone_b46 h x2 o3 v12 x6 ho3 E hE P16 hP16  hw)
set_option maxRecDepth 20000 in
theorem t_X10_isNeverDone_b16 {X : Ctx} (h : Hp) (x2 : Int32) (o3 : Nat) (x4 : Int64) (x6 : Int32) (ho3 : o3 < 4) (E : EE X cX10_isNeverDone RX10 7 45 1394 0 0) {Q : Int32 → Hp → Prop} (hE : ENDi X cX10_isNeverDone .boolean (fun r u => isB r ∧ Q r u) NT 0 0)  (hw : wp_X10_isNeverDone_b16 x2 o3 x4 x6 h  Q) : GG X 0 0 NT h [some (rf X 10 0), none, some (.int x2), some (rf X 22 o3), some (.long x4), none, some (.int x6)] 16 [] :=
  hw (fun y4 y6 u => GG X 0 0 NT u [some (rf X 10 0), none, some (.int x2), some (rf X 22 o3), some (.long y4), none, some (.int y6)] 16 []) (fun y4 y6 u hq => t_X10_isNeverDone_b16F u x2 o3 y4 y6 ho3 E hE  (fun y4 y6 u => GG X 0 0 NT u [some (rf X 10 0), none, some (.int x2), some (rf X 22 o3), some (.long y4), none, some (.int y6)] 16 []) (fun y4 y6 u q => q) hq)
set_option maxRecDepth 20000 in
theorem m_X10_isNeverDone {l : Launch} (hl : l.stackTraces = false) (G : Gq) (p0 : Int32) (p1 : Int32)  (h : Hp) (Q : Int32 → Hp → Prop) (hw : wp_X10_isNeverDone p0 p1 h Q) : MI l G yX10_isNeverDone cX10_isNeverDone 7 (some .boolean) rm_X10_isNeverDone NT NT h (fun r => [r 10 0, .int p0, .int p1]) (fun r u => isB r ∧ Q r u) := by
  refine MI_of (L0 := (fun X => [some (rf X 10 0), some (.int p0), some (.int p1), none, none, none, none])) hl (by decide +kernel) rfl (fun _ => Nat.le_of_ble_eq_true rfl) (fun _ => rfl) fun X hXl hXG E hE => ?_
  subst hXl; subst hXG
  unfold wp_X10_isNeverDone at hw
  refine r_aload_n E 10 0 rfl dX10_isNeverDone_0 ?_
  refine r_getS E fd_X10_25 (t := 0) (j1 := 21) rfl rfl rfl rfl (Nat.le_of_ble_eq_true rfl) (adr_lt (Nat.le_of_ble_eq_true rfl)) dX10_isNeverDone_1 ?_
  refine r_iload_n E p0 rfl dX10_isNeverDone_4 ?_
  obtain ⟨i1, hw⟩ := hw
  refine r_aaldS E (j1 := 7) (ta := 6) rfl rfl (Nat.le_of_ble_eq_true rfl) rfl rfl rfl (Nat.le_of_ble_eq_true rfl) (adr_lt (Nat.le_of_ble_eq_true rfl)) i1 rfl rfl dX10_isNeverDone_5 ?_
  refine r_getS E fd_X10_184 (t := p0.toNatClampNeg) (j1 := 22) rfl rfl rfl rfl (Nat.lt_of_lt_of_le (vp_in_lt i1) (Nat.le_of_ble_eq_true rfl)) (adr_lt (Nat.lt_of_lt_of_le (vp_in_lt i1) (Nat.le_of_ble_eq_true rfl))) dX10_isNeverDone_6 ?_
  refine r_astore_n E [some (rf X 10 0), some (.int p0), some (.int p1), some (rf X 22 p0.toNatClampNeg), none, none, none] rfl (Nat.le_of_ble_eq_true rfl) rfl dX10_isNeverDone_9 ?_
  refine r_lconst E 0 rfl dX10_isNeverDone_10 ?_
  refine r_lstore E [some (rf X 10 0), some (.int p0), some (.int p1), some (rf X 22 p0.toNatClampNeg), some (.long 0), none, none] (Nat.le_of_ble_eq_true rfl) rfl dX10_isNeverDone_11 ?_
  refine r_iconst E 0 rfl dX10_isNeverDone_13 ?_
  refine r_istore E [some (rf X 10 0), some (.int p0), some (.int p1), some (rf X 22 p0.toNatClampNeg), some (.long 0), none, some (.int 0)] (Nat.le_of_ble_eq_true rfl) rfl dX10_isNeverDone_14 ?_
  exact GG_weak [true, false, true, true, true, false, true] rfl (t_X10_isNeverDone_b16 h p1 p0.toNatClampNeg 0 0 (Nat.lt_of_lt_of_le (vp_in_lt i1) (Nat.le_of_ble_eq_true rfl)) E hE  hw)
set_option maxRecDepth 20000 in
theorem m_X10_isShadowed {l : Launch} (hl : l.stackTraces = false) (G : Gq) (p0 : Int32) (p1 : Int32)  (h : Hp) (Q : Int32 → Hp → Prop) (Z : String → Hp → Prop) (hw : wp_X10_isShadowed p0 p1 h Q Z) : XI l G yX10_isShadowed cX10_isShadowed 3 (some .boolean) rm_X10_isShadowed NT NT h (fun r => [r 10 0, .int p0, .int p1]) (fun r u => isB r ∧ Q r u) Z := by
  refine XI_of (L0 := (fun X => [some (rf X 10 0), some (.int p0), some (.int p1)])) hl (by decide +kernel) rfl (fun _ => Nat.le_of_ble_eq_true rfl) (fun _ => rfl) fun X hXl hXG E hE hX => ?_
  subst hXl; subst hXG
  unfold wp_X10_isShadowed at hw
  refine r_aload_n E 10 0 rfl dX10_isShadowed_0 ?_
  refine r_iload_n E p0 rfl dX10_isShadowed_1 ?_
  refine r_iload_n E p1 rfl dX10_isShadowed_2 ?_
  refine r_xcallVV E hX (fun e u hx => by obtain ⟨rfl, hx⟩ := hx; exact hx) (Nat.le_of_ble_eq_true rfl) (Nat.le_of_ble_eq_true rfl) (m_X10_requireRule (EE_st E) (GX X) p0 p1 h _ _ hw) lk_X10_178 (RM_mk (Nat.le_of_ble_eq_true rfl) (Nat.le_of_ble_eq_true rfl)) rfl rfl rfl rfl (Nat.le_of_ble_eq_true rfl) (adr_lt (Nat.le_of_ble_eq_true rfl)) (Nat.le_of_ble_eq_true rfl) rfl rfl (Nat.le_of_ble_eq_true rfl) (Nat.le_of_ble_eq_true rfl) dX10_isShadowed_3 (fun u9 hw => ?_)
  obtain ⟨rfl, hw⟩ := hw
  refine r_aload_n E 10 0 rfl dX10_isShadowed_6 ?_
  refine r_iload_n E p0 rfl dX10_isShadowed_7 ?_
  refine r_iload_n E p1 rfl dX10_isShadowed_8 ?_
  refine r_callVI E (m_X10_isNeverDone (EE_st E) (GX X) p0 p1 h _ hw) lk_X10_235 (RM_mk (Nat.le_of_ble_eq_true rfl) (Nat.le_of_ble_eq_true rfl)) rfl rfl rfl rfl (Nat.le_of_ble_eq_true rfl) (adr_lt (Nat.le_of_ble_eq_true rfl)) (Nat.le_of_ble_eq_true rfl) rfl rfl (Nat.le_of_ble_eq_true rfl) (Nat.le_of_ble_eq_true rfl) dX10_isShadowed_9 (fun r1 h2 hw => ?_)
  obtain ⟨zr1, hw⟩ := hw
  exact hE _ _ _ _ _ _ (Nat.le_of_ble_eq_true rfl) (Nat.le_of_ble_eq_true rfl) dX10_isShadowed_12 (isB_nar zr1) ⟨zr1, hw⟩
set_option maxRecDepth 20000 in
theorem m_X10_areSame {l : Launch} (hl : l.stackTraces = false) (G : Gq) (p0 : Int32) (p1 : Int32)  (h : Hp) (Q : Int32 → Hp → Prop) (Z : String → Hp → Prop) (hw : wp_X10_areSame p0 p1 h Q Z) : XI l G yX10_areSame cX10_areSame 3 (some .boolean) rm_X10_areSame NT NT h (fun r => [r 10 0, .int p0, .int p1]) (fun r u => isB r ∧ Q r u) Z := by
  refine XI_of (L0 := (fun X => [some (rf X 10 0), some (.int p0), some (.int p1)])) hl (by decide +kernel) rfl (fun _ => Nat.le_of_ble_eq_true rfl) (fun _ => rfl) fun X hXl hXG E hE hX => ?_
  subst hXl; subst hXG
  unfold wp_X10_areSame at hw
  refine r_iload_n E p0 rfl dX10_areSame_0 ?_
  refine r_aload_n E 10 0 rfl dX10_areSame_1 ?_
  refine r_getS E fd_X10_10 (t := 0) (j1 := 9) rfl rfl rfl rfl (Nat.le_of_ble_eq_true rfl) (adr_lt (Nat.le_of_ble_eq_true rfl)) dX10_areSame_2 ?_
  refine r_getI E fd_X10_156 rfl (Nat.le_of_ble_eq_true rfl) (adr_lt (Nat.le_of_ble_eq_true rfl)) dX10_areSame_5 ?_
  refine r_xcallSV E hX (fun e u hx => by obtain ⟨rfl, hx⟩ := hx; exact hx) (Nat.le_of_ble_eq_true rfl) (Nat.le_of_ble_eq_true rfl) (m_X10_requireBelow (EE_st E) (GX X) p0 (gI h 9 0 4) h _ _ hw) lk_X10_112 (RM_mk (Nat.le_of_ble_eq_true rfl) (Nat.le_of_ble_eq_true rfl)) rfl rfl rfl rfl (Nat.le_of_ble_eq_true rfl) rfl rfl (Nat.le_of_ble_eq_true rfl) (Nat.le_of_ble_eq_true rfl) dX10_areSame_8 (fun u9 hw => ?_)
  obtain ⟨rfl, hw⟩ := hw
  refine r_iload_n E p1 rfl dX10_areSame_11 ?_
  refine r_aload_n E 10 0 rfl dX10_areSame_12 ?_
  refine r_getS E fd_X10_10 (t := 0) (j1 := 9) rfl rfl rfl rfl (Nat.le_of_ble_eq_true rfl) (adr_lt (Nat.le_of_ble_eq_true rfl)) dX10_areSame_13 ?_
  refine r_getI E fd_X10_156 rfl (Nat.le_of_ble_eq_true rfl) (adr_lt (Nat.le_of_ble_eq_true rfl)) dX10_areSame_16 ?_
  refine r_xcallSV E hX (fun e u hx => by obtain ⟨rfl, hx⟩ := hx; exact hx) (Nat.le_of_ble_eq_true rfl) (Nat.le_of_ble_eq_true rfl) (m_X10_requireBelow (EE_st E) (GX X) p1 (gI h 9 0 4) h _ _ hw) lk_X10_112 (RM_mk (Nat.le_of_ble_eq_true rfl) (Nat.le_of_ble_eq_true rfl)) rfl rfl rfl rfl (Nat.le_of_ble_eq_true rfl) rfl rfl (Nat.le_of_ble_eq_true rfl) (Nat.le_of_ble_eq_true rfl) dX10_areSame_19 (fun u9 hw => ?_)
  obtain ⟨rfl, hw⟩ := hw
  refine r_aload_n E 10 0 rfl dX10_areSame_22 ?_
  refine r_getS E fd_X10_54 (t := 0) (j1 := 4) rfl rfl rfl rfl (Nat.le_of_ble_eq_true rfl) (adr_lt (Nat.le_of_ble_eq_true rfl)) dX10_areSame_23 ?_
  refine r_lconst E 1 rfl dX10_areSame_26 ?_
  refine r_iload_n E p0 rfl dX10_areSame_27 ?_
  refine r_lshl E dX10_areSame_28 ?_
  refine r_lconst E 1 rfl dX10_areSame_29 ?_
  refine r_iload_n E p1 rfl dX10_areSame_30 ?_
  refine r_lshl E dX10_areSame_31 ?_
  refine r_callVI E (m_X4_isPossible (EE_st E) (GX X) ((1 : Int64) <<< ((p0 : Int32).toInt64 &&& 63)) ((1 : Int64) <<< ((p1 : Int32).toInt64 &&& 63)) h _ hw) lk_X10_238 (RM_mk (Nat.le_of_ble_eq_true rfl) (Nat.le_of_ble_eq_true rfl)) rfl rfl rfl rfl (Nat.le_of_ble_eq_true rfl) (adr_lt (Nat.le_of_ble_eq_true rfl)) (Nat.le_of_ble_eq_true rfl) rfl rfl (Nat.le_of_ble_eq_true rfl) (Nat.le_of_ble_eq_true rfl) dX10_areSame_32 (fun r1 h2 hw => ?_)
  obtain ⟨zr1, hw⟩ := hw
  refine r_if_ne E 58 (by decide) dX10_areSame_35 (fun c3 => ?_) (fun c3 => ?_)
  · have hw := ite_t hw c3
    refine r_aload_n E 10 0 rfl dX10_areSame_38 ?_
    refine r_getS E fd_X10_54 (t := 0) (j1 := 4) rfl rfl rfl rfl (Nat.le_of_ble_eq_true rfl) (adr_lt (Nat.le_of_ble_eq_true rfl)) dX10_areSame_39 ?_
    refine r_lconst E 1 rfl dX10_areSame_42 ?_
    refine r_iload_n E p1 rfl dX10_areSame_43 ?_
    refine r_lshl E dX10_areSame_44 ?_
    refine r_lconst E 1 rfl dX10_areSame_45 ?_
    refine r_iload_n E p0 rfl dX10_areSame_46 ?_
    refine r_lshl E dX10_areSame_47 ?_
    refine r_callVI E (m_X4_isPossible (EE_st E) (GX X) ((1 : Int64) <<< ((p1 : Int32).toInt64 &&& 63)) ((1 : Int64) <<< ((p0 : Int32).toInt64 &&& 63)) h2 _ hw) lk_X10_238 (RM_mk (Nat.le_of_ble_eq_true rfl) (Nat.le_of_ble_eq_true rfl)) rfl rfl rfl rfl (Nat.le_of_ble_eq_true rfl) (adr_lt (Nat.le_of_ble_eq_true rfl)) (Nat.le_of_ble_eq_true rfl) rfl rfl (Nat.le_of_ble_eq_true rfl) (Nat.le_of_ble_eq_true rfl) dX10_areSame_48 (fun r4 h5 hw => ?_)
    obtain ⟨zr4, hw⟩ := hw
    refine r_if_ne E 58 (by decide) dX10_areSame_51 (fun c6 => ?_) (fun c6 => ?_)
    · have hw := ite_t hw c6
      refine r_iconst E 1 rfl dX10_areSame_54 ?_
      refine r_goto E 59 (by decide) dX10_areSame_55 ?_
      exact hE _ _ _ _ _ _ (Nat.le_of_ble_eq_true rfl) (Nat.le_of_ble_eq_true rfl) dX10_areSame_59 (isB_nar isB_1) ⟨isB_1, hw⟩
    · have hw := ite_f hw c6
      refine r_iconst E 0 rfl dX10_areSame_58 ?_
      exact hE _ _ _ _ _ _ (Nat.le_of_ble_eq_true rfl) (Nat.le_of_ble_eq_true rfl) dX10_areSame_59 (isB_nar isB_0) ⟨isB_0, hw⟩
  · have hw := ite_f hw c3
    refine r_iconst E 0 rfl dX10_areSame_58 ?_
    exact hE _ _ _ _ _ _ (Nat.le_of_ble_eq_true rfl) (Nat.le_of_ble_eq_true rfl) dX10_areSame_59 (isB_nar isB_0) ⟨isB_0, hw⟩
set_option maxRecDepth 20000 in
theorem m_X10_learn {l : Launch} (hl : l.stackTraces = false) (G : Gq) (p0 : Int32)  (h : Hp) (Q : Int32 → Hp → Prop) (Z : String → Hp → Prop) (hw : wp_X10_learn p0 h Q Z) : XI l G yX10_learn cX10_learn 2 (some .int) rm_X10_learn NT NT h (fun r => [r 10 0, .int p0]) Q Z := by
  refine XI_of (L0 := (fun X => [some (rf X 10 0), some (.int p0)])) hl (by decide +kernel) rfl (fun _ => Nat.le_of_ble_eq_true rfl) (fun _ => rfl) fun X hXl hXG E hE hX => ?_
  subst hXl; subst hXG
  unfold wp_X10_learn at hw
  refine r_iload_n E p0 rfl dX10_learn_0 ?_
  refine r_bipush E 8 rfl dX10_learn_1 ?_
  refine r_xcallSV E hX (fun e u hx => by obtain ⟨rfl, hx⟩ := hx; exact hx) (Nat.le_of_ble_eq_true rfl) (Nat.le_of_ble_eq_true rfl) (m_X10_requireBelow (EE_st E) (GX X) p0 8 h _ _ hw) lk_X10_112 (RM_mk (Nat.le_of_ble_eq_true rfl) (Nat.le_of_ble_eq_true rfl)) rfl rfl rfl rfl (Nat.le_of_ble_eq_true rfl) rfl rfl (Nat.le_of_ble_eq_true rfl) (Nat.le_of_ble_eq_true rfl) dX10_learn_3 (fun u9 hw => ?_)
  obtain ⟨rfl, hw⟩ := hw
  refine r_aload_n E 10 0 rfl dX10_learn_6 ?_
  refine r_getS E fd_X10_63 (t := 0) (j1 := 1) rfl rfl rfl rfl (Nat.le_of_ble_eq_true rfl) (adr_lt (Nat.le_of_ble_eq_true rfl)) dX10_learn_7 ?_
  refine r_iload_n E p0 rfl dX10_learn_10 ?_
  refine r_callVI E (m_X1_finds (EE_st E) (GX X) p0 h _ hw) lk_X10_242 (RM_mk (Nat.le_of_ble_eq_true rfl) (Nat.le_of_ble_eq_true rfl)) rfl rfl rfl rfl (Nat.le_of_ble_eq_true rfl) (adr_lt (Nat.le_of_ble_eq_true rfl)) (Nat.le_of_ble_eq_true rfl) rfl rfl (Nat.le_of_ble_eq_true rfl) (Nat.le_of_ble_eq_true rfl) dX10_learn_11 (fun r1 h2 hw => ?_)
  obtain ⟨zr1, hw⟩ := hw
  refine r_if_ne E 27 (by decide) dX10_learn_14 (fun c3 => ?_) (fun c3 => ?_)
  · have hw := ite_t hw c3
    exact r_throwX E hX rfl rfl (names := ["java/lang/RuntimeException", "java/lang/Exception"]) (by decide) (by decide) cl_X10_246 th_NoSuchElementException.2.2.2 (text := "no mail was moved there, or no test tells it apart") (by decide) th_NoSuchElementException.1 th_NoSuchElementException.2.1 th_NoSuchElementException.2.2.1 rfl hw dX10_learn_17 dX10_learn_20 dX10_learn_21 dX10_learn_23 dX10_learn_26 (Nat.le_of_ble_eq_true rfl) (Nat.le_of_ble_eq_true rfl) (Nat.le_of_ble_eq_true rfl) (Nat.le_of_ble_eq_true rfl) (Nat.le_of_ble_eq_true rfl) (Nat.le_of_ble_eq_true rfl)
  · have hw := ite_f hw c3
    refine r_aload_n E 10 0 rfl dX10_learn_27 ?_
    refine r_aload_n E 10 0 rfl dX10_learn_28 ?_
    refine r_getS E fd_X10_63 (t := 0) (j1 := 1) rfl rfl rfl rfl (Nat.le_of_ble_eq_true rfl) (adr_lt (Nat.le_of_ble_eq_true rfl)) dX10_learn_29 ?_
    refine r_callVI E (m_X1_testsNeeded (EE_st E) (GX X)  h2 _ hw) lk_X10_251 (RM_mk (Nat.le_of_ble_eq_true rfl) (Nat.le_of_ble_eq_true rfl)) rfl rfl rfl rfl (Nat.le_of_ble_eq_true rfl) (adr_lt (Nat.le_of_ble_eq_true rfl)) (Nat.le_of_ble_eq_true rfl) rfl rfl (Nat.le_of_ble_eq_true rfl) (Nat.le_of_ble_eq_true rfl) dX10_learn_32 (fun r4 u9 hw => ?_)
    obtain ⟨rfl, hw⟩ := hw
    refine r_xcallVV E hX (fun e u hx => by obtain ⟨rfl, hx⟩ := hx; exact hx) (Nat.le_of_ble_eq_true rfl) (Nat.le_of_ble_eq_true rfl) (m_X10_requireRoomForTests (EE_st E) (GX X) r4 h2 _ _ hw) lk_X10_159 (RM_mk (Nat.le_of_ble_eq_true rfl) (Nat.le_of_ble_eq_true rfl)) rfl rfl rfl rfl (Nat.le_of_ble_eq_true rfl) (adr_lt (Nat.le_of_ble_eq_true rfl)) (Nat.le_of_ble_eq_true rfl) rfl rfl (Nat.le_of_ble_eq_true rfl) (Nat.le_of_ble_eq_true rfl) dX10_learn_35 (fun u9 hw => ?_)
    obtain ⟨rfl, hw⟩ := hw
    refine r_aload_n E 10 0 rfl dX10_learn_38 ?_
    refine r_getS E fd_X10_63 (t := 0) (j1 := 1) rfl rfl rfl rfl (Nat.le_of_ble_eq_true rfl) (adr_lt (Nat.le_of_ble_eq_true rfl)) dX10_learn_39 ?_
    refine r_aload_n E 10 0 rfl dX10_learn_42 ?_
    refine r_getS E fd_X10_10 (t := 0) (j1 := 9) rfl rfl rfl rfl (Nat.le_of_ble_eq_true rfl) (adr_lt (Nat.le_of_ble_eq_true rfl)) dX10_learn_43 ?_
    refine r_callVI E (m_X1_writeInto (EE_st E) (GX X)  h2 _ hw) lk_X10_255 (RM_mk (Nat.le_of_ble_eq_true rfl) (Nat.le_of_ble_eq_true rfl)) rfl rfl rfl rfl (Nat.le_of_ble_eq_true rfl) (adr_lt (Nat.le_of_ble_eq_true rfl)) (Nat.le_of_ble_eq_true rfl) rfl rfl (Nat.le_of_ble_eq_true rfl) (Nat.le_of_ble_eq_true rfl) dX10_learn_46 (fun r5 h6 hw => ?_)
    exact hE _ _ _ _ _ _ (Nat.le_of_ble_eq_true rfl) (Nat.le_of_ble_eq_true rfl) dX10_learn_49 rfl hw
set_option maxRecDepth 20000 in
theorem t_X10_sum_b46 {X : Ctx} (h : Hp) (x1 : Int64) (x3 : Int32)  (E : EE X cX10_sum RX10 4 1 24 0 0) {Q : Int64 → Prop} (hE : ENDl X cX10_sum (fun r u => h = u ∧ Q r) NT 0 0) (P4 : Int64 → Int32 → Prop) (hP4 : ∀ (y1 : Int64) (y3 : Int32), P4 y1 y3 → GG X 0 0 NT h [some (rf X 10 0), some (.long y1), none, some (.int y3)] 4 []) (hw : wp_X10_sum_b46 x1 x3 h P4 Q) : GG X 0 0 NT h [some (rf X 10 0), some (.long x1), none, some (.int x3)] 46 [] := by
  unfold wp_X10_sum_b46 at hw
  obtain ⟨v1, hv1⟩ : ∃ y : Int32, y = x3 + 1 := ⟨_, rfl⟩
  have hw := hw v1 hv1
  refine r_iinc E x3 v1 [some (rf X 10 0), some (.long x1), none, some (.int v1)] rfl (by rw [hv1]; rfl) (Nat.le_of_ble_eq_true rfl) rfl dX10_sum_46 ?_
  refine r_goto E 4 (by decide) dX10_sum_49 ?_
  exact GG_weak [true, true, false, true] rfl (hP4 _ _ hw)
set_option maxRecDepth 20000 in
theorem t_X10_sum_b4F {X : Ctx} (h : Hp) (x1 : Int64) (x3 : Int32)  (E : EE X cX10_sum RX10 4 1 24 0 0) {Q : Int64 → Prop} (hE : ENDl X cX10_sum (fun r u => h = u ∧ Q r) NT 0 0)  (P4 : Int64 → Int32 → Prop) (hP4 : ∀ (y1 : Int64) (y3 : Int32), P4 y1 y3 → GG X 0 0 NT h [some (rf X 10 0), some (.long y1), none, some (.int y3)] 4 []) (hw : wp_X10_sum_b4F  h  Q P4 x1 x3 ) : GG X 0 0 NT h [some (rf X 10 0), some (.long x1), none, some (.int x3)] 4 [] := by
  unfold wp_X10_sum_b4F at hw
  refine r_iload_n E x3 rfl dX10_sum_4 ?_
  refine r_aload_n E 10 0 rfl dX10_sum_5 ?_
  refine r_getS E fd_X10_19 (t := 0) (j1 := 3) rfl rfl rfl rfl (Nat.le_of_ble_eq_true rfl) (adr_lt (Nat.le_of_ble_eq_true rfl)) dX10_sum_6 ?_
  refine r_getI E fd_X10_83 rfl (Nat.le_of_ble_eq_true rfl) (adr_lt (Nat.le_of_ble_eq_true rfl)) dX10_sum_9 ?_
  refine r_icmp_ge E 52 (by decide) dX10_sum_12 (fun c1 => ?_) (fun c1 => ?_)
  · have hw := ite_t hw c1
    refine r_lload_n E x1 rfl dX10_sum_52 ?_
    exact hE _ _ _ _ _ _ (Nat.le_of_ble_eq_true rfl) (Nat.le_of_ble_eq_true rfl) dX10_sum_53 ⟨rfl, hw⟩
  · have hw := ite_f hw c1
    refine r_aload_n E 10 0 rfl dX10_sum_15 ?_
    refine r_getS E fd_X10_19 (t := 0) (j1 := 3) rfl rfl rfl rfl (Nat.le_of_ble_eq_true rfl) (adr_lt (Nat.le_of_ble_eq_true rfl)) dX10_sum_16 ?_
    refine r_getS E fd_X10_127 (t := 0) (j1 := 15) rfl rfl rfl rfl (Nat.le_of_ble_eq_true rfl) (adr_lt (Nat.le_of_ble_eq_true rfl)) dX10_sum_19 ?_
    refine r_iload_n E x3 rfl dX10_sum_22 ?_
    obtain ⟨i2, hw⟩ := hw
    refine r_aaldS E (j1 := 2) (ta := 4) rfl rfl (Nat.le_of_ble_eq_true rfl) rfl rfl rfl (Nat.le_of_ble_eq_true rfl) (adr_lt (Nat.le_of_ble_eq_true rfl)) i2 rfl rfl dX10_sum_23 ?_
    refine r_getI E fd_X10_259 rfl (Nat.lt_of_lt_of_le (vp_in_lt i2) (Nat.le_of_ble_eq_true rfl)) (adr_lt (Nat.lt_of_lt_of_le (vp_in_lt i2) (Nat.le_of_ble_eq_true rfl))) dX10_sum_24 ?_
    refine r_if_ne E 46 (by decide) dX10_sum_27 (fun c3 => ?_) (fun c3 => ?_)
    · have hw := ite_t hw c3
      refine r_lload_n E x1 rfl dX10_sum_30 ?_
      refine r_aload_n E 10 0 rfl dX10_sum_31 ?_
      refine r_getS E fd_X10_19 (t := 0) (j1 := 3) rfl rfl rfl rfl (Nat.le_of_ble_eq_true rfl) (adr_lt (Nat.le_of_ble_eq_true rfl)) dX10_sum_32 ?_
      refine r_getS E fd_X10_127 (t := 0) (j1 := 15) rfl rfl rfl rfl (Nat.le_of_ble_eq_true rfl) (adr_lt (Nat.le_of_ble_eq_true rfl)) dX10_sum_35 ?_
      refine r_iload_n E x3 rfl dX10_sum_38 ?_
      refine r_aaldS E (j1 := 2) (ta := 4) rfl rfl (Nat.le_of_ble_eq_true rfl) rfl rfl rfl (Nat.le_of_ble_eq_true rfl) (adr_lt (Nat.le_of_ble_eq_true rfl)) i2 rfl rfl dX10_sum_39 ?_
      refine r_getI E fd_X10_262 rfl (Nat.lt_of_lt_of_le (vp_in_lt i2) (Nat.le_of_ble_eq_true rfl)) (adr_lt (Nat.lt_of_lt_of_le (vp_in_lt i2) (Nat.le_of_ble_eq_true rfl))) dX10_sum_40 ?_
      refine r_i2l E dX10_sum_43 ?_
      refine r_ladd E dX10_sum_44 ?_
      refine GG_topJ fun v4 hv4 => ?_
      have hw := hw v4 hv4
      refine r_lstore_n E [some (rf X 10 0), some (.long v4), none, some (.int x3)] rfl (Nat.le_of_ble_eq_true rfl) rfl dX10_sum_45 ?_
      exact GG_weak [true, true, false, true] rfl (t_X10_sum_b46 h v4 x3 E hE P4 hP4  hw)
    · have hw := ite_f hw c3
      exact GG_weak [true, true, false, true] rfl (t_X10_sum_b46 h x1 x3 E hE P4 hP4  hw)
set_option maxRecDepth 20000 in
theorem t_X10_sum_b4 {X : Ctx} (h : Hp) (x1 : Int64) (x3 : Int32)  (E : EE X cX10_sum RX10 4 1 24 0 0) {Q : Int64 → Prop} (hE : ENDl X cX10_sum (fun r u => h = u ∧ Q r) NT 0 0)  (hw : wp_X10_sum_b4 x1 x3 h  Q) : GG X 0 0 NT h [some (rf X 10 0), some (.long x1), none, some (.int x3)] 4 [] :=
  hw (fun y1 y3  => GG X 0 0 NT h [some (rf X 10 0), some (.long y1), none, some (.int y3)] 4 []) (fun y1 y3  hq => t_X10_sum_b4F h y1 y3  E hE  (fun y1 y3  => GG X 0 0 NT h [some (rf X 10 0), some (.long y1), none, some (.int y3)] 4 []) (fun y1 y3  q => q) hq)
set_option maxRecDepth 20000 in
theorem m_X10_sum {l : Launch} (hl : l.stackTraces = false) (G : Gq)   (h : Hp) (Q : Int64 → Prop) (hw : wp_X10_sum  h Q) : ML l G yX10_sum cX10_sum 4 (some .long) rm_X10_sum NT NT h (fun r => [r 10 0]) (fun r u => h = u ∧ Q r) := by
  refine ML_of (L0 := (fun X => [some (rf X 10 0), none, none, none])) hl (by decide +kernel) rfl (fun _ => Nat.le_of_ble_eq_true rfl) (fun _ => rfl) fun X hXl hXG E hE => ?_
  subst hXl; subst hXG
  unfold wp_X10_sum at hw
  refine r_lconst E 0 rfl dX10_sum_0 ?_
  refine r_lstore_n E [some (rf X 10 0), some (.long 0), none, none] rfl (Nat.le_of_ble_eq_true rfl) rfl dX10_sum_1 ?_
  refine r_iconst E 0 rfl dX10_sum_2 ?_
  refine r_istore_n E [some (rf X 10 0), some (.long 0), none, some (.int 0)] rfl (Nat.le_of_ble_eq_true rfl) rfl dX10_sum_3 ?_
  exact GG_weak [true, true, false, true] rfl (t_X10_sum_b4 h 0 0 E hE  hw)
set_option maxRecDepth 20000 in
theorem t_X10_goneShare_b53 {X : Ctx} (h : Hp) (x1 : Int32) (x2 : Int32) (x3 : Int32)  (E : EE X cX10_goneShare RX10 4 6 120 1 6) {Q : UInt32 → Prop} {Z : String → Prop} (hE : ENDf X cX10_goneShare (fun r u => h = u ∧ Q r) NT 1 6) (hX : QX X (fun e u => h = u ∧ Z e) 1 6 NT) (P6 : Int32 → Int32 → Int32 → Prop) (hP6 : ∀ (y1 : Int32) (y2 : Int32) (y3 : Int32), P6 y1 y2 y3 → GG X 0 0 NT h [some (rf X 10 0), some (.int y1), some (.int y2), some (.int y3)] 6 []) (hw : wp_X10_goneShare_b53 x1 x2 x3 h P6 Q Z) : GG X 0 0 NT h [some (rf X 10 0), some (.int x1), some (.int x2), some (.int x3)] 53 [] := by
  unfold wp_X10_goneShare_b53 at hw
  obtain ⟨v1, hv1⟩ : ∃ y : Int32, y = x3 + 1 := ⟨_, rfl⟩
  have hw := hw v1 hv1
  refine r_iinc E x3 v1 [some (rf X 10 0), some (.int x1), some (.int x2), some (.int v1)] rfl (by rw [hv1]; rfl) (Nat.le_of_ble_eq_true rfl) rfl dX10_goneShare_53 ?_
  refine r_goto E 6 (by decide) dX10_goneShare_56 ?_
  exact GG_weak [true, true, true, true] rfl (hP6 _ _ _ hw)
set_option maxRecDepth 20000 in
theorem t_X10_goneShare_b35 {X : Ctx} (h : Hp) (x1 : Int32) (x2 : Int32) (x3 : Int32)  (E : EE X cX10_goneShare RX10 4 6 120 1 6) {Q : UInt32 → Prop} {Z : String → Prop} (hE : ENDf X cX10_goneShare (fun r u => h = u ∧ Q r) NT 1 6) (hX : QX X (fun e u => h = u ∧ Z e) 1 6 NT) (P6 : Int32 → Int32 → Int32 → Prop) (hP6 : ∀ (y1 : Int32) (y2 : Int32) (y3 : Int32), P6 y1 y2 y3 → GG X 0 0 NT h [some (rf X 10 0), some (.int y1), some (.int y2), some (.int y3)] 6 []) (hw : wp_X10_goneShare_b35 x1 x2 x3 h P6 Q Z) : GG X 0 0 NT h [some (rf X 10 0), some (.int x1), some (.int x2), some (.int x3)] 35 [] := by
  unfold wp_X10_goneShare_b35 at hw
  refine r_aload_n E 10 0 rfl dX10_goneShare_35 ?_
  refine r_getS E fd_X10_19 (t := 0) (j1 := 3) rfl rfl rfl rfl (Nat.le_of_ble_eq_true rfl) (adr_lt (Nat.le_of_ble_eq_true rfl)) dX10_goneShare_36 ?_
  refine r_getS E fd_X10_127 (t := 0) (j1 := 15) rfl rfl rfl rfl (Nat.le_of_ble_eq_true rfl) (adr_lt (Nat.le_of_ble_eq_true rfl)) dX10_goneShare_39 ?_
  refine r_iload_n E x3 rfl dX10_goneShare_42 ?_
  obtain ⟨i1, hw⟩ := hw
  refine r_aaldS E (j1 := 2) (ta := 4) rfl rfl (Nat.le_of_ble_eq_true rfl) rfl rfl rfl (Nat.le_of_ble_eq_true rfl) (adr_lt (Nat.le_of_ble_eq_true rfl)) i1 rfl rfl dX10_goneShare_43 ?_
  refine r_getI E fd_X10_259 rfl (Nat.lt_of_lt_of_le (vp_in_lt i1) (Nat.le_of_ble_eq_true rfl)) (adr_lt (Nat.lt_of_lt_of_le (vp_in_lt i1) (Nat.le_of_ble_eq_true rfl))) dX10_goneShare_44 ?_
  refine r_if_eq E 53 (by decide) dX10_goneShare_47 (fun c2 => ?_) (fun c2 => ?_)
  · have hw := ite_t hw c2
    exact GG_weak [true, true, true, true] rfl (t_X10_goneShare_b53 h x1 x2 x3 E hE hX P6 hP6  hw)
  · have hw := ite_f hw c2
    obtain ⟨v3, hv3⟩ : ∃ y : Int32, y = x2 + 1 := ⟨_, rfl⟩
    have hw := hw v3 hv3
    refine r_iinc E x2 v3 [some (rf X 10 0), some (.int x1), some (.int v3), some (.int x3)] rfl (by rw [hv3]; rfl) (Nat.le_of_ble_eq_true rfl) rfl dX10_goneShare_50 ?_
    exact GG_weak [true, true, true, true] rfl (t_X10_goneShare_b53 h x1 v3 x3 E hE hX P6 hP6  hw)
set_option maxRecDepth 20000 in
theorem t_X10_goneShare_b6F {X : Ctx} (h : Hp) (x1 : Int32) (x2 : Int32) (x3 : Int32)  (E : EE X cX10_goneShare RX10 4 6 120 1 6) {Q : UInt32 → Prop} {Z : String → Prop} (hE : ENDf X cX10_goneShare (fun r u => h = u ∧ Q r) NT 1 6) (hX : QX X (fun e u => h = u ∧ Z e) 1 6 NT)  (P6 : Int32 → Int32 → Int32 → Prop) (hP6 : ∀ (y1 : Int32) (y2 : Int32) (y3 : Int32), P6 y1 y2 y3 → GG X 0 0 NT h [some (rf X 10 0), some (.int y1), some (.int y2), some (.int y3)] 6 []) (hw : wp_X10_goneShare_b6F  h  Q Z P6 x1 x2 x3 ) : GG X 0 0 NT h [some (rf X 10 0), some (.int x1), some (.int x2), some (.int x3)] 6 [] := by
  unfold wp_X10_goneShare_b6F at hw
  refine r_iload_n E x3 rfl dX10_goneShare_6 ?_
  refine r_aload_n E 10 0 rfl dX10_goneShare_7 ?_
  refine r_getS E fd_X10_19 (t := 0) (j1 := 3) rfl rfl rfl rfl (Nat.le_of_ble_eq_true rfl) (adr_lt (Nat.le_of_ble_eq_true rfl)) dX10_goneShare_8 ?_
  refine r_getI E fd_X10_83 rfl (Nat.le_of_ble_eq_true rfl) (adr_lt (Nat.le_of_ble_eq_true rfl)) dX10_goneShare_11 ?_
  refine r_icmp_ge E 59 (by decide) dX10_goneShare_14 (fun c1 => ?_) (fun c1 => ?_)
  · have hw := ite_t hw c1
    refine r_iload_n E x1 rfl dX10_goneShare_59 ?_
    refine r_if_ne E 74 (by decide) dX10_goneShare_60 (fun c2 => ?_) (fun c2 => ?_)
    · have hw := ite_t hw c2
      exact r_throwW E hX rfl rfl (names := ["java/lang/RuntimeException", "java/lang/Exception"]) (by decide) (by decide) cl_X10_268 th_ArithmeticException.2.2.2 (text := "no mail was delivered") (by decide) th_ArithmeticException.1 th_ArithmeticException.2.1 th_ArithmeticException.2.2.1 rfl ⟨rfl, hw⟩ dX10_goneShare_63 dX10_goneShare_66 dX10_goneShare_67 dX10_goneShare_70 dX10_goneShare_73 (Nat.le_of_ble_eq_true rfl) (Nat.le_of_ble_eq_true rfl) (Nat.le_of_ble_eq_true rfl) (Nat.le_of_ble_eq_true rfl) (Nat.le_of_ble_eq_true rfl) (Nat.le_of_ble_eq_true rfl)
    · have hw := ite_f hw c2
      refine r_iload_n E x2 rfl dX10_goneShare_74 ?_
      refine r_i2f E dX10_goneShare_75 ?_
      refine r_iload_n E x1 rfl dX10_goneShare_76 ?_
      refine r_i2f E dX10_goneShare_77 ?_
      obtain ⟨n3, hw⟩ := hw
      refine r_fdiv E n3 dX10_goneShare_78 ?_
      exact hE _ _ _ _ _ _ (Nat.le_of_ble_eq_true rfl) (Nat.le_of_ble_eq_true rfl) dX10_goneShare_79 ⟨rfl, hw⟩
  · have hw := ite_f hw c1
    refine r_aload_n E 10 0 rfl dX10_goneShare_17 ?_
    refine r_getS E fd_X10_19 (t := 0) (j1 := 3) rfl rfl rfl rfl (Nat.le_of_ble_eq_true rfl) (adr_lt (Nat.le_of_ble_eq_true rfl)) dX10_goneShare_18 ?_
    refine r_getS E fd_X10_127 (t := 0) (j1 := 15) rfl rfl rfl rfl (Nat.le_of_ble_eq_true rfl) (adr_lt (Nat.le_of_ble_eq_true rfl)) dX10_goneShare_21 ?_
    refine r_iload_n E x3 rfl dX10_goneShare_24 ?_
    obtain ⟨i4, hw⟩ := hw
    refine r_aaldS E (j1 := 2) (ta := 4) rfl rfl (Nat.le_of_ble_eq_true rfl) rfl rfl rfl (Nat.le_of_ble_eq_true rfl) (adr_lt (Nat.le_of_ble_eq_true rfl)) i4 rfl rfl dX10_goneShare_25 ?_
    refine r_getI E fd_X10_265 rfl (Nat.lt_of_lt_of_le (vp_in_lt i4) (Nat.le_of_ble_eq_true rfl)) (adr_lt (Nat.lt_of_lt_of_le (vp_in_lt i4) (Nat.le_of_ble_eq_true rfl))) dX10_goneShare_26 ?_
    refine r_if_eq E 35 (by decide) dX10_goneShare_29 (fun c5 => ?_) (fun c5 => ?_)
    · have hw := ite_t hw c5
      exact GG_weak [true, true, true, true] rfl (t_X10_goneShare_b35 h x1 x2 x3 E hE hX P6 hP6  hw)
    · have hw := ite_f hw c5
      obtain ⟨v6, hv6⟩ : ∃ y : Int32, y = x1 + 1 := ⟨_, rfl⟩
      have hw := hw v6 hv6
      refine r_iinc E x1 v6 [some (rf X 10 0), some (.int v6), some (.int x2), some (.int x3)] rfl (by rw [hv6]; rfl) (Nat.le_of_ble_eq_true rfl) rfl dX10_goneShare_32 ?_
      exact GG_weak [true, true, true, true] rfl (t_X10_goneShare_b35 h v6 x2 x3 E hE hX P6 hP6  hw)
set_option maxRecDepth 20000 in
theorem t_X10_goneShare_b6 {X : Ctx} (h : Hp) (x1 : Int32) (x2 : Int32) (x3 : Int32)  (E : EE X cX10_goneShare RX10 4 6 120 1 6) {Q : UInt32 → Prop} {Z : String → Prop} (hE : ENDf X cX10_goneShare (fun r u => h = u ∧ Q r) NT 1 6) (hX : QX X (fun e u => h = u ∧ Z e) 1 6 NT)  (hw : wp_X10_goneShare_b6 x1 x2 x3 h  Q Z) : GG X 0 0 NT h [some (rf X 10 0), some (.int x1), some (.int x2), some (.int x3)] 6 [] :=
  hw (fun y1 y2 y3  => GG X 0 0 NT h [some (rf X 10 0), some (.int y1), some (.int y2), some (.int y3)] 6 []) (fun y1 y2 y3  hq => t_X10_goneShare_b6F h y1 y2 y3  E hE hX  (fun y1 y2 y3  => GG X 0 0 NT h [some (rf X 10 0), some (.int y1), some (.int y2), some (.int y3)] 6 []) (fun y1 y2 y3  q => q) hq)
set_option maxRecDepth 20000 in
theorem m_X10_goneShare {l : Launch} (hl : l.stackTraces = false) (G : Gq)   (h : Hp) (Q : UInt32 → Prop) (Z : String → Prop) (hw : wp_X10_goneShare  h Q Z) : XF l G yX10_goneShare cX10_goneShare 4 (some .float) rm_X10_goneShare NT NT h (fun r => [r 10 0]) (fun r u => h = u ∧ Q r) (fun e u => h = u ∧ Z e) := by
  refine XF_of (L0 := (fun X => [some (rf X 10 0), none, none, none])) hl (by decide +kernel) rfl (fun _ => Nat.le_of_ble_eq_true rfl) (fun _ => rfl) fun X hXl hXG E hE hX => ?_
  subst hXl; subst hXG
  unfold wp_X10_goneShare at hw
  refine r_iconst E 0 rfl dX10_goneShare_0 ?_
  refine r_istore_n E [some (rf X 10 0), some (.int 0), none, none] rfl (Nat.le_of_ble_eq_true rfl) rfl dX10_goneShare_1 ?_
  refine r_iconst E 0 rfl dX10_goneShare_2 ?_
  refine r_istore_n E [some (rf X 10 0), some (.int 0), some (.int 0), none] rfl (Nat.le_of_ble_eq_true rfl) rfl dX10_goneShare_3 ?_
  refine r_iconst E 0 rfl dX10_goneShare_4 ?_
  refine r_istore_n E [some (rf X 10 0), some (.int 0), some (.int 0), some (.int 0)] rfl (Nat.le_of_ble_eq_true rfl) rfl dX10_goneShare_5 ?_
  exact GG_weak [true, true, true, true] rfl (t_X10_goneShare_b6 h 0 0 0 E hE hX  hw)
set_option maxRecDepth 20000 in
theorem t_X10_meanSize_b40 {X : Ctx} (h : Hp) (x1 : Int32) (x2 : Int32) (x3 : Int32)  (E : EE X cX10_meanSize RX10 4 7 141 2 12) {Q : UInt64 → Prop} {Z : String → Prop} (hE : ENDd X cX10_meanSize (fun r u => h = u ∧ Q r) NT 2 12) (hX : QX X (fun e u => h = u ∧ Z e) 2 12 NT) (P10 : Int32 → Int32 → Prop) (hP10 : ∀ (y2 : Int32) (y3 : Int32), P10 y2 y3 → GG X 1 6 NT h [some (rf X 10 0), some (.int x1), some (.int y2), some (.int y3)] 10 []) (hw : wp_X10_meanSize_b40 x1 x2 x3 h P10 Q Z) : GG X 1 6 NT h [some (rf X 10 0), some (.int x1), some (.int x2), some (.int x3)] 40 [] := by
  unfold wp_X10_meanSize_b40 at hw
  obtain ⟨v1, hv1⟩ : ∃ y : Int32, y = x3 + 1 := ⟨_, rfl⟩
  have hw := hw v1 hv1
  refine r_iinc E x3 v1 [some (rf X 10 0), some (.int x1), some (.int x2), some (.int v1)] rfl (by rw [hv1]; rfl) (Nat.le_of_ble_eq_true rfl) rfl dX10_meanSize_40 ?_
  refine r_goto E 10 (by decide) dX10_meanSize_43 ?_
  exact GG_weak [true, true, true, true] rfl (hP10 _ _ hw)
set_option maxRecDepth 20000 in
theorem t_X10_meanSize_b10F {X : Ctx} (h : Hp) (x1 : Int32) (x2 : Int32) (x3 : Int32)  (E : EE X cX10_meanSize RX10 4 7 141 2 12) {Q : UInt64 → Prop} {Z : String → Prop} (hE : ENDd X cX10_meanSize (fun r u => h = u ∧ Q r) NT 2 12) (hX : QX X (fun e u => h = u ∧ Z e) 2 12 NT)  (P10 : Int32 → Int32 → Prop) (hP10 : ∀ (y2 : Int32) (y3 : Int32), P10 y2 y3 → GG X 1 6 NT h [some (rf X 10 0), some (.int x1), some (.int y2), some (.int y3)] 10 []) (hw : wp_X10_meanSize_b10F x1 h  Q Z P10 x2 x3 ) : GG X 1 6 NT h [some (rf X 10 0), some (.int x1), some (.int x2), some (.int x3)] 10 [] := by
  unfold wp_X10_meanSize_b10F at hw
  refine r_iload_n E x3 rfl dX10_meanSize_10 ?_
  refine r_aload_n E 10 0 rfl dX10_meanSize_11 ?_
  refine r_getS E fd_X10_19 (t := 0) (j1 := 3) rfl rfl rfl rfl (Nat.le_of_ble_eq_true rfl) (adr_lt (Nat.le_of_ble_eq_true rfl)) dX10_meanSize_12 ?_
  refine r_getI E fd_X10_83 rfl (Nat.le_of_ble_eq_true rfl) (adr_lt (Nat.le_of_ble_eq_true rfl)) dX10_meanSize_15 ?_
  refine r_icmp_ge E 46 (by decide) dX10_meanSize_18 (fun c1 => ?_) (fun c1 => ?_)
  · have hw := ite_t hw c1
    refine r_iload_n E x2 rfl dX10_meanSize_46 ?_
    refine r_if_ne E 61 (by decide) dX10_meanSize_47 (fun c2 => ?_) (fun c2 => ?_)
    · have hw := ite_t hw c2
      exact r_throwW E hX rfl rfl (names := ["java/lang/RuntimeException", "java/lang/Exception"]) (by decide) (by decide) cl_X10_268 th_ArithmeticException.2.2.2 (text := "no mail is in the box") (by decide) th_ArithmeticException.1 th_ArithmeticException.2.1 th_ArithmeticException.2.2.1 rfl ⟨rfl, hw⟩ dX10_meanSize_50 dX10_meanSize_53 dX10_meanSize_54 dX10_meanSize_57 dX10_meanSize_60 (Nat.le_of_ble_eq_true rfl) (Nat.le_of_ble_eq_true rfl) (Nat.le_of_ble_eq_true rfl) (Nat.le_of_ble_eq_true rfl) (Nat.le_of_ble_eq_true rfl) (Nat.le_of_ble_eq_true rfl)
    · have hw := ite_f hw c2
      refine r_aload_n E 10 0 rfl dX10_meanSize_61 ?_
      refine r_getS E fd_X10_19 (t := 0) (j1 := 3) rfl rfl rfl rfl (Nat.le_of_ble_eq_true rfl) (adr_lt (Nat.le_of_ble_eq_true rfl)) dX10_meanSize_62 ?_
      refine r_iload_n E x1 rfl dX10_meanSize_65 ?_
      refine r_callVI E (m_X3_sizesIn (EE_st E) (GX X) x1 h _ hw) lk_X10_119 (RM_mk (Nat.le_of_ble_eq_true rfl) (Nat.le_of_ble_eq_true rfl)) rfl rfl rfl rfl (Nat.le_of_ble_eq_true rfl) (adr_lt (Nat.le_of_ble_eq_true rfl)) (Nat.le_of_ble_eq_true rfl) rfl rfl (Nat.le_of_ble_eq_true rfl) (Nat.le_of_ble_eq_true rfl) dX10_meanSize_66 (fun r3 u9 hw => ?_)
      obtain ⟨rfl, hw⟩ := hw
      refine r_i2d E dX10_meanSize_69 ?_
      refine r_iload_n E x2 rfl dX10_meanSize_70 ?_
      refine r_i2d E dX10_meanSize_71 ?_
      obtain ⟨n4, hw⟩ := hw
      refine r_ddiv E n4 dX10_meanSize_72 ?_
      exact hE _ _ _ _ _ _ (Nat.le_of_ble_eq_true rfl) (Nat.le_of_ble_eq_true rfl) dX10_meanSize_73 ⟨rfl, hw⟩
  · have hw := ite_f hw c1
    refine r_aload_n E 10 0 rfl dX10_meanSize_21 ?_
    refine r_getS E fd_X10_19 (t := 0) (j1 := 3) rfl rfl rfl rfl (Nat.le_of_ble_eq_true rfl) (adr_lt (Nat.le_of_ble_eq_true rfl)) dX10_meanSize_22 ?_
    refine r_getS E fd_X10_127 (t := 0) (j1 := 15) rfl rfl rfl rfl (Nat.le_of_ble_eq_true rfl) (adr_lt (Nat.le_of_ble_eq_true rfl)) dX10_meanSize_25 ?_
    refine r_iload_n E x3 rfl dX10_meanSize_28 ?_
    obtain ⟨i5, hw⟩ := hw
    refine r_aaldS E (j1 := 2) (ta := 4) rfl rfl (Nat.le_of_ble_eq_true rfl) rfl rfl rfl (Nat.le_of_ble_eq_true rfl) (adr_lt (Nat.le_of_ble_eq_true rfl)) i5 rfl rfl dX10_meanSize_29 ?_
    refine r_iload_n E x1 rfl dX10_meanSize_30 ?_
    refine r_callVI E (m_X2_liesIn (EE_st E) (GX X) x3.toNatClampNeg x1 (Nat.lt_of_lt_of_le (vp_in_lt i5) (Nat.le_of_ble_eq_true rfl)) h _ hw) lk_X10_273 (RM_mk (Nat.le_of_ble_eq_true rfl) (Nat.le_of_ble_eq_true rfl)) rfl rfl rfl rfl (Nat.lt_of_lt_of_le (vp_in_lt i5) (Nat.le_of_ble_eq_true rfl)) (adr_lt (Nat.lt_of_lt_of_le (vp_in_lt i5) (Nat.le_of_ble_eq_true rfl))) (Nat.le_of_ble_eq_true rfl) rfl rfl (Nat.le_of_ble_eq_true rfl) (Nat.le_of_ble_eq_true rfl) dX10_meanSize_31 (fun r6 u9 hw => ?_)
    obtain ⟨rfl, zr6, hw⟩ := hw
    refine r_if_eq E 40 (by decide) dX10_meanSize_34 (fun c7 => ?_) (fun c7 => ?_)
    · have hw := ite_t hw c7
      exact GG_weak [true, true, true, true] rfl (t_X10_meanSize_b40 h x1 x2 x3 E hE hX P10 hP10  hw)
    · have hw := ite_f hw c7
      obtain ⟨v8, hv8⟩ : ∃ y : Int32, y = x2 + 1 := ⟨_, rfl⟩
      have hw := hw v8 hv8
      refine r_iinc E x2 v8 [some (rf X 10 0), some (.int x1), some (.int v8), some (.int x3)] rfl (by rw [hv8]; rfl) (Nat.le_of_ble_eq_true rfl) rfl dX10_meanSize_37 ?_
      exact GG_weak [true, true, true, true] rfl (t_X10_meanSize_b40 h x1 v8 x3 E hE hX P10 hP10  hw)
set_option maxRecDepth 20000 in
theorem t_X10_meanSize_b10 {X : Ctx} (h : Hp) (x1 : Int32) (x2 : Int32) (x3 : Int32)  (E : EE X cX10_meanSize RX10 4 7 141 2 12) {Q : UInt64 → Prop} {Z : String → Prop} (hE : ENDd X cX10_meanSize (fun r u => h = u ∧ Q r) NT 2 12) (hX : QX X (fun e u => h = u ∧ Z e) 2 12 NT)  (hw : wp_X10_meanSize_b10 x1 x2 x3 h  Q Z) : GG X 1 6 NT h [some (rf X 10 0), some (.int x1), some (.int x2), some (.int x3)] 10 [] :=
  hw (fun y2 y3  => GG X 1 6 NT h [some (rf X 10 0), some (.int x1), some (.int y2), some (.int y3)] 10 []) (fun y2 y3  hq => t_X10_meanSize_b10F h x1 y2 y3  E hE hX  (fun y2 y3  => GG X 1 6 NT h [some (rf X 10 0), some (.int x1), some (.int y2), some (.int y3)] 10 []) (fun y2 y3  q => q) hq)
set_option maxRecDepth 20000 in
theorem m_X10_meanSize {l : Launch} (hl : l.stackTraces = false) (G : Gq) (p0 : Int32)  (h : Hp) (Q : UInt64 → Prop) (Z : String → Prop) (hw : wp_X10_meanSize p0 h Q Z) : XD l G yX10_meanSize cX10_meanSize 4 (some .double) rm_X10_meanSize NT NT h (fun r => [r 10 0, .int p0]) (fun r u => h = u ∧ Q r) (fun e u => h = u ∧ Z e) := by
  refine XD_of (L0 := (fun X => [some (rf X 10 0), some (.int p0), none, none])) hl (by decide +kernel) rfl (fun _ => Nat.le_of_ble_eq_true rfl) (fun _ => rfl) fun X hXl hXG E hE hX => ?_
  subst hXl; subst hXG
  unfold wp_X10_meanSize at hw
  refine r_iload_n E p0 rfl dX10_meanSize_0 ?_
  refine r_bipush E 8 rfl dX10_meanSize_1 ?_
  refine r_xcallSV E hX (fun e u hx => hx) (Nat.le_of_ble_eq_true rfl) (Nat.le_of_ble_eq_true rfl) (m_X10_requireBelow (EE_st E) (GX X) p0 8 h _ _ hw) lk_X10_112 (RM_mk (Nat.le_of_ble_eq_true rfl) (Nat.le_of_ble_eq_true rfl)) rfl rfl rfl rfl (Nat.le_of_ble_eq_true rfl) rfl rfl (Nat.le_of_ble_eq_true rfl) (Nat.le_of_ble_eq_true rfl) dX10_meanSize_3 (fun u9 hw => ?_)
  obtain ⟨rfl, hw⟩ := hw
  refine r_iconst E 0 rfl dX10_meanSize_6 ?_
  refine r_istore_n E [some (rf X 10 0), some (.int p0), some (.int 0), none] rfl (Nat.le_of_ble_eq_true rfl) rfl dX10_meanSize_7 ?_
  refine r_iconst E 0 rfl dX10_meanSize_8 ?_
  refine r_istore_n E [some (rf X 10 0), some (.int p0), some (.int 0), some (.int 0)] rfl (Nat.le_of_ble_eq_true rfl) rfl dX10_meanSize_9 ?_
  exact GG_weak [true, true, true, true] rfl (t_X10_meanSize_b10 h p0 0 0 E hE hX  hw)
set_option maxRecDepth 20000 in
theorem t_X10_isTrue_b85 {X : Ctx} (h : Hp) (x1 : Int32) (x2 : Int32) (x3 : Int32)  (E : EE X cX10_isTrue RX10 4 46 1420 0 0) {Q : Int32 → Hp → Prop} (hE : ENDi X cX10_isTrue .boolean (fun r u => isB r ∧ Q r u) NT 0 0) (P2 : Int32 → Hp → Prop) (hP2 : ∀ (y1 : Int32) (u : Hp), P2 y1 u → GG X 0 0 NT u [some (rf X 10 0), some (.int y1), none, none] 2 []) (P53 : Int32 → Hp → Prop) (hP53 : ∀ (y3 : Int32) (u : Hp), P53 y3 u → GG X 0 0 NT u [some (rf X 10 0), some (.int x1), some (.int x2), some (.int y3)] 53 []) (hw : wp_X10_isTrue_b85 x1 x2 x3 h P2 P53 Q) : GG X 0 0 NT h [some (rf X 10 0), some (.int x1), some (.int x2), some (.int x3)] 85 [] := by
  unfold wp_X10_isTrue_b85 at hw
  obtain ⟨v1, hv1⟩ : ∃ y : Int32, y = x3 + 1 := ⟨_, rfl⟩
  have hw := hw v1 hv1
  refine r_iinc E x3 v1 [some (rf X 10 0), some (.int x1), some (.int x2), some (.int v1)] rfl (by rw [hv1]; rfl) (Nat.le_of_ble_eq_true rfl) rfl dX10_isTrue_85 ?_
  refine r_goto E 53 (by decide) dX10_isTrue_88 ?_
  exact GG_weak [true, true, true, true] rfl (hP53 _ _ hw)
set_option maxRecDepth 20000 in
theorem t_X10_isTrue_b53F {X : Ctx} (h : Hp) (x1 : Int32) (x2 : Int32) (x3 : Int32)  (E : EE X cX10_isTrue RX10 4 46 1420 0 0) {Q : Int32 → Hp → Prop} (hE : ENDi X cX10_isTrue .boolean (fun r u => isB r ∧ Q r u) NT 0 0) (P2 : Int32 → Hp → Prop) (hP2 : ∀ (y1 : Int32) (u : Hp), P2 y1 u → GG X 0 0 NT u [some (rf X 10 0), some (.int y1), none, none] 2 []) (P53 : Int32 → Hp → Prop) (hP53 : ∀ (y3 : Int32) (u : Hp), P53 y3 u → GG X 0 0 NT u [some (rf X 10 0), some (.int x1), some (.int x2), some (.int y3)] 53 []) (hw : wp_X10_isTrue_b53F x1 x2  P2 Q P53 x3 h) : GG X 0 0 NT h [some (rf X 10 0), some (.int x1), some (.int x2), some (.int x3)] 53 [] := by
  unfold wp_X10_isTrue_b53F at hw
  refine r_iload_n E x3 rfl dX10_isTrue_53 ?_
  refine r_aload_n E 10 0 rfl dX10_isTrue_54 ?_
  refine r_getS E fd_X10_25 (t := 0) (j1 := 21) rfl rfl rfl rfl (Nat.le_of_ble_eq_true rfl) (adr_lt (Nat.le_of_ble_eq_true rfl)) dX10_isTrue_55 ?_
  refine r_iload_n E x1 rfl dX10_isTrue_58 ?_
  obtain ⟨i1, hw⟩ := hw
  refine r_aaldS E (j1 := 7) (ta := 6) rfl rfl (Nat.le_of_ble_eq_true rfl) rfl rfl rfl (Nat.le_of_ble_eq_true rfl) (adr_lt (Nat.le_of_ble_eq_true rfl)) i1 rfl rfl dX10_isTrue_59 ?_
  refine r_getI E fd_X10_173 rfl (Nat.lt_of_lt_of_le (vp_in_lt i1) (Nat.le_of_ble_eq_true rfl)) (adr_lt (Nat.lt_of_lt_of_le (vp_in_lt i1) (Nat.le_of_ble_eq_true rfl))) dX10_isTrue_60 ?_
  refine r_icmp_ge E 91 (by decide) dX10_isTrue_63 (fun c2 => ?_) (fun c2 => ?_)
  · have hw := ite_t hw c2
    obtain ⟨v3, hv3⟩ : ∃ y : Int32, y = x1 + 1 := ⟨_, rfl⟩
    have hw := hw v3 hv3
    refine r_iinc E x1 v3 [some (rf X 10 0), some (.int v3), some (.int x2), some (.int x3)] rfl (by rw [hv3]; rfl) (Nat.le_of_ble_eq_true rfl) rfl dX10_isTrue_91 ?_
    refine r_goto E 2 (by decide) dX10_isTrue_94 ?_
    exact GG_weak [true, true, false, false] rfl (hP2 _ _ hw)
  · have hw := ite_f hw c2
    refine r_iload_n E x2 rfl dX10_isTrue_66 ?_
    refine r_iload_n E x3 rfl dX10_isTrue_67 ?_
    refine r_callSI E (m_X10_hasBit (EE_st E) (GX X) x2 x3 h _ hw) lk_X10_139 (RM_mk (Nat.le_of_ble_eq_true rfl) (Nat.le_of_ble_eq_true rfl)) rfl rfl rfl rfl (Nat.le_of_ble_eq_true rfl) rfl rfl (Nat.le_of_ble_eq_true rfl) (Nat.le_of_ble_eq_true rfl) dX10_isTrue_68 (fun r4 u9 hw => ?_)
    obtain ⟨rfl, zr4, hw⟩ := hw
    refine r_if_eq E 85 (by decide) dX10_isTrue_71 (fun c5 => ?_) (fun c5 => ?_)
    · have hw := ite_t hw c5
      exact GG_weak [true, true, true, true] rfl (t_X10_isTrue_b85 h x1 x2 x3 E hE P2 hP2 P53 hP53  hw)
    · have hw := ite_f hw c5
      refine r_aload_n E 10 0 rfl dX10_isTrue_74 ?_
      refine r_iload_n E x1 rfl dX10_isTrue_75 ?_
      refine r_iload_n E x3 rfl dX10_isTrue_76 ?_
      refine r_callVI E (m_X10_isNeverDone (EE_st E) (GX X) x1 x3 h _ hw) lk_X10_235 (RM_mk (Nat.le_of_ble_eq_true rfl) (Nat.le_of_ble_eq_true rfl)) rfl rfl rfl rfl (Nat.le_of_ble_eq_true rfl) (adr_lt (Nat.le_of_ble_eq_true rfl)) (Nat.le_of_ble_eq_true rfl) rfl rfl (Nat.le_of_ble_eq_true rfl) (Nat.le_of_ble_eq_true rfl) dX10_isTrue_77 (fun r6 h7 hw => ?_)
      obtain ⟨zr6, hw⟩ := hw
      refine r_if_eq E 85 (by decide) dX10_isTrue_80 (fun c8 => ?_) (fun c8 => ?_)
      · have hw := ite_t hw c8
        exact GG_weak [true, true, true, true] rfl (t_X10_isTrue_b85 h7 x1 x2 x3 E hE P2 hP2 P53 hP53  hw)
      · have hw := ite_f hw c8
        refine r_iconst E 0 rfl dX10_isTrue_83 ?_
        exact hE _ _ _ _ _ _ (Nat.le_of_ble_eq_true rfl) (Nat.le_of_ble_eq_true rfl) dX10_isTrue_84 (isB_nar isB_0) ⟨isB_0, hw⟩
set_option maxRecDepth 20000 in
theorem t_X10_isTrue_b53 {X : Ctx} (h : Hp) (x1 : Int32) (x2 : Int32) (x3 : Int32)  (E : EE X cX10_isTrue RX10 4 46 1420 0 0) {Q : Int32 → Hp → Prop} (hE : ENDi X cX10_isTrue .boolean (fun r u => isB r ∧ Q r u) NT 0 0) (P2 : Int32 → Hp → Prop) (hP2 : ∀ (y1 : Int32) (u : Hp), P2 y1 u → GG X 0 0 NT u [some (rf X 10 0), some (.int y1), none, none] 2 []) (hw : wp_X10_isTrue_b53 x1 x2 x3 h P2 Q) : GG X 0 0 NT h [some (rf X 10 0), some (.int x1), some (.int x2), some (.int x3)] 53 [] :=
  hw (fun y3 u => GG X 0 0 NT u [some (rf X 10 0), some (.int x1), some (.int x2), some (.int y3)] 53 []) (fun y3 u hq => t_X10_isTrue_b53F u x1 x2 y3  E hE P2 hP2 (fun y3 u => GG X 0 0 NT u [some (rf X 10 0), some (.int x1), some (.int x2), some (.int y3)] 53 []) (fun y3 u q => q) hq)
set_option maxRecDepth 20000 in
theorem t_X10_isTrue_b11F {X : Ctx} (h : Hp) (x1 : Int32) (x2 : Int32) (x3 : Int32)  (E : EE X cX10_isTrue RX10 4 46 1420 0 0) {Q : Int32 → Hp → Prop} (hE : ENDi X cX10_isTrue .boolean (fun r u => isB r ∧ Q r u) NT 0 0) (P2 : Int32 → Hp → Prop) (hP2 : ∀ (y1 : Int32) (u : Hp), P2 y1 u → GG X 0 0 NT u [some (rf X 10 0), some (.int y1), none, none] 2 []) (P11 : Int32 → Int32 → Hp → Prop) (hP11 : ∀ (y2 : Int32) (y3 : Int32) (u : Hp), P11 y2 y3 u → GG X 0 0 NT u [some (rf X 10 0), some (.int x1), some (.int y2), some (.int y3)] 11 []) (hw : wp_X10_isTrue_b11F x1  P2 Q P11 x2 x3 h) : GG X 0 0 NT h [some (rf X 10 0), some (.int x1), some (.int x2), some (.int x3)] 11 [] := by
  unfold wp_X10_isTrue_b11F at hw
  refine r_iload_n E x3 rfl dX10_isTrue_11 ?_
  refine r_aload_n E 10 0 rfl dX10_isTrue_12 ?_
  refine r_getS E fd_X10_19 (t := 0) (j1 := 3) rfl rfl rfl rfl (Nat.le_of_ble_eq_true rfl) (adr_lt (Nat.le_of_ble_eq_true rfl)) dX10_isTrue_13 ?_
  refine r_getI E fd_X10_83 rfl (Nat.le_of_ble_eq_true rfl) (adr_lt (Nat.le_of_ble_eq_true rfl)) dX10_isTrue_16 ?_
  refine r_icmp_ge E 51 (by decide) dX10_isTrue_19 (fun c1 => ?_) (fun c1 => ?_)
  · have hw := ite_t hw c1
    refine r_iconst E 0 rfl dX10_isTrue_51 ?_
    refine r_istore_n E [some (rf X 10 0), some (.int x1), some (.int x2), some (.int 0)] rfl (Nat.le_of_ble_eq_true rfl) rfl dX10_isTrue_52 ?_
    exact GG_weak [true, true, true, true] rfl (t_X10_isTrue_b53 h x1 x2 0 E hE P2 hP2  hw)
  · have hw := ite_f hw c1
    refine r_aload_n E 10 0 rfl dX10_isTrue_22 ?_
    refine r_getS E fd_X10_35 (t := 0) (j1 := 0) rfl rfl rfl rfl (Nat.le_of_ble_eq_true rfl) (adr_lt (Nat.le_of_ble_eq_true rfl)) dX10_isTrue_23 ?_
    refine r_iload_n E x1 rfl dX10_isTrue_26 ?_
    refine r_iload_n E x3 rfl dX10_isTrue_27 ?_
    refine r_aload_n E 10 0 rfl dX10_isTrue_28 ?_
    refine r_getS E fd_X10_46 (t := 2) (j1 := 5) rfl rfl rfl rfl (Nat.le_of_ble_eq_true rfl) (adr_lt (Nat.le_of_ble_eq_true rfl)) dX10_isTrue_29 ?_
    refine r_callVV E (m_X0_perform (EE_st E) (GX X) x1 x3 2 (Nat.le_of_ble_eq_true rfl) h _ hw) lk_X10_197 (RM_mk (Nat.le_of_ble_eq_true rfl) (Nat.le_of_ble_eq_true rfl)) rfl rfl rfl rfl (Nat.le_of_ble_eq_true rfl) (adr_lt (Nat.le_of_ble_eq_true rfl)) (Nat.le_of_ble_eq_true rfl) rfl rfl (Nat.le_of_ble_eq_true rfl) (Nat.le_of_ble_eq_true rfl) dX10_isTrue_32 (fun h2 hw => ?_)
    refine r_iload_n E x2 rfl dX10_isTrue_35 ?_
    refine r_aload_n E 10 0 rfl dX10_isTrue_36 ?_
    refine r_getS E fd_X10_46 (t := 2) (j1 := 5) rfl rfl rfl rfl (Nat.le_of_ble_eq_true rfl) (adr_lt (Nat.le_of_ble_eq_true rfl)) dX10_isTrue_37 ?_
    refine r_getI E fd_X10_278 rfl (Nat.le_of_ble_eq_true rfl) (adr_lt (Nat.le_of_ble_eq_true rfl)) dX10_isTrue_40 ?_
    refine r_ior E dX10_isTrue_43 ?_
    refine GG_topI fun v3 hv3 => ?_
    have hw := hw v3 hv3
    refine r_istore_n E [some (rf X 10 0), some (.int x1), some (.int v3), some (.int x3)] rfl (Nat.le_of_ble_eq_true rfl) rfl dX10_isTrue_44 ?_
    obtain ⟨v4, hv4⟩ : ∃ y : Int32, y = x3 + 1 := ⟨_, rfl⟩
    have hw := hw v4 hv4
    refine r_iinc E x3 v4 [some (rf X 10 0), some (.int x1), some (.int v3), some (.int v4)] rfl (by rw [hv4]; rfl) (Nat.le_of_ble_eq_true rfl) rfl dX10_isTrue_45 ?_
    refine r_goto E 11 (by decide) dX10_isTrue_48 ?_
    exact GG_weak [true, true, true, true] rfl (hP11 _ _ _ hw)
set_option maxRecDepth 20000 in
theorem t_X10_isTrue_b11 {X : Ctx} (h : Hp) (x1 : Int32) (x2 : Int32) (x3 : Int32)  (E : EE X cX10_isTrue RX10 4 46 1420 0 0) {Q : Int32 → Hp → Prop} (hE : ENDi X cX10_isTrue .boolean (fun r u => isB r ∧ Q r u) NT 0 0) (P2 : Int32 → Hp → Prop) (hP2 : ∀ (y1 : Int32) (u : Hp), P2 y1 u → GG X 0 0 NT u [some (rf X 10 0), some (.int y1), none, none] 2 []) (hw : wp_X10_isTrue_b11 x1 x2 x3 h P2 Q) : GG X 0 0 NT h [some (rf X 10 0), some (.int x1), some (.int x2), some (.int x3)] 11 [] :=
  hw (fun y2 y3 u => GG X 0 0 NT u [some (rf X 10 0), some (.int x1), some (.int y2), some (.int y3)] 11 []) (fun y2 y3 u hq => t_X10_isTrue_b11F u x1 y2 y3  E hE P2 hP2 (fun y2 y3 u => GG X 0 0 NT u [some (rf X 10 0), some (.int x1), some (.int y2), some (.int y3)] 11 []) (fun y2 y3 u q => q) hq)
set_option maxRecDepth 20000 in
theorem t_X10_isTrue_b2F {X : Ctx} (h : Hp) (x1 : Int32)  (E : EE X cX10_isTrue RX10 4 46 1420 0 0) {Q : Int32 → Hp → Prop} (hE : ENDi X cX10_isTrue .boolean (fun r u => isB r ∧ Q r u) NT 0 0)  (P2 : Int32 → Hp → Prop) (hP2 : ∀ (y1 : Int32) (u : Hp), P2 y1 u → GG X 0 0 NT u [some (rf X 10 0), some (.int y1), none, none] 2 []) (hw : wp_X10_isTrue_b2F    Q P2 x1 h) : GG X 0 0 NT h [some (rf X 10 0), some (.int x1), none, none] 2 [] := by
  unfold wp_X10_isTrue_b2F at hw
  refine r_iload_n E x1 rfl dX10_isTrue_2 ?_
  refine r_iconst E 4 rfl dX10_isTrue_3 ?_
  refine r_icmp_ge E 97 (by decide) dX10_isTrue_4 (fun c1 => ?_) (fun c1 => ?_)
  · have hw := ite_t hw c1
    refine r_iconst E 1 rfl dX10_isTrue_97 ?_
    exact hE _ _ _ _ _ _ (Nat.le_of_ble_eq_true rfl) (Nat.le_of_ble_eq_true rfl) dX10_isTrue_98 (isB_nar isB_1) ⟨isB_1, hw⟩
  · have hw := ite_f hw c1
    refine r_iconst E 0 rfl dX10_isTrue_7 ?_
    refine r_istore_n E [some (rf X 10 0), some (.int x1), some (.int 0), none] rfl (Nat.le_of_ble_eq_true rfl) rfl dX10_isTrue_8 ?_
    refine r_iconst E 0 rfl dX10_isTrue_9 ?_
    refine r_istore_n E [some (rf X 10 0), some (.int x1), some (.int 0), some (.int 0)] rfl (Nat.le_of_ble_eq_true rfl) rfl dX10_isTrue_10 ?_
    exact GG_weak [true, true, true, true] rfl (t_X10_isTrue_b11 h x1 0 0 E hE P2 hP2  hw)
set_option maxRecDepth 20000 in
theorem t_X10_isTrue_b2 {X : Ctx} (h : Hp) (x1 : Int32)  (E : EE X cX10_isTrue RX10 4 46 1420 0 0) {Q : Int32 → Hp → Prop} (hE : ENDi X cX10_isTrue .boolean (fun r u => isB r ∧ Q r u) NT 0 0)  (hw : wp_X10_isTrue_b2 x1 h  Q) : GG X 0 0 NT h [some (rf X 10 0), some (.int x1), none, none] 2 [] :=
  hw (fun y1 u => GG X 0 0 NT u [some (rf X 10 0), some (.int y1), none, none] 2 []) (fun y1 u hq => t_X10_isTrue_b2F u y1  E hE  (fun y1 u => GG X 0 0 NT u [some (rf X 10 0), some (.int y1), none, none] 2 []) (fun y1 u q => q) hq)
set_option maxRecDepth 20000 in
theorem m_X10_isTrue {l : Launch} (hl : l.stackTraces = false) (G : Gq)   (h : Hp) (Q : Int32 → Hp → Prop) (hw : wp_X10_isTrue  h Q) : MI l G yX10_isTrue cX10_isTrue 4 (some .boolean) rm_X10_isTrue NT NT h (fun r => [r 10 0]) (fun r u => isB r ∧ Q r u) := by
  refine MI_of (L0 := (fun X => [some (rf X 10 0), none, none, none])) hl (by decide +kernel) rfl (fun _ => Nat.le_of_ble_eq_true rfl) (fun _ => rfl) fun X hXl hXG E hE => ?_
  subst hXl; subst hXG
  unfold wp_X10_isTrue at hw
  refine r_iconst E 0 rfl dX10_isTrue_0 ?_
  refine r_istore_n E [some (rf X 10 0), some (.int 0), none, none] rfl (Nat.le_of_ble_eq_true rfl) rfl dX10_isTrue_1 ?_
  exact GG_weak [true, true, false, false] rfl (t_X10_isTrue_b2 h 0 E hE  hw)
set_option maxRecDepth 20000 in
theorem m_X11_thrown {l : Launch} (hl : l.stackTraces = false) (G : Gq)   (h : Hp) (Q : Int32 → Prop) (hw : wp_X11_thrown  h Q) : MI l G yX11_thrown cX11_thrown 1 (some .int) rm_X11_thrown NT NT h (fun r => [r 11 0]) (fun r u => h = u ∧ Q r) := by
  refine MI_of (L0 := (fun X => [some (rf X 11 0)])) hl (by decide +kernel) rfl (fun _ => Nat.le_of_ble_eq_true rfl) (fun _ => rfl) fun X hXl hXG E hE => ?_
  subst hXl; subst hXG
  unfold wp_X11_thrown at hw
  refine r_aload_n E 11 0 rfl dX11_thrown_0 ?_
  refine r_getI E fd_X11_138 rfl (Nat.le_of_ble_eq_true rfl) (adr_lt (Nat.le_of_ble_eq_true rfl)) dX11_thrown_1 ?_
  exact hE _ _ _ _ _ _ (Nat.le_of_ble_eq_true rfl) (Nat.le_of_ble_eq_true rfl) dX11_thrown_4 rfl ⟨rfl, hw⟩
set_option maxRecDepth 20000 in
theorem m_X11_in {l : Launch} (hl : l.stackTraces = false) (G : Gq) (p0 : Int32) (p1 : Int32) (p2 : Int32)  (h : Hp) (Q : Int32 → Prop) (hw : wp_X11_in p0 p1 p2 h Q) : MI l G yX11_in cX11_in 3 (some .boolean) rm_X11_in NT NT h (fun r => [.int p0, .int p1, .int p2]) (fun r u => h = u ∧ isB r ∧ Q r) := by
  refine MI_of (L0 := (fun X => [some (.int p0), some (.int p1), some (.int p2)])) hl (by decide +kernel) rfl (fun _ => Nat.le_of_ble_eq_true rfl) (fun _ => rfl) fun X hXl hXG E hE => ?_
  subst hXl; subst hXG
  unfold wp_X11_in at hw
  refine r_iload_n E p0 rfl dX11_in_0 ?_
  refine r_iload_n E p1 rfl dX11_in_1 ?_
  refine r_icmp_lt E 14 (by decide) dX11_in_2 (fun c1 => ?_) (fun c1 => ?_)
  · have hw := ite_t hw c1
    refine r_iconst E 0 rfl dX11_in_14 ?_
    exact hE _ _ _ _ _ _ (Nat.le_of_ble_eq_true rfl) (Nat.le_of_ble_eq_true rfl) dX11_in_15 (isB_nar isB_0) ⟨rfl, isB_0, hw⟩
  · have hw := ite_f hw c1
    refine r_iload_n E p0 rfl dX11_in_5 ?_
    refine r_iload_n E p2 rfl dX11_in_6 ?_
    refine r_icmp_gt E 14 (by decide) dX11_in_7 (fun c2 => ?_) (fun c2 => ?_)
    · have hw := ite_t hw c2
      refine r_iconst E 0 rfl dX11_in_14 ?_
      exact hE _ _ _ _ _ _ (Nat.le_of_ble_eq_true rfl) (Nat.le_of_ble_eq_true rfl) dX11_in_15 (isB_nar isB_0) ⟨rfl, isB_0, hw⟩
    · have hw := ite_f hw c2
      refine r_iconst E 1 rfl dX11_in_10 ?_
      refine r_goto E 15 (by decide) dX11_in_11 ?_
      exact hE _ _ _ _ _ _ (Nat.le_of_ble_eq_true rfl) (Nat.le_of_ble_eq_true rfl) dX11_in_15 (isB_nar isB_1) ⟨rfl, isB_1, hw⟩
set_option maxRecDepth 20000 in
theorem m_X11_fails {l : Launch} (hl : l.stackTraces = false) (G : Gq) (p0 : Int32)  (h : Hp) (Q : Int32 → Hp → Prop) (hw : wp_X11_fails p0 h Q) : MI l G yX11_fails cX11_fails 2 (some .int) rm_X11_fails NT NT h (fun r => [r 11 0, .int p0]) Q := by
  refine MI_of (L0 := (fun X => [some (rf X 11 0), some (.int p0)])) hl (by decide +kernel) rfl (fun _ => Nat.le_of_ble_eq_true rfl) (fun _ => rfl) fun X hXl hXG E hE => ?_
  subst hXl; subst hXG
  unfold wp_X11_fails at hw
  refine r_aload_n E 11 0 rfl dX11_fails_0 ?_
  refine r_iload_n E p0 rfl dX11_fails_1 ?_
  refine r_putI E fd_X11_138 rfl PI_int (Nat.le_of_ble_eq_true rfl) (adr_lt (Nat.le_of_ble_eq_true rfl)) rfl dX11_fails_2 ?_
  refine GG_toph fun h1 hh1 => ?_
  have hw := hw h1 hh1
  refine r_iconst E 0 rfl dX11_fails_5 ?_
  exact hE _ _ _ _ _ _ (Nat.le_of_ble_eq_true rfl) (Nat.le_of_ble_eq_true rfl) dX11_fails_6 rfl hw
set_option maxRecDepth 20000 in
theorem t_X11_mail_b59 {X : Ctx} (h : Hp)   (E : EE X cX11_mail RX11 6 2 46 0 0) {Q : Int32 → Hp → Prop} (hE : ENDi X cX11_mail .int Q NT 0 0)  (hw : wp_X11_mail_b59  h  Q) : GG X 0 0 NT h [some (rf X 11 0), none, none, none, none, none] 59 [] := by
  unfold wp_X11_mail_b59 at hw
  refine r_aload_n E 11 0 rfl dX11_mail_59 ?_
  refine r_iconst E 1 rfl dX11_mail_60 ?_
  refine r_callVI E (m_X11_fails (EE_st E) (GX X) 1 h _ hw) lk_X11_147 (RM_mk (Nat.le_of_ble_eq_true rfl) (Nat.le_of_ble_eq_true rfl)) rfl rfl rfl rfl (Nat.le_of_ble_eq_true rfl) (adr_lt (Nat.le_of_ble_eq_true rfl)) (Nat.le_of_ble_eq_true rfl) rfl rfl (Nat.le_of_ble_eq_true rfl) (Nat.le_of_ble_eq_true rfl) dX11_mail_61 (fun r1 h2 hw => ?_)
  exact hE _ _ _ _ _ _ (Nat.le_of_ble_eq_true rfl) (Nat.le_of_ble_eq_true rfl) dX11_mail_64 rfl hw
set_option maxRecDepth 20000 in
theorem m_X11_mail {l : Launch} (hl : l.stackTraces = false) (G : Gq) (p0 : Int32) (p1 : Int32) (p2 : Int32) (p3 : Int32) (p4 : Int32)  (h : Hp) (Q : Int32 → Hp → Prop) (hw : wp_X11_mail p0 p1 p2 p3 p4 h Q) : MI l G yX11_mail cX11_mail 6 (some .int) rm_X11_mail NT NT h (fun r => [r 11 0, .int p0, .int p1, .int p2, .int p3, .int p4]) Q := by
  refine MI_of (L0 := (fun X => [some (rf X 11 0), some (.int p0), some (.int p1), some (.int p2), some (.int p3), some (.int p4)])) hl (by decide +kernel) rfl (fun _ => Nat.le_of_ble_eq_true rfl) (fun _ => rfl) fun X hXl hXG E hE => ?_
  subst hXl; subst hXG
  unfold wp_X11_mail at hw
  refine r_aload_n E 11 0 rfl dX11_mail_0 ?_
  refine r_iconst E 0 rfl dX11_mail_1 ?_
  refine r_putI E fd_X11_138 rfl PI_int (Nat.le_of_ble_eq_true rfl) (adr_lt (Nat.le_of_ble_eq_true rfl)) rfl dX11_mail_2 ?_
  refine GG_toph fun h1 hh1 => ?_
  have hw := hw h1 hh1
  refine r_iload_n E p0 rfl dX11_mail_5 ?_
  refine r_iconst E 0 rfl dX11_mail_6 ?_
  refine r_bipush E 9 rfl dX11_mail_7 ?_
  refine r_callSI E (m_X11_in (EE_st E) (GX X) p0 0 9 h1 _ hw) lk_X11_142 (RM_mk (Nat.le_of_ble_eq_true rfl) (Nat.le_of_ble_eq_true rfl)) rfl rfl rfl rfl (Nat.le_of_ble_eq_true rfl) rfl rfl (Nat.le_of_ble_eq_true rfl) (Nat.le_of_ble_eq_true rfl) dX11_mail_9 (fun r2 u9 hw => ?_)
  obtain ⟨rfl, zr2, hw⟩ := hw
  refine r_if_eq E 59 (by decide) dX11_mail_12 (fun c3 => ?_) (fun c3 => ?_)
  · have hw := ite_t hw c3
    exact GG_weak [true, false, false, false, false, false] rfl (t_X11_mail_b59 h1  E hE  hw)
  · have hw := ite_f hw c3
    refine r_iload_n E p1 rfl dX11_mail_15 ?_
    refine r_iconst E 1 rfl dX11_mail_16 ?_
    refine r_sipush E 1023 rfl dX11_mail_17 ?_
    refine r_callSI E (m_X11_in (EE_st E) (GX X) p1 1 1023 h1 _ hw) lk_X11_142 (RM_mk (Nat.le_of_ble_eq_true rfl) (Nat.le_of_ble_eq_true rfl)) rfl rfl rfl rfl (Nat.le_of_ble_eq_true rfl) rfl rfl (Nat.le_of_ble_eq_true rfl) (Nat.le_of_ble_eq_true rfl) dX11_mail_20 (fun r4 u9 hw => ?_)
    obtain ⟨rfl, zr4, hw⟩ := hw
    refine r_if_eq E 59 (by decide) dX11_mail_23 (fun c5 => ?_) (fun c5 => ?_)
    · have hw := ite_t hw c5
      exact GG_weak [true, false, false, false, false, false] rfl (t_X11_mail_b59 h1  E hE  hw)
    · have hw := ite_f hw c5
      refine r_iload_n E p2 rfl dX11_mail_26 ?_
      refine r_iconst E 0 rfl dX11_mail_27 ?_
      refine r_ldc E 65535 kc_X11_146 dX11_mail_28 ?_
      refine r_callSI E (m_X11_in (EE_st E) (GX X) p2 0 65535 h1 _ hw) lk_X11_142 (RM_mk (Nat.le_of_ble_eq_true rfl) (Nat.le_of_ble_eq_true rfl)) rfl rfl rfl rfl (Nat.le_of_ble_eq_true rfl) rfl rfl (Nat.le_of_ble_eq_true rfl) (Nat.le_of_ble_eq_true rfl) dX11_mail_30 (fun r6 u9 hw => ?_)
      obtain ⟨rfl, zr6, hw⟩ := hw
      refine r_if_eq E 59 (by decide) dX11_mail_33 (fun c7 => ?_) (fun c7 => ?_)
      · have hw := ite_t hw c7
        exact GG_weak [true, false, false, false, false, false] rfl (t_X11_mail_b59 h1  E hE  hw)
      · have hw := ite_f hw c7
        refine r_iload E p3 rfl dX11_mail_36 ?_
        refine r_iconst E 0 rfl dX11_mail_38 ?_
        refine r_ldc E 65535 kc_X11_146 dX11_mail_39 ?_
        refine r_callSI E (m_X11_in (EE_st E) (GX X) p3 0 65535 h1 _ hw) lk_X11_142 (RM_mk (Nat.le_of_ble_eq_true rfl) (Nat.le_of_ble_eq_true rfl)) rfl rfl rfl rfl (Nat.le_of_ble_eq_true rfl) rfl rfl (Nat.le_of_ble_eq_true rfl) (Nat.le_of_ble_eq_true rfl) dX11_mail_41 (fun r8 u9 hw => ?_)
        obtain ⟨rfl, zr8, hw⟩ := hw
        refine r_if_eq E 59 (by decide) dX11_mail_44 (fun c9 => ?_) (fun c9 => ?_)
        · have hw := ite_t hw c9
          exact GG_weak [true, false, false, false, false, false] rfl (t_X11_mail_b59 h1  E hE  hw)
        · have hw := ite_f hw c9
          refine r_iload E p4 rfl dX11_mail_47 ?_
          refine r_iconst E 1 rfl dX11_mail_49 ?_
          refine r_sipush E 999 rfl dX11_mail_50 ?_
          refine r_callSI E (m_X11_in (EE_st E) (GX X) p4 1 999 h1 _ hw) lk_X11_142 (RM_mk (Nat.le_of_ble_eq_true rfl) (Nat.le_of_ble_eq_true rfl)) rfl rfl rfl rfl (Nat.le_of_ble_eq_true rfl) rfl rfl (Nat.le_of_ble_eq_true rfl) (Nat.le_of_ble_eq_true rfl) dX11_mail_53 (fun r10 u9 hw => ?_)
          obtain ⟨rfl, zr10, hw⟩ := hw
          refine r_if_ne E 65 (by decide) dX11_mail_56 (fun c11 => ?_) (fun c11 => ?_)
          · have hw := ite_t hw c11
            exact GG_weak [true, false, false, false, false, false] rfl (t_X11_mail_b59 h1  E hE  hw)
          · have hw := ite_f hw c11
            refine r_aload_n E 11 0 rfl dX11_mail_65 ?_
            refine r_getI E fd_X11_151 rfl (Nat.le_of_ble_eq_true rfl) (adr_lt (Nat.le_of_ble_eq_true rfl)) dX11_mail_66 ?_
            refine r_bipush E 40 rfl dX11_mail_69 ?_
            refine r_icmp_ne E 80 (by decide) dX11_mail_71 (fun c12 => ?_) (fun c12 => ?_)
            · have hw := ite_t hw c12
              refine r_aload_n E 11 0 rfl dX11_mail_74 ?_
              refine r_iconst E 2 rfl dX11_mail_75 ?_
              refine r_callVI E (m_X11_fails (EE_st E) (GX X) 2 h1 _ hw) lk_X11_147 (RM_mk (Nat.le_of_ble_eq_true rfl) (Nat.le_of_ble_eq_true rfl)) rfl rfl rfl rfl (Nat.le_of_ble_eq_true rfl) (adr_lt (Nat.le_of_ble_eq_true rfl)) (Nat.le_of_ble_eq_true rfl) rfl rfl (Nat.le_of_ble_eq_true rfl) (Nat.le_of_ble_eq_true rfl) dX11_mail_76 (fun r13 h14 hw => ?_)
              exact hE _ _ _ _ _ _ (Nat.le_of_ble_eq_true rfl) (Nat.le_of_ble_eq_true rfl) dX11_mail_79 rfl hw
            · have hw := ite_f hw c12
              refine r_aload_n E 11 0 rfl dX11_mail_80 ?_
              refine r_getS E fd_X11_7 (t := 0) (j1 := 33) rfl rfl rfl rfl (Nat.le_of_ble_eq_true rfl) (adr_lt (Nat.le_of_ble_eq_true rfl)) dX11_mail_81 ?_
              refine r_aload_n E 11 0 rfl dX11_mail_84 ?_
              refine r_getI E fd_X11_151 rfl (Nat.le_of_ble_eq_true rfl) (adr_lt (Nat.le_of_ble_eq_true rfl)) dX11_mail_85 ?_
              refine r_iload_n E p0 rfl dX11_mail_88 ?_
              obtain ⟨i15, hw⟩ := hw
              refine r_iast E rfl rfl rfl (Nat.le_of_ble_eq_true rfl) (adr_lt (Nat.le_of_ble_eq_true rfl)) i15 dX11_mail_89 ?_
              refine GG_toph fun h16 hh16 => ?_
              have hw := hw h16 hh16
              refine r_aload_n E 11 0 rfl dX11_mail_90 ?_
              refine r_getS E fd_X11_13 (t := 0) (j1 := 34) rfl rfl rfl rfl (Nat.le_of_ble_eq_true rfl) (adr_lt (Nat.le_of_ble_eq_true rfl)) dX11_mail_91 ?_
              refine r_aload_n E 11 0 rfl dX11_mail_94 ?_
              refine r_getI E fd_X11_151 rfl (Nat.le_of_ble_eq_true rfl) (adr_lt (Nat.le_of_ble_eq_true rfl)) dX11_mail_95 ?_
              refine r_iload_n E p1 rfl dX11_mail_98 ?_
              obtain ⟨i17, hw⟩ := hw
              refine r_iast E rfl rfl rfl (Nat.le_of_ble_eq_true rfl) (adr_lt (Nat.le_of_ble_eq_true rfl)) i17 dX11_mail_99 ?_
              refine GG_toph fun h18 hh18 => ?_
              have hw := hw h18 hh18
              refine r_aload_n E 11 0 rfl dX11_mail_100 ?_
              refine r_getS E fd_X11_16 (t := 0) (j1 := 35) rfl rfl rfl rfl (Nat.le_of_ble_eq_true rfl) (adr_lt (Nat.le_of_ble_eq_true rfl)) dX11_mail_101 ?_
              refine r_aload_n E 11 0 rfl dX11_mail_104 ?_
              refine r_getI E fd_X11_151 rfl (Nat.le_of_ble_eq_true rfl) (adr_lt (Nat.le_of_ble_eq_true rfl)) dX11_mail_105 ?_
              refine r_iload_n E p2 rfl dX11_mail_108 ?_
              obtain ⟨i19, hw⟩ := hw
              refine r_iast E rfl rfl rfl (Nat.le_of_ble_eq_true rfl) (adr_lt (Nat.le_of_ble_eq_true rfl)) i19 dX11_mail_109 ?_
              refine GG_toph fun h20 hh20 => ?_
              have hw := hw h20 hh20
              refine r_aload_n E 11 0 rfl dX11_mail_110 ?_
              refine r_getS E fd_X11_19 (t := 0) (j1 := 36) rfl rfl rfl rfl (Nat.le_of_ble_eq_true rfl) (adr_lt (Nat.le_of_ble_eq_true rfl)) dX11_mail_111 ?_
              refine r_aload_n E 11 0 rfl dX11_mail_114 ?_
              refine r_getI E fd_X11_151 rfl (Nat.le_of_ble_eq_true rfl) (adr_lt (Nat.le_of_ble_eq_true rfl)) dX11_mail_115 ?_
              refine r_iload E p3 rfl dX11_mail_118 ?_
              obtain ⟨i21, hw⟩ := hw
              refine r_iast E rfl rfl rfl (Nat.le_of_ble_eq_true rfl) (adr_lt (Nat.le_of_ble_eq_true rfl)) i21 dX11_mail_120 ?_
              refine GG_toph fun h22 hh22 => ?_
              have hw := hw h22 hh22
              refine r_aload_n E 11 0 rfl dX11_mail_121 ?_
              refine r_getS E fd_X11_22 (t := 0) (j1 := 37) rfl rfl rfl rfl (Nat.le_of_ble_eq_true rfl) (adr_lt (Nat.le_of_ble_eq_true rfl)) dX11_mail_122 ?_
              refine r_aload_n E 11 0 rfl dX11_mail_125 ?_
              refine r_getI E fd_X11_151 rfl (Nat.le_of_ble_eq_true rfl) (adr_lt (Nat.le_of_ble_eq_true rfl)) dX11_mail_126 ?_
              refine r_iload E p4 rfl dX11_mail_129 ?_
              obtain ⟨i23, hw⟩ := hw
              refine r_iast E rfl rfl rfl (Nat.le_of_ble_eq_true rfl) (adr_lt (Nat.le_of_ble_eq_true rfl)) i23 dX11_mail_131 ?_
              refine GG_toph fun h24 hh24 => ?_
              have hw := hw h24 hh24
              refine r_aload_n E 11 0 rfl dX11_mail_132 ?_
              refine r_getS E fd_X11_25 (t := 0) (j1 := 38) rfl rfl rfl rfl (Nat.le_of_ble_eq_true rfl) (adr_lt (Nat.le_of_ble_eq_true rfl)) dX11_mail_133 ?_
              refine r_aload_n E 11 0 rfl dX11_mail_136 ?_
              refine r_getI E fd_X11_151 rfl (Nat.le_of_ble_eq_true rfl) (adr_lt (Nat.le_of_ble_eq_true rfl)) dX11_mail_137 ?_
              refine r_aload_n E 11 0 rfl dX11_mail_140 ?_
              refine r_getI E fd_X11_154 rfl (Nat.le_of_ble_eq_true rfl) (adr_lt (Nat.le_of_ble_eq_true rfl)) dX11_mail_141 ?_
              obtain ⟨i25, hw⟩ := hw
              refine r_iast E rfl rfl rfl (Nat.le_of_ble_eq_true rfl) (adr_lt (Nat.le_of_ble_eq_true rfl)) i25 dX11_mail_144 ?_
              refine GG_toph fun h26 hh26 => ?_
              have hw := hw h26 hh26
              refine r_aload_n E 11 0 rfl dX11_mail_145 ?_
              refine r_getS E fd_X11_41 (t := 0) (j1 := 43) rfl rfl rfl rfl (Nat.le_of_ble_eq_true rfl) (adr_lt (Nat.le_of_ble_eq_true rfl)) dX11_mail_146 ?_
              refine r_aload_n E 11 0 rfl dX11_mail_149 ?_
              refine r_getI E fd_X11_151 rfl (Nat.le_of_ble_eq_true rfl) (adr_lt (Nat.le_of_ble_eq_true rfl)) dX11_mail_150 ?_
              refine r_iconst E (-1) rfl dX11_mail_153 ?_
              obtain ⟨i27, hw⟩ := hw
              refine r_iast E rfl rfl rfl (Nat.le_of_ble_eq_true rfl) (adr_lt (Nat.le_of_ble_eq_true rfl)) i27 dX11_mail_154 ?_
              refine GG_toph fun h28 hh28 => ?_
              have hw := hw h28 hh28
              refine r_aload_n E 11 0 rfl dX11_mail_155 ?_
              refine r_dup E rfl dX11_mail_156 ?_
              refine r_getI E fd_X11_151 rfl (Nat.le_of_ble_eq_true rfl) (adr_lt (Nat.le_of_ble_eq_true rfl)) dX11_mail_157 ?_
              refine r_iconst E 1 rfl dX11_mail_160 ?_
              refine r_iadd E dX11_mail_161 ?_
              refine r_putI E fd_X11_151 rfl PI_int (Nat.le_of_ble_eq_true rfl) (adr_lt (Nat.le_of_ble_eq_true rfl)) rfl dX11_mail_162 ?_
              refine GG_toph fun h29 hh29 => ?_
              have hw := hw h29 hh29
              refine r_aload_n E 11 0 rfl dX11_mail_165 ?_
              refine r_getI E fd_X11_151 rfl (Nat.le_of_ble_eq_true rfl) (adr_lt (Nat.le_of_ble_eq_true rfl)) dX11_mail_166 ?_
              refine r_iconst E 1 rfl dX11_mail_169 ?_
              refine r_isub E dX11_mail_170 ?_
              exact hE _ _ _ _ _ _ (Nat.le_of_ble_eq_true rfl) (Nat.le_of_ble_eq_true rfl) dX11_mail_171 rfl hw
