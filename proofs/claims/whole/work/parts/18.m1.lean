def rm_X3_takeIn : Room := { frames := 1, cells := 0, slots := 0, locals := 24 }
def wp_X3_takeIn (p0 : Int32) (p1 : Int32) (p2 : Int32) (p3 : Int32) (p4 : Int32) (h : Hp) (Q : Int32 → Hp → Prop) : Prop := vp_in (gI h 3 0 6) 40 ∧ LET (sI h 2 ((gI h 3 0 6).toNatClampNeg) 0 p0) fun h2 => LET (sI h2 2 ((gI h 3 0 6).toNatClampNeg) 1 p1) fun h3 => LET (sI h3 2 ((gI h 3 0 6).toNatClampNeg) 2 p2) fun h4 => LET (sI h4 2 ((gI h 3 0 6).toNatClampNeg) 3 p3) fun h5 => LET (sI h5 2 ((gI h 3 0 6).toNatClampNeg) 4 p4) fun h6 => LET (sI h6 2 ((gI h 3 0 6).toNatClampNeg) 5 ((gI h6 3 0 7) - (gI h6 3 0 7) / 7 * 7)) fun h7 => LET (sI h7 3 0 6 ((gI h7 3 0 6) + 1)) fun h8 => Q ((gI h8 3 0 6) - 1) h8
def rm_X3_sizesIn : Room := { frames := 3, cells := 0, slots := 0, locals := 65 }
def wp_X3_sizesIn_b37 (x1 : Int32) (x2 : Int32) (x3 : Int32) (h : Hp) (P4 : Int32 → Int32 → Prop) (Q : Int32 → Prop) : Prop := LET (x3 + 1) fun v1 => P4 x2 v1
def wp_X3_sizesIn_b4F (x1 : Int32) (h : Hp)  (Q : Int32 → Prop) (P4 : Int32 → Int32 → Prop) (x2 : Int32) (x3 : Int32)  : Prop := if (gI h 3 0 6) ≤ x3 then (Q x2) else (vp_in x3 40 ∧ wp_X2_liesIn x3.toNatClampNeg x1 h (fun r3 => if r3 = 0 then (wp_X3_sizesIn_b37 x1 x2 x3 h P4 Q) else (LET (x2 + (gI h 2 x3.toNatClampNeg 4)) fun v5 => wp_X3_sizesIn_b37 x1 v5 x3 h P4 Q)))
def wp_X3_sizesIn_b4 (x1 : Int32) (x2 : Int32) (x3 : Int32) (h : Hp)  (Q : Int32 → Prop) : Prop := LFP2 (wp_X3_sizesIn_b4F x1 h  Q) x2 x3 
def wp_X3_sizesIn (p0 : Int32) (h : Hp) (Q : Int32 → Prop) : Prop := wp_X3_sizesIn_b4 p0 0 0 h Q
def rm_X3_carryOut : Room := { frames := 2, cells := 0, slots := 0, locals := 45 }
def wp_X3_carryOut_b128 (o2 : Nat) (o3 : Nat) (x4 : Int32) (h : Hp) (P98 : Int32 → Hp → Prop) (Q : Hp → Prop) : Prop := LET (x4 + 1) fun v1 => P98 v1 h
def wp_X3_carryOut_b98F (o2 : Nat) (o3 : Nat)   (Q : Hp → Prop) (P98 : Int32 → Hp → Prop) (x4 : Int32) (h : Hp) : Prop := if 10 ≤ x4 then (if (gI h 5 o2 11) = 0 then (Q h) else (vp_in (gI h 2 o3 0) 10 ∧ LET (sI h 18 0 (gI h 2 o3 0).toNatClampNeg ((gI h 18 0 (gI h 2 o3 0).toNatClampNeg) + 1)) fun h4 => vp_in (gI h4 2 o3 0) 10 ∧ LET (sI h4 20 0 (gI h4 2 o3 0).toNatClampNeg (gI h4 3 0 7)) fun h6 => Q h6)) else (wp_X10_hasBit (gI h 5 o2 9) x4 h (fun r7 => if r7 = 0 then (wp_X3_carryOut_b128 o2 o3 x4 h P98 Q) else (vp_in x4 10 ∧ LET (sI h 19 0 x4.toNatClampNeg ((gI h 19 0 x4.toNatClampNeg) + 1)) fun h10 => wp_X3_carryOut_b128 o2 o3 x4 h10 P98 Q)))
def wp_X3_carryOut_b98 (o2 : Nat) (o3 : Nat) (x4 : Int32) (h : Hp)  (Q : Hp → Prop) : Prop := LFP2 (wp_X3_carryOut_b98F o2 o3   Q) x4 h
def wp_X3_carryOut_b65F (o2 : Nat) (o3 : Nat)   (Q : Hp → Prop) (P65 : Int32 → Hp → Prop) (x4 : Int32) (h : Hp) : Prop := if 8 ≤ x4 then (wp_X3_carryOut_b98 o2 o3 0 h Q) else (vp_in x4 8 ∧ LET (sI h 17 0 x4.toNatClampNeg ((gI h 17 0 x4.toNatClampNeg) + (gI h 27 o2 x4.toNatClampNeg))) fun h3 => LET (x4 + 1) fun v4 => P65 v4 h3)
def wp_X3_carryOut_b65 (o2 : Nat) (o3 : Nat) (x4 : Int32) (h : Hp)  (Q : Hp → Prop) : Prop := LFP2 (wp_X3_carryOut_b65F o2 o3   Q) x4 h
def wp_X3_carryOut_b51 (o2 : Nat) (o3 : Nat) (so0 : Nat) (s1 : Int32) (h : Hp)  (Q : Hp → Prop) : Prop := LET (sI h 2 so0 6 s1) fun h1 => LET (sI h1 2 o3 7 (gI h1 5 o2 3)) fun h2 => wp_X3_carryOut_b65 o2 o3 0 h2 Q
def wp_X3_carryOut_b32 (o2 : Nat) (o3 : Nat) (so0 : Nat) (s1 : Int32) (h : Hp)  (Q : Hp → Prop) : Prop := isB s1 ∧ LET (sI h 2 so0 9 s1) fun h2 => if (gI h2 2 o3 9) = 0 then (wp_X3_carryOut_b51 o2 o3 o3 (gI h2 5 o2 2) h2 Q) else (wp_X3_carryOut_b51 o2 o3 o3 0 h2 Q)
def wp_X3_carryOut (p0 : Int32) (p1 : Nat) (h : Hp) (Q : Hp → Prop) : Prop := vp_in p0 40 ∧ LET (sI h 2 p0.toNatClampNeg 8 1) fun h2 => LET (sI h2 2 p0.toNatClampNeg 10 0) fun h3 => if (gI h3 5 p1 2) < 8 then (wp_X3_carryOut_b32 p1 p0.toNatClampNeg p0.toNatClampNeg 0 h3 Q) else (wp_X3_carryOut_b32 p1 p0.toNatClampNeg p0.toNatClampNeg 1 h3 Q)
def rm_X4_gather : Room := { frames := 2, cells := 0, slots := 0, locals := 46 }
def wp_X4_gather_b147 (x3 : Int64) (x5 : Int32) (h : Hp) (P105 : Int32 → Hp → Prop) (Q : Hp → Prop) : Prop := LET (x5 + 1) fun v1 => P105 v1 h
def wp_X4_gather_b105F (x3 : Int64)   (Q : Hp → Prop) (P105 : Int32 → Hp → Prop) (x5 : Int32) (h : Hp) : Prop := if (gI h 9 0 4) ≤ x5 then (Q h) else (wp_X10_hasBit_ x3 x5 h (fun r2 => if r2 = 0 then (wp_X4_gather_b147 x3 x5 h P105 Q) else (vp_in (gI h 4 0 3) 60 ∧ LET (sI h 28 0 (gI h 4 0 3).toNatClampNeg x5) fun h5 => LET (sI h5 4 0 3 ((gI h5 4 0 3) + 1)) fun h6 => wp_X4_gather_b147 x3 x5 h6 P105 Q)))
def wp_X4_gather_b105 (x3 : Int64) (x5 : Int32) (h : Hp)  (Q : Hp → Prop) : Prop := LFP2 (wp_X4_gather_b105F x3   Q) x5 h
def wp_X4_gather_b91 (x3 : Int64) (x5 : Int32) (h : Hp) (P13 : Int64 → Int32 → Hp → Prop) (Q : Hp → Prop) : Prop := LET (x5 + (-1)) fun v1 => P13 x3 v1 h
def wp_X4_gather_b89 (x5 : Int32) (s0 : Int64) (s1 : Int64) (h : Hp) (P13 : Int64 → Int32 → Hp → Prop) (Q : Hp → Prop) : Prop := LET (s0 ||| s1) fun v1 => wp_X4_gather_b91 v1 x5 h P13 Q
def wp_X4_gather_b64 (x5 : Int32) (x6 : Int32) (s0 : Int64) (s1 : Int64) (h : Hp) (P13 : Int64 → Int32 → Hp → Prop) (Q : Hp → Prop) : Prop := LET (s0 ||| s1) fun v1 => if x6 ≤ 1 then (wp_X4_gather_b89 x5 v1 0 h P13 Q) else (vp_in x5 60 ∧ wp_X4_gather_b89 x5 v1 ((1 : Int64) <<< ((gI h 14 0 x5.toNatClampNeg : Int32).toInt64 &&& 63)) h P13 Q)
def wp_X4_gather_b13F    (Q : Hp → Prop) (P13 : Int64 → Int32 → Hp → Prop) (x3 : Int64) (x5 : Int32) (h : Hp) : Prop := if x5 < 0 then (LET (sI h 4 0 3 0) fun h2 => wp_X4_gather_b105 x3 0 h2 Q) else (wp_X10_hasBit_ x3 x5 h (fun r3 => if r3 = 0 then (wp_X4_gather_b91 x3 x5 h P13 Q) else (vp_in x5 60 ∧ wp_X9_partsOf (gI h 12 0 x5.toNatClampNeg) h (fun r6 => if r6 ≤ 0 then (wp_X4_gather_b64 x5 r6 x3 0 h P13 Q) else (wp_X4_gather_b64 x5 r6 x3 ((1 : Int64) <<< ((gI h 13 0 x5.toNatClampNeg : Int32).toInt64 &&& 63)) h P13 Q)))))
def wp_X4_gather_b13 (x3 : Int64) (x5 : Int32) (h : Hp)  (Q : Hp → Prop) : Prop := LFP3 (wp_X4_gather_b13F    Q) x3 x5 h
def wp_X4_gather (p0 : Int64) (h : Hp) (Q : Hp → Prop) : Prop := LET ((gI h 9 0 4) - 1) fun v1 => wp_X4_gather_b13 p0 v1 h Q
def rm_X8_blank : Room := { frames := 1, cells := 0, slots := 0, locals := 24 }
def wp_X8_blank  (h : Hp) (Q : Hp → Prop) : Prop := LET (sI h 8 0 0 1023) fun h1 => LET (sI h1 8 0 1 127) fun h2 => LET (sI h2 8 0 2 1) fun h3 => LET (sI h3 8 0 3 999) fun h4 => LET (sI h4 8 0 4 0) fun h5 => LET (sI h5 8 0 5 0) fun h6 => LET (sI h6 8 0 6 1) fun h7 => LET (sI h7 8 0 7 10) fun h8 => LET (sI h8 8 0 10 0) fun h9 => LET (sI h9 8 0 11 0) fun h10 => LET (sI h10 8 0 12 0) fun h11 => LET (sI h11 8 0 13 0) fun h12 => Q h12
def rm_X8_addHolding : Room := { frames := 1, cells := 0, slots := 0, locals := 40 }
def wp_X8_addHolding (p0 : Int32) (p1 : Int32) (h : Hp) (Q : Hp → Prop) : Prop := if p0 = 98 then (LET (sI h 8 0 12 ((gI h 8 0 12) ||| (1 <<< (p1 &&& 31)))) fun h2 => Q h2) else if p0 = 100 then (LET (sI h 8 0 1 ((gI h 8 0 1) &&& (1 <<< (p1 &&& 31)))) fun h4 => Q h4) else if p0 = 102 then (LET (sI h 8 0 0 ((gI h 8 0 0) &&& (1 <<< (p1 &&& 31)))) fun h6 => Q h6) else if p0 = 110 then (LET (sI h 8 0 6 (if (gI h 8 0 6) < p1 then p1 else gI h 8 0 6)) fun h8 => Q h8) else if p0 = 115 then (LET (sI h 8 0 10 ((gI h 8 0 10) ||| (1 <<< (p1 &&& 31)))) fun h10 => Q h10) else if p0 = 116 then (LET (sI h 8 0 4 ((gI h 8 0 4) ||| (1 <<< (p1 &&& 31)))) fun h12 => Q h12) else if p0 = 122 then (LET (sI h 8 0 2 (if (gI h 8 0 2) < (p1 + 1) then p1 + 1 else gI h 8 0 2)) fun h14 => Q h14) else (Q h)
def rm_X8_addFailing : Room := { frames := 1, cells := 0, slots := 0, locals := 40 }
def wp_X8_addFailing (p0 : Int32) (p1 : Int32) (h : Hp) (Q : Hp → Prop) : Prop := if p0 = 98 then (LET (sI h 8 0 13 ((gI h 8 0 13) ||| (1 <<< (p1 &&& 31)))) fun h2 => Q h2) else if p0 = 100 then (LET (sI h 8 0 1 ((gI h 8 0 1) &&& ((1 <<< (p1 &&& 31)) ^^^ (-1)))) fun h4 => Q h4) else if p0 = 102 then (LET (sI h 8 0 0 ((gI h 8 0 0) &&& ((1 <<< (p1 &&& 31)) ^^^ (-1)))) fun h6 => Q h6) else if p0 = 110 then (LET (sI h 8 0 7 (if (p1 - 1) < (gI h 8 0 7) then p1 - 1 else gI h 8 0 7)) fun h8 => Q h8) else if p0 = 115 then (LET (sI h 8 0 11 ((gI h 8 0 11) ||| (1 <<< (p1 &&& 31)))) fun h10 => Q h10) else if p0 = 116 then (LET (sI h 8 0 5 ((gI h 8 0 5) ||| (1 <<< (p1 &&& 31)))) fun h12 => Q h12) else if p0 = 122 then (LET (sI h 8 0 3 (if p1 < (gI h 8 0 3) then p1 else gI h 8 0 3)) fun h14 => Q h14) else (Q h)
def rm_X4_draw : Room := { frames := 2, cells := 0, slots := 0, locals := 62 }
def wp_X4_draw_b96 (x1 : Int32) (h : Hp) (P9 : Int32 → Hp → Prop) (Q : Hp → Prop) : Prop := LET (x1 + 1) fun v1 => P9 v1 h
def wp_X4_draw_b60 (x1 : Int32) (x2 : Int32) (h : Hp) (P9 : Int32 → Hp → Prop) (Q : Hp → Prop) : Prop := wp_X10_hasBit_ (gJ h 4 0 5) x2 h (fun r1 => if r1 = 0 then (wp_X4_draw_b96 x1 h P9 Q) else (vp_in x2 60 ∧ wp_X8_addFailing (gI h 12 0 x2.toNatClampNeg) (gI h 13 0 x2.toNatClampNeg) h (fun h4 => wp_X4_draw_b96 x1 h4 P9 Q)))
def wp_X4_draw_b9F    (Q : Hp → Prop) (P9 : Int32 → Hp → Prop) (x1 : Int32) (h : Hp) : Prop := if (gI h 4 0 3) ≤ x1 then (Q h) else (vp_in x1 60 ∧ LET (gI h 28 0 x1.toNatClampNeg) fun v3 => wp_X10_hasBit_ (gJ h 4 0 4) v3 h (fun r4 => if r4 = 0 then (wp_X4_draw_b60 x1 v3 h P9 Q) else (vp_in v3 60 ∧ wp_X8_addHolding (gI h 12 0 v3.toNatClampNeg) (gI h 13 0 v3.toNatClampNeg) h (fun h7 => wp_X4_draw_b60 x1 v3 h7 P9 Q))))
def wp_X4_draw_b9 (x1 : Int32) (h : Hp)  (Q : Hp → Prop) : Prop := LFP2 (wp_X4_draw_b9F    Q) x1 h
def wp_X4_draw  (h : Hp) (Q : Hp → Prop) : Prop := wp_X8_blank h (fun h1 => wp_X4_draw_b9 0 h1 Q)
def rm_X8_hasMail : Room := { frames := 2, cells := 0, slots := 0, locals := 44 }
def wp_X8_hasMail  (h : Hp) (Q : Int32 → Hp → Prop) : Prop := wp_J6_bitCount_0f7a4 (gI h 8 0 4) h (fun r1 => LET (sI h 8 0 8 (if (gI h 8 0 6) < r1 then r1 else gI h 8 0 6)) fun h2 => wp_J6_bitCount_0f7a4 (gI h2 8 0 5) h2 (fun r3 => LET (sI h2 8 0 9 (if (10 - r3) < (gI h2 8 0 7) then 10 - r3 else gI h2 8 0 7)) fun h4 => if (gI h4 8 0 0) = 0 then (Q 0 h4) else (if (gI h4 8 0 1) = 0 then (Q 0 h4) else (if (gI h4 8 0 3) < (gI h4 8 0 2) then (Q 0 h4) else (if ((gI h4 8 0 4) &&& (gI h4 8 0 5)) = 0 then (if (gI h4 8 0 9) < (gI h4 8 0 8) then (Q 0 h4) else (if ((gI h4 8 0 10) &&& (gI h4 8 0 11)) = 0 then (if ((gI h4 8 0 12) &&& (gI h4 8 0 13)) = 0 then (Q 1 h4) else (Q 0 h4)) else (Q 0 h4))) else (Q 0 h4))))))
def rm_X4_noteMay : Room := { frames := 1, cells := 0, slots := 0, locals := 24 }
def wp_X4_noteMay_b44 (x3 : Int32) (x4 : Int64) (x6 : Int64) (h : Hp)  (Q : Hp → Prop) : Prop := if x3 = 0 then (Q h) else (if (x6 &&& (gJ h 4 0 4)) = 0 then (LET (sJ h 4 0 7 ((gJ h 4 0 7) ||| x4)) fun h3 => Q h3) else (Q h))
def wp_X4_noteMay (p0 : Int32) (p1 : Int32) (p2 : Int32) (h : Hp) (Q : Hp → Prop) : Prop := LET ((1 : Int64) <<< ((p0 : Int32).toInt64 &&& 63)) fun v1 => LET ((gJ h 9 0 3) &&& v1) fun v2 => if p1 = 0 then (wp_X4_noteMay_b44 p2 v1 v2 h Q) else (if (v2 &&& (gJ h 4 0 5)) = 0 then (LET (sJ h 4 0 6 ((gJ h 4 0 6) ||| v1)) fun h5 => wp_X4_noteMay_b44 p2 v1 v2 h5 Q) else (wp_X4_noteMay_b44 p2 v1 v2 h Q))
def rm_X4_noteSure : Room := { frames := 1, cells := 0, slots := 0, locals := 24 }
def wp_X4_noteSure_b20 (x3 : Int32) (x4 : Int64) (h : Hp)  (Q : Hp → Prop) : Prop := if x3 = 0 then (Q h) else (LET (sJ h 4 0 9 ((gJ h 4 0 9) ||| x4)) fun h2 => Q h2)
def wp_X4_noteSure (p0 : Int32) (p1 : Int32) (p2 : Int32) (h : Hp) (Q : Hp → Prop) : Prop := LET ((1 : Int64) <<< ((p0 : Int32).toInt64 &&& 63)) fun v1 => if p1 = 0 then (wp_X4_noteSure_b20 p2 v1 h Q) else (LET (sJ h 4 0 8 ((gJ h 4 0 8) ||| v1)) fun h3 => wp_X4_noteSure_b20 p2 v1 h3 Q)
def rm_X4_hasEither : Room := { frames := 2, cells := 0, slots := 0, locals := 46 }
def wp_X4_hasEither (p0 : Int64) (p1 : Int32) (p2 : Int32) (h : Hp) (Q : Int32 → Prop) : Prop := wp_X10_hasBit_ p0 p1 h (fun r1 => if r1 = 0 then (wp_X10_hasBit_ p0 p2 h (fun r3 => if r3 = 0 then (Q 0) else (Q 1))) else (Q 1))
def rm_X8_mayHold : Room := { frames := 2, cells := 0, slots := 0, locals := 45 }
def wp_X8_mayHold (p0 : Int32) (p1 : Int32) (h : Hp) (Q : Int32 → Prop) : Prop := if p0 = 98 then (wp_X10_hasBit (gI h 8 0 13) p1 h (fun r2 => if r2 = 0 then (Q 1) else (Q 0))) else if p0 = 100 then (wp_X10_hasBit (gI h 8 0 1) p1 h (fun r5 => Q r5)) else if p0 = 102 then (wp_X10_hasBit (gI h 8 0 0) p1 h (fun r7 => Q r7)) else if p0 = 110 then (if (gI h 8 0 9) < p1 then (Q 0) else (Q 1)) else if p0 = 115 then (wp_X10_hasBit (gI h 8 0 11) p1 h (fun r11 => if r11 = 0 then (Q 1) else (Q 0))) else if p0 = 116 then (wp_X10_hasBit (gI h 8 0 4) p1 h (fun r14 => if r14 = 0 then (wp_X10_hasBit (gI h 8 0 5) p1 h (fun r16 => if r16 = 0 then (wp_J6_bitCount_0f7a4 (gI h 8 0 4) h (fun r18 => if (gI h 8 0 9) ≤ r18 then (Q 0) else (Q 1))) else (Q 0))) else (Q 1))) else if p0 = 122 then (if (gI h 8 0 3) ≤ p1 then (Q 0) else (Q 1)) else (Q 1)
def rm_X8_mayFail : Room := { frames := 2, cells := 0, slots := 0, locals := 45 }
def wp_X8_mayFail (p0 : Int32) (p1 : Int32) (h : Hp) (Q : Int32 → Prop) : Prop := if p0 = 98 then (wp_X10_hasBit (gI h 8 0 12) p1 h (fun r2 => if r2 = 0 then (Q 1) else (Q 0))) else if p0 = 100 then (if ((gI h 8 0 1) &&& ((1 <<< (p1 &&& 31)) ^^^ (-1))) = 0 then (Q 0) else (Q 1)) else if p0 = 102 then (if ((gI h 8 0 0) &&& ((1 <<< (p1 &&& 31)) ^^^ (-1))) = 0 then (Q 0) else (Q 1)) else if p0 = 110 then (if p1 ≤ (gI h 8 0 8) then (Q 0) else (Q 1)) else if p0 = 115 then (wp_X10_hasBit (gI h 8 0 10) p1 h (fun r11 => if r11 = 0 then (Q 1) else (Q 0))) else if p0 = 116 then (wp_X10_hasBit (gI h 8 0 5) p1 h (fun r14 => if r14 = 0 then (wp_X10_hasBit (gI h 8 0 4) p1 h (fun r16 => if r16 = 0 then (wp_J6_bitCount_0f7a4 (gI h 8 0 5) h (fun r18 => if (10 - r18) ≤ (gI h 8 0 8) then (Q 0) else (Q 1))) else (Q 0))) else (Q 1))) else if p0 = 122 then (if p1 < (gI h 8 0 2) then (Q 0) else (Q 1)) else (Q 0)
def rm_X4_weigh : Room := { frames := 3, cells := 0, slots := 0, locals := 69 }
def wp_X4_weigh_b403 (x1 : Int32) (h : Hp) (P22 : Int32 → Hp → Prop) (Q : Hp → Prop) : Prop := LET (x1 + 1) fun v1 => P22 v1 h
def wp_X4_weigh_b400 (x1 : Int32) (s1 : Int32) (s2 : Int32) (s3 : Int32) (h : Hp) (P22 : Int32 → Hp → Prop) (Q : Hp → Prop) : Prop := wp_X4_noteSure s1 s2 s3 h (fun h1 => wp_X4_weigh_b403 x1 h1 P22 Q)
def wp_X4_weigh_b390 (x1 : Int32) (x6 : Int32) (s1 : Int32) (s2 : Int32) (h : Hp) (P22 : Int32 → Hp → Prop) (Q : Hp → Prop) : Prop := if x6 = 0 then (wp_X4_weigh_b400 x1 s1 s2 1 h P22 Q) else (wp_X4_weigh_b400 x1 s1 s2 0 h P22 Q)
def wp_X4_weigh_b316 (x1 : Int32) (s1 : Int32) (s2 : Int32) (s3 : Int32) (h : Hp) (P22 : Int32 → Hp → Prop) (Q : Hp → Prop) : Prop := wp_X4_noteSure s1 s2 s3 h (fun h1 => wp_X4_weigh_b403 x1 h1 P22 Q)
def wp_X4_weigh_b315 (x1 : Int32) (s1 : Int32) (s2 : Int32) (h : Hp) (P22 : Int32 → Hp → Prop) (Q : Hp → Prop) : Prop := wp_X4_weigh_b316 x1 s1 s2 0 h P22 Q
def wp_X4_weigh_b271 (x1 : Int32) (x2 : Int32) (x4 : Int32) (x5 : Int32) (s1 : Int32) (s2 : Int32) (s3 : Int32) (h : Hp) (P22 : Int32 → Hp → Prop) (Q : Hp → Prop) : Prop := wp_X4_noteMay s1 s2 s3 h (fun h1 => wp_X4_hasEither (gJ h1 4 0 8) x4 x5 h1 (fun r2 => wp_X10_hasBit_ (gJ h1 4 0 9) x4 h1 (fun r3 => if r3 = 0 then (wp_X4_weigh_b315 x1 x2 r2 h1 P22 Q) else (wp_X10_hasBit_ (gJ h1 4 0 9) x5 h1 (fun r5 => if r5 = 0 then (wp_X4_weigh_b315 x1 x2 r2 h1 P22 Q) else (wp_X4_weigh_b316 x1 x2 r2 1 h1 P22 Q))))))
def wp_X4_weigh_b270 (x1 : Int32) (x2 : Int32) (x4 : Int32) (x5 : Int32) (s1 : Int32) (s2 : Int32) (h : Hp) (P22 : Int32 → Hp → Prop) (Q : Hp → Prop) : Prop := wp_X4_weigh_b271 x1 x2 x4 x5 s1 s2 0 h P22 Q
def wp_X4_weigh_b206 (x1 : Int32) (x4 : Int32) (x5 : Int32) (s1 : Int32) (s2 : Int32) (h : Hp) (P22 : Int32 → Hp → Prop) (Q : Hp → Prop) : Prop := wp_X4_hasEither (gJ h 4 0 9) x4 x5 h (fun r1 => wp_X4_noteSure s1 s2 r1 h (fun h2 => wp_X4_weigh_b403 x1 h2 P22 Q))
def wp_X4_weigh_b205 (x1 : Int32) (x4 : Int32) (x5 : Int32) (s1 : Int32) (h : Hp) (P22 : Int32 → Hp → Prop) (Q : Hp → Prop) : Prop := wp_X4_weigh_b206 x1 x4 x5 s1 0 h P22 Q
def wp_X4_weigh_b161 (x1 : Int32) (x2 : Int32) (x4 : Int32) (x5 : Int32) (s1 : Int32) (s2 : Int32) (h : Hp) (P22 : Int32 → Hp → Prop) (Q : Hp → Prop) : Prop := wp_X4_hasEither (gJ h 4 0 7) x4 x5 h (fun r1 => wp_X4_noteMay s1 s2 r1 h (fun h2 => wp_X10_hasBit_ (gJ h2 4 0 8) x4 h2 (fun r3 => if r3 = 0 then (wp_X4_weigh_b205 x1 x4 x5 x2 h2 P22 Q) else (wp_X10_hasBit_ (gJ h2 4 0 8) x5 h2 (fun r5 => if r5 = 0 then (wp_X4_weigh_b205 x1 x4 x5 x2 h2 P22 Q) else (wp_X4_weigh_b206 x1 x4 x5 x2 1 h2 P22 Q))))))
def wp_X4_weigh_b160 (x1 : Int32) (x2 : Int32) (x4 : Int32) (x5 : Int32) (s1 : Int32) (h : Hp) (P22 : Int32 → Hp → Prop) (Q : Hp → Prop) : Prop := wp_X4_weigh_b161 x1 x2 x4 x5 s1 0 h P22 Q
def wp_X4_weigh_b22F    (Q : Hp → Prop) (P22 : Int32 → Hp → Prop) (x1 : Int32) (h : Hp) : Prop := if (gI h 4 0 3) ≤ x1 then (Q h) else (vp_in x1 60 ∧ LET (gI h 28 0 x1.toNatClampNeg) fun v3 => vp_in v3 60 ∧ LET (gI h 12 0 v3.toNatClampNeg) fun v5 => LET (gI h 13 0 v3.toNatClampNeg) fun v6 => LET (gI h 14 0 v3.toNatClampNeg) fun v7 => if v5 = 33 then (wp_X10_hasBit_ (gJ h 4 0 7) v6 h (fun r9 => wp_X10_hasBit_ (gJ h 4 0 6) v6 h (fun r10 => wp_X4_noteMay v3 r9 r10 h (fun h11 => wp_X10_hasBit_ (gJ h11 4 0 9) v6 h11 (fun r12 => wp_X10_hasBit_ (gJ h11 4 0 8) v6 h11 (fun r13 => wp_X4_noteSure v3 r12 r13 h11 (fun h14 => wp_X4_weigh_b403 x1 h14 P22 Q))))))) else (if v5 = 38 then (wp_X10_hasBit_ (gJ h 4 0 6) v6 h (fun r16 => if r16 = 0 then (wp_X4_weigh_b160 x1 v3 v6 v7 v3 h P22 Q) else (wp_X10_hasBit_ (gJ h 4 0 6) v7 h (fun r18 => if r18 = 0 then (wp_X4_weigh_b160 x1 v3 v6 v7 v3 h P22 Q) else (wp_X4_weigh_b161 x1 v3 v6 v7 v3 1 h P22 Q))))) else (if v5 = 124 then (wp_X4_hasEither (gJ h 4 0 6) v6 v7 h (fun r21 => wp_X10_hasBit_ (gJ h 4 0 7) v6 h (fun r22 => if r22 = 0 then (wp_X4_weigh_b270 x1 v3 v6 v7 v3 r21 h P22 Q) else (wp_X10_hasBit_ (gJ h 4 0 7) v7 h (fun r24 => if r24 = 0 then (wp_X4_weigh_b270 x1 v3 v6 v7 v3 r21 h P22 Q) else (wp_X4_weigh_b271 x1 v3 v6 v7 v3 r21 1 h P22 Q)))))) else (if v5 = 107 then (wp_X4_noteMay v3 1 1 h (fun h27 => wp_X4_noteSure v3 1 1 h27 (fun h28 => wp_X4_weigh_b403 x1 h28 P22 Q))) else (wp_X8_mayHold v5 v6 h (fun r29 => wp_X8_mayFail v5 v6 h (fun r30 => wp_X4_noteMay v3 r29 r30 h (fun h31 => if r30 = 0 then (wp_X4_weigh_b390 x1 r29 v3 1 h31 P22 Q) else (wp_X4_weigh_b390 x1 r29 v3 0 h31 P22 Q)))))))))
def wp_X4_weigh_b22 (x1 : Int32) (h : Hp)  (Q : Hp → Prop) : Prop := LFP2 (wp_X4_weigh_b22F    Q) x1 h
def wp_X4_weigh  (h : Hp) (Q : Hp → Prop) : Prop := LET (sJ h 4 0 6 0) fun h1 => LET (sJ h1 4 0 7 0) fun h2 => LET (sJ h2 4 0 8 0) fun h3 => LET (sJ h3 4 0 9 0) fun h4 => wp_X4_weigh_b22 0 h4 Q
def rm_X4_handDownHold : Room := { frames := 1, cells := 0, slots := 0, locals := 24 }
def wp_X4_handDownHold (p0 : Int32) (p1 : Int64) (p2 : Int64) (h : Hp) (Q : Hp → Prop) : Prop := if p0 = 33 then (LET (sJ h 4 0 5 ((gJ h 4 0 5) ||| p1)) fun h2 => Q h2) else (if p0 = 38 then (LET (sJ h 4 0 4 ((gJ h 4 0 4) ||| (p1 ||| p2))) fun h4 => Q h4) else (if ((gJ h 4 0 6) &&& p1) = 0 then (LET (sJ h 4 0 4 ((gJ h 4 0 4) ||| p2)) fun h6 => Q h6) else (if ((gJ h 4 0 6) &&& p2) = 0 then (LET (sJ h 4 0 4 ((gJ h 4 0 4) ||| p1)) fun h8 => Q h8) else (Q h))))
def rm_X4_handDownFail : Room := { frames := 1, cells := 0, slots := 0, locals := 24 }
def wp_X4_handDownFail (p0 : Int32) (p1 : Int64) (p2 : Int64) (h : Hp) (Q : Hp → Prop) : Prop := if p0 = 33 then (LET (sJ h 4 0 4 ((gJ h 4 0 4) ||| p1)) fun h2 => Q h2) else (if p0 = 124 then (LET (sJ h 4 0 5 ((gJ h 4 0 5) ||| (p1 ||| p2))) fun h4 => Q h4) else (if ((gJ h 4 0 7) &&& p1) = 0 then (LET (sJ h 4 0 5 ((gJ h 4 0 5) ||| p2)) fun h6 => Q h6) else (if ((gJ h 4 0 7) &&& p2) = 0 then (LET (sJ h 4 0 5 ((gJ h 4 0 5) ||| p1)) fun h8 => Q h8) else (Q h))))
def rm_X4_handDown : Room := { frames := 2, cells := 0, slots := 0, locals := 49 }
def wp_X4_handDown_b138 (x1 : Int64) (x3 : Int64) (x5 : Int32) (h : Hp) (P18 : Int32 → Hp → Prop) (Q : Int32 → Hp → Prop) : Prop := LET (x5 + (-1)) fun v1 => P18 v1 h
def wp_X4_handDown_b116 (x1 : Int64) (x3 : Int64) (x5 : Int32) (x6 : Int32) (x7 : Int32) (x8 : Int64) (x10 : Int64) (h : Hp) (P18 : Int32 → Hp → Prop) (Q : Int32 → Hp → Prop) : Prop := wp_X10_hasBit_ (gJ h 4 0 5) x6 h (fun r1 => if r1 = 0 then (wp_X4_handDown_b138 x1 x3 x5 h P18 Q) else (wp_X4_handDownFail x7 x8 x10 h (fun h3 => wp_X4_handDown_b138 x1 x3 x5 h3 P18 Q)))
def wp_X4_handDown_b92 (x1 : Int64) (x3 : Int64) (x5 : Int32) (x6 : Int32) (x7 : Int32) (x8 : Int64) (s0 : Int64) (h : Hp) (P18 : Int32 → Hp → Prop) (Q : Int32 → Hp → Prop) : Prop := wp_X10_hasBit_ (gJ h 4 0 4) x6 h (fun r1 => if r1 = 0 then (wp_X4_handDown_b116 x1 x3 x5 x6 x7 x8 s0 h P18 Q) else (wp_X4_handDownHold x7 x8 s0 h (fun h3 => wp_X4_handDown_b116 x1 x3 x5 x6 x7 x8 s0 h3 P18 Q)))
def wp_X4_handDown_b18F (x1 : Int64) (x3 : Int64)   (Q : Int32 → Hp → Prop) (P18 : Int32 → Hp → Prop) (x5 : Int32) (h : Hp) : Prop := if x5 < 0 then (if (gJ h 4 0 4) = x1 then (if (gJ h 4 0 5) = x3 then (Q 0 h) else (Q 1 h)) else (Q 1 h)) else (vp_in x5 60 ∧ LET (gI h 28 0 x5.toNatClampNeg) fun v5 => vp_in v5 60 ∧ LET (gI h 12 0 v5.toNatClampNeg) fun v7 => wp_X9_partsOf v7 h (fun r8 => if r8 ≤ 0 then (wp_X4_handDown_b138 x1 x3 x5 h P18 Q) else (LET ((1 : Int64) <<< ((gI h 13 0 v5.toNatClampNeg : Int32).toInt64 &&& 63)) fun v10 => wp_X9_partsOf v7 h (fun r11 => if r11 ≤ 1 then (wp_X4_handDown_b92 x1 x3 x5 v5 v7 v10 v10 h P18 Q) else (wp_X4_handDown_b92 x1 x3 x5 v5 v7 v10 ((1 : Int64) <<< ((gI h 14 0 v5.toNatClampNeg : Int32).toInt64 &&& 63)) h P18 Q)))))
def wp_X4_handDown_b18 (x1 : Int64) (x3 : Int64) (x5 : Int32) (h : Hp)  (Q : Int32 → Hp → Prop) : Prop := LFP2 (wp_X4_handDown_b18F x1 x3   Q) x5 h
def wp_X4_handDown  (h : Hp) (Q : Int32 → Hp → Prop) : Prop := LET (gJ h 4 0 4) fun v1 => LET (gJ h 4 0 5) fun v2 => LET ((gI h 4 0 3) - 1) fun v3 => wp_X4_handDown_b18 v1 v2 v3 h Q
def rm_X4_follow : Room := { frames := 4, cells := 0, slots := 0, locals := 96 }
def wp_X4_follow_b16F    (Q : Int32 → Hp → Prop) (P16 : Int32 → Int32 → Hp → Prop) (x5 : Int32) (x6 : Int32) (h : Hp) : Prop := if x5 = 0 then (Q 1 h) else (if 120 < x6 then (Q 1 h) else (wp_X4_draw h (fun h3 => wp_X8_hasMail h3 (fun r4 h5 => if r4 = 0 then (Q 0 h5) else (wp_X4_weigh h5 (fun h7 => if ((gJ h7 4 0 4) &&& ((gJ h7 4 0 6) ^^^ (-1))) = 0 then (if ((gJ h7 4 0 5) &&& ((gJ h7 4 0 7) ^^^ (-1))) = 0 then (wp_X4_handDown h7 (fun r10 h11 => LET (x6 + 1) fun v12 => P16 r10 v12 h11)) else (Q 0 h7)) else (Q 0 h7)))))))
def wp_X4_follow_b16 (x5 : Int32) (x6 : Int32) (h : Hp)  (Q : Int32 → Hp → Prop) : Prop := LFP3 (wp_X4_follow_b16F    Q) x5 x6 h
def wp_X4_follow (p0 : Int64) (p1 : Int64) (h : Hp) (Q : Int32 → Hp → Prop) : Prop := LET (sJ h 4 0 4 p0) fun h1 => LET (sJ h1 4 0 5 p1) fun h2 => wp_X4_follow_b16 1 0 h2 Q
def rm_X4_isOpen : Room := { frames := 3, cells := 0, slots := 0, locals := 69 }
def wp_X4_isOpen (p0 : Int64) (p1 : Int64) (p2 : Int32) (h : Hp) (Q : Int32 → Prop) : Prop := wp_X10_hasBit_ (p0 &&& (p1 ^^^ (-1))) p2 h (fun r1 => if r1 = 0 then (Q 0) else (vp_in p2 60 ∧ wp_X4_hasEither p0 (gI h 13 0 p2.toNatClampNeg) (gI h 14 0 p2.toNatClampNeg) h (fun r4 => if r4 = 0 then (Q 1) else (Q 0))))
def rm_X4_lastOpen : Room := { frames := 4, cells := 0, slots := 0, locals := 94 }
def wp_X4_lastOpen_b74 (x1 : Int32) (h : Hp) (P7 : Int32 → Prop) (Q : Int32 → Prop) : Prop := LET (x1 + (-1)) fun v1 => P7 v1
def wp_X4_lastOpen_b50 (x1 : Int32) (x2 : Int32) (x3 : Int32) (h : Hp) (P7 : Int32 → Prop) (Q : Int32 → Prop) : Prop := if x3 = 38 then (wp_X4_isOpen (gJ h 4 0 5) (gJ h 4 0 9) x2 h (fun r2 => if r2 = 0 then (wp_X4_lastOpen_b74 x1 h P7 Q) else (Q x2))) else (wp_X4_lastOpen_b74 x1 h P7 Q)
def wp_X4_lastOpen_b7F  (h : Hp)  (Q : Int32 → Prop) (P7 : Int32 → Prop) (x1 : Int32)  : Prop := if x1 < 0 then (Q (-1)) else (vp_in x1 60 ∧ LET (gI h 28 0 x1.toNatClampNeg) fun v3 => vp_in v3 60 ∧ LET (gI h 12 0 v3.toNatClampNeg) fun v5 => if v5 = 124 then (wp_X4_isOpen (gJ h 4 0 4) (gJ h 4 0 8) v3 h (fun r7 => if r7 = 0 then (wp_X4_lastOpen_b50 x1 v3 v5 h P7 Q) else (Q v3))) else (wp_X4_lastOpen_b50 x1 v3 v5 h P7 Q))
def wp_X4_lastOpen_b7 (x1 : Int32) (h : Hp)  (Q : Int32 → Prop) : Prop := LFP1 (wp_X4_lastOpen_b7F  h  Q) x1 
def wp_X4_lastOpen  (h : Hp) (Q : Int32 → Prop) : Prop := LET ((gI h 4 0 3) - 1) fun v1 => wp_X4_lastOpen_b7 v1 h Q
set_option maxRecDepth 20000 in
theorem m_X3_takeIn {l : Launch} (hl : l.stackTraces = false) (G : Gq) (p0 : Int32) (p1 : Int32) (p2 : Int32) (p3 : Int32) (p4 : Int32)  (h : Hp) (Q : Int32 → Hp → Prop) (hw : wp_X3_takeIn p0 p1 p2 p3 p4 h Q) : MI l G yX3_takeIn cX3_takeIn 7 (some .int) rm_X3_takeIn NT NT h (fun r => [r 3 0, .int p0, .int p1, .int p2, .int p3, .int p4]) Q := by
  refine MI_of (L0 := (fun X => [some (rf X 3 0), some (.int p0), some (.int p1), some (.int p2), some (.int p3), some (.int p4), none])) hl (by decide +kernel) rfl (fun _ => Nat.le_of_ble_eq_true rfl) (fun _ => rfl) fun X hXl hXG E hE => ?_
  subst hXl; subst hXG
  unfold wp_X3_takeIn at hw
  refine r_aload_n E 3 0 rfl dX3_takeIn_0 ?_
  refine r_getS E fd_X3_13 (t := 0) (j1 := 15) rfl rfl rfl rfl (Nat.le_of_ble_eq_true rfl) (adr_lt (Nat.le_of_ble_eq_true rfl)) dX3_takeIn_1 ?_
  refine r_aload_n E 3 0 rfl dX3_takeIn_4 ?_
  refine r_getI E fd_X3_34 rfl (Nat.le_of_ble_eq_true rfl) (adr_lt (Nat.le_of_ble_eq_true rfl)) dX3_takeIn_5 ?_
  obtain ⟨i1, hw⟩ := hw
  refine r_aaldS E (j1 := 2) (ta := 4) rfl rfl (Nat.le_of_ble_eq_true rfl) rfl rfl rfl (Nat.le_of_ble_eq_true rfl) (adr_lt (Nat.le_of_ble_eq_true rfl)) i1 rfl rfl dX3_takeIn_8 ?_
  refine r_astore E [some (rf X 3 0), some (.int p0), some (.int p1), some (.int p2), some (.int p3), some (.int p4), some (rf X 2 ((gI h 3 0 6).toNatClampNeg))] (Nat.le_of_ble_eq_true rfl) rfl dX3_takeIn_9 ?_
  refine r_aload E 2 ((gI h 3 0 6).toNatClampNeg) rfl dX3_takeIn_11 ?_
  refine r_iload_n E p0 rfl dX3_takeIn_13 ?_
  refine r_putI E fd_X3_38 rfl PI_int (Nat.lt_of_lt_of_le (vp_in_lt i1) (Nat.le_of_ble_eq_true rfl)) (adr_lt (Nat.lt_of_lt_of_le (vp_in_lt i1) (Nat.le_of_ble_eq_true rfl))) rfl dX3_takeIn_14 ?_
  refine GG_toph fun h2 hh2 => ?_
  have hw := hw h2 hh2
  refine r_aload E 2 ((gI h 3 0 6).toNatClampNeg) rfl dX3_takeIn_17 ?_
  refine r_iload_n E p1 rfl dX3_takeIn_19 ?_
  refine r_putI E fd_X3_41 rfl PI_int (Nat.lt_of_lt_of_le (vp_in_lt i1) (Nat.le_of_ble_eq_true rfl)) (adr_lt (Nat.lt_of_lt_of_le (vp_in_lt i1) (Nat.le_of_ble_eq_true rfl))) rfl dX3_takeIn_20 ?_
  refine GG_toph fun h3 hh3 => ?_
  have hw := hw h3 hh3
  refine r_aload E 2 ((gI h 3 0 6).toNatClampNeg) rfl dX3_takeIn_23 ?_
  refine r_iload_n E p2 rfl dX3_takeIn_25 ?_
  refine r_putI E fd_X3_44 rfl PI_int (Nat.lt_of_lt_of_le (vp_in_lt i1) (Nat.le_of_ble_eq_true rfl)) (adr_lt (Nat.lt_of_lt_of_le (vp_in_lt i1) (Nat.le_of_ble_eq_true rfl))) rfl dX3_takeIn_26 ?_
  refine GG_toph fun h4 hh4 => ?_
  have hw := hw h4 hh4
  refine r_aload E 2 ((gI h 3 0 6).toNatClampNeg) rfl dX3_takeIn_29 ?_
  refine r_iload E p3 rfl dX3_takeIn_31 ?_
  refine r_putI E fd_X3_47 rfl PI_int (Nat.lt_of_lt_of_le (vp_in_lt i1) (Nat.le_of_ble_eq_true rfl)) (adr_lt (Nat.lt_of_lt_of_le (vp_in_lt i1) (Nat.le_of_ble_eq_true rfl))) rfl dX3_takeIn_33 ?_
  refine GG_toph fun h5 hh5 => ?_
  have hw := hw h5 hh5
  refine r_aload E 2 ((gI h 3 0 6).toNatClampNeg) rfl dX3_takeIn_36 ?_
  refine r_iload E p4 rfl dX3_takeIn_38 ?_
  refine r_putI E fd_X3_50 rfl PI_int (Nat.lt_of_lt_of_le (vp_in_lt i1) (Nat.le_of_ble_eq_true rfl)) (adr_lt (Nat.lt_of_lt_of_le (vp_in_lt i1) (Nat.le_of_ble_eq_true rfl))) rfl dX3_takeIn_40 ?_
  refine GG_toph fun h6 hh6 => ?_
  have hw := hw h6 hh6
  refine r_aload E 2 ((gI h 3 0 6).toNatClampNeg) rfl dX3_takeIn_43 ?_
  refine r_aload_n E 3 0 rfl dX3_takeIn_45 ?_
  refine r_getI E fd_X3_53 rfl (Nat.le_of_ble_eq_true rfl) (adr_lt (Nat.le_of_ble_eq_true rfl)) dX3_takeIn_46 ?_
  refine r_bipush E 7 rfl dX3_takeIn_49 ?_
  refine r_irem E (by decide) dX3_takeIn_51 ?_
  refine r_putI E fd_X3_56 rfl PI_int (Nat.lt_of_lt_of_le (vp_in_lt i1) (Nat.le_of_ble_eq_true rfl)) (adr_lt (Nat.lt_of_lt_of_le (vp_in_lt i1) (Nat.le_of_ble_eq_true rfl))) rfl dX3_takeIn_52 ?_
  refine GG_toph fun h7 hh7 => ?_
  have hw := hw h7 hh7
  refine r_aload_n E 3 0 rfl dX3_takeIn_55 ?_
  refine r_dup E rfl dX3_takeIn_56 ?_
  refine r_getI E fd_X3_34 rfl (Nat.le_of_ble_eq_true rfl) (adr_lt (Nat.le_of_ble_eq_true rfl)) dX3_takeIn_57 ?_
  refine r_iconst E 1 rfl dX3_takeIn_60 ?_
  refine r_iadd E dX3_takeIn_61 ?_
  refine r_putI E fd_X3_34 rfl PI_int (Nat.le_of_ble_eq_true rfl) (adr_lt (Nat.le_of_ble_eq_true rfl)) rfl dX3_takeIn_62 ?_
  refine GG_toph fun h8 hh8 => ?_
  have hw := hw h8 hh8
  refine r_aload_n E 3 0 rfl dX3_takeIn_65 ?_
  refine r_getI E fd_X3_34 rfl (Nat.le_of_ble_eq_true rfl) (adr_lt (Nat.le_of_ble_eq_true rfl)) dX3_takeIn_66 ?_
  refine r_iconst E 1 rfl dX3_takeIn_69 ?_
  refine r_isub E dX3_takeIn_70 ?_
  exact hE _ _ _ _ _ _ (Nat.le_of_ble_eq_true rfl) (Nat.le_of_ble_eq_true rfl) dX3_takeIn_71 rfl hw
set_option maxRecDepth 20000 in
theorem t_X3_sizesIn_b37 {X : Ctx} (h : Hp) (x1 : Int32) (x2 : Int32) (x3 : Int32)  (E : EE X cX3_sizesIn RX3 4 3 65 0 0) {Q : Int32 → Prop} (hE : ENDi X cX3_sizesIn .int (fun r u => h = u ∧ Q r) NT 0 0) (P4 : Int32 → Int32 → Prop) (hP4 : ∀ (y2 : Int32) (y3 : Int32), P4 y2 y3 → GG X 0 0 NT h [some (rf X 3 0), some (.int x1), some (.int y2), some (.int y3)] 4 []) (hw : wp_X3_sizesIn_b37 x1 x2 x3 h P4 Q) : GG X 0 0 NT h [some (rf X 3 0), some (.int x1), some (.int x2), some (.int x3)] 37 [] := by
  unfold wp_X3_sizesIn_b37 at hw
  obtain ⟨v1, hv1⟩ : ∃ y : Int32, y = x3 + 1 := ⟨_, rfl⟩
  have hw := hw v1 hv1
  refine r_iinc E x3 v1 [some (rf X 3 0), some (.int x1), some (.int x2), some (.int v1)] rfl (by rw [hv1]; rfl) (Nat.le_of_ble_eq_true rfl) rfl dX3_sizesIn_37 ?_
  refine r_goto E 4 (by decide) dX3_sizesIn_40 ?_
  exact GG_weak [true, true, true, true] rfl (hP4 _ _ hw)
set_option maxRecDepth 20000 in
theorem t_X3_sizesIn_b4F {X : Ctx} (h : Hp) (x1 : Int32) (x2 : Int32) (x3 : Int32)  (E : EE X cX3_sizesIn RX3 4 3 65 0 0) {Q : Int32 → Prop} (hE : ENDi X cX3_sizesIn .int (fun r u => h = u ∧ Q r) NT 0 0)  (P4 : Int32 → Int32 → Prop) (hP4 : ∀ (y2 : Int32) (y3 : Int32), P4 y2 y3 → GG X 0 0 NT h [some (rf X 3 0), some (.int x1), some (.int y2), some (.int y3)] 4 []) (hw : wp_X3_sizesIn_b4F x1 h  Q P4 x2 x3 ) : GG X 0 0 NT h [some (rf X 3 0), some (.int x1), some (.int x2), some (.int x3)] 4 [] := by
  unfold wp_X3_sizesIn_b4F at hw
  refine r_iload_n E x3 rfl dX3_sizesIn_4 ?_
  refine r_aload_n E 3 0 rfl dX3_sizesIn_5 ?_
  refine r_getI E fd_X3_34 rfl (Nat.le_of_ble_eq_true rfl) (adr_lt (Nat.le_of_ble_eq_true rfl)) dX3_sizesIn_6 ?_
  refine r_icmp_ge E 43 (by decide) dX3_sizesIn_9 (fun c1 => ?_) (fun c1 => ?_)
  · have hw := ite_t hw c1
    refine r_iload_n E x2 rfl dX3_sizesIn_43 ?_
    exact hE _ _ _ _ _ _ (Nat.le_of_ble_eq_true rfl) (Nat.le_of_ble_eq_true rfl) dX3_sizesIn_44 rfl ⟨rfl, hw⟩
  · have hw := ite_f hw c1
    refine r_aload_n E 3 0 rfl dX3_sizesIn_12 ?_
    refine r_getS E fd_X3_13 (t := 0) (j1 := 15) rfl rfl rfl rfl (Nat.le_of_ble_eq_true rfl) (adr_lt (Nat.le_of_ble_eq_true rfl)) dX3_sizesIn_13 ?_
    refine r_iload_n E x3 rfl dX3_sizesIn_16 ?_
    obtain ⟨i2, hw⟩ := hw
    refine r_aaldS E (j1 := 2) (ta := 4) rfl rfl (Nat.le_of_ble_eq_true rfl) rfl rfl rfl (Nat.le_of_ble_eq_true rfl) (adr_lt (Nat.le_of_ble_eq_true rfl)) i2 rfl rfl dX3_sizesIn_17 ?_
    refine r_iload_n E x1 rfl dX3_sizesIn_18 ?_
    refine r_callVI E (m_X2_liesIn (EE_st E) (GX X) x3.toNatClampNeg x1 (Nat.lt_of_lt_of_le (vp_in_lt i2) (Nat.le_of_ble_eq_true rfl)) h _ hw) lk_X3_59 (RM_mk (Nat.le_of_ble_eq_true rfl) (Nat.le_of_ble_eq_true rfl)) rfl rfl rfl rfl (Nat.lt_of_lt_of_le (vp_in_lt i2) (Nat.le_of_ble_eq_true rfl)) (adr_lt (Nat.lt_of_lt_of_le (vp_in_lt i2) (Nat.le_of_ble_eq_true rfl))) (Nat.le_of_ble_eq_true rfl) rfl rfl (Nat.le_of_ble_eq_true rfl) (Nat.le_of_ble_eq_true rfl) dX3_sizesIn_19 (fun r3 u9 hw => ?_)
    obtain ⟨rfl, zr3, hw⟩ := hw
    refine r_if_eq E 37 (by decide) dX3_sizesIn_22 (fun c4 => ?_) (fun c4 => ?_)
    · have hw := ite_t hw c4
      exact GG_weak [true, true, true, true] rfl (t_X3_sizesIn_b37 h x1 x2 x3 E hE P4 hP4  hw)
    · have hw := ite_f hw c4
      refine r_iload_n E x2 rfl dX3_sizesIn_25 ?_
      refine r_aload_n E 3 0 rfl dX3_sizesIn_26 ?_
      refine r_getS E fd_X3_13 (t := 0) (j1 := 15) rfl rfl rfl rfl (Nat.le_of_ble_eq_true rfl) (adr_lt (Nat.le_of_ble_eq_true rfl)) dX3_sizesIn_27 ?_
      refine r_iload_n E x3 rfl dX3_sizesIn_30 ?_
      refine r_aaldS E (j1 := 2) (ta := 4) rfl rfl (Nat.le_of_ble_eq_true rfl) rfl rfl rfl (Nat.le_of_ble_eq_true rfl) (adr_lt (Nat.le_of_ble_eq_true rfl)) i2 rfl rfl dX3_sizesIn_31 ?_
      refine r_getI E fd_X3_50 rfl (Nat.lt_of_lt_of_le (vp_in_lt i2) (Nat.le_of_ble_eq_true rfl)) (adr_lt (Nat.lt_of_lt_of_le (vp_in_lt i2) (Nat.le_of_ble_eq_true rfl))) dX3_sizesIn_32 ?_
      refine r_iadd E dX3_sizesIn_35 ?_
      refine GG_topI fun v5 hv5 => ?_
      have hw := hw v5 hv5
      refine r_istore_n E [some (rf X 3 0), some (.int x1), some (.int v5), some (.int x3)] rfl (Nat.le_of_ble_eq_true rfl) rfl dX3_sizesIn_36 ?_
      exact GG_weak [true, true, true, true] rfl (t_X3_sizesIn_b37 h x1 v5 x3 E hE P4 hP4  hw)
set_option maxRecDepth 20000 in
theorem t_X3_sizesIn_b4 {X : Ctx} (h : Hp) (x1 : Int32) (x2 : Int32) (x3 : Int32)  (E : EE X cX3_sizesIn RX3 4 3 65 0 0) {Q : Int32 → Prop} (hE : ENDi X cX3_sizesIn .int (fun r u => h = u ∧ Q r) NT 0 0)  (hw : wp_X3_sizesIn_b4 x1 x2 x3 h  Q) : GG X 0 0 NT h [some (rf X 3 0), some (.int x1), some (.int x2), some (.int x3)] 4 [] :=
  hw (fun y2 y3  => GG X 0 0 NT h [some (rf X 3 0), some (.int x1), some (.int y2), some (.int y3)] 4 []) (fun y2 y3  hq => t_X3_sizesIn_b4F h x1 y2 y3  E hE  (fun y2 y3  => GG X 0 0 NT h [some (rf X 3 0), some (.int x1), some (.int y2), some (.int y3)] 4 []) (fun y2 y3  q => q) hq)
set_option maxRecDepth 20000 in
theorem m_X3_sizesIn {l : Launch} (hl : l.stackTraces = false) (G : Gq) (p0 : Int32)  (h : Hp) (Q : Int32 → Prop) (hw : wp_X3_sizesIn p0 h Q) : MI l G yX3_sizesIn cX3_sizesIn 4 (some .int) rm_X3_sizesIn NT NT h (fun r => [r 3 0, .int p0]) (fun r u => h = u ∧ Q r) := by
  refine MI_of (L0 := (fun X => [some (rf X 3 0), some (.int p0), none, none])) hl (by decide +kernel) rfl (fun _ => Nat.le_of_ble_eq_true rfl) (fun _ => rfl) fun X hXl hXG E hE => ?_
  subst hXl; subst hXG
  unfold wp_X3_sizesIn at hw
  refine r_iconst E 0 rfl dX3_sizesIn_0 ?_
  refine r_istore_n E [some (rf X 3 0), some (.int p0), some (.int 0), none] rfl (Nat.le_of_ble_eq_true rfl) rfl dX3_sizesIn_1 ?_
  refine r_iconst E 0 rfl dX3_sizesIn_2 ?_
  refine r_istore_n E [some (rf X 3 0), some (.int p0), some (.int 0), some (.int 0)] rfl (Nat.le_of_ble_eq_true rfl) rfl dX3_sizesIn_3 ?_
  exact GG_weak [true, true, true, true] rfl (t_X3_sizesIn_b4 h p0 0 0 E hE  hw)
set_option maxRecDepth 20000 in
theorem t_X3_carryOut_b128 {X : Ctx} (h : Hp) (o2 : Nat) (o3 : Nat) (x4 : Int32) (ho2 : o2 < 3) (ho3 : o3 < 41) (E : EE X cX3_carryOut RX3 5 2 45 0 0) {Q : Hp → Prop} (hE : ENDv X cX3_carryOut Q NT 0 0) (P98 : Int32 → Hp → Prop) (hP98 : ∀ (y4 : Int32) (u : Hp), P98 y4 u → GG X 0 0 NT u [some (rf X 3 0), none, some (rf X 5 o2), some (rf X 2 o3), some (.int y4)] 98 []) (hw : wp_X3_carryOut_b128 o2 o3 x4 h P98 Q) : GG X 0 0 NT h [some (rf X 3 0), none, some (rf X 5 o2), some (rf X 2 o3), some (.int x4)] 128 [] := by
  unfold wp_X3_carryOut_b128 at hw
  obtain ⟨v1, hv1⟩ : ∃ y : Int32, y = x4 + 1 := ⟨_, rfl⟩
  have hw := hw v1 hv1
  refine r_iinc E x4 v1 [some (rf X 3 0), none, some (rf X 5 o2), some (rf X 2 o3), some (.int v1)] rfl (by rw [hv1]; rfl) (Nat.le_of_ble_eq_true rfl) rfl dX3_carryOut_128 ?_
  refine r_goto E 98 (by decide) dX3_carryOut_131 ?_
  exact GG_weak [true, false, true, true, true] rfl (hP98 _ _ hw)
set_option maxRecDepth 20000 in
theorem t_X3_carryOut_b98F {X : Ctx} (h : Hp) (o2 : Nat) (o3 : Nat) (x4 : Int32) (ho2 : o2 < 3) (ho3 : o3 < 41) (E : EE X cX3_carryOut RX3 5 2 45 0 0) {Q : Hp → Prop} (hE : ENDv X cX3_carryOut Q NT 0 0)  (P98 : Int32 → Hp → Prop) (hP98 : ∀ (y4 : Int32) (u : Hp), P98 y4 u → GG X 0 0 NT u [some (rf X 3 0), none, some (rf X 5 o2), some (rf X 2 o3), some (.int y4)] 98 []) (hw : wp_X3_carryOut_b98F o2 o3   Q P98 x4 h) : GG X 0 0 NT h [some (rf X 3 0), none, some (rf X 5 o2), some (rf X 2 o3), some (.int x4)] 98 [] := by
  unfold wp_X3_carryOut_b98F at hw
  refine r_iload E x4 rfl dX3_carryOut_98 ?_
  refine r_bipush E 10 rfl dX3_carryOut_100 ?_
  refine r_icmp_ge E 134 (by decide) dX3_carryOut_102 (fun c1 => ?_) (fun c1 => ?_)
  · have hw := ite_t hw c1
    refine r_aload_n E 5 o2 rfl dX3_carryOut_134 ?_
    refine r_getI E fd_X3_99 rfl ho2 (adr_lt ho2) dX3_carryOut_135 ?_
    refine r_if_eq E 167 (by decide) dX3_carryOut_138 (fun c2 => ?_) (fun c2 => ?_)
    · have hw := ite_t hw c2
      exact hE _ _ _ _ _ (Nat.le_of_ble_eq_true rfl) (Nat.le_of_ble_eq_true rfl) dX3_carryOut_167 hw
    · have hw := ite_f hw c2
      refine r_aload_n E 3 0 rfl dX3_carryOut_141 ?_
      refine r_getS E fd_X3_24 (t := 0) (j1 := 18) rfl rfl rfl rfl (Nat.le_of_ble_eq_true rfl) (adr_lt (Nat.le_of_ble_eq_true rfl)) dX3_carryOut_142 ?_
      refine r_aload_n E 2 o3 rfl dX3_carryOut_145 ?_
      refine r_getI E fd_X3_38 rfl ho3 (adr_lt ho3) dX3_carryOut_146 ?_
      refine r_dup2 E rfl rfl dX3_carryOut_149 ?_
      obtain ⟨i3, hw⟩ := hw
      refine r_iald E rfl rfl rfl (Nat.le_of_ble_eq_true rfl) (adr_lt (Nat.le_of_ble_eq_true rfl)) i3 dX3_carryOut_150 ?_
      refine r_iconst E 1 rfl dX3_carryOut_151 ?_
      refine r_iadd E dX3_carryOut_152 ?_
      refine r_iast E rfl rfl rfl (Nat.le_of_ble_eq_true rfl) (adr_lt (Nat.le_of_ble_eq_true rfl)) i3 dX3_carryOut_153 ?_
      refine GG_toph fun h4 hh4 => ?_
      have hw := hw h4 hh4
      refine r_aload_n E 3 0 rfl dX3_carryOut_154 ?_
      refine r_getS E fd_X3_30 (t := 0) (j1 := 20) rfl rfl rfl rfl (Nat.le_of_ble_eq_true rfl) (adr_lt (Nat.le_of_ble_eq_true rfl)) dX3_carryOut_155 ?_
      refine r_aload_n E 2 o3 rfl dX3_carryOut_158 ?_
      refine r_getI E fd_X3_38 rfl ho3 (adr_lt ho3) dX3_carryOut_159 ?_
      refine r_aload_n E 3 0 rfl dX3_carryOut_162 ?_
      refine r_getI E fd_X3_53 rfl (Nat.le_of_ble_eq_true rfl) (adr_lt (Nat.le_of_ble_eq_true rfl)) dX3_carryOut_163 ?_
      obtain ⟨i5, hw⟩ := hw
      refine r_iast E rfl rfl rfl (Nat.le_of_ble_eq_true rfl) (adr_lt (Nat.le_of_ble_eq_true rfl)) i5 dX3_carryOut_166 ?_
      refine GG_toph fun h6 hh6 => ?_
      have hw := hw h6 hh6
      exact hE _ _ _ _ _ (Nat.le_of_ble_eq_true rfl) (Nat.le_of_ble_eq_true rfl) dX3_carryOut_167 hw
  · have hw := ite_f hw c1
    refine r_aload_n E 5 o2 rfl dX3_carryOut_105 ?_
    refine r_getI E fd_X3_92 rfl ho2 (adr_lt ho2) dX3_carryOut_106 ?_
    refine r_iload E x4 rfl dX3_carryOut_109 ?_
    refine r_callSNI E (m_X10_hasBit (EE_st E) (GX X) (gI h 5 o2 9) x4 h _ hw) lk_X3_95 (RM_mk (Nat.le_of_ble_eq_true rfl) (Nat.le_of_ble_eq_true rfl)) rfl rfl rfl rfl (Nat.le_of_ble_eq_true rfl) rfl rfl (Nat.le_of_ble_eq_true rfl) (Nat.le_of_ble_eq_true rfl) dX3_carryOut_111 (fun r7 u9 hw => ?_)
    obtain ⟨rfl, zr7, hw⟩ := hw
    refine r_if_eq E 128 (by decide) dX3_carryOut_114 (fun c8 => ?_) (fun c8 => ?_)
    · have hw := ite_t hw c8
      exact GG_weak [true, false, true, true, true] rfl (t_X3_carryOut_b128 h o2 o3 x4 ho2 ho3 E hE P98 hP98  hw)
    · have hw := ite_f hw c8
      refine r_aload_n E 3 0 rfl dX3_carryOut_117 ?_
      refine r_getS E fd_X3_27 (t := 0) (j1 := 19) rfl rfl rfl rfl (Nat.le_of_ble_eq_true rfl) (adr_lt (Nat.le_of_ble_eq_true rfl)) dX3_carryOut_118 ?_
      refine r_iload E x4 rfl dX3_carryOut_121 ?_
      refine r_dup2 E rfl rfl dX3_carryOut_123 ?_
      obtain ⟨i9, hw⟩ := hw
      refine r_iald E rfl rfl rfl (Nat.le_of_ble_eq_true rfl) (adr_lt (Nat.le_of_ble_eq_true rfl)) i9 dX3_carryOut_124 ?_
      refine r_iconst E 1 rfl dX3_carryOut_125 ?_
      refine r_iadd E dX3_carryOut_126 ?_
      refine r_iast E rfl rfl rfl (Nat.le_of_ble_eq_true rfl) (adr_lt (Nat.le_of_ble_eq_true rfl)) i9 dX3_carryOut_127 ?_
      refine GG_toph fun h10 hh10 => ?_
      have hw := hw h10 hh10
      exact GG_weak [true, false, true, true, true] rfl (t_X3_carryOut_b128 h10 o2 o3 x4 ho2 ho3 E hE P98 hP98  hw)
set_option maxRecDepth 20000 in
theorem t_X3_carryOut_b98 {X : Ctx} (h : Hp) (o2 : Nat) (o3 : Nat) (x4 : Int32) (ho2 : o2 < 3) (ho3 : o3 < 41) (E : EE X cX3_carryOut RX3 5 2 45 0 0) {Q : Hp → Prop} (hE : ENDv X cX3_carryOut Q NT 0 0)  (hw : wp_X3_carryOut_b98 o2 o3 x4 h  Q) : GG X 0 0 NT h [some (rf X 3 0), none, some (rf X 5 o2), some (rf X 2 o3), some (.int x4)] 98 [] :=
  hw (fun y4 u => GG X 0 0 NT u [some (rf X 3 0), none, some (rf X 5 o2), some (rf X 2 o3), some (.int y4)] 98 []) (fun y4 u hq => t_X3_carryOut_b98F u o2 o3 y4 ho2 ho3 E hE  (fun y4 u => GG X 0 0 NT u [some (rf X 3 0), none, some (rf X 5 o2), some (rf X 2 o3), some (.int y4)] 98 []) (fun y4 u q => q) hq)
set_option maxRecDepth 20000 in
theorem t_X3_carryOut_b65F {X : Ctx} (h : Hp) (o2 : Nat) (o3 : Nat) (x4 : Int32) (ho2 : o2 < 3) (ho3 : o3 < 41) (E : EE X cX3_carryOut RX3 5 2 45 0 0) {Q : Hp → Prop} (hE : ENDv X cX3_carryOut Q NT 0 0)  (P65 : Int32 → Hp → Prop) (hP65 : ∀ (y4 : Int32) (u : Hp), P65 y4 u → GG X 0 0 NT u [some (rf X 3 0), none, some (rf X 5 o2), some (rf X 2 o3), some (.int y4)] 65 []) (hw : wp_X3_carryOut_b65F o2 o3   Q P65 x4 h) : GG X 0 0 NT h [some (rf X 3 0), none, some (rf X 5 o2), some (rf X 2 o3), some (.int x4)] 65 [] := by
  unfold wp_X3_carryOut_b65F at hw
  refine r_iload E x4 rfl dX3_carryOut_65 ?_
  refine r_bipush E 8 rfl dX3_carryOut_67 ?_
  refine r_icmp_ge E 95 (by decide) dX3_carryOut_69 (fun c1 => ?_) (fun c1 => ?_)
  · have hw := ite_t hw c1
    refine r_iconst E 0 rfl dX3_carryOut_95 ?_
    refine r_istore E [some (rf X 3 0), none, some (rf X 5 o2), some (rf X 2 o3), some (.int 0)] (Nat.le_of_ble_eq_true rfl) rfl dX3_carryOut_96 ?_
    exact GG_weak [true, false, true, true, true] rfl (t_X3_carryOut_b98 h o2 o3 0 ho2 ho3 E hE  hw)
  · have hw := ite_f hw c1
    refine r_aload_n E 3 0 rfl dX3_carryOut_72 ?_
    refine r_getS E fd_X3_21 (t := 0) (j1 := 17) rfl rfl rfl rfl (Nat.le_of_ble_eq_true rfl) (adr_lt (Nat.le_of_ble_eq_true rfl)) dX3_carryOut_73 ?_
    refine r_iload E x4 rfl dX3_carryOut_76 ?_
    refine r_dup2 E rfl rfl dX3_carryOut_78 ?_
    obtain ⟨i2, hw⟩ := hw
    refine r_iald E rfl rfl rfl (Nat.le_of_ble_eq_true rfl) (adr_lt (Nat.le_of_ble_eq_true rfl)) i2 dX3_carryOut_79 ?_
    refine r_aload_n E 5 o2 rfl dX3_carryOut_80 ?_
    refine r_getS E fd_X3_89 (t := o2) (j1 := 27) rfl rfl rfl rfl ho2 (adr_lt ho2) dX3_carryOut_81 ?_
    refine r_iload E x4 rfl dX3_carryOut_84 ?_
    refine r_iald E rfl rfl rfl ho2 (adr_lt ho2) i2 dX3_carryOut_86 ?_
    refine r_iadd E dX3_carryOut_87 ?_
    refine r_iast E rfl rfl rfl (Nat.le_of_ble_eq_true rfl) (adr_lt (Nat.le_of_ble_eq_true rfl)) i2 dX3_carryOut_88 ?_
    refine GG_toph fun h3 hh3 => ?_
    have hw := hw h3 hh3
    obtain ⟨v4, hv4⟩ : ∃ y : Int32, y = x4 + 1 := ⟨_, rfl⟩
    have hw := hw v4 hv4
    refine r_iinc E x4 v4 [some (rf X 3 0), none, some (rf X 5 o2), some (rf X 2 o3), some (.int v4)] rfl (by rw [hv4]; rfl) (Nat.le_of_ble_eq_true rfl) rfl dX3_carryOut_89 ?_
    refine r_goto E 65 (by decide) dX3_carryOut_92 ?_
    exact GG_weak [true, false, true, true, true] rfl (hP65 _ _ hw)
set_option maxRecDepth 20000 in
theorem t_X3_carryOut_b65 {X : Ctx} (h : Hp) (o2 : Nat) (o3 : Nat) (x4 : Int32) (ho2 : o2 < 3) (ho3 : o3 < 41) (E : EE X cX3_carryOut RX3 5 2 45 0 0) {Q : Hp → Prop} (hE : ENDv X cX3_carryOut Q NT 0 0)  (hw : wp_X3_carryOut_b65 o2 o3 x4 h  Q) : GG X 0 0 NT h [some (rf X 3 0), none, some (rf X 5 o2), some (rf X 2 o3), some (.int x4)] 65 [] :=
  hw (fun y4 u => GG X 0 0 NT u [some (rf X 3 0), none, some (rf X 5 o2), some (rf X 2 o3), some (.int y4)] 65 []) (fun y4 u hq => t_X3_carryOut_b65F u o2 o3 y4 ho2 ho3 E hE  (fun y4 u => GG X 0 0 NT u [some (rf X 3 0), none, some (rf X 5 o2), some (rf X 2 o3), some (.int y4)] 65 []) (fun y4 u q => q) hq)
set_option maxRecDepth 20000 in
theorem t_X3_carryOut_b51 {X : Ctx} (h : Hp) (o2 : Nat) (o3 : Nat) (so0 : Nat) (s1 : Int32) (ho2 : o2 < 3) (ho3 : o3 < 41) (hso0 : so0 < 41) (E : EE X cX3_carryOut RX3 5 2 45 0 0) {Q : Hp → Prop} (hE : ENDv X cX3_carryOut Q NT 0 0)  (hw : wp_X3_carryOut_b51 o2 o3 so0 s1 h  Q) : GG X 0 0 NT h [some (rf X 3 0), none, some (rf X 5 o2), some (rf X 2 o3), none] 51 [.int s1, rf X 2 so0] := by
  unfold wp_X3_carryOut_b51 at hw
  refine r_putI E fd_X3_67 rfl PI_int hso0 (adr_lt hso0) rfl dX3_carryOut_51 ?_
  refine GG_toph fun h1 hh1 => ?_
  have hw := hw h1 hh1
  refine r_aload_n E 2 o3 rfl dX3_carryOut_54 ?_
  refine r_aload_n E 5 o2 rfl dX3_carryOut_55 ?_
  refine r_getI E fd_X3_85 rfl ho2 (adr_lt ho2) dX3_carryOut_56 ?_
  refine r_putI E fd_X3_88 rfl PI_int ho3 (adr_lt ho3) rfl dX3_carryOut_59 ?_
  refine GG_toph fun h2 hh2 => ?_
  have hw := hw h2 hh2
  refine r_iconst E 0 rfl dX3_carryOut_62 ?_
  refine r_istore E [some (rf X 3 0), none, some (rf X 5 o2), some (rf X 2 o3), some (.int 0)] (Nat.le_of_ble_eq_true rfl) rfl dX3_carryOut_63 ?_
  exact GG_weak [true, false, true, true, true] rfl (t_X3_carryOut_b65 h2 o2 o3 0 ho2 ho3 E hE  hw)
set_option maxRecDepth 20000 in
theorem t_X3_carryOut_b32 {X : Ctx} (h : Hp) (o2 : Nat) (o3 : Nat) (so0 : Nat) (s1 : Int32) (ho2 : o2 < 3) (ho3 : o3 < 41) (hso0 : so0 < 41) (E : EE X cX3_carryOut RX3 5 2 45 0 0) {Q : Hp → Prop} (hE : ENDv X cX3_carryOut Q NT 0 0)  (hw : wp_X3_carryOut_b32 o2 o3 so0 s1 h  Q) : GG X 0 0 NT h [some (rf X 3 0), none, some (rf X 5 o2), some (rf X 2 o3), none] 32 [.int s1, rf X 2 so0] := by
  unfold wp_X3_carryOut_b32 at hw
  obtain ⟨z1, hw⟩ := hw
  refine r_putI E fd_X3_82 rfl (PI_z z1) hso0 (adr_lt hso0) rfl dX3_carryOut_32 ?_
  refine GG_toph fun h2 hh2 => ?_
  have hw := hw h2 hh2
  refine r_aload_n E 2 o3 rfl dX3_carryOut_35 ?_
  refine r_aload_n E 2 o3 rfl dX3_carryOut_36 ?_
  refine r_getI E fd_X3_82 rfl ho3 (adr_lt ho3) dX3_carryOut_37 ?_
  refine r_if_eq E 47 (by decide) dX3_carryOut_40 (fun c3 => ?_) (fun c3 => ?_)
  · have hw := ite_t hw c3
    refine r_aload_n E 5 o2 rfl dX3_carryOut_47 ?_
    refine r_getI E fd_X3_77 rfl ho2 (adr_lt ho2) dX3_carryOut_48 ?_
    exact GG_weak [true, false, true, true, false] rfl (t_X3_carryOut_b51 h2 o2 o3 o3 (gI h2 5 o2 2) ho2 ho3 ho3 E hE  hw)
  · have hw := ite_f hw c3
    refine r_iconst E 0 rfl dX3_carryOut_43 ?_
    refine r_goto E 51 (by decide) dX3_carryOut_44 ?_
    exact GG_weak [true, false, true, true, false] rfl (t_X3_carryOut_b51 h2 o2 o3 o3 0 ho2 ho3 ho3 E hE  hw)
set_option maxRecDepth 20000 in
theorem m_X3_carryOut {l : Launch} (hl : l.stackTraces = false) (G : Gq) (p0 : Int32) (p1 : Nat) (hp1 : p1 < 3) (h : Hp) (Q : Hp → Prop) (hw : wp_X3_carryOut p0 p1 h Q) : MV l G yX3_carryOut cX3_carryOut 5 none rm_X3_carryOut NT NT h (fun r => [r 3 0, .int p0, r 5 p1]) Q := by
  refine MV_of (L0 := (fun X => [some (rf X 3 0), some (.int p0), some (rf X 5 p1), none, none])) hl (by decide +kernel) rfl (fun _ => Nat.le_of_ble_eq_true rfl) (fun _ => rfl) fun X hXl hXG E hE => ?_
  subst hXl; subst hXG
  unfold wp_X3_carryOut at hw
  refine r_aload_n E 3 0 rfl dX3_carryOut_0 ?_
  refine r_getS E fd_X3_13 (t := 0) (j1 := 15) rfl rfl rfl rfl (Nat.le_of_ble_eq_true rfl) (adr_lt (Nat.le_of_ble_eq_true rfl)) dX3_carryOut_1 ?_
  refine r_iload_n E p0 rfl dX3_carryOut_4 ?_
  obtain ⟨i1, hw⟩ := hw
  refine r_aaldS E (j1 := 2) (ta := 4) rfl rfl (Nat.le_of_ble_eq_true rfl) rfl rfl rfl (Nat.le_of_ble_eq_true rfl) (adr_lt (Nat.le_of_ble_eq_true rfl)) i1 rfl rfl dX3_carryOut_5 ?_
  refine r_astore_n E [some (rf X 3 0), some (.int p0), some (rf X 5 p1), some (rf X 2 p0.toNatClampNeg), none] rfl (Nat.le_of_ble_eq_true rfl) rfl dX3_carryOut_6 ?_
  refine r_aload_n E 2 p0.toNatClampNeg rfl dX3_carryOut_7 ?_
  refine r_iconst E 1 rfl dX3_carryOut_8 ?_
  refine r_putI E fd_X3_70 rfl (PI_z isB_1) (Nat.lt_of_lt_of_le (vp_in_lt i1) (Nat.le_of_ble_eq_true rfl)) (adr_lt (Nat.lt_of_lt_of_le (vp_in_lt i1) (Nat.le_of_ble_eq_true rfl))) rfl dX3_carryOut_9 ?_
  refine GG_toph fun h2 hh2 => ?_
  have hw := hw h2 hh2
  refine r_aload_n E 2 p0.toNatClampNeg rfl dX3_carryOut_12 ?_
  refine r_iconst E 0 rfl dX3_carryOut_13 ?_
  refine r_putI E fd_X3_74 rfl (PI_z isB_0) (Nat.lt_of_lt_of_le (vp_in_lt i1) (Nat.le_of_ble_eq_true rfl)) (adr_lt (Nat.lt_of_lt_of_le (vp_in_lt i1) (Nat.le_of_ble_eq_true rfl))) rfl dX3_carryOut_14 ?_
  refine GG_toph fun h3 hh3 => ?_
  have hw := hw h3 hh3
  refine r_aload_n E 2 p0.toNatClampNeg rfl dX3_carryOut_17 ?_
  refine r_aload_n E 5 p1 rfl dX3_carryOut_18 ?_
  refine r_getI E fd_X3_77 rfl hp1 (adr_lt hp1) dX3_carryOut_19 ?_
  refine r_bipush E 8 rfl dX3_carryOut_22 ?_
  refine r_icmp_lt E 31 (by decide) dX3_carryOut_24 (fun c4 => ?_) (fun c4 => ?_)
  · have hw := ite_t hw c4
    refine r_iconst E 0 rfl dX3_carryOut_31 ?_
    exact GG_weak [true, false, true, true, false] rfl (t_X3_carryOut_b32 h3 p1 p0.toNatClampNeg p0.toNatClampNeg 0 hp1 (Nat.lt_of_lt_of_le (vp_in_lt i1) (Nat.le_of_ble_eq_true rfl)) (Nat.lt_of_lt_of_le (vp_in_lt i1) (Nat.le_of_ble_eq_true rfl)) E hE  hw)
  · have hw := ite_f hw c4
    refine r_iconst E 1 rfl dX3_carryOut_27 ?_
    refine r_goto E 32 (by decide) dX3_carryOut_28 ?_
    exact GG_weak [true, false, true, true, false] rfl (t_X3_carryOut_b32 h3 p1 p0.toNatClampNeg p0.toNatClampNeg 1 hp1 (Nat.lt_of_lt_of_le (vp_in_lt i1) (Nat.le_of_ble_eq_true rfl)) (Nat.lt_of_lt_of_le (vp_in_lt i1) (Nat.le_of_ble_eq_true rfl)) E hE  hw)
set_option maxRecDepth 20000 in
theorem t_X4_gather_b147 {X : Ctx} (h : Hp) (x3 : Int64) (x5 : Int32)  (E : EE X cX4_gather RX4 7 2 46 0 0) {Q : Hp → Prop} (hE : ENDv X cX4_gather Q NT 0 0) (P105 : Int32 → Hp → Prop) (hP105 : ∀ (y5 : Int32) (u : Hp), P105 y5 u → GG X 0 0 NT u [some (rf X 4 0), none, none, some (.long x3), none, some (.int y5), none] 105 []) (hw : wp_X4_gather_b147 x3 x5 h P105 Q) : GG X 0 0 NT h [some (rf X 4 0), none, none, some (.long x3), none, some (.int x5), none] 147 [] := by
  unfold wp_X4_gather_b147 at hw
  obtain ⟨v1, hv1⟩ : ∃ y : Int32, y = x5 + 1 := ⟨_, rfl⟩
  have hw := hw v1 hv1
  refine r_iinc E x5 v1 [some (rf X 4 0), none, none, some (.long x3), none, some (.int v1), none] rfl (by rw [hv1]; rfl) (Nat.le_of_ble_eq_true rfl) rfl dX4_gather_147 ?_
  refine r_goto E 105 (by decide) dX4_gather_150 ?_
  exact GG_weak [true, false, false, true, false, true, false] rfl (hP105 _ _ hw)
set_option maxRecDepth 20000 in
theorem t_X4_gather_b105F {X : Ctx} (h : Hp) (x3 : Int64) (x5 : Int32)  (E : EE X cX4_gather RX4 7 2 46 0 0) {Q : Hp → Prop} (hE : ENDv X cX4_gather Q NT 0 0)  (P105 : Int32 → Hp → Prop) (hP105 : ∀ (y5 : Int32) (u : Hp), P105 y5 u → GG X 0 0 NT u [some (rf X 4 0), none, none, some (.long x3), none, some (.int y5), none] 105 []) (hw : wp_X4_gather_b105F x3   Q P105 x5 h) : GG X 0 0 NT h [some (rf X 4 0), none, none, some (.long x3), none, some (.int x5), none] 105 [] := by
  unfold wp_X4_gather_b105F at hw
  refine r_iload E x5 rfl dX4_gather_105 ?_
  refine r_aload_n E 4 0 rfl dX4_gather_107 ?_
  refine r_getS E fd_X4_22 (t := 0) (j1 := 9) rfl rfl rfl rfl (Nat.le_of_ble_eq_true rfl) (adr_lt (Nat.le_of_ble_eq_true rfl)) dX4_gather_108 ?_
  refine r_getI E fd_X4_34 rfl (Nat.le_of_ble_eq_true rfl) (adr_lt (Nat.le_of_ble_eq_true rfl)) dX4_gather_111 ?_
  refine r_icmp_ge E 153 (by decide) dX4_gather_114 (fun c1 => ?_) (fun c1 => ?_)
  · have hw := ite_t hw c1
    exact hE _ _ _ _ _ (Nat.le_of_ble_eq_true rfl) (Nat.le_of_ble_eq_true rfl) dX4_gather_153 hw
  · have hw := ite_f hw c1
    refine r_lload_n E x3 rfl dX4_gather_117 ?_
    refine r_iload E x5 rfl dX4_gather_118 ?_
    refine r_callSNI E (m_X10_hasBit_ (EE_st E) (GX X) x3 x5 h _ hw) lk_X4_38 (RM_mk (Nat.le_of_ble_eq_true rfl) (Nat.le_of_ble_eq_true rfl)) rfl rfl rfl rfl (Nat.le_of_ble_eq_true rfl) rfl rfl (Nat.le_of_ble_eq_true rfl) (Nat.le_of_ble_eq_true rfl) dX4_gather_120 (fun r2 u9 hw => ?_)
    obtain ⟨rfl, zr2, hw⟩ := hw
    refine r_if_eq E 147 (by decide) dX4_gather_123 (fun c3 => ?_) (fun c3 => ?_)
    · have hw := ite_t hw c3
      exact GG_weak [true, false, false, true, false, true, false] rfl (t_X4_gather_b147 h x3 x5 E hE P105 hP105  hw)
    · have hw := ite_f hw c3
      refine r_aload_n E 4 0 rfl dX4_gather_126 ?_
      refine r_getS E fd_X4_18 (t := 0) (j1 := 28) rfl rfl rfl rfl (Nat.le_of_ble_eq_true rfl) (adr_lt (Nat.le_of_ble_eq_true rfl)) dX4_gather_127 ?_
      refine r_aload_n E 4 0 rfl dX4_gather_130 ?_
      refine r_getI E fd_X4_58 rfl (Nat.le_of_ble_eq_true rfl) (adr_lt (Nat.le_of_ble_eq_true rfl)) dX4_gather_131 ?_
      refine r_iload E x5 rfl dX4_gather_134 ?_
      obtain ⟨i4, hw⟩ := hw
      refine r_iast E rfl rfl rfl (Nat.le_of_ble_eq_true rfl) (adr_lt (Nat.le_of_ble_eq_true rfl)) i4 dX4_gather_136 ?_
      refine GG_toph fun h5 hh5 => ?_
      have hw := hw h5 hh5
      refine r_aload_n E 4 0 rfl dX4_gather_137 ?_
      refine r_dup E rfl dX4_gather_138 ?_
      refine r_getI E fd_X4_58 rfl (Nat.le_of_ble_eq_true rfl) (adr_lt (Nat.le_of_ble_eq_true rfl)) dX4_gather_139 ?_
      refine r_iconst E 1 rfl dX4_gather_142 ?_
      refine r_iadd E dX4_gather_143 ?_
      refine r_putI E fd_X4_58 rfl PI_int (Nat.le_of_ble_eq_true rfl) (adr_lt (Nat.le_of_ble_eq_true rfl)) rfl dX4_gather_144 ?_
      refine GG_toph fun h6 hh6 => ?_
      have hw := hw h6 hh6
      exact GG_weak [true, false, false, true, false, true, false] rfl (t_X4_gather_b147 h6 x3 x5 E hE P105 hP105  hw)
set_option maxRecDepth 20000 in
theorem t_X4_gather_b105 {X : Ctx} (h : Hp) (x3 : Int64) (x5 : Int32)  (E : EE X cX4_gather RX4 7 2 46 0 0) {Q : Hp → Prop} (hE : ENDv X cX4_gather Q NT 0 0)  (hw : wp_X4_gather_b105 x3 x5 h  Q) : GG X 0 0 NT h [some (rf X 4 0), none, none, some (.long x3), none, some (.int x5), none] 105 [] :=
  hw (fun y5 u => GG X 0 0 NT u [some (rf X 4 0), none, none, some (.long x3), none, some (.int y5), none] 105 []) (fun y5 u hq => t_X4_gather_b105F u x3 y5  E hE  (fun y5 u => GG X 0 0 NT u [some (rf X 4 0), none, none, some (.long x3), none, some (.int y5), none] 105 []) (fun y5 u q => q) hq)
set_option maxRecDepth 20000 in
theorem t_X4_gather_b91 {X : Ctx} (h : Hp) (x3 : Int64) (x5 : Int32)  (E : EE X cX4_gather RX4 7 2 46 0 0) {Q : Hp → Prop} (hE : ENDv X cX4_gather Q NT 0 0) (P13 : Int64 → Int32 → Hp → Prop) (hP13 : ∀ (y3 : Int64) (y5 : Int32) (u : Hp), P13 y3 y5 u → GG X 0 0 NT u [some (rf X 4 0), none, none, some (.long y3), none, some (.int y5), none] 13 []) (hw : wp_X4_gather_b91 x3 x5 h P13 Q) : GG X 0 0 NT h [some (rf X 4 0), none, none, some (.long x3), none, some (.int x5), none] 91 [] := by
  unfold wp_X4_gather_b91 at hw
  obtain ⟨v1, hv1⟩ : ∃ y : Int32, y = x5 + (-1) := ⟨_, rfl⟩
  have hw := hw v1 hv1
  refine r_iinc E x5 v1 [some (rf X 4 0), none, none, some (.long x3), none, some (.int v1), none] rfl (by rw [hv1]; rfl) (Nat.le_of_ble_eq_true rfl) rfl dX4_gather_91 ?_
  refine r_goto E 13 (by decide) dX4_gather_94 ?_
  exact GG_weak [true, false, false, true, false, true, false] rfl (hP13 _ _ _ hw)
set_option maxRecDepth 20000 in
theorem t_X4_gather_b89 {X : Ctx} (h : Hp) (x5 : Int32) (s0 : Int64) (s1 : Int64)  (E : EE X cX4_gather RX4 7 2 46 0 0) {Q : Hp → Prop} (hE : ENDv X cX4_gather Q NT 0 0) (P13 : Int64 → Int32 → Hp → Prop) (hP13 : ∀ (y3 : Int64) (y5 : Int32) (u : Hp), P13 y3 y5 u → GG X 0 0 NT u [some (rf X 4 0), none, none, some (.long y3), none, some (.int y5), none] 13 []) (hw : wp_X4_gather_b89 x5 s0 s1 h P13 Q) : GG X 0 0 NT h [some (rf X 4 0), none, none, none, none, some (.int x5), none] 89 [.long s1, .long s0] := by
  unfold wp_X4_gather_b89 at hw
  refine r_lor E dX4_gather_89 ?_
  refine GG_topJ fun v1 hv1 => ?_
  have hw := hw v1 hv1
  refine r_lstore_n E [some (rf X 4 0), none, none, some (.long v1), none, some (.int x5), none] rfl (Nat.le_of_ble_eq_true rfl) rfl dX4_gather_90 ?_
  exact GG_weak [true, false, false, true, false, true, false] rfl (t_X4_gather_b91 h v1 x5 E hE P13 hP13  hw)
set_option maxRecDepth 20000 in
theorem t_X4_gather_b64 {X : Ctx} (h : Hp) (x5 : Int32) (x6 : Int32) (s0 : Int64) (s1 : Int64)  (E : EE X cX4_gather RX4 7 2 46 0 0) {Q : Hp → Prop} (hE : ENDv X cX4_gather Q NT 0 0) (P13 : Int64 → Int32 → Hp → Prop) (hP13 : ∀ (y3 : Int64) (y5 : Int32) (u : Hp), P13 y3 y5 u → GG X 0 0 NT u [some (rf X 4 0), none, none, some (.long y3), none, some (.int y5), none] 13 []) (hw : wp_X4_gather_b64 x5 x6 s0 s1 h P13 Q) : GG X 0 0 NT h [some (rf X 4 0), none, none, none, none, some (.int x5), some (.int x6)] 64 [.long s1, .long s0] := by
  unfold wp_X4_gather_b64 at hw
  refine r_lor E dX4_gather_64 ?_
  refine GG_topJ fun v1 hv1 => ?_
  have hw := hw v1 hv1
  refine r_lstore_n E [some (rf X 4 0), none, none, some (.long v1), none, some (.int x5), some (.int x6)] rfl (Nat.le_of_ble_eq_true rfl) rfl dX4_gather_65 ?_
  refine r_lload_n E v1 rfl dX4_gather_66 ?_
  refine r_iload E x6 rfl dX4_gather_67 ?_
  refine r_iconst E 1 rfl dX4_gather_69 ?_
  refine r_icmp_le E 88 (by decide) dX4_gather_70 (fun c2 => ?_) (fun c2 => ?_)
  · have hw := ite_t hw c2
    refine r_lconst E 0 rfl dX4_gather_88 ?_
    exact GG_weak [true, false, false, false, false, true, false] rfl (t_X4_gather_b89 h x5 v1 0 E hE P13 hP13  hw)
  · have hw := ite_f hw c2
    refine r_lconst E 1 rfl dX4_gather_73 ?_
    refine r_aload_n E 4 0 rfl dX4_gather_74 ?_
    refine r_getS E fd_X4_22 (t := 0) (j1 := 9) rfl rfl rfl rfl (Nat.le_of_ble_eq_true rfl) (adr_lt (Nat.le_of_ble_eq_true rfl)) dX4_gather_75 ?_
    refine r_getSN E fd_X4_55 (t := 0) (j1 := 14) rfl rfl rfl rfl (Nat.le_of_ble_eq_true rfl) (adr_lt (Nat.le_of_ble_eq_true rfl)) dX4_gather_78 ?_
    refine r_iload E x5 rfl dX4_gather_81 ?_
    obtain ⟨i3, hw⟩ := hw
    refine r_iald E rfl rfl rfl (Nat.le_of_ble_eq_true rfl) (adr_lt (Nat.le_of_ble_eq_true rfl)) i3 dX4_gather_83 ?_
    refine r_lshl E dX4_gather_84 ?_
    refine r_goto E 89 (by decide) dX4_gather_85 ?_
    exact GG_weak [true, false, false, false, false, true, false] rfl (t_X4_gather_b89 h x5 v1 ((1 : Int64) <<< ((gI h 14 0 x5.toNatClampNeg : Int32).toInt64 &&& 63)) E hE P13 hP13  hw)
set_option maxRecDepth 20000 in
theorem t_X4_gather_b13F {X : Ctx} (h : Hp) (x3 : Int64) (x5 : Int32)  (E : EE X cX4_gather RX4 7 2 46 0 0) {Q : Hp → Prop} (hE : ENDv X cX4_gather Q NT 0 0)  (P13 : Int64 → Int32 → Hp → Prop) (hP13 : ∀ (y3 : Int64) (y5 : Int32) (u : Hp), P13 y3 y5 u → GG X 0 0 NT u [some (rf X 4 0), none, none, some (.long y3), none, some (.int y5), none] 13 []) (hw : wp_X4_gather_b13F    Q P13 x3 x5 h) : GG X 0 0 NT h [some (rf X 4 0), none, none, some (.long x3), none, some (.int x5), none] 13 [] := by
  unfold wp_X4_gather_b13F at hw
  refine r_iload E x5 rfl dX4_gather_13 ?_
  refine r_if_lt E 97 (by decide) dX4_gather_15 (fun c1 => ?_) (fun c1 => ?_)
  · have hw := ite_t hw c1
    refine r_aload_n E 4 0 rfl dX4_gather_97 ?_
    refine r_iconst E 0 rfl dX4_gather_98 ?_
    refine r_putI E fd_X4_58 rfl PI_int (Nat.le_of_ble_eq_true rfl) (adr_lt (Nat.le_of_ble_eq_true rfl)) rfl dX4_gather_99 ?_
    refine GG_toph fun h2 hh2 => ?_
    have hw := hw h2 hh2
    refine r_iconst E 0 rfl dX4_gather_102 ?_
    refine r_istore E [some (rf X 4 0), none, none, some (.long x3), none, some (.int 0), none] (Nat.le_of_ble_eq_true rfl) rfl dX4_gather_103 ?_
    exact GG_weak [true, false, false, true, false, true, false] rfl (t_X4_gather_b105 h2 x3 0 E hE  hw)
  · have hw := ite_f hw c1
    refine r_lload_n E x3 rfl dX4_gather_18 ?_
    refine r_iload E x5 rfl dX4_gather_19 ?_
    refine r_callSNI E (m_X10_hasBit_ (EE_st E) (GX X) x3 x5 h _ hw) lk_X4_38 (RM_mk (Nat.le_of_ble_eq_true rfl) (Nat.le_of_ble_eq_true rfl)) rfl rfl rfl rfl (Nat.le_of_ble_eq_true rfl) rfl rfl (Nat.le_of_ble_eq_true rfl) (Nat.le_of_ble_eq_true rfl) dX4_gather_21 (fun r3 u9 hw => ?_)
    obtain ⟨rfl, zr3, hw⟩ := hw
    refine r_if_eq E 91 (by decide) dX4_gather_24 (fun c4 => ?_) (fun c4 => ?_)
    · have hw := ite_t hw c4
      exact GG_weak [true, false, false, true, false, true, false] rfl (t_X4_gather_b91 h x3 x5 E hE P13 hP13  hw)
    · have hw := ite_f hw c4
      refine r_aload_n E 4 0 rfl dX4_gather_27 ?_
      refine r_getS E fd_X4_22 (t := 0) (j1 := 9) rfl rfl rfl rfl (Nat.le_of_ble_eq_true rfl) (adr_lt (Nat.le_of_ble_eq_true rfl)) dX4_gather_28 ?_
      refine r_getSN E fd_X4_44 (t := 0) (j1 := 12) rfl rfl rfl rfl (Nat.le_of_ble_eq_true rfl) (adr_lt (Nat.le_of_ble_eq_true rfl)) dX4_gather_31 ?_
      refine r_iload E x5 rfl dX4_gather_34 ?_
      obtain ⟨i5, hw⟩ := hw
      refine r_cald E rfl rfl rfl (Nat.le_of_ble_eq_true rfl) (adr_lt (Nat.le_of_ble_eq_true rfl)) i5 dX4_gather_36 ?_
      refine r_callSI E (m_X9_partsOf (EE_st E) (GX X) (gI h 12 0 x5.toNatClampNeg) h _ hw) lk_X4_48 (RM_mk (Nat.le_of_ble_eq_true rfl) (Nat.le_of_ble_eq_true rfl)) rfl rfl rfl rfl (Nat.le_of_ble_eq_true rfl) rfl rfl (Nat.le_of_ble_eq_true rfl) (Nat.le_of_ble_eq_true rfl) dX4_gather_37 (fun r6 u9 hw => ?_)
      obtain ⟨rfl, hw⟩ := hw
      refine r_istore E [some (rf X 4 0), none, none, some (.long x3), none, some (.int x5), some (.int r6)] (Nat.le_of_ble_eq_true rfl) rfl dX4_gather_40 ?_
      refine r_lload_n E x3 rfl dX4_gather_42 ?_
      refine r_iload E r6 rfl dX4_gather_43 ?_
      refine r_if_le E 63 (by decide) dX4_gather_45 (fun c7 => ?_) (fun c7 => ?_)
      · have hw := ite_t hw c7
        refine r_lconst E 0 rfl dX4_gather_63 ?_
        exact GG_weak [true, false, false, false, false, true, true] rfl (t_X4_gather_b64 h x5 r6 x3 0 E hE P13 hP13  hw)
      · have hw := ite_f hw c7
        refine r_lconst E 1 rfl dX4_gather_48 ?_
        refine r_aload_n E 4 0 rfl dX4_gather_49 ?_
        refine r_getS E fd_X4_22 (t := 0) (j1 := 9) rfl rfl rfl rfl (Nat.le_of_ble_eq_true rfl) (adr_lt (Nat.le_of_ble_eq_true rfl)) dX4_gather_50 ?_
        refine r_getSN E fd_X4_52 (t := 0) (j1 := 13) rfl rfl rfl rfl (Nat.le_of_ble_eq_true rfl) (adr_lt (Nat.le_of_ble_eq_true rfl)) dX4_gather_53 ?_
        refine r_iload E x5 rfl dX4_gather_56 ?_
        refine r_iald E rfl rfl rfl (Nat.le_of_ble_eq_true rfl) (adr_lt (Nat.le_of_ble_eq_true rfl)) i5 dX4_gather_58 ?_
        refine r_lshl E dX4_gather_59 ?_
        refine r_goto E 64 (by decide) dX4_gather_60 ?_
        exact GG_weak [true, false, false, false, false, true, true] rfl (t_X4_gather_b64 h x5 r6 x3 ((1 : Int64) <<< ((gI h 13 0 x5.toNatClampNeg : Int32).toInt64 &&& 63)) E hE P13 hP13  hw)
set_option maxRecDepth 20000 in
theorem t_X4_gather_b13 {X : Ctx} (h : Hp) (x3 : Int64) (x5 : Int32)  (E : EE X cX4_gather RX4 7 2 46 0 0) {Q : Hp → Prop} (hE : ENDv X cX4_gather Q NT 0 0)  (hw : wp_X4_gather_b13 x3 x5 h  Q) : GG X 0 0 NT h [some (rf X 4 0), none, none, some (.long x3), none, some (.int x5), none] 13 [] :=
  hw (fun y3 y5 u => GG X 0 0 NT u [some (rf X 4 0), none, none, some (.long y3), none, some (.int y5), none] 13 []) (fun y3 y5 u hq => t_X4_gather_b13F u y3 y5  E hE  (fun y3 y5 u => GG X 0 0 NT u [some (rf X 4 0), none, none, some (.long y3), none, some (.int y5), none] 13 []) (fun y3 y5 u q => q) hq)
set_option maxRecDepth 20000 in
theorem m_X4_gather {l : Launch} (hl : l.stackTraces = false) (G : Gq) (p0 : Int64)  (h : Hp) (Q : Hp → Prop) (hw : wp_X4_gather p0 h Q) : MV l G yX4_gather cX4_gather 7 none rm_X4_gather NT NT h (fun r => [r 4 0, .long p0]) Q := by
  refine MV_of (L0 := (fun X => [some (rf X 4 0), some (.long p0), none, none, none, none, none])) hl (by decide +kernel) rfl (fun _ => Nat.le_of_ble_eq_true rfl) (fun _ => rfl) fun X hXl hXG E hE => ?_
  subst hXl; subst hXG
  unfold wp_X4_gather at hw
  refine r_lload_n E p0 rfl dX4_gather_0 ?_
  refine r_lstore_n E [some (rf X 4 0), some (.long p0), none, some (.long p0), none, none, none] rfl (Nat.le_of_ble_eq_true rfl) rfl dX4_gather_1 ?_
  refine r_aload_n E 4 0 rfl dX4_gather_2 ?_
  refine r_getS E fd_X4_22 (t := 0) (j1 := 9) rfl rfl rfl rfl (Nat.le_of_ble_eq_true rfl) (adr_lt (Nat.le_of_ble_eq_true rfl)) dX4_gather_3 ?_
  refine r_getI E fd_X4_34 rfl (Nat.le_of_ble_eq_true rfl) (adr_lt (Nat.le_of_ble_eq_true rfl)) dX4_gather_6 ?_
  refine r_iconst E 1 rfl dX4_gather_9 ?_
  refine r_isub E dX4_gather_10 ?_
  refine GG_topI fun v1 hv1 => ?_
  have hw := hw v1 hv1
  refine r_istore E [some (rf X 4 0), some (.long p0), none, some (.long p0), none, some (.int v1), none] (Nat.le_of_ble_eq_true rfl) rfl dX4_gather_11 ?_
  exact GG_weak [true, false, false, true, false, true, false] rfl (t_X4_gather_b13 h p0 v1 E hE  hw)
set_option maxRecDepth 20000 in
theorem m_X8_blank {l : Launch} (hl : l.stackTraces = false) (G : Gq)   (h : Hp) (Q : Hp → Prop) (hw : wp_X8_blank  h Q) : MV l G yX8_blank cX8_blank 1 none rm_X8_blank NT NT h (fun r => [r 8 0]) Q := by
  refine MV_of (L0 := (fun X => [some (rf X 8 0)])) hl (by decide +kernel) rfl (fun _ => Nat.le_of_ble_eq_true rfl) (fun _ => rfl) fun X hXl hXG E hE => ?_
  subst hXl; subst hXG
  unfold wp_X8_blank at hw
  refine r_aload_n E 8 0 rfl dX8_blank_0 ?_
  refine r_sipush E 1023 rfl dX8_blank_1 ?_
  refine r_putI E fd_X8_9 rfl PI_int (Nat.le_of_ble_eq_true rfl) (adr_lt (Nat.le_of_ble_eq_true rfl)) rfl dX8_blank_4 ?_
  refine GG_toph fun h1 hh1 => ?_
  have hw := hw h1 hh1
  refine r_aload_n E 8 0 rfl dX8_blank_7 ?_
  refine r_bipush E 127 rfl dX8_blank_8 ?_
  refine r_putI E fd_X8_15 rfl PI_int (Nat.le_of_ble_eq_true rfl) (adr_lt (Nat.le_of_ble_eq_true rfl)) rfl dX8_blank_10 ?_
  refine GG_toph fun h2 hh2 => ?_
  have hw := hw h2 hh2
  refine r_aload_n E 8 0 rfl dX8_blank_13 ?_
  refine r_iconst E 1 rfl dX8_blank_14 ?_
  refine r_putI E fd_X8_18 rfl PI_int (Nat.le_of_ble_eq_true rfl) (adr_lt (Nat.le_of_ble_eq_true rfl)) rfl dX8_blank_15 ?_
  refine GG_toph fun h3 hh3 => ?_
  have hw := hw h3 hh3
  refine r_aload_n E 8 0 rfl dX8_blank_18 ?_
  refine r_sipush E 999 rfl dX8_blank_19 ?_
  refine r_putI E fd_X8_21 rfl PI_int (Nat.le_of_ble_eq_true rfl) (adr_lt (Nat.le_of_ble_eq_true rfl)) rfl dX8_blank_22 ?_
  refine GG_toph fun h4 hh4 => ?_
  have hw := hw h4 hh4
  refine r_aload_n E 8 0 rfl dX8_blank_25 ?_
  refine r_iconst E 0 rfl dX8_blank_26 ?_
  refine r_putI E fd_X8_24 rfl PI_int (Nat.le_of_ble_eq_true rfl) (adr_lt (Nat.le_of_ble_eq_true rfl)) rfl dX8_blank_27 ?_
  refine GG_toph fun h5 hh5 => ?_
  have hw := hw h5 hh5
  refine r_aload_n E 8 0 rfl dX8_blank_30 ?_
  refine r_iconst E 0 rfl dX8_blank_31 ?_
  refine r_putI E fd_X8_27 rfl PI_int (Nat.le_of_ble_eq_true rfl) (adr_lt (Nat.le_of_ble_eq_true rfl)) rfl dX8_blank_32 ?_
  refine GG_toph fun h6 hh6 => ?_
  have hw := hw h6 hh6
  refine r_aload_n E 8 0 rfl dX8_blank_35 ?_
  refine r_iconst E 1 rfl dX8_blank_36 ?_
  refine r_putI E fd_X8_30 rfl PI_int (Nat.le_of_ble_eq_true rfl) (adr_lt (Nat.le_of_ble_eq_true rfl)) rfl dX8_blank_37 ?_
  refine GG_toph fun h7 hh7 => ?_
  have hw := hw h7 hh7
  refine r_aload_n E 8 0 rfl dX8_blank_40 ?_
  refine r_bipush E 10 rfl dX8_blank_41 ?_
  refine r_putI E fd_X8_33 rfl PI_int (Nat.le_of_ble_eq_true rfl) (adr_lt (Nat.le_of_ble_eq_true rfl)) rfl dX8_blank_43 ?_
  refine GG_toph fun h8 hh8 => ?_
  have hw := hw h8 hh8
  refine r_aload_n E 8 0 rfl dX8_blank_46 ?_
  refine r_iconst E 0 rfl dX8_blank_47 ?_
  refine r_putI E fd_X8_36 rfl PI_int (Nat.le_of_ble_eq_true rfl) (adr_lt (Nat.le_of_ble_eq_true rfl)) rfl dX8_blank_48 ?_
  refine GG_toph fun h9 hh9 => ?_
  have hw := hw h9 hh9
  refine r_aload_n E 8 0 rfl dX8_blank_51 ?_
  refine r_iconst E 0 rfl dX8_blank_52 ?_
  refine r_putI E fd_X8_39 rfl PI_int (Nat.le_of_ble_eq_true rfl) (adr_lt (Nat.le_of_ble_eq_true rfl)) rfl dX8_blank_53 ?_
  refine GG_toph fun h10 hh10 => ?_
  have hw := hw h10 hh10
  refine r_aload_n E 8 0 rfl dX8_blank_56 ?_
  refine r_iconst E 0 rfl dX8_blank_57 ?_
  refine r_putI E fd_X8_42 rfl PI_int (Nat.le_of_ble_eq_true rfl) (adr_lt (Nat.le_of_ble_eq_true rfl)) rfl dX8_blank_58 ?_
  refine GG_toph fun h11 hh11 => ?_
  have hw := hw h11 hh11
  refine r_aload_n E 8 0 rfl dX8_blank_61 ?_
  refine r_iconst E 0 rfl dX8_blank_62 ?_
  refine r_putI E fd_X8_45 rfl PI_int (Nat.le_of_ble_eq_true rfl) (adr_lt (Nat.le_of_ble_eq_true rfl)) rfl dX8_blank_63 ?_
  refine GG_toph fun h12 hh12 => ?_
  have hw := hw h12 hh12
  exact hE _ _ _ _ _ (Nat.le_of_ble_eq_true rfl) (Nat.le_of_ble_eq_true rfl) dX8_blank_66 hw
set_option maxRecDepth 20000 in
theorem m_X8_addHolding {l : Launch} (hl : l.stackTraces = false) (G : Gq) (p0 : Int32) (p1 : Int32)  (h : Hp) (Q : Hp → Prop) (hw : wp_X8_addHolding p0 p1 h Q) : MV l G yX8_addHolding cX8_addHolding 3 none rm_X8_addHolding NT NT h (fun r => [r 8 0, .int p0, .int p1]) Q := by
  refine MV_of (L0 := (fun X => [some (rf X 8 0), some (.int p0), some (.int p1)])) hl (by decide +kernel) rfl (fun _ => Nat.le_of_ble_eq_true rfl) (fun _ => rfl) fun X hXl hXG E hE => ?_
  subst hXl; subst hXG
  unfold wp_X8_addHolding at hw
  refine r_iload_n E p0 rfl dX8_addHolding_0 ?_
  rcases Decidable.em (p0 = 98) with c1 | c1
  · have hw := ite_t hw c1
    refine r_tableI E 98 c1 (off := 160) 161 dX8_addHolding_1 (by decide) (by decide) rfl (by decide) ?_
    refine r_aload_n E 8 0 rfl dX8_addHolding_161 ?_
    refine r_dup E rfl dX8_addHolding_162 ?_
    refine r_getI E fd_X8_42 rfl (Nat.le_of_ble_eq_true rfl) (adr_lt (Nat.le_of_ble_eq_true rfl)) dX8_addHolding_163 ?_
    refine r_iconst E 1 rfl dX8_addHolding_166 ?_
    refine r_iload_n E p1 rfl dX8_addHolding_167 ?_
    refine r_ishl E dX8_addHolding_168 ?_
    refine r_ior E dX8_addHolding_169 ?_
    refine r_putI E fd_X8_42 rfl PI_int (Nat.le_of_ble_eq_true rfl) (adr_lt (Nat.le_of_ble_eq_true rfl)) rfl dX8_addHolding_170 ?_
    refine GG_toph fun h2 hh2 => ?_
    have hw := hw h2 hh2
    refine r_goto E 223 (by decide) dX8_addHolding_173 ?_
    exact hE _ _ _ _ _ (Nat.le_of_ble_eq_true rfl) (Nat.le_of_ble_eq_true rfl) dX8_addHolding_223 hw
  · have hw := ite_f hw c1
    rcases Decidable.em (p0 = 100) with c3 | c3
    · have hw := ite_t hw c3
      refine r_tableI E 100 c3 (off := 192) 193 dX8_addHolding_1 (by decide) (by decide) rfl (by decide) ?_
      refine r_aload_n E 8 0 rfl dX8_addHolding_193 ?_
      refine r_dup E rfl dX8_addHolding_194 ?_
      refine r_getI E fd_X8_15 rfl (Nat.le_of_ble_eq_true rfl) (adr_lt (Nat.le_of_ble_eq_true rfl)) dX8_addHolding_195 ?_
      refine r_iconst E 1 rfl dX8_addHolding_198 ?_
      refine r_iload_n E p1 rfl dX8_addHolding_199 ?_
      refine r_ishl E dX8_addHolding_200 ?_
      refine r_iand E dX8_addHolding_201 ?_
      refine r_putI E fd_X8_15 rfl PI_int (Nat.le_of_ble_eq_true rfl) (adr_lt (Nat.le_of_ble_eq_true rfl)) rfl dX8_addHolding_202 ?_
      refine GG_toph fun h4 hh4 => ?_
      have hw := hw h4 hh4
      refine r_goto E 223 (by decide) dX8_addHolding_205 ?_
      exact hE _ _ _ _ _ (Nat.le_of_ble_eq_true rfl) (Nat.le_of_ble_eq_true rfl) dX8_addHolding_223 hw
    · have hw := ite_f hw c3
      rcases Decidable.em (p0 = 102) with c5 | c5
      · have hw := ite_t hw c5
        refine r_tableI E 102 c5 (off := 115) 116 dX8_addHolding_1 (by decide) (by decide) rfl (by decide) ?_
        refine r_aload_n E 8 0 rfl dX8_addHolding_116 ?_
        refine r_dup E rfl dX8_addHolding_117 ?_
        refine r_getI E fd_X8_9 rfl (Nat.le_of_ble_eq_true rfl) (adr_lt (Nat.le_of_ble_eq_true rfl)) dX8_addHolding_118 ?_
        refine r_iconst E 1 rfl dX8_addHolding_121 ?_
        refine r_iload_n E p1 rfl dX8_addHolding_122 ?_
        refine r_ishl E dX8_addHolding_123 ?_
        refine r_iand E dX8_addHolding_124 ?_
        refine r_putI E fd_X8_9 rfl PI_int (Nat.le_of_ble_eq_true rfl) (adr_lt (Nat.le_of_ble_eq_true rfl)) rfl dX8_addHolding_125 ?_
        refine GG_toph fun h6 hh6 => ?_
        have hw := hw h6 hh6
        refine r_goto E 223 (by decide) dX8_addHolding_128 ?_
        exact hE _ _ _ _ _ (Nat.le_of_ble_eq_true rfl) (Nat.le_of_ble_eq_true rfl) dX8_addHolding_223 hw
      · have hw := ite_f hw c5
        rcases Decidable.em (p0 = 110) with c7 | c7
        · have hw := ite_t hw c7
          refine r_tableI E 110 c7 (off := 207) 208 dX8_addHolding_1 (by decide) (by decide) rfl (by decide) ?_
          refine r_aload_n E 8 0 rfl dX8_addHolding_208 ?_
          refine r_aload_n E 8 0 rfl dX8_addHolding_209 ?_
          refine r_getI E fd_X8_30 rfl (Nat.le_of_ble_eq_true rfl) (adr_lt (Nat.le_of_ble_eq_true rfl)) dX8_addHolding_210 ?_
          refine r_iload_n E p1 rfl dX8_addHolding_213 ?_
          refine r_mmax E lk_X8_48 lm_max.1 lm_max.2.1 lm_max.2.2 rfl (Nat.le_of_ble_eq_true rfl) (Nat.le_of_ble_eq_true rfl) (Nat.zero_le _) (Nat.zero_le _) dX8_addHolding_214 ?_
          refine r_putI E fd_X8_30 rfl PI_int (Nat.le_of_ble_eq_true rfl) (adr_lt (Nat.le_of_ble_eq_true rfl)) rfl dX8_addHolding_217 ?_
          refine GG_toph fun h8 hh8 => ?_
          have hw := hw h8 hh8
          refine r_goto E 223 (by decide) dX8_addHolding_220 ?_
          exact hE _ _ _ _ _ (Nat.le_of_ble_eq_true rfl) (Nat.le_of_ble_eq_true rfl) dX8_addHolding_223 hw
        · have hw := ite_f hw c7
          rcases Decidable.em (p0 = 115) with c9 | c9
          · have hw := ite_t hw c9
            refine r_tableI E 115 c9 (off := 145) 146 dX8_addHolding_1 (by decide) (by decide) rfl (by decide) ?_
            refine r_aload_n E 8 0 rfl dX8_addHolding_146 ?_
            refine r_dup E rfl dX8_addHolding_147 ?_
            refine r_getI E fd_X8_36 rfl (Nat.le_of_ble_eq_true rfl) (adr_lt (Nat.le_of_ble_eq_true rfl)) dX8_addHolding_148 ?_
            refine r_iconst E 1 rfl dX8_addHolding_151 ?_
            refine r_iload_n E p1 rfl dX8_addHolding_152 ?_
            refine r_ishl E dX8_addHolding_153 ?_
            refine r_ior E dX8_addHolding_154 ?_
            refine r_putI E fd_X8_36 rfl PI_int (Nat.le_of_ble_eq_true rfl) (adr_lt (Nat.le_of_ble_eq_true rfl)) rfl dX8_addHolding_155 ?_
            refine GG_toph fun h10 hh10 => ?_
            have hw := hw h10 hh10
            refine r_goto E 223 (by decide) dX8_addHolding_158 ?_
            exact hE _ _ _ _ _ (Nat.le_of_ble_eq_true rfl) (Nat.le_of_ble_eq_true rfl) dX8_addHolding_223 hw
          · have hw := ite_f hw c9
            rcases Decidable.em (p0 = 116) with c11 | c11
            · have hw := ite_t hw c11
              refine r_tableI E 116 c11 (off := 130) 131 dX8_addHolding_1 (by decide) (by decide) rfl (by decide) ?_
              refine r_aload_n E 8 0 rfl dX8_addHolding_131 ?_
              refine r_dup E rfl dX8_addHolding_132 ?_
              refine r_getI E fd_X8_24 rfl (Nat.le_of_ble_eq_true rfl) (adr_lt (Nat.le_of_ble_eq_true rfl)) dX8_addHolding_133 ?_
              refine r_iconst E 1 rfl dX8_addHolding_136 ?_
              refine r_iload_n E p1 rfl dX8_addHolding_137 ?_
              refine r_ishl E dX8_addHolding_138 ?_
              refine r_ior E dX8_addHolding_139 ?_
              refine r_putI E fd_X8_24 rfl PI_int (Nat.le_of_ble_eq_true rfl) (adr_lt (Nat.le_of_ble_eq_true rfl)) rfl dX8_addHolding_140 ?_
              refine GG_toph fun h12 hh12 => ?_
              have hw := hw h12 hh12
              refine r_goto E 223 (by decide) dX8_addHolding_143 ?_
              exact hE _ _ _ _ _ (Nat.le_of_ble_eq_true rfl) (Nat.le_of_ble_eq_true rfl) dX8_addHolding_223 hw
            · have hw := ite_f hw c11
              rcases Decidable.em (p0 = 122) with c13 | c13
              · have hw := ite_t hw c13
                refine r_tableI E 122 c13 (off := 175) 176 dX8_addHolding_1 (by decide) (by decide) rfl (by decide) ?_
                refine r_aload_n E 8 0 rfl dX8_addHolding_176 ?_
                refine r_aload_n E 8 0 rfl dX8_addHolding_177 ?_
                refine r_getI E fd_X8_18 rfl (Nat.le_of_ble_eq_true rfl) (adr_lt (Nat.le_of_ble_eq_true rfl)) dX8_addHolding_178 ?_
                refine r_iload_n E p1 rfl dX8_addHolding_181 ?_
                refine r_iconst E 1 rfl dX8_addHolding_182 ?_
                refine r_iadd E dX8_addHolding_183 ?_
                refine r_mmax E lk_X8_48 lm_max.1 lm_max.2.1 lm_max.2.2 rfl (Nat.le_of_ble_eq_true rfl) (Nat.le_of_ble_eq_true rfl) (Nat.zero_le _) (Nat.zero_le _) dX8_addHolding_184 ?_
                refine r_putI E fd_X8_18 rfl PI_int (Nat.le_of_ble_eq_true rfl) (adr_lt (Nat.le_of_ble_eq_true rfl)) rfl dX8_addHolding_187 ?_
                refine GG_toph fun h14 hh14 => ?_
                have hw := hw h14 hh14
                refine r_goto E 223 (by decide) dX8_addHolding_190 ?_
                exact hE _ _ _ _ _ (Nat.le_of_ble_eq_true rfl) (Nat.le_of_ble_eq_true rfl) dX8_addHolding_223 hw
              · have hw := ite_f hw c13
                have key : GG X 0 0 NT h [some (rf X 8 0), some (.int p0), some (.int p1)] 223 ([]) := by
                  exact hE _ _ _ _ _ (Nat.le_of_ble_eq_true rfl) (Nat.le_of_ble_eq_true rfl) dX8_addHolding_223 hw
                rcases Decidable.em (p0.toInt < 98 ∨ 122 < p0.toInt) with cz | cz
                · exact r_tableO E 223 dX8_addHolding_1 cz (by decide) key
                · have hh : p0 = 99 ∨ p0 = 101 ∨ p0 = 103 ∨ p0 = 104 ∨ p0 = 105 ∨ p0 = 106 ∨ p0 = 107 ∨ p0 = 108 ∨ p0 = 109 ∨ p0 = 111 ∨ p0 = 112 ∨ p0 = 113 ∨ p0 = 114 ∨ p0 = 117 ∨ p0 = 118 ∨ p0 = 119 ∨ p0 = 120 ∨ p0 = 121 := by
                    have ec1 := lv_neT c1 (a := 98) rfl
                    have ec3 := lv_neT c3 (a := 100) rfl
                    have ec5 := lv_neT c5 (a := 102) rfl
                    have ec7 := lv_neT c7 (a := 110) rfl
                    have ec9 := lv_neT c9 (a := 115) rfl
                    have ec11 := lv_neT c11 (a := 116) rfl
                    have ec13 := lv_neT c13 (a := 122) rfl
                    have hz : p0.toInt = 99 ∨ p0.toInt = 101 ∨ p0.toInt = 103 ∨ p0.toInt = 104 ∨ p0.toInt = 105 ∨ p0.toInt = 106 ∨ p0.toInt = 107 ∨ p0.toInt = 108 ∨ p0.toInt = 109 ∨ p0.toInt = 111 ∨ p0.toInt = 112 ∨ p0.toInt = 113 ∨ p0.toInt = 114 ∨ p0.toInt = 117 ∨ p0.toInt = 118 ∨ p0.toInt = 119 ∨ p0.toInt = 120 ∨ p0.toInt = 121 := by omega
                    rcases hz with hz | hz | hz | hz | hz | hz | hz | hz | hz | hz | hz | hz | hz | hz | hz | hz | hz | hz
                    · exact Or.inl (Int32.toInt_inj.mp (hz.trans (rfl : (99 : Int) = (99 : Int32).toInt)))
                    · exact Or.inr (Or.inl (Int32.toInt_inj.mp (hz.trans (rfl : (101 : Int) = (101 : Int32).toInt))))
                    · exact Or.inr (Or.inr (Or.inl (Int32.toInt_inj.mp (hz.trans (rfl : (103 : Int) = (103 : Int32).toInt)))))
                    · exact Or.inr (Or.inr (Or.inr (Or.inl (Int32.toInt_inj.mp (hz.trans (rfl : (104 : Int) = (104 : Int32).toInt))))))
                    · exact Or.inr (Or.inr (Or.inr (Or.inr (Or.inl (Int32.toInt_inj.mp (hz.trans (rfl : (105 : Int) = (105 : Int32).toInt)))))))
                    · exact Or.inr (Or.inr (Or.inr (Or.inr (Or.inr (Or.inl (Int32.toInt_inj.mp (hz.trans (rfl : (106 : Int) = (106 : Int32).toInt))))))))
                    · exact Or.inr (Or.inr (Or.inr (Or.inr (Or.inr (Or.inr (Or.inl (Int32.toInt_inj.mp (hz.trans (rfl : (107 : Int) = (107 : Int32).toInt)))))))))
                    · exact Or.inr (Or.inr (Or.inr (Or.inr (Or.inr (Or.inr (Or.inr (Or.inl (Int32.toInt_inj.mp (hz.trans (rfl : (108 : Int) = (108 : Int32).toInt))))))))))
                    · exact Or.inr (Or.inr (Or.inr (Or.inr (Or.inr (Or.inr (Or.inr (Or.inr (Or.inl (Int32.toInt_inj.mp (hz.trans (rfl : (109 : Int) = (109 : Int32).toInt)))))))))))
                    · exact Or.inr (Or.inr (Or.inr (Or.inr (Or.inr (Or.inr (Or.inr (Or.inr (Or.inr (Or.inl (Int32.toInt_inj.mp (hz.trans (rfl : (111 : Int) = (111 : Int32).toInt))))))))))))
                    · exact Or.inr (Or.inr (Or.inr (Or.inr (Or.inr (Or.inr (Or.inr (Or.inr (Or.inr (Or.inr (Or.inl (Int32.toInt_inj.mp (hz.trans (rfl : (112 : Int) = (112 : Int32).toInt)))))))))))))
                    · exact Or.inr (Or.inr (Or.inr (Or.inr (Or.inr (Or.inr (Or.inr (Or.inr (Or.inr (Or.inr (Or.inr (Or.inl (Int32.toInt_inj.mp (hz.trans (rfl : (113 : Int) = (113 : Int32).toInt))))))))))))))
                    · exact Or.inr (Or.inr (Or.inr (Or.inr (Or.inr (Or.inr (Or.inr (Or.inr (Or.inr (Or.inr (Or.inr (Or.inr (Or.inl (Int32.toInt_inj.mp (hz.trans (rfl : (114 : Int) = (114 : Int32).toInt)))))))))))))))
                    · exact Or.inr (Or.inr (Or.inr (Or.inr (Or.inr (Or.inr (Or.inr (Or.inr (Or.inr (Or.inr (Or.inr (Or.inr (Or.inr (Or.inl (Int32.toInt_inj.mp (hz.trans (rfl : (117 : Int) = (117 : Int32).toInt))))))))))))))))
                    · exact Or.inr (Or.inr (Or.inr (Or.inr (Or.inr (Or.inr (Or.inr (Or.inr (Or.inr (Or.inr (Or.inr (Or.inr (Or.inr (Or.inr (Or.inl (Int32.toInt_inj.mp (hz.trans (rfl : (118 : Int) = (118 : Int32).toInt)))))))))))))))))
                    · exact Or.inr (Or.inr (Or.inr (Or.inr (Or.inr (Or.inr (Or.inr (Or.inr (Or.inr (Or.inr (Or.inr (Or.inr (Or.inr (Or.inr (Or.inr (Or.inl (Int32.toInt_inj.mp (hz.trans (rfl : (119 : Int) = (119 : Int32).toInt))))))))))))))))))
                    · exact Or.inr (Or.inr (Or.inr (Or.inr (Or.inr (Or.inr (Or.inr (Or.inr (Or.inr (Or.inr (Or.inr (Or.inr (Or.inr (Or.inr (Or.inr (Or.inr (Or.inl (Int32.toInt_inj.mp (hz.trans (rfl : (120 : Int) = (120 : Int32).toInt)))))))))))))))))))
                    · exact Or.inr (Or.inr (Or.inr (Or.inr (Or.inr (Or.inr (Or.inr (Or.inr (Or.inr (Or.inr (Or.inr (Or.inr (Or.inr (Or.inr (Or.inr (Or.inr (Or.inr (Int32.toInt_inj.mp (hz.trans (rfl : (121 : Int) = (121 : Int32).toInt)))))))))))))))))))
                  rcases hh with hh | hh | hh | hh | hh | hh | hh | hh | hh | hh | hh | hh | hh | hh | hh | hh | hh | hh
                  · exact r_tableI E 99 hh (off := 222) 223 dX8_addHolding_1 (by decide) (by decide) rfl (by decide) key
                  · exact r_tableI E 101 hh (off := 222) 223 dX8_addHolding_1 (by decide) (by decide) rfl (by decide) key
                  · exact r_tableI E 103 hh (off := 222) 223 dX8_addHolding_1 (by decide) (by decide) rfl (by decide) key
                  · exact r_tableI E 104 hh (off := 222) 223 dX8_addHolding_1 (by decide) (by decide) rfl (by decide) key
                  · exact r_tableI E 105 hh (off := 222) 223 dX8_addHolding_1 (by decide) (by decide) rfl (by decide) key
                  · exact r_tableI E 106 hh (off := 222) 223 dX8_addHolding_1 (by decide) (by decide) rfl (by decide) key
                  · exact r_tableI E 107 hh (off := 222) 223 dX8_addHolding_1 (by decide) (by decide) rfl (by decide) key
                  · exact r_tableI E 108 hh (off := 222) 223 dX8_addHolding_1 (by decide) (by decide) rfl (by decide) key
                  · exact r_tableI E 109 hh (off := 222) 223 dX8_addHolding_1 (by decide) (by decide) rfl (by decide) key
                  · exact r_tableI E 111 hh (off := 222) 223 dX8_addHolding_1 (by decide) (by decide) rfl (by decide) key
                  · exact r_tableI E 112 hh (off := 222) 223 dX8_addHolding_1 (by decide) (by decide) rfl (by decide) key
                  · exact r_tableI E 113 hh (off := 222) 223 dX8_addHolding_1 (by decide) (by decide) rfl (by decide) key
                  · exact r_tableI E 114 hh (off := 222) 223 dX8_addHolding_1 (by decide) (by decide) rfl (by decide) key
                  · exact r_tableI E 117 hh (off := 222) 223 dX8_addHolding_1 (by decide) (by decide) rfl (by decide) key
                  · exact r_tableI E 118 hh (off := 222) 223 dX8_addHolding_1 (by decide) (by decide) rfl (by decide) key
                  · exact r_tableI E 119 hh (off := 222) 223 dX8_addHolding_1 (by decide) (by decide) rfl (by decide) key
                  · exact r_tableI E 120 hh (off := 222) 223 dX8_addHolding_1 (by decide) (by decide) rfl (by decide) key
                  · exact r_tableI E 121 hh (off := 222) 223 dX8_addHolding_1 (by decide) (by decide) rfl (by decide) key
set_option maxRecDepth 20000 in
theorem m_X8_addFailing {l : Launch} (hl : l.stackTraces = false) (G : Gq) (p0 : Int32) (p1 : Int32)  (h : Hp) (Q : Hp → Prop) (hw : wp_X8_addFailing p0 p1 h Q) : MV l G yX8_addFailing cX8_addFailing 3 none rm_X8_addFailing NT NT h (fun r => [r 8 0, .int p0, .int p1]) Q := by
  refine MV_of (L0 := (fun X => [some (rf X 8 0), some (.int p0), some (.int p1)])) hl (by decide +kernel) rfl (fun _ => Nat.le_of_ble_eq_true rfl) (fun _ => rfl) fun X hXl hXG E hE => ?_
  subst hXl; subst hXG
  unfold wp_X8_addFailing at hw
  refine r_iload_n E p0 rfl dX8_addFailing_0 ?_
  rcases Decidable.em (p0 = 98) with c1 | c1
  · have hw := ite_t hw c1
    refine r_tableI E 98 c1 (off := 162) 163 dX8_addFailing_1 (by decide) (by decide) rfl (by decide) ?_
    refine r_aload_n E 8 0 rfl dX8_addFailing_163 ?_
    refine r_dup E rfl dX8_addFailing_164 ?_
    refine r_getI E fd_X8_45 rfl (Nat.le_of_ble_eq_true rfl) (adr_lt (Nat.le_of_ble_eq_true rfl)) dX8_addFailing_165 ?_
    refine r_iconst E 1 rfl dX8_addFailing_168 ?_
    refine r_iload_n E p1 rfl dX8_addFailing_169 ?_
    refine r_ishl E dX8_addFailing_170 ?_
    refine r_ior E dX8_addFailing_171 ?_
    refine r_putI E fd_X8_45 rfl PI_int (Nat.le_of_ble_eq_true rfl) (adr_lt (Nat.le_of_ble_eq_true rfl)) rfl dX8_addFailing_172 ?_
    refine GG_toph fun h2 hh2 => ?_
    have hw := hw h2 hh2
    refine r_goto E 227 (by decide) dX8_addFailing_175 ?_
    exact hE _ _ _ _ _ (Nat.le_of_ble_eq_true rfl) (Nat.le_of_ble_eq_true rfl) dX8_addFailing_227 hw
  · have hw := ite_f hw c1
    rcases Decidable.em (p0 = 100) with c3 | c3
    · have hw := ite_t hw c3
      refine r_tableI E 100 c3 (off := 192) 193 dX8_addFailing_1 (by decide) (by decide) rfl (by decide) ?_
      refine r_aload_n E 8 0 rfl dX8_addFailing_193 ?_
      refine r_dup E rfl dX8_addFailing_194 ?_
      refine r_getI E fd_X8_15 rfl (Nat.le_of_ble_eq_true rfl) (adr_lt (Nat.le_of_ble_eq_true rfl)) dX8_addFailing_195 ?_
      refine r_iconst E 1 rfl dX8_addFailing_198 ?_
      refine r_iload_n E p1 rfl dX8_addFailing_199 ?_
      refine r_ishl E dX8_addFailing_200 ?_
      refine r_iconst E (-1) rfl dX8_addFailing_201 ?_
      refine r_ixor E dX8_addFailing_202 ?_
      refine r_iand E dX8_addFailing_203 ?_
      refine r_putI E fd_X8_15 rfl PI_int (Nat.le_of_ble_eq_true rfl) (adr_lt (Nat.le_of_ble_eq_true rfl)) rfl dX8_addFailing_204 ?_
      refine GG_toph fun h4 hh4 => ?_
      have hw := hw h4 hh4
      refine r_goto E 227 (by decide) dX8_addFailing_207 ?_
      exact hE _ _ _ _ _ (Nat.le_of_ble_eq_true rfl) (Nat.le_of_ble_eq_true rfl) dX8_addFailing_227 hw
    · have hw := ite_f hw c3
      rcases Decidable.em (p0 = 102) with c5 | c5
      · have hw := ite_t hw c5
        refine r_tableI E 102 c5 (off := 115) 116 dX8_addFailing_1 (by decide) (by decide) rfl (by decide) ?_
        refine r_aload_n E 8 0 rfl dX8_addFailing_116 ?_
        refine r_dup E rfl dX8_addFailing_117 ?_
        refine r_getI E fd_X8_9 rfl (Nat.le_of_ble_eq_true rfl) (adr_lt (Nat.le_of_ble_eq_true rfl)) dX8_addFailing_118 ?_
        refine r_iconst E 1 rfl dX8_addFailing_121 ?_
        refine r_iload_n E p1 rfl dX8_addFailing_122 ?_
        refine r_ishl E dX8_addFailing_123 ?_
        refine r_iconst E (-1) rfl dX8_addFailing_124 ?_
        refine r_ixor E dX8_addFailing_125 ?_
        refine r_iand E dX8_addFailing_126 ?_
        refine r_putI E fd_X8_9 rfl PI_int (Nat.le_of_ble_eq_true rfl) (adr_lt (Nat.le_of_ble_eq_true rfl)) rfl dX8_addFailing_127 ?_
        refine GG_toph fun h6 hh6 => ?_
        have hw := hw h6 hh6
        refine r_goto E 227 (by decide) dX8_addFailing_130 ?_
        exact hE _ _ _ _ _ (Nat.le_of_ble_eq_true rfl) (Nat.le_of_ble_eq_true rfl) dX8_addFailing_227 hw
      · have hw := ite_f hw c5
        rcases Decidable.em (p0 = 110) with c7 | c7
        · have hw := ite_t hw c7
          refine r_tableI E 110 c7 (off := 209) 210 dX8_addFailing_1 (by decide) (by decide) rfl (by decide) ?_
          refine r_aload_n E 8 0 rfl dX8_addFailing_210 ?_
          refine r_aload_n E 8 0 rfl dX8_addFailing_211 ?_
          refine r_getI E fd_X8_33 rfl (Nat.le_of_ble_eq_true rfl) (adr_lt (Nat.le_of_ble_eq_true rfl)) dX8_addFailing_212 ?_
          refine r_iload_n E p1 rfl dX8_addFailing_215 ?_
          refine r_iconst E 1 rfl dX8_addFailing_216 ?_
          refine r_isub E dX8_addFailing_217 ?_
          refine r_mmin E lk_X8_54 lm_min.1 lm_min.2.1 lm_min.2.2 rfl (Nat.le_of_ble_eq_true rfl) (Nat.le_of_ble_eq_true rfl) (Nat.zero_le _) (Nat.zero_le _) dX8_addFailing_218 ?_
          refine r_putI E fd_X8_33 rfl PI_int (Nat.le_of_ble_eq_true rfl) (adr_lt (Nat.le_of_ble_eq_true rfl)) rfl dX8_addFailing_221 ?_
          refine GG_toph fun h8 hh8 => ?_
          have hw := hw h8 hh8
          refine r_goto E 227 (by decide) dX8_addFailing_224 ?_
          exact hE _ _ _ _ _ (Nat.le_of_ble_eq_true rfl) (Nat.le_of_ble_eq_true rfl) dX8_addFailing_227 hw
        · have hw := ite_f hw c7
          rcases Decidable.em (p0 = 115) with c9 | c9
          · have hw := ite_t hw c9
            refine r_tableI E 115 c9 (off := 147) 148 dX8_addFailing_1 (by decide) (by decide) rfl (by decide) ?_
            refine r_aload_n E 8 0 rfl dX8_addFailing_148 ?_
            refine r_dup E rfl dX8_addFailing_149 ?_
            refine r_getI E fd_X8_39 rfl (Nat.le_of_ble_eq_true rfl) (adr_lt (Nat.le_of_ble_eq_true rfl)) dX8_addFailing_150 ?_
            refine r_iconst E 1 rfl dX8_addFailing_153 ?_
            refine r_iload_n E p1 rfl dX8_addFailing_154 ?_
            refine r_ishl E dX8_addFailing_155 ?_
            refine r_ior E dX8_addFailing_156 ?_
            refine r_putI E fd_X8_39 rfl PI_int (Nat.le_of_ble_eq_true rfl) (adr_lt (Nat.le_of_ble_eq_true rfl)) rfl dX8_addFailing_157 ?_
            refine GG_toph fun h10 hh10 => ?_
            have hw := hw h10 hh10
            refine r_goto E 227 (by decide) dX8_addFailing_160 ?_
            exact hE _ _ _ _ _ (Nat.le_of_ble_eq_true rfl) (Nat.le_of_ble_eq_true rfl) dX8_addFailing_227 hw
          · have hw := ite_f hw c9
            rcases Decidable.em (p0 = 116) with c11 | c11
            · have hw := ite_t hw c11
              refine r_tableI E 116 c11 (off := 132) 133 dX8_addFailing_1 (by decide) (by decide) rfl (by decide) ?_
              refine r_aload_n E 8 0 rfl dX8_addFailing_133 ?_
              refine r_dup E rfl dX8_addFailing_134 ?_
              refine r_getI E fd_X8_27 rfl (Nat.le_of_ble_eq_true rfl) (adr_lt (Nat.le_of_ble_eq_true rfl)) dX8_addFailing_135 ?_
              refine r_iconst E 1 rfl dX8_addFailing_138 ?_
              refine r_iload_n E p1 rfl dX8_addFailing_139 ?_
              refine r_ishl E dX8_addFailing_140 ?_
              refine r_ior E dX8_addFailing_141 ?_
              refine r_putI E fd_X8_27 rfl PI_int (Nat.le_of_ble_eq_true rfl) (adr_lt (Nat.le_of_ble_eq_true rfl)) rfl dX8_addFailing_142 ?_
              refine GG_toph fun h12 hh12 => ?_
              have hw := hw h12 hh12
              refine r_goto E 227 (by decide) dX8_addFailing_145 ?_
              exact hE _ _ _ _ _ (Nat.le_of_ble_eq_true rfl) (Nat.le_of_ble_eq_true rfl) dX8_addFailing_227 hw
            · have hw := ite_f hw c11
              rcases Decidable.em (p0 = 122) with c13 | c13
              · have hw := ite_t hw c13
                refine r_tableI E 122 c13 (off := 177) 178 dX8_addFailing_1 (by decide) (by decide) rfl (by decide) ?_
                refine r_aload_n E 8 0 rfl dX8_addFailing_178 ?_
                refine r_aload_n E 8 0 rfl dX8_addFailing_179 ?_
                refine r_getI E fd_X8_21 rfl (Nat.le_of_ble_eq_true rfl) (adr_lt (Nat.le_of_ble_eq_true rfl)) dX8_addFailing_180 ?_
                refine r_iload_n E p1 rfl dX8_addFailing_183 ?_
                refine r_mmin E lk_X8_54 lm_min.1 lm_min.2.1 lm_min.2.2 rfl (Nat.le_of_ble_eq_true rfl) (Nat.le_of_ble_eq_true rfl) (Nat.zero_le _) (Nat.zero_le _) dX8_addFailing_184 ?_
                refine r_putI E fd_X8_21 rfl PI_int (Nat.le_of_ble_eq_true rfl) (adr_lt (Nat.le_of_ble_eq_true rfl)) rfl dX8_addFailing_187 ?_
                refine GG_toph fun h14 hh14 => ?_
                have hw := hw h14 hh14
                refine r_goto E 227 (by decide) dX8_addFailing_190 ?_
                exact hE _ _ _ _ _ (Nat.le_of_ble_eq_true rfl) (Nat.le_of_ble_eq_true rfl) dX8_addFailing_227 hw
              · have hw := ite_f hw c13
                have key : GG X 0 0 NT h [some (rf X 8 0), some (.int p0), some (.int p1)] 227 ([]) := by
                  exact hE _ _ _ _ _ (Nat.le_of_ble_eq_true rfl) (Nat.le_of_ble_eq_true rfl) dX8_addFailing_227 hw
                rcases Decidable.em (p0.toInt < 98 ∨ 122 < p0.toInt) with cz | cz
                · exact r_tableO E 227 dX8_addFailing_1 cz (by decide) key
                · have hh : p0 = 99 ∨ p0 = 101 ∨ p0 = 103 ∨ p0 = 104 ∨ p0 = 105 ∨ p0 = 106 ∨ p0 = 107 ∨ p0 = 108 ∨ p0 = 109 ∨ p0 = 111 ∨ p0 = 112 ∨ p0 = 113 ∨ p0 = 114 ∨ p0 = 117 ∨ p0 = 118 ∨ p0 = 119 ∨ p0 = 120 ∨ p0 = 121 := by
                    have ec1 := lv_neT c1 (a := 98) rfl
                    have ec3 := lv_neT c3 (a := 100) rfl
                    have ec5 := lv_neT c5 (a := 102) rfl
                    have ec7 := lv_neT c7 (a := 110) rfl
                    have ec9 := lv_neT c9 (a := 115) rfl
                    have ec11 := lv_neT c11 (a := 116) rfl
                    have ec13 := lv_neT c13 (a := 122) rfl
                    have hz : p0.toInt = 99 ∨ p0.toInt = 101 ∨ p0.toInt = 103 ∨ p0.toInt = 104 ∨ p0.toInt = 105 ∨ p0.toInt = 106 ∨ p0.toInt = 107 ∨ p0.toInt = 108 ∨ p0.toInt = 109 ∨ p0.toInt = 111 ∨ p0.toInt = 112 ∨ p0.toInt = 113 ∨ p0.toInt = 114 ∨ p0.toInt = 117 ∨ p0.toInt = 118 ∨ p0.toInt = 119 ∨ p0.toInt = 120 ∨ p0.toInt = 121 := by omega
                    rcases hz with hz | hz | hz | hz | hz | hz | hz | hz | hz | hz | hz | hz | hz | hz | hz | hz | hz | hz
                    · exact Or.inl (Int32.toInt_inj.mp (hz.trans (rfl : (99 : Int) = (99 : Int32).toInt)))
                    · exact Or.inr (Or.inl (Int32.toInt_inj.mp (hz.trans (rfl : (101 : Int) = (101 : Int32).toInt))))
                    · exact Or.inr (Or.inr (Or.inl (Int32.toInt_inj.mp (hz.trans (rfl : (103 : Int) = (103 : Int32).toInt)))))
                    · exact Or.inr (Or.inr (Or.inr (Or.inl (Int32.toInt_inj.mp (hz.trans (rfl : (104 : Int) = (104 : Int32).toInt))))))
                    · exact Or.inr (Or.inr (Or.inr (Or.inr (Or.inl (Int32.toInt_inj.mp (hz.trans (rfl : (105 : Int) = (105 : Int32).toInt)))))))
                    · exact Or.inr (Or.inr (Or.inr (Or.inr (Or.inr (Or.inl (Int32.toInt_inj.mp (hz.trans (rfl : (106 : Int) = (106 : Int32).toInt))))))))
                    · exact Or.inr (Or.inr (Or.inr (Or.inr (Or.inr (Or.inr (Or.inl (Int32.toInt_inj.mp (hz.trans (rfl : (107 : Int) = (107 : Int32).toInt)))))))))
                    · exact Or.inr (Or.inr (Or.inr (Or.inr (Or.inr (Or.inr (Or.inr (Or.inl (Int32.toInt_inj.mp (hz.trans (rfl : (108 : Int) = (108 : Int32).toInt))))))))))
                    · exact Or.inr (Or.inr (Or.inr (Or.inr (Or.inr (Or.inr (Or.inr (Or.inr (Or.inl (Int32.toInt_inj.mp (hz.trans (rfl : (109 : Int) = (109 : Int32).toInt)))))))))))
                    · exact Or.inr (Or.inr (Or.inr (Or.inr (Or.inr (Or.inr (Or.inr (Or.inr (Or.inr (Or.inl (Int32.toInt_inj.mp (hz.trans (rfl : (111 : Int) = (111 : Int32).toInt))))))))))))
                    · exact Or.inr (Or.inr (Or.inr (Or.inr (Or.inr (Or.inr (Or.inr (Or.inr (Or.inr (Or.inr (Or.inl (Int32.toInt_inj.mp (hz.trans (rfl : (112 : Int) = (112 : Int32).toInt)))))))))))))
                    · exact Or.inr (Or.inr (Or.inr (Or.inr (Or.inr (Or.inr (Or.inr (Or.inr (Or.inr (Or.inr (Or.inr (Or.inl (Int32.toInt_inj.mp (hz.trans (rfl : (113 : Int) = (113 : Int32).toInt))))))))))))))
                    · exact Or.inr (Or.inr (Or.inr (Or.inr (Or.inr (Or.inr (Or.inr (Or.inr (Or.inr (Or.inr (Or.inr (Or.inr (Or.inl (Int32.toInt_inj.mp (hz.trans (rfl : (114 : Int) = (114 : Int32).toInt)))))))))))))))
                    · exact Or.inr (Or.inr (Or.inr (Or.inr (Or.inr (Or.inr (Or.inr (Or.inr (Or.inr (Or.inr (Or.inr (Or.inr (Or.inr (Or.inl (Int32.toInt_inj.mp (hz.trans (rfl : (117 : Int) = (117 : Int32).toInt))))))))))))))))
                    · exact Or.inr (Or.inr (Or.inr (Or.inr (Or.inr (Or.inr (Or.inr (Or.inr (Or.inr (Or.inr (Or.inr (Or.inr (Or.inr (Or.inr (Or.inl (Int32.toInt_inj.mp (hz.trans (rfl : (118 : Int) = (118 : Int32).toInt)))))))))))))))))
                    · exact Or.inr (Or.inr (Or.inr (Or.inr (Or.inr (Or.inr (Or.inr (Or.inr (Or.inr (Or.inr (Or.inr (Or.inr (Or.inr (Or.inr (Or.inr (Or.inl (Int32.toInt_inj.mp (hz.trans (rfl : (119 : Int) = (119 : Int32).toInt))))))))))))))))))
                    · exact Or.inr (Or.inr (Or.inr (Or.inr (Or.inr (Or.inr (Or.inr (Or.inr (Or.inr (Or.inr (Or.inr (Or.inr (Or.inr (Or.inr (Or.inr (Or.inr (Or.inl (Int32.toInt_inj.mp (hz.trans (rfl : (120 : Int) = (120 : Int32).toInt)))))))))))))))))))
                    · exact Or.inr (Or.inr (Or.inr (Or.inr (Or.inr (Or.inr (Or.inr (Or.inr (Or.inr (Or.inr (Or.inr (Or.inr (Or.inr (Or.inr (Or.inr (Or.inr (Or.inr (Int32.toInt_inj.mp (hz.trans (rfl : (121 : Int) = (121 : Int32).toInt)))))))))))))))))))
                  rcases hh with hh | hh | hh | hh | hh | hh | hh | hh | hh | hh | hh | hh | hh | hh | hh | hh | hh | hh
                  · exact r_tableI E 99 hh (off := 226) 227 dX8_addFailing_1 (by decide) (by decide) rfl (by decide) key
                  · exact r_tableI E 101 hh (off := 226) 227 dX8_addFailing_1 (by decide) (by decide) rfl (by decide) key
                  · exact r_tableI E 103 hh (off := 226) 227 dX8_addFailing_1 (by decide) (by decide) rfl (by decide) key
                  · exact r_tableI E 104 hh (off := 226) 227 dX8_addFailing_1 (by decide) (by decide) rfl (by decide) key
                  · exact r_tableI E 105 hh (off := 226) 227 dX8_addFailing_1 (by decide) (by decide) rfl (by decide) key
                  · exact r_tableI E 106 hh (off := 226) 227 dX8_addFailing_1 (by decide) (by decide) rfl (by decide) key
                  · exact r_tableI E 107 hh (off := 226) 227 dX8_addFailing_1 (by decide) (by decide) rfl (by decide) key
                  · exact r_tableI E 108 hh (off := 226) 227 dX8_addFailing_1 (by decide) (by decide) rfl (by decide) key
                  · exact r_tableI E 109 hh (off := 226) 227 dX8_addFailing_1 (by decide) (by decide) rfl (by decide) key
                  · exact r_tableI E 111 hh (off := 226) 227 dX8_addFailing_1 (by decide) (by decide) rfl (by decide) key
                  · exact r_tableI E 112 hh (off := 226) 227 dX8_addFailing_1 (by decide) (by decide) rfl (by decide) key
                  · exact r_tableI E 113 hh (off := 226) 227 dX8_addFailing_1 (by decide) (by decide) rfl (by decide) key
                  · exact r_tableI E 114 hh (off := 226) 227 dX8_addFailing_1 (by decide) (by decide) rfl (by decide) key
                  · exact r_tableI E 117 hh (off := 226) 227 dX8_addFailing_1 (by decide) (by decide) rfl (by decide) key
                  · exact r_tableI E 118 hh (off := 226) 227 dX8_addFailing_1 (by decide) (by decide) rfl (by decide) key
                  · exact r_tableI E 119 hh (off := 226) 227 dX8_addFailing_1 (by decide) (by decide) rfl (by decide) key
                  · exact r_tableI E 120 hh (off := 226) 227 dX8_addFailing_1 (by decide) (by decide) rfl (by decide) key
                  · exact r_tableI E 121 hh (off := 226) 227 dX8_addFailing_1 (by decide) (by decide) rfl (by decide) key
set_option maxRecDepth 20000 in
theorem t_X4_draw_b96 {X : Ctx} (h : Hp) (x1 : Int32)  (E : EE X cX4_draw RX4 3 2 62 0 0) {Q : Hp → Prop} (hE : ENDv X cX4_draw Q NT 0 0) (P9 : Int32 → Hp → Prop) (hP9 : ∀ (y1 : Int32) (u : Hp), P9 y1 u → GG X 0 0 NT u [some (rf X 4 0), some (.int y1), none] 9 []) (hw : wp_X4_draw_b96 x1 h P9 Q) : GG X 0 0 NT h [some (rf X 4 0), some (.int x1), none] 96 [] := by
  unfold wp_X4_draw_b96 at hw
  obtain ⟨v1, hv1⟩ : ∃ y : Int32, y = x1 + 1 := ⟨_, rfl⟩
  have hw := hw v1 hv1
  refine r_iinc E x1 v1 [some (rf X 4 0), some (.int v1), none] rfl (by rw [hv1]; rfl) (Nat.le_of_ble_eq_true rfl) rfl dX4_draw_96 ?_
  refine r_goto E 9 (by decide) dX4_draw_99 ?_
  exact GG_weak [true, true, false] rfl (hP9 _ _ hw)
set_option maxRecDepth 20000 in
theorem t_X4_draw_b60 {X : Ctx} (h : Hp) (x1 : Int32) (x2 : Int32)  (E : EE X cX4_draw RX4 3 2 62 0 0) {Q : Hp → Prop} (hE : ENDv X cX4_draw Q NT 0 0) (P9 : Int32 → Hp → Prop) (hP9 : ∀ (y1 : Int32) (u : Hp), P9 y1 u → GG X 0 0 NT u [some (rf X 4 0), some (.int y1), none] 9 []) (hw : wp_X4_draw_b60 x1 x2 h P9 Q) : GG X 0 0 NT h [some (rf X 4 0), some (.int x1), some (.int x2)] 60 [] := by
  unfold wp_X4_draw_b60 at hw
  refine r_aload_n E 4 0 rfl dX4_draw_60 ?_
  refine r_getJ E fd_X4_73 rfl (Nat.le_of_ble_eq_true rfl) (adr_lt (Nat.le_of_ble_eq_true rfl)) dX4_draw_61 ?_
  refine r_iload_n E x2 rfl dX4_draw_64 ?_
  refine r_callSNI E (m_X10_hasBit_ (EE_st E) (GX X) (gJ h 4 0 5) x2 h _ hw) lk_X4_38 (RM_mk (Nat.le_of_ble_eq_true rfl) (Nat.le_of_ble_eq_true rfl)) rfl rfl rfl rfl (Nat.le_of_ble_eq_true rfl) rfl rfl (Nat.le_of_ble_eq_true rfl) (Nat.le_of_ble_eq_true rfl) dX4_draw_65 (fun r1 u9 hw => ?_)
  obtain ⟨rfl, zr1, hw⟩ := hw
  refine r_if_eq E 96 (by decide) dX4_draw_68 (fun c2 => ?_) (fun c2 => ?_)
  · have hw := ite_t hw c2
    exact GG_weak [true, true, false] rfl (t_X4_draw_b96 h x1 E hE P9 hP9  hw)
  · have hw := ite_f hw c2
    refine r_aload_n E 4 0 rfl dX4_draw_71 ?_
    refine r_getS E fd_X4_10 (t := 0) (j1 := 8) rfl rfl rfl rfl (Nat.le_of_ble_eq_true rfl) (adr_lt (Nat.le_of_ble_eq_true rfl)) dX4_draw_72 ?_
    refine r_aload_n E 4 0 rfl dX4_draw_75 ?_
    refine r_getS E fd_X4_22 (t := 0) (j1 := 9) rfl rfl rfl rfl (Nat.le_of_ble_eq_true rfl) (adr_lt (Nat.le_of_ble_eq_true rfl)) dX4_draw_76 ?_
    refine r_getSN E fd_X4_44 (t := 0) (j1 := 12) rfl rfl rfl rfl (Nat.le_of_ble_eq_true rfl) (adr_lt (Nat.le_of_ble_eq_true rfl)) dX4_draw_79 ?_
    refine r_iload_n E x2 rfl dX4_draw_82 ?_
    obtain ⟨i3, hw⟩ := hw
    refine r_cald E rfl rfl rfl (Nat.le_of_ble_eq_true rfl) (adr_lt (Nat.le_of_ble_eq_true rfl)) i3 dX4_draw_83 ?_
    refine r_aload_n E 4 0 rfl dX4_draw_84 ?_
    refine r_getS E fd_X4_22 (t := 0) (j1 := 9) rfl rfl rfl rfl (Nat.le_of_ble_eq_true rfl) (adr_lt (Nat.le_of_ble_eq_true rfl)) dX4_draw_85 ?_
    refine r_getSN E fd_X4_52 (t := 0) (j1 := 13) rfl rfl rfl rfl (Nat.le_of_ble_eq_true rfl) (adr_lt (Nat.le_of_ble_eq_true rfl)) dX4_draw_88 ?_
    refine r_iload_n E x2 rfl dX4_draw_91 ?_
    refine r_iald E rfl rfl rfl (Nat.le_of_ble_eq_true rfl) (adr_lt (Nat.le_of_ble_eq_true rfl)) i3 dX4_draw_92 ?_
    refine r_callVV E (m_X8_addFailing (EE_st E) (GX X) (gI h 12 0 x2.toNatClampNeg) (gI h 13 0 x2.toNatClampNeg) h _ hw) lk_X4_117 (RM_mk (Nat.le_of_ble_eq_true rfl) (Nat.le_of_ble_eq_true rfl)) rfl rfl rfl rfl (Nat.le_of_ble_eq_true rfl) (adr_lt (Nat.le_of_ble_eq_true rfl)) (Nat.le_of_ble_eq_true rfl) rfl rfl (Nat.le_of_ble_eq_true rfl) (Nat.le_of_ble_eq_true rfl) dX4_draw_93 (fun h4 hw => ?_)
    exact GG_weak [true, true, false] rfl (t_X4_draw_b96 h4 x1 E hE P9 hP9  hw)
set_option maxRecDepth 20000 in
theorem t_X4_draw_b9F {X : Ctx} (h : Hp) (x1 : Int32)  (E : EE X cX4_draw RX4 3 2 62 0 0) {Q : Hp → Prop} (hE : ENDv X cX4_draw Q NT 0 0)  (P9 : Int32 → Hp → Prop) (hP9 : ∀ (y1 : Int32) (u : Hp), P9 y1 u → GG X 0 0 NT u [some (rf X 4 0), some (.int y1), none] 9 []) (hw : wp_X4_draw_b9F    Q P9 x1 h) : GG X 0 0 NT h [some (rf X 4 0), some (.int x1), none] 9 [] := by
  unfold wp_X4_draw_b9F at hw
  refine r_iload_n E x1 rfl dX4_draw_9 ?_
  refine r_aload_n E 4 0 rfl dX4_draw_10 ?_
  refine r_getI E fd_X4_58 rfl (Nat.le_of_ble_eq_true rfl) (adr_lt (Nat.le_of_ble_eq_true rfl)) dX4_draw_11 ?_
  refine r_icmp_ge E 102 (by decide) dX4_draw_14 (fun c1 => ?_) (fun c1 => ?_)
  · have hw := ite_t hw c1
    exact hE _ _ _ _ _ (Nat.le_of_ble_eq_true rfl) (Nat.le_of_ble_eq_true rfl) dX4_draw_102 hw
  · have hw := ite_f hw c1
    refine r_aload_n E 4 0 rfl dX4_draw_17 ?_
    refine r_getS E fd_X4_18 (t := 0) (j1 := 28) rfl rfl rfl rfl (Nat.le_of_ble_eq_true rfl) (adr_lt (Nat.le_of_ble_eq_true rfl)) dX4_draw_18 ?_
    refine r_iload_n E x1 rfl dX4_draw_21 ?_
    obtain ⟨i2, hw⟩ := hw
    refine r_iald E rfl rfl rfl (Nat.le_of_ble_eq_true rfl) (adr_lt (Nat.le_of_ble_eq_true rfl)) i2 dX4_draw_22 ?_
    refine GG_topI fun v3 hv3 => ?_
    have hw := hw v3 hv3
    refine r_istore_n E [some (rf X 4 0), some (.int x1), some (.int v3)] rfl (Nat.le_of_ble_eq_true rfl) rfl dX4_draw_23 ?_
    refine r_aload_n E 4 0 rfl dX4_draw_24 ?_
    refine r_getJ E fd_X4_69 rfl (Nat.le_of_ble_eq_true rfl) (adr_lt (Nat.le_of_ble_eq_true rfl)) dX4_draw_25 ?_
    refine r_iload_n E v3 rfl dX4_draw_28 ?_
    refine r_callSNI E (m_X10_hasBit_ (EE_st E) (GX X) (gJ h 4 0 4) v3 h _ hw) lk_X4_38 (RM_mk (Nat.le_of_ble_eq_true rfl) (Nat.le_of_ble_eq_true rfl)) rfl rfl rfl rfl (Nat.le_of_ble_eq_true rfl) rfl rfl (Nat.le_of_ble_eq_true rfl) (Nat.le_of_ble_eq_true rfl) dX4_draw_29 (fun r4 u9 hw => ?_)
    obtain ⟨rfl, zr4, hw⟩ := hw
    refine r_if_eq E 60 (by decide) dX4_draw_32 (fun c5 => ?_) (fun c5 => ?_)
    · have hw := ite_t hw c5
      exact GG_weak [true, true, true] rfl (t_X4_draw_b60 h x1 v3 E hE P9 hP9  hw)
    · have hw := ite_f hw c5
      refine r_aload_n E 4 0 rfl dX4_draw_35 ?_
      refine r_getS E fd_X4_10 (t := 0) (j1 := 8) rfl rfl rfl rfl (Nat.le_of_ble_eq_true rfl) (adr_lt (Nat.le_of_ble_eq_true rfl)) dX4_draw_36 ?_
      refine r_aload_n E 4 0 rfl dX4_draw_39 ?_
      refine r_getS E fd_X4_22 (t := 0) (j1 := 9) rfl rfl rfl rfl (Nat.le_of_ble_eq_true rfl) (adr_lt (Nat.le_of_ble_eq_true rfl)) dX4_draw_40 ?_
      refine r_getSN E fd_X4_44 (t := 0) (j1 := 12) rfl rfl rfl rfl (Nat.le_of_ble_eq_true rfl) (adr_lt (Nat.le_of_ble_eq_true rfl)) dX4_draw_43 ?_
      refine r_iload_n E v3 rfl dX4_draw_46 ?_
      obtain ⟨i6, hw⟩ := hw
      refine r_cald E rfl rfl rfl (Nat.le_of_ble_eq_true rfl) (adr_lt (Nat.le_of_ble_eq_true rfl)) i6 dX4_draw_47 ?_
      refine r_aload_n E 4 0 rfl dX4_draw_48 ?_
      refine r_getS E fd_X4_22 (t := 0) (j1 := 9) rfl rfl rfl rfl (Nat.le_of_ble_eq_true rfl) (adr_lt (Nat.le_of_ble_eq_true rfl)) dX4_draw_49 ?_
      refine r_getSN E fd_X4_52 (t := 0) (j1 := 13) rfl rfl rfl rfl (Nat.le_of_ble_eq_true rfl) (adr_lt (Nat.le_of_ble_eq_true rfl)) dX4_draw_52 ?_
      refine r_iload_n E v3 rfl dX4_draw_55 ?_
      refine r_iald E rfl rfl rfl (Nat.le_of_ble_eq_true rfl) (adr_lt (Nat.le_of_ble_eq_true rfl)) i6 dX4_draw_56 ?_
      refine r_callVV E (m_X8_addHolding (EE_st E) (GX X) (gI h 12 0 v3.toNatClampNeg) (gI h 13 0 v3.toNatClampNeg) h _ hw) lk_X4_113 (RM_mk (Nat.le_of_ble_eq_true rfl) (Nat.le_of_ble_eq_true rfl)) rfl rfl rfl rfl (Nat.le_of_ble_eq_true rfl) (adr_lt (Nat.le_of_ble_eq_true rfl)) (Nat.le_of_ble_eq_true rfl) rfl rfl (Nat.le_of_ble_eq_true rfl) (Nat.le_of_ble_eq_true rfl) dX4_draw_57 (fun h7 hw => ?_)
      exact GG_weak [true, true, true] rfl (t_X4_draw_b60 h7 x1 v3 E hE P9 hP9  hw)
set_option maxRecDepth 20000 in
theorem t_X4_draw_b9 {X : Ctx} (h : Hp) (x1 : Int32)  (E : EE X cX4_draw RX4 3 2 62 0 0) {Q : Hp → Prop} (hE : ENDv X cX4_draw Q NT 0 0)  (hw : wp_X4_draw_b9 x1 h  Q) : GG X 0 0 NT h [some (rf X 4 0), some (.int x1), none] 9 [] :=
  hw (fun y1 u => GG X 0 0 NT u [some (rf X 4 0), some (.int y1), none] 9 []) (fun y1 u hq => t_X4_draw_b9F u y1  E hE  (fun y1 u => GG X 0 0 NT u [some (rf X 4 0), some (.int y1), none] 9 []) (fun y1 u q => q) hq)
set_option maxRecDepth 20000 in
theorem m_X4_draw {l : Launch} (hl : l.stackTraces = false) (G : Gq)   (h : Hp) (Q : Hp → Prop) (hw : wp_X4_draw  h Q) : MV l G yX4_draw cX4_draw 3 none rm_X4_draw NT NT h (fun r => [r 4 0]) Q := by
  refine MV_of (L0 := (fun X => [some (rf X 4 0), none, none])) hl (by decide +kernel) rfl (fun _ => Nat.le_of_ble_eq_true rfl) (fun _ => rfl) fun X hXl hXG E hE => ?_
  subst hXl; subst hXG
  unfold wp_X4_draw at hw
  refine r_aload_n E 4 0 rfl dX4_draw_0 ?_
  refine r_getS E fd_X4_10 (t := 0) (j1 := 8) rfl rfl rfl rfl (Nat.le_of_ble_eq_true rfl) (adr_lt (Nat.le_of_ble_eq_true rfl)) dX4_draw_1 ?_
  refine r_callVV E (m_X8_blank (EE_st E) (GX X)  h _ hw) lk_X4_110 (RM_mk (Nat.le_of_ble_eq_true rfl) (Nat.le_of_ble_eq_true rfl)) rfl rfl rfl rfl (Nat.le_of_ble_eq_true rfl) (adr_lt (Nat.le_of_ble_eq_true rfl)) (Nat.le_of_ble_eq_true rfl) rfl rfl (Nat.le_of_ble_eq_true rfl) (Nat.le_of_ble_eq_true rfl) dX4_draw_4 (fun h1 hw => ?_)
  refine r_iconst E 0 rfl dX4_draw_7 ?_
  refine r_istore_n E [some (rf X 4 0), some (.int 0), none] rfl (Nat.le_of_ble_eq_true rfl) rfl dX4_draw_8 ?_
  exact GG_weak [true, true, false] rfl (t_X4_draw_b9 h1 0 E hE  hw)
set_option maxRecDepth 20000 in
theorem m_X8_hasMail {l : Launch} (hl : l.stackTraces = false) (G : Gq)   (h : Hp) (Q : Int32 → Hp → Prop) (hw : wp_X8_hasMail  h Q) : MI l G yX8_hasMail cX8_hasMail 1 (some .boolean) rm_X8_hasMail NT NT h (fun r => [r 8 0]) (fun r u => isB r ∧ Q r u) := by
  refine MI_of (L0 := (fun X => [some (rf X 8 0)])) hl (by decide +kernel) rfl (fun _ => Nat.le_of_ble_eq_true rfl) (fun _ => rfl) fun X hXl hXG E hE => ?_
  subst hXl; subst hXG
  unfold wp_X8_hasMail at hw
  refine r_aload_n E 8 0 rfl dX8_hasMail_0 ?_
  refine r_aload_n E 8 0 rfl dX8_hasMail_1 ?_
  refine r_getI E fd_X8_30 rfl (Nat.le_of_ble_eq_true rfl) (adr_lt (Nat.le_of_ble_eq_true rfl)) dX8_hasMail_2 ?_
  refine r_aload_n E 8 0 rfl dX8_hasMail_5 ?_
  refine r_getI E fd_X8_24 rfl (Nat.le_of_ble_eq_true rfl) (adr_lt (Nat.le_of_ble_eq_true rfl)) dX8_hasMail_6 ?_
  refine r_callSI E (m_J6_bitCount_0f7a4 (EE_st E) (GX X) (gI h 8 0 4) h _ hw) lk_X8_57 (RM_mk (Nat.le_of_ble_eq_true rfl) (Nat.le_of_ble_eq_true rfl)) rfl rfl rfl rfl (Nat.le_of_ble_eq_true rfl) rfl rfl (Nat.le_of_ble_eq_true rfl) (Nat.le_of_ble_eq_true rfl) dX8_hasMail_9 (fun r1 u9 hw => ?_)
  obtain ⟨rfl, hw⟩ := hw
  refine r_mmax E lk_X8_48 lm_max.1 lm_max.2.1 lm_max.2.2 rfl (Nat.le_of_ble_eq_true rfl) (Nat.le_of_ble_eq_true rfl) (Nat.zero_le _) (Nat.zero_le _) dX8_hasMail_12 ?_
  refine r_putI E fd_X8_63 rfl PI_int (Nat.le_of_ble_eq_true rfl) (adr_lt (Nat.le_of_ble_eq_true rfl)) rfl dX8_hasMail_15 ?_
  refine GG_toph fun h2 hh2 => ?_
  have hw := hw h2 hh2
  refine r_aload_n E 8 0 rfl dX8_hasMail_18 ?_
  refine r_aload_n E 8 0 rfl dX8_hasMail_19 ?_
  refine r_getI E fd_X8_33 rfl (Nat.le_of_ble_eq_true rfl) (adr_lt (Nat.le_of_ble_eq_true rfl)) dX8_hasMail_20 ?_
  refine r_bipush E 10 rfl dX8_hasMail_23 ?_
  refine r_aload_n E 8 0 rfl dX8_hasMail_25 ?_
  refine r_getI E fd_X8_27 rfl (Nat.le_of_ble_eq_true rfl) (adr_lt (Nat.le_of_ble_eq_true rfl)) dX8_hasMail_26 ?_
  refine r_callSI E (m_J6_bitCount_0f7a4 (EE_st E) (GX X) (gI h2 8 0 5) h2 _ hw) lk_X8_57 (RM_mk (Nat.le_of_ble_eq_true rfl) (Nat.le_of_ble_eq_true rfl)) rfl rfl rfl rfl (Nat.le_of_ble_eq_true rfl) rfl rfl (Nat.le_of_ble_eq_true rfl) (Nat.le_of_ble_eq_true rfl) dX8_hasMail_29 (fun r3 u9 hw => ?_)
  obtain ⟨rfl, hw⟩ := hw
  refine r_isub E dX8_hasMail_32 ?_
  refine r_mmin E lk_X8_54 lm_min.1 lm_min.2.1 lm_min.2.2 rfl (Nat.le_of_ble_eq_true rfl) (Nat.le_of_ble_eq_true rfl) (Nat.zero_le _) (Nat.zero_le _) dX8_hasMail_33 ?_
  refine r_putI E fd_X8_66 rfl PI_int (Nat.le_of_ble_eq_true rfl) (adr_lt (Nat.le_of_ble_eq_true rfl)) rfl dX8_hasMail_36 ?_
  refine GG_toph fun h4 hh4 => ?_
  have hw := hw h4 hh4
  refine r_aload_n E 8 0 rfl dX8_hasMail_39 ?_
  refine r_getI E fd_X8_9 rfl (Nat.le_of_ble_eq_true rfl) (adr_lt (Nat.le_of_ble_eq_true rfl)) dX8_hasMail_40 ?_
  refine r_if_eq E 115 (by decide) dX8_hasMail_43 (fun c5 => ?_) (fun c5 => ?_)
  · have hw := ite_t hw c5
    refine r_iconst E 0 rfl dX8_hasMail_115 ?_
    exact hE _ _ _ _ _ _ (Nat.le_of_ble_eq_true rfl) (Nat.le_of_ble_eq_true rfl) dX8_hasMail_116 (isB_nar isB_0) ⟨isB_0, hw⟩
  · have hw := ite_f hw c5
    refine r_aload_n E 8 0 rfl dX8_hasMail_46 ?_
    refine r_getI E fd_X8_15 rfl (Nat.le_of_ble_eq_true rfl) (adr_lt (Nat.le_of_ble_eq_true rfl)) dX8_hasMail_47 ?_
    refine r_if_eq E 115 (by decide) dX8_hasMail_50 (fun c6 => ?_) (fun c6 => ?_)
    · have hw := ite_t hw c6
      refine r_iconst E 0 rfl dX8_hasMail_115 ?_
      exact hE _ _ _ _ _ _ (Nat.le_of_ble_eq_true rfl) (Nat.le_of_ble_eq_true rfl) dX8_hasMail_116 (isB_nar isB_0) ⟨isB_0, hw⟩
    · have hw := ite_f hw c6
      refine r_aload_n E 8 0 rfl dX8_hasMail_53 ?_
      refine r_getI E fd_X8_18 rfl (Nat.le_of_ble_eq_true rfl) (adr_lt (Nat.le_of_ble_eq_true rfl)) dX8_hasMail_54 ?_
      refine r_aload_n E 8 0 rfl dX8_hasMail_57 ?_
      refine r_getI E fd_X8_21 rfl (Nat.le_of_ble_eq_true rfl) (adr_lt (Nat.le_of_ble_eq_true rfl)) dX8_hasMail_58 ?_
      refine r_icmp_gt E 115 (by decide) dX8_hasMail_61 (fun c7 => ?_) (fun c7 => ?_)
      · have hw := ite_t hw c7
        refine r_iconst E 0 rfl dX8_hasMail_115 ?_
        exact hE _ _ _ _ _ _ (Nat.le_of_ble_eq_true rfl) (Nat.le_of_ble_eq_true rfl) dX8_hasMail_116 (isB_nar isB_0) ⟨isB_0, hw⟩
      · have hw := ite_f hw c7
        refine r_aload_n E 8 0 rfl dX8_hasMail_64 ?_
        refine r_getI E fd_X8_24 rfl (Nat.le_of_ble_eq_true rfl) (adr_lt (Nat.le_of_ble_eq_true rfl)) dX8_hasMail_65 ?_
        refine r_aload_n E 8 0 rfl dX8_hasMail_68 ?_
        refine r_getI E fd_X8_27 rfl (Nat.le_of_ble_eq_true rfl) (adr_lt (Nat.le_of_ble_eq_true rfl)) dX8_hasMail_69 ?_
        refine r_iand E dX8_hasMail_72 ?_
        refine r_if_ne E 115 (by decide) dX8_hasMail_73 (fun c8 => ?_) (fun c8 => ?_)
        · have hw := ite_t hw c8
          refine r_aload_n E 8 0 rfl dX8_hasMail_76 ?_
          refine r_getI E fd_X8_63 rfl (Nat.le_of_ble_eq_true rfl) (adr_lt (Nat.le_of_ble_eq_true rfl)) dX8_hasMail_77 ?_
          refine r_aload_n E 8 0 rfl dX8_hasMail_80 ?_
          refine r_getI E fd_X8_66 rfl (Nat.le_of_ble_eq_true rfl) (adr_lt (Nat.le_of_ble_eq_true rfl)) dX8_hasMail_81 ?_
          refine r_icmp_gt E 115 (by decide) dX8_hasMail_84 (fun c9 => ?_) (fun c9 => ?_)
          · have hw := ite_t hw c9
            refine r_iconst E 0 rfl dX8_hasMail_115 ?_
            exact hE _ _ _ _ _ _ (Nat.le_of_ble_eq_true rfl) (Nat.le_of_ble_eq_true rfl) dX8_hasMail_116 (isB_nar isB_0) ⟨isB_0, hw⟩
          · have hw := ite_f hw c9
            refine r_aload_n E 8 0 rfl dX8_hasMail_87 ?_
            refine r_getI E fd_X8_36 rfl (Nat.le_of_ble_eq_true rfl) (adr_lt (Nat.le_of_ble_eq_true rfl)) dX8_hasMail_88 ?_
            refine r_aload_n E 8 0 rfl dX8_hasMail_91 ?_
            refine r_getI E fd_X8_39 rfl (Nat.le_of_ble_eq_true rfl) (adr_lt (Nat.le_of_ble_eq_true rfl)) dX8_hasMail_92 ?_
            refine r_iand E dX8_hasMail_95 ?_
            refine r_if_ne E 115 (by decide) dX8_hasMail_96 (fun c10 => ?_) (fun c10 => ?_)
            · have hw := ite_t hw c10
              refine r_aload_n E 8 0 rfl dX8_hasMail_99 ?_
              refine r_getI E fd_X8_42 rfl (Nat.le_of_ble_eq_true rfl) (adr_lt (Nat.le_of_ble_eq_true rfl)) dX8_hasMail_100 ?_
              refine r_aload_n E 8 0 rfl dX8_hasMail_103 ?_
              refine r_getI E fd_X8_45 rfl (Nat.le_of_ble_eq_true rfl) (adr_lt (Nat.le_of_ble_eq_true rfl)) dX8_hasMail_104 ?_
              refine r_iand E dX8_hasMail_107 ?_
              refine r_if_ne E 115 (by decide) dX8_hasMail_108 (fun c11 => ?_) (fun c11 => ?_)
              · have hw := ite_t hw c11
                refine r_iconst E 1 rfl dX8_hasMail_111 ?_
                refine r_goto E 116 (by decide) dX8_hasMail_112 ?_
                exact hE _ _ _ _ _ _ (Nat.le_of_ble_eq_true rfl) (Nat.le_of_ble_eq_true rfl) dX8_hasMail_116 (isB_nar isB_1) ⟨isB_1, hw⟩
              · have hw := ite_f hw c11
                refine r_iconst E 0 rfl dX8_hasMail_115 ?_
                exact hE _ _ _ _ _ _ (Nat.le_of_ble_eq_true rfl) (Nat.le_of_ble_eq_true rfl) dX8_hasMail_116 (isB_nar isB_0) ⟨isB_0, hw⟩
            · have hw := ite_f hw c10
              refine r_iconst E 0 rfl dX8_hasMail_115 ?_
              exact hE _ _ _ _ _ _ (Nat.le_of_ble_eq_true rfl) (Nat.le_of_ble_eq_true rfl) dX8_hasMail_116 (isB_nar isB_0) ⟨isB_0, hw⟩
        · have hw := ite_f hw c8
          refine r_iconst E 0 rfl dX8_hasMail_115 ?_
          exact hE _ _ _ _ _ _ (Nat.le_of_ble_eq_true rfl) (Nat.le_of_ble_eq_true rfl) dX8_hasMail_116 (isB_nar isB_0) ⟨isB_0, hw⟩
set_option maxRecDepth 20000 in
theorem t_X4_noteMay_b44 {X : Ctx} (h : Hp) (x3 : Int32) (x4 : Int64) (x6 : Int64)  (E : EE X cX4_noteMay RX4 8 1 24 0 0) {Q : Hp → Prop} (hE : ENDv X cX4_noteMay Q NT 0 0)  (hw : wp_X4_noteMay_b44 x3 x4 x6 h  Q) : GG X 0 0 NT h [some (rf X 4 0), none, none, some (.int x3), some (.long x4), none, some (.long x6), none] 44 [] := by
  unfold wp_X4_noteMay_b44 at hw
  refine r_iload_n E x3 rfl dX4_noteMay_44 ?_
  refine r_if_eq E 71 (by decide) dX4_noteMay_45 (fun c1 => ?_) (fun c1 => ?_)
  · have hw := ite_t hw c1
    exact hE _ _ _ _ _ (Nat.le_of_ble_eq_true rfl) (Nat.le_of_ble_eq_true rfl) dX4_noteMay_71 hw
  · have hw := ite_f hw c1
    refine r_lload E x6 rfl dX4_noteMay_48 ?_
    refine r_aload_n E 4 0 rfl dX4_noteMay_50 ?_
    refine r_getJ E fd_X4_69 rfl (Nat.le_of_ble_eq_true rfl) (adr_lt (Nat.le_of_ble_eq_true rfl)) dX4_noteMay_51 ?_
    refine r_land E dX4_noteMay_54 ?_
    refine r_lconst E 0 rfl dX4_noteMay_55 ?_
    refine r_lcmp_ne E 71 (by decide) dX4_noteMay_56 dX4_noteMay_57 (fun c2 => ?_) (fun c2 => ?_)
    · have hw := ite_t hw c2
      refine r_aload_n E 4 0 rfl dX4_noteMay_60 ?_
      refine r_dup E rfl dX4_noteMay_61 ?_
      refine r_getJ E fd_X4_92 rfl (Nat.le_of_ble_eq_true rfl) (adr_lt (Nat.le_of_ble_eq_true rfl)) dX4_noteMay_62 ?_
      refine r_lload E x4 rfl dX4_noteMay_65 ?_
      refine r_lor E dX4_noteMay_67 ?_
      refine r_putJ E fd_X4_92 rfl rfl (Nat.le_of_ble_eq_true rfl) (adr_lt (Nat.le_of_ble_eq_true rfl)) rfl dX4_noteMay_68 ?_
      refine GG_toph fun h3 hh3 => ?_
      have hw := hw h3 hh3
      exact hE _ _ _ _ _ (Nat.le_of_ble_eq_true rfl) (Nat.le_of_ble_eq_true rfl) dX4_noteMay_71 hw
    · have hw := ite_f hw c2
      exact hE _ _ _ _ _ (Nat.le_of_ble_eq_true rfl) (Nat.le_of_ble_eq_true rfl) dX4_noteMay_71 hw
set_option maxRecDepth 20000 in
theorem m_X4_noteMay {l : Launch} (hl : l.stackTraces = false) (G : Gq) (p0 : Int32) (p1 : Int32) (p2 : Int32)  (h : Hp) (Q : Hp → Prop) (hw : wp_X4_noteMay p0 p1 p2 h Q) : MV l G yX4_noteMay cX4_noteMay 8 none rm_X4_noteMay NT NT h (fun r => [r 4 0, .int p0, .int p1, .int p2]) Q := by
  refine MV_of (L0 := (fun X => [some (rf X 4 0), some (.int p0), some (.int p1), some (.int p2), none, none, none, none])) hl (by decide +kernel) rfl (fun _ => Nat.le_of_ble_eq_true rfl) (fun _ => rfl) fun X hXl hXG E hE => ?_
  subst hXl; subst hXG
  unfold wp_X4_noteMay at hw
  refine r_lconst E 1 rfl dX4_noteMay_0 ?_
  refine r_iload_n E p0 rfl dX4_noteMay_1 ?_
  refine r_lshl E dX4_noteMay_2 ?_
  refine GG_topJ fun v1 hv1 => ?_
  have hw := hw v1 hv1
  refine r_lstore E [some (rf X 4 0), some (.int p0), some (.int p1), some (.int p2), some (.long v1), none, none, none] (Nat.le_of_ble_eq_true rfl) rfl dX4_noteMay_3 ?_
  refine r_aload_n E 4 0 rfl dX4_noteMay_5 ?_
  refine r_getS E fd_X4_22 (t := 0) (j1 := 9) rfl rfl rfl rfl (Nat.le_of_ble_eq_true rfl) (adr_lt (Nat.le_of_ble_eq_true rfl)) dX4_noteMay_6 ?_
  refine r_getJ E fd_X4_136 rfl (Nat.le_of_ble_eq_true rfl) (adr_lt (Nat.le_of_ble_eq_true rfl)) dX4_noteMay_9 ?_
  refine r_lload E v1 rfl dX4_noteMay_12 ?_
  refine r_land E dX4_noteMay_14 ?_
  refine GG_topJ fun v2 hv2 => ?_
  have hw := hw v2 hv2
  refine r_lstore E [some (rf X 4 0), some (.int p0), some (.int p1), some (.int p2), some (.long v1), none, some (.long v2), none] (Nat.le_of_ble_eq_true rfl) rfl dX4_noteMay_15 ?_
  refine r_iload_n E p1 rfl dX4_noteMay_17 ?_
  refine r_if_eq E 44 (by decide) dX4_noteMay_18 (fun c3 => ?_) (fun c3 => ?_)
  · have hw := ite_t hw c3
    exact GG_weak [true, false, false, true, true, false, true, false] rfl (t_X4_noteMay_b44 h p2 v1 v2 E hE  hw)
  · have hw := ite_f hw c3
    refine r_lload E v2 rfl dX4_noteMay_21 ?_
    refine r_aload_n E 4 0 rfl dX4_noteMay_23 ?_
    refine r_getJ E fd_X4_73 rfl (Nat.le_of_ble_eq_true rfl) (adr_lt (Nat.le_of_ble_eq_true rfl)) dX4_noteMay_24 ?_
    refine r_land E dX4_noteMay_27 ?_
    refine r_lconst E 0 rfl dX4_noteMay_28 ?_
    refine r_lcmp_ne E 44 (by decide) dX4_noteMay_29 dX4_noteMay_30 (fun c4 => ?_) (fun c4 => ?_)
    · have hw := ite_t hw c4
      refine r_aload_n E 4 0 rfl dX4_noteMay_33 ?_
      refine r_dup E rfl dX4_noteMay_34 ?_
      refine r_getJ E fd_X4_84 rfl (Nat.le_of_ble_eq_true rfl) (adr_lt (Nat.le_of_ble_eq_true rfl)) dX4_noteMay_35 ?_
      refine r_lload E v1 rfl dX4_noteMay_38 ?_
      refine r_lor E dX4_noteMay_40 ?_
      refine r_putJ E fd_X4_84 rfl rfl (Nat.le_of_ble_eq_true rfl) (adr_lt (Nat.le_of_ble_eq_true rfl)) rfl dX4_noteMay_41 ?_
      refine GG_toph fun h5 hh5 => ?_
      have hw := hw h5 hh5
      exact GG_weak [true, false, false, true, true, false, true, false] rfl (t_X4_noteMay_b44 h5 p2 v1 v2 E hE  hw)
    · have hw := ite_f hw c4
      exact GG_weak [true, false, false, true, true, false, true, false] rfl (t_X4_noteMay_b44 h p2 v1 v2 E hE  hw)
set_option maxRecDepth 20000 in
theorem t_X4_noteSure_b20 {X : Ctx} (h : Hp) (x3 : Int32) (x4 : Int64)  (E : EE X cX4_noteSure RX4 6 1 24 0 0) {Q : Hp → Prop} (hE : ENDv X cX4_noteSure Q NT 0 0)  (hw : wp_X4_noteSure_b20 x3 x4 h  Q) : GG X 0 0 NT h [some (rf X 4 0), none, none, some (.int x3), some (.long x4), none] 20 [] := by
  unfold wp_X4_noteSure_b20 at hw
  refine r_iload_n E x3 rfl dX4_noteSure_20 ?_
  refine r_if_eq E 35 (by decide) dX4_noteSure_21 (fun c1 => ?_) (fun c1 => ?_)
  · have hw := ite_t hw c1
    exact hE _ _ _ _ _ (Nat.le_of_ble_eq_true rfl) (Nat.le_of_ble_eq_true rfl) dX4_noteSure_35 hw
  · have hw := ite_f hw c1
    refine r_aload_n E 4 0 rfl dX4_noteSure_24 ?_
    refine r_dup E rfl dX4_noteSure_25 ?_
    refine r_getJ E fd_X4_95 rfl (Nat.le_of_ble_eq_true rfl) (adr_lt (Nat.le_of_ble_eq_true rfl)) dX4_noteSure_26 ?_
    refine r_lload E x4 rfl dX4_noteSure_29 ?_
    refine r_lor E dX4_noteSure_31 ?_
    refine r_putJ E fd_X4_95 rfl rfl (Nat.le_of_ble_eq_true rfl) (adr_lt (Nat.le_of_ble_eq_true rfl)) rfl dX4_noteSure_32 ?_
    refine GG_toph fun h2 hh2 => ?_
    have hw := hw h2 hh2
    exact hE _ _ _ _ _ (Nat.le_of_ble_eq_true rfl) (Nat.le_of_ble_eq_true rfl) dX4_noteSure_35 hw
set_option maxRecDepth 20000 in
theorem m_X4_noteSure {l : Launch} (hl : l.stackTraces = false) (G : Gq) (p0 : Int32) (p1 : Int32) (p2 : Int32)  (h : Hp) (Q : Hp → Prop) (hw : wp_X4_noteSure p0 p1 p2 h Q) : MV l G yX4_noteSure cX4_noteSure 6 none rm_X4_noteSure NT NT h (fun r => [r 4 0, .int p0, .int p1, .int p2]) Q := by
  refine MV_of (L0 := (fun X => [some (rf X 4 0), some (.int p0), some (.int p1), some (.int p2), none, none])) hl (by decide +kernel) rfl (fun _ => Nat.le_of_ble_eq_true rfl) (fun _ => rfl) fun X hXl hXG E hE => ?_
  subst hXl; subst hXG
  unfold wp_X4_noteSure at hw
  refine r_lconst E 1 rfl dX4_noteSure_0 ?_
  refine r_iload_n E p0 rfl dX4_noteSure_1 ?_
  refine r_lshl E dX4_noteSure_2 ?_
  refine GG_topJ fun v1 hv1 => ?_
  have hw := hw v1 hv1
  refine r_lstore E [some (rf X 4 0), some (.int p0), some (.int p1), some (.int p2), some (.long v1), none] (Nat.le_of_ble_eq_true rfl) rfl dX4_noteSure_3 ?_
  refine r_iload_n E p1 rfl dX4_noteSure_5 ?_
  refine r_if_eq E 20 (by decide) dX4_noteSure_6 (fun c2 => ?_) (fun c2 => ?_)
  · have hw := ite_t hw c2
    exact GG_weak [true, false, false, true, true, false] rfl (t_X4_noteSure_b20 h p2 v1 E hE  hw)
  · have hw := ite_f hw c2
    refine r_aload_n E 4 0 rfl dX4_noteSure_9 ?_
    refine r_dup E rfl dX4_noteSure_10 ?_
    refine r_getJ E fd_X4_87 rfl (Nat.le_of_ble_eq_true rfl) (adr_lt (Nat.le_of_ble_eq_true rfl)) dX4_noteSure_11 ?_
    refine r_lload E v1 rfl dX4_noteSure_14 ?_
    refine r_lor E dX4_noteSure_16 ?_
    refine r_putJ E fd_X4_87 rfl rfl (Nat.le_of_ble_eq_true rfl) (adr_lt (Nat.le_of_ble_eq_true rfl)) rfl dX4_noteSure_17 ?_
    refine GG_toph fun h3 hh3 => ?_
    have hw := hw h3 hh3
    exact GG_weak [true, false, false, true, true, false] rfl (t_X4_noteSure_b20 h3 p2 v1 E hE  hw)
set_option maxRecDepth 20000 in
theorem m_X4_hasEither {l : Launch} (hl : l.stackTraces = false) (G : Gq) (p0 : Int64) (p1 : Int32) (p2 : Int32)  (h : Hp) (Q : Int32 → Prop) (hw : wp_X4_hasEither p0 p1 p2 h Q) : MI l G yX4_hasEither cX4_hasEither 4 (some .boolean) rm_X4_hasEither NT NT h (fun r => [.long p0, .int p1, .int p2]) (fun r u => h = u ∧ isB r ∧ Q r) := by
  refine MI_of (L0 := (fun X => [some (.long p0), none, some (.int p1), some (.int p2)])) hl (by decide +kernel) rfl (fun _ => Nat.le_of_ble_eq_true rfl) (fun _ => rfl) fun X hXl hXG E hE => ?_
  subst hXl; subst hXG
  unfold wp_X4_hasEither at hw
  refine r_lload_n E p0 rfl dX4_hasEither_0 ?_
  refine r_iload_n E p1 rfl dX4_hasEither_1 ?_
  refine r_callSNI E (m_X10_hasBit_ (EE_st E) (GX X) p0 p1 h _ hw) lk_X4_38 (RM_mk (Nat.le_of_ble_eq_true rfl) (Nat.le_of_ble_eq_true rfl)) rfl rfl rfl rfl (Nat.le_of_ble_eq_true rfl) rfl rfl (Nat.le_of_ble_eq_true rfl) (Nat.le_of_ble_eq_true rfl) dX4_hasEither_2 (fun r1 u9 hw => ?_)
  obtain ⟨rfl, zr1, hw⟩ := hw
  refine r_if_ne E 16 (by decide) dX4_hasEither_5 (fun c2 => ?_) (fun c2 => ?_)
  · have hw := ite_t hw c2
    refine r_lload_n E p0 rfl dX4_hasEither_8 ?_
    refine r_iload_n E p2 rfl dX4_hasEither_9 ?_
    refine r_callSNI E (m_X10_hasBit_ (EE_st E) (GX X) p0 p2 h _ hw) lk_X4_38 (RM_mk (Nat.le_of_ble_eq_true rfl) (Nat.le_of_ble_eq_true rfl)) rfl rfl rfl rfl (Nat.le_of_ble_eq_true rfl) rfl rfl (Nat.le_of_ble_eq_true rfl) (Nat.le_of_ble_eq_true rfl) dX4_hasEither_10 (fun r3 u9 hw => ?_)
    obtain ⟨rfl, zr3, hw⟩ := hw
    refine r_if_eq E 20 (by decide) dX4_hasEither_13 (fun c4 => ?_) (fun c4 => ?_)
    · have hw := ite_t hw c4
      refine r_iconst E 0 rfl dX4_hasEither_20 ?_
      exact hE _ _ _ _ _ _ (Nat.le_of_ble_eq_true rfl) (Nat.le_of_ble_eq_true rfl) dX4_hasEither_21 (isB_nar isB_0) ⟨rfl, isB_0, hw⟩
    · have hw := ite_f hw c4
      refine r_iconst E 1 rfl dX4_hasEither_16 ?_
      refine r_goto E 21 (by decide) dX4_hasEither_17 ?_
      exact hE _ _ _ _ _ _ (Nat.le_of_ble_eq_true rfl) (Nat.le_of_ble_eq_true rfl) dX4_hasEither_21 (isB_nar isB_1) ⟨rfl, isB_1, hw⟩
  · have hw := ite_f hw c2
    refine r_iconst E 1 rfl dX4_hasEither_16 ?_
    refine r_goto E 21 (by decide) dX4_hasEither_17 ?_
    exact hE _ _ _ _ _ _ (Nat.le_of_ble_eq_true rfl) (Nat.le_of_ble_eq_true rfl) dX4_hasEither_21 (isB_nar isB_1) ⟨rfl, isB_1, hw⟩
set_option maxRecDepth 20000 in
theorem m_X8_mayHold {l : Launch} (hl : l.stackTraces = false) (G : Gq) (p0 : Int32) (p1 : Int32)  (h : Hp) (Q : Int32 → Prop) (hw : wp_X8_mayHold p0 p1 h Q) : MI l G yX8_mayHold cX8_mayHold 3 (some .boolean) rm_X8_mayHold NT NT h (fun r => [r 8 0, .int p0, .int p1]) (fun r u => h = u ∧ isB r ∧ Q r) := by
  refine MI_of (L0 := (fun X => [some (rf X 8 0), some (.int p0), some (.int p1)])) hl (by decide +kernel) rfl (fun _ => Nat.le_of_ble_eq_true rfl) (fun _ => rfl) fun X hXl hXG E hE => ?_
  subst hXl; subst hXG
  unfold wp_X8_mayHold at hw
  refine r_iload_n E p0 rfl dX8_mayHold_0 ?_
  rcases Decidable.em (p0 = 98) with c1 | c1
  · have hw := ite_t hw c1
    refine r_tableI E 98 c1 (off := 183) 184 dX8_mayHold_1 (by decide) (by decide) rfl (by decide) ?_
    refine r_aload_n E 8 0 rfl dX8_mayHold_184 ?_
    refine r_getI E fd_X8_45 rfl (Nat.le_of_ble_eq_true rfl) (adr_lt (Nat.le_of_ble_eq_true rfl)) dX8_mayHold_185 ?_
    refine r_iload_n E p1 rfl dX8_mayHold_188 ?_
    refine r_callSNI E (m_X10_hasBit (EE_st E) (GX X) (gI h 8 0 13) p1 h _ hw) lk_X8_69 (RM_mk (Nat.le_of_ble_eq_true rfl) (Nat.le_of_ble_eq_true rfl)) rfl rfl rfl rfl (Nat.le_of_ble_eq_true rfl) rfl rfl (Nat.le_of_ble_eq_true rfl) (Nat.le_of_ble_eq_true rfl) dX8_mayHold_189 (fun r2 u9 hw => ?_)
    obtain ⟨rfl, zr2, hw⟩ := hw
    refine r_if_ne E 199 (by decide) dX8_mayHold_192 (fun c3 => ?_) (fun c3 => ?_)
    · have hw := ite_t hw c3
      refine r_iconst E 1 rfl dX8_mayHold_195 ?_
      refine r_goto E 200 (by decide) dX8_mayHold_196 ?_
      exact hE _ _ _ _ _ _ (Nat.le_of_ble_eq_true rfl) (Nat.le_of_ble_eq_true rfl) dX8_mayHold_200 (isB_nar isB_1) ⟨rfl, isB_1, hw⟩
    · have hw := ite_f hw c3
      refine r_iconst E 0 rfl dX8_mayHold_199 ?_
      exact hE _ _ _ _ _ _ (Nat.le_of_ble_eq_true rfl) (Nat.le_of_ble_eq_true rfl) dX8_mayHold_200 (isB_nar isB_0) ⟨rfl, isB_0, hw⟩
  · have hw := ite_f hw c1
    rcases Decidable.em (p0 = 100) with c4 | c4
    · have hw := ite_t hw c4
      refine r_tableI E 100 c4 (off := 214) 215 dX8_mayHold_1 (by decide) (by decide) rfl (by decide) ?_
      refine r_aload_n E 8 0 rfl dX8_mayHold_215 ?_
      refine r_getI E fd_X8_15 rfl (Nat.le_of_ble_eq_true rfl) (adr_lt (Nat.le_of_ble_eq_true rfl)) dX8_mayHold_216 ?_
      refine r_iload_n E p1 rfl dX8_mayHold_219 ?_
      refine r_callSNI E (m_X10_hasBit (EE_st E) (GX X) (gI h 8 0 1) p1 h _ hw) lk_X8_69 (RM_mk (Nat.le_of_ble_eq_true rfl) (Nat.le_of_ble_eq_true rfl)) rfl rfl rfl rfl (Nat.le_of_ble_eq_true rfl) rfl rfl (Nat.le_of_ble_eq_true rfl) (Nat.le_of_ble_eq_true rfl) dX8_mayHold_220 (fun r5 u9 hw => ?_)
      obtain ⟨rfl, zr5, hw⟩ := hw
      exact hE _ _ _ _ _ _ (Nat.le_of_ble_eq_true rfl) (Nat.le_of_ble_eq_true rfl) dX8_mayHold_223 (isB_nar zr5) ⟨rfl, zr5, hw⟩
    · have hw := ite_f hw c4
      rcases Decidable.em (p0 = 102) with c6 | c6
      · have hw := ite_t hw c6
        refine r_tableI E 102 c6 (off := 115) 116 dX8_mayHold_1 (by decide) (by decide) rfl (by decide) ?_
        refine r_aload_n E 8 0 rfl dX8_mayHold_116 ?_
        refine r_getI E fd_X8_9 rfl (Nat.le_of_ble_eq_true rfl) (adr_lt (Nat.le_of_ble_eq_true rfl)) dX8_mayHold_117 ?_
        refine r_iload_n E p1 rfl dX8_mayHold_120 ?_
        refine r_callSNI E (m_X10_hasBit (EE_st E) (GX X) (gI h 8 0 0) p1 h _ hw) lk_X8_69 (RM_mk (Nat.le_of_ble_eq_true rfl) (Nat.le_of_ble_eq_true rfl)) rfl rfl rfl rfl (Nat.le_of_ble_eq_true rfl) rfl rfl (Nat.le_of_ble_eq_true rfl) (Nat.le_of_ble_eq_true rfl) dX8_mayHold_121 (fun r7 u9 hw => ?_)
        obtain ⟨rfl, zr7, hw⟩ := hw
        exact hE _ _ _ _ _ _ (Nat.le_of_ble_eq_true rfl) (Nat.le_of_ble_eq_true rfl) dX8_mayHold_124 (isB_nar zr7) ⟨rfl, zr7, hw⟩
      · have hw := ite_f hw c6
        rcases Decidable.em (p0 = 110) with c8 | c8
        · have hw := ite_t hw c8
          refine r_tableI E 110 c8 (off := 223) 224 dX8_mayHold_1 (by decide) (by decide) rfl (by decide) ?_
          refine r_aload_n E 8 0 rfl dX8_mayHold_224 ?_
          refine r_getI E fd_X8_66 rfl (Nat.le_of_ble_eq_true rfl) (adr_lt (Nat.le_of_ble_eq_true rfl)) dX8_mayHold_225 ?_
          refine r_iload_n E p1 rfl dX8_mayHold_228 ?_
          refine r_icmp_lt E 236 (by decide) dX8_mayHold_229 (fun c9 => ?_) (fun c9 => ?_)
          · have hw := ite_t hw c9
            refine r_iconst E 0 rfl dX8_mayHold_236 ?_
            exact hE _ _ _ _ _ _ (Nat.le_of_ble_eq_true rfl) (Nat.le_of_ble_eq_true rfl) dX8_mayHold_237 (isB_nar isB_0) ⟨rfl, isB_0, hw⟩
          · have hw := ite_f hw c9
            refine r_iconst E 1 rfl dX8_mayHold_232 ?_
            refine r_goto E 237 (by decide) dX8_mayHold_233 ?_
            exact hE _ _ _ _ _ _ (Nat.le_of_ble_eq_true rfl) (Nat.le_of_ble_eq_true rfl) dX8_mayHold_237 (isB_nar isB_1) ⟨rfl, isB_1, hw⟩
        · have hw := ite_f hw c8
          rcases Decidable.em (p0 = 115) with c10 | c10
          · have hw := ite_t hw c10
            refine r_tableI E 115 c10 (off := 166) 167 dX8_mayHold_1 (by decide) (by decide) rfl (by decide) ?_
            refine r_aload_n E 8 0 rfl dX8_mayHold_167 ?_
            refine r_getI E fd_X8_39 rfl (Nat.le_of_ble_eq_true rfl) (adr_lt (Nat.le_of_ble_eq_true rfl)) dX8_mayHold_168 ?_
            refine r_iload_n E p1 rfl dX8_mayHold_171 ?_
            refine r_callSNI E (m_X10_hasBit (EE_st E) (GX X) (gI h 8 0 11) p1 h _ hw) lk_X8_69 (RM_mk (Nat.le_of_ble_eq_true rfl) (Nat.le_of_ble_eq_true rfl)) rfl rfl rfl rfl (Nat.le_of_ble_eq_true rfl) rfl rfl (Nat.le_of_ble_eq_true rfl) (Nat.le_of_ble_eq_true rfl) dX8_mayHold_172 (fun r11 u9 hw => ?_)
            obtain ⟨rfl, zr11, hw⟩ := hw
            refine r_if_ne E 182 (by decide) dX8_mayHold_175 (fun c12 => ?_) (fun c12 => ?_)
            · have hw := ite_t hw c12
              refine r_iconst E 1 rfl dX8_mayHold_178 ?_
              refine r_goto E 183 (by decide) dX8_mayHold_179 ?_
              exact hE _ _ _ _ _ _ (Nat.le_of_ble_eq_true rfl) (Nat.le_of_ble_eq_true rfl) dX8_mayHold_183 (isB_nar isB_1) ⟨rfl, isB_1, hw⟩
            · have hw := ite_f hw c12
              refine r_iconst E 0 rfl dX8_mayHold_182 ?_
              exact hE _ _ _ _ _ _ (Nat.le_of_ble_eq_true rfl) (Nat.le_of_ble_eq_true rfl) dX8_mayHold_183 (isB_nar isB_0) ⟨rfl, isB_0, hw⟩
          · have hw := ite_f hw c10
            rcases Decidable.em (p0 = 116) with c13 | c13
            · have hw := ite_t hw c13
              refine r_tableI E 116 c13 (off := 124) 125 dX8_mayHold_1 (by decide) (by decide) rfl (by decide) ?_
              refine r_aload_n E 8 0 rfl dX8_mayHold_125 ?_
              refine r_getI E fd_X8_24 rfl (Nat.le_of_ble_eq_true rfl) (adr_lt (Nat.le_of_ble_eq_true rfl)) dX8_mayHold_126 ?_
              refine r_iload_n E p1 rfl dX8_mayHold_129 ?_
              refine r_callSNI E (m_X10_hasBit (EE_st E) (GX X) (gI h 8 0 4) p1 h _ hw) lk_X8_69 (RM_mk (Nat.le_of_ble_eq_true rfl) (Nat.le_of_ble_eq_true rfl)) rfl rfl rfl rfl (Nat.le_of_ble_eq_true rfl) rfl rfl (Nat.le_of_ble_eq_true rfl) (Nat.le_of_ble_eq_true rfl) dX8_mayHold_130 (fun r14 u9 hw => ?_)
              obtain ⟨rfl, zr14, hw⟩ := hw
              refine r_if_ne E 161 (by decide) dX8_mayHold_133 (fun c15 => ?_) (fun c15 => ?_)
              · have hw := ite_t hw c15
                refine r_aload_n E 8 0 rfl dX8_mayHold_136 ?_
                refine r_getI E fd_X8_27 rfl (Nat.le_of_ble_eq_true rfl) (adr_lt (Nat.le_of_ble_eq_true rfl)) dX8_mayHold_137 ?_
                refine r_iload_n E p1 rfl dX8_mayHold_140 ?_
                refine r_callSNI E (m_X10_hasBit (EE_st E) (GX X) (gI h 8 0 5) p1 h _ hw) lk_X8_69 (RM_mk (Nat.le_of_ble_eq_true rfl) (Nat.le_of_ble_eq_true rfl)) rfl rfl rfl rfl (Nat.le_of_ble_eq_true rfl) rfl rfl (Nat.le_of_ble_eq_true rfl) (Nat.le_of_ble_eq_true rfl) dX8_mayHold_141 (fun r16 u9 hw => ?_)
                obtain ⟨rfl, zr16, hw⟩ := hw
                refine r_if_ne E 165 (by decide) dX8_mayHold_144 (fun c17 => ?_) (fun c17 => ?_)
                · have hw := ite_t hw c17
                  refine r_aload_n E 8 0 rfl dX8_mayHold_147 ?_
                  refine r_getI E fd_X8_24 rfl (Nat.le_of_ble_eq_true rfl) (adr_lt (Nat.le_of_ble_eq_true rfl)) dX8_mayHold_148 ?_
                  refine r_callSI E (m_J6_bitCount_0f7a4 (EE_st E) (GX X) (gI h 8 0 4) h _ hw) lk_X8_57 (RM_mk (Nat.le_of_ble_eq_true rfl) (Nat.le_of_ble_eq_true rfl)) rfl rfl rfl rfl (Nat.le_of_ble_eq_true rfl) rfl rfl (Nat.le_of_ble_eq_true rfl) (Nat.le_of_ble_eq_true rfl) dX8_mayHold_151 (fun r18 u9 hw => ?_)
                  obtain ⟨rfl, hw⟩ := hw
                  refine r_aload_n E 8 0 rfl dX8_mayHold_154 ?_
                  refine r_getI E fd_X8_66 rfl (Nat.le_of_ble_eq_true rfl) (adr_lt (Nat.le_of_ble_eq_true rfl)) dX8_mayHold_155 ?_
                  refine r_icmp_ge E 165 (by decide) dX8_mayHold_158 (fun c19 => ?_) (fun c19 => ?_)
                  · have hw := ite_t hw c19
                    refine r_iconst E 0 rfl dX8_mayHold_165 ?_
                    exact hE _ _ _ _ _ _ (Nat.le_of_ble_eq_true rfl) (Nat.le_of_ble_eq_true rfl) dX8_mayHold_166 (isB_nar isB_0) ⟨rfl, isB_0, hw⟩
                  · have hw := ite_f hw c19
                    refine r_iconst E 1 rfl dX8_mayHold_161 ?_
                    refine r_goto E 166 (by decide) dX8_mayHold_162 ?_
                    exact hE _ _ _ _ _ _ (Nat.le_of_ble_eq_true rfl) (Nat.le_of_ble_eq_true rfl) dX8_mayHold_166 (isB_nar isB_1) ⟨rfl, isB_1, hw⟩
                · have hw := ite_f hw c17
                  refine r_iconst E 0 rfl dX8_mayHold_165 ?_
                  exact hE _ _ _ _ _ _ (Nat.le_of_ble_eq_true rfl) (Nat.le_of_ble_eq_true rfl) dX8_mayHold_166 (isB_nar isB_0) ⟨rfl, isB_0, hw⟩
              · have hw := ite_f hw c15
                refine r_iconst E 1 rfl dX8_mayHold_161 ?_
                refine r_goto E 166 (by decide) dX8_mayHold_162 ?_
                exact hE _ _ _ _ _ _ (Nat.le_of_ble_eq_true rfl) (Nat.le_of_ble_eq_true rfl) dX8_mayHold_166 (isB_nar isB_1) ⟨rfl, isB_1, hw⟩
            · have hw := ite_f hw c13
              rcases Decidable.em (p0 = 122) with c20 | c20
              · have hw := ite_t hw c20
                refine r_tableI E 122 c20 (off := 200) 201 dX8_mayHold_1 (by decide) (by decide) rfl (by decide) ?_
                refine r_aload_n E 8 0 rfl dX8_mayHold_201 ?_
                refine r_getI E fd_X8_21 rfl (Nat.le_of_ble_eq_true rfl) (adr_lt (Nat.le_of_ble_eq_true rfl)) dX8_mayHold_202 ?_
                refine r_iload_n E p1 rfl dX8_mayHold_205 ?_
                refine r_icmp_le E 213 (by decide) dX8_mayHold_206 (fun c21 => ?_) (fun c21 => ?_)
                · have hw := ite_t hw c21
                  refine r_iconst E 0 rfl dX8_mayHold_213 ?_
                  exact hE _ _ _ _ _ _ (Nat.le_of_ble_eq_true rfl) (Nat.le_of_ble_eq_true rfl) dX8_mayHold_214 (isB_nar isB_0) ⟨rfl, isB_0, hw⟩
                · have hw := ite_f hw c21
                  refine r_iconst E 1 rfl dX8_mayHold_209 ?_
                  refine r_goto E 214 (by decide) dX8_mayHold_210 ?_
                  exact hE _ _ _ _ _ _ (Nat.le_of_ble_eq_true rfl) (Nat.le_of_ble_eq_true rfl) dX8_mayHold_214 (isB_nar isB_1) ⟨rfl, isB_1, hw⟩
              · have hw := ite_f hw c20
                have key : GG X 0 0 NT h [some (rf X 8 0), some (.int p0), some (.int p1)] 238 ([]) := by
                  refine r_iconst E 1 rfl dX8_mayHold_238 ?_
                  exact hE _ _ _ _ _ _ (Nat.le_of_ble_eq_true rfl) (Nat.le_of_ble_eq_true rfl) dX8_mayHold_239 (isB_nar isB_1) ⟨rfl, isB_1, hw⟩
                rcases Decidable.em (p0.toInt < 98 ∨ 122 < p0.toInt) with cz | cz
                · exact r_tableO E 238 dX8_mayHold_1 cz (by decide) key
                · have hh : p0 = 99 ∨ p0 = 101 ∨ p0 = 103 ∨ p0 = 104 ∨ p0 = 105 ∨ p0 = 106 ∨ p0 = 107 ∨ p0 = 108 ∨ p0 = 109 ∨ p0 = 111 ∨ p0 = 112 ∨ p0 = 113 ∨ p0 = 114 ∨ p0 = 117 ∨ p0 = 118 ∨ p0 = 119 ∨ p0 = 120 ∨ p0 = 121 := by
                    have ec1 := lv_neT c1 (a := 98) rfl
                    have ec4 := lv_neT c4 (a := 100) rfl
                    have ec6 := lv_neT c6 (a := 102) rfl
                    have ec8 := lv_neT c8 (a := 110) rfl
                    have ec10 := lv_neT c10 (a := 115) rfl
                    have ec13 := lv_neT c13 (a := 116) rfl
                    have ec20 := lv_neT c20 (a := 122) rfl
                    have hz : p0.toInt = 99 ∨ p0.toInt = 101 ∨ p0.toInt = 103 ∨ p0.toInt = 104 ∨ p0.toInt = 105 ∨ p0.toInt = 106 ∨ p0.toInt = 107 ∨ p0.toInt = 108 ∨ p0.toInt = 109 ∨ p0.toInt = 111 ∨ p0.toInt = 112 ∨ p0.toInt = 113 ∨ p0.toInt = 114 ∨ p0.toInt = 117 ∨ p0.toInt = 118 ∨ p0.toInt = 119 ∨ p0.toInt = 120 ∨ p0.toInt = 121 := by omega
                    rcases hz with hz | hz | hz | hz | hz | hz | hz | hz | hz | hz | hz | hz | hz | hz | hz | hz | hz | hz
                    · exact Or.inl (Int32.toInt_inj.mp (hz.trans (rfl : (99 : Int) = (99 : Int32).toInt)))
                    · exact Or.inr (Or.inl (Int32.toInt_inj.mp (hz.trans (rfl : (101 : Int) = (101 : Int32).toInt))))
                    · exact Or.inr (Or.inr (Or.inl (Int32.toInt_inj.mp (hz.trans (rfl : (103 : Int) = (103 : Int32).toInt)))))
                    · exact Or.inr (Or.inr (Or.inr (Or.inl (Int32.toInt_inj.mp (hz.trans (rfl : (104 : Int) = (104 : Int32).toInt))))))
                    · exact Or.inr (Or.inr (Or.inr (Or.inr (Or.inl (Int32.toInt_inj.mp (hz.trans (rfl : (105 : Int) = (105 : Int32).toInt)))))))
                    · exact Or.inr (Or.inr (Or.inr (Or.inr (Or.inr (Or.inl (Int32.toInt_inj.mp (hz.trans (rfl : (106 : Int) = (106 : Int32).toInt))))))))
                    · exact Or.inr (Or.inr (Or.inr (Or.inr (Or.inr (Or.inr (Or.inl (Int32.toInt_inj.mp (hz.trans (rfl : (107 : Int) = (107 : Int32).toInt)))))))))
                    · exact Or.inr (Or.inr (Or.inr (Or.inr (Or.inr (Or.inr (Or.inr (Or.inl (Int32.toInt_inj.mp (hz.trans (rfl : (108 : Int) = (108 : Int32).toInt))))))))))
                    · exact Or.inr (Or.inr (Or.inr (Or.inr (Or.inr (Or.inr (Or.inr (Or.inr (Or.inl (Int32.toInt_inj.mp (hz.trans (rfl : (109 : Int) = (109 : Int32).toInt)))))))))))
                    · exact Or.inr (Or.inr (Or.inr (Or.inr (Or.inr (Or.inr (Or.inr (Or.inr (Or.inr (Or.inl (Int32.toInt_inj.mp (hz.trans (rfl : (111 : Int) = (111 : Int32).toInt))))))))))))
                    · exact Or.inr (Or.inr (Or.inr (Or.inr (Or.inr (Or.inr (Or.inr (Or.inr (Or.inr (Or.inr (Or.inl (Int32.toInt_inj.mp (hz.trans (rfl : (112 : Int) = (112 : Int32).toInt)))))))))))))
                    · exact Or.inr (Or.inr (Or.inr (Or.inr (Or.inr (Or.inr (Or.inr (Or.inr (Or.inr (Or.inr (Or.inr (Or.inl (Int32.toInt_inj.mp (hz.trans (rfl : (113 : Int) = (113 : Int32).toInt))))))))))))))
                    · exact Or.inr (Or.inr (Or.inr (Or.inr (Or.inr (Or.inr (Or.inr (Or.inr (Or.inr (Or.inr (Or.inr (Or.inr (Or.inl (Int32.toInt_inj.mp (hz.trans (rfl : (114 : Int) = (114 : Int32).toInt)))))))))))))))
                    · exact Or.inr (Or.inr (Or.inr (Or.inr (Or.inr (Or.inr (Or.inr (Or.inr (Or.inr (Or.inr (Or.inr (Or.inr (Or.inr (Or.inl (Int32.toInt_inj.mp (hz.trans (rfl : (117 : Int) = (117 : Int32).toInt))))))))))))))))
                    · exact Or.inr (Or.inr (Or.inr (Or.inr (Or.inr (Or.inr (Or.inr (Or.inr (Or.inr (Or.inr (Or.inr (Or.inr (Or.inr (Or.inr (Or.inl (Int32.toInt_inj.mp (hz.trans (rfl : (118 : Int) = (118 : Int32).toInt)))))))))))))))))
                    · exact Or.inr (Or.inr (Or.inr (Or.inr (Or.inr (Or.inr (Or.inr (Or.inr (Or.inr (Or.inr (Or.inr (Or.inr (Or.inr (Or.inr (Or.inr (Or.inl (Int32.toInt_inj.mp (hz.trans (rfl : (119 : Int) = (119 : Int32).toInt))))))))))))))))))
                    · exact Or.inr (Or.inr (Or.inr (Or.inr (Or.inr (Or.inr (Or.inr (Or.inr (Or.inr (Or.inr (Or.inr (Or.inr (Or.inr (Or.inr (Or.inr (Or.inr (Or.inl (Int32.toInt_inj.mp (hz.trans (rfl : (120 : Int) = (120 : Int32).toInt)))))))))))))))))))
                    · exact Or.inr (Or.inr (Or.inr (Or.inr (Or.inr (Or.inr (Or.inr (Or.inr (Or.inr (Or.inr (Or.inr (Or.inr (Or.inr (Or.inr (Or.inr (Or.inr (Or.inr (Int32.toInt_inj.mp (hz.trans (rfl : (121 : Int) = (121 : Int32).toInt)))))))))))))))))))
                  rcases hh with hh | hh | hh | hh | hh | hh | hh | hh | hh | hh | hh | hh | hh | hh | hh | hh | hh | hh
                  · exact r_tableI E 99 hh (off := 237) 238 dX8_mayHold_1 (by decide) (by decide) rfl (by decide) key
                  · exact r_tableI E 101 hh (off := 237) 238 dX8_mayHold_1 (by decide) (by decide) rfl (by decide) key
                  · exact r_tableI E 103 hh (off := 237) 238 dX8_mayHold_1 (by decide) (by decide) rfl (by decide) key
                  · exact r_tableI E 104 hh (off := 237) 238 dX8_mayHold_1 (by decide) (by decide) rfl (by decide) key
                  · exact r_tableI E 105 hh (off := 237) 238 dX8_mayHold_1 (by decide) (by decide) rfl (by decide) key
                  · exact r_tableI E 106 hh (off := 237) 238 dX8_mayHold_1 (by decide) (by decide) rfl (by decide) key
                  · exact r_tableI E 107 hh (off := 237) 238 dX8_mayHold_1 (by decide) (by decide) rfl (by decide) key
                  · exact r_tableI E 108 hh (off := 237) 238 dX8_mayHold_1 (by decide) (by decide) rfl (by decide) key
                  · exact r_tableI E 109 hh (off := 237) 238 dX8_mayHold_1 (by decide) (by decide) rfl (by decide) key
                  · exact r_tableI E 111 hh (off := 237) 238 dX8_mayHold_1 (by decide) (by decide) rfl (by decide) key
                  · exact r_tableI E 112 hh (off := 237) 238 dX8_mayHold_1 (by decide) (by decide) rfl (by decide) key
                  · exact r_tableI E 113 hh (off := 237) 238 dX8_mayHold_1 (by decide) (by decide) rfl (by decide) key
                  · exact r_tableI E 114 hh (off := 237) 238 dX8_mayHold_1 (by decide) (by decide) rfl (by decide) key
                  · exact r_tableI E 117 hh (off := 237) 238 dX8_mayHold_1 (by decide) (by decide) rfl (by decide) key
                  · exact r_tableI E 118 hh (off := 237) 238 dX8_mayHold_1 (by decide) (by decide) rfl (by decide) key
                  · exact r_tableI E 119 hh (off := 237) 238 dX8_mayHold_1 (by decide) (by decide) rfl (by decide) key
                  · exact r_tableI E 120 hh (off := 237) 238 dX8_mayHold_1 (by decide) (by decide) rfl (by decide) key
                  · exact r_tableI E 121 hh (off := 237) 238 dX8_mayHold_1 (by decide) (by decide) rfl (by decide) key
set_option maxRecDepth 20000 in
theorem m_X8_mayFail {l : Launch} (hl : l.stackTraces = false) (G : Gq) (p0 : Int32) (p1 : Int32)  (h : Hp) (Q : Int32 → Prop) (hw : wp_X8_mayFail p0 p1 h Q) : MI l G yX8_mayFail cX8_mayFail 3 (some .boolean) rm_X8_mayFail NT NT h (fun r => [r 8 0, .int p0, .int p1]) (fun r u => h = u ∧ isB r ∧ Q r) := by
  refine MI_of (L0 := (fun X => [some (rf X 8 0), some (.int p0), some (.int p1)])) hl (by decide +kernel) rfl (fun _ => Nat.le_of_ble_eq_true rfl) (fun _ => rfl) fun X hXl hXG E hE => ?_
  subst hXl; subst hXG
  unfold wp_X8_mayFail at hw
  refine r_iload_n E p0 rfl dX8_mayFail_0 ?_
  rcases Decidable.em (p0 = 98) with c1 | c1
  · have hw := ite_t hw c1
    refine r_tableI E 98 c1 (off := 196) 197 dX8_mayFail_1 (by decide) (by decide) rfl (by decide) ?_
    refine r_aload_n E 8 0 rfl dX8_mayFail_197 ?_
    refine r_getI E fd_X8_42 rfl (Nat.le_of_ble_eq_true rfl) (adr_lt (Nat.le_of_ble_eq_true rfl)) dX8_mayFail_198 ?_
    refine r_iload_n E p1 rfl dX8_mayFail_201 ?_
    refine r_callSNI E (m_X10_hasBit (EE_st E) (GX X) (gI h 8 0 12) p1 h _ hw) lk_X8_69 (RM_mk (Nat.le_of_ble_eq_true rfl) (Nat.le_of_ble_eq_true rfl)) rfl rfl rfl rfl (Nat.le_of_ble_eq_true rfl) rfl rfl (Nat.le_of_ble_eq_true rfl) (Nat.le_of_ble_eq_true rfl) dX8_mayFail_202 (fun r2 u9 hw => ?_)
    obtain ⟨rfl, zr2, hw⟩ := hw
    refine r_if_ne E 212 (by decide) dX8_mayFail_205 (fun c3 => ?_) (fun c3 => ?_)
    · have hw := ite_t hw c3
      refine r_iconst E 1 rfl dX8_mayFail_208 ?_
      refine r_goto E 213 (by decide) dX8_mayFail_209 ?_
      exact hE _ _ _ _ _ _ (Nat.le_of_ble_eq_true rfl) (Nat.le_of_ble_eq_true rfl) dX8_mayFail_213 (isB_nar isB_1) ⟨rfl, isB_1, hw⟩
    · have hw := ite_f hw c3
      refine r_iconst E 0 rfl dX8_mayFail_212 ?_
      exact hE _ _ _ _ _ _ (Nat.le_of_ble_eq_true rfl) (Nat.le_of_ble_eq_true rfl) dX8_mayFail_213 (isB_nar isB_0) ⟨rfl, isB_0, hw⟩
  · have hw := ite_f hw c1
    rcases Decidable.em (p0 = 100) with c4 | c4
    · have hw := ite_t hw c4
      refine r_tableI E 100 c4 (off := 227) 228 dX8_mayFail_1 (by decide) (by decide) rfl (by decide) ?_
      refine r_aload_n E 8 0 rfl dX8_mayFail_228 ?_
      refine r_getI E fd_X8_15 rfl (Nat.le_of_ble_eq_true rfl) (adr_lt (Nat.le_of_ble_eq_true rfl)) dX8_mayFail_229 ?_
      refine r_iconst E 1 rfl dX8_mayFail_232 ?_
      refine r_iload_n E p1 rfl dX8_mayFail_233 ?_
      refine r_ishl E dX8_mayFail_234 ?_
      refine r_iconst E (-1) rfl dX8_mayFail_235 ?_
      refine r_ixor E dX8_mayFail_236 ?_
      refine r_iand E dX8_mayFail_237 ?_
      refine r_if_eq E 245 (by decide) dX8_mayFail_238 (fun c5 => ?_) (fun c5 => ?_)
      · have hw := ite_t hw c5
        refine r_iconst E 0 rfl dX8_mayFail_245 ?_
        exact hE _ _ _ _ _ _ (Nat.le_of_ble_eq_true rfl) (Nat.le_of_ble_eq_true rfl) dX8_mayFail_246 (isB_nar isB_0) ⟨rfl, isB_0, hw⟩
      · have hw := ite_f hw c5
        refine r_iconst E 1 rfl dX8_mayFail_241 ?_
        refine r_goto E 246 (by decide) dX8_mayFail_242 ?_
        exact hE _ _ _ _ _ _ (Nat.le_of_ble_eq_true rfl) (Nat.le_of_ble_eq_true rfl) dX8_mayFail_246 (isB_nar isB_1) ⟨rfl, isB_1, hw⟩
    · have hw := ite_f hw c4
      rcases Decidable.em (p0 = 102) with c6 | c6
      · have hw := ite_t hw c6
        refine r_tableI E 102 c6 (off := 115) 116 dX8_mayFail_1 (by decide) (by decide) rfl (by decide) ?_
        refine r_aload_n E 8 0 rfl dX8_mayFail_116 ?_
        refine r_getI E fd_X8_9 rfl (Nat.le_of_ble_eq_true rfl) (adr_lt (Nat.le_of_ble_eq_true rfl)) dX8_mayFail_117 ?_
        refine r_iconst E 1 rfl dX8_mayFail_120 ?_
        refine r_iload_n E p1 rfl dX8_mayFail_121 ?_
        refine r_ishl E dX8_mayFail_122 ?_
        refine r_iconst E (-1) rfl dX8_mayFail_123 ?_
        refine r_ixor E dX8_mayFail_124 ?_
        refine r_iand E dX8_mayFail_125 ?_
        refine r_if_eq E 133 (by decide) dX8_mayFail_126 (fun c7 => ?_) (fun c7 => ?_)
        · have hw := ite_t hw c7
          refine r_iconst E 0 rfl dX8_mayFail_133 ?_
          exact hE _ _ _ _ _ _ (Nat.le_of_ble_eq_true rfl) (Nat.le_of_ble_eq_true rfl) dX8_mayFail_134 (isB_nar isB_0) ⟨rfl, isB_0, hw⟩
        · have hw := ite_f hw c7
          refine r_iconst E 1 rfl dX8_mayFail_129 ?_
          refine r_goto E 134 (by decide) dX8_mayFail_130 ?_
          exact hE _ _ _ _ _ _ (Nat.le_of_ble_eq_true rfl) (Nat.le_of_ble_eq_true rfl) dX8_mayFail_134 (isB_nar isB_1) ⟨rfl, isB_1, hw⟩
      · have hw := ite_f hw c6
        rcases Decidable.em (p0 = 110) with c8 | c8
        · have hw := ite_t hw c8
          refine r_tableI E 110 c8 (off := 246) 247 dX8_mayFail_1 (by decide) (by decide) rfl (by decide) ?_
          refine r_aload_n E 8 0 rfl dX8_mayFail_247 ?_
          refine r_getI E fd_X8_63 rfl (Nat.le_of_ble_eq_true rfl) (adr_lt (Nat.le_of_ble_eq_true rfl)) dX8_mayFail_248 ?_
          refine r_iload_n E p1 rfl dX8_mayFail_251 ?_
          refine r_icmp_ge E 259 (by decide) dX8_mayFail_252 (fun c9 => ?_) (fun c9 => ?_)
          · have hw := ite_t hw c9
            refine r_iconst E 0 rfl dX8_mayFail_259 ?_
            exact hE _ _ _ _ _ _ (Nat.le_of_ble_eq_true rfl) (Nat.le_of_ble_eq_true rfl) dX8_mayFail_260 (isB_nar isB_0) ⟨rfl, isB_0, hw⟩
          · have hw := ite_f hw c9
            refine r_iconst E 1 rfl dX8_mayFail_255 ?_
            refine r_goto E 260 (by decide) dX8_mayFail_256 ?_
            exact hE _ _ _ _ _ _ (Nat.le_of_ble_eq_true rfl) (Nat.le_of_ble_eq_true rfl) dX8_mayFail_260 (isB_nar isB_1) ⟨rfl, isB_1, hw⟩
        · have hw := ite_f hw c8
          rcases Decidable.em (p0 = 115) with c10 | c10
          · have hw := ite_t hw c10
            refine r_tableI E 115 c10 (off := 179) 180 dX8_mayFail_1 (by decide) (by decide) rfl (by decide) ?_
            refine r_aload_n E 8 0 rfl dX8_mayFail_180 ?_
            refine r_getI E fd_X8_36 rfl (Nat.le_of_ble_eq_true rfl) (adr_lt (Nat.le_of_ble_eq_true rfl)) dX8_mayFail_181 ?_
            refine r_iload_n E p1 rfl dX8_mayFail_184 ?_
            refine r_callSNI E (m_X10_hasBit (EE_st E) (GX X) (gI h 8 0 10) p1 h _ hw) lk_X8_69 (RM_mk (Nat.le_of_ble_eq_true rfl) (Nat.le_of_ble_eq_true rfl)) rfl rfl rfl rfl (Nat.le_of_ble_eq_true rfl) rfl rfl (Nat.le_of_ble_eq_true rfl) (Nat.le_of_ble_eq_true rfl) dX8_mayFail_185 (fun r11 u9 hw => ?_)
            obtain ⟨rfl, zr11, hw⟩ := hw
            refine r_if_ne E 195 (by decide) dX8_mayFail_188 (fun c12 => ?_) (fun c12 => ?_)
            · have hw := ite_t hw c12
              refine r_iconst E 1 rfl dX8_mayFail_191 ?_
              refine r_goto E 196 (by decide) dX8_mayFail_192 ?_
              exact hE _ _ _ _ _ _ (Nat.le_of_ble_eq_true rfl) (Nat.le_of_ble_eq_true rfl) dX8_mayFail_196 (isB_nar isB_1) ⟨rfl, isB_1, hw⟩
            · have hw := ite_f hw c12
              refine r_iconst E 0 rfl dX8_mayFail_195 ?_
              exact hE _ _ _ _ _ _ (Nat.le_of_ble_eq_true rfl) (Nat.le_of_ble_eq_true rfl) dX8_mayFail_196 (isB_nar isB_0) ⟨rfl, isB_0, hw⟩
          · have hw := ite_f hw c10
            rcases Decidable.em (p0 = 116) with c13 | c13
            · have hw := ite_t hw c13
              refine r_tableI E 116 c13 (off := 134) 135 dX8_mayFail_1 (by decide) (by decide) rfl (by decide) ?_
              refine r_aload_n E 8 0 rfl dX8_mayFail_135 ?_
              refine r_getI E fd_X8_27 rfl (Nat.le_of_ble_eq_true rfl) (adr_lt (Nat.le_of_ble_eq_true rfl)) dX8_mayFail_136 ?_
              refine r_iload_n E p1 rfl dX8_mayFail_139 ?_
              refine r_callSNI E (m_X10_hasBit (EE_st E) (GX X) (gI h 8 0 5) p1 h _ hw) lk_X8_69 (RM_mk (Nat.le_of_ble_eq_true rfl) (Nat.le_of_ble_eq_true rfl)) rfl rfl rfl rfl (Nat.le_of_ble_eq_true rfl) rfl rfl (Nat.le_of_ble_eq_true rfl) (Nat.le_of_ble_eq_true rfl) dX8_mayFail_140 (fun r14 u9 hw => ?_)
              obtain ⟨rfl, zr14, hw⟩ := hw
              refine r_if_ne E 174 (by decide) dX8_mayFail_143 (fun c15 => ?_) (fun c15 => ?_)
              · have hw := ite_t hw c15
                refine r_aload_n E 8 0 rfl dX8_mayFail_146 ?_
                refine r_getI E fd_X8_24 rfl (Nat.le_of_ble_eq_true rfl) (adr_lt (Nat.le_of_ble_eq_true rfl)) dX8_mayFail_147 ?_
                refine r_iload_n E p1 rfl dX8_mayFail_150 ?_
                refine r_callSNI E (m_X10_hasBit (EE_st E) (GX X) (gI h 8 0 4) p1 h _ hw) lk_X8_69 (RM_mk (Nat.le_of_ble_eq_true rfl) (Nat.le_of_ble_eq_true rfl)) rfl rfl rfl rfl (Nat.le_of_ble_eq_true rfl) rfl rfl (Nat.le_of_ble_eq_true rfl) (Nat.le_of_ble_eq_true rfl) dX8_mayFail_151 (fun r16 u9 hw => ?_)
                obtain ⟨rfl, zr16, hw⟩ := hw
                refine r_if_ne E 178 (by decide) dX8_mayFail_154 (fun c17 => ?_) (fun c17 => ?_)
                · have hw := ite_t hw c17
                  refine r_bipush E 10 rfl dX8_mayFail_157 ?_
                  refine r_aload_n E 8 0 rfl dX8_mayFail_159 ?_
                  refine r_getI E fd_X8_27 rfl (Nat.le_of_ble_eq_true rfl) (adr_lt (Nat.le_of_ble_eq_true rfl)) dX8_mayFail_160 ?_
                  refine r_callSI E (m_J6_bitCount_0f7a4 (EE_st E) (GX X) (gI h 8 0 5) h _ hw) lk_X8_57 (RM_mk (Nat.le_of_ble_eq_true rfl) (Nat.le_of_ble_eq_true rfl)) rfl rfl rfl rfl (Nat.le_of_ble_eq_true rfl) rfl rfl (Nat.le_of_ble_eq_true rfl) (Nat.le_of_ble_eq_true rfl) dX8_mayFail_163 (fun r18 u9 hw => ?_)
                  obtain ⟨rfl, hw⟩ := hw
                  refine r_isub E dX8_mayFail_166 ?_
                  refine r_aload_n E 8 0 rfl dX8_mayFail_167 ?_
                  refine r_getI E fd_X8_63 rfl (Nat.le_of_ble_eq_true rfl) (adr_lt (Nat.le_of_ble_eq_true rfl)) dX8_mayFail_168 ?_
                  refine r_icmp_le E 178 (by decide) dX8_mayFail_171 (fun c19 => ?_) (fun c19 => ?_)
                  · have hw := ite_t hw c19
                    refine r_iconst E 0 rfl dX8_mayFail_178 ?_
                    exact hE _ _ _ _ _ _ (Nat.le_of_ble_eq_true rfl) (Nat.le_of_ble_eq_true rfl) dX8_mayFail_179 (isB_nar isB_0) ⟨rfl, isB_0, hw⟩
                  · have hw := ite_f hw c19
                    refine r_iconst E 1 rfl dX8_mayFail_174 ?_
                    refine r_goto E 179 (by decide) dX8_mayFail_175 ?_
                    exact hE _ _ _ _ _ _ (Nat.le_of_ble_eq_true rfl) (Nat.le_of_ble_eq_true rfl) dX8_mayFail_179 (isB_nar isB_1) ⟨rfl, isB_1, hw⟩
                · have hw := ite_f hw c17
                  refine r_iconst E 0 rfl dX8_mayFail_178 ?_
                  exact hE _ _ _ _ _ _ (Nat.le_of_ble_eq_true rfl) (Nat.le_of_ble_eq_true rfl) dX8_mayFail_179 (isB_nar isB_0) ⟨rfl, isB_0, hw⟩
              · have hw := ite_f hw c15
                refine r_iconst E 1 rfl dX8_mayFail_174 ?_
                refine r_goto E 179 (by decide) dX8_mayFail_175 ?_
                exact hE _ _ _ _ _ _ (Nat.le_of_ble_eq_true rfl) (Nat.le_of_ble_eq_true rfl) dX8_mayFail_179 (isB_nar isB_1) ⟨rfl, isB_1, hw⟩
            · have hw := ite_f hw c13
              rcases Decidable.em (p0 = 122) with c20 | c20
              · have hw := ite_t hw c20
                refine r_tableI E 122 c20 (off := 213) 214 dX8_mayFail_1 (by decide) (by decide) rfl (by decide) ?_
                refine r_aload_n E 8 0 rfl dX8_mayFail_214 ?_
                refine r_getI E fd_X8_18 rfl (Nat.le_of_ble_eq_true rfl) (adr_lt (Nat.le_of_ble_eq_true rfl)) dX8_mayFail_215 ?_
                refine r_iload_n E p1 rfl dX8_mayFail_218 ?_
                refine r_icmp_gt E 226 (by decide) dX8_mayFail_219 (fun c21 => ?_) (fun c21 => ?_)
                · have hw := ite_t hw c21
                  refine r_iconst E 0 rfl dX8_mayFail_226 ?_
                  exact hE _ _ _ _ _ _ (Nat.le_of_ble_eq_true rfl) (Nat.le_of_ble_eq_true rfl) dX8_mayFail_227 (isB_nar isB_0) ⟨rfl, isB_0, hw⟩
                · have hw := ite_f hw c21
                  refine r_iconst E 1 rfl dX8_mayFail_222 ?_
                  refine r_goto E 227 (by decide) dX8_mayFail_223 ?_
                  exact hE _ _ _ _ _ _ (Nat.le_of_ble_eq_true rfl) (Nat.le_of_ble_eq_true rfl) dX8_mayFail_227 (isB_nar isB_1) ⟨rfl, isB_1, hw⟩
              · have hw := ite_f hw c20
                have key : GG X 0 0 NT h [some (rf X 8 0), some (.int p0), some (.int p1)] 261 ([]) := by
                  refine r_iconst E 0 rfl dX8_mayFail_261 ?_
                  exact hE _ _ _ _ _ _ (Nat.le_of_ble_eq_true rfl) (Nat.le_of_ble_eq_true rfl) dX8_mayFail_262 (isB_nar isB_0) ⟨rfl, isB_0, hw⟩
                rcases Decidable.em (p0.toInt < 98 ∨ 122 < p0.toInt) with cz | cz
                · exact r_tableO E 261 dX8_mayFail_1 cz (by decide) key
                · have hh : p0 = 99 ∨ p0 = 101 ∨ p0 = 103 ∨ p0 = 104 ∨ p0 = 105 ∨ p0 = 106 ∨ p0 = 107 ∨ p0 = 108 ∨ p0 = 109 ∨ p0 = 111 ∨ p0 = 112 ∨ p0 = 113 ∨ p0 = 114 ∨ p0 = 117 ∨ p0 = 118 ∨ p0 = 119 ∨ p0 = 120 ∨ p0 = 121 := by
                    have ec1 := lv_neT c1 (a := 98) rfl
                    have ec4 := lv_neT c4 (a := 100) rfl
                    have ec6 := lv_neT c6 (a := 102) rfl
                    have ec8 := lv_neT c8 (a := 110) rfl
                    have ec10 := lv_neT c10 (a := 115) rfl
                    have ec13 := lv_neT c13 (a := 116) rfl
                    have ec20 := lv_neT c20 (a := 122) rfl
                    have hz : p0.toInt = 99 ∨ p0.toInt = 101 ∨ p0.toInt = 103 ∨ p0.toInt = 104 ∨ p0.toInt = 105 ∨ p0.toInt = 106 ∨ p0.toInt = 107 ∨ p0.toInt = 108 ∨ p0.toInt = 109 ∨ p0.toInt = 111 ∨ p0.toInt = 112 ∨ p0.toInt = 113 ∨ p0.toInt = 114 ∨ p0.toInt = 117 ∨ p0.toInt = 118 ∨ p0.toInt = 119 ∨ p0.toInt = 120 ∨ p0.toInt = 121 := by omega
                    rcases hz with hz | hz | hz | hz | hz | hz | hz | hz | hz | hz | hz | hz | hz | hz | hz | hz | hz | hz
                    · exact Or.inl (Int32.toInt_inj.mp (hz.trans (rfl : (99 : Int) = (99 : Int32).toInt)))
                    · exact Or.inr (Or.inl (Int32.toInt_inj.mp (hz.trans (rfl : (101 : Int) = (101 : Int32).toInt))))
                    · exact Or.inr (Or.inr (Or.inl (Int32.toInt_inj.mp (hz.trans (rfl : (103 : Int) = (103 : Int32).toInt)))))
                    · exact Or.inr (Or.inr (Or.inr (Or.inl (Int32.toInt_inj.mp (hz.trans (rfl : (104 : Int) = (104 : Int32).toInt))))))
                    · exact Or.inr (Or.inr (Or.inr (Or.inr (Or.inl (Int32.toInt_inj.mp (hz.trans (rfl : (105 : Int) = (105 : Int32).toInt)))))))
                    · exact Or.inr (Or.inr (Or.inr (Or.inr (Or.inr (Or.inl (Int32.toInt_inj.mp (hz.trans (rfl : (106 : Int) = (106 : Int32).toInt))))))))
                    · exact Or.inr (Or.inr (Or.inr (Or.inr (Or.inr (Or.inr (Or.inl (Int32.toInt_inj.mp (hz.trans (rfl : (107 : Int) = (107 : Int32).toInt)))))))))
                    · exact Or.inr (Or.inr (Or.inr (Or.inr (Or.inr (Or.inr (Or.inr (Or.inl (Int32.toInt_inj.mp (hz.trans (rfl : (108 : Int) = (108 : Int32).toInt))))))))))
                    · exact Or.inr (Or.inr (Or.inr (Or.inr (Or.inr (Or.inr (Or.inr (Or.inr (Or.inl (Int32.toInt_inj.mp (hz.trans (rfl : (109 : Int) = (109 : Int32).toInt)))))))))))
                    · exact Or.inr (Or.inr (Or.inr (Or.inr (Or.inr (Or.inr (Or.inr (Or.inr (Or.inr (Or.inl (Int32.toInt_inj.mp (hz.trans (rfl : (111 : Int) = (111 : Int32).toInt))))))))))))
                    · exact Or.inr (Or.inr (Or.inr (Or.inr (Or.inr (Or.inr (Or.inr (Or.inr (Or.inr (Or.inr (Or.inl (Int32.toInt_inj.mp (hz.trans (rfl : (112 : Int) = (112 : Int32).toInt)))))))))))))
                    · exact Or.inr (Or.inr (Or.inr (Or.inr (Or.inr (Or.inr (Or.inr (Or.inr (Or.inr (Or.inr (Or.inr (Or.inl (Int32.toInt_inj.mp (hz.trans (rfl : (113 : Int) = (113 : Int32).toInt))))))))))))))
                    · exact Or.inr (Or.inr (Or.inr (Or.inr (Or.inr (Or.inr (Or.inr (Or.inr (Or.inr (Or.inr (Or.inr (Or.inr (Or.inl (Int32.toInt_inj.mp (hz.trans (rfl : (114 : Int) = (114 : Int32).toInt)))))))))))))))
                    · exact Or.inr (Or.inr (Or.inr (Or.inr (Or.inr (Or.inr (Or.inr (Or.inr (Or.inr (Or.inr (Or.inr (Or.inr (Or.inr (Or.inl (Int32.toInt_inj.mp (hz.trans (rfl : (117 : Int) = (117 : Int32).toInt))))))))))))))))
                    · exact Or.inr (Or.inr (Or.inr (Or.inr (Or.inr (Or.inr (Or.inr (Or.inr (Or.inr (Or.inr (Or.inr (Or.inr (Or.inr (Or.inr (Or.inl (Int32.toInt_inj.mp (hz.trans (rfl : (118 : Int) = (118 : Int32).toInt)))))))))))))))))
                    · exact Or.inr (Or.inr (Or.inr (Or.inr (Or.inr (Or.inr (Or.inr (Or.inr (Or.inr (Or.inr (Or.inr (Or.inr (Or.inr (Or.inr (Or.inr (Or.inl (Int32.toInt_inj.mp (hz.trans (rfl : (119 : Int) = (119 : Int32).toInt))))))))))))))))))
                    · exact Or.inr (Or.inr (Or.inr (Or.inr (Or.inr (Or.inr (Or.inr (Or.inr (Or.inr (Or.inr (Or.inr (Or.inr (Or.inr (Or.inr (Or.inr (Or.inr (Or.inl (Int32.toInt_inj.mp (hz.trans (rfl : (120 : Int) = (120 : Int32).toInt)))))))))))))))))))
                    · exact Or.inr (Or.inr (Or.inr (Or.inr (Or.inr (Or.inr (Or.inr (Or.inr (Or.inr (Or.inr (Or.inr (Or.inr (Or.inr (Or.inr (Or.inr (Or.inr (Or.inr (Int32.toInt_inj.mp (hz.trans (rfl : (121 : Int) = (121 : Int32).toInt)))))))))))))))))))
                  rcases hh with hh | hh | hh | hh | hh | hh | hh | hh | hh | hh | hh | hh | hh | hh | hh | hh | hh | hh
                  · exact r_tableI E 99 hh (off := 260) 261 dX8_mayFail_1 (by decide) (by decide) rfl (by decide) key
                  · exact r_tableI E 101 hh (off := 260) 261 dX8_mayFail_1 (by decide) (by decide) rfl (by decide) key
                  · exact r_tableI E 103 hh (off := 260) 261 dX8_mayFail_1 (by decide) (by decide) rfl (by decide) key
                  · exact r_tableI E 104 hh (off := 260) 261 dX8_mayFail_1 (by decide) (by decide) rfl (by decide) key
                  · exact r_tableI E 105 hh (off := 260) 261 dX8_mayFail_1 (by decide) (by decide) rfl (by decide) key
                  · exact r_tableI E 106 hh (off := 260) 261 dX8_mayFail_1 (by decide) (by decide) rfl (by decide) key
                  · exact r_tableI E 107 hh (off := 260) 261 dX8_mayFail_1 (by decide) (by decide) rfl (by decide) key
                  · exact r_tableI E 108 hh (off := 260) 261 dX8_mayFail_1 (by decide) (by decide) rfl (by decide) key
                  · exact r_tableI E 109 hh (off := 260) 261 dX8_mayFail_1 (by decide) (by decide) rfl (by decide) key
                  · exact r_tableI E 111 hh (off := 260) 261 dX8_mayFail_1 (by decide) (by decide) rfl (by decide) key
                  · exact r_tableI E 112 hh (off := 260) 261 dX8_mayFail_1 (by decide) (by decide) rfl (by decide) key
                  · exact r_tableI E 113 hh (off := 260) 261 dX8_mayFail_1 (by decide) (by decide) rfl (by decide) key
                  · exact r_tableI E 114 hh (off := 260) 261 dX8_mayFail_1 (by decide) (by decide) rfl (by decide) key
                  · exact r_tableI E 117 hh (off := 260) 261 dX8_mayFail_1 (by decide) (by decide) rfl (by decide) key
                  · exact r_tableI E 118 hh (off := 260) 261 dX8_mayFail_1 (by decide) (by decide) rfl (by decide) key
                  · exact r_tableI E 119 hh (off := 260) 261 dX8_mayFail_1 (by decide) (by decide) rfl (by decide) key
                  · exact r_tableI E 120 hh (off := 260) 261 dX8_mayFail_1 (by decide) (by decide) rfl (by decide) key
                  · exact r_tableI E 121 hh (off := 260) 261 dX8_mayFail_1 (by decide) (by decide) rfl (by decide) key
set_option maxRecDepth 20000 in
theorem t_X4_weigh_b403 {X : Ctx} (h : Hp) (x1 : Int32)  (E : EE X cX4_weigh RX4 8 3 69 0 0) {Q : Hp → Prop} (hE : ENDv X cX4_weigh Q NT 0 0) (P22 : Int32 → Hp → Prop) (hP22 : ∀ (y1 : Int32) (u : Hp), P22 y1 u → GG X 0 0 NT u [some (rf X 4 0), some (.int y1), none, none, none, none, none, none] 22 []) (hw : wp_X4_weigh_b403 x1 h P22 Q) : GG X 0 0 NT h [some (rf X 4 0), some (.int x1), none, none, none, none, none, none] 403 [] := by
  unfold wp_X4_weigh_b403 at hw
  obtain ⟨v1, hv1⟩ : ∃ y : Int32, y = x1 + 1 := ⟨_, rfl⟩
  have hw := hw v1 hv1
  refine r_iinc E x1 v1 [some (rf X 4 0), some (.int v1), none, none, none, none, none, none] rfl (by rw [hv1]; rfl) (Nat.le_of_ble_eq_true rfl) rfl dX4_weigh_403 ?_
  refine r_goto E 22 (by decide) dX4_weigh_406 ?_
  exact GG_weak [true, true, false, false, false, false, false, false] rfl (hP22 _ _ hw)
set_option maxRecDepth 20000 in
theorem t_X4_weigh_b400 {X : Ctx} (h : Hp) (x1 : Int32) (s1 : Int32) (s2 : Int32) (s3 : Int32)  (E : EE X cX4_weigh RX4 8 3 69 0 0) {Q : Hp → Prop} (hE : ENDv X cX4_weigh Q NT 0 0) (P22 : Int32 → Hp → Prop) (hP22 : ∀ (y1 : Int32) (u : Hp), P22 y1 u → GG X 0 0 NT u [some (rf X 4 0), some (.int y1), none, none, none, none, none, none] 22 []) (hw : wp_X4_weigh_b400 x1 s1 s2 s3 h P22 Q) : GG X 0 0 NT h [some (rf X 4 0), some (.int x1), none, none, none, none, none, none] 400 [.int s3, .int s2, .int s1, rf X 4 0] := by
  unfold wp_X4_weigh_b400 at hw
  refine r_callVV E (m_X4_noteSure (EE_st E) (GX X) s1 s2 s3 h _ hw) lk_X4_124 (RM_mk (Nat.le_of_ble_eq_true rfl) (Nat.le_of_ble_eq_true rfl)) rfl rfl rfl rfl (Nat.le_of_ble_eq_true rfl) (adr_lt (Nat.le_of_ble_eq_true rfl)) (Nat.le_of_ble_eq_true rfl) rfl rfl (Nat.le_of_ble_eq_true rfl) (Nat.le_of_ble_eq_true rfl) dX4_weigh_400 (fun h1 hw => ?_)
  exact GG_weak [true, true, false, false, false, false, false, false] rfl (t_X4_weigh_b403 h1 x1 E hE P22 hP22  hw)
set_option maxRecDepth 20000 in
theorem t_X4_weigh_b390 {X : Ctx} (h : Hp) (x1 : Int32) (x6 : Int32) (s1 : Int32) (s2 : Int32)  (E : EE X cX4_weigh RX4 8 3 69 0 0) {Q : Hp → Prop} (hE : ENDv X cX4_weigh Q NT 0 0) (P22 : Int32 → Hp → Prop) (hP22 : ∀ (y1 : Int32) (u : Hp), P22 y1 u → GG X 0 0 NT u [some (rf X 4 0), some (.int y1), none, none, none, none, none, none] 22 []) (hw : wp_X4_weigh_b390 x1 x6 s1 s2 h P22 Q) : GG X 0 0 NT h [some (rf X 4 0), some (.int x1), none, none, none, none, some (.int x6), none] 390 [.int s2, .int s1, rf X 4 0] := by
  unfold wp_X4_weigh_b390 at hw
  refine r_iload E x6 rfl dX4_weigh_390 ?_
  refine r_if_ne E 399 (by decide) dX4_weigh_392 (fun c1 => ?_) (fun c1 => ?_)
  · have hw := ite_t hw c1
    refine r_iconst E 1 rfl dX4_weigh_395 ?_
    refine r_goto E 400 (by decide) dX4_weigh_396 ?_
    exact GG_weak [true, true, false, false, false, false, false, false] rfl (t_X4_weigh_b400 h x1 s1 s2 1 E hE P22 hP22  hw)
  · have hw := ite_f hw c1
    refine r_iconst E 0 rfl dX4_weigh_399 ?_
    exact GG_weak [true, true, false, false, false, false, false, false] rfl (t_X4_weigh_b400 h x1 s1 s2 0 E hE P22 hP22  hw)
set_option maxRecDepth 20000 in
theorem t_X4_weigh_b316 {X : Ctx} (h : Hp) (x1 : Int32) (s1 : Int32) (s2 : Int32) (s3 : Int32)  (E : EE X cX4_weigh RX4 8 3 69 0 0) {Q : Hp → Prop} (hE : ENDv X cX4_weigh Q NT 0 0) (P22 : Int32 → Hp → Prop) (hP22 : ∀ (y1 : Int32) (u : Hp), P22 y1 u → GG X 0 0 NT u [some (rf X 4 0), some (.int y1), none, none, none, none, none, none] 22 []) (hw : wp_X4_weigh_b316 x1 s1 s2 s3 h P22 Q) : GG X 0 0 NT h [some (rf X 4 0), some (.int x1), none, none, none, none, none, none] 316 [.int s3, .int s2, .int s1, rf X 4 0] := by
  unfold wp_X4_weigh_b316 at hw
  refine r_callVV E (m_X4_noteSure (EE_st E) (GX X) s1 s2 s3 h _ hw) lk_X4_124 (RM_mk (Nat.le_of_ble_eq_true rfl) (Nat.le_of_ble_eq_true rfl)) rfl rfl rfl rfl (Nat.le_of_ble_eq_true rfl) (adr_lt (Nat.le_of_ble_eq_true rfl)) (Nat.le_of_ble_eq_true rfl) rfl rfl (Nat.le_of_ble_eq_true rfl) (Nat.le_of_ble_eq_true rfl) dX4_weigh_316 (fun h1 hw => ?_)
  refine r_goto E 403 (by decide) dX4_weigh_319 ?_
  exact GG_weak [true, true, false, false, false, false, false, false] rfl (t_X4_weigh_b403 h1 x1 E hE P22 hP22  hw)
set_option maxRecDepth 20000 in
theorem t_X4_weigh_b315 {X : Ctx} (h : Hp) (x1 : Int32) (s1 : Int32) (s2 : Int32)  (E : EE X cX4_weigh RX4 8 3 69 0 0) {Q : Hp → Prop} (hE : ENDv X cX4_weigh Q NT 0 0) (P22 : Int32 → Hp → Prop) (hP22 : ∀ (y1 : Int32) (u : Hp), P22 y1 u → GG X 0 0 NT u [some (rf X 4 0), some (.int y1), none, none, none, none, none, none] 22 []) (hw : wp_X4_weigh_b315 x1 s1 s2 h P22 Q) : GG X 0 0 NT h [some (rf X 4 0), some (.int x1), none, none, none, none, none, none] 315 [.int s2, .int s1, rf X 4 0] := by
  unfold wp_X4_weigh_b315 at hw
  refine r_iconst E 0 rfl dX4_weigh_315 ?_
  exact GG_weak [true, true, false, false, false, false, false, false] rfl (t_X4_weigh_b316 h x1 s1 s2 0 E hE P22 hP22  hw)
set_option maxRecDepth 20000 in
theorem t_X4_weigh_b271 {X : Ctx} (h : Hp) (x1 : Int32) (x2 : Int32) (x4 : Int32) (x5 : Int32) (s1 : Int32) (s2 : Int32) (s3 : Int32)  (E : EE X cX4_weigh RX4 8 3 69 0 0) {Q : Hp → Prop} (hE : ENDv X cX4_weigh Q NT 0 0) (P22 : Int32 → Hp → Prop) (hP22 : ∀ (y1 : Int32) (u : Hp), P22 y1 u → GG X 0 0 NT u [some (rf X 4 0), some (.int y1), none, none, none, none, none, none] 22 []) (hw : wp_X4_weigh_b271 x1 x2 x4 x5 s1 s2 s3 h P22 Q) : GG X 0 0 NT h [some (rf X 4 0), some (.int x1), some (.int x2), none, some (.int x4), some (.int x5), none, none] 271 [.int s3, .int s2, .int s1, rf X 4 0] := by
  unfold wp_X4_weigh_b271 at hw
  refine r_callVV E (m_X4_noteMay (EE_st E) (GX X) s1 s2 s3 h _ hw) lk_X4_120 (RM_mk (Nat.le_of_ble_eq_true rfl) (Nat.le_of_ble_eq_true rfl)) rfl rfl rfl rfl (Nat.le_of_ble_eq_true rfl) (adr_lt (Nat.le_of_ble_eq_true rfl)) (Nat.le_of_ble_eq_true rfl) rfl rfl (Nat.le_of_ble_eq_true rfl) (Nat.le_of_ble_eq_true rfl) dX4_weigh_271 (fun h1 hw => ?_)
  refine r_aload_n E 4 0 rfl dX4_weigh_274 ?_
  refine r_iload_n E x2 rfl dX4_weigh_275 ?_
  refine r_aload_n E 4 0 rfl dX4_weigh_276 ?_
  refine r_getJ E fd_X4_87 rfl (Nat.le_of_ble_eq_true rfl) (adr_lt (Nat.le_of_ble_eq_true rfl)) dX4_weigh_277 ?_
  refine r_iload E x4 rfl dX4_weigh_280 ?_
  refine r_iload E x5 rfl dX4_weigh_282 ?_
  refine r_callSI E (m_X4_hasEither (EE_st E) (GX X) (gJ h1 4 0 8) x4 x5 h1 _ hw) lk_X4_127 (RM_mk (Nat.le_of_ble_eq_true rfl) (Nat.le_of_ble_eq_true rfl)) rfl rfl rfl rfl (Nat.le_of_ble_eq_true rfl) rfl rfl (Nat.le_of_ble_eq_true rfl) (Nat.le_of_ble_eq_true rfl) dX4_weigh_284 (fun r2 u9 hw => ?_)
  obtain ⟨rfl, zr2, hw⟩ := hw
  refine r_aload_n E 4 0 rfl dX4_weigh_287 ?_
  refine r_getJ E fd_X4_95 rfl (Nat.le_of_ble_eq_true rfl) (adr_lt (Nat.le_of_ble_eq_true rfl)) dX4_weigh_288 ?_
  refine r_iload E x4 rfl dX4_weigh_291 ?_
  refine r_callSNI E (m_X10_hasBit_ (EE_st E) (GX X) (gJ h1 4 0 9) x4 h1 _ hw) lk_X4_38 (RM_mk (Nat.le_of_ble_eq_true rfl) (Nat.le_of_ble_eq_true rfl)) rfl rfl rfl rfl (Nat.le_of_ble_eq_true rfl) rfl rfl (Nat.le_of_ble_eq_true rfl) (Nat.le_of_ble_eq_true rfl) dX4_weigh_293 (fun r3 u9 hw => ?_)
  obtain ⟨rfl, zr3, hw⟩ := hw
  refine r_if_eq E 315 (by decide) dX4_weigh_296 (fun c4 => ?_) (fun c4 => ?_)
  · have hw := ite_t hw c4
    exact GG_weak [true, true, false, false, false, false, false, false] rfl (t_X4_weigh_b315 h1 x1 x2 r2 E hE P22 hP22  hw)
  · have hw := ite_f hw c4
    refine r_aload_n E 4 0 rfl dX4_weigh_299 ?_
    refine r_getJ E fd_X4_95 rfl (Nat.le_of_ble_eq_true rfl) (adr_lt (Nat.le_of_ble_eq_true rfl)) dX4_weigh_300 ?_
    refine r_iload E x5 rfl dX4_weigh_303 ?_
    refine r_callSNI E (m_X10_hasBit_ (EE_st E) (GX X) (gJ h1 4 0 9) x5 h1 _ hw) lk_X4_38 (RM_mk (Nat.le_of_ble_eq_true rfl) (Nat.le_of_ble_eq_true rfl)) rfl rfl rfl rfl (Nat.le_of_ble_eq_true rfl) rfl rfl (Nat.le_of_ble_eq_true rfl) (Nat.le_of_ble_eq_true rfl) dX4_weigh_305 (fun r5 u9 hw => ?_)
    obtain ⟨rfl, zr5, hw⟩ := hw
    refine r_if_eq E 315 (by decide) dX4_weigh_308 (fun c6 => ?_) (fun c6 => ?_)
    · have hw := ite_t hw c6
      exact GG_weak [true, true, false, false, false, false, false, false] rfl (t_X4_weigh_b315 h1 x1 x2 r2 E hE P22 hP22  hw)
    · have hw := ite_f hw c6
      refine r_iconst E 1 rfl dX4_weigh_311 ?_
      refine r_goto E 316 (by decide) dX4_weigh_312 ?_
      exact GG_weak [true, true, false, false, false, false, false, false] rfl (t_X4_weigh_b316 h1 x1 x2 r2 1 E hE P22 hP22  hw)
set_option maxRecDepth 20000 in
theorem t_X4_weigh_b270 {X : Ctx} (h : Hp) (x1 : Int32) (x2 : Int32) (x4 : Int32) (x5 : Int32) (s1 : Int32) (s2 : Int32)  (E : EE X cX4_weigh RX4 8 3 69 0 0) {Q : Hp → Prop} (hE : ENDv X cX4_weigh Q NT 0 0) (P22 : Int32 → Hp → Prop) (hP22 : ∀ (y1 : Int32) (u : Hp), P22 y1 u → GG X 0 0 NT u [some (rf X 4 0), some (.int y1), none, none, none, none, none, none] 22 []) (hw : wp_X4_weigh_b270 x1 x2 x4 x5 s1 s2 h P22 Q) : GG X 0 0 NT h [some (rf X 4 0), some (.int x1), some (.int x2), none, some (.int x4), some (.int x5), none, none] 270 [.int s2, .int s1, rf X 4 0] := by
  unfold wp_X4_weigh_b270 at hw
  refine r_iconst E 0 rfl dX4_weigh_270 ?_
  exact GG_weak [true, true, true, false, true, true, false, false] rfl (t_X4_weigh_b271 h x1 x2 x4 x5 s1 s2 0 E hE P22 hP22  hw)
set_option maxRecDepth 20000 in
theorem t_X4_weigh_b206 {X : Ctx} (h : Hp) (x1 : Int32) (x4 : Int32) (x5 : Int32) (s1 : Int32) (s2 : Int32)  (E : EE X cX4_weigh RX4 8 3 69 0 0) {Q : Hp → Prop} (hE : ENDv X cX4_weigh Q NT 0 0) (P22 : Int32 → Hp → Prop) (hP22 : ∀ (y1 : Int32) (u : Hp), P22 y1 u → GG X 0 0 NT u [some (rf X 4 0), some (.int y1), none, none, none, none, none, none] 22 []) (hw : wp_X4_weigh_b206 x1 x4 x5 s1 s2 h P22 Q) : GG X 0 0 NT h [some (rf X 4 0), some (.int x1), none, none, some (.int x4), some (.int x5), none, none] 206 [.int s2, .int s1, rf X 4 0] := by
  unfold wp_X4_weigh_b206 at hw
  refine r_aload_n E 4 0 rfl dX4_weigh_206 ?_
  refine r_getJ E fd_X4_95 rfl (Nat.le_of_ble_eq_true rfl) (adr_lt (Nat.le_of_ble_eq_true rfl)) dX4_weigh_207 ?_
  refine r_iload E x4 rfl dX4_weigh_210 ?_
  refine r_iload E x5 rfl dX4_weigh_212 ?_
  refine r_callSI E (m_X4_hasEither (EE_st E) (GX X) (gJ h 4 0 9) x4 x5 h _ hw) lk_X4_127 (RM_mk (Nat.le_of_ble_eq_true rfl) (Nat.le_of_ble_eq_true rfl)) rfl rfl rfl rfl (Nat.le_of_ble_eq_true rfl) rfl rfl (Nat.le_of_ble_eq_true rfl) (Nat.le_of_ble_eq_true rfl) dX4_weigh_214 (fun r1 u9 hw => ?_)
  obtain ⟨rfl, zr1, hw⟩ := hw
  refine r_callVV E (m_X4_noteSure (EE_st E) (GX X) s1 s2 r1 h _ hw) lk_X4_124 (RM_mk (Nat.le_of_ble_eq_true rfl) (Nat.le_of_ble_eq_true rfl)) rfl rfl rfl rfl (Nat.le_of_ble_eq_true rfl) (adr_lt (Nat.le_of_ble_eq_true rfl)) (Nat.le_of_ble_eq_true rfl) rfl rfl (Nat.le_of_ble_eq_true rfl) (Nat.le_of_ble_eq_true rfl) dX4_weigh_217 (fun h2 hw => ?_)
  refine r_goto E 403 (by decide) dX4_weigh_220 ?_
  exact GG_weak [true, true, false, false, false, false, false, false] rfl (t_X4_weigh_b403 h2 x1 E hE P22 hP22  hw)
set_option maxRecDepth 20000 in
theorem t_X4_weigh_b205 {X : Ctx} (h : Hp) (x1 : Int32) (x4 : Int32) (x5 : Int32) (s1 : Int32)  (E : EE X cX4_weigh RX4 8 3 69 0 0) {Q : Hp → Prop} (hE : ENDv X cX4_weigh Q NT 0 0) (P22 : Int32 → Hp → Prop) (hP22 : ∀ (y1 : Int32) (u : Hp), P22 y1 u → GG X 0 0 NT u [some (rf X 4 0), some (.int y1), none, none, none, none, none, none] 22 []) (hw : wp_X4_weigh_b205 x1 x4 x5 s1 h P22 Q) : GG X 0 0 NT h [some (rf X 4 0), some (.int x1), none, none, some (.int x4), some (.int x5), none, none] 205 [.int s1, rf X 4 0] := by
  unfold wp_X4_weigh_b205 at hw
  refine r_iconst E 0 rfl dX4_weigh_205 ?_
  exact GG_weak [true, true, false, false, true, true, false, false] rfl (t_X4_weigh_b206 h x1 x4 x5 s1 0 E hE P22 hP22  hw)
set_option maxRecDepth 20000 in
theorem t_X4_weigh_b161 {X : Ctx} (h : Hp) (x1 : Int32) (x2 : Int32) (x4 : Int32) (x5 : Int32) (s1 : Int32) (s2 : Int32)  (E : EE X cX4_weigh RX4 8 3 69 0 0) {Q : Hp → Prop} (hE : ENDv X cX4_weigh Q NT 0 0) (P22 : Int32 → Hp → Prop) (hP22 : ∀ (y1 : Int32) (u : Hp), P22 y1 u → GG X 0 0 NT u [some (rf X 4 0), some (.int y1), none, none, none, none, none, none] 22 []) (hw : wp_X4_weigh_b161 x1 x2 x4 x5 s1 s2 h P22 Q) : GG X 0 0 NT h [some (rf X 4 0), some (.int x1), some (.int x2), none, some (.int x4), some (.int x5), none, none] 161 [.int s2, .int s1, rf X 4 0] := by
  unfold wp_X4_weigh_b161 at hw
  refine r_aload_n E 4 0 rfl dX4_weigh_161 ?_
  refine r_getJ E fd_X4_92 rfl (Nat.le_of_ble_eq_true rfl) (adr_lt (Nat.le_of_ble_eq_true rfl)) dX4_weigh_162 ?_
  refine r_iload E x4 rfl dX4_weigh_165 ?_
  refine r_iload E x5 rfl dX4_weigh_167 ?_
  refine r_callSI E (m_X4_hasEither (EE_st E) (GX X) (gJ h 4 0 7) x4 x5 h _ hw) lk_X4_127 (RM_mk (Nat.le_of_ble_eq_true rfl) (Nat.le_of_ble_eq_true rfl)) rfl rfl rfl rfl (Nat.le_of_ble_eq_true rfl) rfl rfl (Nat.le_of_ble_eq_true rfl) (Nat.le_of_ble_eq_true rfl) dX4_weigh_169 (fun r1 u9 hw => ?_)
  obtain ⟨rfl, zr1, hw⟩ := hw
  refine r_callVV E (m_X4_noteMay (EE_st E) (GX X) s1 s2 r1 h _ hw) lk_X4_120 (RM_mk (Nat.le_of_ble_eq_true rfl) (Nat.le_of_ble_eq_true rfl)) rfl rfl rfl rfl (Nat.le_of_ble_eq_true rfl) (adr_lt (Nat.le_of_ble_eq_true rfl)) (Nat.le_of_ble_eq_true rfl) rfl rfl (Nat.le_of_ble_eq_true rfl) (Nat.le_of_ble_eq_true rfl) dX4_weigh_172 (fun h2 hw => ?_)
  refine r_aload_n E 4 0 rfl dX4_weigh_175 ?_
  refine r_iload_n E x2 rfl dX4_weigh_176 ?_
  refine r_aload_n E 4 0 rfl dX4_weigh_177 ?_
  refine r_getJ E fd_X4_87 rfl (Nat.le_of_ble_eq_true rfl) (adr_lt (Nat.le_of_ble_eq_true rfl)) dX4_weigh_178 ?_
  refine r_iload E x4 rfl dX4_weigh_181 ?_
  refine r_callSNI E (m_X10_hasBit_ (EE_st E) (GX X) (gJ h2 4 0 8) x4 h2 _ hw) lk_X4_38 (RM_mk (Nat.le_of_ble_eq_true rfl) (Nat.le_of_ble_eq_true rfl)) rfl rfl rfl rfl (Nat.le_of_ble_eq_true rfl) rfl rfl (Nat.le_of_ble_eq_true rfl) (Nat.le_of_ble_eq_true rfl) dX4_weigh_183 (fun r3 u9 hw => ?_)
  obtain ⟨rfl, zr3, hw⟩ := hw
  refine r_if_eq E 205 (by decide) dX4_weigh_186 (fun c4 => ?_) (fun c4 => ?_)
  · have hw := ite_t hw c4
    exact GG_weak [true, true, false, false, true, true, false, false] rfl (t_X4_weigh_b205 h2 x1 x4 x5 x2 E hE P22 hP22  hw)
  · have hw := ite_f hw c4
    refine r_aload_n E 4 0 rfl dX4_weigh_189 ?_
    refine r_getJ E fd_X4_87 rfl (Nat.le_of_ble_eq_true rfl) (adr_lt (Nat.le_of_ble_eq_true rfl)) dX4_weigh_190 ?_
    refine r_iload E x5 rfl dX4_weigh_193 ?_
    refine r_callSNI E (m_X10_hasBit_ (EE_st E) (GX X) (gJ h2 4 0 8) x5 h2 _ hw) lk_X4_38 (RM_mk (Nat.le_of_ble_eq_true rfl) (Nat.le_of_ble_eq_true rfl)) rfl rfl rfl rfl (Nat.le_of_ble_eq_true rfl) rfl rfl (Nat.le_of_ble_eq_true rfl) (Nat.le_of_ble_eq_true rfl) dX4_weigh_195 (fun r5 u9 hw => ?_)
    obtain ⟨rfl, zr5, hw⟩ := hw
    refine r_if_eq E 205 (by decide) dX4_weigh_198 (fun c6 => ?_) (fun c6 => ?_)
    · have hw := ite_t hw c6
      exact GG_weak [true, true, false, false, true, true, false, false] rfl (t_X4_weigh_b205 h2 x1 x4 x5 x2 E hE P22 hP22  hw)
    · have hw := ite_f hw c6
      refine r_iconst E 1 rfl dX4_weigh_201 ?_
      refine r_goto E 206 (by decide) dX4_weigh_202 ?_
      exact GG_weak [true, true, false, false, true, true, false, false] rfl (t_X4_weigh_b206 h2 x1 x4 x5 x2 1 E hE P22 hP22  hw)
set_option maxRecDepth 20000 in
theorem t_X4_weigh_b160 {X : Ctx} (h : Hp) (x1 : Int32) (x2 : Int32) (x4 : Int32) (x5 : Int32) (s1 : Int32)  (E : EE X cX4_weigh RX4 8 3 69 0 0) {Q : Hp → Prop} (hE : ENDv X cX4_weigh Q NT 0 0) (P22 : Int32 → Hp → Prop) (hP22 : ∀ (y1 : Int32) (u : Hp), P22 y1 u → GG X 0 0 NT u [some (rf X 4 0), some (.int y1), none, none, none, none, none, none] 22 []) (hw : wp_X4_weigh_b160 x1 x2 x4 x5 s1 h P22 Q) : GG X 0 0 NT h [some (rf X 4 0), some (.int x1), some (.int x2), none, some (.int x4), some (.int x5), none, none] 160 [.int s1, rf X 4 0] := by
  unfold wp_X4_weigh_b160 at hw
  refine r_iconst E 0 rfl dX4_weigh_160 ?_
  exact GG_weak [true, true, true, false, true, true, false, false] rfl (t_X4_weigh_b161 h x1 x2 x4 x5 s1 0 E hE P22 hP22  hw)
set_option maxRecDepth 20000 in
theorem t_X4_weigh_b22F {X : Ctx} (h : Hp) (x1 : Int32)  (E : EE X cX4_weigh RX4 8 3 69 0 0) {Q : Hp → Prop} (hE : ENDv X cX4_weigh Q NT 0 0)  (P22 : Int32 → Hp → Prop) (hP22 : ∀ (y1 : Int32) (u : Hp), P22 y1 u → GG X 0 0 NT u [some (rf X 4 0), some (.int y1), none, none, none, none, none, none] 22 []) (hw : wp_X4_weigh_b22F    Q P22 x1 h) : GG X 0 0 NT h [some (rf X 4 0), some (.int x1), none, none, none, none, none, none] 22 [] := by
  unfold wp_X4_weigh_b22F at hw
  refine r_iload_n E x1 rfl dX4_weigh_22 ?_
  refine r_aload_n E 4 0 rfl dX4_weigh_23 ?_
  refine r_getI E fd_X4_58 rfl (Nat.le_of_ble_eq_true rfl) (adr_lt (Nat.le_of_ble_eq_true rfl)) dX4_weigh_24 ?_
  refine r_icmp_ge E 409 (by decide) dX4_weigh_27 (fun c1 => ?_) (fun c1 => ?_)
  · have hw := ite_t hw c1
    exact hE _ _ _ _ _ (Nat.le_of_ble_eq_true rfl) (Nat.le_of_ble_eq_true rfl) dX4_weigh_409 hw
  · have hw := ite_f hw c1
    refine r_aload_n E 4 0 rfl dX4_weigh_30 ?_
    refine r_getS E fd_X4_18 (t := 0) (j1 := 28) rfl rfl rfl rfl (Nat.le_of_ble_eq_true rfl) (adr_lt (Nat.le_of_ble_eq_true rfl)) dX4_weigh_31 ?_
    refine r_iload_n E x1 rfl dX4_weigh_34 ?_
    obtain ⟨i2, hw⟩ := hw
    refine r_iald E rfl rfl rfl (Nat.le_of_ble_eq_true rfl) (adr_lt (Nat.le_of_ble_eq_true rfl)) i2 dX4_weigh_35 ?_
    refine GG_topI fun v3 hv3 => ?_
    have hw := hw v3 hv3
    refine r_istore_n E [some (rf X 4 0), some (.int x1), some (.int v3), none, none, none, none, none] rfl (Nat.le_of_ble_eq_true rfl) rfl dX4_weigh_36 ?_
    refine r_aload_n E 4 0 rfl dX4_weigh_37 ?_
    refine r_getS E fd_X4_22 (t := 0) (j1 := 9) rfl rfl rfl rfl (Nat.le_of_ble_eq_true rfl) (adr_lt (Nat.le_of_ble_eq_true rfl)) dX4_weigh_38 ?_
    refine r_getSN E fd_X4_44 (t := 0) (j1 := 12) rfl rfl rfl rfl (Nat.le_of_ble_eq_true rfl) (adr_lt (Nat.le_of_ble_eq_true rfl)) dX4_weigh_41 ?_
    refine r_iload_n E v3 rfl dX4_weigh_44 ?_
    obtain ⟨i4, hw⟩ := hw
    refine r_cald E rfl rfl rfl (Nat.le_of_ble_eq_true rfl) (adr_lt (Nat.le_of_ble_eq_true rfl)) i4 dX4_weigh_45 ?_
    refine GG_topI fun v5 hv5 => ?_
    have hw := hw v5 hv5
    refine r_istore_n E [some (rf X 4 0), some (.int x1), some (.int v3), some (.int v5), none, none, none, none] rfl (Nat.le_of_ble_eq_true rfl) rfl dX4_weigh_46 ?_
    refine r_aload_n E 4 0 rfl dX4_weigh_47 ?_
    refine r_getS E fd_X4_22 (t := 0) (j1 := 9) rfl rfl rfl rfl (Nat.le_of_ble_eq_true rfl) (adr_lt (Nat.le_of_ble_eq_true rfl)) dX4_weigh_48 ?_
    refine r_getSN E fd_X4_52 (t := 0) (j1 := 13) rfl rfl rfl rfl (Nat.le_of_ble_eq_true rfl) (adr_lt (Nat.le_of_ble_eq_true rfl)) dX4_weigh_51 ?_
    refine r_iload_n E v3 rfl dX4_weigh_54 ?_
    refine r_iald E rfl rfl rfl (Nat.le_of_ble_eq_true rfl) (adr_lt (Nat.le_of_ble_eq_true rfl)) i4 dX4_weigh_55 ?_
    refine GG_topI fun v6 hv6 => ?_
    have hw := hw v6 hv6
    refine r_istore E [some (rf X 4 0), some (.int x1), some (.int v3), some (.int v5), some (.int v6), none, none, none] (Nat.le_of_ble_eq_true rfl) rfl dX4_weigh_56 ?_
    refine r_aload_n E 4 0 rfl dX4_weigh_58 ?_
    refine r_getS E fd_X4_22 (t := 0) (j1 := 9) rfl rfl rfl rfl (Nat.le_of_ble_eq_true rfl) (adr_lt (Nat.le_of_ble_eq_true rfl)) dX4_weigh_59 ?_
    refine r_getSN E fd_X4_55 (t := 0) (j1 := 14) rfl rfl rfl rfl (Nat.le_of_ble_eq_true rfl) (adr_lt (Nat.le_of_ble_eq_true rfl)) dX4_weigh_62 ?_
    refine r_iload_n E v3 rfl dX4_weigh_65 ?_
    refine r_iald E rfl rfl rfl (Nat.le_of_ble_eq_true rfl) (adr_lt (Nat.le_of_ble_eq_true rfl)) i4 dX4_weigh_66 ?_
    refine GG_topI fun v7 hv7 => ?_
    have hw := hw v7 hv7
    refine r_istore E [some (rf X 4 0), some (.int x1), some (.int v3), some (.int v5), some (.int v6), some (.int v7), none, none] (Nat.le_of_ble_eq_true rfl) rfl dX4_weigh_67 ?_
    refine r_iload_n E v5 rfl dX4_weigh_69 ?_
    refine r_bipush E 33 rfl dX4_weigh_70 ?_
    refine r_icmp_ne E 124 (by decide) dX4_weigh_72 (fun c8 => ?_) (fun c8 => ?_)
    · have hw := ite_t hw c8
      refine r_aload_n E 4 0 rfl dX4_weigh_75 ?_
      refine r_iload_n E v3 rfl dX4_weigh_76 ?_
      refine r_aload_n E 4 0 rfl dX4_weigh_77 ?_
      refine r_getJ E fd_X4_92 rfl (Nat.le_of_ble_eq_true rfl) (adr_lt (Nat.le_of_ble_eq_true rfl)) dX4_weigh_78 ?_
      refine r_iload E v6 rfl dX4_weigh_81 ?_
      refine r_callSNI E (m_X10_hasBit_ (EE_st E) (GX X) (gJ h 4 0 7) v6 h _ hw) lk_X4_38 (RM_mk (Nat.le_of_ble_eq_true rfl) (Nat.le_of_ble_eq_true rfl)) rfl rfl rfl rfl (Nat.le_of_ble_eq_true rfl) rfl rfl (Nat.le_of_ble_eq_true rfl) (Nat.le_of_ble_eq_true rfl) dX4_weigh_83 (fun r9 u9 hw => ?_)
      obtain ⟨rfl, zr9, hw⟩ := hw
      refine r_aload_n E 4 0 rfl dX4_weigh_86 ?_
      refine r_getJ E fd_X4_84 rfl (Nat.le_of_ble_eq_true rfl) (adr_lt (Nat.le_of_ble_eq_true rfl)) dX4_weigh_87 ?_
      refine r_iload E v6 rfl dX4_weigh_90 ?_
      refine r_callSNI E (m_X10_hasBit_ (EE_st E) (GX X) (gJ h 4 0 6) v6 h _ hw) lk_X4_38 (RM_mk (Nat.le_of_ble_eq_true rfl) (Nat.le_of_ble_eq_true rfl)) rfl rfl rfl rfl (Nat.le_of_ble_eq_true rfl) rfl rfl (Nat.le_of_ble_eq_true rfl) (Nat.le_of_ble_eq_true rfl) dX4_weigh_92 (fun r10 u9 hw => ?_)
      obtain ⟨rfl, zr10, hw⟩ := hw
      refine r_callVV E (m_X4_noteMay (EE_st E) (GX X) v3 r9 r10 h _ hw) lk_X4_120 (RM_mk (Nat.le_of_ble_eq_true rfl) (Nat.le_of_ble_eq_true rfl)) rfl rfl rfl rfl (Nat.le_of_ble_eq_true rfl) (adr_lt (Nat.le_of_ble_eq_true rfl)) (Nat.le_of_ble_eq_true rfl) rfl rfl (Nat.le_of_ble_eq_true rfl) (Nat.le_of_ble_eq_true rfl) dX4_weigh_95 (fun h11 hw => ?_)
      refine r_aload_n E 4 0 rfl dX4_weigh_98 ?_
      refine r_iload_n E v3 rfl dX4_weigh_99 ?_
      refine r_aload_n E 4 0 rfl dX4_weigh_100 ?_
      refine r_getJ E fd_X4_95 rfl (Nat.le_of_ble_eq_true rfl) (adr_lt (Nat.le_of_ble_eq_true rfl)) dX4_weigh_101 ?_
      refine r_iload E v6 rfl dX4_weigh_104 ?_
      refine r_callSNI E (m_X10_hasBit_ (EE_st E) (GX X) (gJ h11 4 0 9) v6 h11 _ hw) lk_X4_38 (RM_mk (Nat.le_of_ble_eq_true rfl) (Nat.le_of_ble_eq_true rfl)) rfl rfl rfl rfl (Nat.le_of_ble_eq_true rfl) rfl rfl (Nat.le_of_ble_eq_true rfl) (Nat.le_of_ble_eq_true rfl) dX4_weigh_106 (fun r12 u9 hw => ?_)
      obtain ⟨rfl, zr12, hw⟩ := hw
      refine r_aload_n E 4 0 rfl dX4_weigh_109 ?_
      refine r_getJ E fd_X4_87 rfl (Nat.le_of_ble_eq_true rfl) (adr_lt (Nat.le_of_ble_eq_true rfl)) dX4_weigh_110 ?_
      refine r_iload E v6 rfl dX4_weigh_113 ?_
      refine r_callSNI E (m_X10_hasBit_ (EE_st E) (GX X) (gJ h11 4 0 8) v6 h11 _ hw) lk_X4_38 (RM_mk (Nat.le_of_ble_eq_true rfl) (Nat.le_of_ble_eq_true rfl)) rfl rfl rfl rfl (Nat.le_of_ble_eq_true rfl) rfl rfl (Nat.le_of_ble_eq_true rfl) (Nat.le_of_ble_eq_true rfl) dX4_weigh_115 (fun r13 u9 hw => ?_)
      obtain ⟨rfl, zr13, hw⟩ := hw
      refine r_callVV E (m_X4_noteSure (EE_st E) (GX X) v3 r12 r13 h11 _ hw) lk_X4_124 (RM_mk (Nat.le_of_ble_eq_true rfl) (Nat.le_of_ble_eq_true rfl)) rfl rfl rfl rfl (Nat.le_of_ble_eq_true rfl) (adr_lt (Nat.le_of_ble_eq_true rfl)) (Nat.le_of_ble_eq_true rfl) rfl rfl (Nat.le_of_ble_eq_true rfl) (Nat.le_of_ble_eq_true rfl) dX4_weigh_118 (fun h14 hw => ?_)
      refine r_goto E 403 (by decide) dX4_weigh_121 ?_
      exact GG_weak [true, true, false, false, false, false, false, false] rfl (t_X4_weigh_b403 h14 x1 E hE P22 hP22  hw)
    · have hw := ite_f hw c8
      refine r_iload_n E v5 rfl dX4_weigh_124 ?_
      refine r_bipush E 38 rfl dX4_weigh_125 ?_
      refine r_icmp_ne E 223 (by decide) dX4_weigh_127 (fun c15 => ?_) (fun c15 => ?_)
      · have hw := ite_t hw c15
        refine r_aload_n E 4 0 rfl dX4_weigh_130 ?_
        refine r_iload_n E v3 rfl dX4_weigh_131 ?_
        refine r_aload_n E 4 0 rfl dX4_weigh_132 ?_
        refine r_getJ E fd_X4_84 rfl (Nat.le_of_ble_eq_true rfl) (adr_lt (Nat.le_of_ble_eq_true rfl)) dX4_weigh_133 ?_
        refine r_iload E v6 rfl dX4_weigh_136 ?_
        refine r_callSNI E (m_X10_hasBit_ (EE_st E) (GX X) (gJ h 4 0 6) v6 h _ hw) lk_X4_38 (RM_mk (Nat.le_of_ble_eq_true rfl) (Nat.le_of_ble_eq_true rfl)) rfl rfl rfl rfl (Nat.le_of_ble_eq_true rfl) rfl rfl (Nat.le_of_ble_eq_true rfl) (Nat.le_of_ble_eq_true rfl) dX4_weigh_138 (fun r16 u9 hw => ?_)
        obtain ⟨rfl, zr16, hw⟩ := hw
        refine r_if_eq E 160 (by decide) dX4_weigh_141 (fun c17 => ?_) (fun c17 => ?_)
        · have hw := ite_t hw c17
          exact GG_weak [true, true, true, false, true, true, false, false] rfl (t_X4_weigh_b160 h x1 v3 v6 v7 v3 E hE P22 hP22  hw)
        · have hw := ite_f hw c17
          refine r_aload_n E 4 0 rfl dX4_weigh_144 ?_
          refine r_getJ E fd_X4_84 rfl (Nat.le_of_ble_eq_true rfl) (adr_lt (Nat.le_of_ble_eq_true rfl)) dX4_weigh_145 ?_
          refine r_iload E v7 rfl dX4_weigh_148 ?_
          refine r_callSNI E (m_X10_hasBit_ (EE_st E) (GX X) (gJ h 4 0 6) v7 h _ hw) lk_X4_38 (RM_mk (Nat.le_of_ble_eq_true rfl) (Nat.le_of_ble_eq_true rfl)) rfl rfl rfl rfl (Nat.le_of_ble_eq_true rfl) rfl rfl (Nat.le_of_ble_eq_true rfl) (Nat.le_of_ble_eq_true rfl) dX4_weigh_150 (fun r18 u9 hw => ?_)
          obtain ⟨rfl, zr18, hw⟩ := hw
          refine r_if_eq E 160 (by decide) dX4_weigh_153 (fun c19 => ?_) (fun c19 => ?_)
          · have hw := ite_t hw c19
            exact GG_weak [true, true, true, false, true, true, false, false] rfl (t_X4_weigh_b160 h x1 v3 v6 v7 v3 E hE P22 hP22  hw)
          · have hw := ite_f hw c19
            refine r_iconst E 1 rfl dX4_weigh_156 ?_
            refine r_goto E 161 (by decide) dX4_weigh_157 ?_
            exact GG_weak [true, true, true, false, true, true, false, false] rfl (t_X4_weigh_b161 h x1 v3 v6 v7 v3 1 E hE P22 hP22  hw)
      · have hw := ite_f hw c15
        refine r_iload_n E v5 rfl dX4_weigh_223 ?_
        refine r_bipush E 124 rfl dX4_weigh_224 ?_
        refine r_icmp_ne E 322 (by decide) dX4_weigh_226 (fun c20 => ?_) (fun c20 => ?_)
        · have hw := ite_t hw c20
          refine r_aload_n E 4 0 rfl dX4_weigh_229 ?_
          refine r_iload_n E v3 rfl dX4_weigh_230 ?_
          refine r_aload_n E 4 0 rfl dX4_weigh_231 ?_
          refine r_getJ E fd_X4_84 rfl (Nat.le_of_ble_eq_true rfl) (adr_lt (Nat.le_of_ble_eq_true rfl)) dX4_weigh_232 ?_
          refine r_iload E v6 rfl dX4_weigh_235 ?_
          refine r_iload E v7 rfl dX4_weigh_237 ?_
          refine r_callSI E (m_X4_hasEither (EE_st E) (GX X) (gJ h 4 0 6) v6 v7 h _ hw) lk_X4_127 (RM_mk (Nat.le_of_ble_eq_true rfl) (Nat.le_of_ble_eq_true rfl)) rfl rfl rfl rfl (Nat.le_of_ble_eq_true rfl) rfl rfl (Nat.le_of_ble_eq_true rfl) (Nat.le_of_ble_eq_true rfl) dX4_weigh_239 (fun r21 u9 hw => ?_)
          obtain ⟨rfl, zr21, hw⟩ := hw
          refine r_aload_n E 4 0 rfl dX4_weigh_242 ?_
          refine r_getJ E fd_X4_92 rfl (Nat.le_of_ble_eq_true rfl) (adr_lt (Nat.le_of_ble_eq_true rfl)) dX4_weigh_243 ?_
          refine r_iload E v6 rfl dX4_weigh_246 ?_
          refine r_callSNI E (m_X10_hasBit_ (EE_st E) (GX X) (gJ h 4 0 7) v6 h _ hw) lk_X4_38 (RM_mk (Nat.le_of_ble_eq_true rfl) (Nat.le_of_ble_eq_true rfl)) rfl rfl rfl rfl (Nat.le_of_ble_eq_true rfl) rfl rfl (Nat.le_of_ble_eq_true rfl) (Nat.le_of_ble_eq_true rfl) dX4_weigh_248 (fun r22 u9 hw => ?_)
          obtain ⟨rfl, zr22, hw⟩ := hw
          refine r_if_eq E 270 (by decide) dX4_weigh_251 (fun c23 => ?_) (fun c23 => ?_)
          · have hw := ite_t hw c23
            exact GG_weak [true, true, true, false, true, true, false, false] rfl (t_X4_weigh_b270 h x1 v3 v6 v7 v3 r21 E hE P22 hP22  hw)
          · have hw := ite_f hw c23
            refine r_aload_n E 4 0 rfl dX4_weigh_254 ?_
            refine r_getJ E fd_X4_92 rfl (Nat.le_of_ble_eq_true rfl) (adr_lt (Nat.le_of_ble_eq_true rfl)) dX4_weigh_255 ?_
            refine r_iload E v7 rfl dX4_weigh_258 ?_
            refine r_callSNI E (m_X10_hasBit_ (EE_st E) (GX X) (gJ h 4 0 7) v7 h _ hw) lk_X4_38 (RM_mk (Nat.le_of_ble_eq_true rfl) (Nat.le_of_ble_eq_true rfl)) rfl rfl rfl rfl (Nat.le_of_ble_eq_true rfl) rfl rfl (Nat.le_of_ble_eq_true rfl) (Nat.le_of_ble_eq_true rfl) dX4_weigh_260 (fun r24 u9 hw => ?_)
            obtain ⟨rfl, zr24, hw⟩ := hw
            refine r_if_eq E 270 (by decide) dX4_weigh_263 (fun c25 => ?_) (fun c25 => ?_)
            · have hw := ite_t hw c25
              exact GG_weak [true, true, true, false, true, true, false, false] rfl (t_X4_weigh_b270 h x1 v3 v6 v7 v3 r21 E hE P22 hP22  hw)
            · have hw := ite_f hw c25
              refine r_iconst E 1 rfl dX4_weigh_266 ?_
              refine r_goto E 271 (by decide) dX4_weigh_267 ?_
              exact GG_weak [true, true, true, false, true, true, false, false] rfl (t_X4_weigh_b271 h x1 v3 v6 v7 v3 r21 1 E hE P22 hP22  hw)
        · have hw := ite_f hw c20
          refine r_iload_n E v5 rfl dX4_weigh_322 ?_
          refine r_bipush E 107 rfl dX4_weigh_323 ?_
          refine r_icmp_ne E 345 (by decide) dX4_weigh_325 (fun c26 => ?_) (fun c26 => ?_)
          · have hw := ite_t hw c26
            refine r_aload_n E 4 0 rfl dX4_weigh_328 ?_
            refine r_iload_n E v3 rfl dX4_weigh_329 ?_
            refine r_iconst E 1 rfl dX4_weigh_330 ?_
            refine r_iconst E 1 rfl dX4_weigh_331 ?_
            refine r_callVV E (m_X4_noteMay (EE_st E) (GX X) v3 1 1 h _ hw) lk_X4_120 (RM_mk (Nat.le_of_ble_eq_true rfl) (Nat.le_of_ble_eq_true rfl)) rfl rfl rfl rfl (Nat.le_of_ble_eq_true rfl) (adr_lt (Nat.le_of_ble_eq_true rfl)) (Nat.le_of_ble_eq_true rfl) rfl rfl (Nat.le_of_ble_eq_true rfl) (Nat.le_of_ble_eq_true rfl) dX4_weigh_332 (fun h27 hw => ?_)
            refine r_aload_n E 4 0 rfl dX4_weigh_335 ?_
            refine r_iload_n E v3 rfl dX4_weigh_336 ?_
            refine r_iconst E 1 rfl dX4_weigh_337 ?_
            refine r_iconst E 1 rfl dX4_weigh_338 ?_
            refine r_callVV E (m_X4_noteSure (EE_st E) (GX X) v3 1 1 h27 _ hw) lk_X4_124 (RM_mk (Nat.le_of_ble_eq_true rfl) (Nat.le_of_ble_eq_true rfl)) rfl rfl rfl rfl (Nat.le_of_ble_eq_true rfl) (adr_lt (Nat.le_of_ble_eq_true rfl)) (Nat.le_of_ble_eq_true rfl) rfl rfl (Nat.le_of_ble_eq_true rfl) (Nat.le_of_ble_eq_true rfl) dX4_weigh_339 (fun h28 hw => ?_)
            refine r_goto E 403 (by decide) dX4_weigh_342 ?_
            exact GG_weak [true, true, false, false, false, false, false, false] rfl (t_X4_weigh_b403 h28 x1 E hE P22 hP22  hw)
          · have hw := ite_f hw c26
            refine r_aload_n E 4 0 rfl dX4_weigh_345 ?_
            refine r_getS E fd_X4_10 (t := 0) (j1 := 8) rfl rfl rfl rfl (Nat.le_of_ble_eq_true rfl) (adr_lt (Nat.le_of_ble_eq_true rfl)) dX4_weigh_346 ?_
            refine r_iload_n E v5 rfl dX4_weigh_349 ?_
            refine r_iload E v6 rfl dX4_weigh_350 ?_
            refine r_callVI E (m_X8_mayHold (EE_st E) (GX X) v5 v6 h _ hw) lk_X4_131 (RM_mk (Nat.le_of_ble_eq_true rfl) (Nat.le_of_ble_eq_true rfl)) rfl rfl rfl rfl (Nat.le_of_ble_eq_true rfl) (adr_lt (Nat.le_of_ble_eq_true rfl)) (Nat.le_of_ble_eq_true rfl) rfl rfl (Nat.le_of_ble_eq_true rfl) (Nat.le_of_ble_eq_true rfl) dX4_weigh_352 (fun r29 u9 hw => ?_)
            obtain ⟨rfl, zr29, hw⟩ := hw
            refine r_istore E [some (rf X 4 0), some (.int x1), some (.int v3), some (.int v5), some (.int v6), some (.int v7), some (.int r29), none] (Nat.le_of_ble_eq_true rfl) rfl dX4_weigh_355 ?_
            refine r_aload_n E 4 0 rfl dX4_weigh_357 ?_
            refine r_getS E fd_X4_10 (t := 0) (j1 := 8) rfl rfl rfl rfl (Nat.le_of_ble_eq_true rfl) (adr_lt (Nat.le_of_ble_eq_true rfl)) dX4_weigh_358 ?_
            refine r_iload_n E v5 rfl dX4_weigh_361 ?_
            refine r_iload E v6 rfl dX4_weigh_362 ?_
            refine r_callVI E (m_X8_mayFail (EE_st E) (GX X) v5 v6 h _ hw) lk_X4_134 (RM_mk (Nat.le_of_ble_eq_true rfl) (Nat.le_of_ble_eq_true rfl)) rfl rfl rfl rfl (Nat.le_of_ble_eq_true rfl) (adr_lt (Nat.le_of_ble_eq_true rfl)) (Nat.le_of_ble_eq_true rfl) rfl rfl (Nat.le_of_ble_eq_true rfl) (Nat.le_of_ble_eq_true rfl) dX4_weigh_364 (fun r30 u9 hw => ?_)
            obtain ⟨rfl, zr30, hw⟩ := hw
            refine r_istore E [some (rf X 4 0), some (.int x1), some (.int v3), some (.int v5), some (.int v6), some (.int v7), some (.int r29), some (.int r30)] (Nat.le_of_ble_eq_true rfl) rfl dX4_weigh_367 ?_
            refine r_aload_n E 4 0 rfl dX4_weigh_369 ?_
            refine r_iload_n E v3 rfl dX4_weigh_370 ?_
            refine r_iload E r29 rfl dX4_weigh_371 ?_
            refine r_iload E r30 rfl dX4_weigh_373 ?_
            refine r_callVV E (m_X4_noteMay (EE_st E) (GX X) v3 r29 r30 h _ hw) lk_X4_120 (RM_mk (Nat.le_of_ble_eq_true rfl) (Nat.le_of_ble_eq_true rfl)) rfl rfl rfl rfl (Nat.le_of_ble_eq_true rfl) (adr_lt (Nat.le_of_ble_eq_true rfl)) (Nat.le_of_ble_eq_true rfl) rfl rfl (Nat.le_of_ble_eq_true rfl) (Nat.le_of_ble_eq_true rfl) dX4_weigh_375 (fun h31 hw => ?_)
            refine r_aload_n E 4 0 rfl dX4_weigh_378 ?_
            refine r_iload_n E v3 rfl dX4_weigh_379 ?_
            refine r_iload E r30 rfl dX4_weigh_380 ?_
            refine r_if_ne E 389 (by decide) dX4_weigh_382 (fun c32 => ?_) (fun c32 => ?_)
            · have hw := ite_t hw c32
              refine r_iconst E 1 rfl dX4_weigh_385 ?_
              refine r_goto E 390 (by decide) dX4_weigh_386 ?_
              exact GG_weak [true, true, false, false, false, false, true, false] rfl (t_X4_weigh_b390 h31 x1 r29 v3 1 E hE P22 hP22  hw)
            · have hw := ite_f hw c32
              refine r_iconst E 0 rfl dX4_weigh_389 ?_
              exact GG_weak [true, true, false, false, false, false, true, false] rfl (t_X4_weigh_b390 h31 x1 r29 v3 0 E hE P22 hP22  hw)
set_option maxRecDepth 20000 in
theorem t_X4_weigh_b22 {X : Ctx} (h : Hp) (x1 : Int32)  (E : EE X cX4_weigh RX4 8 3 69 0 0) {Q : Hp → Prop} (hE : ENDv X cX4_weigh Q NT 0 0)  (hw : wp_X4_weigh_b22 x1 h  Q) : GG X 0 0 NT h [some (rf X 4 0), some (.int x1), none, none, none, none, none, none] 22 [] :=
  hw (fun y1 u => GG X 0 0 NT u [some (rf X 4 0), some (.int y1), none, none, none, none, none, none] 22 []) (fun y1 u hq => t_X4_weigh_b22F u y1  E hE  (fun y1 u => GG X 0 0 NT u [some (rf X 4 0), some (.int y1), none, none, none, none, none, none] 22 []) (fun y1 u q => q) hq)
set_option maxRecDepth 20000 in
theorem m_X4_weigh {l : Launch} (hl : l.stackTraces = false) (G : Gq)   (h : Hp) (Q : Hp → Prop) (hw : wp_X4_weigh  h Q) : MV l G yX4_weigh cX4_weigh 8 none rm_X4_weigh NT NT h (fun r => [r 4 0]) Q := by
  refine MV_of (L0 := (fun X => [some (rf X 4 0), none, none, none, none, none, none, none])) hl (by decide +kernel) rfl (fun _ => Nat.le_of_ble_eq_true rfl) (fun _ => rfl) fun X hXl hXG E hE => ?_
  subst hXl; subst hXG
  unfold wp_X4_weigh at hw
  refine r_aload_n E 4 0 rfl dX4_weigh_0 ?_
  refine r_lconst E 0 rfl dX4_weigh_1 ?_
  refine r_putJ E fd_X4_84 rfl rfl (Nat.le_of_ble_eq_true rfl) (adr_lt (Nat.le_of_ble_eq_true rfl)) rfl dX4_weigh_2 ?_
  refine GG_toph fun h1 hh1 => ?_
  have hw := hw h1 hh1
  refine r_aload_n E 4 0 rfl dX4_weigh_5 ?_
  refine r_lconst E 0 rfl dX4_weigh_6 ?_
  refine r_putJ E fd_X4_92 rfl rfl (Nat.le_of_ble_eq_true rfl) (adr_lt (Nat.le_of_ble_eq_true rfl)) rfl dX4_weigh_7 ?_
  refine GG_toph fun h2 hh2 => ?_
  have hw := hw h2 hh2
  refine r_aload_n E 4 0 rfl dX4_weigh_10 ?_
  refine r_lconst E 0 rfl dX4_weigh_11 ?_
  refine r_putJ E fd_X4_87 rfl rfl (Nat.le_of_ble_eq_true rfl) (adr_lt (Nat.le_of_ble_eq_true rfl)) rfl dX4_weigh_12 ?_
  refine GG_toph fun h3 hh3 => ?_
  have hw := hw h3 hh3
  refine r_aload_n E 4 0 rfl dX4_weigh_15 ?_
  refine r_lconst E 0 rfl dX4_weigh_16 ?_
  refine r_putJ E fd_X4_95 rfl rfl (Nat.le_of_ble_eq_true rfl) (adr_lt (Nat.le_of_ble_eq_true rfl)) rfl dX4_weigh_17 ?_
  refine GG_toph fun h4 hh4 => ?_
  have hw := hw h4 hh4
  refine r_iconst E 0 rfl dX4_weigh_20 ?_
  refine r_istore_n E [some (rf X 4 0), some (.int 0), none, none, none, none, none, none] rfl (Nat.le_of_ble_eq_true rfl) rfl dX4_weigh_21 ?_
  exact GG_weak [true, true, false, false, false, false, false, false] rfl (t_X4_weigh_b22 h4 0 E hE  hw)
set_option maxRecDepth 20000 in
theorem m_X4_handDownHold {l : Launch} (hl : l.stackTraces = false) (G : Gq) (p0 : Int32) (p1 : Int64) (p2 : Int64)  (h : Hp) (Q : Hp → Prop) (hw : wp_X4_handDownHold p0 p1 p2 h Q) : MV l G yX4_handDownHold cX4_handDownHold 6 none rm_X4_handDownHold NT NT h (fun r => [r 4 0, .int p0, .long p1, .long p2]) Q := by
  refine MV_of (L0 := (fun X => [some (rf X 4 0), some (.int p0), some (.long p1), none, some (.long p2), none])) hl (by decide +kernel) rfl (fun _ => Nat.le_of_ble_eq_true rfl) (fun _ => rfl) fun X hXl hXG E hE => ?_
  subst hXl; subst hXG
  unfold wp_X4_handDownHold at hw
  refine r_iload_n E p0 rfl dX4_handDownHold_0 ?_
  refine r_bipush E 33 rfl dX4_handDownHold_1 ?_
  refine r_icmp_ne E 19 (by decide) dX4_handDownHold_3 (fun c1 => ?_) (fun c1 => ?_)
  · have hw := ite_t hw c1
    refine r_aload_n E 4 0 rfl dX4_handDownHold_6 ?_
    refine r_dup E rfl dX4_handDownHold_7 ?_
    refine r_getJ E fd_X4_73 rfl (Nat.le_of_ble_eq_true rfl) (adr_lt (Nat.le_of_ble_eq_true rfl)) dX4_handDownHold_8 ?_
    refine r_lload_n E p1 rfl dX4_handDownHold_11 ?_
    refine r_lor E dX4_handDownHold_12 ?_
    refine r_putJ E fd_X4_73 rfl rfl (Nat.le_of_ble_eq_true rfl) (adr_lt (Nat.le_of_ble_eq_true rfl)) rfl dX4_handDownHold_13 ?_
    refine GG_toph fun h2 hh2 => ?_
    have hw := hw h2 hh2
    refine r_goto E 88 (by decide) dX4_handDownHold_16 ?_
    exact hE _ _ _ _ _ (Nat.le_of_ble_eq_true rfl) (Nat.le_of_ble_eq_true rfl) dX4_handDownHold_88 hw
  · have hw := ite_f hw c1
    refine r_iload_n E p0 rfl dX4_handDownHold_19 ?_
    refine r_bipush E 38 rfl dX4_handDownHold_20 ?_
    refine r_icmp_ne E 41 (by decide) dX4_handDownHold_22 (fun c3 => ?_) (fun c3 => ?_)
    · have hw := ite_t hw c3
      refine r_aload_n E 4 0 rfl dX4_handDownHold_25 ?_
      refine r_dup E rfl dX4_handDownHold_26 ?_
      refine r_getJ E fd_X4_69 rfl (Nat.le_of_ble_eq_true rfl) (adr_lt (Nat.le_of_ble_eq_true rfl)) dX4_handDownHold_27 ?_
      refine r_lload_n E p1 rfl dX4_handDownHold_30 ?_
      refine r_lload E p2 rfl dX4_handDownHold_31 ?_
      refine r_lor E dX4_handDownHold_33 ?_
      refine r_lor E dX4_handDownHold_34 ?_
      refine r_putJ E fd_X4_69 rfl rfl (Nat.le_of_ble_eq_true rfl) (adr_lt (Nat.le_of_ble_eq_true rfl)) rfl dX4_handDownHold_35 ?_
      refine GG_toph fun h4 hh4 => ?_
      have hw := hw h4 hh4
      refine r_goto E 88 (by decide) dX4_handDownHold_38 ?_
      exact hE _ _ _ _ _ (Nat.le_of_ble_eq_true rfl) (Nat.le_of_ble_eq_true rfl) dX4_handDownHold_88 hw
    · have hw := ite_f hw c3
      refine r_aload_n E 4 0 rfl dX4_handDownHold_41 ?_
      refine r_getJ E fd_X4_84 rfl (Nat.le_of_ble_eq_true rfl) (adr_lt (Nat.le_of_ble_eq_true rfl)) dX4_handDownHold_42 ?_
      refine r_lload_n E p1 rfl dX4_handDownHold_45 ?_
      refine r_land E dX4_handDownHold_46 ?_
      refine r_lconst E 0 rfl dX4_handDownHold_47 ?_
      refine r_lcmp_ne E 66 (by decide) dX4_handDownHold_48 dX4_handDownHold_49 (fun c5 => ?_) (fun c5 => ?_)
      · have hw := ite_t hw c5
        refine r_aload_n E 4 0 rfl dX4_handDownHold_52 ?_
        refine r_dup E rfl dX4_handDownHold_53 ?_
        refine r_getJ E fd_X4_69 rfl (Nat.le_of_ble_eq_true rfl) (adr_lt (Nat.le_of_ble_eq_true rfl)) dX4_handDownHold_54 ?_
        refine r_lload E p2 rfl dX4_handDownHold_57 ?_
        refine r_lor E dX4_handDownHold_59 ?_
        refine r_putJ E fd_X4_69 rfl rfl (Nat.le_of_ble_eq_true rfl) (adr_lt (Nat.le_of_ble_eq_true rfl)) rfl dX4_handDownHold_60 ?_
        refine GG_toph fun h6 hh6 => ?_
        have hw := hw h6 hh6
        refine r_goto E 88 (by decide) dX4_handDownHold_63 ?_
        exact hE _ _ _ _ _ (Nat.le_of_ble_eq_true rfl) (Nat.le_of_ble_eq_true rfl) dX4_handDownHold_88 hw
      · have hw := ite_f hw c5
        refine r_aload_n E 4 0 rfl dX4_handDownHold_66 ?_
        refine r_getJ E fd_X4_84 rfl (Nat.le_of_ble_eq_true rfl) (adr_lt (Nat.le_of_ble_eq_true rfl)) dX4_handDownHold_67 ?_
        refine r_lload E p2 rfl dX4_handDownHold_70 ?_
        refine r_land E dX4_handDownHold_72 ?_
        refine r_lconst E 0 rfl dX4_handDownHold_73 ?_
        refine r_lcmp_ne E 88 (by decide) dX4_handDownHold_74 dX4_handDownHold_75 (fun c7 => ?_) (fun c7 => ?_)
        · have hw := ite_t hw c7
          refine r_aload_n E 4 0 rfl dX4_handDownHold_78 ?_
          refine r_dup E rfl dX4_handDownHold_79 ?_
          refine r_getJ E fd_X4_69 rfl (Nat.le_of_ble_eq_true rfl) (adr_lt (Nat.le_of_ble_eq_true rfl)) dX4_handDownHold_80 ?_
          refine r_lload_n E p1 rfl dX4_handDownHold_83 ?_
          refine r_lor E dX4_handDownHold_84 ?_
          refine r_putJ E fd_X4_69 rfl rfl (Nat.le_of_ble_eq_true rfl) (adr_lt (Nat.le_of_ble_eq_true rfl)) rfl dX4_handDownHold_85 ?_
          refine GG_toph fun h8 hh8 => ?_
          have hw := hw h8 hh8
          exact hE _ _ _ _ _ (Nat.le_of_ble_eq_true rfl) (Nat.le_of_ble_eq_true rfl) dX4_handDownHold_88 hw
        · have hw := ite_f hw c7
          exact hE _ _ _ _ _ (Nat.le_of_ble_eq_true rfl) (Nat.le_of_ble_eq_true rfl) dX4_handDownHold_88 hw
set_option maxRecDepth 20000 in
theorem m_X4_handDownFail {l : Launch} (hl : l.stackTraces = false) (G : Gq) (p0 : Int32) (p1 : Int64) (p2 : Int64)  (h : Hp) (Q : Hp → Prop) (hw : wp_X4_handDownFail p0 p1 p2 h Q) : MV l G yX4_handDownFail cX4_handDownFail 6 none rm_X4_handDownFail NT NT h (fun r => [r 4 0, .int p0, .long p1, .long p2]) Q := by
  refine MV_of (L0 := (fun X => [some (rf X 4 0), some (.int p0), some (.long p1), none, some (.long p2), none])) hl (by decide +kernel) rfl (fun _ => Nat.le_of_ble_eq_true rfl) (fun _ => rfl) fun X hXl hXG E hE => ?_
  subst hXl; subst hXG
  unfold wp_X4_handDownFail at hw
  refine r_iload_n E p0 rfl dX4_handDownFail_0 ?_
  refine r_bipush E 33 rfl dX4_handDownFail_1 ?_
  refine r_icmp_ne E 19 (by decide) dX4_handDownFail_3 (fun c1 => ?_) (fun c1 => ?_)
  · have hw := ite_t hw c1
    refine r_aload_n E 4 0 rfl dX4_handDownFail_6 ?_
    refine r_dup E rfl dX4_handDownFail_7 ?_
    refine r_getJ E fd_X4_69 rfl (Nat.le_of_ble_eq_true rfl) (adr_lt (Nat.le_of_ble_eq_true rfl)) dX4_handDownFail_8 ?_
    refine r_lload_n E p1 rfl dX4_handDownFail_11 ?_
    refine r_lor E dX4_handDownFail_12 ?_
    refine r_putJ E fd_X4_69 rfl rfl (Nat.le_of_ble_eq_true rfl) (adr_lt (Nat.le_of_ble_eq_true rfl)) rfl dX4_handDownFail_13 ?_
    refine GG_toph fun h2 hh2 => ?_
    have hw := hw h2 hh2
    refine r_goto E 88 (by decide) dX4_handDownFail_16 ?_
    exact hE _ _ _ _ _ (Nat.le_of_ble_eq_true rfl) (Nat.le_of_ble_eq_true rfl) dX4_handDownFail_88 hw
  · have hw := ite_f hw c1
    refine r_iload_n E p0 rfl dX4_handDownFail_19 ?_
    refine r_bipush E 124 rfl dX4_handDownFail_20 ?_
    refine r_icmp_ne E 41 (by decide) dX4_handDownFail_22 (fun c3 => ?_) (fun c3 => ?_)
    · have hw := ite_t hw c3
      refine r_aload_n E 4 0 rfl dX4_handDownFail_25 ?_
      refine r_dup E rfl dX4_handDownFail_26 ?_
      refine r_getJ E fd_X4_73 rfl (Nat.le_of_ble_eq_true rfl) (adr_lt (Nat.le_of_ble_eq_true rfl)) dX4_handDownFail_27 ?_
      refine r_lload_n E p1 rfl dX4_handDownFail_30 ?_
      refine r_lload E p2 rfl dX4_handDownFail_31 ?_
      refine r_lor E dX4_handDownFail_33 ?_
      refine r_lor E dX4_handDownFail_34 ?_
      refine r_putJ E fd_X4_73 rfl rfl (Nat.le_of_ble_eq_true rfl) (adr_lt (Nat.le_of_ble_eq_true rfl)) rfl dX4_handDownFail_35 ?_
      refine GG_toph fun h4 hh4 => ?_
      have hw := hw h4 hh4
      refine r_goto E 88 (by decide) dX4_handDownFail_38 ?_
      exact hE _ _ _ _ _ (Nat.le_of_ble_eq_true rfl) (Nat.le_of_ble_eq_true rfl) dX4_handDownFail_88 hw
    · have hw := ite_f hw c3
      refine r_aload_n E 4 0 rfl dX4_handDownFail_41 ?_
      refine r_getJ E fd_X4_92 rfl (Nat.le_of_ble_eq_true rfl) (adr_lt (Nat.le_of_ble_eq_true rfl)) dX4_handDownFail_42 ?_
      refine r_lload_n E p1 rfl dX4_handDownFail_45 ?_
      refine r_land E dX4_handDownFail_46 ?_
      refine r_lconst E 0 rfl dX4_handDownFail_47 ?_
      refine r_lcmp_ne E 66 (by decide) dX4_handDownFail_48 dX4_handDownFail_49 (fun c5 => ?_) (fun c5 => ?_)
      · have hw := ite_t hw c5
        refine r_aload_n E 4 0 rfl dX4_handDownFail_52 ?_
        refine r_dup E rfl dX4_handDownFail_53 ?_
        refine r_getJ E fd_X4_73 rfl (Nat.le_of_ble_eq_true rfl) (adr_lt (Nat.le_of_ble_eq_true rfl)) dX4_handDownFail_54 ?_
        refine r_lload E p2 rfl dX4_handDownFail_57 ?_
        refine r_lor E dX4_handDownFail_59 ?_
        refine r_putJ E fd_X4_73 rfl rfl (Nat.le_of_ble_eq_true rfl) (adr_lt (Nat.le_of_ble_eq_true rfl)) rfl dX4_handDownFail_60 ?_
        refine GG_toph fun h6 hh6 => ?_
        have hw := hw h6 hh6
        refine r_goto E 88 (by decide) dX4_handDownFail_63 ?_
        exact hE _ _ _ _ _ (Nat.le_of_ble_eq_true rfl) (Nat.le_of_ble_eq_true rfl) dX4_handDownFail_88 hw
      · have hw := ite_f hw c5
        refine r_aload_n E 4 0 rfl dX4_handDownFail_66 ?_
        refine r_getJ E fd_X4_92 rfl (Nat.le_of_ble_eq_true rfl) (adr_lt (Nat.le_of_ble_eq_true rfl)) dX4_handDownFail_67 ?_
        refine r_lload E p2 rfl dX4_handDownFail_70 ?_
        refine r_land E dX4_handDownFail_72 ?_
        refine r_lconst E 0 rfl dX4_handDownFail_73 ?_
        refine r_lcmp_ne E 88 (by decide) dX4_handDownFail_74 dX4_handDownFail_75 (fun c7 => ?_) (fun c7 => ?_)
        · have hw := ite_t hw c7
          refine r_aload_n E 4 0 rfl dX4_handDownFail_78 ?_
          refine r_dup E rfl dX4_handDownFail_79 ?_
          refine r_getJ E fd_X4_73 rfl (Nat.le_of_ble_eq_true rfl) (adr_lt (Nat.le_of_ble_eq_true rfl)) dX4_handDownFail_80 ?_
          refine r_lload_n E p1 rfl dX4_handDownFail_83 ?_
          refine r_lor E dX4_handDownFail_84 ?_
          refine r_putJ E fd_X4_73 rfl rfl (Nat.le_of_ble_eq_true rfl) (adr_lt (Nat.le_of_ble_eq_true rfl)) rfl dX4_handDownFail_85 ?_
          refine GG_toph fun h8 hh8 => ?_
          have hw := hw h8 hh8
          exact hE _ _ _ _ _ (Nat.le_of_ble_eq_true rfl) (Nat.le_of_ble_eq_true rfl) dX4_handDownFail_88 hw
        · have hw := ite_f hw c7
          exact hE _ _ _ _ _ (Nat.le_of_ble_eq_true rfl) (Nat.le_of_ble_eq_true rfl) dX4_handDownFail_88 hw
set_option maxRecDepth 20000 in
theorem t_X4_handDown_b138 {X : Ctx} (h : Hp) (x1 : Int64) (x3 : Int64) (x5 : Int32)  (E : EE X cX4_handDown RX4 12 2 49 0 0) {Q : Int32 → Hp → Prop} (hE : ENDi X cX4_handDown .boolean (fun r u => isB r ∧ Q r u) NT 0 0) (P18 : Int32 → Hp → Prop) (hP18 : ∀ (y5 : Int32) (u : Hp), P18 y5 u → GG X 0 0 NT u [some (rf X 4 0), some (.long x1), none, some (.long x3), none, some (.int y5), none, none, none, none, none, none] 18 []) (hw : wp_X4_handDown_b138 x1 x3 x5 h P18 Q) : GG X 0 0 NT h [some (rf X 4 0), some (.long x1), none, some (.long x3), none, some (.int x5), none, none, none, none, none, none] 138 [] := by
  unfold wp_X4_handDown_b138 at hw
  obtain ⟨v1, hv1⟩ : ∃ y : Int32, y = x5 + (-1) := ⟨_, rfl⟩
  have hw := hw v1 hv1
  refine r_iinc E x5 v1 [some (rf X 4 0), some (.long x1), none, some (.long x3), none, some (.int v1), none, none, none, none, none, none] rfl (by rw [hv1]; rfl) (Nat.le_of_ble_eq_true rfl) rfl dX4_handDown_138 ?_
  refine r_goto E 18 (by decide) dX4_handDown_141 ?_
  exact GG_weak [true, true, false, true, false, true, false, false, false, false, false, false] rfl (hP18 _ _ hw)
set_option maxRecDepth 20000 in
theorem t_X4_handDown_b116 {X : Ctx} (h : Hp) (x1 : Int64) (x3 : Int64) (x5 : Int32) (x6 : Int32) (x7 : Int32) (x8 : Int64) (x10 : Int64)  (E : EE X cX4_handDown RX4 12 2 49 0 0) {Q : Int32 → Hp → Prop} (hE : ENDi X cX4_handDown .boolean (fun r u => isB r ∧ Q r u) NT 0 0) (P18 : Int32 → Hp → Prop) (hP18 : ∀ (y5 : Int32) (u : Hp), P18 y5 u → GG X 0 0 NT u [some (rf X 4 0), some (.long x1), none, some (.long x3), none, some (.int y5), none, none, none, none, none, none] 18 []) (hw : wp_X4_handDown_b116 x1 x3 x5 x6 x7 x8 x10 h P18 Q) : GG X 0 0 NT h [some (rf X 4 0), some (.long x1), none, some (.long x3), none, some (.int x5), some (.int x6), some (.int x7), some (.long x8), none, some (.long x10), none] 116 [] := by
  unfold wp_X4_handDown_b116 at hw
  refine r_aload_n E 4 0 rfl dX4_handDown_116 ?_
  refine r_getJ E fd_X4_73 rfl (Nat.le_of_ble_eq_true rfl) (adr_lt (Nat.le_of_ble_eq_true rfl)) dX4_handDown_117 ?_
  refine r_iload E x6 rfl dX4_handDown_120 ?_
  refine r_callSNI E (m_X10_hasBit_ (EE_st E) (GX X) (gJ h 4 0 5) x6 h _ hw) lk_X4_38 (RM_mk (Nat.le_of_ble_eq_true rfl) (Nat.le_of_ble_eq_true rfl)) rfl rfl rfl rfl (Nat.le_of_ble_eq_true rfl) rfl rfl (Nat.le_of_ble_eq_true rfl) (Nat.le_of_ble_eq_true rfl) dX4_handDown_122 (fun r1 u9 hw => ?_)
  obtain ⟨rfl, zr1, hw⟩ := hw
  refine r_if_eq E 138 (by decide) dX4_handDown_125 (fun c2 => ?_) (fun c2 => ?_)
  · have hw := ite_t hw c2
    exact GG_weak [true, true, false, true, false, true, false, false, false, false, false, false] rfl (t_X4_handDown_b138 h x1 x3 x5 E hE P18 hP18  hw)
  · have hw := ite_f hw c2
    refine r_aload_n E 4 0 rfl dX4_handDown_128 ?_
    refine r_iload E x7 rfl dX4_handDown_129 ?_
    refine r_lload E x8 rfl dX4_handDown_131 ?_
    refine r_lload E x10 rfl dX4_handDown_133 ?_
    refine r_callVV E (m_X4_handDownFail (EE_st E) (GX X) x7 x8 x10 h _ hw) lk_X4_143 (RM_mk (Nat.le_of_ble_eq_true rfl) (Nat.le_of_ble_eq_true rfl)) rfl rfl rfl rfl (Nat.le_of_ble_eq_true rfl) (adr_lt (Nat.le_of_ble_eq_true rfl)) (Nat.le_of_ble_eq_true rfl) rfl rfl (Nat.le_of_ble_eq_true rfl) (Nat.le_of_ble_eq_true rfl) dX4_handDown_135 (fun h3 hw => ?_)
    exact GG_weak [true, true, false, true, false, true, false, false, false, false, false, false] rfl (t_X4_handDown_b138 h3 x1 x3 x5 E hE P18 hP18  hw)
set_option maxRecDepth 20000 in
theorem t_X4_handDown_b92 {X : Ctx} (h : Hp) (x1 : Int64) (x3 : Int64) (x5 : Int32) (x6 : Int32) (x7 : Int32) (x8 : Int64) (s0 : Int64)  (E : EE X cX4_handDown RX4 12 2 49 0 0) {Q : Int32 → Hp → Prop} (hE : ENDi X cX4_handDown .boolean (fun r u => isB r ∧ Q r u) NT 0 0) (P18 : Int32 → Hp → Prop) (hP18 : ∀ (y5 : Int32) (u : Hp), P18 y5 u → GG X 0 0 NT u [some (rf X 4 0), some (.long x1), none, some (.long x3), none, some (.int y5), none, none, none, none, none, none] 18 []) (hw : wp_X4_handDown_b92 x1 x3 x5 x6 x7 x8 s0 h P18 Q) : GG X 0 0 NT h [some (rf X 4 0), some (.long x1), none, some (.long x3), none, some (.int x5), some (.int x6), some (.int x7), some (.long x8), none, none, none] 92 [.long s0] := by
  unfold wp_X4_handDown_b92 at hw
  refine r_lstore E [some (rf X 4 0), some (.long x1), none, some (.long x3), none, some (.int x5), some (.int x6), some (.int x7), some (.long x8), none, some (.long s0), none] (Nat.le_of_ble_eq_true rfl) rfl dX4_handDown_92 ?_
  refine r_aload_n E 4 0 rfl dX4_handDown_94 ?_
  refine r_getJ E fd_X4_69 rfl (Nat.le_of_ble_eq_true rfl) (adr_lt (Nat.le_of_ble_eq_true rfl)) dX4_handDown_95 ?_
  refine r_iload E x6 rfl dX4_handDown_98 ?_
  refine r_callSNI E (m_X10_hasBit_ (EE_st E) (GX X) (gJ h 4 0 4) x6 h _ hw) lk_X4_38 (RM_mk (Nat.le_of_ble_eq_true rfl) (Nat.le_of_ble_eq_true rfl)) rfl rfl rfl rfl (Nat.le_of_ble_eq_true rfl) rfl rfl (Nat.le_of_ble_eq_true rfl) (Nat.le_of_ble_eq_true rfl) dX4_handDown_100 (fun r1 u9 hw => ?_)
  obtain ⟨rfl, zr1, hw⟩ := hw
  refine r_if_eq E 116 (by decide) dX4_handDown_103 (fun c2 => ?_) (fun c2 => ?_)
  · have hw := ite_t hw c2
    exact GG_weak [true, true, false, true, false, true, true, true, true, false, true, false] rfl (t_X4_handDown_b116 h x1 x3 x5 x6 x7 x8 s0 E hE P18 hP18  hw)
  · have hw := ite_f hw c2
    refine r_aload_n E 4 0 rfl dX4_handDown_106 ?_
    refine r_iload E x7 rfl dX4_handDown_107 ?_
    refine r_lload E x8 rfl dX4_handDown_109 ?_
    refine r_lload E s0 rfl dX4_handDown_111 ?_
    refine r_callVV E (m_X4_handDownHold (EE_st E) (GX X) x7 x8 s0 h _ hw) lk_X4_139 (RM_mk (Nat.le_of_ble_eq_true rfl) (Nat.le_of_ble_eq_true rfl)) rfl rfl rfl rfl (Nat.le_of_ble_eq_true rfl) (adr_lt (Nat.le_of_ble_eq_true rfl)) (Nat.le_of_ble_eq_true rfl) rfl rfl (Nat.le_of_ble_eq_true rfl) (Nat.le_of_ble_eq_true rfl) dX4_handDown_113 (fun h3 hw => ?_)
    exact GG_weak [true, true, false, true, false, true, true, true, true, false, true, false] rfl (t_X4_handDown_b116 h3 x1 x3 x5 x6 x7 x8 s0 E hE P18 hP18  hw)
set_option maxRecDepth 20000 in
theorem t_X4_handDown_b18F {X : Ctx} (h : Hp) (x1 : Int64) (x3 : Int64) (x5 : Int32)  (E : EE X cX4_handDown RX4 12 2 49 0 0) {Q : Int32 → Hp → Prop} (hE : ENDi X cX4_handDown .boolean (fun r u => isB r ∧ Q r u) NT 0 0)  (P18 : Int32 → Hp → Prop) (hP18 : ∀ (y5 : Int32) (u : Hp), P18 y5 u → GG X 0 0 NT u [some (rf X 4 0), some (.long x1), none, some (.long x3), none, some (.int y5), none, none, none, none, none, none] 18 []) (hw : wp_X4_handDown_b18F x1 x3   Q P18 x5 h) : GG X 0 0 NT h [some (rf X 4 0), some (.long x1), none, some (.long x3), none, some (.int x5), none, none, none, none, none, none] 18 [] := by
  unfold wp_X4_handDown_b18F at hw
  refine r_iload E x5 rfl dX4_handDown_18 ?_
  refine r_if_lt E 144 (by decide) dX4_handDown_20 (fun c1 => ?_) (fun c1 => ?_)
  · have hw := ite_t hw c1
    refine r_aload_n E 4 0 rfl dX4_handDown_144 ?_
    refine r_getJ E fd_X4_69 rfl (Nat.le_of_ble_eq_true rfl) (adr_lt (Nat.le_of_ble_eq_true rfl)) dX4_handDown_145 ?_
    refine r_lload_n E x1 rfl dX4_handDown_148 ?_
    refine r_lcmp_ne E 162 (by decide) dX4_handDown_149 dX4_handDown_150 (fun c2 => ?_) (fun c2 => ?_)
    · have hw := ite_t hw c2
      refine r_aload_n E 4 0 rfl dX4_handDown_153 ?_
      refine r_getJ E fd_X4_73 rfl (Nat.le_of_ble_eq_true rfl) (adr_lt (Nat.le_of_ble_eq_true rfl)) dX4_handDown_154 ?_
      refine r_lload_n E x3 rfl dX4_handDown_157 ?_
      refine r_lcmp_eq E 166 (by decide) dX4_handDown_158 dX4_handDown_159 (fun c3 => ?_) (fun c3 => ?_)
      · have hw := ite_t hw c3
        refine r_iconst E 0 rfl dX4_handDown_166 ?_
        exact hE _ _ _ _ _ _ (Nat.le_of_ble_eq_true rfl) (Nat.le_of_ble_eq_true rfl) dX4_handDown_167 (isB_nar isB_0) ⟨isB_0, hw⟩
      · have hw := ite_f hw c3
        refine r_iconst E 1 rfl dX4_handDown_162 ?_
        refine r_goto E 167 (by decide) dX4_handDown_163 ?_
        exact hE _ _ _ _ _ _ (Nat.le_of_ble_eq_true rfl) (Nat.le_of_ble_eq_true rfl) dX4_handDown_167 (isB_nar isB_1) ⟨isB_1, hw⟩
    · have hw := ite_f hw c2
      refine r_iconst E 1 rfl dX4_handDown_162 ?_
      refine r_goto E 167 (by decide) dX4_handDown_163 ?_
      exact hE _ _ _ _ _ _ (Nat.le_of_ble_eq_true rfl) (Nat.le_of_ble_eq_true rfl) dX4_handDown_167 (isB_nar isB_1) ⟨isB_1, hw⟩
  · have hw := ite_f hw c1
    refine r_aload_n E 4 0 rfl dX4_handDown_23 ?_
    refine r_getS E fd_X4_18 (t := 0) (j1 := 28) rfl rfl rfl rfl (Nat.le_of_ble_eq_true rfl) (adr_lt (Nat.le_of_ble_eq_true rfl)) dX4_handDown_24 ?_
    refine r_iload E x5 rfl dX4_handDown_27 ?_
    obtain ⟨i4, hw⟩ := hw
    refine r_iald E rfl rfl rfl (Nat.le_of_ble_eq_true rfl) (adr_lt (Nat.le_of_ble_eq_true rfl)) i4 dX4_handDown_29 ?_
    refine GG_topI fun v5 hv5 => ?_
    have hw := hw v5 hv5
    refine r_istore E [some (rf X 4 0), some (.long x1), none, some (.long x3), none, some (.int x5), some (.int v5), none, none, none, none, none] (Nat.le_of_ble_eq_true rfl) rfl dX4_handDown_30 ?_
    refine r_aload_n E 4 0 rfl dX4_handDown_32 ?_
    refine r_getS E fd_X4_22 (t := 0) (j1 := 9) rfl rfl rfl rfl (Nat.le_of_ble_eq_true rfl) (adr_lt (Nat.le_of_ble_eq_true rfl)) dX4_handDown_33 ?_
    refine r_getSN E fd_X4_44 (t := 0) (j1 := 12) rfl rfl rfl rfl (Nat.le_of_ble_eq_true rfl) (adr_lt (Nat.le_of_ble_eq_true rfl)) dX4_handDown_36 ?_
    refine r_iload E v5 rfl dX4_handDown_39 ?_
    obtain ⟨i6, hw⟩ := hw
    refine r_cald E rfl rfl rfl (Nat.le_of_ble_eq_true rfl) (adr_lt (Nat.le_of_ble_eq_true rfl)) i6 dX4_handDown_41 ?_
    refine GG_topI fun v7 hv7 => ?_
    have hw := hw v7 hv7
    refine r_istore E [some (rf X 4 0), some (.long x1), none, some (.long x3), none, some (.int x5), some (.int v5), some (.int v7), none, none, none, none] (Nat.le_of_ble_eq_true rfl) rfl dX4_handDown_42 ?_
    refine r_iload E v7 rfl dX4_handDown_44 ?_
    refine r_callSI E (m_X9_partsOf (EE_st E) (GX X) v7 h _ hw) lk_X4_48 (RM_mk (Nat.le_of_ble_eq_true rfl) (Nat.le_of_ble_eq_true rfl)) rfl rfl rfl rfl (Nat.le_of_ble_eq_true rfl) rfl rfl (Nat.le_of_ble_eq_true rfl) (Nat.le_of_ble_eq_true rfl) dX4_handDown_46 (fun r8 u9 hw => ?_)
    obtain ⟨rfl, hw⟩ := hw
    refine r_if_le E 138 (by decide) dX4_handDown_49 (fun c9 => ?_) (fun c9 => ?_)
    · have hw := ite_t hw c9
      exact GG_weak [true, true, false, true, false, true, false, false, false, false, false, false] rfl (t_X4_handDown_b138 h x1 x3 x5 E hE P18 hP18  hw)
    · have hw := ite_f hw c9
      refine r_lconst E 1 rfl dX4_handDown_52 ?_
      refine r_aload_n E 4 0 rfl dX4_handDown_53 ?_
      refine r_getS E fd_X4_22 (t := 0) (j1 := 9) rfl rfl rfl rfl (Nat.le_of_ble_eq_true rfl) (adr_lt (Nat.le_of_ble_eq_true rfl)) dX4_handDown_54 ?_
      refine r_getSN E fd_X4_52 (t := 0) (j1 := 13) rfl rfl rfl rfl (Nat.le_of_ble_eq_true rfl) (adr_lt (Nat.le_of_ble_eq_true rfl)) dX4_handDown_57 ?_
      refine r_iload E v5 rfl dX4_handDown_60 ?_
      refine r_iald E rfl rfl rfl (Nat.le_of_ble_eq_true rfl) (adr_lt (Nat.le_of_ble_eq_true rfl)) i6 dX4_handDown_62 ?_
      refine r_lshl E dX4_handDown_63 ?_
      refine GG_topJ fun v10 hv10 => ?_
      have hw := hw v10 hv10
      refine r_lstore E [some (rf X 4 0), some (.long x1), none, some (.long x3), none, some (.int x5), some (.int v5), some (.int v7), some (.long v10), none, none, none] (Nat.le_of_ble_eq_true rfl) rfl dX4_handDown_64 ?_
      refine r_iload E v7 rfl dX4_handDown_66 ?_
      refine r_callSI E (m_X9_partsOf (EE_st E) (GX X) v7 h _ hw) lk_X4_48 (RM_mk (Nat.le_of_ble_eq_true rfl) (Nat.le_of_ble_eq_true rfl)) rfl rfl rfl rfl (Nat.le_of_ble_eq_true rfl) rfl rfl (Nat.le_of_ble_eq_true rfl) (Nat.le_of_ble_eq_true rfl) dX4_handDown_68 (fun r11 u9 hw => ?_)
      obtain ⟨rfl, hw⟩ := hw
      refine r_iconst E 1 rfl dX4_handDown_71 ?_
      refine r_icmp_le E 90 (by decide) dX4_handDown_72 (fun c12 => ?_) (fun c12 => ?_)
      · have hw := ite_t hw c12
        refine r_lload E v10 rfl dX4_handDown_90 ?_
        exact GG_weak [true, true, false, true, false, true, true, true, true, false, false, false] rfl (t_X4_handDown_b92 h x1 x3 x5 v5 v7 v10 v10 E hE P18 hP18  hw)
      · have hw := ite_f hw c12
        refine r_lconst E 1 rfl dX4_handDown_75 ?_
        refine r_aload_n E 4 0 rfl dX4_handDown_76 ?_
        refine r_getS E fd_X4_22 (t := 0) (j1 := 9) rfl rfl rfl rfl (Nat.le_of_ble_eq_true rfl) (adr_lt (Nat.le_of_ble_eq_true rfl)) dX4_handDown_77 ?_
        refine r_getSN E fd_X4_55 (t := 0) (j1 := 14) rfl rfl rfl rfl (Nat.le_of_ble_eq_true rfl) (adr_lt (Nat.le_of_ble_eq_true rfl)) dX4_handDown_80 ?_
        refine r_iload E v5 rfl dX4_handDown_83 ?_
        refine r_iald E rfl rfl rfl (Nat.le_of_ble_eq_true rfl) (adr_lt (Nat.le_of_ble_eq_true rfl)) i6 dX4_handDown_85 ?_
        refine r_lshl E dX4_handDown_86 ?_
        refine r_goto E 92 (by decide) dX4_handDown_87 ?_
        exact GG_weak [true, true, false, true, false, true, true, true, true, false, false, false] rfl (t_X4_handDown_b92 h x1 x3 x5 v5 v7 v10 ((1 : Int64) <<< ((gI h 14 0 v5.toNatClampNeg : Int32).toInt64 &&& 63)) E hE P18 hP18  hw)
set_option maxRecDepth 20000 in
theorem t_X4_handDown_b18 {X : Ctx} (h : Hp) (x1 : Int64) (x3 : Int64) (x5 : Int32)  (E : EE X cX4_handDown RX4 12 2 49 0 0) {Q : Int32 → Hp → Prop} (hE : ENDi X cX4_handDown .boolean (fun r u => isB r ∧ Q r u) NT 0 0)  (hw : wp_X4_handDown_b18 x1 x3 x5 h  Q) : GG X 0 0 NT h [some (rf X 4 0), some (.long x1), none, some (.long x3), none, some (.int x5), none, none, none, none, none, none] 18 [] :=
  hw (fun y5 u => GG X 0 0 NT u [some (rf X 4 0), some (.long x1), none, some (.long x3), none, some (.int y5), none, none, none, none, none, none] 18 []) (fun y5 u hq => t_X4_handDown_b18F u x1 x3 y5  E hE  (fun y5 u => GG X 0 0 NT u [some (rf X 4 0), some (.long x1), none, some (.long x3), none, some (.int y5), none, none, none, none, none, none] 18 []) (fun y5 u q => q) hq)
set_option maxRecDepth 20000 in
theorem m_X4_handDown {l : Launch} (hl : l.stackTraces = false) (G : Gq)   (h : Hp) (Q : Int32 → Hp → Prop) (hw : wp_X4_handDown  h Q) : MI l G yX4_handDown cX4_handDown 12 (some .boolean) rm_X4_handDown NT NT h (fun r => [r 4 0]) (fun r u => isB r ∧ Q r u) := by
  refine MI_of (L0 := (fun X => [some (rf X 4 0), none, none, none, none, none, none, none, none, none, none, none])) hl (by decide +kernel) rfl (fun _ => Nat.le_of_ble_eq_true rfl) (fun _ => rfl) fun X hXl hXG E hE => ?_
  subst hXl; subst hXG
  unfold wp_X4_handDown at hw
  refine r_aload_n E 4 0 rfl dX4_handDown_0 ?_
  refine r_getJ E fd_X4_69 rfl (Nat.le_of_ble_eq_true rfl) (adr_lt (Nat.le_of_ble_eq_true rfl)) dX4_handDown_1 ?_
  refine GG_topJ fun v1 hv1 => ?_
  have hw := hw v1 hv1
  refine r_lstore_n E [some (rf X 4 0), some (.long v1), none, none, none, none, none, none, none, none, none, none] rfl (Nat.le_of_ble_eq_true rfl) rfl dX4_handDown_4 ?_
  refine r_aload_n E 4 0 rfl dX4_handDown_5 ?_
  refine r_getJ E fd_X4_73 rfl (Nat.le_of_ble_eq_true rfl) (adr_lt (Nat.le_of_ble_eq_true rfl)) dX4_handDown_6 ?_
  refine GG_topJ fun v2 hv2 => ?_
  have hw := hw v2 hv2
  refine r_lstore_n E [some (rf X 4 0), some (.long v1), none, some (.long v2), none, none, none, none, none, none, none, none] rfl (Nat.le_of_ble_eq_true rfl) rfl dX4_handDown_9 ?_
  refine r_aload_n E 4 0 rfl dX4_handDown_10 ?_
  refine r_getI E fd_X4_58 rfl (Nat.le_of_ble_eq_true rfl) (adr_lt (Nat.le_of_ble_eq_true rfl)) dX4_handDown_11 ?_
  refine r_iconst E 1 rfl dX4_handDown_14 ?_
  refine r_isub E dX4_handDown_15 ?_
  refine GG_topI fun v3 hv3 => ?_
  have hw := hw v3 hv3
  refine r_istore E [some (rf X 4 0), some (.long v1), none, some (.long v2), none, some (.int v3), none, none, none, none, none, none] (Nat.le_of_ble_eq_true rfl) rfl dX4_handDown_16 ?_
  exact GG_weak [true, true, false, true, false, true, false, false, false, false, false, false] rfl (t_X4_handDown_b18 h v1 v2 v3 E hE  hw)
set_option maxRecDepth 20000 in
theorem t_X4_follow_b16F {X : Ctx} (h : Hp) (x5 : Int32) (x6 : Int32)  (E : EE X cX4_follow RX4 7 4 96 0 0) {Q : Int32 → Hp → Prop} (hE : ENDi X cX4_follow .boolean (fun r u => isB r ∧ Q r u) NT 0 0)  (P16 : Int32 → Int32 → Hp → Prop) (hP16 : ∀ (y5 : Int32) (y6 : Int32) (u : Hp), P16 y5 y6 u → GG X 0 0 NT u [some (rf X 4 0), none, none, none, none, some (.int y5), some (.int y6)] 16 []) (hw : wp_X4_follow_b16F    Q P16 x5 x6 h) : GG X 0 0 NT h [some (rf X 4 0), none, none, none, none, some (.int x5), some (.int x6)] 16 [] := by
  unfold wp_X4_follow_b16F at hw
  refine r_iload E x5 rfl dX4_follow_16 ?_
  refine r_if_eq E 98 (by decide) dX4_follow_18 (fun c1 => ?_) (fun c1 => ?_)
  · have hw := ite_t hw c1
    refine r_iconst E 1 rfl dX4_follow_98 ?_
    exact hE _ _ _ _ _ _ (Nat.le_of_ble_eq_true rfl) (Nat.le_of_ble_eq_true rfl) dX4_follow_99 (isB_nar isB_1) ⟨isB_1, hw⟩
  · have hw := ite_f hw c1
    refine r_iload E x6 rfl dX4_follow_21 ?_
    refine r_bipush E 120 rfl dX4_follow_23 ?_
    refine r_icmp_gt E 98 (by decide) dX4_follow_25 (fun c2 => ?_) (fun c2 => ?_)
    · have hw := ite_t hw c2
      refine r_iconst E 1 rfl dX4_follow_98 ?_
      exact hE _ _ _ _ _ _ (Nat.le_of_ble_eq_true rfl) (Nat.le_of_ble_eq_true rfl) dX4_follow_99 (isB_nar isB_1) ⟨isB_1, hw⟩
    · have hw := ite_f hw c2
      refine r_aload_n E 4 0 rfl dX4_follow_28 ?_
      refine r_callVV E (m_X4_draw (EE_st E) (GX X)  h _ hw) lk_X4_98 (RM_mk (Nat.le_of_ble_eq_true rfl) (Nat.le_of_ble_eq_true rfl)) rfl rfl rfl rfl (Nat.le_of_ble_eq_true rfl) (adr_lt (Nat.le_of_ble_eq_true rfl)) (Nat.le_of_ble_eq_true rfl) rfl rfl (Nat.le_of_ble_eq_true rfl) (Nat.le_of_ble_eq_true rfl) dX4_follow_29 (fun h3 hw => ?_)
      refine r_aload_n E 4 0 rfl dX4_follow_32 ?_
      refine r_getS E fd_X4_10 (t := 0) (j1 := 8) rfl rfl rfl rfl (Nat.le_of_ble_eq_true rfl) (adr_lt (Nat.le_of_ble_eq_true rfl)) dX4_follow_33 ?_
      refine r_callVI E (m_X8_hasMail (EE_st E) (GX X)  h3 _ hw) lk_X4_101 (RM_mk (Nat.le_of_ble_eq_true rfl) (Nat.le_of_ble_eq_true rfl)) rfl rfl rfl rfl (Nat.le_of_ble_eq_true rfl) (adr_lt (Nat.le_of_ble_eq_true rfl)) (Nat.le_of_ble_eq_true rfl) rfl rfl (Nat.le_of_ble_eq_true rfl) (Nat.le_of_ble_eq_true rfl) dX4_follow_36 (fun r4 h5 hw => ?_)
      obtain ⟨zr4, hw⟩ := hw
      refine r_if_ne E 44 (by decide) dX4_follow_39 (fun c6 => ?_) (fun c6 => ?_)
      · have hw := ite_t hw c6
        refine r_iconst E 0 rfl dX4_follow_42 ?_
        exact hE _ _ _ _ _ _ (Nat.le_of_ble_eq_true rfl) (Nat.le_of_ble_eq_true rfl) dX4_follow_43 (isB_nar isB_0) ⟨isB_0, hw⟩
      · have hw := ite_f hw c6
        refine r_aload_n E 4 0 rfl dX4_follow_44 ?_
        refine r_callVV E (m_X4_weigh (EE_st E) (GX X)  h5 _ hw) lk_X4_104 (RM_mk (Nat.le_of_ble_eq_true rfl) (Nat.le_of_ble_eq_true rfl)) rfl rfl rfl rfl (Nat.le_of_ble_eq_true rfl) (adr_lt (Nat.le_of_ble_eq_true rfl)) (Nat.le_of_ble_eq_true rfl) rfl rfl (Nat.le_of_ble_eq_true rfl) (Nat.le_of_ble_eq_true rfl) dX4_follow_45 (fun h7 hw => ?_)
        refine r_aload_n E 4 0 rfl dX4_follow_48 ?_
        refine r_getJ E fd_X4_69 rfl (Nat.le_of_ble_eq_true rfl) (adr_lt (Nat.le_of_ble_eq_true rfl)) dX4_follow_49 ?_
        refine r_aload_n E 4 0 rfl dX4_follow_52 ?_
        refine r_getJ E fd_X4_84 rfl (Nat.le_of_ble_eq_true rfl) (adr_lt (Nat.le_of_ble_eq_true rfl)) dX4_follow_53 ?_
        refine r_ldc2 E (-1) kl_X4_90 dX4_follow_56 ?_
        refine r_lxor E dX4_follow_59 ?_
        refine r_land E dX4_follow_60 ?_
        refine r_lconst E 0 rfl dX4_follow_61 ?_
        refine r_lcmp_ne E 84 (by decide) dX4_follow_62 dX4_follow_63 (fun c8 => ?_) (fun c8 => ?_)
        · have hw := ite_t hw c8
          refine r_aload_n E 4 0 rfl dX4_follow_66 ?_
          refine r_getJ E fd_X4_73 rfl (Nat.le_of_ble_eq_true rfl) (adr_lt (Nat.le_of_ble_eq_true rfl)) dX4_follow_67 ?_
          refine r_aload_n E 4 0 rfl dX4_follow_70 ?_
          refine r_getJ E fd_X4_92 rfl (Nat.le_of_ble_eq_true rfl) (adr_lt (Nat.le_of_ble_eq_true rfl)) dX4_follow_71 ?_
          refine r_ldc2 E (-1) kl_X4_90 dX4_follow_74 ?_
          refine r_lxor E dX4_follow_77 ?_
          refine r_land E dX4_follow_78 ?_
          refine r_lconst E 0 rfl dX4_follow_79 ?_
          refine r_lcmp_eq E 86 (by decide) dX4_follow_80 dX4_follow_81 (fun c9 => ?_) (fun c9 => ?_)
          · have hw := ite_t hw c9
            refine r_aload_n E 4 0 rfl dX4_follow_86 ?_
            refine r_callVI E (m_X4_handDown (EE_st E) (GX X)  h7 _ hw) lk_X4_107 (RM_mk (Nat.le_of_ble_eq_true rfl) (Nat.le_of_ble_eq_true rfl)) rfl rfl rfl rfl (Nat.le_of_ble_eq_true rfl) (adr_lt (Nat.le_of_ble_eq_true rfl)) (Nat.le_of_ble_eq_true rfl) rfl rfl (Nat.le_of_ble_eq_true rfl) (Nat.le_of_ble_eq_true rfl) dX4_follow_87 (fun r10 h11 hw => ?_)
            obtain ⟨zr10, hw⟩ := hw
            refine r_istore E [some (rf X 4 0), none, none, none, none, some (.int r10), some (.int x6)] (Nat.le_of_ble_eq_true rfl) rfl dX4_follow_90 ?_
            obtain ⟨v12, hv12⟩ : ∃ y : Int32, y = x6 + 1 := ⟨_, rfl⟩
            have hw := hw v12 hv12
            refine r_iinc E x6 v12 [some (rf X 4 0), none, none, none, none, some (.int r10), some (.int v12)] rfl (by rw [hv12]; rfl) (Nat.le_of_ble_eq_true rfl) rfl dX4_follow_92 ?_
            refine r_goto E 16 (by decide) dX4_follow_95 ?_
            exact GG_weak [true, false, false, false, false, true, true] rfl (hP16 _ _ _ hw)
          · have hw := ite_f hw c9
            refine r_iconst E 0 rfl dX4_follow_84 ?_
            exact hE _ _ _ _ _ _ (Nat.le_of_ble_eq_true rfl) (Nat.le_of_ble_eq_true rfl) dX4_follow_85 (isB_nar isB_0) ⟨isB_0, hw⟩
        · have hw := ite_f hw c8
          refine r_iconst E 0 rfl dX4_follow_84 ?_
          exact hE _ _ _ _ _ _ (Nat.le_of_ble_eq_true rfl) (Nat.le_of_ble_eq_true rfl) dX4_follow_85 (isB_nar isB_0) ⟨isB_0, hw⟩
set_option maxRecDepth 20000 in
theorem t_X4_follow_b16 {X : Ctx} (h : Hp) (x5 : Int32) (x6 : Int32)  (E : EE X cX4_follow RX4 7 4 96 0 0) {Q : Int32 → Hp → Prop} (hE : ENDi X cX4_follow .boolean (fun r u => isB r ∧ Q r u) NT 0 0)  (hw : wp_X4_follow_b16 x5 x6 h  Q) : GG X 0 0 NT h [some (rf X 4 0), none, none, none, none, some (.int x5), some (.int x6)] 16 [] :=
  hw (fun y5 y6 u => GG X 0 0 NT u [some (rf X 4 0), none, none, none, none, some (.int y5), some (.int y6)] 16 []) (fun y5 y6 u hq => t_X4_follow_b16F u y5 y6  E hE  (fun y5 y6 u => GG X 0 0 NT u [some (rf X 4 0), none, none, none, none, some (.int y5), some (.int y6)] 16 []) (fun y5 y6 u q => q) hq)
set_option maxRecDepth 20000 in
theorem m_X4_follow {l : Launch} (hl : l.stackTraces = false) (G : Gq) (p0 : Int64) (p1 : Int64)  (h : Hp) (Q : Int32 → Hp → Prop) (hw : wp_X4_follow p0 p1 h Q) : MI l G yX4_follow cX4_follow 7 (some .boolean) rm_X4_follow NT NT h (fun r => [r 4 0, .long p0, .long p1]) (fun r u => isB r ∧ Q r u) := by
  refine MI_of (L0 := (fun X => [some (rf X 4 0), some (.long p0), none, some (.long p1), none, none, none])) hl (by decide +kernel) rfl (fun _ => Nat.le_of_ble_eq_true rfl) (fun _ => rfl) fun X hXl hXG E hE => ?_
  subst hXl; subst hXG
  unfold wp_X4_follow at hw
  refine r_aload_n E 4 0 rfl dX4_follow_0 ?_
  refine r_lload_n E p0 rfl dX4_follow_1 ?_
  refine r_putJ E fd_X4_69 rfl rfl (Nat.le_of_ble_eq_true rfl) (adr_lt (Nat.le_of_ble_eq_true rfl)) rfl dX4_follow_2 ?_
  refine GG_toph fun h1 hh1 => ?_
  have hw := hw h1 hh1
  refine r_aload_n E 4 0 rfl dX4_follow_5 ?_
  refine r_lload_n E p1 rfl dX4_follow_6 ?_
  refine r_putJ E fd_X4_73 rfl rfl (Nat.le_of_ble_eq_true rfl) (adr_lt (Nat.le_of_ble_eq_true rfl)) rfl dX4_follow_7 ?_
  refine GG_toph fun h2 hh2 => ?_
  have hw := hw h2 hh2
  refine r_iconst E 1 rfl dX4_follow_10 ?_
  refine r_istore E [some (rf X 4 0), some (.long p0), none, some (.long p1), none, some (.int 1), none] (Nat.le_of_ble_eq_true rfl) rfl dX4_follow_11 ?_
  refine r_iconst E 0 rfl dX4_follow_13 ?_
  refine r_istore E [some (rf X 4 0), some (.long p0), none, some (.long p1), none, some (.int 1), some (.int 0)] (Nat.le_of_ble_eq_true rfl) rfl dX4_follow_14 ?_
  exact GG_weak [true, false, false, false, false, true, true] rfl (t_X4_follow_b16 h2 1 0 E hE  hw)
set_option maxRecDepth 20000 in
theorem m_X4_isOpen {l : Launch} (hl : l.stackTraces = false) (G : Gq) (p0 : Int64) (p1 : Int64) (p2 : Int32)  (h : Hp) (Q : Int32 → Prop) (hw : wp_X4_isOpen p0 p1 p2 h Q) : MI l G yX4_isOpen cX4_isOpen 6 (some .boolean) rm_X4_isOpen NT NT h (fun r => [r 4 0, .long p0, .long p1, .int p2]) (fun r u => h = u ∧ isB r ∧ Q r) := by
  refine MI_of (L0 := (fun X => [some (rf X 4 0), some (.long p0), none, some (.long p1), none, some (.int p2)])) hl (by decide +kernel) rfl (fun _ => Nat.le_of_ble_eq_true rfl) (fun _ => rfl) fun X hXl hXG E hE => ?_
  subst hXl; subst hXG
  unfold wp_X4_isOpen at hw
  refine r_lload_n E p0 rfl dX4_isOpen_0 ?_
  refine r_lload_n E p1 rfl dX4_isOpen_1 ?_
  refine r_ldc2 E (-1) kl_X4_90 dX4_isOpen_2 ?_
  refine r_lxor E dX4_isOpen_5 ?_
  refine r_land E dX4_isOpen_6 ?_
  refine r_iload E p2 rfl dX4_isOpen_7 ?_
  refine r_callSNI E (m_X10_hasBit_ (EE_st E) (GX X) (p0 &&& (p1 ^^^ (-1))) p2 h _ hw) lk_X4_38 (RM_mk (Nat.le_of_ble_eq_true rfl) (Nat.le_of_ble_eq_true rfl)) rfl rfl rfl rfl (Nat.le_of_ble_eq_true rfl) rfl rfl (Nat.le_of_ble_eq_true rfl) (Nat.le_of_ble_eq_true rfl) dX4_isOpen_9 (fun r1 u9 hw => ?_)
  obtain ⟨rfl, zr1, hw⟩ := hw
  refine r_if_eq E 46 (by decide) dX4_isOpen_12 (fun c2 => ?_) (fun c2 => ?_)
  · have hw := ite_t hw c2
    refine r_iconst E 0 rfl dX4_isOpen_46 ?_
    exact hE _ _ _ _ _ _ (Nat.le_of_ble_eq_true rfl) (Nat.le_of_ble_eq_true rfl) dX4_isOpen_47 (isB_nar isB_0) ⟨rfl, isB_0, hw⟩
  · have hw := ite_f hw c2
    refine r_lload_n E p0 rfl dX4_isOpen_15 ?_
    refine r_aload_n E 4 0 rfl dX4_isOpen_16 ?_
    refine r_getS E fd_X4_22 (t := 0) (j1 := 9) rfl rfl rfl rfl (Nat.le_of_ble_eq_true rfl) (adr_lt (Nat.le_of_ble_eq_true rfl)) dX4_isOpen_17 ?_
    refine r_getSN E fd_X4_52 (t := 0) (j1 := 13) rfl rfl rfl rfl (Nat.le_of_ble_eq_true rfl) (adr_lt (Nat.le_of_ble_eq_true rfl)) dX4_isOpen_20 ?_
    refine r_iload E p2 rfl dX4_isOpen_23 ?_
    obtain ⟨i3, hw⟩ := hw
    refine r_iald E rfl rfl rfl (Nat.le_of_ble_eq_true rfl) (adr_lt (Nat.le_of_ble_eq_true rfl)) i3 dX4_isOpen_25 ?_
    refine r_aload_n E 4 0 rfl dX4_isOpen_26 ?_
    refine r_getS E fd_X4_22 (t := 0) (j1 := 9) rfl rfl rfl rfl (Nat.le_of_ble_eq_true rfl) (adr_lt (Nat.le_of_ble_eq_true rfl)) dX4_isOpen_27 ?_
    refine r_getSN E fd_X4_55 (t := 0) (j1 := 14) rfl rfl rfl rfl (Nat.le_of_ble_eq_true rfl) (adr_lt (Nat.le_of_ble_eq_true rfl)) dX4_isOpen_30 ?_
    refine r_iload E p2 rfl dX4_isOpen_33 ?_
    refine r_iald E rfl rfl rfl (Nat.le_of_ble_eq_true rfl) (adr_lt (Nat.le_of_ble_eq_true rfl)) i3 dX4_isOpen_35 ?_
    refine r_callSI E (m_X4_hasEither (EE_st E) (GX X) p0 (gI h 13 0 p2.toNatClampNeg) (gI h 14 0 p2.toNatClampNeg) h _ hw) lk_X4_127 (RM_mk (Nat.le_of_ble_eq_true rfl) (Nat.le_of_ble_eq_true rfl)) rfl rfl rfl rfl (Nat.le_of_ble_eq_true rfl) rfl rfl (Nat.le_of_ble_eq_true rfl) (Nat.le_of_ble_eq_true rfl) dX4_isOpen_36 (fun r4 u9 hw => ?_)
    obtain ⟨rfl, zr4, hw⟩ := hw
    refine r_if_ne E 46 (by decide) dX4_isOpen_39 (fun c5 => ?_) (fun c5 => ?_)
    · have hw := ite_t hw c5
      refine r_iconst E 1 rfl dX4_isOpen_42 ?_
      refine r_goto E 47 (by decide) dX4_isOpen_43 ?_
      exact hE _ _ _ _ _ _ (Nat.le_of_ble_eq_true rfl) (Nat.le_of_ble_eq_true rfl) dX4_isOpen_47 (isB_nar isB_1) ⟨rfl, isB_1, hw⟩
    · have hw := ite_f hw c5
      refine r_iconst E 0 rfl dX4_isOpen_46 ?_
      exact hE _ _ _ _ _ _ (Nat.le_of_ble_eq_true rfl) (Nat.le_of_ble_eq_true rfl) dX4_isOpen_47 (isB_nar isB_0) ⟨rfl, isB_0, hw⟩
set_option maxRecDepth 20000 in
theorem t_X4_lastOpen_b74 {X : Ctx} (h : Hp) (x1 : Int32)  (E : EE X cX4_lastOpen RX4 4 4 94 0 0) {Q : Int32 → Prop} (hE : ENDi X cX4_lastOpen .int (fun r u => h = u ∧ Q r) NT 0 0) (P7 : Int32 → Prop) (hP7 : ∀ (y1 : Int32), P7 y1 → GG X 0 0 NT h [some (rf X 4 0), some (.int y1), none, none] 7 []) (hw : wp_X4_lastOpen_b74 x1 h P7 Q) : GG X 0 0 NT h [some (rf X 4 0), some (.int x1), none, none] 74 [] := by
  unfold wp_X4_lastOpen_b74 at hw
  obtain ⟨v1, hv1⟩ : ∃ y : Int32, y = x1 + (-1) := ⟨_, rfl⟩
  have hw := hw v1 hv1
  refine r_iinc E x1 v1 [some (rf X 4 0), some (.int v1), none, none] rfl (by rw [hv1]; rfl) (Nat.le_of_ble_eq_true rfl) rfl dX4_lastOpen_74 ?_
  refine r_goto E 7 (by decide) dX4_lastOpen_77 ?_
  exact GG_weak [true, true, false, false] rfl (hP7 _ hw)
set_option maxRecDepth 20000 in
theorem t_X4_lastOpen_b50 {X : Ctx} (h : Hp) (x1 : Int32) (x2 : Int32) (x3 : Int32)  (E : EE X cX4_lastOpen RX4 4 4 94 0 0) {Q : Int32 → Prop} (hE : ENDi X cX4_lastOpen .int (fun r u => h = u ∧ Q r) NT 0 0) (P7 : Int32 → Prop) (hP7 : ∀ (y1 : Int32), P7 y1 → GG X 0 0 NT h [some (rf X 4 0), some (.int y1), none, none] 7 []) (hw : wp_X4_lastOpen_b50 x1 x2 x3 h P7 Q) : GG X 0 0 NT h [some (rf X 4 0), some (.int x1), some (.int x2), some (.int x3)] 50 [] := by
  unfold wp_X4_lastOpen_b50 at hw
  refine r_iload_n E x3 rfl dX4_lastOpen_50 ?_
  refine r_bipush E 38 rfl dX4_lastOpen_51 ?_
  refine r_icmp_ne E 74 (by decide) dX4_lastOpen_53 (fun c1 => ?_) (fun c1 => ?_)
  · have hw := ite_t hw c1
    refine r_aload_n E 4 0 rfl dX4_lastOpen_56 ?_
    refine r_aload_n E 4 0 rfl dX4_lastOpen_57 ?_
    refine r_getJ E fd_X4_73 rfl (Nat.le_of_ble_eq_true rfl) (adr_lt (Nat.le_of_ble_eq_true rfl)) dX4_lastOpen_58 ?_
    refine r_aload_n E 4 0 rfl dX4_lastOpen_61 ?_
    refine r_getJ E fd_X4_95 rfl (Nat.le_of_ble_eq_true rfl) (adr_lt (Nat.le_of_ble_eq_true rfl)) dX4_lastOpen_62 ?_
    refine r_iload_n E x2 rfl dX4_lastOpen_65 ?_
    refine r_callVI E (m_X4_isOpen (EE_st E) (GX X) (gJ h 4 0 5) (gJ h 4 0 9) x2 h _ hw) lk_X4_146 (RM_mk (Nat.le_of_ble_eq_true rfl) (Nat.le_of_ble_eq_true rfl)) rfl rfl rfl rfl (Nat.le_of_ble_eq_true rfl) (adr_lt (Nat.le_of_ble_eq_true rfl)) (Nat.le_of_ble_eq_true rfl) rfl rfl (Nat.le_of_ble_eq_true rfl) (Nat.le_of_ble_eq_true rfl) dX4_lastOpen_66 (fun r2 u9 hw => ?_)
    obtain ⟨rfl, zr2, hw⟩ := hw
    refine r_if_eq E 74 (by decide) dX4_lastOpen_69 (fun c3 => ?_) (fun c3 => ?_)
    · have hw := ite_t hw c3
      exact GG_weak [true, true, false, false] rfl (t_X4_lastOpen_b74 h x1 E hE P7 hP7  hw)
    · have hw := ite_f hw c3
      refine r_iload_n E x2 rfl dX4_lastOpen_72 ?_
      exact hE _ _ _ _ _ _ (Nat.le_of_ble_eq_true rfl) (Nat.le_of_ble_eq_true rfl) dX4_lastOpen_73 rfl ⟨rfl, hw⟩
  · have hw := ite_f hw c1
    exact GG_weak [true, true, false, false] rfl (t_X4_lastOpen_b74 h x1 E hE P7 hP7  hw)
set_option maxRecDepth 20000 in
theorem t_X4_lastOpen_b7F {X : Ctx} (h : Hp) (x1 : Int32)  (E : EE X cX4_lastOpen RX4 4 4 94 0 0) {Q : Int32 → Prop} (hE : ENDi X cX4_lastOpen .int (fun r u => h = u ∧ Q r) NT 0 0)  (P7 : Int32 → Prop) (hP7 : ∀ (y1 : Int32), P7 y1 → GG X 0 0 NT h [some (rf X 4 0), some (.int y1), none, none] 7 []) (hw : wp_X4_lastOpen_b7F  h  Q P7 x1 ) : GG X 0 0 NT h [some (rf X 4 0), some (.int x1), none, none] 7 [] := by
  unfold wp_X4_lastOpen_b7F at hw
  refine r_iload_n E x1 rfl dX4_lastOpen_7 ?_
  refine r_if_lt E 80 (by decide) dX4_lastOpen_8 (fun c1 => ?_) (fun c1 => ?_)
  · have hw := ite_t hw c1
    refine r_iconst E (-1) rfl dX4_lastOpen_80 ?_
    exact hE _ _ _ _ _ _ (Nat.le_of_ble_eq_true rfl) (Nat.le_of_ble_eq_true rfl) dX4_lastOpen_81 rfl ⟨rfl, hw⟩
  · have hw := ite_f hw c1
    refine r_aload_n E 4 0 rfl dX4_lastOpen_11 ?_
    refine r_getS E fd_X4_18 (t := 0) (j1 := 28) rfl rfl rfl rfl (Nat.le_of_ble_eq_true rfl) (adr_lt (Nat.le_of_ble_eq_true rfl)) dX4_lastOpen_12 ?_
    refine r_iload_n E x1 rfl dX4_lastOpen_15 ?_
    obtain ⟨i2, hw⟩ := hw
    refine r_iald E rfl rfl rfl (Nat.le_of_ble_eq_true rfl) (adr_lt (Nat.le_of_ble_eq_true rfl)) i2 dX4_lastOpen_16 ?_
    refine GG_topI fun v3 hv3 => ?_
    have hw := hw v3 hv3
    refine r_istore_n E [some (rf X 4 0), some (.int x1), some (.int v3), none] rfl (Nat.le_of_ble_eq_true rfl) rfl dX4_lastOpen_17 ?_
    refine r_aload_n E 4 0 rfl dX4_lastOpen_18 ?_
    refine r_getS E fd_X4_22 (t := 0) (j1 := 9) rfl rfl rfl rfl (Nat.le_of_ble_eq_true rfl) (adr_lt (Nat.le_of_ble_eq_true rfl)) dX4_lastOpen_19 ?_
    refine r_getSN E fd_X4_44 (t := 0) (j1 := 12) rfl rfl rfl rfl (Nat.le_of_ble_eq_true rfl) (adr_lt (Nat.le_of_ble_eq_true rfl)) dX4_lastOpen_22 ?_
    refine r_iload_n E v3 rfl dX4_lastOpen_25 ?_
    obtain ⟨i4, hw⟩ := hw
    refine r_cald E rfl rfl rfl (Nat.le_of_ble_eq_true rfl) (adr_lt (Nat.le_of_ble_eq_true rfl)) i4 dX4_lastOpen_26 ?_
    refine GG_topI fun v5 hv5 => ?_
    have hw := hw v5 hv5
    refine r_istore_n E [some (rf X 4 0), some (.int x1), some (.int v3), some (.int v5)] rfl (Nat.le_of_ble_eq_true rfl) rfl dX4_lastOpen_27 ?_
    refine r_iload_n E v5 rfl dX4_lastOpen_28 ?_
    refine r_bipush E 124 rfl dX4_lastOpen_29 ?_
    refine r_icmp_ne E 50 (by decide) dX4_lastOpen_31 (fun c6 => ?_) (fun c6 => ?_)
    · have hw := ite_t hw c6
      refine r_aload_n E 4 0 rfl dX4_lastOpen_34 ?_
      refine r_aload_n E 4 0 rfl dX4_lastOpen_35 ?_
      refine r_getJ E fd_X4_69 rfl (Nat.le_of_ble_eq_true rfl) (adr_lt (Nat.le_of_ble_eq_true rfl)) dX4_lastOpen_36 ?_
      refine r_aload_n E 4 0 rfl dX4_lastOpen_39 ?_
      refine r_getJ E fd_X4_87 rfl (Nat.le_of_ble_eq_true rfl) (adr_lt (Nat.le_of_ble_eq_true rfl)) dX4_lastOpen_40 ?_
      refine r_iload_n E v3 rfl dX4_lastOpen_43 ?_
      refine r_callVI E (m_X4_isOpen (EE_st E) (GX X) (gJ h 4 0 4) (gJ h 4 0 8) v3 h _ hw) lk_X4_146 (RM_mk (Nat.le_of_ble_eq_true rfl) (Nat.le_of_ble_eq_true rfl)) rfl rfl rfl rfl (Nat.le_of_ble_eq_true rfl) (adr_lt (Nat.le_of_ble_eq_true rfl)) (Nat.le_of_ble_eq_true rfl) rfl rfl (Nat.le_of_ble_eq_true rfl) (Nat.le_of_ble_eq_true rfl) dX4_lastOpen_44 (fun r7 u9 hw => ?_)
      obtain ⟨rfl, zr7, hw⟩ := hw
      refine r_if_ne E 72 (by decide) dX4_lastOpen_47 (fun c8 => ?_) (fun c8 => ?_)
      · have hw := ite_t hw c8
        exact GG_weak [true, true, true, true] rfl (t_X4_lastOpen_b50 h x1 v3 v5 E hE P7 hP7  hw)
      · have hw := ite_f hw c8
        refine r_iload_n E v3 rfl dX4_lastOpen_72 ?_
        exact hE _ _ _ _ _ _ (Nat.le_of_ble_eq_true rfl) (Nat.le_of_ble_eq_true rfl) dX4_lastOpen_73 rfl ⟨rfl, hw⟩
    · have hw := ite_f hw c6
      exact GG_weak [true, true, true, true] rfl (t_X4_lastOpen_b50 h x1 v3 v5 E hE P7 hP7  hw)
set_option maxRecDepth 20000 in
theorem t_X4_lastOpen_b7 {X : Ctx} (h : Hp) (x1 : Int32)  (E : EE X cX4_lastOpen RX4 4 4 94 0 0) {Q : Int32 → Prop} (hE : ENDi X cX4_lastOpen .int (fun r u => h = u ∧ Q r) NT 0 0)  (hw : wp_X4_lastOpen_b7 x1 h  Q) : GG X 0 0 NT h [some (rf X 4 0), some (.int x1), none, none] 7 [] :=
  hw (fun y1  => GG X 0 0 NT h [some (rf X 4 0), some (.int y1), none, none] 7 []) (fun y1  hq => t_X4_lastOpen_b7F h y1  E hE  (fun y1  => GG X 0 0 NT h [some (rf X 4 0), some (.int y1), none, none] 7 []) (fun y1  q => q) hq)
set_option maxRecDepth 20000 in
theorem m_X4_lastOpen {l : Launch} (hl : l.stackTraces = false) (G : Gq)   (h : Hp) (Q : Int32 → Prop) (hw : wp_X4_lastOpen  h Q) : MI l G yX4_lastOpen cX4_lastOpen 4 (some .int) rm_X4_lastOpen NT NT h (fun r => [r 4 0]) (fun r u => h = u ∧ Q r) := by
  refine MI_of (L0 := (fun X => [some (rf X 4 0), none, none, none])) hl (by decide +kernel) rfl (fun _ => Nat.le_of_ble_eq_true rfl) (fun _ => rfl) fun X hXl hXG E hE => ?_
  subst hXl; subst hXG
  unfold wp_X4_lastOpen at hw
  refine r_aload_n E 4 0 rfl dX4_lastOpen_0 ?_
  refine r_getI E fd_X4_58 rfl (Nat.le_of_ble_eq_true rfl) (adr_lt (Nat.le_of_ble_eq_true rfl)) dX4_lastOpen_1 ?_
  refine r_iconst E 1 rfl dX4_lastOpen_4 ?_
  refine r_isub E dX4_lastOpen_5 ?_
  refine GG_topI fun v1 hv1 => ?_
  have hw := hw v1 hv1
  refine r_istore_n E [some (rf X 4 0), some (.int v1), none, none] rfl (Nat.le_of_ble_eq_true rfl) rfl dX4_lastOpen_6 ?_
  exact GG_weak [true, true, false, false] rfl (t_X4_lastOpen_b7 h v1 E hE  hw)
