def rm_X11_pass : Room := { frames := 2, cells := 0, slots := 0, locals := 46 }
def wp_X11_pass (p0 : Int32) (h : Hp) (Q : Int32 → Hp → Prop) : Prop := LET (sI h 11 0 0 0) fun h1 => wp_X11_in p0 1 100 h1 (fun r2 => if r2 = 0 then (wp_X11_fails 1 h1 (fun r4 h5 => Q r4 h5)) else (LET (sI h1 11 0 1 ((gI h1 11 0 1) + p0)) fun h6 => Q (gI h6 11 0 1) h6))
def rm_X11_setQuota : Room := { frames := 2, cells := 0, slots := 0, locals := 46 }
def wp_X11_setQuota (p0 : Int32) (p1 : Int32) (h : Hp) (Q : Int32 → Hp → Prop) : Prop := LET (sI h 11 0 0 0) fun h1 => wp_X11_in p0 1 7 h1 (fun r2 => if r2 = 0 then (wp_X11_fails 1 h1 (fun r4 h5 => Q r4 h5)) else (wp_X11_in p1 0 9999 h1 (fun r6 => if r6 = 0 then (wp_X11_fails 2 h1 (fun r8 h9 => Q r8 h9)) else (vp_in p0 8 ∧ LET (gI h1 44 0 p0.toNatClampNeg) fun v11 => LET (sI h1 44 0 p0.toNatClampNeg p1) fun h12 => Q v11 h12))))
def rm_X11_isIn : Room := { frames := 1, cells := 0, slots := 0, locals := 24 }
def wp_X11_isIn (p0 : Int32) (p1 : Int32) (h : Hp) (Q : Int32 → Prop) : Prop := vp_in p0 40 ∧ if (gI h 39 0 p0.toNatClampNeg) = 0 then (Q 0) else (if (gI h 40 0 p0.toNatClampNeg) = 0 then (if (gI h 41 0 p0.toNatClampNeg) = p1 then (Q 1) else (Q 0)) else (Q 0))
def rm_X11_filled : Room := { frames := 2, cells := 0, slots := 0, locals := 46 }
def wp_X11_filled_b47 (x1 : Int32) (x2 : Int32) (x4 : Int32) (s0 : Int32) (s1 : Int32) (h : Hp) (P10 : Int32 → Int32 → Prop) (Q : Int32 → Prop) : Prop := LET (s0 + s1) fun v1 => LET (x4 + 1) fun v2 => P10 v1 v2
def wp_X11_filled_b46 (x1 : Int32) (x2 : Int32) (x4 : Int32) (s0 : Int32) (h : Hp) (P10 : Int32 → Int32 → Prop) (Q : Int32 → Prop) : Prop := wp_X11_filled_b47 x1 x2 x4 s0 0 h P10 Q
def wp_X11_filled_b10F (x1 : Int32) (x2 : Int32) (h : Hp)  (Q : Int32 → Prop) (P10 : Int32 → Int32 → Prop) (x3 : Int32) (x4 : Int32)  : Prop := if (gI h 11 0 2) ≤ x4 then (Q x3) else (if x4 = x2 then (wp_X11_filled_b46 x1 x2 x4 x3 h P10 Q) else (wp_X11_isIn x4 x1 h (fun r3 => if r3 = 0 then (wp_X11_filled_b46 x1 x2 x4 x3 h P10 Q) else (vp_in x4 40 ∧ wp_X11_filled_b47 x1 x2 x4 x3 (gI h 37 0 x4.toNatClampNeg) h P10 Q))))
def wp_X11_filled_b10 (x1 : Int32) (x2 : Int32) (x3 : Int32) (x4 : Int32) (h : Hp)  (Q : Int32 → Prop) : Prop := LFP2 (wp_X11_filled_b10F x1 x2 h  Q) x3 x4 
def wp_X11_filled (p0 : Int32) (p1 : Int32) (h : Hp) (Q : Int32 → Prop) : Prop := vp_in p0 8 ∧ LET (gI h 45 0 p0.toNatClampNeg) fun v2 => wp_X11_filled_b10 p0 p1 v2 0 h Q
def rm_X11_inBox : Room := { frames := 3, cells := 0, slots := 0, locals := 70 }
def wp_X11_inBox (p0 : Int32) (h : Hp) (Q : Int32 → Hp → Prop) : Prop := LET (sI h 11 0 0 0) fun h1 => wp_X11_in p0 0 7 h1 (fun r2 => if r2 = 0 then (wp_X11_fails 1 h1 (fun r4 h5 => Q r4 h5)) else (wp_X11_filled p0 (-1) h1 (fun r6 => Q r6 h1)))
def rm_X11_isMail : Room := { frames := 2, cells := 0, slots := 0, locals := 46 }
def wp_X11_isMail (p0 : Int32) (h : Hp) (Q : Int32 → Prop) : Prop := wp_X11_in p0 0 ((gI h 11 0 2) - 1) h (fun r1 => Q r1)
def rm_X11_boxOf : Room := { frames := 3, cells := 0, slots := 0, locals := 67 }
def wp_X11_boxOf_b46  (h : Hp)  (Q : Int32 → Hp → Prop) : Prop := wp_X11_fails 2 h (fun r1 h2 => Q r1 h2)
def wp_X11_boxOf (p0 : Int32) (h : Hp) (Q : Int32 → Hp → Prop) : Prop := LET (sI h 11 0 0 0) fun h1 => wp_X11_isMail p0 h1 (fun r2 => if r2 = 0 then (wp_X11_fails 1 h1 (fun r4 h5 => Q r4 h5)) else (vp_in p0 40 ∧ if (gI h1 39 0 p0.toNatClampNeg) = 0 then (wp_X11_boxOf_b46 h1 Q) else (if (gI h1 40 0 p0.toNatClampNeg) = 0 then (Q (gI h1 41 0 p0.toNatClampNeg) h1) else (wp_X11_boxOf_b46 h1 Q))))
def rm_X11_hasFlag : Room := { frames := 3, cells := 0, slots := 0, locals := 67 }
def wp_X11_hasFlag_b24 (x1 : Int32) (x2 : Int32) (s1 : Int32) (h : Hp)  (Q : Int32 → Hp → Prop) : Prop := LET (sI h 11 0 0 s1) fun h1 => if (gI h1 11 0 0) = 0 then (vp_in x1 40 ∧ if (((gI h1 42 0 x1.toNatClampNeg) >>> (x2 &&& 31)) &&& 1) = 1 then (Q 1 h1) else (Q 0 h1)) else (Q 0 h1)
def wp_X11_hasFlag_b23 (x1 : Int32) (x2 : Int32) (h : Hp)  (Q : Int32 → Hp → Prop) : Prop := wp_X11_hasFlag_b24 x1 x2 1 h Q
def wp_X11_hasFlag (p0 : Int32) (p1 : Int32) (h : Hp) (Q : Int32 → Hp → Prop) : Prop := wp_X11_isMail p0 h (fun r1 => if r1 = 0 then (wp_X11_hasFlag_b23 p0 p1 h Q) else (wp_X11_in p1 0 7 h (fun r3 => if r3 = 0 then (wp_X11_hasFlag_b23 p0 p1 h Q) else (wp_X11_hasFlag_b24 p0 p1 0 h Q))))
def rm_X11_move : Room := { frames := 3, cells := 0, slots := 0, locals := 67 }
def wp_X11_move_b23  (h : Hp)  (Q : Int32 → Hp → Prop) : Prop := wp_X11_fails 1 h (fun r1 h2 => Q r1 h2)
def wp_X11_move_b47  (h : Hp)  (Q : Int32 → Hp → Prop) : Prop := wp_X11_fails 2 h (fun r1 h2 => Q r1 h2)
def wp_X11_move (p0 : Int32) (p1 : Int32) (h : Hp) (Q : Int32 → Hp → Prop) : Prop := LET (sI h 11 0 0 0) fun h1 => wp_X11_isMail p0 h1 (fun r2 => if r2 = 0 then (wp_X11_move_b23 h1 Q) else (wp_X11_in p1 0 7 h1 (fun r4 => if r4 = 0 then (wp_X11_move_b23 h1 Q) else (vp_in p0 40 ∧ if (gI h1 39 0 p0.toNatClampNeg) = 0 then (wp_X11_move_b47 h1 Q) else (if (gI h1 40 0 p0.toNatClampNeg) = 0 then (LET (gI h1 41 0 p0.toNatClampNeg) fun v9 => LET (sI h1 41 0 p0.toNatClampNeg p1) fun h10 => LET (sI h10 43 0 p0.toNatClampNeg p1) fun h11 => Q v9 h11) else (wp_X11_move_b47 h1 Q))))))
def rm_X11_isPair : Room := { frames := 1, cells := 0, slots := 0, locals := 24 }
def wp_X11_isPair (p0 : Int32) (h : Hp) (Q : Int32 → Prop) : Prop := if p0 = 38 then (Q 1) else (if p0 = 124 then (Q 1) else (Q 0))
def rm_X11_isTold : Room := { frames := 2, cells := 0, slots := 0, locals := 46 }
def wp_X11_isTold (p0 : Int32) (p1 : Int32) (h : Hp) (Q : Int32 → Prop) : Prop := if p0 = 98 then (wp_X11_in p1 0 15 h (fun r2 => Q r2)) else if p0 = 100 then (wp_X11_in p1 0 6 h (fun r4 => Q r4)) else if p0 = 102 then (wp_X11_in p1 0 9 h (fun r6 => Q r6)) else if p0 = 107 then (wp_X11_in p1 0 7 h (fun r8 => Q r8)) else if p0 = 110 then (wp_X11_in p1 1 10 h (fun r10 => Q r10)) else if p0 = 115 then (wp_X11_in p1 0 15 h (fun r12 => Q r12)) else if p0 = 116 then (wp_X11_in p1 0 9 h (fun r14 => Q r14)) else if p0 = 122 then (wp_X11_in p1 0 999 h (fun r16 => Q r16)) else (if p0 = 97 then (Q 1) else (if p0 = 33 then (Q 1) else (wp_X11_isPair p0 h (fun r19 => if r19 = 0 then (Q 0) else (Q 1)))))
def rm_X11_addsTest : Room := { frames := 1, cells := 0, slots := 0, locals := 24 }
def wp_X11_addsTest (p0 : Int32) (p1 : Int32) (p2 : Int32) (h : Hp) (Q : Int32 → Hp → Prop) : Prop := vp_in (gI h 11 0 19) 60 ∧ LET (sI h 49 0 (gI h 11 0 19).toNatClampNeg (vp_nar .char p0)) fun h2 => vp_in (gI h2 11 0 19) 60 ∧ LET (sI h2 50 0 (gI h2 11 0 19).toNatClampNeg p1) fun h4 => vp_in (gI h4 11 0 19) 60 ∧ LET (sI h4 51 0 (gI h4 11 0 19).toNatClampNeg p2) fun h6 => LET (sI h6 11 0 19 ((gI h6 11 0 19) + 1)) fun h7 => Q ((gI h7 11 0 19) - 1) h7
def rm_X11_isTest : Room := { frames := 2, cells := 0, slots := 0, locals := 46 }
def wp_X11_isTest (p0 : Int32) (h : Hp) (Q : Int32 → Prop) : Prop := wp_X11_in p0 0 ((gI h 11 0 19) - 1) h (fun r1 => Q r1)
def rm_X11_test : Room := { frames := 3, cells := 0, slots := 0, locals := 67 }
def wp_X11_test_b55  (h : Hp)  (Q : Int32 → Hp → Prop) : Prop := wp_X11_fails 2 h (fun r1 h2 => Q r1 h2)
def wp_X11_test_b61 (x1 : Int32) (x2 : Int32) (x3 : Int32) (h : Hp)  (Q : Int32 → Hp → Prop) : Prop := if (gI h 11 0 19) = 60 then (wp_X11_fails 3 h (fun r2 h3 => Q r2 h3)) else (wp_X11_addsTest x1 x2 x3 h (fun r4 h5 => Q r4 h5))
def wp_X11_test_b40 (x1 : Int32) (x2 : Int32) (x3 : Int32) (h : Hp)  (Q : Int32 → Hp → Prop) : Prop := wp_X11_isPair x1 h (fun r1 => if r1 = 0 then (wp_X11_test_b61 x1 x2 x3 h Q) else (wp_X11_isTest x3 h (fun r3 => if r3 = 0 then (wp_X11_test_b55 h Q) else (wp_X11_test_b61 x1 x2 x3 h Q))))
def wp_X11_test_b32 (x1 : Int32) (x2 : Int32) (x3 : Int32) (h : Hp)  (Q : Int32 → Hp → Prop) : Prop := wp_X11_isTest x2 h (fun r1 => if r1 = 0 then (wp_X11_test_b55 h Q) else (wp_X11_test_b40 x1 x2 x3 h Q))
def wp_X11_test (p0 : Int32) (p1 : Int32) (p2 : Int32) (h : Hp) (Q : Int32 → Hp → Prop) : Prop := LET (sI h 11 0 0 0) fun h1 => wp_X11_isTold p0 p1 h1 (fun r2 => if r2 = 0 then (wp_X11_fails 1 h1 (fun r4 h5 => Q r4 h5)) else (if p0 = 33 then (wp_X11_test_b32 p0 p1 p2 h1 Q) else (wp_X11_isPair p0 h1 (fun r7 => if r7 = 0 then (wp_X11_test_b40 p0 p1 p2 h1 Q) else (wp_X11_test_b32 p0 p1 p2 h1 Q)))))
def rm_X11_bits : Room := { frames := 1, cells := 0, slots := 0, locals := 24 }
def wp_X11_bits_b4F (x0 : Int32) (h : Hp)  (Q : Int32 → Prop) (P4 : Int32 → Int32 → Prop) (x1 : Int32) (x2 : Int32)  : Prop := if 16 ≤ x2 then (Q x1) else (LET (x1 + ((x0 >>> (x2 &&& 31)) &&& 1)) fun v2 => LET (x2 + 1) fun v3 => P4 v2 v3)
def wp_X11_bits_b4 (x0 : Int32) (x1 : Int32) (x2 : Int32) (h : Hp)  (Q : Int32 → Prop) : Prop := LFP2 (wp_X11_bits_b4F x0 h  Q) x1 x2 
def wp_X11_bits (p0 : Int32) (h : Hp) (Q : Int32 → Prop) : Prop := wp_X11_bits_b4 p0 0 0 h Q
def rm_X11_ofMail : Room := { frames := 2, cells := 0, slots := 0, locals := 46 }
def wp_X11_ofMail (p0 : Int32) (p1 : Int32) (p2 : Int32) (h : Hp) (Q : Int32 → Prop) : Prop := if p0 = 98 then (vp_in p2 40 ∧ if (((gI h 36 0 p2.toNatClampNeg) >>> (p1 &&& 31)) &&& 1) = 1 then (Q 1) else (Q 0)) else if p0 = 100 then (vp_in p2 40 ∧ if ((gI h 38 0 p2.toNatClampNeg) - (gI h 38 0 p2.toNatClampNeg) / 7 * 7) = p1 then (Q 1) else (Q 0)) else if p0 = 102 then (vp_in p2 40 ∧ if (gI h 33 0 p2.toNatClampNeg) = p1 then (Q 1) else (Q 0)) else if p0 = 115 then (vp_in p2 40 ∧ if (((gI h 35 0 p2.toNatClampNeg) >>> (p1 &&& 31)) &&& 1) = 1 then (Q 1) else (Q 0)) else if p0 = 116 then (vp_in p2 40 ∧ if (((gI h 34 0 p2.toNatClampNeg) >>> (p1 &&& 31)) &&& 1) = 1 then (Q 1) else (Q 0)) else if p0 = 122 then (vp_in p2 40 ∧ if (gI h 37 0 p2.toNatClampNeg) ≤ p1 then (Q 0) else (Q 1)) else (if p0 = 110 then (vp_in p2 40 ∧ wp_X11_bits (gI h 34 0 p2.toNatClampNeg) h (fun r21 => if r21 < p1 then (Q 0) else (Q 1))) else (Q 0))
def rm_X11_holding : Room := { frames := 3, cells := 0, slots := 0, locals := 69 }
def wp_X11_holding_b202 (x1 : Int32) (x2 : Int32) (x3 : Int32) (x4 : Int32) (s1 : Int32) (s2 : Int32) (h : Hp) (P3 : Int32 → Hp → Prop) (Q : Int32 → Hp → Prop) : Prop := vp_in s1 60 ∧ LET (sI h 52 0 s1.toNatClampNeg (vp_nar .boolean s2)) fun h2 => LET (x4 + 1) fun v3 => P3 v3 h2
def wp_X11_holding_b192 (x1 : Int32) (x2 : Int32) (x3 : Int32) (x4 : Int32) (s1 : Int32) (h : Hp) (P3 : Int32 → Hp → Prop) (Q : Int32 → Hp → Prop) : Prop := wp_X11_holding_b202 x1 x2 x3 x4 s1 1 h P3 Q
def wp_X11_holding_b151 (x1 : Int32) (x2 : Int32) (x3 : Int32) (x4 : Int32) (s1 : Int32) (h : Hp) (P3 : Int32 → Hp → Prop) (Q : Int32 → Hp → Prop) : Prop := wp_X11_holding_b202 x1 x2 x3 x4 s1 0 h P3 Q
def wp_X11_holding_b72 (x1 : Int32) (x2 : Int32) (x3 : Int32) (x4 : Int32) (x5 : Int32) (s0 : Int32) (h : Hp) (P3 : Int32 → Hp → Prop) (Q : Int32 → Hp → Prop) : Prop := if x5 = 33 then (vp_in x4 60 ∧ vp_in (gI h 50 0 x4.toNatClampNeg) 60 ∧ if (gI h 52 0 (gI h 50 0 x4.toNatClampNeg).toNatClampNeg) = 0 then (wp_X11_holding_b202 x1 x2 x3 x4 x4 1 h P3 Q) else (wp_X11_holding_b202 x1 x2 x3 x4 x4 0 h P3 Q)) else (if x5 = 38 then (vp_in x4 60 ∧ vp_in (gI h 50 0 x4.toNatClampNeg) 60 ∧ if (gI h 52 0 (gI h 50 0 x4.toNatClampNeg).toNatClampNeg) = 0 then (wp_X11_holding_b151 x1 x2 x3 x4 x4 h P3 Q) else (vp_in (gI h 51 0 x4.toNatClampNeg) 60 ∧ if (gI h 52 0 (gI h 51 0 x4.toNatClampNeg).toNatClampNeg) = 0 then (wp_X11_holding_b151 x1 x2 x3 x4 x4 h P3 Q) else (wp_X11_holding_b202 x1 x2 x3 x4 x4 1 h P3 Q))) else (if x5 = 124 then (vp_in x4 60 ∧ vp_in (gI h 50 0 x4.toNatClampNeg) 60 ∧ if (gI h 52 0 (gI h 50 0 x4.toNatClampNeg).toNatClampNeg) = 0 then (vp_in (gI h 51 0 x4.toNatClampNeg) 60 ∧ if (gI h 52 0 (gI h 51 0 x4.toNatClampNeg).toNatClampNeg) = 0 then (wp_X11_holding_b202 x1 x2 x3 x4 x4 0 h P3 Q) else (wp_X11_holding_b192 x1 x2 x3 x4 x4 h P3 Q)) else (wp_X11_holding_b192 x1 x2 x3 x4 x4 h P3 Q)) else (wp_X11_holding_b202 x1 x2 x3 x4 x4 s0 h P3 Q)))
def wp_X11_holding_b67 (x1 : Int32) (x2 : Int32) (x3 : Int32) (x4 : Int32) (x5 : Int32) (h : Hp) (P3 : Int32 → Hp → Prop) (Q : Int32 → Hp → Prop) : Prop := wp_X11_holding_b72 x1 x2 x3 x4 x5 1 h P3 Q
def wp_X11_holding_b71 (x1 : Int32) (x2 : Int32) (x3 : Int32) (x4 : Int32) (x5 : Int32) (h : Hp) (P3 : Int32 → Hp → Prop) (Q : Int32 → Hp → Prop) : Prop := wp_X11_holding_b72 x1 x2 x3 x4 x5 0 h P3 Q
def wp_X11_holding_b3F (x1 : Int32) (x2 : Int32) (x3 : Int32)   (Q : Int32 → Hp → Prop) (P3 : Int32 → Hp → Prop) (x4 : Int32) (h : Hp) : Prop := if x1 < x4 then (vp_in x1 60 ∧ isB (gI h 52 0 x1.toNatClampNeg) ∧ Q (gI h 52 0 x1.toNatClampNeg) h) else (vp_in x4 60 ∧ LET (gI h 49 0 x4.toNatClampNeg) fun v4 => if v4 = 97 then (wp_X11_holding_b67 x1 x2 x3 x4 v4 h P3 Q) else (if v4 = 107 then (if ((x3 >>> ((gI h 50 0 x4.toNatClampNeg) &&& 31)) &&& 1) = 1 then (wp_X11_holding_b67 x1 x2 x3 x4 v4 h P3 Q) else (wp_X11_holding_b71 x1 x2 x3 x4 v4 h P3 Q)) else (wp_X11_ofMail v4 (gI h 50 0 x4.toNatClampNeg) x2 h (fun r8 => if r8 = 0 then (wp_X11_holding_b71 x1 x2 x3 x4 v4 h P3 Q) else (wp_X11_holding_b67 x1 x2 x3 x4 v4 h P3 Q)))))
def wp_X11_holding_b3 (x1 : Int32) (x2 : Int32) (x3 : Int32) (x4 : Int32) (h : Hp)  (Q : Int32 → Hp → Prop) : Prop := LFP2 (wp_X11_holding_b3F x1 x2 x3   Q) x4 h
def wp_X11_holding (p0 : Int32) (p1 : Int32) (p2 : Int32) (h : Hp) (Q : Int32 → Hp → Prop) : Prop := wp_X11_holding_b3 p0 p1 p2 0 h Q
def rm_X11_holds : Room := { frames := 4, cells := 0, slots := 0, locals := 95 }
def wp_X11_holds_b22 (x1 : Int32) (x2 : Int32) (s1 : Int32) (h : Hp)  (Q : Int32 → Hp → Prop) : Prop := LET (sI h 11 0 0 s1) fun h1 => if (gI h1 11 0 0) = 0 then (vp_in x2 40 ∧ wp_X11_holding x1 x2 (gI h1 42 0 x2.toNatClampNeg) h1 (fun r4 h5 => if r4 = 0 then (Q 0 h5) else (Q 1 h5))) else (Q 0 h1)
def wp_X11_holds_b21 (x1 : Int32) (x2 : Int32) (h : Hp)  (Q : Int32 → Hp → Prop) : Prop := wp_X11_holds_b22 x1 x2 1 h Q
def wp_X11_holds (p0 : Int32) (p1 : Int32) (h : Hp) (Q : Int32 → Hp → Prop) : Prop := wp_X11_isTest p0 h (fun r1 => if r1 = 0 then (wp_X11_holds_b21 p0 p1 h Q) else (wp_X11_isMail p1 h (fun r3 => if r3 = 0 then (wp_X11_holds_b21 p0 p1 h Q) else (wp_X11_holds_b22 p0 p1 0 h Q))))
def rm_X11_rule : Room := { frames := 3, cells := 0, slots := 0, locals := 67 }
def wp_X11_rule_b22  (h : Hp)  (Q : Int32 → Hp → Prop) : Prop := wp_X11_fails 1 h (fun r1 h2 => Q r1 h2)
def wp_X11_rule (p0 : Int32) (p1 : Int32) (h : Hp) (Q : Int32 → Hp → Prop) : Prop := LET (sI h 11 0 0 0) fun h1 => wp_X11_in p0 0 3 h1 (fun r2 => if r2 = 0 then (wp_X11_rule_b22 h1 Q) else (wp_X11_isTest p1 h1 (fun r4 => if r4 = 0 then (wp_X11_rule_b22 h1 Q) else (vp_in p0 4 ∧ if (gI h1 53 0 p0.toNatClampNeg) = 12 then (wp_X11_fails 2 h1 (fun r8 h9 => Q r8 h9)) else (vp_in ((12 * p0) + (gI h1 53 0 p0.toNatClampNeg)) 48 ∧ LET (sI h1 54 0 ((12 * p0) + (gI h1 53 0 p0.toNatClampNeg)).toNatClampNeg p1) fun h11 => vp_in ((12 * p0) + (gI h11 53 0 p0.toNatClampNeg)) 48 ∧ LET (sI h11 55 0 ((12 * p0) + (gI h11 53 0 p0.toNatClampNeg)).toNatClampNeg 0) fun h13 => LET (sI h13 53 0 p0.toNatClampNeg ((gI h13 53 0 p0.toNatClampNeg) + 1)) fun h14 => Q ((gI h14 53 0 p0.toNatClampNeg) - 1) h14)))))
def rm_X11_isRule : Room := { frames := 2, cells := 0, slots := 0, locals := 46 }
def wp_X11_isRule (p0 : Int32) (p1 : Int32) (h : Hp) (Q : Int32 → Prop) : Prop := wp_X11_in p0 0 3 h (fun r1 => if r1 = 0 then (Q 0) else (vp_in p0 4 ∧ wp_X11_in p1 0 ((gI h 53 0 p0.toNatClampNeg) - 1) h (fun r4 => if r4 = 0 then (Q 0) else (Q 1))))
def rm_X11_isAction : Room := { frames := 2, cells := 0, slots := 0, locals := 46 }
def wp_X11_isAction (p0 : Int32) (p1 : Int32) (h : Hp) (Q : Int32 → Prop) : Prop := if p0 = 70 then (wp_X11_in p1 0 7 h (fun r2 => Q r2)) else if p0 = 85 then (wp_X11_in p1 0 7 h (fun r4 => Q r4)) else if p0 = 99 then (wp_X11_in p1 0 7 h (fun r6 => Q r6)) else if p0 = 105 then (wp_X11_in p1 0 3 h (fun r8 => Q r8)) else if p0 = 109 then (wp_X11_in p1 0 7 h (fun r10 => Q r10)) else if p0 = 118 then (wp_X11_in p1 1 30 h (fun r12 => Q r12)) else if p0 = 119 then (wp_X11_in p1 0 9 h (fun r14 => Q r14)) else (if p0 = 107 then (Q 1) else (if p0 = 120 then (Q 1) else (if p0 = 114 then (Q 1) else (if p0 = 115 then (Q 1) else (if p0 = 83 then (Q 1) else (Q 0))))))
def rm_X11_action : Room := { frames := 3, cells := 0, slots := 0, locals := 68 }
def wp_X11_action (p0 : Int32) (p1 : Int32) (p2 : Int32) (p3 : Int32) (h : Hp) (Q : Int32 → Hp → Prop) : Prop := LET (sI h 11 0 0 0) fun h1 => wp_X11_isRule p0 p1 h1 (fun r2 => if r2 = 0 then (wp_X11_fails 1 h1 (fun r4 h5 => Q r4 h5)) else (wp_X11_isAction p2 p3 h1 (fun r6 => if r6 = 0 then (wp_X11_fails 2 h1 (fun r8 h9 => Q r8 h9)) else (LET ((12 * p0) + p1) fun v10 => vp_in v10 48 ∧ if (gI h1 55 0 v10.toNatClampNeg) = 5 then (wp_X11_fails 3 h1 (fun r13 h14 => Q r13 h14)) else (vp_in ((5 * v10) + (gI h1 55 0 v10.toNatClampNeg)) 240 ∧ LET (sI h1 56 0 ((5 * v10) + (gI h1 55 0 v10.toNatClampNeg)).toNatClampNeg (vp_nar .char p2)) fun h16 => vp_in ((5 * v10) + (gI h16 55 0 v10.toNatClampNeg)) 240 ∧ LET (sI h16 57 0 ((5 * v10) + (gI h16 55 0 v10.toNatClampNeg)).toNatClampNeg p3) fun h18 => LET (sI h18 55 0 v10.toNatClampNeg ((gI h18 55 0 v10.toNatClampNeg) + 1)) fun h19 => Q (gI h19 55 0 v10.toNatClampNeg) h19)))))
def rm_X11_clear : Room := { frames := 2, cells := 0, slots := 0, locals := 46 }
def wp_X11_clear (p0 : Int32) (h : Hp) (Q : Int32 → Hp → Prop) : Prop := LET (sI h 11 0 0 0) fun h1 => wp_X11_in p0 0 3 h1 (fun r2 => if r2 = 0 then (wp_X11_fails 1 h1 (fun r4 h5 => Q r4 h5)) else (vp_in p0 4 ∧ LET (gI h1 53 0 p0.toNatClampNeg) fun v7 => LET (sI h1 53 0 p0.toNatClampNeg 0) fun h8 => Q v7 h8))
def rm_X11_exchanges : Room := { frames := 1, cells := 0, slots := 0, locals := 24 }
def wp_X11_exchanges_b57F (x1 : Int32) (x2 : Int32)   (Q : Hp → Prop) (P57 : Int32 → Hp → Prop) (x5 : Int32) (h : Hp) : Prop := if 5 ≤ x5 then (Q h) else (vp_in ((5 * x1) + x5) 240 ∧ LET (gI h 56 0 ((5 * x1) + x5).toNatClampNeg) fun v3 => vp_in ((5 * x2) + x5) 240 ∧ LET (sI h 56 0 ((5 * x1) + x5).toNatClampNeg (vp_nar .char (gI h 56 0 ((5 * x2) + x5).toNatClampNeg))) fun h5 => LET (sI h5 56 0 ((5 * x2) + x5).toNatClampNeg (vp_nar .char v3)) fun h6 => LET (gI h6 57 0 ((5 * x1) + x5).toNatClampNeg) fun v7 => LET (sI h6 57 0 ((5 * x1) + x5).toNatClampNeg (gI h6 57 0 ((5 * x2) + x5).toNatClampNeg)) fun h8 => LET (sI h8 57 0 ((5 * x2) + x5).toNatClampNeg v7) fun h9 => LET (x5 + 1) fun v10 => P57 v10 h9)
def wp_X11_exchanges_b57 (x1 : Int32) (x2 : Int32) (x5 : Int32) (h : Hp)  (Q : Hp → Prop) : Prop := LFP2 (wp_X11_exchanges_b57F x1 x2   Q) x5 h
def wp_X11_exchanges (p0 : Int32) (p1 : Int32) (h : Hp) (Q : Hp → Prop) : Prop := vp_in p0 48 ∧ LET (gI h 54 0 p0.toNatClampNeg) fun v2 => vp_in p1 48 ∧ LET (sI h 54 0 p0.toNatClampNeg (gI h 54 0 p1.toNatClampNeg)) fun h4 => LET (sI h4 54 0 p1.toNatClampNeg v2) fun h5 => LET (gI h5 55 0 p0.toNatClampNeg) fun v6 => LET (sI h5 55 0 p0.toNatClampNeg (gI h5 55 0 p1.toNatClampNeg)) fun h7 => LET (sI h7 55 0 p1.toNatClampNeg v6) fun h8 => wp_X11_exchanges_b57 p0 p1 0 h8 Q
def rm_X11_reorder : Room := { frames := 3, cells := 0, slots := 0, locals := 68 }
def wp_X11_reorder_b23  (h : Hp)  (Q : Int32 → Hp → Prop) : Prop := wp_X11_fails 1 h (fun r1 h2 => Q r1 h2)
def wp_X11_reorder_b67F (x1 : Int32) (x3 : Int32)   (Q : Int32 → Hp → Prop) (P67 : Int32 → Hp → Prop) (x4 : Int32) (h : Hp) : Prop := if x4 ≤ x3 then (vp_in x1 4 ∧ Q (gI h 53 0 x1.toNatClampNeg) h) else (wp_X11_exchanges ((12 * x1) + x4) (((12 * x1) + x4) - 1) h (fun h3 => LET (x4 + (-1)) fun v4 => P67 v4 h3))
def wp_X11_reorder_b67 (x1 : Int32) (x3 : Int32) (x4 : Int32) (h : Hp)  (Q : Int32 → Hp → Prop) : Prop := LFP2 (wp_X11_reorder_b67F x1 x3   Q) x4 h
def wp_X11_reorder_b32F (x1 : Int32) (x2 : Int32) (x3 : Int32)   (Q : Int32 → Hp → Prop) (P32 : Int32 → Hp → Prop) (x4 : Int32) (h : Hp) : Prop := if x3 ≤ x4 then (wp_X11_reorder_b67 x1 x3 x2 h Q) else (wp_X11_exchanges ((12 * x1) + x4) (((12 * x1) + x4) + 1) h (fun h2 => LET (x4 + 1) fun v3 => P32 v3 h2))
def wp_X11_reorder_b32 (x1 : Int32) (x2 : Int32) (x3 : Int32) (x4 : Int32) (h : Hp)  (Q : Int32 → Hp → Prop) : Prop := LFP2 (wp_X11_reorder_b32F x1 x2 x3   Q) x4 h
def wp_X11_reorder (p0 : Int32) (p1 : Int32) (p2 : Int32) (h : Hp) (Q : Int32 → Hp → Prop) : Prop := LET (sI h 11 0 0 0) fun h1 => wp_X11_isRule p0 p1 h1 (fun r2 => if r2 = 0 then (wp_X11_reorder_b23 h1 Q) else (wp_X11_isRule p0 p2 h1 (fun r4 => if r4 = 0 then (wp_X11_reorder_b23 h1 Q) else (wp_X11_reorder_b32 p0 p1 p2 p1 h1 Q))))
def rm_X11_does : Room := { frames := 1, cells := 0, slots := 0, locals := 24 }
def wp_X11_does (p0 : Int32) (h : Hp) (Q : Int32 → Hp → Prop) : Prop := if (gI h 11 0 41) = 200 then (LET (sI h 11 0 29 (-1)) fun h2 => Q 0 h2) else (vp_in (gI h 11 0 41) 200 ∧ LET (sI h 62 0 (gI h 11 0 41).toNatClampNeg p0) fun h4 => LET (sI h4 11 0 41 ((gI h4 11 0 41) + 1)) fun h5 => Q 1 h5)
def rm_X11_isFull : Room := { frames := 3, cells := 0, slots := 0, locals := 70 }
def wp_X11_isFull_b27 (x1 : Int32) (x2 : Int32) (s0 : Int32) (h : Hp)  (Q : Int32 → Prop) : Prop := if x1 ≤ 0 then (Q 0) else (wp_X11_filled x1 x2 h (fun r2 => vp_in x1 8 ∧ vp_in x2 40 ∧ if (((r2 + (gI h 61 0 x1.toNatClampNeg)) + s0) + (gI h 37 0 x2.toNatClampNeg)) ≤ (gI h 44 0 x1.toNatClampNeg) then (Q 0) else (Q 1)))
def wp_X11_isFull_b26 (x1 : Int32) (x2 : Int32) (h : Hp)  (Q : Int32 → Prop) : Prop := wp_X11_isFull_b27 x1 x2 0 h Q
def wp_X11_isFull (p0 : Int32) (p1 : Int32) (h : Hp) (Q : Int32 → Prop) : Prop := if (gI h 11 0 33) = 109 then (if (gI h 11 0 34) = p0 then (vp_in p1 40 ∧ wp_X11_isFull_b27 p0 p1 (gI h 37 0 p1.toNatClampNeg) h Q) else (wp_X11_isFull_b26 p0 p1 h Q)) else (wp_X11_isFull_b26 p0 p1 h Q)
def rm_X11_chooses : Room := { frames := 4, cells := 0, slots := 0, locals := 93 }
def wp_X11_chooses_b100 (x6 : Int32) (s1 : Int32) (h : Hp)  (Q : Hp → Prop) : Prop := LET (sI h 11 0 34 s1) fun h1 => if x6 = 0 then (LET (sI h1 11 0 45 ((gI h1 11 0 45) + 0)) fun h3 => Q h3) else (LET (sI h1 11 0 45 ((gI h1 11 0 45) + 1)) fun h4 => Q h4)
def wp_X11_chooses_b99 (x6 : Int32) (h : Hp)  (Q : Hp → Prop) : Prop := wp_X11_chooses_b100 x6 0 h Q
def wp_X11_chooses_b76 (x1 : Int32) (x2 : Int32) (s0 : Int32) (h : Hp)  (Q : Hp → Prop) : Prop := isC x1 ∧ LET (sI h 11 0 33 x1) fun h2 => if x1 = 109 then (if s0 = 0 then (wp_X11_chooses_b100 s0 x2 h2 Q) else (wp_X11_chooses_b99 s0 h2 Q)) else (wp_X11_chooses_b99 s0 h2 Q)
def wp_X11_chooses_b75 (x1 : Int32) (x2 : Int32) (h : Hp)  (Q : Hp → Prop) : Prop := wp_X11_chooses_b76 x1 x2 0 h Q
def wp_X11_chooses_b27 (x1 : Int32) (x2 : Int32) (x3 : Int32) (x4 : Int32) (s0 : Int32) (h : Hp)  (Q : Hp → Prop) : Prop := if s0 = 0 then (wp_X11_does x4 h (fun r2 h3 => if r2 = 0 then (Q h3) else (if x1 = 109 then (wp_X11_isFull x2 x3 h3 (fun r6 => if r6 = 0 then (wp_X11_chooses_b75 x1 x2 h3 Q) else (wp_X11_chooses_b76 x1 x2 1 h3 Q))) else (wp_X11_chooses_b75 x1 x2 h3 Q)))) else (LET (sI h 11 0 42 ((gI h 11 0 42) + 1)) fun h8 => Q h8)
def wp_X11_chooses_b22 (x1 : Int32) (x2 : Int32) (x3 : Int32) (x4 : Int32) (h : Hp)  (Q : Hp → Prop) : Prop := wp_X11_chooses_b27 x1 x2 x3 x4 1 h Q
def wp_X11_chooses_b26 (x1 : Int32) (x2 : Int32) (x3 : Int32) (x4 : Int32) (h : Hp)  (Q : Hp → Prop) : Prop := wp_X11_chooses_b27 x1 x2 x3 x4 0 h Q
def wp_X11_chooses (p0 : Int32) (p1 : Int32) (p2 : Int32) (p3 : Int32) (h : Hp) (Q : Hp → Prop) : Prop := if (gI h 11 0 33) = 45 then (if p0 = 114 then (if (gI h 11 0 36) = 0 then (wp_X11_chooses_b26 p0 p1 p2 p3 h Q) else (wp_X11_chooses_b22 p0 p1 p2 p3 h Q)) else (wp_X11_chooses_b26 p0 p1 p2 p3 h Q)) else (wp_X11_chooses_b22 p0 p1 p2 p3 h Q)
def rm_X11_sends : Room := { frames := 4, cells := 0, slots := 0, locals := 93 }
def wp_X11_sends_b235  (h : Hp)  (Q : Hp → Prop) : Prop := LET (sI h 11 0 38 1) fun h1 => Q h1
def wp_X11_sends_b187 (x1 : Int32) (x2 : Int32) (x3 : Int32) (s1 : Int32) (s2 : Int32) (h : Hp)  (Q : Hp → Prop) : Prop := LET (sI h 11 0 37 (s1 ||| s2)) fun h1 => vp_in x3 40 ∧ vp_in (gI h1 33 0 x3.toNatClampNeg) 10 ∧ LET (gI h1 46 0 (gI h1 33 0 x3.toNatClampNeg).toNatClampNeg) fun v4 => if (gI h1 11 0 38) = 0 then (if x1 = 118 then (if v4 = (-1) then (wp_X11_sends_b235 h1 Q) else (if ((gI h1 11 0 1) - v4) < x2 then (LET (sI h1 11 0 38 0) fun h9 => Q h9) else (wp_X11_sends_b235 h1 Q))) else (LET (sI h1 11 0 38 0) fun h10 => Q h10)) else (wp_X11_sends_b235 h1 Q)
def wp_X11_sends_b167 (x1 : Int32) (x2 : Int32) (x3 : Int32) (s1 : Int32) (s2 : Int32) (s3 : Int32) (h : Hp)  (Q : Hp → Prop) : Prop := vp_in s1 8 ∧ LET (sI h 61 0 s1.toNatClampNeg (s2 + s3)) fun h2 => if x1 = 119 then (wp_X11_sends_b187 x1 x2 x3 (gI h2 11 0 37) (1 <<< (x2 &&& 31)) h2 Q) else (wp_X11_sends_b187 x1 x2 x3 (gI h2 11 0 37) 0 h2 Q)
def wp_X11_sends_b149 (x1 : Int32) (x2 : Int32) (x3 : Int32) (s1 : Int32) (h : Hp)  (Q : Hp → Prop) : Prop := vp_in s1 8 ∧ if x1 = 99 then (vp_in x3 40 ∧ wp_X11_sends_b167 x1 x2 x3 s1 (gI h 61 0 s1.toNatClampNeg) (gI h 37 0 x3.toNatClampNeg) h Q) else (wp_X11_sends_b167 x1 x2 x3 s1 (gI h 61 0 s1.toNatClampNeg) 0 h Q)
def wp_X11_sends_b120 (x1 : Int32) (x2 : Int32) (x3 : Int32) (x4 : Int32) (h : Hp)  (Q : Hp → Prop) : Prop := wp_X11_does x4 h (fun r1 h2 => if r1 = 0 then (Q h2) else (LET (sI h2 11 0 36 1) fun h4 => if x1 = 99 then (wp_X11_sends_b149 x1 x2 x3 x2 h4 Q) else (wp_X11_sends_b149 x1 x2 x3 0 h4 Q)))
def wp_X11_sends_b96 (x1 : Int32) (x2 : Int32) (x3 : Int32) (x4 : Int32) (x5 : Int32) (h : Hp)  (Q : Hp → Prop) : Prop := if x1 = 119 then (if x5 = 0 then (wp_X11_sends_b120 x1 x2 x3 x4 h Q) else (LET (sI h 11 0 44 ((gI h 11 0 44) + 1)) fun h3 => Q h3)) else (wp_X11_sends_b120 x1 x2 x3 x4 h Q)
def wp_X11_sends_b44 (x1 : Int32) (x2 : Int32) (x3 : Int32) (x4 : Int32) (s0 : Int32) (h : Hp)  (Q : Hp → Prop) : Prop := if (gI h 11 0 33) = 114 then (LET (sI h 11 0 42 ((gI h 11 0 42) + 1)) fun h2 => Q h2) else (if x1 = 99 then (wp_X11_isFull x2 x3 h (fun r4 => if r4 = 0 then (wp_X11_sends_b96 x1 x2 x3 x4 s0 h Q) else (LET (sI h 11 0 45 ((gI h 11 0 45) + 1)) fun h6 => Q h6))) else (wp_X11_sends_b96 x1 x2 x3 x4 s0 h Q))
def wp_X11_sends_b39 (x1 : Int32) (x2 : Int32) (x3 : Int32) (x4 : Int32) (h : Hp)  (Q : Hp → Prop) : Prop := wp_X11_sends_b44 x1 x2 x3 x4 1 h Q
def wp_X11_sends (p0 : Int32) (p1 : Int32) (p2 : Int32) (p3 : Int32) (h : Hp) (Q : Hp → Prop) : Prop := vp_in p2 40 ∧ if p1 = (gI h 33 0 p2.toNatClampNeg) then (wp_X11_sends_b39 p0 p1 p2 p3 h Q) else (if (((gI h 34 0 p2.toNatClampNeg) >>> ((p1 - p1 / 10 * 10) &&& 31)) &&& 1) = 1 then (wp_X11_sends_b39 p0 p1 p2 p3 h Q) else (if (((gI h 11 0 37) >>> (p1 &&& 31)) &&& 1) = 1 then (wp_X11_sends_b39 p0 p1 p2 p3 h Q) else (wp_X11_sends_b44 p0 p1 p2 p3 0 h Q)))
set_option maxRecDepth 20000 in
theorem m_X11_pass {l : Launch} (hl : l.stackTraces = false) (G : Gq) (p0 : Int32)  (h : Hp) (Q : Int32 → Hp → Prop) (hw : wp_X11_pass p0 h Q) : MI l G yX11_pass cX11_pass 2 (some .int) rm_X11_pass NT NT h (fun r => [r 11 0, .int p0]) Q := by
  refine MI_of (L0 := (fun X => [some (rf X 11 0), some (.int p0)])) hl (by decide +kernel) rfl (fun _ => Nat.le_of_ble_eq_true rfl) (fun _ => rfl) fun X hXl hXG E hE => ?_
  subst hXl; subst hXG
  unfold wp_X11_pass at hw
  refine r_aload_n E 11 0 rfl dX11_pass_0 ?_
  refine r_iconst E 0 rfl dX11_pass_1 ?_
  refine r_putI E fd_X11_138 rfl PI_int (Nat.le_of_ble_eq_true rfl) (adr_lt (Nat.le_of_ble_eq_true rfl)) rfl dX11_pass_2 ?_
  refine GG_toph fun h1 hh1 => ?_
  have hw := hw h1 hh1
  refine r_iload_n E p0 rfl dX11_pass_5 ?_
  refine r_iconst E 1 rfl dX11_pass_6 ?_
  refine r_bipush E 100 rfl dX11_pass_7 ?_
  refine r_callSI E (m_X11_in (EE_st E) (GX X) p0 1 100 h1 _ hw) lk_X11_142 (RM_mk (Nat.le_of_ble_eq_true rfl) (Nat.le_of_ble_eq_true rfl)) rfl rfl rfl rfl (Nat.le_of_ble_eq_true rfl) rfl rfl (Nat.le_of_ble_eq_true rfl) (Nat.le_of_ble_eq_true rfl) dX11_pass_9 (fun r2 u9 hw => ?_)
  obtain ⟨rfl, zr2, hw⟩ := hw
  refine r_if_ne E 21 (by decide) dX11_pass_12 (fun c3 => ?_) (fun c3 => ?_)
  · have hw := ite_t hw c3
    refine r_aload_n E 11 0 rfl dX11_pass_15 ?_
    refine r_iconst E 1 rfl dX11_pass_16 ?_
    refine r_callVI E (m_X11_fails (EE_st E) (GX X) 1 h1 _ hw) lk_X11_147 (RM_mk (Nat.le_of_ble_eq_true rfl) (Nat.le_of_ble_eq_true rfl)) rfl rfl rfl rfl (Nat.le_of_ble_eq_true rfl) (adr_lt (Nat.le_of_ble_eq_true rfl)) (Nat.le_of_ble_eq_true rfl) rfl rfl (Nat.le_of_ble_eq_true rfl) (Nat.le_of_ble_eq_true rfl) dX11_pass_17 (fun r4 h5 hw => ?_)
    exact hE _ _ _ _ _ _ (Nat.le_of_ble_eq_true rfl) (Nat.le_of_ble_eq_true rfl) dX11_pass_20 rfl hw
  · have hw := ite_f hw c3
    refine r_aload_n E 11 0 rfl dX11_pass_21 ?_
    refine r_dup E rfl dX11_pass_22 ?_
    refine r_getI E fd_X11_154 rfl (Nat.le_of_ble_eq_true rfl) (adr_lt (Nat.le_of_ble_eq_true rfl)) dX11_pass_23 ?_
    refine r_iload_n E p0 rfl dX11_pass_26 ?_
    refine r_iadd E dX11_pass_27 ?_
    refine r_putI E fd_X11_154 rfl PI_int (Nat.le_of_ble_eq_true rfl) (adr_lt (Nat.le_of_ble_eq_true rfl)) rfl dX11_pass_28 ?_
    refine GG_toph fun h6 hh6 => ?_
    have hw := hw h6 hh6
    refine r_aload_n E 11 0 rfl dX11_pass_31 ?_
    refine r_getI E fd_X11_154 rfl (Nat.le_of_ble_eq_true rfl) (adr_lt (Nat.le_of_ble_eq_true rfl)) dX11_pass_32 ?_
    exact hE _ _ _ _ _ _ (Nat.le_of_ble_eq_true rfl) (Nat.le_of_ble_eq_true rfl) dX11_pass_35 rfl hw
set_option maxRecDepth 20000 in
theorem m_X11_setQuota {l : Launch} (hl : l.stackTraces = false) (G : Gq) (p0 : Int32) (p1 : Int32)  (h : Hp) (Q : Int32 → Hp → Prop) (hw : wp_X11_setQuota p0 p1 h Q) : MI l G yX11_setQuota cX11_setQuota 4 (some .int) rm_X11_setQuota NT NT h (fun r => [r 11 0, .int p0, .int p1]) Q := by
  refine MI_of (L0 := (fun X => [some (rf X 11 0), some (.int p0), some (.int p1), none])) hl (by decide +kernel) rfl (fun _ => Nat.le_of_ble_eq_true rfl) (fun _ => rfl) fun X hXl hXG E hE => ?_
  subst hXl; subst hXG
  unfold wp_X11_setQuota at hw
  refine r_aload_n E 11 0 rfl dX11_setQuota_0 ?_
  refine r_iconst E 0 rfl dX11_setQuota_1 ?_
  refine r_putI E fd_X11_138 rfl PI_int (Nat.le_of_ble_eq_true rfl) (adr_lt (Nat.le_of_ble_eq_true rfl)) rfl dX11_setQuota_2 ?_
  refine GG_toph fun h1 hh1 => ?_
  have hw := hw h1 hh1
  refine r_iload_n E p0 rfl dX11_setQuota_5 ?_
  refine r_iconst E 1 rfl dX11_setQuota_6 ?_
  refine r_bipush E 7 rfl dX11_setQuota_7 ?_
  refine r_callSI E (m_X11_in (EE_st E) (GX X) p0 1 7 h1 _ hw) lk_X11_142 (RM_mk (Nat.le_of_ble_eq_true rfl) (Nat.le_of_ble_eq_true rfl)) rfl rfl rfl rfl (Nat.le_of_ble_eq_true rfl) rfl rfl (Nat.le_of_ble_eq_true rfl) (Nat.le_of_ble_eq_true rfl) dX11_setQuota_9 (fun r2 u9 hw => ?_)
  obtain ⟨rfl, zr2, hw⟩ := hw
  refine r_if_ne E 21 (by decide) dX11_setQuota_12 (fun c3 => ?_) (fun c3 => ?_)
  · have hw := ite_t hw c3
    refine r_aload_n E 11 0 rfl dX11_setQuota_15 ?_
    refine r_iconst E 1 rfl dX11_setQuota_16 ?_
    refine r_callVI E (m_X11_fails (EE_st E) (GX X) 1 h1 _ hw) lk_X11_147 (RM_mk (Nat.le_of_ble_eq_true rfl) (Nat.le_of_ble_eq_true rfl)) rfl rfl rfl rfl (Nat.le_of_ble_eq_true rfl) (adr_lt (Nat.le_of_ble_eq_true rfl)) (Nat.le_of_ble_eq_true rfl) rfl rfl (Nat.le_of_ble_eq_true rfl) (Nat.le_of_ble_eq_true rfl) dX11_setQuota_17 (fun r4 h5 hw => ?_)
    exact hE _ _ _ _ _ _ (Nat.le_of_ble_eq_true rfl) (Nat.le_of_ble_eq_true rfl) dX11_setQuota_20 rfl hw
  · have hw := ite_f hw c3
    refine r_iload_n E p1 rfl dX11_setQuota_21 ?_
    refine r_iconst E 0 rfl dX11_setQuota_22 ?_
    refine r_sipush E 9999 rfl dX11_setQuota_23 ?_
    refine r_callSI E (m_X11_in (EE_st E) (GX X) p1 0 9999 h1 _ hw) lk_X11_142 (RM_mk (Nat.le_of_ble_eq_true rfl) (Nat.le_of_ble_eq_true rfl)) rfl rfl rfl rfl (Nat.le_of_ble_eq_true rfl) rfl rfl (Nat.le_of_ble_eq_true rfl) (Nat.le_of_ble_eq_true rfl) dX11_setQuota_26 (fun r6 u9 hw => ?_)
    obtain ⟨rfl, zr6, hw⟩ := hw
    refine r_if_ne E 38 (by decide) dX11_setQuota_29 (fun c7 => ?_) (fun c7 => ?_)
    · have hw := ite_t hw c7
      refine r_aload_n E 11 0 rfl dX11_setQuota_32 ?_
      refine r_iconst E 2 rfl dX11_setQuota_33 ?_
      refine r_callVI E (m_X11_fails (EE_st E) (GX X) 2 h1 _ hw) lk_X11_147 (RM_mk (Nat.le_of_ble_eq_true rfl) (Nat.le_of_ble_eq_true rfl)) rfl rfl rfl rfl (Nat.le_of_ble_eq_true rfl) (adr_lt (Nat.le_of_ble_eq_true rfl)) (Nat.le_of_ble_eq_true rfl) rfl rfl (Nat.le_of_ble_eq_true rfl) (Nat.le_of_ble_eq_true rfl) dX11_setQuota_34 (fun r8 h9 hw => ?_)
      exact hE _ _ _ _ _ _ (Nat.le_of_ble_eq_true rfl) (Nat.le_of_ble_eq_true rfl) dX11_setQuota_37 rfl hw
    · have hw := ite_f hw c7
      refine r_aload_n E 11 0 rfl dX11_setQuota_38 ?_
      refine r_getS E fd_X11_44 (t := 0) (j1 := 44) rfl rfl rfl rfl (Nat.le_of_ble_eq_true rfl) (adr_lt (Nat.le_of_ble_eq_true rfl)) dX11_setQuota_39 ?_
      refine r_iload_n E p0 rfl dX11_setQuota_42 ?_
      obtain ⟨i10, hw⟩ := hw
      refine r_iald E rfl rfl rfl (Nat.le_of_ble_eq_true rfl) (adr_lt (Nat.le_of_ble_eq_true rfl)) i10 dX11_setQuota_43 ?_
      refine GG_topI fun v11 hv11 => ?_
      have hw := hw v11 hv11
      refine r_istore_n E [some (rf X 11 0), some (.int p0), some (.int p1), some (.int v11)] rfl (Nat.le_of_ble_eq_true rfl) rfl dX11_setQuota_44 ?_
      refine r_aload_n E 11 0 rfl dX11_setQuota_45 ?_
      refine r_getS E fd_X11_44 (t := 0) (j1 := 44) rfl rfl rfl rfl (Nat.le_of_ble_eq_true rfl) (adr_lt (Nat.le_of_ble_eq_true rfl)) dX11_setQuota_46 ?_
      refine r_iload_n E p0 rfl dX11_setQuota_49 ?_
      refine r_iload_n E p1 rfl dX11_setQuota_50 ?_
      refine r_iast E rfl rfl rfl (Nat.le_of_ble_eq_true rfl) (adr_lt (Nat.le_of_ble_eq_true rfl)) i10 dX11_setQuota_51 ?_
      refine GG_toph fun h12 hh12 => ?_
      have hw := hw h12 hh12
      refine r_iload_n E v11 rfl dX11_setQuota_52 ?_
      exact hE _ _ _ _ _ _ (Nat.le_of_ble_eq_true rfl) (Nat.le_of_ble_eq_true rfl) dX11_setQuota_53 rfl hw
set_option maxRecDepth 20000 in
theorem m_X11_isIn {l : Launch} (hl : l.stackTraces = false) (G : Gq) (p0 : Int32) (p1 : Int32)  (h : Hp) (Q : Int32 → Prop) (hw : wp_X11_isIn p0 p1 h Q) : MI l G yX11_isIn cX11_isIn 3 (some .boolean) rm_X11_isIn NT NT h (fun r => [r 11 0, .int p0, .int p1]) (fun r u => h = u ∧ isB r ∧ Q r) := by
  refine MI_of (L0 := (fun X => [some (rf X 11 0), some (.int p0), some (.int p1)])) hl (by decide +kernel) rfl (fun _ => Nat.le_of_ble_eq_true rfl) (fun _ => rfl) fun X hXl hXG E hE => ?_
  subst hXl; subst hXG
  unfold wp_X11_isIn at hw
  refine r_aload_n E 11 0 rfl dX11_isIn_0 ?_
  refine r_getS E fd_X11_28 (t := 0) (j1 := 39) rfl rfl rfl rfl (Nat.le_of_ble_eq_true rfl) (adr_lt (Nat.le_of_ble_eq_true rfl)) dX11_isIn_1 ?_
  refine r_iload_n E p0 rfl dX11_isIn_4 ?_
  obtain ⟨i1, hw⟩ := hw
  refine r_zald E rfl rfl rfl (Nat.le_of_ble_eq_true rfl) (adr_lt (Nat.le_of_ble_eq_true rfl)) i1 dX11_isIn_5 ?_
  refine r_if_eq E 32 (by decide) dX11_isIn_6 (fun c2 => ?_) (fun c2 => ?_)
  · have hw := ite_t hw c2
    refine r_iconst E 0 rfl dX11_isIn_32 ?_
    exact hE _ _ _ _ _ _ (Nat.le_of_ble_eq_true rfl) (Nat.le_of_ble_eq_true rfl) dX11_isIn_33 (isB_nar isB_0) ⟨rfl, isB_0, hw⟩
  · have hw := ite_f hw c2
    refine r_aload_n E 11 0 rfl dX11_isIn_9 ?_
    refine r_getS E fd_X11_32 (t := 0) (j1 := 40) rfl rfl rfl rfl (Nat.le_of_ble_eq_true rfl) (adr_lt (Nat.le_of_ble_eq_true rfl)) dX11_isIn_10 ?_
    refine r_iload_n E p0 rfl dX11_isIn_13 ?_
    refine r_zald E rfl rfl rfl (Nat.le_of_ble_eq_true rfl) (adr_lt (Nat.le_of_ble_eq_true rfl)) i1 dX11_isIn_14 ?_
    refine r_if_ne E 32 (by decide) dX11_isIn_15 (fun c3 => ?_) (fun c3 => ?_)
    · have hw := ite_t hw c3
      refine r_aload_n E 11 0 rfl dX11_isIn_18 ?_
      refine r_getS E fd_X11_35 (t := 0) (j1 := 41) rfl rfl rfl rfl (Nat.le_of_ble_eq_true rfl) (adr_lt (Nat.le_of_ble_eq_true rfl)) dX11_isIn_19 ?_
      refine r_iload_n E p0 rfl dX11_isIn_22 ?_
      refine r_iald E rfl rfl rfl (Nat.le_of_ble_eq_true rfl) (adr_lt (Nat.le_of_ble_eq_true rfl)) i1 dX11_isIn_23 ?_
      refine r_iload_n E p1 rfl dX11_isIn_24 ?_
      refine r_icmp_ne E 32 (by decide) dX11_isIn_25 (fun c4 => ?_) (fun c4 => ?_)
      · have hw := ite_t hw c4
        refine r_iconst E 1 rfl dX11_isIn_28 ?_
        refine r_goto E 33 (by decide) dX11_isIn_29 ?_
        exact hE _ _ _ _ _ _ (Nat.le_of_ble_eq_true rfl) (Nat.le_of_ble_eq_true rfl) dX11_isIn_33 (isB_nar isB_1) ⟨rfl, isB_1, hw⟩
      · have hw := ite_f hw c4
        refine r_iconst E 0 rfl dX11_isIn_32 ?_
        exact hE _ _ _ _ _ _ (Nat.le_of_ble_eq_true rfl) (Nat.le_of_ble_eq_true rfl) dX11_isIn_33 (isB_nar isB_0) ⟨rfl, isB_0, hw⟩
    · have hw := ite_f hw c3
      refine r_iconst E 0 rfl dX11_isIn_32 ?_
      exact hE _ _ _ _ _ _ (Nat.le_of_ble_eq_true rfl) (Nat.le_of_ble_eq_true rfl) dX11_isIn_33 (isB_nar isB_0) ⟨rfl, isB_0, hw⟩
set_option maxRecDepth 20000 in
theorem t_X11_filled_b47 {X : Ctx} (h : Hp) (x1 : Int32) (x2 : Int32) (x4 : Int32) (s0 : Int32) (s1 : Int32)  (E : EE X cX11_filled RX11 5 2 46 0 0) {Q : Int32 → Prop} (hE : ENDi X cX11_filled .int (fun r u => h = u ∧ Q r) NT 0 0) (P10 : Int32 → Int32 → Prop) (hP10 : ∀ (y3 : Int32) (y4 : Int32), P10 y3 y4 → GG X 0 0 NT h [some (rf X 11 0), some (.int x1), some (.int x2), some (.int y3), some (.int y4)] 10 []) (hw : wp_X11_filled_b47 x1 x2 x4 s0 s1 h P10 Q) : GG X 0 0 NT h [some (rf X 11 0), some (.int x1), some (.int x2), none, some (.int x4)] 47 [.int s1, .int s0] := by
  unfold wp_X11_filled_b47 at hw
  refine r_iadd E dX11_filled_47 ?_
  refine GG_topI fun v1 hv1 => ?_
  have hw := hw v1 hv1
  refine r_istore_n E [some (rf X 11 0), some (.int x1), some (.int x2), some (.int v1), some (.int x4)] rfl (Nat.le_of_ble_eq_true rfl) rfl dX11_filled_48 ?_
  obtain ⟨v2, hv2⟩ : ∃ y : Int32, y = x4 + 1 := ⟨_, rfl⟩
  have hw := hw v2 hv2
  refine r_iinc E x4 v2 [some (rf X 11 0), some (.int x1), some (.int x2), some (.int v1), some (.int v2)] rfl (by rw [hv2]; rfl) (Nat.le_of_ble_eq_true rfl) rfl dX11_filled_49 ?_
  refine r_goto E 10 (by decide) dX11_filled_52 ?_
  exact GG_weak [true, true, true, true, true] rfl (hP10 _ _ hw)
set_option maxRecDepth 20000 in
theorem t_X11_filled_b46 {X : Ctx} (h : Hp) (x1 : Int32) (x2 : Int32) (x4 : Int32) (s0 : Int32)  (E : EE X cX11_filled RX11 5 2 46 0 0) {Q : Int32 → Prop} (hE : ENDi X cX11_filled .int (fun r u => h = u ∧ Q r) NT 0 0) (P10 : Int32 → Int32 → Prop) (hP10 : ∀ (y3 : Int32) (y4 : Int32), P10 y3 y4 → GG X 0 0 NT h [some (rf X 11 0), some (.int x1), some (.int x2), some (.int y3), some (.int y4)] 10 []) (hw : wp_X11_filled_b46 x1 x2 x4 s0 h P10 Q) : GG X 0 0 NT h [some (rf X 11 0), some (.int x1), some (.int x2), none, some (.int x4)] 46 [.int s0] := by
  unfold wp_X11_filled_b46 at hw
  refine r_iconst E 0 rfl dX11_filled_46 ?_
  exact GG_weak [true, true, true, false, true] rfl (t_X11_filled_b47 h x1 x2 x4 s0 0 E hE P10 hP10  hw)
set_option maxRecDepth 20000 in
theorem t_X11_filled_b10F {X : Ctx} (h : Hp) (x1 : Int32) (x2 : Int32) (x3 : Int32) (x4 : Int32)  (E : EE X cX11_filled RX11 5 2 46 0 0) {Q : Int32 → Prop} (hE : ENDi X cX11_filled .int (fun r u => h = u ∧ Q r) NT 0 0)  (P10 : Int32 → Int32 → Prop) (hP10 : ∀ (y3 : Int32) (y4 : Int32), P10 y3 y4 → GG X 0 0 NT h [some (rf X 11 0), some (.int x1), some (.int x2), some (.int y3), some (.int y4)] 10 []) (hw : wp_X11_filled_b10F x1 x2 h  Q P10 x3 x4 ) : GG X 0 0 NT h [some (rf X 11 0), some (.int x1), some (.int x2), some (.int x3), some (.int x4)] 10 [] := by
  unfold wp_X11_filled_b10F at hw
  refine r_iload E x4 rfl dX11_filled_10 ?_
  refine r_aload_n E 11 0 rfl dX11_filled_12 ?_
  refine r_getI E fd_X11_151 rfl (Nat.le_of_ble_eq_true rfl) (adr_lt (Nat.le_of_ble_eq_true rfl)) dX11_filled_13 ?_
  refine r_icmp_ge E 55 (by decide) dX11_filled_16 (fun c1 => ?_) (fun c1 => ?_)
  · have hw := ite_t hw c1
    refine r_iload_n E x3 rfl dX11_filled_55 ?_
    exact hE _ _ _ _ _ _ (Nat.le_of_ble_eq_true rfl) (Nat.le_of_ble_eq_true rfl) dX11_filled_56 rfl ⟨rfl, hw⟩
  · have hw := ite_f hw c1
    refine r_iload_n E x3 rfl dX11_filled_19 ?_
    refine r_iload E x4 rfl dX11_filled_20 ?_
    refine r_iload_n E x2 rfl dX11_filled_22 ?_
    refine r_icmp_eq E 46 (by decide) dX11_filled_23 (fun c2 => ?_) (fun c2 => ?_)
    · have hw := ite_t hw c2
      exact GG_weak [true, true, true, false, true] rfl (t_X11_filled_b46 h x1 x2 x4 x3 E hE P10 hP10  hw)
    · have hw := ite_f hw c2
      refine r_aload_n E 11 0 rfl dX11_filled_26 ?_
      refine r_iload E x4 rfl dX11_filled_27 ?_
      refine r_iload_n E x1 rfl dX11_filled_29 ?_
      refine r_callVI E (m_X11_isIn (EE_st E) (GX X) x4 x1 h _ hw) lk_X11_157 (RM_mk (Nat.le_of_ble_eq_true rfl) (Nat.le_of_ble_eq_true rfl)) rfl rfl rfl rfl (Nat.le_of_ble_eq_true rfl) (adr_lt (Nat.le_of_ble_eq_true rfl)) (Nat.le_of_ble_eq_true rfl) rfl rfl (Nat.le_of_ble_eq_true rfl) (Nat.le_of_ble_eq_true rfl) dX11_filled_30 (fun r3 u9 hw => ?_)
      obtain ⟨rfl, zr3, hw⟩ := hw
      refine r_if_eq E 46 (by decide) dX11_filled_33 (fun c4 => ?_) (fun c4 => ?_)
      · have hw := ite_t hw c4
        exact GG_weak [true, true, true, false, true] rfl (t_X11_filled_b46 h x1 x2 x4 x3 E hE P10 hP10  hw)
      · have hw := ite_f hw c4
        refine r_aload_n E 11 0 rfl dX11_filled_36 ?_
        refine r_getS E fd_X11_22 (t := 0) (j1 := 37) rfl rfl rfl rfl (Nat.le_of_ble_eq_true rfl) (adr_lt (Nat.le_of_ble_eq_true rfl)) dX11_filled_37 ?_
        refine r_iload E x4 rfl dX11_filled_40 ?_
        obtain ⟨i5, hw⟩ := hw
        refine r_iald E rfl rfl rfl (Nat.le_of_ble_eq_true rfl) (adr_lt (Nat.le_of_ble_eq_true rfl)) i5 dX11_filled_42 ?_
        refine r_goto E 47 (by decide) dX11_filled_43 ?_
        exact GG_weak [true, true, true, false, true] rfl (t_X11_filled_b47 h x1 x2 x4 x3 (gI h 37 0 x4.toNatClampNeg) E hE P10 hP10  hw)
set_option maxRecDepth 20000 in
theorem t_X11_filled_b10 {X : Ctx} (h : Hp) (x1 : Int32) (x2 : Int32) (x3 : Int32) (x4 : Int32)  (E : EE X cX11_filled RX11 5 2 46 0 0) {Q : Int32 → Prop} (hE : ENDi X cX11_filled .int (fun r u => h = u ∧ Q r) NT 0 0)  (hw : wp_X11_filled_b10 x1 x2 x3 x4 h  Q) : GG X 0 0 NT h [some (rf X 11 0), some (.int x1), some (.int x2), some (.int x3), some (.int x4)] 10 [] :=
  hw (fun y3 y4  => GG X 0 0 NT h [some (rf X 11 0), some (.int x1), some (.int x2), some (.int y3), some (.int y4)] 10 []) (fun y3 y4  hq => t_X11_filled_b10F h x1 x2 y3 y4  E hE  (fun y3 y4  => GG X 0 0 NT h [some (rf X 11 0), some (.int x1), some (.int x2), some (.int y3), some (.int y4)] 10 []) (fun y3 y4  q => q) hq)
set_option maxRecDepth 20000 in
theorem m_X11_filled {l : Launch} (hl : l.stackTraces = false) (G : Gq) (p0 : Int32) (p1 : Int32)  (h : Hp) (Q : Int32 → Prop) (hw : wp_X11_filled p0 p1 h Q) : MI l G yX11_filled cX11_filled 5 (some .int) rm_X11_filled NT NT h (fun r => [r 11 0, .int p0, .int p1]) (fun r u => h = u ∧ Q r) := by
  refine MI_of (L0 := (fun X => [some (rf X 11 0), some (.int p0), some (.int p1), none, none])) hl (by decide +kernel) rfl (fun _ => Nat.le_of_ble_eq_true rfl) (fun _ => rfl) fun X hXl hXG E hE => ?_
  subst hXl; subst hXG
  unfold wp_X11_filled at hw
  refine r_aload_n E 11 0 rfl dX11_filled_0 ?_
  refine r_getS E fd_X11_47 (t := 0) (j1 := 45) rfl rfl rfl rfl (Nat.le_of_ble_eq_true rfl) (adr_lt (Nat.le_of_ble_eq_true rfl)) dX11_filled_1 ?_
  refine r_iload_n E p0 rfl dX11_filled_4 ?_
  obtain ⟨i1, hw⟩ := hw
  refine r_iald E rfl rfl rfl (Nat.le_of_ble_eq_true rfl) (adr_lt (Nat.le_of_ble_eq_true rfl)) i1 dX11_filled_5 ?_
  refine GG_topI fun v2 hv2 => ?_
  have hw := hw v2 hv2
  refine r_istore_n E [some (rf X 11 0), some (.int p0), some (.int p1), some (.int v2), none] rfl (Nat.le_of_ble_eq_true rfl) rfl dX11_filled_6 ?_
  refine r_iconst E 0 rfl dX11_filled_7 ?_
  refine r_istore E [some (rf X 11 0), some (.int p0), some (.int p1), some (.int v2), some (.int 0)] (Nat.le_of_ble_eq_true rfl) rfl dX11_filled_8 ?_
  exact GG_weak [true, true, true, true, true] rfl (t_X11_filled_b10 h p0 p1 v2 0 E hE  hw)
set_option maxRecDepth 20000 in
theorem m_X11_inBox {l : Launch} (hl : l.stackTraces = false) (G : Gq) (p0 : Int32)  (h : Hp) (Q : Int32 → Hp → Prop) (hw : wp_X11_inBox p0 h Q) : MI l G yX11_inBox cX11_inBox 2 (some .int) rm_X11_inBox NT NT h (fun r => [r 11 0, .int p0]) Q := by
  refine MI_of (L0 := (fun X => [some (rf X 11 0), some (.int p0)])) hl (by decide +kernel) rfl (fun _ => Nat.le_of_ble_eq_true rfl) (fun _ => rfl) fun X hXl hXG E hE => ?_
  subst hXl; subst hXG
  unfold wp_X11_inBox at hw
  refine r_aload_n E 11 0 rfl dX11_inBox_0 ?_
  refine r_iconst E 0 rfl dX11_inBox_1 ?_
  refine r_putI E fd_X11_138 rfl PI_int (Nat.le_of_ble_eq_true rfl) (adr_lt (Nat.le_of_ble_eq_true rfl)) rfl dX11_inBox_2 ?_
  refine GG_toph fun h1 hh1 => ?_
  have hw := hw h1 hh1
  refine r_iload_n E p0 rfl dX11_inBox_5 ?_
  refine r_iconst E 0 rfl dX11_inBox_6 ?_
  refine r_bipush E 7 rfl dX11_inBox_7 ?_
  refine r_callSI E (m_X11_in (EE_st E) (GX X) p0 0 7 h1 _ hw) lk_X11_142 (RM_mk (Nat.le_of_ble_eq_true rfl) (Nat.le_of_ble_eq_true rfl)) rfl rfl rfl rfl (Nat.le_of_ble_eq_true rfl) rfl rfl (Nat.le_of_ble_eq_true rfl) (Nat.le_of_ble_eq_true rfl) dX11_inBox_9 (fun r2 u9 hw => ?_)
  obtain ⟨rfl, zr2, hw⟩ := hw
  refine r_if_eq E 24 (by decide) dX11_inBox_12 (fun c3 => ?_) (fun c3 => ?_)
  · have hw := ite_t hw c3
    refine r_aload_n E 11 0 rfl dX11_inBox_24 ?_
    refine r_iconst E 1 rfl dX11_inBox_25 ?_
    refine r_callVI E (m_X11_fails (EE_st E) (GX X) 1 h1 _ hw) lk_X11_147 (RM_mk (Nat.le_of_ble_eq_true rfl) (Nat.le_of_ble_eq_true rfl)) rfl rfl rfl rfl (Nat.le_of_ble_eq_true rfl) (adr_lt (Nat.le_of_ble_eq_true rfl)) (Nat.le_of_ble_eq_true rfl) rfl rfl (Nat.le_of_ble_eq_true rfl) (Nat.le_of_ble_eq_true rfl) dX11_inBox_26 (fun r4 h5 hw => ?_)
    exact hE _ _ _ _ _ _ (Nat.le_of_ble_eq_true rfl) (Nat.le_of_ble_eq_true rfl) dX11_inBox_29 rfl hw
  · have hw := ite_f hw c3
    refine r_aload_n E 11 0 rfl dX11_inBox_15 ?_
    refine r_iload_n E p0 rfl dX11_inBox_16 ?_
    refine r_iconst E (-1) rfl dX11_inBox_17 ?_
    refine r_callVI E (m_X11_filled (EE_st E) (GX X) p0 (-1) h1 _ hw) lk_X11_161 (RM_mk (Nat.le_of_ble_eq_true rfl) (Nat.le_of_ble_eq_true rfl)) rfl rfl rfl rfl (Nat.le_of_ble_eq_true rfl) (adr_lt (Nat.le_of_ble_eq_true rfl)) (Nat.le_of_ble_eq_true rfl) rfl rfl (Nat.le_of_ble_eq_true rfl) (Nat.le_of_ble_eq_true rfl) dX11_inBox_18 (fun r6 u9 hw => ?_)
    obtain ⟨rfl, hw⟩ := hw
    refine r_goto E 29 (by decide) dX11_inBox_21 ?_
    exact hE _ _ _ _ _ _ (Nat.le_of_ble_eq_true rfl) (Nat.le_of_ble_eq_true rfl) dX11_inBox_29 rfl hw
set_option maxRecDepth 20000 in
theorem m_X11_isMail {l : Launch} (hl : l.stackTraces = false) (G : Gq) (p0 : Int32)  (h : Hp) (Q : Int32 → Prop) (hw : wp_X11_isMail p0 h Q) : MI l G yX11_isMail cX11_isMail 2 (some .boolean) rm_X11_isMail NT NT h (fun r => [r 11 0, .int p0]) (fun r u => h = u ∧ isB r ∧ Q r) := by
  refine MI_of (L0 := (fun X => [some (rf X 11 0), some (.int p0)])) hl (by decide +kernel) rfl (fun _ => Nat.le_of_ble_eq_true rfl) (fun _ => rfl) fun X hXl hXG E hE => ?_
  subst hXl; subst hXG
  unfold wp_X11_isMail at hw
  refine r_iload_n E p0 rfl dX11_isMail_0 ?_
  refine r_iconst E 0 rfl dX11_isMail_1 ?_
  refine r_aload_n E 11 0 rfl dX11_isMail_2 ?_
  refine r_getI E fd_X11_151 rfl (Nat.le_of_ble_eq_true rfl) (adr_lt (Nat.le_of_ble_eq_true rfl)) dX11_isMail_3 ?_
  refine r_iconst E 1 rfl dX11_isMail_6 ?_
  refine r_isub E dX11_isMail_7 ?_
  refine r_callSI E (m_X11_in (EE_st E) (GX X) p0 0 ((gI h 11 0 2) - 1) h _ hw) lk_X11_142 (RM_mk (Nat.le_of_ble_eq_true rfl) (Nat.le_of_ble_eq_true rfl)) rfl rfl rfl rfl (Nat.le_of_ble_eq_true rfl) rfl rfl (Nat.le_of_ble_eq_true rfl) (Nat.le_of_ble_eq_true rfl) dX11_isMail_8 (fun r1 u9 hw => ?_)
  obtain ⟨rfl, zr1, hw⟩ := hw
  exact hE _ _ _ _ _ _ (Nat.le_of_ble_eq_true rfl) (Nat.le_of_ble_eq_true rfl) dX11_isMail_11 (isB_nar zr1) ⟨rfl, zr1, hw⟩
set_option maxRecDepth 20000 in
theorem t_X11_boxOf_b46 {X : Ctx} (h : Hp)   (E : EE X cX11_boxOf RX11 2 3 67 0 0) {Q : Int32 → Hp → Prop} (hE : ENDi X cX11_boxOf .int Q NT 0 0)  (hw : wp_X11_boxOf_b46  h  Q) : GG X 0 0 NT h [some (rf X 11 0), none] 46 [] := by
  unfold wp_X11_boxOf_b46 at hw
  refine r_aload_n E 11 0 rfl dX11_boxOf_46 ?_
  refine r_iconst E 2 rfl dX11_boxOf_47 ?_
  refine r_callVI E (m_X11_fails (EE_st E) (GX X) 2 h _ hw) lk_X11_147 (RM_mk (Nat.le_of_ble_eq_true rfl) (Nat.le_of_ble_eq_true rfl)) rfl rfl rfl rfl (Nat.le_of_ble_eq_true rfl) (adr_lt (Nat.le_of_ble_eq_true rfl)) (Nat.le_of_ble_eq_true rfl) rfl rfl (Nat.le_of_ble_eq_true rfl) (Nat.le_of_ble_eq_true rfl) dX11_boxOf_48 (fun r1 h2 hw => ?_)
  exact hE _ _ _ _ _ _ (Nat.le_of_ble_eq_true rfl) (Nat.le_of_ble_eq_true rfl) dX11_boxOf_51 rfl hw
set_option maxRecDepth 20000 in
theorem m_X11_boxOf {l : Launch} (hl : l.stackTraces = false) (G : Gq) (p0 : Int32)  (h : Hp) (Q : Int32 → Hp → Prop) (hw : wp_X11_boxOf p0 h Q) : MI l G yX11_boxOf cX11_boxOf 2 (some .int) rm_X11_boxOf NT NT h (fun r => [r 11 0, .int p0]) Q := by
  refine MI_of (L0 := (fun X => [some (rf X 11 0), some (.int p0)])) hl (by decide +kernel) rfl (fun _ => Nat.le_of_ble_eq_true rfl) (fun _ => rfl) fun X hXl hXG E hE => ?_
  subst hXl; subst hXG
  unfold wp_X11_boxOf at hw
  refine r_aload_n E 11 0 rfl dX11_boxOf_0 ?_
  refine r_iconst E 0 rfl dX11_boxOf_1 ?_
  refine r_putI E fd_X11_138 rfl PI_int (Nat.le_of_ble_eq_true rfl) (adr_lt (Nat.le_of_ble_eq_true rfl)) rfl dX11_boxOf_2 ?_
  refine GG_toph fun h1 hh1 => ?_
  have hw := hw h1 hh1
  refine r_aload_n E 11 0 rfl dX11_boxOf_5 ?_
  refine r_iload_n E p0 rfl dX11_boxOf_6 ?_
  refine r_callVI E (m_X11_isMail (EE_st E) (GX X) p0 h1 _ hw) lk_X11_165 (RM_mk (Nat.le_of_ble_eq_true rfl) (Nat.le_of_ble_eq_true rfl)) rfl rfl rfl rfl (Nat.le_of_ble_eq_true rfl) (adr_lt (Nat.le_of_ble_eq_true rfl)) (Nat.le_of_ble_eq_true rfl) rfl rfl (Nat.le_of_ble_eq_true rfl) (Nat.le_of_ble_eq_true rfl) dX11_boxOf_7 (fun r2 u9 hw => ?_)
  obtain ⟨rfl, zr2, hw⟩ := hw
  refine r_if_ne E 19 (by decide) dX11_boxOf_10 (fun c3 => ?_) (fun c3 => ?_)
  · have hw := ite_t hw c3
    refine r_aload_n E 11 0 rfl dX11_boxOf_13 ?_
    refine r_iconst E 1 rfl dX11_boxOf_14 ?_
    refine r_callVI E (m_X11_fails (EE_st E) (GX X) 1 h1 _ hw) lk_X11_147 (RM_mk (Nat.le_of_ble_eq_true rfl) (Nat.le_of_ble_eq_true rfl)) rfl rfl rfl rfl (Nat.le_of_ble_eq_true rfl) (adr_lt (Nat.le_of_ble_eq_true rfl)) (Nat.le_of_ble_eq_true rfl) rfl rfl (Nat.le_of_ble_eq_true rfl) (Nat.le_of_ble_eq_true rfl) dX11_boxOf_15 (fun r4 h5 hw => ?_)
    exact hE _ _ _ _ _ _ (Nat.le_of_ble_eq_true rfl) (Nat.le_of_ble_eq_true rfl) dX11_boxOf_18 rfl hw
  · have hw := ite_f hw c3
    refine r_aload_n E 11 0 rfl dX11_boxOf_19 ?_
    refine r_getS E fd_X11_28 (t := 0) (j1 := 39) rfl rfl rfl rfl (Nat.le_of_ble_eq_true rfl) (adr_lt (Nat.le_of_ble_eq_true rfl)) dX11_boxOf_20 ?_
    refine r_iload_n E p0 rfl dX11_boxOf_23 ?_
    obtain ⟨i6, hw⟩ := hw
    refine r_zald E rfl rfl rfl (Nat.le_of_ble_eq_true rfl) (adr_lt (Nat.le_of_ble_eq_true rfl)) i6 dX11_boxOf_24 ?_
    refine r_if_eq E 46 (by decide) dX11_boxOf_25 (fun c7 => ?_) (fun c7 => ?_)
    · have hw := ite_t hw c7
      exact GG_weak [true, false] rfl (t_X11_boxOf_b46 h1  E hE  hw)
    · have hw := ite_f hw c7
      refine r_aload_n E 11 0 rfl dX11_boxOf_28 ?_
      refine r_getS E fd_X11_32 (t := 0) (j1 := 40) rfl rfl rfl rfl (Nat.le_of_ble_eq_true rfl) (adr_lt (Nat.le_of_ble_eq_true rfl)) dX11_boxOf_29 ?_
      refine r_iload_n E p0 rfl dX11_boxOf_32 ?_
      refine r_zald E rfl rfl rfl (Nat.le_of_ble_eq_true rfl) (adr_lt (Nat.le_of_ble_eq_true rfl)) i6 dX11_boxOf_33 ?_
      refine r_if_ne E 46 (by decide) dX11_boxOf_34 (fun c8 => ?_) (fun c8 => ?_)
      · have hw := ite_t hw c8
        refine r_aload_n E 11 0 rfl dX11_boxOf_37 ?_
        refine r_getS E fd_X11_35 (t := 0) (j1 := 41) rfl rfl rfl rfl (Nat.le_of_ble_eq_true rfl) (adr_lt (Nat.le_of_ble_eq_true rfl)) dX11_boxOf_38 ?_
        refine r_iload_n E p0 rfl dX11_boxOf_41 ?_
        refine r_iald E rfl rfl rfl (Nat.le_of_ble_eq_true rfl) (adr_lt (Nat.le_of_ble_eq_true rfl)) i6 dX11_boxOf_42 ?_
        refine r_goto E 51 (by decide) dX11_boxOf_43 ?_
        exact hE _ _ _ _ _ _ (Nat.le_of_ble_eq_true rfl) (Nat.le_of_ble_eq_true rfl) dX11_boxOf_51 rfl hw
      · have hw := ite_f hw c8
        exact GG_weak [true, false] rfl (t_X11_boxOf_b46 h1  E hE  hw)
set_option maxRecDepth 20000 in
theorem t_X11_hasFlag_b24 {X : Ctx} (h : Hp) (x1 : Int32) (x2 : Int32) (s1 : Int32)  (E : EE X cX11_hasFlag RX11 3 3 67 0 0) {Q : Int32 → Hp → Prop} (hE : ENDi X cX11_hasFlag .boolean (fun r u => isB r ∧ Q r u) NT 0 0)  (hw : wp_X11_hasFlag_b24 x1 x2 s1 h  Q) : GG X 0 0 NT h [some (rf X 11 0), some (.int x1), some (.int x2)] 24 [.int s1, rf X 11 0] := by
  unfold wp_X11_hasFlag_b24 at hw
  refine r_putI E fd_X11_138 rfl PI_int (Nat.le_of_ble_eq_true rfl) (adr_lt (Nat.le_of_ble_eq_true rfl)) rfl dX11_hasFlag_24 ?_
  refine GG_toph fun h1 hh1 => ?_
  have hw := hw h1 hh1
  refine r_aload_n E 11 0 rfl dX11_hasFlag_27 ?_
  refine r_getI E fd_X11_138 rfl (Nat.le_of_ble_eq_true rfl) (adr_lt (Nat.le_of_ble_eq_true rfl)) dX11_hasFlag_28 ?_
  refine r_if_ne E 52 (by decide) dX11_hasFlag_31 (fun c2 => ?_) (fun c2 => ?_)
  · have hw := ite_t hw c2
    refine r_aload_n E 11 0 rfl dX11_hasFlag_34 ?_
    refine r_getS E fd_X11_38 (t := 0) (j1 := 42) rfl rfl rfl rfl (Nat.le_of_ble_eq_true rfl) (adr_lt (Nat.le_of_ble_eq_true rfl)) dX11_hasFlag_35 ?_
    refine r_iload_n E x1 rfl dX11_hasFlag_38 ?_
    obtain ⟨i3, hw⟩ := hw
    refine r_iald E rfl rfl rfl (Nat.le_of_ble_eq_true rfl) (adr_lt (Nat.le_of_ble_eq_true rfl)) i3 dX11_hasFlag_39 ?_
    refine r_iload_n E x2 rfl dX11_hasFlag_40 ?_
    refine r_ishr E dX11_hasFlag_41 ?_
    refine r_iconst E 1 rfl dX11_hasFlag_42 ?_
    refine r_iand E dX11_hasFlag_43 ?_
    refine r_iconst E 1 rfl dX11_hasFlag_44 ?_
    refine r_icmp_ne E 52 (by decide) dX11_hasFlag_45 (fun c4 => ?_) (fun c4 => ?_)
    · have hw := ite_t hw c4
      refine r_iconst E 1 rfl dX11_hasFlag_48 ?_
      refine r_goto E 53 (by decide) dX11_hasFlag_49 ?_
      exact hE _ _ _ _ _ _ (Nat.le_of_ble_eq_true rfl) (Nat.le_of_ble_eq_true rfl) dX11_hasFlag_53 (isB_nar isB_1) ⟨isB_1, hw⟩
    · have hw := ite_f hw c4
      refine r_iconst E 0 rfl dX11_hasFlag_52 ?_
      exact hE _ _ _ _ _ _ (Nat.le_of_ble_eq_true rfl) (Nat.le_of_ble_eq_true rfl) dX11_hasFlag_53 (isB_nar isB_0) ⟨isB_0, hw⟩
  · have hw := ite_f hw c2
    refine r_iconst E 0 rfl dX11_hasFlag_52 ?_
    exact hE _ _ _ _ _ _ (Nat.le_of_ble_eq_true rfl) (Nat.le_of_ble_eq_true rfl) dX11_hasFlag_53 (isB_nar isB_0) ⟨isB_0, hw⟩
set_option maxRecDepth 20000 in
theorem t_X11_hasFlag_b23 {X : Ctx} (h : Hp) (x1 : Int32) (x2 : Int32)  (E : EE X cX11_hasFlag RX11 3 3 67 0 0) {Q : Int32 → Hp → Prop} (hE : ENDi X cX11_hasFlag .boolean (fun r u => isB r ∧ Q r u) NT 0 0)  (hw : wp_X11_hasFlag_b23 x1 x2 h  Q) : GG X 0 0 NT h [some (rf X 11 0), some (.int x1), some (.int x2)] 23 [rf X 11 0] := by
  unfold wp_X11_hasFlag_b23 at hw
  refine r_iconst E 1 rfl dX11_hasFlag_23 ?_
  exact GG_weak [true, true, true] rfl (t_X11_hasFlag_b24 h x1 x2 1 E hE  hw)
set_option maxRecDepth 20000 in
theorem m_X11_hasFlag {l : Launch} (hl : l.stackTraces = false) (G : Gq) (p0 : Int32) (p1 : Int32)  (h : Hp) (Q : Int32 → Hp → Prop) (hw : wp_X11_hasFlag p0 p1 h Q) : MI l G yX11_hasFlag cX11_hasFlag 3 (some .boolean) rm_X11_hasFlag NT NT h (fun r => [r 11 0, .int p0, .int p1]) (fun r u => isB r ∧ Q r u) := by
  refine MI_of (L0 := (fun X => [some (rf X 11 0), some (.int p0), some (.int p1)])) hl (by decide +kernel) rfl (fun _ => Nat.le_of_ble_eq_true rfl) (fun _ => rfl) fun X hXl hXG E hE => ?_
  subst hXl; subst hXG
  unfold wp_X11_hasFlag at hw
  refine r_aload_n E 11 0 rfl dX11_hasFlag_0 ?_
  refine r_aload_n E 11 0 rfl dX11_hasFlag_1 ?_
  refine r_iload_n E p0 rfl dX11_hasFlag_2 ?_
  refine r_callVI E (m_X11_isMail (EE_st E) (GX X) p0 h _ hw) lk_X11_165 (RM_mk (Nat.le_of_ble_eq_true rfl) (Nat.le_of_ble_eq_true rfl)) rfl rfl rfl rfl (Nat.le_of_ble_eq_true rfl) (adr_lt (Nat.le_of_ble_eq_true rfl)) (Nat.le_of_ble_eq_true rfl) rfl rfl (Nat.le_of_ble_eq_true rfl) (Nat.le_of_ble_eq_true rfl) dX11_hasFlag_3 (fun r1 u9 hw => ?_)
  obtain ⟨rfl, zr1, hw⟩ := hw
  refine r_if_eq E 23 (by decide) dX11_hasFlag_6 (fun c2 => ?_) (fun c2 => ?_)
  · have hw := ite_t hw c2
    exact GG_weak [true, true, true] rfl (t_X11_hasFlag_b23 h p0 p1 E hE  hw)
  · have hw := ite_f hw c2
    refine r_iload_n E p1 rfl dX11_hasFlag_9 ?_
    refine r_iconst E 0 rfl dX11_hasFlag_10 ?_
    refine r_bipush E 7 rfl dX11_hasFlag_11 ?_
    refine r_callSI E (m_X11_in (EE_st E) (GX X) p1 0 7 h _ hw) lk_X11_142 (RM_mk (Nat.le_of_ble_eq_true rfl) (Nat.le_of_ble_eq_true rfl)) rfl rfl rfl rfl (Nat.le_of_ble_eq_true rfl) rfl rfl (Nat.le_of_ble_eq_true rfl) (Nat.le_of_ble_eq_true rfl) dX11_hasFlag_13 (fun r3 u9 hw => ?_)
    obtain ⟨rfl, zr3, hw⟩ := hw
    refine r_if_eq E 23 (by decide) dX11_hasFlag_16 (fun c4 => ?_) (fun c4 => ?_)
    · have hw := ite_t hw c4
      exact GG_weak [true, true, true] rfl (t_X11_hasFlag_b23 h p0 p1 E hE  hw)
    · have hw := ite_f hw c4
      refine r_iconst E 0 rfl dX11_hasFlag_19 ?_
      refine r_goto E 24 (by decide) dX11_hasFlag_20 ?_
      exact GG_weak [true, true, true] rfl (t_X11_hasFlag_b24 h p0 p1 0 E hE  hw)
set_option maxRecDepth 20000 in
theorem t_X11_move_b23 {X : Ctx} (h : Hp)   (E : EE X cX11_move RX11 4 3 67 0 0) {Q : Int32 → Hp → Prop} (hE : ENDi X cX11_move .int Q NT 0 0)  (hw : wp_X11_move_b23  h  Q) : GG X 0 0 NT h [some (rf X 11 0), none, none, none] 23 [] := by
  unfold wp_X11_move_b23 at hw
  refine r_aload_n E 11 0 rfl dX11_move_23 ?_
  refine r_iconst E 1 rfl dX11_move_24 ?_
  refine r_callVI E (m_X11_fails (EE_st E) (GX X) 1 h _ hw) lk_X11_147 (RM_mk (Nat.le_of_ble_eq_true rfl) (Nat.le_of_ble_eq_true rfl)) rfl rfl rfl rfl (Nat.le_of_ble_eq_true rfl) (adr_lt (Nat.le_of_ble_eq_true rfl)) (Nat.le_of_ble_eq_true rfl) rfl rfl (Nat.le_of_ble_eq_true rfl) (Nat.le_of_ble_eq_true rfl) dX11_move_25 (fun r1 h2 hw => ?_)
  exact hE _ _ _ _ _ _ (Nat.le_of_ble_eq_true rfl) (Nat.le_of_ble_eq_true rfl) dX11_move_28 rfl hw
set_option maxRecDepth 20000 in
theorem t_X11_move_b47 {X : Ctx} (h : Hp)   (E : EE X cX11_move RX11 4 3 67 0 0) {Q : Int32 → Hp → Prop} (hE : ENDi X cX11_move .int Q NT 0 0)  (hw : wp_X11_move_b47  h  Q) : GG X 0 0 NT h [some (rf X 11 0), none, none, none] 47 [] := by
  unfold wp_X11_move_b47 at hw
  refine r_aload_n E 11 0 rfl dX11_move_47 ?_
  refine r_iconst E 2 rfl dX11_move_48 ?_
  refine r_callVI E (m_X11_fails (EE_st E) (GX X) 2 h _ hw) lk_X11_147 (RM_mk (Nat.le_of_ble_eq_true rfl) (Nat.le_of_ble_eq_true rfl)) rfl rfl rfl rfl (Nat.le_of_ble_eq_true rfl) (adr_lt (Nat.le_of_ble_eq_true rfl)) (Nat.le_of_ble_eq_true rfl) rfl rfl (Nat.le_of_ble_eq_true rfl) (Nat.le_of_ble_eq_true rfl) dX11_move_49 (fun r1 h2 hw => ?_)
  exact hE _ _ _ _ _ _ (Nat.le_of_ble_eq_true rfl) (Nat.le_of_ble_eq_true rfl) dX11_move_52 rfl hw
set_option maxRecDepth 20000 in
theorem m_X11_move {l : Launch} (hl : l.stackTraces = false) (G : Gq) (p0 : Int32) (p1 : Int32)  (h : Hp) (Q : Int32 → Hp → Prop) (hw : wp_X11_move p0 p1 h Q) : MI l G yX11_move cX11_move 4 (some .int) rm_X11_move NT NT h (fun r => [r 11 0, .int p0, .int p1]) Q := by
  refine MI_of (L0 := (fun X => [some (rf X 11 0), some (.int p0), some (.int p1), none])) hl (by decide +kernel) rfl (fun _ => Nat.le_of_ble_eq_true rfl) (fun _ => rfl) fun X hXl hXG E hE => ?_
  subst hXl; subst hXG
  unfold wp_X11_move at hw
  refine r_aload_n E 11 0 rfl dX11_move_0 ?_
  refine r_iconst E 0 rfl dX11_move_1 ?_
  refine r_putI E fd_X11_138 rfl PI_int (Nat.le_of_ble_eq_true rfl) (adr_lt (Nat.le_of_ble_eq_true rfl)) rfl dX11_move_2 ?_
  refine GG_toph fun h1 hh1 => ?_
  have hw := hw h1 hh1
  refine r_aload_n E 11 0 rfl dX11_move_5 ?_
  refine r_iload_n E p0 rfl dX11_move_6 ?_
  refine r_callVI E (m_X11_isMail (EE_st E) (GX X) p0 h1 _ hw) lk_X11_165 (RM_mk (Nat.le_of_ble_eq_true rfl) (Nat.le_of_ble_eq_true rfl)) rfl rfl rfl rfl (Nat.le_of_ble_eq_true rfl) (adr_lt (Nat.le_of_ble_eq_true rfl)) (Nat.le_of_ble_eq_true rfl) rfl rfl (Nat.le_of_ble_eq_true rfl) (Nat.le_of_ble_eq_true rfl) dX11_move_7 (fun r2 u9 hw => ?_)
  obtain ⟨rfl, zr2, hw⟩ := hw
  refine r_if_eq E 23 (by decide) dX11_move_10 (fun c3 => ?_) (fun c3 => ?_)
  · have hw := ite_t hw c3
    exact GG_weak [true, false, false, false] rfl (t_X11_move_b23 h1  E hE  hw)
  · have hw := ite_f hw c3
    refine r_iload_n E p1 rfl dX11_move_13 ?_
    refine r_iconst E 0 rfl dX11_move_14 ?_
    refine r_bipush E 7 rfl dX11_move_15 ?_
    refine r_callSI E (m_X11_in (EE_st E) (GX X) p1 0 7 h1 _ hw) lk_X11_142 (RM_mk (Nat.le_of_ble_eq_true rfl) (Nat.le_of_ble_eq_true rfl)) rfl rfl rfl rfl (Nat.le_of_ble_eq_true rfl) rfl rfl (Nat.le_of_ble_eq_true rfl) (Nat.le_of_ble_eq_true rfl) dX11_move_17 (fun r4 u9 hw => ?_)
    obtain ⟨rfl, zr4, hw⟩ := hw
    refine r_if_ne E 29 (by decide) dX11_move_20 (fun c5 => ?_) (fun c5 => ?_)
    · have hw := ite_t hw c5
      exact GG_weak [true, false, false, false] rfl (t_X11_move_b23 h1  E hE  hw)
    · have hw := ite_f hw c5
      refine r_aload_n E 11 0 rfl dX11_move_29 ?_
      refine r_getS E fd_X11_28 (t := 0) (j1 := 39) rfl rfl rfl rfl (Nat.le_of_ble_eq_true rfl) (adr_lt (Nat.le_of_ble_eq_true rfl)) dX11_move_30 ?_
      refine r_iload_n E p0 rfl dX11_move_33 ?_
      obtain ⟨i6, hw⟩ := hw
      refine r_zald E rfl rfl rfl (Nat.le_of_ble_eq_true rfl) (adr_lt (Nat.le_of_ble_eq_true rfl)) i6 dX11_move_34 ?_
      refine r_if_eq E 47 (by decide) dX11_move_35 (fun c7 => ?_) (fun c7 => ?_)
      · have hw := ite_t hw c7
        exact GG_weak [true, false, false, false] rfl (t_X11_move_b47 h1  E hE  hw)
      · have hw := ite_f hw c7
        refine r_aload_n E 11 0 rfl dX11_move_38 ?_
        refine r_getS E fd_X11_32 (t := 0) (j1 := 40) rfl rfl rfl rfl (Nat.le_of_ble_eq_true rfl) (adr_lt (Nat.le_of_ble_eq_true rfl)) dX11_move_39 ?_
        refine r_iload_n E p0 rfl dX11_move_42 ?_
        refine r_zald E rfl rfl rfl (Nat.le_of_ble_eq_true rfl) (adr_lt (Nat.le_of_ble_eq_true rfl)) i6 dX11_move_43 ?_
        refine r_if_eq E 53 (by decide) dX11_move_44 (fun c8 => ?_) (fun c8 => ?_)
        · have hw := ite_t hw c8
          refine r_aload_n E 11 0 rfl dX11_move_53 ?_
          refine r_getS E fd_X11_35 (t := 0) (j1 := 41) rfl rfl rfl rfl (Nat.le_of_ble_eq_true rfl) (adr_lt (Nat.le_of_ble_eq_true rfl)) dX11_move_54 ?_
          refine r_iload_n E p0 rfl dX11_move_57 ?_
          refine r_iald E rfl rfl rfl (Nat.le_of_ble_eq_true rfl) (adr_lt (Nat.le_of_ble_eq_true rfl)) i6 dX11_move_58 ?_
          refine GG_topI fun v9 hv9 => ?_
          have hw := hw v9 hv9
          refine r_istore_n E [some (rf X 11 0), some (.int p0), some (.int p1), some (.int v9)] rfl (Nat.le_of_ble_eq_true rfl) rfl dX11_move_59 ?_
          refine r_aload_n E 11 0 rfl dX11_move_60 ?_
          refine r_getS E fd_X11_35 (t := 0) (j1 := 41) rfl rfl rfl rfl (Nat.le_of_ble_eq_true rfl) (adr_lt (Nat.le_of_ble_eq_true rfl)) dX11_move_61 ?_
          refine r_iload_n E p0 rfl dX11_move_64 ?_
          refine r_iload_n E p1 rfl dX11_move_65 ?_
          refine r_iast E rfl rfl rfl (Nat.le_of_ble_eq_true rfl) (adr_lt (Nat.le_of_ble_eq_true rfl)) i6 dX11_move_66 ?_
          refine GG_toph fun h10 hh10 => ?_
          have hw := hw h10 hh10
          refine r_aload_n E 11 0 rfl dX11_move_67 ?_
          refine r_getS E fd_X11_41 (t := 0) (j1 := 43) rfl rfl rfl rfl (Nat.le_of_ble_eq_true rfl) (adr_lt (Nat.le_of_ble_eq_true rfl)) dX11_move_68 ?_
          refine r_iload_n E p0 rfl dX11_move_71 ?_
          refine r_iload_n E p1 rfl dX11_move_72 ?_
          refine r_iast E rfl rfl rfl (Nat.le_of_ble_eq_true rfl) (adr_lt (Nat.le_of_ble_eq_true rfl)) i6 dX11_move_73 ?_
          refine GG_toph fun h11 hh11 => ?_
          have hw := hw h11 hh11
          refine r_iload_n E v9 rfl dX11_move_74 ?_
          exact hE _ _ _ _ _ _ (Nat.le_of_ble_eq_true rfl) (Nat.le_of_ble_eq_true rfl) dX11_move_75 rfl hw
        · have hw := ite_f hw c8
          exact GG_weak [true, false, false, false] rfl (t_X11_move_b47 h1  E hE  hw)
set_option maxRecDepth 20000 in
theorem m_X11_isPair {l : Launch} (hl : l.stackTraces = false) (G : Gq) (p0 : Int32)  (h : Hp) (Q : Int32 → Prop) (hw : wp_X11_isPair p0 h Q) : MI l G yX11_isPair cX11_isPair 1 (some .boolean) rm_X11_isPair NT NT h (fun r => [.int p0]) (fun r u => h = u ∧ isB r ∧ Q r) := by
  refine MI_of (L0 := (fun X => [some (.int p0)])) hl (by decide +kernel) rfl (fun _ => Nat.le_of_ble_eq_true rfl) (fun _ => rfl) fun X hXl hXG E hE => ?_
  subst hXl; subst hXG
  unfold wp_X11_isPair at hw
  refine r_iload_n E p0 rfl dX11_isPair_0 ?_
  refine r_bipush E 38 rfl dX11_isPair_1 ?_
  refine r_icmp_eq E 12 (by decide) dX11_isPair_3 (fun c1 => ?_) (fun c1 => ?_)
  · have hw := ite_t hw c1
    refine r_iconst E 1 rfl dX11_isPair_12 ?_
    refine r_goto E 17 (by decide) dX11_isPair_13 ?_
    exact hE _ _ _ _ _ _ (Nat.le_of_ble_eq_true rfl) (Nat.le_of_ble_eq_true rfl) dX11_isPair_17 (isB_nar isB_1) ⟨rfl, isB_1, hw⟩
  · have hw := ite_f hw c1
    refine r_iload_n E p0 rfl dX11_isPair_6 ?_
    refine r_bipush E 124 rfl dX11_isPair_7 ?_
    refine r_icmp_ne E 16 (by decide) dX11_isPair_9 (fun c2 => ?_) (fun c2 => ?_)
    · have hw := ite_t hw c2
      refine r_iconst E 1 rfl dX11_isPair_12 ?_
      refine r_goto E 17 (by decide) dX11_isPair_13 ?_
      exact hE _ _ _ _ _ _ (Nat.le_of_ble_eq_true rfl) (Nat.le_of_ble_eq_true rfl) dX11_isPair_17 (isB_nar isB_1) ⟨rfl, isB_1, hw⟩
    · have hw := ite_f hw c2
      refine r_iconst E 0 rfl dX11_isPair_16 ?_
      exact hE _ _ _ _ _ _ (Nat.le_of_ble_eq_true rfl) (Nat.le_of_ble_eq_true rfl) dX11_isPair_17 (isB_nar isB_0) ⟨rfl, isB_0, hw⟩
set_option maxRecDepth 20000 in
theorem m_X11_isTold {l : Launch} (hl : l.stackTraces = false) (G : Gq) (p0 : Int32) (p1 : Int32)  (h : Hp) (Q : Int32 → Prop) (hw : wp_X11_isTold p0 p1 h Q) : MI l G yX11_isTold cX11_isTold 2 (some .boolean) rm_X11_isTold NT NT h (fun r => [.int p0, .int p1]) (fun r u => h = u ∧ isB r ∧ Q r) := by
  refine MI_of (L0 := (fun X => [some (.int p0), some (.int p1)])) hl (by decide +kernel) rfl (fun _ => Nat.le_of_ble_eq_true rfl) (fun _ => rfl) fun X hXl hXG E hE => ?_
  subst hXl; subst hXG
  unfold wp_X11_isTold at hw
  refine r_iload_n E p0 rfl dX11_isTold_0 ?_
  rcases Decidable.em (p0 = 98) with c1 | c1
  · have hw := ite_t hw c1
    refine r_tableI E 98 c1 (off := 123) 124 dX11_isTold_1 (by decide) (by decide) rfl (by decide) ?_
    refine r_iload_n E p1 rfl dX11_isTold_124 ?_
    refine r_iconst E 0 rfl dX11_isTold_125 ?_
    refine r_bipush E 15 rfl dX11_isTold_126 ?_
    refine r_callSI E (m_X11_in (EE_st E) (GX X) p1 0 15 h _ hw) lk_X11_142 (RM_mk (Nat.le_of_ble_eq_true rfl) (Nat.le_of_ble_eq_true rfl)) rfl rfl rfl rfl (Nat.le_of_ble_eq_true rfl) rfl rfl (Nat.le_of_ble_eq_true rfl) (Nat.le_of_ble_eq_true rfl) dX11_isTold_128 (fun r2 u9 hw => ?_)
    obtain ⟨rfl, zr2, hw⟩ := hw
    exact hE _ _ _ _ _ _ (Nat.le_of_ble_eq_true rfl) (Nat.le_of_ble_eq_true rfl) dX11_isTold_131 (isB_nar zr2) ⟨rfl, zr2, hw⟩
  · have hw := ite_f hw c1
    rcases Decidable.em (p0 = 100) with c3 | c3
    · have hw := ite_t hw c3
      refine r_tableI E 100 c3 (off := 140) 141 dX11_isTold_1 (by decide) (by decide) rfl (by decide) ?_
      refine r_iload_n E p1 rfl dX11_isTold_141 ?_
      refine r_iconst E 0 rfl dX11_isTold_142 ?_
      refine r_bipush E 6 rfl dX11_isTold_143 ?_
      refine r_callSI E (m_X11_in (EE_st E) (GX X) p1 0 6 h _ hw) lk_X11_142 (RM_mk (Nat.le_of_ble_eq_true rfl) (Nat.le_of_ble_eq_true rfl)) rfl rfl rfl rfl (Nat.le_of_ble_eq_true rfl) rfl rfl (Nat.le_of_ble_eq_true rfl) (Nat.le_of_ble_eq_true rfl) dX11_isTold_145 (fun r4 u9 hw => ?_)
      obtain ⟨rfl, zr4, hw⟩ := hw
      exact hE _ _ _ _ _ _ (Nat.le_of_ble_eq_true rfl) (Nat.le_of_ble_eq_true rfl) dX11_isTold_148 (isB_nar zr4) ⟨rfl, zr4, hw⟩
    · have hw := ite_f hw c3
      rcases Decidable.em (p0 = 102) with c5 | c5
      · have hw := ite_t hw c5
        refine r_tableI E 102 c5 (off := 115) 116 dX11_isTold_1 (by decide) (by decide) rfl (by decide) ?_
        refine r_iload_n E p1 rfl dX11_isTold_116 ?_
        refine r_iconst E 0 rfl dX11_isTold_117 ?_
        refine r_bipush E 9 rfl dX11_isTold_118 ?_
        refine r_callSI E (m_X11_in (EE_st E) (GX X) p1 0 9 h _ hw) lk_X11_142 (RM_mk (Nat.le_of_ble_eq_true rfl) (Nat.le_of_ble_eq_true rfl)) rfl rfl rfl rfl (Nat.le_of_ble_eq_true rfl) rfl rfl (Nat.le_of_ble_eq_true rfl) (Nat.le_of_ble_eq_true rfl) dX11_isTold_120 (fun r6 u9 hw => ?_)
        obtain ⟨rfl, zr6, hw⟩ := hw
        exact hE _ _ _ _ _ _ (Nat.le_of_ble_eq_true rfl) (Nat.le_of_ble_eq_true rfl) dX11_isTold_123 (isB_nar zr6) ⟨rfl, zr6, hw⟩
      · have hw := ite_f hw c5
        rcases Decidable.em (p0 = 107) with c7 | c7
        · have hw := ite_t hw c7
          refine r_tableI E 107 c7 (off := 156) 157 dX11_isTold_1 (by decide) (by decide) rfl (by decide) ?_
          refine r_iload_n E p1 rfl dX11_isTold_157 ?_
          refine r_iconst E 0 rfl dX11_isTold_158 ?_
          refine r_bipush E 7 rfl dX11_isTold_159 ?_
          refine r_callSI E (m_X11_in (EE_st E) (GX X) p1 0 7 h _ hw) lk_X11_142 (RM_mk (Nat.le_of_ble_eq_true rfl) (Nat.le_of_ble_eq_true rfl)) rfl rfl rfl rfl (Nat.le_of_ble_eq_true rfl) rfl rfl (Nat.le_of_ble_eq_true rfl) (Nat.le_of_ble_eq_true rfl) dX11_isTold_161 (fun r8 u9 hw => ?_)
          obtain ⟨rfl, zr8, hw⟩ := hw
          exact hE _ _ _ _ _ _ (Nat.le_of_ble_eq_true rfl) (Nat.le_of_ble_eq_true rfl) dX11_isTold_164 (isB_nar zr8) ⟨rfl, zr8, hw⟩
        · have hw := ite_f hw c7
          rcases Decidable.em (p0 = 110) with c9 | c9
          · have hw := ite_t hw c9
            refine r_tableI E 110 c9 (off := 148) 149 dX11_isTold_1 (by decide) (by decide) rfl (by decide) ?_
            refine r_iload_n E p1 rfl dX11_isTold_149 ?_
            refine r_iconst E 1 rfl dX11_isTold_150 ?_
            refine r_bipush E 10 rfl dX11_isTold_151 ?_
            refine r_callSI E (m_X11_in (EE_st E) (GX X) p1 1 10 h _ hw) lk_X11_142 (RM_mk (Nat.le_of_ble_eq_true rfl) (Nat.le_of_ble_eq_true rfl)) rfl rfl rfl rfl (Nat.le_of_ble_eq_true rfl) rfl rfl (Nat.le_of_ble_eq_true rfl) (Nat.le_of_ble_eq_true rfl) dX11_isTold_153 (fun r10 u9 hw => ?_)
            obtain ⟨rfl, zr10, hw⟩ := hw
            exact hE _ _ _ _ _ _ (Nat.le_of_ble_eq_true rfl) (Nat.le_of_ble_eq_true rfl) dX11_isTold_156 (isB_nar zr10) ⟨rfl, zr10, hw⟩
          · have hw := ite_f hw c9
            rcases Decidable.em (p0 = 115) with c11 | c11
            · have hw := ite_t hw c11
              refine r_tableI E 115 c11 (off := 123) 124 dX11_isTold_1 (by decide) (by decide) rfl (by decide) ?_
              refine r_iload_n E p1 rfl dX11_isTold_124 ?_
              refine r_iconst E 0 rfl dX11_isTold_125 ?_
              refine r_bipush E 15 rfl dX11_isTold_126 ?_
              refine r_callSI E (m_X11_in (EE_st E) (GX X) p1 0 15 h _ hw) lk_X11_142 (RM_mk (Nat.le_of_ble_eq_true rfl) (Nat.le_of_ble_eq_true rfl)) rfl rfl rfl rfl (Nat.le_of_ble_eq_true rfl) rfl rfl (Nat.le_of_ble_eq_true rfl) (Nat.le_of_ble_eq_true rfl) dX11_isTold_128 (fun r12 u9 hw => ?_)
              obtain ⟨rfl, zr12, hw⟩ := hw
              exact hE _ _ _ _ _ _ (Nat.le_of_ble_eq_true rfl) (Nat.le_of_ble_eq_true rfl) dX11_isTold_131 (isB_nar zr12) ⟨rfl, zr12, hw⟩
            · have hw := ite_f hw c11
              rcases Decidable.em (p0 = 116) with c13 | c13
              · have hw := ite_t hw c13
                refine r_tableI E 116 c13 (off := 115) 116 dX11_isTold_1 (by decide) (by decide) rfl (by decide) ?_
                refine r_iload_n E p1 rfl dX11_isTold_116 ?_
                refine r_iconst E 0 rfl dX11_isTold_117 ?_
                refine r_bipush E 9 rfl dX11_isTold_118 ?_
                refine r_callSI E (m_X11_in (EE_st E) (GX X) p1 0 9 h _ hw) lk_X11_142 (RM_mk (Nat.le_of_ble_eq_true rfl) (Nat.le_of_ble_eq_true rfl)) rfl rfl rfl rfl (Nat.le_of_ble_eq_true rfl) rfl rfl (Nat.le_of_ble_eq_true rfl) (Nat.le_of_ble_eq_true rfl) dX11_isTold_120 (fun r14 u9 hw => ?_)
                obtain ⟨rfl, zr14, hw⟩ := hw
                exact hE _ _ _ _ _ _ (Nat.le_of_ble_eq_true rfl) (Nat.le_of_ble_eq_true rfl) dX11_isTold_123 (isB_nar zr14) ⟨rfl, zr14, hw⟩
              · have hw := ite_f hw c13
                rcases Decidable.em (p0 = 122) with c15 | c15
                · have hw := ite_t hw c15
                  refine r_tableI E 122 c15 (off := 131) 132 dX11_isTold_1 (by decide) (by decide) rfl (by decide) ?_
                  refine r_iload_n E p1 rfl dX11_isTold_132 ?_
                  refine r_iconst E 0 rfl dX11_isTold_133 ?_
                  refine r_sipush E 999 rfl dX11_isTold_134 ?_
                  refine r_callSI E (m_X11_in (EE_st E) (GX X) p1 0 999 h _ hw) lk_X11_142 (RM_mk (Nat.le_of_ble_eq_true rfl) (Nat.le_of_ble_eq_true rfl)) rfl rfl rfl rfl (Nat.le_of_ble_eq_true rfl) rfl rfl (Nat.le_of_ble_eq_true rfl) (Nat.le_of_ble_eq_true rfl) dX11_isTold_137 (fun r16 u9 hw => ?_)
                  obtain ⟨rfl, zr16, hw⟩ := hw
                  exact hE _ _ _ _ _ _ (Nat.le_of_ble_eq_true rfl) (Nat.le_of_ble_eq_true rfl) dX11_isTold_140 (isB_nar zr16) ⟨rfl, zr16, hw⟩
                · have hw := ite_f hw c15
                  have key : GG X 0 0 NT h [some (.int p0), some (.int p1)] 165 ([]) := by
                    refine r_iload_n E p0 rfl dX11_isTold_165 ?_
                    refine r_bipush E 97 rfl dX11_isTold_166 ?_
                    refine r_icmp_eq E 184 (by decide) dX11_isTold_168 (fun c17 => ?_) (fun c17 => ?_)
                    · have hw := ite_t hw c17
                      refine r_iconst E 1 rfl dX11_isTold_184 ?_
                      refine r_goto E 189 (by decide) dX11_isTold_185 ?_
                      exact hE _ _ _ _ _ _ (Nat.le_of_ble_eq_true rfl) (Nat.le_of_ble_eq_true rfl) dX11_isTold_189 (isB_nar isB_1) ⟨rfl, isB_1, hw⟩
                    · have hw := ite_f hw c17
                      refine r_iload_n E p0 rfl dX11_isTold_171 ?_
                      refine r_bipush E 33 rfl dX11_isTold_172 ?_
                      refine r_icmp_eq E 184 (by decide) dX11_isTold_174 (fun c18 => ?_) (fun c18 => ?_)
                      · have hw := ite_t hw c18
                        refine r_iconst E 1 rfl dX11_isTold_184 ?_
                        refine r_goto E 189 (by decide) dX11_isTold_185 ?_
                        exact hE _ _ _ _ _ _ (Nat.le_of_ble_eq_true rfl) (Nat.le_of_ble_eq_true rfl) dX11_isTold_189 (isB_nar isB_1) ⟨rfl, isB_1, hw⟩
                      · have hw := ite_f hw c18
                        refine r_iload_n E p0 rfl dX11_isTold_177 ?_
                        refine r_callSI E (m_X11_isPair (EE_st E) (GX X) p0 h _ hw) lk_X11_169 (RM_mk (Nat.le_of_ble_eq_true rfl) (Nat.le_of_ble_eq_true rfl)) rfl rfl rfl rfl (Nat.le_of_ble_eq_true rfl) rfl rfl (Nat.le_of_ble_eq_true rfl) (Nat.le_of_ble_eq_true rfl) dX11_isTold_178 (fun r19 u9 hw => ?_)
                        obtain ⟨rfl, zr19, hw⟩ := hw
                        refine r_if_eq E 188 (by decide) dX11_isTold_181 (fun c20 => ?_) (fun c20 => ?_)
                        · have hw := ite_t hw c20
                          refine r_iconst E 0 rfl dX11_isTold_188 ?_
                          exact hE _ _ _ _ _ _ (Nat.le_of_ble_eq_true rfl) (Nat.le_of_ble_eq_true rfl) dX11_isTold_189 (isB_nar isB_0) ⟨rfl, isB_0, hw⟩
                        · have hw := ite_f hw c20
                          refine r_iconst E 1 rfl dX11_isTold_184 ?_
                          refine r_goto E 189 (by decide) dX11_isTold_185 ?_
                          exact hE _ _ _ _ _ _ (Nat.le_of_ble_eq_true rfl) (Nat.le_of_ble_eq_true rfl) dX11_isTold_189 (isB_nar isB_1) ⟨rfl, isB_1, hw⟩
                  rcases Decidable.em (p0.toInt < 98 ∨ 122 < p0.toInt) with cz | cz
                  · exact r_tableO E 165 dX11_isTold_1 cz (by decide) key
                  · have hh : p0 = 99 ∨ p0 = 101 ∨ p0 = 103 ∨ p0 = 104 ∨ p0 = 105 ∨ p0 = 106 ∨ p0 = 108 ∨ p0 = 109 ∨ p0 = 111 ∨ p0 = 112 ∨ p0 = 113 ∨ p0 = 114 ∨ p0 = 117 ∨ p0 = 118 ∨ p0 = 119 ∨ p0 = 120 ∨ p0 = 121 := by
                      have ec1 := lv_neT c1 (a := 98) rfl
                      have ec3 := lv_neT c3 (a := 100) rfl
                      have ec5 := lv_neT c5 (a := 102) rfl
                      have ec7 := lv_neT c7 (a := 107) rfl
                      have ec9 := lv_neT c9 (a := 110) rfl
                      have ec11 := lv_neT c11 (a := 115) rfl
                      have ec13 := lv_neT c13 (a := 116) rfl
                      have ec15 := lv_neT c15 (a := 122) rfl
                      have hz : p0.toInt = 99 ∨ p0.toInt = 101 ∨ p0.toInt = 103 ∨ p0.toInt = 104 ∨ p0.toInt = 105 ∨ p0.toInt = 106 ∨ p0.toInt = 108 ∨ p0.toInt = 109 ∨ p0.toInt = 111 ∨ p0.toInt = 112 ∨ p0.toInt = 113 ∨ p0.toInt = 114 ∨ p0.toInt = 117 ∨ p0.toInt = 118 ∨ p0.toInt = 119 ∨ p0.toInt = 120 ∨ p0.toInt = 121 := by omega
                      rcases hz with hz | hz | hz | hz | hz | hz | hz | hz | hz | hz | hz | hz | hz | hz | hz | hz | hz
                      · exact Or.inl (Int32.toInt_inj.mp (hz.trans (rfl : (99 : Int) = (99 : Int32).toInt)))
                      · exact Or.inr (Or.inl (Int32.toInt_inj.mp (hz.trans (rfl : (101 : Int) = (101 : Int32).toInt))))
                      · exact Or.inr (Or.inr (Or.inl (Int32.toInt_inj.mp (hz.trans (rfl : (103 : Int) = (103 : Int32).toInt)))))
                      · exact Or.inr (Or.inr (Or.inr (Or.inl (Int32.toInt_inj.mp (hz.trans (rfl : (104 : Int) = (104 : Int32).toInt))))))
                      · exact Or.inr (Or.inr (Or.inr (Or.inr (Or.inl (Int32.toInt_inj.mp (hz.trans (rfl : (105 : Int) = (105 : Int32).toInt)))))))
                      · exact Or.inr (Or.inr (Or.inr (Or.inr (Or.inr (Or.inl (Int32.toInt_inj.mp (hz.trans (rfl : (106 : Int) = (106 : Int32).toInt))))))))
                      · exact Or.inr (Or.inr (Or.inr (Or.inr (Or.inr (Or.inr (Or.inl (Int32.toInt_inj.mp (hz.trans (rfl : (108 : Int) = (108 : Int32).toInt)))))))))
                      · exact Or.inr (Or.inr (Or.inr (Or.inr (Or.inr (Or.inr (Or.inr (Or.inl (Int32.toInt_inj.mp (hz.trans (rfl : (109 : Int) = (109 : Int32).toInt))))))))))
                      · exact Or.inr (Or.inr (Or.inr (Or.inr (Or.inr (Or.inr (Or.inr (Or.inr (Or.inl (Int32.toInt_inj.mp (hz.trans (rfl : (111 : Int) = (111 : Int32).toInt)))))))))))
                      · exact Or.inr (Or.inr (Or.inr (Or.inr (Or.inr (Or.inr (Or.inr (Or.inr (Or.inr (Or.inl (Int32.toInt_inj.mp (hz.trans (rfl : (112 : Int) = (112 : Int32).toInt))))))))))))
                      · exact Or.inr (Or.inr (Or.inr (Or.inr (Or.inr (Or.inr (Or.inr (Or.inr (Or.inr (Or.inr (Or.inl (Int32.toInt_inj.mp (hz.trans (rfl : (113 : Int) = (113 : Int32).toInt)))))))))))))
                      · exact Or.inr (Or.inr (Or.inr (Or.inr (Or.inr (Or.inr (Or.inr (Or.inr (Or.inr (Or.inr (Or.inr (Or.inl (Int32.toInt_inj.mp (hz.trans (rfl : (114 : Int) = (114 : Int32).toInt))))))))))))))
                      · exact Or.inr (Or.inr (Or.inr (Or.inr (Or.inr (Or.inr (Or.inr (Or.inr (Or.inr (Or.inr (Or.inr (Or.inr (Or.inl (Int32.toInt_inj.mp (hz.trans (rfl : (117 : Int) = (117 : Int32).toInt)))))))))))))))
                      · exact Or.inr (Or.inr (Or.inr (Or.inr (Or.inr (Or.inr (Or.inr (Or.inr (Or.inr (Or.inr (Or.inr (Or.inr (Or.inr (Or.inl (Int32.toInt_inj.mp (hz.trans (rfl : (118 : Int) = (118 : Int32).toInt))))))))))))))))
                      · exact Or.inr (Or.inr (Or.inr (Or.inr (Or.inr (Or.inr (Or.inr (Or.inr (Or.inr (Or.inr (Or.inr (Or.inr (Or.inr (Or.inr (Or.inl (Int32.toInt_inj.mp (hz.trans (rfl : (119 : Int) = (119 : Int32).toInt)))))))))))))))))
                      · exact Or.inr (Or.inr (Or.inr (Or.inr (Or.inr (Or.inr (Or.inr (Or.inr (Or.inr (Or.inr (Or.inr (Or.inr (Or.inr (Or.inr (Or.inr (Or.inl (Int32.toInt_inj.mp (hz.trans (rfl : (120 : Int) = (120 : Int32).toInt))))))))))))))))))
                      · exact Or.inr (Or.inr (Or.inr (Or.inr (Or.inr (Or.inr (Or.inr (Or.inr (Or.inr (Or.inr (Or.inr (Or.inr (Or.inr (Or.inr (Or.inr (Or.inr (Int32.toInt_inj.mp (hz.trans (rfl : (121 : Int) = (121 : Int32).toInt))))))))))))))))))
                    rcases hh with hh | hh | hh | hh | hh | hh | hh | hh | hh | hh | hh | hh | hh | hh | hh | hh | hh
                    · exact r_tableI E 99 hh (off := 164) 165 dX11_isTold_1 (by decide) (by decide) rfl (by decide) key
                    · exact r_tableI E 101 hh (off := 164) 165 dX11_isTold_1 (by decide) (by decide) rfl (by decide) key
                    · exact r_tableI E 103 hh (off := 164) 165 dX11_isTold_1 (by decide) (by decide) rfl (by decide) key
                    · exact r_tableI E 104 hh (off := 164) 165 dX11_isTold_1 (by decide) (by decide) rfl (by decide) key
                    · exact r_tableI E 105 hh (off := 164) 165 dX11_isTold_1 (by decide) (by decide) rfl (by decide) key
                    · exact r_tableI E 106 hh (off := 164) 165 dX11_isTold_1 (by decide) (by decide) rfl (by decide) key
                    · exact r_tableI E 108 hh (off := 164) 165 dX11_isTold_1 (by decide) (by decide) rfl (by decide) key
                    · exact r_tableI E 109 hh (off := 164) 165 dX11_isTold_1 (by decide) (by decide) rfl (by decide) key
                    · exact r_tableI E 111 hh (off := 164) 165 dX11_isTold_1 (by decide) (by decide) rfl (by decide) key
                    · exact r_tableI E 112 hh (off := 164) 165 dX11_isTold_1 (by decide) (by decide) rfl (by decide) key
                    · exact r_tableI E 113 hh (off := 164) 165 dX11_isTold_1 (by decide) (by decide) rfl (by decide) key
                    · exact r_tableI E 114 hh (off := 164) 165 dX11_isTold_1 (by decide) (by decide) rfl (by decide) key
                    · exact r_tableI E 117 hh (off := 164) 165 dX11_isTold_1 (by decide) (by decide) rfl (by decide) key
                    · exact r_tableI E 118 hh (off := 164) 165 dX11_isTold_1 (by decide) (by decide) rfl (by decide) key
                    · exact r_tableI E 119 hh (off := 164) 165 dX11_isTold_1 (by decide) (by decide) rfl (by decide) key
                    · exact r_tableI E 120 hh (off := 164) 165 dX11_isTold_1 (by decide) (by decide) rfl (by decide) key
                    · exact r_tableI E 121 hh (off := 164) 165 dX11_isTold_1 (by decide) (by decide) rfl (by decide) key
set_option maxRecDepth 20000 in
theorem m_X11_addsTest {l : Launch} (hl : l.stackTraces = false) (G : Gq) (p0 : Int32) (p1 : Int32) (p2 : Int32)  (h : Hp) (Q : Int32 → Hp → Prop) (hw : wp_X11_addsTest p0 p1 p2 h Q) : MI l G yX11_addsTest cX11_addsTest 4 (some .int) rm_X11_addsTest NT NT h (fun r => [r 11 0, .int p0, .int p1, .int p2]) Q := by
  refine MI_of (L0 := (fun X => [some (rf X 11 0), some (.int p0), some (.int p1), some (.int p2)])) hl (by decide +kernel) rfl (fun _ => Nat.le_of_ble_eq_true rfl) (fun _ => rfl) fun X hXl hXG E hE => ?_
  subst hXl; subst hXG
  unfold wp_X11_addsTest at hw
  refine r_aload_n E 11 0 rfl dX11_addsTest_0 ?_
  refine r_getS E fd_X11_59 (t := 0) (j1 := 49) rfl rfl rfl rfl (Nat.le_of_ble_eq_true rfl) (adr_lt (Nat.le_of_ble_eq_true rfl)) dX11_addsTest_1 ?_
  refine r_aload_n E 11 0 rfl dX11_addsTest_4 ?_
  refine r_getI E fd_X11_173 rfl (Nat.le_of_ble_eq_true rfl) (adr_lt (Nat.le_of_ble_eq_true rfl)) dX11_addsTest_5 ?_
  refine r_iload_n E p0 rfl dX11_addsTest_8 ?_
  obtain ⟨i1, hw⟩ := hw
  refine r_cast E rfl rfl rfl (Nat.le_of_ble_eq_true rfl) (adr_lt (Nat.le_of_ble_eq_true rfl)) i1 rfl dX11_addsTest_9 ?_
  refine GG_toph fun h2 hh2 => ?_
  have hw := hw h2 hh2
  refine r_aload_n E 11 0 rfl dX11_addsTest_10 ?_
  refine r_getS E fd_X11_63 (t := 0) (j1 := 50) rfl rfl rfl rfl (Nat.le_of_ble_eq_true rfl) (adr_lt (Nat.le_of_ble_eq_true rfl)) dX11_addsTest_11 ?_
  refine r_aload_n E 11 0 rfl dX11_addsTest_14 ?_
  refine r_getI E fd_X11_173 rfl (Nat.le_of_ble_eq_true rfl) (adr_lt (Nat.le_of_ble_eq_true rfl)) dX11_addsTest_15 ?_
  refine r_iload_n E p1 rfl dX11_addsTest_18 ?_
  obtain ⟨i3, hw⟩ := hw
  refine r_iast E rfl rfl rfl (Nat.le_of_ble_eq_true rfl) (adr_lt (Nat.le_of_ble_eq_true rfl)) i3 dX11_addsTest_19 ?_
  refine GG_toph fun h4 hh4 => ?_
  have hw := hw h4 hh4
  refine r_aload_n E 11 0 rfl dX11_addsTest_20 ?_
  refine r_getS E fd_X11_66 (t := 0) (j1 := 51) rfl rfl rfl rfl (Nat.le_of_ble_eq_true rfl) (adr_lt (Nat.le_of_ble_eq_true rfl)) dX11_addsTest_21 ?_
  refine r_aload_n E 11 0 rfl dX11_addsTest_24 ?_
  refine r_getI E fd_X11_173 rfl (Nat.le_of_ble_eq_true rfl) (adr_lt (Nat.le_of_ble_eq_true rfl)) dX11_addsTest_25 ?_
  refine r_iload_n E p2 rfl dX11_addsTest_28 ?_
  obtain ⟨i5, hw⟩ := hw
  refine r_iast E rfl rfl rfl (Nat.le_of_ble_eq_true rfl) (adr_lt (Nat.le_of_ble_eq_true rfl)) i5 dX11_addsTest_29 ?_
  refine GG_toph fun h6 hh6 => ?_
  have hw := hw h6 hh6
  refine r_aload_n E 11 0 rfl dX11_addsTest_30 ?_
  refine r_dup E rfl dX11_addsTest_31 ?_
  refine r_getI E fd_X11_173 rfl (Nat.le_of_ble_eq_true rfl) (adr_lt (Nat.le_of_ble_eq_true rfl)) dX11_addsTest_32 ?_
  refine r_iconst E 1 rfl dX11_addsTest_35 ?_
  refine r_iadd E dX11_addsTest_36 ?_
  refine r_putI E fd_X11_173 rfl PI_int (Nat.le_of_ble_eq_true rfl) (adr_lt (Nat.le_of_ble_eq_true rfl)) rfl dX11_addsTest_37 ?_
  refine GG_toph fun h7 hh7 => ?_
  have hw := hw h7 hh7
  refine r_aload_n E 11 0 rfl dX11_addsTest_40 ?_
  refine r_getI E fd_X11_173 rfl (Nat.le_of_ble_eq_true rfl) (adr_lt (Nat.le_of_ble_eq_true rfl)) dX11_addsTest_41 ?_
  refine r_iconst E 1 rfl dX11_addsTest_44 ?_
  refine r_isub E dX11_addsTest_45 ?_
  exact hE _ _ _ _ _ _ (Nat.le_of_ble_eq_true rfl) (Nat.le_of_ble_eq_true rfl) dX11_addsTest_46 rfl hw
set_option maxRecDepth 20000 in
theorem m_X11_isTest {l : Launch} (hl : l.stackTraces = false) (G : Gq) (p0 : Int32)  (h : Hp) (Q : Int32 → Prop) (hw : wp_X11_isTest p0 h Q) : MI l G yX11_isTest cX11_isTest 2 (some .boolean) rm_X11_isTest NT NT h (fun r => [r 11 0, .int p0]) (fun r u => h = u ∧ isB r ∧ Q r) := by
  refine MI_of (L0 := (fun X => [some (rf X 11 0), some (.int p0)])) hl (by decide +kernel) rfl (fun _ => Nat.le_of_ble_eq_true rfl) (fun _ => rfl) fun X hXl hXG E hE => ?_
  subst hXl; subst hXG
  unfold wp_X11_isTest at hw
  refine r_iload_n E p0 rfl dX11_isTest_0 ?_
  refine r_iconst E 0 rfl dX11_isTest_1 ?_
  refine r_aload_n E 11 0 rfl dX11_isTest_2 ?_
  refine r_getI E fd_X11_173 rfl (Nat.le_of_ble_eq_true rfl) (adr_lt (Nat.le_of_ble_eq_true rfl)) dX11_isTest_3 ?_
  refine r_iconst E 1 rfl dX11_isTest_6 ?_
  refine r_isub E dX11_isTest_7 ?_
  refine r_callSI E (m_X11_in (EE_st E) (GX X) p0 0 ((gI h 11 0 19) - 1) h _ hw) lk_X11_142 (RM_mk (Nat.le_of_ble_eq_true rfl) (Nat.le_of_ble_eq_true rfl)) rfl rfl rfl rfl (Nat.le_of_ble_eq_true rfl) rfl rfl (Nat.le_of_ble_eq_true rfl) (Nat.le_of_ble_eq_true rfl) dX11_isTest_8 (fun r1 u9 hw => ?_)
  obtain ⟨rfl, zr1, hw⟩ := hw
  exact hE _ _ _ _ _ _ (Nat.le_of_ble_eq_true rfl) (Nat.le_of_ble_eq_true rfl) dX11_isTest_11 (isB_nar zr1) ⟨rfl, zr1, hw⟩
set_option maxRecDepth 20000 in
theorem t_X11_test_b55 {X : Ctx} (h : Hp)   (E : EE X cX11_test RX11 4 3 67 0 0) {Q : Int32 → Hp → Prop} (hE : ENDi X cX11_test .int Q NT 0 0)  (hw : wp_X11_test_b55  h  Q) : GG X 0 0 NT h [some (rf X 11 0), none, none, none] 55 [] := by
  unfold wp_X11_test_b55 at hw
  refine r_aload_n E 11 0 rfl dX11_test_55 ?_
  refine r_iconst E 2 rfl dX11_test_56 ?_
  refine r_callVI E (m_X11_fails (EE_st E) (GX X) 2 h _ hw) lk_X11_147 (RM_mk (Nat.le_of_ble_eq_true rfl) (Nat.le_of_ble_eq_true rfl)) rfl rfl rfl rfl (Nat.le_of_ble_eq_true rfl) (adr_lt (Nat.le_of_ble_eq_true rfl)) (Nat.le_of_ble_eq_true rfl) rfl rfl (Nat.le_of_ble_eq_true rfl) (Nat.le_of_ble_eq_true rfl) dX11_test_57 (fun r1 h2 hw => ?_)
  exact hE _ _ _ _ _ _ (Nat.le_of_ble_eq_true rfl) (Nat.le_of_ble_eq_true rfl) dX11_test_60 rfl hw
set_option maxRecDepth 20000 in
theorem t_X11_test_b61 {X : Ctx} (h : Hp) (x1 : Int32) (x2 : Int32) (x3 : Int32)  (E : EE X cX11_test RX11 4 3 67 0 0) {Q : Int32 → Hp → Prop} (hE : ENDi X cX11_test .int Q NT 0 0)  (hw : wp_X11_test_b61 x1 x2 x3 h  Q) : GG X 0 0 NT h [some (rf X 11 0), some (.int x1), some (.int x2), some (.int x3)] 61 [] := by
  unfold wp_X11_test_b61 at hw
  refine r_aload_n E 11 0 rfl dX11_test_61 ?_
  refine r_getI E fd_X11_173 rfl (Nat.le_of_ble_eq_true rfl) (adr_lt (Nat.le_of_ble_eq_true rfl)) dX11_test_62 ?_
  refine r_bipush E 60 rfl dX11_test_65 ?_
  refine r_icmp_ne E 78 (by decide) dX11_test_67 (fun c1 => ?_) (fun c1 => ?_)
  · have hw := ite_t hw c1
    refine r_aload_n E 11 0 rfl dX11_test_70 ?_
    refine r_iconst E 3 rfl dX11_test_71 ?_
    refine r_callVI E (m_X11_fails (EE_st E) (GX X) 3 h _ hw) lk_X11_147 (RM_mk (Nat.le_of_ble_eq_true rfl) (Nat.le_of_ble_eq_true rfl)) rfl rfl rfl rfl (Nat.le_of_ble_eq_true rfl) (adr_lt (Nat.le_of_ble_eq_true rfl)) (Nat.le_of_ble_eq_true rfl) rfl rfl (Nat.le_of_ble_eq_true rfl) (Nat.le_of_ble_eq_true rfl) dX11_test_72 (fun r2 h3 hw => ?_)
    refine r_goto E 85 (by decide) dX11_test_75 ?_
    exact hE _ _ _ _ _ _ (Nat.le_of_ble_eq_true rfl) (Nat.le_of_ble_eq_true rfl) dX11_test_85 rfl hw
  · have hw := ite_f hw c1
    refine r_aload_n E 11 0 rfl dX11_test_78 ?_
    refine r_iload_n E x1 rfl dX11_test_79 ?_
    refine r_iload_n E x2 rfl dX11_test_80 ?_
    refine r_iload_n E x3 rfl dX11_test_81 ?_
    refine r_callVI E (m_X11_addsTest (EE_st E) (GX X) x1 x2 x3 h _ hw) lk_X11_183 (RM_mk (Nat.le_of_ble_eq_true rfl) (Nat.le_of_ble_eq_true rfl)) rfl rfl rfl rfl (Nat.le_of_ble_eq_true rfl) (adr_lt (Nat.le_of_ble_eq_true rfl)) (Nat.le_of_ble_eq_true rfl) rfl rfl (Nat.le_of_ble_eq_true rfl) (Nat.le_of_ble_eq_true rfl) dX11_test_82 (fun r4 h5 hw => ?_)
    exact hE _ _ _ _ _ _ (Nat.le_of_ble_eq_true rfl) (Nat.le_of_ble_eq_true rfl) dX11_test_85 rfl hw
set_option maxRecDepth 20000 in
theorem t_X11_test_b40 {X : Ctx} (h : Hp) (x1 : Int32) (x2 : Int32) (x3 : Int32)  (E : EE X cX11_test RX11 4 3 67 0 0) {Q : Int32 → Hp → Prop} (hE : ENDi X cX11_test .int Q NT 0 0)  (hw : wp_X11_test_b40 x1 x2 x3 h  Q) : GG X 0 0 NT h [some (rf X 11 0), some (.int x1), some (.int x2), some (.int x3)] 40 [] := by
  unfold wp_X11_test_b40 at hw
  refine r_iload_n E x1 rfl dX11_test_40 ?_
  refine r_callSI E (m_X11_isPair (EE_st E) (GX X) x1 h _ hw) lk_X11_169 (RM_mk (Nat.le_of_ble_eq_true rfl) (Nat.le_of_ble_eq_true rfl)) rfl rfl rfl rfl (Nat.le_of_ble_eq_true rfl) rfl rfl (Nat.le_of_ble_eq_true rfl) (Nat.le_of_ble_eq_true rfl) dX11_test_41 (fun r1 u9 hw => ?_)
  obtain ⟨rfl, zr1, hw⟩ := hw
  refine r_if_eq E 61 (by decide) dX11_test_44 (fun c2 => ?_) (fun c2 => ?_)
  · have hw := ite_t hw c2
    exact GG_weak [true, true, true, true] rfl (t_X11_test_b61 h x1 x2 x3 E hE  hw)
  · have hw := ite_f hw c2
    refine r_aload_n E 11 0 rfl dX11_test_47 ?_
    refine r_iload_n E x3 rfl dX11_test_48 ?_
    refine r_callVI E (m_X11_isTest (EE_st E) (GX X) x3 h _ hw) lk_X11_180 (RM_mk (Nat.le_of_ble_eq_true rfl) (Nat.le_of_ble_eq_true rfl)) rfl rfl rfl rfl (Nat.le_of_ble_eq_true rfl) (adr_lt (Nat.le_of_ble_eq_true rfl)) (Nat.le_of_ble_eq_true rfl) rfl rfl (Nat.le_of_ble_eq_true rfl) (Nat.le_of_ble_eq_true rfl) dX11_test_49 (fun r3 u9 hw => ?_)
    obtain ⟨rfl, zr3, hw⟩ := hw
    refine r_if_ne E 61 (by decide) dX11_test_52 (fun c4 => ?_) (fun c4 => ?_)
    · have hw := ite_t hw c4
      exact GG_weak [true, false, false, false] rfl (t_X11_test_b55 h  E hE  hw)
    · have hw := ite_f hw c4
      exact GG_weak [true, true, true, true] rfl (t_X11_test_b61 h x1 x2 x3 E hE  hw)
set_option maxRecDepth 20000 in
theorem t_X11_test_b32 {X : Ctx} (h : Hp) (x1 : Int32) (x2 : Int32) (x3 : Int32)  (E : EE X cX11_test RX11 4 3 67 0 0) {Q : Int32 → Hp → Prop} (hE : ENDi X cX11_test .int Q NT 0 0)  (hw : wp_X11_test_b32 x1 x2 x3 h  Q) : GG X 0 0 NT h [some (rf X 11 0), some (.int x1), some (.int x2), some (.int x3)] 32 [] := by
  unfold wp_X11_test_b32 at hw
  refine r_aload_n E 11 0 rfl dX11_test_32 ?_
  refine r_iload_n E x2 rfl dX11_test_33 ?_
  refine r_callVI E (m_X11_isTest (EE_st E) (GX X) x2 h _ hw) lk_X11_180 (RM_mk (Nat.le_of_ble_eq_true rfl) (Nat.le_of_ble_eq_true rfl)) rfl rfl rfl rfl (Nat.le_of_ble_eq_true rfl) (adr_lt (Nat.le_of_ble_eq_true rfl)) (Nat.le_of_ble_eq_true rfl) rfl rfl (Nat.le_of_ble_eq_true rfl) (Nat.le_of_ble_eq_true rfl) dX11_test_34 (fun r1 u9 hw => ?_)
  obtain ⟨rfl, zr1, hw⟩ := hw
  refine r_if_eq E 55 (by decide) dX11_test_37 (fun c2 => ?_) (fun c2 => ?_)
  · have hw := ite_t hw c2
    exact GG_weak [true, false, false, false] rfl (t_X11_test_b55 h  E hE  hw)
  · have hw := ite_f hw c2
    exact GG_weak [true, true, true, true] rfl (t_X11_test_b40 h x1 x2 x3 E hE  hw)
set_option maxRecDepth 20000 in
theorem m_X11_test {l : Launch} (hl : l.stackTraces = false) (G : Gq) (p0 : Int32) (p1 : Int32) (p2 : Int32)  (h : Hp) (Q : Int32 → Hp → Prop) (hw : wp_X11_test p0 p1 p2 h Q) : MI l G yX11_test cX11_test 4 (some .int) rm_X11_test NT NT h (fun r => [r 11 0, .int p0, .int p1, .int p2]) Q := by
  refine MI_of (L0 := (fun X => [some (rf X 11 0), some (.int p0), some (.int p1), some (.int p2)])) hl (by decide +kernel) rfl (fun _ => Nat.le_of_ble_eq_true rfl) (fun _ => rfl) fun X hXl hXG E hE => ?_
  subst hXl; subst hXG
  unfold wp_X11_test at hw
  refine r_aload_n E 11 0 rfl dX11_test_0 ?_
  refine r_iconst E 0 rfl dX11_test_1 ?_
  refine r_putI E fd_X11_138 rfl PI_int (Nat.le_of_ble_eq_true rfl) (adr_lt (Nat.le_of_ble_eq_true rfl)) rfl dX11_test_2 ?_
  refine GG_toph fun h1 hh1 => ?_
  have hw := hw h1 hh1
  refine r_iload_n E p0 rfl dX11_test_5 ?_
  refine r_iload_n E p1 rfl dX11_test_6 ?_
  refine r_callSI E (m_X11_isTold (EE_st E) (GX X) p0 p1 h1 _ hw) lk_X11_176 (RM_mk (Nat.le_of_ble_eq_true rfl) (Nat.le_of_ble_eq_true rfl)) rfl rfl rfl rfl (Nat.le_of_ble_eq_true rfl) rfl rfl (Nat.le_of_ble_eq_true rfl) (Nat.le_of_ble_eq_true rfl) dX11_test_7 (fun r2 u9 hw => ?_)
  obtain ⟨rfl, zr2, hw⟩ := hw
  refine r_if_ne E 19 (by decide) dX11_test_10 (fun c3 => ?_) (fun c3 => ?_)
  · have hw := ite_t hw c3
    refine r_aload_n E 11 0 rfl dX11_test_13 ?_
    refine r_iconst E 1 rfl dX11_test_14 ?_
    refine r_callVI E (m_X11_fails (EE_st E) (GX X) 1 h1 _ hw) lk_X11_147 (RM_mk (Nat.le_of_ble_eq_true rfl) (Nat.le_of_ble_eq_true rfl)) rfl rfl rfl rfl (Nat.le_of_ble_eq_true rfl) (adr_lt (Nat.le_of_ble_eq_true rfl)) (Nat.le_of_ble_eq_true rfl) rfl rfl (Nat.le_of_ble_eq_true rfl) (Nat.le_of_ble_eq_true rfl) dX11_test_15 (fun r4 h5 hw => ?_)
    exact hE _ _ _ _ _ _ (Nat.le_of_ble_eq_true rfl) (Nat.le_of_ble_eq_true rfl) dX11_test_18 rfl hw
  · have hw := ite_f hw c3
    refine r_iload_n E p0 rfl dX11_test_19 ?_
    refine r_bipush E 33 rfl dX11_test_20 ?_
    refine r_icmp_eq E 32 (by decide) dX11_test_22 (fun c6 => ?_) (fun c6 => ?_)
    · have hw := ite_t hw c6
      exact GG_weak [true, true, true, true] rfl (t_X11_test_b32 h1 p0 p1 p2 E hE  hw)
    · have hw := ite_f hw c6
      refine r_iload_n E p0 rfl dX11_test_25 ?_
      refine r_callSI E (m_X11_isPair (EE_st E) (GX X) p0 h1 _ hw) lk_X11_169 (RM_mk (Nat.le_of_ble_eq_true rfl) (Nat.le_of_ble_eq_true rfl)) rfl rfl rfl rfl (Nat.le_of_ble_eq_true rfl) rfl rfl (Nat.le_of_ble_eq_true rfl) (Nat.le_of_ble_eq_true rfl) dX11_test_26 (fun r7 u9 hw => ?_)
      obtain ⟨rfl, zr7, hw⟩ := hw
      refine r_if_eq E 40 (by decide) dX11_test_29 (fun c8 => ?_) (fun c8 => ?_)
      · have hw := ite_t hw c8
        exact GG_weak [true, true, true, true] rfl (t_X11_test_b40 h1 p0 p1 p2 E hE  hw)
      · have hw := ite_f hw c8
        exact GG_weak [true, true, true, true] rfl (t_X11_test_b32 h1 p0 p1 p2 E hE  hw)
set_option maxRecDepth 20000 in
theorem t_X11_bits_b4F {X : Ctx} (h : Hp) (x0 : Int32) (x1 : Int32) (x2 : Int32)  (E : EE X cX11_bits RX11 3 1 24 0 0) {Q : Int32 → Prop} (hE : ENDi X cX11_bits .int (fun r u => h = u ∧ Q r) NT 0 0)  (P4 : Int32 → Int32 → Prop) (hP4 : ∀ (y1 : Int32) (y2 : Int32), P4 y1 y2 → GG X 0 0 NT h [some (.int x0), some (.int y1), some (.int y2)] 4 []) (hw : wp_X11_bits_b4F x0 h  Q P4 x1 x2 ) : GG X 0 0 NT h [some (.int x0), some (.int x1), some (.int x2)] 4 [] := by
  unfold wp_X11_bits_b4F at hw
  refine r_iload_n E x2 rfl dX11_bits_4 ?_
  refine r_bipush E 16 rfl dX11_bits_5 ?_
  refine r_icmp_ge E 24 (by decide) dX11_bits_7 (fun c1 => ?_) (fun c1 => ?_)
  · have hw := ite_t hw c1
    refine r_iload_n E x1 rfl dX11_bits_24 ?_
    exact hE _ _ _ _ _ _ (Nat.le_of_ble_eq_true rfl) (Nat.le_of_ble_eq_true rfl) dX11_bits_25 rfl ⟨rfl, hw⟩
  · have hw := ite_f hw c1
    refine r_iload_n E x1 rfl dX11_bits_10 ?_
    refine r_iload_n E x0 rfl dX11_bits_11 ?_
    refine r_iload_n E x2 rfl dX11_bits_12 ?_
    refine r_ishr E dX11_bits_13 ?_
    refine r_iconst E 1 rfl dX11_bits_14 ?_
    refine r_iand E dX11_bits_15 ?_
    refine r_iadd E dX11_bits_16 ?_
    refine GG_topI fun v2 hv2 => ?_
    have hw := hw v2 hv2
    refine r_istore_n E [some (.int x0), some (.int v2), some (.int x2)] rfl (Nat.le_of_ble_eq_true rfl) rfl dX11_bits_17 ?_
    obtain ⟨v3, hv3⟩ : ∃ y : Int32, y = x2 + 1 := ⟨_, rfl⟩
    have hw := hw v3 hv3
    refine r_iinc E x2 v3 [some (.int x0), some (.int v2), some (.int v3)] rfl (by rw [hv3]; rfl) (Nat.le_of_ble_eq_true rfl) rfl dX11_bits_18 ?_
    refine r_goto E 4 (by decide) dX11_bits_21 ?_
    exact GG_weak [true, true, true] rfl (hP4 _ _ hw)
set_option maxRecDepth 20000 in
theorem t_X11_bits_b4 {X : Ctx} (h : Hp) (x0 : Int32) (x1 : Int32) (x2 : Int32)  (E : EE X cX11_bits RX11 3 1 24 0 0) {Q : Int32 → Prop} (hE : ENDi X cX11_bits .int (fun r u => h = u ∧ Q r) NT 0 0)  (hw : wp_X11_bits_b4 x0 x1 x2 h  Q) : GG X 0 0 NT h [some (.int x0), some (.int x1), some (.int x2)] 4 [] :=
  hw (fun y1 y2  => GG X 0 0 NT h [some (.int x0), some (.int y1), some (.int y2)] 4 []) (fun y1 y2  hq => t_X11_bits_b4F h x0 y1 y2  E hE  (fun y1 y2  => GG X 0 0 NT h [some (.int x0), some (.int y1), some (.int y2)] 4 []) (fun y1 y2  q => q) hq)
set_option maxRecDepth 20000 in
theorem m_X11_bits {l : Launch} (hl : l.stackTraces = false) (G : Gq) (p0 : Int32)  (h : Hp) (Q : Int32 → Prop) (hw : wp_X11_bits p0 h Q) : MI l G yX11_bits cX11_bits 3 (some .int) rm_X11_bits NT NT h (fun r => [.int p0]) (fun r u => h = u ∧ Q r) := by
  refine MI_of (L0 := (fun X => [some (.int p0), none, none])) hl (by decide +kernel) rfl (fun _ => Nat.le_of_ble_eq_true rfl) (fun _ => rfl) fun X hXl hXG E hE => ?_
  subst hXl; subst hXG
  unfold wp_X11_bits at hw
  refine r_iconst E 0 rfl dX11_bits_0 ?_
  refine r_istore_n E [some (.int p0), some (.int 0), none] rfl (Nat.le_of_ble_eq_true rfl) rfl dX11_bits_1 ?_
  refine r_iconst E 0 rfl dX11_bits_2 ?_
  refine r_istore_n E [some (.int p0), some (.int 0), some (.int 0)] rfl (Nat.le_of_ble_eq_true rfl) rfl dX11_bits_3 ?_
  exact GG_weak [true, true, true] rfl (t_X11_bits_b4 h p0 0 0 E hE  hw)
set_option maxRecDepth 20000 in
theorem m_X11_ofMail {l : Launch} (hl : l.stackTraces = false) (G : Gq) (p0 : Int32) (p1 : Int32) (p2 : Int32)  (h : Hp) (Q : Int32 → Prop) (hw : wp_X11_ofMail p0 p1 p2 h Q) : MI l G yX11_ofMail cX11_ofMail 4 (some .boolean) rm_X11_ofMail NT NT h (fun r => [r 11 0, .int p0, .int p1, .int p2]) (fun r u => h = u ∧ isB r ∧ Q r) := by
  refine MI_of (L0 := (fun X => [some (rf X 11 0), some (.int p0), some (.int p1), some (.int p2)])) hl (by decide +kernel) rfl (fun _ => Nat.le_of_ble_eq_true rfl) (fun _ => rfl) fun X hXl hXG E hE => ?_
  subst hXl; subst hXG
  unfold wp_X11_ofMail at hw
  refine r_iload_n E p0 rfl dX11_ofMail_0 ?_
  rcases Decidable.em (p0 = 98) with c1 | c1
  · have hw := ite_t hw c1
    refine r_lookup E (off := 115) 116 dX11_ofMail_1 (by decide) (by rw [c1]; rfl) (by decide) ?_
    refine r_aload_n E 11 0 rfl dX11_ofMail_116 ?_
    refine r_getS E fd_X11_19 (t := 0) (j1 := 36) rfl rfl rfl rfl (Nat.le_of_ble_eq_true rfl) (adr_lt (Nat.le_of_ble_eq_true rfl)) dX11_ofMail_117 ?_
    refine r_iload_n E p2 rfl dX11_ofMail_120 ?_
    obtain ⟨i2, hw⟩ := hw
    refine r_iald E rfl rfl rfl (Nat.le_of_ble_eq_true rfl) (adr_lt (Nat.le_of_ble_eq_true rfl)) i2 dX11_ofMail_121 ?_
    refine r_iload_n E p1 rfl dX11_ofMail_122 ?_
    refine r_ishr E dX11_ofMail_123 ?_
    refine r_iconst E 1 rfl dX11_ofMail_124 ?_
    refine r_iand E dX11_ofMail_125 ?_
    refine r_iconst E 1 rfl dX11_ofMail_126 ?_
    refine r_icmp_ne E 134 (by decide) dX11_ofMail_127 (fun c3 => ?_) (fun c3 => ?_)
    · have hw := ite_t hw c3
      refine r_iconst E 1 rfl dX11_ofMail_130 ?_
      refine r_goto E 135 (by decide) dX11_ofMail_131 ?_
      exact hE _ _ _ _ _ _ (Nat.le_of_ble_eq_true rfl) (Nat.le_of_ble_eq_true rfl) dX11_ofMail_135 (isB_nar isB_1) ⟨rfl, isB_1, hw⟩
    · have hw := ite_f hw c3
      refine r_iconst E 0 rfl dX11_ofMail_134 ?_
      exact hE _ _ _ _ _ _ (Nat.le_of_ble_eq_true rfl) (Nat.le_of_ble_eq_true rfl) dX11_ofMail_135 (isB_nar isB_0) ⟨rfl, isB_0, hw⟩
  · have hw := ite_f hw c1
    rcases Decidable.em (p0 = 100) with c4 | c4
    · have hw := ite_t hw c4
      refine r_lookup E (off := 151) 152 dX11_ofMail_1 (by decide) (by rw [c4]; rfl) (by decide) ?_
      refine r_aload_n E 11 0 rfl dX11_ofMail_152 ?_
      refine r_getS E fd_X11_25 (t := 0) (j1 := 38) rfl rfl rfl rfl (Nat.le_of_ble_eq_true rfl) (adr_lt (Nat.le_of_ble_eq_true rfl)) dX11_ofMail_153 ?_
      refine r_iload_n E p2 rfl dX11_ofMail_156 ?_
      obtain ⟨i5, hw⟩ := hw
      refine r_iald E rfl rfl rfl (Nat.le_of_ble_eq_true rfl) (adr_lt (Nat.le_of_ble_eq_true rfl)) i5 dX11_ofMail_157 ?_
      refine r_bipush E 7 rfl dX11_ofMail_158 ?_
      refine r_irem E (by decide) dX11_ofMail_160 ?_
      refine r_iload_n E p1 rfl dX11_ofMail_161 ?_
      refine r_icmp_ne E 169 (by decide) dX11_ofMail_162 (fun c6 => ?_) (fun c6 => ?_)
      · have hw := ite_t hw c6
        refine r_iconst E 1 rfl dX11_ofMail_165 ?_
        refine r_goto E 170 (by decide) dX11_ofMail_166 ?_
        exact hE _ _ _ _ _ _ (Nat.le_of_ble_eq_true rfl) (Nat.le_of_ble_eq_true rfl) dX11_ofMail_170 (isB_nar isB_1) ⟨rfl, isB_1, hw⟩
      · have hw := ite_f hw c6
        refine r_iconst E 0 rfl dX11_ofMail_169 ?_
        exact hE _ _ _ _ _ _ (Nat.le_of_ble_eq_true rfl) (Nat.le_of_ble_eq_true rfl) dX11_ofMail_170 (isB_nar isB_0) ⟨rfl, isB_0, hw⟩
    · have hw := ite_f hw c4
      rcases Decidable.em (p0 = 102) with c7 | c7
      · have hw := ite_t hw c7
        refine r_lookup E (off := 59) 60 dX11_ofMail_1 (by decide) (by rw [c7]; rfl) (by decide) ?_
        refine r_aload_n E 11 0 rfl dX11_ofMail_60 ?_
        refine r_getS E fd_X11_7 (t := 0) (j1 := 33) rfl rfl rfl rfl (Nat.le_of_ble_eq_true rfl) (adr_lt (Nat.le_of_ble_eq_true rfl)) dX11_ofMail_61 ?_
        refine r_iload_n E p2 rfl dX11_ofMail_64 ?_
        obtain ⟨i8, hw⟩ := hw
        refine r_iald E rfl rfl rfl (Nat.le_of_ble_eq_true rfl) (adr_lt (Nat.le_of_ble_eq_true rfl)) i8 dX11_ofMail_65 ?_
        refine r_iload_n E p1 rfl dX11_ofMail_66 ?_
        refine r_icmp_ne E 74 (by decide) dX11_ofMail_67 (fun c9 => ?_) (fun c9 => ?_)
        · have hw := ite_t hw c9
          refine r_iconst E 1 rfl dX11_ofMail_70 ?_
          refine r_goto E 75 (by decide) dX11_ofMail_71 ?_
          exact hE _ _ _ _ _ _ (Nat.le_of_ble_eq_true rfl) (Nat.le_of_ble_eq_true rfl) dX11_ofMail_75 (isB_nar isB_1) ⟨rfl, isB_1, hw⟩
        · have hw := ite_f hw c9
          refine r_iconst E 0 rfl dX11_ofMail_74 ?_
          exact hE _ _ _ _ _ _ (Nat.le_of_ble_eq_true rfl) (Nat.le_of_ble_eq_true rfl) dX11_ofMail_75 (isB_nar isB_0) ⟨rfl, isB_0, hw⟩
      · have hw := ite_f hw c7
        rcases Decidable.em (p0 = 115) with c10 | c10
        · have hw := ite_t hw c10
          refine r_lookup E (off := 95) 96 dX11_ofMail_1 (by decide) (by rw [c10]; rfl) (by decide) ?_
          refine r_aload_n E 11 0 rfl dX11_ofMail_96 ?_
          refine r_getS E fd_X11_16 (t := 0) (j1 := 35) rfl rfl rfl rfl (Nat.le_of_ble_eq_true rfl) (adr_lt (Nat.le_of_ble_eq_true rfl)) dX11_ofMail_97 ?_
          refine r_iload_n E p2 rfl dX11_ofMail_100 ?_
          obtain ⟨i11, hw⟩ := hw
          refine r_iald E rfl rfl rfl (Nat.le_of_ble_eq_true rfl) (adr_lt (Nat.le_of_ble_eq_true rfl)) i11 dX11_ofMail_101 ?_
          refine r_iload_n E p1 rfl dX11_ofMail_102 ?_
          refine r_ishr E dX11_ofMail_103 ?_
          refine r_iconst E 1 rfl dX11_ofMail_104 ?_
          refine r_iand E dX11_ofMail_105 ?_
          refine r_iconst E 1 rfl dX11_ofMail_106 ?_
          refine r_icmp_ne E 114 (by decide) dX11_ofMail_107 (fun c12 => ?_) (fun c12 => ?_)
          · have hw := ite_t hw c12
            refine r_iconst E 1 rfl dX11_ofMail_110 ?_
            refine r_goto E 115 (by decide) dX11_ofMail_111 ?_
            exact hE _ _ _ _ _ _ (Nat.le_of_ble_eq_true rfl) (Nat.le_of_ble_eq_true rfl) dX11_ofMail_115 (isB_nar isB_1) ⟨rfl, isB_1, hw⟩
          · have hw := ite_f hw c12
            refine r_iconst E 0 rfl dX11_ofMail_114 ?_
            exact hE _ _ _ _ _ _ (Nat.le_of_ble_eq_true rfl) (Nat.le_of_ble_eq_true rfl) dX11_ofMail_115 (isB_nar isB_0) ⟨rfl, isB_0, hw⟩
        · have hw := ite_f hw c10
          rcases Decidable.em (p0 = 116) with c13 | c13
          · have hw := ite_t hw c13
            refine r_lookup E (off := 75) 76 dX11_ofMail_1 (by decide) (by rw [c13]; rfl) (by decide) ?_
            refine r_aload_n E 11 0 rfl dX11_ofMail_76 ?_
            refine r_getS E fd_X11_13 (t := 0) (j1 := 34) rfl rfl rfl rfl (Nat.le_of_ble_eq_true rfl) (adr_lt (Nat.le_of_ble_eq_true rfl)) dX11_ofMail_77 ?_
            refine r_iload_n E p2 rfl dX11_ofMail_80 ?_
            obtain ⟨i14, hw⟩ := hw
            refine r_iald E rfl rfl rfl (Nat.le_of_ble_eq_true rfl) (adr_lt (Nat.le_of_ble_eq_true rfl)) i14 dX11_ofMail_81 ?_
            refine r_iload_n E p1 rfl dX11_ofMail_82 ?_
            refine r_ishr E dX11_ofMail_83 ?_
            refine r_iconst E 1 rfl dX11_ofMail_84 ?_
            refine r_iand E dX11_ofMail_85 ?_
            refine r_iconst E 1 rfl dX11_ofMail_86 ?_
            refine r_icmp_ne E 94 (by decide) dX11_ofMail_87 (fun c15 => ?_) (fun c15 => ?_)
            · have hw := ite_t hw c15
              refine r_iconst E 1 rfl dX11_ofMail_90 ?_
              refine r_goto E 95 (by decide) dX11_ofMail_91 ?_
              exact hE _ _ _ _ _ _ (Nat.le_of_ble_eq_true rfl) (Nat.le_of_ble_eq_true rfl) dX11_ofMail_95 (isB_nar isB_1) ⟨rfl, isB_1, hw⟩
            · have hw := ite_f hw c15
              refine r_iconst E 0 rfl dX11_ofMail_94 ?_
              exact hE _ _ _ _ _ _ (Nat.le_of_ble_eq_true rfl) (Nat.le_of_ble_eq_true rfl) dX11_ofMail_95 (isB_nar isB_0) ⟨rfl, isB_0, hw⟩
          · have hw := ite_f hw c13
            rcases Decidable.em (p0 = 122) with c16 | c16
            · have hw := ite_t hw c16
              refine r_lookup E (off := 135) 136 dX11_ofMail_1 (by decide) (by rw [c16]; rfl) (by decide) ?_
              refine r_aload_n E 11 0 rfl dX11_ofMail_136 ?_
              refine r_getS E fd_X11_22 (t := 0) (j1 := 37) rfl rfl rfl rfl (Nat.le_of_ble_eq_true rfl) (adr_lt (Nat.le_of_ble_eq_true rfl)) dX11_ofMail_137 ?_
              refine r_iload_n E p2 rfl dX11_ofMail_140 ?_
              obtain ⟨i17, hw⟩ := hw
              refine r_iald E rfl rfl rfl (Nat.le_of_ble_eq_true rfl) (adr_lt (Nat.le_of_ble_eq_true rfl)) i17 dX11_ofMail_141 ?_
              refine r_iload_n E p1 rfl dX11_ofMail_142 ?_
              refine r_icmp_le E 150 (by decide) dX11_ofMail_143 (fun c18 => ?_) (fun c18 => ?_)
              · have hw := ite_t hw c18
                refine r_iconst E 0 rfl dX11_ofMail_150 ?_
                exact hE _ _ _ _ _ _ (Nat.le_of_ble_eq_true rfl) (Nat.le_of_ble_eq_true rfl) dX11_ofMail_151 (isB_nar isB_0) ⟨rfl, isB_0, hw⟩
              · have hw := ite_f hw c18
                refine r_iconst E 1 rfl dX11_ofMail_146 ?_
                refine r_goto E 151 (by decide) dX11_ofMail_147 ?_
                exact hE _ _ _ _ _ _ (Nat.le_of_ble_eq_true rfl) (Nat.le_of_ble_eq_true rfl) dX11_ofMail_151 (isB_nar isB_1) ⟨rfl, isB_1, hw⟩
            · have hw := ite_f hw c16
              refine r_lookup E (off := 170) 171 dX11_ofMail_1 (by decide) (by show Op.lookupswitch.offset [(98, 115), (100, 151), (102, 59), (115, 95), (116, 75), (122, 135)] 170 _ = 170; rw [lv_osw (a := 98) c1 rfl, lv_osw (a := 100) c4 rfl, lv_osw (a := 102) c7 rfl, lv_osw (a := 115) c10 rfl, lv_osw (a := 116) c13 rfl, lv_osw (a := 122) c16 rfl]; rfl) (by decide) ?_
              refine r_iload_n E p0 rfl dX11_ofMail_171 ?_
              refine r_bipush E 110 rfl dX11_ofMail_172 ?_
              refine r_icmp_ne E 194 (by decide) dX11_ofMail_174 (fun c19 => ?_) (fun c19 => ?_)
              · have hw := ite_t hw c19
                refine r_aload_n E 11 0 rfl dX11_ofMail_177 ?_
                refine r_getS E fd_X11_13 (t := 0) (j1 := 34) rfl rfl rfl rfl (Nat.le_of_ble_eq_true rfl) (adr_lt (Nat.le_of_ble_eq_true rfl)) dX11_ofMail_178 ?_
                refine r_iload_n E p2 rfl dX11_ofMail_181 ?_
                obtain ⟨i20, hw⟩ := hw
                refine r_iald E rfl rfl rfl (Nat.le_of_ble_eq_true rfl) (adr_lt (Nat.le_of_ble_eq_true rfl)) i20 dX11_ofMail_182 ?_
                refine r_callSI E (m_X11_bits (EE_st E) (GX X) (gI h 34 0 p2.toNatClampNeg) h _ hw) lk_X11_187 (RM_mk (Nat.le_of_ble_eq_true rfl) (Nat.le_of_ble_eq_true rfl)) rfl rfl rfl rfl (Nat.le_of_ble_eq_true rfl) rfl rfl (Nat.le_of_ble_eq_true rfl) (Nat.le_of_ble_eq_true rfl) dX11_ofMail_183 (fun r21 u9 hw => ?_)
                obtain ⟨rfl, hw⟩ := hw
                refine r_iload_n E p1 rfl dX11_ofMail_186 ?_
                refine r_icmp_lt E 194 (by decide) dX11_ofMail_187 (fun c22 => ?_) (fun c22 => ?_)
                · have hw := ite_t hw c22
                  refine r_iconst E 0 rfl dX11_ofMail_194 ?_
                  exact hE _ _ _ _ _ _ (Nat.le_of_ble_eq_true rfl) (Nat.le_of_ble_eq_true rfl) dX11_ofMail_195 (isB_nar isB_0) ⟨rfl, isB_0, hw⟩
                · have hw := ite_f hw c22
                  refine r_iconst E 1 rfl dX11_ofMail_190 ?_
                  refine r_goto E 195 (by decide) dX11_ofMail_191 ?_
                  exact hE _ _ _ _ _ _ (Nat.le_of_ble_eq_true rfl) (Nat.le_of_ble_eq_true rfl) dX11_ofMail_195 (isB_nar isB_1) ⟨rfl, isB_1, hw⟩
              · have hw := ite_f hw c19
                refine r_iconst E 0 rfl dX11_ofMail_194 ?_
                exact hE _ _ _ _ _ _ (Nat.le_of_ble_eq_true rfl) (Nat.le_of_ble_eq_true rfl) dX11_ofMail_195 (isB_nar isB_0) ⟨rfl, isB_0, hw⟩
set_option maxRecDepth 20000 in
theorem t_X11_holding_b202 {X : Ctx} (h : Hp) (x1 : Int32) (x2 : Int32) (x3 : Int32) (x4 : Int32) (s1 : Int32) (s2 : Int32)  (E : EE X cX11_holding RX11 7 3 69 0 0) {Q : Int32 → Hp → Prop} (hE : ENDi X cX11_holding .boolean (fun r u => isB r ∧ Q r u) NT 0 0) (P3 : Int32 → Hp → Prop) (hP3 : ∀ (y4 : Int32) (u : Hp), P3 y4 u → GG X 0 0 NT u [some (rf X 11 0), some (.int x1), some (.int x2), some (.int x3), some (.int y4), none, none] 3 []) (hw : wp_X11_holding_b202 x1 x2 x3 x4 s1 s2 h P3 Q) : GG X 0 0 NT h [some (rf X 11 0), some (.int x1), some (.int x2), some (.int x3), some (.int x4), none, none] 202 [.int s2, .int s1, rf X 52 0] := by
  unfold wp_X11_holding_b202 at hw
  obtain ⟨i1, hw⟩ := hw
  refine r_zast E rfl rfl rfl (Nat.le_of_ble_eq_true rfl) (adr_lt (Nat.le_of_ble_eq_true rfl)) i1 rfl dX11_holding_202 ?_
  refine GG_toph fun h2 hh2 => ?_
  have hw := hw h2 hh2
  obtain ⟨v3, hv3⟩ : ∃ y : Int32, y = x4 + 1 := ⟨_, rfl⟩
  have hw := hw v3 hv3
  refine r_iinc E x4 v3 [some (rf X 11 0), some (.int x1), some (.int x2), some (.int x3), some (.int v3), none, none] rfl (by rw [hv3]; rfl) (Nat.le_of_ble_eq_true rfl) rfl dX11_holding_203 ?_
  refine r_goto E 3 (by decide) dX11_holding_206 ?_
  exact GG_weak [true, true, true, true, true, false, false] rfl (hP3 _ _ hw)
set_option maxRecDepth 20000 in
theorem t_X11_holding_b192 {X : Ctx} (h : Hp) (x1 : Int32) (x2 : Int32) (x3 : Int32) (x4 : Int32) (s1 : Int32)  (E : EE X cX11_holding RX11 7 3 69 0 0) {Q : Int32 → Hp → Prop} (hE : ENDi X cX11_holding .boolean (fun r u => isB r ∧ Q r u) NT 0 0) (P3 : Int32 → Hp → Prop) (hP3 : ∀ (y4 : Int32) (u : Hp), P3 y4 u → GG X 0 0 NT u [some (rf X 11 0), some (.int x1), some (.int x2), some (.int x3), some (.int y4), none, none] 3 []) (hw : wp_X11_holding_b192 x1 x2 x3 x4 s1 h P3 Q) : GG X 0 0 NT h [some (rf X 11 0), some (.int x1), some (.int x2), some (.int x3), some (.int x4), none, none] 192 [.int s1, rf X 52 0] := by
  unfold wp_X11_holding_b192 at hw
  refine r_iconst E 1 rfl dX11_holding_192 ?_
  refine r_goto E 202 (by decide) dX11_holding_193 ?_
  exact GG_weak [true, true, true, true, true, false, false] rfl (t_X11_holding_b202 h x1 x2 x3 x4 s1 1 E hE P3 hP3  hw)
set_option maxRecDepth 20000 in
theorem t_X11_holding_b151 {X : Ctx} (h : Hp) (x1 : Int32) (x2 : Int32) (x3 : Int32) (x4 : Int32) (s1 : Int32)  (E : EE X cX11_holding RX11 7 3 69 0 0) {Q : Int32 → Hp → Prop} (hE : ENDi X cX11_holding .boolean (fun r u => isB r ∧ Q r u) NT 0 0) (P3 : Int32 → Hp → Prop) (hP3 : ∀ (y4 : Int32) (u : Hp), P3 y4 u → GG X 0 0 NT u [some (rf X 11 0), some (.int x1), some (.int x2), some (.int x3), some (.int y4), none, none] 3 []) (hw : wp_X11_holding_b151 x1 x2 x3 x4 s1 h P3 Q) : GG X 0 0 NT h [some (rf X 11 0), some (.int x1), some (.int x2), some (.int x3), some (.int x4), none, none] 151 [.int s1, rf X 52 0] := by
  unfold wp_X11_holding_b151 at hw
  refine r_iconst E 0 rfl dX11_holding_151 ?_
  refine r_goto E 202 (by decide) dX11_holding_152 ?_
  exact GG_weak [true, true, true, true, true, false, false] rfl (t_X11_holding_b202 h x1 x2 x3 x4 s1 0 E hE P3 hP3  hw)
set_option maxRecDepth 20000 in
theorem t_X11_holding_b72 {X : Ctx} (h : Hp) (x1 : Int32) (x2 : Int32) (x3 : Int32) (x4 : Int32) (x5 : Int32) (s0 : Int32)  (E : EE X cX11_holding RX11 7 3 69 0 0) {Q : Int32 → Hp → Prop} (hE : ENDi X cX11_holding .boolean (fun r u => isB r ∧ Q r u) NT 0 0) (P3 : Int32 → Hp → Prop) (hP3 : ∀ (y4 : Int32) (u : Hp), P3 y4 u → GG X 0 0 NT u [some (rf X 11 0), some (.int x1), some (.int x2), some (.int x3), some (.int y4), none, none] 3 []) (hw : wp_X11_holding_b72 x1 x2 x3 x4 x5 s0 h P3 Q) : GG X 0 0 NT h [some (rf X 11 0), some (.int x1), some (.int x2), some (.int x3), some (.int x4), some (.int x5), none] 72 [.int s0] := by
  unfold wp_X11_holding_b72 at hw
  refine r_istore E [some (rf X 11 0), some (.int x1), some (.int x2), some (.int x3), some (.int x4), some (.int x5), some (.int s0)] (Nat.le_of_ble_eq_true rfl) rfl dX11_holding_72 ?_
  refine r_aload_n E 11 0 rfl dX11_holding_74 ?_
  refine r_getS E fd_X11_69 (t := 0) (j1 := 52) rfl rfl rfl rfl (Nat.le_of_ble_eq_true rfl) (adr_lt (Nat.le_of_ble_eq_true rfl)) dX11_holding_75 ?_
  refine r_iload E x4 rfl dX11_holding_78 ?_
  refine r_iload E x5 rfl dX11_holding_80 ?_
  refine r_bipush E 33 rfl dX11_holding_82 ?_
  refine r_icmp_ne E 110 (by decide) dX11_holding_84 (fun c1 => ?_) (fun c1 => ?_)
  · have hw := ite_t hw c1
    refine r_aload_n E 11 0 rfl dX11_holding_87 ?_
    refine r_getS E fd_X11_69 (t := 0) (j1 := 52) rfl rfl rfl rfl (Nat.le_of_ble_eq_true rfl) (adr_lt (Nat.le_of_ble_eq_true rfl)) dX11_holding_88 ?_
    refine r_aload_n E 11 0 rfl dX11_holding_91 ?_
    refine r_getS E fd_X11_63 (t := 0) (j1 := 50) rfl rfl rfl rfl (Nat.le_of_ble_eq_true rfl) (adr_lt (Nat.le_of_ble_eq_true rfl)) dX11_holding_92 ?_
    refine r_iload E x4 rfl dX11_holding_95 ?_
    obtain ⟨i2, hw⟩ := hw
    refine r_iald E rfl rfl rfl (Nat.le_of_ble_eq_true rfl) (adr_lt (Nat.le_of_ble_eq_true rfl)) i2 dX11_holding_97 ?_
    obtain ⟨i3, hw⟩ := hw
    refine r_zald E rfl rfl rfl (Nat.le_of_ble_eq_true rfl) (adr_lt (Nat.le_of_ble_eq_true rfl)) i3 dX11_holding_98 ?_
    refine r_if_ne E 106 (by decide) dX11_holding_99 (fun c4 => ?_) (fun c4 => ?_)
    · have hw := ite_t hw c4
      refine r_iconst E 1 rfl dX11_holding_102 ?_
      refine r_goto E 202 (by decide) dX11_holding_103 ?_
      exact GG_weak [true, true, true, true, true, false, false] rfl (t_X11_holding_b202 h x1 x2 x3 x4 x4 1 E hE P3 hP3  hw)
    · have hw := ite_f hw c4
      refine r_iconst E 0 rfl dX11_holding_106 ?_
      refine r_goto E 202 (by decide) dX11_holding_107 ?_
      exact GG_weak [true, true, true, true, true, false, false] rfl (t_X11_holding_b202 h x1 x2 x3 x4 x4 0 E hE P3 hP3  hw)
  · have hw := ite_f hw c1
    refine r_iload E x5 rfl dX11_holding_110 ?_
    refine r_bipush E 38 rfl dX11_holding_112 ?_
    refine r_icmp_ne E 155 (by decide) dX11_holding_114 (fun c5 => ?_) (fun c5 => ?_)
    · have hw := ite_t hw c5
      refine r_aload_n E 11 0 rfl dX11_holding_117 ?_
      refine r_getS E fd_X11_69 (t := 0) (j1 := 52) rfl rfl rfl rfl (Nat.le_of_ble_eq_true rfl) (adr_lt (Nat.le_of_ble_eq_true rfl)) dX11_holding_118 ?_
      refine r_aload_n E 11 0 rfl dX11_holding_121 ?_
      refine r_getS E fd_X11_63 (t := 0) (j1 := 50) rfl rfl rfl rfl (Nat.le_of_ble_eq_true rfl) (adr_lt (Nat.le_of_ble_eq_true rfl)) dX11_holding_122 ?_
      refine r_iload E x4 rfl dX11_holding_125 ?_
      obtain ⟨i6, hw⟩ := hw
      refine r_iald E rfl rfl rfl (Nat.le_of_ble_eq_true rfl) (adr_lt (Nat.le_of_ble_eq_true rfl)) i6 dX11_holding_127 ?_
      obtain ⟨i7, hw⟩ := hw
      refine r_zald E rfl rfl rfl (Nat.le_of_ble_eq_true rfl) (adr_lt (Nat.le_of_ble_eq_true rfl)) i7 dX11_holding_128 ?_
      refine r_if_eq E 151 (by decide) dX11_holding_129 (fun c8 => ?_) (fun c8 => ?_)
      · have hw := ite_t hw c8
        exact GG_weak [true, true, true, true, true, false, false] rfl (t_X11_holding_b151 h x1 x2 x3 x4 x4 E hE P3 hP3  hw)
      · have hw := ite_f hw c8
        refine r_aload_n E 11 0 rfl dX11_holding_132 ?_
        refine r_getS E fd_X11_69 (t := 0) (j1 := 52) rfl rfl rfl rfl (Nat.le_of_ble_eq_true rfl) (adr_lt (Nat.le_of_ble_eq_true rfl)) dX11_holding_133 ?_
        refine r_aload_n E 11 0 rfl dX11_holding_136 ?_
        refine r_getS E fd_X11_66 (t := 0) (j1 := 51) rfl rfl rfl rfl (Nat.le_of_ble_eq_true rfl) (adr_lt (Nat.le_of_ble_eq_true rfl)) dX11_holding_137 ?_
        refine r_iload E x4 rfl dX11_holding_140 ?_
        refine r_iald E rfl rfl rfl (Nat.le_of_ble_eq_true rfl) (adr_lt (Nat.le_of_ble_eq_true rfl)) i6 dX11_holding_142 ?_
        obtain ⟨i9, hw⟩ := hw
        refine r_zald E rfl rfl rfl (Nat.le_of_ble_eq_true rfl) (adr_lt (Nat.le_of_ble_eq_true rfl)) i9 dX11_holding_143 ?_
        refine r_if_eq E 151 (by decide) dX11_holding_144 (fun c10 => ?_) (fun c10 => ?_)
        · have hw := ite_t hw c10
          exact GG_weak [true, true, true, true, true, false, false] rfl (t_X11_holding_b151 h x1 x2 x3 x4 x4 E hE P3 hP3  hw)
        · have hw := ite_f hw c10
          refine r_iconst E 1 rfl dX11_holding_147 ?_
          refine r_goto E 202 (by decide) dX11_holding_148 ?_
          exact GG_weak [true, true, true, true, true, false, false] rfl (t_X11_holding_b202 h x1 x2 x3 x4 x4 1 E hE P3 hP3  hw)
    · have hw := ite_f hw c5
      refine r_iload E x5 rfl dX11_holding_155 ?_
      refine r_bipush E 124 rfl dX11_holding_157 ?_
      refine r_icmp_ne E 200 (by decide) dX11_holding_159 (fun c11 => ?_) (fun c11 => ?_)
      · have hw := ite_t hw c11
        refine r_aload_n E 11 0 rfl dX11_holding_162 ?_
        refine r_getS E fd_X11_69 (t := 0) (j1 := 52) rfl rfl rfl rfl (Nat.le_of_ble_eq_true rfl) (adr_lt (Nat.le_of_ble_eq_true rfl)) dX11_holding_163 ?_
        refine r_aload_n E 11 0 rfl dX11_holding_166 ?_
        refine r_getS E fd_X11_63 (t := 0) (j1 := 50) rfl rfl rfl rfl (Nat.le_of_ble_eq_true rfl) (adr_lt (Nat.le_of_ble_eq_true rfl)) dX11_holding_167 ?_
        refine r_iload E x4 rfl dX11_holding_170 ?_
        obtain ⟨i12, hw⟩ := hw
        refine r_iald E rfl rfl rfl (Nat.le_of_ble_eq_true rfl) (adr_lt (Nat.le_of_ble_eq_true rfl)) i12 dX11_holding_172 ?_
        obtain ⟨i13, hw⟩ := hw
        refine r_zald E rfl rfl rfl (Nat.le_of_ble_eq_true rfl) (adr_lt (Nat.le_of_ble_eq_true rfl)) i13 dX11_holding_173 ?_
        refine r_if_ne E 192 (by decide) dX11_holding_174 (fun c14 => ?_) (fun c14 => ?_)
        · have hw := ite_t hw c14
          refine r_aload_n E 11 0 rfl dX11_holding_177 ?_
          refine r_getS E fd_X11_69 (t := 0) (j1 := 52) rfl rfl rfl rfl (Nat.le_of_ble_eq_true rfl) (adr_lt (Nat.le_of_ble_eq_true rfl)) dX11_holding_178 ?_
          refine r_aload_n E 11 0 rfl dX11_holding_181 ?_
          refine r_getS E fd_X11_66 (t := 0) (j1 := 51) rfl rfl rfl rfl (Nat.le_of_ble_eq_true rfl) (adr_lt (Nat.le_of_ble_eq_true rfl)) dX11_holding_182 ?_
          refine r_iload E x4 rfl dX11_holding_185 ?_
          refine r_iald E rfl rfl rfl (Nat.le_of_ble_eq_true rfl) (adr_lt (Nat.le_of_ble_eq_true rfl)) i12 dX11_holding_187 ?_
          obtain ⟨i15, hw⟩ := hw
          refine r_zald E rfl rfl rfl (Nat.le_of_ble_eq_true rfl) (adr_lt (Nat.le_of_ble_eq_true rfl)) i15 dX11_holding_188 ?_
          refine r_if_eq E 196 (by decide) dX11_holding_189 (fun c16 => ?_) (fun c16 => ?_)
          · have hw := ite_t hw c16
            refine r_iconst E 0 rfl dX11_holding_196 ?_
            refine r_goto E 202 (by decide) dX11_holding_197 ?_
            exact GG_weak [true, true, true, true, true, false, false] rfl (t_X11_holding_b202 h x1 x2 x3 x4 x4 0 E hE P3 hP3  hw)
          · have hw := ite_f hw c16
            exact GG_weak [true, true, true, true, true, false, false] rfl (t_X11_holding_b192 h x1 x2 x3 x4 x4 E hE P3 hP3  hw)
        · have hw := ite_f hw c14
          exact GG_weak [true, true, true, true, true, false, false] rfl (t_X11_holding_b192 h x1 x2 x3 x4 x4 E hE P3 hP3  hw)
      · have hw := ite_f hw c11
        refine r_iload E s0 rfl dX11_holding_200 ?_
        exact GG_weak [true, true, true, true, true, false, false] rfl (t_X11_holding_b202 h x1 x2 x3 x4 x4 s0 E hE P3 hP3  hw)
set_option maxRecDepth 20000 in
theorem t_X11_holding_b67 {X : Ctx} (h : Hp) (x1 : Int32) (x2 : Int32) (x3 : Int32) (x4 : Int32) (x5 : Int32)  (E : EE X cX11_holding RX11 7 3 69 0 0) {Q : Int32 → Hp → Prop} (hE : ENDi X cX11_holding .boolean (fun r u => isB r ∧ Q r u) NT 0 0) (P3 : Int32 → Hp → Prop) (hP3 : ∀ (y4 : Int32) (u : Hp), P3 y4 u → GG X 0 0 NT u [some (rf X 11 0), some (.int x1), some (.int x2), some (.int x3), some (.int y4), none, none] 3 []) (hw : wp_X11_holding_b67 x1 x2 x3 x4 x5 h P3 Q) : GG X 0 0 NT h [some (rf X 11 0), some (.int x1), some (.int x2), some (.int x3), some (.int x4), some (.int x5), none] 67 [] := by
  unfold wp_X11_holding_b67 at hw
  refine r_iconst E 1 rfl dX11_holding_67 ?_
  refine r_goto E 72 (by decide) dX11_holding_68 ?_
  exact GG_weak [true, true, true, true, true, true, false] rfl (t_X11_holding_b72 h x1 x2 x3 x4 x5 1 E hE P3 hP3  hw)
set_option maxRecDepth 20000 in
theorem t_X11_holding_b71 {X : Ctx} (h : Hp) (x1 : Int32) (x2 : Int32) (x3 : Int32) (x4 : Int32) (x5 : Int32)  (E : EE X cX11_holding RX11 7 3 69 0 0) {Q : Int32 → Hp → Prop} (hE : ENDi X cX11_holding .boolean (fun r u => isB r ∧ Q r u) NT 0 0) (P3 : Int32 → Hp → Prop) (hP3 : ∀ (y4 : Int32) (u : Hp), P3 y4 u → GG X 0 0 NT u [some (rf X 11 0), some (.int x1), some (.int x2), some (.int x3), some (.int y4), none, none] 3 []) (hw : wp_X11_holding_b71 x1 x2 x3 x4 x5 h P3 Q) : GG X 0 0 NT h [some (rf X 11 0), some (.int x1), some (.int x2), some (.int x3), some (.int x4), some (.int x5), none] 71 [] := by
  unfold wp_X11_holding_b71 at hw
  refine r_iconst E 0 rfl dX11_holding_71 ?_
  exact GG_weak [true, true, true, true, true, true, false] rfl (t_X11_holding_b72 h x1 x2 x3 x4 x5 0 E hE P3 hP3  hw)
set_option maxRecDepth 20000 in
theorem t_X11_holding_b3F {X : Ctx} (h : Hp) (x1 : Int32) (x2 : Int32) (x3 : Int32) (x4 : Int32)  (E : EE X cX11_holding RX11 7 3 69 0 0) {Q : Int32 → Hp → Prop} (hE : ENDi X cX11_holding .boolean (fun r u => isB r ∧ Q r u) NT 0 0)  (P3 : Int32 → Hp → Prop) (hP3 : ∀ (y4 : Int32) (u : Hp), P3 y4 u → GG X 0 0 NT u [some (rf X 11 0), some (.int x1), some (.int x2), some (.int x3), some (.int y4), none, none] 3 []) (hw : wp_X11_holding_b3F x1 x2 x3   Q P3 x4 h) : GG X 0 0 NT h [some (rf X 11 0), some (.int x1), some (.int x2), some (.int x3), some (.int x4), none, none] 3 [] := by
  unfold wp_X11_holding_b3F at hw
  refine r_iload E x4 rfl dX11_holding_3 ?_
  refine r_iload_n E x1 rfl dX11_holding_5 ?_
  refine r_icmp_gt E 209 (by decide) dX11_holding_6 (fun c1 => ?_) (fun c1 => ?_)
  · have hw := ite_t hw c1
    refine r_aload_n E 11 0 rfl dX11_holding_209 ?_
    refine r_getS E fd_X11_69 (t := 0) (j1 := 52) rfl rfl rfl rfl (Nat.le_of_ble_eq_true rfl) (adr_lt (Nat.le_of_ble_eq_true rfl)) dX11_holding_210 ?_
    refine r_iload_n E x1 rfl dX11_holding_213 ?_
    obtain ⟨i2, hw⟩ := hw
    refine r_zald E rfl rfl rfl (Nat.le_of_ble_eq_true rfl) (adr_lt (Nat.le_of_ble_eq_true rfl)) i2 dX11_holding_214 ?_
    exact hE _ _ _ _ _ _ (Nat.le_of_ble_eq_true rfl) (Nat.le_of_ble_eq_true rfl) dX11_holding_215 (isB_nar hw.1) ⟨hw.1, hw.2⟩
  · have hw := ite_f hw c1
    refine r_aload_n E 11 0 rfl dX11_holding_9 ?_
    refine r_getS E fd_X11_59 (t := 0) (j1 := 49) rfl rfl rfl rfl (Nat.le_of_ble_eq_true rfl) (adr_lt (Nat.le_of_ble_eq_true rfl)) dX11_holding_10 ?_
    refine r_iload E x4 rfl dX11_holding_13 ?_
    obtain ⟨i3, hw⟩ := hw
    refine r_cald E rfl rfl rfl (Nat.le_of_ble_eq_true rfl) (adr_lt (Nat.le_of_ble_eq_true rfl)) i3 dX11_holding_15 ?_
    refine GG_topI fun v4 hv4 => ?_
    have hw := hw v4 hv4
    refine r_istore E [some (rf X 11 0), some (.int x1), some (.int x2), some (.int x3), some (.int x4), some (.int v4), none] (Nat.le_of_ble_eq_true rfl) rfl dX11_holding_16 ?_
    refine r_iload E v4 rfl dX11_holding_18 ?_
    refine r_bipush E 97 rfl dX11_holding_20 ?_
    refine r_icmp_eq E 67 (by decide) dX11_holding_22 (fun c5 => ?_) (fun c5 => ?_)
    · have hw := ite_t hw c5
      exact GG_weak [true, true, true, true, true, true, false] rfl (t_X11_holding_b67 h x1 x2 x3 x4 v4 E hE P3 hP3  hw)
    · have hw := ite_f hw c5
      refine r_iload E v4 rfl dX11_holding_25 ?_
      refine r_bipush E 107 rfl dX11_holding_27 ?_
      refine r_icmp_ne E 50 (by decide) dX11_holding_29 (fun c6 => ?_) (fun c6 => ?_)
      · have hw := ite_t hw c6
        refine r_iload_n E x3 rfl dX11_holding_32 ?_
        refine r_aload_n E 11 0 rfl dX11_holding_33 ?_
        refine r_getS E fd_X11_63 (t := 0) (j1 := 50) rfl rfl rfl rfl (Nat.le_of_ble_eq_true rfl) (adr_lt (Nat.le_of_ble_eq_true rfl)) dX11_holding_34 ?_
        refine r_iload E x4 rfl dX11_holding_37 ?_
        refine r_iald E rfl rfl rfl (Nat.le_of_ble_eq_true rfl) (adr_lt (Nat.le_of_ble_eq_true rfl)) i3 dX11_holding_39 ?_
        refine r_ishr E dX11_holding_40 ?_
        refine r_iconst E 1 rfl dX11_holding_41 ?_
        refine r_iand E dX11_holding_42 ?_
        refine r_iconst E 1 rfl dX11_holding_43 ?_
        refine r_icmp_ne E 71 (by decide) dX11_holding_44 (fun c7 => ?_) (fun c7 => ?_)
        · have hw := ite_t hw c7
          refine r_goto E 67 (by decide) dX11_holding_47 ?_
          exact GG_weak [true, true, true, true, true, true, false] rfl (t_X11_holding_b67 h x1 x2 x3 x4 v4 E hE P3 hP3  hw)
        · have hw := ite_f hw c7
          exact GG_weak [true, true, true, true, true, true, false] rfl (t_X11_holding_b71 h x1 x2 x3 x4 v4 E hE P3 hP3  hw)
      · have hw := ite_f hw c6
        refine r_aload_n E 11 0 rfl dX11_holding_50 ?_
        refine r_iload E v4 rfl dX11_holding_51 ?_
        refine r_aload_n E 11 0 rfl dX11_holding_53 ?_
        refine r_getS E fd_X11_63 (t := 0) (j1 := 50) rfl rfl rfl rfl (Nat.le_of_ble_eq_true rfl) (adr_lt (Nat.le_of_ble_eq_true rfl)) dX11_holding_54 ?_
        refine r_iload E x4 rfl dX11_holding_57 ?_
        refine r_iald E rfl rfl rfl (Nat.le_of_ble_eq_true rfl) (adr_lt (Nat.le_of_ble_eq_true rfl)) i3 dX11_holding_59 ?_
        refine r_iload_n E x2 rfl dX11_holding_60 ?_
        refine r_callVI E (m_X11_ofMail (EE_st E) (GX X) v4 (gI h 50 0 x4.toNatClampNeg) x2 h _ hw) lk_X11_190 (RM_mk (Nat.le_of_ble_eq_true rfl) (Nat.le_of_ble_eq_true rfl)) rfl rfl rfl rfl (Nat.le_of_ble_eq_true rfl) (adr_lt (Nat.le_of_ble_eq_true rfl)) (Nat.le_of_ble_eq_true rfl) rfl rfl (Nat.le_of_ble_eq_true rfl) (Nat.le_of_ble_eq_true rfl) dX11_holding_61 (fun r8 u9 hw => ?_)
        obtain ⟨rfl, zr8, hw⟩ := hw
        refine r_if_eq E 71 (by decide) dX11_holding_64 (fun c9 => ?_) (fun c9 => ?_)
        · have hw := ite_t hw c9
          exact GG_weak [true, true, true, true, true, true, false] rfl (t_X11_holding_b71 h x1 x2 x3 x4 v4 E hE P3 hP3  hw)
        · have hw := ite_f hw c9
          exact GG_weak [true, true, true, true, true, true, false] rfl (t_X11_holding_b67 h x1 x2 x3 x4 v4 E hE P3 hP3  hw)
set_option maxRecDepth 20000 in
theorem t_X11_holding_b3 {X : Ctx} (h : Hp) (x1 : Int32) (x2 : Int32) (x3 : Int32) (x4 : Int32)  (E : EE X cX11_holding RX11 7 3 69 0 0) {Q : Int32 → Hp → Prop} (hE : ENDi X cX11_holding .boolean (fun r u => isB r ∧ Q r u) NT 0 0)  (hw : wp_X11_holding_b3 x1 x2 x3 x4 h  Q) : GG X 0 0 NT h [some (rf X 11 0), some (.int x1), some (.int x2), some (.int x3), some (.int x4), none, none] 3 [] :=
  hw (fun y4 u => GG X 0 0 NT u [some (rf X 11 0), some (.int x1), some (.int x2), some (.int x3), some (.int y4), none, none] 3 []) (fun y4 u hq => t_X11_holding_b3F u x1 x2 x3 y4  E hE  (fun y4 u => GG X 0 0 NT u [some (rf X 11 0), some (.int x1), some (.int x2), some (.int x3), some (.int y4), none, none] 3 []) (fun y4 u q => q) hq)
set_option maxRecDepth 20000 in
theorem m_X11_holding {l : Launch} (hl : l.stackTraces = false) (G : Gq) (p0 : Int32) (p1 : Int32) (p2 : Int32)  (h : Hp) (Q : Int32 → Hp → Prop) (hw : wp_X11_holding p0 p1 p2 h Q) : MI l G yX11_holding cX11_holding 7 (some .boolean) rm_X11_holding NT NT h (fun r => [r 11 0, .int p0, .int p1, .int p2]) (fun r u => isB r ∧ Q r u) := by
  refine MI_of (L0 := (fun X => [some (rf X 11 0), some (.int p0), some (.int p1), some (.int p2), none, none, none])) hl (by decide +kernel) rfl (fun _ => Nat.le_of_ble_eq_true rfl) (fun _ => rfl) fun X hXl hXG E hE => ?_
  subst hXl; subst hXG
  unfold wp_X11_holding at hw
  refine r_iconst E 0 rfl dX11_holding_0 ?_
  refine r_istore E [some (rf X 11 0), some (.int p0), some (.int p1), some (.int p2), some (.int 0), none, none] (Nat.le_of_ble_eq_true rfl) rfl dX11_holding_1 ?_
  exact GG_weak [true, true, true, true, true, false, false] rfl (t_X11_holding_b3 h p0 p1 p2 0 E hE  hw)
set_option maxRecDepth 20000 in
theorem t_X11_holds_b22 {X : Ctx} (h : Hp) (x1 : Int32) (x2 : Int32) (s1 : Int32)  (E : EE X cX11_holds RX11 3 4 95 0 0) {Q : Int32 → Hp → Prop} (hE : ENDi X cX11_holds .boolean (fun r u => isB r ∧ Q r u) NT 0 0)  (hw : wp_X11_holds_b22 x1 x2 s1 h  Q) : GG X 0 0 NT h [some (rf X 11 0), some (.int x1), some (.int x2)] 22 [.int s1, rf X 11 0] := by
  unfold wp_X11_holds_b22 at hw
  refine r_putI E fd_X11_138 rfl PI_int (Nat.le_of_ble_eq_true rfl) (adr_lt (Nat.le_of_ble_eq_true rfl)) rfl dX11_holds_22 ?_
  refine GG_toph fun h1 hh1 => ?_
  have hw := hw h1 hh1
  refine r_aload_n E 11 0 rfl dX11_holds_25 ?_
  refine r_getI E fd_X11_138 rfl (Nat.le_of_ble_eq_true rfl) (adr_lt (Nat.le_of_ble_eq_true rfl)) dX11_holds_26 ?_
  refine r_if_ne E 51 (by decide) dX11_holds_29 (fun c2 => ?_) (fun c2 => ?_)
  · have hw := ite_t hw c2
    refine r_aload_n E 11 0 rfl dX11_holds_32 ?_
    refine r_iload_n E x1 rfl dX11_holds_33 ?_
    refine r_iload_n E x2 rfl dX11_holds_34 ?_
    refine r_aload_n E 11 0 rfl dX11_holds_35 ?_
    refine r_getS E fd_X11_38 (t := 0) (j1 := 42) rfl rfl rfl rfl (Nat.le_of_ble_eq_true rfl) (adr_lt (Nat.le_of_ble_eq_true rfl)) dX11_holds_36 ?_
    refine r_iload_n E x2 rfl dX11_holds_39 ?_
    obtain ⟨i3, hw⟩ := hw
    refine r_iald E rfl rfl rfl (Nat.le_of_ble_eq_true rfl) (adr_lt (Nat.le_of_ble_eq_true rfl)) i3 dX11_holds_40 ?_
    refine r_callVI E (m_X11_holding (EE_st E) (GX X) x1 x2 (gI h1 42 0 x2.toNatClampNeg) h1 _ hw) lk_X11_194 (RM_mk (Nat.le_of_ble_eq_true rfl) (Nat.le_of_ble_eq_true rfl)) rfl rfl rfl rfl (Nat.le_of_ble_eq_true rfl) (adr_lt (Nat.le_of_ble_eq_true rfl)) (Nat.le_of_ble_eq_true rfl) rfl rfl (Nat.le_of_ble_eq_true rfl) (Nat.le_of_ble_eq_true rfl) dX11_holds_41 (fun r4 h5 hw => ?_)
    obtain ⟨zr4, hw⟩ := hw
    refine r_if_eq E 51 (by decide) dX11_holds_44 (fun c6 => ?_) (fun c6 => ?_)
    · have hw := ite_t hw c6
      refine r_iconst E 0 rfl dX11_holds_51 ?_
      exact hE _ _ _ _ _ _ (Nat.le_of_ble_eq_true rfl) (Nat.le_of_ble_eq_true rfl) dX11_holds_52 (isB_nar isB_0) ⟨isB_0, hw⟩
    · have hw := ite_f hw c6
      refine r_iconst E 1 rfl dX11_holds_47 ?_
      refine r_goto E 52 (by decide) dX11_holds_48 ?_
      exact hE _ _ _ _ _ _ (Nat.le_of_ble_eq_true rfl) (Nat.le_of_ble_eq_true rfl) dX11_holds_52 (isB_nar isB_1) ⟨isB_1, hw⟩
  · have hw := ite_f hw c2
    refine r_iconst E 0 rfl dX11_holds_51 ?_
    exact hE _ _ _ _ _ _ (Nat.le_of_ble_eq_true rfl) (Nat.le_of_ble_eq_true rfl) dX11_holds_52 (isB_nar isB_0) ⟨isB_0, hw⟩
set_option maxRecDepth 20000 in
theorem t_X11_holds_b21 {X : Ctx} (h : Hp) (x1 : Int32) (x2 : Int32)  (E : EE X cX11_holds RX11 3 4 95 0 0) {Q : Int32 → Hp → Prop} (hE : ENDi X cX11_holds .boolean (fun r u => isB r ∧ Q r u) NT 0 0)  (hw : wp_X11_holds_b21 x1 x2 h  Q) : GG X 0 0 NT h [some (rf X 11 0), some (.int x1), some (.int x2)] 21 [rf X 11 0] := by
  unfold wp_X11_holds_b21 at hw
  refine r_iconst E 1 rfl dX11_holds_21 ?_
  exact GG_weak [true, true, true] rfl (t_X11_holds_b22 h x1 x2 1 E hE  hw)
set_option maxRecDepth 20000 in
theorem m_X11_holds {l : Launch} (hl : l.stackTraces = false) (G : Gq) (p0 : Int32) (p1 : Int32)  (h : Hp) (Q : Int32 → Hp → Prop) (hw : wp_X11_holds p0 p1 h Q) : MI l G yX11_holds cX11_holds 3 (some .boolean) rm_X11_holds NT NT h (fun r => [r 11 0, .int p0, .int p1]) (fun r u => isB r ∧ Q r u) := by
  refine MI_of (L0 := (fun X => [some (rf X 11 0), some (.int p0), some (.int p1)])) hl (by decide +kernel) rfl (fun _ => Nat.le_of_ble_eq_true rfl) (fun _ => rfl) fun X hXl hXG E hE => ?_
  subst hXl; subst hXG
  unfold wp_X11_holds at hw
  refine r_aload_n E 11 0 rfl dX11_holds_0 ?_
  refine r_aload_n E 11 0 rfl dX11_holds_1 ?_
  refine r_iload_n E p0 rfl dX11_holds_2 ?_
  refine r_callVI E (m_X11_isTest (EE_st E) (GX X) p0 h _ hw) lk_X11_180 (RM_mk (Nat.le_of_ble_eq_true rfl) (Nat.le_of_ble_eq_true rfl)) rfl rfl rfl rfl (Nat.le_of_ble_eq_true rfl) (adr_lt (Nat.le_of_ble_eq_true rfl)) (Nat.le_of_ble_eq_true rfl) rfl rfl (Nat.le_of_ble_eq_true rfl) (Nat.le_of_ble_eq_true rfl) dX11_holds_3 (fun r1 u9 hw => ?_)
  obtain ⟨rfl, zr1, hw⟩ := hw
  refine r_if_eq E 21 (by decide) dX11_holds_6 (fun c2 => ?_) (fun c2 => ?_)
  · have hw := ite_t hw c2
    exact GG_weak [true, true, true] rfl (t_X11_holds_b21 h p0 p1 E hE  hw)
  · have hw := ite_f hw c2
    refine r_aload_n E 11 0 rfl dX11_holds_9 ?_
    refine r_iload_n E p1 rfl dX11_holds_10 ?_
    refine r_callVI E (m_X11_isMail (EE_st E) (GX X) p1 h _ hw) lk_X11_165 (RM_mk (Nat.le_of_ble_eq_true rfl) (Nat.le_of_ble_eq_true rfl)) rfl rfl rfl rfl (Nat.le_of_ble_eq_true rfl) (adr_lt (Nat.le_of_ble_eq_true rfl)) (Nat.le_of_ble_eq_true rfl) rfl rfl (Nat.le_of_ble_eq_true rfl) (Nat.le_of_ble_eq_true rfl) dX11_holds_11 (fun r3 u9 hw => ?_)
    obtain ⟨rfl, zr3, hw⟩ := hw
    refine r_if_eq E 21 (by decide) dX11_holds_14 (fun c4 => ?_) (fun c4 => ?_)
    · have hw := ite_t hw c4
      exact GG_weak [true, true, true] rfl (t_X11_holds_b21 h p0 p1 E hE  hw)
    · have hw := ite_f hw c4
      refine r_iconst E 0 rfl dX11_holds_17 ?_
      refine r_goto E 22 (by decide) dX11_holds_18 ?_
      exact GG_weak [true, true, true] rfl (t_X11_holds_b22 h p0 p1 0 E hE  hw)
set_option maxRecDepth 20000 in
theorem t_X11_rule_b22 {X : Ctx} (h : Hp)   (E : EE X cX11_rule RX11 3 3 67 0 0) {Q : Int32 → Hp → Prop} (hE : ENDi X cX11_rule .int Q NT 0 0)  (hw : wp_X11_rule_b22  h  Q) : GG X 0 0 NT h [some (rf X 11 0), none, none] 22 [] := by
  unfold wp_X11_rule_b22 at hw
  refine r_aload_n E 11 0 rfl dX11_rule_22 ?_
  refine r_iconst E 1 rfl dX11_rule_23 ?_
  refine r_callVI E (m_X11_fails (EE_st E) (GX X) 1 h _ hw) lk_X11_147 (RM_mk (Nat.le_of_ble_eq_true rfl) (Nat.le_of_ble_eq_true rfl)) rfl rfl rfl rfl (Nat.le_of_ble_eq_true rfl) (adr_lt (Nat.le_of_ble_eq_true rfl)) (Nat.le_of_ble_eq_true rfl) rfl rfl (Nat.le_of_ble_eq_true rfl) (Nat.le_of_ble_eq_true rfl) dX11_rule_24 (fun r1 h2 hw => ?_)
  exact hE _ _ _ _ _ _ (Nat.le_of_ble_eq_true rfl) (Nat.le_of_ble_eq_true rfl) dX11_rule_27 rfl hw
set_option maxRecDepth 20000 in
theorem m_X11_rule {l : Launch} (hl : l.stackTraces = false) (G : Gq) (p0 : Int32) (p1 : Int32)  (h : Hp) (Q : Int32 → Hp → Prop) (hw : wp_X11_rule p0 p1 h Q) : MI l G yX11_rule cX11_rule 3 (some .int) rm_X11_rule NT NT h (fun r => [r 11 0, .int p0, .int p1]) Q := by
  refine MI_of (L0 := (fun X => [some (rf X 11 0), some (.int p0), some (.int p1)])) hl (by decide +kernel) rfl (fun _ => Nat.le_of_ble_eq_true rfl) (fun _ => rfl) fun X hXl hXG E hE => ?_
  subst hXl; subst hXG
  unfold wp_X11_rule at hw
  refine r_aload_n E 11 0 rfl dX11_rule_0 ?_
  refine r_iconst E 0 rfl dX11_rule_1 ?_
  refine r_putI E fd_X11_138 rfl PI_int (Nat.le_of_ble_eq_true rfl) (adr_lt (Nat.le_of_ble_eq_true rfl)) rfl dX11_rule_2 ?_
  refine GG_toph fun h1 hh1 => ?_
  have hw := hw h1 hh1
  refine r_iload_n E p0 rfl dX11_rule_5 ?_
  refine r_iconst E 0 rfl dX11_rule_6 ?_
  refine r_iconst E 3 rfl dX11_rule_7 ?_
  refine r_callSI E (m_X11_in (EE_st E) (GX X) p0 0 3 h1 _ hw) lk_X11_142 (RM_mk (Nat.le_of_ble_eq_true rfl) (Nat.le_of_ble_eq_true rfl)) rfl rfl rfl rfl (Nat.le_of_ble_eq_true rfl) rfl rfl (Nat.le_of_ble_eq_true rfl) (Nat.le_of_ble_eq_true rfl) dX11_rule_8 (fun r2 u9 hw => ?_)
  obtain ⟨rfl, zr2, hw⟩ := hw
  refine r_if_eq E 22 (by decide) dX11_rule_11 (fun c3 => ?_) (fun c3 => ?_)
  · have hw := ite_t hw c3
    exact GG_weak [true, false, false] rfl (t_X11_rule_b22 h1  E hE  hw)
  · have hw := ite_f hw c3
    refine r_aload_n E 11 0 rfl dX11_rule_14 ?_
    refine r_iload_n E p1 rfl dX11_rule_15 ?_
    refine r_callVI E (m_X11_isTest (EE_st E) (GX X) p1 h1 _ hw) lk_X11_180 (RM_mk (Nat.le_of_ble_eq_true rfl) (Nat.le_of_ble_eq_true rfl)) rfl rfl rfl rfl (Nat.le_of_ble_eq_true rfl) (adr_lt (Nat.le_of_ble_eq_true rfl)) (Nat.le_of_ble_eq_true rfl) rfl rfl (Nat.le_of_ble_eq_true rfl) (Nat.le_of_ble_eq_true rfl) dX11_rule_16 (fun r4 u9 hw => ?_)
    obtain ⟨rfl, zr4, hw⟩ := hw
    refine r_if_ne E 28 (by decide) dX11_rule_19 (fun c5 => ?_) (fun c5 => ?_)
    · have hw := ite_t hw c5
      exact GG_weak [true, false, false] rfl (t_X11_rule_b22 h1  E hE  hw)
    · have hw := ite_f hw c5
      refine r_aload_n E 11 0 rfl dX11_rule_28 ?_
      refine r_getS E fd_X11_72 (t := 0) (j1 := 53) rfl rfl rfl rfl (Nat.le_of_ble_eq_true rfl) (adr_lt (Nat.le_of_ble_eq_true rfl)) dX11_rule_29 ?_
      refine r_iload_n E p0 rfl dX11_rule_32 ?_
      obtain ⟨i6, hw⟩ := hw
      refine r_iald E rfl rfl rfl (Nat.le_of_ble_eq_true rfl) (adr_lt (Nat.le_of_ble_eq_true rfl)) i6 dX11_rule_33 ?_
      refine r_bipush E 12 rfl dX11_rule_34 ?_
      refine r_icmp_ne E 45 (by decide) dX11_rule_36 (fun c7 => ?_) (fun c7 => ?_)
      · have hw := ite_t hw c7
        refine r_aload_n E 11 0 rfl dX11_rule_39 ?_
        refine r_iconst E 2 rfl dX11_rule_40 ?_
        refine r_callVI E (m_X11_fails (EE_st E) (GX X) 2 h1 _ hw) lk_X11_147 (RM_mk (Nat.le_of_ble_eq_true rfl) (Nat.le_of_ble_eq_true rfl)) rfl rfl rfl rfl (Nat.le_of_ble_eq_true rfl) (adr_lt (Nat.le_of_ble_eq_true rfl)) (Nat.le_of_ble_eq_true rfl) rfl rfl (Nat.le_of_ble_eq_true rfl) (Nat.le_of_ble_eq_true rfl) dX11_rule_41 (fun r8 h9 hw => ?_)
        exact hE _ _ _ _ _ _ (Nat.le_of_ble_eq_true rfl) (Nat.le_of_ble_eq_true rfl) dX11_rule_44 rfl hw
      · have hw := ite_f hw c7
        refine r_aload_n E 11 0 rfl dX11_rule_45 ?_
        refine r_getS E fd_X11_75 (t := 0) (j1 := 54) rfl rfl rfl rfl (Nat.le_of_ble_eq_true rfl) (adr_lt (Nat.le_of_ble_eq_true rfl)) dX11_rule_46 ?_
        refine r_bipush E 12 rfl dX11_rule_49 ?_
        refine r_iload_n E p0 rfl dX11_rule_51 ?_
        refine r_imul E dX11_rule_52 ?_
        refine r_aload_n E 11 0 rfl dX11_rule_53 ?_
        refine r_getS E fd_X11_72 (t := 0) (j1 := 53) rfl rfl rfl rfl (Nat.le_of_ble_eq_true rfl) (adr_lt (Nat.le_of_ble_eq_true rfl)) dX11_rule_54 ?_
        refine r_iload_n E p0 rfl dX11_rule_57 ?_
        refine r_iald E rfl rfl rfl (Nat.le_of_ble_eq_true rfl) (adr_lt (Nat.le_of_ble_eq_true rfl)) i6 dX11_rule_58 ?_
        refine r_iadd E dX11_rule_59 ?_
        refine r_iload_n E p1 rfl dX11_rule_60 ?_
        obtain ⟨i10, hw⟩ := hw
        refine r_iast E rfl rfl rfl (Nat.le_of_ble_eq_true rfl) (adr_lt (Nat.le_of_ble_eq_true rfl)) i10 dX11_rule_61 ?_
        refine GG_toph fun h11 hh11 => ?_
        have hw := hw h11 hh11
        refine r_aload_n E 11 0 rfl dX11_rule_62 ?_
        refine r_getS E fd_X11_78 (t := 0) (j1 := 55) rfl rfl rfl rfl (Nat.le_of_ble_eq_true rfl) (adr_lt (Nat.le_of_ble_eq_true rfl)) dX11_rule_63 ?_
        refine r_bipush E 12 rfl dX11_rule_66 ?_
        refine r_iload_n E p0 rfl dX11_rule_68 ?_
        refine r_imul E dX11_rule_69 ?_
        refine r_aload_n E 11 0 rfl dX11_rule_70 ?_
        refine r_getS E fd_X11_72 (t := 0) (j1 := 53) rfl rfl rfl rfl (Nat.le_of_ble_eq_true rfl) (adr_lt (Nat.le_of_ble_eq_true rfl)) dX11_rule_71 ?_
        refine r_iload_n E p0 rfl dX11_rule_74 ?_
        refine r_iald E rfl rfl rfl (Nat.le_of_ble_eq_true rfl) (adr_lt (Nat.le_of_ble_eq_true rfl)) i6 dX11_rule_75 ?_
        refine r_iadd E dX11_rule_76 ?_
        refine r_iconst E 0 rfl dX11_rule_77 ?_
        obtain ⟨i12, hw⟩ := hw
        refine r_iast E rfl rfl rfl (Nat.le_of_ble_eq_true rfl) (adr_lt (Nat.le_of_ble_eq_true rfl)) i12 dX11_rule_78 ?_
        refine GG_toph fun h13 hh13 => ?_
        have hw := hw h13 hh13
        refine r_aload_n E 11 0 rfl dX11_rule_79 ?_
        refine r_getS E fd_X11_72 (t := 0) (j1 := 53) rfl rfl rfl rfl (Nat.le_of_ble_eq_true rfl) (adr_lt (Nat.le_of_ble_eq_true rfl)) dX11_rule_80 ?_
        refine r_iload_n E p0 rfl dX11_rule_83 ?_
        refine r_dup2 E rfl rfl dX11_rule_84 ?_
        refine r_iald E rfl rfl rfl (Nat.le_of_ble_eq_true rfl) (adr_lt (Nat.le_of_ble_eq_true rfl)) i6 dX11_rule_85 ?_
        refine r_iconst E 1 rfl dX11_rule_86 ?_
        refine r_iadd E dX11_rule_87 ?_
        refine r_iast E rfl rfl rfl (Nat.le_of_ble_eq_true rfl) (adr_lt (Nat.le_of_ble_eq_true rfl)) i6 dX11_rule_88 ?_
        refine GG_toph fun h14 hh14 => ?_
        have hw := hw h14 hh14
        refine r_aload_n E 11 0 rfl dX11_rule_89 ?_
        refine r_getS E fd_X11_72 (t := 0) (j1 := 53) rfl rfl rfl rfl (Nat.le_of_ble_eq_true rfl) (adr_lt (Nat.le_of_ble_eq_true rfl)) dX11_rule_90 ?_
        refine r_iload_n E p0 rfl dX11_rule_93 ?_
        refine r_iald E rfl rfl rfl (Nat.le_of_ble_eq_true rfl) (adr_lt (Nat.le_of_ble_eq_true rfl)) i6 dX11_rule_94 ?_
        refine r_iconst E 1 rfl dX11_rule_95 ?_
        refine r_isub E dX11_rule_96 ?_
        exact hE _ _ _ _ _ _ (Nat.le_of_ble_eq_true rfl) (Nat.le_of_ble_eq_true rfl) dX11_rule_97 rfl hw
set_option maxRecDepth 20000 in
theorem m_X11_isRule {l : Launch} (hl : l.stackTraces = false) (G : Gq) (p0 : Int32) (p1 : Int32)  (h : Hp) (Q : Int32 → Prop) (hw : wp_X11_isRule p0 p1 h Q) : MI l G yX11_isRule cX11_isRule 3 (some .boolean) rm_X11_isRule NT NT h (fun r => [r 11 0, .int p0, .int p1]) (fun r u => h = u ∧ isB r ∧ Q r) := by
  refine MI_of (L0 := (fun X => [some (rf X 11 0), some (.int p0), some (.int p1)])) hl (by decide +kernel) rfl (fun _ => Nat.le_of_ble_eq_true rfl) (fun _ => rfl) fun X hXl hXG E hE => ?_
  subst hXl; subst hXG
  unfold wp_X11_isRule at hw
  refine r_iload_n E p0 rfl dX11_isRule_0 ?_
  refine r_iconst E 0 rfl dX11_isRule_1 ?_
  refine r_iconst E 3 rfl dX11_isRule_2 ?_
  refine r_callSI E (m_X11_in (EE_st E) (GX X) p0 0 3 h _ hw) lk_X11_142 (RM_mk (Nat.le_of_ble_eq_true rfl) (Nat.le_of_ble_eq_true rfl)) rfl rfl rfl rfl (Nat.le_of_ble_eq_true rfl) rfl rfl (Nat.le_of_ble_eq_true rfl) (Nat.le_of_ble_eq_true rfl) dX11_isRule_3 (fun r1 u9 hw => ?_)
  obtain ⟨rfl, zr1, hw⟩ := hw
  refine r_if_eq E 29 (by decide) dX11_isRule_6 (fun c2 => ?_) (fun c2 => ?_)
  · have hw := ite_t hw c2
    refine r_iconst E 0 rfl dX11_isRule_29 ?_
    exact hE _ _ _ _ _ _ (Nat.le_of_ble_eq_true rfl) (Nat.le_of_ble_eq_true rfl) dX11_isRule_30 (isB_nar isB_0) ⟨rfl, isB_0, hw⟩
  · have hw := ite_f hw c2
    refine r_iload_n E p1 rfl dX11_isRule_9 ?_
    refine r_iconst E 0 rfl dX11_isRule_10 ?_
    refine r_aload_n E 11 0 rfl dX11_isRule_11 ?_
    refine r_getS E fd_X11_72 (t := 0) (j1 := 53) rfl rfl rfl rfl (Nat.le_of_ble_eq_true rfl) (adr_lt (Nat.le_of_ble_eq_true rfl)) dX11_isRule_12 ?_
    refine r_iload_n E p0 rfl dX11_isRule_15 ?_
    obtain ⟨i3, hw⟩ := hw
    refine r_iald E rfl rfl rfl (Nat.le_of_ble_eq_true rfl) (adr_lt (Nat.le_of_ble_eq_true rfl)) i3 dX11_isRule_16 ?_
    refine r_iconst E 1 rfl dX11_isRule_17 ?_
    refine r_isub E dX11_isRule_18 ?_
    refine r_callSI E (m_X11_in (EE_st E) (GX X) p1 0 ((gI h 53 0 p0.toNatClampNeg) - 1) h _ hw) lk_X11_142 (RM_mk (Nat.le_of_ble_eq_true rfl) (Nat.le_of_ble_eq_true rfl)) rfl rfl rfl rfl (Nat.le_of_ble_eq_true rfl) rfl rfl (Nat.le_of_ble_eq_true rfl) (Nat.le_of_ble_eq_true rfl) dX11_isRule_19 (fun r4 u9 hw => ?_)
    obtain ⟨rfl, zr4, hw⟩ := hw
    refine r_if_eq E 29 (by decide) dX11_isRule_22 (fun c5 => ?_) (fun c5 => ?_)
    · have hw := ite_t hw c5
      refine r_iconst E 0 rfl dX11_isRule_29 ?_
      exact hE _ _ _ _ _ _ (Nat.le_of_ble_eq_true rfl) (Nat.le_of_ble_eq_true rfl) dX11_isRule_30 (isB_nar isB_0) ⟨rfl, isB_0, hw⟩
    · have hw := ite_f hw c5
      refine r_iconst E 1 rfl dX11_isRule_25 ?_
      refine r_goto E 30 (by decide) dX11_isRule_26 ?_
      exact hE _ _ _ _ _ _ (Nat.le_of_ble_eq_true rfl) (Nat.le_of_ble_eq_true rfl) dX11_isRule_30 (isB_nar isB_1) ⟨rfl, isB_1, hw⟩
set_option maxRecDepth 20000 in
theorem m_X11_isAction {l : Launch} (hl : l.stackTraces = false) (G : Gq) (p0 : Int32) (p1 : Int32)  (h : Hp) (Q : Int32 → Prop) (hw : wp_X11_isAction p0 p1 h Q) : MI l G yX11_isAction cX11_isAction 2 (some .boolean) rm_X11_isAction NT NT h (fun r => [.int p0, .int p1]) (fun r u => h = u ∧ isB r ∧ Q r) := by
  refine MI_of (L0 := (fun X => [some (.int p0), some (.int p1)])) hl (by decide +kernel) rfl (fun _ => Nat.le_of_ble_eq_true rfl) (fun _ => rfl) fun X hXl hXG E hE => ?_
  subst hXl; subst hXG
  unfold wp_X11_isAction at hw
  refine r_iload_n E p0 rfl dX11_isAction_0 ?_
  rcases Decidable.em (p0 = 70) with c1 | c1
  · have hw := ite_t hw c1
    refine r_lookup E (off := 83) 84 dX11_isAction_1 (by decide) (by rw [c1]; rfl) (by decide) ?_
    refine r_iload_n E p1 rfl dX11_isAction_84 ?_
    refine r_iconst E 0 rfl dX11_isAction_85 ?_
    refine r_bipush E 7 rfl dX11_isAction_86 ?_
    refine r_callSI E (m_X11_in (EE_st E) (GX X) p1 0 7 h _ hw) lk_X11_142 (RM_mk (Nat.le_of_ble_eq_true rfl) (Nat.le_of_ble_eq_true rfl)) rfl rfl rfl rfl (Nat.le_of_ble_eq_true rfl) rfl rfl (Nat.le_of_ble_eq_true rfl) (Nat.le_of_ble_eq_true rfl) dX11_isAction_88 (fun r2 u9 hw => ?_)
    obtain ⟨rfl, zr2, hw⟩ := hw
    exact hE _ _ _ _ _ _ (Nat.le_of_ble_eq_true rfl) (Nat.le_of_ble_eq_true rfl) dX11_isAction_91 (isB_nar zr2) ⟨rfl, zr2, hw⟩
  · have hw := ite_f hw c1
    rcases Decidable.em (p0 = 85) with c3 | c3
    · have hw := ite_t hw c3
      refine r_lookup E (off := 83) 84 dX11_isAction_1 (by decide) (by rw [c3]; rfl) (by decide) ?_
      refine r_iload_n E p1 rfl dX11_isAction_84 ?_
      refine r_iconst E 0 rfl dX11_isAction_85 ?_
      refine r_bipush E 7 rfl dX11_isAction_86 ?_
      refine r_callSI E (m_X11_in (EE_st E) (GX X) p1 0 7 h _ hw) lk_X11_142 (RM_mk (Nat.le_of_ble_eq_true rfl) (Nat.le_of_ble_eq_true rfl)) rfl rfl rfl rfl (Nat.le_of_ble_eq_true rfl) rfl rfl (Nat.le_of_ble_eq_true rfl) (Nat.le_of_ble_eq_true rfl) dX11_isAction_88 (fun r4 u9 hw => ?_)
      obtain ⟨rfl, zr4, hw⟩ := hw
      exact hE _ _ _ _ _ _ (Nat.le_of_ble_eq_true rfl) (Nat.le_of_ble_eq_true rfl) dX11_isAction_91 (isB_nar zr4) ⟨rfl, zr4, hw⟩
    · have hw := ite_f hw c3
      rcases Decidable.em (p0 = 99) with c5 | c5
      · have hw := ite_t hw c5
        refine r_lookup E (off := 67) 68 dX11_isAction_1 (by decide) (by rw [c5]; rfl) (by decide) ?_
        refine r_iload_n E p1 rfl dX11_isAction_68 ?_
        refine r_iconst E 0 rfl dX11_isAction_69 ?_
        refine r_bipush E 7 rfl dX11_isAction_70 ?_
        refine r_callSI E (m_X11_in (EE_st E) (GX X) p1 0 7 h _ hw) lk_X11_142 (RM_mk (Nat.le_of_ble_eq_true rfl) (Nat.le_of_ble_eq_true rfl)) rfl rfl rfl rfl (Nat.le_of_ble_eq_true rfl) rfl rfl (Nat.le_of_ble_eq_true rfl) (Nat.le_of_ble_eq_true rfl) dX11_isAction_72 (fun r6 u9 hw => ?_)
        obtain ⟨rfl, zr6, hw⟩ := hw
        exact hE _ _ _ _ _ _ (Nat.le_of_ble_eq_true rfl) (Nat.le_of_ble_eq_true rfl) dX11_isAction_75 (isB_nar zr6) ⟨rfl, zr6, hw⟩
      · have hw := ite_f hw c5
        rcases Decidable.em (p0 = 105) with c7 | c7
        · have hw := ite_t hw c7
          refine r_lookup E (off := 99) 100 dX11_isAction_1 (by decide) (by rw [c7]; rfl) (by decide) ?_
          refine r_iload_n E p1 rfl dX11_isAction_100 ?_
          refine r_iconst E 0 rfl dX11_isAction_101 ?_
          refine r_iconst E 3 rfl dX11_isAction_102 ?_
          refine r_callSI E (m_X11_in (EE_st E) (GX X) p1 0 3 h _ hw) lk_X11_142 (RM_mk (Nat.le_of_ble_eq_true rfl) (Nat.le_of_ble_eq_true rfl)) rfl rfl rfl rfl (Nat.le_of_ble_eq_true rfl) rfl rfl (Nat.le_of_ble_eq_true rfl) (Nat.le_of_ble_eq_true rfl) dX11_isAction_103 (fun r8 u9 hw => ?_)
          obtain ⟨rfl, zr8, hw⟩ := hw
          exact hE _ _ _ _ _ _ (Nat.le_of_ble_eq_true rfl) (Nat.le_of_ble_eq_true rfl) dX11_isAction_106 (isB_nar zr8) ⟨rfl, zr8, hw⟩
        · have hw := ite_f hw c7
          rcases Decidable.em (p0 = 109) with c9 | c9
          · have hw := ite_t hw c9
            refine r_lookup E (off := 67) 68 dX11_isAction_1 (by decide) (by rw [c9]; rfl) (by decide) ?_
            refine r_iload_n E p1 rfl dX11_isAction_68 ?_
            refine r_iconst E 0 rfl dX11_isAction_69 ?_
            refine r_bipush E 7 rfl dX11_isAction_70 ?_
            refine r_callSI E (m_X11_in (EE_st E) (GX X) p1 0 7 h _ hw) lk_X11_142 (RM_mk (Nat.le_of_ble_eq_true rfl) (Nat.le_of_ble_eq_true rfl)) rfl rfl rfl rfl (Nat.le_of_ble_eq_true rfl) rfl rfl (Nat.le_of_ble_eq_true rfl) (Nat.le_of_ble_eq_true rfl) dX11_isAction_72 (fun r10 u9 hw => ?_)
            obtain ⟨rfl, zr10, hw⟩ := hw
            exact hE _ _ _ _ _ _ (Nat.le_of_ble_eq_true rfl) (Nat.le_of_ble_eq_true rfl) dX11_isAction_75 (isB_nar zr10) ⟨rfl, zr10, hw⟩
          · have hw := ite_f hw c9
            rcases Decidable.em (p0 = 118) with c11 | c11
            · have hw := ite_t hw c11
              refine r_lookup E (off := 91) 92 dX11_isAction_1 (by decide) (by rw [c11]; rfl) (by decide) ?_
              refine r_iload_n E p1 rfl dX11_isAction_92 ?_
              refine r_iconst E 1 rfl dX11_isAction_93 ?_
              refine r_bipush E 30 rfl dX11_isAction_94 ?_
              refine r_callSI E (m_X11_in (EE_st E) (GX X) p1 1 30 h _ hw) lk_X11_142 (RM_mk (Nat.le_of_ble_eq_true rfl) (Nat.le_of_ble_eq_true rfl)) rfl rfl rfl rfl (Nat.le_of_ble_eq_true rfl) rfl rfl (Nat.le_of_ble_eq_true rfl) (Nat.le_of_ble_eq_true rfl) dX11_isAction_96 (fun r12 u9 hw => ?_)
              obtain ⟨rfl, zr12, hw⟩ := hw
              exact hE _ _ _ _ _ _ (Nat.le_of_ble_eq_true rfl) (Nat.le_of_ble_eq_true rfl) dX11_isAction_99 (isB_nar zr12) ⟨rfl, zr12, hw⟩
            · have hw := ite_f hw c11
              rcases Decidable.em (p0 = 119) with c13 | c13
              · have hw := ite_t hw c13
                refine r_lookup E (off := 75) 76 dX11_isAction_1 (by decide) (by rw [c13]; rfl) (by decide) ?_
                refine r_iload_n E p1 rfl dX11_isAction_76 ?_
                refine r_iconst E 0 rfl dX11_isAction_77 ?_
                refine r_bipush E 9 rfl dX11_isAction_78 ?_
                refine r_callSI E (m_X11_in (EE_st E) (GX X) p1 0 9 h _ hw) lk_X11_142 (RM_mk (Nat.le_of_ble_eq_true rfl) (Nat.le_of_ble_eq_true rfl)) rfl rfl rfl rfl (Nat.le_of_ble_eq_true rfl) rfl rfl (Nat.le_of_ble_eq_true rfl) (Nat.le_of_ble_eq_true rfl) dX11_isAction_80 (fun r14 u9 hw => ?_)
                obtain ⟨rfl, zr14, hw⟩ := hw
                exact hE _ _ _ _ _ _ (Nat.le_of_ble_eq_true rfl) (Nat.le_of_ble_eq_true rfl) dX11_isAction_83 (isB_nar zr14) ⟨rfl, zr14, hw⟩
              · have hw := ite_f hw c13
                refine r_lookup E (off := 106) 107 dX11_isAction_1 (by decide) (by show Op.lookupswitch.offset [(70, 83), (85, 83), (99, 67), (105, 99), (109, 67), (118, 91), (119, 75)] 106 _ = 106; rw [lv_osw (a := 70) c1 rfl, lv_osw (a := 85) c3 rfl, lv_osw (a := 99) c5 rfl, lv_osw (a := 105) c7 rfl, lv_osw (a := 109) c9 rfl, lv_osw (a := 118) c11 rfl, lv_osw (a := 119) c13 rfl]; rfl) (by decide) ?_
                refine r_iload_n E p0 rfl dX11_isAction_107 ?_
                refine r_bipush E 107 rfl dX11_isAction_108 ?_
                refine r_icmp_eq E 137 (by decide) dX11_isAction_110 (fun c15 => ?_) (fun c15 => ?_)
                · have hw := ite_t hw c15
                  refine r_iconst E 1 rfl dX11_isAction_137 ?_
                  refine r_goto E 142 (by decide) dX11_isAction_138 ?_
                  exact hE _ _ _ _ _ _ (Nat.le_of_ble_eq_true rfl) (Nat.le_of_ble_eq_true rfl) dX11_isAction_142 (isB_nar isB_1) ⟨rfl, isB_1, hw⟩
                · have hw := ite_f hw c15
                  refine r_iload_n E p0 rfl dX11_isAction_113 ?_
                  refine r_bipush E 120 rfl dX11_isAction_114 ?_
                  refine r_icmp_eq E 137 (by decide) dX11_isAction_116 (fun c16 => ?_) (fun c16 => ?_)
                  · have hw := ite_t hw c16
                    refine r_iconst E 1 rfl dX11_isAction_137 ?_
                    refine r_goto E 142 (by decide) dX11_isAction_138 ?_
                    exact hE _ _ _ _ _ _ (Nat.le_of_ble_eq_true rfl) (Nat.le_of_ble_eq_true rfl) dX11_isAction_142 (isB_nar isB_1) ⟨rfl, isB_1, hw⟩
                  · have hw := ite_f hw c16
                    refine r_iload_n E p0 rfl dX11_isAction_119 ?_
                    refine r_bipush E 114 rfl dX11_isAction_120 ?_
                    refine r_icmp_eq E 137 (by decide) dX11_isAction_122 (fun c17 => ?_) (fun c17 => ?_)
                    · have hw := ite_t hw c17
                      refine r_iconst E 1 rfl dX11_isAction_137 ?_
                      refine r_goto E 142 (by decide) dX11_isAction_138 ?_
                      exact hE _ _ _ _ _ _ (Nat.le_of_ble_eq_true rfl) (Nat.le_of_ble_eq_true rfl) dX11_isAction_142 (isB_nar isB_1) ⟨rfl, isB_1, hw⟩
                    · have hw := ite_f hw c17
                      refine r_iload_n E p0 rfl dX11_isAction_125 ?_
                      refine r_bipush E 115 rfl dX11_isAction_126 ?_
                      refine r_icmp_eq E 137 (by decide) dX11_isAction_128 (fun c18 => ?_) (fun c18 => ?_)
                      · have hw := ite_t hw c18
                        refine r_iconst E 1 rfl dX11_isAction_137 ?_
                        refine r_goto E 142 (by decide) dX11_isAction_138 ?_
                        exact hE _ _ _ _ _ _ (Nat.le_of_ble_eq_true rfl) (Nat.le_of_ble_eq_true rfl) dX11_isAction_142 (isB_nar isB_1) ⟨rfl, isB_1, hw⟩
                      · have hw := ite_f hw c18
                        refine r_iload_n E p0 rfl dX11_isAction_131 ?_
                        refine r_bipush E 83 rfl dX11_isAction_132 ?_
                        refine r_icmp_ne E 141 (by decide) dX11_isAction_134 (fun c19 => ?_) (fun c19 => ?_)
                        · have hw := ite_t hw c19
                          refine r_iconst E 1 rfl dX11_isAction_137 ?_
                          refine r_goto E 142 (by decide) dX11_isAction_138 ?_
                          exact hE _ _ _ _ _ _ (Nat.le_of_ble_eq_true rfl) (Nat.le_of_ble_eq_true rfl) dX11_isAction_142 (isB_nar isB_1) ⟨rfl, isB_1, hw⟩
                        · have hw := ite_f hw c19
                          refine r_iconst E 0 rfl dX11_isAction_141 ?_
                          exact hE _ _ _ _ _ _ (Nat.le_of_ble_eq_true rfl) (Nat.le_of_ble_eq_true rfl) dX11_isAction_142 (isB_nar isB_0) ⟨rfl, isB_0, hw⟩
set_option maxRecDepth 20000 in
theorem m_X11_action {l : Launch} (hl : l.stackTraces = false) (G : Gq) (p0 : Int32) (p1 : Int32) (p2 : Int32) (p3 : Int32)  (h : Hp) (Q : Int32 → Hp → Prop) (hw : wp_X11_action p0 p1 p2 p3 h Q) : MI l G yX11_action cX11_action 6 (some .int) rm_X11_action NT NT h (fun r => [r 11 0, .int p0, .int p1, .int p2, .int p3]) Q := by
  refine MI_of (L0 := (fun X => [some (rf X 11 0), some (.int p0), some (.int p1), some (.int p2), some (.int p3), none])) hl (by decide +kernel) rfl (fun _ => Nat.le_of_ble_eq_true rfl) (fun _ => rfl) fun X hXl hXG E hE => ?_
  subst hXl; subst hXG
  unfold wp_X11_action at hw
  refine r_aload_n E 11 0 rfl dX11_action_0 ?_
  refine r_iconst E 0 rfl dX11_action_1 ?_
  refine r_putI E fd_X11_138 rfl PI_int (Nat.le_of_ble_eq_true rfl) (adr_lt (Nat.le_of_ble_eq_true rfl)) rfl dX11_action_2 ?_
  refine GG_toph fun h1 hh1 => ?_
  have hw := hw h1 hh1
  refine r_aload_n E 11 0 rfl dX11_action_5 ?_
  refine r_iload_n E p0 rfl dX11_action_6 ?_
  refine r_iload_n E p1 rfl dX11_action_7 ?_
  refine r_callVI E (m_X11_isRule (EE_st E) (GX X) p0 p1 h1 _ hw) lk_X11_197 (RM_mk (Nat.le_of_ble_eq_true rfl) (Nat.le_of_ble_eq_true rfl)) rfl rfl rfl rfl (Nat.le_of_ble_eq_true rfl) (adr_lt (Nat.le_of_ble_eq_true rfl)) (Nat.le_of_ble_eq_true rfl) rfl rfl (Nat.le_of_ble_eq_true rfl) (Nat.le_of_ble_eq_true rfl) dX11_action_8 (fun r2 u9 hw => ?_)
  obtain ⟨rfl, zr2, hw⟩ := hw
  refine r_if_ne E 20 (by decide) dX11_action_11 (fun c3 => ?_) (fun c3 => ?_)
  · have hw := ite_t hw c3
    refine r_aload_n E 11 0 rfl dX11_action_14 ?_
    refine r_iconst E 1 rfl dX11_action_15 ?_
    refine r_callVI E (m_X11_fails (EE_st E) (GX X) 1 h1 _ hw) lk_X11_147 (RM_mk (Nat.le_of_ble_eq_true rfl) (Nat.le_of_ble_eq_true rfl)) rfl rfl rfl rfl (Nat.le_of_ble_eq_true rfl) (adr_lt (Nat.le_of_ble_eq_true rfl)) (Nat.le_of_ble_eq_true rfl) rfl rfl (Nat.le_of_ble_eq_true rfl) (Nat.le_of_ble_eq_true rfl) dX11_action_16 (fun r4 h5 hw => ?_)
    exact hE _ _ _ _ _ _ (Nat.le_of_ble_eq_true rfl) (Nat.le_of_ble_eq_true rfl) dX11_action_19 rfl hw
  · have hw := ite_f hw c3
    refine r_iload_n E p2 rfl dX11_action_20 ?_
    refine r_iload E p3 rfl dX11_action_21 ?_
    refine r_callSI E (m_X11_isAction (EE_st E) (GX X) p2 p3 h1 _ hw) lk_X11_200 (RM_mk (Nat.le_of_ble_eq_true rfl) (Nat.le_of_ble_eq_true rfl)) rfl rfl rfl rfl (Nat.le_of_ble_eq_true rfl) rfl rfl (Nat.le_of_ble_eq_true rfl) (Nat.le_of_ble_eq_true rfl) dX11_action_23 (fun r6 u9 hw => ?_)
    obtain ⟨rfl, zr6, hw⟩ := hw
    refine r_if_ne E 35 (by decide) dX11_action_26 (fun c7 => ?_) (fun c7 => ?_)
    · have hw := ite_t hw c7
      refine r_aload_n E 11 0 rfl dX11_action_29 ?_
      refine r_iconst E 2 rfl dX11_action_30 ?_
      refine r_callVI E (m_X11_fails (EE_st E) (GX X) 2 h1 _ hw) lk_X11_147 (RM_mk (Nat.le_of_ble_eq_true rfl) (Nat.le_of_ble_eq_true rfl)) rfl rfl rfl rfl (Nat.le_of_ble_eq_true rfl) (adr_lt (Nat.le_of_ble_eq_true rfl)) (Nat.le_of_ble_eq_true rfl) rfl rfl (Nat.le_of_ble_eq_true rfl) (Nat.le_of_ble_eq_true rfl) dX11_action_31 (fun r8 h9 hw => ?_)
      exact hE _ _ _ _ _ _ (Nat.le_of_ble_eq_true rfl) (Nat.le_of_ble_eq_true rfl) dX11_action_34 rfl hw
    · have hw := ite_f hw c7
      refine r_bipush E 12 rfl dX11_action_35 ?_
      refine r_iload_n E p0 rfl dX11_action_37 ?_
      refine r_imul E dX11_action_38 ?_
      refine r_iload_n E p1 rfl dX11_action_39 ?_
      refine r_iadd E dX11_action_40 ?_
      refine GG_topI fun v10 hv10 => ?_
      have hw := hw v10 hv10
      refine r_istore E [some (rf X 11 0), some (.int p0), some (.int p1), some (.int p2), some (.int p3), some (.int v10)] (Nat.le_of_ble_eq_true rfl) rfl dX11_action_41 ?_
      refine r_aload_n E 11 0 rfl dX11_action_43 ?_
      refine r_getS E fd_X11_78 (t := 0) (j1 := 55) rfl rfl rfl rfl (Nat.le_of_ble_eq_true rfl) (adr_lt (Nat.le_of_ble_eq_true rfl)) dX11_action_44 ?_
      refine r_iload E v10 rfl dX11_action_47 ?_
      obtain ⟨i11, hw⟩ := hw
      refine r_iald E rfl rfl rfl (Nat.le_of_ble_eq_true rfl) (adr_lt (Nat.le_of_ble_eq_true rfl)) i11 dX11_action_49 ?_
      refine r_iconst E 5 rfl dX11_action_50 ?_
      refine r_icmp_ne E 60 (by decide) dX11_action_51 (fun c12 => ?_) (fun c12 => ?_)
      · have hw := ite_t hw c12
        refine r_aload_n E 11 0 rfl dX11_action_54 ?_
        refine r_iconst E 3 rfl dX11_action_55 ?_
        refine r_callVI E (m_X11_fails (EE_st E) (GX X) 3 h1 _ hw) lk_X11_147 (RM_mk (Nat.le_of_ble_eq_true rfl) (Nat.le_of_ble_eq_true rfl)) rfl rfl rfl rfl (Nat.le_of_ble_eq_true rfl) (adr_lt (Nat.le_of_ble_eq_true rfl)) (Nat.le_of_ble_eq_true rfl) rfl rfl (Nat.le_of_ble_eq_true rfl) (Nat.le_of_ble_eq_true rfl) dX11_action_56 (fun r13 h14 hw => ?_)
        exact hE _ _ _ _ _ _ (Nat.le_of_ble_eq_true rfl) (Nat.le_of_ble_eq_true rfl) dX11_action_59 rfl hw
      · have hw := ite_f hw c12
        refine r_aload_n E 11 0 rfl dX11_action_60 ?_
        refine r_getS E fd_X11_81 (t := 0) (j1 := 56) rfl rfl rfl rfl (Nat.le_of_ble_eq_true rfl) (adr_lt (Nat.le_of_ble_eq_true rfl)) dX11_action_61 ?_
        refine r_iconst E 5 rfl dX11_action_64 ?_
        refine r_iload E v10 rfl dX11_action_65 ?_
        refine r_imul E dX11_action_67 ?_
        refine r_aload_n E 11 0 rfl dX11_action_68 ?_
        refine r_getS E fd_X11_78 (t := 0) (j1 := 55) rfl rfl rfl rfl (Nat.le_of_ble_eq_true rfl) (adr_lt (Nat.le_of_ble_eq_true rfl)) dX11_action_69 ?_
        refine r_iload E v10 rfl dX11_action_72 ?_
        refine r_iald E rfl rfl rfl (Nat.le_of_ble_eq_true rfl) (adr_lt (Nat.le_of_ble_eq_true rfl)) i11 dX11_action_74 ?_
        refine r_iadd E dX11_action_75 ?_
        refine r_iload_n E p2 rfl dX11_action_76 ?_
        obtain ⟨i15, hw⟩ := hw
        refine r_cast E rfl rfl rfl (Nat.le_of_ble_eq_true rfl) (adr_lt (Nat.le_of_ble_eq_true rfl)) i15 rfl dX11_action_77 ?_
        refine GG_toph fun h16 hh16 => ?_
        have hw := hw h16 hh16
        refine r_aload_n E 11 0 rfl dX11_action_78 ?_
        refine r_getS E fd_X11_84 (t := 0) (j1 := 57) rfl rfl rfl rfl (Nat.le_of_ble_eq_true rfl) (adr_lt (Nat.le_of_ble_eq_true rfl)) dX11_action_79 ?_
        refine r_iconst E 5 rfl dX11_action_82 ?_
        refine r_iload E v10 rfl dX11_action_83 ?_
        refine r_imul E dX11_action_85 ?_
        refine r_aload_n E 11 0 rfl dX11_action_86 ?_
        refine r_getS E fd_X11_78 (t := 0) (j1 := 55) rfl rfl rfl rfl (Nat.le_of_ble_eq_true rfl) (adr_lt (Nat.le_of_ble_eq_true rfl)) dX11_action_87 ?_
        refine r_iload E v10 rfl dX11_action_90 ?_
        refine r_iald E rfl rfl rfl (Nat.le_of_ble_eq_true rfl) (adr_lt (Nat.le_of_ble_eq_true rfl)) i11 dX11_action_92 ?_
        refine r_iadd E dX11_action_93 ?_
        refine r_iload E p3 rfl dX11_action_94 ?_
        obtain ⟨i17, hw⟩ := hw
        refine r_iast E rfl rfl rfl (Nat.le_of_ble_eq_true rfl) (adr_lt (Nat.le_of_ble_eq_true rfl)) i17 dX11_action_96 ?_
        refine GG_toph fun h18 hh18 => ?_
        have hw := hw h18 hh18
        refine r_aload_n E 11 0 rfl dX11_action_97 ?_
        refine r_getS E fd_X11_78 (t := 0) (j1 := 55) rfl rfl rfl rfl (Nat.le_of_ble_eq_true rfl) (adr_lt (Nat.le_of_ble_eq_true rfl)) dX11_action_98 ?_
        refine r_iload E v10 rfl dX11_action_101 ?_
        refine r_dup2 E rfl rfl dX11_action_103 ?_
        refine r_iald E rfl rfl rfl (Nat.le_of_ble_eq_true rfl) (adr_lt (Nat.le_of_ble_eq_true rfl)) i11 dX11_action_104 ?_
        refine r_iconst E 1 rfl dX11_action_105 ?_
        refine r_iadd E dX11_action_106 ?_
        refine r_iast E rfl rfl rfl (Nat.le_of_ble_eq_true rfl) (adr_lt (Nat.le_of_ble_eq_true rfl)) i11 dX11_action_107 ?_
        refine GG_toph fun h19 hh19 => ?_
        have hw := hw h19 hh19
        refine r_aload_n E 11 0 rfl dX11_action_108 ?_
        refine r_getS E fd_X11_78 (t := 0) (j1 := 55) rfl rfl rfl rfl (Nat.le_of_ble_eq_true rfl) (adr_lt (Nat.le_of_ble_eq_true rfl)) dX11_action_109 ?_
        refine r_iload E v10 rfl dX11_action_112 ?_
        refine r_iald E rfl rfl rfl (Nat.le_of_ble_eq_true rfl) (adr_lt (Nat.le_of_ble_eq_true rfl)) i11 dX11_action_114 ?_
        exact hE _ _ _ _ _ _ (Nat.le_of_ble_eq_true rfl) (Nat.le_of_ble_eq_true rfl) dX11_action_115 rfl hw
set_option maxRecDepth 20000 in
theorem m_X11_clear {l : Launch} (hl : l.stackTraces = false) (G : Gq) (p0 : Int32)  (h : Hp) (Q : Int32 → Hp → Prop) (hw : wp_X11_clear p0 h Q) : MI l G yX11_clear cX11_clear 3 (some .int) rm_X11_clear NT NT h (fun r => [r 11 0, .int p0]) Q := by
  refine MI_of (L0 := (fun X => [some (rf X 11 0), some (.int p0), none])) hl (by decide +kernel) rfl (fun _ => Nat.le_of_ble_eq_true rfl) (fun _ => rfl) fun X hXl hXG E hE => ?_
  subst hXl; subst hXG
  unfold wp_X11_clear at hw
  refine r_aload_n E 11 0 rfl dX11_clear_0 ?_
  refine r_iconst E 0 rfl dX11_clear_1 ?_
  refine r_putI E fd_X11_138 rfl PI_int (Nat.le_of_ble_eq_true rfl) (adr_lt (Nat.le_of_ble_eq_true rfl)) rfl dX11_clear_2 ?_
  refine GG_toph fun h1 hh1 => ?_
  have hw := hw h1 hh1
  refine r_iload_n E p0 rfl dX11_clear_5 ?_
  refine r_iconst E 0 rfl dX11_clear_6 ?_
  refine r_iconst E 3 rfl dX11_clear_7 ?_
  refine r_callSI E (m_X11_in (EE_st E) (GX X) p0 0 3 h1 _ hw) lk_X11_142 (RM_mk (Nat.le_of_ble_eq_true rfl) (Nat.le_of_ble_eq_true rfl)) rfl rfl rfl rfl (Nat.le_of_ble_eq_true rfl) rfl rfl (Nat.le_of_ble_eq_true rfl) (Nat.le_of_ble_eq_true rfl) dX11_clear_8 (fun r2 u9 hw => ?_)
  obtain ⟨rfl, zr2, hw⟩ := hw
  refine r_if_ne E 20 (by decide) dX11_clear_11 (fun c3 => ?_) (fun c3 => ?_)
  · have hw := ite_t hw c3
    refine r_aload_n E 11 0 rfl dX11_clear_14 ?_
    refine r_iconst E 1 rfl dX11_clear_15 ?_
    refine r_callVI E (m_X11_fails (EE_st E) (GX X) 1 h1 _ hw) lk_X11_147 (RM_mk (Nat.le_of_ble_eq_true rfl) (Nat.le_of_ble_eq_true rfl)) rfl rfl rfl rfl (Nat.le_of_ble_eq_true rfl) (adr_lt (Nat.le_of_ble_eq_true rfl)) (Nat.le_of_ble_eq_true rfl) rfl rfl (Nat.le_of_ble_eq_true rfl) (Nat.le_of_ble_eq_true rfl) dX11_clear_16 (fun r4 h5 hw => ?_)
    exact hE _ _ _ _ _ _ (Nat.le_of_ble_eq_true rfl) (Nat.le_of_ble_eq_true rfl) dX11_clear_19 rfl hw
  · have hw := ite_f hw c3
    refine r_aload_n E 11 0 rfl dX11_clear_20 ?_
    refine r_getS E fd_X11_72 (t := 0) (j1 := 53) rfl rfl rfl rfl (Nat.le_of_ble_eq_true rfl) (adr_lt (Nat.le_of_ble_eq_true rfl)) dX11_clear_21 ?_
    refine r_iload_n E p0 rfl dX11_clear_24 ?_
    obtain ⟨i6, hw⟩ := hw
    refine r_iald E rfl rfl rfl (Nat.le_of_ble_eq_true rfl) (adr_lt (Nat.le_of_ble_eq_true rfl)) i6 dX11_clear_25 ?_
    refine GG_topI fun v7 hv7 => ?_
    have hw := hw v7 hv7
    refine r_istore_n E [some (rf X 11 0), some (.int p0), some (.int v7)] rfl (Nat.le_of_ble_eq_true rfl) rfl dX11_clear_26 ?_
    refine r_aload_n E 11 0 rfl dX11_clear_27 ?_
    refine r_getS E fd_X11_72 (t := 0) (j1 := 53) rfl rfl rfl rfl (Nat.le_of_ble_eq_true rfl) (adr_lt (Nat.le_of_ble_eq_true rfl)) dX11_clear_28 ?_
    refine r_iload_n E p0 rfl dX11_clear_31 ?_
    refine r_iconst E 0 rfl dX11_clear_32 ?_
    refine r_iast E rfl rfl rfl (Nat.le_of_ble_eq_true rfl) (adr_lt (Nat.le_of_ble_eq_true rfl)) i6 dX11_clear_33 ?_
    refine GG_toph fun h8 hh8 => ?_
    have hw := hw h8 hh8
    refine r_iload_n E v7 rfl dX11_clear_34 ?_
    exact hE _ _ _ _ _ _ (Nat.le_of_ble_eq_true rfl) (Nat.le_of_ble_eq_true rfl) dX11_clear_35 rfl hw
set_option maxRecDepth 20000 in
theorem t_X11_exchanges_b57F {X : Ctx} (h : Hp) (x1 : Int32) (x2 : Int32) (x5 : Int32)  (E : EE X cX11_exchanges RX11 8 1 24 0 0) {Q : Hp → Prop} (hE : ENDv X cX11_exchanges Q NT 0 0)  (P57 : Int32 → Hp → Prop) (hP57 : ∀ (y5 : Int32) (u : Hp), P57 y5 u → GG X 0 0 NT u [some (rf X 11 0), some (.int x1), some (.int x2), none, none, some (.int y5), none, none] 57 []) (hw : wp_X11_exchanges_b57F x1 x2   Q P57 x5 h) : GG X 0 0 NT h [some (rf X 11 0), some (.int x1), some (.int x2), none, none, some (.int x5), none, none] 57 [] := by
  unfold wp_X11_exchanges_b57F at hw
  refine r_iload E x5 rfl dX11_exchanges_57 ?_
  refine r_iconst E 5 rfl dX11_exchanges_59 ?_
  refine r_icmp_ge E 165 (by decide) dX11_exchanges_60 (fun c1 => ?_) (fun c1 => ?_)
  · have hw := ite_t hw c1
    exact hE _ _ _ _ _ (Nat.le_of_ble_eq_true rfl) (Nat.le_of_ble_eq_true rfl) dX11_exchanges_165 hw
  · have hw := ite_f hw c1
    refine r_aload_n E 11 0 rfl dX11_exchanges_63 ?_
    refine r_getS E fd_X11_81 (t := 0) (j1 := 56) rfl rfl rfl rfl (Nat.le_of_ble_eq_true rfl) (adr_lt (Nat.le_of_ble_eq_true rfl)) dX11_exchanges_64 ?_
    refine r_iconst E 5 rfl dX11_exchanges_67 ?_
    refine r_iload_n E x1 rfl dX11_exchanges_68 ?_
    refine r_imul E dX11_exchanges_69 ?_
    refine r_iload E x5 rfl dX11_exchanges_70 ?_
    refine r_iadd E dX11_exchanges_72 ?_
    obtain ⟨i2, hw⟩ := hw
    refine r_cald E rfl rfl rfl (Nat.le_of_ble_eq_true rfl) (adr_lt (Nat.le_of_ble_eq_true rfl)) i2 dX11_exchanges_73 ?_
    refine GG_topI fun v3 hv3 => ?_
    have hw := hw v3 hv3
    refine r_istore E [some (rf X 11 0), some (.int x1), some (.int x2), none, none, some (.int x5), some (.int v3), none] (Nat.le_of_ble_eq_true rfl) rfl dX11_exchanges_74 ?_
    refine r_aload_n E 11 0 rfl dX11_exchanges_76 ?_
    refine r_getS E fd_X11_81 (t := 0) (j1 := 56) rfl rfl rfl rfl (Nat.le_of_ble_eq_true rfl) (adr_lt (Nat.le_of_ble_eq_true rfl)) dX11_exchanges_77 ?_
    refine r_iconst E 5 rfl dX11_exchanges_80 ?_
    refine r_iload_n E x1 rfl dX11_exchanges_81 ?_
    refine r_imul E dX11_exchanges_82 ?_
    refine r_iload E x5 rfl dX11_exchanges_83 ?_
    refine r_iadd E dX11_exchanges_85 ?_
    refine r_aload_n E 11 0 rfl dX11_exchanges_86 ?_
    refine r_getS E fd_X11_81 (t := 0) (j1 := 56) rfl rfl rfl rfl (Nat.le_of_ble_eq_true rfl) (adr_lt (Nat.le_of_ble_eq_true rfl)) dX11_exchanges_87 ?_
    refine r_iconst E 5 rfl dX11_exchanges_90 ?_
    refine r_iload_n E x2 rfl dX11_exchanges_91 ?_
    refine r_imul E dX11_exchanges_92 ?_
    refine r_iload E x5 rfl dX11_exchanges_93 ?_
    refine r_iadd E dX11_exchanges_95 ?_
    obtain ⟨i4, hw⟩ := hw
    refine r_cald E rfl rfl rfl (Nat.le_of_ble_eq_true rfl) (adr_lt (Nat.le_of_ble_eq_true rfl)) i4 dX11_exchanges_96 ?_
    refine r_cast E rfl rfl rfl (Nat.le_of_ble_eq_true rfl) (adr_lt (Nat.le_of_ble_eq_true rfl)) i2 rfl dX11_exchanges_97 ?_
    refine GG_toph fun h5 hh5 => ?_
    have hw := hw h5 hh5
    refine r_aload_n E 11 0 rfl dX11_exchanges_98 ?_
    refine r_getS E fd_X11_81 (t := 0) (j1 := 56) rfl rfl rfl rfl (Nat.le_of_ble_eq_true rfl) (adr_lt (Nat.le_of_ble_eq_true rfl)) dX11_exchanges_99 ?_
    refine r_iconst E 5 rfl dX11_exchanges_102 ?_
    refine r_iload_n E x2 rfl dX11_exchanges_103 ?_
    refine r_imul E dX11_exchanges_104 ?_
    refine r_iload E x5 rfl dX11_exchanges_105 ?_
    refine r_iadd E dX11_exchanges_107 ?_
    refine r_iload E v3 rfl dX11_exchanges_108 ?_
    refine r_cast E rfl rfl rfl (Nat.le_of_ble_eq_true rfl) (adr_lt (Nat.le_of_ble_eq_true rfl)) i4 rfl dX11_exchanges_110 ?_
    refine GG_toph fun h6 hh6 => ?_
    have hw := hw h6 hh6
    refine r_aload_n E 11 0 rfl dX11_exchanges_111 ?_
    refine r_getS E fd_X11_84 (t := 0) (j1 := 57) rfl rfl rfl rfl (Nat.le_of_ble_eq_true rfl) (adr_lt (Nat.le_of_ble_eq_true rfl)) dX11_exchanges_112 ?_
    refine r_iconst E 5 rfl dX11_exchanges_115 ?_
    refine r_iload_n E x1 rfl dX11_exchanges_116 ?_
    refine r_imul E dX11_exchanges_117 ?_
    refine r_iload E x5 rfl dX11_exchanges_118 ?_
    refine r_iadd E dX11_exchanges_120 ?_
    refine r_iald E rfl rfl rfl (Nat.le_of_ble_eq_true rfl) (adr_lt (Nat.le_of_ble_eq_true rfl)) i2 dX11_exchanges_121 ?_
    refine GG_topI fun v7 hv7 => ?_
    have hw := hw v7 hv7
    refine r_istore E [some (rf X 11 0), some (.int x1), some (.int x2), none, none, some (.int x5), some (.int v3), some (.int v7)] (Nat.le_of_ble_eq_true rfl) rfl dX11_exchanges_122 ?_
    refine r_aload_n E 11 0 rfl dX11_exchanges_124 ?_
    refine r_getS E fd_X11_84 (t := 0) (j1 := 57) rfl rfl rfl rfl (Nat.le_of_ble_eq_true rfl) (adr_lt (Nat.le_of_ble_eq_true rfl)) dX11_exchanges_125 ?_
    refine r_iconst E 5 rfl dX11_exchanges_128 ?_
    refine r_iload_n E x1 rfl dX11_exchanges_129 ?_
    refine r_imul E dX11_exchanges_130 ?_
    refine r_iload E x5 rfl dX11_exchanges_131 ?_
    refine r_iadd E dX11_exchanges_133 ?_
    refine r_aload_n E 11 0 rfl dX11_exchanges_134 ?_
    refine r_getS E fd_X11_84 (t := 0) (j1 := 57) rfl rfl rfl rfl (Nat.le_of_ble_eq_true rfl) (adr_lt (Nat.le_of_ble_eq_true rfl)) dX11_exchanges_135 ?_
    refine r_iconst E 5 rfl dX11_exchanges_138 ?_
    refine r_iload_n E x2 rfl dX11_exchanges_139 ?_
    refine r_imul E dX11_exchanges_140 ?_
    refine r_iload E x5 rfl dX11_exchanges_141 ?_
    refine r_iadd E dX11_exchanges_143 ?_
    refine r_iald E rfl rfl rfl (Nat.le_of_ble_eq_true rfl) (adr_lt (Nat.le_of_ble_eq_true rfl)) i4 dX11_exchanges_144 ?_
    refine r_iast E rfl rfl rfl (Nat.le_of_ble_eq_true rfl) (adr_lt (Nat.le_of_ble_eq_true rfl)) i2 dX11_exchanges_145 ?_
    refine GG_toph fun h8 hh8 => ?_
    have hw := hw h8 hh8
    refine r_aload_n E 11 0 rfl dX11_exchanges_146 ?_
    refine r_getS E fd_X11_84 (t := 0) (j1 := 57) rfl rfl rfl rfl (Nat.le_of_ble_eq_true rfl) (adr_lt (Nat.le_of_ble_eq_true rfl)) dX11_exchanges_147 ?_
    refine r_iconst E 5 rfl dX11_exchanges_150 ?_
    refine r_iload_n E x2 rfl dX11_exchanges_151 ?_
    refine r_imul E dX11_exchanges_152 ?_
    refine r_iload E x5 rfl dX11_exchanges_153 ?_
    refine r_iadd E dX11_exchanges_155 ?_
    refine r_iload E v7 rfl dX11_exchanges_156 ?_
    refine r_iast E rfl rfl rfl (Nat.le_of_ble_eq_true rfl) (adr_lt (Nat.le_of_ble_eq_true rfl)) i4 dX11_exchanges_158 ?_
    refine GG_toph fun h9 hh9 => ?_
    have hw := hw h9 hh9
    obtain ⟨v10, hv10⟩ : ∃ y : Int32, y = x5 + 1 := ⟨_, rfl⟩
    have hw := hw v10 hv10
    refine r_iinc E x5 v10 [some (rf X 11 0), some (.int x1), some (.int x2), none, none, some (.int v10), some (.int v3), some (.int v7)] rfl (by rw [hv10]; rfl) (Nat.le_of_ble_eq_true rfl) rfl dX11_exchanges_159 ?_
    refine r_goto E 57 (by decide) dX11_exchanges_162 ?_
    exact GG_weak [true, true, true, false, false, true, false, false] rfl (hP57 _ _ hw)
set_option maxRecDepth 20000 in
theorem t_X11_exchanges_b57 {X : Ctx} (h : Hp) (x1 : Int32) (x2 : Int32) (x5 : Int32)  (E : EE X cX11_exchanges RX11 8 1 24 0 0) {Q : Hp → Prop} (hE : ENDv X cX11_exchanges Q NT 0 0)  (hw : wp_X11_exchanges_b57 x1 x2 x5 h  Q) : GG X 0 0 NT h [some (rf X 11 0), some (.int x1), some (.int x2), none, none, some (.int x5), none, none] 57 [] :=
  hw (fun y5 u => GG X 0 0 NT u [some (rf X 11 0), some (.int x1), some (.int x2), none, none, some (.int y5), none, none] 57 []) (fun y5 u hq => t_X11_exchanges_b57F u x1 x2 y5  E hE  (fun y5 u => GG X 0 0 NT u [some (rf X 11 0), some (.int x1), some (.int x2), none, none, some (.int y5), none, none] 57 []) (fun y5 u q => q) hq)
set_option maxRecDepth 20000 in
theorem m_X11_exchanges {l : Launch} (hl : l.stackTraces = false) (G : Gq) (p0 : Int32) (p1 : Int32)  (h : Hp) (Q : Hp → Prop) (hw : wp_X11_exchanges p0 p1 h Q) : MV l G yX11_exchanges cX11_exchanges 8 none rm_X11_exchanges NT NT h (fun r => [r 11 0, .int p0, .int p1]) Q := by
  refine MV_of (L0 := (fun X => [some (rf X 11 0), some (.int p0), some (.int p1), none, none, none, none, none])) hl (by decide +kernel) rfl (fun _ => Nat.le_of_ble_eq_true rfl) (fun _ => rfl) fun X hXl hXG E hE => ?_
  subst hXl; subst hXG
  unfold wp_X11_exchanges at hw
  refine r_aload_n E 11 0 rfl dX11_exchanges_0 ?_
  refine r_getS E fd_X11_75 (t := 0) (j1 := 54) rfl rfl rfl rfl (Nat.le_of_ble_eq_true rfl) (adr_lt (Nat.le_of_ble_eq_true rfl)) dX11_exchanges_1 ?_
  refine r_iload_n E p0 rfl dX11_exchanges_4 ?_
  obtain ⟨i1, hw⟩ := hw
  refine r_iald E rfl rfl rfl (Nat.le_of_ble_eq_true rfl) (adr_lt (Nat.le_of_ble_eq_true rfl)) i1 dX11_exchanges_5 ?_
  refine GG_topI fun v2 hv2 => ?_
  have hw := hw v2 hv2
  refine r_istore_n E [some (rf X 11 0), some (.int p0), some (.int p1), some (.int v2), none, none, none, none] rfl (Nat.le_of_ble_eq_true rfl) rfl dX11_exchanges_6 ?_
  refine r_aload_n E 11 0 rfl dX11_exchanges_7 ?_
  refine r_getS E fd_X11_75 (t := 0) (j1 := 54) rfl rfl rfl rfl (Nat.le_of_ble_eq_true rfl) (adr_lt (Nat.le_of_ble_eq_true rfl)) dX11_exchanges_8 ?_
  refine r_iload_n E p0 rfl dX11_exchanges_11 ?_
  refine r_aload_n E 11 0 rfl dX11_exchanges_12 ?_
  refine r_getS E fd_X11_75 (t := 0) (j1 := 54) rfl rfl rfl rfl (Nat.le_of_ble_eq_true rfl) (adr_lt (Nat.le_of_ble_eq_true rfl)) dX11_exchanges_13 ?_
  refine r_iload_n E p1 rfl dX11_exchanges_16 ?_
  obtain ⟨i3, hw⟩ := hw
  refine r_iald E rfl rfl rfl (Nat.le_of_ble_eq_true rfl) (adr_lt (Nat.le_of_ble_eq_true rfl)) i3 dX11_exchanges_17 ?_
  refine r_iast E rfl rfl rfl (Nat.le_of_ble_eq_true rfl) (adr_lt (Nat.le_of_ble_eq_true rfl)) i1 dX11_exchanges_18 ?_
  refine GG_toph fun h4 hh4 => ?_
  have hw := hw h4 hh4
  refine r_aload_n E 11 0 rfl dX11_exchanges_19 ?_
  refine r_getS E fd_X11_75 (t := 0) (j1 := 54) rfl rfl rfl rfl (Nat.le_of_ble_eq_true rfl) (adr_lt (Nat.le_of_ble_eq_true rfl)) dX11_exchanges_20 ?_
  refine r_iload_n E p1 rfl dX11_exchanges_23 ?_
  refine r_iload_n E v2 rfl dX11_exchanges_24 ?_
  refine r_iast E rfl rfl rfl (Nat.le_of_ble_eq_true rfl) (adr_lt (Nat.le_of_ble_eq_true rfl)) i3 dX11_exchanges_25 ?_
  refine GG_toph fun h5 hh5 => ?_
  have hw := hw h5 hh5
  refine r_aload_n E 11 0 rfl dX11_exchanges_26 ?_
  refine r_getS E fd_X11_78 (t := 0) (j1 := 55) rfl rfl rfl rfl (Nat.le_of_ble_eq_true rfl) (adr_lt (Nat.le_of_ble_eq_true rfl)) dX11_exchanges_27 ?_
  refine r_iload_n E p0 rfl dX11_exchanges_30 ?_
  refine r_iald E rfl rfl rfl (Nat.le_of_ble_eq_true rfl) (adr_lt (Nat.le_of_ble_eq_true rfl)) i1 dX11_exchanges_31 ?_
  refine GG_topI fun v6 hv6 => ?_
  have hw := hw v6 hv6
  refine r_istore E [some (rf X 11 0), some (.int p0), some (.int p1), some (.int v2), some (.int v6), none, none, none] (Nat.le_of_ble_eq_true rfl) rfl dX11_exchanges_32 ?_
  refine r_aload_n E 11 0 rfl dX11_exchanges_34 ?_
  refine r_getS E fd_X11_78 (t := 0) (j1 := 55) rfl rfl rfl rfl (Nat.le_of_ble_eq_true rfl) (adr_lt (Nat.le_of_ble_eq_true rfl)) dX11_exchanges_35 ?_
  refine r_iload_n E p0 rfl dX11_exchanges_38 ?_
  refine r_aload_n E 11 0 rfl dX11_exchanges_39 ?_
  refine r_getS E fd_X11_78 (t := 0) (j1 := 55) rfl rfl rfl rfl (Nat.le_of_ble_eq_true rfl) (adr_lt (Nat.le_of_ble_eq_true rfl)) dX11_exchanges_40 ?_
  refine r_iload_n E p1 rfl dX11_exchanges_43 ?_
  refine r_iald E rfl rfl rfl (Nat.le_of_ble_eq_true rfl) (adr_lt (Nat.le_of_ble_eq_true rfl)) i3 dX11_exchanges_44 ?_
  refine r_iast E rfl rfl rfl (Nat.le_of_ble_eq_true rfl) (adr_lt (Nat.le_of_ble_eq_true rfl)) i1 dX11_exchanges_45 ?_
  refine GG_toph fun h7 hh7 => ?_
  have hw := hw h7 hh7
  refine r_aload_n E 11 0 rfl dX11_exchanges_46 ?_
  refine r_getS E fd_X11_78 (t := 0) (j1 := 55) rfl rfl rfl rfl (Nat.le_of_ble_eq_true rfl) (adr_lt (Nat.le_of_ble_eq_true rfl)) dX11_exchanges_47 ?_
  refine r_iload_n E p1 rfl dX11_exchanges_50 ?_
  refine r_iload E v6 rfl dX11_exchanges_51 ?_
  refine r_iast E rfl rfl rfl (Nat.le_of_ble_eq_true rfl) (adr_lt (Nat.le_of_ble_eq_true rfl)) i3 dX11_exchanges_53 ?_
  refine GG_toph fun h8 hh8 => ?_
  have hw := hw h8 hh8
  refine r_iconst E 0 rfl dX11_exchanges_54 ?_
  refine r_istore E [some (rf X 11 0), some (.int p0), some (.int p1), some (.int v2), some (.int v6), some (.int 0), none, none] (Nat.le_of_ble_eq_true rfl) rfl dX11_exchanges_55 ?_
  exact GG_weak [true, true, true, false, false, true, false, false] rfl (t_X11_exchanges_b57 h8 p0 p1 0 E hE  hw)
set_option maxRecDepth 20000 in
theorem t_X11_reorder_b23 {X : Ctx} (h : Hp)   (E : EE X cX11_reorder RX11 5 3 68 0 0) {Q : Int32 → Hp → Prop} (hE : ENDi X cX11_reorder .int Q NT 0 0)  (hw : wp_X11_reorder_b23  h  Q) : GG X 0 0 NT h [some (rf X 11 0), none, none, none, none] 23 [] := by
  unfold wp_X11_reorder_b23 at hw
  refine r_aload_n E 11 0 rfl dX11_reorder_23 ?_
  refine r_iconst E 1 rfl dX11_reorder_24 ?_
  refine r_callVI E (m_X11_fails (EE_st E) (GX X) 1 h _ hw) lk_X11_147 (RM_mk (Nat.le_of_ble_eq_true rfl) (Nat.le_of_ble_eq_true rfl)) rfl rfl rfl rfl (Nat.le_of_ble_eq_true rfl) (adr_lt (Nat.le_of_ble_eq_true rfl)) (Nat.le_of_ble_eq_true rfl) rfl rfl (Nat.le_of_ble_eq_true rfl) (Nat.le_of_ble_eq_true rfl) dX11_reorder_25 (fun r1 h2 hw => ?_)
  exact hE _ _ _ _ _ _ (Nat.le_of_ble_eq_true rfl) (Nat.le_of_ble_eq_true rfl) dX11_reorder_28 rfl hw
set_option maxRecDepth 20000 in
theorem t_X11_reorder_b67F {X : Ctx} (h : Hp) (x1 : Int32) (x3 : Int32) (x4 : Int32)  (E : EE X cX11_reorder RX11 5 3 68 0 0) {Q : Int32 → Hp → Prop} (hE : ENDi X cX11_reorder .int Q NT 0 0)  (P67 : Int32 → Hp → Prop) (hP67 : ∀ (y4 : Int32) (u : Hp), P67 y4 u → GG X 0 0 NT u [some (rf X 11 0), some (.int x1), none, some (.int x3), some (.int y4)] 67 []) (hw : wp_X11_reorder_b67F x1 x3   Q P67 x4 h) : GG X 0 0 NT h [some (rf X 11 0), some (.int x1), none, some (.int x3), some (.int x4)] 67 [] := by
  unfold wp_X11_reorder_b67F at hw
  refine r_iload E x4 rfl dX11_reorder_67 ?_
  refine r_iload_n E x3 rfl dX11_reorder_69 ?_
  refine r_icmp_le E 99 (by decide) dX11_reorder_70 (fun c1 => ?_) (fun c1 => ?_)
  · have hw := ite_t hw c1
    refine r_aload_n E 11 0 rfl dX11_reorder_99 ?_
    refine r_getS E fd_X11_72 (t := 0) (j1 := 53) rfl rfl rfl rfl (Nat.le_of_ble_eq_true rfl) (adr_lt (Nat.le_of_ble_eq_true rfl)) dX11_reorder_100 ?_
    refine r_iload_n E x1 rfl dX11_reorder_103 ?_
    obtain ⟨i2, hw⟩ := hw
    refine r_iald E rfl rfl rfl (Nat.le_of_ble_eq_true rfl) (adr_lt (Nat.le_of_ble_eq_true rfl)) i2 dX11_reorder_104 ?_
    exact hE _ _ _ _ _ _ (Nat.le_of_ble_eq_true rfl) (Nat.le_of_ble_eq_true rfl) dX11_reorder_105 rfl hw
  · have hw := ite_f hw c1
    refine r_aload_n E 11 0 rfl dX11_reorder_73 ?_
    refine r_bipush E 12 rfl dX11_reorder_74 ?_
    refine r_iload_n E x1 rfl dX11_reorder_76 ?_
    refine r_imul E dX11_reorder_77 ?_
    refine r_iload E x4 rfl dX11_reorder_78 ?_
    refine r_iadd E dX11_reorder_80 ?_
    refine r_bipush E 12 rfl dX11_reorder_81 ?_
    refine r_iload_n E x1 rfl dX11_reorder_83 ?_
    refine r_imul E dX11_reorder_84 ?_
    refine r_iload E x4 rfl dX11_reorder_85 ?_
    refine r_iadd E dX11_reorder_87 ?_
    refine r_iconst E 1 rfl dX11_reorder_88 ?_
    refine r_isub E dX11_reorder_89 ?_
    refine r_callVV E (m_X11_exchanges (EE_st E) (GX X) ((12 * x1) + x4) (((12 * x1) + x4) - 1) h _ hw) lk_X11_203 (RM_mk (Nat.le_of_ble_eq_true rfl) (Nat.le_of_ble_eq_true rfl)) rfl rfl rfl rfl (Nat.le_of_ble_eq_true rfl) (adr_lt (Nat.le_of_ble_eq_true rfl)) (Nat.le_of_ble_eq_true rfl) rfl rfl (Nat.le_of_ble_eq_true rfl) (Nat.le_of_ble_eq_true rfl) dX11_reorder_90 (fun h3 hw => ?_)
    obtain ⟨v4, hv4⟩ : ∃ y : Int32, y = x4 + (-1) := ⟨_, rfl⟩
    have hw := hw v4 hv4
    refine r_iinc E x4 v4 [some (rf X 11 0), some (.int x1), none, some (.int x3), some (.int v4)] rfl (by rw [hv4]; rfl) (Nat.le_of_ble_eq_true rfl) rfl dX11_reorder_93 ?_
    refine r_goto E 67 (by decide) dX11_reorder_96 ?_
    exact GG_weak [true, true, false, true, true] rfl (hP67 _ _ hw)
set_option maxRecDepth 20000 in
theorem t_X11_reorder_b67 {X : Ctx} (h : Hp) (x1 : Int32) (x3 : Int32) (x4 : Int32)  (E : EE X cX11_reorder RX11 5 3 68 0 0) {Q : Int32 → Hp → Prop} (hE : ENDi X cX11_reorder .int Q NT 0 0)  (hw : wp_X11_reorder_b67 x1 x3 x4 h  Q) : GG X 0 0 NT h [some (rf X 11 0), some (.int x1), none, some (.int x3), some (.int x4)] 67 [] :=
  hw (fun y4 u => GG X 0 0 NT u [some (rf X 11 0), some (.int x1), none, some (.int x3), some (.int y4)] 67 []) (fun y4 u hq => t_X11_reorder_b67F u x1 x3 y4  E hE  (fun y4 u => GG X 0 0 NT u [some (rf X 11 0), some (.int x1), none, some (.int x3), some (.int y4)] 67 []) (fun y4 u q => q) hq)
set_option maxRecDepth 20000 in
theorem t_X11_reorder_b32F {X : Ctx} (h : Hp) (x1 : Int32) (x2 : Int32) (x3 : Int32) (x4 : Int32)  (E : EE X cX11_reorder RX11 5 3 68 0 0) {Q : Int32 → Hp → Prop} (hE : ENDi X cX11_reorder .int Q NT 0 0)  (P32 : Int32 → Hp → Prop) (hP32 : ∀ (y4 : Int32) (u : Hp), P32 y4 u → GG X 0 0 NT u [some (rf X 11 0), some (.int x1), some (.int x2), some (.int x3), some (.int y4)] 32 []) (hw : wp_X11_reorder_b32F x1 x2 x3   Q P32 x4 h) : GG X 0 0 NT h [some (rf X 11 0), some (.int x1), some (.int x2), some (.int x3), some (.int x4)] 32 [] := by
  unfold wp_X11_reorder_b32F at hw
  refine r_iload E x4 rfl dX11_reorder_32 ?_
  refine r_iload_n E x3 rfl dX11_reorder_34 ?_
  refine r_icmp_ge E 64 (by decide) dX11_reorder_35 (fun c1 => ?_) (fun c1 => ?_)
  · have hw := ite_t hw c1
    refine r_iload_n E x2 rfl dX11_reorder_64 ?_
    refine r_istore E [some (rf X 11 0), some (.int x1), some (.int x2), some (.int x3), some (.int x2)] (Nat.le_of_ble_eq_true rfl) rfl dX11_reorder_65 ?_
    exact GG_weak [true, true, false, true, true] rfl (t_X11_reorder_b67 h x1 x3 x2 E hE  hw)
  · have hw := ite_f hw c1
    refine r_aload_n E 11 0 rfl dX11_reorder_38 ?_
    refine r_bipush E 12 rfl dX11_reorder_39 ?_
    refine r_iload_n E x1 rfl dX11_reorder_41 ?_
    refine r_imul E dX11_reorder_42 ?_
    refine r_iload E x4 rfl dX11_reorder_43 ?_
    refine r_iadd E dX11_reorder_45 ?_
    refine r_bipush E 12 rfl dX11_reorder_46 ?_
    refine r_iload_n E x1 rfl dX11_reorder_48 ?_
    refine r_imul E dX11_reorder_49 ?_
    refine r_iload E x4 rfl dX11_reorder_50 ?_
    refine r_iadd E dX11_reorder_52 ?_
    refine r_iconst E 1 rfl dX11_reorder_53 ?_
    refine r_iadd E dX11_reorder_54 ?_
    refine r_callVV E (m_X11_exchanges (EE_st E) (GX X) ((12 * x1) + x4) (((12 * x1) + x4) + 1) h _ hw) lk_X11_203 (RM_mk (Nat.le_of_ble_eq_true rfl) (Nat.le_of_ble_eq_true rfl)) rfl rfl rfl rfl (Nat.le_of_ble_eq_true rfl) (adr_lt (Nat.le_of_ble_eq_true rfl)) (Nat.le_of_ble_eq_true rfl) rfl rfl (Nat.le_of_ble_eq_true rfl) (Nat.le_of_ble_eq_true rfl) dX11_reorder_55 (fun h2 hw => ?_)
    obtain ⟨v3, hv3⟩ : ∃ y : Int32, y = x4 + 1 := ⟨_, rfl⟩
    have hw := hw v3 hv3
    refine r_iinc E x4 v3 [some (rf X 11 0), some (.int x1), some (.int x2), some (.int x3), some (.int v3)] rfl (by rw [hv3]; rfl) (Nat.le_of_ble_eq_true rfl) rfl dX11_reorder_58 ?_
    refine r_goto E 32 (by decide) dX11_reorder_61 ?_
    exact GG_weak [true, true, true, true, true] rfl (hP32 _ _ hw)
set_option maxRecDepth 20000 in
theorem t_X11_reorder_b32 {X : Ctx} (h : Hp) (x1 : Int32) (x2 : Int32) (x3 : Int32) (x4 : Int32)  (E : EE X cX11_reorder RX11 5 3 68 0 0) {Q : Int32 → Hp → Prop} (hE : ENDi X cX11_reorder .int Q NT 0 0)  (hw : wp_X11_reorder_b32 x1 x2 x3 x4 h  Q) : GG X 0 0 NT h [some (rf X 11 0), some (.int x1), some (.int x2), some (.int x3), some (.int x4)] 32 [] :=
  hw (fun y4 u => GG X 0 0 NT u [some (rf X 11 0), some (.int x1), some (.int x2), some (.int x3), some (.int y4)] 32 []) (fun y4 u hq => t_X11_reorder_b32F u x1 x2 x3 y4  E hE  (fun y4 u => GG X 0 0 NT u [some (rf X 11 0), some (.int x1), some (.int x2), some (.int x3), some (.int y4)] 32 []) (fun y4 u q => q) hq)
set_option maxRecDepth 20000 in
theorem m_X11_reorder {l : Launch} (hl : l.stackTraces = false) (G : Gq) (p0 : Int32) (p1 : Int32) (p2 : Int32)  (h : Hp) (Q : Int32 → Hp → Prop) (hw : wp_X11_reorder p0 p1 p2 h Q) : MI l G yX11_reorder cX11_reorder 5 (some .int) rm_X11_reorder NT NT h (fun r => [r 11 0, .int p0, .int p1, .int p2]) Q := by
  refine MI_of (L0 := (fun X => [some (rf X 11 0), some (.int p0), some (.int p1), some (.int p2), none])) hl (by decide +kernel) rfl (fun _ => Nat.le_of_ble_eq_true rfl) (fun _ => rfl) fun X hXl hXG E hE => ?_
  subst hXl; subst hXG
  unfold wp_X11_reorder at hw
  refine r_aload_n E 11 0 rfl dX11_reorder_0 ?_
  refine r_iconst E 0 rfl dX11_reorder_1 ?_
  refine r_putI E fd_X11_138 rfl PI_int (Nat.le_of_ble_eq_true rfl) (adr_lt (Nat.le_of_ble_eq_true rfl)) rfl dX11_reorder_2 ?_
  refine GG_toph fun h1 hh1 => ?_
  have hw := hw h1 hh1
  refine r_aload_n E 11 0 rfl dX11_reorder_5 ?_
  refine r_iload_n E p0 rfl dX11_reorder_6 ?_
  refine r_iload_n E p1 rfl dX11_reorder_7 ?_
  refine r_callVI E (m_X11_isRule (EE_st E) (GX X) p0 p1 h1 _ hw) lk_X11_197 (RM_mk (Nat.le_of_ble_eq_true rfl) (Nat.le_of_ble_eq_true rfl)) rfl rfl rfl rfl (Nat.le_of_ble_eq_true rfl) (adr_lt (Nat.le_of_ble_eq_true rfl)) (Nat.le_of_ble_eq_true rfl) rfl rfl (Nat.le_of_ble_eq_true rfl) (Nat.le_of_ble_eq_true rfl) dX11_reorder_8 (fun r2 u9 hw => ?_)
  obtain ⟨rfl, zr2, hw⟩ := hw
  refine r_if_eq E 23 (by decide) dX11_reorder_11 (fun c3 => ?_) (fun c3 => ?_)
  · have hw := ite_t hw c3
    exact GG_weak [true, false, false, false, false] rfl (t_X11_reorder_b23 h1  E hE  hw)
  · have hw := ite_f hw c3
    refine r_aload_n E 11 0 rfl dX11_reorder_14 ?_
    refine r_iload_n E p0 rfl dX11_reorder_15 ?_
    refine r_iload_n E p2 rfl dX11_reorder_16 ?_
    refine r_callVI E (m_X11_isRule (EE_st E) (GX X) p0 p2 h1 _ hw) lk_X11_197 (RM_mk (Nat.le_of_ble_eq_true rfl) (Nat.le_of_ble_eq_true rfl)) rfl rfl rfl rfl (Nat.le_of_ble_eq_true rfl) (adr_lt (Nat.le_of_ble_eq_true rfl)) (Nat.le_of_ble_eq_true rfl) rfl rfl (Nat.le_of_ble_eq_true rfl) (Nat.le_of_ble_eq_true rfl) dX11_reorder_17 (fun r4 u9 hw => ?_)
    obtain ⟨rfl, zr4, hw⟩ := hw
    refine r_if_ne E 29 (by decide) dX11_reorder_20 (fun c5 => ?_) (fun c5 => ?_)
    · have hw := ite_t hw c5
      exact GG_weak [true, false, false, false, false] rfl (t_X11_reorder_b23 h1  E hE  hw)
    · have hw := ite_f hw c5
      refine r_iload_n E p1 rfl dX11_reorder_29 ?_
      refine r_istore E [some (rf X 11 0), some (.int p0), some (.int p1), some (.int p2), some (.int p1)] (Nat.le_of_ble_eq_true rfl) rfl dX11_reorder_30 ?_
      exact GG_weak [true, true, true, true, true] rfl (t_X11_reorder_b32 h1 p0 p1 p2 p1 E hE  hw)
set_option maxRecDepth 20000 in
theorem m_X11_does {l : Launch} (hl : l.stackTraces = false) (G : Gq) (p0 : Int32)  (h : Hp) (Q : Int32 → Hp → Prop) (hw : wp_X11_does p0 h Q) : MI l G yX11_does cX11_does 2 (some .boolean) rm_X11_does NT NT h (fun r => [r 11 0, .int p0]) (fun r u => isB r ∧ Q r u) := by
  refine MI_of (L0 := (fun X => [some (rf X 11 0), some (.int p0)])) hl (by decide +kernel) rfl (fun _ => Nat.le_of_ble_eq_true rfl) (fun _ => rfl) fun X hXl hXG E hE => ?_
  subst hXl; subst hXG
  unfold wp_X11_does at hw
  refine r_aload_n E 11 0 rfl dX11_does_0 ?_
  refine r_getI E fd_X11_207 rfl (Nat.le_of_ble_eq_true rfl) (adr_lt (Nat.le_of_ble_eq_true rfl)) dX11_does_1 ?_
  refine r_sipush E 200 rfl dX11_does_4 ?_
  refine r_icmp_ne E 17 (by decide) dX11_does_7 (fun c1 => ?_) (fun c1 => ?_)
  · have hw := ite_t hw c1
    refine r_aload_n E 11 0 rfl dX11_does_10 ?_
    refine r_iconst E (-1) rfl dX11_does_11 ?_
    refine r_putI E fd_X11_210 rfl PI_int (Nat.le_of_ble_eq_true rfl) (adr_lt (Nat.le_of_ble_eq_true rfl)) rfl dX11_does_12 ?_
    refine GG_toph fun h2 hh2 => ?_
    have hw := hw h2 hh2
    refine r_iconst E 0 rfl dX11_does_15 ?_
    exact hE _ _ _ _ _ _ (Nat.le_of_ble_eq_true rfl) (Nat.le_of_ble_eq_true rfl) dX11_does_16 (isB_nar isB_0) ⟨isB_0, hw⟩
  · have hw := ite_f hw c1
    refine r_aload_n E 11 0 rfl dX11_does_17 ?_
    refine r_getS E fd_X11_99 (t := 0) (j1 := 62) rfl rfl rfl rfl (Nat.le_of_ble_eq_true rfl) (adr_lt (Nat.le_of_ble_eq_true rfl)) dX11_does_18 ?_
    refine r_aload_n E 11 0 rfl dX11_does_21 ?_
    refine r_getI E fd_X11_207 rfl (Nat.le_of_ble_eq_true rfl) (adr_lt (Nat.le_of_ble_eq_true rfl)) dX11_does_22 ?_
    refine r_iload_n E p0 rfl dX11_does_25 ?_
    obtain ⟨i3, hw⟩ := hw
    refine r_iast E rfl rfl rfl (Nat.le_of_ble_eq_true rfl) (adr_lt (Nat.le_of_ble_eq_true rfl)) i3 dX11_does_26 ?_
    refine GG_toph fun h4 hh4 => ?_
    have hw := hw h4 hh4
    refine r_aload_n E 11 0 rfl dX11_does_27 ?_
    refine r_dup E rfl dX11_does_28 ?_
    refine r_getI E fd_X11_207 rfl (Nat.le_of_ble_eq_true rfl) (adr_lt (Nat.le_of_ble_eq_true rfl)) dX11_does_29 ?_
    refine r_iconst E 1 rfl dX11_does_32 ?_
    refine r_iadd E dX11_does_33 ?_
    refine r_putI E fd_X11_207 rfl PI_int (Nat.le_of_ble_eq_true rfl) (adr_lt (Nat.le_of_ble_eq_true rfl)) rfl dX11_does_34 ?_
    refine GG_toph fun h5 hh5 => ?_
    have hw := hw h5 hh5
    refine r_iconst E 1 rfl dX11_does_37 ?_
    exact hE _ _ _ _ _ _ (Nat.le_of_ble_eq_true rfl) (Nat.le_of_ble_eq_true rfl) dX11_does_38 (isB_nar isB_1) ⟨isB_1, hw⟩
set_option maxRecDepth 20000 in
theorem t_X11_isFull_b27 {X : Ctx} (h : Hp) (x1 : Int32) (x2 : Int32) (s0 : Int32)  (E : EE X cX11_isFull RX11 4 3 70 0 0) {Q : Int32 → Prop} (hE : ENDi X cX11_isFull .boolean (fun r u => h = u ∧ isB r ∧ Q r) NT 0 0)  (hw : wp_X11_isFull_b27 x1 x2 s0 h  Q) : GG X 0 0 NT h [some (rf X 11 0), some (.int x1), some (.int x2), none] 27 [.int s0] := by
  unfold wp_X11_isFull_b27 at hw
  refine r_istore_n E [some (rf X 11 0), some (.int x1), some (.int x2), some (.int s0)] rfl (Nat.le_of_ble_eq_true rfl) rfl dX11_isFull_27 ?_
  refine r_iload_n E x1 rfl dX11_isFull_28 ?_
  refine r_if_le E 67 (by decide) dX11_isFull_29 (fun c1 => ?_) (fun c1 => ?_)
  · have hw := ite_t hw c1
    refine r_iconst E 0 rfl dX11_isFull_67 ?_
    exact hE _ _ _ _ _ _ (Nat.le_of_ble_eq_true rfl) (Nat.le_of_ble_eq_true rfl) dX11_isFull_68 (isB_nar isB_0) ⟨rfl, isB_0, hw⟩
  · have hw := ite_f hw c1
    refine r_aload_n E 11 0 rfl dX11_isFull_32 ?_
    refine r_iload_n E x1 rfl dX11_isFull_33 ?_
    refine r_iload_n E x2 rfl dX11_isFull_34 ?_
    refine r_callVI E (m_X11_filled (EE_st E) (GX X) x1 x2 h _ hw) lk_X11_161 (RM_mk (Nat.le_of_ble_eq_true rfl) (Nat.le_of_ble_eq_true rfl)) rfl rfl rfl rfl (Nat.le_of_ble_eq_true rfl) (adr_lt (Nat.le_of_ble_eq_true rfl)) (Nat.le_of_ble_eq_true rfl) rfl rfl (Nat.le_of_ble_eq_true rfl) (Nat.le_of_ble_eq_true rfl) dX11_isFull_35 (fun r2 u9 hw => ?_)
    obtain ⟨rfl, hw⟩ := hw
    refine r_aload_n E 11 0 rfl dX11_isFull_38 ?_
    refine r_getS E fd_X11_96 (t := 0) (j1 := 61) rfl rfl rfl rfl (Nat.le_of_ble_eq_true rfl) (adr_lt (Nat.le_of_ble_eq_true rfl)) dX11_isFull_39 ?_
    refine r_iload_n E x1 rfl dX11_isFull_42 ?_
    obtain ⟨i3, hw⟩ := hw
    refine r_iald E rfl rfl rfl (Nat.le_of_ble_eq_true rfl) (adr_lt (Nat.le_of_ble_eq_true rfl)) i3 dX11_isFull_43 ?_
    refine r_iadd E dX11_isFull_44 ?_
    refine r_iload_n E s0 rfl dX11_isFull_45 ?_
    refine r_iadd E dX11_isFull_46 ?_
    refine r_aload_n E 11 0 rfl dX11_isFull_47 ?_
    refine r_getS E fd_X11_22 (t := 0) (j1 := 37) rfl rfl rfl rfl (Nat.le_of_ble_eq_true rfl) (adr_lt (Nat.le_of_ble_eq_true rfl)) dX11_isFull_48 ?_
    refine r_iload_n E x2 rfl dX11_isFull_51 ?_
    obtain ⟨i4, hw⟩ := hw
    refine r_iald E rfl rfl rfl (Nat.le_of_ble_eq_true rfl) (adr_lt (Nat.le_of_ble_eq_true rfl)) i4 dX11_isFull_52 ?_
    refine r_iadd E dX11_isFull_53 ?_
    refine r_aload_n E 11 0 rfl dX11_isFull_54 ?_
    refine r_getS E fd_X11_44 (t := 0) (j1 := 44) rfl rfl rfl rfl (Nat.le_of_ble_eq_true rfl) (adr_lt (Nat.le_of_ble_eq_true rfl)) dX11_isFull_55 ?_
    refine r_iload_n E x1 rfl dX11_isFull_58 ?_
    refine r_iald E rfl rfl rfl (Nat.le_of_ble_eq_true rfl) (adr_lt (Nat.le_of_ble_eq_true rfl)) i3 dX11_isFull_59 ?_
    refine r_icmp_le E 67 (by decide) dX11_isFull_60 (fun c5 => ?_) (fun c5 => ?_)
    · have hw := ite_t hw c5
      refine r_iconst E 0 rfl dX11_isFull_67 ?_
      exact hE _ _ _ _ _ _ (Nat.le_of_ble_eq_true rfl) (Nat.le_of_ble_eq_true rfl) dX11_isFull_68 (isB_nar isB_0) ⟨rfl, isB_0, hw⟩
    · have hw := ite_f hw c5
      refine r_iconst E 1 rfl dX11_isFull_63 ?_
      refine r_goto E 68 (by decide) dX11_isFull_64 ?_
      exact hE _ _ _ _ _ _ (Nat.le_of_ble_eq_true rfl) (Nat.le_of_ble_eq_true rfl) dX11_isFull_68 (isB_nar isB_1) ⟨rfl, isB_1, hw⟩
set_option maxRecDepth 20000 in
theorem t_X11_isFull_b26 {X : Ctx} (h : Hp) (x1 : Int32) (x2 : Int32)  (E : EE X cX11_isFull RX11 4 3 70 0 0) {Q : Int32 → Prop} (hE : ENDi X cX11_isFull .boolean (fun r u => h = u ∧ isB r ∧ Q r) NT 0 0)  (hw : wp_X11_isFull_b26 x1 x2 h  Q) : GG X 0 0 NT h [some (rf X 11 0), some (.int x1), some (.int x2), none] 26 [] := by
  unfold wp_X11_isFull_b26 at hw
  refine r_iconst E 0 rfl dX11_isFull_26 ?_
  exact GG_weak [true, true, true, false] rfl (t_X11_isFull_b27 h x1 x2 0 E hE  hw)
set_option maxRecDepth 20000 in
theorem m_X11_isFull {l : Launch} (hl : l.stackTraces = false) (G : Gq) (p0 : Int32) (p1 : Int32)  (h : Hp) (Q : Int32 → Prop) (hw : wp_X11_isFull p0 p1 h Q) : MI l G yX11_isFull cX11_isFull 4 (some .boolean) rm_X11_isFull NT NT h (fun r => [r 11 0, .int p0, .int p1]) (fun r u => h = u ∧ isB r ∧ Q r) := by
  refine MI_of (L0 := (fun X => [some (rf X 11 0), some (.int p0), some (.int p1), none])) hl (by decide +kernel) rfl (fun _ => Nat.le_of_ble_eq_true rfl) (fun _ => rfl) fun X hXl hXG E hE => ?_
  subst hXl; subst hXG
  unfold wp_X11_isFull at hw
  refine r_aload_n E 11 0 rfl dX11_isFull_0 ?_
  refine r_getI E fd_X11_213 rfl (Nat.le_of_ble_eq_true rfl) (adr_lt (Nat.le_of_ble_eq_true rfl)) dX11_isFull_1 ?_
  refine r_bipush E 109 rfl dX11_isFull_4 ?_
  refine r_icmp_ne E 26 (by decide) dX11_isFull_6 (fun c1 => ?_) (fun c1 => ?_)
  · have hw := ite_t hw c1
    refine r_aload_n E 11 0 rfl dX11_isFull_9 ?_
    refine r_getI E fd_X11_217 rfl (Nat.le_of_ble_eq_true rfl) (adr_lt (Nat.le_of_ble_eq_true rfl)) dX11_isFull_10 ?_
    refine r_iload_n E p0 rfl dX11_isFull_13 ?_
    refine r_icmp_ne E 26 (by decide) dX11_isFull_14 (fun c2 => ?_) (fun c2 => ?_)
    · have hw := ite_t hw c2
      refine r_aload_n E 11 0 rfl dX11_isFull_17 ?_
      refine r_getS E fd_X11_22 (t := 0) (j1 := 37) rfl rfl rfl rfl (Nat.le_of_ble_eq_true rfl) (adr_lt (Nat.le_of_ble_eq_true rfl)) dX11_isFull_18 ?_
      refine r_iload_n E p1 rfl dX11_isFull_21 ?_
      obtain ⟨i3, hw⟩ := hw
      refine r_iald E rfl rfl rfl (Nat.le_of_ble_eq_true rfl) (adr_lt (Nat.le_of_ble_eq_true rfl)) i3 dX11_isFull_22 ?_
      refine r_goto E 27 (by decide) dX11_isFull_23 ?_
      exact GG_weak [true, true, true, false] rfl (t_X11_isFull_b27 h p0 p1 (gI h 37 0 p1.toNatClampNeg) E hE  hw)
    · have hw := ite_f hw c2
      exact GG_weak [true, true, true, false] rfl (t_X11_isFull_b26 h p0 p1 E hE  hw)
  · have hw := ite_f hw c1
    exact GG_weak [true, true, true, false] rfl (t_X11_isFull_b26 h p0 p1 E hE  hw)
set_option maxRecDepth 20000 in
theorem t_X11_chooses_b100 {X : Ctx} (h : Hp) (x6 : Int32) (s1 : Int32)  (E : EE X cX11_chooses RX11 7 4 93 0 0) {Q : Hp → Prop} (hE : ENDv X cX11_chooses Q NT 0 0)  (hw : wp_X11_chooses_b100 x6 s1 h  Q) : GG X 0 0 NT h [some (rf X 11 0), none, none, none, none, none, some (.int x6)] 100 [.int s1, rf X 11 0] := by
  unfold wp_X11_chooses_b100 at hw
  refine r_putI E fd_X11_217 rfl PI_int (Nat.le_of_ble_eq_true rfl) (adr_lt (Nat.le_of_ble_eq_true rfl)) rfl dX11_chooses_100 ?_
  refine GG_toph fun h1 hh1 => ?_
  have hw := hw h1 hh1
  refine r_aload_n E 11 0 rfl dX11_chooses_103 ?_
  refine r_dup E rfl dX11_chooses_104 ?_
  refine r_getI E fd_X11_233 rfl (Nat.le_of_ble_eq_true rfl) (adr_lt (Nat.le_of_ble_eq_true rfl)) dX11_chooses_105 ?_
  refine r_iload E x6 rfl dX11_chooses_108 ?_
  refine r_if_eq E 117 (by decide) dX11_chooses_110 (fun c2 => ?_) (fun c2 => ?_)
  · have hw := ite_t hw c2
    refine r_iconst E 0 rfl dX11_chooses_117 ?_
    refine r_iadd E dX11_chooses_118 ?_
    refine r_putI E fd_X11_233 rfl PI_int (Nat.le_of_ble_eq_true rfl) (adr_lt (Nat.le_of_ble_eq_true rfl)) rfl dX11_chooses_119 ?_
    refine GG_toph fun h3 hh3 => ?_
    have hw := hw h3 hh3
    exact hE _ _ _ _ _ (Nat.le_of_ble_eq_true rfl) (Nat.le_of_ble_eq_true rfl) dX11_chooses_122 hw
  · have hw := ite_f hw c2
    refine r_iconst E 1 rfl dX11_chooses_113 ?_
    refine r_goto E 118 (by decide) dX11_chooses_114 ?_
    refine r_iadd E dX11_chooses_118 ?_
    refine r_putI E fd_X11_233 rfl PI_int (Nat.le_of_ble_eq_true rfl) (adr_lt (Nat.le_of_ble_eq_true rfl)) rfl dX11_chooses_119 ?_
    refine GG_toph fun h4 hh4 => ?_
    have hw := hw h4 hh4
    exact hE _ _ _ _ _ (Nat.le_of_ble_eq_true rfl) (Nat.le_of_ble_eq_true rfl) dX11_chooses_122 hw
set_option maxRecDepth 20000 in
theorem t_X11_chooses_b99 {X : Ctx} (h : Hp) (x6 : Int32)  (E : EE X cX11_chooses RX11 7 4 93 0 0) {Q : Hp → Prop} (hE : ENDv X cX11_chooses Q NT 0 0)  (hw : wp_X11_chooses_b99 x6 h  Q) : GG X 0 0 NT h [some (rf X 11 0), none, none, none, none, none, some (.int x6)] 99 [rf X 11 0] := by
  unfold wp_X11_chooses_b99 at hw
  refine r_iconst E 0 rfl dX11_chooses_99 ?_
  exact GG_weak [true, false, false, false, false, false, true] rfl (t_X11_chooses_b100 h x6 0 E hE  hw)
set_option maxRecDepth 20000 in
theorem t_X11_chooses_b76 {X : Ctx} (h : Hp) (x1 : Int32) (x2 : Int32) (s0 : Int32)  (E : EE X cX11_chooses RX11 7 4 93 0 0) {Q : Hp → Prop} (hE : ENDv X cX11_chooses Q NT 0 0)  (hw : wp_X11_chooses_b76 x1 x2 s0 h  Q) : GG X 0 0 NT h [some (rf X 11 0), some (.int x1), some (.int x2), none, none, none, none] 76 [.int s0] := by
  unfold wp_X11_chooses_b76 at hw
  refine r_istore E [some (rf X 11 0), some (.int x1), some (.int x2), none, none, none, some (.int s0)] (Nat.le_of_ble_eq_true rfl) rfl dX11_chooses_76 ?_
  refine r_aload_n E 11 0 rfl dX11_chooses_78 ?_
  refine r_iload_n E x1 rfl dX11_chooses_79 ?_
  obtain ⟨z1, hw⟩ := hw
  refine r_putI E fd_X11_213 rfl (PI_c z1) (Nat.le_of_ble_eq_true rfl) (adr_lt (Nat.le_of_ble_eq_true rfl)) rfl dX11_chooses_80 ?_
  refine GG_toph fun h2 hh2 => ?_
  have hw := hw h2 hh2
  refine r_aload_n E 11 0 rfl dX11_chooses_83 ?_
  refine r_iload_n E x1 rfl dX11_chooses_84 ?_
  refine r_bipush E 109 rfl dX11_chooses_85 ?_
  refine r_icmp_ne E 99 (by decide) dX11_chooses_87 (fun c3 => ?_) (fun c3 => ?_)
  · have hw := ite_t hw c3
    refine r_iload E s0 rfl dX11_chooses_90 ?_
    refine r_if_ne E 99 (by decide) dX11_chooses_92 (fun c4 => ?_) (fun c4 => ?_)
    · have hw := ite_t hw c4
      refine r_iload_n E x2 rfl dX11_chooses_95 ?_
      refine r_goto E 100 (by decide) dX11_chooses_96 ?_
      exact GG_weak [true, false, false, false, false, false, true] rfl (t_X11_chooses_b100 h2 s0 x2 E hE  hw)
    · have hw := ite_f hw c4
      exact GG_weak [true, false, false, false, false, false, true] rfl (t_X11_chooses_b99 h2 s0 E hE  hw)
  · have hw := ite_f hw c3
    exact GG_weak [true, false, false, false, false, false, true] rfl (t_X11_chooses_b99 h2 s0 E hE  hw)
set_option maxRecDepth 20000 in
theorem t_X11_chooses_b75 {X : Ctx} (h : Hp) (x1 : Int32) (x2 : Int32)  (E : EE X cX11_chooses RX11 7 4 93 0 0) {Q : Hp → Prop} (hE : ENDv X cX11_chooses Q NT 0 0)  (hw : wp_X11_chooses_b75 x1 x2 h  Q) : GG X 0 0 NT h [some (rf X 11 0), some (.int x1), some (.int x2), none, none, none, none] 75 [] := by
  unfold wp_X11_chooses_b75 at hw
  refine r_iconst E 0 rfl dX11_chooses_75 ?_
  exact GG_weak [true, true, true, false, false, false, false] rfl (t_X11_chooses_b76 h x1 x2 0 E hE  hw)
set_option maxRecDepth 20000 in
theorem t_X11_chooses_b27 {X : Ctx} (h : Hp) (x1 : Int32) (x2 : Int32) (x3 : Int32) (x4 : Int32) (s0 : Int32)  (E : EE X cX11_chooses RX11 7 4 93 0 0) {Q : Hp → Prop} (hE : ENDv X cX11_chooses Q NT 0 0)  (hw : wp_X11_chooses_b27 x1 x2 x3 x4 s0 h  Q) : GG X 0 0 NT h [some (rf X 11 0), some (.int x1), some (.int x2), some (.int x3), some (.int x4), none, none] 27 [.int s0] := by
  unfold wp_X11_chooses_b27 at hw
  refine r_istore E [some (rf X 11 0), some (.int x1), some (.int x2), some (.int x3), some (.int x4), some (.int s0), none] (Nat.le_of_ble_eq_true rfl) rfl dX11_chooses_27 ?_
  refine r_iload E s0 rfl dX11_chooses_29 ?_
  refine r_if_eq E 47 (by decide) dX11_chooses_31 (fun c1 => ?_) (fun c1 => ?_)
  · have hw := ite_t hw c1
    refine r_aload_n E 11 0 rfl dX11_chooses_47 ?_
    refine r_iload E x4 rfl dX11_chooses_48 ?_
    refine r_callVI E (m_X11_does (EE_st E) (GX X) x4 h _ hw) lk_X11_227 (RM_mk (Nat.le_of_ble_eq_true rfl) (Nat.le_of_ble_eq_true rfl)) rfl rfl rfl rfl (Nat.le_of_ble_eq_true rfl) (adr_lt (Nat.le_of_ble_eq_true rfl)) (Nat.le_of_ble_eq_true rfl) rfl rfl (Nat.le_of_ble_eq_true rfl) (Nat.le_of_ble_eq_true rfl) dX11_chooses_50 (fun r2 h3 hw => ?_)
    obtain ⟨zr2, hw⟩ := hw
    refine r_if_eq E 122 (by decide) dX11_chooses_53 (fun c4 => ?_) (fun c4 => ?_)
    · have hw := ite_t hw c4
      exact hE _ _ _ _ _ (Nat.le_of_ble_eq_true rfl) (Nat.le_of_ble_eq_true rfl) dX11_chooses_122 hw
    · have hw := ite_f hw c4
      refine r_iload_n E x1 rfl dX11_chooses_56 ?_
      refine r_bipush E 109 rfl dX11_chooses_57 ?_
      refine r_icmp_ne E 75 (by decide) dX11_chooses_59 (fun c5 => ?_) (fun c5 => ?_)
      · have hw := ite_t hw c5
        refine r_aload_n E 11 0 rfl dX11_chooses_62 ?_
        refine r_iload_n E x2 rfl dX11_chooses_63 ?_
        refine r_iload_n E x3 rfl dX11_chooses_64 ?_
        refine r_callVI E (m_X11_isFull (EE_st E) (GX X) x2 x3 h3 _ hw) lk_X11_230 (RM_mk (Nat.le_of_ble_eq_true rfl) (Nat.le_of_ble_eq_true rfl)) rfl rfl rfl rfl (Nat.le_of_ble_eq_true rfl) (adr_lt (Nat.le_of_ble_eq_true rfl)) (Nat.le_of_ble_eq_true rfl) rfl rfl (Nat.le_of_ble_eq_true rfl) (Nat.le_of_ble_eq_true rfl) dX11_chooses_65 (fun r6 u9 hw => ?_)
        obtain ⟨rfl, zr6, hw⟩ := hw
        refine r_if_eq E 75 (by decide) dX11_chooses_68 (fun c7 => ?_) (fun c7 => ?_)
        · have hw := ite_t hw c7
          exact GG_weak [true, true, true, false, false, false, false] rfl (t_X11_chooses_b75 h3 x1 x2 E hE  hw)
        · have hw := ite_f hw c7
          refine r_iconst E 1 rfl dX11_chooses_71 ?_
          refine r_goto E 76 (by decide) dX11_chooses_72 ?_
          exact GG_weak [true, true, true, false, false, false, false] rfl (t_X11_chooses_b76 h3 x1 x2 1 E hE  hw)
      · have hw := ite_f hw c5
        exact GG_weak [true, true, true, false, false, false, false] rfl (t_X11_chooses_b75 h3 x1 x2 E hE  hw)
  · have hw := ite_f hw c1
    refine r_aload_n E 11 0 rfl dX11_chooses_34 ?_
    refine r_dup E rfl dX11_chooses_35 ?_
    refine r_getI E fd_X11_224 rfl (Nat.le_of_ble_eq_true rfl) (adr_lt (Nat.le_of_ble_eq_true rfl)) dX11_chooses_36 ?_
    refine r_iconst E 1 rfl dX11_chooses_39 ?_
    refine r_iadd E dX11_chooses_40 ?_
    refine r_putI E fd_X11_224 rfl PI_int (Nat.le_of_ble_eq_true rfl) (adr_lt (Nat.le_of_ble_eq_true rfl)) rfl dX11_chooses_41 ?_
    refine GG_toph fun h8 hh8 => ?_
    have hw := hw h8 hh8
    refine r_goto E 122 (by decide) dX11_chooses_44 ?_
    exact hE _ _ _ _ _ (Nat.le_of_ble_eq_true rfl) (Nat.le_of_ble_eq_true rfl) dX11_chooses_122 hw
set_option maxRecDepth 20000 in
theorem t_X11_chooses_b22 {X : Ctx} (h : Hp) (x1 : Int32) (x2 : Int32) (x3 : Int32) (x4 : Int32)  (E : EE X cX11_chooses RX11 7 4 93 0 0) {Q : Hp → Prop} (hE : ENDv X cX11_chooses Q NT 0 0)  (hw : wp_X11_chooses_b22 x1 x2 x3 x4 h  Q) : GG X 0 0 NT h [some (rf X 11 0), some (.int x1), some (.int x2), some (.int x3), some (.int x4), none, none] 22 [] := by
  unfold wp_X11_chooses_b22 at hw
  refine r_iconst E 1 rfl dX11_chooses_22 ?_
  refine r_goto E 27 (by decide) dX11_chooses_23 ?_
  exact GG_weak [true, true, true, true, true, false, false] rfl (t_X11_chooses_b27 h x1 x2 x3 x4 1 E hE  hw)
set_option maxRecDepth 20000 in
theorem t_X11_chooses_b26 {X : Ctx} (h : Hp) (x1 : Int32) (x2 : Int32) (x3 : Int32) (x4 : Int32)  (E : EE X cX11_chooses RX11 7 4 93 0 0) {Q : Hp → Prop} (hE : ENDv X cX11_chooses Q NT 0 0)  (hw : wp_X11_chooses_b26 x1 x2 x3 x4 h  Q) : GG X 0 0 NT h [some (rf X 11 0), some (.int x1), some (.int x2), some (.int x3), some (.int x4), none, none] 26 [] := by
  unfold wp_X11_chooses_b26 at hw
  refine r_iconst E 0 rfl dX11_chooses_26 ?_
  exact GG_weak [true, true, true, true, true, false, false] rfl (t_X11_chooses_b27 h x1 x2 x3 x4 0 E hE  hw)
set_option maxRecDepth 20000 in
theorem m_X11_chooses {l : Launch} (hl : l.stackTraces = false) (G : Gq) (p0 : Int32) (p1 : Int32) (p2 : Int32) (p3 : Int32)  (h : Hp) (Q : Hp → Prop) (hw : wp_X11_chooses p0 p1 p2 p3 h Q) : MV l G yX11_chooses cX11_chooses 7 none rm_X11_chooses NT NT h (fun r => [r 11 0, .int p0, .int p1, .int p2, .int p3]) Q := by
  refine MV_of (L0 := (fun X => [some (rf X 11 0), some (.int p0), some (.int p1), some (.int p2), some (.int p3), none, none])) hl (by decide +kernel) rfl (fun _ => Nat.le_of_ble_eq_true rfl) (fun _ => rfl) fun X hXl hXG E hE => ?_
  subst hXl; subst hXG
  unfold wp_X11_chooses at hw
  refine r_aload_n E 11 0 rfl dX11_chooses_0 ?_
  refine r_getI E fd_X11_213 rfl (Nat.le_of_ble_eq_true rfl) (adr_lt (Nat.le_of_ble_eq_true rfl)) dX11_chooses_1 ?_
  refine r_bipush E 45 rfl dX11_chooses_4 ?_
  refine r_icmp_ne E 22 (by decide) dX11_chooses_6 (fun c1 => ?_) (fun c1 => ?_)
  · have hw := ite_t hw c1
    refine r_iload_n E p0 rfl dX11_chooses_9 ?_
    refine r_bipush E 114 rfl dX11_chooses_10 ?_
    refine r_icmp_ne E 26 (by decide) dX11_chooses_12 (fun c2 => ?_) (fun c2 => ?_)
    · have hw := ite_t hw c2
      refine r_aload_n E 11 0 rfl dX11_chooses_15 ?_
      refine r_getI E fd_X11_220 rfl (Nat.le_of_ble_eq_true rfl) (adr_lt (Nat.le_of_ble_eq_true rfl)) dX11_chooses_16 ?_
      refine r_if_eq E 26 (by decide) dX11_chooses_19 (fun c3 => ?_) (fun c3 => ?_)
      · have hw := ite_t hw c3
        exact GG_weak [true, true, true, true, true, false, false] rfl (t_X11_chooses_b26 h p0 p1 p2 p3 E hE  hw)
      · have hw := ite_f hw c3
        exact GG_weak [true, true, true, true, true, false, false] rfl (t_X11_chooses_b22 h p0 p1 p2 p3 E hE  hw)
    · have hw := ite_f hw c2
      exact GG_weak [true, true, true, true, true, false, false] rfl (t_X11_chooses_b26 h p0 p1 p2 p3 E hE  hw)
  · have hw := ite_f hw c1
    exact GG_weak [true, true, true, true, true, false, false] rfl (t_X11_chooses_b22 h p0 p1 p2 p3 E hE  hw)
set_option maxRecDepth 20000 in
theorem t_X11_sends_b235 {X : Ctx} (h : Hp)   (E : EE X cX11_sends RX11 7 4 93 0 0) {Q : Hp → Prop} (hE : ENDv X cX11_sends Q NT 0 0)  (hw : wp_X11_sends_b235  h  Q) : GG X 0 0 NT h [none, none, none, none, none, none, none] 235 [rf X 11 0] := by
  unfold wp_X11_sends_b235 at hw
  refine r_iconst E 1 rfl dX11_sends_235 ?_
  refine r_goto E 240 (by decide) dX11_sends_236 ?_
  refine r_putI E fd_X11_242 rfl (PI_z isB_1) (Nat.le_of_ble_eq_true rfl) (adr_lt (Nat.le_of_ble_eq_true rfl)) rfl dX11_sends_240 ?_
  refine GG_toph fun h1 hh1 => ?_
  have hw := hw h1 hh1
  exact hE _ _ _ _ _ (Nat.le_of_ble_eq_true rfl) (Nat.le_of_ble_eq_true rfl) dX11_sends_243 hw
set_option maxRecDepth 20000 in
theorem t_X11_sends_b187 {X : Ctx} (h : Hp) (x1 : Int32) (x2 : Int32) (x3 : Int32) (s1 : Int32) (s2 : Int32)  (E : EE X cX11_sends RX11 7 4 93 0 0) {Q : Hp → Prop} (hE : ENDv X cX11_sends Q NT 0 0)  (hw : wp_X11_sends_b187 x1 x2 x3 s1 s2 h  Q) : GG X 0 0 NT h [some (rf X 11 0), some (.int x1), some (.int x2), some (.int x3), none, none, none] 187 [.int s2, .int s1, rf X 11 0] := by
  unfold wp_X11_sends_b187 at hw
  refine r_ior E dX11_sends_187 ?_
  refine r_putI E fd_X11_236 rfl PI_int (Nat.le_of_ble_eq_true rfl) (adr_lt (Nat.le_of_ble_eq_true rfl)) rfl dX11_sends_188 ?_
  refine GG_toph fun h1 hh1 => ?_
  have hw := hw h1 hh1
  refine r_aload_n E 11 0 rfl dX11_sends_191 ?_
  refine r_getS E fd_X11_50 (t := 0) (j1 := 46) rfl rfl rfl rfl (Nat.le_of_ble_eq_true rfl) (adr_lt (Nat.le_of_ble_eq_true rfl)) dX11_sends_192 ?_
  refine r_aload_n E 11 0 rfl dX11_sends_195 ?_
  refine r_getS E fd_X11_7 (t := 0) (j1 := 33) rfl rfl rfl rfl (Nat.le_of_ble_eq_true rfl) (adr_lt (Nat.le_of_ble_eq_true rfl)) dX11_sends_196 ?_
  refine r_iload_n E x3 rfl dX11_sends_199 ?_
  obtain ⟨i2, hw⟩ := hw
  refine r_iald E rfl rfl rfl (Nat.le_of_ble_eq_true rfl) (adr_lt (Nat.le_of_ble_eq_true rfl)) i2 dX11_sends_200 ?_
  obtain ⟨i3, hw⟩ := hw
  refine r_iald E rfl rfl rfl (Nat.le_of_ble_eq_true rfl) (adr_lt (Nat.le_of_ble_eq_true rfl)) i3 dX11_sends_201 ?_
  refine GG_topI fun v4 hv4 => ?_
  have hw := hw v4 hv4
  refine r_istore E [some (rf X 11 0), some (.int x1), some (.int x2), some (.int x3), none, none, some (.int v4)] (Nat.le_of_ble_eq_true rfl) rfl dX11_sends_202 ?_
  refine r_aload_n E 11 0 rfl dX11_sends_204 ?_
  refine r_aload_n E 11 0 rfl dX11_sends_205 ?_
  refine r_getI E fd_X11_242 rfl (Nat.le_of_ble_eq_true rfl) (adr_lt (Nat.le_of_ble_eq_true rfl)) dX11_sends_206 ?_
  refine r_if_ne E 235 (by decide) dX11_sends_209 (fun c5 => ?_) (fun c5 => ?_)
  · have hw := ite_t hw c5
    refine r_iload_n E x1 rfl dX11_sends_212 ?_
    refine r_bipush E 118 rfl dX11_sends_213 ?_
    refine r_icmp_ne E 239 (by decide) dX11_sends_215 (fun c6 => ?_) (fun c6 => ?_)
    · have hw := ite_t hw c6
      refine r_iload E v4 rfl dX11_sends_218 ?_
      refine r_iconst E (-1) rfl dX11_sends_220 ?_
      refine r_icmp_eq E 235 (by decide) dX11_sends_221 (fun c7 => ?_) (fun c7 => ?_)
      · have hw := ite_t hw c7
        exact GG_weak [false, false, false, false, false, false, false] rfl (t_X11_sends_b235 h1  E hE  hw)
      · have hw := ite_f hw c7
        refine r_aload_n E 11 0 rfl dX11_sends_224 ?_
        refine r_getI E fd_X11_154 rfl (Nat.le_of_ble_eq_true rfl) (adr_lt (Nat.le_of_ble_eq_true rfl)) dX11_sends_225 ?_
        refine r_iload E v4 rfl dX11_sends_228 ?_
        refine r_isub E dX11_sends_230 ?_
        refine r_iload_n E x2 rfl dX11_sends_231 ?_
        refine r_icmp_lt E 239 (by decide) dX11_sends_232 (fun c8 => ?_) (fun c8 => ?_)
        · have hw := ite_t hw c8
          refine r_iconst E 0 rfl dX11_sends_239 ?_
          refine r_putI E fd_X11_242 rfl (PI_z isB_0) (Nat.le_of_ble_eq_true rfl) (adr_lt (Nat.le_of_ble_eq_true rfl)) rfl dX11_sends_240 ?_
          refine GG_toph fun h9 hh9 => ?_
          have hw := hw h9 hh9
          exact hE _ _ _ _ _ (Nat.le_of_ble_eq_true rfl) (Nat.le_of_ble_eq_true rfl) dX11_sends_243 hw
        · have hw := ite_f hw c8
          exact GG_weak [false, false, false, false, false, false, false] rfl (t_X11_sends_b235 h1  E hE  hw)
    · have hw := ite_f hw c6
      refine r_iconst E 0 rfl dX11_sends_239 ?_
      refine r_putI E fd_X11_242 rfl (PI_z isB_0) (Nat.le_of_ble_eq_true rfl) (adr_lt (Nat.le_of_ble_eq_true rfl)) rfl dX11_sends_240 ?_
      refine GG_toph fun h10 hh10 => ?_
      have hw := hw h10 hh10
      exact hE _ _ _ _ _ (Nat.le_of_ble_eq_true rfl) (Nat.le_of_ble_eq_true rfl) dX11_sends_243 hw
  · have hw := ite_f hw c5
    exact GG_weak [false, false, false, false, false, false, false] rfl (t_X11_sends_b235 h1  E hE  hw)
set_option maxRecDepth 20000 in
theorem t_X11_sends_b167 {X : Ctx} (h : Hp) (x1 : Int32) (x2 : Int32) (x3 : Int32) (s1 : Int32) (s2 : Int32) (s3 : Int32)  (E : EE X cX11_sends RX11 7 4 93 0 0) {Q : Hp → Prop} (hE : ENDv X cX11_sends Q NT 0 0)  (hw : wp_X11_sends_b167 x1 x2 x3 s1 s2 s3 h  Q) : GG X 0 0 NT h [some (rf X 11 0), some (.int x1), some (.int x2), some (.int x3), none, none, none] 167 [.int s3, .int s2, .int s1, rf X 61 0] := by
  unfold wp_X11_sends_b167 at hw
  refine r_iadd E dX11_sends_167 ?_
  obtain ⟨i1, hw⟩ := hw
  refine r_iast E rfl rfl rfl (Nat.le_of_ble_eq_true rfl) (adr_lt (Nat.le_of_ble_eq_true rfl)) i1 dX11_sends_168 ?_
  refine GG_toph fun h2 hh2 => ?_
  have hw := hw h2 hh2
  refine r_aload_n E 11 0 rfl dX11_sends_169 ?_
  refine r_dup E rfl dX11_sends_170 ?_
  refine r_getI E fd_X11_236 rfl (Nat.le_of_ble_eq_true rfl) (adr_lt (Nat.le_of_ble_eq_true rfl)) dX11_sends_171 ?_
  refine r_iload_n E x1 rfl dX11_sends_174 ?_
  refine r_bipush E 119 rfl dX11_sends_175 ?_
  refine r_icmp_ne E 186 (by decide) dX11_sends_177 (fun c3 => ?_) (fun c3 => ?_)
  · have hw := ite_t hw c3
    refine r_iconst E 1 rfl dX11_sends_180 ?_
    refine r_iload_n E x2 rfl dX11_sends_181 ?_
    refine r_ishl E dX11_sends_182 ?_
    refine r_goto E 187 (by decide) dX11_sends_183 ?_
    exact GG_weak [true, true, true, true, false, false, false] rfl (t_X11_sends_b187 h2 x1 x2 x3 (gI h2 11 0 37) (1 <<< (x2 &&& 31)) E hE  hw)
  · have hw := ite_f hw c3
    refine r_iconst E 0 rfl dX11_sends_186 ?_
    exact GG_weak [true, true, true, true, false, false, false] rfl (t_X11_sends_b187 h2 x1 x2 x3 (gI h2 11 0 37) 0 E hE  hw)
set_option maxRecDepth 20000 in
theorem t_X11_sends_b149 {X : Ctx} (h : Hp) (x1 : Int32) (x2 : Int32) (x3 : Int32) (s1 : Int32)  (E : EE X cX11_sends RX11 7 4 93 0 0) {Q : Hp → Prop} (hE : ENDv X cX11_sends Q NT 0 0)  (hw : wp_X11_sends_b149 x1 x2 x3 s1 h  Q) : GG X 0 0 NT h [some (rf X 11 0), some (.int x1), some (.int x2), some (.int x3), none, none, none] 149 [.int s1, rf X 61 0] := by
  unfold wp_X11_sends_b149 at hw
  refine r_dup2 E rfl rfl dX11_sends_149 ?_
  obtain ⟨i1, hw⟩ := hw
  refine r_iald E rfl rfl rfl (Nat.le_of_ble_eq_true rfl) (adr_lt (Nat.le_of_ble_eq_true rfl)) i1 dX11_sends_150 ?_
  refine r_iload_n E x1 rfl dX11_sends_151 ?_
  refine r_bipush E 99 rfl dX11_sends_152 ?_
  refine r_icmp_ne E 166 (by decide) dX11_sends_154 (fun c2 => ?_) (fun c2 => ?_)
  · have hw := ite_t hw c2
    refine r_aload_n E 11 0 rfl dX11_sends_157 ?_
    refine r_getS E fd_X11_22 (t := 0) (j1 := 37) rfl rfl rfl rfl (Nat.le_of_ble_eq_true rfl) (adr_lt (Nat.le_of_ble_eq_true rfl)) dX11_sends_158 ?_
    refine r_iload_n E x3 rfl dX11_sends_161 ?_
    obtain ⟨i3, hw⟩ := hw
    refine r_iald E rfl rfl rfl (Nat.le_of_ble_eq_true rfl) (adr_lt (Nat.le_of_ble_eq_true rfl)) i3 dX11_sends_162 ?_
    refine r_goto E 167 (by decide) dX11_sends_163 ?_
    exact GG_weak [true, true, true, true, false, false, false] rfl (t_X11_sends_b167 h x1 x2 x3 s1 (gI h 61 0 s1.toNatClampNeg) (gI h 37 0 x3.toNatClampNeg) E hE  hw)
  · have hw := ite_f hw c2
    refine r_iconst E 0 rfl dX11_sends_166 ?_
    exact GG_weak [true, true, true, true, false, false, false] rfl (t_X11_sends_b167 h x1 x2 x3 s1 (gI h 61 0 s1.toNatClampNeg) 0 E hE  hw)
set_option maxRecDepth 20000 in
theorem t_X11_sends_b120 {X : Ctx} (h : Hp) (x1 : Int32) (x2 : Int32) (x3 : Int32) (x4 : Int32)  (E : EE X cX11_sends RX11 7 4 93 0 0) {Q : Hp → Prop} (hE : ENDv X cX11_sends Q NT 0 0)  (hw : wp_X11_sends_b120 x1 x2 x3 x4 h  Q) : GG X 0 0 NT h [some (rf X 11 0), some (.int x1), some (.int x2), some (.int x3), some (.int x4), none, none] 120 [] := by
  unfold wp_X11_sends_b120 at hw
  refine r_aload_n E 11 0 rfl dX11_sends_120 ?_
  refine r_iload E x4 rfl dX11_sends_121 ?_
  refine r_callVI E (m_X11_does (EE_st E) (GX X) x4 h _ hw) lk_X11_227 (RM_mk (Nat.le_of_ble_eq_true rfl) (Nat.le_of_ble_eq_true rfl)) rfl rfl rfl rfl (Nat.le_of_ble_eq_true rfl) (adr_lt (Nat.le_of_ble_eq_true rfl)) (Nat.le_of_ble_eq_true rfl) rfl rfl (Nat.le_of_ble_eq_true rfl) (Nat.le_of_ble_eq_true rfl) dX11_sends_123 (fun r1 h2 hw => ?_)
  obtain ⟨zr1, hw⟩ := hw
  refine r_if_eq E 243 (by decide) dX11_sends_126 (fun c3 => ?_) (fun c3 => ?_)
  · have hw := ite_t hw c3
    exact hE _ _ _ _ _ (Nat.le_of_ble_eq_true rfl) (Nat.le_of_ble_eq_true rfl) dX11_sends_243 hw
  · have hw := ite_f hw c3
    refine r_aload_n E 11 0 rfl dX11_sends_129 ?_
    refine r_iconst E 1 rfl dX11_sends_130 ?_
    refine r_putI E fd_X11_220 rfl (PI_z isB_1) (Nat.le_of_ble_eq_true rfl) (adr_lt (Nat.le_of_ble_eq_true rfl)) rfl dX11_sends_131 ?_
    refine GG_toph fun h4 hh4 => ?_
    have hw := hw h4 hh4
    refine r_aload_n E 11 0 rfl dX11_sends_134 ?_
    refine r_getS E fd_X11_96 (t := 0) (j1 := 61) rfl rfl rfl rfl (Nat.le_of_ble_eq_true rfl) (adr_lt (Nat.le_of_ble_eq_true rfl)) dX11_sends_135 ?_
    refine r_iload_n E x1 rfl dX11_sends_138 ?_
    refine r_bipush E 99 rfl dX11_sends_139 ?_
    refine r_icmp_ne E 148 (by decide) dX11_sends_141 (fun c5 => ?_) (fun c5 => ?_)
    · have hw := ite_t hw c5
      refine r_iload_n E x2 rfl dX11_sends_144 ?_
      refine r_goto E 149 (by decide) dX11_sends_145 ?_
      exact GG_weak [true, true, true, true, false, false, false] rfl (t_X11_sends_b149 h4 x1 x2 x3 x2 E hE  hw)
    · have hw := ite_f hw c5
      refine r_iconst E 0 rfl dX11_sends_148 ?_
      exact GG_weak [true, true, true, true, false, false, false] rfl (t_X11_sends_b149 h4 x1 x2 x3 0 E hE  hw)
set_option maxRecDepth 20000 in
theorem t_X11_sends_b96 {X : Ctx} (h : Hp) (x1 : Int32) (x2 : Int32) (x3 : Int32) (x4 : Int32) (x5 : Int32)  (E : EE X cX11_sends RX11 7 4 93 0 0) {Q : Hp → Prop} (hE : ENDv X cX11_sends Q NT 0 0)  (hw : wp_X11_sends_b96 x1 x2 x3 x4 x5 h  Q) : GG X 0 0 NT h [some (rf X 11 0), some (.int x1), some (.int x2), some (.int x3), some (.int x4), some (.int x5), none] 96 [] := by
  unfold wp_X11_sends_b96 at hw
  refine r_iload_n E x1 rfl dX11_sends_96 ?_
  refine r_bipush E 119 rfl dX11_sends_97 ?_
  refine r_icmp_ne E 120 (by decide) dX11_sends_99 (fun c1 => ?_) (fun c1 => ?_)
  · have hw := ite_t hw c1
    refine r_iload E x5 rfl dX11_sends_102 ?_
    refine r_if_eq E 120 (by decide) dX11_sends_104 (fun c2 => ?_) (fun c2 => ?_)
    · have hw := ite_t hw c2
      exact GG_weak [true, true, true, true, true, false, false] rfl (t_X11_sends_b120 h x1 x2 x3 x4 E hE  hw)
    · have hw := ite_f hw c2
      refine r_aload_n E 11 0 rfl dX11_sends_107 ?_
      refine r_dup E rfl dX11_sends_108 ?_
      refine r_getI E fd_X11_239 rfl (Nat.le_of_ble_eq_true rfl) (adr_lt (Nat.le_of_ble_eq_true rfl)) dX11_sends_109 ?_
      refine r_iconst E 1 rfl dX11_sends_112 ?_
      refine r_iadd E dX11_sends_113 ?_
      refine r_putI E fd_X11_239 rfl PI_int (Nat.le_of_ble_eq_true rfl) (adr_lt (Nat.le_of_ble_eq_true rfl)) rfl dX11_sends_114 ?_
      refine GG_toph fun h3 hh3 => ?_
      have hw := hw h3 hh3
      refine r_goto E 243 (by decide) dX11_sends_117 ?_
      exact hE _ _ _ _ _ (Nat.le_of_ble_eq_true rfl) (Nat.le_of_ble_eq_true rfl) dX11_sends_243 hw
  · have hw := ite_f hw c1
    exact GG_weak [true, true, true, true, true, false, false] rfl (t_X11_sends_b120 h x1 x2 x3 x4 E hE  hw)
set_option maxRecDepth 20000 in
theorem t_X11_sends_b44 {X : Ctx} (h : Hp) (x1 : Int32) (x2 : Int32) (x3 : Int32) (x4 : Int32) (s0 : Int32)  (E : EE X cX11_sends RX11 7 4 93 0 0) {Q : Hp → Prop} (hE : ENDv X cX11_sends Q NT 0 0)  (hw : wp_X11_sends_b44 x1 x2 x3 x4 s0 h  Q) : GG X 0 0 NT h [some (rf X 11 0), some (.int x1), some (.int x2), some (.int x3), some (.int x4), none, none] 44 [.int s0] := by
  unfold wp_X11_sends_b44 at hw
  refine r_istore E [some (rf X 11 0), some (.int x1), some (.int x2), some (.int x3), some (.int x4), some (.int s0), none] (Nat.le_of_ble_eq_true rfl) rfl dX11_sends_44 ?_
  refine r_aload_n E 11 0 rfl dX11_sends_46 ?_
  refine r_getI E fd_X11_213 rfl (Nat.le_of_ble_eq_true rfl) (adr_lt (Nat.le_of_ble_eq_true rfl)) dX11_sends_47 ?_
  refine r_bipush E 114 rfl dX11_sends_50 ?_
  refine r_icmp_ne E 68 (by decide) dX11_sends_52 (fun c1 => ?_) (fun c1 => ?_)
  · have hw := ite_t hw c1
    refine r_aload_n E 11 0 rfl dX11_sends_55 ?_
    refine r_dup E rfl dX11_sends_56 ?_
    refine r_getI E fd_X11_224 rfl (Nat.le_of_ble_eq_true rfl) (adr_lt (Nat.le_of_ble_eq_true rfl)) dX11_sends_57 ?_
    refine r_iconst E 1 rfl dX11_sends_60 ?_
    refine r_iadd E dX11_sends_61 ?_
    refine r_putI E fd_X11_224 rfl PI_int (Nat.le_of_ble_eq_true rfl) (adr_lt (Nat.le_of_ble_eq_true rfl)) rfl dX11_sends_62 ?_
    refine GG_toph fun h2 hh2 => ?_
    have hw := hw h2 hh2
    refine r_goto E 243 (by decide) dX11_sends_65 ?_
    exact hE _ _ _ _ _ (Nat.le_of_ble_eq_true rfl) (Nat.le_of_ble_eq_true rfl) dX11_sends_243 hw
  · have hw := ite_f hw c1
    refine r_iload_n E x1 rfl dX11_sends_68 ?_
    refine r_bipush E 99 rfl dX11_sends_69 ?_
    refine r_icmp_ne E 96 (by decide) dX11_sends_71 (fun c3 => ?_) (fun c3 => ?_)
    · have hw := ite_t hw c3
      refine r_aload_n E 11 0 rfl dX11_sends_74 ?_
      refine r_iload_n E x2 rfl dX11_sends_75 ?_
      refine r_iload_n E x3 rfl dX11_sends_76 ?_
      refine r_callVI E (m_X11_isFull (EE_st E) (GX X) x2 x3 h _ hw) lk_X11_230 (RM_mk (Nat.le_of_ble_eq_true rfl) (Nat.le_of_ble_eq_true rfl)) rfl rfl rfl rfl (Nat.le_of_ble_eq_true rfl) (adr_lt (Nat.le_of_ble_eq_true rfl)) (Nat.le_of_ble_eq_true rfl) rfl rfl (Nat.le_of_ble_eq_true rfl) (Nat.le_of_ble_eq_true rfl) dX11_sends_77 (fun r4 u9 hw => ?_)
      obtain ⟨rfl, zr4, hw⟩ := hw
      refine r_if_eq E 96 (by decide) dX11_sends_80 (fun c5 => ?_) (fun c5 => ?_)
      · have hw := ite_t hw c5
        exact GG_weak [true, true, true, true, true, true, false] rfl (t_X11_sends_b96 h x1 x2 x3 x4 s0 E hE  hw)
      · have hw := ite_f hw c5
        refine r_aload_n E 11 0 rfl dX11_sends_83 ?_
        refine r_dup E rfl dX11_sends_84 ?_
        refine r_getI E fd_X11_233 rfl (Nat.le_of_ble_eq_true rfl) (adr_lt (Nat.le_of_ble_eq_true rfl)) dX11_sends_85 ?_
        refine r_iconst E 1 rfl dX11_sends_88 ?_
        refine r_iadd E dX11_sends_89 ?_
        refine r_putI E fd_X11_233 rfl PI_int (Nat.le_of_ble_eq_true rfl) (adr_lt (Nat.le_of_ble_eq_true rfl)) rfl dX11_sends_90 ?_
        refine GG_toph fun h6 hh6 => ?_
        have hw := hw h6 hh6
        refine r_goto E 243 (by decide) dX11_sends_93 ?_
        exact hE _ _ _ _ _ (Nat.le_of_ble_eq_true rfl) (Nat.le_of_ble_eq_true rfl) dX11_sends_243 hw
    · have hw := ite_f hw c3
      exact GG_weak [true, true, true, true, true, true, false] rfl (t_X11_sends_b96 h x1 x2 x3 x4 s0 E hE  hw)
set_option maxRecDepth 20000 in
theorem t_X11_sends_b39 {X : Ctx} (h : Hp) (x1 : Int32) (x2 : Int32) (x3 : Int32) (x4 : Int32)  (E : EE X cX11_sends RX11 7 4 93 0 0) {Q : Hp → Prop} (hE : ENDv X cX11_sends Q NT 0 0)  (hw : wp_X11_sends_b39 x1 x2 x3 x4 h  Q) : GG X 0 0 NT h [some (rf X 11 0), some (.int x1), some (.int x2), some (.int x3), some (.int x4), none, none] 39 [] := by
  unfold wp_X11_sends_b39 at hw
  refine r_iconst E 1 rfl dX11_sends_39 ?_
  refine r_goto E 44 (by decide) dX11_sends_40 ?_
  exact GG_weak [true, true, true, true, true, false, false] rfl (t_X11_sends_b44 h x1 x2 x3 x4 1 E hE  hw)
set_option maxRecDepth 20000 in
theorem m_X11_sends {l : Launch} (hl : l.stackTraces = false) (G : Gq) (p0 : Int32) (p1 : Int32) (p2 : Int32) (p3 : Int32)  (h : Hp) (Q : Hp → Prop) (hw : wp_X11_sends p0 p1 p2 p3 h Q) : MV l G yX11_sends cX11_sends 7 none rm_X11_sends NT NT h (fun r => [r 11 0, .int p0, .int p1, .int p2, .int p3]) Q := by
  refine MV_of (L0 := (fun X => [some (rf X 11 0), some (.int p0), some (.int p1), some (.int p2), some (.int p3), none, none])) hl (by decide +kernel) rfl (fun _ => Nat.le_of_ble_eq_true rfl) (fun _ => rfl) fun X hXl hXG E hE => ?_
  subst hXl; subst hXG
  unfold wp_X11_sends at hw
  refine r_iload_n E p1 rfl dX11_sends_0 ?_
  refine r_aload_n E 11 0 rfl dX11_sends_1 ?_
  refine r_getS E fd_X11_7 (t := 0) (j1 := 33) rfl rfl rfl rfl (Nat.le_of_ble_eq_true rfl) (adr_lt (Nat.le_of_ble_eq_true rfl)) dX11_sends_2 ?_
  refine r_iload_n E p2 rfl dX11_sends_5 ?_
  obtain ⟨i1, hw⟩ := hw
  refine r_iald E rfl rfl rfl (Nat.le_of_ble_eq_true rfl) (adr_lt (Nat.le_of_ble_eq_true rfl)) i1 dX11_sends_6 ?_
  refine r_icmp_eq E 39 (by decide) dX11_sends_7 (fun c2 => ?_) (fun c2 => ?_)
  · have hw := ite_t hw c2
    exact GG_weak [true, true, true, true, true, false, false] rfl (t_X11_sends_b39 h p0 p1 p2 p3 E hE  hw)
  · have hw := ite_f hw c2
    refine r_aload_n E 11 0 rfl dX11_sends_10 ?_
    refine r_getS E fd_X11_13 (t := 0) (j1 := 34) rfl rfl rfl rfl (Nat.le_of_ble_eq_true rfl) (adr_lt (Nat.le_of_ble_eq_true rfl)) dX11_sends_11 ?_
    refine r_iload_n E p2 rfl dX11_sends_14 ?_
    refine r_iald E rfl rfl rfl (Nat.le_of_ble_eq_true rfl) (adr_lt (Nat.le_of_ble_eq_true rfl)) i1 dX11_sends_15 ?_
    refine r_iload_n E p1 rfl dX11_sends_16 ?_
    refine r_bipush E 10 rfl dX11_sends_17 ?_
    refine r_irem E (by decide) dX11_sends_19 ?_
    refine r_ishr E dX11_sends_20 ?_
    refine r_iconst E 1 rfl dX11_sends_21 ?_
    refine r_iand E dX11_sends_22 ?_
    refine r_iconst E 1 rfl dX11_sends_23 ?_
    refine r_icmp_eq E 39 (by decide) dX11_sends_24 (fun c3 => ?_) (fun c3 => ?_)
    · have hw := ite_t hw c3
      exact GG_weak [true, true, true, true, true, false, false] rfl (t_X11_sends_b39 h p0 p1 p2 p3 E hE  hw)
    · have hw := ite_f hw c3
      refine r_aload_n E 11 0 rfl dX11_sends_27 ?_
      refine r_getI E fd_X11_236 rfl (Nat.le_of_ble_eq_true rfl) (adr_lt (Nat.le_of_ble_eq_true rfl)) dX11_sends_28 ?_
      refine r_iload_n E p1 rfl dX11_sends_31 ?_
      refine r_ishr E dX11_sends_32 ?_
      refine r_iconst E 1 rfl dX11_sends_33 ?_
      refine r_iand E dX11_sends_34 ?_
      refine r_iconst E 1 rfl dX11_sends_35 ?_
      refine r_icmp_ne E 43 (by decide) dX11_sends_36 (fun c4 => ?_) (fun c4 => ?_)
      · have hw := ite_t hw c4
        exact GG_weak [true, true, true, true, true, false, false] rfl (t_X11_sends_b39 h p0 p1 p2 p3 E hE  hw)
      · have hw := ite_f hw c4
        refine r_iconst E 0 rfl dX11_sends_43 ?_
        exact GG_weak [true, true, true, true, true, false, false] rfl (t_X11_sends_b44 h p0 p1 p2 p3 0 E hE  hw)
