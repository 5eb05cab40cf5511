def rm_X11_begins : Room := { frames := 1, cells := 0, slots := 0, locals := 24 }
def wp_X11_begins (p0 : Int32) (h : Hp) (Q : Hp → Prop) : Prop := LET (sI h 11 0 29 ((gI h 11 0 29) + 1)) fun h1 => vp_in (gI h1 11 0 29) 6 ∧ LET (sI h1 58 0 (gI h1 11 0 29).toNatClampNeg p0) fun h3 => vp_in (gI h3 11 0 29) 6 ∧ LET (sI h3 59 0 (gI h3 11 0 29).toNatClampNeg 0) fun h5 => vp_in (gI h5 11 0 29) 6 ∧ LET (sI h5 60 0 (gI h5 11 0 29).toNatClampNeg (-1)) fun h7 => Q h7
def rm_X11_acts : Room := { frames := 5, cells := 0, slots := 0, locals := 119 }
def wp_X11_acts (p0 : Int32) (p1 : Int32) (p2 : Int32) (p3 : Int32) (h : Hp) (Q : Hp → Prop) : Prop := if p0 = 70 then (wp_X11_does p3 h (fun r2 h3 => if r2 = 0 then (Q h3) else (if p0 = 70 then (LET (sI h3 11 0 35 ((gI h3 11 0 35) ||| (1 <<< (p1 &&& 31)))) fun h6 => Q h6) else (LET (sI h3 11 0 35 ((gI h3 11 0 35) &&& ((1 <<< (p1 &&& 31)) ^^^ (-1)))) fun h7 => Q h7)))) else if p0 = 85 then (wp_X11_does p3 h (fun r9 h10 => if r9 = 0 then (Q h10) else (if p0 = 70 then (LET (sI h10 11 0 35 ((gI h10 11 0 35) ||| (1 <<< (p1 &&& 31)))) fun h13 => Q h13) else (LET (sI h10 11 0 35 ((gI h10 11 0 35) &&& ((1 <<< (p1 &&& 31)) ^^^ (-1)))) fun h14 => Q h14)))) else if p0 = 99 then (wp_X11_sends p0 p1 p2 p3 h (fun h16 => Q h16)) else if p0 = 105 then (if (gI h 11 0 29) = 4 then (LET (sI h 11 0 43 ((gI h 11 0 43) + 1)) fun h19 => Q h19) else (wp_X11_does p3 h (fun r20 h21 => if r20 = 0 then (Q h21) else (wp_X11_begins p1 h21 (fun h23 => Q h23))))) else if p0 = 107 then (wp_X11_chooses p0 p1 p2 p3 h (fun h25 => Q h25)) else if p0 = 109 then (wp_X11_chooses p0 p1 p2 p3 h (fun h27 => Q h27)) else if p0 = 114 then (wp_X11_chooses p0 p1 p2 p3 h (fun h29 => Q h29)) else if p0 = 118 then (wp_X11_sends p0 p1 p2 p3 h (fun h31 => Q h31)) else if p0 = 119 then (wp_X11_sends p0 p1 p2 p3 h (fun h33 => Q h33)) else if p0 = 120 then (wp_X11_chooses p0 p1 p2 p3 h (fun h35 => Q h35)) else (wp_X11_does p3 h (fun r36 h37 => if r36 = 0 then (Q h37) else (if p0 = 115 then (LET (sI h37 11 0 29 ((gI h37 11 0 29) - 1)) fun h40 => Q h40) else (LET (sI h37 11 0 29 (-1)) fun h41 => Q h41))))
def rm_X11_runs : Room := { frames := 6, cells := 0, slots := 0, locals := 143 }
def wp_X11_runs_b345 (x2 : Int32) (h : Hp) (P87 : Hp → Prop) (Q : Hp → Prop) : Prop := P87 h
def wp_X11_runs_b221 (x2 : Int32) (s1 : Int32) (s2 : Int32) (s3 : Int32) (h : Hp) (P87 : Hp → Prop) (Q : Hp → Prop) : Prop := vp_in s1 6 ∧ LET (sI h 59 0 s1.toNatClampNeg (s2 + s3)) fun h2 => wp_X11_runs_b345 x2 h2 P87 Q
def wp_X11_runs_b200 (x2 : Int32) (x5 : Int32) (s1 : Int32) (s2 : Int32) (h : Hp) (P87 : Hp → Prop) (Q : Hp → Prop) : Prop := vp_in s1 6 ∧ LET (sI h 60 0 s1.toNatClampNeg s2) fun h2 => vp_in (gI h2 11 0 29) 6 ∧ if x5 = 0 then (wp_X11_runs_b221 x2 (gI h2 11 0 29) (gI h2 59 0 (gI h2 11 0 29).toNatClampNeg) 1 h2 P87 Q) else (wp_X11_runs_b221 x2 (gI h2 11 0 29) (gI h2 59 0 (gI h2 11 0 29).toNatClampNeg) 0 h2 P87 Q)
def wp_X11_runs_b87F (x2 : Int32)   (Q : Hp → Prop) (P87 : Hp → Prop)  (h : Hp) : Prop := if (gI h 11 0 29) < 0 then (if (gI h 11 0 33) = 120 then (LET (sI h 11 0 40 8) fun h3 => Q h3) else (if (gI h 11 0 33) = 114 then (LET (sI h 11 0 40 9) fun h5 => Q h5) else (LET (sI h 11 0 40 (gI h 11 0 34)) fun h6 => Q h6))) else (vp_in (gI h 11 0 29) 6 ∧ LET (gI h 58 0 (gI h 11 0 29).toNatClampNeg) fun v8 => LET ((12 * v8) + (gI h 59 0 (gI h 11 0 29).toNatClampNeg)) fun v9 => vp_in v8 4 ∧ if (gI h 59 0 (gI h 11 0 29).toNatClampNeg) < (gI h 53 0 v8.toNatClampNeg) then (if (gI h 60 0 (gI h 11 0 29).toNatClampNeg) = (-1) then (vp_in v9 48 ∧ wp_X11_holding (gI h 54 0 v9.toNatClampNeg) x2 (gI h 11 0 35) h (fun r14 h15 => if r14 = 0 then (wp_X11_runs_b200 x2 r14 (gI h15 11 0 29) (-1) h15 P87 Q) else (wp_X11_runs_b200 x2 r14 (gI h15 11 0 29) 0 h15 P87 Q))) else (vp_in v9 48 ∧ if (gI h 60 0 (gI h 11 0 29).toNatClampNeg) = (gI h 55 0 v9.toNatClampNeg) then (LET (sI h 59 0 (gI h 11 0 29).toNatClampNeg ((gI h 59 0 (gI h 11 0 29).toNatClampNeg) + 1)) fun h19 => vp_in (gI h19 11 0 29) 6 ∧ LET (sI h19 60 0 (gI h19 11 0 29).toNatClampNeg (-1)) fun h21 => wp_X11_runs_b345 x2 h21 P87 Q) else (LET (gI h 60 0 (gI h 11 0 29).toNatClampNeg) fun v22 => LET (sI h 60 0 (gI h 11 0 29).toNatClampNeg ((gI h 60 0 (gI h 11 0 29).toNatClampNeg) + 1)) fun h23 => vp_in ((5 * v9) + v22) 240 ∧ vp_in (gI h23 11 0 29) 6 ∧ wp_X11_acts (gI h23 56 0 ((5 * v9) + v22).toNatClampNeg) (gI h23 57 0 ((5 * v9) + v22).toNatClampNeg) x2 (((1000 * v8) + (10 * (gI h23 59 0 (gI h23 11 0 29).toNatClampNeg))) + v22) h23 (fun h26 => wp_X11_runs_b345 x2 h26 P87 Q)))) else (LET (sI h 11 0 29 ((gI h 11 0 29) - 1)) fun h27 => wp_X11_runs_b345 x2 h27 P87 Q))
def wp_X11_runs_b87 (x2 : Int32) (h : Hp)  (Q : Hp → Prop) : Prop := LFP1 (wp_X11_runs_b87F x2   Q)  h
def wp_X11_runs_b63F (x1 : Int32) (x2 : Int32)   (Q : Hp → Prop) (P63 : Int32 → Hp → Prop) (x3 : Int32) (h : Hp) : Prop := if 8 ≤ x3 then (wp_X11_begins x1 h (fun h2 => wp_X11_runs_b87 x2 h2 Q)) else (vp_in x3 8 ∧ LET (sI h 61 0 x3.toNatClampNeg 0) fun h4 => LET (x3 + 1) fun v5 => P63 v5 h4)
def wp_X11_runs_b63 (x1 : Int32) (x2 : Int32) (x3 : Int32) (h : Hp)  (Q : Hp → Prop) : Prop := LFP2 (wp_X11_runs_b63F x1 x2   Q) x3 h
def wp_X11_runs (p0 : Int32) (p1 : Int32) (h : Hp) (Q : Hp → Prop) : Prop := LET (sI h 11 0 29 (-1)) fun h1 => isC 45 ∧ LET (sI h1 11 0 33 45) fun h3 => LET (sI h3 11 0 34 0) fun h4 => LET (sI h4 11 0 35 0) fun h5 => LET (sI h5 11 0 36 0) fun h6 => LET (sI h6 11 0 37 0) fun h7 => LET (sI h7 11 0 38 0) fun h8 => LET (sI h8 11 0 41 0) fun h9 => LET (sI h9 11 0 42 0) fun h10 => LET (sI h10 11 0 43 0) fun h11 => LET (sI h11 11 0 44 0) fun h12 => LET (sI h12 11 0 45 0) fun h13 => wp_X11_runs_b63 p0 p1 0 h13 Q
def rm_X11_keeps : Room := { frames := 1, cells := 0, slots := 0, locals := 24 }
def wp_X11_keeps_b50F    (Q : Int32 → Hp → Prop) (P50 : Int32 → Hp → Prop) (x1 : Int32) (h : Hp) : Prop := if (gI h 11 0 41) ≤ x1 then (Q (gI h 11 0 40) h) else (vp_in x1 200 ∧ LET (sI h 63 0 x1.toNatClampNeg (gI h 62 0 x1.toNatClampNeg)) fun h3 => LET (x1 + 1) fun v4 => P50 v4 h3)
def wp_X11_keeps_b50 (x1 : Int32) (h : Hp)  (Q : Int32 → Hp → Prop) : Prop := LFP2 (wp_X11_keeps_b50F    Q) x1 h
def wp_X11_keeps  (h : Hp) (Q : Int32 → Hp → Prop) : Prop := LET (sI h 11 0 47 (gI h 11 0 41)) fun h1 => LET (sI h1 11 0 48 (gI h1 11 0 42)) fun h2 => LET (sI h2 11 0 49 (gI h2 11 0 43)) fun h3 => LET (sI h3 11 0 50 (gI h3 11 0 44)) fun h4 => LET (sI h4 11 0 51 (gI h4 11 0 45)) fun h5 => LET (sI h5 11 0 52 (gI h5 11 0 35)) fun h6 => wp_X11_keeps_b50 0 h6 Q
def rm_X11_deliver : Room := { frames := 7, cells := 0, slots := 0, locals := 168 }
def wp_X11_deliver_b128F (x1 : Int32)   (Q : Int32 → Hp → Prop) (P128 : Int32 → Hp → Prop) (x2 : Int32) (h : Hp) : Prop := if 10 ≤ x2 then (if (gI h 11 0 38) = 0 then (wp_X11_keeps h (fun r3 h4 => Q r3 h4)) else (vp_in x1 40 ∧ vp_in (gI h 33 0 x1.toNatClampNeg) 10 ∧ LET (sI h 46 0 (gI h 33 0 x1.toNatClampNeg).toNatClampNeg (gI h 11 0 1)) fun h7 => vp_in (gI h7 33 0 x1.toNatClampNeg) 10 ∧ LET (sI h7 47 0 (gI h7 33 0 x1.toNatClampNeg).toNatClampNeg ((gI h7 47 0 (gI h7 33 0 x1.toNatClampNeg).toNatClampNeg) + 1)) fun h9 => wp_X11_keeps h9 (fun r10 h11 => Q r10 h11))) else (vp_in x2 10 ∧ LET (sI h 48 0 x2.toNatClampNeg ((gI h 48 0 x2.toNatClampNeg) + (((gI h 11 0 37) >>> (x2 &&& 31)) &&& 1))) fun h13 => LET (x2 + 1) fun v14 => P128 v14 h13)
def wp_X11_deliver_b128 (x1 : Int32) (x2 : Int32) (h : Hp)  (Q : Int32 → Hp → Prop) : Prop := LFP2 (wp_X11_deliver_b128F x1   Q) x2 h
def wp_X11_deliver_b99F (x1 : Int32)   (Q : Int32 → Hp → Prop) (P99 : Int32 → Hp → Prop) (x2 : Int32) (h : Hp) : Prop := if 8 ≤ x2 then (wp_X11_deliver_b128 x1 0 h Q) else (vp_in x2 8 ∧ LET (sI h 45 0 x2.toNatClampNeg ((gI h 45 0 x2.toNatClampNeg) + (gI h 61 0 x2.toNatClampNeg))) fun h3 => LET (x2 + 1) fun v4 => P99 v4 h3)
def wp_X11_deliver_b99 (x1 : Int32) (x2 : Int32) (h : Hp)  (Q : Int32 → Hp → Prop) : Prop := LFP2 (wp_X11_deliver_b99F x1   Q) x2 h
def wp_X11_deliver_b79 (x1 : Int32) (s1 : Int32) (s2 : Int32) (h : Hp)  (Q : Int32 → Hp → Prop) : Prop := vp_in s1 40 ∧ LET (sI h 41 0 s1.toNatClampNeg s2) fun h2 => vp_in x1 40 ∧ LET (sI h2 42 0 x1.toNatClampNeg (gI h2 11 0 35)) fun h4 => LET (sI h4 43 0 x1.toNatClampNeg (-1)) fun h5 => wp_X11_deliver_b99 x1 0 h5 Q
def wp_X11_deliver_b51 (x1 : Int32) (s1 : Int32) (s2 : Int32) (h : Hp)  (Q : Int32 → Hp → Prop) : Prop := vp_in s1 40 ∧ LET (sI h 40 0 s1.toNatClampNeg (vp_nar .boolean s2)) fun h2 => if (gI h2 11 0 40) ≤ 7 then (wp_X11_deliver_b79 x1 x1 (gI h2 11 0 40) h2 Q) else (vp_in x1 40 ∧ wp_X11_deliver_b79 x1 x1 (gI h2 41 0 x1.toNatClampNeg) h2 Q)
def wp_X11_deliver (p0 : Int32) (h : Hp) (Q : Int32 → Hp → Prop) : Prop := LET (sI h 11 0 0 0) fun h1 => wp_X11_isMail p0 h1 (fun r2 => if r2 = 0 then (wp_X11_fails 1 h1 (fun r4 h5 => Q r4 h5)) else (wp_X11_runs 0 p0 h1 (fun h6 => vp_in p0 40 ∧ LET (sI h6 39 0 p0.toNatClampNeg (vp_nar .boolean 1)) fun h8 => if (gI h8 11 0 40) ≤ 7 then (wp_X11_deliver_b51 p0 p0 0 h8 Q) else (wp_X11_deliver_b51 p0 p0 1 h8 Q))))
def rm_X11_isScript : Room := { frames := 2, cells := 0, slots := 0, locals := 46 }
def wp_X11_isScript (p0 : Int32) (h : Hp) (Q : Int32 → Prop) : Prop := wp_X11_in p0 0 3 h (fun r1 => Q r1)
def rm_X11_attempt : Room := { frames := 7, cells := 0, slots := 0, locals := 168 }
def wp_X11_attempt_b20  (h : Hp)  (Q : Int32 → Hp → Prop) : Prop := wp_X11_fails 1 h (fun r1 h2 => Q r1 h2)
def wp_X11_attempt (p0 : Int32) (p1 : Int32) (h : Hp) (Q : Int32 → Hp → Prop) : Prop := LET (sI h 11 0 0 0) fun h1 => wp_X11_isScript p0 h1 (fun r2 => if r2 = 0 then (wp_X11_attempt_b20 h1 Q) else (wp_X11_isMail p1 h1 (fun r4 => if r4 = 0 then (wp_X11_attempt_b20 h1 Q) else (wp_X11_runs p0 p1 h1 (fun h6 => wp_X11_keeps h6 (fun r7 h8 => Q r7 h8))))))
def rm_X11_done : Room := { frames := 1, cells := 0, slots := 0, locals := 24 }
def wp_X11_done  (h : Hp) (Q : Int32 → Hp → Prop) : Prop := LET (sI h 11 0 0 0) fun h1 => Q (gI h1 11 0 47) h1
def rm_X11_doneAt : Room := { frames := 2, cells := 0, slots := 0, locals := 46 }
def wp_X11_doneAt (p0 : Int32) (h : Hp) (Q : Int32 → Hp → Prop) : Prop := LET (sI h 11 0 0 0) fun h1 => wp_X11_in p0 0 ((gI h1 11 0 47) - 1) h1 (fun r2 => if r2 = 0 then (wp_X11_fails 1 h1 (fun r4 h5 => Q r4 h5)) else (vp_in p0 200 ∧ Q (gI h1 63 0 p0.toNatClampNeg) h1))
def rm_X11_clashes : Room := { frames := 1, cells := 0, slots := 0, locals := 24 }
def wp_X11_clashes  (h : Hp) (Q : Int32 → Hp → Prop) : Prop := LET (sI h 11 0 0 0) fun h1 => Q (gI h1 11 0 48) h1
def rm_X11_faults : Room := { frames := 2, cells := 0, slots := 0, locals := 45 }
def wp_X11_faults (p0 : Int32) (h : Hp) (Q : Int32 → Hp → Prop) : Prop := LET (sI h 11 0 0 0) fun h1 => if p0 = 105 then (Q (gI h1 11 0 49) h1) else (if p0 = 119 then (Q (gI h1 11 0 50) h1) else (if p0 = 113 then (Q (gI h1 11 0 51) h1) else (wp_X11_fails 1 h1 (fun r5 h6 => Q r5 h6))))
def rm_X11_flags : Room := { frames := 1, cells := 0, slots := 0, locals := 24 }
def wp_X11_flags  (h : Hp) (Q : Int32 → Hp → Prop) : Prop := LET (sI h 11 0 0 0) fun h1 => Q (gI h1 11 0 52) h1
def rm_X11_replies : Room := { frames := 2, cells := 0, slots := 0, locals := 46 }
def wp_X11_replies (p0 : Int32) (h : Hp) (Q : Int32 → Hp → Prop) : Prop := LET (sI h 11 0 0 0) fun h1 => wp_X11_in p0 0 9 h1 (fun r2 => if r2 = 0 then (wp_X11_fails 1 h1 (fun r4 h5 => Q r4 h5)) else (vp_in p0 10 ∧ Q (gI h1 47 0 p0.toNatClampNeg) h1))
def rm_X11_forwarded : Room := { frames := 2, cells := 0, slots := 0, locals := 46 }
def wp_X11_forwarded (p0 : Int32) (h : Hp) (Q : Int32 → Hp → Prop) : Prop := LET (sI h 11 0 0 0) fun h1 => wp_X11_in p0 0 9 h1 (fun r2 => if r2 = 0 then (wp_X11_fails 1 h1 (fun r4 h5 => Q r4 h5)) else (vp_in p0 10 ∧ Q (gI h1 48 0 p0.toNatClampNeg) h1))
def rm_X11_difference : Room := { frames := 7, cells := 0, slots := 0, locals := 168 }
def wp_X11_difference_b19  (h : Hp)  (Q : Int32 → Hp → Prop) : Prop := wp_X11_fails 1 h (fun r1 h2 => Q r1 h2)
def wp_X11_difference_b90 (x1 : Int32) (x2 : Int32) (x4 : Int32) (s0 : Int32) (s1 : Int32) (h : Hp) (P30 : Int32 → Int32 → Hp → Prop) (Q : Int32 → Hp → Prop) : Prop := LET (s0 + s1) fun v1 => LET (x4 + 1) fun v2 => P30 v1 v2 h
def wp_X11_difference_b30F (x1 : Int32) (x2 : Int32)   (Q : Int32 → Hp → Prop) (P30 : Int32 → Int32 → Hp → Prop) (x3 : Int32) (x4 : Int32) (h : Hp) : Prop := if (gI h 11 0 2) ≤ x4 then (Q x3 h) else (wp_X11_runs x1 x4 h (fun h2 => LET ((10 * (gI h2 11 0 35)) + (gI h2 11 0 40)) fun v3 => wp_X11_runs x2 x4 h2 (fun h4 => if v3 = ((10 * (gI h4 11 0 35)) + (gI h4 11 0 40)) then (wp_X11_difference_b90 x1 x2 x4 x3 0 h4 P30 Q) else (wp_X11_difference_b90 x1 x2 x4 x3 1 h4 P30 Q))))
def wp_X11_difference_b30 (x1 : Int32) (x2 : Int32) (x3 : Int32) (x4 : Int32) (h : Hp)  (Q : Int32 → Hp → Prop) : Prop := LFP3 (wp_X11_difference_b30F x1 x2   Q) x3 x4 h
def wp_X11_difference (p0 : Int32) (p1 : Int32) (h : Hp) (Q : Int32 → Hp → Prop) : Prop := LET (sI h 11 0 0 0) fun h1 => wp_X11_isScript p0 h1 (fun r2 => if r2 = 0 then (wp_X11_difference_b19 h1 Q) else (wp_X11_isScript p1 h1 (fun r4 => if r4 = 0 then (wp_X11_difference_b19 h1 Q) else (wp_X11_difference_b30 p0 p1 0 0 h1 Q))))
def rm_X11_uses : Room := { frames := 1, cells := 0, slots := 0, locals := 24 }
def wp_X11_uses (p0 : Int32) (h : Hp) (Q : Hp → Prop) : Prop := vp_in p0 45 ∧ LET (sI h 65 0 p0.toNatClampNeg (vp_nar .boolean 1)) fun h2 => Q h2
def rm_X11_needs : Room := { frames := 2, cells := 0, slots := 0, locals := 45 }
def wp_X11_needs_b35 (s1 : Int32) (h : Hp)  (Q : Hp → Prop) : Prop := vp_in s1 60 ∧ LET (sI h 68 0 s1.toNatClampNeg (vp_nar .boolean 1)) fun h2 => Q h2
def wp_X11_needs_b13 (x1 : Int32) (x2 : Int32) (x3 : Int32) (h : Hp)  (Q : Hp → Prop) : Prop := vp_in x2 60 ∧ LET (sI h 68 0 x2.toNatClampNeg (vp_nar .boolean 1)) fun h2 => if x1 = 33 then (wp_X11_needs_b35 x2 h2 Q) else (wp_X11_needs_b35 x3 h2 Q)
def wp_X11_needs_b52 (x1 : Int32) (h : Hp)  (Q : Hp → Prop) : Prop := if x1 = 102 then (wp_X11_uses 0 h (fun h2 => Q h2)) else (wp_X11_uses 1 h (fun h3 => Q h3))
def wp_X11_needs_b161 (x2 : Int32) (s1 : Int32) (h : Hp)  (Q : Hp → Prop) : Prop := wp_X11_uses (s1 + x2) h (fun h1 => Q h1)
def wp_X11_needs_b147 (x1 : Int32) (x2 : Int32) (h : Hp)  (Q : Hp → Prop) : Prop := if x1 = 115 then (wp_X11_needs_b161 x2 13 h Q) else (wp_X11_needs_b161 x2 29 h Q)
def wp_X11_needs_b178F    (Q : Hp → Prop) (P178 : Int32 → Hp → Prop) (x4 : Int32) (h : Hp) : Prop := if 10 ≤ x4 then (Q h) else (wp_X11_uses (3 + x4) h (fun h2 => LET (x4 + 1) fun v3 => P178 v3 h2))
def wp_X11_needs_b178 (x4 : Int32) (h : Hp)  (Q : Hp → Prop) : Prop := LFP2 (wp_X11_needs_b178F    Q) x4 h
def wp_X11_needs_b105 (s1 : Int32) (s2 : Int32) (h : Hp)  (Q : Hp → Prop) : Prop := vp_in s1 61 ∧ LET (sI h 71 0 s1.toNatClampNeg s2) fun h2 => LET (sI h2 11 0 62 ((gI h2 11 0 62) + 1)) fun h3 => Q h3
def wp_X11_needs (p0 : Int32) (p1 : Int32) (p2 : Int32) (h : Hp) (Q : Hp → Prop) : Prop := if p0 = 33 then (wp_X11_needs_b13 p0 p1 p2 h Q) else (wp_X11_isPair p0 h (fun r2 => if r2 = 0 then (if p0 = 102 then (wp_X11_needs_b52 p0 h Q) else (if p0 = 100 then (wp_X11_needs_b52 p0 h Q) else (if p0 = 122 then (wp_X11_uses 2 h (fun h7 => if 999 ≤ p1 then (wp_X11_needs_b105 (gI h7 11 0 62) 999 h7 Q) else (wp_X11_needs_b105 (gI h7 11 0 62) (p1 + 1) h7 Q))) else (if p0 = 116 then (wp_X11_uses (3 + p1) h (fun h10 => Q h10)) else (if p0 = 115 then (wp_X11_needs_b147 p0 p1 h Q) else (if p0 = 98 then (wp_X11_needs_b147 p0 p1 h Q) else (if p0 = 110 then (wp_X11_needs_b178 0 h Q) else (Q h)))))))) else (wp_X11_needs_b13 p0 p1 p2 h Q)))
def rm_X11_gathers : Room := { frames := 3, cells := 0, slots := 0, locals := 69 }
def wp_X11_gathers_b130 (x1 : Int32) (h : Hp) (P95 : Int32 → Hp → Prop) (Q : Hp → Prop) : Prop := LET (x1 + 1) fun v1 => P95 v1 h
def wp_X11_gathers_b95F    (Q : Hp → Prop) (P95 : Int32 → Hp → Prop) (x1 : Int32) (h : Hp) : Prop := if 45 ≤ x1 then (Q h) else (vp_in x1 45 ∧ if (gI h 65 0 x1.toNatClampNeg) = 0 then (wp_X11_gathers_b130 x1 h P95 Q) else (vp_in (gI h 11 0 58) 45 ∧ LET (sI h 66 0 (gI h 11 0 58).toNatClampNeg x1) fun h5 => LET (sI h5 11 0 58 ((gI h5 11 0 58) + 1)) fun h6 => wp_X11_gathers_b130 x1 h6 P95 Q))
def wp_X11_gathers_b95 (x1 : Int32) (h : Hp)  (Q : Hp → Prop) : Prop := LFP2 (wp_X11_gathers_b95F    Q) x1 h
def wp_X11_gathers_b82 (x1 : Int32) (h : Hp) (P47 : Int32 → Hp → Prop) (Q : Hp → Prop) : Prop := LET (x1 + (-1)) fun v1 => P47 v1 h
def wp_X11_gathers_b47F    (Q : Hp → Prop) (P47 : Int32 → Hp → Prop) (x1 : Int32) (h : Hp) : Prop := if x1 < 0 then (LET (sI h 11 0 58 0) fun h2 => wp_X11_gathers_b95 0 h2 Q) else (vp_in x1 60 ∧ if (gI h 68 0 x1.toNatClampNeg) = 0 then (wp_X11_gathers_b82 x1 h P47 Q) else (wp_X11_needs (gI h 49 0 x1.toNatClampNeg) (gI h 50 0 x1.toNatClampNeg) (gI h 51 0 x1.toNatClampNeg) h (fun h5 => wp_X11_gathers_b82 x1 h5 P47 Q)))
def wp_X11_gathers_b47 (x1 : Int32) (h : Hp)  (Q : Hp → Prop) : Prop := LFP2 (wp_X11_gathers_b47F    Q) x1 h
def wp_X11_gathers_b2F    (Q : Hp → Prop) (P2 : Int32 → Hp → Prop) (x1 : Int32) (h : Hp) : Prop := if 45 ≤ x1 then (LET (sI h 11 0 62 1) fun h2 => vp_in 0 61 ∧ LET (sI h2 71 0 (0 : Int32).toNatClampNeg 1) fun h4 => LET ((gI h4 11 0 19) - 1) fun v5 => wp_X11_gathers_b47 v5 h4 Q) else (vp_in x1 45 ∧ LET (sI h 65 0 x1.toNatClampNeg (vp_nar .boolean 0)) fun h7 => LET (sI h7 64 0 x1.toNatClampNeg (-1)) fun h8 => LET (x1 + 1) fun v9 => P2 v9 h8)
def wp_X11_gathers_b2 (x1 : Int32) (h : Hp)  (Q : Hp → Prop) : Prop := LFP2 (wp_X11_gathers_b2F    Q) x1 h
def wp_X11_gathers  (h : Hp) (Q : Hp → Prop) : Prop := wp_X11_gathers_b2 0 h Q
def rm_X11_domain : Room := { frames := 1, cells := 0, slots := 0, locals := 24 }
def wp_X11_domain (p0 : Int32) (h : Hp) (Q : Int32 → Prop) : Prop := if p0 = 0 then (Q 10) else (if p0 = 1 then (Q 7) else (if p0 = 2 then (Q (gI h 11 0 62)) else (Q 2)))
def rm_X11_counted : Room := { frames := 1, cells := 0, slots := 0, locals := 24 }
def wp_X11_counted_b44 (x1 : Int32) (x3 : Int32) (s0 : Int32) (s1 : Int32) (h : Hp) (P4 : Int32 → Int32 → Prop) (Q : Int32 → Prop) : Prop := LET (s0 + s1) fun v1 => LET (x3 + 1) fun v2 => P4 v1 v2
def wp_X11_counted_b39 (x1 : Int32) (x3 : Int32) (s0 : Int32) (h : Hp) (P4 : Int32 → Int32 → Prop) (Q : Int32 → Prop) : Prop := wp_X11_counted_b44 x1 x3 s0 1 h P4 Q
def wp_X11_counted_b43 (x1 : Int32) (x3 : Int32) (s0 : Int32) (h : Hp) (P4 : Int32 → Int32 → Prop) (Q : Int32 → Prop) : Prop := wp_X11_counted_b44 x1 x3 s0 0 h P4 Q
def wp_X11_counted_b4F (x1 : Int32) (h : Hp)  (Q : Int32 → Prop) (P4 : Int32 → Int32 → Prop) (x2 : Int32) (x3 : Int32)  : Prop := if 10 ≤ x3 then (Q x2) else (vp_in (3 + x3) 45 ∧ if (gI h 64 0 (3 + x3).toNatClampNeg) = 1 then (wp_X11_counted_b39 x1 x3 x2 h P4 Q) else (if x1 = 0 then (wp_X11_counted_b43 x1 x3 x2 h P4 Q) else (if (gI h 64 0 (3 + x3).toNatClampNeg) = (-1) then (wp_X11_counted_b39 x1 x3 x2 h P4 Q) else (wp_X11_counted_b43 x1 x3 x2 h P4 Q))))
def wp_X11_counted_b4 (x1 : Int32) (x2 : Int32) (x3 : Int32) (h : Hp)  (Q : Int32 → Prop) : Prop := LFP2 (wp_X11_counted_b4F x1 h  Q) x2 x3 
def wp_X11_counted (p0 : Int32) (h : Hp) (Q : Int32 → Prop) : Prop := wp_X11_counted_b4 p0 0 0 h Q
def rm_X11_canBe : Room := { frames := 2, cells := 0, slots := 0, locals := 47 }
def wp_X11_canBe_b73 (x1 : Int32) (x3 : Int32) (h : Hp)  (Q : Int32 → Prop) : Prop := if x1 = 107 then (Q 1) else (if x3 = 0 then (Q 0) else (Q 1))
def wp_X11_canBe_b254 (x3 : Int32) (s0 : Int32) (h : Hp)  (Q : Int32 → Prop) : Prop := if s0 = x3 then (Q 1) else (Q 0)
def wp_X11_canBe_b189 (x2 : Int32) (x3 : Int32) (x4 : Int32) (h : Hp)  (Q : Int32 → Prop) : Prop := vp_in x4 45 ∧ if (gI h 64 0 x4.toNatClampNeg) = x2 then (wp_X11_canBe_b254 x3 1 h Q) else (wp_X11_canBe_b254 x3 0 h Q)
def wp_X11_canBe_b59 (x1 : Int32) (x2 : Int32) (x3 : Int32) (s0 : Int32) (h : Hp)  (Q : Int32 → Prop) : Prop := if x1 = 97 then (wp_X11_canBe_b73 x1 x3 h Q) else (if x1 = 107 then (wp_X11_canBe_b73 x1 x3 h Q) else (if x1 = 110 then (if x3 = 0 then (if x2 ≤ 1 then (Q 0) else (wp_X11_counted 0 h (fun r6 => if x2 ≤ r6 then (Q 0) else (Q 1)))) else (wp_X11_counted 1 h (fun r8 => if r8 < x2 then (Q 0) else (Q 1)))) else (vp_in s0 45 ∧ if (gI h 64 0 s0.toNatClampNeg) = (-1) then (if x1 = 122 then (if x3 = 0 then (if x2 ≤ 0 then (Q 0) else (Q 1)) else (if 999 ≤ x2 then (Q 0) else (Q 1))) else (Q 1)) else (if x1 = 102 then (wp_X11_canBe_b189 x2 x3 s0 h Q) else (if x1 = 100 then (wp_X11_canBe_b189 x2 x3 s0 h Q) else (if x1 = 122 then (vp_in (gI h 64 0 s0.toNatClampNeg) 61 ∧ if (gI h 71 0 (gI h 64 0 s0.toNatClampNeg).toNatClampNeg) ≤ x2 then (wp_X11_canBe_b254 x3 0 h Q) else (wp_X11_canBe_b254 x3 1 h Q)) else (if (gI h 64 0 s0.toNatClampNeg) = 1 then (wp_X11_canBe_b254 x3 1 h Q) else (wp_X11_canBe_b254 x3 0 h Q))))))))
def wp_X11_canBe (p0 : Int32) (p1 : Int32) (p2 : Int32) (h : Hp) (Q : Int32 → Prop) : Prop := if p0 = 102 then (wp_X11_canBe_b59 p0 p1 p2 0 h Q) else (if p0 = 100 then (wp_X11_canBe_b59 p0 p1 p2 1 h Q) else (if p0 = 122 then (wp_X11_canBe_b59 p0 p1 p2 2 h Q) else (if p0 = 116 then (wp_X11_canBe_b59 p0 p1 p2 (3 + p1) h Q) else (if p0 = 115 then (wp_X11_canBe_b59 p0 p1 p2 (13 + p1) h Q) else (wp_X11_canBe_b59 p0 p1 p2 (29 + p1) h Q)))))
def rm_X11_isPossible : Room := { frames := 3, cells := 0, slots := 0, locals := 72 }
def wp_X11_isPossible_b357  (h : Hp)  (Q : Int32 → Hp → Prop) : Prop := vp_in (gI h 11 0 65) 60 ∧ if (gI h 70 0 (gI h 11 0 65).toNatClampNeg) = 0 then (Q 0 h) else (vp_in (gI h 11 0 66) 60 ∧ if (gI h 69 0 (gI h 11 0 66).toNatClampNeg) = 0 then (Q 0 h) else (Q 1 h))
def wp_X11_isPossible_b319 (x1 : Int32) (h : Hp) (P12 : Int32 → Hp → Prop) (Q : Int32 → Hp → Prop) : Prop := LET (x1 + 1) fun v1 => P12 v1 h
def wp_X11_isPossible_b298 (x1 : Int32) (h : Hp) (P12 : Int32 → Hp → Prop) (Q : Int32 → Hp → Prop) : Prop := vp_in x1 60 ∧ if (gI h 72 0 x1.toNatClampNeg) ≤ 1 then (wp_X11_isPossible_b319 x1 h P12 Q) else (if (gI h 70 0 x1.toNatClampNeg) = 0 then (Q 0 h) else (wp_X11_isPossible_b319 x1 h P12 Q))
def wp_X11_isPossible_b276 (x1 : Int32) (s1 : Int32) (s2 : Int32) (h : Hp) (P12 : Int32 → Hp → Prop) (Q : Int32 → Hp → Prop) : Prop := vp_in s1 60 ∧ LET (sI h 70 0 s1.toNatClampNeg (vp_nar .boolean s2)) fun h2 => vp_in x1 60 ∧ if ((gI h2 72 0 x1.toNatClampNeg) - (gI h2 72 0 x1.toNatClampNeg) / 2 * 2) = 1 then (if (gI h2 69 0 x1.toNatClampNeg) = 0 then (Q 0 h2) else (wp_X11_isPossible_b298 x1 h2 P12 Q)) else (wp_X11_isPossible_b298 x1 h2 P12 Q)
def wp_X11_isPossible_b275 (x1 : Int32) (s1 : Int32) (h : Hp) (P12 : Int32 → Hp → Prop) (Q : Int32 → Hp → Prop) : Prop := wp_X11_isPossible_b276 x1 s1 0 h P12 Q
def wp_X11_isPossible_b244 (x1 : Int32) (s1 : Int32) (h : Hp) (P12 : Int32 → Hp → Prop) (Q : Int32 → Hp → Prop) : Prop := wp_X11_isPossible_b276 x1 s1 1 h P12 Q
def wp_X11_isPossible_b183 (x1 : Int32) (x2 : Int32) (x3 : Int32) (x4 : Int32) (x5 : Int32) (s1 : Int32) (s2 : Int32) (h : Hp) (P12 : Int32 → Hp → Prop) (Q : Int32 → Hp → Prop) : Prop := vp_in s1 60 ∧ LET (sI h 69 0 s1.toNatClampNeg (vp_nar .boolean s2)) fun h2 => if x4 = 0 then (wp_X11_canBe x2 x3 0 h2 (fun r4 => wp_X11_isPossible_b276 x1 x1 r4 h2 P12 Q)) else (if x2 = 33 then (vp_in x3 60 ∧ wp_X11_isPossible_b276 x1 x1 (gI h2 69 0 x3.toNatClampNeg) h2 P12 Q) else (if x2 = 38 then (vp_in x3 60 ∧ if (gI h2 70 0 x3.toNatClampNeg) = 0 then (vp_in x5 60 ∧ if (gI h2 70 0 x5.toNatClampNeg) = 0 then (wp_X11_isPossible_b276 x1 x1 0 h2 P12 Q) else (wp_X11_isPossible_b244 x1 x1 h2 P12 Q)) else (wp_X11_isPossible_b244 x1 x1 h2 P12 Q)) else (vp_in x3 60 ∧ if (gI h2 70 0 x3.toNatClampNeg) = 0 then (wp_X11_isPossible_b275 x1 x1 h2 P12 Q) else (vp_in x5 60 ∧ if (gI h2 70 0 x5.toNatClampNeg) = 0 then (wp_X11_isPossible_b275 x1 x1 h2 P12 Q) else (wp_X11_isPossible_b276 x1 x1 1 h2 P12 Q)))))
def wp_X11_isPossible_b178 (x1 : Int32) (x2 : Int32) (x3 : Int32) (x4 : Int32) (x5 : Int32) (s1 : Int32) (h : Hp) (P12 : Int32 → Hp → Prop) (Q : Int32 → Hp → Prop) : Prop := wp_X11_isPossible_b183 x1 x2 x3 x4 x5 s1 1 h P12 Q
def wp_X11_isPossible_b155 (x1 : Int32) (x2 : Int32) (x3 : Int32) (x4 : Int32) (x5 : Int32) (s1 : Int32) (h : Hp) (P12 : Int32 → Hp → Prop) (Q : Int32 → Hp → Prop) : Prop := wp_X11_isPossible_b183 x1 x2 x3 x4 x5 s1 0 h P12 Q
def wp_X11_isPossible_b89 (x1 : Int32) (x2 : Int32) (x3 : Int32) (x4 : Int32) (s0 : Int32) (h : Hp) (P12 : Int32 → Hp → Prop) (Q : Int32 → Hp → Prop) : Prop := if x4 = 0 then (wp_X11_canBe x2 x3 1 h (fun r2 => wp_X11_isPossible_b183 x1 x2 x3 x4 s0 x1 r2 h P12 Q)) else (if x2 = 33 then (vp_in x3 60 ∧ wp_X11_isPossible_b183 x1 x2 x3 x4 s0 x1 (gI h 70 0 x3.toNatClampNeg) h P12 Q) else (if x2 = 38 then (vp_in x3 60 ∧ if (gI h 69 0 x3.toNatClampNeg) = 0 then (wp_X11_isPossible_b155 x1 x2 x3 x4 s0 x1 h P12 Q) else (vp_in s0 60 ∧ if (gI h 69 0 s0.toNatClampNeg) = 0 then (wp_X11_isPossible_b155 x1 x2 x3 x4 s0 x1 h P12 Q) else (wp_X11_isPossible_b183 x1 x2 x3 x4 s0 x1 1 h P12 Q))) else (vp_in x3 60 ∧ if (gI h 69 0 x3.toNatClampNeg) = 0 then (vp_in s0 60 ∧ if (gI h 69 0 s0.toNatClampNeg) = 0 then (wp_X11_isPossible_b183 x1 x2 x3 x4 s0 x1 0 h P12 Q) else (wp_X11_isPossible_b178 x1 x2 x3 x4 s0 x1 h P12 Q)) else (wp_X11_isPossible_b178 x1 x2 x3 x4 s0 x1 h P12 Q))))
def wp_X11_isPossible_b61 (x1 : Int32) (x2 : Int32) (x3 : Int32) (s0 : Int32) (h : Hp) (P12 : Int32 → Hp → Prop) (Q : Int32 → Hp → Prop) : Prop := wp_X11_isPair x2 h (fun r1 => if r1 = 0 then (if s0 = 0 then (wp_X11_isPossible_b89 x1 x2 x3 s0 0 h P12 Q) else (wp_X11_isPossible_b89 x1 x2 x3 s0 x3 h P12 Q)) else (vp_in x1 60 ∧ wp_X11_isPossible_b89 x1 x2 x3 s0 (gI h 51 0 x1.toNatClampNeg) h P12 Q))
def wp_X11_isPossible_b56 (x1 : Int32) (x2 : Int32) (x3 : Int32) (h : Hp) (P12 : Int32 → Hp → Prop) (Q : Int32 → Hp → Prop) : Prop := wp_X11_isPossible_b61 x1 x2 x3 1 h P12 Q
def wp_X11_isPossible_b12F    (Q : Int32 → Hp → Prop) (P12 : Int32 → Hp → Prop) (x1 : Int32) (h : Hp) : Prop := if (gI h 11 0 19) ≤ x1 then (if (gI h 11 0 65) = (-1) then (Q 1 h) else (vp_in (gI h 11 0 65) 60 ∧ if (gI h 69 0 (gI h 11 0 65).toNatClampNeg) = 0 then (wp_X11_isPossible_b357 h Q) else (vp_in (gI h 11 0 66) 60 ∧ if (gI h 70 0 (gI h 11 0 66).toNatClampNeg) = 0 then (wp_X11_isPossible_b357 h Q) else (Q 1 h)))) else (vp_in x1 60 ∧ if (gI h 68 0 x1.toNatClampNeg) = 0 then (wp_X11_isPossible_b319 x1 h P12 Q) else (LET (gI h 49 0 x1.toNatClampNeg) fun v9 => LET (gI h 50 0 x1.toNatClampNeg) fun v10 => if v9 = 33 then (wp_X11_isPossible_b56 x1 v9 v10 h P12 Q) else (wp_X11_isPair v9 h (fun r12 => if r12 = 0 then (wp_X11_isPossible_b61 x1 v9 v10 0 h P12 Q) else (wp_X11_isPossible_b56 x1 v9 v10 h P12 Q)))))
def wp_X11_isPossible_b12 (x1 : Int32) (h : Hp)  (Q : Int32 → Hp → Prop) : Prop := LFP2 (wp_X11_isPossible_b12F    Q) x1 h
def wp_X11_isPossible  (h : Hp) (Q : Int32 → Hp → Prop) : Prop := wp_X11_counted 1 h (fun r1 => if r1 = 0 then (Q 0 h) else (wp_X11_isPossible_b12 0 h Q))
set_option maxRecDepth 20000 in
theorem m_X11_begins {l : Launch} (hl : l.stackTraces = false) (G : Gq) (p0 : Int32)  (h : Hp) (Q : Hp → Prop) (hw : wp_X11_begins p0 h Q) : MV l G yX11_begins cX11_begins 2 none rm_X11_begins NT NT h (fun r => [r 11 0, .int p0]) Q := by
  refine MV_of (L0 := (fun X => [some (rf X 11 0), some (.int p0)])) hl (by decide +kernel) rfl (fun _ => Nat.le_of_ble_eq_true rfl) (fun _ => rfl) fun X hXl hXG E hE => ?_
  subst hXl; subst hXG
  unfold wp_X11_begins at hw
  refine r_aload_n E 11 0 rfl dX11_begins_0 ?_
  refine r_dup E rfl dX11_begins_1 ?_
  refine r_getI E fd_X11_210 rfl (Nat.le_of_ble_eq_true rfl) (adr_lt (Nat.le_of_ble_eq_true rfl)) dX11_begins_2 ?_
  refine r_iconst E 1 rfl dX11_begins_5 ?_
  refine r_iadd E dX11_begins_6 ?_
  refine r_putI E fd_X11_210 rfl PI_int (Nat.le_of_ble_eq_true rfl) (adr_lt (Nat.le_of_ble_eq_true rfl)) rfl dX11_begins_7 ?_
  refine GG_toph fun h1 hh1 => ?_
  have hw := hw h1 hh1
  refine r_aload_n E 11 0 rfl dX11_begins_10 ?_
  refine r_getS E fd_X11_87 (t := 0) (j1 := 58) rfl rfl rfl rfl (Nat.le_of_ble_eq_true rfl) (adr_lt (Nat.le_of_ble_eq_true rfl)) dX11_begins_11 ?_
  refine r_aload_n E 11 0 rfl dX11_begins_14 ?_
  refine r_getI E fd_X11_210 rfl (Nat.le_of_ble_eq_true rfl) (adr_lt (Nat.le_of_ble_eq_true rfl)) dX11_begins_15 ?_
  refine r_iload_n E p0 rfl dX11_begins_18 ?_
  obtain ⟨i2, hw⟩ := hw
  refine r_iast E rfl rfl rfl (Nat.le_of_ble_eq_true rfl) (adr_lt (Nat.le_of_ble_eq_true rfl)) i2 dX11_begins_19 ?_
  refine GG_toph fun h3 hh3 => ?_
  have hw := hw h3 hh3
  refine r_aload_n E 11 0 rfl dX11_begins_20 ?_
  refine r_getS E fd_X11_90 (t := 0) (j1 := 59) rfl rfl rfl rfl (Nat.le_of_ble_eq_true rfl) (adr_lt (Nat.le_of_ble_eq_true rfl)) dX11_begins_21 ?_
  refine r_aload_n E 11 0 rfl dX11_begins_24 ?_
  refine r_getI E fd_X11_210 rfl (Nat.le_of_ble_eq_true rfl) (adr_lt (Nat.le_of_ble_eq_true rfl)) dX11_begins_25 ?_
  refine r_iconst E 0 rfl dX11_begins_28 ?_
  obtain ⟨i4, hw⟩ := hw
  refine r_iast E rfl rfl rfl (Nat.le_of_ble_eq_true rfl) (adr_lt (Nat.le_of_ble_eq_true rfl)) i4 dX11_begins_29 ?_
  refine GG_toph fun h5 hh5 => ?_
  have hw := hw h5 hh5
  refine r_aload_n E 11 0 rfl dX11_begins_30 ?_
  refine r_getS E fd_X11_93 (t := 0) (j1 := 60) rfl rfl rfl rfl (Nat.le_of_ble_eq_true rfl) (adr_lt (Nat.le_of_ble_eq_true rfl)) dX11_begins_31 ?_
  refine r_aload_n E 11 0 rfl dX11_begins_34 ?_
  refine r_getI E fd_X11_210 rfl (Nat.le_of_ble_eq_true rfl) (adr_lt (Nat.le_of_ble_eq_true rfl)) dX11_begins_35 ?_
  refine r_iconst E (-1) rfl dX11_begins_38 ?_
  obtain ⟨i6, hw⟩ := hw
  refine r_iast E rfl rfl rfl (Nat.le_of_ble_eq_true rfl) (adr_lt (Nat.le_of_ble_eq_true rfl)) i6 dX11_begins_39 ?_
  refine GG_toph fun h7 hh7 => ?_
  have hw := hw h7 hh7
  exact hE _ _ _ _ _ (Nat.le_of_ble_eq_true rfl) (Nat.le_of_ble_eq_true rfl) dX11_begins_40 hw
set_option maxRecDepth 20000 in
theorem m_X11_acts {l : Launch} (hl : l.stackTraces = false) (G : Gq) (p0 : Int32) (p1 : Int32) (p2 : Int32) (p3 : Int32)  (h : Hp) (Q : Hp → Prop) (hw : wp_X11_acts p0 p1 p2 p3 h Q) : MV l G yX11_acts cX11_acts 5 none rm_X11_acts NT NT h (fun r => [r 11 0, .int p0, .int p1, .int p2, .int p3]) Q := by
  refine MV_of (L0 := (fun X => [some (rf X 11 0), some (.int p0), some (.int p1), some (.int p2), some (.int p3)])) hl (by decide +kernel) rfl (fun _ => Nat.le_of_ble_eq_true rfl) (fun _ => rfl) fun X hXl hXG E hE => ?_
  subst hXl; subst hXG
  unfold wp_X11_acts at hw
  refine r_iload_n E p0 rfl dX11_acts_0 ?_
  rcases Decidable.em (p0 = 70) with c1 | c1
  · have hw := ite_t hw c1
    refine r_lookup E (off := 115) 116 dX11_acts_1 (by decide) (by rw [c1]; rfl) (by decide) ?_
    refine r_aload_n E 11 0 rfl dX11_acts_116 ?_
    refine r_iload E p3 rfl dX11_acts_117 ?_
    refine r_callVI E (m_X11_does (EE_st E) (GX X) p3 h _ hw) lk_X11_227 (RM_mk (Nat.le_of_ble_eq_true rfl) (Nat.le_of_ble_eq_true rfl)) rfl rfl rfl rfl (Nat.le_of_ble_eq_true rfl) (adr_lt (Nat.le_of_ble_eq_true rfl)) (Nat.le_of_ble_eq_true rfl) rfl rfl (Nat.le_of_ble_eq_true rfl) (Nat.le_of_ble_eq_true rfl) dX11_acts_119 (fun r2 h3 hw => ?_)
    obtain ⟨zr2, hw⟩ := hw
    refine r_if_eq E 226 (by decide) dX11_acts_122 (fun c4 => ?_) (fun c4 => ?_)
    · have hw := ite_t hw c4
      exact hE _ _ _ _ _ (Nat.le_of_ble_eq_true rfl) (Nat.le_of_ble_eq_true rfl) dX11_acts_226 hw
    · have hw := ite_f hw c4
      refine r_aload_n E 11 0 rfl dX11_acts_125 ?_
      refine r_iload_n E p0 rfl dX11_acts_126 ?_
      refine r_bipush E 70 rfl dX11_acts_127 ?_
      refine r_icmp_ne E 143 (by decide) dX11_acts_129 (fun c5 => ?_) (fun c5 => ?_)
      · have hw := ite_t hw c5
        refine r_aload_n E 11 0 rfl dX11_acts_132 ?_
        refine r_getI E fd_X11_252 rfl (Nat.le_of_ble_eq_true rfl) (adr_lt (Nat.le_of_ble_eq_true rfl)) dX11_acts_133 ?_
        refine r_iconst E 1 rfl dX11_acts_136 ?_
        refine r_iload_n E p1 rfl dX11_acts_137 ?_
        refine r_ishl E dX11_acts_138 ?_
        refine r_ior E dX11_acts_139 ?_
        refine r_goto E 153 (by decide) dX11_acts_140 ?_
        refine r_putI E fd_X11_252 rfl PI_int (Nat.le_of_ble_eq_true rfl) (adr_lt (Nat.le_of_ble_eq_true rfl)) rfl dX11_acts_153 ?_
        refine GG_toph fun h6 hh6 => ?_
        have hw := hw h6 hh6
        refine r_goto E 226 (by decide) dX11_acts_156 ?_
        exact hE _ _ _ _ _ (Nat.le_of_ble_eq_true rfl) (Nat.le_of_ble_eq_true rfl) dX11_acts_226 hw
      · have hw := ite_f hw c5
        refine r_aload_n E 11 0 rfl dX11_acts_143 ?_
        refine r_getI E fd_X11_252 rfl (Nat.le_of_ble_eq_true rfl) (adr_lt (Nat.le_of_ble_eq_true rfl)) dX11_acts_144 ?_
        refine r_iconst E 1 rfl dX11_acts_147 ?_
        refine r_iload_n E p1 rfl dX11_acts_148 ?_
        refine r_ishl E dX11_acts_149 ?_
        refine r_iconst E (-1) rfl dX11_acts_150 ?_
        refine r_ixor E dX11_acts_151 ?_
        refine r_iand E dX11_acts_152 ?_
        refine r_putI E fd_X11_252 rfl PI_int (Nat.le_of_ble_eq_true rfl) (adr_lt (Nat.le_of_ble_eq_true rfl)) rfl dX11_acts_153 ?_
        refine GG_toph fun h7 hh7 => ?_
        have hw := hw h7 hh7
        refine r_goto E 226 (by decide) dX11_acts_156 ?_
        exact hE _ _ _ _ _ (Nat.le_of_ble_eq_true rfl) (Nat.le_of_ble_eq_true rfl) dX11_acts_226 hw
  · have hw := ite_f hw c1
    rcases Decidable.em (p0 = 85) with c8 | c8
    · have hw := ite_t hw c8
      refine r_lookup E (off := 115) 116 dX11_acts_1 (by decide) (by rw [c8]; rfl) (by decide) ?_
      refine r_aload_n E 11 0 rfl dX11_acts_116 ?_
      refine r_iload E p3 rfl dX11_acts_117 ?_
      refine r_callVI E (m_X11_does (EE_st E) (GX X) p3 h _ hw) lk_X11_227 (RM_mk (Nat.le_of_ble_eq_true rfl) (Nat.le_of_ble_eq_true rfl)) rfl rfl rfl rfl (Nat.le_of_ble_eq_true rfl) (adr_lt (Nat.le_of_ble_eq_true rfl)) (Nat.le_of_ble_eq_true rfl) rfl rfl (Nat.le_of_ble_eq_true rfl) (Nat.le_of_ble_eq_true rfl) dX11_acts_119 (fun r9 h10 hw => ?_)
      obtain ⟨zr9, hw⟩ := hw
      refine r_if_eq E 226 (by decide) dX11_acts_122 (fun c11 => ?_) (fun c11 => ?_)
      · have hw := ite_t hw c11
        exact hE _ _ _ _ _ (Nat.le_of_ble_eq_true rfl) (Nat.le_of_ble_eq_true rfl) dX11_acts_226 hw
      · have hw := ite_f hw c11
        refine r_aload_n E 11 0 rfl dX11_acts_125 ?_
        refine r_iload_n E p0 rfl dX11_acts_126 ?_
        refine r_bipush E 70 rfl dX11_acts_127 ?_
        refine r_icmp_ne E 143 (by decide) dX11_acts_129 (fun c12 => ?_) (fun c12 => ?_)
        · have hw := ite_t hw c12
          refine r_aload_n E 11 0 rfl dX11_acts_132 ?_
          refine r_getI E fd_X11_252 rfl (Nat.le_of_ble_eq_true rfl) (adr_lt (Nat.le_of_ble_eq_true rfl)) dX11_acts_133 ?_
          refine r_iconst E 1 rfl dX11_acts_136 ?_
          refine r_iload_n E p1 rfl dX11_acts_137 ?_
          refine r_ishl E dX11_acts_138 ?_
          refine r_ior E dX11_acts_139 ?_
          refine r_goto E 153 (by decide) dX11_acts_140 ?_
          refine r_putI E fd_X11_252 rfl PI_int (Nat.le_of_ble_eq_true rfl) (adr_lt (Nat.le_of_ble_eq_true rfl)) rfl dX11_acts_153 ?_
          refine GG_toph fun h13 hh13 => ?_
          have hw := hw h13 hh13
          refine r_goto E 226 (by decide) dX11_acts_156 ?_
          exact hE _ _ _ _ _ (Nat.le_of_ble_eq_true rfl) (Nat.le_of_ble_eq_true rfl) dX11_acts_226 hw
        · have hw := ite_f hw c12
          refine r_aload_n E 11 0 rfl dX11_acts_143 ?_
          refine r_getI E fd_X11_252 rfl (Nat.le_of_ble_eq_true rfl) (adr_lt (Nat.le_of_ble_eq_true rfl)) dX11_acts_144 ?_
          refine r_iconst E 1 rfl dX11_acts_147 ?_
          refine r_iload_n E p1 rfl dX11_acts_148 ?_
          refine r_ishl E dX11_acts_149 ?_
          refine r_iconst E (-1) rfl dX11_acts_150 ?_
          refine r_ixor E dX11_acts_151 ?_
          refine r_iand E dX11_acts_152 ?_
          refine r_putI E fd_X11_252 rfl PI_int (Nat.le_of_ble_eq_true rfl) (adr_lt (Nat.le_of_ble_eq_true rfl)) rfl dX11_acts_153 ?_
          refine GG_toph fun h14 hh14 => ?_
          have hw := hw h14 hh14
          refine r_goto E 226 (by decide) dX11_acts_156 ?_
          exact hE _ _ _ _ _ (Nat.le_of_ble_eq_true rfl) (Nat.le_of_ble_eq_true rfl) dX11_acts_226 hw
    · have hw := ite_f hw c8
      rcases Decidable.em (p0 = 99) with c15 | c15
      · have hw := ite_t hw c15
        refine r_lookup E (off := 103) 104 dX11_acts_1 (by decide) (by rw [c15]; rfl) (by decide) ?_
        refine r_aload_n E 11 0 rfl dX11_acts_104 ?_
        refine r_iload_n E p0 rfl dX11_acts_105 ?_
        refine r_iload_n E p1 rfl dX11_acts_106 ?_
        refine r_iload_n E p2 rfl dX11_acts_107 ?_
        refine r_iload E p3 rfl dX11_acts_108 ?_
        refine r_callVV E (m_X11_sends (EE_st E) (GX X) p0 p1 p2 p3 h _ hw) lk_X11_249 (RM_mk (Nat.le_of_ble_eq_true rfl) (Nat.le_of_ble_eq_true rfl)) rfl rfl rfl rfl (Nat.le_of_ble_eq_true rfl) (adr_lt (Nat.le_of_ble_eq_true rfl)) (Nat.le_of_ble_eq_true rfl) rfl rfl (Nat.le_of_ble_eq_true rfl) (Nat.le_of_ble_eq_true rfl) dX11_acts_110 (fun h16 hw => ?_)
        refine r_goto E 226 (by decide) dX11_acts_113 ?_
        exact hE _ _ _ _ _ (Nat.le_of_ble_eq_true rfl) (Nat.le_of_ble_eq_true rfl) dX11_acts_226 hw
      · have hw := ite_f hw c15
        rcases Decidable.em (p0 = 105) with c17 | c17
        · have hw := ite_t hw c17
          refine r_lookup E (off := 158) 159 dX11_acts_1 (by decide) (by rw [c17]; rfl) (by decide) ?_
          refine r_aload_n E 11 0 rfl dX11_acts_159 ?_
          refine r_getI E fd_X11_210 rfl (Nat.le_of_ble_eq_true rfl) (adr_lt (Nat.le_of_ble_eq_true rfl)) dX11_acts_160 ?_
          refine r_iconst E 4 rfl dX11_acts_163 ?_
          refine r_icmp_ne E 180 (by decide) dX11_acts_164 (fun c18 => ?_) (fun c18 => ?_)
          · have hw := ite_t hw c18
            refine r_aload_n E 11 0 rfl dX11_acts_167 ?_
            refine r_dup E rfl dX11_acts_168 ?_
            refine r_getI E fd_X11_255 rfl (Nat.le_of_ble_eq_true rfl) (adr_lt (Nat.le_of_ble_eq_true rfl)) dX11_acts_169 ?_
            refine r_iconst E 1 rfl dX11_acts_172 ?_
            refine r_iadd E dX11_acts_173 ?_
            refine r_putI E fd_X11_255 rfl PI_int (Nat.le_of_ble_eq_true rfl) (adr_lt (Nat.le_of_ble_eq_true rfl)) rfl dX11_acts_174 ?_
            refine GG_toph fun h19 hh19 => ?_
            have hw := hw h19 hh19
            refine r_goto E 226 (by decide) dX11_acts_177 ?_
            exact hE _ _ _ _ _ (Nat.le_of_ble_eq_true rfl) (Nat.le_of_ble_eq_true rfl) dX11_acts_226 hw
          · have hw := ite_f hw c18
            refine r_aload_n E 11 0 rfl dX11_acts_180 ?_
            refine r_iload E p3 rfl dX11_acts_181 ?_
            refine r_callVI E (m_X11_does (EE_st E) (GX X) p3 h _ hw) lk_X11_227 (RM_mk (Nat.le_of_ble_eq_true rfl) (Nat.le_of_ble_eq_true rfl)) rfl rfl rfl rfl (Nat.le_of_ble_eq_true rfl) (adr_lt (Nat.le_of_ble_eq_true rfl)) (Nat.le_of_ble_eq_true rfl) rfl rfl (Nat.le_of_ble_eq_true rfl) (Nat.le_of_ble_eq_true rfl) dX11_acts_183 (fun r20 h21 hw => ?_)
            obtain ⟨zr20, hw⟩ := hw
            refine r_if_eq E 226 (by decide) dX11_acts_186 (fun c22 => ?_) (fun c22 => ?_)
            · have hw := ite_t hw c22
              exact hE _ _ _ _ _ (Nat.le_of_ble_eq_true rfl) (Nat.le_of_ble_eq_true rfl) dX11_acts_226 hw
            · have hw := ite_f hw c22
              refine r_aload_n E 11 0 rfl dX11_acts_189 ?_
              refine r_iload_n E p1 rfl dX11_acts_190 ?_
              refine r_callVV E (m_X11_begins (EE_st E) (GX X) p1 h21 _ hw) lk_X11_258 (RM_mk (Nat.le_of_ble_eq_true rfl) (Nat.le_of_ble_eq_true rfl)) rfl rfl rfl rfl (Nat.le_of_ble_eq_true rfl) (adr_lt (Nat.le_of_ble_eq_true rfl)) (Nat.le_of_ble_eq_true rfl) rfl rfl (Nat.le_of_ble_eq_true rfl) (Nat.le_of_ble_eq_true rfl) dX11_acts_191 (fun h23 hw => ?_)
              refine r_goto E 226 (by decide) dX11_acts_194 ?_
              exact hE _ _ _ _ _ (Nat.le_of_ble_eq_true rfl) (Nat.le_of_ble_eq_true rfl) dX11_acts_226 hw
        · have hw := ite_f hw c17
          rcases Decidable.em (p0 = 107) with c24 | c24
          · have hw := ite_t hw c24
            refine r_lookup E (off := 91) 92 dX11_acts_1 (by decide) (by rw [c24]; rfl) (by decide) ?_
            refine r_aload_n E 11 0 rfl dX11_acts_92 ?_
            refine r_iload_n E p0 rfl dX11_acts_93 ?_
            refine r_iload_n E p1 rfl dX11_acts_94 ?_
            refine r_iload_n E p2 rfl dX11_acts_95 ?_
            refine r_iload E p3 rfl dX11_acts_96 ?_
            refine r_callVV E (m_X11_chooses (EE_st E) (GX X) p0 p1 p2 p3 h _ hw) lk_X11_245 (RM_mk (Nat.le_of_ble_eq_true rfl) (Nat.le_of_ble_eq_true rfl)) rfl rfl rfl rfl (Nat.le_of_ble_eq_true rfl) (adr_lt (Nat.le_of_ble_eq_true rfl)) (Nat.le_of_ble_eq_true rfl) rfl rfl (Nat.le_of_ble_eq_true rfl) (Nat.le_of_ble_eq_true rfl) dX11_acts_98 (fun h25 hw => ?_)
            refine r_goto E 226 (by decide) dX11_acts_101 ?_
            exact hE _ _ _ _ _ (Nat.le_of_ble_eq_true rfl) (Nat.le_of_ble_eq_true rfl) dX11_acts_226 hw
          · have hw := ite_f hw c24
            rcases Decidable.em (p0 = 109) with c26 | c26
            · have hw := ite_t hw c26
              refine r_lookup E (off := 91) 92 dX11_acts_1 (by decide) (by rw [c26]; rfl) (by decide) ?_
              refine r_aload_n E 11 0 rfl dX11_acts_92 ?_
              refine r_iload_n E p0 rfl dX11_acts_93 ?_
              refine r_iload_n E p1 rfl dX11_acts_94 ?_
              refine r_iload_n E p2 rfl dX11_acts_95 ?_
              refine r_iload E p3 rfl dX11_acts_96 ?_
              refine r_callVV E (m_X11_chooses (EE_st E) (GX X) p0 p1 p2 p3 h _ hw) lk_X11_245 (RM_mk (Nat.le_of_ble_eq_true rfl) (Nat.le_of_ble_eq_true rfl)) rfl rfl rfl rfl (Nat.le_of_ble_eq_true rfl) (adr_lt (Nat.le_of_ble_eq_true rfl)) (Nat.le_of_ble_eq_true rfl) rfl rfl (Nat.le_of_ble_eq_true rfl) (Nat.le_of_ble_eq_true rfl) dX11_acts_98 (fun h27 hw => ?_)
              refine r_goto E 226 (by decide) dX11_acts_101 ?_
              exact hE _ _ _ _ _ (Nat.le_of_ble_eq_true rfl) (Nat.le_of_ble_eq_true rfl) dX11_acts_226 hw
            · have hw := ite_f hw c26
              rcases Decidable.em (p0 = 114) with c28 | c28
              · have hw := ite_t hw c28
                refine r_lookup E (off := 91) 92 dX11_acts_1 (by decide) (by rw [c28]; rfl) (by decide) ?_
                refine r_aload_n E 11 0 rfl dX11_acts_92 ?_
                refine r_iload_n E p0 rfl dX11_acts_93 ?_
                refine r_iload_n E p1 rfl dX11_acts_94 ?_
                refine r_iload_n E p2 rfl dX11_acts_95 ?_
                refine r_iload E p3 rfl dX11_acts_96 ?_
                refine r_callVV E (m_X11_chooses (EE_st E) (GX X) p0 p1 p2 p3 h _ hw) lk_X11_245 (RM_mk (Nat.le_of_ble_eq_true rfl) (Nat.le_of_ble_eq_true rfl)) rfl rfl rfl rfl (Nat.le_of_ble_eq_true rfl) (adr_lt (Nat.le_of_ble_eq_true rfl)) (Nat.le_of_ble_eq_true rfl) rfl rfl (Nat.le_of_ble_eq_true rfl) (Nat.le_of_ble_eq_true rfl) dX11_acts_98 (fun h29 hw => ?_)
                refine r_goto E 226 (by decide) dX11_acts_101 ?_
                exact hE _ _ _ _ _ (Nat.le_of_ble_eq_true rfl) (Nat.le_of_ble_eq_true rfl) dX11_acts_226 hw
              · have hw := ite_f hw c28
                rcases Decidable.em (p0 = 118) with c30 | c30
                · have hw := ite_t hw c30
                  refine r_lookup E (off := 103) 104 dX11_acts_1 (by decide) (by rw [c30]; rfl) (by decide) ?_
                  refine r_aload_n E 11 0 rfl dX11_acts_104 ?_
                  refine r_iload_n E p0 rfl dX11_acts_105 ?_
                  refine r_iload_n E p1 rfl dX11_acts_106 ?_
                  refine r_iload_n E p2 rfl dX11_acts_107 ?_
                  refine r_iload E p3 rfl dX11_acts_108 ?_
                  refine r_callVV E (m_X11_sends (EE_st E) (GX X) p0 p1 p2 p3 h _ hw) lk_X11_249 (RM_mk (Nat.le_of_ble_eq_true rfl) (Nat.le_of_ble_eq_true rfl)) rfl rfl rfl rfl (Nat.le_of_ble_eq_true rfl) (adr_lt (Nat.le_of_ble_eq_true rfl)) (Nat.le_of_ble_eq_true rfl) rfl rfl (Nat.le_of_ble_eq_true rfl) (Nat.le_of_ble_eq_true rfl) dX11_acts_110 (fun h31 hw => ?_)
                  refine r_goto E 226 (by decide) dX11_acts_113 ?_
                  exact hE _ _ _ _ _ (Nat.le_of_ble_eq_true rfl) (Nat.le_of_ble_eq_true rfl) dX11_acts_226 hw
                · have hw := ite_f hw c30
                  rcases Decidable.em (p0 = 119) with c32 | c32
                  · have hw := ite_t hw c32
                    refine r_lookup E (off := 103) 104 dX11_acts_1 (by decide) (by rw [c32]; rfl) (by decide) ?_
                    refine r_aload_n E 11 0 rfl dX11_acts_104 ?_
                    refine r_iload_n E p0 rfl dX11_acts_105 ?_
                    refine r_iload_n E p1 rfl dX11_acts_106 ?_
                    refine r_iload_n E p2 rfl dX11_acts_107 ?_
                    refine r_iload E p3 rfl dX11_acts_108 ?_
                    refine r_callVV E (m_X11_sends (EE_st E) (GX X) p0 p1 p2 p3 h _ hw) lk_X11_249 (RM_mk (Nat.le_of_ble_eq_true rfl) (Nat.le_of_ble_eq_true rfl)) rfl rfl rfl rfl (Nat.le_of_ble_eq_true rfl) (adr_lt (Nat.le_of_ble_eq_true rfl)) (Nat.le_of_ble_eq_true rfl) rfl rfl (Nat.le_of_ble_eq_true rfl) (Nat.le_of_ble_eq_true rfl) dX11_acts_110 (fun h33 hw => ?_)
                    refine r_goto E 226 (by decide) dX11_acts_113 ?_
                    exact hE _ _ _ _ _ (Nat.le_of_ble_eq_true rfl) (Nat.le_of_ble_eq_true rfl) dX11_acts_226 hw
                  · have hw := ite_f hw c32
                    rcases Decidable.em (p0 = 120) with c34 | c34
                    · have hw := ite_t hw c34
                      refine r_lookup E (off := 91) 92 dX11_acts_1 (by decide) (by rw [c34]; rfl) (by decide) ?_
                      refine r_aload_n E 11 0 rfl dX11_acts_92 ?_
                      refine r_iload_n E p0 rfl dX11_acts_93 ?_
                      refine r_iload_n E p1 rfl dX11_acts_94 ?_
                      refine r_iload_n E p2 rfl dX11_acts_95 ?_
                      refine r_iload E p3 rfl dX11_acts_96 ?_
                      refine r_callVV E (m_X11_chooses (EE_st E) (GX X) p0 p1 p2 p3 h _ hw) lk_X11_245 (RM_mk (Nat.le_of_ble_eq_true rfl) (Nat.le_of_ble_eq_true rfl)) rfl rfl rfl rfl (Nat.le_of_ble_eq_true rfl) (adr_lt (Nat.le_of_ble_eq_true rfl)) (Nat.le_of_ble_eq_true rfl) rfl rfl (Nat.le_of_ble_eq_true rfl) (Nat.le_of_ble_eq_true rfl) dX11_acts_98 (fun h35 hw => ?_)
                      refine r_goto E 226 (by decide) dX11_acts_101 ?_
                      exact hE _ _ _ _ _ (Nat.le_of_ble_eq_true rfl) (Nat.le_of_ble_eq_true rfl) dX11_acts_226 hw
                    · have hw := ite_f hw c34
                      refine r_lookup E (off := 196) 197 dX11_acts_1 (by decide) (by show Op.lookupswitch.offset [(70, 115), (85, 115), (99, 103), (105, 158), (107, 91), (109, 91), (114, 91), (118, 103), (119, 103), (120, 91)] 196 _ = 196; rw [lv_osw (a := 70) c1 rfl, lv_osw (a := 85) c8 rfl, lv_osw (a := 99) c15 rfl, lv_osw (a := 105) c17 rfl, lv_osw (a := 107) c24 rfl, lv_osw (a := 109) c26 rfl, lv_osw (a := 114) c28 rfl, lv_osw (a := 118) c30 rfl, lv_osw (a := 119) c32 rfl, lv_osw (a := 120) c34 rfl]; rfl) (by decide) ?_
                      refine r_aload_n E 11 0 rfl dX11_acts_197 ?_
                      refine r_iload E p3 rfl dX11_acts_198 ?_
                      refine r_callVI E (m_X11_does (EE_st E) (GX X) p3 h _ hw) lk_X11_227 (RM_mk (Nat.le_of_ble_eq_true rfl) (Nat.le_of_ble_eq_true rfl)) rfl rfl rfl rfl (Nat.le_of_ble_eq_true rfl) (adr_lt (Nat.le_of_ble_eq_true rfl)) (Nat.le_of_ble_eq_true rfl) rfl rfl (Nat.le_of_ble_eq_true rfl) (Nat.le_of_ble_eq_true rfl) dX11_acts_200 (fun r36 h37 hw => ?_)
                      obtain ⟨zr36, hw⟩ := hw
                      refine r_if_eq E 226 (by decide) dX11_acts_203 (fun c38 => ?_) (fun c38 => ?_)
                      · have hw := ite_t hw c38
                        exact hE _ _ _ _ _ (Nat.le_of_ble_eq_true rfl) (Nat.le_of_ble_eq_true rfl) dX11_acts_226 hw
                      · have hw := ite_f hw c38
                        refine r_aload_n E 11 0 rfl dX11_acts_206 ?_
                        refine r_iload_n E p0 rfl dX11_acts_207 ?_
                        refine r_bipush E 115 rfl dX11_acts_208 ?_
                        refine r_icmp_ne E 222 (by decide) dX11_acts_210 (fun c39 => ?_) (fun c39 => ?_)
                        · have hw := ite_t hw c39
                          refine r_aload_n E 11 0 rfl dX11_acts_213 ?_
                          refine r_getI E fd_X11_210 rfl (Nat.le_of_ble_eq_true rfl) (adr_lt (Nat.le_of_ble_eq_true rfl)) dX11_acts_214 ?_
                          refine r_iconst E 1 rfl dX11_acts_217 ?_
                          refine r_isub E dX11_acts_218 ?_
                          refine r_goto E 223 (by decide) dX11_acts_219 ?_
                          refine r_putI E fd_X11_210 rfl PI_int (Nat.le_of_ble_eq_true rfl) (adr_lt (Nat.le_of_ble_eq_true rfl)) rfl dX11_acts_223 ?_
                          refine GG_toph fun h40 hh40 => ?_
                          have hw := hw h40 hh40
                          exact hE _ _ _ _ _ (Nat.le_of_ble_eq_true rfl) (Nat.le_of_ble_eq_true rfl) dX11_acts_226 hw
                        · have hw := ite_f hw c39
                          refine r_iconst E (-1) rfl dX11_acts_222 ?_
                          refine r_putI E fd_X11_210 rfl PI_int (Nat.le_of_ble_eq_true rfl) (adr_lt (Nat.le_of_ble_eq_true rfl)) rfl dX11_acts_223 ?_
                          refine GG_toph fun h41 hh41 => ?_
                          have hw := hw h41 hh41
                          exact hE _ _ _ _ _ (Nat.le_of_ble_eq_true rfl) (Nat.le_of_ble_eq_true rfl) dX11_acts_226 hw
set_option maxRecDepth 20000 in
theorem t_X11_runs_b345 {X : Ctx} (h : Hp) (x2 : Int32)  (E : EE X cX11_runs RX11 6 6 143 0 0) {Q : Hp → Prop} (hE : ENDv X cX11_runs Q NT 0 0) (P87 : Hp → Prop) (hP87 : ∀  (u : Hp), P87  u → GG X 0 0 NT u [some (rf X 11 0), none, some (.int x2), none, none, none] 87 []) (hw : wp_X11_runs_b345 x2 h P87 Q) : GG X 0 0 NT h [some (rf X 11 0), none, some (.int x2), none, none, none] 345 [] := by
  unfold wp_X11_runs_b345 at hw
  refine r_goto E 87 (by decide) dX11_runs_345 ?_
  exact GG_weak [true, false, true, false, false, false] rfl (hP87 _ hw)
set_option maxRecDepth 20000 in
theorem t_X11_runs_b221 {X : Ctx} (h : Hp) (x2 : Int32) (s1 : Int32) (s2 : Int32) (s3 : Int32)  (E : EE X cX11_runs RX11 6 6 143 0 0) {Q : Hp → Prop} (hE : ENDv X cX11_runs Q NT 0 0) (P87 : Hp → Prop) (hP87 : ∀  (u : Hp), P87  u → GG X 0 0 NT u [some (rf X 11 0), none, some (.int x2), none, none, none] 87 []) (hw : wp_X11_runs_b221 x2 s1 s2 s3 h P87 Q) : GG X 0 0 NT h [some (rf X 11 0), none, some (.int x2), none, none, none] 221 [.int s3, .int s2, .int s1, rf X 59 0] := by
  unfold wp_X11_runs_b221 at hw
  refine r_iadd E dX11_runs_221 ?_
  obtain ⟨i1, hw⟩ := hw
  refine r_iast E rfl rfl rfl (Nat.le_of_ble_eq_true rfl) (adr_lt (Nat.le_of_ble_eq_true rfl)) i1 dX11_runs_222 ?_
  refine GG_toph fun h2 hh2 => ?_
  have hw := hw h2 hh2
  refine r_goto E 345 (by decide) dX11_runs_223 ?_
  exact GG_weak [true, false, true, false, false, false] rfl (t_X11_runs_b345 h2 x2 E hE P87 hP87  hw)
set_option maxRecDepth 20000 in
theorem t_X11_runs_b200 {X : Ctx} (h : Hp) (x2 : Int32) (x5 : Int32) (s1 : Int32) (s2 : Int32)  (E : EE X cX11_runs RX11 6 6 143 0 0) {Q : Hp → Prop} (hE : ENDv X cX11_runs Q NT 0 0) (P87 : Hp → Prop) (hP87 : ∀  (u : Hp), P87  u → GG X 0 0 NT u [some (rf X 11 0), none, some (.int x2), none, none, none] 87 []) (hw : wp_X11_runs_b200 x2 x5 s1 s2 h P87 Q) : GG X 0 0 NT h [some (rf X 11 0), none, some (.int x2), none, none, some (.int x5)] 200 [.int s2, .int s1, rf X 60 0] := by
  unfold wp_X11_runs_b200 at hw
  obtain ⟨i1, hw⟩ := hw
  refine r_iast E rfl rfl rfl (Nat.le_of_ble_eq_true rfl) (adr_lt (Nat.le_of_ble_eq_true rfl)) i1 dX11_runs_200 ?_
  refine GG_toph fun h2 hh2 => ?_
  have hw := hw h2 hh2
  refine r_aload_n E 11 0 rfl dX11_runs_201 ?_
  refine r_getS E fd_X11_90 (t := 0) (j1 := 59) rfl rfl rfl rfl (Nat.le_of_ble_eq_true rfl) (adr_lt (Nat.le_of_ble_eq_true rfl)) dX11_runs_202 ?_
  refine r_aload_n E 11 0 rfl dX11_runs_205 ?_
  refine r_getI E fd_X11_210 rfl (Nat.le_of_ble_eq_true rfl) (adr_lt (Nat.le_of_ble_eq_true rfl)) dX11_runs_206 ?_
  refine r_dup2 E rfl rfl dX11_runs_209 ?_
  obtain ⟨i3, hw⟩ := hw
  refine r_iald E rfl rfl rfl (Nat.le_of_ble_eq_true rfl) (adr_lt (Nat.le_of_ble_eq_true rfl)) i3 dX11_runs_210 ?_
  refine r_iload E x5 rfl dX11_runs_211 ?_
  refine r_if_eq E 220 (by decide) dX11_runs_213 (fun c4 => ?_) (fun c4 => ?_)
  · have hw := ite_t hw c4
    refine r_iconst E 1 rfl dX11_runs_220 ?_
    exact GG_weak [true, false, true, false, false, false] rfl (t_X11_runs_b221 h2 x2 (gI h2 11 0 29) (gI h2 59 0 (gI h2 11 0 29).toNatClampNeg) 1 E hE P87 hP87  hw)
  · have hw := ite_f hw c4
    refine r_iconst E 0 rfl dX11_runs_216 ?_
    refine r_goto E 221 (by decide) dX11_runs_217 ?_
    exact GG_weak [true, false, true, false, false, false] rfl (t_X11_runs_b221 h2 x2 (gI h2 11 0 29) (gI h2 59 0 (gI h2 11 0 29).toNatClampNeg) 0 E hE P87 hP87  hw)
set_option maxRecDepth 20000 in
theorem t_X11_runs_b87F {X : Ctx} (h : Hp) (x2 : Int32)  (E : EE X cX11_runs RX11 6 6 143 0 0) {Q : Hp → Prop} (hE : ENDv X cX11_runs Q NT 0 0)  (P87 : Hp → Prop) (hP87 : ∀  (u : Hp), P87  u → GG X 0 0 NT u [some (rf X 11 0), none, some (.int x2), none, none, none] 87 []) (hw : wp_X11_runs_b87F x2   Q P87  h) : GG X 0 0 NT h [some (rf X 11 0), none, some (.int x2), none, none, none] 87 [] := by
  unfold wp_X11_runs_b87F at hw
  refine r_aload_n E 11 0 rfl dX11_runs_87 ?_
  refine r_getI E fd_X11_210 rfl (Nat.le_of_ble_eq_true rfl) (adr_lt (Nat.le_of_ble_eq_true rfl)) dX11_runs_88 ?_
  refine r_if_lt E 348 (by decide) dX11_runs_91 (fun c1 => ?_) (fun c1 => ?_)
  · have hw := ite_t hw c1
    refine r_aload_n E 11 0 rfl dX11_runs_348 ?_
    refine r_aload_n E 11 0 rfl dX11_runs_349 ?_
    refine r_getI E fd_X11_213 rfl (Nat.le_of_ble_eq_true rfl) (adr_lt (Nat.le_of_ble_eq_true rfl)) dX11_runs_350 ?_
    refine r_bipush E 120 rfl dX11_runs_353 ?_
    refine r_icmp_ne E 363 (by decide) dX11_runs_355 (fun c2 => ?_) (fun c2 => ?_)
    · have hw := ite_t hw c2
      refine r_bipush E 8 rfl dX11_runs_358 ?_
      refine r_goto E 381 (by decide) dX11_runs_360 ?_
      refine r_putI E fd_X11_265 rfl PI_int (Nat.le_of_ble_eq_true rfl) (adr_lt (Nat.le_of_ble_eq_true rfl)) rfl dX11_runs_381 ?_
      refine GG_toph fun h3 hh3 => ?_
      have hw := hw h3 hh3
      exact hE _ _ _ _ _ (Nat.le_of_ble_eq_true rfl) (Nat.le_of_ble_eq_true rfl) dX11_runs_384 hw
    · have hw := ite_f hw c2
      refine r_aload_n E 11 0 rfl dX11_runs_363 ?_
      refine r_getI E fd_X11_213 rfl (Nat.le_of_ble_eq_true rfl) (adr_lt (Nat.le_of_ble_eq_true rfl)) dX11_runs_364 ?_
      refine r_bipush E 114 rfl dX11_runs_367 ?_
      refine r_icmp_ne E 377 (by decide) dX11_runs_369 (fun c4 => ?_) (fun c4 => ?_)
      · have hw := ite_t hw c4
        refine r_bipush E 9 rfl dX11_runs_372 ?_
        refine r_goto E 381 (by decide) dX11_runs_374 ?_
        refine r_putI E fd_X11_265 rfl PI_int (Nat.le_of_ble_eq_true rfl) (adr_lt (Nat.le_of_ble_eq_true rfl)) rfl dX11_runs_381 ?_
        refine GG_toph fun h5 hh5 => ?_
        have hw := hw h5 hh5
        exact hE _ _ _ _ _ (Nat.le_of_ble_eq_true rfl) (Nat.le_of_ble_eq_true rfl) dX11_runs_384 hw
      · have hw := ite_f hw c4
        refine r_aload_n E 11 0 rfl dX11_runs_377 ?_
        refine r_getI E fd_X11_217 rfl (Nat.le_of_ble_eq_true rfl) (adr_lt (Nat.le_of_ble_eq_true rfl)) dX11_runs_378 ?_
        refine r_putI E fd_X11_265 rfl PI_int (Nat.le_of_ble_eq_true rfl) (adr_lt (Nat.le_of_ble_eq_true rfl)) rfl dX11_runs_381 ?_
        refine GG_toph fun h6 hh6 => ?_
        have hw := hw h6 hh6
        exact hE _ _ _ _ _ (Nat.le_of_ble_eq_true rfl) (Nat.le_of_ble_eq_true rfl) dX11_runs_384 hw
  · have hw := ite_f hw c1
    refine r_aload_n E 11 0 rfl dX11_runs_94 ?_
    refine r_getS E fd_X11_87 (t := 0) (j1 := 58) rfl rfl rfl rfl (Nat.le_of_ble_eq_true rfl) (adr_lt (Nat.le_of_ble_eq_true rfl)) dX11_runs_95 ?_
    refine r_aload_n E 11 0 rfl dX11_runs_98 ?_
    refine r_getI E fd_X11_210 rfl (Nat.le_of_ble_eq_true rfl) (adr_lt (Nat.le_of_ble_eq_true rfl)) dX11_runs_99 ?_
    obtain ⟨i7, hw⟩ := hw
    refine r_iald E rfl rfl rfl (Nat.le_of_ble_eq_true rfl) (adr_lt (Nat.le_of_ble_eq_true rfl)) i7 dX11_runs_102 ?_
    refine GG_topI fun v8 hv8 => ?_
    have hw := hw v8 hv8
    refine r_istore_n E [some (rf X 11 0), none, some (.int x2), some (.int v8), none, none] rfl (Nat.le_of_ble_eq_true rfl) rfl dX11_runs_103 ?_
    refine r_bipush E 12 rfl dX11_runs_104 ?_
    refine r_iload_n E v8 rfl dX11_runs_106 ?_
    refine r_imul E dX11_runs_107 ?_
    refine r_aload_n E 11 0 rfl dX11_runs_108 ?_
    refine r_getS E fd_X11_90 (t := 0) (j1 := 59) rfl rfl rfl rfl (Nat.le_of_ble_eq_true rfl) (adr_lt (Nat.le_of_ble_eq_true rfl)) dX11_runs_109 ?_
    refine r_aload_n E 11 0 rfl dX11_runs_112 ?_
    refine r_getI E fd_X11_210 rfl (Nat.le_of_ble_eq_true rfl) (adr_lt (Nat.le_of_ble_eq_true rfl)) dX11_runs_113 ?_
    refine r_iald E rfl rfl rfl (Nat.le_of_ble_eq_true rfl) (adr_lt (Nat.le_of_ble_eq_true rfl)) i7 dX11_runs_116 ?_
    refine r_iadd E dX11_runs_117 ?_
    refine GG_topI fun v9 hv9 => ?_
    have hw := hw v9 hv9
    refine r_istore E [some (rf X 11 0), none, some (.int x2), some (.int v8), some (.int v9), none] (Nat.le_of_ble_eq_true rfl) rfl dX11_runs_118 ?_
    refine r_aload_n E 11 0 rfl dX11_runs_120 ?_
    refine r_getS E fd_X11_90 (t := 0) (j1 := 59) rfl rfl rfl rfl (Nat.le_of_ble_eq_true rfl) (adr_lt (Nat.le_of_ble_eq_true rfl)) dX11_runs_121 ?_
    refine r_aload_n E 11 0 rfl dX11_runs_124 ?_
    refine r_getI E fd_X11_210 rfl (Nat.le_of_ble_eq_true rfl) (adr_lt (Nat.le_of_ble_eq_true rfl)) dX11_runs_125 ?_
    refine r_iald E rfl rfl rfl (Nat.le_of_ble_eq_true rfl) (adr_lt (Nat.le_of_ble_eq_true rfl)) i7 dX11_runs_128 ?_
    refine r_aload_n E 11 0 rfl dX11_runs_129 ?_
    refine r_getS E fd_X11_72 (t := 0) (j1 := 53) rfl rfl rfl rfl (Nat.le_of_ble_eq_true rfl) (adr_lt (Nat.le_of_ble_eq_true rfl)) dX11_runs_130 ?_
    refine r_iload_n E v8 rfl dX11_runs_133 ?_
    obtain ⟨i10, hw⟩ := hw
    refine r_iald E rfl rfl rfl (Nat.le_of_ble_eq_true rfl) (adr_lt (Nat.le_of_ble_eq_true rfl)) i10 dX11_runs_134 ?_
    refine r_icmp_lt E 151 (by decide) dX11_runs_135 (fun c11 => ?_) (fun c11 => ?_)
    · have hw := ite_t hw c11
      refine r_aload_n E 11 0 rfl dX11_runs_151 ?_
      refine r_getS E fd_X11_93 (t := 0) (j1 := 60) rfl rfl rfl rfl (Nat.le_of_ble_eq_true rfl) (adr_lt (Nat.le_of_ble_eq_true rfl)) dX11_runs_152 ?_
      refine r_aload_n E 11 0 rfl dX11_runs_155 ?_
      refine r_getI E fd_X11_210 rfl (Nat.le_of_ble_eq_true rfl) (adr_lt (Nat.le_of_ble_eq_true rfl)) dX11_runs_156 ?_
      refine r_iald E rfl rfl rfl (Nat.le_of_ble_eq_true rfl) (adr_lt (Nat.le_of_ble_eq_true rfl)) i7 dX11_runs_159 ?_
      refine r_iconst E (-1) rfl dX11_runs_160 ?_
      refine r_icmp_ne E 226 (by decide) dX11_runs_161 (fun c12 => ?_) (fun c12 => ?_)
      · have hw := ite_t hw c12
        refine r_aload_n E 11 0 rfl dX11_runs_164 ?_
        refine r_aload_n E 11 0 rfl dX11_runs_165 ?_
        refine r_getS E fd_X11_75 (t := 0) (j1 := 54) rfl rfl rfl rfl (Nat.le_of_ble_eq_true rfl) (adr_lt (Nat.le_of_ble_eq_true rfl)) dX11_runs_166 ?_
        refine r_iload E v9 rfl dX11_runs_169 ?_
        obtain ⟨i13, hw⟩ := hw
        refine r_iald E rfl rfl rfl (Nat.le_of_ble_eq_true rfl) (adr_lt (Nat.le_of_ble_eq_true rfl)) i13 dX11_runs_171 ?_
        refine r_iload_n E x2 rfl dX11_runs_172 ?_
        refine r_aload_n E 11 0 rfl dX11_runs_173 ?_
        refine r_getI E fd_X11_252 rfl (Nat.le_of_ble_eq_true rfl) (adr_lt (Nat.le_of_ble_eq_true rfl)) dX11_runs_174 ?_
        refine r_callVI E (m_X11_holding (EE_st E) (GX X) (gI h 54 0 v9.toNatClampNeg) x2 (gI h 11 0 35) h _ hw) lk_X11_194 (RM_mk (Nat.le_of_ble_eq_true rfl) (Nat.le_of_ble_eq_true rfl)) rfl rfl rfl rfl (Nat.le_of_ble_eq_true rfl) (adr_lt (Nat.le_of_ble_eq_true rfl)) (Nat.le_of_ble_eq_true rfl) rfl rfl (Nat.le_of_ble_eq_true rfl) (Nat.le_of_ble_eq_true rfl) dX11_runs_177 (fun r14 h15 hw => ?_)
        obtain ⟨zr14, hw⟩ := hw
        refine r_istore E [some (rf X 11 0), none, some (.int x2), some (.int v8), some (.int v9), some (.int r14)] (Nat.le_of_ble_eq_true rfl) rfl dX11_runs_180 ?_
        refine r_aload_n E 11 0 rfl dX11_runs_182 ?_
        refine r_getS E fd_X11_93 (t := 0) (j1 := 60) rfl rfl rfl rfl (Nat.le_of_ble_eq_true rfl) (adr_lt (Nat.le_of_ble_eq_true rfl)) dX11_runs_183 ?_
        refine r_aload_n E 11 0 rfl dX11_runs_186 ?_
        refine r_getI E fd_X11_210 rfl (Nat.le_of_ble_eq_true rfl) (adr_lt (Nat.le_of_ble_eq_true rfl)) dX11_runs_187 ?_
        refine r_iload E r14 rfl dX11_runs_190 ?_
        refine r_if_eq E 199 (by decide) dX11_runs_192 (fun c16 => ?_) (fun c16 => ?_)
        · have hw := ite_t hw c16
          refine r_iconst E (-1) rfl dX11_runs_199 ?_
          exact GG_weak [true, false, true, false, false, true] rfl (t_X11_runs_b200 h15 x2 r14 (gI h15 11 0 29) (-1) E hE P87 hP87  hw)
        · have hw := ite_f hw c16
          refine r_iconst E 0 rfl dX11_runs_195 ?_
          refine r_goto E 200 (by decide) dX11_runs_196 ?_
          exact GG_weak [true, false, true, false, false, true] rfl (t_X11_runs_b200 h15 x2 r14 (gI h15 11 0 29) 0 E hE P87 hP87  hw)
      · have hw := ite_f hw c12
        refine r_aload_n E 11 0 rfl dX11_runs_226 ?_
        refine r_getS E fd_X11_93 (t := 0) (j1 := 60) rfl rfl rfl rfl (Nat.le_of_ble_eq_true rfl) (adr_lt (Nat.le_of_ble_eq_true rfl)) dX11_runs_227 ?_
        refine r_aload_n E 11 0 rfl dX11_runs_230 ?_
        refine r_getI E fd_X11_210 rfl (Nat.le_of_ble_eq_true rfl) (adr_lt (Nat.le_of_ble_eq_true rfl)) dX11_runs_231 ?_
        refine r_iald E rfl rfl rfl (Nat.le_of_ble_eq_true rfl) (adr_lt (Nat.le_of_ble_eq_true rfl)) i7 dX11_runs_234 ?_
        refine r_aload_n E 11 0 rfl dX11_runs_235 ?_
        refine r_getS E fd_X11_78 (t := 0) (j1 := 55) rfl rfl rfl rfl (Nat.le_of_ble_eq_true rfl) (adr_lt (Nat.le_of_ble_eq_true rfl)) dX11_runs_236 ?_
        refine r_iload E v9 rfl dX11_runs_239 ?_
        obtain ⟨i17, hw⟩ := hw
        refine r_iald E rfl rfl rfl (Nat.le_of_ble_eq_true rfl) (adr_lt (Nat.le_of_ble_eq_true rfl)) i17 dX11_runs_241 ?_
        refine r_icmp_ne E 271 (by decide) dX11_runs_242 (fun c18 => ?_) (fun c18 => ?_)
        · have hw := ite_t hw c18
          refine r_aload_n E 11 0 rfl dX11_runs_245 ?_
          refine r_getS E fd_X11_90 (t := 0) (j1 := 59) rfl rfl rfl rfl (Nat.le_of_ble_eq_true rfl) (adr_lt (Nat.le_of_ble_eq_true rfl)) dX11_runs_246 ?_
          refine r_aload_n E 11 0 rfl dX11_runs_249 ?_
          refine r_getI E fd_X11_210 rfl (Nat.le_of_ble_eq_true rfl) (adr_lt (Nat.le_of_ble_eq_true rfl)) dX11_runs_250 ?_
          refine r_dup2 E rfl rfl dX11_runs_253 ?_
          refine r_iald E rfl rfl rfl (Nat.le_of_ble_eq_true rfl) (adr_lt (Nat.le_of_ble_eq_true rfl)) i7 dX11_runs_254 ?_
          refine r_iconst E 1 rfl dX11_runs_255 ?_
          refine r_iadd E dX11_runs_256 ?_
          refine r_iast E rfl rfl rfl (Nat.le_of_ble_eq_true rfl) (adr_lt (Nat.le_of_ble_eq_true rfl)) i7 dX11_runs_257 ?_
          refine GG_toph fun h19 hh19 => ?_
          have hw := hw h19 hh19
          refine r_aload_n E 11 0 rfl dX11_runs_258 ?_
          refine r_getS E fd_X11_93 (t := 0) (j1 := 60) rfl rfl rfl rfl (Nat.le_of_ble_eq_true rfl) (adr_lt (Nat.le_of_ble_eq_true rfl)) dX11_runs_259 ?_
          refine r_aload_n E 11 0 rfl dX11_runs_262 ?_
          refine r_getI E fd_X11_210 rfl (Nat.le_of_ble_eq_true rfl) (adr_lt (Nat.le_of_ble_eq_true rfl)) dX11_runs_263 ?_
          refine r_iconst E (-1) rfl dX11_runs_266 ?_
          obtain ⟨i20, hw⟩ := hw
          refine r_iast E rfl rfl rfl (Nat.le_of_ble_eq_true rfl) (adr_lt (Nat.le_of_ble_eq_true rfl)) i20 dX11_runs_267 ?_
          refine GG_toph fun h21 hh21 => ?_
          have hw := hw h21 hh21
          refine r_goto E 345 (by decide) dX11_runs_268 ?_
          exact GG_weak [true, false, true, false, false, false] rfl (t_X11_runs_b345 h21 x2 E hE P87 hP87  hw)
        · have hw := ite_f hw c18
          refine r_aload_n E 11 0 rfl dX11_runs_271 ?_
          refine r_getS E fd_X11_93 (t := 0) (j1 := 60) rfl rfl rfl rfl (Nat.le_of_ble_eq_true rfl) (adr_lt (Nat.le_of_ble_eq_true rfl)) dX11_runs_272 ?_
          refine r_aload_n E 11 0 rfl dX11_runs_275 ?_
          refine r_getI E fd_X11_210 rfl (Nat.le_of_ble_eq_true rfl) (adr_lt (Nat.le_of_ble_eq_true rfl)) dX11_runs_276 ?_
          refine r_iald E rfl rfl rfl (Nat.le_of_ble_eq_true rfl) (adr_lt (Nat.le_of_ble_eq_true rfl)) i7 dX11_runs_279 ?_
          refine GG_topI fun v22 hv22 => ?_
          have hw := hw v22 hv22
          refine r_istore E [some (rf X 11 0), none, some (.int x2), some (.int v8), some (.int v9), some (.int v22)] (Nat.le_of_ble_eq_true rfl) rfl dX11_runs_280 ?_
          refine r_aload_n E 11 0 rfl dX11_runs_282 ?_
          refine r_getS E fd_X11_93 (t := 0) (j1 := 60) rfl rfl rfl rfl (Nat.le_of_ble_eq_true rfl) (adr_lt (Nat.le_of_ble_eq_true rfl)) dX11_runs_283 ?_
          refine r_aload_n E 11 0 rfl dX11_runs_286 ?_
          refine r_getI E fd_X11_210 rfl (Nat.le_of_ble_eq_true rfl) (adr_lt (Nat.le_of_ble_eq_true rfl)) dX11_runs_287 ?_
          refine r_dup2 E rfl rfl dX11_runs_290 ?_
          refine r_iald E rfl rfl rfl (Nat.le_of_ble_eq_true rfl) (adr_lt (Nat.le_of_ble_eq_true rfl)) i7 dX11_runs_291 ?_
          refine r_iconst E 1 rfl dX11_runs_292 ?_
          refine r_iadd E dX11_runs_293 ?_
          refine r_iast E rfl rfl rfl (Nat.le_of_ble_eq_true rfl) (adr_lt (Nat.le_of_ble_eq_true rfl)) i7 dX11_runs_294 ?_
          refine GG_toph fun h23 hh23 => ?_
          have hw := hw h23 hh23
          refine r_aload_n E 11 0 rfl dX11_runs_295 ?_
          refine r_aload_n E 11 0 rfl dX11_runs_296 ?_
          refine r_getS E fd_X11_81 (t := 0) (j1 := 56) rfl rfl rfl rfl (Nat.le_of_ble_eq_true rfl) (adr_lt (Nat.le_of_ble_eq_true rfl)) dX11_runs_297 ?_
          refine r_iconst E 5 rfl dX11_runs_300 ?_
          refine r_iload E v9 rfl dX11_runs_301 ?_
          refine r_imul E dX11_runs_303 ?_
          refine r_iload E v22 rfl dX11_runs_304 ?_
          refine r_iadd E dX11_runs_306 ?_
          obtain ⟨i24, hw⟩ := hw
          refine r_cald E rfl rfl rfl (Nat.le_of_ble_eq_true rfl) (adr_lt (Nat.le_of_ble_eq_true rfl)) i24 dX11_runs_307 ?_
          refine r_aload_n E 11 0 rfl dX11_runs_308 ?_
          refine r_getS E fd_X11_84 (t := 0) (j1 := 57) rfl rfl rfl rfl (Nat.le_of_ble_eq_true rfl) (adr_lt (Nat.le_of_ble_eq_true rfl)) dX11_runs_309 ?_
          refine r_iconst E 5 rfl dX11_runs_312 ?_
          refine r_iload E v9 rfl dX11_runs_313 ?_
          refine r_imul E dX11_runs_315 ?_
          refine r_iload E v22 rfl dX11_runs_316 ?_
          refine r_iadd E dX11_runs_318 ?_
          refine r_iald E rfl rfl rfl (Nat.le_of_ble_eq_true rfl) (adr_lt (Nat.le_of_ble_eq_true rfl)) i24 dX11_runs_319 ?_
          refine r_iload_n E x2 rfl dX11_runs_320 ?_
          refine r_sipush E 1000 rfl dX11_runs_321 ?_
          refine r_iload_n E v8 rfl dX11_runs_324 ?_
          refine r_imul E dX11_runs_325 ?_
          refine r_bipush E 10 rfl dX11_runs_326 ?_
          refine r_aload_n E 11 0 rfl dX11_runs_328 ?_
          refine r_getS E fd_X11_90 (t := 0) (j1 := 59) rfl rfl rfl rfl (Nat.le_of_ble_eq_true rfl) (adr_lt (Nat.le_of_ble_eq_true rfl)) dX11_runs_329 ?_
          refine r_aload_n E 11 0 rfl dX11_runs_332 ?_
          refine r_getI E fd_X11_210 rfl (Nat.le_of_ble_eq_true rfl) (adr_lt (Nat.le_of_ble_eq_true rfl)) dX11_runs_333 ?_
          obtain ⟨i25, hw⟩ := hw
          refine r_iald E rfl rfl rfl (Nat.le_of_ble_eq_true rfl) (adr_lt (Nat.le_of_ble_eq_true rfl)) i25 dX11_runs_336 ?_
          refine r_imul E dX11_runs_337 ?_
          refine r_iadd E dX11_runs_338 ?_
          refine r_iload E v22 rfl dX11_runs_339 ?_
          refine r_iadd E dX11_runs_341 ?_
          refine r_callVV E (m_X11_acts (EE_st E) (GX X) (gI h23 56 0 ((5 * v9) + v22).toNatClampNeg) (gI h23 57 0 ((5 * v9) + v22).toNatClampNeg) x2 (((1000 * v8) + (10 * (gI h23 59 0 (gI h23 11 0 29).toNatClampNeg))) + v22) h23 _ hw) lk_X11_262 (RM_mk (Nat.le_of_ble_eq_true rfl) (Nat.le_of_ble_eq_true rfl)) rfl rfl rfl rfl (Nat.le_of_ble_eq_true rfl) (adr_lt (Nat.le_of_ble_eq_true rfl)) (Nat.le_of_ble_eq_true rfl) rfl rfl (Nat.le_of_ble_eq_true rfl) (Nat.le_of_ble_eq_true rfl) dX11_runs_342 (fun h26 hw => ?_)
          exact GG_weak [true, false, true, false, false, false] rfl (t_X11_runs_b345 h26 x2 E hE P87 hP87  hw)
    · have hw := ite_f hw c11
      refine r_aload_n E 11 0 rfl dX11_runs_138 ?_
      refine r_dup E rfl dX11_runs_139 ?_
      refine r_getI E fd_X11_210 rfl (Nat.le_of_ble_eq_true rfl) (adr_lt (Nat.le_of_ble_eq_true rfl)) dX11_runs_140 ?_
      refine r_iconst E 1 rfl dX11_runs_143 ?_
      refine r_isub E dX11_runs_144 ?_
      refine r_putI E fd_X11_210 rfl PI_int (Nat.le_of_ble_eq_true rfl) (adr_lt (Nat.le_of_ble_eq_true rfl)) rfl dX11_runs_145 ?_
      refine GG_toph fun h27 hh27 => ?_
      have hw := hw h27 hh27
      refine r_goto E 345 (by decide) dX11_runs_148 ?_
      exact GG_weak [true, false, true, false, false, false] rfl (t_X11_runs_b345 h27 x2 E hE P87 hP87  hw)
set_option maxRecDepth 20000 in
theorem t_X11_runs_b87 {X : Ctx} (h : Hp) (x2 : Int32)  (E : EE X cX11_runs RX11 6 6 143 0 0) {Q : Hp → Prop} (hE : ENDv X cX11_runs Q NT 0 0)  (hw : wp_X11_runs_b87 x2 h  Q) : GG X 0 0 NT h [some (rf X 11 0), none, some (.int x2), none, none, none] 87 [] :=
  hw (fun  u => GG X 0 0 NT u [some (rf X 11 0), none, some (.int x2), none, none, none] 87 []) (fun  u hq => t_X11_runs_b87F u x2  E hE  (fun  u => GG X 0 0 NT u [some (rf X 11 0), none, some (.int x2), none, none, none] 87 []) (fun  u q => q) hq)
set_option maxRecDepth 20000 in
theorem t_X11_runs_b63F {X : Ctx} (h : Hp) (x1 : Int32) (x2 : Int32) (x3 : Int32)  (E : EE X cX11_runs RX11 6 6 143 0 0) {Q : Hp → Prop} (hE : ENDv X cX11_runs Q NT 0 0)  (P63 : Int32 → Hp → Prop) (hP63 : ∀ (y3 : Int32) (u : Hp), P63 y3 u → GG X 0 0 NT u [some (rf X 11 0), some (.int x1), some (.int x2), some (.int y3), none, none] 63 []) (hw : wp_X11_runs_b63F x1 x2   Q P63 x3 h) : GG X 0 0 NT h [some (rf X 11 0), some (.int x1), some (.int x2), some (.int x3), none, none] 63 [] := by
  unfold wp_X11_runs_b63F at hw
  refine r_iload_n E x3 rfl dX11_runs_63 ?_
  refine r_bipush E 8 rfl dX11_runs_64 ?_
  refine r_icmp_ge E 82 (by decide) dX11_runs_66 (fun c1 => ?_) (fun c1 => ?_)
  · have hw := ite_t hw c1
    refine r_aload_n E 11 0 rfl dX11_runs_82 ?_
    refine r_iload_n E x1 rfl dX11_runs_83 ?_
    refine r_callVV E (m_X11_begins (EE_st E) (GX X) x1 h _ hw) lk_X11_258 (RM_mk (Nat.le_of_ble_eq_true rfl) (Nat.le_of_ble_eq_true rfl)) rfl rfl rfl rfl (Nat.le_of_ble_eq_true rfl) (adr_lt (Nat.le_of_ble_eq_true rfl)) (Nat.le_of_ble_eq_true rfl) rfl rfl (Nat.le_of_ble_eq_true rfl) (Nat.le_of_ble_eq_true rfl) dX11_runs_84 (fun h2 hw => ?_)
    exact GG_weak [true, false, true, false, false, false] rfl (t_X11_runs_b87 h2 x2 E hE  hw)
  · have hw := ite_f hw c1
    refine r_aload_n E 11 0 rfl dX11_runs_69 ?_
    refine r_getS E fd_X11_96 (t := 0) (j1 := 61) rfl rfl rfl rfl (Nat.le_of_ble_eq_true rfl) (adr_lt (Nat.le_of_ble_eq_true rfl)) dX11_runs_70 ?_
    refine r_iload_n E x3 rfl dX11_runs_73 ?_
    refine r_iconst E 0 rfl dX11_runs_74 ?_
    obtain ⟨i3, hw⟩ := hw
    refine r_iast E rfl rfl rfl (Nat.le_of_ble_eq_true rfl) (adr_lt (Nat.le_of_ble_eq_true rfl)) i3 dX11_runs_75 ?_
    refine GG_toph fun h4 hh4 => ?_
    have hw := hw h4 hh4
    obtain ⟨v5, hv5⟩ : ∃ y : Int32, y = x3 + 1 := ⟨_, rfl⟩
    have hw := hw v5 hv5
    refine r_iinc E x3 v5 [some (rf X 11 0), some (.int x1), some (.int x2), some (.int v5), none, none] rfl (by rw [hv5]; rfl) (Nat.le_of_ble_eq_true rfl) rfl dX11_runs_76 ?_
    refine r_goto E 63 (by decide) dX11_runs_79 ?_
    exact GG_weak [true, true, true, true, false, false] rfl (hP63 _ _ hw)
set_option maxRecDepth 20000 in
theorem t_X11_runs_b63 {X : Ctx} (h : Hp) (x1 : Int32) (x2 : Int32) (x3 : Int32)  (E : EE X cX11_runs RX11 6 6 143 0 0) {Q : Hp → Prop} (hE : ENDv X cX11_runs Q NT 0 0)  (hw : wp_X11_runs_b63 x1 x2 x3 h  Q) : GG X 0 0 NT h [some (rf X 11 0), some (.int x1), some (.int x2), some (.int x3), none, none] 63 [] :=
  hw (fun y3 u => GG X 0 0 NT u [some (rf X 11 0), some (.int x1), some (.int x2), some (.int y3), none, none] 63 []) (fun y3 u hq => t_X11_runs_b63F u x1 x2 y3  E hE  (fun y3 u => GG X 0 0 NT u [some (rf X 11 0), some (.int x1), some (.int x2), some (.int y3), none, none] 63 []) (fun y3 u q => q) hq)
set_option maxRecDepth 20000 in
theorem m_X11_runs {l : Launch} (hl : l.stackTraces = false) (G : Gq) (p0 : Int32) (p1 : Int32)  (h : Hp) (Q : Hp → Prop) (hw : wp_X11_runs p0 p1 h Q) : MV l G yX11_runs cX11_runs 6 none rm_X11_runs NT NT h (fun r => [r 11 0, .int p0, .int p1]) Q := by
  refine MV_of (L0 := (fun X => [some (rf X 11 0), some (.int p0), some (.int p1), none, none, none])) hl (by decide +kernel) rfl (fun _ => Nat.le_of_ble_eq_true rfl) (fun _ => rfl) fun X hXl hXG E hE => ?_
  subst hXl; subst hXG
  unfold wp_X11_runs at hw
  refine r_aload_n E 11 0 rfl dX11_runs_0 ?_
  refine r_iconst E (-1) rfl dX11_runs_1 ?_
  refine r_putI E fd_X11_210 rfl PI_int (Nat.le_of_ble_eq_true rfl) (adr_lt (Nat.le_of_ble_eq_true rfl)) rfl dX11_runs_2 ?_
  refine GG_toph fun h1 hh1 => ?_
  have hw := hw h1 hh1
  refine r_aload_n E 11 0 rfl dX11_runs_5 ?_
  refine r_bipush E 45 rfl dX11_runs_6 ?_
  obtain ⟨z2, hw⟩ := hw
  refine r_putI E fd_X11_213 rfl (PI_c z2) (Nat.le_of_ble_eq_true rfl) (adr_lt (Nat.le_of_ble_eq_true rfl)) rfl dX11_runs_8 ?_
  refine GG_toph fun h3 hh3 => ?_
  have hw := hw h3 hh3
  refine r_aload_n E 11 0 rfl dX11_runs_11 ?_
  refine r_iconst E 0 rfl dX11_runs_12 ?_
  refine r_putI E fd_X11_217 rfl PI_int (Nat.le_of_ble_eq_true rfl) (adr_lt (Nat.le_of_ble_eq_true rfl)) rfl dX11_runs_13 ?_
  refine GG_toph fun h4 hh4 => ?_
  have hw := hw h4 hh4
  refine r_aload_n E 11 0 rfl dX11_runs_16 ?_
  refine r_iconst E 0 rfl dX11_runs_17 ?_
  refine r_putI E fd_X11_252 rfl PI_int (Nat.le_of_ble_eq_true rfl) (adr_lt (Nat.le_of_ble_eq_true rfl)) rfl dX11_runs_18 ?_
  refine GG_toph fun h5 hh5 => ?_
  have hw := hw h5 hh5
  refine r_aload_n E 11 0 rfl dX11_runs_21 ?_
  refine r_iconst E 0 rfl dX11_runs_22 ?_
  refine r_putI E fd_X11_220 rfl (PI_z isB_0) (Nat.le_of_ble_eq_true rfl) (adr_lt (Nat.le_of_ble_eq_true rfl)) rfl dX11_runs_23 ?_
  refine GG_toph fun h6 hh6 => ?_
  have hw := hw h6 hh6
  refine r_aload_n E 11 0 rfl dX11_runs_26 ?_
  refine r_iconst E 0 rfl dX11_runs_27 ?_
  refine r_putI E fd_X11_236 rfl PI_int (Nat.le_of_ble_eq_true rfl) (adr_lt (Nat.le_of_ble_eq_true rfl)) rfl dX11_runs_28 ?_
  refine GG_toph fun h7 hh7 => ?_
  have hw := hw h7 hh7
  refine r_aload_n E 11 0 rfl dX11_runs_31 ?_
  refine r_iconst E 0 rfl dX11_runs_32 ?_
  refine r_putI E fd_X11_242 rfl (PI_z isB_0) (Nat.le_of_ble_eq_true rfl) (adr_lt (Nat.le_of_ble_eq_true rfl)) rfl dX11_runs_33 ?_
  refine GG_toph fun h8 hh8 => ?_
  have hw := hw h8 hh8
  refine r_aload_n E 11 0 rfl dX11_runs_36 ?_
  refine r_iconst E 0 rfl dX11_runs_37 ?_
  refine r_putI E fd_X11_207 rfl PI_int (Nat.le_of_ble_eq_true rfl) (adr_lt (Nat.le_of_ble_eq_true rfl)) rfl dX11_runs_38 ?_
  refine GG_toph fun h9 hh9 => ?_
  have hw := hw h9 hh9
  refine r_aload_n E 11 0 rfl dX11_runs_41 ?_
  refine r_iconst E 0 rfl dX11_runs_42 ?_
  refine r_putI E fd_X11_224 rfl PI_int (Nat.le_of_ble_eq_true rfl) (adr_lt (Nat.le_of_ble_eq_true rfl)) rfl dX11_runs_43 ?_
  refine GG_toph fun h10 hh10 => ?_
  have hw := hw h10 hh10
  refine r_aload_n E 11 0 rfl dX11_runs_46 ?_
  refine r_iconst E 0 rfl dX11_runs_47 ?_
  refine r_putI E fd_X11_255 rfl PI_int (Nat.le_of_ble_eq_true rfl) (adr_lt (Nat.le_of_ble_eq_true rfl)) rfl dX11_runs_48 ?_
  refine GG_toph fun h11 hh11 => ?_
  have hw := hw h11 hh11
  refine r_aload_n E 11 0 rfl dX11_runs_51 ?_
  refine r_iconst E 0 rfl dX11_runs_52 ?_
  refine r_putI E fd_X11_239 rfl PI_int (Nat.le_of_ble_eq_true rfl) (adr_lt (Nat.le_of_ble_eq_true rfl)) rfl dX11_runs_53 ?_
  refine GG_toph fun h12 hh12 => ?_
  have hw := hw h12 hh12
  refine r_aload_n E 11 0 rfl dX11_runs_56 ?_
  refine r_iconst E 0 rfl dX11_runs_57 ?_
  refine r_putI E fd_X11_233 rfl PI_int (Nat.le_of_ble_eq_true rfl) (adr_lt (Nat.le_of_ble_eq_true rfl)) rfl dX11_runs_58 ?_
  refine GG_toph fun h13 hh13 => ?_
  have hw := hw h13 hh13
  refine r_iconst E 0 rfl dX11_runs_61 ?_
  refine r_istore_n E [some (rf X 11 0), some (.int p0), some (.int p1), some (.int 0), none, none] rfl (Nat.le_of_ble_eq_true rfl) rfl dX11_runs_62 ?_
  exact GG_weak [true, true, true, true, false, false] rfl (t_X11_runs_b63 h13 p0 p1 0 E hE  hw)
set_option maxRecDepth 20000 in
theorem t_X11_keeps_b50F {X : Ctx} (h : Hp) (x1 : Int32)  (E : EE X cX11_keeps RX11 2 1 24 0 0) {Q : Int32 → Hp → Prop} (hE : ENDi X cX11_keeps .int Q NT 0 0)  (P50 : Int32 → Hp → Prop) (hP50 : ∀ (y1 : Int32) (u : Hp), P50 y1 u → GG X 0 0 NT u [some (rf X 11 0), some (.int y1)] 50 []) (hw : wp_X11_keeps_b50F    Q P50 x1 h) : GG X 0 0 NT h [some (rf X 11 0), some (.int x1)] 50 [] := by
  unfold wp_X11_keeps_b50F at hw
  refine r_iload_n E x1 rfl dX11_keeps_50 ?_
  refine r_aload_n E 11 0 rfl dX11_keeps_51 ?_
  refine r_getI E fd_X11_207 rfl (Nat.le_of_ble_eq_true rfl) (adr_lt (Nat.le_of_ble_eq_true rfl)) dX11_keeps_52 ?_
  refine r_icmp_ge E 76 (by decide) dX11_keeps_55 (fun c1 => ?_) (fun c1 => ?_)
  · have hw := ite_t hw c1
    refine r_aload_n E 11 0 rfl dX11_keeps_76 ?_
    refine r_getI E fd_X11_265 rfl (Nat.le_of_ble_eq_true rfl) (adr_lt (Nat.le_of_ble_eq_true rfl)) dX11_keeps_77 ?_
    exact hE _ _ _ _ _ _ (Nat.le_of_ble_eq_true rfl) (Nat.le_of_ble_eq_true rfl) dX11_keeps_80 rfl hw
  · have hw := ite_f hw c1
    refine r_aload_n E 11 0 rfl dX11_keeps_58 ?_
    refine r_getS E fd_X11_102 (t := 0) (j1 := 63) rfl rfl rfl rfl (Nat.le_of_ble_eq_true rfl) (adr_lt (Nat.le_of_ble_eq_true rfl)) dX11_keeps_59 ?_
    refine r_iload_n E x1 rfl dX11_keeps_62 ?_
    refine r_aload_n E 11 0 rfl dX11_keeps_63 ?_
    refine r_getS E fd_X11_99 (t := 0) (j1 := 62) rfl rfl rfl rfl (Nat.le_of_ble_eq_true rfl) (adr_lt (Nat.le_of_ble_eq_true rfl)) dX11_keeps_64 ?_
    refine r_iload_n E x1 rfl dX11_keeps_67 ?_
    obtain ⟨i2, hw⟩ := hw
    refine r_iald E rfl rfl rfl (Nat.le_of_ble_eq_true rfl) (adr_lt (Nat.le_of_ble_eq_true rfl)) i2 dX11_keeps_68 ?_
    refine r_iast E rfl rfl rfl (Nat.le_of_ble_eq_true rfl) (adr_lt (Nat.le_of_ble_eq_true rfl)) i2 dX11_keeps_69 ?_
    refine GG_toph fun h3 hh3 => ?_
    have hw := hw h3 hh3
    obtain ⟨v4, hv4⟩ : ∃ y : Int32, y = x1 + 1 := ⟨_, rfl⟩
    have hw := hw v4 hv4
    refine r_iinc E x1 v4 [some (rf X 11 0), some (.int v4)] rfl (by rw [hv4]; rfl) (Nat.le_of_ble_eq_true rfl) rfl dX11_keeps_70 ?_
    refine r_goto E 50 (by decide) dX11_keeps_73 ?_
    exact GG_weak [true, true] rfl (hP50 _ _ hw)
set_option maxRecDepth 20000 in
theorem t_X11_keeps_b50 {X : Ctx} (h : Hp) (x1 : Int32)  (E : EE X cX11_keeps RX11 2 1 24 0 0) {Q : Int32 → Hp → Prop} (hE : ENDi X cX11_keeps .int Q NT 0 0)  (hw : wp_X11_keeps_b50 x1 h  Q) : GG X 0 0 NT h [some (rf X 11 0), some (.int x1)] 50 [] :=
  hw (fun y1 u => GG X 0 0 NT u [some (rf X 11 0), some (.int y1)] 50 []) (fun y1 u hq => t_X11_keeps_b50F u y1  E hE  (fun y1 u => GG X 0 0 NT u [some (rf X 11 0), some (.int y1)] 50 []) (fun y1 u q => q) hq)
set_option maxRecDepth 20000 in
theorem m_X11_keeps {l : Launch} (hl : l.stackTraces = false) (G : Gq)   (h : Hp) (Q : Int32 → Hp → Prop) (hw : wp_X11_keeps  h Q) : MI l G yX11_keeps cX11_keeps 2 (some .int) rm_X11_keeps NT NT h (fun r => [r 11 0]) Q := by
  refine MI_of (L0 := (fun X => [some (rf X 11 0), none])) hl (by decide +kernel) rfl (fun _ => Nat.le_of_ble_eq_true rfl) (fun _ => rfl) fun X hXl hXG E hE => ?_
  subst hXl; subst hXG
  unfold wp_X11_keeps at hw
  refine r_aload_n E 11 0 rfl dX11_keeps_0 ?_
  refine r_aload_n E 11 0 rfl dX11_keeps_1 ?_
  refine r_getI E fd_X11_207 rfl (Nat.le_of_ble_eq_true rfl) (adr_lt (Nat.le_of_ble_eq_true rfl)) dX11_keeps_2 ?_
  refine r_putI E fd_X11_268 rfl PI_int (Nat.le_of_ble_eq_true rfl) (adr_lt (Nat.le_of_ble_eq_true rfl)) rfl dX11_keeps_5 ?_
  refine GG_toph fun h1 hh1 => ?_
  have hw := hw h1 hh1
  refine r_aload_n E 11 0 rfl dX11_keeps_8 ?_
  refine r_aload_n E 11 0 rfl dX11_keeps_9 ?_
  refine r_getI E fd_X11_224 rfl (Nat.le_of_ble_eq_true rfl) (adr_lt (Nat.le_of_ble_eq_true rfl)) dX11_keeps_10 ?_
  refine r_putI E fd_X11_271 rfl PI_int (Nat.le_of_ble_eq_true rfl) (adr_lt (Nat.le_of_ble_eq_true rfl)) rfl dX11_keeps_13 ?_
  refine GG_toph fun h2 hh2 => ?_
  have hw := hw h2 hh2
  refine r_aload_n E 11 0 rfl dX11_keeps_16 ?_
  refine r_aload_n E 11 0 rfl dX11_keeps_17 ?_
  refine r_getI E fd_X11_255 rfl (Nat.le_of_ble_eq_true rfl) (adr_lt (Nat.le_of_ble_eq_true rfl)) dX11_keeps_18 ?_
  refine r_putI E fd_X11_274 rfl PI_int (Nat.le_of_ble_eq_true rfl) (adr_lt (Nat.le_of_ble_eq_true rfl)) rfl dX11_keeps_21 ?_
  refine GG_toph fun h3 hh3 => ?_
  have hw := hw h3 hh3
  refine r_aload_n E 11 0 rfl dX11_keeps_24 ?_
  refine r_aload_n E 11 0 rfl dX11_keeps_25 ?_
  refine r_getI E fd_X11_239 rfl (Nat.le_of_ble_eq_true rfl) (adr_lt (Nat.le_of_ble_eq_true rfl)) dX11_keeps_26 ?_
  refine r_putI E fd_X11_277 rfl PI_int (Nat.le_of_ble_eq_true rfl) (adr_lt (Nat.le_of_ble_eq_true rfl)) rfl dX11_keeps_29 ?_
  refine GG_toph fun h4 hh4 => ?_
  have hw := hw h4 hh4
  refine r_aload_n E 11 0 rfl dX11_keeps_32 ?_
  refine r_aload_n E 11 0 rfl dX11_keeps_33 ?_
  refine r_getI E fd_X11_233 rfl (Nat.le_of_ble_eq_true rfl) (adr_lt (Nat.le_of_ble_eq_true rfl)) dX11_keeps_34 ?_
  refine r_putI E fd_X11_280 rfl PI_int (Nat.le_of_ble_eq_true rfl) (adr_lt (Nat.le_of_ble_eq_true rfl)) rfl dX11_keeps_37 ?_
  refine GG_toph fun h5 hh5 => ?_
  have hw := hw h5 hh5
  refine r_aload_n E 11 0 rfl dX11_keeps_40 ?_
  refine r_aload_n E 11 0 rfl dX11_keeps_41 ?_
  refine r_getI E fd_X11_252 rfl (Nat.le_of_ble_eq_true rfl) (adr_lt (Nat.le_of_ble_eq_true rfl)) dX11_keeps_42 ?_
  refine r_putI E fd_X11_283 rfl PI_int (Nat.le_of_ble_eq_true rfl) (adr_lt (Nat.le_of_ble_eq_true rfl)) rfl dX11_keeps_45 ?_
  refine GG_toph fun h6 hh6 => ?_
  have hw := hw h6 hh6
  refine r_iconst E 0 rfl dX11_keeps_48 ?_
  refine r_istore_n E [some (rf X 11 0), some (.int 0)] rfl (Nat.le_of_ble_eq_true rfl) rfl dX11_keeps_49 ?_
  exact GG_weak [true, true] rfl (t_X11_keeps_b50 h6 0 E hE  hw)
set_option maxRecDepth 20000 in
theorem t_X11_deliver_b128F {X : Ctx} (h : Hp) (x1 : Int32) (x2 : Int32)  (E : EE X cX11_deliver RX11 3 7 168 0 0) {Q : Int32 → Hp → Prop} (hE : ENDi X cX11_deliver .int Q NT 0 0)  (P128 : Int32 → Hp → Prop) (hP128 : ∀ (y2 : Int32) (u : Hp), P128 y2 u → GG X 0 0 NT u [some (rf X 11 0), some (.int x1), some (.int y2)] 128 []) (hw : wp_X11_deliver_b128F x1   Q P128 x2 h) : GG X 0 0 NT h [some (rf X 11 0), some (.int x1), some (.int x2)] 128 [] := by
  unfold wp_X11_deliver_b128F at hw
  refine r_iload_n E x2 rfl dX11_deliver_128 ?_
  refine r_bipush E 10 rfl dX11_deliver_129 ?_
  refine r_icmp_ge E 157 (by decide) dX11_deliver_131 (fun c1 => ?_) (fun c1 => ?_)
  · have hw := ite_t hw c1
    refine r_aload_n E 11 0 rfl dX11_deliver_157 ?_
    refine r_getI E fd_X11_242 rfl (Nat.le_of_ble_eq_true rfl) (adr_lt (Nat.le_of_ble_eq_true rfl)) dX11_deliver_158 ?_
    refine r_if_eq E 194 (by decide) dX11_deliver_161 (fun c2 => ?_) (fun c2 => ?_)
    · have hw := ite_t hw c2
      refine r_aload_n E 11 0 rfl dX11_deliver_194 ?_
      refine r_callVI E (m_X11_keeps (EE_st E) (GX X)  h _ hw) lk_X11_289 (RM_mk (Nat.le_of_ble_eq_true rfl) (Nat.le_of_ble_eq_true rfl)) rfl rfl rfl rfl (Nat.le_of_ble_eq_true rfl) (adr_lt (Nat.le_of_ble_eq_true rfl)) (Nat.le_of_ble_eq_true rfl) rfl rfl (Nat.le_of_ble_eq_true rfl) (Nat.le_of_ble_eq_true rfl) dX11_deliver_195 (fun r3 h4 hw => ?_)
      exact hE _ _ _ _ _ _ (Nat.le_of_ble_eq_true rfl) (Nat.le_of_ble_eq_true rfl) dX11_deliver_198 rfl hw
    · have hw := ite_f hw c2
      refine r_aload_n E 11 0 rfl dX11_deliver_164 ?_
      refine r_getS E fd_X11_50 (t := 0) (j1 := 46) rfl rfl rfl rfl (Nat.le_of_ble_eq_true rfl) (adr_lt (Nat.le_of_ble_eq_true rfl)) dX11_deliver_165 ?_
      refine r_aload_n E 11 0 rfl dX11_deliver_168 ?_
      refine r_getS E fd_X11_7 (t := 0) (j1 := 33) rfl rfl rfl rfl (Nat.le_of_ble_eq_true rfl) (adr_lt (Nat.le_of_ble_eq_true rfl)) dX11_deliver_169 ?_
      refine r_iload_n E x1 rfl dX11_deliver_172 ?_
      obtain ⟨i5, hw⟩ := hw
      refine r_iald E rfl rfl rfl (Nat.le_of_ble_eq_true rfl) (adr_lt (Nat.le_of_ble_eq_true rfl)) i5 dX11_deliver_173 ?_
      refine r_aload_n E 11 0 rfl dX11_deliver_174 ?_
      refine r_getI E fd_X11_154 rfl (Nat.le_of_ble_eq_true rfl) (adr_lt (Nat.le_of_ble_eq_true rfl)) dX11_deliver_175 ?_
      obtain ⟨i6, hw⟩ := hw
      refine r_iast E rfl rfl rfl (Nat.le_of_ble_eq_true rfl) (adr_lt (Nat.le_of_ble_eq_true rfl)) i6 dX11_deliver_178 ?_
      refine GG_toph fun h7 hh7 => ?_
      have hw := hw h7 hh7
      refine r_aload_n E 11 0 rfl dX11_deliver_179 ?_
      refine r_getS E fd_X11_53 (t := 0) (j1 := 47) rfl rfl rfl rfl (Nat.le_of_ble_eq_true rfl) (adr_lt (Nat.le_of_ble_eq_true rfl)) dX11_deliver_180 ?_
      refine r_aload_n E 11 0 rfl dX11_deliver_183 ?_
      refine r_getS E fd_X11_7 (t := 0) (j1 := 33) rfl rfl rfl rfl (Nat.le_of_ble_eq_true rfl) (adr_lt (Nat.le_of_ble_eq_true rfl)) dX11_deliver_184 ?_
      refine r_iload_n E x1 rfl dX11_deliver_187 ?_
      refine r_iald E rfl rfl rfl (Nat.le_of_ble_eq_true rfl) (adr_lt (Nat.le_of_ble_eq_true rfl)) i5 dX11_deliver_188 ?_
      refine r_dup2 E rfl rfl dX11_deliver_189 ?_
      obtain ⟨i8, hw⟩ := hw
      refine r_iald E rfl rfl rfl (Nat.le_of_ble_eq_true rfl) (adr_lt (Nat.le_of_ble_eq_true rfl)) i8 dX11_deliver_190 ?_
      refine r_iconst E 1 rfl dX11_deliver_191 ?_
      refine r_iadd E dX11_deliver_192 ?_
      refine r_iast E rfl rfl rfl (Nat.le_of_ble_eq_true rfl) (adr_lt (Nat.le_of_ble_eq_true rfl)) i8 dX11_deliver_193 ?_
      refine GG_toph fun h9 hh9 => ?_
      have hw := hw h9 hh9
      refine r_aload_n E 11 0 rfl dX11_deliver_194 ?_
      refine r_callVI E (m_X11_keeps (EE_st E) (GX X)  h9 _ hw) lk_X11_289 (RM_mk (Nat.le_of_ble_eq_true rfl) (Nat.le_of_ble_eq_true rfl)) rfl rfl rfl rfl (Nat.le_of_ble_eq_true rfl) (adr_lt (Nat.le_of_ble_eq_true rfl)) (Nat.le_of_ble_eq_true rfl) rfl rfl (Nat.le_of_ble_eq_true rfl) (Nat.le_of_ble_eq_true rfl) dX11_deliver_195 (fun r10 h11 hw => ?_)
      exact hE _ _ _ _ _ _ (Nat.le_of_ble_eq_true rfl) (Nat.le_of_ble_eq_true rfl) dX11_deliver_198 rfl hw
  · have hw := ite_f hw c1
    refine r_aload_n E 11 0 rfl dX11_deliver_134 ?_
    refine r_getS E fd_X11_56 (t := 0) (j1 := 48) rfl rfl rfl rfl (Nat.le_of_ble_eq_true rfl) (adr_lt (Nat.le_of_ble_eq_true rfl)) dX11_deliver_135 ?_
    refine r_iload_n E x2 rfl dX11_deliver_138 ?_
    refine r_dup2 E rfl rfl dX11_deliver_139 ?_
    obtain ⟨i12, hw⟩ := hw
    refine r_iald E rfl rfl rfl (Nat.le_of_ble_eq_true rfl) (adr_lt (Nat.le_of_ble_eq_true rfl)) i12 dX11_deliver_140 ?_
    refine r_aload_n E 11 0 rfl dX11_deliver_141 ?_
    refine r_getI E fd_X11_236 rfl (Nat.le_of_ble_eq_true rfl) (adr_lt (Nat.le_of_ble_eq_true rfl)) dX11_deliver_142 ?_
    refine r_iload_n E x2 rfl dX11_deliver_145 ?_
    refine r_ishr E dX11_deliver_146 ?_
    refine r_iconst E 1 rfl dX11_deliver_147 ?_
    refine r_iand E dX11_deliver_148 ?_
    refine r_iadd E dX11_deliver_149 ?_
    refine r_iast E rfl rfl rfl (Nat.le_of_ble_eq_true rfl) (adr_lt (Nat.le_of_ble_eq_true rfl)) i12 dX11_deliver_150 ?_
    refine GG_toph fun h13 hh13 => ?_
    have hw := hw h13 hh13
    obtain ⟨v14, hv14⟩ : ∃ y : Int32, y = x2 + 1 := ⟨_, rfl⟩
    have hw := hw v14 hv14
    refine r_iinc E x2 v14 [some (rf X 11 0), some (.int x1), some (.int v14)] rfl (by rw [hv14]; rfl) (Nat.le_of_ble_eq_true rfl) rfl dX11_deliver_151 ?_
    refine r_goto E 128 (by decide) dX11_deliver_154 ?_
    exact GG_weak [true, true, true] rfl (hP128 _ _ hw)
set_option maxRecDepth 20000 in
theorem t_X11_deliver_b128 {X : Ctx} (h : Hp) (x1 : Int32) (x2 : Int32)  (E : EE X cX11_deliver RX11 3 7 168 0 0) {Q : Int32 → Hp → Prop} (hE : ENDi X cX11_deliver .int Q NT 0 0)  (hw : wp_X11_deliver_b128 x1 x2 h  Q) : GG X 0 0 NT h [some (rf X 11 0), some (.int x1), some (.int x2)] 128 [] :=
  hw (fun y2 u => GG X 0 0 NT u [some (rf X 11 0), some (.int x1), some (.int y2)] 128 []) (fun y2 u hq => t_X11_deliver_b128F u x1 y2  E hE  (fun y2 u => GG X 0 0 NT u [some (rf X 11 0), some (.int x1), some (.int y2)] 128 []) (fun y2 u q => q) hq)
set_option maxRecDepth 20000 in
theorem t_X11_deliver_b99F {X : Ctx} (h : Hp) (x1 : Int32) (x2 : Int32)  (E : EE X cX11_deliver RX11 3 7 168 0 0) {Q : Int32 → Hp → Prop} (hE : ENDi X cX11_deliver .int Q NT 0 0)  (P99 : Int32 → Hp → Prop) (hP99 : ∀ (y2 : Int32) (u : Hp), P99 y2 u → GG X 0 0 NT u [some (rf X 11 0), some (.int x1), some (.int y2)] 99 []) (hw : wp_X11_deliver_b99F x1   Q P99 x2 h) : GG X 0 0 NT h [some (rf X 11 0), some (.int x1), some (.int x2)] 99 [] := by
  unfold wp_X11_deliver_b99F at hw
  refine r_iload_n E x2 rfl dX11_deliver_99 ?_
  refine r_bipush E 8 rfl dX11_deliver_100 ?_
  refine r_icmp_ge E 126 (by decide) dX11_deliver_102 (fun c1 => ?_) (fun c1 => ?_)
  · have hw := ite_t hw c1
    refine r_iconst E 0 rfl dX11_deliver_126 ?_
    refine r_istore_n E [some (rf X 11 0), some (.int x1), some (.int 0)] rfl (Nat.le_of_ble_eq_true rfl) rfl dX11_deliver_127 ?_
    exact GG_weak [true, true, true] rfl (t_X11_deliver_b128 h x1 0 E hE  hw)
  · have hw := ite_f hw c1
    refine r_aload_n E 11 0 rfl dX11_deliver_105 ?_
    refine r_getS E fd_X11_47 (t := 0) (j1 := 45) rfl rfl rfl rfl (Nat.le_of_ble_eq_true rfl) (adr_lt (Nat.le_of_ble_eq_true rfl)) dX11_deliver_106 ?_
    refine r_iload_n E x2 rfl dX11_deliver_109 ?_
    refine r_dup2 E rfl rfl dX11_deliver_110 ?_
    obtain ⟨i2, hw⟩ := hw
    refine r_iald E rfl rfl rfl (Nat.le_of_ble_eq_true rfl) (adr_lt (Nat.le_of_ble_eq_true rfl)) i2 dX11_deliver_111 ?_
    refine r_aload_n E 11 0 rfl dX11_deliver_112 ?_
    refine r_getS E fd_X11_96 (t := 0) (j1 := 61) rfl rfl rfl rfl (Nat.le_of_ble_eq_true rfl) (adr_lt (Nat.le_of_ble_eq_true rfl)) dX11_deliver_113 ?_
    refine r_iload_n E x2 rfl dX11_deliver_116 ?_
    refine r_iald E rfl rfl rfl (Nat.le_of_ble_eq_true rfl) (adr_lt (Nat.le_of_ble_eq_true rfl)) i2 dX11_deliver_117 ?_
    refine r_iadd E dX11_deliver_118 ?_
    refine r_iast E rfl rfl rfl (Nat.le_of_ble_eq_true rfl) (adr_lt (Nat.le_of_ble_eq_true rfl)) i2 dX11_deliver_119 ?_
    refine GG_toph fun h3 hh3 => ?_
    have hw := hw h3 hh3
    obtain ⟨v4, hv4⟩ : ∃ y : Int32, y = x2 + 1 := ⟨_, rfl⟩
    have hw := hw v4 hv4
    refine r_iinc E x2 v4 [some (rf X 11 0), some (.int x1), some (.int v4)] rfl (by rw [hv4]; rfl) (Nat.le_of_ble_eq_true rfl) rfl dX11_deliver_120 ?_
    refine r_goto E 99 (by decide) dX11_deliver_123 ?_
    exact GG_weak [true, true, true] rfl (hP99 _ _ hw)
set_option maxRecDepth 20000 in
theorem t_X11_deliver_b99 {X : Ctx} (h : Hp) (x1 : Int32) (x2 : Int32)  (E : EE X cX11_deliver RX11 3 7 168 0 0) {Q : Int32 → Hp → Prop} (hE : ENDi X cX11_deliver .int Q NT 0 0)  (hw : wp_X11_deliver_b99 x1 x2 h  Q) : GG X 0 0 NT h [some (rf X 11 0), some (.int x1), some (.int x2)] 99 [] :=
  hw (fun y2 u => GG X 0 0 NT u [some (rf X 11 0), some (.int x1), some (.int y2)] 99 []) (fun y2 u hq => t_X11_deliver_b99F u x1 y2  E hE  (fun y2 u => GG X 0 0 NT u [some (rf X 11 0), some (.int x1), some (.int y2)] 99 []) (fun y2 u q => q) hq)
set_option maxRecDepth 20000 in
theorem t_X11_deliver_b79 {X : Ctx} (h : Hp) (x1 : Int32) (s1 : Int32) (s2 : Int32)  (E : EE X cX11_deliver RX11 3 7 168 0 0) {Q : Int32 → Hp → Prop} (hE : ENDi X cX11_deliver .int Q NT 0 0)  (hw : wp_X11_deliver_b79 x1 s1 s2 h  Q) : GG X 0 0 NT h [some (rf X 11 0), some (.int x1), none] 79 [.int s2, .int s1, rf X 41 0] := by
  unfold wp_X11_deliver_b79 at hw
  obtain ⟨i1, hw⟩ := hw
  refine r_iast E rfl rfl rfl (Nat.le_of_ble_eq_true rfl) (adr_lt (Nat.le_of_ble_eq_true rfl)) i1 dX11_deliver_79 ?_
  refine GG_toph fun h2 hh2 => ?_
  have hw := hw h2 hh2
  refine r_aload_n E 11 0 rfl dX11_deliver_80 ?_
  refine r_getS E fd_X11_38 (t := 0) (j1 := 42) rfl rfl rfl rfl (Nat.le_of_ble_eq_true rfl) (adr_lt (Nat.le_of_ble_eq_true rfl)) dX11_deliver_81 ?_
  refine r_iload_n E x1 rfl dX11_deliver_84 ?_
  refine r_aload_n E 11 0 rfl dX11_deliver_85 ?_
  refine r_getI E fd_X11_252 rfl (Nat.le_of_ble_eq_true rfl) (adr_lt (Nat.le_of_ble_eq_true rfl)) dX11_deliver_86 ?_
  obtain ⟨i3, hw⟩ := hw
  refine r_iast E rfl rfl rfl (Nat.le_of_ble_eq_true rfl) (adr_lt (Nat.le_of_ble_eq_true rfl)) i3 dX11_deliver_89 ?_
  refine GG_toph fun h4 hh4 => ?_
  have hw := hw h4 hh4
  refine r_aload_n E 11 0 rfl dX11_deliver_90 ?_
  refine r_getS E fd_X11_41 (t := 0) (j1 := 43) rfl rfl rfl rfl (Nat.le_of_ble_eq_true rfl) (adr_lt (Nat.le_of_ble_eq_true rfl)) dX11_deliver_91 ?_
  refine r_iload_n E x1 rfl dX11_deliver_94 ?_
  refine r_iconst E (-1) rfl dX11_deliver_95 ?_
  refine r_iast E rfl rfl rfl (Nat.le_of_ble_eq_true rfl) (adr_lt (Nat.le_of_ble_eq_true rfl)) i3 dX11_deliver_96 ?_
  refine GG_toph fun h5 hh5 => ?_
  have hw := hw h5 hh5
  refine r_iconst E 0 rfl dX11_deliver_97 ?_
  refine r_istore_n E [some (rf X 11 0), some (.int x1), some (.int 0)] rfl (Nat.le_of_ble_eq_true rfl) rfl dX11_deliver_98 ?_
  exact GG_weak [true, true, true] rfl (t_X11_deliver_b99 h5 x1 0 E hE  hw)
set_option maxRecDepth 20000 in
theorem t_X11_deliver_b51 {X : Ctx} (h : Hp) (x1 : Int32) (s1 : Int32) (s2 : Int32)  (E : EE X cX11_deliver RX11 3 7 168 0 0) {Q : Int32 → Hp → Prop} (hE : ENDi X cX11_deliver .int Q NT 0 0)  (hw : wp_X11_deliver_b51 x1 s1 s2 h  Q) : GG X 0 0 NT h [some (rf X 11 0), some (.int x1), none] 51 [.int s2, .int s1, rf X 40 0] := by
  unfold wp_X11_deliver_b51 at hw
  obtain ⟨i1, hw⟩ := hw
  refine r_zast E rfl rfl rfl (Nat.le_of_ble_eq_true rfl) (adr_lt (Nat.le_of_ble_eq_true rfl)) i1 rfl dX11_deliver_51 ?_
  refine GG_toph fun h2 hh2 => ?_
  have hw := hw h2 hh2
  refine r_aload_n E 11 0 rfl dX11_deliver_52 ?_
  refine r_getS E fd_X11_35 (t := 0) (j1 := 41) rfl rfl rfl rfl (Nat.le_of_ble_eq_true rfl) (adr_lt (Nat.le_of_ble_eq_true rfl)) dX11_deliver_53 ?_
  refine r_iload_n E x1 rfl dX11_deliver_56 ?_
  refine r_aload_n E 11 0 rfl dX11_deliver_57 ?_
  refine r_getI E fd_X11_265 rfl (Nat.le_of_ble_eq_true rfl) (adr_lt (Nat.le_of_ble_eq_true rfl)) dX11_deliver_58 ?_
  refine r_bipush E 7 rfl dX11_deliver_61 ?_
  refine r_icmp_le E 75 (by decide) dX11_deliver_63 (fun c3 => ?_) (fun c3 => ?_)
  · have hw := ite_t hw c3
    refine r_aload_n E 11 0 rfl dX11_deliver_75 ?_
    refine r_getI E fd_X11_265 rfl (Nat.le_of_ble_eq_true rfl) (adr_lt (Nat.le_of_ble_eq_true rfl)) dX11_deliver_76 ?_
    exact GG_weak [true, true, false] rfl (t_X11_deliver_b79 h2 x1 x1 (gI h2 11 0 40) E hE  hw)
  · have hw := ite_f hw c3
    refine r_aload_n E 11 0 rfl dX11_deliver_66 ?_
    refine r_getS E fd_X11_35 (t := 0) (j1 := 41) rfl rfl rfl rfl (Nat.le_of_ble_eq_true rfl) (adr_lt (Nat.le_of_ble_eq_true rfl)) dX11_deliver_67 ?_
    refine r_iload_n E x1 rfl dX11_deliver_70 ?_
    obtain ⟨i4, hw⟩ := hw
    refine r_iald E rfl rfl rfl (Nat.le_of_ble_eq_true rfl) (adr_lt (Nat.le_of_ble_eq_true rfl)) i4 dX11_deliver_71 ?_
    refine r_goto E 79 (by decide) dX11_deliver_72 ?_
    exact GG_weak [true, true, false] rfl (t_X11_deliver_b79 h2 x1 x1 (gI h2 41 0 x1.toNatClampNeg) E hE  hw)
set_option maxRecDepth 20000 in
theorem m_X11_deliver {l : Launch} (hl : l.stackTraces = false) (G : Gq) (p0 : Int32)  (h : Hp) (Q : Int32 → Hp → Prop) (hw : wp_X11_deliver p0 h Q) : MI l G yX11_deliver cX11_deliver 3 (some .int) rm_X11_deliver NT NT h (fun r => [r 11 0, .int p0]) Q := by
  refine MI_of (L0 := (fun X => [some (rf X 11 0), some (.int p0), none])) hl (by decide +kernel) rfl (fun _ => Nat.le_of_ble_eq_true rfl) (fun _ => rfl) fun X hXl hXG E hE => ?_
  subst hXl; subst hXG
  unfold wp_X11_deliver at hw
  refine r_aload_n E 11 0 rfl dX11_deliver_0 ?_
  refine r_iconst E 0 rfl dX11_deliver_1 ?_
  refine r_putI E fd_X11_138 rfl PI_int (Nat.le_of_ble_eq_true rfl) (adr_lt (Nat.le_of_ble_eq_true rfl)) rfl dX11_deliver_2 ?_
  refine GG_toph fun h1 hh1 => ?_
  have hw := hw h1 hh1
  refine r_aload_n E 11 0 rfl dX11_deliver_5 ?_
  refine r_iload_n E p0 rfl dX11_deliver_6 ?_
  refine r_callVI E (m_X11_isMail (EE_st E) (GX X) p0 h1 _ hw) lk_X11_165 (RM_mk (Nat.le_of_ble_eq_true rfl) (Nat.le_of_ble_eq_true rfl)) rfl rfl rfl rfl (Nat.le_of_ble_eq_true rfl) (adr_lt (Nat.le_of_ble_eq_true rfl)) (Nat.le_of_ble_eq_true rfl) rfl rfl (Nat.le_of_ble_eq_true rfl) (Nat.le_of_ble_eq_true rfl) dX11_deliver_7 (fun r2 u9 hw => ?_)
  obtain ⟨rfl, zr2, hw⟩ := hw
  refine r_if_ne E 19 (by decide) dX11_deliver_10 (fun c3 => ?_) (fun c3 => ?_)
  · have hw := ite_t hw c3
    refine r_aload_n E 11 0 rfl dX11_deliver_13 ?_
    refine r_iconst E 1 rfl dX11_deliver_14 ?_
    refine r_callVI E (m_X11_fails (EE_st E) (GX X) 1 h1 _ hw) lk_X11_147 (RM_mk (Nat.le_of_ble_eq_true rfl) (Nat.le_of_ble_eq_true rfl)) rfl rfl rfl rfl (Nat.le_of_ble_eq_true rfl) (adr_lt (Nat.le_of_ble_eq_true rfl)) (Nat.le_of_ble_eq_true rfl) rfl rfl (Nat.le_of_ble_eq_true rfl) (Nat.le_of_ble_eq_true rfl) dX11_deliver_15 (fun r4 h5 hw => ?_)
    exact hE _ _ _ _ _ _ (Nat.le_of_ble_eq_true rfl) (Nat.le_of_ble_eq_true rfl) dX11_deliver_18 rfl hw
  · have hw := ite_f hw c3
    refine r_aload_n E 11 0 rfl dX11_deliver_19 ?_
    refine r_iconst E 0 rfl dX11_deliver_20 ?_
    refine r_iload_n E p0 rfl dX11_deliver_21 ?_
    refine r_callVV E (m_X11_runs (EE_st E) (GX X) 0 p0 h1 _ hw) lk_X11_286 (RM_mk (Nat.le_of_ble_eq_true rfl) (Nat.le_of_ble_eq_true rfl)) rfl rfl rfl rfl (Nat.le_of_ble_eq_true rfl) (adr_lt (Nat.le_of_ble_eq_true rfl)) (Nat.le_of_ble_eq_true rfl) rfl rfl (Nat.le_of_ble_eq_true rfl) (Nat.le_of_ble_eq_true rfl) dX11_deliver_22 (fun h6 hw => ?_)
    refine r_aload_n E 11 0 rfl dX11_deliver_25 ?_
    refine r_getS E fd_X11_28 (t := 0) (j1 := 39) rfl rfl rfl rfl (Nat.le_of_ble_eq_true rfl) (adr_lt (Nat.le_of_ble_eq_true rfl)) dX11_deliver_26 ?_
    refine r_iload_n E p0 rfl dX11_deliver_29 ?_
    refine r_iconst E 1 rfl dX11_deliver_30 ?_
    obtain ⟨i7, hw⟩ := hw
    refine r_zast E rfl rfl rfl (Nat.le_of_ble_eq_true rfl) (adr_lt (Nat.le_of_ble_eq_true rfl)) i7 rfl dX11_deliver_31 ?_
    refine GG_toph fun h8 hh8 => ?_
    have hw := hw h8 hh8
    refine r_aload_n E 11 0 rfl dX11_deliver_32 ?_
    refine r_getS E fd_X11_32 (t := 0) (j1 := 40) rfl rfl rfl rfl (Nat.le_of_ble_eq_true rfl) (adr_lt (Nat.le_of_ble_eq_true rfl)) dX11_deliver_33 ?_
    refine r_iload_n E p0 rfl dX11_deliver_36 ?_
    refine r_aload_n E 11 0 rfl dX11_deliver_37 ?_
    refine r_getI E fd_X11_265 rfl (Nat.le_of_ble_eq_true rfl) (adr_lt (Nat.le_of_ble_eq_true rfl)) dX11_deliver_38 ?_
    refine r_bipush E 7 rfl dX11_deliver_41 ?_
    refine r_icmp_le E 50 (by decide) dX11_deliver_43 (fun c9 => ?_) (fun c9 => ?_)
    · have hw := ite_t hw c9
      refine r_iconst E 0 rfl dX11_deliver_50 ?_
      exact GG_weak [true, true, false] rfl (t_X11_deliver_b51 h8 p0 p0 0 E hE  hw)
    · have hw := ite_f hw c9
      refine r_iconst E 1 rfl dX11_deliver_46 ?_
      refine r_goto E 51 (by decide) dX11_deliver_47 ?_
      exact GG_weak [true, true, false] rfl (t_X11_deliver_b51 h8 p0 p0 1 E hE  hw)
set_option maxRecDepth 20000 in
theorem m_X11_isScript {l : Launch} (hl : l.stackTraces = false) (G : Gq) (p0 : Int32)  (h : Hp) (Q : Int32 → Prop) (hw : wp_X11_isScript p0 h Q) : MI l G yX11_isScript cX11_isScript 1 (some .boolean) rm_X11_isScript NT NT h (fun r => [.int p0]) (fun r u => h = u ∧ isB r ∧ Q r) := by
  refine MI_of (L0 := (fun X => [some (.int p0)])) hl (by decide +kernel) rfl (fun _ => Nat.le_of_ble_eq_true rfl) (fun _ => rfl) fun X hXl hXG E hE => ?_
  subst hXl; subst hXG
  unfold wp_X11_isScript at hw
  refine r_iload_n E p0 rfl dX11_isScript_0 ?_
  refine r_iconst E 0 rfl dX11_isScript_1 ?_
  refine r_iconst E 3 rfl dX11_isScript_2 ?_
  refine r_callSI E (m_X11_in (EE_st E) (GX X) p0 0 3 h _ hw) lk_X11_142 (RM_mk (Nat.le_of_ble_eq_true rfl) (Nat.le_of_ble_eq_true rfl)) rfl rfl rfl rfl (Nat.le_of_ble_eq_true rfl) rfl rfl (Nat.le_of_ble_eq_true rfl) (Nat.le_of_ble_eq_true rfl) dX11_isScript_3 (fun r1 u9 hw => ?_)
  obtain ⟨rfl, zr1, hw⟩ := hw
  exact hE _ _ _ _ _ _ (Nat.le_of_ble_eq_true rfl) (Nat.le_of_ble_eq_true rfl) dX11_isScript_6 (isB_nar zr1) ⟨rfl, zr1, hw⟩
set_option maxRecDepth 20000 in
theorem t_X11_attempt_b20 {X : Ctx} (h : Hp)   (E : EE X cX11_attempt RX11 3 7 168 0 0) {Q : Int32 → Hp → Prop} (hE : ENDi X cX11_attempt .int Q NT 0 0)  (hw : wp_X11_attempt_b20  h  Q) : GG X 0 0 NT h [some (rf X 11 0), none, none] 20 [] := by
  unfold wp_X11_attempt_b20 at hw
  refine r_aload_n E 11 0 rfl dX11_attempt_20 ?_
  refine r_iconst E 1 rfl dX11_attempt_21 ?_
  refine r_callVI E (m_X11_fails (EE_st E) (GX X) 1 h _ hw) lk_X11_147 (RM_mk (Nat.le_of_ble_eq_true rfl) (Nat.le_of_ble_eq_true rfl)) rfl rfl rfl rfl (Nat.le_of_ble_eq_true rfl) (adr_lt (Nat.le_of_ble_eq_true rfl)) (Nat.le_of_ble_eq_true rfl) rfl rfl (Nat.le_of_ble_eq_true rfl) (Nat.le_of_ble_eq_true rfl) dX11_attempt_22 (fun r1 h2 hw => ?_)
  exact hE _ _ _ _ _ _ (Nat.le_of_ble_eq_true rfl) (Nat.le_of_ble_eq_true rfl) dX11_attempt_25 rfl hw
set_option maxRecDepth 20000 in
theorem m_X11_attempt {l : Launch} (hl : l.stackTraces = false) (G : Gq) (p0 : Int32) (p1 : Int32)  (h : Hp) (Q : Int32 → Hp → Prop) (hw : wp_X11_attempt p0 p1 h Q) : MI l G yX11_attempt cX11_attempt 3 (some .int) rm_X11_attempt NT NT h (fun r => [r 11 0, .int p0, .int p1]) Q := by
  refine MI_of (L0 := (fun X => [some (rf X 11 0), some (.int p0), some (.int p1)])) hl (by decide +kernel) rfl (fun _ => Nat.le_of_ble_eq_true rfl) (fun _ => rfl) fun X hXl hXG E hE => ?_
  subst hXl; subst hXG
  unfold wp_X11_attempt at hw
  refine r_aload_n E 11 0 rfl dX11_attempt_0 ?_
  refine r_iconst E 0 rfl dX11_attempt_1 ?_
  refine r_putI E fd_X11_138 rfl PI_int (Nat.le_of_ble_eq_true rfl) (adr_lt (Nat.le_of_ble_eq_true rfl)) rfl dX11_attempt_2 ?_
  refine GG_toph fun h1 hh1 => ?_
  have hw := hw h1 hh1
  refine r_iload_n E p0 rfl dX11_attempt_5 ?_
  refine r_callSI E (m_X11_isScript (EE_st E) (GX X) p0 h1 _ hw) lk_X11_293 (RM_mk (Nat.le_of_ble_eq_true rfl) (Nat.le_of_ble_eq_true rfl)) rfl rfl rfl rfl (Nat.le_of_ble_eq_true rfl) rfl rfl (Nat.le_of_ble_eq_true rfl) (Nat.le_of_ble_eq_true rfl) dX11_attempt_6 (fun r2 u9 hw => ?_)
  obtain ⟨rfl, zr2, hw⟩ := hw
  refine r_if_eq E 20 (by decide) dX11_attempt_9 (fun c3 => ?_) (fun c3 => ?_)
  · have hw := ite_t hw c3
    exact GG_weak [true, false, false] rfl (t_X11_attempt_b20 h1  E hE  hw)
  · have hw := ite_f hw c3
    refine r_aload_n E 11 0 rfl dX11_attempt_12 ?_
    refine r_iload_n E p1 rfl dX11_attempt_13 ?_
    refine r_callVI E (m_X11_isMail (EE_st E) (GX X) p1 h1 _ hw) lk_X11_165 (RM_mk (Nat.le_of_ble_eq_true rfl) (Nat.le_of_ble_eq_true rfl)) rfl rfl rfl rfl (Nat.le_of_ble_eq_true rfl) (adr_lt (Nat.le_of_ble_eq_true rfl)) (Nat.le_of_ble_eq_true rfl) rfl rfl (Nat.le_of_ble_eq_true rfl) (Nat.le_of_ble_eq_true rfl) dX11_attempt_14 (fun r4 u9 hw => ?_)
    obtain ⟨rfl, zr4, hw⟩ := hw
    refine r_if_ne E 26 (by decide) dX11_attempt_17 (fun c5 => ?_) (fun c5 => ?_)
    · have hw := ite_t hw c5
      exact GG_weak [true, false, false] rfl (t_X11_attempt_b20 h1  E hE  hw)
    · have hw := ite_f hw c5
      refine r_aload_n E 11 0 rfl dX11_attempt_26 ?_
      refine r_iload_n E p0 rfl dX11_attempt_27 ?_
      refine r_iload_n E p1 rfl dX11_attempt_28 ?_
      refine r_callVV E (m_X11_runs (EE_st E) (GX X) p0 p1 h1 _ hw) lk_X11_286 (RM_mk (Nat.le_of_ble_eq_true rfl) (Nat.le_of_ble_eq_true rfl)) rfl rfl rfl rfl (Nat.le_of_ble_eq_true rfl) (adr_lt (Nat.le_of_ble_eq_true rfl)) (Nat.le_of_ble_eq_true rfl) rfl rfl (Nat.le_of_ble_eq_true rfl) (Nat.le_of_ble_eq_true rfl) dX11_attempt_29 (fun h6 hw => ?_)
      refine r_aload_n E 11 0 rfl dX11_attempt_32 ?_
      refine r_callVI E (m_X11_keeps (EE_st E) (GX X)  h6 _ hw) lk_X11_289 (RM_mk (Nat.le_of_ble_eq_true rfl) (Nat.le_of_ble_eq_true rfl)) rfl rfl rfl rfl (Nat.le_of_ble_eq_true rfl) (adr_lt (Nat.le_of_ble_eq_true rfl)) (Nat.le_of_ble_eq_true rfl) rfl rfl (Nat.le_of_ble_eq_true rfl) (Nat.le_of_ble_eq_true rfl) dX11_attempt_33 (fun r7 h8 hw => ?_)
      exact hE _ _ _ _ _ _ (Nat.le_of_ble_eq_true rfl) (Nat.le_of_ble_eq_true rfl) dX11_attempt_36 rfl hw
set_option maxRecDepth 20000 in
theorem m_X11_done {l : Launch} (hl : l.stackTraces = false) (G : Gq)   (h : Hp) (Q : Int32 → Hp → Prop) (hw : wp_X11_done  h Q) : MI l G yX11_done cX11_done 1 (some .int) rm_X11_done NT NT h (fun r => [r 11 0]) Q := by
  refine MI_of (L0 := (fun X => [some (rf X 11 0)])) hl (by decide +kernel) rfl (fun _ => Nat.le_of_ble_eq_true rfl) (fun _ => rfl) fun X hXl hXG E hE => ?_
  subst hXl; subst hXG
  unfold wp_X11_done at hw
  refine r_aload_n E 11 0 rfl dX11_done_0 ?_
  refine r_iconst E 0 rfl dX11_done_1 ?_
  refine r_putI E fd_X11_138 rfl PI_int (Nat.le_of_ble_eq_true rfl) (adr_lt (Nat.le_of_ble_eq_true rfl)) rfl dX11_done_2 ?_
  refine GG_toph fun h1 hh1 => ?_
  have hw := hw h1 hh1
  refine r_aload_n E 11 0 rfl dX11_done_5 ?_
  refine r_getI E fd_X11_268 rfl (Nat.le_of_ble_eq_true rfl) (adr_lt (Nat.le_of_ble_eq_true rfl)) dX11_done_6 ?_
  exact hE _ _ _ _ _ _ (Nat.le_of_ble_eq_true rfl) (Nat.le_of_ble_eq_true rfl) dX11_done_9 rfl hw
set_option maxRecDepth 20000 in
theorem m_X11_doneAt {l : Launch} (hl : l.stackTraces = false) (G : Gq) (p0 : Int32)  (h : Hp) (Q : Int32 → Hp → Prop) (hw : wp_X11_doneAt p0 h Q) : MI l G yX11_doneAt cX11_doneAt 2 (some .int) rm_X11_doneAt NT NT h (fun r => [r 11 0, .int p0]) Q := by
  refine MI_of (L0 := (fun X => [some (rf X 11 0), some (.int p0)])) hl (by decide +kernel) rfl (fun _ => Nat.le_of_ble_eq_true rfl) (fun _ => rfl) fun X hXl hXG E hE => ?_
  subst hXl; subst hXG
  unfold wp_X11_doneAt at hw
  refine r_aload_n E 11 0 rfl dX11_doneAt_0 ?_
  refine r_iconst E 0 rfl dX11_doneAt_1 ?_
  refine r_putI E fd_X11_138 rfl PI_int (Nat.le_of_ble_eq_true rfl) (adr_lt (Nat.le_of_ble_eq_true rfl)) rfl dX11_doneAt_2 ?_
  refine GG_toph fun h1 hh1 => ?_
  have hw := hw h1 hh1
  refine r_iload_n E p0 rfl dX11_doneAt_5 ?_
  refine r_iconst E 0 rfl dX11_doneAt_6 ?_
  refine r_aload_n E 11 0 rfl dX11_doneAt_7 ?_
  refine r_getI E fd_X11_268 rfl (Nat.le_of_ble_eq_true rfl) (adr_lt (Nat.le_of_ble_eq_true rfl)) dX11_doneAt_8 ?_
  refine r_iconst E 1 rfl dX11_doneAt_11 ?_
  refine r_isub E dX11_doneAt_12 ?_
  refine r_callSI E (m_X11_in (EE_st E) (GX X) p0 0 ((gI h1 11 0 47) - 1) h1 _ hw) lk_X11_142 (RM_mk (Nat.le_of_ble_eq_true rfl) (Nat.le_of_ble_eq_true rfl)) rfl rfl rfl rfl (Nat.le_of_ble_eq_true rfl) rfl rfl (Nat.le_of_ble_eq_true rfl) (Nat.le_of_ble_eq_true rfl) dX11_doneAt_13 (fun r2 u9 hw => ?_)
  obtain ⟨rfl, zr2, hw⟩ := hw
  refine r_if_eq E 28 (by decide) dX11_doneAt_16 (fun c3 => ?_) (fun c3 => ?_)
  · have hw := ite_t hw c3
    refine r_aload_n E 11 0 rfl dX11_doneAt_28 ?_
    refine r_iconst E 1 rfl dX11_doneAt_29 ?_
    refine r_callVI E (m_X11_fails (EE_st E) (GX X) 1 h1 _ hw) lk_X11_147 (RM_mk (Nat.le_of_ble_eq_true rfl) (Nat.le_of_ble_eq_true rfl)) rfl rfl rfl rfl (Nat.le_of_ble_eq_true rfl) (adr_lt (Nat.le_of_ble_eq_true rfl)) (Nat.le_of_ble_eq_true rfl) rfl rfl (Nat.le_of_ble_eq_true rfl) (Nat.le_of_ble_eq_true rfl) dX11_doneAt_30 (fun r4 h5 hw => ?_)
    exact hE _ _ _ _ _ _ (Nat.le_of_ble_eq_true rfl) (Nat.le_of_ble_eq_true rfl) dX11_doneAt_33 rfl hw
  · have hw := ite_f hw c3
    refine r_aload_n E 11 0 rfl dX11_doneAt_19 ?_
    refine r_getS E fd_X11_102 (t := 0) (j1 := 63) rfl rfl rfl rfl (Nat.le_of_ble_eq_true rfl) (adr_lt (Nat.le_of_ble_eq_true rfl)) dX11_doneAt_20 ?_
    refine r_iload_n E p0 rfl dX11_doneAt_23 ?_
    obtain ⟨i6, hw⟩ := hw
    refine r_iald E rfl rfl rfl (Nat.le_of_ble_eq_true rfl) (adr_lt (Nat.le_of_ble_eq_true rfl)) i6 dX11_doneAt_24 ?_
    refine r_goto E 33 (by decide) dX11_doneAt_25 ?_
    exact hE _ _ _ _ _ _ (Nat.le_of_ble_eq_true rfl) (Nat.le_of_ble_eq_true rfl) dX11_doneAt_33 rfl hw
set_option maxRecDepth 20000 in
theorem m_X11_clashes {l : Launch} (hl : l.stackTraces = false) (G : Gq)   (h : Hp) (Q : Int32 → Hp → Prop) (hw : wp_X11_clashes  h Q) : MI l G yX11_clashes cX11_clashes 1 (some .int) rm_X11_clashes NT NT h (fun r => [r 11 0]) Q := by
  refine MI_of (L0 := (fun X => [some (rf X 11 0)])) hl (by decide +kernel) rfl (fun _ => Nat.le_of_ble_eq_true rfl) (fun _ => rfl) fun X hXl hXG E hE => ?_
  subst hXl; subst hXG
  unfold wp_X11_clashes at hw
  refine r_aload_n E 11 0 rfl dX11_clashes_0 ?_
  refine r_iconst E 0 rfl dX11_clashes_1 ?_
  refine r_putI E fd_X11_138 rfl PI_int (Nat.le_of_ble_eq_true rfl) (adr_lt (Nat.le_of_ble_eq_true rfl)) rfl dX11_clashes_2 ?_
  refine GG_toph fun h1 hh1 => ?_
  have hw := hw h1 hh1
  refine r_aload_n E 11 0 rfl dX11_clashes_5 ?_
  refine r_getI E fd_X11_271 rfl (Nat.le_of_ble_eq_true rfl) (adr_lt (Nat.le_of_ble_eq_true rfl)) dX11_clashes_6 ?_
  exact hE _ _ _ _ _ _ (Nat.le_of_ble_eq_true rfl) (Nat.le_of_ble_eq_true rfl) dX11_clashes_9 rfl hw
set_option maxRecDepth 20000 in
theorem m_X11_faults {l : Launch} (hl : l.stackTraces = false) (G : Gq) (p0 : Int32)  (h : Hp) (Q : Int32 → Hp → Prop) (hw : wp_X11_faults p0 h Q) : MI l G yX11_faults cX11_faults 2 (some .int) rm_X11_faults NT NT h (fun r => [r 11 0, .int p0]) Q := by
  refine MI_of (L0 := (fun X => [some (rf X 11 0), some (.int p0)])) hl (by decide +kernel) rfl (fun _ => Nat.le_of_ble_eq_true rfl) (fun _ => rfl) fun X hXl hXG E hE => ?_
  subst hXl; subst hXG
  unfold wp_X11_faults at hw
  refine r_aload_n E 11 0 rfl dX11_faults_0 ?_
  refine r_iconst E 0 rfl dX11_faults_1 ?_
  refine r_putI E fd_X11_138 rfl PI_int (Nat.le_of_ble_eq_true rfl) (adr_lt (Nat.le_of_ble_eq_true rfl)) rfl dX11_faults_2 ?_
  refine GG_toph fun h1 hh1 => ?_
  have hw := hw h1 hh1
  refine r_iload_n E p0 rfl dX11_faults_5 ?_
  refine r_bipush E 105 rfl dX11_faults_6 ?_
  refine r_icmp_ne E 18 (by decide) dX11_faults_8 (fun c2 => ?_) (fun c2 => ?_)
  · have hw := ite_t hw c2
    refine r_aload_n E 11 0 rfl dX11_faults_11 ?_
    refine r_getI E fd_X11_274 rfl (Nat.le_of_ble_eq_true rfl) (adr_lt (Nat.le_of_ble_eq_true rfl)) dX11_faults_12 ?_
    refine r_goto E 49 (by decide) dX11_faults_15 ?_
    exact hE _ _ _ _ _ _ (Nat.le_of_ble_eq_true rfl) (Nat.le_of_ble_eq_true rfl) dX11_faults_49 rfl hw
  · have hw := ite_f hw c2
    refine r_iload_n E p0 rfl dX11_faults_18 ?_
    refine r_bipush E 119 rfl dX11_faults_19 ?_
    refine r_icmp_ne E 31 (by decide) dX11_faults_21 (fun c3 => ?_) (fun c3 => ?_)
    · have hw := ite_t hw c3
      refine r_aload_n E 11 0 rfl dX11_faults_24 ?_
      refine r_getI E fd_X11_277 rfl (Nat.le_of_ble_eq_true rfl) (adr_lt (Nat.le_of_ble_eq_true rfl)) dX11_faults_25 ?_
      refine r_goto E 49 (by decide) dX11_faults_28 ?_
      exact hE _ _ _ _ _ _ (Nat.le_of_ble_eq_true rfl) (Nat.le_of_ble_eq_true rfl) dX11_faults_49 rfl hw
    · have hw := ite_f hw c3
      refine r_iload_n E p0 rfl dX11_faults_31 ?_
      refine r_bipush E 113 rfl dX11_faults_32 ?_
      refine r_icmp_ne E 44 (by decide) dX11_faults_34 (fun c4 => ?_) (fun c4 => ?_)
      · have hw := ite_t hw c4
        refine r_aload_n E 11 0 rfl dX11_faults_37 ?_
        refine r_getI E fd_X11_280 rfl (Nat.le_of_ble_eq_true rfl) (adr_lt (Nat.le_of_ble_eq_true rfl)) dX11_faults_38 ?_
        refine r_goto E 49 (by decide) dX11_faults_41 ?_
        exact hE _ _ _ _ _ _ (Nat.le_of_ble_eq_true rfl) (Nat.le_of_ble_eq_true rfl) dX11_faults_49 rfl hw
      · have hw := ite_f hw c4
        refine r_aload_n E 11 0 rfl dX11_faults_44 ?_
        refine r_iconst E 1 rfl dX11_faults_45 ?_
        refine r_callVI E (m_X11_fails (EE_st E) (GX X) 1 h1 _ hw) lk_X11_147 (RM_mk (Nat.le_of_ble_eq_true rfl) (Nat.le_of_ble_eq_true rfl)) rfl rfl rfl rfl (Nat.le_of_ble_eq_true rfl) (adr_lt (Nat.le_of_ble_eq_true rfl)) (Nat.le_of_ble_eq_true rfl) rfl rfl (Nat.le_of_ble_eq_true rfl) (Nat.le_of_ble_eq_true rfl) dX11_faults_46 (fun r5 h6 hw => ?_)
        exact hE _ _ _ _ _ _ (Nat.le_of_ble_eq_true rfl) (Nat.le_of_ble_eq_true rfl) dX11_faults_49 rfl hw
set_option maxRecDepth 20000 in
theorem m_X11_flags {l : Launch} (hl : l.stackTraces = false) (G : Gq)   (h : Hp) (Q : Int32 → Hp → Prop) (hw : wp_X11_flags  h Q) : MI l G yX11_flags cX11_flags 1 (some .int) rm_X11_flags NT NT h (fun r => [r 11 0]) Q := by
  refine MI_of (L0 := (fun X => [some (rf X 11 0)])) hl (by decide +kernel) rfl (fun _ => Nat.le_of_ble_eq_true rfl) (fun _ => rfl) fun X hXl hXG E hE => ?_
  subst hXl; subst hXG
  unfold wp_X11_flags at hw
  refine r_aload_n E 11 0 rfl dX11_flags_0 ?_
  refine r_iconst E 0 rfl dX11_flags_1 ?_
  refine r_putI E fd_X11_138 rfl PI_int (Nat.le_of_ble_eq_true rfl) (adr_lt (Nat.le_of_ble_eq_true rfl)) rfl dX11_flags_2 ?_
  refine GG_toph fun h1 hh1 => ?_
  have hw := hw h1 hh1
  refine r_aload_n E 11 0 rfl dX11_flags_5 ?_
  refine r_getI E fd_X11_283 rfl (Nat.le_of_ble_eq_true rfl) (adr_lt (Nat.le_of_ble_eq_true rfl)) dX11_flags_6 ?_
  exact hE _ _ _ _ _ _ (Nat.le_of_ble_eq_true rfl) (Nat.le_of_ble_eq_true rfl) dX11_flags_9 rfl hw
set_option maxRecDepth 20000 in
theorem m_X11_replies {l : Launch} (hl : l.stackTraces = false) (G : Gq) (p0 : Int32)  (h : Hp) (Q : Int32 → Hp → Prop) (hw : wp_X11_replies p0 h Q) : MI l G yX11_replies cX11_replies 2 (some .int) rm_X11_replies NT NT h (fun r => [r 11 0, .int p0]) Q := by
  refine MI_of (L0 := (fun X => [some (rf X 11 0), some (.int p0)])) hl (by decide +kernel) rfl (fun _ => Nat.le_of_ble_eq_true rfl) (fun _ => rfl) fun X hXl hXG E hE => ?_
  subst hXl; subst hXG
  unfold wp_X11_replies at hw
  refine r_aload_n E 11 0 rfl dX11_replies_0 ?_
  refine r_iconst E 0 rfl dX11_replies_1 ?_
  refine r_putI E fd_X11_138 rfl PI_int (Nat.le_of_ble_eq_true rfl) (adr_lt (Nat.le_of_ble_eq_true rfl)) rfl dX11_replies_2 ?_
  refine GG_toph fun h1 hh1 => ?_
  have hw := hw h1 hh1
  refine r_iload_n E p0 rfl dX11_replies_5 ?_
  refine r_iconst E 0 rfl dX11_replies_6 ?_
  refine r_bipush E 9 rfl dX11_replies_7 ?_
  refine r_callSI E (m_X11_in (EE_st E) (GX X) p0 0 9 h1 _ hw) lk_X11_142 (RM_mk (Nat.le_of_ble_eq_true rfl) (Nat.le_of_ble_eq_true rfl)) rfl rfl rfl rfl (Nat.le_of_ble_eq_true rfl) rfl rfl (Nat.le_of_ble_eq_true rfl) (Nat.le_of_ble_eq_true rfl) dX11_replies_9 (fun r2 u9 hw => ?_)
  obtain ⟨rfl, zr2, hw⟩ := hw
  refine r_if_eq E 24 (by decide) dX11_replies_12 (fun c3 => ?_) (fun c3 => ?_)
  · have hw := ite_t hw c3
    refine r_aload_n E 11 0 rfl dX11_replies_24 ?_
    refine r_iconst E 1 rfl dX11_replies_25 ?_
    refine r_callVI E (m_X11_fails (EE_st E) (GX X) 1 h1 _ hw) lk_X11_147 (RM_mk (Nat.le_of_ble_eq_true rfl) (Nat.le_of_ble_eq_true rfl)) rfl rfl rfl rfl (Nat.le_of_ble_eq_true rfl) (adr_lt (Nat.le_of_ble_eq_true rfl)) (Nat.le_of_ble_eq_true rfl) rfl rfl (Nat.le_of_ble_eq_true rfl) (Nat.le_of_ble_eq_true rfl) dX11_replies_26 (fun r4 h5 hw => ?_)
    exact hE _ _ _ _ _ _ (Nat.le_of_ble_eq_true rfl) (Nat.le_of_ble_eq_true rfl) dX11_replies_29 rfl hw
  · have hw := ite_f hw c3
    refine r_aload_n E 11 0 rfl dX11_replies_15 ?_
    refine r_getS E fd_X11_53 (t := 0) (j1 := 47) rfl rfl rfl rfl (Nat.le_of_ble_eq_true rfl) (adr_lt (Nat.le_of_ble_eq_true rfl)) dX11_replies_16 ?_
    refine r_iload_n E p0 rfl dX11_replies_19 ?_
    obtain ⟨i6, hw⟩ := hw
    refine r_iald E rfl rfl rfl (Nat.le_of_ble_eq_true rfl) (adr_lt (Nat.le_of_ble_eq_true rfl)) i6 dX11_replies_20 ?_
    refine r_goto E 29 (by decide) dX11_replies_21 ?_
    exact hE _ _ _ _ _ _ (Nat.le_of_ble_eq_true rfl) (Nat.le_of_ble_eq_true rfl) dX11_replies_29 rfl hw
set_option maxRecDepth 20000 in
theorem m_X11_forwarded {l : Launch} (hl : l.stackTraces = false) (G : Gq) (p0 : Int32)  (h : Hp) (Q : Int32 → Hp → Prop) (hw : wp_X11_forwarded p0 h Q) : MI l G yX11_forwarded cX11_forwarded 2 (some .int) rm_X11_forwarded NT NT h (fun r => [r 11 0, .int p0]) Q := by
  refine MI_of (L0 := (fun X => [some (rf X 11 0), some (.int p0)])) hl (by decide +kernel) rfl (fun _ => Nat.le_of_ble_eq_true rfl) (fun _ => rfl) fun X hXl hXG E hE => ?_
  subst hXl; subst hXG
  unfold wp_X11_forwarded at hw
  refine r_aload_n E 11 0 rfl dX11_forwarded_0 ?_
  refine r_iconst E 0 rfl dX11_forwarded_1 ?_
  refine r_putI E fd_X11_138 rfl PI_int (Nat.le_of_ble_eq_true rfl) (adr_lt (Nat.le_of_ble_eq_true rfl)) rfl dX11_forwarded_2 ?_
  refine GG_toph fun h1 hh1 => ?_
  have hw := hw h1 hh1
  refine r_iload_n E p0 rfl dX11_forwarded_5 ?_
  refine r_iconst E 0 rfl dX11_forwarded_6 ?_
  refine r_bipush E 9 rfl dX11_forwarded_7 ?_
  refine r_callSI E (m_X11_in (EE_st E) (GX X) p0 0 9 h1 _ hw) lk_X11_142 (RM_mk (Nat.le_of_ble_eq_true rfl) (Nat.le_of_ble_eq_true rfl)) rfl rfl rfl rfl (Nat.le_of_ble_eq_true rfl) rfl rfl (Nat.le_of_ble_eq_true rfl) (Nat.le_of_ble_eq_true rfl) dX11_forwarded_9 (fun r2 u9 hw => ?_)
  obtain ⟨rfl, zr2, hw⟩ := hw
  refine r_if_eq E 24 (by decide) dX11_forwarded_12 (fun c3 => ?_) (fun c3 => ?_)
  · have hw := ite_t hw c3
    refine r_aload_n E 11 0 rfl dX11_forwarded_24 ?_
    refine r_iconst E 1 rfl dX11_forwarded_25 ?_
    refine r_callVI E (m_X11_fails (EE_st E) (GX X) 1 h1 _ hw) lk_X11_147 (RM_mk (Nat.le_of_ble_eq_true rfl) (Nat.le_of_ble_eq_true rfl)) rfl rfl rfl rfl (Nat.le_of_ble_eq_true rfl) (adr_lt (Nat.le_of_ble_eq_true rfl)) (Nat.le_of_ble_eq_true rfl) rfl rfl (Nat.le_of_ble_eq_true rfl) (Nat.le_of_ble_eq_true rfl) dX11_forwarded_26 (fun r4 h5 hw => ?_)
    exact hE _ _ _ _ _ _ (Nat.le_of_ble_eq_true rfl) (Nat.le_of_ble_eq_true rfl) dX11_forwarded_29 rfl hw
  · have hw := ite_f hw c3
    refine r_aload_n E 11 0 rfl dX11_forwarded_15 ?_
    refine r_getS E fd_X11_56 (t := 0) (j1 := 48) rfl rfl rfl rfl (Nat.le_of_ble_eq_true rfl) (adr_lt (Nat.le_of_ble_eq_true rfl)) dX11_forwarded_16 ?_
    refine r_iload_n E p0 rfl dX11_forwarded_19 ?_
    obtain ⟨i6, hw⟩ := hw
    refine r_iald E rfl rfl rfl (Nat.le_of_ble_eq_true rfl) (adr_lt (Nat.le_of_ble_eq_true rfl)) i6 dX11_forwarded_20 ?_
    refine r_goto E 29 (by decide) dX11_forwarded_21 ?_
    exact hE _ _ _ _ _ _ (Nat.le_of_ble_eq_true rfl) (Nat.le_of_ble_eq_true rfl) dX11_forwarded_29 rfl hw
set_option maxRecDepth 20000 in
theorem t_X11_difference_b19 {X : Ctx} (h : Hp)   (E : EE X cX11_difference RX11 6 7 168 0 0) {Q : Int32 → Hp → Prop} (hE : ENDi X cX11_difference .int Q NT 0 0)  (hw : wp_X11_difference_b19  h  Q) : GG X 0 0 NT h [some (rf X 11 0), none, none, none, none, none] 19 [] := by
  unfold wp_X11_difference_b19 at hw
  refine r_aload_n E 11 0 rfl dX11_difference_19 ?_
  refine r_iconst E 1 rfl dX11_difference_20 ?_
  refine r_callVI E (m_X11_fails (EE_st E) (GX X) 1 h _ hw) lk_X11_147 (RM_mk (Nat.le_of_ble_eq_true rfl) (Nat.le_of_ble_eq_true rfl)) rfl rfl rfl rfl (Nat.le_of_ble_eq_true rfl) (adr_lt (Nat.le_of_ble_eq_true rfl)) (Nat.le_of_ble_eq_true rfl) rfl rfl (Nat.le_of_ble_eq_true rfl) (Nat.le_of_ble_eq_true rfl) dX11_difference_21 (fun r1 h2 hw => ?_)
  exact hE _ _ _ _ _ _ (Nat.le_of_ble_eq_true rfl) (Nat.le_of_ble_eq_true rfl) dX11_difference_24 rfl hw
set_option maxRecDepth 20000 in
theorem t_X11_difference_b90 {X : Ctx} (h : Hp) (x1 : Int32) (x2 : Int32) (x4 : Int32) (s0 : Int32) (s1 : Int32)  (E : EE X cX11_difference RX11 6 7 168 0 0) {Q : Int32 → Hp → Prop} (hE : ENDi X cX11_difference .int Q NT 0 0) (P30 : Int32 → Int32 → Hp → Prop) (hP30 : ∀ (y3 : Int32) (y4 : Int32) (u : Hp), P30 y3 y4 u → GG X 0 0 NT u [some (rf X 11 0), some (.int x1), some (.int x2), some (.int y3), some (.int y4), none] 30 []) (hw : wp_X11_difference_b90 x1 x2 x4 s0 s1 h P30 Q) : GG X 0 0 NT h [some (rf X 11 0), some (.int x1), some (.int x2), none, some (.int x4), none] 90 [.int s1, .int s0] := by
  unfold wp_X11_difference_b90 at hw
  refine r_iadd E dX11_difference_90 ?_
  refine GG_topI fun v1 hv1 => ?_
  have hw := hw v1 hv1
  refine r_istore_n E [some (rf X 11 0), some (.int x1), some (.int x2), some (.int v1), some (.int x4), none] rfl (Nat.le_of_ble_eq_true rfl) rfl dX11_difference_91 ?_
  obtain ⟨v2, hv2⟩ : ∃ y : Int32, y = x4 + 1 := ⟨_, rfl⟩
  have hw := hw v2 hv2
  refine r_iinc E x4 v2 [some (rf X 11 0), some (.int x1), some (.int x2), some (.int v1), some (.int v2), none] rfl (by rw [hv2]; rfl) (Nat.le_of_ble_eq_true rfl) rfl dX11_difference_92 ?_
  refine r_goto E 30 (by decide) dX11_difference_95 ?_
  exact GG_weak [true, true, true, true, true, false] rfl (hP30 _ _ _ hw)
set_option maxRecDepth 20000 in
theorem t_X11_difference_b30F {X : Ctx} (h : Hp) (x1 : Int32) (x2 : Int32) (x3 : Int32) (x4 : Int32)  (E : EE X cX11_difference RX11 6 7 168 0 0) {Q : Int32 → Hp → Prop} (hE : ENDi X cX11_difference .int Q NT 0 0)  (P30 : Int32 → Int32 → Hp → Prop) (hP30 : ∀ (y3 : Int32) (y4 : Int32) (u : Hp), P30 y3 y4 u → GG X 0 0 NT u [some (rf X 11 0), some (.int x1), some (.int x2), some (.int y3), some (.int y4), none] 30 []) (hw : wp_X11_difference_b30F x1 x2   Q P30 x3 x4 h) : GG X 0 0 NT h [some (rf X 11 0), some (.int x1), some (.int x2), some (.int x3), some (.int x4), none] 30 [] := by
  unfold wp_X11_difference_b30F at hw
  refine r_iload E x4 rfl dX11_difference_30 ?_
  refine r_aload_n E 11 0 rfl dX11_difference_32 ?_
  refine r_getI E fd_X11_151 rfl (Nat.le_of_ble_eq_true rfl) (adr_lt (Nat.le_of_ble_eq_true rfl)) dX11_difference_33 ?_
  refine r_icmp_ge E 98 (by decide) dX11_difference_36 (fun c1 => ?_) (fun c1 => ?_)
  · have hw := ite_t hw c1
    refine r_iload_n E x3 rfl dX11_difference_98 ?_
    exact hE _ _ _ _ _ _ (Nat.le_of_ble_eq_true rfl) (Nat.le_of_ble_eq_true rfl) dX11_difference_99 rfl hw
  · have hw := ite_f hw c1
    refine r_aload_n E 11 0 rfl dX11_difference_39 ?_
    refine r_iload_n E x1 rfl dX11_difference_40 ?_
    refine r_iload E x4 rfl dX11_difference_41 ?_
    refine r_callVV E (m_X11_runs (EE_st E) (GX X) x1 x4 h _ hw) lk_X11_286 (RM_mk (Nat.le_of_ble_eq_true rfl) (Nat.le_of_ble_eq_true rfl)) rfl rfl rfl rfl (Nat.le_of_ble_eq_true rfl) (adr_lt (Nat.le_of_ble_eq_true rfl)) (Nat.le_of_ble_eq_true rfl) rfl rfl (Nat.le_of_ble_eq_true rfl) (Nat.le_of_ble_eq_true rfl) dX11_difference_43 (fun h2 hw => ?_)
    refine r_bipush E 10 rfl dX11_difference_46 ?_
    refine r_aload_n E 11 0 rfl dX11_difference_48 ?_
    refine r_getI E fd_X11_252 rfl (Nat.le_of_ble_eq_true rfl) (adr_lt (Nat.le_of_ble_eq_true rfl)) dX11_difference_49 ?_
    refine r_imul E dX11_difference_52 ?_
    refine r_aload_n E 11 0 rfl dX11_difference_53 ?_
    refine r_getI E fd_X11_265 rfl (Nat.le_of_ble_eq_true rfl) (adr_lt (Nat.le_of_ble_eq_true rfl)) dX11_difference_54 ?_
    refine r_iadd E dX11_difference_57 ?_
    refine GG_topI fun v3 hv3 => ?_
    have hw := hw v3 hv3
    refine r_istore E [some (rf X 11 0), some (.int x1), some (.int x2), some (.int x3), some (.int x4), some (.int v3)] (Nat.le_of_ble_eq_true rfl) rfl dX11_difference_58 ?_
    refine r_aload_n E 11 0 rfl dX11_difference_60 ?_
    refine r_iload_n E x2 rfl dX11_difference_61 ?_
    refine r_iload E x4 rfl dX11_difference_62 ?_
    refine r_callVV E (m_X11_runs (EE_st E) (GX X) x2 x4 h2 _ hw) lk_X11_286 (RM_mk (Nat.le_of_ble_eq_true rfl) (Nat.le_of_ble_eq_true rfl)) rfl rfl rfl rfl (Nat.le_of_ble_eq_true rfl) (adr_lt (Nat.le_of_ble_eq_true rfl)) (Nat.le_of_ble_eq_true rfl) rfl rfl (Nat.le_of_ble_eq_true rfl) (Nat.le_of_ble_eq_true rfl) dX11_difference_64 (fun h4 hw => ?_)
    refine r_iload_n E x3 rfl dX11_difference_67 ?_
    refine r_iload E v3 rfl dX11_difference_68 ?_
    refine r_bipush E 10 rfl dX11_difference_70 ?_
    refine r_aload_n E 11 0 rfl dX11_difference_72 ?_
    refine r_getI E fd_X11_252 rfl (Nat.le_of_ble_eq_true rfl) (adr_lt (Nat.le_of_ble_eq_true rfl)) dX11_difference_73 ?_
    refine r_imul E dX11_difference_76 ?_
    refine r_aload_n E 11 0 rfl dX11_difference_77 ?_
    refine r_getI E fd_X11_265 rfl (Nat.le_of_ble_eq_true rfl) (adr_lt (Nat.le_of_ble_eq_true rfl)) dX11_difference_78 ?_
    refine r_iadd E dX11_difference_81 ?_
    refine r_icmp_eq E 89 (by decide) dX11_difference_82 (fun c5 => ?_) (fun c5 => ?_)
    · have hw := ite_t hw c5
      refine r_iconst E 0 rfl dX11_difference_89 ?_
      exact GG_weak [true, true, true, false, true, false] rfl (t_X11_difference_b90 h4 x1 x2 x4 x3 0 E hE P30 hP30  hw)
    · have hw := ite_f hw c5
      refine r_iconst E 1 rfl dX11_difference_85 ?_
      refine r_goto E 90 (by decide) dX11_difference_86 ?_
      exact GG_weak [true, true, true, false, true, false] rfl (t_X11_difference_b90 h4 x1 x2 x4 x3 1 E hE P30 hP30  hw)
set_option maxRecDepth 20000 in
theorem t_X11_difference_b30 {X : Ctx} (h : Hp) (x1 : Int32) (x2 : Int32) (x3 : Int32) (x4 : Int32)  (E : EE X cX11_difference RX11 6 7 168 0 0) {Q : Int32 → Hp → Prop} (hE : ENDi X cX11_difference .int Q NT 0 0)  (hw : wp_X11_difference_b30 x1 x2 x3 x4 h  Q) : GG X 0 0 NT h [some (rf X 11 0), some (.int x1), some (.int x2), some (.int x3), some (.int x4), none] 30 [] :=
  hw (fun y3 y4 u => GG X 0 0 NT u [some (rf X 11 0), some (.int x1), some (.int x2), some (.int y3), some (.int y4), none] 30 []) (fun y3 y4 u hq => t_X11_difference_b30F u x1 x2 y3 y4  E hE  (fun y3 y4 u => GG X 0 0 NT u [some (rf X 11 0), some (.int x1), some (.int x2), some (.int y3), some (.int y4), none] 30 []) (fun y3 y4 u q => q) hq)
set_option maxRecDepth 20000 in
theorem m_X11_difference {l : Launch} (hl : l.stackTraces = false) (G : Gq) (p0 : Int32) (p1 : Int32)  (h : Hp) (Q : Int32 → Hp → Prop) (hw : wp_X11_difference p0 p1 h Q) : MI l G yX11_difference cX11_difference 6 (some .int) rm_X11_difference NT NT h (fun r => [r 11 0, .int p0, .int p1]) Q := by
  refine MI_of (L0 := (fun X => [some (rf X 11 0), some (.int p0), some (.int p1), none, none, none])) hl (by decide +kernel) rfl (fun _ => Nat.le_of_ble_eq_true rfl) (fun _ => rfl) fun X hXl hXG E hE => ?_
  subst hXl; subst hXG
  unfold wp_X11_difference at hw
  refine r_aload_n E 11 0 rfl dX11_difference_0 ?_
  refine r_iconst E 0 rfl dX11_difference_1 ?_
  refine r_putI E fd_X11_138 rfl PI_int (Nat.le_of_ble_eq_true rfl) (adr_lt (Nat.le_of_ble_eq_true rfl)) rfl dX11_difference_2 ?_
  refine GG_toph fun h1 hh1 => ?_
  have hw := hw h1 hh1
  refine r_iload_n E p0 rfl dX11_difference_5 ?_
  refine r_callSI E (m_X11_isScript (EE_st E) (GX X) p0 h1 _ hw) lk_X11_293 (RM_mk (Nat.le_of_ble_eq_true rfl) (Nat.le_of_ble_eq_true rfl)) rfl rfl rfl rfl (Nat.le_of_ble_eq_true rfl) rfl rfl (Nat.le_of_ble_eq_true rfl) (Nat.le_of_ble_eq_true rfl) dX11_difference_6 (fun r2 u9 hw => ?_)
  obtain ⟨rfl, zr2, hw⟩ := hw
  refine r_if_eq E 19 (by decide) dX11_difference_9 (fun c3 => ?_) (fun c3 => ?_)
  · have hw := ite_t hw c3
    exact GG_weak [true, false, false, false, false, false] rfl (t_X11_difference_b19 h1  E hE  hw)
  · have hw := ite_f hw c3
    refine r_iload_n E p1 rfl dX11_difference_12 ?_
    refine r_callSI E (m_X11_isScript (EE_st E) (GX X) p1 h1 _ hw) lk_X11_293 (RM_mk (Nat.le_of_ble_eq_true rfl) (Nat.le_of_ble_eq_true rfl)) rfl rfl rfl rfl (Nat.le_of_ble_eq_true rfl) rfl rfl (Nat.le_of_ble_eq_true rfl) (Nat.le_of_ble_eq_true rfl) dX11_difference_13 (fun r4 u9 hw => ?_)
    obtain ⟨rfl, zr4, hw⟩ := hw
    refine r_if_ne E 25 (by decide) dX11_difference_16 (fun c5 => ?_) (fun c5 => ?_)
    · have hw := ite_t hw c5
      exact GG_weak [true, false, false, false, false, false] rfl (t_X11_difference_b19 h1  E hE  hw)
    · have hw := ite_f hw c5
      refine r_iconst E 0 rfl dX11_difference_25 ?_
      refine r_istore_n E [some (rf X 11 0), some (.int p0), some (.int p1), some (.int 0), none, none] rfl (Nat.le_of_ble_eq_true rfl) rfl dX11_difference_26 ?_
      refine r_iconst E 0 rfl dX11_difference_27 ?_
      refine r_istore E [some (rf X 11 0), some (.int p0), some (.int p1), some (.int 0), some (.int 0), none] (Nat.le_of_ble_eq_true rfl) rfl dX11_difference_28 ?_
      exact GG_weak [true, true, true, true, true, false] rfl (t_X11_difference_b30 h1 p0 p1 0 0 E hE  hw)
set_option maxRecDepth 20000 in
theorem m_X11_uses {l : Launch} (hl : l.stackTraces = false) (G : Gq) (p0 : Int32)  (h : Hp) (Q : Hp → Prop) (hw : wp_X11_uses p0 h Q) : MV l G yX11_uses cX11_uses 2 none rm_X11_uses NT NT h (fun r => [r 11 0, .int p0]) Q := by
  refine MV_of (L0 := (fun X => [some (rf X 11 0), some (.int p0)])) hl (by decide +kernel) rfl (fun _ => Nat.le_of_ble_eq_true rfl) (fun _ => rfl) fun X hXl hXG E hE => ?_
  subst hXl; subst hXG
  unfold wp_X11_uses at hw
  refine r_aload_n E 11 0 rfl dX11_uses_0 ?_
  refine r_getS E fd_X11_108 (t := 0) (j1 := 65) rfl rfl rfl rfl (Nat.le_of_ble_eq_true rfl) (adr_lt (Nat.le_of_ble_eq_true rfl)) dX11_uses_1 ?_
  refine r_iload_n E p0 rfl dX11_uses_4 ?_
  refine r_iconst E 1 rfl dX11_uses_5 ?_
  obtain ⟨i1, hw⟩ := hw
  refine r_zast E rfl rfl rfl (Nat.le_of_ble_eq_true rfl) (adr_lt (Nat.le_of_ble_eq_true rfl)) i1 rfl dX11_uses_6 ?_
  refine GG_toph fun h2 hh2 => ?_
  have hw := hw h2 hh2
  exact hE _ _ _ _ _ (Nat.le_of_ble_eq_true rfl) (Nat.le_of_ble_eq_true rfl) dX11_uses_7 hw
set_option maxRecDepth 20000 in
theorem t_X11_needs_b35 {X : Ctx} (h : Hp) (s1 : Int32)  (E : EE X cX11_needs RX11 5 2 45 0 0) {Q : Hp → Prop} (hE : ENDv X cX11_needs Q NT 0 0)  (hw : wp_X11_needs_b35 s1 h  Q) : GG X 0 0 NT h [none, none, none, none, none] 35 [.int s1, rf X 68 0] := by
  unfold wp_X11_needs_b35 at hw
  refine r_iconst E 1 rfl dX11_needs_35 ?_
  obtain ⟨i1, hw⟩ := hw
  refine r_zast E rfl rfl rfl (Nat.le_of_ble_eq_true rfl) (adr_lt (Nat.le_of_ble_eq_true rfl)) i1 rfl dX11_needs_36 ?_
  refine GG_toph fun h2 hh2 => ?_
  have hw := hw h2 hh2
  refine r_goto E 199 (by decide) dX11_needs_37 ?_
  exact hE _ _ _ _ _ (Nat.le_of_ble_eq_true rfl) (Nat.le_of_ble_eq_true rfl) dX11_needs_199 hw
set_option maxRecDepth 20000 in
theorem t_X11_needs_b13 {X : Ctx} (h : Hp) (x1 : Int32) (x2 : Int32) (x3 : Int32)  (E : EE X cX11_needs RX11 5 2 45 0 0) {Q : Hp → Prop} (hE : ENDv X cX11_needs Q NT 0 0)  (hw : wp_X11_needs_b13 x1 x2 x3 h  Q) : GG X 0 0 NT h [some (rf X 11 0), some (.int x1), some (.int x2), some (.int x3), none] 13 [] := by
  unfold wp_X11_needs_b13 at hw
  refine r_aload_n E 11 0 rfl dX11_needs_13 ?_
  refine r_getS E fd_X11_117 (t := 0) (j1 := 68) rfl rfl rfl rfl (Nat.le_of_ble_eq_true rfl) (adr_lt (Nat.le_of_ble_eq_true rfl)) dX11_needs_14 ?_
  refine r_iload_n E x2 rfl dX11_needs_17 ?_
  refine r_iconst E 1 rfl dX11_needs_18 ?_
  obtain ⟨i1, hw⟩ := hw
  refine r_zast E rfl rfl rfl (Nat.le_of_ble_eq_true rfl) (adr_lt (Nat.le_of_ble_eq_true rfl)) i1 rfl dX11_needs_19 ?_
  refine GG_toph fun h2 hh2 => ?_
  have hw := hw h2 hh2
  refine r_aload_n E 11 0 rfl dX11_needs_20 ?_
  refine r_getS E fd_X11_117 (t := 0) (j1 := 68) rfl rfl rfl rfl (Nat.le_of_ble_eq_true rfl) (adr_lt (Nat.le_of_ble_eq_true rfl)) dX11_needs_21 ?_
  refine r_iload_n E x1 rfl dX11_needs_24 ?_
  refine r_bipush E 33 rfl dX11_needs_25 ?_
  refine r_icmp_ne E 34 (by decide) dX11_needs_27 (fun c3 => ?_) (fun c3 => ?_)
  · have hw := ite_t hw c3
    refine r_iload_n E x2 rfl dX11_needs_30 ?_
    refine r_goto E 35 (by decide) dX11_needs_31 ?_
    exact GG_weak [false, false, false, false, false] rfl (t_X11_needs_b35 h2 x2 E hE  hw)
  · have hw := ite_f hw c3
    refine r_iload_n E x3 rfl dX11_needs_34 ?_
    exact GG_weak [false, false, false, false, false] rfl (t_X11_needs_b35 h2 x3 E hE  hw)
set_option maxRecDepth 20000 in
theorem t_X11_needs_b52 {X : Ctx} (h : Hp) (x1 : Int32)  (E : EE X cX11_needs RX11 5 2 45 0 0) {Q : Hp → Prop} (hE : ENDv X cX11_needs Q NT 0 0)  (hw : wp_X11_needs_b52 x1 h  Q) : GG X 0 0 NT h [some (rf X 11 0), some (.int x1), none, none, none] 52 [] := by
  unfold wp_X11_needs_b52 at hw
  refine r_aload_n E 11 0 rfl dX11_needs_52 ?_
  refine r_iload_n E x1 rfl dX11_needs_53 ?_
  refine r_bipush E 102 rfl dX11_needs_54 ?_
  refine r_icmp_ne E 63 (by decide) dX11_needs_56 (fun c1 => ?_) (fun c1 => ?_)
  · have hw := ite_t hw c1
    refine r_iconst E 0 rfl dX11_needs_59 ?_
    refine r_goto E 64 (by decide) dX11_needs_60 ?_
    refine r_callVV E (m_X11_uses (EE_st E) (GX X) 0 h _ hw) lk_X11_306 (RM_mk (Nat.le_of_ble_eq_true rfl) (Nat.le_of_ble_eq_true rfl)) rfl rfl rfl rfl (Nat.le_of_ble_eq_true rfl) (adr_lt (Nat.le_of_ble_eq_true rfl)) (Nat.le_of_ble_eq_true rfl) rfl rfl (Nat.le_of_ble_eq_true rfl) (Nat.le_of_ble_eq_true rfl) dX11_needs_64 (fun h2 hw => ?_)
    refine r_goto E 199 (by decide) dX11_needs_67 ?_
    exact hE _ _ _ _ _ (Nat.le_of_ble_eq_true rfl) (Nat.le_of_ble_eq_true rfl) dX11_needs_199 hw
  · have hw := ite_f hw c1
    refine r_iconst E 1 rfl dX11_needs_63 ?_
    refine r_callVV E (m_X11_uses (EE_st E) (GX X) 1 h _ hw) lk_X11_306 (RM_mk (Nat.le_of_ble_eq_true rfl) (Nat.le_of_ble_eq_true rfl)) rfl rfl rfl rfl (Nat.le_of_ble_eq_true rfl) (adr_lt (Nat.le_of_ble_eq_true rfl)) (Nat.le_of_ble_eq_true rfl) rfl rfl (Nat.le_of_ble_eq_true rfl) (Nat.le_of_ble_eq_true rfl) dX11_needs_64 (fun h3 hw => ?_)
    refine r_goto E 199 (by decide) dX11_needs_67 ?_
    exact hE _ _ _ _ _ (Nat.le_of_ble_eq_true rfl) (Nat.le_of_ble_eq_true rfl) dX11_needs_199 hw
set_option maxRecDepth 20000 in
theorem t_X11_needs_b161 {X : Ctx} (h : Hp) (x2 : Int32) (s1 : Int32)  (E : EE X cX11_needs RX11 5 2 45 0 0) {Q : Hp → Prop} (hE : ENDv X cX11_needs Q NT 0 0)  (hw : wp_X11_needs_b161 x2 s1 h  Q) : GG X 0 0 NT h [none, none, some (.int x2), none, none] 161 [.int s1, rf X 11 0] := by
  unfold wp_X11_needs_b161 at hw
  refine r_iload_n E x2 rfl dX11_needs_161 ?_
  refine r_iadd E dX11_needs_162 ?_
  refine r_callVV E (m_X11_uses (EE_st E) (GX X) (s1 + x2) h _ hw) lk_X11_306 (RM_mk (Nat.le_of_ble_eq_true rfl) (Nat.le_of_ble_eq_true rfl)) rfl rfl rfl rfl (Nat.le_of_ble_eq_true rfl) (adr_lt (Nat.le_of_ble_eq_true rfl)) (Nat.le_of_ble_eq_true rfl) rfl rfl (Nat.le_of_ble_eq_true rfl) (Nat.le_of_ble_eq_true rfl) dX11_needs_163 (fun h1 hw => ?_)
  refine r_goto E 199 (by decide) dX11_needs_166 ?_
  exact hE _ _ _ _ _ (Nat.le_of_ble_eq_true rfl) (Nat.le_of_ble_eq_true rfl) dX11_needs_199 hw
set_option maxRecDepth 20000 in
theorem t_X11_needs_b147 {X : Ctx} (h : Hp) (x1 : Int32) (x2 : Int32)  (E : EE X cX11_needs RX11 5 2 45 0 0) {Q : Hp → Prop} (hE : ENDv X cX11_needs Q NT 0 0)  (hw : wp_X11_needs_b147 x1 x2 h  Q) : GG X 0 0 NT h [some (rf X 11 0), some (.int x1), some (.int x2), none, none] 147 [] := by
  unfold wp_X11_needs_b147 at hw
  refine r_aload_n E 11 0 rfl dX11_needs_147 ?_
  refine r_iload_n E x1 rfl dX11_needs_148 ?_
  refine r_bipush E 115 rfl dX11_needs_149 ?_
  refine r_icmp_ne E 159 (by decide) dX11_needs_151 (fun c1 => ?_) (fun c1 => ?_)
  · have hw := ite_t hw c1
    refine r_bipush E 13 rfl dX11_needs_154 ?_
    refine r_goto E 161 (by decide) dX11_needs_156 ?_
    exact GG_weak [false, false, true, false, false] rfl (t_X11_needs_b161 h x2 13 E hE  hw)
  · have hw := ite_f hw c1
    refine r_bipush E 29 rfl dX11_needs_159 ?_
    exact GG_weak [false, false, true, false, false] rfl (t_X11_needs_b161 h x2 29 E hE  hw)
set_option maxRecDepth 20000 in
theorem t_X11_needs_b178F {X : Ctx} (h : Hp) (x4 : Int32)  (E : EE X cX11_needs RX11 5 2 45 0 0) {Q : Hp → Prop} (hE : ENDv X cX11_needs Q NT 0 0)  (P178 : Int32 → Hp → Prop) (hP178 : ∀ (y4 : Int32) (u : Hp), P178 y4 u → GG X 0 0 NT u [some (rf X 11 0), none, none, none, some (.int y4)] 178 []) (hw : wp_X11_needs_b178F    Q P178 x4 h) : GG X 0 0 NT h [some (rf X 11 0), none, none, none, some (.int x4)] 178 [] := by
  unfold wp_X11_needs_b178F at hw
  refine r_iload E x4 rfl dX11_needs_178 ?_
  refine r_bipush E 10 rfl dX11_needs_180 ?_
  refine r_icmp_ge E 199 (by decide) dX11_needs_182 (fun c1 => ?_) (fun c1 => ?_)
  · have hw := ite_t hw c1
    exact hE _ _ _ _ _ (Nat.le_of_ble_eq_true rfl) (Nat.le_of_ble_eq_true rfl) dX11_needs_199 hw
  · have hw := ite_f hw c1
    refine r_aload_n E 11 0 rfl dX11_needs_185 ?_
    refine r_iconst E 3 rfl dX11_needs_186 ?_
    refine r_iload E x4 rfl dX11_needs_187 ?_
    refine r_iadd E dX11_needs_189 ?_
    refine r_callVV E (m_X11_uses (EE_st E) (GX X) (3 + x4) h _ hw) lk_X11_306 (RM_mk (Nat.le_of_ble_eq_true rfl) (Nat.le_of_ble_eq_true rfl)) rfl rfl rfl rfl (Nat.le_of_ble_eq_true rfl) (adr_lt (Nat.le_of_ble_eq_true rfl)) (Nat.le_of_ble_eq_true rfl) rfl rfl (Nat.le_of_ble_eq_true rfl) (Nat.le_of_ble_eq_true rfl) dX11_needs_190 (fun h2 hw => ?_)
    obtain ⟨v3, hv3⟩ : ∃ y : Int32, y = x4 + 1 := ⟨_, rfl⟩
    have hw := hw v3 hv3
    refine r_iinc E x4 v3 [some (rf X 11 0), none, none, none, some (.int v3)] rfl (by rw [hv3]; rfl) (Nat.le_of_ble_eq_true rfl) rfl dX11_needs_193 ?_
    refine r_goto E 178 (by decide) dX11_needs_196 ?_
    exact GG_weak [true, false, false, false, true] rfl (hP178 _ _ hw)
set_option maxRecDepth 20000 in
theorem t_X11_needs_b178 {X : Ctx} (h : Hp) (x4 : Int32)  (E : EE X cX11_needs RX11 5 2 45 0 0) {Q : Hp → Prop} (hE : ENDv X cX11_needs Q NT 0 0)  (hw : wp_X11_needs_b178 x4 h  Q) : GG X 0 0 NT h [some (rf X 11 0), none, none, none, some (.int x4)] 178 [] :=
  hw (fun y4 u => GG X 0 0 NT u [some (rf X 11 0), none, none, none, some (.int y4)] 178 []) (fun y4 u hq => t_X11_needs_b178F u y4  E hE  (fun y4 u => GG X 0 0 NT u [some (rf X 11 0), none, none, none, some (.int y4)] 178 []) (fun y4 u q => q) hq)
set_option maxRecDepth 20000 in
theorem t_X11_needs_b105 {X : Ctx} (h : Hp) (s1 : Int32) (s2 : Int32)  (E : EE X cX11_needs RX11 5 2 45 0 0) {Q : Hp → Prop} (hE : ENDv X cX11_needs Q NT 0 0)  (hw : wp_X11_needs_b105 s1 s2 h  Q) : GG X 0 0 NT h [some (rf X 11 0), none, none, none, none] 105 [.int s2, .int s1, rf X 71 0] := by
  unfold wp_X11_needs_b105 at hw
  obtain ⟨i1, hw⟩ := hw
  refine r_iast E rfl rfl rfl (Nat.le_of_ble_eq_true rfl) (adr_lt (Nat.le_of_ble_eq_true rfl)) i1 dX11_needs_105 ?_
  refine GG_toph fun h2 hh2 => ?_
  have hw := hw h2 hh2
  refine r_aload_n E 11 0 rfl dX11_needs_106 ?_
  refine r_dup E rfl dX11_needs_107 ?_
  refine r_getI E fd_X11_296 rfl (Nat.le_of_ble_eq_true rfl) (adr_lt (Nat.le_of_ble_eq_true rfl)) dX11_needs_108 ?_
  refine r_iconst E 1 rfl dX11_needs_111 ?_
  refine r_iadd E dX11_needs_112 ?_
  refine r_putI E fd_X11_296 rfl PI_int (Nat.le_of_ble_eq_true rfl) (adr_lt (Nat.le_of_ble_eq_true rfl)) rfl dX11_needs_113 ?_
  refine GG_toph fun h3 hh3 => ?_
  have hw := hw h3 hh3
  refine r_goto E 199 (by decide) dX11_needs_116 ?_
  exact hE _ _ _ _ _ (Nat.le_of_ble_eq_true rfl) (Nat.le_of_ble_eq_true rfl) dX11_needs_199 hw
set_option maxRecDepth 20000 in
theorem m_X11_needs {l : Launch} (hl : l.stackTraces = false) (G : Gq) (p0 : Int32) (p1 : Int32) (p2 : Int32)  (h : Hp) (Q : Hp → Prop) (hw : wp_X11_needs p0 p1 p2 h Q) : MV l G yX11_needs cX11_needs 5 none rm_X11_needs NT NT h (fun r => [r 11 0, .int p0, .int p1, .int p2]) Q := by
  refine MV_of (L0 := (fun X => [some (rf X 11 0), some (.int p0), some (.int p1), some (.int p2), none])) hl (by decide +kernel) rfl (fun _ => Nat.le_of_ble_eq_true rfl) (fun _ => rfl) fun X hXl hXG E hE => ?_
  subst hXl; subst hXG
  unfold wp_X11_needs at hw
  refine r_iload_n E p0 rfl dX11_needs_0 ?_
  refine r_bipush E 33 rfl dX11_needs_1 ?_
  refine r_icmp_eq E 13 (by decide) dX11_needs_3 (fun c1 => ?_) (fun c1 => ?_)
  · have hw := ite_t hw c1
    exact GG_weak [true, true, true, true, false] rfl (t_X11_needs_b13 h p0 p1 p2 E hE  hw)
  · have hw := ite_f hw c1
    refine r_iload_n E p0 rfl dX11_needs_6 ?_
    refine r_callSI E (m_X11_isPair (EE_st E) (GX X) p0 h _ hw) lk_X11_169 (RM_mk (Nat.le_of_ble_eq_true rfl) (Nat.le_of_ble_eq_true rfl)) rfl rfl rfl rfl (Nat.le_of_ble_eq_true rfl) rfl rfl (Nat.le_of_ble_eq_true rfl) (Nat.le_of_ble_eq_true rfl) dX11_needs_7 (fun r2 u9 hw => ?_)
    obtain ⟨rfl, zr2, hw⟩ := hw
    refine r_if_eq E 40 (by decide) dX11_needs_10 (fun c3 => ?_) (fun c3 => ?_)
    · have hw := ite_t hw c3
      refine r_iload_n E p0 rfl dX11_needs_40 ?_
      refine r_bipush E 102 rfl dX11_needs_41 ?_
      refine r_icmp_eq E 52 (by decide) dX11_needs_43 (fun c4 => ?_) (fun c4 => ?_)
      · have hw := ite_t hw c4
        exact GG_weak [true, true, false, false, false] rfl (t_X11_needs_b52 h p0 E hE  hw)
      · have hw := ite_f hw c4
        refine r_iload_n E p0 rfl dX11_needs_46 ?_
        refine r_bipush E 100 rfl dX11_needs_47 ?_
        refine r_icmp_ne E 70 (by decide) dX11_needs_49 (fun c5 => ?_) (fun c5 => ?_)
        · have hw := ite_t hw c5
          exact GG_weak [true, true, false, false, false] rfl (t_X11_needs_b52 h p0 E hE  hw)
        · have hw := ite_f hw c5
          refine r_iload_n E p0 rfl dX11_needs_70 ?_
          refine r_bipush E 122 rfl dX11_needs_71 ?_
          refine r_icmp_ne E 119 (by decide) dX11_needs_73 (fun c6 => ?_) (fun c6 => ?_)
          · have hw := ite_t hw c6
            refine r_aload_n E 11 0 rfl dX11_needs_76 ?_
            refine r_iconst E 2 rfl dX11_needs_77 ?_
            refine r_callVV E (m_X11_uses (EE_st E) (GX X) 2 h _ hw) lk_X11_306 (RM_mk (Nat.le_of_ble_eq_true rfl) (Nat.le_of_ble_eq_true rfl)) rfl rfl rfl rfl (Nat.le_of_ble_eq_true rfl) (adr_lt (Nat.le_of_ble_eq_true rfl)) (Nat.le_of_ble_eq_true rfl) rfl rfl (Nat.le_of_ble_eq_true rfl) (Nat.le_of_ble_eq_true rfl) dX11_needs_78 (fun h7 hw => ?_)
            refine r_aload_n E 11 0 rfl dX11_needs_81 ?_
            refine r_getS E fd_X11_126 (t := 0) (j1 := 71) rfl rfl rfl rfl (Nat.le_of_ble_eq_true rfl) (adr_lt (Nat.le_of_ble_eq_true rfl)) dX11_needs_82 ?_
            refine r_aload_n E 11 0 rfl dX11_needs_85 ?_
            refine r_getI E fd_X11_296 rfl (Nat.le_of_ble_eq_true rfl) (adr_lt (Nat.le_of_ble_eq_true rfl)) dX11_needs_86 ?_
            refine r_iload_n E p1 rfl dX11_needs_89 ?_
            refine r_sipush E 999 rfl dX11_needs_90 ?_
            refine r_icmp_ge E 102 (by decide) dX11_needs_93 (fun c8 => ?_) (fun c8 => ?_)
            · have hw := ite_t hw c8
              refine r_sipush E 999 rfl dX11_needs_102 ?_
              exact GG_weak [true, false, false, false, false] rfl (t_X11_needs_b105 h7 (gI h7 11 0 62) 999 E hE  hw)
            · have hw := ite_f hw c8
              refine r_iload_n E p1 rfl dX11_needs_96 ?_
              refine r_iconst E 1 rfl dX11_needs_97 ?_
              refine r_iadd E dX11_needs_98 ?_
              refine r_goto E 105 (by decide) dX11_needs_99 ?_
              exact GG_weak [true, false, false, false, false] rfl (t_X11_needs_b105 h7 (gI h7 11 0 62) (p1 + 1) E hE  hw)
          · have hw := ite_f hw c6
            refine r_iload_n E p0 rfl dX11_needs_119 ?_
            refine r_bipush E 116 rfl dX11_needs_120 ?_
            refine r_icmp_ne E 135 (by decide) dX11_needs_122 (fun c9 => ?_) (fun c9 => ?_)
            · have hw := ite_t hw c9
              refine r_aload_n E 11 0 rfl dX11_needs_125 ?_
              refine r_iconst E 3 rfl dX11_needs_126 ?_
              refine r_iload_n E p1 rfl dX11_needs_127 ?_
              refine r_iadd E dX11_needs_128 ?_
              refine r_callVV E (m_X11_uses (EE_st E) (GX X) (3 + p1) h _ hw) lk_X11_306 (RM_mk (Nat.le_of_ble_eq_true rfl) (Nat.le_of_ble_eq_true rfl)) rfl rfl rfl rfl (Nat.le_of_ble_eq_true rfl) (adr_lt (Nat.le_of_ble_eq_true rfl)) (Nat.le_of_ble_eq_true rfl) rfl rfl (Nat.le_of_ble_eq_true rfl) (Nat.le_of_ble_eq_true rfl) dX11_needs_129 (fun h10 hw => ?_)
              refine r_goto E 199 (by decide) dX11_needs_132 ?_
              exact hE _ _ _ _ _ (Nat.le_of_ble_eq_true rfl) (Nat.le_of_ble_eq_true rfl) dX11_needs_199 hw
            · have hw := ite_f hw c9
              refine r_iload_n E p0 rfl dX11_needs_135 ?_
              refine r_bipush E 115 rfl dX11_needs_136 ?_
              refine r_icmp_eq E 147 (by decide) dX11_needs_138 (fun c11 => ?_) (fun c11 => ?_)
              · have hw := ite_t hw c11
                exact GG_weak [true, true, true, false, false] rfl (t_X11_needs_b147 h p0 p1 E hE  hw)
              · have hw := ite_f hw c11
                refine r_iload_n E p0 rfl dX11_needs_141 ?_
                refine r_bipush E 98 rfl dX11_needs_142 ?_
                refine r_icmp_ne E 169 (by decide) dX11_needs_144 (fun c12 => ?_) (fun c12 => ?_)
                · have hw := ite_t hw c12
                  exact GG_weak [true, true, true, false, false] rfl (t_X11_needs_b147 h p0 p1 E hE  hw)
                · have hw := ite_f hw c12
                  refine r_iload_n E p0 rfl dX11_needs_169 ?_
                  refine r_bipush E 110 rfl dX11_needs_170 ?_
                  refine r_icmp_ne E 199 (by decide) dX11_needs_172 (fun c13 => ?_) (fun c13 => ?_)
                  · have hw := ite_t hw c13
                    refine r_iconst E 0 rfl dX11_needs_175 ?_
                    refine r_istore E [some (rf X 11 0), some (.int p0), some (.int p1), some (.int p2), some (.int 0)] (Nat.le_of_ble_eq_true rfl) rfl dX11_needs_176 ?_
                    exact GG_weak [true, false, false, false, true] rfl (t_X11_needs_b178 h 0 E hE  hw)
                  · have hw := ite_f hw c13
                    exact hE _ _ _ _ _ (Nat.le_of_ble_eq_true rfl) (Nat.le_of_ble_eq_true rfl) dX11_needs_199 hw
    · have hw := ite_f hw c3
      exact GG_weak [true, true, true, true, false] rfl (t_X11_needs_b13 h p0 p1 p2 E hE  hw)
set_option maxRecDepth 20000 in
theorem t_X11_gathers_b130 {X : Ctx} (h : Hp) (x1 : Int32)  (E : EE X cX11_gathers RX11 2 3 69 0 0) {Q : Hp → Prop} (hE : ENDv X cX11_gathers Q NT 0 0) (P95 : Int32 → Hp → Prop) (hP95 : ∀ (y1 : Int32) (u : Hp), P95 y1 u → GG X 0 0 NT u [some (rf X 11 0), some (.int y1)] 95 []) (hw : wp_X11_gathers_b130 x1 h P95 Q) : GG X 0 0 NT h [some (rf X 11 0), some (.int x1)] 130 [] := by
  unfold wp_X11_gathers_b130 at hw
  obtain ⟨v1, hv1⟩ : ∃ y : Int32, y = x1 + 1 := ⟨_, rfl⟩
  have hw := hw v1 hv1
  refine r_iinc E x1 v1 [some (rf X 11 0), some (.int v1)] rfl (by rw [hv1]; rfl) (Nat.le_of_ble_eq_true rfl) rfl dX11_gathers_130 ?_
  refine r_goto E 95 (by decide) dX11_gathers_133 ?_
  exact GG_weak [true, true] rfl (hP95 _ _ hw)
set_option maxRecDepth 20000 in
theorem t_X11_gathers_b95F {X : Ctx} (h : Hp) (x1 : Int32)  (E : EE X cX11_gathers RX11 2 3 69 0 0) {Q : Hp → Prop} (hE : ENDv X cX11_gathers Q NT 0 0)  (P95 : Int32 → Hp → Prop) (hP95 : ∀ (y1 : Int32) (u : Hp), P95 y1 u → GG X 0 0 NT u [some (rf X 11 0), some (.int y1)] 95 []) (hw : wp_X11_gathers_b95F    Q P95 x1 h) : GG X 0 0 NT h [some (rf X 11 0), some (.int x1)] 95 [] := by
  unfold wp_X11_gathers_b95F at hw
  refine r_iload_n E x1 rfl dX11_gathers_95 ?_
  refine r_bipush E 45 rfl dX11_gathers_96 ?_
  refine r_icmp_ge E 136 (by decide) dX11_gathers_98 (fun c1 => ?_) (fun c1 => ?_)
  · have hw := ite_t hw c1
    exact hE _ _ _ _ _ (Nat.le_of_ble_eq_true rfl) (Nat.le_of_ble_eq_true rfl) dX11_gathers_136 hw
  · have hw := ite_f hw c1
    refine r_aload_n E 11 0 rfl dX11_gathers_101 ?_
    refine r_getS E fd_X11_108 (t := 0) (j1 := 65) rfl rfl rfl rfl (Nat.le_of_ble_eq_true rfl) (adr_lt (Nat.le_of_ble_eq_true rfl)) dX11_gathers_102 ?_
    refine r_iload_n E x1 rfl dX11_gathers_105 ?_
    obtain ⟨i2, hw⟩ := hw
    refine r_zald E rfl rfl rfl (Nat.le_of_ble_eq_true rfl) (adr_lt (Nat.le_of_ble_eq_true rfl)) i2 dX11_gathers_106 ?_
    refine r_if_eq E 130 (by decide) dX11_gathers_107 (fun c3 => ?_) (fun c3 => ?_)
    · have hw := ite_t hw c3
      exact GG_weak [true, true] rfl (t_X11_gathers_b130 h x1 E hE P95 hP95  hw)
    · have hw := ite_f hw c3
      refine r_aload_n E 11 0 rfl dX11_gathers_110 ?_
      refine r_getS E fd_X11_111 (t := 0) (j1 := 66) rfl rfl rfl rfl (Nat.le_of_ble_eq_true rfl) (adr_lt (Nat.le_of_ble_eq_true rfl)) dX11_gathers_111 ?_
      refine r_aload_n E 11 0 rfl dX11_gathers_114 ?_
      refine r_getI E fd_X11_303 rfl (Nat.le_of_ble_eq_true rfl) (adr_lt (Nat.le_of_ble_eq_true rfl)) dX11_gathers_115 ?_
      refine r_iload_n E x1 rfl dX11_gathers_118 ?_
      obtain ⟨i4, hw⟩ := hw
      refine r_iast E rfl rfl rfl (Nat.le_of_ble_eq_true rfl) (adr_lt (Nat.le_of_ble_eq_true rfl)) i4 dX11_gathers_119 ?_
      refine GG_toph fun h5 hh5 => ?_
      have hw := hw h5 hh5
      refine r_aload_n E 11 0 rfl dX11_gathers_120 ?_
      refine r_dup E rfl dX11_gathers_121 ?_
      refine r_getI E fd_X11_303 rfl (Nat.le_of_ble_eq_true rfl) (adr_lt (Nat.le_of_ble_eq_true rfl)) dX11_gathers_122 ?_
      refine r_iconst E 1 rfl dX11_gathers_125 ?_
      refine r_iadd E dX11_gathers_126 ?_
      refine r_putI E fd_X11_303 rfl PI_int (Nat.le_of_ble_eq_true rfl) (adr_lt (Nat.le_of_ble_eq_true rfl)) rfl dX11_gathers_127 ?_
      refine GG_toph fun h6 hh6 => ?_
      have hw := hw h6 hh6
      exact GG_weak [true, true] rfl (t_X11_gathers_b130 h6 x1 E hE P95 hP95  hw)
set_option maxRecDepth 20000 in
theorem t_X11_gathers_b95 {X : Ctx} (h : Hp) (x1 : Int32)  (E : EE X cX11_gathers RX11 2 3 69 0 0) {Q : Hp → Prop} (hE : ENDv X cX11_gathers Q NT 0 0)  (hw : wp_X11_gathers_b95 x1 h  Q) : GG X 0 0 NT h [some (rf X 11 0), some (.int x1)] 95 [] :=
  hw (fun y1 u => GG X 0 0 NT u [some (rf X 11 0), some (.int y1)] 95 []) (fun y1 u hq => t_X11_gathers_b95F u y1  E hE  (fun y1 u => GG X 0 0 NT u [some (rf X 11 0), some (.int y1)] 95 []) (fun y1 u q => q) hq)
set_option maxRecDepth 20000 in
theorem t_X11_gathers_b82 {X : Ctx} (h : Hp) (x1 : Int32)  (E : EE X cX11_gathers RX11 2 3 69 0 0) {Q : Hp → Prop} (hE : ENDv X cX11_gathers Q NT 0 0) (P47 : Int32 → Hp → Prop) (hP47 : ∀ (y1 : Int32) (u : Hp), P47 y1 u → GG X 0 0 NT u [some (rf X 11 0), some (.int y1)] 47 []) (hw : wp_X11_gathers_b82 x1 h P47 Q) : GG X 0 0 NT h [some (rf X 11 0), some (.int x1)] 82 [] := by
  unfold wp_X11_gathers_b82 at hw
  obtain ⟨v1, hv1⟩ : ∃ y : Int32, y = x1 + (-1) := ⟨_, rfl⟩
  have hw := hw v1 hv1
  refine r_iinc E x1 v1 [some (rf X 11 0), some (.int v1)] rfl (by rw [hv1]; rfl) (Nat.le_of_ble_eq_true rfl) rfl dX11_gathers_82 ?_
  refine r_goto E 47 (by decide) dX11_gathers_85 ?_
  exact GG_weak [true, true] rfl (hP47 _ _ hw)
set_option maxRecDepth 20000 in
theorem t_X11_gathers_b47F {X : Ctx} (h : Hp) (x1 : Int32)  (E : EE X cX11_gathers RX11 2 3 69 0 0) {Q : Hp → Prop} (hE : ENDv X cX11_gathers Q NT 0 0)  (P47 : Int32 → Hp → Prop) (hP47 : ∀ (y1 : Int32) (u : Hp), P47 y1 u → GG X 0 0 NT u [some (rf X 11 0), some (.int y1)] 47 []) (hw : wp_X11_gathers_b47F    Q P47 x1 h) : GG X 0 0 NT h [some (rf X 11 0), some (.int x1)] 47 [] := by
  unfold wp_X11_gathers_b47F at hw
  refine r_iload_n E x1 rfl dX11_gathers_47 ?_
  refine r_if_lt E 88 (by decide) dX11_gathers_48 (fun c1 => ?_) (fun c1 => ?_)
  · have hw := ite_t hw c1
    refine r_aload_n E 11 0 rfl dX11_gathers_88 ?_
    refine r_iconst E 0 rfl dX11_gathers_89 ?_
    refine r_putI E fd_X11_303 rfl PI_int (Nat.le_of_ble_eq_true rfl) (adr_lt (Nat.le_of_ble_eq_true rfl)) rfl dX11_gathers_90 ?_
    refine GG_toph fun h2 hh2 => ?_
    have hw := hw h2 hh2
    refine r_iconst E 0 rfl dX11_gathers_93 ?_
    refine r_istore_n E [some (rf X 11 0), some (.int 0)] rfl (Nat.le_of_ble_eq_true rfl) rfl dX11_gathers_94 ?_
    exact GG_weak [true, true] rfl (t_X11_gathers_b95 h2 0 E hE  hw)
  · have hw := ite_f hw c1
    refine r_aload_n E 11 0 rfl dX11_gathers_51 ?_
    refine r_getS E fd_X11_117 (t := 0) (j1 := 68) rfl rfl rfl rfl (Nat.le_of_ble_eq_true rfl) (adr_lt (Nat.le_of_ble_eq_true rfl)) dX11_gathers_52 ?_
    refine r_iload_n E x1 rfl dX11_gathers_55 ?_
    obtain ⟨i3, hw⟩ := hw
    refine r_zald E rfl rfl rfl (Nat.le_of_ble_eq_true rfl) (adr_lt (Nat.le_of_ble_eq_true rfl)) i3 dX11_gathers_56 ?_
    refine r_if_eq E 82 (by decide) dX11_gathers_57 (fun c4 => ?_) (fun c4 => ?_)
    · have hw := ite_t hw c4
      exact GG_weak [true, true] rfl (t_X11_gathers_b82 h x1 E hE P47 hP47  hw)
    · have hw := ite_f hw c4
      refine r_aload_n E 11 0 rfl dX11_gathers_60 ?_
      refine r_aload_n E 11 0 rfl dX11_gathers_61 ?_
      refine r_getS E fd_X11_59 (t := 0) (j1 := 49) rfl rfl rfl rfl (Nat.le_of_ble_eq_true rfl) (adr_lt (Nat.le_of_ble_eq_true rfl)) dX11_gathers_62 ?_
      refine r_iload_n E x1 rfl dX11_gathers_65 ?_
      refine r_cald E rfl rfl rfl (Nat.le_of_ble_eq_true rfl) (adr_lt (Nat.le_of_ble_eq_true rfl)) i3 dX11_gathers_66 ?_
      refine r_aload_n E 11 0 rfl dX11_gathers_67 ?_
      refine r_getS E fd_X11_63 (t := 0) (j1 := 50) rfl rfl rfl rfl (Nat.le_of_ble_eq_true rfl) (adr_lt (Nat.le_of_ble_eq_true rfl)) dX11_gathers_68 ?_
      refine r_iload_n E x1 rfl dX11_gathers_71 ?_
      refine r_iald E rfl rfl rfl (Nat.le_of_ble_eq_true rfl) (adr_lt (Nat.le_of_ble_eq_true rfl)) i3 dX11_gathers_72 ?_
      refine r_aload_n E 11 0 rfl dX11_gathers_73 ?_
      refine r_getS E fd_X11_66 (t := 0) (j1 := 51) rfl rfl rfl rfl (Nat.le_of_ble_eq_true rfl) (adr_lt (Nat.le_of_ble_eq_true rfl)) dX11_gathers_74 ?_
      refine r_iload_n E x1 rfl dX11_gathers_77 ?_
      refine r_iald E rfl rfl rfl (Nat.le_of_ble_eq_true rfl) (adr_lt (Nat.le_of_ble_eq_true rfl)) i3 dX11_gathers_78 ?_
      refine r_callVV E (m_X11_needs (EE_st E) (GX X) (gI h 49 0 x1.toNatClampNeg) (gI h 50 0 x1.toNatClampNeg) (gI h 51 0 x1.toNatClampNeg) h _ hw) lk_X11_299 (RM_mk (Nat.le_of_ble_eq_true rfl) (Nat.le_of_ble_eq_true rfl)) rfl rfl rfl rfl (Nat.le_of_ble_eq_true rfl) (adr_lt (Nat.le_of_ble_eq_true rfl)) (Nat.le_of_ble_eq_true rfl) rfl rfl (Nat.le_of_ble_eq_true rfl) (Nat.le_of_ble_eq_true rfl) dX11_gathers_79 (fun h5 hw => ?_)
      exact GG_weak [true, true] rfl (t_X11_gathers_b82 h5 x1 E hE P47 hP47  hw)
set_option maxRecDepth 20000 in
theorem t_X11_gathers_b47 {X : Ctx} (h : Hp) (x1 : Int32)  (E : EE X cX11_gathers RX11 2 3 69 0 0) {Q : Hp → Prop} (hE : ENDv X cX11_gathers Q NT 0 0)  (hw : wp_X11_gathers_b47 x1 h  Q) : GG X 0 0 NT h [some (rf X 11 0), some (.int x1)] 47 [] :=
  hw (fun y1 u => GG X 0 0 NT u [some (rf X 11 0), some (.int y1)] 47 []) (fun y1 u hq => t_X11_gathers_b47F u y1  E hE  (fun y1 u => GG X 0 0 NT u [some (rf X 11 0), some (.int y1)] 47 []) (fun y1 u q => q) hq)
set_option maxRecDepth 20000 in
theorem t_X11_gathers_b2F {X : Ctx} (h : Hp) (x1 : Int32)  (E : EE X cX11_gathers RX11 2 3 69 0 0) {Q : Hp → Prop} (hE : ENDv X cX11_gathers Q NT 0 0)  (P2 : Int32 → Hp → Prop) (hP2 : ∀ (y1 : Int32) (u : Hp), P2 y1 u → GG X 0 0 NT u [some (rf X 11 0), some (.int y1)] 2 []) (hw : wp_X11_gathers_b2F    Q P2 x1 h) : GG X 0 0 NT h [some (rf X 11 0), some (.int x1)] 2 [] := by
  unfold wp_X11_gathers_b2F at hw
  refine r_iload_n E x1 rfl dX11_gathers_2 ?_
  refine r_bipush E 45 rfl dX11_gathers_3 ?_
  refine r_icmp_ge E 28 (by decide) dX11_gathers_5 (fun c1 => ?_) (fun c1 => ?_)
  · have hw := ite_t hw c1
    refine r_aload_n E 11 0 rfl dX11_gathers_28 ?_
    refine r_iconst E 1 rfl dX11_gathers_29 ?_
    refine r_putI E fd_X11_296 rfl PI_int (Nat.le_of_ble_eq_true rfl) (adr_lt (Nat.le_of_ble_eq_true rfl)) rfl dX11_gathers_30 ?_
    refine GG_toph fun h2 hh2 => ?_
    have hw := hw h2 hh2
    refine r_aload_n E 11 0 rfl dX11_gathers_33 ?_
    refine r_getS E fd_X11_126 (t := 0) (j1 := 71) rfl rfl rfl rfl (Nat.le_of_ble_eq_true rfl) (adr_lt (Nat.le_of_ble_eq_true rfl)) dX11_gathers_34 ?_
    refine r_iconst E 0 rfl dX11_gathers_37 ?_
    refine r_iconst E 1 rfl dX11_gathers_38 ?_
    obtain ⟨i3, hw⟩ := hw
    refine r_iast E rfl rfl rfl (Nat.le_of_ble_eq_true rfl) (adr_lt (Nat.le_of_ble_eq_true rfl)) i3 dX11_gathers_39 ?_
    refine GG_toph fun h4 hh4 => ?_
    have hw := hw h4 hh4
    refine r_aload_n E 11 0 rfl dX11_gathers_40 ?_
    refine r_getI E fd_X11_173 rfl (Nat.le_of_ble_eq_true rfl) (adr_lt (Nat.le_of_ble_eq_true rfl)) dX11_gathers_41 ?_
    refine r_iconst E 1 rfl dX11_gathers_44 ?_
    refine r_isub E dX11_gathers_45 ?_
    refine GG_topI fun v5 hv5 => ?_
    have hw := hw v5 hv5
    refine r_istore_n E [some (rf X 11 0), some (.int v5)] rfl (Nat.le_of_ble_eq_true rfl) rfl dX11_gathers_46 ?_
    exact GG_weak [true, true] rfl (t_X11_gathers_b47 h4 v5 E hE  hw)
  · have hw := ite_f hw c1
    refine r_aload_n E 11 0 rfl dX11_gathers_8 ?_
    refine r_getS E fd_X11_108 (t := 0) (j1 := 65) rfl rfl rfl rfl (Nat.le_of_ble_eq_true rfl) (adr_lt (Nat.le_of_ble_eq_true rfl)) dX11_gathers_9 ?_
    refine r_iload_n E x1 rfl dX11_gathers_12 ?_
    refine r_iconst E 0 rfl dX11_gathers_13 ?_
    obtain ⟨i6, hw⟩ := hw
    refine r_zast E rfl rfl rfl (Nat.le_of_ble_eq_true rfl) (adr_lt (Nat.le_of_ble_eq_true rfl)) i6 rfl dX11_gathers_14 ?_
    refine GG_toph fun h7 hh7 => ?_
    have hw := hw h7 hh7
    refine r_aload_n E 11 0 rfl dX11_gathers_15 ?_
    refine r_getS E fd_X11_105 (t := 0) (j1 := 64) rfl rfl rfl rfl (Nat.le_of_ble_eq_true rfl) (adr_lt (Nat.le_of_ble_eq_true rfl)) dX11_gathers_16 ?_
    refine r_iload_n E x1 rfl dX11_gathers_19 ?_
    refine r_iconst E (-1) rfl dX11_gathers_20 ?_
    refine r_iast E rfl rfl rfl (Nat.le_of_ble_eq_true rfl) (adr_lt (Nat.le_of_ble_eq_true rfl)) i6 dX11_gathers_21 ?_
    refine GG_toph fun h8 hh8 => ?_
    have hw := hw h8 hh8
    obtain ⟨v9, hv9⟩ : ∃ y : Int32, y = x1 + 1 := ⟨_, rfl⟩
    have hw := hw v9 hv9
    refine r_iinc E x1 v9 [some (rf X 11 0), some (.int v9)] rfl (by rw [hv9]; rfl) (Nat.le_of_ble_eq_true rfl) rfl dX11_gathers_22 ?_
    refine r_goto E 2 (by decide) dX11_gathers_25 ?_
    exact GG_weak [true, true] rfl (hP2 _ _ hw)
set_option maxRecDepth 20000 in
theorem t_X11_gathers_b2 {X : Ctx} (h : Hp) (x1 : Int32)  (E : EE X cX11_gathers RX11 2 3 69 0 0) {Q : Hp → Prop} (hE : ENDv X cX11_gathers Q NT 0 0)  (hw : wp_X11_gathers_b2 x1 h  Q) : GG X 0 0 NT h [some (rf X 11 0), some (.int x1)] 2 [] :=
  hw (fun y1 u => GG X 0 0 NT u [some (rf X 11 0), some (.int y1)] 2 []) (fun y1 u hq => t_X11_gathers_b2F u y1  E hE  (fun y1 u => GG X 0 0 NT u [some (rf X 11 0), some (.int y1)] 2 []) (fun y1 u q => q) hq)
set_option maxRecDepth 20000 in
theorem m_X11_gathers {l : Launch} (hl : l.stackTraces = false) (G : Gq)   (h : Hp) (Q : Hp → Prop) (hw : wp_X11_gathers  h Q) : MV l G yX11_gathers cX11_gathers 2 none rm_X11_gathers NT NT h (fun r => [r 11 0]) Q := by
  refine MV_of (L0 := (fun X => [some (rf X 11 0), none])) hl (by decide +kernel) rfl (fun _ => Nat.le_of_ble_eq_true rfl) (fun _ => rfl) fun X hXl hXG E hE => ?_
  subst hXl; subst hXG
  unfold wp_X11_gathers at hw
  refine r_iconst E 0 rfl dX11_gathers_0 ?_
  refine r_istore_n E [some (rf X 11 0), some (.int 0)] rfl (Nat.le_of_ble_eq_true rfl) rfl dX11_gathers_1 ?_
  exact GG_weak [true, true] rfl (t_X11_gathers_b2 h 0 E hE  hw)
set_option maxRecDepth 20000 in
theorem m_X11_domain {l : Launch} (hl : l.stackTraces = false) (G : Gq) (p0 : Int32)  (h : Hp) (Q : Int32 → Prop) (hw : wp_X11_domain p0 h Q) : MI l G yX11_domain cX11_domain 2 (some .int) rm_X11_domain NT NT h (fun r => [r 11 0, .int p0]) (fun r u => h = u ∧ Q r) := by
  refine MI_of (L0 := (fun X => [some (rf X 11 0), some (.int p0)])) hl (by decide +kernel) rfl (fun _ => Nat.le_of_ble_eq_true rfl) (fun _ => rfl) fun X hXl hXG E hE => ?_
  subst hXl; subst hXG
  unfold wp_X11_domain at hw
  refine r_iload_n E p0 rfl dX11_domain_0 ?_
  refine r_if_ne E 9 (by decide) dX11_domain_1 (fun c1 => ?_) (fun c1 => ?_)
  · have hw := ite_t hw c1
    refine r_bipush E 10 rfl dX11_domain_4 ?_
    refine r_goto E 32 (by decide) dX11_domain_6 ?_
    exact hE _ _ _ _ _ _ (Nat.le_of_ble_eq_true rfl) (Nat.le_of_ble_eq_true rfl) dX11_domain_32 rfl ⟨rfl, hw⟩
  · have hw := ite_f hw c1
    refine r_iload_n E p0 rfl dX11_domain_9 ?_
    refine r_iconst E 1 rfl dX11_domain_10 ?_
    refine r_icmp_ne E 19 (by decide) dX11_domain_11 (fun c2 => ?_) (fun c2 => ?_)
    · have hw := ite_t hw c2
      refine r_bipush E 7 rfl dX11_domain_14 ?_
      refine r_goto E 32 (by decide) dX11_domain_16 ?_
      exact hE _ _ _ _ _ _ (Nat.le_of_ble_eq_true rfl) (Nat.le_of_ble_eq_true rfl) dX11_domain_32 rfl ⟨rfl, hw⟩
    · have hw := ite_f hw c2
      refine r_iload_n E p0 rfl dX11_domain_19 ?_
      refine r_iconst E 2 rfl dX11_domain_20 ?_
      refine r_icmp_ne E 31 (by decide) dX11_domain_21 (fun c3 => ?_) (fun c3 => ?_)
      · have hw := ite_t hw c3
        refine r_aload_n E 11 0 rfl dX11_domain_24 ?_
        refine r_getI E fd_X11_296 rfl (Nat.le_of_ble_eq_true rfl) (adr_lt (Nat.le_of_ble_eq_true rfl)) dX11_domain_25 ?_
        refine r_goto E 32 (by decide) dX11_domain_28 ?_
        exact hE _ _ _ _ _ _ (Nat.le_of_ble_eq_true rfl) (Nat.le_of_ble_eq_true rfl) dX11_domain_32 rfl ⟨rfl, hw⟩
      · have hw := ite_f hw c3
        refine r_iconst E 2 rfl dX11_domain_31 ?_
        exact hE _ _ _ _ _ _ (Nat.le_of_ble_eq_true rfl) (Nat.le_of_ble_eq_true rfl) dX11_domain_32 rfl ⟨rfl, hw⟩
set_option maxRecDepth 20000 in
theorem t_X11_counted_b44 {X : Ctx} (h : Hp) (x1 : Int32) (x3 : Int32) (s0 : Int32) (s1 : Int32)  (E : EE X cX11_counted RX11 4 1 24 0 0) {Q : Int32 → Prop} (hE : ENDi X cX11_counted .int (fun r u => h = u ∧ Q r) NT 0 0) (P4 : Int32 → Int32 → Prop) (hP4 : ∀ (y2 : Int32) (y3 : Int32), P4 y2 y3 → GG X 0 0 NT h [some (rf X 11 0), some (.int x1), some (.int y2), some (.int y3)] 4 []) (hw : wp_X11_counted_b44 x1 x3 s0 s1 h P4 Q) : GG X 0 0 NT h [some (rf X 11 0), some (.int x1), none, some (.int x3)] 44 [.int s1, .int s0] := by
  unfold wp_X11_counted_b44 at hw
  refine r_iadd E dX11_counted_44 ?_
  refine GG_topI fun v1 hv1 => ?_
  have hw := hw v1 hv1
  refine r_istore_n E [some (rf X 11 0), some (.int x1), some (.int v1), some (.int x3)] rfl (Nat.le_of_ble_eq_true rfl) rfl dX11_counted_45 ?_
  obtain ⟨v2, hv2⟩ : ∃ y : Int32, y = x3 + 1 := ⟨_, rfl⟩
  have hw := hw v2 hv2
  refine r_iinc E x3 v2 [some (rf X 11 0), some (.int x1), some (.int v1), some (.int v2)] rfl (by rw [hv2]; rfl) (Nat.le_of_ble_eq_true rfl) rfl dX11_counted_46 ?_
  refine r_goto E 4 (by decide) dX11_counted_49 ?_
  exact GG_weak [true, true, true, true] rfl (hP4 _ _ hw)
set_option maxRecDepth 20000 in
theorem t_X11_counted_b39 {X : Ctx} (h : Hp) (x1 : Int32) (x3 : Int32) (s0 : Int32)  (E : EE X cX11_counted RX11 4 1 24 0 0) {Q : Int32 → Prop} (hE : ENDi X cX11_counted .int (fun r u => h = u ∧ Q r) NT 0 0) (P4 : Int32 → Int32 → Prop) (hP4 : ∀ (y2 : Int32) (y3 : Int32), P4 y2 y3 → GG X 0 0 NT h [some (rf X 11 0), some (.int x1), some (.int y2), some (.int y3)] 4 []) (hw : wp_X11_counted_b39 x1 x3 s0 h P4 Q) : GG X 0 0 NT h [some (rf X 11 0), some (.int x1), none, some (.int x3)] 39 [.int s0] := by
  unfold wp_X11_counted_b39 at hw
  refine r_iconst E 1 rfl dX11_counted_39 ?_
  refine r_goto E 44 (by decide) dX11_counted_40 ?_
  exact GG_weak [true, true, false, true] rfl (t_X11_counted_b44 h x1 x3 s0 1 E hE P4 hP4  hw)
set_option maxRecDepth 20000 in
theorem t_X11_counted_b43 {X : Ctx} (h : Hp) (x1 : Int32) (x3 : Int32) (s0 : Int32)  (E : EE X cX11_counted RX11 4 1 24 0 0) {Q : Int32 → Prop} (hE : ENDi X cX11_counted .int (fun r u => h = u ∧ Q r) NT 0 0) (P4 : Int32 → Int32 → Prop) (hP4 : ∀ (y2 : Int32) (y3 : Int32), P4 y2 y3 → GG X 0 0 NT h [some (rf X 11 0), some (.int x1), some (.int y2), some (.int y3)] 4 []) (hw : wp_X11_counted_b43 x1 x3 s0 h P4 Q) : GG X 0 0 NT h [some (rf X 11 0), some (.int x1), none, some (.int x3)] 43 [.int s0] := by
  unfold wp_X11_counted_b43 at hw
  refine r_iconst E 0 rfl dX11_counted_43 ?_
  exact GG_weak [true, true, false, true] rfl (t_X11_counted_b44 h x1 x3 s0 0 E hE P4 hP4  hw)
set_option maxRecDepth 20000 in
theorem t_X11_counted_b4F {X : Ctx} (h : Hp) (x1 : Int32) (x2 : Int32) (x3 : Int32)  (E : EE X cX11_counted RX11 4 1 24 0 0) {Q : Int32 → Prop} (hE : ENDi X cX11_counted .int (fun r u => h = u ∧ Q r) NT 0 0)  (P4 : Int32 → Int32 → Prop) (hP4 : ∀ (y2 : Int32) (y3 : Int32), P4 y2 y3 → GG X 0 0 NT h [some (rf X 11 0), some (.int x1), some (.int y2), some (.int y3)] 4 []) (hw : wp_X11_counted_b4F x1 h  Q P4 x2 x3 ) : GG X 0 0 NT h [some (rf X 11 0), some (.int x1), some (.int x2), some (.int x3)] 4 [] := by
  unfold wp_X11_counted_b4F at hw
  refine r_iload_n E x3 rfl dX11_counted_4 ?_
  refine r_bipush E 10 rfl dX11_counted_5 ?_
  refine r_icmp_ge E 52 (by decide) dX11_counted_7 (fun c1 => ?_) (fun c1 => ?_)
  · have hw := ite_t hw c1
    refine r_iload_n E x2 rfl dX11_counted_52 ?_
    exact hE _ _ _ _ _ _ (Nat.le_of_ble_eq_true rfl) (Nat.le_of_ble_eq_true rfl) dX11_counted_53 rfl ⟨rfl, hw⟩
  · have hw := ite_f hw c1
    refine r_iload_n E x2 rfl dX11_counted_10 ?_
    refine r_aload_n E 11 0 rfl dX11_counted_11 ?_
    refine r_getS E fd_X11_105 (t := 0) (j1 := 64) rfl rfl rfl rfl (Nat.le_of_ble_eq_true rfl) (adr_lt (Nat.le_of_ble_eq_true rfl)) dX11_counted_12 ?_
    refine r_iconst E 3 rfl dX11_counted_15 ?_
    refine r_iload_n E x3 rfl dX11_counted_16 ?_
    refine r_iadd E dX11_counted_17 ?_
    obtain ⟨i2, hw⟩ := hw
    refine r_iald E rfl rfl rfl (Nat.le_of_ble_eq_true rfl) (adr_lt (Nat.le_of_ble_eq_true rfl)) i2 dX11_counted_18 ?_
    refine r_iconst E 1 rfl dX11_counted_19 ?_
    refine r_icmp_eq E 39 (by decide) dX11_counted_20 (fun c3 => ?_) (fun c3 => ?_)
    · have hw := ite_t hw c3
      exact GG_weak [true, true, false, true] rfl (t_X11_counted_b39 h x1 x3 x2 E hE P4 hP4  hw)
    · have hw := ite_f hw c3
      refine r_iload_n E x1 rfl dX11_counted_23 ?_
      refine r_if_eq E 43 (by decide) dX11_counted_24 (fun c4 => ?_) (fun c4 => ?_)
      · have hw := ite_t hw c4
        exact GG_weak [true, true, false, true] rfl (t_X11_counted_b43 h x1 x3 x2 E hE P4 hP4  hw)
      · have hw := ite_f hw c4
        refine r_aload_n E 11 0 rfl dX11_counted_27 ?_
        refine r_getS E fd_X11_105 (t := 0) (j1 := 64) rfl rfl rfl rfl (Nat.le_of_ble_eq_true rfl) (adr_lt (Nat.le_of_ble_eq_true rfl)) dX11_counted_28 ?_
        refine r_iconst E 3 rfl dX11_counted_31 ?_
        refine r_iload_n E x3 rfl dX11_counted_32 ?_
        refine r_iadd E dX11_counted_33 ?_
        refine r_iald E rfl rfl rfl (Nat.le_of_ble_eq_true rfl) (adr_lt (Nat.le_of_ble_eq_true rfl)) i2 dX11_counted_34 ?_
        refine r_iconst E (-1) rfl dX11_counted_35 ?_
        refine r_icmp_ne E 43 (by decide) dX11_counted_36 (fun c5 => ?_) (fun c5 => ?_)
        · have hw := ite_t hw c5
          exact GG_weak [true, true, false, true] rfl (t_X11_counted_b39 h x1 x3 x2 E hE P4 hP4  hw)
        · have hw := ite_f hw c5
          exact GG_weak [true, true, false, true] rfl (t_X11_counted_b43 h x1 x3 x2 E hE P4 hP4  hw)
set_option maxRecDepth 20000 in
theorem t_X11_counted_b4 {X : Ctx} (h : Hp) (x1 : Int32) (x2 : Int32) (x3 : Int32)  (E : EE X cX11_counted RX11 4 1 24 0 0) {Q : Int32 → Prop} (hE : ENDi X cX11_counted .int (fun r u => h = u ∧ Q r) NT 0 0)  (hw : wp_X11_counted_b4 x1 x2 x3 h  Q) : GG X 0 0 NT h [some (rf X 11 0), some (.int x1), some (.int x2), some (.int x3)] 4 [] :=
  hw (fun y2 y3  => GG X 0 0 NT h [some (rf X 11 0), some (.int x1), some (.int y2), some (.int y3)] 4 []) (fun y2 y3  hq => t_X11_counted_b4F h x1 y2 y3  E hE  (fun y2 y3  => GG X 0 0 NT h [some (rf X 11 0), some (.int x1), some (.int y2), some (.int y3)] 4 []) (fun y2 y3  q => q) hq)
set_option maxRecDepth 20000 in
theorem m_X11_counted {l : Launch} (hl : l.stackTraces = false) (G : Gq) (p0 : Int32)  (h : Hp) (Q : Int32 → Prop) (hw : wp_X11_counted p0 h Q) : MI l G yX11_counted cX11_counted 4 (some .int) rm_X11_counted NT NT h (fun r => [r 11 0, .int p0]) (fun r u => h = u ∧ Q r) := by
  refine MI_of (L0 := (fun X => [some (rf X 11 0), some (.int p0), none, none])) hl (by decide +kernel) rfl (fun _ => Nat.le_of_ble_eq_true rfl) (fun _ => rfl) fun X hXl hXG E hE => ?_
  subst hXl; subst hXG
  unfold wp_X11_counted at hw
  refine r_iconst E 0 rfl dX11_counted_0 ?_
  refine r_istore_n E [some (rf X 11 0), some (.int p0), some (.int 0), none] rfl (Nat.le_of_ble_eq_true rfl) rfl dX11_counted_1 ?_
  refine r_iconst E 0 rfl dX11_counted_2 ?_
  refine r_istore_n E [some (rf X 11 0), some (.int p0), some (.int 0), some (.int 0)] rfl (Nat.le_of_ble_eq_true rfl) rfl dX11_counted_3 ?_
  exact GG_weak [true, true, true, true] rfl (t_X11_counted_b4 h p0 0 0 E hE  hw)
set_option maxRecDepth 20000 in
theorem t_X11_canBe_b73 {X : Ctx} (h : Hp) (x1 : Int32) (x3 : Int32)  (E : EE X cX11_canBe RX11 6 2 47 0 0) {Q : Int32 → Prop} (hE : ENDi X cX11_canBe .boolean (fun r u => h = u ∧ isB r ∧ Q r) NT 0 0)  (hw : wp_X11_canBe_b73 x1 x3 h  Q) : GG X 0 0 NT h [none, some (.int x1), none, some (.int x3), none, none] 73 [] := by
  unfold wp_X11_canBe_b73 at hw
  refine r_iload_n E x1 rfl dX11_canBe_73 ?_
  refine r_bipush E 107 rfl dX11_canBe_74 ?_
  refine r_icmp_eq E 83 (by decide) dX11_canBe_76 (fun c1 => ?_) (fun c1 => ?_)
  · have hw := ite_t hw c1
    refine r_iconst E 1 rfl dX11_canBe_83 ?_
    refine r_goto E 88 (by decide) dX11_canBe_84 ?_
    exact hE _ _ _ _ _ _ (Nat.le_of_ble_eq_true rfl) (Nat.le_of_ble_eq_true rfl) dX11_canBe_88 (isB_nar isB_1) ⟨rfl, isB_1, hw⟩
  · have hw := ite_f hw c1
    refine r_iload_n E x3 rfl dX11_canBe_79 ?_
    refine r_if_eq E 87 (by decide) dX11_canBe_80 (fun c2 => ?_) (fun c2 => ?_)
    · have hw := ite_t hw c2
      refine r_iconst E 0 rfl dX11_canBe_87 ?_
      exact hE _ _ _ _ _ _ (Nat.le_of_ble_eq_true rfl) (Nat.le_of_ble_eq_true rfl) dX11_canBe_88 (isB_nar isB_0) ⟨rfl, isB_0, hw⟩
    · have hw := ite_f hw c2
      refine r_iconst E 1 rfl dX11_canBe_83 ?_
      refine r_goto E 88 (by decide) dX11_canBe_84 ?_
      exact hE _ _ _ _ _ _ (Nat.le_of_ble_eq_true rfl) (Nat.le_of_ble_eq_true rfl) dX11_canBe_88 (isB_nar isB_1) ⟨rfl, isB_1, hw⟩
set_option maxRecDepth 20000 in
theorem t_X11_canBe_b254 {X : Ctx} (h : Hp) (x3 : Int32) (s0 : Int32)  (E : EE X cX11_canBe RX11 6 2 47 0 0) {Q : Int32 → Prop} (hE : ENDi X cX11_canBe .boolean (fun r u => h = u ∧ isB r ∧ Q r) NT 0 0)  (hw : wp_X11_canBe_b254 x3 s0 h  Q) : GG X 0 0 NT h [none, none, none, some (.int x3), none, none] 254 [.int s0] := by
  unfold wp_X11_canBe_b254 at hw
  refine r_istore E [none, none, none, some (.int x3), none, some (.int s0)] (Nat.le_of_ble_eq_true rfl) rfl dX11_canBe_254 ?_
  refine r_iload E s0 rfl dX11_canBe_256 ?_
  refine r_iload_n E x3 rfl dX11_canBe_258 ?_
  refine r_icmp_ne E 266 (by decide) dX11_canBe_259 (fun c1 => ?_) (fun c1 => ?_)
  · have hw := ite_t hw c1
    refine r_iconst E 1 rfl dX11_canBe_262 ?_
    refine r_goto E 267 (by decide) dX11_canBe_263 ?_
    exact hE _ _ _ _ _ _ (Nat.le_of_ble_eq_true rfl) (Nat.le_of_ble_eq_true rfl) dX11_canBe_267 (isB_nar isB_1) ⟨rfl, isB_1, hw⟩
  · have hw := ite_f hw c1
    refine r_iconst E 0 rfl dX11_canBe_266 ?_
    exact hE _ _ _ _ _ _ (Nat.le_of_ble_eq_true rfl) (Nat.le_of_ble_eq_true rfl) dX11_canBe_267 (isB_nar isB_0) ⟨rfl, isB_0, hw⟩
set_option maxRecDepth 20000 in
theorem t_X11_canBe_b189 {X : Ctx} (h : Hp) (x2 : Int32) (x3 : Int32) (x4 : Int32)  (E : EE X cX11_canBe RX11 6 2 47 0 0) {Q : Int32 → Prop} (hE : ENDi X cX11_canBe .boolean (fun r u => h = u ∧ isB r ∧ Q r) NT 0 0)  (hw : wp_X11_canBe_b189 x2 x3 x4 h  Q) : GG X 0 0 NT h [some (rf X 11 0), none, some (.int x2), some (.int x3), some (.int x4), none] 189 [] := by
  unfold wp_X11_canBe_b189 at hw
  refine r_aload_n E 11 0 rfl dX11_canBe_189 ?_
  refine r_getS E fd_X11_105 (t := 0) (j1 := 64) rfl rfl rfl rfl (Nat.le_of_ble_eq_true rfl) (adr_lt (Nat.le_of_ble_eq_true rfl)) dX11_canBe_190 ?_
  refine r_iload E x4 rfl dX11_canBe_193 ?_
  obtain ⟨i1, hw⟩ := hw
  refine r_iald E rfl rfl rfl (Nat.le_of_ble_eq_true rfl) (adr_lt (Nat.le_of_ble_eq_true rfl)) i1 dX11_canBe_195 ?_
  refine r_iload_n E x2 rfl dX11_canBe_196 ?_
  refine r_icmp_ne E 204 (by decide) dX11_canBe_197 (fun c2 => ?_) (fun c2 => ?_)
  · have hw := ite_t hw c2
    refine r_iconst E 1 rfl dX11_canBe_200 ?_
    refine r_goto E 254 (by decide) dX11_canBe_201 ?_
    exact GG_weak [false, false, false, true, false, false] rfl (t_X11_canBe_b254 h x3 1 E hE  hw)
  · have hw := ite_f hw c2
    refine r_iconst E 0 rfl dX11_canBe_204 ?_
    refine r_goto E 254 (by decide) dX11_canBe_205 ?_
    exact GG_weak [false, false, false, true, false, false] rfl (t_X11_canBe_b254 h x3 0 E hE  hw)
set_option maxRecDepth 20000 in
theorem t_X11_canBe_b59 {X : Ctx} (h : Hp) (x1 : Int32) (x2 : Int32) (x3 : Int32) (s0 : Int32)  (E : EE X cX11_canBe RX11 6 2 47 0 0) {Q : Int32 → Prop} (hE : ENDi X cX11_canBe .boolean (fun r u => h = u ∧ isB r ∧ Q r) NT 0 0)  (hw : wp_X11_canBe_b59 x1 x2 x3 s0 h  Q) : GG X 0 0 NT h [some (rf X 11 0), some (.int x1), some (.int x2), some (.int x3), none, none] 59 [.int s0] := by
  unfold wp_X11_canBe_b59 at hw
  refine r_istore E [some (rf X 11 0), some (.int x1), some (.int x2), some (.int x3), some (.int s0), none] (Nat.le_of_ble_eq_true rfl) rfl dX11_canBe_59 ?_
  refine r_iload_n E x1 rfl dX11_canBe_61 ?_
  refine r_bipush E 97 rfl dX11_canBe_62 ?_
  refine r_icmp_eq E 73 (by decide) dX11_canBe_64 (fun c1 => ?_) (fun c1 => ?_)
  · have hw := ite_t hw c1
    exact GG_weak [false, true, false, true, false, false] rfl (t_X11_canBe_b73 h x1 x3 E hE  hw)
  · have hw := ite_f hw c1
    refine r_iload_n E x1 rfl dX11_canBe_67 ?_
    refine r_bipush E 107 rfl dX11_canBe_68 ?_
    refine r_icmp_ne E 89 (by decide) dX11_canBe_70 (fun c2 => ?_) (fun c2 => ?_)
    · have hw := ite_t hw c2
      exact GG_weak [false, true, false, true, false, false] rfl (t_X11_canBe_b73 h x1 x3 E hE  hw)
    · have hw := ite_f hw c2
      refine r_iload_n E x1 rfl dX11_canBe_89 ?_
      refine r_bipush E 110 rfl dX11_canBe_90 ?_
      refine r_icmp_ne E 136 (by decide) dX11_canBe_92 (fun c3 => ?_) (fun c3 => ?_)
      · have hw := ite_t hw c3
        refine r_iload_n E x3 rfl dX11_canBe_95 ?_
        refine r_if_eq E 116 (by decide) dX11_canBe_96 (fun c4 => ?_) (fun c4 => ?_)
        · have hw := ite_t hw c4
          refine r_iload_n E x2 rfl dX11_canBe_116 ?_
          refine r_iconst E 1 rfl dX11_canBe_117 ?_
          refine r_icmp_le E 134 (by decide) dX11_canBe_118 (fun c5 => ?_) (fun c5 => ?_)
          · have hw := ite_t hw c5
            refine r_iconst E 0 rfl dX11_canBe_134 ?_
            exact hE _ _ _ _ _ _ (Nat.le_of_ble_eq_true rfl) (Nat.le_of_ble_eq_true rfl) dX11_canBe_135 (isB_nar isB_0) ⟨rfl, isB_0, hw⟩
          · have hw := ite_f hw c5
            refine r_aload_n E 11 0 rfl dX11_canBe_121 ?_
            refine r_iconst E 0 rfl dX11_canBe_122 ?_
            refine r_callVI E (m_X11_counted (EE_st E) (GX X) 0 h _ hw) lk_X11_309 (RM_mk (Nat.le_of_ble_eq_true rfl) (Nat.le_of_ble_eq_true rfl)) rfl rfl rfl rfl (Nat.le_of_ble_eq_true rfl) (adr_lt (Nat.le_of_ble_eq_true rfl)) (Nat.le_of_ble_eq_true rfl) rfl rfl (Nat.le_of_ble_eq_true rfl) (Nat.le_of_ble_eq_true rfl) dX11_canBe_123 (fun r6 u9 hw => ?_)
            obtain ⟨rfl, hw⟩ := hw
            refine r_iload_n E x2 rfl dX11_canBe_126 ?_
            refine r_icmp_ge E 134 (by decide) dX11_canBe_127 (fun c7 => ?_) (fun c7 => ?_)
            · have hw := ite_t hw c7
              refine r_iconst E 0 rfl dX11_canBe_134 ?_
              exact hE _ _ _ _ _ _ (Nat.le_of_ble_eq_true rfl) (Nat.le_of_ble_eq_true rfl) dX11_canBe_135 (isB_nar isB_0) ⟨rfl, isB_0, hw⟩
            · have hw := ite_f hw c7
              refine r_iconst E 1 rfl dX11_canBe_130 ?_
              refine r_goto E 135 (by decide) dX11_canBe_131 ?_
              exact hE _ _ _ _ _ _ (Nat.le_of_ble_eq_true rfl) (Nat.le_of_ble_eq_true rfl) dX11_canBe_135 (isB_nar isB_1) ⟨rfl, isB_1, hw⟩
        · have hw := ite_f hw c4
          refine r_aload_n E 11 0 rfl dX11_canBe_99 ?_
          refine r_iconst E 1 rfl dX11_canBe_100 ?_
          refine r_callVI E (m_X11_counted (EE_st E) (GX X) 1 h _ hw) lk_X11_309 (RM_mk (Nat.le_of_ble_eq_true rfl) (Nat.le_of_ble_eq_true rfl)) rfl rfl rfl rfl (Nat.le_of_ble_eq_true rfl) (adr_lt (Nat.le_of_ble_eq_true rfl)) (Nat.le_of_ble_eq_true rfl) rfl rfl (Nat.le_of_ble_eq_true rfl) (Nat.le_of_ble_eq_true rfl) dX11_canBe_101 (fun r8 u9 hw => ?_)
          obtain ⟨rfl, hw⟩ := hw
          refine r_iload_n E x2 rfl dX11_canBe_104 ?_
          refine r_icmp_lt E 112 (by decide) dX11_canBe_105 (fun c9 => ?_) (fun c9 => ?_)
          · have hw := ite_t hw c9
            refine r_iconst E 0 rfl dX11_canBe_112 ?_
            refine r_goto E 135 (by decide) dX11_canBe_113 ?_
            exact hE _ _ _ _ _ _ (Nat.le_of_ble_eq_true rfl) (Nat.le_of_ble_eq_true rfl) dX11_canBe_135 (isB_nar isB_0) ⟨rfl, isB_0, hw⟩
          · have hw := ite_f hw c9
            refine r_iconst E 1 rfl dX11_canBe_108 ?_
            refine r_goto E 135 (by decide) dX11_canBe_109 ?_
            exact hE _ _ _ _ _ _ (Nat.le_of_ble_eq_true rfl) (Nat.le_of_ble_eq_true rfl) dX11_canBe_135 (isB_nar isB_1) ⟨rfl, isB_1, hw⟩
      · have hw := ite_f hw c3
        refine r_aload_n E 11 0 rfl dX11_canBe_136 ?_
        refine r_getS E fd_X11_105 (t := 0) (j1 := 64) rfl rfl rfl rfl (Nat.le_of_ble_eq_true rfl) (adr_lt (Nat.le_of_ble_eq_true rfl)) dX11_canBe_137 ?_
        refine r_iload E s0 rfl dX11_canBe_140 ?_
        obtain ⟨i10, hw⟩ := hw
        refine r_iald E rfl rfl rfl (Nat.le_of_ble_eq_true rfl) (adr_lt (Nat.le_of_ble_eq_true rfl)) i10 dX11_canBe_142 ?_
        refine r_iconst E (-1) rfl dX11_canBe_143 ?_
        refine r_icmp_ne E 177 (by decide) dX11_canBe_144 (fun c11 => ?_) (fun c11 => ?_)
        · have hw := ite_t hw c11
          refine r_iload_n E x1 rfl dX11_canBe_147 ?_
          refine r_bipush E 122 rfl dX11_canBe_148 ?_
          refine r_icmp_ne E 171 (by decide) dX11_canBe_150 (fun c12 => ?_) (fun c12 => ?_)
          · have hw := ite_t hw c12
            refine r_iload_n E x3 rfl dX11_canBe_153 ?_
            refine r_if_eq E 167 (by decide) dX11_canBe_154 (fun c13 => ?_) (fun c13 => ?_)
            · have hw := ite_t hw c13
              refine r_iload_n E x2 rfl dX11_canBe_167 ?_
              refine r_if_le E 175 (by decide) dX11_canBe_168 (fun c14 => ?_) (fun c14 => ?_)
              · have hw := ite_t hw c14
                refine r_iconst E 0 rfl dX11_canBe_175 ?_
                exact hE _ _ _ _ _ _ (Nat.le_of_ble_eq_true rfl) (Nat.le_of_ble_eq_true rfl) dX11_canBe_176 (isB_nar isB_0) ⟨rfl, isB_0, hw⟩
              · have hw := ite_f hw c14
                refine r_iconst E 1 rfl dX11_canBe_171 ?_
                refine r_goto E 176 (by decide) dX11_canBe_172 ?_
                exact hE _ _ _ _ _ _ (Nat.le_of_ble_eq_true rfl) (Nat.le_of_ble_eq_true rfl) dX11_canBe_176 (isB_nar isB_1) ⟨rfl, isB_1, hw⟩
            · have hw := ite_f hw c13
              refine r_iload_n E x2 rfl dX11_canBe_157 ?_
              refine r_sipush E 999 rfl dX11_canBe_158 ?_
              refine r_icmp_ge E 175 (by decide) dX11_canBe_161 (fun c15 => ?_) (fun c15 => ?_)
              · have hw := ite_t hw c15
                refine r_iconst E 0 rfl dX11_canBe_175 ?_
                exact hE _ _ _ _ _ _ (Nat.le_of_ble_eq_true rfl) (Nat.le_of_ble_eq_true rfl) dX11_canBe_176 (isB_nar isB_0) ⟨rfl, isB_0, hw⟩
              · have hw := ite_f hw c15
                refine r_goto E 171 (by decide) dX11_canBe_164 ?_
                refine r_iconst E 1 rfl dX11_canBe_171 ?_
                refine r_goto E 176 (by decide) dX11_canBe_172 ?_
                exact hE _ _ _ _ _ _ (Nat.le_of_ble_eq_true rfl) (Nat.le_of_ble_eq_true rfl) dX11_canBe_176 (isB_nar isB_1) ⟨rfl, isB_1, hw⟩
          · have hw := ite_f hw c12
            refine r_iconst E 1 rfl dX11_canBe_171 ?_
            refine r_goto E 176 (by decide) dX11_canBe_172 ?_
            exact hE _ _ _ _ _ _ (Nat.le_of_ble_eq_true rfl) (Nat.le_of_ble_eq_true rfl) dX11_canBe_176 (isB_nar isB_1) ⟨rfl, isB_1, hw⟩
        · have hw := ite_f hw c11
          refine r_iload_n E x1 rfl dX11_canBe_177 ?_
          refine r_bipush E 102 rfl dX11_canBe_178 ?_
          refine r_icmp_eq E 189 (by decide) dX11_canBe_180 (fun c16 => ?_) (fun c16 => ?_)
          · have hw := ite_t hw c16
            exact GG_weak [true, false, true, true, true, false] rfl (t_X11_canBe_b189 h x2 x3 s0 E hE  hw)
          · have hw := ite_f hw c16
            refine r_iload_n E x1 rfl dX11_canBe_183 ?_
            refine r_bipush E 100 rfl dX11_canBe_184 ?_
            refine r_icmp_ne E 208 (by decide) dX11_canBe_186 (fun c17 => ?_) (fun c17 => ?_)
            · have hw := ite_t hw c17
              exact GG_weak [true, false, true, true, true, false] rfl (t_X11_canBe_b189 h x2 x3 s0 E hE  hw)
            · have hw := ite_f hw c17
              refine r_iload_n E x1 rfl dX11_canBe_208 ?_
              refine r_bipush E 122 rfl dX11_canBe_209 ?_
              refine r_icmp_ne E 238 (by decide) dX11_canBe_211 (fun c18 => ?_) (fun c18 => ?_)
              · have hw := ite_t hw c18
                refine r_aload_n E 11 0 rfl dX11_canBe_214 ?_
                refine r_getS E fd_X11_126 (t := 0) (j1 := 71) rfl rfl rfl rfl (Nat.le_of_ble_eq_true rfl) (adr_lt (Nat.le_of_ble_eq_true rfl)) dX11_canBe_215 ?_
                refine r_aload_n E 11 0 rfl dX11_canBe_218 ?_
                refine r_getS E fd_X11_105 (t := 0) (j1 := 64) rfl rfl rfl rfl (Nat.le_of_ble_eq_true rfl) (adr_lt (Nat.le_of_ble_eq_true rfl)) dX11_canBe_219 ?_
                refine r_iload E s0 rfl dX11_canBe_222 ?_
                refine r_iald E rfl rfl rfl (Nat.le_of_ble_eq_true rfl) (adr_lt (Nat.le_of_ble_eq_true rfl)) i10 dX11_canBe_224 ?_
                obtain ⟨i19, hw⟩ := hw
                refine r_iald E rfl rfl rfl (Nat.le_of_ble_eq_true rfl) (adr_lt (Nat.le_of_ble_eq_true rfl)) i19 dX11_canBe_225 ?_
                refine r_iload_n E x2 rfl dX11_canBe_226 ?_
                refine r_icmp_le E 234 (by decide) dX11_canBe_227 (fun c20 => ?_) (fun c20 => ?_)
                · have hw := ite_t hw c20
                  refine r_iconst E 0 rfl dX11_canBe_234 ?_
                  refine r_goto E 254 (by decide) dX11_canBe_235 ?_
                  exact GG_weak [false, false, false, true, false, false] rfl (t_X11_canBe_b254 h x3 0 E hE  hw)
                · have hw := ite_f hw c20
                  refine r_iconst E 1 rfl dX11_canBe_230 ?_
                  refine r_goto E 254 (by decide) dX11_canBe_231 ?_
                  exact GG_weak [false, false, false, true, false, false] rfl (t_X11_canBe_b254 h x3 1 E hE  hw)
              · have hw := ite_f hw c18
                refine r_aload_n E 11 0 rfl dX11_canBe_238 ?_
                refine r_getS E fd_X11_105 (t := 0) (j1 := 64) rfl rfl rfl rfl (Nat.le_of_ble_eq_true rfl) (adr_lt (Nat.le_of_ble_eq_true rfl)) dX11_canBe_239 ?_
                refine r_iload E s0 rfl dX11_canBe_242 ?_
                refine r_iald E rfl rfl rfl (Nat.le_of_ble_eq_true rfl) (adr_lt (Nat.le_of_ble_eq_true rfl)) i10 dX11_canBe_244 ?_
                refine r_iconst E 1 rfl dX11_canBe_245 ?_
                refine r_icmp_ne E 253 (by decide) dX11_canBe_246 (fun c21 => ?_) (fun c21 => ?_)
                · have hw := ite_t hw c21
                  refine r_iconst E 1 rfl dX11_canBe_249 ?_
                  refine r_goto E 254 (by decide) dX11_canBe_250 ?_
                  exact GG_weak [false, false, false, true, false, false] rfl (t_X11_canBe_b254 h x3 1 E hE  hw)
                · have hw := ite_f hw c21
                  refine r_iconst E 0 rfl dX11_canBe_253 ?_
                  exact GG_weak [false, false, false, true, false, false] rfl (t_X11_canBe_b254 h x3 0 E hE  hw)
set_option maxRecDepth 20000 in
theorem m_X11_canBe {l : Launch} (hl : l.stackTraces = false) (G : Gq) (p0 : Int32) (p1 : Int32) (p2 : Int32)  (h : Hp) (Q : Int32 → Prop) (hw : wp_X11_canBe p0 p1 p2 h Q) : MI l G yX11_canBe cX11_canBe 6 (some .boolean) rm_X11_canBe NT NT h (fun r => [r 11 0, .int p0, .int p1, .int p2]) (fun r u => h = u ∧ isB r ∧ Q r) := by
  refine MI_of (L0 := (fun X => [some (rf X 11 0), some (.int p0), some (.int p1), some (.int p2), none, none])) hl (by decide +kernel) rfl (fun _ => Nat.le_of_ble_eq_true rfl) (fun _ => rfl) fun X hXl hXG E hE => ?_
  subst hXl; subst hXG
  unfold wp_X11_canBe at hw
  refine r_iload_n E p0 rfl dX11_canBe_0 ?_
  refine r_bipush E 102 rfl dX11_canBe_1 ?_
  refine r_icmp_ne E 10 (by decide) dX11_canBe_3 (fun c1 => ?_) (fun c1 => ?_)
  · have hw := ite_t hw c1
    refine r_iconst E 0 rfl dX11_canBe_6 ?_
    refine r_goto E 59 (by decide) dX11_canBe_7 ?_
    exact GG_weak [true, true, true, true, false, false] rfl (t_X11_canBe_b59 h p0 p1 p2 0 E hE  hw)
  · have hw := ite_f hw c1
    refine r_iload_n E p0 rfl dX11_canBe_10 ?_
    refine r_bipush E 100 rfl dX11_canBe_11 ?_
    refine r_icmp_ne E 20 (by decide) dX11_canBe_13 (fun c2 => ?_) (fun c2 => ?_)
    · have hw := ite_t hw c2
      refine r_iconst E 1 rfl dX11_canBe_16 ?_
      refine r_goto E 59 (by decide) dX11_canBe_17 ?_
      exact GG_weak [true, true, true, true, false, false] rfl (t_X11_canBe_b59 h p0 p1 p2 1 E hE  hw)
    · have hw := ite_f hw c2
      refine r_iload_n E p0 rfl dX11_canBe_20 ?_
      refine r_bipush E 122 rfl dX11_canBe_21 ?_
      refine r_icmp_ne E 30 (by decide) dX11_canBe_23 (fun c3 => ?_) (fun c3 => ?_)
      · have hw := ite_t hw c3
        refine r_iconst E 2 rfl dX11_canBe_26 ?_
        refine r_goto E 59 (by decide) dX11_canBe_27 ?_
        exact GG_weak [true, true, true, true, false, false] rfl (t_X11_canBe_b59 h p0 p1 p2 2 E hE  hw)
      · have hw := ite_f hw c3
        refine r_iload_n E p0 rfl dX11_canBe_30 ?_
        refine r_bipush E 116 rfl dX11_canBe_31 ?_
        refine r_icmp_ne E 42 (by decide) dX11_canBe_33 (fun c4 => ?_) (fun c4 => ?_)
        · have hw := ite_t hw c4
          refine r_iconst E 3 rfl dX11_canBe_36 ?_
          refine r_iload_n E p1 rfl dX11_canBe_37 ?_
          refine r_iadd E dX11_canBe_38 ?_
          refine r_goto E 59 (by decide) dX11_canBe_39 ?_
          exact GG_weak [true, true, true, true, false, false] rfl (t_X11_canBe_b59 h p0 p1 p2 (3 + p1) E hE  hw)
        · have hw := ite_f hw c4
          refine r_iload_n E p0 rfl dX11_canBe_42 ?_
          refine r_bipush E 115 rfl dX11_canBe_43 ?_
          refine r_icmp_ne E 55 (by decide) dX11_canBe_45 (fun c5 => ?_) (fun c5 => ?_)
          · have hw := ite_t hw c5
            refine r_bipush E 13 rfl dX11_canBe_48 ?_
            refine r_iload_n E p1 rfl dX11_canBe_50 ?_
            refine r_iadd E dX11_canBe_51 ?_
            refine r_goto E 59 (by decide) dX11_canBe_52 ?_
            exact GG_weak [true, true, true, true, false, false] rfl (t_X11_canBe_b59 h p0 p1 p2 (13 + p1) E hE  hw)
          · have hw := ite_f hw c5
            refine r_bipush E 29 rfl dX11_canBe_55 ?_
            refine r_iload_n E p1 rfl dX11_canBe_57 ?_
            refine r_iadd E dX11_canBe_58 ?_
            exact GG_weak [true, true, true, true, false, false] rfl (t_X11_canBe_b59 h p0 p1 p2 (29 + p1) E hE  hw)
set_option maxRecDepth 20000 in
theorem t_X11_isPossible_b357 {X : Ctx} (h : Hp)   (E : EE X cX11_isPossible RX11 6 3 72 0 0) {Q : Int32 → Hp → Prop} (hE : ENDi X cX11_isPossible .boolean (fun r u => isB r ∧ Q r u) NT 0 0)  (hw : wp_X11_isPossible_b357  h  Q) : GG X 0 0 NT h [some (rf X 11 0), none, none, none, none, none] 357 [] := by
  unfold wp_X11_isPossible_b357 at hw
  refine r_aload_n E 11 0 rfl dX11_isPossible_357 ?_
  refine r_getS E fd_X11_123 (t := 0) (j1 := 70) rfl rfl rfl rfl (Nat.le_of_ble_eq_true rfl) (adr_lt (Nat.le_of_ble_eq_true rfl)) dX11_isPossible_358 ?_
  refine r_aload_n E 11 0 rfl dX11_isPossible_361 ?_
  refine r_getI E fd_X11_317 rfl (Nat.le_of_ble_eq_true rfl) (adr_lt (Nat.le_of_ble_eq_true rfl)) dX11_isPossible_362 ?_
  obtain ⟨i1, hw⟩ := hw
  refine r_zald E rfl rfl rfl (Nat.le_of_ble_eq_true rfl) (adr_lt (Nat.le_of_ble_eq_true rfl)) i1 dX11_isPossible_365 ?_
  refine r_if_eq E 385 (by decide) dX11_isPossible_366 (fun c2 => ?_) (fun c2 => ?_)
  · have hw := ite_t hw c2
    refine r_iconst E 0 rfl dX11_isPossible_385 ?_
    exact hE _ _ _ _ _ _ (Nat.le_of_ble_eq_true rfl) (Nat.le_of_ble_eq_true rfl) dX11_isPossible_386 (isB_nar isB_0) ⟨isB_0, hw⟩
  · have hw := ite_f hw c2
    refine r_aload_n E 11 0 rfl dX11_isPossible_369 ?_
    refine r_getS E fd_X11_120 (t := 0) (j1 := 69) rfl rfl rfl rfl (Nat.le_of_ble_eq_true rfl) (adr_lt (Nat.le_of_ble_eq_true rfl)) dX11_isPossible_370 ?_
    refine r_aload_n E 11 0 rfl dX11_isPossible_373 ?_
    refine r_getI E fd_X11_320 rfl (Nat.le_of_ble_eq_true rfl) (adr_lt (Nat.le_of_ble_eq_true rfl)) dX11_isPossible_374 ?_
    obtain ⟨i3, hw⟩ := hw
    refine r_zald E rfl rfl rfl (Nat.le_of_ble_eq_true rfl) (adr_lt (Nat.le_of_ble_eq_true rfl)) i3 dX11_isPossible_377 ?_
    refine r_if_eq E 385 (by decide) dX11_isPossible_378 (fun c4 => ?_) (fun c4 => ?_)
    · have hw := ite_t hw c4
      refine r_iconst E 0 rfl dX11_isPossible_385 ?_
      exact hE _ _ _ _ _ _ (Nat.le_of_ble_eq_true rfl) (Nat.le_of_ble_eq_true rfl) dX11_isPossible_386 (isB_nar isB_0) ⟨isB_0, hw⟩
    · have hw := ite_f hw c4
      refine r_iconst E 1 rfl dX11_isPossible_381 ?_
      refine r_goto E 386 (by decide) dX11_isPossible_382 ?_
      exact hE _ _ _ _ _ _ (Nat.le_of_ble_eq_true rfl) (Nat.le_of_ble_eq_true rfl) dX11_isPossible_386 (isB_nar isB_1) ⟨isB_1, hw⟩
set_option maxRecDepth 20000 in
theorem t_X11_isPossible_b319 {X : Ctx} (h : Hp) (x1 : Int32)  (E : EE X cX11_isPossible RX11 6 3 72 0 0) {Q : Int32 → Hp → Prop} (hE : ENDi X cX11_isPossible .boolean (fun r u => isB r ∧ Q r u) NT 0 0) (P12 : Int32 → Hp → Prop) (hP12 : ∀ (y1 : Int32) (u : Hp), P12 y1 u → GG X 0 0 NT u [some (rf X 11 0), some (.int y1), none, none, none, none] 12 []) (hw : wp_X11_isPossible_b319 x1 h P12 Q) : GG X 0 0 NT h [some (rf X 11 0), some (.int x1), none, none, none, none] 319 [] := by
  unfold wp_X11_isPossible_b319 at hw
  obtain ⟨v1, hv1⟩ : ∃ y : Int32, y = x1 + 1 := ⟨_, rfl⟩
  have hw := hw v1 hv1
  refine r_iinc E x1 v1 [some (rf X 11 0), some (.int v1), none, none, none, none] rfl (by rw [hv1]; rfl) (Nat.le_of_ble_eq_true rfl) rfl dX11_isPossible_319 ?_
  refine r_goto E 12 (by decide) dX11_isPossible_322 ?_
  exact GG_weak [true, true, false, false, false, false] rfl (hP12 _ _ hw)
set_option maxRecDepth 20000 in
theorem t_X11_isPossible_b298 {X : Ctx} (h : Hp) (x1 : Int32)  (E : EE X cX11_isPossible RX11 6 3 72 0 0) {Q : Int32 → Hp → Prop} (hE : ENDi X cX11_isPossible .boolean (fun r u => isB r ∧ Q r u) NT 0 0) (P12 : Int32 → Hp → Prop) (hP12 : ∀ (y1 : Int32) (u : Hp), P12 y1 u → GG X 0 0 NT u [some (rf X 11 0), some (.int y1), none, none, none, none] 12 []) (hw : wp_X11_isPossible_b298 x1 h P12 Q) : GG X 0 0 NT h [some (rf X 11 0), some (.int x1), none, none, none, none] 298 [] := by
  unfold wp_X11_isPossible_b298 at hw
  refine r_aload_n E 11 0 rfl dX11_isPossible_298 ?_
  refine r_getS E fd_X11_129 (t := 0) (j1 := 72) rfl rfl rfl rfl (Nat.le_of_ble_eq_true rfl) (adr_lt (Nat.le_of_ble_eq_true rfl)) dX11_isPossible_299 ?_
  refine r_iload_n E x1 rfl dX11_isPossible_302 ?_
  obtain ⟨i1, hw⟩ := hw
  refine r_iald E rfl rfl rfl (Nat.le_of_ble_eq_true rfl) (adr_lt (Nat.le_of_ble_eq_true rfl)) i1 dX11_isPossible_303 ?_
  refine r_iconst E 1 rfl dX11_isPossible_304 ?_
  refine r_icmp_le E 319 (by decide) dX11_isPossible_305 (fun c2 => ?_) (fun c2 => ?_)
  · have hw := ite_t hw c2
    exact GG_weak [true, true, false, false, false, false] rfl (t_X11_isPossible_b319 h x1 E hE P12 hP12  hw)
  · have hw := ite_f hw c2
    refine r_aload_n E 11 0 rfl dX11_isPossible_308 ?_
    refine r_getS E fd_X11_123 (t := 0) (j1 := 70) rfl rfl rfl rfl (Nat.le_of_ble_eq_true rfl) (adr_lt (Nat.le_of_ble_eq_true rfl)) dX11_isPossible_309 ?_
    refine r_iload_n E x1 rfl dX11_isPossible_312 ?_
    refine r_zald E rfl rfl rfl (Nat.le_of_ble_eq_true rfl) (adr_lt (Nat.le_of_ble_eq_true rfl)) i1 dX11_isPossible_313 ?_
    refine r_if_ne E 319 (by decide) dX11_isPossible_314 (fun c3 => ?_) (fun c3 => ?_)
    · have hw := ite_t hw c3
      refine r_iconst E 0 rfl dX11_isPossible_317 ?_
      exact hE _ _ _ _ _ _ (Nat.le_of_ble_eq_true rfl) (Nat.le_of_ble_eq_true rfl) dX11_isPossible_318 (isB_nar isB_0) ⟨isB_0, hw⟩
    · have hw := ite_f hw c3
      exact GG_weak [true, true, false, false, false, false] rfl (t_X11_isPossible_b319 h x1 E hE P12 hP12  hw)
set_option maxRecDepth 20000 in
theorem t_X11_isPossible_b276 {X : Ctx} (h : Hp) (x1 : Int32) (s1 : Int32) (s2 : Int32)  (E : EE X cX11_isPossible RX11 6 3 72 0 0) {Q : Int32 → Hp → Prop} (hE : ENDi X cX11_isPossible .boolean (fun r u => isB r ∧ Q r u) NT 0 0) (P12 : Int32 → Hp → Prop) (hP12 : ∀ (y1 : Int32) (u : Hp), P12 y1 u → GG X 0 0 NT u [some (rf X 11 0), some (.int y1), none, none, none, none] 12 []) (hw : wp_X11_isPossible_b276 x1 s1 s2 h P12 Q) : GG X 0 0 NT h [some (rf X 11 0), some (.int x1), none, none, none, none] 276 [.int s2, .int s1, rf X 70 0] := by
  unfold wp_X11_isPossible_b276 at hw
  obtain ⟨i1, hw⟩ := hw
  refine r_zast E rfl rfl rfl (Nat.le_of_ble_eq_true rfl) (adr_lt (Nat.le_of_ble_eq_true rfl)) i1 rfl dX11_isPossible_276 ?_
  refine GG_toph fun h2 hh2 => ?_
  have hw := hw h2 hh2
  refine r_aload_n E 11 0 rfl dX11_isPossible_277 ?_
  refine r_getS E fd_X11_129 (t := 0) (j1 := 72) rfl rfl rfl rfl (Nat.le_of_ble_eq_true rfl) (adr_lt (Nat.le_of_ble_eq_true rfl)) dX11_isPossible_278 ?_
  refine r_iload_n E x1 rfl dX11_isPossible_281 ?_
  obtain ⟨i3, hw⟩ := hw
  refine r_iald E rfl rfl rfl (Nat.le_of_ble_eq_true rfl) (adr_lt (Nat.le_of_ble_eq_true rfl)) i3 dX11_isPossible_282 ?_
  refine r_iconst E 2 rfl dX11_isPossible_283 ?_
  refine r_irem E (by decide) dX11_isPossible_284 ?_
  refine r_iconst E 1 rfl dX11_isPossible_285 ?_
  refine r_icmp_ne E 298 (by decide) dX11_isPossible_286 (fun c4 => ?_) (fun c4 => ?_)
  · have hw := ite_t hw c4
    refine r_aload_n E 11 0 rfl dX11_isPossible_289 ?_
    refine r_getS E fd_X11_120 (t := 0) (j1 := 69) rfl rfl rfl rfl (Nat.le_of_ble_eq_true rfl) (adr_lt (Nat.le_of_ble_eq_true rfl)) dX11_isPossible_290 ?_
    refine r_iload_n E x1 rfl dX11_isPossible_293 ?_
    refine r_zald E rfl rfl rfl (Nat.le_of_ble_eq_true rfl) (adr_lt (Nat.le_of_ble_eq_true rfl)) i3 dX11_isPossible_294 ?_
    refine r_if_eq E 317 (by decide) dX11_isPossible_295 (fun c5 => ?_) (fun c5 => ?_)
    · have hw := ite_t hw c5
      refine r_iconst E 0 rfl dX11_isPossible_317 ?_
      exact hE _ _ _ _ _ _ (Nat.le_of_ble_eq_true rfl) (Nat.le_of_ble_eq_true rfl) dX11_isPossible_318 (isB_nar isB_0) ⟨isB_0, hw⟩
    · have hw := ite_f hw c5
      exact GG_weak [true, true, false, false, false, false] rfl (t_X11_isPossible_b298 h2 x1 E hE P12 hP12  hw)
  · have hw := ite_f hw c4
    exact GG_weak [true, true, false, false, false, false] rfl (t_X11_isPossible_b298 h2 x1 E hE P12 hP12  hw)
set_option maxRecDepth 20000 in
theorem t_X11_isPossible_b275 {X : Ctx} (h : Hp) (x1 : Int32) (s1 : Int32)  (E : EE X cX11_isPossible RX11 6 3 72 0 0) {Q : Int32 → Hp → Prop} (hE : ENDi X cX11_isPossible .boolean (fun r u => isB r ∧ Q r u) NT 0 0) (P12 : Int32 → Hp → Prop) (hP12 : ∀ (y1 : Int32) (u : Hp), P12 y1 u → GG X 0 0 NT u [some (rf X 11 0), some (.int y1), none, none, none, none] 12 []) (hw : wp_X11_isPossible_b275 x1 s1 h P12 Q) : GG X 0 0 NT h [some (rf X 11 0), some (.int x1), none, none, none, none] 275 [.int s1, rf X 70 0] := by
  unfold wp_X11_isPossible_b275 at hw
  refine r_iconst E 0 rfl dX11_isPossible_275 ?_
  exact GG_weak [true, true, false, false, false, false] rfl (t_X11_isPossible_b276 h x1 s1 0 E hE P12 hP12  hw)
set_option maxRecDepth 20000 in
theorem t_X11_isPossible_b244 {X : Ctx} (h : Hp) (x1 : Int32) (s1 : Int32)  (E : EE X cX11_isPossible RX11 6 3 72 0 0) {Q : Int32 → Hp → Prop} (hE : ENDi X cX11_isPossible .boolean (fun r u => isB r ∧ Q r u) NT 0 0) (P12 : Int32 → Hp → Prop) (hP12 : ∀ (y1 : Int32) (u : Hp), P12 y1 u → GG X 0 0 NT u [some (rf X 11 0), some (.int y1), none, none, none, none] 12 []) (hw : wp_X11_isPossible_b244 x1 s1 h P12 Q) : GG X 0 0 NT h [some (rf X 11 0), some (.int x1), none, none, none, none] 244 [.int s1, rf X 70 0] := by
  unfold wp_X11_isPossible_b244 at hw
  refine r_iconst E 1 rfl dX11_isPossible_244 ?_
  refine r_goto E 276 (by decide) dX11_isPossible_245 ?_
  exact GG_weak [true, true, false, false, false, false] rfl (t_X11_isPossible_b276 h x1 s1 1 E hE P12 hP12  hw)
set_option maxRecDepth 20000 in
theorem t_X11_isPossible_b183 {X : Ctx} (h : Hp) (x1 : Int32) (x2 : Int32) (x3 : Int32) (x4 : Int32) (x5 : Int32) (s1 : Int32) (s2 : Int32)  (E : EE X cX11_isPossible RX11 6 3 72 0 0) {Q : Int32 → Hp → Prop} (hE : ENDi X cX11_isPossible .boolean (fun r u => isB r ∧ Q r u) NT 0 0) (P12 : Int32 → Hp → Prop) (hP12 : ∀ (y1 : Int32) (u : Hp), P12 y1 u → GG X 0 0 NT u [some (rf X 11 0), some (.int y1), none, none, none, none] 12 []) (hw : wp_X11_isPossible_b183 x1 x2 x3 x4 x5 s1 s2 h P12 Q) : GG X 0 0 NT h [some (rf X 11 0), some (.int x1), some (.int x2), some (.int x3), some (.int x4), some (.int x5)] 183 [.int s2, .int s1, rf X 69 0] := by
  unfold wp_X11_isPossible_b183 at hw
  obtain ⟨i1, hw⟩ := hw
  refine r_zast E rfl rfl rfl (Nat.le_of_ble_eq_true rfl) (adr_lt (Nat.le_of_ble_eq_true rfl)) i1 rfl dX11_isPossible_183 ?_
  refine GG_toph fun h2 hh2 => ?_
  have hw := hw h2 hh2
  refine r_aload_n E 11 0 rfl dX11_isPossible_184 ?_
  refine r_getS E fd_X11_123 (t := 0) (j1 := 70) rfl rfl rfl rfl (Nat.le_of_ble_eq_true rfl) (adr_lt (Nat.le_of_ble_eq_true rfl)) dX11_isPossible_185 ?_
  refine r_iload_n E x1 rfl dX11_isPossible_188 ?_
  refine r_iload E x4 rfl dX11_isPossible_189 ?_
  refine r_if_ne E 204 (by decide) dX11_isPossible_191 (fun c3 => ?_) (fun c3 => ?_)
  · have hw := ite_t hw c3
    refine r_aload_n E 11 0 rfl dX11_isPossible_194 ?_
    refine r_iload_n E x2 rfl dX11_isPossible_195 ?_
    refine r_iload_n E x3 rfl dX11_isPossible_196 ?_
    refine r_iconst E 0 rfl dX11_isPossible_197 ?_
    refine r_callVI E (m_X11_canBe (EE_st E) (GX X) x2 x3 0 h2 _ hw) lk_X11_313 (RM_mk (Nat.le_of_ble_eq_true rfl) (Nat.le_of_ble_eq_true rfl)) rfl rfl rfl rfl (Nat.le_of_ble_eq_true rfl) (adr_lt (Nat.le_of_ble_eq_true rfl)) (Nat.le_of_ble_eq_true rfl) rfl rfl (Nat.le_of_ble_eq_true rfl) (Nat.le_of_ble_eq_true rfl) dX11_isPossible_198 (fun r4 u9 hw => ?_)
    obtain ⟨rfl, zr4, hw⟩ := hw
    refine r_goto E 276 (by decide) dX11_isPossible_201 ?_
    exact GG_weak [true, true, false, false, false, false] rfl (t_X11_isPossible_b276 h2 x1 x1 r4 E hE P12 hP12  hw)
  · have hw := ite_f hw c3
    refine r_iload_n E x2 rfl dX11_isPossible_204 ?_
    refine r_bipush E 33 rfl dX11_isPossible_205 ?_
    refine r_icmp_ne E 219 (by decide) dX11_isPossible_207 (fun c5 => ?_) (fun c5 => ?_)
    · have hw := ite_t hw c5
      refine r_aload_n E 11 0 rfl dX11_isPossible_210 ?_
      refine r_getS E fd_X11_120 (t := 0) (j1 := 69) rfl rfl rfl rfl (Nat.le_of_ble_eq_true rfl) (adr_lt (Nat.le_of_ble_eq_true rfl)) dX11_isPossible_211 ?_
      refine r_iload_n E x3 rfl dX11_isPossible_214 ?_
      obtain ⟨i6, hw⟩ := hw
      refine r_zald E rfl rfl rfl (Nat.le_of_ble_eq_true rfl) (adr_lt (Nat.le_of_ble_eq_true rfl)) i6 dX11_isPossible_215 ?_
      refine r_goto E 276 (by decide) dX11_isPossible_216 ?_
      exact GG_weak [true, true, false, false, false, false] rfl (t_X11_isPossible_b276 h2 x1 x1 (gI h2 69 0 x3.toNatClampNeg) E hE P12 hP12  hw)
    · have hw := ite_f hw c5
      refine r_iload_n E x2 rfl dX11_isPossible_219 ?_
      refine r_bipush E 38 rfl dX11_isPossible_220 ?_
      refine r_icmp_ne E 252 (by decide) dX11_isPossible_222 (fun c7 => ?_) (fun c7 => ?_)
      · have hw := ite_t hw c7
        refine r_aload_n E 11 0 rfl dX11_isPossible_225 ?_
        refine r_getS E fd_X11_123 (t := 0) (j1 := 70) rfl rfl rfl rfl (Nat.le_of_ble_eq_true rfl) (adr_lt (Nat.le_of_ble_eq_true rfl)) dX11_isPossible_226 ?_
        refine r_iload_n E x3 rfl dX11_isPossible_229 ?_
        obtain ⟨i8, hw⟩ := hw
        refine r_zald E rfl rfl rfl (Nat.le_of_ble_eq_true rfl) (adr_lt (Nat.le_of_ble_eq_true rfl)) i8 dX11_isPossible_230 ?_
        refine r_if_ne E 244 (by decide) dX11_isPossible_231 (fun c9 => ?_) (fun c9 => ?_)
        · have hw := ite_t hw c9
          refine r_aload_n E 11 0 rfl dX11_isPossible_234 ?_
          refine r_getS E fd_X11_123 (t := 0) (j1 := 70) rfl rfl rfl rfl (Nat.le_of_ble_eq_true rfl) (adr_lt (Nat.le_of_ble_eq_true rfl)) dX11_isPossible_235 ?_
          refine r_iload E x5 rfl dX11_isPossible_238 ?_
          obtain ⟨i10, hw⟩ := hw
          refine r_zald E rfl rfl rfl (Nat.le_of_ble_eq_true rfl) (adr_lt (Nat.le_of_ble_eq_true rfl)) i10 dX11_isPossible_240 ?_
          refine r_if_eq E 248 (by decide) dX11_isPossible_241 (fun c11 => ?_) (fun c11 => ?_)
          · have hw := ite_t hw c11
            refine r_iconst E 0 rfl dX11_isPossible_248 ?_
            refine r_goto E 276 (by decide) dX11_isPossible_249 ?_
            exact GG_weak [true, true, false, false, false, false] rfl (t_X11_isPossible_b276 h2 x1 x1 0 E hE P12 hP12  hw)
          · have hw := ite_f hw c11
            exact GG_weak [true, true, false, false, false, false] rfl (t_X11_isPossible_b244 h2 x1 x1 E hE P12 hP12  hw)
        · have hw := ite_f hw c9
          exact GG_weak [true, true, false, false, false, false] rfl (t_X11_isPossible_b244 h2 x1 x1 E hE P12 hP12  hw)
      · have hw := ite_f hw c7
        refine r_aload_n E 11 0 rfl dX11_isPossible_252 ?_
        refine r_getS E fd_X11_123 (t := 0) (j1 := 70) rfl rfl rfl rfl (Nat.le_of_ble_eq_true rfl) (adr_lt (Nat.le_of_ble_eq_true rfl)) dX11_isPossible_253 ?_
        refine r_iload_n E x3 rfl dX11_isPossible_256 ?_
        obtain ⟨i12, hw⟩ := hw
        refine r_zald E rfl rfl rfl (Nat.le_of_ble_eq_true rfl) (adr_lt (Nat.le_of_ble_eq_true rfl)) i12 dX11_isPossible_257 ?_
        refine r_if_eq E 275 (by decide) dX11_isPossible_258 (fun c13 => ?_) (fun c13 => ?_)
        · have hw := ite_t hw c13
          exact GG_weak [true, true, false, false, false, false] rfl (t_X11_isPossible_b275 h2 x1 x1 E hE P12 hP12  hw)
        · have hw := ite_f hw c13
          refine r_aload_n E 11 0 rfl dX11_isPossible_261 ?_
          refine r_getS E fd_X11_123 (t := 0) (j1 := 70) rfl rfl rfl rfl (Nat.le_of_ble_eq_true rfl) (adr_lt (Nat.le_of_ble_eq_true rfl)) dX11_isPossible_262 ?_
          refine r_iload E x5 rfl dX11_isPossible_265 ?_
          obtain ⟨i14, hw⟩ := hw
          refine r_zald E rfl rfl rfl (Nat.le_of_ble_eq_true rfl) (adr_lt (Nat.le_of_ble_eq_true rfl)) i14 dX11_isPossible_267 ?_
          refine r_if_eq E 275 (by decide) dX11_isPossible_268 (fun c15 => ?_) (fun c15 => ?_)
          · have hw := ite_t hw c15
            exact GG_weak [true, true, false, false, false, false] rfl (t_X11_isPossible_b275 h2 x1 x1 E hE P12 hP12  hw)
          · have hw := ite_f hw c15
            refine r_iconst E 1 rfl dX11_isPossible_271 ?_
            refine r_goto E 276 (by decide) dX11_isPossible_272 ?_
            exact GG_weak [true, true, false, false, false, false] rfl (t_X11_isPossible_b276 h2 x1 x1 1 E hE P12 hP12  hw)
set_option maxRecDepth 20000 in
theorem t_X11_isPossible_b178 {X : Ctx} (h : Hp) (x1 : Int32) (x2 : Int32) (x3 : Int32) (x4 : Int32) (x5 : Int32) (s1 : Int32)  (E : EE X cX11_isPossible RX11 6 3 72 0 0) {Q : Int32 → Hp → Prop} (hE : ENDi X cX11_isPossible .boolean (fun r u => isB r ∧ Q r u) NT 0 0) (P12 : Int32 → Hp → Prop) (hP12 : ∀ (y1 : Int32) (u : Hp), P12 y1 u → GG X 0 0 NT u [some (rf X 11 0), some (.int y1), none, none, none, none] 12 []) (hw : wp_X11_isPossible_b178 x1 x2 x3 x4 x5 s1 h P12 Q) : GG X 0 0 NT h [some (rf X 11 0), some (.int x1), some (.int x2), some (.int x3), some (.int x4), some (.int x5)] 178 [.int s1, rf X 69 0] := by
  unfold wp_X11_isPossible_b178 at hw
  refine r_iconst E 1 rfl dX11_isPossible_178 ?_
  refine r_goto E 183 (by decide) dX11_isPossible_179 ?_
  exact GG_weak [true, true, true, true, true, true] rfl (t_X11_isPossible_b183 h x1 x2 x3 x4 x5 s1 1 E hE P12 hP12  hw)
set_option maxRecDepth 20000 in
theorem t_X11_isPossible_b155 {X : Ctx} (h : Hp) (x1 : Int32) (x2 : Int32) (x3 : Int32) (x4 : Int32) (x5 : Int32) (s1 : Int32)  (E : EE X cX11_isPossible RX11 6 3 72 0 0) {Q : Int32 → Hp → Prop} (hE : ENDi X cX11_isPossible .boolean (fun r u => isB r ∧ Q r u) NT 0 0) (P12 : Int32 → Hp → Prop) (hP12 : ∀ (y1 : Int32) (u : Hp), P12 y1 u → GG X 0 0 NT u [some (rf X 11 0), some (.int y1), none, none, none, none] 12 []) (hw : wp_X11_isPossible_b155 x1 x2 x3 x4 x5 s1 h P12 Q) : GG X 0 0 NT h [some (rf X 11 0), some (.int x1), some (.int x2), some (.int x3), some (.int x4), some (.int x5)] 155 [.int s1, rf X 69 0] := by
  unfold wp_X11_isPossible_b155 at hw
  refine r_iconst E 0 rfl dX11_isPossible_155 ?_
  refine r_goto E 183 (by decide) dX11_isPossible_156 ?_
  exact GG_weak [true, true, true, true, true, true] rfl (t_X11_isPossible_b183 h x1 x2 x3 x4 x5 s1 0 E hE P12 hP12  hw)
set_option maxRecDepth 20000 in
theorem t_X11_isPossible_b89 {X : Ctx} (h : Hp) (x1 : Int32) (x2 : Int32) (x3 : Int32) (x4 : Int32) (s0 : Int32)  (E : EE X cX11_isPossible RX11 6 3 72 0 0) {Q : Int32 → Hp → Prop} (hE : ENDi X cX11_isPossible .boolean (fun r u => isB r ∧ Q r u) NT 0 0) (P12 : Int32 → Hp → Prop) (hP12 : ∀ (y1 : Int32) (u : Hp), P12 y1 u → GG X 0 0 NT u [some (rf X 11 0), some (.int y1), none, none, none, none] 12 []) (hw : wp_X11_isPossible_b89 x1 x2 x3 x4 s0 h P12 Q) : GG X 0 0 NT h [some (rf X 11 0), some (.int x1), some (.int x2), some (.int x3), some (.int x4), none] 89 [.int s0] := by
  unfold wp_X11_isPossible_b89 at hw
  refine r_istore E [some (rf X 11 0), some (.int x1), some (.int x2), some (.int x3), some (.int x4), some (.int s0)] (Nat.le_of_ble_eq_true rfl) rfl dX11_isPossible_89 ?_
  refine r_aload_n E 11 0 rfl dX11_isPossible_91 ?_
  refine r_getS E fd_X11_120 (t := 0) (j1 := 69) rfl rfl rfl rfl (Nat.le_of_ble_eq_true rfl) (adr_lt (Nat.le_of_ble_eq_true rfl)) dX11_isPossible_92 ?_
  refine r_iload_n E x1 rfl dX11_isPossible_95 ?_
  refine r_iload E x4 rfl dX11_isPossible_96 ?_
  refine r_if_ne E 111 (by decide) dX11_isPossible_98 (fun c1 => ?_) (fun c1 => ?_)
  · have hw := ite_t hw c1
    refine r_aload_n E 11 0 rfl dX11_isPossible_101 ?_
    refine r_iload_n E x2 rfl dX11_isPossible_102 ?_
    refine r_iload_n E x3 rfl dX11_isPossible_103 ?_
    refine r_iconst E 1 rfl dX11_isPossible_104 ?_
    refine r_callVI E (m_X11_canBe (EE_st E) (GX X) x2 x3 1 h _ hw) lk_X11_313 (RM_mk (Nat.le_of_ble_eq_true rfl) (Nat.le_of_ble_eq_true rfl)) rfl rfl rfl rfl (Nat.le_of_ble_eq_true rfl) (adr_lt (Nat.le_of_ble_eq_true rfl)) (Nat.le_of_ble_eq_true rfl) rfl rfl (Nat.le_of_ble_eq_true rfl) (Nat.le_of_ble_eq_true rfl) dX11_isPossible_105 (fun r2 u9 hw => ?_)
    obtain ⟨rfl, zr2, hw⟩ := hw
    refine r_goto E 183 (by decide) dX11_isPossible_108 ?_
    exact GG_weak [true, true, true, true, true, true] rfl (t_X11_isPossible_b183 h x1 x2 x3 x4 s0 x1 r2 E hE P12 hP12  hw)
  · have hw := ite_f hw c1
    refine r_iload_n E x2 rfl dX11_isPossible_111 ?_
    refine r_bipush E 33 rfl dX11_isPossible_112 ?_
    refine r_icmp_ne E 126 (by decide) dX11_isPossible_114 (fun c3 => ?_) (fun c3 => ?_)
    · have hw := ite_t hw c3
      refine r_aload_n E 11 0 rfl dX11_isPossible_117 ?_
      refine r_getS E fd_X11_123 (t := 0) (j1 := 70) rfl rfl rfl rfl (Nat.le_of_ble_eq_true rfl) (adr_lt (Nat.le_of_ble_eq_true rfl)) dX11_isPossible_118 ?_
      refine r_iload_n E x3 rfl dX11_isPossible_121 ?_
      obtain ⟨i4, hw⟩ := hw
      refine r_zald E rfl rfl rfl (Nat.le_of_ble_eq_true rfl) (adr_lt (Nat.le_of_ble_eq_true rfl)) i4 dX11_isPossible_122 ?_
      refine r_goto E 183 (by decide) dX11_isPossible_123 ?_
      exact GG_weak [true, true, true, true, true, true] rfl (t_X11_isPossible_b183 h x1 x2 x3 x4 s0 x1 (gI h 70 0 x3.toNatClampNeg) E hE P12 hP12  hw)
    · have hw := ite_f hw c3
      refine r_iload_n E x2 rfl dX11_isPossible_126 ?_
      refine r_bipush E 38 rfl dX11_isPossible_127 ?_
      refine r_icmp_ne E 159 (by decide) dX11_isPossible_129 (fun c5 => ?_) (fun c5 => ?_)
      · have hw := ite_t hw c5
        refine r_aload_n E 11 0 rfl dX11_isPossible_132 ?_
        refine r_getS E fd_X11_120 (t := 0) (j1 := 69) rfl rfl rfl rfl (Nat.le_of_ble_eq_true rfl) (adr_lt (Nat.le_of_ble_eq_true rfl)) dX11_isPossible_133 ?_
        refine r_iload_n E x3 rfl dX11_isPossible_136 ?_
        obtain ⟨i6, hw⟩ := hw
        refine r_zald E rfl rfl rfl (Nat.le_of_ble_eq_true rfl) (adr_lt (Nat.le_of_ble_eq_true rfl)) i6 dX11_isPossible_137 ?_
        refine r_if_eq E 155 (by decide) dX11_isPossible_138 (fun c7 => ?_) (fun c7 => ?_)
        · have hw := ite_t hw c7
          exact GG_weak [true, true, true, true, true, true] rfl (t_X11_isPossible_b155 h x1 x2 x3 x4 s0 x1 E hE P12 hP12  hw)
        · have hw := ite_f hw c7
          refine r_aload_n E 11 0 rfl dX11_isPossible_141 ?_
          refine r_getS E fd_X11_120 (t := 0) (j1 := 69) rfl rfl rfl rfl (Nat.le_of_ble_eq_true rfl) (adr_lt (Nat.le_of_ble_eq_true rfl)) dX11_isPossible_142 ?_
          refine r_iload E s0 rfl dX11_isPossible_145 ?_
          obtain ⟨i8, hw⟩ := hw
          refine r_zald E rfl rfl rfl (Nat.le_of_ble_eq_true rfl) (adr_lt (Nat.le_of_ble_eq_true rfl)) i8 dX11_isPossible_147 ?_
          refine r_if_eq E 155 (by decide) dX11_isPossible_148 (fun c9 => ?_) (fun c9 => ?_)
          · have hw := ite_t hw c9
            exact GG_weak [true, true, true, true, true, true] rfl (t_X11_isPossible_b155 h x1 x2 x3 x4 s0 x1 E hE P12 hP12  hw)
          · have hw := ite_f hw c9
            refine r_iconst E 1 rfl dX11_isPossible_151 ?_
            refine r_goto E 183 (by decide) dX11_isPossible_152 ?_
            exact GG_weak [true, true, true, true, true, true] rfl (t_X11_isPossible_b183 h x1 x2 x3 x4 s0 x1 1 E hE P12 hP12  hw)
      · have hw := ite_f hw c5
        refine r_aload_n E 11 0 rfl dX11_isPossible_159 ?_
        refine r_getS E fd_X11_120 (t := 0) (j1 := 69) rfl rfl rfl rfl (Nat.le_of_ble_eq_true rfl) (adr_lt (Nat.le_of_ble_eq_true rfl)) dX11_isPossible_160 ?_
        refine r_iload_n E x3 rfl dX11_isPossible_163 ?_
        obtain ⟨i10, hw⟩ := hw
        refine r_zald E rfl rfl rfl (Nat.le_of_ble_eq_true rfl) (adr_lt (Nat.le_of_ble_eq_true rfl)) i10 dX11_isPossible_164 ?_
        refine r_if_ne E 178 (by decide) dX11_isPossible_165 (fun c11 => ?_) (fun c11 => ?_)
        · have hw := ite_t hw c11
          refine r_aload_n E 11 0 rfl dX11_isPossible_168 ?_
          refine r_getS E fd_X11_120 (t := 0) (j1 := 69) rfl rfl rfl rfl (Nat.le_of_ble_eq_true rfl) (adr_lt (Nat.le_of_ble_eq_true rfl)) dX11_isPossible_169 ?_
          refine r_iload E s0 rfl dX11_isPossible_172 ?_
          obtain ⟨i12, hw⟩ := hw
          refine r_zald E rfl rfl rfl (Nat.le_of_ble_eq_true rfl) (adr_lt (Nat.le_of_ble_eq_true rfl)) i12 dX11_isPossible_174 ?_
          refine r_if_eq E 182 (by decide) dX11_isPossible_175 (fun c13 => ?_) (fun c13 => ?_)
          · have hw := ite_t hw c13
            refine r_iconst E 0 rfl dX11_isPossible_182 ?_
            exact GG_weak [true, true, true, true, true, true] rfl (t_X11_isPossible_b183 h x1 x2 x3 x4 s0 x1 0 E hE P12 hP12  hw)
          · have hw := ite_f hw c13
            exact GG_weak [true, true, true, true, true, true] rfl (t_X11_isPossible_b178 h x1 x2 x3 x4 s0 x1 E hE P12 hP12  hw)
        · have hw := ite_f hw c11
          exact GG_weak [true, true, true, true, true, true] rfl (t_X11_isPossible_b178 h x1 x2 x3 x4 s0 x1 E hE P12 hP12  hw)
set_option maxRecDepth 20000 in
theorem t_X11_isPossible_b61 {X : Ctx} (h : Hp) (x1 : Int32) (x2 : Int32) (x3 : Int32) (s0 : Int32)  (E : EE X cX11_isPossible RX11 6 3 72 0 0) {Q : Int32 → Hp → Prop} (hE : ENDi X cX11_isPossible .boolean (fun r u => isB r ∧ Q r u) NT 0 0) (P12 : Int32 → Hp → Prop) (hP12 : ∀ (y1 : Int32) (u : Hp), P12 y1 u → GG X 0 0 NT u [some (rf X 11 0), some (.int y1), none, none, none, none] 12 []) (hw : wp_X11_isPossible_b61 x1 x2 x3 s0 h P12 Q) : GG X 0 0 NT h [some (rf X 11 0), some (.int x1), some (.int x2), some (.int x3), none, none] 61 [.int s0] := by
  unfold wp_X11_isPossible_b61 at hw
  refine r_istore E [some (rf X 11 0), some (.int x1), some (.int x2), some (.int x3), some (.int s0), none] (Nat.le_of_ble_eq_true rfl) rfl dX11_isPossible_61 ?_
  refine r_iload_n E x2 rfl dX11_isPossible_63 ?_
  refine r_callSI E (m_X11_isPair (EE_st E) (GX X) x2 h _ hw) lk_X11_169 (RM_mk (Nat.le_of_ble_eq_true rfl) (Nat.le_of_ble_eq_true rfl)) rfl rfl rfl rfl (Nat.le_of_ble_eq_true rfl) rfl rfl (Nat.le_of_ble_eq_true rfl) (Nat.le_of_ble_eq_true rfl) dX11_isPossible_64 (fun r1 u9 hw => ?_)
  obtain ⟨rfl, zr1, hw⟩ := hw
  refine r_if_eq E 79 (by decide) dX11_isPossible_67 (fun c2 => ?_) (fun c2 => ?_)
  · have hw := ite_t hw c2
    refine r_iload E s0 rfl dX11_isPossible_79 ?_
    refine r_if_eq E 88 (by decide) dX11_isPossible_81 (fun c3 => ?_) (fun c3 => ?_)
    · have hw := ite_t hw c3
      refine r_iconst E 0 rfl dX11_isPossible_88 ?_
      exact GG_weak [true, true, true, true, true, false] rfl (t_X11_isPossible_b89 h x1 x2 x3 s0 0 E hE P12 hP12  hw)
    · have hw := ite_f hw c3
      refine r_iload_n E x3 rfl dX11_isPossible_84 ?_
      refine r_goto E 89 (by decide) dX11_isPossible_85 ?_
      exact GG_weak [true, true, true, true, true, false] rfl (t_X11_isPossible_b89 h x1 x2 x3 s0 x3 E hE P12 hP12  hw)
  · have hw := ite_f hw c2
    refine r_aload_n E 11 0 rfl dX11_isPossible_70 ?_
    refine r_getS E fd_X11_66 (t := 0) (j1 := 51) rfl rfl rfl rfl (Nat.le_of_ble_eq_true rfl) (adr_lt (Nat.le_of_ble_eq_true rfl)) dX11_isPossible_71 ?_
    refine r_iload_n E x1 rfl dX11_isPossible_74 ?_
    obtain ⟨i4, hw⟩ := hw
    refine r_iald E rfl rfl rfl (Nat.le_of_ble_eq_true rfl) (adr_lt (Nat.le_of_ble_eq_true rfl)) i4 dX11_isPossible_75 ?_
    refine r_goto E 89 (by decide) dX11_isPossible_76 ?_
    exact GG_weak [true, true, true, true, true, false] rfl (t_X11_isPossible_b89 h x1 x2 x3 s0 (gI h 51 0 x1.toNatClampNeg) E hE P12 hP12  hw)
set_option maxRecDepth 20000 in
theorem t_X11_isPossible_b56 {X : Ctx} (h : Hp) (x1 : Int32) (x2 : Int32) (x3 : Int32)  (E : EE X cX11_isPossible RX11 6 3 72 0 0) {Q : Int32 → Hp → Prop} (hE : ENDi X cX11_isPossible .boolean (fun r u => isB r ∧ Q r u) NT 0 0) (P12 : Int32 → Hp → Prop) (hP12 : ∀ (y1 : Int32) (u : Hp), P12 y1 u → GG X 0 0 NT u [some (rf X 11 0), some (.int y1), none, none, none, none] 12 []) (hw : wp_X11_isPossible_b56 x1 x2 x3 h P12 Q) : GG X 0 0 NT h [some (rf X 11 0), some (.int x1), some (.int x2), some (.int x3), none, none] 56 [] := by
  unfold wp_X11_isPossible_b56 at hw
  refine r_iconst E 1 rfl dX11_isPossible_56 ?_
  refine r_goto E 61 (by decide) dX11_isPossible_57 ?_
  exact GG_weak [true, true, true, true, false, false] rfl (t_X11_isPossible_b61 h x1 x2 x3 1 E hE P12 hP12  hw)
set_option maxRecDepth 20000 in
theorem t_X11_isPossible_b12F {X : Ctx} (h : Hp) (x1 : Int32)  (E : EE X cX11_isPossible RX11 6 3 72 0 0) {Q : Int32 → Hp → Prop} (hE : ENDi X cX11_isPossible .boolean (fun r u => isB r ∧ Q r u) NT 0 0)  (P12 : Int32 → Hp → Prop) (hP12 : ∀ (y1 : Int32) (u : Hp), P12 y1 u → GG X 0 0 NT u [some (rf X 11 0), some (.int y1), none, none, none, none] 12 []) (hw : wp_X11_isPossible_b12F    Q P12 x1 h) : GG X 0 0 NT h [some (rf X 11 0), some (.int x1), none, none, none, none] 12 [] := by
  unfold wp_X11_isPossible_b12F at hw
  refine r_iload_n E x1 rfl dX11_isPossible_12 ?_
  refine r_aload_n E 11 0 rfl dX11_isPossible_13 ?_
  refine r_getI E fd_X11_173 rfl (Nat.le_of_ble_eq_true rfl) (adr_lt (Nat.le_of_ble_eq_true rfl)) dX11_isPossible_14 ?_
  refine r_icmp_ge E 325 (by decide) dX11_isPossible_17 (fun c1 => ?_) (fun c1 => ?_)
  · have hw := ite_t hw c1
    refine r_aload_n E 11 0 rfl dX11_isPossible_325 ?_
    refine r_getI E fd_X11_317 rfl (Nat.le_of_ble_eq_true rfl) (adr_lt (Nat.le_of_ble_eq_true rfl)) dX11_isPossible_326 ?_
    refine r_iconst E (-1) rfl dX11_isPossible_329 ?_
    refine r_icmp_eq E 381 (by decide) dX11_isPossible_330 (fun c2 => ?_) (fun c2 => ?_)
    · have hw := ite_t hw c2
      refine r_iconst E 1 rfl dX11_isPossible_381 ?_
      refine r_goto E 386 (by decide) dX11_isPossible_382 ?_
      exact hE _ _ _ _ _ _ (Nat.le_of_ble_eq_true rfl) (Nat.le_of_ble_eq_true rfl) dX11_isPossible_386 (isB_nar isB_1) ⟨isB_1, hw⟩
    · have hw := ite_f hw c2
      refine r_aload_n E 11 0 rfl dX11_isPossible_333 ?_
      refine r_getS E fd_X11_120 (t := 0) (j1 := 69) rfl rfl rfl rfl (Nat.le_of_ble_eq_true rfl) (adr_lt (Nat.le_of_ble_eq_true rfl)) dX11_isPossible_334 ?_
      refine r_aload_n E 11 0 rfl dX11_isPossible_337 ?_
      refine r_getI E fd_X11_317 rfl (Nat.le_of_ble_eq_true rfl) (adr_lt (Nat.le_of_ble_eq_true rfl)) dX11_isPossible_338 ?_
      obtain ⟨i3, hw⟩ := hw
      refine r_zald E rfl rfl rfl (Nat.le_of_ble_eq_true rfl) (adr_lt (Nat.le_of_ble_eq_true rfl)) i3 dX11_isPossible_341 ?_
      refine r_if_eq E 357 (by decide) dX11_isPossible_342 (fun c4 => ?_) (fun c4 => ?_)
      · have hw := ite_t hw c4
        exact GG_weak [true, false, false, false, false, false] rfl (t_X11_isPossible_b357 h  E hE  hw)
      · have hw := ite_f hw c4
        refine r_aload_n E 11 0 rfl dX11_isPossible_345 ?_
        refine r_getS E fd_X11_123 (t := 0) (j1 := 70) rfl rfl rfl rfl (Nat.le_of_ble_eq_true rfl) (adr_lt (Nat.le_of_ble_eq_true rfl)) dX11_isPossible_346 ?_
        refine r_aload_n E 11 0 rfl dX11_isPossible_349 ?_
        refine r_getI E fd_X11_320 rfl (Nat.le_of_ble_eq_true rfl) (adr_lt (Nat.le_of_ble_eq_true rfl)) dX11_isPossible_350 ?_
        obtain ⟨i5, hw⟩ := hw
        refine r_zald E rfl rfl rfl (Nat.le_of_ble_eq_true rfl) (adr_lt (Nat.le_of_ble_eq_true rfl)) i5 dX11_isPossible_353 ?_
        refine r_if_ne E 381 (by decide) dX11_isPossible_354 (fun c6 => ?_) (fun c6 => ?_)
        · have hw := ite_t hw c6
          exact GG_weak [true, false, false, false, false, false] rfl (t_X11_isPossible_b357 h  E hE  hw)
        · have hw := ite_f hw c6
          refine r_iconst E 1 rfl dX11_isPossible_381 ?_
          refine r_goto E 386 (by decide) dX11_isPossible_382 ?_
          exact hE _ _ _ _ _ _ (Nat.le_of_ble_eq_true rfl) (Nat.le_of_ble_eq_true rfl) dX11_isPossible_386 (isB_nar isB_1) ⟨isB_1, hw⟩
  · have hw := ite_f hw c1
    refine r_aload_n E 11 0 rfl dX11_isPossible_20 ?_
    refine r_getS E fd_X11_117 (t := 0) (j1 := 68) rfl rfl rfl rfl (Nat.le_of_ble_eq_true rfl) (adr_lt (Nat.le_of_ble_eq_true rfl)) dX11_isPossible_21 ?_
    refine r_iload_n E x1 rfl dX11_isPossible_24 ?_
    obtain ⟨i7, hw⟩ := hw
    refine r_zald E rfl rfl rfl (Nat.le_of_ble_eq_true rfl) (adr_lt (Nat.le_of_ble_eq_true rfl)) i7 dX11_isPossible_25 ?_
    refine r_if_eq E 319 (by decide) dX11_isPossible_26 (fun c8 => ?_) (fun c8 => ?_)
    · have hw := ite_t hw c8
      exact GG_weak [true, true, false, false, false, false] rfl (t_X11_isPossible_b319 h x1 E hE P12 hP12  hw)
    · have hw := ite_f hw c8
      refine r_aload_n E 11 0 rfl dX11_isPossible_29 ?_
      refine r_getS E fd_X11_59 (t := 0) (j1 := 49) rfl rfl rfl rfl (Nat.le_of_ble_eq_true rfl) (adr_lt (Nat.le_of_ble_eq_true rfl)) dX11_isPossible_30 ?_
      refine r_iload_n E x1 rfl dX11_isPossible_33 ?_
      refine r_cald E rfl rfl rfl (Nat.le_of_ble_eq_true rfl) (adr_lt (Nat.le_of_ble_eq_true rfl)) i7 dX11_isPossible_34 ?_
      refine GG_topI fun v9 hv9 => ?_
      have hw := hw v9 hv9
      refine r_istore_n E [some (rf X 11 0), some (.int x1), some (.int v9), none, none, none] rfl (Nat.le_of_ble_eq_true rfl) rfl dX11_isPossible_35 ?_
      refine r_aload_n E 11 0 rfl dX11_isPossible_36 ?_
      refine r_getS E fd_X11_63 (t := 0) (j1 := 50) rfl rfl rfl rfl (Nat.le_of_ble_eq_true rfl) (adr_lt (Nat.le_of_ble_eq_true rfl)) dX11_isPossible_37 ?_
      refine r_iload_n E x1 rfl dX11_isPossible_40 ?_
      refine r_iald E rfl rfl rfl (Nat.le_of_ble_eq_true rfl) (adr_lt (Nat.le_of_ble_eq_true rfl)) i7 dX11_isPossible_41 ?_
      refine GG_topI fun v10 hv10 => ?_
      have hw := hw v10 hv10
      refine r_istore_n E [some (rf X 11 0), some (.int x1), some (.int v9), some (.int v10), none, none] rfl (Nat.le_of_ble_eq_true rfl) rfl dX11_isPossible_42 ?_
      refine r_iload_n E v9 rfl dX11_isPossible_43 ?_
      refine r_bipush E 33 rfl dX11_isPossible_44 ?_
      refine r_icmp_eq E 56 (by decide) dX11_isPossible_46 (fun c11 => ?_) (fun c11 => ?_)
      · have hw := ite_t hw c11
        exact GG_weak [true, true, true, true, false, false] rfl (t_X11_isPossible_b56 h x1 v9 v10 E hE P12 hP12  hw)
      · have hw := ite_f hw c11
        refine r_iload_n E v9 rfl dX11_isPossible_49 ?_
        refine r_callSI E (m_X11_isPair (EE_st E) (GX X) v9 h _ hw) lk_X11_169 (RM_mk (Nat.le_of_ble_eq_true rfl) (Nat.le_of_ble_eq_true rfl)) rfl rfl rfl rfl (Nat.le_of_ble_eq_true rfl) rfl rfl (Nat.le_of_ble_eq_true rfl) (Nat.le_of_ble_eq_true rfl) dX11_isPossible_50 (fun r12 u9 hw => ?_)
        obtain ⟨rfl, zr12, hw⟩ := hw
        refine r_if_eq E 60 (by decide) dX11_isPossible_53 (fun c13 => ?_) (fun c13 => ?_)
        · have hw := ite_t hw c13
          refine r_iconst E 0 rfl dX11_isPossible_60 ?_
          exact GG_weak [true, true, true, true, false, false] rfl (t_X11_isPossible_b61 h x1 v9 v10 0 E hE P12 hP12  hw)
        · have hw := ite_f hw c13
          exact GG_weak [true, true, true, true, false, false] rfl (t_X11_isPossible_b56 h x1 v9 v10 E hE P12 hP12  hw)
set_option maxRecDepth 20000 in
theorem t_X11_isPossible_b12 {X : Ctx} (h : Hp) (x1 : Int32)  (E : EE X cX11_isPossible RX11 6 3 72 0 0) {Q : Int32 → Hp → Prop} (hE : ENDi X cX11_isPossible .boolean (fun r u => isB r ∧ Q r u) NT 0 0)  (hw : wp_X11_isPossible_b12 x1 h  Q) : GG X 0 0 NT h [some (rf X 11 0), some (.int x1), none, none, none, none] 12 [] :=
  hw (fun y1 u => GG X 0 0 NT u [some (rf X 11 0), some (.int y1), none, none, none, none] 12 []) (fun y1 u hq => t_X11_isPossible_b12F u y1  E hE  (fun y1 u => GG X 0 0 NT u [some (rf X 11 0), some (.int y1), none, none, none, none] 12 []) (fun y1 u q => q) hq)
set_option maxRecDepth 20000 in
theorem m_X11_isPossible {l : Launch} (hl : l.stackTraces = false) (G : Gq)   (h : Hp) (Q : Int32 → Hp → Prop) (hw : wp_X11_isPossible  h Q) : MI l G yX11_isPossible cX11_isPossible 6 (some .boolean) rm_X11_isPossible NT NT h (fun r => [r 11 0]) (fun r u => isB r ∧ Q r u) := by
  refine MI_of (L0 := (fun X => [some (rf X 11 0), none, none, none, none, none])) hl (by decide +kernel) rfl (fun _ => Nat.le_of_ble_eq_true rfl) (fun _ => rfl) fun X hXl hXG E hE => ?_
  subst hXl; subst hXG
  unfold wp_X11_isPossible at hw
  refine r_aload_n E 11 0 rfl dX11_isPossible_0 ?_
  refine r_iconst E 1 rfl dX11_isPossible_1 ?_
  refine r_callVI E (m_X11_counted (EE_st E) (GX X) 1 h _ hw) lk_X11_309 (RM_mk (Nat.le_of_ble_eq_true rfl) (Nat.le_of_ble_eq_true rfl)) rfl rfl rfl rfl (Nat.le_of_ble_eq_true rfl) (adr_lt (Nat.le_of_ble_eq_true rfl)) (Nat.le_of_ble_eq_true rfl) rfl rfl (Nat.le_of_ble_eq_true rfl) (Nat.le_of_ble_eq_true rfl) dX11_isPossible_2 (fun r1 u9 hw => ?_)
  obtain ⟨rfl, hw⟩ := hw
  refine r_if_ne E 10 (by decide) dX11_isPossible_5 (fun c2 => ?_) (fun c2 => ?_)
  · have hw := ite_t hw c2
    refine r_iconst E 0 rfl dX11_isPossible_8 ?_
    exact hE _ _ _ _ _ _ (Nat.le_of_ble_eq_true rfl) (Nat.le_of_ble_eq_true rfl) dX11_isPossible_9 (isB_nar isB_0) ⟨isB_0, hw⟩
  · have hw := ite_f hw c2
    refine r_iconst E 0 rfl dX11_isPossible_10 ?_
    refine r_istore_n E [some (rf X 11 0), some (.int 0), none, none, none, none] rfl (Nat.le_of_ble_eq_true rfl) rfl dX11_isPossible_11 ?_
    exact GG_weak [true, true, false, false, false, false] rfl (t_X11_isPossible_b12 h 0 E hE  hw)
