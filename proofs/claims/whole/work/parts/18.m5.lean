def rm_X11_isSome : Room := { frames := 4, cells := 0, slots := 0, locals := 97 }
def wp_X11_isSome_b125 (x1 : Int32) (h : Hp)  (Q : Int32 → Hp → Prop) : Prop := if x1 < 0 then (Q 0 h) else (Q 1 h)
def wp_X11_isSome_b122 (x1 : Int32) (h : Hp) (P29 : Int32 → Hp → Prop) (Q : Int32 → Hp → Prop) : Prop := P29 x1 h
def wp_X11_isSome_b29F    (Q : Int32 → Hp → Prop) (P29 : Int32 → Hp → Prop) (x1 : Int32) (h : Hp) : Prop := if x1 < 0 then (wp_X11_isSome_b125 x1 h Q) else (if (gI h 11 0 58) ≤ x1 then (wp_X11_isSome_b125 x1 h Q) else (vp_in x1 45 ∧ LET (gI h 66 0 x1.toNatClampNeg) fun v4 => wp_X11_domain v4 h (fun r5 => if (gI h 67 0 x1.toNatClampNeg) = r5 then (vp_in v4 45 ∧ LET (sI h 64 0 v4.toNatClampNeg (-1)) fun h8 => LET (x1 + (-1)) fun v9 => wp_X11_isSome_b122 v9 h8 P29 Q) else (vp_in v4 45 ∧ LET (sI h 64 0 v4.toNatClampNeg (gI h 67 0 x1.toNatClampNeg)) fun h11 => LET (sI h11 67 0 x1.toNatClampNeg ((gI h11 67 0 x1.toNatClampNeg) + 1)) fun h12 => wp_X11_isPossible h12 (fun r13 h14 => if r13 = 0 then (wp_X11_isSome_b122 x1 h14 P29 Q) else (LET (x1 + 1) fun v16 => if (gI h14 11 0 58) ≤ v16 then (wp_X11_isSome_b122 v16 h14 P29 Q) else (vp_in v16 45 ∧ LET (sI h14 67 0 v16.toNatClampNeg 0) fun h19 => wp_X11_isSome_b122 v16 h19 P29 Q)))))))
def wp_X11_isSome_b29 (x1 : Int32) (h : Hp)  (Q : Int32 → Hp → Prop) : Prop := LFP2 (wp_X11_isSome_b29F    Q) x1 h
def wp_X11_isSome  (h : Hp) (Q : Int32 → Hp → Prop) : Prop := wp_X11_gathers h (fun h1 => wp_X11_isPossible h1 (fun r2 h3 => if r2 = 0 then (Q 0 h3) else (if (gI h3 11 0 58) ≤ 0 then (wp_X11_isSome_b29 0 h3 Q) else (vp_in 0 45 ∧ LET (sI h3 67 0 (0 : Int32).toNatClampNeg 0) fun h7 => wp_X11_isSome_b29 0 h7 Q))))
def rm_X11_wantsNothing : Room := { frames := 1, cells := 0, slots := 0, locals := 24 }
def wp_X11_wantsNothing_b2F    (Q : Hp → Prop) (P2 : Int32 → Hp → Prop) (x1 : Int32) (h : Hp) : Prop := if 60 ≤ x1 then (LET (sI h 11 0 65 (-1)) fun h2 => LET (sI h2 11 0 66 (-1)) fun h3 => Q h3) else (vp_in x1 60 ∧ LET (sI h 68 0 x1.toNatClampNeg (vp_nar .boolean 0)) fun h5 => LET (sI h5 72 0 x1.toNatClampNeg 0) fun h6 => LET (x1 + 1) fun v7 => P2 v7 h6)
def wp_X11_wantsNothing_b2 (x1 : Int32) (h : Hp)  (Q : Hp → Prop) : Prop := LFP2 (wp_X11_wantsNothing_b2F    Q) x1 h
def wp_X11_wantsNothing  (h : Hp) (Q : Hp → Prop) : Prop := wp_X11_wantsNothing_b2 0 h Q
def rm_X11_wants : Room := { frames := 1, cells := 0, slots := 0, locals := 24 }
def wp_X11_wants (p0 : Int32) (p1 : Int32) (h : Hp) (Q : Hp → Prop) : Prop := vp_in p0 60 ∧ LET (sI h 68 0 p0.toNatClampNeg (vp_nar .boolean 1)) fun h2 => LET (sI h2 72 0 p0.toNatClampNeg ((gI h2 72 0 p0.toNatClampNeg) ||| p1)) fun h3 => Q h3
def rm_X11_ends : Room := { frames := 1, cells := 0, slots := 0, locals := 24 }
def wp_X11_ends_b2F (x1 : Int32) (h : Hp)  (Q : Int32 → Prop) (P2 : Int32 → Prop) (x2 : Int32)  : Prop := vp_in x1 48 ∧ if (gI h 55 0 x1.toNatClampNeg) ≤ x2 then (Q 0) else (vp_in ((5 * x1) + x2) 240 ∧ if (gI h 56 0 ((5 * x1) + x2).toNatClampNeg) = 115 then (Q 1) else (if (gI h 56 0 ((5 * x1) + x2).toNatClampNeg) = 83 then (Q 1) else (LET (x2 + 1) fun v6 => P2 v6)))
def wp_X11_ends_b2 (x1 : Int32) (x2 : Int32) (h : Hp)  (Q : Int32 → Prop) : Prop := LFP1 (wp_X11_ends_b2F x1 h  Q) x2 
def wp_X11_ends (p0 : Int32) (h : Hp) (Q : Int32 → Prop) : Prop := wp_X11_ends_b2 p0 0 h Q
def rm_X11_isShadowed : Room := { frames := 5, cells := 0, slots := 0, locals := 119 }
def wp_X11_isShadowed_b67 (x1 : Int32) (x2 : Int32) (x3 : Int32) (h : Hp) (P33 : Int32 → Hp → Prop) (Q : Int32 → Hp → Prop) : Prop := LET (x3 + 1) fun v1 => P33 v1 h
def wp_X11_isShadowed_b33F (x1 : Int32) (x2 : Int32)   (Q : Int32 → Hp → Prop) (P33 : Int32 → Hp → Prop) (x3 : Int32) (h : Hp) : Prop := if x2 ≤ x3 then (vp_in ((12 * x1) + x2) 48 ∧ wp_X11_wants (gI h 54 0 ((12 * x1) + x2).toNatClampNeg) 1 h (fun h3 => wp_X11_isSome h3 (fun r4 h5 => if r4 = 0 then (Q 1 h5) else (Q 0 h5)))) else (wp_X11_ends ((12 * x1) + x3) h (fun r7 => if r7 = 0 then (wp_X11_isShadowed_b67 x1 x2 x3 h P33 Q) else (vp_in ((12 * x1) + x3) 48 ∧ wp_X11_wants (gI h 54 0 ((12 * x1) + x3).toNatClampNeg) 2 h (fun h10 => wp_X11_isShadowed_b67 x1 x2 x3 h10 P33 Q))))
def wp_X11_isShadowed_b33 (x1 : Int32) (x2 : Int32) (x3 : Int32) (h : Hp)  (Q : Int32 → Hp → Prop) : Prop := LFP2 (wp_X11_isShadowed_b33F x1 x2   Q) x3 h
def wp_X11_isShadowed_b15 (x1 : Int32) (x2 : Int32) (s1 : Int32) (h : Hp)  (Q : Int32 → Hp → Prop) : Prop := LET (sI h 11 0 0 s1) fun h1 => if (gI h1 11 0 0) ≤ 0 then (wp_X11_wantsNothing h1 (fun h3 => wp_X11_isShadowed_b33 x1 x2 0 h3 Q)) else (Q 0 h1)
def wp_X11_isShadowed (p0 : Int32) (p1 : Int32) (h : Hp) (Q : Int32 → Hp → Prop) : Prop := wp_X11_isRule p0 p1 h (fun r1 => if r1 = 0 then (wp_X11_isShadowed_b15 p0 p1 1 h Q) else (wp_X11_isShadowed_b15 p0 p1 0 h Q))
def rm_X11_areSame : Room := { frames := 5, cells := 0, slots := 0, locals := 119 }
def wp_X11_areSame_b22 (x1 : Int32) (x2 : Int32) (s1 : Int32) (h : Hp)  (Q : Int32 → Hp → Prop) : Prop := LET (sI h 11 0 0 s1) fun h1 => if (gI h1 11 0 0) ≤ 0 then (wp_X11_wantsNothing h1 (fun h3 => vp_in x1 60 ∧ LET (sI h3 68 0 x1.toNatClampNeg (vp_nar .boolean 1)) fun h5 => vp_in x2 60 ∧ LET (sI h5 68 0 x2.toNatClampNeg (vp_nar .boolean 1)) fun h7 => LET (sI h7 11 0 65 x1) fun h8 => LET (sI h8 11 0 66 x2) fun h9 => wp_X11_isSome h9 (fun r10 h11 => if r10 = 0 then (Q 1 h11) else (Q 0 h11)))) else (Q 0 h1)
def wp_X11_areSame_b21 (x1 : Int32) (x2 : Int32) (h : Hp)  (Q : Int32 → Hp → Prop) : Prop := wp_X11_areSame_b22 x1 x2 1 h Q
def wp_X11_areSame (p0 : Int32) (p1 : Int32) (h : Hp) (Q : Int32 → Hp → Prop) : Prop := wp_X11_isTest p0 h (fun r1 => if r1 = 0 then (wp_X11_areSame_b21 p0 p1 h Q) else (wp_X11_isTest p1 h (fun r3 => if r3 = 0 then (wp_X11_areSame_b21 p0 p1 h Q) else (wp_X11_areSame_b22 p0 p1 0 h Q))))
def rm_X11_offers : Room := { frames := 1, cells := 0, slots := 0, locals := 24 }
def wp_X11_offers (p0 : Int32) (p1 : Int32) (h : Hp) (Q : Hp → Prop) : Prop := vp_in (gI h 11 0 67) 200 ∧ LET (sI h 73 0 (gI h 11 0 67).toNatClampNeg (vp_nar .char p0)) fun h2 => vp_in (gI h2 11 0 67) 200 ∧ LET (sI h2 74 0 (gI h2 11 0 67).toNatClampNeg p1) fun h4 => LET (sI h4 11 0 67 ((gI h4 11 0 67) + 1)) fun h5 => Q h5
def rm_X11_offersAll : Room := { frames := 2, cells := 0, slots := 0, locals := 46 }
def wp_X11_offersAll_b175F    (Q : Hp → Prop) (P175 : Int32 → Hp → Prop) (x1 : Int32) (h : Hp) : Prop := if 7 ≤ x1 then (Q h) else (wp_X11_offers 100 x1 h (fun h2 => LET (x1 + 1) fun v3 => P175 v3 h2))
def wp_X11_offersAll_b175 (x1 : Int32) (h : Hp)  (Q : Hp → Prop) : Prop := LFP2 (wp_X11_offersAll_b175F    Q) x1 h
def wp_X11_offersAll_b167 (x1 : Int32) (h : Hp) (P91 : Int32 → Hp → Prop) (Q : Hp → Prop) : Prop := LET (x1 + 1) fun v1 => P91 v1 h
def wp_X11_offersAll_b149 (x1 : Int32) (x3 : Int32) (s0 : Int32) (h : Hp) (P91 : Int32 → Hp → Prop) (P102 : Int32 → Int32 → Hp → Prop) (Q : Hp → Prop) : Prop := LET (x3 + 1) fun v1 => P102 s0 v1 h
def wp_X11_offersAll_b144 (x1 : Int32) (x3 : Int32) (h : Hp) (P91 : Int32 → Hp → Prop) (P102 : Int32 → Int32 → Hp → Prop) (Q : Hp → Prop) : Prop := wp_X11_offersAll_b149 x1 x3 1 h P91 P102 Q
def wp_X11_offersAll_b148 (x1 : Int32) (x3 : Int32) (h : Hp) (P91 : Int32 → Hp → Prop) (P102 : Int32 → Int32 → Hp → Prop) (Q : Hp → Prop) : Prop := wp_X11_offersAll_b149 x1 x3 0 h P91 P102 Q
def wp_X11_offersAll_b102F (x1 : Int32)  (P91 : Int32 → Hp → Prop) (Q : Hp → Prop) (P102 : Int32 → Int32 → Hp → Prop) (x2 : Int32) (x3 : Int32) (h : Hp) : Prop := if (gI h 11 0 2) ≤ x3 then (if x2 = 0 then (wp_X11_offersAll_b167 x1 h P91 Q) else (wp_X11_offers 122 x1 h (fun h3 => wp_X11_offersAll_b167 x1 h3 P91 Q))) else (if x2 = 0 then (vp_in x3 40 ∧ if (gI h 39 0 x3.toNatClampNeg) = 0 then (wp_X11_offersAll_b148 x1 x3 h P91 P102 Q) else (if (gI h 40 0 x3.toNatClampNeg) = 0 then (if ((gI h 37 0 x3.toNatClampNeg) - 1) = x1 then (wp_X11_offersAll_b144 x1 x3 h P91 P102 Q) else (wp_X11_offersAll_b148 x1 x3 h P91 P102 Q)) else (wp_X11_offersAll_b148 x1 x3 h P91 P102 Q))) else (wp_X11_offersAll_b144 x1 x3 h P91 P102 Q))
def wp_X11_offersAll_b102 (x1 : Int32) (x2 : Int32) (x3 : Int32) (h : Hp) (P91 : Int32 → Hp → Prop) (Q : Hp → Prop) : Prop := LFP3 (wp_X11_offersAll_b102F x1  P91 Q) x2 x3 h
def wp_X11_offersAll_b91F    (Q : Hp → Prop) (P91 : Int32 → Hp → Prop) (x1 : Int32) (h : Hp) : Prop := if 999 ≤ x1 then (wp_X11_offersAll_b175 0 h Q) else (wp_X11_offersAll_b102 x1 0 0 h P91 Q)
def wp_X11_offersAll_b91 (x1 : Int32) (h : Hp)  (Q : Hp → Prop) : Prop := LFP2 (wp_X11_offersAll_b91F    Q) x1 h
def wp_X11_offersAll_b70F    (Q : Hp → Prop) (P70 : Int32 → Hp → Prop) (x1 : Int32) (h : Hp) : Prop := if 16 ≤ x1 then (wp_X11_offersAll_b91 0 h Q) else (wp_X11_offers 98 x1 h (fun h2 => LET (x1 + 1) fun v3 => P70 v3 h2))
def wp_X11_offersAll_b70 (x1 : Int32) (h : Hp)  (Q : Hp → Prop) : Prop := LFP2 (wp_X11_offersAll_b70F    Q) x1 h
def wp_X11_offersAll_b49F    (Q : Hp → Prop) (P49 : Int32 → Hp → Prop) (x1 : Int32) (h : Hp) : Prop := if 16 ≤ x1 then (wp_X11_offersAll_b70 0 h Q) else (wp_X11_offers 115 x1 h (fun h2 => LET (x1 + 1) fun v3 => P49 v3 h2))
def wp_X11_offersAll_b49 (x1 : Int32) (h : Hp)  (Q : Hp → Prop) : Prop := LFP2 (wp_X11_offersAll_b49F    Q) x1 h
def wp_X11_offersAll_b28F    (Q : Hp → Prop) (P28 : Int32 → Hp → Prop) (x1 : Int32) (h : Hp) : Prop := if 10 ≤ x1 then (wp_X11_offersAll_b49 0 h Q) else (wp_X11_offers 116 x1 h (fun h2 => LET (x1 + 1) fun v3 => P28 v3 h2))
def wp_X11_offersAll_b28 (x1 : Int32) (h : Hp)  (Q : Hp → Prop) : Prop := LFP2 (wp_X11_offersAll_b28F    Q) x1 h
def wp_X11_offersAll_b7F    (Q : Hp → Prop) (P7 : Int32 → Hp → Prop) (x1 : Int32) (h : Hp) : Prop := if 10 ≤ x1 then (wp_X11_offersAll_b28 0 h Q) else (wp_X11_offers 102 x1 h (fun h2 => LET (x1 + 1) fun v3 => P7 v3 h2))
def wp_X11_offersAll_b7 (x1 : Int32) (h : Hp)  (Q : Hp → Prop) : Prop := LFP2 (wp_X11_offersAll_b7F    Q) x1 h
def wp_X11_offersAll  (h : Hp) (Q : Hp → Prop) : Prop := LET (sI h 11 0 67 0) fun h1 => wp_X11_offersAll_b7 0 h1 Q
def rm_X11_candidateHolds : Room := { frames := 3, cells := 0, slots := 0, locals := 69 }
def wp_X11_candidateHolds_b32 (s0 : Int32) (s1 : Int32) (h : Hp)  (Q : Int32 → Prop) : Prop := if s0 = s1 then (Q 1) else (Q 0)
def wp_X11_candidateHolds (p0 : Int32) (p1 : Int32) (h : Hp) (Q : Int32 → Prop) : Prop := vp_in (p0 / 2) 200 ∧ wp_X11_ofMail (gI h 73 0 (p0 / 2).toNatClampNeg) (gI h 74 0 (p0 / 2).toNatClampNeg) p1 h (fun r2 => if (p0 - p0 / 2 * 2) = 0 then (wp_X11_candidateHolds_b32 r2 1 h Q) else (wp_X11_candidateHolds_b32 r2 0 h Q))
def rm_X11_fits : Room := { frames := 4, cells := 0, slots := 0, locals := 91 }
def wp_X11_fits_b102 (x1 : Int32) (x2 : Int32) (x3 : Int32) (x4 : Int32) (h : Hp) (P3 : Int32 → Prop) (Q : Int32 → Prop) : Prop := LET (x4 + 1) fun v1 => P3 v1
def wp_X11_fits_b91 (x1 : Int32) (x2 : Int32) (x3 : Int32) (x4 : Int32) (x5 : Int32) (s0 : Int32) (h : Hp) (P3 : Int32 → Prop) (Q : Int32 → Prop) : Prop := if s0 = x5 then (wp_X11_fits_b102 x1 x2 x3 x4 h P3 Q) else (Q 0)
def wp_X11_fits_b90 (x1 : Int32) (x2 : Int32) (x3 : Int32) (x4 : Int32) (x5 : Int32) (h : Hp) (P3 : Int32 → Prop) (Q : Int32 → Prop) : Prop := wp_X11_fits_b91 x1 x2 x3 x4 x5 0 h P3 Q
def wp_X11_fits_b86 (x1 : Int32) (x2 : Int32) (x3 : Int32) (x4 : Int32) (x5 : Int32) (h : Hp) (P3 : Int32 → Prop) (Q : Int32 → Prop) : Prop := wp_X11_fits_b91 x1 x2 x3 x4 x5 1 h P3 Q
def wp_X11_fits_b59 (x1 : Int32) (x2 : Int32) (x3 : Int32) (x4 : Int32) (s0 : Int32) (h : Hp) (P3 : Int32 → Prop) (Q : Int32 → Prop) : Prop := wp_X11_candidateHolds x1 x4 h (fun r1 => if r1 = 0 then (wp_X11_fits_b90 x1 x2 x3 x4 s0 h P3 Q) else (if x2 = (-1) then (wp_X11_fits_b86 x1 x2 x3 x4 s0 h P3 Q) else (wp_X11_candidateHolds x2 x4 h (fun r4 => if r4 = 0 then (wp_X11_fits_b90 x1 x2 x3 x4 s0 h P3 Q) else (wp_X11_fits_b86 x1 x2 x3 x4 s0 h P3 Q)))))
def wp_X11_fits_b58 (x1 : Int32) (x2 : Int32) (x3 : Int32) (x4 : Int32) (h : Hp) (P3 : Int32 → Prop) (Q : Int32 → Prop) : Prop := wp_X11_fits_b59 x1 x2 x3 x4 0 h P3 Q
def wp_X11_fits_b3F (x1 : Int32) (x2 : Int32) (x3 : Int32) (h : Hp)  (Q : Int32 → Prop) (P3 : Int32 → Prop) (x4 : Int32)  : Prop := if (gI h 11 0 2) ≤ x4 then (Q 1) else (vp_in x4 40 ∧ if (gI h 39 0 x4.toNatClampNeg) = 0 then (wp_X11_fits_b102 x1 x2 x3 x4 h P3 Q) else (if (gI h 40 0 x4.toNatClampNeg) = 0 then (if (gI h 41 0 x4.toNatClampNeg) = x3 then (if (gI h 43 0 x4.toNatClampNeg) = x3 then (wp_X11_fits_b59 x1 x2 x3 x4 1 h P3 Q) else (wp_X11_fits_b58 x1 x2 x3 x4 h P3 Q)) else (wp_X11_fits_b58 x1 x2 x3 x4 h P3 Q)) else (wp_X11_fits_b102 x1 x2 x3 x4 h P3 Q)))
def wp_X11_fits_b3 (x1 : Int32) (x2 : Int32) (x3 : Int32) (x4 : Int32) (h : Hp)  (Q : Int32 → Prop) : Prop := LFP1 (wp_X11_fits_b3F x1 x2 x3 h  Q) x4 
def wp_X11_fits (p0 : Int32) (p1 : Int32) (p2 : Int32) (h : Hp) (Q : Int32 → Prop) : Prop := wp_X11_fits_b3 p0 p1 p2 0 h Q
def rm_X11_parts : Room := { frames := 1, cells := 0, slots := 0, locals := 24 }
def wp_X11_parts (p0 : Int32) (h : Hp) (Q : Int32 → Prop) : Prop := if p0 = (-1) then (Q 0) else (Q (1 + (p0 - p0 / 2 * 2)))
def rm_X11_makes : Room := { frames := 2, cells := 0, slots := 0, locals := 47 }
def wp_X11_makes (p0 : Int32) (h : Hp) (Q : Int32 → Hp → Prop) : Prop := vp_in (p0 / 2) 200 ∧ wp_X11_addsTest (gI h 73 0 (p0 / 2).toNatClampNeg) (gI h 74 0 (p0 / 2).toNatClampNeg) 0 h (fun r2 h3 => if (p0 - p0 / 2 * 2) = 0 then (Q r2 h3) else (wp_X11_addsTest 33 r2 0 h3 (fun r5 h6 => Q r5 h6)))
def rm_X11_learn : Room := { frames := 5, cells := 0, slots := 0, locals := 117 }
def wp_X11_learn_b239 (x3 : Int32) (x4 : Int32) (s0 : Int32) (s1 : Int32) (h : Hp)  (Q : Int32 → Hp → Prop) : Prop := if (s0 + s1) ≤ 60 then (wp_X11_makes x3 h (fun r2 h3 => if x4 = (-1) then (Q r2 h3) else (wp_X11_makes x4 h3 (fun r5 h6 => wp_X11_addsTest 38 r2 r5 h6 (fun r7 h8 => Q r7 h8))))) else (wp_X11_fails 3 h (fun r9 h10 => Q r9 h10))
def wp_X11_learn_b200 (x3 : Int32) (x4 : Int32) (h : Hp)  (Q : Int32 → Hp → Prop) : Prop := if x3 = (-1) then (wp_X11_fails 2 h (fun r2 h3 => Q r2 h3)) else (wp_X11_parts x3 h (fun r4 => wp_X11_parts x4 h (fun r5 => if x4 = (-1) then (wp_X11_learn_b239 x3 x4 (((gI h 11 0 19) + r4) + r5) 0 h Q) else (wp_X11_learn_b239 x3 x4 (((gI h 11 0 19) + r4) + r5) 1 h Q))))
def wp_X11_learn_b194 (x1 : Int32) (x2 : Int32) (x3 : Int32) (x4 : Int32) (x5 : Int32) (h : Hp) (P127 : Int32 → Int32 → Int32 → Hp → Prop) (Q : Int32 → Hp → Prop) : Prop := LET (x5 + 1) fun v1 => P127 x3 x4 v1 h
def wp_X11_learn_b188 (x1 : Int32) (x2 : Int32) (x3 : Int32) (x4 : Int32) (x5 : Int32) (x6 : Int32) (h : Hp) (P127 : Int32 → Int32 → Int32 → Hp → Prop) (P153 : Int32 → Int32 → Int32 → Hp → Prop) (Q : Int32 → Hp → Prop) : Prop := LET (x6 + 1) fun v1 => P153 x3 x4 v1 h
def wp_X11_learn_b153F (x1 : Int32) (x2 : Int32) (x5 : Int32)  (P127 : Int32 → Int32 → Int32 → Hp → Prop) (Q : Int32 → Hp → Prop) (P153 : Int32 → Int32 → Int32 → Hp → Prop) (x3 : Int32) (x4 : Int32) (x6 : Int32) (h : Hp) : Prop := if (2 * (gI h 11 0 67)) ≤ x6 then (wp_X11_learn_b194 x1 x2 x3 x4 x5 h P127 Q) else (if x3 = (-1) then (wp_X11_fits x5 x6 x1 h (fun r3 => if r3 = 0 then (wp_X11_learn_b188 x1 x2 x3 x4 x5 x6 h P127 P153 Q) else (wp_X11_learn_b188 x1 x2 x5 x6 x5 x6 h P127 P153 Q))) else (wp_X11_learn_b194 x1 x2 x3 x4 x5 h P127 Q))
def wp_X11_learn_b153 (x1 : Int32) (x2 : Int32) (x3 : Int32) (x4 : Int32) (x5 : Int32) (x6 : Int32) (h : Hp) (P127 : Int32 → Int32 → Int32 → Hp → Prop) (Q : Int32 → Hp → Prop) : Prop := LFP4 (wp_X11_learn_b153F x1 x2 x5  P127 Q) x3 x4 x6 h
def wp_X11_learn_b127F (x1 : Int32) (x2 : Int32)   (Q : Int32 → Hp → Prop) (P127 : Int32 → Int32 → Int32 → Hp → Prop) (x3 : Int32) (x4 : Int32) (x5 : Int32) (h : Hp) : Prop := if (2 * (gI h 11 0 67)) ≤ x5 then (wp_X11_learn_b200 x3 x4 h Q) else (if x3 = (-1) then (if x2 = 0 then (wp_X11_learn_b200 x3 x4 h Q) else (LET (x5 + 1) fun v4 => wp_X11_learn_b153 x1 x2 x3 x4 x5 v4 h P127 Q)) else (wp_X11_learn_b200 x3 x4 h Q))
def wp_X11_learn_b127 (x1 : Int32) (x2 : Int32) (x3 : Int32) (x4 : Int32) (x5 : Int32) (h : Hp)  (Q : Int32 → Hp → Prop) : Prop := LFP4 (wp_X11_learn_b127F x1 x2   Q) x3 x4 x5 h
def wp_X11_learn_b124 (x1 : Int32) (x2 : Int32) (x3 : Int32) (x4 : Int32) (h : Hp)  (Q : Int32 → Hp → Prop) : Prop := wp_X11_learn_b127 x1 x2 x3 x4 0 h Q
def wp_X11_learn_b117 (x1 : Int32) (x2 : Int32) (x4 : Int32) (x5 : Int32) (s0 : Int32) (h : Hp) (P80 : Int32 → Int32 → Hp → Prop) (Q : Int32 → Hp → Prop) : Prop := LET (x5 + 1) fun v1 => P80 s0 v1 h
def wp_X11_learn_b80F (x1 : Int32) (x2 : Int32) (x4 : Int32)   (Q : Int32 → Hp → Prop) (P80 : Int32 → Int32 → Hp → Prop) (x3 : Int32) (x5 : Int32) (h : Hp) : Prop := if (2 * (gI h 11 0 67)) ≤ x5 then (wp_X11_learn_b124 x1 x2 x3 x4 h Q) else (if x3 = (-1) then (if x2 = 0 then (wp_X11_learn_b124 x1 x2 x3 x4 h Q) else (wp_X11_fits x5 (-1) x1 h (fun r4 => if r4 = 0 then (wp_X11_learn_b117 x1 x2 x4 x5 (-1) h P80 Q) else (wp_X11_learn_b117 x1 x2 x4 x5 x5 h P80 Q)))) else (wp_X11_learn_b124 x1 x2 x3 x4 h Q))
def wp_X11_learn_b80 (x1 : Int32) (x2 : Int32) (x3 : Int32) (x4 : Int32) (x5 : Int32) (h : Hp)  (Q : Int32 → Hp → Prop) : Prop := LFP3 (wp_X11_learn_b80F x1 x2 x4   Q) x3 x5 h
def wp_X11_learn_b61 (x1 : Int32) (x3 : Int32) (s0 : Int32) (h : Hp) (P25 : Int32 → Int32 → Hp → Prop) (Q : Int32 → Hp → Prop) : Prop := LET (x3 + 1) fun v1 => P25 s0 v1 h
def wp_X11_learn_b56 (x1 : Int32) (x3 : Int32) (h : Hp) (P25 : Int32 → Int32 → Hp → Prop) (Q : Int32 → Hp → Prop) : Prop := wp_X11_learn_b61 x1 x3 1 h P25 Q
def wp_X11_learn_b60 (x1 : Int32) (x3 : Int32) (h : Hp) (P25 : Int32 → Int32 → Hp → Prop) (Q : Int32 → Hp → Prop) : Prop := wp_X11_learn_b61 x1 x3 0 h P25 Q
def wp_X11_learn_b25F (x1 : Int32)   (Q : Int32 → Hp → Prop) (P25 : Int32 → Int32 → Hp → Prop) (x2 : Int32) (x3 : Int32) (h : Hp) : Prop := if (gI h 11 0 2) ≤ x3 then (wp_X11_offersAll h (fun h2 => wp_X11_learn_b80 x1 x2 (-1) (-1) 0 h2 Q)) else (if x2 = 0 then (wp_X11_isIn x3 x1 h (fun r4 => if r4 = 0 then (wp_X11_learn_b60 x1 x3 h P25 Q) else (vp_in x3 40 ∧ if (gI h 43 0 x3.toNatClampNeg) = x1 then (wp_X11_learn_b56 x1 x3 h P25 Q) else (wp_X11_learn_b60 x1 x3 h P25 Q)))) else (wp_X11_learn_b56 x1 x3 h P25 Q))
def wp_X11_learn_b25 (x1 : Int32) (x2 : Int32) (x3 : Int32) (h : Hp)  (Q : Int32 → Hp → Prop) : Prop := LFP3 (wp_X11_learn_b25F x1   Q) x2 x3 h
def wp_X11_learn (p0 : Int32) (h : Hp) (Q : Int32 → Hp → Prop) : Prop := LET (sI h 11 0 0 0) fun h1 => wp_X11_in p0 0 7 h1 (fun r2 => if r2 = 0 then (wp_X11_fails 1 h1 (fun r4 h5 => Q r4 h5)) else (wp_X11_learn_b25 p0 0 0 h1 Q))
def rm_X11_sum : Room := { frames := 1, cells := 0, slots := 0, locals := 24 }
def wp_X11_sum_b38 (x3 : Int32) (s0 : Int64) (s1 : Int64) (h : Hp) (P9 : Int64 → Int32 → Hp → Prop) (Q : Int64 → Hp → Prop) : Prop := LET (s0 + s1) fun v1 => LET (x3 + 1) fun v2 => P9 v1 v2 h
def wp_X11_sum_b9F    (Q : Int64 → Hp → Prop) (P9 : Int64 → Int32 → Hp → Prop) (x1 : Int64) (x3 : Int32) (h : Hp) : Prop := if (gI h 11 0 2) ≤ x3 then (Q x1 h) else (vp_in x3 40 ∧ if (gI h 40 0 x3.toNatClampNeg) = 0 then (wp_X11_sum_b38 x3 x1 ((gI h 37 0 x3.toNatClampNeg).toInt64) h P9 Q) else (wp_X11_sum_b38 x3 x1 0 h P9 Q))
def wp_X11_sum_b9 (x1 : Int64) (x3 : Int32) (h : Hp)  (Q : Int64 → Hp → Prop) : Prop := LFP3 (wp_X11_sum_b9F    Q) x1 x3 h
def wp_X11_sum  (h : Hp) (Q : Int64 → Hp → Prop) : Prop := LET (sI h 11 0 0 0) fun h1 => wp_X11_sum_b9 0 0 h1 Q
def rm_X11_goneShare : Room := { frames := 1, cells := 0, slots := 0, locals := 24 }
def wp_X11_goneShare_b73 (x1 : Int32) (x2 : Int32) (s1 : Int32) (h : Hp)  (Q : UInt32 → Hp → Prop) : Prop := LET (sI h 11 0 0 s1) fun h1 => if (gI h1 11 0 0) ≤ 0 then (vf_n32 (FP.fdiv (FP.i2f x1) (FP.i2f x2)) ∧ Q (FP.fdiv (FP.i2f x1) (FP.i2f x2)) h1) else (Q 0 h1)
def wp_X11_goneShare_b55 (x2 : Int32) (x3 : Int32) (s0 : Int32) (s1 : Int32) (h : Hp) (P6 : Int32 → Int32 → Int32 → Hp → Prop) (Q : UInt32 → Hp → Prop) : Prop := LET (s0 + s1) fun v1 => LET (x3 + 1) fun v2 => P6 v1 x2 v2 h
def wp_X11_goneShare_b54 (x2 : Int32) (x3 : Int32) (s0 : Int32) (h : Hp) (P6 : Int32 → Int32 → Int32 → Hp → Prop) (Q : UInt32 → Hp → Prop) : Prop := wp_X11_goneShare_b55 x2 x3 s0 0 h P6 Q
def wp_X11_goneShare_b29 (x1 : Int32) (x3 : Int32) (s0 : Int32) (s1 : Int32) (h : Hp) (P6 : Int32 → Int32 → Int32 → Hp → Prop) (Q : UInt32 → Hp → Prop) : Prop := LET (s0 + s1) fun v1 => vp_in x3 40 ∧ if (gI h 39 0 x3.toNatClampNeg) = 0 then (wp_X11_goneShare_b54 v1 x3 x1 h P6 Q) else (if (gI h 40 0 x3.toNatClampNeg) = 0 then (wp_X11_goneShare_b54 v1 x3 x1 h P6 Q) else (wp_X11_goneShare_b55 v1 x3 x1 1 h P6 Q))
def wp_X11_goneShare_b6F    (Q : UInt32 → Hp → Prop) (P6 : Int32 → Int32 → Int32 → Hp → Prop) (x1 : Int32) (x2 : Int32) (x3 : Int32) (h : Hp) : Prop := if (gI h 11 0 2) ≤ x3 then (if x2 = 0 then (wp_X11_goneShare_b73 x1 x2 1 h Q) else (wp_X11_goneShare_b73 x1 x2 0 h Q)) else (vp_in x3 40 ∧ if (gI h 39 0 x3.toNatClampNeg) = 0 then (wp_X11_goneShare_b29 x1 x3 x2 0 h P6 Q) else (wp_X11_goneShare_b29 x1 x3 x2 1 h P6 Q))
def wp_X11_goneShare_b6 (x1 : Int32) (x2 : Int32) (x3 : Int32) (h : Hp)  (Q : UInt32 → Hp → Prop) : Prop := LFP4 (wp_X11_goneShare_b6F    Q) x1 x2 x3 h
def wp_X11_goneShare  (h : Hp) (Q : UInt32 → Hp → Prop) : Prop := wp_X11_goneShare_b6 0 0 0 h Q
def rm_X11_meanSize : Room := { frames := 2, cells := 0, slots := 0, locals := 46 }
def wp_X11_meanSize_b88 (x2 : Int32) (x3 : Int32) (s1 : Int32) (h : Hp)  (Q : UInt64 → Hp → Prop) : Prop := LET (sI h 11 0 0 s1) fun h1 => if (gI h1 11 0 0) ≤ 0 then (vf_n64 (FP.ddiv (FP.i2d x3) (FP.i2d x2)) ∧ Q (FP.ddiv (FP.i2d x3) (FP.i2d x2)) h1) else (Q 0 h1)
def wp_X11_meanSize_b56 (x1 : Int32) (x2 : Int32) (x4 : Int32) (s0 : Int32) (s1 : Int32) (h : Hp) (P7 : Int32 → Int32 → Int32 → Hp → Prop) (Q : UInt64 → Hp → Prop) : Prop := LET (s0 + s1) fun v1 => LET (x4 + 1) fun v2 => P7 x2 v1 v2 h
def wp_X11_meanSize_b32 (x1 : Int32) (x3 : Int32) (x4 : Int32) (s0 : Int32) (s1 : Int32) (h : Hp) (P7 : Int32 → Int32 → Int32 → Hp → Prop) (Q : UInt64 → Hp → Prop) : Prop := LET (s0 + s1) fun v1 => wp_X11_isIn x4 x1 h (fun r2 => if r2 = 0 then (wp_X11_meanSize_b56 x1 v1 x4 x3 0 h P7 Q) else (vp_in x4 40 ∧ wp_X11_meanSize_b56 x1 v1 x4 x3 (gI h 37 0 x4.toNatClampNeg) h P7 Q))
def wp_X11_meanSize_b7F (x1 : Int32)   (Q : UInt64 → Hp → Prop) (P7 : Int32 → Int32 → Int32 → Hp → Prop) (x2 : Int32) (x3 : Int32) (x4 : Int32) (h : Hp) : Prop := if (gI h 11 0 2) ≤ x4 then (wp_X11_in x1 0 7 h (fun r2 => if r2 = 0 then (wp_X11_meanSize_b88 x2 x3 1 h Q) else (if x2 = 0 then (wp_X11_meanSize_b88 x2 x3 2 h Q) else (wp_X11_meanSize_b88 x2 x3 0 h Q)))) else (wp_X11_isIn x4 x1 h (fun r5 => if r5 = 0 then (wp_X11_meanSize_b32 x1 x3 x4 x2 0 h P7 Q) else (wp_X11_meanSize_b32 x1 x3 x4 x2 1 h P7 Q)))
def wp_X11_meanSize_b7 (x1 : Int32) (x2 : Int32) (x3 : Int32) (x4 : Int32) (h : Hp)  (Q : UInt64 → Hp → Prop) : Prop := LFP4 (wp_X11_meanSize_b7F x1   Q) x2 x3 x4 h
def wp_X11_meanSize (p0 : Int32) (h : Hp) (Q : UInt64 → Hp → Prop) : Prop := wp_X11_meanSize_b7 p0 0 0 0 h Q
def rm_X11_isTrue : Room := { frames := 1, cells := 0, slots := 0, locals := 24 }
def wp_X11_isTrue  (h : Hp) (Q : Int32 → Hp → Prop) : Prop := LET (sI h 11 0 0 0) fun h1 => Q 1 h1
set_option maxRecDepth 20000 in
theorem t_X11_isSome_b125 {X : Ctx} (h : Hp) (x1 : Int32)  (E : EE X cX11_isSome RX11 3 4 97 0 0) {Q : Int32 → Hp → Prop} (hE : ENDi X cX11_isSome .boolean (fun r u => isB r ∧ Q r u) NT 0 0)  (hw : wp_X11_isSome_b125 x1 h  Q) : GG X 0 0 NT h [none, some (.int x1), none] 125 [] := by
  unfold wp_X11_isSome_b125 at hw
  refine r_iload_n E x1 rfl dX11_isSome_125 ?_
  refine r_if_lt E 133 (by decide) dX11_isSome_126 (fun c1 => ?_) (fun c1 => ?_)
  · have hw := ite_t hw c1
    refine r_iconst E 0 rfl dX11_isSome_133 ?_
    exact hE _ _ _ _ _ _ (Nat.le_of_ble_eq_true rfl) (Nat.le_of_ble_eq_true rfl) dX11_isSome_134 (isB_nar isB_0) ⟨isB_0, hw⟩
  · have hw := ite_f hw c1
    refine r_iconst E 1 rfl dX11_isSome_129 ?_
    refine r_goto E 134 (by decide) dX11_isSome_130 ?_
    exact hE _ _ _ _ _ _ (Nat.le_of_ble_eq_true rfl) (Nat.le_of_ble_eq_true rfl) dX11_isSome_134 (isB_nar isB_1) ⟨isB_1, hw⟩
set_option maxRecDepth 20000 in
theorem t_X11_isSome_b122 {X : Ctx} (h : Hp) (x1 : Int32)  (E : EE X cX11_isSome RX11 3 4 97 0 0) {Q : Int32 → Hp → Prop} (hE : ENDi X cX11_isSome .boolean (fun r u => isB r ∧ Q r u) NT 0 0) (P29 : Int32 → Hp → Prop) (hP29 : ∀ (y1 : Int32) (u : Hp), P29 y1 u → GG X 0 0 NT u [some (rf X 11 0), some (.int y1), none] 29 []) (hw : wp_X11_isSome_b122 x1 h P29 Q) : GG X 0 0 NT h [some (rf X 11 0), some (.int x1), none] 122 [] := by
  unfold wp_X11_isSome_b122 at hw
  refine r_goto E 29 (by decide) dX11_isSome_122 ?_
  exact GG_weak [true, true, false] rfl (hP29 _ _ hw)
set_option maxRecDepth 20000 in
theorem t_X11_isSome_b29F {X : Ctx} (h : Hp) (x1 : Int32)  (E : EE X cX11_isSome RX11 3 4 97 0 0) {Q : Int32 → Hp → Prop} (hE : ENDi X cX11_isSome .boolean (fun r u => isB r ∧ Q r u) NT 0 0)  (P29 : Int32 → Hp → Prop) (hP29 : ∀ (y1 : Int32) (u : Hp), P29 y1 u → GG X 0 0 NT u [some (rf X 11 0), some (.int y1), none] 29 []) (hw : wp_X11_isSome_b29F    Q P29 x1 h) : GG X 0 0 NT h [some (rf X 11 0), some (.int x1), none] 29 [] := by
  unfold wp_X11_isSome_b29F at hw
  refine r_iload_n E x1 rfl dX11_isSome_29 ?_
  refine r_if_lt E 125 (by decide) dX11_isSome_30 (fun c1 => ?_) (fun c1 => ?_)
  · have hw := ite_t hw c1
    exact GG_weak [false, true, false] rfl (t_X11_isSome_b125 h x1 E hE  hw)
  · have hw := ite_f hw c1
    refine r_iload_n E x1 rfl dX11_isSome_33 ?_
    refine r_aload_n E 11 0 rfl dX11_isSome_34 ?_
    refine r_getI E fd_X11_303 rfl (Nat.le_of_ble_eq_true rfl) (adr_lt (Nat.le_of_ble_eq_true rfl)) dX11_isSome_35 ?_
    refine r_icmp_ge E 125 (by decide) dX11_isSome_38 (fun c2 => ?_) (fun c2 => ?_)
    · have hw := ite_t hw c2
      exact GG_weak [false, true, false] rfl (t_X11_isSome_b125 h x1 E hE  hw)
    · have hw := ite_f hw c2
      refine r_aload_n E 11 0 rfl dX11_isSome_41 ?_
      refine r_getS E fd_X11_111 (t := 0) (j1 := 66) rfl rfl rfl rfl (Nat.le_of_ble_eq_true rfl) (adr_lt (Nat.le_of_ble_eq_true rfl)) dX11_isSome_42 ?_
      refine r_iload_n E x1 rfl dX11_isSome_45 ?_
      obtain ⟨i3, hw⟩ := hw
      refine r_iald E rfl rfl rfl (Nat.le_of_ble_eq_true rfl) (adr_lt (Nat.le_of_ble_eq_true rfl)) i3 dX11_isSome_46 ?_
      refine GG_topI fun v4 hv4 => ?_
      have hw := hw v4 hv4
      refine r_istore_n E [some (rf X 11 0), some (.int x1), some (.int v4)] rfl (Nat.le_of_ble_eq_true rfl) rfl dX11_isSome_47 ?_
      refine r_aload_n E 11 0 rfl dX11_isSome_48 ?_
      refine r_getS E fd_X11_114 (t := 0) (j1 := 67) rfl rfl rfl rfl (Nat.le_of_ble_eq_true rfl) (adr_lt (Nat.le_of_ble_eq_true rfl)) dX11_isSome_49 ?_
      refine r_iload_n E x1 rfl dX11_isSome_52 ?_
      refine r_iald E rfl rfl rfl (Nat.le_of_ble_eq_true rfl) (adr_lt (Nat.le_of_ble_eq_true rfl)) i3 dX11_isSome_53 ?_
      refine r_aload_n E 11 0 rfl dX11_isSome_54 ?_
      refine r_iload_n E v4 rfl dX11_isSome_55 ?_
      refine r_callVI E (m_X11_domain (EE_st E) (GX X) v4 h _ hw) lk_X11_330 (RM_mk (Nat.le_of_ble_eq_true rfl) (Nat.le_of_ble_eq_true rfl)) rfl rfl rfl rfl (Nat.le_of_ble_eq_true rfl) (adr_lt (Nat.le_of_ble_eq_true rfl)) (Nat.le_of_ble_eq_true rfl) rfl rfl (Nat.le_of_ble_eq_true rfl) (Nat.le_of_ble_eq_true rfl) dX11_isSome_56 (fun r5 u9 hw => ?_)
      obtain ⟨rfl, hw⟩ := hw
      refine r_icmp_ne E 75 (by decide) dX11_isSome_59 (fun c6 => ?_) (fun c6 => ?_)
      · have hw := ite_t hw c6
        refine r_aload_n E 11 0 rfl dX11_isSome_62 ?_
        refine r_getS E fd_X11_105 (t := 0) (j1 := 64) rfl rfl rfl rfl (Nat.le_of_ble_eq_true rfl) (adr_lt (Nat.le_of_ble_eq_true rfl)) dX11_isSome_63 ?_
        refine r_iload_n E v4 rfl dX11_isSome_66 ?_
        refine r_iconst E (-1) rfl dX11_isSome_67 ?_
        obtain ⟨i7, hw⟩ := hw
        refine r_iast E rfl rfl rfl (Nat.le_of_ble_eq_true rfl) (adr_lt (Nat.le_of_ble_eq_true rfl)) i7 dX11_isSome_68 ?_
        refine GG_toph fun h8 hh8 => ?_
        have hw := hw h8 hh8
        obtain ⟨v9, hv9⟩ : ∃ y : Int32, y = x1 + (-1) := ⟨_, rfl⟩
        have hw := hw v9 hv9
        refine r_iinc E x1 v9 [some (rf X 11 0), some (.int v9), some (.int v4)] rfl (by rw [hv9]; rfl) (Nat.le_of_ble_eq_true rfl) rfl dX11_isSome_69 ?_
        refine r_goto E 122 (by decide) dX11_isSome_72 ?_
        exact GG_weak [true, true, false] rfl (t_X11_isSome_b122 h8 v9 E hE P29 hP29  hw)
      · have hw := ite_f hw c6
        refine r_aload_n E 11 0 rfl dX11_isSome_75 ?_
        refine r_getS E fd_X11_105 (t := 0) (j1 := 64) rfl rfl rfl rfl (Nat.le_of_ble_eq_true rfl) (adr_lt (Nat.le_of_ble_eq_true rfl)) dX11_isSome_76 ?_
        refine r_iload_n E v4 rfl dX11_isSome_79 ?_
        refine r_aload_n E 11 0 rfl dX11_isSome_80 ?_
        refine r_getS E fd_X11_114 (t := 0) (j1 := 67) rfl rfl rfl rfl (Nat.le_of_ble_eq_true rfl) (adr_lt (Nat.le_of_ble_eq_true rfl)) dX11_isSome_81 ?_
        refine r_iload_n E x1 rfl dX11_isSome_84 ?_
        refine r_iald E rfl rfl rfl (Nat.le_of_ble_eq_true rfl) (adr_lt (Nat.le_of_ble_eq_true rfl)) i3 dX11_isSome_85 ?_
        obtain ⟨i10, hw⟩ := hw
        refine r_iast E rfl rfl rfl (Nat.le_of_ble_eq_true rfl) (adr_lt (Nat.le_of_ble_eq_true rfl)) i10 dX11_isSome_86 ?_
        refine GG_toph fun h11 hh11 => ?_
        have hw := hw h11 hh11
        refine r_aload_n E 11 0 rfl dX11_isSome_87 ?_
        refine r_getS E fd_X11_114 (t := 0) (j1 := 67) rfl rfl rfl rfl (Nat.le_of_ble_eq_true rfl) (adr_lt (Nat.le_of_ble_eq_true rfl)) dX11_isSome_88 ?_
        refine r_iload_n E x1 rfl dX11_isSome_91 ?_
        refine r_dup2 E rfl rfl dX11_isSome_92 ?_
        refine r_iald E rfl rfl rfl (Nat.le_of_ble_eq_true rfl) (adr_lt (Nat.le_of_ble_eq_true rfl)) i3 dX11_isSome_93 ?_
        refine r_iconst E 1 rfl dX11_isSome_94 ?_
        refine r_iadd E dX11_isSome_95 ?_
        refine r_iast E rfl rfl rfl (Nat.le_of_ble_eq_true rfl) (adr_lt (Nat.le_of_ble_eq_true rfl)) i3 dX11_isSome_96 ?_
        refine GG_toph fun h12 hh12 => ?_
        have hw := hw h12 hh12
        refine r_aload_n E 11 0 rfl dX11_isSome_97 ?_
        refine r_callVI E (m_X11_isPossible (EE_st E) (GX X)  h12 _ hw) lk_X11_326 (RM_mk (Nat.le_of_ble_eq_true rfl) (Nat.le_of_ble_eq_true rfl)) rfl rfl rfl rfl (Nat.le_of_ble_eq_true rfl) (adr_lt (Nat.le_of_ble_eq_true rfl)) (Nat.le_of_ble_eq_true rfl) rfl rfl (Nat.le_of_ble_eq_true rfl) (Nat.le_of_ble_eq_true rfl) dX11_isSome_98 (fun r13 h14 hw => ?_)
        obtain ⟨zr13, hw⟩ := hw
        refine r_if_eq E 122 (by decide) dX11_isSome_101 (fun c15 => ?_) (fun c15 => ?_)
        · have hw := ite_t hw c15
          exact GG_weak [true, true, false] rfl (t_X11_isSome_b122 h14 x1 E hE P29 hP29  hw)
        · have hw := ite_f hw c15
          obtain ⟨v16, hv16⟩ : ∃ y : Int32, y = x1 + 1 := ⟨_, rfl⟩
          have hw := hw v16 hv16
          refine r_iinc E x1 v16 [some (rf X 11 0), some (.int v16), some (.int v4)] rfl (by rw [hv16]; rfl) (Nat.le_of_ble_eq_true rfl) rfl dX11_isSome_104 ?_
          refine r_iload_n E v16 rfl dX11_isSome_107 ?_
          refine r_aload_n E 11 0 rfl dX11_isSome_108 ?_
          refine r_getI E fd_X11_303 rfl (Nat.le_of_ble_eq_true rfl) (adr_lt (Nat.le_of_ble_eq_true rfl)) dX11_isSome_109 ?_
          refine r_icmp_ge E 122 (by decide) dX11_isSome_112 (fun c17 => ?_) (fun c17 => ?_)
          · have hw := ite_t hw c17
            exact GG_weak [true, true, false] rfl (t_X11_isSome_b122 h14 v16 E hE P29 hP29  hw)
          · have hw := ite_f hw c17
            refine r_aload_n E 11 0 rfl dX11_isSome_115 ?_
            refine r_getS E fd_X11_114 (t := 0) (j1 := 67) rfl rfl rfl rfl (Nat.le_of_ble_eq_true rfl) (adr_lt (Nat.le_of_ble_eq_true rfl)) dX11_isSome_116 ?_
            refine r_iload_n E v16 rfl dX11_isSome_119 ?_
            refine r_iconst E 0 rfl dX11_isSome_120 ?_
            obtain ⟨i18, hw⟩ := hw
            refine r_iast E rfl rfl rfl (Nat.le_of_ble_eq_true rfl) (adr_lt (Nat.le_of_ble_eq_true rfl)) i18 dX11_isSome_121 ?_
            refine GG_toph fun h19 hh19 => ?_
            have hw := hw h19 hh19
            exact GG_weak [true, true, false] rfl (t_X11_isSome_b122 h19 v16 E hE P29 hP29  hw)
set_option maxRecDepth 20000 in
theorem t_X11_isSome_b29 {X : Ctx} (h : Hp) (x1 : Int32)  (E : EE X cX11_isSome RX11 3 4 97 0 0) {Q : Int32 → Hp → Prop} (hE : ENDi X cX11_isSome .boolean (fun r u => isB r ∧ Q r u) NT 0 0)  (hw : wp_X11_isSome_b29 x1 h  Q) : GG X 0 0 NT h [some (rf X 11 0), some (.int x1), none] 29 [] :=
  hw (fun y1 u => GG X 0 0 NT u [some (rf X 11 0), some (.int y1), none] 29 []) (fun y1 u hq => t_X11_isSome_b29F u y1  E hE  (fun y1 u => GG X 0 0 NT u [some (rf X 11 0), some (.int y1), none] 29 []) (fun y1 u q => q) hq)
set_option maxRecDepth 20000 in
theorem m_X11_isSome {l : Launch} (hl : l.stackTraces = false) (G : Gq)   (h : Hp) (Q : Int32 → Hp → Prop) (hw : wp_X11_isSome  h Q) : MI l G yX11_isSome cX11_isSome 3 (some .boolean) rm_X11_isSome NT NT h (fun r => [r 11 0]) (fun r u => isB r ∧ Q r u) := by
  refine MI_of (L0 := (fun X => [some (rf X 11 0), none, none])) hl (by decide +kernel) rfl (fun _ => Nat.le_of_ble_eq_true rfl) (fun _ => rfl) fun X hXl hXG E hE => ?_
  subst hXl; subst hXG
  unfold wp_X11_isSome at hw
  refine r_aload_n E 11 0 rfl dX11_isSome_0 ?_
  refine r_callVV E (m_X11_gathers (EE_st E) (GX X)  h _ hw) lk_X11_323 (RM_mk (Nat.le_of_ble_eq_true rfl) (Nat.le_of_ble_eq_true rfl)) rfl rfl rfl rfl (Nat.le_of_ble_eq_true rfl) (adr_lt (Nat.le_of_ble_eq_true rfl)) (Nat.le_of_ble_eq_true rfl) rfl rfl (Nat.le_of_ble_eq_true rfl) (Nat.le_of_ble_eq_true rfl) dX11_isSome_1 (fun h1 hw => ?_)
  refine r_aload_n E 11 0 rfl dX11_isSome_4 ?_
  refine r_callVI E (m_X11_isPossible (EE_st E) (GX X)  h1 _ hw) lk_X11_326 (RM_mk (Nat.le_of_ble_eq_true rfl) (Nat.le_of_ble_eq_true rfl)) rfl rfl rfl rfl (Nat.le_of_ble_eq_true rfl) (adr_lt (Nat.le_of_ble_eq_true rfl)) (Nat.le_of_ble_eq_true rfl) rfl rfl (Nat.le_of_ble_eq_true rfl) (Nat.le_of_ble_eq_true rfl) dX11_isSome_5 (fun r2 h3 hw => ?_)
  obtain ⟨zr2, hw⟩ := hw
  refine r_if_ne E 13 (by decide) dX11_isSome_8 (fun c4 => ?_) (fun c4 => ?_)
  · have hw := ite_t hw c4
    refine r_iconst E 0 rfl dX11_isSome_11 ?_
    exact hE _ _ _ _ _ _ (Nat.le_of_ble_eq_true rfl) (Nat.le_of_ble_eq_true rfl) dX11_isSome_12 (isB_nar isB_0) ⟨isB_0, hw⟩
  · have hw := ite_f hw c4
    refine r_iconst E 0 rfl dX11_isSome_13 ?_
    refine r_istore_n E [some (rf X 11 0), some (.int 0), none] rfl (Nat.le_of_ble_eq_true rfl) rfl dX11_isSome_14 ?_
    refine r_aload_n E 11 0 rfl dX11_isSome_15 ?_
    refine r_getI E fd_X11_303 rfl (Nat.le_of_ble_eq_true rfl) (adr_lt (Nat.le_of_ble_eq_true rfl)) dX11_isSome_16 ?_
    refine r_if_le E 29 (by decide) dX11_isSome_19 (fun c5 => ?_) (fun c5 => ?_)
    · have hw := ite_t hw c5
      exact GG_weak [true, true, false] rfl (t_X11_isSome_b29 h3 0 E hE  hw)
    · have hw := ite_f hw c5
      refine r_aload_n E 11 0 rfl dX11_isSome_22 ?_
      refine r_getS E fd_X11_114 (t := 0) (j1 := 67) rfl rfl rfl rfl (Nat.le_of_ble_eq_true rfl) (adr_lt (Nat.le_of_ble_eq_true rfl)) dX11_isSome_23 ?_
      refine r_iconst E 0 rfl dX11_isSome_26 ?_
      refine r_iconst E 0 rfl dX11_isSome_27 ?_
      obtain ⟨i6, hw⟩ := hw
      refine r_iast E rfl rfl rfl (Nat.le_of_ble_eq_true rfl) (adr_lt (Nat.le_of_ble_eq_true rfl)) i6 dX11_isSome_28 ?_
      refine GG_toph fun h7 hh7 => ?_
      have hw := hw h7 hh7
      exact GG_weak [true, true, false] rfl (t_X11_isSome_b29 h7 0 E hE  hw)
set_option maxRecDepth 20000 in
theorem t_X11_wantsNothing_b2F {X : Ctx} (h : Hp) (x1 : Int32)  (E : EE X cX11_wantsNothing RX11 2 1 24 0 0) {Q : Hp → Prop} (hE : ENDv X cX11_wantsNothing Q NT 0 0)  (P2 : Int32 → Hp → Prop) (hP2 : ∀ (y1 : Int32) (u : Hp), P2 y1 u → GG X 0 0 NT u [some (rf X 11 0), some (.int y1)] 2 []) (hw : wp_X11_wantsNothing_b2F    Q P2 x1 h) : GG X 0 0 NT h [some (rf X 11 0), some (.int x1)] 2 [] := by
  unfold wp_X11_wantsNothing_b2F at hw
  refine r_iload_n E x1 rfl dX11_wantsNothing_2 ?_
  refine r_bipush E 60 rfl dX11_wantsNothing_3 ?_
  refine r_icmp_ge E 28 (by decide) dX11_wantsNothing_5 (fun c1 => ?_) (fun c1 => ?_)
  · have hw := ite_t hw c1
    refine r_aload_n E 11 0 rfl dX11_wantsNothing_28 ?_
    refine r_iconst E (-1) rfl dX11_wantsNothing_29 ?_
    refine r_putI E fd_X11_317 rfl PI_int (Nat.le_of_ble_eq_true rfl) (adr_lt (Nat.le_of_ble_eq_true rfl)) rfl dX11_wantsNothing_30 ?_
    refine GG_toph fun h2 hh2 => ?_
    have hw := hw h2 hh2
    refine r_aload_n E 11 0 rfl dX11_wantsNothing_33 ?_
    refine r_iconst E (-1) rfl dX11_wantsNothing_34 ?_
    refine r_putI E fd_X11_320 rfl PI_int (Nat.le_of_ble_eq_true rfl) (adr_lt (Nat.le_of_ble_eq_true rfl)) rfl dX11_wantsNothing_35 ?_
    refine GG_toph fun h3 hh3 => ?_
    have hw := hw h3 hh3
    exact hE _ _ _ _ _ (Nat.le_of_ble_eq_true rfl) (Nat.le_of_ble_eq_true rfl) dX11_wantsNothing_38 hw
  · have hw := ite_f hw c1
    refine r_aload_n E 11 0 rfl dX11_wantsNothing_8 ?_
    refine r_getS E fd_X11_117 (t := 0) (j1 := 68) rfl rfl rfl rfl (Nat.le_of_ble_eq_true rfl) (adr_lt (Nat.le_of_ble_eq_true rfl)) dX11_wantsNothing_9 ?_
    refine r_iload_n E x1 rfl dX11_wantsNothing_12 ?_
    refine r_iconst E 0 rfl dX11_wantsNothing_13 ?_
    obtain ⟨i4, hw⟩ := hw
    refine r_zast E rfl rfl rfl (Nat.le_of_ble_eq_true rfl) (adr_lt (Nat.le_of_ble_eq_true rfl)) i4 rfl dX11_wantsNothing_14 ?_
    refine GG_toph fun h5 hh5 => ?_
    have hw := hw h5 hh5
    refine r_aload_n E 11 0 rfl dX11_wantsNothing_15 ?_
    refine r_getS E fd_X11_129 (t := 0) (j1 := 72) rfl rfl rfl rfl (Nat.le_of_ble_eq_true rfl) (adr_lt (Nat.le_of_ble_eq_true rfl)) dX11_wantsNothing_16 ?_
    refine r_iload_n E x1 rfl dX11_wantsNothing_19 ?_
    refine r_iconst E 0 rfl dX11_wantsNothing_20 ?_
    refine r_iast E rfl rfl rfl (Nat.le_of_ble_eq_true rfl) (adr_lt (Nat.le_of_ble_eq_true rfl)) i4 dX11_wantsNothing_21 ?_
    refine GG_toph fun h6 hh6 => ?_
    have hw := hw h6 hh6
    obtain ⟨v7, hv7⟩ : ∃ y : Int32, y = x1 + 1 := ⟨_, rfl⟩
    have hw := hw v7 hv7
    refine r_iinc E x1 v7 [some (rf X 11 0), some (.int v7)] rfl (by rw [hv7]; rfl) (Nat.le_of_ble_eq_true rfl) rfl dX11_wantsNothing_22 ?_
    refine r_goto E 2 (by decide) dX11_wantsNothing_25 ?_
    exact GG_weak [true, true] rfl (hP2 _ _ hw)
set_option maxRecDepth 20000 in
theorem t_X11_wantsNothing_b2 {X : Ctx} (h : Hp) (x1 : Int32)  (E : EE X cX11_wantsNothing RX11 2 1 24 0 0) {Q : Hp → Prop} (hE : ENDv X cX11_wantsNothing Q NT 0 0)  (hw : wp_X11_wantsNothing_b2 x1 h  Q) : GG X 0 0 NT h [some (rf X 11 0), some (.int x1)] 2 [] :=
  hw (fun y1 u => GG X 0 0 NT u [some (rf X 11 0), some (.int y1)] 2 []) (fun y1 u hq => t_X11_wantsNothing_b2F u y1  E hE  (fun y1 u => GG X 0 0 NT u [some (rf X 11 0), some (.int y1)] 2 []) (fun y1 u q => q) hq)
set_option maxRecDepth 20000 in
theorem m_X11_wantsNothing {l : Launch} (hl : l.stackTraces = false) (G : Gq)   (h : Hp) (Q : Hp → Prop) (hw : wp_X11_wantsNothing  h Q) : MV l G yX11_wantsNothing cX11_wantsNothing 2 none rm_X11_wantsNothing NT NT h (fun r => [r 11 0]) Q := by
  refine MV_of (L0 := (fun X => [some (rf X 11 0), none])) hl (by decide +kernel) rfl (fun _ => Nat.le_of_ble_eq_true rfl) (fun _ => rfl) fun X hXl hXG E hE => ?_
  subst hXl; subst hXG
  unfold wp_X11_wantsNothing at hw
  refine r_iconst E 0 rfl dX11_wantsNothing_0 ?_
  refine r_istore_n E [some (rf X 11 0), some (.int 0)] rfl (Nat.le_of_ble_eq_true rfl) rfl dX11_wantsNothing_1 ?_
  exact GG_weak [true, true] rfl (t_X11_wantsNothing_b2 h 0 E hE  hw)
set_option maxRecDepth 20000 in
theorem m_X11_wants {l : Launch} (hl : l.stackTraces = false) (G : Gq) (p0 : Int32) (p1 : Int32)  (h : Hp) (Q : Hp → Prop) (hw : wp_X11_wants p0 p1 h Q) : MV l G yX11_wants cX11_wants 3 none rm_X11_wants NT NT h (fun r => [r 11 0, .int p0, .int p1]) Q := by
  refine MV_of (L0 := (fun X => [some (rf X 11 0), some (.int p0), some (.int p1)])) hl (by decide +kernel) rfl (fun _ => Nat.le_of_ble_eq_true rfl) (fun _ => rfl) fun X hXl hXG E hE => ?_
  subst hXl; subst hXG
  unfold wp_X11_wants at hw
  refine r_aload_n E 11 0 rfl dX11_wants_0 ?_
  refine r_getS E fd_X11_117 (t := 0) (j1 := 68) rfl rfl rfl rfl (Nat.le_of_ble_eq_true rfl) (adr_lt (Nat.le_of_ble_eq_true rfl)) dX11_wants_1 ?_
  refine r_iload_n E p0 rfl dX11_wants_4 ?_
  refine r_iconst E 1 rfl dX11_wants_5 ?_
  obtain ⟨i1, hw⟩ := hw
  refine r_zast E rfl rfl rfl (Nat.le_of_ble_eq_true rfl) (adr_lt (Nat.le_of_ble_eq_true rfl)) i1 rfl dX11_wants_6 ?_
  refine GG_toph fun h2 hh2 => ?_
  have hw := hw h2 hh2
  refine r_aload_n E 11 0 rfl dX11_wants_7 ?_
  refine r_getS E fd_X11_129 (t := 0) (j1 := 72) rfl rfl rfl rfl (Nat.le_of_ble_eq_true rfl) (adr_lt (Nat.le_of_ble_eq_true rfl)) dX11_wants_8 ?_
  refine r_iload_n E p0 rfl dX11_wants_11 ?_
  refine r_dup2 E rfl rfl dX11_wants_12 ?_
  refine r_iald E rfl rfl rfl (Nat.le_of_ble_eq_true rfl) (adr_lt (Nat.le_of_ble_eq_true rfl)) i1 dX11_wants_13 ?_
  refine r_iload_n E p1 rfl dX11_wants_14 ?_
  refine r_ior E dX11_wants_15 ?_
  refine r_iast E rfl rfl rfl (Nat.le_of_ble_eq_true rfl) (adr_lt (Nat.le_of_ble_eq_true rfl)) i1 dX11_wants_16 ?_
  refine GG_toph fun h3 hh3 => ?_
  have hw := hw h3 hh3
  exact hE _ _ _ _ _ (Nat.le_of_ble_eq_true rfl) (Nat.le_of_ble_eq_true rfl) dX11_wants_17 hw
set_option maxRecDepth 20000 in
theorem t_X11_ends_b2F {X : Ctx} (h : Hp) (x1 : Int32) (x2 : Int32)  (E : EE X cX11_ends RX11 3 1 24 0 0) {Q : Int32 → Prop} (hE : ENDi X cX11_ends .boolean (fun r u => h = u ∧ isB r ∧ Q r) NT 0 0)  (P2 : Int32 → Prop) (hP2 : ∀ (y2 : Int32), P2 y2 → GG X 0 0 NT h [some (rf X 11 0), some (.int x1), some (.int y2)] 2 []) (hw : wp_X11_ends_b2F x1 h  Q P2 x2 ) : GG X 0 0 NT h [some (rf X 11 0), some (.int x1), some (.int x2)] 2 [] := by
  unfold wp_X11_ends_b2F at hw
  refine r_iload_n E x2 rfl dX11_ends_2 ?_
  refine r_aload_n E 11 0 rfl dX11_ends_3 ?_
  refine r_getS E fd_X11_78 (t := 0) (j1 := 55) rfl rfl rfl rfl (Nat.le_of_ble_eq_true rfl) (adr_lt (Nat.le_of_ble_eq_true rfl)) dX11_ends_4 ?_
  refine r_iload_n E x1 rfl dX11_ends_7 ?_
  obtain ⟨i1, hw⟩ := hw
  refine r_iald E rfl rfl rfl (Nat.le_of_ble_eq_true rfl) (adr_lt (Nat.le_of_ble_eq_true rfl)) i1 dX11_ends_8 ?_
  refine r_icmp_ge E 50 (by decide) dX11_ends_9 (fun c2 => ?_) (fun c2 => ?_)
  · have hw := ite_t hw c2
    refine r_iconst E 0 rfl dX11_ends_50 ?_
    exact hE _ _ _ _ _ _ (Nat.le_of_ble_eq_true rfl) (Nat.le_of_ble_eq_true rfl) dX11_ends_51 (isB_nar isB_0) ⟨rfl, isB_0, hw⟩
  · have hw := ite_f hw c2
    refine r_aload_n E 11 0 rfl dX11_ends_12 ?_
    refine r_getS E fd_X11_81 (t := 0) (j1 := 56) rfl rfl rfl rfl (Nat.le_of_ble_eq_true rfl) (adr_lt (Nat.le_of_ble_eq_true rfl)) dX11_ends_13 ?_
    refine r_iconst E 5 rfl dX11_ends_16 ?_
    refine r_iload_n E x1 rfl dX11_ends_17 ?_
    refine r_imul E dX11_ends_18 ?_
    refine r_iload_n E x2 rfl dX11_ends_19 ?_
    refine r_iadd E dX11_ends_20 ?_
    obtain ⟨i3, hw⟩ := hw
    refine r_cald E rfl rfl rfl (Nat.le_of_ble_eq_true rfl) (adr_lt (Nat.le_of_ble_eq_true rfl)) i3 dX11_ends_21 ?_
    refine r_bipush E 115 rfl dX11_ends_22 ?_
    refine r_icmp_eq E 42 (by decide) dX11_ends_24 (fun c4 => ?_) (fun c4 => ?_)
    · have hw := ite_t hw c4
      refine r_iconst E 1 rfl dX11_ends_42 ?_
      exact hE _ _ _ _ _ _ (Nat.le_of_ble_eq_true rfl) (Nat.le_of_ble_eq_true rfl) dX11_ends_43 (isB_nar isB_1) ⟨rfl, isB_1, hw⟩
    · have hw := ite_f hw c4
      refine r_aload_n E 11 0 rfl dX11_ends_27 ?_
      refine r_getS E fd_X11_81 (t := 0) (j1 := 56) rfl rfl rfl rfl (Nat.le_of_ble_eq_true rfl) (adr_lt (Nat.le_of_ble_eq_true rfl)) dX11_ends_28 ?_
      refine r_iconst E 5 rfl dX11_ends_31 ?_
      refine r_iload_n E x1 rfl dX11_ends_32 ?_
      refine r_imul E dX11_ends_33 ?_
      refine r_iload_n E x2 rfl dX11_ends_34 ?_
      refine r_iadd E dX11_ends_35 ?_
      refine r_cald E rfl rfl rfl (Nat.le_of_ble_eq_true rfl) (adr_lt (Nat.le_of_ble_eq_true rfl)) i3 dX11_ends_36 ?_
      refine r_bipush E 83 rfl dX11_ends_37 ?_
      refine r_icmp_ne E 44 (by decide) dX11_ends_39 (fun c5 => ?_) (fun c5 => ?_)
      · have hw := ite_t hw c5
        refine r_iconst E 1 rfl dX11_ends_42 ?_
        exact hE _ _ _ _ _ _ (Nat.le_of_ble_eq_true rfl) (Nat.le_of_ble_eq_true rfl) dX11_ends_43 (isB_nar isB_1) ⟨rfl, isB_1, hw⟩
      · have hw := ite_f hw c5
        obtain ⟨v6, hv6⟩ : ∃ y : Int32, y = x2 + 1 := ⟨_, rfl⟩
        have hw := hw v6 hv6
        refine r_iinc E x2 v6 [some (rf X 11 0), some (.int x1), some (.int v6)] rfl (by rw [hv6]; rfl) (Nat.le_of_ble_eq_true rfl) rfl dX11_ends_44 ?_
        refine r_goto E 2 (by decide) dX11_ends_47 ?_
        exact GG_weak [true, true, true] rfl (hP2 _ hw)
set_option maxRecDepth 20000 in
theorem t_X11_ends_b2 {X : Ctx} (h : Hp) (x1 : Int32) (x2 : Int32)  (E : EE X cX11_ends RX11 3 1 24 0 0) {Q : Int32 → Prop} (hE : ENDi X cX11_ends .boolean (fun r u => h = u ∧ isB r ∧ Q r) NT 0 0)  (hw : wp_X11_ends_b2 x1 x2 h  Q) : GG X 0 0 NT h [some (rf X 11 0), some (.int x1), some (.int x2)] 2 [] :=
  hw (fun y2  => GG X 0 0 NT h [some (rf X 11 0), some (.int x1), some (.int y2)] 2 []) (fun y2  hq => t_X11_ends_b2F h x1 y2  E hE  (fun y2  => GG X 0 0 NT h [some (rf X 11 0), some (.int x1), some (.int y2)] 2 []) (fun y2  q => q) hq)
set_option maxRecDepth 20000 in
theorem m_X11_ends {l : Launch} (hl : l.stackTraces = false) (G : Gq) (p0 : Int32)  (h : Hp) (Q : Int32 → Prop) (hw : wp_X11_ends p0 h Q) : MI l G yX11_ends cX11_ends 3 (some .boolean) rm_X11_ends NT NT h (fun r => [r 11 0, .int p0]) (fun r u => h = u ∧ isB r ∧ Q r) := by
  refine MI_of (L0 := (fun X => [some (rf X 11 0), some (.int p0), none])) hl (by decide +kernel) rfl (fun _ => Nat.le_of_ble_eq_true rfl) (fun _ => rfl) fun X hXl hXG E hE => ?_
  subst hXl; subst hXG
  unfold wp_X11_ends at hw
  refine r_iconst E 0 rfl dX11_ends_0 ?_
  refine r_istore_n E [some (rf X 11 0), some (.int p0), some (.int 0)] rfl (Nat.le_of_ble_eq_true rfl) rfl dX11_ends_1 ?_
  exact GG_weak [true, true, true] rfl (t_X11_ends_b2 h p0 0 E hE  hw)
set_option maxRecDepth 20000 in
theorem t_X11_isShadowed_b67 {X : Ctx} (h : Hp) (x1 : Int32) (x2 : Int32) (x3 : Int32)  (E : EE X cX11_isShadowed RX11 4 5 119 0 0) {Q : Int32 → Hp → Prop} (hE : ENDi X cX11_isShadowed .boolean (fun r u => isB r ∧ Q r u) NT 0 0) (P33 : Int32 → Hp → Prop) (hP33 : ∀ (y3 : Int32) (u : Hp), P33 y3 u → GG X 0 0 NT u [some (rf X 11 0), some (.int x1), some (.int x2), some (.int y3)] 33 []) (hw : wp_X11_isShadowed_b67 x1 x2 x3 h P33 Q) : GG X 0 0 NT h [some (rf X 11 0), some (.int x1), some (.int x2), some (.int x3)] 67 [] := by
  unfold wp_X11_isShadowed_b67 at hw
  obtain ⟨v1, hv1⟩ : ∃ y : Int32, y = x3 + 1 := ⟨_, rfl⟩
  have hw := hw v1 hv1
  refine r_iinc E x3 v1 [some (rf X 11 0), some (.int x1), some (.int x2), some (.int v1)] rfl (by rw [hv1]; rfl) (Nat.le_of_ble_eq_true rfl) rfl dX11_isShadowed_67 ?_
  refine r_goto E 33 (by decide) dX11_isShadowed_70 ?_
  exact GG_weak [true, true, true, true] rfl (hP33 _ _ hw)
set_option maxRecDepth 20000 in
theorem t_X11_isShadowed_b33F {X : Ctx} (h : Hp) (x1 : Int32) (x2 : Int32) (x3 : Int32)  (E : EE X cX11_isShadowed RX11 4 5 119 0 0) {Q : Int32 → Hp → Prop} (hE : ENDi X cX11_isShadowed .boolean (fun r u => isB r ∧ Q r u) NT 0 0)  (P33 : Int32 → Hp → Prop) (hP33 : ∀ (y3 : Int32) (u : Hp), P33 y3 u → GG X 0 0 NT u [some (rf X 11 0), some (.int x1), some (.int x2), some (.int y3)] 33 []) (hw : wp_X11_isShadowed_b33F x1 x2   Q P33 x3 h) : GG X 0 0 NT h [some (rf X 11 0), some (.int x1), some (.int x2), some (.int x3)] 33 [] := by
  unfold wp_X11_isShadowed_b33F at hw
  refine r_iload_n E x3 rfl dX11_isShadowed_33 ?_
  refine r_iload_n E x2 rfl dX11_isShadowed_34 ?_
  refine r_icmp_ge E 73 (by decide) dX11_isShadowed_35 (fun c1 => ?_) (fun c1 => ?_)
  · have hw := ite_t hw c1
    refine r_aload_n E 11 0 rfl dX11_isShadowed_73 ?_
    refine r_aload_n E 11 0 rfl dX11_isShadowed_74 ?_
    refine r_getS E fd_X11_75 (t := 0) (j1 := 54) rfl rfl rfl rfl (Nat.le_of_ble_eq_true rfl) (adr_lt (Nat.le_of_ble_eq_true rfl)) dX11_isShadowed_75 ?_
    refine r_bipush E 12 rfl dX11_isShadowed_78 ?_
    refine r_iload_n E x1 rfl dX11_isShadowed_80 ?_
    refine r_imul E dX11_isShadowed_81 ?_
    refine r_iload_n E x2 rfl dX11_isShadowed_82 ?_
    refine r_iadd E dX11_isShadowed_83 ?_
    obtain ⟨i2, hw⟩ := hw
    refine r_iald E rfl rfl rfl (Nat.le_of_ble_eq_true rfl) (adr_lt (Nat.le_of_ble_eq_true rfl)) i2 dX11_isShadowed_84 ?_
    refine r_iconst E 1 rfl dX11_isShadowed_85 ?_
    refine r_callVV E (m_X11_wants (EE_st E) (GX X) (gI h 54 0 ((12 * x1) + x2).toNatClampNeg) 1 h _ hw) lk_X11_339 (RM_mk (Nat.le_of_ble_eq_true rfl) (Nat.le_of_ble_eq_true rfl)) rfl rfl rfl rfl (Nat.le_of_ble_eq_true rfl) (adr_lt (Nat.le_of_ble_eq_true rfl)) (Nat.le_of_ble_eq_true rfl) rfl rfl (Nat.le_of_ble_eq_true rfl) (Nat.le_of_ble_eq_true rfl) dX11_isShadowed_86 (fun h3 hw => ?_)
    refine r_aload_n E 11 0 rfl dX11_isShadowed_89 ?_
    refine r_callVI E (m_X11_isSome (EE_st E) (GX X)  h3 _ hw) lk_X11_342 (RM_mk (Nat.le_of_ble_eq_true rfl) (Nat.le_of_ble_eq_true rfl)) rfl rfl rfl rfl (Nat.le_of_ble_eq_true rfl) (adr_lt (Nat.le_of_ble_eq_true rfl)) (Nat.le_of_ble_eq_true rfl) rfl rfl (Nat.le_of_ble_eq_true rfl) (Nat.le_of_ble_eq_true rfl) dX11_isShadowed_90 (fun r4 h5 hw => ?_)
    obtain ⟨zr4, hw⟩ := hw
    refine r_if_ne E 100 (by decide) dX11_isShadowed_93 (fun c6 => ?_) (fun c6 => ?_)
    · have hw := ite_t hw c6
      refine r_iconst E 1 rfl dX11_isShadowed_96 ?_
      refine r_goto E 101 (by decide) dX11_isShadowed_97 ?_
      exact hE _ _ _ _ _ _ (Nat.le_of_ble_eq_true rfl) (Nat.le_of_ble_eq_true rfl) dX11_isShadowed_101 (isB_nar isB_1) ⟨isB_1, hw⟩
    · have hw := ite_f hw c6
      refine r_iconst E 0 rfl dX11_isShadowed_100 ?_
      exact hE _ _ _ _ _ _ (Nat.le_of_ble_eq_true rfl) (Nat.le_of_ble_eq_true rfl) dX11_isShadowed_101 (isB_nar isB_0) ⟨isB_0, hw⟩
  · have hw := ite_f hw c1
    refine r_aload_n E 11 0 rfl dX11_isShadowed_38 ?_
    refine r_bipush E 12 rfl dX11_isShadowed_39 ?_
    refine r_iload_n E x1 rfl dX11_isShadowed_41 ?_
    refine r_imul E dX11_isShadowed_42 ?_
    refine r_iload_n E x3 rfl dX11_isShadowed_43 ?_
    refine r_iadd E dX11_isShadowed_44 ?_
    refine r_callVI E (m_X11_ends (EE_st E) (GX X) ((12 * x1) + x3) h _ hw) lk_X11_336 (RM_mk (Nat.le_of_ble_eq_true rfl) (Nat.le_of_ble_eq_true rfl)) rfl rfl rfl rfl (Nat.le_of_ble_eq_true rfl) (adr_lt (Nat.le_of_ble_eq_true rfl)) (Nat.le_of_ble_eq_true rfl) rfl rfl (Nat.le_of_ble_eq_true rfl) (Nat.le_of_ble_eq_true rfl) dX11_isShadowed_45 (fun r7 u9 hw => ?_)
    obtain ⟨rfl, zr7, hw⟩ := hw
    refine r_if_eq E 67 (by decide) dX11_isShadowed_48 (fun c8 => ?_) (fun c8 => ?_)
    · have hw := ite_t hw c8
      exact GG_weak [true, true, true, true] rfl (t_X11_isShadowed_b67 h x1 x2 x3 E hE P33 hP33  hw)
    · have hw := ite_f hw c8
      refine r_aload_n E 11 0 rfl dX11_isShadowed_51 ?_
      refine r_aload_n E 11 0 rfl dX11_isShadowed_52 ?_
      refine r_getS E fd_X11_75 (t := 0) (j1 := 54) rfl rfl rfl rfl (Nat.le_of_ble_eq_true rfl) (adr_lt (Nat.le_of_ble_eq_true rfl)) dX11_isShadowed_53 ?_
      refine r_bipush E 12 rfl dX11_isShadowed_56 ?_
      refine r_iload_n E x1 rfl dX11_isShadowed_58 ?_
      refine r_imul E dX11_isShadowed_59 ?_
      refine r_iload_n E x3 rfl dX11_isShadowed_60 ?_
      refine r_iadd E dX11_isShadowed_61 ?_
      obtain ⟨i9, hw⟩ := hw
      refine r_iald E rfl rfl rfl (Nat.le_of_ble_eq_true rfl) (adr_lt (Nat.le_of_ble_eq_true rfl)) i9 dX11_isShadowed_62 ?_
      refine r_iconst E 2 rfl dX11_isShadowed_63 ?_
      refine r_callVV E (m_X11_wants (EE_st E) (GX X) (gI h 54 0 ((12 * x1) + x3).toNatClampNeg) 2 h _ hw) lk_X11_339 (RM_mk (Nat.le_of_ble_eq_true rfl) (Nat.le_of_ble_eq_true rfl)) rfl rfl rfl rfl (Nat.le_of_ble_eq_true rfl) (adr_lt (Nat.le_of_ble_eq_true rfl)) (Nat.le_of_ble_eq_true rfl) rfl rfl (Nat.le_of_ble_eq_true rfl) (Nat.le_of_ble_eq_true rfl) dX11_isShadowed_64 (fun h10 hw => ?_)
      exact GG_weak [true, true, true, true] rfl (t_X11_isShadowed_b67 h10 x1 x2 x3 E hE P33 hP33  hw)
set_option maxRecDepth 20000 in
theorem t_X11_isShadowed_b33 {X : Ctx} (h : Hp) (x1 : Int32) (x2 : Int32) (x3 : Int32)  (E : EE X cX11_isShadowed RX11 4 5 119 0 0) {Q : Int32 → Hp → Prop} (hE : ENDi X cX11_isShadowed .boolean (fun r u => isB r ∧ Q r u) NT 0 0)  (hw : wp_X11_isShadowed_b33 x1 x2 x3 h  Q) : GG X 0 0 NT h [some (rf X 11 0), some (.int x1), some (.int x2), some (.int x3)] 33 [] :=
  hw (fun y3 u => GG X 0 0 NT u [some (rf X 11 0), some (.int x1), some (.int x2), some (.int y3)] 33 []) (fun y3 u hq => t_X11_isShadowed_b33F u x1 x2 y3  E hE  (fun y3 u => GG X 0 0 NT u [some (rf X 11 0), some (.int x1), some (.int x2), some (.int y3)] 33 []) (fun y3 u q => q) hq)
set_option maxRecDepth 20000 in
theorem t_X11_isShadowed_b15 {X : Ctx} (h : Hp) (x1 : Int32) (x2 : Int32) (s1 : Int32)  (E : EE X cX11_isShadowed RX11 4 5 119 0 0) {Q : Int32 → Hp → Prop} (hE : ENDi X cX11_isShadowed .boolean (fun r u => isB r ∧ Q r u) NT 0 0)  (hw : wp_X11_isShadowed_b15 x1 x2 s1 h  Q) : GG X 0 0 NT h [some (rf X 11 0), some (.int x1), some (.int x2), none] 15 [.int s1, rf X 11 0] := by
  unfold wp_X11_isShadowed_b15 at hw
  refine r_putI E fd_X11_138 rfl PI_int (Nat.le_of_ble_eq_true rfl) (adr_lt (Nat.le_of_ble_eq_true rfl)) rfl dX11_isShadowed_15 ?_
  refine GG_toph fun h1 hh1 => ?_
  have hw := hw h1 hh1
  refine r_aload_n E 11 0 rfl dX11_isShadowed_18 ?_
  refine r_getI E fd_X11_138 rfl (Nat.le_of_ble_eq_true rfl) (adr_lt (Nat.le_of_ble_eq_true rfl)) dX11_isShadowed_19 ?_
  refine r_if_le E 27 (by decide) dX11_isShadowed_22 (fun c2 => ?_) (fun c2 => ?_)
  · have hw := ite_t hw c2
    refine r_aload_n E 11 0 rfl dX11_isShadowed_27 ?_
    refine r_callVV E (m_X11_wantsNothing (EE_st E) (GX X)  h1 _ hw) lk_X11_333 (RM_mk (Nat.le_of_ble_eq_true rfl) (Nat.le_of_ble_eq_true rfl)) rfl rfl rfl rfl (Nat.le_of_ble_eq_true rfl) (adr_lt (Nat.le_of_ble_eq_true rfl)) (Nat.le_of_ble_eq_true rfl) rfl rfl (Nat.le_of_ble_eq_true rfl) (Nat.le_of_ble_eq_true rfl) dX11_isShadowed_28 (fun h3 hw => ?_)
    refine r_iconst E 0 rfl dX11_isShadowed_31 ?_
    refine r_istore_n E [some (rf X 11 0), some (.int x1), some (.int x2), some (.int 0)] rfl (Nat.le_of_ble_eq_true rfl) rfl dX11_isShadowed_32 ?_
    exact GG_weak [true, true, true, true] rfl (t_X11_isShadowed_b33 h3 x1 x2 0 E hE  hw)
  · have hw := ite_f hw c2
    refine r_iconst E 0 rfl dX11_isShadowed_25 ?_
    exact hE _ _ _ _ _ _ (Nat.le_of_ble_eq_true rfl) (Nat.le_of_ble_eq_true rfl) dX11_isShadowed_26 (isB_nar isB_0) ⟨isB_0, hw⟩
set_option maxRecDepth 20000 in
theorem m_X11_isShadowed {l : Launch} (hl : l.stackTraces = false) (G : Gq) (p0 : Int32) (p1 : Int32)  (h : Hp) (Q : Int32 → Hp → Prop) (hw : wp_X11_isShadowed p0 p1 h Q) : MI l G yX11_isShadowed cX11_isShadowed 4 (some .boolean) rm_X11_isShadowed NT NT h (fun r => [r 11 0, .int p0, .int p1]) (fun r u => isB r ∧ Q r u) := by
  refine MI_of (L0 := (fun X => [some (rf X 11 0), some (.int p0), some (.int p1), none])) hl (by decide +kernel) rfl (fun _ => Nat.le_of_ble_eq_true rfl) (fun _ => rfl) fun X hXl hXG E hE => ?_
  subst hXl; subst hXG
  unfold wp_X11_isShadowed at hw
  refine r_aload_n E 11 0 rfl dX11_isShadowed_0 ?_
  refine r_aload_n E 11 0 rfl dX11_isShadowed_1 ?_
  refine r_iload_n E p0 rfl dX11_isShadowed_2 ?_
  refine r_iload_n E p1 rfl dX11_isShadowed_3 ?_
  refine r_callVI E (m_X11_isRule (EE_st E) (GX X) p0 p1 h _ hw) lk_X11_197 (RM_mk (Nat.le_of_ble_eq_true rfl) (Nat.le_of_ble_eq_true rfl)) rfl rfl rfl rfl (Nat.le_of_ble_eq_true rfl) (adr_lt (Nat.le_of_ble_eq_true rfl)) (Nat.le_of_ble_eq_true rfl) rfl rfl (Nat.le_of_ble_eq_true rfl) (Nat.le_of_ble_eq_true rfl) dX11_isShadowed_4 (fun r1 u9 hw => ?_)
  obtain ⟨rfl, zr1, hw⟩ := hw
  refine r_if_eq E 14 (by decide) dX11_isShadowed_7 (fun c2 => ?_) (fun c2 => ?_)
  · have hw := ite_t hw c2
    refine r_iconst E 1 rfl dX11_isShadowed_14 ?_
    exact GG_weak [true, true, true, false] rfl (t_X11_isShadowed_b15 h p0 p1 1 E hE  hw)
  · have hw := ite_f hw c2
    refine r_iconst E 0 rfl dX11_isShadowed_10 ?_
    refine r_goto E 15 (by decide) dX11_isShadowed_11 ?_
    exact GG_weak [true, true, true, false] rfl (t_X11_isShadowed_b15 h p0 p1 0 E hE  hw)
set_option maxRecDepth 20000 in
theorem t_X11_areSame_b22 {X : Ctx} (h : Hp) (x1 : Int32) (x2 : Int32) (s1 : Int32)  (E : EE X cX11_areSame RX11 3 5 119 0 0) {Q : Int32 → Hp → Prop} (hE : ENDi X cX11_areSame .boolean (fun r u => isB r ∧ Q r u) NT 0 0)  (hw : wp_X11_areSame_b22 x1 x2 s1 h  Q) : GG X 0 0 NT h [some (rf X 11 0), some (.int x1), some (.int x2)] 22 [.int s1, rf X 11 0] := by
  unfold wp_X11_areSame_b22 at hw
  refine r_putI E fd_X11_138 rfl PI_int (Nat.le_of_ble_eq_true rfl) (adr_lt (Nat.le_of_ble_eq_true rfl)) rfl dX11_areSame_22 ?_
  refine GG_toph fun h1 hh1 => ?_
  have hw := hw h1 hh1
  refine r_aload_n E 11 0 rfl dX11_areSame_25 ?_
  refine r_getI E fd_X11_138 rfl (Nat.le_of_ble_eq_true rfl) (adr_lt (Nat.le_of_ble_eq_true rfl)) dX11_areSame_26 ?_
  refine r_if_le E 34 (by decide) dX11_areSame_29 (fun c2 => ?_) (fun c2 => ?_)
  · have hw := ite_t hw c2
    refine r_aload_n E 11 0 rfl dX11_areSame_34 ?_
    refine r_callVV E (m_X11_wantsNothing (EE_st E) (GX X)  h1 _ hw) lk_X11_333 (RM_mk (Nat.le_of_ble_eq_true rfl) (Nat.le_of_ble_eq_true rfl)) rfl rfl rfl rfl (Nat.le_of_ble_eq_true rfl) (adr_lt (Nat.le_of_ble_eq_true rfl)) (Nat.le_of_ble_eq_true rfl) rfl rfl (Nat.le_of_ble_eq_true rfl) (Nat.le_of_ble_eq_true rfl) dX11_areSame_35 (fun h3 hw => ?_)
    refine r_aload_n E 11 0 rfl dX11_areSame_38 ?_
    refine r_getS E fd_X11_117 (t := 0) (j1 := 68) rfl rfl rfl rfl (Nat.le_of_ble_eq_true rfl) (adr_lt (Nat.le_of_ble_eq_true rfl)) dX11_areSame_39 ?_
    refine r_iload_n E x1 rfl dX11_areSame_42 ?_
    refine r_iconst E 1 rfl dX11_areSame_43 ?_
    obtain ⟨i4, hw⟩ := hw
    refine r_zast E rfl rfl rfl (Nat.le_of_ble_eq_true rfl) (adr_lt (Nat.le_of_ble_eq_true rfl)) i4 rfl dX11_areSame_44 ?_
    refine GG_toph fun h5 hh5 => ?_
    have hw := hw h5 hh5
    refine r_aload_n E 11 0 rfl dX11_areSame_45 ?_
    refine r_getS E fd_X11_117 (t := 0) (j1 := 68) rfl rfl rfl rfl (Nat.le_of_ble_eq_true rfl) (adr_lt (Nat.le_of_ble_eq_true rfl)) dX11_areSame_46 ?_
    refine r_iload_n E x2 rfl dX11_areSame_49 ?_
    refine r_iconst E 1 rfl dX11_areSame_50 ?_
    obtain ⟨i6, hw⟩ := hw
    refine r_zast E rfl rfl rfl (Nat.le_of_ble_eq_true rfl) (adr_lt (Nat.le_of_ble_eq_true rfl)) i6 rfl dX11_areSame_51 ?_
    refine GG_toph fun h7 hh7 => ?_
    have hw := hw h7 hh7
    refine r_aload_n E 11 0 rfl dX11_areSame_52 ?_
    refine r_iload_n E x1 rfl dX11_areSame_53 ?_
    refine r_putI E fd_X11_317 rfl PI_int (Nat.le_of_ble_eq_true rfl) (adr_lt (Nat.le_of_ble_eq_true rfl)) rfl dX11_areSame_54 ?_
    refine GG_toph fun h8 hh8 => ?_
    have hw := hw h8 hh8
    refine r_aload_n E 11 0 rfl dX11_areSame_57 ?_
    refine r_iload_n E x2 rfl dX11_areSame_58 ?_
    refine r_putI E fd_X11_320 rfl PI_int (Nat.le_of_ble_eq_true rfl) (adr_lt (Nat.le_of_ble_eq_true rfl)) rfl dX11_areSame_59 ?_
    refine GG_toph fun h9 hh9 => ?_
    have hw := hw h9 hh9
    refine r_aload_n E 11 0 rfl dX11_areSame_62 ?_
    refine r_callVI E (m_X11_isSome (EE_st E) (GX X)  h9 _ hw) lk_X11_342 (RM_mk (Nat.le_of_ble_eq_true rfl) (Nat.le_of_ble_eq_true rfl)) rfl rfl rfl rfl (Nat.le_of_ble_eq_true rfl) (adr_lt (Nat.le_of_ble_eq_true rfl)) (Nat.le_of_ble_eq_true rfl) rfl rfl (Nat.le_of_ble_eq_true rfl) (Nat.le_of_ble_eq_true rfl) dX11_areSame_63 (fun r10 h11 hw => ?_)
    obtain ⟨zr10, hw⟩ := hw
    refine r_if_ne E 73 (by decide) dX11_areSame_66 (fun c12 => ?_) (fun c12 => ?_)
    · have hw := ite_t hw c12
      refine r_iconst E 1 rfl dX11_areSame_69 ?_
      refine r_goto E 74 (by decide) dX11_areSame_70 ?_
      exact hE _ _ _ _ _ _ (Nat.le_of_ble_eq_true rfl) (Nat.le_of_ble_eq_true rfl) dX11_areSame_74 (isB_nar isB_1) ⟨isB_1, hw⟩
    · have hw := ite_f hw c12
      refine r_iconst E 0 rfl dX11_areSame_73 ?_
      exact hE _ _ _ _ _ _ (Nat.le_of_ble_eq_true rfl) (Nat.le_of_ble_eq_true rfl) dX11_areSame_74 (isB_nar isB_0) ⟨isB_0, hw⟩
  · have hw := ite_f hw c2
    refine r_iconst E 0 rfl dX11_areSame_32 ?_
    exact hE _ _ _ _ _ _ (Nat.le_of_ble_eq_true rfl) (Nat.le_of_ble_eq_true rfl) dX11_areSame_33 (isB_nar isB_0) ⟨isB_0, hw⟩
set_option maxRecDepth 20000 in
theorem t_X11_areSame_b21 {X : Ctx} (h : Hp) (x1 : Int32) (x2 : Int32)  (E : EE X cX11_areSame RX11 3 5 119 0 0) {Q : Int32 → Hp → Prop} (hE : ENDi X cX11_areSame .boolean (fun r u => isB r ∧ Q r u) NT 0 0)  (hw : wp_X11_areSame_b21 x1 x2 h  Q) : GG X 0 0 NT h [some (rf X 11 0), some (.int x1), some (.int x2)] 21 [rf X 11 0] := by
  unfold wp_X11_areSame_b21 at hw
  refine r_iconst E 1 rfl dX11_areSame_21 ?_
  exact GG_weak [true, true, true] rfl (t_X11_areSame_b22 h x1 x2 1 E hE  hw)
set_option maxRecDepth 20000 in
theorem m_X11_areSame {l : Launch} (hl : l.stackTraces = false) (G : Gq) (p0 : Int32) (p1 : Int32)  (h : Hp) (Q : Int32 → Hp → Prop) (hw : wp_X11_areSame p0 p1 h Q) : MI l G yX11_areSame cX11_areSame 3 (some .boolean) rm_X11_areSame NT NT h (fun r => [r 11 0, .int p0, .int p1]) (fun r u => isB r ∧ Q r u) := by
  refine MI_of (L0 := (fun X => [some (rf X 11 0), some (.int p0), some (.int p1)])) hl (by decide +kernel) rfl (fun _ => Nat.le_of_ble_eq_true rfl) (fun _ => rfl) fun X hXl hXG E hE => ?_
  subst hXl; subst hXG
  unfold wp_X11_areSame at hw
  refine r_aload_n E 11 0 rfl dX11_areSame_0 ?_
  refine r_aload_n E 11 0 rfl dX11_areSame_1 ?_
  refine r_iload_n E p0 rfl dX11_areSame_2 ?_
  refine r_callVI E (m_X11_isTest (EE_st E) (GX X) p0 h _ hw) lk_X11_180 (RM_mk (Nat.le_of_ble_eq_true rfl) (Nat.le_of_ble_eq_true rfl)) rfl rfl rfl rfl (Nat.le_of_ble_eq_true rfl) (adr_lt (Nat.le_of_ble_eq_true rfl)) (Nat.le_of_ble_eq_true rfl) rfl rfl (Nat.le_of_ble_eq_true rfl) (Nat.le_of_ble_eq_true rfl) dX11_areSame_3 (fun r1 u9 hw => ?_)
  obtain ⟨rfl, zr1, hw⟩ := hw
  refine r_if_eq E 21 (by decide) dX11_areSame_6 (fun c2 => ?_) (fun c2 => ?_)
  · have hw := ite_t hw c2
    exact GG_weak [true, true, true] rfl (t_X11_areSame_b21 h p0 p1 E hE  hw)
  · have hw := ite_f hw c2
    refine r_aload_n E 11 0 rfl dX11_areSame_9 ?_
    refine r_iload_n E p1 rfl dX11_areSame_10 ?_
    refine r_callVI E (m_X11_isTest (EE_st E) (GX X) p1 h _ hw) lk_X11_180 (RM_mk (Nat.le_of_ble_eq_true rfl) (Nat.le_of_ble_eq_true rfl)) rfl rfl rfl rfl (Nat.le_of_ble_eq_true rfl) (adr_lt (Nat.le_of_ble_eq_true rfl)) (Nat.le_of_ble_eq_true rfl) rfl rfl (Nat.le_of_ble_eq_true rfl) (Nat.le_of_ble_eq_true rfl) dX11_areSame_11 (fun r3 u9 hw => ?_)
    obtain ⟨rfl, zr3, hw⟩ := hw
    refine r_if_eq E 21 (by decide) dX11_areSame_14 (fun c4 => ?_) (fun c4 => ?_)
    · have hw := ite_t hw c4
      exact GG_weak [true, true, true] rfl (t_X11_areSame_b21 h p0 p1 E hE  hw)
    · have hw := ite_f hw c4
      refine r_iconst E 0 rfl dX11_areSame_17 ?_
      refine r_goto E 22 (by decide) dX11_areSame_18 ?_
      exact GG_weak [true, true, true] rfl (t_X11_areSame_b22 h p0 p1 0 E hE  hw)
set_option maxRecDepth 20000 in
theorem m_X11_offers {l : Launch} (hl : l.stackTraces = false) (G : Gq) (p0 : Int32) (p1 : Int32)  (h : Hp) (Q : Hp → Prop) (hw : wp_X11_offers p0 p1 h Q) : MV l G yX11_offers cX11_offers 3 none rm_X11_offers NT NT h (fun r => [r 11 0, .int p0, .int p1]) Q := by
  refine MV_of (L0 := (fun X => [some (rf X 11 0), some (.int p0), some (.int p1)])) hl (by decide +kernel) rfl (fun _ => Nat.le_of_ble_eq_true rfl) (fun _ => rfl) fun X hXl hXG E hE => ?_
  subst hXl; subst hXG
  unfold wp_X11_offers at hw
  refine r_aload_n E 11 0 rfl dX11_offers_0 ?_
  refine r_getS E fd_X11_132 (t := 0) (j1 := 73) rfl rfl rfl rfl (Nat.le_of_ble_eq_true rfl) (adr_lt (Nat.le_of_ble_eq_true rfl)) dX11_offers_1 ?_
  refine r_aload_n E 11 0 rfl dX11_offers_4 ?_
  refine r_getI E fd_X11_345 rfl (Nat.le_of_ble_eq_true rfl) (adr_lt (Nat.le_of_ble_eq_true rfl)) dX11_offers_5 ?_
  refine r_iload_n E p0 rfl dX11_offers_8 ?_
  obtain ⟨i1, hw⟩ := hw
  refine r_cast E rfl rfl rfl (Nat.le_of_ble_eq_true rfl) (adr_lt (Nat.le_of_ble_eq_true rfl)) i1 rfl dX11_offers_9 ?_
  refine GG_toph fun h2 hh2 => ?_
  have hw := hw h2 hh2
  refine r_aload_n E 11 0 rfl dX11_offers_10 ?_
  refine r_getS E fd_X11_135 (t := 0) (j1 := 74) rfl rfl rfl rfl (Nat.le_of_ble_eq_true rfl) (adr_lt (Nat.le_of_ble_eq_true rfl)) dX11_offers_11 ?_
  refine r_aload_n E 11 0 rfl dX11_offers_14 ?_
  refine r_getI E fd_X11_345 rfl (Nat.le_of_ble_eq_true rfl) (adr_lt (Nat.le_of_ble_eq_true rfl)) dX11_offers_15 ?_
  refine r_iload_n E p1 rfl dX11_offers_18 ?_
  obtain ⟨i3, hw⟩ := hw
  refine r_iast E rfl rfl rfl (Nat.le_of_ble_eq_true rfl) (adr_lt (Nat.le_of_ble_eq_true rfl)) i3 dX11_offers_19 ?_
  refine GG_toph fun h4 hh4 => ?_
  have hw := hw h4 hh4
  refine r_aload_n E 11 0 rfl dX11_offers_20 ?_
  refine r_dup E rfl dX11_offers_21 ?_
  refine r_getI E fd_X11_345 rfl (Nat.le_of_ble_eq_true rfl) (adr_lt (Nat.le_of_ble_eq_true rfl)) dX11_offers_22 ?_
  refine r_iconst E 1 rfl dX11_offers_25 ?_
  refine r_iadd E dX11_offers_26 ?_
  refine r_putI E fd_X11_345 rfl PI_int (Nat.le_of_ble_eq_true rfl) (adr_lt (Nat.le_of_ble_eq_true rfl)) rfl dX11_offers_27 ?_
  refine GG_toph fun h5 hh5 => ?_
  have hw := hw h5 hh5
  exact hE _ _ _ _ _ (Nat.le_of_ble_eq_true rfl) (Nat.le_of_ble_eq_true rfl) dX11_offers_30 hw
set_option maxRecDepth 20000 in
theorem t_X11_offersAll_b175F {X : Ctx} (h : Hp) (x1 : Int32)  (E : EE X cX11_offersAll RX11 4 2 46 0 0) {Q : Hp → Prop} (hE : ENDv X cX11_offersAll Q NT 0 0)  (P175 : Int32 → Hp → Prop) (hP175 : ∀ (y1 : Int32) (u : Hp), P175 y1 u → GG X 0 0 NT u [some (rf X 11 0), some (.int y1), none, none] 175 []) (hw : wp_X11_offersAll_b175F    Q P175 x1 h) : GG X 0 0 NT h [some (rf X 11 0), some (.int x1), none, none] 175 [] := by
  unfold wp_X11_offersAll_b175F at hw
  refine r_iload_n E x1 rfl dX11_offersAll_175 ?_
  refine r_bipush E 7 rfl dX11_offersAll_176 ?_
  refine r_icmp_ge E 194 (by decide) dX11_offersAll_178 (fun c1 => ?_) (fun c1 => ?_)
  · have hw := ite_t hw c1
    exact hE _ _ _ _ _ (Nat.le_of_ble_eq_true rfl) (Nat.le_of_ble_eq_true rfl) dX11_offersAll_194 hw
  · have hw := ite_f hw c1
    refine r_aload_n E 11 0 rfl dX11_offersAll_181 ?_
    refine r_bipush E 100 rfl dX11_offersAll_182 ?_
    refine r_iload_n E x1 rfl dX11_offersAll_184 ?_
    refine r_callVV E (m_X11_offers (EE_st E) (GX X) 100 x1 h _ hw) lk_X11_348 (RM_mk (Nat.le_of_ble_eq_true rfl) (Nat.le_of_ble_eq_true rfl)) rfl rfl rfl rfl (Nat.le_of_ble_eq_true rfl) (adr_lt (Nat.le_of_ble_eq_true rfl)) (Nat.le_of_ble_eq_true rfl) rfl rfl (Nat.le_of_ble_eq_true rfl) (Nat.le_of_ble_eq_true rfl) dX11_offersAll_185 (fun h2 hw => ?_)
    obtain ⟨v3, hv3⟩ : ∃ y : Int32, y = x1 + 1 := ⟨_, rfl⟩
    have hw := hw v3 hv3
    refine r_iinc E x1 v3 [some (rf X 11 0), some (.int v3), none, none] rfl (by rw [hv3]; rfl) (Nat.le_of_ble_eq_true rfl) rfl dX11_offersAll_188 ?_
    refine r_goto E 175 (by decide) dX11_offersAll_191 ?_
    exact GG_weak [true, true, false, false] rfl (hP175 _ _ hw)
set_option maxRecDepth 20000 in
theorem t_X11_offersAll_b175 {X : Ctx} (h : Hp) (x1 : Int32)  (E : EE X cX11_offersAll RX11 4 2 46 0 0) {Q : Hp → Prop} (hE : ENDv X cX11_offersAll Q NT 0 0)  (hw : wp_X11_offersAll_b175 x1 h  Q) : GG X 0 0 NT h [some (rf X 11 0), some (.int x1), none, none] 175 [] :=
  hw (fun y1 u => GG X 0 0 NT u [some (rf X 11 0), some (.int y1), none, none] 175 []) (fun y1 u hq => t_X11_offersAll_b175F u y1  E hE  (fun y1 u => GG X 0 0 NT u [some (rf X 11 0), some (.int y1), none, none] 175 []) (fun y1 u q => q) hq)
set_option maxRecDepth 20000 in
theorem t_X11_offersAll_b167 {X : Ctx} (h : Hp) (x1 : Int32)  (E : EE X cX11_offersAll RX11 4 2 46 0 0) {Q : Hp → Prop} (hE : ENDv X cX11_offersAll Q NT 0 0) (P91 : Int32 → Hp → Prop) (hP91 : ∀ (y1 : Int32) (u : Hp), P91 y1 u → GG X 0 0 NT u [some (rf X 11 0), some (.int y1), none, none] 91 []) (hw : wp_X11_offersAll_b167 x1 h P91 Q) : GG X 0 0 NT h [some (rf X 11 0), some (.int x1), none, none] 167 [] := by
  unfold wp_X11_offersAll_b167 at hw
  obtain ⟨v1, hv1⟩ : ∃ y : Int32, y = x1 + 1 := ⟨_, rfl⟩
  have hw := hw v1 hv1
  refine r_iinc E x1 v1 [some (rf X 11 0), some (.int v1), none, none] rfl (by rw [hv1]; rfl) (Nat.le_of_ble_eq_true rfl) rfl dX11_offersAll_167 ?_
  refine r_goto E 91 (by decide) dX11_offersAll_170 ?_
  exact GG_weak [true, true, false, false] rfl (hP91 _ _ hw)
set_option maxRecDepth 20000 in
theorem t_X11_offersAll_b149 {X : Ctx} (h : Hp) (x1 : Int32) (x3 : Int32) (s0 : Int32)  (E : EE X cX11_offersAll RX11 4 2 46 0 0) {Q : Hp → Prop} (hE : ENDv X cX11_offersAll Q NT 0 0) (P91 : Int32 → Hp → Prop) (hP91 : ∀ (y1 : Int32) (u : Hp), P91 y1 u → GG X 0 0 NT u [some (rf X 11 0), some (.int y1), none, none] 91 []) (P102 : Int32 → Int32 → Hp → Prop) (hP102 : ∀ (y2 : Int32) (y3 : Int32) (u : Hp), P102 y2 y3 u → GG X 0 0 NT u [some (rf X 11 0), some (.int x1), some (.int y2), some (.int y3)] 102 []) (hw : wp_X11_offersAll_b149 x1 x3 s0 h P91 P102 Q) : GG X 0 0 NT h [some (rf X 11 0), some (.int x1), none, some (.int x3)] 149 [.int s0] := by
  unfold wp_X11_offersAll_b149 at hw
  refine r_istore_n E [some (rf X 11 0), some (.int x1), some (.int s0), some (.int x3)] rfl (Nat.le_of_ble_eq_true rfl) rfl dX11_offersAll_149 ?_
  obtain ⟨v1, hv1⟩ : ∃ y : Int32, y = x3 + 1 := ⟨_, rfl⟩
  have hw := hw v1 hv1
  refine r_iinc E x3 v1 [some (rf X 11 0), some (.int x1), some (.int s0), some (.int v1)] rfl (by rw [hv1]; rfl) (Nat.le_of_ble_eq_true rfl) rfl dX11_offersAll_150 ?_
  refine r_goto E 102 (by decide) dX11_offersAll_153 ?_
  exact GG_weak [true, true, true, true] rfl (hP102 _ _ _ hw)
set_option maxRecDepth 20000 in
theorem t_X11_offersAll_b144 {X : Ctx} (h : Hp) (x1 : Int32) (x3 : Int32)  (E : EE X cX11_offersAll RX11 4 2 46 0 0) {Q : Hp → Prop} (hE : ENDv X cX11_offersAll Q NT 0 0) (P91 : Int32 → Hp → Prop) (hP91 : ∀ (y1 : Int32) (u : Hp), P91 y1 u → GG X 0 0 NT u [some (rf X 11 0), some (.int y1), none, none] 91 []) (P102 : Int32 → Int32 → Hp → Prop) (hP102 : ∀ (y2 : Int32) (y3 : Int32) (u : Hp), P102 y2 y3 u → GG X 0 0 NT u [some (rf X 11 0), some (.int x1), some (.int y2), some (.int y3)] 102 []) (hw : wp_X11_offersAll_b144 x1 x3 h P91 P102 Q) : GG X 0 0 NT h [some (rf X 11 0), some (.int x1), none, some (.int x3)] 144 [] := by
  unfold wp_X11_offersAll_b144 at hw
  refine r_iconst E 1 rfl dX11_offersAll_144 ?_
  refine r_goto E 149 (by decide) dX11_offersAll_145 ?_
  exact GG_weak [true, true, false, true] rfl (t_X11_offersAll_b149 h x1 x3 1 E hE P91 hP91 P102 hP102  hw)
set_option maxRecDepth 20000 in
theorem t_X11_offersAll_b148 {X : Ctx} (h : Hp) (x1 : Int32) (x3 : Int32)  (E : EE X cX11_offersAll RX11 4 2 46 0 0) {Q : Hp → Prop} (hE : ENDv X cX11_offersAll Q NT 0 0) (P91 : Int32 → Hp → Prop) (hP91 : ∀ (y1 : Int32) (u : Hp), P91 y1 u → GG X 0 0 NT u [some (rf X 11 0), some (.int y1), none, none] 91 []) (P102 : Int32 → Int32 → Hp → Prop) (hP102 : ∀ (y2 : Int32) (y3 : Int32) (u : Hp), P102 y2 y3 u → GG X 0 0 NT u [some (rf X 11 0), some (.int x1), some (.int y2), some (.int y3)] 102 []) (hw : wp_X11_offersAll_b148 x1 x3 h P91 P102 Q) : GG X 0 0 NT h [some (rf X 11 0), some (.int x1), none, some (.int x3)] 148 [] := by
  unfold wp_X11_offersAll_b148 at hw
  refine r_iconst E 0 rfl dX11_offersAll_148 ?_
  exact GG_weak [true, true, false, true] rfl (t_X11_offersAll_b149 h x1 x3 0 E hE P91 hP91 P102 hP102  hw)
set_option maxRecDepth 20000 in
theorem t_X11_offersAll_b102F {X : Ctx} (h : Hp) (x1 : Int32) (x2 : Int32) (x3 : Int32)  (E : EE X cX11_offersAll RX11 4 2 46 0 0) {Q : Hp → Prop} (hE : ENDv X cX11_offersAll Q NT 0 0) (P91 : Int32 → Hp → Prop) (hP91 : ∀ (y1 : Int32) (u : Hp), P91 y1 u → GG X 0 0 NT u [some (rf X 11 0), some (.int y1), none, none] 91 []) (P102 : Int32 → Int32 → Hp → Prop) (hP102 : ∀ (y2 : Int32) (y3 : Int32) (u : Hp), P102 y2 y3 u → GG X 0 0 NT u [some (rf X 11 0), some (.int x1), some (.int y2), some (.int y3)] 102 []) (hw : wp_X11_offersAll_b102F x1  P91 Q P102 x2 x3 h) : GG X 0 0 NT h [some (rf X 11 0), some (.int x1), some (.int x2), some (.int x3)] 102 [] := by
  unfold wp_X11_offersAll_b102F at hw
  refine r_iload_n E x3 rfl dX11_offersAll_102 ?_
  refine r_aload_n E 11 0 rfl dX11_offersAll_103 ?_
  refine r_getI E fd_X11_151 rfl (Nat.le_of_ble_eq_true rfl) (adr_lt (Nat.le_of_ble_eq_true rfl)) dX11_offersAll_104 ?_
  refine r_icmp_ge E 156 (by decide) dX11_offersAll_107 (fun c1 => ?_) (fun c1 => ?_)
  · have hw := ite_t hw c1
    refine r_iload_n E x2 rfl dX11_offersAll_156 ?_
    refine r_if_eq E 167 (by decide) dX11_offersAll_157 (fun c2 => ?_) (fun c2 => ?_)
    · have hw := ite_t hw c2
      exact GG_weak [true, true, false, false] rfl (t_X11_offersAll_b167 h x1 E hE P91 hP91  hw)
    · have hw := ite_f hw c2
      refine r_aload_n E 11 0 rfl dX11_offersAll_160 ?_
      refine r_bipush E 122 rfl dX11_offersAll_161 ?_
      refine r_iload_n E x1 rfl dX11_offersAll_163 ?_
      refine r_callVV E (m_X11_offers (EE_st E) (GX X) 122 x1 h _ hw) lk_X11_348 (RM_mk (Nat.le_of_ble_eq_true rfl) (Nat.le_of_ble_eq_true rfl)) rfl rfl rfl rfl (Nat.le_of_ble_eq_true rfl) (adr_lt (Nat.le_of_ble_eq_true rfl)) (Nat.le_of_ble_eq_true rfl) rfl rfl (Nat.le_of_ble_eq_true rfl) (Nat.le_of_ble_eq_true rfl) dX11_offersAll_164 (fun h3 hw => ?_)
      exact GG_weak [true, true, false, false] rfl (t_X11_offersAll_b167 h3 x1 E hE P91 hP91  hw)
  · have hw := ite_f hw c1
    refine r_iload_n E x2 rfl dX11_offersAll_110 ?_
    refine r_if_ne E 144 (by decide) dX11_offersAll_111 (fun c4 => ?_) (fun c4 => ?_)
    · have hw := ite_t hw c4
      refine r_aload_n E 11 0 rfl dX11_offersAll_114 ?_
      refine r_getS E fd_X11_28 (t := 0) (j1 := 39) rfl rfl rfl rfl (Nat.le_of_ble_eq_true rfl) (adr_lt (Nat.le_of_ble_eq_true rfl)) dX11_offersAll_115 ?_
      refine r_iload_n E x3 rfl dX11_offersAll_118 ?_
      obtain ⟨i5, hw⟩ := hw
      refine r_zald E rfl rfl rfl (Nat.le_of_ble_eq_true rfl) (adr_lt (Nat.le_of_ble_eq_true rfl)) i5 dX11_offersAll_119 ?_
      refine r_if_eq E 148 (by decide) dX11_offersAll_120 (fun c6 => ?_) (fun c6 => ?_)
      · have hw := ite_t hw c6
        exact GG_weak [true, true, false, true] rfl (t_X11_offersAll_b148 h x1 x3 E hE P91 hP91 P102 hP102  hw)
      · have hw := ite_f hw c6
        refine r_aload_n E 11 0 rfl dX11_offersAll_123 ?_
        refine r_getS E fd_X11_32 (t := 0) (j1 := 40) rfl rfl rfl rfl (Nat.le_of_ble_eq_true rfl) (adr_lt (Nat.le_of_ble_eq_true rfl)) dX11_offersAll_124 ?_
        refine r_iload_n E x3 rfl dX11_offersAll_127 ?_
        refine r_zald E rfl rfl rfl (Nat.le_of_ble_eq_true rfl) (adr_lt (Nat.le_of_ble_eq_true rfl)) i5 dX11_offersAll_128 ?_
        refine r_if_ne E 148 (by decide) dX11_offersAll_129 (fun c7 => ?_) (fun c7 => ?_)
        · have hw := ite_t hw c7
          refine r_aload_n E 11 0 rfl dX11_offersAll_132 ?_
          refine r_getS E fd_X11_22 (t := 0) (j1 := 37) rfl rfl rfl rfl (Nat.le_of_ble_eq_true rfl) (adr_lt (Nat.le_of_ble_eq_true rfl)) dX11_offersAll_133 ?_
          refine r_iload_n E x3 rfl dX11_offersAll_136 ?_
          refine r_iald E rfl rfl rfl (Nat.le_of_ble_eq_true rfl) (adr_lt (Nat.le_of_ble_eq_true rfl)) i5 dX11_offersAll_137 ?_
          refine r_iconst E 1 rfl dX11_offersAll_138 ?_
          refine r_isub E dX11_offersAll_139 ?_
          refine r_iload_n E x1 rfl dX11_offersAll_140 ?_
          refine r_icmp_ne E 148 (by decide) dX11_offersAll_141 (fun c8 => ?_) (fun c8 => ?_)
          · have hw := ite_t hw c8
            exact GG_weak [true, true, false, true] rfl (t_X11_offersAll_b144 h x1 x3 E hE P91 hP91 P102 hP102  hw)
          · have hw := ite_f hw c8
            exact GG_weak [true, true, false, true] rfl (t_X11_offersAll_b148 h x1 x3 E hE P91 hP91 P102 hP102  hw)
        · have hw := ite_f hw c7
          exact GG_weak [true, true, false, true] rfl (t_X11_offersAll_b148 h x1 x3 E hE P91 hP91 P102 hP102  hw)
    · have hw := ite_f hw c4
      exact GG_weak [true, true, false, true] rfl (t_X11_offersAll_b144 h x1 x3 E hE P91 hP91 P102 hP102  hw)
set_option maxRecDepth 20000 in
theorem t_X11_offersAll_b102 {X : Ctx} (h : Hp) (x1 : Int32) (x2 : Int32) (x3 : Int32)  (E : EE X cX11_offersAll RX11 4 2 46 0 0) {Q : Hp → Prop} (hE : ENDv X cX11_offersAll Q NT 0 0) (P91 : Int32 → Hp → Prop) (hP91 : ∀ (y1 : Int32) (u : Hp), P91 y1 u → GG X 0 0 NT u [some (rf X 11 0), some (.int y1), none, none] 91 []) (hw : wp_X11_offersAll_b102 x1 x2 x3 h P91 Q) : GG X 0 0 NT h [some (rf X 11 0), some (.int x1), some (.int x2), some (.int x3)] 102 [] :=
  hw (fun y2 y3 u => GG X 0 0 NT u [some (rf X 11 0), some (.int x1), some (.int y2), some (.int y3)] 102 []) (fun y2 y3 u hq => t_X11_offersAll_b102F u x1 y2 y3  E hE P91 hP91 (fun y2 y3 u => GG X 0 0 NT u [some (rf X 11 0), some (.int x1), some (.int y2), some (.int y3)] 102 []) (fun y2 y3 u q => q) hq)
set_option maxRecDepth 20000 in
theorem t_X11_offersAll_b91F {X : Ctx} (h : Hp) (x1 : Int32)  (E : EE X cX11_offersAll RX11 4 2 46 0 0) {Q : Hp → Prop} (hE : ENDv X cX11_offersAll Q NT 0 0)  (P91 : Int32 → Hp → Prop) (hP91 : ∀ (y1 : Int32) (u : Hp), P91 y1 u → GG X 0 0 NT u [some (rf X 11 0), some (.int y1), none, none] 91 []) (hw : wp_X11_offersAll_b91F    Q P91 x1 h) : GG X 0 0 NT h [some (rf X 11 0), some (.int x1), none, none] 91 [] := by
  unfold wp_X11_offersAll_b91F at hw
  refine r_iload_n E x1 rfl dX11_offersAll_91 ?_
  refine r_sipush E 999 rfl dX11_offersAll_92 ?_
  refine r_icmp_ge E 173 (by decide) dX11_offersAll_95 (fun c1 => ?_) (fun c1 => ?_)
  · have hw := ite_t hw c1
    refine r_iconst E 0 rfl dX11_offersAll_173 ?_
    refine r_istore_n E [some (rf X 11 0), some (.int 0), none, none] rfl (Nat.le_of_ble_eq_true rfl) rfl dX11_offersAll_174 ?_
    exact GG_weak [true, true, false, false] rfl (t_X11_offersAll_b175 h 0 E hE  hw)
  · have hw := ite_f hw c1
    refine r_iconst E 0 rfl dX11_offersAll_98 ?_
    refine r_istore_n E [some (rf X 11 0), some (.int x1), some (.int 0), none] rfl (Nat.le_of_ble_eq_true rfl) rfl dX11_offersAll_99 ?_
    refine r_iconst E 0 rfl dX11_offersAll_100 ?_
    refine r_istore_n E [some (rf X 11 0), some (.int x1), some (.int 0), some (.int 0)] rfl (Nat.le_of_ble_eq_true rfl) rfl dX11_offersAll_101 ?_
    exact GG_weak [true, true, true, true] rfl (t_X11_offersAll_b102 h x1 0 0 E hE P91 hP91  hw)
set_option maxRecDepth 20000 in
theorem t_X11_offersAll_b91 {X : Ctx} (h : Hp) (x1 : Int32)  (E : EE X cX11_offersAll RX11 4 2 46 0 0) {Q : Hp → Prop} (hE : ENDv X cX11_offersAll Q NT 0 0)  (hw : wp_X11_offersAll_b91 x1 h  Q) : GG X 0 0 NT h [some (rf X 11 0), some (.int x1), none, none] 91 [] :=
  hw (fun y1 u => GG X 0 0 NT u [some (rf X 11 0), some (.int y1), none, none] 91 []) (fun y1 u hq => t_X11_offersAll_b91F u y1  E hE  (fun y1 u => GG X 0 0 NT u [some (rf X 11 0), some (.int y1), none, none] 91 []) (fun y1 u q => q) hq)
set_option maxRecDepth 20000 in
theorem t_X11_offersAll_b70F {X : Ctx} (h : Hp) (x1 : Int32)  (E : EE X cX11_offersAll RX11 4 2 46 0 0) {Q : Hp → Prop} (hE : ENDv X cX11_offersAll Q NT 0 0)  (P70 : Int32 → Hp → Prop) (hP70 : ∀ (y1 : Int32) (u : Hp), P70 y1 u → GG X 0 0 NT u [some (rf X 11 0), some (.int y1), none, none] 70 []) (hw : wp_X11_offersAll_b70F    Q P70 x1 h) : GG X 0 0 NT h [some (rf X 11 0), some (.int x1), none, none] 70 [] := by
  unfold wp_X11_offersAll_b70F at hw
  refine r_iload_n E x1 rfl dX11_offersAll_70 ?_
  refine r_bipush E 16 rfl dX11_offersAll_71 ?_
  refine r_icmp_ge E 89 (by decide) dX11_offersAll_73 (fun c1 => ?_) (fun c1 => ?_)
  · have hw := ite_t hw c1
    refine r_iconst E 0 rfl dX11_offersAll_89 ?_
    refine r_istore_n E [some (rf X 11 0), some (.int 0), none, none] rfl (Nat.le_of_ble_eq_true rfl) rfl dX11_offersAll_90 ?_
    exact GG_weak [true, true, false, false] rfl (t_X11_offersAll_b91 h 0 E hE  hw)
  · have hw := ite_f hw c1
    refine r_aload_n E 11 0 rfl dX11_offersAll_76 ?_
    refine r_bipush E 98 rfl dX11_offersAll_77 ?_
    refine r_iload_n E x1 rfl dX11_offersAll_79 ?_
    refine r_callVV E (m_X11_offers (EE_st E) (GX X) 98 x1 h _ hw) lk_X11_348 (RM_mk (Nat.le_of_ble_eq_true rfl) (Nat.le_of_ble_eq_true rfl)) rfl rfl rfl rfl (Nat.le_of_ble_eq_true rfl) (adr_lt (Nat.le_of_ble_eq_true rfl)) (Nat.le_of_ble_eq_true rfl) rfl rfl (Nat.le_of_ble_eq_true rfl) (Nat.le_of_ble_eq_true rfl) dX11_offersAll_80 (fun h2 hw => ?_)
    obtain ⟨v3, hv3⟩ : ∃ y : Int32, y = x1 + 1 := ⟨_, rfl⟩
    have hw := hw v3 hv3
    refine r_iinc E x1 v3 [some (rf X 11 0), some (.int v3), none, none] rfl (by rw [hv3]; rfl) (Nat.le_of_ble_eq_true rfl) rfl dX11_offersAll_83 ?_
    refine r_goto E 70 (by decide) dX11_offersAll_86 ?_
    exact GG_weak [true, true, false, false] rfl (hP70 _ _ hw)
set_option maxRecDepth 20000 in
theorem t_X11_offersAll_b70 {X : Ctx} (h : Hp) (x1 : Int32)  (E : EE X cX11_offersAll RX11 4 2 46 0 0) {Q : Hp → Prop} (hE : ENDv X cX11_offersAll Q NT 0 0)  (hw : wp_X11_offersAll_b70 x1 h  Q) : GG X 0 0 NT h [some (rf X 11 0), some (.int x1), none, none] 70 [] :=
  hw (fun y1 u => GG X 0 0 NT u [some (rf X 11 0), some (.int y1), none, none] 70 []) (fun y1 u hq => t_X11_offersAll_b70F u y1  E hE  (fun y1 u => GG X 0 0 NT u [some (rf X 11 0), some (.int y1), none, none] 70 []) (fun y1 u q => q) hq)
set_option maxRecDepth 20000 in
theorem t_X11_offersAll_b49F {X : Ctx} (h : Hp) (x1 : Int32)  (E : EE X cX11_offersAll RX11 4 2 46 0 0) {Q : Hp → Prop} (hE : ENDv X cX11_offersAll Q NT 0 0)  (P49 : Int32 → Hp → Prop) (hP49 : ∀ (y1 : Int32) (u : Hp), P49 y1 u → GG X 0 0 NT u [some (rf X 11 0), some (.int y1), none, none] 49 []) (hw : wp_X11_offersAll_b49F    Q P49 x1 h) : GG X 0 0 NT h [some (rf X 11 0), some (.int x1), none, none] 49 [] := by
  unfold wp_X11_offersAll_b49F at hw
  refine r_iload_n E x1 rfl dX11_offersAll_49 ?_
  refine r_bipush E 16 rfl dX11_offersAll_50 ?_
  refine r_icmp_ge E 68 (by decide) dX11_offersAll_52 (fun c1 => ?_) (fun c1 => ?_)
  · have hw := ite_t hw c1
    refine r_iconst E 0 rfl dX11_offersAll_68 ?_
    refine r_istore_n E [some (rf X 11 0), some (.int 0), none, none] rfl (Nat.le_of_ble_eq_true rfl) rfl dX11_offersAll_69 ?_
    exact GG_weak [true, true, false, false] rfl (t_X11_offersAll_b70 h 0 E hE  hw)
  · have hw := ite_f hw c1
    refine r_aload_n E 11 0 rfl dX11_offersAll_55 ?_
    refine r_bipush E 115 rfl dX11_offersAll_56 ?_
    refine r_iload_n E x1 rfl dX11_offersAll_58 ?_
    refine r_callVV E (m_X11_offers (EE_st E) (GX X) 115 x1 h _ hw) lk_X11_348 (RM_mk (Nat.le_of_ble_eq_true rfl) (Nat.le_of_ble_eq_true rfl)) rfl rfl rfl rfl (Nat.le_of_ble_eq_true rfl) (adr_lt (Nat.le_of_ble_eq_true rfl)) (Nat.le_of_ble_eq_true rfl) rfl rfl (Nat.le_of_ble_eq_true rfl) (Nat.le_of_ble_eq_true rfl) dX11_offersAll_59 (fun h2 hw => ?_)
    obtain ⟨v3, hv3⟩ : ∃ y : Int32, y = x1 + 1 := ⟨_, rfl⟩
    have hw := hw v3 hv3
    refine r_iinc E x1 v3 [some (rf X 11 0), some (.int v3), none, none] rfl (by rw [hv3]; rfl) (Nat.le_of_ble_eq_true rfl) rfl dX11_offersAll_62 ?_
    refine r_goto E 49 (by decide) dX11_offersAll_65 ?_
    exact GG_weak [true, true, false, false] rfl (hP49 _ _ hw)
set_option maxRecDepth 20000 in
theorem t_X11_offersAll_b49 {X : Ctx} (h : Hp) (x1 : Int32)  (E : EE X cX11_offersAll RX11 4 2 46 0 0) {Q : Hp → Prop} (hE : ENDv X cX11_offersAll Q NT 0 0)  (hw : wp_X11_offersAll_b49 x1 h  Q) : GG X 0 0 NT h [some (rf X 11 0), some (.int x1), none, none] 49 [] :=
  hw (fun y1 u => GG X 0 0 NT u [some (rf X 11 0), some (.int y1), none, none] 49 []) (fun y1 u hq => t_X11_offersAll_b49F u y1  E hE  (fun y1 u => GG X 0 0 NT u [some (rf X 11 0), some (.int y1), none, none] 49 []) (fun y1 u q => q) hq)
set_option maxRecDepth 20000 in
theorem t_X11_offersAll_b28F {X : Ctx} (h : Hp) (x1 : Int32)  (E : EE X cX11_offersAll RX11 4 2 46 0 0) {Q : Hp → Prop} (hE : ENDv X cX11_offersAll Q NT 0 0)  (P28 : Int32 → Hp → Prop) (hP28 : ∀ (y1 : Int32) (u : Hp), P28 y1 u → GG X 0 0 NT u [some (rf X 11 0), some (.int y1), none, none] 28 []) (hw : wp_X11_offersAll_b28F    Q P28 x1 h) : GG X 0 0 NT h [some (rf X 11 0), some (.int x1), none, none] 28 [] := by
  unfold wp_X11_offersAll_b28F at hw
  refine r_iload_n E x1 rfl dX11_offersAll_28 ?_
  refine r_bipush E 10 rfl dX11_offersAll_29 ?_
  refine r_icmp_ge E 47 (by decide) dX11_offersAll_31 (fun c1 => ?_) (fun c1 => ?_)
  · have hw := ite_t hw c1
    refine r_iconst E 0 rfl dX11_offersAll_47 ?_
    refine r_istore_n E [some (rf X 11 0), some (.int 0), none, none] rfl (Nat.le_of_ble_eq_true rfl) rfl dX11_offersAll_48 ?_
    exact GG_weak [true, true, false, false] rfl (t_X11_offersAll_b49 h 0 E hE  hw)
  · have hw := ite_f hw c1
    refine r_aload_n E 11 0 rfl dX11_offersAll_34 ?_
    refine r_bipush E 116 rfl dX11_offersAll_35 ?_
    refine r_iload_n E x1 rfl dX11_offersAll_37 ?_
    refine r_callVV E (m_X11_offers (EE_st E) (GX X) 116 x1 h _ hw) lk_X11_348 (RM_mk (Nat.le_of_ble_eq_true rfl) (Nat.le_of_ble_eq_true rfl)) rfl rfl rfl rfl (Nat.le_of_ble_eq_true rfl) (adr_lt (Nat.le_of_ble_eq_true rfl)) (Nat.le_of_ble_eq_true rfl) rfl rfl (Nat.le_of_ble_eq_true rfl) (Nat.le_of_ble_eq_true rfl) dX11_offersAll_38 (fun h2 hw => ?_)
    obtain ⟨v3, hv3⟩ : ∃ y : Int32, y = x1 + 1 := ⟨_, rfl⟩
    have hw := hw v3 hv3
    refine r_iinc E x1 v3 [some (rf X 11 0), some (.int v3), none, none] rfl (by rw [hv3]; rfl) (Nat.le_of_ble_eq_true rfl) rfl dX11_offersAll_41 ?_
    refine r_goto E 28 (by decide) dX11_offersAll_44 ?_
    exact GG_weak [true, true, false, false] rfl (hP28 _ _ hw)
set_option maxRecDepth 20000 in
theorem t_X11_offersAll_b28 {X : Ctx} (h : Hp) (x1 : Int32)  (E : EE X cX11_offersAll RX11 4 2 46 0 0) {Q : Hp → Prop} (hE : ENDv X cX11_offersAll Q NT 0 0)  (hw : wp_X11_offersAll_b28 x1 h  Q) : GG X 0 0 NT h [some (rf X 11 0), some (.int x1), none, none] 28 [] :=
  hw (fun y1 u => GG X 0 0 NT u [some (rf X 11 0), some (.int y1), none, none] 28 []) (fun y1 u hq => t_X11_offersAll_b28F u y1  E hE  (fun y1 u => GG X 0 0 NT u [some (rf X 11 0), some (.int y1), none, none] 28 []) (fun y1 u q => q) hq)
set_option maxRecDepth 20000 in
theorem t_X11_offersAll_b7F {X : Ctx} (h : Hp) (x1 : Int32)  (E : EE X cX11_offersAll RX11 4 2 46 0 0) {Q : Hp → Prop} (hE : ENDv X cX11_offersAll Q NT 0 0)  (P7 : Int32 → Hp → Prop) (hP7 : ∀ (y1 : Int32) (u : Hp), P7 y1 u → GG X 0 0 NT u [some (rf X 11 0), some (.int y1), none, none] 7 []) (hw : wp_X11_offersAll_b7F    Q P7 x1 h) : GG X 0 0 NT h [some (rf X 11 0), some (.int x1), none, none] 7 [] := by
  unfold wp_X11_offersAll_b7F at hw
  refine r_iload_n E x1 rfl dX11_offersAll_7 ?_
  refine r_bipush E 10 rfl dX11_offersAll_8 ?_
  refine r_icmp_ge E 26 (by decide) dX11_offersAll_10 (fun c1 => ?_) (fun c1 => ?_)
  · have hw := ite_t hw c1
    refine r_iconst E 0 rfl dX11_offersAll_26 ?_
    refine r_istore_n E [some (rf X 11 0), some (.int 0), none, none] rfl (Nat.le_of_ble_eq_true rfl) rfl dX11_offersAll_27 ?_
    exact GG_weak [true, true, false, false] rfl (t_X11_offersAll_b28 h 0 E hE  hw)
  · have hw := ite_f hw c1
    refine r_aload_n E 11 0 rfl dX11_offersAll_13 ?_
    refine r_bipush E 102 rfl dX11_offersAll_14 ?_
    refine r_iload_n E x1 rfl dX11_offersAll_16 ?_
    refine r_callVV E (m_X11_offers (EE_st E) (GX X) 102 x1 h _ hw) lk_X11_348 (RM_mk (Nat.le_of_ble_eq_true rfl) (Nat.le_of_ble_eq_true rfl)) rfl rfl rfl rfl (Nat.le_of_ble_eq_true rfl) (adr_lt (Nat.le_of_ble_eq_true rfl)) (Nat.le_of_ble_eq_true rfl) rfl rfl (Nat.le_of_ble_eq_true rfl) (Nat.le_of_ble_eq_true rfl) dX11_offersAll_17 (fun h2 hw => ?_)
    obtain ⟨v3, hv3⟩ : ∃ y : Int32, y = x1 + 1 := ⟨_, rfl⟩
    have hw := hw v3 hv3
    refine r_iinc E x1 v3 [some (rf X 11 0), some (.int v3), none, none] rfl (by rw [hv3]; rfl) (Nat.le_of_ble_eq_true rfl) rfl dX11_offersAll_20 ?_
    refine r_goto E 7 (by decide) dX11_offersAll_23 ?_
    exact GG_weak [true, true, false, false] rfl (hP7 _ _ hw)
set_option maxRecDepth 20000 in
theorem t_X11_offersAll_b7 {X : Ctx} (h : Hp) (x1 : Int32)  (E : EE X cX11_offersAll RX11 4 2 46 0 0) {Q : Hp → Prop} (hE : ENDv X cX11_offersAll Q NT 0 0)  (hw : wp_X11_offersAll_b7 x1 h  Q) : GG X 0 0 NT h [some (rf X 11 0), some (.int x1), none, none] 7 [] :=
  hw (fun y1 u => GG X 0 0 NT u [some (rf X 11 0), some (.int y1), none, none] 7 []) (fun y1 u hq => t_X11_offersAll_b7F u y1  E hE  (fun y1 u => GG X 0 0 NT u [some (rf X 11 0), some (.int y1), none, none] 7 []) (fun y1 u q => q) hq)
set_option maxRecDepth 20000 in
theorem m_X11_offersAll {l : Launch} (hl : l.stackTraces = false) (G : Gq)   (h : Hp) (Q : Hp → Prop) (hw : wp_X11_offersAll  h Q) : MV l G yX11_offersAll cX11_offersAll 4 none rm_X11_offersAll NT NT h (fun r => [r 11 0]) Q := by
  refine MV_of (L0 := (fun X => [some (rf X 11 0), none, none, none])) hl (by decide +kernel) rfl (fun _ => Nat.le_of_ble_eq_true rfl) (fun _ => rfl) fun X hXl hXG E hE => ?_
  subst hXl; subst hXG
  unfold wp_X11_offersAll at hw
  refine r_aload_n E 11 0 rfl dX11_offersAll_0 ?_
  refine r_iconst E 0 rfl dX11_offersAll_1 ?_
  refine r_putI E fd_X11_345 rfl PI_int (Nat.le_of_ble_eq_true rfl) (adr_lt (Nat.le_of_ble_eq_true rfl)) rfl dX11_offersAll_2 ?_
  refine GG_toph fun h1 hh1 => ?_
  have hw := hw h1 hh1
  refine r_iconst E 0 rfl dX11_offersAll_5 ?_
  refine r_istore_n E [some (rf X 11 0), some (.int 0), none, none] rfl (Nat.le_of_ble_eq_true rfl) rfl dX11_offersAll_6 ?_
  exact GG_weak [true, true, false, false] rfl (t_X11_offersAll_b7 h1 0 E hE  hw)
set_option maxRecDepth 20000 in
theorem t_X11_candidateHolds_b32 {X : Ctx} (h : Hp) (s0 : Int32) (s1 : Int32)  (E : EE X cX11_candidateHolds RX11 3 3 69 0 0) {Q : Int32 → Prop} (hE : ENDi X cX11_candidateHolds .boolean (fun r u => h = u ∧ isB r ∧ Q r) NT 0 0)  (hw : wp_X11_candidateHolds_b32 s0 s1 h  Q) : GG X 0 0 NT h [none, none, none] 32 [.int s1, .int s0] := by
  unfold wp_X11_candidateHolds_b32 at hw
  refine r_icmp_ne E 39 (by decide) dX11_candidateHolds_32 (fun c1 => ?_) (fun c1 => ?_)
  · have hw := ite_t hw c1
    refine r_iconst E 1 rfl dX11_candidateHolds_35 ?_
    refine r_goto E 40 (by decide) dX11_candidateHolds_36 ?_
    exact hE _ _ _ _ _ _ (Nat.le_of_ble_eq_true rfl) (Nat.le_of_ble_eq_true rfl) dX11_candidateHolds_40 (isB_nar isB_1) ⟨rfl, isB_1, hw⟩
  · have hw := ite_f hw c1
    refine r_iconst E 0 rfl dX11_candidateHolds_39 ?_
    exact hE _ _ _ _ _ _ (Nat.le_of_ble_eq_true rfl) (Nat.le_of_ble_eq_true rfl) dX11_candidateHolds_40 (isB_nar isB_0) ⟨rfl, isB_0, hw⟩
set_option maxRecDepth 20000 in
theorem m_X11_candidateHolds {l : Launch} (hl : l.stackTraces = false) (G : Gq) (p0 : Int32) (p1 : Int32)  (h : Hp) (Q : Int32 → Prop) (hw : wp_X11_candidateHolds p0 p1 h Q) : MI l G yX11_candidateHolds cX11_candidateHolds 3 (some .boolean) rm_X11_candidateHolds NT NT h (fun r => [r 11 0, .int p0, .int p1]) (fun r u => h = u ∧ isB r ∧ Q r) := by
  refine MI_of (L0 := (fun X => [some (rf X 11 0), some (.int p0), some (.int p1)])) hl (by decide +kernel) rfl (fun _ => Nat.le_of_ble_eq_true rfl) (fun _ => rfl) fun X hXl hXG E hE => ?_
  subst hXl; subst hXG
  unfold wp_X11_candidateHolds at hw
  refine r_aload_n E 11 0 rfl dX11_candidateHolds_0 ?_
  refine r_aload_n E 11 0 rfl dX11_candidateHolds_1 ?_
  refine r_getS E fd_X11_132 (t := 0) (j1 := 73) rfl rfl rfl rfl (Nat.le_of_ble_eq_true rfl) (adr_lt (Nat.le_of_ble_eq_true rfl)) dX11_candidateHolds_2 ?_
  refine r_iload_n E p0 rfl dX11_candidateHolds_5 ?_
  refine r_iconst E 2 rfl dX11_candidateHolds_6 ?_
  refine r_idiv E (by decide) dX11_candidateHolds_7 ?_
  obtain ⟨i1, hw⟩ := hw
  refine r_cald E rfl rfl rfl (Nat.le_of_ble_eq_true rfl) (adr_lt (Nat.le_of_ble_eq_true rfl)) i1 dX11_candidateHolds_8 ?_
  refine r_aload_n E 11 0 rfl dX11_candidateHolds_9 ?_
  refine r_getS E fd_X11_135 (t := 0) (j1 := 74) rfl rfl rfl rfl (Nat.le_of_ble_eq_true rfl) (adr_lt (Nat.le_of_ble_eq_true rfl)) dX11_candidateHolds_10 ?_
  refine r_iload_n E p0 rfl dX11_candidateHolds_13 ?_
  refine r_iconst E 2 rfl dX11_candidateHolds_14 ?_
  refine r_idiv E (by decide) dX11_candidateHolds_15 ?_
  refine r_iald E rfl rfl rfl (Nat.le_of_ble_eq_true rfl) (adr_lt (Nat.le_of_ble_eq_true rfl)) i1 dX11_candidateHolds_16 ?_
  refine r_iload_n E p1 rfl dX11_candidateHolds_17 ?_
  refine r_callVI E (m_X11_ofMail (EE_st E) (GX X) (gI h 73 0 (p0 / 2).toNatClampNeg) (gI h 74 0 (p0 / 2).toNatClampNeg) p1 h _ hw) lk_X11_190 (RM_mk (Nat.le_of_ble_eq_true rfl) (Nat.le_of_ble_eq_true rfl)) rfl rfl rfl rfl (Nat.le_of_ble_eq_true rfl) (adr_lt (Nat.le_of_ble_eq_true rfl)) (Nat.le_of_ble_eq_true rfl) rfl rfl (Nat.le_of_ble_eq_true rfl) (Nat.le_of_ble_eq_true rfl) dX11_candidateHolds_18 (fun r2 u9 hw => ?_)
  obtain ⟨rfl, zr2, hw⟩ := hw
  refine r_iload_n E p0 rfl dX11_candidateHolds_21 ?_
  refine r_iconst E 2 rfl dX11_candidateHolds_22 ?_
  refine r_irem E (by decide) dX11_candidateHolds_23 ?_
  refine r_if_ne E 31 (by decide) dX11_candidateHolds_24 (fun c3 => ?_) (fun c3 => ?_)
  · have hw := ite_t hw c3
    refine r_iconst E 1 rfl dX11_candidateHolds_27 ?_
    refine r_goto E 32 (by decide) dX11_candidateHolds_28 ?_
    exact GG_weak [false, false, false] rfl (t_X11_candidateHolds_b32 h r2 1 E hE  hw)
  · have hw := ite_f hw c3
    refine r_iconst E 0 rfl dX11_candidateHolds_31 ?_
    exact GG_weak [false, false, false] rfl (t_X11_candidateHolds_b32 h r2 0 E hE  hw)
set_option maxRecDepth 20000 in
theorem t_X11_fits_b102 {X : Ctx} (h : Hp) (x1 : Int32) (x2 : Int32) (x3 : Int32) (x4 : Int32)  (E : EE X cX11_fits RX11 7 4 91 0 0) {Q : Int32 → Prop} (hE : ENDi X cX11_fits .boolean (fun r u => h = u ∧ isB r ∧ Q r) NT 0 0) (P3 : Int32 → Prop) (hP3 : ∀ (y4 : Int32), P3 y4 → GG X 0 0 NT h [some (rf X 11 0), some (.int x1), some (.int x2), some (.int x3), some (.int y4), none, none] 3 []) (hw : wp_X11_fits_b102 x1 x2 x3 x4 h P3 Q) : GG X 0 0 NT h [some (rf X 11 0), some (.int x1), some (.int x2), some (.int x3), some (.int x4), none, none] 102 [] := by
  unfold wp_X11_fits_b102 at hw
  obtain ⟨v1, hv1⟩ : ∃ y : Int32, y = x4 + 1 := ⟨_, rfl⟩
  have hw := hw v1 hv1
  refine r_iinc E x4 v1 [some (rf X 11 0), some (.int x1), some (.int x2), some (.int x3), some (.int v1), none, none] rfl (by rw [hv1]; rfl) (Nat.le_of_ble_eq_true rfl) rfl dX11_fits_102 ?_
  refine r_goto E 3 (by decide) dX11_fits_105 ?_
  exact GG_weak [true, true, true, true, true, false, false] rfl (hP3 _ hw)
set_option maxRecDepth 20000 in
theorem t_X11_fits_b91 {X : Ctx} (h : Hp) (x1 : Int32) (x2 : Int32) (x3 : Int32) (x4 : Int32) (x5 : Int32) (s0 : Int32)  (E : EE X cX11_fits RX11 7 4 91 0 0) {Q : Int32 → Prop} (hE : ENDi X cX11_fits .boolean (fun r u => h = u ∧ isB r ∧ Q r) NT 0 0) (P3 : Int32 → Prop) (hP3 : ∀ (y4 : Int32), P3 y4 → GG X 0 0 NT h [some (rf X 11 0), some (.int x1), some (.int x2), some (.int x3), some (.int y4), none, none] 3 []) (hw : wp_X11_fits_b91 x1 x2 x3 x4 x5 s0 h P3 Q) : GG X 0 0 NT h [some (rf X 11 0), some (.int x1), some (.int x2), some (.int x3), some (.int x4), some (.int x5), none] 91 [.int s0] := by
  unfold wp_X11_fits_b91 at hw
  refine r_istore E [some (rf X 11 0), some (.int x1), some (.int x2), some (.int x3), some (.int x4), some (.int x5), some (.int s0)] (Nat.le_of_ble_eq_true rfl) rfl dX11_fits_91 ?_
  refine r_iload E s0 rfl dX11_fits_93 ?_
  refine r_iload E x5 rfl dX11_fits_95 ?_
  refine r_icmp_eq E 102 (by decide) dX11_fits_97 (fun c1 => ?_) (fun c1 => ?_)
  · have hw := ite_t hw c1
    exact GG_weak [true, true, true, true, true, false, false] rfl (t_X11_fits_b102 h x1 x2 x3 x4 E hE P3 hP3  hw)
  · have hw := ite_f hw c1
    refine r_iconst E 0 rfl dX11_fits_100 ?_
    exact hE _ _ _ _ _ _ (Nat.le_of_ble_eq_true rfl) (Nat.le_of_ble_eq_true rfl) dX11_fits_101 (isB_nar isB_0) ⟨rfl, isB_0, hw⟩
set_option maxRecDepth 20000 in
theorem t_X11_fits_b90 {X : Ctx} (h : Hp) (x1 : Int32) (x2 : Int32) (x3 : Int32) (x4 : Int32) (x5 : Int32)  (E : EE X cX11_fits RX11 7 4 91 0 0) {Q : Int32 → Prop} (hE : ENDi X cX11_fits .boolean (fun r u => h = u ∧ isB r ∧ Q r) NT 0 0) (P3 : Int32 → Prop) (hP3 : ∀ (y4 : Int32), P3 y4 → GG X 0 0 NT h [some (rf X 11 0), some (.int x1), some (.int x2), some (.int x3), some (.int y4), none, none] 3 []) (hw : wp_X11_fits_b90 x1 x2 x3 x4 x5 h P3 Q) : GG X 0 0 NT h [some (rf X 11 0), some (.int x1), some (.int x2), some (.int x3), some (.int x4), some (.int x5), none] 90 [] := by
  unfold wp_X11_fits_b90 at hw
  refine r_iconst E 0 rfl dX11_fits_90 ?_
  exact GG_weak [true, true, true, true, true, true, false] rfl (t_X11_fits_b91 h x1 x2 x3 x4 x5 0 E hE P3 hP3  hw)
set_option maxRecDepth 20000 in
theorem t_X11_fits_b86 {X : Ctx} (h : Hp) (x1 : Int32) (x2 : Int32) (x3 : Int32) (x4 : Int32) (x5 : Int32)  (E : EE X cX11_fits RX11 7 4 91 0 0) {Q : Int32 → Prop} (hE : ENDi X cX11_fits .boolean (fun r u => h = u ∧ isB r ∧ Q r) NT 0 0) (P3 : Int32 → Prop) (hP3 : ∀ (y4 : Int32), P3 y4 → GG X 0 0 NT h [some (rf X 11 0), some (.int x1), some (.int x2), some (.int x3), some (.int y4), none, none] 3 []) (hw : wp_X11_fits_b86 x1 x2 x3 x4 x5 h P3 Q) : GG X 0 0 NT h [some (rf X 11 0), some (.int x1), some (.int x2), some (.int x3), some (.int x4), some (.int x5), none] 86 [] := by
  unfold wp_X11_fits_b86 at hw
  refine r_iconst E 1 rfl dX11_fits_86 ?_
  refine r_goto E 91 (by decide) dX11_fits_87 ?_
  exact GG_weak [true, true, true, true, true, true, false] rfl (t_X11_fits_b91 h x1 x2 x3 x4 x5 1 E hE P3 hP3  hw)
set_option maxRecDepth 20000 in
theorem t_X11_fits_b59 {X : Ctx} (h : Hp) (x1 : Int32) (x2 : Int32) (x3 : Int32) (x4 : Int32) (s0 : Int32)  (E : EE X cX11_fits RX11 7 4 91 0 0) {Q : Int32 → Prop} (hE : ENDi X cX11_fits .boolean (fun r u => h = u ∧ isB r ∧ Q r) NT 0 0) (P3 : Int32 → Prop) (hP3 : ∀ (y4 : Int32), P3 y4 → GG X 0 0 NT h [some (rf X 11 0), some (.int x1), some (.int x2), some (.int x3), some (.int y4), none, none] 3 []) (hw : wp_X11_fits_b59 x1 x2 x3 x4 s0 h P3 Q) : GG X 0 0 NT h [some (rf X 11 0), some (.int x1), some (.int x2), some (.int x3), some (.int x4), none, none] 59 [.int s0] := by
  unfold wp_X11_fits_b59 at hw
  refine r_istore E [some (rf X 11 0), some (.int x1), some (.int x2), some (.int x3), some (.int x4), some (.int s0), none] (Nat.le_of_ble_eq_true rfl) rfl dX11_fits_59 ?_
  refine r_aload_n E 11 0 rfl dX11_fits_61 ?_
  refine r_iload_n E x1 rfl dX11_fits_62 ?_
  refine r_iload E x4 rfl dX11_fits_63 ?_
  refine r_callVI E (m_X11_candidateHolds (EE_st E) (GX X) x1 x4 h _ hw) lk_X11_352 (RM_mk (Nat.le_of_ble_eq_true rfl) (Nat.le_of_ble_eq_true rfl)) rfl rfl rfl rfl (Nat.le_of_ble_eq_true rfl) (adr_lt (Nat.le_of_ble_eq_true rfl)) (Nat.le_of_ble_eq_true rfl) rfl rfl (Nat.le_of_ble_eq_true rfl) (Nat.le_of_ble_eq_true rfl) dX11_fits_65 (fun r1 u9 hw => ?_)
  obtain ⟨rfl, zr1, hw⟩ := hw
  refine r_if_eq E 90 (by decide) dX11_fits_68 (fun c2 => ?_) (fun c2 => ?_)
  · have hw := ite_t hw c2
    exact GG_weak [true, true, true, true, true, true, false] rfl (t_X11_fits_b90 h x1 x2 x3 x4 s0 E hE P3 hP3  hw)
  · have hw := ite_f hw c2
    refine r_iload_n E x2 rfl dX11_fits_71 ?_
    refine r_iconst E (-1) rfl dX11_fits_72 ?_
    refine r_icmp_eq E 86 (by decide) dX11_fits_73 (fun c3 => ?_) (fun c3 => ?_)
    · have hw := ite_t hw c3
      exact GG_weak [true, true, true, true, true, true, false] rfl (t_X11_fits_b86 h x1 x2 x3 x4 s0 E hE P3 hP3  hw)
    · have hw := ite_f hw c3
      refine r_aload_n E 11 0 rfl dX11_fits_76 ?_
      refine r_iload_n E x2 rfl dX11_fits_77 ?_
      refine r_iload E x4 rfl dX11_fits_78 ?_
      refine r_callVI E (m_X11_candidateHolds (EE_st E) (GX X) x2 x4 h _ hw) lk_X11_352 (RM_mk (Nat.le_of_ble_eq_true rfl) (Nat.le_of_ble_eq_true rfl)) rfl rfl rfl rfl (Nat.le_of_ble_eq_true rfl) (adr_lt (Nat.le_of_ble_eq_true rfl)) (Nat.le_of_ble_eq_true rfl) rfl rfl (Nat.le_of_ble_eq_true rfl) (Nat.le_of_ble_eq_true rfl) dX11_fits_80 (fun r4 u9 hw => ?_)
      obtain ⟨rfl, zr4, hw⟩ := hw
      refine r_if_eq E 90 (by decide) dX11_fits_83 (fun c5 => ?_) (fun c5 => ?_)
      · have hw := ite_t hw c5
        exact GG_weak [true, true, true, true, true, true, false] rfl (t_X11_fits_b90 h x1 x2 x3 x4 s0 E hE P3 hP3  hw)
      · have hw := ite_f hw c5
        exact GG_weak [true, true, true, true, true, true, false] rfl (t_X11_fits_b86 h x1 x2 x3 x4 s0 E hE P3 hP3  hw)
set_option maxRecDepth 20000 in
theorem t_X11_fits_b58 {X : Ctx} (h : Hp) (x1 : Int32) (x2 : Int32) (x3 : Int32) (x4 : Int32)  (E : EE X cX11_fits RX11 7 4 91 0 0) {Q : Int32 → Prop} (hE : ENDi X cX11_fits .boolean (fun r u => h = u ∧ isB r ∧ Q r) NT 0 0) (P3 : Int32 → Prop) (hP3 : ∀ (y4 : Int32), P3 y4 → GG X 0 0 NT h [some (rf X 11 0), some (.int x1), some (.int x2), some (.int x3), some (.int y4), none, none] 3 []) (hw : wp_X11_fits_b58 x1 x2 x3 x4 h P3 Q) : GG X 0 0 NT h [some (rf X 11 0), some (.int x1), some (.int x2), some (.int x3), some (.int x4), none, none] 58 [] := by
  unfold wp_X11_fits_b58 at hw
  refine r_iconst E 0 rfl dX11_fits_58 ?_
  exact GG_weak [true, true, true, true, true, false, false] rfl (t_X11_fits_b59 h x1 x2 x3 x4 0 E hE P3 hP3  hw)
set_option maxRecDepth 20000 in
theorem t_X11_fits_b3F {X : Ctx} (h : Hp) (x1 : Int32) (x2 : Int32) (x3 : Int32) (x4 : Int32)  (E : EE X cX11_fits RX11 7 4 91 0 0) {Q : Int32 → Prop} (hE : ENDi X cX11_fits .boolean (fun r u => h = u ∧ isB r ∧ Q r) NT 0 0)  (P3 : Int32 → Prop) (hP3 : ∀ (y4 : Int32), P3 y4 → GG X 0 0 NT h [some (rf X 11 0), some (.int x1), some (.int x2), some (.int x3), some (.int y4), none, none] 3 []) (hw : wp_X11_fits_b3F x1 x2 x3 h  Q P3 x4 ) : GG X 0 0 NT h [some (rf X 11 0), some (.int x1), some (.int x2), some (.int x3), some (.int x4), none, none] 3 [] := by
  unfold wp_X11_fits_b3F at hw
  refine r_iload E x4 rfl dX11_fits_3 ?_
  refine r_aload_n E 11 0 rfl dX11_fits_5 ?_
  refine r_getI E fd_X11_151 rfl (Nat.le_of_ble_eq_true rfl) (adr_lt (Nat.le_of_ble_eq_true rfl)) dX11_fits_6 ?_
  refine r_icmp_ge E 108 (by decide) dX11_fits_9 (fun c1 => ?_) (fun c1 => ?_)
  · have hw := ite_t hw c1
    refine r_iconst E 1 rfl dX11_fits_108 ?_
    exact hE _ _ _ _ _ _ (Nat.le_of_ble_eq_true rfl) (Nat.le_of_ble_eq_true rfl) dX11_fits_109 (isB_nar isB_1) ⟨rfl, isB_1, hw⟩
  · have hw := ite_f hw c1
    refine r_aload_n E 11 0 rfl dX11_fits_12 ?_
    refine r_getS E fd_X11_28 (t := 0) (j1 := 39) rfl rfl rfl rfl (Nat.le_of_ble_eq_true rfl) (adr_lt (Nat.le_of_ble_eq_true rfl)) dX11_fits_13 ?_
    refine r_iload E x4 rfl dX11_fits_16 ?_
    obtain ⟨i2, hw⟩ := hw
    refine r_zald E rfl rfl rfl (Nat.le_of_ble_eq_true rfl) (adr_lt (Nat.le_of_ble_eq_true rfl)) i2 dX11_fits_18 ?_
    refine r_if_eq E 102 (by decide) dX11_fits_19 (fun c3 => ?_) (fun c3 => ?_)
    · have hw := ite_t hw c3
      exact GG_weak [true, true, true, true, true, false, false] rfl (t_X11_fits_b102 h x1 x2 x3 x4 E hE P3 hP3  hw)
    · have hw := ite_f hw c3
      refine r_aload_n E 11 0 rfl dX11_fits_22 ?_
      refine r_getS E fd_X11_32 (t := 0) (j1 := 40) rfl rfl rfl rfl (Nat.le_of_ble_eq_true rfl) (adr_lt (Nat.le_of_ble_eq_true rfl)) dX11_fits_23 ?_
      refine r_iload E x4 rfl dX11_fits_26 ?_
      refine r_zald E rfl rfl rfl (Nat.le_of_ble_eq_true rfl) (adr_lt (Nat.le_of_ble_eq_true rfl)) i2 dX11_fits_28 ?_
      refine r_if_ne E 102 (by decide) dX11_fits_29 (fun c4 => ?_) (fun c4 => ?_)
      · have hw := ite_t hw c4
        refine r_aload_n E 11 0 rfl dX11_fits_32 ?_
        refine r_getS E fd_X11_35 (t := 0) (j1 := 41) rfl rfl rfl rfl (Nat.le_of_ble_eq_true rfl) (adr_lt (Nat.le_of_ble_eq_true rfl)) dX11_fits_33 ?_
        refine r_iload E x4 rfl dX11_fits_36 ?_
        refine r_iald E rfl rfl rfl (Nat.le_of_ble_eq_true rfl) (adr_lt (Nat.le_of_ble_eq_true rfl)) i2 dX11_fits_38 ?_
        refine r_iload_n E x3 rfl dX11_fits_39 ?_
        refine r_icmp_ne E 58 (by decide) dX11_fits_40 (fun c5 => ?_) (fun c5 => ?_)
        · have hw := ite_t hw c5
          refine r_aload_n E 11 0 rfl dX11_fits_43 ?_
          refine r_getS E fd_X11_41 (t := 0) (j1 := 43) rfl rfl rfl rfl (Nat.le_of_ble_eq_true rfl) (adr_lt (Nat.le_of_ble_eq_true rfl)) dX11_fits_44 ?_
          refine r_iload E x4 rfl dX11_fits_47 ?_
          refine r_iald E rfl rfl rfl (Nat.le_of_ble_eq_true rfl) (adr_lt (Nat.le_of_ble_eq_true rfl)) i2 dX11_fits_49 ?_
          refine r_iload_n E x3 rfl dX11_fits_50 ?_
          refine r_icmp_ne E 58 (by decide) dX11_fits_51 (fun c6 => ?_) (fun c6 => ?_)
          · have hw := ite_t hw c6
            refine r_iconst E 1 rfl dX11_fits_54 ?_
            refine r_goto E 59 (by decide) dX11_fits_55 ?_
            exact GG_weak [true, true, true, true, true, false, false] rfl (t_X11_fits_b59 h x1 x2 x3 x4 1 E hE P3 hP3  hw)
          · have hw := ite_f hw c6
            exact GG_weak [true, true, true, true, true, false, false] rfl (t_X11_fits_b58 h x1 x2 x3 x4 E hE P3 hP3  hw)
        · have hw := ite_f hw c5
          exact GG_weak [true, true, true, true, true, false, false] rfl (t_X11_fits_b58 h x1 x2 x3 x4 E hE P3 hP3  hw)
      · have hw := ite_f hw c4
        exact GG_weak [true, true, true, true, true, false, false] rfl (t_X11_fits_b102 h x1 x2 x3 x4 E hE P3 hP3  hw)
set_option maxRecDepth 20000 in
theorem t_X11_fits_b3 {X : Ctx} (h : Hp) (x1 : Int32) (x2 : Int32) (x3 : Int32) (x4 : Int32)  (E : EE X cX11_fits RX11 7 4 91 0 0) {Q : Int32 → Prop} (hE : ENDi X cX11_fits .boolean (fun r u => h = u ∧ isB r ∧ Q r) NT 0 0)  (hw : wp_X11_fits_b3 x1 x2 x3 x4 h  Q) : GG X 0 0 NT h [some (rf X 11 0), some (.int x1), some (.int x2), some (.int x3), some (.int x4), none, none] 3 [] :=
  hw (fun y4  => GG X 0 0 NT h [some (rf X 11 0), some (.int x1), some (.int x2), some (.int x3), some (.int y4), none, none] 3 []) (fun y4  hq => t_X11_fits_b3F h x1 x2 x3 y4  E hE  (fun y4  => GG X 0 0 NT h [some (rf X 11 0), some (.int x1), some (.int x2), some (.int x3), some (.int y4), none, none] 3 []) (fun y4  q => q) hq)
set_option maxRecDepth 20000 in
theorem m_X11_fits {l : Launch} (hl : l.stackTraces = false) (G : Gq) (p0 : Int32) (p1 : Int32) (p2 : Int32)  (h : Hp) (Q : Int32 → Prop) (hw : wp_X11_fits p0 p1 p2 h Q) : MI l G yX11_fits cX11_fits 7 (some .boolean) rm_X11_fits NT NT h (fun r => [r 11 0, .int p0, .int p1, .int p2]) (fun r u => h = u ∧ isB r ∧ Q r) := by
  refine MI_of (L0 := (fun X => [some (rf X 11 0), some (.int p0), some (.int p1), some (.int p2), none, none, none])) hl (by decide +kernel) rfl (fun _ => Nat.le_of_ble_eq_true rfl) (fun _ => rfl) fun X hXl hXG E hE => ?_
  subst hXl; subst hXG
  unfold wp_X11_fits at hw
  refine r_iconst E 0 rfl dX11_fits_0 ?_
  refine r_istore E [some (rf X 11 0), some (.int p0), some (.int p1), some (.int p2), some (.int 0), none, none] (Nat.le_of_ble_eq_true rfl) rfl dX11_fits_1 ?_
  exact GG_weak [true, true, true, true, true, false, false] rfl (t_X11_fits_b3 h p0 p1 p2 0 E hE  hw)
set_option maxRecDepth 20000 in
theorem m_X11_parts {l : Launch} (hl : l.stackTraces = false) (G : Gq) (p0 : Int32)  (h : Hp) (Q : Int32 → Prop) (hw : wp_X11_parts p0 h Q) : MI l G yX11_parts cX11_parts 2 (some .int) rm_X11_parts NT NT h (fun r => [r 11 0, .int p0]) (fun r u => h = u ∧ Q r) := by
  refine MI_of (L0 := (fun X => [some (rf X 11 0), some (.int p0)])) hl (by decide +kernel) rfl (fun _ => Nat.le_of_ble_eq_true rfl) (fun _ => rfl) fun X hXl hXG E hE => ?_
  subst hXl; subst hXG
  unfold wp_X11_parts at hw
  refine r_iload_n E p0 rfl dX11_parts_0 ?_
  refine r_iconst E (-1) rfl dX11_parts_1 ?_
  refine r_icmp_ne E 9 (by decide) dX11_parts_2 (fun c1 => ?_) (fun c1 => ?_)
  · have hw := ite_t hw c1
    refine r_iconst E 0 rfl dX11_parts_5 ?_
    refine r_goto E 14 (by decide) dX11_parts_6 ?_
    exact hE _ _ _ _ _ _ (Nat.le_of_ble_eq_true rfl) (Nat.le_of_ble_eq_true rfl) dX11_parts_14 rfl ⟨rfl, hw⟩
  · have hw := ite_f hw c1
    refine r_iconst E 1 rfl dX11_parts_9 ?_
    refine r_iload_n E p0 rfl dX11_parts_10 ?_
    refine r_iconst E 2 rfl dX11_parts_11 ?_
    refine r_irem E (by decide) dX11_parts_12 ?_
    refine r_iadd E dX11_parts_13 ?_
    exact hE _ _ _ _ _ _ (Nat.le_of_ble_eq_true rfl) (Nat.le_of_ble_eq_true rfl) dX11_parts_14 rfl ⟨rfl, hw⟩
set_option maxRecDepth 20000 in
theorem m_X11_makes {l : Launch} (hl : l.stackTraces = false) (G : Gq) (p0 : Int32)  (h : Hp) (Q : Int32 → Hp → Prop) (hw : wp_X11_makes p0 h Q) : MI l G yX11_makes cX11_makes 3 (some .int) rm_X11_makes NT NT h (fun r => [r 11 0, .int p0]) Q := by
  refine MI_of (L0 := (fun X => [some (rf X 11 0), some (.int p0), none])) hl (by decide +kernel) rfl (fun _ => Nat.le_of_ble_eq_true rfl) (fun _ => rfl) fun X hXl hXG E hE => ?_
  subst hXl; subst hXG
  unfold wp_X11_makes at hw
  refine r_aload_n E 11 0 rfl dX11_makes_0 ?_
  refine r_aload_n E 11 0 rfl dX11_makes_1 ?_
  refine r_getS E fd_X11_132 (t := 0) (j1 := 73) rfl rfl rfl rfl (Nat.le_of_ble_eq_true rfl) (adr_lt (Nat.le_of_ble_eq_true rfl)) dX11_makes_2 ?_
  refine r_iload_n E p0 rfl dX11_makes_5 ?_
  refine r_iconst E 2 rfl dX11_makes_6 ?_
  refine r_idiv E (by decide) dX11_makes_7 ?_
  obtain ⟨i1, hw⟩ := hw
  refine r_cald E rfl rfl rfl (Nat.le_of_ble_eq_true rfl) (adr_lt (Nat.le_of_ble_eq_true rfl)) i1 dX11_makes_8 ?_
  refine r_aload_n E 11 0 rfl dX11_makes_9 ?_
  refine r_getS E fd_X11_135 (t := 0) (j1 := 74) rfl rfl rfl rfl (Nat.le_of_ble_eq_true rfl) (adr_lt (Nat.le_of_ble_eq_true rfl)) dX11_makes_10 ?_
  refine r_iload_n E p0 rfl dX11_makes_13 ?_
  refine r_iconst E 2 rfl dX11_makes_14 ?_
  refine r_idiv E (by decide) dX11_makes_15 ?_
  refine r_iald E rfl rfl rfl (Nat.le_of_ble_eq_true rfl) (adr_lt (Nat.le_of_ble_eq_true rfl)) i1 dX11_makes_16 ?_
  refine r_iconst E 0 rfl dX11_makes_17 ?_
  refine r_callVI E (m_X11_addsTest (EE_st E) (GX X) (gI h 73 0 (p0 / 2).toNatClampNeg) (gI h 74 0 (p0 / 2).toNatClampNeg) 0 h _ hw) lk_X11_183 (RM_mk (Nat.le_of_ble_eq_true rfl) (Nat.le_of_ble_eq_true rfl)) rfl rfl rfl rfl (Nat.le_of_ble_eq_true rfl) (adr_lt (Nat.le_of_ble_eq_true rfl)) (Nat.le_of_ble_eq_true rfl) rfl rfl (Nat.le_of_ble_eq_true rfl) (Nat.le_of_ble_eq_true rfl) dX11_makes_18 (fun r2 h3 hw => ?_)
  refine r_istore_n E [some (rf X 11 0), some (.int p0), some (.int r2)] rfl (Nat.le_of_ble_eq_true rfl) rfl dX11_makes_21 ?_
  refine r_iload_n E p0 rfl dX11_makes_22 ?_
  refine r_iconst E 2 rfl dX11_makes_23 ?_
  refine r_irem E (by decide) dX11_makes_24 ?_
  refine r_if_ne E 32 (by decide) dX11_makes_25 (fun c4 => ?_) (fun c4 => ?_)
  · have hw := ite_t hw c4
    refine r_iload_n E r2 rfl dX11_makes_28 ?_
    refine r_goto E 40 (by decide) dX11_makes_29 ?_
    exact hE _ _ _ _ _ _ (Nat.le_of_ble_eq_true rfl) (Nat.le_of_ble_eq_true rfl) dX11_makes_40 rfl hw
  · have hw := ite_f hw c4
    refine r_aload_n E 11 0 rfl dX11_makes_32 ?_
    refine r_bipush E 33 rfl dX11_makes_33 ?_
    refine r_iload_n E r2 rfl dX11_makes_35 ?_
    refine r_iconst E 0 rfl dX11_makes_36 ?_
    refine r_callVI E (m_X11_addsTest (EE_st E) (GX X) 33 r2 0 h3 _ hw) lk_X11_183 (RM_mk (Nat.le_of_ble_eq_true rfl) (Nat.le_of_ble_eq_true rfl)) rfl rfl rfl rfl (Nat.le_of_ble_eq_true rfl) (adr_lt (Nat.le_of_ble_eq_true rfl)) (Nat.le_of_ble_eq_true rfl) rfl rfl (Nat.le_of_ble_eq_true rfl) (Nat.le_of_ble_eq_true rfl) dX11_makes_37 (fun r5 h6 hw => ?_)
    exact hE _ _ _ _ _ _ (Nat.le_of_ble_eq_true rfl) (Nat.le_of_ble_eq_true rfl) dX11_makes_40 rfl hw
set_option maxRecDepth 20000 in
theorem t_X11_learn_b239 {X : Ctx} (h : Hp) (x3 : Int32) (x4 : Int32) (s0 : Int32) (s1 : Int32)  (E : EE X cX11_learn RX11 7 5 117 0 0) {Q : Int32 → Hp → Prop} (hE : ENDi X cX11_learn .int Q NT 0 0)  (hw : wp_X11_learn_b239 x3 x4 s0 s1 h  Q) : GG X 0 0 NT h [some (rf X 11 0), none, none, some (.int x3), some (.int x4), none, none] 239 [.int s1, .int s0] := by
  unfold wp_X11_learn_b239 at hw
  refine r_iadd E dX11_learn_239 ?_
  refine r_bipush E 60 rfl dX11_learn_240 ?_
  refine r_icmp_le E 251 (by decide) dX11_learn_242 (fun c1 => ?_) (fun c1 => ?_)
  · have hw := ite_t hw c1
    refine r_aload_n E 11 0 rfl dX11_learn_251 ?_
    refine r_iload_n E x3 rfl dX11_learn_252 ?_
    refine r_callVI E (m_X11_makes (EE_st E) (GX X) x3 h _ hw) lk_X11_364 (RM_mk (Nat.le_of_ble_eq_true rfl) (Nat.le_of_ble_eq_true rfl)) rfl rfl rfl rfl (Nat.le_of_ble_eq_true rfl) (adr_lt (Nat.le_of_ble_eq_true rfl)) (Nat.le_of_ble_eq_true rfl) rfl rfl (Nat.le_of_ble_eq_true rfl) (Nat.le_of_ble_eq_true rfl) dX11_learn_253 (fun r2 h3 hw => ?_)
    refine r_istore E [some (rf X 11 0), none, none, some (.int x3), some (.int x4), some (.int r2), none] (Nat.le_of_ble_eq_true rfl) rfl dX11_learn_256 ?_
    refine r_iload E x4 rfl dX11_learn_258 ?_
    refine r_iconst E (-1) rfl dX11_learn_260 ?_
    refine r_icmp_ne E 269 (by decide) dX11_learn_261 (fun c4 => ?_) (fun c4 => ?_)
    · have hw := ite_t hw c4
      refine r_iload E r2 rfl dX11_learn_264 ?_
      refine r_goto E 283 (by decide) dX11_learn_266 ?_
      exact hE _ _ _ _ _ _ (Nat.le_of_ble_eq_true rfl) (Nat.le_of_ble_eq_true rfl) dX11_learn_283 rfl hw
    · have hw := ite_f hw c4
      refine r_aload_n E 11 0 rfl dX11_learn_269 ?_
      refine r_bipush E 38 rfl dX11_learn_270 ?_
      refine r_iload E r2 rfl dX11_learn_272 ?_
      refine r_aload_n E 11 0 rfl dX11_learn_274 ?_
      refine r_iload E x4 rfl dX11_learn_275 ?_
      refine r_callVI E (m_X11_makes (EE_st E) (GX X) x4 h3 _ hw) lk_X11_364 (RM_mk (Nat.le_of_ble_eq_true rfl) (Nat.le_of_ble_eq_true rfl)) rfl rfl rfl rfl (Nat.le_of_ble_eq_true rfl) (adr_lt (Nat.le_of_ble_eq_true rfl)) (Nat.le_of_ble_eq_true rfl) rfl rfl (Nat.le_of_ble_eq_true rfl) (Nat.le_of_ble_eq_true rfl) dX11_learn_277 (fun r5 h6 hw => ?_)
      refine r_callVI E (m_X11_addsTest (EE_st E) (GX X) 38 r2 r5 h6 _ hw) lk_X11_183 (RM_mk (Nat.le_of_ble_eq_true rfl) (Nat.le_of_ble_eq_true rfl)) rfl rfl rfl rfl (Nat.le_of_ble_eq_true rfl) (adr_lt (Nat.le_of_ble_eq_true rfl)) (Nat.le_of_ble_eq_true rfl) rfl rfl (Nat.le_of_ble_eq_true rfl) (Nat.le_of_ble_eq_true rfl) dX11_learn_280 (fun r7 h8 hw => ?_)
      exact hE _ _ _ _ _ _ (Nat.le_of_ble_eq_true rfl) (Nat.le_of_ble_eq_true rfl) dX11_learn_283 rfl hw
  · have hw := ite_f hw c1
    refine r_aload_n E 11 0 rfl dX11_learn_245 ?_
    refine r_iconst E 3 rfl dX11_learn_246 ?_
    refine r_callVI E (m_X11_fails (EE_st E) (GX X) 3 h _ hw) lk_X11_147 (RM_mk (Nat.le_of_ble_eq_true rfl) (Nat.le_of_ble_eq_true rfl)) rfl rfl rfl rfl (Nat.le_of_ble_eq_true rfl) (adr_lt (Nat.le_of_ble_eq_true rfl)) (Nat.le_of_ble_eq_true rfl) rfl rfl (Nat.le_of_ble_eq_true rfl) (Nat.le_of_ble_eq_true rfl) dX11_learn_247 (fun r9 h10 hw => ?_)
    exact hE _ _ _ _ _ _ (Nat.le_of_ble_eq_true rfl) (Nat.le_of_ble_eq_true rfl) dX11_learn_250 rfl hw
set_option maxRecDepth 20000 in
theorem t_X11_learn_b200 {X : Ctx} (h : Hp) (x3 : Int32) (x4 : Int32)  (E : EE X cX11_learn RX11 7 5 117 0 0) {Q : Int32 → Hp → Prop} (hE : ENDi X cX11_learn .int Q NT 0 0)  (hw : wp_X11_learn_b200 x3 x4 h  Q) : GG X 0 0 NT h [some (rf X 11 0), none, none, some (.int x3), some (.int x4), none, none] 200 [] := by
  unfold wp_X11_learn_b200 at hw
  refine r_iload_n E x3 rfl dX11_learn_200 ?_
  refine r_iconst E (-1) rfl dX11_learn_201 ?_
  refine r_icmp_ne E 211 (by decide) dX11_learn_202 (fun c1 => ?_) (fun c1 => ?_)
  · have hw := ite_t hw c1
    refine r_aload_n E 11 0 rfl dX11_learn_205 ?_
    refine r_iconst E 2 rfl dX11_learn_206 ?_
    refine r_callVI E (m_X11_fails (EE_st E) (GX X) 2 h _ hw) lk_X11_147 (RM_mk (Nat.le_of_ble_eq_true rfl) (Nat.le_of_ble_eq_true rfl)) rfl rfl rfl rfl (Nat.le_of_ble_eq_true rfl) (adr_lt (Nat.le_of_ble_eq_true rfl)) (Nat.le_of_ble_eq_true rfl) rfl rfl (Nat.le_of_ble_eq_true rfl) (Nat.le_of_ble_eq_true rfl) dX11_learn_207 (fun r2 h3 hw => ?_)
    exact hE _ _ _ _ _ _ (Nat.le_of_ble_eq_true rfl) (Nat.le_of_ble_eq_true rfl) dX11_learn_210 rfl hw
  · have hw := ite_f hw c1
    refine r_aload_n E 11 0 rfl dX11_learn_211 ?_
    refine r_getI E fd_X11_173 rfl (Nat.le_of_ble_eq_true rfl) (adr_lt (Nat.le_of_ble_eq_true rfl)) dX11_learn_212 ?_
    refine r_aload_n E 11 0 rfl dX11_learn_215 ?_
    refine r_iload_n E x3 rfl dX11_learn_216 ?_
    refine r_callVI E (m_X11_parts (EE_st E) (GX X) x3 h _ hw) lk_X11_361 (RM_mk (Nat.le_of_ble_eq_true rfl) (Nat.le_of_ble_eq_true rfl)) rfl rfl rfl rfl (Nat.le_of_ble_eq_true rfl) (adr_lt (Nat.le_of_ble_eq_true rfl)) (Nat.le_of_ble_eq_true rfl) rfl rfl (Nat.le_of_ble_eq_true rfl) (Nat.le_of_ble_eq_true rfl) dX11_learn_217 (fun r4 u9 hw => ?_)
    obtain ⟨rfl, hw⟩ := hw
    refine r_iadd E dX11_learn_220 ?_
    refine r_aload_n E 11 0 rfl dX11_learn_221 ?_
    refine r_iload E x4 rfl dX11_learn_222 ?_
    refine r_callVI E (m_X11_parts (EE_st E) (GX X) x4 h _ hw) lk_X11_361 (RM_mk (Nat.le_of_ble_eq_true rfl) (Nat.le_of_ble_eq_true rfl)) rfl rfl rfl rfl (Nat.le_of_ble_eq_true rfl) (adr_lt (Nat.le_of_ble_eq_true rfl)) (Nat.le_of_ble_eq_true rfl) rfl rfl (Nat.le_of_ble_eq_true rfl) (Nat.le_of_ble_eq_true rfl) dX11_learn_224 (fun r5 u9 hw => ?_)
    obtain ⟨rfl, hw⟩ := hw
    refine r_iadd E dX11_learn_227 ?_
    refine r_iload E x4 rfl dX11_learn_228 ?_
    refine r_iconst E (-1) rfl dX11_learn_230 ?_
    refine r_icmp_ne E 238 (by decide) dX11_learn_231 (fun c6 => ?_) (fun c6 => ?_)
    · have hw := ite_t hw c6
      refine r_iconst E 0 rfl dX11_learn_234 ?_
      refine r_goto E 239 (by decide) dX11_learn_235 ?_
      exact GG_weak [true, false, false, true, true, false, false] rfl (t_X11_learn_b239 h x3 x4 (((gI h 11 0 19) + r4) + r5) 0 E hE  hw)
    · have hw := ite_f hw c6
      refine r_iconst E 1 rfl dX11_learn_238 ?_
      exact GG_weak [true, false, false, true, true, false, false] rfl (t_X11_learn_b239 h x3 x4 (((gI h 11 0 19) + r4) + r5) 1 E hE  hw)
set_option maxRecDepth 20000 in
theorem t_X11_learn_b194 {X : Ctx} (h : Hp) (x1 : Int32) (x2 : Int32) (x3 : Int32) (x4 : Int32) (x5 : Int32)  (E : EE X cX11_learn RX11 7 5 117 0 0) {Q : Int32 → Hp → Prop} (hE : ENDi X cX11_learn .int Q NT 0 0) (P127 : Int32 → Int32 → Int32 → Hp → Prop) (hP127 : ∀ (y3 : Int32) (y4 : Int32) (y5 : Int32) (u : Hp), P127 y3 y4 y5 u → GG X 0 0 NT u [some (rf X 11 0), some (.int x1), some (.int x2), some (.int y3), some (.int y4), some (.int y5), none] 127 []) (hw : wp_X11_learn_b194 x1 x2 x3 x4 x5 h P127 Q) : GG X 0 0 NT h [some (rf X 11 0), some (.int x1), some (.int x2), some (.int x3), some (.int x4), some (.int x5), none] 194 [] := by
  unfold wp_X11_learn_b194 at hw
  obtain ⟨v1, hv1⟩ : ∃ y : Int32, y = x5 + 1 := ⟨_, rfl⟩
  have hw := hw v1 hv1
  refine r_iinc E x5 v1 [some (rf X 11 0), some (.int x1), some (.int x2), some (.int x3), some (.int x4), some (.int v1), none] rfl (by rw [hv1]; rfl) (Nat.le_of_ble_eq_true rfl) rfl dX11_learn_194 ?_
  refine r_goto E 127 (by decide) dX11_learn_197 ?_
  exact GG_weak [true, true, true, true, true, true, false] rfl (hP127 _ _ _ _ hw)
set_option maxRecDepth 20000 in
theorem t_X11_learn_b188 {X : Ctx} (h : Hp) (x1 : Int32) (x2 : Int32) (x3 : Int32) (x4 : Int32) (x5 : Int32) (x6 : Int32)  (E : EE X cX11_learn RX11 7 5 117 0 0) {Q : Int32 → Hp → Prop} (hE : ENDi X cX11_learn .int Q NT 0 0) (P127 : Int32 → Int32 → Int32 → Hp → Prop) (hP127 : ∀ (y3 : Int32) (y4 : Int32) (y5 : Int32) (u : Hp), P127 y3 y4 y5 u → GG X 0 0 NT u [some (rf X 11 0), some (.int x1), some (.int x2), some (.int y3), some (.int y4), some (.int y5), none] 127 []) (P153 : Int32 → Int32 → Int32 → Hp → Prop) (hP153 : ∀ (y3 : Int32) (y4 : Int32) (y6 : Int32) (u : Hp), P153 y3 y4 y6 u → GG X 0 0 NT u [some (rf X 11 0), some (.int x1), some (.int x2), some (.int y3), some (.int y4), some (.int x5), some (.int y6)] 153 []) (hw : wp_X11_learn_b188 x1 x2 x3 x4 x5 x6 h P127 P153 Q) : GG X 0 0 NT h [some (rf X 11 0), some (.int x1), some (.int x2), some (.int x3), some (.int x4), some (.int x5), some (.int x6)] 188 [] := by
  unfold wp_X11_learn_b188 at hw
  obtain ⟨v1, hv1⟩ : ∃ y : Int32, y = x6 + 1 := ⟨_, rfl⟩
  have hw := hw v1 hv1
  refine r_iinc E x6 v1 [some (rf X 11 0), some (.int x1), some (.int x2), some (.int x3), some (.int x4), some (.int x5), some (.int v1)] rfl (by rw [hv1]; rfl) (Nat.le_of_ble_eq_true rfl) rfl dX11_learn_188 ?_
  refine r_goto E 153 (by decide) dX11_learn_191 ?_
  exact GG_weak [true, true, true, true, true, true, true] rfl (hP153 _ _ _ _ hw)
set_option maxRecDepth 20000 in
theorem t_X11_learn_b153F {X : Ctx} (h : Hp) (x1 : Int32) (x2 : Int32) (x3 : Int32) (x4 : Int32) (x5 : Int32) (x6 : Int32)  (E : EE X cX11_learn RX11 7 5 117 0 0) {Q : Int32 → Hp → Prop} (hE : ENDi X cX11_learn .int Q NT 0 0) (P127 : Int32 → Int32 → Int32 → Hp → Prop) (hP127 : ∀ (y3 : Int32) (y4 : Int32) (y5 : Int32) (u : Hp), P127 y3 y4 y5 u → GG X 0 0 NT u [some (rf X 11 0), some (.int x1), some (.int x2), some (.int y3), some (.int y4), some (.int y5), none] 127 []) (P153 : Int32 → Int32 → Int32 → Hp → Prop) (hP153 : ∀ (y3 : Int32) (y4 : Int32) (y6 : Int32) (u : Hp), P153 y3 y4 y6 u → GG X 0 0 NT u [some (rf X 11 0), some (.int x1), some (.int x2), some (.int y3), some (.int y4), some (.int x5), some (.int y6)] 153 []) (hw : wp_X11_learn_b153F x1 x2 x5  P127 Q P153 x3 x4 x6 h) : GG X 0 0 NT h [some (rf X 11 0), some (.int x1), some (.int x2), some (.int x3), some (.int x4), some (.int x5), some (.int x6)] 153 [] := by
  unfold wp_X11_learn_b153F at hw
  refine r_iload E x6 rfl dX11_learn_153 ?_
  refine r_iconst E 2 rfl dX11_learn_155 ?_
  refine r_aload_n E 11 0 rfl dX11_learn_156 ?_
  refine r_getI E fd_X11_345 rfl (Nat.le_of_ble_eq_true rfl) (adr_lt (Nat.le_of_ble_eq_true rfl)) dX11_learn_157 ?_
  refine r_imul E dX11_learn_160 ?_
  refine r_icmp_ge E 194 (by decide) dX11_learn_161 (fun c1 => ?_) (fun c1 => ?_)
  · have hw := ite_t hw c1
    exact GG_weak [true, true, true, true, true, true, false] rfl (t_X11_learn_b194 h x1 x2 x3 x4 x5 E hE P127 hP127  hw)
  · have hw := ite_f hw c1
    refine r_iload_n E x3 rfl dX11_learn_164 ?_
    refine r_iconst E (-1) rfl dX11_learn_165 ?_
    refine r_icmp_ne E 194 (by decide) dX11_learn_166 (fun c2 => ?_) (fun c2 => ?_)
    · have hw := ite_t hw c2
      refine r_aload_n E 11 0 rfl dX11_learn_169 ?_
      refine r_iload E x5 rfl dX11_learn_170 ?_
      refine r_iload E x6 rfl dX11_learn_172 ?_
      refine r_iload_n E x1 rfl dX11_learn_174 ?_
      refine r_callVI E (m_X11_fits (EE_st E) (GX X) x5 x6 x1 h _ hw) lk_X11_358 (RM_mk (Nat.le_of_ble_eq_true rfl) (Nat.le_of_ble_eq_true rfl)) rfl rfl rfl rfl (Nat.le_of_ble_eq_true rfl) (adr_lt (Nat.le_of_ble_eq_true rfl)) (Nat.le_of_ble_eq_true rfl) rfl rfl (Nat.le_of_ble_eq_true rfl) (Nat.le_of_ble_eq_true rfl) dX11_learn_175 (fun r3 u9 hw => ?_)
      obtain ⟨rfl, zr3, hw⟩ := hw
      refine r_if_eq E 188 (by decide) dX11_learn_178 (fun c4 => ?_) (fun c4 => ?_)
      · have hw := ite_t hw c4
        exact GG_weak [true, true, true, true, true, true, true] rfl (t_X11_learn_b188 h x1 x2 x3 x4 x5 x6 E hE P127 hP127 P153 hP153  hw)
      · have hw := ite_f hw c4
        refine r_iload E x5 rfl dX11_learn_181 ?_
        refine r_istore_n E [some (rf X 11 0), some (.int x1), some (.int x2), some (.int x5), some (.int x4), some (.int x5), some (.int x6)] rfl (Nat.le_of_ble_eq_true rfl) rfl dX11_learn_183 ?_
        refine r_iload E x6 rfl dX11_learn_184 ?_
        refine r_istore E [some (rf X 11 0), some (.int x1), some (.int x2), some (.int x5), some (.int x6), some (.int x5), some (.int x6)] (Nat.le_of_ble_eq_true rfl) rfl dX11_learn_186 ?_
        exact GG_weak [true, true, true, true, true, true, true] rfl (t_X11_learn_b188 h x1 x2 x5 x6 x5 x6 E hE P127 hP127 P153 hP153  hw)
    · have hw := ite_f hw c2
      exact GG_weak [true, true, true, true, true, true, false] rfl (t_X11_learn_b194 h x1 x2 x3 x4 x5 E hE P127 hP127  hw)
set_option maxRecDepth 20000 in
theorem t_X11_learn_b153 {X : Ctx} (h : Hp) (x1 : Int32) (x2 : Int32) (x3 : Int32) (x4 : Int32) (x5 : Int32) (x6 : Int32)  (E : EE X cX11_learn RX11 7 5 117 0 0) {Q : Int32 → Hp → Prop} (hE : ENDi X cX11_learn .int Q NT 0 0) (P127 : Int32 → Int32 → Int32 → Hp → Prop) (hP127 : ∀ (y3 : Int32) (y4 : Int32) (y5 : Int32) (u : Hp), P127 y3 y4 y5 u → GG X 0 0 NT u [some (rf X 11 0), some (.int x1), some (.int x2), some (.int y3), some (.int y4), some (.int y5), none] 127 []) (hw : wp_X11_learn_b153 x1 x2 x3 x4 x5 x6 h P127 Q) : GG X 0 0 NT h [some (rf X 11 0), some (.int x1), some (.int x2), some (.int x3), some (.int x4), some (.int x5), some (.int x6)] 153 [] :=
  hw (fun y3 y4 y6 u => GG X 0 0 NT u [some (rf X 11 0), some (.int x1), some (.int x2), some (.int y3), some (.int y4), some (.int x5), some (.int y6)] 153 []) (fun y3 y4 y6 u hq => t_X11_learn_b153F u x1 x2 y3 y4 x5 y6  E hE P127 hP127 (fun y3 y4 y6 u => GG X 0 0 NT u [some (rf X 11 0), some (.int x1), some (.int x2), some (.int y3), some (.int y4), some (.int x5), some (.int y6)] 153 []) (fun y3 y4 y6 u q => q) hq)
set_option maxRecDepth 20000 in
theorem t_X11_learn_b127F {X : Ctx} (h : Hp) (x1 : Int32) (x2 : Int32) (x3 : Int32) (x4 : Int32) (x5 : Int32)  (E : EE X cX11_learn RX11 7 5 117 0 0) {Q : Int32 → Hp → Prop} (hE : ENDi X cX11_learn .int Q NT 0 0)  (P127 : Int32 → Int32 → Int32 → Hp → Prop) (hP127 : ∀ (y3 : Int32) (y4 : Int32) (y5 : Int32) (u : Hp), P127 y3 y4 y5 u → GG X 0 0 NT u [some (rf X 11 0), some (.int x1), some (.int x2), some (.int y3), some (.int y4), some (.int y5), none] 127 []) (hw : wp_X11_learn_b127F x1 x2   Q P127 x3 x4 x5 h) : GG X 0 0 NT h [some (rf X 11 0), some (.int x1), some (.int x2), some (.int x3), some (.int x4), some (.int x5), none] 127 [] := by
  unfold wp_X11_learn_b127F at hw
  refine r_iload E x5 rfl dX11_learn_127 ?_
  refine r_iconst E 2 rfl dX11_learn_129 ?_
  refine r_aload_n E 11 0 rfl dX11_learn_130 ?_
  refine r_getI E fd_X11_345 rfl (Nat.le_of_ble_eq_true rfl) (adr_lt (Nat.le_of_ble_eq_true rfl)) dX11_learn_131 ?_
  refine r_imul E dX11_learn_134 ?_
  refine r_icmp_ge E 200 (by decide) dX11_learn_135 (fun c1 => ?_) (fun c1 => ?_)
  · have hw := ite_t hw c1
    exact GG_weak [true, false, false, true, true, false, false] rfl (t_X11_learn_b200 h x3 x4 E hE  hw)
  · have hw := ite_f hw c1
    refine r_iload_n E x3 rfl dX11_learn_138 ?_
    refine r_iconst E (-1) rfl dX11_learn_139 ?_
    refine r_icmp_ne E 200 (by decide) dX11_learn_140 (fun c2 => ?_) (fun c2 => ?_)
    · have hw := ite_t hw c2
      refine r_iload_n E x2 rfl dX11_learn_143 ?_
      refine r_if_eq E 200 (by decide) dX11_learn_144 (fun c3 => ?_) (fun c3 => ?_)
      · have hw := ite_t hw c3
        exact GG_weak [true, false, false, true, true, false, false] rfl (t_X11_learn_b200 h x3 x4 E hE  hw)
      · have hw := ite_f hw c3
        refine r_iload E x5 rfl dX11_learn_147 ?_
        refine r_iconst E 1 rfl dX11_learn_149 ?_
        refine r_iadd E dX11_learn_150 ?_
        refine GG_topI fun v4 hv4 => ?_
        have hw := hw v4 hv4
        refine r_istore E [some (rf X 11 0), some (.int x1), some (.int x2), some (.int x3), some (.int x4), some (.int x5), some (.int v4)] (Nat.le_of_ble_eq_true rfl) rfl dX11_learn_151 ?_
        exact GG_weak [true, true, true, true, true, true, true] rfl (t_X11_learn_b153 h x1 x2 x3 x4 x5 v4 E hE P127 hP127  hw)
    · have hw := ite_f hw c2
      exact GG_weak [true, false, false, true, true, false, false] rfl (t_X11_learn_b200 h x3 x4 E hE  hw)
set_option maxRecDepth 20000 in
theorem t_X11_learn_b127 {X : Ctx} (h : Hp) (x1 : Int32) (x2 : Int32) (x3 : Int32) (x4 : Int32) (x5 : Int32)  (E : EE X cX11_learn RX11 7 5 117 0 0) {Q : Int32 → Hp → Prop} (hE : ENDi X cX11_learn .int Q NT 0 0)  (hw : wp_X11_learn_b127 x1 x2 x3 x4 x5 h  Q) : GG X 0 0 NT h [some (rf X 11 0), some (.int x1), some (.int x2), some (.int x3), some (.int x4), some (.int x5), none] 127 [] :=
  hw (fun y3 y4 y5 u => GG X 0 0 NT u [some (rf X 11 0), some (.int x1), some (.int x2), some (.int y3), some (.int y4), some (.int y5), none] 127 []) (fun y3 y4 y5 u hq => t_X11_learn_b127F u x1 x2 y3 y4 y5  E hE  (fun y3 y4 y5 u => GG X 0 0 NT u [some (rf X 11 0), some (.int x1), some (.int x2), some (.int y3), some (.int y4), some (.int y5), none] 127 []) (fun y3 y4 y5 u q => q) hq)
set_option maxRecDepth 20000 in
theorem t_X11_learn_b124 {X : Ctx} (h : Hp) (x1 : Int32) (x2 : Int32) (x3 : Int32) (x4 : Int32)  (E : EE X cX11_learn RX11 7 5 117 0 0) {Q : Int32 → Hp → Prop} (hE : ENDi X cX11_learn .int Q NT 0 0)  (hw : wp_X11_learn_b124 x1 x2 x3 x4 h  Q) : GG X 0 0 NT h [some (rf X 11 0), some (.int x1), some (.int x2), some (.int x3), some (.int x4), none, none] 124 [] := by
  unfold wp_X11_learn_b124 at hw
  refine r_iconst E 0 rfl dX11_learn_124 ?_
  refine r_istore E [some (rf X 11 0), some (.int x1), some (.int x2), some (.int x3), some (.int x4), some (.int 0), none] (Nat.le_of_ble_eq_true rfl) rfl dX11_learn_125 ?_
  exact GG_weak [true, true, true, true, true, true, false] rfl (t_X11_learn_b127 h x1 x2 x3 x4 0 E hE  hw)
set_option maxRecDepth 20000 in
theorem t_X11_learn_b117 {X : Ctx} (h : Hp) (x1 : Int32) (x2 : Int32) (x4 : Int32) (x5 : Int32) (s0 : Int32)  (E : EE X cX11_learn RX11 7 5 117 0 0) {Q : Int32 → Hp → Prop} (hE : ENDi X cX11_learn .int Q NT 0 0) (P80 : Int32 → Int32 → Hp → Prop) (hP80 : ∀ (y3 : Int32) (y5 : Int32) (u : Hp), P80 y3 y5 u → GG X 0 0 NT u [some (rf X 11 0), some (.int x1), some (.int x2), some (.int y3), some (.int x4), some (.int y5), none] 80 []) (hw : wp_X11_learn_b117 x1 x2 x4 x5 s0 h P80 Q) : GG X 0 0 NT h [some (rf X 11 0), some (.int x1), some (.int x2), none, some (.int x4), some (.int x5), none] 117 [.int s0] := by
  unfold wp_X11_learn_b117 at hw
  refine r_istore_n E [some (rf X 11 0), some (.int x1), some (.int x2), some (.int s0), some (.int x4), some (.int x5), none] rfl (Nat.le_of_ble_eq_true rfl) rfl dX11_learn_117 ?_
  obtain ⟨v1, hv1⟩ : ∃ y : Int32, y = x5 + 1 := ⟨_, rfl⟩
  have hw := hw v1 hv1
  refine r_iinc E x5 v1 [some (rf X 11 0), some (.int x1), some (.int x2), some (.int s0), some (.int x4), some (.int v1), none] rfl (by rw [hv1]; rfl) (Nat.le_of_ble_eq_true rfl) rfl dX11_learn_118 ?_
  refine r_goto E 80 (by decide) dX11_learn_121 ?_
  exact GG_weak [true, true, true, true, true, true, false] rfl (hP80 _ _ _ hw)
set_option maxRecDepth 20000 in
theorem t_X11_learn_b80F {X : Ctx} (h : Hp) (x1 : Int32) (x2 : Int32) (x3 : Int32) (x4 : Int32) (x5 : Int32)  (E : EE X cX11_learn RX11 7 5 117 0 0) {Q : Int32 → Hp → Prop} (hE : ENDi X cX11_learn .int Q NT 0 0)  (P80 : Int32 → Int32 → Hp → Prop) (hP80 : ∀ (y3 : Int32) (y5 : Int32) (u : Hp), P80 y3 y5 u → GG X 0 0 NT u [some (rf X 11 0), some (.int x1), some (.int x2), some (.int y3), some (.int x4), some (.int y5), none] 80 []) (hw : wp_X11_learn_b80F x1 x2 x4   Q P80 x3 x5 h) : GG X 0 0 NT h [some (rf X 11 0), some (.int x1), some (.int x2), some (.int x3), some (.int x4), some (.int x5), none] 80 [] := by
  unfold wp_X11_learn_b80F at hw
  refine r_iload E x5 rfl dX11_learn_80 ?_
  refine r_iconst E 2 rfl dX11_learn_82 ?_
  refine r_aload_n E 11 0 rfl dX11_learn_83 ?_
  refine r_getI E fd_X11_345 rfl (Nat.le_of_ble_eq_true rfl) (adr_lt (Nat.le_of_ble_eq_true rfl)) dX11_learn_84 ?_
  refine r_imul E dX11_learn_87 ?_
  refine r_icmp_ge E 124 (by decide) dX11_learn_88 (fun c1 => ?_) (fun c1 => ?_)
  · have hw := ite_t hw c1
    exact GG_weak [true, true, true, true, true, false, false] rfl (t_X11_learn_b124 h x1 x2 x3 x4 E hE  hw)
  · have hw := ite_f hw c1
    refine r_iload_n E x3 rfl dX11_learn_91 ?_
    refine r_iconst E (-1) rfl dX11_learn_92 ?_
    refine r_icmp_ne E 124 (by decide) dX11_learn_93 (fun c2 => ?_) (fun c2 => ?_)
    · have hw := ite_t hw c2
      refine r_iload_n E x2 rfl dX11_learn_96 ?_
      refine r_if_eq E 124 (by decide) dX11_learn_97 (fun c3 => ?_) (fun c3 => ?_)
      · have hw := ite_t hw c3
        exact GG_weak [true, true, true, true, true, false, false] rfl (t_X11_learn_b124 h x1 x2 x3 x4 E hE  hw)
      · have hw := ite_f hw c3
        refine r_aload_n E 11 0 rfl dX11_learn_100 ?_
        refine r_iload E x5 rfl dX11_learn_101 ?_
        refine r_iconst E (-1) rfl dX11_learn_103 ?_
        refine r_iload_n E x1 rfl dX11_learn_104 ?_
        refine r_callVI E (m_X11_fits (EE_st E) (GX X) x5 (-1) x1 h _ hw) lk_X11_358 (RM_mk (Nat.le_of_ble_eq_true rfl) (Nat.le_of_ble_eq_true rfl)) rfl rfl rfl rfl (Nat.le_of_ble_eq_true rfl) (adr_lt (Nat.le_of_ble_eq_true rfl)) (Nat.le_of_ble_eq_true rfl) rfl rfl (Nat.le_of_ble_eq_true rfl) (Nat.le_of_ble_eq_true rfl) dX11_learn_105 (fun r4 u9 hw => ?_)
        obtain ⟨rfl, zr4, hw⟩ := hw
        refine r_if_eq E 116 (by decide) dX11_learn_108 (fun c5 => ?_) (fun c5 => ?_)
        · have hw := ite_t hw c5
          refine r_iconst E (-1) rfl dX11_learn_116 ?_
          exact GG_weak [true, true, true, false, true, true, false] rfl (t_X11_learn_b117 h x1 x2 x4 x5 (-1) E hE P80 hP80  hw)
        · have hw := ite_f hw c5
          refine r_iload E x5 rfl dX11_learn_111 ?_
          refine r_goto E 117 (by decide) dX11_learn_113 ?_
          exact GG_weak [true, true, true, false, true, true, false] rfl (t_X11_learn_b117 h x1 x2 x4 x5 x5 E hE P80 hP80  hw)
    · have hw := ite_f hw c2
      exact GG_weak [true, true, true, true, true, false, false] rfl (t_X11_learn_b124 h x1 x2 x3 x4 E hE  hw)
set_option maxRecDepth 20000 in
theorem t_X11_learn_b80 {X : Ctx} (h : Hp) (x1 : Int32) (x2 : Int32) (x3 : Int32) (x4 : Int32) (x5 : Int32)  (E : EE X cX11_learn RX11 7 5 117 0 0) {Q : Int32 → Hp → Prop} (hE : ENDi X cX11_learn .int Q NT 0 0)  (hw : wp_X11_learn_b80 x1 x2 x3 x4 x5 h  Q) : GG X 0 0 NT h [some (rf X 11 0), some (.int x1), some (.int x2), some (.int x3), some (.int x4), some (.int x5), none] 80 [] :=
  hw (fun y3 y5 u => GG X 0 0 NT u [some (rf X 11 0), some (.int x1), some (.int x2), some (.int y3), some (.int x4), some (.int y5), none] 80 []) (fun y3 y5 u hq => t_X11_learn_b80F u x1 x2 y3 x4 y5  E hE  (fun y3 y5 u => GG X 0 0 NT u [some (rf X 11 0), some (.int x1), some (.int x2), some (.int y3), some (.int x4), some (.int y5), none] 80 []) (fun y3 y5 u q => q) hq)
set_option maxRecDepth 20000 in
theorem t_X11_learn_b61 {X : Ctx} (h : Hp) (x1 : Int32) (x3 : Int32) (s0 : Int32)  (E : EE X cX11_learn RX11 7 5 117 0 0) {Q : Int32 → Hp → Prop} (hE : ENDi X cX11_learn .int Q NT 0 0) (P25 : Int32 → Int32 → Hp → Prop) (hP25 : ∀ (y2 : Int32) (y3 : Int32) (u : Hp), P25 y2 y3 u → GG X 0 0 NT u [some (rf X 11 0), some (.int x1), some (.int y2), some (.int y3), none, none, none] 25 []) (hw : wp_X11_learn_b61 x1 x3 s0 h P25 Q) : GG X 0 0 NT h [some (rf X 11 0), some (.int x1), none, some (.int x3), none, none, none] 61 [.int s0] := by
  unfold wp_X11_learn_b61 at hw
  refine r_istore_n E [some (rf X 11 0), some (.int x1), some (.int s0), some (.int x3), none, none, none] rfl (Nat.le_of_ble_eq_true rfl) rfl dX11_learn_61 ?_
  obtain ⟨v1, hv1⟩ : ∃ y : Int32, y = x3 + 1 := ⟨_, rfl⟩
  have hw := hw v1 hv1
  refine r_iinc E x3 v1 [some (rf X 11 0), some (.int x1), some (.int s0), some (.int v1), none, none, none] rfl (by rw [hv1]; rfl) (Nat.le_of_ble_eq_true rfl) rfl dX11_learn_62 ?_
  refine r_goto E 25 (by decide) dX11_learn_65 ?_
  exact GG_weak [true, true, true, true, false, false, false] rfl (hP25 _ _ _ hw)
set_option maxRecDepth 20000 in
theorem t_X11_learn_b56 {X : Ctx} (h : Hp) (x1 : Int32) (x3 : Int32)  (E : EE X cX11_learn RX11 7 5 117 0 0) {Q : Int32 → Hp → Prop} (hE : ENDi X cX11_learn .int Q NT 0 0) (P25 : Int32 → Int32 → Hp → Prop) (hP25 : ∀ (y2 : Int32) (y3 : Int32) (u : Hp), P25 y2 y3 u → GG X 0 0 NT u [some (rf X 11 0), some (.int x1), some (.int y2), some (.int y3), none, none, none] 25 []) (hw : wp_X11_learn_b56 x1 x3 h P25 Q) : GG X 0 0 NT h [some (rf X 11 0), some (.int x1), none, some (.int x3), none, none, none] 56 [] := by
  unfold wp_X11_learn_b56 at hw
  refine r_iconst E 1 rfl dX11_learn_56 ?_
  refine r_goto E 61 (by decide) dX11_learn_57 ?_
  exact GG_weak [true, true, false, true, false, false, false] rfl (t_X11_learn_b61 h x1 x3 1 E hE P25 hP25  hw)
set_option maxRecDepth 20000 in
theorem t_X11_learn_b60 {X : Ctx} (h : Hp) (x1 : Int32) (x3 : Int32)  (E : EE X cX11_learn RX11 7 5 117 0 0) {Q : Int32 → Hp → Prop} (hE : ENDi X cX11_learn .int Q NT 0 0) (P25 : Int32 → Int32 → Hp → Prop) (hP25 : ∀ (y2 : Int32) (y3 : Int32) (u : Hp), P25 y2 y3 u → GG X 0 0 NT u [some (rf X 11 0), some (.int x1), some (.int y2), some (.int y3), none, none, none] 25 []) (hw : wp_X11_learn_b60 x1 x3 h P25 Q) : GG X 0 0 NT h [some (rf X 11 0), some (.int x1), none, some (.int x3), none, none, none] 60 [] := by
  unfold wp_X11_learn_b60 at hw
  refine r_iconst E 0 rfl dX11_learn_60 ?_
  exact GG_weak [true, true, false, true, false, false, false] rfl (t_X11_learn_b61 h x1 x3 0 E hE P25 hP25  hw)
set_option maxRecDepth 20000 in
theorem t_X11_learn_b25F {X : Ctx} (h : Hp) (x1 : Int32) (x2 : Int32) (x3 : Int32)  (E : EE X cX11_learn RX11 7 5 117 0 0) {Q : Int32 → Hp → Prop} (hE : ENDi X cX11_learn .int Q NT 0 0)  (P25 : Int32 → Int32 → Hp → Prop) (hP25 : ∀ (y2 : Int32) (y3 : Int32) (u : Hp), P25 y2 y3 u → GG X 0 0 NT u [some (rf X 11 0), some (.int x1), some (.int y2), some (.int y3), none, none, none] 25 []) (hw : wp_X11_learn_b25F x1   Q P25 x2 x3 h) : GG X 0 0 NT h [some (rf X 11 0), some (.int x1), some (.int x2), some (.int x3), none, none, none] 25 [] := by
  unfold wp_X11_learn_b25F at hw
  refine r_iload_n E x3 rfl dX11_learn_25 ?_
  refine r_aload_n E 11 0 rfl dX11_learn_26 ?_
  refine r_getI E fd_X11_151 rfl (Nat.le_of_ble_eq_true rfl) (adr_lt (Nat.le_of_ble_eq_true rfl)) dX11_learn_27 ?_
  refine r_icmp_ge E 68 (by decide) dX11_learn_30 (fun c1 => ?_) (fun c1 => ?_)
  · have hw := ite_t hw c1
    refine r_aload_n E 11 0 rfl dX11_learn_68 ?_
    refine r_callVV E (m_X11_offersAll (EE_st E) (GX X)  h _ hw) lk_X11_355 (RM_mk (Nat.le_of_ble_eq_true rfl) (Nat.le_of_ble_eq_true rfl)) rfl rfl rfl rfl (Nat.le_of_ble_eq_true rfl) (adr_lt (Nat.le_of_ble_eq_true rfl)) (Nat.le_of_ble_eq_true rfl) rfl rfl (Nat.le_of_ble_eq_true rfl) (Nat.le_of_ble_eq_true rfl) dX11_learn_69 (fun h2 hw => ?_)
    refine r_iconst E (-1) rfl dX11_learn_72 ?_
    refine r_istore_n E [some (rf X 11 0), some (.int x1), some (.int x2), some (.int (-1)), none, none, none] rfl (Nat.le_of_ble_eq_true rfl) rfl dX11_learn_73 ?_
    refine r_iconst E (-1) rfl dX11_learn_74 ?_
    refine r_istore E [some (rf X 11 0), some (.int x1), some (.int x2), some (.int (-1)), some (.int (-1)), none, none] (Nat.le_of_ble_eq_true rfl) rfl dX11_learn_75 ?_
    refine r_iconst E 0 rfl dX11_learn_77 ?_
    refine r_istore E [some (rf X 11 0), some (.int x1), some (.int x2), some (.int (-1)), some (.int (-1)), some (.int 0), none] (Nat.le_of_ble_eq_true rfl) rfl dX11_learn_78 ?_
    exact GG_weak [true, true, true, true, true, true, false] rfl (t_X11_learn_b80 h2 x1 x2 (-1) (-1) 0 E hE  hw)
  · have hw := ite_f hw c1
    refine r_iload_n E x2 rfl dX11_learn_33 ?_
    refine r_if_ne E 56 (by decide) dX11_learn_34 (fun c3 => ?_) (fun c3 => ?_)
    · have hw := ite_t hw c3
      refine r_aload_n E 11 0 rfl dX11_learn_37 ?_
      refine r_iload_n E x3 rfl dX11_learn_38 ?_
      refine r_iload_n E x1 rfl dX11_learn_39 ?_
      refine r_callVI E (m_X11_isIn (EE_st E) (GX X) x3 x1 h _ hw) lk_X11_157 (RM_mk (Nat.le_of_ble_eq_true rfl) (Nat.le_of_ble_eq_true rfl)) rfl rfl rfl rfl (Nat.le_of_ble_eq_true rfl) (adr_lt (Nat.le_of_ble_eq_true rfl)) (Nat.le_of_ble_eq_true rfl) rfl rfl (Nat.le_of_ble_eq_true rfl) (Nat.le_of_ble_eq_true rfl) dX11_learn_40 (fun r4 u9 hw => ?_)
      obtain ⟨rfl, zr4, hw⟩ := hw
      refine r_if_eq E 60 (by decide) dX11_learn_43 (fun c5 => ?_) (fun c5 => ?_)
      · have hw := ite_t hw c5
        exact GG_weak [true, true, false, true, false, false, false] rfl (t_X11_learn_b60 h x1 x3 E hE P25 hP25  hw)
      · have hw := ite_f hw c5
        refine r_aload_n E 11 0 rfl dX11_learn_46 ?_
        refine r_getS E fd_X11_41 (t := 0) (j1 := 43) rfl rfl rfl rfl (Nat.le_of_ble_eq_true rfl) (adr_lt (Nat.le_of_ble_eq_true rfl)) dX11_learn_47 ?_
        refine r_iload_n E x3 rfl dX11_learn_50 ?_
        obtain ⟨i6, hw⟩ := hw
        refine r_iald E rfl rfl rfl (Nat.le_of_ble_eq_true rfl) (adr_lt (Nat.le_of_ble_eq_true rfl)) i6 dX11_learn_51 ?_
        refine r_iload_n E x1 rfl dX11_learn_52 ?_
        refine r_icmp_ne E 60 (by decide) dX11_learn_53 (fun c7 => ?_) (fun c7 => ?_)
        · have hw := ite_t hw c7
          exact GG_weak [true, true, false, true, false, false, false] rfl (t_X11_learn_b56 h x1 x3 E hE P25 hP25  hw)
        · have hw := ite_f hw c7
          exact GG_weak [true, true, false, true, false, false, false] rfl (t_X11_learn_b60 h x1 x3 E hE P25 hP25  hw)
    · have hw := ite_f hw c3
      exact GG_weak [true, true, false, true, false, false, false] rfl (t_X11_learn_b56 h x1 x3 E hE P25 hP25  hw)
set_option maxRecDepth 20000 in
theorem t_X11_learn_b25 {X : Ctx} (h : Hp) (x1 : Int32) (x2 : Int32) (x3 : Int32)  (E : EE X cX11_learn RX11 7 5 117 0 0) {Q : Int32 → Hp → Prop} (hE : ENDi X cX11_learn .int Q NT 0 0)  (hw : wp_X11_learn_b25 x1 x2 x3 h  Q) : GG X 0 0 NT h [some (rf X 11 0), some (.int x1), some (.int x2), some (.int x3), none, none, none] 25 [] :=
  hw (fun y2 y3 u => GG X 0 0 NT u [some (rf X 11 0), some (.int x1), some (.int y2), some (.int y3), none, none, none] 25 []) (fun y2 y3 u hq => t_X11_learn_b25F u x1 y2 y3  E hE  (fun y2 y3 u => GG X 0 0 NT u [some (rf X 11 0), some (.int x1), some (.int y2), some (.int y3), none, none, none] 25 []) (fun y2 y3 u q => q) hq)
set_option maxRecDepth 20000 in
theorem m_X11_learn {l : Launch} (hl : l.stackTraces = false) (G : Gq) (p0 : Int32)  (h : Hp) (Q : Int32 → Hp → Prop) (hw : wp_X11_learn p0 h Q) : MI l G yX11_learn cX11_learn 7 (some .int) rm_X11_learn NT NT h (fun r => [r 11 0, .int p0]) Q := by
  refine MI_of (L0 := (fun X => [some (rf X 11 0), some (.int p0), none, none, none, none, none])) hl (by decide +kernel) rfl (fun _ => Nat.le_of_ble_eq_true rfl) (fun _ => rfl) fun X hXl hXG E hE => ?_
  subst hXl; subst hXG
  unfold wp_X11_learn at hw
  refine r_aload_n E 11 0 rfl dX11_learn_0 ?_
  refine r_iconst E 0 rfl dX11_learn_1 ?_
  refine r_putI E fd_X11_138 rfl PI_int (Nat.le_of_ble_eq_true rfl) (adr_lt (Nat.le_of_ble_eq_true rfl)) rfl dX11_learn_2 ?_
  refine GG_toph fun h1 hh1 => ?_
  have hw := hw h1 hh1
  refine r_iload_n E p0 rfl dX11_learn_5 ?_
  refine r_iconst E 0 rfl dX11_learn_6 ?_
  refine r_bipush E 7 rfl dX11_learn_7 ?_
  refine r_callSI E (m_X11_in (EE_st E) (GX X) p0 0 7 h1 _ hw) lk_X11_142 (RM_mk (Nat.le_of_ble_eq_true rfl) (Nat.le_of_ble_eq_true rfl)) rfl rfl rfl rfl (Nat.le_of_ble_eq_true rfl) rfl rfl (Nat.le_of_ble_eq_true rfl) (Nat.le_of_ble_eq_true rfl) dX11_learn_9 (fun r2 u9 hw => ?_)
  obtain ⟨rfl, zr2, hw⟩ := hw
  refine r_if_ne E 21 (by decide) dX11_learn_12 (fun c3 => ?_) (fun c3 => ?_)
  · have hw := ite_t hw c3
    refine r_aload_n E 11 0 rfl dX11_learn_15 ?_
    refine r_iconst E 1 rfl dX11_learn_16 ?_
    refine r_callVI E (m_X11_fails (EE_st E) (GX X) 1 h1 _ hw) lk_X11_147 (RM_mk (Nat.le_of_ble_eq_true rfl) (Nat.le_of_ble_eq_true rfl)) rfl rfl rfl rfl (Nat.le_of_ble_eq_true rfl) (adr_lt (Nat.le_of_ble_eq_true rfl)) (Nat.le_of_ble_eq_true rfl) rfl rfl (Nat.le_of_ble_eq_true rfl) (Nat.le_of_ble_eq_true rfl) dX11_learn_17 (fun r4 h5 hw => ?_)
    exact hE _ _ _ _ _ _ (Nat.le_of_ble_eq_true rfl) (Nat.le_of_ble_eq_true rfl) dX11_learn_20 rfl hw
  · have hw := ite_f hw c3
    refine r_iconst E 0 rfl dX11_learn_21 ?_
    refine r_istore_n E [some (rf X 11 0), some (.int p0), some (.int 0), none, none, none, none] rfl (Nat.le_of_ble_eq_true rfl) rfl dX11_learn_22 ?_
    refine r_iconst E 0 rfl dX11_learn_23 ?_
    refine r_istore_n E [some (rf X 11 0), some (.int p0), some (.int 0), some (.int 0), none, none, none] rfl (Nat.le_of_ble_eq_true rfl) rfl dX11_learn_24 ?_
    exact GG_weak [true, true, true, true, false, false, false] rfl (t_X11_learn_b25 h1 p0 0 0 E hE  hw)
set_option maxRecDepth 20000 in
theorem t_X11_sum_b38 {X : Ctx} (h : Hp) (x3 : Int32) (s0 : Int64) (s1 : Int64)  (E : EE X cX11_sum RX11 4 1 24 0 0) {Q : Int64 → Hp → Prop} (hE : ENDl X cX11_sum Q NT 0 0) (P9 : Int64 → Int32 → Hp → Prop) (hP9 : ∀ (y1 : Int64) (y3 : Int32) (u : Hp), P9 y1 y3 u → GG X 0 0 NT u [some (rf X 11 0), some (.long y1), none, some (.int y3)] 9 []) (hw : wp_X11_sum_b38 x3 s0 s1 h P9 Q) : GG X 0 0 NT h [some (rf X 11 0), none, none, some (.int x3)] 38 [.long s1, .long s0] := by
  unfold wp_X11_sum_b38 at hw
  refine r_ladd E dX11_sum_38 ?_
  refine GG_topJ fun v1 hv1 => ?_
  have hw := hw v1 hv1
  refine r_lstore_n E [some (rf X 11 0), some (.long v1), none, some (.int x3)] rfl (Nat.le_of_ble_eq_true rfl) rfl dX11_sum_39 ?_
  obtain ⟨v2, hv2⟩ : ∃ y : Int32, y = x3 + 1 := ⟨_, rfl⟩
  have hw := hw v2 hv2
  refine r_iinc E x3 v2 [some (rf X 11 0), some (.long v1), none, some (.int v2)] rfl (by rw [hv2]; rfl) (Nat.le_of_ble_eq_true rfl) rfl dX11_sum_40 ?_
  refine r_goto E 9 (by decide) dX11_sum_43 ?_
  exact GG_weak [true, true, false, true] rfl (hP9 _ _ _ hw)
set_option maxRecDepth 20000 in
theorem t_X11_sum_b9F {X : Ctx} (h : Hp) (x1 : Int64) (x3 : Int32)  (E : EE X cX11_sum RX11 4 1 24 0 0) {Q : Int64 → Hp → Prop} (hE : ENDl X cX11_sum Q NT 0 0)  (P9 : Int64 → Int32 → Hp → Prop) (hP9 : ∀ (y1 : Int64) (y3 : Int32) (u : Hp), P9 y1 y3 u → GG X 0 0 NT u [some (rf X 11 0), some (.long y1), none, some (.int y3)] 9 []) (hw : wp_X11_sum_b9F    Q P9 x1 x3 h) : GG X 0 0 NT h [some (rf X 11 0), some (.long x1), none, some (.int x3)] 9 [] := by
  unfold wp_X11_sum_b9F at hw
  refine r_iload_n E x3 rfl dX11_sum_9 ?_
  refine r_aload_n E 11 0 rfl dX11_sum_10 ?_
  refine r_getI E fd_X11_151 rfl (Nat.le_of_ble_eq_true rfl) (adr_lt (Nat.le_of_ble_eq_true rfl)) dX11_sum_11 ?_
  refine r_icmp_ge E 46 (by decide) dX11_sum_14 (fun c1 => ?_) (fun c1 => ?_)
  · have hw := ite_t hw c1
    refine r_lload_n E x1 rfl dX11_sum_46 ?_
    exact hE _ _ _ _ _ _ (Nat.le_of_ble_eq_true rfl) (Nat.le_of_ble_eq_true rfl) dX11_sum_47 hw
  · have hw := ite_f hw c1
    refine r_lload_n E x1 rfl dX11_sum_17 ?_
    refine r_aload_n E 11 0 rfl dX11_sum_18 ?_
    refine r_getS E fd_X11_32 (t := 0) (j1 := 40) rfl rfl rfl rfl (Nat.le_of_ble_eq_true rfl) (adr_lt (Nat.le_of_ble_eq_true rfl)) dX11_sum_19 ?_
    refine r_iload_n E x3 rfl dX11_sum_22 ?_
    obtain ⟨i2, hw⟩ := hw
    refine r_zald E rfl rfl rfl (Nat.le_of_ble_eq_true rfl) (adr_lt (Nat.le_of_ble_eq_true rfl)) i2 dX11_sum_23 ?_
    refine r_if_eq E 31 (by decide) dX11_sum_24 (fun c3 => ?_) (fun c3 => ?_)
    · have hw := ite_t hw c3
      refine r_aload_n E 11 0 rfl dX11_sum_31 ?_
      refine r_getS E fd_X11_22 (t := 0) (j1 := 37) rfl rfl rfl rfl (Nat.le_of_ble_eq_true rfl) (adr_lt (Nat.le_of_ble_eq_true rfl)) dX11_sum_32 ?_
      refine r_iload_n E x3 rfl dX11_sum_35 ?_
      refine r_iald E rfl rfl rfl (Nat.le_of_ble_eq_true rfl) (adr_lt (Nat.le_of_ble_eq_true rfl)) i2 dX11_sum_36 ?_
      refine r_i2l E dX11_sum_37 ?_
      exact GG_weak [true, false, false, true] rfl (t_X11_sum_b38 h x3 x1 ((gI h 37 0 x3.toNatClampNeg).toInt64) E hE P9 hP9  hw)
    · have hw := ite_f hw c3
      refine r_lconst E 0 rfl dX11_sum_27 ?_
      refine r_goto E 38 (by decide) dX11_sum_28 ?_
      exact GG_weak [true, false, false, true] rfl (t_X11_sum_b38 h x3 x1 0 E hE P9 hP9  hw)
set_option maxRecDepth 20000 in
theorem t_X11_sum_b9 {X : Ctx} (h : Hp) (x1 : Int64) (x3 : Int32)  (E : EE X cX11_sum RX11 4 1 24 0 0) {Q : Int64 → Hp → Prop} (hE : ENDl X cX11_sum Q NT 0 0)  (hw : wp_X11_sum_b9 x1 x3 h  Q) : GG X 0 0 NT h [some (rf X 11 0), some (.long x1), none, some (.int x3)] 9 [] :=
  hw (fun y1 y3 u => GG X 0 0 NT u [some (rf X 11 0), some (.long y1), none, some (.int y3)] 9 []) (fun y1 y3 u hq => t_X11_sum_b9F u y1 y3  E hE  (fun y1 y3 u => GG X 0 0 NT u [some (rf X 11 0), some (.long y1), none, some (.int y3)] 9 []) (fun y1 y3 u q => q) hq)
set_option maxRecDepth 20000 in
theorem m_X11_sum {l : Launch} (hl : l.stackTraces = false) (G : Gq)   (h : Hp) (Q : Int64 → Hp → Prop) (hw : wp_X11_sum  h Q) : ML l G yX11_sum cX11_sum 4 (some .long) rm_X11_sum NT NT h (fun r => [r 11 0]) Q := by
  refine ML_of (L0 := (fun X => [some (rf X 11 0), none, none, none])) hl (by decide +kernel) rfl (fun _ => Nat.le_of_ble_eq_true rfl) (fun _ => rfl) fun X hXl hXG E hE => ?_
  subst hXl; subst hXG
  unfold wp_X11_sum at hw
  refine r_aload_n E 11 0 rfl dX11_sum_0 ?_
  refine r_iconst E 0 rfl dX11_sum_1 ?_
  refine r_putI E fd_X11_138 rfl PI_int (Nat.le_of_ble_eq_true rfl) (adr_lt (Nat.le_of_ble_eq_true rfl)) rfl dX11_sum_2 ?_
  refine GG_toph fun h1 hh1 => ?_
  have hw := hw h1 hh1
  refine r_lconst E 0 rfl dX11_sum_5 ?_
  refine r_lstore_n E [some (rf X 11 0), some (.long 0), none, none] rfl (Nat.le_of_ble_eq_true rfl) rfl dX11_sum_6 ?_
  refine r_iconst E 0 rfl dX11_sum_7 ?_
  refine r_istore_n E [some (rf X 11 0), some (.long 0), none, some (.int 0)] rfl (Nat.le_of_ble_eq_true rfl) rfl dX11_sum_8 ?_
  exact GG_weak [true, true, false, true] rfl (t_X11_sum_b9 h1 0 0 E hE  hw)
set_option maxRecDepth 20000 in
theorem t_X11_goneShare_b73 {X : Ctx} (h : Hp) (x1 : Int32) (x2 : Int32) (s1 : Int32)  (E : EE X cX11_goneShare RX11 4 1 24 0 0) {Q : UInt32 → Hp → Prop} (hE : ENDf X cX11_goneShare Q NT 0 0)  (hw : wp_X11_goneShare_b73 x1 x2 s1 h  Q) : GG X 0 0 NT h [some (rf X 11 0), some (.int x1), some (.int x2), none] 73 [.int s1, rf X 11 0] := by
  unfold wp_X11_goneShare_b73 at hw
  refine r_putI E fd_X11_138 rfl PI_int (Nat.le_of_ble_eq_true rfl) (adr_lt (Nat.le_of_ble_eq_true rfl)) rfl dX11_goneShare_73 ?_
  refine GG_toph fun h1 hh1 => ?_
  have hw := hw h1 hh1
  refine r_aload_n E 11 0 rfl dX11_goneShare_76 ?_
  refine r_getI E fd_X11_138 rfl (Nat.le_of_ble_eq_true rfl) (adr_lt (Nat.le_of_ble_eq_true rfl)) dX11_goneShare_77 ?_
  refine r_if_le E 87 (by decide) dX11_goneShare_80 (fun c2 => ?_) (fun c2 => ?_)
  · have hw := ite_t hw c2
    refine r_iload_n E x1 rfl dX11_goneShare_87 ?_
    refine r_i2f E dX11_goneShare_88 ?_
    refine r_iload_n E x2 rfl dX11_goneShare_89 ?_
    refine r_i2f E dX11_goneShare_90 ?_
    obtain ⟨n3, hw⟩ := hw
    refine r_fdiv E n3 dX11_goneShare_91 ?_
    exact hE _ _ _ _ _ _ (Nat.le_of_ble_eq_true rfl) (Nat.le_of_ble_eq_true rfl) dX11_goneShare_92 hw
  · have hw := ite_f hw c2
    refine r_fconst0 E dX11_goneShare_83 ?_
    refine r_goto E 92 (by decide) dX11_goneShare_84 ?_
    exact hE _ _ _ _ _ _ (Nat.le_of_ble_eq_true rfl) (Nat.le_of_ble_eq_true rfl) dX11_goneShare_92 hw
set_option maxRecDepth 20000 in
theorem t_X11_goneShare_b55 {X : Ctx} (h : Hp) (x2 : Int32) (x3 : Int32) (s0 : Int32) (s1 : Int32)  (E : EE X cX11_goneShare RX11 4 1 24 0 0) {Q : UInt32 → Hp → Prop} (hE : ENDf X cX11_goneShare Q NT 0 0) (P6 : Int32 → Int32 → Int32 → Hp → Prop) (hP6 : ∀ (y1 : Int32) (y2 : Int32) (y3 : Int32) (u : Hp), P6 y1 y2 y3 u → GG X 0 0 NT u [some (rf X 11 0), some (.int y1), some (.int y2), some (.int y3)] 6 []) (hw : wp_X11_goneShare_b55 x2 x3 s0 s1 h P6 Q) : GG X 0 0 NT h [some (rf X 11 0), none, some (.int x2), some (.int x3)] 55 [.int s1, .int s0] := by
  unfold wp_X11_goneShare_b55 at hw
  refine r_iadd E dX11_goneShare_55 ?_
  refine GG_topI fun v1 hv1 => ?_
  have hw := hw v1 hv1
  refine r_istore_n E [some (rf X 11 0), some (.int v1), some (.int x2), some (.int x3)] rfl (Nat.le_of_ble_eq_true rfl) rfl dX11_goneShare_56 ?_
  obtain ⟨v2, hv2⟩ : ∃ y : Int32, y = x3 + 1 := ⟨_, rfl⟩
  have hw := hw v2 hv2
  refine r_iinc E x3 v2 [some (rf X 11 0), some (.int v1), some (.int x2), some (.int v2)] rfl (by rw [hv2]; rfl) (Nat.le_of_ble_eq_true rfl) rfl dX11_goneShare_57 ?_
  refine r_goto E 6 (by decide) dX11_goneShare_60 ?_
  exact GG_weak [true, true, true, true] rfl (hP6 _ _ _ _ hw)
set_option maxRecDepth 20000 in
theorem t_X11_goneShare_b54 {X : Ctx} (h : Hp) (x2 : Int32) (x3 : Int32) (s0 : Int32)  (E : EE X cX11_goneShare RX11 4 1 24 0 0) {Q : UInt32 → Hp → Prop} (hE : ENDf X cX11_goneShare Q NT 0 0) (P6 : Int32 → Int32 → Int32 → Hp → Prop) (hP6 : ∀ (y1 : Int32) (y2 : Int32) (y3 : Int32) (u : Hp), P6 y1 y2 y3 u → GG X 0 0 NT u [some (rf X 11 0), some (.int y1), some (.int y2), some (.int y3)] 6 []) (hw : wp_X11_goneShare_b54 x2 x3 s0 h P6 Q) : GG X 0 0 NT h [some (rf X 11 0), none, some (.int x2), some (.int x3)] 54 [.int s0] := by
  unfold wp_X11_goneShare_b54 at hw
  refine r_iconst E 0 rfl dX11_goneShare_54 ?_
  exact GG_weak [true, false, true, true] rfl (t_X11_goneShare_b55 h x2 x3 s0 0 E hE P6 hP6  hw)
set_option maxRecDepth 20000 in
theorem t_X11_goneShare_b29 {X : Ctx} (h : Hp) (x1 : Int32) (x3 : Int32) (s0 : Int32) (s1 : Int32)  (E : EE X cX11_goneShare RX11 4 1 24 0 0) {Q : UInt32 → Hp → Prop} (hE : ENDf X cX11_goneShare Q NT 0 0) (P6 : Int32 → Int32 → Int32 → Hp → Prop) (hP6 : ∀ (y1 : Int32) (y2 : Int32) (y3 : Int32) (u : Hp), P6 y1 y2 y3 u → GG X 0 0 NT u [some (rf X 11 0), some (.int y1), some (.int y2), some (.int y3)] 6 []) (hw : wp_X11_goneShare_b29 x1 x3 s0 s1 h P6 Q) : GG X 0 0 NT h [some (rf X 11 0), some (.int x1), none, some (.int x3)] 29 [.int s1, .int s0] := by
  unfold wp_X11_goneShare_b29 at hw
  refine r_iadd E dX11_goneShare_29 ?_
  refine GG_topI fun v1 hv1 => ?_
  have hw := hw v1 hv1
  refine r_istore_n E [some (rf X 11 0), some (.int x1), some (.int v1), some (.int x3)] rfl (Nat.le_of_ble_eq_true rfl) rfl dX11_goneShare_30 ?_
  refine r_iload_n E x1 rfl dX11_goneShare_31 ?_
  refine r_aload_n E 11 0 rfl dX11_goneShare_32 ?_
  refine r_getS E fd_X11_28 (t := 0) (j1 := 39) rfl rfl rfl rfl (Nat.le_of_ble_eq_true rfl) (adr_lt (Nat.le_of_ble_eq_true rfl)) dX11_goneShare_33 ?_
  refine r_iload_n E x3 rfl dX11_goneShare_36 ?_
  obtain ⟨i2, hw⟩ := hw
  refine r_zald E rfl rfl rfl (Nat.le_of_ble_eq_true rfl) (adr_lt (Nat.le_of_ble_eq_true rfl)) i2 dX11_goneShare_37 ?_
  refine r_if_eq E 54 (by decide) dX11_goneShare_38 (fun c3 => ?_) (fun c3 => ?_)
  · have hw := ite_t hw c3
    exact GG_weak [true, false, true, true] rfl (t_X11_goneShare_b54 h v1 x3 x1 E hE P6 hP6  hw)
  · have hw := ite_f hw c3
    refine r_aload_n E 11 0 rfl dX11_goneShare_41 ?_
    refine r_getS E fd_X11_32 (t := 0) (j1 := 40) rfl rfl rfl rfl (Nat.le_of_ble_eq_true rfl) (adr_lt (Nat.le_of_ble_eq_true rfl)) dX11_goneShare_42 ?_
    refine r_iload_n E x3 rfl dX11_goneShare_45 ?_
    refine r_zald E rfl rfl rfl (Nat.le_of_ble_eq_true rfl) (adr_lt (Nat.le_of_ble_eq_true rfl)) i2 dX11_goneShare_46 ?_
    refine r_if_eq E 54 (by decide) dX11_goneShare_47 (fun c4 => ?_) (fun c4 => ?_)
    · have hw := ite_t hw c4
      exact GG_weak [true, false, true, true] rfl (t_X11_goneShare_b54 h v1 x3 x1 E hE P6 hP6  hw)
    · have hw := ite_f hw c4
      refine r_iconst E 1 rfl dX11_goneShare_50 ?_
      refine r_goto E 55 (by decide) dX11_goneShare_51 ?_
      exact GG_weak [true, false, true, true] rfl (t_X11_goneShare_b55 h v1 x3 x1 1 E hE P6 hP6  hw)
set_option maxRecDepth 20000 in
theorem t_X11_goneShare_b6F {X : Ctx} (h : Hp) (x1 : Int32) (x2 : Int32) (x3 : Int32)  (E : EE X cX11_goneShare RX11 4 1 24 0 0) {Q : UInt32 → Hp → Prop} (hE : ENDf X cX11_goneShare Q NT 0 0)  (P6 : Int32 → Int32 → Int32 → Hp → Prop) (hP6 : ∀ (y1 : Int32) (y2 : Int32) (y3 : Int32) (u : Hp), P6 y1 y2 y3 u → GG X 0 0 NT u [some (rf X 11 0), some (.int y1), some (.int y2), some (.int y3)] 6 []) (hw : wp_X11_goneShare_b6F    Q P6 x1 x2 x3 h) : GG X 0 0 NT h [some (rf X 11 0), some (.int x1), some (.int x2), some (.int x3)] 6 [] := by
  unfold wp_X11_goneShare_b6F at hw
  refine r_iload_n E x3 rfl dX11_goneShare_6 ?_
  refine r_aload_n E 11 0 rfl dX11_goneShare_7 ?_
  refine r_getI E fd_X11_151 rfl (Nat.le_of_ble_eq_true rfl) (adr_lt (Nat.le_of_ble_eq_true rfl)) dX11_goneShare_8 ?_
  refine r_icmp_ge E 63 (by decide) dX11_goneShare_11 (fun c1 => ?_) (fun c1 => ?_)
  · have hw := ite_t hw c1
    refine r_aload_n E 11 0 rfl dX11_goneShare_63 ?_
    refine r_iload_n E x2 rfl dX11_goneShare_64 ?_
    refine r_if_ne E 72 (by decide) dX11_goneShare_65 (fun c2 => ?_) (fun c2 => ?_)
    · have hw := ite_t hw c2
      refine r_iconst E 1 rfl dX11_goneShare_68 ?_
      refine r_goto E 73 (by decide) dX11_goneShare_69 ?_
      exact GG_weak [true, true, true, false] rfl (t_X11_goneShare_b73 h x1 x2 1 E hE  hw)
    · have hw := ite_f hw c2
      refine r_iconst E 0 rfl dX11_goneShare_72 ?_
      exact GG_weak [true, true, true, false] rfl (t_X11_goneShare_b73 h x1 x2 0 E hE  hw)
  · have hw := ite_f hw c1
    refine r_iload_n E x2 rfl dX11_goneShare_14 ?_
    refine r_aload_n E 11 0 rfl dX11_goneShare_15 ?_
    refine r_getS E fd_X11_28 (t := 0) (j1 := 39) rfl rfl rfl rfl (Nat.le_of_ble_eq_true rfl) (adr_lt (Nat.le_of_ble_eq_true rfl)) dX11_goneShare_16 ?_
    refine r_iload_n E x3 rfl dX11_goneShare_19 ?_
    obtain ⟨i3, hw⟩ := hw
    refine r_zald E rfl rfl rfl (Nat.le_of_ble_eq_true rfl) (adr_lt (Nat.le_of_ble_eq_true rfl)) i3 dX11_goneShare_20 ?_
    refine r_if_eq E 28 (by decide) dX11_goneShare_21 (fun c4 => ?_) (fun c4 => ?_)
    · have hw := ite_t hw c4
      refine r_iconst E 0 rfl dX11_goneShare_28 ?_
      exact GG_weak [true, true, false, true] rfl (t_X11_goneShare_b29 h x1 x3 x2 0 E hE P6 hP6  hw)
    · have hw := ite_f hw c4
      refine r_iconst E 1 rfl dX11_goneShare_24 ?_
      refine r_goto E 29 (by decide) dX11_goneShare_25 ?_
      exact GG_weak [true, true, false, true] rfl (t_X11_goneShare_b29 h x1 x3 x2 1 E hE P6 hP6  hw)
set_option maxRecDepth 20000 in
theorem t_X11_goneShare_b6 {X : Ctx} (h : Hp) (x1 : Int32) (x2 : Int32) (x3 : Int32)  (E : EE X cX11_goneShare RX11 4 1 24 0 0) {Q : UInt32 → Hp → Prop} (hE : ENDf X cX11_goneShare Q NT 0 0)  (hw : wp_X11_goneShare_b6 x1 x2 x3 h  Q) : GG X 0 0 NT h [some (rf X 11 0), some (.int x1), some (.int x2), some (.int x3)] 6 [] :=
  hw (fun y1 y2 y3 u => GG X 0 0 NT u [some (rf X 11 0), some (.int y1), some (.int y2), some (.int y3)] 6 []) (fun y1 y2 y3 u hq => t_X11_goneShare_b6F u y1 y2 y3  E hE  (fun y1 y2 y3 u => GG X 0 0 NT u [some (rf X 11 0), some (.int y1), some (.int y2), some (.int y3)] 6 []) (fun y1 y2 y3 u q => q) hq)
set_option maxRecDepth 20000 in
theorem m_X11_goneShare {l : Launch} (hl : l.stackTraces = false) (G : Gq)   (h : Hp) (Q : UInt32 → Hp → Prop) (hw : wp_X11_goneShare  h Q) : MF l G yX11_goneShare cX11_goneShare 4 (some .float) rm_X11_goneShare NT NT h (fun r => [r 11 0]) Q := by
  refine MF_of (L0 := (fun X => [some (rf X 11 0), none, none, none])) hl (by decide +kernel) rfl (fun _ => Nat.le_of_ble_eq_true rfl) (fun _ => rfl) fun X hXl hXG E hE => ?_
  subst hXl; subst hXG
  unfold wp_X11_goneShare at hw
  refine r_iconst E 0 rfl dX11_goneShare_0 ?_
  refine r_istore_n E [some (rf X 11 0), some (.int 0), none, none] rfl (Nat.le_of_ble_eq_true rfl) rfl dX11_goneShare_1 ?_
  refine r_iconst E 0 rfl dX11_goneShare_2 ?_
  refine r_istore_n E [some (rf X 11 0), some (.int 0), some (.int 0), none] rfl (Nat.le_of_ble_eq_true rfl) rfl dX11_goneShare_3 ?_
  refine r_iconst E 0 rfl dX11_goneShare_4 ?_
  refine r_istore_n E [some (rf X 11 0), some (.int 0), some (.int 0), some (.int 0)] rfl (Nat.le_of_ble_eq_true rfl) rfl dX11_goneShare_5 ?_
  exact GG_weak [true, true, true, true] rfl (t_X11_goneShare_b6 h 0 0 0 E hE  hw)
set_option maxRecDepth 20000 in
theorem t_X11_meanSize_b88 {X : Ctx} (h : Hp) (x2 : Int32) (x3 : Int32) (s1 : Int32)  (E : EE X cX11_meanSize RX11 5 2 46 0 0) {Q : UInt64 → Hp → Prop} (hE : ENDd X cX11_meanSize Q NT 0 0)  (hw : wp_X11_meanSize_b88 x2 x3 s1 h  Q) : GG X 0 0 NT h [some (rf X 11 0), none, some (.int x2), some (.int x3), none] 88 [.int s1, rf X 11 0] := by
  unfold wp_X11_meanSize_b88 at hw
  refine r_putI E fd_X11_138 rfl PI_int (Nat.le_of_ble_eq_true rfl) (adr_lt (Nat.le_of_ble_eq_true rfl)) rfl dX11_meanSize_88 ?_
  refine GG_toph fun h1 hh1 => ?_
  have hw := hw h1 hh1
  refine r_aload_n E 11 0 rfl dX11_meanSize_91 ?_
  refine r_getI E fd_X11_138 rfl (Nat.le_of_ble_eq_true rfl) (adr_lt (Nat.le_of_ble_eq_true rfl)) dX11_meanSize_92 ?_
  refine r_if_le E 102 (by decide) dX11_meanSize_95 (fun c2 => ?_) (fun c2 => ?_)
  · have hw := ite_t hw c2
    refine r_iload_n E x3 rfl dX11_meanSize_102 ?_
    refine r_i2d E dX11_meanSize_103 ?_
    refine r_iload_n E x2 rfl dX11_meanSize_104 ?_
    refine r_i2d E dX11_meanSize_105 ?_
    obtain ⟨n3, hw⟩ := hw
    refine r_ddiv E n3 dX11_meanSize_106 ?_
    exact hE _ _ _ _ _ _ (Nat.le_of_ble_eq_true rfl) (Nat.le_of_ble_eq_true rfl) dX11_meanSize_107 hw
  · have hw := ite_f hw c2
    refine r_dconst0 E dX11_meanSize_98 ?_
    refine r_goto E 107 (by decide) dX11_meanSize_99 ?_
    exact hE _ _ _ _ _ _ (Nat.le_of_ble_eq_true rfl) (Nat.le_of_ble_eq_true rfl) dX11_meanSize_107 hw
set_option maxRecDepth 20000 in
theorem t_X11_meanSize_b56 {X : Ctx} (h : Hp) (x1 : Int32) (x2 : Int32) (x4 : Int32) (s0 : Int32) (s1 : Int32)  (E : EE X cX11_meanSize RX11 5 2 46 0 0) {Q : UInt64 → Hp → Prop} (hE : ENDd X cX11_meanSize Q NT 0 0) (P7 : Int32 → Int32 → Int32 → Hp → Prop) (hP7 : ∀ (y2 : Int32) (y3 : Int32) (y4 : Int32) (u : Hp), P7 y2 y3 y4 u → GG X 0 0 NT u [some (rf X 11 0), some (.int x1), some (.int y2), some (.int y3), some (.int y4)] 7 []) (hw : wp_X11_meanSize_b56 x1 x2 x4 s0 s1 h P7 Q) : GG X 0 0 NT h [some (rf X 11 0), some (.int x1), some (.int x2), none, some (.int x4)] 56 [.int s1, .int s0] := by
  unfold wp_X11_meanSize_b56 at hw
  refine r_iadd E dX11_meanSize_56 ?_
  refine GG_topI fun v1 hv1 => ?_
  have hw := hw v1 hv1
  refine r_istore_n E [some (rf X 11 0), some (.int x1), some (.int x2), some (.int v1), some (.int x4)] rfl (Nat.le_of_ble_eq_true rfl) rfl dX11_meanSize_57 ?_
  obtain ⟨v2, hv2⟩ : ∃ y : Int32, y = x4 + 1 := ⟨_, rfl⟩
  have hw := hw v2 hv2
  refine r_iinc E x4 v2 [some (rf X 11 0), some (.int x1), some (.int x2), some (.int v1), some (.int v2)] rfl (by rw [hv2]; rfl) (Nat.le_of_ble_eq_true rfl) rfl dX11_meanSize_58 ?_
  refine r_goto E 7 (by decide) dX11_meanSize_61 ?_
  exact GG_weak [true, true, true, true, true] rfl (hP7 _ _ _ _ hw)
set_option maxRecDepth 20000 in
theorem t_X11_meanSize_b32 {X : Ctx} (h : Hp) (x1 : Int32) (x3 : Int32) (x4 : Int32) (s0 : Int32) (s1 : Int32)  (E : EE X cX11_meanSize RX11 5 2 46 0 0) {Q : UInt64 → Hp → Prop} (hE : ENDd X cX11_meanSize Q NT 0 0) (P7 : Int32 → Int32 → Int32 → Hp → Prop) (hP7 : ∀ (y2 : Int32) (y3 : Int32) (y4 : Int32) (u : Hp), P7 y2 y3 y4 u → GG X 0 0 NT u [some (rf X 11 0), some (.int x1), some (.int y2), some (.int y3), some (.int y4)] 7 []) (hw : wp_X11_meanSize_b32 x1 x3 x4 s0 s1 h P7 Q) : GG X 0 0 NT h [some (rf X 11 0), some (.int x1), none, some (.int x3), some (.int x4)] 32 [.int s1, .int s0] := by
  unfold wp_X11_meanSize_b32 at hw
  refine r_iadd E dX11_meanSize_32 ?_
  refine GG_topI fun v1 hv1 => ?_
  have hw := hw v1 hv1
  refine r_istore_n E [some (rf X 11 0), some (.int x1), some (.int v1), some (.int x3), some (.int x4)] rfl (Nat.le_of_ble_eq_true rfl) rfl dX11_meanSize_33 ?_
  refine r_iload_n E x3 rfl dX11_meanSize_34 ?_
  refine r_aload_n E 11 0 rfl dX11_meanSize_35 ?_
  refine r_iload E x4 rfl dX11_meanSize_36 ?_
  refine r_iload_n E x1 rfl dX11_meanSize_38 ?_
  refine r_callVI E (m_X11_isIn (EE_st E) (GX X) x4 x1 h _ hw) lk_X11_157 (RM_mk (Nat.le_of_ble_eq_true rfl) (Nat.le_of_ble_eq_true rfl)) rfl rfl rfl rfl (Nat.le_of_ble_eq_true rfl) (adr_lt (Nat.le_of_ble_eq_true rfl)) (Nat.le_of_ble_eq_true rfl) rfl rfl (Nat.le_of_ble_eq_true rfl) (Nat.le_of_ble_eq_true rfl) dX11_meanSize_39 (fun r2 u9 hw => ?_)
  obtain ⟨rfl, zr2, hw⟩ := hw
  refine r_if_eq E 55 (by decide) dX11_meanSize_42 (fun c3 => ?_) (fun c3 => ?_)
  · have hw := ite_t hw c3
    refine r_iconst E 0 rfl dX11_meanSize_55 ?_
    exact GG_weak [true, true, true, false, true] rfl (t_X11_meanSize_b56 h x1 v1 x4 x3 0 E hE P7 hP7  hw)
  · have hw := ite_f hw c3
    refine r_aload_n E 11 0 rfl dX11_meanSize_45 ?_
    refine r_getS E fd_X11_22 (t := 0) (j1 := 37) rfl rfl rfl rfl (Nat.le_of_ble_eq_true rfl) (adr_lt (Nat.le_of_ble_eq_true rfl)) dX11_meanSize_46 ?_
    refine r_iload E x4 rfl dX11_meanSize_49 ?_
    obtain ⟨i4, hw⟩ := hw
    refine r_iald E rfl rfl rfl (Nat.le_of_ble_eq_true rfl) (adr_lt (Nat.le_of_ble_eq_true rfl)) i4 dX11_meanSize_51 ?_
    refine r_goto E 56 (by decide) dX11_meanSize_52 ?_
    exact GG_weak [true, true, true, false, true] rfl (t_X11_meanSize_b56 h x1 v1 x4 x3 (gI h 37 0 x4.toNatClampNeg) E hE P7 hP7  hw)
set_option maxRecDepth 20000 in
theorem t_X11_meanSize_b7F {X : Ctx} (h : Hp) (x1 : Int32) (x2 : Int32) (x3 : Int32) (x4 : Int32)  (E : EE X cX11_meanSize RX11 5 2 46 0 0) {Q : UInt64 → Hp → Prop} (hE : ENDd X cX11_meanSize Q NT 0 0)  (P7 : Int32 → Int32 → Int32 → Hp → Prop) (hP7 : ∀ (y2 : Int32) (y3 : Int32) (y4 : Int32) (u : Hp), P7 y2 y3 y4 u → GG X 0 0 NT u [some (rf X 11 0), some (.int x1), some (.int y2), some (.int y3), some (.int y4)] 7 []) (hw : wp_X11_meanSize_b7F x1   Q P7 x2 x3 x4 h) : GG X 0 0 NT h [some (rf X 11 0), some (.int x1), some (.int x2), some (.int x3), some (.int x4)] 7 [] := by
  unfold wp_X11_meanSize_b7F at hw
  refine r_iload E x4 rfl dX11_meanSize_7 ?_
  refine r_aload_n E 11 0 rfl dX11_meanSize_9 ?_
  refine r_getI E fd_X11_151 rfl (Nat.le_of_ble_eq_true rfl) (adr_lt (Nat.le_of_ble_eq_true rfl)) dX11_meanSize_10 ?_
  refine r_icmp_ge E 64 (by decide) dX11_meanSize_13 (fun c1 => ?_) (fun c1 => ?_)
  · have hw := ite_t hw c1
    refine r_aload_n E 11 0 rfl dX11_meanSize_64 ?_
    refine r_iload_n E x1 rfl dX11_meanSize_65 ?_
    refine r_iconst E 0 rfl dX11_meanSize_66 ?_
    refine r_bipush E 7 rfl dX11_meanSize_67 ?_
    refine r_callSI E (m_X11_in (EE_st E) (GX X) x1 0 7 h _ hw) lk_X11_142 (RM_mk (Nat.le_of_ble_eq_true rfl) (Nat.le_of_ble_eq_true rfl)) rfl rfl rfl rfl (Nat.le_of_ble_eq_true rfl) rfl rfl (Nat.le_of_ble_eq_true rfl) (Nat.le_of_ble_eq_true rfl) dX11_meanSize_69 (fun r2 u9 hw => ?_)
    obtain ⟨rfl, zr2, hw⟩ := hw
    refine r_if_ne E 79 (by decide) dX11_meanSize_72 (fun c3 => ?_) (fun c3 => ?_)
    · have hw := ite_t hw c3
      refine r_iconst E 1 rfl dX11_meanSize_75 ?_
      refine r_goto E 88 (by decide) dX11_meanSize_76 ?_
      exact GG_weak [true, false, true, true, false] rfl (t_X11_meanSize_b88 h x2 x3 1 E hE  hw)
    · have hw := ite_f hw c3
      refine r_iload_n E x2 rfl dX11_meanSize_79 ?_
      refine r_if_ne E 87 (by decide) dX11_meanSize_80 (fun c4 => ?_) (fun c4 => ?_)
      · have hw := ite_t hw c4
        refine r_iconst E 2 rfl dX11_meanSize_83 ?_
        refine r_goto E 88 (by decide) dX11_meanSize_84 ?_
        exact GG_weak [true, false, true, true, false] rfl (t_X11_meanSize_b88 h x2 x3 2 E hE  hw)
      · have hw := ite_f hw c4
        refine r_iconst E 0 rfl dX11_meanSize_87 ?_
        exact GG_weak [true, false, true, true, false] rfl (t_X11_meanSize_b88 h x2 x3 0 E hE  hw)
  · have hw := ite_f hw c1
    refine r_iload_n E x2 rfl dX11_meanSize_16 ?_
    refine r_aload_n E 11 0 rfl dX11_meanSize_17 ?_
    refine r_iload E x4 rfl dX11_meanSize_18 ?_
    refine r_iload_n E x1 rfl dX11_meanSize_20 ?_
    refine r_callVI E (m_X11_isIn (EE_st E) (GX X) x4 x1 h _ hw) lk_X11_157 (RM_mk (Nat.le_of_ble_eq_true rfl) (Nat.le_of_ble_eq_true rfl)) rfl rfl rfl rfl (Nat.le_of_ble_eq_true rfl) (adr_lt (Nat.le_of_ble_eq_true rfl)) (Nat.le_of_ble_eq_true rfl) rfl rfl (Nat.le_of_ble_eq_true rfl) (Nat.le_of_ble_eq_true rfl) dX11_meanSize_21 (fun r5 u9 hw => ?_)
    obtain ⟨rfl, zr5, hw⟩ := hw
    refine r_if_eq E 31 (by decide) dX11_meanSize_24 (fun c6 => ?_) (fun c6 => ?_)
    · have hw := ite_t hw c6
      refine r_iconst E 0 rfl dX11_meanSize_31 ?_
      exact GG_weak [true, true, false, true, true] rfl (t_X11_meanSize_b32 h x1 x3 x4 x2 0 E hE P7 hP7  hw)
    · have hw := ite_f hw c6
      refine r_iconst E 1 rfl dX11_meanSize_27 ?_
      refine r_goto E 32 (by decide) dX11_meanSize_28 ?_
      exact GG_weak [true, true, false, true, true] rfl (t_X11_meanSize_b32 h x1 x3 x4 x2 1 E hE P7 hP7  hw)
set_option maxRecDepth 20000 in
theorem t_X11_meanSize_b7 {X : Ctx} (h : Hp) (x1 : Int32) (x2 : Int32) (x3 : Int32) (x4 : Int32)  (E : EE X cX11_meanSize RX11 5 2 46 0 0) {Q : UInt64 → Hp → Prop} (hE : ENDd X cX11_meanSize Q NT 0 0)  (hw : wp_X11_meanSize_b7 x1 x2 x3 x4 h  Q) : GG X 0 0 NT h [some (rf X 11 0), some (.int x1), some (.int x2), some (.int x3), some (.int x4)] 7 [] :=
  hw (fun y2 y3 y4 u => GG X 0 0 NT u [some (rf X 11 0), some (.int x1), some (.int y2), some (.int y3), some (.int y4)] 7 []) (fun y2 y3 y4 u hq => t_X11_meanSize_b7F u x1 y2 y3 y4  E hE  (fun y2 y3 y4 u => GG X 0 0 NT u [some (rf X 11 0), some (.int x1), some (.int y2), some (.int y3), some (.int y4)] 7 []) (fun y2 y3 y4 u q => q) hq)
set_option maxRecDepth 20000 in
theorem m_X11_meanSize {l : Launch} (hl : l.stackTraces = false) (G : Gq) (p0 : Int32)  (h : Hp) (Q : UInt64 → Hp → Prop) (hw : wp_X11_meanSize p0 h Q) : MD l G yX11_meanSize cX11_meanSize 5 (some .double) rm_X11_meanSize NT NT h (fun r => [r 11 0, .int p0]) Q := by
  refine MD_of (L0 := (fun X => [some (rf X 11 0), some (.int p0), none, none, none])) hl (by decide +kernel) rfl (fun _ => Nat.le_of_ble_eq_true rfl) (fun _ => rfl) fun X hXl hXG E hE => ?_
  subst hXl; subst hXG
  unfold wp_X11_meanSize at hw
  refine r_iconst E 0 rfl dX11_meanSize_0 ?_
  refine r_istore_n E [some (rf X 11 0), some (.int p0), some (.int 0), none, none] rfl (Nat.le_of_ble_eq_true rfl) rfl dX11_meanSize_1 ?_
  refine r_iconst E 0 rfl dX11_meanSize_2 ?_
  refine r_istore_n E [some (rf X 11 0), some (.int p0), some (.int 0), some (.int 0), none] rfl (Nat.le_of_ble_eq_true rfl) rfl dX11_meanSize_3 ?_
  refine r_iconst E 0 rfl dX11_meanSize_4 ?_
  refine r_istore E [some (rf X 11 0), some (.int p0), some (.int 0), some (.int 0), some (.int 0)] (Nat.le_of_ble_eq_true rfl) rfl dX11_meanSize_5 ?_
  exact GG_weak [true, true, true, true, true] rfl (t_X11_meanSize_b7 h p0 0 0 0 E hE  hw)
set_option maxRecDepth 20000 in
theorem m_X11_isTrue {l : Launch} (hl : l.stackTraces = false) (G : Gq)   (h : Hp) (Q : Int32 → Hp → Prop) (hw : wp_X11_isTrue  h Q) : MI l G yX11_isTrue cX11_isTrue 1 (some .boolean) rm_X11_isTrue NT NT h (fun r => [r 11 0]) (fun r u => isB r ∧ Q r u) := by
  refine MI_of (L0 := (fun X => [some (rf X 11 0)])) hl (by decide +kernel) rfl (fun _ => Nat.le_of_ble_eq_true rfl) (fun _ => rfl) fun X hXl hXG E hE => ?_
  subst hXl; subst hXG
  unfold wp_X11_isTrue at hw
  refine r_aload_n E 11 0 rfl dX11_isTrue_0 ?_
  refine r_iconst E 0 rfl dX11_isTrue_1 ?_
  refine r_putI E fd_X11_138 rfl PI_int (Nat.le_of_ble_eq_true rfl) (adr_lt (Nat.le_of_ble_eq_true rfl)) rfl dX11_isTrue_2 ?_
  refine GG_toph fun h1 hh1 => ?_
  have hw := hw h1 hh1
  refine r_iconst E 1 rfl dX11_isTrue_5 ?_
  exact hE _ _ _ _ _ _ (Nat.le_of_ble_eq_true rfl) (Nat.le_of_ble_eq_true rfl) dX11_isTrue_6 (isB_nar isB_1) ⟨isB_1, hw⟩
